/-! X8.addMark(I)I -/
theorem dX8_addMark_0 : decode cX8_addMark 0 = .ok (.iload_n 1, 1) := by decide +kernel
theorem dX8_addMark_1 : decode cX8_addMark 1 = .ok (.invokestatic 52, 3) := by decide +kernel
theorem dX8_addMark_4 : decode cX8_addMark 4 = .ok (.ifCond .ne 11, 3) := by decide +kernel
theorem dX8_addMark_7 : decode cX8_addMark 7 = .ok (.new 56, 3) := by decide +kernel
theorem dX8_addMark_10 : decode cX8_addMark 10 = .ok (.dup, 1) := by decide +kernel
theorem dX8_addMark_11 : decode cX8_addMark 11 = .ok (.invokespecial 58, 3) := by decide +kernel
theorem dX8_addMark_14 : decode cX8_addMark 14 = .ok (.athrow, 1) := by decide +kernel
theorem dX8_addMark_15 : decode cX8_addMark 15 = .ok (.aload_n 0, 1) := by decide +kernel
theorem dX8_addMark_16 : decode cX8_addMark 16 = .ok (.getfield 10, 3) := by decide +kernel
theorem dX8_addMark_19 : decode cX8_addMark 19 = .ok (.getfield 59, 3) := by decide +kernel
theorem dX8_addMark_22 : decode cX8_addMark 22 = .ok (.bipush 10, 2) := by decide +kernel
theorem dX8_addMark_24 : decode cX8_addMark 24 = .ok (.if_icmp .lt 11, 3) := by decide +kernel
theorem dX8_addMark_27 : decode cX8_addMark 27 = .ok (.new 63, 3) := by decide +kernel
theorem dX8_addMark_30 : decode cX8_addMark 30 = .ok (.dup, 1) := by decide +kernel
theorem dX8_addMark_31 : decode cX8_addMark 31 = .ok (.invokespecial 65, 3) := by decide +kernel
theorem dX8_addMark_34 : decode cX8_addMark 34 = .ok (.athrow, 1) := by decide +kernel
theorem dX8_addMark_35 : decode cX8_addMark 35 = .ok (.aload_n 0, 1) := by decide +kernel
theorem dX8_addMark_36 : decode cX8_addMark 36 = .ok (.getfield 34, 3) := by decide +kernel
theorem dX8_addMark_39 : decode cX8_addMark 39 = .ok (.aload_n 0, 1) := by decide +kernel
theorem dX8_addMark_40 : decode cX8_addMark 40 = .ok (.getfield 10, 3) := by decide +kernel
theorem dX8_addMark_43 : decode cX8_addMark 43 = .ok (.invokevirtual 66, 3) := by decide +kernel
theorem dX8_addMark_46 : decode cX8_addMark 46 = .ok (.aload_n 0, 1) := by decide +kernel
theorem dX8_addMark_47 : decode cX8_addMark 47 = .ok (.getfield 10, 3) := by decide +kernel
theorem dX8_addMark_50 : decode cX8_addMark 50 = .ok (.iload_n 1, 1) := by decide +kernel
theorem dX8_addMark_51 : decode cX8_addMark 51 = .ok (.invokevirtual 69, 3) := by decide +kernel
theorem dX8_addMark_54 : decode cX8_addMark 54 = .ok (.pop, 1) := by decide +kernel
theorem dX8_addMark_55 : decode cX8_addMark 55 = .ok (.aload_n 0, 1) := by decide +kernel
theorem dX8_addMark_56 : decode cX8_addMark 56 = .ok (.getfield 21, 3) := by decide +kernel
theorem dX8_addMark_59 : decode cX8_addMark 59 = .ok (.invokevirtual 72, 3) := by decide +kernel
theorem dX8_addMark_62 : decode cX8_addMark 62 = .ok (.aload_n 0, 1) := by decide +kernel
theorem dX8_addMark_63 : decode cX8_addMark 63 = .ok (.getfield 10, 3) := by decide +kernel
theorem dX8_addMark_66 : decode cX8_addMark 66 = .ok (.getfield 59, 3) := by decide +kernel
theorem dX8_addMark_69 : decode cX8_addMark 69 = .ok (.iconst 1, 1) := by decide +kernel
theorem dX8_addMark_70 : decode cX8_addMark 70 = .ok (.isub, 1) := by decide +kernel
theorem dX8_addMark_71 : decode cX8_addMark 71 = .ok (.ireturn, 1) := by decide +kernel
set_option maxRecDepth 20000 in
theorem ggX8_addMark_X4_renew : GoodIn wsX8_addMark wsX4_renew := goodIn_r _ [50, 51, 52, 53, 54, 55, 56, 57, 58, 59, 60, 61, 62, 63, 64, 65, 66, 67, 68, 69, 70, 71, 72, 73, 74, 75, 76, 77, 78, 79, 80, 81, 82, 83, 84, 85, 86, 87, 88, 89, 11, 90, 91, 92, 93, 94, 95, 96, 97, 98, 99, 100, 101, 102, 103, 104, 105, 106, 107, 108, 109, 110, 111, 112, 113, 114, 115, 116, 117, 118, 119, 120, 121, 122, 123, 124, 125, 126, 28, 127, 31, 40, 128, 129, 130, 131, 132, 133, 134, 135, 136, 137, 138, 139, 140, 141, 142, 143, 144, 145, 146, 147, 148, 149, 150, 151, 152, 153, 154, 155, 156, 157, 158, 159, 160, 161, 162, 163, 164, 165, 166, 167, 168, 169, 170, 171, 172, 173, 174, 175, 176, 177, 178, 179, 180, 181, 182, 183, 184, 185, 186, 187, 188, 189, 190, 191, 192, 193, 194, 195, 196, 197, 215, 216, 217, 218, 219, 220, 221, 222, 223, 224, 205, 206, 207, 208, 209, 210, 211, 212, 225, 226, 227, 228, 229, 230, 231, 232, 233, 234, 235, 236, 237, 238, 239, 240, 241, 242, 243] (by decide +kernel) (by decide +kernel)
set_option maxRecDepth 20000 in
theorem gX8_addMark_X4_renew : GoodIn wsX8_addMark (wsV RX8 72 RX4 yX4_renew wsX4_renew) := goodIn_app (goodIn_of _ (by decide +kernel)) ggX8_addMark_X4_renew
set_option maxRecDepth 20000 in
theorem ggX8_addMark_X5_putMark : GoodIn wsX8_addMark wsX5_putMark := goodIn_r _ [45, 30, 32, 205, 206, 207, 208, 209, 210, 211, 212] (by decide +kernel) (by decide +kernel)
set_option maxRecDepth 20000 in
theorem gX8_addMark_X5_putMark : GoodIn wsX8_addMark (wsV RX8 69 RX5 yX5_putMark wsX5_putMark) := goodIn_app (goodIn_of _ (by decide +kernel)) ggX8_addMark_X5_putMark
set_option maxRecDepth 20000 in
theorem ggX8_addMark_X1_save : GoodIn wsX8_addMark wsX1_save := goodIn_r _ [18, 19, 20, 21, 22, 23, 17, 24, 25, 26, 27, 28, 29, 30, 31, 32, 33, 34, 35, 36, 37, 38, 39, 40, 41, 213, 214, 205, 206, 207, 208, 209, 210, 211, 212] (by decide +kernel) (by decide +kernel)
set_option maxRecDepth 20000 in
theorem gX8_addMark_X1_save : GoodIn wsX8_addMark (wsV RX8 66 RX1 yX1_save wsX1_save) := goodIn_app (goodIn_of _ (by decide +kernel)) ggX8_addMark_X1_save
set_option maxRecDepth 20000 in
theorem ggX8_addMark_X8_isKnownOrNone : GoodIn wsX8_addMark wsX8_isKnownOrNone := goodIn_r _ [12, 13] (by decide +kernel) (by decide +kernel)
set_option maxRecDepth 20000 in
theorem gX8_addMark_X8_isKnownOrNone : GoodIn wsX8_addMark (va_wsS RX8 52 yX8_isKnownOrNone wsX8_isKnownOrNone) := goodIn_app (goodIn_of _ (by decide +kernel)) ggX8_addMark_X8_isKnownOrNone
def D_X8_addMark : Md := (yX8_addMark, cX8_addMark, 2, (some .int), wsX8_addMark, RX8, { frames := 6, cells := 1, slots := 6, locals := 115 })
theorem nm_X8_addMark : nmD D_X8_addMark 1 := ⟨rfl, by decide +kernel, by decide +kernel, by decide +kernel⟩
theorem hi_X8_addMark_X5 : ∀ w ∈ u_ws RX5 TX5 8, w ∈ wsX8_addMark := by decide +kernel
theorem hi_X8_addMark_X8 : ∀ w ∈ u_ws RX8 TX8 7, w ∈ wsX8_addMark := by decide +kernel
theorem hl_X8_addMark_10 : Cond.fieldLink RX8 10 "LevelLoops" "survey" "LLevelLoops$Survey;" ∈ wsX8_addMark := by decide +kernel
theorem hl_X8_addMark_21 : Cond.fieldLink RX8 21 "LevelLoops" "study" "LLevelLoops$Study;" ∈ wsX8_addMark := by decide +kernel
theorem hl_X8_addMark_34 : Cond.fieldLink RX8 34 "LevelLoops" "history" "LLevelLoops$History;" ∈ wsX8_addMark := by decide +kernel
theorem hl_X8_addMark_59 : Cond.fieldLink RX8 59 "LevelLoops$Survey" "marks" "I" ∈ wsX8_addMark := by decide +kernel
def wp_X8_addMark (x1 : Int32) (w : Wd) (Q : Int32 → Wd → Prop) (X : String → Wd → Prop) : Prop :=
  wp_X8_isKnownOrNone x1 (fun r1 => ((¬ r1 = 0 → (((wi w 0 0 0) < (10 : Int32) → wp_X1_save 0 w (fun w43 => wp_X5_putMark 0 x1 w43 (fun r51 w51 => wp_X4_renew 0 w51 (fun w59 => Q ((wi w59 0 0 0) - (1 : Int32)) w59)))) ∧ (¬ (wi w 0 0 0) < (10 : Int32) → X "java/lang/IllegalStateException" w))) ∧ (r1 = 0 → X "java/lang/IllegalArgumentException" w)))
set_option maxRecDepth 20000 in
theorem ok_throw_X8_addMark_27 {G : Gt} {M : Mx} {Qf : State → Prop} {L : List (Nat × Value)} {w : Wd} {X : String → Wd → Prop} (hC : cx G D_X8_addMark M) (hX : ex G D_X8_addMark M X Qf) (h : X "java/lang/IllegalStateException" w) : jq G D_X8_addMark M Qf 27 L [] w := jq_throw (names := ["java/lang/RuntimeException", "java/lang/Exception"]) dX8_addMark_27 dX8_addMark_30 dX8_addMark_31 dX8_addMark_34 hC hX h (by decide +kernel) (by decide +kernel) (by decide +kernel) (by decide +kernel) (by decide +kernel) (by decide +kernel) (by decide +kernel) (by decide) (by decide)
set_option maxRecDepth 20000 in
theorem ok_throw_X8_addMark_7 {G : Gt} {M : Mx} {Qf : State → Prop} {L : List (Nat × Value)} {w : Wd} {X : String → Wd → Prop} (hC : cx G D_X8_addMark M) (hX : ex G D_X8_addMark M X Qf) (h : X "java/lang/IllegalArgumentException" w) : jq G D_X8_addMark M Qf 7 L [] w := jq_throw (names := ["java/lang/RuntimeException", "java/lang/Exception"]) dX8_addMark_7 dX8_addMark_10 dX8_addMark_11 dX8_addMark_14 hC hX h (by decide +kernel) (by decide +kernel) (by decide +kernel) (by decide +kernel) (by decide +kernel) (by decide +kernel) (by decide +kernel) (by decide) (by decide)
theorem ok_X8_addMark {G : Gt} {M : Mx} {Qf : State → Prop} {x1 : Int32} {w : Wd} {Q : Int32 → Wd → Prop} {X : String → Wd → Prop} (hC : cx G D_X8_addMark M) (he : en G M (qi Q) Qf) (hX : ex G D_X8_addMark M X Qf) (h : wp_X8_addMark x1 w Q X) : jq G D_X8_addMark M Qf 0 [(0, .ref (aD G 0 26)), (1, .int x1)] [] w := by
  unfold wp_X8_addMark at h
  refine jq_iload_n (k0 := 1) dX8_addMark_0 hC rfl rfl ?_
  refine jq_callS (As := [.int x1]) (rest := []) (D' := D_X8_isKnownOrNone) dX8_addMark_1 hC (mt_X8_isKnownOrNone h) gX8_addMark_X8_isKnownOrNone rfl ⟨rfl, rfl, Nat.le_of_ble_eq_true rfl, Nat.le_of_ble_eq_true rfl⟩ nm_X8_isKnownOrNone rfl (Nat.le_of_ble_eq_true rfl) (kIp fun r1 h => ?_)
  refine jq_if_ne (tgt := 15) dX8_addMark_4 hC (by decide) (fun c4 => ?_) (fun c4 => ?_)
  · have h := h.1 c4
    refine jq_aload_n (k0 := 0) dX8_addMark_15 hC rfl rfl ?_
    refine jq_get (k0 := 0) (n := 0) (o := 26) dX8_addMark_16 hC (cl_0 (by decide)) rfl rfl hi_X8_addMark_X8 (by decide) hl_X8_addMark_10 rfl rfl ?_
    refine jq_get (k0 := 0) (n := 0) (o := 0) dX8_addMark_19 hC (cl_0 (by decide)) rfl rfl hi_X8_addMark_X5 (by decide) hl_X8_addMark_59 rfl rfl ?_
    refine jq_bipush (v := (10 : Int32)) dX8_addMark_22 hC (by decide) ?_
    refine jq_icmp_lt (tgt := 35) dX8_addMark_24 hC (by decide) (fun c24 => ?_) (fun c24 => ?_)
    · have h := h.1 c24
      refine jq_aload_n (k0 := 0) dX8_addMark_35 hC rfl rfl ?_
      refine jq_get (k0 := 4) (n := 0) (o := 26) dX8_addMark_36 hC (cl_0 (by decide)) rfl rfl hi_X8_addMark_X8 (by decide) hl_X8_addMark_34 rfl rfl ?_
      refine jq_aload_n (k0 := 0) dX8_addMark_39 hC rfl rfl ?_
      refine jq_get (k0 := 0) (n := 0) (o := 26) dX8_addMark_40 hC (cl_0 (by decide)) rfl rfl hi_X8_addMark_X8 (by decide) hl_X8_addMark_10 rfl rfl ?_
      refine jq_callV (As := [.ref (aD G 0 0)]) (rest := []) (n := 0) (o := 27) (D' := D_X1_save) dX8_addMark_43 hC (cl_0 (by decide)) rfl rfl rfl (mt_X1_save (by omega) h) gX8_addMark_X1_save rfl ⟨rfl, rfl, Nat.le_of_ble_eq_true rfl, Nat.le_of_ble_eq_true rfl⟩ nm_X1_save rfl (Nat.le_of_ble_eq_true rfl) (kV fun w43 h => ?_)
      refine jq_aload_n (k0 := 0) dX8_addMark_46 hC rfl rfl ?_
      refine jq_get (k0 := 0) (n := 0) (o := 26) dX8_addMark_47 hC (cl_0 (by decide)) rfl rfl hi_X8_addMark_X8 (by decide) hl_X8_addMark_10 rfl rfl ?_
      refine jq_iload_n (k0 := 1) dX8_addMark_50 hC rfl rfl ?_
      refine jq_callV (As := [.int x1]) (rest := []) (n := 0) (o := 0) (D' := D_X5_putMark) dX8_addMark_51 hC (cl_0 (by decide)) rfl rfl rfl (mt_X5_putMark (by omega) h) gX8_addMark_X5_putMark rfl ⟨rfl, rfl, Nat.le_of_ble_eq_true rfl, Nat.le_of_ble_eq_true rfl⟩ nm_X5_putMark rfl (Nat.le_of_ble_eq_true rfl) (kI fun r51 w51 h => ?_)
      refine jq_pop dX8_addMark_54 hC rfl ?_
      refine jq_aload_n (k0 := 0) dX8_addMark_55 hC rfl rfl ?_
      refine jq_get (k0 := 1) (n := 0) (o := 26) dX8_addMark_56 hC (cl_0 (by decide)) rfl rfl hi_X8_addMark_X8 (by decide) hl_X8_addMark_21 rfl rfl ?_
      refine jq_callV (As := []) (rest := []) (n := 0) (o := 7) (D' := D_X4_renew) dX8_addMark_59 hC (cl_0 (by decide)) rfl rfl rfl (mt_X4_renew (by omega) h) gX8_addMark_X4_renew rfl ⟨rfl, rfl, Nat.le_of_ble_eq_true rfl, Nat.le_of_ble_eq_true rfl⟩ nm_X4_renew rfl (Nat.le_of_ble_eq_true rfl) (kV fun w59 h => ?_)
      refine jq_aload_n (k0 := 0) dX8_addMark_62 hC rfl rfl ?_
      refine jq_get (k0 := 0) (n := 0) (o := 26) dX8_addMark_63 hC (cl_0 (by decide)) rfl rfl hi_X8_addMark_X8 (by decide) hl_X8_addMark_10 rfl rfl ?_
      refine jq_get (k0 := 0) (n := 0) (o := 0) dX8_addMark_66 hC (cl_0 (by decide)) rfl rfl hi_X8_addMark_X5 (by decide) hl_X8_addMark_59 rfl rfl ?_
      refine jq_iconst (v := (1 : Int32)) dX8_addMark_69 hC (by decide) ?_
      refine jq_isub dX8_addMark_70 hC ?_
      exact jq_iret dX8_addMark_71 hC he rfl ⟨_, rfl, h⟩
    · have h := h.2 c24
      exact ok_throw_X8_addMark_27 hC hX h
  · have h := h.2 c4
    exact ok_throw_X8_addMark_7 hC hX h
theorem mt_X8_addMark {G : Gt} {x1 : Int32} {w : Wd} {Q : Int32 → Wd → Prop} {X : String → Wd → Prop} (h : wp_X8_addMark x1 w Q X) : MtX G D_X8_addMark [.ref (aD G 0 26), .int x1] w (qi Q) X := MtX_of (by decide +kernel) rfl rfl (Nat.le_of_ble_eq_true rfl) (fun M Qf hC he hX => ok_X8_addMark hC he hX h)
/-! X8.know(II)I -/
theorem dX8_know_0 : decode cX8_know 0 = .ok (.aload_n 0, 1) := by decide +kernel
theorem dX8_know_1 : decode cX8_know 1 = .ok (.getfield 10, 3) := by decide +kernel
theorem dX8_know_4 : decode cX8_know 4 = .ok (.iload_n 1, 1) := by decide +kernel
theorem dX8_know_5 : decode cX8_know 5 = .ok (.invokevirtual 75, 3) := by decide +kernel
theorem dX8_know_8 : decode cX8_know 8 = .ok (.ifCond .ne 11, 3) := by decide +kernel
theorem dX8_know_11 : decode cX8_know 11 = .ok (.new 78, 3) := by decide +kernel
theorem dX8_know_14 : decode cX8_know 14 = .ok (.dup, 1) := by decide +kernel
theorem dX8_know_15 : decode cX8_know 15 = .ok (.invokespecial 80, 3) := by decide +kernel
theorem dX8_know_18 : decode cX8_know 18 = .ok (.athrow, 1) := by decide +kernel
theorem dX8_know_19 : decode cX8_know 19 = .ok (.iload_n 2, 1) := by decide +kernel
theorem dX8_know_20 : decode cX8_know 20 = .ok (.invokestatic 52, 3) := by decide +kernel
theorem dX8_know_23 : decode cX8_know 23 = .ok (.ifCond .ne 11, 3) := by decide +kernel
theorem dX8_know_26 : decode cX8_know 26 = .ok (.new 56, 3) := by decide +kernel
theorem dX8_know_29 : decode cX8_know 29 = .ok (.dup, 1) := by decide +kernel
theorem dX8_know_30 : decode cX8_know 30 = .ok (.invokespecial 58, 3) := by decide +kernel
theorem dX8_know_33 : decode cX8_know 33 = .ok (.athrow, 1) := by decide +kernel
theorem dX8_know_34 : decode cX8_know 34 = .ok (.aload_n 0, 1) := by decide +kernel
theorem dX8_know_35 : decode cX8_know 35 = .ok (.getfield 34, 3) := by decide +kernel
theorem dX8_know_38 : decode cX8_know 38 = .ok (.aload_n 0, 1) := by decide +kernel
theorem dX8_know_39 : decode cX8_know 39 = .ok (.getfield 10, 3) := by decide +kernel
theorem dX8_know_42 : decode cX8_know 42 = .ok (.invokevirtual 66, 3) := by decide +kernel
theorem dX8_know_45 : decode cX8_know 45 = .ok (.aload_n 0, 1) := by decide +kernel
theorem dX8_know_46 : decode cX8_know 46 = .ok (.getfield 10, 3) := by decide +kernel
theorem dX8_know_49 : decode cX8_know 49 = .ok (.getfield 81, 3) := by decide +kernel
theorem dX8_know_52 : decode cX8_know 52 = .ok (.iload_n 1, 1) := by decide +kernel
theorem dX8_know_53 : decode cX8_know 53 = .ok (.iaload, 1) := by decide +kernel
theorem dX8_know_54 : decode cX8_know 54 = .ok (.istore_n 3, 1) := by decide +kernel
theorem dX8_know_55 : decode cX8_know 55 = .ok (.aload_n 0, 1) := by decide +kernel
theorem dX8_know_56 : decode cX8_know 56 = .ok (.getfield 10, 3) := by decide +kernel
theorem dX8_know_59 : decode cX8_know 59 = .ok (.getfield 81, 3) := by decide +kernel
theorem dX8_know_62 : decode cX8_know 62 = .ok (.iload_n 1, 1) := by decide +kernel
theorem dX8_know_63 : decode cX8_know 63 = .ok (.iload_n 2, 1) := by decide +kernel
theorem dX8_know_64 : decode cX8_know 64 = .ok (.iastore, 1) := by decide +kernel
theorem dX8_know_65 : decode cX8_know 65 = .ok (.aload_n 0, 1) := by decide +kernel
theorem dX8_know_66 : decode cX8_know 66 = .ok (.getfield 21, 3) := by decide +kernel
theorem dX8_know_69 : decode cX8_know 69 = .ok (.invokevirtual 72, 3) := by decide +kernel
theorem dX8_know_72 : decode cX8_know 72 = .ok (.iload_n 3, 1) := by decide +kernel
theorem dX8_know_73 : decode cX8_know 73 = .ok (.ireturn, 1) := by decide +kernel
set_option maxRecDepth 20000 in
theorem ggX8_know_X4_renew : GoodIn wsX8_know wsX4_renew := goodIn_r _ [50, 51, 52, 53, 54, 55, 56, 57, 58, 59, 60, 61, 62, 63, 64, 65, 66, 67, 68, 69, 70, 71, 72, 73, 74, 75, 76, 77, 78, 79, 80, 81, 82, 83, 84, 85, 86, 87, 88, 89, 17, 90, 91, 92, 93, 94, 95, 96, 97, 98, 99, 100, 101, 102, 103, 104, 105, 106, 107, 108, 109, 110, 111, 112, 113, 114, 115, 116, 117, 118, 119, 120, 121, 122, 123, 124, 125, 126, 12, 127, 35, 44, 128, 129, 130, 131, 132, 133, 134, 135, 136, 137, 138, 139, 140, 141, 142, 143, 144, 145, 146, 147, 148, 149, 150, 151, 152, 153, 154, 155, 156, 157, 158, 159, 160, 161, 162, 163, 164, 165, 166, 167, 168, 169, 170, 171, 172, 173, 174, 175, 176, 177, 178, 179, 180, 181, 182, 183, 184, 185, 186, 187, 188, 189, 190, 191, 192, 193, 194, 195, 196, 197, 215, 216, 217, 218, 219, 220, 221, 222, 223, 224, 205, 206, 207, 208, 209, 210, 211, 212, 225, 226, 227, 228, 229, 230, 231, 232, 233, 234, 235, 236, 237, 238, 239, 240, 241, 242, 243] (by decide +kernel) (by decide +kernel)
set_option maxRecDepth 20000 in
theorem gX8_know_X4_renew : GoodIn wsX8_know (wsV RX8 72 RX4 yX4_renew wsX4_renew) := goodIn_app (goodIn_of _ (by decide +kernel)) ggX8_know_X4_renew
set_option maxRecDepth 20000 in
theorem ggX8_know_X1_save : GoodIn wsX8_know wsX1_save := goodIn_r _ [24, 25, 26, 27, 28, 29, 23, 30, 31, 32, 33, 12, 34, 14, 35, 36, 37, 38, 39, 40, 41, 42, 43, 44, 45, 213, 214, 205, 206, 207, 208, 209, 210, 211, 212] (by decide +kernel) (by decide +kernel)
set_option maxRecDepth 20000 in
theorem gX8_know_X1_save : GoodIn wsX8_know (wsV RX8 66 RX1 yX1_save wsX1_save) := goodIn_app (goodIn_of _ (by decide +kernel)) ggX8_know_X1_save
set_option maxRecDepth 20000 in
theorem ggX8_know_X8_isKnownOrNone : GoodIn wsX8_know wsX8_isKnownOrNone := goodIn_r _ [18, 19] (by decide +kernel) (by decide +kernel)
set_option maxRecDepth 20000 in
theorem gX8_know_X8_isKnownOrNone : GoodIn wsX8_know (va_wsS RX8 52 yX8_isKnownOrNone wsX8_isKnownOrNone) := goodIn_app (goodIn_of _ (by decide +kernel)) ggX8_know_X8_isKnownOrNone
set_option maxRecDepth 20000 in
theorem ggX8_know_X5_hasMark : GoodIn wsX8_know wsX5_hasMark := goodIn_r _ [13, 14, 205, 206, 207, 208, 209, 210, 211, 212] (by decide +kernel) (by decide +kernel)
set_option maxRecDepth 20000 in
theorem gX8_know_X5_hasMark : GoodIn wsX8_know (wsV RX8 75 RX5 yX5_hasMark wsX5_hasMark) := goodIn_app (goodIn_of _ (by decide +kernel)) ggX8_know_X5_hasMark
def D_X8_know : Md := (yX8_know, cX8_know, 4, (some .int), wsX8_know, RX8, { frames := 6, cells := 1, slots := 6, locals := 115 })
theorem nm_X8_know : nmD D_X8_know 2 := ⟨rfl, by decide +kernel, by decide +kernel, by decide +kernel⟩
theorem hi_X8_know_X5 : ∀ w ∈ u_ws RX5 TX5 8, w ∈ wsX8_know := by decide +kernel
theorem hi_X8_know_X8 : ∀ w ∈ u_ws RX8 TX8 7, w ∈ wsX8_know := by decide +kernel
theorem hl_X8_know_10 : Cond.fieldLink RX8 10 "LevelLoops" "survey" "LLevelLoops$Survey;" ∈ wsX8_know := by decide +kernel
theorem hl_X8_know_21 : Cond.fieldLink RX8 21 "LevelLoops" "study" "LLevelLoops$Study;" ∈ wsX8_know := by decide +kernel
theorem hl_X8_know_34 : Cond.fieldLink RX8 34 "LevelLoops" "history" "LLevelLoops$History;" ∈ wsX8_know := by decide +kernel
theorem hl_X8_know_81 : Cond.fieldLink RX8 81 "LevelLoops$Survey" "known" "[I" ∈ wsX8_know := by decide +kernel
def wp_X8_know (x1 : Int32) (x2 : Int32) (w : Wd) (Q : Int32 → Wd → Prop) (X : String → Wd → Prop) : Prop :=
  wp_X5_hasMark 0 x1 w (fun r5 => ((¬ r5 = 0 → wp_X8_isKnownOrNone x2 (fun r20 => ((¬ r20 = 0 → wp_X1_save 0 w (fun w42 => vp_in x1 10 ∧ vp_in x1 10 ∧ (∀ w64 : Wd, w64 = (sI w42 0 1 x1.toNatClampNeg x2) → wp_X4_renew 0 w64 (fun w69 => Q (wi w42 0 1 x1.toNatClampNeg) w69)))) ∧ (r20 = 0 → X "java/lang/IllegalArgumentException" w)))) ∧ (r5 = 0 → X "java/lang/IndexOutOfBoundsException" w)))
set_option maxRecDepth 20000 in
theorem ok_throw_X8_know_26 {G : Gt} {M : Mx} {Qf : State → Prop} {L : List (Nat × Value)} {w : Wd} {X : String → Wd → Prop} (hC : cx G D_X8_know M) (hX : ex G D_X8_know M X Qf) (h : X "java/lang/IllegalArgumentException" w) : jq G D_X8_know M Qf 26 L [] w := jq_throw (names := ["java/lang/RuntimeException", "java/lang/Exception"]) dX8_know_26 dX8_know_29 dX8_know_30 dX8_know_33 hC hX h (by decide +kernel) (by decide +kernel) (by decide +kernel) (by decide +kernel) (by decide +kernel) (by decide +kernel) (by decide +kernel) (by decide) (by decide)
set_option maxRecDepth 20000 in
theorem ok_throw_X8_know_11 {G : Gt} {M : Mx} {Qf : State → Prop} {L : List (Nat × Value)} {w : Wd} {X : String → Wd → Prop} (hC : cx G D_X8_know M) (hX : ex G D_X8_know M X Qf) (h : X "java/lang/IndexOutOfBoundsException" w) : jq G D_X8_know M Qf 11 L [] w := jq_throw (names := ["java/lang/RuntimeException", "java/lang/Exception"]) dX8_know_11 dX8_know_14 dX8_know_15 dX8_know_18 hC hX h (by decide +kernel) (by decide +kernel) (by decide +kernel) (by decide +kernel) (by decide +kernel) (by decide +kernel) (by decide +kernel) (by decide) (by decide)
theorem ok_X8_know {G : Gt} {M : Mx} {Qf : State → Prop} {x1 : Int32} {x2 : Int32} {w : Wd} {Q : Int32 → Wd → Prop} {X : String → Wd → Prop} (hC : cx G D_X8_know M) (he : en G M (qi Q) Qf) (hX : ex G D_X8_know M X Qf) (h : wp_X8_know x1 x2 w Q X) : jq G D_X8_know M Qf 0 [(0, .ref (aD G 0 26)), (1, .int x1), (2, .int x2)] [] w := by
  unfold wp_X8_know at h
  refine jq_aload_n (k0 := 0) dX8_know_0 hC rfl rfl ?_
  refine jq_get (k0 := 0) (n := 0) (o := 26) dX8_know_1 hC (cl_0 (by decide)) rfl rfl hi_X8_know_X8 (by decide) hl_X8_know_10 rfl rfl ?_
  refine jq_iload_n (k0 := 1) dX8_know_4 hC rfl rfl ?_
  refine jq_callV (As := [.int x1]) (rest := []) (n := 0) (o := 0) (D' := D_X5_hasMark) dX8_know_5 hC (cl_0 (by decide)) rfl rfl rfl (mt_X5_hasMark (by omega) h) gX8_know_X5_hasMark rfl ⟨rfl, rfl, Nat.le_of_ble_eq_true rfl, Nat.le_of_ble_eq_true rfl⟩ nm_X5_hasMark rfl (Nat.le_of_ble_eq_true rfl) (kIp fun r5 h => ?_)
  refine jq_if_ne (tgt := 19) dX8_know_8 hC (by decide) (fun c8 => ?_) (fun c8 => ?_)
  · have h := h.1 c8
    refine jq_iload_n (k0 := 2) dX8_know_19 hC rfl rfl ?_
    refine jq_callS (As := [.int x2]) (rest := []) (D' := D_X8_isKnownOrNone) dX8_know_20 hC (mt_X8_isKnownOrNone h) gX8_know_X8_isKnownOrNone rfl ⟨rfl, rfl, Nat.le_of_ble_eq_true rfl, Nat.le_of_ble_eq_true rfl⟩ nm_X8_isKnownOrNone rfl (Nat.le_of_ble_eq_true rfl) (kIp fun r20 h => ?_)
    refine jq_if_ne (tgt := 34) dX8_know_23 hC (by decide) (fun c23 => ?_) (fun c23 => ?_)
    · have h := h.1 c23
      refine jq_aload_n (k0 := 0) dX8_know_34 hC rfl rfl ?_
      refine jq_get (k0 := 4) (n := 0) (o := 26) dX8_know_35 hC (cl_0 (by decide)) rfl rfl hi_X8_know_X8 (by decide) hl_X8_know_34 rfl rfl ?_
      refine jq_aload_n (k0 := 0) dX8_know_38 hC rfl rfl ?_
      refine jq_get (k0 := 0) (n := 0) (o := 26) dX8_know_39 hC (cl_0 (by decide)) rfl rfl hi_X8_know_X8 (by decide) hl_X8_know_10 rfl rfl ?_
      refine jq_callV (As := [.ref (aD G 0 0)]) (rest := []) (n := 0) (o := 27) (D' := D_X1_save) dX8_know_42 hC (cl_0 (by decide)) rfl rfl rfl (mt_X1_save (by omega) h) gX8_know_X1_save rfl ⟨rfl, rfl, Nat.le_of_ble_eq_true rfl, Nat.le_of_ble_eq_true rfl⟩ nm_X1_save rfl (Nat.le_of_ble_eq_true rfl) (kV fun w42 h => ?_)
      refine jq_aload_n (k0 := 0) dX8_know_45 hC rfl rfl ?_
      refine jq_get (k0 := 0) (n := 0) (o := 26) dX8_know_46 hC (cl_0 (by decide)) rfl rfl hi_X8_know_X8 (by decide) hl_X8_know_10 rfl rfl ?_
      refine jq_get (k0 := 2) (n := 0) (o := 0) dX8_know_49 hC (cl_0 (by decide)) rfl rfl hi_X8_know_X5 (by decide) hl_X8_know_81 rfl rfl ?_
      refine jq_iload_n (k0 := 1) dX8_know_52 hC rfl rfl ?_
      obtain ⟨b53, h⟩ := h
      refine jq_iald (n := 0) (o := 1) (j := x1.toNatClampNeg) dX8_know_53 hC (cl_0 (by decide)) rfl b53 rfl ?_
      refine jq_istore_n (L' := [(3, .int (wi w42 0 1 x1.toNatClampNeg)), (0, .ref (aD G 0 26)), (1, .int x1), (2, .int x2)]) dX8_know_54 hC rfl (by decide) rfl ?_
      refine jq_aload_n (k0 := 1) dX8_know_55 hC rfl rfl ?_
      refine jq_get (k0 := 0) (n := 0) (o := 26) dX8_know_56 hC (cl_0 (by decide)) rfl rfl hi_X8_know_X8 (by decide) hl_X8_know_10 rfl rfl ?_
      refine jq_get (k0 := 2) (n := 0) (o := 0) dX8_know_59 hC (cl_0 (by decide)) rfl rfl hi_X8_know_X5 (by decide) hl_X8_know_81 rfl rfl ?_
      refine jq_iload_n (k0 := 2) dX8_know_62 hC rfl rfl ?_
      refine jq_iload_n (k0 := 3) dX8_know_63 hC rfl rfl ?_
      obtain ⟨b64, h⟩ := h
      refine jq_iast (n := 0) (o := 1) (j := x1.toNatClampNeg) dX8_know_64 hC (cl_0 (by decide)) (fun _ => rfl) b64 rfl ?_
      refine jq_w (fun w64 e64 => ?_)
      have h := h w64 e64
      refine jq_aload_n (k0 := 1) dX8_know_65 hC rfl rfl ?_
      refine jq_get (k0 := 1) (n := 0) (o := 26) dX8_know_66 hC (cl_0 (by decide)) rfl rfl hi_X8_know_X8 (by decide) hl_X8_know_21 rfl rfl ?_
      refine jq_callV (As := []) (rest := []) (n := 0) (o := 7) (D' := D_X4_renew) dX8_know_69 hC (cl_0 (by decide)) rfl rfl rfl (mt_X4_renew (by omega) h) gX8_know_X4_renew rfl ⟨rfl, rfl, Nat.le_of_ble_eq_true rfl, Nat.le_of_ble_eq_true rfl⟩ nm_X4_renew rfl (Nat.le_of_ble_eq_true rfl) (kV fun w69 h => ?_)
      refine jq_iload_n (k0 := 0) dX8_know_72 hC rfl rfl ?_
      exact jq_iret dX8_know_73 hC he rfl ⟨_, rfl, h⟩
    · have h := h.2 c23
      exact ok_throw_X8_know_26 hC hX h
  · have h := h.2 c8
    exact ok_throw_X8_know_11 hC hX h
theorem mt_X8_know {G : Gt} {x1 : Int32} {x2 : Int32} {w : Wd} {Q : Int32 → Wd → Prop} {X : String → Wd → Prop} (h : wp_X8_know x1 x2 w Q X) : MtX G D_X8_know [.ref (aD G 0 26), .int x1, .int x2] w (qi Q) X := MtX_of (by decide +kernel) rfl rfl (Nat.le_of_ble_eq_true rfl) (fun M Qf hC he hX => ok_X8_know hC he hX h)
/-! X8.accept(I)I -/
theorem dX8_accept_0 : decode cX8_accept 0 = .ok (.aload_n 0, 1) := by decide +kernel
theorem dX8_accept_1 : decode cX8_accept 1 = .ok (.getfield 10, 3) := by decide +kernel
theorem dX8_accept_4 : decode cX8_accept 4 = .ok (.iload_n 1, 1) := by decide +kernel
theorem dX8_accept_5 : decode cX8_accept 5 = .ok (.invokevirtual 75, 3) := by decide +kernel
theorem dX8_accept_8 : decode cX8_accept 8 = .ok (.ifCond .ne 11, 3) := by decide +kernel
theorem dX8_accept_11 : decode cX8_accept 11 = .ok (.new 78, 3) := by decide +kernel
theorem dX8_accept_14 : decode cX8_accept 14 = .ok (.dup, 1) := by decide +kernel
theorem dX8_accept_15 : decode cX8_accept 15 = .ok (.invokespecial 80, 3) := by decide +kernel
theorem dX8_accept_18 : decode cX8_accept 18 = .ok (.athrow, 1) := by decide +kernel
theorem dX8_accept_19 : decode cX8_accept 19 = .ok (.aload_n 0, 1) := by decide +kernel
theorem dX8_accept_20 : decode cX8_accept 20 = .ok (.getfield 21, 3) := by decide +kernel
theorem dX8_accept_23 : decode cX8_accept 23 = .ok (.getfield 85, 3) := by decide +kernel
theorem dX8_accept_26 : decode cX8_accept 26 = .ok (.iload_n 1, 1) := by decide +kernel
theorem dX8_accept_27 : decode cX8_accept 27 = .ok (.invokevirtual 89, 3) := by decide +kernel
theorem dX8_accept_30 : decode cX8_accept 30 = .ok (.ifCond .ne 11, 3) := by decide +kernel
theorem dX8_accept_33 : decode cX8_accept 33 = .ok (.new 63, 3) := by decide +kernel
theorem dX8_accept_36 : decode cX8_accept 36 = .ok (.dup, 1) := by decide +kernel
theorem dX8_accept_37 : decode cX8_accept 37 = .ok (.invokespecial 65, 3) := by decide +kernel
theorem dX8_accept_40 : decode cX8_accept 40 = .ok (.athrow, 1) := by decide +kernel
theorem dX8_accept_41 : decode cX8_accept 41 = .ok (.aload_n 0, 1) := by decide +kernel
theorem dX8_accept_42 : decode cX8_accept 42 = .ok (.getfield 21, 3) := by decide +kernel
theorem dX8_accept_45 : decode cX8_accept 45 = .ok (.getfield 85, 3) := by decide +kernel
theorem dX8_accept_48 : decode cX8_accept 48 = .ok (.iload_n 1, 1) := by decide +kernel
theorem dX8_accept_49 : decode cX8_accept 49 = .ok (.invokevirtual 94, 3) := by decide +kernel
theorem dX8_accept_52 : decode cX8_accept 52 = .ok (.istore_n 2, 1) := by decide +kernel
theorem dX8_accept_53 : decode cX8_accept 53 = .ok (.iload_n 2, 1) := by decide +kernel
theorem dX8_accept_54 : decode cX8_accept 54 = .ok (.ifCond .lt 9, 3) := by decide +kernel
theorem dX8_accept_57 : decode cX8_accept 57 = .ok (.iload_n 2, 1) := by decide +kernel
theorem dX8_accept_58 : decode cX8_accept 58 = .ok (.ldc 98, 2) := by decide +kernel
theorem dX8_accept_60 : decode cX8_accept 60 = .ok (.if_icmp .le 11, 3) := by decide +kernel
theorem dX8_accept_63 : decode cX8_accept 63 = .ok (.new 63, 3) := by decide +kernel
theorem dX8_accept_66 : decode cX8_accept 66 = .ok (.dup, 1) := by decide +kernel
theorem dX8_accept_67 : decode cX8_accept 67 = .ok (.invokespecial 65, 3) := by decide +kernel
theorem dX8_accept_70 : decode cX8_accept 70 = .ok (.athrow, 1) := by decide +kernel
theorem dX8_accept_71 : decode cX8_accept 71 = .ok (.aload_n 0, 1) := by decide +kernel
theorem dX8_accept_72 : decode cX8_accept 72 = .ok (.getfield 34, 3) := by decide +kernel
theorem dX8_accept_75 : decode cX8_accept 75 = .ok (.aload_n 0, 1) := by decide +kernel
theorem dX8_accept_76 : decode cX8_accept 76 = .ok (.getfield 10, 3) := by decide +kernel
theorem dX8_accept_79 : decode cX8_accept 79 = .ok (.invokevirtual 66, 3) := by decide +kernel
theorem dX8_accept_82 : decode cX8_accept 82 = .ok (.aload_n 0, 1) := by decide +kernel
theorem dX8_accept_83 : decode cX8_accept 83 = .ok (.getfield 10, 3) := by decide +kernel
theorem dX8_accept_86 : decode cX8_accept 86 = .ok (.getfield 81, 3) := by decide +kernel
theorem dX8_accept_89 : decode cX8_accept 89 = .ok (.iload_n 1, 1) := by decide +kernel
theorem dX8_accept_90 : decode cX8_accept 90 = .ok (.iload_n 2, 1) := by decide +kernel
theorem dX8_accept_91 : decode cX8_accept 91 = .ok (.iastore, 1) := by decide +kernel
theorem dX8_accept_92 : decode cX8_accept 92 = .ok (.aload_n 0, 1) := by decide +kernel
theorem dX8_accept_93 : decode cX8_accept 93 = .ok (.getfield 21, 3) := by decide +kernel
theorem dX8_accept_96 : decode cX8_accept 96 = .ok (.invokevirtual 72, 3) := by decide +kernel
theorem dX8_accept_99 : decode cX8_accept 99 = .ok (.iload_n 2, 1) := by decide +kernel
theorem dX8_accept_100 : decode cX8_accept 100 = .ok (.ireturn, 1) := by decide +kernel
set_option maxRecDepth 20000 in
theorem ggX8_accept_X4_renew : GoodIn wsX8_accept wsX4_renew := goodIn_r _ [67, 68, 69, 70, 71, 72, 73, 74, 75, 76, 77, 78, 79, 80, 81, 82, 83, 84, 85, 86, 87, 88, 89, 90, 91, 92, 93, 94, 95, 96, 97, 98, 99, 100, 101, 102, 103, 104, 105, 106, 107, 108, 109, 110, 111, 112, 113, 114, 115, 116, 117, 118, 119, 120, 121, 122, 123, 124, 125, 126, 127, 128, 129, 130, 131, 132, 133, 134, 135, 136, 137, 138, 139, 140, 141, 142, 143, 144, 14, 145, 52, 61, 146, 147, 148, 149, 150, 151, 152, 153, 154, 155, 156, 157, 158, 159, 160, 161, 162, 163, 164, 165, 166, 167, 168, 169, 170, 171, 172, 173, 174, 175, 176, 177, 178, 179, 180, 181, 182, 183, 184, 185, 20, 186, 34, 187, 36, 27, 188, 26, 189, 35, 28, 190, 191, 192, 193, 194, 195, 196, 197, 198, 199, 200, 201, 202, 203, 204, 205, 206, 207, 208, 216, 217, 218, 219, 234, 235, 236, 237, 238, 239, 220, 221, 222, 223, 224, 225, 226, 227, 242, 243, 244, 245, 246, 247, 248, 249, 250, 251, 252, 253, 254, 228, 229, 230, 231, 232, 233] (by decide +kernel) (by decide +kernel)
set_option maxRecDepth 20000 in
theorem gX8_accept_X4_renew : GoodIn wsX8_accept (wsV RX8 72 RX4 yX4_renew wsX4_renew) := goodIn_app (goodIn_of _ (by decide +kernel)) ggX8_accept_X4_renew
set_option maxRecDepth 20000 in
theorem ggX8_accept_X1_save : GoodIn wsX8_accept wsX1_save := goodIn_r _ [41, 42, 43, 44, 45, 46, 40, 47, 48, 49, 50, 14, 51, 16, 52, 53, 54, 55, 56, 57, 58, 59, 60, 61, 62, 240, 241, 220, 221, 222, 223, 224, 225, 226, 227] (by decide +kernel) (by decide +kernel)
set_option maxRecDepth 20000 in
theorem gX8_accept_X1_save : GoodIn wsX8_accept (wsV RX8 66 RX1 yX1_save wsX1_save) := goodIn_app (goodIn_of _ (by decide +kernel)) ggX8_accept_X1_save
set_option maxRecDepth 20000 in
theorem ggX8_accept_X0_of : GoodIn wsX8_accept wsX0_of := goodIn_r _ [32, 33, 34, 35, 36, 22, 23, 24, 20, 25, 26, 27, 28, 228, 229, 230, 231, 232, 233, 220, 221, 222, 223, 224, 225, 226, 227, 234, 235, 236, 237, 238, 239] (by decide +kernel) (by decide +kernel)
set_option maxRecDepth 20000 in
theorem gX8_accept_X0_of : GoodIn wsX8_accept (wsV RX8 94 RX0 yX0_of wsX0_of) := goodIn_app (goodIn_of _ (by decide +kernel)) ggX8_accept_X0_of
set_option maxRecDepth 20000 in
theorem ggX8_accept_X0_isThere : GoodIn wsX8_accept wsX0_isThere := goodIn_r _ [21, 22, 23, 24, 20, 25, 26, 27, 28, 228, 229, 230, 231, 232, 233, 234, 235, 236, 237, 238, 239] (by decide +kernel) (by decide +kernel)
set_option maxRecDepth 20000 in
theorem gX8_accept_X0_isThere : GoodIn wsX8_accept (wsV RX8 89 RX0 yX0_isThere wsX0_isThere) := goodIn_app (goodIn_of _ (by decide +kernel)) ggX8_accept_X0_isThere
set_option maxRecDepth 20000 in
theorem ggX8_accept_X5_hasMark : GoodIn wsX8_accept wsX5_hasMark := goodIn_r _ [15, 16, 220, 221, 222, 223, 224, 225, 226, 227] (by decide +kernel) (by decide +kernel)
set_option maxRecDepth 20000 in
theorem gX8_accept_X5_hasMark : GoodIn wsX8_accept (wsV RX8 75 RX5 yX5_hasMark wsX5_hasMark) := goodIn_app (goodIn_of _ (by decide +kernel)) ggX8_accept_X5_hasMark
def D_X8_accept : Md := (yX8_accept, cX8_accept, 3, (some .int), wsX8_accept, RX8, { frames := 6, cells := 1, slots := 6, locals := 115 })
theorem nm_X8_accept : nmD D_X8_accept 1 := ⟨rfl, by decide +kernel, by decide +kernel, by decide +kernel⟩
theorem hi_X8_accept_X4 : ∀ w ∈ u_ws RX4 TX4 4, w ∈ wsX8_accept := by decide +kernel
theorem hi_X8_accept_X5 : ∀ w ∈ u_ws RX5 TX5 8, w ∈ wsX8_accept := by decide +kernel
theorem hi_X8_accept_X8 : ∀ w ∈ u_ws RX8 TX8 7, w ∈ wsX8_accept := by decide +kernel
theorem hl_X8_accept_10 : Cond.fieldLink RX8 10 "LevelLoops" "survey" "LLevelLoops$Survey;" ∈ wsX8_accept := by decide +kernel
theorem hl_X8_accept_21 : Cond.fieldLink RX8 21 "LevelLoops" "study" "LLevelLoops$Study;" ∈ wsX8_accept := by decide +kernel
theorem hl_X8_accept_34 : Cond.fieldLink RX8 34 "LevelLoops" "history" "LLevelLoops$History;" ∈ wsX8_accept := by decide +kernel
theorem hl_X8_accept_81 : Cond.fieldLink RX8 81 "LevelLoops$Survey" "known" "[I" ∈ wsX8_accept := by decide +kernel
theorem hl_X8_accept_85 : Cond.fieldLink RX8 85 "LevelLoops$Study" "heights" "LLevelLoops$Heights;" ∈ wsX8_accept := by decide +kernel
def wp_X8_accept_J63 (w : Wd) (Q : Int32 → Wd → Prop) (X : String → Wd → Prop) : Prop :=
  X "java/lang/IllegalStateException" w
def wp_X8_accept (x1 : Int32) (w : Wd) (Q : Int32 → Wd → Prop) (X : String → Wd → Prop) : Prop :=
  wp_X5_hasMark 0 x1 w (fun r5 => ((¬ r5 = 0 → wp_X0_isThere 0 x1 w (fun r27 => ((¬ r27 = 0 → wp_X0_of 0 x1 w (fun r49 => ((r49 < 0 → wp_X8_accept_J63 w Q X) ∧ (¬ r49 < 0 → ((r49 ≤ (99999 : Int32) → wp_X1_save 0 w (fun w79 => vp_in x1 10 ∧ (∀ w91 : Wd, w91 = (sI w79 0 1 x1.toNatClampNeg r49) → wp_X4_renew 0 w91 (fun w96 => Q r49 w96)))) ∧ (¬ r49 ≤ (99999 : Int32) → wp_X8_accept_J63 w Q X)))))) ∧ (r27 = 0 → X "java/lang/IllegalStateException" w)))) ∧ (r5 = 0 → X "java/lang/IndexOutOfBoundsException" w)))
set_option maxRecDepth 20000 in
theorem ok_throw_X8_accept_63 {G : Gt} {M : Mx} {Qf : State → Prop} {L : List (Nat × Value)} {w : Wd} {X : String → Wd → Prop} (hC : cx G D_X8_accept M) (hX : ex G D_X8_accept M X Qf) (h : X "java/lang/IllegalStateException" w) : jq G D_X8_accept M Qf 63 L [] w := jq_throw (names := ["java/lang/RuntimeException", "java/lang/Exception"]) dX8_accept_63 dX8_accept_66 dX8_accept_67 dX8_accept_70 hC hX h (by decide +kernel) (by decide +kernel) (by decide +kernel) (by decide +kernel) (by decide +kernel) (by decide +kernel) (by decide +kernel) (by decide) (by decide)
set_option maxRecDepth 20000 in
theorem ok_throw_X8_accept_33 {G : Gt} {M : Mx} {Qf : State → Prop} {L : List (Nat × Value)} {w : Wd} {X : String → Wd → Prop} (hC : cx G D_X8_accept M) (hX : ex G D_X8_accept M X Qf) (h : X "java/lang/IllegalStateException" w) : jq G D_X8_accept M Qf 33 L [] w := jq_throw (names := ["java/lang/RuntimeException", "java/lang/Exception"]) dX8_accept_33 dX8_accept_36 dX8_accept_37 dX8_accept_40 hC hX h (by decide +kernel) (by decide +kernel) (by decide +kernel) (by decide +kernel) (by decide +kernel) (by decide +kernel) (by decide +kernel) (by decide) (by decide)
set_option maxRecDepth 20000 in
theorem ok_throw_X8_accept_11 {G : Gt} {M : Mx} {Qf : State → Prop} {L : List (Nat × Value)} {w : Wd} {X : String → Wd → Prop} (hC : cx G D_X8_accept M) (hX : ex G D_X8_accept M X Qf) (h : X "java/lang/IndexOutOfBoundsException" w) : jq G D_X8_accept M Qf 11 L [] w := jq_throw (names := ["java/lang/RuntimeException", "java/lang/Exception"]) dX8_accept_11 dX8_accept_14 dX8_accept_15 dX8_accept_18 hC hX h (by decide +kernel) (by decide +kernel) (by decide +kernel) (by decide +kernel) (by decide +kernel) (by decide +kernel) (by decide +kernel) (by decide) (by decide)
theorem ok_X8_accept_J63 {G : Gt} {M : Mx} {Qf : State → Prop} {w : Wd} {Q : Int32 → Wd → Prop} {X : String → Wd → Prop} (hC : cx G D_X8_accept M) (he : en G M (qi Q) Qf) (hX : ex G D_X8_accept M X Qf) (h : wp_X8_accept_J63 w Q X) : jq G D_X8_accept M Qf 63 [] [] w := by
  unfold wp_X8_accept_J63 at h
  exact ok_throw_X8_accept_63 hC hX h
theorem ok_X8_accept {G : Gt} {M : Mx} {Qf : State → Prop} {x1 : Int32} {w : Wd} {Q : Int32 → Wd → Prop} {X : String → Wd → Prop} (hC : cx G D_X8_accept M) (he : en G M (qi Q) Qf) (hX : ex G D_X8_accept M X Qf) (h : wp_X8_accept x1 w Q X) : jq G D_X8_accept M Qf 0 [(0, .ref (aD G 0 26)), (1, .int x1)] [] w := by
  unfold wp_X8_accept at h
  refine jq_aload_n (k0 := 0) dX8_accept_0 hC rfl rfl ?_
  refine jq_get (k0 := 0) (n := 0) (o := 26) dX8_accept_1 hC (cl_0 (by decide)) rfl rfl hi_X8_accept_X8 (by decide) hl_X8_accept_10 rfl rfl ?_
  refine jq_iload_n (k0 := 1) dX8_accept_4 hC rfl rfl ?_
  refine jq_callV (As := [.int x1]) (rest := []) (n := 0) (o := 0) (D' := D_X5_hasMark) dX8_accept_5 hC (cl_0 (by decide)) rfl rfl rfl (mt_X5_hasMark (by omega) h) gX8_accept_X5_hasMark rfl ⟨rfl, rfl, Nat.le_of_ble_eq_true rfl, Nat.le_of_ble_eq_true rfl⟩ nm_X5_hasMark rfl (Nat.le_of_ble_eq_true rfl) (kIp fun r5 h => ?_)
  refine jq_if_ne (tgt := 19) dX8_accept_8 hC (by decide) (fun c8 => ?_) (fun c8 => ?_)
  · have h := h.1 c8
    refine jq_aload_n (k0 := 0) dX8_accept_19 hC rfl rfl ?_
    refine jq_get (k0 := 1) (n := 0) (o := 26) dX8_accept_20 hC (cl_0 (by decide)) rfl rfl hi_X8_accept_X8 (by decide) hl_X8_accept_21 rfl rfl ?_
    refine jq_get (k0 := 2) (n := 0) (o := 7) dX8_accept_23 hC (cl_0 (by decide)) rfl rfl hi_X8_accept_X4 (by decide) hl_X8_accept_85 rfl rfl ?_
    refine jq_iload_n (k0 := 1) dX8_accept_26 hC rfl rfl ?_
    refine jq_callV (As := [.int x1]) (rest := []) (n := 0) (o := 22) (D' := D_X0_isThere) dX8_accept_27 hC (cl_0 (by decide)) rfl rfl rfl (mt_X0_isThere (by omega) h) gX8_accept_X0_isThere rfl ⟨rfl, rfl, Nat.le_of_ble_eq_true rfl, Nat.le_of_ble_eq_true rfl⟩ nm_X0_isThere rfl (Nat.le_of_ble_eq_true rfl) (kIp fun r27 h => ?_)
    refine jq_if_ne (tgt := 41) dX8_accept_30 hC (by decide) (fun c30 => ?_) (fun c30 => ?_)
    · have h := h.1 c30
      refine jq_aload_n (k0 := 0) dX8_accept_41 hC rfl rfl ?_
      refine jq_get (k0 := 1) (n := 0) (o := 26) dX8_accept_42 hC (cl_0 (by decide)) rfl rfl hi_X8_accept_X8 (by decide) hl_X8_accept_21 rfl rfl ?_
      refine jq_get (k0 := 2) (n := 0) (o := 7) dX8_accept_45 hC (cl_0 (by decide)) rfl rfl hi_X8_accept_X4 (by decide) hl_X8_accept_85 rfl rfl ?_
      refine jq_iload_n (k0 := 1) dX8_accept_48 hC rfl rfl ?_
      refine jq_callV (As := [.int x1]) (rest := []) (n := 0) (o := 22) (D' := D_X0_of) dX8_accept_49 hC (cl_0 (by decide)) rfl rfl rfl (mt_X0_of (by omega) h) gX8_accept_X0_of rfl ⟨rfl, rfl, Nat.le_of_ble_eq_true rfl, Nat.le_of_ble_eq_true rfl⟩ nm_X0_of rfl (Nat.le_of_ble_eq_true rfl) (kIp fun r49 h => ?_)
      refine jq_istore_n (L' := [(2, .int r49), (0, .ref (aD G 0 26)), (1, .int x1)]) dX8_accept_52 hC rfl (by decide) rfl ?_
      refine jq_iload_n (k0 := 0) dX8_accept_53 hC rfl rfl ?_
      refine jq_if_lt (tgt := 63) dX8_accept_54 hC (by decide) (fun c54 => ?_) (fun c54 => ?_)
      · have h := h.1 c54
        refine jq_less (L' := []) [] rfl ?_
        exact ok_X8_accept_J63 hC he hX h
      · have h := h.2 c54
        refine jq_iload_n (k0 := 0) dX8_accept_57 hC rfl rfl ?_
        refine jq_ldc (v := (99999 : Int32)) dX8_accept_58 hC (by decide +kernel) ?_
        refine jq_icmp_le (tgt := 71) dX8_accept_60 hC (by decide) (fun c60 => ?_) (fun c60 => ?_)
        · have h := h.1 c60
          refine jq_aload_n (k0 := 1) dX8_accept_71 hC rfl rfl ?_
          refine jq_get (k0 := 4) (n := 0) (o := 26) dX8_accept_72 hC (cl_0 (by decide)) rfl rfl hi_X8_accept_X8 (by decide) hl_X8_accept_34 rfl rfl ?_
          refine jq_aload_n (k0 := 1) dX8_accept_75 hC rfl rfl ?_
          refine jq_get (k0 := 0) (n := 0) (o := 26) dX8_accept_76 hC (cl_0 (by decide)) rfl rfl hi_X8_accept_X8 (by decide) hl_X8_accept_10 rfl rfl ?_
          refine jq_callV (As := [.ref (aD G 0 0)]) (rest := []) (n := 0) (o := 27) (D' := D_X1_save) dX8_accept_79 hC (cl_0 (by decide)) rfl rfl rfl (mt_X1_save (by omega) h) gX8_accept_X1_save rfl ⟨rfl, rfl, Nat.le_of_ble_eq_true rfl, Nat.le_of_ble_eq_true rfl⟩ nm_X1_save rfl (Nat.le_of_ble_eq_true rfl) (kV fun w79 h => ?_)
          refine jq_aload_n (k0 := 1) dX8_accept_82 hC rfl rfl ?_
          refine jq_get (k0 := 0) (n := 0) (o := 26) dX8_accept_83 hC (cl_0 (by decide)) rfl rfl hi_X8_accept_X8 (by decide) hl_X8_accept_10 rfl rfl ?_
          refine jq_get (k0 := 2) (n := 0) (o := 0) dX8_accept_86 hC (cl_0 (by decide)) rfl rfl hi_X8_accept_X5 (by decide) hl_X8_accept_81 rfl rfl ?_
          refine jq_iload_n (k0 := 2) dX8_accept_89 hC rfl rfl ?_
          refine jq_iload_n (k0 := 0) dX8_accept_90 hC rfl rfl ?_
          obtain ⟨b91, h⟩ := h
          refine jq_iast (n := 0) (o := 1) (j := x1.toNatClampNeg) dX8_accept_91 hC (cl_0 (by decide)) (fun _ => rfl) b91 rfl ?_
          refine jq_w (fun w91 e91 => ?_)
          have h := h w91 e91
          refine jq_aload_n (k0 := 1) dX8_accept_92 hC rfl rfl ?_
          refine jq_get (k0 := 1) (n := 0) (o := 26) dX8_accept_93 hC (cl_0 (by decide)) rfl rfl hi_X8_accept_X8 (by decide) hl_X8_accept_21 rfl rfl ?_
          refine jq_callV (As := []) (rest := []) (n := 0) (o := 7) (D' := D_X4_renew) dX8_accept_96 hC (cl_0 (by decide)) rfl rfl rfl (mt_X4_renew (by omega) h) gX8_accept_X4_renew rfl ⟨rfl, rfl, Nat.le_of_ble_eq_true rfl, Nat.le_of_ble_eq_true rfl⟩ nm_X4_renew rfl (Nat.le_of_ble_eq_true rfl) (kV fun w96 h => ?_)
          refine jq_iload_n (k0 := 0) dX8_accept_99 hC rfl rfl ?_
          exact jq_iret dX8_accept_100 hC he rfl ⟨_, rfl, h⟩
        · have h := h.2 c60
          refine jq_less (L' := []) [] rfl ?_
          exact ok_X8_accept_J63 hC he hX h
    · have h := h.2 c30
      exact ok_throw_X8_accept_33 hC hX h
  · have h := h.2 c8
    exact ok_throw_X8_accept_11 hC hX h
theorem mt_X8_accept {G : Gt} {x1 : Int32} {w : Wd} {Q : Int32 → Wd → Prop} {X : String → Wd → Prop} (h : wp_X8_accept x1 w Q X) : MtX G D_X8_accept [.ref (aD G 0 26), .int x1] w (qi Q) X := MtX_of (by decide +kernel) rfl rfl (Nat.le_of_ble_eq_true rfl) (fun M Qf hC he hX => ok_X8_accept hC he hX h)
/-! X8.addLeg(IIII)I -/
theorem dX8_addLeg_0 : decode cX8_addLeg 0 = .ok (.aload_n 0, 1) := by decide +kernel
theorem dX8_addLeg_1 : decode cX8_addLeg 1 = .ok (.getfield 10, 3) := by decide +kernel
theorem dX8_addLeg_4 : decode cX8_addLeg 4 = .ok (.iload_n 1, 1) := by decide +kernel
theorem dX8_addLeg_5 : decode cX8_addLeg 5 = .ok (.invokevirtual 75, 3) := by decide +kernel
theorem dX8_addLeg_8 : decode cX8_addLeg 8 = .ok (.ifCond .eq 14, 3) := by decide +kernel
theorem dX8_addLeg_11 : decode cX8_addLeg 11 = .ok (.aload_n 0, 1) := by decide +kernel
theorem dX8_addLeg_12 : decode cX8_addLeg 12 = .ok (.getfield 10, 3) := by decide +kernel
theorem dX8_addLeg_15 : decode cX8_addLeg 15 = .ok (.iload_n 2, 1) := by decide +kernel
theorem dX8_addLeg_16 : decode cX8_addLeg 16 = .ok (.invokevirtual 75, 3) := by decide +kernel
theorem dX8_addLeg_19 : decode cX8_addLeg 19 = .ok (.ifCond .ne 11, 3) := by decide +kernel
theorem dX8_addLeg_22 : decode cX8_addLeg 22 = .ok (.new 78, 3) := by decide +kernel
theorem dX8_addLeg_25 : decode cX8_addLeg 25 = .ok (.dup, 1) := by decide +kernel
theorem dX8_addLeg_26 : decode cX8_addLeg 26 = .ok (.invokespecial 80, 3) := by decide +kernel
theorem dX8_addLeg_29 : decode cX8_addLeg 29 = .ok (.athrow, 1) := by decide +kernel
theorem dX8_addLeg_30 : decode cX8_addLeg 30 = .ok (.iload_n 1, 1) := by decide +kernel
theorem dX8_addLeg_31 : decode cX8_addLeg 31 = .ok (.iload_n 2, 1) := by decide +kernel
theorem dX8_addLeg_32 : decode cX8_addLeg 32 = .ok (.if_icmp .eq 18, 3) := by decide +kernel
theorem dX8_addLeg_35 : decode cX8_addLeg 35 = .ok (.iload_n 3, 1) := by decide +kernel
theorem dX8_addLeg_36 : decode cX8_addLeg 36 = .ok (.invokestatic 99, 3) := by decide +kernel
theorem dX8_addLeg_39 : decode cX8_addLeg 39 = .ok (.ifCond .eq 11, 3) := by decide +kernel
theorem dX8_addLeg_42 : decode cX8_addLeg 42 = .ok (.iload 4, 2) := by decide +kernel
theorem dX8_addLeg_44 : decode cX8_addLeg 44 = .ok (.invokestatic 102, 3) := by decide +kernel
theorem dX8_addLeg_47 : decode cX8_addLeg 47 = .ok (.ifCond .ne 11, 3) := by decide +kernel
theorem dX8_addLeg_50 : decode cX8_addLeg 50 = .ok (.new 56, 3) := by decide +kernel
theorem dX8_addLeg_53 : decode cX8_addLeg 53 = .ok (.dup, 1) := by decide +kernel
theorem dX8_addLeg_54 : decode cX8_addLeg 54 = .ok (.invokespecial 58, 3) := by decide +kernel
theorem dX8_addLeg_57 : decode cX8_addLeg 57 = .ok (.athrow, 1) := by decide +kernel
theorem dX8_addLeg_58 : decode cX8_addLeg 58 = .ok (.aload_n 0, 1) := by decide +kernel
theorem dX8_addLeg_59 : decode cX8_addLeg 59 = .ok (.getfield 10, 3) := by decide +kernel
theorem dX8_addLeg_62 : decode cX8_addLeg 62 = .ok (.getfield 105, 3) := by decide +kernel
theorem dX8_addLeg_65 : decode cX8_addLeg 65 = .ok (.bipush 20, 2) := by decide +kernel
theorem dX8_addLeg_67 : decode cX8_addLeg 67 = .ok (.if_icmp .lt 11, 3) := by decide +kernel
theorem dX8_addLeg_70 : decode cX8_addLeg 70 = .ok (.new 63, 3) := by decide +kernel
theorem dX8_addLeg_73 : decode cX8_addLeg 73 = .ok (.dup, 1) := by decide +kernel
theorem dX8_addLeg_74 : decode cX8_addLeg 74 = .ok (.invokespecial 65, 3) := by decide +kernel
theorem dX8_addLeg_77 : decode cX8_addLeg 77 = .ok (.athrow, 1) := by decide +kernel
theorem dX8_addLeg_78 : decode cX8_addLeg 78 = .ok (.aload_n 0, 1) := by decide +kernel
theorem dX8_addLeg_79 : decode cX8_addLeg 79 = .ok (.getfield 34, 3) := by decide +kernel
theorem dX8_addLeg_82 : decode cX8_addLeg 82 = .ok (.aload_n 0, 1) := by decide +kernel
theorem dX8_addLeg_83 : decode cX8_addLeg 83 = .ok (.getfield 10, 3) := by decide +kernel
theorem dX8_addLeg_86 : decode cX8_addLeg 86 = .ok (.invokevirtual 66, 3) := by decide +kernel
theorem dX8_addLeg_89 : decode cX8_addLeg 89 = .ok (.aload_n 0, 1) := by decide +kernel
theorem dX8_addLeg_90 : decode cX8_addLeg 90 = .ok (.getfield 10, 3) := by decide +kernel
theorem dX8_addLeg_93 : decode cX8_addLeg 93 = .ok (.iload_n 1, 1) := by decide +kernel
theorem dX8_addLeg_94 : decode cX8_addLeg 94 = .ok (.iload_n 2, 1) := by decide +kernel
theorem dX8_addLeg_95 : decode cX8_addLeg 95 = .ok (.iload_n 3, 1) := by decide +kernel
theorem dX8_addLeg_96 : decode cX8_addLeg 96 = .ok (.iload 4, 2) := by decide +kernel
theorem dX8_addLeg_98 : decode cX8_addLeg 98 = .ok (.invokevirtual 108, 3) := by decide +kernel
theorem dX8_addLeg_101 : decode cX8_addLeg 101 = .ok (.pop, 1) := by decide +kernel
theorem dX8_addLeg_102 : decode cX8_addLeg 102 = .ok (.aload_n 0, 1) := by decide +kernel
theorem dX8_addLeg_103 : decode cX8_addLeg 103 = .ok (.getfield 21, 3) := by decide +kernel
theorem dX8_addLeg_106 : decode cX8_addLeg 106 = .ok (.invokevirtual 72, 3) := by decide +kernel
theorem dX8_addLeg_109 : decode cX8_addLeg 109 = .ok (.aload_n 0, 1) := by decide +kernel
theorem dX8_addLeg_110 : decode cX8_addLeg 110 = .ok (.getfield 10, 3) := by decide +kernel
theorem dX8_addLeg_113 : decode cX8_addLeg 113 = .ok (.getfield 105, 3) := by decide +kernel
theorem dX8_addLeg_116 : decode cX8_addLeg 116 = .ok (.iconst 1, 1) := by decide +kernel
theorem dX8_addLeg_117 : decode cX8_addLeg 117 = .ok (.isub, 1) := by decide +kernel
theorem dX8_addLeg_118 : decode cX8_addLeg 118 = .ok (.ireturn, 1) := by decide +kernel
set_option maxRecDepth 20000 in
theorem ggX8_addLeg_X4_renew : GoodIn wsX8_addLeg wsX4_renew := goodIn_r _ [58, 59, 60, 61, 62, 63, 64, 65, 66, 67, 68, 69, 70, 71, 72, 73, 74, 75, 76, 77, 78, 79, 80, 81, 82, 83, 84, 85, 86, 87, 88, 89, 90, 91, 92, 93, 94, 95, 96, 97, 19, 98, 99, 100, 101, 102, 103, 104, 105, 106, 107, 108, 109, 110, 111, 112, 113, 114, 115, 116, 117, 118, 119, 120, 121, 122, 123, 124, 125, 126, 127, 128, 129, 130, 131, 132, 133, 134, 14, 135, 39, 48, 136, 137, 138, 139, 140, 141, 142, 143, 144, 145, 146, 147, 148, 149, 150, 151, 152, 153, 154, 155, 156, 157, 158, 159, 160, 161, 162, 163, 164, 165, 166, 167, 168, 169, 170, 171, 172, 173, 174, 175, 176, 177, 178, 179, 180, 181, 182, 183, 184, 185, 186, 187, 188, 189, 190, 191, 192, 193, 194, 195, 196, 197, 198, 199, 200, 201, 202, 203, 204, 205, 223, 224, 225, 226, 227, 228, 229, 230, 231, 232, 213, 214, 215, 216, 217, 218, 219, 220, 233, 234, 235, 236, 237, 238, 239, 240, 241, 242, 243, 244, 245, 246, 247, 248, 249, 250, 251] (by decide +kernel) (by decide +kernel)
set_option maxRecDepth 20000 in
theorem gX8_addLeg_X4_renew : GoodIn wsX8_addLeg (wsV RX8 72 RX4 yX4_renew wsX4_renew) := goodIn_app (goodIn_of _ (by decide +kernel)) ggX8_addLeg_X4_renew
set_option maxRecDepth 20000 in
theorem ggX8_addLeg_X5_putLeg : GoodIn wsX8_addLeg wsX5_putLeg := goodIn_r _ [53, 39, 45, 46, 47, 48, 213, 214, 215, 216, 217, 218, 219, 220] (by decide +kernel) (by decide +kernel)
set_option maxRecDepth 20000 in
theorem gX8_addLeg_X5_putLeg : GoodIn wsX8_addLeg (wsV RX8 108 RX5 yX5_putLeg wsX5_putLeg) := goodIn_app (goodIn_of _ (by decide +kernel)) ggX8_addLeg_X5_putLeg
set_option maxRecDepth 20000 in
theorem ggX8_addLeg_X1_save : GoodIn wsX8_addLeg wsX1_save := goodIn_r _ [28, 29, 30, 31, 32, 33, 27, 34, 35, 36, 37, 14, 38, 16, 39, 40, 41, 42, 43, 44, 45, 46, 47, 48, 49, 221, 222, 213, 214, 215, 216, 217, 218, 219, 220] (by decide +kernel) (by decide +kernel)
set_option maxRecDepth 20000 in
theorem gX8_addLeg_X1_save : GoodIn wsX8_addLeg (wsV RX8 66 RX1 yX1_save wsX1_save) := goodIn_app (goodIn_of _ (by decide +kernel)) ggX8_addLeg_X1_save
set_option maxRecDepth 20000 in
theorem ggX8_addLeg_X8_isLength : GoodIn wsX8_addLeg wsX8_isLength := goodIn_r _ [23] (by decide +kernel) (by decide +kernel)
set_option maxRecDepth 20000 in
theorem gX8_addLeg_X8_isLength : GoodIn wsX8_addLeg (va_wsS RX8 102 yX8_isLength wsX8_isLength) := goodIn_app (goodIn_of _ (by decide +kernel)) ggX8_addLeg_X8_isLength
set_option maxRecDepth 20000 in
theorem ggX8_addLeg_X8_isDifference : GoodIn wsX8_addLeg wsX8_isDifference := goodIn_r _ [20] (by decide +kernel) (by decide +kernel)
set_option maxRecDepth 20000 in
theorem gX8_addLeg_X8_isDifference : GoodIn wsX8_addLeg (va_wsS RX8 99 yX8_isDifference wsX8_isDifference) := goodIn_app (goodIn_of _ (by decide +kernel)) ggX8_addLeg_X8_isDifference
set_option maxRecDepth 20000 in
theorem ggX8_addLeg_X5_hasMark : GoodIn wsX8_addLeg wsX5_hasMark := goodIn_r _ [15, 16, 213, 214, 215, 216, 217, 218, 219, 220] (by decide +kernel) (by decide +kernel)
set_option maxRecDepth 20000 in
theorem gX8_addLeg_X5_hasMark : GoodIn wsX8_addLeg (wsV RX8 75 RX5 yX5_hasMark wsX5_hasMark) := goodIn_app (goodIn_of _ (by decide +kernel)) ggX8_addLeg_X5_hasMark
def D_X8_addLeg : Md := (yX8_addLeg, cX8_addLeg, 5, (some .int), wsX8_addLeg, RX8, { frames := 6, cells := 1, slots := 6, locals := 115 })
theorem nm_X8_addLeg : nmD D_X8_addLeg 4 := ⟨rfl, by decide +kernel, by decide +kernel, by decide +kernel⟩
theorem hi_X8_addLeg_X5 : ∀ w ∈ u_ws RX5 TX5 8, w ∈ wsX8_addLeg := by decide +kernel
theorem hi_X8_addLeg_X8 : ∀ w ∈ u_ws RX8 TX8 7, w ∈ wsX8_addLeg := by decide +kernel
theorem hl_X8_addLeg_10 : Cond.fieldLink RX8 10 "LevelLoops" "survey" "LLevelLoops$Survey;" ∈ wsX8_addLeg := by decide +kernel
theorem hl_X8_addLeg_21 : Cond.fieldLink RX8 21 "LevelLoops" "study" "LLevelLoops$Study;" ∈ wsX8_addLeg := by decide +kernel
theorem hl_X8_addLeg_34 : Cond.fieldLink RX8 34 "LevelLoops" "history" "LLevelLoops$History;" ∈ wsX8_addLeg := by decide +kernel
theorem hl_X8_addLeg_105 : Cond.fieldLink RX8 105 "LevelLoops$Survey" "legs" "I" ∈ wsX8_addLeg := by decide +kernel
def wp_X8_addLeg_J22 (w : Wd) (Q : Int32 → Wd → Prop) (X : String → Wd → Prop) : Prop :=
  X "java/lang/IndexOutOfBoundsException" w
def wp_X8_addLeg_J50 (w : Wd) (Q : Int32 → Wd → Prop) (X : String → Wd → Prop) : Prop :=
  X "java/lang/IllegalArgumentException" w
def wp_X8_addLeg (x1 : Int32) (x2 : Int32) (x3 : Int32) (x4 : Int32) (w : Wd) (Q : Int32 → Wd → Prop) (X : String → Wd → Prop) : Prop :=
  wp_X5_hasMark 0 x1 w (fun r5 => ((r5 = 0 → wp_X8_addLeg_J22 w Q X) ∧ (¬ r5 = 0 → wp_X5_hasMark 0 x2 w (fun r16 => ((¬ r16 = 0 → ((x1 = x2 → wp_X8_addLeg_J50 w Q X) ∧ (¬ x1 = x2 → wp_X8_isDifference x3 (fun r36 => ((r36 = 0 → wp_X8_addLeg_J50 w Q X) ∧ (¬ r36 = 0 → wp_X8_isLength x4 (fun r44 => ((¬ r44 = 0 → (((wi w 0 0 1) < (20 : Int32) → wp_X1_save 0 w (fun w86 => wp_X5_putLeg 0 x1 x2 x3 x4 w86 (fun r98 w98 => wp_X4_renew 0 w98 (fun w106 => Q ((wi w106 0 0 1) - (1 : Int32)) w106)))) ∧ (¬ (wi w 0 0 1) < (20 : Int32) → X "java/lang/IllegalStateException" w))) ∧ (r44 = 0 → wp_X8_addLeg_J50 w Q X))))))))) ∧ (r16 = 0 → wp_X8_addLeg_J22 w Q X))))))
set_option maxRecDepth 20000 in
theorem ok_throw_X8_addLeg_22 {G : Gt} {M : Mx} {Qf : State → Prop} {L : List (Nat × Value)} {w : Wd} {X : String → Wd → Prop} (hC : cx G D_X8_addLeg M) (hX : ex G D_X8_addLeg M X Qf) (h : X "java/lang/IndexOutOfBoundsException" w) : jq G D_X8_addLeg M Qf 22 L [] w := jq_throw (names := ["java/lang/RuntimeException", "java/lang/Exception"]) dX8_addLeg_22 dX8_addLeg_25 dX8_addLeg_26 dX8_addLeg_29 hC hX h (by decide +kernel) (by decide +kernel) (by decide +kernel) (by decide +kernel) (by decide +kernel) (by decide +kernel) (by decide +kernel) (by decide) (by decide)
set_option maxRecDepth 20000 in
theorem ok_throw_X8_addLeg_50 {G : Gt} {M : Mx} {Qf : State → Prop} {L : List (Nat × Value)} {w : Wd} {X : String → Wd → Prop} (hC : cx G D_X8_addLeg M) (hX : ex G D_X8_addLeg M X Qf) (h : X "java/lang/IllegalArgumentException" w) : jq G D_X8_addLeg M Qf 50 L [] w := jq_throw (names := ["java/lang/RuntimeException", "java/lang/Exception"]) dX8_addLeg_50 dX8_addLeg_53 dX8_addLeg_54 dX8_addLeg_57 hC hX h (by decide +kernel) (by decide +kernel) (by decide +kernel) (by decide +kernel) (by decide +kernel) (by decide +kernel) (by decide +kernel) (by decide) (by decide)
set_option maxRecDepth 20000 in
theorem ok_throw_X8_addLeg_70 {G : Gt} {M : Mx} {Qf : State → Prop} {L : List (Nat × Value)} {w : Wd} {X : String → Wd → Prop} (hC : cx G D_X8_addLeg M) (hX : ex G D_X8_addLeg M X Qf) (h : X "java/lang/IllegalStateException" w) : jq G D_X8_addLeg M Qf 70 L [] w := jq_throw (names := ["java/lang/RuntimeException", "java/lang/Exception"]) dX8_addLeg_70 dX8_addLeg_73 dX8_addLeg_74 dX8_addLeg_77 hC hX h (by decide +kernel) (by decide +kernel) (by decide +kernel) (by decide +kernel) (by decide +kernel) (by decide +kernel) (by decide +kernel) (by decide) (by decide)
theorem ok_X8_addLeg_J22 {G : Gt} {M : Mx} {Qf : State → Prop} {w : Wd} {Q : Int32 → Wd → Prop} {X : String → Wd → Prop} (hC : cx G D_X8_addLeg M) (he : en G M (qi Q) Qf) (hX : ex G D_X8_addLeg M X Qf) (h : wp_X8_addLeg_J22 w Q X) : jq G D_X8_addLeg M Qf 22 [] [] w := by
  unfold wp_X8_addLeg_J22 at h
  exact ok_throw_X8_addLeg_22 hC hX h
theorem ok_X8_addLeg_J50 {G : Gt} {M : Mx} {Qf : State → Prop} {w : Wd} {Q : Int32 → Wd → Prop} {X : String → Wd → Prop} (hC : cx G D_X8_addLeg M) (he : en G M (qi Q) Qf) (hX : ex G D_X8_addLeg M X Qf) (h : wp_X8_addLeg_J50 w Q X) : jq G D_X8_addLeg M Qf 50 [] [] w := by
  unfold wp_X8_addLeg_J50 at h
  exact ok_throw_X8_addLeg_50 hC hX h
theorem ok_X8_addLeg {G : Gt} {M : Mx} {Qf : State → Prop} {x1 : Int32} {x2 : Int32} {x3 : Int32} {x4 : Int32} {w : Wd} {Q : Int32 → Wd → Prop} {X : String → Wd → Prop} (hC : cx G D_X8_addLeg M) (he : en G M (qi Q) Qf) (hX : ex G D_X8_addLeg M X Qf) (h : wp_X8_addLeg x1 x2 x3 x4 w Q X) : jq G D_X8_addLeg M Qf 0 [(0, .ref (aD G 0 26)), (1, .int x1), (2, .int x2), (3, .int x3), (4, .int x4)] [] w := by
  unfold wp_X8_addLeg at h
  refine jq_aload_n (k0 := 0) dX8_addLeg_0 hC rfl rfl ?_
  refine jq_get (k0 := 0) (n := 0) (o := 26) dX8_addLeg_1 hC (cl_0 (by decide)) rfl rfl hi_X8_addLeg_X8 (by decide) hl_X8_addLeg_10 rfl rfl ?_
  refine jq_iload_n (k0 := 1) dX8_addLeg_4 hC rfl rfl ?_
  refine jq_callV (As := [.int x1]) (rest := []) (n := 0) (o := 0) (D' := D_X5_hasMark) dX8_addLeg_5 hC (cl_0 (by decide)) rfl rfl rfl (mt_X5_hasMark (by omega) h) gX8_addLeg_X5_hasMark rfl ⟨rfl, rfl, Nat.le_of_ble_eq_true rfl, Nat.le_of_ble_eq_true rfl⟩ nm_X5_hasMark rfl (Nat.le_of_ble_eq_true rfl) (kIp fun r5 h => ?_)
  refine jq_if_eq (tgt := 22) dX8_addLeg_8 hC (by decide) (fun c8 => ?_) (fun c8 => ?_)
  · have h := h.1 c8
    refine jq_less (L' := []) [] rfl ?_
    exact ok_X8_addLeg_J22 hC he hX h
  · have h := h.2 c8
    refine jq_aload_n (k0 := 0) dX8_addLeg_11 hC rfl rfl ?_
    refine jq_get (k0 := 0) (n := 0) (o := 26) dX8_addLeg_12 hC (cl_0 (by decide)) rfl rfl hi_X8_addLeg_X8 (by decide) hl_X8_addLeg_10 rfl rfl ?_
    refine jq_iload_n (k0 := 2) dX8_addLeg_15 hC rfl rfl ?_
    refine jq_callV (As := [.int x2]) (rest := []) (n := 0) (o := 0) (D' := D_X5_hasMark) dX8_addLeg_16 hC (cl_0 (by decide)) rfl rfl rfl (mt_X5_hasMark (by omega) h) gX8_addLeg_X5_hasMark rfl ⟨rfl, rfl, Nat.le_of_ble_eq_true rfl, Nat.le_of_ble_eq_true rfl⟩ nm_X5_hasMark rfl (Nat.le_of_ble_eq_true rfl) (kIp fun r16 h => ?_)
    refine jq_if_ne (tgt := 30) dX8_addLeg_19 hC (by decide) (fun c19 => ?_) (fun c19 => ?_)
    · have h := h.1 c19
      refine jq_iload_n (k0 := 1) dX8_addLeg_30 hC rfl rfl ?_
      refine jq_iload_n (k0 := 2) dX8_addLeg_31 hC rfl rfl ?_
      refine jq_icmp_eq (tgt := 50) dX8_addLeg_32 hC (by decide) (fun c32 => ?_) (fun c32 => ?_)
      · have h := h.1 c32
        refine jq_less (L' := []) [] rfl ?_
        exact ok_X8_addLeg_J50 hC he hX h
      · have h := h.2 c32
        refine jq_iload_n (k0 := 3) dX8_addLeg_35 hC rfl rfl ?_
        refine jq_callS (As := [.int x3]) (rest := []) (D' := D_X8_isDifference) dX8_addLeg_36 hC (mt_X8_isDifference h) gX8_addLeg_X8_isDifference rfl ⟨rfl, rfl, Nat.le_of_ble_eq_true rfl, Nat.le_of_ble_eq_true rfl⟩ nm_X8_isDifference rfl (Nat.le_of_ble_eq_true rfl) (kIp fun r36 h => ?_)
        refine jq_if_eq (tgt := 50) dX8_addLeg_39 hC (by decide) (fun c39 => ?_) (fun c39 => ?_)
        · have h := h.1 c39
          refine jq_less (L' := []) [] rfl ?_
          exact ok_X8_addLeg_J50 hC he hX h
        · have h := h.2 c39
          refine jq_iload (k0 := 4) dX8_addLeg_42 hC rfl ?_
          refine jq_callS (As := [.int x4]) (rest := []) (D' := D_X8_isLength) dX8_addLeg_44 hC (mt_X8_isLength h) gX8_addLeg_X8_isLength rfl ⟨rfl, rfl, Nat.le_of_ble_eq_true rfl, Nat.le_of_ble_eq_true rfl⟩ nm_X8_isLength rfl (Nat.le_of_ble_eq_true rfl) (kIp fun r44 h => ?_)
          refine jq_if_ne (tgt := 58) dX8_addLeg_47 hC (by decide) (fun c47 => ?_) (fun c47 => ?_)
          · have h := h.1 c47
            refine jq_aload_n (k0 := 0) dX8_addLeg_58 hC rfl rfl ?_
            refine jq_get (k0 := 0) (n := 0) (o := 26) dX8_addLeg_59 hC (cl_0 (by decide)) rfl rfl hi_X8_addLeg_X8 (by decide) hl_X8_addLeg_10 rfl rfl ?_
            refine jq_get (k0 := 1) (n := 0) (o := 0) dX8_addLeg_62 hC (cl_0 (by decide)) rfl rfl hi_X8_addLeg_X5 (by decide) hl_X8_addLeg_105 rfl rfl ?_
            refine jq_bipush (v := (20 : Int32)) dX8_addLeg_65 hC (by decide) ?_
            refine jq_icmp_lt (tgt := 78) dX8_addLeg_67 hC (by decide) (fun c67 => ?_) (fun c67 => ?_)
            · have h := h.1 c67
              refine jq_aload_n (k0 := 0) dX8_addLeg_78 hC rfl rfl ?_
              refine jq_get (k0 := 4) (n := 0) (o := 26) dX8_addLeg_79 hC (cl_0 (by decide)) rfl rfl hi_X8_addLeg_X8 (by decide) hl_X8_addLeg_34 rfl rfl ?_
              refine jq_aload_n (k0 := 0) dX8_addLeg_82 hC rfl rfl ?_
              refine jq_get (k0 := 0) (n := 0) (o := 26) dX8_addLeg_83 hC (cl_0 (by decide)) rfl rfl hi_X8_addLeg_X8 (by decide) hl_X8_addLeg_10 rfl rfl ?_
              refine jq_callV (As := [.ref (aD G 0 0)]) (rest := []) (n := 0) (o := 27) (D' := D_X1_save) dX8_addLeg_86 hC (cl_0 (by decide)) rfl rfl rfl (mt_X1_save (by omega) h) gX8_addLeg_X1_save rfl ⟨rfl, rfl, Nat.le_of_ble_eq_true rfl, Nat.le_of_ble_eq_true rfl⟩ nm_X1_save rfl (Nat.le_of_ble_eq_true rfl) (kV fun w86 h => ?_)
              refine jq_aload_n (k0 := 0) dX8_addLeg_89 hC rfl rfl ?_
              refine jq_get (k0 := 0) (n := 0) (o := 26) dX8_addLeg_90 hC (cl_0 (by decide)) rfl rfl hi_X8_addLeg_X8 (by decide) hl_X8_addLeg_10 rfl rfl ?_
              refine jq_iload_n (k0 := 1) dX8_addLeg_93 hC rfl rfl ?_
              refine jq_iload_n (k0 := 2) dX8_addLeg_94 hC rfl rfl ?_
              refine jq_iload_n (k0 := 3) dX8_addLeg_95 hC rfl rfl ?_
              refine jq_iload (k0 := 4) dX8_addLeg_96 hC rfl ?_
              refine jq_callV (As := [.int x1, .int x2, .int x3, .int x4]) (rest := []) (n := 0) (o := 0) (D' := D_X5_putLeg) dX8_addLeg_98 hC (cl_0 (by decide)) rfl rfl rfl (mt_X5_putLeg (by omega) h) gX8_addLeg_X5_putLeg rfl ⟨rfl, rfl, Nat.le_of_ble_eq_true rfl, Nat.le_of_ble_eq_true rfl⟩ nm_X5_putLeg rfl (Nat.le_of_ble_eq_true rfl) (kI fun r98 w98 h => ?_)
              refine jq_pop dX8_addLeg_101 hC rfl ?_
              refine jq_aload_n (k0 := 0) dX8_addLeg_102 hC rfl rfl ?_
              refine jq_get (k0 := 1) (n := 0) (o := 26) dX8_addLeg_103 hC (cl_0 (by decide)) rfl rfl hi_X8_addLeg_X8 (by decide) hl_X8_addLeg_21 rfl rfl ?_
              refine jq_callV (As := []) (rest := []) (n := 0) (o := 7) (D' := D_X4_renew) dX8_addLeg_106 hC (cl_0 (by decide)) rfl rfl rfl (mt_X4_renew (by omega) h) gX8_addLeg_X4_renew rfl ⟨rfl, rfl, Nat.le_of_ble_eq_true rfl, Nat.le_of_ble_eq_true rfl⟩ nm_X4_renew rfl (Nat.le_of_ble_eq_true rfl) (kV fun w106 h => ?_)
              refine jq_aload_n (k0 := 0) dX8_addLeg_109 hC rfl rfl ?_
              refine jq_get (k0 := 0) (n := 0) (o := 26) dX8_addLeg_110 hC (cl_0 (by decide)) rfl rfl hi_X8_addLeg_X8 (by decide) hl_X8_addLeg_10 rfl rfl ?_
              refine jq_get (k0 := 1) (n := 0) (o := 0) dX8_addLeg_113 hC (cl_0 (by decide)) rfl rfl hi_X8_addLeg_X5 (by decide) hl_X8_addLeg_105 rfl rfl ?_
              refine jq_iconst (v := (1 : Int32)) dX8_addLeg_116 hC (by decide) ?_
              refine jq_isub dX8_addLeg_117 hC ?_
              exact jq_iret dX8_addLeg_118 hC he rfl ⟨_, rfl, h⟩
            · have h := h.2 c67
              exact ok_throw_X8_addLeg_70 hC hX h
          · have h := h.2 c47
            refine jq_less (L' := []) [] rfl ?_
            exact ok_X8_addLeg_J50 hC he hX h
    · have h := h.2 c19
      refine jq_less (L' := []) [] rfl ?_
      exact ok_X8_addLeg_J22 hC he hX h
theorem mt_X8_addLeg {G : Gt} {x1 : Int32} {x2 : Int32} {x3 : Int32} {x4 : Int32} {w : Wd} {Q : Int32 → Wd → Prop} {X : String → Wd → Prop} (h : wp_X8_addLeg x1 x2 x3 x4 w Q X) : MtX G D_X8_addLeg [.ref (aD G 0 26), .int x1, .int x2, .int x3, .int x4] w (qi Q) X := MtX_of (by decide +kernel) rfl rfl (Nat.le_of_ble_eq_true rfl) (fun M Qf hC he hX => ok_X8_addLeg hC he hX h)
/-! X8.measure(II)I -/
theorem dX8_measure_0 : decode cX8_measure 0 = .ok (.aload_n 0, 1) := by decide +kernel
theorem dX8_measure_1 : decode cX8_measure 1 = .ok (.getfield 10, 3) := by decide +kernel
theorem dX8_measure_4 : decode cX8_measure 4 = .ok (.iload_n 1, 1) := by decide +kernel
theorem dX8_measure_5 : decode cX8_measure 5 = .ok (.invokevirtual 112, 3) := by decide +kernel
theorem dX8_measure_8 : decode cX8_measure 8 = .ok (.ifCond .ne 11, 3) := by decide +kernel
theorem dX8_measure_11 : decode cX8_measure 11 = .ok (.new 78, 3) := by decide +kernel
theorem dX8_measure_14 : decode cX8_measure 14 = .ok (.dup, 1) := by decide +kernel
theorem dX8_measure_15 : decode cX8_measure 15 = .ok (.invokespecial 80, 3) := by decide +kernel
theorem dX8_measure_18 : decode cX8_measure 18 = .ok (.athrow, 1) := by decide +kernel
theorem dX8_measure_19 : decode cX8_measure 19 = .ok (.iload_n 2, 1) := by decide +kernel
theorem dX8_measure_20 : decode cX8_measure 20 = .ok (.invokestatic 99, 3) := by decide +kernel
theorem dX8_measure_23 : decode cX8_measure 23 = .ok (.ifCond .ne 11, 3) := by decide +kernel
theorem dX8_measure_26 : decode cX8_measure 26 = .ok (.new 56, 3) := by decide +kernel
theorem dX8_measure_29 : decode cX8_measure 29 = .ok (.dup, 1) := by decide +kernel
theorem dX8_measure_30 : decode cX8_measure 30 = .ok (.invokespecial 58, 3) := by decide +kernel
theorem dX8_measure_33 : decode cX8_measure 33 = .ok (.athrow, 1) := by decide +kernel
theorem dX8_measure_34 : decode cX8_measure 34 = .ok (.aload_n 0, 1) := by decide +kernel
theorem dX8_measure_35 : decode cX8_measure 35 = .ok (.getfield 34, 3) := by decide +kernel
theorem dX8_measure_38 : decode cX8_measure 38 = .ok (.aload_n 0, 1) := by decide +kernel
theorem dX8_measure_39 : decode cX8_measure 39 = .ok (.getfield 10, 3) := by decide +kernel
theorem dX8_measure_42 : decode cX8_measure 42 = .ok (.invokevirtual 66, 3) := by decide +kernel
theorem dX8_measure_45 : decode cX8_measure 45 = .ok (.aload_n 0, 1) := by decide +kernel
theorem dX8_measure_46 : decode cX8_measure 46 = .ok (.getfield 21, 3) := by decide +kernel
theorem dX8_measure_49 : decode cX8_measure 49 = .ok (.getfield 115, 3) := by decide +kernel
theorem dX8_measure_52 : decode cX8_measure 52 = .ok (.invokevirtual 119, 3) := by decide +kernel
theorem dX8_measure_55 : decode cX8_measure 55 = .ok (.istore_n 3, 1) := by decide +kernel
theorem dX8_measure_56 : decode cX8_measure 56 = .ok (.aload_n 0, 1) := by decide +kernel
theorem dX8_measure_57 : decode cX8_measure 57 = .ok (.getfield 10, 3) := by decide +kernel
theorem dX8_measure_60 : decode cX8_measure 60 = .ok (.getfield 125, 3) := by decide +kernel
theorem dX8_measure_63 : decode cX8_measure 63 = .ok (.iload_n 1, 1) := by decide +kernel
theorem dX8_measure_64 : decode cX8_measure 64 = .ok (.iload_n 2, 1) := by decide +kernel
theorem dX8_measure_65 : decode cX8_measure 65 = .ok (.iastore, 1) := by decide +kernel
theorem dX8_measure_66 : decode cX8_measure 66 = .ok (.aload_n 0, 1) := by decide +kernel
theorem dX8_measure_67 : decode cX8_measure 67 = .ok (.getfield 21, 3) := by decide +kernel
theorem dX8_measure_70 : decode cX8_measure 70 = .ok (.invokevirtual 72, 3) := by decide +kernel
theorem dX8_measure_73 : decode cX8_measure 73 = .ok (.iload_n 3, 1) := by decide +kernel
theorem dX8_measure_74 : decode cX8_measure 74 = .ok (.aload_n 0, 1) := by decide +kernel
theorem dX8_measure_75 : decode cX8_measure 75 = .ok (.getfield 21, 3) := by decide +kernel
theorem dX8_measure_78 : decode cX8_measure 78 = .ok (.getfield 115, 3) := by decide +kernel
theorem dX8_measure_81 : decode cX8_measure 81 = .ok (.invokevirtual 119, 3) := by decide +kernel
theorem dX8_measure_84 : decode cX8_measure 84 = .ok (.isub, 1) := by decide +kernel
theorem dX8_measure_85 : decode cX8_measure 85 = .ok (.ldc 128, 2) := by decide +kernel
theorem dX8_measure_87 : decode cX8_measure 87 = .ok (.iadd, 1) := by decide +kernel
theorem dX8_measure_88 : decode cX8_measure 88 = .ok (.ireturn, 1) := by decide +kernel
set_option maxRecDepth 20000 in
theorem ggX8_measure_X2_missesTogether : GoodIn wsX8_measure wsX2_missesTogether := goodIn_r _ [51, 52, 53, 54, 55, 56, 57, 224, 225, 226, 227, 228, 229, 230, 231, 232, 233, 234, 235, 236] (by decide +kernel) (by decide +kernel)
set_option maxRecDepth 20000 in
theorem gX8_measure_X2_missesTogether : GoodIn wsX8_measure (wsV RX8 119 RX2 yX2_missesTogether wsX2_missesTogether) := goodIn_app (goodIn_of _ (by decide +kernel)) ggX8_measure_X2_missesTogether
set_option maxRecDepth 20000 in
theorem ggX8_measure_X4_renew : GoodIn wsX8_measure wsX4_renew := goodIn_r _ [62, 63, 64, 65, 66, 67, 68, 69, 70, 71, 72, 73, 74, 75, 76, 77, 78, 79, 80, 56, 81, 82, 83, 84, 85, 86, 87, 88, 89, 90, 91, 92, 93, 94, 95, 96, 97, 98, 99, 100, 19, 101, 102, 103, 104, 105, 106, 107, 108, 50, 109, 52, 110, 111, 112, 113, 114, 115, 116, 117, 118, 119, 120, 121, 122, 123, 124, 125, 126, 127, 53, 128, 129, 130, 131, 132, 133, 134, 14, 135, 16, 45, 136, 137, 138, 139, 140, 141, 142, 143, 144, 54, 55, 57, 145, 146, 147, 148, 149, 150, 151, 152, 153, 154, 155, 156, 157, 158, 159, 160, 161, 162, 163, 164, 165, 166, 167, 168, 169, 170, 171, 172, 173, 174, 175, 176, 177, 178, 179, 180, 181, 182, 183, 184, 185, 186, 187, 188, 189, 190, 191, 192, 193, 194, 195, 196, 197, 198, 199, 200, 201, 202, 210, 211, 212, 213, 237, 238, 239, 240, 241, 242, 214, 215, 216, 217, 218, 219, 220, 221, 224, 225, 226, 227, 228, 229, 230, 231, 232, 233, 234, 235, 236, 243, 244, 245, 246, 247, 248] (by decide +kernel) (by decide +kernel)
set_option maxRecDepth 20000 in
theorem gX8_measure_X4_renew : GoodIn wsX8_measure (wsV RX8 72 RX4 yX4_renew wsX4_renew) := goodIn_app (goodIn_of _ (by decide +kernel)) ggX8_measure_X4_renew
set_option maxRecDepth 20000 in
theorem ggX8_measure_X1_save : GoodIn wsX8_measure wsX1_save := goodIn_r _ [25, 26, 27, 28, 29, 30, 24, 31, 32, 33, 34, 14, 35, 36, 16, 37, 38, 39, 40, 41, 42, 43, 44, 45, 46, 222, 223, 214, 215, 216, 217, 218, 219, 220, 221] (by decide +kernel) (by decide +kernel)
set_option maxRecDepth 20000 in
theorem gX8_measure_X1_save : GoodIn wsX8_measure (wsV RX8 66 RX1 yX1_save wsX1_save) := goodIn_app (goodIn_of _ (by decide +kernel)) ggX8_measure_X1_save
set_option maxRecDepth 20000 in
theorem ggX8_measure_X8_isDifference : GoodIn wsX8_measure wsX8_isDifference := goodIn_r _ [20] (by decide +kernel) (by decide +kernel)
set_option maxRecDepth 20000 in
theorem gX8_measure_X8_isDifference : GoodIn wsX8_measure (va_wsS RX8 99 yX8_isDifference wsX8_isDifference) := goodIn_app (goodIn_of _ (by decide +kernel)) ggX8_measure_X8_isDifference
set_option maxRecDepth 20000 in
theorem ggX8_measure_X5_hasLeg : GoodIn wsX8_measure wsX5_hasLeg := goodIn_r _ [15, 16, 214, 215, 216, 217, 218, 219, 220, 221] (by decide +kernel) (by decide +kernel)
set_option maxRecDepth 20000 in
theorem gX8_measure_X5_hasLeg : GoodIn wsX8_measure (wsV RX8 112 RX5 yX5_hasLeg wsX5_hasLeg) := goodIn_app (goodIn_of _ (by decide +kernel)) ggX8_measure_X5_hasLeg
def D_X8_measure : Md := (yX8_measure, cX8_measure, 4, (some .int), wsX8_measure, RX8, { frames := 6, cells := 1, slots := 6, locals := 115 })
theorem nm_X8_measure : nmD D_X8_measure 2 := ⟨rfl, by decide +kernel, by decide +kernel, by decide +kernel⟩
theorem hi_X8_measure_X4 : ∀ w ∈ u_ws RX4 TX4 4, w ∈ wsX8_measure := by decide +kernel
theorem hi_X8_measure_X5 : ∀ w ∈ u_ws RX5 TX5 8, w ∈ wsX8_measure := by decide +kernel
theorem hi_X8_measure_X8 : ∀ w ∈ u_ws RX8 TX8 7, w ∈ wsX8_measure := by decide +kernel
theorem hl_X8_measure_10 : Cond.fieldLink RX8 10 "LevelLoops" "survey" "LLevelLoops$Survey;" ∈ wsX8_measure := by decide +kernel
theorem hl_X8_measure_21 : Cond.fieldLink RX8 21 "LevelLoops" "study" "LLevelLoops$Study;" ∈ wsX8_measure := by decide +kernel
theorem hl_X8_measure_34 : Cond.fieldLink RX8 34 "LevelLoops" "history" "LLevelLoops$History;" ∈ wsX8_measure := by decide +kernel
theorem hl_X8_measure_115 : Cond.fieldLink RX8 115 "LevelLoops$Study" "loops" "LLevelLoops$Loops;" ∈ wsX8_measure := by decide +kernel
theorem hl_X8_measure_125 : Cond.fieldLink RX8 125 "LevelLoops$Survey" "difference" "[I" ∈ wsX8_measure := by decide +kernel
def wp_X8_measure (x1 : Int32) (x2 : Int32) (w : Wd) (Q : Int32 → Wd → Prop) (X : String → Wd → Prop) : Prop :=
  wp_X5_hasLeg 0 x1 w (fun r5 => ((¬ r5 = 0 → wp_X8_isDifference x2 (fun r20 => ((¬ r20 = 0 → wp_X1_save 0 w (fun w42 => wp_X2_missesTogether 0 w42 (fun r52 => vp_in x1 20 ∧ (∀ w65 : Wd, w65 = (sI w42 0 4 x1.toNatClampNeg x2) → wp_X4_renew 0 w65 (fun w70 => wp_X2_missesTogether 0 w70 (fun r81 => Q ((r52 - r81) + (1000000 : Int32)) w70)))))) ∧ (r20 = 0 → X "java/lang/IllegalArgumentException" w)))) ∧ (r5 = 0 → X "java/lang/IndexOutOfBoundsException" w)))
set_option maxRecDepth 20000 in
theorem ok_throw_X8_measure_26 {G : Gt} {M : Mx} {Qf : State → Prop} {L : List (Nat × Value)} {w : Wd} {X : String → Wd → Prop} (hC : cx G D_X8_measure M) (hX : ex G D_X8_measure M X Qf) (h : X "java/lang/IllegalArgumentException" w) : jq G D_X8_measure M Qf 26 L [] w := jq_throw (names := ["java/lang/RuntimeException", "java/lang/Exception"]) dX8_measure_26 dX8_measure_29 dX8_measure_30 dX8_measure_33 hC hX h (by decide +kernel) (by decide +kernel) (by decide +kernel) (by decide +kernel) (by decide +kernel) (by decide +kernel) (by decide +kernel) (by decide) (by decide)
set_option maxRecDepth 20000 in
theorem ok_throw_X8_measure_11 {G : Gt} {M : Mx} {Qf : State → Prop} {L : List (Nat × Value)} {w : Wd} {X : String → Wd → Prop} (hC : cx G D_X8_measure M) (hX : ex G D_X8_measure M X Qf) (h : X "java/lang/IndexOutOfBoundsException" w) : jq G D_X8_measure M Qf 11 L [] w := jq_throw (names := ["java/lang/RuntimeException", "java/lang/Exception"]) dX8_measure_11 dX8_measure_14 dX8_measure_15 dX8_measure_18 hC hX h (by decide +kernel) (by decide +kernel) (by decide +kernel) (by decide +kernel) (by decide +kernel) (by decide +kernel) (by decide +kernel) (by decide) (by decide)
theorem ok_X8_measure {G : Gt} {M : Mx} {Qf : State → Prop} {x1 : Int32} {x2 : Int32} {w : Wd} {Q : Int32 → Wd → Prop} {X : String → Wd → Prop} (hC : cx G D_X8_measure M) (he : en G M (qi Q) Qf) (hX : ex G D_X8_measure M X Qf) (h : wp_X8_measure x1 x2 w Q X) : jq G D_X8_measure M Qf 0 [(0, .ref (aD G 0 26)), (1, .int x1), (2, .int x2)] [] w := by
  unfold wp_X8_measure at h
  refine jq_aload_n (k0 := 0) dX8_measure_0 hC rfl rfl ?_
  refine jq_get (k0 := 0) (n := 0) (o := 26) dX8_measure_1 hC (cl_0 (by decide)) rfl rfl hi_X8_measure_X8 (by decide) hl_X8_measure_10 rfl rfl ?_
  refine jq_iload_n (k0 := 1) dX8_measure_4 hC rfl rfl ?_
  refine jq_callV (As := [.int x1]) (rest := []) (n := 0) (o := 0) (D' := D_X5_hasLeg) dX8_measure_5 hC (cl_0 (by decide)) rfl rfl rfl (mt_X5_hasLeg (by omega) h) gX8_measure_X5_hasLeg rfl ⟨rfl, rfl, Nat.le_of_ble_eq_true rfl, Nat.le_of_ble_eq_true rfl⟩ nm_X5_hasLeg rfl (Nat.le_of_ble_eq_true rfl) (kIp fun r5 h => ?_)
  refine jq_if_ne (tgt := 19) dX8_measure_8 hC (by decide) (fun c8 => ?_) (fun c8 => ?_)
  · have h := h.1 c8
    refine jq_iload_n (k0 := 2) dX8_measure_19 hC rfl rfl ?_
    refine jq_callS (As := [.int x2]) (rest := []) (D' := D_X8_isDifference) dX8_measure_20 hC (mt_X8_isDifference h) gX8_measure_X8_isDifference rfl ⟨rfl, rfl, Nat.le_of_ble_eq_true rfl, Nat.le_of_ble_eq_true rfl⟩ nm_X8_isDifference rfl (Nat.le_of_ble_eq_true rfl) (kIp fun r20 h => ?_)
    refine jq_if_ne (tgt := 34) dX8_measure_23 hC (by decide) (fun c23 => ?_) (fun c23 => ?_)
    · have h := h.1 c23
      refine jq_aload_n (k0 := 0) dX8_measure_34 hC rfl rfl ?_
      refine jq_get (k0 := 4) (n := 0) (o := 26) dX8_measure_35 hC (cl_0 (by decide)) rfl rfl hi_X8_measure_X8 (by decide) hl_X8_measure_34 rfl rfl ?_
      refine jq_aload_n (k0 := 0) dX8_measure_38 hC rfl rfl ?_
      refine jq_get (k0 := 0) (n := 0) (o := 26) dX8_measure_39 hC (cl_0 (by decide)) rfl rfl hi_X8_measure_X8 (by decide) hl_X8_measure_10 rfl rfl ?_
      refine jq_callV (As := [.ref (aD G 0 0)]) (rest := []) (n := 0) (o := 27) (D' := D_X1_save) dX8_measure_42 hC (cl_0 (by decide)) rfl rfl rfl (mt_X1_save (by omega) h) gX8_measure_X1_save rfl ⟨rfl, rfl, Nat.le_of_ble_eq_true rfl, Nat.le_of_ble_eq_true rfl⟩ nm_X1_save rfl (Nat.le_of_ble_eq_true rfl) (kV fun w42 h => ?_)
      refine jq_aload_n (k0 := 0) dX8_measure_45 hC rfl rfl ?_
      refine jq_get (k0 := 1) (n := 0) (o := 26) dX8_measure_46 hC (cl_0 (by decide)) rfl rfl hi_X8_measure_X8 (by decide) hl_X8_measure_21 rfl rfl ?_
      refine jq_get (k0 := 1) (n := 0) (o := 7) dX8_measure_49 hC (cl_0 (by decide)) rfl rfl hi_X8_measure_X4 (by decide) hl_X8_measure_115 rfl rfl ?_
      refine jq_callV (As := []) (rest := []) (n := 0) (o := 12) (D' := D_X2_missesTogether) dX8_measure_52 hC (cl_0 (by decide)) rfl rfl rfl (mt_X2_missesTogether (by omega) h) gX8_measure_X2_missesTogether rfl ⟨rfl, rfl, Nat.le_of_ble_eq_true rfl, Nat.le_of_ble_eq_true rfl⟩ nm_X2_missesTogether rfl (Nat.le_of_ble_eq_true rfl) (kIp fun r52 h => ?_)
      refine jq_istore_n (L' := [(3, .int r52), (0, .ref (aD G 0 26)), (1, .int x1), (2, .int x2)]) dX8_measure_55 hC rfl (by decide) rfl ?_
      refine jq_aload_n (k0 := 1) dX8_measure_56 hC rfl rfl ?_
      refine jq_get (k0 := 0) (n := 0) (o := 26) dX8_measure_57 hC (cl_0 (by decide)) rfl rfl hi_X8_measure_X8 (by decide) hl_X8_measure_10 rfl rfl ?_
      refine jq_get (k0 := 5) (n := 0) (o := 0) dX8_measure_60 hC (cl_0 (by decide)) rfl rfl hi_X8_measure_X5 (by decide) hl_X8_measure_125 rfl rfl ?_
      refine jq_iload_n (k0 := 2) dX8_measure_63 hC rfl rfl ?_
      refine jq_iload_n (k0 := 3) dX8_measure_64 hC rfl rfl ?_
      obtain ⟨b65, h⟩ := h
      refine jq_iast (n := 0) (o := 4) (j := x1.toNatClampNeg) dX8_measure_65 hC (cl_0 (by decide)) (fun _ => rfl) b65 rfl ?_
      refine jq_w (fun w65 e65 => ?_)
      have h := h w65 e65
      refine jq_aload_n (k0 := 1) dX8_measure_66 hC rfl rfl ?_
      refine jq_get (k0 := 1) (n := 0) (o := 26) dX8_measure_67 hC (cl_0 (by decide)) rfl rfl hi_X8_measure_X8 (by decide) hl_X8_measure_21 rfl rfl ?_
      refine jq_callV (As := []) (rest := []) (n := 0) (o := 7) (D' := D_X4_renew) dX8_measure_70 hC (cl_0 (by decide)) rfl rfl rfl (mt_X4_renew (by omega) h) gX8_measure_X4_renew rfl ⟨rfl, rfl, Nat.le_of_ble_eq_true rfl, Nat.le_of_ble_eq_true rfl⟩ nm_X4_renew rfl (Nat.le_of_ble_eq_true rfl) (kV fun w70 h => ?_)
      refine jq_iload_n (k0 := 0) dX8_measure_73 hC rfl rfl ?_
      refine jq_aload_n (k0 := 1) dX8_measure_74 hC rfl rfl ?_
      refine jq_get (k0 := 1) (n := 0) (o := 26) dX8_measure_75 hC (cl_0 (by decide)) rfl rfl hi_X8_measure_X8 (by decide) hl_X8_measure_21 rfl rfl ?_
      refine jq_get (k0 := 1) (n := 0) (o := 7) dX8_measure_78 hC (cl_0 (by decide)) rfl rfl hi_X8_measure_X4 (by decide) hl_X8_measure_115 rfl rfl ?_
      refine jq_callV (As := []) (rest := [.int r52]) (n := 0) (o := 12) (D' := D_X2_missesTogether) dX8_measure_81 hC (cl_0 (by decide)) rfl rfl rfl (mt_X2_missesTogether (by omega) h) gX8_measure_X2_missesTogether rfl ⟨rfl, rfl, Nat.le_of_ble_eq_true rfl, Nat.le_of_ble_eq_true rfl⟩ nm_X2_missesTogether rfl (Nat.le_of_ble_eq_true rfl) (kIp fun r81 h => ?_)
      refine jq_isub dX8_measure_84 hC ?_
      refine jq_ldc (v := (1000000 : Int32)) dX8_measure_85 hC (by decide +kernel) ?_
      refine jq_iadd dX8_measure_87 hC ?_
      exact jq_iret dX8_measure_88 hC he rfl ⟨_, rfl, h⟩
    · have h := h.2 c23
      exact ok_throw_X8_measure_26 hC hX h
  · have h := h.2 c8
    exact ok_throw_X8_measure_11 hC hX h
theorem mt_X8_measure {G : Gt} {x1 : Int32} {x2 : Int32} {w : Wd} {Q : Int32 → Wd → Prop} {X : String → Wd → Prop} (h : wp_X8_measure x1 x2 w Q X) : MtX G D_X8_measure [.ref (aD G 0 26), .int x1, .int x2] w (qi Q) X := MtX_of (by decide +kernel) rfl rfl (Nat.le_of_ble_eq_true rfl) (fun M Qf hC he hX => ok_X8_measure hC he hX h)
/-! X8.turn(I)I -/
theorem dX8_turn_0 : decode cX8_turn 0 = .ok (.aload_n 0, 1) := by decide +kernel
theorem dX8_turn_1 : decode cX8_turn 1 = .ok (.getfield 10, 3) := by decide +kernel
theorem dX8_turn_4 : decode cX8_turn 4 = .ok (.iload_n 1, 1) := by decide +kernel
theorem dX8_turn_5 : decode cX8_turn 5 = .ok (.invokevirtual 112, 3) := by decide +kernel
theorem dX8_turn_8 : decode cX8_turn 8 = .ok (.ifCond .ne 11, 3) := by decide +kernel
theorem dX8_turn_11 : decode cX8_turn 11 = .ok (.new 78, 3) := by decide +kernel
theorem dX8_turn_14 : decode cX8_turn 14 = .ok (.dup, 1) := by decide +kernel
theorem dX8_turn_15 : decode cX8_turn 15 = .ok (.invokespecial 80, 3) := by decide +kernel
theorem dX8_turn_18 : decode cX8_turn 18 = .ok (.athrow, 1) := by decide +kernel
theorem dX8_turn_19 : decode cX8_turn 19 = .ok (.aload_n 0, 1) := by decide +kernel
theorem dX8_turn_20 : decode cX8_turn 20 = .ok (.getfield 34, 3) := by decide +kernel
theorem dX8_turn_23 : decode cX8_turn 23 = .ok (.aload_n 0, 1) := by decide +kernel
theorem dX8_turn_24 : decode cX8_turn 24 = .ok (.getfield 10, 3) := by decide +kernel
theorem dX8_turn_27 : decode cX8_turn 27 = .ok (.invokevirtual 66, 3) := by decide +kernel
theorem dX8_turn_30 : decode cX8_turn 30 = .ok (.aload_n 0, 1) := by decide +kernel
theorem dX8_turn_31 : decode cX8_turn 31 = .ok (.getfield 10, 3) := by decide +kernel
theorem dX8_turn_34 : decode cX8_turn 34 = .ok (.iload_n 1, 1) := by decide +kernel
theorem dX8_turn_35 : decode cX8_turn 35 = .ok (.invokevirtual 129, 3) := by decide +kernel
theorem dX8_turn_38 : decode cX8_turn 38 = .ok (.aload_n 0, 1) := by decide +kernel
theorem dX8_turn_39 : decode cX8_turn 39 = .ok (.getfield 21, 3) := by decide +kernel
theorem dX8_turn_42 : decode cX8_turn 42 = .ok (.invokevirtual 72, 3) := by decide +kernel
theorem dX8_turn_45 : decode cX8_turn 45 = .ok (.aload_n 0, 1) := by decide +kernel
theorem dX8_turn_46 : decode cX8_turn 46 = .ok (.getfield 10, 3) := by decide +kernel
theorem dX8_turn_49 : decode cX8_turn 49 = .ok (.getfield 133, 3) := by decide +kernel
theorem dX8_turn_52 : decode cX8_turn 52 = .ok (.iload_n 1, 1) := by decide +kernel
theorem dX8_turn_53 : decode cX8_turn 53 = .ok (.iaload, 1) := by decide +kernel
theorem dX8_turn_54 : decode cX8_turn 54 = .ok (.ireturn, 1) := by decide +kernel
set_option maxRecDepth 20000 in
theorem ggX8_turn_X4_renew : GoodIn wsX8_turn wsX4_renew := goodIn_r _ [47, 48, 49, 50, 51, 52, 53, 54, 55, 56, 57, 58, 59, 60, 61, 62, 63, 64, 65, 66, 67, 68, 69, 70, 71, 72, 73, 74, 75, 76, 77, 78, 79, 80, 81, 82, 83, 84, 85, 86, 87, 88, 89, 90, 91, 92, 93, 94, 95, 96, 97, 98, 99, 100, 101, 102, 103, 104, 105, 106, 107, 108, 109, 110, 111, 112, 113, 114, 115, 116, 117, 118, 119, 120, 121, 122, 123, 124, 10, 125, 12, 37, 126, 127, 128, 129, 130, 131, 132, 133, 134, 135, 136, 137, 138, 139, 140, 141, 142, 143, 144, 145, 146, 147, 148, 149, 150, 151, 152, 153, 154, 155, 156, 157, 158, 159, 160, 161, 162, 163, 164, 165, 166, 167, 168, 169, 170, 171, 172, 173, 174, 175, 176, 177, 178, 179, 180, 181, 182, 183, 184, 185, 186, 187, 188, 189, 190, 191, 192, 193, 194, 195, 213, 214, 215, 216, 217, 218, 219, 220, 221, 222, 203, 204, 205, 206, 207, 208, 209, 210, 223, 224, 225, 226, 227, 228, 229, 230, 231, 232, 233, 234, 235, 236, 237, 238, 239, 240, 241] (by decide +kernel) (by decide +kernel)
set_option maxRecDepth 20000 in
theorem gX8_turn_X4_renew : GoodIn wsX8_turn (wsV RX8 72 RX4 yX4_renew wsX4_renew) := goodIn_app (goodIn_of _ (by decide +kernel)) ggX8_turn_X4_renew
set_option maxRecDepth 20000 in
theorem ggX8_turn_X5_turnAround : GoodIn wsX8_turn wsX5_turnAround := goodIn_r _ [42, 34, 35, 36, 203, 204, 205, 206, 207, 208, 209, 210] (by decide +kernel) (by decide +kernel)
set_option maxRecDepth 20000 in
theorem gX8_turn_X5_turnAround : GoodIn wsX8_turn (wsV RX8 129 RX5 yX5_turnAround wsX5_turnAround) := goodIn_app (goodIn_of _ (by decide +kernel)) ggX8_turn_X5_turnAround
set_option maxRecDepth 20000 in
theorem ggX8_turn_X1_save : GoodIn wsX8_turn wsX1_save := goodIn_r _ [17, 18, 19, 20, 21, 22, 16, 23, 24, 25, 26, 10, 27, 28, 12, 29, 30, 31, 32, 33, 34, 35, 36, 37, 38, 211, 212, 203, 204, 205, 206, 207, 208, 209, 210] (by decide +kernel) (by decide +kernel)
set_option maxRecDepth 20000 in
theorem gX8_turn_X1_save : GoodIn wsX8_turn (wsV RX8 66 RX1 yX1_save wsX1_save) := goodIn_app (goodIn_of _ (by decide +kernel)) ggX8_turn_X1_save
set_option maxRecDepth 20000 in
theorem ggX8_turn_X5_hasLeg : GoodIn wsX8_turn wsX5_hasLeg := goodIn_r _ [11, 12, 203, 204, 205, 206, 207, 208, 209, 210] (by decide +kernel) (by decide +kernel)
set_option maxRecDepth 20000 in
theorem gX8_turn_X5_hasLeg : GoodIn wsX8_turn (wsV RX8 112 RX5 yX5_hasLeg wsX5_hasLeg) := goodIn_app (goodIn_of _ (by decide +kernel)) ggX8_turn_X5_hasLeg
def D_X8_turn : Md := (yX8_turn, cX8_turn, 2, (some .int), wsX8_turn, RX8, { frames := 6, cells := 1, slots := 6, locals := 115 })
theorem nm_X8_turn : nmD D_X8_turn 1 := ⟨rfl, by decide +kernel, by decide +kernel, by decide +kernel⟩
theorem hi_X8_turn_X5 : ∀ w ∈ u_ws RX5 TX5 8, w ∈ wsX8_turn := by decide +kernel
theorem hi_X8_turn_X8 : ∀ w ∈ u_ws RX8 TX8 7, w ∈ wsX8_turn := by decide +kernel
theorem hl_X8_turn_10 : Cond.fieldLink RX8 10 "LevelLoops" "survey" "LLevelLoops$Survey;" ∈ wsX8_turn := by decide +kernel
theorem hl_X8_turn_21 : Cond.fieldLink RX8 21 "LevelLoops" "study" "LLevelLoops$Study;" ∈ wsX8_turn := by decide +kernel
theorem hl_X8_turn_34 : Cond.fieldLink RX8 34 "LevelLoops" "history" "LLevelLoops$History;" ∈ wsX8_turn := by decide +kernel
theorem hl_X8_turn_133 : Cond.fieldLink RX8 133 "LevelLoops$Survey" "from" "[I" ∈ wsX8_turn := by decide +kernel
def wp_X8_turn (x1 : Int32) (w : Wd) (Q : Int32 → Wd → Prop) (X : String → Wd → Prop) : Prop :=
  wp_X5_hasLeg 0 x1 w (fun r5 => ((¬ r5 = 0 → wp_X1_save 0 w (fun w27 => wp_X5_turnAround 0 x1 w27 (fun w35 => wp_X4_renew 0 w35 (fun w42 => vp_in x1 20 ∧ Q (wi w42 0 2 x1.toNatClampNeg) w42)))) ∧ (r5 = 0 → X "java/lang/IndexOutOfBoundsException" w)))
set_option maxRecDepth 20000 in
theorem ok_throw_X8_turn_11 {G : Gt} {M : Mx} {Qf : State → Prop} {L : List (Nat × Value)} {w : Wd} {X : String → Wd → Prop} (hC : cx G D_X8_turn M) (hX : ex G D_X8_turn M X Qf) (h : X "java/lang/IndexOutOfBoundsException" w) : jq G D_X8_turn M Qf 11 L [] w := jq_throw (names := ["java/lang/RuntimeException", "java/lang/Exception"]) dX8_turn_11 dX8_turn_14 dX8_turn_15 dX8_turn_18 hC hX h (by decide +kernel) (by decide +kernel) (by decide +kernel) (by decide +kernel) (by decide +kernel) (by decide +kernel) (by decide +kernel) (by decide) (by decide)
theorem ok_X8_turn {G : Gt} {M : Mx} {Qf : State → Prop} {x1 : Int32} {w : Wd} {Q : Int32 → Wd → Prop} {X : String → Wd → Prop} (hC : cx G D_X8_turn M) (he : en G M (qi Q) Qf) (hX : ex G D_X8_turn M X Qf) (h : wp_X8_turn x1 w Q X) : jq G D_X8_turn M Qf 0 [(0, .ref (aD G 0 26)), (1, .int x1)] [] w := by
  unfold wp_X8_turn at h
  refine jq_aload_n (k0 := 0) dX8_turn_0 hC rfl rfl ?_
  refine jq_get (k0 := 0) (n := 0) (o := 26) dX8_turn_1 hC (cl_0 (by decide)) rfl rfl hi_X8_turn_X8 (by decide) hl_X8_turn_10 rfl rfl ?_
  refine jq_iload_n (k0 := 1) dX8_turn_4 hC rfl rfl ?_
  refine jq_callV (As := [.int x1]) (rest := []) (n := 0) (o := 0) (D' := D_X5_hasLeg) dX8_turn_5 hC (cl_0 (by decide)) rfl rfl rfl (mt_X5_hasLeg (by omega) h) gX8_turn_X5_hasLeg rfl ⟨rfl, rfl, Nat.le_of_ble_eq_true rfl, Nat.le_of_ble_eq_true rfl⟩ nm_X5_hasLeg rfl (Nat.le_of_ble_eq_true rfl) (kIp fun r5 h => ?_)
  refine jq_if_ne (tgt := 19) dX8_turn_8 hC (by decide) (fun c8 => ?_) (fun c8 => ?_)
  · have h := h.1 c8
    refine jq_aload_n (k0 := 0) dX8_turn_19 hC rfl rfl ?_
    refine jq_get (k0 := 4) (n := 0) (o := 26) dX8_turn_20 hC (cl_0 (by decide)) rfl rfl hi_X8_turn_X8 (by decide) hl_X8_turn_34 rfl rfl ?_
    refine jq_aload_n (k0 := 0) dX8_turn_23 hC rfl rfl ?_
    refine jq_get (k0 := 0) (n := 0) (o := 26) dX8_turn_24 hC (cl_0 (by decide)) rfl rfl hi_X8_turn_X8 (by decide) hl_X8_turn_10 rfl rfl ?_
    refine jq_callV (As := [.ref (aD G 0 0)]) (rest := []) (n := 0) (o := 27) (D' := D_X1_save) dX8_turn_27 hC (cl_0 (by decide)) rfl rfl rfl (mt_X1_save (by omega) h) gX8_turn_X1_save rfl ⟨rfl, rfl, Nat.le_of_ble_eq_true rfl, Nat.le_of_ble_eq_true rfl⟩ nm_X1_save rfl (Nat.le_of_ble_eq_true rfl) (kV fun w27 h => ?_)
    refine jq_aload_n (k0 := 0) dX8_turn_30 hC rfl rfl ?_
    refine jq_get (k0 := 0) (n := 0) (o := 26) dX8_turn_31 hC (cl_0 (by decide)) rfl rfl hi_X8_turn_X8 (by decide) hl_X8_turn_10 rfl rfl ?_
    refine jq_iload_n (k0 := 1) dX8_turn_34 hC rfl rfl ?_
    refine jq_callV (As := [.int x1]) (rest := []) (n := 0) (o := 0) (D' := D_X5_turnAround) dX8_turn_35 hC (cl_0 (by decide)) rfl rfl rfl (mt_X5_turnAround (by omega) h) gX8_turn_X5_turnAround rfl ⟨rfl, rfl, Nat.le_of_ble_eq_true rfl, Nat.le_of_ble_eq_true rfl⟩ nm_X5_turnAround rfl (Nat.le_of_ble_eq_true rfl) (kV fun w35 h => ?_)
    refine jq_aload_n (k0 := 0) dX8_turn_38 hC rfl rfl ?_
    refine jq_get (k0 := 1) (n := 0) (o := 26) dX8_turn_39 hC (cl_0 (by decide)) rfl rfl hi_X8_turn_X8 (by decide) hl_X8_turn_21 rfl rfl ?_
    refine jq_callV (As := []) (rest := []) (n := 0) (o := 7) (D' := D_X4_renew) dX8_turn_42 hC (cl_0 (by decide)) rfl rfl rfl (mt_X4_renew (by omega) h) gX8_turn_X4_renew rfl ⟨rfl, rfl, Nat.le_of_ble_eq_true rfl, Nat.le_of_ble_eq_true rfl⟩ nm_X4_renew rfl (Nat.le_of_ble_eq_true rfl) (kV fun w42 h => ?_)
    refine jq_aload_n (k0 := 0) dX8_turn_45 hC rfl rfl ?_
    refine jq_get (k0 := 0) (n := 0) (o := 26) dX8_turn_46 hC (cl_0 (by decide)) rfl rfl hi_X8_turn_X8 (by decide) hl_X8_turn_10 rfl rfl ?_
    refine jq_get (k0 := 3) (n := 0) (o := 0) dX8_turn_49 hC (cl_0 (by decide)) rfl rfl hi_X8_turn_X5 (by decide) hl_X8_turn_133 rfl rfl ?_
    refine jq_iload_n (k0 := 1) dX8_turn_52 hC rfl rfl ?_
    obtain ⟨b53, h⟩ := h
    refine jq_iald (n := 0) (o := 2) (j := x1.toNatClampNeg) dX8_turn_53 hC (cl_0 (by decide)) rfl b53 rfl ?_
    exact jq_iret dX8_turn_54 hC he rfl ⟨_, rfl, h⟩
  · have h := h.2 c8
    exact ok_throw_X8_turn_11 hC hX h
theorem mt_X8_turn {G : Gt} {x1 : Int32} {w : Wd} {Q : Int32 → Wd → Prop} {X : String → Wd → Prop} (h : wp_X8_turn x1 w Q X) : MtX G D_X8_turn [.ref (aD G 0 26), .int x1] w (qi Q) X := MtX_of (by decide +kernel) rfl rfl (Nat.le_of_ble_eq_true rfl) (fun M Qf hC he hX => ok_X8_turn hC he hX h)
/-! X8.removeLeg(I)I -/
theorem dX8_removeLeg_0 : decode cX8_removeLeg 0 = .ok (.aload_n 0, 1) := by decide +kernel
theorem dX8_removeLeg_1 : decode cX8_removeLeg 1 = .ok (.getfield 10, 3) := by decide +kernel
theorem dX8_removeLeg_4 : decode cX8_removeLeg 4 = .ok (.iload_n 1, 1) := by decide +kernel
theorem dX8_removeLeg_5 : decode cX8_removeLeg 5 = .ok (.invokevirtual 112, 3) := by decide +kernel
theorem dX8_removeLeg_8 : decode cX8_removeLeg 8 = .ok (.ifCond .ne 11, 3) := by decide +kernel
theorem dX8_removeLeg_11 : decode cX8_removeLeg 11 = .ok (.new 78, 3) := by decide +kernel
theorem dX8_removeLeg_14 : decode cX8_removeLeg 14 = .ok (.dup, 1) := by decide +kernel
theorem dX8_removeLeg_15 : decode cX8_removeLeg 15 = .ok (.invokespecial 80, 3) := by decide +kernel
theorem dX8_removeLeg_18 : decode cX8_removeLeg 18 = .ok (.athrow, 1) := by decide +kernel
theorem dX8_removeLeg_19 : decode cX8_removeLeg 19 = .ok (.aload_n 0, 1) := by decide +kernel
theorem dX8_removeLeg_20 : decode cX8_removeLeg 20 = .ok (.getfield 34, 3) := by decide +kernel
theorem dX8_removeLeg_23 : decode cX8_removeLeg 23 = .ok (.aload_n 0, 1) := by decide +kernel
theorem dX8_removeLeg_24 : decode cX8_removeLeg 24 = .ok (.getfield 10, 3) := by decide +kernel
theorem dX8_removeLeg_27 : decode cX8_removeLeg 27 = .ok (.invokevirtual 66, 3) := by decide +kernel
theorem dX8_removeLeg_30 : decode cX8_removeLeg 30 = .ok (.aload_n 0, 1) := by decide +kernel
theorem dX8_removeLeg_31 : decode cX8_removeLeg 31 = .ok (.getfield 10, 3) := by decide +kernel
theorem dX8_removeLeg_34 : decode cX8_removeLeg 34 = .ok (.iload_n 1, 1) := by decide +kernel
theorem dX8_removeLeg_35 : decode cX8_removeLeg 35 = .ok (.invokevirtual 136, 3) := by decide +kernel
theorem dX8_removeLeg_38 : decode cX8_removeLeg 38 = .ok (.aload_n 0, 1) := by decide +kernel
theorem dX8_removeLeg_39 : decode cX8_removeLeg 39 = .ok (.getfield 21, 3) := by decide +kernel
theorem dX8_removeLeg_42 : decode cX8_removeLeg 42 = .ok (.invokevirtual 72, 3) := by decide +kernel
theorem dX8_removeLeg_45 : decode cX8_removeLeg 45 = .ok (.aload_n 0, 1) := by decide +kernel
theorem dX8_removeLeg_46 : decode cX8_removeLeg 46 = .ok (.getfield 21, 3) := by decide +kernel
theorem dX8_removeLeg_49 : decode cX8_removeLeg 49 = .ok (.getfield 115, 3) := by decide +kernel
theorem dX8_removeLeg_52 : decode cX8_removeLeg 52 = .ok (.getfield 139, 3) := by decide +kernel
theorem dX8_removeLeg_55 : decode cX8_removeLeg 55 = .ok (.ireturn, 1) := by decide +kernel
set_option maxRecDepth 20000 in
theorem ggX8_removeLeg_X4_renew : GoodIn wsX8_removeLeg wsX4_renew := goodIn_r _ [48, 49, 50, 51, 52, 53, 54, 55, 56, 57, 58, 59, 60, 61, 62, 63, 64, 65, 66, 67, 68, 69, 70, 71, 72, 73, 74, 75, 76, 77, 78, 79, 80, 81, 82, 83, 84, 85, 86, 87, 88, 89, 90, 91, 92, 93, 94, 95, 96, 97, 98, 99, 100, 101, 102, 103, 104, 105, 106, 107, 108, 109, 110, 111, 112, 113, 114, 115, 116, 117, 118, 119, 120, 121, 122, 123, 124, 125, 11, 126, 13, 38, 127, 128, 129, 130, 131, 132, 133, 134, 135, 136, 137, 138, 139, 140, 141, 142, 143, 144, 145, 146, 147, 148, 149, 150, 151, 152, 153, 154, 155, 156, 157, 158, 159, 160, 161, 162, 163, 164, 165, 166, 167, 168, 169, 170, 171, 172, 173, 174, 175, 176, 177, 178, 179, 180, 181, 182, 183, 184, 185, 186, 187, 188, 189, 190, 191, 192, 193, 194, 195, 196, 204, 205, 206, 207, 231, 232, 233, 234, 235, 236, 221, 222, 223, 224, 225, 226, 227, 228, 208, 209, 210, 211, 212, 213, 214, 215, 216, 217, 218, 219, 220, 237, 238, 239, 240, 241, 242] (by decide +kernel) (by decide +kernel)
set_option maxRecDepth 20000 in
theorem gX8_removeLeg_X4_renew : GoodIn wsX8_removeLeg (wsV RX8 72 RX4 yX4_renew wsX4_renew) := goodIn_app (goodIn_of _ (by decide +kernel)) ggX8_removeLeg_X4_renew
set_option maxRecDepth 20000 in
theorem ggX8_removeLeg_X5_dropLeg : GoodIn wsX8_removeLeg wsX5_dropLeg := goodIn_r _ [43, 13, 35, 36, 37, 38, 221, 222, 223, 224, 225, 226, 227, 228] (by decide +kernel) (by decide +kernel)
set_option maxRecDepth 20000 in
theorem gX8_removeLeg_X5_dropLeg : GoodIn wsX8_removeLeg (wsV RX8 136 RX5 yX5_dropLeg wsX5_dropLeg) := goodIn_app (goodIn_of _ (by decide +kernel)) ggX8_removeLeg_X5_dropLeg
set_option maxRecDepth 20000 in
theorem ggX8_removeLeg_X1_save : GoodIn wsX8_removeLeg wsX1_save := goodIn_r _ [18, 19, 20, 21, 22, 23, 17, 24, 25, 26, 27, 11, 28, 29, 13, 30, 31, 32, 33, 34, 35, 36, 37, 38, 39, 229, 230, 221, 222, 223, 224, 225, 226, 227, 228] (by decide +kernel) (by decide +kernel)
set_option maxRecDepth 20000 in
theorem gX8_removeLeg_X1_save : GoodIn wsX8_removeLeg (wsV RX8 66 RX1 yX1_save wsX1_save) := goodIn_app (goodIn_of _ (by decide +kernel)) ggX8_removeLeg_X1_save
set_option maxRecDepth 20000 in
theorem ggX8_removeLeg_X5_hasLeg : GoodIn wsX8_removeLeg wsX5_hasLeg := goodIn_r _ [12, 13, 221, 222, 223, 224, 225, 226, 227, 228] (by decide +kernel) (by decide +kernel)
set_option maxRecDepth 20000 in
theorem gX8_removeLeg_X5_hasLeg : GoodIn wsX8_removeLeg (wsV RX8 112 RX5 yX5_hasLeg wsX5_hasLeg) := goodIn_app (goodIn_of _ (by decide +kernel)) ggX8_removeLeg_X5_hasLeg
def D_X8_removeLeg : Md := (yX8_removeLeg, cX8_removeLeg, 2, (some .int), wsX8_removeLeg, RX8, { frames := 6, cells := 1, slots := 6, locals := 115 })
theorem nm_X8_removeLeg : nmD D_X8_removeLeg 1 := ⟨rfl, by decide +kernel, by decide +kernel, by decide +kernel⟩
theorem hi_X8_removeLeg_X2 : ∀ w ∈ u_ws RX2 TX2 13, w ∈ wsX8_removeLeg := by decide +kernel
theorem hi_X8_removeLeg_X4 : ∀ w ∈ u_ws RX4 TX4 4, w ∈ wsX8_removeLeg := by decide +kernel
theorem hi_X8_removeLeg_X8 : ∀ w ∈ u_ws RX8 TX8 7, w ∈ wsX8_removeLeg := by decide +kernel
theorem hl_X8_removeLeg_10 : Cond.fieldLink RX8 10 "LevelLoops" "survey" "LLevelLoops$Survey;" ∈ wsX8_removeLeg := by decide +kernel
theorem hl_X8_removeLeg_21 : Cond.fieldLink RX8 21 "LevelLoops" "study" "LLevelLoops$Study;" ∈ wsX8_removeLeg := by decide +kernel
theorem hl_X8_removeLeg_34 : Cond.fieldLink RX8 34 "LevelLoops" "history" "LLevelLoops$History;" ∈ wsX8_removeLeg := by decide +kernel
theorem hl_X8_removeLeg_115 : Cond.fieldLink RX8 115 "LevelLoops$Study" "loops" "LLevelLoops$Loops;" ∈ wsX8_removeLeg := by decide +kernel
theorem hl_X8_removeLeg_139 : Cond.fieldLink RX8 139 "LevelLoops$Loops" "size" "I" ∈ wsX8_removeLeg := by decide +kernel
def wp_X8_removeLeg (x1 : Int32) (w : Wd) (Q : Int32 → Wd → Prop) (X : String → Wd → Prop) : Prop :=
  wp_X5_hasLeg 0 x1 w (fun r5 => ((¬ r5 = 0 → wp_X1_save 0 w (fun w27 => wp_X5_dropLeg 0 x1 w27 (fun w35 => wp_X4_renew 0 w35 (fun w42 => Q (wi w42 0 12 0) w42)))) ∧ (r5 = 0 → X "java/lang/IndexOutOfBoundsException" w)))
set_option maxRecDepth 20000 in
theorem ok_throw_X8_removeLeg_11 {G : Gt} {M : Mx} {Qf : State → Prop} {L : List (Nat × Value)} {w : Wd} {X : String → Wd → Prop} (hC : cx G D_X8_removeLeg M) (hX : ex G D_X8_removeLeg M X Qf) (h : X "java/lang/IndexOutOfBoundsException" w) : jq G D_X8_removeLeg M Qf 11 L [] w := jq_throw (names := ["java/lang/RuntimeException", "java/lang/Exception"]) dX8_removeLeg_11 dX8_removeLeg_14 dX8_removeLeg_15 dX8_removeLeg_18 hC hX h (by decide +kernel) (by decide +kernel) (by decide +kernel) (by decide +kernel) (by decide +kernel) (by decide +kernel) (by decide +kernel) (by decide) (by decide)
theorem ok_X8_removeLeg {G : Gt} {M : Mx} {Qf : State → Prop} {x1 : Int32} {w : Wd} {Q : Int32 → Wd → Prop} {X : String → Wd → Prop} (hC : cx G D_X8_removeLeg M) (he : en G M (qi Q) Qf) (hX : ex G D_X8_removeLeg M X Qf) (h : wp_X8_removeLeg x1 w Q X) : jq G D_X8_removeLeg M Qf 0 [(0, .ref (aD G 0 26)), (1, .int x1)] [] w := by
  unfold wp_X8_removeLeg at h
  refine jq_aload_n (k0 := 0) dX8_removeLeg_0 hC rfl rfl ?_
  refine jq_get (k0 := 0) (n := 0) (o := 26) dX8_removeLeg_1 hC (cl_0 (by decide)) rfl rfl hi_X8_removeLeg_X8 (by decide) hl_X8_removeLeg_10 rfl rfl ?_
  refine jq_iload_n (k0 := 1) dX8_removeLeg_4 hC rfl rfl ?_
  refine jq_callV (As := [.int x1]) (rest := []) (n := 0) (o := 0) (D' := D_X5_hasLeg) dX8_removeLeg_5 hC (cl_0 (by decide)) rfl rfl rfl (mt_X5_hasLeg (by omega) h) gX8_removeLeg_X5_hasLeg rfl ⟨rfl, rfl, Nat.le_of_ble_eq_true rfl, Nat.le_of_ble_eq_true rfl⟩ nm_X5_hasLeg rfl (Nat.le_of_ble_eq_true rfl) (kIp fun r5 h => ?_)
  refine jq_if_ne (tgt := 19) dX8_removeLeg_8 hC (by decide) (fun c8 => ?_) (fun c8 => ?_)
  · have h := h.1 c8
    refine jq_aload_n (k0 := 0) dX8_removeLeg_19 hC rfl rfl ?_
    refine jq_get (k0 := 4) (n := 0) (o := 26) dX8_removeLeg_20 hC (cl_0 (by decide)) rfl rfl hi_X8_removeLeg_X8 (by decide) hl_X8_removeLeg_34 rfl rfl ?_
    refine jq_aload_n (k0 := 0) dX8_removeLeg_23 hC rfl rfl ?_
    refine jq_get (k0 := 0) (n := 0) (o := 26) dX8_removeLeg_24 hC (cl_0 (by decide)) rfl rfl hi_X8_removeLeg_X8 (by decide) hl_X8_removeLeg_10 rfl rfl ?_
    refine jq_callV (As := [.ref (aD G 0 0)]) (rest := []) (n := 0) (o := 27) (D' := D_X1_save) dX8_removeLeg_27 hC (cl_0 (by decide)) rfl rfl rfl (mt_X1_save (by omega) h) gX8_removeLeg_X1_save rfl ⟨rfl, rfl, Nat.le_of_ble_eq_true rfl, Nat.le_of_ble_eq_true rfl⟩ nm_X1_save rfl (Nat.le_of_ble_eq_true rfl) (kV fun w27 h => ?_)
    refine jq_aload_n (k0 := 0) dX8_removeLeg_30 hC rfl rfl ?_
    refine jq_get (k0 := 0) (n := 0) (o := 26) dX8_removeLeg_31 hC (cl_0 (by decide)) rfl rfl hi_X8_removeLeg_X8 (by decide) hl_X8_removeLeg_10 rfl rfl ?_
    refine jq_iload_n (k0 := 1) dX8_removeLeg_34 hC rfl rfl ?_
    refine jq_callV (As := [.int x1]) (rest := []) (n := 0) (o := 0) (D' := D_X5_dropLeg) dX8_removeLeg_35 hC (cl_0 (by decide)) rfl rfl rfl (mt_X5_dropLeg (by omega) h) gX8_removeLeg_X5_dropLeg rfl ⟨rfl, rfl, Nat.le_of_ble_eq_true rfl, Nat.le_of_ble_eq_true rfl⟩ nm_X5_dropLeg rfl (Nat.le_of_ble_eq_true rfl) (kV fun w35 h => ?_)
    refine jq_aload_n (k0 := 0) dX8_removeLeg_38 hC rfl rfl ?_
    refine jq_get (k0 := 1) (n := 0) (o := 26) dX8_removeLeg_39 hC (cl_0 (by decide)) rfl rfl hi_X8_removeLeg_X8 (by decide) hl_X8_removeLeg_21 rfl rfl ?_
    refine jq_callV (As := []) (rest := []) (n := 0) (o := 7) (D' := D_X4_renew) dX8_removeLeg_42 hC (cl_0 (by decide)) rfl rfl rfl (mt_X4_renew (by omega) h) gX8_removeLeg_X4_renew rfl ⟨rfl, rfl, Nat.le_of_ble_eq_true rfl, Nat.le_of_ble_eq_true rfl⟩ nm_X4_renew rfl (Nat.le_of_ble_eq_true rfl) (kV fun w42 h => ?_)
    refine jq_aload_n (k0 := 0) dX8_removeLeg_45 hC rfl rfl ?_
    refine jq_get (k0 := 1) (n := 0) (o := 26) dX8_removeLeg_46 hC (cl_0 (by decide)) rfl rfl hi_X8_removeLeg_X8 (by decide) hl_X8_removeLeg_21 rfl rfl ?_
    refine jq_get (k0 := 1) (n := 0) (o := 7) dX8_removeLeg_49 hC (cl_0 (by decide)) rfl rfl hi_X8_removeLeg_X4 (by decide) hl_X8_removeLeg_115 rfl rfl ?_
    refine jq_get (k0 := 0) (n := 0) (o := 12) dX8_removeLeg_52 hC (cl_0 (by decide)) rfl rfl hi_X8_removeLeg_X2 (by decide) hl_X8_removeLeg_139 rfl rfl ?_
    exact jq_iret dX8_removeLeg_55 hC he rfl ⟨_, rfl, h⟩
  · have h := h.2 c8
    exact ok_throw_X8_removeLeg_11 hC hX h
theorem mt_X8_removeLeg {G : Gt} {x1 : Int32} {w : Wd} {Q : Int32 → Wd → Prop} {X : String → Wd → Prop} (h : wp_X8_removeLeg x1 w Q X) : MtX G D_X8_removeLeg [.ref (aD G 0 26), .int x1] w (qi Q) X := MtX_of (by decide +kernel) rfl rfl (Nat.le_of_ble_eq_true rfl) (fun M Qf hC he hX => ok_X8_removeLeg hC he hX h)
/-! X8.set(II)I -/
theorem dX8_set_0 : decode cX8_set 0 = .ok (.iload_n 1, 1) := by decide +kernel
theorem dX8_set_1 : decode cX8_set 1 = .ok (.invokestatic 142, 3) := by decide +kernel
theorem dX8_set_4 : decode cX8_set 4 = .ok (.ifCond .ne 11, 3) := by decide +kernel
theorem dX8_set_7 : decode cX8_set 7 = .ok (.new 78, 3) := by decide +kernel
theorem dX8_set_10 : decode cX8_set 10 = .ok (.dup, 1) := by decide +kernel
theorem dX8_set_11 : decode cX8_set 11 = .ok (.invokespecial 80, 3) := by decide +kernel
theorem dX8_set_14 : decode cX8_set 14 = .ok (.athrow, 1) := by decide +kernel
theorem dX8_set_15 : decode cX8_set 15 = .ok (.iload_n 2, 1) := by decide +kernel
theorem dX8_set_16 : decode cX8_set 16 = .ok (.ifCond .lt 20, 3) := by decide +kernel
theorem dX8_set_19 : decode cX8_set 19 = .ok (.iload_n 2, 1) := by decide +kernel
theorem dX8_set_20 : decode cX8_set 20 = .ok (.iload_n 1, 1) := by decide +kernel
theorem dX8_set_21 : decode cX8_set 21 = .ok (.iconst 2, 1) := by decide +kernel
theorem dX8_set_22 : decode cX8_set 22 = .ok (.if_icmp .ne 9, 3) := by decide +kernel
theorem dX8_set_25 : decode cX8_set 25 = .ok (.sipush 999, 3) := by decide +kernel
theorem dX8_set_28 : decode cX8_set 28 = .ok (.goto 5, 3) := by decide +kernel
theorem dX8_set_31 : decode cX8_set 31 = .ok (.bipush 99, 2) := by decide +kernel
theorem dX8_set_33 : decode cX8_set 33 = .ok (.if_icmp .le 11, 3) := by decide +kernel
theorem dX8_set_36 : decode cX8_set 36 = .ok (.new 56, 3) := by decide +kernel
theorem dX8_set_39 : decode cX8_set 39 = .ok (.dup, 1) := by decide +kernel
theorem dX8_set_40 : decode cX8_set 40 = .ok (.invokespecial 58, 3) := by decide +kernel
theorem dX8_set_43 : decode cX8_set 43 = .ok (.athrow, 1) := by decide +kernel
theorem dX8_set_44 : decode cX8_set 44 = .ok (.aload_n 0, 1) := by decide +kernel
theorem dX8_set_45 : decode cX8_set 45 = .ok (.getfield 34, 3) := by decide +kernel
theorem dX8_set_48 : decode cX8_set 48 = .ok (.aload_n 0, 1) := by decide +kernel
theorem dX8_set_49 : decode cX8_set 49 = .ok (.getfield 10, 3) := by decide +kernel
theorem dX8_set_52 : decode cX8_set 52 = .ok (.invokevirtual 66, 3) := by decide +kernel
theorem dX8_set_55 : decode cX8_set 55 = .ok (.aload_n 0, 1) := by decide +kernel
theorem dX8_set_56 : decode cX8_set 56 = .ok (.getfield 10, 3) := by decide +kernel
theorem dX8_set_59 : decode cX8_set 59 = .ok (.getfield 145, 3) := by decide +kernel
theorem dX8_set_62 : decode cX8_set 62 = .ok (.iload_n 1, 1) := by decide +kernel
theorem dX8_set_63 : decode cX8_set 63 = .ok (.iaload, 1) := by decide +kernel
theorem dX8_set_64 : decode cX8_set 64 = .ok (.istore_n 3, 1) := by decide +kernel
theorem dX8_set_65 : decode cX8_set 65 = .ok (.aload_n 0, 1) := by decide +kernel
theorem dX8_set_66 : decode cX8_set 66 = .ok (.getfield 10, 3) := by decide +kernel
theorem dX8_set_69 : decode cX8_set 69 = .ok (.getfield 145, 3) := by decide +kernel
theorem dX8_set_72 : decode cX8_set 72 = .ok (.iload_n 1, 1) := by decide +kernel
theorem dX8_set_73 : decode cX8_set 73 = .ok (.iload_n 2, 1) := by decide +kernel
theorem dX8_set_74 : decode cX8_set 74 = .ok (.iastore, 1) := by decide +kernel
theorem dX8_set_75 : decode cX8_set 75 = .ok (.aload_n 0, 1) := by decide +kernel
theorem dX8_set_76 : decode cX8_set 76 = .ok (.getfield 21, 3) := by decide +kernel
theorem dX8_set_79 : decode cX8_set 79 = .ok (.invokevirtual 72, 3) := by decide +kernel
theorem dX8_set_82 : decode cX8_set 82 = .ok (.iload_n 3, 1) := by decide +kernel
theorem dX8_set_83 : decode cX8_set 83 = .ok (.ireturn, 1) := by decide +kernel
set_option maxRecDepth 20000 in
theorem ggX8_set_X4_renew : GoodIn wsX8_set wsX4_renew := goodIn_r _ [45, 46, 47, 48, 49, 50, 51, 52, 53, 54, 55, 56, 57, 58, 59, 60, 61, 62, 63, 64, 65, 66, 67, 68, 69, 70, 71, 72, 73, 74, 75, 76, 77, 78, 79, 80, 81, 82, 83, 84, 11, 85, 86, 87, 88, 89, 90, 91, 92, 93, 94, 95, 96, 97, 98, 99, 100, 101, 102, 103, 104, 105, 106, 107, 108, 109, 110, 111, 112, 113, 114, 115, 116, 117, 118, 119, 120, 121, 27, 122, 30, 39, 123, 124, 125, 126, 127, 128, 129, 130, 131, 132, 133, 134, 135, 136, 137, 138, 139, 140, 141, 142, 143, 144, 145, 146, 147, 148, 149, 150, 151, 152, 153, 154, 155, 156, 157, 158, 159, 160, 161, 162, 163, 164, 165, 166, 167, 168, 169, 170, 171, 172, 173, 174, 175, 176, 177, 178, 179, 180, 181, 182, 183, 184, 185, 186, 187, 188, 189, 190, 191, 192, 210, 211, 212, 213, 214, 215, 216, 217, 218, 219, 200, 201, 202, 203, 204, 205, 206, 207, 220, 221, 222, 223, 224, 225, 226, 227, 228, 229, 230, 231, 232, 233, 234, 235, 236, 237, 238] (by decide +kernel) (by decide +kernel)
set_option maxRecDepth 20000 in
theorem gX8_set_X4_renew : GoodIn wsX8_set (wsV RX8 72 RX4 yX4_renew wsX4_renew) := goodIn_app (goodIn_of _ (by decide +kernel)) ggX8_set_X4_renew
set_option maxRecDepth 20000 in
theorem ggX8_set_X1_save : GoodIn wsX8_set wsX1_save := goodIn_r _ [17, 18, 19, 20, 21, 22, 16, 23, 24, 25, 26, 27, 28, 29, 30, 31, 32, 33, 34, 35, 36, 37, 38, 39, 40, 208, 209, 200, 201, 202, 203, 204, 205, 206, 207] (by decide +kernel) (by decide +kernel)
set_option maxRecDepth 20000 in
theorem gX8_set_X1_save : GoodIn wsX8_set (wsV RX8 66 RX1 yX1_save wsX1_save) := goodIn_app (goodIn_of _ (by decide +kernel)) ggX8_set_X1_save
set_option maxRecDepth 20000 in
theorem ggX8_set_X8_isSetting : GoodIn wsX8_set wsX8_isSetting := goodIn_r _ [12] (by decide +kernel) (by decide +kernel)
set_option maxRecDepth 20000 in
theorem gX8_set_X8_isSetting : GoodIn wsX8_set (va_wsS RX8 142 yX8_isSetting wsX8_isSetting) := goodIn_app (goodIn_of _ (by decide +kernel)) ggX8_set_X8_isSetting
def D_X8_set : Md := (yX8_set, cX8_set, 4, (some .int), wsX8_set, RX8, { frames := 6, cells := 1, slots := 6, locals := 115 })
theorem nm_X8_set : nmD D_X8_set 2 := ⟨rfl, by decide +kernel, by decide +kernel, by decide +kernel⟩
theorem hi_X8_set_X5 : ∀ w ∈ u_ws RX5 TX5 8, w ∈ wsX8_set := by decide +kernel
theorem hi_X8_set_X8 : ∀ w ∈ u_ws RX8 TX8 7, w ∈ wsX8_set := by decide +kernel
theorem hl_X8_set_10 : Cond.fieldLink RX8 10 "LevelLoops" "survey" "LLevelLoops$Survey;" ∈ wsX8_set := by decide +kernel
theorem hl_X8_set_21 : Cond.fieldLink RX8 21 "LevelLoops" "study" "LLevelLoops$Study;" ∈ wsX8_set := by decide +kernel
theorem hl_X8_set_34 : Cond.fieldLink RX8 34 "LevelLoops" "history" "LLevelLoops$History;" ∈ wsX8_set := by decide +kernel
theorem hl_X8_set_145 : Cond.fieldLink RX8 145 "LevelLoops$Survey" "settings" "[I" ∈ wsX8_set := by decide +kernel
def wp_X8_set_J36 (w : Wd) (Q : Int32 → Wd → Prop) (X : String → Wd → Prop) : Prop :=
  X "java/lang/IllegalArgumentException" w
def wp_X8_set_J33 (x1 : Int32) (x2 : Int32) (s0 : Int32) (s1 : Int32) (w : Wd) (Q : Int32 → Wd → Prop) (X : String → Wd → Prop) : Prop :=
  ((s1 ≤ s0 → wp_X1_save 0 w (fun w52 => vp_in x1 3 ∧ vp_in x1 3 ∧ (∀ w74 : Wd, w74 = (sI w52 0 6 x1.toNatClampNeg x2) → wp_X4_renew 0 w74 (fun w79 => Q (wi w52 0 6 x1.toNatClampNeg) w79)))) ∧ (¬ s1 ≤ s0 → wp_X8_set_J36 w Q X))
def wp_X8_set (x1 : Int32) (x2 : Int32) (w : Wd) (Q : Int32 → Wd → Prop) (X : String → Wd → Prop) : Prop :=
  wp_X8_isSetting x1 (fun r1 => ((¬ r1 = 0 → ((x2 < 0 → wp_X8_set_J36 w Q X) ∧ (¬ x2 < 0 → ((¬ x1 = (2 : Int32) → wp_X8_set_J33 x1 x2 (99 : Int32) x2 w Q X) ∧ (x1 = (2 : Int32) → wp_X8_set_J33 x1 x2 (999 : Int32) x2 w Q X))))) ∧ (r1 = 0 → X "java/lang/IndexOutOfBoundsException" w)))
set_option maxRecDepth 20000 in
theorem ok_throw_X8_set_36 {G : Gt} {M : Mx} {Qf : State → Prop} {L : List (Nat × Value)} {w : Wd} {X : String → Wd → Prop} (hC : cx G D_X8_set M) (hX : ex G D_X8_set M X Qf) (h : X "java/lang/IllegalArgumentException" w) : jq G D_X8_set M Qf 36 L [] w := jq_throw (names := ["java/lang/RuntimeException", "java/lang/Exception"]) dX8_set_36 dX8_set_39 dX8_set_40 dX8_set_43 hC hX h (by decide +kernel) (by decide +kernel) (by decide +kernel) (by decide +kernel) (by decide +kernel) (by decide +kernel) (by decide +kernel) (by decide) (by decide)
set_option maxRecDepth 20000 in
theorem ok_throw_X8_set_7 {G : Gt} {M : Mx} {Qf : State → Prop} {L : List (Nat × Value)} {w : Wd} {X : String → Wd → Prop} (hC : cx G D_X8_set M) (hX : ex G D_X8_set M X Qf) (h : X "java/lang/IndexOutOfBoundsException" w) : jq G D_X8_set M Qf 7 L [] w := jq_throw (names := ["java/lang/RuntimeException", "java/lang/Exception"]) dX8_set_7 dX8_set_10 dX8_set_11 dX8_set_14 hC hX h (by decide +kernel) (by decide +kernel) (by decide +kernel) (by decide +kernel) (by decide +kernel) (by decide +kernel) (by decide +kernel) (by decide) (by decide)
theorem ok_X8_set_J36 {G : Gt} {M : Mx} {Qf : State → Prop} {w : Wd} {Q : Int32 → Wd → Prop} {X : String → Wd → Prop} (hC : cx G D_X8_set M) (he : en G M (qi Q) Qf) (hX : ex G D_X8_set M X Qf) (h : wp_X8_set_J36 w Q X) : jq G D_X8_set M Qf 36 [] [] w := by
  unfold wp_X8_set_J36 at h
  exact ok_throw_X8_set_36 hC hX h
theorem ok_X8_set_J33 {G : Gt} {M : Mx} {Qf : State → Prop} {x1 : Int32} {x2 : Int32} {s0 : Int32} {s1 : Int32} {w : Wd} {Q : Int32 → Wd → Prop} {X : String → Wd → Prop} (hC : cx G D_X8_set M) (he : en G M (qi Q) Qf) (hX : ex G D_X8_set M X Qf) (h : wp_X8_set_J33 x1 x2 s0 s1 w Q X) : jq G D_X8_set M Qf 33 [(0, .ref (aD G 0 26)), (1, .int x1), (2, .int x2)] [.int s0, .int s1] w := by
  unfold wp_X8_set_J33 at h
  refine jq_icmp_le (tgt := 44) dX8_set_33 hC (by decide) (fun c33 => ?_) (fun c33 => ?_)
  · have h := h.1 c33
    refine jq_aload_n (k0 := 0) dX8_set_44 hC rfl rfl ?_
    refine jq_get (k0 := 4) (n := 0) (o := 26) dX8_set_45 hC (cl_0 (by decide)) rfl rfl hi_X8_set_X8 (by decide) hl_X8_set_34 rfl rfl ?_
    refine jq_aload_n (k0 := 0) dX8_set_48 hC rfl rfl ?_
    refine jq_get (k0 := 0) (n := 0) (o := 26) dX8_set_49 hC (cl_0 (by decide)) rfl rfl hi_X8_set_X8 (by decide) hl_X8_set_10 rfl rfl ?_
    refine jq_callV (As := [.ref (aD G 0 0)]) (rest := []) (n := 0) (o := 27) (D' := D_X1_save) dX8_set_52 hC (cl_0 (by decide)) rfl rfl rfl (mt_X1_save (by omega) h) gX8_set_X1_save rfl ⟨rfl, rfl, Nat.le_of_ble_eq_true rfl, Nat.le_of_ble_eq_true rfl⟩ nm_X1_save rfl (Nat.le_of_ble_eq_true rfl) (kV fun w52 h => ?_)
    refine jq_aload_n (k0 := 0) dX8_set_55 hC rfl rfl ?_
    refine jq_get (k0 := 0) (n := 0) (o := 26) dX8_set_56 hC (cl_0 (by decide)) rfl rfl hi_X8_set_X8 (by decide) hl_X8_set_10 rfl rfl ?_
    refine jq_get (k0 := 7) (n := 0) (o := 0) dX8_set_59 hC (cl_0 (by decide)) rfl rfl hi_X8_set_X5 (by decide) hl_X8_set_145 rfl rfl ?_
    refine jq_iload_n (k0 := 1) dX8_set_62 hC rfl rfl ?_
    obtain ⟨b63, h⟩ := h
    refine jq_iald (n := 0) (o := 6) (j := x1.toNatClampNeg) dX8_set_63 hC (cl_0 (by decide)) rfl b63 rfl ?_
    refine jq_istore_n (L' := [(3, .int (wi w52 0 6 x1.toNatClampNeg)), (0, .ref (aD G 0 26)), (1, .int x1), (2, .int x2)]) dX8_set_64 hC rfl (by decide) rfl ?_
    refine jq_aload_n (k0 := 1) dX8_set_65 hC rfl rfl ?_
    refine jq_get (k0 := 0) (n := 0) (o := 26) dX8_set_66 hC (cl_0 (by decide)) rfl rfl hi_X8_set_X8 (by decide) hl_X8_set_10 rfl rfl ?_
    refine jq_get (k0 := 7) (n := 0) (o := 0) dX8_set_69 hC (cl_0 (by decide)) rfl rfl hi_X8_set_X5 (by decide) hl_X8_set_145 rfl rfl ?_
    refine jq_iload_n (k0 := 2) dX8_set_72 hC rfl rfl ?_
    refine jq_iload_n (k0 := 3) dX8_set_73 hC rfl rfl ?_
    obtain ⟨b74, h⟩ := h
    refine jq_iast (n := 0) (o := 6) (j := x1.toNatClampNeg) dX8_set_74 hC (cl_0 (by decide)) (fun _ => rfl) b74 rfl ?_
    refine jq_w (fun w74 e74 => ?_)
    have h := h w74 e74
    refine jq_aload_n (k0 := 1) dX8_set_75 hC rfl rfl ?_
    refine jq_get (k0 := 1) (n := 0) (o := 26) dX8_set_76 hC (cl_0 (by decide)) rfl rfl hi_X8_set_X8 (by decide) hl_X8_set_21 rfl rfl ?_
    refine jq_callV (As := []) (rest := []) (n := 0) (o := 7) (D' := D_X4_renew) dX8_set_79 hC (cl_0 (by decide)) rfl rfl rfl (mt_X4_renew (by omega) h) gX8_set_X4_renew rfl ⟨rfl, rfl, Nat.le_of_ble_eq_true rfl, Nat.le_of_ble_eq_true rfl⟩ nm_X4_renew rfl (Nat.le_of_ble_eq_true rfl) (kV fun w79 h => ?_)
    refine jq_iload_n (k0 := 0) dX8_set_82 hC rfl rfl ?_
    exact jq_iret dX8_set_83 hC he rfl ⟨_, rfl, h⟩
  · have h := h.2 c33
    refine jq_less (L' := []) [] rfl ?_
    exact ok_X8_set_J36 hC he hX h
theorem ok_X8_set {G : Gt} {M : Mx} {Qf : State → Prop} {x1 : Int32} {x2 : Int32} {w : Wd} {Q : Int32 → Wd → Prop} {X : String → Wd → Prop} (hC : cx G D_X8_set M) (he : en G M (qi Q) Qf) (hX : ex G D_X8_set M X Qf) (h : wp_X8_set x1 x2 w Q X) : jq G D_X8_set M Qf 0 [(0, .ref (aD G 0 26)), (1, .int x1), (2, .int x2)] [] w := by
  unfold wp_X8_set at h
  refine jq_iload_n (k0 := 1) dX8_set_0 hC rfl rfl ?_
  refine jq_callS (As := [.int x1]) (rest := []) (D' := D_X8_isSetting) dX8_set_1 hC (mt_X8_isSetting h) gX8_set_X8_isSetting rfl ⟨rfl, rfl, Nat.le_of_ble_eq_true rfl, Nat.le_of_ble_eq_true rfl⟩ nm_X8_isSetting rfl (Nat.le_of_ble_eq_true rfl) (kIp fun r1 h => ?_)
  refine jq_if_ne (tgt := 15) dX8_set_4 hC (by decide) (fun c4 => ?_) (fun c4 => ?_)
  · have h := h.1 c4
    refine jq_iload_n (k0 := 2) dX8_set_15 hC rfl rfl ?_
    refine jq_if_lt (tgt := 36) dX8_set_16 hC (by decide) (fun c16 => ?_) (fun c16 => ?_)
    · have h := h.1 c16
      refine jq_less (L' := []) [] rfl ?_
      exact ok_X8_set_J36 hC he hX h
    · have h := h.2 c16
      refine jq_iload_n (k0 := 2) dX8_set_19 hC rfl rfl ?_
      refine jq_iload_n (k0 := 1) dX8_set_20 hC rfl rfl ?_
      refine jq_iconst (v := (2 : Int32)) dX8_set_21 hC (by decide) ?_
      refine jq_icmp_ne (tgt := 31) dX8_set_22 hC (by decide) (fun c22 => ?_) (fun c22 => ?_)
      · have h := h.1 c22
        refine jq_bipush (v := (99 : Int32)) dX8_set_31 hC (by decide) ?_
        refine jq_less (L' := [(0, .ref (aD G 0 26)), (1, .int x1), (2, .int x2)]) [0, 1, 2] rfl ?_
        exact ok_X8_set_J33 hC he hX h
      · have h := h.2 c22
        refine jq_sipush (v := (999 : Int32)) dX8_set_25 hC (by decide) ?_
        refine jq_goto (tgt := 33) dX8_set_28 hC (by decide) ?_
        refine jq_less (L' := [(0, .ref (aD G 0 26)), (1, .int x1), (2, .int x2)]) [0, 1, 2] rfl ?_
        exact ok_X8_set_J33 hC he hX h
  · have h := h.2 c4
    exact ok_throw_X8_set_7 hC hX h
theorem mt_X8_set {G : Gt} {x1 : Int32} {x2 : Int32} {w : Wd} {Q : Int32 → Wd → Prop} {X : String → Wd → Prop} (h : wp_X8_set x1 x2 w Q X) : MtX G D_X8_set [.ref (aD G 0 26), .int x1, .int x2] w (qi Q) X := MtX_of (by decide +kernel) rfl rfl (Nat.le_of_ble_eq_true rfl) (fun M Qf hC he hX => ok_X8_set hC he hX h)
/-! X8.append(I)I -/
theorem dX8_append_0 : decode cX8_append 0 = .ok (.iload_n 1, 1) := by decide +kernel
theorem dX8_append_1 : decode cX8_append 1 = .ok (.bipush 33, 2) := by decide +kernel
theorem dX8_append_3 : decode cX8_append 3 = .ok (.if_icmp .lt 9, 3) := by decide +kernel
theorem dX8_append_6 : decode cX8_append 6 = .ok (.iload_n 1, 1) := by decide +kernel
theorem dX8_append_7 : decode cX8_append 7 = .ok (.bipush 126, 2) := by decide +kernel
theorem dX8_append_9 : decode cX8_append 9 = .ok (.if_icmp .le 11, 3) := by decide +kernel
theorem dX8_append_12 : decode cX8_append 12 = .ok (.new 56, 3) := by decide +kernel
theorem dX8_append_15 : decode cX8_append 15 = .ok (.dup, 1) := by decide +kernel
theorem dX8_append_16 : decode cX8_append 16 = .ok (.invokespecial 58, 3) := by decide +kernel
theorem dX8_append_19 : decode cX8_append 19 = .ok (.athrow, 1) := by decide +kernel
theorem dX8_append_20 : decode cX8_append 20 = .ok (.aload_n 0, 1) := by decide +kernel
theorem dX8_append_21 : decode cX8_append 21 = .ok (.getfield 41, 3) := by decide +kernel
theorem dX8_append_24 : decode cX8_append 24 = .ok (.getfield 148, 3) := by decide +kernel
theorem dX8_append_27 : decode cX8_append 27 = .ok (.bipush 60, 2) := by decide +kernel
theorem dX8_append_29 : decode cX8_append 29 = .ok (.if_icmp .lt 11, 3) := by decide +kernel
theorem dX8_append_32 : decode cX8_append 32 = .ok (.new 63, 3) := by decide +kernel
theorem dX8_append_35 : decode cX8_append 35 = .ok (.dup, 1) := by decide +kernel
theorem dX8_append_36 : decode cX8_append 36 = .ok (.invokespecial 65, 3) := by decide +kernel
theorem dX8_append_39 : decode cX8_append 39 = .ok (.athrow, 1) := by decide +kernel
theorem dX8_append_40 : decode cX8_append 40 = .ok (.aload_n 0, 1) := by decide +kernel
theorem dX8_append_41 : decode cX8_append 41 = .ok (.getfield 41, 3) := by decide +kernel
theorem dX8_append_44 : decode cX8_append 44 = .ok (.iload_n 1, 1) := by decide +kernel
theorem dX8_append_45 : decode cX8_append 45 = .ok (.invokevirtual 149, 3) := by decide +kernel
theorem dX8_append_48 : decode cX8_append 48 = .ok (.aload_n 0, 1) := by decide +kernel
theorem dX8_append_49 : decode cX8_append 49 = .ok (.getfield 41, 3) := by decide +kernel
theorem dX8_append_52 : decode cX8_append 52 = .ok (.getfield 148, 3) := by decide +kernel
theorem dX8_append_55 : decode cX8_append 55 = .ok (.ireturn, 1) := by decide +kernel
set_option maxRecDepth 20000 in
theorem ggX8_append_X6_put : GoodIn wsX8_append wsX6_put := goodIn_r _ [11, 12, 13, 21, 22] (by decide +kernel) (by decide +kernel)
set_option maxRecDepth 20000 in
theorem gX8_append_X6_put : GoodIn wsX8_append (wsV RX8 149 RX6 yX6_put wsX6_put) := goodIn_app (goodIn_of _ (by decide +kernel)) ggX8_append_X6_put
def D_X8_append : Md := (yX8_append, cX8_append, 2, (some .int), wsX8_append, RX8, { frames := 6, cells := 1, slots := 6, locals := 81 })
theorem nm_X8_append : nmD D_X8_append 1 := ⟨rfl, by decide +kernel, by decide +kernel, by decide +kernel⟩
theorem hi_X8_append_X6 : ∀ w ∈ u_ws RX6 TX6 2, w ∈ wsX8_append := by decide +kernel
theorem hi_X8_append_X8 : ∀ w ∈ u_ws RX8 TX8 7, w ∈ wsX8_append := by decide +kernel
theorem hl_X8_append_41 : Cond.fieldLink RX8 41 "LevelLoops" "text" "LLevelLoops$Text;" ∈ wsX8_append := by decide +kernel
theorem hl_X8_append_148 : Cond.fieldLink RX8 148 "LevelLoops$Text" "size" "I" ∈ wsX8_append := by decide +kernel
def wp_X8_append_J12 (w : Wd) (Q : Int32 → Wd → Prop) (X : String → Wd → Prop) : Prop :=
  X "java/lang/IllegalArgumentException" w
def wp_X8_append (x1 : Int32) (w : Wd) (Q : Int32 → Wd → Prop) (X : String → Wd → Prop) : Prop :=
  ((x1 < (33 : Int32) → wp_X8_append_J12 w Q X) ∧ (¬ x1 < (33 : Int32) → ((x1 ≤ (126 : Int32) → (((wi w 0 29 0) < (60 : Int32) → wp_X6_put x1 w (fun w45 => Q (wi w45 0 29 0) w45)) ∧ (¬ (wi w 0 29 0) < (60 : Int32) → X "java/lang/IllegalStateException" w))) ∧ (¬ x1 ≤ (126 : Int32) → wp_X8_append_J12 w Q X))))
set_option maxRecDepth 20000 in
theorem ok_throw_X8_append_12 {G : Gt} {M : Mx} {Qf : State → Prop} {L : List (Nat × Value)} {w : Wd} {X : String → Wd → Prop} (hC : cx G D_X8_append M) (hX : ex G D_X8_append M X Qf) (h : X "java/lang/IllegalArgumentException" w) : jq G D_X8_append M Qf 12 L [] w := jq_throw (names := ["java/lang/RuntimeException", "java/lang/Exception"]) dX8_append_12 dX8_append_15 dX8_append_16 dX8_append_19 hC hX h (by decide +kernel) (by decide +kernel) (by decide +kernel) (by decide +kernel) (by decide +kernel) (by decide +kernel) (by decide +kernel) (by decide) (by decide)
set_option maxRecDepth 20000 in
theorem ok_throw_X8_append_32 {G : Gt} {M : Mx} {Qf : State → Prop} {L : List (Nat × Value)} {w : Wd} {X : String → Wd → Prop} (hC : cx G D_X8_append M) (hX : ex G D_X8_append M X Qf) (h : X "java/lang/IllegalStateException" w) : jq G D_X8_append M Qf 32 L [] w := jq_throw (names := ["java/lang/RuntimeException", "java/lang/Exception"]) dX8_append_32 dX8_append_35 dX8_append_36 dX8_append_39 hC hX h (by decide +kernel) (by decide +kernel) (by decide +kernel) (by decide +kernel) (by decide +kernel) (by decide +kernel) (by decide +kernel) (by decide) (by decide)
theorem ok_X8_append_J12 {G : Gt} {M : Mx} {Qf : State → Prop} {w : Wd} {Q : Int32 → Wd → Prop} {X : String → Wd → Prop} (hC : cx G D_X8_append M) (he : en G M (qi Q) Qf) (hX : ex G D_X8_append M X Qf) (h : wp_X8_append_J12 w Q X) : jq G D_X8_append M Qf 12 [] [] w := by
  unfold wp_X8_append_J12 at h
  exact ok_throw_X8_append_12 hC hX h
theorem ok_X8_append {G : Gt} {M : Mx} {Qf : State → Prop} {x1 : Int32} {w : Wd} {Q : Int32 → Wd → Prop} {X : String → Wd → Prop} (hC : cx G D_X8_append M) (he : en G M (qi Q) Qf) (hX : ex G D_X8_append M X Qf) (h : wp_X8_append x1 w Q X) : jq G D_X8_append M Qf 0 [(0, .ref (aD G 0 26)), (1, .int x1)] [] w := by
  unfold wp_X8_append at h
  refine jq_iload_n (k0 := 1) dX8_append_0 hC rfl rfl ?_
  refine jq_bipush (v := (33 : Int32)) dX8_append_1 hC (by decide) ?_
  refine jq_icmp_lt (tgt := 12) dX8_append_3 hC (by decide) (fun c3 => ?_) (fun c3 => ?_)
  · have h := h.1 c3
    refine jq_less (L' := []) [] rfl ?_
    exact ok_X8_append_J12 hC he hX h
  · have h := h.2 c3
    refine jq_iload_n (k0 := 1) dX8_append_6 hC rfl rfl ?_
    refine jq_bipush (v := (126 : Int32)) dX8_append_7 hC (by decide) ?_
    refine jq_icmp_le (tgt := 20) dX8_append_9 hC (by decide) (fun c9 => ?_) (fun c9 => ?_)
    · have h := h.1 c9
      refine jq_aload_n (k0 := 0) dX8_append_20 hC rfl rfl ?_
      refine jq_get (k0 := 5) (n := 0) (o := 26) dX8_append_21 hC (cl_0 (by decide)) rfl rfl hi_X8_append_X8 (by decide) hl_X8_append_41 rfl rfl ?_
      refine jq_get (k0 := 0) (n := 0) (o := 29) dX8_append_24 hC (cl_0 (by decide)) rfl rfl hi_X8_append_X6 (by decide) hl_X8_append_148 rfl rfl ?_
      refine jq_bipush (v := (60 : Int32)) dX8_append_27 hC (by decide) ?_
      refine jq_icmp_lt (tgt := 40) dX8_append_29 hC (by decide) (fun c29 => ?_) (fun c29 => ?_)
      · have h := h.1 c29
        refine jq_aload_n (k0 := 0) dX8_append_40 hC rfl rfl ?_
        refine jq_get (k0 := 5) (n := 0) (o := 26) dX8_append_41 hC (cl_0 (by decide)) rfl rfl hi_X8_append_X8 (by decide) hl_X8_append_41 rfl rfl ?_
        refine jq_iload_n (k0 := 1) dX8_append_44 hC rfl rfl ?_
        refine jq_callV (As := [.int x1]) (rest := []) (n := 0) (o := 29) (D' := D_X6_put) dX8_append_45 hC (cl_0 (by decide)) rfl rfl rfl (mt_X6_put h) gX8_append_X6_put rfl ⟨rfl, rfl, Nat.le_of_ble_eq_true rfl, Nat.le_of_ble_eq_true rfl⟩ nm_X6_put rfl (Nat.le_of_ble_eq_true rfl) (kV fun w45 h => ?_)
        refine jq_aload_n (k0 := 0) dX8_append_48 hC rfl rfl ?_
        refine jq_get (k0 := 5) (n := 0) (o := 26) dX8_append_49 hC (cl_0 (by decide)) rfl rfl hi_X8_append_X8 (by decide) hl_X8_append_41 rfl rfl ?_
        refine jq_get (k0 := 0) (n := 0) (o := 29) dX8_append_52 hC (cl_0 (by decide)) rfl rfl hi_X8_append_X6 (by decide) hl_X8_append_148 rfl rfl ?_
        exact jq_iret dX8_append_55 hC he rfl ⟨_, rfl, h⟩
      · have h := h.2 c29
        exact ok_throw_X8_append_32 hC hX h
    · have h := h.2 c9
      refine jq_less (L' := []) [] rfl ?_
      exact ok_X8_append_J12 hC he hX h
theorem mt_X8_append {G : Gt} {x1 : Int32} {w : Wd} {Q : Int32 → Wd → Prop} {X : String → Wd → Prop} (h : wp_X8_append x1 w Q X) : MtX G D_X8_append [.ref (aD G 0 26), .int x1] w (qi Q) X := MtX_of (by decide +kernel) rfl rfl (Nat.le_of_ble_eq_true rfl) (fun M Qf hC he hX => ok_X8_append hC he hX h)
/-! X8.book()I -/
theorem dX8_book_0 : decode cX8_book 0 = .ok (.aload_n 0, 1) := by decide +kernel
theorem dX8_book_1 : decode cX8_book 1 = .ok (.invokevirtual 152, 3) := by decide +kernel
theorem dX8_book_4 : decode cX8_book 4 = .ok (.aload_n 0, 1) := by decide +kernel
theorem dX8_book_5 : decode cX8_book 5 = .ok (.getfield 41, 3) := by decide +kernel
theorem dX8_book_8 : decode cX8_book 8 = .ok (.getfield 148, 3) := by decide +kernel
theorem dX8_book_11 : decode cX8_book 11 = .ok (.if_icmp .lt 13, 3) := by decide +kernel
theorem dX8_book_14 : decode cX8_book 14 = .ok (.aload_n 0, 1) := by decide +kernel
theorem dX8_book_15 : decode cX8_book 15 = .ok (.getfield 48, 3) := by decide +kernel
theorem dX8_book_18 : decode cX8_book 18 = .ok (.invokevirtual 155, 3) := by decide +kernel
theorem dX8_book_21 : decode cX8_book 21 = .ok (.ifCond .ne 11, 3) := by decide +kernel
theorem dX8_book_24 : decode cX8_book 24 = .ok (.new 56, 3) := by decide +kernel
theorem dX8_book_27 : decode cX8_book 27 = .ok (.dup, 1) := by decide +kernel
theorem dX8_book_28 : decode cX8_book 28 = .ok (.invokespecial 58, 3) := by decide +kernel
theorem dX8_book_31 : decode cX8_book 31 = .ok (.athrow, 1) := by decide +kernel
theorem dX8_book_32 : decode cX8_book 32 = .ok (.aload_n 0, 1) := by decide +kernel
theorem dX8_book_33 : decode cX8_book 33 = .ok (.getfield 34, 3) := by decide +kernel
theorem dX8_book_36 : decode cX8_book 36 = .ok (.aload_n 0, 1) := by decide +kernel
theorem dX8_book_37 : decode cX8_book 37 = .ok (.getfield 10, 3) := by decide +kernel
theorem dX8_book_40 : decode cX8_book 40 = .ok (.invokevirtual 66, 3) := by decide +kernel
theorem dX8_book_43 : decode cX8_book 43 = .ok (.aload_n 0, 1) := by decide +kernel
theorem dX8_book_44 : decode cX8_book 44 = .ok (.invokevirtual 159, 3) := by decide +kernel
theorem dX8_book_47 : decode cX8_book 47 = .ok (.istore_n 1, 1) := by decide +kernel
theorem dX8_book_48 : decode cX8_book 48 = .ok (.aload_n 0, 1) := by decide +kernel
theorem dX8_book_49 : decode cX8_book 49 = .ok (.getfield 41, 3) := by decide +kernel
theorem dX8_book_52 : decode cX8_book 52 = .ok (.iconst 0, 1) := by decide +kernel
theorem dX8_book_53 : decode cX8_book 53 = .ok (.putfield 148, 3) := by decide +kernel
theorem dX8_book_56 : decode cX8_book 56 = .ok (.aload_n 0, 1) := by decide +kernel
theorem dX8_book_57 : decode cX8_book 57 = .ok (.getfield 21, 3) := by decide +kernel
theorem dX8_book_60 : decode cX8_book 60 = .ok (.invokevirtual 72, 3) := by decide +kernel
theorem dX8_book_63 : decode cX8_book 63 = .ok (.iload_n 1, 1) := by decide +kernel
theorem dX8_book_64 : decode cX8_book 64 = .ok (.ireturn, 1) := by decide +kernel
set_option maxRecDepth 20000 in
theorem ggX8_book_X4_renew : GoodIn wsX8_book wsX4_renew := goodIn_r _ [135, 136, 137, 138, 139, 140, 141, 142, 143, 144, 145, 146, 147, 148, 149, 150, 151, 152, 153, 154, 155, 156, 157, 158, 159, 160, 161, 162, 163, 164, 165, 166, 167, 168, 169, 170, 171, 172, 173, 174, 12, 175, 176, 177, 178, 179, 180, 181, 182, 183, 184, 185, 186, 187, 188, 189, 190, 191, 192, 193, 194, 195, 196, 197, 198, 199, 200, 201, 202, 203, 204, 205, 206, 207, 208, 209, 210, 211, 88, 212, 91, 100, 213, 214, 215, 216, 217, 218, 219, 220, 221, 222, 223, 224, 225, 226, 227, 228, 229, 230, 231, 232, 233, 234, 235, 236, 237, 238, 239, 240, 241, 242, 243, 244, 245, 246, 247, 248, 249, 250, 251, 252, 253, 254, 255, 256, 257, 258, 259, 260, 261, 262, 263, 264, 265, 266, 267, 268, 269, 270, 271, 272, 273, 274, 275, 276, 277, 278, 279, 280, 281, 282, 308, 309, 310, 311, 312, 313, 314, 315, 316, 317, 300, 301, 302, 303, 304, 305, 306, 307, 318, 319, 320, 321, 322, 323, 324, 325, 326, 327, 328, 329, 330, 331, 332, 333, 334, 335, 336] (by decide +kernel) (by decide +kernel)
set_option maxRecDepth 20000 in
theorem gX8_book_X4_renew : GoodIn wsX8_book (wsV RX8 72 RX4 yX4_renew wsX4_renew) := goodIn_app (goodIn_of _ (by decide +kernel)) ggX8_book_X4_renew
set_option maxRecDepth 20000 in
theorem ggX8_book_X8_doEntries : GoodIn wsX8_book wsX8_doEntries := goodIn_r _ [105, 5, 3, 4, 14, 15, 16, 17, 18, 19, 20, 21, 22, 23, 24, 25, 26, 27, 28, 29, 30, 31, 32, 33, 34, 35, 36, 37, 38, 39, 40, 41, 42, 43, 44, 45, 46, 47, 48, 49, 50, 51, 52, 53, 54, 55, 56, 57, 58, 59, 60, 61, 62, 63, 64, 65, 106, 107, 108, 12, 109, 7, 110, 111, 112, 113, 114, 71, 72, 73, 115, 116, 117, 118, 119, 120, 121, 88, 122, 90, 92, 123, 124, 125, 126, 127, 128, 129, 130, 91, 97, 98, 99, 100, 283, 284, 285, 286, 287, 288, 289, 290, 291, 292, 293, 294, 295, 296, 297, 300, 301, 302, 303, 304, 305, 306, 307] (by decide +kernel) (by decide +kernel)
set_option maxRecDepth 20000 in
theorem gX8_book_X8_doEntries : GoodIn wsX8_book (wsV RX8 159 RX8 yX8_doEntries wsX8_doEntries) := goodIn_app (goodIn_of _ (by decide +kernel)) ggX8_book_X8_doEntries
set_option maxRecDepth 20000 in
theorem ggX8_book_X1_save : GoodIn wsX8_book wsX1_save := goodIn_r _ [78, 79, 80, 81, 82, 83, 77, 84, 85, 86, 87, 88, 89, 90, 91, 92, 93, 94, 95, 96, 97, 98, 99, 100, 101, 298, 299, 300, 301, 302, 303, 304, 305, 306, 307] (by decide +kernel) (by decide +kernel)
set_option maxRecDepth 20000 in
theorem gX8_book_X1_save : GoodIn wsX8_book (wsV RX8 66 RX1 yX1_save wsX1_save) := goodIn_app (goodIn_of _ (by decide +kernel)) ggX8_book_X1_save
set_option maxRecDepth 20000 in
theorem ggX8_book_X3_isAtEntryEnd : GoodIn wsX8_book wsX3_isAtEntryEnd := goodIn_r _ [69, 20, 70, 71, 72, 18, 73, 292, 293, 294, 295, 296, 297] (by decide +kernel) (by decide +kernel)
set_option maxRecDepth 20000 in
theorem gX8_book_X3_isAtEntryEnd : GoodIn wsX8_book (wsV RX8 155 RX3 yX3_isAtEntryEnd wsX3_isAtEntryEnd) := goodIn_app (goodIn_of _ (by decide +kernel)) ggX8_book_X3_isAtEntryEnd
set_option maxRecDepth 20000 in
theorem ggX8_book_X8_readThrough : GoodIn wsX8_book wsX8_readThrough := goodIn_r _ [13, 5, 3, 4, 14, 15, 16, 17, 18, 19, 20, 21, 22, 23, 24, 25, 26, 27, 28, 29, 30, 31, 32, 33, 34, 35, 36, 37, 38, 39, 40, 41, 42, 43, 44, 45, 46, 47, 48, 49, 50, 51, 52, 53, 54, 55, 56, 57, 58, 59, 60, 61, 62, 63, 64, 65, 283, 284, 285, 286, 287, 288, 289, 290, 291, 292, 293, 294, 295, 296, 297] (by decide +kernel) (by decide +kernel)
set_option maxRecDepth 20000 in
theorem gX8_book_X8_readThrough : GoodIn wsX8_book (wsV RX8 152 RX8 yX8_readThrough wsX8_readThrough) := goodIn_app (goodIn_of _ (by decide +kernel)) ggX8_book_X8_readThrough
def D_X8_book : Md := (yX8_book, cX8_book, 2, (some .int), wsX8_book, RX8, { frames := 6, cells := 1, slots := 6, locals := 115 })
theorem nm_X8_book : nmD D_X8_book 0 := ⟨rfl, by decide +kernel, by decide +kernel, by decide +kernel⟩
theorem hi_X8_book_X6 : ∀ w ∈ u_ws RX6 TX6 2, w ∈ wsX8_book := by decide +kernel
theorem hi_X8_book_X8 : ∀ w ∈ u_ws RX8 TX8 7, w ∈ wsX8_book := by decide +kernel
theorem hl_X8_book_10 : Cond.fieldLink RX8 10 "LevelLoops" "survey" "LLevelLoops$Survey;" ∈ wsX8_book := by decide +kernel
theorem hl_X8_book_21 : Cond.fieldLink RX8 21 "LevelLoops" "study" "LLevelLoops$Study;" ∈ wsX8_book := by decide +kernel
theorem hl_X8_book_34 : Cond.fieldLink RX8 34 "LevelLoops" "history" "LLevelLoops$History;" ∈ wsX8_book := by decide +kernel
theorem hl_X8_book_41 : Cond.fieldLink RX8 41 "LevelLoops" "text" "LLevelLoops$Text;" ∈ wsX8_book := by decide +kernel
theorem hl_X8_book_48 : Cond.fieldLink RX8 48 "LevelLoops" "reader" "LLevelLoops$Reader;" ∈ wsX8_book := by decide +kernel
theorem hl_X8_book_148 : Cond.fieldLink RX8 148 "LevelLoops$Text" "size" "I" ∈ wsX8_book := by decide +kernel
def wp_X8_book_J24 (w : Wd) (Q : Int32 → Wd → Prop) (X : String → Wd → Prop) : Prop :=
  X "java/lang/IllegalArgumentException" w
def wp_X8_book (w : Wd) (Q : Int32 → Wd → Prop) (X : String → Wd → Prop) : Prop :=
  wp_X8_readThrough w (fun r1 w1 => ((r1 < (wi w1 0 29 0) → wp_X8_book_J24 w1 Q X) ∧ (¬ r1 < (wi w1 0 29 0) → wp_X3_isAtEntryEnd w1 (fun r18 => ((¬ r18 = 0 → wp_X1_save 0 w1 (fun w40 => wp_X8_doEntries w40 (fun r44 w44 => (∀ w53 : Wd, w53 = (sI w44 0 29 0 (0 : Int32)) → wp_X4_renew 0 w53 (fun w60 => Q r44 w60))))) ∧ (r18 = 0 → wp_X8_book_J24 w1 Q X))))))
set_option maxRecDepth 20000 in
theorem ok_throw_X8_book_24 {G : Gt} {M : Mx} {Qf : State → Prop} {L : List (Nat × Value)} {w : Wd} {X : String → Wd → Prop} (hC : cx G D_X8_book M) (hX : ex G D_X8_book M X Qf) (h : X "java/lang/IllegalArgumentException" w) : jq G D_X8_book M Qf 24 L [] w := jq_throw (names := ["java/lang/RuntimeException", "java/lang/Exception"]) dX8_book_24 dX8_book_27 dX8_book_28 dX8_book_31 hC hX h (by decide +kernel) (by decide +kernel) (by decide +kernel) (by decide +kernel) (by decide +kernel) (by decide +kernel) (by decide +kernel) (by decide) (by decide)
theorem ok_X8_book_J24 {G : Gt} {M : Mx} {Qf : State → Prop} {w : Wd} {Q : Int32 → Wd → Prop} {X : String → Wd → Prop} (hC : cx G D_X8_book M) (he : en G M (qi Q) Qf) (hX : ex G D_X8_book M X Qf) (h : wp_X8_book_J24 w Q X) : jq G D_X8_book M Qf 24 [] [] w := by
  unfold wp_X8_book_J24 at h
  exact ok_throw_X8_book_24 hC hX h
theorem ok_X8_book {G : Gt} {M : Mx} {Qf : State → Prop} {w : Wd} {Q : Int32 → Wd → Prop} {X : String → Wd → Prop} (hC : cx G D_X8_book M) (he : en G M (qi Q) Qf) (hX : ex G D_X8_book M X Qf) (h : wp_X8_book w Q X) : jq G D_X8_book M Qf 0 [(0, .ref (aD G 0 26))] [] w := by
  unfold wp_X8_book at h
  refine jq_aload_n (k0 := 0) dX8_book_0 hC rfl rfl ?_
  refine jq_callV (As := []) (rest := []) (n := 0) (o := 26) (D' := D_X8_readThrough) dX8_book_1 hC (cl_0 (by decide)) rfl rfl rfl (mt_X8_readThrough h) gX8_book_X8_readThrough rfl ⟨rfl, rfl, Nat.le_of_ble_eq_true rfl, Nat.le_of_ble_eq_true rfl⟩ nm_X8_readThrough rfl (Nat.le_of_ble_eq_true rfl) (kI fun r1 w1 h => ?_)
  refine jq_aload_n (k0 := 0) dX8_book_4 hC rfl rfl ?_
  refine jq_get (k0 := 5) (n := 0) (o := 26) dX8_book_5 hC (cl_0 (by decide)) rfl rfl hi_X8_book_X8 (by decide) hl_X8_book_41 rfl rfl ?_
  refine jq_get (k0 := 0) (n := 0) (o := 29) dX8_book_8 hC (cl_0 (by decide)) rfl rfl hi_X8_book_X6 (by decide) hl_X8_book_148 rfl rfl ?_
  refine jq_icmp_lt (tgt := 24) dX8_book_11 hC (by decide) (fun c11 => ?_) (fun c11 => ?_)
  · have h := h.1 c11
    refine jq_less (L' := []) [] rfl ?_
    exact ok_X8_book_J24 hC he hX h
  · have h := h.2 c11
    refine jq_aload_n (k0 := 0) dX8_book_14 hC rfl rfl ?_
    refine jq_get (k0 := 6) (n := 0) (o := 26) dX8_book_15 hC (cl_0 (by decide)) rfl rfl hi_X8_book_X8 (by decide) hl_X8_book_48 rfl rfl ?_
    refine jq_callV (As := []) (rest := []) (n := 0) (o := 31) (D' := D_X3_isAtEntryEnd) dX8_book_18 hC (cl_0 (by decide)) rfl rfl rfl (mt_X3_isAtEntryEnd h) gX8_book_X3_isAtEntryEnd rfl ⟨rfl, rfl, Nat.le_of_ble_eq_true rfl, Nat.le_of_ble_eq_true rfl⟩ nm_X3_isAtEntryEnd rfl (Nat.le_of_ble_eq_true rfl) (kIp fun r18 h => ?_)
    refine jq_if_ne (tgt := 32) dX8_book_21 hC (by decide) (fun c21 => ?_) (fun c21 => ?_)
    · have h := h.1 c21
      refine jq_aload_n (k0 := 0) dX8_book_32 hC rfl rfl ?_
      refine jq_get (k0 := 4) (n := 0) (o := 26) dX8_book_33 hC (cl_0 (by decide)) rfl rfl hi_X8_book_X8 (by decide) hl_X8_book_34 rfl rfl ?_
      refine jq_aload_n (k0 := 0) dX8_book_36 hC rfl rfl ?_
      refine jq_get (k0 := 0) (n := 0) (o := 26) dX8_book_37 hC (cl_0 (by decide)) rfl rfl hi_X8_book_X8 (by decide) hl_X8_book_10 rfl rfl ?_
      refine jq_callV (As := [.ref (aD G 0 0)]) (rest := []) (n := 0) (o := 27) (D' := D_X1_save) dX8_book_40 hC (cl_0 (by decide)) rfl rfl rfl (mt_X1_save (by omega) h) gX8_book_X1_save rfl ⟨rfl, rfl, Nat.le_of_ble_eq_true rfl, Nat.le_of_ble_eq_true rfl⟩ nm_X1_save rfl (Nat.le_of_ble_eq_true rfl) (kV fun w40 h => ?_)
      refine jq_aload_n (k0 := 0) dX8_book_43 hC rfl rfl ?_
      refine jq_callV (As := []) (rest := []) (n := 0) (o := 26) (D' := D_X8_doEntries) dX8_book_44 hC (cl_0 (by decide)) rfl rfl rfl (mt_X8_doEntries h) gX8_book_X8_doEntries rfl ⟨rfl, rfl, Nat.le_of_ble_eq_true rfl, Nat.le_of_ble_eq_true rfl⟩ nm_X8_doEntries rfl (Nat.le_of_ble_eq_true rfl) (kI fun r44 w44 h => ?_)
      refine jq_istore_n (L' := [(1, .int r44), (0, .ref (aD G 0 26))]) dX8_book_47 hC rfl (by decide) rfl ?_
      refine jq_aload_n (k0 := 1) dX8_book_48 hC rfl rfl ?_
      refine jq_get (k0 := 5) (n := 0) (o := 26) dX8_book_49 hC (cl_0 (by decide)) rfl rfl hi_X8_book_X8 (by decide) hl_X8_book_41 rfl rfl ?_
      refine jq_iconst (v := (0 : Int32)) dX8_book_52 hC (by decide) ?_
      refine jq_put (k0 := 0) (n := 0) (o := 29) (ty := .int) (w' := (sI w44 0 29 0 (0 : Int32))) dX8_book_53 hC (cl_0 (by decide)) rfl rfl hi_X8_book_X6 tyX6 tyX6_ok nmX6 (by decide) hl_X8_book_148 rfl rfl (by decide +kernel) rfl rfl (Nat.le_of_ble_eq_true rfl) (e_29_0 G _ _ _) (fun c _ hne => ent_sA c hne) ?_
      refine jq_w (fun w53 e53 => ?_)
      have h := h w53 e53
      refine jq_aload_n (k0 := 1) dX8_book_56 hC rfl rfl ?_
      refine jq_get (k0 := 1) (n := 0) (o := 26) dX8_book_57 hC (cl_0 (by decide)) rfl rfl hi_X8_book_X8 (by decide) hl_X8_book_21 rfl rfl ?_
      refine jq_callV (As := []) (rest := []) (n := 0) (o := 7) (D' := D_X4_renew) dX8_book_60 hC (cl_0 (by decide)) rfl rfl rfl (mt_X4_renew (by omega) h) gX8_book_X4_renew rfl ⟨rfl, rfl, Nat.le_of_ble_eq_true rfl, Nat.le_of_ble_eq_true rfl⟩ nm_X4_renew rfl (Nat.le_of_ble_eq_true rfl) (kV fun w60 h => ?_)
      refine jq_iload_n (k0 := 0) dX8_book_63 hC rfl rfl ?_
      exact jq_iret dX8_book_64 hC he rfl ⟨_, rfl, h⟩
    · have h := h.2 c21
      refine jq_less (L' := []) [] rfl ?_
      exact ok_X8_book_J24 hC he hX h
theorem mt_X8_book {G : Gt} {w : Wd} {Q : Int32 → Wd → Prop} {X : String → Wd → Prop} (h : wp_X8_book w Q X) : MtX G D_X8_book [.ref (aD G 0 26)] w (qi Q) X := MtX_of (by decide +kernel) rfl rfl (Nat.le_of_ble_eq_true rfl) (fun M Qf hC he hX => ok_X8_book hC he hX h)
/-! X8.undo()I -/
theorem dX8_undo_0 : decode cX8_undo 0 = .ok (.aload_n 0, 1) := by decide +kernel
theorem dX8_undo_1 : decode cX8_undo 1 = .ok (.getfield 34, 3) := by decide +kernel
theorem dX8_undo_4 : decode cX8_undo 4 = .ok (.getfield 162, 3) := by decide +kernel
theorem dX8_undo_7 : decode cX8_undo 7 = .ok (.ifCond .ne 11, 3) := by decide +kernel
theorem dX8_undo_10 : decode cX8_undo 10 = .ok (.new 63, 3) := by decide +kernel
theorem dX8_undo_13 : decode cX8_undo 13 = .ok (.dup, 1) := by decide +kernel
theorem dX8_undo_14 : decode cX8_undo 14 = .ok (.invokespecial 65, 3) := by decide +kernel
theorem dX8_undo_17 : decode cX8_undo 17 = .ok (.athrow, 1) := by decide +kernel
theorem dX8_undo_18 : decode cX8_undo 18 = .ok (.aload_n 0, 1) := by decide +kernel
theorem dX8_undo_19 : decode cX8_undo 19 = .ok (.getfield 34, 3) := by decide +kernel
theorem dX8_undo_22 : decode cX8_undo 22 = .ok (.aload_n 0, 1) := by decide +kernel
theorem dX8_undo_23 : decode cX8_undo 23 = .ok (.getfield 10, 3) := by decide +kernel
theorem dX8_undo_26 : decode cX8_undo 26 = .ok (.invokevirtual 163, 3) := by decide +kernel
theorem dX8_undo_29 : decode cX8_undo 29 = .ok (.aload_n 0, 1) := by decide +kernel
theorem dX8_undo_30 : decode cX8_undo 30 = .ok (.getfield 21, 3) := by decide +kernel
theorem dX8_undo_33 : decode cX8_undo 33 = .ok (.invokevirtual 72, 3) := by decide +kernel
theorem dX8_undo_36 : decode cX8_undo 36 = .ok (.aload_n 0, 1) := by decide +kernel
theorem dX8_undo_37 : decode cX8_undo 37 = .ok (.getfield 34, 3) := by decide +kernel
theorem dX8_undo_40 : decode cX8_undo 40 = .ok (.getfield 162, 3) := by decide +kernel
theorem dX8_undo_43 : decode cX8_undo 43 = .ok (.ireturn, 1) := by decide +kernel
set_option maxRecDepth 20000 in
theorem ggX8_undo_X4_renew : GoodIn wsX8_undo wsX4_renew := goodIn_r _ [35, 36, 37, 38, 39, 40, 41, 42, 43, 44, 45, 46, 47, 48, 49, 50, 51, 52, 53, 54, 55, 56, 57, 58, 59, 60, 61, 62, 63, 64, 65, 66, 67, 68, 69, 70, 71, 72, 73, 74, 75, 76, 77, 78, 79, 80, 81, 82, 83, 84, 85, 86, 87, 88, 89, 90, 91, 92, 93, 94, 95, 96, 97, 98, 99, 100, 101, 102, 103, 104, 105, 106, 107, 108, 109, 110, 111, 112, 17, 113, 20, 29, 114, 115, 116, 117, 118, 119, 120, 121, 122, 123, 124, 125, 126, 127, 128, 129, 130, 131, 132, 133, 134, 135, 136, 137, 138, 139, 140, 141, 142, 143, 144, 145, 146, 147, 148, 149, 150, 151, 152, 153, 154, 155, 156, 157, 158, 159, 160, 161, 162, 163, 164, 165, 166, 167, 168, 169, 170, 171, 172, 173, 174, 175, 176, 177, 178, 179, 180, 181, 182, 183, 201, 202, 203, 204, 205, 206, 207, 208, 209, 210, 193, 194, 195, 196, 197, 198, 199, 200, 211, 212, 213, 214, 215, 216, 217, 218, 219, 220, 221, 222, 223, 224, 225, 226, 227, 228, 229] (by decide +kernel) (by decide +kernel)
set_option maxRecDepth 20000 in
theorem gX8_undo_X4_renew : GoodIn wsX8_undo (wsV RX8 72 RX4 yX4_renew wsX4_renew) := goodIn_app (goodIn_of _ (by decide +kernel)) ggX8_undo_X4_renew
set_option maxRecDepth 20000 in
theorem ggX8_undo_X1_restore : GoodIn wsX8_undo wsX1_restore := goodIn_r _ [11, 12, 13, 14, 15, 16, 17, 18, 19, 20, 21, 22, 23, 24, 25, 26, 27, 28, 29, 30, 191, 192, 193, 194, 195, 196, 197, 198, 199, 200] (by decide +kernel) (by decide +kernel)
set_option maxRecDepth 20000 in
theorem gX8_undo_X1_restore : GoodIn wsX8_undo (wsV RX8 163 RX1 yX1_restore wsX1_restore) := goodIn_app (goodIn_of _ (by decide +kernel)) ggX8_undo_X1_restore
def D_X8_undo : Md := (yX8_undo, cX8_undo, 1, (some .int), wsX8_undo, RX8, { frames := 6, cells := 1, slots := 6, locals := 115 })
theorem nm_X8_undo : nmD D_X8_undo 0 := ⟨rfl, by decide +kernel, by decide +kernel, by decide +kernel⟩
theorem hi_X8_undo_X1 : ∀ w ∈ u_ws RX1 TX1 2, w ∈ wsX8_undo := by decide +kernel
theorem hi_X8_undo_X8 : ∀ w ∈ u_ws RX8 TX8 7, w ∈ wsX8_undo := by decide +kernel
theorem hl_X8_undo_10 : Cond.fieldLink RX8 10 "LevelLoops" "survey" "LLevelLoops$Survey;" ∈ wsX8_undo := by decide +kernel
theorem hl_X8_undo_21 : Cond.fieldLink RX8 21 "LevelLoops" "study" "LLevelLoops$Study;" ∈ wsX8_undo := by decide +kernel
theorem hl_X8_undo_34 : Cond.fieldLink RX8 34 "LevelLoops" "history" "LLevelLoops$History;" ∈ wsX8_undo := by decide +kernel
theorem hl_X8_undo_162 : Cond.fieldLink RX8 162 "LevelLoops$History" "size" "I" ∈ wsX8_undo := by decide +kernel
def wp_X8_undo (w : Wd) (Q : Int32 → Wd → Prop) (X : String → Wd → Prop) : Prop :=
  ((¬ (wi w 0 27 0) = 0 → wp_X1_restore 0 w (fun w26 => wp_X4_renew 0 w26 (fun w33 => Q (wi w33 0 27 0) w33))) ∧ ((wi w 0 27 0) = 0 → X "java/lang/IllegalStateException" w))
set_option maxRecDepth 20000 in
theorem ok_throw_X8_undo_10 {G : Gt} {M : Mx} {Qf : State → Prop} {L : List (Nat × Value)} {w : Wd} {X : String → Wd → Prop} (hC : cx G D_X8_undo M) (hX : ex G D_X8_undo M X Qf) (h : X "java/lang/IllegalStateException" w) : jq G D_X8_undo M Qf 10 L [] w := jq_throw (names := ["java/lang/RuntimeException", "java/lang/Exception"]) dX8_undo_10 dX8_undo_13 dX8_undo_14 dX8_undo_17 hC hX h (by decide +kernel) (by decide +kernel) (by decide +kernel) (by decide +kernel) (by decide +kernel) (by decide +kernel) (by decide +kernel) (by decide) (by decide)
theorem ok_X8_undo {G : Gt} {M : Mx} {Qf : State → Prop} {w : Wd} {Q : Int32 → Wd → Prop} {X : String → Wd → Prop} (hC : cx G D_X8_undo M) (he : en G M (qi Q) Qf) (hX : ex G D_X8_undo M X Qf) (h : wp_X8_undo w Q X) : jq G D_X8_undo M Qf 0 [(0, .ref (aD G 0 26))] [] w := by
  unfold wp_X8_undo at h
  refine jq_aload_n (k0 := 0) dX8_undo_0 hC rfl rfl ?_
  refine jq_get (k0 := 4) (n := 0) (o := 26) dX8_undo_1 hC (cl_0 (by decide)) rfl rfl hi_X8_undo_X8 (by decide) hl_X8_undo_34 rfl rfl ?_
  refine jq_get (k0 := 0) (n := 0) (o := 27) dX8_undo_4 hC (cl_0 (by decide)) rfl rfl hi_X8_undo_X1 (by decide) hl_X8_undo_162 rfl rfl ?_
  refine jq_if_ne (tgt := 18) dX8_undo_7 hC (by decide) (fun c7 => ?_) (fun c7 => ?_)
  · have h := h.1 c7
    refine jq_aload_n (k0 := 0) dX8_undo_18 hC rfl rfl ?_
    refine jq_get (k0 := 4) (n := 0) (o := 26) dX8_undo_19 hC (cl_0 (by decide)) rfl rfl hi_X8_undo_X8 (by decide) hl_X8_undo_34 rfl rfl ?_
    refine jq_aload_n (k0 := 0) dX8_undo_22 hC rfl rfl ?_
    refine jq_get (k0 := 0) (n := 0) (o := 26) dX8_undo_23 hC (cl_0 (by decide)) rfl rfl hi_X8_undo_X8 (by decide) hl_X8_undo_10 rfl rfl ?_
    refine jq_callV (As := [.ref (aD G 0 0)]) (rest := []) (n := 0) (o := 27) (D' := D_X1_restore) dX8_undo_26 hC (cl_0 (by decide)) rfl rfl rfl (mt_X1_restore (by omega) h) gX8_undo_X1_restore rfl ⟨rfl, rfl, Nat.le_of_ble_eq_true rfl, Nat.le_of_ble_eq_true rfl⟩ nm_X1_restore rfl (Nat.le_of_ble_eq_true rfl) (kV fun w26 h => ?_)
    refine jq_aload_n (k0 := 0) dX8_undo_29 hC rfl rfl ?_
    refine jq_get (k0 := 1) (n := 0) (o := 26) dX8_undo_30 hC (cl_0 (by decide)) rfl rfl hi_X8_undo_X8 (by decide) hl_X8_undo_21 rfl rfl ?_
    refine jq_callV (As := []) (rest := []) (n := 0) (o := 7) (D' := D_X4_renew) dX8_undo_33 hC (cl_0 (by decide)) rfl rfl rfl (mt_X4_renew (by omega) h) gX8_undo_X4_renew rfl ⟨rfl, rfl, Nat.le_of_ble_eq_true rfl, Nat.le_of_ble_eq_true rfl⟩ nm_X4_renew rfl (Nat.le_of_ble_eq_true rfl) (kV fun w33 h => ?_)
    refine jq_aload_n (k0 := 0) dX8_undo_36 hC rfl rfl ?_
    refine jq_get (k0 := 4) (n := 0) (o := 26) dX8_undo_37 hC (cl_0 (by decide)) rfl rfl hi_X8_undo_X8 (by decide) hl_X8_undo_34 rfl rfl ?_
    refine jq_get (k0 := 0) (n := 0) (o := 27) dX8_undo_40 hC (cl_0 (by decide)) rfl rfl hi_X8_undo_X1 (by decide) hl_X8_undo_162 rfl rfl ?_
    exact jq_iret dX8_undo_43 hC he rfl ⟨_, rfl, h⟩
  · have h := h.2 c7
    exact ok_throw_X8_undo_10 hC hX h
theorem mt_X8_undo {G : Gt} {w : Wd} {Q : Int32 → Wd → Prop} {X : String → Wd → Prop} (h : wp_X8_undo w Q X) : MtX G D_X8_undo [.ref (aD G 0 26)] w (qi Q) X := MtX_of (by decide +kernel) rfl rfl (Nat.le_of_ble_eq_true rfl) (fun M Qf hC he hX => ok_X8_undo hC he hX h)
/-! X8.mark(II)I -/
theorem dX8_mark_0 : decode cX8_mark 0 = .ok (.aload_n 0, 1) := by decide +kernel
theorem dX8_mark_1 : decode cX8_mark 1 = .ok (.getfield 10, 3) := by decide +kernel
theorem dX8_mark_4 : decode cX8_mark 4 = .ok (.iload_n 1, 1) := by decide +kernel
theorem dX8_mark_5 : decode cX8_mark 5 = .ok (.invokevirtual 75, 3) := by decide +kernel
theorem dX8_mark_8 : decode cX8_mark 8 = .ok (.ifCond .ne 11, 3) := by decide +kernel
theorem dX8_mark_11 : decode cX8_mark 11 = .ok (.new 78, 3) := by decide +kernel
theorem dX8_mark_14 : decode cX8_mark 14 = .ok (.dup, 1) := by decide +kernel
theorem dX8_mark_15 : decode cX8_mark 15 = .ok (.invokespecial 80, 3) := by decide +kernel
theorem dX8_mark_18 : decode cX8_mark 18 = .ok (.athrow, 1) := by decide +kernel
theorem dX8_mark_19 : decode cX8_mark 19 = .ok (.iload_n 2, 1) := by decide +kernel
theorem dX8_mark_20 : decode cX8_mark 20 = .ok (.ifCond .lt 9, 3) := by decide +kernel
theorem dX8_mark_23 : decode cX8_mark 23 = .ok (.iload_n 2, 1) := by decide +kernel
theorem dX8_mark_24 : decode cX8_mark 24 = .ok (.bipush 7, 2) := by decide +kernel
theorem dX8_mark_26 : decode cX8_mark 26 = .ok (.if_icmp .lt 11, 3) := by decide +kernel
theorem dX8_mark_29 : decode cX8_mark 29 = .ok (.new 56, 3) := by decide +kernel
theorem dX8_mark_32 : decode cX8_mark 32 = .ok (.dup, 1) := by decide +kernel
theorem dX8_mark_33 : decode cX8_mark 33 = .ok (.invokespecial 58, 3) := by decide +kernel
theorem dX8_mark_36 : decode cX8_mark 36 = .ok (.athrow, 1) := by decide +kernel
theorem dX8_mark_37 : decode cX8_mark 37 = .ok (.aload_n 0, 1) := by decide +kernel
theorem dX8_mark_38 : decode cX8_mark 38 = .ok (.getfield 21, 3) := by decide +kernel
theorem dX8_mark_41 : decode cX8_mark 41 = .ok (.iload_n 1, 1) := by decide +kernel
theorem dX8_mark_42 : decode cX8_mark 42 = .ok (.iload_n 2, 1) := by decide +kernel
theorem dX8_mark_43 : decode cX8_mark 43 = .ok (.invokevirtual 166, 3) := by decide +kernel
theorem dX8_mark_46 : decode cX8_mark 46 = .ok (.ireturn, 1) := by decide +kernel
set_option maxRecDepth 20000 in
theorem ggX8_mark_X4_ofMark : GoodIn wsX8_mark wsX4_ofMark := goodIn_r _ [17, 18, 19, 20, 21, 22, 23, 24, 25, 26, 27, 28, 29, 30, 31, 32, 33, 34, 35, 36, 37, 38, 39, 40, 41, 42, 43, 44, 45, 46, 47, 48, 49, 50, 51, 52, 53, 54, 55, 56, 57, 58, 10, 59, 60, 61, 62, 63, 79, 80, 81, 82, 71, 72, 73, 74, 75, 76, 77, 78, 83, 84, 85, 86, 87, 88, 89, 90, 91, 92, 93, 94] (by decide +kernel) (by decide +kernel)
set_option maxRecDepth 20000 in
theorem gX8_mark_X4_ofMark : GoodIn wsX8_mark (wsV RX8 166 RX4 yX4_ofMark wsX4_ofMark) := goodIn_app (goodIn_of _ (by decide +kernel)) ggX8_mark_X4_ofMark
set_option maxRecDepth 20000 in
theorem ggX8_mark_X5_hasMark : GoodIn wsX8_mark wsX5_hasMark := goodIn_r _ [11, 12, 71, 72, 73, 74, 75, 76, 77, 78] (by decide +kernel) (by decide +kernel)
set_option maxRecDepth 20000 in
theorem gX8_mark_X5_hasMark : GoodIn wsX8_mark (wsV RX8 75 RX5 yX5_hasMark wsX5_hasMark) := goodIn_app (goodIn_of _ (by decide +kernel)) ggX8_mark_X5_hasMark
def D_X8_mark : Md := (yX8_mark, cX8_mark, 3, (some .int), wsX8_mark, RX8, { frames := 6, cells := 1, slots := 6, locals := 87 })
theorem nm_X8_mark : nmD D_X8_mark 2 := ⟨rfl, by decide +kernel, by decide +kernel, by decide +kernel⟩
theorem hi_X8_mark_X8 : ∀ w ∈ u_ws RX8 TX8 7, w ∈ wsX8_mark := by decide +kernel
theorem hl_X8_mark_10 : Cond.fieldLink RX8 10 "LevelLoops" "survey" "LLevelLoops$Survey;" ∈ wsX8_mark := by decide +kernel
theorem hl_X8_mark_21 : Cond.fieldLink RX8 21 "LevelLoops" "study" "LLevelLoops$Study;" ∈ wsX8_mark := by decide +kernel
def wp_X8_mark_J29 (w : Wd) (Q : Int32 → Prop) (X : String → Wd → Prop) : Prop :=
  X "java/lang/IllegalArgumentException" w
def wp_X8_mark (x1 : Int32) (x2 : Int32) (w : Wd) (Q : Int32 → Prop) (X : String → Wd → Prop) : Prop :=
  wp_X5_hasMark 0 x1 w (fun r5 => ((¬ r5 = 0 → ((x2 < 0 → wp_X8_mark_J29 w Q X) ∧ (¬ x2 < 0 → ((x2 < (7 : Int32) → wp_X4_ofMark 0 x1 x2 w (fun r43 => Q r43)) ∧ (¬ x2 < (7 : Int32) → wp_X8_mark_J29 w Q X))))) ∧ (r5 = 0 → X "java/lang/IndexOutOfBoundsException" w)))
set_option maxRecDepth 20000 in
theorem ok_throw_X8_mark_29 {G : Gt} {M : Mx} {Qf : State → Prop} {L : List (Nat × Value)} {w : Wd} {X : String → Wd → Prop} (hC : cx G D_X8_mark M) (hX : ex G D_X8_mark M X Qf) (h : X "java/lang/IllegalArgumentException" w) : jq G D_X8_mark M Qf 29 L [] w := jq_throw (names := ["java/lang/RuntimeException", "java/lang/Exception"]) dX8_mark_29 dX8_mark_32 dX8_mark_33 dX8_mark_36 hC hX h (by decide +kernel) (by decide +kernel) (by decide +kernel) (by decide +kernel) (by decide +kernel) (by decide +kernel) (by decide +kernel) (by decide) (by decide)
set_option maxRecDepth 20000 in
theorem ok_throw_X8_mark_11 {G : Gt} {M : Mx} {Qf : State → Prop} {L : List (Nat × Value)} {w : Wd} {X : String → Wd → Prop} (hC : cx G D_X8_mark M) (hX : ex G D_X8_mark M X Qf) (h : X "java/lang/IndexOutOfBoundsException" w) : jq G D_X8_mark M Qf 11 L [] w := jq_throw (names := ["java/lang/RuntimeException", "java/lang/Exception"]) dX8_mark_11 dX8_mark_14 dX8_mark_15 dX8_mark_18 hC hX h (by decide +kernel) (by decide +kernel) (by decide +kernel) (by decide +kernel) (by decide +kernel) (by decide +kernel) (by decide +kernel) (by decide) (by decide)
theorem ok_X8_mark_J29 {G : Gt} {M : Mx} {Qf : State → Prop} {w : Wd} {Q : Int32 → Prop} {X : String → Wd → Prop} (hC : cx G D_X8_mark M) (he : en G M (qip w Q) Qf) (hX : ex G D_X8_mark M X Qf) (h : wp_X8_mark_J29 w Q X) : jq G D_X8_mark M Qf 29 [] [] w := by
  unfold wp_X8_mark_J29 at h
  exact ok_throw_X8_mark_29 hC hX h
theorem ok_X8_mark {G : Gt} {M : Mx} {Qf : State → Prop} {x1 : Int32} {x2 : Int32} {w : Wd} {Q : Int32 → Prop} {X : String → Wd → Prop} (hC : cx G D_X8_mark M) (he : en G M (qip w Q) Qf) (hX : ex G D_X8_mark M X Qf) (h : wp_X8_mark x1 x2 w Q X) : jq G D_X8_mark M Qf 0 [(0, .ref (aD G 0 26)), (1, .int x1), (2, .int x2)] [] w := by
  unfold wp_X8_mark at h
  refine jq_aload_n (k0 := 0) dX8_mark_0 hC rfl rfl ?_
  refine jq_get (k0 := 0) (n := 0) (o := 26) dX8_mark_1 hC (cl_0 (by decide)) rfl rfl hi_X8_mark_X8 (by decide) hl_X8_mark_10 rfl rfl ?_
  refine jq_iload_n (k0 := 1) dX8_mark_4 hC rfl rfl ?_
  refine jq_callV (As := [.int x1]) (rest := []) (n := 0) (o := 0) (D' := D_X5_hasMark) dX8_mark_5 hC (cl_0 (by decide)) rfl rfl rfl (mt_X5_hasMark (by omega) h) gX8_mark_X5_hasMark rfl ⟨rfl, rfl, Nat.le_of_ble_eq_true rfl, Nat.le_of_ble_eq_true rfl⟩ nm_X5_hasMark rfl (Nat.le_of_ble_eq_true rfl) (kIp fun r5 h => ?_)
  refine jq_if_ne (tgt := 19) dX8_mark_8 hC (by decide) (fun c8 => ?_) (fun c8 => ?_)
  · have h := h.1 c8
    refine jq_iload_n (k0 := 2) dX8_mark_19 hC rfl rfl ?_
    refine jq_if_lt (tgt := 29) dX8_mark_20 hC (by decide) (fun c20 => ?_) (fun c20 => ?_)
    · have h := h.1 c20
      refine jq_less (L' := []) [] rfl ?_
      exact ok_X8_mark_J29 hC he hX h
    · have h := h.2 c20
      refine jq_iload_n (k0 := 2) dX8_mark_23 hC rfl rfl ?_
      refine jq_bipush (v := (7 : Int32)) dX8_mark_24 hC (by decide) ?_
      refine jq_icmp_lt (tgt := 37) dX8_mark_26 hC (by decide) (fun c26 => ?_) (fun c26 => ?_)
      · have h := h.1 c26
        refine jq_aload_n (k0 := 0) dX8_mark_37 hC rfl rfl ?_
        refine jq_get (k0 := 1) (n := 0) (o := 26) dX8_mark_38 hC (cl_0 (by decide)) rfl rfl hi_X8_mark_X8 (by decide) hl_X8_mark_21 rfl rfl ?_
        refine jq_iload_n (k0 := 1) dX8_mark_41 hC rfl rfl ?_
        refine jq_iload_n (k0 := 2) dX8_mark_42 hC rfl rfl ?_
        refine jq_callV (As := [.int x1, .int x2]) (rest := []) (n := 0) (o := 7) (D' := D_X4_ofMark) dX8_mark_43 hC (cl_0 (by decide)) rfl rfl rfl (mt_X4_ofMark (by omega) h) gX8_mark_X4_ofMark rfl ⟨rfl, rfl, Nat.le_of_ble_eq_true rfl, Nat.le_of_ble_eq_true rfl⟩ nm_X4_ofMark rfl (Nat.le_of_ble_eq_true rfl) (kIp fun r43 h => ?_)
        exact jq_iret dX8_mark_46 hC he rfl ⟨_, rfl, rfl, h⟩
      · have h := h.2 c26
        refine jq_less (L' := []) [] rfl ?_
        exact ok_X8_mark_J29 hC he hX h
  · have h := h.2 c8
    exact ok_throw_X8_mark_11 hC hX h
theorem mt_X8_mark {G : Gt} {x1 : Int32} {x2 : Int32} {w : Wd} {Q : Int32 → Prop} {X : String → Wd → Prop} (h : wp_X8_mark x1 x2 w Q X) : MtX G D_X8_mark [.ref (aD G 0 26), .int x1, .int x2] w (qip w Q) X := MtX_of (by decide +kernel) rfl rfl (Nat.le_of_ble_eq_true rfl) (fun M Qf hC he hX => ok_X8_mark hC he hX h)
/-! X8.leg(II)I -/
theorem dX8_leg_0 : decode cX8_leg 0 = .ok (.aload_n 0, 1) := by decide +kernel
theorem dX8_leg_1 : decode cX8_leg 1 = .ok (.getfield 10, 3) := by decide +kernel
theorem dX8_leg_4 : decode cX8_leg 4 = .ok (.iload_n 1, 1) := by decide +kernel
theorem dX8_leg_5 : decode cX8_leg 5 = .ok (.invokevirtual 112, 3) := by decide +kernel
theorem dX8_leg_8 : decode cX8_leg 8 = .ok (.ifCond .ne 11, 3) := by decide +kernel
theorem dX8_leg_11 : decode cX8_leg 11 = .ok (.new 78, 3) := by decide +kernel
theorem dX8_leg_14 : decode cX8_leg 14 = .ok (.dup, 1) := by decide +kernel
theorem dX8_leg_15 : decode cX8_leg 15 = .ok (.invokespecial 80, 3) := by decide +kernel
theorem dX8_leg_18 : decode cX8_leg 18 = .ok (.athrow, 1) := by decide +kernel
theorem dX8_leg_19 : decode cX8_leg 19 = .ok (.iload_n 2, 1) := by decide +kernel
theorem dX8_leg_20 : decode cX8_leg 20 = .ok (.ifCond .lt 9, 3) := by decide +kernel
theorem dX8_leg_23 : decode cX8_leg 23 = .ok (.iload_n 2, 1) := by decide +kernel
theorem dX8_leg_24 : decode cX8_leg 24 = .ok (.bipush 10, 2) := by decide +kernel
theorem dX8_leg_26 : decode cX8_leg 26 = .ok (.if_icmp .lt 11, 3) := by decide +kernel
theorem dX8_leg_29 : decode cX8_leg 29 = .ok (.new 56, 3) := by decide +kernel
theorem dX8_leg_32 : decode cX8_leg 32 = .ok (.dup, 1) := by decide +kernel
theorem dX8_leg_33 : decode cX8_leg 33 = .ok (.invokespecial 58, 3) := by decide +kernel
theorem dX8_leg_36 : decode cX8_leg 36 = .ok (.athrow, 1) := by decide +kernel
theorem dX8_leg_37 : decode cX8_leg 37 = .ok (.aload_n 0, 1) := by decide +kernel
theorem dX8_leg_38 : decode cX8_leg 38 = .ok (.getfield 21, 3) := by decide +kernel
theorem dX8_leg_41 : decode cX8_leg 41 = .ok (.iload_n 1, 1) := by decide +kernel
theorem dX8_leg_42 : decode cX8_leg 42 = .ok (.iload_n 2, 1) := by decide +kernel
theorem dX8_leg_43 : decode cX8_leg 43 = .ok (.invokevirtual 170, 3) := by decide +kernel
theorem dX8_leg_46 : decode cX8_leg 46 = .ok (.ireturn, 1) := by decide +kernel
set_option maxRecDepth 20000 in
theorem ggX8_leg_X4_ofLeg : GoodIn wsX8_leg wsX4_ofLeg := goodIn_r _ [17, 18, 19, 20, 21, 22, 23, 24, 25, 26, 27, 28, 29, 30, 31, 32, 33, 34, 35, 36, 37, 38, 39, 40, 41, 42, 43, 44, 45, 46, 47, 63, 64, 65, 66, 55, 56, 57, 58, 59, 60, 61, 62, 67, 68, 69, 70, 71, 72, 73, 74, 75, 76, 77, 78, 79, 80, 81, 82, 83, 84, 85] (by decide +kernel) (by decide +kernel)
set_option maxRecDepth 20000 in
theorem gX8_leg_X4_ofLeg : GoodIn wsX8_leg (wsV RX8 170 RX4 yX4_ofLeg wsX4_ofLeg) := goodIn_app (goodIn_of _ (by decide +kernel)) ggX8_leg_X4_ofLeg
set_option maxRecDepth 20000 in
theorem ggX8_leg_X5_hasLeg : GoodIn wsX8_leg wsX5_hasLeg := goodIn_r _ [11, 12, 55, 56, 57, 58, 59, 60, 61, 62] (by decide +kernel) (by decide +kernel)
set_option maxRecDepth 20000 in
theorem gX8_leg_X5_hasLeg : GoodIn wsX8_leg (wsV RX8 112 RX5 yX5_hasLeg wsX5_hasLeg) := goodIn_app (goodIn_of _ (by decide +kernel)) ggX8_leg_X5_hasLeg
def D_X8_leg : Md := (yX8_leg, cX8_leg, 3, (some .int), wsX8_leg, RX8, { frames := 6, cells := 1, slots := 6, locals := 81 })
theorem nm_X8_leg : nmD D_X8_leg 2 := ⟨rfl, by decide +kernel, by decide +kernel, by decide +kernel⟩
theorem hi_X8_leg_X8 : ∀ w ∈ u_ws RX8 TX8 7, w ∈ wsX8_leg := by decide +kernel
theorem hl_X8_leg_10 : Cond.fieldLink RX8 10 "LevelLoops" "survey" "LLevelLoops$Survey;" ∈ wsX8_leg := by decide +kernel
theorem hl_X8_leg_21 : Cond.fieldLink RX8 21 "LevelLoops" "study" "LLevelLoops$Study;" ∈ wsX8_leg := by decide +kernel
def wp_X8_leg_J29 (w : Wd) (Q : Int32 → Prop) (X : String → Wd → Prop) : Prop :=
  X "java/lang/IllegalArgumentException" w
def wp_X8_leg (x1 : Int32) (x2 : Int32) (w : Wd) (Q : Int32 → Prop) (X : String → Wd → Prop) : Prop :=
  wp_X5_hasLeg 0 x1 w (fun r5 => ((¬ r5 = 0 → ((x2 < 0 → wp_X8_leg_J29 w Q X) ∧ (¬ x2 < 0 → ((x2 < (10 : Int32) → wp_X4_ofLeg 0 x1 x2 w (fun r43 => Q r43)) ∧ (¬ x2 < (10 : Int32) → wp_X8_leg_J29 w Q X))))) ∧ (r5 = 0 → X "java/lang/IndexOutOfBoundsException" w)))
set_option maxRecDepth 20000 in
theorem ok_throw_X8_leg_29 {G : Gt} {M : Mx} {Qf : State → Prop} {L : List (Nat × Value)} {w : Wd} {X : String → Wd → Prop} (hC : cx G D_X8_leg M) (hX : ex G D_X8_leg M X Qf) (h : X "java/lang/IllegalArgumentException" w) : jq G D_X8_leg M Qf 29 L [] w := jq_throw (names := ["java/lang/RuntimeException", "java/lang/Exception"]) dX8_leg_29 dX8_leg_32 dX8_leg_33 dX8_leg_36 hC hX h (by decide +kernel) (by decide +kernel) (by decide +kernel) (by decide +kernel) (by decide +kernel) (by decide +kernel) (by decide +kernel) (by decide) (by decide)
set_option maxRecDepth 20000 in
theorem ok_throw_X8_leg_11 {G : Gt} {M : Mx} {Qf : State → Prop} {L : List (Nat × Value)} {w : Wd} {X : String → Wd → Prop} (hC : cx G D_X8_leg M) (hX : ex G D_X8_leg M X Qf) (h : X "java/lang/IndexOutOfBoundsException" w) : jq G D_X8_leg M Qf 11 L [] w := jq_throw (names := ["java/lang/RuntimeException", "java/lang/Exception"]) dX8_leg_11 dX8_leg_14 dX8_leg_15 dX8_leg_18 hC hX h (by decide +kernel) (by decide +kernel) (by decide +kernel) (by decide +kernel) (by decide +kernel) (by decide +kernel) (by decide +kernel) (by decide) (by decide)
theorem ok_X8_leg_J29 {G : Gt} {M : Mx} {Qf : State → Prop} {w : Wd} {Q : Int32 → Prop} {X : String → Wd → Prop} (hC : cx G D_X8_leg M) (he : en G M (qip w Q) Qf) (hX : ex G D_X8_leg M X Qf) (h : wp_X8_leg_J29 w Q X) : jq G D_X8_leg M Qf 29 [] [] w := by
  unfold wp_X8_leg_J29 at h
  exact ok_throw_X8_leg_29 hC hX h
theorem ok_X8_leg {G : Gt} {M : Mx} {Qf : State → Prop} {x1 : Int32} {x2 : Int32} {w : Wd} {Q : Int32 → Prop} {X : String → Wd → Prop} (hC : cx G D_X8_leg M) (he : en G M (qip w Q) Qf) (hX : ex G D_X8_leg M X Qf) (h : wp_X8_leg x1 x2 w Q X) : jq G D_X8_leg M Qf 0 [(0, .ref (aD G 0 26)), (1, .int x1), (2, .int x2)] [] w := by
  unfold wp_X8_leg at h
  refine jq_aload_n (k0 := 0) dX8_leg_0 hC rfl rfl ?_
  refine jq_get (k0 := 0) (n := 0) (o := 26) dX8_leg_1 hC (cl_0 (by decide)) rfl rfl hi_X8_leg_X8 (by decide) hl_X8_leg_10 rfl rfl ?_
  refine jq_iload_n (k0 := 1) dX8_leg_4 hC rfl rfl ?_
  refine jq_callV (As := [.int x1]) (rest := []) (n := 0) (o := 0) (D' := D_X5_hasLeg) dX8_leg_5 hC (cl_0 (by decide)) rfl rfl rfl (mt_X5_hasLeg (by omega) h) gX8_leg_X5_hasLeg rfl ⟨rfl, rfl, Nat.le_of_ble_eq_true rfl, Nat.le_of_ble_eq_true rfl⟩ nm_X5_hasLeg rfl (Nat.le_of_ble_eq_true rfl) (kIp fun r5 h => ?_)
  refine jq_if_ne (tgt := 19) dX8_leg_8 hC (by decide) (fun c8 => ?_) (fun c8 => ?_)
  · have h := h.1 c8
    refine jq_iload_n (k0 := 2) dX8_leg_19 hC rfl rfl ?_
    refine jq_if_lt (tgt := 29) dX8_leg_20 hC (by decide) (fun c20 => ?_) (fun c20 => ?_)
    · have h := h.1 c20
      refine jq_less (L' := []) [] rfl ?_
      exact ok_X8_leg_J29 hC he hX h
    · have h := h.2 c20
      refine jq_iload_n (k0 := 2) dX8_leg_23 hC rfl rfl ?_
      refine jq_bipush (v := (10 : Int32)) dX8_leg_24 hC (by decide) ?_
      refine jq_icmp_lt (tgt := 37) dX8_leg_26 hC (by decide) (fun c26 => ?_) (fun c26 => ?_)
      · have h := h.1 c26
        refine jq_aload_n (k0 := 0) dX8_leg_37 hC rfl rfl ?_
        refine jq_get (k0 := 1) (n := 0) (o := 26) dX8_leg_38 hC (cl_0 (by decide)) rfl rfl hi_X8_leg_X8 (by decide) hl_X8_leg_21 rfl rfl ?_
        refine jq_iload_n (k0 := 1) dX8_leg_41 hC rfl rfl ?_
        refine jq_iload_n (k0 := 2) dX8_leg_42 hC rfl rfl ?_
        refine jq_callV (As := [.int x1, .int x2]) (rest := []) (n := 0) (o := 7) (D' := D_X4_ofLeg) dX8_leg_43 hC (cl_0 (by decide)) rfl rfl rfl (mt_X4_ofLeg (by omega) h) gX8_leg_X4_ofLeg rfl ⟨rfl, rfl, Nat.le_of_ble_eq_true rfl, Nat.le_of_ble_eq_true rfl⟩ nm_X4_ofLeg rfl (Nat.le_of_ble_eq_true rfl) (kIp fun r43 h => ?_)
        exact jq_iret dX8_leg_46 hC he rfl ⟨_, rfl, rfl, h⟩
      · have h := h.2 c26
        refine jq_less (L' := []) [] rfl ?_
        exact ok_X8_leg_J29 hC he hX h
  · have h := h.2 c8
    exact ok_throw_X8_leg_11 hC hX h
theorem mt_X8_leg {G : Gt} {x1 : Int32} {x2 : Int32} {w : Wd} {Q : Int32 → Prop} {X : String → Wd → Prop} (h : wp_X8_leg x1 x2 w Q X) : MtX G D_X8_leg [.ref (aD G 0 26), .int x1, .int x2] w (qip w Q) X := MtX_of (by decide +kernel) rfl rfl (Nat.le_of_ble_eq_true rfl) (fun M Qf hC he hX => ok_X8_leg hC he hX h)
/-! X8.loop(II)I -/
theorem dX8_loop_0 : decode cX8_loop 0 = .ok (.iload_n 1, 1) := by decide +kernel
theorem dX8_loop_1 : decode cX8_loop 1 = .ok (.ifCond .lt 17, 3) := by decide +kernel
theorem dX8_loop_4 : decode cX8_loop 4 = .ok (.iload_n 1, 1) := by decide +kernel
theorem dX8_loop_5 : decode cX8_loop 5 = .ok (.aload_n 0, 1) := by decide +kernel
theorem dX8_loop_6 : decode cX8_loop 6 = .ok (.getfield 21, 3) := by decide +kernel
theorem dX8_loop_9 : decode cX8_loop 9 = .ok (.getfield 115, 3) := by decide +kernel
theorem dX8_loop_12 : decode cX8_loop 12 = .ok (.getfield 139, 3) := by decide +kernel
theorem dX8_loop_15 : decode cX8_loop 15 = .ok (.if_icmp .lt 11, 3) := by decide +kernel
theorem dX8_loop_18 : decode cX8_loop 18 = .ok (.new 78, 3) := by decide +kernel
theorem dX8_loop_21 : decode cX8_loop 21 = .ok (.dup, 1) := by decide +kernel
theorem dX8_loop_22 : decode cX8_loop 22 = .ok (.invokespecial 80, 3) := by decide +kernel
theorem dX8_loop_25 : decode cX8_loop 25 = .ok (.athrow, 1) := by decide +kernel
theorem dX8_loop_26 : decode cX8_loop 26 = .ok (.iload_n 2, 1) := by decide +kernel
theorem dX8_loop_27 : decode cX8_loop 27 = .ok (.ifCond .lt 9, 3) := by decide +kernel
theorem dX8_loop_30 : decode cX8_loop 30 = .ok (.iload_n 2, 1) := by decide +kernel
theorem dX8_loop_31 : decode cX8_loop 31 = .ok (.bipush 8, 2) := by decide +kernel
theorem dX8_loop_33 : decode cX8_loop 33 = .ok (.if_icmp .lt 11, 3) := by decide +kernel
theorem dX8_loop_36 : decode cX8_loop 36 = .ok (.new 56, 3) := by decide +kernel
theorem dX8_loop_39 : decode cX8_loop 39 = .ok (.dup, 1) := by decide +kernel
theorem dX8_loop_40 : decode cX8_loop 40 = .ok (.invokespecial 58, 3) := by decide +kernel
theorem dX8_loop_43 : decode cX8_loop 43 = .ok (.athrow, 1) := by decide +kernel
theorem dX8_loop_44 : decode cX8_loop 44 = .ok (.aload_n 0, 1) := by decide +kernel
theorem dX8_loop_45 : decode cX8_loop 45 = .ok (.getfield 21, 3) := by decide +kernel
theorem dX8_loop_48 : decode cX8_loop 48 = .ok (.getfield 115, 3) := by decide +kernel
theorem dX8_loop_51 : decode cX8_loop 51 = .ok (.iload_n 1, 1) := by decide +kernel
theorem dX8_loop_52 : decode cX8_loop 52 = .ok (.iload_n 2, 1) := by decide +kernel
theorem dX8_loop_53 : decode cX8_loop 53 = .ok (.invokevirtual 173, 3) := by decide +kernel
theorem dX8_loop_56 : decode cX8_loop 56 = .ok (.ireturn, 1) := by decide +kernel
set_option maxRecDepth 20000 in
theorem ggX8_loop_X2_ofLoop : GoodIn wsX8_loop wsX2_ofLoop := goodIn_r _ [12, 13, 14, 15, 16, 17, 18, 19, 20, 21, 22, 23, 24, 25, 11, 26, 27, 28, 29, 30, 31, 43, 44, 45, 46, 47, 48, 49, 50, 51, 52, 53, 54, 55, 56, 57, 58, 59, 60, 61, 62, 63] (by decide +kernel) (by decide +kernel)
set_option maxRecDepth 20000 in
theorem gX8_loop_X2_ofLoop : GoodIn wsX8_loop (wsV RX8 173 RX2 yX2_ofLoop wsX2_ofLoop) := goodIn_app (goodIn_of _ (by decide +kernel)) ggX8_loop_X2_ofLoop
def D_X8_loop : Md := (yX8_loop, cX8_loop, 3, (some .int), wsX8_loop, RX8, { frames := 6, cells := 1, slots := 6, locals := 81 })
theorem nm_X8_loop : nmD D_X8_loop 2 := ⟨rfl, by decide +kernel, by decide +kernel, by decide +kernel⟩
theorem hi_X8_loop_X2 : ∀ w ∈ u_ws RX2 TX2 13, w ∈ wsX8_loop := by decide +kernel
theorem hi_X8_loop_X4 : ∀ w ∈ u_ws RX4 TX4 4, w ∈ wsX8_loop := by decide +kernel
theorem hi_X8_loop_X8 : ∀ w ∈ u_ws RX8 TX8 7, w ∈ wsX8_loop := by decide +kernel
theorem hl_X8_loop_21 : Cond.fieldLink RX8 21 "LevelLoops" "study" "LLevelLoops$Study;" ∈ wsX8_loop := by decide +kernel
theorem hl_X8_loop_115 : Cond.fieldLink RX8 115 "LevelLoops$Study" "loops" "LLevelLoops$Loops;" ∈ wsX8_loop := by decide +kernel
theorem hl_X8_loop_139 : Cond.fieldLink RX8 139 "LevelLoops$Loops" "size" "I" ∈ wsX8_loop := by decide +kernel
def wp_X8_loop_J18 (w : Wd) (Q : Int32 → Prop) (X : String → Wd → Prop) : Prop :=
  X "java/lang/IndexOutOfBoundsException" w
def wp_X8_loop_J36 (w : Wd) (Q : Int32 → Prop) (X : String → Wd → Prop) : Prop :=
  X "java/lang/IllegalArgumentException" w
def wp_X8_loop (x1 : Int32) (x2 : Int32) (w : Wd) (Q : Int32 → Prop) (X : String → Wd → Prop) : Prop :=
  ((x1 < 0 → wp_X8_loop_J18 w Q X) ∧ (¬ x1 < 0 → ((x1 < (wi w 0 12 0) → ((x2 < 0 → wp_X8_loop_J36 w Q X) ∧ (¬ x2 < 0 → ((x2 < (8 : Int32) → wp_X2_ofLoop 0 x1 x2 w (fun r53 => Q r53)) ∧ (¬ x2 < (8 : Int32) → wp_X8_loop_J36 w Q X))))) ∧ (¬ x1 < (wi w 0 12 0) → wp_X8_loop_J18 w Q X))))
set_option maxRecDepth 20000 in
theorem ok_throw_X8_loop_18 {G : Gt} {M : Mx} {Qf : State → Prop} {L : List (Nat × Value)} {w : Wd} {X : String → Wd → Prop} (hC : cx G D_X8_loop M) (hX : ex G D_X8_loop M X Qf) (h : X "java/lang/IndexOutOfBoundsException" w) : jq G D_X8_loop M Qf 18 L [] w := jq_throw (names := ["java/lang/RuntimeException", "java/lang/Exception"]) dX8_loop_18 dX8_loop_21 dX8_loop_22 dX8_loop_25 hC hX h (by decide +kernel) (by decide +kernel) (by decide +kernel) (by decide +kernel) (by decide +kernel) (by decide +kernel) (by decide +kernel) (by decide) (by decide)
set_option maxRecDepth 20000 in
theorem ok_throw_X8_loop_36 {G : Gt} {M : Mx} {Qf : State → Prop} {L : List (Nat × Value)} {w : Wd} {X : String → Wd → Prop} (hC : cx G D_X8_loop M) (hX : ex G D_X8_loop M X Qf) (h : X "java/lang/IllegalArgumentException" w) : jq G D_X8_loop M Qf 36 L [] w := jq_throw (names := ["java/lang/RuntimeException", "java/lang/Exception"]) dX8_loop_36 dX8_loop_39 dX8_loop_40 dX8_loop_43 hC hX h (by decide +kernel) (by decide +kernel) (by decide +kernel) (by decide +kernel) (by decide +kernel) (by decide +kernel) (by decide +kernel) (by decide) (by decide)
theorem ok_X8_loop_J18 {G : Gt} {M : Mx} {Qf : State → Prop} {w : Wd} {Q : Int32 → Prop} {X : String → Wd → Prop} (hC : cx G D_X8_loop M) (he : en G M (qip w Q) Qf) (hX : ex G D_X8_loop M X Qf) (h : wp_X8_loop_J18 w Q X) : jq G D_X8_loop M Qf 18 [] [] w := by
  unfold wp_X8_loop_J18 at h
  exact ok_throw_X8_loop_18 hC hX h
theorem ok_X8_loop_J36 {G : Gt} {M : Mx} {Qf : State → Prop} {w : Wd} {Q : Int32 → Prop} {X : String → Wd → Prop} (hC : cx G D_X8_loop M) (he : en G M (qip w Q) Qf) (hX : ex G D_X8_loop M X Qf) (h : wp_X8_loop_J36 w Q X) : jq G D_X8_loop M Qf 36 [] [] w := by
  unfold wp_X8_loop_J36 at h
  exact ok_throw_X8_loop_36 hC hX h
theorem ok_X8_loop {G : Gt} {M : Mx} {Qf : State → Prop} {x1 : Int32} {x2 : Int32} {w : Wd} {Q : Int32 → Prop} {X : String → Wd → Prop} (hC : cx G D_X8_loop M) (he : en G M (qip w Q) Qf) (hX : ex G D_X8_loop M X Qf) (h : wp_X8_loop x1 x2 w Q X) : jq G D_X8_loop M Qf 0 [(0, .ref (aD G 0 26)), (1, .int x1), (2, .int x2)] [] w := by
  unfold wp_X8_loop at h
  refine jq_iload_n (k0 := 1) dX8_loop_0 hC rfl rfl ?_
  refine jq_if_lt (tgt := 18) dX8_loop_1 hC (by decide) (fun c1 => ?_) (fun c1 => ?_)
  · have h := h.1 c1
    refine jq_less (L' := []) [] rfl ?_
    exact ok_X8_loop_J18 hC he hX h
  · have h := h.2 c1
    refine jq_iload_n (k0 := 1) dX8_loop_4 hC rfl rfl ?_
    refine jq_aload_n (k0 := 0) dX8_loop_5 hC rfl rfl ?_
    refine jq_get (k0 := 1) (n := 0) (o := 26) dX8_loop_6 hC (cl_0 (by decide)) rfl rfl hi_X8_loop_X8 (by decide) hl_X8_loop_21 rfl rfl ?_
    refine jq_get (k0 := 1) (n := 0) (o := 7) dX8_loop_9 hC (cl_0 (by decide)) rfl rfl hi_X8_loop_X4 (by decide) hl_X8_loop_115 rfl rfl ?_
    refine jq_get (k0 := 0) (n := 0) (o := 12) dX8_loop_12 hC (cl_0 (by decide)) rfl rfl hi_X8_loop_X2 (by decide) hl_X8_loop_139 rfl rfl ?_
    refine jq_icmp_lt (tgt := 26) dX8_loop_15 hC (by decide) (fun c15 => ?_) (fun c15 => ?_)
    · have h := h.1 c15
      refine jq_iload_n (k0 := 2) dX8_loop_26 hC rfl rfl ?_
      refine jq_if_lt (tgt := 36) dX8_loop_27 hC (by decide) (fun c27 => ?_) (fun c27 => ?_)
      · have h := h.1 c27
        refine jq_less (L' := []) [] rfl ?_
        exact ok_X8_loop_J36 hC he hX h
      · have h := h.2 c27
        refine jq_iload_n (k0 := 2) dX8_loop_30 hC rfl rfl ?_
        refine jq_bipush (v := (8 : Int32)) dX8_loop_31 hC (by decide) ?_
        refine jq_icmp_lt (tgt := 44) dX8_loop_33 hC (by decide) (fun c33 => ?_) (fun c33 => ?_)
        · have h := h.1 c33
          refine jq_aload_n (k0 := 0) dX8_loop_44 hC rfl rfl ?_
          refine jq_get (k0 := 1) (n := 0) (o := 26) dX8_loop_45 hC (cl_0 (by decide)) rfl rfl hi_X8_loop_X8 (by decide) hl_X8_loop_21 rfl rfl ?_
          refine jq_get (k0 := 1) (n := 0) (o := 7) dX8_loop_48 hC (cl_0 (by decide)) rfl rfl hi_X8_loop_X4 (by decide) hl_X8_loop_115 rfl rfl ?_
          refine jq_iload_n (k0 := 1) dX8_loop_51 hC rfl rfl ?_
          refine jq_iload_n (k0 := 2) dX8_loop_52 hC rfl rfl ?_
          refine jq_callV (As := [.int x1, .int x2]) (rest := []) (n := 0) (o := 12) (D' := D_X2_ofLoop) dX8_loop_53 hC (cl_0 (by decide)) rfl rfl rfl (mt_X2_ofLoop (by omega) h) gX8_loop_X2_ofLoop rfl ⟨rfl, rfl, Nat.le_of_ble_eq_true rfl, Nat.le_of_ble_eq_true rfl⟩ nm_X2_ofLoop rfl (Nat.le_of_ble_eq_true rfl) (kIp fun r53 h => ?_)
          exact jq_iret dX8_loop_56 hC he rfl ⟨_, rfl, rfl, h⟩
        · have h := h.2 c33
          refine jq_less (L' := []) [] rfl ?_
          exact ok_X8_loop_J36 hC he hX h
    · have h := h.2 c15
      refine jq_less (L' := []) [] rfl ?_
      exact ok_X8_loop_J18 hC he hX h
theorem mt_X8_loop {G : Gt} {x1 : Int32} {x2 : Int32} {w : Wd} {Q : Int32 → Prop} {X : String → Wd → Prop} (h : wp_X8_loop x1 x2 w Q X) : MtX G D_X8_loop [.ref (aD G 0 26), .int x1, .int x2] w (qip w Q) X := MtX_of (by decide +kernel) rfl rfl (Nat.le_of_ble_eq_true rfl) (fun M Qf hC he hX => ok_X8_loop hC he hX h)
/-! X8.way(III)I -/
theorem dX8_way_0 : decode cX8_way 0 = .ok (.aload_n 0, 1) := by decide +kernel
theorem dX8_way_1 : decode cX8_way 1 = .ok (.getfield 10, 3) := by decide +kernel
theorem dX8_way_4 : decode cX8_way 4 = .ok (.iload_n 1, 1) := by decide +kernel
theorem dX8_way_5 : decode cX8_way 5 = .ok (.invokevirtual 75, 3) := by decide +kernel
theorem dX8_way_8 : decode cX8_way 8 = .ok (.ifCond .eq 14, 3) := by decide +kernel
theorem dX8_way_11 : decode cX8_way 11 = .ok (.aload_n 0, 1) := by decide +kernel
theorem dX8_way_12 : decode cX8_way 12 = .ok (.getfield 10, 3) := by decide +kernel
theorem dX8_way_15 : decode cX8_way 15 = .ok (.iload_n 2, 1) := by decide +kernel
theorem dX8_way_16 : decode cX8_way 16 = .ok (.invokevirtual 75, 3) := by decide +kernel
theorem dX8_way_19 : decode cX8_way 19 = .ok (.ifCond .ne 11, 3) := by decide +kernel
theorem dX8_way_22 : decode cX8_way 22 = .ok (.new 78, 3) := by decide +kernel
theorem dX8_way_25 : decode cX8_way 25 = .ok (.dup, 1) := by decide +kernel
theorem dX8_way_26 : decode cX8_way 26 = .ok (.invokespecial 80, 3) := by decide +kernel
theorem dX8_way_29 : decode cX8_way 29 = .ok (.athrow, 1) := by decide +kernel
theorem dX8_way_30 : decode cX8_way 30 = .ok (.iload_n 3, 1) := by decide +kernel
theorem dX8_way_31 : decode cX8_way 31 = .ok (.ifCond .lt 8, 3) := by decide +kernel
theorem dX8_way_34 : decode cX8_way 34 = .ok (.iload_n 3, 1) := by decide +kernel
theorem dX8_way_35 : decode cX8_way 35 = .ok (.iconst 4, 1) := by decide +kernel
theorem dX8_way_36 : decode cX8_way 36 = .ok (.if_icmp .lt 11, 3) := by decide +kernel
theorem dX8_way_39 : decode cX8_way 39 = .ok (.new 56, 3) := by decide +kernel
theorem dX8_way_42 : decode cX8_way 42 = .ok (.dup, 1) := by decide +kernel
theorem dX8_way_43 : decode cX8_way 43 = .ok (.invokespecial 58, 3) := by decide +kernel
theorem dX8_way_46 : decode cX8_way 46 = .ok (.athrow, 1) := by decide +kernel
theorem dX8_way_47 : decode cX8_way 47 = .ok (.aload_n 0, 1) := by decide +kernel
theorem dX8_way_48 : decode cX8_way 48 = .ok (.getfield 21, 3) := by decide +kernel
theorem dX8_way_51 : decode cX8_way 51 = .ok (.iload_n 1, 1) := by decide +kernel
theorem dX8_way_52 : decode cX8_way 52 = .ok (.iload_n 2, 1) := by decide +kernel
theorem dX8_way_53 : decode cX8_way 53 = .ok (.iload_n 3, 1) := by decide +kernel
theorem dX8_way_54 : decode cX8_way 54 = .ok (.invokevirtual 176, 3) := by decide +kernel
theorem dX8_way_57 : decode cX8_way 57 = .ok (.ireturn, 1) := by decide +kernel
set_option maxRecDepth 20000 in
theorem ggX8_way_X4_ofWay : GoodIn wsX8_way wsX4_ofWay := goodIn_r _ [17, 18, 19, 20, 21, 22, 23, 24, 25, 26, 27, 28, 29, 30, 31, 32, 33, 34, 35, 36, 37, 38, 39, 10, 40, 41, 42, 43, 44, 45, 46, 47, 48, 49, 50, 51, 52, 53, 69, 70, 71, 72, 73, 74, 75, 76, 77, 78, 79, 80, 81, 82, 83, 84, 61, 62, 63, 64, 65, 66, 67, 68] (by decide +kernel) (by decide +kernel)
set_option maxRecDepth 20000 in
theorem gX8_way_X4_ofWay : GoodIn wsX8_way (wsV RX8 176 RX4 yX4_ofWay wsX4_ofWay) := goodIn_app (goodIn_of _ (by decide +kernel)) ggX8_way_X4_ofWay
set_option maxRecDepth 20000 in
theorem ggX8_way_X5_hasMark : GoodIn wsX8_way wsX5_hasMark := goodIn_r _ [11, 12, 61, 62, 63, 64, 65, 66, 67, 68] (by decide +kernel) (by decide +kernel)
set_option maxRecDepth 20000 in
theorem gX8_way_X5_hasMark : GoodIn wsX8_way (wsV RX8 75 RX5 yX5_hasMark wsX5_hasMark) := goodIn_app (goodIn_of _ (by decide +kernel)) ggX8_way_X5_hasMark
def D_X8_way : Md := (yX8_way, cX8_way, 4, (some .int), wsX8_way, RX8, { frames := 6, cells := 1, slots := 6, locals := 81 })
theorem nm_X8_way : nmD D_X8_way 3 := ⟨rfl, by decide +kernel, by decide +kernel, by decide +kernel⟩
theorem hi_X8_way_X8 : ∀ w ∈ u_ws RX8 TX8 7, w ∈ wsX8_way := by decide +kernel
theorem hl_X8_way_10 : Cond.fieldLink RX8 10 "LevelLoops" "survey" "LLevelLoops$Survey;" ∈ wsX8_way := by decide +kernel
theorem hl_X8_way_21 : Cond.fieldLink RX8 21 "LevelLoops" "study" "LLevelLoops$Study;" ∈ wsX8_way := by decide +kernel
def wp_X8_way_J22 (w : Wd) (Q : Int32 → Prop) (X : String → Wd → Prop) : Prop :=
  X "java/lang/IndexOutOfBoundsException" w
def wp_X8_way_J39 (w : Wd) (Q : Int32 → Prop) (X : String → Wd → Prop) : Prop :=
  X "java/lang/IllegalArgumentException" w
def wp_X8_way (x1 : Int32) (x2 : Int32) (x3 : Int32) (w : Wd) (Q : Int32 → Prop) (X : String → Wd → Prop) : Prop :=
  wp_X5_hasMark 0 x1 w (fun r5 => ((r5 = 0 → wp_X8_way_J22 w Q X) ∧ (¬ r5 = 0 → wp_X5_hasMark 0 x2 w (fun r16 => ((¬ r16 = 0 → ((x3 < 0 → wp_X8_way_J39 w Q X) ∧ (¬ x3 < 0 → ((x3 < (4 : Int32) → wp_X4_ofWay 0 x1 x2 x3 w (fun r54 => Q r54)) ∧ (¬ x3 < (4 : Int32) → wp_X8_way_J39 w Q X))))) ∧ (r16 = 0 → wp_X8_way_J22 w Q X))))))
set_option maxRecDepth 20000 in
theorem ok_throw_X8_way_22 {G : Gt} {M : Mx} {Qf : State → Prop} {L : List (Nat × Value)} {w : Wd} {X : String → Wd → Prop} (hC : cx G D_X8_way M) (hX : ex G D_X8_way M X Qf) (h : X "java/lang/IndexOutOfBoundsException" w) : jq G D_X8_way M Qf 22 L [] w := jq_throw (names := ["java/lang/RuntimeException", "java/lang/Exception"]) dX8_way_22 dX8_way_25 dX8_way_26 dX8_way_29 hC hX h (by decide +kernel) (by decide +kernel) (by decide +kernel) (by decide +kernel) (by decide +kernel) (by decide +kernel) (by decide +kernel) (by decide) (by decide)
set_option maxRecDepth 20000 in
theorem ok_throw_X8_way_39 {G : Gt} {M : Mx} {Qf : State → Prop} {L : List (Nat × Value)} {w : Wd} {X : String → Wd → Prop} (hC : cx G D_X8_way M) (hX : ex G D_X8_way M X Qf) (h : X "java/lang/IllegalArgumentException" w) : jq G D_X8_way M Qf 39 L [] w := jq_throw (names := ["java/lang/RuntimeException", "java/lang/Exception"]) dX8_way_39 dX8_way_42 dX8_way_43 dX8_way_46 hC hX h (by decide +kernel) (by decide +kernel) (by decide +kernel) (by decide +kernel) (by decide +kernel) (by decide +kernel) (by decide +kernel) (by decide) (by decide)
theorem ok_X8_way_J22 {G : Gt} {M : Mx} {Qf : State → Prop} {w : Wd} {Q : Int32 → Prop} {X : String → Wd → Prop} (hC : cx G D_X8_way M) (he : en G M (qip w Q) Qf) (hX : ex G D_X8_way M X Qf) (h : wp_X8_way_J22 w Q X) : jq G D_X8_way M Qf 22 [] [] w := by
  unfold wp_X8_way_J22 at h
  exact ok_throw_X8_way_22 hC hX h
theorem ok_X8_way_J39 {G : Gt} {M : Mx} {Qf : State → Prop} {w : Wd} {Q : Int32 → Prop} {X : String → Wd → Prop} (hC : cx G D_X8_way M) (he : en G M (qip w Q) Qf) (hX : ex G D_X8_way M X Qf) (h : wp_X8_way_J39 w Q X) : jq G D_X8_way M Qf 39 [] [] w := by
  unfold wp_X8_way_J39 at h
  exact ok_throw_X8_way_39 hC hX h
theorem ok_X8_way {G : Gt} {M : Mx} {Qf : State → Prop} {x1 : Int32} {x2 : Int32} {x3 : Int32} {w : Wd} {Q : Int32 → Prop} {X : String → Wd → Prop} (hC : cx G D_X8_way M) (he : en G M (qip w Q) Qf) (hX : ex G D_X8_way M X Qf) (h : wp_X8_way x1 x2 x3 w Q X) : jq G D_X8_way M Qf 0 [(0, .ref (aD G 0 26)), (1, .int x1), (2, .int x2), (3, .int x3)] [] w := by
  unfold wp_X8_way at h
  refine jq_aload_n (k0 := 0) dX8_way_0 hC rfl rfl ?_
  refine jq_get (k0 := 0) (n := 0) (o := 26) dX8_way_1 hC (cl_0 (by decide)) rfl rfl hi_X8_way_X8 (by decide) hl_X8_way_10 rfl rfl ?_
  refine jq_iload_n (k0 := 1) dX8_way_4 hC rfl rfl ?_
  refine jq_callV (As := [.int x1]) (rest := []) (n := 0) (o := 0) (D' := D_X5_hasMark) dX8_way_5 hC (cl_0 (by decide)) rfl rfl rfl (mt_X5_hasMark (by omega) h) gX8_way_X5_hasMark rfl ⟨rfl, rfl, Nat.le_of_ble_eq_true rfl, Nat.le_of_ble_eq_true rfl⟩ nm_X5_hasMark rfl (Nat.le_of_ble_eq_true rfl) (kIp fun r5 h => ?_)
  refine jq_if_eq (tgt := 22) dX8_way_8 hC (by decide) (fun c8 => ?_) (fun c8 => ?_)
  · have h := h.1 c8
    refine jq_less (L' := []) [] rfl ?_
    exact ok_X8_way_J22 hC he hX h
  · have h := h.2 c8
    refine jq_aload_n (k0 := 0) dX8_way_11 hC rfl rfl ?_
    refine jq_get (k0 := 0) (n := 0) (o := 26) dX8_way_12 hC (cl_0 (by decide)) rfl rfl hi_X8_way_X8 (by decide) hl_X8_way_10 rfl rfl ?_
    refine jq_iload_n (k0 := 2) dX8_way_15 hC rfl rfl ?_
    refine jq_callV (As := [.int x2]) (rest := []) (n := 0) (o := 0) (D' := D_X5_hasMark) dX8_way_16 hC (cl_0 (by decide)) rfl rfl rfl (mt_X5_hasMark (by omega) h) gX8_way_X5_hasMark rfl ⟨rfl, rfl, Nat.le_of_ble_eq_true rfl, Nat.le_of_ble_eq_true rfl⟩ nm_X5_hasMark rfl (Nat.le_of_ble_eq_true rfl) (kIp fun r16 h => ?_)
    refine jq_if_ne (tgt := 30) dX8_way_19 hC (by decide) (fun c19 => ?_) (fun c19 => ?_)
    · have h := h.1 c19
      refine jq_iload_n (k0 := 3) dX8_way_30 hC rfl rfl ?_
      refine jq_if_lt (tgt := 39) dX8_way_31 hC (by decide) (fun c31 => ?_) (fun c31 => ?_)
      · have h := h.1 c31
        refine jq_less (L' := []) [] rfl ?_
        exact ok_X8_way_J39 hC he hX h
      · have h := h.2 c31
        refine jq_iload_n (k0 := 3) dX8_way_34 hC rfl rfl ?_
        refine jq_iconst (v := (4 : Int32)) dX8_way_35 hC (by decide) ?_
        refine jq_icmp_lt (tgt := 47) dX8_way_36 hC (by decide) (fun c36 => ?_) (fun c36 => ?_)
        · have h := h.1 c36
          refine jq_aload_n (k0 := 0) dX8_way_47 hC rfl rfl ?_
          refine jq_get (k0 := 1) (n := 0) (o := 26) dX8_way_48 hC (cl_0 (by decide)) rfl rfl hi_X8_way_X8 (by decide) hl_X8_way_21 rfl rfl ?_
          refine jq_iload_n (k0 := 1) dX8_way_51 hC rfl rfl ?_
          refine jq_iload_n (k0 := 2) dX8_way_52 hC rfl rfl ?_
          refine jq_iload_n (k0 := 3) dX8_way_53 hC rfl rfl ?_
          refine jq_callV (As := [.int x1, .int x2, .int x3]) (rest := []) (n := 0) (o := 7) (D' := D_X4_ofWay) dX8_way_54 hC (cl_0 (by decide)) rfl rfl rfl (mt_X4_ofWay (by omega) h) gX8_way_X4_ofWay rfl ⟨rfl, rfl, Nat.le_of_ble_eq_true rfl, Nat.le_of_ble_eq_true rfl⟩ nm_X4_ofWay rfl (Nat.le_of_ble_eq_true rfl) (kIp fun r54 h => ?_)
          exact jq_iret dX8_way_57 hC he rfl ⟨_, rfl, rfl, h⟩
        · have h := h.2 c36
          refine jq_less (L' := []) [] rfl ?_
          exact ok_X8_way_J39 hC he hX h
    · have h := h.2 c19
      refine jq_less (L' := []) [] rfl ?_
      exact ok_X8_way_J22 hC he hX h
theorem mt_X8_way {G : Gt} {x1 : Int32} {x2 : Int32} {x3 : Int32} {w : Wd} {Q : Int32 → Prop} {X : String → Wd → Prop} (h : wp_X8_way x1 x2 x3 w Q X) : MtX G D_X8_way [.ref (aD G 0 26), .int x1, .int x2, .int x3] w (qip w Q) X := MtX_of (by decide +kernel) rfl rfl (Nat.le_of_ble_eq_true rfl) (fun M Qf hC he hX => ok_X8_way hC he hX h)
/-! X8.count(I)I -/
theorem dX8_count_0 : decode cX8_count 0 = .ok (.iload_n 1, 1) := by decide +kernel
theorem dX8_count_1 : decode cX8_count 1 = .ok (.ifCond .lt 9, 3) := by decide +kernel
theorem dX8_count_4 : decode cX8_count 4 = .ok (.iload_n 1, 1) := by decide +kernel
theorem dX8_count_5 : decode cX8_count 5 = .ok (.bipush 11, 2) := by decide +kernel
theorem dX8_count_7 : decode cX8_count 7 = .ok (.if_icmp .lt 11, 3) := by decide +kernel
theorem dX8_count_10 : decode cX8_count 10 = .ok (.new 56, 3) := by decide +kernel
theorem dX8_count_13 : decode cX8_count 13 = .ok (.dup, 1) := by decide +kernel
theorem dX8_count_14 : decode cX8_count 14 = .ok (.invokespecial 58, 3) := by decide +kernel
theorem dX8_count_17 : decode cX8_count 17 = .ok (.athrow, 1) := by decide +kernel
theorem dX8_count_18 : decode cX8_count 18 = .ok (.aload_n 0, 1) := by decide +kernel
theorem dX8_count_19 : decode cX8_count 19 = .ok (.iload_n 1, 1) := by decide +kernel
theorem dX8_count_20 : decode cX8_count 20 = .ok (.invokevirtual 180, 3) := by decide +kernel
theorem dX8_count_23 : decode cX8_count 23 = .ok (.ireturn, 1) := by decide +kernel
set_option maxRecDepth 20000 in
theorem ggX8_count_X8_counted : GoodIn wsX8_count wsX8_counted := goodIn_r _ [7, 8, 9, 10, 11, 12, 13, 14, 15, 16, 17, 18, 19, 20, 21, 22, 23, 24, 25, 26, 27, 28, 29, 30, 31, 32, 33, 34, 35, 36, 37, 38, 39, 40, 41, 42, 43, 44, 45, 46, 47, 48, 49, 50, 51, 52, 53, 54, 55, 56, 57, 58, 59, 60, 61, 62, 63, 64, 65, 66, 67, 68, 69, 70, 71, 72, 73, 74, 75, 76, 77, 78, 79, 80, 81, 82, 83, 84, 85, 86, 87, 88, 89, 90, 91, 92, 93, 94, 95, 96, 97, 98, 99, 100, 101, 102, 6, 103, 104, 105, 106, 107, 108, 109, 110, 111, 112, 113, 114, 115, 116, 117, 118, 119, 120, 121, 122, 123, 124, 125, 126, 127, 128, 129, 130, 131, 132, 133, 134, 135, 136, 137, 138, 139, 140, 141, 142, 143, 144, 145, 146, 147, 148, 149] (by decide +kernel) (by decide +kernel)
set_option maxRecDepth 20000 in
theorem gX8_count_X8_counted : GoodIn wsX8_count (wsV RX8 180 RX8 yX8_counted wsX8_counted) := goodIn_app (goodIn_of _ (by decide +kernel)) ggX8_count_X8_counted
def D_X8_count : Md := (yX8_count, cX8_count, 2, (some .int), wsX8_count, RX8, { frames := 6, cells := 1, slots := 6, locals := 108 })
theorem nm_X8_count : nmD D_X8_count 1 := ⟨rfl, by decide +kernel, by decide +kernel, by decide +kernel⟩
def wp_X8_count_J10 (w : Wd) (Q : Int32 → Prop) (X : String → Wd → Prop) : Prop :=
  X "java/lang/IllegalArgumentException" w
def wp_X8_count (x1 : Int32) (w : Wd) (Q : Int32 → Prop) (X : String → Wd → Prop) : Prop :=
  ((x1 < 0 → wp_X8_count_J10 w Q X) ∧ (¬ x1 < 0 → ((x1 < (11 : Int32) → wp_X8_counted x1 w (fun r20 => Q r20)) ∧ (¬ x1 < (11 : Int32) → wp_X8_count_J10 w Q X))))
set_option maxRecDepth 20000 in
theorem ok_throw_X8_count_10 {G : Gt} {M : Mx} {Qf : State → Prop} {L : List (Nat × Value)} {w : Wd} {X : String → Wd → Prop} (hC : cx G D_X8_count M) (hX : ex G D_X8_count M X Qf) (h : X "java/lang/IllegalArgumentException" w) : jq G D_X8_count M Qf 10 L [] w := jq_throw (names := ["java/lang/RuntimeException", "java/lang/Exception"]) dX8_count_10 dX8_count_13 dX8_count_14 dX8_count_17 hC hX h (by decide +kernel) (by decide +kernel) (by decide +kernel) (by decide +kernel) (by decide +kernel) (by decide +kernel) (by decide +kernel) (by decide) (by decide)
theorem ok_X8_count_J10 {G : Gt} {M : Mx} {Qf : State → Prop} {w : Wd} {Q : Int32 → Prop} {X : String → Wd → Prop} (hC : cx G D_X8_count M) (he : en G M (qip w Q) Qf) (hX : ex G D_X8_count M X Qf) (h : wp_X8_count_J10 w Q X) : jq G D_X8_count M Qf 10 [] [] w := by
  unfold wp_X8_count_J10 at h
  exact ok_throw_X8_count_10 hC hX h
theorem ok_X8_count {G : Gt} {M : Mx} {Qf : State → Prop} {x1 : Int32} {w : Wd} {Q : Int32 → Prop} {X : String → Wd → Prop} (hC : cx G D_X8_count M) (he : en G M (qip w Q) Qf) (hX : ex G D_X8_count M X Qf) (h : wp_X8_count x1 w Q X) : jq G D_X8_count M Qf 0 [(0, .ref (aD G 0 26)), (1, .int x1)] [] w := by
  unfold wp_X8_count at h
  refine jq_iload_n (k0 := 1) dX8_count_0 hC rfl rfl ?_
  refine jq_if_lt (tgt := 10) dX8_count_1 hC (by decide) (fun c1 => ?_) (fun c1 => ?_)
  · have h := h.1 c1
    refine jq_less (L' := []) [] rfl ?_
    exact ok_X8_count_J10 hC he hX h
  · have h := h.2 c1
    refine jq_iload_n (k0 := 1) dX8_count_4 hC rfl rfl ?_
    refine jq_bipush (v := (11 : Int32)) dX8_count_5 hC (by decide) ?_
    refine jq_icmp_lt (tgt := 18) dX8_count_7 hC (by decide) (fun c7 => ?_) (fun c7 => ?_)
    · have h := h.1 c7
      refine jq_aload_n (k0 := 0) dX8_count_18 hC rfl rfl ?_
      refine jq_iload_n (k0 := 1) dX8_count_19 hC rfl rfl ?_
      refine jq_callV (As := [.int x1]) (rest := []) (n := 0) (o := 26) (D' := D_X8_counted) dX8_count_20 hC (cl_0 (by decide)) rfl rfl rfl (mt_X8_counted h) gX8_count_X8_counted rfl ⟨rfl, rfl, Nat.le_of_ble_eq_true rfl, Nat.le_of_ble_eq_true rfl⟩ nm_X8_counted rfl (Nat.le_of_ble_eq_true rfl) (kIp fun r20 h => ?_)
      exact jq_iret dX8_count_23 hC he rfl ⟨_, rfl, rfl, h⟩
    · have h := h.2 c7
      refine jq_less (L' := []) [] rfl ?_
      exact ok_X8_count_J10 hC he hX h
theorem mt_X8_count {G : Gt} {x1 : Int32} {w : Wd} {Q : Int32 → Prop} {X : String → Wd → Prop} (h : wp_X8_count x1 w Q X) : MtX G D_X8_count [.ref (aD G 0 26), .int x1] w (qip w Q) X := MtX_of (by decide +kernel) rfl rfl (Nat.le_of_ble_eq_true rfl) (fun M Qf hC he hX => ok_X8_count hC he hX h)
/-! X8.setting(I)I -/
theorem dX8_setting_0 : decode cX8_setting 0 = .ok (.iload_n 1, 1) := by decide +kernel
theorem dX8_setting_1 : decode cX8_setting 1 = .ok (.invokestatic 142, 3) := by decide +kernel
theorem dX8_setting_4 : decode cX8_setting 4 = .ok (.ifCond .ne 11, 3) := by decide +kernel
theorem dX8_setting_7 : decode cX8_setting 7 = .ok (.new 78, 3) := by decide +kernel
theorem dX8_setting_10 : decode cX8_setting 10 = .ok (.dup, 1) := by decide +kernel
theorem dX8_setting_11 : decode cX8_setting 11 = .ok (.invokespecial 80, 3) := by decide +kernel
theorem dX8_setting_14 : decode cX8_setting 14 = .ok (.athrow, 1) := by decide +kernel
theorem dX8_setting_15 : decode cX8_setting 15 = .ok (.aload_n 0, 1) := by decide +kernel
theorem dX8_setting_16 : decode cX8_setting 16 = .ok (.getfield 10, 3) := by decide +kernel
theorem dX8_setting_19 : decode cX8_setting 19 = .ok (.getfield 145, 3) := by decide +kernel
theorem dX8_setting_22 : decode cX8_setting 22 = .ok (.iload_n 1, 1) := by decide +kernel
theorem dX8_setting_23 : decode cX8_setting 23 = .ok (.iaload, 1) := by decide +kernel
theorem dX8_setting_24 : decode cX8_setting 24 = .ok (.ireturn, 1) := by decide +kernel
set_option maxRecDepth 20000 in
theorem ggX8_setting_X8_isSetting : GoodIn wsX8_setting wsX8_isSetting := goodIn_r _ [8] (by decide +kernel) (by decide +kernel)
set_option maxRecDepth 20000 in
theorem gX8_setting_X8_isSetting : GoodIn wsX8_setting (va_wsS RX8 142 yX8_isSetting wsX8_isSetting) := goodIn_app (goodIn_of _ (by decide +kernel)) ggX8_setting_X8_isSetting
def D_X8_setting : Md := (yX8_setting, cX8_setting, 2, (some .int), wsX8_setting, RX8, { frames := 6, cells := 1, slots := 6, locals := 81 })
theorem nm_X8_setting : nmD D_X8_setting 1 := ⟨rfl, by decide +kernel, by decide +kernel, by decide +kernel⟩
theorem hi_X8_setting_X5 : ∀ w ∈ u_ws RX5 TX5 8, w ∈ wsX8_setting := by decide +kernel
theorem hi_X8_setting_X8 : ∀ w ∈ u_ws RX8 TX8 7, w ∈ wsX8_setting := by decide +kernel
theorem hl_X8_setting_10 : Cond.fieldLink RX8 10 "LevelLoops" "survey" "LLevelLoops$Survey;" ∈ wsX8_setting := by decide +kernel
theorem hl_X8_setting_145 : Cond.fieldLink RX8 145 "LevelLoops$Survey" "settings" "[I" ∈ wsX8_setting := by decide +kernel
def wp_X8_setting (x1 : Int32) (w : Wd) (Q : Int32 → Prop) (X : String → Wd → Prop) : Prop :=
  wp_X8_isSetting x1 (fun r1 => ((¬ r1 = 0 → vp_in x1 3 ∧ Q (wi w 0 6 x1.toNatClampNeg)) ∧ (r1 = 0 → X "java/lang/IndexOutOfBoundsException" w)))
set_option maxRecDepth 20000 in
theorem ok_throw_X8_setting_7 {G : Gt} {M : Mx} {Qf : State → Prop} {L : List (Nat × Value)} {w : Wd} {X : String → Wd → Prop} (hC : cx G D_X8_setting M) (hX : ex G D_X8_setting M X Qf) (h : X "java/lang/IndexOutOfBoundsException" w) : jq G D_X8_setting M Qf 7 L [] w := jq_throw (names := ["java/lang/RuntimeException", "java/lang/Exception"]) dX8_setting_7 dX8_setting_10 dX8_setting_11 dX8_setting_14 hC hX h (by decide +kernel) (by decide +kernel) (by decide +kernel) (by decide +kernel) (by decide +kernel) (by decide +kernel) (by decide +kernel) (by decide) (by decide)
theorem ok_X8_setting {G : Gt} {M : Mx} {Qf : State → Prop} {x1 : Int32} {w : Wd} {Q : Int32 → Prop} {X : String → Wd → Prop} (hC : cx G D_X8_setting M) (he : en G M (qip w Q) Qf) (hX : ex G D_X8_setting M X Qf) (h : wp_X8_setting x1 w Q X) : jq G D_X8_setting M Qf 0 [(0, .ref (aD G 0 26)), (1, .int x1)] [] w := by
  unfold wp_X8_setting at h
  refine jq_iload_n (k0 := 1) dX8_setting_0 hC rfl rfl ?_
  refine jq_callS (As := [.int x1]) (rest := []) (D' := D_X8_isSetting) dX8_setting_1 hC (mt_X8_isSetting h) gX8_setting_X8_isSetting rfl ⟨rfl, rfl, Nat.le_of_ble_eq_true rfl, Nat.le_of_ble_eq_true rfl⟩ nm_X8_isSetting rfl (Nat.le_of_ble_eq_true rfl) (kIp fun r1 h => ?_)
  refine jq_if_ne (tgt := 15) dX8_setting_4 hC (by decide) (fun c4 => ?_) (fun c4 => ?_)
  · have h := h.1 c4
    refine jq_aload_n (k0 := 0) dX8_setting_15 hC rfl rfl ?_
    refine jq_get (k0 := 0) (n := 0) (o := 26) dX8_setting_16 hC (cl_0 (by decide)) rfl rfl hi_X8_setting_X8 (by decide) hl_X8_setting_10 rfl rfl ?_
    refine jq_get (k0 := 7) (n := 0) (o := 0) dX8_setting_19 hC (cl_0 (by decide)) rfl rfl hi_X8_setting_X5 (by decide) hl_X8_setting_145 rfl rfl ?_
    refine jq_iload_n (k0 := 1) dX8_setting_22 hC rfl rfl ?_
    obtain ⟨b23, h⟩ := h
    refine jq_iald (n := 0) (o := 6) (j := x1.toNatClampNeg) dX8_setting_23 hC (cl_0 (by decide)) rfl b23 rfl ?_
    exact jq_iret dX8_setting_24 hC he rfl ⟨_, rfl, rfl, h⟩
  · have h := h.2 c4
    exact ok_throw_X8_setting_7 hC hX h
theorem mt_X8_setting {G : Gt} {x1 : Int32} {w : Wd} {Q : Int32 → Prop} {X : String → Wd → Prop} (h : wp_X8_setting x1 w Q X) : MtX G D_X8_setting [.ref (aD G 0 26), .int x1] w (qip w Q) X := MtX_of (by decide +kernel) rfl rfl (Nat.le_of_ble_eq_true rfl) (fun M Qf hC he hX => ok_X8_setting hC he hX h)
/-! X8.without(II)I -/
theorem dX8_without_0 : decode cX8_without 0 = .ok (.aload_n 0, 1) := by decide +kernel
theorem dX8_without_1 : decode cX8_without 1 = .ok (.getfield 10, 3) := by decide +kernel
theorem dX8_without_4 : decode cX8_without 4 = .ok (.iload_n 1, 1) := by decide +kernel
theorem dX8_without_5 : decode cX8_without 5 = .ok (.invokevirtual 112, 3) := by decide +kernel
theorem dX8_without_8 : decode cX8_without 8 = .ok (.ifCond .ne 11, 3) := by decide +kernel
theorem dX8_without_11 : decode cX8_without 11 = .ok (.new 78, 3) := by decide +kernel
theorem dX8_without_14 : decode cX8_without 14 = .ok (.dup, 1) := by decide +kernel
theorem dX8_without_15 : decode cX8_without 15 = .ok (.invokespecial 80, 3) := by decide +kernel
theorem dX8_without_18 : decode cX8_without 18 = .ok (.athrow, 1) := by decide +kernel
theorem dX8_without_19 : decode cX8_without 19 = .ok (.iload_n 2, 1) := by decide +kernel
theorem dX8_without_20 : decode cX8_without 20 = .ok (.ifCond .lt 8, 3) := by decide +kernel
theorem dX8_without_23 : decode cX8_without 23 = .ok (.iload_n 2, 1) := by decide +kernel
theorem dX8_without_24 : decode cX8_without 24 = .ok (.iconst 4, 1) := by decide +kernel
theorem dX8_without_25 : decode cX8_without 25 = .ok (.if_icmp .lt 11, 3) := by decide +kernel
theorem dX8_without_28 : decode cX8_without 28 = .ok (.new 56, 3) := by decide +kernel
theorem dX8_without_31 : decode cX8_without 31 = .ok (.dup, 1) := by decide +kernel
theorem dX8_without_32 : decode cX8_without 32 = .ok (.invokespecial 58, 3) := by decide +kernel
theorem dX8_without_35 : decode cX8_without 35 = .ok (.athrow, 1) := by decide +kernel
theorem dX8_without_36 : decode cX8_without 36 = .ok (.aload_n 0, 1) := by decide +kernel
theorem dX8_without_37 : decode cX8_without 37 = .ok (.iload_n 1, 1) := by decide +kernel
theorem dX8_without_38 : decode cX8_without 38 = .ok (.invokevirtual 189, 3) := by decide +kernel
theorem dX8_without_41 : decode cX8_without 41 = .ok (.aload_n 0, 1) := by decide +kernel
theorem dX8_without_42 : decode cX8_without 42 = .ok (.iload_n 2, 1) := by decide +kernel
theorem dX8_without_43 : decode cX8_without 43 = .ok (.invokevirtual 192, 3) := by decide +kernel
theorem dX8_without_46 : decode cX8_without 46 = .ok (.ireturn, 1) := by decide +kernel
set_option maxRecDepth 20000 in
theorem ggX8_without_X8_wouldBe : GoodIn wsX8_without wsX8_wouldBe := goodIn_r _ [193, 18, 194, 195, 196, 197, 198, 199, 90, 200, 93, 201, 202, 203, 204, 205, 206, 207, 208, 209, 210, 49, 211, 52, 53, 54, 212, 213, 214, 215, 92, 111, 129, 130, 61, 131, 216, 217, 218, 219, 220, 221, 222, 231, 232, 233, 234, 241, 242, 243, 244, 245, 246, 247, 248, 249, 250, 251, 252, 253, 235, 236, 237, 238, 239, 240, 223, 224, 225, 226, 227, 228, 229, 230] (by decide +kernel) (by decide +kernel)
set_option maxRecDepth 20000 in
theorem gX8_without_X8_wouldBe : GoodIn wsX8_without (wsV RX8 192 RX8 yX8_wouldBe wsX8_wouldBe) := goodIn_app (goodIn_of _ (by decide +kernel)) ggX8_without_X8_wouldBe
set_option maxRecDepth 20000 in
theorem ggX8_without_X8_thinkAway : GoodIn wsX8_without wsX8_thinkAway := goodIn_r _ [16, 17, 5, 18, 19, 20, 21, 9, 22, 23, 11, 24, 25, 26, 27, 28, 29, 30, 31, 32, 33, 34, 35, 36, 37, 38, 39, 40, 41, 42, 43, 44, 45, 46, 47, 48, 49, 50, 51, 52, 53, 54, 55, 56, 57, 58, 59, 60, 61, 62, 63, 64, 65, 66, 67, 68, 69, 70, 71, 72, 73, 74, 75, 76, 77, 78, 79, 80, 81, 15, 82, 83, 84, 85, 86, 87, 88, 89, 90, 91, 92, 93, 94, 95, 96, 97, 98, 99, 100, 101, 102, 103, 104, 105, 106, 107, 108, 109, 110, 111, 112, 113, 114, 115, 116, 117, 118, 119, 120, 121, 122, 123, 124, 125, 126, 127, 128, 129, 130, 131, 132, 133, 134, 135, 136, 137, 138, 139, 140, 141, 142, 143, 144, 145, 146, 147, 148, 149, 150, 151, 152, 153, 154, 155, 156, 157, 158, 159, 160, 161, 162, 163, 164, 165, 166, 167, 168, 169, 170, 171, 172, 173, 174, 175, 176, 177, 178, 179, 180, 181, 182, 183, 184, 185, 186, 187, 188, 189, 216, 217, 218, 219, 220, 221, 222, 223, 224, 225, 226, 227, 228, 229, 230, 231, 232, 233, 234, 235, 236, 237, 238, 239, 240, 241, 242, 243, 244, 245, 246, 247, 248, 249, 250, 251, 252, 253, 254, 255, 256, 257, 258, 259] (by decide +kernel) (by decide +kernel)
set_option maxRecDepth 20000 in
theorem gX8_without_X8_thinkAway : GoodIn wsX8_without (wsV RX8 189 RX8 yX8_thinkAway wsX8_thinkAway) := goodIn_app (goodIn_of _ (by decide +kernel)) ggX8_without_X8_thinkAway
set_option maxRecDepth 20000 in
theorem ggX8_without_X5_hasLeg : GoodIn wsX8_without wsX5_hasLeg := goodIn_r _ [10, 11, 223, 224, 225, 226, 227, 228, 229, 230] (by decide +kernel) (by decide +kernel)
set_option maxRecDepth 20000 in
theorem gX8_without_X5_hasLeg : GoodIn wsX8_without (wsV RX8 112 RX5 yX5_hasLeg wsX5_hasLeg) := goodIn_app (goodIn_of _ (by decide +kernel)) ggX8_without_X5_hasLeg
def D_X8_without : Md := (yX8_without, cX8_without, 3, (some .int), wsX8_without, RX8, { frames := 6, cells := 1, slots := 6, locals := 136 })
theorem nm_X8_without : nmD D_X8_without 2 := ⟨rfl, by decide +kernel, by decide +kernel, by decide +kernel⟩
theorem hi_X8_without_X8 : ∀ w ∈ u_ws RX8 TX8 7, w ∈ wsX8_without := by decide +kernel
theorem hl_X8_without_10 : Cond.fieldLink RX8 10 "LevelLoops" "survey" "LLevelLoops$Survey;" ∈ wsX8_without := by decide +kernel
def wp_X8_without_J28 (w : Wd) (Q : Int32 → Wd → Prop) (X : String → Wd → Prop) : Prop :=
  X "java/lang/IllegalArgumentException" w
def wp_X8_without (x1 : Int32) (x2 : Int32) (w : Wd) (Q : Int32 → Wd → Prop) (X : String → Wd → Prop) : Prop :=
  wp_X5_hasLeg 0 x1 w (fun r5 => ((¬ r5 = 0 → ((x2 < 0 → wp_X8_without_J28 w Q X) ∧ (¬ x2 < 0 → ((x2 < (4 : Int32) → wp_X8_thinkAway x1 w (fun w38 => wp_X8_wouldBe x2 w38 (fun r43 => Q r43 w38))) ∧ (¬ x2 < (4 : Int32) → wp_X8_without_J28 w Q X))))) ∧ (r5 = 0 → X "java/lang/IndexOutOfBoundsException" w)))
set_option maxRecDepth 20000 in
theorem ok_throw_X8_without_28 {G : Gt} {M : Mx} {Qf : State → Prop} {L : List (Nat × Value)} {w : Wd} {X : String → Wd → Prop} (hC : cx G D_X8_without M) (hX : ex G D_X8_without M X Qf) (h : X "java/lang/IllegalArgumentException" w) : jq G D_X8_without M Qf 28 L [] w := jq_throw (names := ["java/lang/RuntimeException", "java/lang/Exception"]) dX8_without_28 dX8_without_31 dX8_without_32 dX8_without_35 hC hX h (by decide +kernel) (by decide +kernel) (by decide +kernel) (by decide +kernel) (by decide +kernel) (by decide +kernel) (by decide +kernel) (by decide) (by decide)
set_option maxRecDepth 20000 in
theorem ok_throw_X8_without_11 {G : Gt} {M : Mx} {Qf : State → Prop} {L : List (Nat × Value)} {w : Wd} {X : String → Wd → Prop} (hC : cx G D_X8_without M) (hX : ex G D_X8_without M X Qf) (h : X "java/lang/IndexOutOfBoundsException" w) : jq G D_X8_without M Qf 11 L [] w := jq_throw (names := ["java/lang/RuntimeException", "java/lang/Exception"]) dX8_without_11 dX8_without_14 dX8_without_15 dX8_without_18 hC hX h (by decide +kernel) (by decide +kernel) (by decide +kernel) (by decide +kernel) (by decide +kernel) (by decide +kernel) (by decide +kernel) (by decide) (by decide)
theorem ok_X8_without_J28 {G : Gt} {M : Mx} {Qf : State → Prop} {w : Wd} {Q : Int32 → Wd → Prop} {X : String → Wd → Prop} (hC : cx G D_X8_without M) (he : en G M (qi Q) Qf) (hX : ex G D_X8_without M X Qf) (h : wp_X8_without_J28 w Q X) : jq G D_X8_without M Qf 28 [] [] w := by
  unfold wp_X8_without_J28 at h
  exact ok_throw_X8_without_28 hC hX h
theorem ok_X8_without {G : Gt} {M : Mx} {Qf : State → Prop} {x1 : Int32} {x2 : Int32} {w : Wd} {Q : Int32 → Wd → Prop} {X : String → Wd → Prop} (hC : cx G D_X8_without M) (he : en G M (qi Q) Qf) (hX : ex G D_X8_without M X Qf) (h : wp_X8_without x1 x2 w Q X) : jq G D_X8_without M Qf 0 [(0, .ref (aD G 0 26)), (1, .int x1), (2, .int x2)] [] w := by
  unfold wp_X8_without at h
  refine jq_aload_n (k0 := 0) dX8_without_0 hC rfl rfl ?_
  refine jq_get (k0 := 0) (n := 0) (o := 26) dX8_without_1 hC (cl_0 (by decide)) rfl rfl hi_X8_without_X8 (by decide) hl_X8_without_10 rfl rfl ?_
  refine jq_iload_n (k0 := 1) dX8_without_4 hC rfl rfl ?_
  refine jq_callV (As := [.int x1]) (rest := []) (n := 0) (o := 0) (D' := D_X5_hasLeg) dX8_without_5 hC (cl_0 (by decide)) rfl rfl rfl (mt_X5_hasLeg (by omega) h) gX8_without_X5_hasLeg rfl ⟨rfl, rfl, Nat.le_of_ble_eq_true rfl, Nat.le_of_ble_eq_true rfl⟩ nm_X5_hasLeg rfl (Nat.le_of_ble_eq_true rfl) (kIp fun r5 h => ?_)
  refine jq_if_ne (tgt := 19) dX8_without_8 hC (by decide) (fun c8 => ?_) (fun c8 => ?_)
  · have h := h.1 c8
    refine jq_iload_n (k0 := 2) dX8_without_19 hC rfl rfl ?_
    refine jq_if_lt (tgt := 28) dX8_without_20 hC (by decide) (fun c20 => ?_) (fun c20 => ?_)
    · have h := h.1 c20
      refine jq_less (L' := []) [] rfl ?_
      exact ok_X8_without_J28 hC he hX h
    · have h := h.2 c20
      refine jq_iload_n (k0 := 2) dX8_without_23 hC rfl rfl ?_
      refine jq_iconst (v := (4 : Int32)) dX8_without_24 hC (by decide) ?_
      refine jq_icmp_lt (tgt := 36) dX8_without_25 hC (by decide) (fun c25 => ?_) (fun c25 => ?_)
      · have h := h.1 c25
        refine jq_aload_n (k0 := 0) dX8_without_36 hC rfl rfl ?_
        refine jq_iload_n (k0 := 1) dX8_without_37 hC rfl rfl ?_
        refine jq_callV (As := [.int x1]) (rest := []) (n := 0) (o := 26) (D' := D_X8_thinkAway) dX8_without_38 hC (cl_0 (by decide)) rfl rfl rfl (mt_X8_thinkAway h) gX8_without_X8_thinkAway rfl ⟨rfl, rfl, Nat.le_of_ble_eq_true rfl, Nat.le_of_ble_eq_true rfl⟩ nm_X8_thinkAway rfl (Nat.le_of_ble_eq_true rfl) (kV fun w38 h => ?_)
        refine jq_aload_n (k0 := 0) dX8_without_41 hC rfl rfl ?_
        refine jq_iload_n (k0 := 2) dX8_without_42 hC rfl rfl ?_
        refine jq_callV (As := [.int x2]) (rest := []) (n := 0) (o := 26) (D' := D_X8_wouldBe) dX8_without_43 hC (cl_0 (by decide)) rfl rfl rfl (mt_X8_wouldBe h) gX8_without_X8_wouldBe rfl ⟨rfl, rfl, Nat.le_of_ble_eq_true rfl, Nat.le_of_ble_eq_true rfl⟩ nm_X8_wouldBe rfl (Nat.le_of_ble_eq_true rfl) (kIp fun r43 h => ?_)
        exact jq_iret dX8_without_46 hC he rfl ⟨_, rfl, h⟩
      · have h := h.2 c25
        refine jq_less (L' := []) [] rfl ?_
        exact ok_X8_without_J28 hC he hX h
  · have h := h.2 c8
    exact ok_throw_X8_without_11 hC hX h
theorem mt_X8_without {G : Gt} {x1 : Int32} {x2 : Int32} {w : Wd} {Q : Int32 → Wd → Prop} {X : String → Wd → Prop} (h : wp_X8_without x1 x2 w Q X) : MtX G D_X8_without [.ref (aD G 0 26), .int x1, .int x2] w (qi Q) X := MtX_of (by decide +kernel) rfl rfl (Nat.le_of_ble_eq_true rfl) (fun M Qf hC he hX => ok_X8_without hC he hX h)
/-! X8.fitting(I)I -/
theorem dX8_fitting_0 : decode cX8_fitting 0 = .ok (.aload_n 0, 1) := by decide +kernel
theorem dX8_fitting_1 : decode cX8_fitting 1 = .ok (.getfield 10, 3) := by decide +kernel
theorem dX8_fitting_4 : decode cX8_fitting 4 = .ok (.iload_n 1, 1) := by decide +kernel
theorem dX8_fitting_5 : decode cX8_fitting 5 = .ok (.invokevirtual 112, 3) := by decide +kernel
theorem dX8_fitting_8 : decode cX8_fitting 8 = .ok (.ifCond .ne 11, 3) := by decide +kernel
theorem dX8_fitting_11 : decode cX8_fitting 11 = .ok (.new 78, 3) := by decide +kernel
theorem dX8_fitting_14 : decode cX8_fitting 14 = .ok (.dup, 1) := by decide +kernel
theorem dX8_fitting_15 : decode cX8_fitting 15 = .ok (.invokespecial 80, 3) := by decide +kernel
theorem dX8_fitting_18 : decode cX8_fitting 18 = .ok (.athrow, 1) := by decide +kernel
theorem dX8_fitting_19 : decode cX8_fitting 19 = .ok (.aload_n 0, 1) := by decide +kernel
theorem dX8_fitting_20 : decode cX8_fitting 20 = .ok (.iload_n 1, 1) := by decide +kernel
theorem dX8_fitting_21 : decode cX8_fitting 21 = .ok (.invokevirtual 189, 3) := by decide +kernel
theorem dX8_fitting_24 : decode cX8_fitting 24 = .ok (.aload_n 0, 1) := by decide +kernel
theorem dX8_fitting_25 : decode cX8_fitting 25 = .ok (.iload_n 1, 1) := by decide +kernel
theorem dX8_fitting_26 : decode cX8_fitting 26 = .ok (.invokevirtual 195, 3) := by decide +kernel
theorem dX8_fitting_29 : decode cX8_fitting 29 = .ok (.ireturn, 1) := by decide +kernel
set_option maxRecDepth 20000 in
theorem ggX8_fitting_X8_wouldFit : GoodIn wsX8_fitting wsX8_wouldFit := goodIn_r _ [191, 16, 3, 192, 193, 194, 195, 196, 39, 197, 41, 198, 199, 43, 200, 201, 202, 111, 112, 47, 113, 78, 203, 204, 205, 206, 207, 208, 209, 210, 115, 116, 7, 117, 9, 30, 79, 13, 80, 211, 212, 213, 214, 50, 53, 55, 56, 215, 216, 217, 218, 219, 220, 221, 222, 223, 224, 225, 226, 227, 228, 229, 230, 231, 232, 233, 234, 235, 236, 237, 238, 239, 253, 254, 255, 256, 257, 258] (by decide +kernel) (by decide +kernel)
set_option maxRecDepth 20000 in
theorem gX8_fitting_X8_wouldFit : GoodIn wsX8_fitting (wsV RX8 195 RX8 yX8_wouldFit wsX8_wouldFit) := goodIn_app (goodIn_of _ (by decide +kernel)) ggX8_fitting_X8_wouldFit
set_option maxRecDepth 20000 in
theorem ggX8_fitting_X8_thinkAway : GoodIn wsX8_fitting wsX8_thinkAway := goodIn_r _ [14, 15, 3, 16, 17, 18, 19, 7, 20, 21, 9, 22, 23, 24, 25, 26, 27, 28, 29, 30, 31, 32, 33, 34, 35, 36, 37, 38, 39, 40, 41, 42, 43, 44, 45, 46, 47, 48, 49, 50, 51, 52, 53, 54, 55, 56, 57, 58, 59, 60, 61, 62, 63, 64, 65, 66, 67, 68, 69, 70, 71, 72, 73, 74, 75, 76, 77, 78, 79, 13, 80, 81, 82, 83, 84, 85, 86, 87, 88, 89, 90, 91, 92, 93, 94, 95, 96, 97, 98, 99, 100, 101, 102, 103, 104, 105, 106, 107, 108, 109, 110, 111, 112, 113, 114, 115, 116, 117, 118, 119, 120, 121, 122, 123, 124, 125, 126, 127, 128, 129, 130, 131, 132, 133, 134, 135, 136, 137, 138, 139, 140, 141, 142, 143, 144, 145, 146, 147, 148, 149, 150, 151, 152, 153, 154, 155, 156, 157, 158, 159, 160, 161, 162, 163, 164, 165, 166, 167, 168, 169, 170, 171, 172, 173, 174, 175, 176, 177, 178, 179, 180, 181, 182, 183, 184, 185, 186, 187, 215, 216, 217, 218, 219, 220, 221, 222, 223, 224, 225, 226, 227, 228, 229, 230, 231, 232, 233, 234, 235, 236, 237, 238, 239, 240, 241, 242, 243, 244, 245, 246, 247, 248, 249, 250, 251, 252, 253, 254, 255, 256, 257, 258] (by decide +kernel) (by decide +kernel)
set_option maxRecDepth 20000 in
theorem gX8_fitting_X8_thinkAway : GoodIn wsX8_fitting (wsV RX8 189 RX8 yX8_thinkAway wsX8_thinkAway) := goodIn_app (goodIn_of _ (by decide +kernel)) ggX8_fitting_X8_thinkAway
set_option maxRecDepth 20000 in
theorem ggX8_fitting_X5_hasLeg : GoodIn wsX8_fitting wsX5_hasLeg := goodIn_r _ [8, 9, 222, 223, 224, 225, 226, 227, 228, 229] (by decide +kernel) (by decide +kernel)
set_option maxRecDepth 20000 in
theorem gX8_fitting_X5_hasLeg : GoodIn wsX8_fitting (wsV RX8 112 RX5 yX5_hasLeg wsX5_hasLeg) := goodIn_app (goodIn_of _ (by decide +kernel)) ggX8_fitting_X5_hasLeg
def D_X8_fitting : Md := (yX8_fitting, cX8_fitting, 2, (some .int), wsX8_fitting, RX8, { frames := 6, cells := 1, slots := 6, locals := 136 })
theorem nm_X8_fitting : nmD D_X8_fitting 1 := ⟨rfl, by decide +kernel, by decide +kernel, by decide +kernel⟩
theorem hi_X8_fitting_X8 : ∀ w ∈ u_ws RX8 TX8 7, w ∈ wsX8_fitting := by decide +kernel
theorem hl_X8_fitting_10 : Cond.fieldLink RX8 10 "LevelLoops" "survey" "LLevelLoops$Survey;" ∈ wsX8_fitting := by decide +kernel
def wp_X8_fitting (x1 : Int32) (w : Wd) (Q : Int32 → Wd → Prop) (X : String → Wd → Prop) : Prop :=
  wp_X5_hasLeg 0 x1 w (fun r5 => ((¬ r5 = 0 → wp_X8_thinkAway x1 w (fun w21 => wp_X8_wouldFit x1 w21 (fun r26 => Q r26 w21))) ∧ (r5 = 0 → X "java/lang/IndexOutOfBoundsException" w)))
set_option maxRecDepth 20000 in
theorem ok_throw_X8_fitting_11 {G : Gt} {M : Mx} {Qf : State → Prop} {L : List (Nat × Value)} {w : Wd} {X : String → Wd → Prop} (hC : cx G D_X8_fitting M) (hX : ex G D_X8_fitting M X Qf) (h : X "java/lang/IndexOutOfBoundsException" w) : jq G D_X8_fitting M Qf 11 L [] w := jq_throw (names := ["java/lang/RuntimeException", "java/lang/Exception"]) dX8_fitting_11 dX8_fitting_14 dX8_fitting_15 dX8_fitting_18 hC hX h (by decide +kernel) (by decide +kernel) (by decide +kernel) (by decide +kernel) (by decide +kernel) (by decide +kernel) (by decide +kernel) (by decide) (by decide)
theorem ok_X8_fitting {G : Gt} {M : Mx} {Qf : State → Prop} {x1 : Int32} {w : Wd} {Q : Int32 → Wd → Prop} {X : String → Wd → Prop} (hC : cx G D_X8_fitting M) (he : en G M (qi Q) Qf) (hX : ex G D_X8_fitting M X Qf) (h : wp_X8_fitting x1 w Q X) : jq G D_X8_fitting M Qf 0 [(0, .ref (aD G 0 26)), (1, .int x1)] [] w := by
  unfold wp_X8_fitting at h
  refine jq_aload_n (k0 := 0) dX8_fitting_0 hC rfl rfl ?_
  refine jq_get (k0 := 0) (n := 0) (o := 26) dX8_fitting_1 hC (cl_0 (by decide)) rfl rfl hi_X8_fitting_X8 (by decide) hl_X8_fitting_10 rfl rfl ?_
  refine jq_iload_n (k0 := 1) dX8_fitting_4 hC rfl rfl ?_
  refine jq_callV (As := [.int x1]) (rest := []) (n := 0) (o := 0) (D' := D_X5_hasLeg) dX8_fitting_5 hC (cl_0 (by decide)) rfl rfl rfl (mt_X5_hasLeg (by omega) h) gX8_fitting_X5_hasLeg rfl ⟨rfl, rfl, Nat.le_of_ble_eq_true rfl, Nat.le_of_ble_eq_true rfl⟩ nm_X5_hasLeg rfl (Nat.le_of_ble_eq_true rfl) (kIp fun r5 h => ?_)
  refine jq_if_ne (tgt := 19) dX8_fitting_8 hC (by decide) (fun c8 => ?_) (fun c8 => ?_)
  · have h := h.1 c8
    refine jq_aload_n (k0 := 0) dX8_fitting_19 hC rfl rfl ?_
    refine jq_iload_n (k0 := 1) dX8_fitting_20 hC rfl rfl ?_
    refine jq_callV (As := [.int x1]) (rest := []) (n := 0) (o := 26) (D' := D_X8_thinkAway) dX8_fitting_21 hC (cl_0 (by decide)) rfl rfl rfl (mt_X8_thinkAway h) gX8_fitting_X8_thinkAway rfl ⟨rfl, rfl, Nat.le_of_ble_eq_true rfl, Nat.le_of_ble_eq_true rfl⟩ nm_X8_thinkAway rfl (Nat.le_of_ble_eq_true rfl) (kV fun w21 h => ?_)
    refine jq_aload_n (k0 := 0) dX8_fitting_24 hC rfl rfl ?_
    refine jq_iload_n (k0 := 1) dX8_fitting_25 hC rfl rfl ?_
    refine jq_callV (As := [.int x1]) (rest := []) (n := 0) (o := 26) (D' := D_X8_wouldFit) dX8_fitting_26 hC (cl_0 (by decide)) rfl rfl rfl (mt_X8_wouldFit h) gX8_fitting_X8_wouldFit rfl ⟨rfl, rfl, Nat.le_of_ble_eq_true rfl, Nat.le_of_ble_eq_true rfl⟩ nm_X8_wouldFit rfl (Nat.le_of_ble_eq_true rfl) (kIp fun r26 h => ?_)
    exact jq_iret dX8_fitting_29 hC he rfl ⟨_, rfl, h⟩
  · have h := h.2 c8
    exact ok_throw_X8_fitting_11 hC hX h
theorem mt_X8_fitting {G : Gt} {x1 : Int32} {w : Wd} {Q : Int32 → Wd → Prop} {X : String → Wd → Prop} (h : wp_X8_fitting x1 w Q X) : MtX G D_X8_fitting [.ref (aD G 0 26), .int x1] w (qi Q) X := MtX_of (by decide +kernel) rfl rfl (Nat.le_of_ble_eq_true rfl) (fun M Qf hC he hX => ok_X8_fitting hC he hX h)
