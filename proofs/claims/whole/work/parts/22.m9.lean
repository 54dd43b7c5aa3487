/-! X9.removeLeg(I)I -/
theorem dX9_removeLeg_0 : decode cX9_removeLeg 0 = .ok (.aload_n 0, 1) := by decide +kernel
theorem dX9_removeLeg_1 : decode cX9_removeLeg 1 = .ok (.aload_n 0, 1) := by decide +kernel
theorem dX9_removeLeg_2 : decode cX9_removeLeg 2 = .ok (.iload_n 1, 1) := by decide +kernel
theorem dX9_removeLeg_3 : decode cX9_removeLeg 3 = .ok (.invokevirtual 180, 3) := by decide +kernel
theorem dX9_removeLeg_6 : decode cX9_removeLeg 6 = .ok (.ifCond .eq 7, 3) := by decide +kernel
theorem dX9_removeLeg_9 : decode cX9_removeLeg 9 = .ok (.iconst 0, 1) := by decide +kernel
theorem dX9_removeLeg_10 : decode cX9_removeLeg 10 = .ok (.goto 4, 3) := by decide +kernel
theorem dX9_removeLeg_13 : decode cX9_removeLeg 13 = .ok (.iconst 1, 1) := by decide +kernel
theorem dX9_removeLeg_14 : decode cX9_removeLeg 14 = .ok (.invokevirtual 158, 3) := by decide +kernel
theorem dX9_removeLeg_17 : decode cX9_removeLeg 17 = .ok (.ifCond .ne 5, 3) := by decide +kernel
theorem dX9_removeLeg_20 : decode cX9_removeLeg 20 = .ok (.iconst 0, 1) := by decide +kernel
theorem dX9_removeLeg_21 : decode cX9_removeLeg 21 = .ok (.ireturn, 1) := by decide +kernel
theorem dX9_removeLeg_22 : decode cX9_removeLeg 22 = .ok (.aload_n 0, 1) := by decide +kernel
theorem dX9_removeLeg_23 : decode cX9_removeLeg 23 = .ok (.invokevirtual 161, 3) := by decide +kernel
theorem dX9_removeLeg_26 : decode cX9_removeLeg 26 = .ok (.aload_n 0, 1) := by decide +kernel
theorem dX9_removeLeg_27 : decode cX9_removeLeg 27 = .ok (.iload_n 1, 1) := by decide +kernel
theorem dX9_removeLeg_28 : decode cX9_removeLeg 28 = .ok (.invokevirtual 188, 3) := by decide +kernel
theorem dX9_removeLeg_31 : decode cX9_removeLeg 31 = .ok (.aload_n 0, 1) := by decide +kernel
theorem dX9_removeLeg_32 : decode cX9_removeLeg 32 = .ok (.invokevirtual 148, 3) := by decide +kernel
theorem dX9_removeLeg_35 : decode cX9_removeLeg 35 = .ok (.aload_n 0, 1) := by decide +kernel
theorem dX9_removeLeg_36 : decode cX9_removeLeg 36 = .ok (.getfield 98, 3) := by decide +kernel
theorem dX9_removeLeg_39 : decode cX9_removeLeg 39 = .ok (.ireturn, 1) := by decide +kernel
set_option maxRecDepth 20000 in
theorem ggX9_removeLeg_X9_layOut : GoodIn wsX9_removeLeg wsX9_layOut := goodIn_r _ [32, 33, 34, 35, 5, 36, 7, 37, 38, 39, 40, 41, 42, 43, 44, 26, 27, 28, 45, 46, 47, 48, 49, 50, 51, 52, 53, 54, 55, 56, 57, 58, 59, 60, 1, 61, 62, 63, 64, 65, 66, 67, 68, 69, 70, 71, 72, 73, 74, 75, 76, 77, 78, 79, 80, 81, 82, 83, 84, 85, 86, 87, 88, 89, 90, 91, 92, 93, 94, 95, 96, 97, 98, 99, 100, 101, 102, 103, 104, 105, 106, 107, 108, 109, 110, 111, 112, 113, 114, 115, 116, 117, 118, 119, 120, 121, 122, 123, 124] (by decide +kernel) (by decide +kernel)
set_option maxRecDepth 20000 in
theorem gX9_removeLeg_X9_layOut : GoodIn wsX9_removeLeg (wsV RX9 148 RX9 yX9_layOut wsX9_layOut) := goodIn_app (goodIn_of _ (by decide +kernel)) ggX9_removeLeg_X9_layOut
set_option maxRecDepth 20000 in
theorem ggX9_removeLeg_X9_remove : GoodIn wsX9_removeLeg wsX9_remove := goodIn_r _ [25, 7, 26, 27, 5, 28, 100, 101, 102, 103, 104, 105, 106, 107, 108, 109, 110, 111, 112, 113, 114, 115, 116, 117, 118, 119, 120, 121, 122, 123, 124] (by decide +kernel) (by decide +kernel)
set_option maxRecDepth 20000 in
theorem gX9_removeLeg_X9_remove : GoodIn wsX9_removeLeg (wsV RX9 188 RX9 yX9_remove wsX9_remove) := goodIn_app (goodIn_of _ (by decide +kernel)) ggX9_removeLeg_X9_remove
set_option maxRecDepth 20000 in
theorem ggX9_removeLeg_X9_save : GoodIn wsX9_removeLeg wsX9_save := goodIn_r _ [19, 20, 21, 7, 100, 101, 102, 103, 104, 105, 106, 107, 108, 109, 110, 111, 112, 113, 114, 115, 116, 117, 118, 119, 120, 121, 122, 123, 124] (by decide +kernel) (by decide +kernel)
set_option maxRecDepth 20000 in
theorem gX9_removeLeg_X9_save : GoodIn wsX9_removeLeg (wsV RX9 161 RX9 yX9_save wsX9_save) := goodIn_app (goodIn_of _ (by decide +kernel)) ggX9_removeLeg_X9_save
set_option maxRecDepth 20000 in
theorem ggX9_removeLeg_X9_holds : GoodIn wsX9_removeLeg wsX9_holds := goodIn_r _ [14, 15, 100, 101, 102, 103, 104, 105, 106, 107, 108, 109, 110, 111, 112, 113, 114, 115, 116, 117, 118, 119, 120, 121, 122, 123, 124] (by decide +kernel) (by decide +kernel)
set_option maxRecDepth 20000 in
theorem gX9_removeLeg_X9_holds : GoodIn wsX9_removeLeg (wsV RX9 158 RX9 yX9_holds wsX9_holds) := goodIn_app (goodIn_of _ (by decide +kernel)) ggX9_removeLeg_X9_holds
set_option maxRecDepth 20000 in
theorem ggX9_removeLeg_X9_isLeg : GoodIn wsX9_removeLeg wsX9_isLeg := goodIn_r _ [6, 7, 8, 9, 5, 10, 100, 101, 102, 103, 104, 105, 106, 107, 108, 109, 110, 111, 112, 113, 114, 115, 116, 117, 118, 119, 120, 121, 122, 123, 124] (by decide +kernel) (by decide +kernel)
set_option maxRecDepth 20000 in
theorem gX9_removeLeg_X9_isLeg : GoodIn wsX9_removeLeg (wsV RX9 180 RX9 yX9_isLeg wsX9_isLeg) := goodIn_app (goodIn_of _ (by decide +kernel)) ggX9_removeLeg_X9_isLeg
def D_X9_removeLeg : Md := (yX9_removeLeg, cX9_removeLeg, 2, (some .int), wsX9_removeLeg, RX9, { frames := 5, cells := 0, slots := 0, locals := 113 })
theorem nm_X9_removeLeg : nmD D_X9_removeLeg 1 := ⟨rfl, by decide +kernel, by decide +kernel, by decide +kernel⟩
theorem hi_X9_removeLeg_X9 : ∀ w ∈ u_ws RX9 TX9 25, w ∈ wsX9_removeLeg := by decide +kernel
theorem hl_X9_removeLeg_98 : Cond.fieldLink RX9 98 "LevelLoopsModel" "manyLoops" "I" ∈ wsX9_removeLeg := by decide +kernel
def wp_X9_removeLeg_J14 (x1 : Int32) (s0 : Int32) (w : Wd) (Q : Int32 → Wd → Prop) : Prop :=
  wp_X9_holds s0 w (fun r14 w14 => ((¬ r14 = 0 → wp_X9_save w14 (fun w23 => wp_X9_remove x1 w23 (fun w28 => wp_X9_layOut w28 (fun w32 => Q (wi w32 0 32 15) w32)))) ∧ (r14 = 0 → Q (0 : Int32) w14)))
def wp_X9_removeLeg (x1 : Int32) (w : Wd) (Q : Int32 → Wd → Prop) : Prop :=
  wp_X9_isLeg x1 w (fun r3 => ((r3 = 0 → wp_X9_removeLeg_J14 x1 (1 : Int32) w Q) ∧ (¬ r3 = 0 → wp_X9_removeLeg_J14 x1 (0 : Int32) w Q)))
theorem ok_X9_removeLeg_J14 {G : Gt} {M : Mx} {Qf : State → Prop} {x1 : Int32} {s0 : Int32} {w : Wd} {Q : Int32 → Wd → Prop} (hC : cx G D_X9_removeLeg M) (he : en G M (qi Q) Qf) (h : wp_X9_removeLeg_J14 x1 s0 w Q) : jq G D_X9_removeLeg M Qf 14 [(0, .ref (aD G 0 32)), (1, .int x1)] [.int s0, .ref (aD G 0 32)] w := by
  unfold wp_X9_removeLeg_J14 at h
  refine jq_callV (As := [.int s0]) (rest := []) (n := 0) (o := 32) (D' := D_X9_holds) dX9_removeLeg_14 hC (cl_0 (by decide)) rfl rfl rfl (mt_X9_holds h) gX9_removeLeg_X9_holds rfl ⟨rfl, rfl, Nat.le_of_ble_eq_true rfl, Nat.le_of_ble_eq_true rfl⟩ nm_X9_holds rfl (Nat.le_of_ble_eq_true rfl) (kI fun r14 w14 h => ?_)
  refine jq_if_ne (tgt := 22) dX9_removeLeg_17 hC (by decide) (fun c17 => ?_) (fun c17 => ?_)
  · have h := h.1 c17
    refine jq_aload_n (k0 := 0) dX9_removeLeg_22 hC rfl rfl ?_
    refine jq_callV (As := []) (rest := []) (n := 0) (o := 32) (D' := D_X9_save) dX9_removeLeg_23 hC (cl_0 (by decide)) rfl rfl rfl (mt_X9_save h) gX9_removeLeg_X9_save rfl ⟨rfl, rfl, Nat.le_of_ble_eq_true rfl, Nat.le_of_ble_eq_true rfl⟩ nm_X9_save rfl (Nat.le_of_ble_eq_true rfl) (kV fun w23 h => ?_)
    refine jq_aload_n (k0 := 0) dX9_removeLeg_26 hC rfl rfl ?_
    refine jq_iload_n (k0 := 1) dX9_removeLeg_27 hC rfl rfl ?_
    refine jq_callV (As := [.int x1]) (rest := []) (n := 0) (o := 32) (D' := D_X9_remove) dX9_removeLeg_28 hC (cl_0 (by decide)) rfl rfl rfl (mt_X9_remove h) gX9_removeLeg_X9_remove rfl ⟨rfl, rfl, Nat.le_of_ble_eq_true rfl, Nat.le_of_ble_eq_true rfl⟩ nm_X9_remove rfl (Nat.le_of_ble_eq_true rfl) (kV fun w28 h => ?_)
    refine jq_aload_n (k0 := 0) dX9_removeLeg_31 hC rfl rfl ?_
    refine jq_callV (As := []) (rest := []) (n := 0) (o := 32) (D' := D_X9_layOut) dX9_removeLeg_32 hC (cl_0 (by decide)) rfl rfl rfl (mt_X9_layOut h) gX9_removeLeg_X9_layOut rfl ⟨rfl, rfl, Nat.le_of_ble_eq_true rfl, Nat.le_of_ble_eq_true rfl⟩ nm_X9_layOut rfl (Nat.le_of_ble_eq_true rfl) (kV fun w32 h => ?_)
    refine jq_aload_n (k0 := 0) dX9_removeLeg_35 hC rfl rfl ?_
    refine jq_get (k0 := 15) (n := 0) (o := 32) dX9_removeLeg_36 hC (cl_0 (by decide)) rfl rfl hi_X9_removeLeg_X9 (by decide) hl_X9_removeLeg_98 rfl rfl ?_
    exact jq_iret dX9_removeLeg_39 hC he rfl ⟨_, rfl, h⟩
  · have h := h.2 c17
    refine jq_iconst (v := (0 : Int32)) dX9_removeLeg_20 hC (by decide) ?_
    exact jq_iret dX9_removeLeg_21 hC he rfl ⟨_, rfl, h⟩
theorem ok_X9_removeLeg {G : Gt} {M : Mx} {Qf : State → Prop} {x1 : Int32} {w : Wd} {Q : Int32 → Wd → Prop} (hC : cx G D_X9_removeLeg M) (he : en G M (qi Q) Qf) (h : wp_X9_removeLeg x1 w Q) : jq G D_X9_removeLeg M Qf 0 [(0, .ref (aD G 0 32)), (1, .int x1)] [] w := by
  unfold wp_X9_removeLeg at h
  refine jq_aload_n (k0 := 0) dX9_removeLeg_0 hC rfl rfl ?_
  refine jq_aload_n (k0 := 0) dX9_removeLeg_1 hC rfl rfl ?_
  refine jq_iload_n (k0 := 1) dX9_removeLeg_2 hC rfl rfl ?_
  refine jq_callV (As := [.int x1]) (rest := [.ref (aD G 0 32)]) (n := 0) (o := 32) (D' := D_X9_isLeg) dX9_removeLeg_3 hC (cl_0 (by decide)) rfl rfl rfl (mt_X9_isLeg h) gX9_removeLeg_X9_isLeg rfl ⟨rfl, rfl, Nat.le_of_ble_eq_true rfl, Nat.le_of_ble_eq_true rfl⟩ nm_X9_isLeg rfl (Nat.le_of_ble_eq_true rfl) (kIp fun r3 h => ?_)
  refine jq_if_eq (tgt := 13) dX9_removeLeg_6 hC (by decide) (fun c6 => ?_) (fun c6 => ?_)
  · have h := h.1 c6
    refine jq_iconst (v := (1 : Int32)) dX9_removeLeg_13 hC (by decide) ?_
    refine jq_less (L' := [(0, .ref (aD G 0 32)), (1, .int x1)]) [0, 1] rfl ?_
    exact ok_X9_removeLeg_J14 hC he h
  · have h := h.2 c6
    refine jq_iconst (v := (0 : Int32)) dX9_removeLeg_9 hC (by decide) ?_
    refine jq_goto (tgt := 14) dX9_removeLeg_10 hC (by decide) ?_
    refine jq_less (L' := [(0, .ref (aD G 0 32)), (1, .int x1)]) [0, 1] rfl ?_
    exact ok_X9_removeLeg_J14 hC he h
theorem mt_X9_removeLeg {G : Gt} {x1 : Int32} {w : Wd} {Q : Int32 → Wd → Prop} (h : wp_X9_removeLeg x1 w Q) : Mt G D_X9_removeLeg [.ref (aD G 0 32), .int x1] w (qi Q) := Mt_of (by decide +kernel) rfl rfl (Nat.le_of_ble_eq_true rfl) (fun M Qf hC he => ok_X9_removeLeg hC he h)
/-! X9.set(II)I -/
theorem dX9_set_0 : decode cX9_set 0 = .ok (.aload_n 0, 1) := by decide +kernel
theorem dX9_set_1 : decode cX9_set 1 = .ok (.iload_n 1, 1) := by decide +kernel
theorem dX9_set_2 : decode cX9_set 2 = .ok (.iconst 0, 1) := by decide +kernel
theorem dX9_set_3 : decode cX9_set 3 = .ok (.iconst 2, 1) := by decide +kernel
theorem dX9_set_4 : decode cX9_set 4 = .ok (.invokestatic 69, 3) := by decide +kernel
theorem dX9_set_7 : decode cX9_set 7 = .ok (.ifCond .ne 7, 3) := by decide +kernel
theorem dX9_set_10 : decode cX9_set 10 = .ok (.iconst 1, 1) := by decide +kernel
theorem dX9_set_11 : decode cX9_set 11 = .ok (.goto 29, 3) := by decide +kernel
theorem dX9_set_14 : decode cX9_set 14 = .ok (.iload_n 2, 1) := by decide +kernel
theorem dX9_set_15 : decode cX9_set 15 = .ok (.iconst 0, 1) := by decide +kernel
theorem dX9_set_16 : decode cX9_set 16 = .ok (.iload_n 1, 1) := by decide +kernel
theorem dX9_set_17 : decode cX9_set 17 = .ok (.iconst 2, 1) := by decide +kernel
theorem dX9_set_18 : decode cX9_set 18 = .ok (.if_icmp .ne 9, 3) := by decide +kernel
theorem dX9_set_21 : decode cX9_set 21 = .ok (.sipush 999, 3) := by decide +kernel
theorem dX9_set_24 : decode cX9_set 24 = .ok (.goto 5, 3) := by decide +kernel
theorem dX9_set_27 : decode cX9_set 27 = .ok (.bipush 99, 2) := by decide +kernel
theorem dX9_set_29 : decode cX9_set 29 = .ok (.invokestatic 69, 3) := by decide +kernel
theorem dX9_set_32 : decode cX9_set 32 = .ok (.ifCond .ne 7, 3) := by decide +kernel
theorem dX9_set_35 : decode cX9_set 35 = .ok (.iconst 2, 1) := by decide +kernel
theorem dX9_set_36 : decode cX9_set 36 = .ok (.goto 4, 3) := by decide +kernel
theorem dX9_set_39 : decode cX9_set 39 = .ok (.iconst 0, 1) := by decide +kernel
theorem dX9_set_40 : decode cX9_set 40 = .ok (.invokevirtual 158, 3) := by decide +kernel
theorem dX9_set_43 : decode cX9_set 43 = .ok (.ifCond .ne 5, 3) := by decide +kernel
theorem dX9_set_46 : decode cX9_set 46 = .ok (.iconst 0, 1) := by decide +kernel
theorem dX9_set_47 : decode cX9_set 47 = .ok (.ireturn, 1) := by decide +kernel
theorem dX9_set_48 : decode cX9_set 48 = .ok (.aload_n 0, 1) := by decide +kernel
theorem dX9_set_49 : decode cX9_set 49 = .ok (.invokevirtual 161, 3) := by decide +kernel
theorem dX9_set_52 : decode cX9_set 52 = .ok (.aload_n 0, 1) := by decide +kernel
theorem dX9_set_53 : decode cX9_set 53 = .ok (.getfield 7, 3) := by decide +kernel
theorem dX9_set_56 : decode cX9_set 56 = .ok (.bipush 92, 2) := by decide +kernel
theorem dX9_set_58 : decode cX9_set 58 = .ok (.iload_n 1, 1) := by decide +kernel
theorem dX9_set_59 : decode cX9_set 59 = .ok (.iadd, 1) := by decide +kernel
theorem dX9_set_60 : decode cX9_set 60 = .ok (.iaload, 1) := by decide +kernel
theorem dX9_set_61 : decode cX9_set 61 = .ok (.istore_n 3, 1) := by decide +kernel
theorem dX9_set_62 : decode cX9_set 62 = .ok (.aload_n 0, 1) := by decide +kernel
theorem dX9_set_63 : decode cX9_set 63 = .ok (.getfield 7, 3) := by decide +kernel
theorem dX9_set_66 : decode cX9_set 66 = .ok (.bipush 92, 2) := by decide +kernel
theorem dX9_set_68 : decode cX9_set 68 = .ok (.iload_n 1, 1) := by decide +kernel
theorem dX9_set_69 : decode cX9_set 69 = .ok (.iadd, 1) := by decide +kernel
theorem dX9_set_70 : decode cX9_set 70 = .ok (.iload_n 2, 1) := by decide +kernel
theorem dX9_set_71 : decode cX9_set 71 = .ok (.iastore, 1) := by decide +kernel
theorem dX9_set_72 : decode cX9_set 72 = .ok (.iload_n 3, 1) := by decide +kernel
theorem dX9_set_73 : decode cX9_set 73 = .ok (.ireturn, 1) := by decide +kernel
set_option maxRecDepth 20000 in
theorem ggX9_set_X9_save : GoodIn wsX9_set wsX9_save := goodIn_r _ [14, 15, 16, 1, 17, 18, 19, 20, 21, 22, 23, 24, 25, 26, 27, 28, 29, 30, 31, 32, 33, 34, 35, 36, 37, 38, 39, 40, 41] (by decide +kernel) (by decide +kernel)
set_option maxRecDepth 20000 in
theorem gX9_set_X9_save : GoodIn wsX9_set (wsV RX9 161 RX9 yX9_save wsX9_save) := goodIn_app (goodIn_of _ (by decide +kernel)) ggX9_set_X9_save
set_option maxRecDepth 20000 in
theorem ggX9_set_X9_holds : GoodIn wsX9_set wsX9_holds := goodIn_r _ [9, 10, 17, 18, 19, 20, 21, 22, 23, 24, 25, 26, 27, 28, 29, 30, 31, 32, 33, 34, 35, 36, 37, 38, 39, 40, 41] (by decide +kernel) (by decide +kernel)
set_option maxRecDepth 20000 in
theorem gX9_set_X9_holds : GoodIn wsX9_set (wsV RX9 158 RX9 yX9_holds wsX9_holds) := goodIn_app (goodIn_of _ (by decide +kernel)) ggX9_set_X9_holds
set_option maxRecDepth 20000 in
theorem ggX9_set_X9_in : GoodIn wsX9_set wsX9_in := goodIn_r _ [5] (by decide +kernel) (by decide +kernel)
set_option maxRecDepth 20000 in
theorem gX9_set_X9_in : GoodIn wsX9_set (va_wsS RX9 69 yX9_in wsX9_in) := goodIn_app (goodIn_of _ (by decide +kernel)) ggX9_set_X9_in
def D_X9_set : Md := (yX9_set, cX9_set, 4, (some .int), wsX9_set, RX9, { frames := 1, cells := 0, slots := 0, locals := 22 })
theorem nm_X9_set : nmD D_X9_set 2 := ⟨rfl, by decide +kernel, by decide +kernel, by decide +kernel⟩
theorem hi_X9_set_X9 : ∀ w ∈ u_ws RX9 TX9 25, w ∈ wsX9_set := by decide +kernel
theorem hl_X9_set_7 : Cond.fieldLink RX9 7 "LevelLoopsModel" "s" "[I" ∈ wsX9_set := by decide +kernel
def wp_X9_set_J40 (x1 : Int32) (x2 : Int32) (s0 : Int32) (w : Wd) (Q : Int32 → Wd → Prop) : Prop :=
  wp_X9_holds s0 w (fun r40 w40 => ((¬ r40 = 0 → wp_X9_save w40 (fun w49 => vp_in ((92 : Int32) + x1) 95 ∧ vp_in ((92 : Int32) + x1) 95 ∧ (∀ w71 : Wd, w71 = (sI w49 0 33 ((92 : Int32) + x1).toNatClampNeg x2) → Q (wi w49 0 33 ((92 : Int32) + x1).toNatClampNeg) w71))) ∧ (r40 = 0 → Q (0 : Int32) w40)))
def wp_X9_set_J29 (x1 : Int32) (x2 : Int32) (s0 : Int32) (s1 : Int32) (s2 : Int32) (w : Wd) (Q : Int32 → Wd → Prop) : Prop :=
  wp_X9_in s2 s1 s0 (fun r29 => ((¬ r29 = 0 → wp_X9_set_J40 x1 x2 (0 : Int32) w Q) ∧ (r29 = 0 → wp_X9_set_J40 x1 x2 (2 : Int32) w Q)))
def wp_X9_set (x1 : Int32) (x2 : Int32) (w : Wd) (Q : Int32 → Wd → Prop) : Prop :=
  wp_X9_in x1 (0 : Int32) (2 : Int32) (fun r4 => ((¬ r4 = 0 → ((¬ x1 = (2 : Int32) → wp_X9_set_J29 x1 x2 (99 : Int32) (0 : Int32) x2 w Q) ∧ (x1 = (2 : Int32) → wp_X9_set_J29 x1 x2 (999 : Int32) (0 : Int32) x2 w Q))) ∧ (r4 = 0 → wp_X9_set_J40 x1 x2 (1 : Int32) w Q)))
theorem ok_X9_set_J40 {G : Gt} {M : Mx} {Qf : State → Prop} {x1 : Int32} {x2 : Int32} {s0 : Int32} {w : Wd} {Q : Int32 → Wd → Prop} (hC : cx G D_X9_set M) (he : en G M (qi Q) Qf) (h : wp_X9_set_J40 x1 x2 s0 w Q) : jq G D_X9_set M Qf 40 [(0, .ref (aD G 0 32)), (1, .int x1), (2, .int x2)] [.int s0, .ref (aD G 0 32)] w := by
  unfold wp_X9_set_J40 at h
  refine jq_callV (As := [.int s0]) (rest := []) (n := 0) (o := 32) (D' := D_X9_holds) dX9_set_40 hC (cl_0 (by decide)) rfl rfl rfl (mt_X9_holds h) gX9_set_X9_holds rfl ⟨rfl, rfl, Nat.le_of_ble_eq_true rfl, Nat.le_of_ble_eq_true rfl⟩ nm_X9_holds rfl (Nat.le_of_ble_eq_true rfl) (kI fun r40 w40 h => ?_)
  refine jq_if_ne (tgt := 48) dX9_set_43 hC (by decide) (fun c43 => ?_) (fun c43 => ?_)
  · have h := h.1 c43
    refine jq_aload_n (k0 := 0) dX9_set_48 hC rfl rfl ?_
    refine jq_callV (As := []) (rest := []) (n := 0) (o := 32) (D' := D_X9_save) dX9_set_49 hC (cl_0 (by decide)) rfl rfl rfl (mt_X9_save h) gX9_set_X9_save rfl ⟨rfl, rfl, Nat.le_of_ble_eq_true rfl, Nat.le_of_ble_eq_true rfl⟩ nm_X9_save rfl (Nat.le_of_ble_eq_true rfl) (kV fun w49 h => ?_)
    refine jq_aload_n (k0 := 0) dX9_set_52 hC rfl rfl ?_
    refine jq_get (k0 := 1) (n := 0) (o := 32) dX9_set_53 hC (cl_0 (by decide)) rfl rfl hi_X9_set_X9 (by decide) hl_X9_set_7 rfl rfl ?_
    refine jq_bipush (v := (92 : Int32)) dX9_set_56 hC (by decide) ?_
    refine jq_iload_n (k0 := 1) dX9_set_58 hC rfl rfl ?_
    refine jq_iadd dX9_set_59 hC ?_
    obtain ⟨b60, h⟩ := h
    refine jq_iald (n := 0) (o := 33) (j := ((92 : Int32) + x1).toNatClampNeg) dX9_set_60 hC (cl_0 (by decide)) rfl b60 rfl ?_
    refine jq_istore_n (L' := [(3, .int (wi w49 0 33 ((92 : Int32) + x1).toNatClampNeg)), (0, .ref (aD G 0 32)), (1, .int x1), (2, .int x2)]) dX9_set_61 hC rfl (by decide) rfl ?_
    refine jq_aload_n (k0 := 1) dX9_set_62 hC rfl rfl ?_
    refine jq_get (k0 := 1) (n := 0) (o := 32) dX9_set_63 hC (cl_0 (by decide)) rfl rfl hi_X9_set_X9 (by decide) hl_X9_set_7 rfl rfl ?_
    refine jq_bipush (v := (92 : Int32)) dX9_set_66 hC (by decide) ?_
    refine jq_iload_n (k0 := 2) dX9_set_68 hC rfl rfl ?_
    refine jq_iadd dX9_set_69 hC ?_
    refine jq_iload_n (k0 := 3) dX9_set_70 hC rfl rfl ?_
    obtain ⟨b71, h⟩ := h
    refine jq_iast (n := 0) (o := 33) (j := ((92 : Int32) + x1).toNatClampNeg) dX9_set_71 hC (cl_0 (by decide)) (fun _ => rfl) b71 rfl ?_
    refine jq_w (fun w71 e71 => ?_)
    have h := h w71 e71
    refine jq_iload_n (k0 := 0) dX9_set_72 hC rfl rfl ?_
    exact jq_iret dX9_set_73 hC he rfl ⟨_, rfl, h⟩
  · have h := h.2 c43
    refine jq_iconst (v := (0 : Int32)) dX9_set_46 hC (by decide) ?_
    exact jq_iret dX9_set_47 hC he rfl ⟨_, rfl, h⟩
theorem ok_X9_set_J29 {G : Gt} {M : Mx} {Qf : State → Prop} {x1 : Int32} {x2 : Int32} {s0 : Int32} {s1 : Int32} {s2 : Int32} {w : Wd} {Q : Int32 → Wd → Prop} (hC : cx G D_X9_set M) (he : en G M (qi Q) Qf) (h : wp_X9_set_J29 x1 x2 s0 s1 s2 w Q) : jq G D_X9_set M Qf 29 [(0, .ref (aD G 0 32)), (1, .int x1), (2, .int x2)] [.int s0, .int s1, .int s2, .ref (aD G 0 32)] w := by
  unfold wp_X9_set_J29 at h
  refine jq_callS (As := [.int s2, .int s1, .int s0]) (rest := [.ref (aD G 0 32)]) (D' := D_X9_in) dX9_set_29 hC (mt_X9_in h) gX9_set_X9_in rfl ⟨rfl, rfl, Nat.le_of_ble_eq_true rfl, Nat.le_of_ble_eq_true rfl⟩ nm_X9_in rfl (Nat.le_of_ble_eq_true rfl) (kIp fun r29 h => ?_)
  refine jq_if_ne (tgt := 39) dX9_set_32 hC (by decide) (fun c32 => ?_) (fun c32 => ?_)
  · have h := h.1 c32
    refine jq_iconst (v := (0 : Int32)) dX9_set_39 hC (by decide) ?_
    refine jq_less (L' := [(0, .ref (aD G 0 32)), (1, .int x1), (2, .int x2)]) [0, 1, 2] rfl ?_
    exact ok_X9_set_J40 hC he h
  · have h := h.2 c32
    refine jq_iconst (v := (2 : Int32)) dX9_set_35 hC (by decide) ?_
    refine jq_goto (tgt := 40) dX9_set_36 hC (by decide) ?_
    refine jq_less (L' := [(0, .ref (aD G 0 32)), (1, .int x1), (2, .int x2)]) [0, 1, 2] rfl ?_
    exact ok_X9_set_J40 hC he h
theorem ok_X9_set {G : Gt} {M : Mx} {Qf : State → Prop} {x1 : Int32} {x2 : Int32} {w : Wd} {Q : Int32 → Wd → Prop} (hC : cx G D_X9_set M) (he : en G M (qi Q) Qf) (h : wp_X9_set x1 x2 w Q) : jq G D_X9_set M Qf 0 [(0, .ref (aD G 0 32)), (1, .int x1), (2, .int x2)] [] w := by
  unfold wp_X9_set at h
  refine jq_aload_n (k0 := 0) dX9_set_0 hC rfl rfl ?_
  refine jq_iload_n (k0 := 1) dX9_set_1 hC rfl rfl ?_
  refine jq_iconst (v := (0 : Int32)) dX9_set_2 hC (by decide) ?_
  refine jq_iconst (v := (2 : Int32)) dX9_set_3 hC (by decide) ?_
  refine jq_callS (As := [.int x1, .int (0 : Int32), .int (2 : Int32)]) (rest := [.ref (aD G 0 32)]) (D' := D_X9_in) dX9_set_4 hC (mt_X9_in h) gX9_set_X9_in rfl ⟨rfl, rfl, Nat.le_of_ble_eq_true rfl, Nat.le_of_ble_eq_true rfl⟩ nm_X9_in rfl (Nat.le_of_ble_eq_true rfl) (kIp fun r4 h => ?_)
  refine jq_if_ne (tgt := 14) dX9_set_7 hC (by decide) (fun c7 => ?_) (fun c7 => ?_)
  · have h := h.1 c7
    refine jq_iload_n (k0 := 2) dX9_set_14 hC rfl rfl ?_
    refine jq_iconst (v := (0 : Int32)) dX9_set_15 hC (by decide) ?_
    refine jq_iload_n (k0 := 1) dX9_set_16 hC rfl rfl ?_
    refine jq_iconst (v := (2 : Int32)) dX9_set_17 hC (by decide) ?_
    refine jq_icmp_ne (tgt := 27) dX9_set_18 hC (by decide) (fun c18 => ?_) (fun c18 => ?_)
    · have h := h.1 c18
      refine jq_bipush (v := (99 : Int32)) dX9_set_27 hC (by decide) ?_
      refine jq_less (L' := [(0, .ref (aD G 0 32)), (1, .int x1), (2, .int x2)]) [0, 1, 2] rfl ?_
      exact ok_X9_set_J29 hC he h
    · have h := h.2 c18
      refine jq_sipush (v := (999 : Int32)) dX9_set_21 hC (by decide) ?_
      refine jq_goto (tgt := 29) dX9_set_24 hC (by decide) ?_
      refine jq_less (L' := [(0, .ref (aD G 0 32)), (1, .int x1), (2, .int x2)]) [0, 1, 2] rfl ?_
      exact ok_X9_set_J29 hC he h
  · have h := h.2 c7
    refine jq_iconst (v := (1 : Int32)) dX9_set_10 hC (by decide) ?_
    refine jq_goto (tgt := 40) dX9_set_11 hC (by decide) ?_
    refine jq_less (L' := [(0, .ref (aD G 0 32)), (1, .int x1), (2, .int x2)]) [0, 1, 2] rfl ?_
    exact ok_X9_set_J40 hC he h
theorem mt_X9_set {G : Gt} {x1 : Int32} {x2 : Int32} {w : Wd} {Q : Int32 → Wd → Prop} (h : wp_X9_set x1 x2 w Q) : Mt G D_X9_set [.ref (aD G 0 32), .int x1, .int x2] w (qi Q) := Mt_of (by decide +kernel) rfl rfl (Nat.le_of_ble_eq_true rfl) (fun M Qf hC he => ok_X9_set hC he h)
/-! X9.append(I)I -/
theorem dX9_append_0 : decode cX9_append 0 = .ok (.aload_n 0, 1) := by decide +kernel
theorem dX9_append_1 : decode cX9_append 1 = .ok (.iload_n 1, 1) := by decide +kernel
theorem dX9_append_2 : decode cX9_append 2 = .ok (.bipush 33, 2) := by decide +kernel
theorem dX9_append_4 : decode cX9_append 4 = .ok (.bipush 126, 2) := by decide +kernel
theorem dX9_append_6 : decode cX9_append 6 = .ok (.invokestatic 69, 3) := by decide +kernel
theorem dX9_append_9 : decode cX9_append 9 = .ok (.ifCond .ne 7, 3) := by decide +kernel
theorem dX9_append_12 : decode cX9_append 12 = .ok (.iconst 1, 1) := by decide +kernel
theorem dX9_append_13 : decode cX9_append 13 = .ok (.goto 17, 3) := by decide +kernel
theorem dX9_append_16 : decode cX9_append 16 = .ok (.aload_n 0, 1) := by decide +kernel
theorem dX9_append_17 : decode cX9_append 17 = .ok (.getfield 192, 3) := by decide +kernel
theorem dX9_append_20 : decode cX9_append 20 = .ok (.bipush 60, 2) := by decide +kernel
theorem dX9_append_22 : decode cX9_append 22 = .ok (.if_icmp .ne 7, 3) := by decide +kernel
theorem dX9_append_25 : decode cX9_append 25 = .ok (.iconst 2, 1) := by decide +kernel
theorem dX9_append_26 : decode cX9_append 26 = .ok (.goto 4, 3) := by decide +kernel
theorem dX9_append_29 : decode cX9_append 29 = .ok (.iconst 0, 1) := by decide +kernel
theorem dX9_append_30 : decode cX9_append 30 = .ok (.invokevirtual 158, 3) := by decide +kernel
theorem dX9_append_33 : decode cX9_append 33 = .ok (.ifCond .ne 5, 3) := by decide +kernel
theorem dX9_append_36 : decode cX9_append 36 = .ok (.iconst 0, 1) := by decide +kernel
theorem dX9_append_37 : decode cX9_append 37 = .ok (.ireturn, 1) := by decide +kernel
theorem dX9_append_38 : decode cX9_append 38 = .ok (.aload_n 0, 1) := by decide +kernel
theorem dX9_append_39 : decode cX9_append 39 = .ok (.getfield 19, 3) := by decide +kernel
theorem dX9_append_42 : decode cX9_append 42 = .ok (.aload_n 0, 1) := by decide +kernel
theorem dX9_append_43 : decode cX9_append 43 = .ok (.getfield 192, 3) := by decide +kernel
theorem dX9_append_46 : decode cX9_append 46 = .ok (.iload_n 1, 1) := by decide +kernel
theorem dX9_append_47 : decode cX9_append 47 = .ok (.iastore, 1) := by decide +kernel
theorem dX9_append_48 : decode cX9_append 48 = .ok (.aload_n 0, 1) := by decide +kernel
theorem dX9_append_49 : decode cX9_append 49 = .ok (.dup, 1) := by decide +kernel
theorem dX9_append_50 : decode cX9_append 50 = .ok (.getfield 192, 3) := by decide +kernel
theorem dX9_append_53 : decode cX9_append 53 = .ok (.iconst 1, 1) := by decide +kernel
theorem dX9_append_54 : decode cX9_append 54 = .ok (.iadd, 1) := by decide +kernel
theorem dX9_append_55 : decode cX9_append 55 = .ok (.putfield 192, 3) := by decide +kernel
theorem dX9_append_58 : decode cX9_append 58 = .ok (.aload_n 0, 1) := by decide +kernel
theorem dX9_append_59 : decode cX9_append 59 = .ok (.getfield 192, 3) := by decide +kernel
theorem dX9_append_62 : decode cX9_append 62 = .ok (.ireturn, 1) := by decide +kernel
set_option maxRecDepth 20000 in
theorem ggX9_append_X9_holds : GoodIn wsX9_append wsX9_holds := goodIn_r _ [10, 11, 12, 13, 14, 15, 16, 17, 18, 19, 20, 21, 22, 23, 24, 25, 26, 27, 28, 29, 30, 31, 32, 33, 34, 35, 36] (by decide +kernel) (by decide +kernel)
set_option maxRecDepth 20000 in
theorem gX9_append_X9_holds : GoodIn wsX9_append (wsV RX9 158 RX9 yX9_holds wsX9_holds) := goodIn_app (goodIn_of _ (by decide +kernel)) ggX9_append_X9_holds
set_option maxRecDepth 20000 in
theorem ggX9_append_X9_in : GoodIn wsX9_append wsX9_in := goodIn_r _ [6] (by decide +kernel) (by decide +kernel)
set_option maxRecDepth 20000 in
theorem gX9_append_X9_in : GoodIn wsX9_append (va_wsS RX9 69 yX9_in wsX9_in) := goodIn_app (goodIn_of _ (by decide +kernel)) ggX9_append_X9_in
def D_X9_append : Md := (yX9_append, cX9_append, 2, (some .int), wsX9_append, RX9, { frames := 1, cells := 0, slots := 0, locals := 22 })
theorem nm_X9_append : nmD D_X9_append 1 := ⟨rfl, by decide +kernel, by decide +kernel, by decide +kernel⟩
theorem hi_X9_append_X9 : ∀ w ∈ u_ws RX9 TX9 25, w ∈ wsX9_append := by decide +kernel
theorem hl_X9_append_19 : Cond.fieldLink RX9 19 "LevelLoopsModel" "text" "[I" ∈ wsX9_append := by decide +kernel
theorem hl_X9_append_192 : Cond.fieldLink RX9 192 "LevelLoopsModel" "length" "I" ∈ wsX9_append := by decide +kernel
def wp_X9_append_J30 (x1 : Int32) (s0 : Int32) (w : Wd) (Q : Int32 → Wd → Prop) : Prop :=
  wp_X9_holds s0 w (fun r30 w30 => ((¬ r30 = 0 → vp_in (wi w30 0 32 6) 60 ∧ (∀ w47 : Wd, w47 = (sI w30 0 36 (wi w30 0 32 6).toNatClampNeg x1) → (∀ w55 : Wd, w55 = (sI w47 0 32 6 ((wi w47 0 32 6) + (1 : Int32))) → Q (wi w55 0 32 6) w55))) ∧ (r30 = 0 → Q (0 : Int32) w30)))
def wp_X9_append (x1 : Int32) (w : Wd) (Q : Int32 → Wd → Prop) : Prop :=
  wp_X9_in x1 (33 : Int32) (126 : Int32) (fun r6 => ((¬ r6 = 0 → ((¬ (wi w 0 32 6) = (60 : Int32) → wp_X9_append_J30 x1 (0 : Int32) w Q) ∧ ((wi w 0 32 6) = (60 : Int32) → wp_X9_append_J30 x1 (2 : Int32) w Q))) ∧ (r6 = 0 → wp_X9_append_J30 x1 (1 : Int32) w Q)))
theorem ok_X9_append_J30 {G : Gt} {M : Mx} {Qf : State → Prop} {x1 : Int32} {s0 : Int32} {w : Wd} {Q : Int32 → Wd → Prop} (hC : cx G D_X9_append M) (he : en G M (qi Q) Qf) (h : wp_X9_append_J30 x1 s0 w Q) : jq G D_X9_append M Qf 30 [(0, .ref (aD G 0 32)), (1, .int x1)] [.int s0, .ref (aD G 0 32)] w := by
  unfold wp_X9_append_J30 at h
  refine jq_callV (As := [.int s0]) (rest := []) (n := 0) (o := 32) (D' := D_X9_holds) dX9_append_30 hC (cl_0 (by decide)) rfl rfl rfl (mt_X9_holds h) gX9_append_X9_holds rfl ⟨rfl, rfl, Nat.le_of_ble_eq_true rfl, Nat.le_of_ble_eq_true rfl⟩ nm_X9_holds rfl (Nat.le_of_ble_eq_true rfl) (kI fun r30 w30 h => ?_)
  refine jq_if_ne (tgt := 38) dX9_append_33 hC (by decide) (fun c33 => ?_) (fun c33 => ?_)
  · have h := h.1 c33
    refine jq_aload_n (k0 := 0) dX9_append_38 hC rfl rfl ?_
    refine jq_get (k0 := 5) (n := 0) (o := 32) dX9_append_39 hC (cl_0 (by decide)) rfl rfl hi_X9_append_X9 (by decide) hl_X9_append_19 rfl rfl ?_
    refine jq_aload_n (k0 := 0) dX9_append_42 hC rfl rfl ?_
    refine jq_get (k0 := 6) (n := 0) (o := 32) dX9_append_43 hC (cl_0 (by decide)) rfl rfl hi_X9_append_X9 (by decide) hl_X9_append_192 rfl rfl ?_
    refine jq_iload_n (k0 := 1) dX9_append_46 hC rfl rfl ?_
    obtain ⟨b47, h⟩ := h
    refine jq_iast (n := 0) (o := 36) (j := (wi w30 0 32 6).toNatClampNeg) dX9_append_47 hC (cl_0 (by decide)) (fun _ => rfl) b47 rfl ?_
    refine jq_w (fun w47 e47 => ?_)
    have h := h w47 e47
    refine jq_aload_n (k0 := 0) dX9_append_48 hC rfl rfl ?_
    refine jq_dup dX9_append_49 hC rfl ?_
    refine jq_get (k0 := 6) (n := 0) (o := 32) dX9_append_50 hC (cl_0 (by decide)) rfl rfl hi_X9_append_X9 (by decide) hl_X9_append_192 rfl rfl ?_
    refine jq_iconst (v := (1 : Int32)) dX9_append_53 hC (by decide) ?_
    refine jq_iadd dX9_append_54 hC ?_
    refine jq_put (k0 := 6) (n := 0) (o := 32) (ty := .int) (w' := (sI w47 0 32 6 ((wi w47 0 32 6) + (1 : Int32)))) dX9_append_55 hC (cl_0 (by decide)) rfl rfl hi_X9_append_X9 tyX9 tyX9_ok nmX9 (by decide) hl_X9_append_192 rfl rfl (by decide +kernel) rfl rfl (Nat.le_of_ble_eq_true rfl) (e_32_6 G _ _ _) (fun c _ hne => ent_sA c hne) ?_
    refine jq_w (fun w55 e55 => ?_)
    have h := h w55 e55
    refine jq_aload_n (k0 := 0) dX9_append_58 hC rfl rfl ?_
    refine jq_get (k0 := 6) (n := 0) (o := 32) dX9_append_59 hC (cl_0 (by decide)) rfl rfl hi_X9_append_X9 (by decide) hl_X9_append_192 rfl rfl ?_
    exact jq_iret dX9_append_62 hC he rfl ⟨_, rfl, h⟩
  · have h := h.2 c33
    refine jq_iconst (v := (0 : Int32)) dX9_append_36 hC (by decide) ?_
    exact jq_iret dX9_append_37 hC he rfl ⟨_, rfl, h⟩
theorem ok_X9_append {G : Gt} {M : Mx} {Qf : State → Prop} {x1 : Int32} {w : Wd} {Q : Int32 → Wd → Prop} (hC : cx G D_X9_append M) (he : en G M (qi Q) Qf) (h : wp_X9_append x1 w Q) : jq G D_X9_append M Qf 0 [(0, .ref (aD G 0 32)), (1, .int x1)] [] w := by
  unfold wp_X9_append at h
  refine jq_aload_n (k0 := 0) dX9_append_0 hC rfl rfl ?_
  refine jq_iload_n (k0 := 1) dX9_append_1 hC rfl rfl ?_
  refine jq_bipush (v := (33 : Int32)) dX9_append_2 hC (by decide) ?_
  refine jq_bipush (v := (126 : Int32)) dX9_append_4 hC (by decide) ?_
  refine jq_callS (As := [.int x1, .int (33 : Int32), .int (126 : Int32)]) (rest := [.ref (aD G 0 32)]) (D' := D_X9_in) dX9_append_6 hC (mt_X9_in h) gX9_append_X9_in rfl ⟨rfl, rfl, Nat.le_of_ble_eq_true rfl, Nat.le_of_ble_eq_true rfl⟩ nm_X9_in rfl (Nat.le_of_ble_eq_true rfl) (kIp fun r6 h => ?_)
  refine jq_if_ne (tgt := 16) dX9_append_9 hC (by decide) (fun c9 => ?_) (fun c9 => ?_)
  · have h := h.1 c9
    refine jq_aload_n (k0 := 0) dX9_append_16 hC rfl rfl ?_
    refine jq_get (k0 := 6) (n := 0) (o := 32) dX9_append_17 hC (cl_0 (by decide)) rfl rfl hi_X9_append_X9 (by decide) hl_X9_append_192 rfl rfl ?_
    refine jq_bipush (v := (60 : Int32)) dX9_append_20 hC (by decide) ?_
    refine jq_icmp_ne (tgt := 29) dX9_append_22 hC (by decide) (fun c22 => ?_) (fun c22 => ?_)
    · have h := h.1 c22
      refine jq_iconst (v := (0 : Int32)) dX9_append_29 hC (by decide) ?_
      refine jq_less (L' := [(0, .ref (aD G 0 32)), (1, .int x1)]) [0, 1] rfl ?_
      exact ok_X9_append_J30 hC he h
    · have h := h.2 c22
      refine jq_iconst (v := (2 : Int32)) dX9_append_25 hC (by decide) ?_
      refine jq_goto (tgt := 30) dX9_append_26 hC (by decide) ?_
      refine jq_less (L' := [(0, .ref (aD G 0 32)), (1, .int x1)]) [0, 1] rfl ?_
      exact ok_X9_append_J30 hC he h
  · have h := h.2 c9
    refine jq_iconst (v := (1 : Int32)) dX9_append_12 hC (by decide) ?_
    refine jq_goto (tgt := 30) dX9_append_13 hC (by decide) ?_
    refine jq_less (L' := [(0, .ref (aD G 0 32)), (1, .int x1)]) [0, 1] rfl ?_
    exact ok_X9_append_J30 hC he h
theorem mt_X9_append {G : Gt} {x1 : Int32} {w : Wd} {Q : Int32 → Wd → Prop} (h : wp_X9_append x1 w Q) : Mt G D_X9_append [.ref (aD G 0 32), .int x1] w (qi Q) := Mt_of (by decide +kernel) rfl rfl (Nat.le_of_ble_eq_true rfl) (fun M Qf hC he => ok_X9_append hC he h)
/-! X9.clearBuffer()I -/
theorem dX9_clearBuffer_0 : decode cX9_clearBuffer 0 = .ok (.aload_n 0, 1) := by decide +kernel
theorem dX9_clearBuffer_1 : decode cX9_clearBuffer 1 = .ok (.iconst 0, 1) := by decide +kernel
theorem dX9_clearBuffer_2 : decode cX9_clearBuffer 2 = .ok (.putfield 65, 3) := by decide +kernel
theorem dX9_clearBuffer_5 : decode cX9_clearBuffer 5 = .ok (.aload_n 0, 1) := by decide +kernel
theorem dX9_clearBuffer_6 : decode cX9_clearBuffer 6 = .ok (.getfield 192, 3) := by decide +kernel
theorem dX9_clearBuffer_9 : decode cX9_clearBuffer 9 = .ok (.istore_n 1, 1) := by decide +kernel
theorem dX9_clearBuffer_10 : decode cX9_clearBuffer 10 = .ok (.aload_n 0, 1) := by decide +kernel
theorem dX9_clearBuffer_11 : decode cX9_clearBuffer 11 = .ok (.iconst 0, 1) := by decide +kernel
theorem dX9_clearBuffer_12 : decode cX9_clearBuffer 12 = .ok (.putfield 192, 3) := by decide +kernel
theorem dX9_clearBuffer_15 : decode cX9_clearBuffer 15 = .ok (.iload_n 1, 1) := by decide +kernel
theorem dX9_clearBuffer_16 : decode cX9_clearBuffer 16 = .ok (.ireturn, 1) := by decide +kernel
def D_X9_clearBuffer : Md := (yX9_clearBuffer, cX9_clearBuffer, 2, (some .int), wsX9_clearBuffer, RX9, { frames := 0, cells := 0, slots := 0, locals := 0 })
theorem nm_X9_clearBuffer : nmD D_X9_clearBuffer 0 := ⟨rfl, by decide +kernel, by decide +kernel, by decide +kernel⟩
theorem hi_X9_clearBuffer_X9 : ∀ w ∈ u_ws RX9 TX9 25, w ∈ wsX9_clearBuffer := by decide +kernel
theorem hl_X9_clearBuffer_65 : Cond.fieldLink RX9 65 "LevelLoopsModel" "thrown" "I" ∈ wsX9_clearBuffer := by decide +kernel
theorem hl_X9_clearBuffer_192 : Cond.fieldLink RX9 192 "LevelLoopsModel" "length" "I" ∈ wsX9_clearBuffer := by decide +kernel
def wp_X9_clearBuffer (w : Wd) (Q : Int32 → Wd → Prop) : Prop :=
  (∀ w2 : Wd, w2 = (sI w 0 32 0 (0 : Int32)) → (∀ w12 : Wd, w12 = (sI w2 0 32 6 (0 : Int32)) → Q (wi w2 0 32 6) w12))
theorem ok_X9_clearBuffer {G : Gt} {M : Mx} {Qf : State → Prop} {w : Wd} {Q : Int32 → Wd → Prop} (hC : cx G D_X9_clearBuffer M) (he : en G M (qi Q) Qf) (h : wp_X9_clearBuffer w Q) : jq G D_X9_clearBuffer M Qf 0 [(0, .ref (aD G 0 32))] [] w := by
  unfold wp_X9_clearBuffer at h
  refine jq_aload_n (k0 := 0) dX9_clearBuffer_0 hC rfl rfl ?_
  refine jq_iconst (v := (0 : Int32)) dX9_clearBuffer_1 hC (by decide) ?_
  refine jq_put (k0 := 0) (n := 0) (o := 32) (ty := .int) (w' := (sI w 0 32 0 (0 : Int32))) dX9_clearBuffer_2 hC (cl_0 (by decide)) rfl rfl hi_X9_clearBuffer_X9 tyX9 tyX9_ok nmX9 (by decide) hl_X9_clearBuffer_65 rfl rfl (by decide +kernel) rfl rfl (Nat.le_of_ble_eq_true rfl) (e_32_0 G _ _ _) (fun c _ hne => ent_sA c hne) ?_
  refine jq_w (fun w2 e2 => ?_)
  have h := h w2 e2
  refine jq_aload_n (k0 := 0) dX9_clearBuffer_5 hC rfl rfl ?_
  refine jq_get (k0 := 6) (n := 0) (o := 32) dX9_clearBuffer_6 hC (cl_0 (by decide)) rfl rfl hi_X9_clearBuffer_X9 (by decide) hl_X9_clearBuffer_192 rfl rfl ?_
  refine jq_istore_n (L' := [(1, .int (wi w2 0 32 6)), (0, .ref (aD G 0 32))]) dX9_clearBuffer_9 hC rfl (by decide) rfl ?_
  refine jq_aload_n (k0 := 1) dX9_clearBuffer_10 hC rfl rfl ?_
  refine jq_iconst (v := (0 : Int32)) dX9_clearBuffer_11 hC (by decide) ?_
  refine jq_put (k0 := 6) (n := 0) (o := 32) (ty := .int) (w' := (sI w2 0 32 6 (0 : Int32))) dX9_clearBuffer_12 hC (cl_0 (by decide)) rfl rfl hi_X9_clearBuffer_X9 tyX9 tyX9_ok nmX9 (by decide) hl_X9_clearBuffer_192 rfl rfl (by decide +kernel) rfl rfl (Nat.le_of_ble_eq_true rfl) (e_32_6 G _ _ _) (fun c _ hne => ent_sA c hne) ?_
  refine jq_w (fun w12 e12 => ?_)
  have h := h w12 e12
  refine jq_iload_n (k0 := 0) dX9_clearBuffer_15 hC rfl rfl ?_
  exact jq_iret dX9_clearBuffer_16 hC he rfl ⟨_, rfl, h⟩
theorem mt_X9_clearBuffer {G : Gt} {w : Wd} {Q : Int32 → Wd → Prop} (h : wp_X9_clearBuffer w Q) : Mt G D_X9_clearBuffer [.ref (aD G 0 32)] w (qi Q) := Mt_of (by decide +kernel) rfl rfl (Nat.le_of_ble_eq_true rfl) (fun M Qf hC he => ok_X9_clearBuffer hC he h)
/-! X9.isNext(II)Z -/
theorem dX9_isNext_0 : decode cX9_isNext 0 = .ok (.aload_n 0, 1) := by decide +kernel
theorem dX9_isNext_1 : decode cX9_isNext 1 = .ok (.getfield 195, 3) := by decide +kernel
theorem dX9_isNext_4 : decode cX9_isNext 4 = .ok (.aload_n 0, 1) := by decide +kernel
theorem dX9_isNext_5 : decode cX9_isNext 5 = .ok (.getfield 192, 3) := by decide +kernel
theorem dX9_isNext_8 : decode cX9_isNext 8 = .ok (.if_icmp .ge 24, 3) := by decide +kernel
theorem dX9_isNext_11 : decode cX9_isNext 11 = .ok (.aload_n 0, 1) := by decide +kernel
theorem dX9_isNext_12 : decode cX9_isNext 12 = .ok (.getfield 19, 3) := by decide +kernel
theorem dX9_isNext_15 : decode cX9_isNext 15 = .ok (.aload_n 0, 1) := by decide +kernel
theorem dX9_isNext_16 : decode cX9_isNext 16 = .ok (.getfield 195, 3) := by decide +kernel
theorem dX9_isNext_19 : decode cX9_isNext 19 = .ok (.iaload, 1) := by decide +kernel
theorem dX9_isNext_20 : decode cX9_isNext 20 = .ok (.iload_n 1, 1) := by decide +kernel
theorem dX9_isNext_21 : decode cX9_isNext 21 = .ok (.iload_n 2, 1) := by decide +kernel
theorem dX9_isNext_22 : decode cX9_isNext 22 = .ok (.invokestatic 69, 3) := by decide +kernel
theorem dX9_isNext_25 : decode cX9_isNext 25 = .ok (.ifCond .eq 7, 3) := by decide +kernel
theorem dX9_isNext_28 : decode cX9_isNext 28 = .ok (.iconst 1, 1) := by decide +kernel
theorem dX9_isNext_29 : decode cX9_isNext 29 = .ok (.goto 4, 3) := by decide +kernel
theorem dX9_isNext_32 : decode cX9_isNext 32 = .ok (.iconst 0, 1) := by decide +kernel
theorem dX9_isNext_33 : decode cX9_isNext 33 = .ok (.ireturn, 1) := by decide +kernel
set_option maxRecDepth 20000 in
theorem ggX9_isNext_X9_in : GoodIn wsX9_isNext wsX9_in := goodIn_r _ [7] (by decide +kernel) (by decide +kernel)
set_option maxRecDepth 20000 in
theorem gX9_isNext_X9_in : GoodIn wsX9_isNext (va_wsS RX9 69 yX9_in wsX9_in) := goodIn_app (goodIn_of _ (by decide +kernel)) ggX9_isNext_X9_in
def D_X9_isNext : Md := (yX9_isNext, cX9_isNext, 3, (some .boolean), wsX9_isNext, RX9, { frames := 1, cells := 0, slots := 0, locals := 22 })
theorem nm_X9_isNext : nmD D_X9_isNext 2 := ⟨rfl, by decide +kernel, by decide +kernel, by decide +kernel⟩
theorem hi_X9_isNext_X9 : ∀ w ∈ u_ws RX9 TX9 25, w ∈ wsX9_isNext := by decide +kernel
theorem hl_X9_isNext_19 : Cond.fieldLink RX9 19 "LevelLoopsModel" "text" "[I" ∈ wsX9_isNext := by decide +kernel
theorem hl_X9_isNext_192 : Cond.fieldLink RX9 192 "LevelLoopsModel" "length" "I" ∈ wsX9_isNext := by decide +kernel
theorem hl_X9_isNext_195 : Cond.fieldLink RX9 195 "LevelLoopsModel" "at" "I" ∈ wsX9_isNext := by decide +kernel
def wp_X9_isNext_J32 (w : Wd) (Q : Int32 → Prop) : Prop :=
  zb (0 : Int32) ∧ Q (0 : Int32)
def wp_X9_isNext (x1 : Int32) (x2 : Int32) (w : Wd) (Q : Int32 → Prop) : Prop :=
  (((wi w 0 32 6) ≤ (wi w 0 32 22) → wp_X9_isNext_J32 w Q) ∧ (¬ (wi w 0 32 6) ≤ (wi w 0 32 22) → vp_in (wi w 0 32 22) 60 ∧ wp_X9_in (wi w 0 36 (wi w 0 32 22).toNatClampNeg) x1 x2 (fun r22 => ((r22 = 0 → wp_X9_isNext_J32 w Q) ∧ (¬ r22 = 0 → zb (1 : Int32) ∧ Q (1 : Int32))))))
theorem ok_X9_isNext_J32 {G : Gt} {M : Mx} {Qf : State → Prop} {w : Wd} {Q : Int32 → Prop} (hC : cx G D_X9_isNext M) (he : en G M (qip w Q) Qf) (h : wp_X9_isNext_J32 w Q) : jq G D_X9_isNext M Qf 32 [] [] w := by
  unfold wp_X9_isNext_J32 at h
  refine jq_iconst (v := (0 : Int32)) dX9_isNext_32 hC (by decide) ?_
  obtain ⟨bz, h⟩ := h
  exact jq_zret dX9_isNext_33 hC he rfl bz ⟨_, rfl, rfl, h⟩
theorem ok_X9_isNext {G : Gt} {M : Mx} {Qf : State → Prop} {x1 : Int32} {x2 : Int32} {w : Wd} {Q : Int32 → Prop} (hC : cx G D_X9_isNext M) (he : en G M (qip w Q) Qf) (h : wp_X9_isNext x1 x2 w Q) : jq G D_X9_isNext M Qf 0 [(0, .ref (aD G 0 32)), (1, .int x1), (2, .int x2)] [] w := by
  unfold wp_X9_isNext at h
  refine jq_aload_n (k0 := 0) dX9_isNext_0 hC rfl rfl ?_
  refine jq_get (k0 := 22) (n := 0) (o := 32) dX9_isNext_1 hC (cl_0 (by decide)) rfl rfl hi_X9_isNext_X9 (by decide) hl_X9_isNext_195 rfl rfl ?_
  refine jq_aload_n (k0 := 0) dX9_isNext_4 hC rfl rfl ?_
  refine jq_get (k0 := 6) (n := 0) (o := 32) dX9_isNext_5 hC (cl_0 (by decide)) rfl rfl hi_X9_isNext_X9 (by decide) hl_X9_isNext_192 rfl rfl ?_
  refine jq_icmp_ge (tgt := 32) dX9_isNext_8 hC (by decide) (fun c8 => ?_) (fun c8 => ?_)
  · have h := h.1 c8
    refine jq_less (L' := []) [] rfl ?_
    exact ok_X9_isNext_J32 hC he h
  · have h := h.2 c8
    refine jq_aload_n (k0 := 0) dX9_isNext_11 hC rfl rfl ?_
    refine jq_get (k0 := 5) (n := 0) (o := 32) dX9_isNext_12 hC (cl_0 (by decide)) rfl rfl hi_X9_isNext_X9 (by decide) hl_X9_isNext_19 rfl rfl ?_
    refine jq_aload_n (k0 := 0) dX9_isNext_15 hC rfl rfl ?_
    refine jq_get (k0 := 22) (n := 0) (o := 32) dX9_isNext_16 hC (cl_0 (by decide)) rfl rfl hi_X9_isNext_X9 (by decide) hl_X9_isNext_195 rfl rfl ?_
    obtain ⟨b19, h⟩ := h
    refine jq_iald (n := 0) (o := 36) (j := (wi w 0 32 22).toNatClampNeg) dX9_isNext_19 hC (cl_0 (by decide)) rfl b19 rfl ?_
    refine jq_iload_n (k0 := 1) dX9_isNext_20 hC rfl rfl ?_
    refine jq_iload_n (k0 := 2) dX9_isNext_21 hC rfl rfl ?_
    refine jq_callS (As := [.int (wi w 0 36 (wi w 0 32 22).toNatClampNeg), .int x1, .int x2]) (rest := []) (D' := D_X9_in) dX9_isNext_22 hC (mt_X9_in h) gX9_isNext_X9_in rfl ⟨rfl, rfl, Nat.le_of_ble_eq_true rfl, Nat.le_of_ble_eq_true rfl⟩ nm_X9_in rfl (Nat.le_of_ble_eq_true rfl) (kIp fun r22 h => ?_)
    refine jq_if_eq (tgt := 32) dX9_isNext_25 hC (by decide) (fun c25 => ?_) (fun c25 => ?_)
    · have h := h.1 c25
      refine jq_less (L' := []) [] rfl ?_
      exact ok_X9_isNext_J32 hC he h
    · have h := h.2 c25
      refine jq_iconst (v := (1 : Int32)) dX9_isNext_28 hC (by decide) ?_
      refine jq_goto (tgt := 33) dX9_isNext_29 hC (by decide) ?_
      obtain ⟨bz, h⟩ := h
      exact jq_zret dX9_isNext_33 hC he rfl bz ⟨_, rfl, rfl, h⟩
theorem mt_X9_isNext {G : Gt} {x1 : Int32} {x2 : Int32} {w : Wd} {Q : Int32 → Prop} (h : wp_X9_isNext x1 x2 w Q) : Mt G D_X9_isNext [.ref (aD G 0 32), .int x1, .int x2] w (qip w Q) := Mt_of (by decide +kernel) rfl rfl (Nat.le_of_ble_eq_true rfl) (fun M Qf hC he => ok_X9_isNext hC he h)
/-! X9.sign(II)I -/
theorem dX9_sign_0 : decode cX9_sign 0 = .ok (.aload_n 0, 1) := by decide +kernel
theorem dX9_sign_1 : decode cX9_sign 1 = .ok (.getfield 195, 3) := by decide +kernel
theorem dX9_sign_4 : decode cX9_sign 4 = .ok (.aload_n 0, 1) := by decide +kernel
theorem dX9_sign_5 : decode cX9_sign 5 = .ok (.getfield 192, 3) := by decide +kernel
theorem dX9_sign_8 : decode cX9_sign 8 = .ok (.if_icmp .ge 15, 3) := by decide +kernel
theorem dX9_sign_11 : decode cX9_sign 11 = .ok (.aload_n 0, 1) := by decide +kernel
theorem dX9_sign_12 : decode cX9_sign 12 = .ok (.getfield 19, 3) := by decide +kernel
theorem dX9_sign_15 : decode cX9_sign 15 = .ok (.aload_n 0, 1) := by decide +kernel
theorem dX9_sign_16 : decode cX9_sign 16 = .ok (.getfield 195, 3) := by decide +kernel
theorem dX9_sign_19 : decode cX9_sign 19 = .ok (.iaload, 1) := by decide +kernel
theorem dX9_sign_20 : decode cX9_sign 20 = .ok (.goto 4, 3) := by decide +kernel
theorem dX9_sign_23 : decode cX9_sign 23 = .ok (.iconst 0, 1) := by decide +kernel
theorem dX9_sign_24 : decode cX9_sign 24 = .ok (.istore_n 3, 1) := by decide +kernel
theorem dX9_sign_25 : decode cX9_sign 25 = .ok (.aload_n 0, 1) := by decide +kernel
theorem dX9_sign_26 : decode cX9_sign 26 = .ok (.aload_n 0, 1) := by decide +kernel
theorem dX9_sign_27 : decode cX9_sign 27 = .ok (.getfield 198, 3) := by decide +kernel
theorem dX9_sign_30 : decode cX9_sign 30 = .ok (.ifCond .ne 12, 3) := by decide +kernel
theorem dX9_sign_33 : decode cX9_sign 33 = .ok (.iload_n 3, 1) := by decide +kernel
theorem dX9_sign_34 : decode cX9_sign 34 = .ok (.iload_n 1, 1) := by decide +kernel
theorem dX9_sign_35 : decode cX9_sign 35 = .ok (.iload_n 2, 1) := by decide +kernel
theorem dX9_sign_36 : decode cX9_sign 36 = .ok (.invokestatic 69, 3) := by decide +kernel
theorem dX9_sign_39 : decode cX9_sign 39 = .ok (.ifCond .ne 7, 3) := by decide +kernel
theorem dX9_sign_42 : decode cX9_sign 42 = .ok (.iconst 1, 1) := by decide +kernel
theorem dX9_sign_43 : decode cX9_sign 43 = .ok (.goto 4, 3) := by decide +kernel
theorem dX9_sign_46 : decode cX9_sign 46 = .ok (.iconst 0, 1) := by decide +kernel
theorem dX9_sign_47 : decode cX9_sign 47 = .ok (.putfield 198, 3) := by decide +kernel
theorem dX9_sign_50 : decode cX9_sign 50 = .ok (.aload_n 0, 1) := by decide +kernel
theorem dX9_sign_51 : decode cX9_sign 51 = .ok (.dup, 1) := by decide +kernel
theorem dX9_sign_52 : decode cX9_sign 52 = .ok (.getfield 195, 3) := by decide +kernel
theorem dX9_sign_55 : decode cX9_sign 55 = .ok (.aload_n 0, 1) := by decide +kernel
theorem dX9_sign_56 : decode cX9_sign 56 = .ok (.getfield 198, 3) := by decide +kernel
theorem dX9_sign_59 : decode cX9_sign 59 = .ok (.ifCond .eq 7, 3) := by decide +kernel
theorem dX9_sign_62 : decode cX9_sign 62 = .ok (.iconst 0, 1) := by decide +kernel
theorem dX9_sign_63 : decode cX9_sign 63 = .ok (.goto 4, 3) := by decide +kernel
theorem dX9_sign_66 : decode cX9_sign 66 = .ok (.iconst 1, 1) := by decide +kernel
theorem dX9_sign_67 : decode cX9_sign 67 = .ok (.iadd, 1) := by decide +kernel
theorem dX9_sign_68 : decode cX9_sign 68 = .ok (.putfield 195, 3) := by decide +kernel
theorem dX9_sign_71 : decode cX9_sign 71 = .ok (.iload_n 3, 1) := by decide +kernel
theorem dX9_sign_72 : decode cX9_sign 72 = .ok (.ireturn, 1) := by decide +kernel
set_option maxRecDepth 20000 in
theorem ggX9_sign_X9_in : GoodIn wsX9_sign wsX9_in := goodIn_r _ [8] (by decide +kernel) (by decide +kernel)
set_option maxRecDepth 20000 in
theorem gX9_sign_X9_in : GoodIn wsX9_sign (va_wsS RX9 69 yX9_in wsX9_in) := goodIn_app (goodIn_of _ (by decide +kernel)) ggX9_sign_X9_in
def D_X9_sign : Md := (yX9_sign, cX9_sign, 4, (some .int), wsX9_sign, RX9, { frames := 1, cells := 0, slots := 0, locals := 22 })
theorem nm_X9_sign : nmD D_X9_sign 2 := ⟨rfl, by decide +kernel, by decide +kernel, by decide +kernel⟩
theorem hi_X9_sign_X9 : ∀ w ∈ u_ws RX9 TX9 25, w ∈ wsX9_sign := by decide +kernel
theorem hl_X9_sign_19 : Cond.fieldLink RX9 19 "LevelLoopsModel" "text" "[I" ∈ wsX9_sign := by decide +kernel
theorem hl_X9_sign_192 : Cond.fieldLink RX9 192 "LevelLoopsModel" "length" "I" ∈ wsX9_sign := by decide +kernel
theorem hl_X9_sign_195 : Cond.fieldLink RX9 195 "LevelLoopsModel" "at" "I" ∈ wsX9_sign := by decide +kernel
theorem hl_X9_sign_198 : Cond.fieldLink RX9 198 "LevelLoopsModel" "isWrong" "Z" ∈ wsX9_sign := by decide +kernel
def wp_X9_sign_J67 (x3 : Int32) (s0 : Int32) (s1 : Int32) (w : Wd) (Q : Int32 → Wd → Prop) : Prop :=
  (∀ w68 : Wd, w68 = (sI w 0 32 22 (s1 + s0)) → Q x3 w68)
def wp_X9_sign_J47 (x3 : Int32) (s0 : Int32) (w : Wd) (Q : Int32 → Wd → Prop) : Prop :=
  zb s0 ∧ (∀ w47 : Wd, w47 = (sI w 0 32 23 s0) → (((wi w47 0 32 23) = 0 → wp_X9_sign_J67 x3 (1 : Int32) (wi w47 0 32 22) w47 Q) ∧ (¬ (wi w47 0 32 23) = 0 → wp_X9_sign_J67 x3 (0 : Int32) (wi w47 0 32 22) w47 Q)))
def wp_X9_sign_J24 (x1 : Int32) (x2 : Int32) (s0 : Int32) (w : Wd) (Q : Int32 → Wd → Prop) : Prop :=
  ((¬ (wi w 0 32 23) = 0 → wp_X9_sign_J47 s0 (1 : Int32) w Q) ∧ ((wi w 0 32 23) = 0 → wp_X9_in s0 x1 x2 (fun r36 => ((¬ r36 = 0 → wp_X9_sign_J47 s0 (0 : Int32) w Q) ∧ (r36 = 0 → wp_X9_sign_J47 s0 (1 : Int32) w Q)))))
def wp_X9_sign (x1 : Int32) (x2 : Int32) (w : Wd) (Q : Int32 → Wd → Prop) : Prop :=
  (((wi w 0 32 6) ≤ (wi w 0 32 22) → wp_X9_sign_J24 x1 x2 (0 : Int32) w Q) ∧ (¬ (wi w 0 32 6) ≤ (wi w 0 32 22) → vp_in (wi w 0 32 22) 60 ∧ wp_X9_sign_J24 x1 x2 (wi w 0 36 (wi w 0 32 22).toNatClampNeg) w Q))
theorem ok_X9_sign_J67 {G : Gt} {M : Mx} {Qf : State → Prop} {x3 : Int32} {s0 : Int32} {s1 : Int32} {w : Wd} {Q : Int32 → Wd → Prop} (hC : cx G D_X9_sign M) (he : en G M (qi Q) Qf) (h : wp_X9_sign_J67 x3 s0 s1 w Q) : jq G D_X9_sign M Qf 67 [(3, .int x3)] [.int s0, .int s1, .ref (aD G 0 32)] w := by
  unfold wp_X9_sign_J67 at h
  refine jq_iadd dX9_sign_67 hC ?_
  refine jq_put (k0 := 22) (n := 0) (o := 32) (ty := .int) (w' := (sI w 0 32 22 (s1 + s0))) dX9_sign_68 hC (cl_0 (by decide)) rfl rfl hi_X9_sign_X9 tyX9 tyX9_ok nmX9 (by decide) hl_X9_sign_195 rfl rfl (by decide +kernel) rfl rfl (Nat.le_of_ble_eq_true rfl) (e_32_22 G _ _ _) (fun c _ hne => ent_sA c hne) ?_
  refine jq_w (fun w68 e68 => ?_)
  have h := h w68 e68
  refine jq_iload_n (k0 := 0) dX9_sign_71 hC rfl rfl ?_
  exact jq_iret dX9_sign_72 hC he rfl ⟨_, rfl, h⟩
theorem ok_X9_sign_J47 {G : Gt} {M : Mx} {Qf : State → Prop} {x3 : Int32} {s0 : Int32} {w : Wd} {Q : Int32 → Wd → Prop} (hC : cx G D_X9_sign M) (he : en G M (qi Q) Qf) (h : wp_X9_sign_J47 x3 s0 w Q) : jq G D_X9_sign M Qf 47 [(0, .ref (aD G 0 32)), (3, .int x3)] [.int s0, .ref (aD G 0 32)] w := by
  unfold wp_X9_sign_J47 at h
  obtain ⟨b47, h⟩ := h
  refine jq_put (k0 := 23) (n := 0) (o := 32) (ty := .boolean) (w' := (sI w 0 32 23 s0)) dX9_sign_47 hC (cl_0 (by decide)) rfl rfl hi_X9_sign_X9 tyX9 tyX9_ok nmX9 (by decide) hl_X9_sign_198 rfl rfl (by decide +kernel) (by rcases b47 with e | e <;> rw [e] <;> rfl) (by rcases b47 with e | e <;> rw [e] <;> rfl) (Nat.le_of_ble_eq_true rfl) (e_32_23 G _ _ _) (fun c _ hne => ent_sA c hne) ?_
  refine jq_w (fun w47 e47 => ?_)
  have h := h w47 e47
  refine jq_aload_n (k0 := 0) dX9_sign_50 hC rfl rfl ?_
  refine jq_dup dX9_sign_51 hC rfl ?_
  refine jq_get (k0 := 22) (n := 0) (o := 32) dX9_sign_52 hC (cl_0 (by decide)) rfl rfl hi_X9_sign_X9 (by decide) hl_X9_sign_195 rfl rfl ?_
  refine jq_aload_n (k0 := 0) dX9_sign_55 hC rfl rfl ?_
  refine jq_get (k0 := 23) (n := 0) (o := 32) dX9_sign_56 hC (cl_0 (by decide)) rfl rfl hi_X9_sign_X9 (by decide) hl_X9_sign_198 rfl rfl ?_
  refine jq_if_eq (tgt := 66) dX9_sign_59 hC (by decide) (fun c59 => ?_) (fun c59 => ?_)
  · have h := h.1 c59
    refine jq_iconst (v := (1 : Int32)) dX9_sign_66 hC (by decide) ?_
    refine jq_less (L' := [(3, .int x3)]) [1] rfl ?_
    exact ok_X9_sign_J67 hC he h
  · have h := h.2 c59
    refine jq_iconst (v := (0 : Int32)) dX9_sign_62 hC (by decide) ?_
    refine jq_goto (tgt := 67) dX9_sign_63 hC (by decide) ?_
    refine jq_less (L' := [(3, .int x3)]) [1] rfl ?_
    exact ok_X9_sign_J67 hC he h
theorem ok_X9_sign_J24 {G : Gt} {M : Mx} {Qf : State → Prop} {x1 : Int32} {x2 : Int32} {s0 : Int32} {w : Wd} {Q : Int32 → Wd → Prop} (hC : cx G D_X9_sign M) (he : en G M (qi Q) Qf) (h : wp_X9_sign_J24 x1 x2 s0 w Q) : jq G D_X9_sign M Qf 24 [(0, .ref (aD G 0 32)), (1, .int x1), (2, .int x2)] [.int s0] w := by
  unfold wp_X9_sign_J24 at h
  refine jq_istore_n (L' := [(3, .int s0), (0, .ref (aD G 0 32)), (1, .int x1), (2, .int x2)]) dX9_sign_24 hC rfl (by decide) rfl ?_
  refine jq_aload_n (k0 := 1) dX9_sign_25 hC rfl rfl ?_
  refine jq_aload_n (k0 := 1) dX9_sign_26 hC rfl rfl ?_
  refine jq_get (k0 := 23) (n := 0) (o := 32) dX9_sign_27 hC (cl_0 (by decide)) rfl rfl hi_X9_sign_X9 (by decide) hl_X9_sign_198 rfl rfl ?_
  refine jq_if_ne (tgt := 42) dX9_sign_30 hC (by decide) (fun c30 => ?_) (fun c30 => ?_)
  · have h := h.1 c30
    refine jq_iconst (v := (1 : Int32)) dX9_sign_42 hC (by decide) ?_
    refine jq_goto (tgt := 47) dX9_sign_43 hC (by decide) ?_
    refine jq_less (L' := [(0, .ref (aD G 0 32)), (3, .int s0)]) [1, 0] rfl ?_
    exact ok_X9_sign_J47 hC he h
  · have h := h.2 c30
    refine jq_iload_n (k0 := 0) dX9_sign_33 hC rfl rfl ?_
    refine jq_iload_n (k0 := 2) dX9_sign_34 hC rfl rfl ?_
    refine jq_iload_n (k0 := 3) dX9_sign_35 hC rfl rfl ?_
    refine jq_callS (As := [.int s0, .int x1, .int x2]) (rest := [.ref (aD G 0 32)]) (D' := D_X9_in) dX9_sign_36 hC (mt_X9_in h) gX9_sign_X9_in rfl ⟨rfl, rfl, Nat.le_of_ble_eq_true rfl, Nat.le_of_ble_eq_true rfl⟩ nm_X9_in rfl (Nat.le_of_ble_eq_true rfl) (kIp fun r36 h => ?_)
    refine jq_if_ne (tgt := 46) dX9_sign_39 hC (by decide) (fun c39 => ?_) (fun c39 => ?_)
    · have h := h.1 c39
      refine jq_iconst (v := (0 : Int32)) dX9_sign_46 hC (by decide) ?_
      refine jq_less (L' := [(0, .ref (aD G 0 32)), (3, .int s0)]) [1, 0] rfl ?_
      exact ok_X9_sign_J47 hC he h
    · have h := h.2 c39
      refine jq_iconst (v := (1 : Int32)) dX9_sign_42 hC (by decide) ?_
      refine jq_goto (tgt := 47) dX9_sign_43 hC (by decide) ?_
      refine jq_less (L' := [(0, .ref (aD G 0 32)), (3, .int s0)]) [1, 0] rfl ?_
      exact ok_X9_sign_J47 hC he h
theorem ok_X9_sign {G : Gt} {M : Mx} {Qf : State → Prop} {x1 : Int32} {x2 : Int32} {w : Wd} {Q : Int32 → Wd → Prop} (hC : cx G D_X9_sign M) (he : en G M (qi Q) Qf) (h : wp_X9_sign x1 x2 w Q) : jq G D_X9_sign M Qf 0 [(0, .ref (aD G 0 32)), (1, .int x1), (2, .int x2)] [] w := by
  unfold wp_X9_sign at h
  refine jq_aload_n (k0 := 0) dX9_sign_0 hC rfl rfl ?_
  refine jq_get (k0 := 22) (n := 0) (o := 32) dX9_sign_1 hC (cl_0 (by decide)) rfl rfl hi_X9_sign_X9 (by decide) hl_X9_sign_195 rfl rfl ?_
  refine jq_aload_n (k0 := 0) dX9_sign_4 hC rfl rfl ?_
  refine jq_get (k0 := 6) (n := 0) (o := 32) dX9_sign_5 hC (cl_0 (by decide)) rfl rfl hi_X9_sign_X9 (by decide) hl_X9_sign_192 rfl rfl ?_
  refine jq_icmp_ge (tgt := 23) dX9_sign_8 hC (by decide) (fun c8 => ?_) (fun c8 => ?_)
  · have h := h.1 c8
    refine jq_iconst (v := (0 : Int32)) dX9_sign_23 hC (by decide) ?_
    refine jq_less (L' := [(0, .ref (aD G 0 32)), (1, .int x1), (2, .int x2)]) [0, 1, 2] rfl ?_
    exact ok_X9_sign_J24 hC he h
  · have h := h.2 c8
    refine jq_aload_n (k0 := 0) dX9_sign_11 hC rfl rfl ?_
    refine jq_get (k0 := 5) (n := 0) (o := 32) dX9_sign_12 hC (cl_0 (by decide)) rfl rfl hi_X9_sign_X9 (by decide) hl_X9_sign_19 rfl rfl ?_
    refine jq_aload_n (k0 := 0) dX9_sign_15 hC rfl rfl ?_
    refine jq_get (k0 := 22) (n := 0) (o := 32) dX9_sign_16 hC (cl_0 (by decide)) rfl rfl hi_X9_sign_X9 (by decide) hl_X9_sign_195 rfl rfl ?_
    obtain ⟨b19, h⟩ := h
    refine jq_iald (n := 0) (o := 36) (j := (wi w 0 32 22).toNatClampNeg) dX9_sign_19 hC (cl_0 (by decide)) rfl b19 rfl ?_
    refine jq_goto (tgt := 24) dX9_sign_20 hC (by decide) ?_
    refine jq_less (L' := [(0, .ref (aD G 0 32)), (1, .int x1), (2, .int x2)]) [0, 1, 2] rfl ?_
    exact ok_X9_sign_J24 hC he h
theorem mt_X9_sign {G : Gt} {x1 : Int32} {x2 : Int32} {w : Wd} {Q : Int32 → Wd → Prop} (h : wp_X9_sign x1 x2 w Q) : Mt G D_X9_sign [.ref (aD G 0 32), .int x1, .int x2] w (qi Q) := Mt_of (by decide +kernel) rfl rfl (Nat.le_of_ble_eq_true rfl) (fun M Qf hC he => ok_X9_sign hC he h)
/-! X9.number(II)I -/
theorem dX9_number_0 : decode cX9_number 0 = .ok (.aload_n 0, 1) := by decide +kernel
theorem dX9_number_1 : decode cX9_number 1 = .ok (.bipush 48, 2) := by decide +kernel
theorem dX9_number_3 : decode cX9_number 3 = .ok (.iload_n 1, 1) := by decide +kernel
theorem dX9_number_4 : decode cX9_number 4 = .ok (.iadd, 1) := by decide +kernel
theorem dX9_number_5 : decode cX9_number 5 = .ok (.bipush 57, 2) := by decide +kernel
theorem dX9_number_7 : decode cX9_number 7 = .ok (.invokevirtual 202, 3) := by decide +kernel
theorem dX9_number_10 : decode cX9_number 10 = .ok (.bipush 48, 2) := by decide +kernel
theorem dX9_number_12 : decode cX9_number 12 = .ok (.isub, 1) := by decide +kernel
theorem dX9_number_13 : decode cX9_number 13 = .ok (.istore_n 3, 1) := by decide +kernel
theorem dX9_number_14 : decode cX9_number 14 = .ok (.aload_n 0, 1) := by decide +kernel
theorem dX9_number_15 : decode cX9_number 15 = .ok (.getfield 198, 3) := by decide +kernel
theorem dX9_number_18 : decode cX9_number 18 = .ok (.ifCond .ne 59, 3) := by decide +kernel
theorem dX9_number_21 : decode cX9_number 21 = .ok (.iload_n 3, 1) := by decide +kernel
theorem dX9_number_22 : decode cX9_number 22 = .ok (.ifCond .le 55, 3) := by decide +kernel
theorem dX9_number_25 : decode cX9_number 25 = .ok (.aload_n 0, 1) := by decide +kernel
theorem dX9_number_26 : decode cX9_number 26 = .ok (.bipush 48, 2) := by decide +kernel
theorem dX9_number_28 : decode cX9_number 28 = .ok (.bipush 57, 2) := by decide +kernel
theorem dX9_number_30 : decode cX9_number 30 = .ok (.invokevirtual 205, 3) := by decide +kernel
theorem dX9_number_33 : decode cX9_number 33 = .ok (.ifCond .eq 44, 3) := by decide +kernel
theorem dX9_number_36 : decode cX9_number 36 = .ok (.bipush 10, 2) := by decide +kernel
theorem dX9_number_38 : decode cX9_number 38 = .ok (.iload_n 3, 1) := by decide +kernel
theorem dX9_number_39 : decode cX9_number 39 = .ok (.imul, 1) := by decide +kernel
theorem dX9_number_40 : decode cX9_number 40 = .ok (.aload_n 0, 1) := by decide +kernel
theorem dX9_number_41 : decode cX9_number 41 = .ok (.getfield 19, 3) := by decide +kernel
theorem dX9_number_44 : decode cX9_number 44 = .ok (.aload_n 0, 1) := by decide +kernel
theorem dX9_number_45 : decode cX9_number 45 = .ok (.getfield 195, 3) := by decide +kernel
theorem dX9_number_48 : decode cX9_number 48 = .ok (.iaload, 1) := by decide +kernel
theorem dX9_number_49 : decode cX9_number 49 = .ok (.iadd, 1) := by decide +kernel
theorem dX9_number_50 : decode cX9_number 50 = .ok (.bipush 48, 2) := by decide +kernel
theorem dX9_number_52 : decode cX9_number 52 = .ok (.isub, 1) := by decide +kernel
theorem dX9_number_53 : decode cX9_number 53 = .ok (.iload_n 2, 1) := by decide +kernel
theorem dX9_number_54 : decode cX9_number 54 = .ok (.if_icmp .gt 23, 3) := by decide +kernel
theorem dX9_number_57 : decode cX9_number 57 = .ok (.bipush 10, 2) := by decide +kernel
theorem dX9_number_59 : decode cX9_number 59 = .ok (.iload_n 3, 1) := by decide +kernel
theorem dX9_number_60 : decode cX9_number 60 = .ok (.imul, 1) := by decide +kernel
theorem dX9_number_61 : decode cX9_number 61 = .ok (.aload_n 0, 1) := by decide +kernel
theorem dX9_number_62 : decode cX9_number 62 = .ok (.bipush 48, 2) := by decide +kernel
theorem dX9_number_64 : decode cX9_number 64 = .ok (.bipush 57, 2) := by decide +kernel
theorem dX9_number_66 : decode cX9_number 66 = .ok (.invokevirtual 202, 3) := by decide +kernel
theorem dX9_number_69 : decode cX9_number 69 = .ok (.iadd, 1) := by decide +kernel
theorem dX9_number_70 : decode cX9_number 70 = .ok (.bipush 48, 2) := by decide +kernel
theorem dX9_number_72 : decode cX9_number 72 = .ok (.isub, 1) := by decide +kernel
theorem dX9_number_73 : decode cX9_number 73 = .ok (.istore_n 3, 1) := by decide +kernel
theorem dX9_number_74 : decode cX9_number 74 = .ok (.goto (-60), 3) := by decide +kernel
theorem dX9_number_77 : decode cX9_number 77 = .ok (.iload_n 3, 1) := by decide +kernel
theorem dX9_number_78 : decode cX9_number 78 = .ok (.ireturn, 1) := by decide +kernel
set_option maxRecDepth 20000 in
theorem ggX9_number_X9_sign : GoodIn wsX9_number wsX9_sign := goodIn_r _ [8, 3, 9, 2, 1, 10, 11, 7, 12, 17, 18, 19, 20, 21, 22, 23, 24, 25, 26, 27, 28, 29, 30, 31, 32, 33, 34, 35, 36, 37, 38, 39, 40, 41] (by decide +kernel) (by decide +kernel)
set_option maxRecDepth 20000 in
theorem gX9_number_X9_sign : GoodIn wsX9_number (wsV RX9 202 RX9 yX9_sign wsX9_sign) := goodIn_app (goodIn_of _ (by decide +kernel)) ggX9_number_X9_sign
set_option maxRecDepth 20000 in
theorem ggX9_number_X9_isNext : GoodIn wsX9_number wsX9_isNext := goodIn_r _ [16, 3, 9, 2, 10, 11, 7, 12, 17, 18, 19, 20, 21, 22, 23, 24, 25, 26, 27, 28, 29, 30, 31, 32, 33, 34, 35, 36, 37, 38, 39, 40, 41] (by decide +kernel) (by decide +kernel)
set_option maxRecDepth 20000 in
theorem gX9_number_X9_isNext : GoodIn wsX9_number (wsV RX9 205 RX9 yX9_isNext wsX9_isNext) := goodIn_app (goodIn_of _ (by decide +kernel)) ggX9_number_X9_isNext
def D_X9_number : Md := (yX9_number, cX9_number, 4, (some .int), wsX9_number, RX9, { frames := 2, cells := 0, slots := 0, locals := 45 })
theorem nm_X9_number : nmD D_X9_number 2 := ⟨rfl, by decide +kernel, by decide +kernel, by decide +kernel⟩
theorem hi_X9_number_X9 : ∀ w ∈ u_ws RX9 TX9 25, w ∈ wsX9_number := by decide +kernel
theorem hl_X9_number_19 : Cond.fieldLink RX9 19 "LevelLoopsModel" "text" "[I" ∈ wsX9_number := by decide +kernel
theorem hl_X9_number_195 : Cond.fieldLink RX9 195 "LevelLoopsModel" "at" "I" ∈ wsX9_number := by decide +kernel
theorem hl_X9_number_198 : Cond.fieldLink RX9 198 "LevelLoopsModel" "isWrong" "Z" ∈ wsX9_number := by decide +kernel
def wp_X9_number_B14 (x2 : Int32) (x3 : Int32) (w : Wd) (Q : Int32 → Wd → Prop) (K14 : Int32 → Wd → Prop) : Prop :=
  ((¬ (wi w 0 32 23) = 0 → Q x3 w) ∧ ((wi w 0 32 23) = 0 → ((x3 ≤ 0 → Q x3 w) ∧ (¬ x3 ≤ 0 → wp_X9_isNext (48 : Int32) (57 : Int32) w (fun r30 => ((r30 = 0 → Q x3 w) ∧ (¬ r30 = 0 → vp_in (wi w 0 32 22) 60 ∧ ((x2 < ((((10 : Int32) * x3) + (wi w 0 36 (wi w 0 32 22).toNatClampNeg)) - (48 : Int32)) → Q x3 w) ∧ (¬ x2 < ((((10 : Int32) * x3) + (wi w 0 36 (wi w 0 32 22).toNatClampNeg)) - (48 : Int32)) → wp_X9_sign (48 : Int32) (57 : Int32) w (fun r66 w66 => K14 ((((10 : Int32) * x3) + r66) - (48 : Int32)) w66))))))))))
def wp_X9_number_L14 (x2 : Int32) (x3 : Int32) (w : Wd) (Q : Int32 → Wd → Prop) : Prop :=
  ∃ (I : Int32 → Wd → Prop) (μ : Int32 → Wd → Nat), I x3 w ∧ ∀ (x3 : Int32) (w : Wd), I x3 w → wp_X9_number_B14 x2 x3 w Q (fun x3' w' => I x3' w' ∧ μ x3' w' < μ x3 w)
def wp_X9_number (x1 : Int32) (x2 : Int32) (w : Wd) (Q : Int32 → Wd → Prop) : Prop :=
  wp_X9_sign ((48 : Int32) + x1) (57 : Int32) w (fun r7 w7 => wp_X9_number_L14 x2 (r7 - (48 : Int32)) w7 Q)
theorem ok_X9_number_B14 {G : Gt} {M : Mx} {Qf : State → Prop} {x2 : Int32} {x3 : Int32} {w : Wd} {Q : Int32 → Wd → Prop} {K14 : Int32 → Wd → Prop} (hC : cx G D_X9_number M) (he : en G M (qi Q) Qf) (h : wp_X9_number_B14 x2 x3 w Q K14) (hK14 : ∀ (x3 : Int32) (w : Wd), K14 x3 w → jq G D_X9_number M Qf 14 [(0, .ref (aD G 0 32)), (2, .int x2), (3, .int x3)] [] w) : jq G D_X9_number M Qf 14 [(0, .ref (aD G 0 32)), (2, .int x2), (3, .int x3)] [] w := by
  unfold wp_X9_number_B14 at h
  refine jq_aload_n (k0 := 0) dX9_number_14 hC rfl rfl ?_
  refine jq_get (k0 := 23) (n := 0) (o := 32) dX9_number_15 hC (cl_0 (by decide)) rfl rfl hi_X9_number_X9 (by decide) hl_X9_number_198 rfl rfl ?_
  refine jq_if_ne (tgt := 77) dX9_number_18 hC (by decide) (fun c18 => ?_) (fun c18 => ?_)
  · have h := h.1 c18
    refine jq_iload_n (k0 := 2) dX9_number_77 hC rfl rfl ?_
    exact jq_iret dX9_number_78 hC he rfl ⟨_, rfl, h⟩
  · have h := h.2 c18
    refine jq_iload_n (k0 := 2) dX9_number_21 hC rfl rfl ?_
    refine jq_if_le (tgt := 77) dX9_number_22 hC (by decide) (fun c22 => ?_) (fun c22 => ?_)
    · have h := h.1 c22
      refine jq_iload_n (k0 := 2) dX9_number_77 hC rfl rfl ?_
      exact jq_iret dX9_number_78 hC he rfl ⟨_, rfl, h⟩
    · have h := h.2 c22
      refine jq_aload_n (k0 := 0) dX9_number_25 hC rfl rfl ?_
      refine jq_bipush (v := (48 : Int32)) dX9_number_26 hC (by decide) ?_
      refine jq_bipush (v := (57 : Int32)) dX9_number_28 hC (by decide) ?_
      refine jq_callV (As := [.int (48 : Int32), .int (57 : Int32)]) (rest := []) (n := 0) (o := 32) (D' := D_X9_isNext) dX9_number_30 hC (cl_0 (by decide)) rfl rfl rfl (mt_X9_isNext h) gX9_number_X9_isNext rfl ⟨rfl, rfl, Nat.le_of_ble_eq_true rfl, Nat.le_of_ble_eq_true rfl⟩ nm_X9_isNext rfl (Nat.le_of_ble_eq_true rfl) (kIp fun r30 h => ?_)
      refine jq_if_eq (tgt := 77) dX9_number_33 hC (by decide) (fun c33 => ?_) (fun c33 => ?_)
      · have h := h.1 c33
        refine jq_iload_n (k0 := 2) dX9_number_77 hC rfl rfl ?_
        exact jq_iret dX9_number_78 hC he rfl ⟨_, rfl, h⟩
      · have h := h.2 c33
        refine jq_bipush (v := (10 : Int32)) dX9_number_36 hC (by decide) ?_
        refine jq_iload_n (k0 := 2) dX9_number_38 hC rfl rfl ?_
        refine jq_imul dX9_number_39 hC ?_
        refine jq_aload_n (k0 := 0) dX9_number_40 hC rfl rfl ?_
        refine jq_get (k0 := 5) (n := 0) (o := 32) dX9_number_41 hC (cl_0 (by decide)) rfl rfl hi_X9_number_X9 (by decide) hl_X9_number_19 rfl rfl ?_
        refine jq_aload_n (k0 := 0) dX9_number_44 hC rfl rfl ?_
        refine jq_get (k0 := 22) (n := 0) (o := 32) dX9_number_45 hC (cl_0 (by decide)) rfl rfl hi_X9_number_X9 (by decide) hl_X9_number_195 rfl rfl ?_
        obtain ⟨b48, h⟩ := h
        refine jq_iald (n := 0) (o := 36) (j := (wi w 0 32 22).toNatClampNeg) dX9_number_48 hC (cl_0 (by decide)) rfl b48 rfl ?_
        refine jq_iadd dX9_number_49 hC ?_
        refine jq_bipush (v := (48 : Int32)) dX9_number_50 hC (by decide) ?_
        refine jq_isub dX9_number_52 hC ?_
        refine jq_iload_n (k0 := 1) dX9_number_53 hC rfl rfl ?_
        refine jq_icmp_gt (tgt := 77) dX9_number_54 hC (by decide) (fun c54 => ?_) (fun c54 => ?_)
        · have h := h.1 c54
          refine jq_iload_n (k0 := 2) dX9_number_77 hC rfl rfl ?_
          exact jq_iret dX9_number_78 hC he rfl ⟨_, rfl, h⟩
        · have h := h.2 c54
          refine jq_bipush (v := (10 : Int32)) dX9_number_57 hC (by decide) ?_
          refine jq_iload_n (k0 := 2) dX9_number_59 hC rfl rfl ?_
          refine jq_imul dX9_number_60 hC ?_
          refine jq_aload_n (k0 := 0) dX9_number_61 hC rfl rfl ?_
          refine jq_bipush (v := (48 : Int32)) dX9_number_62 hC (by decide) ?_
          refine jq_bipush (v := (57 : Int32)) dX9_number_64 hC (by decide) ?_
          refine jq_callV (As := [.int (48 : Int32), .int (57 : Int32)]) (rest := [.int ((10 : Int32) * x3)]) (n := 0) (o := 32) (D' := D_X9_sign) dX9_number_66 hC (cl_0 (by decide)) rfl rfl rfl (mt_X9_sign h) gX9_number_X9_sign rfl ⟨rfl, rfl, Nat.le_of_ble_eq_true rfl, Nat.le_of_ble_eq_true rfl⟩ nm_X9_sign rfl (Nat.le_of_ble_eq_true rfl) (kI fun r66 w66 h => ?_)
          refine jq_iadd dX9_number_69 hC ?_
          refine jq_bipush (v := (48 : Int32)) dX9_number_70 hC (by decide) ?_
          refine jq_isub dX9_number_72 hC ?_
          refine jq_istore_n (L' := [(3, .int ((((10 : Int32) * x3) + r66) - (48 : Int32))), (0, .ref (aD G 0 32)), (2, .int x2)]) dX9_number_73 hC rfl (by decide) rfl ?_
          refine jq_goto (tgt := 14) dX9_number_74 hC (by decide) ?_
          exact jq_less (L' := [(0, .ref (aD G 0 32)), (2, .int x2), (3, .int ((((10 : Int32) * x3) + r66) - (48 : Int32)))]) [1, 2, 0] rfl (hK14 _ _ h)
theorem ok_X9_number_L14 {G : Gt} {M : Mx} {Qf : State → Prop} {x2 : Int32} {x3 : Int32} {w : Wd} {Q : Int32 → Wd → Prop} (hC : cx G D_X9_number M) (he : en G M (qi Q) Qf) (h : wp_X9_number_L14 x2 x3 w Q) : jq G D_X9_number M Qf 14 [(0, .ref (aD G 0 32)), (2, .int x2), (3, .int x3)] [] w := by
  unfold wp_X9_number_L14 at h
  obtain ⟨I, μ, h0, hs⟩ := h
  exact lp_ind (σ := Int32 × Wd) (P := fun s => jq G D_X9_number M Qf 14 [(0, .ref (aD G 0 32)), (2, .int x2), (3, .int s.1)] [] s.2) (fun s => I s.1 s.2) (fun s => μ s.1 s.2) (fun s h1 ih => ok_X9_number_B14 hC he (hs s.1 s.2 h1) (fun x3' w' h => ih (x3', w') h.1 h.2)) (x3, w) h0
theorem ok_X9_number {G : Gt} {M : Mx} {Qf : State → Prop} {x1 : Int32} {x2 : Int32} {w : Wd} {Q : Int32 → Wd → Prop} (hC : cx G D_X9_number M) (he : en G M (qi Q) Qf) (h : wp_X9_number x1 x2 w Q) : jq G D_X9_number M Qf 0 [(0, .ref (aD G 0 32)), (1, .int x1), (2, .int x2)] [] w := by
  unfold wp_X9_number at h
  refine jq_aload_n (k0 := 0) dX9_number_0 hC rfl rfl ?_
  refine jq_bipush (v := (48 : Int32)) dX9_number_1 hC (by decide) ?_
  refine jq_iload_n (k0 := 1) dX9_number_3 hC rfl rfl ?_
  refine jq_iadd dX9_number_4 hC ?_
  refine jq_bipush (v := (57 : Int32)) dX9_number_5 hC (by decide) ?_
  refine jq_callV (As := [.int ((48 : Int32) + x1), .int (57 : Int32)]) (rest := []) (n := 0) (o := 32) (D' := D_X9_sign) dX9_number_7 hC (cl_0 (by decide)) rfl rfl rfl (mt_X9_sign h) gX9_number_X9_sign rfl ⟨rfl, rfl, Nat.le_of_ble_eq_true rfl, Nat.le_of_ble_eq_true rfl⟩ nm_X9_sign rfl (Nat.le_of_ble_eq_true rfl) (kI fun r7 w7 h => ?_)
  refine jq_bipush (v := (48 : Int32)) dX9_number_10 hC (by decide) ?_
  refine jq_isub dX9_number_12 hC ?_
  refine jq_istore_n (L' := [(3, .int (r7 - (48 : Int32))), (0, .ref (aD G 0 32)), (1, .int x1), (2, .int x2)]) dX9_number_13 hC rfl (by decide) rfl ?_
  refine jq_less (L' := [(0, .ref (aD G 0 32)), (2, .int x2), (3, .int (r7 - (48 : Int32)))]) [1, 3, 0] rfl ?_
  exact ok_X9_number_L14 hC he h
theorem mt_X9_number {G : Gt} {x1 : Int32} {x2 : Int32} {w : Wd} {Q : Int32 → Wd → Prop} (h : wp_X9_number x1 x2 w Q) : Mt G D_X9_number [.ref (aD G 0 32), .int x1, .int x2] w (qi Q) := Mt_of (by decide +kernel) rfl rfl (Nat.le_of_ble_eq_true rfl) (fun M Qf hC he => ok_X9_number hC he h)
/-! X9.entry(Z)Z -/
theorem dX9_entry_0 : decode cX9_entry 0 = .ok (.aload_n 0, 1) := by decide +kernel
theorem dX9_entry_1 : decode cX9_entry 1 = .ok (.bipush 109, 2) := by decide +kernel
theorem dX9_entry_3 : decode cX9_entry 3 = .ok (.bipush 109, 2) := by decide +kernel
theorem dX9_entry_5 : decode cX9_entry 5 = .ok (.invokevirtual 205, 3) := by decide +kernel
theorem dX9_entry_8 : decode cX9_entry 8 = .ok (.ifCond .eq 73, 3) := by decide +kernel
theorem dX9_entry_11 : decode cX9_entry 11 = .ok (.aload_n 0, 1) := by decide +kernel
theorem dX9_entry_12 : decode cX9_entry 12 = .ok (.bipush 109, 2) := by decide +kernel
theorem dX9_entry_14 : decode cX9_entry 14 = .ok (.bipush 109, 2) := by decide +kernel
theorem dX9_entry_16 : decode cX9_entry 16 = .ok (.invokevirtual 202, 3) := by decide +kernel
theorem dX9_entry_19 : decode cX9_entry 19 = .ok (.istore_n 2, 1) := by decide +kernel
theorem dX9_entry_20 : decode cX9_entry 20 = .ok (.aload_n 0, 1) := by decide +kernel
theorem dX9_entry_21 : decode cX9_entry 21 = .ok (.bipush 48, 2) := by decide +kernel
theorem dX9_entry_23 : decode cX9_entry 23 = .ok (.bipush 57, 2) := by decide +kernel
theorem dX9_entry_25 : decode cX9_entry 25 = .ok (.invokevirtual 205, 3) := by decide +kernel
theorem dX9_entry_28 : decode cX9_entry 28 = .ok (.ifCond .eq 13, 3) := by decide +kernel
theorem dX9_entry_31 : decode cX9_entry 31 = .ok (.aload_n 0, 1) := by decide +kernel
theorem dX9_entry_32 : decode cX9_entry 32 = .ok (.iconst 0, 1) := by decide +kernel
theorem dX9_entry_33 : decode cX9_entry 33 = .ok (.ldc 154, 2) := by decide +kernel
theorem dX9_entry_35 : decode cX9_entry 35 = .ok (.invokevirtual 208, 3) := by decide +kernel
theorem dX9_entry_38 : decode cX9_entry 38 = .ok (.goto 4, 3) := by decide +kernel
theorem dX9_entry_41 : decode cX9_entry 41 = .ok (.iconst (-1), 1) := by decide +kernel
theorem dX9_entry_42 : decode cX9_entry 42 = .ok (.istore_n 3, 1) := by decide +kernel
theorem dX9_entry_43 : decode cX9_entry 43 = .ok (.iload_n 1, 1) := by decide +kernel
theorem dX9_entry_44 : decode cX9_entry 44 = .ok (.ifCond .eq 15, 3) := by decide +kernel
theorem dX9_entry_47 : decode cX9_entry 47 = .ok (.aload_n 0, 1) := by decide +kernel
theorem dX9_entry_48 : decode cX9_entry 48 = .ok (.iload_n 3, 1) := by decide +kernel
theorem dX9_entry_49 : decode cX9_entry 49 = .ok (.invokevirtual 155, 3) := by decide +kernel
theorem dX9_entry_52 : decode cX9_entry 52 = .ok (.ifCond .ne 7, 3) := by decide +kernel
theorem dX9_entry_55 : decode cX9_entry 55 = .ok (.iconst 1, 1) := by decide +kernel
theorem dX9_entry_56 : decode cX9_entry 56 = .ok (.goto 4, 3) := by decide +kernel
theorem dX9_entry_59 : decode cX9_entry 59 = .ok (.iconst 0, 1) := by decide +kernel
theorem dX9_entry_60 : decode cX9_entry 60 = .ok (.istore 4, 2) := by decide +kernel
theorem dX9_entry_62 : decode cX9_entry 62 = .ok (.iload 4, 2) := by decide +kernel
theorem dX9_entry_64 : decode cX9_entry 64 = .ok (.ifCond .eq 11, 3) := by decide +kernel
theorem dX9_entry_67 : decode cX9_entry 67 = .ok (.aload_n 0, 1) := by decide +kernel
theorem dX9_entry_68 : decode cX9_entry 68 = .ok (.iload_n 3, 1) := by decide +kernel
theorem dX9_entry_69 : decode cX9_entry 69 = .ok (.invokevirtual 164, 3) := by decide +kernel
theorem dX9_entry_72 : decode cX9_entry 72 = .ok (.goto 4, 3) := by decide +kernel
theorem dX9_entry_75 : decode cX9_entry 75 = .ok (.iconst 0, 1) := by decide +kernel
theorem dX9_entry_76 : decode cX9_entry 76 = .ok (.istore 5, 2) := by decide +kernel
theorem dX9_entry_78 : decode cX9_entry 78 = .ok (.iload 4, 2) := by decide +kernel
theorem dX9_entry_80 : decode cX9_entry 80 = .ok (.ireturn, 1) := by decide +kernel
theorem dX9_entry_81 : decode cX9_entry 81 = .ok (.aload_n 0, 1) := by decide +kernel
theorem dX9_entry_82 : decode cX9_entry 82 = .ok (.bipush 48, 2) := by decide +kernel
theorem dX9_entry_84 : decode cX9_entry 84 = .ok (.bipush 57, 2) := by decide +kernel
theorem dX9_entry_86 : decode cX9_entry 86 = .ok (.invokevirtual 202, 3) := by decide +kernel
theorem dX9_entry_89 : decode cX9_entry 89 = .ok (.bipush 48, 2) := by decide +kernel
theorem dX9_entry_91 : decode cX9_entry 91 = .ok (.isub, 1) := by decide +kernel
theorem dX9_entry_92 : decode cX9_entry 92 = .ok (.istore_n 2, 1) := by decide +kernel
theorem dX9_entry_93 : decode cX9_entry 93 = .ok (.aload_n 0, 1) := by decide +kernel
theorem dX9_entry_94 : decode cX9_entry 94 = .ok (.bipush 45, 2) := by decide +kernel
theorem dX9_entry_96 : decode cX9_entry 96 = .ok (.bipush 45, 2) := by decide +kernel
theorem dX9_entry_98 : decode cX9_entry 98 = .ok (.invokevirtual 202, 3) := by decide +kernel
theorem dX9_entry_101 : decode cX9_entry 101 = .ok (.istore_n 3, 1) := by decide +kernel
theorem dX9_entry_102 : decode cX9_entry 102 = .ok (.aload_n 0, 1) := by decide +kernel
theorem dX9_entry_103 : decode cX9_entry 103 = .ok (.bipush 48, 2) := by decide +kernel
theorem dX9_entry_105 : decode cX9_entry 105 = .ok (.bipush 57, 2) := by decide +kernel
theorem dX9_entry_107 : decode cX9_entry 107 = .ok (.invokevirtual 202, 3) := by decide +kernel
theorem dX9_entry_110 : decode cX9_entry 110 = .ok (.bipush 48, 2) := by decide +kernel
theorem dX9_entry_112 : decode cX9_entry 112 = .ok (.isub, 1) := by decide +kernel
theorem dX9_entry_113 : decode cX9_entry 113 = .ok (.istore 4, 2) := by decide +kernel
theorem dX9_entry_115 : decode cX9_entry 115 = .ok (.aload_n 0, 1) := by decide +kernel
theorem dX9_entry_116 : decode cX9_entry 116 = .ok (.bipush 58, 2) := by decide +kernel
theorem dX9_entry_118 : decode cX9_entry 118 = .ok (.bipush 58, 2) := by decide +kernel
theorem dX9_entry_120 : decode cX9_entry 120 = .ok (.invokevirtual 202, 3) := by decide +kernel
theorem dX9_entry_123 : decode cX9_entry 123 = .ok (.istore_n 3, 1) := by decide +kernel
theorem dX9_entry_124 : decode cX9_entry 124 = .ok (.aload_n 0, 1) := by decide +kernel
theorem dX9_entry_125 : decode cX9_entry 125 = .ok (.getfield 198, 3) := by decide +kernel
theorem dX9_entry_128 : decode cX9_entry 128 = .ok (.ifCond .ne 18, 3) := by decide +kernel
theorem dX9_entry_131 : decode cX9_entry 131 = .ok (.aload_n 0, 1) := by decide +kernel
theorem dX9_entry_132 : decode cX9_entry 132 = .ok (.bipush 45, 2) := by decide +kernel
theorem dX9_entry_134 : decode cX9_entry 134 = .ok (.bipush 45, 2) := by decide +kernel
theorem dX9_entry_136 : decode cX9_entry 136 = .ok (.invokevirtual 205, 3) := by decide +kernel
theorem dX9_entry_139 : decode cX9_entry 139 = .ok (.ifCond .eq 7, 3) := by decide +kernel
theorem dX9_entry_142 : decode cX9_entry 142 = .ok (.iconst 1, 1) := by decide +kernel
theorem dX9_entry_143 : decode cX9_entry 143 = .ok (.goto 4, 3) := by decide +kernel
theorem dX9_entry_146 : decode cX9_entry 146 = .ok (.iconst 0, 1) := by decide +kernel
theorem dX9_entry_147 : decode cX9_entry 147 = .ok (.istore 5, 2) := by decide +kernel
theorem dX9_entry_149 : decode cX9_entry 149 = .ok (.iload 5, 2) := by decide +kernel
theorem dX9_entry_151 : decode cX9_entry 151 = .ok (.ifCond .eq 14, 3) := by decide +kernel
theorem dX9_entry_154 : decode cX9_entry 154 = .ok (.aload_n 0, 1) := by decide +kernel
theorem dX9_entry_155 : decode cX9_entry 155 = .ok (.bipush 45, 2) := by decide +kernel
theorem dX9_entry_157 : decode cX9_entry 157 = .ok (.bipush 45, 2) := by decide +kernel
theorem dX9_entry_159 : decode cX9_entry 159 = .ok (.invokevirtual 202, 3) := by decide +kernel
theorem dX9_entry_162 : decode cX9_entry 162 = .ok (.goto 4, 3) := by decide +kernel
theorem dX9_entry_165 : decode cX9_entry 165 = .ok (.iconst 0, 1) := by decide +kernel
theorem dX9_entry_166 : decode cX9_entry 166 = .ok (.istore_n 3, 1) := by decide +kernel
theorem dX9_entry_167 : decode cX9_entry 167 = .ok (.aload_n 0, 1) := by decide +kernel
theorem dX9_entry_168 : decode cX9_entry 168 = .ok (.iconst 0, 1) := by decide +kernel
theorem dX9_entry_169 : decode cX9_entry 169 = .ok (.sipush 9999, 3) := by decide +kernel
theorem dX9_entry_172 : decode cX9_entry 172 = .ok (.invokevirtual 208, 3) := by decide +kernel
theorem dX9_entry_175 : decode cX9_entry 175 = .ok (.istore 6, 2) := by decide +kernel
theorem dX9_entry_177 : decode cX9_entry 177 = .ok (.aload_n 0, 1) := by decide +kernel
theorem dX9_entry_178 : decode cX9_entry 178 = .ok (.bipush 47, 2) := by decide +kernel
theorem dX9_entry_180 : decode cX9_entry 180 = .ok (.bipush 47, 2) := by decide +kernel
theorem dX9_entry_182 : decode cX9_entry 182 = .ok (.invokevirtual 202, 3) := by decide +kernel
theorem dX9_entry_185 : decode cX9_entry 185 = .ok (.istore_n 3, 1) := by decide +kernel
theorem dX9_entry_186 : decode cX9_entry 186 = .ok (.aload_n 0, 1) := by decide +kernel
theorem dX9_entry_187 : decode cX9_entry 187 = .ok (.iconst 1, 1) := by decide +kernel
theorem dX9_entry_188 : decode cX9_entry 188 = .ok (.bipush 99, 2) := by decide +kernel
theorem dX9_entry_190 : decode cX9_entry 190 = .ok (.invokevirtual 208, 3) := by decide +kernel
theorem dX9_entry_193 : decode cX9_entry 193 = .ok (.istore 7, 2) := by decide +kernel
theorem dX9_entry_195 : decode cX9_entry 195 = .ok (.iload 5, 2) := by decide +kernel
theorem dX9_entry_197 : decode cX9_entry 197 = .ok (.ifCond .eq 9, 3) := by decide +kernel
theorem dX9_entry_200 : decode cX9_entry 200 = .ok (.iload 6, 2) := by decide +kernel
theorem dX9_entry_202 : decode cX9_entry 202 = .ok (.ineg, 1) := by decide +kernel
theorem dX9_entry_203 : decode cX9_entry 203 = .ok (.goto 5, 3) := by decide +kernel
theorem dX9_entry_206 : decode cX9_entry 206 = .ok (.iload 6, 2) := by decide +kernel
theorem dX9_entry_208 : decode cX9_entry 208 = .ok (.istore 6, 2) := by decide +kernel
theorem dX9_entry_210 : decode cX9_entry 210 = .ok (.iload_n 1, 1) := by decide +kernel
theorem dX9_entry_211 : decode cX9_entry 211 = .ok (.ifCond .eq 21, 3) := by decide +kernel
theorem dX9_entry_214 : decode cX9_entry 214 = .ok (.aload_n 0, 1) := by decide +kernel
theorem dX9_entry_215 : decode cX9_entry 215 = .ok (.iload_n 2, 1) := by decide +kernel
theorem dX9_entry_216 : decode cX9_entry 216 = .ok (.iload 4, 2) := by decide +kernel
theorem dX9_entry_218 : decode cX9_entry 218 = .ok (.iload 6, 2) := by decide +kernel
theorem dX9_entry_220 : decode cX9_entry 220 = .ok (.iload 7, 2) := by decide +kernel
theorem dX9_entry_222 : decode cX9_entry 222 = .ok (.invokevirtual 173, 3) := by decide +kernel
theorem dX9_entry_225 : decode cX9_entry 225 = .ok (.ifCond .ne 7, 3) := by decide +kernel
theorem dX9_entry_228 : decode cX9_entry 228 = .ok (.iconst 1, 1) := by decide +kernel
theorem dX9_entry_229 : decode cX9_entry 229 = .ok (.goto 4, 3) := by decide +kernel
theorem dX9_entry_232 : decode cX9_entry 232 = .ok (.iconst 0, 1) := by decide +kernel
theorem dX9_entry_233 : decode cX9_entry 233 = .ok (.istore 8, 2) := by decide +kernel
theorem dX9_entry_235 : decode cX9_entry 235 = .ok (.iload 8, 2) := by decide +kernel
theorem dX9_entry_237 : decode cX9_entry 237 = .ok (.ifCond .eq 17, 3) := by decide +kernel
theorem dX9_entry_240 : decode cX9_entry 240 = .ok (.aload_n 0, 1) := by decide +kernel
theorem dX9_entry_241 : decode cX9_entry 241 = .ok (.iload_n 2, 1) := by decide +kernel
theorem dX9_entry_242 : decode cX9_entry 242 = .ok (.iload 4, 2) := by decide +kernel
theorem dX9_entry_244 : decode cX9_entry 244 = .ok (.iload 6, 2) := by decide +kernel
theorem dX9_entry_246 : decode cX9_entry 246 = .ok (.iload 7, 2) := by decide +kernel
theorem dX9_entry_248 : decode cX9_entry 248 = .ok (.invokevirtual 177, 3) := by decide +kernel
theorem dX9_entry_251 : decode cX9_entry 251 = .ok (.goto 4, 3) := by decide +kernel
theorem dX9_entry_254 : decode cX9_entry 254 = .ok (.iconst 0, 1) := by decide +kernel
theorem dX9_entry_255 : decode cX9_entry 255 = .ok (.istore 9, 2) := by decide +kernel
theorem dX9_entry_257 : decode cX9_entry 257 = .ok (.iload 8, 2) := by decide +kernel
theorem dX9_entry_259 : decode cX9_entry 259 = .ok (.ireturn, 1) := by decide +kernel
set_option maxRecDepth 20000 in
theorem ggX9_entry_X9_legs : GoodIn wsX9_entry wsX9_legs := goodIn_r _ [42, 26, 43, 44, 6, 45, 46, 47, 48, 49, 50, 51, 52, 53, 54, 55, 56, 57, 58, 59, 60, 61, 62, 63, 64, 65, 66, 67, 68, 69, 70] (by decide +kernel) (by decide +kernel)
set_option maxRecDepth 20000 in
theorem gX9_entry_X9_legs : GoodIn wsX9_entry (wsV RX9 177 RX9 yX9_legs wsX9_legs) := goodIn_app (goodIn_of _ (by decide +kernel)) ggX9_entry_X9_legs
set_option maxRecDepth 20000 in
theorem ggX9_entry_X9_legFault : GoodIn wsX9_entry wsX9_legFault := goodIn_r _ [34, 26, 35, 36, 37, 6, 38, 11, 12, 13, 46, 47, 48, 49, 50, 51, 52, 53, 54, 55, 56, 57, 58, 59, 60, 61, 62, 63, 64, 65, 66, 67, 68, 69, 70] (by decide +kernel) (by decide +kernel)
set_option maxRecDepth 20000 in
theorem gX9_entry_X9_legFault : GoodIn wsX9_entry (wsV RX9 173 RX9 yX9_legFault wsX9_legFault) := goodIn_app (goodIn_of _ (by decide +kernel)) ggX9_entry_X9_legFault
set_option maxRecDepth 20000 in
theorem ggX9_entry_X9_number : GoodIn wsX9_entry wsX9_number := goodIn_r _ [21, 2, 10, 8, 14, 15, 16, 6, 17, 9, 11, 12, 13, 3, 4, 5, 7, 46, 47, 48, 49, 50, 51, 52, 53, 54, 55, 56, 57, 58, 59, 60, 61, 62, 63, 64, 65, 66, 67, 68, 69, 70] (by decide +kernel) (by decide +kernel)
set_option maxRecDepth 20000 in
theorem gX9_entry_X9_number : GoodIn wsX9_entry (wsV RX9 208 RX9 yX9_number wsX9_number) := goodIn_app (goodIn_of _ (by decide +kernel)) ggX9_entry_X9_number
set_option maxRecDepth 20000 in
theorem ggX9_entry_X9_sign : GoodIn wsX9_entry wsX9_sign := goodIn_r _ [17, 8, 9, 10, 2, 11, 12, 6, 13, 46, 47, 48, 49, 50, 51, 52, 53, 54, 55, 56, 57, 58, 59, 60, 61, 62, 63, 64, 65, 66, 67, 68, 69, 70] (by decide +kernel) (by decide +kernel)
set_option maxRecDepth 20000 in
theorem gX9_entry_X9_sign : GoodIn wsX9_entry (wsV RX9 202 RX9 yX9_sign wsX9_sign) := goodIn_app (goodIn_of _ (by decide +kernel)) ggX9_entry_X9_sign
set_option maxRecDepth 20000 in
theorem ggX9_entry_X9_isNext : GoodIn wsX9_entry wsX9_isNext := goodIn_r _ [7, 8, 9, 10, 11, 12, 6, 13, 46, 47, 48, 49, 50, 51, 52, 53, 54, 55, 56, 57, 58, 59, 60, 61, 62, 63, 64, 65, 66, 67, 68, 69, 70] (by decide +kernel) (by decide +kernel)
set_option maxRecDepth 20000 in
theorem gX9_entry_X9_isNext : GoodIn wsX9_entry (wsV RX9 205 RX9 yX9_isNext wsX9_isNext) := goodIn_app (goodIn_of _ (by decide +kernel)) ggX9_entry_X9_isNext
set_option maxRecDepth 20000 in
theorem ggX9_entry_X9_marks : GoodIn wsX9_entry wsX9_marks := goodIn_r _ [30, 26, 46, 47, 48, 49, 50, 51, 52, 53, 54, 55, 56, 57, 58, 59, 60, 61, 62, 63, 64, 65, 66, 67, 68, 69, 70] (by decide +kernel) (by decide +kernel)
set_option maxRecDepth 20000 in
theorem gX9_entry_X9_marks : GoodIn wsX9_entry (wsV RX9 164 RX9 yX9_marks wsX9_marks) := goodIn_app (goodIn_of _ (by decide +kernel)) ggX9_entry_X9_marks
set_option maxRecDepth 20000 in
theorem ggX9_entry_X9_markFault : GoodIn wsX9_entry wsX9_markFault := goodIn_r _ [25, 1, 26, 11, 12, 6, 13, 46, 47, 48, 49, 50, 51, 52, 53, 54, 55, 56, 57, 58, 59, 60, 61, 62, 63, 64, 65, 66, 67, 68, 69, 70] (by decide +kernel) (by decide +kernel)
set_option maxRecDepth 20000 in
theorem gX9_entry_X9_markFault : GoodIn wsX9_entry (wsV RX9 155 RX9 yX9_markFault wsX9_markFault) := goodIn_app (goodIn_of _ (by decide +kernel)) ggX9_entry_X9_markFault
def D_X9_entry : Md := (yX9_entry, cX9_entry, 10, (some .boolean), wsX9_entry, RX9, { frames := 3, cells := 0, slots := 0, locals := 68 })
theorem nm_X9_entry : nmD D_X9_entry 1 := ⟨rfl, by decide +kernel, by decide +kernel, by decide +kernel⟩
theorem hi_X9_entry_X9 : ∀ w ∈ u_ws RX9 TX9 25, w ∈ wsX9_entry := by decide +kernel
theorem hl_X9_entry_198 : Cond.fieldLink RX9 198 "LevelLoopsModel" "isWrong" "Z" ∈ wsX9_entry := by decide +kernel
def wp_X9_entry_J233 (x2 : Int32) (x4 : Int32) (x6 : Int32) (x7 : Int32) (s0 : Int32) (w : Wd) (Q : Int32 → Wd → Prop) : Prop :=
  ((s0 = 0 → zb s0 ∧ Q s0 w) ∧ (¬ s0 = 0 → wp_X9_legs x2 x4 x6 x7 w (fun r248 w248 => zb s0 ∧ Q s0 w248)))
def wp_X9_entry_J232 (x2 : Int32) (x4 : Int32) (x6 : Int32) (x7 : Int32) (w : Wd) (Q : Int32 → Wd → Prop) : Prop :=
  wp_X9_entry_J233 x2 x4 x6 x7 (0 : Int32) w Q
def wp_X9_entry_J208 (x1 : Int32) (x2 : Int32) (x4 : Int32) (x7 : Int32) (s0 : Int32) (w : Wd) (Q : Int32 → Wd → Prop) : Prop :=
  ((x1 = 0 → wp_X9_entry_J232 x2 x4 s0 x7 w Q) ∧ (¬ x1 = 0 → wp_X9_legFault x2 x4 s0 x7 w (fun r222 => ((¬ r222 = 0 → wp_X9_entry_J232 x2 x4 s0 x7 w Q) ∧ (r222 = 0 → wp_X9_entry_J233 x2 x4 s0 x7 (1 : Int32) w Q)))))
def wp_X9_entry_J166 (x1 : Int32) (x2 : Int32) (x4 : Int32) (x5 : Int32) (s0 : Int32) (w : Wd) (Q : Int32 → Wd → Prop) : Prop :=
  wp_X9_number (0 : Int32) (9999 : Int32) w (fun r172 w172 => wp_X9_sign (47 : Int32) (47 : Int32) w172 (fun r182 w182 => wp_X9_number (1 : Int32) (99 : Int32) w182 (fun r190 w190 => ((x5 = 0 → wp_X9_entry_J208 x1 x2 x4 r190 r172 w190 Q) ∧ (¬ x5 = 0 → wp_X9_entry_J208 x1 x2 x4 r190 (-r172) w190 Q)))))
def wp_X9_entry_J147 (x1 : Int32) (x2 : Int32) (x4 : Int32) (s0 : Int32) (w : Wd) (Q : Int32 → Wd → Prop) : Prop :=
  ((s0 = 0 → wp_X9_entry_J166 x1 x2 x4 s0 (0 : Int32) w Q) ∧ (¬ s0 = 0 → wp_X9_sign (45 : Int32) (45 : Int32) w (fun r159 w159 => wp_X9_entry_J166 x1 x2 x4 s0 r159 w159 Q)))
def wp_X9_entry_J146 (x1 : Int32) (x2 : Int32) (x4 : Int32) (w : Wd) (Q : Int32 → Wd → Prop) : Prop :=
  wp_X9_entry_J147 x1 x2 x4 (0 : Int32) w Q
def wp_X9_entry_J60 (x3 : Int32) (s0 : Int32) (w : Wd) (Q : Int32 → Wd → Prop) : Prop :=
  ((s0 = 0 → zb s0 ∧ Q s0 w) ∧ (¬ s0 = 0 → wp_X9_marks x3 w (fun r69 w69 => zb s0 ∧ Q s0 w69)))
def wp_X9_entry_J59 (x3 : Int32) (w : Wd) (Q : Int32 → Wd → Prop) : Prop :=
  wp_X9_entry_J60 x3 (0 : Int32) w Q
def wp_X9_entry_J42 (x1 : Int32) (s0 : Int32) (w : Wd) (Q : Int32 → Wd → Prop) : Prop :=
  ((x1 = 0 → wp_X9_entry_J59 s0 w Q) ∧ (¬ x1 = 0 → wp_X9_markFault s0 w (fun r49 => ((¬ r49 = 0 → wp_X9_entry_J59 s0 w Q) ∧ (r49 = 0 → wp_X9_entry_J60 s0 (1 : Int32) w Q)))))
def wp_X9_entry (x1 : Int32) (w : Wd) (Q : Int32 → Wd → Prop) : Prop :=
  wp_X9_isNext (109 : Int32) (109 : Int32) w (fun r5 => ((r5 = 0 → wp_X9_sign (48 : Int32) (57 : Int32) w (fun r86 w86 => wp_X9_sign (45 : Int32) (45 : Int32) w86 (fun r98 w98 => wp_X9_sign (48 : Int32) (57 : Int32) w98 (fun r107 w107 => wp_X9_sign (58 : Int32) (58 : Int32) w107 (fun r120 w120 => ((¬ (wi w120 0 32 23) = 0 → wp_X9_entry_J146 x1 (r86 - (48 : Int32)) (r107 - (48 : Int32)) w120 Q) ∧ ((wi w120 0 32 23) = 0 → wp_X9_isNext (45 : Int32) (45 : Int32) w120 (fun r136 => ((r136 = 0 → wp_X9_entry_J146 x1 (r86 - (48 : Int32)) (r107 - (48 : Int32)) w120 Q) ∧ (¬ r136 = 0 → wp_X9_entry_J147 x1 (r86 - (48 : Int32)) (r107 - (48 : Int32)) (1 : Int32) w120 Q)))))))))) ∧ (¬ r5 = 0 → wp_X9_sign (109 : Int32) (109 : Int32) w (fun r16 w16 => wp_X9_isNext (48 : Int32) (57 : Int32) w16 (fun r25 => ((r25 = 0 → wp_X9_entry_J42 x1 (-1 : Int32) w16 Q) ∧ (¬ r25 = 0 → wp_X9_number (0 : Int32) (99999 : Int32) w16 (fun r35 w35 => wp_X9_entry_J42 x1 r35 w35 Q))))))))
theorem ok_X9_entry_J233 {G : Gt} {M : Mx} {Qf : State → Prop} {x2 : Int32} {x4 : Int32} {x6 : Int32} {x7 : Int32} {s0 : Int32} {w : Wd} {Q : Int32 → Wd → Prop} (hC : cx G D_X9_entry M) (he : en G M (qi Q) Qf) (h : wp_X9_entry_J233 x2 x4 x6 x7 s0 w Q) : jq G D_X9_entry M Qf 233 [(0, .ref (aD G 0 32)), (2, .int x2), (4, .int x4), (6, .int x6), (7, .int x7)] [.int s0] w := by
  unfold wp_X9_entry_J233 at h
  refine jq_istore (L' := [(8, .int s0), (0, .ref (aD G 0 32)), (2, .int x2), (4, .int x4), (6, .int x6), (7, .int x7)]) dX9_entry_233 hC (by decide) rfl ?_
  refine jq_iload (k0 := 0) dX9_entry_235 hC rfl ?_
  refine jq_if_eq (tgt := 254) dX9_entry_237 hC (by decide) (fun c237 => ?_) (fun c237 => ?_)
  · have h := h.1 c237
    refine jq_iconst (v := (0 : Int32)) dX9_entry_254 hC (by decide) ?_
    refine jq_istore (L' := [(9, .int (0 : Int32)), (8, .int s0), (0, .ref (aD G 0 32)), (2, .int x2), (4, .int x4), (6, .int x6), (7, .int x7)]) dX9_entry_255 hC (by decide) rfl ?_
    refine jq_iload (k0 := 1) dX9_entry_257 hC rfl ?_
    obtain ⟨bz, h⟩ := h
    exact jq_zret dX9_entry_259 hC he rfl bz ⟨_, rfl, h⟩
  · have h := h.2 c237
    refine jq_aload_n (k0 := 1) dX9_entry_240 hC rfl rfl ?_
    refine jq_iload_n (k0 := 2) dX9_entry_241 hC rfl rfl ?_
    refine jq_iload (k0 := 3) dX9_entry_242 hC rfl ?_
    refine jq_iload (k0 := 4) dX9_entry_244 hC rfl ?_
    refine jq_iload (k0 := 5) dX9_entry_246 hC rfl ?_
    refine jq_callV (As := [.int x2, .int x4, .int x6, .int x7]) (rest := []) (n := 0) (o := 32) (D' := D_X9_legs) dX9_entry_248 hC (cl_0 (by decide)) rfl rfl rfl (mt_X9_legs h) gX9_entry_X9_legs rfl ⟨rfl, rfl, Nat.le_of_ble_eq_true rfl, Nat.le_of_ble_eq_true rfl⟩ nm_X9_legs rfl (Nat.le_of_ble_eq_true rfl) (kI fun r248 w248 h => ?_)
    refine jq_goto (tgt := 255) dX9_entry_251 hC (by decide) ?_
    refine jq_istore (L' := [(9, .int r248), (8, .int s0), (0, .ref (aD G 0 32)), (2, .int x2), (4, .int x4), (6, .int x6), (7, .int x7)]) dX9_entry_255 hC (by decide) rfl ?_
    refine jq_iload (k0 := 1) dX9_entry_257 hC rfl ?_
    obtain ⟨bz, h⟩ := h
    exact jq_zret dX9_entry_259 hC he rfl bz ⟨_, rfl, h⟩
theorem ok_X9_entry_J232 {G : Gt} {M : Mx} {Qf : State → Prop} {x2 : Int32} {x4 : Int32} {x6 : Int32} {x7 : Int32} {w : Wd} {Q : Int32 → Wd → Prop} (hC : cx G D_X9_entry M) (he : en G M (qi Q) Qf) (h : wp_X9_entry_J232 x2 x4 x6 x7 w Q) : jq G D_X9_entry M Qf 232 [(0, .ref (aD G 0 32)), (2, .int x2), (4, .int x4), (6, .int x6), (7, .int x7)] [] w := by
  unfold wp_X9_entry_J232 at h
  refine jq_iconst (v := (0 : Int32)) dX9_entry_232 hC (by decide) ?_
  refine jq_less (L' := [(0, .ref (aD G 0 32)), (2, .int x2), (4, .int x4), (6, .int x6), (7, .int x7)]) [0, 1, 2, 3, 4] rfl ?_
  exact ok_X9_entry_J233 hC he h
theorem ok_X9_entry_J208 {G : Gt} {M : Mx} {Qf : State → Prop} {x1 : Int32} {x2 : Int32} {x4 : Int32} {x7 : Int32} {s0 : Int32} {w : Wd} {Q : Int32 → Wd → Prop} (hC : cx G D_X9_entry M) (he : en G M (qi Q) Qf) (h : wp_X9_entry_J208 x1 x2 x4 x7 s0 w Q) : jq G D_X9_entry M Qf 208 [(0, .ref (aD G 0 32)), (1, .int x1), (2, .int x2), (4, .int x4), (7, .int x7)] [.int s0] w := by
  unfold wp_X9_entry_J208 at h
  refine jq_istore (L' := [(6, .int s0), (0, .ref (aD G 0 32)), (1, .int x1), (2, .int x2), (4, .int x4), (7, .int x7)]) dX9_entry_208 hC (by decide) rfl ?_
  refine jq_iload_n (k0 := 2) dX9_entry_210 hC rfl rfl ?_
  refine jq_if_eq (tgt := 232) dX9_entry_211 hC (by decide) (fun c211 => ?_) (fun c211 => ?_)
  · have h := h.1 c211
    refine jq_less (L' := [(0, .ref (aD G 0 32)), (2, .int x2), (4, .int x4), (6, .int s0), (7, .int x7)]) [1, 3, 4, 0, 5] rfl ?_
    exact ok_X9_entry_J232 hC he h
  · have h := h.2 c211
    refine jq_aload_n (k0 := 1) dX9_entry_214 hC rfl rfl ?_
    refine jq_iload_n (k0 := 3) dX9_entry_215 hC rfl rfl ?_
    refine jq_iload (k0 := 4) dX9_entry_216 hC rfl ?_
    refine jq_iload (k0 := 0) dX9_entry_218 hC rfl ?_
    refine jq_iload (k0 := 5) dX9_entry_220 hC rfl ?_
    refine jq_callV (As := [.int x2, .int x4, .int s0, .int x7]) (rest := []) (n := 0) (o := 32) (D' := D_X9_legFault) dX9_entry_222 hC (cl_0 (by decide)) rfl rfl rfl (mt_X9_legFault h) gX9_entry_X9_legFault rfl ⟨rfl, rfl, Nat.le_of_ble_eq_true rfl, Nat.le_of_ble_eq_true rfl⟩ nm_X9_legFault rfl (Nat.le_of_ble_eq_true rfl) (kIp fun r222 h => ?_)
    refine jq_if_ne (tgt := 232) dX9_entry_225 hC (by decide) (fun c225 => ?_) (fun c225 => ?_)
    · have h := h.1 c225
      refine jq_less (L' := [(0, .ref (aD G 0 32)), (2, .int x2), (4, .int x4), (6, .int s0), (7, .int x7)]) [1, 3, 4, 0, 5] rfl ?_
      exact ok_X9_entry_J232 hC he h
    · have h := h.2 c225
      refine jq_iconst (v := (1 : Int32)) dX9_entry_228 hC (by decide) ?_
      refine jq_goto (tgt := 233) dX9_entry_229 hC (by decide) ?_
      refine jq_less (L' := [(0, .ref (aD G 0 32)), (2, .int x2), (4, .int x4), (6, .int s0), (7, .int x7)]) [1, 3, 4, 0, 5] rfl ?_
      exact ok_X9_entry_J233 hC he h
theorem ok_X9_entry_J166 {G : Gt} {M : Mx} {Qf : State → Prop} {x1 : Int32} {x2 : Int32} {x4 : Int32} {x5 : Int32} {s0 : Int32} {w : Wd} {Q : Int32 → Wd → Prop} (hC : cx G D_X9_entry M) (he : en G M (qi Q) Qf) (h : wp_X9_entry_J166 x1 x2 x4 x5 s0 w Q) : jq G D_X9_entry M Qf 166 [(0, .ref (aD G 0 32)), (1, .int x1), (2, .int x2), (4, .int x4), (5, .int x5)] [.int s0] w := by
  unfold wp_X9_entry_J166 at h
  refine jq_istore_n (L' := [(3, .int s0), (0, .ref (aD G 0 32)), (1, .int x1), (2, .int x2), (4, .int x4), (5, .int x5)]) dX9_entry_166 hC rfl (by decide) rfl ?_
  refine jq_aload_n (k0 := 1) dX9_entry_167 hC rfl rfl ?_
  refine jq_iconst (v := (0 : Int32)) dX9_entry_168 hC (by decide) ?_
  refine jq_sipush (v := (9999 : Int32)) dX9_entry_169 hC (by decide) ?_
  refine jq_callV (As := [.int (0 : Int32), .int (9999 : Int32)]) (rest := []) (n := 0) (o := 32) (D' := D_X9_number) dX9_entry_172 hC (cl_0 (by decide)) rfl rfl rfl (mt_X9_number h) gX9_entry_X9_number rfl ⟨rfl, rfl, Nat.le_of_ble_eq_true rfl, Nat.le_of_ble_eq_true rfl⟩ nm_X9_number rfl (Nat.le_of_ble_eq_true rfl) (kI fun r172 w172 h => ?_)
  refine jq_istore (L' := [(6, .int r172), (3, .int s0), (0, .ref (aD G 0 32)), (1, .int x1), (2, .int x2), (4, .int x4), (5, .int x5)]) dX9_entry_175 hC (by decide) rfl ?_
  refine jq_aload_n (k0 := 2) dX9_entry_177 hC rfl rfl ?_
  refine jq_bipush (v := (47 : Int32)) dX9_entry_178 hC (by decide) ?_
  refine jq_bipush (v := (47 : Int32)) dX9_entry_180 hC (by decide) ?_
  refine jq_callV (As := [.int (47 : Int32), .int (47 : Int32)]) (rest := []) (n := 0) (o := 32) (D' := D_X9_sign) dX9_entry_182 hC (cl_0 (by decide)) rfl rfl rfl (mt_X9_sign h) gX9_entry_X9_sign rfl ⟨rfl, rfl, Nat.le_of_ble_eq_true rfl, Nat.le_of_ble_eq_true rfl⟩ nm_X9_sign rfl (Nat.le_of_ble_eq_true rfl) (kI fun r182 w182 h => ?_)
  refine jq_istore_n (L' := [(3, .int r182), (6, .int r172), (0, .ref (aD G 0 32)), (1, .int x1), (2, .int x2), (4, .int x4), (5, .int x5)]) dX9_entry_185 hC rfl (by decide) rfl ?_
  refine jq_aload_n (k0 := 2) dX9_entry_186 hC rfl rfl ?_
  refine jq_iconst (v := (1 : Int32)) dX9_entry_187 hC (by decide) ?_
  refine jq_bipush (v := (99 : Int32)) dX9_entry_188 hC (by decide) ?_
  refine jq_callV (As := [.int (1 : Int32), .int (99 : Int32)]) (rest := []) (n := 0) (o := 32) (D' := D_X9_number) dX9_entry_190 hC (cl_0 (by decide)) rfl rfl rfl (mt_X9_number h) gX9_entry_X9_number rfl ⟨rfl, rfl, Nat.le_of_ble_eq_true rfl, Nat.le_of_ble_eq_true rfl⟩ nm_X9_number rfl (Nat.le_of_ble_eq_true rfl) (kI fun r190 w190 h => ?_)
  refine jq_istore (L' := [(7, .int r190), (3, .int r182), (6, .int r172), (0, .ref (aD G 0 32)), (1, .int x1), (2, .int x2), (4, .int x4), (5, .int x5)]) dX9_entry_193 hC (by decide) rfl ?_
  refine jq_iload (k0 := 7) dX9_entry_195 hC rfl ?_
  refine jq_if_eq (tgt := 206) dX9_entry_197 hC (by decide) (fun c197 => ?_) (fun c197 => ?_)
  · have h := h.1 c197
    refine jq_iload (k0 := 2) dX9_entry_206 hC rfl ?_
    refine jq_less (L' := [(0, .ref (aD G 0 32)), (1, .int x1), (2, .int x2), (4, .int x4), (7, .int r190)]) [3, 4, 5, 6, 0] rfl ?_
    exact ok_X9_entry_J208 hC he h
  · have h := h.2 c197
    refine jq_iload (k0 := 2) dX9_entry_200 hC rfl ?_
    refine jq_ineg dX9_entry_202 hC ?_
    refine jq_goto (tgt := 208) dX9_entry_203 hC (by decide) ?_
    refine jq_less (L' := [(0, .ref (aD G 0 32)), (1, .int x1), (2, .int x2), (4, .int x4), (7, .int r190)]) [3, 4, 5, 6, 0] rfl ?_
    exact ok_X9_entry_J208 hC he h
theorem ok_X9_entry_J147 {G : Gt} {M : Mx} {Qf : State → Prop} {x1 : Int32} {x2 : Int32} {x4 : Int32} {s0 : Int32} {w : Wd} {Q : Int32 → Wd → Prop} (hC : cx G D_X9_entry M) (he : en G M (qi Q) Qf) (h : wp_X9_entry_J147 x1 x2 x4 s0 w Q) : jq G D_X9_entry M Qf 147 [(0, .ref (aD G 0 32)), (1, .int x1), (2, .int x2), (4, .int x4)] [.int s0] w := by
  unfold wp_X9_entry_J147 at h
  refine jq_istore (L' := [(5, .int s0), (0, .ref (aD G 0 32)), (1, .int x1), (2, .int x2), (4, .int x4)]) dX9_entry_147 hC (by decide) rfl ?_
  refine jq_iload (k0 := 0) dX9_entry_149 hC rfl ?_
  refine jq_if_eq (tgt := 165) dX9_entry_151 hC (by decide) (fun c151 => ?_) (fun c151 => ?_)
  · have h := h.1 c151
    refine jq_iconst (v := (0 : Int32)) dX9_entry_165 hC (by decide) ?_
    refine jq_less (L' := [(0, .ref (aD G 0 32)), (1, .int x1), (2, .int x2), (4, .int x4), (5, .int s0)]) [1, 2, 3, 4, 0] rfl ?_
    exact ok_X9_entry_J166 hC he h
  · have h := h.2 c151
    refine jq_aload_n (k0 := 1) dX9_entry_154 hC rfl rfl ?_
    refine jq_bipush (v := (45 : Int32)) dX9_entry_155 hC (by decide) ?_
    refine jq_bipush (v := (45 : Int32)) dX9_entry_157 hC (by decide) ?_
    refine jq_callV (As := [.int (45 : Int32), .int (45 : Int32)]) (rest := []) (n := 0) (o := 32) (D' := D_X9_sign) dX9_entry_159 hC (cl_0 (by decide)) rfl rfl rfl (mt_X9_sign h) gX9_entry_X9_sign rfl ⟨rfl, rfl, Nat.le_of_ble_eq_true rfl, Nat.le_of_ble_eq_true rfl⟩ nm_X9_sign rfl (Nat.le_of_ble_eq_true rfl) (kI fun r159 w159 h => ?_)
    refine jq_goto (tgt := 166) dX9_entry_162 hC (by decide) ?_
    refine jq_less (L' := [(0, .ref (aD G 0 32)), (1, .int x1), (2, .int x2), (4, .int x4), (5, .int s0)]) [1, 2, 3, 4, 0] rfl ?_
    exact ok_X9_entry_J166 hC he h
theorem ok_X9_entry_J146 {G : Gt} {M : Mx} {Qf : State → Prop} {x1 : Int32} {x2 : Int32} {x4 : Int32} {w : Wd} {Q : Int32 → Wd → Prop} (hC : cx G D_X9_entry M) (he : en G M (qi Q) Qf) (h : wp_X9_entry_J146 x1 x2 x4 w Q) : jq G D_X9_entry M Qf 146 [(0, .ref (aD G 0 32)), (1, .int x1), (2, .int x2), (4, .int x4)] [] w := by
  unfold wp_X9_entry_J146 at h
  refine jq_iconst (v := (0 : Int32)) dX9_entry_146 hC (by decide) ?_
  refine jq_less (L' := [(0, .ref (aD G 0 32)), (1, .int x1), (2, .int x2), (4, .int x4)]) [0, 1, 2, 3] rfl ?_
  exact ok_X9_entry_J147 hC he h
theorem ok_X9_entry_J60 {G : Gt} {M : Mx} {Qf : State → Prop} {x3 : Int32} {s0 : Int32} {w : Wd} {Q : Int32 → Wd → Prop} (hC : cx G D_X9_entry M) (he : en G M (qi Q) Qf) (h : wp_X9_entry_J60 x3 s0 w Q) : jq G D_X9_entry M Qf 60 [(0, .ref (aD G 0 32)), (3, .int x3)] [.int s0] w := by
  unfold wp_X9_entry_J60 at h
  refine jq_istore (L' := [(4, .int s0), (0, .ref (aD G 0 32)), (3, .int x3)]) dX9_entry_60 hC (by decide) rfl ?_
  refine jq_iload (k0 := 0) dX9_entry_62 hC rfl ?_
  refine jq_if_eq (tgt := 75) dX9_entry_64 hC (by decide) (fun c64 => ?_) (fun c64 => ?_)
  · have h := h.1 c64
    refine jq_iconst (v := (0 : Int32)) dX9_entry_75 hC (by decide) ?_
    refine jq_istore (L' := [(5, .int (0 : Int32)), (4, .int s0), (0, .ref (aD G 0 32)), (3, .int x3)]) dX9_entry_76 hC (by decide) rfl ?_
    refine jq_iload (k0 := 1) dX9_entry_78 hC rfl ?_
    obtain ⟨bz, h⟩ := h
    exact jq_zret dX9_entry_80 hC he rfl bz ⟨_, rfl, h⟩
  · have h := h.2 c64
    refine jq_aload_n (k0 := 1) dX9_entry_67 hC rfl rfl ?_
    refine jq_iload_n (k0 := 2) dX9_entry_68 hC rfl rfl ?_
    refine jq_callV (As := [.int x3]) (rest := []) (n := 0) (o := 32) (D' := D_X9_marks) dX9_entry_69 hC (cl_0 (by decide)) rfl rfl rfl (mt_X9_marks h) gX9_entry_X9_marks rfl ⟨rfl, rfl, Nat.le_of_ble_eq_true rfl, Nat.le_of_ble_eq_true rfl⟩ nm_X9_marks rfl (Nat.le_of_ble_eq_true rfl) (kI fun r69 w69 h => ?_)
    refine jq_goto (tgt := 76) dX9_entry_72 hC (by decide) ?_
    refine jq_istore (L' := [(5, .int r69), (4, .int s0), (0, .ref (aD G 0 32)), (3, .int x3)]) dX9_entry_76 hC (by decide) rfl ?_
    refine jq_iload (k0 := 1) dX9_entry_78 hC rfl ?_
    obtain ⟨bz, h⟩ := h
    exact jq_zret dX9_entry_80 hC he rfl bz ⟨_, rfl, h⟩
theorem ok_X9_entry_J59 {G : Gt} {M : Mx} {Qf : State → Prop} {x3 : Int32} {w : Wd} {Q : Int32 → Wd → Prop} (hC : cx G D_X9_entry M) (he : en G M (qi Q) Qf) (h : wp_X9_entry_J59 x3 w Q) : jq G D_X9_entry M Qf 59 [(0, .ref (aD G 0 32)), (3, .int x3)] [] w := by
  unfold wp_X9_entry_J59 at h
  refine jq_iconst (v := (0 : Int32)) dX9_entry_59 hC (by decide) ?_
  refine jq_less (L' := [(0, .ref (aD G 0 32)), (3, .int x3)]) [0, 1] rfl ?_
  exact ok_X9_entry_J60 hC he h
theorem ok_X9_entry_J42 {G : Gt} {M : Mx} {Qf : State → Prop} {x1 : Int32} {s0 : Int32} {w : Wd} {Q : Int32 → Wd → Prop} (hC : cx G D_X9_entry M) (he : en G M (qi Q) Qf) (h : wp_X9_entry_J42 x1 s0 w Q) : jq G D_X9_entry M Qf 42 [(0, .ref (aD G 0 32)), (1, .int x1)] [.int s0] w := by
  unfold wp_X9_entry_J42 at h
  refine jq_istore_n (L' := [(3, .int s0), (0, .ref (aD G 0 32)), (1, .int x1)]) dX9_entry_42 hC rfl (by decide) rfl ?_
  refine jq_iload_n (k0 := 2) dX9_entry_43 hC rfl rfl ?_
  refine jq_if_eq (tgt := 59) dX9_entry_44 hC (by decide) (fun c44 => ?_) (fun c44 => ?_)
  · have h := h.1 c44
    refine jq_less (L' := [(0, .ref (aD G 0 32)), (3, .int s0)]) [1, 0] rfl ?_
    exact ok_X9_entry_J59 hC he h
  · have h := h.2 c44
    refine jq_aload_n (k0 := 1) dX9_entry_47 hC rfl rfl ?_
    refine jq_iload_n (k0 := 0) dX9_entry_48 hC rfl rfl ?_
    refine jq_callV (As := [.int s0]) (rest := []) (n := 0) (o := 32) (D' := D_X9_markFault) dX9_entry_49 hC (cl_0 (by decide)) rfl rfl rfl (mt_X9_markFault h) gX9_entry_X9_markFault rfl ⟨rfl, rfl, Nat.le_of_ble_eq_true rfl, Nat.le_of_ble_eq_true rfl⟩ nm_X9_markFault rfl (Nat.le_of_ble_eq_true rfl) (kIp fun r49 h => ?_)
    refine jq_if_ne (tgt := 59) dX9_entry_52 hC (by decide) (fun c52 => ?_) (fun c52 => ?_)
    · have h := h.1 c52
      refine jq_less (L' := [(0, .ref (aD G 0 32)), (3, .int s0)]) [1, 0] rfl ?_
      exact ok_X9_entry_J59 hC he h
    · have h := h.2 c52
      refine jq_iconst (v := (1 : Int32)) dX9_entry_55 hC (by decide) ?_
      refine jq_goto (tgt := 60) dX9_entry_56 hC (by decide) ?_
      refine jq_less (L' := [(0, .ref (aD G 0 32)), (3, .int s0)]) [1, 0] rfl ?_
      exact ok_X9_entry_J60 hC he h
theorem ok_X9_entry {G : Gt} {M : Mx} {Qf : State → Prop} {x1 : Int32} {w : Wd} {Q : Int32 → Wd → Prop} (hC : cx G D_X9_entry M) (he : en G M (qi Q) Qf) (h : wp_X9_entry x1 w Q) : jq G D_X9_entry M Qf 0 [(0, .ref (aD G 0 32)), (1, .int x1)] [] w := by
  unfold wp_X9_entry at h
  refine jq_aload_n (k0 := 0) dX9_entry_0 hC rfl rfl ?_
  refine jq_bipush (v := (109 : Int32)) dX9_entry_1 hC (by decide) ?_
  refine jq_bipush (v := (109 : Int32)) dX9_entry_3 hC (by decide) ?_
  refine jq_callV (As := [.int (109 : Int32), .int (109 : Int32)]) (rest := []) (n := 0) (o := 32) (D' := D_X9_isNext) dX9_entry_5 hC (cl_0 (by decide)) rfl rfl rfl (mt_X9_isNext h) gX9_entry_X9_isNext rfl ⟨rfl, rfl, Nat.le_of_ble_eq_true rfl, Nat.le_of_ble_eq_true rfl⟩ nm_X9_isNext rfl (Nat.le_of_ble_eq_true rfl) (kIp fun r5 h => ?_)
  refine jq_if_eq (tgt := 81) dX9_entry_8 hC (by decide) (fun c8 => ?_) (fun c8 => ?_)
  · have h := h.1 c8
    refine jq_aload_n (k0 := 0) dX9_entry_81 hC rfl rfl ?_
    refine jq_bipush (v := (48 : Int32)) dX9_entry_82 hC (by decide) ?_
    refine jq_bipush (v := (57 : Int32)) dX9_entry_84 hC (by decide) ?_
    refine jq_callV (As := [.int (48 : Int32), .int (57 : Int32)]) (rest := []) (n := 0) (o := 32) (D' := D_X9_sign) dX9_entry_86 hC (cl_0 (by decide)) rfl rfl rfl (mt_X9_sign h) gX9_entry_X9_sign rfl ⟨rfl, rfl, Nat.le_of_ble_eq_true rfl, Nat.le_of_ble_eq_true rfl⟩ nm_X9_sign rfl (Nat.le_of_ble_eq_true rfl) (kI fun r86 w86 h => ?_)
    refine jq_bipush (v := (48 : Int32)) dX9_entry_89 hC (by decide) ?_
    refine jq_isub dX9_entry_91 hC ?_
    refine jq_istore_n (L' := [(2, .int (r86 - (48 : Int32))), (0, .ref (aD G 0 32)), (1, .int x1)]) dX9_entry_92 hC rfl (by decide) rfl ?_
    refine jq_aload_n (k0 := 1) dX9_entry_93 hC rfl rfl ?_
    refine jq_bipush (v := (45 : Int32)) dX9_entry_94 hC (by decide) ?_
    refine jq_bipush (v := (45 : Int32)) dX9_entry_96 hC (by decide) ?_
    refine jq_callV (As := [.int (45 : Int32), .int (45 : Int32)]) (rest := []) (n := 0) (o := 32) (D' := D_X9_sign) dX9_entry_98 hC (cl_0 (by decide)) rfl rfl rfl (mt_X9_sign h) gX9_entry_X9_sign rfl ⟨rfl, rfl, Nat.le_of_ble_eq_true rfl, Nat.le_of_ble_eq_true rfl⟩ nm_X9_sign rfl (Nat.le_of_ble_eq_true rfl) (kI fun r98 w98 h => ?_)
    refine jq_istore_n (L' := [(3, .int r98), (2, .int (r86 - (48 : Int32))), (0, .ref (aD G 0 32)), (1, .int x1)]) dX9_entry_101 hC rfl (by decide) rfl ?_
    refine jq_aload_n (k0 := 2) dX9_entry_102 hC rfl rfl ?_
    refine jq_bipush (v := (48 : Int32)) dX9_entry_103 hC (by decide) ?_
    refine jq_bipush (v := (57 : Int32)) dX9_entry_105 hC (by decide) ?_
    refine jq_callV (As := [.int (48 : Int32), .int (57 : Int32)]) (rest := []) (n := 0) (o := 32) (D' := D_X9_sign) dX9_entry_107 hC (cl_0 (by decide)) rfl rfl rfl (mt_X9_sign h) gX9_entry_X9_sign rfl ⟨rfl, rfl, Nat.le_of_ble_eq_true rfl, Nat.le_of_ble_eq_true rfl⟩ nm_X9_sign rfl (Nat.le_of_ble_eq_true rfl) (kI fun r107 w107 h => ?_)
    refine jq_bipush (v := (48 : Int32)) dX9_entry_110 hC (by decide) ?_
    refine jq_isub dX9_entry_112 hC ?_
    refine jq_istore (L' := [(4, .int (r107 - (48 : Int32))), (3, .int r98), (2, .int (r86 - (48 : Int32))), (0, .ref (aD G 0 32)), (1, .int x1)]) dX9_entry_113 hC (by decide) rfl ?_
    refine jq_aload_n (k0 := 3) dX9_entry_115 hC rfl rfl ?_
    refine jq_bipush (v := (58 : Int32)) dX9_entry_116 hC (by decide) ?_
    refine jq_bipush (v := (58 : Int32)) dX9_entry_118 hC (by decide) ?_
    refine jq_callV (As := [.int (58 : Int32), .int (58 : Int32)]) (rest := []) (n := 0) (o := 32) (D' := D_X9_sign) dX9_entry_120 hC (cl_0 (by decide)) rfl rfl rfl (mt_X9_sign h) gX9_entry_X9_sign rfl ⟨rfl, rfl, Nat.le_of_ble_eq_true rfl, Nat.le_of_ble_eq_true rfl⟩ nm_X9_sign rfl (Nat.le_of_ble_eq_true rfl) (kI fun r120 w120 h => ?_)
    refine jq_istore_n (L' := [(3, .int r120), (4, .int (r107 - (48 : Int32))), (2, .int (r86 - (48 : Int32))), (0, .ref (aD G 0 32)), (1, .int x1)]) dX9_entry_123 hC rfl (by decide) rfl ?_
    refine jq_aload_n (k0 := 3) dX9_entry_124 hC rfl rfl ?_
    refine jq_get (k0 := 23) (n := 0) (o := 32) dX9_entry_125 hC (cl_0 (by decide)) rfl rfl hi_X9_entry_X9 (by decide) hl_X9_entry_198 rfl rfl ?_
    refine jq_if_ne (tgt := 146) dX9_entry_128 hC (by decide) (fun c128 => ?_) (fun c128 => ?_)
    · have h := h.1 c128
      refine jq_less (L' := [(0, .ref (aD G 0 32)), (1, .int x1), (2, .int (r86 - (48 : Int32))), (4, .int (r107 - (48 : Int32)))]) [3, 4, 2, 1] rfl ?_
      exact ok_X9_entry_J146 hC he h
    · have h := h.2 c128
      refine jq_aload_n (k0 := 3) dX9_entry_131 hC rfl rfl ?_
      refine jq_bipush (v := (45 : Int32)) dX9_entry_132 hC (by decide) ?_
      refine jq_bipush (v := (45 : Int32)) dX9_entry_134 hC (by decide) ?_
      refine jq_callV (As := [.int (45 : Int32), .int (45 : Int32)]) (rest := []) (n := 0) (o := 32) (D' := D_X9_isNext) dX9_entry_136 hC (cl_0 (by decide)) rfl rfl rfl (mt_X9_isNext h) gX9_entry_X9_isNext rfl ⟨rfl, rfl, Nat.le_of_ble_eq_true rfl, Nat.le_of_ble_eq_true rfl⟩ nm_X9_isNext rfl (Nat.le_of_ble_eq_true rfl) (kIp fun r136 h => ?_)
      refine jq_if_eq (tgt := 146) dX9_entry_139 hC (by decide) (fun c139 => ?_) (fun c139 => ?_)
      · have h := h.1 c139
        refine jq_less (L' := [(0, .ref (aD G 0 32)), (1, .int x1), (2, .int (r86 - (48 : Int32))), (4, .int (r107 - (48 : Int32)))]) [3, 4, 2, 1] rfl ?_
        exact ok_X9_entry_J146 hC he h
      · have h := h.2 c139
        refine jq_iconst (v := (1 : Int32)) dX9_entry_142 hC (by decide) ?_
        refine jq_goto (tgt := 147) dX9_entry_143 hC (by decide) ?_
        refine jq_less (L' := [(0, .ref (aD G 0 32)), (1, .int x1), (2, .int (r86 - (48 : Int32))), (4, .int (r107 - (48 : Int32)))]) [3, 4, 2, 1] rfl ?_
        exact ok_X9_entry_J147 hC he h
  · have h := h.2 c8
    refine jq_aload_n (k0 := 0) dX9_entry_11 hC rfl rfl ?_
    refine jq_bipush (v := (109 : Int32)) dX9_entry_12 hC (by decide) ?_
    refine jq_bipush (v := (109 : Int32)) dX9_entry_14 hC (by decide) ?_
    refine jq_callV (As := [.int (109 : Int32), .int (109 : Int32)]) (rest := []) (n := 0) (o := 32) (D' := D_X9_sign) dX9_entry_16 hC (cl_0 (by decide)) rfl rfl rfl (mt_X9_sign h) gX9_entry_X9_sign rfl ⟨rfl, rfl, Nat.le_of_ble_eq_true rfl, Nat.le_of_ble_eq_true rfl⟩ nm_X9_sign rfl (Nat.le_of_ble_eq_true rfl) (kI fun r16 w16 h => ?_)
    refine jq_istore_n (L' := [(2, .int r16), (0, .ref (aD G 0 32)), (1, .int x1)]) dX9_entry_19 hC rfl (by decide) rfl ?_
    refine jq_aload_n (k0 := 1) dX9_entry_20 hC rfl rfl ?_
    refine jq_bipush (v := (48 : Int32)) dX9_entry_21 hC (by decide) ?_
    refine jq_bipush (v := (57 : Int32)) dX9_entry_23 hC (by decide) ?_
    refine jq_callV (As := [.int (48 : Int32), .int (57 : Int32)]) (rest := []) (n := 0) (o := 32) (D' := D_X9_isNext) dX9_entry_25 hC (cl_0 (by decide)) rfl rfl rfl (mt_X9_isNext h) gX9_entry_X9_isNext rfl ⟨rfl, rfl, Nat.le_of_ble_eq_true rfl, Nat.le_of_ble_eq_true rfl⟩ nm_X9_isNext rfl (Nat.le_of_ble_eq_true rfl) (kIp fun r25 h => ?_)
    refine jq_if_eq (tgt := 41) dX9_entry_28 hC (by decide) (fun c28 => ?_) (fun c28 => ?_)
    · have h := h.1 c28
      refine jq_iconst (v := (-1 : Int32)) dX9_entry_41 hC (by decide) ?_
      refine jq_less (L' := [(0, .ref (aD G 0 32)), (1, .int x1)]) [1, 2] rfl ?_
      exact ok_X9_entry_J42 hC he h
    · have h := h.2 c28
      refine jq_aload_n (k0 := 1) dX9_entry_31 hC rfl rfl ?_
      refine jq_iconst (v := (0 : Int32)) dX9_entry_32 hC (by decide) ?_
      refine jq_ldc (v := (99999 : Int32)) dX9_entry_33 hC (by decide +kernel) ?_
      refine jq_callV (As := [.int (0 : Int32), .int (99999 : Int32)]) (rest := []) (n := 0) (o := 32) (D' := D_X9_number) dX9_entry_35 hC (cl_0 (by decide)) rfl rfl rfl (mt_X9_number h) gX9_entry_X9_number rfl ⟨rfl, rfl, Nat.le_of_ble_eq_true rfl, Nat.le_of_ble_eq_true rfl⟩ nm_X9_number rfl (Nat.le_of_ble_eq_true rfl) (kI fun r35 w35 h => ?_)
      refine jq_goto (tgt := 42) dX9_entry_38 hC (by decide) ?_
      refine jq_less (L' := [(0, .ref (aD G 0 32)), (1, .int x1)]) [1, 2] rfl ?_
      exact ok_X9_entry_J42 hC he h
theorem mt_X9_entry {G : Gt} {x1 : Int32} {w : Wd} {Q : Int32 → Wd → Prop} (h : wp_X9_entry x1 w Q) : Mt G D_X9_entry [.ref (aD G 0 32), .int x1] w (qi Q) := Mt_of (by decide +kernel) rfl rfl (Nat.le_of_ble_eq_true rfl) (fun M Qf hC he => ok_X9_entry hC he h)
/-! X9.goThrough(Z)I -/
theorem dX9_goThrough_0 : decode cX9_goThrough 0 = .ok (.aload_n 0, 1) := by decide +kernel
theorem dX9_goThrough_1 : decode cX9_goThrough 1 = .ok (.iconst 0, 1) := by decide +kernel
theorem dX9_goThrough_2 : decode cX9_goThrough 2 = .ok (.putfield 195, 3) := by decide +kernel
theorem dX9_goThrough_5 : decode cX9_goThrough 5 = .ok (.aload_n 0, 1) := by decide +kernel
theorem dX9_goThrough_6 : decode cX9_goThrough 6 = .ok (.iconst 0, 1) := by decide +kernel
theorem dX9_goThrough_7 : decode cX9_goThrough 7 = .ok (.putfield 198, 3) := by decide +kernel
theorem dX9_goThrough_10 : decode cX9_goThrough 10 = .ok (.iconst 0, 1) := by decide +kernel
theorem dX9_goThrough_11 : decode cX9_goThrough 11 = .ok (.istore_n 2, 1) := by decide +kernel
theorem dX9_goThrough_12 : decode cX9_goThrough 12 = .ok (.iconst 1, 1) := by decide +kernel
theorem dX9_goThrough_13 : decode cX9_goThrough 13 = .ok (.istore_n 3, 1) := by decide +kernel
theorem dX9_goThrough_14 : decode cX9_goThrough 14 = .ok (.iload_n 3, 1) := by decide +kernel
theorem dX9_goThrough_15 : decode cX9_goThrough 15 = .ok (.ifCond .eq 86, 3) := by decide +kernel
theorem dX9_goThrough_18 : decode cX9_goThrough 18 = .ok (.aload_n 0, 1) := by decide +kernel
theorem dX9_goThrough_19 : decode cX9_goThrough 19 = .ok (.iload_n 1, 1) := by decide +kernel
theorem dX9_goThrough_20 : decode cX9_goThrough 20 = .ok (.invokevirtual 211, 3) := by decide +kernel
theorem dX9_goThrough_23 : decode cX9_goThrough 23 = .ok (.istore 4, 2) := by decide +kernel
theorem dX9_goThrough_25 : decode cX9_goThrough 25 = .ok (.iload_n 2, 1) := by decide +kernel
theorem dX9_goThrough_26 : decode cX9_goThrough 26 = .ok (.iload 4, 2) := by decide +kernel
theorem dX9_goThrough_28 : decode cX9_goThrough 28 = .ok (.ifCond .eq 7, 3) := by decide +kernel
theorem dX9_goThrough_31 : decode cX9_goThrough 31 = .ok (.iconst 1, 1) := by decide +kernel
theorem dX9_goThrough_32 : decode cX9_goThrough 32 = .ok (.goto 4, 3) := by decide +kernel
theorem dX9_goThrough_35 : decode cX9_goThrough 35 = .ok (.iconst 0, 1) := by decide +kernel
theorem dX9_goThrough_36 : decode cX9_goThrough 36 = .ok (.iadd, 1) := by decide +kernel
theorem dX9_goThrough_37 : decode cX9_goThrough 37 = .ok (.istore_n 2, 1) := by decide +kernel
theorem dX9_goThrough_38 : decode cX9_goThrough 38 = .ok (.aload_n 0, 1) := by decide +kernel
theorem dX9_goThrough_39 : decode cX9_goThrough 39 = .ok (.getfield 198, 3) := by decide +kernel
theorem dX9_goThrough_42 : decode cX9_goThrough 42 = .ok (.ifCond .ne 27, 3) := by decide +kernel
theorem dX9_goThrough_45 : decode cX9_goThrough 45 = .ok (.iload 4, 2) := by decide +kernel
theorem dX9_goThrough_47 : decode cX9_goThrough 47 = .ok (.ifCond .ne 7, 3) := by decide +kernel
theorem dX9_goThrough_50 : decode cX9_goThrough 50 = .ok (.iload_n 1, 1) := by decide +kernel
theorem dX9_goThrough_51 : decode cX9_goThrough 51 = .ok (.ifCond .ne 18, 3) := by decide +kernel
theorem dX9_goThrough_54 : decode cX9_goThrough 54 = .ok (.aload_n 0, 1) := by decide +kernel
theorem dX9_goThrough_55 : decode cX9_goThrough 55 = .ok (.getfield 195, 3) := by decide +kernel
theorem dX9_goThrough_58 : decode cX9_goThrough 58 = .ok (.aload_n 0, 1) := by decide +kernel
theorem dX9_goThrough_59 : decode cX9_goThrough 59 = .ok (.getfield 192, 3) := by decide +kernel
theorem dX9_goThrough_62 : decode cX9_goThrough 62 = .ok (.if_icmp .ge 7, 3) := by decide +kernel
theorem dX9_goThrough_65 : decode cX9_goThrough 65 = .ok (.iconst 1, 1) := by decide +kernel
theorem dX9_goThrough_66 : decode cX9_goThrough 66 = .ok (.goto 4, 3) := by decide +kernel
theorem dX9_goThrough_69 : decode cX9_goThrough 69 = .ok (.iconst 0, 1) := by decide +kernel
theorem dX9_goThrough_70 : decode cX9_goThrough 70 = .ok (.istore_n 3, 1) := by decide +kernel
theorem dX9_goThrough_71 : decode cX9_goThrough 71 = .ok (.iload_n 3, 1) := by decide +kernel
theorem dX9_goThrough_72 : decode cX9_goThrough 72 = .ok (.ifCond .eq 26, 3) := by decide +kernel
theorem dX9_goThrough_75 : decode cX9_goThrough 75 = .ok (.aload_n 0, 1) := by decide +kernel
theorem dX9_goThrough_76 : decode cX9_goThrough 76 = .ok (.bipush 59, 2) := by decide +kernel
theorem dX9_goThrough_78 : decode cX9_goThrough 78 = .ok (.bipush 59, 2) := by decide +kernel
theorem dX9_goThrough_80 : decode cX9_goThrough 80 = .ok (.invokevirtual 202, 3) := by decide +kernel
theorem dX9_goThrough_83 : decode cX9_goThrough 83 = .ok (.istore 5, 2) := by decide +kernel
theorem dX9_goThrough_85 : decode cX9_goThrough 85 = .ok (.aload_n 0, 1) := by decide +kernel
theorem dX9_goThrough_86 : decode cX9_goThrough 86 = .ok (.getfield 198, 3) := by decide +kernel
theorem dX9_goThrough_89 : decode cX9_goThrough 89 = .ok (.ifCond .ne 7, 3) := by decide +kernel
theorem dX9_goThrough_92 : decode cX9_goThrough 92 = .ok (.iconst 1, 1) := by decide +kernel
theorem dX9_goThrough_93 : decode cX9_goThrough 93 = .ok (.goto 4, 3) := by decide +kernel
theorem dX9_goThrough_96 : decode cX9_goThrough 96 = .ok (.iconst 0, 1) := by decide +kernel
theorem dX9_goThrough_97 : decode cX9_goThrough 97 = .ok (.istore_n 3, 1) := by decide +kernel
theorem dX9_goThrough_98 : decode cX9_goThrough 98 = .ok (.goto (-84), 3) := by decide +kernel
theorem dX9_goThrough_101 : decode cX9_goThrough 101 = .ok (.iload_n 2, 1) := by decide +kernel
theorem dX9_goThrough_102 : decode cX9_goThrough 102 = .ok (.ireturn, 1) := by decide +kernel
set_option maxRecDepth 20000 in
theorem ggX9_goThrough_X9_sign : GoodIn wsX9_goThrough wsX9_sign := goodIn_r _ [21, 1, 3, 14, 2, 15, 16, 7, 17, 50, 51, 52, 53, 54, 55, 56, 57, 58, 59, 60, 61, 62, 63, 64, 65, 66, 67, 68, 69, 70, 71, 72, 73, 74] (by decide +kernel) (by decide +kernel)
set_option maxRecDepth 20000 in
theorem gX9_goThrough_X9_sign : GoodIn wsX9_goThrough (wsV RX9 202 RX9 yX9_sign wsX9_sign) := goodIn_app (goodIn_of _ (by decide +kernel)) ggX9_goThrough_X9_sign
set_option maxRecDepth 20000 in
theorem ggX9_goThrough_X9_entry : GoodIn wsX9_goThrough wsX9_entry := goodIn_r _ [8, 9, 2, 10, 11, 12, 7, 13, 1, 3, 14, 15, 16, 17, 18, 19, 20, 21, 22, 23, 24, 25, 26, 27, 28, 29, 30, 31, 32, 33, 34, 35, 36, 37, 38, 39, 40, 41, 42, 43, 44, 45, 46, 47, 48, 49, 50, 51, 52, 53, 54, 55, 56, 57, 58, 59, 60, 61, 62, 63, 64, 65, 66, 67, 68, 69, 70, 71, 72, 73, 74] (by decide +kernel) (by decide +kernel)
set_option maxRecDepth 20000 in
theorem gX9_goThrough_X9_entry : GoodIn wsX9_goThrough (wsV RX9 211 RX9 yX9_entry wsX9_entry) := goodIn_app (goodIn_of _ (by decide +kernel)) ggX9_goThrough_X9_entry
def D_X9_goThrough : Md := (yX9_goThrough, cX9_goThrough, 6, (some .int), wsX9_goThrough, RX9, { frames := 4, cells := 0, slots := 0, locals := 97 })
theorem nm_X9_goThrough : nmD D_X9_goThrough 1 := ⟨rfl, by decide +kernel, by decide +kernel, by decide +kernel⟩
theorem hi_X9_goThrough_X9 : ∀ w ∈ u_ws RX9 TX9 25, w ∈ wsX9_goThrough := by decide +kernel
theorem hl_X9_goThrough_192 : Cond.fieldLink RX9 192 "LevelLoopsModel" "length" "I" ∈ wsX9_goThrough := by decide +kernel
theorem hl_X9_goThrough_195 : Cond.fieldLink RX9 195 "LevelLoopsModel" "at" "I" ∈ wsX9_goThrough := by decide +kernel
theorem hl_X9_goThrough_198 : Cond.fieldLink RX9 198 "LevelLoopsModel" "isWrong" "Z" ∈ wsX9_goThrough := by decide +kernel
def wp_X9_goThrough_J97 (x1 : Int32) (x2 : Int32) (s0 : Int32) (w : Wd) (Q : Int32 → Wd → Prop) (K14 : Int32 → Int32 → Wd → Prop) : Prop :=
  K14 x2 s0 w
def wp_X9_goThrough_J70 (x1 : Int32) (x2 : Int32) (s0 : Int32) (w : Wd) (Q : Int32 → Wd → Prop) (K14 : Int32 → Int32 → Wd → Prop) : Prop :=
  ((s0 = 0 → K14 x2 s0 w) ∧ (¬ s0 = 0 → wp_X9_sign (59 : Int32) (59 : Int32) w (fun r80 w80 => ((¬ (wi w80 0 32 23) = 0 → wp_X9_goThrough_J97 x1 x2 (0 : Int32) w80 Q K14) ∧ ((wi w80 0 32 23) = 0 → wp_X9_goThrough_J97 x1 x2 (1 : Int32) w80 Q K14)))))
def wp_X9_goThrough_J69 (x1 : Int32) (x2 : Int32) (w : Wd) (Q : Int32 → Wd → Prop) (K14 : Int32 → Int32 → Wd → Prop) : Prop :=
  wp_X9_goThrough_J70 x1 x2 (0 : Int32) w Q K14
def wp_X9_goThrough_J54 (x1 : Int32) (x2 : Int32) (w : Wd) (Q : Int32 → Wd → Prop) (K14 : Int32 → Int32 → Wd → Prop) : Prop :=
  (((wi w 0 32 6) ≤ (wi w 0 32 22) → wp_X9_goThrough_J69 x1 x2 w Q K14) ∧ (¬ (wi w 0 32 6) ≤ (wi w 0 32 22) → wp_X9_goThrough_J70 x1 x2 (1 : Int32) w Q K14))
def wp_X9_goThrough_J36 (x1 : Int32) (x4 : Int32) (s0 : Int32) (s1 : Int32) (w : Wd) (Q : Int32 → Wd → Prop) (K14 : Int32 → Int32 → Wd → Prop) : Prop :=
  ((¬ (wi w 0 32 23) = 0 → wp_X9_goThrough_J69 x1 (s1 + s0) w Q K14) ∧ ((wi w 0 32 23) = 0 → ((¬ x4 = 0 → wp_X9_goThrough_J54 x1 (s1 + s0) w Q K14) ∧ (x4 = 0 → ((¬ x1 = 0 → wp_X9_goThrough_J69 x1 (s1 + s0) w Q K14) ∧ (x1 = 0 → wp_X9_goThrough_J54 x1 (s1 + s0) w Q K14))))))
def wp_X9_goThrough_B14 (x1 : Int32) (x2 : Int32) (x3 : Int32) (w : Wd) (Q : Int32 → Wd → Prop) (K14 : Int32 → Int32 → Wd → Prop) : Prop :=
  ((x3 = 0 → Q x2 w) ∧ (¬ x3 = 0 → wp_X9_entry x1 w (fun r20 w20 => ((r20 = 0 → wp_X9_goThrough_J36 x1 r20 (0 : Int32) x2 w20 Q K14) ∧ (¬ r20 = 0 → wp_X9_goThrough_J36 x1 r20 (1 : Int32) x2 w20 Q K14)))))
def wp_X9_goThrough_L14 (x1 : Int32) (x2 : Int32) (x3 : Int32) (w : Wd) (Q : Int32 → Wd → Prop) : Prop :=
  ∃ (I : Int32 → Int32 → Wd → Prop) (μ : Int32 → Int32 → Wd → Nat), I x2 x3 w ∧ ∀ (x2 : Int32) (x3 : Int32) (w : Wd), I x2 x3 w → wp_X9_goThrough_B14 x1 x2 x3 w Q (fun x2' x3' w' => I x2' x3' w' ∧ μ x2' x3' w' < μ x2 x3 w)
def wp_X9_goThrough (x1 : Int32) (w : Wd) (Q : Int32 → Wd → Prop) : Prop :=
  (∀ w2 : Wd, w2 = (sI w 0 32 22 (0 : Int32)) → zb (0 : Int32) ∧ (∀ w7 : Wd, w7 = (sI w2 0 32 23 (0 : Int32)) → wp_X9_goThrough_L14 x1 (0 : Int32) (1 : Int32) w7 Q))
theorem ok_X9_goThrough_J97 {G : Gt} {M : Mx} {Qf : State → Prop} {x1 : Int32} {x2 : Int32} {s0 : Int32} {w : Wd} {Q : Int32 → Wd → Prop} {K14 : Int32 → Int32 → Wd → Prop} (hC : cx G D_X9_goThrough M) (he : en G M (qi Q) Qf) (h : wp_X9_goThrough_J97 x1 x2 s0 w Q K14) (hK14 : ∀ (x2 : Int32) (x3 : Int32) (w : Wd), K14 x2 x3 w → jq G D_X9_goThrough M Qf 14 [(0, .ref (aD G 0 32)), (1, .int x1), (2, .int x2), (3, .int x3)] [] w) : jq G D_X9_goThrough M Qf 97 [(0, .ref (aD G 0 32)), (1, .int x1), (2, .int x2)] [.int s0] w := by
  unfold wp_X9_goThrough_J97 at h
  refine jq_istore_n (L' := [(3, .int s0), (0, .ref (aD G 0 32)), (1, .int x1), (2, .int x2)]) dX9_goThrough_97 hC rfl (by decide) rfl ?_
  refine jq_goto (tgt := 14) dX9_goThrough_98 hC (by decide) ?_
  exact jq_less (L' := [(0, .ref (aD G 0 32)), (1, .int x1), (2, .int x2), (3, .int s0)]) [1, 2, 3, 0] rfl (hK14 _ _ _ h)
theorem ok_X9_goThrough_J70 {G : Gt} {M : Mx} {Qf : State → Prop} {x1 : Int32} {x2 : Int32} {s0 : Int32} {w : Wd} {Q : Int32 → Wd → Prop} {K14 : Int32 → Int32 → Wd → Prop} (hC : cx G D_X9_goThrough M) (he : en G M (qi Q) Qf) (h : wp_X9_goThrough_J70 x1 x2 s0 w Q K14) (hK14 : ∀ (x2 : Int32) (x3 : Int32) (w : Wd), K14 x2 x3 w → jq G D_X9_goThrough M Qf 14 [(0, .ref (aD G 0 32)), (1, .int x1), (2, .int x2), (3, .int x3)] [] w) : jq G D_X9_goThrough M Qf 70 [(0, .ref (aD G 0 32)), (1, .int x1), (2, .int x2)] [.int s0] w := by
  unfold wp_X9_goThrough_J70 at h
  refine jq_istore_n (L' := [(3, .int s0), (0, .ref (aD G 0 32)), (1, .int x1), (2, .int x2)]) dX9_goThrough_70 hC rfl (by decide) rfl ?_
  refine jq_iload_n (k0 := 0) dX9_goThrough_71 hC rfl rfl ?_
  refine jq_if_eq (tgt := 98) dX9_goThrough_72 hC (by decide) (fun c72 => ?_) (fun c72 => ?_)
  · have h := h.1 c72
    refine jq_goto (tgt := 14) dX9_goThrough_98 hC (by decide) ?_
    exact jq_less (L' := [(0, .ref (aD G 0 32)), (1, .int x1), (2, .int x2), (3, .int s0)]) [1, 2, 3, 0] rfl (hK14 _ _ _ h)
  · have h := h.2 c72
    refine jq_aload_n (k0 := 1) dX9_goThrough_75 hC rfl rfl ?_
    refine jq_bipush (v := (59 : Int32)) dX9_goThrough_76 hC (by decide) ?_
    refine jq_bipush (v := (59 : Int32)) dX9_goThrough_78 hC (by decide) ?_
    refine jq_callV (As := [.int (59 : Int32), .int (59 : Int32)]) (rest := []) (n := 0) (o := 32) (D' := D_X9_sign) dX9_goThrough_80 hC (cl_0 (by decide)) rfl rfl rfl (mt_X9_sign h) gX9_goThrough_X9_sign rfl ⟨rfl, rfl, Nat.le_of_ble_eq_true rfl, Nat.le_of_ble_eq_true rfl⟩ nm_X9_sign rfl (Nat.le_of_ble_eq_true rfl) (kI fun r80 w80 h => ?_)
    refine jq_istore (L' := [(5, .int r80), (3, .int s0), (0, .ref (aD G 0 32)), (1, .int x1), (2, .int x2)]) dX9_goThrough_83 hC (by decide) rfl ?_
    refine jq_aload_n (k0 := 2) dX9_goThrough_85 hC rfl rfl ?_
    refine jq_get (k0 := 23) (n := 0) (o := 32) dX9_goThrough_86 hC (cl_0 (by decide)) rfl rfl hi_X9_goThrough_X9 (by decide) hl_X9_goThrough_198 rfl rfl ?_
    refine jq_if_ne (tgt := 96) dX9_goThrough_89 hC (by decide) (fun c89 => ?_) (fun c89 => ?_)
    · have h := h.1 c89
      refine jq_iconst (v := (0 : Int32)) dX9_goThrough_96 hC (by decide) ?_
      refine jq_less (L' := [(0, .ref (aD G 0 32)), (1, .int x1), (2, .int x2)]) [2, 3, 4] rfl ?_
      exact ok_X9_goThrough_J97 hC he h hK14
    · have h := h.2 c89
      refine jq_iconst (v := (1 : Int32)) dX9_goThrough_92 hC (by decide) ?_
      refine jq_goto (tgt := 97) dX9_goThrough_93 hC (by decide) ?_
      refine jq_less (L' := [(0, .ref (aD G 0 32)), (1, .int x1), (2, .int x2)]) [2, 3, 4] rfl ?_
      exact ok_X9_goThrough_J97 hC he h hK14
theorem ok_X9_goThrough_J69 {G : Gt} {M : Mx} {Qf : State → Prop} {x1 : Int32} {x2 : Int32} {w : Wd} {Q : Int32 → Wd → Prop} {K14 : Int32 → Int32 → Wd → Prop} (hC : cx G D_X9_goThrough M) (he : en G M (qi Q) Qf) (h : wp_X9_goThrough_J69 x1 x2 w Q K14) (hK14 : ∀ (x2 : Int32) (x3 : Int32) (w : Wd), K14 x2 x3 w → jq G D_X9_goThrough M Qf 14 [(0, .ref (aD G 0 32)), (1, .int x1), (2, .int x2), (3, .int x3)] [] w) : jq G D_X9_goThrough M Qf 69 [(0, .ref (aD G 0 32)), (1, .int x1), (2, .int x2)] [] w := by
  unfold wp_X9_goThrough_J69 at h
  refine jq_iconst (v := (0 : Int32)) dX9_goThrough_69 hC (by decide) ?_
  refine jq_less (L' := [(0, .ref (aD G 0 32)), (1, .int x1), (2, .int x2)]) [0, 1, 2] rfl ?_
  exact ok_X9_goThrough_J70 hC he h hK14
theorem ok_X9_goThrough_J54 {G : Gt} {M : Mx} {Qf : State → Prop} {x1 : Int32} {x2 : Int32} {w : Wd} {Q : Int32 → Wd → Prop} {K14 : Int32 → Int32 → Wd → Prop} (hC : cx G D_X9_goThrough M) (he : en G M (qi Q) Qf) (h : wp_X9_goThrough_J54 x1 x2 w Q K14) (hK14 : ∀ (x2 : Int32) (x3 : Int32) (w : Wd), K14 x2 x3 w → jq G D_X9_goThrough M Qf 14 [(0, .ref (aD G 0 32)), (1, .int x1), (2, .int x2), (3, .int x3)] [] w) : jq G D_X9_goThrough M Qf 54 [(0, .ref (aD G 0 32)), (1, .int x1), (2, .int x2)] [] w := by
  unfold wp_X9_goThrough_J54 at h
  refine jq_aload_n (k0 := 0) dX9_goThrough_54 hC rfl rfl ?_
  refine jq_get (k0 := 22) (n := 0) (o := 32) dX9_goThrough_55 hC (cl_0 (by decide)) rfl rfl hi_X9_goThrough_X9 (by decide) hl_X9_goThrough_195 rfl rfl ?_
  refine jq_aload_n (k0 := 0) dX9_goThrough_58 hC rfl rfl ?_
  refine jq_get (k0 := 6) (n := 0) (o := 32) dX9_goThrough_59 hC (cl_0 (by decide)) rfl rfl hi_X9_goThrough_X9 (by decide) hl_X9_goThrough_192 rfl rfl ?_
  refine jq_icmp_ge (tgt := 69) dX9_goThrough_62 hC (by decide) (fun c62 => ?_) (fun c62 => ?_)
  · have h := h.1 c62
    refine jq_less (L' := [(0, .ref (aD G 0 32)), (1, .int x1), (2, .int x2)]) [0, 1, 2] rfl ?_
    exact ok_X9_goThrough_J69 hC he h hK14
  · have h := h.2 c62
    refine jq_iconst (v := (1 : Int32)) dX9_goThrough_65 hC (by decide) ?_
    refine jq_goto (tgt := 70) dX9_goThrough_66 hC (by decide) ?_
    refine jq_less (L' := [(0, .ref (aD G 0 32)), (1, .int x1), (2, .int x2)]) [0, 1, 2] rfl ?_
    exact ok_X9_goThrough_J70 hC he h hK14
theorem ok_X9_goThrough_J36 {G : Gt} {M : Mx} {Qf : State → Prop} {x1 : Int32} {x4 : Int32} {s0 : Int32} {s1 : Int32} {w : Wd} {Q : Int32 → Wd → Prop} {K14 : Int32 → Int32 → Wd → Prop} (hC : cx G D_X9_goThrough M) (he : en G M (qi Q) Qf) (h : wp_X9_goThrough_J36 x1 x4 s0 s1 w Q K14) (hK14 : ∀ (x2 : Int32) (x3 : Int32) (w : Wd), K14 x2 x3 w → jq G D_X9_goThrough M Qf 14 [(0, .ref (aD G 0 32)), (1, .int x1), (2, .int x2), (3, .int x3)] [] w) : jq G D_X9_goThrough M Qf 36 [(0, .ref (aD G 0 32)), (1, .int x1), (4, .int x4)] [.int s0, .int s1] w := by
  unfold wp_X9_goThrough_J36 at h
  refine jq_iadd dX9_goThrough_36 hC ?_
  refine jq_istore_n (L' := [(2, .int (s1 + s0)), (0, .ref (aD G 0 32)), (1, .int x1), (4, .int x4)]) dX9_goThrough_37 hC rfl (by decide) rfl ?_
  refine jq_aload_n (k0 := 1) dX9_goThrough_38 hC rfl rfl ?_
  refine jq_get (k0 := 23) (n := 0) (o := 32) dX9_goThrough_39 hC (cl_0 (by decide)) rfl rfl hi_X9_goThrough_X9 (by decide) hl_X9_goThrough_198 rfl rfl ?_
  refine jq_if_ne (tgt := 69) dX9_goThrough_42 hC (by decide) (fun c42 => ?_) (fun c42 => ?_)
  · have h := h.1 c42
    refine jq_less (L' := [(0, .ref (aD G 0 32)), (1, .int x1), (2, .int (s1 + s0))]) [1, 2, 0] rfl ?_
    exact ok_X9_goThrough_J69 hC he h hK14
  · have h := h.2 c42
    refine jq_iload (k0 := 3) dX9_goThrough_45 hC rfl ?_
    refine jq_if_ne (tgt := 54) dX9_goThrough_47 hC (by decide) (fun c47 => ?_) (fun c47 => ?_)
    · have h := h.1 c47
      refine jq_less (L' := [(0, .ref (aD G 0 32)), (1, .int x1), (2, .int (s1 + s0))]) [1, 2, 0] rfl ?_
      exact ok_X9_goThrough_J54 hC he h hK14
    · have h := h.2 c47
      refine jq_iload_n (k0 := 2) dX9_goThrough_50 hC rfl rfl ?_
      refine jq_if_ne (tgt := 69) dX9_goThrough_51 hC (by decide) (fun c51 => ?_) (fun c51 => ?_)
      · have h := h.1 c51
        refine jq_less (L' := [(0, .ref (aD G 0 32)), (1, .int x1), (2, .int (s1 + s0))]) [1, 2, 0] rfl ?_
        exact ok_X9_goThrough_J69 hC he h hK14
      · have h := h.2 c51
        refine jq_less (L' := [(0, .ref (aD G 0 32)), (1, .int x1), (2, .int (s1 + s0))]) [1, 2, 0] rfl ?_
        exact ok_X9_goThrough_J54 hC he h hK14
theorem ok_X9_goThrough_B14 {G : Gt} {M : Mx} {Qf : State → Prop} {x1 : Int32} {x2 : Int32} {x3 : Int32} {w : Wd} {Q : Int32 → Wd → Prop} {K14 : Int32 → Int32 → Wd → Prop} (hC : cx G D_X9_goThrough M) (he : en G M (qi Q) Qf) (h : wp_X9_goThrough_B14 x1 x2 x3 w Q K14) (hK14 : ∀ (x2 : Int32) (x3 : Int32) (w : Wd), K14 x2 x3 w → jq G D_X9_goThrough M Qf 14 [(0, .ref (aD G 0 32)), (1, .int x1), (2, .int x2), (3, .int x3)] [] w) : jq G D_X9_goThrough M Qf 14 [(0, .ref (aD G 0 32)), (1, .int x1), (2, .int x2), (3, .int x3)] [] w := by
  unfold wp_X9_goThrough_B14 at h
  refine jq_iload_n (k0 := 3) dX9_goThrough_14 hC rfl rfl ?_
  refine jq_if_eq (tgt := 101) dX9_goThrough_15 hC (by decide) (fun c15 => ?_) (fun c15 => ?_)
  · have h := h.1 c15
    refine jq_iload_n (k0 := 2) dX9_goThrough_101 hC rfl rfl ?_
    exact jq_iret dX9_goThrough_102 hC he rfl ⟨_, rfl, h⟩
  · have h := h.2 c15
    refine jq_aload_n (k0 := 0) dX9_goThrough_18 hC rfl rfl ?_
    refine jq_iload_n (k0 := 1) dX9_goThrough_19 hC rfl rfl ?_
    refine jq_callV (As := [.int x1]) (rest := []) (n := 0) (o := 32) (D' := D_X9_entry) dX9_goThrough_20 hC (cl_0 (by decide)) rfl rfl rfl (mt_X9_entry h) gX9_goThrough_X9_entry rfl ⟨rfl, rfl, Nat.le_of_ble_eq_true rfl, Nat.le_of_ble_eq_true rfl⟩ nm_X9_entry rfl (Nat.le_of_ble_eq_true rfl) (kI fun r20 w20 h => ?_)
    refine jq_istore (L' := [(4, .int r20), (0, .ref (aD G 0 32)), (1, .int x1), (2, .int x2), (3, .int x3)]) dX9_goThrough_23 hC (by decide) rfl ?_
    refine jq_iload_n (k0 := 3) dX9_goThrough_25 hC rfl rfl ?_
    refine jq_iload (k0 := 0) dX9_goThrough_26 hC rfl ?_
    refine jq_if_eq (tgt := 35) dX9_goThrough_28 hC (by decide) (fun c28 => ?_) (fun c28 => ?_)
    · have h := h.1 c28
      refine jq_iconst (v := (0 : Int32)) dX9_goThrough_35 hC (by decide) ?_
      refine jq_less (L' := [(0, .ref (aD G 0 32)), (1, .int x1), (4, .int r20)]) [1, 2, 0] rfl ?_
      exact ok_X9_goThrough_J36 hC he h hK14
    · have h := h.2 c28
      refine jq_iconst (v := (1 : Int32)) dX9_goThrough_31 hC (by decide) ?_
      refine jq_goto (tgt := 36) dX9_goThrough_32 hC (by decide) ?_
      refine jq_less (L' := [(0, .ref (aD G 0 32)), (1, .int x1), (4, .int r20)]) [1, 2, 0] rfl ?_
      exact ok_X9_goThrough_J36 hC he h hK14
theorem ok_X9_goThrough_L14 {G : Gt} {M : Mx} {Qf : State → Prop} {x1 : Int32} {x2 : Int32} {x3 : Int32} {w : Wd} {Q : Int32 → Wd → Prop} (hC : cx G D_X9_goThrough M) (he : en G M (qi Q) Qf) (h : wp_X9_goThrough_L14 x1 x2 x3 w Q) : jq G D_X9_goThrough M Qf 14 [(0, .ref (aD G 0 32)), (1, .int x1), (2, .int x2), (3, .int x3)] [] w := by
  unfold wp_X9_goThrough_L14 at h
  obtain ⟨I, μ, h0, hs⟩ := h
  exact lp_ind (σ := Int32 × Int32 × Wd) (P := fun s => jq G D_X9_goThrough M Qf 14 [(0, .ref (aD G 0 32)), (1, .int x1), (2, .int s.1), (3, .int s.2.1)] [] s.2.2) (fun s => I s.1 s.2.1 s.2.2) (fun s => μ s.1 s.2.1 s.2.2) (fun s h1 ih => ok_X9_goThrough_B14 hC he (hs s.1 s.2.1 s.2.2 h1) (fun x2' x3' w' h => ih (x2', x3', w') h.1 h.2)) (x2, x3, w) h0
theorem ok_X9_goThrough {G : Gt} {M : Mx} {Qf : State → Prop} {x1 : Int32} {w : Wd} {Q : Int32 → Wd → Prop} (hC : cx G D_X9_goThrough M) (he : en G M (qi Q) Qf) (h : wp_X9_goThrough x1 w Q) : jq G D_X9_goThrough M Qf 0 [(0, .ref (aD G 0 32)), (1, .int x1)] [] w := by
  unfold wp_X9_goThrough at h
  refine jq_aload_n (k0 := 0) dX9_goThrough_0 hC rfl rfl ?_
  refine jq_iconst (v := (0 : Int32)) dX9_goThrough_1 hC (by decide) ?_
  refine jq_put (k0 := 22) (n := 0) (o := 32) (ty := .int) (w' := (sI w 0 32 22 (0 : Int32))) dX9_goThrough_2 hC (cl_0 (by decide)) rfl rfl hi_X9_goThrough_X9 tyX9 tyX9_ok nmX9 (by decide) hl_X9_goThrough_195 rfl rfl (by decide +kernel) rfl rfl (Nat.le_of_ble_eq_true rfl) (e_32_22 G _ _ _) (fun c _ hne => ent_sA c hne) ?_
  refine jq_w (fun w2 e2 => ?_)
  have h := h w2 e2
  refine jq_aload_n (k0 := 0) dX9_goThrough_5 hC rfl rfl ?_
  refine jq_iconst (v := (0 : Int32)) dX9_goThrough_6 hC (by decide) ?_
  obtain ⟨b7, h⟩ := h
  refine jq_put (k0 := 23) (n := 0) (o := 32) (ty := .boolean) (w' := (sI w2 0 32 23 (0 : Int32))) dX9_goThrough_7 hC (cl_0 (by decide)) rfl rfl hi_X9_goThrough_X9 tyX9 tyX9_ok nmX9 (by decide) hl_X9_goThrough_198 rfl rfl (by decide +kernel) (by rcases b7 with e | e <;> rw [e] <;> rfl) (by rcases b7 with e | e <;> rw [e] <;> rfl) (Nat.le_of_ble_eq_true rfl) (e_32_23 G _ _ _) (fun c _ hne => ent_sA c hne) ?_
  refine jq_w (fun w7 e7 => ?_)
  have h := h w7 e7
  refine jq_iconst (v := (0 : Int32)) dX9_goThrough_10 hC (by decide) ?_
  refine jq_istore_n (L' := [(2, .int (0 : Int32)), (0, .ref (aD G 0 32)), (1, .int x1)]) dX9_goThrough_11 hC rfl (by decide) rfl ?_
  refine jq_iconst (v := (1 : Int32)) dX9_goThrough_12 hC (by decide) ?_
  refine jq_istore_n (L' := [(3, .int (1 : Int32)), (2, .int (0 : Int32)), (0, .ref (aD G 0 32)), (1, .int x1)]) dX9_goThrough_13 hC rfl (by decide) rfl ?_
  refine jq_less (L' := [(0, .ref (aD G 0 32)), (1, .int x1), (2, .int (0 : Int32)), (3, .int (1 : Int32))]) [2, 3, 1, 0] rfl ?_
  exact ok_X9_goThrough_L14 hC he h
theorem mt_X9_goThrough {G : Gt} {x1 : Int32} {w : Wd} {Q : Int32 → Wd → Prop} (h : wp_X9_goThrough x1 w Q) : Mt G D_X9_goThrough [.ref (aD G 0 32), .int x1] w (qi Q) := Mt_of (by decide +kernel) rfl rfl (Nat.le_of_ble_eq_true rfl) (fun M Qf hC he => ok_X9_goThrough hC he h)
/-! X9.firstError()I -/
theorem dX9_firstError_0 : decode cX9_firstError 0 = .ok (.aload_n 0, 1) := by decide +kernel
theorem dX9_firstError_1 : decode cX9_firstError 1 = .ok (.iconst 0, 1) := by decide +kernel
theorem dX9_firstError_2 : decode cX9_firstError 2 = .ok (.putfield 65, 3) := by decide +kernel
theorem dX9_firstError_5 : decode cX9_firstError 5 = .ok (.aload_n 0, 1) := by decide +kernel
theorem dX9_firstError_6 : decode cX9_firstError 6 = .ok (.iconst 0, 1) := by decide +kernel
theorem dX9_firstError_7 : decode cX9_firstError 7 = .ok (.invokevirtual 215, 3) := by decide +kernel
theorem dX9_firstError_10 : decode cX9_firstError 10 = .ok (.istore_n 1, 1) := by decide +kernel
theorem dX9_firstError_11 : decode cX9_firstError 11 = .ok (.aload_n 0, 1) := by decide +kernel
theorem dX9_firstError_12 : decode cX9_firstError 12 = .ok (.getfield 198, 3) := by decide +kernel
theorem dX9_firstError_15 : decode cX9_firstError 15 = .ok (.ifCond .eq 10, 3) := by decide +kernel
theorem dX9_firstError_18 : decode cX9_firstError 18 = .ok (.aload_n 0, 1) := by decide +kernel
theorem dX9_firstError_19 : decode cX9_firstError 19 = .ok (.getfield 195, 3) := by decide +kernel
theorem dX9_firstError_22 : decode cX9_firstError 22 = .ok (.goto 7, 3) := by decide +kernel
theorem dX9_firstError_25 : decode cX9_firstError 25 = .ok (.aload_n 0, 1) := by decide +kernel
theorem dX9_firstError_26 : decode cX9_firstError 26 = .ok (.getfield 192, 3) := by decide +kernel
theorem dX9_firstError_29 : decode cX9_firstError 29 = .ok (.ireturn, 1) := by decide +kernel
set_option maxRecDepth 20000 in
theorem ggX9_firstError_X9_goThrough : GoodIn wsX9_firstError wsX9_goThrough := goodIn_r _ [9, 3, 2, 4, 10, 11, 12, 8, 13, 14, 15, 16, 17, 18, 19, 20, 21, 22, 23, 24, 25, 26, 27, 28, 29, 30, 31, 32, 33, 34, 35, 36, 37, 38, 39, 40, 41, 42, 43, 44, 45, 46, 47, 48, 49, 50, 51, 52, 53, 54, 55, 56, 57, 58, 59, 60, 61, 62, 63, 64, 65, 66, 67, 68, 69, 70, 71, 72, 73, 74, 75, 76, 77, 78, 79] (by decide +kernel) (by decide +kernel)
set_option maxRecDepth 20000 in
theorem gX9_firstError_X9_goThrough : GoodIn wsX9_firstError (wsV RX9 215 RX9 yX9_goThrough wsX9_goThrough) := goodIn_app (goodIn_of _ (by decide +kernel)) ggX9_firstError_X9_goThrough
def D_X9_firstError : Md := (yX9_firstError, cX9_firstError, 2, (some .int), wsX9_firstError, RX9, { frames := 5, cells := 0, slots := 0, locals := 122 })
theorem nm_X9_firstError : nmD D_X9_firstError 0 := ⟨rfl, by decide +kernel, by decide +kernel, by decide +kernel⟩
theorem hi_X9_firstError_X9 : ∀ w ∈ u_ws RX9 TX9 25, w ∈ wsX9_firstError := by decide +kernel
theorem hl_X9_firstError_65 : Cond.fieldLink RX9 65 "LevelLoopsModel" "thrown" "I" ∈ wsX9_firstError := by decide +kernel
theorem hl_X9_firstError_192 : Cond.fieldLink RX9 192 "LevelLoopsModel" "length" "I" ∈ wsX9_firstError := by decide +kernel
theorem hl_X9_firstError_195 : Cond.fieldLink RX9 195 "LevelLoopsModel" "at" "I" ∈ wsX9_firstError := by decide +kernel
theorem hl_X9_firstError_198 : Cond.fieldLink RX9 198 "LevelLoopsModel" "isWrong" "Z" ∈ wsX9_firstError := by decide +kernel
def wp_X9_firstError (w : Wd) (Q : Int32 → Wd → Prop) : Prop :=
  (∀ w2 : Wd, w2 = (sI w 0 32 0 (0 : Int32)) → wp_X9_goThrough (0 : Int32) w2 (fun r7 w7 => (((wi w7 0 32 23) = 0 → Q (wi w7 0 32 6) w7) ∧ (¬ (wi w7 0 32 23) = 0 → Q (wi w7 0 32 22) w7))))
theorem ok_X9_firstError {G : Gt} {M : Mx} {Qf : State → Prop} {w : Wd} {Q : Int32 → Wd → Prop} (hC : cx G D_X9_firstError M) (he : en G M (qi Q) Qf) (h : wp_X9_firstError w Q) : jq G D_X9_firstError M Qf 0 [(0, .ref (aD G 0 32))] [] w := by
  unfold wp_X9_firstError at h
  refine jq_aload_n (k0 := 0) dX9_firstError_0 hC rfl rfl ?_
  refine jq_iconst (v := (0 : Int32)) dX9_firstError_1 hC (by decide) ?_
  refine jq_put (k0 := 0) (n := 0) (o := 32) (ty := .int) (w' := (sI w 0 32 0 (0 : Int32))) dX9_firstError_2 hC (cl_0 (by decide)) rfl rfl hi_X9_firstError_X9 tyX9 tyX9_ok nmX9 (by decide) hl_X9_firstError_65 rfl rfl (by decide +kernel) rfl rfl (Nat.le_of_ble_eq_true rfl) (e_32_0 G _ _ _) (fun c _ hne => ent_sA c hne) ?_
  refine jq_w (fun w2 e2 => ?_)
  have h := h w2 e2
  refine jq_aload_n (k0 := 0) dX9_firstError_5 hC rfl rfl ?_
  refine jq_iconst (v := (0 : Int32)) dX9_firstError_6 hC (by decide) ?_
  refine jq_callV (As := [.int (0 : Int32)]) (rest := []) (n := 0) (o := 32) (D' := D_X9_goThrough) dX9_firstError_7 hC (cl_0 (by decide)) rfl rfl rfl (mt_X9_goThrough h) gX9_firstError_X9_goThrough rfl ⟨rfl, rfl, Nat.le_of_ble_eq_true rfl, Nat.le_of_ble_eq_true rfl⟩ nm_X9_goThrough rfl (Nat.le_of_ble_eq_true rfl) (kI fun r7 w7 h => ?_)
  refine jq_istore_n (L' := [(1, .int r7), (0, .ref (aD G 0 32))]) dX9_firstError_10 hC rfl (by decide) rfl ?_
  refine jq_aload_n (k0 := 1) dX9_firstError_11 hC rfl rfl ?_
  refine jq_get (k0 := 23) (n := 0) (o := 32) dX9_firstError_12 hC (cl_0 (by decide)) rfl rfl hi_X9_firstError_X9 (by decide) hl_X9_firstError_198 rfl rfl ?_
  refine jq_if_eq (tgt := 25) dX9_firstError_15 hC (by decide) (fun c15 => ?_) (fun c15 => ?_)
  · have h := h.1 c15
    refine jq_aload_n (k0 := 1) dX9_firstError_25 hC rfl rfl ?_
    refine jq_get (k0 := 6) (n := 0) (o := 32) dX9_firstError_26 hC (cl_0 (by decide)) rfl rfl hi_X9_firstError_X9 (by decide) hl_X9_firstError_192 rfl rfl ?_
    exact jq_iret dX9_firstError_29 hC he rfl ⟨_, rfl, h⟩
  · have h := h.2 c15
    refine jq_aload_n (k0 := 1) dX9_firstError_18 hC rfl rfl ?_
    refine jq_get (k0 := 22) (n := 0) (o := 32) dX9_firstError_19 hC (cl_0 (by decide)) rfl rfl hi_X9_firstError_X9 (by decide) hl_X9_firstError_195 rfl rfl ?_
    refine jq_goto (tgt := 29) dX9_firstError_22 hC (by decide) ?_
    exact jq_iret dX9_firstError_29 hC he rfl ⟨_, rfl, h⟩
theorem mt_X9_firstError {G : Gt} {w : Wd} {Q : Int32 → Wd → Prop} (h : wp_X9_firstError w Q) : Mt G D_X9_firstError [.ref (aD G 0 32)] w (qi Q) := Mt_of (by decide +kernel) rfl rfl (Nat.le_of_ble_eq_true rfl) (fun M Qf hC he => ok_X9_firstError hC he h)
/-! X9.book()I -/
theorem dX9_book_0 : decode cX9_book 0 = .ok (.aload_n 0, 1) := by decide +kernel
theorem dX9_book_1 : decode cX9_book 1 = .ok (.iconst 0, 1) := by decide +kernel
theorem dX9_book_2 : decode cX9_book 2 = .ok (.invokevirtual 215, 3) := by decide +kernel
theorem dX9_book_5 : decode cX9_book 5 = .ok (.istore_n 1, 1) := by decide +kernel
theorem dX9_book_6 : decode cX9_book 6 = .ok (.aload_n 0, 1) := by decide +kernel
theorem dX9_book_7 : decode cX9_book 7 = .ok (.aload_n 0, 1) := by decide +kernel
theorem dX9_book_8 : decode cX9_book 8 = .ok (.getfield 198, 3) := by decide +kernel
theorem dX9_book_11 : decode cX9_book 11 = .ok (.ifCond .eq 7, 3) := by decide +kernel
theorem dX9_book_14 : decode cX9_book 14 = .ok (.iconst 1, 1) := by decide +kernel
theorem dX9_book_15 : decode cX9_book 15 = .ok (.goto 4, 3) := by decide +kernel
theorem dX9_book_18 : decode cX9_book 18 = .ok (.iconst 0, 1) := by decide +kernel
theorem dX9_book_19 : decode cX9_book 19 = .ok (.invokevirtual 158, 3) := by decide +kernel
theorem dX9_book_22 : decode cX9_book 22 = .ok (.ifCond .ne 5, 3) := by decide +kernel
theorem dX9_book_25 : decode cX9_book 25 = .ok (.iconst 0, 1) := by decide +kernel
theorem dX9_book_26 : decode cX9_book 26 = .ok (.ireturn, 1) := by decide +kernel
theorem dX9_book_27 : decode cX9_book 27 = .ok (.aload_n 0, 1) := by decide +kernel
theorem dX9_book_28 : decode cX9_book 28 = .ok (.invokevirtual 161, 3) := by decide +kernel
theorem dX9_book_31 : decode cX9_book 31 = .ok (.aload_n 0, 1) := by decide +kernel
theorem dX9_book_32 : decode cX9_book 32 = .ok (.iconst 1, 1) := by decide +kernel
theorem dX9_book_33 : decode cX9_book 33 = .ok (.invokevirtual 215, 3) := by decide +kernel
theorem dX9_book_36 : decode cX9_book 36 = .ok (.istore_n 2, 1) := by decide +kernel
theorem dX9_book_37 : decode cX9_book 37 = .ok (.aload_n 0, 1) := by decide +kernel
theorem dX9_book_38 : decode cX9_book 38 = .ok (.iconst 0, 1) := by decide +kernel
theorem dX9_book_39 : decode cX9_book 39 = .ok (.putfield 192, 3) := by decide +kernel
theorem dX9_book_42 : decode cX9_book 42 = .ok (.iload_n 2, 1) := by decide +kernel
theorem dX9_book_43 : decode cX9_book 43 = .ok (.ireturn, 1) := by decide +kernel
set_option maxRecDepth 20000 in
theorem ggX9_book_X9_goThrough : GoodIn wsX9_book wsX9_goThrough := goodIn_r _ [7, 8, 1, 2, 9, 10, 11, 6, 12, 13, 14, 15, 16, 17, 18, 19, 20, 21, 22, 23, 24, 25, 26, 27, 28, 29, 30, 31, 32, 33, 34, 35, 36, 37, 38, 39, 40, 41, 42, 43, 44, 45, 46, 47, 48, 49, 50, 51, 52, 53, 65, 66, 67, 68, 69, 70, 71, 72, 73, 74, 75, 76, 77, 78, 79, 80, 81, 82, 83, 84, 85, 86, 87, 88, 89] (by decide +kernel) (by decide +kernel)
set_option maxRecDepth 20000 in
theorem gX9_book_X9_goThrough : GoodIn wsX9_book (wsV RX9 215 RX9 yX9_goThrough wsX9_goThrough) := goodIn_app (goodIn_of _ (by decide +kernel)) ggX9_book_X9_goThrough
set_option maxRecDepth 20000 in
theorem ggX9_book_X9_save : GoodIn wsX9_book wsX9_save := goodIn_r _ [62, 63, 64, 34, 65, 66, 67, 68, 69, 70, 71, 72, 73, 74, 75, 76, 77, 78, 79, 80, 81, 82, 83, 84, 85, 86, 87, 88, 89] (by decide +kernel) (by decide +kernel)
set_option maxRecDepth 20000 in
theorem gX9_book_X9_save : GoodIn wsX9_book (wsV RX9 161 RX9 yX9_save wsX9_save) := goodIn_app (goodIn_of _ (by decide +kernel)) ggX9_book_X9_save
set_option maxRecDepth 20000 in
theorem ggX9_book_X9_holds : GoodIn wsX9_book wsX9_holds := goodIn_r _ [57, 58, 65, 66, 67, 68, 69, 70, 71, 72, 73, 74, 75, 76, 77, 78, 79, 80, 81, 82, 83, 84, 85, 86, 87, 88, 89] (by decide +kernel) (by decide +kernel)
set_option maxRecDepth 20000 in
theorem gX9_book_X9_holds : GoodIn wsX9_book (wsV RX9 158 RX9 yX9_holds wsX9_holds) := goodIn_app (goodIn_of _ (by decide +kernel)) ggX9_book_X9_holds
def D_X9_book : Md := (yX9_book, cX9_book, 3, (some .int), wsX9_book, RX9, { frames := 5, cells := 0, slots := 0, locals := 122 })
theorem nm_X9_book : nmD D_X9_book 0 := ⟨rfl, by decide +kernel, by decide +kernel, by decide +kernel⟩
theorem hi_X9_book_X9 : ∀ w ∈ u_ws RX9 TX9 25, w ∈ wsX9_book := by decide +kernel
theorem hl_X9_book_192 : Cond.fieldLink RX9 192 "LevelLoopsModel" "length" "I" ∈ wsX9_book := by decide +kernel
theorem hl_X9_book_198 : Cond.fieldLink RX9 198 "LevelLoopsModel" "isWrong" "Z" ∈ wsX9_book := by decide +kernel
def wp_X9_book_J19 (s0 : Int32) (w : Wd) (Q : Int32 → Wd → Prop) : Prop :=
  wp_X9_holds s0 w (fun r19 w19 => ((¬ r19 = 0 → wp_X9_save w19 (fun w28 => wp_X9_goThrough (1 : Int32) w28 (fun r33 w33 => (∀ w39 : Wd, w39 = (sI w33 0 32 6 (0 : Int32)) → Q r33 w39)))) ∧ (r19 = 0 → Q (0 : Int32) w19)))
def wp_X9_book (w : Wd) (Q : Int32 → Wd → Prop) : Prop :=
  wp_X9_goThrough (0 : Int32) w (fun r2 w2 => (((wi w2 0 32 23) = 0 → wp_X9_book_J19 (0 : Int32) w2 Q) ∧ (¬ (wi w2 0 32 23) = 0 → wp_X9_book_J19 (1 : Int32) w2 Q)))
theorem ok_X9_book_J19 {G : Gt} {M : Mx} {Qf : State → Prop} {s0 : Int32} {w : Wd} {Q : Int32 → Wd → Prop} (hC : cx G D_X9_book M) (he : en G M (qi Q) Qf) (h : wp_X9_book_J19 s0 w Q) : jq G D_X9_book M Qf 19 [(0, .ref (aD G 0 32))] [.int s0, .ref (aD G 0 32)] w := by
  unfold wp_X9_book_J19 at h
  refine jq_callV (As := [.int s0]) (rest := []) (n := 0) (o := 32) (D' := D_X9_holds) dX9_book_19 hC (cl_0 (by decide)) rfl rfl rfl (mt_X9_holds h) gX9_book_X9_holds rfl ⟨rfl, rfl, Nat.le_of_ble_eq_true rfl, Nat.le_of_ble_eq_true rfl⟩ nm_X9_holds rfl (Nat.le_of_ble_eq_true rfl) (kI fun r19 w19 h => ?_)
  refine jq_if_ne (tgt := 27) dX9_book_22 hC (by decide) (fun c22 => ?_) (fun c22 => ?_)
  · have h := h.1 c22
    refine jq_aload_n (k0 := 0) dX9_book_27 hC rfl rfl ?_
    refine jq_callV (As := []) (rest := []) (n := 0) (o := 32) (D' := D_X9_save) dX9_book_28 hC (cl_0 (by decide)) rfl rfl rfl (mt_X9_save h) gX9_book_X9_save rfl ⟨rfl, rfl, Nat.le_of_ble_eq_true rfl, Nat.le_of_ble_eq_true rfl⟩ nm_X9_save rfl (Nat.le_of_ble_eq_true rfl) (kV fun w28 h => ?_)
    refine jq_aload_n (k0 := 0) dX9_book_31 hC rfl rfl ?_
    refine jq_iconst (v := (1 : Int32)) dX9_book_32 hC (by decide) ?_
    refine jq_callV (As := [.int (1 : Int32)]) (rest := []) (n := 0) (o := 32) (D' := D_X9_goThrough) dX9_book_33 hC (cl_0 (by decide)) rfl rfl rfl (mt_X9_goThrough h) gX9_book_X9_goThrough rfl ⟨rfl, rfl, Nat.le_of_ble_eq_true rfl, Nat.le_of_ble_eq_true rfl⟩ nm_X9_goThrough rfl (Nat.le_of_ble_eq_true rfl) (kI fun r33 w33 h => ?_)
    refine jq_istore_n (L' := [(2, .int r33), (0, .ref (aD G 0 32))]) dX9_book_36 hC rfl (by decide) rfl ?_
    refine jq_aload_n (k0 := 1) dX9_book_37 hC rfl rfl ?_
    refine jq_iconst (v := (0 : Int32)) dX9_book_38 hC (by decide) ?_
    refine jq_put (k0 := 6) (n := 0) (o := 32) (ty := .int) (w' := (sI w33 0 32 6 (0 : Int32))) dX9_book_39 hC (cl_0 (by decide)) rfl rfl hi_X9_book_X9 tyX9 tyX9_ok nmX9 (by decide) hl_X9_book_192 rfl rfl (by decide +kernel) rfl rfl (Nat.le_of_ble_eq_true rfl) (e_32_6 G _ _ _) (fun c _ hne => ent_sA c hne) ?_
    refine jq_w (fun w39 e39 => ?_)
    have h := h w39 e39
    refine jq_iload_n (k0 := 0) dX9_book_42 hC rfl rfl ?_
    exact jq_iret dX9_book_43 hC he rfl ⟨_, rfl, h⟩
  · have h := h.2 c22
    refine jq_iconst (v := (0 : Int32)) dX9_book_25 hC (by decide) ?_
    exact jq_iret dX9_book_26 hC he rfl ⟨_, rfl, h⟩
theorem ok_X9_book {G : Gt} {M : Mx} {Qf : State → Prop} {w : Wd} {Q : Int32 → Wd → Prop} (hC : cx G D_X9_book M) (he : en G M (qi Q) Qf) (h : wp_X9_book w Q) : jq G D_X9_book M Qf 0 [(0, .ref (aD G 0 32))] [] w := by
  unfold wp_X9_book at h
  refine jq_aload_n (k0 := 0) dX9_book_0 hC rfl rfl ?_
  refine jq_iconst (v := (0 : Int32)) dX9_book_1 hC (by decide) ?_
  refine jq_callV (As := [.int (0 : Int32)]) (rest := []) (n := 0) (o := 32) (D' := D_X9_goThrough) dX9_book_2 hC (cl_0 (by decide)) rfl rfl rfl (mt_X9_goThrough h) gX9_book_X9_goThrough rfl ⟨rfl, rfl, Nat.le_of_ble_eq_true rfl, Nat.le_of_ble_eq_true rfl⟩ nm_X9_goThrough rfl (Nat.le_of_ble_eq_true rfl) (kI fun r2 w2 h => ?_)
  refine jq_istore_n (L' := [(1, .int r2), (0, .ref (aD G 0 32))]) dX9_book_5 hC rfl (by decide) rfl ?_
  refine jq_aload_n (k0 := 1) dX9_book_6 hC rfl rfl ?_
  refine jq_aload_n (k0 := 1) dX9_book_7 hC rfl rfl ?_
  refine jq_get (k0 := 23) (n := 0) (o := 32) dX9_book_8 hC (cl_0 (by decide)) rfl rfl hi_X9_book_X9 (by decide) hl_X9_book_198 rfl rfl ?_
  refine jq_if_eq (tgt := 18) dX9_book_11 hC (by decide) (fun c11 => ?_) (fun c11 => ?_)
  · have h := h.1 c11
    refine jq_iconst (v := (0 : Int32)) dX9_book_18 hC (by decide) ?_
    refine jq_less (L' := [(0, .ref (aD G 0 32))]) [1] rfl ?_
    exact ok_X9_book_J19 hC he h
  · have h := h.2 c11
    refine jq_iconst (v := (1 : Int32)) dX9_book_14 hC (by decide) ?_
    refine jq_goto (tgt := 19) dX9_book_15 hC (by decide) ?_
    refine jq_less (L' := [(0, .ref (aD G 0 32))]) [1] rfl ?_
    exact ok_X9_book_J19 hC he h
theorem mt_X9_book {G : Gt} {w : Wd} {Q : Int32 → Wd → Prop} (h : wp_X9_book w Q) : Mt G D_X9_book [.ref (aD G 0 32)] w (qi Q) := Mt_of (by decide +kernel) rfl rfl (Nat.le_of_ble_eq_true rfl) (fun M Qf hC he => ok_X9_book hC he h)
/-! X9.undo()I -/
theorem dX9_undo_0 : decode cX9_undo 0 = .ok (.aload_n 0, 1) := by decide +kernel
theorem dX9_undo_1 : decode cX9_undo 1 = .ok (.aload_n 0, 1) := by decide +kernel
theorem dX9_undo_2 : decode cX9_undo 2 = .ok (.getfield 73, 3) := by decide +kernel
theorem dX9_undo_5 : decode cX9_undo 5 = .ok (.ifCond .le 7, 3) := by decide +kernel
theorem dX9_undo_8 : decode cX9_undo 8 = .ok (.iconst 0, 1) := by decide +kernel
theorem dX9_undo_9 : decode cX9_undo 9 = .ok (.goto 4, 3) := by decide +kernel
theorem dX9_undo_12 : decode cX9_undo 12 = .ok (.iconst 1, 1) := by decide +kernel
theorem dX9_undo_13 : decode cX9_undo 13 = .ok (.invokevirtual 158, 3) := by decide +kernel
theorem dX9_undo_16 : decode cX9_undo 16 = .ok (.ifCond .ne 5, 3) := by decide +kernel
theorem dX9_undo_19 : decode cX9_undo 19 = .ok (.iconst 0, 1) := by decide +kernel
theorem dX9_undo_20 : decode cX9_undo 20 = .ok (.ireturn, 1) := by decide +kernel
theorem dX9_undo_21 : decode cX9_undo 21 = .ok (.aload_n 0, 1) := by decide +kernel
theorem dX9_undo_22 : decode cX9_undo 22 = .ok (.dup, 1) := by decide +kernel
theorem dX9_undo_23 : decode cX9_undo 23 = .ok (.getfield 73, 3) := by decide +kernel
theorem dX9_undo_26 : decode cX9_undo 26 = .ok (.iconst 1, 1) := by decide +kernel
theorem dX9_undo_27 : decode cX9_undo 27 = .ok (.isub, 1) := by decide +kernel
theorem dX9_undo_28 : decode cX9_undo 28 = .ok (.putfield 73, 3) := by decide +kernel
theorem dX9_undo_31 : decode cX9_undo 31 = .ok (.iconst 0, 1) := by decide +kernel
theorem dX9_undo_32 : decode cX9_undo 32 = .ok (.istore_n 1, 1) := by decide +kernel
theorem dX9_undo_33 : decode cX9_undo 33 = .ok (.iload_n 1, 1) := by decide +kernel
theorem dX9_undo_34 : decode cX9_undo 34 = .ok (.bipush 95, 2) := by decide +kernel
theorem dX9_undo_36 : decode cX9_undo 36 = .ok (.if_icmp .ge 29, 3) := by decide +kernel
theorem dX9_undo_39 : decode cX9_undo 39 = .ok (.aload_n 0, 1) := by decide +kernel
theorem dX9_undo_40 : decode cX9_undo 40 = .ok (.getfield 7, 3) := by decide +kernel
theorem dX9_undo_43 : decode cX9_undo 43 = .ok (.iload_n 1, 1) := by decide +kernel
theorem dX9_undo_44 : decode cX9_undo 44 = .ok (.aload_n 0, 1) := by decide +kernel
theorem dX9_undo_45 : decode cX9_undo 45 = .ok (.getfield 16, 3) := by decide +kernel
theorem dX9_undo_48 : decode cX9_undo 48 = .ok (.bipush 95, 2) := by decide +kernel
theorem dX9_undo_50 : decode cX9_undo 50 = .ok (.aload_n 0, 1) := by decide +kernel
theorem dX9_undo_51 : decode cX9_undo 51 = .ok (.getfield 73, 3) := by decide +kernel
theorem dX9_undo_54 : decode cX9_undo 54 = .ok (.imul, 1) := by decide +kernel
theorem dX9_undo_55 : decode cX9_undo 55 = .ok (.iload_n 1, 1) := by decide +kernel
theorem dX9_undo_56 : decode cX9_undo 56 = .ok (.iadd, 1) := by decide +kernel
theorem dX9_undo_57 : decode cX9_undo 57 = .ok (.iaload, 1) := by decide +kernel
theorem dX9_undo_58 : decode cX9_undo 58 = .ok (.iastore, 1) := by decide +kernel
theorem dX9_undo_59 : decode cX9_undo 59 = .ok (.iinc 1 1, 3) := by decide +kernel
theorem dX9_undo_62 : decode cX9_undo 62 = .ok (.goto (-29), 3) := by decide +kernel
theorem dX9_undo_65 : decode cX9_undo 65 = .ok (.aload_n 0, 1) := by decide +kernel
theorem dX9_undo_66 : decode cX9_undo 66 = .ok (.getfield 73, 3) := by decide +kernel
theorem dX9_undo_69 : decode cX9_undo 69 = .ok (.ireturn, 1) := by decide +kernel
set_option maxRecDepth 20000 in
theorem ggX9_undo_X9_holds : GoodIn wsX9_undo wsX9_holds := goodIn_r _ [8, 9, 10, 11, 12, 13, 14, 15, 16, 17, 18, 19, 20, 21, 22, 23, 24, 25, 26, 27, 28, 29, 30, 31, 32, 33, 34] (by decide +kernel) (by decide +kernel)
set_option maxRecDepth 20000 in
theorem gX9_undo_X9_holds : GoodIn wsX9_undo (wsV RX9 158 RX9 yX9_holds wsX9_holds) := goodIn_app (goodIn_of _ (by decide +kernel)) ggX9_undo_X9_holds
def D_X9_undo : Md := (yX9_undo, cX9_undo, 2, (some .int), wsX9_undo, RX9, { frames := 1, cells := 0, slots := 0, locals := 21 })
theorem nm_X9_undo : nmD D_X9_undo 0 := ⟨rfl, by decide +kernel, by decide +kernel, by decide +kernel⟩
theorem hi_X9_undo_X9 : ∀ w ∈ u_ws RX9 TX9 25, w ∈ wsX9_undo := by decide +kernel
theorem hl_X9_undo_7 : Cond.fieldLink RX9 7 "LevelLoopsModel" "s" "[I" ∈ wsX9_undo := by decide +kernel
theorem hl_X9_undo_16 : Cond.fieldLink RX9 16 "LevelLoopsModel" "saved" "[I" ∈ wsX9_undo := by decide +kernel
theorem hl_X9_undo_73 : Cond.fieldLink RX9 73 "LevelLoopsModel" "savedMany" "I" ∈ wsX9_undo := by decide +kernel
def wp_X9_undo_B33 (x1 : Int32) (w : Wd) (Q : Int32 → Wd → Prop) (K33 : Int32 → Wd → Prop) : Prop :=
  (((95 : Int32) ≤ x1 → Q (wi w 0 32 4) w) ∧ (¬ (95 : Int32) ≤ x1 → vp_in (((95 : Int32) * (wi w 0 32 4)) + x1) 570 ∧ vp_in x1 95 ∧ (∀ w58 : Wd, w58 = (sI w 0 33 x1.toNatClampNeg (wi w 0 35 (((95 : Int32) * (wi w 0 32 4)) + x1).toNatClampNeg)) → K33 (x1 + 1) w58)))
def wp_X9_undo_L33 (x1 : Int32) (w : Wd) (Q : Int32 → Wd → Prop) : Prop :=
  ∃ (I : Int32 → Wd → Prop) (μ : Int32 → Wd → Nat), I x1 w ∧ ∀ (x1 : Int32) (w : Wd), I x1 w → wp_X9_undo_B33 x1 w Q (fun x1' w' => I x1' w' ∧ μ x1' w' < μ x1 w)
def wp_X9_undo_J13 (s0 : Int32) (w : Wd) (Q : Int32 → Wd → Prop) : Prop :=
  wp_X9_holds s0 w (fun r13 w13 => ((¬ r13 = 0 → (∀ w28 : Wd, w28 = (sI w13 0 32 4 ((wi w13 0 32 4) - (1 : Int32))) → wp_X9_undo_L33 (0 : Int32) w28 Q)) ∧ (r13 = 0 → Q (0 : Int32) w13)))
def wp_X9_undo (w : Wd) (Q : Int32 → Wd → Prop) : Prop :=
  (((wi w 0 32 4) ≤ 0 → wp_X9_undo_J13 (1 : Int32) w Q) ∧ (¬ (wi w 0 32 4) ≤ 0 → wp_X9_undo_J13 (0 : Int32) w Q))
theorem ok_X9_undo_B33 {G : Gt} {M : Mx} {Qf : State → Prop} {x1 : Int32} {w : Wd} {Q : Int32 → Wd → Prop} {K33 : Int32 → Wd → Prop} (hC : cx G D_X9_undo M) (he : en G M (qi Q) Qf) (h : wp_X9_undo_B33 x1 w Q K33) (hK33 : ∀ (x1 : Int32) (w : Wd), K33 x1 w → jq G D_X9_undo M Qf 33 [(0, .ref (aD G 0 32)), (1, .int x1)] [] w) : jq G D_X9_undo M Qf 33 [(0, .ref (aD G 0 32)), (1, .int x1)] [] w := by
  unfold wp_X9_undo_B33 at h
  refine jq_iload_n (k0 := 1) dX9_undo_33 hC rfl rfl ?_
  refine jq_bipush (v := (95 : Int32)) dX9_undo_34 hC (by decide) ?_
  refine jq_icmp_ge (tgt := 65) dX9_undo_36 hC (by decide) (fun c36 => ?_) (fun c36 => ?_)
  · have h := h.1 c36
    refine jq_aload_n (k0 := 0) dX9_undo_65 hC rfl rfl ?_
    refine jq_get (k0 := 4) (n := 0) (o := 32) dX9_undo_66 hC (cl_0 (by decide)) rfl rfl hi_X9_undo_X9 (by decide) hl_X9_undo_73 rfl rfl ?_
    exact jq_iret dX9_undo_69 hC he rfl ⟨_, rfl, h⟩
  · have h := h.2 c36
    refine jq_aload_n (k0 := 0) dX9_undo_39 hC rfl rfl ?_
    refine jq_get (k0 := 1) (n := 0) (o := 32) dX9_undo_40 hC (cl_0 (by decide)) rfl rfl hi_X9_undo_X9 (by decide) hl_X9_undo_7 rfl rfl ?_
    refine jq_iload_n (k0 := 1) dX9_undo_43 hC rfl rfl ?_
    refine jq_aload_n (k0 := 0) dX9_undo_44 hC rfl rfl ?_
    refine jq_get (k0 := 3) (n := 0) (o := 32) dX9_undo_45 hC (cl_0 (by decide)) rfl rfl hi_X9_undo_X9 (by decide) hl_X9_undo_16 rfl rfl ?_
    refine jq_bipush (v := (95 : Int32)) dX9_undo_48 hC (by decide) ?_
    refine jq_aload_n (k0 := 0) dX9_undo_50 hC rfl rfl ?_
    refine jq_get (k0 := 4) (n := 0) (o := 32) dX9_undo_51 hC (cl_0 (by decide)) rfl rfl hi_X9_undo_X9 (by decide) hl_X9_undo_73 rfl rfl ?_
    refine jq_imul dX9_undo_54 hC ?_
    refine jq_iload_n (k0 := 1) dX9_undo_55 hC rfl rfl ?_
    refine jq_iadd dX9_undo_56 hC ?_
    obtain ⟨b57, h⟩ := h
    refine jq_iald (n := 0) (o := 35) (j := (((95 : Int32) * (wi w 0 32 4)) + x1).toNatClampNeg) dX9_undo_57 hC (cl_0 (by decide)) rfl b57 rfl ?_
    obtain ⟨b58, h⟩ := h
    refine jq_iast (n := 0) (o := 33) (j := x1.toNatClampNeg) dX9_undo_58 hC (cl_0 (by decide)) (fun _ => rfl) b58 rfl ?_
    refine jq_w (fun w58 e58 => ?_)
    have h := h w58 e58
    refine jq_iinc (k0 := 1) (v := (x1 + 1)) (L' := [(1, .int (x1 + 1)), (0, .ref (aD G 0 32))]) dX9_undo_59 hC rfl rfl (by decide) rfl ?_
    refine jq_goto (tgt := 33) dX9_undo_62 hC (by decide) ?_
    exact jq_less (L' := [(0, .ref (aD G 0 32)), (1, .int (x1 + 1))]) [1, 0] rfl (hK33 _ _ h)
theorem ok_X9_undo_L33 {G : Gt} {M : Mx} {Qf : State → Prop} {x1 : Int32} {w : Wd} {Q : Int32 → Wd → Prop} (hC : cx G D_X9_undo M) (he : en G M (qi Q) Qf) (h : wp_X9_undo_L33 x1 w Q) : jq G D_X9_undo M Qf 33 [(0, .ref (aD G 0 32)), (1, .int x1)] [] w := by
  unfold wp_X9_undo_L33 at h
  obtain ⟨I, μ, h0, hs⟩ := h
  exact lp_ind (σ := Int32 × Wd) (P := fun s => jq G D_X9_undo M Qf 33 [(0, .ref (aD G 0 32)), (1, .int s.1)] [] s.2) (fun s => I s.1 s.2) (fun s => μ s.1 s.2) (fun s h1 ih => ok_X9_undo_B33 hC he (hs s.1 s.2 h1) (fun x1' w' h => ih (x1', w') h.1 h.2)) (x1, w) h0
theorem ok_X9_undo_J13 {G : Gt} {M : Mx} {Qf : State → Prop} {s0 : Int32} {w : Wd} {Q : Int32 → Wd → Prop} (hC : cx G D_X9_undo M) (he : en G M (qi Q) Qf) (h : wp_X9_undo_J13 s0 w Q) : jq G D_X9_undo M Qf 13 [(0, .ref (aD G 0 32))] [.int s0, .ref (aD G 0 32)] w := by
  unfold wp_X9_undo_J13 at h
  refine jq_callV (As := [.int s0]) (rest := []) (n := 0) (o := 32) (D' := D_X9_holds) dX9_undo_13 hC (cl_0 (by decide)) rfl rfl rfl (mt_X9_holds h) gX9_undo_X9_holds rfl ⟨rfl, rfl, Nat.le_of_ble_eq_true rfl, Nat.le_of_ble_eq_true rfl⟩ nm_X9_holds rfl (Nat.le_of_ble_eq_true rfl) (kI fun r13 w13 h => ?_)
  refine jq_if_ne (tgt := 21) dX9_undo_16 hC (by decide) (fun c16 => ?_) (fun c16 => ?_)
  · have h := h.1 c16
    refine jq_aload_n (k0 := 0) dX9_undo_21 hC rfl rfl ?_
    refine jq_dup dX9_undo_22 hC rfl ?_
    refine jq_get (k0 := 4) (n := 0) (o := 32) dX9_undo_23 hC (cl_0 (by decide)) rfl rfl hi_X9_undo_X9 (by decide) hl_X9_undo_73 rfl rfl ?_
    refine jq_iconst (v := (1 : Int32)) dX9_undo_26 hC (by decide) ?_
    refine jq_isub dX9_undo_27 hC ?_
    refine jq_put (k0 := 4) (n := 0) (o := 32) (ty := .int) (w' := (sI w13 0 32 4 ((wi w13 0 32 4) - (1 : Int32)))) dX9_undo_28 hC (cl_0 (by decide)) rfl rfl hi_X9_undo_X9 tyX9 tyX9_ok nmX9 (by decide) hl_X9_undo_73 rfl rfl (by decide +kernel) rfl rfl (Nat.le_of_ble_eq_true rfl) (e_32_4 G _ _ _) (fun c _ hne => ent_sA c hne) ?_
    refine jq_w (fun w28 e28 => ?_)
    have h := h w28 e28
    refine jq_iconst (v := (0 : Int32)) dX9_undo_31 hC (by decide) ?_
    refine jq_istore_n (L' := [(1, .int (0 : Int32)), (0, .ref (aD G 0 32))]) dX9_undo_32 hC rfl (by decide) rfl ?_
    refine jq_less (L' := [(0, .ref (aD G 0 32)), (1, .int (0 : Int32))]) [1, 0] rfl ?_
    exact ok_X9_undo_L33 hC he h
  · have h := h.2 c16
    refine jq_iconst (v := (0 : Int32)) dX9_undo_19 hC (by decide) ?_
    exact jq_iret dX9_undo_20 hC he rfl ⟨_, rfl, h⟩
theorem ok_X9_undo {G : Gt} {M : Mx} {Qf : State → Prop} {w : Wd} {Q : Int32 → Wd → Prop} (hC : cx G D_X9_undo M) (he : en G M (qi Q) Qf) (h : wp_X9_undo w Q) : jq G D_X9_undo M Qf 0 [(0, .ref (aD G 0 32))] [] w := by
  unfold wp_X9_undo at h
  refine jq_aload_n (k0 := 0) dX9_undo_0 hC rfl rfl ?_
  refine jq_aload_n (k0 := 0) dX9_undo_1 hC rfl rfl ?_
  refine jq_get (k0 := 4) (n := 0) (o := 32) dX9_undo_2 hC (cl_0 (by decide)) rfl rfl hi_X9_undo_X9 (by decide) hl_X9_undo_73 rfl rfl ?_
  refine jq_if_le (tgt := 12) dX9_undo_5 hC (by decide) (fun c5 => ?_) (fun c5 => ?_)
  · have h := h.1 c5
    refine jq_iconst (v := (1 : Int32)) dX9_undo_12 hC (by decide) ?_
    refine jq_less (L' := [(0, .ref (aD G 0 32))]) [0] rfl ?_
    exact ok_X9_undo_J13 hC he h
  · have h := h.2 c5
    refine jq_iconst (v := (0 : Int32)) dX9_undo_8 hC (by decide) ?_
    refine jq_goto (tgt := 13) dX9_undo_9 hC (by decide) ?_
    refine jq_less (L' := [(0, .ref (aD G 0 32))]) [0] rfl ?_
    exact ok_X9_undo_J13 hC he h
theorem mt_X9_undo {G : Gt} {w : Wd} {Q : Int32 → Wd → Prop} (h : wp_X9_undo w Q) : Mt G D_X9_undo [.ref (aD G 0 32)] w (qi Q) := Mt_of (by decide +kernel) rfl rfl (Nat.le_of_ble_eq_true rfl) (fun M Qf hC he => ok_X9_undo hC he h)
/-! X9.movedOf(I)I -/
theorem dX9_movedOf_0 : decode cX9_movedOf 0 = .ok (.aload_n 0, 1) := by decide +kernel
theorem dX9_movedOf_1 : decode cX9_movedOf 1 = .ok (.iload_n 1, 1) := by decide +kernel
theorem dX9_movedOf_2 : decode cX9_movedOf 2 = .ok (.invokevirtual 129, 3) := by decide +kernel
theorem dX9_movedOf_5 : decode cX9_movedOf 5 = .ok (.ifCond .eq 42, 3) := by decide +kernel
theorem dX9_movedOf_8 : decode cX9_movedOf 8 = .ok (.aload_n 0, 1) := by decide +kernel
theorem dX9_movedOf_9 : decode cX9_movedOf 9 = .ok (.getfield 62, 3) := by decide +kernel
theorem dX9_movedOf_12 : decode cX9_movedOf 12 = .ok (.iload_n 1, 1) := by decide +kernel
theorem dX9_movedOf_13 : decode cX9_movedOf 13 = .ok (.iaload, 1) := by decide +kernel
theorem dX9_movedOf_14 : decode cX9_movedOf 14 = .ok (.ldc 138, 2) := by decide +kernel
theorem dX9_movedOf_16 : decode cX9_movedOf 16 = .ok (.if_icmp .eq 31, 3) := by decide +kernel
theorem dX9_movedOf_19 : decode cX9_movedOf 19 = .ok (.aload_n 0, 1) := by decide +kernel
theorem dX9_movedOf_20 : decode cX9_movedOf 20 = .ok (.getfield 7, 3) := by decide +kernel
theorem dX9_movedOf_23 : decode cX9_movedOf 23 = .ok (.iconst 1, 1) := by decide +kernel
theorem dX9_movedOf_24 : decode cX9_movedOf 24 = .ok (.iload_n 1, 1) := by decide +kernel
theorem dX9_movedOf_25 : decode cX9_movedOf 25 = .ok (.iadd, 1) := by decide +kernel
theorem dX9_movedOf_26 : decode cX9_movedOf 26 = .ok (.iaload, 1) := by decide +kernel
theorem dX9_movedOf_27 : decode cX9_movedOf 27 = .ok (.aload_n 0, 1) := by decide +kernel
theorem dX9_movedOf_28 : decode cX9_movedOf 28 = .ok (.getfield 62, 3) := by decide +kernel
theorem dX9_movedOf_31 : decode cX9_movedOf 31 = .ok (.iload_n 1, 1) := by decide +kernel
theorem dX9_movedOf_32 : decode cX9_movedOf 32 = .ok (.iaload, 1) := by decide +kernel
theorem dX9_movedOf_33 : decode cX9_movedOf 33 = .ok (.isub, 1) := by decide +kernel
theorem dX9_movedOf_34 : decode cX9_movedOf 34 = .ok (.invokestatic 107, 3) := by decide +kernel
theorem dX9_movedOf_37 : decode cX9_movedOf 37 = .ok (.aload_n 0, 1) := by decide +kernel
theorem dX9_movedOf_38 : decode cX9_movedOf 38 = .ok (.getfield 7, 3) := by decide +kernel
theorem dX9_movedOf_41 : decode cX9_movedOf 41 = .ok (.bipush 94, 2) := by decide +kernel
theorem dX9_movedOf_43 : decode cX9_movedOf 43 = .ok (.iaload, 1) := by decide +kernel
theorem dX9_movedOf_44 : decode cX9_movedOf 44 = .ok (.if_icmp .gt 5, 3) := by decide +kernel
theorem dX9_movedOf_47 : decode cX9_movedOf 47 = .ok (.iconst 0, 1) := by decide +kernel
theorem dX9_movedOf_48 : decode cX9_movedOf 48 = .ok (.ireturn, 1) := by decide +kernel
theorem dX9_movedOf_49 : decode cX9_movedOf 49 = .ok (.aload_n 0, 1) := by decide +kernel
theorem dX9_movedOf_50 : decode cX9_movedOf 50 = .ok (.getfield 62, 3) := by decide +kernel
theorem dX9_movedOf_53 : decode cX9_movedOf 53 = .ok (.iload_n 1, 1) := by decide +kernel
theorem dX9_movedOf_54 : decode cX9_movedOf 54 = .ok (.iaload, 1) := by decide +kernel
theorem dX9_movedOf_55 : decode cX9_movedOf 55 = .ok (.aload_n 0, 1) := by decide +kernel
theorem dX9_movedOf_56 : decode cX9_movedOf 56 = .ok (.getfield 7, 3) := by decide +kernel
theorem dX9_movedOf_59 : decode cX9_movedOf 59 = .ok (.iconst 1, 1) := by decide +kernel
theorem dX9_movedOf_60 : decode cX9_movedOf 60 = .ok (.iload_n 1, 1) := by decide +kernel
theorem dX9_movedOf_61 : decode cX9_movedOf 61 = .ok (.iadd, 1) := by decide +kernel
theorem dX9_movedOf_62 : decode cX9_movedOf 62 = .ok (.iaload, 1) := by decide +kernel
theorem dX9_movedOf_63 : decode cX9_movedOf 63 = .ok (.if_icmp .ge 7, 3) := by decide +kernel
theorem dX9_movedOf_66 : decode cX9_movedOf 66 = .ok (.iconst 1, 1) := by decide +kernel
theorem dX9_movedOf_67 : decode cX9_movedOf 67 = .ok (.goto 4, 3) := by decide +kernel
theorem dX9_movedOf_70 : decode cX9_movedOf 70 = .ok (.iconst 2, 1) := by decide +kernel
theorem dX9_movedOf_71 : decode cX9_movedOf 71 = .ok (.ireturn, 1) := by decide +kernel
set_option maxRecDepth 20000 in
theorem ggX9_movedOf_X9_size : GoodIn wsX9_movedOf wsX9_size := goodIn_r _ [11] (by decide +kernel) (by decide +kernel)
set_option maxRecDepth 20000 in
theorem gX9_movedOf_X9_size : GoodIn wsX9_movedOf (va_wsS RX9 107 yX9_size wsX9_size) := goodIn_app (goodIn_of _ (by decide +kernel)) ggX9_movedOf_X9_size
set_option maxRecDepth 20000 in
theorem ggX9_movedOf_X9_isKnown : GoodIn wsX9_movedOf wsX9_isKnown := goodIn_r _ [8, 3, 12, 13, 14, 15, 16, 17, 18, 19, 20, 21, 22, 23, 24, 25, 26, 27, 28, 29, 30, 31, 32, 33, 34, 35, 36] (by decide +kernel) (by decide +kernel)
set_option maxRecDepth 20000 in
theorem gX9_movedOf_X9_isKnown : GoodIn wsX9_movedOf (wsV RX9 129 RX9 yX9_isKnown wsX9_isKnown) := goodIn_app (goodIn_of _ (by decide +kernel)) ggX9_movedOf_X9_isKnown
def D_X9_movedOf : Md := (yX9_movedOf, cX9_movedOf, 2, (some .int), wsX9_movedOf, RX9, { frames := 1, cells := 0, slots := 0, locals := 21 })
theorem nm_X9_movedOf : nmD D_X9_movedOf 1 := ⟨rfl, by decide +kernel, by decide +kernel, by decide +kernel⟩
theorem hi_X9_movedOf_X9 : ∀ w ∈ u_ws RX9 TX9 25, w ∈ wsX9_movedOf := by decide +kernel
theorem hl_X9_movedOf_7 : Cond.fieldLink RX9 7 "LevelLoopsModel" "s" "[I" ∈ wsX9_movedOf := by decide +kernel
theorem hl_X9_movedOf_62 : Cond.fieldLink RX9 62 "LevelLoopsModel" "height" "[I" ∈ wsX9_movedOf := by decide +kernel
def wp_X9_movedOf (x1 : Int32) (w : Wd) (Q : Int32 → Prop) : Prop :=
  wp_X9_isKnown x1 w (fun r2 => ((r2 = 0 → Q (0 : Int32)) ∧ (¬ r2 = 0 → vp_in x1 10 ∧ (((wi w 0 50 x1.toNatClampNeg) = (-1000000 : Int32) → Q (0 : Int32)) ∧ (¬ (wi w 0 50 x1.toNatClampNeg) = (-1000000 : Int32) → vp_in ((1 : Int32) + x1) 95 ∧ vp_in x1 10 ∧ wp_X9_size ((wi w 0 33 ((1 : Int32) + x1).toNatClampNeg) - (wi w 0 50 x1.toNatClampNeg)) (fun r34 => (((wi w 0 33 94) < r34 → vp_in x1 10 ∧ vp_in ((1 : Int32) + x1) 95 ∧ (((wi w 0 33 ((1 : Int32) + x1).toNatClampNeg) ≤ (wi w 0 50 x1.toNatClampNeg) → Q (2 : Int32)) ∧ (¬ (wi w 0 33 ((1 : Int32) + x1).toNatClampNeg) ≤ (wi w 0 50 x1.toNatClampNeg) → Q (1 : Int32)))) ∧ (¬ (wi w 0 33 94) < r34 → Q (0 : Int32)))))))))
theorem ok_X9_movedOf {G : Gt} {M : Mx} {Qf : State → Prop} {x1 : Int32} {w : Wd} {Q : Int32 → Prop} (hC : cx G D_X9_movedOf M) (he : en G M (qip w Q) Qf) (h : wp_X9_movedOf x1 w Q) : jq G D_X9_movedOf M Qf 0 [(0, .ref (aD G 0 32)), (1, .int x1)] [] w := by
  unfold wp_X9_movedOf at h
  refine jq_aload_n (k0 := 0) dX9_movedOf_0 hC rfl rfl ?_
  refine jq_iload_n (k0 := 1) dX9_movedOf_1 hC rfl rfl ?_
  refine jq_callV (As := [.int x1]) (rest := []) (n := 0) (o := 32) (D' := D_X9_isKnown) dX9_movedOf_2 hC (cl_0 (by decide)) rfl rfl rfl (mt_X9_isKnown h) gX9_movedOf_X9_isKnown rfl ⟨rfl, rfl, Nat.le_of_ble_eq_true rfl, Nat.le_of_ble_eq_true rfl⟩ nm_X9_isKnown rfl (Nat.le_of_ble_eq_true rfl) (kIp fun r2 h => ?_)
  refine jq_if_eq (tgt := 47) dX9_movedOf_5 hC (by decide) (fun c5 => ?_) (fun c5 => ?_)
  · have h := h.1 c5
    refine jq_iconst (v := (0 : Int32)) dX9_movedOf_47 hC (by decide) ?_
    exact jq_iret dX9_movedOf_48 hC he rfl ⟨_, rfl, rfl, h⟩
  · have h := h.2 c5
    refine jq_aload_n (k0 := 0) dX9_movedOf_8 hC rfl rfl ?_
    refine jq_get (k0 := 21) (n := 0) (o := 32) dX9_movedOf_9 hC (cl_0 (by decide)) rfl rfl hi_X9_movedOf_X9 (by decide) hl_X9_movedOf_62 rfl rfl ?_
    refine jq_iload_n (k0 := 1) dX9_movedOf_12 hC rfl rfl ?_
    obtain ⟨b13, h⟩ := h
    refine jq_iald (n := 0) (o := 50) (j := x1.toNatClampNeg) dX9_movedOf_13 hC (cl_0 (by decide)) rfl b13 rfl ?_
    refine jq_ldc (v := (-1000000 : Int32)) dX9_movedOf_14 hC (by decide +kernel) ?_
    refine jq_icmp_eq (tgt := 47) dX9_movedOf_16 hC (by decide) (fun c16 => ?_) (fun c16 => ?_)
    · have h := h.1 c16
      refine jq_iconst (v := (0 : Int32)) dX9_movedOf_47 hC (by decide) ?_
      exact jq_iret dX9_movedOf_48 hC he rfl ⟨_, rfl, rfl, h⟩
    · have h := h.2 c16
      refine jq_aload_n (k0 := 0) dX9_movedOf_19 hC rfl rfl ?_
      refine jq_get (k0 := 1) (n := 0) (o := 32) dX9_movedOf_20 hC (cl_0 (by decide)) rfl rfl hi_X9_movedOf_X9 (by decide) hl_X9_movedOf_7 rfl rfl ?_
      refine jq_iconst (v := (1 : Int32)) dX9_movedOf_23 hC (by decide) ?_
      refine jq_iload_n (k0 := 1) dX9_movedOf_24 hC rfl rfl ?_
      refine jq_iadd dX9_movedOf_25 hC ?_
      obtain ⟨b26, h⟩ := h
      refine jq_iald (n := 0) (o := 33) (j := ((1 : Int32) + x1).toNatClampNeg) dX9_movedOf_26 hC (cl_0 (by decide)) rfl b26 rfl ?_
      refine jq_aload_n (k0 := 0) dX9_movedOf_27 hC rfl rfl ?_
      refine jq_get (k0 := 21) (n := 0) (o := 32) dX9_movedOf_28 hC (cl_0 (by decide)) rfl rfl hi_X9_movedOf_X9 (by decide) hl_X9_movedOf_62 rfl rfl ?_
      refine jq_iload_n (k0 := 1) dX9_movedOf_31 hC rfl rfl ?_
      obtain ⟨b32, h⟩ := h
      refine jq_iald (n := 0) (o := 50) (j := x1.toNatClampNeg) dX9_movedOf_32 hC (cl_0 (by decide)) rfl b32 rfl ?_
      refine jq_isub dX9_movedOf_33 hC ?_
      refine jq_callS (As := [.int ((wi w 0 33 ((1 : Int32) + x1).toNatClampNeg) - (wi w 0 50 x1.toNatClampNeg))]) (rest := []) (D' := D_X9_size) dX9_movedOf_34 hC (mt_X9_size h) gX9_movedOf_X9_size rfl ⟨rfl, rfl, Nat.le_of_ble_eq_true rfl, Nat.le_of_ble_eq_true rfl⟩ nm_X9_size rfl (Nat.le_of_ble_eq_true rfl) (kIp fun r34 h => ?_)
      refine jq_aload_n (k0 := 0) dX9_movedOf_37 hC rfl rfl ?_
      refine jq_get (k0 := 1) (n := 0) (o := 32) dX9_movedOf_38 hC (cl_0 (by decide)) rfl rfl hi_X9_movedOf_X9 (by decide) hl_X9_movedOf_7 rfl rfl ?_
      refine jq_bipush (v := (94 : Int32)) dX9_movedOf_41 hC (by decide) ?_
      refine jq_iald (n := 0) (o := 33) (j := 94) dX9_movedOf_43 hC (cl_0 (by decide)) rfl (vin (by decide)) (by decide) ?_
      refine jq_icmp_gt (tgt := 49) dX9_movedOf_44 hC (by decide) (fun c44 => ?_) (fun c44 => ?_)
      · have h := h.1 c44
        refine jq_aload_n (k0 := 0) dX9_movedOf_49 hC rfl rfl ?_
        refine jq_get (k0 := 21) (n := 0) (o := 32) dX9_movedOf_50 hC (cl_0 (by decide)) rfl rfl hi_X9_movedOf_X9 (by decide) hl_X9_movedOf_62 rfl rfl ?_
        refine jq_iload_n (k0 := 1) dX9_movedOf_53 hC rfl rfl ?_
        obtain ⟨b54, h⟩ := h
        refine jq_iald (n := 0) (o := 50) (j := x1.toNatClampNeg) dX9_movedOf_54 hC (cl_0 (by decide)) rfl b54 rfl ?_
        refine jq_aload_n (k0 := 0) dX9_movedOf_55 hC rfl rfl ?_
        refine jq_get (k0 := 1) (n := 0) (o := 32) dX9_movedOf_56 hC (cl_0 (by decide)) rfl rfl hi_X9_movedOf_X9 (by decide) hl_X9_movedOf_7 rfl rfl ?_
        refine jq_iconst (v := (1 : Int32)) dX9_movedOf_59 hC (by decide) ?_
        refine jq_iload_n (k0 := 1) dX9_movedOf_60 hC rfl rfl ?_
        refine jq_iadd dX9_movedOf_61 hC ?_
        obtain ⟨b62, h⟩ := h
        refine jq_iald (n := 0) (o := 33) (j := ((1 : Int32) + x1).toNatClampNeg) dX9_movedOf_62 hC (cl_0 (by decide)) rfl b62 rfl ?_
        refine jq_icmp_ge (tgt := 70) dX9_movedOf_63 hC (by decide) (fun c63 => ?_) (fun c63 => ?_)
        · have h := h.1 c63
          refine jq_iconst (v := (2 : Int32)) dX9_movedOf_70 hC (by decide) ?_
          exact jq_iret dX9_movedOf_71 hC he rfl ⟨_, rfl, rfl, h⟩
        · have h := h.2 c63
          refine jq_iconst (v := (1 : Int32)) dX9_movedOf_66 hC (by decide) ?_
          refine jq_goto (tgt := 71) dX9_movedOf_67 hC (by decide) ?_
          exact jq_iret dX9_movedOf_71 hC he rfl ⟨_, rfl, rfl, h⟩
      · have h := h.2 c44
        refine jq_iconst (v := (0 : Int32)) dX9_movedOf_47 hC (by decide) ?_
        exact jq_iret dX9_movedOf_48 hC he rfl ⟨_, rfl, rfl, h⟩
theorem mt_X9_movedOf {G : Gt} {x1 : Int32} {w : Wd} {Q : Int32 → Prop} (h : wp_X9_movedOf x1 w Q) : Mt G D_X9_movedOf [.ref (aD G 0 32), .int x1] w (qip w Q) := Mt_of (by decide +kernel) rfl rfl (Nat.le_of_ble_eq_true rfl) (fun M Qf hC he => ok_X9_movedOf hC he h)
/-! X9.legsAt(I)I -/
theorem dX9_legsAt_0 : decode cX9_legsAt 0 = .ok (.iconst 0, 1) := by decide +kernel
theorem dX9_legsAt_1 : decode cX9_legsAt 1 = .ok (.istore_n 2, 1) := by decide +kernel
theorem dX9_legsAt_2 : decode cX9_legsAt 2 = .ok (.iconst 0, 1) := by decide +kernel
theorem dX9_legsAt_3 : decode cX9_legsAt 3 = .ok (.istore_n 3, 1) := by decide +kernel
theorem dX9_legsAt_4 : decode cX9_legsAt 4 = .ok (.iload_n 3, 1) := by decide +kernel
theorem dX9_legsAt_5 : decode cX9_legsAt 5 = .ok (.aload_n 0, 1) := by decide +kernel
theorem dX9_legsAt_6 : decode cX9_legsAt 6 = .ok (.getfield 7, 3) := by decide +kernel
theorem dX9_legsAt_9 : decode cX9_legsAt 9 = .ok (.bipush 11, 2) := by decide +kernel
theorem dX9_legsAt_11 : decode cX9_legsAt 11 = .ok (.iaload, 1) := by decide +kernel
theorem dX9_legsAt_12 : decode cX9_legsAt 12 = .ok (.if_icmp .ge 45, 3) := by decide +kernel
theorem dX9_legsAt_15 : decode cX9_legsAt 15 = .ok (.iload_n 2, 1) := by decide +kernel
theorem dX9_legsAt_16 : decode cX9_legsAt 16 = .ok (.aload_n 0, 1) := by decide +kernel
theorem dX9_legsAt_17 : decode cX9_legsAt 17 = .ok (.getfield 7, 3) := by decide +kernel
theorem dX9_legsAt_20 : decode cX9_legsAt 20 = .ok (.iload_n 3, 1) := by decide +kernel
theorem dX9_legsAt_21 : decode cX9_legsAt 21 = .ok (.iconst 0, 1) := by decide +kernel
theorem dX9_legsAt_22 : decode cX9_legsAt 22 = .ok (.invokestatic 76, 3) := by decide +kernel
theorem dX9_legsAt_25 : decode cX9_legsAt 25 = .ok (.iaload, 1) := by decide +kernel
theorem dX9_legsAt_26 : decode cX9_legsAt 26 = .ok (.iload_n 1, 1) := by decide +kernel
theorem dX9_legsAt_27 : decode cX9_legsAt 27 = .ok (.if_icmp .eq 17, 3) := by decide +kernel
theorem dX9_legsAt_30 : decode cX9_legsAt 30 = .ok (.aload_n 0, 1) := by decide +kernel
theorem dX9_legsAt_31 : decode cX9_legsAt 31 = .ok (.getfield 7, 3) := by decide +kernel
theorem dX9_legsAt_34 : decode cX9_legsAt 34 = .ok (.iload_n 3, 1) := by decide +kernel
theorem dX9_legsAt_35 : decode cX9_legsAt 35 = .ok (.iconst 1, 1) := by decide +kernel
theorem dX9_legsAt_36 : decode cX9_legsAt 36 = .ok (.invokestatic 76, 3) := by decide +kernel
theorem dX9_legsAt_39 : decode cX9_legsAt 39 = .ok (.iaload, 1) := by decide +kernel
theorem dX9_legsAt_40 : decode cX9_legsAt 40 = .ok (.iload_n 1, 1) := by decide +kernel
theorem dX9_legsAt_41 : decode cX9_legsAt 41 = .ok (.if_icmp .ne 7, 3) := by decide +kernel
theorem dX9_legsAt_44 : decode cX9_legsAt 44 = .ok (.iconst 1, 1) := by decide +kernel
theorem dX9_legsAt_45 : decode cX9_legsAt 45 = .ok (.goto 4, 3) := by decide +kernel
theorem dX9_legsAt_48 : decode cX9_legsAt 48 = .ok (.iconst 0, 1) := by decide +kernel
theorem dX9_legsAt_49 : decode cX9_legsAt 49 = .ok (.iadd, 1) := by decide +kernel
theorem dX9_legsAt_50 : decode cX9_legsAt 50 = .ok (.istore_n 2, 1) := by decide +kernel
theorem dX9_legsAt_51 : decode cX9_legsAt 51 = .ok (.iinc 3 1, 3) := by decide +kernel
theorem dX9_legsAt_54 : decode cX9_legsAt 54 = .ok (.goto (-50), 3) := by decide +kernel
theorem dX9_legsAt_57 : decode cX9_legsAt 57 = .ok (.iload_n 2, 1) := by decide +kernel
theorem dX9_legsAt_58 : decode cX9_legsAt 58 = .ok (.ireturn, 1) := by decide +kernel
set_option maxRecDepth 20000 in
theorem ggX9_legsAt_X9_of : GoodIn wsX9_legsAt wsX9_of := goodIn_r _ [5] (by decide +kernel) (by decide +kernel)
set_option maxRecDepth 20000 in
theorem gX9_legsAt_X9_of : GoodIn wsX9_legsAt (va_wsS RX9 76 yX9_of wsX9_of) := goodIn_app (goodIn_of _ (by decide +kernel)) ggX9_legsAt_X9_of
def D_X9_legsAt : Md := (yX9_legsAt, cX9_legsAt, 4, (some .int), wsX9_legsAt, RX9, { frames := 1, cells := 0, slots := 0, locals := 21 })
theorem nm_X9_legsAt : nmD D_X9_legsAt 1 := ⟨rfl, by decide +kernel, by decide +kernel, by decide +kernel⟩
theorem hi_X9_legsAt_X9 : ∀ w ∈ u_ws RX9 TX9 25, w ∈ wsX9_legsAt := by decide +kernel
theorem hl_X9_legsAt_7 : Cond.fieldLink RX9 7 "LevelLoopsModel" "s" "[I" ∈ wsX9_legsAt := by decide +kernel
def wp_X9_legsAt_B4 (x1 : Int32) (x2 : Int32) (x3 : Int32) (w : Wd) (Q : Int32 → Prop) (K4 : Int32 → Int32 → Prop) : Prop :=
  (((wi w 0 33 11) ≤ x3 → Q x2) ∧ (¬ (wi w 0 33 11) ≤ x3 → wp_X9_of x3 (0 : Int32) (fun r22 => vp_in r22 95 ∧ (((wi w 0 33 r22.toNatClampNeg) = x1 → K4 (x2 + (1 : Int32)) (x3 + 1)) ∧ (¬ (wi w 0 33 r22.toNatClampNeg) = x1 → wp_X9_of x3 (1 : Int32) (fun r36 => vp_in r36 95 ∧ ((¬ (wi w 0 33 r36.toNatClampNeg) = x1 → K4 (x2 + (0 : Int32)) (x3 + 1)) ∧ ((wi w 0 33 r36.toNatClampNeg) = x1 → K4 (x2 + (1 : Int32)) (x3 + 1)))))))))
def wp_X9_legsAt_L4 (x1 : Int32) (x2 : Int32) (x3 : Int32) (w : Wd) (Q : Int32 → Prop) : Prop :=
  ∃ (I : Int32 → Int32 → Prop) (μ : Int32 → Int32 → Nat), I x2 x3 ∧ ∀ (x2 : Int32) (x3 : Int32), I x2 x3 → wp_X9_legsAt_B4 x1 x2 x3 w Q (fun x2' x3' => I x2' x3' ∧ μ x2' x3' < μ x2 x3)
def wp_X9_legsAt (x1 : Int32) (w : Wd) (Q : Int32 → Prop) : Prop :=
  wp_X9_legsAt_L4 x1 (0 : Int32) (0 : Int32) w Q
theorem ok_X9_legsAt_B4 {G : Gt} {M : Mx} {Qf : State → Prop} {x1 : Int32} {x2 : Int32} {x3 : Int32} {w : Wd} {Q : Int32 → Prop} {K4 : Int32 → Int32 → Prop} (hC : cx G D_X9_legsAt M) (he : en G M (qip w Q) Qf) (h : wp_X9_legsAt_B4 x1 x2 x3 w Q K4) (hK4 : ∀ (x2 : Int32) (x3 : Int32), K4 x2 x3 → jq G D_X9_legsAt M Qf 4 [(0, .ref (aD G 0 32)), (1, .int x1), (2, .int x2), (3, .int x3)] [] w) : jq G D_X9_legsAt M Qf 4 [(0, .ref (aD G 0 32)), (1, .int x1), (2, .int x2), (3, .int x3)] [] w := by
  unfold wp_X9_legsAt_B4 at h
  refine jq_iload_n (k0 := 3) dX9_legsAt_4 hC rfl rfl ?_
  refine jq_aload_n (k0 := 0) dX9_legsAt_5 hC rfl rfl ?_
  refine jq_get (k0 := 1) (n := 0) (o := 32) dX9_legsAt_6 hC (cl_0 (by decide)) rfl rfl hi_X9_legsAt_X9 (by decide) hl_X9_legsAt_7 rfl rfl ?_
  refine jq_bipush (v := (11 : Int32)) dX9_legsAt_9 hC (by decide) ?_
  refine jq_iald (n := 0) (o := 33) (j := 11) dX9_legsAt_11 hC (cl_0 (by decide)) rfl (vin (by decide)) (by decide) ?_
  refine jq_icmp_ge (tgt := 57) dX9_legsAt_12 hC (by decide) (fun c12 => ?_) (fun c12 => ?_)
  · have h := h.1 c12
    refine jq_iload_n (k0 := 2) dX9_legsAt_57 hC rfl rfl ?_
    exact jq_iret dX9_legsAt_58 hC he rfl ⟨_, rfl, rfl, h⟩
  · have h := h.2 c12
    refine jq_iload_n (k0 := 2) dX9_legsAt_15 hC rfl rfl ?_
    refine jq_aload_n (k0 := 0) dX9_legsAt_16 hC rfl rfl ?_
    refine jq_get (k0 := 1) (n := 0) (o := 32) dX9_legsAt_17 hC (cl_0 (by decide)) rfl rfl hi_X9_legsAt_X9 (by decide) hl_X9_legsAt_7 rfl rfl ?_
    refine jq_iload_n (k0 := 3) dX9_legsAt_20 hC rfl rfl ?_
    refine jq_iconst (v := (0 : Int32)) dX9_legsAt_21 hC (by decide) ?_
    refine jq_callS (As := [.int x3, .int (0 : Int32)]) (rest := [.ref (aD G 0 33), .int x2]) (D' := D_X9_of) dX9_legsAt_22 hC (mt_X9_of h) gX9_legsAt_X9_of rfl ⟨rfl, rfl, Nat.le_of_ble_eq_true rfl, Nat.le_of_ble_eq_true rfl⟩ nm_X9_of rfl (Nat.le_of_ble_eq_true rfl) (kIp fun r22 h => ?_)
    obtain ⟨b25, h⟩ := h
    refine jq_iald (n := 0) (o := 33) (j := r22.toNatClampNeg) dX9_legsAt_25 hC (cl_0 (by decide)) rfl b25 rfl ?_
    refine jq_iload_n (k0 := 1) dX9_legsAt_26 hC rfl rfl ?_
    refine jq_icmp_eq (tgt := 44) dX9_legsAt_27 hC (by decide) (fun c27 => ?_) (fun c27 => ?_)
    · have h := h.1 c27
      refine jq_iconst (v := (1 : Int32)) dX9_legsAt_44 hC (by decide) ?_
      refine jq_goto (tgt := 49) dX9_legsAt_45 hC (by decide) ?_
      refine jq_iadd dX9_legsAt_49 hC ?_
      refine jq_istore_n (L' := [(2, .int (x2 + (1 : Int32))), (0, .ref (aD G 0 32)), (1, .int x1), (3, .int x3)]) dX9_legsAt_50 hC rfl (by decide) rfl ?_
      refine jq_iinc (k0 := 3) (v := (x3 + 1)) (L' := [(3, .int (x3 + 1)), (2, .int (x2 + (1 : Int32))), (0, .ref (aD G 0 32)), (1, .int x1)]) dX9_legsAt_51 hC rfl rfl (by decide) rfl ?_
      refine jq_goto (tgt := 4) dX9_legsAt_54 hC (by decide) ?_
      exact jq_less (L' := [(0, .ref (aD G 0 32)), (1, .int x1), (2, .int (x2 + (1 : Int32))), (3, .int (x3 + 1))]) [2, 3, 1, 0] rfl (hK4 _ _ h)
    · have h := h.2 c27
      refine jq_aload_n (k0 := 0) dX9_legsAt_30 hC rfl rfl ?_
      refine jq_get (k0 := 1) (n := 0) (o := 32) dX9_legsAt_31 hC (cl_0 (by decide)) rfl rfl hi_X9_legsAt_X9 (by decide) hl_X9_legsAt_7 rfl rfl ?_
      refine jq_iload_n (k0 := 3) dX9_legsAt_34 hC rfl rfl ?_
      refine jq_iconst (v := (1 : Int32)) dX9_legsAt_35 hC (by decide) ?_
      refine jq_callS (As := [.int x3, .int (1 : Int32)]) (rest := [.ref (aD G 0 33), .int x2]) (D' := D_X9_of) dX9_legsAt_36 hC (mt_X9_of h) gX9_legsAt_X9_of rfl ⟨rfl, rfl, Nat.le_of_ble_eq_true rfl, Nat.le_of_ble_eq_true rfl⟩ nm_X9_of rfl (Nat.le_of_ble_eq_true rfl) (kIp fun r36 h => ?_)
      obtain ⟨b39, h⟩ := h
      refine jq_iald (n := 0) (o := 33) (j := r36.toNatClampNeg) dX9_legsAt_39 hC (cl_0 (by decide)) rfl b39 rfl ?_
      refine jq_iload_n (k0 := 1) dX9_legsAt_40 hC rfl rfl ?_
      refine jq_icmp_ne (tgt := 48) dX9_legsAt_41 hC (by decide) (fun c41 => ?_) (fun c41 => ?_)
      · have h := h.1 c41
        refine jq_iconst (v := (0 : Int32)) dX9_legsAt_48 hC (by decide) ?_
        refine jq_iadd dX9_legsAt_49 hC ?_
        refine jq_istore_n (L' := [(2, .int (x2 + (0 : Int32))), (0, .ref (aD G 0 32)), (1, .int x1), (3, .int x3)]) dX9_legsAt_50 hC rfl (by decide) rfl ?_
        refine jq_iinc (k0 := 3) (v := (x3 + 1)) (L' := [(3, .int (x3 + 1)), (2, .int (x2 + (0 : Int32))), (0, .ref (aD G 0 32)), (1, .int x1)]) dX9_legsAt_51 hC rfl rfl (by decide) rfl ?_
        refine jq_goto (tgt := 4) dX9_legsAt_54 hC (by decide) ?_
        exact jq_less (L' := [(0, .ref (aD G 0 32)), (1, .int x1), (2, .int (x2 + (0 : Int32))), (3, .int (x3 + 1))]) [2, 3, 1, 0] rfl (hK4 _ _ h)
      · have h := h.2 c41
        refine jq_iconst (v := (1 : Int32)) dX9_legsAt_44 hC (by decide) ?_
        refine jq_goto (tgt := 49) dX9_legsAt_45 hC (by decide) ?_
        refine jq_iadd dX9_legsAt_49 hC ?_
        refine jq_istore_n (L' := [(2, .int (x2 + (1 : Int32))), (0, .ref (aD G 0 32)), (1, .int x1), (3, .int x3)]) dX9_legsAt_50 hC rfl (by decide) rfl ?_
        refine jq_iinc (k0 := 3) (v := (x3 + 1)) (L' := [(3, .int (x3 + 1)), (2, .int (x2 + (1 : Int32))), (0, .ref (aD G 0 32)), (1, .int x1)]) dX9_legsAt_51 hC rfl rfl (by decide) rfl ?_
        refine jq_goto (tgt := 4) dX9_legsAt_54 hC (by decide) ?_
        exact jq_less (L' := [(0, .ref (aD G 0 32)), (1, .int x1), (2, .int (x2 + (1 : Int32))), (3, .int (x3 + 1))]) [2, 3, 1, 0] rfl (hK4 _ _ h)
theorem ok_X9_legsAt_L4 {G : Gt} {M : Mx} {Qf : State → Prop} {x1 : Int32} {x2 : Int32} {x3 : Int32} {w : Wd} {Q : Int32 → Prop} (hC : cx G D_X9_legsAt M) (he : en G M (qip w Q) Qf) (h : wp_X9_legsAt_L4 x1 x2 x3 w Q) : jq G D_X9_legsAt M Qf 4 [(0, .ref (aD G 0 32)), (1, .int x1), (2, .int x2), (3, .int x3)] [] w := by
  unfold wp_X9_legsAt_L4 at h
  obtain ⟨I, μ, h0, hs⟩ := h
  exact lp_ind (σ := Int32 × Int32) (P := fun s => jq G D_X9_legsAt M Qf 4 [(0, .ref (aD G 0 32)), (1, .int x1), (2, .int s.1), (3, .int s.2)] [] w) (fun s => I s.1 s.2) (fun s => μ s.1 s.2) (fun s h1 ih => ok_X9_legsAt_B4 hC he (hs s.1 s.2 h1) (fun x2' x3' h => ih (x2', x3') h.1 h.2)) (x2, x3) h0
theorem ok_X9_legsAt {G : Gt} {M : Mx} {Qf : State → Prop} {x1 : Int32} {w : Wd} {Q : Int32 → Prop} (hC : cx G D_X9_legsAt M) (he : en G M (qip w Q) Qf) (h : wp_X9_legsAt x1 w Q) : jq G D_X9_legsAt M Qf 0 [(0, .ref (aD G 0 32)), (1, .int x1)] [] w := by
  unfold wp_X9_legsAt at h
  refine jq_iconst (v := (0 : Int32)) dX9_legsAt_0 hC (by decide) ?_
  refine jq_istore_n (L' := [(2, .int (0 : Int32)), (0, .ref (aD G 0 32)), (1, .int x1)]) dX9_legsAt_1 hC rfl (by decide) rfl ?_
  refine jq_iconst (v := (0 : Int32)) dX9_legsAt_2 hC (by decide) ?_
  refine jq_istore_n (L' := [(3, .int (0 : Int32)), (2, .int (0 : Int32)), (0, .ref (aD G 0 32)), (1, .int x1)]) dX9_legsAt_3 hC rfl (by decide) rfl ?_
  refine jq_less (L' := [(0, .ref (aD G 0 32)), (1, .int x1), (2, .int (0 : Int32)), (3, .int (0 : Int32))]) [2, 3, 1, 0] rfl ?_
  exact ok_X9_legsAt_L4 hC he h
theorem mt_X9_legsAt {G : Gt} {x1 : Int32} {w : Wd} {Q : Int32 → Prop} (h : wp_X9_legsAt x1 w Q) : Mt G D_X9_legsAt [.ref (aD G 0 32), .int x1] w (qip w Q) := Mt_of (by decide +kernel) rfl rfl (Nat.le_of_ble_eq_true rfl) (fun M Qf hC he => ok_X9_legsAt hC he h)
/-! X9.markOf(II)I -/
theorem dX9_markOf_0 : decode cX9_markOf 0 = .ok (.iload_n 2, 1) := by decide +kernel
theorem dX9_markOf_1 : decode cX9_markOf 1 = .ok (.tableswitch 81 0 5 #[39, 48, 55, 62, 68, 74], 39) := by decide +kernel
theorem dX9_markOf_40 : decode cX9_markOf 40 = .ok (.aload_n 0, 1) := by decide +kernel
theorem dX9_markOf_41 : decode cX9_markOf 41 = .ok (.getfield 7, 3) := by decide +kernel
theorem dX9_markOf_44 : decode cX9_markOf 44 = .ok (.iconst 1, 1) := by decide +kernel
theorem dX9_markOf_45 : decode cX9_markOf 45 = .ok (.iload_n 1, 1) := by decide +kernel
theorem dX9_markOf_46 : decode cX9_markOf 46 = .ok (.iadd, 1) := by decide +kernel
theorem dX9_markOf_47 : decode cX9_markOf 47 = .ok (.iaload, 1) := by decide +kernel
theorem dX9_markOf_48 : decode cX9_markOf 48 = .ok (.ireturn, 1) := by decide +kernel
theorem dX9_markOf_49 : decode cX9_markOf 49 = .ok (.aload_n 0, 1) := by decide +kernel
theorem dX9_markOf_50 : decode cX9_markOf 50 = .ok (.getfield 62, 3) := by decide +kernel
theorem dX9_markOf_53 : decode cX9_markOf 53 = .ok (.iload_n 1, 1) := by decide +kernel
theorem dX9_markOf_54 : decode cX9_markOf 54 = .ok (.iaload, 1) := by decide +kernel
theorem dX9_markOf_55 : decode cX9_markOf 55 = .ok (.ireturn, 1) := by decide +kernel
theorem dX9_markOf_56 : decode cX9_markOf 56 = .ok (.aload_n 0, 1) := by decide +kernel
theorem dX9_markOf_57 : decode cX9_markOf 57 = .ok (.getfield 22, 3) := by decide +kernel
theorem dX9_markOf_60 : decode cX9_markOf 60 = .ok (.iload_n 1, 1) := by decide +kernel
theorem dX9_markOf_61 : decode cX9_markOf 61 = .ok (.iaload, 1) := by decide +kernel
theorem dX9_markOf_62 : decode cX9_markOf 62 = .ok (.ireturn, 1) := by decide +kernel
theorem dX9_markOf_63 : decode cX9_markOf 63 = .ok (.aload_n 0, 1) := by decide +kernel
theorem dX9_markOf_64 : decode cX9_markOf 64 = .ok (.iload_n 1, 1) := by decide +kernel
theorem dX9_markOf_65 : decode cX9_markOf 65 = .ok (.invokevirtual 219, 3) := by decide +kernel
theorem dX9_markOf_68 : decode cX9_markOf 68 = .ok (.ireturn, 1) := by decide +kernel
theorem dX9_markOf_69 : decode cX9_markOf 69 = .ok (.aload_n 0, 1) := by decide +kernel
theorem dX9_markOf_70 : decode cX9_markOf 70 = .ok (.iload_n 1, 1) := by decide +kernel
theorem dX9_markOf_71 : decode cX9_markOf 71 = .ok (.invokevirtual 222, 3) := by decide +kernel
theorem dX9_markOf_74 : decode cX9_markOf 74 = .ok (.ireturn, 1) := by decide +kernel
theorem dX9_markOf_75 : decode cX9_markOf 75 = .ok (.aload_n 0, 1) := by decide +kernel
theorem dX9_markOf_76 : decode cX9_markOf 76 = .ok (.getfield 59, 3) := by decide +kernel
theorem dX9_markOf_79 : decode cX9_markOf 79 = .ok (.iload_n 1, 1) := by decide +kernel
theorem dX9_markOf_80 : decode cX9_markOf 80 = .ok (.iaload, 1) := by decide +kernel
theorem dX9_markOf_81 : decode cX9_markOf 81 = .ok (.ireturn, 1) := by decide +kernel
theorem dX9_markOf_82 : decode cX9_markOf 82 = .ok (.aload_n 0, 1) := by decide +kernel
theorem dX9_markOf_83 : decode cX9_markOf 83 = .ok (.iload_n 1, 1) := by decide +kernel
theorem dX9_markOf_84 : decode cX9_markOf 84 = .ok (.invokevirtual 129, 3) := by decide +kernel
theorem dX9_markOf_87 : decode cX9_markOf 87 = .ok (.ifCond .eq 11, 3) := by decide +kernel
theorem dX9_markOf_90 : decode cX9_markOf 90 = .ok (.aload_n 0, 1) := by decide +kernel
theorem dX9_markOf_91 : decode cX9_markOf 91 = .ok (.iload_n 1, 1) := by decide +kernel
theorem dX9_markOf_92 : decode cX9_markOf 92 = .ok (.invokevirtual 135, 3) := by decide +kernel
theorem dX9_markOf_95 : decode cX9_markOf 95 = .ok (.goto 4, 3) := by decide +kernel
theorem dX9_markOf_98 : decode cX9_markOf 98 = .ok (.iconst (-1), 1) := by decide +kernel
theorem dX9_markOf_99 : decode cX9_markOf 99 = .ok (.ireturn, 1) := by decide +kernel
set_option maxRecDepth 20000 in
theorem ggX9_markOf_X9_agrees : GoodIn wsX9_markOf wsX9_agrees := goodIn_r _ [28, 1, 3, 11, 12, 13, 8, 14, 29, 30, 31, 32, 33, 34, 35, 36, 37, 38, 39, 40, 41, 42, 43, 22, 23, 24, 44, 45, 46, 47, 48, 15, 16, 17, 49, 50, 51, 52, 53, 54, 55, 56, 57, 58, 59, 60, 61, 62, 63, 64, 65, 66, 67, 68, 69, 70, 71, 72, 73] (by decide +kernel) (by decide +kernel)
set_option maxRecDepth 20000 in
theorem gX9_markOf_X9_agrees : GoodIn wsX9_markOf (wsV RX9 135 RX9 yX9_agrees wsX9_agrees) := goodIn_app (goodIn_of _ (by decide +kernel)) ggX9_markOf_X9_agrees
set_option maxRecDepth 20000 in
theorem ggX9_markOf_X9_isKnown : GoodIn wsX9_markOf wsX9_isKnown := goodIn_r _ [14, 1, 49, 50, 51, 52, 53, 54, 55, 56, 57, 58, 59, 60, 61, 62, 63, 64, 65, 66, 67, 68, 69, 70, 71, 72, 73] (by decide +kernel) (by decide +kernel)
set_option maxRecDepth 20000 in
theorem gX9_markOf_X9_isKnown : GoodIn wsX9_markOf (wsV RX9 129 RX9 yX9_isKnown wsX9_isKnown) := goodIn_app (goodIn_of _ (by decide +kernel)) ggX9_markOf_X9_isKnown
set_option maxRecDepth 20000 in
theorem ggX9_markOf_X9_movedOf : GoodIn wsX9_markOf wsX9_movedOf := goodIn_r _ [9, 2, 10, 1, 11, 12, 13, 8, 14, 15, 16, 17, 49, 50, 51, 52, 53, 54, 55, 56, 57, 58, 59, 60, 61, 62, 63, 64, 65, 66, 67, 68, 69, 70, 71, 72, 73] (by decide +kernel) (by decide +kernel)
set_option maxRecDepth 20000 in
theorem gX9_markOf_X9_movedOf : GoodIn wsX9_markOf (wsV RX9 219 RX9 yX9_movedOf wsX9_movedOf) := goodIn_app (goodIn_of _ (by decide +kernel)) ggX9_markOf_X9_movedOf
set_option maxRecDepth 20000 in
theorem ggX9_markOf_X9_legsAt : GoodIn wsX9_markOf wsX9_legsAt := goodIn_r _ [21, 1, 22, 23, 8, 24, 49, 50, 51, 52, 53, 54, 55, 56, 57, 58, 59, 60, 61, 62, 63, 64, 65, 66, 67, 68, 69, 70, 71, 72, 73] (by decide +kernel) (by decide +kernel)
set_option maxRecDepth 20000 in
theorem gX9_markOf_X9_legsAt : GoodIn wsX9_markOf (wsV RX9 222 RX9 yX9_legsAt wsX9_legsAt) := goodIn_app (goodIn_of _ (by decide +kernel)) ggX9_markOf_X9_legsAt
def D_X9_markOf : Md := (yX9_markOf, cX9_markOf, 3, (some .int), wsX9_markOf, RX9, { frames := 5, cells := 0, slots := 0, locals := 114 })
theorem nm_X9_markOf : nmD D_X9_markOf 2 := ⟨rfl, by decide +kernel, by decide +kernel, by decide +kernel⟩
theorem hi_X9_markOf_X9 : ∀ w ∈ u_ws RX9 TX9 25, w ∈ wsX9_markOf := by decide +kernel
theorem hl_X9_markOf_7 : Cond.fieldLink RX9 7 "LevelLoopsModel" "s" "[I" ∈ wsX9_markOf := by decide +kernel
theorem hl_X9_markOf_22 : Cond.fieldLink RX9 22 "LevelLoopsModel" "net" "[I" ∈ wsX9_markOf := by decide +kernel
theorem hl_X9_markOf_59 : Cond.fieldLink RX9 59 "LevelLoopsModel" "base" "[I" ∈ wsX9_markOf := by decide +kernel
theorem hl_X9_markOf_62 : Cond.fieldLink RX9 62 "LevelLoopsModel" "height" "[I" ∈ wsX9_markOf := by decide +kernel
def wp_X9_markOf (x1 : Int32) (x2 : Int32) (w : Wd) (Q : Int32 → Wd → Prop) : Prop :=
  ((x2 = 0 → vp_in ((1 : Int32) + x1) 95 ∧ Q (wi w 0 33 ((1 : Int32) + x1).toNatClampNeg) w) ∧ (x2 = 1 → vp_in x1 10 ∧ Q (wi w 0 50 x1.toNatClampNeg) w) ∧ (x2 = 2 → vp_in x1 10 ∧ Q (wi w 0 37 x1.toNatClampNeg) w) ∧ (x2 = 3 → wp_X9_movedOf x1 w (fun r65 => Q r65 w)) ∧ (x2 = 4 → wp_X9_legsAt x1 w (fun r71 => Q r71 w)) ∧ (x2 = 5 → vp_in x1 10 ∧ Q (wi w 0 49 x1.toNatClampNeg) w) ∧ (¬ x2 = 0 → ¬ x2 = 1 → ¬ x2 = 2 → ¬ x2 = 3 → ¬ x2 = 4 → ¬ x2 = 5 → wp_X9_isKnown x1 w (fun r84 => ((r84 = 0 → Q (-1 : Int32) w) ∧ (¬ r84 = 0 → wp_X9_agrees x1 w (fun r92 w92 => Q r92 w92))))))
theorem ok_X9_markOf {G : Gt} {M : Mx} {Qf : State → Prop} {x1 : Int32} {x2 : Int32} {w : Wd} {Q : Int32 → Wd → Prop} (hC : cx G D_X9_markOf M) (he : en G M (qi Q) Qf) (h : wp_X9_markOf x1 x2 w Q) : jq G D_X9_markOf M Qf 0 [(0, .ref (aD G 0 32)), (1, .int x1), (2, .int x2)] [] w := by
  unfold wp_X9_markOf at h
  refine jq_iload_n (k0 := 2) dX9_markOf_0 hC rfl rfl ?_
  by_cases cd : (x2).toInt < 0 ∨ 5 < (x2).toInt
  · refine jq_tout (tgt := 82) dX9_markOf_1 hC cd (by decide) ?_
    have h := h.2.2.2.2.2.2 (fun e => by rw [e] at cd; revert cd; decide) (fun e => by rw [e] at cd; revert cd; decide) (fun e => by rw [e] at cd; revert cd; decide) (fun e => by rw [e] at cd; revert cd; decide) (fun e => by rw [e] at cd; revert cd; decide) (fun e => by rw [e] at cd; revert cd; decide)
    refine jq_aload_n (k0 := 0) dX9_markOf_82 hC rfl rfl ?_
    refine jq_iload_n (k0 := 1) dX9_markOf_83 hC rfl rfl ?_
    refine jq_callV (As := [.int x1]) (rest := []) (n := 0) (o := 32) (D' := D_X9_isKnown) dX9_markOf_84 hC (cl_0 (by decide)) rfl rfl rfl (mt_X9_isKnown h) gX9_markOf_X9_isKnown rfl ⟨rfl, rfl, Nat.le_of_ble_eq_true rfl, Nat.le_of_ble_eq_true rfl⟩ nm_X9_isKnown rfl (Nat.le_of_ble_eq_true rfl) (kIp fun r84 h => ?_)
    refine jq_if_eq (tgt := 98) dX9_markOf_87 hC (by decide) (fun c87 => ?_) (fun c87 => ?_)
    · have h := h.1 c87
      refine jq_iconst (v := (-1 : Int32)) dX9_markOf_98 hC (by decide) ?_
      exact jq_iret dX9_markOf_99 hC he rfl ⟨_, rfl, h⟩
    · have h := h.2 c87
      refine jq_aload_n (k0 := 0) dX9_markOf_90 hC rfl rfl ?_
      refine jq_iload_n (k0 := 1) dX9_markOf_91 hC rfl rfl ?_
      refine jq_callV (As := [.int x1]) (rest := []) (n := 0) (o := 32) (D' := D_X9_agrees) dX9_markOf_92 hC (cl_0 (by decide)) rfl rfl rfl (mt_X9_agrees h) gX9_markOf_X9_agrees rfl ⟨rfl, rfl, Nat.le_of_ble_eq_true rfl, Nat.le_of_ble_eq_true rfl⟩ nm_X9_agrees rfl (Nat.le_of_ble_eq_true rfl) (kI fun r92 w92 h => ?_)
      refine jq_goto (tgt := 99) dX9_markOf_95 hC (by decide) ?_
      exact jq_iret dX9_markOf_99 hC he rfl ⟨_, rfl, h⟩
  have cs : (x2).toInt = 0 ∨ (x2).toInt = 1 ∨ (x2).toInt = 2 ∨ (x2).toInt = 3 ∨ (x2).toInt = 4 ∨ (x2).toInt = 5 := by omega
  rcases cs with cs | cs | cs | cs | cs | cs
  · refine jq_tin (tgt := 40) (off := 39) dX9_markOf_1 hC (fun q => cd (Or.inl q)) (fun q => cd (Or.inr q)) (by rw [cs]; rfl) (by decide) ?_
    have h := h.1 (Int32.toInt_inj.mp (cs.trans (by decide)))
    refine jq_aload_n (k0 := 0) dX9_markOf_40 hC rfl rfl ?_
    refine jq_get (k0 := 1) (n := 0) (o := 32) dX9_markOf_41 hC (cl_0 (by decide)) rfl rfl hi_X9_markOf_X9 (by decide) hl_X9_markOf_7 rfl rfl ?_
    refine jq_iconst (v := (1 : Int32)) dX9_markOf_44 hC (by decide) ?_
    refine jq_iload_n (k0 := 1) dX9_markOf_45 hC rfl rfl ?_
    refine jq_iadd dX9_markOf_46 hC ?_
    obtain ⟨b47, h⟩ := h
    refine jq_iald (n := 0) (o := 33) (j := ((1 : Int32) + x1).toNatClampNeg) dX9_markOf_47 hC (cl_0 (by decide)) rfl b47 rfl ?_
    exact jq_iret dX9_markOf_48 hC he rfl ⟨_, rfl, h⟩
  · refine jq_tin (tgt := 49) (off := 48) dX9_markOf_1 hC (fun q => cd (Or.inl q)) (fun q => cd (Or.inr q)) (by rw [cs]; rfl) (by decide) ?_
    have h := h.2.1 (Int32.toInt_inj.mp (cs.trans (by decide)))
    refine jq_aload_n (k0 := 0) dX9_markOf_49 hC rfl rfl ?_
    refine jq_get (k0 := 21) (n := 0) (o := 32) dX9_markOf_50 hC (cl_0 (by decide)) rfl rfl hi_X9_markOf_X9 (by decide) hl_X9_markOf_62 rfl rfl ?_
    refine jq_iload_n (k0 := 1) dX9_markOf_53 hC rfl rfl ?_
    obtain ⟨b54, h⟩ := h
    refine jq_iald (n := 0) (o := 50) (j := x1.toNatClampNeg) dX9_markOf_54 hC (cl_0 (by decide)) rfl b54 rfl ?_
    exact jq_iret dX9_markOf_55 hC he rfl ⟨_, rfl, h⟩
  · refine jq_tin (tgt := 56) (off := 55) dX9_markOf_1 hC (fun q => cd (Or.inl q)) (fun q => cd (Or.inr q)) (by rw [cs]; rfl) (by decide) ?_
    have h := h.2.2.1 (Int32.toInt_inj.mp (cs.trans (by decide)))
    refine jq_aload_n (k0 := 0) dX9_markOf_56 hC rfl rfl ?_
    refine jq_get (k0 := 7) (n := 0) (o := 32) dX9_markOf_57 hC (cl_0 (by decide)) rfl rfl hi_X9_markOf_X9 (by decide) hl_X9_markOf_22 rfl rfl ?_
    refine jq_iload_n (k0 := 1) dX9_markOf_60 hC rfl rfl ?_
    obtain ⟨b61, h⟩ := h
    refine jq_iald (n := 0) (o := 37) (j := x1.toNatClampNeg) dX9_markOf_61 hC (cl_0 (by decide)) rfl b61 rfl ?_
    exact jq_iret dX9_markOf_62 hC he rfl ⟨_, rfl, h⟩
  · refine jq_tin (tgt := 63) (off := 62) dX9_markOf_1 hC (fun q => cd (Or.inl q)) (fun q => cd (Or.inr q)) (by rw [cs]; rfl) (by decide) ?_
    have h := h.2.2.2.1 (Int32.toInt_inj.mp (cs.trans (by decide)))
    refine jq_aload_n (k0 := 0) dX9_markOf_63 hC rfl rfl ?_
    refine jq_iload_n (k0 := 1) dX9_markOf_64 hC rfl rfl ?_
    refine jq_callV (As := [.int x1]) (rest := []) (n := 0) (o := 32) (D' := D_X9_movedOf) dX9_markOf_65 hC (cl_0 (by decide)) rfl rfl rfl (mt_X9_movedOf h) gX9_markOf_X9_movedOf rfl ⟨rfl, rfl, Nat.le_of_ble_eq_true rfl, Nat.le_of_ble_eq_true rfl⟩ nm_X9_movedOf rfl (Nat.le_of_ble_eq_true rfl) (kIp fun r65 h => ?_)
    exact jq_iret dX9_markOf_68 hC he rfl ⟨_, rfl, h⟩
  · refine jq_tin (tgt := 69) (off := 68) dX9_markOf_1 hC (fun q => cd (Or.inl q)) (fun q => cd (Or.inr q)) (by rw [cs]; rfl) (by decide) ?_
    have h := h.2.2.2.2.1 (Int32.toInt_inj.mp (cs.trans (by decide)))
    refine jq_aload_n (k0 := 0) dX9_markOf_69 hC rfl rfl ?_
    refine jq_iload_n (k0 := 1) dX9_markOf_70 hC rfl rfl ?_
    refine jq_callV (As := [.int x1]) (rest := []) (n := 0) (o := 32) (D' := D_X9_legsAt) dX9_markOf_71 hC (cl_0 (by decide)) rfl rfl rfl (mt_X9_legsAt h) gX9_markOf_X9_legsAt rfl ⟨rfl, rfl, Nat.le_of_ble_eq_true rfl, Nat.le_of_ble_eq_true rfl⟩ nm_X9_legsAt rfl (Nat.le_of_ble_eq_true rfl) (kIp fun r71 h => ?_)
    exact jq_iret dX9_markOf_74 hC he rfl ⟨_, rfl, h⟩
  · refine jq_tin (tgt := 75) (off := 74) dX9_markOf_1 hC (fun q => cd (Or.inl q)) (fun q => cd (Or.inr q)) (by rw [cs]; rfl) (by decide) ?_
    have h := h.2.2.2.2.2.1 (Int32.toInt_inj.mp (cs.trans (by decide)))
    refine jq_aload_n (k0 := 0) dX9_markOf_75 hC rfl rfl ?_
    refine jq_get (k0 := 20) (n := 0) (o := 32) dX9_markOf_76 hC (cl_0 (by decide)) rfl rfl hi_X9_markOf_X9 (by decide) hl_X9_markOf_59 rfl rfl ?_
    refine jq_iload_n (k0 := 1) dX9_markOf_79 hC rfl rfl ?_
    obtain ⟨b80, h⟩ := h
    refine jq_iald (n := 0) (o := 49) (j := x1.toNatClampNeg) dX9_markOf_80 hC (cl_0 (by decide)) rfl b80 rfl ?_
    exact jq_iret dX9_markOf_81 hC he rfl ⟨_, rfl, h⟩
theorem mt_X9_markOf {G : Gt} {x1 : Int32} {x2 : Int32} {w : Wd} {Q : Int32 → Wd → Prop} (h : wp_X9_markOf x1 x2 w Q) : Mt G D_X9_markOf [.ref (aD G 0 32), .int x1, .int x2] w (qi Q) := Mt_of (by decide +kernel) rfl rfl (Nat.le_of_ble_eq_true rfl) (fun M Qf hC he => ok_X9_markOf hC he h)
/-! X9.mark(II)I -/
theorem dX9_mark_0 : decode cX9_mark 0 = .ok (.aload_n 0, 1) := by decide +kernel
theorem dX9_mark_1 : decode cX9_mark 1 = .ok (.invokevirtual 170, 3) := by decide +kernel
theorem dX9_mark_4 : decode cX9_mark 4 = .ok (.aload_n 0, 1) := by decide +kernel
theorem dX9_mark_5 : decode cX9_mark 5 = .ok (.aload_n 0, 1) := by decide +kernel
theorem dX9_mark_6 : decode cX9_mark 6 = .ok (.iload_n 1, 1) := by decide +kernel
theorem dX9_mark_7 : decode cX9_mark 7 = .ok (.invokevirtual 167, 3) := by decide +kernel
theorem dX9_mark_10 : decode cX9_mark 10 = .ok (.ifCond .ne 7, 3) := by decide +kernel
theorem dX9_mark_13 : decode cX9_mark 13 = .ok (.iconst 1, 1) := by decide +kernel
theorem dX9_mark_14 : decode cX9_mark 14 = .ok (.goto 18, 3) := by decide +kernel
theorem dX9_mark_17 : decode cX9_mark 17 = .ok (.iload_n 2, 1) := by decide +kernel
theorem dX9_mark_18 : decode cX9_mark 18 = .ok (.iconst 0, 1) := by decide +kernel
theorem dX9_mark_19 : decode cX9_mark 19 = .ok (.bipush 6, 2) := by decide +kernel
theorem dX9_mark_21 : decode cX9_mark 21 = .ok (.invokestatic 69, 3) := by decide +kernel
theorem dX9_mark_24 : decode cX9_mark 24 = .ok (.ifCond .ne 7, 3) := by decide +kernel
theorem dX9_mark_27 : decode cX9_mark 27 = .ok (.iconst 2, 1) := by decide +kernel
theorem dX9_mark_28 : decode cX9_mark 28 = .ok (.goto 4, 3) := by decide +kernel
theorem dX9_mark_31 : decode cX9_mark 31 = .ok (.iconst 0, 1) := by decide +kernel
theorem dX9_mark_32 : decode cX9_mark 32 = .ok (.invokevirtual 158, 3) := by decide +kernel
theorem dX9_mark_35 : decode cX9_mark 35 = .ok (.ifCond .eq 12, 3) := by decide +kernel
theorem dX9_mark_38 : decode cX9_mark 38 = .ok (.aload_n 0, 1) := by decide +kernel
theorem dX9_mark_39 : decode cX9_mark 39 = .ok (.iload_n 1, 1) := by decide +kernel
theorem dX9_mark_40 : decode cX9_mark 40 = .ok (.iload_n 2, 1) := by decide +kernel
theorem dX9_mark_41 : decode cX9_mark 41 = .ok (.invokevirtual 225, 3) := by decide +kernel
theorem dX9_mark_44 : decode cX9_mark 44 = .ok (.goto 4, 3) := by decide +kernel
theorem dX9_mark_47 : decode cX9_mark 47 = .ok (.iconst 0, 1) := by decide +kernel
theorem dX9_mark_48 : decode cX9_mark 48 = .ok (.ireturn, 1) := by decide +kernel
set_option maxRecDepth 20000 in
theorem ggX9_mark_X9_markOf : GoodIn wsX9_mark wsX9_markOf := goodIn_r _ [120, 14, 87, 15, 86, 121, 122, 123, 4, 124, 88, 89, 90, 91, 92, 70, 71, 72, 125, 126, 127, 128, 23, 24, 25, 93, 94, 95, 96, 97, 98, 99, 100, 43, 46, 47, 48, 49, 50, 51, 52, 53, 16, 17, 101, 102, 103, 104, 58, 129, 130, 131, 132, 133, 134, 135, 136, 137, 138, 139, 140, 141, 142, 143, 144, 145, 146, 147, 148, 149, 150, 151, 152, 153] (by decide +kernel) (by decide +kernel)
set_option maxRecDepth 20000 in
theorem gX9_mark_X9_markOf : GoodIn wsX9_mark (wsV RX9 225 RX9 yX9_markOf wsX9_markOf) := goodIn_app (goodIn_of _ (by decide +kernel)) ggX9_mark_X9_markOf
set_option maxRecDepth 20000 in
theorem ggX9_mark_X9_holds : GoodIn wsX9_mark wsX9_holds := goodIn_r _ [115, 116, 129, 130, 131, 132, 133, 134, 135, 136, 137, 138, 139, 140, 141, 142, 143, 144, 145, 146, 147, 148, 149, 150, 151, 152, 153] (by decide +kernel) (by decide +kernel)
set_option maxRecDepth 20000 in
theorem gX9_mark_X9_holds : GoodIn wsX9_mark (wsV RX9 158 RX9 yX9_holds wsX9_holds) := goodIn_app (goodIn_of _ (by decide +kernel)) ggX9_mark_X9_holds
set_option maxRecDepth 20000 in
theorem ggX9_mark_X9_in : GoodIn wsX9_mark wsX9_in := goodIn_r _ [111] (by decide +kernel) (by decide +kernel)
set_option maxRecDepth 20000 in
theorem gX9_mark_X9_in : GoodIn wsX9_mark (va_wsS RX9 69 yX9_in wsX9_in) := goodIn_app (goodIn_of _ (by decide +kernel)) ggX9_mark_X9_in
set_option maxRecDepth 20000 in
theorem ggX9_mark_X9_isMark : GoodIn wsX9_mark wsX9_isMark := goodIn_r _ [108, 14, 109, 110, 4, 111, 129, 130, 131, 132, 133, 134, 135, 136, 137, 138, 139, 140, 141, 142, 143, 144, 145, 146, 147, 148, 149, 150, 151, 152, 153] (by decide +kernel) (by decide +kernel)
set_option maxRecDepth 20000 in
theorem gX9_mark_X9_isMark : GoodIn wsX9_mark (wsV RX9 167 RX9 yX9_isMark wsX9_isMark) := goodIn_app (goodIn_of _ (by decide +kernel)) ggX9_mark_X9_isMark
set_option maxRecDepth 20000 in
theorem ggX9_mark_X9_layAll : GoodIn wsX9_mark wsX9_layAll := goodIn_r _ [5, 6, 7, 8, 4, 9, 10, 11, 12, 13, 14, 15, 16, 17, 18, 19, 20, 21, 22, 23, 24, 25, 26, 27, 28, 29, 30, 31, 32, 33, 34, 35, 36, 37, 38, 39, 40, 41, 42, 43, 44, 45, 46, 47, 48, 49, 50, 51, 52, 53, 54, 55, 56, 57, 58, 59, 60, 61, 62, 63, 64, 65, 66, 67, 68, 69, 70, 71, 72, 73, 74, 75, 76, 77, 78, 79, 80, 81, 82, 83, 84, 85, 86, 87, 88, 89, 90, 91, 92, 93, 94, 95, 96, 97, 98, 99, 100, 101, 102, 103, 104, 129, 130, 131, 132, 133, 134, 135, 136, 137, 138, 139, 140, 141, 142, 143, 144, 145, 146, 147, 148, 149, 150, 151, 152, 153] (by decide +kernel) (by decide +kernel)
set_option maxRecDepth 20000 in
theorem gX9_mark_X9_layAll : GoodIn wsX9_mark (wsV RX9 170 RX9 yX9_layAll wsX9_layAll) := goodIn_app (goodIn_of _ (by decide +kernel)) ggX9_mark_X9_layAll
def D_X9_mark : Md := (yX9_mark, cX9_mark, 3, (some .int), wsX9_mark, RX9, { frames := 7, cells := 0, slots := 0, locals := 158 })
theorem nm_X9_mark : nmD D_X9_mark 2 := ⟨rfl, by decide +kernel, by decide +kernel, by decide +kernel⟩
def wp_X9_mark_J32 (x1 : Int32) (x2 : Int32) (s0 : Int32) (w : Wd) (Q : Int32 → Wd → Prop) : Prop :=
  wp_X9_holds s0 w (fun r32 w32 => ((r32 = 0 → Q (0 : Int32) w32) ∧ (¬ r32 = 0 → wp_X9_markOf x1 x2 w32 (fun r41 w41 => Q r41 w41))))
def wp_X9_mark (x1 : Int32) (x2 : Int32) (w : Wd) (Q : Int32 → Wd → Prop) : Prop :=
  wp_X9_layAll w (fun w1 => wp_X9_isMark x1 w1 (fun r7 => ((¬ r7 = 0 → wp_X9_in x2 (0 : Int32) (6 : Int32) (fun r21 => ((¬ r21 = 0 → wp_X9_mark_J32 x1 x2 (0 : Int32) w1 Q) ∧ (r21 = 0 → wp_X9_mark_J32 x1 x2 (2 : Int32) w1 Q)))) ∧ (r7 = 0 → wp_X9_mark_J32 x1 x2 (1 : Int32) w1 Q))))
theorem ok_X9_mark_J32 {G : Gt} {M : Mx} {Qf : State → Prop} {x1 : Int32} {x2 : Int32} {s0 : Int32} {w : Wd} {Q : Int32 → Wd → Prop} (hC : cx G D_X9_mark M) (he : en G M (qi Q) Qf) (h : wp_X9_mark_J32 x1 x2 s0 w Q) : jq G D_X9_mark M Qf 32 [(0, .ref (aD G 0 32)), (1, .int x1), (2, .int x2)] [.int s0, .ref (aD G 0 32)] w := by
  unfold wp_X9_mark_J32 at h
  refine jq_callV (As := [.int s0]) (rest := []) (n := 0) (o := 32) (D' := D_X9_holds) dX9_mark_32 hC (cl_0 (by decide)) rfl rfl rfl (mt_X9_holds h) gX9_mark_X9_holds rfl ⟨rfl, rfl, Nat.le_of_ble_eq_true rfl, Nat.le_of_ble_eq_true rfl⟩ nm_X9_holds rfl (Nat.le_of_ble_eq_true rfl) (kI fun r32 w32 h => ?_)
  refine jq_if_eq (tgt := 47) dX9_mark_35 hC (by decide) (fun c35 => ?_) (fun c35 => ?_)
  · have h := h.1 c35
    refine jq_iconst (v := (0 : Int32)) dX9_mark_47 hC (by decide) ?_
    exact jq_iret dX9_mark_48 hC he rfl ⟨_, rfl, h⟩
  · have h := h.2 c35
    refine jq_aload_n (k0 := 0) dX9_mark_38 hC rfl rfl ?_
    refine jq_iload_n (k0 := 1) dX9_mark_39 hC rfl rfl ?_
    refine jq_iload_n (k0 := 2) dX9_mark_40 hC rfl rfl ?_
    refine jq_callV (As := [.int x1, .int x2]) (rest := []) (n := 0) (o := 32) (D' := D_X9_markOf) dX9_mark_41 hC (cl_0 (by decide)) rfl rfl rfl (mt_X9_markOf h) gX9_mark_X9_markOf rfl ⟨rfl, rfl, Nat.le_of_ble_eq_true rfl, Nat.le_of_ble_eq_true rfl⟩ nm_X9_markOf rfl (Nat.le_of_ble_eq_true rfl) (kI fun r41 w41 h => ?_)
    refine jq_goto (tgt := 48) dX9_mark_44 hC (by decide) ?_
    exact jq_iret dX9_mark_48 hC he rfl ⟨_, rfl, h⟩
theorem ok_X9_mark {G : Gt} {M : Mx} {Qf : State → Prop} {x1 : Int32} {x2 : Int32} {w : Wd} {Q : Int32 → Wd → Prop} (hC : cx G D_X9_mark M) (he : en G M (qi Q) Qf) (h : wp_X9_mark x1 x2 w Q) : jq G D_X9_mark M Qf 0 [(0, .ref (aD G 0 32)), (1, .int x1), (2, .int x2)] [] w := by
  unfold wp_X9_mark at h
  refine jq_aload_n (k0 := 0) dX9_mark_0 hC rfl rfl ?_
  refine jq_callV (As := []) (rest := []) (n := 0) (o := 32) (D' := D_X9_layAll) dX9_mark_1 hC (cl_0 (by decide)) rfl rfl rfl (mt_X9_layAll h) gX9_mark_X9_layAll rfl ⟨rfl, rfl, Nat.le_of_ble_eq_true rfl, Nat.le_of_ble_eq_true rfl⟩ nm_X9_layAll rfl (Nat.le_of_ble_eq_true rfl) (kV fun w1 h => ?_)
  refine jq_aload_n (k0 := 0) dX9_mark_4 hC rfl rfl ?_
  refine jq_aload_n (k0 := 0) dX9_mark_5 hC rfl rfl ?_
  refine jq_iload_n (k0 := 1) dX9_mark_6 hC rfl rfl ?_
  refine jq_callV (As := [.int x1]) (rest := [.ref (aD G 0 32)]) (n := 0) (o := 32) (D' := D_X9_isMark) dX9_mark_7 hC (cl_0 (by decide)) rfl rfl rfl (mt_X9_isMark h) gX9_mark_X9_isMark rfl ⟨rfl, rfl, Nat.le_of_ble_eq_true rfl, Nat.le_of_ble_eq_true rfl⟩ nm_X9_isMark rfl (Nat.le_of_ble_eq_true rfl) (kIp fun r7 h => ?_)
  refine jq_if_ne (tgt := 17) dX9_mark_10 hC (by decide) (fun c10 => ?_) (fun c10 => ?_)
  · have h := h.1 c10
    refine jq_iload_n (k0 := 2) dX9_mark_17 hC rfl rfl ?_
    refine jq_iconst (v := (0 : Int32)) dX9_mark_18 hC (by decide) ?_
    refine jq_bipush (v := (6 : Int32)) dX9_mark_19 hC (by decide) ?_
    refine jq_callS (As := [.int x2, .int (0 : Int32), .int (6 : Int32)]) (rest := [.ref (aD G 0 32)]) (D' := D_X9_in) dX9_mark_21 hC (mt_X9_in h) gX9_mark_X9_in rfl ⟨rfl, rfl, Nat.le_of_ble_eq_true rfl, Nat.le_of_ble_eq_true rfl⟩ nm_X9_in rfl (Nat.le_of_ble_eq_true rfl) (kIp fun r21 h => ?_)
    refine jq_if_ne (tgt := 31) dX9_mark_24 hC (by decide) (fun c24 => ?_) (fun c24 => ?_)
    · have h := h.1 c24
      refine jq_iconst (v := (0 : Int32)) dX9_mark_31 hC (by decide) ?_
      refine jq_less (L' := [(0, .ref (aD G 0 32)), (1, .int x1), (2, .int x2)]) [0, 1, 2] rfl ?_
      exact ok_X9_mark_J32 hC he h
    · have h := h.2 c24
      refine jq_iconst (v := (2 : Int32)) dX9_mark_27 hC (by decide) ?_
      refine jq_goto (tgt := 32) dX9_mark_28 hC (by decide) ?_
      refine jq_less (L' := [(0, .ref (aD G 0 32)), (1, .int x1), (2, .int x2)]) [0, 1, 2] rfl ?_
      exact ok_X9_mark_J32 hC he h
  · have h := h.2 c10
    refine jq_iconst (v := (1 : Int32)) dX9_mark_13 hC (by decide) ?_
    refine jq_goto (tgt := 32) dX9_mark_14 hC (by decide) ?_
    refine jq_less (L' := [(0, .ref (aD G 0 32)), (1, .int x1), (2, .int x2)]) [0, 1, 2] rfl ?_
    exact ok_X9_mark_J32 hC he h
theorem mt_X9_mark {G : Gt} {x1 : Int32} {x2 : Int32} {w : Wd} {Q : Int32 → Wd → Prop} (h : wp_X9_mark x1 x2 w Q) : Mt G D_X9_mark [.ref (aD G 0 32), .int x1, .int x2] w (qi Q) := Mt_of (by decide +kernel) rfl rfl (Nat.le_of_ble_eq_true rfl) (fun M Qf hC he => ok_X9_mark hC he h)
/-! X9.loopsWith(II)I -/
theorem dX9_loopsWith_0 : decode cX9_loopsWith 0 = .ok (.iconst 0, 1) := by decide +kernel
theorem dX9_loopsWith_1 : decode cX9_loopsWith 1 = .ok (.istore_n 3, 1) := by decide +kernel
theorem dX9_loopsWith_2 : decode cX9_loopsWith 2 = .ok (.iconst 0, 1) := by decide +kernel
theorem dX9_loopsWith_3 : decode cX9_loopsWith 3 = .ok (.istore 4, 2) := by decide +kernel
theorem dX9_loopsWith_5 : decode cX9_loopsWith 5 = .ok (.iload 4, 2) := by decide +kernel
theorem dX9_loopsWith_7 : decode cX9_loopsWith 7 = .ok (.aload_n 0, 1) := by decide +kernel
theorem dX9_loopsWith_8 : decode cX9_loopsWith 8 = .ok (.getfield 98, 3) := by decide +kernel
theorem dX9_loopsWith_11 : decode cX9_loopsWith 11 = .ok (.if_icmp .ge 63, 3) := by decide +kernel
theorem dX9_loopsWith_14 : decode cX9_loopsWith 14 = .ok (.iload_n 2, 1) := by decide +kernel
theorem dX9_loopsWith_15 : decode cX9_loopsWith 15 = .ok (.iconst 2, 1) := by decide +kernel
theorem dX9_loopsWith_16 : decode cX9_loopsWith 16 = .ok (.if_icmp .eq 22, 3) := by decide +kernel
theorem dX9_loopsWith_19 : decode cX9_loopsWith 19 = .ok (.aload_n 0, 1) := by decide +kernel
theorem dX9_loopsWith_20 : decode cX9_loopsWith 20 = .ok (.iload 4, 2) := by decide +kernel
theorem dX9_loopsWith_22 : decode cX9_loopsWith 22 = .ok (.invokevirtual 228, 3) := by decide +kernel
theorem dX9_loopsWith_25 : decode cX9_loopsWith 25 = .ok (.iload_n 2, 1) := by decide +kernel
theorem dX9_loopsWith_26 : decode cX9_loopsWith 26 = .ok (.iconst 1, 1) := by decide +kernel
theorem dX9_loopsWith_27 : decode cX9_loopsWith 27 = .ok (.if_icmp .ne 7, 3) := by decide +kernel
theorem dX9_loopsWith_30 : decode cX9_loopsWith 30 = .ok (.iconst 1, 1) := by decide +kernel
theorem dX9_loopsWith_31 : decode cX9_loopsWith 31 = .ok (.goto 4, 3) := by decide +kernel
theorem dX9_loopsWith_34 : decode cX9_loopsWith 34 = .ok (.iconst 0, 1) := by decide +kernel
theorem dX9_loopsWith_35 : decode cX9_loopsWith 35 = .ok (.if_icmp .ne 7, 3) := by decide +kernel
theorem dX9_loopsWith_38 : decode cX9_loopsWith 38 = .ok (.iconst 1, 1) := by decide +kernel
theorem dX9_loopsWith_39 : decode cX9_loopsWith 39 = .ok (.goto 4, 3) := by decide +kernel
theorem dX9_loopsWith_42 : decode cX9_loopsWith 42 = .ok (.iconst 0, 1) := by decide +kernel
theorem dX9_loopsWith_43 : decode cX9_loopsWith 43 = .ok (.istore 5, 2) := by decide +kernel
theorem dX9_loopsWith_45 : decode cX9_loopsWith 45 = .ok (.iload_n 3, 1) := by decide +kernel
theorem dX9_loopsWith_46 : decode cX9_loopsWith 46 = .ok (.iload 5, 2) := by decide +kernel
theorem dX9_loopsWith_48 : decode cX9_loopsWith 48 = .ok (.ifCond .eq 17, 3) := by decide +kernel
theorem dX9_loopsWith_51 : decode cX9_loopsWith 51 = .ok (.aload_n 0, 1) := by decide +kernel
theorem dX9_loopsWith_52 : decode cX9_loopsWith 52 = .ok (.iload 4, 2) := by decide +kernel
theorem dX9_loopsWith_54 : decode cX9_loopsWith 54 = .ok (.iload_n 1, 1) := by decide +kernel
theorem dX9_loopsWith_55 : decode cX9_loopsWith 55 = .ok (.invokevirtual 104, 3) := by decide +kernel
theorem dX9_loopsWith_58 : decode cX9_loopsWith 58 = .ok (.ifCond .eq 7, 3) := by decide +kernel
theorem dX9_loopsWith_61 : decode cX9_loopsWith 61 = .ok (.iconst 1, 1) := by decide +kernel
theorem dX9_loopsWith_62 : decode cX9_loopsWith 62 = .ok (.goto 4, 3) := by decide +kernel
theorem dX9_loopsWith_65 : decode cX9_loopsWith 65 = .ok (.iconst 0, 1) := by decide +kernel
theorem dX9_loopsWith_66 : decode cX9_loopsWith 66 = .ok (.iadd, 1) := by decide +kernel
theorem dX9_loopsWith_67 : decode cX9_loopsWith 67 = .ok (.istore_n 3, 1) := by decide +kernel
theorem dX9_loopsWith_68 : decode cX9_loopsWith 68 = .ok (.iinc 4 1, 3) := by decide +kernel
theorem dX9_loopsWith_71 : decode cX9_loopsWith 71 = .ok (.goto (-66), 3) := by decide +kernel
theorem dX9_loopsWith_74 : decode cX9_loopsWith 74 = .ok (.iload_n 3, 1) := by decide +kernel
theorem dX9_loopsWith_75 : decode cX9_loopsWith 75 = .ok (.ireturn, 1) := by decide +kernel
set_option maxRecDepth 20000 in
theorem ggX9_loopsWith_X9_signIn : GoodIn wsX9_loopsWith wsX9_signIn := goodIn_r _ [15, 16, 31, 32, 33, 34, 35, 36, 37, 38, 39, 40, 41, 42, 43, 44, 45, 46, 47, 48, 49, 50, 51, 52, 53, 54, 55] (by decide +kernel) (by decide +kernel)
set_option maxRecDepth 20000 in
theorem gX9_loopsWith_X9_signIn : GoodIn wsX9_loopsWith (wsV RX9 104 RX9 yX9_signIn wsX9_signIn) := goodIn_app (goodIn_of _ (by decide +kernel)) ggX9_loopsWith_X9_signIn
set_option maxRecDepth 20000 in
theorem ggX9_loopsWith_X9_isBad : GoodIn wsX9_loopsWith wsX9_isBad := goodIn_r _ [6, 7, 8, 9, 5, 10, 11, 12, 13, 14, 15, 16, 17, 18, 19, 20, 21, 22, 23, 24, 25, 26, 27, 28, 29, 30, 31, 32, 33, 34, 35, 36, 37, 38, 39, 40, 41, 42, 43, 44, 45, 46, 47, 48, 49, 50, 51, 52, 53, 54, 55] (by decide +kernel) (by decide +kernel)
set_option maxRecDepth 20000 in
theorem gX9_loopsWith_X9_isBad : GoodIn wsX9_loopsWith (wsV RX9 228 RX9 yX9_isBad wsX9_isBad) := goodIn_app (goodIn_of _ (by decide +kernel)) ggX9_loopsWith_X9_isBad
def D_X9_loopsWith : Md := (yX9_loopsWith, cX9_loopsWith, 6, (some .int), wsX9_loopsWith, RX9, { frames := 4, cells := 0, slots := 0, locals := 87 })
theorem nm_X9_loopsWith : nmD D_X9_loopsWith 2 := ⟨rfl, by decide +kernel, by decide +kernel, by decide +kernel⟩
theorem hi_X9_loopsWith_X9 : ∀ w ∈ u_ws RX9 TX9 25, w ∈ wsX9_loopsWith := by decide +kernel
theorem hl_X9_loopsWith_98 : Cond.fieldLink RX9 98 "LevelLoopsModel" "manyLoops" "I" ∈ wsX9_loopsWith := by decide +kernel
def wp_X9_loopsWith_J65 (x1 : Int32) (x2 : Int32) (x4 : Int32) (s0 : Int32) (w : Wd) (Q : Int32 → Prop) (K5 : Int32 → Int32 → Prop) : Prop :=
  K5 (s0 + (0 : Int32)) (x4 + 1)
def wp_X9_loopsWith_J43 (x1 : Int32) (x2 : Int32) (x3 : Int32) (x4 : Int32) (s0 : Int32) (w : Wd) (Q : Int32 → Prop) (K5 : Int32 → Int32 → Prop) : Prop :=
  ((s0 = 0 → wp_X9_loopsWith_J65 x1 x2 x4 x3 w Q K5) ∧ (¬ s0 = 0 → wp_X9_signIn x4 x1 w (fun r55 => ((r55 = 0 → wp_X9_loopsWith_J65 x1 x2 x4 x3 w Q K5) ∧ (¬ r55 = 0 → K5 (x3 + (1 : Int32)) (x4 + 1))))))
def wp_X9_loopsWith_J35 (x1 : Int32) (x2 : Int32) (x3 : Int32) (x4 : Int32) (s0 : Int32) (s1 : Int32) (w : Wd) (Q : Int32 → Prop) (K5 : Int32 → Int32 → Prop) : Prop :=
  ((¬ s1 = s0 → wp_X9_loopsWith_J43 x1 x2 x3 x4 (0 : Int32) w Q K5) ∧ (s1 = s0 → wp_X9_loopsWith_J43 x1 x2 x3 x4 (1 : Int32) w Q K5))
def wp_X9_loopsWith_B5 (x1 : Int32) (x2 : Int32) (x3 : Int32) (x4 : Int32) (w : Wd) (Q : Int32 → Prop) (K5 : Int32 → Int32 → Prop) : Prop :=
  (((wi w 0 32 15) ≤ x4 → Q x3) ∧ (¬ (wi w 0 32 15) ≤ x4 → ((x2 = (2 : Int32) → wp_X9_loopsWith_J43 x1 x2 x3 x4 (1 : Int32) w Q K5) ∧ (¬ x2 = (2 : Int32) → wp_X9_isBad x4 w (fun r22 => ((¬ x2 = (1 : Int32) → wp_X9_loopsWith_J35 x1 x2 x3 x4 (0 : Int32) r22 w Q K5) ∧ (x2 = (1 : Int32) → wp_X9_loopsWith_J35 x1 x2 x3 x4 (1 : Int32) r22 w Q K5)))))))
def wp_X9_loopsWith_L5 (x1 : Int32) (x2 : Int32) (x3 : Int32) (x4 : Int32) (w : Wd) (Q : Int32 → Prop) : Prop :=
  ∃ (I : Int32 → Int32 → Prop) (μ : Int32 → Int32 → Nat), I x3 x4 ∧ ∀ (x3 : Int32) (x4 : Int32), I x3 x4 → wp_X9_loopsWith_B5 x1 x2 x3 x4 w Q (fun x3' x4' => I x3' x4' ∧ μ x3' x4' < μ x3 x4)
def wp_X9_loopsWith (x1 : Int32) (x2 : Int32) (w : Wd) (Q : Int32 → Prop) : Prop :=
  wp_X9_loopsWith_L5 x1 x2 (0 : Int32) (0 : Int32) w Q
theorem ok_X9_loopsWith_J65 {G : Gt} {M : Mx} {Qf : State → Prop} {x1 : Int32} {x2 : Int32} {x4 : Int32} {s0 : Int32} {w : Wd} {Q : Int32 → Prop} {K5 : Int32 → Int32 → Prop} (hC : cx G D_X9_loopsWith M) (he : en G M (qip w Q) Qf) (h : wp_X9_loopsWith_J65 x1 x2 x4 s0 w Q K5) (hK5 : ∀ (x3 : Int32) (x4 : Int32), K5 x3 x4 → jq G D_X9_loopsWith M Qf 5 [(0, .ref (aD G 0 32)), (1, .int x1), (2, .int x2), (3, .int x3), (4, .int x4)] [] w) : jq G D_X9_loopsWith M Qf 65 [(0, .ref (aD G 0 32)), (1, .int x1), (2, .int x2), (4, .int x4)] [.int s0] w := by
  unfold wp_X9_loopsWith_J65 at h
  refine jq_iconst (v := (0 : Int32)) dX9_loopsWith_65 hC (by decide) ?_
  refine jq_iadd dX9_loopsWith_66 hC ?_
  refine jq_istore_n (L' := [(3, .int (s0 + (0 : Int32))), (0, .ref (aD G 0 32)), (1, .int x1), (2, .int x2), (4, .int x4)]) dX9_loopsWith_67 hC rfl (by decide) rfl ?_
  refine jq_iinc (k0 := 4) (v := (x4 + 1)) (L' := [(4, .int (x4 + 1)), (3, .int (s0 + (0 : Int32))), (0, .ref (aD G 0 32)), (1, .int x1), (2, .int x2)]) dX9_loopsWith_68 hC rfl rfl (by decide) rfl ?_
  refine jq_goto (tgt := 5) dX9_loopsWith_71 hC (by decide) ?_
  exact jq_less (L' := [(0, .ref (aD G 0 32)), (1, .int x1), (2, .int x2), (3, .int (s0 + (0 : Int32))), (4, .int (x4 + 1))]) [2, 3, 4, 1, 0] rfl (hK5 _ _ h)
theorem ok_X9_loopsWith_J43 {G : Gt} {M : Mx} {Qf : State → Prop} {x1 : Int32} {x2 : Int32} {x3 : Int32} {x4 : Int32} {s0 : Int32} {w : Wd} {Q : Int32 → Prop} {K5 : Int32 → Int32 → Prop} (hC : cx G D_X9_loopsWith M) (he : en G M (qip w Q) Qf) (h : wp_X9_loopsWith_J43 x1 x2 x3 x4 s0 w Q K5) (hK5 : ∀ (x3 : Int32) (x4 : Int32), K5 x3 x4 → jq G D_X9_loopsWith M Qf 5 [(0, .ref (aD G 0 32)), (1, .int x1), (2, .int x2), (3, .int x3), (4, .int x4)] [] w) : jq G D_X9_loopsWith M Qf 43 [(0, .ref (aD G 0 32)), (1, .int x1), (2, .int x2), (3, .int x3), (4, .int x4)] [.int s0] w := by
  unfold wp_X9_loopsWith_J43 at h
  refine jq_istore (L' := [(5, .int s0), (0, .ref (aD G 0 32)), (1, .int x1), (2, .int x2), (3, .int x3), (4, .int x4)]) dX9_loopsWith_43 hC (by decide) rfl ?_
  refine jq_iload_n (k0 := 4) dX9_loopsWith_45 hC rfl rfl ?_
  refine jq_iload (k0 := 0) dX9_loopsWith_46 hC rfl ?_
  refine jq_if_eq (tgt := 65) dX9_loopsWith_48 hC (by decide) (fun c48 => ?_) (fun c48 => ?_)
  · have h := h.1 c48
    refine jq_less (L' := [(0, .ref (aD G 0 32)), (1, .int x1), (2, .int x2), (4, .int x4)]) [1, 2, 3, 5] rfl ?_
    exact ok_X9_loopsWith_J65 hC he h hK5
  · have h := h.2 c48
    refine jq_aload_n (k0 := 1) dX9_loopsWith_51 hC rfl rfl ?_
    refine jq_iload (k0 := 5) dX9_loopsWith_52 hC rfl ?_
    refine jq_iload_n (k0 := 2) dX9_loopsWith_54 hC rfl rfl ?_
    refine jq_callV (As := [.int x4, .int x1]) (rest := [.int x3]) (n := 0) (o := 32) (D' := D_X9_signIn) dX9_loopsWith_55 hC (cl_0 (by decide)) rfl rfl rfl (mt_X9_signIn h) gX9_loopsWith_X9_signIn rfl ⟨rfl, rfl, Nat.le_of_ble_eq_true rfl, Nat.le_of_ble_eq_true rfl⟩ nm_X9_signIn rfl (Nat.le_of_ble_eq_true rfl) (kIp fun r55 h => ?_)
    refine jq_if_eq (tgt := 65) dX9_loopsWith_58 hC (by decide) (fun c58 => ?_) (fun c58 => ?_)
    · have h := h.1 c58
      refine jq_less (L' := [(0, .ref (aD G 0 32)), (1, .int x1), (2, .int x2), (4, .int x4)]) [1, 2, 3, 5] rfl ?_
      exact ok_X9_loopsWith_J65 hC he h hK5
    · have h := h.2 c58
      refine jq_iconst (v := (1 : Int32)) dX9_loopsWith_61 hC (by decide) ?_
      refine jq_goto (tgt := 66) dX9_loopsWith_62 hC (by decide) ?_
      refine jq_iadd dX9_loopsWith_66 hC ?_
      refine jq_istore_n (L' := [(3, .int (x3 + (1 : Int32))), (5, .int s0), (0, .ref (aD G 0 32)), (1, .int x1), (2, .int x2), (4, .int x4)]) dX9_loopsWith_67 hC rfl (by decide) rfl ?_
      refine jq_iinc (k0 := 5) (v := (x4 + 1)) (L' := [(4, .int (x4 + 1)), (3, .int (x3 + (1 : Int32))), (5, .int s0), (0, .ref (aD G 0 32)), (1, .int x1), (2, .int x2)]) dX9_loopsWith_68 hC rfl rfl (by decide) rfl ?_
      refine jq_goto (tgt := 5) dX9_loopsWith_71 hC (by decide) ?_
      exact jq_less (L' := [(0, .ref (aD G 0 32)), (1, .int x1), (2, .int x2), (3, .int (x3 + (1 : Int32))), (4, .int (x4 + 1))]) [3, 4, 5, 1, 0] rfl (hK5 _ _ h)
theorem ok_X9_loopsWith_J35 {G : Gt} {M : Mx} {Qf : State → Prop} {x1 : Int32} {x2 : Int32} {x3 : Int32} {x4 : Int32} {s0 : Int32} {s1 : Int32} {w : Wd} {Q : Int32 → Prop} {K5 : Int32 → Int32 → Prop} (hC : cx G D_X9_loopsWith M) (he : en G M (qip w Q) Qf) (h : wp_X9_loopsWith_J35 x1 x2 x3 x4 s0 s1 w Q K5) (hK5 : ∀ (x3 : Int32) (x4 : Int32), K5 x3 x4 → jq G D_X9_loopsWith M Qf 5 [(0, .ref (aD G 0 32)), (1, .int x1), (2, .int x2), (3, .int x3), (4, .int x4)] [] w) : jq G D_X9_loopsWith M Qf 35 [(0, .ref (aD G 0 32)), (1, .int x1), (2, .int x2), (3, .int x3), (4, .int x4)] [.int s0, .int s1] w := by
  unfold wp_X9_loopsWith_J35 at h
  refine jq_icmp_ne (tgt := 42) dX9_loopsWith_35 hC (by decide) (fun c35 => ?_) (fun c35 => ?_)
  · have h := h.1 c35
    refine jq_iconst (v := (0 : Int32)) dX9_loopsWith_42 hC (by decide) ?_
    refine jq_less (L' := [(0, .ref (aD G 0 32)), (1, .int x1), (2, .int x2), (3, .int x3), (4, .int x4)]) [0, 1, 2, 3, 4] rfl ?_
    exact ok_X9_loopsWith_J43 hC he h hK5
  · have h := h.2 c35
    refine jq_iconst (v := (1 : Int32)) dX9_loopsWith_38 hC (by decide) ?_
    refine jq_goto (tgt := 43) dX9_loopsWith_39 hC (by decide) ?_
    refine jq_less (L' := [(0, .ref (aD G 0 32)), (1, .int x1), (2, .int x2), (3, .int x3), (4, .int x4)]) [0, 1, 2, 3, 4] rfl ?_
    exact ok_X9_loopsWith_J43 hC he h hK5
theorem ok_X9_loopsWith_B5 {G : Gt} {M : Mx} {Qf : State → Prop} {x1 : Int32} {x2 : Int32} {x3 : Int32} {x4 : Int32} {w : Wd} {Q : Int32 → Prop} {K5 : Int32 → Int32 → Prop} (hC : cx G D_X9_loopsWith M) (he : en G M (qip w Q) Qf) (h : wp_X9_loopsWith_B5 x1 x2 x3 x4 w Q K5) (hK5 : ∀ (x3 : Int32) (x4 : Int32), K5 x3 x4 → jq G D_X9_loopsWith M Qf 5 [(0, .ref (aD G 0 32)), (1, .int x1), (2, .int x2), (3, .int x3), (4, .int x4)] [] w) : jq G D_X9_loopsWith M Qf 5 [(0, .ref (aD G 0 32)), (1, .int x1), (2, .int x2), (3, .int x3), (4, .int x4)] [] w := by
  unfold wp_X9_loopsWith_B5 at h
  refine jq_iload (k0 := 4) dX9_loopsWith_5 hC rfl ?_
  refine jq_aload_n (k0 := 0) dX9_loopsWith_7 hC rfl rfl ?_
  refine jq_get (k0 := 15) (n := 0) (o := 32) dX9_loopsWith_8 hC (cl_0 (by decide)) rfl rfl hi_X9_loopsWith_X9 (by decide) hl_X9_loopsWith_98 rfl rfl ?_
  refine jq_icmp_ge (tgt := 74) dX9_loopsWith_11 hC (by decide) (fun c11 => ?_) (fun c11 => ?_)
  · have h := h.1 c11
    refine jq_iload_n (k0 := 3) dX9_loopsWith_74 hC rfl rfl ?_
    exact jq_iret dX9_loopsWith_75 hC he rfl ⟨_, rfl, rfl, h⟩
  · have h := h.2 c11
    refine jq_iload_n (k0 := 2) dX9_loopsWith_14 hC rfl rfl ?_
    refine jq_iconst (v := (2 : Int32)) dX9_loopsWith_15 hC (by decide) ?_
    refine jq_icmp_eq (tgt := 38) dX9_loopsWith_16 hC (by decide) (fun c16 => ?_) (fun c16 => ?_)
    · have h := h.1 c16
      refine jq_iconst (v := (1 : Int32)) dX9_loopsWith_38 hC (by decide) ?_
      refine jq_goto (tgt := 43) dX9_loopsWith_39 hC (by decide) ?_
      refine jq_less (L' := [(0, .ref (aD G 0 32)), (1, .int x1), (2, .int x2), (3, .int x3), (4, .int x4)]) [0, 1, 2, 3, 4] rfl ?_
      exact ok_X9_loopsWith_J43 hC he h hK5
    · have h := h.2 c16
      refine jq_aload_n (k0 := 0) dX9_loopsWith_19 hC rfl rfl ?_
      refine jq_iload (k0 := 4) dX9_loopsWith_20 hC rfl ?_
      refine jq_callV (As := [.int x4]) (rest := []) (n := 0) (o := 32) (D' := D_X9_isBad) dX9_loopsWith_22 hC (cl_0 (by decide)) rfl rfl rfl (mt_X9_isBad h) gX9_loopsWith_X9_isBad rfl ⟨rfl, rfl, Nat.le_of_ble_eq_true rfl, Nat.le_of_ble_eq_true rfl⟩ nm_X9_isBad rfl (Nat.le_of_ble_eq_true rfl) (kIp fun r22 h => ?_)
      refine jq_iload_n (k0 := 2) dX9_loopsWith_25 hC rfl rfl ?_
      refine jq_iconst (v := (1 : Int32)) dX9_loopsWith_26 hC (by decide) ?_
      refine jq_icmp_ne (tgt := 34) dX9_loopsWith_27 hC (by decide) (fun c27 => ?_) (fun c27 => ?_)
      · have h := h.1 c27
        refine jq_iconst (v := (0 : Int32)) dX9_loopsWith_34 hC (by decide) ?_
        refine jq_less (L' := [(0, .ref (aD G 0 32)), (1, .int x1), (2, .int x2), (3, .int x3), (4, .int x4)]) [0, 1, 2, 3, 4] rfl ?_
        exact ok_X9_loopsWith_J35 hC he h hK5
      · have h := h.2 c27
        refine jq_iconst (v := (1 : Int32)) dX9_loopsWith_30 hC (by decide) ?_
        refine jq_goto (tgt := 35) dX9_loopsWith_31 hC (by decide) ?_
        refine jq_less (L' := [(0, .ref (aD G 0 32)), (1, .int x1), (2, .int x2), (3, .int x3), (4, .int x4)]) [0, 1, 2, 3, 4] rfl ?_
        exact ok_X9_loopsWith_J35 hC he h hK5
theorem ok_X9_loopsWith_L5 {G : Gt} {M : Mx} {Qf : State → Prop} {x1 : Int32} {x2 : Int32} {x3 : Int32} {x4 : Int32} {w : Wd} {Q : Int32 → Prop} (hC : cx G D_X9_loopsWith M) (he : en G M (qip w Q) Qf) (h : wp_X9_loopsWith_L5 x1 x2 x3 x4 w Q) : jq G D_X9_loopsWith M Qf 5 [(0, .ref (aD G 0 32)), (1, .int x1), (2, .int x2), (3, .int x3), (4, .int x4)] [] w := by
  unfold wp_X9_loopsWith_L5 at h
  obtain ⟨I, μ, h0, hs⟩ := h
  exact lp_ind (σ := Int32 × Int32) (P := fun s => jq G D_X9_loopsWith M Qf 5 [(0, .ref (aD G 0 32)), (1, .int x1), (2, .int x2), (3, .int s.1), (4, .int s.2)] [] w) (fun s => I s.1 s.2) (fun s => μ s.1 s.2) (fun s h1 ih => ok_X9_loopsWith_B5 hC he (hs s.1 s.2 h1) (fun x3' x4' h => ih (x3', x4') h.1 h.2)) (x3, x4) h0
theorem ok_X9_loopsWith {G : Gt} {M : Mx} {Qf : State → Prop} {x1 : Int32} {x2 : Int32} {w : Wd} {Q : Int32 → Prop} (hC : cx G D_X9_loopsWith M) (he : en G M (qip w Q) Qf) (h : wp_X9_loopsWith x1 x2 w Q) : jq G D_X9_loopsWith M Qf 0 [(0, .ref (aD G 0 32)), (1, .int x1), (2, .int x2)] [] w := by
  unfold wp_X9_loopsWith at h
  refine jq_iconst (v := (0 : Int32)) dX9_loopsWith_0 hC (by decide) ?_
  refine jq_istore_n (L' := [(3, .int (0 : Int32)), (0, .ref (aD G 0 32)), (1, .int x1), (2, .int x2)]) dX9_loopsWith_1 hC rfl (by decide) rfl ?_
  refine jq_iconst (v := (0 : Int32)) dX9_loopsWith_2 hC (by decide) ?_
  refine jq_istore (L' := [(4, .int (0 : Int32)), (3, .int (0 : Int32)), (0, .ref (aD G 0 32)), (1, .int x1), (2, .int x2)]) dX9_loopsWith_3 hC (by decide) rfl ?_
  refine jq_less (L' := [(0, .ref (aD G 0 32)), (1, .int x1), (2, .int x2), (3, .int (0 : Int32)), (4, .int (0 : Int32))]) [2, 3, 4, 1, 0] rfl ?_
  exact ok_X9_loopsWith_L5 hC he h
theorem mt_X9_loopsWith {G : Gt} {x1 : Int32} {x2 : Int32} {w : Wd} {Q : Int32 → Prop} (h : wp_X9_loopsWith x1 x2 w Q) : Mt G D_X9_loopsWith [.ref (aD G 0 32), .int x1, .int x2] w (qip w Q) := Mt_of (by decide +kernel) rfl rfl (Nat.le_of_ble_eq_true rfl) (fun M Qf hC he => ok_X9_loopsWith hC he h)
/-! X9.loopOf(I)I -/
theorem dX9_loopOf_0 : decode cX9_loopOf 0 = .ok (.iconst (-1), 1) := by decide +kernel
theorem dX9_loopOf_1 : decode cX9_loopOf 1 = .ok (.istore_n 2, 1) := by decide +kernel
theorem dX9_loopOf_2 : decode cX9_loopOf 2 = .ok (.iconst 0, 1) := by decide +kernel
theorem dX9_loopOf_3 : decode cX9_loopOf 3 = .ok (.istore_n 3, 1) := by decide +kernel
theorem dX9_loopOf_4 : decode cX9_loopOf 4 = .ok (.iload_n 3, 1) := by decide +kernel
theorem dX9_loopOf_5 : decode cX9_loopOf 5 = .ok (.aload_n 0, 1) := by decide +kernel
theorem dX9_loopOf_6 : decode cX9_loopOf 6 = .ok (.getfield 98, 3) := by decide +kernel
theorem dX9_loopOf_9 : decode cX9_loopOf 9 = .ok (.if_icmp .ge 25, 3) := by decide +kernel
theorem dX9_loopOf_12 : decode cX9_loopOf 12 = .ok (.aload_n 0, 1) := by decide +kernel
theorem dX9_loopOf_13 : decode cX9_loopOf 13 = .ok (.getfield 41, 3) := by decide +kernel
theorem dX9_loopOf_16 : decode cX9_loopOf 16 = .ok (.iload_n 3, 1) := by decide +kernel
theorem dX9_loopOf_17 : decode cX9_loopOf 17 = .ok (.iaload, 1) := by decide +kernel
theorem dX9_loopOf_18 : decode cX9_loopOf 18 = .ok (.iload_n 1, 1) := by decide +kernel
theorem dX9_loopOf_19 : decode cX9_loopOf 19 = .ok (.if_icmp .ne 7, 3) := by decide +kernel
theorem dX9_loopOf_22 : decode cX9_loopOf 22 = .ok (.iload_n 3, 1) := by decide +kernel
theorem dX9_loopOf_23 : decode cX9_loopOf 23 = .ok (.goto 4, 3) := by decide +kernel
theorem dX9_loopOf_26 : decode cX9_loopOf 26 = .ok (.iload_n 2, 1) := by decide +kernel
theorem dX9_loopOf_27 : decode cX9_loopOf 27 = .ok (.istore_n 2, 1) := by decide +kernel
theorem dX9_loopOf_28 : decode cX9_loopOf 28 = .ok (.iinc 3 1, 3) := by decide +kernel
theorem dX9_loopOf_31 : decode cX9_loopOf 31 = .ok (.goto (-27), 3) := by decide +kernel
theorem dX9_loopOf_34 : decode cX9_loopOf 34 = .ok (.iload_n 2, 1) := by decide +kernel
theorem dX9_loopOf_35 : decode cX9_loopOf 35 = .ok (.ireturn, 1) := by decide +kernel
def D_X9_loopOf : Md := (yX9_loopOf, cX9_loopOf, 4, (some .int), wsX9_loopOf, RX9, { frames := 0, cells := 0, slots := 0, locals := 0 })
theorem nm_X9_loopOf : nmD D_X9_loopOf 1 := ⟨rfl, by decide +kernel, by decide +kernel, by decide +kernel⟩
theorem hi_X9_loopOf_X9 : ∀ w ∈ u_ws RX9 TX9 25, w ∈ wsX9_loopOf := by decide +kernel
theorem hl_X9_loopOf_41 : Cond.fieldLink RX9 41 "LevelLoopsModel" "closing" "[I" ∈ wsX9_loopOf := by decide +kernel
theorem hl_X9_loopOf_98 : Cond.fieldLink RX9 98 "LevelLoopsModel" "manyLoops" "I" ∈ wsX9_loopOf := by decide +kernel
def wp_X9_loopOf_B4 (x1 : Int32) (x2 : Int32) (x3 : Int32) (w : Wd) (Q : Int32 → Prop) (K4 : Int32 → Int32 → Prop) : Prop :=
  (((wi w 0 32 15) ≤ x3 → Q x2) ∧ (¬ (wi w 0 32 15) ≤ x3 → vp_in x3 20 ∧ ((¬ (wi w 0 43 x3.toNatClampNeg) = x1 → K4 x2 (x3 + 1)) ∧ ((wi w 0 43 x3.toNatClampNeg) = x1 → K4 x3 (x3 + 1)))))
def wp_X9_loopOf_L4 (x1 : Int32) (x2 : Int32) (x3 : Int32) (w : Wd) (Q : Int32 → Prop) : Prop :=
  ∃ (I : Int32 → Int32 → Prop) (μ : Int32 → Int32 → Nat), I x2 x3 ∧ ∀ (x2 : Int32) (x3 : Int32), I x2 x3 → wp_X9_loopOf_B4 x1 x2 x3 w Q (fun x2' x3' => I x2' x3' ∧ μ x2' x3' < μ x2 x3)
def wp_X9_loopOf (x1 : Int32) (w : Wd) (Q : Int32 → Prop) : Prop :=
  wp_X9_loopOf_L4 x1 (-1 : Int32) (0 : Int32) w Q
theorem ok_X9_loopOf_B4 {G : Gt} {M : Mx} {Qf : State → Prop} {x1 : Int32} {x2 : Int32} {x3 : Int32} {w : Wd} {Q : Int32 → Prop} {K4 : Int32 → Int32 → Prop} (hC : cx G D_X9_loopOf M) (he : en G M (qip w Q) Qf) (h : wp_X9_loopOf_B4 x1 x2 x3 w Q K4) (hK4 : ∀ (x2 : Int32) (x3 : Int32), K4 x2 x3 → jq G D_X9_loopOf M Qf 4 [(0, .ref (aD G 0 32)), (1, .int x1), (2, .int x2), (3, .int x3)] [] w) : jq G D_X9_loopOf M Qf 4 [(0, .ref (aD G 0 32)), (1, .int x1), (2, .int x2), (3, .int x3)] [] w := by
  unfold wp_X9_loopOf_B4 at h
  refine jq_iload_n (k0 := 3) dX9_loopOf_4 hC rfl rfl ?_
  refine jq_aload_n (k0 := 0) dX9_loopOf_5 hC rfl rfl ?_
  refine jq_get (k0 := 15) (n := 0) (o := 32) dX9_loopOf_6 hC (cl_0 (by decide)) rfl rfl hi_X9_loopOf_X9 (by decide) hl_X9_loopOf_98 rfl rfl ?_
  refine jq_icmp_ge (tgt := 34) dX9_loopOf_9 hC (by decide) (fun c9 => ?_) (fun c9 => ?_)
  · have h := h.1 c9
    refine jq_iload_n (k0 := 2) dX9_loopOf_34 hC rfl rfl ?_
    exact jq_iret dX9_loopOf_35 hC he rfl ⟨_, rfl, rfl, h⟩
  · have h := h.2 c9
    refine jq_aload_n (k0 := 0) dX9_loopOf_12 hC rfl rfl ?_
    refine jq_get (k0 := 13) (n := 0) (o := 32) dX9_loopOf_13 hC (cl_0 (by decide)) rfl rfl hi_X9_loopOf_X9 (by decide) hl_X9_loopOf_41 rfl rfl ?_
    refine jq_iload_n (k0 := 3) dX9_loopOf_16 hC rfl rfl ?_
    obtain ⟨b17, h⟩ := h
    refine jq_iald (n := 0) (o := 43) (j := x3.toNatClampNeg) dX9_loopOf_17 hC (cl_0 (by decide)) rfl b17 rfl ?_
    refine jq_iload_n (k0 := 1) dX9_loopOf_18 hC rfl rfl ?_
    refine jq_icmp_ne (tgt := 26) dX9_loopOf_19 hC (by decide) (fun c19 => ?_) (fun c19 => ?_)
    · have h := h.1 c19
      refine jq_iload_n (k0 := 2) dX9_loopOf_26 hC rfl rfl ?_
      refine jq_istore_n (L' := [(2, .int x2), (0, .ref (aD G 0 32)), (1, .int x1), (3, .int x3)]) dX9_loopOf_27 hC rfl (by decide) rfl ?_
      refine jq_iinc (k0 := 3) (v := (x3 + 1)) (L' := [(3, .int (x3 + 1)), (2, .int x2), (0, .ref (aD G 0 32)), (1, .int x1)]) dX9_loopOf_28 hC rfl rfl (by decide) rfl ?_
      refine jq_goto (tgt := 4) dX9_loopOf_31 hC (by decide) ?_
      exact jq_less (L' := [(0, .ref (aD G 0 32)), (1, .int x1), (2, .int x2), (3, .int (x3 + 1))]) [2, 3, 1, 0] rfl (hK4 _ _ h)
    · have h := h.2 c19
      refine jq_iload_n (k0 := 3) dX9_loopOf_22 hC rfl rfl ?_
      refine jq_goto (tgt := 27) dX9_loopOf_23 hC (by decide) ?_
      refine jq_istore_n (L' := [(2, .int x3), (0, .ref (aD G 0 32)), (1, .int x1), (3, .int x3)]) dX9_loopOf_27 hC rfl (by decide) rfl ?_
      refine jq_iinc (k0 := 3) (v := (x3 + 1)) (L' := [(3, .int (x3 + 1)), (2, .int x3), (0, .ref (aD G 0 32)), (1, .int x1)]) dX9_loopOf_28 hC rfl rfl (by decide) rfl ?_
      refine jq_goto (tgt := 4) dX9_loopOf_31 hC (by decide) ?_
      exact jq_less (L' := [(0, .ref (aD G 0 32)), (1, .int x1), (2, .int x3), (3, .int (x3 + 1))]) [2, 3, 1, 0] rfl (hK4 _ _ h)
theorem ok_X9_loopOf_L4 {G : Gt} {M : Mx} {Qf : State → Prop} {x1 : Int32} {x2 : Int32} {x3 : Int32} {w : Wd} {Q : Int32 → Prop} (hC : cx G D_X9_loopOf M) (he : en G M (qip w Q) Qf) (h : wp_X9_loopOf_L4 x1 x2 x3 w Q) : jq G D_X9_loopOf M Qf 4 [(0, .ref (aD G 0 32)), (1, .int x1), (2, .int x2), (3, .int x3)] [] w := by
  unfold wp_X9_loopOf_L4 at h
  obtain ⟨I, μ, h0, hs⟩ := h
  exact lp_ind (σ := Int32 × Int32) (P := fun s => jq G D_X9_loopOf M Qf 4 [(0, .ref (aD G 0 32)), (1, .int x1), (2, .int s.1), (3, .int s.2)] [] w) (fun s => I s.1 s.2) (fun s => μ s.1 s.2) (fun s h1 ih => ok_X9_loopOf_B4 hC he (hs s.1 s.2 h1) (fun x2' x3' h => ih (x2', x3') h.1 h.2)) (x2, x3) h0
theorem ok_X9_loopOf {G : Gt} {M : Mx} {Qf : State → Prop} {x1 : Int32} {w : Wd} {Q : Int32 → Prop} (hC : cx G D_X9_loopOf M) (he : en G M (qip w Q) Qf) (h : wp_X9_loopOf x1 w Q) : jq G D_X9_loopOf M Qf 0 [(0, .ref (aD G 0 32)), (1, .int x1)] [] w := by
  unfold wp_X9_loopOf at h
  refine jq_iconst (v := (-1 : Int32)) dX9_loopOf_0 hC (by decide) ?_
  refine jq_istore_n (L' := [(2, .int (-1 : Int32)), (0, .ref (aD G 0 32)), (1, .int x1)]) dX9_loopOf_1 hC rfl (by decide) rfl ?_
  refine jq_iconst (v := (0 : Int32)) dX9_loopOf_2 hC (by decide) ?_
  refine jq_istore_n (L' := [(3, .int (0 : Int32)), (2, .int (-1 : Int32)), (0, .ref (aD G 0 32)), (1, .int x1)]) dX9_loopOf_3 hC rfl (by decide) rfl ?_
  refine jq_less (L' := [(0, .ref (aD G 0 32)), (1, .int x1), (2, .int (-1 : Int32)), (3, .int (0 : Int32))]) [2, 3, 1, 0] rfl ?_
  exact ok_X9_loopOf_L4 hC he h
theorem mt_X9_loopOf {G : Gt} {x1 : Int32} {w : Wd} {Q : Int32 → Prop} (h : wp_X9_loopOf x1 w Q) : Mt G D_X9_loopOf [.ref (aD G 0 32), .int x1] w (qip w Q) := Mt_of (by decide +kernel) rfl rfl (Nat.le_of_ble_eq_true rfl) (fun M Qf hC he => ok_X9_loopOf hC he h)
/-! X9.legOf(II)I -/
theorem dX9_legOf_0 : decode cX9_legOf 0 = .ok (.iload_n 2, 1) := by decide +kernel
theorem dX9_legOf_1 : decode cX9_legOf 1 = .ok (.tableswitch 123 0 8 #[51, 51, 51, 62, 76, 85, 95, 110, 116], 51) := by decide +kernel
theorem dX9_legOf_52 : decode cX9_legOf 52 = .ok (.aload_n 0, 1) := by decide +kernel
theorem dX9_legOf_53 : decode cX9_legOf 53 = .ok (.getfield 7, 3) := by decide +kernel
theorem dX9_legOf_56 : decode cX9_legOf 56 = .ok (.iload_n 1, 1) := by decide +kernel
theorem dX9_legOf_57 : decode cX9_legOf 57 = .ok (.iload_n 2, 1) := by decide +kernel
theorem dX9_legOf_58 : decode cX9_legOf 58 = .ok (.invokestatic 76, 3) := by decide +kernel
theorem dX9_legOf_61 : decode cX9_legOf 61 = .ok (.iaload, 1) := by decide +kernel
theorem dX9_legOf_62 : decode cX9_legOf 62 = .ok (.ireturn, 1) := by decide +kernel
theorem dX9_legOf_63 : decode cX9_legOf 63 = .ok (.aload_n 0, 1) := by decide +kernel
theorem dX9_legOf_64 : decode cX9_legOf 64 = .ok (.getfield 7, 3) := by decide +kernel
theorem dX9_legOf_67 : decode cX9_legOf 67 = .ok (.iload_n 1, 1) := by decide +kernel
theorem dX9_legOf_68 : decode cX9_legOf 68 = .ok (.iconst 3, 1) := by decide +kernel
theorem dX9_legOf_69 : decode cX9_legOf 69 = .ok (.invokestatic 76, 3) := by decide +kernel
theorem dX9_legOf_72 : decode cX9_legOf 72 = .ok (.iaload, 1) := by decide +kernel
theorem dX9_legOf_73 : decode cX9_legOf 73 = .ok (.ldc 231, 2) := by decide +kernel
theorem dX9_legOf_75 : decode cX9_legOf 75 = .ok (.iadd, 1) := by decide +kernel
theorem dX9_legOf_76 : decode cX9_legOf 76 = .ok (.ireturn, 1) := by decide +kernel
theorem dX9_legOf_77 : decode cX9_legOf 77 = .ok (.aload_n 0, 1) := by decide +kernel
theorem dX9_legOf_78 : decode cX9_legOf 78 = .ok (.iload_n 1, 1) := by decide +kernel
theorem dX9_legOf_79 : decode cX9_legOf 79 = .ok (.invokevirtual 126, 3) := by decide +kernel
theorem dX9_legOf_82 : decode cX9_legOf 82 = .ok (.ldc 231, 2) := by decide +kernel
theorem dX9_legOf_84 : decode cX9_legOf 84 = .ok (.iadd, 1) := by decide +kernel
theorem dX9_legOf_85 : decode cX9_legOf 85 = .ok (.ireturn, 1) := by decide +kernel
theorem dX9_legOf_86 : decode cX9_legOf 86 = .ok (.aload_n 0, 1) := by decide +kernel
theorem dX9_legOf_87 : decode cX9_legOf 87 = .ok (.getfield 47, 3) := by decide +kernel
theorem dX9_legOf_90 : decode cX9_legOf 90 = .ok (.iload_n 1, 1) := by decide +kernel
theorem dX9_legOf_91 : decode cX9_legOf 91 = .ok (.iaload, 1) := by decide +kernel
theorem dX9_legOf_92 : decode cX9_legOf 92 = .ok (.ldc 231, 2) := by decide +kernel
theorem dX9_legOf_94 : decode cX9_legOf 94 = .ok (.iadd, 1) := by decide +kernel
theorem dX9_legOf_95 : decode cX9_legOf 95 = .ok (.ireturn, 1) := by decide +kernel
theorem dX9_legOf_96 : decode cX9_legOf 96 = .ok (.aload_n 0, 1) := by decide +kernel
theorem dX9_legOf_97 : decode cX9_legOf 97 = .ok (.getfield 25, 3) := by decide +kernel
theorem dX9_legOf_100 : decode cX9_legOf 100 = .ok (.iload_n 1, 1) := by decide +kernel
theorem dX9_legOf_101 : decode cX9_legOf 101 = .ok (.baload, 1) := by decide +kernel
theorem dX9_legOf_102 : decode cX9_legOf 102 = .ok (.ifCond .eq 7, 3) := by decide +kernel
theorem dX9_legOf_105 : decode cX9_legOf 105 = .ok (.iconst 1, 1) := by decide +kernel
theorem dX9_legOf_106 : decode cX9_legOf 106 = .ok (.goto 4, 3) := by decide +kernel
theorem dX9_legOf_109 : decode cX9_legOf 109 = .ok (.iconst 0, 1) := by decide +kernel
theorem dX9_legOf_110 : decode cX9_legOf 110 = .ok (.ireturn, 1) := by decide +kernel
theorem dX9_legOf_111 : decode cX9_legOf 111 = .ok (.aload_n 0, 1) := by decide +kernel
theorem dX9_legOf_112 : decode cX9_legOf 112 = .ok (.iload_n 1, 1) := by decide +kernel
theorem dX9_legOf_113 : decode cX9_legOf 113 = .ok (.invokevirtual 232, 3) := by decide +kernel
theorem dX9_legOf_116 : decode cX9_legOf 116 = .ok (.ireturn, 1) := by decide +kernel
theorem dX9_legOf_117 : decode cX9_legOf 117 = .ok (.aload_n 0, 1) := by decide +kernel
theorem dX9_legOf_118 : decode cX9_legOf 118 = .ok (.iload_n 1, 1) := by decide +kernel
theorem dX9_legOf_119 : decode cX9_legOf 119 = .ok (.iconst 2, 1) := by decide +kernel
theorem dX9_legOf_120 : decode cX9_legOf 120 = .ok (.invokevirtual 235, 3) := by decide +kernel
theorem dX9_legOf_123 : decode cX9_legOf 123 = .ok (.ireturn, 1) := by decide +kernel
theorem dX9_legOf_124 : decode cX9_legOf 124 = .ok (.aload_n 0, 1) := by decide +kernel
theorem dX9_legOf_125 : decode cX9_legOf 125 = .ok (.iload_n 1, 1) := by decide +kernel
theorem dX9_legOf_126 : decode cX9_legOf 126 = .ok (.iconst 1, 1) := by decide +kernel
theorem dX9_legOf_127 : decode cX9_legOf 127 = .ok (.invokevirtual 235, 3) := by decide +kernel
theorem dX9_legOf_130 : decode cX9_legOf 130 = .ok (.ireturn, 1) := by decide +kernel
set_option maxRecDepth 20000 in
theorem ggX9_legOf_X9_loopsWith : GoodIn wsX9_legOf wsX9_loopsWith := goodIn_r _ [22, 17, 23, 24, 25, 7, 26, 27, 28, 29, 30, 1, 31, 32, 33, 34, 35, 5, 6, 8, 36, 37, 38, 39, 40, 41, 42, 43, 44, 45, 46, 47, 48, 49, 50, 51, 52, 53, 54, 55, 56, 57, 58, 59, 60, 61, 62, 63, 64, 65, 66, 67, 68, 69, 70, 71] (by decide +kernel) (by decide +kernel)
set_option maxRecDepth 20000 in
theorem gX9_legOf_X9_loopsWith : GoodIn wsX9_legOf (wsV RX9 235 RX9 yX9_loopsWith wsX9_loopsWith) := goodIn_app (goodIn_of _ (by decide +kernel)) ggX9_legOf_X9_loopsWith
set_option maxRecDepth 20000 in
theorem ggX9_legOf_X9_of : GoodIn wsX9_legOf wsX9_of := goodIn_r _ [8] (by decide +kernel) (by decide +kernel)
set_option maxRecDepth 20000 in
theorem gX9_legOf_X9_of : GoodIn wsX9_legOf (va_wsS RX9 76 yX9_of wsX9_of) := goodIn_app (goodIn_of _ (by decide +kernel)) ggX9_legOf_X9_of
set_option maxRecDepth 20000 in
theorem ggX9_legOf_X9_corrected : GoodIn wsX9_legOf wsX9_corrected := goodIn_r _ [12, 1, 3, 5, 6, 7, 8, 47, 48, 49, 50, 51, 52, 53, 54, 55, 56, 57, 58, 59, 60, 61, 62, 63, 64, 65, 66, 67, 68, 69, 70, 71] (by decide +kernel) (by decide +kernel)
set_option maxRecDepth 20000 in
theorem gX9_legOf_X9_corrected : GoodIn wsX9_legOf (wsV RX9 126 RX9 yX9_corrected wsX9_corrected) := goodIn_app (goodIn_of _ (by decide +kernel)) ggX9_legOf_X9_corrected
set_option maxRecDepth 20000 in
theorem ggX9_legOf_X9_loopOf : GoodIn wsX9_legOf wsX9_loopOf := goodIn_r _ [16, 17, 18, 47, 48, 49, 50, 51, 52, 53, 54, 55, 56, 57, 58, 59, 60, 61, 62, 63, 64, 65, 66, 67, 68, 69, 70, 71] (by decide +kernel) (by decide +kernel)
set_option maxRecDepth 20000 in
theorem gX9_legOf_X9_loopOf : GoodIn wsX9_legOf (wsV RX9 232 RX9 yX9_loopOf wsX9_loopOf) := goodIn_app (goodIn_of _ (by decide +kernel)) ggX9_legOf_X9_loopOf
def D_X9_legOf : Md := (yX9_legOf, cX9_legOf, 3, (some .int), wsX9_legOf, RX9, { frames := 5, cells := 0, slots := 0, locals := 112 })
theorem nm_X9_legOf : nmD D_X9_legOf 2 := ⟨rfl, by decide +kernel, by decide +kernel, by decide +kernel⟩
theorem hi_X9_legOf_X9 : ∀ w ∈ u_ws RX9 TX9 25, w ∈ wsX9_legOf := by decide +kernel
theorem hl_X9_legOf_7 : Cond.fieldLink RX9 7 "LevelLoopsModel" "s" "[I" ∈ wsX9_legOf := by decide +kernel
theorem hl_X9_legOf_25 : Cond.fieldLink RX9 25 "LevelLoopsModel" "isTree" "[Z" ∈ wsX9_legOf := by decide +kernel
theorem hl_X9_legOf_47 : Cond.fieldLink RX9 47 "LevelLoopsModel" "corrections" "[I" ∈ wsX9_legOf := by decide +kernel
def wp_X9_legOf_J52 (x1 : Int32) (x2 : Int32) (w : Wd) (Q : Int32 → Prop) : Prop :=
  wp_X9_of x1 x2 (fun r58 => vp_in r58 95 ∧ Q (wi w 0 33 r58.toNatClampNeg))
def wp_X9_legOf (x1 : Int32) (x2 : Int32) (w : Wd) (Q : Int32 → Prop) : Prop :=
  ((x2 = 0 → wp_X9_legOf_J52 x1 x2 w Q) ∧ (x2 = 1 → wp_X9_legOf_J52 x1 x2 w Q) ∧ (x2 = 2 → wp_X9_legOf_J52 x1 x2 w Q) ∧ (x2 = 3 → wp_X9_of x1 (3 : Int32) (fun r69 => vp_in r69 95 ∧ Q ((wi w 0 33 r69.toNatClampNeg) + (100000 : Int32)))) ∧ (x2 = 4 → wp_X9_corrected x1 w (fun r79 => Q (r79 + (100000 : Int32)))) ∧ (x2 = 5 → vp_in x1 20 ∧ Q ((wi w 0 45 x1.toNatClampNeg) + (100000 : Int32))) ∧ (x2 = 6 → vp_in x1 20 ∧ (((wi w 0 38 x1.toNatClampNeg) = 0 → Q (0 : Int32)) ∧ (¬ (wi w 0 38 x1.toNatClampNeg) = 0 → Q (1 : Int32)))) ∧ (x2 = 7 → wp_X9_loopOf x1 w (fun r113 => Q r113)) ∧ (x2 = 8 → wp_X9_loopsWith x1 (2 : Int32) w (fun r120 => Q r120)) ∧ (¬ x2 = 0 → ¬ x2 = 1 → ¬ x2 = 2 → ¬ x2 = 3 → ¬ x2 = 4 → ¬ x2 = 5 → ¬ x2 = 6 → ¬ x2 = 7 → ¬ x2 = 8 → wp_X9_loopsWith x1 (1 : Int32) w (fun r127 => Q r127)))
theorem ok_X9_legOf_J52 {G : Gt} {M : Mx} {Qf : State → Prop} {x1 : Int32} {x2 : Int32} {w : Wd} {Q : Int32 → Prop} (hC : cx G D_X9_legOf M) (he : en G M (qip w Q) Qf) (h : wp_X9_legOf_J52 x1 x2 w Q) : jq G D_X9_legOf M Qf 52 [(0, .ref (aD G 0 32)), (1, .int x1), (2, .int x2)] [] w := by
  unfold wp_X9_legOf_J52 at h
  refine jq_aload_n (k0 := 0) dX9_legOf_52 hC rfl rfl ?_
  refine jq_get (k0 := 1) (n := 0) (o := 32) dX9_legOf_53 hC (cl_0 (by decide)) rfl rfl hi_X9_legOf_X9 (by decide) hl_X9_legOf_7 rfl rfl ?_
  refine jq_iload_n (k0 := 1) dX9_legOf_56 hC rfl rfl ?_
  refine jq_iload_n (k0 := 2) dX9_legOf_57 hC rfl rfl ?_
  refine jq_callS (As := [.int x1, .int x2]) (rest := [.ref (aD G 0 33)]) (D' := D_X9_of) dX9_legOf_58 hC (mt_X9_of h) gX9_legOf_X9_of rfl ⟨rfl, rfl, Nat.le_of_ble_eq_true rfl, Nat.le_of_ble_eq_true rfl⟩ nm_X9_of rfl (Nat.le_of_ble_eq_true rfl) (kIp fun r58 h => ?_)
  obtain ⟨b61, h⟩ := h
  refine jq_iald (n := 0) (o := 33) (j := r58.toNatClampNeg) dX9_legOf_61 hC (cl_0 (by decide)) rfl b61 rfl ?_
  exact jq_iret dX9_legOf_62 hC he rfl ⟨_, rfl, rfl, h⟩
theorem ok_X9_legOf {G : Gt} {M : Mx} {Qf : State → Prop} {x1 : Int32} {x2 : Int32} {w : Wd} {Q : Int32 → Prop} (hC : cx G D_X9_legOf M) (he : en G M (qip w Q) Qf) (h : wp_X9_legOf x1 x2 w Q) : jq G D_X9_legOf M Qf 0 [(0, .ref (aD G 0 32)), (1, .int x1), (2, .int x2)] [] w := by
  unfold wp_X9_legOf at h
  refine jq_iload_n (k0 := 2) dX9_legOf_0 hC rfl rfl ?_
  by_cases cd : (x2).toInt < 0 ∨ 8 < (x2).toInt
  · refine jq_tout (tgt := 124) dX9_legOf_1 hC cd (by decide) ?_
    have h := h.2.2.2.2.2.2.2.2.2 (fun e => by rw [e] at cd; revert cd; decide) (fun e => by rw [e] at cd; revert cd; decide) (fun e => by rw [e] at cd; revert cd; decide) (fun e => by rw [e] at cd; revert cd; decide) (fun e => by rw [e] at cd; revert cd; decide) (fun e => by rw [e] at cd; revert cd; decide) (fun e => by rw [e] at cd; revert cd; decide) (fun e => by rw [e] at cd; revert cd; decide) (fun e => by rw [e] at cd; revert cd; decide)
    refine jq_aload_n (k0 := 0) dX9_legOf_124 hC rfl rfl ?_
    refine jq_iload_n (k0 := 1) dX9_legOf_125 hC rfl rfl ?_
    refine jq_iconst (v := (1 : Int32)) dX9_legOf_126 hC (by decide) ?_
    refine jq_callV (As := [.int x1, .int (1 : Int32)]) (rest := []) (n := 0) (o := 32) (D' := D_X9_loopsWith) dX9_legOf_127 hC (cl_0 (by decide)) rfl rfl rfl (mt_X9_loopsWith h) gX9_legOf_X9_loopsWith rfl ⟨rfl, rfl, Nat.le_of_ble_eq_true rfl, Nat.le_of_ble_eq_true rfl⟩ nm_X9_loopsWith rfl (Nat.le_of_ble_eq_true rfl) (kIp fun r127 h => ?_)
    exact jq_iret dX9_legOf_130 hC he rfl ⟨_, rfl, rfl, h⟩
  have cs : (x2).toInt = 0 ∨ (x2).toInt = 1 ∨ (x2).toInt = 2 ∨ (x2).toInt = 3 ∨ (x2).toInt = 4 ∨ (x2).toInt = 5 ∨ (x2).toInt = 6 ∨ (x2).toInt = 7 ∨ (x2).toInt = 8 := by omega
  rcases cs with cs | cs | cs | cs | cs | cs | cs | cs | cs
  · refine jq_tin (tgt := 52) (off := 51) dX9_legOf_1 hC (fun q => cd (Or.inl q)) (fun q => cd (Or.inr q)) (by rw [cs]; rfl) (by decide) ?_
    have h := h.1 (Int32.toInt_inj.mp (cs.trans (by decide)))
    refine jq_less (L' := [(0, .ref (aD G 0 32)), (1, .int x1), (2, .int x2)]) [0, 1, 2] rfl ?_
    exact ok_X9_legOf_J52 hC he h
  · refine jq_tin (tgt := 52) (off := 51) dX9_legOf_1 hC (fun q => cd (Or.inl q)) (fun q => cd (Or.inr q)) (by rw [cs]; rfl) (by decide) ?_
    have h := h.2.1 (Int32.toInt_inj.mp (cs.trans (by decide)))
    refine jq_less (L' := [(0, .ref (aD G 0 32)), (1, .int x1), (2, .int x2)]) [0, 1, 2] rfl ?_
    exact ok_X9_legOf_J52 hC he h
  · refine jq_tin (tgt := 52) (off := 51) dX9_legOf_1 hC (fun q => cd (Or.inl q)) (fun q => cd (Or.inr q)) (by rw [cs]; rfl) (by decide) ?_
    have h := h.2.2.1 (Int32.toInt_inj.mp (cs.trans (by decide)))
    refine jq_less (L' := [(0, .ref (aD G 0 32)), (1, .int x1), (2, .int x2)]) [0, 1, 2] rfl ?_
    exact ok_X9_legOf_J52 hC he h
  · refine jq_tin (tgt := 63) (off := 62) dX9_legOf_1 hC (fun q => cd (Or.inl q)) (fun q => cd (Or.inr q)) (by rw [cs]; rfl) (by decide) ?_
    have h := h.2.2.2.1 (Int32.toInt_inj.mp (cs.trans (by decide)))
    refine jq_aload_n (k0 := 0) dX9_legOf_63 hC rfl rfl ?_
    refine jq_get (k0 := 1) (n := 0) (o := 32) dX9_legOf_64 hC (cl_0 (by decide)) rfl rfl hi_X9_legOf_X9 (by decide) hl_X9_legOf_7 rfl rfl ?_
    refine jq_iload_n (k0 := 1) dX9_legOf_67 hC rfl rfl ?_
    refine jq_iconst (v := (3 : Int32)) dX9_legOf_68 hC (by decide) ?_
    refine jq_callS (As := [.int x1, .int (3 : Int32)]) (rest := [.ref (aD G 0 33)]) (D' := D_X9_of) dX9_legOf_69 hC (mt_X9_of h) gX9_legOf_X9_of rfl ⟨rfl, rfl, Nat.le_of_ble_eq_true rfl, Nat.le_of_ble_eq_true rfl⟩ nm_X9_of rfl (Nat.le_of_ble_eq_true rfl) (kIp fun r69 h => ?_)
    obtain ⟨b72, h⟩ := h
    refine jq_iald (n := 0) (o := 33) (j := r69.toNatClampNeg) dX9_legOf_72 hC (cl_0 (by decide)) rfl b72 rfl ?_
    refine jq_ldc (v := (100000 : Int32)) dX9_legOf_73 hC (by decide +kernel) ?_
    refine jq_iadd dX9_legOf_75 hC ?_
    exact jq_iret dX9_legOf_76 hC he rfl ⟨_, rfl, rfl, h⟩
  · refine jq_tin (tgt := 77) (off := 76) dX9_legOf_1 hC (fun q => cd (Or.inl q)) (fun q => cd (Or.inr q)) (by rw [cs]; rfl) (by decide) ?_
    have h := h.2.2.2.2.1 (Int32.toInt_inj.mp (cs.trans (by decide)))
    refine jq_aload_n (k0 := 0) dX9_legOf_77 hC rfl rfl ?_
    refine jq_iload_n (k0 := 1) dX9_legOf_78 hC rfl rfl ?_
    refine jq_callV (As := [.int x1]) (rest := []) (n := 0) (o := 32) (D' := D_X9_corrected) dX9_legOf_79 hC (cl_0 (by decide)) rfl rfl rfl (mt_X9_corrected h) gX9_legOf_X9_corrected rfl ⟨rfl, rfl, Nat.le_of_ble_eq_true rfl, Nat.le_of_ble_eq_true rfl⟩ nm_X9_corrected rfl (Nat.le_of_ble_eq_true rfl) (kIp fun r79 h => ?_)
    refine jq_ldc (v := (100000 : Int32)) dX9_legOf_82 hC (by decide +kernel) ?_
    refine jq_iadd dX9_legOf_84 hC ?_
    exact jq_iret dX9_legOf_85 hC he rfl ⟨_, rfl, rfl, h⟩
  · refine jq_tin (tgt := 86) (off := 85) dX9_legOf_1 hC (fun q => cd (Or.inl q)) (fun q => cd (Or.inr q)) (by rw [cs]; rfl) (by decide) ?_
    have h := h.2.2.2.2.2.1 (Int32.toInt_inj.mp (cs.trans (by decide)))
    refine jq_aload_n (k0 := 0) dX9_legOf_86 hC rfl rfl ?_
    refine jq_get (k0 := 16) (n := 0) (o := 32) dX9_legOf_87 hC (cl_0 (by decide)) rfl rfl hi_X9_legOf_X9 (by decide) hl_X9_legOf_47 rfl rfl ?_
    refine jq_iload_n (k0 := 1) dX9_legOf_90 hC rfl rfl ?_
    obtain ⟨b91, h⟩ := h
    refine jq_iald (n := 0) (o := 45) (j := x1.toNatClampNeg) dX9_legOf_91 hC (cl_0 (by decide)) rfl b91 rfl ?_
    refine jq_ldc (v := (100000 : Int32)) dX9_legOf_92 hC (by decide +kernel) ?_
    refine jq_iadd dX9_legOf_94 hC ?_
    exact jq_iret dX9_legOf_95 hC he rfl ⟨_, rfl, rfl, h⟩
  · refine jq_tin (tgt := 96) (off := 95) dX9_legOf_1 hC (fun q => cd (Or.inl q)) (fun q => cd (Or.inr q)) (by rw [cs]; rfl) (by decide) ?_
    have h := h.2.2.2.2.2.2.1 (Int32.toInt_inj.mp (cs.trans (by decide)))
    refine jq_aload_n (k0 := 0) dX9_legOf_96 hC rfl rfl ?_
    refine jq_get (k0 := 8) (n := 0) (o := 32) dX9_legOf_97 hC (cl_0 (by decide)) rfl rfl hi_X9_legOf_X9 (by decide) hl_X9_legOf_25 rfl rfl ?_
    refine jq_iload_n (k0 := 1) dX9_legOf_100 hC rfl rfl ?_
    obtain ⟨b101, h⟩ := h
    refine jq_zald (n := 0) (o := 38) (j := x1.toNatClampNeg) dX9_legOf_101 hC (cl_0 (by decide)) rfl b101 rfl ?_
    refine jq_if_eq (tgt := 109) dX9_legOf_102 hC (by decide) (fun c102 => ?_) (fun c102 => ?_)
    · have h := h.1 c102
      refine jq_iconst (v := (0 : Int32)) dX9_legOf_109 hC (by decide) ?_
      exact jq_iret dX9_legOf_110 hC he rfl ⟨_, rfl, rfl, h⟩
    · have h := h.2 c102
      refine jq_iconst (v := (1 : Int32)) dX9_legOf_105 hC (by decide) ?_
      refine jq_goto (tgt := 110) dX9_legOf_106 hC (by decide) ?_
      exact jq_iret dX9_legOf_110 hC he rfl ⟨_, rfl, rfl, h⟩
  · refine jq_tin (tgt := 111) (off := 110) dX9_legOf_1 hC (fun q => cd (Or.inl q)) (fun q => cd (Or.inr q)) (by rw [cs]; rfl) (by decide) ?_
    have h := h.2.2.2.2.2.2.2.1 (Int32.toInt_inj.mp (cs.trans (by decide)))
    refine jq_aload_n (k0 := 0) dX9_legOf_111 hC rfl rfl ?_
    refine jq_iload_n (k0 := 1) dX9_legOf_112 hC rfl rfl ?_
    refine jq_callV (As := [.int x1]) (rest := []) (n := 0) (o := 32) (D' := D_X9_loopOf) dX9_legOf_113 hC (cl_0 (by decide)) rfl rfl rfl (mt_X9_loopOf h) gX9_legOf_X9_loopOf rfl ⟨rfl, rfl, Nat.le_of_ble_eq_true rfl, Nat.le_of_ble_eq_true rfl⟩ nm_X9_loopOf rfl (Nat.le_of_ble_eq_true rfl) (kIp fun r113 h => ?_)
    exact jq_iret dX9_legOf_116 hC he rfl ⟨_, rfl, rfl, h⟩
  · refine jq_tin (tgt := 117) (off := 116) dX9_legOf_1 hC (fun q => cd (Or.inl q)) (fun q => cd (Or.inr q)) (by rw [cs]; rfl) (by decide) ?_
    have h := h.2.2.2.2.2.2.2.2.1 (Int32.toInt_inj.mp (cs.trans (by decide)))
    refine jq_aload_n (k0 := 0) dX9_legOf_117 hC rfl rfl ?_
    refine jq_iload_n (k0 := 1) dX9_legOf_118 hC rfl rfl ?_
    refine jq_iconst (v := (2 : Int32)) dX9_legOf_119 hC (by decide) ?_
    refine jq_callV (As := [.int x1, .int (2 : Int32)]) (rest := []) (n := 0) (o := 32) (D' := D_X9_loopsWith) dX9_legOf_120 hC (cl_0 (by decide)) rfl rfl rfl (mt_X9_loopsWith h) gX9_legOf_X9_loopsWith rfl ⟨rfl, rfl, Nat.le_of_ble_eq_true rfl, Nat.le_of_ble_eq_true rfl⟩ nm_X9_loopsWith rfl (Nat.le_of_ble_eq_true rfl) (kIp fun r120 h => ?_)
    exact jq_iret dX9_legOf_123 hC he rfl ⟨_, rfl, rfl, h⟩
theorem mt_X9_legOf {G : Gt} {x1 : Int32} {x2 : Int32} {w : Wd} {Q : Int32 → Prop} (h : wp_X9_legOf x1 x2 w Q) : Mt G D_X9_legOf [.ref (aD G 0 32), .int x1, .int x2] w (qip w Q) := Mt_of (by decide +kernel) rfl rfl (Nat.le_of_ble_eq_true rfl) (fun M Qf hC he => ok_X9_legOf hC he h)
/-! X9.leg(II)I -/
theorem dX9_leg_0 : decode cX9_leg 0 = .ok (.aload_n 0, 1) := by decide +kernel
theorem dX9_leg_1 : decode cX9_leg 1 = .ok (.invokevirtual 148, 3) := by decide +kernel
theorem dX9_leg_4 : decode cX9_leg 4 = .ok (.aload_n 0, 1) := by decide +kernel
theorem dX9_leg_5 : decode cX9_leg 5 = .ok (.aload_n 0, 1) := by decide +kernel
theorem dX9_leg_6 : decode cX9_leg 6 = .ok (.iload_n 1, 1) := by decide +kernel
theorem dX9_leg_7 : decode cX9_leg 7 = .ok (.invokevirtual 180, 3) := by decide +kernel
theorem dX9_leg_10 : decode cX9_leg 10 = .ok (.ifCond .ne 7, 3) := by decide +kernel
theorem dX9_leg_13 : decode cX9_leg 13 = .ok (.iconst 1, 1) := by decide +kernel
theorem dX9_leg_14 : decode cX9_leg 14 = .ok (.goto 18, 3) := by decide +kernel
theorem dX9_leg_17 : decode cX9_leg 17 = .ok (.iload_n 2, 1) := by decide +kernel
theorem dX9_leg_18 : decode cX9_leg 18 = .ok (.iconst 0, 1) := by decide +kernel
theorem dX9_leg_19 : decode cX9_leg 19 = .ok (.bipush 9, 2) := by decide +kernel
theorem dX9_leg_21 : decode cX9_leg 21 = .ok (.invokestatic 69, 3) := by decide +kernel
theorem dX9_leg_24 : decode cX9_leg 24 = .ok (.ifCond .ne 7, 3) := by decide +kernel
theorem dX9_leg_27 : decode cX9_leg 27 = .ok (.iconst 2, 1) := by decide +kernel
theorem dX9_leg_28 : decode cX9_leg 28 = .ok (.goto 4, 3) := by decide +kernel
theorem dX9_leg_31 : decode cX9_leg 31 = .ok (.iconst 0, 1) := by decide +kernel
theorem dX9_leg_32 : decode cX9_leg 32 = .ok (.invokevirtual 158, 3) := by decide +kernel
theorem dX9_leg_35 : decode cX9_leg 35 = .ok (.ifCond .eq 12, 3) := by decide +kernel
theorem dX9_leg_38 : decode cX9_leg 38 = .ok (.aload_n 0, 1) := by decide +kernel
theorem dX9_leg_39 : decode cX9_leg 39 = .ok (.iload_n 1, 1) := by decide +kernel
theorem dX9_leg_40 : decode cX9_leg 40 = .ok (.iload_n 2, 1) := by decide +kernel
theorem dX9_leg_41 : decode cX9_leg 41 = .ok (.invokevirtual 238, 3) := by decide +kernel
theorem dX9_leg_44 : decode cX9_leg 44 = .ok (.goto 4, 3) := by decide +kernel
theorem dX9_leg_47 : decode cX9_leg 47 = .ok (.iconst 0, 1) := by decide +kernel
theorem dX9_leg_48 : decode cX9_leg 48 = .ok (.ireturn, 1) := by decide +kernel
set_option maxRecDepth 20000 in
theorem ggX9_leg_X9_legOf : GoodIn wsX9_leg wsX9_legOf := goodIn_r _ [93, 10, 94, 54, 14, 19, 20, 4, 21, 95, 96, 97, 98, 99, 100, 101, 102, 38, 41, 103, 104, 105, 106, 107, 108, 109, 110, 58, 59, 60, 61, 62, 63, 64, 65, 40, 66, 67, 68, 111, 112, 113, 114, 115, 116, 117, 118, 119, 120, 121, 122, 123, 124, 125, 126, 127, 128, 129, 130, 131, 132, 133, 134, 135, 136, 137, 138, 139, 140, 141, 142, 143] (by decide +kernel) (by decide +kernel)
set_option maxRecDepth 20000 in
theorem gX9_leg_X9_legOf : GoodIn wsX9_leg (wsV RX9 238 RX9 yX9_legOf wsX9_legOf) := goodIn_app (goodIn_of _ (by decide +kernel)) ggX9_leg_X9_legOf
set_option maxRecDepth 20000 in
theorem ggX9_leg_X9_holds : GoodIn wsX9_leg wsX9_holds := goodIn_r _ [88, 89, 119, 120, 121, 122, 123, 124, 125, 126, 127, 128, 129, 130, 131, 132, 133, 134, 135, 136, 137, 138, 139, 140, 141, 142, 143] (by decide +kernel) (by decide +kernel)
set_option maxRecDepth 20000 in
theorem gX9_leg_X9_holds : GoodIn wsX9_leg (wsV RX9 158 RX9 yX9_holds wsX9_holds) := goodIn_app (goodIn_of _ (by decide +kernel)) ggX9_leg_X9_holds
set_option maxRecDepth 20000 in
theorem ggX9_leg_X9_in : GoodIn wsX9_leg wsX9_in := goodIn_r _ [84] (by decide +kernel) (by decide +kernel)
set_option maxRecDepth 20000 in
theorem gX9_leg_X9_in : GoodIn wsX9_leg (va_wsS RX9 69 yX9_in wsX9_in) := goodIn_app (goodIn_of _ (by decide +kernel)) ggX9_leg_X9_in
set_option maxRecDepth 20000 in
theorem ggX9_leg_X9_isLeg : GoodIn wsX9_leg wsX9_isLeg := goodIn_r _ [81, 10, 82, 83, 4, 84, 119, 120, 121, 122, 123, 124, 125, 126, 127, 128, 129, 130, 131, 132, 133, 134, 135, 136, 137, 138, 139, 140, 141, 142, 143] (by decide +kernel) (by decide +kernel)
set_option maxRecDepth 20000 in
theorem gX9_leg_X9_isLeg : GoodIn wsX9_leg (wsV RX9 180 RX9 yX9_isLeg wsX9_isLeg) := goodIn_app (goodIn_of _ (by decide +kernel)) ggX9_leg_X9_isLeg
set_option maxRecDepth 20000 in
theorem ggX9_leg_X9_layOut : GoodIn wsX9_leg wsX9_layOut := goodIn_r _ [5, 6, 7, 8, 4, 9, 10, 11, 12, 13, 14, 15, 16, 17, 18, 19, 20, 21, 22, 23, 24, 25, 26, 27, 28, 29, 30, 31, 32, 33, 34, 35, 36, 37, 38, 39, 40, 41, 42, 43, 44, 45, 46, 47, 48, 49, 50, 51, 52, 53, 54, 55, 56, 57, 58, 59, 60, 61, 62, 63, 64, 65, 66, 67, 68, 69, 70, 71, 72, 73, 74, 75, 76, 77, 119, 120, 121, 122, 123, 124, 125, 126, 127, 128, 129, 130, 131, 132, 133, 134, 135, 136, 137, 138, 139, 140, 141, 142, 143] (by decide +kernel) (by decide +kernel)
set_option maxRecDepth 20000 in
theorem gX9_leg_X9_layOut : GoodIn wsX9_leg (wsV RX9 148 RX9 yX9_layOut wsX9_layOut) := goodIn_app (goodIn_of _ (by decide +kernel)) ggX9_leg_X9_layOut
def D_X9_leg : Md := (yX9_leg, cX9_leg, 3, (some .int), wsX9_leg, RX9, { frames := 6, cells := 0, slots := 0, locals := 134 })
theorem nm_X9_leg : nmD D_X9_leg 2 := ⟨rfl, by decide +kernel, by decide +kernel, by decide +kernel⟩
def wp_X9_leg_J32 (x1 : Int32) (x2 : Int32) (s0 : Int32) (w : Wd) (Q : Int32 → Wd → Prop) : Prop :=
  wp_X9_holds s0 w (fun r32 w32 => ((r32 = 0 → Q (0 : Int32) w32) ∧ (¬ r32 = 0 → wp_X9_legOf x1 x2 w32 (fun r41 => Q r41 w32))))
def wp_X9_leg (x1 : Int32) (x2 : Int32) (w : Wd) (Q : Int32 → Wd → Prop) : Prop :=
  wp_X9_layOut w (fun w1 => wp_X9_isLeg x1 w1 (fun r7 => ((¬ r7 = 0 → wp_X9_in x2 (0 : Int32) (9 : Int32) (fun r21 => ((¬ r21 = 0 → wp_X9_leg_J32 x1 x2 (0 : Int32) w1 Q) ∧ (r21 = 0 → wp_X9_leg_J32 x1 x2 (2 : Int32) w1 Q)))) ∧ (r7 = 0 → wp_X9_leg_J32 x1 x2 (1 : Int32) w1 Q))))
theorem ok_X9_leg_J32 {G : Gt} {M : Mx} {Qf : State → Prop} {x1 : Int32} {x2 : Int32} {s0 : Int32} {w : Wd} {Q : Int32 → Wd → Prop} (hC : cx G D_X9_leg M) (he : en G M (qi Q) Qf) (h : wp_X9_leg_J32 x1 x2 s0 w Q) : jq G D_X9_leg M Qf 32 [(0, .ref (aD G 0 32)), (1, .int x1), (2, .int x2)] [.int s0, .ref (aD G 0 32)] w := by
  unfold wp_X9_leg_J32 at h
  refine jq_callV (As := [.int s0]) (rest := []) (n := 0) (o := 32) (D' := D_X9_holds) dX9_leg_32 hC (cl_0 (by decide)) rfl rfl rfl (mt_X9_holds h) gX9_leg_X9_holds rfl ⟨rfl, rfl, Nat.le_of_ble_eq_true rfl, Nat.le_of_ble_eq_true rfl⟩ nm_X9_holds rfl (Nat.le_of_ble_eq_true rfl) (kI fun r32 w32 h => ?_)
  refine jq_if_eq (tgt := 47) dX9_leg_35 hC (by decide) (fun c35 => ?_) (fun c35 => ?_)
  · have h := h.1 c35
    refine jq_iconst (v := (0 : Int32)) dX9_leg_47 hC (by decide) ?_
    exact jq_iret dX9_leg_48 hC he rfl ⟨_, rfl, h⟩
  · have h := h.2 c35
    refine jq_aload_n (k0 := 0) dX9_leg_38 hC rfl rfl ?_
    refine jq_iload_n (k0 := 1) dX9_leg_39 hC rfl rfl ?_
    refine jq_iload_n (k0 := 2) dX9_leg_40 hC rfl rfl ?_
    refine jq_callV (As := [.int x1, .int x2]) (rest := []) (n := 0) (o := 32) (D' := D_X9_legOf) dX9_leg_41 hC (cl_0 (by decide)) rfl rfl rfl (mt_X9_legOf h) gX9_leg_X9_legOf rfl ⟨rfl, rfl, Nat.le_of_ble_eq_true rfl, Nat.le_of_ble_eq_true rfl⟩ nm_X9_legOf rfl (Nat.le_of_ble_eq_true rfl) (kIp fun r41 h => ?_)
    refine jq_goto (tgt := 48) dX9_leg_44 hC (by decide) ?_
    exact jq_iret dX9_leg_48 hC he rfl ⟨_, rfl, h⟩
theorem ok_X9_leg {G : Gt} {M : Mx} {Qf : State → Prop} {x1 : Int32} {x2 : Int32} {w : Wd} {Q : Int32 → Wd → Prop} (hC : cx G D_X9_leg M) (he : en G M (qi Q) Qf) (h : wp_X9_leg x1 x2 w Q) : jq G D_X9_leg M Qf 0 [(0, .ref (aD G 0 32)), (1, .int x1), (2, .int x2)] [] w := by
  unfold wp_X9_leg at h
  refine jq_aload_n (k0 := 0) dX9_leg_0 hC rfl rfl ?_
  refine jq_callV (As := []) (rest := []) (n := 0) (o := 32) (D' := D_X9_layOut) dX9_leg_1 hC (cl_0 (by decide)) rfl rfl rfl (mt_X9_layOut h) gX9_leg_X9_layOut rfl ⟨rfl, rfl, Nat.le_of_ble_eq_true rfl, Nat.le_of_ble_eq_true rfl⟩ nm_X9_layOut rfl (Nat.le_of_ble_eq_true rfl) (kV fun w1 h => ?_)
  refine jq_aload_n (k0 := 0) dX9_leg_4 hC rfl rfl ?_
  refine jq_aload_n (k0 := 0) dX9_leg_5 hC rfl rfl ?_
  refine jq_iload_n (k0 := 1) dX9_leg_6 hC rfl rfl ?_
  refine jq_callV (As := [.int x1]) (rest := [.ref (aD G 0 32)]) (n := 0) (o := 32) (D' := D_X9_isLeg) dX9_leg_7 hC (cl_0 (by decide)) rfl rfl rfl (mt_X9_isLeg h) gX9_leg_X9_isLeg rfl ⟨rfl, rfl, Nat.le_of_ble_eq_true rfl, Nat.le_of_ble_eq_true rfl⟩ nm_X9_isLeg rfl (Nat.le_of_ble_eq_true rfl) (kIp fun r7 h => ?_)
  refine jq_if_ne (tgt := 17) dX9_leg_10 hC (by decide) (fun c10 => ?_) (fun c10 => ?_)
  · have h := h.1 c10
    refine jq_iload_n (k0 := 2) dX9_leg_17 hC rfl rfl ?_
    refine jq_iconst (v := (0 : Int32)) dX9_leg_18 hC (by decide) ?_
    refine jq_bipush (v := (9 : Int32)) dX9_leg_19 hC (by decide) ?_
    refine jq_callS (As := [.int x2, .int (0 : Int32), .int (9 : Int32)]) (rest := [.ref (aD G 0 32)]) (D' := D_X9_in) dX9_leg_21 hC (mt_X9_in h) gX9_leg_X9_in rfl ⟨rfl, rfl, Nat.le_of_ble_eq_true rfl, Nat.le_of_ble_eq_true rfl⟩ nm_X9_in rfl (Nat.le_of_ble_eq_true rfl) (kIp fun r21 h => ?_)
    refine jq_if_ne (tgt := 31) dX9_leg_24 hC (by decide) (fun c24 => ?_) (fun c24 => ?_)
    · have h := h.1 c24
      refine jq_iconst (v := (0 : Int32)) dX9_leg_31 hC (by decide) ?_
      refine jq_less (L' := [(0, .ref (aD G 0 32)), (1, .int x1), (2, .int x2)]) [0, 1, 2] rfl ?_
      exact ok_X9_leg_J32 hC he h
    · have h := h.2 c24
      refine jq_iconst (v := (2 : Int32)) dX9_leg_27 hC (by decide) ?_
      refine jq_goto (tgt := 32) dX9_leg_28 hC (by decide) ?_
      refine jq_less (L' := [(0, .ref (aD G 0 32)), (1, .int x1), (2, .int x2)]) [0, 1, 2] rfl ?_
      exact ok_X9_leg_J32 hC he h
  · have h := h.2 c10
    refine jq_iconst (v := (1 : Int32)) dX9_leg_13 hC (by decide) ?_
    refine jq_goto (tgt := 32) dX9_leg_14 hC (by decide) ?_
    refine jq_less (L' := [(0, .ref (aD G 0 32)), (1, .int x1), (2, .int x2)]) [0, 1, 2] rfl ?_
    exact ok_X9_leg_J32 hC he h
theorem mt_X9_leg {G : Gt} {x1 : Int32} {x2 : Int32} {w : Wd} {Q : Int32 → Wd → Prop} (h : wp_X9_leg x1 x2 w Q) : Mt G D_X9_leg [.ref (aD G 0 32), .int x1, .int x2] w (qi Q) := Mt_of (by decide +kernel) rfl rfl (Nat.le_of_ble_eq_true rfl) (fun M Qf hC he => ok_X9_leg hC he h)
/-! X9.loopAt(II)I -/
theorem dX9_loopAt_0 : decode cX9_loopAt 0 = .ok (.aload_n 0, 1) := by decide +kernel
theorem dX9_loopAt_1 : decode cX9_loopAt 1 = .ok (.iload_n 1, 1) := by decide +kernel
theorem dX9_loopAt_2 : decode cX9_loopAt 2 = .ok (.invokevirtual 113, 3) := by decide +kernel
theorem dX9_loopAt_5 : decode cX9_loopAt 5 = .ok (.istore_n 3, 1) := by decide +kernel
theorem dX9_loopAt_6 : decode cX9_loopAt 6 = .ok (.iload_n 2, 1) := by decide +kernel
theorem dX9_loopAt_7 : decode cX9_loopAt 7 = .ok (.tableswitch 147 0 6 #[41, 48, 98, 104, 109, 127, 133], 41) := by decide +kernel
theorem dX9_loopAt_48 : decode cX9_loopAt 48 = .ok (.aload_n 0, 1) := by decide +kernel
theorem dX9_loopAt_49 : decode cX9_loopAt 49 = .ok (.getfield 41, 3) := by decide +kernel
theorem dX9_loopAt_52 : decode cX9_loopAt 52 = .ok (.iload_n 1, 1) := by decide +kernel
theorem dX9_loopAt_53 : decode cX9_loopAt 53 = .ok (.iaload, 1) := by decide +kernel
theorem dX9_loopAt_54 : decode cX9_loopAt 54 = .ok (.ireturn, 1) := by decide +kernel
theorem dX9_loopAt_55 : decode cX9_loopAt 55 = .ok (.iconst 0, 1) := by decide +kernel
theorem dX9_loopAt_56 : decode cX9_loopAt 56 = .ok (.istore 4, 2) := by decide +kernel
theorem dX9_loopAt_58 : decode cX9_loopAt 58 = .ok (.iconst 0, 1) := by decide +kernel
theorem dX9_loopAt_59 : decode cX9_loopAt 59 = .ok (.istore 5, 2) := by decide +kernel
theorem dX9_loopAt_61 : decode cX9_loopAt 61 = .ok (.iload 5, 2) := by decide +kernel
theorem dX9_loopAt_63 : decode cX9_loopAt 63 = .ok (.aload_n 0, 1) := by decide +kernel
theorem dX9_loopAt_64 : decode cX9_loopAt 64 = .ok (.getfield 7, 3) := by decide +kernel
theorem dX9_loopAt_67 : decode cX9_loopAt 67 = .ok (.bipush 11, 2) := by decide +kernel
theorem dX9_loopAt_69 : decode cX9_loopAt 69 = .ok (.iaload, 1) := by decide +kernel
theorem dX9_loopAt_70 : decode cX9_loopAt 70 = .ok (.if_icmp .ge 32, 3) := by decide +kernel
theorem dX9_loopAt_73 : decode cX9_loopAt 73 = .ok (.iload 4, 2) := by decide +kernel
theorem dX9_loopAt_75 : decode cX9_loopAt 75 = .ok (.aload_n 0, 1) := by decide +kernel
theorem dX9_loopAt_76 : decode cX9_loopAt 76 = .ok (.iload_n 1, 1) := by decide +kernel
theorem dX9_loopAt_77 : decode cX9_loopAt 77 = .ok (.iload 5, 2) := by decide +kernel
theorem dX9_loopAt_79 : decode cX9_loopAt 79 = .ok (.invokevirtual 104, 3) := by decide +kernel
theorem dX9_loopAt_82 : decode cX9_loopAt 82 = .ok (.ifCond .eq 10, 3) := by decide +kernel
theorem dX9_loopAt_85 : decode cX9_loopAt 85 = .ok (.iconst 1, 1) := by decide +kernel
theorem dX9_loopAt_86 : decode cX9_loopAt 86 = .ok (.iload 5, 2) := by decide +kernel
theorem dX9_loopAt_88 : decode cX9_loopAt 88 = .ok (.ishl, 1) := by decide +kernel
theorem dX9_loopAt_89 : decode cX9_loopAt 89 = .ok (.goto 4, 3) := by decide +kernel
theorem dX9_loopAt_92 : decode cX9_loopAt 92 = .ok (.iconst 0, 1) := by decide +kernel
theorem dX9_loopAt_93 : decode cX9_loopAt 93 = .ok (.ior, 1) := by decide +kernel
theorem dX9_loopAt_94 : decode cX9_loopAt 94 = .ok (.istore 4, 2) := by decide +kernel
theorem dX9_loopAt_96 : decode cX9_loopAt 96 = .ok (.iinc 5 1, 3) := by decide +kernel
theorem dX9_loopAt_99 : decode cX9_loopAt 99 = .ok (.goto (-38), 3) := by decide +kernel
theorem dX9_loopAt_102 : decode cX9_loopAt 102 = .ok (.iload 4, 2) := by decide +kernel
theorem dX9_loopAt_104 : decode cX9_loopAt 104 = .ok (.ireturn, 1) := by decide +kernel
theorem dX9_loopAt_105 : decode cX9_loopAt 105 = .ok (.aload_n 0, 1) := by decide +kernel
theorem dX9_loopAt_106 : decode cX9_loopAt 106 = .ok (.iload_n 1, 1) := by decide +kernel
theorem dX9_loopAt_107 : decode cX9_loopAt 107 = .ok (.invokevirtual 110, 3) := by decide +kernel
theorem dX9_loopAt_110 : decode cX9_loopAt 110 = .ok (.ireturn, 1) := by decide +kernel
theorem dX9_loopAt_111 : decode cX9_loopAt 111 = .ok (.iload_n 3, 1) := by decide +kernel
theorem dX9_loopAt_112 : decode cX9_loopAt 112 = .ok (.invokestatic 107, 3) := by decide +kernel
theorem dX9_loopAt_115 : decode cX9_loopAt 115 = .ok (.ireturn, 1) := by decide +kernel
theorem dX9_loopAt_116 : decode cX9_loopAt 116 = .ok (.iload_n 3, 1) := by decide +kernel
theorem dX9_loopAt_117 : decode cX9_loopAt 117 = .ok (.ifCond .ne 7, 3) := by decide +kernel
theorem dX9_loopAt_120 : decode cX9_loopAt 120 = .ok (.iconst 0, 1) := by decide +kernel
theorem dX9_loopAt_121 : decode cX9_loopAt 121 = .ok (.goto 12, 3) := by decide +kernel
theorem dX9_loopAt_124 : decode cX9_loopAt 124 = .ok (.iload_n 3, 1) := by decide +kernel
theorem dX9_loopAt_125 : decode cX9_loopAt 125 = .ok (.ifCond .le 7, 3) := by decide +kernel
theorem dX9_loopAt_128 : decode cX9_loopAt 128 = .ok (.iconst 1, 1) := by decide +kernel
theorem dX9_loopAt_129 : decode cX9_loopAt 129 = .ok (.goto 4, 3) := by decide +kernel
theorem dX9_loopAt_132 : decode cX9_loopAt 132 = .ok (.iconst 2, 1) := by decide +kernel
theorem dX9_loopAt_133 : decode cX9_loopAt 133 = .ok (.ireturn, 1) := by decide +kernel
theorem dX9_loopAt_134 : decode cX9_loopAt 134 = .ok (.aload_n 0, 1) := by decide +kernel
theorem dX9_loopAt_135 : decode cX9_loopAt 135 = .ok (.iload_n 1, 1) := by decide +kernel
theorem dX9_loopAt_136 : decode cX9_loopAt 136 = .ok (.invokevirtual 116, 3) := by decide +kernel
theorem dX9_loopAt_139 : decode cX9_loopAt 139 = .ok (.ireturn, 1) := by decide +kernel
theorem dX9_loopAt_140 : decode cX9_loopAt 140 = .ok (.aload_n 0, 1) := by decide +kernel
theorem dX9_loopAt_141 : decode cX9_loopAt 141 = .ok (.iload_n 1, 1) := by decide +kernel
theorem dX9_loopAt_142 : decode cX9_loopAt 142 = .ok (.invokevirtual 228, 3) := by decide +kernel
theorem dX9_loopAt_145 : decode cX9_loopAt 145 = .ok (.ifCond .eq 7, 3) := by decide +kernel
theorem dX9_loopAt_148 : decode cX9_loopAt 148 = .ok (.iconst 1, 1) := by decide +kernel
theorem dX9_loopAt_149 : decode cX9_loopAt 149 = .ok (.goto 4, 3) := by decide +kernel
theorem dX9_loopAt_152 : decode cX9_loopAt 152 = .ok (.iconst 0, 1) := by decide +kernel
theorem dX9_loopAt_153 : decode cX9_loopAt 153 = .ok (.ireturn, 1) := by decide +kernel
theorem dX9_loopAt_154 : decode cX9_loopAt 154 = .ok (.aload_n 0, 1) := by decide +kernel
theorem dX9_loopAt_155 : decode cX9_loopAt 155 = .ok (.getfield 44, 3) := by decide +kernel
theorem dX9_loopAt_158 : decode cX9_loopAt 158 = .ok (.iload_n 1, 1) := by decide +kernel
theorem dX9_loopAt_159 : decode cX9_loopAt 159 = .ok (.iaload, 1) := by decide +kernel
theorem dX9_loopAt_160 : decode cX9_loopAt 160 = .ok (.ireturn, 1) := by decide +kernel
set_option maxRecDepth 20000 in
theorem ggX9_loopAt_X9_signIn : GoodIn wsX9_loopAt wsX9_signIn := goodIn_r _ [12, 13, 32, 33, 34, 35, 36, 37, 38, 39, 40, 41, 42, 43, 44, 45, 46, 47, 48, 49, 50, 51, 52, 53, 54, 55, 56] (by decide +kernel) (by decide +kernel)
set_option maxRecDepth 20000 in
theorem gX9_loopAt_X9_signIn : GoodIn wsX9_loopAt (wsV RX9 104 RX9 yX9_signIn wsX9_signIn) := goodIn_app (goodIn_of _ (by decide +kernel)) ggX9_loopAt_X9_signIn
set_option maxRecDepth 20000 in
theorem ggX9_loopAt_X9_lengthOf : GoodIn wsX9_loopAt wsX9_lengthOf := goodIn_r _ [20, 2, 9, 10, 11, 7, 12, 13, 21, 22, 23, 14, 15, 16, 32, 33, 34, 35, 36, 37, 38, 39, 40, 41, 42, 43, 44, 45, 46, 47, 48, 49, 50, 51, 52, 53, 54, 55, 56] (by decide +kernel) (by decide +kernel)
set_option maxRecDepth 20000 in
theorem gX9_loopAt_X9_lengthOf : GoodIn wsX9_loopAt (wsV RX9 110 RX9 yX9_lengthOf wsX9_lengthOf) := goodIn_app (goodIn_of _ (by decide +kernel)) ggX9_loopAt_X9_lengthOf
set_option maxRecDepth 20000 in
theorem ggX9_loopAt_X9_size : GoodIn wsX9_loopAt wsX9_size := goodIn_r _ [23] (by decide +kernel) (by decide +kernel)
set_option maxRecDepth 20000 in
theorem gX9_loopAt_X9_size : GoodIn wsX9_loopAt (va_wsS RX9 107 yX9_size wsX9_size) := goodIn_app (goodIn_of _ (by decide +kernel)) ggX9_loopAt_X9_size
set_option maxRecDepth 20000 in
theorem ggX9_loopAt_X9_allowed : GoodIn wsX9_loopAt wsX9_allowed := goodIn_r _ [27, 2, 17, 18, 19, 7, 20, 9, 10, 11, 12, 13, 21, 22, 23, 14, 15, 16, 32, 33, 34, 35, 36, 37, 38, 39, 40, 41, 42, 43, 44, 45, 46, 47, 48, 49, 50, 51, 52, 53, 54, 55, 56] (by decide +kernel) (by decide +kernel)
set_option maxRecDepth 20000 in
theorem gX9_loopAt_X9_allowed : GoodIn wsX9_loopAt (wsV RX9 116 RX9 yX9_allowed wsX9_allowed) := goodIn_app (goodIn_of _ (by decide +kernel)) ggX9_loopAt_X9_allowed
set_option maxRecDepth 20000 in
theorem ggX9_loopAt_X9_isBad : GoodIn wsX9_loopAt wsX9_isBad := goodIn_r _ [31, 4, 5, 6, 7, 8, 2, 9, 10, 11, 12, 13, 14, 15, 16, 21, 22, 23, 24, 25, 26, 27, 17, 18, 19, 20, 32, 33, 34, 35, 36, 37, 38, 39, 40, 41, 42, 43, 44, 45, 46, 47, 48, 49, 50, 51, 52, 53, 54, 55, 56] (by decide +kernel) (by decide +kernel)
set_option maxRecDepth 20000 in
theorem gX9_loopAt_X9_isBad : GoodIn wsX9_loopAt (wsV RX9 228 RX9 yX9_isBad wsX9_isBad) := goodIn_app (goodIn_of _ (by decide +kernel)) ggX9_loopAt_X9_isBad
set_option maxRecDepth 20000 in
theorem ggX9_loopAt_X9_missOf : GoodIn wsX9_loopAt wsX9_missOf := goodIn_r _ [8, 2, 9, 10, 11, 7, 12, 13, 14, 15, 16, 32, 33, 34, 35, 36, 37, 38, 39, 40, 41, 42, 43, 44, 45, 46, 47, 48, 49, 50, 51, 52, 53, 54, 55, 56] (by decide +kernel) (by decide +kernel)
set_option maxRecDepth 20000 in
theorem gX9_loopAt_X9_missOf : GoodIn wsX9_loopAt (wsV RX9 113 RX9 yX9_missOf wsX9_missOf) := goodIn_app (goodIn_of _ (by decide +kernel)) ggX9_loopAt_X9_missOf
def D_X9_loopAt : Md := (yX9_loopAt, cX9_loopAt, 6, (some .int), wsX9_loopAt, RX9, { frames := 4, cells := 0, slots := 0, locals := 87 })
theorem nm_X9_loopAt : nmD D_X9_loopAt 2 := ⟨rfl, by decide +kernel, by decide +kernel, by decide +kernel⟩
theorem hi_X9_loopAt_X9 : ∀ w ∈ u_ws RX9 TX9 25, w ∈ wsX9_loopAt := by decide +kernel
theorem hl_X9_loopAt_7 : Cond.fieldLink RX9 7 "LevelLoopsModel" "s" "[I" ∈ wsX9_loopAt := by decide +kernel
theorem hl_X9_loopAt_41 : Cond.fieldLink RX9 41 "LevelLoopsModel" "closing" "[I" ∈ wsX9_loopAt := by decide +kernel
theorem hl_X9_loopAt_44 : Cond.fieldLink RX9 44 "LevelLoopsModel" "spread" "[I" ∈ wsX9_loopAt := by decide +kernel
def wp_X9_loopAt_B61 (x1 : Int32) (x4 : Int32) (x5 : Int32) (w : Wd) (Q : Int32 → Prop) (K61 : Int32 → Int32 → Prop) : Prop :=
  (((wi w 0 33 11) ≤ x5 → Q x4) ∧ (¬ (wi w 0 33 11) ≤ x5 → wp_X9_signIn x1 x5 w (fun r79 => ((r79 = 0 → K61 (x4 ||| (0 : Int32)) (x5 + 1)) ∧ (¬ r79 = 0 → K61 (x4 ||| ((1 : Int32) <<< (x5 &&& 31))) (x5 + 1))))))
def wp_X9_loopAt_L61 (x1 : Int32) (x4 : Int32) (x5 : Int32) (w : Wd) (Q : Int32 → Prop) : Prop :=
  ∃ (I : Int32 → Int32 → Prop) (μ : Int32 → Int32 → Nat), I x4 x5 ∧ ∀ (x4 : Int32) (x5 : Int32), I x4 x5 → wp_X9_loopAt_B61 x1 x4 x5 w Q (fun x4' x5' => I x4' x5' ∧ μ x4' x5' < μ x4 x5)
def wp_X9_loopAt (x1 : Int32) (x2 : Int32) (w : Wd) (Q : Int32 → Prop) : Prop :=
  wp_X9_missOf x1 w (fun r2 => ((x2 = 0 → vp_in x1 20 ∧ Q (wi w 0 43 x1.toNatClampNeg)) ∧ (x2 = 1 → wp_X9_loopAt_L61 x1 (0 : Int32) (0 : Int32) w Q) ∧ (x2 = 2 → wp_X9_lengthOf x1 w (fun r107 => Q r107)) ∧ (x2 = 3 → wp_X9_size r2 (fun r112 => Q r112)) ∧ (x2 = 4 → ((¬ r2 = 0 → ((r2 ≤ 0 → Q (2 : Int32)) ∧ (¬ r2 ≤ 0 → Q (1 : Int32)))) ∧ (r2 = 0 → Q (0 : Int32)))) ∧ (x2 = 5 → wp_X9_allowed x1 w (fun r136 => Q r136)) ∧ (x2 = 6 → wp_X9_isBad x1 w (fun r142 => ((r142 = 0 → Q (0 : Int32)) ∧ (¬ r142 = 0 → Q (1 : Int32))))) ∧ (¬ x2 = 0 → ¬ x2 = 1 → ¬ x2 = 2 → ¬ x2 = 3 → ¬ x2 = 4 → ¬ x2 = 5 → ¬ x2 = 6 → vp_in x1 20 ∧ Q (wi w 0 44 x1.toNatClampNeg))))
theorem ok_X9_loopAt_B61 {G : Gt} {M : Mx} {Qf : State → Prop} {x1 : Int32} {x4 : Int32} {x5 : Int32} {w : Wd} {Q : Int32 → Prop} {K61 : Int32 → Int32 → Prop} (hC : cx G D_X9_loopAt M) (he : en G M (qip w Q) Qf) (h : wp_X9_loopAt_B61 x1 x4 x5 w Q K61) (hK61 : ∀ (x4 : Int32) (x5 : Int32), K61 x4 x5 → jq G D_X9_loopAt M Qf 61 [(0, .ref (aD G 0 32)), (1, .int x1), (4, .int x4), (5, .int x5)] [] w) : jq G D_X9_loopAt M Qf 61 [(0, .ref (aD G 0 32)), (1, .int x1), (4, .int x4), (5, .int x5)] [] w := by
  unfold wp_X9_loopAt_B61 at h
  refine jq_iload (k0 := 3) dX9_loopAt_61 hC rfl ?_
  refine jq_aload_n (k0 := 0) dX9_loopAt_63 hC rfl rfl ?_
  refine jq_get (k0 := 1) (n := 0) (o := 32) dX9_loopAt_64 hC (cl_0 (by decide)) rfl rfl hi_X9_loopAt_X9 (by decide) hl_X9_loopAt_7 rfl rfl ?_
  refine jq_bipush (v := (11 : Int32)) dX9_loopAt_67 hC (by decide) ?_
  refine jq_iald (n := 0) (o := 33) (j := 11) dX9_loopAt_69 hC (cl_0 (by decide)) rfl (vin (by decide)) (by decide) ?_
  refine jq_icmp_ge (tgt := 102) dX9_loopAt_70 hC (by decide) (fun c70 => ?_) (fun c70 => ?_)
  · have h := h.1 c70
    refine jq_iload (k0 := 2) dX9_loopAt_102 hC rfl ?_
    exact jq_iret dX9_loopAt_104 hC he rfl ⟨_, rfl, rfl, h⟩
  · have h := h.2 c70
    refine jq_iload (k0 := 2) dX9_loopAt_73 hC rfl ?_
    refine jq_aload_n (k0 := 0) dX9_loopAt_75 hC rfl rfl ?_
    refine jq_iload_n (k0 := 1) dX9_loopAt_76 hC rfl rfl ?_
    refine jq_iload (k0 := 3) dX9_loopAt_77 hC rfl ?_
    refine jq_callV (As := [.int x1, .int x5]) (rest := [.int x4]) (n := 0) (o := 32) (D' := D_X9_signIn) dX9_loopAt_79 hC (cl_0 (by decide)) rfl rfl rfl (mt_X9_signIn h) gX9_loopAt_X9_signIn rfl ⟨rfl, rfl, Nat.le_of_ble_eq_true rfl, Nat.le_of_ble_eq_true rfl⟩ nm_X9_signIn rfl (Nat.le_of_ble_eq_true rfl) (kIp fun r79 h => ?_)
    refine jq_if_eq (tgt := 92) dX9_loopAt_82 hC (by decide) (fun c82 => ?_) (fun c82 => ?_)
    · have h := h.1 c82
      refine jq_iconst (v := (0 : Int32)) dX9_loopAt_92 hC (by decide) ?_
      refine jq_ior dX9_loopAt_93 hC ?_
      refine jq_istore (L' := [(4, .int (x4 ||| (0 : Int32))), (0, .ref (aD G 0 32)), (1, .int x1), (5, .int x5)]) dX9_loopAt_94 hC (by decide) rfl ?_
      refine jq_iinc (k0 := 3) (v := (x5 + 1)) (L' := [(5, .int (x5 + 1)), (4, .int (x4 ||| (0 : Int32))), (0, .ref (aD G 0 32)), (1, .int x1)]) dX9_loopAt_96 hC rfl rfl (by decide) rfl ?_
      refine jq_goto (tgt := 61) dX9_loopAt_99 hC (by decide) ?_
      exact jq_less (L' := [(0, .ref (aD G 0 32)), (1, .int x1), (4, .int (x4 ||| (0 : Int32))), (5, .int (x5 + 1))]) [2, 3, 1, 0] rfl (hK61 _ _ h)
    · have h := h.2 c82
      refine jq_iconst (v := (1 : Int32)) dX9_loopAt_85 hC (by decide) ?_
      refine jq_iload (k0 := 3) dX9_loopAt_86 hC rfl ?_
      refine jq_ishl dX9_loopAt_88 hC ?_
      refine jq_goto (tgt := 93) dX9_loopAt_89 hC (by decide) ?_
      refine jq_ior dX9_loopAt_93 hC ?_
      refine jq_istore (L' := [(4, .int (x4 ||| ((1 : Int32) <<< (x5 &&& 31)))), (0, .ref (aD G 0 32)), (1, .int x1), (5, .int x5)]) dX9_loopAt_94 hC (by decide) rfl ?_
      refine jq_iinc (k0 := 3) (v := (x5 + 1)) (L' := [(5, .int (x5 + 1)), (4, .int (x4 ||| ((1 : Int32) <<< (x5 &&& 31)))), (0, .ref (aD G 0 32)), (1, .int x1)]) dX9_loopAt_96 hC rfl rfl (by decide) rfl ?_
      refine jq_goto (tgt := 61) dX9_loopAt_99 hC (by decide) ?_
      exact jq_less (L' := [(0, .ref (aD G 0 32)), (1, .int x1), (4, .int (x4 ||| ((1 : Int32) <<< (x5 &&& 31)))), (5, .int (x5 + 1))]) [2, 3, 1, 0] rfl (hK61 _ _ h)
theorem ok_X9_loopAt_L61 {G : Gt} {M : Mx} {Qf : State → Prop} {x1 : Int32} {x4 : Int32} {x5 : Int32} {w : Wd} {Q : Int32 → Prop} (hC : cx G D_X9_loopAt M) (he : en G M (qip w Q) Qf) (h : wp_X9_loopAt_L61 x1 x4 x5 w Q) : jq G D_X9_loopAt M Qf 61 [(0, .ref (aD G 0 32)), (1, .int x1), (4, .int x4), (5, .int x5)] [] w := by
  unfold wp_X9_loopAt_L61 at h
  obtain ⟨I, μ, h0, hs⟩ := h
  exact lp_ind (σ := Int32 × Int32) (P := fun s => jq G D_X9_loopAt M Qf 61 [(0, .ref (aD G 0 32)), (1, .int x1), (4, .int s.1), (5, .int s.2)] [] w) (fun s => I s.1 s.2) (fun s => μ s.1 s.2) (fun s h1 ih => ok_X9_loopAt_B61 hC he (hs s.1 s.2 h1) (fun x4' x5' h => ih (x4', x5') h.1 h.2)) (x4, x5) h0
theorem ok_X9_loopAt {G : Gt} {M : Mx} {Qf : State → Prop} {x1 : Int32} {x2 : Int32} {w : Wd} {Q : Int32 → Prop} (hC : cx G D_X9_loopAt M) (he : en G M (qip w Q) Qf) (h : wp_X9_loopAt x1 x2 w Q) : jq G D_X9_loopAt M Qf 0 [(0, .ref (aD G 0 32)), (1, .int x1), (2, .int x2)] [] w := by
  unfold wp_X9_loopAt at h
  refine jq_aload_n (k0 := 0) dX9_loopAt_0 hC rfl rfl ?_
  refine jq_iload_n (k0 := 1) dX9_loopAt_1 hC rfl rfl ?_
  refine jq_callV (As := [.int x1]) (rest := []) (n := 0) (o := 32) (D' := D_X9_missOf) dX9_loopAt_2 hC (cl_0 (by decide)) rfl rfl rfl (mt_X9_missOf h) gX9_loopAt_X9_missOf rfl ⟨rfl, rfl, Nat.le_of_ble_eq_true rfl, Nat.le_of_ble_eq_true rfl⟩ nm_X9_missOf rfl (Nat.le_of_ble_eq_true rfl) (kIp fun r2 h => ?_)
  refine jq_istore_n (L' := [(3, .int r2), (0, .ref (aD G 0 32)), (1, .int x1), (2, .int x2)]) dX9_loopAt_5 hC rfl (by decide) rfl ?_
  refine jq_iload_n (k0 := 3) dX9_loopAt_6 hC rfl rfl ?_
  by_cases cd : (x2).toInt < 0 ∨ 6 < (x2).toInt
  · refine jq_tout (tgt := 154) dX9_loopAt_7 hC cd (by decide) ?_
    have h := h.2.2.2.2.2.2.2 (fun e => by rw [e] at cd; revert cd; decide) (fun e => by rw [e] at cd; revert cd; decide) (fun e => by rw [e] at cd; revert cd; decide) (fun e => by rw [e] at cd; revert cd; decide) (fun e => by rw [e] at cd; revert cd; decide) (fun e => by rw [e] at cd; revert cd; decide) (fun e => by rw [e] at cd; revert cd; decide)
    refine jq_aload_n (k0 := 1) dX9_loopAt_154 hC rfl rfl ?_
    refine jq_get (k0 := 14) (n := 0) (o := 32) dX9_loopAt_155 hC (cl_0 (by decide)) rfl rfl hi_X9_loopAt_X9 (by decide) hl_X9_loopAt_44 rfl rfl ?_
    refine jq_iload_n (k0 := 2) dX9_loopAt_158 hC rfl rfl ?_
    obtain ⟨b159, h⟩ := h
    refine jq_iald (n := 0) (o := 44) (j := x1.toNatClampNeg) dX9_loopAt_159 hC (cl_0 (by decide)) rfl b159 rfl ?_
    exact jq_iret dX9_loopAt_160 hC he rfl ⟨_, rfl, rfl, h⟩
  have cs : (x2).toInt = 0 ∨ (x2).toInt = 1 ∨ (x2).toInt = 2 ∨ (x2).toInt = 3 ∨ (x2).toInt = 4 ∨ (x2).toInt = 5 ∨ (x2).toInt = 6 := by omega
  rcases cs with cs | cs | cs | cs | cs | cs | cs
  · refine jq_tin (tgt := 48) (off := 41) dX9_loopAt_7 hC (fun q => cd (Or.inl q)) (fun q => cd (Or.inr q)) (by rw [cs]; rfl) (by decide) ?_
    have h := h.1 (Int32.toInt_inj.mp (cs.trans (by decide)))
    refine jq_aload_n (k0 := 1) dX9_loopAt_48 hC rfl rfl ?_
    refine jq_get (k0 := 13) (n := 0) (o := 32) dX9_loopAt_49 hC (cl_0 (by decide)) rfl rfl hi_X9_loopAt_X9 (by decide) hl_X9_loopAt_41 rfl rfl ?_
    refine jq_iload_n (k0 := 2) dX9_loopAt_52 hC rfl rfl ?_
    obtain ⟨b53, h⟩ := h
    refine jq_iald (n := 0) (o := 43) (j := x1.toNatClampNeg) dX9_loopAt_53 hC (cl_0 (by decide)) rfl b53 rfl ?_
    exact jq_iret dX9_loopAt_54 hC he rfl ⟨_, rfl, rfl, h⟩
  · refine jq_tin (tgt := 55) (off := 48) dX9_loopAt_7 hC (fun q => cd (Or.inl q)) (fun q => cd (Or.inr q)) (by rw [cs]; rfl) (by decide) ?_
    have h := h.2.1 (Int32.toInt_inj.mp (cs.trans (by decide)))
    refine jq_iconst (v := (0 : Int32)) dX9_loopAt_55 hC (by decide) ?_
    refine jq_istore (L' := [(4, .int (0 : Int32)), (3, .int r2), (0, .ref (aD G 0 32)), (1, .int x1), (2, .int x2)]) dX9_loopAt_56 hC (by decide) rfl ?_
    refine jq_iconst (v := (0 : Int32)) dX9_loopAt_58 hC (by decide) ?_
    refine jq_istore (L' := [(5, .int (0 : Int32)), (4, .int (0 : Int32)), (3, .int r2), (0, .ref (aD G 0 32)), (1, .int x1), (2, .int x2)]) dX9_loopAt_59 hC (by decide) rfl ?_
    refine jq_less (L' := [(0, .ref (aD G 0 32)), (1, .int x1), (4, .int (0 : Int32)), (5, .int (0 : Int32))]) [3, 4, 1, 0] rfl ?_
    exact ok_X9_loopAt_L61 hC he h
  · refine jq_tin (tgt := 105) (off := 98) dX9_loopAt_7 hC (fun q => cd (Or.inl q)) (fun q => cd (Or.inr q)) (by rw [cs]; rfl) (by decide) ?_
    have h := h.2.2.1 (Int32.toInt_inj.mp (cs.trans (by decide)))
    refine jq_aload_n (k0 := 1) dX9_loopAt_105 hC rfl rfl ?_
    refine jq_iload_n (k0 := 2) dX9_loopAt_106 hC rfl rfl ?_
    refine jq_callV (As := [.int x1]) (rest := []) (n := 0) (o := 32) (D' := D_X9_lengthOf) dX9_loopAt_107 hC (cl_0 (by decide)) rfl rfl rfl (mt_X9_lengthOf h) gX9_loopAt_X9_lengthOf rfl ⟨rfl, rfl, Nat.le_of_ble_eq_true rfl, Nat.le_of_ble_eq_true rfl⟩ nm_X9_lengthOf rfl (Nat.le_of_ble_eq_true rfl) (kIp fun r107 h => ?_)
    exact jq_iret dX9_loopAt_110 hC he rfl ⟨_, rfl, rfl, h⟩
  · refine jq_tin (tgt := 111) (off := 104) dX9_loopAt_7 hC (fun q => cd (Or.inl q)) (fun q => cd (Or.inr q)) (by rw [cs]; rfl) (by decide) ?_
    have h := h.2.2.2.1 (Int32.toInt_inj.mp (cs.trans (by decide)))
    refine jq_iload_n (k0 := 0) dX9_loopAt_111 hC rfl rfl ?_
    refine jq_callS (As := [.int r2]) (rest := []) (D' := D_X9_size) dX9_loopAt_112 hC (mt_X9_size h) gX9_loopAt_X9_size rfl ⟨rfl, rfl, Nat.le_of_ble_eq_true rfl, Nat.le_of_ble_eq_true rfl⟩ nm_X9_size rfl (Nat.le_of_ble_eq_true rfl) (kIp fun r112 h => ?_)
    exact jq_iret dX9_loopAt_115 hC he rfl ⟨_, rfl, rfl, h⟩
  · refine jq_tin (tgt := 116) (off := 109) dX9_loopAt_7 hC (fun q => cd (Or.inl q)) (fun q => cd (Or.inr q)) (by rw [cs]; rfl) (by decide) ?_
    have h := h.2.2.2.2.1 (Int32.toInt_inj.mp (cs.trans (by decide)))
    refine jq_iload_n (k0 := 0) dX9_loopAt_116 hC rfl rfl ?_
    refine jq_if_ne (tgt := 124) dX9_loopAt_117 hC (by decide) (fun c117 => ?_) (fun c117 => ?_)
    · have h := h.1 c117
      refine jq_iload_n (k0 := 0) dX9_loopAt_124 hC rfl rfl ?_
      refine jq_if_le (tgt := 132) dX9_loopAt_125 hC (by decide) (fun c125 => ?_) (fun c125 => ?_)
      · have h := h.1 c125
        refine jq_iconst (v := (2 : Int32)) dX9_loopAt_132 hC (by decide) ?_
        exact jq_iret dX9_loopAt_133 hC he rfl ⟨_, rfl, rfl, h⟩
      · have h := h.2 c125
        refine jq_iconst (v := (1 : Int32)) dX9_loopAt_128 hC (by decide) ?_
        refine jq_goto (tgt := 133) dX9_loopAt_129 hC (by decide) ?_
        exact jq_iret dX9_loopAt_133 hC he rfl ⟨_, rfl, rfl, h⟩
    · have h := h.2 c117
      refine jq_iconst (v := (0 : Int32)) dX9_loopAt_120 hC (by decide) ?_
      refine jq_goto (tgt := 133) dX9_loopAt_121 hC (by decide) ?_
      exact jq_iret dX9_loopAt_133 hC he rfl ⟨_, rfl, rfl, h⟩
  · refine jq_tin (tgt := 134) (off := 127) dX9_loopAt_7 hC (fun q => cd (Or.inl q)) (fun q => cd (Or.inr q)) (by rw [cs]; rfl) (by decide) ?_
    have h := h.2.2.2.2.2.1 (Int32.toInt_inj.mp (cs.trans (by decide)))
    refine jq_aload_n (k0 := 1) dX9_loopAt_134 hC rfl rfl ?_
    refine jq_iload_n (k0 := 2) dX9_loopAt_135 hC rfl rfl ?_
    refine jq_callV (As := [.int x1]) (rest := []) (n := 0) (o := 32) (D' := D_X9_allowed) dX9_loopAt_136 hC (cl_0 (by decide)) rfl rfl rfl (mt_X9_allowed h) gX9_loopAt_X9_allowed rfl ⟨rfl, rfl, Nat.le_of_ble_eq_true rfl, Nat.le_of_ble_eq_true rfl⟩ nm_X9_allowed rfl (Nat.le_of_ble_eq_true rfl) (kIp fun r136 h => ?_)
    exact jq_iret dX9_loopAt_139 hC he rfl ⟨_, rfl, rfl, h⟩
  · refine jq_tin (tgt := 140) (off := 133) dX9_loopAt_7 hC (fun q => cd (Or.inl q)) (fun q => cd (Or.inr q)) (by rw [cs]; rfl) (by decide) ?_
    have h := h.2.2.2.2.2.2.1 (Int32.toInt_inj.mp (cs.trans (by decide)))
    refine jq_aload_n (k0 := 1) dX9_loopAt_140 hC rfl rfl ?_
    refine jq_iload_n (k0 := 2) dX9_loopAt_141 hC rfl rfl ?_
    refine jq_callV (As := [.int x1]) (rest := []) (n := 0) (o := 32) (D' := D_X9_isBad) dX9_loopAt_142 hC (cl_0 (by decide)) rfl rfl rfl (mt_X9_isBad h) gX9_loopAt_X9_isBad rfl ⟨rfl, rfl, Nat.le_of_ble_eq_true rfl, Nat.le_of_ble_eq_true rfl⟩ nm_X9_isBad rfl (Nat.le_of_ble_eq_true rfl) (kIp fun r142 h => ?_)
    refine jq_if_eq (tgt := 152) dX9_loopAt_145 hC (by decide) (fun c145 => ?_) (fun c145 => ?_)
    · have h := h.1 c145
      refine jq_iconst (v := (0 : Int32)) dX9_loopAt_152 hC (by decide) ?_
      exact jq_iret dX9_loopAt_153 hC he rfl ⟨_, rfl, rfl, h⟩
    · have h := h.2 c145
      refine jq_iconst (v := (1 : Int32)) dX9_loopAt_148 hC (by decide) ?_
      refine jq_goto (tgt := 153) dX9_loopAt_149 hC (by decide) ?_
      exact jq_iret dX9_loopAt_153 hC he rfl ⟨_, rfl, rfl, h⟩
theorem mt_X9_loopAt {G : Gt} {x1 : Int32} {x2 : Int32} {w : Wd} {Q : Int32 → Prop} (h : wp_X9_loopAt x1 x2 w Q) : Mt G D_X9_loopAt [.ref (aD G 0 32), .int x1, .int x2] w (qip w Q) := Mt_of (by decide +kernel) rfl rfl (Nat.le_of_ble_eq_true rfl) (fun M Qf hC he => ok_X9_loopAt hC he h)
/-! X9.loop(II)I -/
theorem dX9_loop_0 : decode cX9_loop 0 = .ok (.aload_n 0, 1) := by decide +kernel
theorem dX9_loop_1 : decode cX9_loop 1 = .ok (.invokevirtual 148, 3) := by decide +kernel
theorem dX9_loop_4 : decode cX9_loop 4 = .ok (.aload_n 0, 1) := by decide +kernel
theorem dX9_loop_5 : decode cX9_loop 5 = .ok (.iload_n 1, 1) := by decide +kernel
theorem dX9_loop_6 : decode cX9_loop 6 = .ok (.iconst 0, 1) := by decide +kernel
theorem dX9_loop_7 : decode cX9_loop 7 = .ok (.aload_n 0, 1) := by decide +kernel
theorem dX9_loop_8 : decode cX9_loop 8 = .ok (.getfield 98, 3) := by decide +kernel
theorem dX9_loop_11 : decode cX9_loop 11 = .ok (.iconst 1, 1) := by decide +kernel
theorem dX9_loop_12 : decode cX9_loop 12 = .ok (.isub, 1) := by decide +kernel
theorem dX9_loop_13 : decode cX9_loop 13 = .ok (.invokestatic 69, 3) := by decide +kernel
theorem dX9_loop_16 : decode cX9_loop 16 = .ok (.ifCond .ne 7, 3) := by decide +kernel
theorem dX9_loop_19 : decode cX9_loop 19 = .ok (.iconst 1, 1) := by decide +kernel
theorem dX9_loop_20 : decode cX9_loop 20 = .ok (.goto 18, 3) := by decide +kernel
theorem dX9_loop_23 : decode cX9_loop 23 = .ok (.iload_n 2, 1) := by decide +kernel
theorem dX9_loop_24 : decode cX9_loop 24 = .ok (.iconst 0, 1) := by decide +kernel
theorem dX9_loop_25 : decode cX9_loop 25 = .ok (.bipush 7, 2) := by decide +kernel
theorem dX9_loop_27 : decode cX9_loop 27 = .ok (.invokestatic 69, 3) := by decide +kernel
theorem dX9_loop_30 : decode cX9_loop 30 = .ok (.ifCond .ne 7, 3) := by decide +kernel
theorem dX9_loop_33 : decode cX9_loop 33 = .ok (.iconst 2, 1) := by decide +kernel
theorem dX9_loop_34 : decode cX9_loop 34 = .ok (.goto 4, 3) := by decide +kernel
theorem dX9_loop_37 : decode cX9_loop 37 = .ok (.iconst 0, 1) := by decide +kernel
theorem dX9_loop_38 : decode cX9_loop 38 = .ok (.invokevirtual 158, 3) := by decide +kernel
theorem dX9_loop_41 : decode cX9_loop 41 = .ok (.ifCond .eq 12, 3) := by decide +kernel
theorem dX9_loop_44 : decode cX9_loop 44 = .ok (.aload_n 0, 1) := by decide +kernel
theorem dX9_loop_45 : decode cX9_loop 45 = .ok (.iload_n 1, 1) := by decide +kernel
theorem dX9_loop_46 : decode cX9_loop 46 = .ok (.iload_n 2, 1) := by decide +kernel
theorem dX9_loop_47 : decode cX9_loop 47 = .ok (.invokevirtual 241, 3) := by decide +kernel
theorem dX9_loop_50 : decode cX9_loop 50 = .ok (.goto 4, 3) := by decide +kernel
theorem dX9_loop_53 : decode cX9_loop 53 = .ok (.iconst 0, 1) := by decide +kernel
theorem dX9_loop_54 : decode cX9_loop 54 = .ok (.ireturn, 1) := by decide +kernel
set_option maxRecDepth 20000 in
theorem ggX9_loop_X9_loopAt : GoodIn wsX9_loop wsX9_loopAt := goodIn_r _ [89, 41, 11, 56, 58, 59, 60, 5, 61, 62, 63, 64, 65, 40, 20, 21, 22, 90, 91, 92, 93, 66, 67, 68, 94, 95, 96, 97, 98, 99, 100, 101, 102, 103, 104, 105, 106, 107, 108, 109, 110, 111, 112, 113, 114, 115, 116, 117, 118, 119, 120, 121, 122, 123, 124, 125, 126] (by decide +kernel) (by decide +kernel)
set_option maxRecDepth 20000 in
theorem gX9_loop_X9_loopAt : GoodIn wsX9_loop (wsV RX9 241 RX9 yX9_loopAt wsX9_loopAt) := goodIn_app (goodIn_of _ (by decide +kernel)) ggX9_loop_X9_loopAt
set_option maxRecDepth 20000 in
theorem ggX9_loop_X9_holds : GoodIn wsX9_loop wsX9_holds := goodIn_r _ [84, 85, 102, 103, 104, 105, 106, 107, 108, 109, 110, 111, 112, 113, 114, 115, 116, 117, 118, 119, 120, 121, 122, 123, 124, 125, 126] (by decide +kernel) (by decide +kernel)
set_option maxRecDepth 20000 in
theorem gX9_loop_X9_holds : GoodIn wsX9_loop (wsV RX9 158 RX9 yX9_holds wsX9_holds) := goodIn_app (goodIn_of _ (by decide +kernel)) ggX9_loop_X9_holds
set_option maxRecDepth 20000 in
theorem ggX9_loop_X9_in : GoodIn wsX9_loop wsX9_in := goodIn_r _ [80] (by decide +kernel) (by decide +kernel)
set_option maxRecDepth 20000 in
theorem gX9_loop_X9_in : GoodIn wsX9_loop (va_wsS RX9 69 yX9_in wsX9_in) := goodIn_app (goodIn_of _ (by decide +kernel)) ggX9_loop_X9_in
set_option maxRecDepth 20000 in
theorem ggX9_loop_X9_layOut : GoodIn wsX9_loop wsX9_layOut := goodIn_r _ [6, 7, 8, 9, 5, 10, 11, 12, 13, 14, 15, 16, 17, 18, 19, 20, 21, 22, 23, 24, 25, 26, 27, 28, 29, 30, 31, 32, 33, 34, 35, 36, 37, 38, 1, 39, 40, 41, 42, 43, 44, 45, 46, 47, 48, 49, 50, 51, 52, 53, 54, 55, 56, 57, 58, 59, 60, 61, 62, 63, 64, 65, 66, 67, 68, 69, 70, 71, 72, 73, 74, 75, 76, 77, 102, 103, 104, 105, 106, 107, 108, 109, 110, 111, 112, 113, 114, 115, 116, 117, 118, 119, 120, 121, 122, 123, 124, 125, 126] (by decide +kernel) (by decide +kernel)
set_option maxRecDepth 20000 in
theorem gX9_loop_X9_layOut : GoodIn wsX9_loop (wsV RX9 148 RX9 yX9_layOut wsX9_layOut) := goodIn_app (goodIn_of _ (by decide +kernel)) ggX9_loop_X9_layOut
def D_X9_loop : Md := (yX9_loop, cX9_loop, 3, (some .int), wsX9_loop, RX9, { frames := 5, cells := 0, slots := 0, locals := 113 })
theorem nm_X9_loop : nmD D_X9_loop 2 := ⟨rfl, by decide +kernel, by decide +kernel, by decide +kernel⟩
theorem hi_X9_loop_X9 : ∀ w ∈ u_ws RX9 TX9 25, w ∈ wsX9_loop := by decide +kernel
theorem hl_X9_loop_98 : Cond.fieldLink RX9 98 "LevelLoopsModel" "manyLoops" "I" ∈ wsX9_loop := by decide +kernel
def wp_X9_loop_J38 (x1 : Int32) (x2 : Int32) (s0 : Int32) (w : Wd) (Q : Int32 → Wd → Prop) : Prop :=
  wp_X9_holds s0 w (fun r38 w38 => ((r38 = 0 → Q (0 : Int32) w38) ∧ (¬ r38 = 0 → wp_X9_loopAt x1 x2 w38 (fun r47 => Q r47 w38))))
def wp_X9_loop (x1 : Int32) (x2 : Int32) (w : Wd) (Q : Int32 → Wd → Prop) : Prop :=
  wp_X9_layOut w (fun w1 => wp_X9_in x1 (0 : Int32) ((wi w1 0 32 15) - (1 : Int32)) (fun r13 => ((¬ r13 = 0 → wp_X9_in x2 (0 : Int32) (7 : Int32) (fun r27 => ((¬ r27 = 0 → wp_X9_loop_J38 x1 x2 (0 : Int32) w1 Q) ∧ (r27 = 0 → wp_X9_loop_J38 x1 x2 (2 : Int32) w1 Q)))) ∧ (r13 = 0 → wp_X9_loop_J38 x1 x2 (1 : Int32) w1 Q))))
theorem ok_X9_loop_J38 {G : Gt} {M : Mx} {Qf : State → Prop} {x1 : Int32} {x2 : Int32} {s0 : Int32} {w : Wd} {Q : Int32 → Wd → Prop} (hC : cx G D_X9_loop M) (he : en G M (qi Q) Qf) (h : wp_X9_loop_J38 x1 x2 s0 w Q) : jq G D_X9_loop M Qf 38 [(0, .ref (aD G 0 32)), (1, .int x1), (2, .int x2)] [.int s0, .ref (aD G 0 32)] w := by
  unfold wp_X9_loop_J38 at h
  refine jq_callV (As := [.int s0]) (rest := []) (n := 0) (o := 32) (D' := D_X9_holds) dX9_loop_38 hC (cl_0 (by decide)) rfl rfl rfl (mt_X9_holds h) gX9_loop_X9_holds rfl ⟨rfl, rfl, Nat.le_of_ble_eq_true rfl, Nat.le_of_ble_eq_true rfl⟩ nm_X9_holds rfl (Nat.le_of_ble_eq_true rfl) (kI fun r38 w38 h => ?_)
  refine jq_if_eq (tgt := 53) dX9_loop_41 hC (by decide) (fun c41 => ?_) (fun c41 => ?_)
  · have h := h.1 c41
    refine jq_iconst (v := (0 : Int32)) dX9_loop_53 hC (by decide) ?_
    exact jq_iret dX9_loop_54 hC he rfl ⟨_, rfl, h⟩
  · have h := h.2 c41
    refine jq_aload_n (k0 := 0) dX9_loop_44 hC rfl rfl ?_
    refine jq_iload_n (k0 := 1) dX9_loop_45 hC rfl rfl ?_
    refine jq_iload_n (k0 := 2) dX9_loop_46 hC rfl rfl ?_
    refine jq_callV (As := [.int x1, .int x2]) (rest := []) (n := 0) (o := 32) (D' := D_X9_loopAt) dX9_loop_47 hC (cl_0 (by decide)) rfl rfl rfl (mt_X9_loopAt h) gX9_loop_X9_loopAt rfl ⟨rfl, rfl, Nat.le_of_ble_eq_true rfl, Nat.le_of_ble_eq_true rfl⟩ nm_X9_loopAt rfl (Nat.le_of_ble_eq_true rfl) (kIp fun r47 h => ?_)
    refine jq_goto (tgt := 54) dX9_loop_50 hC (by decide) ?_
    exact jq_iret dX9_loop_54 hC he rfl ⟨_, rfl, h⟩
theorem ok_X9_loop {G : Gt} {M : Mx} {Qf : State → Prop} {x1 : Int32} {x2 : Int32} {w : Wd} {Q : Int32 → Wd → Prop} (hC : cx G D_X9_loop M) (he : en G M (qi Q) Qf) (h : wp_X9_loop x1 x2 w Q) : jq G D_X9_loop M Qf 0 [(0, .ref (aD G 0 32)), (1, .int x1), (2, .int x2)] [] w := by
  unfold wp_X9_loop at h
  refine jq_aload_n (k0 := 0) dX9_loop_0 hC rfl rfl ?_
  refine jq_callV (As := []) (rest := []) (n := 0) (o := 32) (D' := D_X9_layOut) dX9_loop_1 hC (cl_0 (by decide)) rfl rfl rfl (mt_X9_layOut h) gX9_loop_X9_layOut rfl ⟨rfl, rfl, Nat.le_of_ble_eq_true rfl, Nat.le_of_ble_eq_true rfl⟩ nm_X9_layOut rfl (Nat.le_of_ble_eq_true rfl) (kV fun w1 h => ?_)
  refine jq_aload_n (k0 := 0) dX9_loop_4 hC rfl rfl ?_
  refine jq_iload_n (k0 := 1) dX9_loop_5 hC rfl rfl ?_
  refine jq_iconst (v := (0 : Int32)) dX9_loop_6 hC (by decide) ?_
  refine jq_aload_n (k0 := 0) dX9_loop_7 hC rfl rfl ?_
  refine jq_get (k0 := 15) (n := 0) (o := 32) dX9_loop_8 hC (cl_0 (by decide)) rfl rfl hi_X9_loop_X9 (by decide) hl_X9_loop_98 rfl rfl ?_
  refine jq_iconst (v := (1 : Int32)) dX9_loop_11 hC (by decide) ?_
  refine jq_isub dX9_loop_12 hC ?_
  refine jq_callS (As := [.int x1, .int (0 : Int32), .int ((wi w1 0 32 15) - (1 : Int32))]) (rest := [.ref (aD G 0 32)]) (D' := D_X9_in) dX9_loop_13 hC (mt_X9_in h) gX9_loop_X9_in rfl ⟨rfl, rfl, Nat.le_of_ble_eq_true rfl, Nat.le_of_ble_eq_true rfl⟩ nm_X9_in rfl (Nat.le_of_ble_eq_true rfl) (kIp fun r13 h => ?_)
  refine jq_if_ne (tgt := 23) dX9_loop_16 hC (by decide) (fun c16 => ?_) (fun c16 => ?_)
  · have h := h.1 c16
    refine jq_iload_n (k0 := 2) dX9_loop_23 hC rfl rfl ?_
    refine jq_iconst (v := (0 : Int32)) dX9_loop_24 hC (by decide) ?_
    refine jq_bipush (v := (7 : Int32)) dX9_loop_25 hC (by decide) ?_
    refine jq_callS (As := [.int x2, .int (0 : Int32), .int (7 : Int32)]) (rest := [.ref (aD G 0 32)]) (D' := D_X9_in) dX9_loop_27 hC (mt_X9_in h) gX9_loop_X9_in rfl ⟨rfl, rfl, Nat.le_of_ble_eq_true rfl, Nat.le_of_ble_eq_true rfl⟩ nm_X9_in rfl (Nat.le_of_ble_eq_true rfl) (kIp fun r27 h => ?_)
    refine jq_if_ne (tgt := 37) dX9_loop_30 hC (by decide) (fun c30 => ?_) (fun c30 => ?_)
    · have h := h.1 c30
      refine jq_iconst (v := (0 : Int32)) dX9_loop_37 hC (by decide) ?_
      refine jq_less (L' := [(0, .ref (aD G 0 32)), (1, .int x1), (2, .int x2)]) [0, 1, 2] rfl ?_
      exact ok_X9_loop_J38 hC he h
    · have h := h.2 c30
      refine jq_iconst (v := (2 : Int32)) dX9_loop_33 hC (by decide) ?_
      refine jq_goto (tgt := 38) dX9_loop_34 hC (by decide) ?_
      refine jq_less (L' := [(0, .ref (aD G 0 32)), (1, .int x1), (2, .int x2)]) [0, 1, 2] rfl ?_
      exact ok_X9_loop_J38 hC he h
  · have h := h.2 c16
    refine jq_iconst (v := (1 : Int32)) dX9_loop_19 hC (by decide) ?_
    refine jq_goto (tgt := 38) dX9_loop_20 hC (by decide) ?_
    refine jq_less (L' := [(0, .ref (aD G 0 32)), (1, .int x1), (2, .int x2)]) [0, 1, 2] rfl ?_
    exact ok_X9_loop_J38 hC he h
theorem mt_X9_loop {G : Gt} {x1 : Int32} {x2 : Int32} {w : Wd} {Q : Int32 → Wd → Prop} (h : wp_X9_loop x1 x2 w Q) : Mt G D_X9_loop [.ref (aD G 0 32), .int x1, .int x2] w (qi Q) := Mt_of (by decide +kernel) rfl rfl (Nat.le_of_ble_eq_true rfl) (fun M Qf hC he => ok_X9_loop hC he h)
/-! X9.firstLeg(I)I -/
theorem dX9_firstLeg_0 : decode cX9_firstLeg 0 = .ok (.iconst (-1), 1) := by decide +kernel
theorem dX9_firstLeg_1 : decode cX9_firstLeg 1 = .ok (.istore_n 2, 1) := by decide +kernel
theorem dX9_firstLeg_2 : decode cX9_firstLeg 2 = .ok (.iconst 0, 1) := by decide +kernel
theorem dX9_firstLeg_3 : decode cX9_firstLeg 3 = .ok (.istore_n 3, 1) := by decide +kernel
theorem dX9_firstLeg_4 : decode cX9_firstLeg 4 = .ok (.iload_n 3, 1) := by decide +kernel
theorem dX9_firstLeg_5 : decode cX9_firstLeg 5 = .ok (.aload_n 0, 1) := by decide +kernel
theorem dX9_firstLeg_6 : decode cX9_firstLeg 6 = .ok (.getfield 7, 3) := by decide +kernel
theorem dX9_firstLeg_9 : decode cX9_firstLeg 9 = .ok (.bipush 11, 2) := by decide +kernel
theorem dX9_firstLeg_11 : decode cX9_firstLeg 11 = .ok (.iaload, 1) := by decide +kernel
theorem dX9_firstLeg_12 : decode cX9_firstLeg 12 = .ok (.if_icmp .ge 52, 3) := by decide +kernel
theorem dX9_firstLeg_15 : decode cX9_firstLeg 15 = .ok (.aload_n 0, 1) := by decide +kernel
theorem dX9_firstLeg_16 : decode cX9_firstLeg 16 = .ok (.getfield 35, 3) := by decide +kernel
theorem dX9_firstLeg_19 : decode cX9_firstLeg 19 = .ok (.iload_n 3, 1) := by decide +kernel
theorem dX9_firstLeg_20 : decode cX9_firstLeg 20 = .ok (.iaload, 1) := by decide +kernel
theorem dX9_firstLeg_21 : decode cX9_firstLeg 21 = .ok (.ifCond .eq 35, 3) := by decide +kernel
theorem dX9_firstLeg_24 : decode cX9_firstLeg 24 = .ok (.aload_n 0, 1) := by decide +kernel
theorem dX9_firstLeg_25 : decode cX9_firstLeg 25 = .ok (.getfield 7, 3) := by decide +kernel
theorem dX9_firstLeg_28 : decode cX9_firstLeg 28 = .ok (.iload_n 3, 1) := by decide +kernel
theorem dX9_firstLeg_29 : decode cX9_firstLeg 29 = .ok (.iconst 0, 1) := by decide +kernel
theorem dX9_firstLeg_30 : decode cX9_firstLeg 30 = .ok (.invokestatic 76, 3) := by decide +kernel
theorem dX9_firstLeg_33 : decode cX9_firstLeg 33 = .ok (.iaload, 1) := by decide +kernel
theorem dX9_firstLeg_34 : decode cX9_firstLeg 34 = .ok (.iload_n 1, 1) := by decide +kernel
theorem dX9_firstLeg_35 : decode cX9_firstLeg 35 = .ok (.if_icmp .eq 17, 3) := by decide +kernel
theorem dX9_firstLeg_38 : decode cX9_firstLeg 38 = .ok (.aload_n 0, 1) := by decide +kernel
theorem dX9_firstLeg_39 : decode cX9_firstLeg 39 = .ok (.getfield 7, 3) := by decide +kernel
theorem dX9_firstLeg_42 : decode cX9_firstLeg 42 = .ok (.iload_n 3, 1) := by decide +kernel
theorem dX9_firstLeg_43 : decode cX9_firstLeg 43 = .ok (.iconst 1, 1) := by decide +kernel
theorem dX9_firstLeg_44 : decode cX9_firstLeg 44 = .ok (.invokestatic 76, 3) := by decide +kernel
theorem dX9_firstLeg_47 : decode cX9_firstLeg 47 = .ok (.iaload, 1) := by decide +kernel
theorem dX9_firstLeg_48 : decode cX9_firstLeg 48 = .ok (.iload_n 1, 1) := by decide +kernel
theorem dX9_firstLeg_49 : decode cX9_firstLeg 49 = .ok (.if_icmp .ne 7, 3) := by decide +kernel
theorem dX9_firstLeg_52 : decode cX9_firstLeg 52 = .ok (.iload_n 3, 1) := by decide +kernel
theorem dX9_firstLeg_53 : decode cX9_firstLeg 53 = .ok (.goto 4, 3) := by decide +kernel
theorem dX9_firstLeg_56 : decode cX9_firstLeg 56 = .ok (.iload_n 2, 1) := by decide +kernel
theorem dX9_firstLeg_57 : decode cX9_firstLeg 57 = .ok (.istore_n 2, 1) := by decide +kernel
theorem dX9_firstLeg_58 : decode cX9_firstLeg 58 = .ok (.iinc 3 1, 3) := by decide +kernel
theorem dX9_firstLeg_61 : decode cX9_firstLeg 61 = .ok (.goto (-57), 3) := by decide +kernel
theorem dX9_firstLeg_64 : decode cX9_firstLeg 64 = .ok (.iload_n 2, 1) := by decide +kernel
theorem dX9_firstLeg_65 : decode cX9_firstLeg 65 = .ok (.ireturn, 1) := by decide +kernel
set_option maxRecDepth 20000 in
theorem ggX9_firstLeg_X9_of : GoodIn wsX9_firstLeg wsX9_of := goodIn_r _ [6] (by decide +kernel) (by decide +kernel)
set_option maxRecDepth 20000 in
theorem gX9_firstLeg_X9_of : GoodIn wsX9_firstLeg (va_wsS RX9 76 yX9_of wsX9_of) := goodIn_app (goodIn_of _ (by decide +kernel)) ggX9_firstLeg_X9_of
def D_X9_firstLeg : Md := (yX9_firstLeg, cX9_firstLeg, 4, (some .int), wsX9_firstLeg, RX9, { frames := 1, cells := 0, slots := 0, locals := 21 })
theorem nm_X9_firstLeg : nmD D_X9_firstLeg 1 := ⟨rfl, by decide +kernel, by decide +kernel, by decide +kernel⟩
theorem hi_X9_firstLeg_X9 : ∀ w ∈ u_ws RX9 TX9 25, w ∈ wsX9_firstLeg := by decide +kernel
theorem hl_X9_firstLeg_7 : Cond.fieldLink RX9 7 "LevelLoopsModel" "s" "[I" ∈ wsX9_firstLeg := by decide +kernel
theorem hl_X9_firstLeg_35 : Cond.fieldLink RX9 35 "LevelLoopsModel" "steps" "[I" ∈ wsX9_firstLeg := by decide +kernel
def wp_X9_firstLeg_J56 (x1 : Int32) (x2 : Int32) (x3 : Int32) (w : Wd) (Q : Int32 → Prop) (K4 : Int32 → Int32 → Prop) : Prop :=
  K4 x2 (x3 + 1)
def wp_X9_firstLeg_B4 (x1 : Int32) (x2 : Int32) (x3 : Int32) (w : Wd) (Q : Int32 → Prop) (K4 : Int32 → Int32 → Prop) : Prop :=
  (((wi w 0 33 11) ≤ x3 → Q x2) ∧ (¬ (wi w 0 33 11) ≤ x3 → vp_in x3 20 ∧ (((wi w 0 41 x3.toNatClampNeg) = 0 → wp_X9_firstLeg_J56 x1 x2 x3 w Q K4) ∧ (¬ (wi w 0 41 x3.toNatClampNeg) = 0 → wp_X9_of x3 (0 : Int32) (fun r30 => vp_in r30 95 ∧ (((wi w 0 33 r30.toNatClampNeg) = x1 → K4 x3 (x3 + 1)) ∧ (¬ (wi w 0 33 r30.toNatClampNeg) = x1 → wp_X9_of x3 (1 : Int32) (fun r44 => vp_in r44 95 ∧ ((¬ (wi w 0 33 r44.toNatClampNeg) = x1 → wp_X9_firstLeg_J56 x1 x2 x3 w Q K4) ∧ ((wi w 0 33 r44.toNatClampNeg) = x1 → K4 x3 (x3 + 1)))))))))))
def wp_X9_firstLeg_L4 (x1 : Int32) (x2 : Int32) (x3 : Int32) (w : Wd) (Q : Int32 → Prop) : Prop :=
  ∃ (I : Int32 → Int32 → Prop) (μ : Int32 → Int32 → Nat), I x2 x3 ∧ ∀ (x2 : Int32) (x3 : Int32), I x2 x3 → wp_X9_firstLeg_B4 x1 x2 x3 w Q (fun x2' x3' => I x2' x3' ∧ μ x2' x3' < μ x2 x3)
def wp_X9_firstLeg (x1 : Int32) (w : Wd) (Q : Int32 → Prop) : Prop :=
  wp_X9_firstLeg_L4 x1 (-1 : Int32) (0 : Int32) w Q
theorem ok_X9_firstLeg_J56 {G : Gt} {M : Mx} {Qf : State → Prop} {x1 : Int32} {x2 : Int32} {x3 : Int32} {w : Wd} {Q : Int32 → Prop} {K4 : Int32 → Int32 → Prop} (hC : cx G D_X9_firstLeg M) (he : en G M (qip w Q) Qf) (h : wp_X9_firstLeg_J56 x1 x2 x3 w Q K4) (hK4 : ∀ (x2 : Int32) (x3 : Int32), K4 x2 x3 → jq G D_X9_firstLeg M Qf 4 [(0, .ref (aD G 0 32)), (1, .int x1), (2, .int x2), (3, .int x3)] [] w) : jq G D_X9_firstLeg M Qf 56 [(0, .ref (aD G 0 32)), (1, .int x1), (2, .int x2), (3, .int x3)] [] w := by
  unfold wp_X9_firstLeg_J56 at h
  refine jq_iload_n (k0 := 2) dX9_firstLeg_56 hC rfl rfl ?_
  refine jq_istore_n (L' := [(2, .int x2), (0, .ref (aD G 0 32)), (1, .int x1), (3, .int x3)]) dX9_firstLeg_57 hC rfl (by decide) rfl ?_
  refine jq_iinc (k0 := 3) (v := (x3 + 1)) (L' := [(3, .int (x3 + 1)), (2, .int x2), (0, .ref (aD G 0 32)), (1, .int x1)]) dX9_firstLeg_58 hC rfl rfl (by decide) rfl ?_
  refine jq_goto (tgt := 4) dX9_firstLeg_61 hC (by decide) ?_
  exact jq_less (L' := [(0, .ref (aD G 0 32)), (1, .int x1), (2, .int x2), (3, .int (x3 + 1))]) [2, 3, 1, 0] rfl (hK4 _ _ h)
theorem ok_X9_firstLeg_B4 {G : Gt} {M : Mx} {Qf : State → Prop} {x1 : Int32} {x2 : Int32} {x3 : Int32} {w : Wd} {Q : Int32 → Prop} {K4 : Int32 → Int32 → Prop} (hC : cx G D_X9_firstLeg M) (he : en G M (qip w Q) Qf) (h : wp_X9_firstLeg_B4 x1 x2 x3 w Q K4) (hK4 : ∀ (x2 : Int32) (x3 : Int32), K4 x2 x3 → jq G D_X9_firstLeg M Qf 4 [(0, .ref (aD G 0 32)), (1, .int x1), (2, .int x2), (3, .int x3)] [] w) : jq G D_X9_firstLeg M Qf 4 [(0, .ref (aD G 0 32)), (1, .int x1), (2, .int x2), (3, .int x3)] [] w := by
  unfold wp_X9_firstLeg_B4 at h
  refine jq_iload_n (k0 := 3) dX9_firstLeg_4 hC rfl rfl ?_
  refine jq_aload_n (k0 := 0) dX9_firstLeg_5 hC rfl rfl ?_
  refine jq_get (k0 := 1) (n := 0) (o := 32) dX9_firstLeg_6 hC (cl_0 (by decide)) rfl rfl hi_X9_firstLeg_X9 (by decide) hl_X9_firstLeg_7 rfl rfl ?_
  refine jq_bipush (v := (11 : Int32)) dX9_firstLeg_9 hC (by decide) ?_
  refine jq_iald (n := 0) (o := 33) (j := 11) dX9_firstLeg_11 hC (cl_0 (by decide)) rfl (vin (by decide)) (by decide) ?_
  refine jq_icmp_ge (tgt := 64) dX9_firstLeg_12 hC (by decide) (fun c12 => ?_) (fun c12 => ?_)
  · have h := h.1 c12
    refine jq_iload_n (k0 := 2) dX9_firstLeg_64 hC rfl rfl ?_
    exact jq_iret dX9_firstLeg_65 hC he rfl ⟨_, rfl, rfl, h⟩
  · have h := h.2 c12
    refine jq_aload_n (k0 := 0) dX9_firstLeg_15 hC rfl rfl ?_
    refine jq_get (k0 := 11) (n := 0) (o := 32) dX9_firstLeg_16 hC (cl_0 (by decide)) rfl rfl hi_X9_firstLeg_X9 (by decide) hl_X9_firstLeg_35 rfl rfl ?_
    refine jq_iload_n (k0 := 3) dX9_firstLeg_19 hC rfl rfl ?_
    obtain ⟨b20, h⟩ := h
    refine jq_iald (n := 0) (o := 41) (j := x3.toNatClampNeg) dX9_firstLeg_20 hC (cl_0 (by decide)) rfl b20 rfl ?_
    refine jq_if_eq (tgt := 56) dX9_firstLeg_21 hC (by decide) (fun c21 => ?_) (fun c21 => ?_)
    · have h := h.1 c21
      refine jq_less (L' := [(0, .ref (aD G 0 32)), (1, .int x1), (2, .int x2), (3, .int x3)]) [0, 1, 2, 3] rfl ?_
      exact ok_X9_firstLeg_J56 hC he h hK4
    · have h := h.2 c21
      refine jq_aload_n (k0 := 0) dX9_firstLeg_24 hC rfl rfl ?_
      refine jq_get (k0 := 1) (n := 0) (o := 32) dX9_firstLeg_25 hC (cl_0 (by decide)) rfl rfl hi_X9_firstLeg_X9 (by decide) hl_X9_firstLeg_7 rfl rfl ?_
      refine jq_iload_n (k0 := 3) dX9_firstLeg_28 hC rfl rfl ?_
      refine jq_iconst (v := (0 : Int32)) dX9_firstLeg_29 hC (by decide) ?_
      refine jq_callS (As := [.int x3, .int (0 : Int32)]) (rest := [.ref (aD G 0 33)]) (D' := D_X9_of) dX9_firstLeg_30 hC (mt_X9_of h) gX9_firstLeg_X9_of rfl ⟨rfl, rfl, Nat.le_of_ble_eq_true rfl, Nat.le_of_ble_eq_true rfl⟩ nm_X9_of rfl (Nat.le_of_ble_eq_true rfl) (kIp fun r30 h => ?_)
      obtain ⟨b33, h⟩ := h
      refine jq_iald (n := 0) (o := 33) (j := r30.toNatClampNeg) dX9_firstLeg_33 hC (cl_0 (by decide)) rfl b33 rfl ?_
      refine jq_iload_n (k0 := 1) dX9_firstLeg_34 hC rfl rfl ?_
      refine jq_icmp_eq (tgt := 52) dX9_firstLeg_35 hC (by decide) (fun c35 => ?_) (fun c35 => ?_)
      · have h := h.1 c35
        refine jq_iload_n (k0 := 3) dX9_firstLeg_52 hC rfl rfl ?_
        refine jq_goto (tgt := 57) dX9_firstLeg_53 hC (by decide) ?_
        refine jq_istore_n (L' := [(2, .int x3), (0, .ref (aD G 0 32)), (1, .int x1), (3, .int x3)]) dX9_firstLeg_57 hC rfl (by decide) rfl ?_
        refine jq_iinc (k0 := 3) (v := (x3 + 1)) (L' := [(3, .int (x3 + 1)), (2, .int x3), (0, .ref (aD G 0 32)), (1, .int x1)]) dX9_firstLeg_58 hC rfl rfl (by decide) rfl ?_
        refine jq_goto (tgt := 4) dX9_firstLeg_61 hC (by decide) ?_
        exact jq_less (L' := [(0, .ref (aD G 0 32)), (1, .int x1), (2, .int x3), (3, .int (x3 + 1))]) [2, 3, 1, 0] rfl (hK4 _ _ h)
      · have h := h.2 c35
        refine jq_aload_n (k0 := 0) dX9_firstLeg_38 hC rfl rfl ?_
        refine jq_get (k0 := 1) (n := 0) (o := 32) dX9_firstLeg_39 hC (cl_0 (by decide)) rfl rfl hi_X9_firstLeg_X9 (by decide) hl_X9_firstLeg_7 rfl rfl ?_
        refine jq_iload_n (k0 := 3) dX9_firstLeg_42 hC rfl rfl ?_
        refine jq_iconst (v := (1 : Int32)) dX9_firstLeg_43 hC (by decide) ?_
        refine jq_callS (As := [.int x3, .int (1 : Int32)]) (rest := [.ref (aD G 0 33)]) (D' := D_X9_of) dX9_firstLeg_44 hC (mt_X9_of h) gX9_firstLeg_X9_of rfl ⟨rfl, rfl, Nat.le_of_ble_eq_true rfl, Nat.le_of_ble_eq_true rfl⟩ nm_X9_of rfl (Nat.le_of_ble_eq_true rfl) (kIp fun r44 h => ?_)
        obtain ⟨b47, h⟩ := h
        refine jq_iald (n := 0) (o := 33) (j := r44.toNatClampNeg) dX9_firstLeg_47 hC (cl_0 (by decide)) rfl b47 rfl ?_
        refine jq_iload_n (k0 := 1) dX9_firstLeg_48 hC rfl rfl ?_
        refine jq_icmp_ne (tgt := 56) dX9_firstLeg_49 hC (by decide) (fun c49 => ?_) (fun c49 => ?_)
        · have h := h.1 c49
          refine jq_less (L' := [(0, .ref (aD G 0 32)), (1, .int x1), (2, .int x2), (3, .int x3)]) [0, 1, 2, 3] rfl ?_
          exact ok_X9_firstLeg_J56 hC he h hK4
        · have h := h.2 c49
          refine jq_iload_n (k0 := 3) dX9_firstLeg_52 hC rfl rfl ?_
          refine jq_goto (tgt := 57) dX9_firstLeg_53 hC (by decide) ?_
          refine jq_istore_n (L' := [(2, .int x3), (0, .ref (aD G 0 32)), (1, .int x1), (3, .int x3)]) dX9_firstLeg_57 hC rfl (by decide) rfl ?_
          refine jq_iinc (k0 := 3) (v := (x3 + 1)) (L' := [(3, .int (x3 + 1)), (2, .int x3), (0, .ref (aD G 0 32)), (1, .int x1)]) dX9_firstLeg_58 hC rfl rfl (by decide) rfl ?_
          refine jq_goto (tgt := 4) dX9_firstLeg_61 hC (by decide) ?_
          exact jq_less (L' := [(0, .ref (aD G 0 32)), (1, .int x1), (2, .int x3), (3, .int (x3 + 1))]) [2, 3, 1, 0] rfl (hK4 _ _ h)
theorem ok_X9_firstLeg_L4 {G : Gt} {M : Mx} {Qf : State → Prop} {x1 : Int32} {x2 : Int32} {x3 : Int32} {w : Wd} {Q : Int32 → Prop} (hC : cx G D_X9_firstLeg M) (he : en G M (qip w Q) Qf) (h : wp_X9_firstLeg_L4 x1 x2 x3 w Q) : jq G D_X9_firstLeg M Qf 4 [(0, .ref (aD G 0 32)), (1, .int x1), (2, .int x2), (3, .int x3)] [] w := by
  unfold wp_X9_firstLeg_L4 at h
  obtain ⟨I, μ, h0, hs⟩ := h
  exact lp_ind (σ := Int32 × Int32) (P := fun s => jq G D_X9_firstLeg M Qf 4 [(0, .ref (aD G 0 32)), (1, .int x1), (2, .int s.1), (3, .int s.2)] [] w) (fun s => I s.1 s.2) (fun s => μ s.1 s.2) (fun s h1 ih => ok_X9_firstLeg_B4 hC he (hs s.1 s.2 h1) (fun x2' x3' h => ih (x2', x3') h.1 h.2)) (x2, x3) h0
theorem ok_X9_firstLeg {G : Gt} {M : Mx} {Qf : State → Prop} {x1 : Int32} {w : Wd} {Q : Int32 → Prop} (hC : cx G D_X9_firstLeg M) (he : en G M (qip w Q) Qf) (h : wp_X9_firstLeg x1 w Q) : jq G D_X9_firstLeg M Qf 0 [(0, .ref (aD G 0 32)), (1, .int x1)] [] w := by
  unfold wp_X9_firstLeg at h
  refine jq_iconst (v := (-1 : Int32)) dX9_firstLeg_0 hC (by decide) ?_
  refine jq_istore_n (L' := [(2, .int (-1 : Int32)), (0, .ref (aD G 0 32)), (1, .int x1)]) dX9_firstLeg_1 hC rfl (by decide) rfl ?_
  refine jq_iconst (v := (0 : Int32)) dX9_firstLeg_2 hC (by decide) ?_
  refine jq_istore_n (L' := [(3, .int (0 : Int32)), (2, .int (-1 : Int32)), (0, .ref (aD G 0 32)), (1, .int x1)]) dX9_firstLeg_3 hC rfl (by decide) rfl ?_
  refine jq_less (L' := [(0, .ref (aD G 0 32)), (1, .int x1), (2, .int (-1 : Int32)), (3, .int (0 : Int32))]) [2, 3, 1, 0] rfl ?_
  exact ok_X9_firstLeg_L4 hC he h
theorem mt_X9_firstLeg {G : Gt} {x1 : Int32} {w : Wd} {Q : Int32 → Prop} (h : wp_X9_firstLeg x1 w Q) : Mt G D_X9_firstLeg [.ref (aD G 0 32), .int x1] w (qip w Q) := Mt_of (by decide +kernel) rfl rfl (Nat.le_of_ble_eq_true rfl) (fun M Qf hC he => ok_X9_firstLeg hC he h)
