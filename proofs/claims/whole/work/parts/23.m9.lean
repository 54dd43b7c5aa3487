/-! X9.wayOf(III)I -/
theorem dX9_wayOf_0 : decode cX9_wayOf 0 = .ok (.aload_n 0, 1) := by decide +kernel
theorem dX9_wayOf_1 : decode cX9_wayOf 1 = .ok (.getfield 22, 3) := by decide +kernel
theorem dX9_wayOf_4 : decode cX9_wayOf 4 = .ok (.iload_n 1, 1) := by decide +kernel
theorem dX9_wayOf_5 : decode cX9_wayOf 5 = .ok (.iaload, 1) := by decide +kernel
theorem dX9_wayOf_6 : decode cX9_wayOf 6 = .ok (.aload_n 0, 1) := by decide +kernel
theorem dX9_wayOf_7 : decode cX9_wayOf 7 = .ok (.getfield 22, 3) := by decide +kernel
theorem dX9_wayOf_10 : decode cX9_wayOf 10 = .ok (.iload_n 2, 1) := by decide +kernel
theorem dX9_wayOf_11 : decode cX9_wayOf 11 = .ok (.iaload, 1) := by decide +kernel
theorem dX9_wayOf_12 : decode cX9_wayOf 12 = .ok (.if_icmp .eq 5, 3) := by decide +kernel
theorem dX9_wayOf_15 : decode cX9_wayOf 15 = .ok (.iconst (-1), 1) := by decide +kernel
theorem dX9_wayOf_16 : decode cX9_wayOf 16 = .ok (.ireturn, 1) := by decide +kernel
theorem dX9_wayOf_17 : decode cX9_wayOf 17 = .ok (.aload_n 0, 1) := by decide +kernel
theorem dX9_wayOf_18 : decode cX9_wayOf 18 = .ok (.iload_n 1, 1) := by decide +kernel
theorem dX9_wayOf_19 : decode cX9_wayOf 19 = .ok (.iload_n 2, 1) := by decide +kernel
theorem dX9_wayOf_20 : decode cX9_wayOf 20 = .ok (.invokevirtual 132, 3) := by decide +kernel
theorem dX9_wayOf_23 : decode cX9_wayOf 23 = .ok (.istore 4, 2) := by decide +kernel
theorem dX9_wayOf_25 : decode cX9_wayOf 25 = .ok (.iconst 0, 1) := by decide +kernel
theorem dX9_wayOf_26 : decode cX9_wayOf 26 = .ok (.istore 5, 2) := by decide +kernel
theorem dX9_wayOf_28 : decode cX9_wayOf 28 = .ok (.iconst 0, 1) := by decide +kernel
theorem dX9_wayOf_29 : decode cX9_wayOf 29 = .ok (.istore 6, 2) := by decide +kernel
theorem dX9_wayOf_31 : decode cX9_wayOf 31 = .ok (.iconst 0, 1) := by decide +kernel
theorem dX9_wayOf_32 : decode cX9_wayOf 32 = .ok (.istore 7, 2) := by decide +kernel
theorem dX9_wayOf_34 : decode cX9_wayOf 34 = .ok (.iload 7, 2) := by decide +kernel
theorem dX9_wayOf_36 : decode cX9_wayOf 36 = .ok (.aload_n 0, 1) := by decide +kernel
theorem dX9_wayOf_37 : decode cX9_wayOf 37 = .ok (.getfield 7, 3) := by decide +kernel
theorem dX9_wayOf_40 : decode cX9_wayOf 40 = .ok (.bipush 11, 2) := by decide +kernel
theorem dX9_wayOf_42 : decode cX9_wayOf 42 = .ok (.iaload, 1) := by decide +kernel
theorem dX9_wayOf_43 : decode cX9_wayOf 43 = .ok (.if_icmp .ge 51, 3) := by decide +kernel
theorem dX9_wayOf_46 : decode cX9_wayOf 46 = .ok (.iload 5, 2) := by decide +kernel
theorem dX9_wayOf_48 : decode cX9_wayOf 48 = .ok (.aload_n 0, 1) := by decide +kernel
theorem dX9_wayOf_49 : decode cX9_wayOf 49 = .ok (.getfield 35, 3) := by decide +kernel
theorem dX9_wayOf_52 : decode cX9_wayOf 52 = .ok (.iload 7, 2) := by decide +kernel
theorem dX9_wayOf_54 : decode cX9_wayOf 54 = .ok (.iaload, 1) := by decide +kernel
theorem dX9_wayOf_55 : decode cX9_wayOf 55 = .ok (.invokestatic 107, 3) := by decide +kernel
theorem dX9_wayOf_58 : decode cX9_wayOf 58 = .ok (.iadd, 1) := by decide +kernel
theorem dX9_wayOf_59 : decode cX9_wayOf 59 = .ok (.istore 5, 2) := by decide +kernel
theorem dX9_wayOf_61 : decode cX9_wayOf 61 = .ok (.iload 6, 2) := by decide +kernel
theorem dX9_wayOf_63 : decode cX9_wayOf 63 = .ok (.aload_n 0, 1) := by decide +kernel
theorem dX9_wayOf_64 : decode cX9_wayOf 64 = .ok (.getfield 35, 3) := by decide +kernel
theorem dX9_wayOf_67 : decode cX9_wayOf 67 = .ok (.iload 7, 2) := by decide +kernel
theorem dX9_wayOf_69 : decode cX9_wayOf 69 = .ok (.iaload, 1) := by decide +kernel
theorem dX9_wayOf_70 : decode cX9_wayOf 70 = .ok (.invokestatic 107, 3) := by decide +kernel
theorem dX9_wayOf_73 : decode cX9_wayOf 73 = .ok (.aload_n 0, 1) := by decide +kernel
theorem dX9_wayOf_74 : decode cX9_wayOf 74 = .ok (.getfield 7, 3) := by decide +kernel
theorem dX9_wayOf_77 : decode cX9_wayOf 77 = .ok (.iload 7, 2) := by decide +kernel
theorem dX9_wayOf_79 : decode cX9_wayOf 79 = .ok (.iconst 2, 1) := by decide +kernel
theorem dX9_wayOf_80 : decode cX9_wayOf 80 = .ok (.invokestatic 76, 3) := by decide +kernel
theorem dX9_wayOf_83 : decode cX9_wayOf 83 = .ok (.iaload, 1) := by decide +kernel
theorem dX9_wayOf_84 : decode cX9_wayOf 84 = .ok (.imul, 1) := by decide +kernel
theorem dX9_wayOf_85 : decode cX9_wayOf 85 = .ok (.iadd, 1) := by decide +kernel
theorem dX9_wayOf_86 : decode cX9_wayOf 86 = .ok (.istore 6, 2) := by decide +kernel
theorem dX9_wayOf_88 : decode cX9_wayOf 88 = .ok (.iinc 7 1, 3) := by decide +kernel
theorem dX9_wayOf_91 : decode cX9_wayOf 91 = .ok (.goto (-57), 3) := by decide +kernel
theorem dX9_wayOf_94 : decode cX9_wayOf 94 = .ok (.iload_n 3, 1) := by decide +kernel
theorem dX9_wayOf_95 : decode cX9_wayOf 95 = .ok (.ifCond .ne 8, 3) := by decide +kernel
theorem dX9_wayOf_98 : decode cX9_wayOf 98 = .ok (.iload 5, 2) := by decide +kernel
theorem dX9_wayOf_100 : decode cX9_wayOf 100 = .ok (.goto 31, 3) := by decide +kernel
theorem dX9_wayOf_103 : decode cX9_wayOf 103 = .ok (.iload_n 3, 1) := by decide +kernel
theorem dX9_wayOf_104 : decode cX9_wayOf 104 = .ok (.iconst 1, 1) := by decide +kernel
theorem dX9_wayOf_105 : decode cX9_wayOf 105 = .ok (.if_icmp .ne 8, 3) := by decide +kernel
theorem dX9_wayOf_108 : decode cX9_wayOf 108 = .ok (.iload 6, 2) := by decide +kernel
theorem dX9_wayOf_110 : decode cX9_wayOf 110 = .ok (.goto 21, 3) := by decide +kernel
theorem dX9_wayOf_113 : decode cX9_wayOf 113 = .ok (.iload_n 3, 1) := by decide +kernel
theorem dX9_wayOf_114 : decode cX9_wayOf 114 = .ok (.iconst 2, 1) := by decide +kernel
theorem dX9_wayOf_115 : decode cX9_wayOf 115 = .ok (.if_icmp .ne 11, 3) := by decide +kernel
theorem dX9_wayOf_118 : decode cX9_wayOf 118 = .ok (.iload 4, 2) := by decide +kernel
theorem dX9_wayOf_120 : decode cX9_wayOf 120 = .ok (.ldc 187, 2) := by decide +kernel
theorem dX9_wayOf_122 : decode cX9_wayOf 122 = .ok (.iadd, 1) := by decide +kernel
theorem dX9_wayOf_123 : decode cX9_wayOf 123 = .ok (.goto 8, 3) := by decide +kernel
theorem dX9_wayOf_126 : decode cX9_wayOf 126 = .ok (.aload_n 0, 1) := by decide +kernel
theorem dX9_wayOf_127 : decode cX9_wayOf 127 = .ok (.iload_n 1, 1) := by decide +kernel
theorem dX9_wayOf_128 : decode cX9_wayOf 128 = .ok (.invokevirtual 244, 3) := by decide +kernel
theorem dX9_wayOf_131 : decode cX9_wayOf 131 = .ok (.ireturn, 1) := by decide +kernel
set_option maxRecDepth 20000 in
theorem ggX9_wayOf_X9_firstLeg : GoodIn wsX9_wayOf wsX9_firstLeg := goodIn_r _ [34, 2, 3, 20, 21, 8, 22, 35, 36, 37, 38, 39, 40, 41, 42, 43, 44, 45, 46, 47, 48, 49, 50, 51, 52, 53, 54, 55, 56, 57, 58, 59] (by decide +kernel) (by decide +kernel)
set_option maxRecDepth 20000 in
theorem gX9_wayOf_X9_firstLeg : GoodIn wsX9_wayOf (wsV RX9 244 RX9 yX9_firstLeg wsX9_firstLeg) := goodIn_app (goodIn_of _ (by decide +kernel)) ggX9_wayOf_X9_firstLeg
set_option maxRecDepth 20000 in
theorem ggX9_wayOf_X9_of : GoodIn wsX9_wayOf wsX9_of := goodIn_r _ [22] (by decide +kernel) (by decide +kernel)
set_option maxRecDepth 20000 in
theorem gX9_wayOf_X9_of : GoodIn wsX9_wayOf (va_wsS RX9 76 yX9_of wsX9_of) := goodIn_app (goodIn_of _ (by decide +kernel)) ggX9_wayOf_X9_of
set_option maxRecDepth 20000 in
theorem ggX9_wayOf_X9_size : GoodIn wsX9_wayOf wsX9_size := goodIn_r _ [30] (by decide +kernel) (by decide +kernel)
set_option maxRecDepth 20000 in
theorem gX9_wayOf_X9_size : GoodIn wsX9_wayOf (va_wsS RX9 107 yX9_size wsX9_size) := goodIn_app (goodIn_of _ (by decide +kernel)) ggX9_wayOf_X9_size
set_option maxRecDepth 20000 in
theorem ggX9_wayOf_X9_rise : GoodIn wsX9_wayOf wsX9_rise := goodIn_r _ [9, 2, 3, 10, 11, 12, 8, 13, 14, 15, 16, 17, 18, 19, 20, 21, 22, 23, 24, 25, 26, 27, 35, 36, 37, 38, 39, 40, 41, 42, 43, 44, 45, 46, 47, 48, 49, 50, 51, 52, 53, 54, 55, 56, 57, 58, 59] (by decide +kernel) (by decide +kernel)
set_option maxRecDepth 20000 in
theorem gX9_wayOf_X9_rise : GoodIn wsX9_wayOf (wsV RX9 132 RX9 yX9_rise wsX9_rise) := goodIn_app (goodIn_of _ (by decide +kernel)) ggX9_wayOf_X9_rise
def D_X9_wayOf : Md := (yX9_wayOf, cX9_wayOf, 8, (some .int), wsX9_wayOf, RX9, { frames := 4, cells := 0, slots := 0, locals := 91 })
theorem nm_X9_wayOf : nmD D_X9_wayOf 3 := ⟨rfl, by decide +kernel, by decide +kernel, by decide +kernel⟩
theorem hi_X9_wayOf_X9 : ∀ w ∈ u_ws RX9 TX9 25, w ∈ wsX9_wayOf := by decide +kernel
theorem hl_X9_wayOf_7 : Cond.fieldLink RX9 7 "LevelLoopsModel" "s" "[I" ∈ wsX9_wayOf := by decide +kernel
theorem hl_X9_wayOf_22 : Cond.fieldLink RX9 22 "LevelLoopsModel" "net" "[I" ∈ wsX9_wayOf := by decide +kernel
theorem hl_X9_wayOf_35 : Cond.fieldLink RX9 35 "LevelLoopsModel" "steps" "[I" ∈ wsX9_wayOf := by decide +kernel
def wp_X9_wayOf_B34 (x1 : Int32) (x3 : Int32) (x4 : Int32) (x5 : Int32) (x6 : Int32) (x7 : Int32) (w : Wd) (Q : Int32 → Wd → Prop) (K34 : Int32 → Int32 → Int32 → Prop) : Prop :=
  (((wi w 0 33 11) ≤ x7 → ((¬ x3 = 0 → ((¬ x3 = (1 : Int32) → ((¬ x3 = (2 : Int32) → wp_X9_firstLeg x1 w (fun r128 => Q r128 w)) ∧ (x3 = (2 : Int32) → Q (x4 + (1000000 : Int32)) w))) ∧ (x3 = (1 : Int32) → Q x6 w))) ∧ (x3 = 0 → Q x5 w))) ∧ (¬ (wi w 0 33 11) ≤ x7 → vp_in x7 20 ∧ wp_X9_size (wi w 0 41 x7.toNatClampNeg) (fun r55 => vp_in x7 20 ∧ wp_X9_size (wi w 0 41 x7.toNatClampNeg) (fun r70 => wp_X9_of x7 (2 : Int32) (fun r80 => vp_in r80 95 ∧ K34 (x5 + r55) (x6 + (r70 * (wi w 0 33 r80.toNatClampNeg))) (x7 + 1))))))
def wp_X9_wayOf_L34 (x1 : Int32) (x3 : Int32) (x4 : Int32) (x5 : Int32) (x6 : Int32) (x7 : Int32) (w : Wd) (Q : Int32 → Wd → Prop) : Prop :=
  ∃ (I : Int32 → Int32 → Int32 → Prop) (μ : Int32 → Int32 → Int32 → Nat), I x5 x6 x7 ∧ ∀ (x5 : Int32) (x6 : Int32) (x7 : Int32), I x5 x6 x7 → wp_X9_wayOf_B34 x1 x3 x4 x5 x6 x7 w Q (fun x5' x6' x7' => I x5' x6' x7' ∧ μ x5' x6' x7' < μ x5 x6 x7)
def wp_X9_wayOf (x1 : Int32) (x2 : Int32) (x3 : Int32) (w : Wd) (Q : Int32 → Wd → Prop) : Prop :=
  vp_in x1 10 ∧ vp_in x2 10 ∧ (((wi w 0 37 x1.toNatClampNeg) = (wi w 0 37 x2.toNatClampNeg) → wp_X9_rise x1 x2 w (fun r20 w20 => wp_X9_wayOf_L34 x1 x3 r20 (0 : Int32) (0 : Int32) (0 : Int32) w20 Q)) ∧ (¬ (wi w 0 37 x1.toNatClampNeg) = (wi w 0 37 x2.toNatClampNeg) → Q (-1 : Int32) w))
theorem ok_X9_wayOf_B34 {G : Gt} {M : Mx} {Qf : State → Prop} {x1 : Int32} {x3 : Int32} {x4 : Int32} {x5 : Int32} {x6 : Int32} {x7 : Int32} {w : Wd} {Q : Int32 → Wd → Prop} {K34 : Int32 → Int32 → Int32 → Prop} (hC : cx G D_X9_wayOf M) (he : en G M (qi Q) Qf) (h : wp_X9_wayOf_B34 x1 x3 x4 x5 x6 x7 w Q K34) (hK34 : ∀ (x5 : Int32) (x6 : Int32) (x7 : Int32), K34 x5 x6 x7 → jq G D_X9_wayOf M Qf 34 [(0, .ref (aD G 0 32)), (1, .int x1), (3, .int x3), (4, .int x4), (5, .int x5), (6, .int x6), (7, .int x7)] [] w) : jq G D_X9_wayOf M Qf 34 [(0, .ref (aD G 0 32)), (1, .int x1), (3, .int x3), (4, .int x4), (5, .int x5), (6, .int x6), (7, .int x7)] [] w := by
  unfold wp_X9_wayOf_B34 at h
  refine jq_iload (k0 := 6) dX9_wayOf_34 hC rfl ?_
  refine jq_aload_n (k0 := 0) dX9_wayOf_36 hC rfl rfl ?_
  refine jq_get (k0 := 1) (n := 0) (o := 32) dX9_wayOf_37 hC (cl_0 (by decide)) rfl rfl hi_X9_wayOf_X9 (by decide) hl_X9_wayOf_7 rfl rfl ?_
  refine jq_bipush (v := (11 : Int32)) dX9_wayOf_40 hC (by decide) ?_
  refine jq_iald (n := 0) (o := 33) (j := 11) dX9_wayOf_42 hC (cl_0 (by decide)) rfl (vin (by decide)) (by decide) ?_
  refine jq_icmp_ge (tgt := 94) dX9_wayOf_43 hC (by decide) (fun c43 => ?_) (fun c43 => ?_)
  · have h := h.1 c43
    refine jq_iload_n (k0 := 2) dX9_wayOf_94 hC rfl rfl ?_
    refine jq_if_ne (tgt := 103) dX9_wayOf_95 hC (by decide) (fun c95 => ?_) (fun c95 => ?_)
    · have h := h.1 c95
      refine jq_iload_n (k0 := 2) dX9_wayOf_103 hC rfl rfl ?_
      refine jq_iconst (v := (1 : Int32)) dX9_wayOf_104 hC (by decide) ?_
      refine jq_icmp_ne (tgt := 113) dX9_wayOf_105 hC (by decide) (fun c105 => ?_) (fun c105 => ?_)
      · have h := h.1 c105
        refine jq_iload_n (k0 := 2) dX9_wayOf_113 hC rfl rfl ?_
        refine jq_iconst (v := (2 : Int32)) dX9_wayOf_114 hC (by decide) ?_
        refine jq_icmp_ne (tgt := 126) dX9_wayOf_115 hC (by decide) (fun c115 => ?_) (fun c115 => ?_)
        · have h := h.1 c115
          refine jq_aload_n (k0 := 0) dX9_wayOf_126 hC rfl rfl ?_
          refine jq_iload_n (k0 := 1) dX9_wayOf_127 hC rfl rfl ?_
          refine jq_callV (As := [.int x1]) (rest := []) (n := 0) (o := 32) (D' := D_X9_firstLeg) dX9_wayOf_128 hC (cl_0 (by decide)) rfl rfl rfl (mt_X9_firstLeg h) gX9_wayOf_X9_firstLeg rfl ⟨rfl, rfl, Nat.le_of_ble_eq_true rfl, Nat.le_of_ble_eq_true rfl⟩ nm_X9_firstLeg rfl (Nat.le_of_ble_eq_true rfl) (kIp fun r128 h => ?_)
          exact jq_iret dX9_wayOf_131 hC he rfl ⟨_, rfl, h⟩
        · have h := h.2 c115
          refine jq_iload (k0 := 3) dX9_wayOf_118 hC rfl ?_
          refine jq_ldc (v := (1000000 : Int32)) dX9_wayOf_120 hC (by decide +kernel) ?_
          refine jq_iadd dX9_wayOf_122 hC ?_
          refine jq_goto (tgt := 131) dX9_wayOf_123 hC (by decide) ?_
          exact jq_iret dX9_wayOf_131 hC he rfl ⟨_, rfl, h⟩
      · have h := h.2 c105
        refine jq_iload (k0 := 5) dX9_wayOf_108 hC rfl ?_
        refine jq_goto (tgt := 131) dX9_wayOf_110 hC (by decide) ?_
        exact jq_iret dX9_wayOf_131 hC he rfl ⟨_, rfl, h⟩
    · have h := h.2 c95
      refine jq_iload (k0 := 4) dX9_wayOf_98 hC rfl ?_
      refine jq_goto (tgt := 131) dX9_wayOf_100 hC (by decide) ?_
      exact jq_iret dX9_wayOf_131 hC he rfl ⟨_, rfl, h⟩
  · have h := h.2 c43
    refine jq_iload (k0 := 4) dX9_wayOf_46 hC rfl ?_
    refine jq_aload_n (k0 := 0) dX9_wayOf_48 hC rfl rfl ?_
    refine jq_get (k0 := 11) (n := 0) (o := 32) dX9_wayOf_49 hC (cl_0 (by decide)) rfl rfl hi_X9_wayOf_X9 (by decide) hl_X9_wayOf_35 rfl rfl ?_
    refine jq_iload (k0 := 6) dX9_wayOf_52 hC rfl ?_
    obtain ⟨b54, h⟩ := h
    refine jq_iald (n := 0) (o := 41) (j := x7.toNatClampNeg) dX9_wayOf_54 hC (cl_0 (by decide)) rfl b54 rfl ?_
    refine jq_callS (As := [.int (wi w 0 41 x7.toNatClampNeg)]) (rest := [.int x5]) (D' := D_X9_size) dX9_wayOf_55 hC (mt_X9_size h) gX9_wayOf_X9_size rfl ⟨rfl, rfl, Nat.le_of_ble_eq_true rfl, Nat.le_of_ble_eq_true rfl⟩ nm_X9_size rfl (Nat.le_of_ble_eq_true rfl) (kIp fun r55 h => ?_)
    refine jq_iadd dX9_wayOf_58 hC ?_
    refine jq_istore (L' := [(5, .int (x5 + r55)), (0, .ref (aD G 0 32)), (1, .int x1), (3, .int x3), (4, .int x4), (6, .int x6), (7, .int x7)]) dX9_wayOf_59 hC (by decide) rfl ?_
    refine jq_iload (k0 := 5) dX9_wayOf_61 hC rfl ?_
    refine jq_aload_n (k0 := 1) dX9_wayOf_63 hC rfl rfl ?_
    refine jq_get (k0 := 11) (n := 0) (o := 32) dX9_wayOf_64 hC (cl_0 (by decide)) rfl rfl hi_X9_wayOf_X9 (by decide) hl_X9_wayOf_35 rfl rfl ?_
    refine jq_iload (k0 := 6) dX9_wayOf_67 hC rfl ?_
    obtain ⟨b69, h⟩ := h
    refine jq_iald (n := 0) (o := 41) (j := x7.toNatClampNeg) dX9_wayOf_69 hC (cl_0 (by decide)) rfl b69 rfl ?_
    refine jq_callS (As := [.int (wi w 0 41 x7.toNatClampNeg)]) (rest := [.int x6]) (D' := D_X9_size) dX9_wayOf_70 hC (mt_X9_size h) gX9_wayOf_X9_size rfl ⟨rfl, rfl, Nat.le_of_ble_eq_true rfl, Nat.le_of_ble_eq_true rfl⟩ nm_X9_size rfl (Nat.le_of_ble_eq_true rfl) (kIp fun r70 h => ?_)
    refine jq_aload_n (k0 := 1) dX9_wayOf_73 hC rfl rfl ?_
    refine jq_get (k0 := 1) (n := 0) (o := 32) dX9_wayOf_74 hC (cl_0 (by decide)) rfl rfl hi_X9_wayOf_X9 (by decide) hl_X9_wayOf_7 rfl rfl ?_
    refine jq_iload (k0 := 6) dX9_wayOf_77 hC rfl ?_
    refine jq_iconst (v := (2 : Int32)) dX9_wayOf_79 hC (by decide) ?_
    refine jq_callS (As := [.int x7, .int (2 : Int32)]) (rest := [.ref (aD G 0 33), .int r70, .int x6]) (D' := D_X9_of) dX9_wayOf_80 hC (mt_X9_of h) gX9_wayOf_X9_of rfl ⟨rfl, rfl, Nat.le_of_ble_eq_true rfl, Nat.le_of_ble_eq_true rfl⟩ nm_X9_of rfl (Nat.le_of_ble_eq_true rfl) (kIp fun r80 h => ?_)
    obtain ⟨b83, h⟩ := h
    refine jq_iald (n := 0) (o := 33) (j := r80.toNatClampNeg) dX9_wayOf_83 hC (cl_0 (by decide)) rfl b83 rfl ?_
    refine jq_imul dX9_wayOf_84 hC ?_
    refine jq_iadd dX9_wayOf_85 hC ?_
    refine jq_istore (L' := [(6, .int (x6 + (r70 * (wi w 0 33 r80.toNatClampNeg)))), (5, .int (x5 + r55)), (0, .ref (aD G 0 32)), (1, .int x1), (3, .int x3), (4, .int x4), (7, .int x7)]) dX9_wayOf_86 hC (by decide) rfl ?_
    refine jq_iinc (k0 := 6) (v := (x7 + 1)) (L' := [(7, .int (x7 + 1)), (6, .int (x6 + (r70 * (wi w 0 33 r80.toNatClampNeg)))), (5, .int (x5 + r55)), (0, .ref (aD G 0 32)), (1, .int x1), (3, .int x3), (4, .int x4)]) dX9_wayOf_88 hC rfl rfl (by decide) rfl ?_
    refine jq_goto (tgt := 34) dX9_wayOf_91 hC (by decide) ?_
    exact jq_less (L' := [(0, .ref (aD G 0 32)), (1, .int x1), (3, .int x3), (4, .int x4), (5, .int (x5 + r55)), (6, .int (x6 + (r70 * (wi w 0 33 r80.toNatClampNeg)))), (7, .int (x7 + 1))]) [3, 4, 5, 6, 2, 1, 0] rfl (hK34 _ _ _ h)
theorem ok_X9_wayOf_L34 {G : Gt} {M : Mx} {Qf : State → Prop} {x1 : Int32} {x3 : Int32} {x4 : Int32} {x5 : Int32} {x6 : Int32} {x7 : Int32} {w : Wd} {Q : Int32 → Wd → Prop} (hC : cx G D_X9_wayOf M) (he : en G M (qi Q) Qf) (h : wp_X9_wayOf_L34 x1 x3 x4 x5 x6 x7 w Q) : jq G D_X9_wayOf M Qf 34 [(0, .ref (aD G 0 32)), (1, .int x1), (3, .int x3), (4, .int x4), (5, .int x5), (6, .int x6), (7, .int x7)] [] w := by
  unfold wp_X9_wayOf_L34 at h
  obtain ⟨I, μ, h0, hs⟩ := h
  exact lp_ind (σ := Int32 × Int32 × Int32) (P := fun s => jq G D_X9_wayOf M Qf 34 [(0, .ref (aD G 0 32)), (1, .int x1), (3, .int x3), (4, .int x4), (5, .int s.1), (6, .int s.2.1), (7, .int s.2.2)] [] w) (fun s => I s.1 s.2.1 s.2.2) (fun s => μ s.1 s.2.1 s.2.2) (fun s h1 ih => ok_X9_wayOf_B34 hC he (hs s.1 s.2.1 s.2.2 h1) (fun x5' x6' x7' h => ih (x5', x6', x7') h.1 h.2)) (x5, x6, x7) h0
theorem ok_X9_wayOf {G : Gt} {M : Mx} {Qf : State → Prop} {x1 : Int32} {x2 : Int32} {x3 : Int32} {w : Wd} {Q : Int32 → Wd → Prop} (hC : cx G D_X9_wayOf M) (he : en G M (qi Q) Qf) (h : wp_X9_wayOf x1 x2 x3 w Q) : jq G D_X9_wayOf M Qf 0 [(0, .ref (aD G 0 32)), (1, .int x1), (2, .int x2), (3, .int x3)] [] w := by
  unfold wp_X9_wayOf at h
  refine jq_aload_n (k0 := 0) dX9_wayOf_0 hC rfl rfl ?_
  refine jq_get (k0 := 7) (n := 0) (o := 32) dX9_wayOf_1 hC (cl_0 (by decide)) rfl rfl hi_X9_wayOf_X9 (by decide) hl_X9_wayOf_22 rfl rfl ?_
  refine jq_iload_n (k0 := 1) dX9_wayOf_4 hC rfl rfl ?_
  obtain ⟨b5, h⟩ := h
  refine jq_iald (n := 0) (o := 37) (j := x1.toNatClampNeg) dX9_wayOf_5 hC (cl_0 (by decide)) rfl b5 rfl ?_
  refine jq_aload_n (k0 := 0) dX9_wayOf_6 hC rfl rfl ?_
  refine jq_get (k0 := 7) (n := 0) (o := 32) dX9_wayOf_7 hC (cl_0 (by decide)) rfl rfl hi_X9_wayOf_X9 (by decide) hl_X9_wayOf_22 rfl rfl ?_
  refine jq_iload_n (k0 := 2) dX9_wayOf_10 hC rfl rfl ?_
  obtain ⟨b11, h⟩ := h
  refine jq_iald (n := 0) (o := 37) (j := x2.toNatClampNeg) dX9_wayOf_11 hC (cl_0 (by decide)) rfl b11 rfl ?_
  refine jq_icmp_eq (tgt := 17) dX9_wayOf_12 hC (by decide) (fun c12 => ?_) (fun c12 => ?_)
  · have h := h.1 c12
    refine jq_aload_n (k0 := 0) dX9_wayOf_17 hC rfl rfl ?_
    refine jq_iload_n (k0 := 1) dX9_wayOf_18 hC rfl rfl ?_
    refine jq_iload_n (k0 := 2) dX9_wayOf_19 hC rfl rfl ?_
    refine jq_callV (As := [.int x1, .int x2]) (rest := []) (n := 0) (o := 32) (D' := D_X9_rise) dX9_wayOf_20 hC (cl_0 (by decide)) rfl rfl rfl (mt_X9_rise h) gX9_wayOf_X9_rise rfl ⟨rfl, rfl, Nat.le_of_ble_eq_true rfl, Nat.le_of_ble_eq_true rfl⟩ nm_X9_rise rfl (Nat.le_of_ble_eq_true rfl) (kI fun r20 w20 h => ?_)
    refine jq_istore (L' := [(4, .int r20), (0, .ref (aD G 0 32)), (1, .int x1), (2, .int x2), (3, .int x3)]) dX9_wayOf_23 hC (by decide) rfl ?_
    refine jq_iconst (v := (0 : Int32)) dX9_wayOf_25 hC (by decide) ?_
    refine jq_istore (L' := [(5, .int (0 : Int32)), (4, .int r20), (0, .ref (aD G 0 32)), (1, .int x1), (2, .int x2), (3, .int x3)]) dX9_wayOf_26 hC (by decide) rfl ?_
    refine jq_iconst (v := (0 : Int32)) dX9_wayOf_28 hC (by decide) ?_
    refine jq_istore (L' := [(6, .int (0 : Int32)), (5, .int (0 : Int32)), (4, .int r20), (0, .ref (aD G 0 32)), (1, .int x1), (2, .int x2), (3, .int x3)]) dX9_wayOf_29 hC (by decide) rfl ?_
    refine jq_iconst (v := (0 : Int32)) dX9_wayOf_31 hC (by decide) ?_
    refine jq_istore (L' := [(7, .int (0 : Int32)), (6, .int (0 : Int32)), (5, .int (0 : Int32)), (4, .int r20), (0, .ref (aD G 0 32)), (1, .int x1), (2, .int x2), (3, .int x3)]) dX9_wayOf_32 hC (by decide) rfl ?_
    refine jq_less (L' := [(0, .ref (aD G 0 32)), (1, .int x1), (3, .int x3), (4, .int r20), (5, .int (0 : Int32)), (6, .int (0 : Int32)), (7, .int (0 : Int32))]) [4, 5, 7, 3, 2, 1, 0] rfl ?_
    exact ok_X9_wayOf_L34 hC he h
  · have h := h.2 c12
    refine jq_iconst (v := (-1 : Int32)) dX9_wayOf_15 hC (by decide) ?_
    exact jq_iret dX9_wayOf_16 hC he rfl ⟨_, rfl, h⟩
theorem mt_X9_wayOf {G : Gt} {x1 : Int32} {x2 : Int32} {x3 : Int32} {w : Wd} {Q : Int32 → Wd → Prop} (h : wp_X9_wayOf x1 x2 x3 w Q) : Mt G D_X9_wayOf [.ref (aD G 0 32), .int x1, .int x2, .int x3] w (qi Q) := Mt_of (by decide +kernel) rfl rfl (Nat.le_of_ble_eq_true rfl) (fun M Qf hC he => ok_X9_wayOf hC he h)
/-! X9.way(III)I -/
theorem dX9_way_0 : decode cX9_way 0 = .ok (.aload_n 0, 1) := by decide +kernel
theorem dX9_way_1 : decode cX9_way 1 = .ok (.invokevirtual 148, 3) := by decide +kernel
theorem dX9_way_4 : decode cX9_way 4 = .ok (.aload_n 0, 1) := by decide +kernel
theorem dX9_way_5 : decode cX9_way 5 = .ok (.aload_n 0, 1) := by decide +kernel
theorem dX9_way_6 : decode cX9_way 6 = .ok (.iload_n 1, 1) := by decide +kernel
theorem dX9_way_7 : decode cX9_way 7 = .ok (.invokevirtual 167, 3) := by decide +kernel
theorem dX9_way_10 : decode cX9_way 10 = .ok (.ifCond .eq 11, 3) := by decide +kernel
theorem dX9_way_13 : decode cX9_way 13 = .ok (.aload_n 0, 1) := by decide +kernel
theorem dX9_way_14 : decode cX9_way 14 = .ok (.iload_n 2, 1) := by decide +kernel
theorem dX9_way_15 : decode cX9_way 15 = .ok (.invokevirtual 167, 3) := by decide +kernel
theorem dX9_way_18 : decode cX9_way 18 = .ok (.ifCond .ne 7, 3) := by decide +kernel
theorem dX9_way_21 : decode cX9_way 21 = .ok (.iconst 1, 1) := by decide +kernel
theorem dX9_way_22 : decode cX9_way 22 = .ok (.goto 17, 3) := by decide +kernel
theorem dX9_way_25 : decode cX9_way 25 = .ok (.iload_n 3, 1) := by decide +kernel
theorem dX9_way_26 : decode cX9_way 26 = .ok (.iconst 0, 1) := by decide +kernel
theorem dX9_way_27 : decode cX9_way 27 = .ok (.iconst 3, 1) := by decide +kernel
theorem dX9_way_28 : decode cX9_way 28 = .ok (.invokestatic 69, 3) := by decide +kernel
theorem dX9_way_31 : decode cX9_way 31 = .ok (.ifCond .ne 7, 3) := by decide +kernel
theorem dX9_way_34 : decode cX9_way 34 = .ok (.iconst 2, 1) := by decide +kernel
theorem dX9_way_35 : decode cX9_way 35 = .ok (.goto 4, 3) := by decide +kernel
theorem dX9_way_38 : decode cX9_way 38 = .ok (.iconst 0, 1) := by decide +kernel
theorem dX9_way_39 : decode cX9_way 39 = .ok (.invokevirtual 158, 3) := by decide +kernel
theorem dX9_way_42 : decode cX9_way 42 = .ok (.ifCond .eq 13, 3) := by decide +kernel
theorem dX9_way_45 : decode cX9_way 45 = .ok (.aload_n 0, 1) := by decide +kernel
theorem dX9_way_46 : decode cX9_way 46 = .ok (.iload_n 1, 1) := by decide +kernel
theorem dX9_way_47 : decode cX9_way 47 = .ok (.iload_n 2, 1) := by decide +kernel
theorem dX9_way_48 : decode cX9_way 48 = .ok (.iload_n 3, 1) := by decide +kernel
theorem dX9_way_49 : decode cX9_way 49 = .ok (.invokevirtual 247, 3) := by decide +kernel
theorem dX9_way_52 : decode cX9_way 52 = .ok (.goto 4, 3) := by decide +kernel
theorem dX9_way_55 : decode cX9_way 55 = .ok (.iconst 0, 1) := by decide +kernel
theorem dX9_way_56 : decode cX9_way 56 = .ok (.ireturn, 1) := by decide +kernel
set_option maxRecDepth 20000 in
theorem ggX9_way_X9_wayOf : GoodIn wsX9_way wsX9_wayOf := goodIn_r _ [93, 11, 10, 39, 94, 95, 96, 97, 4, 98, 42, 43, 44, 45, 46, 47, 48, 49, 12, 13, 19, 20, 21, 99, 100, 101, 102, 54, 66, 67, 68, 103, 104, 105, 106, 107, 108, 109, 110, 111, 112, 113, 114, 115, 116, 117, 118, 119, 120, 121, 122, 123, 124, 125, 126, 127, 128, 129, 130, 131] (by decide +kernel) (by decide +kernel)
set_option maxRecDepth 20000 in
theorem gX9_way_X9_wayOf : GoodIn wsX9_way (wsV RX9 247 RX9 yX9_wayOf wsX9_wayOf) := goodIn_app (goodIn_of _ (by decide +kernel)) ggX9_way_X9_wayOf
set_option maxRecDepth 20000 in
theorem ggX9_way_X9_holds : GoodIn wsX9_way wsX9_holds := goodIn_r _ [88, 89, 107, 108, 109, 110, 111, 112, 113, 114, 115, 116, 117, 118, 119, 120, 121, 122, 123, 124, 125, 126, 127, 128, 129, 130, 131] (by decide +kernel) (by decide +kernel)
set_option maxRecDepth 20000 in
theorem gX9_way_X9_holds : GoodIn wsX9_way (wsV RX9 158 RX9 yX9_holds wsX9_holds) := goodIn_app (goodIn_of _ (by decide +kernel)) ggX9_way_X9_holds
set_option maxRecDepth 20000 in
theorem ggX9_way_X9_in : GoodIn wsX9_way wsX9_in := goodIn_r _ [84] (by decide +kernel) (by decide +kernel)
set_option maxRecDepth 20000 in
theorem gX9_way_X9_in : GoodIn wsX9_way (va_wsS RX9 69 yX9_in wsX9_in) := goodIn_app (goodIn_of _ (by decide +kernel)) ggX9_way_X9_in
set_option maxRecDepth 20000 in
theorem ggX9_way_X9_isMark : GoodIn wsX9_way wsX9_isMark := goodIn_r _ [81, 10, 82, 83, 4, 84, 107, 108, 109, 110, 111, 112, 113, 114, 115, 116, 117, 118, 119, 120, 121, 122, 123, 124, 125, 126, 127, 128, 129, 130, 131] (by decide +kernel) (by decide +kernel)
set_option maxRecDepth 20000 in
theorem gX9_way_X9_isMark : GoodIn wsX9_way (wsV RX9 167 RX9 yX9_isMark wsX9_isMark) := goodIn_app (goodIn_of _ (by decide +kernel)) ggX9_way_X9_isMark
set_option maxRecDepth 20000 in
theorem ggX9_way_X9_layOut : GoodIn wsX9_way wsX9_layOut := goodIn_r _ [5, 6, 7, 8, 4, 9, 10, 11, 12, 13, 14, 15, 16, 17, 18, 19, 20, 21, 22, 23, 24, 25, 26, 27, 28, 29, 30, 31, 32, 33, 34, 35, 36, 37, 38, 39, 40, 41, 42, 43, 44, 45, 46, 47, 48, 49, 50, 51, 52, 53, 54, 55, 56, 57, 58, 59, 60, 61, 62, 63, 64, 65, 66, 67, 68, 69, 70, 71, 72, 73, 74, 75, 76, 77, 107, 108, 109, 110, 111, 112, 113, 114, 115, 116, 117, 118, 119, 120, 121, 122, 123, 124, 125, 126, 127, 128, 129, 130, 131] (by decide +kernel) (by decide +kernel)
set_option maxRecDepth 20000 in
theorem gX9_way_X9_layOut : GoodIn wsX9_way (wsV RX9 148 RX9 yX9_layOut wsX9_layOut) := goodIn_app (goodIn_of _ (by decide +kernel)) ggX9_way_X9_layOut
def D_X9_way : Md := (yX9_way, cX9_way, 4, (some .int), wsX9_way, RX9, { frames := 5, cells := 0, slots := 0, locals := 118 })
theorem nm_X9_way : nmD D_X9_way 3 := ⟨rfl, by decide +kernel, by decide +kernel, by decide +kernel⟩
def wp_X9_way_J39 (x1 : Int32) (x2 : Int32) (x3 : Int32) (s0 : Int32) (w : Wd) (Q : Int32 → Wd → Prop) : Prop :=
  wp_X9_holds s0 w (fun r39 w39 => ((r39 = 0 → Q (0 : Int32) w39) ∧ (¬ r39 = 0 → wp_X9_wayOf x1 x2 x3 w39 (fun r49 w49 => Q r49 w49))))
def wp_X9_way (x1 : Int32) (x2 : Int32) (x3 : Int32) (w : Wd) (Q : Int32 → Wd → Prop) : Prop :=
  wp_X9_layOut w (fun w1 => wp_X9_isMark x1 w1 (fun r7 => ((r7 = 0 → wp_X9_way_J39 x1 x2 x3 (1 : Int32) w1 Q) ∧ (¬ r7 = 0 → wp_X9_isMark x2 w1 (fun r15 => ((¬ r15 = 0 → wp_X9_in x3 (0 : Int32) (3 : Int32) (fun r28 => ((¬ r28 = 0 → wp_X9_way_J39 x1 x2 x3 (0 : Int32) w1 Q) ∧ (r28 = 0 → wp_X9_way_J39 x1 x2 x3 (2 : Int32) w1 Q)))) ∧ (r15 = 0 → wp_X9_way_J39 x1 x2 x3 (1 : Int32) w1 Q)))))))
theorem ok_X9_way_J39 {G : Gt} {M : Mx} {Qf : State → Prop} {x1 : Int32} {x2 : Int32} {x3 : Int32} {s0 : Int32} {w : Wd} {Q : Int32 → Wd → Prop} (hC : cx G D_X9_way M) (he : en G M (qi Q) Qf) (h : wp_X9_way_J39 x1 x2 x3 s0 w Q) : jq G D_X9_way M Qf 39 [(0, .ref (aD G 0 32)), (1, .int x1), (2, .int x2), (3, .int x3)] [.int s0, .ref (aD G 0 32)] w := by
  unfold wp_X9_way_J39 at h
  refine jq_callV (As := [.int s0]) (rest := []) (n := 0) (o := 32) (D' := D_X9_holds) dX9_way_39 hC (cl_0 (by decide)) rfl rfl rfl (mt_X9_holds h) gX9_way_X9_holds rfl ⟨rfl, rfl, Nat.le_of_ble_eq_true rfl, Nat.le_of_ble_eq_true rfl⟩ nm_X9_holds rfl (Nat.le_of_ble_eq_true rfl) (kI fun r39 w39 h => ?_)
  refine jq_if_eq (tgt := 55) dX9_way_42 hC (by decide) (fun c42 => ?_) (fun c42 => ?_)
  · have h := h.1 c42
    refine jq_iconst (v := (0 : Int32)) dX9_way_55 hC (by decide) ?_
    exact jq_iret dX9_way_56 hC he rfl ⟨_, rfl, h⟩
  · have h := h.2 c42
    refine jq_aload_n (k0 := 0) dX9_way_45 hC rfl rfl ?_
    refine jq_iload_n (k0 := 1) dX9_way_46 hC rfl rfl ?_
    refine jq_iload_n (k0 := 2) dX9_way_47 hC rfl rfl ?_
    refine jq_iload_n (k0 := 3) dX9_way_48 hC rfl rfl ?_
    refine jq_callV (As := [.int x1, .int x2, .int x3]) (rest := []) (n := 0) (o := 32) (D' := D_X9_wayOf) dX9_way_49 hC (cl_0 (by decide)) rfl rfl rfl (mt_X9_wayOf h) gX9_way_X9_wayOf rfl ⟨rfl, rfl, Nat.le_of_ble_eq_true rfl, Nat.le_of_ble_eq_true rfl⟩ nm_X9_wayOf rfl (Nat.le_of_ble_eq_true rfl) (kI fun r49 w49 h => ?_)
    refine jq_goto (tgt := 56) dX9_way_52 hC (by decide) ?_
    exact jq_iret dX9_way_56 hC he rfl ⟨_, rfl, h⟩
theorem ok_X9_way {G : Gt} {M : Mx} {Qf : State → Prop} {x1 : Int32} {x2 : Int32} {x3 : Int32} {w : Wd} {Q : Int32 → Wd → Prop} (hC : cx G D_X9_way M) (he : en G M (qi Q) Qf) (h : wp_X9_way x1 x2 x3 w Q) : jq G D_X9_way M Qf 0 [(0, .ref (aD G 0 32)), (1, .int x1), (2, .int x2), (3, .int x3)] [] w := by
  unfold wp_X9_way at h
  refine jq_aload_n (k0 := 0) dX9_way_0 hC rfl rfl ?_
  refine jq_callV (As := []) (rest := []) (n := 0) (o := 32) (D' := D_X9_layOut) dX9_way_1 hC (cl_0 (by decide)) rfl rfl rfl (mt_X9_layOut h) gX9_way_X9_layOut rfl ⟨rfl, rfl, Nat.le_of_ble_eq_true rfl, Nat.le_of_ble_eq_true rfl⟩ nm_X9_layOut rfl (Nat.le_of_ble_eq_true rfl) (kV fun w1 h => ?_)
  refine jq_aload_n (k0 := 0) dX9_way_4 hC rfl rfl ?_
  refine jq_aload_n (k0 := 0) dX9_way_5 hC rfl rfl ?_
  refine jq_iload_n (k0 := 1) dX9_way_6 hC rfl rfl ?_
  refine jq_callV (As := [.int x1]) (rest := [.ref (aD G 0 32)]) (n := 0) (o := 32) (D' := D_X9_isMark) dX9_way_7 hC (cl_0 (by decide)) rfl rfl rfl (mt_X9_isMark h) gX9_way_X9_isMark rfl ⟨rfl, rfl, Nat.le_of_ble_eq_true rfl, Nat.le_of_ble_eq_true rfl⟩ nm_X9_isMark rfl (Nat.le_of_ble_eq_true rfl) (kIp fun r7 h => ?_)
  refine jq_if_eq (tgt := 21) dX9_way_10 hC (by decide) (fun c10 => ?_) (fun c10 => ?_)
  · have h := h.1 c10
    refine jq_iconst (v := (1 : Int32)) dX9_way_21 hC (by decide) ?_
    refine jq_goto (tgt := 39) dX9_way_22 hC (by decide) ?_
    refine jq_less (L' := [(0, .ref (aD G 0 32)), (1, .int x1), (2, .int x2), (3, .int x3)]) [0, 1, 2, 3] rfl ?_
    exact ok_X9_way_J39 hC he h
  · have h := h.2 c10
    refine jq_aload_n (k0 := 0) dX9_way_13 hC rfl rfl ?_
    refine jq_iload_n (k0 := 2) dX9_way_14 hC rfl rfl ?_
    refine jq_callV (As := [.int x2]) (rest := [.ref (aD G 0 32)]) (n := 0) (o := 32) (D' := D_X9_isMark) dX9_way_15 hC (cl_0 (by decide)) rfl rfl rfl (mt_X9_isMark h) gX9_way_X9_isMark rfl ⟨rfl, rfl, Nat.le_of_ble_eq_true rfl, Nat.le_of_ble_eq_true rfl⟩ nm_X9_isMark rfl (Nat.le_of_ble_eq_true rfl) (kIp fun r15 h => ?_)
    refine jq_if_ne (tgt := 25) dX9_way_18 hC (by decide) (fun c18 => ?_) (fun c18 => ?_)
    · have h := h.1 c18
      refine jq_iload_n (k0 := 3) dX9_way_25 hC rfl rfl ?_
      refine jq_iconst (v := (0 : Int32)) dX9_way_26 hC (by decide) ?_
      refine jq_iconst (v := (3 : Int32)) dX9_way_27 hC (by decide) ?_
      refine jq_callS (As := [.int x3, .int (0 : Int32), .int (3 : Int32)]) (rest := [.ref (aD G 0 32)]) (D' := D_X9_in) dX9_way_28 hC (mt_X9_in h) gX9_way_X9_in rfl ⟨rfl, rfl, Nat.le_of_ble_eq_true rfl, Nat.le_of_ble_eq_true rfl⟩ nm_X9_in rfl (Nat.le_of_ble_eq_true rfl) (kIp fun r28 h => ?_)
      refine jq_if_ne (tgt := 38) dX9_way_31 hC (by decide) (fun c31 => ?_) (fun c31 => ?_)
      · have h := h.1 c31
        refine jq_iconst (v := (0 : Int32)) dX9_way_38 hC (by decide) ?_
        refine jq_less (L' := [(0, .ref (aD G 0 32)), (1, .int x1), (2, .int x2), (3, .int x3)]) [0, 1, 2, 3] rfl ?_
        exact ok_X9_way_J39 hC he h
      · have h := h.2 c31
        refine jq_iconst (v := (2 : Int32)) dX9_way_34 hC (by decide) ?_
        refine jq_goto (tgt := 39) dX9_way_35 hC (by decide) ?_
        refine jq_less (L' := [(0, .ref (aD G 0 32)), (1, .int x1), (2, .int x2), (3, .int x3)]) [0, 1, 2, 3] rfl ?_
        exact ok_X9_way_J39 hC he h
    · have h := h.2 c18
      refine jq_iconst (v := (1 : Int32)) dX9_way_21 hC (by decide) ?_
      refine jq_goto (tgt := 39) dX9_way_22 hC (by decide) ?_
      refine jq_less (L' := [(0, .ref (aD G 0 32)), (1, .int x1), (2, .int x2), (3, .int x3)]) [0, 1, 2, 3] rfl ?_
      exact ok_X9_way_J39 hC he h
theorem mt_X9_way {G : Gt} {x1 : Int32} {x2 : Int32} {x3 : Int32} {w : Wd} {Q : Int32 → Wd → Prop} (h : wp_X9_way x1 x2 x3 w Q) : Mt G D_X9_way [.ref (aD G 0 32), .int x1, .int x2, .int x3] w (qi Q) := Mt_of (by decide +kernel) rfl rfl (Nat.le_of_ble_eq_true rfl) (fun M Qf hC he => ok_X9_way hC he h)
/-! X9.bads()I -/
theorem dX9_bads_0 : decode cX9_bads 0 = .ok (.iconst 0, 1) := by decide +kernel
theorem dX9_bads_1 : decode cX9_bads 1 = .ok (.istore_n 1, 1) := by decide +kernel
theorem dX9_bads_2 : decode cX9_bads 2 = .ok (.iconst 0, 1) := by decide +kernel
theorem dX9_bads_3 : decode cX9_bads 3 = .ok (.istore_n 2, 1) := by decide +kernel
theorem dX9_bads_4 : decode cX9_bads 4 = .ok (.iload_n 2, 1) := by decide +kernel
theorem dX9_bads_5 : decode cX9_bads 5 = .ok (.aload_n 0, 1) := by decide +kernel
theorem dX9_bads_6 : decode cX9_bads 6 = .ok (.getfield 98, 3) := by decide +kernel
theorem dX9_bads_9 : decode cX9_bads 9 = .ok (.if_icmp .ge 25, 3) := by decide +kernel
theorem dX9_bads_12 : decode cX9_bads 12 = .ok (.iload_n 1, 1) := by decide +kernel
theorem dX9_bads_13 : decode cX9_bads 13 = .ok (.aload_n 0, 1) := by decide +kernel
theorem dX9_bads_14 : decode cX9_bads 14 = .ok (.iload_n 2, 1) := by decide +kernel
theorem dX9_bads_15 : decode cX9_bads 15 = .ok (.invokevirtual 228, 3) := by decide +kernel
theorem dX9_bads_18 : decode cX9_bads 18 = .ok (.ifCond .eq 7, 3) := by decide +kernel
theorem dX9_bads_21 : decode cX9_bads 21 = .ok (.iconst 1, 1) := by decide +kernel
theorem dX9_bads_22 : decode cX9_bads 22 = .ok (.goto 4, 3) := by decide +kernel
theorem dX9_bads_25 : decode cX9_bads 25 = .ok (.iconst 0, 1) := by decide +kernel
theorem dX9_bads_26 : decode cX9_bads 26 = .ok (.iadd, 1) := by decide +kernel
theorem dX9_bads_27 : decode cX9_bads 27 = .ok (.istore_n 1, 1) := by decide +kernel
theorem dX9_bads_28 : decode cX9_bads 28 = .ok (.iinc 2 1, 3) := by decide +kernel
theorem dX9_bads_31 : decode cX9_bads 31 = .ok (.goto (-27), 3) := by decide +kernel
theorem dX9_bads_34 : decode cX9_bads 34 = .ok (.iload_n 1, 1) := by decide +kernel
theorem dX9_bads_35 : decode cX9_bads 35 = .ok (.ireturn, 1) := by decide +kernel
set_option maxRecDepth 20000 in
theorem ggX9_bads_X9_isBad : GoodIn wsX9_bads wsX9_isBad := goodIn_r _ [6, 7, 8, 9, 5, 10, 11, 12, 13, 14, 15, 16, 17, 18, 19, 20, 21, 22, 23, 24, 25, 26, 27, 28, 29, 30, 31, 32, 33, 34, 35, 36, 37, 38, 39, 40, 41, 42, 43, 44, 45, 46, 47, 48, 49, 50, 51, 52, 53, 54, 55] (by decide +kernel) (by decide +kernel)
set_option maxRecDepth 20000 in
theorem gX9_bads_X9_isBad : GoodIn wsX9_bads (wsV RX9 228 RX9 yX9_isBad wsX9_isBad) := goodIn_app (goodIn_of _ (by decide +kernel)) ggX9_bads_X9_isBad
def D_X9_bads : Md := (yX9_bads, cX9_bads, 3, (some .int), wsX9_bads, RX9, { frames := 4, cells := 0, slots := 0, locals := 87 })
theorem nm_X9_bads : nmD D_X9_bads 0 := ⟨rfl, by decide +kernel, by decide +kernel, by decide +kernel⟩
theorem hi_X9_bads_X9 : ∀ w ∈ u_ws RX9 TX9 25, w ∈ wsX9_bads := by decide +kernel
theorem hl_X9_bads_98 : Cond.fieldLink RX9 98 "LevelLoopsModel" "manyLoops" "I" ∈ wsX9_bads := by decide +kernel
def wp_X9_bads_B4 (x1 : Int32) (x2 : Int32) (w : Wd) (Q : Int32 → Prop) (K4 : Int32 → Int32 → Prop) : Prop :=
  (((wi w 0 32 15) ≤ x2 → Q x1) ∧ (¬ (wi w 0 32 15) ≤ x2 → wp_X9_isBad x2 w (fun r15 => ((r15 = 0 → K4 (x1 + (0 : Int32)) (x2 + 1)) ∧ (¬ r15 = 0 → K4 (x1 + (1 : Int32)) (x2 + 1))))))
def wp_X9_bads_L4 (x1 : Int32) (x2 : Int32) (w : Wd) (Q : Int32 → Prop) : Prop :=
  ∃ (I : Int32 → Int32 → Prop) (μ : Int32 → Int32 → Nat), I x1 x2 ∧ ∀ (x1 : Int32) (x2 : Int32), I x1 x2 → wp_X9_bads_B4 x1 x2 w Q (fun x1' x2' => I x1' x2' ∧ μ x1' x2' < μ x1 x2)
def wp_X9_bads (w : Wd) (Q : Int32 → Prop) : Prop :=
  wp_X9_bads_L4 (0 : Int32) (0 : Int32) w Q
theorem ok_X9_bads_B4 {G : Gt} {M : Mx} {Qf : State → Prop} {x1 : Int32} {x2 : Int32} {w : Wd} {Q : Int32 → Prop} {K4 : Int32 → Int32 → Prop} (hC : cx G D_X9_bads M) (he : en G M (qip w Q) Qf) (h : wp_X9_bads_B4 x1 x2 w Q K4) (hK4 : ∀ (x1 : Int32) (x2 : Int32), K4 x1 x2 → jq G D_X9_bads M Qf 4 [(0, .ref (aD G 0 32)), (1, .int x1), (2, .int x2)] [] w) : jq G D_X9_bads M Qf 4 [(0, .ref (aD G 0 32)), (1, .int x1), (2, .int x2)] [] w := by
  unfold wp_X9_bads_B4 at h
  refine jq_iload_n (k0 := 2) dX9_bads_4 hC rfl rfl ?_
  refine jq_aload_n (k0 := 0) dX9_bads_5 hC rfl rfl ?_
  refine jq_get (k0 := 15) (n := 0) (o := 32) dX9_bads_6 hC (cl_0 (by decide)) rfl rfl hi_X9_bads_X9 (by decide) hl_X9_bads_98 rfl rfl ?_
  refine jq_icmp_ge (tgt := 34) dX9_bads_9 hC (by decide) (fun c9 => ?_) (fun c9 => ?_)
  · have h := h.1 c9
    refine jq_iload_n (k0 := 1) dX9_bads_34 hC rfl rfl ?_
    exact jq_iret dX9_bads_35 hC he rfl ⟨_, rfl, rfl, h⟩
  · have h := h.2 c9
    refine jq_iload_n (k0 := 1) dX9_bads_12 hC rfl rfl ?_
    refine jq_aload_n (k0 := 0) dX9_bads_13 hC rfl rfl ?_
    refine jq_iload_n (k0 := 2) dX9_bads_14 hC rfl rfl ?_
    refine jq_callV (As := [.int x2]) (rest := [.int x1]) (n := 0) (o := 32) (D' := D_X9_isBad) dX9_bads_15 hC (cl_0 (by decide)) rfl rfl rfl (mt_X9_isBad h) gX9_bads_X9_isBad rfl ⟨rfl, rfl, Nat.le_of_ble_eq_true rfl, Nat.le_of_ble_eq_true rfl⟩ nm_X9_isBad rfl (Nat.le_of_ble_eq_true rfl) (kIp fun r15 h => ?_)
    refine jq_if_eq (tgt := 25) dX9_bads_18 hC (by decide) (fun c18 => ?_) (fun c18 => ?_)
    · have h := h.1 c18
      refine jq_iconst (v := (0 : Int32)) dX9_bads_25 hC (by decide) ?_
      refine jq_iadd dX9_bads_26 hC ?_
      refine jq_istore_n (L' := [(1, .int (x1 + (0 : Int32))), (0, .ref (aD G 0 32)), (2, .int x2)]) dX9_bads_27 hC rfl (by decide) rfl ?_
      refine jq_iinc (k0 := 2) (v := (x2 + 1)) (L' := [(2, .int (x2 + 1)), (1, .int (x1 + (0 : Int32))), (0, .ref (aD G 0 32))]) dX9_bads_28 hC rfl rfl (by decide) rfl ?_
      refine jq_goto (tgt := 4) dX9_bads_31 hC (by decide) ?_
      exact jq_less (L' := [(0, .ref (aD G 0 32)), (1, .int (x1 + (0 : Int32))), (2, .int (x2 + 1))]) [2, 1, 0] rfl (hK4 _ _ h)
    · have h := h.2 c18
      refine jq_iconst (v := (1 : Int32)) dX9_bads_21 hC (by decide) ?_
      refine jq_goto (tgt := 26) dX9_bads_22 hC (by decide) ?_
      refine jq_iadd dX9_bads_26 hC ?_
      refine jq_istore_n (L' := [(1, .int (x1 + (1 : Int32))), (0, .ref (aD G 0 32)), (2, .int x2)]) dX9_bads_27 hC rfl (by decide) rfl ?_
      refine jq_iinc (k0 := 2) (v := (x2 + 1)) (L' := [(2, .int (x2 + 1)), (1, .int (x1 + (1 : Int32))), (0, .ref (aD G 0 32))]) dX9_bads_28 hC rfl rfl (by decide) rfl ?_
      refine jq_goto (tgt := 4) dX9_bads_31 hC (by decide) ?_
      exact jq_less (L' := [(0, .ref (aD G 0 32)), (1, .int (x1 + (1 : Int32))), (2, .int (x2 + 1))]) [2, 1, 0] rfl (hK4 _ _ h)
theorem ok_X9_bads_L4 {G : Gt} {M : Mx} {Qf : State → Prop} {x1 : Int32} {x2 : Int32} {w : Wd} {Q : Int32 → Prop} (hC : cx G D_X9_bads M) (he : en G M (qip w Q) Qf) (h : wp_X9_bads_L4 x1 x2 w Q) : jq G D_X9_bads M Qf 4 [(0, .ref (aD G 0 32)), (1, .int x1), (2, .int x2)] [] w := by
  unfold wp_X9_bads_L4 at h
  obtain ⟨I, μ, h0, hs⟩ := h
  exact lp_ind (σ := Int32 × Int32) (P := fun s => jq G D_X9_bads M Qf 4 [(0, .ref (aD G 0 32)), (1, .int s.1), (2, .int s.2)] [] w) (fun s => I s.1 s.2) (fun s => μ s.1 s.2) (fun s h1 ih => ok_X9_bads_B4 hC he (hs s.1 s.2 h1) (fun x1' x2' h => ih (x1', x2') h.1 h.2)) (x1, x2) h0
theorem ok_X9_bads {G : Gt} {M : Mx} {Qf : State → Prop} {w : Wd} {Q : Int32 → Prop} (hC : cx G D_X9_bads M) (he : en G M (qip w Q) Qf) (h : wp_X9_bads w Q) : jq G D_X9_bads M Qf 0 [(0, .ref (aD G 0 32))] [] w := by
  unfold wp_X9_bads at h
  refine jq_iconst (v := (0 : Int32)) dX9_bads_0 hC (by decide) ?_
  refine jq_istore_n (L' := [(1, .int (0 : Int32)), (0, .ref (aD G 0 32))]) dX9_bads_1 hC rfl (by decide) rfl ?_
  refine jq_iconst (v := (0 : Int32)) dX9_bads_2 hC (by decide) ?_
  refine jq_istore_n (L' := [(2, .int (0 : Int32)), (1, .int (0 : Int32)), (0, .ref (aD G 0 32))]) dX9_bads_3 hC rfl (by decide) rfl ?_
  refine jq_less (L' := [(0, .ref (aD G 0 32)), (1, .int (0 : Int32)), (2, .int (0 : Int32))]) [2, 1, 0] rfl ?_
  exact ok_X9_bads_L4 hC he h
theorem mt_X9_bads {G : Gt} {w : Wd} {Q : Int32 → Prop} (h : wp_X9_bads w Q) : Mt G D_X9_bads [.ref (aD G 0 32)] w (qip w Q) := Mt_of (by decide +kernel) rfl rfl (Nat.le_of_ble_eq_true rfl) (fun M Qf hC he => ok_X9_bads hC he h)
/-! X9.nets()I -/
theorem dX9_nets_0 : decode cX9_nets 0 = .ok (.iconst 0, 1) := by decide +kernel
theorem dX9_nets_1 : decode cX9_nets 1 = .ok (.istore_n 1, 1) := by decide +kernel
theorem dX9_nets_2 : decode cX9_nets 2 = .ok (.iconst 0, 1) := by decide +kernel
theorem dX9_nets_3 : decode cX9_nets 3 = .ok (.istore_n 2, 1) := by decide +kernel
theorem dX9_nets_4 : decode cX9_nets 4 = .ok (.iload_n 2, 1) := by decide +kernel
theorem dX9_nets_5 : decode cX9_nets 5 = .ok (.aload_n 0, 1) := by decide +kernel
theorem dX9_nets_6 : decode cX9_nets 6 = .ok (.getfield 7, 3) := by decide +kernel
theorem dX9_nets_9 : decode cX9_nets 9 = .ok (.iconst 0, 1) := by decide +kernel
theorem dX9_nets_10 : decode cX9_nets 10 = .ok (.iaload, 1) := by decide +kernel
theorem dX9_nets_11 : decode cX9_nets 11 = .ok (.if_icmp .ge 27, 3) := by decide +kernel
theorem dX9_nets_14 : decode cX9_nets 14 = .ok (.iload_n 1, 1) := by decide +kernel
theorem dX9_nets_15 : decode cX9_nets 15 = .ok (.aload_n 0, 1) := by decide +kernel
theorem dX9_nets_16 : decode cX9_nets 16 = .ok (.getfield 22, 3) := by decide +kernel
theorem dX9_nets_19 : decode cX9_nets 19 = .ok (.iload_n 2, 1) := by decide +kernel
theorem dX9_nets_20 : decode cX9_nets 20 = .ok (.iaload, 1) := by decide +kernel
theorem dX9_nets_21 : decode cX9_nets 21 = .ok (.iload_n 2, 1) := by decide +kernel
theorem dX9_nets_22 : decode cX9_nets 22 = .ok (.if_icmp .ne 7, 3) := by decide +kernel
theorem dX9_nets_25 : decode cX9_nets 25 = .ok (.iconst 1, 1) := by decide +kernel
theorem dX9_nets_26 : decode cX9_nets 26 = .ok (.goto 4, 3) := by decide +kernel
theorem dX9_nets_29 : decode cX9_nets 29 = .ok (.iconst 0, 1) := by decide +kernel
theorem dX9_nets_30 : decode cX9_nets 30 = .ok (.iadd, 1) := by decide +kernel
theorem dX9_nets_31 : decode cX9_nets 31 = .ok (.istore_n 1, 1) := by decide +kernel
theorem dX9_nets_32 : decode cX9_nets 32 = .ok (.iinc 2 1, 3) := by decide +kernel
theorem dX9_nets_35 : decode cX9_nets 35 = .ok (.goto (-31), 3) := by decide +kernel
theorem dX9_nets_38 : decode cX9_nets 38 = .ok (.iload_n 1, 1) := by decide +kernel
theorem dX9_nets_39 : decode cX9_nets 39 = .ok (.ireturn, 1) := by decide +kernel
def D_X9_nets : Md := (yX9_nets, cX9_nets, 3, (some .int), wsX9_nets, RX9, { frames := 0, cells := 0, slots := 0, locals := 0 })
theorem nm_X9_nets : nmD D_X9_nets 0 := ⟨rfl, by decide +kernel, by decide +kernel, by decide +kernel⟩
theorem hi_X9_nets_X9 : ∀ w ∈ u_ws RX9 TX9 25, w ∈ wsX9_nets := by decide +kernel
theorem hl_X9_nets_7 : Cond.fieldLink RX9 7 "LevelLoopsModel" "s" "[I" ∈ wsX9_nets := by decide +kernel
theorem hl_X9_nets_22 : Cond.fieldLink RX9 22 "LevelLoopsModel" "net" "[I" ∈ wsX9_nets := by decide +kernel
def wp_X9_nets_B4 (x1 : Int32) (x2 : Int32) (w : Wd) (Q : Int32 → Prop) (K4 : Int32 → Int32 → Prop) : Prop :=
  (((wi w 0 33 0) ≤ x2 → Q x1) ∧ (¬ (wi w 0 33 0) ≤ x2 → vp_in x2 10 ∧ ((¬ (wi w 0 37 x2.toNatClampNeg) = x2 → K4 (x1 + (0 : Int32)) (x2 + 1)) ∧ ((wi w 0 37 x2.toNatClampNeg) = x2 → K4 (x1 + (1 : Int32)) (x2 + 1)))))
def wp_X9_nets_L4 (x1 : Int32) (x2 : Int32) (w : Wd) (Q : Int32 → Prop) : Prop :=
  ∃ (I : Int32 → Int32 → Prop) (μ : Int32 → Int32 → Nat), I x1 x2 ∧ ∀ (x1 : Int32) (x2 : Int32), I x1 x2 → wp_X9_nets_B4 x1 x2 w Q (fun x1' x2' => I x1' x2' ∧ μ x1' x2' < μ x1 x2)
def wp_X9_nets (w : Wd) (Q : Int32 → Prop) : Prop :=
  wp_X9_nets_L4 (0 : Int32) (0 : Int32) w Q
theorem ok_X9_nets_B4 {G : Gt} {M : Mx} {Qf : State → Prop} {x1 : Int32} {x2 : Int32} {w : Wd} {Q : Int32 → Prop} {K4 : Int32 → Int32 → Prop} (hC : cx G D_X9_nets M) (he : en G M (qip w Q) Qf) (h : wp_X9_nets_B4 x1 x2 w Q K4) (hK4 : ∀ (x1 : Int32) (x2 : Int32), K4 x1 x2 → jq G D_X9_nets M Qf 4 [(0, .ref (aD G 0 32)), (1, .int x1), (2, .int x2)] [] w) : jq G D_X9_nets M Qf 4 [(0, .ref (aD G 0 32)), (1, .int x1), (2, .int x2)] [] w := by
  unfold wp_X9_nets_B4 at h
  refine jq_iload_n (k0 := 2) dX9_nets_4 hC rfl rfl ?_
  refine jq_aload_n (k0 := 0) dX9_nets_5 hC rfl rfl ?_
  refine jq_get (k0 := 1) (n := 0) (o := 32) dX9_nets_6 hC (cl_0 (by decide)) rfl rfl hi_X9_nets_X9 (by decide) hl_X9_nets_7 rfl rfl ?_
  refine jq_iconst (v := (0 : Int32)) dX9_nets_9 hC (by decide) ?_
  refine jq_iald (n := 0) (o := 33) (j := 0) dX9_nets_10 hC (cl_0 (by decide)) rfl (vin (by decide)) (by decide) ?_
  refine jq_icmp_ge (tgt := 38) dX9_nets_11 hC (by decide) (fun c11 => ?_) (fun c11 => ?_)
  · have h := h.1 c11
    refine jq_iload_n (k0 := 1) dX9_nets_38 hC rfl rfl ?_
    exact jq_iret dX9_nets_39 hC he rfl ⟨_, rfl, rfl, h⟩
  · have h := h.2 c11
    refine jq_iload_n (k0 := 1) dX9_nets_14 hC rfl rfl ?_
    refine jq_aload_n (k0 := 0) dX9_nets_15 hC rfl rfl ?_
    refine jq_get (k0 := 7) (n := 0) (o := 32) dX9_nets_16 hC (cl_0 (by decide)) rfl rfl hi_X9_nets_X9 (by decide) hl_X9_nets_22 rfl rfl ?_
    refine jq_iload_n (k0 := 2) dX9_nets_19 hC rfl rfl ?_
    obtain ⟨b20, h⟩ := h
    refine jq_iald (n := 0) (o := 37) (j := x2.toNatClampNeg) dX9_nets_20 hC (cl_0 (by decide)) rfl b20 rfl ?_
    refine jq_iload_n (k0 := 2) dX9_nets_21 hC rfl rfl ?_
    refine jq_icmp_ne (tgt := 29) dX9_nets_22 hC (by decide) (fun c22 => ?_) (fun c22 => ?_)
    · have h := h.1 c22
      refine jq_iconst (v := (0 : Int32)) dX9_nets_29 hC (by decide) ?_
      refine jq_iadd dX9_nets_30 hC ?_
      refine jq_istore_n (L' := [(1, .int (x1 + (0 : Int32))), (0, .ref (aD G 0 32)), (2, .int x2)]) dX9_nets_31 hC rfl (by decide) rfl ?_
      refine jq_iinc (k0 := 2) (v := (x2 + 1)) (L' := [(2, .int (x2 + 1)), (1, .int (x1 + (0 : Int32))), (0, .ref (aD G 0 32))]) dX9_nets_32 hC rfl rfl (by decide) rfl ?_
      refine jq_goto (tgt := 4) dX9_nets_35 hC (by decide) ?_
      exact jq_less (L' := [(0, .ref (aD G 0 32)), (1, .int (x1 + (0 : Int32))), (2, .int (x2 + 1))]) [2, 1, 0] rfl (hK4 _ _ h)
    · have h := h.2 c22
      refine jq_iconst (v := (1 : Int32)) dX9_nets_25 hC (by decide) ?_
      refine jq_goto (tgt := 30) dX9_nets_26 hC (by decide) ?_
      refine jq_iadd dX9_nets_30 hC ?_
      refine jq_istore_n (L' := [(1, .int (x1 + (1 : Int32))), (0, .ref (aD G 0 32)), (2, .int x2)]) dX9_nets_31 hC rfl (by decide) rfl ?_
      refine jq_iinc (k0 := 2) (v := (x2 + 1)) (L' := [(2, .int (x2 + 1)), (1, .int (x1 + (1 : Int32))), (0, .ref (aD G 0 32))]) dX9_nets_32 hC rfl rfl (by decide) rfl ?_
      refine jq_goto (tgt := 4) dX9_nets_35 hC (by decide) ?_
      exact jq_less (L' := [(0, .ref (aD G 0 32)), (1, .int (x1 + (1 : Int32))), (2, .int (x2 + 1))]) [2, 1, 0] rfl (hK4 _ _ h)
theorem ok_X9_nets_L4 {G : Gt} {M : Mx} {Qf : State → Prop} {x1 : Int32} {x2 : Int32} {w : Wd} {Q : Int32 → Prop} (hC : cx G D_X9_nets M) (he : en G M (qip w Q) Qf) (h : wp_X9_nets_L4 x1 x2 w Q) : jq G D_X9_nets M Qf 4 [(0, .ref (aD G 0 32)), (1, .int x1), (2, .int x2)] [] w := by
  unfold wp_X9_nets_L4 at h
  obtain ⟨I, μ, h0, hs⟩ := h
  exact lp_ind (σ := Int32 × Int32) (P := fun s => jq G D_X9_nets M Qf 4 [(0, .ref (aD G 0 32)), (1, .int s.1), (2, .int s.2)] [] w) (fun s => I s.1 s.2) (fun s => μ s.1 s.2) (fun s h1 ih => ok_X9_nets_B4 hC he (hs s.1 s.2 h1) (fun x1' x2' h => ih (x1', x2') h.1 h.2)) (x1, x2) h0
theorem ok_X9_nets {G : Gt} {M : Mx} {Qf : State → Prop} {w : Wd} {Q : Int32 → Prop} (hC : cx G D_X9_nets M) (he : en G M (qip w Q) Qf) (h : wp_X9_nets w Q) : jq G D_X9_nets M Qf 0 [(0, .ref (aD G 0 32))] [] w := by
  unfold wp_X9_nets at h
  refine jq_iconst (v := (0 : Int32)) dX9_nets_0 hC (by decide) ?_
  refine jq_istore_n (L' := [(1, .int (0 : Int32)), (0, .ref (aD G 0 32))]) dX9_nets_1 hC rfl (by decide) rfl ?_
  refine jq_iconst (v := (0 : Int32)) dX9_nets_2 hC (by decide) ?_
  refine jq_istore_n (L' := [(2, .int (0 : Int32)), (1, .int (0 : Int32)), (0, .ref (aD G 0 32))]) dX9_nets_3 hC rfl (by decide) rfl ?_
  refine jq_less (L' := [(0, .ref (aD G 0 32)), (1, .int (0 : Int32)), (2, .int (0 : Int32))]) [2, 1, 0] rfl ?_
  exact ok_X9_nets_L4 hC he h
theorem mt_X9_nets {G : Gt} {w : Wd} {Q : Int32 → Prop} (h : wp_X9_nets w Q) : Mt G D_X9_nets [.ref (aD G 0 32)] w (qip w Q) := Mt_of (by decide +kernel) rfl rfl (Nat.le_of_ble_eq_true rfl) (fun M Qf hC he => ok_X9_nets hC he h)
/-! X9.marksThat(I)I -/
theorem dX9_marksThat_0 : decode cX9_marksThat 0 = .ok (.iconst 0, 1) := by decide +kernel
theorem dX9_marksThat_1 : decode cX9_marksThat 1 = .ok (.istore_n 2, 1) := by decide +kernel
theorem dX9_marksThat_2 : decode cX9_marksThat 2 = .ok (.iconst 0, 1) := by decide +kernel
theorem dX9_marksThat_3 : decode cX9_marksThat 3 = .ok (.istore_n 3, 1) := by decide +kernel
theorem dX9_marksThat_4 : decode cX9_marksThat 4 = .ok (.iload_n 3, 1) := by decide +kernel
theorem dX9_marksThat_5 : decode cX9_marksThat 5 = .ok (.aload_n 0, 1) := by decide +kernel
theorem dX9_marksThat_6 : decode cX9_marksThat 6 = .ok (.getfield 7, 3) := by decide +kernel
theorem dX9_marksThat_9 : decode cX9_marksThat 9 = .ok (.iconst 0, 1) := by decide +kernel
theorem dX9_marksThat_10 : decode cX9_marksThat 10 = .ok (.iaload, 1) := by decide +kernel
theorem dX9_marksThat_11 : decode cX9_marksThat 11 = .ok (.if_icmp .ge 48, 3) := by decide +kernel
theorem dX9_marksThat_14 : decode cX9_marksThat 14 = .ok (.iload_n 2, 1) := by decide +kernel
theorem dX9_marksThat_15 : decode cX9_marksThat 15 = .ok (.iload_n 1, 1) := by decide +kernel
theorem dX9_marksThat_16 : decode cX9_marksThat 16 = .ok (.iconst 5, 1) := by decide +kernel
theorem dX9_marksThat_17 : decode cX9_marksThat 17 = .ok (.if_icmp .ne 19, 3) := by decide +kernel
theorem dX9_marksThat_20 : decode cX9_marksThat 20 = .ok (.aload_n 0, 1) := by decide +kernel
theorem dX9_marksThat_21 : decode cX9_marksThat 21 = .ok (.iload_n 3, 1) := by decide +kernel
theorem dX9_marksThat_22 : decode cX9_marksThat 22 = .ok (.invokevirtual 219, 3) := by decide +kernel
theorem dX9_marksThat_25 : decode cX9_marksThat 25 = .ok (.ifCond .le 7, 3) := by decide +kernel
theorem dX9_marksThat_28 : decode cX9_marksThat 28 = .ok (.iconst 1, 1) := by decide +kernel
theorem dX9_marksThat_29 : decode cX9_marksThat 29 = .ok (.goto 22, 3) := by decide +kernel
theorem dX9_marksThat_32 : decode cX9_marksThat 32 = .ok (.iconst 0, 1) := by decide +kernel
theorem dX9_marksThat_33 : decode cX9_marksThat 33 = .ok (.goto 18, 3) := by decide +kernel
theorem dX9_marksThat_36 : decode cX9_marksThat 36 = .ok (.aload_n 0, 1) := by decide +kernel
theorem dX9_marksThat_37 : decode cX9_marksThat 37 = .ok (.getfield 59, 3) := by decide +kernel
theorem dX9_marksThat_40 : decode cX9_marksThat 40 = .ok (.iload_n 3, 1) := by decide +kernel
theorem dX9_marksThat_41 : decode cX9_marksThat 41 = .ok (.iaload, 1) := by decide +kernel
theorem dX9_marksThat_42 : decode cX9_marksThat 42 = .ok (.iconst (-1), 1) := by decide +kernel
theorem dX9_marksThat_43 : decode cX9_marksThat 43 = .ok (.if_icmp .eq 7, 3) := by decide +kernel
theorem dX9_marksThat_46 : decode cX9_marksThat 46 = .ok (.iconst 1, 1) := by decide +kernel
theorem dX9_marksThat_47 : decode cX9_marksThat 47 = .ok (.goto 4, 3) := by decide +kernel
theorem dX9_marksThat_50 : decode cX9_marksThat 50 = .ok (.iconst 0, 1) := by decide +kernel
theorem dX9_marksThat_51 : decode cX9_marksThat 51 = .ok (.iadd, 1) := by decide +kernel
theorem dX9_marksThat_52 : decode cX9_marksThat 52 = .ok (.istore_n 2, 1) := by decide +kernel
theorem dX9_marksThat_53 : decode cX9_marksThat 53 = .ok (.iinc 3 1, 3) := by decide +kernel
theorem dX9_marksThat_56 : decode cX9_marksThat 56 = .ok (.goto (-52), 3) := by decide +kernel
theorem dX9_marksThat_59 : decode cX9_marksThat 59 = .ok (.iload_n 2, 1) := by decide +kernel
theorem dX9_marksThat_60 : decode cX9_marksThat 60 = .ok (.ireturn, 1) := by decide +kernel
set_option maxRecDepth 20000 in
theorem ggX9_marksThat_X9_movedOf : GoodIn wsX9_marksThat wsX9_movedOf := goodIn_r _ [7, 8, 9, 1, 10, 11, 12, 6, 13, 14, 15, 16, 17, 18, 19, 20, 21, 22, 23, 24, 25, 26, 27, 28, 29, 30, 31, 32, 33, 34, 35, 36, 37, 38, 39, 40, 41] (by decide +kernel) (by decide +kernel)
set_option maxRecDepth 20000 in
theorem gX9_marksThat_X9_movedOf : GoodIn wsX9_marksThat (wsV RX9 219 RX9 yX9_movedOf wsX9_movedOf) := goodIn_app (goodIn_of _ (by decide +kernel)) ggX9_marksThat_X9_movedOf
def D_X9_marksThat : Md := (yX9_marksThat, cX9_marksThat, 4, (some .int), wsX9_marksThat, RX9, { frames := 2, cells := 0, slots := 0, locals := 42 })
theorem nm_X9_marksThat : nmD D_X9_marksThat 1 := ⟨rfl, by decide +kernel, by decide +kernel, by decide +kernel⟩
theorem hi_X9_marksThat_X9 : ∀ w ∈ u_ws RX9 TX9 25, w ∈ wsX9_marksThat := by decide +kernel
theorem hl_X9_marksThat_7 : Cond.fieldLink RX9 7 "LevelLoopsModel" "s" "[I" ∈ wsX9_marksThat := by decide +kernel
theorem hl_X9_marksThat_59 : Cond.fieldLink RX9 59 "LevelLoopsModel" "base" "[I" ∈ wsX9_marksThat := by decide +kernel
def wp_X9_marksThat_B4 (x1 : Int32) (x2 : Int32) (x3 : Int32) (w : Wd) (Q : Int32 → Prop) (K4 : Int32 → Int32 → Prop) : Prop :=
  (((wi w 0 33 0) ≤ x3 → Q x2) ∧ (¬ (wi w 0 33 0) ≤ x3 → ((¬ x1 = (5 : Int32) → vp_in x3 10 ∧ (((wi w 0 49 x3.toNatClampNeg) = (-1 : Int32) → K4 (x2 + (0 : Int32)) (x3 + 1)) ∧ (¬ (wi w 0 49 x3.toNatClampNeg) = (-1 : Int32) → K4 (x2 + (1 : Int32)) (x3 + 1)))) ∧ (x1 = (5 : Int32) → wp_X9_movedOf x3 w (fun r22 => ((r22 ≤ 0 → K4 (x2 + (0 : Int32)) (x3 + 1)) ∧ (¬ r22 ≤ 0 → K4 (x2 + (1 : Int32)) (x3 + 1))))))))
def wp_X9_marksThat_L4 (x1 : Int32) (x2 : Int32) (x3 : Int32) (w : Wd) (Q : Int32 → Prop) : Prop :=
  ∃ (I : Int32 → Int32 → Prop) (μ : Int32 → Int32 → Nat), I x2 x3 ∧ ∀ (x2 : Int32) (x3 : Int32), I x2 x3 → wp_X9_marksThat_B4 x1 x2 x3 w Q (fun x2' x3' => I x2' x3' ∧ μ x2' x3' < μ x2 x3)
def wp_X9_marksThat (x1 : Int32) (w : Wd) (Q : Int32 → Prop) : Prop :=
  wp_X9_marksThat_L4 x1 (0 : Int32) (0 : Int32) w Q
theorem ok_X9_marksThat_B4 {G : Gt} {M : Mx} {Qf : State → Prop} {x1 : Int32} {x2 : Int32} {x3 : Int32} {w : Wd} {Q : Int32 → Prop} {K4 : Int32 → Int32 → Prop} (hC : cx G D_X9_marksThat M) (he : en G M (qip w Q) Qf) (h : wp_X9_marksThat_B4 x1 x2 x3 w Q K4) (hK4 : ∀ (x2 : Int32) (x3 : Int32), K4 x2 x3 → jq G D_X9_marksThat M Qf 4 [(0, .ref (aD G 0 32)), (1, .int x1), (2, .int x2), (3, .int x3)] [] w) : jq G D_X9_marksThat M Qf 4 [(0, .ref (aD G 0 32)), (1, .int x1), (2, .int x2), (3, .int x3)] [] w := by
  unfold wp_X9_marksThat_B4 at h
  refine jq_iload_n (k0 := 3) dX9_marksThat_4 hC rfl rfl ?_
  refine jq_aload_n (k0 := 0) dX9_marksThat_5 hC rfl rfl ?_
  refine jq_get (k0 := 1) (n := 0) (o := 32) dX9_marksThat_6 hC (cl_0 (by decide)) rfl rfl hi_X9_marksThat_X9 (by decide) hl_X9_marksThat_7 rfl rfl ?_
  refine jq_iconst (v := (0 : Int32)) dX9_marksThat_9 hC (by decide) ?_
  refine jq_iald (n := 0) (o := 33) (j := 0) dX9_marksThat_10 hC (cl_0 (by decide)) rfl (vin (by decide)) (by decide) ?_
  refine jq_icmp_ge (tgt := 59) dX9_marksThat_11 hC (by decide) (fun c11 => ?_) (fun c11 => ?_)
  · have h := h.1 c11
    refine jq_iload_n (k0 := 2) dX9_marksThat_59 hC rfl rfl ?_
    exact jq_iret dX9_marksThat_60 hC he rfl ⟨_, rfl, rfl, h⟩
  · have h := h.2 c11
    refine jq_iload_n (k0 := 2) dX9_marksThat_14 hC rfl rfl ?_
    refine jq_iload_n (k0 := 1) dX9_marksThat_15 hC rfl rfl ?_
    refine jq_iconst (v := (5 : Int32)) dX9_marksThat_16 hC (by decide) ?_
    refine jq_icmp_ne (tgt := 36) dX9_marksThat_17 hC (by decide) (fun c17 => ?_) (fun c17 => ?_)
    · have h := h.1 c17
      refine jq_aload_n (k0 := 0) dX9_marksThat_36 hC rfl rfl ?_
      refine jq_get (k0 := 20) (n := 0) (o := 32) dX9_marksThat_37 hC (cl_0 (by decide)) rfl rfl hi_X9_marksThat_X9 (by decide) hl_X9_marksThat_59 rfl rfl ?_
      refine jq_iload_n (k0 := 3) dX9_marksThat_40 hC rfl rfl ?_
      obtain ⟨b41, h⟩ := h
      refine jq_iald (n := 0) (o := 49) (j := x3.toNatClampNeg) dX9_marksThat_41 hC (cl_0 (by decide)) rfl b41 rfl ?_
      refine jq_iconst (v := (-1 : Int32)) dX9_marksThat_42 hC (by decide) ?_
      refine jq_icmp_eq (tgt := 50) dX9_marksThat_43 hC (by decide) (fun c43 => ?_) (fun c43 => ?_)
      · have h := h.1 c43
        refine jq_iconst (v := (0 : Int32)) dX9_marksThat_50 hC (by decide) ?_
        refine jq_iadd dX9_marksThat_51 hC ?_
        refine jq_istore_n (L' := [(2, .int (x2 + (0 : Int32))), (0, .ref (aD G 0 32)), (1, .int x1), (3, .int x3)]) dX9_marksThat_52 hC rfl (by decide) rfl ?_
        refine jq_iinc (k0 := 3) (v := (x3 + 1)) (L' := [(3, .int (x3 + 1)), (2, .int (x2 + (0 : Int32))), (0, .ref (aD G 0 32)), (1, .int x1)]) dX9_marksThat_53 hC rfl rfl (by decide) rfl ?_
        refine jq_goto (tgt := 4) dX9_marksThat_56 hC (by decide) ?_
        exact jq_less (L' := [(0, .ref (aD G 0 32)), (1, .int x1), (2, .int (x2 + (0 : Int32))), (3, .int (x3 + 1))]) [2, 3, 1, 0] rfl (hK4 _ _ h)
      · have h := h.2 c43
        refine jq_iconst (v := (1 : Int32)) dX9_marksThat_46 hC (by decide) ?_
        refine jq_goto (tgt := 51) dX9_marksThat_47 hC (by decide) ?_
        refine jq_iadd dX9_marksThat_51 hC ?_
        refine jq_istore_n (L' := [(2, .int (x2 + (1 : Int32))), (0, .ref (aD G 0 32)), (1, .int x1), (3, .int x3)]) dX9_marksThat_52 hC rfl (by decide) rfl ?_
        refine jq_iinc (k0 := 3) (v := (x3 + 1)) (L' := [(3, .int (x3 + 1)), (2, .int (x2 + (1 : Int32))), (0, .ref (aD G 0 32)), (1, .int x1)]) dX9_marksThat_53 hC rfl rfl (by decide) rfl ?_
        refine jq_goto (tgt := 4) dX9_marksThat_56 hC (by decide) ?_
        exact jq_less (L' := [(0, .ref (aD G 0 32)), (1, .int x1), (2, .int (x2 + (1 : Int32))), (3, .int (x3 + 1))]) [2, 3, 1, 0] rfl (hK4 _ _ h)
    · have h := h.2 c17
      refine jq_aload_n (k0 := 0) dX9_marksThat_20 hC rfl rfl ?_
      refine jq_iload_n (k0 := 3) dX9_marksThat_21 hC rfl rfl ?_
      refine jq_callV (As := [.int x3]) (rest := [.int x2]) (n := 0) (o := 32) (D' := D_X9_movedOf) dX9_marksThat_22 hC (cl_0 (by decide)) rfl rfl rfl (mt_X9_movedOf h) gX9_marksThat_X9_movedOf rfl ⟨rfl, rfl, Nat.le_of_ble_eq_true rfl, Nat.le_of_ble_eq_true rfl⟩ nm_X9_movedOf rfl (Nat.le_of_ble_eq_true rfl) (kIp fun r22 h => ?_)
      refine jq_if_le (tgt := 32) dX9_marksThat_25 hC (by decide) (fun c25 => ?_) (fun c25 => ?_)
      · have h := h.1 c25
        refine jq_iconst (v := (0 : Int32)) dX9_marksThat_32 hC (by decide) ?_
        refine jq_goto (tgt := 51) dX9_marksThat_33 hC (by decide) ?_
        refine jq_iadd dX9_marksThat_51 hC ?_
        refine jq_istore_n (L' := [(2, .int (x2 + (0 : Int32))), (0, .ref (aD G 0 32)), (1, .int x1), (3, .int x3)]) dX9_marksThat_52 hC rfl (by decide) rfl ?_
        refine jq_iinc (k0 := 3) (v := (x3 + 1)) (L' := [(3, .int (x3 + 1)), (2, .int (x2 + (0 : Int32))), (0, .ref (aD G 0 32)), (1, .int x1)]) dX9_marksThat_53 hC rfl rfl (by decide) rfl ?_
        refine jq_goto (tgt := 4) dX9_marksThat_56 hC (by decide) ?_
        exact jq_less (L' := [(0, .ref (aD G 0 32)), (1, .int x1), (2, .int (x2 + (0 : Int32))), (3, .int (x3 + 1))]) [2, 3, 1, 0] rfl (hK4 _ _ h)
      · have h := h.2 c25
        refine jq_iconst (v := (1 : Int32)) dX9_marksThat_28 hC (by decide) ?_
        refine jq_goto (tgt := 51) dX9_marksThat_29 hC (by decide) ?_
        refine jq_iadd dX9_marksThat_51 hC ?_
        refine jq_istore_n (L' := [(2, .int (x2 + (1 : Int32))), (0, .ref (aD G 0 32)), (1, .int x1), (3, .int x3)]) dX9_marksThat_52 hC rfl (by decide) rfl ?_
        refine jq_iinc (k0 := 3) (v := (x3 + 1)) (L' := [(3, .int (x3 + 1)), (2, .int (x2 + (1 : Int32))), (0, .ref (aD G 0 32)), (1, .int x1)]) dX9_marksThat_53 hC rfl rfl (by decide) rfl ?_
        refine jq_goto (tgt := 4) dX9_marksThat_56 hC (by decide) ?_
        exact jq_less (L' := [(0, .ref (aD G 0 32)), (1, .int x1), (2, .int (x2 + (1 : Int32))), (3, .int (x3 + 1))]) [2, 3, 1, 0] rfl (hK4 _ _ h)
theorem ok_X9_marksThat_L4 {G : Gt} {M : Mx} {Qf : State → Prop} {x1 : Int32} {x2 : Int32} {x3 : Int32} {w : Wd} {Q : Int32 → Prop} (hC : cx G D_X9_marksThat M) (he : en G M (qip w Q) Qf) (h : wp_X9_marksThat_L4 x1 x2 x3 w Q) : jq G D_X9_marksThat M Qf 4 [(0, .ref (aD G 0 32)), (1, .int x1), (2, .int x2), (3, .int x3)] [] w := by
  unfold wp_X9_marksThat_L4 at h
  obtain ⟨I, μ, h0, hs⟩ := h
  exact lp_ind (σ := Int32 × Int32) (P := fun s => jq G D_X9_marksThat M Qf 4 [(0, .ref (aD G 0 32)), (1, .int x1), (2, .int s.1), (3, .int s.2)] [] w) (fun s => I s.1 s.2) (fun s => μ s.1 s.2) (fun s h1 ih => ok_X9_marksThat_B4 hC he (hs s.1 s.2 h1) (fun x2' x3' h => ih (x2', x3') h.1 h.2)) (x2, x3) h0
theorem ok_X9_marksThat {G : Gt} {M : Mx} {Qf : State → Prop} {x1 : Int32} {w : Wd} {Q : Int32 → Prop} (hC : cx G D_X9_marksThat M) (he : en G M (qip w Q) Qf) (h : wp_X9_marksThat x1 w Q) : jq G D_X9_marksThat M Qf 0 [(0, .ref (aD G 0 32)), (1, .int x1)] [] w := by
  unfold wp_X9_marksThat at h
  refine jq_iconst (v := (0 : Int32)) dX9_marksThat_0 hC (by decide) ?_
  refine jq_istore_n (L' := [(2, .int (0 : Int32)), (0, .ref (aD G 0 32)), (1, .int x1)]) dX9_marksThat_1 hC rfl (by decide) rfl ?_
  refine jq_iconst (v := (0 : Int32)) dX9_marksThat_2 hC (by decide) ?_
  refine jq_istore_n (L' := [(3, .int (0 : Int32)), (2, .int (0 : Int32)), (0, .ref (aD G 0 32)), (1, .int x1)]) dX9_marksThat_3 hC rfl (by decide) rfl ?_
  refine jq_less (L' := [(0, .ref (aD G 0 32)), (1, .int x1), (2, .int (0 : Int32)), (3, .int (0 : Int32))]) [2, 3, 1, 0] rfl ?_
  exact ok_X9_marksThat_L4 hC he h
theorem mt_X9_marksThat {G : Gt} {x1 : Int32} {w : Wd} {Q : Int32 → Prop} (h : wp_X9_marksThat x1 w Q) : Mt G D_X9_marksThat [.ref (aD G 0 32), .int x1] w (qip w Q) := Mt_of (by decide +kernel) rfl rfl (Nat.le_of_ble_eq_true rfl) (fun M Qf hC he => ok_X9_marksThat hC he h)
/-! X9.sumOfLegs(I)I -/
theorem dX9_sumOfLegs_0 : decode cX9_sumOfLegs 0 = .ok (.iconst 0, 1) := by decide +kernel
theorem dX9_sumOfLegs_1 : decode cX9_sumOfLegs 1 = .ok (.istore_n 2, 1) := by decide +kernel
theorem dX9_sumOfLegs_2 : decode cX9_sumOfLegs 2 = .ok (.iconst 0, 1) := by decide +kernel
theorem dX9_sumOfLegs_3 : decode cX9_sumOfLegs 3 = .ok (.istore_n 3, 1) := by decide +kernel
theorem dX9_sumOfLegs_4 : decode cX9_sumOfLegs 4 = .ok (.iload_n 3, 1) := by decide +kernel
theorem dX9_sumOfLegs_5 : decode cX9_sumOfLegs 5 = .ok (.aload_n 0, 1) := by decide +kernel
theorem dX9_sumOfLegs_6 : decode cX9_sumOfLegs 6 = .ok (.getfield 7, 3) := by decide +kernel
theorem dX9_sumOfLegs_9 : decode cX9_sumOfLegs 9 = .ok (.bipush 11, 2) := by decide +kernel
theorem dX9_sumOfLegs_11 : decode cX9_sumOfLegs 11 = .ok (.iaload, 1) := by decide +kernel
theorem dX9_sumOfLegs_12 : decode cX9_sumOfLegs 12 = .ok (.if_icmp .ge 40, 3) := by decide +kernel
theorem dX9_sumOfLegs_15 : decode cX9_sumOfLegs 15 = .ok (.iload_n 2, 1) := by decide +kernel
theorem dX9_sumOfLegs_16 : decode cX9_sumOfLegs 16 = .ok (.iload_n 1, 1) := by decide +kernel
theorem dX9_sumOfLegs_17 : decode cX9_sumOfLegs 17 = .ok (.bipush 7, 2) := by decide +kernel
theorem dX9_sumOfLegs_19 : decode cX9_sumOfLegs 19 = .ok (.if_icmp .ne 15, 3) := by decide +kernel
theorem dX9_sumOfLegs_22 : decode cX9_sumOfLegs 22 = .ok (.aload_n 0, 1) := by decide +kernel
theorem dX9_sumOfLegs_23 : decode cX9_sumOfLegs 23 = .ok (.getfield 47, 3) := by decide +kernel
theorem dX9_sumOfLegs_26 : decode cX9_sumOfLegs 26 = .ok (.iload_n 3, 1) := by decide +kernel
theorem dX9_sumOfLegs_27 : decode cX9_sumOfLegs 27 = .ok (.iaload, 1) := by decide +kernel
theorem dX9_sumOfLegs_28 : decode cX9_sumOfLegs 28 = .ok (.invokestatic 107, 3) := by decide +kernel
theorem dX9_sumOfLegs_31 : decode cX9_sumOfLegs 31 = .ok (.goto 13, 3) := by decide +kernel
theorem dX9_sumOfLegs_34 : decode cX9_sumOfLegs 34 = .ok (.aload_n 0, 1) := by decide +kernel
theorem dX9_sumOfLegs_35 : decode cX9_sumOfLegs 35 = .ok (.getfield 7, 3) := by decide +kernel
theorem dX9_sumOfLegs_38 : decode cX9_sumOfLegs 38 = .ok (.iload_n 3, 1) := by decide +kernel
theorem dX9_sumOfLegs_39 : decode cX9_sumOfLegs 39 = .ok (.iconst 2, 1) := by decide +kernel
theorem dX9_sumOfLegs_40 : decode cX9_sumOfLegs 40 = .ok (.invokestatic 76, 3) := by decide +kernel
theorem dX9_sumOfLegs_43 : decode cX9_sumOfLegs 43 = .ok (.iaload, 1) := by decide +kernel
theorem dX9_sumOfLegs_44 : decode cX9_sumOfLegs 44 = .ok (.iadd, 1) := by decide +kernel
theorem dX9_sumOfLegs_45 : decode cX9_sumOfLegs 45 = .ok (.istore_n 2, 1) := by decide +kernel
theorem dX9_sumOfLegs_46 : decode cX9_sumOfLegs 46 = .ok (.iinc 3 1, 3) := by decide +kernel
theorem dX9_sumOfLegs_49 : decode cX9_sumOfLegs 49 = .ok (.goto (-45), 3) := by decide +kernel
theorem dX9_sumOfLegs_52 : decode cX9_sumOfLegs 52 = .ok (.iload_n 2, 1) := by decide +kernel
theorem dX9_sumOfLegs_53 : decode cX9_sumOfLegs 53 = .ok (.ireturn, 1) := by decide +kernel
set_option maxRecDepth 20000 in
theorem ggX9_sumOfLegs_X9_of : GoodIn wsX9_sumOfLegs wsX9_of := goodIn_r _ [9] (by decide +kernel) (by decide +kernel)
set_option maxRecDepth 20000 in
theorem gX9_sumOfLegs_X9_of : GoodIn wsX9_sumOfLegs (va_wsS RX9 76 yX9_of wsX9_of) := goodIn_app (goodIn_of _ (by decide +kernel)) ggX9_sumOfLegs_X9_of
set_option maxRecDepth 20000 in
theorem ggX9_sumOfLegs_X9_size : GoodIn wsX9_sumOfLegs wsX9_size := goodIn_r _ [6] (by decide +kernel) (by decide +kernel)
set_option maxRecDepth 20000 in
theorem gX9_sumOfLegs_X9_size : GoodIn wsX9_sumOfLegs (va_wsS RX9 107 yX9_size wsX9_size) := goodIn_app (goodIn_of _ (by decide +kernel)) ggX9_sumOfLegs_X9_size
def D_X9_sumOfLegs : Md := (yX9_sumOfLegs, cX9_sumOfLegs, 4, (some .int), wsX9_sumOfLegs, RX9, { frames := 1, cells := 0, slots := 0, locals := 21 })
theorem nm_X9_sumOfLegs : nmD D_X9_sumOfLegs 1 := ⟨rfl, by decide +kernel, by decide +kernel, by decide +kernel⟩
theorem hi_X9_sumOfLegs_X9 : ∀ w ∈ u_ws RX9 TX9 25, w ∈ wsX9_sumOfLegs := by decide +kernel
theorem hl_X9_sumOfLegs_7 : Cond.fieldLink RX9 7 "LevelLoopsModel" "s" "[I" ∈ wsX9_sumOfLegs := by decide +kernel
theorem hl_X9_sumOfLegs_47 : Cond.fieldLink RX9 47 "LevelLoopsModel" "corrections" "[I" ∈ wsX9_sumOfLegs := by decide +kernel
def wp_X9_sumOfLegs_B4 (x1 : Int32) (x2 : Int32) (x3 : Int32) (w : Wd) (Q : Int32 → Prop) (K4 : Int32 → Int32 → Prop) : Prop :=
  (((wi w 0 33 11) ≤ x3 → Q x2) ∧ (¬ (wi w 0 33 11) ≤ x3 → ((¬ x1 = (7 : Int32) → wp_X9_of x3 (2 : Int32) (fun r40 => vp_in r40 95 ∧ K4 (x2 + (wi w 0 33 r40.toNatClampNeg)) (x3 + 1))) ∧ (x1 = (7 : Int32) → vp_in x3 20 ∧ wp_X9_size (wi w 0 45 x3.toNatClampNeg) (fun r28 => K4 (x2 + r28) (x3 + 1))))))
def wp_X9_sumOfLegs_L4 (x1 : Int32) (x2 : Int32) (x3 : Int32) (w : Wd) (Q : Int32 → Prop) : Prop :=
  ∃ (I : Int32 → Int32 → Prop) (μ : Int32 → Int32 → Nat), I x2 x3 ∧ ∀ (x2 : Int32) (x3 : Int32), I x2 x3 → wp_X9_sumOfLegs_B4 x1 x2 x3 w Q (fun x2' x3' => I x2' x3' ∧ μ x2' x3' < μ x2 x3)
def wp_X9_sumOfLegs (x1 : Int32) (w : Wd) (Q : Int32 → Prop) : Prop :=
  wp_X9_sumOfLegs_L4 x1 (0 : Int32) (0 : Int32) w Q
theorem ok_X9_sumOfLegs_B4 {G : Gt} {M : Mx} {Qf : State → Prop} {x1 : Int32} {x2 : Int32} {x3 : Int32} {w : Wd} {Q : Int32 → Prop} {K4 : Int32 → Int32 → Prop} (hC : cx G D_X9_sumOfLegs M) (he : en G M (qip w Q) Qf) (h : wp_X9_sumOfLegs_B4 x1 x2 x3 w Q K4) (hK4 : ∀ (x2 : Int32) (x3 : Int32), K4 x2 x3 → jq G D_X9_sumOfLegs M Qf 4 [(0, .ref (aD G 0 32)), (1, .int x1), (2, .int x2), (3, .int x3)] [] w) : jq G D_X9_sumOfLegs M Qf 4 [(0, .ref (aD G 0 32)), (1, .int x1), (2, .int x2), (3, .int x3)] [] w := by
  unfold wp_X9_sumOfLegs_B4 at h
  refine jq_iload_n (k0 := 3) dX9_sumOfLegs_4 hC rfl rfl ?_
  refine jq_aload_n (k0 := 0) dX9_sumOfLegs_5 hC rfl rfl ?_
  refine jq_get (k0 := 1) (n := 0) (o := 32) dX9_sumOfLegs_6 hC (cl_0 (by decide)) rfl rfl hi_X9_sumOfLegs_X9 (by decide) hl_X9_sumOfLegs_7 rfl rfl ?_
  refine jq_bipush (v := (11 : Int32)) dX9_sumOfLegs_9 hC (by decide) ?_
  refine jq_iald (n := 0) (o := 33) (j := 11) dX9_sumOfLegs_11 hC (cl_0 (by decide)) rfl (vin (by decide)) (by decide) ?_
  refine jq_icmp_ge (tgt := 52) dX9_sumOfLegs_12 hC (by decide) (fun c12 => ?_) (fun c12 => ?_)
  · have h := h.1 c12
    refine jq_iload_n (k0 := 2) dX9_sumOfLegs_52 hC rfl rfl ?_
    exact jq_iret dX9_sumOfLegs_53 hC he rfl ⟨_, rfl, rfl, h⟩
  · have h := h.2 c12
    refine jq_iload_n (k0 := 2) dX9_sumOfLegs_15 hC rfl rfl ?_
    refine jq_iload_n (k0 := 1) dX9_sumOfLegs_16 hC rfl rfl ?_
    refine jq_bipush (v := (7 : Int32)) dX9_sumOfLegs_17 hC (by decide) ?_
    refine jq_icmp_ne (tgt := 34) dX9_sumOfLegs_19 hC (by decide) (fun c19 => ?_) (fun c19 => ?_)
    · have h := h.1 c19
      refine jq_aload_n (k0 := 0) dX9_sumOfLegs_34 hC rfl rfl ?_
      refine jq_get (k0 := 1) (n := 0) (o := 32) dX9_sumOfLegs_35 hC (cl_0 (by decide)) rfl rfl hi_X9_sumOfLegs_X9 (by decide) hl_X9_sumOfLegs_7 rfl rfl ?_
      refine jq_iload_n (k0 := 3) dX9_sumOfLegs_38 hC rfl rfl ?_
      refine jq_iconst (v := (2 : Int32)) dX9_sumOfLegs_39 hC (by decide) ?_
      refine jq_callS (As := [.int x3, .int (2 : Int32)]) (rest := [.ref (aD G 0 33), .int x2]) (D' := D_X9_of) dX9_sumOfLegs_40 hC (mt_X9_of h) gX9_sumOfLegs_X9_of rfl ⟨rfl, rfl, Nat.le_of_ble_eq_true rfl, Nat.le_of_ble_eq_true rfl⟩ nm_X9_of rfl (Nat.le_of_ble_eq_true rfl) (kIp fun r40 h => ?_)
      obtain ⟨b43, h⟩ := h
      refine jq_iald (n := 0) (o := 33) (j := r40.toNatClampNeg) dX9_sumOfLegs_43 hC (cl_0 (by decide)) rfl b43 rfl ?_
      refine jq_iadd dX9_sumOfLegs_44 hC ?_
      refine jq_istore_n (L' := [(2, .int (x2 + (wi w 0 33 r40.toNatClampNeg))), (0, .ref (aD G 0 32)), (1, .int x1), (3, .int x3)]) dX9_sumOfLegs_45 hC rfl (by decide) rfl ?_
      refine jq_iinc (k0 := 3) (v := (x3 + 1)) (L' := [(3, .int (x3 + 1)), (2, .int (x2 + (wi w 0 33 r40.toNatClampNeg))), (0, .ref (aD G 0 32)), (1, .int x1)]) dX9_sumOfLegs_46 hC rfl rfl (by decide) rfl ?_
      refine jq_goto (tgt := 4) dX9_sumOfLegs_49 hC (by decide) ?_
      exact jq_less (L' := [(0, .ref (aD G 0 32)), (1, .int x1), (2, .int (x2 + (wi w 0 33 r40.toNatClampNeg))), (3, .int (x3 + 1))]) [2, 3, 1, 0] rfl (hK4 _ _ h)
    · have h := h.2 c19
      refine jq_aload_n (k0 := 0) dX9_sumOfLegs_22 hC rfl rfl ?_
      refine jq_get (k0 := 16) (n := 0) (o := 32) dX9_sumOfLegs_23 hC (cl_0 (by decide)) rfl rfl hi_X9_sumOfLegs_X9 (by decide) hl_X9_sumOfLegs_47 rfl rfl ?_
      refine jq_iload_n (k0 := 3) dX9_sumOfLegs_26 hC rfl rfl ?_
      obtain ⟨b27, h⟩ := h
      refine jq_iald (n := 0) (o := 45) (j := x3.toNatClampNeg) dX9_sumOfLegs_27 hC (cl_0 (by decide)) rfl b27 rfl ?_
      refine jq_callS (As := [.int (wi w 0 45 x3.toNatClampNeg)]) (rest := [.int x2]) (D' := D_X9_size) dX9_sumOfLegs_28 hC (mt_X9_size h) gX9_sumOfLegs_X9_size rfl ⟨rfl, rfl, Nat.le_of_ble_eq_true rfl, Nat.le_of_ble_eq_true rfl⟩ nm_X9_size rfl (Nat.le_of_ble_eq_true rfl) (kIp fun r28 h => ?_)
      refine jq_goto (tgt := 44) dX9_sumOfLegs_31 hC (by decide) ?_
      refine jq_iadd dX9_sumOfLegs_44 hC ?_
      refine jq_istore_n (L' := [(2, .int (x2 + r28)), (0, .ref (aD G 0 32)), (1, .int x1), (3, .int x3)]) dX9_sumOfLegs_45 hC rfl (by decide) rfl ?_
      refine jq_iinc (k0 := 3) (v := (x3 + 1)) (L' := [(3, .int (x3 + 1)), (2, .int (x2 + r28)), (0, .ref (aD G 0 32)), (1, .int x1)]) dX9_sumOfLegs_46 hC rfl rfl (by decide) rfl ?_
      refine jq_goto (tgt := 4) dX9_sumOfLegs_49 hC (by decide) ?_
      exact jq_less (L' := [(0, .ref (aD G 0 32)), (1, .int x1), (2, .int (x2 + r28)), (3, .int (x3 + 1))]) [2, 3, 1, 0] rfl (hK4 _ _ h)
theorem ok_X9_sumOfLegs_L4 {G : Gt} {M : Mx} {Qf : State → Prop} {x1 : Int32} {x2 : Int32} {x3 : Int32} {w : Wd} {Q : Int32 → Prop} (hC : cx G D_X9_sumOfLegs M) (he : en G M (qip w Q) Qf) (h : wp_X9_sumOfLegs_L4 x1 x2 x3 w Q) : jq G D_X9_sumOfLegs M Qf 4 [(0, .ref (aD G 0 32)), (1, .int x1), (2, .int x2), (3, .int x3)] [] w := by
  unfold wp_X9_sumOfLegs_L4 at h
  obtain ⟨I, μ, h0, hs⟩ := h
  exact lp_ind (σ := Int32 × Int32) (P := fun s => jq G D_X9_sumOfLegs M Qf 4 [(0, .ref (aD G 0 32)), (1, .int x1), (2, .int s.1), (3, .int s.2)] [] w) (fun s => I s.1 s.2) (fun s => μ s.1 s.2) (fun s h1 ih => ok_X9_sumOfLegs_B4 hC he (hs s.1 s.2 h1) (fun x2' x3' h => ih (x2', x3') h.1 h.2)) (x2, x3) h0
theorem ok_X9_sumOfLegs {G : Gt} {M : Mx} {Qf : State → Prop} {x1 : Int32} {w : Wd} {Q : Int32 → Prop} (hC : cx G D_X9_sumOfLegs M) (he : en G M (qip w Q) Qf) (h : wp_X9_sumOfLegs x1 w Q) : jq G D_X9_sumOfLegs M Qf 0 [(0, .ref (aD G 0 32)), (1, .int x1)] [] w := by
  unfold wp_X9_sumOfLegs at h
  refine jq_iconst (v := (0 : Int32)) dX9_sumOfLegs_0 hC (by decide) ?_
  refine jq_istore_n (L' := [(2, .int (0 : Int32)), (0, .ref (aD G 0 32)), (1, .int x1)]) dX9_sumOfLegs_1 hC rfl (by decide) rfl ?_
  refine jq_iconst (v := (0 : Int32)) dX9_sumOfLegs_2 hC (by decide) ?_
  refine jq_istore_n (L' := [(3, .int (0 : Int32)), (2, .int (0 : Int32)), (0, .ref (aD G 0 32)), (1, .int x1)]) dX9_sumOfLegs_3 hC rfl (by decide) rfl ?_
  refine jq_less (L' := [(0, .ref (aD G 0 32)), (1, .int x1), (2, .int (0 : Int32)), (3, .int (0 : Int32))]) [2, 3, 1, 0] rfl ?_
  exact ok_X9_sumOfLegs_L4 hC he h
theorem mt_X9_sumOfLegs {G : Gt} {x1 : Int32} {w : Wd} {Q : Int32 → Prop} (h : wp_X9_sumOfLegs x1 w Q) : Mt G D_X9_sumOfLegs [.ref (aD G 0 32), .int x1] w (qip w Q) := Mt_of (by decide +kernel) rfl rfl (Nat.le_of_ble_eq_true rfl) (fun M Qf hC he => ok_X9_sumOfLegs hC he h)
/-! X9.counted(I)I -/
theorem dX9_counted_0 : decode cX9_counted 0 = .ok (.iload_n 1, 1) := by decide +kernel
theorem dX9_counted_1 : decode cX9_counted 1 = .ok (.tableswitch 102 0 9 #[55, 62, 70, 75, 80, 90, 85, 96, 90, 96], 55) := by decide +kernel
theorem dX9_counted_56 : decode cX9_counted 56 = .ok (.aload_n 0, 1) := by decide +kernel
theorem dX9_counted_57 : decode cX9_counted 57 = .ok (.getfield 7, 3) := by decide +kernel
theorem dX9_counted_60 : decode cX9_counted 60 = .ok (.iconst 0, 1) := by decide +kernel
theorem dX9_counted_61 : decode cX9_counted 61 = .ok (.iaload, 1) := by decide +kernel
theorem dX9_counted_62 : decode cX9_counted 62 = .ok (.ireturn, 1) := by decide +kernel
theorem dX9_counted_63 : decode cX9_counted 63 = .ok (.aload_n 0, 1) := by decide +kernel
theorem dX9_counted_64 : decode cX9_counted 64 = .ok (.getfield 7, 3) := by decide +kernel
theorem dX9_counted_67 : decode cX9_counted 67 = .ok (.bipush 11, 2) := by decide +kernel
theorem dX9_counted_69 : decode cX9_counted 69 = .ok (.iaload, 1) := by decide +kernel
theorem dX9_counted_70 : decode cX9_counted 70 = .ok (.ireturn, 1) := by decide +kernel
theorem dX9_counted_71 : decode cX9_counted 71 = .ok (.aload_n 0, 1) := by decide +kernel
theorem dX9_counted_72 : decode cX9_counted 72 = .ok (.getfield 98, 3) := by decide +kernel
theorem dX9_counted_75 : decode cX9_counted 75 = .ok (.ireturn, 1) := by decide +kernel
theorem dX9_counted_76 : decode cX9_counted 76 = .ok (.aload_n 0, 1) := by decide +kernel
theorem dX9_counted_77 : decode cX9_counted 77 = .ok (.invokevirtual 251, 3) := by decide +kernel
theorem dX9_counted_80 : decode cX9_counted 80 = .ok (.ireturn, 1) := by decide +kernel
theorem dX9_counted_81 : decode cX9_counted 81 = .ok (.aload_n 0, 1) := by decide +kernel
theorem dX9_counted_82 : decode cX9_counted 82 = .ok (.invokevirtual 254, 3) := by decide +kernel
theorem dX9_counted_85 : decode cX9_counted 85 = .ok (.ireturn, 1) := by decide +kernel
theorem dX9_counted_86 : decode cX9_counted 86 = .ok (.aload_n 0, 1) := by decide +kernel
theorem dX9_counted_87 : decode cX9_counted 87 = .ok (.invokevirtual 183, 3) := by decide +kernel
theorem dX9_counted_90 : decode cX9_counted 90 = .ok (.ireturn, 1) := by decide +kernel
theorem dX9_counted_91 : decode cX9_counted 91 = .ok (.aload_n 0, 1) := by decide +kernel
theorem dX9_counted_92 : decode cX9_counted 92 = .ok (.iload_n 1, 1) := by decide +kernel
theorem dX9_counted_93 : decode cX9_counted 93 = .ok (.invokevirtual 257, 3) := by decide +kernel
theorem dX9_counted_96 : decode cX9_counted 96 = .ok (.ireturn, 1) := by decide +kernel
theorem dX9_counted_97 : decode cX9_counted 97 = .ok (.aload_n 0, 1) := by decide +kernel
theorem dX9_counted_98 : decode cX9_counted 98 = .ok (.iload_n 1, 1) := by decide +kernel
theorem dX9_counted_99 : decode cX9_counted 99 = .ok (.invokevirtual 260, 3) := by decide +kernel
theorem dX9_counted_102 : decode cX9_counted 102 = .ok (.ireturn, 1) := by decide +kernel
theorem dX9_counted_103 : decode cX9_counted 103 = .ok (.aload_n 0, 1) := by decide +kernel
theorem dX9_counted_104 : decode cX9_counted 104 = .ok (.getfield 73, 3) := by decide +kernel
theorem dX9_counted_107 : decode cX9_counted 107 = .ok (.ireturn, 1) := by decide +kernel
set_option maxRecDepth 20000 in
theorem ggX9_counted_X9_bads : GoodIn wsX9_counted wsX9_bads := goodIn_r _ [8, 2, 9, 10, 11, 7, 12, 13, 14, 15, 16, 1, 17, 18, 19, 20, 21, 22, 23, 24, 25, 26, 27, 28, 29, 30, 31, 32, 33, 34, 35, 65, 66, 67, 68, 69, 70, 71, 72, 73, 74, 75, 76, 77, 78, 79, 80, 81, 82, 83, 84, 85, 86, 87, 88, 89] (by decide +kernel) (by decide +kernel)
set_option maxRecDepth 20000 in
theorem gX9_counted_X9_bads : GoodIn wsX9_counted (wsV RX9 251 RX9 yX9_bads wsX9_bads) := goodIn_app (goodIn_of _ (by decide +kernel)) ggX9_counted_X9_bads
set_option maxRecDepth 20000 in
theorem ggX9_counted_X9_nets : GoodIn wsX9_counted wsX9_nets := goodIn_r _ [39, 1, 40, 65, 66, 67, 68, 69, 70, 71, 72, 73, 74, 75, 76, 77, 78, 79, 80, 81, 82, 83, 84, 85, 86, 87, 88, 89] (by decide +kernel) (by decide +kernel)
set_option maxRecDepth 20000 in
theorem gX9_counted_X9_nets : GoodIn wsX9_counted (wsV RX9 254 RX9 yX9_nets wsX9_nets) := goodIn_app (goodIn_of _ (by decide +kernel)) ggX9_counted_X9_nets
set_option maxRecDepth 20000 in
theorem ggX9_counted_X9_marksThat : GoodIn wsX9_counted wsX9_marksThat := goodIn_r _ [48, 1, 49, 50, 51, 52, 7, 53, 54, 55, 56, 57, 58, 59, 25, 26, 27, 65, 66, 67, 68, 69, 70, 71, 72, 73, 74, 75, 76, 77, 78, 79, 80, 81, 82, 83, 84, 85, 86, 87, 88, 89] (by decide +kernel) (by decide +kernel)
set_option maxRecDepth 20000 in
theorem gX9_counted_X9_marksThat : GoodIn wsX9_counted (wsV RX9 257 RX9 yX9_marksThat wsX9_marksThat) := goodIn_app (goodIn_of _ (by decide +kernel)) ggX9_counted_X9_marksThat
set_option maxRecDepth 20000 in
theorem ggX9_counted_X9_misses : GoodIn wsX9_counted wsX9_misses := goodIn_r _ [44, 2, 13, 14, 15, 7, 16, 1, 17, 18, 19, 20, 21, 22, 23, 24, 25, 26, 27, 65, 66, 67, 68, 69, 70, 71, 72, 73, 74, 75, 76, 77, 78, 79, 80, 81, 82, 83, 84, 85, 86, 87, 88, 89] (by decide +kernel) (by decide +kernel)
set_option maxRecDepth 20000 in
theorem gX9_counted_X9_misses : GoodIn wsX9_counted (wsV RX9 183 RX9 yX9_misses wsX9_misses) := goodIn_app (goodIn_of _ (by decide +kernel)) ggX9_counted_X9_misses
set_option maxRecDepth 20000 in
theorem ggX9_counted_X9_sumOfLegs : GoodIn wsX9_counted wsX9_sumOfLegs := goodIn_r _ [63, 1, 64, 25, 26, 7, 27, 22, 23, 24, 65, 66, 67, 68, 69, 70, 71, 72, 73, 74, 75, 76, 77, 78, 79, 80, 81, 82, 83, 84, 85, 86, 87, 88, 89] (by decide +kernel) (by decide +kernel)
set_option maxRecDepth 20000 in
theorem gX9_counted_X9_sumOfLegs : GoodIn wsX9_counted (wsV RX9 260 RX9 yX9_sumOfLegs wsX9_sumOfLegs) := goodIn_app (goodIn_of _ (by decide +kernel)) ggX9_counted_X9_sumOfLegs
def D_X9_counted : Md := (yX9_counted, cX9_counted, 2, (some .int), wsX9_counted, RX9, { frames := 5, cells := 0, slots := 0, locals := 109 })
theorem nm_X9_counted : nmD D_X9_counted 1 := ⟨rfl, by decide +kernel, by decide +kernel, by decide +kernel⟩
theorem hi_X9_counted_X9 : ∀ w ∈ u_ws RX9 TX9 25, w ∈ wsX9_counted := by decide +kernel
theorem hl_X9_counted_7 : Cond.fieldLink RX9 7 "LevelLoopsModel" "s" "[I" ∈ wsX9_counted := by decide +kernel
theorem hl_X9_counted_73 : Cond.fieldLink RX9 73 "LevelLoopsModel" "savedMany" "I" ∈ wsX9_counted := by decide +kernel
theorem hl_X9_counted_98 : Cond.fieldLink RX9 98 "LevelLoopsModel" "manyLoops" "I" ∈ wsX9_counted := by decide +kernel
def wp_X9_counted_J91 (x1 : Int32) (w : Wd) (Q : Int32 → Prop) : Prop :=
  wp_X9_marksThat x1 w (fun r93 => Q r93)
def wp_X9_counted_J97 (x1 : Int32) (w : Wd) (Q : Int32 → Prop) : Prop :=
  wp_X9_sumOfLegs x1 w (fun r99 => Q r99)
def wp_X9_counted (x1 : Int32) (w : Wd) (Q : Int32 → Prop) : Prop :=
  ((x1 = 0 → Q (wi w 0 33 0)) ∧ (x1 = 1 → Q (wi w 0 33 11)) ∧ (x1 = 2 → Q (wi w 0 32 15)) ∧ (x1 = 3 → wp_X9_bads w (fun r77 => Q r77)) ∧ (x1 = 4 → wp_X9_nets w (fun r82 => Q r82)) ∧ (x1 = 5 → wp_X9_counted_J91 x1 w Q) ∧ (x1 = 6 → wp_X9_misses w (fun r87 => Q r87)) ∧ (x1 = 7 → wp_X9_counted_J97 x1 w Q) ∧ (x1 = 8 → wp_X9_counted_J91 x1 w Q) ∧ (x1 = 9 → wp_X9_counted_J97 x1 w Q) ∧ (¬ x1 = 0 → ¬ x1 = 1 → ¬ x1 = 2 → ¬ x1 = 3 → ¬ x1 = 4 → ¬ x1 = 5 → ¬ x1 = 6 → ¬ x1 = 7 → ¬ x1 = 8 → ¬ x1 = 9 → Q (wi w 0 32 4)))
theorem ok_X9_counted_J91 {G : Gt} {M : Mx} {Qf : State → Prop} {x1 : Int32} {w : Wd} {Q : Int32 → Prop} (hC : cx G D_X9_counted M) (he : en G M (qip w Q) Qf) (h : wp_X9_counted_J91 x1 w Q) : jq G D_X9_counted M Qf 91 [(0, .ref (aD G 0 32)), (1, .int x1)] [] w := by
  unfold wp_X9_counted_J91 at h
  refine jq_aload_n (k0 := 0) dX9_counted_91 hC rfl rfl ?_
  refine jq_iload_n (k0 := 1) dX9_counted_92 hC rfl rfl ?_
  refine jq_callV (As := [.int x1]) (rest := []) (n := 0) (o := 32) (D' := D_X9_marksThat) dX9_counted_93 hC (cl_0 (by decide)) rfl rfl rfl (mt_X9_marksThat h) gX9_counted_X9_marksThat rfl ⟨rfl, rfl, Nat.le_of_ble_eq_true rfl, Nat.le_of_ble_eq_true rfl⟩ nm_X9_marksThat rfl (Nat.le_of_ble_eq_true rfl) (kIp fun r93 h => ?_)
  exact jq_iret dX9_counted_96 hC he rfl ⟨_, rfl, rfl, h⟩
theorem ok_X9_counted_J97 {G : Gt} {M : Mx} {Qf : State → Prop} {x1 : Int32} {w : Wd} {Q : Int32 → Prop} (hC : cx G D_X9_counted M) (he : en G M (qip w Q) Qf) (h : wp_X9_counted_J97 x1 w Q) : jq G D_X9_counted M Qf 97 [(0, .ref (aD G 0 32)), (1, .int x1)] [] w := by
  unfold wp_X9_counted_J97 at h
  refine jq_aload_n (k0 := 0) dX9_counted_97 hC rfl rfl ?_
  refine jq_iload_n (k0 := 1) dX9_counted_98 hC rfl rfl ?_
  refine jq_callV (As := [.int x1]) (rest := []) (n := 0) (o := 32) (D' := D_X9_sumOfLegs) dX9_counted_99 hC (cl_0 (by decide)) rfl rfl rfl (mt_X9_sumOfLegs h) gX9_counted_X9_sumOfLegs rfl ⟨rfl, rfl, Nat.le_of_ble_eq_true rfl, Nat.le_of_ble_eq_true rfl⟩ nm_X9_sumOfLegs rfl (Nat.le_of_ble_eq_true rfl) (kIp fun r99 h => ?_)
  exact jq_iret dX9_counted_102 hC he rfl ⟨_, rfl, rfl, h⟩
theorem ok_X9_counted {G : Gt} {M : Mx} {Qf : State → Prop} {x1 : Int32} {w : Wd} {Q : Int32 → Prop} (hC : cx G D_X9_counted M) (he : en G M (qip w Q) Qf) (h : wp_X9_counted x1 w Q) : jq G D_X9_counted M Qf 0 [(0, .ref (aD G 0 32)), (1, .int x1)] [] w := by
  unfold wp_X9_counted at h
  refine jq_iload_n (k0 := 1) dX9_counted_0 hC rfl rfl ?_
  by_cases cd : (x1).toInt < 0 ∨ 9 < (x1).toInt
  · refine jq_tout (tgt := 103) dX9_counted_1 hC cd (by decide) ?_
    have h := h.2.2.2.2.2.2.2.2.2.2 (fun e => by rw [e] at cd; revert cd; decide) (fun e => by rw [e] at cd; revert cd; decide) (fun e => by rw [e] at cd; revert cd; decide) (fun e => by rw [e] at cd; revert cd; decide) (fun e => by rw [e] at cd; revert cd; decide) (fun e => by rw [e] at cd; revert cd; decide) (fun e => by rw [e] at cd; revert cd; decide) (fun e => by rw [e] at cd; revert cd; decide) (fun e => by rw [e] at cd; revert cd; decide) (fun e => by rw [e] at cd; revert cd; decide)
    refine jq_aload_n (k0 := 0) dX9_counted_103 hC rfl rfl ?_
    refine jq_get (k0 := 4) (n := 0) (o := 32) dX9_counted_104 hC (cl_0 (by decide)) rfl rfl hi_X9_counted_X9 (by decide) hl_X9_counted_73 rfl rfl ?_
    exact jq_iret dX9_counted_107 hC he rfl ⟨_, rfl, rfl, h⟩
  have cs : (x1).toInt = 0 ∨ (x1).toInt = 1 ∨ (x1).toInt = 2 ∨ (x1).toInt = 3 ∨ (x1).toInt = 4 ∨ (x1).toInt = 5 ∨ (x1).toInt = 6 ∨ (x1).toInt = 7 ∨ (x1).toInt = 8 ∨ (x1).toInt = 9 := by omega
  rcases cs with cs | cs | cs | cs | cs | cs | cs | cs | cs | cs
  · refine jq_tin (tgt := 56) (off := 55) dX9_counted_1 hC (fun q => cd (Or.inl q)) (fun q => cd (Or.inr q)) (by rw [cs]; rfl) (by decide) ?_
    have h := h.1 (Int32.toInt_inj.mp (cs.trans (by decide)))
    refine jq_aload_n (k0 := 0) dX9_counted_56 hC rfl rfl ?_
    refine jq_get (k0 := 1) (n := 0) (o := 32) dX9_counted_57 hC (cl_0 (by decide)) rfl rfl hi_X9_counted_X9 (by decide) hl_X9_counted_7 rfl rfl ?_
    refine jq_iconst (v := (0 : Int32)) dX9_counted_60 hC (by decide) ?_
    refine jq_iald (n := 0) (o := 33) (j := 0) dX9_counted_61 hC (cl_0 (by decide)) rfl (vin (by decide)) (by decide) ?_
    exact jq_iret dX9_counted_62 hC he rfl ⟨_, rfl, rfl, h⟩
  · refine jq_tin (tgt := 63) (off := 62) dX9_counted_1 hC (fun q => cd (Or.inl q)) (fun q => cd (Or.inr q)) (by rw [cs]; rfl) (by decide) ?_
    have h := h.2.1 (Int32.toInt_inj.mp (cs.trans (by decide)))
    refine jq_aload_n (k0 := 0) dX9_counted_63 hC rfl rfl ?_
    refine jq_get (k0 := 1) (n := 0) (o := 32) dX9_counted_64 hC (cl_0 (by decide)) rfl rfl hi_X9_counted_X9 (by decide) hl_X9_counted_7 rfl rfl ?_
    refine jq_bipush (v := (11 : Int32)) dX9_counted_67 hC (by decide) ?_
    refine jq_iald (n := 0) (o := 33) (j := 11) dX9_counted_69 hC (cl_0 (by decide)) rfl (vin (by decide)) (by decide) ?_
    exact jq_iret dX9_counted_70 hC he rfl ⟨_, rfl, rfl, h⟩
  · refine jq_tin (tgt := 71) (off := 70) dX9_counted_1 hC (fun q => cd (Or.inl q)) (fun q => cd (Or.inr q)) (by rw [cs]; rfl) (by decide) ?_
    have h := h.2.2.1 (Int32.toInt_inj.mp (cs.trans (by decide)))
    refine jq_aload_n (k0 := 0) dX9_counted_71 hC rfl rfl ?_
    refine jq_get (k0 := 15) (n := 0) (o := 32) dX9_counted_72 hC (cl_0 (by decide)) rfl rfl hi_X9_counted_X9 (by decide) hl_X9_counted_98 rfl rfl ?_
    exact jq_iret dX9_counted_75 hC he rfl ⟨_, rfl, rfl, h⟩
  · refine jq_tin (tgt := 76) (off := 75) dX9_counted_1 hC (fun q => cd (Or.inl q)) (fun q => cd (Or.inr q)) (by rw [cs]; rfl) (by decide) ?_
    have h := h.2.2.2.1 (Int32.toInt_inj.mp (cs.trans (by decide)))
    refine jq_aload_n (k0 := 0) dX9_counted_76 hC rfl rfl ?_
    refine jq_callV (As := []) (rest := []) (n := 0) (o := 32) (D' := D_X9_bads) dX9_counted_77 hC (cl_0 (by decide)) rfl rfl rfl (mt_X9_bads h) gX9_counted_X9_bads rfl ⟨rfl, rfl, Nat.le_of_ble_eq_true rfl, Nat.le_of_ble_eq_true rfl⟩ nm_X9_bads rfl (Nat.le_of_ble_eq_true rfl) (kIp fun r77 h => ?_)
    exact jq_iret dX9_counted_80 hC he rfl ⟨_, rfl, rfl, h⟩
  · refine jq_tin (tgt := 81) (off := 80) dX9_counted_1 hC (fun q => cd (Or.inl q)) (fun q => cd (Or.inr q)) (by rw [cs]; rfl) (by decide) ?_
    have h := h.2.2.2.2.1 (Int32.toInt_inj.mp (cs.trans (by decide)))
    refine jq_aload_n (k0 := 0) dX9_counted_81 hC rfl rfl ?_
    refine jq_callV (As := []) (rest := []) (n := 0) (o := 32) (D' := D_X9_nets) dX9_counted_82 hC (cl_0 (by decide)) rfl rfl rfl (mt_X9_nets h) gX9_counted_X9_nets rfl ⟨rfl, rfl, Nat.le_of_ble_eq_true rfl, Nat.le_of_ble_eq_true rfl⟩ nm_X9_nets rfl (Nat.le_of_ble_eq_true rfl) (kIp fun r82 h => ?_)
    exact jq_iret dX9_counted_85 hC he rfl ⟨_, rfl, rfl, h⟩
  · refine jq_tin (tgt := 91) (off := 90) dX9_counted_1 hC (fun q => cd (Or.inl q)) (fun q => cd (Or.inr q)) (by rw [cs]; rfl) (by decide) ?_
    have h := h.2.2.2.2.2.1 (Int32.toInt_inj.mp (cs.trans (by decide)))
    refine jq_less (L' := [(0, .ref (aD G 0 32)), (1, .int x1)]) [0, 1] rfl ?_
    exact ok_X9_counted_J91 hC he h
  · refine jq_tin (tgt := 86) (off := 85) dX9_counted_1 hC (fun q => cd (Or.inl q)) (fun q => cd (Or.inr q)) (by rw [cs]; rfl) (by decide) ?_
    have h := h.2.2.2.2.2.2.1 (Int32.toInt_inj.mp (cs.trans (by decide)))
    refine jq_aload_n (k0 := 0) dX9_counted_86 hC rfl rfl ?_
    refine jq_callV (As := []) (rest := []) (n := 0) (o := 32) (D' := D_X9_misses) dX9_counted_87 hC (cl_0 (by decide)) rfl rfl rfl (mt_X9_misses h) gX9_counted_X9_misses rfl ⟨rfl, rfl, Nat.le_of_ble_eq_true rfl, Nat.le_of_ble_eq_true rfl⟩ nm_X9_misses rfl (Nat.le_of_ble_eq_true rfl) (kIp fun r87 h => ?_)
    exact jq_iret dX9_counted_90 hC he rfl ⟨_, rfl, rfl, h⟩
  · refine jq_tin (tgt := 97) (off := 96) dX9_counted_1 hC (fun q => cd (Or.inl q)) (fun q => cd (Or.inr q)) (by rw [cs]; rfl) (by decide) ?_
    have h := h.2.2.2.2.2.2.2.1 (Int32.toInt_inj.mp (cs.trans (by decide)))
    refine jq_less (L' := [(0, .ref (aD G 0 32)), (1, .int x1)]) [0, 1] rfl ?_
    exact ok_X9_counted_J97 hC he h
  · refine jq_tin (tgt := 91) (off := 90) dX9_counted_1 hC (fun q => cd (Or.inl q)) (fun q => cd (Or.inr q)) (by rw [cs]; rfl) (by decide) ?_
    have h := h.2.2.2.2.2.2.2.2.1 (Int32.toInt_inj.mp (cs.trans (by decide)))
    refine jq_less (L' := [(0, .ref (aD G 0 32)), (1, .int x1)]) [0, 1] rfl ?_
    exact ok_X9_counted_J91 hC he h
  · refine jq_tin (tgt := 97) (off := 96) dX9_counted_1 hC (fun q => cd (Or.inl q)) (fun q => cd (Or.inr q)) (by rw [cs]; rfl) (by decide) ?_
    have h := h.2.2.2.2.2.2.2.2.2.1 (Int32.toInt_inj.mp (cs.trans (by decide)))
    refine jq_less (L' := [(0, .ref (aD G 0 32)), (1, .int x1)]) [0, 1] rfl ?_
    exact ok_X9_counted_J97 hC he h
theorem mt_X9_counted {G : Gt} {x1 : Int32} {w : Wd} {Q : Int32 → Prop} (h : wp_X9_counted x1 w Q) : Mt G D_X9_counted [.ref (aD G 0 32), .int x1] w (qip w Q) := Mt_of (by decide +kernel) rfl rfl (Nat.le_of_ble_eq_true rfl) (fun M Qf hC he => ok_X9_counted hC he h)
/-! X9.count(I)I -/
theorem dX9_count_0 : decode cX9_count 0 = .ok (.aload_n 0, 1) := by decide +kernel
theorem dX9_count_1 : decode cX9_count 1 = .ok (.invokevirtual 170, 3) := by decide +kernel
theorem dX9_count_4 : decode cX9_count 4 = .ok (.aload_n 0, 1) := by decide +kernel
theorem dX9_count_5 : decode cX9_count 5 = .ok (.iload_n 1, 1) := by decide +kernel
theorem dX9_count_6 : decode cX9_count 6 = .ok (.iconst 0, 1) := by decide +kernel
theorem dX9_count_7 : decode cX9_count 7 = .ok (.bipush 10, 2) := by decide +kernel
theorem dX9_count_9 : decode cX9_count 9 = .ok (.invokestatic 69, 3) := by decide +kernel
theorem dX9_count_12 : decode cX9_count 12 = .ok (.ifCond .eq 7, 3) := by decide +kernel
theorem dX9_count_15 : decode cX9_count 15 = .ok (.iconst 0, 1) := by decide +kernel
theorem dX9_count_16 : decode cX9_count 16 = .ok (.goto 4, 3) := by decide +kernel
theorem dX9_count_19 : decode cX9_count 19 = .ok (.iconst 1, 1) := by decide +kernel
theorem dX9_count_20 : decode cX9_count 20 = .ok (.invokevirtual 158, 3) := by decide +kernel
theorem dX9_count_23 : decode cX9_count 23 = .ok (.ifCond .eq 11, 3) := by decide +kernel
theorem dX9_count_26 : decode cX9_count 26 = .ok (.aload_n 0, 1) := by decide +kernel
theorem dX9_count_27 : decode cX9_count 27 = .ok (.iload_n 1, 1) := by decide +kernel
theorem dX9_count_28 : decode cX9_count 28 = .ok (.invokevirtual 263, 3) := by decide +kernel
theorem dX9_count_31 : decode cX9_count 31 = .ok (.goto 4, 3) := by decide +kernel
theorem dX9_count_34 : decode cX9_count 34 = .ok (.iconst 0, 1) := by decide +kernel
theorem dX9_count_35 : decode cX9_count 35 = .ok (.ireturn, 1) := by decide +kernel
set_option maxRecDepth 20000 in
theorem ggX9_count_X9_counted : GoodIn wsX9_count wsX9_counted := goodIn_r _ [116, 14, 42, 117, 118, 119, 120, 4, 121, 122, 123, 124, 125, 62, 63, 64, 65, 66, 67, 68, 69, 44, 23, 24, 25, 70, 71, 72, 126, 127, 128, 129, 130, 131, 132, 133, 134, 135, 136, 137, 15, 138, 139, 140, 141, 142, 143, 144, 145, 86, 146, 147, 148, 149, 87, 88, 89, 90, 91, 92, 150, 151, 152, 153, 58, 154, 155, 156, 157, 158, 159, 160, 161, 162, 163, 164, 165, 166, 167, 168, 169, 170, 171, 172, 173, 174, 175, 176, 177, 178] (by decide +kernel) (by decide +kernel)
set_option maxRecDepth 20000 in
theorem gX9_count_X9_counted : GoodIn wsX9_count (wsV RX9 263 RX9 yX9_counted wsX9_counted) := goodIn_app (goodIn_of _ (by decide +kernel)) ggX9_count_X9_counted
set_option maxRecDepth 20000 in
theorem ggX9_count_X9_holds : GoodIn wsX9_count wsX9_holds := goodIn_r _ [111, 112, 154, 155, 156, 157, 158, 159, 160, 161, 162, 163, 164, 165, 166, 167, 168, 169, 170, 171, 172, 173, 174, 175, 176, 177, 178] (by decide +kernel) (by decide +kernel)
set_option maxRecDepth 20000 in
theorem gX9_count_X9_holds : GoodIn wsX9_count (wsV RX9 158 RX9 yX9_holds wsX9_holds) := goodIn_app (goodIn_of _ (by decide +kernel)) ggX9_count_X9_holds
set_option maxRecDepth 20000 in
theorem ggX9_count_X9_in : GoodIn wsX9_count wsX9_in := goodIn_r _ [107] (by decide +kernel) (by decide +kernel)
set_option maxRecDepth 20000 in
theorem gX9_count_X9_in : GoodIn wsX9_count (va_wsS RX9 69 yX9_in wsX9_in) := goodIn_app (goodIn_of _ (by decide +kernel)) ggX9_count_X9_in
set_option maxRecDepth 20000 in
theorem ggX9_count_X9_layAll : GoodIn wsX9_count wsX9_layAll := goodIn_r _ [5, 6, 7, 8, 4, 9, 10, 11, 12, 13, 14, 15, 16, 17, 18, 19, 20, 21, 22, 23, 24, 25, 26, 27, 28, 29, 30, 31, 32, 33, 34, 35, 36, 37, 38, 39, 40, 41, 42, 43, 44, 45, 46, 47, 48, 49, 50, 51, 52, 53, 54, 55, 56, 57, 58, 59, 60, 61, 62, 63, 64, 65, 66, 67, 68, 69, 70, 71, 72, 73, 74, 75, 76, 77, 78, 79, 80, 81, 82, 83, 84, 85, 86, 87, 88, 89, 90, 91, 92, 93, 94, 95, 96, 97, 98, 99, 100, 101, 102, 103, 104, 154, 155, 156, 157, 158, 159, 160, 161, 162, 163, 164, 165, 166, 167, 168, 169, 170, 171, 172, 173, 174, 175, 176, 177, 178] (by decide +kernel) (by decide +kernel)
set_option maxRecDepth 20000 in
theorem gX9_count_X9_layAll : GoodIn wsX9_count (wsV RX9 170 RX9 yX9_layAll wsX9_layAll) := goodIn_app (goodIn_of _ (by decide +kernel)) ggX9_count_X9_layAll
def D_X9_count : Md := (yX9_count, cX9_count, 2, (some .int), wsX9_count, RX9, { frames := 7, cells := 0, slots := 0, locals := 158 })
theorem nm_X9_count : nmD D_X9_count 1 := ⟨rfl, by decide +kernel, by decide +kernel, by decide +kernel⟩
def wp_X9_count_J20 (x1 : Int32) (s0 : Int32) (w : Wd) (Q : Int32 → Wd → Prop) : Prop :=
  wp_X9_holds s0 w (fun r20 w20 => ((r20 = 0 → Q (0 : Int32) w20) ∧ (¬ r20 = 0 → wp_X9_counted x1 w20 (fun r28 => Q r28 w20))))
def wp_X9_count (x1 : Int32) (w : Wd) (Q : Int32 → Wd → Prop) : Prop :=
  wp_X9_layAll w (fun w1 => wp_X9_in x1 (0 : Int32) (10 : Int32) (fun r9 => ((r9 = 0 → wp_X9_count_J20 x1 (1 : Int32) w1 Q) ∧ (¬ r9 = 0 → wp_X9_count_J20 x1 (0 : Int32) w1 Q))))
theorem ok_X9_count_J20 {G : Gt} {M : Mx} {Qf : State → Prop} {x1 : Int32} {s0 : Int32} {w : Wd} {Q : Int32 → Wd → Prop} (hC : cx G D_X9_count M) (he : en G M (qi Q) Qf) (h : wp_X9_count_J20 x1 s0 w Q) : jq G D_X9_count M Qf 20 [(0, .ref (aD G 0 32)), (1, .int x1)] [.int s0, .ref (aD G 0 32)] w := by
  unfold wp_X9_count_J20 at h
  refine jq_callV (As := [.int s0]) (rest := []) (n := 0) (o := 32) (D' := D_X9_holds) dX9_count_20 hC (cl_0 (by decide)) rfl rfl rfl (mt_X9_holds h) gX9_count_X9_holds rfl ⟨rfl, rfl, Nat.le_of_ble_eq_true rfl, Nat.le_of_ble_eq_true rfl⟩ nm_X9_holds rfl (Nat.le_of_ble_eq_true rfl) (kI fun r20 w20 h => ?_)
  refine jq_if_eq (tgt := 34) dX9_count_23 hC (by decide) (fun c23 => ?_) (fun c23 => ?_)
  · have h := h.1 c23
    refine jq_iconst (v := (0 : Int32)) dX9_count_34 hC (by decide) ?_
    exact jq_iret dX9_count_35 hC he rfl ⟨_, rfl, h⟩
  · have h := h.2 c23
    refine jq_aload_n (k0 := 0) dX9_count_26 hC rfl rfl ?_
    refine jq_iload_n (k0 := 1) dX9_count_27 hC rfl rfl ?_
    refine jq_callV (As := [.int x1]) (rest := []) (n := 0) (o := 32) (D' := D_X9_counted) dX9_count_28 hC (cl_0 (by decide)) rfl rfl rfl (mt_X9_counted h) gX9_count_X9_counted rfl ⟨rfl, rfl, Nat.le_of_ble_eq_true rfl, Nat.le_of_ble_eq_true rfl⟩ nm_X9_counted rfl (Nat.le_of_ble_eq_true rfl) (kIp fun r28 h => ?_)
    refine jq_goto (tgt := 35) dX9_count_31 hC (by decide) ?_
    exact jq_iret dX9_count_35 hC he rfl ⟨_, rfl, h⟩
theorem ok_X9_count {G : Gt} {M : Mx} {Qf : State → Prop} {x1 : Int32} {w : Wd} {Q : Int32 → Wd → Prop} (hC : cx G D_X9_count M) (he : en G M (qi Q) Qf) (h : wp_X9_count x1 w Q) : jq G D_X9_count M Qf 0 [(0, .ref (aD G 0 32)), (1, .int x1)] [] w := by
  unfold wp_X9_count at h
  refine jq_aload_n (k0 := 0) dX9_count_0 hC rfl rfl ?_
  refine jq_callV (As := []) (rest := []) (n := 0) (o := 32) (D' := D_X9_layAll) dX9_count_1 hC (cl_0 (by decide)) rfl rfl rfl (mt_X9_layAll h) gX9_count_X9_layAll rfl ⟨rfl, rfl, Nat.le_of_ble_eq_true rfl, Nat.le_of_ble_eq_true rfl⟩ nm_X9_layAll rfl (Nat.le_of_ble_eq_true rfl) (kV fun w1 h => ?_)
  refine jq_aload_n (k0 := 0) dX9_count_4 hC rfl rfl ?_
  refine jq_iload_n (k0 := 1) dX9_count_5 hC rfl rfl ?_
  refine jq_iconst (v := (0 : Int32)) dX9_count_6 hC (by decide) ?_
  refine jq_bipush (v := (10 : Int32)) dX9_count_7 hC (by decide) ?_
  refine jq_callS (As := [.int x1, .int (0 : Int32), .int (10 : Int32)]) (rest := [.ref (aD G 0 32)]) (D' := D_X9_in) dX9_count_9 hC (mt_X9_in h) gX9_count_X9_in rfl ⟨rfl, rfl, Nat.le_of_ble_eq_true rfl, Nat.le_of_ble_eq_true rfl⟩ nm_X9_in rfl (Nat.le_of_ble_eq_true rfl) (kIp fun r9 h => ?_)
  refine jq_if_eq (tgt := 19) dX9_count_12 hC (by decide) (fun c12 => ?_) (fun c12 => ?_)
  · have h := h.1 c12
    refine jq_iconst (v := (1 : Int32)) dX9_count_19 hC (by decide) ?_
    refine jq_less (L' := [(0, .ref (aD G 0 32)), (1, .int x1)]) [0, 1] rfl ?_
    exact ok_X9_count_J20 hC he h
  · have h := h.2 c12
    refine jq_iconst (v := (0 : Int32)) dX9_count_15 hC (by decide) ?_
    refine jq_goto (tgt := 20) dX9_count_16 hC (by decide) ?_
    refine jq_less (L' := [(0, .ref (aD G 0 32)), (1, .int x1)]) [0, 1] rfl ?_
    exact ok_X9_count_J20 hC he h
theorem mt_X9_count {G : Gt} {x1 : Int32} {w : Wd} {Q : Int32 → Wd → Prop} (h : wp_X9_count x1 w Q) : Mt G D_X9_count [.ref (aD G 0 32), .int x1] w (qi Q) := Mt_of (by decide +kernel) rfl rfl (Nat.le_of_ble_eq_true rfl) (fun M Qf hC he => ok_X9_count hC he h)
/-! X9.setting(I)I -/
theorem dX9_setting_0 : decode cX9_setting 0 = .ok (.aload_n 0, 1) := by decide +kernel
theorem dX9_setting_1 : decode cX9_setting 1 = .ok (.iload_n 1, 1) := by decide +kernel
theorem dX9_setting_2 : decode cX9_setting 2 = .ok (.iconst 0, 1) := by decide +kernel
theorem dX9_setting_3 : decode cX9_setting 3 = .ok (.iconst 2, 1) := by decide +kernel
theorem dX9_setting_4 : decode cX9_setting 4 = .ok (.invokestatic 69, 3) := by decide +kernel
theorem dX9_setting_7 : decode cX9_setting 7 = .ok (.ifCond .eq 7, 3) := by decide +kernel
theorem dX9_setting_10 : decode cX9_setting 10 = .ok (.iconst 0, 1) := by decide +kernel
theorem dX9_setting_11 : decode cX9_setting 11 = .ok (.goto 4, 3) := by decide +kernel
theorem dX9_setting_14 : decode cX9_setting 14 = .ok (.iconst 1, 1) := by decide +kernel
theorem dX9_setting_15 : decode cX9_setting 15 = .ok (.invokevirtual 158, 3) := by decide +kernel
theorem dX9_setting_18 : decode cX9_setting 18 = .ok (.ifCond .eq 15, 3) := by decide +kernel
theorem dX9_setting_21 : decode cX9_setting 21 = .ok (.aload_n 0, 1) := by decide +kernel
theorem dX9_setting_22 : decode cX9_setting 22 = .ok (.getfield 7, 3) := by decide +kernel
theorem dX9_setting_25 : decode cX9_setting 25 = .ok (.bipush 92, 2) := by decide +kernel
theorem dX9_setting_27 : decode cX9_setting 27 = .ok (.iload_n 1, 1) := by decide +kernel
theorem dX9_setting_28 : decode cX9_setting 28 = .ok (.iadd, 1) := by decide +kernel
theorem dX9_setting_29 : decode cX9_setting 29 = .ok (.iaload, 1) := by decide +kernel
theorem dX9_setting_30 : decode cX9_setting 30 = .ok (.goto 4, 3) := by decide +kernel
theorem dX9_setting_33 : decode cX9_setting 33 = .ok (.iconst 0, 1) := by decide +kernel
theorem dX9_setting_34 : decode cX9_setting 34 = .ok (.ireturn, 1) := by decide +kernel
set_option maxRecDepth 20000 in
theorem ggX9_setting_X9_holds : GoodIn wsX9_setting wsX9_holds := goodIn_r _ [9, 10, 11, 12, 13, 14, 15, 16, 17, 18, 19, 20, 21, 22, 23, 24, 25, 26, 27, 28, 29, 30, 31, 32, 33, 34, 35] (by decide +kernel) (by decide +kernel)
set_option maxRecDepth 20000 in
theorem gX9_setting_X9_holds : GoodIn wsX9_setting (wsV RX9 158 RX9 yX9_holds wsX9_holds) := goodIn_app (goodIn_of _ (by decide +kernel)) ggX9_setting_X9_holds
set_option maxRecDepth 20000 in
theorem ggX9_setting_X9_in : GoodIn wsX9_setting wsX9_in := goodIn_r _ [5] (by decide +kernel) (by decide +kernel)
set_option maxRecDepth 20000 in
theorem gX9_setting_X9_in : GoodIn wsX9_setting (va_wsS RX9 69 yX9_in wsX9_in) := goodIn_app (goodIn_of _ (by decide +kernel)) ggX9_setting_X9_in
def D_X9_setting : Md := (yX9_setting, cX9_setting, 2, (some .int), wsX9_setting, RX9, { frames := 1, cells := 0, slots := 0, locals := 22 })
theorem nm_X9_setting : nmD D_X9_setting 1 := ⟨rfl, by decide +kernel, by decide +kernel, by decide +kernel⟩
theorem hi_X9_setting_X9 : ∀ w ∈ u_ws RX9 TX9 25, w ∈ wsX9_setting := by decide +kernel
theorem hl_X9_setting_7 : Cond.fieldLink RX9 7 "LevelLoopsModel" "s" "[I" ∈ wsX9_setting := by decide +kernel
def wp_X9_setting_J15 (x1 : Int32) (s0 : Int32) (w : Wd) (Q : Int32 → Wd → Prop) : Prop :=
  wp_X9_holds s0 w (fun r15 w15 => ((r15 = 0 → Q (0 : Int32) w15) ∧ (¬ r15 = 0 → vp_in ((92 : Int32) + x1) 95 ∧ Q (wi w15 0 33 ((92 : Int32) + x1).toNatClampNeg) w15)))
def wp_X9_setting (x1 : Int32) (w : Wd) (Q : Int32 → Wd → Prop) : Prop :=
  wp_X9_in x1 (0 : Int32) (2 : Int32) (fun r4 => ((r4 = 0 → wp_X9_setting_J15 x1 (1 : Int32) w Q) ∧ (¬ r4 = 0 → wp_X9_setting_J15 x1 (0 : Int32) w Q)))
theorem ok_X9_setting_J15 {G : Gt} {M : Mx} {Qf : State → Prop} {x1 : Int32} {s0 : Int32} {w : Wd} {Q : Int32 → Wd → Prop} (hC : cx G D_X9_setting M) (he : en G M (qi Q) Qf) (h : wp_X9_setting_J15 x1 s0 w Q) : jq G D_X9_setting M Qf 15 [(0, .ref (aD G 0 32)), (1, .int x1)] [.int s0, .ref (aD G 0 32)] w := by
  unfold wp_X9_setting_J15 at h
  refine jq_callV (As := [.int s0]) (rest := []) (n := 0) (o := 32) (D' := D_X9_holds) dX9_setting_15 hC (cl_0 (by decide)) rfl rfl rfl (mt_X9_holds h) gX9_setting_X9_holds rfl ⟨rfl, rfl, Nat.le_of_ble_eq_true rfl, Nat.le_of_ble_eq_true rfl⟩ nm_X9_holds rfl (Nat.le_of_ble_eq_true rfl) (kI fun r15 w15 h => ?_)
  refine jq_if_eq (tgt := 33) dX9_setting_18 hC (by decide) (fun c18 => ?_) (fun c18 => ?_)
  · have h := h.1 c18
    refine jq_iconst (v := (0 : Int32)) dX9_setting_33 hC (by decide) ?_
    exact jq_iret dX9_setting_34 hC he rfl ⟨_, rfl, h⟩
  · have h := h.2 c18
    refine jq_aload_n (k0 := 0) dX9_setting_21 hC rfl rfl ?_
    refine jq_get (k0 := 1) (n := 0) (o := 32) dX9_setting_22 hC (cl_0 (by decide)) rfl rfl hi_X9_setting_X9 (by decide) hl_X9_setting_7 rfl rfl ?_
    refine jq_bipush (v := (92 : Int32)) dX9_setting_25 hC (by decide) ?_
    refine jq_iload_n (k0 := 1) dX9_setting_27 hC rfl rfl ?_
    refine jq_iadd dX9_setting_28 hC ?_
    obtain ⟨b29, h⟩ := h
    refine jq_iald (n := 0) (o := 33) (j := ((92 : Int32) + x1).toNatClampNeg) dX9_setting_29 hC (cl_0 (by decide)) rfl b29 rfl ?_
    refine jq_goto (tgt := 34) dX9_setting_30 hC (by decide) ?_
    exact jq_iret dX9_setting_34 hC he rfl ⟨_, rfl, h⟩
theorem ok_X9_setting {G : Gt} {M : Mx} {Qf : State → Prop} {x1 : Int32} {w : Wd} {Q : Int32 → Wd → Prop} (hC : cx G D_X9_setting M) (he : en G M (qi Q) Qf) (h : wp_X9_setting x1 w Q) : jq G D_X9_setting M Qf 0 [(0, .ref (aD G 0 32)), (1, .int x1)] [] w := by
  unfold wp_X9_setting at h
  refine jq_aload_n (k0 := 0) dX9_setting_0 hC rfl rfl ?_
  refine jq_iload_n (k0 := 1) dX9_setting_1 hC rfl rfl ?_
  refine jq_iconst (v := (0 : Int32)) dX9_setting_2 hC (by decide) ?_
  refine jq_iconst (v := (2 : Int32)) dX9_setting_3 hC (by decide) ?_
  refine jq_callS (As := [.int x1, .int (0 : Int32), .int (2 : Int32)]) (rest := [.ref (aD G 0 32)]) (D' := D_X9_in) dX9_setting_4 hC (mt_X9_in h) gX9_setting_X9_in rfl ⟨rfl, rfl, Nat.le_of_ble_eq_true rfl, Nat.le_of_ble_eq_true rfl⟩ nm_X9_in rfl (Nat.le_of_ble_eq_true rfl) (kIp fun r4 h => ?_)
  refine jq_if_eq (tgt := 14) dX9_setting_7 hC (by decide) (fun c7 => ?_) (fun c7 => ?_)
  · have h := h.1 c7
    refine jq_iconst (v := (1 : Int32)) dX9_setting_14 hC (by decide) ?_
    refine jq_less (L' := [(0, .ref (aD G 0 32)), (1, .int x1)]) [0, 1] rfl ?_
    exact ok_X9_setting_J15 hC he h
  · have h := h.2 c7
    refine jq_iconst (v := (0 : Int32)) dX9_setting_10 hC (by decide) ?_
    refine jq_goto (tgt := 15) dX9_setting_11 hC (by decide) ?_
    refine jq_less (L' := [(0, .ref (aD G 0 32)), (1, .int x1)]) [0, 1] rfl ?_
    exact ok_X9_setting_J15 hC he h
theorem mt_X9_setting {G : Gt} {x1 : Int32} {w : Wd} {Q : Int32 → Wd → Prop} (h : wp_X9_setting x1 w Q) : Mt G D_X9_setting [.ref (aD G 0 32), .int x1] w (qi Q) := Mt_of (by decide +kernel) rfl rfl (Nat.le_of_ble_eq_true rfl) (fun M Qf hC he => ok_X9_setting hC he h)
/-! X9.worstOf()I -/
theorem dX9_worstOf_0 : decode cX9_worstOf 0 = .ok (.iconst (-1), 1) := by decide +kernel
theorem dX9_worstOf_1 : decode cX9_worstOf 1 = .ok (.istore_n 1, 1) := by decide +kernel
theorem dX9_worstOf_2 : decode cX9_worstOf 2 = .ok (.iconst 0, 1) := by decide +kernel
theorem dX9_worstOf_3 : decode cX9_worstOf 3 = .ok (.istore_n 2, 1) := by decide +kernel
theorem dX9_worstOf_4 : decode cX9_worstOf 4 = .ok (.iconst 0, 1) := by decide +kernel
theorem dX9_worstOf_5 : decode cX9_worstOf 5 = .ok (.istore_n 3, 1) := by decide +kernel
theorem dX9_worstOf_6 : decode cX9_worstOf 6 = .ok (.iload_n 3, 1) := by decide +kernel
theorem dX9_worstOf_7 : decode cX9_worstOf 7 = .ok (.aload_n 0, 1) := by decide +kernel
theorem dX9_worstOf_8 : decode cX9_worstOf 8 = .ok (.getfield 98, 3) := by decide +kernel
theorem dX9_worstOf_11 : decode cX9_worstOf 11 = .ok (.if_icmp .ge 66, 3) := by decide +kernel
theorem dX9_worstOf_14 : decode cX9_worstOf 14 = .ok (.aload_n 0, 1) := by decide +kernel
theorem dX9_worstOf_15 : decode cX9_worstOf 15 = .ok (.iload_n 3, 1) := by decide +kernel
theorem dX9_worstOf_16 : decode cX9_worstOf 16 = .ok (.invokevirtual 113, 3) := by decide +kernel
theorem dX9_worstOf_19 : decode cX9_worstOf 19 = .ok (.invokestatic 107, 3) := by decide +kernel
theorem dX9_worstOf_22 : decode cX9_worstOf 22 = .ok (.aload_n 0, 1) := by decide +kernel
theorem dX9_worstOf_23 : decode cX9_worstOf 23 = .ok (.iload_n 3, 1) := by decide +kernel
theorem dX9_worstOf_24 : decode cX9_worstOf 24 = .ok (.invokevirtual 116, 3) := by decide +kernel
theorem dX9_worstOf_27 : decode cX9_worstOf 27 = .ok (.isub, 1) := by decide +kernel
theorem dX9_worstOf_28 : decode cX9_worstOf 28 = .ok (.istore 4, 2) := by decide +kernel
theorem dX9_worstOf_30 : decode cX9_worstOf 30 = .ok (.iload_n 1, 1) := by decide +kernel
theorem dX9_worstOf_31 : decode cX9_worstOf 31 = .ok (.iconst (-1), 1) := by decide +kernel
theorem dX9_worstOf_32 : decode cX9_worstOf 32 = .ok (.if_icmp .eq 9, 3) := by decide +kernel
theorem dX9_worstOf_35 : decode cX9_worstOf 35 = .ok (.iload 4, 2) := by decide +kernel
theorem dX9_worstOf_37 : decode cX9_worstOf 37 = .ok (.iload_n 2, 1) := by decide +kernel
theorem dX9_worstOf_38 : decode cX9_worstOf 38 = .ok (.if_icmp .le 7, 3) := by decide +kernel
theorem dX9_worstOf_41 : decode cX9_worstOf 41 = .ok (.iconst 1, 1) := by decide +kernel
theorem dX9_worstOf_42 : decode cX9_worstOf 42 = .ok (.goto 4, 3) := by decide +kernel
theorem dX9_worstOf_45 : decode cX9_worstOf 45 = .ok (.iconst 0, 1) := by decide +kernel
theorem dX9_worstOf_46 : decode cX9_worstOf 46 = .ok (.istore 5, 2) := by decide +kernel
theorem dX9_worstOf_48 : decode cX9_worstOf 48 = .ok (.iload 5, 2) := by decide +kernel
theorem dX9_worstOf_50 : decode cX9_worstOf 50 = .ok (.ifCond .eq 7, 3) := by decide +kernel
theorem dX9_worstOf_53 : decode cX9_worstOf 53 = .ok (.iload_n 3, 1) := by decide +kernel
theorem dX9_worstOf_54 : decode cX9_worstOf 54 = .ok (.goto 4, 3) := by decide +kernel
theorem dX9_worstOf_57 : decode cX9_worstOf 57 = .ok (.iload_n 1, 1) := by decide +kernel
theorem dX9_worstOf_58 : decode cX9_worstOf 58 = .ok (.istore_n 1, 1) := by decide +kernel
theorem dX9_worstOf_59 : decode cX9_worstOf 59 = .ok (.iload 5, 2) := by decide +kernel
theorem dX9_worstOf_61 : decode cX9_worstOf 61 = .ok (.ifCond .eq 8, 3) := by decide +kernel
theorem dX9_worstOf_64 : decode cX9_worstOf 64 = .ok (.iload 4, 2) := by decide +kernel
theorem dX9_worstOf_66 : decode cX9_worstOf 66 = .ok (.goto 4, 3) := by decide +kernel
theorem dX9_worstOf_69 : decode cX9_worstOf 69 = .ok (.iload_n 2, 1) := by decide +kernel
theorem dX9_worstOf_70 : decode cX9_worstOf 70 = .ok (.istore_n 2, 1) := by decide +kernel
theorem dX9_worstOf_71 : decode cX9_worstOf 71 = .ok (.iinc 3 1, 3) := by decide +kernel
theorem dX9_worstOf_74 : decode cX9_worstOf 74 = .ok (.goto (-68), 3) := by decide +kernel
theorem dX9_worstOf_77 : decode cX9_worstOf 77 = .ok (.iload_n 1, 1) := by decide +kernel
theorem dX9_worstOf_78 : decode cX9_worstOf 78 = .ok (.ireturn, 1) := by decide +kernel
set_option maxRecDepth 20000 in
theorem ggX9_worstOf_X9_allowed : GoodIn wsX9_worstOf wsX9_allowed := goodIn_r _ [22, 7, 23, 24, 25, 5, 26, 8, 9, 10, 11, 12, 16, 17, 18, 13, 14, 15, 27, 28, 29, 30, 31, 32, 33, 34, 35, 36, 37, 38, 39, 40, 41, 42, 43, 44, 45, 46, 47, 48, 49, 50, 51] (by decide +kernel) (by decide +kernel)
set_option maxRecDepth 20000 in
theorem gX9_worstOf_X9_allowed : GoodIn wsX9_worstOf (wsV RX9 116 RX9 yX9_allowed wsX9_allowed) := goodIn_app (goodIn_of _ (by decide +kernel)) ggX9_worstOf_X9_allowed
set_option maxRecDepth 20000 in
theorem ggX9_worstOf_X9_size : GoodIn wsX9_worstOf wsX9_size := goodIn_r _ [18] (by decide +kernel) (by decide +kernel)
set_option maxRecDepth 20000 in
theorem gX9_worstOf_X9_size : GoodIn wsX9_worstOf (va_wsS RX9 107 yX9_size wsX9_size) := goodIn_app (goodIn_of _ (by decide +kernel)) ggX9_worstOf_X9_size
set_option maxRecDepth 20000 in
theorem ggX9_worstOf_X9_missOf : GoodIn wsX9_worstOf wsX9_missOf := goodIn_r _ [6, 7, 8, 9, 10, 5, 11, 12, 13, 14, 15, 27, 28, 29, 30, 31, 32, 33, 34, 35, 36, 37, 38, 39, 40, 41, 42, 43, 44, 45, 46, 47, 48, 49, 50, 51] (by decide +kernel) (by decide +kernel)
set_option maxRecDepth 20000 in
theorem gX9_worstOf_X9_missOf : GoodIn wsX9_worstOf (wsV RX9 113 RX9 yX9_missOf wsX9_missOf) := goodIn_app (goodIn_of _ (by decide +kernel)) ggX9_worstOf_X9_missOf
def D_X9_worstOf : Md := (yX9_worstOf, cX9_worstOf, 6, (some .int), wsX9_worstOf, RX9, { frames := 3, cells := 0, slots := 0, locals := 66 })
theorem nm_X9_worstOf : nmD D_X9_worstOf 0 := ⟨rfl, by decide +kernel, by decide +kernel, by decide +kernel⟩
theorem hi_X9_worstOf_X9 : ∀ w ∈ u_ws RX9 TX9 25, w ∈ wsX9_worstOf := by decide +kernel
theorem hl_X9_worstOf_98 : Cond.fieldLink RX9 98 "LevelLoopsModel" "manyLoops" "I" ∈ wsX9_worstOf := by decide +kernel
def wp_X9_worstOf_J58 (x2 : Int32) (x3 : Int32) (x4 : Int32) (x5 : Int32) (s0 : Int32) (w : Wd) (Q : Int32 → Prop) (K6 : Int32 → Int32 → Int32 → Prop) : Prop :=
  ((x5 = 0 → K6 s0 x2 (x3 + 1)) ∧ (¬ x5 = 0 → K6 s0 x4 (x3 + 1)))
def wp_X9_worstOf_J46 (x1 : Int32) (x2 : Int32) (x3 : Int32) (x4 : Int32) (s0 : Int32) (w : Wd) (Q : Int32 → Prop) (K6 : Int32 → Int32 → Int32 → Prop) : Prop :=
  ((s0 = 0 → wp_X9_worstOf_J58 x2 x3 x4 s0 x1 w Q K6) ∧ (¬ s0 = 0 → wp_X9_worstOf_J58 x2 x3 x4 s0 x3 w Q K6))
def wp_X9_worstOf_B6 (x1 : Int32) (x2 : Int32) (x3 : Int32) (w : Wd) (Q : Int32 → Prop) (K6 : Int32 → Int32 → Int32 → Prop) : Prop :=
  (((wi w 0 32 15) ≤ x3 → Q x1) ∧ (¬ (wi w 0 32 15) ≤ x3 → wp_X9_missOf x3 w (fun r16 => wp_X9_size r16 (fun r19 => wp_X9_allowed x3 w (fun r24 => ((x1 = (-1 : Int32) → wp_X9_worstOf_J46 x1 x2 x3 (r19 - r24) (1 : Int32) w Q K6) ∧ (¬ x1 = (-1 : Int32) → (((r19 - r24) ≤ x2 → wp_X9_worstOf_J46 x1 x2 x3 (r19 - r24) (0 : Int32) w Q K6) ∧ (¬ (r19 - r24) ≤ x2 → wp_X9_worstOf_J46 x1 x2 x3 (r19 - r24) (1 : Int32) w Q K6)))))))))
def wp_X9_worstOf_L6 (x1 : Int32) (x2 : Int32) (x3 : Int32) (w : Wd) (Q : Int32 → Prop) : Prop :=
  ∃ (I : Int32 → Int32 → Int32 → Prop) (μ : Int32 → Int32 → Int32 → Nat), I x1 x2 x3 ∧ ∀ (x1 : Int32) (x2 : Int32) (x3 : Int32), I x1 x2 x3 → wp_X9_worstOf_B6 x1 x2 x3 w Q (fun x1' x2' x3' => I x1' x2' x3' ∧ μ x1' x2' x3' < μ x1 x2 x3)
def wp_X9_worstOf (w : Wd) (Q : Int32 → Prop) : Prop :=
  wp_X9_worstOf_L6 (-1 : Int32) (0 : Int32) (0 : Int32) w Q
theorem ok_X9_worstOf_J58 {G : Gt} {M : Mx} {Qf : State → Prop} {x2 : Int32} {x3 : Int32} {x4 : Int32} {x5 : Int32} {s0 : Int32} {w : Wd} {Q : Int32 → Prop} {K6 : Int32 → Int32 → Int32 → Prop} (hC : cx G D_X9_worstOf M) (he : en G M (qip w Q) Qf) (h : wp_X9_worstOf_J58 x2 x3 x4 x5 s0 w Q K6) (hK6 : ∀ (x1 : Int32) (x2 : Int32) (x3 : Int32), K6 x1 x2 x3 → jq G D_X9_worstOf M Qf 6 [(0, .ref (aD G 0 32)), (1, .int x1), (2, .int x2), (3, .int x3)] [] w) : jq G D_X9_worstOf M Qf 58 [(0, .ref (aD G 0 32)), (2, .int x2), (3, .int x3), (4, .int x4), (5, .int x5)] [.int s0] w := by
  unfold wp_X9_worstOf_J58 at h
  refine jq_istore_n (L' := [(1, .int s0), (0, .ref (aD G 0 32)), (2, .int x2), (3, .int x3), (4, .int x4), (5, .int x5)]) dX9_worstOf_58 hC rfl (by decide) rfl ?_
  refine jq_iload (k0 := 5) dX9_worstOf_59 hC rfl ?_
  refine jq_if_eq (tgt := 69) dX9_worstOf_61 hC (by decide) (fun c61 => ?_) (fun c61 => ?_)
  · have h := h.1 c61
    refine jq_iload_n (k0 := 2) dX9_worstOf_69 hC rfl rfl ?_
    refine jq_istore_n (L' := [(2, .int x2), (1, .int s0), (0, .ref (aD G 0 32)), (3, .int x3), (4, .int x4), (5, .int x5)]) dX9_worstOf_70 hC rfl (by decide) rfl ?_
    refine jq_iinc (k0 := 3) (v := (x3 + 1)) (L' := [(3, .int (x3 + 1)), (2, .int x2), (1, .int s0), (0, .ref (aD G 0 32)), (4, .int x4), (5, .int x5)]) dX9_worstOf_71 hC rfl rfl (by decide) rfl ?_
    refine jq_goto (tgt := 6) dX9_worstOf_74 hC (by decide) ?_
    exact jq_less (L' := [(0, .ref (aD G 0 32)), (1, .int s0), (2, .int x2), (3, .int (x3 + 1))]) [3, 2, 1, 0] rfl (hK6 _ _ _ h)
  · have h := h.2 c61
    refine jq_iload (k0 := 4) dX9_worstOf_64 hC rfl ?_
    refine jq_goto (tgt := 70) dX9_worstOf_66 hC (by decide) ?_
    refine jq_istore_n (L' := [(2, .int x4), (1, .int s0), (0, .ref (aD G 0 32)), (3, .int x3), (4, .int x4), (5, .int x5)]) dX9_worstOf_70 hC rfl (by decide) rfl ?_
    refine jq_iinc (k0 := 3) (v := (x3 + 1)) (L' := [(3, .int (x3 + 1)), (2, .int x4), (1, .int s0), (0, .ref (aD G 0 32)), (4, .int x4), (5, .int x5)]) dX9_worstOf_71 hC rfl rfl (by decide) rfl ?_
    refine jq_goto (tgt := 6) dX9_worstOf_74 hC (by decide) ?_
    exact jq_less (L' := [(0, .ref (aD G 0 32)), (1, .int s0), (2, .int x4), (3, .int (x3 + 1))]) [3, 2, 1, 0] rfl (hK6 _ _ _ h)
theorem ok_X9_worstOf_J46 {G : Gt} {M : Mx} {Qf : State → Prop} {x1 : Int32} {x2 : Int32} {x3 : Int32} {x4 : Int32} {s0 : Int32} {w : Wd} {Q : Int32 → Prop} {K6 : Int32 → Int32 → Int32 → Prop} (hC : cx G D_X9_worstOf M) (he : en G M (qip w Q) Qf) (h : wp_X9_worstOf_J46 x1 x2 x3 x4 s0 w Q K6) (hK6 : ∀ (x1 : Int32) (x2 : Int32) (x3 : Int32), K6 x1 x2 x3 → jq G D_X9_worstOf M Qf 6 [(0, .ref (aD G 0 32)), (1, .int x1), (2, .int x2), (3, .int x3)] [] w) : jq G D_X9_worstOf M Qf 46 [(0, .ref (aD G 0 32)), (1, .int x1), (2, .int x2), (3, .int x3), (4, .int x4)] [.int s0] w := by
  unfold wp_X9_worstOf_J46 at h
  refine jq_istore (L' := [(5, .int s0), (0, .ref (aD G 0 32)), (1, .int x1), (2, .int x2), (3, .int x3), (4, .int x4)]) dX9_worstOf_46 hC (by decide) rfl ?_
  refine jq_iload (k0 := 0) dX9_worstOf_48 hC rfl ?_
  refine jq_if_eq (tgt := 57) dX9_worstOf_50 hC (by decide) (fun c50 => ?_) (fun c50 => ?_)
  · have h := h.1 c50
    refine jq_iload_n (k0 := 2) dX9_worstOf_57 hC rfl rfl ?_
    refine jq_less (L' := [(0, .ref (aD G 0 32)), (2, .int x2), (3, .int x3), (4, .int x4), (5, .int s0)]) [1, 3, 4, 5, 0] rfl ?_
    exact ok_X9_worstOf_J58 hC he h hK6
  · have h := h.2 c50
    refine jq_iload_n (k0 := 4) dX9_worstOf_53 hC rfl rfl ?_
    refine jq_goto (tgt := 58) dX9_worstOf_54 hC (by decide) ?_
    refine jq_less (L' := [(0, .ref (aD G 0 32)), (2, .int x2), (3, .int x3), (4, .int x4), (5, .int s0)]) [1, 3, 4, 5, 0] rfl ?_
    exact ok_X9_worstOf_J58 hC he h hK6
theorem ok_X9_worstOf_B6 {G : Gt} {M : Mx} {Qf : State → Prop} {x1 : Int32} {x2 : Int32} {x3 : Int32} {w : Wd} {Q : Int32 → Prop} {K6 : Int32 → Int32 → Int32 → Prop} (hC : cx G D_X9_worstOf M) (he : en G M (qip w Q) Qf) (h : wp_X9_worstOf_B6 x1 x2 x3 w Q K6) (hK6 : ∀ (x1 : Int32) (x2 : Int32) (x3 : Int32), K6 x1 x2 x3 → jq G D_X9_worstOf M Qf 6 [(0, .ref (aD G 0 32)), (1, .int x1), (2, .int x2), (3, .int x3)] [] w) : jq G D_X9_worstOf M Qf 6 [(0, .ref (aD G 0 32)), (1, .int x1), (2, .int x2), (3, .int x3)] [] w := by
  unfold wp_X9_worstOf_B6 at h
  refine jq_iload_n (k0 := 3) dX9_worstOf_6 hC rfl rfl ?_
  refine jq_aload_n (k0 := 0) dX9_worstOf_7 hC rfl rfl ?_
  refine jq_get (k0 := 15) (n := 0) (o := 32) dX9_worstOf_8 hC (cl_0 (by decide)) rfl rfl hi_X9_worstOf_X9 (by decide) hl_X9_worstOf_98 rfl rfl ?_
  refine jq_icmp_ge (tgt := 77) dX9_worstOf_11 hC (by decide) (fun c11 => ?_) (fun c11 => ?_)
  · have h := h.1 c11
    refine jq_iload_n (k0 := 1) dX9_worstOf_77 hC rfl rfl ?_
    exact jq_iret dX9_worstOf_78 hC he rfl ⟨_, rfl, rfl, h⟩
  · have h := h.2 c11
    refine jq_aload_n (k0 := 0) dX9_worstOf_14 hC rfl rfl ?_
    refine jq_iload_n (k0 := 3) dX9_worstOf_15 hC rfl rfl ?_
    refine jq_callV (As := [.int x3]) (rest := []) (n := 0) (o := 32) (D' := D_X9_missOf) dX9_worstOf_16 hC (cl_0 (by decide)) rfl rfl rfl (mt_X9_missOf h) gX9_worstOf_X9_missOf rfl ⟨rfl, rfl, Nat.le_of_ble_eq_true rfl, Nat.le_of_ble_eq_true rfl⟩ nm_X9_missOf rfl (Nat.le_of_ble_eq_true rfl) (kIp fun r16 h => ?_)
    refine jq_callS (As := [.int r16]) (rest := []) (D' := D_X9_size) dX9_worstOf_19 hC (mt_X9_size h) gX9_worstOf_X9_size rfl ⟨rfl, rfl, Nat.le_of_ble_eq_true rfl, Nat.le_of_ble_eq_true rfl⟩ nm_X9_size rfl (Nat.le_of_ble_eq_true rfl) (kIp fun r19 h => ?_)
    refine jq_aload_n (k0 := 0) dX9_worstOf_22 hC rfl rfl ?_
    refine jq_iload_n (k0 := 3) dX9_worstOf_23 hC rfl rfl ?_
    refine jq_callV (As := [.int x3]) (rest := [.int r19]) (n := 0) (o := 32) (D' := D_X9_allowed) dX9_worstOf_24 hC (cl_0 (by decide)) rfl rfl rfl (mt_X9_allowed h) gX9_worstOf_X9_allowed rfl ⟨rfl, rfl, Nat.le_of_ble_eq_true rfl, Nat.le_of_ble_eq_true rfl⟩ nm_X9_allowed rfl (Nat.le_of_ble_eq_true rfl) (kIp fun r24 h => ?_)
    refine jq_isub dX9_worstOf_27 hC ?_
    refine jq_istore (L' := [(4, .int (r19 - r24)), (0, .ref (aD G 0 32)), (1, .int x1), (2, .int x2), (3, .int x3)]) dX9_worstOf_28 hC (by decide) rfl ?_
    refine jq_iload_n (k0 := 2) dX9_worstOf_30 hC rfl rfl ?_
    refine jq_iconst (v := (-1 : Int32)) dX9_worstOf_31 hC (by decide) ?_
    refine jq_icmp_eq (tgt := 41) dX9_worstOf_32 hC (by decide) (fun c32 => ?_) (fun c32 => ?_)
    · have h := h.1 c32
      refine jq_iconst (v := (1 : Int32)) dX9_worstOf_41 hC (by decide) ?_
      refine jq_goto (tgt := 46) dX9_worstOf_42 hC (by decide) ?_
      refine jq_less (L' := [(0, .ref (aD G 0 32)), (1, .int x1), (2, .int x2), (3, .int x3), (4, .int (r19 - r24))]) [1, 2, 3, 4, 0] rfl ?_
      exact ok_X9_worstOf_J46 hC he h hK6
    · have h := h.2 c32
      refine jq_iload (k0 := 0) dX9_worstOf_35 hC rfl ?_
      refine jq_iload_n (k0 := 3) dX9_worstOf_37 hC rfl rfl ?_
      refine jq_icmp_le (tgt := 45) dX9_worstOf_38 hC (by decide) (fun c38 => ?_) (fun c38 => ?_)
      · have h := h.1 c38
        refine jq_iconst (v := (0 : Int32)) dX9_worstOf_45 hC (by decide) ?_
        refine jq_less (L' := [(0, .ref (aD G 0 32)), (1, .int x1), (2, .int x2), (3, .int x3), (4, .int (r19 - r24))]) [1, 2, 3, 4, 0] rfl ?_
        exact ok_X9_worstOf_J46 hC he h hK6
      · have h := h.2 c38
        refine jq_iconst (v := (1 : Int32)) dX9_worstOf_41 hC (by decide) ?_
        refine jq_goto (tgt := 46) dX9_worstOf_42 hC (by decide) ?_
        refine jq_less (L' := [(0, .ref (aD G 0 32)), (1, .int x1), (2, .int x2), (3, .int x3), (4, .int (r19 - r24))]) [1, 2, 3, 4, 0] rfl ?_
        exact ok_X9_worstOf_J46 hC he h hK6
theorem ok_X9_worstOf_L6 {G : Gt} {M : Mx} {Qf : State → Prop} {x1 : Int32} {x2 : Int32} {x3 : Int32} {w : Wd} {Q : Int32 → Prop} (hC : cx G D_X9_worstOf M) (he : en G M (qip w Q) Qf) (h : wp_X9_worstOf_L6 x1 x2 x3 w Q) : jq G D_X9_worstOf M Qf 6 [(0, .ref (aD G 0 32)), (1, .int x1), (2, .int x2), (3, .int x3)] [] w := by
  unfold wp_X9_worstOf_L6 at h
  obtain ⟨I, μ, h0, hs⟩ := h
  exact lp_ind (σ := Int32 × Int32 × Int32) (P := fun s => jq G D_X9_worstOf M Qf 6 [(0, .ref (aD G 0 32)), (1, .int s.1), (2, .int s.2.1), (3, .int s.2.2)] [] w) (fun s => I s.1 s.2.1 s.2.2) (fun s => μ s.1 s.2.1 s.2.2) (fun s h1 ih => ok_X9_worstOf_B6 hC he (hs s.1 s.2.1 s.2.2 h1) (fun x1' x2' x3' h => ih (x1', x2', x3') h.1 h.2)) (x1, x2, x3) h0
theorem ok_X9_worstOf {G : Gt} {M : Mx} {Qf : State → Prop} {w : Wd} {Q : Int32 → Prop} (hC : cx G D_X9_worstOf M) (he : en G M (qip w Q) Qf) (h : wp_X9_worstOf w Q) : jq G D_X9_worstOf M Qf 0 [(0, .ref (aD G 0 32))] [] w := by
  unfold wp_X9_worstOf at h
  refine jq_iconst (v := (-1 : Int32)) dX9_worstOf_0 hC (by decide) ?_
  refine jq_istore_n (L' := [(1, .int (-1 : Int32)), (0, .ref (aD G 0 32))]) dX9_worstOf_1 hC rfl (by decide) rfl ?_
  refine jq_iconst (v := (0 : Int32)) dX9_worstOf_2 hC (by decide) ?_
  refine jq_istore_n (L' := [(2, .int (0 : Int32)), (1, .int (-1 : Int32)), (0, .ref (aD G 0 32))]) dX9_worstOf_3 hC rfl (by decide) rfl ?_
  refine jq_iconst (v := (0 : Int32)) dX9_worstOf_4 hC (by decide) ?_
  refine jq_istore_n (L' := [(3, .int (0 : Int32)), (2, .int (0 : Int32)), (1, .int (-1 : Int32)), (0, .ref (aD G 0 32))]) dX9_worstOf_5 hC rfl (by decide) rfl ?_
  refine jq_less (L' := [(0, .ref (aD G 0 32)), (1, .int (-1 : Int32)), (2, .int (0 : Int32)), (3, .int (0 : Int32))]) [3, 2, 1, 0] rfl ?_
  exact ok_X9_worstOf_L6 hC he h
theorem mt_X9_worstOf {G : Gt} {w : Wd} {Q : Int32 → Prop} (h : wp_X9_worstOf w Q) : Mt G D_X9_worstOf [.ref (aD G 0 32)] w (qip w Q) := Mt_of (by decide +kernel) rfl rfl (Nat.le_of_ble_eq_true rfl) (fun M Qf hC he => ok_X9_worstOf hC he h)
/-! X9.worst()I -/
theorem dX9_worst_0 : decode cX9_worst 0 = .ok (.aload_n 0, 1) := by decide +kernel
theorem dX9_worst_1 : decode cX9_worst 1 = .ok (.iconst 0, 1) := by decide +kernel
theorem dX9_worst_2 : decode cX9_worst 2 = .ok (.putfield 65, 3) := by decide +kernel
theorem dX9_worst_5 : decode cX9_worst 5 = .ok (.aload_n 0, 1) := by decide +kernel
theorem dX9_worst_6 : decode cX9_worst 6 = .ok (.invokevirtual 148, 3) := by decide +kernel
theorem dX9_worst_9 : decode cX9_worst 9 = .ok (.aload_n 0, 1) := by decide +kernel
theorem dX9_worst_10 : decode cX9_worst 10 = .ok (.invokevirtual 266, 3) := by decide +kernel
theorem dX9_worst_13 : decode cX9_worst 13 = .ok (.ireturn, 1) := by decide +kernel
set_option maxRecDepth 20000 in
theorem ggX9_worst_X9_worstOf : GoodIn wsX9_worst wsX9_worstOf := goodIn_r _ [82, 39, 59, 60, 61, 5, 62, 11, 63, 64, 65, 66, 41, 20, 21, 22, 67, 68, 69, 83, 84, 85, 86, 87, 88, 89, 90, 91, 92, 93, 94, 95, 96, 97, 98, 99, 100, 101, 102, 103, 104, 105, 106, 107, 108, 109, 110, 111, 112, 113, 114, 115] (by decide +kernel) (by decide +kernel)
set_option maxRecDepth 20000 in
theorem gX9_worst_X9_worstOf : GoodIn wsX9_worst (wsV RX9 266 RX9 yX9_worstOf wsX9_worstOf) := goodIn_app (goodIn_of _ (by decide +kernel)) ggX9_worst_X9_worstOf
set_option maxRecDepth 20000 in
theorem ggX9_worst_X9_layOut : GoodIn wsX9_worst wsX9_layOut := goodIn_r _ [6, 7, 8, 9, 5, 10, 11, 12, 13, 14, 15, 16, 17, 18, 19, 20, 21, 22, 23, 24, 25, 26, 27, 28, 29, 30, 31, 32, 33, 34, 35, 36, 37, 38, 39, 40, 41, 42, 43, 44, 45, 46, 47, 48, 49, 50, 51, 52, 53, 54, 55, 56, 57, 58, 59, 60, 61, 62, 63, 64, 65, 66, 67, 68, 69, 70, 71, 72, 73, 74, 75, 76, 77, 78, 91, 92, 93, 94, 95, 96, 97, 98, 99, 100, 101, 102, 103, 104, 105, 106, 107, 108, 109, 110, 111, 112, 113, 114, 115] (by decide +kernel) (by decide +kernel)
set_option maxRecDepth 20000 in
theorem gX9_worst_X9_layOut : GoodIn wsX9_worst (wsV RX9 148 RX9 yX9_layOut wsX9_layOut) := goodIn_app (goodIn_of _ (by decide +kernel)) ggX9_worst_X9_layOut
def D_X9_worst : Md := (yX9_worst, cX9_worst, 1, (some .int), wsX9_worst, RX9, { frames := 5, cells := 0, slots := 0, locals := 113 })
theorem nm_X9_worst : nmD D_X9_worst 0 := ⟨rfl, by decide +kernel, by decide +kernel, by decide +kernel⟩
theorem hi_X9_worst_X9 : ∀ w ∈ u_ws RX9 TX9 25, w ∈ wsX9_worst := by decide +kernel
theorem hl_X9_worst_65 : Cond.fieldLink RX9 65 "LevelLoopsModel" "thrown" "I" ∈ wsX9_worst := by decide +kernel
def wp_X9_worst (w : Wd) (Q : Int32 → Wd → Prop) : Prop :=
  (∀ w2 : Wd, w2 = (sI w 0 32 0 (0 : Int32)) → wp_X9_layOut w2 (fun w6 => wp_X9_worstOf w6 (fun r10 => Q r10 w6)))
theorem ok_X9_worst {G : Gt} {M : Mx} {Qf : State → Prop} {w : Wd} {Q : Int32 → Wd → Prop} (hC : cx G D_X9_worst M) (he : en G M (qi Q) Qf) (h : wp_X9_worst w Q) : jq G D_X9_worst M Qf 0 [(0, .ref (aD G 0 32))] [] w := by
  unfold wp_X9_worst at h
  refine jq_aload_n (k0 := 0) dX9_worst_0 hC rfl rfl ?_
  refine jq_iconst (v := (0 : Int32)) dX9_worst_1 hC (by decide) ?_
  refine jq_put (k0 := 0) (n := 0) (o := 32) (ty := .int) (w' := (sI w 0 32 0 (0 : Int32))) dX9_worst_2 hC (cl_0 (by decide)) rfl rfl hi_X9_worst_X9 tyX9 tyX9_ok nmX9 (by decide) hl_X9_worst_65 rfl rfl (by decide +kernel) rfl rfl (Nat.le_of_ble_eq_true rfl) (e_32_0 G _ _ _) (fun c _ hne => ent_sA c hne) ?_
  refine jq_w (fun w2 e2 => ?_)
  have h := h w2 e2
  refine jq_aload_n (k0 := 0) dX9_worst_5 hC rfl rfl ?_
  refine jq_callV (As := []) (rest := []) (n := 0) (o := 32) (D' := D_X9_layOut) dX9_worst_6 hC (cl_0 (by decide)) rfl rfl rfl (mt_X9_layOut h) gX9_worst_X9_layOut rfl ⟨rfl, rfl, Nat.le_of_ble_eq_true rfl, Nat.le_of_ble_eq_true rfl⟩ nm_X9_layOut rfl (Nat.le_of_ble_eq_true rfl) (kV fun w6 h => ?_)
  refine jq_aload_n (k0 := 0) dX9_worst_9 hC rfl rfl ?_
  refine jq_callV (As := []) (rest := []) (n := 0) (o := 32) (D' := D_X9_worstOf) dX9_worst_10 hC (cl_0 (by decide)) rfl rfl rfl (mt_X9_worstOf h) gX9_worst_X9_worstOf rfl ⟨rfl, rfl, Nat.le_of_ble_eq_true rfl, Nat.le_of_ble_eq_true rfl⟩ nm_X9_worstOf rfl (Nat.le_of_ble_eq_true rfl) (kIp fun r10 h => ?_)
  exact jq_iret dX9_worst_13 hC he rfl ⟨_, rfl, h⟩
theorem mt_X9_worst {G : Gt} {w : Wd} {Q : Int32 → Wd → Prop} (h : wp_X9_worst w Q) : Mt G D_X9_worst [.ref (aD G 0 32)] w (qi Q) := Mt_of (by decide +kernel) rfl rfl (Nat.le_of_ble_eq_true rfl) (fun M Qf hC he => ok_X9_worst hC he h)
/-! X9.isBetter(II)Z -/
theorem dX9_isBetter_0 : decode cX9_isBetter 0 = .ok (.aload_n 0, 1) := by decide +kernel
theorem dX9_isBetter_1 : decode cX9_isBetter 1 = .ok (.iload_n 1, 1) := by decide +kernel
theorem dX9_isBetter_2 : decode cX9_isBetter 2 = .ok (.iconst 0, 1) := by decide +kernel
theorem dX9_isBetter_3 : decode cX9_isBetter 3 = .ok (.invokevirtual 235, 3) := by decide +kernel
theorem dX9_isBetter_6 : decode cX9_isBetter 6 = .ok (.aload_n 0, 1) := by decide +kernel
theorem dX9_isBetter_7 : decode cX9_isBetter 7 = .ok (.iload_n 2, 1) := by decide +kernel
theorem dX9_isBetter_8 : decode cX9_isBetter 8 = .ok (.iconst 0, 1) := by decide +kernel
theorem dX9_isBetter_9 : decode cX9_isBetter 9 = .ok (.invokevirtual 235, 3) := by decide +kernel
theorem dX9_isBetter_12 : decode cX9_isBetter 12 = .ok (.isub, 1) := by decide +kernel
theorem dX9_isBetter_13 : decode cX9_isBetter 13 = .ok (.istore_n 3, 1) := by decide +kernel
theorem dX9_isBetter_14 : decode cX9_isBetter 14 = .ok (.iload_n 3, 1) := by decide +kernel
theorem dX9_isBetter_15 : decode cX9_isBetter 15 = .ok (.ifCond .lt 30, 3) := by decide +kernel
theorem dX9_isBetter_18 : decode cX9_isBetter 18 = .ok (.iload_n 3, 1) := by decide +kernel
theorem dX9_isBetter_19 : decode cX9_isBetter 19 = .ok (.ifCond .ne 30, 3) := by decide +kernel
theorem dX9_isBetter_22 : decode cX9_isBetter 22 = .ok (.aload_n 0, 1) := by decide +kernel
theorem dX9_isBetter_23 : decode cX9_isBetter 23 = .ok (.getfield 7, 3) := by decide +kernel
theorem dX9_isBetter_26 : decode cX9_isBetter 26 = .ok (.iload_n 1, 1) := by decide +kernel
theorem dX9_isBetter_27 : decode cX9_isBetter 27 = .ok (.iconst 2, 1) := by decide +kernel
theorem dX9_isBetter_28 : decode cX9_isBetter 28 = .ok (.invokestatic 76, 3) := by decide +kernel
theorem dX9_isBetter_31 : decode cX9_isBetter 31 = .ok (.iaload, 1) := by decide +kernel
theorem dX9_isBetter_32 : decode cX9_isBetter 32 = .ok (.aload_n 0, 1) := by decide +kernel
theorem dX9_isBetter_33 : decode cX9_isBetter 33 = .ok (.getfield 7, 3) := by decide +kernel
theorem dX9_isBetter_36 : decode cX9_isBetter 36 = .ok (.iload_n 2, 1) := by decide +kernel
theorem dX9_isBetter_37 : decode cX9_isBetter 37 = .ok (.iconst 2, 1) := by decide +kernel
theorem dX9_isBetter_38 : decode cX9_isBetter 38 = .ok (.invokestatic 76, 3) := by decide +kernel
theorem dX9_isBetter_41 : decode cX9_isBetter 41 = .ok (.iaload, 1) := by decide +kernel
theorem dX9_isBetter_42 : decode cX9_isBetter 42 = .ok (.if_icmp .le 7, 3) := by decide +kernel
theorem dX9_isBetter_45 : decode cX9_isBetter 45 = .ok (.iconst 1, 1) := by decide +kernel
theorem dX9_isBetter_46 : decode cX9_isBetter 46 = .ok (.goto 4, 3) := by decide +kernel
theorem dX9_isBetter_49 : decode cX9_isBetter 49 = .ok (.iconst 0, 1) := by decide +kernel
theorem dX9_isBetter_50 : decode cX9_isBetter 50 = .ok (.ireturn, 1) := by decide +kernel
set_option maxRecDepth 20000 in
theorem ggX9_isBetter_X9_of : GoodIn wsX9_isBetter wsX9_of := goodIn_r _ [23] (by decide +kernel) (by decide +kernel)
set_option maxRecDepth 20000 in
theorem gX9_isBetter_X9_of : GoodIn wsX9_isBetter (va_wsS RX9 76 yX9_of wsX9_of) := goodIn_app (goodIn_of _ (by decide +kernel)) ggX9_isBetter_X9_of
set_option maxRecDepth 20000 in
theorem ggX9_isBetter_X9_loopsWith : GoodIn wsX9_isBetter wsX9_loopsWith := goodIn_r _ [6, 7, 8, 9, 10, 5, 11, 12, 13, 14, 15, 1, 16, 17, 18, 19, 20, 21, 22, 23, 24, 25, 26, 27, 28, 29, 30, 31, 32, 33, 34, 35, 36, 37, 38, 39, 40, 41, 42, 43, 44, 45, 46, 47, 48, 49, 50, 51, 52, 53, 54, 55, 56, 57, 58, 59] (by decide +kernel) (by decide +kernel)
set_option maxRecDepth 20000 in
theorem gX9_isBetter_X9_loopsWith : GoodIn wsX9_isBetter (wsV RX9 235 RX9 yX9_loopsWith wsX9_loopsWith) := goodIn_app (goodIn_of _ (by decide +kernel)) ggX9_isBetter_X9_loopsWith
def D_X9_isBetter : Md := (yX9_isBetter, cX9_isBetter, 4, (some .boolean), wsX9_isBetter, RX9, { frames := 5, cells := 0, slots := 0, locals := 112 })
theorem nm_X9_isBetter : nmD D_X9_isBetter 2 := ⟨rfl, by decide +kernel, by decide +kernel, by decide +kernel⟩
theorem hi_X9_isBetter_X9 : ∀ w ∈ u_ws RX9 TX9 25, w ∈ wsX9_isBetter := by decide +kernel
theorem hl_X9_isBetter_7 : Cond.fieldLink RX9 7 "LevelLoopsModel" "s" "[I" ∈ wsX9_isBetter := by decide +kernel
def wp_X9_isBetter_J49 (w : Wd) (Q : Int32 → Prop) : Prop :=
  zb (0 : Int32) ∧ Q (0 : Int32)
def wp_X9_isBetter (x1 : Int32) (x2 : Int32) (w : Wd) (Q : Int32 → Prop) : Prop :=
  wp_X9_loopsWith x1 (0 : Int32) w (fun r3 => wp_X9_loopsWith x2 (0 : Int32) w (fun r9 => (((r3 - r9) < 0 → zb (1 : Int32) ∧ Q (1 : Int32)) ∧ (¬ (r3 - r9) < 0 → ((¬ (r3 - r9) = 0 → wp_X9_isBetter_J49 w Q) ∧ ((r3 - r9) = 0 → wp_X9_of x1 (2 : Int32) (fun r28 => vp_in r28 95 ∧ wp_X9_of x2 (2 : Int32) (fun r38 => vp_in r38 95 ∧ (((wi w 0 33 r28.toNatClampNeg) ≤ (wi w 0 33 r38.toNatClampNeg) → wp_X9_isBetter_J49 w Q) ∧ (¬ (wi w 0 33 r28.toNatClampNeg) ≤ (wi w 0 33 r38.toNatClampNeg) → zb (1 : Int32) ∧ Q (1 : Int32)))))))))))
theorem ok_X9_isBetter_J49 {G : Gt} {M : Mx} {Qf : State → Prop} {w : Wd} {Q : Int32 → Prop} (hC : cx G D_X9_isBetter M) (he : en G M (qip w Q) Qf) (h : wp_X9_isBetter_J49 w Q) : jq G D_X9_isBetter M Qf 49 [] [] w := by
  unfold wp_X9_isBetter_J49 at h
  refine jq_iconst (v := (0 : Int32)) dX9_isBetter_49 hC (by decide) ?_
  obtain ⟨bz, h⟩ := h
  exact jq_zret dX9_isBetter_50 hC he rfl bz ⟨_, rfl, rfl, h⟩
theorem ok_X9_isBetter {G : Gt} {M : Mx} {Qf : State → Prop} {x1 : Int32} {x2 : Int32} {w : Wd} {Q : Int32 → Prop} (hC : cx G D_X9_isBetter M) (he : en G M (qip w Q) Qf) (h : wp_X9_isBetter x1 x2 w Q) : jq G D_X9_isBetter M Qf 0 [(0, .ref (aD G 0 32)), (1, .int x1), (2, .int x2)] [] w := by
  unfold wp_X9_isBetter at h
  refine jq_aload_n (k0 := 0) dX9_isBetter_0 hC rfl rfl ?_
  refine jq_iload_n (k0 := 1) dX9_isBetter_1 hC rfl rfl ?_
  refine jq_iconst (v := (0 : Int32)) dX9_isBetter_2 hC (by decide) ?_
  refine jq_callV (As := [.int x1, .int (0 : Int32)]) (rest := []) (n := 0) (o := 32) (D' := D_X9_loopsWith) dX9_isBetter_3 hC (cl_0 (by decide)) rfl rfl rfl (mt_X9_loopsWith h) gX9_isBetter_X9_loopsWith rfl ⟨rfl, rfl, Nat.le_of_ble_eq_true rfl, Nat.le_of_ble_eq_true rfl⟩ nm_X9_loopsWith rfl (Nat.le_of_ble_eq_true rfl) (kIp fun r3 h => ?_)
  refine jq_aload_n (k0 := 0) dX9_isBetter_6 hC rfl rfl ?_
  refine jq_iload_n (k0 := 2) dX9_isBetter_7 hC rfl rfl ?_
  refine jq_iconst (v := (0 : Int32)) dX9_isBetter_8 hC (by decide) ?_
  refine jq_callV (As := [.int x2, .int (0 : Int32)]) (rest := [.int r3]) (n := 0) (o := 32) (D' := D_X9_loopsWith) dX9_isBetter_9 hC (cl_0 (by decide)) rfl rfl rfl (mt_X9_loopsWith h) gX9_isBetter_X9_loopsWith rfl ⟨rfl, rfl, Nat.le_of_ble_eq_true rfl, Nat.le_of_ble_eq_true rfl⟩ nm_X9_loopsWith rfl (Nat.le_of_ble_eq_true rfl) (kIp fun r9 h => ?_)
  refine jq_isub dX9_isBetter_12 hC ?_
  refine jq_istore_n (L' := [(3, .int (r3 - r9)), (0, .ref (aD G 0 32)), (1, .int x1), (2, .int x2)]) dX9_isBetter_13 hC rfl (by decide) rfl ?_
  refine jq_iload_n (k0 := 0) dX9_isBetter_14 hC rfl rfl ?_
  refine jq_if_lt (tgt := 45) dX9_isBetter_15 hC (by decide) (fun c15 => ?_) (fun c15 => ?_)
  · have h := h.1 c15
    refine jq_iconst (v := (1 : Int32)) dX9_isBetter_45 hC (by decide) ?_
    refine jq_goto (tgt := 50) dX9_isBetter_46 hC (by decide) ?_
    obtain ⟨bz, h⟩ := h
    exact jq_zret dX9_isBetter_50 hC he rfl bz ⟨_, rfl, rfl, h⟩
  · have h := h.2 c15
    refine jq_iload_n (k0 := 0) dX9_isBetter_18 hC rfl rfl ?_
    refine jq_if_ne (tgt := 49) dX9_isBetter_19 hC (by decide) (fun c19 => ?_) (fun c19 => ?_)
    · have h := h.1 c19
      refine jq_less (L' := []) [] rfl ?_
      exact ok_X9_isBetter_J49 hC he h
    · have h := h.2 c19
      refine jq_aload_n (k0 := 1) dX9_isBetter_22 hC rfl rfl ?_
      refine jq_get (k0 := 1) (n := 0) (o := 32) dX9_isBetter_23 hC (cl_0 (by decide)) rfl rfl hi_X9_isBetter_X9 (by decide) hl_X9_isBetter_7 rfl rfl ?_
      refine jq_iload_n (k0 := 2) dX9_isBetter_26 hC rfl rfl ?_
      refine jq_iconst (v := (2 : Int32)) dX9_isBetter_27 hC (by decide) ?_
      refine jq_callS (As := [.int x1, .int (2 : Int32)]) (rest := [.ref (aD G 0 33)]) (D' := D_X9_of) dX9_isBetter_28 hC (mt_X9_of h) gX9_isBetter_X9_of rfl ⟨rfl, rfl, Nat.le_of_ble_eq_true rfl, Nat.le_of_ble_eq_true rfl⟩ nm_X9_of rfl (Nat.le_of_ble_eq_true rfl) (kIp fun r28 h => ?_)
      obtain ⟨b31, h⟩ := h
      refine jq_iald (n := 0) (o := 33) (j := r28.toNatClampNeg) dX9_isBetter_31 hC (cl_0 (by decide)) rfl b31 rfl ?_
      refine jq_aload_n (k0 := 1) dX9_isBetter_32 hC rfl rfl ?_
      refine jq_get (k0 := 1) (n := 0) (o := 32) dX9_isBetter_33 hC (cl_0 (by decide)) rfl rfl hi_X9_isBetter_X9 (by decide) hl_X9_isBetter_7 rfl rfl ?_
      refine jq_iload_n (k0 := 3) dX9_isBetter_36 hC rfl rfl ?_
      refine jq_iconst (v := (2 : Int32)) dX9_isBetter_37 hC (by decide) ?_
      refine jq_callS (As := [.int x2, .int (2 : Int32)]) (rest := [.ref (aD G 0 33), .int (wi w 0 33 r28.toNatClampNeg)]) (D' := D_X9_of) dX9_isBetter_38 hC (mt_X9_of h) gX9_isBetter_X9_of rfl ⟨rfl, rfl, Nat.le_of_ble_eq_true rfl, Nat.le_of_ble_eq_true rfl⟩ nm_X9_of rfl (Nat.le_of_ble_eq_true rfl) (kIp fun r38 h => ?_)
      obtain ⟨b41, h⟩ := h
      refine jq_iald (n := 0) (o := 33) (j := r38.toNatClampNeg) dX9_isBetter_41 hC (cl_0 (by decide)) rfl b41 rfl ?_
      refine jq_icmp_le (tgt := 49) dX9_isBetter_42 hC (by decide) (fun c42 => ?_) (fun c42 => ?_)
      · have h := h.1 c42
        refine jq_less (L' := []) [] rfl ?_
        exact ok_X9_isBetter_J49 hC he h
      · have h := h.2 c42
        refine jq_iconst (v := (1 : Int32)) dX9_isBetter_45 hC (by decide) ?_
        refine jq_goto (tgt := 50) dX9_isBetter_46 hC (by decide) ?_
        obtain ⟨bz, h⟩ := h
        exact jq_zret dX9_isBetter_50 hC he rfl bz ⟨_, rfl, rfl, h⟩
theorem mt_X9_isBetter {G : Gt} {x1 : Int32} {x2 : Int32} {w : Wd} {Q : Int32 → Prop} (h : wp_X9_isBetter x1 x2 w Q) : Mt G D_X9_isBetter [.ref (aD G 0 32), .int x1, .int x2] w (qip w Q) := Mt_of (by decide +kernel) rfl rfl (Nat.le_of_ble_eq_true rfl) (fun M Qf hC he => ok_X9_isBetter hC he h)
/-! X9.suspected()I -/
theorem dX9_suspected_0 : decode cX9_suspected 0 = .ok (.aload_n 0, 1) := by decide +kernel
theorem dX9_suspected_1 : decode cX9_suspected 1 = .ok (.invokevirtual 251, 3) := by decide +kernel
theorem dX9_suspected_4 : decode cX9_suspected 4 = .ok (.istore_n 1, 1) := by decide +kernel
theorem dX9_suspected_5 : decode cX9_suspected 5 = .ok (.iconst (-1), 1) := by decide +kernel
theorem dX9_suspected_6 : decode cX9_suspected 6 = .ok (.istore_n 2, 1) := by decide +kernel
theorem dX9_suspected_7 : decode cX9_suspected 7 = .ok (.iconst 0, 1) := by decide +kernel
theorem dX9_suspected_8 : decode cX9_suspected 8 = .ok (.istore_n 3, 1) := by decide +kernel
theorem dX9_suspected_9 : decode cX9_suspected 9 = .ok (.iload_n 3, 1) := by decide +kernel
theorem dX9_suspected_10 : decode cX9_suspected 10 = .ok (.aload_n 0, 1) := by decide +kernel
theorem dX9_suspected_11 : decode cX9_suspected 11 = .ok (.getfield 7, 3) := by decide +kernel
theorem dX9_suspected_14 : decode cX9_suspected 14 = .ok (.bipush 11, 2) := by decide +kernel
theorem dX9_suspected_16 : decode cX9_suspected 16 = .ok (.iaload, 1) := by decide +kernel
theorem dX9_suspected_17 : decode cX9_suspected 17 = .ok (.if_icmp .ge 43, 3) := by decide +kernel
theorem dX9_suspected_20 : decode cX9_suspected 20 = .ok (.iload_n 1, 1) := by decide +kernel
theorem dX9_suspected_21 : decode cX9_suspected 21 = .ok (.ifCond .le 39, 3) := by decide +kernel
theorem dX9_suspected_24 : decode cX9_suspected 24 = .ok (.aload_n 0, 1) := by decide +kernel
theorem dX9_suspected_25 : decode cX9_suspected 25 = .ok (.iload_n 3, 1) := by decide +kernel
theorem dX9_suspected_26 : decode cX9_suspected 26 = .ok (.iconst 1, 1) := by decide +kernel
theorem dX9_suspected_27 : decode cX9_suspected 27 = .ok (.invokevirtual 235, 3) := by decide +kernel
theorem dX9_suspected_30 : decode cX9_suspected 30 = .ok (.iload_n 1, 1) := by decide +kernel
theorem dX9_suspected_31 : decode cX9_suspected 31 = .ok (.if_icmp .ne 21, 3) := by decide +kernel
theorem dX9_suspected_34 : decode cX9_suspected 34 = .ok (.iload_n 2, 1) := by decide +kernel
theorem dX9_suspected_35 : decode cX9_suspected 35 = .ok (.iconst (-1), 1) := by decide +kernel
theorem dX9_suspected_36 : decode cX9_suspected 36 = .ok (.if_icmp .eq 12, 3) := by decide +kernel
theorem dX9_suspected_39 : decode cX9_suspected 39 = .ok (.aload_n 0, 1) := by decide +kernel
theorem dX9_suspected_40 : decode cX9_suspected 40 = .ok (.iload_n 3, 1) := by decide +kernel
theorem dX9_suspected_41 : decode cX9_suspected 41 = .ok (.iload_n 2, 1) := by decide +kernel
theorem dX9_suspected_42 : decode cX9_suspected 42 = .ok (.invokevirtual 269, 3) := by decide +kernel
theorem dX9_suspected_45 : decode cX9_suspected 45 = .ok (.ifCond .eq 7, 3) := by decide +kernel
theorem dX9_suspected_48 : decode cX9_suspected 48 = .ok (.iload_n 3, 1) := by decide +kernel
theorem dX9_suspected_49 : decode cX9_suspected 49 = .ok (.goto 4, 3) := by decide +kernel
theorem dX9_suspected_52 : decode cX9_suspected 52 = .ok (.iload_n 2, 1) := by decide +kernel
theorem dX9_suspected_53 : decode cX9_suspected 53 = .ok (.istore_n 2, 1) := by decide +kernel
theorem dX9_suspected_54 : decode cX9_suspected 54 = .ok (.iinc 3 1, 3) := by decide +kernel
theorem dX9_suspected_57 : decode cX9_suspected 57 = .ok (.goto (-48), 3) := by decide +kernel
theorem dX9_suspected_60 : decode cX9_suspected 60 = .ok (.iload_n 2, 1) := by decide +kernel
theorem dX9_suspected_61 : decode cX9_suspected 61 = .ok (.ireturn, 1) := by decide +kernel
set_option maxRecDepth 20000 in
theorem ggX9_suspected_X9_isBetter : GoodIn wsX9_suspected wsX9_isBetter := goodIn_r _ [42, 1, 35, 36, 37, 5, 38, 7, 8, 9, 10, 11, 12, 13, 14, 15, 16, 17, 18, 19, 20, 21, 22, 23, 24, 25, 26, 27, 28, 29, 30, 31, 32, 33, 34, 43, 44, 45, 46, 47, 48, 49, 50, 51, 52, 53, 54, 55, 56, 57, 58, 59, 60, 61, 62, 63, 64, 65, 66, 67] (by decide +kernel) (by decide +kernel)
set_option maxRecDepth 20000 in
theorem gX9_suspected_X9_isBetter : GoodIn wsX9_suspected (wsV RX9 269 RX9 yX9_isBetter wsX9_isBetter) := goodIn_app (goodIn_of _ (by decide +kernel)) ggX9_suspected_X9_isBetter
set_option maxRecDepth 20000 in
theorem ggX9_suspected_X9_loopsWith : GoodIn wsX9_suspected wsX9_loopsWith := goodIn_r _ [38, 7, 8, 9, 10, 5, 11, 12, 13, 14, 15, 1, 16, 17, 18, 19, 20, 21, 22, 23, 24, 25, 26, 27, 28, 29, 30, 31, 32, 33, 34, 43, 44, 45, 46, 47, 48, 49, 50, 51, 52, 53, 54, 55, 56, 57, 58, 59, 60, 61, 62, 63, 64, 65, 66, 67] (by decide +kernel) (by decide +kernel)
set_option maxRecDepth 20000 in
theorem gX9_suspected_X9_loopsWith : GoodIn wsX9_suspected (wsV RX9 235 RX9 yX9_loopsWith wsX9_loopsWith) := goodIn_app (goodIn_of _ (by decide +kernel)) ggX9_suspected_X9_loopsWith
set_option maxRecDepth 20000 in
theorem ggX9_suspected_X9_bads : GoodIn wsX9_suspected wsX9_bads := goodIn_r _ [6, 7, 8, 9, 10, 5, 11, 12, 13, 14, 15, 1, 16, 17, 18, 19, 20, 21, 22, 23, 24, 25, 26, 27, 28, 29, 30, 31, 32, 33, 34, 43, 44, 45, 46, 47, 48, 49, 50, 51, 52, 53, 54, 55, 56, 57, 58, 59, 60, 61, 62, 63, 64, 65, 66, 67] (by decide +kernel) (by decide +kernel)
set_option maxRecDepth 20000 in
theorem gX9_suspected_X9_bads : GoodIn wsX9_suspected (wsV RX9 251 RX9 yX9_bads wsX9_bads) := goodIn_app (goodIn_of _ (by decide +kernel)) ggX9_suspected_X9_bads
def D_X9_suspected : Md := (yX9_suspected, cX9_suspected, 4, (some .int), wsX9_suspected, RX9, { frames := 6, cells := 0, slots := 0, locals := 135 })
theorem nm_X9_suspected : nmD D_X9_suspected 0 := ⟨rfl, by decide +kernel, by decide +kernel, by decide +kernel⟩
theorem hi_X9_suspected_X9 : ∀ w ∈ u_ws RX9 TX9 25, w ∈ wsX9_suspected := by decide +kernel
theorem hl_X9_suspected_7 : Cond.fieldLink RX9 7 "LevelLoopsModel" "s" "[I" ∈ wsX9_suspected := by decide +kernel
def wp_X9_suspected_J52 (x1 : Int32) (x2 : Int32) (x3 : Int32) (w : Wd) (Q : Int32 → Prop) (K9 : Int32 → Int32 → Prop) : Prop :=
  K9 x2 (x3 + 1)
def wp_X9_suspected_B9 (x1 : Int32) (x2 : Int32) (x3 : Int32) (w : Wd) (Q : Int32 → Prop) (K9 : Int32 → Int32 → Prop) : Prop :=
  (((wi w 0 33 11) ≤ x3 → Q x2) ∧ (¬ (wi w 0 33 11) ≤ x3 → ((x1 ≤ 0 → Q x2) ∧ (¬ x1 ≤ 0 → wp_X9_loopsWith x3 (1 : Int32) w (fun r27 => ((¬ r27 = x1 → wp_X9_suspected_J52 x1 x2 x3 w Q K9) ∧ (r27 = x1 → ((x2 = (-1 : Int32) → K9 x3 (x3 + 1)) ∧ (¬ x2 = (-1 : Int32) → wp_X9_isBetter x3 x2 w (fun r42 => ((r42 = 0 → wp_X9_suspected_J52 x1 x2 x3 w Q K9) ∧ (¬ r42 = 0 → K9 x3 (x3 + 1)))))))))))))
def wp_X9_suspected_L9 (x1 : Int32) (x2 : Int32) (x3 : Int32) (w : Wd) (Q : Int32 → Prop) : Prop :=
  ∃ (I : Int32 → Int32 → Prop) (μ : Int32 → Int32 → Nat), I x2 x3 ∧ ∀ (x2 : Int32) (x3 : Int32), I x2 x3 → wp_X9_suspected_B9 x1 x2 x3 w Q (fun x2' x3' => I x2' x3' ∧ μ x2' x3' < μ x2 x3)
def wp_X9_suspected (w : Wd) (Q : Int32 → Prop) : Prop :=
  wp_X9_bads w (fun r1 => wp_X9_suspected_L9 r1 (-1 : Int32) (0 : Int32) w Q)
theorem ok_X9_suspected_J52 {G : Gt} {M : Mx} {Qf : State → Prop} {x1 : Int32} {x2 : Int32} {x3 : Int32} {w : Wd} {Q : Int32 → Prop} {K9 : Int32 → Int32 → Prop} (hC : cx G D_X9_suspected M) (he : en G M (qip w Q) Qf) (h : wp_X9_suspected_J52 x1 x2 x3 w Q K9) (hK9 : ∀ (x2 : Int32) (x3 : Int32), K9 x2 x3 → jq G D_X9_suspected M Qf 9 [(0, .ref (aD G 0 32)), (1, .int x1), (2, .int x2), (3, .int x3)] [] w) : jq G D_X9_suspected M Qf 52 [(0, .ref (aD G 0 32)), (1, .int x1), (2, .int x2), (3, .int x3)] [] w := by
  unfold wp_X9_suspected_J52 at h
  refine jq_iload_n (k0 := 2) dX9_suspected_52 hC rfl rfl ?_
  refine jq_istore_n (L' := [(2, .int x2), (0, .ref (aD G 0 32)), (1, .int x1), (3, .int x3)]) dX9_suspected_53 hC rfl (by decide) rfl ?_
  refine jq_iinc (k0 := 3) (v := (x3 + 1)) (L' := [(3, .int (x3 + 1)), (2, .int x2), (0, .ref (aD G 0 32)), (1, .int x1)]) dX9_suspected_54 hC rfl rfl (by decide) rfl ?_
  refine jq_goto (tgt := 9) dX9_suspected_57 hC (by decide) ?_
  exact jq_less (L' := [(0, .ref (aD G 0 32)), (1, .int x1), (2, .int x2), (3, .int (x3 + 1))]) [2, 3, 1, 0] rfl (hK9 _ _ h)
theorem ok_X9_suspected_B9 {G : Gt} {M : Mx} {Qf : State → Prop} {x1 : Int32} {x2 : Int32} {x3 : Int32} {w : Wd} {Q : Int32 → Prop} {K9 : Int32 → Int32 → Prop} (hC : cx G D_X9_suspected M) (he : en G M (qip w Q) Qf) (h : wp_X9_suspected_B9 x1 x2 x3 w Q K9) (hK9 : ∀ (x2 : Int32) (x3 : Int32), K9 x2 x3 → jq G D_X9_suspected M Qf 9 [(0, .ref (aD G 0 32)), (1, .int x1), (2, .int x2), (3, .int x3)] [] w) : jq G D_X9_suspected M Qf 9 [(0, .ref (aD G 0 32)), (1, .int x1), (2, .int x2), (3, .int x3)] [] w := by
  unfold wp_X9_suspected_B9 at h
  refine jq_iload_n (k0 := 3) dX9_suspected_9 hC rfl rfl ?_
  refine jq_aload_n (k0 := 0) dX9_suspected_10 hC rfl rfl ?_
  refine jq_get (k0 := 1) (n := 0) (o := 32) dX9_suspected_11 hC (cl_0 (by decide)) rfl rfl hi_X9_suspected_X9 (by decide) hl_X9_suspected_7 rfl rfl ?_
  refine jq_bipush (v := (11 : Int32)) dX9_suspected_14 hC (by decide) ?_
  refine jq_iald (n := 0) (o := 33) (j := 11) dX9_suspected_16 hC (cl_0 (by decide)) rfl (vin (by decide)) (by decide) ?_
  refine jq_icmp_ge (tgt := 60) dX9_suspected_17 hC (by decide) (fun c17 => ?_) (fun c17 => ?_)
  · have h := h.1 c17
    refine jq_iload_n (k0 := 2) dX9_suspected_60 hC rfl rfl ?_
    exact jq_iret dX9_suspected_61 hC he rfl ⟨_, rfl, rfl, h⟩
  · have h := h.2 c17
    refine jq_iload_n (k0 := 1) dX9_suspected_20 hC rfl rfl ?_
    refine jq_if_le (tgt := 60) dX9_suspected_21 hC (by decide) (fun c21 => ?_) (fun c21 => ?_)
    · have h := h.1 c21
      refine jq_iload_n (k0 := 2) dX9_suspected_60 hC rfl rfl ?_
      exact jq_iret dX9_suspected_61 hC he rfl ⟨_, rfl, rfl, h⟩
    · have h := h.2 c21
      refine jq_aload_n (k0 := 0) dX9_suspected_24 hC rfl rfl ?_
      refine jq_iload_n (k0 := 3) dX9_suspected_25 hC rfl rfl ?_
      refine jq_iconst (v := (1 : Int32)) dX9_suspected_26 hC (by decide) ?_
      refine jq_callV (As := [.int x3, .int (1 : Int32)]) (rest := []) (n := 0) (o := 32) (D' := D_X9_loopsWith) dX9_suspected_27 hC (cl_0 (by decide)) rfl rfl rfl (mt_X9_loopsWith h) gX9_suspected_X9_loopsWith rfl ⟨rfl, rfl, Nat.le_of_ble_eq_true rfl, Nat.le_of_ble_eq_true rfl⟩ nm_X9_loopsWith rfl (Nat.le_of_ble_eq_true rfl) (kIp fun r27 h => ?_)
      refine jq_iload_n (k0 := 1) dX9_suspected_30 hC rfl rfl ?_
      refine jq_icmp_ne (tgt := 52) dX9_suspected_31 hC (by decide) (fun c31 => ?_) (fun c31 => ?_)
      · have h := h.1 c31
        refine jq_less (L' := [(0, .ref (aD G 0 32)), (1, .int x1), (2, .int x2), (3, .int x3)]) [0, 1, 2, 3] rfl ?_
        exact ok_X9_suspected_J52 hC he h hK9
      · have h := h.2 c31
        refine jq_iload_n (k0 := 2) dX9_suspected_34 hC rfl rfl ?_
        refine jq_iconst (v := (-1 : Int32)) dX9_suspected_35 hC (by decide) ?_
        refine jq_icmp_eq (tgt := 48) dX9_suspected_36 hC (by decide) (fun c36 => ?_) (fun c36 => ?_)
        · have h := h.1 c36
          refine jq_iload_n (k0 := 3) dX9_suspected_48 hC rfl rfl ?_
          refine jq_goto (tgt := 53) dX9_suspected_49 hC (by decide) ?_
          refine jq_istore_n (L' := [(2, .int x3), (0, .ref (aD G 0 32)), (1, .int x1), (3, .int x3)]) dX9_suspected_53 hC rfl (by decide) rfl ?_
          refine jq_iinc (k0 := 3) (v := (x3 + 1)) (L' := [(3, .int (x3 + 1)), (2, .int x3), (0, .ref (aD G 0 32)), (1, .int x1)]) dX9_suspected_54 hC rfl rfl (by decide) rfl ?_
          refine jq_goto (tgt := 9) dX9_suspected_57 hC (by decide) ?_
          exact jq_less (L' := [(0, .ref (aD G 0 32)), (1, .int x1), (2, .int x3), (3, .int (x3 + 1))]) [2, 3, 1, 0] rfl (hK9 _ _ h)
        · have h := h.2 c36
          refine jq_aload_n (k0 := 0) dX9_suspected_39 hC rfl rfl ?_
          refine jq_iload_n (k0 := 3) dX9_suspected_40 hC rfl rfl ?_
          refine jq_iload_n (k0 := 2) dX9_suspected_41 hC rfl rfl ?_
          refine jq_callV (As := [.int x3, .int x2]) (rest := []) (n := 0) (o := 32) (D' := D_X9_isBetter) dX9_suspected_42 hC (cl_0 (by decide)) rfl rfl rfl (mt_X9_isBetter h) gX9_suspected_X9_isBetter rfl ⟨rfl, rfl, Nat.le_of_ble_eq_true rfl, Nat.le_of_ble_eq_true rfl⟩ nm_X9_isBetter rfl (Nat.le_of_ble_eq_true rfl) (kIp fun r42 h => ?_)
          refine jq_if_eq (tgt := 52) dX9_suspected_45 hC (by decide) (fun c45 => ?_) (fun c45 => ?_)
          · have h := h.1 c45
            refine jq_less (L' := [(0, .ref (aD G 0 32)), (1, .int x1), (2, .int x2), (3, .int x3)]) [0, 1, 2, 3] rfl ?_
            exact ok_X9_suspected_J52 hC he h hK9
          · have h := h.2 c45
            refine jq_iload_n (k0 := 3) dX9_suspected_48 hC rfl rfl ?_
            refine jq_goto (tgt := 53) dX9_suspected_49 hC (by decide) ?_
            refine jq_istore_n (L' := [(2, .int x3), (0, .ref (aD G 0 32)), (1, .int x1), (3, .int x3)]) dX9_suspected_53 hC rfl (by decide) rfl ?_
            refine jq_iinc (k0 := 3) (v := (x3 + 1)) (L' := [(3, .int (x3 + 1)), (2, .int x3), (0, .ref (aD G 0 32)), (1, .int x1)]) dX9_suspected_54 hC rfl rfl (by decide) rfl ?_
            refine jq_goto (tgt := 9) dX9_suspected_57 hC (by decide) ?_
            exact jq_less (L' := [(0, .ref (aD G 0 32)), (1, .int x1), (2, .int x3), (3, .int (x3 + 1))]) [2, 3, 1, 0] rfl (hK9 _ _ h)
theorem ok_X9_suspected_L9 {G : Gt} {M : Mx} {Qf : State → Prop} {x1 : Int32} {x2 : Int32} {x3 : Int32} {w : Wd} {Q : Int32 → Prop} (hC : cx G D_X9_suspected M) (he : en G M (qip w Q) Qf) (h : wp_X9_suspected_L9 x1 x2 x3 w Q) : jq G D_X9_suspected M Qf 9 [(0, .ref (aD G 0 32)), (1, .int x1), (2, .int x2), (3, .int x3)] [] w := by
  unfold wp_X9_suspected_L9 at h
  obtain ⟨I, μ, h0, hs⟩ := h
  exact lp_ind (σ := Int32 × Int32) (P := fun s => jq G D_X9_suspected M Qf 9 [(0, .ref (aD G 0 32)), (1, .int x1), (2, .int s.1), (3, .int s.2)] [] w) (fun s => I s.1 s.2) (fun s => μ s.1 s.2) (fun s h1 ih => ok_X9_suspected_B9 hC he (hs s.1 s.2 h1) (fun x2' x3' h => ih (x2', x3') h.1 h.2)) (x2, x3) h0
theorem ok_X9_suspected {G : Gt} {M : Mx} {Qf : State → Prop} {w : Wd} {Q : Int32 → Prop} (hC : cx G D_X9_suspected M) (he : en G M (qip w Q) Qf) (h : wp_X9_suspected w Q) : jq G D_X9_suspected M Qf 0 [(0, .ref (aD G 0 32))] [] w := by
  unfold wp_X9_suspected at h
  refine jq_aload_n (k0 := 0) dX9_suspected_0 hC rfl rfl ?_
  refine jq_callV (As := []) (rest := []) (n := 0) (o := 32) (D' := D_X9_bads) dX9_suspected_1 hC (cl_0 (by decide)) rfl rfl rfl (mt_X9_bads h) gX9_suspected_X9_bads rfl ⟨rfl, rfl, Nat.le_of_ble_eq_true rfl, Nat.le_of_ble_eq_true rfl⟩ nm_X9_bads rfl (Nat.le_of_ble_eq_true rfl) (kIp fun r1 h => ?_)
  refine jq_istore_n (L' := [(1, .int r1), (0, .ref (aD G 0 32))]) dX9_suspected_4 hC rfl (by decide) rfl ?_
  refine jq_iconst (v := (-1 : Int32)) dX9_suspected_5 hC (by decide) ?_
  refine jq_istore_n (L' := [(2, .int (-1 : Int32)), (1, .int r1), (0, .ref (aD G 0 32))]) dX9_suspected_6 hC rfl (by decide) rfl ?_
  refine jq_iconst (v := (0 : Int32)) dX9_suspected_7 hC (by decide) ?_
  refine jq_istore_n (L' := [(3, .int (0 : Int32)), (2, .int (-1 : Int32)), (1, .int r1), (0, .ref (aD G 0 32))]) dX9_suspected_8 hC rfl (by decide) rfl ?_
  refine jq_less (L' := [(0, .ref (aD G 0 32)), (1, .int r1), (2, .int (-1 : Int32)), (3, .int (0 : Int32))]) [3, 2, 1, 0] rfl ?_
  exact ok_X9_suspected_L9 hC he h
theorem mt_X9_suspected {G : Gt} {w : Wd} {Q : Int32 → Prop} (h : wp_X9_suspected w Q) : Mt G D_X9_suspected [.ref (aD G 0 32)] w (qip w Q) := Mt_of (by decide +kernel) rfl rfl (Nat.le_of_ble_eq_true rfl) (fun M Qf hC he => ok_X9_suspected hC he h)
/-! X9.suspect()I -/
theorem dX9_suspect_0 : decode cX9_suspect 0 = .ok (.aload_n 0, 1) := by decide +kernel
theorem dX9_suspect_1 : decode cX9_suspect 1 = .ok (.iconst 0, 1) := by decide +kernel
theorem dX9_suspect_2 : decode cX9_suspect 2 = .ok (.putfield 65, 3) := by decide +kernel
theorem dX9_suspect_5 : decode cX9_suspect 5 = .ok (.aload_n 0, 1) := by decide +kernel
theorem dX9_suspect_6 : decode cX9_suspect 6 = .ok (.invokevirtual 148, 3) := by decide +kernel
theorem dX9_suspect_9 : decode cX9_suspect 9 = .ok (.aload_n 0, 1) := by decide +kernel
theorem dX9_suspect_10 : decode cX9_suspect 10 = .ok (.invokevirtual 272, 3) := by decide +kernel
theorem dX9_suspect_13 : decode cX9_suspect 13 = .ok (.ireturn, 1) := by decide +kernel
set_option maxRecDepth 20000 in
theorem ggX9_suspect_X9_suspected : GoodIn wsX9_suspect wsX9_suspected := goodIn_r _ [82, 11, 83, 84, 85, 5, 86, 39, 87, 88, 89, 90, 59, 60, 61, 62, 63, 64, 65, 66, 41, 20, 21, 22, 67, 68, 69, 91, 92, 93, 94, 95, 96, 97, 98, 99, 100, 101, 102, 103, 104, 105, 106, 107, 108, 109, 110, 111, 112, 113, 114, 115, 116, 117, 118, 119, 120, 121, 122, 123, 124, 125, 126, 127, 128, 129, 130, 131] (by decide +kernel) (by decide +kernel)
set_option maxRecDepth 20000 in
theorem gX9_suspect_X9_suspected : GoodIn wsX9_suspect (wsV RX9 272 RX9 yX9_suspected wsX9_suspected) := goodIn_app (goodIn_of _ (by decide +kernel)) ggX9_suspect_X9_suspected
set_option maxRecDepth 20000 in
theorem ggX9_suspect_X9_layOut : GoodIn wsX9_suspect wsX9_layOut := goodIn_r _ [6, 7, 8, 9, 5, 10, 11, 12, 13, 14, 15, 16, 17, 18, 19, 20, 21, 22, 23, 24, 25, 26, 27, 28, 29, 30, 31, 32, 33, 34, 35, 36, 37, 38, 39, 40, 41, 42, 43, 44, 45, 46, 47, 48, 49, 50, 51, 52, 53, 54, 55, 56, 57, 58, 59, 60, 61, 62, 63, 64, 65, 66, 67, 68, 69, 70, 71, 72, 73, 74, 75, 76, 77, 78, 107, 108, 109, 110, 111, 112, 113, 114, 115, 116, 117, 118, 119, 120, 121, 122, 123, 124, 125, 126, 127, 128, 129, 130, 131] (by decide +kernel) (by decide +kernel)
set_option maxRecDepth 20000 in
theorem gX9_suspect_X9_layOut : GoodIn wsX9_suspect (wsV RX9 148 RX9 yX9_layOut wsX9_layOut) := goodIn_app (goodIn_of _ (by decide +kernel)) ggX9_suspect_X9_layOut
def D_X9_suspect : Md := (yX9_suspect, cX9_suspect, 1, (some .int), wsX9_suspect, RX9, { frames := 7, cells := 0, slots := 0, locals := 158 })
theorem nm_X9_suspect : nmD D_X9_suspect 0 := ⟨rfl, by decide +kernel, by decide +kernel, by decide +kernel⟩
theorem hi_X9_suspect_X9 : ∀ w ∈ u_ws RX9 TX9 25, w ∈ wsX9_suspect := by decide +kernel
theorem hl_X9_suspect_65 : Cond.fieldLink RX9 65 "LevelLoopsModel" "thrown" "I" ∈ wsX9_suspect := by decide +kernel
def wp_X9_suspect (w : Wd) (Q : Int32 → Wd → Prop) : Prop :=
  (∀ w2 : Wd, w2 = (sI w 0 32 0 (0 : Int32)) → wp_X9_layOut w2 (fun w6 => wp_X9_suspected w6 (fun r10 => Q r10 w6)))
theorem ok_X9_suspect {G : Gt} {M : Mx} {Qf : State → Prop} {w : Wd} {Q : Int32 → Wd → Prop} (hC : cx G D_X9_suspect M) (he : en G M (qi Q) Qf) (h : wp_X9_suspect w Q) : jq G D_X9_suspect M Qf 0 [(0, .ref (aD G 0 32))] [] w := by
  unfold wp_X9_suspect at h
  refine jq_aload_n (k0 := 0) dX9_suspect_0 hC rfl rfl ?_
  refine jq_iconst (v := (0 : Int32)) dX9_suspect_1 hC (by decide) ?_
  refine jq_put (k0 := 0) (n := 0) (o := 32) (ty := .int) (w' := (sI w 0 32 0 (0 : Int32))) dX9_suspect_2 hC (cl_0 (by decide)) rfl rfl hi_X9_suspect_X9 tyX9 tyX9_ok nmX9 (by decide) hl_X9_suspect_65 rfl rfl (by decide +kernel) rfl rfl (Nat.le_of_ble_eq_true rfl) (e_32_0 G _ _ _) (fun c _ hne => ent_sA c hne) ?_
  refine jq_w (fun w2 e2 => ?_)
  have h := h w2 e2
  refine jq_aload_n (k0 := 0) dX9_suspect_5 hC rfl rfl ?_
  refine jq_callV (As := []) (rest := []) (n := 0) (o := 32) (D' := D_X9_layOut) dX9_suspect_6 hC (cl_0 (by decide)) rfl rfl rfl (mt_X9_layOut h) gX9_suspect_X9_layOut rfl ⟨rfl, rfl, Nat.le_of_ble_eq_true rfl, Nat.le_of_ble_eq_true rfl⟩ nm_X9_layOut rfl (Nat.le_of_ble_eq_true rfl) (kV fun w6 h => ?_)
  refine jq_aload_n (k0 := 0) dX9_suspect_9 hC rfl rfl ?_
  refine jq_callV (As := []) (rest := []) (n := 0) (o := 32) (D' := D_X9_suspected) dX9_suspect_10 hC (cl_0 (by decide)) rfl rfl rfl (mt_X9_suspected h) gX9_suspect_X9_suspected rfl ⟨rfl, rfl, Nat.le_of_ble_eq_true rfl, Nat.le_of_ble_eq_true rfl⟩ nm_X9_suspected rfl (Nat.le_of_ble_eq_true rfl) (kIp fun r10 h => ?_)
  exact jq_iret dX9_suspect_13 hC he rfl ⟨_, rfl, h⟩
theorem mt_X9_suspect {G : Gt} {w : Wd} {Q : Int32 → Wd → Prop} (h : wp_X9_suspect w Q) : Mt G D_X9_suspect [.ref (aD G 0 32)] w (qi Q) := Mt_of (by decide +kernel) rfl rfl (Nat.le_of_ble_eq_true rfl) (fun M Qf hC he => ok_X9_suspect hC he h)
/-! X9.missing(II)I -/
theorem dX9_missing_0 : decode cX9_missing 0 = .ok (.aload_n 0, 1) := by decide +kernel
theorem dX9_missing_1 : decode cX9_missing 1 = .ok (.invokevirtual 275, 3) := by decide +kernel
theorem dX9_missing_4 : decode cX9_missing 4 = .ok (.aload_n 0, 1) := by decide +kernel
theorem dX9_missing_5 : decode cX9_missing 5 = .ok (.iload_n 1, 1) := by decide +kernel
theorem dX9_missing_6 : decode cX9_missing 6 = .ok (.invokevirtual 188, 3) := by decide +kernel
theorem dX9_missing_9 : decode cX9_missing 9 = .ok (.aload_n 0, 1) := by decide +kernel
theorem dX9_missing_10 : decode cX9_missing 10 = .ok (.invokevirtual 148, 3) := by decide +kernel
theorem dX9_missing_13 : decode cX9_missing 13 = .ok (.iload_n 2, 1) := by decide +kernel
theorem dX9_missing_14 : decode cX9_missing 14 = .ok (.ifCond .ne 10, 3) := by decide +kernel
theorem dX9_missing_17 : decode cX9_missing 17 = .ok (.aload_n 0, 1) := by decide +kernel
theorem dX9_missing_18 : decode cX9_missing 18 = .ok (.getfield 98, 3) := by decide +kernel
theorem dX9_missing_21 : decode cX9_missing 21 = .ok (.goto 31, 3) := by decide +kernel
theorem dX9_missing_24 : decode cX9_missing 24 = .ok (.iload_n 2, 1) := by decide +kernel
theorem dX9_missing_25 : decode cX9_missing 25 = .ok (.iconst 1, 1) := by decide +kernel
theorem dX9_missing_26 : decode cX9_missing 26 = .ok (.if_icmp .ne 10, 3) := by decide +kernel
theorem dX9_missing_29 : decode cX9_missing 29 = .ok (.aload_n 0, 1) := by decide +kernel
theorem dX9_missing_30 : decode cX9_missing 30 = .ok (.invokevirtual 251, 3) := by decide +kernel
theorem dX9_missing_33 : decode cX9_missing 33 = .ok (.goto 19, 3) := by decide +kernel
theorem dX9_missing_36 : decode cX9_missing 36 = .ok (.iload_n 2, 1) := by decide +kernel
theorem dX9_missing_37 : decode cX9_missing 37 = .ok (.iconst 2, 1) := by decide +kernel
theorem dX9_missing_38 : decode cX9_missing 38 = .ok (.if_icmp .ne 10, 3) := by decide +kernel
theorem dX9_missing_41 : decode cX9_missing 41 = .ok (.aload_n 0, 1) := by decide +kernel
theorem dX9_missing_42 : decode cX9_missing 42 = .ok (.invokevirtual 254, 3) := by decide +kernel
theorem dX9_missing_45 : decode cX9_missing 45 = .ok (.goto 7, 3) := by decide +kernel
theorem dX9_missing_48 : decode cX9_missing 48 = .ok (.aload_n 0, 1) := by decide +kernel
theorem dX9_missing_49 : decode cX9_missing 49 = .ok (.invokevirtual 183, 3) := by decide +kernel
theorem dX9_missing_52 : decode cX9_missing 52 = .ok (.istore_n 3, 1) := by decide +kernel
theorem dX9_missing_53 : decode cX9_missing 53 = .ok (.aload_n 0, 1) := by decide +kernel
theorem dX9_missing_54 : decode cX9_missing 54 = .ok (.invokevirtual 278, 3) := by decide +kernel
theorem dX9_missing_57 : decode cX9_missing 57 = .ok (.iload_n 3, 1) := by decide +kernel
theorem dX9_missing_58 : decode cX9_missing 58 = .ok (.ireturn, 1) := by decide +kernel
set_option maxRecDepth 20000 in
theorem ggX9_missing_X9_putBack : GoodIn wsX9_missing wsX9_putBack := goodIn_r _ [114, 8, 7, 115, 116, 117, 118, 119, 120, 121, 122, 123, 124, 125, 126, 127, 128, 129, 130, 131, 132, 133, 134, 135, 136, 137, 138, 139] (by decide +kernel) (by decide +kernel)
set_option maxRecDepth 20000 in
theorem gX9_missing_X9_putBack : GoodIn wsX9_missing (wsV RX9 278 RX9 yX9_putBack wsX9_putBack) := goodIn_app (goodIn_of _ (by decide +kernel)) ggX9_missing_X9_putBack
set_option maxRecDepth 20000 in
theorem ggX9_missing_X9_misses : GoodIn wsX9_missing wsX9_misses := goodIn_r _ [110, 1, 67, 68, 69, 5, 70, 8, 71, 72, 73, 74, 49, 13, 14, 15, 75, 76, 77, 115, 116, 117, 118, 119, 120, 121, 122, 123, 124, 125, 126, 127, 128, 129, 130, 131, 132, 133, 134, 135, 136, 137, 138, 139] (by decide +kernel) (by decide +kernel)
set_option maxRecDepth 20000 in
theorem gX9_missing_X9_misses : GoodIn wsX9_missing (wsV RX9 183 RX9 yX9_misses wsX9_misses) := goodIn_app (goodIn_of _ (by decide +kernel)) ggX9_missing_X9_misses
set_option maxRecDepth 20000 in
theorem ggX9_missing_X9_nets : GoodIn wsX9_missing wsX9_nets := goodIn_r _ [106, 8, 24, 115, 116, 117, 118, 119, 120, 121, 122, 123, 124, 125, 126, 127, 128, 129, 130, 131, 132, 133, 134, 135, 136, 137, 138, 139] (by decide +kernel) (by decide +kernel)
set_option maxRecDepth 20000 in
theorem gX9_missing_X9_nets : GoodIn wsX9_missing (wsV RX9 254 RX9 yX9_nets wsX9_nets) := goodIn_app (goodIn_of _ (by decide +kernel)) ggX9_missing_X9_nets
set_option maxRecDepth 20000 in
theorem ggX9_missing_X9_bads : GoodIn wsX9_missing wsX9_bads := goodIn_r _ [90, 1, 91, 92, 93, 5, 94, 67, 68, 69, 70, 8, 71, 72, 73, 74, 49, 13, 14, 15, 75, 76, 77, 95, 96, 97, 98, 99, 100, 101, 102, 115, 116, 117, 118, 119, 120, 121, 122, 123, 124, 125, 126, 127, 128, 129, 130, 131, 132, 133, 134, 135, 136, 137, 138, 139] (by decide +kernel) (by decide +kernel)
set_option maxRecDepth 20000 in
theorem gX9_missing_X9_bads : GoodIn wsX9_missing (wsV RX9 251 RX9 yX9_bads wsX9_bads) := goodIn_app (goodIn_of _ (by decide +kernel)) ggX9_missing_X9_bads
set_option maxRecDepth 20000 in
theorem ggX9_missing_X9_layOut : GoodIn wsX9_missing wsX9_layOut := goodIn_r _ [19, 20, 21, 22, 5, 23, 8, 24, 25, 26, 27, 28, 29, 30, 31, 13, 14, 15, 32, 33, 34, 35, 36, 37, 38, 39, 40, 41, 42, 43, 44, 45, 46, 47, 1, 48, 49, 50, 51, 52, 53, 54, 55, 56, 57, 58, 59, 60, 61, 62, 63, 64, 65, 66, 67, 68, 69, 70, 71, 72, 73, 74, 75, 76, 77, 78, 79, 80, 81, 82, 83, 84, 85, 86, 115, 116, 117, 118, 119, 120, 121, 122, 123, 124, 125, 126, 127, 128, 129, 130, 131, 132, 133, 134, 135, 136, 137, 138, 139] (by decide +kernel) (by decide +kernel)
set_option maxRecDepth 20000 in
theorem gX9_missing_X9_layOut : GoodIn wsX9_missing (wsV RX9 148 RX9 yX9_layOut wsX9_layOut) := goodIn_app (goodIn_of _ (by decide +kernel)) ggX9_missing_X9_layOut
set_option maxRecDepth 20000 in
theorem ggX9_missing_X9_remove : GoodIn wsX9_missing wsX9_remove := goodIn_r _ [12, 8, 13, 14, 5, 15, 115, 116, 117, 118, 119, 120, 121, 122, 123, 124, 125, 126, 127, 128, 129, 130, 131, 132, 133, 134, 135, 136, 137, 138, 139] (by decide +kernel) (by decide +kernel)
set_option maxRecDepth 20000 in
theorem gX9_missing_X9_remove : GoodIn wsX9_missing (wsV RX9 188 RX9 yX9_remove wsX9_remove) := goodIn_app (goodIn_of _ (by decide +kernel)) ggX9_missing_X9_remove
set_option maxRecDepth 20000 in
theorem ggX9_missing_X9_putAside : GoodIn wsX9_missing wsX9_putAside := goodIn_r _ [6, 7, 8, 115, 116, 117, 118, 119, 120, 121, 122, 123, 124, 125, 126, 127, 128, 129, 130, 131, 132, 133, 134, 135, 136, 137, 138, 139] (by decide +kernel) (by decide +kernel)
set_option maxRecDepth 20000 in
theorem gX9_missing_X9_putAside : GoodIn wsX9_missing (wsV RX9 275 RX9 yX9_putAside wsX9_putAside) := goodIn_app (goodIn_of _ (by decide +kernel)) ggX9_missing_X9_putAside
def D_X9_missing : Md := (yX9_missing, cX9_missing, 4, (some .int), wsX9_missing, RX9, { frames := 5, cells := 0, slots := 0, locals := 113 })
theorem nm_X9_missing : nmD D_X9_missing 2 := ⟨rfl, by decide +kernel, by decide +kernel, by decide +kernel⟩
theorem hi_X9_missing_X9 : ∀ w ∈ u_ws RX9 TX9 25, w ∈ wsX9_missing := by decide +kernel
theorem hl_X9_missing_98 : Cond.fieldLink RX9 98 "LevelLoopsModel" "manyLoops" "I" ∈ wsX9_missing := by decide +kernel
def wp_X9_missing_J52 (s0 : Int32) (w : Wd) (Q : Int32 → Wd → Prop) : Prop :=
  wp_X9_putBack w (fun w54 => Q s0 w54)
def wp_X9_missing (x1 : Int32) (x2 : Int32) (w : Wd) (Q : Int32 → Wd → Prop) : Prop :=
  wp_X9_putAside w (fun w1 => wp_X9_remove x1 w1 (fun w6 => wp_X9_layOut w6 (fun w10 => ((¬ x2 = 0 → ((¬ x2 = (1 : Int32) → ((¬ x2 = (2 : Int32) → wp_X9_misses w10 (fun r49 => wp_X9_missing_J52 r49 w10 Q)) ∧ (x2 = (2 : Int32) → wp_X9_nets w10 (fun r42 => wp_X9_missing_J52 r42 w10 Q)))) ∧ (x2 = (1 : Int32) → wp_X9_bads w10 (fun r30 => wp_X9_missing_J52 r30 w10 Q)))) ∧ (x2 = 0 → wp_X9_missing_J52 (wi w10 0 32 15) w10 Q)))))
theorem ok_X9_missing_J52 {G : Gt} {M : Mx} {Qf : State → Prop} {s0 : Int32} {w : Wd} {Q : Int32 → Wd → Prop} (hC : cx G D_X9_missing M) (he : en G M (qi Q) Qf) (h : wp_X9_missing_J52 s0 w Q) : jq G D_X9_missing M Qf 52 [(0, .ref (aD G 0 32))] [.int s0] w := by
  unfold wp_X9_missing_J52 at h
  refine jq_istore_n (L' := [(3, .int s0), (0, .ref (aD G 0 32))]) dX9_missing_52 hC rfl (by decide) rfl ?_
  refine jq_aload_n (k0 := 1) dX9_missing_53 hC rfl rfl ?_
  refine jq_callV (As := []) (rest := []) (n := 0) (o := 32) (D' := D_X9_putBack) dX9_missing_54 hC (cl_0 (by decide)) rfl rfl rfl (mt_X9_putBack h) gX9_missing_X9_putBack rfl ⟨rfl, rfl, Nat.le_of_ble_eq_true rfl, Nat.le_of_ble_eq_true rfl⟩ nm_X9_putBack rfl (Nat.le_of_ble_eq_true rfl) (kV fun w54 h => ?_)
  refine jq_iload_n (k0 := 0) dX9_missing_57 hC rfl rfl ?_
  exact jq_iret dX9_missing_58 hC he rfl ⟨_, rfl, h⟩
theorem ok_X9_missing {G : Gt} {M : Mx} {Qf : State → Prop} {x1 : Int32} {x2 : Int32} {w : Wd} {Q : Int32 → Wd → Prop} (hC : cx G D_X9_missing M) (he : en G M (qi Q) Qf) (h : wp_X9_missing x1 x2 w Q) : jq G D_X9_missing M Qf 0 [(0, .ref (aD G 0 32)), (1, .int x1), (2, .int x2)] [] w := by
  unfold wp_X9_missing at h
  refine jq_aload_n (k0 := 0) dX9_missing_0 hC rfl rfl ?_
  refine jq_callV (As := []) (rest := []) (n := 0) (o := 32) (D' := D_X9_putAside) dX9_missing_1 hC (cl_0 (by decide)) rfl rfl rfl (mt_X9_putAside h) gX9_missing_X9_putAside rfl ⟨rfl, rfl, Nat.le_of_ble_eq_true rfl, Nat.le_of_ble_eq_true rfl⟩ nm_X9_putAside rfl (Nat.le_of_ble_eq_true rfl) (kV fun w1 h => ?_)
  refine jq_aload_n (k0 := 0) dX9_missing_4 hC rfl rfl ?_
  refine jq_iload_n (k0 := 1) dX9_missing_5 hC rfl rfl ?_
  refine jq_callV (As := [.int x1]) (rest := []) (n := 0) (o := 32) (D' := D_X9_remove) dX9_missing_6 hC (cl_0 (by decide)) rfl rfl rfl (mt_X9_remove h) gX9_missing_X9_remove rfl ⟨rfl, rfl, Nat.le_of_ble_eq_true rfl, Nat.le_of_ble_eq_true rfl⟩ nm_X9_remove rfl (Nat.le_of_ble_eq_true rfl) (kV fun w6 h => ?_)
  refine jq_aload_n (k0 := 0) dX9_missing_9 hC rfl rfl ?_
  refine jq_callV (As := []) (rest := []) (n := 0) (o := 32) (D' := D_X9_layOut) dX9_missing_10 hC (cl_0 (by decide)) rfl rfl rfl (mt_X9_layOut h) gX9_missing_X9_layOut rfl ⟨rfl, rfl, Nat.le_of_ble_eq_true rfl, Nat.le_of_ble_eq_true rfl⟩ nm_X9_layOut rfl (Nat.le_of_ble_eq_true rfl) (kV fun w10 h => ?_)
  refine jq_iload_n (k0 := 2) dX9_missing_13 hC rfl rfl ?_
  refine jq_if_ne (tgt := 24) dX9_missing_14 hC (by decide) (fun c14 => ?_) (fun c14 => ?_)
  · have h := h.1 c14
    refine jq_iload_n (k0 := 2) dX9_missing_24 hC rfl rfl ?_
    refine jq_iconst (v := (1 : Int32)) dX9_missing_25 hC (by decide) ?_
    refine jq_icmp_ne (tgt := 36) dX9_missing_26 hC (by decide) (fun c26 => ?_) (fun c26 => ?_)
    · have h := h.1 c26
      refine jq_iload_n (k0 := 2) dX9_missing_36 hC rfl rfl ?_
      refine jq_iconst (v := (2 : Int32)) dX9_missing_37 hC (by decide) ?_
      refine jq_icmp_ne (tgt := 48) dX9_missing_38 hC (by decide) (fun c38 => ?_) (fun c38 => ?_)
      · have h := h.1 c38
        refine jq_aload_n (k0 := 0) dX9_missing_48 hC rfl rfl ?_
        refine jq_callV (As := []) (rest := []) (n := 0) (o := 32) (D' := D_X9_misses) dX9_missing_49 hC (cl_0 (by decide)) rfl rfl rfl (mt_X9_misses h) gX9_missing_X9_misses rfl ⟨rfl, rfl, Nat.le_of_ble_eq_true rfl, Nat.le_of_ble_eq_true rfl⟩ nm_X9_misses rfl (Nat.le_of_ble_eq_true rfl) (kIp fun r49 h => ?_)
        refine jq_less (L' := [(0, .ref (aD G 0 32))]) [0] rfl ?_
        exact ok_X9_missing_J52 hC he h
      · have h := h.2 c38
        refine jq_aload_n (k0 := 0) dX9_missing_41 hC rfl rfl ?_
        refine jq_callV (As := []) (rest := []) (n := 0) (o := 32) (D' := D_X9_nets) dX9_missing_42 hC (cl_0 (by decide)) rfl rfl rfl (mt_X9_nets h) gX9_missing_X9_nets rfl ⟨rfl, rfl, Nat.le_of_ble_eq_true rfl, Nat.le_of_ble_eq_true rfl⟩ nm_X9_nets rfl (Nat.le_of_ble_eq_true rfl) (kIp fun r42 h => ?_)
        refine jq_goto (tgt := 52) dX9_missing_45 hC (by decide) ?_
        refine jq_less (L' := [(0, .ref (aD G 0 32))]) [0] rfl ?_
        exact ok_X9_missing_J52 hC he h
    · have h := h.2 c26
      refine jq_aload_n (k0 := 0) dX9_missing_29 hC rfl rfl ?_
      refine jq_callV (As := []) (rest := []) (n := 0) (o := 32) (D' := D_X9_bads) dX9_missing_30 hC (cl_0 (by decide)) rfl rfl rfl (mt_X9_bads h) gX9_missing_X9_bads rfl ⟨rfl, rfl, Nat.le_of_ble_eq_true rfl, Nat.le_of_ble_eq_true rfl⟩ nm_X9_bads rfl (Nat.le_of_ble_eq_true rfl) (kIp fun r30 h => ?_)
      refine jq_goto (tgt := 52) dX9_missing_33 hC (by decide) ?_
      refine jq_less (L' := [(0, .ref (aD G 0 32))]) [0] rfl ?_
      exact ok_X9_missing_J52 hC he h
  · have h := h.2 c14
    refine jq_aload_n (k0 := 0) dX9_missing_17 hC rfl rfl ?_
    refine jq_get (k0 := 15) (n := 0) (o := 32) dX9_missing_18 hC (cl_0 (by decide)) rfl rfl hi_X9_missing_X9 (by decide) hl_X9_missing_98 rfl rfl ?_
    refine jq_goto (tgt := 52) dX9_missing_21 hC (by decide) ?_
    refine jq_less (L' := [(0, .ref (aD G 0 32))]) [0] rfl ?_
    exact ok_X9_missing_J52 hC he h
theorem mt_X9_missing {G : Gt} {x1 : Int32} {x2 : Int32} {w : Wd} {Q : Int32 → Wd → Prop} (h : wp_X9_missing x1 x2 w Q) : Mt G D_X9_missing [.ref (aD G 0 32), .int x1, .int x2] w (qi Q) := Mt_of (by decide +kernel) rfl rfl (Nat.le_of_ble_eq_true rfl) (fun M Qf hC he => ok_X9_missing hC he h)
/-! X9.without(II)I -/
theorem dX9_without_0 : decode cX9_without 0 = .ok (.aload_n 0, 1) := by decide +kernel
theorem dX9_without_1 : decode cX9_without 1 = .ok (.aload_n 0, 1) := by decide +kernel
theorem dX9_without_2 : decode cX9_without 2 = .ok (.iload_n 1, 1) := by decide +kernel
theorem dX9_without_3 : decode cX9_without 3 = .ok (.invokevirtual 180, 3) := by decide +kernel
theorem dX9_without_6 : decode cX9_without 6 = .ok (.ifCond .ne 7, 3) := by decide +kernel
theorem dX9_without_9 : decode cX9_without 9 = .ok (.iconst 1, 1) := by decide +kernel
theorem dX9_without_10 : decode cX9_without 10 = .ok (.goto 17, 3) := by decide +kernel
theorem dX9_without_13 : decode cX9_without 13 = .ok (.iload_n 2, 1) := by decide +kernel
theorem dX9_without_14 : decode cX9_without 14 = .ok (.iconst 0, 1) := by decide +kernel
theorem dX9_without_15 : decode cX9_without 15 = .ok (.iconst 3, 1) := by decide +kernel
theorem dX9_without_16 : decode cX9_without 16 = .ok (.invokestatic 69, 3) := by decide +kernel
theorem dX9_without_19 : decode cX9_without 19 = .ok (.ifCond .ne 7, 3) := by decide +kernel
theorem dX9_without_22 : decode cX9_without 22 = .ok (.iconst 2, 1) := by decide +kernel
theorem dX9_without_23 : decode cX9_without 23 = .ok (.goto 4, 3) := by decide +kernel
theorem dX9_without_26 : decode cX9_without 26 = .ok (.iconst 0, 1) := by decide +kernel
theorem dX9_without_27 : decode cX9_without 27 = .ok (.invokevirtual 158, 3) := by decide +kernel
theorem dX9_without_30 : decode cX9_without 30 = .ok (.ifCond .eq 12, 3) := by decide +kernel
theorem dX9_without_33 : decode cX9_without 33 = .ok (.aload_n 0, 1) := by decide +kernel
theorem dX9_without_34 : decode cX9_without 34 = .ok (.iload_n 1, 1) := by decide +kernel
theorem dX9_without_35 : decode cX9_without 35 = .ok (.iload_n 2, 1) := by decide +kernel
theorem dX9_without_36 : decode cX9_without 36 = .ok (.invokevirtual 281, 3) := by decide +kernel
theorem dX9_without_39 : decode cX9_without 39 = .ok (.goto 4, 3) := by decide +kernel
theorem dX9_without_42 : decode cX9_without 42 = .ok (.iconst 0, 1) := by decide +kernel
theorem dX9_without_43 : decode cX9_without 43 = .ok (.ireturn, 1) := by decide +kernel
set_option maxRecDepth 20000 in
theorem ggX9_without_X9_missing : GoodIn wsX9_without wsX9_missing := goodIn_r _ [18, 19, 20, 21, 22, 4, 23, 24, 6, 25, 26, 27, 28, 29, 30, 31, 32, 33, 34, 35, 36, 37, 38, 39, 40, 41, 42, 43, 44, 45, 46, 47, 48, 49, 50, 51, 52, 53, 54, 55, 56, 57, 58, 59, 60, 61, 62, 63, 64, 65, 66, 67, 68, 69, 70, 71, 72, 73, 74, 75, 76, 77, 78, 79, 80, 81, 82, 83, 84, 85, 86, 87, 88, 89, 90, 91, 92, 93, 94, 95, 96, 97, 98, 99, 100, 101, 102, 103, 104, 105, 106, 107, 108, 109, 110, 111, 112, 113, 114, 115, 116, 117, 118, 119, 120, 121, 122, 123, 124, 125, 126, 127, 128, 129, 130, 131, 132, 133, 134, 135, 136, 137, 138, 139, 140, 141, 142, 143, 144, 145, 146, 147, 148, 149, 150, 151, 152, 153, 154, 155] (by decide +kernel) (by decide +kernel)
set_option maxRecDepth 20000 in
theorem gX9_without_X9_missing : GoodIn wsX9_without (wsV RX9 281 RX9 yX9_missing wsX9_missing) := goodIn_app (goodIn_of _ (by decide +kernel)) ggX9_without_X9_missing
set_option maxRecDepth 20000 in
theorem ggX9_without_X9_holds : GoodIn wsX9_without wsX9_holds := goodIn_r _ [13, 14, 131, 132, 133, 134, 135, 136, 137, 138, 139, 140, 141, 142, 143, 144, 145, 146, 147, 148, 149, 150, 151, 152, 153, 154, 155] (by decide +kernel) (by decide +kernel)
set_option maxRecDepth 20000 in
theorem gX9_without_X9_holds : GoodIn wsX9_without (wsV RX9 158 RX9 yX9_holds wsX9_holds) := goodIn_app (goodIn_of _ (by decide +kernel)) ggX9_without_X9_holds
set_option maxRecDepth 20000 in
theorem ggX9_without_X9_in : GoodIn wsX9_without wsX9_in := goodIn_r _ [9] (by decide +kernel) (by decide +kernel)
set_option maxRecDepth 20000 in
theorem gX9_without_X9_in : GoodIn wsX9_without (va_wsS RX9 69 yX9_in wsX9_in) := goodIn_app (goodIn_of _ (by decide +kernel)) ggX9_without_X9_in
set_option maxRecDepth 20000 in
theorem ggX9_without_X9_isLeg : GoodIn wsX9_without wsX9_isLeg := goodIn_r _ [5, 6, 7, 8, 4, 9, 131, 132, 133, 134, 135, 136, 137, 138, 139, 140, 141, 142, 143, 144, 145, 146, 147, 148, 149, 150, 151, 152, 153, 154, 155] (by decide +kernel) (by decide +kernel)
set_option maxRecDepth 20000 in
theorem gX9_without_X9_isLeg : GoodIn wsX9_without (wsV RX9 180 RX9 yX9_isLeg wsX9_isLeg) := goodIn_app (goodIn_of _ (by decide +kernel)) ggX9_without_X9_isLeg
def D_X9_without : Md := (yX9_without, cX9_without, 3, (some .int), wsX9_without, RX9, { frames := 6, cells := 0, slots := 0, locals := 136 })
theorem nm_X9_without : nmD D_X9_without 2 := ⟨rfl, by decide +kernel, by decide +kernel, by decide +kernel⟩
def wp_X9_without_J27 (x1 : Int32) (x2 : Int32) (s0 : Int32) (w : Wd) (Q : Int32 → Wd → Prop) : Prop :=
  wp_X9_holds s0 w (fun r27 w27 => ((r27 = 0 → Q (0 : Int32) w27) ∧ (¬ r27 = 0 → wp_X9_missing x1 x2 w27 (fun r36 w36 => Q r36 w36))))
def wp_X9_without (x1 : Int32) (x2 : Int32) (w : Wd) (Q : Int32 → Wd → Prop) : Prop :=
  wp_X9_isLeg x1 w (fun r3 => ((¬ r3 = 0 → wp_X9_in x2 (0 : Int32) (3 : Int32) (fun r16 => ((¬ r16 = 0 → wp_X9_without_J27 x1 x2 (0 : Int32) w Q) ∧ (r16 = 0 → wp_X9_without_J27 x1 x2 (2 : Int32) w Q)))) ∧ (r3 = 0 → wp_X9_without_J27 x1 x2 (1 : Int32) w Q)))
theorem ok_X9_without_J27 {G : Gt} {M : Mx} {Qf : State → Prop} {x1 : Int32} {x2 : Int32} {s0 : Int32} {w : Wd} {Q : Int32 → Wd → Prop} (hC : cx G D_X9_without M) (he : en G M (qi Q) Qf) (h : wp_X9_without_J27 x1 x2 s0 w Q) : jq G D_X9_without M Qf 27 [(0, .ref (aD G 0 32)), (1, .int x1), (2, .int x2)] [.int s0, .ref (aD G 0 32)] w := by
  unfold wp_X9_without_J27 at h
  refine jq_callV (As := [.int s0]) (rest := []) (n := 0) (o := 32) (D' := D_X9_holds) dX9_without_27 hC (cl_0 (by decide)) rfl rfl rfl (mt_X9_holds h) gX9_without_X9_holds rfl ⟨rfl, rfl, Nat.le_of_ble_eq_true rfl, Nat.le_of_ble_eq_true rfl⟩ nm_X9_holds rfl (Nat.le_of_ble_eq_true rfl) (kI fun r27 w27 h => ?_)
  refine jq_if_eq (tgt := 42) dX9_without_30 hC (by decide) (fun c30 => ?_) (fun c30 => ?_)
  · have h := h.1 c30
    refine jq_iconst (v := (0 : Int32)) dX9_without_42 hC (by decide) ?_
    exact jq_iret dX9_without_43 hC he rfl ⟨_, rfl, h⟩
  · have h := h.2 c30
    refine jq_aload_n (k0 := 0) dX9_without_33 hC rfl rfl ?_
    refine jq_iload_n (k0 := 1) dX9_without_34 hC rfl rfl ?_
    refine jq_iload_n (k0 := 2) dX9_without_35 hC rfl rfl ?_
    refine jq_callV (As := [.int x1, .int x2]) (rest := []) (n := 0) (o := 32) (D' := D_X9_missing) dX9_without_36 hC (cl_0 (by decide)) rfl rfl rfl (mt_X9_missing h) gX9_without_X9_missing rfl ⟨rfl, rfl, Nat.le_of_ble_eq_true rfl, Nat.le_of_ble_eq_true rfl⟩ nm_X9_missing rfl (Nat.le_of_ble_eq_true rfl) (kI fun r36 w36 h => ?_)
    refine jq_goto (tgt := 43) dX9_without_39 hC (by decide) ?_
    exact jq_iret dX9_without_43 hC he rfl ⟨_, rfl, h⟩
theorem ok_X9_without {G : Gt} {M : Mx} {Qf : State → Prop} {x1 : Int32} {x2 : Int32} {w : Wd} {Q : Int32 → Wd → Prop} (hC : cx G D_X9_without M) (he : en G M (qi Q) Qf) (h : wp_X9_without x1 x2 w Q) : jq G D_X9_without M Qf 0 [(0, .ref (aD G 0 32)), (1, .int x1), (2, .int x2)] [] w := by
  unfold wp_X9_without at h
  refine jq_aload_n (k0 := 0) dX9_without_0 hC rfl rfl ?_
  refine jq_aload_n (k0 := 0) dX9_without_1 hC rfl rfl ?_
  refine jq_iload_n (k0 := 1) dX9_without_2 hC rfl rfl ?_
  refine jq_callV (As := [.int x1]) (rest := [.ref (aD G 0 32)]) (n := 0) (o := 32) (D' := D_X9_isLeg) dX9_without_3 hC (cl_0 (by decide)) rfl rfl rfl (mt_X9_isLeg h) gX9_without_X9_isLeg rfl ⟨rfl, rfl, Nat.le_of_ble_eq_true rfl, Nat.le_of_ble_eq_true rfl⟩ nm_X9_isLeg rfl (Nat.le_of_ble_eq_true rfl) (kIp fun r3 h => ?_)
  refine jq_if_ne (tgt := 13) dX9_without_6 hC (by decide) (fun c6 => ?_) (fun c6 => ?_)
  · have h := h.1 c6
    refine jq_iload_n (k0 := 2) dX9_without_13 hC rfl rfl ?_
    refine jq_iconst (v := (0 : Int32)) dX9_without_14 hC (by decide) ?_
    refine jq_iconst (v := (3 : Int32)) dX9_without_15 hC (by decide) ?_
    refine jq_callS (As := [.int x2, .int (0 : Int32), .int (3 : Int32)]) (rest := [.ref (aD G 0 32)]) (D' := D_X9_in) dX9_without_16 hC (mt_X9_in h) gX9_without_X9_in rfl ⟨rfl, rfl, Nat.le_of_ble_eq_true rfl, Nat.le_of_ble_eq_true rfl⟩ nm_X9_in rfl (Nat.le_of_ble_eq_true rfl) (kIp fun r16 h => ?_)
    refine jq_if_ne (tgt := 26) dX9_without_19 hC (by decide) (fun c19 => ?_) (fun c19 => ?_)
    · have h := h.1 c19
      refine jq_iconst (v := (0 : Int32)) dX9_without_26 hC (by decide) ?_
      refine jq_less (L' := [(0, .ref (aD G 0 32)), (1, .int x1), (2, .int x2)]) [0, 1, 2] rfl ?_
      exact ok_X9_without_J27 hC he h
    · have h := h.2 c19
      refine jq_iconst (v := (2 : Int32)) dX9_without_22 hC (by decide) ?_
      refine jq_goto (tgt := 27) dX9_without_23 hC (by decide) ?_
      refine jq_less (L' := [(0, .ref (aD G 0 32)), (1, .int x1), (2, .int x2)]) [0, 1, 2] rfl ?_
      exact ok_X9_without_J27 hC he h
  · have h := h.2 c6
    refine jq_iconst (v := (1 : Int32)) dX9_without_9 hC (by decide) ?_
    refine jq_goto (tgt := 27) dX9_without_10 hC (by decide) ?_
    refine jq_less (L' := [(0, .ref (aD G 0 32)), (1, .int x1), (2, .int x2)]) [0, 1, 2] rfl ?_
    exact ok_X9_without_J27 hC he h
theorem mt_X9_without {G : Gt} {x1 : Int32} {x2 : Int32} {w : Wd} {Q : Int32 → Wd → Prop} (h : wp_X9_without x1 x2 w Q) : Mt G D_X9_without [.ref (aD G 0 32), .int x1, .int x2] w (qi Q) := Mt_of (by decide +kernel) rfl rfl (Nat.le_of_ble_eq_true rfl) (fun M Qf hC he => ok_X9_without hC he h)
/-! X9.fit(I)I -/
theorem dX9_fit_0 : decode cX9_fit 0 = .ok (.aload_n 0, 1) := by decide +kernel
theorem dX9_fit_1 : decode cX9_fit 1 = .ok (.getfield 7, 3) := by decide +kernel
theorem dX9_fit_4 : decode cX9_fit 4 = .ok (.iload_n 1, 1) := by decide +kernel
theorem dX9_fit_5 : decode cX9_fit 5 = .ok (.iconst 0, 1) := by decide +kernel
theorem dX9_fit_6 : decode cX9_fit 6 = .ok (.invokestatic 76, 3) := by decide +kernel
theorem dX9_fit_9 : decode cX9_fit 9 = .ok (.iaload, 1) := by decide +kernel
theorem dX9_fit_10 : decode cX9_fit 10 = .ok (.istore_n 2, 1) := by decide +kernel
theorem dX9_fit_11 : decode cX9_fit 11 = .ok (.aload_n 0, 1) := by decide +kernel
theorem dX9_fit_12 : decode cX9_fit 12 = .ok (.getfield 7, 3) := by decide +kernel
theorem dX9_fit_15 : decode cX9_fit 15 = .ok (.iload_n 1, 1) := by decide +kernel
theorem dX9_fit_16 : decode cX9_fit 16 = .ok (.iconst 1, 1) := by decide +kernel
theorem dX9_fit_17 : decode cX9_fit 17 = .ok (.invokestatic 76, 3) := by decide +kernel
theorem dX9_fit_20 : decode cX9_fit 20 = .ok (.iaload, 1) := by decide +kernel
theorem dX9_fit_21 : decode cX9_fit 21 = .ok (.istore_n 3, 1) := by decide +kernel
theorem dX9_fit_22 : decode cX9_fit 22 = .ok (.aload_n 0, 1) := by decide +kernel
theorem dX9_fit_23 : decode cX9_fit 23 = .ok (.invokevirtual 275, 3) := by decide +kernel
theorem dX9_fit_26 : decode cX9_fit 26 = .ok (.aload_n 0, 1) := by decide +kernel
theorem dX9_fit_27 : decode cX9_fit 27 = .ok (.iload_n 1, 1) := by decide +kernel
theorem dX9_fit_28 : decode cX9_fit 28 = .ok (.invokevirtual 188, 3) := by decide +kernel
theorem dX9_fit_31 : decode cX9_fit 31 = .ok (.aload_n 0, 1) := by decide +kernel
theorem dX9_fit_32 : decode cX9_fit 32 = .ok (.invokevirtual 148, 3) := by decide +kernel
theorem dX9_fit_35 : decode cX9_fit 35 = .ok (.aload_n 0, 1) := by decide +kernel
theorem dX9_fit_36 : decode cX9_fit 36 = .ok (.getfield 22, 3) := by decide +kernel
theorem dX9_fit_39 : decode cX9_fit 39 = .ok (.iload_n 2, 1) := by decide +kernel
theorem dX9_fit_40 : decode cX9_fit 40 = .ok (.iaload, 1) := by decide +kernel
theorem dX9_fit_41 : decode cX9_fit 41 = .ok (.aload_n 0, 1) := by decide +kernel
theorem dX9_fit_42 : decode cX9_fit 42 = .ok (.getfield 22, 3) := by decide +kernel
theorem dX9_fit_45 : decode cX9_fit 45 = .ok (.iload_n 3, 1) := by decide +kernel
theorem dX9_fit_46 : decode cX9_fit 46 = .ok (.iaload, 1) := by decide +kernel
theorem dX9_fit_47 : decode cX9_fit 47 = .ok (.if_icmp .ne 15, 3) := by decide +kernel
theorem dX9_fit_50 : decode cX9_fit 50 = .ok (.aload_n 0, 1) := by decide +kernel
theorem dX9_fit_51 : decode cX9_fit 51 = .ok (.iload_n 2, 1) := by decide +kernel
theorem dX9_fit_52 : decode cX9_fit 52 = .ok (.iload_n 3, 1) := by decide +kernel
theorem dX9_fit_53 : decode cX9_fit 53 = .ok (.invokevirtual 132, 3) := by decide +kernel
theorem dX9_fit_56 : decode cX9_fit 56 = .ok (.ldc 187, 2) := by decide +kernel
theorem dX9_fit_58 : decode cX9_fit 58 = .ok (.iadd, 1) := by decide +kernel
theorem dX9_fit_59 : decode cX9_fit 59 = .ok (.goto 4, 3) := by decide +kernel
theorem dX9_fit_62 : decode cX9_fit 62 = .ok (.iconst (-1), 1) := by decide +kernel
theorem dX9_fit_63 : decode cX9_fit 63 = .ok (.istore 4, 2) := by decide +kernel
theorem dX9_fit_65 : decode cX9_fit 65 = .ok (.aload_n 0, 1) := by decide +kernel
theorem dX9_fit_66 : decode cX9_fit 66 = .ok (.invokevirtual 278, 3) := by decide +kernel
theorem dX9_fit_69 : decode cX9_fit 69 = .ok (.iload 4, 2) := by decide +kernel
theorem dX9_fit_71 : decode cX9_fit 71 = .ok (.ireturn, 1) := by decide +kernel
set_option maxRecDepth 20000 in
theorem ggX9_fit_X9_putBack : GoodIn wsX9_fit wsX9_putBack := goodIn_r _ [99, 1, 12, 100, 101, 102, 103, 104, 105, 106, 107, 108, 109, 110, 111, 112, 113, 114, 115, 116, 117, 118, 119, 120, 121, 122, 123, 124] (by decide +kernel) (by decide +kernel)
set_option maxRecDepth 20000 in
theorem gX9_fit_X9_putBack : GoodIn wsX9_fit (wsV RX9 278 RX9 yX9_putBack wsX9_putBack) := goodIn_app (goodIn_of _ (by decide +kernel)) ggX9_fit_X9_putBack
set_option maxRecDepth 20000 in
theorem ggX9_fit_X9_rise : GoodIn wsX9_fit wsX9_rise := goodIn_r _ [91, 1, 49, 52, 53, 54, 6, 55, 56, 57, 58, 59, 25, 26, 4, 5, 7, 92, 93, 94, 95, 64, 100, 101, 102, 103, 104, 105, 106, 107, 108, 109, 110, 111, 112, 113, 114, 115, 116, 117, 118, 119, 120, 121, 122, 123, 124] (by decide +kernel) (by decide +kernel)
set_option maxRecDepth 20000 in
theorem gX9_fit_X9_rise : GoodIn wsX9_fit (wsV RX9 132 RX9 yX9_rise wsX9_rise) := goodIn_app (goodIn_of _ (by decide +kernel)) ggX9_fit_X9_rise
set_option maxRecDepth 20000 in
theorem ggX9_fit_X9_layOut : GoodIn wsX9_fit wsX9_layOut := goodIn_r _ [20, 21, 22, 23, 6, 24, 1, 2, 25, 26, 27, 28, 29, 30, 31, 4, 5, 7, 32, 33, 34, 35, 36, 37, 38, 39, 40, 41, 42, 43, 44, 45, 46, 47, 48, 49, 50, 51, 52, 53, 54, 55, 56, 57, 58, 59, 60, 61, 62, 63, 64, 65, 66, 67, 68, 69, 70, 71, 72, 73, 74, 75, 76, 77, 78, 79, 80, 81, 82, 83, 84, 85, 86, 87, 100, 101, 102, 103, 104, 105, 106, 107, 108, 109, 110, 111, 112, 113, 114, 115, 116, 117, 118, 119, 120, 121, 122, 123, 124] (by decide +kernel) (by decide +kernel)
set_option maxRecDepth 20000 in
theorem gX9_fit_X9_layOut : GoodIn wsX9_fit (wsV RX9 148 RX9 yX9_layOut wsX9_layOut) := goodIn_app (goodIn_of _ (by decide +kernel)) ggX9_fit_X9_layOut
set_option maxRecDepth 20000 in
theorem ggX9_fit_X9_remove : GoodIn wsX9_fit wsX9_remove := goodIn_r _ [16, 1, 4, 5, 6, 7, 100, 101, 102, 103, 104, 105, 106, 107, 108, 109, 110, 111, 112, 113, 114, 115, 116, 117, 118, 119, 120, 121, 122, 123, 124] (by decide +kernel) (by decide +kernel)
set_option maxRecDepth 20000 in
theorem gX9_fit_X9_remove : GoodIn wsX9_fit (wsV RX9 188 RX9 yX9_remove wsX9_remove) := goodIn_app (goodIn_of _ (by decide +kernel)) ggX9_fit_X9_remove
set_option maxRecDepth 20000 in
theorem ggX9_fit_X9_putAside : GoodIn wsX9_fit wsX9_putAside := goodIn_r _ [11, 12, 1, 100, 101, 102, 103, 104, 105, 106, 107, 108, 109, 110, 111, 112, 113, 114, 115, 116, 117, 118, 119, 120, 121, 122, 123, 124] (by decide +kernel) (by decide +kernel)
set_option maxRecDepth 20000 in
theorem gX9_fit_X9_putAside : GoodIn wsX9_fit (wsV RX9 275 RX9 yX9_putAside wsX9_putAside) := goodIn_app (goodIn_of _ (by decide +kernel)) ggX9_fit_X9_putAside
set_option maxRecDepth 20000 in
theorem ggX9_fit_X9_of : GoodIn wsX9_fit wsX9_of := goodIn_r _ [7] (by decide +kernel) (by decide +kernel)
set_option maxRecDepth 20000 in
theorem gX9_fit_X9_of : GoodIn wsX9_fit (va_wsS RX9 76 yX9_of wsX9_of) := goodIn_app (goodIn_of _ (by decide +kernel)) ggX9_fit_X9_of
def D_X9_fit : Md := (yX9_fit, cX9_fit, 5, (some .int), wsX9_fit, RX9, { frames := 5, cells := 0, slots := 0, locals := 113 })
theorem nm_X9_fit : nmD D_X9_fit 1 := ⟨rfl, by decide +kernel, by decide +kernel, by decide +kernel⟩
theorem hi_X9_fit_X9 : ∀ w ∈ u_ws RX9 TX9 25, w ∈ wsX9_fit := by decide +kernel
theorem hl_X9_fit_7 : Cond.fieldLink RX9 7 "LevelLoopsModel" "s" "[I" ∈ wsX9_fit := by decide +kernel
theorem hl_X9_fit_22 : Cond.fieldLink RX9 22 "LevelLoopsModel" "net" "[I" ∈ wsX9_fit := by decide +kernel
def wp_X9_fit_J63 (s0 : Int32) (w : Wd) (Q : Int32 → Wd → Prop) : Prop :=
  wp_X9_putBack w (fun w66 => Q s0 w66)
def wp_X9_fit (x1 : Int32) (w : Wd) (Q : Int32 → Wd → Prop) : Prop :=
  wp_X9_of x1 (0 : Int32) (fun r6 => vp_in r6 95 ∧ wp_X9_of x1 (1 : Int32) (fun r17 => vp_in r17 95 ∧ wp_X9_putAside w (fun w23 => wp_X9_remove x1 w23 (fun w28 => wp_X9_layOut w28 (fun w32 => vp_in (wi w 0 33 r6.toNatClampNeg) 10 ∧ vp_in (wi w 0 33 r17.toNatClampNeg) 10 ∧ ((¬ (wi w32 0 37 (wi w 0 33 r6.toNatClampNeg).toNatClampNeg) = (wi w32 0 37 (wi w 0 33 r17.toNatClampNeg).toNatClampNeg) → wp_X9_fit_J63 (-1 : Int32) w32 Q) ∧ ((wi w32 0 37 (wi w 0 33 r6.toNatClampNeg).toNatClampNeg) = (wi w32 0 37 (wi w 0 33 r17.toNatClampNeg).toNatClampNeg) → wp_X9_rise (wi w 0 33 r6.toNatClampNeg) (wi w 0 33 r17.toNatClampNeg) w32 (fun r53 w53 => wp_X9_fit_J63 (r53 + (1000000 : Int32)) w53 Q))))))))
theorem ok_X9_fit_J63 {G : Gt} {M : Mx} {Qf : State → Prop} {s0 : Int32} {w : Wd} {Q : Int32 → Wd → Prop} (hC : cx G D_X9_fit M) (he : en G M (qi Q) Qf) (h : wp_X9_fit_J63 s0 w Q) : jq G D_X9_fit M Qf 63 [(0, .ref (aD G 0 32))] [.int s0] w := by
  unfold wp_X9_fit_J63 at h
  refine jq_istore (L' := [(4, .int s0), (0, .ref (aD G 0 32))]) dX9_fit_63 hC (by decide) rfl ?_
  refine jq_aload_n (k0 := 1) dX9_fit_65 hC rfl rfl ?_
  refine jq_callV (As := []) (rest := []) (n := 0) (o := 32) (D' := D_X9_putBack) dX9_fit_66 hC (cl_0 (by decide)) rfl rfl rfl (mt_X9_putBack h) gX9_fit_X9_putBack rfl ⟨rfl, rfl, Nat.le_of_ble_eq_true rfl, Nat.le_of_ble_eq_true rfl⟩ nm_X9_putBack rfl (Nat.le_of_ble_eq_true rfl) (kV fun w66 h => ?_)
  refine jq_iload (k0 := 0) dX9_fit_69 hC rfl ?_
  exact jq_iret dX9_fit_71 hC he rfl ⟨_, rfl, h⟩
theorem ok_X9_fit {G : Gt} {M : Mx} {Qf : State → Prop} {x1 : Int32} {w : Wd} {Q : Int32 → Wd → Prop} (hC : cx G D_X9_fit M) (he : en G M (qi Q) Qf) (h : wp_X9_fit x1 w Q) : jq G D_X9_fit M Qf 0 [(0, .ref (aD G 0 32)), (1, .int x1)] [] w := by
  unfold wp_X9_fit at h
  refine jq_aload_n (k0 := 0) dX9_fit_0 hC rfl rfl ?_
  refine jq_get (k0 := 1) (n := 0) (o := 32) dX9_fit_1 hC (cl_0 (by decide)) rfl rfl hi_X9_fit_X9 (by decide) hl_X9_fit_7 rfl rfl ?_
  refine jq_iload_n (k0 := 1) dX9_fit_4 hC rfl rfl ?_
  refine jq_iconst (v := (0 : Int32)) dX9_fit_5 hC (by decide) ?_
  refine jq_callS (As := [.int x1, .int (0 : Int32)]) (rest := [.ref (aD G 0 33)]) (D' := D_X9_of) dX9_fit_6 hC (mt_X9_of h) gX9_fit_X9_of rfl ⟨rfl, rfl, Nat.le_of_ble_eq_true rfl, Nat.le_of_ble_eq_true rfl⟩ nm_X9_of rfl (Nat.le_of_ble_eq_true rfl) (kIp fun r6 h => ?_)
  obtain ⟨b9, h⟩ := h
  refine jq_iald (n := 0) (o := 33) (j := r6.toNatClampNeg) dX9_fit_9 hC (cl_0 (by decide)) rfl b9 rfl ?_
  refine jq_istore_n (L' := [(2, .int (wi w 0 33 r6.toNatClampNeg)), (0, .ref (aD G 0 32)), (1, .int x1)]) dX9_fit_10 hC rfl (by decide) rfl ?_
  refine jq_aload_n (k0 := 1) dX9_fit_11 hC rfl rfl ?_
  refine jq_get (k0 := 1) (n := 0) (o := 32) dX9_fit_12 hC (cl_0 (by decide)) rfl rfl hi_X9_fit_X9 (by decide) hl_X9_fit_7 rfl rfl ?_
  refine jq_iload_n (k0 := 2) dX9_fit_15 hC rfl rfl ?_
  refine jq_iconst (v := (1 : Int32)) dX9_fit_16 hC (by decide) ?_
  refine jq_callS (As := [.int x1, .int (1 : Int32)]) (rest := [.ref (aD G 0 33)]) (D' := D_X9_of) dX9_fit_17 hC (mt_X9_of h) gX9_fit_X9_of rfl ⟨rfl, rfl, Nat.le_of_ble_eq_true rfl, Nat.le_of_ble_eq_true rfl⟩ nm_X9_of rfl (Nat.le_of_ble_eq_true rfl) (kIp fun r17 h => ?_)
  obtain ⟨b20, h⟩ := h
  refine jq_iald (n := 0) (o := 33) (j := r17.toNatClampNeg) dX9_fit_20 hC (cl_0 (by decide)) rfl b20 rfl ?_
  refine jq_istore_n (L' := [(3, .int (wi w 0 33 r17.toNatClampNeg)), (2, .int (wi w 0 33 r6.toNatClampNeg)), (0, .ref (aD G 0 32)), (1, .int x1)]) dX9_fit_21 hC rfl (by decide) rfl ?_
  refine jq_aload_n (k0 := 2) dX9_fit_22 hC rfl rfl ?_
  refine jq_callV (As := []) (rest := []) (n := 0) (o := 32) (D' := D_X9_putAside) dX9_fit_23 hC (cl_0 (by decide)) rfl rfl rfl (mt_X9_putAside h) gX9_fit_X9_putAside rfl ⟨rfl, rfl, Nat.le_of_ble_eq_true rfl, Nat.le_of_ble_eq_true rfl⟩ nm_X9_putAside rfl (Nat.le_of_ble_eq_true rfl) (kV fun w23 h => ?_)
  refine jq_aload_n (k0 := 2) dX9_fit_26 hC rfl rfl ?_
  refine jq_iload_n (k0 := 3) dX9_fit_27 hC rfl rfl ?_
  refine jq_callV (As := [.int x1]) (rest := []) (n := 0) (o := 32) (D' := D_X9_remove) dX9_fit_28 hC (cl_0 (by decide)) rfl rfl rfl (mt_X9_remove h) gX9_fit_X9_remove rfl ⟨rfl, rfl, Nat.le_of_ble_eq_true rfl, Nat.le_of_ble_eq_true rfl⟩ nm_X9_remove rfl (Nat.le_of_ble_eq_true rfl) (kV fun w28 h => ?_)
  refine jq_aload_n (k0 := 2) dX9_fit_31 hC rfl rfl ?_
  refine jq_callV (As := []) (rest := []) (n := 0) (o := 32) (D' := D_X9_layOut) dX9_fit_32 hC (cl_0 (by decide)) rfl rfl rfl (mt_X9_layOut h) gX9_fit_X9_layOut rfl ⟨rfl, rfl, Nat.le_of_ble_eq_true rfl, Nat.le_of_ble_eq_true rfl⟩ nm_X9_layOut rfl (Nat.le_of_ble_eq_true rfl) (kV fun w32 h => ?_)
  refine jq_aload_n (k0 := 2) dX9_fit_35 hC rfl rfl ?_
  refine jq_get (k0 := 7) (n := 0) (o := 32) dX9_fit_36 hC (cl_0 (by decide)) rfl rfl hi_X9_fit_X9 (by decide) hl_X9_fit_22 rfl rfl ?_
  refine jq_iload_n (k0 := 1) dX9_fit_39 hC rfl rfl ?_
  obtain ⟨b40, h⟩ := h
  refine jq_iald (n := 0) (o := 37) (j := (wi w 0 33 r6.toNatClampNeg).toNatClampNeg) dX9_fit_40 hC (cl_0 (by decide)) rfl b40 rfl ?_
  refine jq_aload_n (k0 := 2) dX9_fit_41 hC rfl rfl ?_
  refine jq_get (k0 := 7) (n := 0) (o := 32) dX9_fit_42 hC (cl_0 (by decide)) rfl rfl hi_X9_fit_X9 (by decide) hl_X9_fit_22 rfl rfl ?_
  refine jq_iload_n (k0 := 0) dX9_fit_45 hC rfl rfl ?_
  obtain ⟨b46, h⟩ := h
  refine jq_iald (n := 0) (o := 37) (j := (wi w 0 33 r17.toNatClampNeg).toNatClampNeg) dX9_fit_46 hC (cl_0 (by decide)) rfl b46 rfl ?_
  refine jq_icmp_ne (tgt := 62) dX9_fit_47 hC (by decide) (fun c47 => ?_) (fun c47 => ?_)
  · have h := h.1 c47
    refine jq_iconst (v := (-1 : Int32)) dX9_fit_62 hC (by decide) ?_
    refine jq_less (L' := [(0, .ref (aD G 0 32))]) [2] rfl ?_
    exact ok_X9_fit_J63 hC he h
  · have h := h.2 c47
    refine jq_aload_n (k0 := 2) dX9_fit_50 hC rfl rfl ?_
    refine jq_iload_n (k0 := 1) dX9_fit_51 hC rfl rfl ?_
    refine jq_iload_n (k0 := 0) dX9_fit_52 hC rfl rfl ?_
    refine jq_callV (As := [.int (wi w 0 33 r6.toNatClampNeg), .int (wi w 0 33 r17.toNatClampNeg)]) (rest := []) (n := 0) (o := 32) (D' := D_X9_rise) dX9_fit_53 hC (cl_0 (by decide)) rfl rfl rfl (mt_X9_rise h) gX9_fit_X9_rise rfl ⟨rfl, rfl, Nat.le_of_ble_eq_true rfl, Nat.le_of_ble_eq_true rfl⟩ nm_X9_rise rfl (Nat.le_of_ble_eq_true rfl) (kI fun r53 w53 h => ?_)
    refine jq_ldc (v := (1000000 : Int32)) dX9_fit_56 hC (by decide +kernel) ?_
    refine jq_iadd dX9_fit_58 hC ?_
    refine jq_goto (tgt := 63) dX9_fit_59 hC (by decide) ?_
    refine jq_less (L' := [(0, .ref (aD G 0 32))]) [2] rfl ?_
    exact ok_X9_fit_J63 hC he h
theorem mt_X9_fit {G : Gt} {x1 : Int32} {w : Wd} {Q : Int32 → Wd → Prop} (h : wp_X9_fit x1 w Q) : Mt G D_X9_fit [.ref (aD G 0 32), .int x1] w (qi Q) := Mt_of (by decide +kernel) rfl rfl (Nat.le_of_ble_eq_true rfl) (fun M Qf hC he => ok_X9_fit hC he h)
/-! X9.fitting(I)I -/
theorem dX9_fitting_0 : decode cX9_fitting 0 = .ok (.aload_n 0, 1) := by decide +kernel
theorem dX9_fitting_1 : decode cX9_fitting 1 = .ok (.aload_n 0, 1) := by decide +kernel
theorem dX9_fitting_2 : decode cX9_fitting 2 = .ok (.iload_n 1, 1) := by decide +kernel
theorem dX9_fitting_3 : decode cX9_fitting 3 = .ok (.invokevirtual 180, 3) := by decide +kernel
theorem dX9_fitting_6 : decode cX9_fitting 6 = .ok (.ifCond .eq 7, 3) := by decide +kernel
theorem dX9_fitting_9 : decode cX9_fitting 9 = .ok (.iconst 0, 1) := by decide +kernel
theorem dX9_fitting_10 : decode cX9_fitting 10 = .ok (.goto 4, 3) := by decide +kernel
theorem dX9_fitting_13 : decode cX9_fitting 13 = .ok (.iconst 1, 1) := by decide +kernel
theorem dX9_fitting_14 : decode cX9_fitting 14 = .ok (.invokevirtual 158, 3) := by decide +kernel
theorem dX9_fitting_17 : decode cX9_fitting 17 = .ok (.ifCond .eq 11, 3) := by decide +kernel
theorem dX9_fitting_20 : decode cX9_fitting 20 = .ok (.aload_n 0, 1) := by decide +kernel
theorem dX9_fitting_21 : decode cX9_fitting 21 = .ok (.iload_n 1, 1) := by decide +kernel
theorem dX9_fitting_22 : decode cX9_fitting 22 = .ok (.invokevirtual 284, 3) := by decide +kernel
theorem dX9_fitting_25 : decode cX9_fitting 25 = .ok (.goto 4, 3) := by decide +kernel
theorem dX9_fitting_28 : decode cX9_fitting 28 = .ok (.iconst 0, 1) := by decide +kernel
theorem dX9_fitting_29 : decode cX9_fitting 29 = .ok (.ireturn, 1) := by decide +kernel
set_option maxRecDepth 20000 in
theorem ggX9_fitting_X9_fit : GoodIn wsX9_fitting wsX9_fit := goodIn_r _ [18, 6, 19, 20, 21, 22, 4, 23, 24, 25, 26, 27, 28, 29, 30, 31, 32, 33, 34, 35, 36, 37, 38, 39, 40, 41, 42, 43, 44, 45, 46, 47, 48, 49, 50, 51, 52, 53, 54, 55, 56, 57, 58, 59, 60, 61, 62, 63, 64, 65, 66, 67, 68, 69, 70, 71, 72, 73, 74, 75, 76, 77, 78, 79, 80, 81, 82, 83, 84, 85, 86, 87, 88, 89, 90, 91, 92, 93, 94, 95, 96, 97, 98, 99, 100, 101, 102, 103, 104, 105, 106, 107, 108, 109, 110, 111, 112, 113, 114, 115, 116, 117, 118, 119, 120, 121, 122, 123, 124, 125, 126, 127, 128, 129, 130, 131, 132, 133, 134, 135, 136, 137, 138, 139, 140] (by decide +kernel) (by decide +kernel)
set_option maxRecDepth 20000 in
theorem gX9_fitting_X9_fit : GoodIn wsX9_fitting (wsV RX9 284 RX9 yX9_fit wsX9_fit) := goodIn_app (goodIn_of _ (by decide +kernel)) ggX9_fitting_X9_fit
set_option maxRecDepth 20000 in
theorem ggX9_fitting_X9_holds : GoodIn wsX9_fitting wsX9_holds := goodIn_r _ [13, 14, 116, 117, 118, 119, 120, 121, 122, 123, 124, 125, 126, 127, 128, 129, 130, 131, 132, 133, 134, 135, 136, 137, 138, 139, 140] (by decide +kernel) (by decide +kernel)
set_option maxRecDepth 20000 in
theorem gX9_fitting_X9_holds : GoodIn wsX9_fitting (wsV RX9 158 RX9 yX9_holds wsX9_holds) := goodIn_app (goodIn_of _ (by decide +kernel)) ggX9_fitting_X9_holds
set_option maxRecDepth 20000 in
theorem ggX9_fitting_X9_isLeg : GoodIn wsX9_fitting wsX9_isLeg := goodIn_r _ [5, 6, 7, 8, 4, 9, 116, 117, 118, 119, 120, 121, 122, 123, 124, 125, 126, 127, 128, 129, 130, 131, 132, 133, 134, 135, 136, 137, 138, 139, 140] (by decide +kernel) (by decide +kernel)
set_option maxRecDepth 20000 in
theorem gX9_fitting_X9_isLeg : GoodIn wsX9_fitting (wsV RX9 180 RX9 yX9_isLeg wsX9_isLeg) := goodIn_app (goodIn_of _ (by decide +kernel)) ggX9_fitting_X9_isLeg
def D_X9_fitting : Md := (yX9_fitting, cX9_fitting, 2, (some .int), wsX9_fitting, RX9, { frames := 6, cells := 0, slots := 0, locals := 137 })
theorem nm_X9_fitting : nmD D_X9_fitting 1 := ⟨rfl, by decide +kernel, by decide +kernel, by decide +kernel⟩
def wp_X9_fitting_J14 (x1 : Int32) (s0 : Int32) (w : Wd) (Q : Int32 → Wd → Prop) : Prop :=
  wp_X9_holds s0 w (fun r14 w14 => ((r14 = 0 → Q (0 : Int32) w14) ∧ (¬ r14 = 0 → wp_X9_fit x1 w14 (fun r22 w22 => Q r22 w22))))
def wp_X9_fitting (x1 : Int32) (w : Wd) (Q : Int32 → Wd → Prop) : Prop :=
  wp_X9_isLeg x1 w (fun r3 => ((r3 = 0 → wp_X9_fitting_J14 x1 (1 : Int32) w Q) ∧ (¬ r3 = 0 → wp_X9_fitting_J14 x1 (0 : Int32) w Q)))
theorem ok_X9_fitting_J14 {G : Gt} {M : Mx} {Qf : State → Prop} {x1 : Int32} {s0 : Int32} {w : Wd} {Q : Int32 → Wd → Prop} (hC : cx G D_X9_fitting M) (he : en G M (qi Q) Qf) (h : wp_X9_fitting_J14 x1 s0 w Q) : jq G D_X9_fitting M Qf 14 [(0, .ref (aD G 0 32)), (1, .int x1)] [.int s0, .ref (aD G 0 32)] w := by
  unfold wp_X9_fitting_J14 at h
  refine jq_callV (As := [.int s0]) (rest := []) (n := 0) (o := 32) (D' := D_X9_holds) dX9_fitting_14 hC (cl_0 (by decide)) rfl rfl rfl (mt_X9_holds h) gX9_fitting_X9_holds rfl ⟨rfl, rfl, Nat.le_of_ble_eq_true rfl, Nat.le_of_ble_eq_true rfl⟩ nm_X9_holds rfl (Nat.le_of_ble_eq_true rfl) (kI fun r14 w14 h => ?_)
  refine jq_if_eq (tgt := 28) dX9_fitting_17 hC (by decide) (fun c17 => ?_) (fun c17 => ?_)
  · have h := h.1 c17
    refine jq_iconst (v := (0 : Int32)) dX9_fitting_28 hC (by decide) ?_
    exact jq_iret dX9_fitting_29 hC he rfl ⟨_, rfl, h⟩
  · have h := h.2 c17
    refine jq_aload_n (k0 := 0) dX9_fitting_20 hC rfl rfl ?_
    refine jq_iload_n (k0 := 1) dX9_fitting_21 hC rfl rfl ?_
    refine jq_callV (As := [.int x1]) (rest := []) (n := 0) (o := 32) (D' := D_X9_fit) dX9_fitting_22 hC (cl_0 (by decide)) rfl rfl rfl (mt_X9_fit h) gX9_fitting_X9_fit rfl ⟨rfl, rfl, Nat.le_of_ble_eq_true rfl, Nat.le_of_ble_eq_true rfl⟩ nm_X9_fit rfl (Nat.le_of_ble_eq_true rfl) (kI fun r22 w22 h => ?_)
    refine jq_goto (tgt := 29) dX9_fitting_25 hC (by decide) ?_
    exact jq_iret dX9_fitting_29 hC he rfl ⟨_, rfl, h⟩
theorem ok_X9_fitting {G : Gt} {M : Mx} {Qf : State → Prop} {x1 : Int32} {w : Wd} {Q : Int32 → Wd → Prop} (hC : cx G D_X9_fitting M) (he : en G M (qi Q) Qf) (h : wp_X9_fitting x1 w Q) : jq G D_X9_fitting M Qf 0 [(0, .ref (aD G 0 32)), (1, .int x1)] [] w := by
  unfold wp_X9_fitting at h
  refine jq_aload_n (k0 := 0) dX9_fitting_0 hC rfl rfl ?_
  refine jq_aload_n (k0 := 0) dX9_fitting_1 hC rfl rfl ?_
  refine jq_iload_n (k0 := 1) dX9_fitting_2 hC rfl rfl ?_
  refine jq_callV (As := [.int x1]) (rest := [.ref (aD G 0 32)]) (n := 0) (o := 32) (D' := D_X9_isLeg) dX9_fitting_3 hC (cl_0 (by decide)) rfl rfl rfl (mt_X9_isLeg h) gX9_fitting_X9_isLeg rfl ⟨rfl, rfl, Nat.le_of_ble_eq_true rfl, Nat.le_of_ble_eq_true rfl⟩ nm_X9_isLeg rfl (Nat.le_of_ble_eq_true rfl) (kIp fun r3 h => ?_)
  refine jq_if_eq (tgt := 13) dX9_fitting_6 hC (by decide) (fun c6 => ?_) (fun c6 => ?_)
  · have h := h.1 c6
    refine jq_iconst (v := (1 : Int32)) dX9_fitting_13 hC (by decide) ?_
    refine jq_less (L' := [(0, .ref (aD G 0 32)), (1, .int x1)]) [0, 1] rfl ?_
    exact ok_X9_fitting_J14 hC he h
  · have h := h.2 c6
    refine jq_iconst (v := (0 : Int32)) dX9_fitting_9 hC (by decide) ?_
    refine jq_goto (tgt := 14) dX9_fitting_10 hC (by decide) ?_
    refine jq_less (L' := [(0, .ref (aD G 0 32)), (1, .int x1)]) [0, 1] rfl ?_
    exact ok_X9_fitting_J14 hC he h
theorem mt_X9_fitting {G : Gt} {x1 : Int32} {w : Wd} {Q : Int32 → Wd → Prop} (h : wp_X9_fitting x1 w Q) : Mt G D_X9_fitting [.ref (aD G 0 32), .int x1] w (qi Q) := Mt_of (by decide +kernel) rfl rfl (Nat.le_of_ble_eq_true rfl) (fun M Qf hC he => ok_X9_fitting hC he h)
/-! X9.share()D -/
theorem dX9_share__0 : decode cX9_share_ 0 = .ok (.aload_n 0, 1) := by decide +kernel
theorem dX9_share__1 : decode cX9_share_ 1 = .ok (.getfield 98, 3) := by decide +kernel
theorem dX9_share__4 : decode cX9_share_ 4 = .ok (.ifCond .ne 7, 3) := by decide +kernel
theorem dX9_share__7 : decode cX9_share_ 7 = .ok (.dconst 1, 1) := by decide +kernel
theorem dX9_share__8 : decode cX9_share_ 8 = .ok (.goto 19, 3) := by decide +kernel
theorem dX9_share__11 : decode cX9_share_ 11 = .ok (.aload_n 0, 1) := by decide +kernel
theorem dX9_share__12 : decode cX9_share_ 12 = .ok (.getfield 98, 3) := by decide +kernel
theorem dX9_share__15 : decode cX9_share_ 15 = .ok (.aload_n 0, 1) := by decide +kernel
theorem dX9_share__16 : decode cX9_share_ 16 = .ok (.invokevirtual 251, 3) := by decide +kernel
theorem dX9_share__19 : decode cX9_share_ 19 = .ok (.isub, 1) := by decide +kernel
theorem dX9_share__20 : decode cX9_share_ 20 = .ok (.i2d, 1) := by decide +kernel
theorem dX9_share__21 : decode cX9_share_ 21 = .ok (.aload_n 0, 1) := by decide +kernel
theorem dX9_share__22 : decode cX9_share_ 22 = .ok (.getfield 98, 3) := by decide +kernel
theorem dX9_share__25 : decode cX9_share_ 25 = .ok (.i2d, 1) := by decide +kernel
theorem dX9_share__26 : decode cX9_share_ 26 = .ok (.ddiv, 1) := by decide +kernel
theorem dX9_share__27 : decode cX9_share_ 27 = .ok (.dreturn, 1) := by decide +kernel
set_option maxRecDepth 20000 in
theorem ggX9_share__X9_bads : GoodIn wsX9_share_ wsX9_bads := goodIn_r _ [6, 1, 7, 8, 9, 5, 10, 11, 12, 13, 14, 15, 16, 17, 18, 19, 20, 21, 22, 23, 24, 25, 26, 27, 28, 29, 30, 31, 32, 33, 34, 35, 36, 37, 38, 39, 40, 41, 42, 43, 44, 45, 46, 47, 48, 49, 50, 51, 52, 53, 54, 55, 56, 57, 58, 59] (by decide +kernel) (by decide +kernel)
set_option maxRecDepth 20000 in
theorem gX9_share__X9_bads : GoodIn wsX9_share_ (wsV RX9 251 RX9 yX9_bads wsX9_bads) := goodIn_app (goodIn_of _ (by decide +kernel)) ggX9_share__X9_bads
def D_X9_share_ : Md := (yX9_share_, cX9_share_, 1, (some .double), wsX9_share_, RX9, { frames := 5, cells := 0, slots := 0, locals := 109 })
theorem nm_X9_share_ : nmD D_X9_share_ 0 := ⟨rfl, by decide +kernel, by decide +kernel, by decide +kernel⟩
theorem hi_X9_share__X9 : ∀ w ∈ u_ws RX9 TX9 25, w ∈ wsX9_share_ := by decide +kernel
theorem hl_X9_share__98 : Cond.fieldLink RX9 98 "LevelLoopsModel" "manyLoops" "I" ∈ wsX9_share_ := by decide +kernel
def wp_X9_share_ (w : Wd) (Q : UInt64 → Prop) : Prop :=
  ((¬ (wi w 0 32 15) = 0 → wp_X9_bads w (fun r16 => vf_n64 (FP.ddiv (FP.i2d ((wi w 0 32 15) - r16)) (FP.i2d (wi w 0 32 15))) ∧ Q (FP.ddiv (FP.i2d ((wi w 0 32 15) - r16)) (FP.i2d (wi w 0 32 15))))) ∧ ((wi w 0 32 15) = 0 → Q FP.dconst1))
theorem ok_X9_share_ {G : Gt} {M : Mx} {Qf : State → Prop} {w : Wd} {Q : UInt64 → Prop} (hC : cx G D_X9_share_ M) (he : en G M (qdp w Q) Qf) (h : wp_X9_share_ w Q) : jq G D_X9_share_ M Qf 0 [(0, .ref (aD G 0 32))] [] w := by
  unfold wp_X9_share_ at h
  refine jq_aload_n (k0 := 0) dX9_share__0 hC rfl rfl ?_
  refine jq_get (k0 := 15) (n := 0) (o := 32) dX9_share__1 hC (cl_0 (by decide)) rfl rfl hi_X9_share__X9 (by decide) hl_X9_share__98 rfl rfl ?_
  refine jq_if_ne (tgt := 11) dX9_share__4 hC (by decide) (fun c4 => ?_) (fun c4 => ?_)
  · have h := h.1 c4
    refine jq_aload_n (k0 := 0) dX9_share__11 hC rfl rfl ?_
    refine jq_get (k0 := 15) (n := 0) (o := 32) dX9_share__12 hC (cl_0 (by decide)) rfl rfl hi_X9_share__X9 (by decide) hl_X9_share__98 rfl rfl ?_
    refine jq_aload_n (k0 := 0) dX9_share__15 hC rfl rfl ?_
    refine jq_callV (As := []) (rest := [.int (wi w 0 32 15)]) (n := 0) (o := 32) (D' := D_X9_bads) dX9_share__16 hC (cl_0 (by decide)) rfl rfl rfl (mt_X9_bads h) gX9_share__X9_bads rfl ⟨rfl, rfl, Nat.le_of_ble_eq_true rfl, Nat.le_of_ble_eq_true rfl⟩ nm_X9_bads rfl (Nat.le_of_ble_eq_true rfl) (kIp fun r16 h => ?_)
    refine jq_isub dX9_share__19 hC ?_
    refine jq_i2d dX9_share__20 hC ?_
    refine jq_aload_n (k0 := 0) dX9_share__21 hC rfl rfl ?_
    refine jq_get (k0 := 15) (n := 0) (o := 32) dX9_share__22 hC (cl_0 (by decide)) rfl rfl hi_X9_share__X9 (by decide) hl_X9_share__98 rfl rfl ?_
    refine jq_i2d dX9_share__25 hC ?_
    obtain ⟨b26, h⟩ := h
    refine jq_ddiv dX9_share__26 hC b26 ?_
    exact jq_dret dX9_share__27 hC he rfl ⟨_, rfl, rfl, h⟩
  · have h := h.2 c4
    refine jq_dconst1 dX9_share__7 hC ?_
    refine jq_goto (tgt := 27) dX9_share__8 hC (by decide) ?_
    exact jq_dret dX9_share__27 hC he rfl ⟨_, rfl, rfl, h⟩
theorem mt_X9_share_ {G : Gt} {w : Wd} {Q : UInt64 → Prop} (h : wp_X9_share_ w Q) : Mt G D_X9_share_ [.ref (aD G 0 32)] w (qdp w Q) := Mt_of (by decide +kernel) rfl rfl (Nat.le_of_ble_eq_true rfl) (fun M Qf hC he => ok_X9_share_ hC he h)
/-! X9.goodShare()D -/
theorem dX9_goodShare_0 : decode cX9_goodShare 0 = .ok (.aload_n 0, 1) := by decide +kernel
theorem dX9_goodShare_1 : decode cX9_goodShare 1 = .ok (.iconst 0, 1) := by decide +kernel
theorem dX9_goodShare_2 : decode cX9_goodShare 2 = .ok (.putfield 65, 3) := by decide +kernel
theorem dX9_goodShare_5 : decode cX9_goodShare 5 = .ok (.aload_n 0, 1) := by decide +kernel
theorem dX9_goodShare_6 : decode cX9_goodShare 6 = .ok (.invokevirtual 148, 3) := by decide +kernel
theorem dX9_goodShare_9 : decode cX9_goodShare 9 = .ok (.aload_n 0, 1) := by decide +kernel
theorem dX9_goodShare_10 : decode cX9_goodShare 10 = .ok (.invokevirtual 287, 3) := by decide +kernel
theorem dX9_goodShare_13 : decode cX9_goodShare 13 = .ok (.dreturn, 1) := by decide +kernel
set_option maxRecDepth 20000 in
theorem ggX9_goodShare_X9_share_ : GoodIn wsX9_goodShare wsX9_share_ := goodIn_r _ [82, 39, 83, 84, 85, 5, 86, 87, 88, 89, 90, 59, 60, 61, 62, 11, 63, 64, 65, 66, 41, 20, 21, 22, 67, 68, 69, 91, 92, 93, 94, 95, 96, 97, 98, 99, 100, 101, 102, 103, 104, 105, 106, 107, 108, 109, 110, 111, 112, 113, 114, 115, 116, 117, 118, 119, 120, 121, 122, 123] (by decide +kernel) (by decide +kernel)
set_option maxRecDepth 20000 in
theorem gX9_goodShare_X9_share_ : GoodIn wsX9_goodShare (wsV RX9 287 RX9 yX9_share_ wsX9_share_) := goodIn_app (goodIn_of _ (by decide +kernel)) ggX9_goodShare_X9_share_
set_option maxRecDepth 20000 in
theorem ggX9_goodShare_X9_layOut : GoodIn wsX9_goodShare wsX9_layOut := goodIn_r _ [6, 7, 8, 9, 5, 10, 11, 12, 13, 14, 15, 16, 17, 18, 19, 20, 21, 22, 23, 24, 25, 26, 27, 28, 29, 30, 31, 32, 33, 34, 35, 36, 37, 38, 39, 40, 41, 42, 43, 44, 45, 46, 47, 48, 49, 50, 51, 52, 53, 54, 55, 56, 57, 58, 59, 60, 61, 62, 63, 64, 65, 66, 67, 68, 69, 70, 71, 72, 73, 74, 75, 76, 77, 78, 99, 100, 101, 102, 103, 104, 105, 106, 107, 108, 109, 110, 111, 112, 113, 114, 115, 116, 117, 118, 119, 120, 121, 122, 123] (by decide +kernel) (by decide +kernel)
set_option maxRecDepth 20000 in
theorem gX9_goodShare_X9_layOut : GoodIn wsX9_goodShare (wsV RX9 148 RX9 yX9_layOut wsX9_layOut) := goodIn_app (goodIn_of _ (by decide +kernel)) ggX9_goodShare_X9_layOut
def D_X9_goodShare : Md := (yX9_goodShare, cX9_goodShare, 1, (some .double), wsX9_goodShare, RX9, { frames := 6, cells := 0, slots := 0, locals := 129 })
theorem nm_X9_goodShare : nmD D_X9_goodShare 0 := ⟨rfl, by decide +kernel, by decide +kernel, by decide +kernel⟩
theorem hi_X9_goodShare_X9 : ∀ w ∈ u_ws RX9 TX9 25, w ∈ wsX9_goodShare := by decide +kernel
theorem hl_X9_goodShare_65 : Cond.fieldLink RX9 65 "LevelLoopsModel" "thrown" "I" ∈ wsX9_goodShare := by decide +kernel
def wp_X9_goodShare (w : Wd) (Q : UInt64 → Wd → Prop) : Prop :=
  (∀ w2 : Wd, w2 = (sI w 0 32 0 (0 : Int32)) → wp_X9_layOut w2 (fun w6 => wp_X9_share_ w6 (fun r10 => Q r10 w6)))
theorem ok_X9_goodShare {G : Gt} {M : Mx} {Qf : State → Prop} {w : Wd} {Q : UInt64 → Wd → Prop} (hC : cx G D_X9_goodShare M) (he : en G M (qd Q) Qf) (h : wp_X9_goodShare w Q) : jq G D_X9_goodShare M Qf 0 [(0, .ref (aD G 0 32))] [] w := by
  unfold wp_X9_goodShare at h
  refine jq_aload_n (k0 := 0) dX9_goodShare_0 hC rfl rfl ?_
  refine jq_iconst (v := (0 : Int32)) dX9_goodShare_1 hC (by decide) ?_
  refine jq_put (k0 := 0) (n := 0) (o := 32) (ty := .int) (w' := (sI w 0 32 0 (0 : Int32))) dX9_goodShare_2 hC (cl_0 (by decide)) rfl rfl hi_X9_goodShare_X9 tyX9 tyX9_ok nmX9 (by decide) hl_X9_goodShare_65 rfl rfl (by decide +kernel) rfl rfl (Nat.le_of_ble_eq_true rfl) (e_32_0 G _ _ _) (fun c _ hne => ent_sA c hne) ?_
  refine jq_w (fun w2 e2 => ?_)
  have h := h w2 e2
  refine jq_aload_n (k0 := 0) dX9_goodShare_5 hC rfl rfl ?_
  refine jq_callV (As := []) (rest := []) (n := 0) (o := 32) (D' := D_X9_layOut) dX9_goodShare_6 hC (cl_0 (by decide)) rfl rfl rfl (mt_X9_layOut h) gX9_goodShare_X9_layOut rfl ⟨rfl, rfl, Nat.le_of_ble_eq_true rfl, Nat.le_of_ble_eq_true rfl⟩ nm_X9_layOut rfl (Nat.le_of_ble_eq_true rfl) (kV fun w6 h => ?_)
  refine jq_aload_n (k0 := 0) dX9_goodShare_9 hC rfl rfl ?_
  refine jq_callV (As := []) (rest := []) (n := 0) (o := 32) (D' := D_X9_share_) dX9_goodShare_10 hC (cl_0 (by decide)) rfl rfl rfl (mt_X9_share_ h) gX9_goodShare_X9_share_ rfl ⟨rfl, rfl, Nat.le_of_ble_eq_true rfl, Nat.le_of_ble_eq_true rfl⟩ nm_X9_share_ rfl (Nat.le_of_ble_eq_true rfl) (kDp fun r10 h => ?_)
  exact jq_dret dX9_goodShare_13 hC he rfl ⟨_, rfl, h⟩
theorem mt_X9_goodShare {G : Gt} {w : Wd} {Q : UInt64 → Wd → Prop} (h : wp_X9_goodShare w Q) : Mt G D_X9_goodShare [.ref (aD G 0 32)] w (qd Q) := Mt_of (by decide +kernel) rfl rfl (Nat.le_of_ble_eq_true rfl) (fun M Qf hC he => ok_X9_goodShare hC he h)
/-! X9.bitsOfShare(D)J -/
theorem dX9_bitsOfShare_0 : decode cX9_bitsOfShare 0 = .ok (.dload_n 0, 1) := by decide +kernel
theorem dX9_bitsOfShare_1 : decode cX9_bitsOfShare 1 = .ok (.dconst 0, 1) := by decide +kernel
theorem dX9_bitsOfShare_2 : decode cX9_bitsOfShare 2 = .ok (.dcmp .l, 1) := by decide +kernel
theorem dX9_bitsOfShare_3 : decode cX9_bitsOfShare 3 = .ok (.ifCond .ne 5, 3) := by decide +kernel
theorem dX9_bitsOfShare_6 : decode cX9_bitsOfShare 6 = .ok (.lconst 0, 1) := by decide +kernel
theorem dX9_bitsOfShare_7 : decode cX9_bitsOfShare 7 = .ok (.lreturn, 1) := by decide +kernel
theorem dX9_bitsOfShare_8 : decode cX9_bitsOfShare 8 = .ok (.ldc2_w 290, 3) := by decide +kernel
theorem dX9_bitsOfShare_11 : decode cX9_bitsOfShare 11 = .ok (.lstore_n 2, 1) := by decide +kernel
theorem dX9_bitsOfShare_12 : decode cX9_bitsOfShare 12 = .ok (.dload_n 0, 1) := by decide +kernel
theorem dX9_bitsOfShare_13 : decode cX9_bitsOfShare 13 = .ok (.dstore 4, 2) := by decide +kernel
theorem dX9_bitsOfShare_15 : decode cX9_bitsOfShare 15 = .ok (.dload 4, 2) := by decide +kernel
theorem dX9_bitsOfShare_17 : decode cX9_bitsOfShare 17 = .ok (.dconst 1, 1) := by decide +kernel
theorem dX9_bitsOfShare_18 : decode cX9_bitsOfShare 18 = .ok (.dcmp .g, 1) := by decide +kernel
theorem dX9_bitsOfShare_19 : decode cX9_bitsOfShare 19 = .ok (.ifCond .ge 18, 3) := by decide +kernel
theorem dX9_bitsOfShare_22 : decode cX9_bitsOfShare 22 = .ok (.dload 4, 2) := by decide +kernel
theorem dX9_bitsOfShare_24 : decode cX9_bitsOfShare 24 = .ok (.ldc2_w 292, 3) := by decide +kernel
theorem dX9_bitsOfShare_27 : decode cX9_bitsOfShare 27 = .ok (.dmul, 1) := by decide +kernel
theorem dX9_bitsOfShare_28 : decode cX9_bitsOfShare 28 = .ok (.dstore 4, 2) := by decide +kernel
theorem dX9_bitsOfShare_30 : decode cX9_bitsOfShare 30 = .ok (.lload_n 2, 1) := by decide +kernel
theorem dX9_bitsOfShare_31 : decode cX9_bitsOfShare 31 = .ok (.lconst 1, 1) := by decide +kernel
theorem dX9_bitsOfShare_32 : decode cX9_bitsOfShare 32 = .ok (.lsub, 1) := by decide +kernel
theorem dX9_bitsOfShare_33 : decode cX9_bitsOfShare 33 = .ok (.lstore_n 2, 1) := by decide +kernel
theorem dX9_bitsOfShare_34 : decode cX9_bitsOfShare 34 = .ok (.goto (-19), 3) := by decide +kernel
theorem dX9_bitsOfShare_37 : decode cX9_bitsOfShare 37 = .ok (.lload_n 2, 1) := by decide +kernel
theorem dX9_bitsOfShare_38 : decode cX9_bitsOfShare 38 = .ok (.ldc2_w 294, 3) := by decide +kernel
theorem dX9_bitsOfShare_41 : decode cX9_bitsOfShare 41 = .ok (.lmul, 1) := by decide +kernel
theorem dX9_bitsOfShare_42 : decode cX9_bitsOfShare 42 = .ok (.dload 4, 2) := by decide +kernel
theorem dX9_bitsOfShare_44 : decode cX9_bitsOfShare 44 = .ok (.dconst 1, 1) := by decide +kernel
theorem dX9_bitsOfShare_45 : decode cX9_bitsOfShare 45 = .ok (.dsub, 1) := by decide +kernel
theorem dX9_bitsOfShare_46 : decode cX9_bitsOfShare 46 = .ok (.ldc2_w 296, 3) := by decide +kernel
theorem dX9_bitsOfShare_49 : decode cX9_bitsOfShare 49 = .ok (.dmul, 1) := by decide +kernel
theorem dX9_bitsOfShare_50 : decode cX9_bitsOfShare 50 = .ok (.d2l, 1) := by decide +kernel
theorem dX9_bitsOfShare_51 : decode cX9_bitsOfShare 51 = .ok (.ladd, 1) := by decide +kernel
theorem dX9_bitsOfShare_52 : decode cX9_bitsOfShare 52 = .ok (.lreturn, 1) := by decide +kernel
def D_X9_bitsOfShare : Md := (yX9_bitsOfShare, cX9_bitsOfShare, 6, (some .long), wsX9_bitsOfShare, RX9, { frames := 0, cells := 0, slots := 0, locals := 0 })
theorem nm_X9_bitsOfShare : nmD D_X9_bitsOfShare 1 := ⟨rfl, by decide +kernel, by decide +kernel, by decide +kernel⟩
def wp_X9_bitsOfShare_B15 (x2 : Int64) (x4 : UInt64) (Q : Int64 → Prop) (K15 : Int64 → UInt64 → Prop) : Prop :=
  ((0 ≤ (Op.cmpValue (FP.dcmp x4 FP.dconst1) .g) → vf_n64 (FP.dsub x4 FP.dconst1) ∧ vf_n64 (FP.dmul (FP.dsub x4 FP.dconst1) (4841369599423283200 : UInt64)) ∧ Q ((x2 * (4503599627370496 : Int64)) + (FP.d2l (FP.dmul (FP.dsub x4 FP.dconst1) (4841369599423283200 : UInt64))))) ∧ (¬ 0 ≤ (Op.cmpValue (FP.dcmp x4 FP.dconst1) .g) → vf_n64 (FP.dmul x4 (4611686018427387904 : UInt64)) ∧ K15 (x2 - (1 : Int64)) (FP.dmul x4 (4611686018427387904 : UInt64))))
def wp_X9_bitsOfShare_L15 (x2 : Int64) (x4 : UInt64) (Q : Int64 → Prop) : Prop :=
  ∃ (I : Int64 → UInt64 → Prop) (μ : Int64 → UInt64 → Nat), I x2 x4 ∧ ∀ (x2 : Int64) (x4 : UInt64), I x2 x4 → wp_X9_bitsOfShare_B15 x2 x4 Q (fun x2' x4' => I x2' x4' ∧ μ x2' x4' < μ x2 x4)
def wp_X9_bitsOfShare (x0 : UInt64) (Q : Int64 → Prop) : Prop :=
  ((¬ (Op.cmpValue (FP.dcmp x0 FP.dconst0) .l) = 0 → wp_X9_bitsOfShare_L15 (1023 : Int64) x0 Q) ∧ ((Op.cmpValue (FP.dcmp x0 FP.dconst0) .l) = 0 → Q (0 : Int64)))
theorem ok_X9_bitsOfShare_B15 {G : Gt} {M : Mx} {Qf : State → Prop} {x2 : Int64} {x4 : UInt64} {w : Wd} {Q : Int64 → Prop} {K15 : Int64 → UInt64 → Prop} (hC : cx G D_X9_bitsOfShare M) (he : en G M (qlp w Q) Qf) (h : wp_X9_bitsOfShare_B15 x2 x4 Q K15) (hK15 : ∀ (x2 : Int64) (x4 : UInt64), K15 x2 x4 → jq G D_X9_bitsOfShare M Qf 15 [(2, .long x2), (4, .double x4)] [] w) : jq G D_X9_bitsOfShare M Qf 15 [(2, .long x2), (4, .double x4)] [] w := by
  unfold wp_X9_bitsOfShare_B15 at h
  refine jq_dload (k0 := 1) dX9_bitsOfShare_15 hC rfl ?_
  refine jq_dconst1 dX9_bitsOfShare_17 hC ?_
  refine jq_dcmp dX9_bitsOfShare_18 hC ?_
  refine jq_if_ge (tgt := 37) dX9_bitsOfShare_19 hC (by decide) (fun c19 => ?_) (fun c19 => ?_)
  · have h := h.1 c19
    refine jq_lload_n (k0 := 0) dX9_bitsOfShare_37 hC rfl rfl ?_
    refine jq_ldc2 (v := (4503599627370496 : Int64)) dX9_bitsOfShare_38 hC (by decide +kernel) ?_
    refine jq_lmul dX9_bitsOfShare_41 hC ?_
    refine jq_dload (k0 := 1) dX9_bitsOfShare_42 hC rfl ?_
    refine jq_dconst1 dX9_bitsOfShare_44 hC ?_
    obtain ⟨b45, h⟩ := h
    refine jq_dsub dX9_bitsOfShare_45 hC b45 ?_
    refine jq_ldc2d (v := (4841369599423283200 : UInt64)) dX9_bitsOfShare_46 hC (by decide +kernel) ?_
    obtain ⟨b49, h⟩ := h
    refine jq_dmul dX9_bitsOfShare_49 hC b49 ?_
    refine jq_d2l dX9_bitsOfShare_50 hC ?_
    refine jq_ladd dX9_bitsOfShare_51 hC ?_
    exact jq_lret dX9_bitsOfShare_52 hC he rfl ⟨_, rfl, rfl, h⟩
  · have h := h.2 c19
    refine jq_dload (k0 := 1) dX9_bitsOfShare_22 hC rfl ?_
    refine jq_ldc2d (v := (4611686018427387904 : UInt64)) dX9_bitsOfShare_24 hC (by decide +kernel) ?_
    obtain ⟨b27, h⟩ := h
    refine jq_dmul dX9_bitsOfShare_27 hC b27 ?_
    refine jq_dstore (L' := [(4, .double (FP.dmul x4 (4611686018427387904 : UInt64))), (2, .long x2)]) dX9_bitsOfShare_28 hC (by decide) rfl ?_
    refine jq_lload_n (k0 := 1) dX9_bitsOfShare_30 hC rfl rfl ?_
    refine jq_lconst (v := 1) dX9_bitsOfShare_31 hC (by decide) ?_
    refine jq_lsub dX9_bitsOfShare_32 hC ?_
    refine jq_lstore_n (L' := [(2, .long (x2 - (1 : Int64))), (4, .double (FP.dmul x4 (4611686018427387904 : UInt64)))]) dX9_bitsOfShare_33 hC rfl (by decide) rfl ?_
    refine jq_goto (tgt := 15) dX9_bitsOfShare_34 hC (by decide) ?_
    exact jq_less (L' := [(2, .long (x2 - (1 : Int64))), (4, .double (FP.dmul x4 (4611686018427387904 : UInt64)))]) [0, 1] rfl (hK15 _ _ h)
theorem ok_X9_bitsOfShare_L15 {G : Gt} {M : Mx} {Qf : State → Prop} {x2 : Int64} {x4 : UInt64} {w : Wd} {Q : Int64 → Prop} (hC : cx G D_X9_bitsOfShare M) (he : en G M (qlp w Q) Qf) (h : wp_X9_bitsOfShare_L15 x2 x4 Q) : jq G D_X9_bitsOfShare M Qf 15 [(2, .long x2), (4, .double x4)] [] w := by
  unfold wp_X9_bitsOfShare_L15 at h
  obtain ⟨I, μ, h0, hs⟩ := h
  exact lp_ind (σ := Int64 × UInt64) (P := fun s => jq G D_X9_bitsOfShare M Qf 15 [(2, .long s.1), (4, .double s.2)] [] w) (fun s => I s.1 s.2) (fun s => μ s.1 s.2) (fun s h1 ih => ok_X9_bitsOfShare_B15 hC he (hs s.1 s.2 h1) (fun x2' x4' h => ih (x2', x4') h.1 h.2)) (x2, x4) h0
theorem ok_X9_bitsOfShare {G : Gt} {M : Mx} {Qf : State → Prop} {x0 : UInt64} {w : Wd} {Q : Int64 → Prop} (hC : cx G D_X9_bitsOfShare M) (he : en G M (qlp w Q) Qf) (h : wp_X9_bitsOfShare x0 Q) : jq G D_X9_bitsOfShare M Qf 0 [(0, .double x0)] [] w := by
  unfold wp_X9_bitsOfShare at h
  refine jq_dload_n (k0 := 0) dX9_bitsOfShare_0 hC rfl rfl ?_
  refine jq_dconst0 dX9_bitsOfShare_1 hC ?_
  refine jq_dcmp dX9_bitsOfShare_2 hC ?_
  refine jq_if_ne (tgt := 8) dX9_bitsOfShare_3 hC (by decide) (fun c3 => ?_) (fun c3 => ?_)
  · have h := h.1 c3
    refine jq_ldc2 (v := (1023 : Int64)) dX9_bitsOfShare_8 hC (by decide +kernel) ?_
    refine jq_lstore_n (L' := [(2, .long (1023 : Int64)), (0, .double x0)]) dX9_bitsOfShare_11 hC rfl (by decide) rfl ?_
    refine jq_dload_n (k0 := 1) dX9_bitsOfShare_12 hC rfl rfl ?_
    refine jq_dstore (L' := [(4, .double x0), (2, .long (1023 : Int64)), (0, .double x0)]) dX9_bitsOfShare_13 hC (by decide) rfl ?_
    refine jq_less (L' := [(2, .long (1023 : Int64)), (4, .double x0)]) [1, 0] rfl ?_
    exact ok_X9_bitsOfShare_L15 hC he h
  · have h := h.2 c3
    refine jq_lconst (v := 0) dX9_bitsOfShare_6 hC (by decide) ?_
    exact jq_lret dX9_bitsOfShare_7 hC he rfl ⟨_, rfl, rfl, h⟩
theorem mt_X9_bitsOfShare {G : Gt} {x0 : UInt64} {w : Wd} {Q : Int64 → Prop} (h : wp_X9_bitsOfShare x0 Q) : Mt G D_X9_bitsOfShare [.double x0] w (qlp w Q) := Mt_of (by decide +kernel) rfl rfl (Nat.le_of_ble_eq_true rfl) (fun M Qf hC he => ok_X9_bitsOfShare hC he h)
/-! X9.digestOne(J)V -/
theorem dX9_digestOne_0 : decode cX9_digestOne 0 = .ok (.aload_n 0, 1) := by decide +kernel
theorem dX9_digestOne_1 : decode cX9_digestOne 1 = .ok (.ldc2_w 298, 3) := by decide +kernel
theorem dX9_digestOne_4 : decode cX9_digestOne 4 = .ok (.aload_n 0, 1) := by decide +kernel
theorem dX9_digestOne_5 : decode cX9_digestOne 5 = .ok (.getfield 300, 3) := by decide +kernel
theorem dX9_digestOne_8 : decode cX9_digestOne 8 = .ok (.lmul, 1) := by decide +kernel
theorem dX9_digestOne_9 : decode cX9_digestOne 9 = .ok (.lload_n 1, 1) := by decide +kernel
theorem dX9_digestOne_10 : decode cX9_digestOne 10 = .ok (.ladd, 1) := by decide +kernel
theorem dX9_digestOne_11 : decode cX9_digestOne 11 = .ok (.putfield 300, 3) := by decide +kernel
theorem dX9_digestOne_14 : decode cX9_digestOne 14 = .ok (.return_, 1) := by decide +kernel
def D_X9_digestOne : Md := (yX9_digestOne, cX9_digestOne, 3, none, wsX9_digestOne, RX9, { frames := 0, cells := 0, slots := 0, locals := 0 })
theorem nm_X9_digestOne : nmD D_X9_digestOne 1 := ⟨rfl, by decide +kernel, by decide +kernel, by decide +kernel⟩
theorem hi_X9_digestOne_X9 : ∀ w ∈ u_ws RX9 TX9 25, w ∈ wsX9_digestOne := by decide +kernel
theorem hl_X9_digestOne_300 : Cond.fieldLink RX9 300 "LevelLoopsModel" "digested" "J" ∈ wsX9_digestOne := by decide +kernel
def wp_X9_digestOne (x1 : Int64) (w : Wd) (Q : Wd → Prop) : Prop :=
  (∀ w11 : Wd, w11 = (sL w 0 (((31 : Int64) * (wl w 0)) + x1)) → Q w11)
theorem ok_X9_digestOne {G : Gt} {M : Mx} {Qf : State → Prop} {x1 : Int64} {w : Wd} {Q : Wd → Prop} (hC : cx G D_X9_digestOne M) (he : en G M (qv Q) Qf) (h : wp_X9_digestOne x1 w Q) : jq G D_X9_digestOne M Qf 0 [(0, .ref (aD G 0 32)), (1, .long x1)] [] w := by
  unfold wp_X9_digestOne at h
  refine jq_aload_n (k0 := 0) dX9_digestOne_0 hC rfl rfl ?_
  refine jq_ldc2 (v := (31 : Int64)) dX9_digestOne_1 hC (by decide +kernel) ?_
  refine jq_aload_n (k0 := 0) dX9_digestOne_4 hC rfl rfl ?_
  refine jq_get (k0 := 24) (n := 0) (o := 32) dX9_digestOne_5 hC (cl_0 (by decide)) rfl rfl hi_X9_digestOne_X9 (by decide) hl_X9_digestOne_300 rfl rfl ?_
  refine jq_lmul dX9_digestOne_8 hC ?_
  refine jq_lload_n (k0 := 1) dX9_digestOne_9 hC rfl rfl ?_
  refine jq_ladd dX9_digestOne_10 hC ?_
  refine jq_put (k0 := 24) (n := 0) (o := 32) (ty := .long) (w' := (sL w 0 (((31 : Int64) * (wl w 0)) + x1))) dX9_digestOne_11 hC (cl_0 (by decide)) rfl rfl hi_X9_digestOne_X9 tyX9 tyX9_ok nmX9 (by decide) hl_X9_digestOne_300 rfl rfl (by decide +kernel) rfl rfl (Nat.le_of_ble_eq_true rfl) (e_32_24 G _ _ _) (fun c hc hne => ent_L0 c hne hc) ?_
  refine jq_w (fun w11 e11 => ?_)
  have h := h w11 e11
  exact jq_vret dX9_digestOne_14 hC he rfl ⟨rfl, h⟩
theorem mt_X9_digestOne {G : Gt} {x1 : Int64} {w : Wd} {Q : Wd → Prop} (h : wp_X9_digestOne x1 w Q) : Mt G D_X9_digestOne [.ref (aD G 0 32), .long x1] w (qv Q) := Mt_of (by decide +kernel) rfl rfl (Nat.le_of_ble_eq_true rfl) (fun M Qf hC he => ok_X9_digestOne hC he h)
/-! X9.digest()J -/
theorem dX9_digest_0 : decode cX9_digest 0 = .ok (.aload_n 0, 1) := by decide +kernel
theorem dX9_digest_1 : decode cX9_digest 1 = .ok (.iconst 0, 1) := by decide +kernel
theorem dX9_digest_2 : decode cX9_digest 2 = .ok (.putfield 65, 3) := by decide +kernel
theorem dX9_digest_5 : decode cX9_digest 5 = .ok (.aload_n 0, 1) := by decide +kernel
theorem dX9_digest_6 : decode cX9_digest 6 = .ok (.invokevirtual 170, 3) := by decide +kernel
theorem dX9_digest_9 : decode cX9_digest 9 = .ok (.aload_n 0, 1) := by decide +kernel
theorem dX9_digest_10 : decode cX9_digest 10 = .ok (.ldc2_w 304, 3) := by decide +kernel
theorem dX9_digest_13 : decode cX9_digest 13 = .ok (.putfield 300, 3) := by decide +kernel
theorem dX9_digest_16 : decode cX9_digest 16 = .ok (.iconst 0, 1) := by decide +kernel
theorem dX9_digest_17 : decode cX9_digest 17 = .ok (.istore_n 1, 1) := by decide +kernel
theorem dX9_digest_18 : decode cX9_digest 18 = .ok (.iload_n 1, 1) := by decide +kernel
theorem dX9_digest_19 : decode cX9_digest 19 = .ok (.bipush 11, 2) := by decide +kernel
theorem dX9_digest_21 : decode cX9_digest 21 = .ok (.if_icmp .ge 19, 3) := by decide +kernel
theorem dX9_digest_24 : decode cX9_digest 24 = .ok (.aload_n 0, 1) := by decide +kernel
theorem dX9_digest_25 : decode cX9_digest 25 = .ok (.aload_n 0, 1) := by decide +kernel
theorem dX9_digest_26 : decode cX9_digest 26 = .ok (.iload_n 1, 1) := by decide +kernel
theorem dX9_digest_27 : decode cX9_digest 27 = .ok (.invokevirtual 263, 3) := by decide +kernel
theorem dX9_digest_30 : decode cX9_digest 30 = .ok (.i2l, 1) := by decide +kernel
theorem dX9_digest_31 : decode cX9_digest 31 = .ok (.invokevirtual 306, 3) := by decide +kernel
theorem dX9_digest_34 : decode cX9_digest 34 = .ok (.iinc 1 1, 3) := by decide +kernel
theorem dX9_digest_37 : decode cX9_digest 37 = .ok (.goto (-19), 3) := by decide +kernel
theorem dX9_digest_40 : decode cX9_digest 40 = .ok (.iconst 0, 1) := by decide +kernel
theorem dX9_digest_41 : decode cX9_digest 41 = .ok (.istore_n 1, 1) := by decide +kernel
theorem dX9_digest_42 : decode cX9_digest 42 = .ok (.iload_n 1, 1) := by decide +kernel
theorem dX9_digest_43 : decode cX9_digest 43 = .ok (.iconst 3, 1) := by decide +kernel
theorem dX9_digest_44 : decode cX9_digest 44 = .ok (.if_icmp .ge 23, 3) := by decide +kernel
theorem dX9_digest_47 : decode cX9_digest 47 = .ok (.aload_n 0, 1) := by decide +kernel
theorem dX9_digest_48 : decode cX9_digest 48 = .ok (.aload_n 0, 1) := by decide +kernel
theorem dX9_digest_49 : decode cX9_digest 49 = .ok (.getfield 7, 3) := by decide +kernel
theorem dX9_digest_52 : decode cX9_digest 52 = .ok (.bipush 92, 2) := by decide +kernel
theorem dX9_digest_54 : decode cX9_digest 54 = .ok (.iload_n 1, 1) := by decide +kernel
theorem dX9_digest_55 : decode cX9_digest 55 = .ok (.iadd, 1) := by decide +kernel
theorem dX9_digest_56 : decode cX9_digest 56 = .ok (.iaload, 1) := by decide +kernel
theorem dX9_digest_57 : decode cX9_digest 57 = .ok (.i2l, 1) := by decide +kernel
theorem dX9_digest_58 : decode cX9_digest 58 = .ok (.invokevirtual 306, 3) := by decide +kernel
theorem dX9_digest_61 : decode cX9_digest 61 = .ok (.iinc 1 1, 3) := by decide +kernel
theorem dX9_digest_64 : decode cX9_digest 64 = .ok (.goto (-22), 3) := by decide +kernel
theorem dX9_digest_67 : decode cX9_digest 67 = .ok (.iconst 0, 1) := by decide +kernel
theorem dX9_digest_68 : decode cX9_digest 68 = .ok (.istore_n 1, 1) := by decide +kernel
theorem dX9_digest_69 : decode cX9_digest 69 = .ok (.iload_n 1, 1) := by decide +kernel
theorem dX9_digest_70 : decode cX9_digest 70 = .ok (.aload_n 0, 1) := by decide +kernel
theorem dX9_digest_71 : decode cX9_digest 71 = .ok (.getfield 7, 3) := by decide +kernel
theorem dX9_digest_74 : decode cX9_digest 74 = .ok (.iconst 0, 1) := by decide +kernel
theorem dX9_digest_75 : decode cX9_digest 75 = .ok (.iaload, 1) := by decide +kernel
theorem dX9_digest_76 : decode cX9_digest 76 = .ok (.if_icmp .ge 59, 3) := by decide +kernel
theorem dX9_digest_79 : decode cX9_digest 79 = .ok (.iconst 0, 1) := by decide +kernel
theorem dX9_digest_80 : decode cX9_digest 80 = .ok (.istore_n 2, 1) := by decide +kernel
theorem dX9_digest_81 : decode cX9_digest 81 = .ok (.iload_n 2, 1) := by decide +kernel
theorem dX9_digest_82 : decode cX9_digest 82 = .ok (.bipush 7, 2) := by decide +kernel
theorem dX9_digest_84 : decode cX9_digest 84 = .ok (.if_icmp .ge 20, 3) := by decide +kernel
theorem dX9_digest_87 : decode cX9_digest 87 = .ok (.aload_n 0, 1) := by decide +kernel
theorem dX9_digest_88 : decode cX9_digest 88 = .ok (.aload_n 0, 1) := by decide +kernel
theorem dX9_digest_89 : decode cX9_digest 89 = .ok (.iload_n 1, 1) := by decide +kernel
theorem dX9_digest_90 : decode cX9_digest 90 = .ok (.iload_n 2, 1) := by decide +kernel
theorem dX9_digest_91 : decode cX9_digest 91 = .ok (.invokevirtual 225, 3) := by decide +kernel
theorem dX9_digest_94 : decode cX9_digest 94 = .ok (.i2l, 1) := by decide +kernel
theorem dX9_digest_95 : decode cX9_digest 95 = .ok (.invokevirtual 306, 3) := by decide +kernel
theorem dX9_digest_98 : decode cX9_digest 98 = .ok (.iinc 2 1, 3) := by decide +kernel
theorem dX9_digest_101 : decode cX9_digest 101 = .ok (.goto (-20), 3) := by decide +kernel
theorem dX9_digest_104 : decode cX9_digest 104 = .ok (.iconst 0, 1) := by decide +kernel
theorem dX9_digest_105 : decode cX9_digest 105 = .ok (.istore_n 2, 1) := by decide +kernel
theorem dX9_digest_106 : decode cX9_digest 106 = .ok (.iload_n 2, 1) := by decide +kernel
theorem dX9_digest_107 : decode cX9_digest 107 = .ok (.iconst 4, 1) := by decide +kernel
theorem dX9_digest_108 : decode cX9_digest 108 = .ok (.if_icmp .ge 21, 3) := by decide +kernel
theorem dX9_digest_111 : decode cX9_digest 111 = .ok (.aload_n 0, 1) := by decide +kernel
theorem dX9_digest_112 : decode cX9_digest 112 = .ok (.aload_n 0, 1) := by decide +kernel
theorem dX9_digest_113 : decode cX9_digest 113 = .ok (.iconst 0, 1) := by decide +kernel
theorem dX9_digest_114 : decode cX9_digest 114 = .ok (.iload_n 1, 1) := by decide +kernel
theorem dX9_digest_115 : decode cX9_digest 115 = .ok (.iload_n 2, 1) := by decide +kernel
theorem dX9_digest_116 : decode cX9_digest 116 = .ok (.invokevirtual 247, 3) := by decide +kernel
theorem dX9_digest_119 : decode cX9_digest 119 = .ok (.i2l, 1) := by decide +kernel
theorem dX9_digest_120 : decode cX9_digest 120 = .ok (.invokevirtual 306, 3) := by decide +kernel
theorem dX9_digest_123 : decode cX9_digest 123 = .ok (.iinc 2 1, 3) := by decide +kernel
theorem dX9_digest_126 : decode cX9_digest 126 = .ok (.goto (-20), 3) := by decide +kernel
theorem dX9_digest_129 : decode cX9_digest 129 = .ok (.iinc 1 1, 3) := by decide +kernel
theorem dX9_digest_132 : decode cX9_digest 132 = .ok (.goto (-63), 3) := by decide +kernel
theorem dX9_digest_135 : decode cX9_digest 135 = .ok (.iconst 0, 1) := by decide +kernel
theorem dX9_digest_136 : decode cX9_digest 136 = .ok (.istore_n 1, 1) := by decide +kernel
theorem dX9_digest_137 : decode cX9_digest 137 = .ok (.iload_n 1, 1) := by decide +kernel
theorem dX9_digest_138 : decode cX9_digest 138 = .ok (.aload_n 0, 1) := by decide +kernel
theorem dX9_digest_139 : decode cX9_digest 139 = .ok (.getfield 7, 3) := by decide +kernel
theorem dX9_digest_142 : decode cX9_digest 142 = .ok (.bipush 11, 2) := by decide +kernel
theorem dX9_digest_144 : decode cX9_digest 144 = .ok (.iaload, 1) := by decide +kernel
theorem dX9_digest_145 : decode cX9_digest 145 = .ok (.if_icmp .ge 72, 3) := by decide +kernel
theorem dX9_digest_148 : decode cX9_digest 148 = .ok (.aload_n 0, 1) := by decide +kernel
theorem dX9_digest_149 : decode cX9_digest 149 = .ok (.invokevirtual 148, 3) := by decide +kernel
theorem dX9_digest_152 : decode cX9_digest 152 = .ok (.iconst 0, 1) := by decide +kernel
theorem dX9_digest_153 : decode cX9_digest 153 = .ok (.istore_n 2, 1) := by decide +kernel
theorem dX9_digest_154 : decode cX9_digest 154 = .ok (.iload_n 2, 1) := by decide +kernel
theorem dX9_digest_155 : decode cX9_digest 155 = .ok (.bipush 10, 2) := by decide +kernel
theorem dX9_digest_157 : decode cX9_digest 157 = .ok (.if_icmp .ge 20, 3) := by decide +kernel
theorem dX9_digest_160 : decode cX9_digest 160 = .ok (.aload_n 0, 1) := by decide +kernel
theorem dX9_digest_161 : decode cX9_digest 161 = .ok (.aload_n 0, 1) := by decide +kernel
theorem dX9_digest_162 : decode cX9_digest 162 = .ok (.iload_n 1, 1) := by decide +kernel
theorem dX9_digest_163 : decode cX9_digest 163 = .ok (.iload_n 2, 1) := by decide +kernel
theorem dX9_digest_164 : decode cX9_digest 164 = .ok (.invokevirtual 238, 3) := by decide +kernel
theorem dX9_digest_167 : decode cX9_digest 167 = .ok (.i2l, 1) := by decide +kernel
theorem dX9_digest_168 : decode cX9_digest 168 = .ok (.invokevirtual 306, 3) := by decide +kernel
theorem dX9_digest_171 : decode cX9_digest 171 = .ok (.iinc 2 1, 3) := by decide +kernel
theorem dX9_digest_174 : decode cX9_digest 174 = .ok (.goto (-20), 3) := by decide +kernel
theorem dX9_digest_177 : decode cX9_digest 177 = .ok (.iconst 0, 1) := by decide +kernel
theorem dX9_digest_178 : decode cX9_digest 178 = .ok (.istore_n 2, 1) := by decide +kernel
theorem dX9_digest_179 : decode cX9_digest 179 = .ok (.iload_n 2, 1) := by decide +kernel
theorem dX9_digest_180 : decode cX9_digest 180 = .ok (.iconst 4, 1) := by decide +kernel
theorem dX9_digest_181 : decode cX9_digest 181 = .ok (.if_icmp .ge 20, 3) := by decide +kernel
theorem dX9_digest_184 : decode cX9_digest 184 = .ok (.aload_n 0, 1) := by decide +kernel
theorem dX9_digest_185 : decode cX9_digest 185 = .ok (.aload_n 0, 1) := by decide +kernel
theorem dX9_digest_186 : decode cX9_digest 186 = .ok (.iload_n 1, 1) := by decide +kernel
theorem dX9_digest_187 : decode cX9_digest 187 = .ok (.iload_n 2, 1) := by decide +kernel
theorem dX9_digest_188 : decode cX9_digest 188 = .ok (.invokevirtual 281, 3) := by decide +kernel
theorem dX9_digest_191 : decode cX9_digest 191 = .ok (.i2l, 1) := by decide +kernel
theorem dX9_digest_192 : decode cX9_digest 192 = .ok (.invokevirtual 306, 3) := by decide +kernel
theorem dX9_digest_195 : decode cX9_digest 195 = .ok (.iinc 2 1, 3) := by decide +kernel
theorem dX9_digest_198 : decode cX9_digest 198 = .ok (.goto (-19), 3) := by decide +kernel
theorem dX9_digest_201 : decode cX9_digest 201 = .ok (.aload_n 0, 1) := by decide +kernel
theorem dX9_digest_202 : decode cX9_digest 202 = .ok (.aload_n 0, 1) := by decide +kernel
theorem dX9_digest_203 : decode cX9_digest 203 = .ok (.iload_n 1, 1) := by decide +kernel
theorem dX9_digest_204 : decode cX9_digest 204 = .ok (.invokevirtual 284, 3) := by decide +kernel
theorem dX9_digest_207 : decode cX9_digest 207 = .ok (.i2l, 1) := by decide +kernel
theorem dX9_digest_208 : decode cX9_digest 208 = .ok (.invokevirtual 306, 3) := by decide +kernel
theorem dX9_digest_211 : decode cX9_digest 211 = .ok (.iinc 1 1, 3) := by decide +kernel
theorem dX9_digest_214 : decode cX9_digest 214 = .ok (.goto (-77), 3) := by decide +kernel
theorem dX9_digest_217 : decode cX9_digest 217 = .ok (.aload_n 0, 1) := by decide +kernel
theorem dX9_digest_218 : decode cX9_digest 218 = .ok (.invokevirtual 170, 3) := by decide +kernel
theorem dX9_digest_221 : decode cX9_digest 221 = .ok (.iconst 0, 1) := by decide +kernel
theorem dX9_digest_222 : decode cX9_digest 222 = .ok (.istore_n 1, 1) := by decide +kernel
theorem dX9_digest_223 : decode cX9_digest 223 = .ok (.iload_n 1, 1) := by decide +kernel
theorem dX9_digest_224 : decode cX9_digest 224 = .ok (.aload_n 0, 1) := by decide +kernel
theorem dX9_digest_225 : decode cX9_digest 225 = .ok (.getfield 98, 3) := by decide +kernel
theorem dX9_digest_228 : decode cX9_digest 228 = .ok (.if_icmp .ge 34, 3) := by decide +kernel
theorem dX9_digest_231 : decode cX9_digest 231 = .ok (.iconst 0, 1) := by decide +kernel
theorem dX9_digest_232 : decode cX9_digest 232 = .ok (.istore_n 2, 1) := by decide +kernel
theorem dX9_digest_233 : decode cX9_digest 233 = .ok (.iload_n 2, 1) := by decide +kernel
theorem dX9_digest_234 : decode cX9_digest 234 = .ok (.bipush 8, 2) := by decide +kernel
theorem dX9_digest_236 : decode cX9_digest 236 = .ok (.if_icmp .ge 20, 3) := by decide +kernel
theorem dX9_digest_239 : decode cX9_digest 239 = .ok (.aload_n 0, 1) := by decide +kernel
theorem dX9_digest_240 : decode cX9_digest 240 = .ok (.aload_n 0, 1) := by decide +kernel
theorem dX9_digest_241 : decode cX9_digest 241 = .ok (.iload_n 1, 1) := by decide +kernel
theorem dX9_digest_242 : decode cX9_digest 242 = .ok (.iload_n 2, 1) := by decide +kernel
theorem dX9_digest_243 : decode cX9_digest 243 = .ok (.invokevirtual 241, 3) := by decide +kernel
theorem dX9_digest_246 : decode cX9_digest 246 = .ok (.i2l, 1) := by decide +kernel
theorem dX9_digest_247 : decode cX9_digest 247 = .ok (.invokevirtual 306, 3) := by decide +kernel
theorem dX9_digest_250 : decode cX9_digest 250 = .ok (.iinc 2 1, 3) := by decide +kernel
theorem dX9_digest_253 : decode cX9_digest 253 = .ok (.goto (-20), 3) := by decide +kernel
theorem dX9_digest_256 : decode cX9_digest 256 = .ok (.iinc 1 1, 3) := by decide +kernel
theorem dX9_digest_259 : decode cX9_digest 259 = .ok (.goto (-36), 3) := by decide +kernel
theorem dX9_digest_262 : decode cX9_digest 262 = .ok (.aload_n 0, 1) := by decide +kernel
theorem dX9_digest_263 : decode cX9_digest 263 = .ok (.aload_n 0, 1) := by decide +kernel
theorem dX9_digest_264 : decode cX9_digest 264 = .ok (.invokevirtual 266, 3) := by decide +kernel
theorem dX9_digest_267 : decode cX9_digest 267 = .ok (.i2l, 1) := by decide +kernel
theorem dX9_digest_268 : decode cX9_digest 268 = .ok (.invokevirtual 306, 3) := by decide +kernel
theorem dX9_digest_271 : decode cX9_digest 271 = .ok (.aload_n 0, 1) := by decide +kernel
theorem dX9_digest_272 : decode cX9_digest 272 = .ok (.aload_n 0, 1) := by decide +kernel
theorem dX9_digest_273 : decode cX9_digest 273 = .ok (.invokevirtual 272, 3) := by decide +kernel
theorem dX9_digest_276 : decode cX9_digest 276 = .ok (.i2l, 1) := by decide +kernel
theorem dX9_digest_277 : decode cX9_digest 277 = .ok (.invokevirtual 306, 3) := by decide +kernel
theorem dX9_digest_280 : decode cX9_digest 280 = .ok (.aload_n 0, 1) := by decide +kernel
theorem dX9_digest_281 : decode cX9_digest 281 = .ok (.aload_n 0, 1) := by decide +kernel
theorem dX9_digest_282 : decode cX9_digest 282 = .ok (.invokevirtual 287, 3) := by decide +kernel
theorem dX9_digest_285 : decode cX9_digest 285 = .ok (.invokestatic 310, 3) := by decide +kernel
theorem dX9_digest_288 : decode cX9_digest 288 = .ok (.invokevirtual 306, 3) := by decide +kernel
theorem dX9_digest_291 : decode cX9_digest 291 = .ok (.aload_n 0, 1) := by decide +kernel
theorem dX9_digest_292 : decode cX9_digest 292 = .ok (.aload_n 0, 1) := by decide +kernel
theorem dX9_digest_293 : decode cX9_digest 293 = .ok (.getfield 192, 3) := by decide +kernel
theorem dX9_digest_296 : decode cX9_digest 296 = .ok (.i2l, 1) := by decide +kernel
theorem dX9_digest_297 : decode cX9_digest 297 = .ok (.invokevirtual 306, 3) := by decide +kernel
theorem dX9_digest_300 : decode cX9_digest 300 = .ok (.iconst 0, 1) := by decide +kernel
theorem dX9_digest_301 : decode cX9_digest 301 = .ok (.istore_n 1, 1) := by decide +kernel
theorem dX9_digest_302 : decode cX9_digest 302 = .ok (.iload_n 1, 1) := by decide +kernel
theorem dX9_digest_303 : decode cX9_digest 303 = .ok (.aload_n 0, 1) := by decide +kernel
theorem dX9_digest_304 : decode cX9_digest 304 = .ok (.getfield 192, 3) := by decide +kernel
theorem dX9_digest_307 : decode cX9_digest 307 = .ok (.if_icmp .ge 20, 3) := by decide +kernel
theorem dX9_digest_310 : decode cX9_digest 310 = .ok (.aload_n 0, 1) := by decide +kernel
theorem dX9_digest_311 : decode cX9_digest 311 = .ok (.aload_n 0, 1) := by decide +kernel
theorem dX9_digest_312 : decode cX9_digest 312 = .ok (.getfield 19, 3) := by decide +kernel
theorem dX9_digest_315 : decode cX9_digest 315 = .ok (.iload_n 1, 1) := by decide +kernel
theorem dX9_digest_316 : decode cX9_digest 316 = .ok (.iaload, 1) := by decide +kernel
theorem dX9_digest_317 : decode cX9_digest 317 = .ok (.i2l, 1) := by decide +kernel
theorem dX9_digest_318 : decode cX9_digest 318 = .ok (.invokevirtual 306, 3) := by decide +kernel
theorem dX9_digest_321 : decode cX9_digest 321 = .ok (.iinc 1 1, 3) := by decide +kernel
theorem dX9_digest_324 : decode cX9_digest 324 = .ok (.goto (-22), 3) := by decide +kernel
theorem dX9_digest_327 : decode cX9_digest 327 = .ok (.aload_n 0, 1) := by decide +kernel
theorem dX9_digest_328 : decode cX9_digest 328 = .ok (.getfield 300, 3) := by decide +kernel
theorem dX9_digest_331 : decode cX9_digest 331 = .ok (.lreturn, 1) := by decide +kernel
set_option maxRecDepth 20000 in
theorem ggX9_digest_X9_digestOne : GoodIn wsX9_digest wsX9_digestOne := goodIn_r _ [154, 155, 3, 234, 235, 236, 237, 238, 239, 240, 241, 242, 243, 244, 245, 246, 247, 248, 249, 250, 251, 252, 253, 254, 255, 256, 257, 258] (by decide +kernel) (by decide +kernel)
set_option maxRecDepth 20000 in
theorem gX9_digest_X9_digestOne : GoodIn wsX9_digest (wsV RX9 306 RX9 yX9_digestOne wsX9_digestOne) := goodIn_app (goodIn_of _ (by decide +kernel)) ggX9_digest_X9_digestOne
set_option maxRecDepth 20000 in
theorem ggX9_digest_X9_bitsOfShare : GoodIn wsX9_digest wsX9_bitsOfShare := goodIn_r _ [229, 230, 231, 232, 233] (by decide +kernel) (by decide +kernel)
set_option maxRecDepth 20000 in
theorem gX9_digest_X9_bitsOfShare : GoodIn wsX9_digest (va_wsS RX9 310 yX9_bitsOfShare wsX9_bitsOfShare) := goodIn_app (goodIn_of _ (by decide +kernel)) ggX9_digest_X9_bitsOfShare
set_option maxRecDepth 20000 in
theorem ggX9_digest_X9_share_ : GoodIn wsX9_digest wsX9_share_ := goodIn_r _ [226, 5, 115, 116, 117, 11, 118, 119, 120, 121, 122, 67, 68, 69, 70, 4, 71, 72, 73, 74, 49, 29, 30, 31, 75, 76, 77, 123, 124, 125, 126, 127, 128, 129, 130, 234, 235, 236, 237, 238, 239, 240, 241, 242, 243, 244, 245, 246, 247, 248, 249, 250, 251, 252, 253, 254, 255, 256, 257, 258] (by decide +kernel) (by decide +kernel)
set_option maxRecDepth 20000 in
theorem gX9_digest_X9_share_ : GoodIn wsX9_digest (wsV RX9 287 RX9 yX9_share_ wsX9_share_) := goodIn_app (goodIn_of _ (by decide +kernel)) ggX9_digest_X9_share_
set_option maxRecDepth 20000 in
theorem ggX9_digest_X9_suspected : GoodIn wsX9_digest wsX9_suspected := goodIn_r _ [218, 4, 115, 116, 117, 11, 118, 5, 119, 120, 121, 122, 67, 68, 69, 70, 71, 72, 73, 74, 49, 29, 30, 31, 75, 76, 77, 123, 124, 125, 126, 127, 128, 129, 130, 182, 183, 184, 185, 219, 220, 221, 222, 234, 235, 236, 237, 238, 239, 240, 241, 242, 243, 244, 245, 246, 247, 248, 249, 250, 251, 252, 253, 254, 255, 256, 257, 258] (by decide +kernel) (by decide +kernel)
set_option maxRecDepth 20000 in
theorem gX9_digest_X9_suspected : GoodIn wsX9_digest (wsV RX9 272 RX9 yX9_suspected wsX9_suspected) := goodIn_app (goodIn_of _ (by decide +kernel)) ggX9_digest_X9_suspected
set_option maxRecDepth 20000 in
theorem ggX9_digest_X9_worstOf : GoodIn wsX9_digest wsX9_worstOf := goodIn_r _ [214, 5, 67, 68, 69, 11, 70, 4, 71, 72, 73, 74, 49, 29, 30, 31, 75, 76, 77, 123, 124, 125, 126, 127, 128, 129, 130, 234, 235, 236, 237, 238, 239, 240, 241, 242, 243, 244, 245, 246, 247, 248, 249, 250, 251, 252, 253, 254, 255, 256, 257, 258] (by decide +kernel) (by decide +kernel)
set_option maxRecDepth 20000 in
theorem gX9_digest_X9_worstOf : GoodIn wsX9_digest (wsV RX9 266 RX9 yX9_worstOf wsX9_worstOf) := goodIn_app (goodIn_of _ (by decide +kernel)) ggX9_digest_X9_worstOf
set_option maxRecDepth 20000 in
theorem ggX9_digest_X9_loopAt : GoodIn wsX9_digest wsX9_loopAt := goodIn_r _ [210, 50, 4, 65, 67, 68, 69, 11, 70, 71, 72, 73, 74, 49, 29, 30, 31, 127, 128, 129, 130, 75, 76, 77, 123, 124, 125, 126, 119, 120, 121, 122, 234, 235, 236, 237, 238, 239, 240, 241, 242, 243, 244, 245, 246, 247, 248, 249, 250, 251, 252, 253, 254, 255, 256, 257, 258] (by decide +kernel) (by decide +kernel)
set_option maxRecDepth 20000 in
theorem gX9_digest_X9_loopAt : GoodIn wsX9_digest (wsV RX9 241 RX9 yX9_loopAt wsX9_loopAt) := goodIn_app (goodIn_of _ (by decide +kernel)) ggX9_digest_X9_loopAt
set_option maxRecDepth 20000 in
theorem ggX9_digest_X9_layAll : GoodIn wsX9_digest wsX9_layAll := goodIn_r _ [12, 13, 14, 15, 11, 16, 17, 18, 19, 20, 4, 21, 22, 23, 24, 25, 26, 27, 28, 29, 30, 31, 32, 33, 34, 35, 36, 37, 38, 39, 40, 41, 42, 43, 44, 45, 46, 47, 5, 48, 49, 50, 51, 52, 53, 54, 55, 56, 57, 58, 59, 60, 61, 62, 63, 64, 65, 66, 67, 68, 69, 70, 71, 72, 73, 74, 75, 76, 77, 78, 79, 80, 81, 82, 83, 84, 85, 86, 87, 88, 89, 90, 91, 92, 93, 94, 95, 96, 97, 98, 99, 100, 101, 102, 103, 104, 105, 106, 107, 108, 109, 234, 235, 236, 237, 238, 239, 240, 241, 242, 243, 244, 245, 246, 247, 248, 249, 250, 251, 252, 253, 254, 255, 256, 257, 258] (by decide +kernel) (by decide +kernel)
set_option maxRecDepth 20000 in
theorem gX9_digest_X9_layAll : GoodIn wsX9_digest (wsV RX9 170 RX9 yX9_layAll wsX9_layAll) := goodIn_app (goodIn_of _ (by decide +kernel)) ggX9_digest_X9_layAll
set_option maxRecDepth 20000 in
theorem ggX9_digest_X9_fit : GoodIn wsX9_digest wsX9_fit := goodIn_r _ [206, 4, 21, 168, 29, 30, 11, 31, 190, 191, 192, 193, 194, 195, 196, 197, 198, 13, 14, 15, 16, 17, 18, 19, 20, 22, 23, 24, 25, 26, 27, 28, 32, 33, 34, 35, 36, 37, 38, 39, 40, 41, 42, 43, 44, 45, 46, 47, 5, 48, 49, 50, 51, 52, 53, 54, 55, 56, 57, 58, 59, 60, 61, 62, 63, 64, 65, 66, 67, 68, 69, 70, 71, 72, 73, 74, 75, 76, 77, 78, 79, 80, 81, 82, 83, 84, 85, 86, 102, 103, 104, 105, 106, 107, 108, 109, 199, 200, 201, 202, 234, 235, 236, 237, 238, 239, 240, 241, 242, 243, 244, 245, 246, 247, 248, 249, 250, 251, 252, 253, 254, 255, 256, 257, 258] (by decide +kernel) (by decide +kernel)
set_option maxRecDepth 20000 in
theorem gX9_digest_X9_fit : GoodIn wsX9_digest (wsV RX9 284 RX9 yX9_fit wsX9_fit) := goodIn_app (goodIn_of _ (by decide +kernel)) ggX9_digest_X9_fit
set_option maxRecDepth 20000 in
theorem ggX9_digest_X9_missing : GoodIn wsX9_digest wsX9_missing := goodIn_r _ [189, 5, 190, 191, 192, 11, 193, 194, 4, 195, 196, 197, 198, 29, 30, 31, 13, 14, 15, 16, 17, 18, 19, 20, 21, 22, 23, 24, 25, 26, 27, 28, 32, 33, 34, 35, 36, 37, 38, 39, 40, 41, 42, 43, 44, 45, 46, 47, 48, 49, 50, 51, 52, 53, 54, 55, 56, 57, 58, 59, 60, 61, 62, 63, 64, 65, 66, 67, 68, 69, 70, 71, 72, 73, 74, 75, 76, 77, 78, 79, 80, 81, 82, 83, 84, 85, 86, 115, 116, 117, 118, 119, 120, 121, 122, 123, 124, 125, 126, 127, 128, 129, 130, 131, 132, 133, 134, 135, 136, 137, 138, 199, 200, 201, 202, 234, 235, 236, 237, 238, 239, 240, 241, 242, 243, 244, 245, 246, 247, 248, 249, 250, 251, 252, 253, 254, 255, 256, 257, 258] (by decide +kernel) (by decide +kernel)
set_option maxRecDepth 20000 in
theorem gX9_digest_X9_missing : GoodIn wsX9_digest (wsV RX9 281 RX9 yX9_missing wsX9_missing) := goodIn_app (goodIn_of _ (by decide +kernel)) ggX9_digest_X9_missing
set_option maxRecDepth 20000 in
theorem ggX9_digest_X9_legOf : GoodIn wsX9_digest wsX9_legOf := goodIn_r _ [176, 4, 177, 63, 24, 29, 30, 11, 31, 106, 107, 108, 109, 178, 179, 180, 181, 5, 50, 182, 183, 184, 185, 119, 120, 121, 122, 67, 68, 69, 70, 71, 72, 73, 74, 49, 75, 76, 77, 123, 124, 125, 126, 127, 128, 129, 130, 234, 235, 236, 237, 238, 239, 240, 241, 242, 243, 244, 245, 246, 247, 248, 249, 250, 251, 252, 253, 254, 255, 256, 257, 258] (by decide +kernel) (by decide +kernel)
set_option maxRecDepth 20000 in
theorem gX9_digest_X9_legOf : GoodIn wsX9_digest (wsV RX9 238 RX9 yX9_legOf wsX9_legOf) := goodIn_app (goodIn_of _ (by decide +kernel)) ggX9_digest_X9_legOf
set_option maxRecDepth 20000 in
theorem ggX9_digest_X9_layOut : GoodIn wsX9_digest wsX9_layOut := goodIn_r _ [16, 17, 18, 19, 11, 20, 4, 21, 22, 23, 24, 25, 26, 27, 28, 29, 30, 31, 32, 33, 34, 35, 36, 37, 38, 39, 40, 41, 42, 43, 44, 45, 46, 47, 5, 48, 49, 50, 51, 52, 53, 54, 55, 56, 57, 58, 59, 60, 61, 62, 63, 64, 65, 66, 67, 68, 69, 70, 71, 72, 73, 74, 75, 76, 77, 78, 79, 80, 81, 82, 83, 84, 85, 86, 234, 235, 236, 237, 238, 239, 240, 241, 242, 243, 244, 245, 246, 247, 248, 249, 250, 251, 252, 253, 254, 255, 256, 257, 258] (by decide +kernel) (by decide +kernel)
set_option maxRecDepth 20000 in
theorem gX9_digest_X9_layOut : GoodIn wsX9_digest (wsV RX9 148 RX9 yX9_layOut wsX9_layOut) := goodIn_app (goodIn_of _ (by decide +kernel)) ggX9_digest_X9_layOut
set_option maxRecDepth 20000 in
theorem ggX9_digest_X9_wayOf : GoodIn wsX9_digest wsX9_wayOf := goodIn_r _ [167, 21, 4, 48, 168, 102, 103, 104, 11, 105, 51, 52, 53, 54, 55, 56, 57, 58, 22, 23, 29, 30, 31, 106, 107, 108, 109, 63, 75, 76, 77, 169, 170, 171, 172, 234, 235, 236, 237, 238, 239, 240, 241, 242, 243, 244, 245, 246, 247, 248, 249, 250, 251, 252, 253, 254, 255, 256, 257, 258] (by decide +kernel) (by decide +kernel)
set_option maxRecDepth 20000 in
theorem gX9_digest_X9_wayOf : GoodIn wsX9_digest (wsV RX9 247 RX9 yX9_wayOf wsX9_wayOf) := goodIn_app (goodIn_of _ (by decide +kernel)) ggX9_digest_X9_wayOf
set_option maxRecDepth 20000 in
theorem ggX9_digest_X9_markOf : GoodIn wsX9_digest wsX9_markOf := goodIn_r _ [159, 4, 92, 21, 91, 143, 144, 145, 11, 146, 93, 94, 95, 96, 97, 75, 76, 77, 160, 161, 162, 163, 29, 30, 31, 98, 99, 100, 101, 102, 103, 104, 105, 48, 51, 52, 53, 54, 55, 56, 57, 58, 22, 23, 106, 107, 108, 109, 63, 234, 235, 236, 237, 238, 239, 240, 241, 242, 243, 244, 245, 246, 247, 248, 249, 250, 251, 252, 253, 254, 255, 256, 257, 258] (by decide +kernel) (by decide +kernel)
set_option maxRecDepth 20000 in
theorem gX9_digest_X9_markOf : GoodIn wsX9_digest (wsV RX9 225 RX9 yX9_markOf wsX9_markOf) := goodIn_app (goodIn_of _ (by decide +kernel)) ggX9_digest_X9_markOf
set_option maxRecDepth 20000 in
theorem ggX9_digest_X9_counted : GoodIn wsX9_digest wsX9_counted := goodIn_r _ [113, 4, 5, 114, 115, 116, 117, 11, 118, 119, 120, 121, 122, 67, 68, 69, 70, 71, 72, 73, 74, 49, 29, 30, 31, 75, 76, 77, 123, 124, 125, 126, 127, 128, 129, 130, 131, 132, 133, 134, 21, 135, 136, 137, 138, 139, 140, 141, 142, 91, 143, 144, 145, 146, 92, 93, 94, 95, 96, 97, 147, 148, 149, 150, 63, 234, 235, 236, 237, 238, 239, 240, 241, 242, 243, 244, 245, 246, 247, 248, 249, 250, 251, 252, 253, 254, 255, 256, 257, 258] (by decide +kernel) (by decide +kernel)
set_option maxRecDepth 20000 in
theorem gX9_digest_X9_counted : GoodIn wsX9_digest (wsV RX9 263 RX9 yX9_counted wsX9_counted) := goodIn_app (goodIn_of _ (by decide +kernel)) ggX9_digest_X9_counted
def D_X9_digest : Md := (yX9_digest, cX9_digest, 3, (some .long), wsX9_digest, RX9, { frames := 7, cells := 0, slots := 0, locals := 158 })
theorem nm_X9_digest : nmD D_X9_digest 0 := ⟨rfl, by decide +kernel, by decide +kernel, by decide +kernel⟩
theorem hi_X9_digest_X9 : ∀ w ∈ u_ws RX9 TX9 25, w ∈ wsX9_digest := by decide +kernel
theorem hl_X9_digest_7 : Cond.fieldLink RX9 7 "LevelLoopsModel" "s" "[I" ∈ wsX9_digest := by decide +kernel
theorem hl_X9_digest_19 : Cond.fieldLink RX9 19 "LevelLoopsModel" "text" "[I" ∈ wsX9_digest := by decide +kernel
theorem hl_X9_digest_65 : Cond.fieldLink RX9 65 "LevelLoopsModel" "thrown" "I" ∈ wsX9_digest := by decide +kernel
theorem hl_X9_digest_98 : Cond.fieldLink RX9 98 "LevelLoopsModel" "manyLoops" "I" ∈ wsX9_digest := by decide +kernel
theorem hl_X9_digest_192 : Cond.fieldLink RX9 192 "LevelLoopsModel" "length" "I" ∈ wsX9_digest := by decide +kernel
theorem hl_X9_digest_300 : Cond.fieldLink RX9 300 "LevelLoopsModel" "digested" "J" ∈ wsX9_digest := by decide +kernel
def wp_X9_digest_B302 (x1 : Int32) (w : Wd) (Q : Int64 → Wd → Prop) (K302 : Int32 → Wd → Prop) : Prop :=
  (((wi w 0 32 6) ≤ x1 → Q (wl w 0) w) ∧ (¬ (wi w 0 32 6) ≤ x1 → vp_in x1 60 ∧ wp_X9_digestOne ((wi w 0 36 x1.toNatClampNeg).toInt64) w (fun w318 => K302 (x1 + 1) w318)))
def wp_X9_digest_L302 (x1 : Int32) (w : Wd) (Q : Int64 → Wd → Prop) : Prop :=
  ∃ (I : Int32 → Wd → Prop) (μ : Int32 → Wd → Nat), I x1 w ∧ ∀ (x1 : Int32) (w : Wd), I x1 w → wp_X9_digest_B302 x1 w Q (fun x1' w' => I x1' w' ∧ μ x1' w' < μ x1 w)
def wp_X9_digest_B233 (x1 : Int32) (x2 : Int32) (w : Wd) (Q : Int64 → Wd → Prop) (K223 : Int32 → Wd → Prop) (K233 : Int32 → Wd → Prop) : Prop :=
  (((8 : Int32) ≤ x2 → K223 (x1 + 1) w) ∧ (¬ (8 : Int32) ≤ x2 → wp_X9_loopAt x1 x2 w (fun r243 => wp_X9_digestOne r243.toInt64 w (fun w247 => K233 (x2 + 1) w247))))
def wp_X9_digest_L233 (x1 : Int32) (x2 : Int32) (w : Wd) (Q : Int64 → Wd → Prop) (K223 : Int32 → Wd → Prop) : Prop :=
  ∃ (I : Int32 → Wd → Prop) (μ : Int32 → Wd → Nat), I x2 w ∧ ∀ (x2 : Int32) (w : Wd), I x2 w → wp_X9_digest_B233 x1 x2 w Q K223 (fun x2' w' => I x2' w' ∧ μ x2' w' < μ x2 w)
def wp_X9_digest_B223 (x1 : Int32) (w : Wd) (Q : Int64 → Wd → Prop) (K223 : Int32 → Wd → Prop) : Prop :=
  (((wi w 0 32 15) ≤ x1 → wp_X9_worstOf w (fun r264 => wp_X9_digestOne r264.toInt64 w (fun w268 => wp_X9_suspected w268 (fun r273 => wp_X9_digestOne r273.toInt64 w268 (fun w277 => wp_X9_share_ w277 (fun r282 => wp_X9_bitsOfShare r282 (fun r285 => wp_X9_digestOne r285 w277 (fun w288 => wp_X9_digestOne ((wi w288 0 32 6).toInt64) w288 (fun w297 => wp_X9_digest_L302 (0 : Int32) w297 Q))))))))) ∧ (¬ (wi w 0 32 15) ≤ x1 → wp_X9_digest_L233 x1 (0 : Int32) w Q K223))
def wp_X9_digest_L223 (x1 : Int32) (w : Wd) (Q : Int64 → Wd → Prop) : Prop :=
  ∃ (I : Int32 → Wd → Prop) (μ : Int32 → Wd → Nat), I x1 w ∧ ∀ (x1 : Int32) (w : Wd), I x1 w → wp_X9_digest_B223 x1 w Q (fun x1' w' => I x1' w' ∧ μ x1' w' < μ x1 w)
def wp_X9_digest_B179 (x1 : Int32) (x2 : Int32) (w : Wd) (Q : Int64 → Wd → Prop) (K137 : Int32 → Wd → Prop) (K179 : Int32 → Wd → Prop) : Prop :=
  (((4 : Int32) ≤ x2 → wp_X9_fit x1 w (fun r204 w204 => wp_X9_digestOne r204.toInt64 w204 (fun w208 => K137 (x1 + 1) w208))) ∧ (¬ (4 : Int32) ≤ x2 → wp_X9_missing x1 x2 w (fun r188 w188 => wp_X9_digestOne r188.toInt64 w188 (fun w192 => K179 (x2 + 1) w192))))
def wp_X9_digest_L179 (x1 : Int32) (x2 : Int32) (w : Wd) (Q : Int64 → Wd → Prop) (K137 : Int32 → Wd → Prop) : Prop :=
  ∃ (I : Int32 → Wd → Prop) (μ : Int32 → Wd → Nat), I x2 w ∧ ∀ (x2 : Int32) (w : Wd), I x2 w → wp_X9_digest_B179 x1 x2 w Q K137 (fun x2' w' => I x2' w' ∧ μ x2' w' < μ x2 w)
def wp_X9_digest_B154 (x1 : Int32) (x2 : Int32) (w : Wd) (Q : Int64 → Wd → Prop) (K137 : Int32 → Wd → Prop) (K154 : Int32 → Wd → Prop) : Prop :=
  (((10 : Int32) ≤ x2 → wp_X9_digest_L179 x1 (0 : Int32) w Q K137) ∧ (¬ (10 : Int32) ≤ x2 → wp_X9_legOf x1 x2 w (fun r164 => wp_X9_digestOne r164.toInt64 w (fun w168 => K154 (x2 + 1) w168))))
def wp_X9_digest_L154 (x1 : Int32) (x2 : Int32) (w : Wd) (Q : Int64 → Wd → Prop) (K137 : Int32 → Wd → Prop) : Prop :=
  ∃ (I : Int32 → Wd → Prop) (μ : Int32 → Wd → Nat), I x2 w ∧ ∀ (x2 : Int32) (w : Wd), I x2 w → wp_X9_digest_B154 x1 x2 w Q K137 (fun x2' w' => I x2' w' ∧ μ x2' w' < μ x2 w)
def wp_X9_digest_B137 (x1 : Int32) (w : Wd) (Q : Int64 → Wd → Prop) (K137 : Int32 → Wd → Prop) : Prop :=
  (((wi w 0 33 11) ≤ x1 → wp_X9_layAll w (fun w218 => wp_X9_digest_L223 (0 : Int32) w218 Q)) ∧ (¬ (wi w 0 33 11) ≤ x1 → wp_X9_layOut w (fun w149 => wp_X9_digest_L154 x1 (0 : Int32) w149 Q K137)))
def wp_X9_digest_L137 (x1 : Int32) (w : Wd) (Q : Int64 → Wd → Prop) : Prop :=
  ∃ (I : Int32 → Wd → Prop) (μ : Int32 → Wd → Nat), I x1 w ∧ ∀ (x1 : Int32) (w : Wd), I x1 w → wp_X9_digest_B137 x1 w Q (fun x1' w' => I x1' w' ∧ μ x1' w' < μ x1 w)
def wp_X9_digest_B106 (x1 : Int32) (x2 : Int32) (w : Wd) (Q : Int64 → Wd → Prop) (K69 : Int32 → Wd → Prop) (K106 : Int32 → Wd → Prop) : Prop :=
  (((4 : Int32) ≤ x2 → K69 (x1 + 1) w) ∧ (¬ (4 : Int32) ≤ x2 → wp_X9_wayOf (0 : Int32) x1 x2 w (fun r116 w116 => wp_X9_digestOne r116.toInt64 w116 (fun w120 => K106 (x2 + 1) w120))))
def wp_X9_digest_L106 (x1 : Int32) (x2 : Int32) (w : Wd) (Q : Int64 → Wd → Prop) (K69 : Int32 → Wd → Prop) : Prop :=
  ∃ (I : Int32 → Wd → Prop) (μ : Int32 → Wd → Nat), I x2 w ∧ ∀ (x2 : Int32) (w : Wd), I x2 w → wp_X9_digest_B106 x1 x2 w Q K69 (fun x2' w' => I x2' w' ∧ μ x2' w' < μ x2 w)
def wp_X9_digest_B81 (x1 : Int32) (x2 : Int32) (w : Wd) (Q : Int64 → Wd → Prop) (K69 : Int32 → Wd → Prop) (K81 : Int32 → Wd → Prop) : Prop :=
  (((7 : Int32) ≤ x2 → wp_X9_digest_L106 x1 (0 : Int32) w Q K69) ∧ (¬ (7 : Int32) ≤ x2 → wp_X9_markOf x1 x2 w (fun r91 w91 => wp_X9_digestOne r91.toInt64 w91 (fun w95 => K81 (x2 + 1) w95))))
def wp_X9_digest_L81 (x1 : Int32) (x2 : Int32) (w : Wd) (Q : Int64 → Wd → Prop) (K69 : Int32 → Wd → Prop) : Prop :=
  ∃ (I : Int32 → Wd → Prop) (μ : Int32 → Wd → Nat), I x2 w ∧ ∀ (x2 : Int32) (w : Wd), I x2 w → wp_X9_digest_B81 x1 x2 w Q K69 (fun x2' w' => I x2' w' ∧ μ x2' w' < μ x2 w)
def wp_X9_digest_B69 (x1 : Int32) (w : Wd) (Q : Int64 → Wd → Prop) (K69 : Int32 → Wd → Prop) : Prop :=
  (((wi w 0 33 0) ≤ x1 → wp_X9_digest_L137 (0 : Int32) w Q) ∧ (¬ (wi w 0 33 0) ≤ x1 → wp_X9_digest_L81 x1 (0 : Int32) w Q K69))
def wp_X9_digest_L69 (x1 : Int32) (w : Wd) (Q : Int64 → Wd → Prop) : Prop :=
  ∃ (I : Int32 → Wd → Prop) (μ : Int32 → Wd → Nat), I x1 w ∧ ∀ (x1 : Int32) (w : Wd), I x1 w → wp_X9_digest_B69 x1 w Q (fun x1' w' => I x1' w' ∧ μ x1' w' < μ x1 w)
def wp_X9_digest_B42 (x1 : Int32) (w : Wd) (Q : Int64 → Wd → Prop) (K42 : Int32 → Wd → Prop) : Prop :=
  (((3 : Int32) ≤ x1 → wp_X9_digest_L69 (0 : Int32) w Q) ∧ (¬ (3 : Int32) ≤ x1 → vp_in ((92 : Int32) + x1) 95 ∧ wp_X9_digestOne ((wi w 0 33 ((92 : Int32) + x1).toNatClampNeg).toInt64) w (fun w58 => K42 (x1 + 1) w58)))
def wp_X9_digest_L42 (x1 : Int32) (w : Wd) (Q : Int64 → Wd → Prop) : Prop :=
  ∃ (I : Int32 → Wd → Prop) (μ : Int32 → Wd → Nat), I x1 w ∧ ∀ (x1 : Int32) (w : Wd), I x1 w → wp_X9_digest_B42 x1 w Q (fun x1' w' => I x1' w' ∧ μ x1' w' < μ x1 w)
def wp_X9_digest_B18 (x1 : Int32) (w : Wd) (Q : Int64 → Wd → Prop) (K18 : Int32 → Wd → Prop) : Prop :=
  (((11 : Int32) ≤ x1 → wp_X9_digest_L42 (0 : Int32) w Q) ∧ (¬ (11 : Int32) ≤ x1 → wp_X9_counted x1 w (fun r27 => wp_X9_digestOne r27.toInt64 w (fun w31 => K18 (x1 + 1) w31))))
def wp_X9_digest_L18 (x1 : Int32) (w : Wd) (Q : Int64 → Wd → Prop) : Prop :=
  ∃ (I : Int32 → Wd → Prop) (μ : Int32 → Wd → Nat), I x1 w ∧ ∀ (x1 : Int32) (w : Wd), I x1 w → wp_X9_digest_B18 x1 w Q (fun x1' w' => I x1' w' ∧ μ x1' w' < μ x1 w)
def wp_X9_digest (w : Wd) (Q : Int64 → Wd → Prop) : Prop :=
  (∀ w2 : Wd, w2 = (sI w 0 32 0 (0 : Int32)) → wp_X9_layAll w2 (fun w6 => (∀ w13 : Wd, w13 = (sL w6 0 (2741 : Int64)) → wp_X9_digest_L18 (0 : Int32) w13 Q)))
theorem ok_X9_digest_B302 {G : Gt} {M : Mx} {Qf : State → Prop} {x1 : Int32} {w : Wd} {Q : Int64 → Wd → Prop} {K302 : Int32 → Wd → Prop} (hC : cx G D_X9_digest M) (he : en G M (ql Q) Qf) (h : wp_X9_digest_B302 x1 w Q K302) (hK302 : ∀ (x1 : Int32) (w : Wd), K302 x1 w → jq G D_X9_digest M Qf 302 [(0, .ref (aD G 0 32)), (1, .int x1)] [] w) : jq G D_X9_digest M Qf 302 [(0, .ref (aD G 0 32)), (1, .int x1)] [] w := by
  unfold wp_X9_digest_B302 at h
  refine jq_iload_n (k0 := 1) dX9_digest_302 hC rfl rfl ?_
  refine jq_aload_n (k0 := 0) dX9_digest_303 hC rfl rfl ?_
  refine jq_get (k0 := 6) (n := 0) (o := 32) dX9_digest_304 hC (cl_0 (by decide)) rfl rfl hi_X9_digest_X9 (by decide) hl_X9_digest_192 rfl rfl ?_
  refine jq_icmp_ge (tgt := 327) dX9_digest_307 hC (by decide) (fun c307 => ?_) (fun c307 => ?_)
  · have h := h.1 c307
    refine jq_aload_n (k0 := 0) dX9_digest_327 hC rfl rfl ?_
    refine jq_get (k0 := 24) (n := 0) (o := 32) dX9_digest_328 hC (cl_0 (by decide)) rfl rfl hi_X9_digest_X9 (by decide) hl_X9_digest_300 rfl rfl ?_
    exact jq_lret dX9_digest_331 hC he rfl ⟨_, rfl, h⟩
  · have h := h.2 c307
    refine jq_aload_n (k0 := 0) dX9_digest_310 hC rfl rfl ?_
    refine jq_aload_n (k0 := 0) dX9_digest_311 hC rfl rfl ?_
    refine jq_get (k0 := 5) (n := 0) (o := 32) dX9_digest_312 hC (cl_0 (by decide)) rfl rfl hi_X9_digest_X9 (by decide) hl_X9_digest_19 rfl rfl ?_
    refine jq_iload_n (k0 := 1) dX9_digest_315 hC rfl rfl ?_
    obtain ⟨b316, h⟩ := h
    refine jq_iald (n := 0) (o := 36) (j := x1.toNatClampNeg) dX9_digest_316 hC (cl_0 (by decide)) rfl b316 rfl ?_
    refine jq_i2l dX9_digest_317 hC ?_
    refine jq_callV (As := [.long ((wi w 0 36 x1.toNatClampNeg).toInt64)]) (rest := []) (n := 0) (o := 32) (D' := D_X9_digestOne) dX9_digest_318 hC (cl_0 (by decide)) rfl rfl rfl (mt_X9_digestOne h) gX9_digest_X9_digestOne rfl ⟨rfl, rfl, Nat.le_of_ble_eq_true rfl, Nat.le_of_ble_eq_true rfl⟩ nm_X9_digestOne rfl (Nat.le_of_ble_eq_true rfl) (kV fun w318 h => ?_)
    refine jq_iinc (k0 := 1) (v := (x1 + 1)) (L' := [(1, .int (x1 + 1)), (0, .ref (aD G 0 32))]) dX9_digest_321 hC rfl rfl (by decide) rfl ?_
    refine jq_goto (tgt := 302) dX9_digest_324 hC (by decide) ?_
    exact jq_less (L' := [(0, .ref (aD G 0 32)), (1, .int (x1 + 1))]) [1, 0] rfl (hK302 _ _ h)
theorem ok_X9_digest_L302 {G : Gt} {M : Mx} {Qf : State → Prop} {x1 : Int32} {w : Wd} {Q : Int64 → Wd → Prop} (hC : cx G D_X9_digest M) (he : en G M (ql Q) Qf) (h : wp_X9_digest_L302 x1 w Q) : jq G D_X9_digest M Qf 302 [(0, .ref (aD G 0 32)), (1, .int x1)] [] w := by
  unfold wp_X9_digest_L302 at h
  obtain ⟨I, μ, h0, hs⟩ := h
  exact lp_ind (σ := Int32 × Wd) (P := fun s => jq G D_X9_digest M Qf 302 [(0, .ref (aD G 0 32)), (1, .int s.1)] [] s.2) (fun s => I s.1 s.2) (fun s => μ s.1 s.2) (fun s h1 ih => ok_X9_digest_B302 hC he (hs s.1 s.2 h1) (fun x1' w' h => ih (x1', w') h.1 h.2)) (x1, w) h0
theorem ok_X9_digest_B233 {G : Gt} {M : Mx} {Qf : State → Prop} {x1 : Int32} {x2 : Int32} {w : Wd} {Q : Int64 → Wd → Prop} {K223 : Int32 → Wd → Prop} {K233 : Int32 → Wd → Prop} (hC : cx G D_X9_digest M) (he : en G M (ql Q) Qf) (h : wp_X9_digest_B233 x1 x2 w Q K223 K233) (hK223 : ∀ (x1 : Int32) (w : Wd), K223 x1 w → jq G D_X9_digest M Qf 223 [(0, .ref (aD G 0 32)), (1, .int x1)] [] w) (hK233 : ∀ (x2 : Int32) (w : Wd), K233 x2 w → jq G D_X9_digest M Qf 233 [(0, .ref (aD G 0 32)), (1, .int x1), (2, .int x2)] [] w) : jq G D_X9_digest M Qf 233 [(0, .ref (aD G 0 32)), (1, .int x1), (2, .int x2)] [] w := by
  unfold wp_X9_digest_B233 at h
  refine jq_iload_n (k0 := 2) dX9_digest_233 hC rfl rfl ?_
  refine jq_bipush (v := (8 : Int32)) dX9_digest_234 hC (by decide) ?_
  refine jq_icmp_ge (tgt := 256) dX9_digest_236 hC (by decide) (fun c236 => ?_) (fun c236 => ?_)
  · have h := h.1 c236
    refine jq_iinc (k0 := 1) (v := (x1 + 1)) (L' := [(1, .int (x1 + 1)), (0, .ref (aD G 0 32)), (2, .int x2)]) dX9_digest_256 hC rfl rfl (by decide) rfl ?_
    refine jq_goto (tgt := 223) dX9_digest_259 hC (by decide) ?_
    exact jq_less (L' := [(0, .ref (aD G 0 32)), (1, .int (x1 + 1))]) [1, 0] rfl (hK223 _ _ h)
  · have h := h.2 c236
    refine jq_aload_n (k0 := 0) dX9_digest_239 hC rfl rfl ?_
    refine jq_aload_n (k0 := 0) dX9_digest_240 hC rfl rfl ?_
    refine jq_iload_n (k0 := 1) dX9_digest_241 hC rfl rfl ?_
    refine jq_iload_n (k0 := 2) dX9_digest_242 hC rfl rfl ?_
    refine jq_callV (As := [.int x1, .int x2]) (rest := [.ref (aD G 0 32)]) (n := 0) (o := 32) (D' := D_X9_loopAt) dX9_digest_243 hC (cl_0 (by decide)) rfl rfl rfl (mt_X9_loopAt h) gX9_digest_X9_loopAt rfl ⟨rfl, rfl, Nat.le_of_ble_eq_true rfl, Nat.le_of_ble_eq_true rfl⟩ nm_X9_loopAt rfl (Nat.le_of_ble_eq_true rfl) (kIp fun r243 h => ?_)
    refine jq_i2l dX9_digest_246 hC ?_
    refine jq_callV (As := [.long r243.toInt64]) (rest := []) (n := 0) (o := 32) (D' := D_X9_digestOne) dX9_digest_247 hC (cl_0 (by decide)) rfl rfl rfl (mt_X9_digestOne h) gX9_digest_X9_digestOne rfl ⟨rfl, rfl, Nat.le_of_ble_eq_true rfl, Nat.le_of_ble_eq_true rfl⟩ nm_X9_digestOne rfl (Nat.le_of_ble_eq_true rfl) (kV fun w247 h => ?_)
    refine jq_iinc (k0 := 2) (v := (x2 + 1)) (L' := [(2, .int (x2 + 1)), (0, .ref (aD G 0 32)), (1, .int x1)]) dX9_digest_250 hC rfl rfl (by decide) rfl ?_
    refine jq_goto (tgt := 233) dX9_digest_253 hC (by decide) ?_
    exact jq_less (L' := [(0, .ref (aD G 0 32)), (1, .int x1), (2, .int (x2 + 1))]) [1, 2, 0] rfl (hK233 _ _ h)
theorem ok_X9_digest_L233 {G : Gt} {M : Mx} {Qf : State → Prop} {x1 : Int32} {x2 : Int32} {w : Wd} {Q : Int64 → Wd → Prop} {K223 : Int32 → Wd → Prop} (hC : cx G D_X9_digest M) (he : en G M (ql Q) Qf) (h : wp_X9_digest_L233 x1 x2 w Q K223) (hK223 : ∀ (x1 : Int32) (w : Wd), K223 x1 w → jq G D_X9_digest M Qf 223 [(0, .ref (aD G 0 32)), (1, .int x1)] [] w) : jq G D_X9_digest M Qf 233 [(0, .ref (aD G 0 32)), (1, .int x1), (2, .int x2)] [] w := by
  unfold wp_X9_digest_L233 at h
  obtain ⟨I, μ, h0, hs⟩ := h
  exact lp_ind (σ := Int32 × Wd) (P := fun s => jq G D_X9_digest M Qf 233 [(0, .ref (aD G 0 32)), (1, .int x1), (2, .int s.1)] [] s.2) (fun s => I s.1 s.2) (fun s => μ s.1 s.2) (fun s h1 ih => ok_X9_digest_B233 hC he (hs s.1 s.2 h1) hK223 (fun x2' w' h => ih (x2', w') h.1 h.2)) (x2, w) h0
theorem ok_X9_digest_B223 {G : Gt} {M : Mx} {Qf : State → Prop} {x1 : Int32} {w : Wd} {Q : Int64 → Wd → Prop} {K223 : Int32 → Wd → Prop} (hC : cx G D_X9_digest M) (he : en G M (ql Q) Qf) (h : wp_X9_digest_B223 x1 w Q K223) (hK223 : ∀ (x1 : Int32) (w : Wd), K223 x1 w → jq G D_X9_digest M Qf 223 [(0, .ref (aD G 0 32)), (1, .int x1)] [] w) : jq G D_X9_digest M Qf 223 [(0, .ref (aD G 0 32)), (1, .int x1)] [] w := by
  unfold wp_X9_digest_B223 at h
  refine jq_iload_n (k0 := 1) dX9_digest_223 hC rfl rfl ?_
  refine jq_aload_n (k0 := 0) dX9_digest_224 hC rfl rfl ?_
  refine jq_get (k0 := 15) (n := 0) (o := 32) dX9_digest_225 hC (cl_0 (by decide)) rfl rfl hi_X9_digest_X9 (by decide) hl_X9_digest_98 rfl rfl ?_
  refine jq_icmp_ge (tgt := 262) dX9_digest_228 hC (by decide) (fun c228 => ?_) (fun c228 => ?_)
  · have h := h.1 c228
    refine jq_aload_n (k0 := 0) dX9_digest_262 hC rfl rfl ?_
    refine jq_aload_n (k0 := 0) dX9_digest_263 hC rfl rfl ?_
    refine jq_callV (As := []) (rest := [.ref (aD G 0 32)]) (n := 0) (o := 32) (D' := D_X9_worstOf) dX9_digest_264 hC (cl_0 (by decide)) rfl rfl rfl (mt_X9_worstOf h) gX9_digest_X9_worstOf rfl ⟨rfl, rfl, Nat.le_of_ble_eq_true rfl, Nat.le_of_ble_eq_true rfl⟩ nm_X9_worstOf rfl (Nat.le_of_ble_eq_true rfl) (kIp fun r264 h => ?_)
    refine jq_i2l dX9_digest_267 hC ?_
    refine jq_callV (As := [.long r264.toInt64]) (rest := []) (n := 0) (o := 32) (D' := D_X9_digestOne) dX9_digest_268 hC (cl_0 (by decide)) rfl rfl rfl (mt_X9_digestOne h) gX9_digest_X9_digestOne rfl ⟨rfl, rfl, Nat.le_of_ble_eq_true rfl, Nat.le_of_ble_eq_true rfl⟩ nm_X9_digestOne rfl (Nat.le_of_ble_eq_true rfl) (kV fun w268 h => ?_)
    refine jq_aload_n (k0 := 0) dX9_digest_271 hC rfl rfl ?_
    refine jq_aload_n (k0 := 0) dX9_digest_272 hC rfl rfl ?_
    refine jq_callV (As := []) (rest := [.ref (aD G 0 32)]) (n := 0) (o := 32) (D' := D_X9_suspected) dX9_digest_273 hC (cl_0 (by decide)) rfl rfl rfl (mt_X9_suspected h) gX9_digest_X9_suspected rfl ⟨rfl, rfl, Nat.le_of_ble_eq_true rfl, Nat.le_of_ble_eq_true rfl⟩ nm_X9_suspected rfl (Nat.le_of_ble_eq_true rfl) (kIp fun r273 h => ?_)
    refine jq_i2l dX9_digest_276 hC ?_
    refine jq_callV (As := [.long r273.toInt64]) (rest := []) (n := 0) (o := 32) (D' := D_X9_digestOne) dX9_digest_277 hC (cl_0 (by decide)) rfl rfl rfl (mt_X9_digestOne h) gX9_digest_X9_digestOne rfl ⟨rfl, rfl, Nat.le_of_ble_eq_true rfl, Nat.le_of_ble_eq_true rfl⟩ nm_X9_digestOne rfl (Nat.le_of_ble_eq_true rfl) (kV fun w277 h => ?_)
    refine jq_aload_n (k0 := 0) dX9_digest_280 hC rfl rfl ?_
    refine jq_aload_n (k0 := 0) dX9_digest_281 hC rfl rfl ?_
    refine jq_callV (As := []) (rest := [.ref (aD G 0 32)]) (n := 0) (o := 32) (D' := D_X9_share_) dX9_digest_282 hC (cl_0 (by decide)) rfl rfl rfl (mt_X9_share_ h) gX9_digest_X9_share_ rfl ⟨rfl, rfl, Nat.le_of_ble_eq_true rfl, Nat.le_of_ble_eq_true rfl⟩ nm_X9_share_ rfl (Nat.le_of_ble_eq_true rfl) (kDp fun r282 h => ?_)
    refine jq_callS (As := [.double r282]) (rest := [.ref (aD G 0 32)]) (D' := D_X9_bitsOfShare) dX9_digest_285 hC (mt_X9_bitsOfShare h) gX9_digest_X9_bitsOfShare rfl ⟨rfl, rfl, Nat.le_of_ble_eq_true rfl, Nat.le_of_ble_eq_true rfl⟩ nm_X9_bitsOfShare rfl (Nat.le_of_ble_eq_true rfl) (kLp fun r285 h => ?_)
    refine jq_callV (As := [.long r285]) (rest := []) (n := 0) (o := 32) (D' := D_X9_digestOne) dX9_digest_288 hC (cl_0 (by decide)) rfl rfl rfl (mt_X9_digestOne h) gX9_digest_X9_digestOne rfl ⟨rfl, rfl, Nat.le_of_ble_eq_true rfl, Nat.le_of_ble_eq_true rfl⟩ nm_X9_digestOne rfl (Nat.le_of_ble_eq_true rfl) (kV fun w288 h => ?_)
    refine jq_aload_n (k0 := 0) dX9_digest_291 hC rfl rfl ?_
    refine jq_aload_n (k0 := 0) dX9_digest_292 hC rfl rfl ?_
    refine jq_get (k0 := 6) (n := 0) (o := 32) dX9_digest_293 hC (cl_0 (by decide)) rfl rfl hi_X9_digest_X9 (by decide) hl_X9_digest_192 rfl rfl ?_
    refine jq_i2l dX9_digest_296 hC ?_
    refine jq_callV (As := [.long ((wi w288 0 32 6).toInt64)]) (rest := []) (n := 0) (o := 32) (D' := D_X9_digestOne) dX9_digest_297 hC (cl_0 (by decide)) rfl rfl rfl (mt_X9_digestOne h) gX9_digest_X9_digestOne rfl ⟨rfl, rfl, Nat.le_of_ble_eq_true rfl, Nat.le_of_ble_eq_true rfl⟩ nm_X9_digestOne rfl (Nat.le_of_ble_eq_true rfl) (kV fun w297 h => ?_)
    refine jq_iconst (v := (0 : Int32)) dX9_digest_300 hC (by decide) ?_
    refine jq_istore_n (L' := [(1, .int (0 : Int32)), (0, .ref (aD G 0 32))]) dX9_digest_301 hC rfl (by decide) rfl ?_
    refine jq_less (L' := [(0, .ref (aD G 0 32)), (1, .int (0 : Int32))]) [1, 0] rfl ?_
    exact ok_X9_digest_L302 hC he h
  · have h := h.2 c228
    refine jq_iconst (v := (0 : Int32)) dX9_digest_231 hC (by decide) ?_
    refine jq_istore_n (L' := [(2, .int (0 : Int32)), (0, .ref (aD G 0 32)), (1, .int x1)]) dX9_digest_232 hC rfl (by decide) rfl ?_
    refine jq_less (L' := [(0, .ref (aD G 0 32)), (1, .int x1), (2, .int (0 : Int32))]) [1, 2, 0] rfl ?_
    exact ok_X9_digest_L233 hC he h hK223
theorem ok_X9_digest_L223 {G : Gt} {M : Mx} {Qf : State → Prop} {x1 : Int32} {w : Wd} {Q : Int64 → Wd → Prop} (hC : cx G D_X9_digest M) (he : en G M (ql Q) Qf) (h : wp_X9_digest_L223 x1 w Q) : jq G D_X9_digest M Qf 223 [(0, .ref (aD G 0 32)), (1, .int x1)] [] w := by
  unfold wp_X9_digest_L223 at h
  obtain ⟨I, μ, h0, hs⟩ := h
  exact lp_ind (σ := Int32 × Wd) (P := fun s => jq G D_X9_digest M Qf 223 [(0, .ref (aD G 0 32)), (1, .int s.1)] [] s.2) (fun s => I s.1 s.2) (fun s => μ s.1 s.2) (fun s h1 ih => ok_X9_digest_B223 hC he (hs s.1 s.2 h1) (fun x1' w' h => ih (x1', w') h.1 h.2)) (x1, w) h0
theorem ok_X9_digest_B179 {G : Gt} {M : Mx} {Qf : State → Prop} {x1 : Int32} {x2 : Int32} {w : Wd} {Q : Int64 → Wd → Prop} {K137 : Int32 → Wd → Prop} {K179 : Int32 → Wd → Prop} (hC : cx G D_X9_digest M) (he : en G M (ql Q) Qf) (h : wp_X9_digest_B179 x1 x2 w Q K137 K179) (hK137 : ∀ (x1 : Int32) (w : Wd), K137 x1 w → jq G D_X9_digest M Qf 137 [(0, .ref (aD G 0 32)), (1, .int x1)] [] w) (hK179 : ∀ (x2 : Int32) (w : Wd), K179 x2 w → jq G D_X9_digest M Qf 179 [(0, .ref (aD G 0 32)), (1, .int x1), (2, .int x2)] [] w) : jq G D_X9_digest M Qf 179 [(0, .ref (aD G 0 32)), (1, .int x1), (2, .int x2)] [] w := by
  unfold wp_X9_digest_B179 at h
  refine jq_iload_n (k0 := 2) dX9_digest_179 hC rfl rfl ?_
  refine jq_iconst (v := (4 : Int32)) dX9_digest_180 hC (by decide) ?_
  refine jq_icmp_ge (tgt := 201) dX9_digest_181 hC (by decide) (fun c181 => ?_) (fun c181 => ?_)
  · have h := h.1 c181
    refine jq_aload_n (k0 := 0) dX9_digest_201 hC rfl rfl ?_
    refine jq_aload_n (k0 := 0) dX9_digest_202 hC rfl rfl ?_
    refine jq_iload_n (k0 := 1) dX9_digest_203 hC rfl rfl ?_
    refine jq_callV (As := [.int x1]) (rest := [.ref (aD G 0 32)]) (n := 0) (o := 32) (D' := D_X9_fit) dX9_digest_204 hC (cl_0 (by decide)) rfl rfl rfl (mt_X9_fit h) gX9_digest_X9_fit rfl ⟨rfl, rfl, Nat.le_of_ble_eq_true rfl, Nat.le_of_ble_eq_true rfl⟩ nm_X9_fit rfl (Nat.le_of_ble_eq_true rfl) (kI fun r204 w204 h => ?_)
    refine jq_i2l dX9_digest_207 hC ?_
    refine jq_callV (As := [.long r204.toInt64]) (rest := []) (n := 0) (o := 32) (D' := D_X9_digestOne) dX9_digest_208 hC (cl_0 (by decide)) rfl rfl rfl (mt_X9_digestOne h) gX9_digest_X9_digestOne rfl ⟨rfl, rfl, Nat.le_of_ble_eq_true rfl, Nat.le_of_ble_eq_true rfl⟩ nm_X9_digestOne rfl (Nat.le_of_ble_eq_true rfl) (kV fun w208 h => ?_)
    refine jq_iinc (k0 := 1) (v := (x1 + 1)) (L' := [(1, .int (x1 + 1)), (0, .ref (aD G 0 32)), (2, .int x2)]) dX9_digest_211 hC rfl rfl (by decide) rfl ?_
    refine jq_goto (tgt := 137) dX9_digest_214 hC (by decide) ?_
    exact jq_less (L' := [(0, .ref (aD G 0 32)), (1, .int (x1 + 1))]) [1, 0] rfl (hK137 _ _ h)
  · have h := h.2 c181
    refine jq_aload_n (k0 := 0) dX9_digest_184 hC rfl rfl ?_
    refine jq_aload_n (k0 := 0) dX9_digest_185 hC rfl rfl ?_
    refine jq_iload_n (k0 := 1) dX9_digest_186 hC rfl rfl ?_
    refine jq_iload_n (k0 := 2) dX9_digest_187 hC rfl rfl ?_
    refine jq_callV (As := [.int x1, .int x2]) (rest := [.ref (aD G 0 32)]) (n := 0) (o := 32) (D' := D_X9_missing) dX9_digest_188 hC (cl_0 (by decide)) rfl rfl rfl (mt_X9_missing h) gX9_digest_X9_missing rfl ⟨rfl, rfl, Nat.le_of_ble_eq_true rfl, Nat.le_of_ble_eq_true rfl⟩ nm_X9_missing rfl (Nat.le_of_ble_eq_true rfl) (kI fun r188 w188 h => ?_)
    refine jq_i2l dX9_digest_191 hC ?_
    refine jq_callV (As := [.long r188.toInt64]) (rest := []) (n := 0) (o := 32) (D' := D_X9_digestOne) dX9_digest_192 hC (cl_0 (by decide)) rfl rfl rfl (mt_X9_digestOne h) gX9_digest_X9_digestOne rfl ⟨rfl, rfl, Nat.le_of_ble_eq_true rfl, Nat.le_of_ble_eq_true rfl⟩ nm_X9_digestOne rfl (Nat.le_of_ble_eq_true rfl) (kV fun w192 h => ?_)
    refine jq_iinc (k0 := 2) (v := (x2 + 1)) (L' := [(2, .int (x2 + 1)), (0, .ref (aD G 0 32)), (1, .int x1)]) dX9_digest_195 hC rfl rfl (by decide) rfl ?_
    refine jq_goto (tgt := 179) dX9_digest_198 hC (by decide) ?_
    exact jq_less (L' := [(0, .ref (aD G 0 32)), (1, .int x1), (2, .int (x2 + 1))]) [1, 2, 0] rfl (hK179 _ _ h)
theorem ok_X9_digest_L179 {G : Gt} {M : Mx} {Qf : State → Prop} {x1 : Int32} {x2 : Int32} {w : Wd} {Q : Int64 → Wd → Prop} {K137 : Int32 → Wd → Prop} (hC : cx G D_X9_digest M) (he : en G M (ql Q) Qf) (h : wp_X9_digest_L179 x1 x2 w Q K137) (hK137 : ∀ (x1 : Int32) (w : Wd), K137 x1 w → jq G D_X9_digest M Qf 137 [(0, .ref (aD G 0 32)), (1, .int x1)] [] w) : jq G D_X9_digest M Qf 179 [(0, .ref (aD G 0 32)), (1, .int x1), (2, .int x2)] [] w := by
  unfold wp_X9_digest_L179 at h
  obtain ⟨I, μ, h0, hs⟩ := h
  exact lp_ind (σ := Int32 × Wd) (P := fun s => jq G D_X9_digest M Qf 179 [(0, .ref (aD G 0 32)), (1, .int x1), (2, .int s.1)] [] s.2) (fun s => I s.1 s.2) (fun s => μ s.1 s.2) (fun s h1 ih => ok_X9_digest_B179 hC he (hs s.1 s.2 h1) hK137 (fun x2' w' h => ih (x2', w') h.1 h.2)) (x2, w) h0
theorem ok_X9_digest_B154 {G : Gt} {M : Mx} {Qf : State → Prop} {x1 : Int32} {x2 : Int32} {w : Wd} {Q : Int64 → Wd → Prop} {K137 : Int32 → Wd → Prop} {K154 : Int32 → Wd → Prop} (hC : cx G D_X9_digest M) (he : en G M (ql Q) Qf) (h : wp_X9_digest_B154 x1 x2 w Q K137 K154) (hK137 : ∀ (x1 : Int32) (w : Wd), K137 x1 w → jq G D_X9_digest M Qf 137 [(0, .ref (aD G 0 32)), (1, .int x1)] [] w) (hK154 : ∀ (x2 : Int32) (w : Wd), K154 x2 w → jq G D_X9_digest M Qf 154 [(0, .ref (aD G 0 32)), (1, .int x1), (2, .int x2)] [] w) : jq G D_X9_digest M Qf 154 [(0, .ref (aD G 0 32)), (1, .int x1), (2, .int x2)] [] w := by
  unfold wp_X9_digest_B154 at h
  refine jq_iload_n (k0 := 2) dX9_digest_154 hC rfl rfl ?_
  refine jq_bipush (v := (10 : Int32)) dX9_digest_155 hC (by decide) ?_
  refine jq_icmp_ge (tgt := 177) dX9_digest_157 hC (by decide) (fun c157 => ?_) (fun c157 => ?_)
  · have h := h.1 c157
    refine jq_iconst (v := (0 : Int32)) dX9_digest_177 hC (by decide) ?_
    refine jq_istore_n (L' := [(2, .int (0 : Int32)), (0, .ref (aD G 0 32)), (1, .int x1)]) dX9_digest_178 hC rfl (by decide) rfl ?_
    refine jq_less (L' := [(0, .ref (aD G 0 32)), (1, .int x1), (2, .int (0 : Int32))]) [1, 2, 0] rfl ?_
    exact ok_X9_digest_L179 hC he h hK137
  · have h := h.2 c157
    refine jq_aload_n (k0 := 0) dX9_digest_160 hC rfl rfl ?_
    refine jq_aload_n (k0 := 0) dX9_digest_161 hC rfl rfl ?_
    refine jq_iload_n (k0 := 1) dX9_digest_162 hC rfl rfl ?_
    refine jq_iload_n (k0 := 2) dX9_digest_163 hC rfl rfl ?_
    refine jq_callV (As := [.int x1, .int x2]) (rest := [.ref (aD G 0 32)]) (n := 0) (o := 32) (D' := D_X9_legOf) dX9_digest_164 hC (cl_0 (by decide)) rfl rfl rfl (mt_X9_legOf h) gX9_digest_X9_legOf rfl ⟨rfl, rfl, Nat.le_of_ble_eq_true rfl, Nat.le_of_ble_eq_true rfl⟩ nm_X9_legOf rfl (Nat.le_of_ble_eq_true rfl) (kIp fun r164 h => ?_)
    refine jq_i2l dX9_digest_167 hC ?_
    refine jq_callV (As := [.long r164.toInt64]) (rest := []) (n := 0) (o := 32) (D' := D_X9_digestOne) dX9_digest_168 hC (cl_0 (by decide)) rfl rfl rfl (mt_X9_digestOne h) gX9_digest_X9_digestOne rfl ⟨rfl, rfl, Nat.le_of_ble_eq_true rfl, Nat.le_of_ble_eq_true rfl⟩ nm_X9_digestOne rfl (Nat.le_of_ble_eq_true rfl) (kV fun w168 h => ?_)
    refine jq_iinc (k0 := 2) (v := (x2 + 1)) (L' := [(2, .int (x2 + 1)), (0, .ref (aD G 0 32)), (1, .int x1)]) dX9_digest_171 hC rfl rfl (by decide) rfl ?_
    refine jq_goto (tgt := 154) dX9_digest_174 hC (by decide) ?_
    exact jq_less (L' := [(0, .ref (aD G 0 32)), (1, .int x1), (2, .int (x2 + 1))]) [1, 2, 0] rfl (hK154 _ _ h)
theorem ok_X9_digest_L154 {G : Gt} {M : Mx} {Qf : State → Prop} {x1 : Int32} {x2 : Int32} {w : Wd} {Q : Int64 → Wd → Prop} {K137 : Int32 → Wd → Prop} (hC : cx G D_X9_digest M) (he : en G M (ql Q) Qf) (h : wp_X9_digest_L154 x1 x2 w Q K137) (hK137 : ∀ (x1 : Int32) (w : Wd), K137 x1 w → jq G D_X9_digest M Qf 137 [(0, .ref (aD G 0 32)), (1, .int x1)] [] w) : jq G D_X9_digest M Qf 154 [(0, .ref (aD G 0 32)), (1, .int x1), (2, .int x2)] [] w := by
  unfold wp_X9_digest_L154 at h
  obtain ⟨I, μ, h0, hs⟩ := h
  exact lp_ind (σ := Int32 × Wd) (P := fun s => jq G D_X9_digest M Qf 154 [(0, .ref (aD G 0 32)), (1, .int x1), (2, .int s.1)] [] s.2) (fun s => I s.1 s.2) (fun s => μ s.1 s.2) (fun s h1 ih => ok_X9_digest_B154 hC he (hs s.1 s.2 h1) hK137 (fun x2' w' h => ih (x2', w') h.1 h.2)) (x2, w) h0
theorem ok_X9_digest_B137 {G : Gt} {M : Mx} {Qf : State → Prop} {x1 : Int32} {w : Wd} {Q : Int64 → Wd → Prop} {K137 : Int32 → Wd → Prop} (hC : cx G D_X9_digest M) (he : en G M (ql Q) Qf) (h : wp_X9_digest_B137 x1 w Q K137) (hK137 : ∀ (x1 : Int32) (w : Wd), K137 x1 w → jq G D_X9_digest M Qf 137 [(0, .ref (aD G 0 32)), (1, .int x1)] [] w) : jq G D_X9_digest M Qf 137 [(0, .ref (aD G 0 32)), (1, .int x1)] [] w := by
  unfold wp_X9_digest_B137 at h
  refine jq_iload_n (k0 := 1) dX9_digest_137 hC rfl rfl ?_
  refine jq_aload_n (k0 := 0) dX9_digest_138 hC rfl rfl ?_
  refine jq_get (k0 := 1) (n := 0) (o := 32) dX9_digest_139 hC (cl_0 (by decide)) rfl rfl hi_X9_digest_X9 (by decide) hl_X9_digest_7 rfl rfl ?_
  refine jq_bipush (v := (11 : Int32)) dX9_digest_142 hC (by decide) ?_
  refine jq_iald (n := 0) (o := 33) (j := 11) dX9_digest_144 hC (cl_0 (by decide)) rfl (vin (by decide)) (by decide) ?_
  refine jq_icmp_ge (tgt := 217) dX9_digest_145 hC (by decide) (fun c145 => ?_) (fun c145 => ?_)
  · have h := h.1 c145
    refine jq_aload_n (k0 := 0) dX9_digest_217 hC rfl rfl ?_
    refine jq_callV (As := []) (rest := []) (n := 0) (o := 32) (D' := D_X9_layAll) dX9_digest_218 hC (cl_0 (by decide)) rfl rfl rfl (mt_X9_layAll h) gX9_digest_X9_layAll rfl ⟨rfl, rfl, Nat.le_of_ble_eq_true rfl, Nat.le_of_ble_eq_true rfl⟩ nm_X9_layAll rfl (Nat.le_of_ble_eq_true rfl) (kV fun w218 h => ?_)
    refine jq_iconst (v := (0 : Int32)) dX9_digest_221 hC (by decide) ?_
    refine jq_istore_n (L' := [(1, .int (0 : Int32)), (0, .ref (aD G 0 32))]) dX9_digest_222 hC rfl (by decide) rfl ?_
    refine jq_less (L' := [(0, .ref (aD G 0 32)), (1, .int (0 : Int32))]) [1, 0] rfl ?_
    exact ok_X9_digest_L223 hC he h
  · have h := h.2 c145
    refine jq_aload_n (k0 := 0) dX9_digest_148 hC rfl rfl ?_
    refine jq_callV (As := []) (rest := []) (n := 0) (o := 32) (D' := D_X9_layOut) dX9_digest_149 hC (cl_0 (by decide)) rfl rfl rfl (mt_X9_layOut h) gX9_digest_X9_layOut rfl ⟨rfl, rfl, Nat.le_of_ble_eq_true rfl, Nat.le_of_ble_eq_true rfl⟩ nm_X9_layOut rfl (Nat.le_of_ble_eq_true rfl) (kV fun w149 h => ?_)
    refine jq_iconst (v := (0 : Int32)) dX9_digest_152 hC (by decide) ?_
    refine jq_istore_n (L' := [(2, .int (0 : Int32)), (0, .ref (aD G 0 32)), (1, .int x1)]) dX9_digest_153 hC rfl (by decide) rfl ?_
    refine jq_less (L' := [(0, .ref (aD G 0 32)), (1, .int x1), (2, .int (0 : Int32))]) [1, 2, 0] rfl ?_
    exact ok_X9_digest_L154 hC he h hK137
theorem ok_X9_digest_L137 {G : Gt} {M : Mx} {Qf : State → Prop} {x1 : Int32} {w : Wd} {Q : Int64 → Wd → Prop} (hC : cx G D_X9_digest M) (he : en G M (ql Q) Qf) (h : wp_X9_digest_L137 x1 w Q) : jq G D_X9_digest M Qf 137 [(0, .ref (aD G 0 32)), (1, .int x1)] [] w := by
  unfold wp_X9_digest_L137 at h
  obtain ⟨I, μ, h0, hs⟩ := h
  exact lp_ind (σ := Int32 × Wd) (P := fun s => jq G D_X9_digest M Qf 137 [(0, .ref (aD G 0 32)), (1, .int s.1)] [] s.2) (fun s => I s.1 s.2) (fun s => μ s.1 s.2) (fun s h1 ih => ok_X9_digest_B137 hC he (hs s.1 s.2 h1) (fun x1' w' h => ih (x1', w') h.1 h.2)) (x1, w) h0
theorem ok_X9_digest_B106 {G : Gt} {M : Mx} {Qf : State → Prop} {x1 : Int32} {x2 : Int32} {w : Wd} {Q : Int64 → Wd → Prop} {K69 : Int32 → Wd → Prop} {K106 : Int32 → Wd → Prop} (hC : cx G D_X9_digest M) (he : en G M (ql Q) Qf) (h : wp_X9_digest_B106 x1 x2 w Q K69 K106) (hK69 : ∀ (x1 : Int32) (w : Wd), K69 x1 w → jq G D_X9_digest M Qf 69 [(0, .ref (aD G 0 32)), (1, .int x1)] [] w) (hK106 : ∀ (x2 : Int32) (w : Wd), K106 x2 w → jq G D_X9_digest M Qf 106 [(0, .ref (aD G 0 32)), (1, .int x1), (2, .int x2)] [] w) : jq G D_X9_digest M Qf 106 [(0, .ref (aD G 0 32)), (1, .int x1), (2, .int x2)] [] w := by
  unfold wp_X9_digest_B106 at h
  refine jq_iload_n (k0 := 2) dX9_digest_106 hC rfl rfl ?_
  refine jq_iconst (v := (4 : Int32)) dX9_digest_107 hC (by decide) ?_
  refine jq_icmp_ge (tgt := 129) dX9_digest_108 hC (by decide) (fun c108 => ?_) (fun c108 => ?_)
  · have h := h.1 c108
    refine jq_iinc (k0 := 1) (v := (x1 + 1)) (L' := [(1, .int (x1 + 1)), (0, .ref (aD G 0 32)), (2, .int x2)]) dX9_digest_129 hC rfl rfl (by decide) rfl ?_
    refine jq_goto (tgt := 69) dX9_digest_132 hC (by decide) ?_
    exact jq_less (L' := [(0, .ref (aD G 0 32)), (1, .int (x1 + 1))]) [1, 0] rfl (hK69 _ _ h)
  · have h := h.2 c108
    refine jq_aload_n (k0 := 0) dX9_digest_111 hC rfl rfl ?_
    refine jq_aload_n (k0 := 0) dX9_digest_112 hC rfl rfl ?_
    refine jq_iconst (v := (0 : Int32)) dX9_digest_113 hC (by decide) ?_
    refine jq_iload_n (k0 := 1) dX9_digest_114 hC rfl rfl ?_
    refine jq_iload_n (k0 := 2) dX9_digest_115 hC rfl rfl ?_
    refine jq_callV (As := [.int (0 : Int32), .int x1, .int x2]) (rest := [.ref (aD G 0 32)]) (n := 0) (o := 32) (D' := D_X9_wayOf) dX9_digest_116 hC (cl_0 (by decide)) rfl rfl rfl (mt_X9_wayOf h) gX9_digest_X9_wayOf rfl ⟨rfl, rfl, Nat.le_of_ble_eq_true rfl, Nat.le_of_ble_eq_true rfl⟩ nm_X9_wayOf rfl (Nat.le_of_ble_eq_true rfl) (kI fun r116 w116 h => ?_)
    refine jq_i2l dX9_digest_119 hC ?_
    refine jq_callV (As := [.long r116.toInt64]) (rest := []) (n := 0) (o := 32) (D' := D_X9_digestOne) dX9_digest_120 hC (cl_0 (by decide)) rfl rfl rfl (mt_X9_digestOne h) gX9_digest_X9_digestOne rfl ⟨rfl, rfl, Nat.le_of_ble_eq_true rfl, Nat.le_of_ble_eq_true rfl⟩ nm_X9_digestOne rfl (Nat.le_of_ble_eq_true rfl) (kV fun w120 h => ?_)
    refine jq_iinc (k0 := 2) (v := (x2 + 1)) (L' := [(2, .int (x2 + 1)), (0, .ref (aD G 0 32)), (1, .int x1)]) dX9_digest_123 hC rfl rfl (by decide) rfl ?_
    refine jq_goto (tgt := 106) dX9_digest_126 hC (by decide) ?_
    exact jq_less (L' := [(0, .ref (aD G 0 32)), (1, .int x1), (2, .int (x2 + 1))]) [1, 2, 0] rfl (hK106 _ _ h)
theorem ok_X9_digest_L106 {G : Gt} {M : Mx} {Qf : State → Prop} {x1 : Int32} {x2 : Int32} {w : Wd} {Q : Int64 → Wd → Prop} {K69 : Int32 → Wd → Prop} (hC : cx G D_X9_digest M) (he : en G M (ql Q) Qf) (h : wp_X9_digest_L106 x1 x2 w Q K69) (hK69 : ∀ (x1 : Int32) (w : Wd), K69 x1 w → jq G D_X9_digest M Qf 69 [(0, .ref (aD G 0 32)), (1, .int x1)] [] w) : jq G D_X9_digest M Qf 106 [(0, .ref (aD G 0 32)), (1, .int x1), (2, .int x2)] [] w := by
  unfold wp_X9_digest_L106 at h
  obtain ⟨I, μ, h0, hs⟩ := h
  exact lp_ind (σ := Int32 × Wd) (P := fun s => jq G D_X9_digest M Qf 106 [(0, .ref (aD G 0 32)), (1, .int x1), (2, .int s.1)] [] s.2) (fun s => I s.1 s.2) (fun s => μ s.1 s.2) (fun s h1 ih => ok_X9_digest_B106 hC he (hs s.1 s.2 h1) hK69 (fun x2' w' h => ih (x2', w') h.1 h.2)) (x2, w) h0
theorem ok_X9_digest_B81 {G : Gt} {M : Mx} {Qf : State → Prop} {x1 : Int32} {x2 : Int32} {w : Wd} {Q : Int64 → Wd → Prop} {K69 : Int32 → Wd → Prop} {K81 : Int32 → Wd → Prop} (hC : cx G D_X9_digest M) (he : en G M (ql Q) Qf) (h : wp_X9_digest_B81 x1 x2 w Q K69 K81) (hK69 : ∀ (x1 : Int32) (w : Wd), K69 x1 w → jq G D_X9_digest M Qf 69 [(0, .ref (aD G 0 32)), (1, .int x1)] [] w) (hK81 : ∀ (x2 : Int32) (w : Wd), K81 x2 w → jq G D_X9_digest M Qf 81 [(0, .ref (aD G 0 32)), (1, .int x1), (2, .int x2)] [] w) : jq G D_X9_digest M Qf 81 [(0, .ref (aD G 0 32)), (1, .int x1), (2, .int x2)] [] w := by
  unfold wp_X9_digest_B81 at h
  refine jq_iload_n (k0 := 2) dX9_digest_81 hC rfl rfl ?_
  refine jq_bipush (v := (7 : Int32)) dX9_digest_82 hC (by decide) ?_
  refine jq_icmp_ge (tgt := 104) dX9_digest_84 hC (by decide) (fun c84 => ?_) (fun c84 => ?_)
  · have h := h.1 c84
    refine jq_iconst (v := (0 : Int32)) dX9_digest_104 hC (by decide) ?_
    refine jq_istore_n (L' := [(2, .int (0 : Int32)), (0, .ref (aD G 0 32)), (1, .int x1)]) dX9_digest_105 hC rfl (by decide) rfl ?_
    refine jq_less (L' := [(0, .ref (aD G 0 32)), (1, .int x1), (2, .int (0 : Int32))]) [1, 2, 0] rfl ?_
    exact ok_X9_digest_L106 hC he h hK69
  · have h := h.2 c84
    refine jq_aload_n (k0 := 0) dX9_digest_87 hC rfl rfl ?_
    refine jq_aload_n (k0 := 0) dX9_digest_88 hC rfl rfl ?_
    refine jq_iload_n (k0 := 1) dX9_digest_89 hC rfl rfl ?_
    refine jq_iload_n (k0 := 2) dX9_digest_90 hC rfl rfl ?_
    refine jq_callV (As := [.int x1, .int x2]) (rest := [.ref (aD G 0 32)]) (n := 0) (o := 32) (D' := D_X9_markOf) dX9_digest_91 hC (cl_0 (by decide)) rfl rfl rfl (mt_X9_markOf h) gX9_digest_X9_markOf rfl ⟨rfl, rfl, Nat.le_of_ble_eq_true rfl, Nat.le_of_ble_eq_true rfl⟩ nm_X9_markOf rfl (Nat.le_of_ble_eq_true rfl) (kI fun r91 w91 h => ?_)
    refine jq_i2l dX9_digest_94 hC ?_
    refine jq_callV (As := [.long r91.toInt64]) (rest := []) (n := 0) (o := 32) (D' := D_X9_digestOne) dX9_digest_95 hC (cl_0 (by decide)) rfl rfl rfl (mt_X9_digestOne h) gX9_digest_X9_digestOne rfl ⟨rfl, rfl, Nat.le_of_ble_eq_true rfl, Nat.le_of_ble_eq_true rfl⟩ nm_X9_digestOne rfl (Nat.le_of_ble_eq_true rfl) (kV fun w95 h => ?_)
    refine jq_iinc (k0 := 2) (v := (x2 + 1)) (L' := [(2, .int (x2 + 1)), (0, .ref (aD G 0 32)), (1, .int x1)]) dX9_digest_98 hC rfl rfl (by decide) rfl ?_
    refine jq_goto (tgt := 81) dX9_digest_101 hC (by decide) ?_
    exact jq_less (L' := [(0, .ref (aD G 0 32)), (1, .int x1), (2, .int (x2 + 1))]) [1, 2, 0] rfl (hK81 _ _ h)
theorem ok_X9_digest_L81 {G : Gt} {M : Mx} {Qf : State → Prop} {x1 : Int32} {x2 : Int32} {w : Wd} {Q : Int64 → Wd → Prop} {K69 : Int32 → Wd → Prop} (hC : cx G D_X9_digest M) (he : en G M (ql Q) Qf) (h : wp_X9_digest_L81 x1 x2 w Q K69) (hK69 : ∀ (x1 : Int32) (w : Wd), K69 x1 w → jq G D_X9_digest M Qf 69 [(0, .ref (aD G 0 32)), (1, .int x1)] [] w) : jq G D_X9_digest M Qf 81 [(0, .ref (aD G 0 32)), (1, .int x1), (2, .int x2)] [] w := by
  unfold wp_X9_digest_L81 at h
  obtain ⟨I, μ, h0, hs⟩ := h
  exact lp_ind (σ := Int32 × Wd) (P := fun s => jq G D_X9_digest M Qf 81 [(0, .ref (aD G 0 32)), (1, .int x1), (2, .int s.1)] [] s.2) (fun s => I s.1 s.2) (fun s => μ s.1 s.2) (fun s h1 ih => ok_X9_digest_B81 hC he (hs s.1 s.2 h1) hK69 (fun x2' w' h => ih (x2', w') h.1 h.2)) (x2, w) h0
theorem ok_X9_digest_B69 {G : Gt} {M : Mx} {Qf : State → Prop} {x1 : Int32} {w : Wd} {Q : Int64 → Wd → Prop} {K69 : Int32 → Wd → Prop} (hC : cx G D_X9_digest M) (he : en G M (ql Q) Qf) (h : wp_X9_digest_B69 x1 w Q K69) (hK69 : ∀ (x1 : Int32) (w : Wd), K69 x1 w → jq G D_X9_digest M Qf 69 [(0, .ref (aD G 0 32)), (1, .int x1)] [] w) : jq G D_X9_digest M Qf 69 [(0, .ref (aD G 0 32)), (1, .int x1)] [] w := by
  unfold wp_X9_digest_B69 at h
  refine jq_iload_n (k0 := 1) dX9_digest_69 hC rfl rfl ?_
  refine jq_aload_n (k0 := 0) dX9_digest_70 hC rfl rfl ?_
  refine jq_get (k0 := 1) (n := 0) (o := 32) dX9_digest_71 hC (cl_0 (by decide)) rfl rfl hi_X9_digest_X9 (by decide) hl_X9_digest_7 rfl rfl ?_
  refine jq_iconst (v := (0 : Int32)) dX9_digest_74 hC (by decide) ?_
  refine jq_iald (n := 0) (o := 33) (j := 0) dX9_digest_75 hC (cl_0 (by decide)) rfl (vin (by decide)) (by decide) ?_
  refine jq_icmp_ge (tgt := 135) dX9_digest_76 hC (by decide) (fun c76 => ?_) (fun c76 => ?_)
  · have h := h.1 c76
    refine jq_iconst (v := (0 : Int32)) dX9_digest_135 hC (by decide) ?_
    refine jq_istore_n (L' := [(1, .int (0 : Int32)), (0, .ref (aD G 0 32))]) dX9_digest_136 hC rfl (by decide) rfl ?_
    refine jq_less (L' := [(0, .ref (aD G 0 32)), (1, .int (0 : Int32))]) [1, 0] rfl ?_
    exact ok_X9_digest_L137 hC he h
  · have h := h.2 c76
    refine jq_iconst (v := (0 : Int32)) dX9_digest_79 hC (by decide) ?_
    refine jq_istore_n (L' := [(2, .int (0 : Int32)), (0, .ref (aD G 0 32)), (1, .int x1)]) dX9_digest_80 hC rfl (by decide) rfl ?_
    refine jq_less (L' := [(0, .ref (aD G 0 32)), (1, .int x1), (2, .int (0 : Int32))]) [1, 2, 0] rfl ?_
    exact ok_X9_digest_L81 hC he h hK69
theorem ok_X9_digest_L69 {G : Gt} {M : Mx} {Qf : State → Prop} {x1 : Int32} {w : Wd} {Q : Int64 → Wd → Prop} (hC : cx G D_X9_digest M) (he : en G M (ql Q) Qf) (h : wp_X9_digest_L69 x1 w Q) : jq G D_X9_digest M Qf 69 [(0, .ref (aD G 0 32)), (1, .int x1)] [] w := by
  unfold wp_X9_digest_L69 at h
  obtain ⟨I, μ, h0, hs⟩ := h
  exact lp_ind (σ := Int32 × Wd) (P := fun s => jq G D_X9_digest M Qf 69 [(0, .ref (aD G 0 32)), (1, .int s.1)] [] s.2) (fun s => I s.1 s.2) (fun s => μ s.1 s.2) (fun s h1 ih => ok_X9_digest_B69 hC he (hs s.1 s.2 h1) (fun x1' w' h => ih (x1', w') h.1 h.2)) (x1, w) h0
theorem ok_X9_digest_B42 {G : Gt} {M : Mx} {Qf : State → Prop} {x1 : Int32} {w : Wd} {Q : Int64 → Wd → Prop} {K42 : Int32 → Wd → Prop} (hC : cx G D_X9_digest M) (he : en G M (ql Q) Qf) (h : wp_X9_digest_B42 x1 w Q K42) (hK42 : ∀ (x1 : Int32) (w : Wd), K42 x1 w → jq G D_X9_digest M Qf 42 [(0, .ref (aD G 0 32)), (1, .int x1)] [] w) : jq G D_X9_digest M Qf 42 [(0, .ref (aD G 0 32)), (1, .int x1)] [] w := by
  unfold wp_X9_digest_B42 at h
  refine jq_iload_n (k0 := 1) dX9_digest_42 hC rfl rfl ?_
  refine jq_iconst (v := (3 : Int32)) dX9_digest_43 hC (by decide) ?_
  refine jq_icmp_ge (tgt := 67) dX9_digest_44 hC (by decide) (fun c44 => ?_) (fun c44 => ?_)
  · have h := h.1 c44
    refine jq_iconst (v := (0 : Int32)) dX9_digest_67 hC (by decide) ?_
    refine jq_istore_n (L' := [(1, .int (0 : Int32)), (0, .ref (aD G 0 32))]) dX9_digest_68 hC rfl (by decide) rfl ?_
    refine jq_less (L' := [(0, .ref (aD G 0 32)), (1, .int (0 : Int32))]) [1, 0] rfl ?_
    exact ok_X9_digest_L69 hC he h
  · have h := h.2 c44
    refine jq_aload_n (k0 := 0) dX9_digest_47 hC rfl rfl ?_
    refine jq_aload_n (k0 := 0) dX9_digest_48 hC rfl rfl ?_
    refine jq_get (k0 := 1) (n := 0) (o := 32) dX9_digest_49 hC (cl_0 (by decide)) rfl rfl hi_X9_digest_X9 (by decide) hl_X9_digest_7 rfl rfl ?_
    refine jq_bipush (v := (92 : Int32)) dX9_digest_52 hC (by decide) ?_
    refine jq_iload_n (k0 := 1) dX9_digest_54 hC rfl rfl ?_
    refine jq_iadd dX9_digest_55 hC ?_
    obtain ⟨b56, h⟩ := h
    refine jq_iald (n := 0) (o := 33) (j := ((92 : Int32) + x1).toNatClampNeg) dX9_digest_56 hC (cl_0 (by decide)) rfl b56 rfl ?_
    refine jq_i2l dX9_digest_57 hC ?_
    refine jq_callV (As := [.long ((wi w 0 33 ((92 : Int32) + x1).toNatClampNeg).toInt64)]) (rest := []) (n := 0) (o := 32) (D' := D_X9_digestOne) dX9_digest_58 hC (cl_0 (by decide)) rfl rfl rfl (mt_X9_digestOne h) gX9_digest_X9_digestOne rfl ⟨rfl, rfl, Nat.le_of_ble_eq_true rfl, Nat.le_of_ble_eq_true rfl⟩ nm_X9_digestOne rfl (Nat.le_of_ble_eq_true rfl) (kV fun w58 h => ?_)
    refine jq_iinc (k0 := 1) (v := (x1 + 1)) (L' := [(1, .int (x1 + 1)), (0, .ref (aD G 0 32))]) dX9_digest_61 hC rfl rfl (by decide) rfl ?_
    refine jq_goto (tgt := 42) dX9_digest_64 hC (by decide) ?_
    exact jq_less (L' := [(0, .ref (aD G 0 32)), (1, .int (x1 + 1))]) [1, 0] rfl (hK42 _ _ h)
theorem ok_X9_digest_L42 {G : Gt} {M : Mx} {Qf : State → Prop} {x1 : Int32} {w : Wd} {Q : Int64 → Wd → Prop} (hC : cx G D_X9_digest M) (he : en G M (ql Q) Qf) (h : wp_X9_digest_L42 x1 w Q) : jq G D_X9_digest M Qf 42 [(0, .ref (aD G 0 32)), (1, .int x1)] [] w := by
  unfold wp_X9_digest_L42 at h
  obtain ⟨I, μ, h0, hs⟩ := h
  exact lp_ind (σ := Int32 × Wd) (P := fun s => jq G D_X9_digest M Qf 42 [(0, .ref (aD G 0 32)), (1, .int s.1)] [] s.2) (fun s => I s.1 s.2) (fun s => μ s.1 s.2) (fun s h1 ih => ok_X9_digest_B42 hC he (hs s.1 s.2 h1) (fun x1' w' h => ih (x1', w') h.1 h.2)) (x1, w) h0
theorem ok_X9_digest_B18 {G : Gt} {M : Mx} {Qf : State → Prop} {x1 : Int32} {w : Wd} {Q : Int64 → Wd → Prop} {K18 : Int32 → Wd → Prop} (hC : cx G D_X9_digest M) (he : en G M (ql Q) Qf) (h : wp_X9_digest_B18 x1 w Q K18) (hK18 : ∀ (x1 : Int32) (w : Wd), K18 x1 w → jq G D_X9_digest M Qf 18 [(0, .ref (aD G 0 32)), (1, .int x1)] [] w) : jq G D_X9_digest M Qf 18 [(0, .ref (aD G 0 32)), (1, .int x1)] [] w := by
  unfold wp_X9_digest_B18 at h
  refine jq_iload_n (k0 := 1) dX9_digest_18 hC rfl rfl ?_
  refine jq_bipush (v := (11 : Int32)) dX9_digest_19 hC (by decide) ?_
  refine jq_icmp_ge (tgt := 40) dX9_digest_21 hC (by decide) (fun c21 => ?_) (fun c21 => ?_)
  · have h := h.1 c21
    refine jq_iconst (v := (0 : Int32)) dX9_digest_40 hC (by decide) ?_
    refine jq_istore_n (L' := [(1, .int (0 : Int32)), (0, .ref (aD G 0 32))]) dX9_digest_41 hC rfl (by decide) rfl ?_
    refine jq_less (L' := [(0, .ref (aD G 0 32)), (1, .int (0 : Int32))]) [1, 0] rfl ?_
    exact ok_X9_digest_L42 hC he h
  · have h := h.2 c21
    refine jq_aload_n (k0 := 0) dX9_digest_24 hC rfl rfl ?_
    refine jq_aload_n (k0 := 0) dX9_digest_25 hC rfl rfl ?_
    refine jq_iload_n (k0 := 1) dX9_digest_26 hC rfl rfl ?_
    refine jq_callV (As := [.int x1]) (rest := [.ref (aD G 0 32)]) (n := 0) (o := 32) (D' := D_X9_counted) dX9_digest_27 hC (cl_0 (by decide)) rfl rfl rfl (mt_X9_counted h) gX9_digest_X9_counted rfl ⟨rfl, rfl, Nat.le_of_ble_eq_true rfl, Nat.le_of_ble_eq_true rfl⟩ nm_X9_counted rfl (Nat.le_of_ble_eq_true rfl) (kIp fun r27 h => ?_)
    refine jq_i2l dX9_digest_30 hC ?_
    refine jq_callV (As := [.long r27.toInt64]) (rest := []) (n := 0) (o := 32) (D' := D_X9_digestOne) dX9_digest_31 hC (cl_0 (by decide)) rfl rfl rfl (mt_X9_digestOne h) gX9_digest_X9_digestOne rfl ⟨rfl, rfl, Nat.le_of_ble_eq_true rfl, Nat.le_of_ble_eq_true rfl⟩ nm_X9_digestOne rfl (Nat.le_of_ble_eq_true rfl) (kV fun w31 h => ?_)
    refine jq_iinc (k0 := 1) (v := (x1 + 1)) (L' := [(1, .int (x1 + 1)), (0, .ref (aD G 0 32))]) dX9_digest_34 hC rfl rfl (by decide) rfl ?_
    refine jq_goto (tgt := 18) dX9_digest_37 hC (by decide) ?_
    exact jq_less (L' := [(0, .ref (aD G 0 32)), (1, .int (x1 + 1))]) [1, 0] rfl (hK18 _ _ h)
theorem ok_X9_digest_L18 {G : Gt} {M : Mx} {Qf : State → Prop} {x1 : Int32} {w : Wd} {Q : Int64 → Wd → Prop} (hC : cx G D_X9_digest M) (he : en G M (ql Q) Qf) (h : wp_X9_digest_L18 x1 w Q) : jq G D_X9_digest M Qf 18 [(0, .ref (aD G 0 32)), (1, .int x1)] [] w := by
  unfold wp_X9_digest_L18 at h
  obtain ⟨I, μ, h0, hs⟩ := h
  exact lp_ind (σ := Int32 × Wd) (P := fun s => jq G D_X9_digest M Qf 18 [(0, .ref (aD G 0 32)), (1, .int s.1)] [] s.2) (fun s => I s.1 s.2) (fun s => μ s.1 s.2) (fun s h1 ih => ok_X9_digest_B18 hC he (hs s.1 s.2 h1) (fun x1' w' h => ih (x1', w') h.1 h.2)) (x1, w) h0
theorem ok_X9_digest {G : Gt} {M : Mx} {Qf : State → Prop} {w : Wd} {Q : Int64 → Wd → Prop} (hC : cx G D_X9_digest M) (he : en G M (ql Q) Qf) (h : wp_X9_digest w Q) : jq G D_X9_digest M Qf 0 [(0, .ref (aD G 0 32))] [] w := by
  unfold wp_X9_digest at h
  refine jq_aload_n (k0 := 0) dX9_digest_0 hC rfl rfl ?_
  refine jq_iconst (v := (0 : Int32)) dX9_digest_1 hC (by decide) ?_
  refine jq_put (k0 := 0) (n := 0) (o := 32) (ty := .int) (w' := (sI w 0 32 0 (0 : Int32))) dX9_digest_2 hC (cl_0 (by decide)) rfl rfl hi_X9_digest_X9 tyX9 tyX9_ok nmX9 (by decide) hl_X9_digest_65 rfl rfl (by decide +kernel) rfl rfl (Nat.le_of_ble_eq_true rfl) (e_32_0 G _ _ _) (fun c _ hne => ent_sA c hne) ?_
  refine jq_w (fun w2 e2 => ?_)
  have h := h w2 e2
  refine jq_aload_n (k0 := 0) dX9_digest_5 hC rfl rfl ?_
  refine jq_callV (As := []) (rest := []) (n := 0) (o := 32) (D' := D_X9_layAll) dX9_digest_6 hC (cl_0 (by decide)) rfl rfl rfl (mt_X9_layAll h) gX9_digest_X9_layAll rfl ⟨rfl, rfl, Nat.le_of_ble_eq_true rfl, Nat.le_of_ble_eq_true rfl⟩ nm_X9_layAll rfl (Nat.le_of_ble_eq_true rfl) (kV fun w6 h => ?_)
  refine jq_aload_n (k0 := 0) dX9_digest_9 hC rfl rfl ?_
  refine jq_ldc2 (v := (2741 : Int64)) dX9_digest_10 hC (by decide +kernel) ?_
  refine jq_put (k0 := 24) (n := 0) (o := 32) (ty := .long) (w' := (sL w6 0 (2741 : Int64))) dX9_digest_13 hC (cl_0 (by decide)) rfl rfl hi_X9_digest_X9 tyX9 tyX9_ok nmX9 (by decide) hl_X9_digest_300 rfl rfl (by decide +kernel) rfl rfl (Nat.le_of_ble_eq_true rfl) (e_32_24 G _ _ _) (fun c hc hne => ent_L0 c hne hc) ?_
  refine jq_w (fun w13 e13 => ?_)
  have h := h w13 e13
  refine jq_iconst (v := (0 : Int32)) dX9_digest_16 hC (by decide) ?_
  refine jq_istore_n (L' := [(1, .int (0 : Int32)), (0, .ref (aD G 0 32))]) dX9_digest_17 hC rfl (by decide) rfl ?_
  refine jq_less (L' := [(0, .ref (aD G 0 32)), (1, .int (0 : Int32))]) [1, 0] rfl ?_
  exact ok_X9_digest_L18 hC he h
theorem mt_X9_digest {G : Gt} {w : Wd} {Q : Int64 → Wd → Prop} (h : wp_X9_digest w Q) : Mt G D_X9_digest [.ref (aD G 0 32)] w (ql Q) := Mt_of (by decide +kernel) rfl rfl (Nat.le_of_ble_eq_true rfl) (fun M Qf hC he => ok_X9_digest hC he h)
