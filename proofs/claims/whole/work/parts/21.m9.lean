/-! X9.isBad(I)Z -/
theorem dX9_isBad_0 : decode cX9_isBad 0 = .ok (.aload_n 0, 1) := by decide +kernel
theorem dX9_isBad_1 : decode cX9_isBad 1 = .ok (.iload_n 1, 1) := by decide +kernel
theorem dX9_isBad_2 : decode cX9_isBad 2 = .ok (.invokevirtual 113, 3) := by decide +kernel
theorem dX9_isBad_5 : decode cX9_isBad 5 = .ok (.invokestatic 107, 3) := by decide +kernel
theorem dX9_isBad_8 : decode cX9_isBad 8 = .ok (.aload_n 0, 1) := by decide +kernel
theorem dX9_isBad_9 : decode cX9_isBad 9 = .ok (.iload_n 1, 1) := by decide +kernel
theorem dX9_isBad_10 : decode cX9_isBad 10 = .ok (.invokevirtual 116, 3) := by decide +kernel
theorem dX9_isBad_13 : decode cX9_isBad 13 = .ok (.if_icmp .le 7, 3) := by decide +kernel
theorem dX9_isBad_16 : decode cX9_isBad 16 = .ok (.iconst 1, 1) := by decide +kernel
theorem dX9_isBad_17 : decode cX9_isBad 17 = .ok (.goto 4, 3) := by decide +kernel
theorem dX9_isBad_20 : decode cX9_isBad 20 = .ok (.iconst 0, 1) := by decide +kernel
theorem dX9_isBad_21 : decode cX9_isBad 21 = .ok (.ireturn, 1) := by decide +kernel
set_option maxRecDepth 20000 in
theorem ggX9_isBad_X9_allowed : GoodIn wsX9_isBad wsX9_allowed := goodIn_r _ [21, 6, 22, 23, 24, 4, 25, 7, 8, 9, 10, 11, 15, 16, 17, 12, 13, 14, 26, 27, 28, 29, 30, 31, 32, 33, 34, 35, 36, 37, 38, 39, 40, 41, 42, 43, 44, 45, 46, 47, 48, 49, 50] (by decide +kernel) (by decide +kernel)
set_option maxRecDepth 20000 in
theorem gX9_isBad_X9_allowed : GoodIn wsX9_isBad (wsV RX9 116 RX9 yX9_allowed wsX9_allowed) := goodIn_app (goodIn_of _ (by decide +kernel)) ggX9_isBad_X9_allowed
set_option maxRecDepth 20000 in
theorem ggX9_isBad_X9_size : GoodIn wsX9_isBad wsX9_size := goodIn_r _ [17] (by decide +kernel) (by decide +kernel)
set_option maxRecDepth 20000 in
theorem gX9_isBad_X9_size : GoodIn wsX9_isBad (va_wsS RX9 107 yX9_size wsX9_size) := goodIn_app (goodIn_of _ (by decide +kernel)) ggX9_isBad_X9_size
set_option maxRecDepth 20000 in
theorem ggX9_isBad_X9_missOf : GoodIn wsX9_isBad wsX9_missOf := goodIn_r _ [5, 6, 7, 8, 9, 4, 10, 11, 12, 13, 14, 26, 27, 28, 29, 30, 31, 32, 33, 34, 35, 36, 37, 38, 39, 40, 41, 42, 43, 44, 45, 46, 47, 48, 49, 50] (by decide +kernel) (by decide +kernel)
set_option maxRecDepth 20000 in
theorem gX9_isBad_X9_missOf : GoodIn wsX9_isBad (wsV RX9 113 RX9 yX9_missOf wsX9_missOf) := goodIn_app (goodIn_of _ (by decide +kernel)) ggX9_isBad_X9_missOf
def D_X9_isBad : Md := (yX9_isBad, cX9_isBad, 2, (some .boolean), wsX9_isBad, RX9, { frames := 3, cells := 0, slots := 0, locals := 66 })
theorem nm_X9_isBad : nmD D_X9_isBad 1 := ⟨rfl, by decide +kernel, by decide +kernel, by decide +kernel⟩
def wp_X9_isBad (x1 : Int32) (w : Wd) (Q : Int32 → Prop) : Prop :=
  wp_X9_missOf x1 w (fun r2 => wp_X9_size r2 (fun r5 => wp_X9_allowed x1 w (fun r10 => ((r5 ≤ r10 → zb (0 : Int32) ∧ Q (0 : Int32)) ∧ (¬ r5 ≤ r10 → zb (1 : Int32) ∧ Q (1 : Int32))))))
theorem ok_X9_isBad {G : Gt} {M : Mx} {Qf : State → Prop} {x1 : Int32} {w : Wd} {Q : Int32 → Prop} (hC : cx G D_X9_isBad M) (he : en G M (qip w Q) Qf) (h : wp_X9_isBad x1 w Q) : jq G D_X9_isBad M Qf 0 [(0, .ref (aD G 0 32)), (1, .int x1)] [] w := by
  unfold wp_X9_isBad at h
  refine jq_aload_n (k0 := 0) dX9_isBad_0 hC rfl rfl ?_
  refine jq_iload_n (k0 := 1) dX9_isBad_1 hC rfl rfl ?_
  refine jq_callV (As := [.int x1]) (rest := []) (n := 0) (o := 32) (D' := D_X9_missOf) dX9_isBad_2 hC (cl_0 (by decide)) rfl rfl rfl (mt_X9_missOf h) gX9_isBad_X9_missOf rfl ⟨rfl, rfl, Nat.le_of_ble_eq_true rfl, Nat.le_of_ble_eq_true rfl⟩ nm_X9_missOf rfl (Nat.le_of_ble_eq_true rfl) (kIp fun r2 h => ?_)
  refine jq_callS (As := [.int r2]) (rest := []) (D' := D_X9_size) dX9_isBad_5 hC (mt_X9_size h) gX9_isBad_X9_size rfl ⟨rfl, rfl, Nat.le_of_ble_eq_true rfl, Nat.le_of_ble_eq_true rfl⟩ nm_X9_size rfl (Nat.le_of_ble_eq_true rfl) (kIp fun r5 h => ?_)
  refine jq_aload_n (k0 := 0) dX9_isBad_8 hC rfl rfl ?_
  refine jq_iload_n (k0 := 1) dX9_isBad_9 hC rfl rfl ?_
  refine jq_callV (As := [.int x1]) (rest := [.int r5]) (n := 0) (o := 32) (D' := D_X9_allowed) dX9_isBad_10 hC (cl_0 (by decide)) rfl rfl rfl (mt_X9_allowed h) gX9_isBad_X9_allowed rfl ⟨rfl, rfl, Nat.le_of_ble_eq_true rfl, Nat.le_of_ble_eq_true rfl⟩ nm_X9_allowed rfl (Nat.le_of_ble_eq_true rfl) (kIp fun r10 h => ?_)
  refine jq_icmp_le (tgt := 20) dX9_isBad_13 hC (by decide) (fun c13 => ?_) (fun c13 => ?_)
  · have h := h.1 c13
    refine jq_iconst (v := (0 : Int32)) dX9_isBad_20 hC (by decide) ?_
    obtain ⟨bz, h⟩ := h
    exact jq_zret dX9_isBad_21 hC he rfl bz ⟨_, rfl, rfl, h⟩
  · have h := h.2 c13
    refine jq_iconst (v := (1 : Int32)) dX9_isBad_16 hC (by decide) ?_
    refine jq_goto (tgt := 21) dX9_isBad_17 hC (by decide) ?_
    obtain ⟨bz, h⟩ := h
    exact jq_zret dX9_isBad_21 hC he rfl bz ⟨_, rfl, rfl, h⟩
theorem mt_X9_isBad {G : Gt} {x1 : Int32} {w : Wd} {Q : Int32 → Prop} (h : wp_X9_isBad x1 w Q) : Mt G D_X9_isBad [.ref (aD G 0 32), .int x1] w (qip w Q) := Mt_of (by decide +kernel) rfl rfl (Nat.le_of_ble_eq_true rfl) (fun M Qf hC he => ok_X9_isBad hC he h)
/-! X9.isFree(II)Z -/
theorem dX9_isFree_0 : decode cX9_isFree 0 = .ok (.aload_n 0, 1) := by decide +kernel
theorem dX9_isFree_1 : decode cX9_isFree 1 = .ok (.iload_n 1, 1) := by decide +kernel
theorem dX9_isFree_2 : decode cX9_isFree 2 = .ok (.iload_n 2, 1) := by decide +kernel
theorem dX9_isFree_3 : decode cX9_isFree 3 = .ok (.invokevirtual 104, 3) := by decide +kernel
theorem dX9_isFree_6 : decode cX9_isFree 6 = .ok (.ifCond .eq 16, 3) := by decide +kernel
theorem dX9_isFree_9 : decode cX9_isFree 9 = .ok (.aload_n 0, 1) := by decide +kernel
theorem dX9_isFree_10 : decode cX9_isFree 10 = .ok (.getfield 50, 3) := by decide +kernel
theorem dX9_isFree_13 : decode cX9_isFree 13 = .ok (.iload_n 2, 1) := by decide +kernel
theorem dX9_isFree_14 : decode cX9_isFree 14 = .ok (.baload, 1) := by decide +kernel
theorem dX9_isFree_15 : decode cX9_isFree 15 = .ok (.ifCond .ne 7, 3) := by decide +kernel
theorem dX9_isFree_18 : decode cX9_isFree 18 = .ok (.iconst 1, 1) := by decide +kernel
theorem dX9_isFree_19 : decode cX9_isFree 19 = .ok (.goto 4, 3) := by decide +kernel
theorem dX9_isFree_22 : decode cX9_isFree 22 = .ok (.iconst 0, 1) := by decide +kernel
theorem dX9_isFree_23 : decode cX9_isFree 23 = .ok (.ireturn, 1) := by decide +kernel
set_option maxRecDepth 20000 in
theorem ggX9_isFree_X9_signIn : GoodIn wsX9_isFree wsX9_signIn := goodIn_r _ [6, 7, 8, 9, 10, 11, 12, 13, 14, 15, 16, 17, 18, 19, 20, 21, 22, 23, 24, 25, 26, 27, 28, 29, 30, 31, 32] (by decide +kernel) (by decide +kernel)
set_option maxRecDepth 20000 in
theorem gX9_isFree_X9_signIn : GoodIn wsX9_isFree (wsV RX9 104 RX9 yX9_signIn wsX9_signIn) := goodIn_app (goodIn_of _ (by decide +kernel)) ggX9_isFree_X9_signIn
def D_X9_isFree : Md := (yX9_isFree, cX9_isFree, 3, (some .boolean), wsX9_isFree, RX9, { frames := 1, cells := 0, slots := 0, locals := 22 })
theorem nm_X9_isFree : nmD D_X9_isFree 2 := ⟨rfl, by decide +kernel, by decide +kernel, by decide +kernel⟩
theorem hi_X9_isFree_X9 : ∀ w ∈ u_ws RX9 TX9 25, w ∈ wsX9_isFree := by decide +kernel
theorem hl_X9_isFree_50 : Cond.fieldLink RX9 50 "LevelLoopsModel" "isGone" "[Z" ∈ wsX9_isFree := by decide +kernel
def wp_X9_isFree_J22 (w : Wd) (Q : Int32 → Prop) : Prop :=
  zb (0 : Int32) ∧ Q (0 : Int32)
def wp_X9_isFree (x1 : Int32) (x2 : Int32) (w : Wd) (Q : Int32 → Prop) : Prop :=
  wp_X9_signIn x1 x2 w (fun r3 => ((r3 = 0 → wp_X9_isFree_J22 w Q) ∧ (¬ r3 = 0 → vp_in x2 20 ∧ ((¬ (wi w 0 46 x2.toNatClampNeg) = 0 → wp_X9_isFree_J22 w Q) ∧ ((wi w 0 46 x2.toNatClampNeg) = 0 → zb (1 : Int32) ∧ Q (1 : Int32))))))
theorem ok_X9_isFree_J22 {G : Gt} {M : Mx} {Qf : State → Prop} {w : Wd} {Q : Int32 → Prop} (hC : cx G D_X9_isFree M) (he : en G M (qip w Q) Qf) (h : wp_X9_isFree_J22 w Q) : jq G D_X9_isFree M Qf 22 [] [] w := by
  unfold wp_X9_isFree_J22 at h
  refine jq_iconst (v := (0 : Int32)) dX9_isFree_22 hC (by decide) ?_
  obtain ⟨bz, h⟩ := h
  exact jq_zret dX9_isFree_23 hC he rfl bz ⟨_, rfl, rfl, h⟩
theorem ok_X9_isFree {G : Gt} {M : Mx} {Qf : State → Prop} {x1 : Int32} {x2 : Int32} {w : Wd} {Q : Int32 → Prop} (hC : cx G D_X9_isFree M) (he : en G M (qip w Q) Qf) (h : wp_X9_isFree x1 x2 w Q) : jq G D_X9_isFree M Qf 0 [(0, .ref (aD G 0 32)), (1, .int x1), (2, .int x2)] [] w := by
  unfold wp_X9_isFree at h
  refine jq_aload_n (k0 := 0) dX9_isFree_0 hC rfl rfl ?_
  refine jq_iload_n (k0 := 1) dX9_isFree_1 hC rfl rfl ?_
  refine jq_iload_n (k0 := 2) dX9_isFree_2 hC rfl rfl ?_
  refine jq_callV (As := [.int x1, .int x2]) (rest := []) (n := 0) (o := 32) (D' := D_X9_signIn) dX9_isFree_3 hC (cl_0 (by decide)) rfl rfl rfl (mt_X9_signIn h) gX9_isFree_X9_signIn rfl ⟨rfl, rfl, Nat.le_of_ble_eq_true rfl, Nat.le_of_ble_eq_true rfl⟩ nm_X9_signIn rfl (Nat.le_of_ble_eq_true rfl) (kIp fun r3 h => ?_)
  refine jq_if_eq (tgt := 22) dX9_isFree_6 hC (by decide) (fun c6 => ?_) (fun c6 => ?_)
  · have h := h.1 c6
    refine jq_less (L' := []) [] rfl ?_
    exact ok_X9_isFree_J22 hC he h
  · have h := h.2 c6
    refine jq_aload_n (k0 := 0) dX9_isFree_9 hC rfl rfl ?_
    refine jq_get (k0 := 17) (n := 0) (o := 32) dX9_isFree_10 hC (cl_0 (by decide)) rfl rfl hi_X9_isFree_X9 (by decide) hl_X9_isFree_50 rfl rfl ?_
    refine jq_iload_n (k0 := 2) dX9_isFree_13 hC rfl rfl ?_
    obtain ⟨b14, h⟩ := h
    refine jq_zald (n := 0) (o := 46) (j := x2.toNatClampNeg) dX9_isFree_14 hC (cl_0 (by decide)) rfl b14 rfl ?_
    refine jq_if_ne (tgt := 22) dX9_isFree_15 hC (by decide) (fun c15 => ?_) (fun c15 => ?_)
    · have h := h.1 c15
      refine jq_less (L' := []) [] rfl ?_
      exact ok_X9_isFree_J22 hC he h
    · have h := h.2 c15
      refine jq_iconst (v := (1 : Int32)) dX9_isFree_18 hC (by decide) ?_
      refine jq_goto (tgt := 23) dX9_isFree_19 hC (by decide) ?_
      obtain ⟨bz, h⟩ := h
      exact jq_zret dX9_isFree_23 hC he rfl bz ⟨_, rfl, rfl, h⟩
theorem mt_X9_isFree {G : Gt} {x1 : Int32} {x2 : Int32} {w : Wd} {Q : Int32 → Prop} (h : wp_X9_isFree x1 x2 w Q) : Mt G D_X9_isFree [.ref (aD G 0 32), .int x1, .int x2] w (qip w Q) := Mt_of (by decide +kernel) rfl rfl (Nat.le_of_ble_eq_true rfl) (fun M Qf hC he => ok_X9_isFree hC he h)
/-! X9.share(II)V -/
theorem dX9_share_0 : decode cX9_share 0 = .ok (.iconst 0, 1) := by decide +kernel
theorem dX9_share_1 : decode cX9_share 1 = .ok (.istore_n 3, 1) := by decide +kernel
theorem dX9_share_2 : decode cX9_share 2 = .ok (.iconst 0, 1) := by decide +kernel
theorem dX9_share_3 : decode cX9_share 3 = .ok (.istore 4, 2) := by decide +kernel
theorem dX9_share_5 : decode cX9_share 5 = .ok (.iload 4, 2) := by decide +kernel
theorem dX9_share_7 : decode cX9_share 7 = .ok (.aload_n 0, 1) := by decide +kernel
theorem dX9_share_8 : decode cX9_share 8 = .ok (.getfield 7, 3) := by decide +kernel
theorem dX9_share_11 : decode cX9_share 11 = .ok (.bipush 11, 2) := by decide +kernel
theorem dX9_share_13 : decode cX9_share 13 = .ok (.iaload, 1) := by decide +kernel
theorem dX9_share_14 : decode cX9_share 14 = .ok (.if_icmp .ge 37, 3) := by decide +kernel
theorem dX9_share_17 : decode cX9_share 17 = .ok (.iload_n 3, 1) := by decide +kernel
theorem dX9_share_18 : decode cX9_share 18 = .ok (.aload_n 0, 1) := by decide +kernel
theorem dX9_share_19 : decode cX9_share 19 = .ok (.iload_n 1, 1) := by decide +kernel
theorem dX9_share_20 : decode cX9_share 20 = .ok (.iload 4, 2) := by decide +kernel
theorem dX9_share_22 : decode cX9_share 22 = .ok (.invokevirtual 119, 3) := by decide +kernel
theorem dX9_share_25 : decode cX9_share 25 = .ok (.ifCond .eq 17, 3) := by decide +kernel
theorem dX9_share_28 : decode cX9_share 28 = .ok (.aload_n 0, 1) := by decide +kernel
theorem dX9_share_29 : decode cX9_share 29 = .ok (.getfield 7, 3) := by decide +kernel
theorem dX9_share_32 : decode cX9_share 32 = .ok (.iload 4, 2) := by decide +kernel
theorem dX9_share_34 : decode cX9_share 34 = .ok (.iconst 2, 1) := by decide +kernel
theorem dX9_share_35 : decode cX9_share 35 = .ok (.invokestatic 76, 3) := by decide +kernel
theorem dX9_share_38 : decode cX9_share 38 = .ok (.iaload, 1) := by decide +kernel
theorem dX9_share_39 : decode cX9_share 39 = .ok (.goto 4, 3) := by decide +kernel
theorem dX9_share_42 : decode cX9_share 42 = .ok (.iconst 0, 1) := by decide +kernel
theorem dX9_share_43 : decode cX9_share 43 = .ok (.iadd, 1) := by decide +kernel
theorem dX9_share_44 : decode cX9_share 44 = .ok (.istore_n 3, 1) := by decide +kernel
theorem dX9_share_45 : decode cX9_share 45 = .ok (.iinc 4 1, 3) := by decide +kernel
theorem dX9_share_48 : decode cX9_share 48 = .ok (.goto (-43), 3) := by decide +kernel
theorem dX9_share_51 : decode cX9_share 51 = .ok (.iload_n 2, 1) := by decide +kernel
theorem dX9_share_52 : decode cX9_share 52 = .ok (.istore 4, 2) := by decide +kernel
theorem dX9_share_54 : decode cX9_share 54 = .ok (.iconst 0, 1) := by decide +kernel
theorem dX9_share_55 : decode cX9_share 55 = .ok (.istore 5, 2) := by decide +kernel
theorem dX9_share_57 : decode cX9_share 57 = .ok (.iload 5, 2) := by decide +kernel
theorem dX9_share_59 : decode cX9_share 59 = .ok (.aload_n 0, 1) := by decide +kernel
theorem dX9_share_60 : decode cX9_share 60 = .ok (.getfield 7, 3) := by decide +kernel
theorem dX9_share_63 : decode cX9_share 63 = .ok (.bipush 11, 2) := by decide +kernel
theorem dX9_share_65 : decode cX9_share 65 = .ok (.iaload, 1) := by decide +kernel
theorem dX9_share_66 : decode cX9_share 66 = .ok (.if_icmp .ge 93, 3) := by decide +kernel
theorem dX9_share_69 : decode cX9_share 69 = .ok (.aload_n 0, 1) := by decide +kernel
theorem dX9_share_70 : decode cX9_share 70 = .ok (.getfield 53, 3) := by decide +kernel
theorem dX9_share_73 : decode cX9_share 73 = .ok (.iload 5, 2) := by decide +kernel
theorem dX9_share_75 : decode cX9_share 75 = .ok (.aload_n 0, 1) := by decide +kernel
theorem dX9_share_76 : decode cX9_share 76 = .ok (.iload_n 1, 1) := by decide +kernel
theorem dX9_share_77 : decode cX9_share 77 = .ok (.iload 5, 2) := by decide +kernel
theorem dX9_share_79 : decode cX9_share 79 = .ok (.invokevirtual 119, 3) := by decide +kernel
theorem dX9_share_82 : decode cX9_share 82 = .ok (.ifCond .eq 21, 3) := by decide +kernel
theorem dX9_share_85 : decode cX9_share 85 = .ok (.iload_n 2, 1) := by decide +kernel
theorem dX9_share_86 : decode cX9_share 86 = .ok (.aload_n 0, 1) := by decide +kernel
theorem dX9_share_87 : decode cX9_share 87 = .ok (.getfield 7, 3) := by decide +kernel
theorem dX9_share_90 : decode cX9_share 90 = .ok (.iload 5, 2) := by decide +kernel
theorem dX9_share_92 : decode cX9_share 92 = .ok (.iconst 2, 1) := by decide +kernel
theorem dX9_share_93 : decode cX9_share 93 = .ok (.invokestatic 76, 3) := by decide +kernel
theorem dX9_share_96 : decode cX9_share 96 = .ok (.iaload, 1) := by decide +kernel
theorem dX9_share_97 : decode cX9_share 97 = .ok (.imul, 1) := by decide +kernel
theorem dX9_share_98 : decode cX9_share 98 = .ok (.iload_n 3, 1) := by decide +kernel
theorem dX9_share_99 : decode cX9_share 99 = .ok (.idiv, 1) := by decide +kernel
theorem dX9_share_100 : decode cX9_share 100 = .ok (.goto 4, 3) := by decide +kernel
theorem dX9_share_103 : decode cX9_share 103 = .ok (.iconst 0, 1) := by decide +kernel
theorem dX9_share_104 : decode cX9_share 104 = .ok (.iastore, 1) := by decide +kernel
theorem dX9_share_105 : decode cX9_share 105 = .ok (.aload_n 0, 1) := by decide +kernel
theorem dX9_share_106 : decode cX9_share 106 = .ok (.getfield 56, 3) := by decide +kernel
theorem dX9_share_109 : decode cX9_share 109 = .ok (.iload 5, 2) := by decide +kernel
theorem dX9_share_111 : decode cX9_share 111 = .ok (.aload_n 0, 1) := by decide +kernel
theorem dX9_share_112 : decode cX9_share 112 = .ok (.iload_n 1, 1) := by decide +kernel
theorem dX9_share_113 : decode cX9_share 113 = .ok (.iload 5, 2) := by decide +kernel
theorem dX9_share_115 : decode cX9_share 115 = .ok (.invokevirtual 119, 3) := by decide +kernel
theorem dX9_share_118 : decode cX9_share 118 = .ok (.ifCond .eq 21, 3) := by decide +kernel
theorem dX9_share_121 : decode cX9_share 121 = .ok (.iload_n 2, 1) := by decide +kernel
theorem dX9_share_122 : decode cX9_share 122 = .ok (.aload_n 0, 1) := by decide +kernel
theorem dX9_share_123 : decode cX9_share 123 = .ok (.getfield 7, 3) := by decide +kernel
theorem dX9_share_126 : decode cX9_share 126 = .ok (.iload 5, 2) := by decide +kernel
theorem dX9_share_128 : decode cX9_share 128 = .ok (.iconst 2, 1) := by decide +kernel
theorem dX9_share_129 : decode cX9_share 129 = .ok (.invokestatic 76, 3) := by decide +kernel
theorem dX9_share_132 : decode cX9_share 132 = .ok (.iaload, 1) := by decide +kernel
theorem dX9_share_133 : decode cX9_share 133 = .ok (.imul, 1) := by decide +kernel
theorem dX9_share_134 : decode cX9_share 134 = .ok (.iload_n 3, 1) := by decide +kernel
theorem dX9_share_135 : decode cX9_share 135 = .ok (.irem, 1) := by decide +kernel
theorem dX9_share_136 : decode cX9_share 136 = .ok (.goto 4, 3) := by decide +kernel
theorem dX9_share_139 : decode cX9_share 139 = .ok (.iconst (-1), 1) := by decide +kernel
theorem dX9_share_140 : decode cX9_share 140 = .ok (.iastore, 1) := by decide +kernel
theorem dX9_share_141 : decode cX9_share 141 = .ok (.iload 4, 2) := by decide +kernel
theorem dX9_share_143 : decode cX9_share 143 = .ok (.aload_n 0, 1) := by decide +kernel
theorem dX9_share_144 : decode cX9_share 144 = .ok (.getfield 53, 3) := by decide +kernel
theorem dX9_share_147 : decode cX9_share 147 = .ok (.iload 5, 2) := by decide +kernel
theorem dX9_share_149 : decode cX9_share 149 = .ok (.iaload, 1) := by decide +kernel
theorem dX9_share_150 : decode cX9_share 150 = .ok (.isub, 1) := by decide +kernel
theorem dX9_share_151 : decode cX9_share 151 = .ok (.istore 4, 2) := by decide +kernel
theorem dX9_share_153 : decode cX9_share 153 = .ok (.iinc 5 1, 3) := by decide +kernel
theorem dX9_share_156 : decode cX9_share 156 = .ok (.goto (-99), 3) := by decide +kernel
theorem dX9_share_159 : decode cX9_share 159 = .ok (.iload 4, 2) := by decide +kernel
theorem dX9_share_161 : decode cX9_share 161 = .ok (.ifCond .le 78, 3) := by decide +kernel
theorem dX9_share_164 : decode cX9_share 164 = .ok (.iconst 0, 1) := by decide +kernel
theorem dX9_share_165 : decode cX9_share 165 = .ok (.istore 5, 2) := by decide +kernel
theorem dX9_share_167 : decode cX9_share 167 = .ok (.iconst 0, 1) := by decide +kernel
theorem dX9_share_168 : decode cX9_share 168 = .ok (.istore 6, 2) := by decide +kernel
theorem dX9_share_170 : decode cX9_share 170 = .ok (.iload 6, 2) := by decide +kernel
theorem dX9_share_172 : decode cX9_share 172 = .ok (.aload_n 0, 1) := by decide +kernel
theorem dX9_share_173 : decode cX9_share 173 = .ok (.getfield 7, 3) := by decide +kernel
theorem dX9_share_176 : decode cX9_share 176 = .ok (.bipush 11, 2) := by decide +kernel
theorem dX9_share_178 : decode cX9_share 178 = .ok (.iaload, 1) := by decide +kernel
theorem dX9_share_179 : decode cX9_share 179 = .ok (.if_icmp .ge 35, 3) := by decide +kernel
theorem dX9_share_182 : decode cX9_share 182 = .ok (.aload_n 0, 1) := by decide +kernel
theorem dX9_share_183 : decode cX9_share 183 = .ok (.getfield 56, 3) := by decide +kernel
theorem dX9_share_186 : decode cX9_share 186 = .ok (.iload 6, 2) := by decide +kernel
theorem dX9_share_188 : decode cX9_share 188 = .ok (.iaload, 1) := by decide +kernel
theorem dX9_share_189 : decode cX9_share 189 = .ok (.aload_n 0, 1) := by decide +kernel
theorem dX9_share_190 : decode cX9_share 190 = .ok (.getfield 56, 3) := by decide +kernel
theorem dX9_share_193 : decode cX9_share 193 = .ok (.iload 5, 2) := by decide +kernel
theorem dX9_share_195 : decode cX9_share 195 = .ok (.iaload, 1) := by decide +kernel
theorem dX9_share_196 : decode cX9_share 196 = .ok (.if_icmp .le 8, 3) := by decide +kernel
theorem dX9_share_199 : decode cX9_share 199 = .ok (.iload 6, 2) := by decide +kernel
theorem dX9_share_201 : decode cX9_share 201 = .ok (.goto 5, 3) := by decide +kernel
theorem dX9_share_204 : decode cX9_share 204 = .ok (.iload 5, 2) := by decide +kernel
theorem dX9_share_206 : decode cX9_share 206 = .ok (.istore 5, 2) := by decide +kernel
theorem dX9_share_208 : decode cX9_share 208 = .ok (.iinc 6 1, 3) := by decide +kernel
theorem dX9_share_211 : decode cX9_share 211 = .ok (.goto (-41), 3) := by decide +kernel
theorem dX9_share_214 : decode cX9_share 214 = .ok (.aload_n 0, 1) := by decide +kernel
theorem dX9_share_215 : decode cX9_share 215 = .ok (.getfield 53, 3) := by decide +kernel
theorem dX9_share_218 : decode cX9_share 218 = .ok (.iload 5, 2) := by decide +kernel
theorem dX9_share_220 : decode cX9_share 220 = .ok (.dup2, 1) := by decide +kernel
theorem dX9_share_221 : decode cX9_share 221 = .ok (.iaload, 1) := by decide +kernel
theorem dX9_share_222 : decode cX9_share 222 = .ok (.iconst 1, 1) := by decide +kernel
theorem dX9_share_223 : decode cX9_share 223 = .ok (.iadd, 1) := by decide +kernel
theorem dX9_share_224 : decode cX9_share 224 = .ok (.iastore, 1) := by decide +kernel
theorem dX9_share_225 : decode cX9_share 225 = .ok (.aload_n 0, 1) := by decide +kernel
theorem dX9_share_226 : decode cX9_share 226 = .ok (.getfield 56, 3) := by decide +kernel
theorem dX9_share_229 : decode cX9_share 229 = .ok (.iload 5, 2) := by decide +kernel
theorem dX9_share_231 : decode cX9_share 231 = .ok (.iconst (-1), 1) := by decide +kernel
theorem dX9_share_232 : decode cX9_share 232 = .ok (.iastore, 1) := by decide +kernel
theorem dX9_share_233 : decode cX9_share 233 = .ok (.iinc 4 (-1), 3) := by decide +kernel
theorem dX9_share_236 : decode cX9_share 236 = .ok (.goto (-77), 3) := by decide +kernel
theorem dX9_share_239 : decode cX9_share 239 = .ok (.return_, 1) := by decide +kernel
set_option maxRecDepth 20000 in
theorem ggX9_share_X9_of : GoodIn wsX9_share wsX9_of := goodIn_r _ [17] (by decide +kernel) (by decide +kernel)
set_option maxRecDepth 20000 in
theorem gX9_share_X9_of : GoodIn wsX9_share (va_wsS RX9 76 yX9_of wsX9_of) := goodIn_app (goodIn_of _ (by decide +kernel)) ggX9_share_X9_of
set_option maxRecDepth 20000 in
theorem ggX9_share_X9_isFree : GoodIn wsX9_share wsX9_isFree := goodIn_r _ [8, 9, 10, 11, 12, 7, 13, 14, 18, 19, 20, 21, 22, 23, 24, 25, 26, 27, 28, 29, 30, 31, 32, 33, 34, 35, 36, 37, 38, 39, 40, 41, 42] (by decide +kernel) (by decide +kernel)
set_option maxRecDepth 20000 in
theorem gX9_share_X9_isFree : GoodIn wsX9_share (wsV RX9 119 RX9 yX9_isFree wsX9_isFree) := goodIn_app (goodIn_of _ (by decide +kernel)) ggX9_share_X9_isFree
def D_X9_share : Md := (yX9_share, cX9_share, 7, none, wsX9_share, RX9, { frames := 2, cells := 0, slots := 0, locals := 44 })
theorem nm_X9_share : nmD D_X9_share 2 := ⟨rfl, by decide +kernel, by decide +kernel, by decide +kernel⟩
theorem hi_X9_share_X9 : ∀ w ∈ u_ws RX9 TX9 25, w ∈ wsX9_share := by decide +kernel
theorem hl_X9_share_7 : Cond.fieldLink RX9 7 "LevelLoopsModel" "s" "[I" ∈ wsX9_share := by decide +kernel
theorem hl_X9_share_53 : Cond.fieldLink RX9 53 "LevelLoopsModel" "shares" "[I" ∈ wsX9_share := by decide +kernel
theorem hl_X9_share_56 : Cond.fieldLink RX9 56 "LevelLoopsModel" "rests" "[I" ∈ wsX9_share := by decide +kernel
def wp_X9_share_B170 (x4 : Int32) (x5 : Int32) (x6 : Int32) (w : Wd) (Q : Wd → Prop) (K159 : Int32 → Wd → Prop) (K170 : Int32 → Int32 → Prop) : Prop :=
  (((wi w 0 33 11) ≤ x6 → vp_in x5 20 ∧ vp_in x5 20 ∧ (∀ w224 : Wd, w224 = (sI w 0 47 x5.toNatClampNeg ((wi w 0 47 x5.toNatClampNeg) + (1 : Int32))) → vp_in x5 20 ∧ (∀ w232 : Wd, w232 = (sI w224 0 48 x5.toNatClampNeg (-1 : Int32)) → K159 (x4 + (-1)) w232))) ∧ (¬ (wi w 0 33 11) ≤ x6 → vp_in x6 20 ∧ vp_in x5 20 ∧ (((wi w 0 48 x6.toNatClampNeg) ≤ (wi w 0 48 x5.toNatClampNeg) → K170 x5 (x6 + 1)) ∧ (¬ (wi w 0 48 x6.toNatClampNeg) ≤ (wi w 0 48 x5.toNatClampNeg) → K170 x6 (x6 + 1)))))
def wp_X9_share_L170 (x4 : Int32) (x5 : Int32) (x6 : Int32) (w : Wd) (Q : Wd → Prop) (K159 : Int32 → Wd → Prop) : Prop :=
  ∃ (I : Int32 → Int32 → Prop) (μ : Int32 → Int32 → Nat), I x5 x6 ∧ ∀ (x5 : Int32) (x6 : Int32), I x5 x6 → wp_X9_share_B170 x4 x5 x6 w Q K159 (fun x5' x6' => I x5' x6' ∧ μ x5' x6' < μ x5 x6)
def wp_X9_share_B159 (x4 : Int32) (w : Wd) (Q : Wd → Prop) (K159 : Int32 → Wd → Prop) : Prop :=
  ((x4 ≤ 0 → Q w) ∧ (¬ x4 ≤ 0 → wp_X9_share_L170 x4 (0 : Int32) (0 : Int32) w Q K159))
def wp_X9_share_L159 (x4 : Int32) (w : Wd) (Q : Wd → Prop) : Prop :=
  ∃ (I : Int32 → Wd → Prop) (μ : Int32 → Wd → Nat), I x4 w ∧ ∀ (x4 : Int32) (w : Wd), I x4 w → wp_X9_share_B159 x4 w Q (fun x4' w' => I x4' w' ∧ μ x4' w' < μ x4 w)
def wp_X9_share_J140 (x1 : Int32) (x2 : Int32) (x3 : Int32) (x4 : Int32) (x5 : Int32) (s0 : Int32) (s1 : Int32) (w : Wd) (Q : Wd → Prop) (K57 : Int32 → Int32 → Wd → Prop) : Prop :=
  vp_in s1 20 ∧ (∀ w140 : Wd, w140 = (sI w 0 48 s1.toNatClampNeg s0) → vp_in x5 20 ∧ K57 (x4 - (wi w140 0 47 x5.toNatClampNeg)) (x5 + 1) w140)
def wp_X9_share_J104 (x1 : Int32) (x2 : Int32) (x3 : Int32) (x4 : Int32) (x5 : Int32) (s0 : Int32) (s1 : Int32) (w : Wd) (Q : Wd → Prop) (K57 : Int32 → Int32 → Wd → Prop) : Prop :=
  vp_in s1 20 ∧ (∀ w104 : Wd, w104 = (sI w 0 47 s1.toNatClampNeg s0) → wp_X9_isFree x1 x5 w104 (fun r115 => ((r115 = 0 → wp_X9_share_J140 x1 x2 x3 x4 x5 (-1 : Int32) x5 w104 Q K57) ∧ (¬ r115 = 0 → wp_X9_of x5 (2 : Int32) (fun r129 => vp_in r129 95 ∧ ¬ x3 = 0 ∧ wp_X9_share_J140 x1 x2 x3 x4 x5 (irem (x2 * (wi w104 0 33 r129.toNatClampNeg)) x3) x5 w104 Q K57)))))
def wp_X9_share_B57 (x1 : Int32) (x2 : Int32) (x3 : Int32) (x4 : Int32) (x5 : Int32) (w : Wd) (Q : Wd → Prop) (K57 : Int32 → Int32 → Wd → Prop) : Prop :=
  (((wi w 0 33 11) ≤ x5 → wp_X9_share_L159 x4 w Q) ∧ (¬ (wi w 0 33 11) ≤ x5 → wp_X9_isFree x1 x5 w (fun r79 => ((r79 = 0 → wp_X9_share_J104 x1 x2 x3 x4 x5 (0 : Int32) x5 w Q K57) ∧ (¬ r79 = 0 → wp_X9_of x5 (2 : Int32) (fun r93 => vp_in r93 95 ∧ ¬ x3 = 0 ∧ wp_X9_share_J104 x1 x2 x3 x4 x5 ((x2 * (wi w 0 33 r93.toNatClampNeg)) / x3) x5 w Q K57))))))
def wp_X9_share_L57 (x1 : Int32) (x2 : Int32) (x3 : Int32) (x4 : Int32) (x5 : Int32) (w : Wd) (Q : Wd → Prop) : Prop :=
  ∃ (I : Int32 → Int32 → Wd → Prop) (μ : Int32 → Int32 → Wd → Nat), I x4 x5 w ∧ ∀ (x4 : Int32) (x5 : Int32) (w : Wd), I x4 x5 w → wp_X9_share_B57 x1 x2 x3 x4 x5 w Q (fun x4' x5' w' => I x4' x5' w' ∧ μ x4' x5' w' < μ x4 x5 w)
def wp_X9_share_B5 (x1 : Int32) (x2 : Int32) (x3 : Int32) (x4 : Int32) (w : Wd) (Q : Wd → Prop) (K5 : Int32 → Int32 → Prop) : Prop :=
  (((wi w 0 33 11) ≤ x4 → wp_X9_share_L57 x1 x2 x3 x2 (0 : Int32) w Q) ∧ (¬ (wi w 0 33 11) ≤ x4 → wp_X9_isFree x1 x4 w (fun r22 => ((r22 = 0 → K5 (x3 + (0 : Int32)) (x4 + 1)) ∧ (¬ r22 = 0 → wp_X9_of x4 (2 : Int32) (fun r35 => vp_in r35 95 ∧ K5 (x3 + (wi w 0 33 r35.toNatClampNeg)) (x4 + 1)))))))
def wp_X9_share_L5 (x1 : Int32) (x2 : Int32) (x3 : Int32) (x4 : Int32) (w : Wd) (Q : Wd → Prop) : Prop :=
  ∃ (I : Int32 → Int32 → Prop) (μ : Int32 → Int32 → Nat), I x3 x4 ∧ ∀ (x3 : Int32) (x4 : Int32), I x3 x4 → wp_X9_share_B5 x1 x2 x3 x4 w Q (fun x3' x4' => I x3' x4' ∧ μ x3' x4' < μ x3 x4)
def wp_X9_share (x1 : Int32) (x2 : Int32) (w : Wd) (Q : Wd → Prop) : Prop :=
  wp_X9_share_L5 x1 x2 (0 : Int32) (0 : Int32) w Q
theorem ok_X9_share_B170 {G : Gt} {M : Mx} {Qf : State → Prop} {x4 : Int32} {x5 : Int32} {x6 : Int32} {w : Wd} {Q : Wd → Prop} {K159 : Int32 → Wd → Prop} {K170 : Int32 → Int32 → Prop} (hC : cx G D_X9_share M) (he : en G M (qv Q) Qf) (h : wp_X9_share_B170 x4 x5 x6 w Q K159 K170) (hK159 : ∀ (x4 : Int32) (w : Wd), K159 x4 w → jq G D_X9_share M Qf 159 [(0, .ref (aD G 0 32)), (4, .int x4)] [] w) (hK170 : ∀ (x5 : Int32) (x6 : Int32), K170 x5 x6 → jq G D_X9_share M Qf 170 [(0, .ref (aD G 0 32)), (4, .int x4), (5, .int x5), (6, .int x6)] [] w) : jq G D_X9_share M Qf 170 [(0, .ref (aD G 0 32)), (4, .int x4), (5, .int x5), (6, .int x6)] [] w := by
  unfold wp_X9_share_B170 at h
  refine jq_iload (k0 := 3) dX9_share_170 hC rfl ?_
  refine jq_aload_n (k0 := 0) dX9_share_172 hC rfl rfl ?_
  refine jq_get (k0 := 1) (n := 0) (o := 32) dX9_share_173 hC (cl_0 (by decide)) rfl rfl hi_X9_share_X9 (by decide) hl_X9_share_7 rfl rfl ?_
  refine jq_bipush (v := (11 : Int32)) dX9_share_176 hC (by decide) ?_
  refine jq_iald (n := 0) (o := 33) (j := 11) dX9_share_178 hC (cl_0 (by decide)) rfl (vin (by decide)) (by decide) ?_
  refine jq_icmp_ge (tgt := 214) dX9_share_179 hC (by decide) (fun c179 => ?_) (fun c179 => ?_)
  · have h := h.1 c179
    refine jq_aload_n (k0 := 0) dX9_share_214 hC rfl rfl ?_
    refine jq_get (k0 := 18) (n := 0) (o := 32) dX9_share_215 hC (cl_0 (by decide)) rfl rfl hi_X9_share_X9 (by decide) hl_X9_share_53 rfl rfl ?_
    refine jq_iload (k0 := 2) dX9_share_218 hC rfl ?_
    refine jq_dup2 dX9_share_220 hC rfl rfl ?_
    obtain ⟨b221, h⟩ := h
    refine jq_iald (n := 0) (o := 47) (j := x5.toNatClampNeg) dX9_share_221 hC (cl_0 (by decide)) rfl b221 rfl ?_
    refine jq_iconst (v := (1 : Int32)) dX9_share_222 hC (by decide) ?_
    refine jq_iadd dX9_share_223 hC ?_
    obtain ⟨b224, h⟩ := h
    refine jq_iast (n := 0) (o := 47) (j := x5.toNatClampNeg) dX9_share_224 hC (cl_0 (by decide)) (fun _ => rfl) b224 rfl ?_
    refine jq_w (fun w224 e224 => ?_)
    have h := h w224 e224
    refine jq_aload_n (k0 := 0) dX9_share_225 hC rfl rfl ?_
    refine jq_get (k0 := 19) (n := 0) (o := 32) dX9_share_226 hC (cl_0 (by decide)) rfl rfl hi_X9_share_X9 (by decide) hl_X9_share_56 rfl rfl ?_
    refine jq_iload (k0 := 2) dX9_share_229 hC rfl ?_
    refine jq_iconst (v := (-1 : Int32)) dX9_share_231 hC (by decide) ?_
    obtain ⟨b232, h⟩ := h
    refine jq_iast (n := 0) (o := 48) (j := x5.toNatClampNeg) dX9_share_232 hC (cl_0 (by decide)) (fun _ => rfl) b232 rfl ?_
    refine jq_w (fun w232 e232 => ?_)
    have h := h w232 e232
    refine jq_iinc (k0 := 1) (v := (x4 + (-1))) (L' := [(4, .int (x4 + (-1))), (0, .ref (aD G 0 32)), (5, .int x5), (6, .int x6)]) dX9_share_233 hC rfl rfl (by decide) rfl ?_
    refine jq_goto (tgt := 159) dX9_share_236 hC (by decide) ?_
    exact jq_less (L' := [(0, .ref (aD G 0 32)), (4, .int (x4 + (-1)))]) [1, 0] rfl (hK159 _ _ h)
  · have h := h.2 c179
    refine jq_aload_n (k0 := 0) dX9_share_182 hC rfl rfl ?_
    refine jq_get (k0 := 19) (n := 0) (o := 32) dX9_share_183 hC (cl_0 (by decide)) rfl rfl hi_X9_share_X9 (by decide) hl_X9_share_56 rfl rfl ?_
    refine jq_iload (k0 := 3) dX9_share_186 hC rfl ?_
    obtain ⟨b188, h⟩ := h
    refine jq_iald (n := 0) (o := 48) (j := x6.toNatClampNeg) dX9_share_188 hC (cl_0 (by decide)) rfl b188 rfl ?_
    refine jq_aload_n (k0 := 0) dX9_share_189 hC rfl rfl ?_
    refine jq_get (k0 := 19) (n := 0) (o := 32) dX9_share_190 hC (cl_0 (by decide)) rfl rfl hi_X9_share_X9 (by decide) hl_X9_share_56 rfl rfl ?_
    refine jq_iload (k0 := 2) dX9_share_193 hC rfl ?_
    obtain ⟨b195, h⟩ := h
    refine jq_iald (n := 0) (o := 48) (j := x5.toNatClampNeg) dX9_share_195 hC (cl_0 (by decide)) rfl b195 rfl ?_
    refine jq_icmp_le (tgt := 204) dX9_share_196 hC (by decide) (fun c196 => ?_) (fun c196 => ?_)
    · have h := h.1 c196
      refine jq_iload (k0 := 2) dX9_share_204 hC rfl ?_
      refine jq_istore (L' := [(5, .int x5), (0, .ref (aD G 0 32)), (4, .int x4), (6, .int x6)]) dX9_share_206 hC (by decide) rfl ?_
      refine jq_iinc (k0 := 3) (v := (x6 + 1)) (L' := [(6, .int (x6 + 1)), (5, .int x5), (0, .ref (aD G 0 32)), (4, .int x4)]) dX9_share_208 hC rfl rfl (by decide) rfl ?_
      refine jq_goto (tgt := 170) dX9_share_211 hC (by decide) ?_
      exact jq_less (L' := [(0, .ref (aD G 0 32)), (4, .int x4), (5, .int x5), (6, .int (x6 + 1))]) [2, 3, 1, 0] rfl (hK170 _ _ h)
    · have h := h.2 c196
      refine jq_iload (k0 := 3) dX9_share_199 hC rfl ?_
      refine jq_goto (tgt := 206) dX9_share_201 hC (by decide) ?_
      refine jq_istore (L' := [(5, .int x6), (0, .ref (aD G 0 32)), (4, .int x4), (6, .int x6)]) dX9_share_206 hC (by decide) rfl ?_
      refine jq_iinc (k0 := 3) (v := (x6 + 1)) (L' := [(6, .int (x6 + 1)), (5, .int x6), (0, .ref (aD G 0 32)), (4, .int x4)]) dX9_share_208 hC rfl rfl (by decide) rfl ?_
      refine jq_goto (tgt := 170) dX9_share_211 hC (by decide) ?_
      exact jq_less (L' := [(0, .ref (aD G 0 32)), (4, .int x4), (5, .int x6), (6, .int (x6 + 1))]) [2, 3, 1, 0] rfl (hK170 _ _ h)
theorem ok_X9_share_L170 {G : Gt} {M : Mx} {Qf : State → Prop} {x4 : Int32} {x5 : Int32} {x6 : Int32} {w : Wd} {Q : Wd → Prop} {K159 : Int32 → Wd → Prop} (hC : cx G D_X9_share M) (he : en G M (qv Q) Qf) (h : wp_X9_share_L170 x4 x5 x6 w Q K159) (hK159 : ∀ (x4 : Int32) (w : Wd), K159 x4 w → jq G D_X9_share M Qf 159 [(0, .ref (aD G 0 32)), (4, .int x4)] [] w) : jq G D_X9_share M Qf 170 [(0, .ref (aD G 0 32)), (4, .int x4), (5, .int x5), (6, .int x6)] [] w := by
  unfold wp_X9_share_L170 at h
  obtain ⟨I, μ, h0, hs⟩ := h
  exact lp_ind (σ := Int32 × Int32) (P := fun s => jq G D_X9_share M Qf 170 [(0, .ref (aD G 0 32)), (4, .int x4), (5, .int s.1), (6, .int s.2)] [] w) (fun s => I s.1 s.2) (fun s => μ s.1 s.2) (fun s h1 ih => ok_X9_share_B170 hC he (hs s.1 s.2 h1) hK159 (fun x5' x6' h => ih (x5', x6') h.1 h.2)) (x5, x6) h0
theorem ok_X9_share_B159 {G : Gt} {M : Mx} {Qf : State → Prop} {x4 : Int32} {w : Wd} {Q : Wd → Prop} {K159 : Int32 → Wd → Prop} (hC : cx G D_X9_share M) (he : en G M (qv Q) Qf) (h : wp_X9_share_B159 x4 w Q K159) (hK159 : ∀ (x4 : Int32) (w : Wd), K159 x4 w → jq G D_X9_share M Qf 159 [(0, .ref (aD G 0 32)), (4, .int x4)] [] w) : jq G D_X9_share M Qf 159 [(0, .ref (aD G 0 32)), (4, .int x4)] [] w := by
  unfold wp_X9_share_B159 at h
  refine jq_iload (k0 := 1) dX9_share_159 hC rfl ?_
  refine jq_if_le (tgt := 239) dX9_share_161 hC (by decide) (fun c161 => ?_) (fun c161 => ?_)
  · have h := h.1 c161
    exact jq_vret dX9_share_239 hC he rfl ⟨rfl, h⟩
  · have h := h.2 c161
    refine jq_iconst (v := (0 : Int32)) dX9_share_164 hC (by decide) ?_
    refine jq_istore (L' := [(5, .int (0 : Int32)), (0, .ref (aD G 0 32)), (4, .int x4)]) dX9_share_165 hC (by decide) rfl ?_
    refine jq_iconst (v := (0 : Int32)) dX9_share_167 hC (by decide) ?_
    refine jq_istore (L' := [(6, .int (0 : Int32)), (5, .int (0 : Int32)), (0, .ref (aD G 0 32)), (4, .int x4)]) dX9_share_168 hC (by decide) rfl ?_
    refine jq_less (L' := [(0, .ref (aD G 0 32)), (4, .int x4), (5, .int (0 : Int32)), (6, .int (0 : Int32))]) [2, 3, 1, 0] rfl ?_
    exact ok_X9_share_L170 hC he h hK159
theorem ok_X9_share_L159 {G : Gt} {M : Mx} {Qf : State → Prop} {x4 : Int32} {w : Wd} {Q : Wd → Prop} (hC : cx G D_X9_share M) (he : en G M (qv Q) Qf) (h : wp_X9_share_L159 x4 w Q) : jq G D_X9_share M Qf 159 [(0, .ref (aD G 0 32)), (4, .int x4)] [] w := by
  unfold wp_X9_share_L159 at h
  obtain ⟨I, μ, h0, hs⟩ := h
  exact lp_ind (σ := Int32 × Wd) (P := fun s => jq G D_X9_share M Qf 159 [(0, .ref (aD G 0 32)), (4, .int s.1)] [] s.2) (fun s => I s.1 s.2) (fun s => μ s.1 s.2) (fun s h1 ih => ok_X9_share_B159 hC he (hs s.1 s.2 h1) (fun x4' w' h => ih (x4', w') h.1 h.2)) (x4, w) h0
theorem ok_X9_share_J140 {G : Gt} {M : Mx} {Qf : State → Prop} {x1 : Int32} {x2 : Int32} {x3 : Int32} {x4 : Int32} {x5 : Int32} {s0 : Int32} {s1 : Int32} {w : Wd} {Q : Wd → Prop} {K57 : Int32 → Int32 → Wd → Prop} (hC : cx G D_X9_share M) (he : en G M (qv Q) Qf) (h : wp_X9_share_J140 x1 x2 x3 x4 x5 s0 s1 w Q K57) (hK57 : ∀ (x4 : Int32) (x5 : Int32) (w : Wd), K57 x4 x5 w → jq G D_X9_share M Qf 57 [(0, .ref (aD G 0 32)), (1, .int x1), (2, .int x2), (3, .int x3), (4, .int x4), (5, .int x5)] [] w) : jq G D_X9_share M Qf 140 [(0, .ref (aD G 0 32)), (1, .int x1), (2, .int x2), (3, .int x3), (4, .int x4), (5, .int x5)] [.int s0, .int s1, .ref (aD G 0 48)] w := by
  unfold wp_X9_share_J140 at h
  obtain ⟨b140, h⟩ := h
  refine jq_iast (n := 0) (o := 48) (j := s1.toNatClampNeg) dX9_share_140 hC (cl_0 (by decide)) (fun _ => rfl) b140 rfl ?_
  refine jq_w (fun w140 e140 => ?_)
  have h := h w140 e140
  refine jq_iload (k0 := 4) dX9_share_141 hC rfl ?_
  refine jq_aload_n (k0 := 0) dX9_share_143 hC rfl rfl ?_
  refine jq_get (k0 := 18) (n := 0) (o := 32) dX9_share_144 hC (cl_0 (by decide)) rfl rfl hi_X9_share_X9 (by decide) hl_X9_share_53 rfl rfl ?_
  refine jq_iload (k0 := 5) dX9_share_147 hC rfl ?_
  obtain ⟨b149, h⟩ := h
  refine jq_iald (n := 0) (o := 47) (j := x5.toNatClampNeg) dX9_share_149 hC (cl_0 (by decide)) rfl b149 rfl ?_
  refine jq_isub dX9_share_150 hC ?_
  refine jq_istore (L' := [(4, .int (x4 - (wi w140 0 47 x5.toNatClampNeg))), (0, .ref (aD G 0 32)), (1, .int x1), (2, .int x2), (3, .int x3), (5, .int x5)]) dX9_share_151 hC (by decide) rfl ?_
  refine jq_iinc (k0 := 5) (v := (x5 + 1)) (L' := [(5, .int (x5 + 1)), (4, .int (x4 - (wi w140 0 47 x5.toNatClampNeg))), (0, .ref (aD G 0 32)), (1, .int x1), (2, .int x2), (3, .int x3)]) dX9_share_153 hC rfl rfl (by decide) rfl ?_
  refine jq_goto (tgt := 57) dX9_share_156 hC (by decide) ?_
  exact jq_less (L' := [(0, .ref (aD G 0 32)), (1, .int x1), (2, .int x2), (3, .int x3), (4, .int (x4 - (wi w140 0 47 x5.toNatClampNeg))), (5, .int (x5 + 1))]) [2, 3, 4, 5, 1, 0] rfl (hK57 _ _ _ h)
theorem ok_X9_share_J104 {G : Gt} {M : Mx} {Qf : State → Prop} {x1 : Int32} {x2 : Int32} {x3 : Int32} {x4 : Int32} {x5 : Int32} {s0 : Int32} {s1 : Int32} {w : Wd} {Q : Wd → Prop} {K57 : Int32 → Int32 → Wd → Prop} (hC : cx G D_X9_share M) (he : en G M (qv Q) Qf) (h : wp_X9_share_J104 x1 x2 x3 x4 x5 s0 s1 w Q K57) (hK57 : ∀ (x4 : Int32) (x5 : Int32) (w : Wd), K57 x4 x5 w → jq G D_X9_share M Qf 57 [(0, .ref (aD G 0 32)), (1, .int x1), (2, .int x2), (3, .int x3), (4, .int x4), (5, .int x5)] [] w) : jq G D_X9_share M Qf 104 [(0, .ref (aD G 0 32)), (1, .int x1), (2, .int x2), (3, .int x3), (4, .int x4), (5, .int x5)] [.int s0, .int s1, .ref (aD G 0 47)] w := by
  unfold wp_X9_share_J104 at h
  obtain ⟨b104, h⟩ := h
  refine jq_iast (n := 0) (o := 47) (j := s1.toNatClampNeg) dX9_share_104 hC (cl_0 (by decide)) (fun _ => rfl) b104 rfl ?_
  refine jq_w (fun w104 e104 => ?_)
  have h := h w104 e104
  refine jq_aload_n (k0 := 0) dX9_share_105 hC rfl rfl ?_
  refine jq_get (k0 := 19) (n := 0) (o := 32) dX9_share_106 hC (cl_0 (by decide)) rfl rfl hi_X9_share_X9 (by decide) hl_X9_share_56 rfl rfl ?_
  refine jq_iload (k0 := 5) dX9_share_109 hC rfl ?_
  refine jq_aload_n (k0 := 0) dX9_share_111 hC rfl rfl ?_
  refine jq_iload_n (k0 := 1) dX9_share_112 hC rfl rfl ?_
  refine jq_iload (k0 := 5) dX9_share_113 hC rfl ?_
  refine jq_callV (As := [.int x1, .int x5]) (rest := [.int x5, .ref (aD G 0 48)]) (n := 0) (o := 32) (D' := D_X9_isFree) dX9_share_115 hC (cl_0 (by decide)) rfl rfl rfl (mt_X9_isFree h) gX9_share_X9_isFree rfl ⟨rfl, rfl, Nat.le_of_ble_eq_true rfl, Nat.le_of_ble_eq_true rfl⟩ nm_X9_isFree rfl (Nat.le_of_ble_eq_true rfl) (kIp fun r115 h => ?_)
  refine jq_if_eq (tgt := 139) dX9_share_118 hC (by decide) (fun c118 => ?_) (fun c118 => ?_)
  · have h := h.1 c118
    refine jq_iconst (v := (-1 : Int32)) dX9_share_139 hC (by decide) ?_
    refine jq_less (L' := [(0, .ref (aD G 0 32)), (1, .int x1), (2, .int x2), (3, .int x3), (4, .int x4), (5, .int x5)]) [0, 1, 2, 3, 4, 5] rfl ?_
    exact ok_X9_share_J140 hC he h hK57
  · have h := h.2 c118
    refine jq_iload_n (k0 := 2) dX9_share_121 hC rfl rfl ?_
    refine jq_aload_n (k0 := 0) dX9_share_122 hC rfl rfl ?_
    refine jq_get (k0 := 1) (n := 0) (o := 32) dX9_share_123 hC (cl_0 (by decide)) rfl rfl hi_X9_share_X9 (by decide) hl_X9_share_7 rfl rfl ?_
    refine jq_iload (k0 := 5) dX9_share_126 hC rfl ?_
    refine jq_iconst (v := (2 : Int32)) dX9_share_128 hC (by decide) ?_
    refine jq_callS (As := [.int x5, .int (2 : Int32)]) (rest := [.ref (aD G 0 33), .int x2, .int x5, .ref (aD G 0 48)]) (D' := D_X9_of) dX9_share_129 hC (mt_X9_of h) gX9_share_X9_of rfl ⟨rfl, rfl, Nat.le_of_ble_eq_true rfl, Nat.le_of_ble_eq_true rfl⟩ nm_X9_of rfl (Nat.le_of_ble_eq_true rfl) (kIp fun r129 h => ?_)
    obtain ⟨b132, h⟩ := h
    refine jq_iald (n := 0) (o := 33) (j := r129.toNatClampNeg) dX9_share_132 hC (cl_0 (by decide)) rfl b132 rfl ?_
    refine jq_imul dX9_share_133 hC ?_
    refine jq_iload_n (k0 := 3) dX9_share_134 hC rfl rfl ?_
    obtain ⟨b135, h⟩ := h
    refine jq_irem dX9_share_135 hC b135 ?_
    refine jq_goto (tgt := 140) dX9_share_136 hC (by decide) ?_
    refine jq_less (L' := [(0, .ref (aD G 0 32)), (1, .int x1), (2, .int x2), (3, .int x3), (4, .int x4), (5, .int x5)]) [0, 1, 2, 3, 4, 5] rfl ?_
    exact ok_X9_share_J140 hC he h hK57
theorem ok_X9_share_B57 {G : Gt} {M : Mx} {Qf : State → Prop} {x1 : Int32} {x2 : Int32} {x3 : Int32} {x4 : Int32} {x5 : Int32} {w : Wd} {Q : Wd → Prop} {K57 : Int32 → Int32 → Wd → Prop} (hC : cx G D_X9_share M) (he : en G M (qv Q) Qf) (h : wp_X9_share_B57 x1 x2 x3 x4 x5 w Q K57) (hK57 : ∀ (x4 : Int32) (x5 : Int32) (w : Wd), K57 x4 x5 w → jq G D_X9_share M Qf 57 [(0, .ref (aD G 0 32)), (1, .int x1), (2, .int x2), (3, .int x3), (4, .int x4), (5, .int x5)] [] w) : jq G D_X9_share M Qf 57 [(0, .ref (aD G 0 32)), (1, .int x1), (2, .int x2), (3, .int x3), (4, .int x4), (5, .int x5)] [] w := by
  unfold wp_X9_share_B57 at h
  refine jq_iload (k0 := 5) dX9_share_57 hC rfl ?_
  refine jq_aload_n (k0 := 0) dX9_share_59 hC rfl rfl ?_
  refine jq_get (k0 := 1) (n := 0) (o := 32) dX9_share_60 hC (cl_0 (by decide)) rfl rfl hi_X9_share_X9 (by decide) hl_X9_share_7 rfl rfl ?_
  refine jq_bipush (v := (11 : Int32)) dX9_share_63 hC (by decide) ?_
  refine jq_iald (n := 0) (o := 33) (j := 11) dX9_share_65 hC (cl_0 (by decide)) rfl (vin (by decide)) (by decide) ?_
  refine jq_icmp_ge (tgt := 159) dX9_share_66 hC (by decide) (fun c66 => ?_) (fun c66 => ?_)
  · have h := h.1 c66
    refine jq_less (L' := [(0, .ref (aD G 0 32)), (4, .int x4)]) [0, 4] rfl ?_
    exact ok_X9_share_L159 hC he h
  · have h := h.2 c66
    refine jq_aload_n (k0 := 0) dX9_share_69 hC rfl rfl ?_
    refine jq_get (k0 := 18) (n := 0) (o := 32) dX9_share_70 hC (cl_0 (by decide)) rfl rfl hi_X9_share_X9 (by decide) hl_X9_share_53 rfl rfl ?_
    refine jq_iload (k0 := 5) dX9_share_73 hC rfl ?_
    refine jq_aload_n (k0 := 0) dX9_share_75 hC rfl rfl ?_
    refine jq_iload_n (k0 := 1) dX9_share_76 hC rfl rfl ?_
    refine jq_iload (k0 := 5) dX9_share_77 hC rfl ?_
    refine jq_callV (As := [.int x1, .int x5]) (rest := [.int x5, .ref (aD G 0 47)]) (n := 0) (o := 32) (D' := D_X9_isFree) dX9_share_79 hC (cl_0 (by decide)) rfl rfl rfl (mt_X9_isFree h) gX9_share_X9_isFree rfl ⟨rfl, rfl, Nat.le_of_ble_eq_true rfl, Nat.le_of_ble_eq_true rfl⟩ nm_X9_isFree rfl (Nat.le_of_ble_eq_true rfl) (kIp fun r79 h => ?_)
    refine jq_if_eq (tgt := 103) dX9_share_82 hC (by decide) (fun c82 => ?_) (fun c82 => ?_)
    · have h := h.1 c82
      refine jq_iconst (v := (0 : Int32)) dX9_share_103 hC (by decide) ?_
      refine jq_less (L' := [(0, .ref (aD G 0 32)), (1, .int x1), (2, .int x2), (3, .int x3), (4, .int x4), (5, .int x5)]) [0, 1, 2, 3, 4, 5] rfl ?_
      exact ok_X9_share_J104 hC he h hK57
    · have h := h.2 c82
      refine jq_iload_n (k0 := 2) dX9_share_85 hC rfl rfl ?_
      refine jq_aload_n (k0 := 0) dX9_share_86 hC rfl rfl ?_
      refine jq_get (k0 := 1) (n := 0) (o := 32) dX9_share_87 hC (cl_0 (by decide)) rfl rfl hi_X9_share_X9 (by decide) hl_X9_share_7 rfl rfl ?_
      refine jq_iload (k0 := 5) dX9_share_90 hC rfl ?_
      refine jq_iconst (v := (2 : Int32)) dX9_share_92 hC (by decide) ?_
      refine jq_callS (As := [.int x5, .int (2 : Int32)]) (rest := [.ref (aD G 0 33), .int x2, .int x5, .ref (aD G 0 47)]) (D' := D_X9_of) dX9_share_93 hC (mt_X9_of h) gX9_share_X9_of rfl ⟨rfl, rfl, Nat.le_of_ble_eq_true rfl, Nat.le_of_ble_eq_true rfl⟩ nm_X9_of rfl (Nat.le_of_ble_eq_true rfl) (kIp fun r93 h => ?_)
      obtain ⟨b96, h⟩ := h
      refine jq_iald (n := 0) (o := 33) (j := r93.toNatClampNeg) dX9_share_96 hC (cl_0 (by decide)) rfl b96 rfl ?_
      refine jq_imul dX9_share_97 hC ?_
      refine jq_iload_n (k0 := 3) dX9_share_98 hC rfl rfl ?_
      obtain ⟨b99, h⟩ := h
      refine jq_idiv dX9_share_99 hC b99 ?_
      refine jq_goto (tgt := 104) dX9_share_100 hC (by decide) ?_
      refine jq_less (L' := [(0, .ref (aD G 0 32)), (1, .int x1), (2, .int x2), (3, .int x3), (4, .int x4), (5, .int x5)]) [0, 1, 2, 3, 4, 5] rfl ?_
      exact ok_X9_share_J104 hC he h hK57
theorem ok_X9_share_L57 {G : Gt} {M : Mx} {Qf : State → Prop} {x1 : Int32} {x2 : Int32} {x3 : Int32} {x4 : Int32} {x5 : Int32} {w : Wd} {Q : Wd → Prop} (hC : cx G D_X9_share M) (he : en G M (qv Q) Qf) (h : wp_X9_share_L57 x1 x2 x3 x4 x5 w Q) : jq G D_X9_share M Qf 57 [(0, .ref (aD G 0 32)), (1, .int x1), (2, .int x2), (3, .int x3), (4, .int x4), (5, .int x5)] [] w := by
  unfold wp_X9_share_L57 at h
  obtain ⟨I, μ, h0, hs⟩ := h
  exact lp_ind (σ := Int32 × Int32 × Wd) (P := fun s => jq G D_X9_share M Qf 57 [(0, .ref (aD G 0 32)), (1, .int x1), (2, .int x2), (3, .int x3), (4, .int s.1), (5, .int s.2.1)] [] s.2.2) (fun s => I s.1 s.2.1 s.2.2) (fun s => μ s.1 s.2.1 s.2.2) (fun s h1 ih => ok_X9_share_B57 hC he (hs s.1 s.2.1 s.2.2 h1) (fun x4' x5' w' h => ih (x4', x5', w') h.1 h.2)) (x4, x5, w) h0
theorem ok_X9_share_B5 {G : Gt} {M : Mx} {Qf : State → Prop} {x1 : Int32} {x2 : Int32} {x3 : Int32} {x4 : Int32} {w : Wd} {Q : Wd → Prop} {K5 : Int32 → Int32 → Prop} (hC : cx G D_X9_share M) (he : en G M (qv Q) Qf) (h : wp_X9_share_B5 x1 x2 x3 x4 w Q K5) (hK5 : ∀ (x3 : Int32) (x4 : Int32), K5 x3 x4 → jq G D_X9_share M Qf 5 [(0, .ref (aD G 0 32)), (1, .int x1), (2, .int x2), (3, .int x3), (4, .int x4)] [] w) : jq G D_X9_share M Qf 5 [(0, .ref (aD G 0 32)), (1, .int x1), (2, .int x2), (3, .int x3), (4, .int x4)] [] w := by
  unfold wp_X9_share_B5 at h
  refine jq_iload (k0 := 4) dX9_share_5 hC rfl ?_
  refine jq_aload_n (k0 := 0) dX9_share_7 hC rfl rfl ?_
  refine jq_get (k0 := 1) (n := 0) (o := 32) dX9_share_8 hC (cl_0 (by decide)) rfl rfl hi_X9_share_X9 (by decide) hl_X9_share_7 rfl rfl ?_
  refine jq_bipush (v := (11 : Int32)) dX9_share_11 hC (by decide) ?_
  refine jq_iald (n := 0) (o := 33) (j := 11) dX9_share_13 hC (cl_0 (by decide)) rfl (vin (by decide)) (by decide) ?_
  refine jq_icmp_ge (tgt := 51) dX9_share_14 hC (by decide) (fun c14 => ?_) (fun c14 => ?_)
  · have h := h.1 c14
    refine jq_iload_n (k0 := 2) dX9_share_51 hC rfl rfl ?_
    refine jq_istore (L' := [(4, .int x2), (0, .ref (aD G 0 32)), (1, .int x1), (2, .int x2), (3, .int x3)]) dX9_share_52 hC (by decide) rfl ?_
    refine jq_iconst (v := (0 : Int32)) dX9_share_54 hC (by decide) ?_
    refine jq_istore (L' := [(5, .int (0 : Int32)), (4, .int x2), (0, .ref (aD G 0 32)), (1, .int x1), (2, .int x2), (3, .int x3)]) dX9_share_55 hC (by decide) rfl ?_
    refine jq_less (L' := [(0, .ref (aD G 0 32)), (1, .int x1), (2, .int x2), (3, .int x3), (4, .int x2), (5, .int (0 : Int32))]) [2, 3, 4, 5, 1, 0] rfl ?_
    exact ok_X9_share_L57 hC he h
  · have h := h.2 c14
    refine jq_iload_n (k0 := 3) dX9_share_17 hC rfl rfl ?_
    refine jq_aload_n (k0 := 0) dX9_share_18 hC rfl rfl ?_
    refine jq_iload_n (k0 := 1) dX9_share_19 hC rfl rfl ?_
    refine jq_iload (k0 := 4) dX9_share_20 hC rfl ?_
    refine jq_callV (As := [.int x1, .int x4]) (rest := [.int x3]) (n := 0) (o := 32) (D' := D_X9_isFree) dX9_share_22 hC (cl_0 (by decide)) rfl rfl rfl (mt_X9_isFree h) gX9_share_X9_isFree rfl ⟨rfl, rfl, Nat.le_of_ble_eq_true rfl, Nat.le_of_ble_eq_true rfl⟩ nm_X9_isFree rfl (Nat.le_of_ble_eq_true rfl) (kIp fun r22 h => ?_)
    refine jq_if_eq (tgt := 42) dX9_share_25 hC (by decide) (fun c25 => ?_) (fun c25 => ?_)
    · have h := h.1 c25
      refine jq_iconst (v := (0 : Int32)) dX9_share_42 hC (by decide) ?_
      refine jq_iadd dX9_share_43 hC ?_
      refine jq_istore_n (L' := [(3, .int (x3 + (0 : Int32))), (0, .ref (aD G 0 32)), (1, .int x1), (2, .int x2), (4, .int x4)]) dX9_share_44 hC rfl (by decide) rfl ?_
      refine jq_iinc (k0 := 4) (v := (x4 + 1)) (L' := [(4, .int (x4 + 1)), (3, .int (x3 + (0 : Int32))), (0, .ref (aD G 0 32)), (1, .int x1), (2, .int x2)]) dX9_share_45 hC rfl rfl (by decide) rfl ?_
      refine jq_goto (tgt := 5) dX9_share_48 hC (by decide) ?_
      exact jq_less (L' := [(0, .ref (aD G 0 32)), (1, .int x1), (2, .int x2), (3, .int (x3 + (0 : Int32))), (4, .int (x4 + 1))]) [2, 3, 4, 1, 0] rfl (hK5 _ _ h)
    · have h := h.2 c25
      refine jq_aload_n (k0 := 0) dX9_share_28 hC rfl rfl ?_
      refine jq_get (k0 := 1) (n := 0) (o := 32) dX9_share_29 hC (cl_0 (by decide)) rfl rfl hi_X9_share_X9 (by decide) hl_X9_share_7 rfl rfl ?_
      refine jq_iload (k0 := 4) dX9_share_32 hC rfl ?_
      refine jq_iconst (v := (2 : Int32)) dX9_share_34 hC (by decide) ?_
      refine jq_callS (As := [.int x4, .int (2 : Int32)]) (rest := [.ref (aD G 0 33), .int x3]) (D' := D_X9_of) dX9_share_35 hC (mt_X9_of h) gX9_share_X9_of rfl ⟨rfl, rfl, Nat.le_of_ble_eq_true rfl, Nat.le_of_ble_eq_true rfl⟩ nm_X9_of rfl (Nat.le_of_ble_eq_true rfl) (kIp fun r35 h => ?_)
      obtain ⟨b38, h⟩ := h
      refine jq_iald (n := 0) (o := 33) (j := r35.toNatClampNeg) dX9_share_38 hC (cl_0 (by decide)) rfl b38 rfl ?_
      refine jq_goto (tgt := 43) dX9_share_39 hC (by decide) ?_
      refine jq_iadd dX9_share_43 hC ?_
      refine jq_istore_n (L' := [(3, .int (x3 + (wi w 0 33 r35.toNatClampNeg))), (0, .ref (aD G 0 32)), (1, .int x1), (2, .int x2), (4, .int x4)]) dX9_share_44 hC rfl (by decide) rfl ?_
      refine jq_iinc (k0 := 4) (v := (x4 + 1)) (L' := [(4, .int (x4 + 1)), (3, .int (x3 + (wi w 0 33 r35.toNatClampNeg))), (0, .ref (aD G 0 32)), (1, .int x1), (2, .int x2)]) dX9_share_45 hC rfl rfl (by decide) rfl ?_
      refine jq_goto (tgt := 5) dX9_share_48 hC (by decide) ?_
      exact jq_less (L' := [(0, .ref (aD G 0 32)), (1, .int x1), (2, .int x2), (3, .int (x3 + (wi w 0 33 r35.toNatClampNeg))), (4, .int (x4 + 1))]) [2, 3, 4, 1, 0] rfl (hK5 _ _ h)
theorem ok_X9_share_L5 {G : Gt} {M : Mx} {Qf : State → Prop} {x1 : Int32} {x2 : Int32} {x3 : Int32} {x4 : Int32} {w : Wd} {Q : Wd → Prop} (hC : cx G D_X9_share M) (he : en G M (qv Q) Qf) (h : wp_X9_share_L5 x1 x2 x3 x4 w Q) : jq G D_X9_share M Qf 5 [(0, .ref (aD G 0 32)), (1, .int x1), (2, .int x2), (3, .int x3), (4, .int x4)] [] w := by
  unfold wp_X9_share_L5 at h
  obtain ⟨I, μ, h0, hs⟩ := h
  exact lp_ind (σ := Int32 × Int32) (P := fun s => jq G D_X9_share M Qf 5 [(0, .ref (aD G 0 32)), (1, .int x1), (2, .int x2), (3, .int s.1), (4, .int s.2)] [] w) (fun s => I s.1 s.2) (fun s => μ s.1 s.2) (fun s h1 ih => ok_X9_share_B5 hC he (hs s.1 s.2 h1) (fun x3' x4' h => ih (x3', x4') h.1 h.2)) (x3, x4) h0
theorem ok_X9_share {G : Gt} {M : Mx} {Qf : State → Prop} {x1 : Int32} {x2 : Int32} {w : Wd} {Q : Wd → Prop} (hC : cx G D_X9_share M) (he : en G M (qv Q) Qf) (h : wp_X9_share x1 x2 w Q) : jq G D_X9_share M Qf 0 [(0, .ref (aD G 0 32)), (1, .int x1), (2, .int x2)] [] w := by
  unfold wp_X9_share at h
  refine jq_iconst (v := (0 : Int32)) dX9_share_0 hC (by decide) ?_
  refine jq_istore_n (L' := [(3, .int (0 : Int32)), (0, .ref (aD G 0 32)), (1, .int x1), (2, .int x2)]) dX9_share_1 hC rfl (by decide) rfl ?_
  refine jq_iconst (v := (0 : Int32)) dX9_share_2 hC (by decide) ?_
  refine jq_istore (L' := [(4, .int (0 : Int32)), (3, .int (0 : Int32)), (0, .ref (aD G 0 32)), (1, .int x1), (2, .int x2)]) dX9_share_3 hC (by decide) rfl ?_
  refine jq_less (L' := [(0, .ref (aD G 0 32)), (1, .int x1), (2, .int x2), (3, .int (0 : Int32)), (4, .int (0 : Int32))]) [2, 3, 4, 1, 0] rfl ?_
  exact ok_X9_share_L5 hC he h
theorem mt_X9_share {G : Gt} {x1 : Int32} {x2 : Int32} {w : Wd} {Q : Wd → Prop} (h : wp_X9_share x1 x2 w Q) : Mt G D_X9_share [.ref (aD G 0 32), .int x1, .int x2] w (qv Q) := Mt_of (by decide +kernel) rfl rfl (Nat.le_of_ble_eq_true rfl) (fun M Qf hC he => ok_X9_share hC he h)
/-! X9.spreadAll()V -/
theorem dX9_spreadAll_0 : decode cX9_spreadAll 0 = .ok (.iconst 0, 1) := by decide +kernel
theorem dX9_spreadAll_1 : decode cX9_spreadAll 1 = .ok (.istore_n 1, 1) := by decide +kernel
theorem dX9_spreadAll_2 : decode cX9_spreadAll 2 = .ok (.iload_n 1, 1) := by decide +kernel
theorem dX9_spreadAll_3 : decode cX9_spreadAll 3 = .ok (.bipush 20, 2) := by decide +kernel
theorem dX9_spreadAll_5 : decode cX9_spreadAll 5 = .ok (.if_icmp .ge 23, 3) := by decide +kernel
theorem dX9_spreadAll_8 : decode cX9_spreadAll 8 = .ok (.aload_n 0, 1) := by decide +kernel
theorem dX9_spreadAll_9 : decode cX9_spreadAll 9 = .ok (.getfield 47, 3) := by decide +kernel
theorem dX9_spreadAll_12 : decode cX9_spreadAll 12 = .ok (.iload_n 1, 1) := by decide +kernel
theorem dX9_spreadAll_13 : decode cX9_spreadAll 13 = .ok (.iconst 0, 1) := by decide +kernel
theorem dX9_spreadAll_14 : decode cX9_spreadAll 14 = .ok (.iastore, 1) := by decide +kernel
theorem dX9_spreadAll_15 : decode cX9_spreadAll 15 = .ok (.aload_n 0, 1) := by decide +kernel
theorem dX9_spreadAll_16 : decode cX9_spreadAll 16 = .ok (.getfield 50, 3) := by decide +kernel
theorem dX9_spreadAll_19 : decode cX9_spreadAll 19 = .ok (.iload_n 1, 1) := by decide +kernel
theorem dX9_spreadAll_20 : decode cX9_spreadAll 20 = .ok (.iconst 0, 1) := by decide +kernel
theorem dX9_spreadAll_21 : decode cX9_spreadAll 21 = .ok (.bastore, 1) := by decide +kernel
theorem dX9_spreadAll_22 : decode cX9_spreadAll 22 = .ok (.iinc 1 1, 3) := by decide +kernel
theorem dX9_spreadAll_25 : decode cX9_spreadAll 25 = .ok (.goto (-23), 3) := by decide +kernel
theorem dX9_spreadAll_28 : decode cX9_spreadAll 28 = .ok (.iconst 0, 1) := by decide +kernel
theorem dX9_spreadAll_29 : decode cX9_spreadAll 29 = .ok (.istore_n 1, 1) := by decide +kernel
theorem dX9_spreadAll_30 : decode cX9_spreadAll 30 = .ok (.iload_n 1, 1) := by decide +kernel
theorem dX9_spreadAll_31 : decode cX9_spreadAll 31 = .ok (.aload_n 0, 1) := by decide +kernel
theorem dX9_spreadAll_32 : decode cX9_spreadAll 32 = .ok (.getfield 98, 3) := by decide +kernel
theorem dX9_spreadAll_35 : decode cX9_spreadAll 35 = .ok (.if_icmp .ge 185, 3) := by decide +kernel
theorem dX9_spreadAll_38 : decode cX9_spreadAll 38 = .ok (.aload_n 0, 1) := by decide +kernel
theorem dX9_spreadAll_39 : decode cX9_spreadAll 39 = .ok (.iload_n 1, 1) := by decide +kernel
theorem dX9_spreadAll_40 : decode cX9_spreadAll 40 = .ok (.invokevirtual 113, 3) := by decide +kernel
theorem dX9_spreadAll_43 : decode cX9_spreadAll 43 = .ok (.istore_n 2, 1) := by decide +kernel
theorem dX9_spreadAll_44 : decode cX9_spreadAll 44 = .ok (.iconst 0, 1) := by decide +kernel
theorem dX9_spreadAll_45 : decode cX9_spreadAll 45 = .ok (.istore_n 3, 1) := by decide +kernel
theorem dX9_spreadAll_46 : decode cX9_spreadAll 46 = .ok (.iload_n 3, 1) := by decide +kernel
theorem dX9_spreadAll_47 : decode cX9_spreadAll 47 = .ok (.aload_n 0, 1) := by decide +kernel
theorem dX9_spreadAll_48 : decode cX9_spreadAll 48 = .ok (.getfield 7, 3) := by decide +kernel
theorem dX9_spreadAll_51 : decode cX9_spreadAll 51 = .ok (.bipush 11, 2) := by decide +kernel
theorem dX9_spreadAll_53 : decode cX9_spreadAll 53 = .ok (.iaload, 1) := by decide +kernel
theorem dX9_spreadAll_54 : decode cX9_spreadAll 54 = .ok (.if_icmp .ge 25, 3) := by decide +kernel
theorem dX9_spreadAll_57 : decode cX9_spreadAll 57 = .ok (.iload_n 2, 1) := by decide +kernel
theorem dX9_spreadAll_58 : decode cX9_spreadAll 58 = .ok (.aload_n 0, 1) := by decide +kernel
theorem dX9_spreadAll_59 : decode cX9_spreadAll 59 = .ok (.iload_n 1, 1) := by decide +kernel
theorem dX9_spreadAll_60 : decode cX9_spreadAll 60 = .ok (.iload_n 3, 1) := by decide +kernel
theorem dX9_spreadAll_61 : decode cX9_spreadAll 61 = .ok (.invokevirtual 104, 3) := by decide +kernel
theorem dX9_spreadAll_64 : decode cX9_spreadAll 64 = .ok (.aload_n 0, 1) := by decide +kernel
theorem dX9_spreadAll_65 : decode cX9_spreadAll 65 = .ok (.getfield 47, 3) := by decide +kernel
theorem dX9_spreadAll_68 : decode cX9_spreadAll 68 = .ok (.iload_n 3, 1) := by decide +kernel
theorem dX9_spreadAll_69 : decode cX9_spreadAll 69 = .ok (.iaload, 1) := by decide +kernel
theorem dX9_spreadAll_70 : decode cX9_spreadAll 70 = .ok (.imul, 1) := by decide +kernel
theorem dX9_spreadAll_71 : decode cX9_spreadAll 71 = .ok (.iadd, 1) := by decide +kernel
theorem dX9_spreadAll_72 : decode cX9_spreadAll 72 = .ok (.istore_n 2, 1) := by decide +kernel
theorem dX9_spreadAll_73 : decode cX9_spreadAll 73 = .ok (.iinc 3 1, 3) := by decide +kernel
theorem dX9_spreadAll_76 : decode cX9_spreadAll 76 = .ok (.goto (-30), 3) := by decide +kernel
theorem dX9_spreadAll_79 : decode cX9_spreadAll 79 = .ok (.aload_n 0, 1) := by decide +kernel
theorem dX9_spreadAll_80 : decode cX9_spreadAll 80 = .ok (.getfield 44, 3) := by decide +kernel
theorem dX9_spreadAll_83 : decode cX9_spreadAll 83 = .ok (.iload_n 1, 1) := by decide +kernel
theorem dX9_spreadAll_84 : decode cX9_spreadAll 84 = .ok (.iload_n 2, 1) := by decide +kernel
theorem dX9_spreadAll_85 : decode cX9_spreadAll 85 = .ok (.invokestatic 107, 3) := by decide +kernel
theorem dX9_spreadAll_88 : decode cX9_spreadAll 88 = .ok (.iastore, 1) := by decide +kernel
theorem dX9_spreadAll_89 : decode cX9_spreadAll 89 = .ok (.aload_n 0, 1) := by decide +kernel
theorem dX9_spreadAll_90 : decode cX9_spreadAll 90 = .ok (.iload_n 1, 1) := by decide +kernel
theorem dX9_spreadAll_91 : decode cX9_spreadAll 91 = .ok (.iload_n 2, 1) := by decide +kernel
theorem dX9_spreadAll_92 : decode cX9_spreadAll 92 = .ok (.invokestatic 107, 3) := by decide +kernel
theorem dX9_spreadAll_95 : decode cX9_spreadAll 95 = .ok (.invokevirtual 123, 3) := by decide +kernel
theorem dX9_spreadAll_98 : decode cX9_spreadAll 98 = .ok (.iconst 0, 1) := by decide +kernel
theorem dX9_spreadAll_99 : decode cX9_spreadAll 99 = .ok (.istore_n 3, 1) := by decide +kernel
theorem dX9_spreadAll_100 : decode cX9_spreadAll 100 = .ok (.iload_n 3, 1) := by decide +kernel
theorem dX9_spreadAll_101 : decode cX9_spreadAll 101 = .ok (.aload_n 0, 1) := by decide +kernel
theorem dX9_spreadAll_102 : decode cX9_spreadAll 102 = .ok (.getfield 7, 3) := by decide +kernel
theorem dX9_spreadAll_105 : decode cX9_spreadAll 105 = .ok (.bipush 11, 2) := by decide +kernel
theorem dX9_spreadAll_107 : decode cX9_spreadAll 107 = .ok (.iaload, 1) := by decide +kernel
theorem dX9_spreadAll_108 : decode cX9_spreadAll 108 = .ok (.if_icmp .ge 58, 3) := by decide +kernel
theorem dX9_spreadAll_111 : decode cX9_spreadAll 111 = .ok (.aload_n 0, 1) := by decide +kernel
theorem dX9_spreadAll_112 : decode cX9_spreadAll 112 = .ok (.getfield 47, 3) := by decide +kernel
theorem dX9_spreadAll_115 : decode cX9_spreadAll 115 = .ok (.iload_n 3, 1) := by decide +kernel
theorem dX9_spreadAll_116 : decode cX9_spreadAll 116 = .ok (.dup2, 1) := by decide +kernel
theorem dX9_spreadAll_117 : decode cX9_spreadAll 117 = .ok (.iaload, 1) := by decide +kernel
theorem dX9_spreadAll_118 : decode cX9_spreadAll 118 = .ok (.aload_n 0, 1) := by decide +kernel
theorem dX9_spreadAll_119 : decode cX9_spreadAll 119 = .ok (.iload_n 1, 1) := by decide +kernel
theorem dX9_spreadAll_120 : decode cX9_spreadAll 120 = .ok (.iload_n 3, 1) := by decide +kernel
theorem dX9_spreadAll_121 : decode cX9_spreadAll 121 = .ok (.invokevirtual 119, 3) := by decide +kernel
theorem dX9_spreadAll_124 : decode cX9_spreadAll 124 = .ok (.ifCond .eq 33, 3) := by decide +kernel
theorem dX9_spreadAll_127 : decode cX9_spreadAll 127 = .ok (.iload_n 2, 1) := by decide +kernel
theorem dX9_spreadAll_128 : decode cX9_spreadAll 128 = .ok (.ifCond .le 13, 3) := by decide +kernel
theorem dX9_spreadAll_131 : decode cX9_spreadAll 131 = .ok (.aload_n 0, 1) := by decide +kernel
theorem dX9_spreadAll_132 : decode cX9_spreadAll 132 = .ok (.getfield 53, 3) := by decide +kernel
theorem dX9_spreadAll_135 : decode cX9_spreadAll 135 = .ok (.iload_n 3, 1) := by decide +kernel
theorem dX9_spreadAll_136 : decode cX9_spreadAll 136 = .ok (.iaload, 1) := by decide +kernel
theorem dX9_spreadAll_137 : decode cX9_spreadAll 137 = .ok (.ineg, 1) := by decide +kernel
theorem dX9_spreadAll_138 : decode cX9_spreadAll 138 = .ok (.goto 9, 3) := by decide +kernel
theorem dX9_spreadAll_141 : decode cX9_spreadAll 141 = .ok (.aload_n 0, 1) := by decide +kernel
theorem dX9_spreadAll_142 : decode cX9_spreadAll 142 = .ok (.getfield 53, 3) := by decide +kernel
theorem dX9_spreadAll_145 : decode cX9_spreadAll 145 = .ok (.iload_n 3, 1) := by decide +kernel
theorem dX9_spreadAll_146 : decode cX9_spreadAll 146 = .ok (.iaload, 1) := by decide +kernel
theorem dX9_spreadAll_147 : decode cX9_spreadAll 147 = .ok (.aload_n 0, 1) := by decide +kernel
theorem dX9_spreadAll_148 : decode cX9_spreadAll 148 = .ok (.iload_n 1, 1) := by decide +kernel
theorem dX9_spreadAll_149 : decode cX9_spreadAll 149 = .ok (.iload_n 3, 1) := by decide +kernel
theorem dX9_spreadAll_150 : decode cX9_spreadAll 150 = .ok (.invokevirtual 104, 3) := by decide +kernel
theorem dX9_spreadAll_153 : decode cX9_spreadAll 153 = .ok (.imul, 1) := by decide +kernel
theorem dX9_spreadAll_154 : decode cX9_spreadAll 154 = .ok (.goto 4, 3) := by decide +kernel
theorem dX9_spreadAll_157 : decode cX9_spreadAll 157 = .ok (.iconst 0, 1) := by decide +kernel
theorem dX9_spreadAll_158 : decode cX9_spreadAll 158 = .ok (.iadd, 1) := by decide +kernel
theorem dX9_spreadAll_159 : decode cX9_spreadAll 159 = .ok (.iastore, 1) := by decide +kernel
theorem dX9_spreadAll_160 : decode cX9_spreadAll 160 = .ok (.iinc 3 1, 3) := by decide +kernel
theorem dX9_spreadAll_163 : decode cX9_spreadAll 163 = .ok (.goto (-63), 3) := by decide +kernel
theorem dX9_spreadAll_166 : decode cX9_spreadAll 166 = .ok (.iconst 0, 1) := by decide +kernel
theorem dX9_spreadAll_167 : decode cX9_spreadAll 167 = .ok (.istore_n 3, 1) := by decide +kernel
theorem dX9_spreadAll_168 : decode cX9_spreadAll 168 = .ok (.iload_n 3, 1) := by decide +kernel
theorem dX9_spreadAll_169 : decode cX9_spreadAll 169 = .ok (.aload_n 0, 1) := by decide +kernel
theorem dX9_spreadAll_170 : decode cX9_spreadAll 170 = .ok (.getfield 7, 3) := by decide +kernel
theorem dX9_spreadAll_173 : decode cX9_spreadAll 173 = .ok (.bipush 11, 2) := by decide +kernel
theorem dX9_spreadAll_175 : decode cX9_spreadAll 175 = .ok (.iaload, 1) := by decide +kernel
theorem dX9_spreadAll_176 : decode cX9_spreadAll 176 = .ok (.if_icmp .ge 38, 3) := by decide +kernel
theorem dX9_spreadAll_179 : decode cX9_spreadAll 179 = .ok (.aload_n 0, 1) := by decide +kernel
theorem dX9_spreadAll_180 : decode cX9_spreadAll 180 = .ok (.getfield 50, 3) := by decide +kernel
theorem dX9_spreadAll_183 : decode cX9_spreadAll 183 = .ok (.iload_n 3, 1) := by decide +kernel
theorem dX9_spreadAll_184 : decode cX9_spreadAll 184 = .ok (.aload_n 0, 1) := by decide +kernel
theorem dX9_spreadAll_185 : decode cX9_spreadAll 185 = .ok (.getfield 50, 3) := by decide +kernel
theorem dX9_spreadAll_188 : decode cX9_spreadAll 188 = .ok (.iload_n 3, 1) := by decide +kernel
theorem dX9_spreadAll_189 : decode cX9_spreadAll 189 = .ok (.baload, 1) := by decide +kernel
theorem dX9_spreadAll_190 : decode cX9_spreadAll 190 = .ok (.ifCond .ne 12, 3) := by decide +kernel
theorem dX9_spreadAll_193 : decode cX9_spreadAll 193 = .ok (.aload_n 0, 1) := by decide +kernel
theorem dX9_spreadAll_194 : decode cX9_spreadAll 194 = .ok (.iload_n 1, 1) := by decide +kernel
theorem dX9_spreadAll_195 : decode cX9_spreadAll 195 = .ok (.iload_n 3, 1) := by decide +kernel
theorem dX9_spreadAll_196 : decode cX9_spreadAll 196 = .ok (.invokevirtual 104, 3) := by decide +kernel
theorem dX9_spreadAll_199 : decode cX9_spreadAll 199 = .ok (.ifCond .eq 7, 3) := by decide +kernel
theorem dX9_spreadAll_202 : decode cX9_spreadAll 202 = .ok (.iconst 1, 1) := by decide +kernel
theorem dX9_spreadAll_203 : decode cX9_spreadAll 203 = .ok (.goto 4, 3) := by decide +kernel
theorem dX9_spreadAll_206 : decode cX9_spreadAll 206 = .ok (.iconst 0, 1) := by decide +kernel
theorem dX9_spreadAll_207 : decode cX9_spreadAll 207 = .ok (.bastore, 1) := by decide +kernel
theorem dX9_spreadAll_208 : decode cX9_spreadAll 208 = .ok (.iinc 3 1, 3) := by decide +kernel
theorem dX9_spreadAll_211 : decode cX9_spreadAll 211 = .ok (.goto (-43), 3) := by decide +kernel
theorem dX9_spreadAll_214 : decode cX9_spreadAll 214 = .ok (.iinc 1 1, 3) := by decide +kernel
theorem dX9_spreadAll_217 : decode cX9_spreadAll 217 = .ok (.goto (-187), 3) := by decide +kernel
theorem dX9_spreadAll_220 : decode cX9_spreadAll 220 = .ok (.return_, 1) := by decide +kernel
set_option maxRecDepth 20000 in
theorem ggX9_spreadAll_X9_signIn : GoodIn wsX9_spreadAll wsX9_signIn := goodIn_r _ [15, 16, 32, 33, 34, 35, 36, 37, 38, 39, 40, 41, 42, 43, 44, 45, 46, 47, 48, 49, 50, 51, 52, 53, 54, 55, 56] (by decide +kernel) (by decide +kernel)
set_option maxRecDepth 20000 in
theorem gX9_spreadAll_X9_signIn : GoodIn wsX9_spreadAll (wsV RX9 104 RX9 yX9_signIn wsX9_signIn) := goodIn_app (goodIn_of _ (by decide +kernel)) ggX9_spreadAll_X9_signIn
set_option maxRecDepth 20000 in
theorem ggX9_spreadAll_X9_isFree : GoodIn wsX9_spreadAll wsX9_isFree := goodIn_r _ [31, 2, 12, 13, 14, 10, 15, 16, 32, 33, 34, 35, 36, 37, 38, 39, 40, 41, 42, 43, 44, 45, 46, 47, 48, 49, 50, 51, 52, 53, 54, 55, 56] (by decide +kernel) (by decide +kernel)
set_option maxRecDepth 20000 in
theorem gX9_spreadAll_X9_isFree : GoodIn wsX9_spreadAll (wsV RX9 119 RX9 yX9_isFree wsX9_isFree) := goodIn_app (goodIn_of _ (by decide +kernel)) ggX9_spreadAll_X9_isFree
set_option maxRecDepth 20000 in
theorem ggX9_spreadAll_X9_share : GoodIn wsX9_spreadAll wsX9_share := goodIn_r _ [26, 4, 6, 27, 28, 29, 30, 10, 31, 2, 12, 13, 14, 15, 16, 17, 18, 19, 32, 33, 34, 35, 36, 37, 38, 39, 40, 41, 42, 43, 44, 45, 46, 47, 48, 49, 50, 51, 52, 53, 54, 55, 56] (by decide +kernel) (by decide +kernel)
set_option maxRecDepth 20000 in
theorem gX9_spreadAll_X9_share : GoodIn wsX9_spreadAll (wsV RX9 123 RX9 yX9_share wsX9_share) := goodIn_app (goodIn_of _ (by decide +kernel)) ggX9_spreadAll_X9_share
set_option maxRecDepth 20000 in
theorem ggX9_spreadAll_X9_size : GoodIn wsX9_spreadAll wsX9_size := goodIn_r _ [22] (by decide +kernel) (by decide +kernel)
set_option maxRecDepth 20000 in
theorem gX9_spreadAll_X9_size : GoodIn wsX9_spreadAll (va_wsS RX9 107 yX9_size wsX9_size) := goodIn_app (goodIn_of _ (by decide +kernel)) ggX9_spreadAll_X9_size
set_option maxRecDepth 20000 in
theorem ggX9_spreadAll_X9_missOf : GoodIn wsX9_spreadAll wsX9_missOf := goodIn_r _ [11, 4, 12, 13, 14, 10, 15, 16, 17, 18, 19, 32, 33, 34, 35, 36, 37, 38, 39, 40, 41, 42, 43, 44, 45, 46, 47, 48, 49, 50, 51, 52, 53, 54, 55, 56] (by decide +kernel) (by decide +kernel)
set_option maxRecDepth 20000 in
theorem gX9_spreadAll_X9_missOf : GoodIn wsX9_spreadAll (wsV RX9 113 RX9 yX9_missOf wsX9_missOf) := goodIn_app (goodIn_of _ (by decide +kernel)) ggX9_spreadAll_X9_missOf
def D_X9_spreadAll : Md := (yX9_spreadAll, cX9_spreadAll, 4, none, wsX9_spreadAll, RX9, { frames := 3, cells := 0, slots := 0, locals := 70 })
theorem nm_X9_spreadAll : nmD D_X9_spreadAll 0 := ⟨rfl, by decide +kernel, by decide +kernel, by decide +kernel⟩
theorem hi_X9_spreadAll_X9 : ∀ w ∈ u_ws RX9 TX9 25, w ∈ wsX9_spreadAll := by decide +kernel
theorem hl_X9_spreadAll_7 : Cond.fieldLink RX9 7 "LevelLoopsModel" "s" "[I" ∈ wsX9_spreadAll := by decide +kernel
theorem hl_X9_spreadAll_44 : Cond.fieldLink RX9 44 "LevelLoopsModel" "spread" "[I" ∈ wsX9_spreadAll := by decide +kernel
theorem hl_X9_spreadAll_47 : Cond.fieldLink RX9 47 "LevelLoopsModel" "corrections" "[I" ∈ wsX9_spreadAll := by decide +kernel
theorem hl_X9_spreadAll_50 : Cond.fieldLink RX9 50 "LevelLoopsModel" "isGone" "[Z" ∈ wsX9_spreadAll := by decide +kernel
theorem hl_X9_spreadAll_53 : Cond.fieldLink RX9 53 "LevelLoopsModel" "shares" "[I" ∈ wsX9_spreadAll := by decide +kernel
theorem hl_X9_spreadAll_98 : Cond.fieldLink RX9 98 "LevelLoopsModel" "manyLoops" "I" ∈ wsX9_spreadAll := by decide +kernel
def wp_X9_spreadAll_J207 (x1 : Int32) (x3 : Int32) (s0 : Int32) (s1 : Int32) (w : Wd) (Q : Wd → Prop) (K30 : Int32 → Wd → Prop) (K168 : Int32 → Wd → Prop) : Prop :=
  vp_in s1 20 ∧ zb s0 ∧ (∀ w207 : Wd, w207 = (sI w 0 46 s1.toNatClampNeg s0) → K168 (x3 + 1) w207)
def wp_X9_spreadAll_B168 (x1 : Int32) (x3 : Int32) (w : Wd) (Q : Wd → Prop) (K30 : Int32 → Wd → Prop) (K168 : Int32 → Wd → Prop) : Prop :=
  (((wi w 0 33 11) ≤ x3 → K30 (x1 + 1) w) ∧ (¬ (wi w 0 33 11) ≤ x3 → vp_in x3 20 ∧ ((¬ (wi w 0 46 x3.toNatClampNeg) = 0 → wp_X9_spreadAll_J207 x1 x3 (1 : Int32) x3 w Q K30 K168) ∧ ((wi w 0 46 x3.toNatClampNeg) = 0 → wp_X9_signIn x1 x3 w (fun r196 => ((r196 = 0 → wp_X9_spreadAll_J207 x1 x3 (0 : Int32) x3 w Q K30 K168) ∧ (¬ r196 = 0 → wp_X9_spreadAll_J207 x1 x3 (1 : Int32) x3 w Q K30 K168)))))))
def wp_X9_spreadAll_L168 (x1 : Int32) (x3 : Int32) (w : Wd) (Q : Wd → Prop) (K30 : Int32 → Wd → Prop) : Prop :=
  ∃ (I : Int32 → Wd → Prop) (μ : Int32 → Wd → Nat), I x3 w ∧ ∀ (x3 : Int32) (w : Wd), I x3 w → wp_X9_spreadAll_B168 x1 x3 w Q K30 (fun x3' w' => I x3' w' ∧ μ x3' w' < μ x3 w)
def wp_X9_spreadAll_J158 (x1 : Int32) (x2 : Int32) (x3 : Int32) (s0 : Int32) (s1 : Int32) (s2 : Int32) (w : Wd) (Q : Wd → Prop) (K30 : Int32 → Wd → Prop) (K100 : Int32 → Wd → Prop) : Prop :=
  vp_in s2 20 ∧ (∀ w159 : Wd, w159 = (sI w 0 45 s2.toNatClampNeg (s1 + s0)) → K100 (x3 + 1) w159)
def wp_X9_spreadAll_J147 (x1 : Int32) (x2 : Int32) (x3 : Int32) (s0 : Int32) (s1 : Int32) (s2 : Int32) (w : Wd) (Q : Wd → Prop) (K30 : Int32 → Wd → Prop) (K100 : Int32 → Wd → Prop) : Prop :=
  wp_X9_signIn x1 x3 w (fun r150 => wp_X9_spreadAll_J158 x1 x2 x3 (s0 * r150) s1 s2 w Q K30 K100)
def wp_X9_spreadAll_B100 (x1 : Int32) (x2 : Int32) (x3 : Int32) (w : Wd) (Q : Wd → Prop) (K30 : Int32 → Wd → Prop) (K100 : Int32 → Wd → Prop) : Prop :=
  (((wi w 0 33 11) ≤ x3 → wp_X9_spreadAll_L168 x1 (0 : Int32) w Q K30) ∧ (¬ (wi w 0 33 11) ≤ x3 → vp_in x3 20 ∧ wp_X9_isFree x1 x3 w (fun r121 => ((r121 = 0 → wp_X9_spreadAll_J158 x1 x2 x3 (0 : Int32) (wi w 0 45 x3.toNatClampNeg) x3 w Q K30 K100) ∧ (¬ r121 = 0 → ((x2 ≤ 0 → vp_in x3 20 ∧ wp_X9_spreadAll_J147 x1 x2 x3 (wi w 0 47 x3.toNatClampNeg) (wi w 0 45 x3.toNatClampNeg) x3 w Q K30 K100) ∧ (¬ x2 ≤ 0 → vp_in x3 20 ∧ wp_X9_spreadAll_J147 x1 x2 x3 (-(wi w 0 47 x3.toNatClampNeg)) (wi w 0 45 x3.toNatClampNeg) x3 w Q K30 K100)))))))
def wp_X9_spreadAll_L100 (x1 : Int32) (x2 : Int32) (x3 : Int32) (w : Wd) (Q : Wd → Prop) (K30 : Int32 → Wd → Prop) : Prop :=
  ∃ (I : Int32 → Wd → Prop) (μ : Int32 → Wd → Nat), I x3 w ∧ ∀ (x3 : Int32) (w : Wd), I x3 w → wp_X9_spreadAll_B100 x1 x2 x3 w Q K30 (fun x3' w' => I x3' w' ∧ μ x3' w' < μ x3 w)
def wp_X9_spreadAll_B46 (x1 : Int32) (x2 : Int32) (x3 : Int32) (w : Wd) (Q : Wd → Prop) (K30 : Int32 → Wd → Prop) (K46 : Int32 → Int32 → Prop) : Prop :=
  (((wi w 0 33 11) ≤ x3 → wp_X9_size x2 (fun r85 => vp_in x1 20 ∧ (∀ w88 : Wd, w88 = (sI w 0 44 x1.toNatClampNeg r85) → wp_X9_size x2 (fun r92 => wp_X9_share x1 r92 w88 (fun w95 => wp_X9_spreadAll_L100 x1 x2 (0 : Int32) w95 Q K30))))) ∧ (¬ (wi w 0 33 11) ≤ x3 → wp_X9_signIn x1 x3 w (fun r61 => vp_in x3 20 ∧ K46 (x2 + (r61 * (wi w 0 45 x3.toNatClampNeg))) (x3 + 1))))
def wp_X9_spreadAll_L46 (x1 : Int32) (x2 : Int32) (x3 : Int32) (w : Wd) (Q : Wd → Prop) (K30 : Int32 → Wd → Prop) : Prop :=
  ∃ (I : Int32 → Int32 → Prop) (μ : Int32 → Int32 → Nat), I x2 x3 ∧ ∀ (x2 : Int32) (x3 : Int32), I x2 x3 → wp_X9_spreadAll_B46 x1 x2 x3 w Q K30 (fun x2' x3' => I x2' x3' ∧ μ x2' x3' < μ x2 x3)
def wp_X9_spreadAll_B30 (x1 : Int32) (w : Wd) (Q : Wd → Prop) (K30 : Int32 → Wd → Prop) : Prop :=
  (((wi w 0 32 15) ≤ x1 → Q w) ∧ (¬ (wi w 0 32 15) ≤ x1 → wp_X9_missOf x1 w (fun r40 => wp_X9_spreadAll_L46 x1 r40 (0 : Int32) w Q K30)))
def wp_X9_spreadAll_L30 (x1 : Int32) (w : Wd) (Q : Wd → Prop) : Prop :=
  ∃ (I : Int32 → Wd → Prop) (μ : Int32 → Wd → Nat), I x1 w ∧ ∀ (x1 : Int32) (w : Wd), I x1 w → wp_X9_spreadAll_B30 x1 w Q (fun x1' w' => I x1' w' ∧ μ x1' w' < μ x1 w)
def wp_X9_spreadAll_B2 (x1 : Int32) (w : Wd) (Q : Wd → Prop) (K2 : Int32 → Wd → Prop) : Prop :=
  (((20 : Int32) ≤ x1 → wp_X9_spreadAll_L30 (0 : Int32) w Q) ∧ (¬ (20 : Int32) ≤ x1 → vp_in x1 20 ∧ (∀ w14 : Wd, w14 = (sI w 0 45 x1.toNatClampNeg (0 : Int32)) → vp_in x1 20 ∧ zb (0 : Int32) ∧ (∀ w21 : Wd, w21 = (sI w14 0 46 x1.toNatClampNeg (0 : Int32)) → K2 (x1 + 1) w21))))
def wp_X9_spreadAll_L2 (x1 : Int32) (w : Wd) (Q : Wd → Prop) : Prop :=
  ∃ (I : Int32 → Wd → Prop) (μ : Int32 → Wd → Nat), I x1 w ∧ ∀ (x1 : Int32) (w : Wd), I x1 w → wp_X9_spreadAll_B2 x1 w Q (fun x1' w' => I x1' w' ∧ μ x1' w' < μ x1 w)
def wp_X9_spreadAll (w : Wd) (Q : Wd → Prop) : Prop :=
  wp_X9_spreadAll_L2 (0 : Int32) w Q
theorem ok_X9_spreadAll_J207 {G : Gt} {M : Mx} {Qf : State → Prop} {x1 : Int32} {x3 : Int32} {s0 : Int32} {s1 : Int32} {w : Wd} {Q : Wd → Prop} {K30 : Int32 → Wd → Prop} {K168 : Int32 → Wd → Prop} (hC : cx G D_X9_spreadAll M) (he : en G M (qv Q) Qf) (h : wp_X9_spreadAll_J207 x1 x3 s0 s1 w Q K30 K168) (hK30 : ∀ (x1 : Int32) (w : Wd), K30 x1 w → jq G D_X9_spreadAll M Qf 30 [(0, .ref (aD G 0 32)), (1, .int x1)] [] w) (hK168 : ∀ (x3 : Int32) (w : Wd), K168 x3 w → jq G D_X9_spreadAll M Qf 168 [(0, .ref (aD G 0 32)), (1, .int x1), (3, .int x3)] [] w) : jq G D_X9_spreadAll M Qf 207 [(0, .ref (aD G 0 32)), (1, .int x1), (3, .int x3)] [.int s0, .int s1, .ref (aD G 0 46)] w := by
  unfold wp_X9_spreadAll_J207 at h
  obtain ⟨b207, z207, h⟩ := h
  refine jq_zast (n := 0) (o := 46) (j := s1.toNatClampNeg) dX9_spreadAll_207 hC (cl_0 (by decide)) (fun _ => rfl) b207 z207 rfl ?_
  refine jq_w (fun w207 e207 => ?_)
  have h := h w207 e207
  refine jq_iinc (k0 := 2) (v := (x3 + 1)) (L' := [(3, .int (x3 + 1)), (0, .ref (aD G 0 32)), (1, .int x1)]) dX9_spreadAll_208 hC rfl rfl (by decide) rfl ?_
  refine jq_goto (tgt := 168) dX9_spreadAll_211 hC (by decide) ?_
  exact jq_less (L' := [(0, .ref (aD G 0 32)), (1, .int x1), (3, .int (x3 + 1))]) [1, 2, 0] rfl (hK168 _ _ h)
theorem ok_X9_spreadAll_B168 {G : Gt} {M : Mx} {Qf : State → Prop} {x1 : Int32} {x3 : Int32} {w : Wd} {Q : Wd → Prop} {K30 : Int32 → Wd → Prop} {K168 : Int32 → Wd → Prop} (hC : cx G D_X9_spreadAll M) (he : en G M (qv Q) Qf) (h : wp_X9_spreadAll_B168 x1 x3 w Q K30 K168) (hK30 : ∀ (x1 : Int32) (w : Wd), K30 x1 w → jq G D_X9_spreadAll M Qf 30 [(0, .ref (aD G 0 32)), (1, .int x1)] [] w) (hK168 : ∀ (x3 : Int32) (w : Wd), K168 x3 w → jq G D_X9_spreadAll M Qf 168 [(0, .ref (aD G 0 32)), (1, .int x1), (3, .int x3)] [] w) : jq G D_X9_spreadAll M Qf 168 [(0, .ref (aD G 0 32)), (1, .int x1), (3, .int x3)] [] w := by
  unfold wp_X9_spreadAll_B168 at h
  refine jq_iload_n (k0 := 2) dX9_spreadAll_168 hC rfl rfl ?_
  refine jq_aload_n (k0 := 0) dX9_spreadAll_169 hC rfl rfl ?_
  refine jq_get (k0 := 1) (n := 0) (o := 32) dX9_spreadAll_170 hC (cl_0 (by decide)) rfl rfl hi_X9_spreadAll_X9 (by decide) hl_X9_spreadAll_7 rfl rfl ?_
  refine jq_bipush (v := (11 : Int32)) dX9_spreadAll_173 hC (by decide) ?_
  refine jq_iald (n := 0) (o := 33) (j := 11) dX9_spreadAll_175 hC (cl_0 (by decide)) rfl (vin (by decide)) (by decide) ?_
  refine jq_icmp_ge (tgt := 214) dX9_spreadAll_176 hC (by decide) (fun c176 => ?_) (fun c176 => ?_)
  · have h := h.1 c176
    refine jq_iinc (k0 := 1) (v := (x1 + 1)) (L' := [(1, .int (x1 + 1)), (0, .ref (aD G 0 32)), (3, .int x3)]) dX9_spreadAll_214 hC rfl rfl (by decide) rfl ?_
    refine jq_goto (tgt := 30) dX9_spreadAll_217 hC (by decide) ?_
    exact jq_less (L' := [(0, .ref (aD G 0 32)), (1, .int (x1 + 1))]) [1, 0] rfl (hK30 _ _ h)
  · have h := h.2 c176
    refine jq_aload_n (k0 := 0) dX9_spreadAll_179 hC rfl rfl ?_
    refine jq_get (k0 := 17) (n := 0) (o := 32) dX9_spreadAll_180 hC (cl_0 (by decide)) rfl rfl hi_X9_spreadAll_X9 (by decide) hl_X9_spreadAll_50 rfl rfl ?_
    refine jq_iload_n (k0 := 2) dX9_spreadAll_183 hC rfl rfl ?_
    refine jq_aload_n (k0 := 0) dX9_spreadAll_184 hC rfl rfl ?_
    refine jq_get (k0 := 17) (n := 0) (o := 32) dX9_spreadAll_185 hC (cl_0 (by decide)) rfl rfl hi_X9_spreadAll_X9 (by decide) hl_X9_spreadAll_50 rfl rfl ?_
    refine jq_iload_n (k0 := 2) dX9_spreadAll_188 hC rfl rfl ?_
    obtain ⟨b189, h⟩ := h
    refine jq_zald (n := 0) (o := 46) (j := x3.toNatClampNeg) dX9_spreadAll_189 hC (cl_0 (by decide)) rfl b189 rfl ?_
    refine jq_if_ne (tgt := 202) dX9_spreadAll_190 hC (by decide) (fun c190 => ?_) (fun c190 => ?_)
    · have h := h.1 c190
      refine jq_iconst (v := (1 : Int32)) dX9_spreadAll_202 hC (by decide) ?_
      refine jq_goto (tgt := 207) dX9_spreadAll_203 hC (by decide) ?_
      refine jq_less (L' := [(0, .ref (aD G 0 32)), (1, .int x1), (3, .int x3)]) [0, 1, 2] rfl ?_
      exact ok_X9_spreadAll_J207 hC he h hK30 hK168
    · have h := h.2 c190
      refine jq_aload_n (k0 := 0) dX9_spreadAll_193 hC rfl rfl ?_
      refine jq_iload_n (k0 := 1) dX9_spreadAll_194 hC rfl rfl ?_
      refine jq_iload_n (k0 := 2) dX9_spreadAll_195 hC rfl rfl ?_
      refine jq_callV (As := [.int x1, .int x3]) (rest := [.int x3, .ref (aD G 0 46)]) (n := 0) (o := 32) (D' := D_X9_signIn) dX9_spreadAll_196 hC (cl_0 (by decide)) rfl rfl rfl (mt_X9_signIn h) gX9_spreadAll_X9_signIn rfl ⟨rfl, rfl, Nat.le_of_ble_eq_true rfl, Nat.le_of_ble_eq_true rfl⟩ nm_X9_signIn rfl (Nat.le_of_ble_eq_true rfl) (kIp fun r196 h => ?_)
      refine jq_if_eq (tgt := 206) dX9_spreadAll_199 hC (by decide) (fun c199 => ?_) (fun c199 => ?_)
      · have h := h.1 c199
        refine jq_iconst (v := (0 : Int32)) dX9_spreadAll_206 hC (by decide) ?_
        refine jq_less (L' := [(0, .ref (aD G 0 32)), (1, .int x1), (3, .int x3)]) [0, 1, 2] rfl ?_
        exact ok_X9_spreadAll_J207 hC he h hK30 hK168
      · have h := h.2 c199
        refine jq_iconst (v := (1 : Int32)) dX9_spreadAll_202 hC (by decide) ?_
        refine jq_goto (tgt := 207) dX9_spreadAll_203 hC (by decide) ?_
        refine jq_less (L' := [(0, .ref (aD G 0 32)), (1, .int x1), (3, .int x3)]) [0, 1, 2] rfl ?_
        exact ok_X9_spreadAll_J207 hC he h hK30 hK168
theorem ok_X9_spreadAll_L168 {G : Gt} {M : Mx} {Qf : State → Prop} {x1 : Int32} {x3 : Int32} {w : Wd} {Q : Wd → Prop} {K30 : Int32 → Wd → Prop} (hC : cx G D_X9_spreadAll M) (he : en G M (qv Q) Qf) (h : wp_X9_spreadAll_L168 x1 x3 w Q K30) (hK30 : ∀ (x1 : Int32) (w : Wd), K30 x1 w → jq G D_X9_spreadAll M Qf 30 [(0, .ref (aD G 0 32)), (1, .int x1)] [] w) : jq G D_X9_spreadAll M Qf 168 [(0, .ref (aD G 0 32)), (1, .int x1), (3, .int x3)] [] w := by
  unfold wp_X9_spreadAll_L168 at h
  obtain ⟨I, μ, h0, hs⟩ := h
  exact lp_ind (σ := Int32 × Wd) (P := fun s => jq G D_X9_spreadAll M Qf 168 [(0, .ref (aD G 0 32)), (1, .int x1), (3, .int s.1)] [] s.2) (fun s => I s.1 s.2) (fun s => μ s.1 s.2) (fun s h1 ih => ok_X9_spreadAll_B168 hC he (hs s.1 s.2 h1) hK30 (fun x3' w' h => ih (x3', w') h.1 h.2)) (x3, w) h0
theorem ok_X9_spreadAll_J158 {G : Gt} {M : Mx} {Qf : State → Prop} {x1 : Int32} {x2 : Int32} {x3 : Int32} {s0 : Int32} {s1 : Int32} {s2 : Int32} {w : Wd} {Q : Wd → Prop} {K30 : Int32 → Wd → Prop} {K100 : Int32 → Wd → Prop} (hC : cx G D_X9_spreadAll M) (he : en G M (qv Q) Qf) (h : wp_X9_spreadAll_J158 x1 x2 x3 s0 s1 s2 w Q K30 K100) (hK30 : ∀ (x1 : Int32) (w : Wd), K30 x1 w → jq G D_X9_spreadAll M Qf 30 [(0, .ref (aD G 0 32)), (1, .int x1)] [] w) (hK100 : ∀ (x3 : Int32) (w : Wd), K100 x3 w → jq G D_X9_spreadAll M Qf 100 [(0, .ref (aD G 0 32)), (1, .int x1), (2, .int x2), (3, .int x3)] [] w) : jq G D_X9_spreadAll M Qf 158 [(0, .ref (aD G 0 32)), (1, .int x1), (2, .int x2), (3, .int x3)] [.int s0, .int s1, .int s2, .ref (aD G 0 45)] w := by
  unfold wp_X9_spreadAll_J158 at h
  refine jq_iadd dX9_spreadAll_158 hC ?_
  obtain ⟨b159, h⟩ := h
  refine jq_iast (n := 0) (o := 45) (j := s2.toNatClampNeg) dX9_spreadAll_159 hC (cl_0 (by decide)) (fun _ => rfl) b159 rfl ?_
  refine jq_w (fun w159 e159 => ?_)
  have h := h w159 e159
  refine jq_iinc (k0 := 3) (v := (x3 + 1)) (L' := [(3, .int (x3 + 1)), (0, .ref (aD G 0 32)), (1, .int x1), (2, .int x2)]) dX9_spreadAll_160 hC rfl rfl (by decide) rfl ?_
  refine jq_goto (tgt := 100) dX9_spreadAll_163 hC (by decide) ?_
  exact jq_less (L' := [(0, .ref (aD G 0 32)), (1, .int x1), (2, .int x2), (3, .int (x3 + 1))]) [1, 2, 3, 0] rfl (hK100 _ _ h)
theorem ok_X9_spreadAll_J147 {G : Gt} {M : Mx} {Qf : State → Prop} {x1 : Int32} {x2 : Int32} {x3 : Int32} {s0 : Int32} {s1 : Int32} {s2 : Int32} {w : Wd} {Q : Wd → Prop} {K30 : Int32 → Wd → Prop} {K100 : Int32 → Wd → Prop} (hC : cx G D_X9_spreadAll M) (he : en G M (qv Q) Qf) (h : wp_X9_spreadAll_J147 x1 x2 x3 s0 s1 s2 w Q K30 K100) (hK30 : ∀ (x1 : Int32) (w : Wd), K30 x1 w → jq G D_X9_spreadAll M Qf 30 [(0, .ref (aD G 0 32)), (1, .int x1)] [] w) (hK100 : ∀ (x3 : Int32) (w : Wd), K100 x3 w → jq G D_X9_spreadAll M Qf 100 [(0, .ref (aD G 0 32)), (1, .int x1), (2, .int x2), (3, .int x3)] [] w) : jq G D_X9_spreadAll M Qf 147 [(0, .ref (aD G 0 32)), (1, .int x1), (2, .int x2), (3, .int x3)] [.int s0, .int s1, .int s2, .ref (aD G 0 45)] w := by
  unfold wp_X9_spreadAll_J147 at h
  refine jq_aload_n (k0 := 0) dX9_spreadAll_147 hC rfl rfl ?_
  refine jq_iload_n (k0 := 1) dX9_spreadAll_148 hC rfl rfl ?_
  refine jq_iload_n (k0 := 3) dX9_spreadAll_149 hC rfl rfl ?_
  refine jq_callV (As := [.int x1, .int x3]) (rest := [.int s0, .int s1, .int s2, .ref (aD G 0 45)]) (n := 0) (o := 32) (D' := D_X9_signIn) dX9_spreadAll_150 hC (cl_0 (by decide)) rfl rfl rfl (mt_X9_signIn h) gX9_spreadAll_X9_signIn rfl ⟨rfl, rfl, Nat.le_of_ble_eq_true rfl, Nat.le_of_ble_eq_true rfl⟩ nm_X9_signIn rfl (Nat.le_of_ble_eq_true rfl) (kIp fun r150 h => ?_)
  refine jq_imul dX9_spreadAll_153 hC ?_
  refine jq_goto (tgt := 158) dX9_spreadAll_154 hC (by decide) ?_
  refine jq_less (L' := [(0, .ref (aD G 0 32)), (1, .int x1), (2, .int x2), (3, .int x3)]) [0, 1, 2, 3] rfl ?_
  exact ok_X9_spreadAll_J158 hC he h hK30 hK100
theorem ok_X9_spreadAll_B100 {G : Gt} {M : Mx} {Qf : State → Prop} {x1 : Int32} {x2 : Int32} {x3 : Int32} {w : Wd} {Q : Wd → Prop} {K30 : Int32 → Wd → Prop} {K100 : Int32 → Wd → Prop} (hC : cx G D_X9_spreadAll M) (he : en G M (qv Q) Qf) (h : wp_X9_spreadAll_B100 x1 x2 x3 w Q K30 K100) (hK30 : ∀ (x1 : Int32) (w : Wd), K30 x1 w → jq G D_X9_spreadAll M Qf 30 [(0, .ref (aD G 0 32)), (1, .int x1)] [] w) (hK100 : ∀ (x3 : Int32) (w : Wd), K100 x3 w → jq G D_X9_spreadAll M Qf 100 [(0, .ref (aD G 0 32)), (1, .int x1), (2, .int x2), (3, .int x3)] [] w) : jq G D_X9_spreadAll M Qf 100 [(0, .ref (aD G 0 32)), (1, .int x1), (2, .int x2), (3, .int x3)] [] w := by
  unfold wp_X9_spreadAll_B100 at h
  refine jq_iload_n (k0 := 3) dX9_spreadAll_100 hC rfl rfl ?_
  refine jq_aload_n (k0 := 0) dX9_spreadAll_101 hC rfl rfl ?_
  refine jq_get (k0 := 1) (n := 0) (o := 32) dX9_spreadAll_102 hC (cl_0 (by decide)) rfl rfl hi_X9_spreadAll_X9 (by decide) hl_X9_spreadAll_7 rfl rfl ?_
  refine jq_bipush (v := (11 : Int32)) dX9_spreadAll_105 hC (by decide) ?_
  refine jq_iald (n := 0) (o := 33) (j := 11) dX9_spreadAll_107 hC (cl_0 (by decide)) rfl (vin (by decide)) (by decide) ?_
  refine jq_icmp_ge (tgt := 166) dX9_spreadAll_108 hC (by decide) (fun c108 => ?_) (fun c108 => ?_)
  · have h := h.1 c108
    refine jq_iconst (v := (0 : Int32)) dX9_spreadAll_166 hC (by decide) ?_
    refine jq_istore_n (L' := [(3, .int (0 : Int32)), (0, .ref (aD G 0 32)), (1, .int x1), (2, .int x2)]) dX9_spreadAll_167 hC rfl (by decide) rfl ?_
    refine jq_less (L' := [(0, .ref (aD G 0 32)), (1, .int x1), (3, .int (0 : Int32))]) [1, 2, 0] rfl ?_
    exact ok_X9_spreadAll_L168 hC he h hK30
  · have h := h.2 c108
    refine jq_aload_n (k0 := 0) dX9_spreadAll_111 hC rfl rfl ?_
    refine jq_get (k0 := 16) (n := 0) (o := 32) dX9_spreadAll_112 hC (cl_0 (by decide)) rfl rfl hi_X9_spreadAll_X9 (by decide) hl_X9_spreadAll_47 rfl rfl ?_
    refine jq_iload_n (k0 := 3) dX9_spreadAll_115 hC rfl rfl ?_
    refine jq_dup2 dX9_spreadAll_116 hC rfl rfl ?_
    obtain ⟨b117, h⟩ := h
    refine jq_iald (n := 0) (o := 45) (j := x3.toNatClampNeg) dX9_spreadAll_117 hC (cl_0 (by decide)) rfl b117 rfl ?_
    refine jq_aload_n (k0 := 0) dX9_spreadAll_118 hC rfl rfl ?_
    refine jq_iload_n (k0 := 1) dX9_spreadAll_119 hC rfl rfl ?_
    refine jq_iload_n (k0 := 3) dX9_spreadAll_120 hC rfl rfl ?_
    refine jq_callV (As := [.int x1, .int x3]) (rest := [.int (wi w 0 45 x3.toNatClampNeg), .int x3, .ref (aD G 0 45)]) (n := 0) (o := 32) (D' := D_X9_isFree) dX9_spreadAll_121 hC (cl_0 (by decide)) rfl rfl rfl (mt_X9_isFree h) gX9_spreadAll_X9_isFree rfl ⟨rfl, rfl, Nat.le_of_ble_eq_true rfl, Nat.le_of_ble_eq_true rfl⟩ nm_X9_isFree rfl (Nat.le_of_ble_eq_true rfl) (kIp fun r121 h => ?_)
    refine jq_if_eq (tgt := 157) dX9_spreadAll_124 hC (by decide) (fun c124 => ?_) (fun c124 => ?_)
    · have h := h.1 c124
      refine jq_iconst (v := (0 : Int32)) dX9_spreadAll_157 hC (by decide) ?_
      refine jq_less (L' := [(0, .ref (aD G 0 32)), (1, .int x1), (2, .int x2), (3, .int x3)]) [0, 1, 2, 3] rfl ?_
      exact ok_X9_spreadAll_J158 hC he h hK30 hK100
    · have h := h.2 c124
      refine jq_iload_n (k0 := 2) dX9_spreadAll_127 hC rfl rfl ?_
      refine jq_if_le (tgt := 141) dX9_spreadAll_128 hC (by decide) (fun c128 => ?_) (fun c128 => ?_)
      · have h := h.1 c128
        refine jq_aload_n (k0 := 0) dX9_spreadAll_141 hC rfl rfl ?_
        refine jq_get (k0 := 18) (n := 0) (o := 32) dX9_spreadAll_142 hC (cl_0 (by decide)) rfl rfl hi_X9_spreadAll_X9 (by decide) hl_X9_spreadAll_53 rfl rfl ?_
        refine jq_iload_n (k0 := 3) dX9_spreadAll_145 hC rfl rfl ?_
        obtain ⟨b146, h⟩ := h
        refine jq_iald (n := 0) (o := 47) (j := x3.toNatClampNeg) dX9_spreadAll_146 hC (cl_0 (by decide)) rfl b146 rfl ?_
        refine jq_less (L' := [(0, .ref (aD G 0 32)), (1, .int x1), (2, .int x2), (3, .int x3)]) [0, 1, 2, 3] rfl ?_
        exact ok_X9_spreadAll_J147 hC he h hK30 hK100
      · have h := h.2 c128
        refine jq_aload_n (k0 := 0) dX9_spreadAll_131 hC rfl rfl ?_
        refine jq_get (k0 := 18) (n := 0) (o := 32) dX9_spreadAll_132 hC (cl_0 (by decide)) rfl rfl hi_X9_spreadAll_X9 (by decide) hl_X9_spreadAll_53 rfl rfl ?_
        refine jq_iload_n (k0 := 3) dX9_spreadAll_135 hC rfl rfl ?_
        obtain ⟨b136, h⟩ := h
        refine jq_iald (n := 0) (o := 47) (j := x3.toNatClampNeg) dX9_spreadAll_136 hC (cl_0 (by decide)) rfl b136 rfl ?_
        refine jq_ineg dX9_spreadAll_137 hC ?_
        refine jq_goto (tgt := 147) dX9_spreadAll_138 hC (by decide) ?_
        refine jq_less (L' := [(0, .ref (aD G 0 32)), (1, .int x1), (2, .int x2), (3, .int x3)]) [0, 1, 2, 3] rfl ?_
        exact ok_X9_spreadAll_J147 hC he h hK30 hK100
theorem ok_X9_spreadAll_L100 {G : Gt} {M : Mx} {Qf : State → Prop} {x1 : Int32} {x2 : Int32} {x3 : Int32} {w : Wd} {Q : Wd → Prop} {K30 : Int32 → Wd → Prop} (hC : cx G D_X9_spreadAll M) (he : en G M (qv Q) Qf) (h : wp_X9_spreadAll_L100 x1 x2 x3 w Q K30) (hK30 : ∀ (x1 : Int32) (w : Wd), K30 x1 w → jq G D_X9_spreadAll M Qf 30 [(0, .ref (aD G 0 32)), (1, .int x1)] [] w) : jq G D_X9_spreadAll M Qf 100 [(0, .ref (aD G 0 32)), (1, .int x1), (2, .int x2), (3, .int x3)] [] w := by
  unfold wp_X9_spreadAll_L100 at h
  obtain ⟨I, μ, h0, hs⟩ := h
  exact lp_ind (σ := Int32 × Wd) (P := fun s => jq G D_X9_spreadAll M Qf 100 [(0, .ref (aD G 0 32)), (1, .int x1), (2, .int x2), (3, .int s.1)] [] s.2) (fun s => I s.1 s.2) (fun s => μ s.1 s.2) (fun s h1 ih => ok_X9_spreadAll_B100 hC he (hs s.1 s.2 h1) hK30 (fun x3' w' h => ih (x3', w') h.1 h.2)) (x3, w) h0
theorem ok_X9_spreadAll_B46 {G : Gt} {M : Mx} {Qf : State → Prop} {x1 : Int32} {x2 : Int32} {x3 : Int32} {w : Wd} {Q : Wd → Prop} {K30 : Int32 → Wd → Prop} {K46 : Int32 → Int32 → Prop} (hC : cx G D_X9_spreadAll M) (he : en G M (qv Q) Qf) (h : wp_X9_spreadAll_B46 x1 x2 x3 w Q K30 K46) (hK30 : ∀ (x1 : Int32) (w : Wd), K30 x1 w → jq G D_X9_spreadAll M Qf 30 [(0, .ref (aD G 0 32)), (1, .int x1)] [] w) (hK46 : ∀ (x2 : Int32) (x3 : Int32), K46 x2 x3 → jq G D_X9_spreadAll M Qf 46 [(0, .ref (aD G 0 32)), (1, .int x1), (2, .int x2), (3, .int x3)] [] w) : jq G D_X9_spreadAll M Qf 46 [(0, .ref (aD G 0 32)), (1, .int x1), (2, .int x2), (3, .int x3)] [] w := by
  unfold wp_X9_spreadAll_B46 at h
  refine jq_iload_n (k0 := 3) dX9_spreadAll_46 hC rfl rfl ?_
  refine jq_aload_n (k0 := 0) dX9_spreadAll_47 hC rfl rfl ?_
  refine jq_get (k0 := 1) (n := 0) (o := 32) dX9_spreadAll_48 hC (cl_0 (by decide)) rfl rfl hi_X9_spreadAll_X9 (by decide) hl_X9_spreadAll_7 rfl rfl ?_
  refine jq_bipush (v := (11 : Int32)) dX9_spreadAll_51 hC (by decide) ?_
  refine jq_iald (n := 0) (o := 33) (j := 11) dX9_spreadAll_53 hC (cl_0 (by decide)) rfl (vin (by decide)) (by decide) ?_
  refine jq_icmp_ge (tgt := 79) dX9_spreadAll_54 hC (by decide) (fun c54 => ?_) (fun c54 => ?_)
  · have h := h.1 c54
    refine jq_aload_n (k0 := 0) dX9_spreadAll_79 hC rfl rfl ?_
    refine jq_get (k0 := 14) (n := 0) (o := 32) dX9_spreadAll_80 hC (cl_0 (by decide)) rfl rfl hi_X9_spreadAll_X9 (by decide) hl_X9_spreadAll_44 rfl rfl ?_
    refine jq_iload_n (k0 := 1) dX9_spreadAll_83 hC rfl rfl ?_
    refine jq_iload_n (k0 := 2) dX9_spreadAll_84 hC rfl rfl ?_
    refine jq_callS (As := [.int x2]) (rest := [.int x1, .ref (aD G 0 44)]) (D' := D_X9_size) dX9_spreadAll_85 hC (mt_X9_size h) gX9_spreadAll_X9_size rfl ⟨rfl, rfl, Nat.le_of_ble_eq_true rfl, Nat.le_of_ble_eq_true rfl⟩ nm_X9_size rfl (Nat.le_of_ble_eq_true rfl) (kIp fun r85 h => ?_)
    obtain ⟨b88, h⟩ := h
    refine jq_iast (n := 0) (o := 44) (j := x1.toNatClampNeg) dX9_spreadAll_88 hC (cl_0 (by decide)) (fun _ => rfl) b88 rfl ?_
    refine jq_w (fun w88 e88 => ?_)
    have h := h w88 e88
    refine jq_aload_n (k0 := 0) dX9_spreadAll_89 hC rfl rfl ?_
    refine jq_iload_n (k0 := 1) dX9_spreadAll_90 hC rfl rfl ?_
    refine jq_iload_n (k0 := 2) dX9_spreadAll_91 hC rfl rfl ?_
    refine jq_callS (As := [.int x2]) (rest := [.int x1, .ref (aD G 0 32)]) (D' := D_X9_size) dX9_spreadAll_92 hC (mt_X9_size h) gX9_spreadAll_X9_size rfl ⟨rfl, rfl, Nat.le_of_ble_eq_true rfl, Nat.le_of_ble_eq_true rfl⟩ nm_X9_size rfl (Nat.le_of_ble_eq_true rfl) (kIp fun r92 h => ?_)
    refine jq_callV (As := [.int x1, .int r92]) (rest := []) (n := 0) (o := 32) (D' := D_X9_share) dX9_spreadAll_95 hC (cl_0 (by decide)) rfl rfl rfl (mt_X9_share h) gX9_spreadAll_X9_share rfl ⟨rfl, rfl, Nat.le_of_ble_eq_true rfl, Nat.le_of_ble_eq_true rfl⟩ nm_X9_share rfl (Nat.le_of_ble_eq_true rfl) (kV fun w95 h => ?_)
    refine jq_iconst (v := (0 : Int32)) dX9_spreadAll_98 hC (by decide) ?_
    refine jq_istore_n (L' := [(3, .int (0 : Int32)), (0, .ref (aD G 0 32)), (1, .int x1), (2, .int x2)]) dX9_spreadAll_99 hC rfl (by decide) rfl ?_
    refine jq_less (L' := [(0, .ref (aD G 0 32)), (1, .int x1), (2, .int x2), (3, .int (0 : Int32))]) [1, 2, 3, 0] rfl ?_
    exact ok_X9_spreadAll_L100 hC he h hK30
  · have h := h.2 c54
    refine jq_iload_n (k0 := 2) dX9_spreadAll_57 hC rfl rfl ?_
    refine jq_aload_n (k0 := 0) dX9_spreadAll_58 hC rfl rfl ?_
    refine jq_iload_n (k0 := 1) dX9_spreadAll_59 hC rfl rfl ?_
    refine jq_iload_n (k0 := 3) dX9_spreadAll_60 hC rfl rfl ?_
    refine jq_callV (As := [.int x1, .int x3]) (rest := [.int x2]) (n := 0) (o := 32) (D' := D_X9_signIn) dX9_spreadAll_61 hC (cl_0 (by decide)) rfl rfl rfl (mt_X9_signIn h) gX9_spreadAll_X9_signIn rfl ⟨rfl, rfl, Nat.le_of_ble_eq_true rfl, Nat.le_of_ble_eq_true rfl⟩ nm_X9_signIn rfl (Nat.le_of_ble_eq_true rfl) (kIp fun r61 h => ?_)
    refine jq_aload_n (k0 := 0) dX9_spreadAll_64 hC rfl rfl ?_
    refine jq_get (k0 := 16) (n := 0) (o := 32) dX9_spreadAll_65 hC (cl_0 (by decide)) rfl rfl hi_X9_spreadAll_X9 (by decide) hl_X9_spreadAll_47 rfl rfl ?_
    refine jq_iload_n (k0 := 3) dX9_spreadAll_68 hC rfl rfl ?_
    obtain ⟨b69, h⟩ := h
    refine jq_iald (n := 0) (o := 45) (j := x3.toNatClampNeg) dX9_spreadAll_69 hC (cl_0 (by decide)) rfl b69 rfl ?_
    refine jq_imul dX9_spreadAll_70 hC ?_
    refine jq_iadd dX9_spreadAll_71 hC ?_
    refine jq_istore_n (L' := [(2, .int (x2 + (r61 * (wi w 0 45 x3.toNatClampNeg)))), (0, .ref (aD G 0 32)), (1, .int x1), (3, .int x3)]) dX9_spreadAll_72 hC rfl (by decide) rfl ?_
    refine jq_iinc (k0 := 3) (v := (x3 + 1)) (L' := [(3, .int (x3 + 1)), (2, .int (x2 + (r61 * (wi w 0 45 x3.toNatClampNeg)))), (0, .ref (aD G 0 32)), (1, .int x1)]) dX9_spreadAll_73 hC rfl rfl (by decide) rfl ?_
    refine jq_goto (tgt := 46) dX9_spreadAll_76 hC (by decide) ?_
    exact jq_less (L' := [(0, .ref (aD G 0 32)), (1, .int x1), (2, .int (x2 + (r61 * (wi w 0 45 x3.toNatClampNeg)))), (3, .int (x3 + 1))]) [2, 3, 1, 0] rfl (hK46 _ _ h)
theorem ok_X9_spreadAll_L46 {G : Gt} {M : Mx} {Qf : State → Prop} {x1 : Int32} {x2 : Int32} {x3 : Int32} {w : Wd} {Q : Wd → Prop} {K30 : Int32 → Wd → Prop} (hC : cx G D_X9_spreadAll M) (he : en G M (qv Q) Qf) (h : wp_X9_spreadAll_L46 x1 x2 x3 w Q K30) (hK30 : ∀ (x1 : Int32) (w : Wd), K30 x1 w → jq G D_X9_spreadAll M Qf 30 [(0, .ref (aD G 0 32)), (1, .int x1)] [] w) : jq G D_X9_spreadAll M Qf 46 [(0, .ref (aD G 0 32)), (1, .int x1), (2, .int x2), (3, .int x3)] [] w := by
  unfold wp_X9_spreadAll_L46 at h
  obtain ⟨I, μ, h0, hs⟩ := h
  exact lp_ind (σ := Int32 × Int32) (P := fun s => jq G D_X9_spreadAll M Qf 46 [(0, .ref (aD G 0 32)), (1, .int x1), (2, .int s.1), (3, .int s.2)] [] w) (fun s => I s.1 s.2) (fun s => μ s.1 s.2) (fun s h1 ih => ok_X9_spreadAll_B46 hC he (hs s.1 s.2 h1) hK30 (fun x2' x3' h => ih (x2', x3') h.1 h.2)) (x2, x3) h0
theorem ok_X9_spreadAll_B30 {G : Gt} {M : Mx} {Qf : State → Prop} {x1 : Int32} {w : Wd} {Q : Wd → Prop} {K30 : Int32 → Wd → Prop} (hC : cx G D_X9_spreadAll M) (he : en G M (qv Q) Qf) (h : wp_X9_spreadAll_B30 x1 w Q K30) (hK30 : ∀ (x1 : Int32) (w : Wd), K30 x1 w → jq G D_X9_spreadAll M Qf 30 [(0, .ref (aD G 0 32)), (1, .int x1)] [] w) : jq G D_X9_spreadAll M Qf 30 [(0, .ref (aD G 0 32)), (1, .int x1)] [] w := by
  unfold wp_X9_spreadAll_B30 at h
  refine jq_iload_n (k0 := 1) dX9_spreadAll_30 hC rfl rfl ?_
  refine jq_aload_n (k0 := 0) dX9_spreadAll_31 hC rfl rfl ?_
  refine jq_get (k0 := 15) (n := 0) (o := 32) dX9_spreadAll_32 hC (cl_0 (by decide)) rfl rfl hi_X9_spreadAll_X9 (by decide) hl_X9_spreadAll_98 rfl rfl ?_
  refine jq_icmp_ge (tgt := 220) dX9_spreadAll_35 hC (by decide) (fun c35 => ?_) (fun c35 => ?_)
  · have h := h.1 c35
    exact jq_vret dX9_spreadAll_220 hC he rfl ⟨rfl, h⟩
  · have h := h.2 c35
    refine jq_aload_n (k0 := 0) dX9_spreadAll_38 hC rfl rfl ?_
    refine jq_iload_n (k0 := 1) dX9_spreadAll_39 hC rfl rfl ?_
    refine jq_callV (As := [.int x1]) (rest := []) (n := 0) (o := 32) (D' := D_X9_missOf) dX9_spreadAll_40 hC (cl_0 (by decide)) rfl rfl rfl (mt_X9_missOf h) gX9_spreadAll_X9_missOf rfl ⟨rfl, rfl, Nat.le_of_ble_eq_true rfl, Nat.le_of_ble_eq_true rfl⟩ nm_X9_missOf rfl (Nat.le_of_ble_eq_true rfl) (kIp fun r40 h => ?_)
    refine jq_istore_n (L' := [(2, .int r40), (0, .ref (aD G 0 32)), (1, .int x1)]) dX9_spreadAll_43 hC rfl (by decide) rfl ?_
    refine jq_iconst (v := (0 : Int32)) dX9_spreadAll_44 hC (by decide) ?_
    refine jq_istore_n (L' := [(3, .int (0 : Int32)), (2, .int r40), (0, .ref (aD G 0 32)), (1, .int x1)]) dX9_spreadAll_45 hC rfl (by decide) rfl ?_
    refine jq_less (L' := [(0, .ref (aD G 0 32)), (1, .int x1), (2, .int r40), (3, .int (0 : Int32))]) [2, 3, 1, 0] rfl ?_
    exact ok_X9_spreadAll_L46 hC he h hK30
theorem ok_X9_spreadAll_L30 {G : Gt} {M : Mx} {Qf : State → Prop} {x1 : Int32} {w : Wd} {Q : Wd → Prop} (hC : cx G D_X9_spreadAll M) (he : en G M (qv Q) Qf) (h : wp_X9_spreadAll_L30 x1 w Q) : jq G D_X9_spreadAll M Qf 30 [(0, .ref (aD G 0 32)), (1, .int x1)] [] w := by
  unfold wp_X9_spreadAll_L30 at h
  obtain ⟨I, μ, h0, hs⟩ := h
  exact lp_ind (σ := Int32 × Wd) (P := fun s => jq G D_X9_spreadAll M Qf 30 [(0, .ref (aD G 0 32)), (1, .int s.1)] [] s.2) (fun s => I s.1 s.2) (fun s => μ s.1 s.2) (fun s h1 ih => ok_X9_spreadAll_B30 hC he (hs s.1 s.2 h1) (fun x1' w' h => ih (x1', w') h.1 h.2)) (x1, w) h0
theorem ok_X9_spreadAll_B2 {G : Gt} {M : Mx} {Qf : State → Prop} {x1 : Int32} {w : Wd} {Q : Wd → Prop} {K2 : Int32 → Wd → Prop} (hC : cx G D_X9_spreadAll M) (he : en G M (qv Q) Qf) (h : wp_X9_spreadAll_B2 x1 w Q K2) (hK2 : ∀ (x1 : Int32) (w : Wd), K2 x1 w → jq G D_X9_spreadAll M Qf 2 [(0, .ref (aD G 0 32)), (1, .int x1)] [] w) : jq G D_X9_spreadAll M Qf 2 [(0, .ref (aD G 0 32)), (1, .int x1)] [] w := by
  unfold wp_X9_spreadAll_B2 at h
  refine jq_iload_n (k0 := 1) dX9_spreadAll_2 hC rfl rfl ?_
  refine jq_bipush (v := (20 : Int32)) dX9_spreadAll_3 hC (by decide) ?_
  refine jq_icmp_ge (tgt := 28) dX9_spreadAll_5 hC (by decide) (fun c5 => ?_) (fun c5 => ?_)
  · have h := h.1 c5
    refine jq_iconst (v := (0 : Int32)) dX9_spreadAll_28 hC (by decide) ?_
    refine jq_istore_n (L' := [(1, .int (0 : Int32)), (0, .ref (aD G 0 32))]) dX9_spreadAll_29 hC rfl (by decide) rfl ?_
    refine jq_less (L' := [(0, .ref (aD G 0 32)), (1, .int (0 : Int32))]) [1, 0] rfl ?_
    exact ok_X9_spreadAll_L30 hC he h
  · have h := h.2 c5
    refine jq_aload_n (k0 := 0) dX9_spreadAll_8 hC rfl rfl ?_
    refine jq_get (k0 := 16) (n := 0) (o := 32) dX9_spreadAll_9 hC (cl_0 (by decide)) rfl rfl hi_X9_spreadAll_X9 (by decide) hl_X9_spreadAll_47 rfl rfl ?_
    refine jq_iload_n (k0 := 1) dX9_spreadAll_12 hC rfl rfl ?_
    refine jq_iconst (v := (0 : Int32)) dX9_spreadAll_13 hC (by decide) ?_
    obtain ⟨b14, h⟩ := h
    refine jq_iast (n := 0) (o := 45) (j := x1.toNatClampNeg) dX9_spreadAll_14 hC (cl_0 (by decide)) (fun _ => rfl) b14 rfl ?_
    refine jq_w (fun w14 e14 => ?_)
    have h := h w14 e14
    refine jq_aload_n (k0 := 0) dX9_spreadAll_15 hC rfl rfl ?_
    refine jq_get (k0 := 17) (n := 0) (o := 32) dX9_spreadAll_16 hC (cl_0 (by decide)) rfl rfl hi_X9_spreadAll_X9 (by decide) hl_X9_spreadAll_50 rfl rfl ?_
    refine jq_iload_n (k0 := 1) dX9_spreadAll_19 hC rfl rfl ?_
    refine jq_iconst (v := (0 : Int32)) dX9_spreadAll_20 hC (by decide) ?_
    obtain ⟨b21, z21, h⟩ := h
    refine jq_zast (n := 0) (o := 46) (j := x1.toNatClampNeg) dX9_spreadAll_21 hC (cl_0 (by decide)) (fun _ => rfl) b21 z21 rfl ?_
    refine jq_w (fun w21 e21 => ?_)
    have h := h w21 e21
    refine jq_iinc (k0 := 1) (v := (x1 + 1)) (L' := [(1, .int (x1 + 1)), (0, .ref (aD G 0 32))]) dX9_spreadAll_22 hC rfl rfl (by decide) rfl ?_
    refine jq_goto (tgt := 2) dX9_spreadAll_25 hC (by decide) ?_
    exact jq_less (L' := [(0, .ref (aD G 0 32)), (1, .int (x1 + 1))]) [1, 0] rfl (hK2 _ _ h)
theorem ok_X9_spreadAll_L2 {G : Gt} {M : Mx} {Qf : State → Prop} {x1 : Int32} {w : Wd} {Q : Wd → Prop} (hC : cx G D_X9_spreadAll M) (he : en G M (qv Q) Qf) (h : wp_X9_spreadAll_L2 x1 w Q) : jq G D_X9_spreadAll M Qf 2 [(0, .ref (aD G 0 32)), (1, .int x1)] [] w := by
  unfold wp_X9_spreadAll_L2 at h
  obtain ⟨I, μ, h0, hs⟩ := h
  exact lp_ind (σ := Int32 × Wd) (P := fun s => jq G D_X9_spreadAll M Qf 2 [(0, .ref (aD G 0 32)), (1, .int s.1)] [] s.2) (fun s => I s.1 s.2) (fun s => μ s.1 s.2) (fun s h1 ih => ok_X9_spreadAll_B2 hC he (hs s.1 s.2 h1) (fun x1' w' h => ih (x1', w') h.1 h.2)) (x1, w) h0
theorem ok_X9_spreadAll {G : Gt} {M : Mx} {Qf : State → Prop} {w : Wd} {Q : Wd → Prop} (hC : cx G D_X9_spreadAll M) (he : en G M (qv Q) Qf) (h : wp_X9_spreadAll w Q) : jq G D_X9_spreadAll M Qf 0 [(0, .ref (aD G 0 32))] [] w := by
  unfold wp_X9_spreadAll at h
  refine jq_iconst (v := (0 : Int32)) dX9_spreadAll_0 hC (by decide) ?_
  refine jq_istore_n (L' := [(1, .int (0 : Int32)), (0, .ref (aD G 0 32))]) dX9_spreadAll_1 hC rfl (by decide) rfl ?_
  refine jq_less (L' := [(0, .ref (aD G 0 32)), (1, .int (0 : Int32))]) [1, 0] rfl ?_
  exact ok_X9_spreadAll_L2 hC he h
theorem mt_X9_spreadAll {G : Gt} {w : Wd} {Q : Wd → Prop} (h : wp_X9_spreadAll w Q) : Mt G D_X9_spreadAll [.ref (aD G 0 32)] w (qv Q) := Mt_of (by decide +kernel) rfl rfl (Nat.le_of_ble_eq_true rfl) (fun M Qf hC he => ok_X9_spreadAll hC he h)
/-! X9.corrected(I)I -/
theorem dX9_corrected_0 : decode cX9_corrected 0 = .ok (.aload_n 0, 1) := by decide +kernel
theorem dX9_corrected_1 : decode cX9_corrected 1 = .ok (.getfield 7, 3) := by decide +kernel
theorem dX9_corrected_4 : decode cX9_corrected 4 = .ok (.iload_n 1, 1) := by decide +kernel
theorem dX9_corrected_5 : decode cX9_corrected 5 = .ok (.iconst 3, 1) := by decide +kernel
theorem dX9_corrected_6 : decode cX9_corrected 6 = .ok (.invokestatic 76, 3) := by decide +kernel
theorem dX9_corrected_9 : decode cX9_corrected 9 = .ok (.iaload, 1) := by decide +kernel
theorem dX9_corrected_10 : decode cX9_corrected 10 = .ok (.aload_n 0, 1) := by decide +kernel
theorem dX9_corrected_11 : decode cX9_corrected 11 = .ok (.getfield 47, 3) := by decide +kernel
theorem dX9_corrected_14 : decode cX9_corrected 14 = .ok (.iload_n 1, 1) := by decide +kernel
theorem dX9_corrected_15 : decode cX9_corrected 15 = .ok (.iaload, 1) := by decide +kernel
theorem dX9_corrected_16 : decode cX9_corrected 16 = .ok (.iadd, 1) := by decide +kernel
theorem dX9_corrected_17 : decode cX9_corrected 17 = .ok (.ireturn, 1) := by decide +kernel
set_option maxRecDepth 20000 in
theorem ggX9_corrected_X9_of : GoodIn wsX9_corrected wsX9_of := goodIn_r _ [6] (by decide +kernel) (by decide +kernel)
set_option maxRecDepth 20000 in
theorem gX9_corrected_X9_of : GoodIn wsX9_corrected (va_wsS RX9 76 yX9_of wsX9_of) := goodIn_app (goodIn_of _ (by decide +kernel)) ggX9_corrected_X9_of
def D_X9_corrected : Md := (yX9_corrected, cX9_corrected, 2, (some .int), wsX9_corrected, RX9, { frames := 1, cells := 0, slots := 0, locals := 21 })
theorem nm_X9_corrected : nmD D_X9_corrected 1 := ⟨rfl, by decide +kernel, by decide +kernel, by decide +kernel⟩
theorem hi_X9_corrected_X9 : ∀ w ∈ u_ws RX9 TX9 25, w ∈ wsX9_corrected := by decide +kernel
theorem hl_X9_corrected_7 : Cond.fieldLink RX9 7 "LevelLoopsModel" "s" "[I" ∈ wsX9_corrected := by decide +kernel
theorem hl_X9_corrected_47 : Cond.fieldLink RX9 47 "LevelLoopsModel" "corrections" "[I" ∈ wsX9_corrected := by decide +kernel
def wp_X9_corrected (x1 : Int32) (w : Wd) (Q : Int32 → Prop) : Prop :=
  wp_X9_of x1 (3 : Int32) (fun r6 => vp_in r6 95 ∧ vp_in x1 20 ∧ Q ((wi w 0 33 r6.toNatClampNeg) + (wi w 0 45 x1.toNatClampNeg)))
theorem ok_X9_corrected {G : Gt} {M : Mx} {Qf : State → Prop} {x1 : Int32} {w : Wd} {Q : Int32 → Prop} (hC : cx G D_X9_corrected M) (he : en G M (qip w Q) Qf) (h : wp_X9_corrected x1 w Q) : jq G D_X9_corrected M Qf 0 [(0, .ref (aD G 0 32)), (1, .int x1)] [] w := by
  unfold wp_X9_corrected at h
  refine jq_aload_n (k0 := 0) dX9_corrected_0 hC rfl rfl ?_
  refine jq_get (k0 := 1) (n := 0) (o := 32) dX9_corrected_1 hC (cl_0 (by decide)) rfl rfl hi_X9_corrected_X9 (by decide) hl_X9_corrected_7 rfl rfl ?_
  refine jq_iload_n (k0 := 1) dX9_corrected_4 hC rfl rfl ?_
  refine jq_iconst (v := (3 : Int32)) dX9_corrected_5 hC (by decide) ?_
  refine jq_callS (As := [.int x1, .int (3 : Int32)]) (rest := [.ref (aD G 0 33)]) (D' := D_X9_of) dX9_corrected_6 hC (mt_X9_of h) gX9_corrected_X9_of rfl ⟨rfl, rfl, Nat.le_of_ble_eq_true rfl, Nat.le_of_ble_eq_true rfl⟩ nm_X9_of rfl (Nat.le_of_ble_eq_true rfl) (kIp fun r6 h => ?_)
  obtain ⟨b9, h⟩ := h
  refine jq_iald (n := 0) (o := 33) (j := r6.toNatClampNeg) dX9_corrected_9 hC (cl_0 (by decide)) rfl b9 rfl ?_
  refine jq_aload_n (k0 := 0) dX9_corrected_10 hC rfl rfl ?_
  refine jq_get (k0 := 16) (n := 0) (o := 32) dX9_corrected_11 hC (cl_0 (by decide)) rfl rfl hi_X9_corrected_X9 (by decide) hl_X9_corrected_47 rfl rfl ?_
  refine jq_iload_n (k0 := 1) dX9_corrected_14 hC rfl rfl ?_
  obtain ⟨b15, h⟩ := h
  refine jq_iald (n := 0) (o := 45) (j := x1.toNatClampNeg) dX9_corrected_15 hC (cl_0 (by decide)) rfl b15 rfl ?_
  refine jq_iadd dX9_corrected_16 hC ?_
  exact jq_iret dX9_corrected_17 hC he rfl ⟨_, rfl, rfl, h⟩
theorem mt_X9_corrected {G : Gt} {x1 : Int32} {w : Wd} {Q : Int32 → Prop} (h : wp_X9_corrected x1 w Q) : Mt G D_X9_corrected [.ref (aD G 0 32), .int x1] w (qip w Q) := Mt_of (by decide +kernel) rfl rfl (Nat.le_of_ble_eq_true rfl) (fun M Qf hC he => ok_X9_corrected hC he h)
/-! X9.rise(II)I -/
theorem dX9_rise_0 : decode cX9_rise 0 = .ok (.aload_n 0, 1) := by decide +kernel
theorem dX9_rise_1 : decode cX9_rise 1 = .ok (.iload_n 1, 1) := by decide +kernel
theorem dX9_rise_2 : decode cX9_rise 2 = .ok (.iload_n 2, 1) := by decide +kernel
theorem dX9_rise_3 : decode cX9_rise 3 = .ok (.invokevirtual 101, 3) := by decide +kernel
theorem dX9_rise_6 : decode cX9_rise 6 = .ok (.iconst 0, 1) := by decide +kernel
theorem dX9_rise_7 : decode cX9_rise 7 = .ok (.istore_n 3, 1) := by decide +kernel
theorem dX9_rise_8 : decode cX9_rise 8 = .ok (.iconst 0, 1) := by decide +kernel
theorem dX9_rise_9 : decode cX9_rise 9 = .ok (.istore 4, 2) := by decide +kernel
theorem dX9_rise_11 : decode cX9_rise 11 = .ok (.iload 4, 2) := by decide +kernel
theorem dX9_rise_13 : decode cX9_rise 13 = .ok (.aload_n 0, 1) := by decide +kernel
theorem dX9_rise_14 : decode cX9_rise 14 = .ok (.getfield 7, 3) := by decide +kernel
theorem dX9_rise_17 : decode cX9_rise 17 = .ok (.bipush 11, 2) := by decide +kernel
theorem dX9_rise_19 : decode cX9_rise 19 = .ok (.iaload, 1) := by decide +kernel
theorem dX9_rise_20 : decode cX9_rise 20 = .ok (.if_icmp .ge 26, 3) := by decide +kernel
theorem dX9_rise_23 : decode cX9_rise 23 = .ok (.iload_n 3, 1) := by decide +kernel
theorem dX9_rise_24 : decode cX9_rise 24 = .ok (.aload_n 0, 1) := by decide +kernel
theorem dX9_rise_25 : decode cX9_rise 25 = .ok (.getfield 35, 3) := by decide +kernel
theorem dX9_rise_28 : decode cX9_rise 28 = .ok (.iload 4, 2) := by decide +kernel
theorem dX9_rise_30 : decode cX9_rise 30 = .ok (.iaload, 1) := by decide +kernel
theorem dX9_rise_31 : decode cX9_rise 31 = .ok (.aload_n 0, 1) := by decide +kernel
theorem dX9_rise_32 : decode cX9_rise 32 = .ok (.iload 4, 2) := by decide +kernel
theorem dX9_rise_34 : decode cX9_rise 34 = .ok (.invokevirtual 126, 3) := by decide +kernel
theorem dX9_rise_37 : decode cX9_rise 37 = .ok (.imul, 1) := by decide +kernel
theorem dX9_rise_38 : decode cX9_rise 38 = .ok (.iadd, 1) := by decide +kernel
theorem dX9_rise_39 : decode cX9_rise 39 = .ok (.istore_n 3, 1) := by decide +kernel
theorem dX9_rise_40 : decode cX9_rise 40 = .ok (.iinc 4 1, 3) := by decide +kernel
theorem dX9_rise_43 : decode cX9_rise 43 = .ok (.goto (-32), 3) := by decide +kernel
theorem dX9_rise_46 : decode cX9_rise 46 = .ok (.iload_n 3, 1) := by decide +kernel
theorem dX9_rise_47 : decode cX9_rise 47 = .ok (.ireturn, 1) := by decide +kernel
set_option maxRecDepth 20000 in
theorem ggX9_rise_X9_corrected : GoodIn wsX9_rise wsX9_corrected := goodIn_r _ [20, 1, 21, 14, 15, 6, 16, 22, 23, 24, 25, 26, 27, 28, 29, 30, 31, 32, 33, 34, 35, 36, 37, 38, 39, 40, 41, 42, 43, 44, 45, 46] (by decide +kernel) (by decide +kernel)
set_option maxRecDepth 20000 in
theorem gX9_rise_X9_corrected : GoodIn wsX9_rise (wsV RX9 126 RX9 yX9_corrected wsX9_corrected) := goodIn_app (goodIn_of _ (by decide +kernel)) ggX9_rise_X9_corrected
set_option maxRecDepth 20000 in
theorem ggX9_rise_X9_go : GoodIn wsX9_rise wsX9_go := goodIn_r _ [7, 2, 8, 9, 10, 6, 11, 12, 1, 13, 14, 15, 16, 22, 23, 24, 25, 26, 27, 28, 29, 30, 31, 32, 33, 34, 35, 36, 37, 38, 39, 40, 41, 42, 43, 44, 45, 46] (by decide +kernel) (by decide +kernel)
set_option maxRecDepth 20000 in
theorem gX9_rise_X9_go : GoodIn wsX9_rise (wsV RX9 101 RX9 yX9_go wsX9_go) := goodIn_app (goodIn_of _ (by decide +kernel)) ggX9_rise_X9_go
def D_X9_rise : Md := (yX9_rise, cX9_rise, 5, (some .int), wsX9_rise, RX9, { frames := 3, cells := 0, slots := 0, locals := 67 })
theorem nm_X9_rise : nmD D_X9_rise 2 := ⟨rfl, by decide +kernel, by decide +kernel, by decide +kernel⟩
theorem hi_X9_rise_X9 : ∀ w ∈ u_ws RX9 TX9 25, w ∈ wsX9_rise := by decide +kernel
theorem hl_X9_rise_7 : Cond.fieldLink RX9 7 "LevelLoopsModel" "s" "[I" ∈ wsX9_rise := by decide +kernel
theorem hl_X9_rise_35 : Cond.fieldLink RX9 35 "LevelLoopsModel" "steps" "[I" ∈ wsX9_rise := by decide +kernel
def wp_X9_rise_B11 (x3 : Int32) (x4 : Int32) (w : Wd) (Q : Int32 → Wd → Prop) (K11 : Int32 → Int32 → Prop) : Prop :=
  (((wi w 0 33 11) ≤ x4 → Q x3 w) ∧ (¬ (wi w 0 33 11) ≤ x4 → vp_in x4 20 ∧ wp_X9_corrected x4 w (fun r34 => K11 (x3 + ((wi w 0 41 x4.toNatClampNeg) * r34)) (x4 + 1))))
def wp_X9_rise_L11 (x3 : Int32) (x4 : Int32) (w : Wd) (Q : Int32 → Wd → Prop) : Prop :=
  ∃ (I : Int32 → Int32 → Prop) (μ : Int32 → Int32 → Nat), I x3 x4 ∧ ∀ (x3 : Int32) (x4 : Int32), I x3 x4 → wp_X9_rise_B11 x3 x4 w Q (fun x3' x4' => I x3' x4' ∧ μ x3' x4' < μ x3 x4)
def wp_X9_rise (x1 : Int32) (x2 : Int32) (w : Wd) (Q : Int32 → Wd → Prop) : Prop :=
  wp_X9_go x1 x2 w (fun w3 => wp_X9_rise_L11 (0 : Int32) (0 : Int32) w3 Q)
theorem ok_X9_rise_B11 {G : Gt} {M : Mx} {Qf : State → Prop} {x3 : Int32} {x4 : Int32} {w : Wd} {Q : Int32 → Wd → Prop} {K11 : Int32 → Int32 → Prop} (hC : cx G D_X9_rise M) (he : en G M (qi Q) Qf) (h : wp_X9_rise_B11 x3 x4 w Q K11) (hK11 : ∀ (x3 : Int32) (x4 : Int32), K11 x3 x4 → jq G D_X9_rise M Qf 11 [(0, .ref (aD G 0 32)), (3, .int x3), (4, .int x4)] [] w) : jq G D_X9_rise M Qf 11 [(0, .ref (aD G 0 32)), (3, .int x3), (4, .int x4)] [] w := by
  unfold wp_X9_rise_B11 at h
  refine jq_iload (k0 := 2) dX9_rise_11 hC rfl ?_
  refine jq_aload_n (k0 := 0) dX9_rise_13 hC rfl rfl ?_
  refine jq_get (k0 := 1) (n := 0) (o := 32) dX9_rise_14 hC (cl_0 (by decide)) rfl rfl hi_X9_rise_X9 (by decide) hl_X9_rise_7 rfl rfl ?_
  refine jq_bipush (v := (11 : Int32)) dX9_rise_17 hC (by decide) ?_
  refine jq_iald (n := 0) (o := 33) (j := 11) dX9_rise_19 hC (cl_0 (by decide)) rfl (vin (by decide)) (by decide) ?_
  refine jq_icmp_ge (tgt := 46) dX9_rise_20 hC (by decide) (fun c20 => ?_) (fun c20 => ?_)
  · have h := h.1 c20
    refine jq_iload_n (k0 := 1) dX9_rise_46 hC rfl rfl ?_
    exact jq_iret dX9_rise_47 hC he rfl ⟨_, rfl, h⟩
  · have h := h.2 c20
    refine jq_iload_n (k0 := 1) dX9_rise_23 hC rfl rfl ?_
    refine jq_aload_n (k0 := 0) dX9_rise_24 hC rfl rfl ?_
    refine jq_get (k0 := 11) (n := 0) (o := 32) dX9_rise_25 hC (cl_0 (by decide)) rfl rfl hi_X9_rise_X9 (by decide) hl_X9_rise_35 rfl rfl ?_
    refine jq_iload (k0 := 2) dX9_rise_28 hC rfl ?_
    obtain ⟨b30, h⟩ := h
    refine jq_iald (n := 0) (o := 41) (j := x4.toNatClampNeg) dX9_rise_30 hC (cl_0 (by decide)) rfl b30 rfl ?_
    refine jq_aload_n (k0 := 0) dX9_rise_31 hC rfl rfl ?_
    refine jq_iload (k0 := 2) dX9_rise_32 hC rfl ?_
    refine jq_callV (As := [.int x4]) (rest := [.int (wi w 0 41 x4.toNatClampNeg), .int x3]) (n := 0) (o := 32) (D' := D_X9_corrected) dX9_rise_34 hC (cl_0 (by decide)) rfl rfl rfl (mt_X9_corrected h) gX9_rise_X9_corrected rfl ⟨rfl, rfl, Nat.le_of_ble_eq_true rfl, Nat.le_of_ble_eq_true rfl⟩ nm_X9_corrected rfl (Nat.le_of_ble_eq_true rfl) (kIp fun r34 h => ?_)
    refine jq_imul dX9_rise_37 hC ?_
    refine jq_iadd dX9_rise_38 hC ?_
    refine jq_istore_n (L' := [(3, .int (x3 + ((wi w 0 41 x4.toNatClampNeg) * r34))), (0, .ref (aD G 0 32)), (4, .int x4)]) dX9_rise_39 hC rfl (by decide) rfl ?_
    refine jq_iinc (k0 := 2) (v := (x4 + 1)) (L' := [(4, .int (x4 + 1)), (3, .int (x3 + ((wi w 0 41 x4.toNatClampNeg) * r34))), (0, .ref (aD G 0 32))]) dX9_rise_40 hC rfl rfl (by decide) rfl ?_
    refine jq_goto (tgt := 11) dX9_rise_43 hC (by decide) ?_
    exact jq_less (L' := [(0, .ref (aD G 0 32)), (3, .int (x3 + ((wi w 0 41 x4.toNatClampNeg) * r34))), (4, .int (x4 + 1))]) [2, 1, 0] rfl (hK11 _ _ h)
theorem ok_X9_rise_L11 {G : Gt} {M : Mx} {Qf : State → Prop} {x3 : Int32} {x4 : Int32} {w : Wd} {Q : Int32 → Wd → Prop} (hC : cx G D_X9_rise M) (he : en G M (qi Q) Qf) (h : wp_X9_rise_L11 x3 x4 w Q) : jq G D_X9_rise M Qf 11 [(0, .ref (aD G 0 32)), (3, .int x3), (4, .int x4)] [] w := by
  unfold wp_X9_rise_L11 at h
  obtain ⟨I, μ, h0, hs⟩ := h
  exact lp_ind (σ := Int32 × Int32) (P := fun s => jq G D_X9_rise M Qf 11 [(0, .ref (aD G 0 32)), (3, .int s.1), (4, .int s.2)] [] w) (fun s => I s.1 s.2) (fun s => μ s.1 s.2) (fun s h1 ih => ok_X9_rise_B11 hC he (hs s.1 s.2 h1) (fun x3' x4' h => ih (x3', x4') h.1 h.2)) (x3, x4) h0
theorem ok_X9_rise {G : Gt} {M : Mx} {Qf : State → Prop} {x1 : Int32} {x2 : Int32} {w : Wd} {Q : Int32 → Wd → Prop} (hC : cx G D_X9_rise M) (he : en G M (qi Q) Qf) (h : wp_X9_rise x1 x2 w Q) : jq G D_X9_rise M Qf 0 [(0, .ref (aD G 0 32)), (1, .int x1), (2, .int x2)] [] w := by
  unfold wp_X9_rise at h
  refine jq_aload_n (k0 := 0) dX9_rise_0 hC rfl rfl ?_
  refine jq_iload_n (k0 := 1) dX9_rise_1 hC rfl rfl ?_
  refine jq_iload_n (k0 := 2) dX9_rise_2 hC rfl rfl ?_
  refine jq_callV (As := [.int x1, .int x2]) (rest := []) (n := 0) (o := 32) (D' := D_X9_go) dX9_rise_3 hC (cl_0 (by decide)) rfl rfl rfl (mt_X9_go h) gX9_rise_X9_go rfl ⟨rfl, rfl, Nat.le_of_ble_eq_true rfl, Nat.le_of_ble_eq_true rfl⟩ nm_X9_go rfl (Nat.le_of_ble_eq_true rfl) (kV fun w3 h => ?_)
  refine jq_iconst (v := (0 : Int32)) dX9_rise_6 hC (by decide) ?_
  refine jq_istore_n (L' := [(3, .int (0 : Int32)), (0, .ref (aD G 0 32)), (1, .int x1), (2, .int x2)]) dX9_rise_7 hC rfl (by decide) rfl ?_
  refine jq_iconst (v := (0 : Int32)) dX9_rise_8 hC (by decide) ?_
  refine jq_istore (L' := [(4, .int (0 : Int32)), (3, .int (0 : Int32)), (0, .ref (aD G 0 32)), (1, .int x1), (2, .int x2)]) dX9_rise_9 hC (by decide) rfl ?_
  refine jq_less (L' := [(0, .ref (aD G 0 32)), (3, .int (0 : Int32)), (4, .int (0 : Int32))]) [2, 1, 0] rfl ?_
  exact ok_X9_rise_L11 hC he h
theorem mt_X9_rise {G : Gt} {x1 : Int32} {x2 : Int32} {w : Wd} {Q : Int32 → Wd → Prop} (h : wp_X9_rise x1 x2 w Q) : Mt G D_X9_rise [.ref (aD G 0 32), .int x1, .int x2] w (qi Q) := Mt_of (by decide +kernel) rfl rfl (Nat.le_of_ble_eq_true rfl) (fun M Qf hC he => ok_X9_rise hC he h)
/-! X9.isKnown(I)Z -/
theorem dX9_isKnown_0 : decode cX9_isKnown 0 = .ok (.aload_n 0, 1) := by decide +kernel
theorem dX9_isKnown_1 : decode cX9_isKnown 1 = .ok (.getfield 7, 3) := by decide +kernel
theorem dX9_isKnown_4 : decode cX9_isKnown 4 = .ok (.iconst 1, 1) := by decide +kernel
theorem dX9_isKnown_5 : decode cX9_isKnown 5 = .ok (.iload_n 1, 1) := by decide +kernel
theorem dX9_isKnown_6 : decode cX9_isKnown 6 = .ok (.iadd, 1) := by decide +kernel
theorem dX9_isKnown_7 : decode cX9_isKnown 7 = .ok (.iaload, 1) := by decide +kernel
theorem dX9_isKnown_8 : decode cX9_isKnown 8 = .ok (.iconst (-1), 1) := by decide +kernel
theorem dX9_isKnown_9 : decode cX9_isKnown 9 = .ok (.if_icmp .eq 7, 3) := by decide +kernel
theorem dX9_isKnown_12 : decode cX9_isKnown 12 = .ok (.iconst 1, 1) := by decide +kernel
theorem dX9_isKnown_13 : decode cX9_isKnown 13 = .ok (.goto 4, 3) := by decide +kernel
theorem dX9_isKnown_16 : decode cX9_isKnown 16 = .ok (.iconst 0, 1) := by decide +kernel
theorem dX9_isKnown_17 : decode cX9_isKnown 17 = .ok (.ireturn, 1) := by decide +kernel
def D_X9_isKnown : Md := (yX9_isKnown, cX9_isKnown, 2, (some .boolean), wsX9_isKnown, RX9, { frames := 0, cells := 0, slots := 0, locals := 0 })
theorem nm_X9_isKnown : nmD D_X9_isKnown 1 := ⟨rfl, by decide +kernel, by decide +kernel, by decide +kernel⟩
theorem hi_X9_isKnown_X9 : ∀ w ∈ u_ws RX9 TX9 25, w ∈ wsX9_isKnown := by decide +kernel
theorem hl_X9_isKnown_7 : Cond.fieldLink RX9 7 "LevelLoopsModel" "s" "[I" ∈ wsX9_isKnown := by decide +kernel
def wp_X9_isKnown (x1 : Int32) (w : Wd) (Q : Int32 → Prop) : Prop :=
  vp_in ((1 : Int32) + x1) 95 ∧ (((wi w 0 33 ((1 : Int32) + x1).toNatClampNeg) = (-1 : Int32) → zb (0 : Int32) ∧ Q (0 : Int32)) ∧ (¬ (wi w 0 33 ((1 : Int32) + x1).toNatClampNeg) = (-1 : Int32) → zb (1 : Int32) ∧ Q (1 : Int32)))
theorem ok_X9_isKnown {G : Gt} {M : Mx} {Qf : State → Prop} {x1 : Int32} {w : Wd} {Q : Int32 → Prop} (hC : cx G D_X9_isKnown M) (he : en G M (qip w Q) Qf) (h : wp_X9_isKnown x1 w Q) : jq G D_X9_isKnown M Qf 0 [(0, .ref (aD G 0 32)), (1, .int x1)] [] w := by
  unfold wp_X9_isKnown at h
  refine jq_aload_n (k0 := 0) dX9_isKnown_0 hC rfl rfl ?_
  refine jq_get (k0 := 1) (n := 0) (o := 32) dX9_isKnown_1 hC (cl_0 (by decide)) rfl rfl hi_X9_isKnown_X9 (by decide) hl_X9_isKnown_7 rfl rfl ?_
  refine jq_iconst (v := (1 : Int32)) dX9_isKnown_4 hC (by decide) ?_
  refine jq_iload_n (k0 := 1) dX9_isKnown_5 hC rfl rfl ?_
  refine jq_iadd dX9_isKnown_6 hC ?_
  obtain ⟨b7, h⟩ := h
  refine jq_iald (n := 0) (o := 33) (j := ((1 : Int32) + x1).toNatClampNeg) dX9_isKnown_7 hC (cl_0 (by decide)) rfl b7 rfl ?_
  refine jq_iconst (v := (-1 : Int32)) dX9_isKnown_8 hC (by decide) ?_
  refine jq_icmp_eq (tgt := 16) dX9_isKnown_9 hC (by decide) (fun c9 => ?_) (fun c9 => ?_)
  · have h := h.1 c9
    refine jq_iconst (v := (0 : Int32)) dX9_isKnown_16 hC (by decide) ?_
    obtain ⟨bz, h⟩ := h
    exact jq_zret dX9_isKnown_17 hC he rfl bz ⟨_, rfl, rfl, h⟩
  · have h := h.2 c9
    refine jq_iconst (v := (1 : Int32)) dX9_isKnown_12 hC (by decide) ?_
    refine jq_goto (tgt := 17) dX9_isKnown_13 hC (by decide) ?_
    obtain ⟨bz, h⟩ := h
    exact jq_zret dX9_isKnown_17 hC he rfl bz ⟨_, rfl, rfl, h⟩
theorem mt_X9_isKnown {G : Gt} {x1 : Int32} {w : Wd} {Q : Int32 → Prop} (h : wp_X9_isKnown x1 w Q) : Mt G D_X9_isKnown [.ref (aD G 0 32), .int x1] w (qip w Q) := Mt_of (by decide +kernel) rfl rfl (Nat.le_of_ble_eq_true rfl) (fun M Qf hC he => ok_X9_isKnown hC he h)
/-! X9.agrees(I)I -/
theorem dX9_agrees_0 : decode cX9_agrees 0 = .ok (.iconst 0, 1) := by decide +kernel
theorem dX9_agrees_1 : decode cX9_agrees 1 = .ok (.istore_n 2, 1) := by decide +kernel
theorem dX9_agrees_2 : decode cX9_agrees 2 = .ok (.iconst 0, 1) := by decide +kernel
theorem dX9_agrees_3 : decode cX9_agrees 3 = .ok (.istore_n 3, 1) := by decide +kernel
theorem dX9_agrees_4 : decode cX9_agrees 4 = .ok (.iload_n 3, 1) := by decide +kernel
theorem dX9_agrees_5 : decode cX9_agrees 5 = .ok (.aload_n 0, 1) := by decide +kernel
theorem dX9_agrees_6 : decode cX9_agrees 6 = .ok (.getfield 7, 3) := by decide +kernel
theorem dX9_agrees_9 : decode cX9_agrees 9 = .ok (.iconst 0, 1) := by decide +kernel
theorem dX9_agrees_10 : decode cX9_agrees 10 = .ok (.iaload, 1) := by decide +kernel
theorem dX9_agrees_11 : decode cX9_agrees 11 = .ok (.if_icmp .ge 82, 3) := by decide +kernel
theorem dX9_agrees_14 : decode cX9_agrees 14 = .ok (.iload_n 3, 1) := by decide +kernel
theorem dX9_agrees_15 : decode cX9_agrees 15 = .ok (.iload_n 1, 1) := by decide +kernel
theorem dX9_agrees_16 : decode cX9_agrees 16 = .ok (.if_icmp .eq 71, 3) := by decide +kernel
theorem dX9_agrees_19 : decode cX9_agrees 19 = .ok (.aload_n 0, 1) := by decide +kernel
theorem dX9_agrees_20 : decode cX9_agrees 20 = .ok (.iload_n 3, 1) := by decide +kernel
theorem dX9_agrees_21 : decode cX9_agrees 21 = .ok (.invokevirtual 129, 3) := by decide +kernel
theorem dX9_agrees_24 : decode cX9_agrees 24 = .ok (.ifCond .eq 63, 3) := by decide +kernel
theorem dX9_agrees_27 : decode cX9_agrees 27 = .ok (.aload_n 0, 1) := by decide +kernel
theorem dX9_agrees_28 : decode cX9_agrees 28 = .ok (.getfield 22, 3) := by decide +kernel
theorem dX9_agrees_31 : decode cX9_agrees 31 = .ok (.iload_n 3, 1) := by decide +kernel
theorem dX9_agrees_32 : decode cX9_agrees 32 = .ok (.iaload, 1) := by decide +kernel
theorem dX9_agrees_33 : decode cX9_agrees 33 = .ok (.aload_n 0, 1) := by decide +kernel
theorem dX9_agrees_34 : decode cX9_agrees 34 = .ok (.getfield 22, 3) := by decide +kernel
theorem dX9_agrees_37 : decode cX9_agrees 37 = .ok (.iload_n 1, 1) := by decide +kernel
theorem dX9_agrees_38 : decode cX9_agrees 38 = .ok (.iaload, 1) := by decide +kernel
theorem dX9_agrees_39 : decode cX9_agrees 39 = .ok (.if_icmp .ne 48, 3) := by decide +kernel
theorem dX9_agrees_42 : decode cX9_agrees 42 = .ok (.iload_n 2, 1) := by decide +kernel
theorem dX9_agrees_43 : decode cX9_agrees 43 = .ok (.aload_n 0, 1) := by decide +kernel
theorem dX9_agrees_44 : decode cX9_agrees 44 = .ok (.getfield 7, 3) := by decide +kernel
theorem dX9_agrees_47 : decode cX9_agrees 47 = .ok (.iconst 1, 1) := by decide +kernel
theorem dX9_agrees_48 : decode cX9_agrees 48 = .ok (.iload_n 3, 1) := by decide +kernel
theorem dX9_agrees_49 : decode cX9_agrees 49 = .ok (.iadd, 1) := by decide +kernel
theorem dX9_agrees_50 : decode cX9_agrees 50 = .ok (.iaload, 1) := by decide +kernel
theorem dX9_agrees_51 : decode cX9_agrees 51 = .ok (.aload_n 0, 1) := by decide +kernel
theorem dX9_agrees_52 : decode cX9_agrees 52 = .ok (.getfield 7, 3) := by decide +kernel
theorem dX9_agrees_55 : decode cX9_agrees 55 = .ok (.iconst 1, 1) := by decide +kernel
theorem dX9_agrees_56 : decode cX9_agrees 56 = .ok (.iload_n 1, 1) := by decide +kernel
theorem dX9_agrees_57 : decode cX9_agrees 57 = .ok (.iadd, 1) := by decide +kernel
theorem dX9_agrees_58 : decode cX9_agrees 58 = .ok (.iaload, 1) := by decide +kernel
theorem dX9_agrees_59 : decode cX9_agrees 59 = .ok (.isub, 1) := by decide +kernel
theorem dX9_agrees_60 : decode cX9_agrees 60 = .ok (.aload_n 0, 1) := by decide +kernel
theorem dX9_agrees_61 : decode cX9_agrees 61 = .ok (.iload_n 1, 1) := by decide +kernel
theorem dX9_agrees_62 : decode cX9_agrees 62 = .ok (.iload_n 3, 1) := by decide +kernel
theorem dX9_agrees_63 : decode cX9_agrees 63 = .ok (.invokevirtual 132, 3) := by decide +kernel
theorem dX9_agrees_66 : decode cX9_agrees 66 = .ok (.isub, 1) := by decide +kernel
theorem dX9_agrees_67 : decode cX9_agrees 67 = .ok (.invokestatic 107, 3) := by decide +kernel
theorem dX9_agrees_70 : decode cX9_agrees 70 = .ok (.aload_n 0, 1) := by decide +kernel
theorem dX9_agrees_71 : decode cX9_agrees 71 = .ok (.getfield 7, 3) := by decide +kernel
theorem dX9_agrees_74 : decode cX9_agrees 74 = .ok (.bipush 94, 2) := by decide +kernel
theorem dX9_agrees_76 : decode cX9_agrees 76 = .ok (.iaload, 1) := by decide +kernel
theorem dX9_agrees_77 : decode cX9_agrees 77 = .ok (.if_icmp .gt 7, 3) := by decide +kernel
theorem dX9_agrees_80 : decode cX9_agrees 80 = .ok (.iconst 1, 1) := by decide +kernel
theorem dX9_agrees_81 : decode cX9_agrees 81 = .ok (.goto 4, 3) := by decide +kernel
theorem dX9_agrees_84 : decode cX9_agrees 84 = .ok (.iconst 0, 1) := by decide +kernel
theorem dX9_agrees_85 : decode cX9_agrees 85 = .ok (.iadd, 1) := by decide +kernel
theorem dX9_agrees_86 : decode cX9_agrees 86 = .ok (.istore_n 2, 1) := by decide +kernel
theorem dX9_agrees_87 : decode cX9_agrees 87 = .ok (.iinc 3 1, 3) := by decide +kernel
theorem dX9_agrees_90 : decode cX9_agrees 90 = .ok (.goto (-86), 3) := by decide +kernel
theorem dX9_agrees_93 : decode cX9_agrees 93 = .ok (.iload_n 2, 1) := by decide +kernel
theorem dX9_agrees_94 : decode cX9_agrees 94 = .ok (.ireturn, 1) := by decide +kernel
set_option maxRecDepth 20000 in
theorem ggX9_agrees_X9_size : GoodIn wsX9_agrees wsX9_size := goodIn_r _ [33] (by decide +kernel) (by decide +kernel)
set_option maxRecDepth 20000 in
theorem gX9_agrees_X9_size : GoodIn wsX9_agrees (va_wsS RX9 107 yX9_size wsX9_size) := goodIn_app (goodIn_of _ (by decide +kernel)) ggX9_agrees_X9_size
set_option maxRecDepth 20000 in
theorem ggX9_agrees_X9_rise : GoodIn wsX9_agrees wsX9_rise := goodIn_r _ [11, 1, 12, 13, 14, 15, 6, 16, 17, 18, 19, 20, 21, 22, 23, 24, 25, 26, 27, 28, 29, 30, 34, 35, 36, 37, 38, 39, 40, 41, 42, 43, 44, 45, 46, 47, 48, 49, 50, 51, 52, 53, 54, 55, 56, 57, 58] (by decide +kernel) (by decide +kernel)
set_option maxRecDepth 20000 in
theorem gX9_agrees_X9_rise : GoodIn wsX9_agrees (wsV RX9 132 RX9 yX9_rise wsX9_rise) := goodIn_app (goodIn_of _ (by decide +kernel)) ggX9_agrees_X9_rise
set_option maxRecDepth 20000 in
theorem ggX9_agrees_X9_isKnown : GoodIn wsX9_agrees wsX9_isKnown := goodIn_r _ [7, 1, 34, 35, 36, 37, 38, 39, 40, 41, 42, 43, 44, 45, 46, 47, 48, 49, 50, 51, 52, 53, 54, 55, 56, 57, 58] (by decide +kernel) (by decide +kernel)
set_option maxRecDepth 20000 in
theorem gX9_agrees_X9_isKnown : GoodIn wsX9_agrees (wsV RX9 129 RX9 yX9_isKnown wsX9_isKnown) := goodIn_app (goodIn_of _ (by decide +kernel)) ggX9_agrees_X9_isKnown
def D_X9_agrees : Md := (yX9_agrees, cX9_agrees, 4, (some .int), wsX9_agrees, RX9, { frames := 4, cells := 0, slots := 0, locals := 91 })
theorem nm_X9_agrees : nmD D_X9_agrees 1 := ⟨rfl, by decide +kernel, by decide +kernel, by decide +kernel⟩
theorem hi_X9_agrees_X9 : ∀ w ∈ u_ws RX9 TX9 25, w ∈ wsX9_agrees := by decide +kernel
theorem hl_X9_agrees_7 : Cond.fieldLink RX9 7 "LevelLoopsModel" "s" "[I" ∈ wsX9_agrees := by decide +kernel
theorem hl_X9_agrees_22 : Cond.fieldLink RX9 22 "LevelLoopsModel" "net" "[I" ∈ wsX9_agrees := by decide +kernel
def wp_X9_agrees_J85 (x1 : Int32) (x3 : Int32) (s0 : Int32) (s1 : Int32) (w : Wd) (Q : Int32 → Wd → Prop) (K4 : Int32 → Int32 → Wd → Prop) : Prop :=
  K4 (s1 + s0) (x3 + 1) w
def wp_X9_agrees_B4 (x1 : Int32) (x2 : Int32) (x3 : Int32) (w : Wd) (Q : Int32 → Wd → Prop) (K4 : Int32 → Int32 → Wd → Prop) : Prop :=
  (((wi w 0 33 0) ≤ x3 → Q x2 w) ∧ (¬ (wi w 0 33 0) ≤ x3 → ((x3 = x1 → K4 x2 (x3 + 1) w) ∧ (¬ x3 = x1 → wp_X9_isKnown x3 w (fun r21 => ((r21 = 0 → K4 x2 (x3 + 1) w) ∧ (¬ r21 = 0 → vp_in x3 10 ∧ vp_in x1 10 ∧ ((¬ (wi w 0 37 x3.toNatClampNeg) = (wi w 0 37 x1.toNatClampNeg) → K4 x2 (x3 + 1) w) ∧ ((wi w 0 37 x3.toNatClampNeg) = (wi w 0 37 x1.toNatClampNeg) → vp_in ((1 : Int32) + x3) 95 ∧ vp_in ((1 : Int32) + x1) 95 ∧ wp_X9_rise x1 x3 w (fun r63 w63 => wp_X9_size (((wi w 0 33 ((1 : Int32) + x3).toNatClampNeg) - (wi w 0 33 ((1 : Int32) + x1).toNatClampNeg)) - r63) (fun r67 => (((wi w63 0 33 94) < r67 → wp_X9_agrees_J85 x1 x3 (0 : Int32) x2 w63 Q K4) ∧ (¬ (wi w63 0 33 94) < r67 → wp_X9_agrees_J85 x1 x3 (1 : Int32) x2 w63 Q K4)))))))))))))
def wp_X9_agrees_L4 (x1 : Int32) (x2 : Int32) (x3 : Int32) (w : Wd) (Q : Int32 → Wd → Prop) : Prop :=
  ∃ (I : Int32 → Int32 → Wd → Prop) (μ : Int32 → Int32 → Wd → Nat), I x2 x3 w ∧ ∀ (x2 : Int32) (x3 : Int32) (w : Wd), I x2 x3 w → wp_X9_agrees_B4 x1 x2 x3 w Q (fun x2' x3' w' => I x2' x3' w' ∧ μ x2' x3' w' < μ x2 x3 w)
def wp_X9_agrees (x1 : Int32) (w : Wd) (Q : Int32 → Wd → Prop) : Prop :=
  wp_X9_agrees_L4 x1 (0 : Int32) (0 : Int32) w Q
theorem ok_X9_agrees_J85 {G : Gt} {M : Mx} {Qf : State → Prop} {x1 : Int32} {x3 : Int32} {s0 : Int32} {s1 : Int32} {w : Wd} {Q : Int32 → Wd → Prop} {K4 : Int32 → Int32 → Wd → Prop} (hC : cx G D_X9_agrees M) (he : en G M (qi Q) Qf) (h : wp_X9_agrees_J85 x1 x3 s0 s1 w Q K4) (hK4 : ∀ (x2 : Int32) (x3 : Int32) (w : Wd), K4 x2 x3 w → jq G D_X9_agrees M Qf 4 [(0, .ref (aD G 0 32)), (1, .int x1), (2, .int x2), (3, .int x3)] [] w) : jq G D_X9_agrees M Qf 85 [(0, .ref (aD G 0 32)), (1, .int x1), (3, .int x3)] [.int s0, .int s1] w := by
  unfold wp_X9_agrees_J85 at h
  refine jq_iadd dX9_agrees_85 hC ?_
  refine jq_istore_n (L' := [(2, .int (s1 + s0)), (0, .ref (aD G 0 32)), (1, .int x1), (3, .int x3)]) dX9_agrees_86 hC rfl (by decide) rfl ?_
  refine jq_iinc (k0 := 3) (v := (x3 + 1)) (L' := [(3, .int (x3 + 1)), (2, .int (s1 + s0)), (0, .ref (aD G 0 32)), (1, .int x1)]) dX9_agrees_87 hC rfl rfl (by decide) rfl ?_
  refine jq_goto (tgt := 4) dX9_agrees_90 hC (by decide) ?_
  exact jq_less (L' := [(0, .ref (aD G 0 32)), (1, .int x1), (2, .int (s1 + s0)), (3, .int (x3 + 1))]) [2, 3, 1, 0] rfl (hK4 _ _ _ h)
theorem ok_X9_agrees_B4 {G : Gt} {M : Mx} {Qf : State → Prop} {x1 : Int32} {x2 : Int32} {x3 : Int32} {w : Wd} {Q : Int32 → Wd → Prop} {K4 : Int32 → Int32 → Wd → Prop} (hC : cx G D_X9_agrees M) (he : en G M (qi Q) Qf) (h : wp_X9_agrees_B4 x1 x2 x3 w Q K4) (hK4 : ∀ (x2 : Int32) (x3 : Int32) (w : Wd), K4 x2 x3 w → jq G D_X9_agrees M Qf 4 [(0, .ref (aD G 0 32)), (1, .int x1), (2, .int x2), (3, .int x3)] [] w) : jq G D_X9_agrees M Qf 4 [(0, .ref (aD G 0 32)), (1, .int x1), (2, .int x2), (3, .int x3)] [] w := by
  unfold wp_X9_agrees_B4 at h
  refine jq_iload_n (k0 := 3) dX9_agrees_4 hC rfl rfl ?_
  refine jq_aload_n (k0 := 0) dX9_agrees_5 hC rfl rfl ?_
  refine jq_get (k0 := 1) (n := 0) (o := 32) dX9_agrees_6 hC (cl_0 (by decide)) rfl rfl hi_X9_agrees_X9 (by decide) hl_X9_agrees_7 rfl rfl ?_
  refine jq_iconst (v := (0 : Int32)) dX9_agrees_9 hC (by decide) ?_
  refine jq_iald (n := 0) (o := 33) (j := 0) dX9_agrees_10 hC (cl_0 (by decide)) rfl (vin (by decide)) (by decide) ?_
  refine jq_icmp_ge (tgt := 93) dX9_agrees_11 hC (by decide) (fun c11 => ?_) (fun c11 => ?_)
  · have h := h.1 c11
    refine jq_iload_n (k0 := 2) dX9_agrees_93 hC rfl rfl ?_
    exact jq_iret dX9_agrees_94 hC he rfl ⟨_, rfl, h⟩
  · have h := h.2 c11
    refine jq_iload_n (k0 := 3) dX9_agrees_14 hC rfl rfl ?_
    refine jq_iload_n (k0 := 1) dX9_agrees_15 hC rfl rfl ?_
    refine jq_icmp_eq (tgt := 87) dX9_agrees_16 hC (by decide) (fun c16 => ?_) (fun c16 => ?_)
    · have h := h.1 c16
      refine jq_iinc (k0 := 3) (v := (x3 + 1)) (L' := [(3, .int (x3 + 1)), (0, .ref (aD G 0 32)), (1, .int x1), (2, .int x2)]) dX9_agrees_87 hC rfl rfl (by decide) rfl ?_
      refine jq_goto (tgt := 4) dX9_agrees_90 hC (by decide) ?_
      exact jq_less (L' := [(0, .ref (aD G 0 32)), (1, .int x1), (2, .int x2), (3, .int (x3 + 1))]) [1, 2, 3, 0] rfl (hK4 _ _ _ h)
    · have h := h.2 c16
      refine jq_aload_n (k0 := 0) dX9_agrees_19 hC rfl rfl ?_
      refine jq_iload_n (k0 := 3) dX9_agrees_20 hC rfl rfl ?_
      refine jq_callV (As := [.int x3]) (rest := []) (n := 0) (o := 32) (D' := D_X9_isKnown) dX9_agrees_21 hC (cl_0 (by decide)) rfl rfl rfl (mt_X9_isKnown h) gX9_agrees_X9_isKnown rfl ⟨rfl, rfl, Nat.le_of_ble_eq_true rfl, Nat.le_of_ble_eq_true rfl⟩ nm_X9_isKnown rfl (Nat.le_of_ble_eq_true rfl) (kIp fun r21 h => ?_)
      refine jq_if_eq (tgt := 87) dX9_agrees_24 hC (by decide) (fun c24 => ?_) (fun c24 => ?_)
      · have h := h.1 c24
        refine jq_iinc (k0 := 3) (v := (x3 + 1)) (L' := [(3, .int (x3 + 1)), (0, .ref (aD G 0 32)), (1, .int x1), (2, .int x2)]) dX9_agrees_87 hC rfl rfl (by decide) rfl ?_
        refine jq_goto (tgt := 4) dX9_agrees_90 hC (by decide) ?_
        exact jq_less (L' := [(0, .ref (aD G 0 32)), (1, .int x1), (2, .int x2), (3, .int (x3 + 1))]) [1, 2, 3, 0] rfl (hK4 _ _ _ h)
      · have h := h.2 c24
        refine jq_aload_n (k0 := 0) dX9_agrees_27 hC rfl rfl ?_
        refine jq_get (k0 := 7) (n := 0) (o := 32) dX9_agrees_28 hC (cl_0 (by decide)) rfl rfl hi_X9_agrees_X9 (by decide) hl_X9_agrees_22 rfl rfl ?_
        refine jq_iload_n (k0 := 3) dX9_agrees_31 hC rfl rfl ?_
        obtain ⟨b32, h⟩ := h
        refine jq_iald (n := 0) (o := 37) (j := x3.toNatClampNeg) dX9_agrees_32 hC (cl_0 (by decide)) rfl b32 rfl ?_
        refine jq_aload_n (k0 := 0) dX9_agrees_33 hC rfl rfl ?_
        refine jq_get (k0 := 7) (n := 0) (o := 32) dX9_agrees_34 hC (cl_0 (by decide)) rfl rfl hi_X9_agrees_X9 (by decide) hl_X9_agrees_22 rfl rfl ?_
        refine jq_iload_n (k0 := 1) dX9_agrees_37 hC rfl rfl ?_
        obtain ⟨b38, h⟩ := h
        refine jq_iald (n := 0) (o := 37) (j := x1.toNatClampNeg) dX9_agrees_38 hC (cl_0 (by decide)) rfl b38 rfl ?_
        refine jq_icmp_ne (tgt := 87) dX9_agrees_39 hC (by decide) (fun c39 => ?_) (fun c39 => ?_)
        · have h := h.1 c39
          refine jq_iinc (k0 := 3) (v := (x3 + 1)) (L' := [(3, .int (x3 + 1)), (0, .ref (aD G 0 32)), (1, .int x1), (2, .int x2)]) dX9_agrees_87 hC rfl rfl (by decide) rfl ?_
          refine jq_goto (tgt := 4) dX9_agrees_90 hC (by decide) ?_
          exact jq_less (L' := [(0, .ref (aD G 0 32)), (1, .int x1), (2, .int x2), (3, .int (x3 + 1))]) [1, 2, 3, 0] rfl (hK4 _ _ _ h)
        · have h := h.2 c39
          refine jq_iload_n (k0 := 2) dX9_agrees_42 hC rfl rfl ?_
          refine jq_aload_n (k0 := 0) dX9_agrees_43 hC rfl rfl ?_
          refine jq_get (k0 := 1) (n := 0) (o := 32) dX9_agrees_44 hC (cl_0 (by decide)) rfl rfl hi_X9_agrees_X9 (by decide) hl_X9_agrees_7 rfl rfl ?_
          refine jq_iconst (v := (1 : Int32)) dX9_agrees_47 hC (by decide) ?_
          refine jq_iload_n (k0 := 3) dX9_agrees_48 hC rfl rfl ?_
          refine jq_iadd dX9_agrees_49 hC ?_
          obtain ⟨b50, h⟩ := h
          refine jq_iald (n := 0) (o := 33) (j := ((1 : Int32) + x3).toNatClampNeg) dX9_agrees_50 hC (cl_0 (by decide)) rfl b50 rfl ?_
          refine jq_aload_n (k0 := 0) dX9_agrees_51 hC rfl rfl ?_
          refine jq_get (k0 := 1) (n := 0) (o := 32) dX9_agrees_52 hC (cl_0 (by decide)) rfl rfl hi_X9_agrees_X9 (by decide) hl_X9_agrees_7 rfl rfl ?_
          refine jq_iconst (v := (1 : Int32)) dX9_agrees_55 hC (by decide) ?_
          refine jq_iload_n (k0 := 1) dX9_agrees_56 hC rfl rfl ?_
          refine jq_iadd dX9_agrees_57 hC ?_
          obtain ⟨b58, h⟩ := h
          refine jq_iald (n := 0) (o := 33) (j := ((1 : Int32) + x1).toNatClampNeg) dX9_agrees_58 hC (cl_0 (by decide)) rfl b58 rfl ?_
          refine jq_isub dX9_agrees_59 hC ?_
          refine jq_aload_n (k0 := 0) dX9_agrees_60 hC rfl rfl ?_
          refine jq_iload_n (k0 := 1) dX9_agrees_61 hC rfl rfl ?_
          refine jq_iload_n (k0 := 3) dX9_agrees_62 hC rfl rfl ?_
          refine jq_callV (As := [.int x1, .int x3]) (rest := [.int ((wi w 0 33 ((1 : Int32) + x3).toNatClampNeg) - (wi w 0 33 ((1 : Int32) + x1).toNatClampNeg)), .int x2]) (n := 0) (o := 32) (D' := D_X9_rise) dX9_agrees_63 hC (cl_0 (by decide)) rfl rfl rfl (mt_X9_rise h) gX9_agrees_X9_rise rfl ⟨rfl, rfl, Nat.le_of_ble_eq_true rfl, Nat.le_of_ble_eq_true rfl⟩ nm_X9_rise rfl (Nat.le_of_ble_eq_true rfl) (kI fun r63 w63 h => ?_)
          refine jq_isub dX9_agrees_66 hC ?_
          refine jq_callS (As := [.int (((wi w 0 33 ((1 : Int32) + x3).toNatClampNeg) - (wi w 0 33 ((1 : Int32) + x1).toNatClampNeg)) - r63)]) (rest := [.int x2]) (D' := D_X9_size) dX9_agrees_67 hC (mt_X9_size h) gX9_agrees_X9_size rfl ⟨rfl, rfl, Nat.le_of_ble_eq_true rfl, Nat.le_of_ble_eq_true rfl⟩ nm_X9_size rfl (Nat.le_of_ble_eq_true rfl) (kIp fun r67 h => ?_)
          refine jq_aload_n (k0 := 0) dX9_agrees_70 hC rfl rfl ?_
          refine jq_get (k0 := 1) (n := 0) (o := 32) dX9_agrees_71 hC (cl_0 (by decide)) rfl rfl hi_X9_agrees_X9 (by decide) hl_X9_agrees_7 rfl rfl ?_
          refine jq_bipush (v := (94 : Int32)) dX9_agrees_74 hC (by decide) ?_
          refine jq_iald (n := 0) (o := 33) (j := 94) dX9_agrees_76 hC (cl_0 (by decide)) rfl (vin (by decide)) (by decide) ?_
          refine jq_icmp_gt (tgt := 84) dX9_agrees_77 hC (by decide) (fun c77 => ?_) (fun c77 => ?_)
          · have h := h.1 c77
            refine jq_iconst (v := (0 : Int32)) dX9_agrees_84 hC (by decide) ?_
            refine jq_less (L' := [(0, .ref (aD G 0 32)), (1, .int x1), (3, .int x3)]) [0, 1, 3] rfl ?_
            exact ok_X9_agrees_J85 hC he h hK4
          · have h := h.2 c77
            refine jq_iconst (v := (1 : Int32)) dX9_agrees_80 hC (by decide) ?_
            refine jq_goto (tgt := 85) dX9_agrees_81 hC (by decide) ?_
            refine jq_less (L' := [(0, .ref (aD G 0 32)), (1, .int x1), (3, .int x3)]) [0, 1, 3] rfl ?_
            exact ok_X9_agrees_J85 hC he h hK4
theorem ok_X9_agrees_L4 {G : Gt} {M : Mx} {Qf : State → Prop} {x1 : Int32} {x2 : Int32} {x3 : Int32} {w : Wd} {Q : Int32 → Wd → Prop} (hC : cx G D_X9_agrees M) (he : en G M (qi Q) Qf) (h : wp_X9_agrees_L4 x1 x2 x3 w Q) : jq G D_X9_agrees M Qf 4 [(0, .ref (aD G 0 32)), (1, .int x1), (2, .int x2), (3, .int x3)] [] w := by
  unfold wp_X9_agrees_L4 at h
  obtain ⟨I, μ, h0, hs⟩ := h
  exact lp_ind (σ := Int32 × Int32 × Wd) (P := fun s => jq G D_X9_agrees M Qf 4 [(0, .ref (aD G 0 32)), (1, .int x1), (2, .int s.1), (3, .int s.2.1)] [] s.2.2) (fun s => I s.1 s.2.1 s.2.2) (fun s => μ s.1 s.2.1 s.2.2) (fun s h1 ih => ok_X9_agrees_B4 hC he (hs s.1 s.2.1 s.2.2 h1) (fun x2' x3' w' h => ih (x2', x3', w') h.1 h.2)) (x2, x3, w) h0
theorem ok_X9_agrees {G : Gt} {M : Mx} {Qf : State → Prop} {x1 : Int32} {w : Wd} {Q : Int32 → Wd → Prop} (hC : cx G D_X9_agrees M) (he : en G M (qi Q) Qf) (h : wp_X9_agrees x1 w Q) : jq G D_X9_agrees M Qf 0 [(0, .ref (aD G 0 32)), (1, .int x1)] [] w := by
  unfold wp_X9_agrees at h
  refine jq_iconst (v := (0 : Int32)) dX9_agrees_0 hC (by decide) ?_
  refine jq_istore_n (L' := [(2, .int (0 : Int32)), (0, .ref (aD G 0 32)), (1, .int x1)]) dX9_agrees_1 hC rfl (by decide) rfl ?_
  refine jq_iconst (v := (0 : Int32)) dX9_agrees_2 hC (by decide) ?_
  refine jq_istore_n (L' := [(3, .int (0 : Int32)), (2, .int (0 : Int32)), (0, .ref (aD G 0 32)), (1, .int x1)]) dX9_agrees_3 hC rfl (by decide) rfl ?_
  refine jq_less (L' := [(0, .ref (aD G 0 32)), (1, .int x1), (2, .int (0 : Int32)), (3, .int (0 : Int32))]) [2, 3, 1, 0] rfl ?_
  exact ok_X9_agrees_L4 hC he h
theorem mt_X9_agrees {G : Gt} {x1 : Int32} {w : Wd} {Q : Int32 → Wd → Prop} (h : wp_X9_agrees x1 w Q) : Mt G D_X9_agrees [.ref (aD G 0 32), .int x1] w (qi Q) := Mt_of (by decide +kernel) rfl rfl (Nat.le_of_ble_eq_true rfl) (fun M Qf hC he => ok_X9_agrees hC he h)
/-! X9.layHeights()V -/
theorem dX9_layHeights_0 : decode cX9_layHeights 0 = .ok (.iconst 0, 1) := by decide +kernel
theorem dX9_layHeights_1 : decode cX9_layHeights 1 = .ok (.istore_n 1, 1) := by decide +kernel
theorem dX9_layHeights_2 : decode cX9_layHeights 2 = .ok (.iload_n 1, 1) := by decide +kernel
theorem dX9_layHeights_3 : decode cX9_layHeights 3 = .ok (.aload_n 0, 1) := by decide +kernel
theorem dX9_layHeights_4 : decode cX9_layHeights 4 = .ok (.getfield 7, 3) := by decide +kernel
theorem dX9_layHeights_7 : decode cX9_layHeights 7 = .ok (.iconst 0, 1) := by decide +kernel
theorem dX9_layHeights_8 : decode cX9_layHeights 8 = .ok (.iaload, 1) := by decide +kernel
theorem dX9_layHeights_9 : decode cX9_layHeights 9 = .ok (.if_icmp .ge 151, 3) := by decide +kernel
theorem dX9_layHeights_12 : decode cX9_layHeights 12 = .ok (.aload_n 0, 1) := by decide +kernel
theorem dX9_layHeights_13 : decode cX9_layHeights 13 = .ok (.getfield 59, 3) := by decide +kernel
theorem dX9_layHeights_16 : decode cX9_layHeights 16 = .ok (.iload_n 1, 1) := by decide +kernel
theorem dX9_layHeights_17 : decode cX9_layHeights 17 = .ok (.iconst (-1), 1) := by decide +kernel
theorem dX9_layHeights_18 : decode cX9_layHeights 18 = .ok (.iastore, 1) := by decide +kernel
theorem dX9_layHeights_19 : decode cX9_layHeights 19 = .ok (.iconst (-1), 1) := by decide +kernel
theorem dX9_layHeights_20 : decode cX9_layHeights 20 = .ok (.istore_n 2, 1) := by decide +kernel
theorem dX9_layHeights_21 : decode cX9_layHeights 21 = .ok (.iconst 0, 1) := by decide +kernel
theorem dX9_layHeights_22 : decode cX9_layHeights 22 = .ok (.istore_n 3, 1) := by decide +kernel
theorem dX9_layHeights_23 : decode cX9_layHeights 23 = .ok (.iload_n 3, 1) := by decide +kernel
theorem dX9_layHeights_24 : decode cX9_layHeights 24 = .ok (.aload_n 0, 1) := by decide +kernel
theorem dX9_layHeights_25 : decode cX9_layHeights 25 = .ok (.getfield 7, 3) := by decide +kernel
theorem dX9_layHeights_28 : decode cX9_layHeights 28 = .ok (.iconst 0, 1) := by decide +kernel
theorem dX9_layHeights_29 : decode cX9_layHeights 29 = .ok (.iaload, 1) := by decide +kernel
theorem dX9_layHeights_30 : decode cX9_layHeights 30 = .ok (.if_icmp .ge 78, 3) := by decide +kernel
theorem dX9_layHeights_33 : decode cX9_layHeights 33 = .ok (.aload_n 0, 1) := by decide +kernel
theorem dX9_layHeights_34 : decode cX9_layHeights 34 = .ok (.iload_n 3, 1) := by decide +kernel
theorem dX9_layHeights_35 : decode cX9_layHeights 35 = .ok (.invokevirtual 129, 3) := by decide +kernel
theorem dX9_layHeights_38 : decode cX9_layHeights 38 = .ok (.ifCond .eq 26, 3) := by decide +kernel
theorem dX9_layHeights_41 : decode cX9_layHeights 41 = .ok (.aload_n 0, 1) := by decide +kernel
theorem dX9_layHeights_42 : decode cX9_layHeights 42 = .ok (.getfield 22, 3) := by decide +kernel
theorem dX9_layHeights_45 : decode cX9_layHeights 45 = .ok (.iload_n 3, 1) := by decide +kernel
theorem dX9_layHeights_46 : decode cX9_layHeights 46 = .ok (.iaload, 1) := by decide +kernel
theorem dX9_layHeights_47 : decode cX9_layHeights 47 = .ok (.aload_n 0, 1) := by decide +kernel
theorem dX9_layHeights_48 : decode cX9_layHeights 48 = .ok (.getfield 22, 3) := by decide +kernel
theorem dX9_layHeights_51 : decode cX9_layHeights 51 = .ok (.iload_n 1, 1) := by decide +kernel
theorem dX9_layHeights_52 : decode cX9_layHeights 52 = .ok (.iaload, 1) := by decide +kernel
theorem dX9_layHeights_53 : decode cX9_layHeights 53 = .ok (.if_icmp .ne 11, 3) := by decide +kernel
theorem dX9_layHeights_56 : decode cX9_layHeights 56 = .ok (.aload_n 0, 1) := by decide +kernel
theorem dX9_layHeights_57 : decode cX9_layHeights 57 = .ok (.iload_n 3, 1) := by decide +kernel
theorem dX9_layHeights_58 : decode cX9_layHeights 58 = .ok (.invokevirtual 135, 3) := by decide +kernel
theorem dX9_layHeights_61 : decode cX9_layHeights 61 = .ok (.goto 4, 3) := by decide +kernel
theorem dX9_layHeights_64 : decode cX9_layHeights 64 = .ok (.iconst (-1), 1) := by decide +kernel
theorem dX9_layHeights_65 : decode cX9_layHeights 65 = .ok (.istore 4, 2) := by decide +kernel
theorem dX9_layHeights_67 : decode cX9_layHeights 67 = .ok (.aload_n 0, 1) := by decide +kernel
theorem dX9_layHeights_68 : decode cX9_layHeights 68 = .ok (.getfield 59, 3) := by decide +kernel
theorem dX9_layHeights_71 : decode cX9_layHeights 71 = .ok (.iload_n 1, 1) := by decide +kernel
theorem dX9_layHeights_72 : decode cX9_layHeights 72 = .ok (.iload 4, 2) := by decide +kernel
theorem dX9_layHeights_74 : decode cX9_layHeights 74 = .ok (.iload_n 2, 1) := by decide +kernel
theorem dX9_layHeights_75 : decode cX9_layHeights 75 = .ok (.if_icmp .le 7, 3) := by decide +kernel
theorem dX9_layHeights_78 : decode cX9_layHeights 78 = .ok (.iload_n 3, 1) := by decide +kernel
theorem dX9_layHeights_79 : decode cX9_layHeights 79 = .ok (.goto 9, 3) := by decide +kernel
theorem dX9_layHeights_82 : decode cX9_layHeights 82 = .ok (.aload_n 0, 1) := by decide +kernel
theorem dX9_layHeights_83 : decode cX9_layHeights 83 = .ok (.getfield 59, 3) := by decide +kernel
theorem dX9_layHeights_86 : decode cX9_layHeights 86 = .ok (.iload_n 1, 1) := by decide +kernel
theorem dX9_layHeights_87 : decode cX9_layHeights 87 = .ok (.iaload, 1) := by decide +kernel
theorem dX9_layHeights_88 : decode cX9_layHeights 88 = .ok (.iastore, 1) := by decide +kernel
theorem dX9_layHeights_89 : decode cX9_layHeights 89 = .ok (.iload 4, 2) := by decide +kernel
theorem dX9_layHeights_91 : decode cX9_layHeights 91 = .ok (.iload_n 2, 1) := by decide +kernel
theorem dX9_layHeights_92 : decode cX9_layHeights 92 = .ok (.if_icmp .le 8, 3) := by decide +kernel
theorem dX9_layHeights_95 : decode cX9_layHeights 95 = .ok (.iload 4, 2) := by decide +kernel
theorem dX9_layHeights_97 : decode cX9_layHeights 97 = .ok (.goto 4, 3) := by decide +kernel
theorem dX9_layHeights_100 : decode cX9_layHeights 100 = .ok (.iload_n 2, 1) := by decide +kernel
theorem dX9_layHeights_101 : decode cX9_layHeights 101 = .ok (.istore_n 2, 1) := by decide +kernel
theorem dX9_layHeights_102 : decode cX9_layHeights 102 = .ok (.iinc 3 1, 3) := by decide +kernel
theorem dX9_layHeights_105 : decode cX9_layHeights 105 = .ok (.goto (-82), 3) := by decide +kernel
theorem dX9_layHeights_108 : decode cX9_layHeights 108 = .ok (.aload_n 0, 1) := by decide +kernel
theorem dX9_layHeights_109 : decode cX9_layHeights 109 = .ok (.getfield 62, 3) := by decide +kernel
theorem dX9_layHeights_112 : decode cX9_layHeights 112 = .ok (.iload_n 1, 1) := by decide +kernel
theorem dX9_layHeights_113 : decode cX9_layHeights 113 = .ok (.aload_n 0, 1) := by decide +kernel
theorem dX9_layHeights_114 : decode cX9_layHeights 114 = .ok (.getfield 59, 3) := by decide +kernel
theorem dX9_layHeights_117 : decode cX9_layHeights 117 = .ok (.iload_n 1, 1) := by decide +kernel
theorem dX9_layHeights_118 : decode cX9_layHeights 118 = .ok (.iaload, 1) := by decide +kernel
theorem dX9_layHeights_119 : decode cX9_layHeights 119 = .ok (.iconst (-1), 1) := by decide +kernel
theorem dX9_layHeights_120 : decode cX9_layHeights 120 = .ok (.if_icmp .ne 8, 3) := by decide +kernel
theorem dX9_layHeights_123 : decode cX9_layHeights 123 = .ok (.ldc 138, 2) := by decide +kernel
theorem dX9_layHeights_125 : decode cX9_layHeights 125 = .ok (.goto 28, 3) := by decide +kernel
theorem dX9_layHeights_128 : decode cX9_layHeights 128 = .ok (.aload_n 0, 1) := by decide +kernel
theorem dX9_layHeights_129 : decode cX9_layHeights 129 = .ok (.getfield 7, 3) := by decide +kernel
theorem dX9_layHeights_132 : decode cX9_layHeights 132 = .ok (.iconst 1, 1) := by decide +kernel
theorem dX9_layHeights_133 : decode cX9_layHeights 133 = .ok (.aload_n 0, 1) := by decide +kernel
theorem dX9_layHeights_134 : decode cX9_layHeights 134 = .ok (.getfield 59, 3) := by decide +kernel
theorem dX9_layHeights_137 : decode cX9_layHeights 137 = .ok (.iload_n 1, 1) := by decide +kernel
theorem dX9_layHeights_138 : decode cX9_layHeights 138 = .ok (.iaload, 1) := by decide +kernel
theorem dX9_layHeights_139 : decode cX9_layHeights 139 = .ok (.iadd, 1) := by decide +kernel
theorem dX9_layHeights_140 : decode cX9_layHeights 140 = .ok (.iaload, 1) := by decide +kernel
theorem dX9_layHeights_141 : decode cX9_layHeights 141 = .ok (.aload_n 0, 1) := by decide +kernel
theorem dX9_layHeights_142 : decode cX9_layHeights 142 = .ok (.aload_n 0, 1) := by decide +kernel
theorem dX9_layHeights_143 : decode cX9_layHeights 143 = .ok (.getfield 59, 3) := by decide +kernel
theorem dX9_layHeights_146 : decode cX9_layHeights 146 = .ok (.iload_n 1, 1) := by decide +kernel
theorem dX9_layHeights_147 : decode cX9_layHeights 147 = .ok (.iaload, 1) := by decide +kernel
theorem dX9_layHeights_148 : decode cX9_layHeights 148 = .ok (.iload_n 1, 1) := by decide +kernel
theorem dX9_layHeights_149 : decode cX9_layHeights 149 = .ok (.invokevirtual 132, 3) := by decide +kernel
theorem dX9_layHeights_152 : decode cX9_layHeights 152 = .ok (.iadd, 1) := by decide +kernel
theorem dX9_layHeights_153 : decode cX9_layHeights 153 = .ok (.iastore, 1) := by decide +kernel
theorem dX9_layHeights_154 : decode cX9_layHeights 154 = .ok (.iinc 1 1, 3) := by decide +kernel
theorem dX9_layHeights_157 : decode cX9_layHeights 157 = .ok (.goto (-155), 3) := by decide +kernel
theorem dX9_layHeights_160 : decode cX9_layHeights 160 = .ok (.return_, 1) := by decide +kernel
set_option maxRecDepth 20000 in
theorem ggX9_layHeights_X9_rise : GoodIn wsX9_layHeights wsX9_rise := goodIn_r _ [18, 1, 19, 20, 21, 22, 9, 23, 24, 25, 26, 27, 28, 29, 30, 31, 32, 33, 34, 35, 36, 37, 41, 42, 43, 44, 45, 46, 47, 48, 49, 50, 51, 52, 53, 54, 55, 56, 57, 58, 59, 60, 61, 62, 63, 64, 65] (by decide +kernel) (by decide +kernel)
set_option maxRecDepth 20000 in
theorem gX9_layHeights_X9_rise : GoodIn wsX9_layHeights (wsV RX9 132 RX9 yX9_rise wsX9_rise) := goodIn_app (goodIn_of _ (by decide +kernel)) ggX9_layHeights_X9_rise
set_option maxRecDepth 20000 in
theorem ggX9_layHeights_X9_agrees : GoodIn wsX9_layHeights wsX9_agrees := goodIn_r _ [14, 1, 3, 6, 7, 8, 9, 10, 15, 16, 17, 18, 19, 20, 21, 22, 23, 24, 25, 26, 27, 28, 29, 30, 31, 32, 33, 34, 35, 36, 37, 38, 39, 40, 41, 42, 43, 44, 45, 46, 47, 48, 49, 50, 51, 52, 53, 54, 55, 56, 57, 58, 59, 60, 61, 62, 63, 64, 65] (by decide +kernel) (by decide +kernel)
set_option maxRecDepth 20000 in
theorem gX9_layHeights_X9_agrees : GoodIn wsX9_layHeights (wsV RX9 135 RX9 yX9_agrees wsX9_agrees) := goodIn_app (goodIn_of _ (by decide +kernel)) ggX9_layHeights_X9_agrees
set_option maxRecDepth 20000 in
theorem ggX9_layHeights_X9_isKnown : GoodIn wsX9_layHeights wsX9_isKnown := goodIn_r _ [10, 1, 41, 42, 43, 44, 45, 46, 47, 48, 49, 50, 51, 52, 53, 54, 55, 56, 57, 58, 59, 60, 61, 62, 63, 64, 65] (by decide +kernel) (by decide +kernel)
set_option maxRecDepth 20000 in
theorem gX9_layHeights_X9_isKnown : GoodIn wsX9_layHeights (wsV RX9 129 RX9 yX9_isKnown wsX9_isKnown) := goodIn_app (goodIn_of _ (by decide +kernel)) ggX9_layHeights_X9_isKnown
def D_X9_layHeights : Md := (yX9_layHeights, cX9_layHeights, 5, none, wsX9_layHeights, RX9, { frames := 5, cells := 0, slots := 0, locals := 114 })
theorem nm_X9_layHeights : nmD D_X9_layHeights 0 := ⟨rfl, by decide +kernel, by decide +kernel, by decide +kernel⟩
theorem hi_X9_layHeights_X9 : ∀ w ∈ u_ws RX9 TX9 25, w ∈ wsX9_layHeights := by decide +kernel
theorem hl_X9_layHeights_7 : Cond.fieldLink RX9 7 "LevelLoopsModel" "s" "[I" ∈ wsX9_layHeights := by decide +kernel
theorem hl_X9_layHeights_22 : Cond.fieldLink RX9 22 "LevelLoopsModel" "net" "[I" ∈ wsX9_layHeights := by decide +kernel
theorem hl_X9_layHeights_59 : Cond.fieldLink RX9 59 "LevelLoopsModel" "base" "[I" ∈ wsX9_layHeights := by decide +kernel
theorem hl_X9_layHeights_62 : Cond.fieldLink RX9 62 "LevelLoopsModel" "height" "[I" ∈ wsX9_layHeights := by decide +kernel
def wp_X9_layHeights_J153 (x1 : Int32) (s0 : Int32) (s1 : Int32) (w : Wd) (Q : Wd → Prop) (K2 : Int32 → Wd → Prop) : Prop :=
  vp_in s1 10 ∧ (∀ w153 : Wd, w153 = (sI w 0 50 s1.toNatClampNeg s0) → K2 (x1 + 1) w153)
def wp_X9_layHeights_J88 (x1 : Int32) (x2 : Int32) (x3 : Int32) (x4 : Int32) (s0 : Int32) (s1 : Int32) (w : Wd) (Q : Wd → Prop) (K2 : Int32 → Wd → Prop) (K23 : Int32 → Int32 → Wd → Prop) : Prop :=
  vp_in s1 10 ∧ (∀ w88 : Wd, w88 = (sI w 0 49 s1.toNatClampNeg s0) → ((x4 ≤ x2 → K23 x2 (x3 + 1) w88) ∧ (¬ x4 ≤ x2 → K23 x4 (x3 + 1) w88)))
def wp_X9_layHeights_J65 (x1 : Int32) (x2 : Int32) (x3 : Int32) (s0 : Int32) (w : Wd) (Q : Wd → Prop) (K2 : Int32 → Wd → Prop) (K23 : Int32 → Int32 → Wd → Prop) : Prop :=
  ((s0 ≤ x2 → vp_in x1 10 ∧ wp_X9_layHeights_J88 x1 x2 x3 s0 (wi w 0 49 x1.toNatClampNeg) x1 w Q K2 K23) ∧ (¬ s0 ≤ x2 → wp_X9_layHeights_J88 x1 x2 x3 s0 x3 x1 w Q K2 K23))
def wp_X9_layHeights_J64 (x1 : Int32) (x2 : Int32) (x3 : Int32) (w : Wd) (Q : Wd → Prop) (K2 : Int32 → Wd → Prop) (K23 : Int32 → Int32 → Wd → Prop) : Prop :=
  wp_X9_layHeights_J65 x1 x2 x3 (-1 : Int32) w Q K2 K23
def wp_X9_layHeights_B23 (x1 : Int32) (x2 : Int32) (x3 : Int32) (w : Wd) (Q : Wd → Prop) (K2 : Int32 → Wd → Prop) (K23 : Int32 → Int32 → Wd → Prop) : Prop :=
  (((wi w 0 33 0) ≤ x3 → vp_in x1 10 ∧ ((¬ (wi w 0 49 x1.toNatClampNeg) = (-1 : Int32) → vp_in x1 10 ∧ vp_in ((1 : Int32) + (wi w 0 49 x1.toNatClampNeg)) 95 ∧ vp_in x1 10 ∧ wp_X9_rise (wi w 0 49 x1.toNatClampNeg) x1 w (fun r149 w149 => wp_X9_layHeights_J153 x1 ((wi w 0 33 ((1 : Int32) + (wi w 0 49 x1.toNatClampNeg)).toNatClampNeg) + r149) x1 w149 Q K2)) ∧ ((wi w 0 49 x1.toNatClampNeg) = (-1 : Int32) → wp_X9_layHeights_J153 x1 (-1000000 : Int32) x1 w Q K2))) ∧ (¬ (wi w 0 33 0) ≤ x3 → wp_X9_isKnown x3 w (fun r35 => ((r35 = 0 → wp_X9_layHeights_J64 x1 x2 x3 w Q K2 K23) ∧ (¬ r35 = 0 → vp_in x3 10 ∧ vp_in x1 10 ∧ ((¬ (wi w 0 37 x3.toNatClampNeg) = (wi w 0 37 x1.toNatClampNeg) → wp_X9_layHeights_J64 x1 x2 x3 w Q K2 K23) ∧ ((wi w 0 37 x3.toNatClampNeg) = (wi w 0 37 x1.toNatClampNeg) → wp_X9_agrees x3 w (fun r58 w58 => wp_X9_layHeights_J65 x1 x2 x3 r58 w58 Q K2 K23))))))))
def wp_X9_layHeights_L23 (x1 : Int32) (x2 : Int32) (x3 : Int32) (w : Wd) (Q : Wd → Prop) (K2 : Int32 → Wd → Prop) : Prop :=
  ∃ (I : Int32 → Int32 → Wd → Prop) (μ : Int32 → Int32 → Wd → Nat), I x2 x3 w ∧ ∀ (x2 : Int32) (x3 : Int32) (w : Wd), I x2 x3 w → wp_X9_layHeights_B23 x1 x2 x3 w Q K2 (fun x2' x3' w' => I x2' x3' w' ∧ μ x2' x3' w' < μ x2 x3 w)
def wp_X9_layHeights_B2 (x1 : Int32) (w : Wd) (Q : Wd → Prop) (K2 : Int32 → Wd → Prop) : Prop :=
  (((wi w 0 33 0) ≤ x1 → Q w) ∧ (¬ (wi w 0 33 0) ≤ x1 → vp_in x1 10 ∧ (∀ w18 : Wd, w18 = (sI w 0 49 x1.toNatClampNeg (-1 : Int32)) → wp_X9_layHeights_L23 x1 (-1 : Int32) (0 : Int32) w18 Q K2)))
def wp_X9_layHeights_L2 (x1 : Int32) (w : Wd) (Q : Wd → Prop) : Prop :=
  ∃ (I : Int32 → Wd → Prop) (μ : Int32 → Wd → Nat), I x1 w ∧ ∀ (x1 : Int32) (w : Wd), I x1 w → wp_X9_layHeights_B2 x1 w Q (fun x1' w' => I x1' w' ∧ μ x1' w' < μ x1 w)
def wp_X9_layHeights (w : Wd) (Q : Wd → Prop) : Prop :=
  wp_X9_layHeights_L2 (0 : Int32) w Q
theorem ok_X9_layHeights_J153 {G : Gt} {M : Mx} {Qf : State → Prop} {x1 : Int32} {s0 : Int32} {s1 : Int32} {w : Wd} {Q : Wd → Prop} {K2 : Int32 → Wd → Prop} (hC : cx G D_X9_layHeights M) (he : en G M (qv Q) Qf) (h : wp_X9_layHeights_J153 x1 s0 s1 w Q K2) (hK2 : ∀ (x1 : Int32) (w : Wd), K2 x1 w → jq G D_X9_layHeights M Qf 2 [(0, .ref (aD G 0 32)), (1, .int x1)] [] w) : jq G D_X9_layHeights M Qf 153 [(0, .ref (aD G 0 32)), (1, .int x1)] [.int s0, .int s1, .ref (aD G 0 50)] w := by
  unfold wp_X9_layHeights_J153 at h
  obtain ⟨b153, h⟩ := h
  refine jq_iast (n := 0) (o := 50) (j := s1.toNatClampNeg) dX9_layHeights_153 hC (cl_0 (by decide)) (fun _ => rfl) b153 rfl ?_
  refine jq_w (fun w153 e153 => ?_)
  have h := h w153 e153
  refine jq_iinc (k0 := 1) (v := (x1 + 1)) (L' := [(1, .int (x1 + 1)), (0, .ref (aD G 0 32))]) dX9_layHeights_154 hC rfl rfl (by decide) rfl ?_
  refine jq_goto (tgt := 2) dX9_layHeights_157 hC (by decide) ?_
  exact jq_less (L' := [(0, .ref (aD G 0 32)), (1, .int (x1 + 1))]) [1, 0] rfl (hK2 _ _ h)
theorem ok_X9_layHeights_J88 {G : Gt} {M : Mx} {Qf : State → Prop} {x1 : Int32} {x2 : Int32} {x3 : Int32} {x4 : Int32} {s0 : Int32} {s1 : Int32} {w : Wd} {Q : Wd → Prop} {K2 : Int32 → Wd → Prop} {K23 : Int32 → Int32 → Wd → Prop} (hC : cx G D_X9_layHeights M) (he : en G M (qv Q) Qf) (h : wp_X9_layHeights_J88 x1 x2 x3 x4 s0 s1 w Q K2 K23) (hK2 : ∀ (x1 : Int32) (w : Wd), K2 x1 w → jq G D_X9_layHeights M Qf 2 [(0, .ref (aD G 0 32)), (1, .int x1)] [] w) (hK23 : ∀ (x2 : Int32) (x3 : Int32) (w : Wd), K23 x2 x3 w → jq G D_X9_layHeights M Qf 23 [(0, .ref (aD G 0 32)), (1, .int x1), (2, .int x2), (3, .int x3)] [] w) : jq G D_X9_layHeights M Qf 88 [(0, .ref (aD G 0 32)), (1, .int x1), (2, .int x2), (3, .int x3), (4, .int x4)] [.int s0, .int s1, .ref (aD G 0 49)] w := by
  unfold wp_X9_layHeights_J88 at h
  obtain ⟨b88, h⟩ := h
  refine jq_iast (n := 0) (o := 49) (j := s1.toNatClampNeg) dX9_layHeights_88 hC (cl_0 (by decide)) (fun _ => rfl) b88 rfl ?_
  refine jq_w (fun w88 e88 => ?_)
  have h := h w88 e88
  refine jq_iload (k0 := 4) dX9_layHeights_89 hC rfl ?_
  refine jq_iload_n (k0 := 2) dX9_layHeights_91 hC rfl rfl ?_
  refine jq_icmp_le (tgt := 100) dX9_layHeights_92 hC (by decide) (fun c92 => ?_) (fun c92 => ?_)
  · have h := h.1 c92
    refine jq_iload_n (k0 := 2) dX9_layHeights_100 hC rfl rfl ?_
    refine jq_istore_n (L' := [(2, .int x2), (0, .ref (aD G 0 32)), (1, .int x1), (3, .int x3), (4, .int x4)]) dX9_layHeights_101 hC rfl (by decide) rfl ?_
    refine jq_iinc (k0 := 3) (v := (x3 + 1)) (L' := [(3, .int (x3 + 1)), (2, .int x2), (0, .ref (aD G 0 32)), (1, .int x1), (4, .int x4)]) dX9_layHeights_102 hC rfl rfl (by decide) rfl ?_
    refine jq_goto (tgt := 23) dX9_layHeights_105 hC (by decide) ?_
    exact jq_less (L' := [(0, .ref (aD G 0 32)), (1, .int x1), (2, .int x2), (3, .int (x3 + 1))]) [2, 3, 1, 0] rfl (hK23 _ _ _ h)
  · have h := h.2 c92
    refine jq_iload (k0 := 4) dX9_layHeights_95 hC rfl ?_
    refine jq_goto (tgt := 101) dX9_layHeights_97 hC (by decide) ?_
    refine jq_istore_n (L' := [(2, .int x4), (0, .ref (aD G 0 32)), (1, .int x1), (3, .int x3), (4, .int x4)]) dX9_layHeights_101 hC rfl (by decide) rfl ?_
    refine jq_iinc (k0 := 3) (v := (x3 + 1)) (L' := [(3, .int (x3 + 1)), (2, .int x4), (0, .ref (aD G 0 32)), (1, .int x1), (4, .int x4)]) dX9_layHeights_102 hC rfl rfl (by decide) rfl ?_
    refine jq_goto (tgt := 23) dX9_layHeights_105 hC (by decide) ?_
    exact jq_less (L' := [(0, .ref (aD G 0 32)), (1, .int x1), (2, .int x4), (3, .int (x3 + 1))]) [2, 3, 1, 0] rfl (hK23 _ _ _ h)
theorem ok_X9_layHeights_J65 {G : Gt} {M : Mx} {Qf : State → Prop} {x1 : Int32} {x2 : Int32} {x3 : Int32} {s0 : Int32} {w : Wd} {Q : Wd → Prop} {K2 : Int32 → Wd → Prop} {K23 : Int32 → Int32 → Wd → Prop} (hC : cx G D_X9_layHeights M) (he : en G M (qv Q) Qf) (h : wp_X9_layHeights_J65 x1 x2 x3 s0 w Q K2 K23) (hK2 : ∀ (x1 : Int32) (w : Wd), K2 x1 w → jq G D_X9_layHeights M Qf 2 [(0, .ref (aD G 0 32)), (1, .int x1)] [] w) (hK23 : ∀ (x2 : Int32) (x3 : Int32) (w : Wd), K23 x2 x3 w → jq G D_X9_layHeights M Qf 23 [(0, .ref (aD G 0 32)), (1, .int x1), (2, .int x2), (3, .int x3)] [] w) : jq G D_X9_layHeights M Qf 65 [(0, .ref (aD G 0 32)), (1, .int x1), (2, .int x2), (3, .int x3)] [.int s0] w := by
  unfold wp_X9_layHeights_J65 at h
  refine jq_istore (L' := [(4, .int s0), (0, .ref (aD G 0 32)), (1, .int x1), (2, .int x2), (3, .int x3)]) dX9_layHeights_65 hC (by decide) rfl ?_
  refine jq_aload_n (k0 := 1) dX9_layHeights_67 hC rfl rfl ?_
  refine jq_get (k0 := 20) (n := 0) (o := 32) dX9_layHeights_68 hC (cl_0 (by decide)) rfl rfl hi_X9_layHeights_X9 (by decide) hl_X9_layHeights_59 rfl rfl ?_
  refine jq_iload_n (k0 := 2) dX9_layHeights_71 hC rfl rfl ?_
  refine jq_iload (k0 := 0) dX9_layHeights_72 hC rfl ?_
  refine jq_iload_n (k0 := 3) dX9_layHeights_74 hC rfl rfl ?_
  refine jq_icmp_le (tgt := 82) dX9_layHeights_75 hC (by decide) (fun c75 => ?_) (fun c75 => ?_)
  · have h := h.1 c75
    refine jq_aload_n (k0 := 1) dX9_layHeights_82 hC rfl rfl ?_
    refine jq_get (k0 := 20) (n := 0) (o := 32) dX9_layHeights_83 hC (cl_0 (by decide)) rfl rfl hi_X9_layHeights_X9 (by decide) hl_X9_layHeights_59 rfl rfl ?_
    refine jq_iload_n (k0 := 2) dX9_layHeights_86 hC rfl rfl ?_
    obtain ⟨b87, h⟩ := h
    refine jq_iald (n := 0) (o := 49) (j := x1.toNatClampNeg) dX9_layHeights_87 hC (cl_0 (by decide)) rfl b87 rfl ?_
    refine jq_less (L' := [(0, .ref (aD G 0 32)), (1, .int x1), (2, .int x2), (3, .int x3), (4, .int s0)]) [1, 2, 3, 4, 0] rfl ?_
    exact ok_X9_layHeights_J88 hC he h hK2 hK23
  · have h := h.2 c75
    refine jq_iload_n (k0 := 4) dX9_layHeights_78 hC rfl rfl ?_
    refine jq_goto (tgt := 88) dX9_layHeights_79 hC (by decide) ?_
    refine jq_less (L' := [(0, .ref (aD G 0 32)), (1, .int x1), (2, .int x2), (3, .int x3), (4, .int s0)]) [1, 2, 3, 4, 0] rfl ?_
    exact ok_X9_layHeights_J88 hC he h hK2 hK23
theorem ok_X9_layHeights_J64 {G : Gt} {M : Mx} {Qf : State → Prop} {x1 : Int32} {x2 : Int32} {x3 : Int32} {w : Wd} {Q : Wd → Prop} {K2 : Int32 → Wd → Prop} {K23 : Int32 → Int32 → Wd → Prop} (hC : cx G D_X9_layHeights M) (he : en G M (qv Q) Qf) (h : wp_X9_layHeights_J64 x1 x2 x3 w Q K2 K23) (hK2 : ∀ (x1 : Int32) (w : Wd), K2 x1 w → jq G D_X9_layHeights M Qf 2 [(0, .ref (aD G 0 32)), (1, .int x1)] [] w) (hK23 : ∀ (x2 : Int32) (x3 : Int32) (w : Wd), K23 x2 x3 w → jq G D_X9_layHeights M Qf 23 [(0, .ref (aD G 0 32)), (1, .int x1), (2, .int x2), (3, .int x3)] [] w) : jq G D_X9_layHeights M Qf 64 [(0, .ref (aD G 0 32)), (1, .int x1), (2, .int x2), (3, .int x3)] [] w := by
  unfold wp_X9_layHeights_J64 at h
  refine jq_iconst (v := (-1 : Int32)) dX9_layHeights_64 hC (by decide) ?_
  refine jq_less (L' := [(0, .ref (aD G 0 32)), (1, .int x1), (2, .int x2), (3, .int x3)]) [0, 1, 2, 3] rfl ?_
  exact ok_X9_layHeights_J65 hC he h hK2 hK23
theorem ok_X9_layHeights_B23 {G : Gt} {M : Mx} {Qf : State → Prop} {x1 : Int32} {x2 : Int32} {x3 : Int32} {w : Wd} {Q : Wd → Prop} {K2 : Int32 → Wd → Prop} {K23 : Int32 → Int32 → Wd → Prop} (hC : cx G D_X9_layHeights M) (he : en G M (qv Q) Qf) (h : wp_X9_layHeights_B23 x1 x2 x3 w Q K2 K23) (hK2 : ∀ (x1 : Int32) (w : Wd), K2 x1 w → jq G D_X9_layHeights M Qf 2 [(0, .ref (aD G 0 32)), (1, .int x1)] [] w) (hK23 : ∀ (x2 : Int32) (x3 : Int32) (w : Wd), K23 x2 x3 w → jq G D_X9_layHeights M Qf 23 [(0, .ref (aD G 0 32)), (1, .int x1), (2, .int x2), (3, .int x3)] [] w) : jq G D_X9_layHeights M Qf 23 [(0, .ref (aD G 0 32)), (1, .int x1), (2, .int x2), (3, .int x3)] [] w := by
  unfold wp_X9_layHeights_B23 at h
  refine jq_iload_n (k0 := 3) dX9_layHeights_23 hC rfl rfl ?_
  refine jq_aload_n (k0 := 0) dX9_layHeights_24 hC rfl rfl ?_
  refine jq_get (k0 := 1) (n := 0) (o := 32) dX9_layHeights_25 hC (cl_0 (by decide)) rfl rfl hi_X9_layHeights_X9 (by decide) hl_X9_layHeights_7 rfl rfl ?_
  refine jq_iconst (v := (0 : Int32)) dX9_layHeights_28 hC (by decide) ?_
  refine jq_iald (n := 0) (o := 33) (j := 0) dX9_layHeights_29 hC (cl_0 (by decide)) rfl (vin (by decide)) (by decide) ?_
  refine jq_icmp_ge (tgt := 108) dX9_layHeights_30 hC (by decide) (fun c30 => ?_) (fun c30 => ?_)
  · have h := h.1 c30
    refine jq_aload_n (k0 := 0) dX9_layHeights_108 hC rfl rfl ?_
    refine jq_get (k0 := 21) (n := 0) (o := 32) dX9_layHeights_109 hC (cl_0 (by decide)) rfl rfl hi_X9_layHeights_X9 (by decide) hl_X9_layHeights_62 rfl rfl ?_
    refine jq_iload_n (k0 := 1) dX9_layHeights_112 hC rfl rfl ?_
    refine jq_aload_n (k0 := 0) dX9_layHeights_113 hC rfl rfl ?_
    refine jq_get (k0 := 20) (n := 0) (o := 32) dX9_layHeights_114 hC (cl_0 (by decide)) rfl rfl hi_X9_layHeights_X9 (by decide) hl_X9_layHeights_59 rfl rfl ?_
    refine jq_iload_n (k0 := 1) dX9_layHeights_117 hC rfl rfl ?_
    obtain ⟨b118, h⟩ := h
    refine jq_iald (n := 0) (o := 49) (j := x1.toNatClampNeg) dX9_layHeights_118 hC (cl_0 (by decide)) rfl b118 rfl ?_
    refine jq_iconst (v := (-1 : Int32)) dX9_layHeights_119 hC (by decide) ?_
    refine jq_icmp_ne (tgt := 128) dX9_layHeights_120 hC (by decide) (fun c120 => ?_) (fun c120 => ?_)
    · have h := h.1 c120
      refine jq_aload_n (k0 := 0) dX9_layHeights_128 hC rfl rfl ?_
      refine jq_get (k0 := 1) (n := 0) (o := 32) dX9_layHeights_129 hC (cl_0 (by decide)) rfl rfl hi_X9_layHeights_X9 (by decide) hl_X9_layHeights_7 rfl rfl ?_
      refine jq_iconst (v := (1 : Int32)) dX9_layHeights_132 hC (by decide) ?_
      refine jq_aload_n (k0 := 0) dX9_layHeights_133 hC rfl rfl ?_
      refine jq_get (k0 := 20) (n := 0) (o := 32) dX9_layHeights_134 hC (cl_0 (by decide)) rfl rfl hi_X9_layHeights_X9 (by decide) hl_X9_layHeights_59 rfl rfl ?_
      refine jq_iload_n (k0 := 1) dX9_layHeights_137 hC rfl rfl ?_
      obtain ⟨b138, h⟩ := h
      refine jq_iald (n := 0) (o := 49) (j := x1.toNatClampNeg) dX9_layHeights_138 hC (cl_0 (by decide)) rfl b138 rfl ?_
      refine jq_iadd dX9_layHeights_139 hC ?_
      obtain ⟨b140, h⟩ := h
      refine jq_iald (n := 0) (o := 33) (j := ((1 : Int32) + (wi w 0 49 x1.toNatClampNeg)).toNatClampNeg) dX9_layHeights_140 hC (cl_0 (by decide)) rfl b140 rfl ?_
      refine jq_aload_n (k0 := 0) dX9_layHeights_141 hC rfl rfl ?_
      refine jq_aload_n (k0 := 0) dX9_layHeights_142 hC rfl rfl ?_
      refine jq_get (k0 := 20) (n := 0) (o := 32) dX9_layHeights_143 hC (cl_0 (by decide)) rfl rfl hi_X9_layHeights_X9 (by decide) hl_X9_layHeights_59 rfl rfl ?_
      refine jq_iload_n (k0 := 1) dX9_layHeights_146 hC rfl rfl ?_
      obtain ⟨b147, h⟩ := h
      refine jq_iald (n := 0) (o := 49) (j := x1.toNatClampNeg) dX9_layHeights_147 hC (cl_0 (by decide)) rfl b147 rfl ?_
      refine jq_iload_n (k0 := 1) dX9_layHeights_148 hC rfl rfl ?_
      refine jq_callV (As := [.int (wi w 0 49 x1.toNatClampNeg), .int x1]) (rest := [.int (wi w 0 33 ((1 : Int32) + (wi w 0 49 x1.toNatClampNeg)).toNatClampNeg), .int x1, .ref (aD G 0 50)]) (n := 0) (o := 32) (D' := D_X9_rise) dX9_layHeights_149 hC (cl_0 (by decide)) rfl rfl rfl (mt_X9_rise h) gX9_layHeights_X9_rise rfl ⟨rfl, rfl, Nat.le_of_ble_eq_true rfl, Nat.le_of_ble_eq_true rfl⟩ nm_X9_rise rfl (Nat.le_of_ble_eq_true rfl) (kI fun r149 w149 h => ?_)
      refine jq_iadd dX9_layHeights_152 hC ?_
      refine jq_less (L' := [(0, .ref (aD G 0 32)), (1, .int x1)]) [0, 1] rfl ?_
      exact ok_X9_layHeights_J153 hC he h hK2
    · have h := h.2 c120
      refine jq_ldc (v := (-1000000 : Int32)) dX9_layHeights_123 hC (by decide +kernel) ?_
      refine jq_goto (tgt := 153) dX9_layHeights_125 hC (by decide) ?_
      refine jq_less (L' := [(0, .ref (aD G 0 32)), (1, .int x1)]) [0, 1] rfl ?_
      exact ok_X9_layHeights_J153 hC he h hK2
  · have h := h.2 c30
    refine jq_aload_n (k0 := 0) dX9_layHeights_33 hC rfl rfl ?_
    refine jq_iload_n (k0 := 3) dX9_layHeights_34 hC rfl rfl ?_
    refine jq_callV (As := [.int x3]) (rest := []) (n := 0) (o := 32) (D' := D_X9_isKnown) dX9_layHeights_35 hC (cl_0 (by decide)) rfl rfl rfl (mt_X9_isKnown h) gX9_layHeights_X9_isKnown rfl ⟨rfl, rfl, Nat.le_of_ble_eq_true rfl, Nat.le_of_ble_eq_true rfl⟩ nm_X9_isKnown rfl (Nat.le_of_ble_eq_true rfl) (kIp fun r35 h => ?_)
    refine jq_if_eq (tgt := 64) dX9_layHeights_38 hC (by decide) (fun c38 => ?_) (fun c38 => ?_)
    · have h := h.1 c38
      refine jq_less (L' := [(0, .ref (aD G 0 32)), (1, .int x1), (2, .int x2), (3, .int x3)]) [0, 1, 2, 3] rfl ?_
      exact ok_X9_layHeights_J64 hC he h hK2 hK23
    · have h := h.2 c38
      refine jq_aload_n (k0 := 0) dX9_layHeights_41 hC rfl rfl ?_
      refine jq_get (k0 := 7) (n := 0) (o := 32) dX9_layHeights_42 hC (cl_0 (by decide)) rfl rfl hi_X9_layHeights_X9 (by decide) hl_X9_layHeights_22 rfl rfl ?_
      refine jq_iload_n (k0 := 3) dX9_layHeights_45 hC rfl rfl ?_
      obtain ⟨b46, h⟩ := h
      refine jq_iald (n := 0) (o := 37) (j := x3.toNatClampNeg) dX9_layHeights_46 hC (cl_0 (by decide)) rfl b46 rfl ?_
      refine jq_aload_n (k0 := 0) dX9_layHeights_47 hC rfl rfl ?_
      refine jq_get (k0 := 7) (n := 0) (o := 32) dX9_layHeights_48 hC (cl_0 (by decide)) rfl rfl hi_X9_layHeights_X9 (by decide) hl_X9_layHeights_22 rfl rfl ?_
      refine jq_iload_n (k0 := 1) dX9_layHeights_51 hC rfl rfl ?_
      obtain ⟨b52, h⟩ := h
      refine jq_iald (n := 0) (o := 37) (j := x1.toNatClampNeg) dX9_layHeights_52 hC (cl_0 (by decide)) rfl b52 rfl ?_
      refine jq_icmp_ne (tgt := 64) dX9_layHeights_53 hC (by decide) (fun c53 => ?_) (fun c53 => ?_)
      · have h := h.1 c53
        refine jq_less (L' := [(0, .ref (aD G 0 32)), (1, .int x1), (2, .int x2), (3, .int x3)]) [0, 1, 2, 3] rfl ?_
        exact ok_X9_layHeights_J64 hC he h hK2 hK23
      · have h := h.2 c53
        refine jq_aload_n (k0 := 0) dX9_layHeights_56 hC rfl rfl ?_
        refine jq_iload_n (k0 := 3) dX9_layHeights_57 hC rfl rfl ?_
        refine jq_callV (As := [.int x3]) (rest := []) (n := 0) (o := 32) (D' := D_X9_agrees) dX9_layHeights_58 hC (cl_0 (by decide)) rfl rfl rfl (mt_X9_agrees h) gX9_layHeights_X9_agrees rfl ⟨rfl, rfl, Nat.le_of_ble_eq_true rfl, Nat.le_of_ble_eq_true rfl⟩ nm_X9_agrees rfl (Nat.le_of_ble_eq_true rfl) (kI fun r58 w58 h => ?_)
        refine jq_goto (tgt := 65) dX9_layHeights_61 hC (by decide) ?_
        refine jq_less (L' := [(0, .ref (aD G 0 32)), (1, .int x1), (2, .int x2), (3, .int x3)]) [0, 1, 2, 3] rfl ?_
        exact ok_X9_layHeights_J65 hC he h hK2 hK23
theorem ok_X9_layHeights_L23 {G : Gt} {M : Mx} {Qf : State → Prop} {x1 : Int32} {x2 : Int32} {x3 : Int32} {w : Wd} {Q : Wd → Prop} {K2 : Int32 → Wd → Prop} (hC : cx G D_X9_layHeights M) (he : en G M (qv Q) Qf) (h : wp_X9_layHeights_L23 x1 x2 x3 w Q K2) (hK2 : ∀ (x1 : Int32) (w : Wd), K2 x1 w → jq G D_X9_layHeights M Qf 2 [(0, .ref (aD G 0 32)), (1, .int x1)] [] w) : jq G D_X9_layHeights M Qf 23 [(0, .ref (aD G 0 32)), (1, .int x1), (2, .int x2), (3, .int x3)] [] w := by
  unfold wp_X9_layHeights_L23 at h
  obtain ⟨I, μ, h0, hs⟩ := h
  exact lp_ind (σ := Int32 × Int32 × Wd) (P := fun s => jq G D_X9_layHeights M Qf 23 [(0, .ref (aD G 0 32)), (1, .int x1), (2, .int s.1), (3, .int s.2.1)] [] s.2.2) (fun s => I s.1 s.2.1 s.2.2) (fun s => μ s.1 s.2.1 s.2.2) (fun s h1 ih => ok_X9_layHeights_B23 hC he (hs s.1 s.2.1 s.2.2 h1) hK2 (fun x2' x3' w' h => ih (x2', x3', w') h.1 h.2)) (x2, x3, w) h0
theorem ok_X9_layHeights_B2 {G : Gt} {M : Mx} {Qf : State → Prop} {x1 : Int32} {w : Wd} {Q : Wd → Prop} {K2 : Int32 → Wd → Prop} (hC : cx G D_X9_layHeights M) (he : en G M (qv Q) Qf) (h : wp_X9_layHeights_B2 x1 w Q K2) (hK2 : ∀ (x1 : Int32) (w : Wd), K2 x1 w → jq G D_X9_layHeights M Qf 2 [(0, .ref (aD G 0 32)), (1, .int x1)] [] w) : jq G D_X9_layHeights M Qf 2 [(0, .ref (aD G 0 32)), (1, .int x1)] [] w := by
  unfold wp_X9_layHeights_B2 at h
  refine jq_iload_n (k0 := 1) dX9_layHeights_2 hC rfl rfl ?_
  refine jq_aload_n (k0 := 0) dX9_layHeights_3 hC rfl rfl ?_
  refine jq_get (k0 := 1) (n := 0) (o := 32) dX9_layHeights_4 hC (cl_0 (by decide)) rfl rfl hi_X9_layHeights_X9 (by decide) hl_X9_layHeights_7 rfl rfl ?_
  refine jq_iconst (v := (0 : Int32)) dX9_layHeights_7 hC (by decide) ?_
  refine jq_iald (n := 0) (o := 33) (j := 0) dX9_layHeights_8 hC (cl_0 (by decide)) rfl (vin (by decide)) (by decide) ?_
  refine jq_icmp_ge (tgt := 160) dX9_layHeights_9 hC (by decide) (fun c9 => ?_) (fun c9 => ?_)
  · have h := h.1 c9
    exact jq_vret dX9_layHeights_160 hC he rfl ⟨rfl, h⟩
  · have h := h.2 c9
    refine jq_aload_n (k0 := 0) dX9_layHeights_12 hC rfl rfl ?_
    refine jq_get (k0 := 20) (n := 0) (o := 32) dX9_layHeights_13 hC (cl_0 (by decide)) rfl rfl hi_X9_layHeights_X9 (by decide) hl_X9_layHeights_59 rfl rfl ?_
    refine jq_iload_n (k0 := 1) dX9_layHeights_16 hC rfl rfl ?_
    refine jq_iconst (v := (-1 : Int32)) dX9_layHeights_17 hC (by decide) ?_
    obtain ⟨b18, h⟩ := h
    refine jq_iast (n := 0) (o := 49) (j := x1.toNatClampNeg) dX9_layHeights_18 hC (cl_0 (by decide)) (fun _ => rfl) b18 rfl ?_
    refine jq_w (fun w18 e18 => ?_)
    have h := h w18 e18
    refine jq_iconst (v := (-1 : Int32)) dX9_layHeights_19 hC (by decide) ?_
    refine jq_istore_n (L' := [(2, .int (-1 : Int32)), (0, .ref (aD G 0 32)), (1, .int x1)]) dX9_layHeights_20 hC rfl (by decide) rfl ?_
    refine jq_iconst (v := (0 : Int32)) dX9_layHeights_21 hC (by decide) ?_
    refine jq_istore_n (L' := [(3, .int (0 : Int32)), (2, .int (-1 : Int32)), (0, .ref (aD G 0 32)), (1, .int x1)]) dX9_layHeights_22 hC rfl (by decide) rfl ?_
    refine jq_less (L' := [(0, .ref (aD G 0 32)), (1, .int x1), (2, .int (-1 : Int32)), (3, .int (0 : Int32))]) [2, 3, 1, 0] rfl ?_
    exact ok_X9_layHeights_L23 hC he h hK2
theorem ok_X9_layHeights_L2 {G : Gt} {M : Mx} {Qf : State → Prop} {x1 : Int32} {w : Wd} {Q : Wd → Prop} (hC : cx G D_X9_layHeights M) (he : en G M (qv Q) Qf) (h : wp_X9_layHeights_L2 x1 w Q) : jq G D_X9_layHeights M Qf 2 [(0, .ref (aD G 0 32)), (1, .int x1)] [] w := by
  unfold wp_X9_layHeights_L2 at h
  obtain ⟨I, μ, h0, hs⟩ := h
  exact lp_ind (σ := Int32 × Wd) (P := fun s => jq G D_X9_layHeights M Qf 2 [(0, .ref (aD G 0 32)), (1, .int s.1)] [] s.2) (fun s => I s.1 s.2) (fun s => μ s.1 s.2) (fun s h1 ih => ok_X9_layHeights_B2 hC he (hs s.1 s.2 h1) (fun x1' w' h => ih (x1', w') h.1 h.2)) (x1, w) h0
theorem ok_X9_layHeights {G : Gt} {M : Mx} {Qf : State → Prop} {w : Wd} {Q : Wd → Prop} (hC : cx G D_X9_layHeights M) (he : en G M (qv Q) Qf) (h : wp_X9_layHeights w Q) : jq G D_X9_layHeights M Qf 0 [(0, .ref (aD G 0 32))] [] w := by
  unfold wp_X9_layHeights at h
  refine jq_iconst (v := (0 : Int32)) dX9_layHeights_0 hC (by decide) ?_
  refine jq_istore_n (L' := [(1, .int (0 : Int32)), (0, .ref (aD G 0 32))]) dX9_layHeights_1 hC rfl (by decide) rfl ?_
  refine jq_less (L' := [(0, .ref (aD G 0 32)), (1, .int (0 : Int32))]) [1, 0] rfl ?_
  exact ok_X9_layHeights_L2 hC he h
theorem mt_X9_layHeights {G : Gt} {w : Wd} {Q : Wd → Prop} (h : wp_X9_layHeights w Q) : Mt G D_X9_layHeights [.ref (aD G 0 32)] w (qv Q) := Mt_of (by decide +kernel) rfl rfl (Nat.le_of_ble_eq_true rfl) (fun M Qf hC he => ok_X9_layHeights hC he h)
/-! X9.layOut()V -/
theorem dX9_layOut_0 : decode cX9_layOut 0 = .ok (.aload_n 0, 1) := by decide +kernel
theorem dX9_layOut_1 : decode cX9_layOut 1 = .ok (.invokevirtual 139, 3) := by decide +kernel
theorem dX9_layOut_4 : decode cX9_layOut 4 = .ok (.aload_n 0, 1) := by decide +kernel
theorem dX9_layOut_5 : decode cX9_layOut 5 = .ok (.invokevirtual 142, 3) := by decide +kernel
theorem dX9_layOut_8 : decode cX9_layOut 8 = .ok (.aload_n 0, 1) := by decide +kernel
theorem dX9_layOut_9 : decode cX9_layOut 9 = .ok (.invokevirtual 145, 3) := by decide +kernel
theorem dX9_layOut_12 : decode cX9_layOut 12 = .ok (.return_, 1) := by decide +kernel
set_option maxRecDepth 20000 in
theorem ggX9_layOut_X9_spreadAll : GoodIn wsX9_layOut wsX9_spreadAll := goodIn_r _ [49, 50, 51, 34, 6, 52, 53, 54, 55, 56, 4, 57, 58, 59, 60, 61, 36, 15, 16, 17, 62, 63, 64, 65, 66, 67, 68, 69, 70, 71, 72, 73, 74, 75, 76, 77, 78, 79, 80, 81, 82, 83, 84, 85, 86, 87, 88, 89, 90, 91, 92, 93, 94, 95, 96, 97, 98] (by decide +kernel) (by decide +kernel)
set_option maxRecDepth 20000 in
theorem gX9_layOut_X9_spreadAll : GoodIn wsX9_layOut (wsV RX9 145 RX9 yX9_spreadAll wsX9_spreadAll) := goodIn_app (goodIn_of _ (by decide +kernel)) ggX9_layOut_X9_spreadAll
set_option maxRecDepth 20000 in
theorem ggX9_layOut_X9_layLoops : GoodIn wsX9_layOut wsX9_layLoops := goodIn_r _ [33, 34, 6, 10, 35, 36, 37, 15, 16, 4, 17, 38, 39, 40, 41, 42, 43, 44, 45, 8, 9, 74, 75, 76, 77, 78, 79, 80, 81, 82, 83, 84, 85, 86, 87, 88, 89, 90, 91, 92, 93, 94, 95, 96, 97, 98] (by decide +kernel) (by decide +kernel)
set_option maxRecDepth 20000 in
theorem gX9_layOut_X9_layLoops : GoodIn wsX9_layOut (wsV RX9 142 RX9 yX9_layLoops wsX9_layLoops) := goodIn_app (goodIn_of _ (by decide +kernel)) ggX9_layOut_X9_layLoops
set_option maxRecDepth 20000 in
theorem ggX9_layOut_X9_layTree : GoodIn wsX9_layOut wsX9_layTree := goodIn_r _ [5, 6, 7, 8, 9, 10, 11, 12, 13, 4, 14, 15, 16, 17, 18, 19, 20, 21, 22, 23, 24, 25, 26, 27, 28, 29, 74, 75, 76, 77, 78, 79, 80, 81, 82, 83, 84, 85, 86, 87, 88, 89, 90, 91, 92, 93, 94, 95, 96, 97, 98] (by decide +kernel) (by decide +kernel)
set_option maxRecDepth 20000 in
theorem gX9_layOut_X9_layTree : GoodIn wsX9_layOut (wsV RX9 139 RX9 yX9_layTree wsX9_layTree) := goodIn_app (goodIn_of _ (by decide +kernel)) ggX9_layOut_X9_layTree
def D_X9_layOut : Md := (yX9_layOut, cX9_layOut, 1, none, wsX9_layOut, RX9, { frames := 4, cells := 0, slots := 0, locals := 93 })
theorem nm_X9_layOut : nmD D_X9_layOut 0 := ⟨rfl, by decide +kernel, by decide +kernel, by decide +kernel⟩
def wp_X9_layOut (w : Wd) (Q : Wd → Prop) : Prop :=
  wp_X9_layTree w (fun w1 => wp_X9_layLoops w1 (fun w5 => wp_X9_spreadAll w5 (fun w9 => Q w9)))
theorem ok_X9_layOut {G : Gt} {M : Mx} {Qf : State → Prop} {w : Wd} {Q : Wd → Prop} (hC : cx G D_X9_layOut M) (he : en G M (qv Q) Qf) (h : wp_X9_layOut w Q) : jq G D_X9_layOut M Qf 0 [(0, .ref (aD G 0 32))] [] w := by
  unfold wp_X9_layOut at h
  refine jq_aload_n (k0 := 0) dX9_layOut_0 hC rfl rfl ?_
  refine jq_callV (As := []) (rest := []) (n := 0) (o := 32) (D' := D_X9_layTree) dX9_layOut_1 hC (cl_0 (by decide)) rfl rfl rfl (mt_X9_layTree h) gX9_layOut_X9_layTree rfl ⟨rfl, rfl, Nat.le_of_ble_eq_true rfl, Nat.le_of_ble_eq_true rfl⟩ nm_X9_layTree rfl (Nat.le_of_ble_eq_true rfl) (kV fun w1 h => ?_)
  refine jq_aload_n (k0 := 0) dX9_layOut_4 hC rfl rfl ?_
  refine jq_callV (As := []) (rest := []) (n := 0) (o := 32) (D' := D_X9_layLoops) dX9_layOut_5 hC (cl_0 (by decide)) rfl rfl rfl (mt_X9_layLoops h) gX9_layOut_X9_layLoops rfl ⟨rfl, rfl, Nat.le_of_ble_eq_true rfl, Nat.le_of_ble_eq_true rfl⟩ nm_X9_layLoops rfl (Nat.le_of_ble_eq_true rfl) (kV fun w5 h => ?_)
  refine jq_aload_n (k0 := 0) dX9_layOut_8 hC rfl rfl ?_
  refine jq_callV (As := []) (rest := []) (n := 0) (o := 32) (D' := D_X9_spreadAll) dX9_layOut_9 hC (cl_0 (by decide)) rfl rfl rfl (mt_X9_spreadAll h) gX9_layOut_X9_spreadAll rfl ⟨rfl, rfl, Nat.le_of_ble_eq_true rfl, Nat.le_of_ble_eq_true rfl⟩ nm_X9_spreadAll rfl (Nat.le_of_ble_eq_true rfl) (kV fun w9 h => ?_)
  exact jq_vret dX9_layOut_12 hC he rfl ⟨rfl, h⟩
theorem mt_X9_layOut {G : Gt} {w : Wd} {Q : Wd → Prop} (h : wp_X9_layOut w Q) : Mt G D_X9_layOut [.ref (aD G 0 32)] w (qv Q) := Mt_of (by decide +kernel) rfl rfl (Nat.le_of_ble_eq_true rfl) (fun M Qf hC he => ok_X9_layOut hC he h)
/-! X9.layAll()V -/
theorem dX9_layAll_0 : decode cX9_layAll 0 = .ok (.aload_n 0, 1) := by decide +kernel
theorem dX9_layAll_1 : decode cX9_layAll 1 = .ok (.invokevirtual 148, 3) := by decide +kernel
theorem dX9_layAll_4 : decode cX9_layAll 4 = .ok (.aload_n 0, 1) := by decide +kernel
theorem dX9_layAll_5 : decode cX9_layAll 5 = .ok (.invokevirtual 151, 3) := by decide +kernel
theorem dX9_layAll_8 : decode cX9_layAll 8 = .ok (.return_, 1) := by decide +kernel
set_option maxRecDepth 20000 in
theorem ggX9_layAll_X9_layHeights : GoodIn wsX9_layAll wsX9_layHeights := goodIn_r _ [81, 10, 82, 11, 83, 84, 85, 86, 87, 4, 88, 89, 90, 91, 92, 93, 94, 95, 96, 39, 42, 43, 44, 45, 46, 47, 48, 49, 12, 13, 19, 20, 21, 97, 98, 99, 100, 54, 66, 67, 68, 101, 102, 103, 104, 105, 106, 107, 108, 109, 110, 111, 112, 113, 114, 115, 116, 117, 118, 119, 120, 121, 122, 123, 124, 125] (by decide +kernel) (by decide +kernel)
set_option maxRecDepth 20000 in
theorem gX9_layAll_X9_layHeights : GoodIn wsX9_layAll (wsV RX9 151 RX9 yX9_layHeights wsX9_layHeights) := goodIn_app (goodIn_of _ (by decide +kernel)) ggX9_layAll_X9_layHeights
set_option maxRecDepth 20000 in
theorem ggX9_layAll_X9_layOut : GoodIn wsX9_layAll wsX9_layOut := goodIn_r _ [5, 6, 7, 8, 4, 9, 10, 11, 12, 13, 14, 15, 16, 17, 18, 19, 20, 21, 22, 23, 24, 25, 26, 27, 28, 29, 30, 31, 32, 33, 34, 35, 36, 37, 38, 39, 40, 41, 42, 43, 44, 45, 46, 47, 48, 49, 50, 51, 52, 53, 54, 55, 56, 57, 58, 59, 60, 61, 62, 63, 64, 65, 66, 67, 68, 69, 70, 71, 72, 73, 74, 75, 76, 77, 101, 102, 103, 104, 105, 106, 107, 108, 109, 110, 111, 112, 113, 114, 115, 116, 117, 118, 119, 120, 121, 122, 123, 124, 125] (by decide +kernel) (by decide +kernel)
set_option maxRecDepth 20000 in
theorem gX9_layAll_X9_layOut : GoodIn wsX9_layAll (wsV RX9 148 RX9 yX9_layOut wsX9_layOut) := goodIn_app (goodIn_of _ (by decide +kernel)) ggX9_layAll_X9_layOut
def D_X9_layAll : Md := (yX9_layAll, cX9_layAll, 1, none, wsX9_layAll, RX9, { frames := 6, cells := 0, slots := 0, locals := 138 })
theorem nm_X9_layAll : nmD D_X9_layAll 0 := ⟨rfl, by decide +kernel, by decide +kernel, by decide +kernel⟩
def wp_X9_layAll (w : Wd) (Q : Wd → Prop) : Prop :=
  wp_X9_layOut w (fun w1 => wp_X9_layHeights w1 (fun w5 => Q w5))
theorem ok_X9_layAll {G : Gt} {M : Mx} {Qf : State → Prop} {w : Wd} {Q : Wd → Prop} (hC : cx G D_X9_layAll M) (he : en G M (qv Q) Qf) (h : wp_X9_layAll w Q) : jq G D_X9_layAll M Qf 0 [(0, .ref (aD G 0 32))] [] w := by
  unfold wp_X9_layAll at h
  refine jq_aload_n (k0 := 0) dX9_layAll_0 hC rfl rfl ?_
  refine jq_callV (As := []) (rest := []) (n := 0) (o := 32) (D' := D_X9_layOut) dX9_layAll_1 hC (cl_0 (by decide)) rfl rfl rfl (mt_X9_layOut h) gX9_layAll_X9_layOut rfl ⟨rfl, rfl, Nat.le_of_ble_eq_true rfl, Nat.le_of_ble_eq_true rfl⟩ nm_X9_layOut rfl (Nat.le_of_ble_eq_true rfl) (kV fun w1 h => ?_)
  refine jq_aload_n (k0 := 0) dX9_layAll_4 hC rfl rfl ?_
  refine jq_callV (As := []) (rest := []) (n := 0) (o := 32) (D' := D_X9_layHeights) dX9_layAll_5 hC (cl_0 (by decide)) rfl rfl rfl (mt_X9_layHeights h) gX9_layAll_X9_layHeights rfl ⟨rfl, rfl, Nat.le_of_ble_eq_true rfl, Nat.le_of_ble_eq_true rfl⟩ nm_X9_layHeights rfl (Nat.le_of_ble_eq_true rfl) (kV fun w5 h => ?_)
  exact jq_vret dX9_layAll_8 hC he rfl ⟨rfl, h⟩
theorem mt_X9_layAll {G : Gt} {w : Wd} {Q : Wd → Prop} (h : wp_X9_layAll w Q) : Mt G D_X9_layAll [.ref (aD G 0 32)] w (qv Q) := Mt_of (by decide +kernel) rfl rfl (Nat.le_of_ble_eq_true rfl) (fun M Qf hC he => ok_X9_layAll hC he h)
/-! X9.markFault(I)I -/
theorem dX9_markFault_0 : decode cX9_markFault 0 = .ok (.iload_n 1, 1) := by decide +kernel
theorem dX9_markFault_1 : decode cX9_markFault 1 = .ok (.iconst (-1), 1) := by decide +kernel
theorem dX9_markFault_2 : decode cX9_markFault 2 = .ok (.ldc 154, 2) := by decide +kernel
theorem dX9_markFault_4 : decode cX9_markFault 4 = .ok (.invokestatic 69, 3) := by decide +kernel
theorem dX9_markFault_7 : decode cX9_markFault 7 = .ok (.ifCond .ne 7, 3) := by decide +kernel
theorem dX9_markFault_10 : decode cX9_markFault 10 = .ok (.iconst 1, 1) := by decide +kernel
theorem dX9_markFault_11 : decode cX9_markFault 11 = .ok (.goto 19, 3) := by decide +kernel
theorem dX9_markFault_14 : decode cX9_markFault 14 = .ok (.aload_n 0, 1) := by decide +kernel
theorem dX9_markFault_15 : decode cX9_markFault 15 = .ok (.getfield 7, 3) := by decide +kernel
theorem dX9_markFault_18 : decode cX9_markFault 18 = .ok (.iconst 0, 1) := by decide +kernel
theorem dX9_markFault_19 : decode cX9_markFault 19 = .ok (.iaload, 1) := by decide +kernel
theorem dX9_markFault_20 : decode cX9_markFault 20 = .ok (.bipush 10, 2) := by decide +kernel
theorem dX9_markFault_22 : decode cX9_markFault 22 = .ok (.if_icmp .ne 7, 3) := by decide +kernel
theorem dX9_markFault_25 : decode cX9_markFault 25 = .ok (.iconst 2, 1) := by decide +kernel
theorem dX9_markFault_26 : decode cX9_markFault 26 = .ok (.goto 4, 3) := by decide +kernel
theorem dX9_markFault_29 : decode cX9_markFault 29 = .ok (.iconst 0, 1) := by decide +kernel
theorem dX9_markFault_30 : decode cX9_markFault 30 = .ok (.ireturn, 1) := by decide +kernel
set_option maxRecDepth 20000 in
theorem ggX9_markFault_X9_in : GoodIn wsX9_markFault wsX9_in := goodIn_r _ [6] (by decide +kernel) (by decide +kernel)
set_option maxRecDepth 20000 in
theorem gX9_markFault_X9_in : GoodIn wsX9_markFault (va_wsS RX9 69 yX9_in wsX9_in) := goodIn_app (goodIn_of _ (by decide +kernel)) ggX9_markFault_X9_in
def D_X9_markFault : Md := (yX9_markFault, cX9_markFault, 2, (some .int), wsX9_markFault, RX9, { frames := 1, cells := 0, slots := 0, locals := 22 })
theorem nm_X9_markFault : nmD D_X9_markFault 1 := ⟨rfl, by decide +kernel, by decide +kernel, by decide +kernel⟩
theorem hi_X9_markFault_X9 : ∀ w ∈ u_ws RX9 TX9 25, w ∈ wsX9_markFault := by decide +kernel
theorem hl_X9_markFault_7 : Cond.fieldLink RX9 7 "LevelLoopsModel" "s" "[I" ∈ wsX9_markFault := by decide +kernel
def wp_X9_markFault (x1 : Int32) (w : Wd) (Q : Int32 → Prop) : Prop :=
  wp_X9_in x1 (-1 : Int32) (99999 : Int32) (fun r4 => ((¬ r4 = 0 → ((¬ (wi w 0 33 0) = (10 : Int32) → Q (0 : Int32)) ∧ ((wi w 0 33 0) = (10 : Int32) → Q (2 : Int32)))) ∧ (r4 = 0 → Q (1 : Int32))))
theorem ok_X9_markFault {G : Gt} {M : Mx} {Qf : State → Prop} {x1 : Int32} {w : Wd} {Q : Int32 → Prop} (hC : cx G D_X9_markFault M) (he : en G M (qip w Q) Qf) (h : wp_X9_markFault x1 w Q) : jq G D_X9_markFault M Qf 0 [(0, .ref (aD G 0 32)), (1, .int x1)] [] w := by
  unfold wp_X9_markFault at h
  refine jq_iload_n (k0 := 1) dX9_markFault_0 hC rfl rfl ?_
  refine jq_iconst (v := (-1 : Int32)) dX9_markFault_1 hC (by decide) ?_
  refine jq_ldc (v := (99999 : Int32)) dX9_markFault_2 hC (by decide +kernel) ?_
  refine jq_callS (As := [.int x1, .int (-1 : Int32), .int (99999 : Int32)]) (rest := []) (D' := D_X9_in) dX9_markFault_4 hC (mt_X9_in h) gX9_markFault_X9_in rfl ⟨rfl, rfl, Nat.le_of_ble_eq_true rfl, Nat.le_of_ble_eq_true rfl⟩ nm_X9_in rfl (Nat.le_of_ble_eq_true rfl) (kIp fun r4 h => ?_)
  refine jq_if_ne (tgt := 14) dX9_markFault_7 hC (by decide) (fun c7 => ?_) (fun c7 => ?_)
  · have h := h.1 c7
    refine jq_aload_n (k0 := 0) dX9_markFault_14 hC rfl rfl ?_
    refine jq_get (k0 := 1) (n := 0) (o := 32) dX9_markFault_15 hC (cl_0 (by decide)) rfl rfl hi_X9_markFault_X9 (by decide) hl_X9_markFault_7 rfl rfl ?_
    refine jq_iconst (v := (0 : Int32)) dX9_markFault_18 hC (by decide) ?_
    refine jq_iald (n := 0) (o := 33) (j := 0) dX9_markFault_19 hC (cl_0 (by decide)) rfl (vin (by decide)) (by decide) ?_
    refine jq_bipush (v := (10 : Int32)) dX9_markFault_20 hC (by decide) ?_
    refine jq_icmp_ne (tgt := 29) dX9_markFault_22 hC (by decide) (fun c22 => ?_) (fun c22 => ?_)
    · have h := h.1 c22
      refine jq_iconst (v := (0 : Int32)) dX9_markFault_29 hC (by decide) ?_
      exact jq_iret dX9_markFault_30 hC he rfl ⟨_, rfl, rfl, h⟩
    · have h := h.2 c22
      refine jq_iconst (v := (2 : Int32)) dX9_markFault_25 hC (by decide) ?_
      refine jq_goto (tgt := 30) dX9_markFault_26 hC (by decide) ?_
      exact jq_iret dX9_markFault_30 hC he rfl ⟨_, rfl, rfl, h⟩
  · have h := h.2 c7
    refine jq_iconst (v := (1 : Int32)) dX9_markFault_10 hC (by decide) ?_
    refine jq_goto (tgt := 30) dX9_markFault_11 hC (by decide) ?_
    exact jq_iret dX9_markFault_30 hC he rfl ⟨_, rfl, rfl, h⟩
theorem mt_X9_markFault {G : Gt} {x1 : Int32} {w : Wd} {Q : Int32 → Prop} (h : wp_X9_markFault x1 w Q) : Mt G D_X9_markFault [.ref (aD G 0 32), .int x1] w (qip w Q) := Mt_of (by decide +kernel) rfl rfl (Nat.le_of_ble_eq_true rfl) (fun M Qf hC he => ok_X9_markFault hC he h)
/-! X9.marks(I)I -/
theorem dX9_marks_0 : decode cX9_marks 0 = .ok (.aload_n 0, 1) := by decide +kernel
theorem dX9_marks_1 : decode cX9_marks 1 = .ok (.getfield 7, 3) := by decide +kernel
theorem dX9_marks_4 : decode cX9_marks 4 = .ok (.iconst 1, 1) := by decide +kernel
theorem dX9_marks_5 : decode cX9_marks 5 = .ok (.aload_n 0, 1) := by decide +kernel
theorem dX9_marks_6 : decode cX9_marks 6 = .ok (.getfield 7, 3) := by decide +kernel
theorem dX9_marks_9 : decode cX9_marks 9 = .ok (.iconst 0, 1) := by decide +kernel
theorem dX9_marks_10 : decode cX9_marks 10 = .ok (.iaload, 1) := by decide +kernel
theorem dX9_marks_11 : decode cX9_marks 11 = .ok (.iadd, 1) := by decide +kernel
theorem dX9_marks_12 : decode cX9_marks 12 = .ok (.iload_n 1, 1) := by decide +kernel
theorem dX9_marks_13 : decode cX9_marks 13 = .ok (.iastore, 1) := by decide +kernel
theorem dX9_marks_14 : decode cX9_marks 14 = .ok (.aload_n 0, 1) := by decide +kernel
theorem dX9_marks_15 : decode cX9_marks 15 = .ok (.getfield 7, 3) := by decide +kernel
theorem dX9_marks_18 : decode cX9_marks 18 = .ok (.iconst 0, 1) := by decide +kernel
theorem dX9_marks_19 : decode cX9_marks 19 = .ok (.dup2, 1) := by decide +kernel
theorem dX9_marks_20 : decode cX9_marks 20 = .ok (.iaload, 1) := by decide +kernel
theorem dX9_marks_21 : decode cX9_marks 21 = .ok (.iconst 1, 1) := by decide +kernel
theorem dX9_marks_22 : decode cX9_marks 22 = .ok (.iadd, 1) := by decide +kernel
theorem dX9_marks_23 : decode cX9_marks 23 = .ok (.iastore, 1) := by decide +kernel
theorem dX9_marks_24 : decode cX9_marks 24 = .ok (.aload_n 0, 1) := by decide +kernel
theorem dX9_marks_25 : decode cX9_marks 25 = .ok (.getfield 7, 3) := by decide +kernel
theorem dX9_marks_28 : decode cX9_marks 28 = .ok (.iconst 0, 1) := by decide +kernel
theorem dX9_marks_29 : decode cX9_marks 29 = .ok (.iaload, 1) := by decide +kernel
theorem dX9_marks_30 : decode cX9_marks 30 = .ok (.iconst 1, 1) := by decide +kernel
theorem dX9_marks_31 : decode cX9_marks 31 = .ok (.isub, 1) := by decide +kernel
theorem dX9_marks_32 : decode cX9_marks 32 = .ok (.ireturn, 1) := by decide +kernel
def D_X9_marks : Md := (yX9_marks, cX9_marks, 2, (some .int), wsX9_marks, RX9, { frames := 0, cells := 0, slots := 0, locals := 0 })
theorem nm_X9_marks : nmD D_X9_marks 1 := ⟨rfl, by decide +kernel, by decide +kernel, by decide +kernel⟩
theorem hi_X9_marks_X9 : ∀ w ∈ u_ws RX9 TX9 25, w ∈ wsX9_marks := by decide +kernel
theorem hl_X9_marks_7 : Cond.fieldLink RX9 7 "LevelLoopsModel" "s" "[I" ∈ wsX9_marks := by decide +kernel
def wp_X9_marks (x1 : Int32) (w : Wd) (Q : Int32 → Wd → Prop) : Prop :=
  vp_in ((1 : Int32) + (wi w 0 33 0)) 95 ∧ (∀ w13 : Wd, w13 = (sI w 0 33 ((1 : Int32) + (wi w 0 33 0)).toNatClampNeg x1) → (∀ w23 : Wd, w23 = (sI w13 0 33 0 ((wi w13 0 33 0) + (1 : Int32))) → Q ((wi w23 0 33 0) - (1 : Int32)) w23))
theorem ok_X9_marks {G : Gt} {M : Mx} {Qf : State → Prop} {x1 : Int32} {w : Wd} {Q : Int32 → Wd → Prop} (hC : cx G D_X9_marks M) (he : en G M (qi Q) Qf) (h : wp_X9_marks x1 w Q) : jq G D_X9_marks M Qf 0 [(0, .ref (aD G 0 32)), (1, .int x1)] [] w := by
  unfold wp_X9_marks at h
  refine jq_aload_n (k0 := 0) dX9_marks_0 hC rfl rfl ?_
  refine jq_get (k0 := 1) (n := 0) (o := 32) dX9_marks_1 hC (cl_0 (by decide)) rfl rfl hi_X9_marks_X9 (by decide) hl_X9_marks_7 rfl rfl ?_
  refine jq_iconst (v := (1 : Int32)) dX9_marks_4 hC (by decide) ?_
  refine jq_aload_n (k0 := 0) dX9_marks_5 hC rfl rfl ?_
  refine jq_get (k0 := 1) (n := 0) (o := 32) dX9_marks_6 hC (cl_0 (by decide)) rfl rfl hi_X9_marks_X9 (by decide) hl_X9_marks_7 rfl rfl ?_
  refine jq_iconst (v := (0 : Int32)) dX9_marks_9 hC (by decide) ?_
  refine jq_iald (n := 0) (o := 33) (j := 0) dX9_marks_10 hC (cl_0 (by decide)) rfl (vin (by decide)) (by decide) ?_
  refine jq_iadd dX9_marks_11 hC ?_
  refine jq_iload_n (k0 := 1) dX9_marks_12 hC rfl rfl ?_
  obtain ⟨b13, h⟩ := h
  refine jq_iast (n := 0) (o := 33) (j := ((1 : Int32) + (wi w 0 33 0)).toNatClampNeg) dX9_marks_13 hC (cl_0 (by decide)) (fun _ => rfl) b13 rfl ?_
  refine jq_w (fun w13 e13 => ?_)
  have h := h w13 e13
  refine jq_aload_n (k0 := 0) dX9_marks_14 hC rfl rfl ?_
  refine jq_get (k0 := 1) (n := 0) (o := 32) dX9_marks_15 hC (cl_0 (by decide)) rfl rfl hi_X9_marks_X9 (by decide) hl_X9_marks_7 rfl rfl ?_
  refine jq_iconst (v := (0 : Int32)) dX9_marks_18 hC (by decide) ?_
  refine jq_dup2 dX9_marks_19 hC rfl rfl ?_
  refine jq_iald (n := 0) (o := 33) (j := 0) dX9_marks_20 hC (cl_0 (by decide)) rfl (vin (by decide)) (by decide) ?_
  refine jq_iconst (v := (1 : Int32)) dX9_marks_21 hC (by decide) ?_
  refine jq_iadd dX9_marks_22 hC ?_
  refine jq_iast (n := 0) (o := 33) (j := 0) dX9_marks_23 hC (cl_0 (by decide)) (fun _ => rfl) (vin (by decide)) (by decide) ?_
  refine jq_w (fun w23 e23 => ?_)
  have h := h w23 e23
  refine jq_aload_n (k0 := 0) dX9_marks_24 hC rfl rfl ?_
  refine jq_get (k0 := 1) (n := 0) (o := 32) dX9_marks_25 hC (cl_0 (by decide)) rfl rfl hi_X9_marks_X9 (by decide) hl_X9_marks_7 rfl rfl ?_
  refine jq_iconst (v := (0 : Int32)) dX9_marks_28 hC (by decide) ?_
  refine jq_iald (n := 0) (o := 33) (j := 0) dX9_marks_29 hC (cl_0 (by decide)) rfl (vin (by decide)) (by decide) ?_
  refine jq_iconst (v := (1 : Int32)) dX9_marks_30 hC (by decide) ?_
  refine jq_isub dX9_marks_31 hC ?_
  exact jq_iret dX9_marks_32 hC he rfl ⟨_, rfl, h⟩
theorem mt_X9_marks {G : Gt} {x1 : Int32} {w : Wd} {Q : Int32 → Wd → Prop} (h : wp_X9_marks x1 w Q) : Mt G D_X9_marks [.ref (aD G 0 32), .int x1] w (qi Q) := Mt_of (by decide +kernel) rfl rfl (Nat.le_of_ble_eq_true rfl) (fun M Qf hC he => ok_X9_marks hC he h)
/-! X9.addMark(I)I -/
theorem dX9_addMark_0 : decode cX9_addMark 0 = .ok (.aload_n 0, 1) := by decide +kernel
theorem dX9_addMark_1 : decode cX9_addMark 1 = .ok (.aload_n 0, 1) := by decide +kernel
theorem dX9_addMark_2 : decode cX9_addMark 2 = .ok (.iload_n 1, 1) := by decide +kernel
theorem dX9_addMark_3 : decode cX9_addMark 3 = .ok (.invokevirtual 155, 3) := by decide +kernel
theorem dX9_addMark_6 : decode cX9_addMark 6 = .ok (.invokevirtual 158, 3) := by decide +kernel
theorem dX9_addMark_9 : decode cX9_addMark 9 = .ok (.ifCond .ne 5, 3) := by decide +kernel
theorem dX9_addMark_12 : decode cX9_addMark 12 = .ok (.iconst 0, 1) := by decide +kernel
theorem dX9_addMark_13 : decode cX9_addMark 13 = .ok (.ireturn, 1) := by decide +kernel
theorem dX9_addMark_14 : decode cX9_addMark 14 = .ok (.aload_n 0, 1) := by decide +kernel
theorem dX9_addMark_15 : decode cX9_addMark 15 = .ok (.invokevirtual 161, 3) := by decide +kernel
theorem dX9_addMark_18 : decode cX9_addMark 18 = .ok (.aload_n 0, 1) := by decide +kernel
theorem dX9_addMark_19 : decode cX9_addMark 19 = .ok (.iload_n 1, 1) := by decide +kernel
theorem dX9_addMark_20 : decode cX9_addMark 20 = .ok (.invokevirtual 164, 3) := by decide +kernel
theorem dX9_addMark_23 : decode cX9_addMark 23 = .ok (.ireturn, 1) := by decide +kernel
set_option maxRecDepth 20000 in
theorem ggX9_addMark_X9_marks : GoodIn wsX9_addMark wsX9_marks := goodIn_r _ [25, 7, 26, 27, 28, 29, 30, 31, 32, 33, 34, 35, 36, 37, 38, 39, 40, 41, 42, 43, 44, 45, 46, 47, 48, 49, 50] (by decide +kernel) (by decide +kernel)
set_option maxRecDepth 20000 in
theorem gX9_addMark_X9_marks : GoodIn wsX9_addMark (wsV RX9 164 RX9 yX9_marks wsX9_marks) := goodIn_app (goodIn_of _ (by decide +kernel)) ggX9_addMark_X9_marks
set_option maxRecDepth 20000 in
theorem ggX9_addMark_X9_save : GoodIn wsX9_addMark wsX9_save := goodIn_r _ [19, 20, 21, 7, 26, 27, 28, 29, 30, 31, 32, 33, 34, 35, 36, 37, 38, 39, 40, 41, 42, 43, 44, 45, 46, 47, 48, 49, 50] (by decide +kernel) (by decide +kernel)
set_option maxRecDepth 20000 in
theorem gX9_addMark_X9_save : GoodIn wsX9_addMark (wsV RX9 161 RX9 yX9_save wsX9_save) := goodIn_app (goodIn_of _ (by decide +kernel)) ggX9_addMark_X9_save
set_option maxRecDepth 20000 in
theorem ggX9_addMark_X9_holds : GoodIn wsX9_addMark wsX9_holds := goodIn_r _ [14, 15, 26, 27, 28, 29, 30, 31, 32, 33, 34, 35, 36, 37, 38, 39, 40, 41, 42, 43, 44, 45, 46, 47, 48, 49, 50] (by decide +kernel) (by decide +kernel)
set_option maxRecDepth 20000 in
theorem gX9_addMark_X9_holds : GoodIn wsX9_addMark (wsV RX9 158 RX9 yX9_holds wsX9_holds) := goodIn_app (goodIn_of _ (by decide +kernel)) ggX9_addMark_X9_holds
set_option maxRecDepth 20000 in
theorem ggX9_addMark_X9_markFault : GoodIn wsX9_addMark wsX9_markFault := goodIn_r _ [5, 6, 7, 8, 9, 4, 10, 26, 27, 28, 29, 30, 31, 32, 33, 34, 35, 36, 37, 38, 39, 40, 41, 42, 43, 44, 45, 46, 47, 48, 49, 50] (by decide +kernel) (by decide +kernel)
set_option maxRecDepth 20000 in
theorem gX9_addMark_X9_markFault : GoodIn wsX9_addMark (wsV RX9 155 RX9 yX9_markFault wsX9_markFault) := goodIn_app (goodIn_of _ (by decide +kernel)) ggX9_addMark_X9_markFault
def D_X9_addMark : Md := (yX9_addMark, cX9_addMark, 2, (some .int), wsX9_addMark, RX9, { frames := 2, cells := 0, slots := 0, locals := 43 })
theorem nm_X9_addMark : nmD D_X9_addMark 1 := ⟨rfl, by decide +kernel, by decide +kernel, by decide +kernel⟩
def wp_X9_addMark (x1 : Int32) (w : Wd) (Q : Int32 → Wd → Prop) : Prop :=
  wp_X9_markFault x1 w (fun r3 => wp_X9_holds r3 w (fun r6 w6 => ((¬ r6 = 0 → wp_X9_save w6 (fun w15 => wp_X9_marks x1 w15 (fun r20 w20 => Q r20 w20))) ∧ (r6 = 0 → Q (0 : Int32) w6))))
theorem ok_X9_addMark {G : Gt} {M : Mx} {Qf : State → Prop} {x1 : Int32} {w : Wd} {Q : Int32 → Wd → Prop} (hC : cx G D_X9_addMark M) (he : en G M (qi Q) Qf) (h : wp_X9_addMark x1 w Q) : jq G D_X9_addMark M Qf 0 [(0, .ref (aD G 0 32)), (1, .int x1)] [] w := by
  unfold wp_X9_addMark at h
  refine jq_aload_n (k0 := 0) dX9_addMark_0 hC rfl rfl ?_
  refine jq_aload_n (k0 := 0) dX9_addMark_1 hC rfl rfl ?_
  refine jq_iload_n (k0 := 1) dX9_addMark_2 hC rfl rfl ?_
  refine jq_callV (As := [.int x1]) (rest := [.ref (aD G 0 32)]) (n := 0) (o := 32) (D' := D_X9_markFault) dX9_addMark_3 hC (cl_0 (by decide)) rfl rfl rfl (mt_X9_markFault h) gX9_addMark_X9_markFault rfl ⟨rfl, rfl, Nat.le_of_ble_eq_true rfl, Nat.le_of_ble_eq_true rfl⟩ nm_X9_markFault rfl (Nat.le_of_ble_eq_true rfl) (kIp fun r3 h => ?_)
  refine jq_callV (As := [.int r3]) (rest := []) (n := 0) (o := 32) (D' := D_X9_holds) dX9_addMark_6 hC (cl_0 (by decide)) rfl rfl rfl (mt_X9_holds h) gX9_addMark_X9_holds rfl ⟨rfl, rfl, Nat.le_of_ble_eq_true rfl, Nat.le_of_ble_eq_true rfl⟩ nm_X9_holds rfl (Nat.le_of_ble_eq_true rfl) (kI fun r6 w6 h => ?_)
  refine jq_if_ne (tgt := 14) dX9_addMark_9 hC (by decide) (fun c9 => ?_) (fun c9 => ?_)
  · have h := h.1 c9
    refine jq_aload_n (k0 := 0) dX9_addMark_14 hC rfl rfl ?_
    refine jq_callV (As := []) (rest := []) (n := 0) (o := 32) (D' := D_X9_save) dX9_addMark_15 hC (cl_0 (by decide)) rfl rfl rfl (mt_X9_save h) gX9_addMark_X9_save rfl ⟨rfl, rfl, Nat.le_of_ble_eq_true rfl, Nat.le_of_ble_eq_true rfl⟩ nm_X9_save rfl (Nat.le_of_ble_eq_true rfl) (kV fun w15 h => ?_)
    refine jq_aload_n (k0 := 0) dX9_addMark_18 hC rfl rfl ?_
    refine jq_iload_n (k0 := 1) dX9_addMark_19 hC rfl rfl ?_
    refine jq_callV (As := [.int x1]) (rest := []) (n := 0) (o := 32) (D' := D_X9_marks) dX9_addMark_20 hC (cl_0 (by decide)) rfl rfl rfl (mt_X9_marks h) gX9_addMark_X9_marks rfl ⟨rfl, rfl, Nat.le_of_ble_eq_true rfl, Nat.le_of_ble_eq_true rfl⟩ nm_X9_marks rfl (Nat.le_of_ble_eq_true rfl) (kI fun r20 w20 h => ?_)
    exact jq_iret dX9_addMark_23 hC he rfl ⟨_, rfl, h⟩
  · have h := h.2 c9
    refine jq_iconst (v := (0 : Int32)) dX9_addMark_12 hC (by decide) ?_
    exact jq_iret dX9_addMark_13 hC he rfl ⟨_, rfl, h⟩
theorem mt_X9_addMark {G : Gt} {x1 : Int32} {w : Wd} {Q : Int32 → Wd → Prop} (h : wp_X9_addMark x1 w Q) : Mt G D_X9_addMark [.ref (aD G 0 32), .int x1] w (qi Q) := Mt_of (by decide +kernel) rfl rfl (Nat.le_of_ble_eq_true rfl) (fun M Qf hC he => ok_X9_addMark hC he h)
/-! X9.know(II)I -/
theorem dX9_know_0 : decode cX9_know 0 = .ok (.aload_n 0, 1) := by decide +kernel
theorem dX9_know_1 : decode cX9_know 1 = .ok (.aload_n 0, 1) := by decide +kernel
theorem dX9_know_2 : decode cX9_know 2 = .ok (.iload_n 1, 1) := by decide +kernel
theorem dX9_know_3 : decode cX9_know 3 = .ok (.invokevirtual 167, 3) := by decide +kernel
theorem dX9_know_6 : decode cX9_know 6 = .ok (.ifCond .ne 7, 3) := by decide +kernel
theorem dX9_know_9 : decode cX9_know 9 = .ok (.iconst 1, 1) := by decide +kernel
theorem dX9_know_10 : decode cX9_know 10 = .ok (.goto 18, 3) := by decide +kernel
theorem dX9_know_13 : decode cX9_know 13 = .ok (.iload_n 2, 1) := by decide +kernel
theorem dX9_know_14 : decode cX9_know 14 = .ok (.iconst (-1), 1) := by decide +kernel
theorem dX9_know_15 : decode cX9_know 15 = .ok (.ldc 154, 2) := by decide +kernel
theorem dX9_know_17 : decode cX9_know 17 = .ok (.invokestatic 69, 3) := by decide +kernel
theorem dX9_know_20 : decode cX9_know 20 = .ok (.ifCond .ne 7, 3) := by decide +kernel
theorem dX9_know_23 : decode cX9_know 23 = .ok (.iconst 2, 1) := by decide +kernel
theorem dX9_know_24 : decode cX9_know 24 = .ok (.goto 4, 3) := by decide +kernel
theorem dX9_know_27 : decode cX9_know 27 = .ok (.iconst 0, 1) := by decide +kernel
theorem dX9_know_28 : decode cX9_know 28 = .ok (.invokevirtual 158, 3) := by decide +kernel
theorem dX9_know_31 : decode cX9_know 31 = .ok (.ifCond .ne 5, 3) := by decide +kernel
theorem dX9_know_34 : decode cX9_know 34 = .ok (.iconst 0, 1) := by decide +kernel
theorem dX9_know_35 : decode cX9_know 35 = .ok (.ireturn, 1) := by decide +kernel
theorem dX9_know_36 : decode cX9_know 36 = .ok (.aload_n 0, 1) := by decide +kernel
theorem dX9_know_37 : decode cX9_know 37 = .ok (.invokevirtual 161, 3) := by decide +kernel
theorem dX9_know_40 : decode cX9_know 40 = .ok (.aload_n 0, 1) := by decide +kernel
theorem dX9_know_41 : decode cX9_know 41 = .ok (.getfield 7, 3) := by decide +kernel
theorem dX9_know_44 : decode cX9_know 44 = .ok (.iconst 1, 1) := by decide +kernel
theorem dX9_know_45 : decode cX9_know 45 = .ok (.iload_n 1, 1) := by decide +kernel
theorem dX9_know_46 : decode cX9_know 46 = .ok (.iadd, 1) := by decide +kernel
theorem dX9_know_47 : decode cX9_know 47 = .ok (.iaload, 1) := by decide +kernel
theorem dX9_know_48 : decode cX9_know 48 = .ok (.istore_n 3, 1) := by decide +kernel
theorem dX9_know_49 : decode cX9_know 49 = .ok (.aload_n 0, 1) := by decide +kernel
theorem dX9_know_50 : decode cX9_know 50 = .ok (.getfield 7, 3) := by decide +kernel
theorem dX9_know_53 : decode cX9_know 53 = .ok (.iconst 1, 1) := by decide +kernel
theorem dX9_know_54 : decode cX9_know 54 = .ok (.iload_n 1, 1) := by decide +kernel
theorem dX9_know_55 : decode cX9_know 55 = .ok (.iadd, 1) := by decide +kernel
theorem dX9_know_56 : decode cX9_know 56 = .ok (.iload_n 2, 1) := by decide +kernel
theorem dX9_know_57 : decode cX9_know 57 = .ok (.iastore, 1) := by decide +kernel
theorem dX9_know_58 : decode cX9_know 58 = .ok (.iload_n 3, 1) := by decide +kernel
theorem dX9_know_59 : decode cX9_know 59 = .ok (.ireturn, 1) := by decide +kernel
set_option maxRecDepth 20000 in
theorem ggX9_know_X9_save : GoodIn wsX9_know wsX9_save := goodIn_r _ [19, 20, 21, 2, 22, 23, 24, 25, 26, 27, 28, 29, 30, 31, 32, 33, 34, 35, 36, 37, 38, 39, 40, 41, 42, 43, 44, 45, 46] (by decide +kernel) (by decide +kernel)
set_option maxRecDepth 20000 in
theorem gX9_know_X9_save : GoodIn wsX9_know (wsV RX9 161 RX9 yX9_save wsX9_save) := goodIn_app (goodIn_of _ (by decide +kernel)) ggX9_know_X9_save
set_option maxRecDepth 20000 in
theorem ggX9_know_X9_holds : GoodIn wsX9_know wsX9_holds := goodIn_r _ [14, 15, 22, 23, 24, 25, 26, 27, 28, 29, 30, 31, 32, 33, 34, 35, 36, 37, 38, 39, 40, 41, 42, 43, 44, 45, 46] (by decide +kernel) (by decide +kernel)
set_option maxRecDepth 20000 in
theorem gX9_know_X9_holds : GoodIn wsX9_know (wsV RX9 158 RX9 yX9_holds wsX9_holds) := goodIn_app (goodIn_of _ (by decide +kernel)) ggX9_know_X9_holds
set_option maxRecDepth 20000 in
theorem ggX9_know_X9_in : GoodIn wsX9_know wsX9_in := goodIn_r _ [10] (by decide +kernel) (by decide +kernel)
set_option maxRecDepth 20000 in
theorem gX9_know_X9_in : GoodIn wsX9_know (va_wsS RX9 69 yX9_in wsX9_in) := goodIn_app (goodIn_of _ (by decide +kernel)) ggX9_know_X9_in
set_option maxRecDepth 20000 in
theorem ggX9_know_X9_isMark : GoodIn wsX9_know wsX9_isMark := goodIn_r _ [7, 2, 8, 9, 6, 10, 22, 23, 24, 25, 26, 27, 28, 29, 30, 31, 32, 33, 34, 35, 36, 37, 38, 39, 40, 41, 42, 43, 44, 45, 46] (by decide +kernel) (by decide +kernel)
set_option maxRecDepth 20000 in
theorem gX9_know_X9_isMark : GoodIn wsX9_know (wsV RX9 167 RX9 yX9_isMark wsX9_isMark) := goodIn_app (goodIn_of _ (by decide +kernel)) ggX9_know_X9_isMark
def D_X9_know : Md := (yX9_know, cX9_know, 4, (some .int), wsX9_know, RX9, { frames := 2, cells := 0, slots := 0, locals := 43 })
theorem nm_X9_know : nmD D_X9_know 2 := ⟨rfl, by decide +kernel, by decide +kernel, by decide +kernel⟩
theorem hi_X9_know_X9 : ∀ w ∈ u_ws RX9 TX9 25, w ∈ wsX9_know := by decide +kernel
theorem hl_X9_know_7 : Cond.fieldLink RX9 7 "LevelLoopsModel" "s" "[I" ∈ wsX9_know := by decide +kernel
def wp_X9_know_J28 (x1 : Int32) (x2 : Int32) (s0 : Int32) (w : Wd) (Q : Int32 → Wd → Prop) : Prop :=
  wp_X9_holds s0 w (fun r28 w28 => ((¬ r28 = 0 → wp_X9_save w28 (fun w37 => vp_in ((1 : Int32) + x1) 95 ∧ vp_in ((1 : Int32) + x1) 95 ∧ (∀ w57 : Wd, w57 = (sI w37 0 33 ((1 : Int32) + x1).toNatClampNeg x2) → Q (wi w37 0 33 ((1 : Int32) + x1).toNatClampNeg) w57))) ∧ (r28 = 0 → Q (0 : Int32) w28)))
def wp_X9_know (x1 : Int32) (x2 : Int32) (w : Wd) (Q : Int32 → Wd → Prop) : Prop :=
  wp_X9_isMark x1 w (fun r3 => ((¬ r3 = 0 → wp_X9_in x2 (-1 : Int32) (99999 : Int32) (fun r17 => ((¬ r17 = 0 → wp_X9_know_J28 x1 x2 (0 : Int32) w Q) ∧ (r17 = 0 → wp_X9_know_J28 x1 x2 (2 : Int32) w Q)))) ∧ (r3 = 0 → wp_X9_know_J28 x1 x2 (1 : Int32) w Q)))
theorem ok_X9_know_J28 {G : Gt} {M : Mx} {Qf : State → Prop} {x1 : Int32} {x2 : Int32} {s0 : Int32} {w : Wd} {Q : Int32 → Wd → Prop} (hC : cx G D_X9_know M) (he : en G M (qi Q) Qf) (h : wp_X9_know_J28 x1 x2 s0 w Q) : jq G D_X9_know M Qf 28 [(0, .ref (aD G 0 32)), (1, .int x1), (2, .int x2)] [.int s0, .ref (aD G 0 32)] w := by
  unfold wp_X9_know_J28 at h
  refine jq_callV (As := [.int s0]) (rest := []) (n := 0) (o := 32) (D' := D_X9_holds) dX9_know_28 hC (cl_0 (by decide)) rfl rfl rfl (mt_X9_holds h) gX9_know_X9_holds rfl ⟨rfl, rfl, Nat.le_of_ble_eq_true rfl, Nat.le_of_ble_eq_true rfl⟩ nm_X9_holds rfl (Nat.le_of_ble_eq_true rfl) (kI fun r28 w28 h => ?_)
  refine jq_if_ne (tgt := 36) dX9_know_31 hC (by decide) (fun c31 => ?_) (fun c31 => ?_)
  · have h := h.1 c31
    refine jq_aload_n (k0 := 0) dX9_know_36 hC rfl rfl ?_
    refine jq_callV (As := []) (rest := []) (n := 0) (o := 32) (D' := D_X9_save) dX9_know_37 hC (cl_0 (by decide)) rfl rfl rfl (mt_X9_save h) gX9_know_X9_save rfl ⟨rfl, rfl, Nat.le_of_ble_eq_true rfl, Nat.le_of_ble_eq_true rfl⟩ nm_X9_save rfl (Nat.le_of_ble_eq_true rfl) (kV fun w37 h => ?_)
    refine jq_aload_n (k0 := 0) dX9_know_40 hC rfl rfl ?_
    refine jq_get (k0 := 1) (n := 0) (o := 32) dX9_know_41 hC (cl_0 (by decide)) rfl rfl hi_X9_know_X9 (by decide) hl_X9_know_7 rfl rfl ?_
    refine jq_iconst (v := (1 : Int32)) dX9_know_44 hC (by decide) ?_
    refine jq_iload_n (k0 := 1) dX9_know_45 hC rfl rfl ?_
    refine jq_iadd dX9_know_46 hC ?_
    obtain ⟨b47, h⟩ := h
    refine jq_iald (n := 0) (o := 33) (j := ((1 : Int32) + x1).toNatClampNeg) dX9_know_47 hC (cl_0 (by decide)) rfl b47 rfl ?_
    refine jq_istore_n (L' := [(3, .int (wi w37 0 33 ((1 : Int32) + x1).toNatClampNeg)), (0, .ref (aD G 0 32)), (1, .int x1), (2, .int x2)]) dX9_know_48 hC rfl (by decide) rfl ?_
    refine jq_aload_n (k0 := 1) dX9_know_49 hC rfl rfl ?_
    refine jq_get (k0 := 1) (n := 0) (o := 32) dX9_know_50 hC (cl_0 (by decide)) rfl rfl hi_X9_know_X9 (by decide) hl_X9_know_7 rfl rfl ?_
    refine jq_iconst (v := (1 : Int32)) dX9_know_53 hC (by decide) ?_
    refine jq_iload_n (k0 := 2) dX9_know_54 hC rfl rfl ?_
    refine jq_iadd dX9_know_55 hC ?_
    refine jq_iload_n (k0 := 3) dX9_know_56 hC rfl rfl ?_
    obtain ⟨b57, h⟩ := h
    refine jq_iast (n := 0) (o := 33) (j := ((1 : Int32) + x1).toNatClampNeg) dX9_know_57 hC (cl_0 (by decide)) (fun _ => rfl) b57 rfl ?_
    refine jq_w (fun w57 e57 => ?_)
    have h := h w57 e57
    refine jq_iload_n (k0 := 0) dX9_know_58 hC rfl rfl ?_
    exact jq_iret dX9_know_59 hC he rfl ⟨_, rfl, h⟩
  · have h := h.2 c31
    refine jq_iconst (v := (0 : Int32)) dX9_know_34 hC (by decide) ?_
    exact jq_iret dX9_know_35 hC he rfl ⟨_, rfl, h⟩
theorem ok_X9_know {G : Gt} {M : Mx} {Qf : State → Prop} {x1 : Int32} {x2 : Int32} {w : Wd} {Q : Int32 → Wd → Prop} (hC : cx G D_X9_know M) (he : en G M (qi Q) Qf) (h : wp_X9_know x1 x2 w Q) : jq G D_X9_know M Qf 0 [(0, .ref (aD G 0 32)), (1, .int x1), (2, .int x2)] [] w := by
  unfold wp_X9_know at h
  refine jq_aload_n (k0 := 0) dX9_know_0 hC rfl rfl ?_
  refine jq_aload_n (k0 := 0) dX9_know_1 hC rfl rfl ?_
  refine jq_iload_n (k0 := 1) dX9_know_2 hC rfl rfl ?_
  refine jq_callV (As := [.int x1]) (rest := [.ref (aD G 0 32)]) (n := 0) (o := 32) (D' := D_X9_isMark) dX9_know_3 hC (cl_0 (by decide)) rfl rfl rfl (mt_X9_isMark h) gX9_know_X9_isMark rfl ⟨rfl, rfl, Nat.le_of_ble_eq_true rfl, Nat.le_of_ble_eq_true rfl⟩ nm_X9_isMark rfl (Nat.le_of_ble_eq_true rfl) (kIp fun r3 h => ?_)
  refine jq_if_ne (tgt := 13) dX9_know_6 hC (by decide) (fun c6 => ?_) (fun c6 => ?_)
  · have h := h.1 c6
    refine jq_iload_n (k0 := 2) dX9_know_13 hC rfl rfl ?_
    refine jq_iconst (v := (-1 : Int32)) dX9_know_14 hC (by decide) ?_
    refine jq_ldc (v := (99999 : Int32)) dX9_know_15 hC (by decide +kernel) ?_
    refine jq_callS (As := [.int x2, .int (-1 : Int32), .int (99999 : Int32)]) (rest := [.ref (aD G 0 32)]) (D' := D_X9_in) dX9_know_17 hC (mt_X9_in h) gX9_know_X9_in rfl ⟨rfl, rfl, Nat.le_of_ble_eq_true rfl, Nat.le_of_ble_eq_true rfl⟩ nm_X9_in rfl (Nat.le_of_ble_eq_true rfl) (kIp fun r17 h => ?_)
    refine jq_if_ne (tgt := 27) dX9_know_20 hC (by decide) (fun c20 => ?_) (fun c20 => ?_)
    · have h := h.1 c20
      refine jq_iconst (v := (0 : Int32)) dX9_know_27 hC (by decide) ?_
      refine jq_less (L' := [(0, .ref (aD G 0 32)), (1, .int x1), (2, .int x2)]) [0, 1, 2] rfl ?_
      exact ok_X9_know_J28 hC he h
    · have h := h.2 c20
      refine jq_iconst (v := (2 : Int32)) dX9_know_23 hC (by decide) ?_
      refine jq_goto (tgt := 28) dX9_know_24 hC (by decide) ?_
      refine jq_less (L' := [(0, .ref (aD G 0 32)), (1, .int x1), (2, .int x2)]) [0, 1, 2] rfl ?_
      exact ok_X9_know_J28 hC he h
  · have h := h.2 c6
    refine jq_iconst (v := (1 : Int32)) dX9_know_9 hC (by decide) ?_
    refine jq_goto (tgt := 28) dX9_know_10 hC (by decide) ?_
    refine jq_less (L' := [(0, .ref (aD G 0 32)), (1, .int x1), (2, .int x2)]) [0, 1, 2] rfl ?_
    exact ok_X9_know_J28 hC he h
theorem mt_X9_know {G : Gt} {x1 : Int32} {x2 : Int32} {w : Wd} {Q : Int32 → Wd → Prop} (h : wp_X9_know x1 x2 w Q) : Mt G D_X9_know [.ref (aD G 0 32), .int x1, .int x2] w (qi Q) := Mt_of (by decide +kernel) rfl rfl (Nat.le_of_ble_eq_true rfl) (fun M Qf hC he => ok_X9_know hC he h)
/-! X9.accept(I)I -/
theorem dX9_accept_0 : decode cX9_accept 0 = .ok (.aload_n 0, 1) := by decide +kernel
theorem dX9_accept_1 : decode cX9_accept 1 = .ok (.invokevirtual 170, 3) := by decide +kernel
theorem dX9_accept_4 : decode cX9_accept 4 = .ok (.aload_n 0, 1) := by decide +kernel
theorem dX9_accept_5 : decode cX9_accept 5 = .ok (.aload_n 0, 1) := by decide +kernel
theorem dX9_accept_6 : decode cX9_accept 6 = .ok (.iload_n 1, 1) := by decide +kernel
theorem dX9_accept_7 : decode cX9_accept 7 = .ok (.invokevirtual 167, 3) := by decide +kernel
theorem dX9_accept_10 : decode cX9_accept 10 = .ok (.ifCond .ne 7, 3) := by decide +kernel
theorem dX9_accept_13 : decode cX9_accept 13 = .ok (.iconst 1, 1) := by decide +kernel
theorem dX9_accept_14 : decode cX9_accept 14 = .ok (.goto 23, 3) := by decide +kernel
theorem dX9_accept_17 : decode cX9_accept 17 = .ok (.aload_n 0, 1) := by decide +kernel
theorem dX9_accept_18 : decode cX9_accept 18 = .ok (.getfield 62, 3) := by decide +kernel
theorem dX9_accept_21 : decode cX9_accept 21 = .ok (.iload_n 1, 1) := by decide +kernel
theorem dX9_accept_22 : decode cX9_accept 22 = .ok (.iaload, 1) := by decide +kernel
theorem dX9_accept_23 : decode cX9_accept 23 = .ok (.iconst 0, 1) := by decide +kernel
theorem dX9_accept_24 : decode cX9_accept 24 = .ok (.ldc 154, 2) := by decide +kernel
theorem dX9_accept_26 : decode cX9_accept 26 = .ok (.invokestatic 69, 3) := by decide +kernel
theorem dX9_accept_29 : decode cX9_accept 29 = .ok (.ifCond .ne 7, 3) := by decide +kernel
theorem dX9_accept_32 : decode cX9_accept 32 = .ok (.iconst 2, 1) := by decide +kernel
theorem dX9_accept_33 : decode cX9_accept 33 = .ok (.goto 4, 3) := by decide +kernel
theorem dX9_accept_36 : decode cX9_accept 36 = .ok (.iconst 0, 1) := by decide +kernel
theorem dX9_accept_37 : decode cX9_accept 37 = .ok (.invokevirtual 158, 3) := by decide +kernel
theorem dX9_accept_40 : decode cX9_accept 40 = .ok (.ifCond .ne 5, 3) := by decide +kernel
theorem dX9_accept_43 : decode cX9_accept 43 = .ok (.iconst 0, 1) := by decide +kernel
theorem dX9_accept_44 : decode cX9_accept 44 = .ok (.ireturn, 1) := by decide +kernel
theorem dX9_accept_45 : decode cX9_accept 45 = .ok (.aload_n 0, 1) := by decide +kernel
theorem dX9_accept_46 : decode cX9_accept 46 = .ok (.invokevirtual 161, 3) := by decide +kernel
theorem dX9_accept_49 : decode cX9_accept 49 = .ok (.aload_n 0, 1) := by decide +kernel
theorem dX9_accept_50 : decode cX9_accept 50 = .ok (.getfield 7, 3) := by decide +kernel
theorem dX9_accept_53 : decode cX9_accept 53 = .ok (.iconst 1, 1) := by decide +kernel
theorem dX9_accept_54 : decode cX9_accept 54 = .ok (.iload_n 1, 1) := by decide +kernel
theorem dX9_accept_55 : decode cX9_accept 55 = .ok (.iadd, 1) := by decide +kernel
theorem dX9_accept_56 : decode cX9_accept 56 = .ok (.aload_n 0, 1) := by decide +kernel
theorem dX9_accept_57 : decode cX9_accept 57 = .ok (.getfield 62, 3) := by decide +kernel
theorem dX9_accept_60 : decode cX9_accept 60 = .ok (.iload_n 1, 1) := by decide +kernel
theorem dX9_accept_61 : decode cX9_accept 61 = .ok (.iaload, 1) := by decide +kernel
theorem dX9_accept_62 : decode cX9_accept 62 = .ok (.iastore, 1) := by decide +kernel
theorem dX9_accept_63 : decode cX9_accept 63 = .ok (.aload_n 0, 1) := by decide +kernel
theorem dX9_accept_64 : decode cX9_accept 64 = .ok (.getfield 62, 3) := by decide +kernel
theorem dX9_accept_67 : decode cX9_accept 67 = .ok (.iload_n 1, 1) := by decide +kernel
theorem dX9_accept_68 : decode cX9_accept 68 = .ok (.iaload, 1) := by decide +kernel
theorem dX9_accept_69 : decode cX9_accept 69 = .ok (.ireturn, 1) := by decide +kernel
set_option maxRecDepth 20000 in
theorem ggX9_accept_X9_save : GoodIn wsX9_accept wsX9_save := goodIn_r _ [121, 122, 123, 3, 124, 125, 126, 127, 128, 129, 130, 131, 132, 133, 134, 135, 136, 137, 138, 139, 140, 141, 142, 143, 144, 145, 146, 147, 148] (by decide +kernel) (by decide +kernel)
set_option maxRecDepth 20000 in
theorem gX9_accept_X9_save : GoodIn wsX9_accept (wsV RX9 161 RX9 yX9_save wsX9_save) := goodIn_app (goodIn_of _ (by decide +kernel)) ggX9_accept_X9_save
set_option maxRecDepth 20000 in
theorem ggX9_accept_X9_holds : GoodIn wsX9_accept wsX9_holds := goodIn_r _ [116, 117, 124, 125, 126, 127, 128, 129, 130, 131, 132, 133, 134, 135, 136, 137, 138, 139, 140, 141, 142, 143, 144, 145, 146, 147, 148] (by decide +kernel) (by decide +kernel)
set_option maxRecDepth 20000 in
theorem gX9_accept_X9_holds : GoodIn wsX9_accept (wsV RX9 158 RX9 yX9_holds wsX9_holds) := goodIn_app (goodIn_of _ (by decide +kernel)) ggX9_accept_X9_holds
set_option maxRecDepth 20000 in
theorem ggX9_accept_X9_in : GoodIn wsX9_accept wsX9_in := goodIn_r _ [112] (by decide +kernel) (by decide +kernel)
set_option maxRecDepth 20000 in
theorem gX9_accept_X9_in : GoodIn wsX9_accept (va_wsS RX9 69 yX9_in wsX9_in) := goodIn_app (goodIn_of _ (by decide +kernel)) ggX9_accept_X9_in
set_option maxRecDepth 20000 in
theorem ggX9_accept_X9_isMark : GoodIn wsX9_accept wsX9_isMark := goodIn_r _ [109, 3, 110, 111, 7, 112, 124, 125, 126, 127, 128, 129, 130, 131, 132, 133, 134, 135, 136, 137, 138, 139, 140, 141, 142, 143, 144, 145, 146, 147, 148] (by decide +kernel) (by decide +kernel)
set_option maxRecDepth 20000 in
theorem gX9_accept_X9_isMark : GoodIn wsX9_accept (wsV RX9 167 RX9 yX9_isMark wsX9_isMark) := goodIn_app (goodIn_of _ (by decide +kernel)) ggX9_accept_X9_isMark
set_option maxRecDepth 20000 in
theorem ggX9_accept_X9_layAll : GoodIn wsX9_accept wsX9_layAll := goodIn_r _ [8, 9, 10, 11, 7, 12, 13, 14, 15, 16, 3, 17, 18, 19, 20, 21, 22, 23, 24, 25, 26, 27, 28, 29, 30, 31, 32, 33, 34, 35, 36, 37, 38, 39, 40, 41, 42, 43, 44, 45, 46, 47, 48, 49, 50, 51, 52, 53, 54, 55, 56, 57, 58, 59, 60, 61, 62, 63, 64, 65, 66, 67, 68, 69, 70, 71, 72, 73, 74, 75, 76, 77, 78, 79, 80, 81, 82, 83, 84, 85, 86, 87, 88, 1, 89, 90, 91, 92, 93, 94, 95, 96, 97, 98, 99, 100, 101, 102, 103, 104, 105, 124, 125, 126, 127, 128, 129, 130, 131, 132, 133, 134, 135, 136, 137, 138, 139, 140, 141, 142, 143, 144, 145, 146, 147, 148] (by decide +kernel) (by decide +kernel)
set_option maxRecDepth 20000 in
theorem gX9_accept_X9_layAll : GoodIn wsX9_accept (wsV RX9 170 RX9 yX9_layAll wsX9_layAll) := goodIn_app (goodIn_of _ (by decide +kernel)) ggX9_accept_X9_layAll
def D_X9_accept : Md := (yX9_accept, cX9_accept, 2, (some .int), wsX9_accept, RX9, { frames := 7, cells := 0, slots := 0, locals := 158 })
theorem nm_X9_accept : nmD D_X9_accept 1 := ⟨rfl, by decide +kernel, by decide +kernel, by decide +kernel⟩
theorem hi_X9_accept_X9 : ∀ w ∈ u_ws RX9 TX9 25, w ∈ wsX9_accept := by decide +kernel
theorem hl_X9_accept_7 : Cond.fieldLink RX9 7 "LevelLoopsModel" "s" "[I" ∈ wsX9_accept := by decide +kernel
theorem hl_X9_accept_62 : Cond.fieldLink RX9 62 "LevelLoopsModel" "height" "[I" ∈ wsX9_accept := by decide +kernel
def wp_X9_accept_J37 (x1 : Int32) (s0 : Int32) (w : Wd) (Q : Int32 → Wd → Prop) : Prop :=
  wp_X9_holds s0 w (fun r37 w37 => ((¬ r37 = 0 → wp_X9_save w37 (fun w46 => vp_in x1 10 ∧ vp_in ((1 : Int32) + x1) 95 ∧ (∀ w62 : Wd, w62 = (sI w46 0 33 ((1 : Int32) + x1).toNatClampNeg (wi w46 0 50 x1.toNatClampNeg)) → vp_in x1 10 ∧ Q (wi w62 0 50 x1.toNatClampNeg) w62))) ∧ (r37 = 0 → Q (0 : Int32) w37)))
def wp_X9_accept (x1 : Int32) (w : Wd) (Q : Int32 → Wd → Prop) : Prop :=
  wp_X9_layAll w (fun w1 => wp_X9_isMark x1 w1 (fun r7 => ((¬ r7 = 0 → vp_in x1 10 ∧ wp_X9_in (wi w1 0 50 x1.toNatClampNeg) (0 : Int32) (99999 : Int32) (fun r26 => ((¬ r26 = 0 → wp_X9_accept_J37 x1 (0 : Int32) w1 Q) ∧ (r26 = 0 → wp_X9_accept_J37 x1 (2 : Int32) w1 Q)))) ∧ (r7 = 0 → wp_X9_accept_J37 x1 (1 : Int32) w1 Q))))
theorem ok_X9_accept_J37 {G : Gt} {M : Mx} {Qf : State → Prop} {x1 : Int32} {s0 : Int32} {w : Wd} {Q : Int32 → Wd → Prop} (hC : cx G D_X9_accept M) (he : en G M (qi Q) Qf) (h : wp_X9_accept_J37 x1 s0 w Q) : jq G D_X9_accept M Qf 37 [(0, .ref (aD G 0 32)), (1, .int x1)] [.int s0, .ref (aD G 0 32)] w := by
  unfold wp_X9_accept_J37 at h
  refine jq_callV (As := [.int s0]) (rest := []) (n := 0) (o := 32) (D' := D_X9_holds) dX9_accept_37 hC (cl_0 (by decide)) rfl rfl rfl (mt_X9_holds h) gX9_accept_X9_holds rfl ⟨rfl, rfl, Nat.le_of_ble_eq_true rfl, Nat.le_of_ble_eq_true rfl⟩ nm_X9_holds rfl (Nat.le_of_ble_eq_true rfl) (kI fun r37 w37 h => ?_)
  refine jq_if_ne (tgt := 45) dX9_accept_40 hC (by decide) (fun c40 => ?_) (fun c40 => ?_)
  · have h := h.1 c40
    refine jq_aload_n (k0 := 0) dX9_accept_45 hC rfl rfl ?_
    refine jq_callV (As := []) (rest := []) (n := 0) (o := 32) (D' := D_X9_save) dX9_accept_46 hC (cl_0 (by decide)) rfl rfl rfl (mt_X9_save h) gX9_accept_X9_save rfl ⟨rfl, rfl, Nat.le_of_ble_eq_true rfl, Nat.le_of_ble_eq_true rfl⟩ nm_X9_save rfl (Nat.le_of_ble_eq_true rfl) (kV fun w46 h => ?_)
    refine jq_aload_n (k0 := 0) dX9_accept_49 hC rfl rfl ?_
    refine jq_get (k0 := 1) (n := 0) (o := 32) dX9_accept_50 hC (cl_0 (by decide)) rfl rfl hi_X9_accept_X9 (by decide) hl_X9_accept_7 rfl rfl ?_
    refine jq_iconst (v := (1 : Int32)) dX9_accept_53 hC (by decide) ?_
    refine jq_iload_n (k0 := 1) dX9_accept_54 hC rfl rfl ?_
    refine jq_iadd dX9_accept_55 hC ?_
    refine jq_aload_n (k0 := 0) dX9_accept_56 hC rfl rfl ?_
    refine jq_get (k0 := 21) (n := 0) (o := 32) dX9_accept_57 hC (cl_0 (by decide)) rfl rfl hi_X9_accept_X9 (by decide) hl_X9_accept_62 rfl rfl ?_
    refine jq_iload_n (k0 := 1) dX9_accept_60 hC rfl rfl ?_
    obtain ⟨b61, h⟩ := h
    refine jq_iald (n := 0) (o := 50) (j := x1.toNatClampNeg) dX9_accept_61 hC (cl_0 (by decide)) rfl b61 rfl ?_
    obtain ⟨b62, h⟩ := h
    refine jq_iast (n := 0) (o := 33) (j := ((1 : Int32) + x1).toNatClampNeg) dX9_accept_62 hC (cl_0 (by decide)) (fun _ => rfl) b62 rfl ?_
    refine jq_w (fun w62 e62 => ?_)
    have h := h w62 e62
    refine jq_aload_n (k0 := 0) dX9_accept_63 hC rfl rfl ?_
    refine jq_get (k0 := 21) (n := 0) (o := 32) dX9_accept_64 hC (cl_0 (by decide)) rfl rfl hi_X9_accept_X9 (by decide) hl_X9_accept_62 rfl rfl ?_
    refine jq_iload_n (k0 := 1) dX9_accept_67 hC rfl rfl ?_
    obtain ⟨b68, h⟩ := h
    refine jq_iald (n := 0) (o := 50) (j := x1.toNatClampNeg) dX9_accept_68 hC (cl_0 (by decide)) rfl b68 rfl ?_
    exact jq_iret dX9_accept_69 hC he rfl ⟨_, rfl, h⟩
  · have h := h.2 c40
    refine jq_iconst (v := (0 : Int32)) dX9_accept_43 hC (by decide) ?_
    exact jq_iret dX9_accept_44 hC he rfl ⟨_, rfl, h⟩
theorem ok_X9_accept {G : Gt} {M : Mx} {Qf : State → Prop} {x1 : Int32} {w : Wd} {Q : Int32 → Wd → Prop} (hC : cx G D_X9_accept M) (he : en G M (qi Q) Qf) (h : wp_X9_accept x1 w Q) : jq G D_X9_accept M Qf 0 [(0, .ref (aD G 0 32)), (1, .int x1)] [] w := by
  unfold wp_X9_accept at h
  refine jq_aload_n (k0 := 0) dX9_accept_0 hC rfl rfl ?_
  refine jq_callV (As := []) (rest := []) (n := 0) (o := 32) (D' := D_X9_layAll) dX9_accept_1 hC (cl_0 (by decide)) rfl rfl rfl (mt_X9_layAll h) gX9_accept_X9_layAll rfl ⟨rfl, rfl, Nat.le_of_ble_eq_true rfl, Nat.le_of_ble_eq_true rfl⟩ nm_X9_layAll rfl (Nat.le_of_ble_eq_true rfl) (kV fun w1 h => ?_)
  refine jq_aload_n (k0 := 0) dX9_accept_4 hC rfl rfl ?_
  refine jq_aload_n (k0 := 0) dX9_accept_5 hC rfl rfl ?_
  refine jq_iload_n (k0 := 1) dX9_accept_6 hC rfl rfl ?_
  refine jq_callV (As := [.int x1]) (rest := [.ref (aD G 0 32)]) (n := 0) (o := 32) (D' := D_X9_isMark) dX9_accept_7 hC (cl_0 (by decide)) rfl rfl rfl (mt_X9_isMark h) gX9_accept_X9_isMark rfl ⟨rfl, rfl, Nat.le_of_ble_eq_true rfl, Nat.le_of_ble_eq_true rfl⟩ nm_X9_isMark rfl (Nat.le_of_ble_eq_true rfl) (kIp fun r7 h => ?_)
  refine jq_if_ne (tgt := 17) dX9_accept_10 hC (by decide) (fun c10 => ?_) (fun c10 => ?_)
  · have h := h.1 c10
    refine jq_aload_n (k0 := 0) dX9_accept_17 hC rfl rfl ?_
    refine jq_get (k0 := 21) (n := 0) (o := 32) dX9_accept_18 hC (cl_0 (by decide)) rfl rfl hi_X9_accept_X9 (by decide) hl_X9_accept_62 rfl rfl ?_
    refine jq_iload_n (k0 := 1) dX9_accept_21 hC rfl rfl ?_
    obtain ⟨b22, h⟩ := h
    refine jq_iald (n := 0) (o := 50) (j := x1.toNatClampNeg) dX9_accept_22 hC (cl_0 (by decide)) rfl b22 rfl ?_
    refine jq_iconst (v := (0 : Int32)) dX9_accept_23 hC (by decide) ?_
    refine jq_ldc (v := (99999 : Int32)) dX9_accept_24 hC (by decide +kernel) ?_
    refine jq_callS (As := [.int (wi w1 0 50 x1.toNatClampNeg), .int (0 : Int32), .int (99999 : Int32)]) (rest := [.ref (aD G 0 32)]) (D' := D_X9_in) dX9_accept_26 hC (mt_X9_in h) gX9_accept_X9_in rfl ⟨rfl, rfl, Nat.le_of_ble_eq_true rfl, Nat.le_of_ble_eq_true rfl⟩ nm_X9_in rfl (Nat.le_of_ble_eq_true rfl) (kIp fun r26 h => ?_)
    refine jq_if_ne (tgt := 36) dX9_accept_29 hC (by decide) (fun c29 => ?_) (fun c29 => ?_)
    · have h := h.1 c29
      refine jq_iconst (v := (0 : Int32)) dX9_accept_36 hC (by decide) ?_
      refine jq_less (L' := [(0, .ref (aD G 0 32)), (1, .int x1)]) [0, 1] rfl ?_
      exact ok_X9_accept_J37 hC he h
    · have h := h.2 c29
      refine jq_iconst (v := (2 : Int32)) dX9_accept_32 hC (by decide) ?_
      refine jq_goto (tgt := 37) dX9_accept_33 hC (by decide) ?_
      refine jq_less (L' := [(0, .ref (aD G 0 32)), (1, .int x1)]) [0, 1] rfl ?_
      exact ok_X9_accept_J37 hC he h
  · have h := h.2 c10
    refine jq_iconst (v := (1 : Int32)) dX9_accept_13 hC (by decide) ?_
    refine jq_goto (tgt := 37) dX9_accept_14 hC (by decide) ?_
    refine jq_less (L' := [(0, .ref (aD G 0 32)), (1, .int x1)]) [0, 1] rfl ?_
    exact ok_X9_accept_J37 hC he h
theorem mt_X9_accept {G : Gt} {x1 : Int32} {w : Wd} {Q : Int32 → Wd → Prop} (h : wp_X9_accept x1 w Q) : Mt G D_X9_accept [.ref (aD G 0 32), .int x1] w (qi Q) := Mt_of (by decide +kernel) rfl rfl (Nat.le_of_ble_eq_true rfl) (fun M Qf hC he => ok_X9_accept hC he h)
/-! X9.legFault(IIII)I -/
theorem dX9_legFault_0 : decode cX9_legFault 0 = .ok (.aload_n 0, 1) := by decide +kernel
theorem dX9_legFault_1 : decode cX9_legFault 1 = .ok (.iload_n 1, 1) := by decide +kernel
theorem dX9_legFault_2 : decode cX9_legFault 2 = .ok (.invokevirtual 167, 3) := by decide +kernel
theorem dX9_legFault_5 : decode cX9_legFault 5 = .ok (.ifCond .eq 11, 3) := by decide +kernel
theorem dX9_legFault_8 : decode cX9_legFault 8 = .ok (.aload_n 0, 1) := by decide +kernel
theorem dX9_legFault_9 : decode cX9_legFault 9 = .ok (.iload_n 2, 1) := by decide +kernel
theorem dX9_legFault_10 : decode cX9_legFault 10 = .ok (.invokevirtual 167, 3) := by decide +kernel
theorem dX9_legFault_13 : decode cX9_legFault 13 = .ok (.ifCond .ne 5, 3) := by decide +kernel
theorem dX9_legFault_16 : decode cX9_legFault 16 = .ok (.iconst 1, 1) := by decide +kernel
theorem dX9_legFault_17 : decode cX9_legFault 17 = .ok (.ireturn, 1) := by decide +kernel
theorem dX9_legFault_18 : decode cX9_legFault 18 = .ok (.iload_n 1, 1) := by decide +kernel
theorem dX9_legFault_19 : decode cX9_legFault 19 = .ok (.iload_n 2, 1) := by decide +kernel
theorem dX9_legFault_20 : decode cX9_legFault 20 = .ok (.if_icmp .eq 27, 3) := by decide +kernel
theorem dX9_legFault_23 : decode cX9_legFault 23 = .ok (.iload_n 3, 1) := by decide +kernel
theorem dX9_legFault_24 : decode cX9_legFault 24 = .ok (.sipush (-9999), 3) := by decide +kernel
theorem dX9_legFault_27 : decode cX9_legFault 27 = .ok (.sipush 9999, 3) := by decide +kernel
theorem dX9_legFault_30 : decode cX9_legFault 30 = .ok (.invokestatic 69, 3) := by decide +kernel
theorem dX9_legFault_33 : decode cX9_legFault 33 = .ok (.ifCond .eq 14, 3) := by decide +kernel
theorem dX9_legFault_36 : decode cX9_legFault 36 = .ok (.iload 4, 2) := by decide +kernel
theorem dX9_legFault_38 : decode cX9_legFault 38 = .ok (.iconst 1, 1) := by decide +kernel
theorem dX9_legFault_39 : decode cX9_legFault 39 = .ok (.bipush 99, 2) := by decide +kernel
theorem dX9_legFault_41 : decode cX9_legFault 41 = .ok (.invokestatic 69, 3) := by decide +kernel
theorem dX9_legFault_44 : decode cX9_legFault 44 = .ok (.ifCond .ne 5, 3) := by decide +kernel
theorem dX9_legFault_47 : decode cX9_legFault 47 = .ok (.iconst 2, 1) := by decide +kernel
theorem dX9_legFault_48 : decode cX9_legFault 48 = .ok (.ireturn, 1) := by decide +kernel
theorem dX9_legFault_49 : decode cX9_legFault 49 = .ok (.aload_n 0, 1) := by decide +kernel
theorem dX9_legFault_50 : decode cX9_legFault 50 = .ok (.getfield 7, 3) := by decide +kernel
theorem dX9_legFault_53 : decode cX9_legFault 53 = .ok (.bipush 11, 2) := by decide +kernel
theorem dX9_legFault_55 : decode cX9_legFault 55 = .ok (.iaload, 1) := by decide +kernel
theorem dX9_legFault_56 : decode cX9_legFault 56 = .ok (.bipush 20, 2) := by decide +kernel
theorem dX9_legFault_58 : decode cX9_legFault 58 = .ok (.if_icmp .ne 7, 3) := by decide +kernel
theorem dX9_legFault_61 : decode cX9_legFault 61 = .ok (.iconst 3, 1) := by decide +kernel
theorem dX9_legFault_62 : decode cX9_legFault 62 = .ok (.goto 4, 3) := by decide +kernel
theorem dX9_legFault_65 : decode cX9_legFault 65 = .ok (.iconst 0, 1) := by decide +kernel
theorem dX9_legFault_66 : decode cX9_legFault 66 = .ok (.ireturn, 1) := by decide +kernel
set_option maxRecDepth 20000 in
theorem ggX9_legFault_X9_in : GoodIn wsX9_legFault wsX9_in := goodIn_r _ [9] (by decide +kernel) (by decide +kernel)
set_option maxRecDepth 20000 in
theorem gX9_legFault_X9_in : GoodIn wsX9_legFault (va_wsS RX9 69 yX9_in wsX9_in) := goodIn_app (goodIn_of _ (by decide +kernel)) ggX9_legFault_X9_in
set_option maxRecDepth 20000 in
theorem ggX9_legFault_X9_isMark : GoodIn wsX9_legFault wsX9_isMark := goodIn_r _ [6, 1, 7, 8, 5, 9, 10, 11, 12, 13, 14, 15, 16, 17, 18, 19, 20, 21, 22, 23, 24, 25, 26, 27, 28, 29, 30, 31, 32, 33, 34] (by decide +kernel) (by decide +kernel)
set_option maxRecDepth 20000 in
theorem gX9_legFault_X9_isMark : GoodIn wsX9_legFault (wsV RX9 167 RX9 yX9_isMark wsX9_isMark) := goodIn_app (goodIn_of _ (by decide +kernel)) ggX9_legFault_X9_isMark
def D_X9_legFault : Md := (yX9_legFault, cX9_legFault, 5, (some .int), wsX9_legFault, RX9, { frames := 2, cells := 0, slots := 0, locals := 43 })
theorem nm_X9_legFault : nmD D_X9_legFault 4 := ⟨rfl, by decide +kernel, by decide +kernel, by decide +kernel⟩
theorem hi_X9_legFault_X9 : ∀ w ∈ u_ws RX9 TX9 25, w ∈ wsX9_legFault := by decide +kernel
theorem hl_X9_legFault_7 : Cond.fieldLink RX9 7 "LevelLoopsModel" "s" "[I" ∈ wsX9_legFault := by decide +kernel
def wp_X9_legFault (x1 : Int32) (x2 : Int32) (x3 : Int32) (x4 : Int32) (w : Wd) (Q : Int32 → Prop) : Prop :=
  wp_X9_isMark x1 w (fun r2 => ((r2 = 0 → Q (1 : Int32)) ∧ (¬ r2 = 0 → wp_X9_isMark x2 w (fun r10 => ((¬ r10 = 0 → ((x1 = x2 → Q (2 : Int32)) ∧ (¬ x1 = x2 → wp_X9_in x3 (-9999 : Int32) (9999 : Int32) (fun r30 => ((r30 = 0 → Q (2 : Int32)) ∧ (¬ r30 = 0 → wp_X9_in x4 (1 : Int32) (99 : Int32) (fun r41 => ((¬ r41 = 0 → ((¬ (wi w 0 33 11) = (20 : Int32) → Q (0 : Int32)) ∧ ((wi w 0 33 11) = (20 : Int32) → Q (3 : Int32)))) ∧ (r41 = 0 → Q (2 : Int32)))))))))) ∧ (r10 = 0 → Q (1 : Int32)))))))
theorem ok_X9_legFault {G : Gt} {M : Mx} {Qf : State → Prop} {x1 : Int32} {x2 : Int32} {x3 : Int32} {x4 : Int32} {w : Wd} {Q : Int32 → Prop} (hC : cx G D_X9_legFault M) (he : en G M (qip w Q) Qf) (h : wp_X9_legFault x1 x2 x3 x4 w Q) : jq G D_X9_legFault M Qf 0 [(0, .ref (aD G 0 32)), (1, .int x1), (2, .int x2), (3, .int x3), (4, .int x4)] [] w := by
  unfold wp_X9_legFault at h
  refine jq_aload_n (k0 := 0) dX9_legFault_0 hC rfl rfl ?_
  refine jq_iload_n (k0 := 1) dX9_legFault_1 hC rfl rfl ?_
  refine jq_callV (As := [.int x1]) (rest := []) (n := 0) (o := 32) (D' := D_X9_isMark) dX9_legFault_2 hC (cl_0 (by decide)) rfl rfl rfl (mt_X9_isMark h) gX9_legFault_X9_isMark rfl ⟨rfl, rfl, Nat.le_of_ble_eq_true rfl, Nat.le_of_ble_eq_true rfl⟩ nm_X9_isMark rfl (Nat.le_of_ble_eq_true rfl) (kIp fun r2 h => ?_)
  refine jq_if_eq (tgt := 16) dX9_legFault_5 hC (by decide) (fun c5 => ?_) (fun c5 => ?_)
  · have h := h.1 c5
    refine jq_iconst (v := (1 : Int32)) dX9_legFault_16 hC (by decide) ?_
    exact jq_iret dX9_legFault_17 hC he rfl ⟨_, rfl, rfl, h⟩
  · have h := h.2 c5
    refine jq_aload_n (k0 := 0) dX9_legFault_8 hC rfl rfl ?_
    refine jq_iload_n (k0 := 2) dX9_legFault_9 hC rfl rfl ?_
    refine jq_callV (As := [.int x2]) (rest := []) (n := 0) (o := 32) (D' := D_X9_isMark) dX9_legFault_10 hC (cl_0 (by decide)) rfl rfl rfl (mt_X9_isMark h) gX9_legFault_X9_isMark rfl ⟨rfl, rfl, Nat.le_of_ble_eq_true rfl, Nat.le_of_ble_eq_true rfl⟩ nm_X9_isMark rfl (Nat.le_of_ble_eq_true rfl) (kIp fun r10 h => ?_)
    refine jq_if_ne (tgt := 18) dX9_legFault_13 hC (by decide) (fun c13 => ?_) (fun c13 => ?_)
    · have h := h.1 c13
      refine jq_iload_n (k0 := 1) dX9_legFault_18 hC rfl rfl ?_
      refine jq_iload_n (k0 := 2) dX9_legFault_19 hC rfl rfl ?_
      refine jq_icmp_eq (tgt := 47) dX9_legFault_20 hC (by decide) (fun c20 => ?_) (fun c20 => ?_)
      · have h := h.1 c20
        refine jq_iconst (v := (2 : Int32)) dX9_legFault_47 hC (by decide) ?_
        exact jq_iret dX9_legFault_48 hC he rfl ⟨_, rfl, rfl, h⟩
      · have h := h.2 c20
        refine jq_iload_n (k0 := 3) dX9_legFault_23 hC rfl rfl ?_
        refine jq_sipush (v := (-9999 : Int32)) dX9_legFault_24 hC (by decide) ?_
        refine jq_sipush (v := (9999 : Int32)) dX9_legFault_27 hC (by decide) ?_
        refine jq_callS (As := [.int x3, .int (-9999 : Int32), .int (9999 : Int32)]) (rest := []) (D' := D_X9_in) dX9_legFault_30 hC (mt_X9_in h) gX9_legFault_X9_in rfl ⟨rfl, rfl, Nat.le_of_ble_eq_true rfl, Nat.le_of_ble_eq_true rfl⟩ nm_X9_in rfl (Nat.le_of_ble_eq_true rfl) (kIp fun r30 h => ?_)
        refine jq_if_eq (tgt := 47) dX9_legFault_33 hC (by decide) (fun c33 => ?_) (fun c33 => ?_)
        · have h := h.1 c33
          refine jq_iconst (v := (2 : Int32)) dX9_legFault_47 hC (by decide) ?_
          exact jq_iret dX9_legFault_48 hC he rfl ⟨_, rfl, rfl, h⟩
        · have h := h.2 c33
          refine jq_iload (k0 := 4) dX9_legFault_36 hC rfl ?_
          refine jq_iconst (v := (1 : Int32)) dX9_legFault_38 hC (by decide) ?_
          refine jq_bipush (v := (99 : Int32)) dX9_legFault_39 hC (by decide) ?_
          refine jq_callS (As := [.int x4, .int (1 : Int32), .int (99 : Int32)]) (rest := []) (D' := D_X9_in) dX9_legFault_41 hC (mt_X9_in h) gX9_legFault_X9_in rfl ⟨rfl, rfl, Nat.le_of_ble_eq_true rfl, Nat.le_of_ble_eq_true rfl⟩ nm_X9_in rfl (Nat.le_of_ble_eq_true rfl) (kIp fun r41 h => ?_)
          refine jq_if_ne (tgt := 49) dX9_legFault_44 hC (by decide) (fun c44 => ?_) (fun c44 => ?_)
          · have h := h.1 c44
            refine jq_aload_n (k0 := 0) dX9_legFault_49 hC rfl rfl ?_
            refine jq_get (k0 := 1) (n := 0) (o := 32) dX9_legFault_50 hC (cl_0 (by decide)) rfl rfl hi_X9_legFault_X9 (by decide) hl_X9_legFault_7 rfl rfl ?_
            refine jq_bipush (v := (11 : Int32)) dX9_legFault_53 hC (by decide) ?_
            refine jq_iald (n := 0) (o := 33) (j := 11) dX9_legFault_55 hC (cl_0 (by decide)) rfl (vin (by decide)) (by decide) ?_
            refine jq_bipush (v := (20 : Int32)) dX9_legFault_56 hC (by decide) ?_
            refine jq_icmp_ne (tgt := 65) dX9_legFault_58 hC (by decide) (fun c58 => ?_) (fun c58 => ?_)
            · have h := h.1 c58
              refine jq_iconst (v := (0 : Int32)) dX9_legFault_65 hC (by decide) ?_
              exact jq_iret dX9_legFault_66 hC he rfl ⟨_, rfl, rfl, h⟩
            · have h := h.2 c58
              refine jq_iconst (v := (3 : Int32)) dX9_legFault_61 hC (by decide) ?_
              refine jq_goto (tgt := 66) dX9_legFault_62 hC (by decide) ?_
              exact jq_iret dX9_legFault_66 hC he rfl ⟨_, rfl, rfl, h⟩
          · have h := h.2 c44
            refine jq_iconst (v := (2 : Int32)) dX9_legFault_47 hC (by decide) ?_
            exact jq_iret dX9_legFault_48 hC he rfl ⟨_, rfl, rfl, h⟩
    · have h := h.2 c13
      refine jq_iconst (v := (1 : Int32)) dX9_legFault_16 hC (by decide) ?_
      exact jq_iret dX9_legFault_17 hC he rfl ⟨_, rfl, rfl, h⟩
theorem mt_X9_legFault {G : Gt} {x1 : Int32} {x2 : Int32} {x3 : Int32} {x4 : Int32} {w : Wd} {Q : Int32 → Prop} (h : wp_X9_legFault x1 x2 x3 x4 w Q) : Mt G D_X9_legFault [.ref (aD G 0 32), .int x1, .int x2, .int x3, .int x4] w (qip w Q) := Mt_of (by decide +kernel) rfl rfl (Nat.le_of_ble_eq_true rfl) (fun M Qf hC he => ok_X9_legFault hC he h)
/-! X9.legs(IIII)I -/
theorem dX9_legs_0 : decode cX9_legs 0 = .ok (.aload_n 0, 1) := by decide +kernel
theorem dX9_legs_1 : decode cX9_legs 1 = .ok (.getfield 7, 3) := by decide +kernel
theorem dX9_legs_4 : decode cX9_legs 4 = .ok (.bipush 11, 2) := by decide +kernel
theorem dX9_legs_6 : decode cX9_legs 6 = .ok (.iaload, 1) := by decide +kernel
theorem dX9_legs_7 : decode cX9_legs 7 = .ok (.istore 5, 2) := by decide +kernel
theorem dX9_legs_9 : decode cX9_legs 9 = .ok (.aload_n 0, 1) := by decide +kernel
theorem dX9_legs_10 : decode cX9_legs 10 = .ok (.getfield 7, 3) := by decide +kernel
theorem dX9_legs_13 : decode cX9_legs 13 = .ok (.iload 5, 2) := by decide +kernel
theorem dX9_legs_15 : decode cX9_legs 15 = .ok (.iconst 0, 1) := by decide +kernel
theorem dX9_legs_16 : decode cX9_legs 16 = .ok (.invokestatic 76, 3) := by decide +kernel
theorem dX9_legs_19 : decode cX9_legs 19 = .ok (.iload_n 1, 1) := by decide +kernel
theorem dX9_legs_20 : decode cX9_legs 20 = .ok (.iastore, 1) := by decide +kernel
theorem dX9_legs_21 : decode cX9_legs 21 = .ok (.aload_n 0, 1) := by decide +kernel
theorem dX9_legs_22 : decode cX9_legs 22 = .ok (.getfield 7, 3) := by decide +kernel
theorem dX9_legs_25 : decode cX9_legs 25 = .ok (.iload 5, 2) := by decide +kernel
theorem dX9_legs_27 : decode cX9_legs 27 = .ok (.iconst 1, 1) := by decide +kernel
theorem dX9_legs_28 : decode cX9_legs 28 = .ok (.invokestatic 76, 3) := by decide +kernel
theorem dX9_legs_31 : decode cX9_legs 31 = .ok (.iload_n 2, 1) := by decide +kernel
theorem dX9_legs_32 : decode cX9_legs 32 = .ok (.iastore, 1) := by decide +kernel
theorem dX9_legs_33 : decode cX9_legs 33 = .ok (.aload_n 0, 1) := by decide +kernel
theorem dX9_legs_34 : decode cX9_legs 34 = .ok (.getfield 7, 3) := by decide +kernel
theorem dX9_legs_37 : decode cX9_legs 37 = .ok (.iload 5, 2) := by decide +kernel
theorem dX9_legs_39 : decode cX9_legs 39 = .ok (.iconst 2, 1) := by decide +kernel
theorem dX9_legs_40 : decode cX9_legs 40 = .ok (.invokestatic 76, 3) := by decide +kernel
theorem dX9_legs_43 : decode cX9_legs 43 = .ok (.iload 4, 2) := by decide +kernel
theorem dX9_legs_45 : decode cX9_legs 45 = .ok (.iastore, 1) := by decide +kernel
theorem dX9_legs_46 : decode cX9_legs 46 = .ok (.aload_n 0, 1) := by decide +kernel
theorem dX9_legs_47 : decode cX9_legs 47 = .ok (.getfield 7, 3) := by decide +kernel
theorem dX9_legs_50 : decode cX9_legs 50 = .ok (.iload 5, 2) := by decide +kernel
theorem dX9_legs_52 : decode cX9_legs 52 = .ok (.iconst 3, 1) := by decide +kernel
theorem dX9_legs_53 : decode cX9_legs 53 = .ok (.invokestatic 76, 3) := by decide +kernel
theorem dX9_legs_56 : decode cX9_legs 56 = .ok (.iload_n 3, 1) := by decide +kernel
theorem dX9_legs_57 : decode cX9_legs 57 = .ok (.iastore, 1) := by decide +kernel
theorem dX9_legs_58 : decode cX9_legs 58 = .ok (.aload_n 0, 1) := by decide +kernel
theorem dX9_legs_59 : decode cX9_legs 59 = .ok (.getfield 7, 3) := by decide +kernel
theorem dX9_legs_62 : decode cX9_legs 62 = .ok (.bipush 11, 2) := by decide +kernel
theorem dX9_legs_64 : decode cX9_legs 64 = .ok (.dup2, 1) := by decide +kernel
theorem dX9_legs_65 : decode cX9_legs 65 = .ok (.iaload, 1) := by decide +kernel
theorem dX9_legs_66 : decode cX9_legs 66 = .ok (.iconst 1, 1) := by decide +kernel
theorem dX9_legs_67 : decode cX9_legs 67 = .ok (.iadd, 1) := by decide +kernel
theorem dX9_legs_68 : decode cX9_legs 68 = .ok (.iastore, 1) := by decide +kernel
theorem dX9_legs_69 : decode cX9_legs 69 = .ok (.iload 5, 2) := by decide +kernel
theorem dX9_legs_71 : decode cX9_legs 71 = .ok (.ireturn, 1) := by decide +kernel
set_option maxRecDepth 20000 in
theorem ggX9_legs_X9_of : GoodIn wsX9_legs wsX9_of := goodIn_r _ [5] (by decide +kernel) (by decide +kernel)
set_option maxRecDepth 20000 in
theorem gX9_legs_X9_of : GoodIn wsX9_legs (va_wsS RX9 76 yX9_of wsX9_of) := goodIn_app (goodIn_of _ (by decide +kernel)) ggX9_legs_X9_of
def D_X9_legs : Md := (yX9_legs, cX9_legs, 6, (some .int), wsX9_legs, RX9, { frames := 1, cells := 0, slots := 0, locals := 21 })
theorem nm_X9_legs : nmD D_X9_legs 4 := ⟨rfl, by decide +kernel, by decide +kernel, by decide +kernel⟩
theorem hi_X9_legs_X9 : ∀ w ∈ u_ws RX9 TX9 25, w ∈ wsX9_legs := by decide +kernel
theorem hl_X9_legs_7 : Cond.fieldLink RX9 7 "LevelLoopsModel" "s" "[I" ∈ wsX9_legs := by decide +kernel
def wp_X9_legs (x1 : Int32) (x2 : Int32) (x3 : Int32) (x4 : Int32) (w : Wd) (Q : Int32 → Wd → Prop) : Prop :=
  wp_X9_of (wi w 0 33 11) (0 : Int32) (fun r16 => vp_in r16 95 ∧ (∀ w20 : Wd, w20 = (sI w 0 33 r16.toNatClampNeg x1) → wp_X9_of (wi w 0 33 11) (1 : Int32) (fun r28 => vp_in r28 95 ∧ (∀ w32 : Wd, w32 = (sI w20 0 33 r28.toNatClampNeg x2) → wp_X9_of (wi w 0 33 11) (2 : Int32) (fun r40 => vp_in r40 95 ∧ (∀ w45 : Wd, w45 = (sI w32 0 33 r40.toNatClampNeg x4) → wp_X9_of (wi w 0 33 11) (3 : Int32) (fun r53 => vp_in r53 95 ∧ (∀ w57 : Wd, w57 = (sI w45 0 33 r53.toNatClampNeg x3) → (∀ w68 : Wd, w68 = (sI w57 0 33 11 ((wi w57 0 33 11) + (1 : Int32))) → Q (wi w 0 33 11) w68)))))))))
theorem ok_X9_legs {G : Gt} {M : Mx} {Qf : State → Prop} {x1 : Int32} {x2 : Int32} {x3 : Int32} {x4 : Int32} {w : Wd} {Q : Int32 → Wd → Prop} (hC : cx G D_X9_legs M) (he : en G M (qi Q) Qf) (h : wp_X9_legs x1 x2 x3 x4 w Q) : jq G D_X9_legs M Qf 0 [(0, .ref (aD G 0 32)), (1, .int x1), (2, .int x2), (3, .int x3), (4, .int x4)] [] w := by
  unfold wp_X9_legs at h
  refine jq_aload_n (k0 := 0) dX9_legs_0 hC rfl rfl ?_
  refine jq_get (k0 := 1) (n := 0) (o := 32) dX9_legs_1 hC (cl_0 (by decide)) rfl rfl hi_X9_legs_X9 (by decide) hl_X9_legs_7 rfl rfl ?_
  refine jq_bipush (v := (11 : Int32)) dX9_legs_4 hC (by decide) ?_
  refine jq_iald (n := 0) (o := 33) (j := 11) dX9_legs_6 hC (cl_0 (by decide)) rfl (vin (by decide)) (by decide) ?_
  refine jq_istore (L' := [(5, .int (wi w 0 33 11)), (0, .ref (aD G 0 32)), (1, .int x1), (2, .int x2), (3, .int x3), (4, .int x4)]) dX9_legs_7 hC (by decide) rfl ?_
  refine jq_aload_n (k0 := 1) dX9_legs_9 hC rfl rfl ?_
  refine jq_get (k0 := 1) (n := 0) (o := 32) dX9_legs_10 hC (cl_0 (by decide)) rfl rfl hi_X9_legs_X9 (by decide) hl_X9_legs_7 rfl rfl ?_
  refine jq_iload (k0 := 0) dX9_legs_13 hC rfl ?_
  refine jq_iconst (v := (0 : Int32)) dX9_legs_15 hC (by decide) ?_
  refine jq_callS (As := [.int (wi w 0 33 11), .int (0 : Int32)]) (rest := [.ref (aD G 0 33)]) (D' := D_X9_of) dX9_legs_16 hC (mt_X9_of h) gX9_legs_X9_of rfl ⟨rfl, rfl, Nat.le_of_ble_eq_true rfl, Nat.le_of_ble_eq_true rfl⟩ nm_X9_of rfl (Nat.le_of_ble_eq_true rfl) (kIp fun r16 h => ?_)
  refine jq_iload_n (k0 := 2) dX9_legs_19 hC rfl rfl ?_
  obtain ⟨b20, h⟩ := h
  refine jq_iast (n := 0) (o := 33) (j := r16.toNatClampNeg) dX9_legs_20 hC (cl_0 (by decide)) (fun _ => rfl) b20 rfl ?_
  refine jq_w (fun w20 e20 => ?_)
  have h := h w20 e20
  refine jq_aload_n (k0 := 1) dX9_legs_21 hC rfl rfl ?_
  refine jq_get (k0 := 1) (n := 0) (o := 32) dX9_legs_22 hC (cl_0 (by decide)) rfl rfl hi_X9_legs_X9 (by decide) hl_X9_legs_7 rfl rfl ?_
  refine jq_iload (k0 := 0) dX9_legs_25 hC rfl ?_
  refine jq_iconst (v := (1 : Int32)) dX9_legs_27 hC (by decide) ?_
  refine jq_callS (As := [.int (wi w 0 33 11), .int (1 : Int32)]) (rest := [.ref (aD G 0 33)]) (D' := D_X9_of) dX9_legs_28 hC (mt_X9_of h) gX9_legs_X9_of rfl ⟨rfl, rfl, Nat.le_of_ble_eq_true rfl, Nat.le_of_ble_eq_true rfl⟩ nm_X9_of rfl (Nat.le_of_ble_eq_true rfl) (kIp fun r28 h => ?_)
  refine jq_iload_n (k0 := 3) dX9_legs_31 hC rfl rfl ?_
  obtain ⟨b32, h⟩ := h
  refine jq_iast (n := 0) (o := 33) (j := r28.toNatClampNeg) dX9_legs_32 hC (cl_0 (by decide)) (fun _ => rfl) b32 rfl ?_
  refine jq_w (fun w32 e32 => ?_)
  have h := h w32 e32
  refine jq_aload_n (k0 := 1) dX9_legs_33 hC rfl rfl ?_
  refine jq_get (k0 := 1) (n := 0) (o := 32) dX9_legs_34 hC (cl_0 (by decide)) rfl rfl hi_X9_legs_X9 (by decide) hl_X9_legs_7 rfl rfl ?_
  refine jq_iload (k0 := 0) dX9_legs_37 hC rfl ?_
  refine jq_iconst (v := (2 : Int32)) dX9_legs_39 hC (by decide) ?_
  refine jq_callS (As := [.int (wi w 0 33 11), .int (2 : Int32)]) (rest := [.ref (aD G 0 33)]) (D' := D_X9_of) dX9_legs_40 hC (mt_X9_of h) gX9_legs_X9_of rfl ⟨rfl, rfl, Nat.le_of_ble_eq_true rfl, Nat.le_of_ble_eq_true rfl⟩ nm_X9_of rfl (Nat.le_of_ble_eq_true rfl) (kIp fun r40 h => ?_)
  refine jq_iload (k0 := 5) dX9_legs_43 hC rfl ?_
  obtain ⟨b45, h⟩ := h
  refine jq_iast (n := 0) (o := 33) (j := r40.toNatClampNeg) dX9_legs_45 hC (cl_0 (by decide)) (fun _ => rfl) b45 rfl ?_
  refine jq_w (fun w45 e45 => ?_)
  have h := h w45 e45
  refine jq_aload_n (k0 := 1) dX9_legs_46 hC rfl rfl ?_
  refine jq_get (k0 := 1) (n := 0) (o := 32) dX9_legs_47 hC (cl_0 (by decide)) rfl rfl hi_X9_legs_X9 (by decide) hl_X9_legs_7 rfl rfl ?_
  refine jq_iload (k0 := 0) dX9_legs_50 hC rfl ?_
  refine jq_iconst (v := (3 : Int32)) dX9_legs_52 hC (by decide) ?_
  refine jq_callS (As := [.int (wi w 0 33 11), .int (3 : Int32)]) (rest := [.ref (aD G 0 33)]) (D' := D_X9_of) dX9_legs_53 hC (mt_X9_of h) gX9_legs_X9_of rfl ⟨rfl, rfl, Nat.le_of_ble_eq_true rfl, Nat.le_of_ble_eq_true rfl⟩ nm_X9_of rfl (Nat.le_of_ble_eq_true rfl) (kIp fun r53 h => ?_)
  refine jq_iload_n (k0 := 4) dX9_legs_56 hC rfl rfl ?_
  obtain ⟨b57, h⟩ := h
  refine jq_iast (n := 0) (o := 33) (j := r53.toNatClampNeg) dX9_legs_57 hC (cl_0 (by decide)) (fun _ => rfl) b57 rfl ?_
  refine jq_w (fun w57 e57 => ?_)
  have h := h w57 e57
  refine jq_aload_n (k0 := 1) dX9_legs_58 hC rfl rfl ?_
  refine jq_get (k0 := 1) (n := 0) (o := 32) dX9_legs_59 hC (cl_0 (by decide)) rfl rfl hi_X9_legs_X9 (by decide) hl_X9_legs_7 rfl rfl ?_
  refine jq_bipush (v := (11 : Int32)) dX9_legs_62 hC (by decide) ?_
  refine jq_dup2 dX9_legs_64 hC rfl rfl ?_
  refine jq_iald (n := 0) (o := 33) (j := 11) dX9_legs_65 hC (cl_0 (by decide)) rfl (vin (by decide)) (by decide) ?_
  refine jq_iconst (v := (1 : Int32)) dX9_legs_66 hC (by decide) ?_
  refine jq_iadd dX9_legs_67 hC ?_
  refine jq_iast (n := 0) (o := 33) (j := 11) dX9_legs_68 hC (cl_0 (by decide)) (fun _ => rfl) (vin (by decide)) (by decide) ?_
  refine jq_w (fun w68 e68 => ?_)
  have h := h w68 e68
  refine jq_iload (k0 := 0) dX9_legs_69 hC rfl ?_
  exact jq_iret dX9_legs_71 hC he rfl ⟨_, rfl, h⟩
theorem mt_X9_legs {G : Gt} {x1 : Int32} {x2 : Int32} {x3 : Int32} {x4 : Int32} {w : Wd} {Q : Int32 → Wd → Prop} (h : wp_X9_legs x1 x2 x3 x4 w Q) : Mt G D_X9_legs [.ref (aD G 0 32), .int x1, .int x2, .int x3, .int x4] w (qi Q) := Mt_of (by decide +kernel) rfl rfl (Nat.le_of_ble_eq_true rfl) (fun M Qf hC he => ok_X9_legs hC he h)
/-! X9.addLeg(IIII)I -/
theorem dX9_addLeg_0 : decode cX9_addLeg 0 = .ok (.aload_n 0, 1) := by decide +kernel
theorem dX9_addLeg_1 : decode cX9_addLeg 1 = .ok (.aload_n 0, 1) := by decide +kernel
theorem dX9_addLeg_2 : decode cX9_addLeg 2 = .ok (.iload_n 1, 1) := by decide +kernel
theorem dX9_addLeg_3 : decode cX9_addLeg 3 = .ok (.iload_n 2, 1) := by decide +kernel
theorem dX9_addLeg_4 : decode cX9_addLeg 4 = .ok (.iload_n 3, 1) := by decide +kernel
theorem dX9_addLeg_5 : decode cX9_addLeg 5 = .ok (.iload 4, 2) := by decide +kernel
theorem dX9_addLeg_7 : decode cX9_addLeg 7 = .ok (.invokevirtual 173, 3) := by decide +kernel
theorem dX9_addLeg_10 : decode cX9_addLeg 10 = .ok (.invokevirtual 158, 3) := by decide +kernel
theorem dX9_addLeg_13 : decode cX9_addLeg 13 = .ok (.ifCond .ne 5, 3) := by decide +kernel
theorem dX9_addLeg_16 : decode cX9_addLeg 16 = .ok (.iconst 0, 1) := by decide +kernel
theorem dX9_addLeg_17 : decode cX9_addLeg 17 = .ok (.ireturn, 1) := by decide +kernel
theorem dX9_addLeg_18 : decode cX9_addLeg 18 = .ok (.aload_n 0, 1) := by decide +kernel
theorem dX9_addLeg_19 : decode cX9_addLeg 19 = .ok (.invokevirtual 161, 3) := by decide +kernel
theorem dX9_addLeg_22 : decode cX9_addLeg 22 = .ok (.aload_n 0, 1) := by decide +kernel
theorem dX9_addLeg_23 : decode cX9_addLeg 23 = .ok (.iload_n 1, 1) := by decide +kernel
theorem dX9_addLeg_24 : decode cX9_addLeg 24 = .ok (.iload_n 2, 1) := by decide +kernel
theorem dX9_addLeg_25 : decode cX9_addLeg 25 = .ok (.iload_n 3, 1) := by decide +kernel
theorem dX9_addLeg_26 : decode cX9_addLeg 26 = .ok (.iload 4, 2) := by decide +kernel
theorem dX9_addLeg_28 : decode cX9_addLeg 28 = .ok (.invokevirtual 177, 3) := by decide +kernel
theorem dX9_addLeg_31 : decode cX9_addLeg 31 = .ok (.ireturn, 1) := by decide +kernel
set_option maxRecDepth 20000 in
theorem ggX9_addLeg_X9_legs : GoodIn wsX9_addLeg wsX9_legs := goodIn_r _ [28, 6, 29, 30, 4, 31, 32, 33, 34, 35, 36, 37, 38, 39, 40, 41, 42, 43, 44, 45, 46, 47, 48, 49, 50, 51, 52, 53, 54, 55, 56] (by decide +kernel) (by decide +kernel)
set_option maxRecDepth 20000 in
theorem gX9_addLeg_X9_legs : GoodIn wsX9_addLeg (wsV RX9 177 RX9 yX9_legs wsX9_legs) := goodIn_app (goodIn_of _ (by decide +kernel)) ggX9_addLeg_X9_legs
set_option maxRecDepth 20000 in
theorem ggX9_addLeg_X9_save : GoodIn wsX9_addLeg wsX9_save := goodIn_r _ [22, 23, 24, 6, 32, 33, 34, 35, 36, 37, 38, 39, 40, 41, 42, 43, 44, 45, 46, 47, 48, 49, 50, 51, 52, 53, 54, 55, 56] (by decide +kernel) (by decide +kernel)
set_option maxRecDepth 20000 in
theorem gX9_addLeg_X9_save : GoodIn wsX9_addLeg (wsV RX9 161 RX9 yX9_save wsX9_save) := goodIn_app (goodIn_of _ (by decide +kernel)) ggX9_addLeg_X9_save
set_option maxRecDepth 20000 in
theorem ggX9_addLeg_X9_holds : GoodIn wsX9_addLeg wsX9_holds := goodIn_r _ [17, 18, 32, 33, 34, 35, 36, 37, 38, 39, 40, 41, 42, 43, 44, 45, 46, 47, 48, 49, 50, 51, 52, 53, 54, 55, 56] (by decide +kernel) (by decide +kernel)
set_option maxRecDepth 20000 in
theorem gX9_addLeg_X9_holds : GoodIn wsX9_addLeg (wsV RX9 158 RX9 yX9_holds wsX9_holds) := goodIn_app (goodIn_of _ (by decide +kernel)) ggX9_addLeg_X9_holds
set_option maxRecDepth 20000 in
theorem ggX9_addLeg_X9_legFault : GoodIn wsX9_addLeg wsX9_legFault := goodIn_r _ [5, 6, 7, 8, 9, 4, 10, 11, 12, 13, 32, 33, 34, 35, 36, 37, 38, 39, 40, 41, 42, 43, 44, 45, 46, 47, 48, 49, 50, 51, 52, 53, 54, 55, 56] (by decide +kernel) (by decide +kernel)
set_option maxRecDepth 20000 in
theorem gX9_addLeg_X9_legFault : GoodIn wsX9_addLeg (wsV RX9 173 RX9 yX9_legFault wsX9_legFault) := goodIn_app (goodIn_of _ (by decide +kernel)) ggX9_addLeg_X9_legFault
def D_X9_addLeg : Md := (yX9_addLeg, cX9_addLeg, 5, (some .int), wsX9_addLeg, RX9, { frames := 3, cells := 0, slots := 0, locals := 67 })
theorem nm_X9_addLeg : nmD D_X9_addLeg 4 := ⟨rfl, by decide +kernel, by decide +kernel, by decide +kernel⟩
def wp_X9_addLeg (x1 : Int32) (x2 : Int32) (x3 : Int32) (x4 : Int32) (w : Wd) (Q : Int32 → Wd → Prop) : Prop :=
  wp_X9_legFault x1 x2 x3 x4 w (fun r7 => wp_X9_holds r7 w (fun r10 w10 => ((¬ r10 = 0 → wp_X9_save w10 (fun w19 => wp_X9_legs x1 x2 x3 x4 w19 (fun r28 w28 => Q r28 w28))) ∧ (r10 = 0 → Q (0 : Int32) w10))))
theorem ok_X9_addLeg {G : Gt} {M : Mx} {Qf : State → Prop} {x1 : Int32} {x2 : Int32} {x3 : Int32} {x4 : Int32} {w : Wd} {Q : Int32 → Wd → Prop} (hC : cx G D_X9_addLeg M) (he : en G M (qi Q) Qf) (h : wp_X9_addLeg x1 x2 x3 x4 w Q) : jq G D_X9_addLeg M Qf 0 [(0, .ref (aD G 0 32)), (1, .int x1), (2, .int x2), (3, .int x3), (4, .int x4)] [] w := by
  unfold wp_X9_addLeg at h
  refine jq_aload_n (k0 := 0) dX9_addLeg_0 hC rfl rfl ?_
  refine jq_aload_n (k0 := 0) dX9_addLeg_1 hC rfl rfl ?_
  refine jq_iload_n (k0 := 1) dX9_addLeg_2 hC rfl rfl ?_
  refine jq_iload_n (k0 := 2) dX9_addLeg_3 hC rfl rfl ?_
  refine jq_iload_n (k0 := 3) dX9_addLeg_4 hC rfl rfl ?_
  refine jq_iload (k0 := 4) dX9_addLeg_5 hC rfl ?_
  refine jq_callV (As := [.int x1, .int x2, .int x3, .int x4]) (rest := [.ref (aD G 0 32)]) (n := 0) (o := 32) (D' := D_X9_legFault) dX9_addLeg_7 hC (cl_0 (by decide)) rfl rfl rfl (mt_X9_legFault h) gX9_addLeg_X9_legFault rfl ⟨rfl, rfl, Nat.le_of_ble_eq_true rfl, Nat.le_of_ble_eq_true rfl⟩ nm_X9_legFault rfl (Nat.le_of_ble_eq_true rfl) (kIp fun r7 h => ?_)
  refine jq_callV (As := [.int r7]) (rest := []) (n := 0) (o := 32) (D' := D_X9_holds) dX9_addLeg_10 hC (cl_0 (by decide)) rfl rfl rfl (mt_X9_holds h) gX9_addLeg_X9_holds rfl ⟨rfl, rfl, Nat.le_of_ble_eq_true rfl, Nat.le_of_ble_eq_true rfl⟩ nm_X9_holds rfl (Nat.le_of_ble_eq_true rfl) (kI fun r10 w10 h => ?_)
  refine jq_if_ne (tgt := 18) dX9_addLeg_13 hC (by decide) (fun c13 => ?_) (fun c13 => ?_)
  · have h := h.1 c13
    refine jq_aload_n (k0 := 0) dX9_addLeg_18 hC rfl rfl ?_
    refine jq_callV (As := []) (rest := []) (n := 0) (o := 32) (D' := D_X9_save) dX9_addLeg_19 hC (cl_0 (by decide)) rfl rfl rfl (mt_X9_save h) gX9_addLeg_X9_save rfl ⟨rfl, rfl, Nat.le_of_ble_eq_true rfl, Nat.le_of_ble_eq_true rfl⟩ nm_X9_save rfl (Nat.le_of_ble_eq_true rfl) (kV fun w19 h => ?_)
    refine jq_aload_n (k0 := 0) dX9_addLeg_22 hC rfl rfl ?_
    refine jq_iload_n (k0 := 1) dX9_addLeg_23 hC rfl rfl ?_
    refine jq_iload_n (k0 := 2) dX9_addLeg_24 hC rfl rfl ?_
    refine jq_iload_n (k0 := 3) dX9_addLeg_25 hC rfl rfl ?_
    refine jq_iload (k0 := 4) dX9_addLeg_26 hC rfl ?_
    refine jq_callV (As := [.int x1, .int x2, .int x3, .int x4]) (rest := []) (n := 0) (o := 32) (D' := D_X9_legs) dX9_addLeg_28 hC (cl_0 (by decide)) rfl rfl rfl (mt_X9_legs h) gX9_addLeg_X9_legs rfl ⟨rfl, rfl, Nat.le_of_ble_eq_true rfl, Nat.le_of_ble_eq_true rfl⟩ nm_X9_legs rfl (Nat.le_of_ble_eq_true rfl) (kI fun r28 w28 h => ?_)
    exact jq_iret dX9_addLeg_31 hC he rfl ⟨_, rfl, h⟩
  · have h := h.2 c13
    refine jq_iconst (v := (0 : Int32)) dX9_addLeg_16 hC (by decide) ?_
    exact jq_iret dX9_addLeg_17 hC he rfl ⟨_, rfl, h⟩
theorem mt_X9_addLeg {G : Gt} {x1 : Int32} {x2 : Int32} {x3 : Int32} {x4 : Int32} {w : Wd} {Q : Int32 → Wd → Prop} (h : wp_X9_addLeg x1 x2 x3 x4 w Q) : Mt G D_X9_addLeg [.ref (aD G 0 32), .int x1, .int x2, .int x3, .int x4] w (qi Q) := Mt_of (by decide +kernel) rfl rfl (Nat.le_of_ble_eq_true rfl) (fun M Qf hC he => ok_X9_addLeg hC he h)
/-! X9.misses()I -/
theorem dX9_misses_0 : decode cX9_misses 0 = .ok (.iconst 0, 1) := by decide +kernel
theorem dX9_misses_1 : decode cX9_misses 1 = .ok (.istore_n 1, 1) := by decide +kernel
theorem dX9_misses_2 : decode cX9_misses 2 = .ok (.iconst 0, 1) := by decide +kernel
theorem dX9_misses_3 : decode cX9_misses 3 = .ok (.istore_n 2, 1) := by decide +kernel
theorem dX9_misses_4 : decode cX9_misses 4 = .ok (.iload_n 2, 1) := by decide +kernel
theorem dX9_misses_5 : decode cX9_misses 5 = .ok (.aload_n 0, 1) := by decide +kernel
theorem dX9_misses_6 : decode cX9_misses 6 = .ok (.getfield 98, 3) := by decide +kernel
theorem dX9_misses_9 : decode cX9_misses 9 = .ok (.if_icmp .ge 20, 3) := by decide +kernel
theorem dX9_misses_12 : decode cX9_misses 12 = .ok (.iload_n 1, 1) := by decide +kernel
theorem dX9_misses_13 : decode cX9_misses 13 = .ok (.aload_n 0, 1) := by decide +kernel
theorem dX9_misses_14 : decode cX9_misses 14 = .ok (.iload_n 2, 1) := by decide +kernel
theorem dX9_misses_15 : decode cX9_misses 15 = .ok (.invokevirtual 113, 3) := by decide +kernel
theorem dX9_misses_18 : decode cX9_misses 18 = .ok (.invokestatic 107, 3) := by decide +kernel
theorem dX9_misses_21 : decode cX9_misses 21 = .ok (.iadd, 1) := by decide +kernel
theorem dX9_misses_22 : decode cX9_misses 22 = .ok (.istore_n 1, 1) := by decide +kernel
theorem dX9_misses_23 : decode cX9_misses 23 = .ok (.iinc 2 1, 3) := by decide +kernel
theorem dX9_misses_26 : decode cX9_misses 26 = .ok (.goto (-22), 3) := by decide +kernel
theorem dX9_misses_29 : decode cX9_misses 29 = .ok (.iload_n 1, 1) := by decide +kernel
theorem dX9_misses_30 : decode cX9_misses 30 = .ok (.ireturn, 1) := by decide +kernel
set_option maxRecDepth 20000 in
theorem ggX9_misses_X9_size : GoodIn wsX9_misses wsX9_size := goodIn_r _ [18] (by decide +kernel) (by decide +kernel)
set_option maxRecDepth 20000 in
theorem gX9_misses_X9_size : GoodIn wsX9_misses (va_wsS RX9 107 yX9_size wsX9_size) := goodIn_app (goodIn_of _ (by decide +kernel)) ggX9_misses_X9_size
set_option maxRecDepth 20000 in
theorem ggX9_misses_X9_missOf : GoodIn wsX9_misses wsX9_missOf := goodIn_r _ [6, 7, 8, 9, 10, 5, 11, 12, 13, 14, 15, 19, 20, 21, 22, 23, 24, 25, 26, 27, 28, 29, 30, 31, 32, 33, 34, 35, 36, 37, 38, 39, 40, 41, 42, 43] (by decide +kernel) (by decide +kernel)
set_option maxRecDepth 20000 in
theorem gX9_misses_X9_missOf : GoodIn wsX9_misses (wsV RX9 113 RX9 yX9_missOf wsX9_missOf) := goodIn_app (goodIn_of _ (by decide +kernel)) ggX9_misses_X9_missOf
def D_X9_misses : Md := (yX9_misses, cX9_misses, 3, (some .int), wsX9_misses, RX9, { frames := 2, cells := 0, slots := 0, locals := 45 })
theorem nm_X9_misses : nmD D_X9_misses 0 := ⟨rfl, by decide +kernel, by decide +kernel, by decide +kernel⟩
theorem hi_X9_misses_X9 : ∀ w ∈ u_ws RX9 TX9 25, w ∈ wsX9_misses := by decide +kernel
theorem hl_X9_misses_98 : Cond.fieldLink RX9 98 "LevelLoopsModel" "manyLoops" "I" ∈ wsX9_misses := by decide +kernel
def wp_X9_misses_B4 (x1 : Int32) (x2 : Int32) (w : Wd) (Q : Int32 → Prop) (K4 : Int32 → Int32 → Prop) : Prop :=
  (((wi w 0 32 15) ≤ x2 → Q x1) ∧ (¬ (wi w 0 32 15) ≤ x2 → wp_X9_missOf x2 w (fun r15 => wp_X9_size r15 (fun r18 => K4 (x1 + r18) (x2 + 1)))))
def wp_X9_misses_L4 (x1 : Int32) (x2 : Int32) (w : Wd) (Q : Int32 → Prop) : Prop :=
  ∃ (I : Int32 → Int32 → Prop) (μ : Int32 → Int32 → Nat), I x1 x2 ∧ ∀ (x1 : Int32) (x2 : Int32), I x1 x2 → wp_X9_misses_B4 x1 x2 w Q (fun x1' x2' => I x1' x2' ∧ μ x1' x2' < μ x1 x2)
def wp_X9_misses (w : Wd) (Q : Int32 → Prop) : Prop :=
  wp_X9_misses_L4 (0 : Int32) (0 : Int32) w Q
theorem ok_X9_misses_B4 {G : Gt} {M : Mx} {Qf : State → Prop} {x1 : Int32} {x2 : Int32} {w : Wd} {Q : Int32 → Prop} {K4 : Int32 → Int32 → Prop} (hC : cx G D_X9_misses M) (he : en G M (qip w Q) Qf) (h : wp_X9_misses_B4 x1 x2 w Q K4) (hK4 : ∀ (x1 : Int32) (x2 : Int32), K4 x1 x2 → jq G D_X9_misses M Qf 4 [(0, .ref (aD G 0 32)), (1, .int x1), (2, .int x2)] [] w) : jq G D_X9_misses M Qf 4 [(0, .ref (aD G 0 32)), (1, .int x1), (2, .int x2)] [] w := by
  unfold wp_X9_misses_B4 at h
  refine jq_iload_n (k0 := 2) dX9_misses_4 hC rfl rfl ?_
  refine jq_aload_n (k0 := 0) dX9_misses_5 hC rfl rfl ?_
  refine jq_get (k0 := 15) (n := 0) (o := 32) dX9_misses_6 hC (cl_0 (by decide)) rfl rfl hi_X9_misses_X9 (by decide) hl_X9_misses_98 rfl rfl ?_
  refine jq_icmp_ge (tgt := 29) dX9_misses_9 hC (by decide) (fun c9 => ?_) (fun c9 => ?_)
  · have h := h.1 c9
    refine jq_iload_n (k0 := 1) dX9_misses_29 hC rfl rfl ?_
    exact jq_iret dX9_misses_30 hC he rfl ⟨_, rfl, rfl, h⟩
  · have h := h.2 c9
    refine jq_iload_n (k0 := 1) dX9_misses_12 hC rfl rfl ?_
    refine jq_aload_n (k0 := 0) dX9_misses_13 hC rfl rfl ?_
    refine jq_iload_n (k0 := 2) dX9_misses_14 hC rfl rfl ?_
    refine jq_callV (As := [.int x2]) (rest := [.int x1]) (n := 0) (o := 32) (D' := D_X9_missOf) dX9_misses_15 hC (cl_0 (by decide)) rfl rfl rfl (mt_X9_missOf h) gX9_misses_X9_missOf rfl ⟨rfl, rfl, Nat.le_of_ble_eq_true rfl, Nat.le_of_ble_eq_true rfl⟩ nm_X9_missOf rfl (Nat.le_of_ble_eq_true rfl) (kIp fun r15 h => ?_)
    refine jq_callS (As := [.int r15]) (rest := [.int x1]) (D' := D_X9_size) dX9_misses_18 hC (mt_X9_size h) gX9_misses_X9_size rfl ⟨rfl, rfl, Nat.le_of_ble_eq_true rfl, Nat.le_of_ble_eq_true rfl⟩ nm_X9_size rfl (Nat.le_of_ble_eq_true rfl) (kIp fun r18 h => ?_)
    refine jq_iadd dX9_misses_21 hC ?_
    refine jq_istore_n (L' := [(1, .int (x1 + r18)), (0, .ref (aD G 0 32)), (2, .int x2)]) dX9_misses_22 hC rfl (by decide) rfl ?_
    refine jq_iinc (k0 := 2) (v := (x2 + 1)) (L' := [(2, .int (x2 + 1)), (1, .int (x1 + r18)), (0, .ref (aD G 0 32))]) dX9_misses_23 hC rfl rfl (by decide) rfl ?_
    refine jq_goto (tgt := 4) dX9_misses_26 hC (by decide) ?_
    exact jq_less (L' := [(0, .ref (aD G 0 32)), (1, .int (x1 + r18)), (2, .int (x2 + 1))]) [2, 1, 0] rfl (hK4 _ _ h)
theorem ok_X9_misses_L4 {G : Gt} {M : Mx} {Qf : State → Prop} {x1 : Int32} {x2 : Int32} {w : Wd} {Q : Int32 → Prop} (hC : cx G D_X9_misses M) (he : en G M (qip w Q) Qf) (h : wp_X9_misses_L4 x1 x2 w Q) : jq G D_X9_misses M Qf 4 [(0, .ref (aD G 0 32)), (1, .int x1), (2, .int x2)] [] w := by
  unfold wp_X9_misses_L4 at h
  obtain ⟨I, μ, h0, hs⟩ := h
  exact lp_ind (σ := Int32 × Int32) (P := fun s => jq G D_X9_misses M Qf 4 [(0, .ref (aD G 0 32)), (1, .int s.1), (2, .int s.2)] [] w) (fun s => I s.1 s.2) (fun s => μ s.1 s.2) (fun s h1 ih => ok_X9_misses_B4 hC he (hs s.1 s.2 h1) (fun x1' x2' h => ih (x1', x2') h.1 h.2)) (x1, x2) h0
theorem ok_X9_misses {G : Gt} {M : Mx} {Qf : State → Prop} {w : Wd} {Q : Int32 → Prop} (hC : cx G D_X9_misses M) (he : en G M (qip w Q) Qf) (h : wp_X9_misses w Q) : jq G D_X9_misses M Qf 0 [(0, .ref (aD G 0 32))] [] w := by
  unfold wp_X9_misses at h
  refine jq_iconst (v := (0 : Int32)) dX9_misses_0 hC (by decide) ?_
  refine jq_istore_n (L' := [(1, .int (0 : Int32)), (0, .ref (aD G 0 32))]) dX9_misses_1 hC rfl (by decide) rfl ?_
  refine jq_iconst (v := (0 : Int32)) dX9_misses_2 hC (by decide) ?_
  refine jq_istore_n (L' := [(2, .int (0 : Int32)), (1, .int (0 : Int32)), (0, .ref (aD G 0 32))]) dX9_misses_3 hC rfl (by decide) rfl ?_
  refine jq_less (L' := [(0, .ref (aD G 0 32)), (1, .int (0 : Int32)), (2, .int (0 : Int32))]) [2, 1, 0] rfl ?_
  exact ok_X9_misses_L4 hC he h
theorem mt_X9_misses {G : Gt} {w : Wd} {Q : Int32 → Prop} (h : wp_X9_misses w Q) : Mt G D_X9_misses [.ref (aD G 0 32)] w (qip w Q) := Mt_of (by decide +kernel) rfl rfl (Nat.le_of_ble_eq_true rfl) (fun M Qf hC he => ok_X9_misses hC he h)
/-! X9.measure(II)I -/
theorem dX9_measure_0 : decode cX9_measure 0 = .ok (.aload_n 0, 1) := by decide +kernel
theorem dX9_measure_1 : decode cX9_measure 1 = .ok (.aload_n 0, 1) := by decide +kernel
theorem dX9_measure_2 : decode cX9_measure 2 = .ok (.iload_n 1, 1) := by decide +kernel
theorem dX9_measure_3 : decode cX9_measure 3 = .ok (.invokevirtual 180, 3) := by decide +kernel
theorem dX9_measure_6 : decode cX9_measure 6 = .ok (.ifCond .ne 7, 3) := by decide +kernel
theorem dX9_measure_9 : decode cX9_measure 9 = .ok (.iconst 1, 1) := by decide +kernel
theorem dX9_measure_10 : decode cX9_measure 10 = .ok (.goto 21, 3) := by decide +kernel
theorem dX9_measure_13 : decode cX9_measure 13 = .ok (.iload_n 2, 1) := by decide +kernel
theorem dX9_measure_14 : decode cX9_measure 14 = .ok (.sipush (-9999), 3) := by decide +kernel
theorem dX9_measure_17 : decode cX9_measure 17 = .ok (.sipush 9999, 3) := by decide +kernel
theorem dX9_measure_20 : decode cX9_measure 20 = .ok (.invokestatic 69, 3) := by decide +kernel
theorem dX9_measure_23 : decode cX9_measure 23 = .ok (.ifCond .ne 7, 3) := by decide +kernel
theorem dX9_measure_26 : decode cX9_measure 26 = .ok (.iconst 2, 1) := by decide +kernel
theorem dX9_measure_27 : decode cX9_measure 27 = .ok (.goto 4, 3) := by decide +kernel
theorem dX9_measure_30 : decode cX9_measure 30 = .ok (.iconst 0, 1) := by decide +kernel
theorem dX9_measure_31 : decode cX9_measure 31 = .ok (.invokevirtual 158, 3) := by decide +kernel
theorem dX9_measure_34 : decode cX9_measure 34 = .ok (.ifCond .ne 5, 3) := by decide +kernel
theorem dX9_measure_37 : decode cX9_measure 37 = .ok (.iconst 0, 1) := by decide +kernel
theorem dX9_measure_38 : decode cX9_measure 38 = .ok (.ireturn, 1) := by decide +kernel
theorem dX9_measure_39 : decode cX9_measure 39 = .ok (.aload_n 0, 1) := by decide +kernel
theorem dX9_measure_40 : decode cX9_measure 40 = .ok (.invokevirtual 161, 3) := by decide +kernel
theorem dX9_measure_43 : decode cX9_measure 43 = .ok (.aload_n 0, 1) := by decide +kernel
theorem dX9_measure_44 : decode cX9_measure 44 = .ok (.invokevirtual 148, 3) := by decide +kernel
theorem dX9_measure_47 : decode cX9_measure 47 = .ok (.aload_n 0, 1) := by decide +kernel
theorem dX9_measure_48 : decode cX9_measure 48 = .ok (.invokevirtual 183, 3) := by decide +kernel
theorem dX9_measure_51 : decode cX9_measure 51 = .ok (.istore_n 3, 1) := by decide +kernel
theorem dX9_measure_52 : decode cX9_measure 52 = .ok (.aload_n 0, 1) := by decide +kernel
theorem dX9_measure_53 : decode cX9_measure 53 = .ok (.getfield 7, 3) := by decide +kernel
theorem dX9_measure_56 : decode cX9_measure 56 = .ok (.iload_n 1, 1) := by decide +kernel
theorem dX9_measure_57 : decode cX9_measure 57 = .ok (.iconst 3, 1) := by decide +kernel
theorem dX9_measure_58 : decode cX9_measure 58 = .ok (.invokestatic 76, 3) := by decide +kernel
theorem dX9_measure_61 : decode cX9_measure 61 = .ok (.iload_n 2, 1) := by decide +kernel
theorem dX9_measure_62 : decode cX9_measure 62 = .ok (.iastore, 1) := by decide +kernel
theorem dX9_measure_63 : decode cX9_measure 63 = .ok (.iload_n 3, 1) := by decide +kernel
theorem dX9_measure_64 : decode cX9_measure 64 = .ok (.aload_n 0, 1) := by decide +kernel
theorem dX9_measure_65 : decode cX9_measure 65 = .ok (.invokevirtual 183, 3) := by decide +kernel
theorem dX9_measure_68 : decode cX9_measure 68 = .ok (.isub, 1) := by decide +kernel
theorem dX9_measure_69 : decode cX9_measure 69 = .ok (.ldc 187, 2) := by decide +kernel
theorem dX9_measure_71 : decode cX9_measure 71 = .ok (.iadd, 1) := by decide +kernel
theorem dX9_measure_72 : decode cX9_measure 72 = .ok (.ireturn, 1) := by decide +kernel
set_option maxRecDepth 20000 in
theorem ggX9_measure_X9_misses : GoodIn wsX9_measure wsX9_misses := goodIn_r _ [100, 57, 77, 78, 79, 6, 80, 1, 81, 82, 83, 84, 59, 38, 39, 40, 85, 86, 87, 101, 102, 103, 104, 105, 106, 107, 108, 109, 110, 111, 112, 113, 114, 115, 116, 117, 118, 119, 120, 121, 122, 123, 124, 125] (by decide +kernel) (by decide +kernel)
set_option maxRecDepth 20000 in
theorem gX9_measure_X9_misses : GoodIn wsX9_measure (wsV RX9 183 RX9 yX9_misses wsX9_misses) := goodIn_app (goodIn_of _ (by decide +kernel)) ggX9_measure_X9_misses
set_option maxRecDepth 20000 in
theorem ggX9_measure_X9_of : GoodIn wsX9_measure wsX9_of := goodIn_r _ [40] (by decide +kernel) (by decide +kernel)
set_option maxRecDepth 20000 in
theorem gX9_measure_X9_of : GoodIn wsX9_measure (va_wsS RX9 76 yX9_of wsX9_of) := goodIn_app (goodIn_of _ (by decide +kernel)) ggX9_measure_X9_of
set_option maxRecDepth 20000 in
theorem ggX9_measure_X9_layOut : GoodIn wsX9_measure wsX9_layOut := goodIn_r _ [25, 26, 27, 28, 6, 29, 1, 30, 31, 32, 33, 34, 35, 36, 37, 38, 39, 40, 41, 42, 43, 44, 45, 46, 47, 48, 49, 50, 51, 52, 53, 54, 55, 56, 57, 58, 59, 60, 61, 62, 63, 64, 65, 66, 67, 68, 69, 70, 71, 72, 73, 74, 75, 76, 77, 78, 79, 80, 81, 82, 83, 84, 85, 86, 87, 88, 89, 90, 91, 92, 93, 94, 95, 96, 101, 102, 103, 104, 105, 106, 107, 108, 109, 110, 111, 112, 113, 114, 115, 116, 117, 118, 119, 120, 121, 122, 123, 124, 125] (by decide +kernel) (by decide +kernel)
set_option maxRecDepth 20000 in
theorem gX9_measure_X9_layOut : GoodIn wsX9_measure (wsV RX9 148 RX9 yX9_layOut wsX9_layOut) := goodIn_app (goodIn_of _ (by decide +kernel)) ggX9_measure_X9_layOut
set_option maxRecDepth 20000 in
theorem ggX9_measure_X9_save : GoodIn wsX9_measure wsX9_save := goodIn_r _ [19, 20, 21, 1, 101, 102, 103, 104, 105, 106, 107, 108, 109, 110, 111, 112, 113, 114, 115, 116, 117, 118, 119, 120, 121, 122, 123, 124, 125] (by decide +kernel) (by decide +kernel)
set_option maxRecDepth 20000 in
theorem gX9_measure_X9_save : GoodIn wsX9_measure (wsV RX9 161 RX9 yX9_save wsX9_save) := goodIn_app (goodIn_of _ (by decide +kernel)) ggX9_measure_X9_save
set_option maxRecDepth 20000 in
theorem ggX9_measure_X9_holds : GoodIn wsX9_measure wsX9_holds := goodIn_r _ [14, 15, 101, 102, 103, 104, 105, 106, 107, 108, 109, 110, 111, 112, 113, 114, 115, 116, 117, 118, 119, 120, 121, 122, 123, 124, 125] (by decide +kernel) (by decide +kernel)
set_option maxRecDepth 20000 in
theorem gX9_measure_X9_holds : GoodIn wsX9_measure (wsV RX9 158 RX9 yX9_holds wsX9_holds) := goodIn_app (goodIn_of _ (by decide +kernel)) ggX9_measure_X9_holds
set_option maxRecDepth 20000 in
theorem ggX9_measure_X9_in : GoodIn wsX9_measure wsX9_in := goodIn_r _ [10] (by decide +kernel) (by decide +kernel)
set_option maxRecDepth 20000 in
theorem gX9_measure_X9_in : GoodIn wsX9_measure (va_wsS RX9 69 yX9_in wsX9_in) := goodIn_app (goodIn_of _ (by decide +kernel)) ggX9_measure_X9_in
set_option maxRecDepth 20000 in
theorem ggX9_measure_X9_isLeg : GoodIn wsX9_measure wsX9_isLeg := goodIn_r _ [7, 1, 8, 9, 6, 10, 101, 102, 103, 104, 105, 106, 107, 108, 109, 110, 111, 112, 113, 114, 115, 116, 117, 118, 119, 120, 121, 122, 123, 124, 125] (by decide +kernel) (by decide +kernel)
set_option maxRecDepth 20000 in
theorem gX9_measure_X9_isLeg : GoodIn wsX9_measure (wsV RX9 180 RX9 yX9_isLeg wsX9_isLeg) := goodIn_app (goodIn_of _ (by decide +kernel)) ggX9_measure_X9_isLeg
def D_X9_measure : Md := (yX9_measure, cX9_measure, 4, (some .int), wsX9_measure, RX9, { frames := 5, cells := 0, slots := 0, locals := 113 })
theorem nm_X9_measure : nmD D_X9_measure 2 := ⟨rfl, by decide +kernel, by decide +kernel, by decide +kernel⟩
theorem hi_X9_measure_X9 : ∀ w ∈ u_ws RX9 TX9 25, w ∈ wsX9_measure := by decide +kernel
theorem hl_X9_measure_7 : Cond.fieldLink RX9 7 "LevelLoopsModel" "s" "[I" ∈ wsX9_measure := by decide +kernel
def wp_X9_measure_J31 (x1 : Int32) (x2 : Int32) (s0 : Int32) (w : Wd) (Q : Int32 → Wd → Prop) : Prop :=
  wp_X9_holds s0 w (fun r31 w31 => ((¬ r31 = 0 → wp_X9_save w31 (fun w40 => wp_X9_layOut w40 (fun w44 => wp_X9_misses w44 (fun r48 => wp_X9_of x1 (3 : Int32) (fun r58 => vp_in r58 95 ∧ (∀ w62 : Wd, w62 = (sI w44 0 33 r58.toNatClampNeg x2) → wp_X9_misses w62 (fun r65 => Q ((r48 - r65) + (1000000 : Int32)) w62))))))) ∧ (r31 = 0 → Q (0 : Int32) w31)))
def wp_X9_measure (x1 : Int32) (x2 : Int32) (w : Wd) (Q : Int32 → Wd → Prop) : Prop :=
  wp_X9_isLeg x1 w (fun r3 => ((¬ r3 = 0 → wp_X9_in x2 (-9999 : Int32) (9999 : Int32) (fun r20 => ((¬ r20 = 0 → wp_X9_measure_J31 x1 x2 (0 : Int32) w Q) ∧ (r20 = 0 → wp_X9_measure_J31 x1 x2 (2 : Int32) w Q)))) ∧ (r3 = 0 → wp_X9_measure_J31 x1 x2 (1 : Int32) w Q)))
theorem ok_X9_measure_J31 {G : Gt} {M : Mx} {Qf : State → Prop} {x1 : Int32} {x2 : Int32} {s0 : Int32} {w : Wd} {Q : Int32 → Wd → Prop} (hC : cx G D_X9_measure M) (he : en G M (qi Q) Qf) (h : wp_X9_measure_J31 x1 x2 s0 w Q) : jq G D_X9_measure M Qf 31 [(0, .ref (aD G 0 32)), (1, .int x1), (2, .int x2)] [.int s0, .ref (aD G 0 32)] w := by
  unfold wp_X9_measure_J31 at h
  refine jq_callV (As := [.int s0]) (rest := []) (n := 0) (o := 32) (D' := D_X9_holds) dX9_measure_31 hC (cl_0 (by decide)) rfl rfl rfl (mt_X9_holds h) gX9_measure_X9_holds rfl ⟨rfl, rfl, Nat.le_of_ble_eq_true rfl, Nat.le_of_ble_eq_true rfl⟩ nm_X9_holds rfl (Nat.le_of_ble_eq_true rfl) (kI fun r31 w31 h => ?_)
  refine jq_if_ne (tgt := 39) dX9_measure_34 hC (by decide) (fun c34 => ?_) (fun c34 => ?_)
  · have h := h.1 c34
    refine jq_aload_n (k0 := 0) dX9_measure_39 hC rfl rfl ?_
    refine jq_callV (As := []) (rest := []) (n := 0) (o := 32) (D' := D_X9_save) dX9_measure_40 hC (cl_0 (by decide)) rfl rfl rfl (mt_X9_save h) gX9_measure_X9_save rfl ⟨rfl, rfl, Nat.le_of_ble_eq_true rfl, Nat.le_of_ble_eq_true rfl⟩ nm_X9_save rfl (Nat.le_of_ble_eq_true rfl) (kV fun w40 h => ?_)
    refine jq_aload_n (k0 := 0) dX9_measure_43 hC rfl rfl ?_
    refine jq_callV (As := []) (rest := []) (n := 0) (o := 32) (D' := D_X9_layOut) dX9_measure_44 hC (cl_0 (by decide)) rfl rfl rfl (mt_X9_layOut h) gX9_measure_X9_layOut rfl ⟨rfl, rfl, Nat.le_of_ble_eq_true rfl, Nat.le_of_ble_eq_true rfl⟩ nm_X9_layOut rfl (Nat.le_of_ble_eq_true rfl) (kV fun w44 h => ?_)
    refine jq_aload_n (k0 := 0) dX9_measure_47 hC rfl rfl ?_
    refine jq_callV (As := []) (rest := []) (n := 0) (o := 32) (D' := D_X9_misses) dX9_measure_48 hC (cl_0 (by decide)) rfl rfl rfl (mt_X9_misses h) gX9_measure_X9_misses rfl ⟨rfl, rfl, Nat.le_of_ble_eq_true rfl, Nat.le_of_ble_eq_true rfl⟩ nm_X9_misses rfl (Nat.le_of_ble_eq_true rfl) (kIp fun r48 h => ?_)
    refine jq_istore_n (L' := [(3, .int r48), (0, .ref (aD G 0 32)), (1, .int x1), (2, .int x2)]) dX9_measure_51 hC rfl (by decide) rfl ?_
    refine jq_aload_n (k0 := 1) dX9_measure_52 hC rfl rfl ?_
    refine jq_get (k0 := 1) (n := 0) (o := 32) dX9_measure_53 hC (cl_0 (by decide)) rfl rfl hi_X9_measure_X9 (by decide) hl_X9_measure_7 rfl rfl ?_
    refine jq_iload_n (k0 := 2) dX9_measure_56 hC rfl rfl ?_
    refine jq_iconst (v := (3 : Int32)) dX9_measure_57 hC (by decide) ?_
    refine jq_callS (As := [.int x1, .int (3 : Int32)]) (rest := [.ref (aD G 0 33)]) (D' := D_X9_of) dX9_measure_58 hC (mt_X9_of h) gX9_measure_X9_of rfl ⟨rfl, rfl, Nat.le_of_ble_eq_true rfl, Nat.le_of_ble_eq_true rfl⟩ nm_X9_of rfl (Nat.le_of_ble_eq_true rfl) (kIp fun r58 h => ?_)
    refine jq_iload_n (k0 := 3) dX9_measure_61 hC rfl rfl ?_
    obtain ⟨b62, h⟩ := h
    refine jq_iast (n := 0) (o := 33) (j := r58.toNatClampNeg) dX9_measure_62 hC (cl_0 (by decide)) (fun _ => rfl) b62 rfl ?_
    refine jq_w (fun w62 e62 => ?_)
    have h := h w62 e62
    refine jq_iload_n (k0 := 0) dX9_measure_63 hC rfl rfl ?_
    refine jq_aload_n (k0 := 1) dX9_measure_64 hC rfl rfl ?_
    refine jq_callV (As := []) (rest := [.int r48]) (n := 0) (o := 32) (D' := D_X9_misses) dX9_measure_65 hC (cl_0 (by decide)) rfl rfl rfl (mt_X9_misses h) gX9_measure_X9_misses rfl ⟨rfl, rfl, Nat.le_of_ble_eq_true rfl, Nat.le_of_ble_eq_true rfl⟩ nm_X9_misses rfl (Nat.le_of_ble_eq_true rfl) (kIp fun r65 h => ?_)
    refine jq_isub dX9_measure_68 hC ?_
    refine jq_ldc (v := (1000000 : Int32)) dX9_measure_69 hC (by decide +kernel) ?_
    refine jq_iadd dX9_measure_71 hC ?_
    exact jq_iret dX9_measure_72 hC he rfl ⟨_, rfl, h⟩
  · have h := h.2 c34
    refine jq_iconst (v := (0 : Int32)) dX9_measure_37 hC (by decide) ?_
    exact jq_iret dX9_measure_38 hC he rfl ⟨_, rfl, h⟩
theorem ok_X9_measure {G : Gt} {M : Mx} {Qf : State → Prop} {x1 : Int32} {x2 : Int32} {w : Wd} {Q : Int32 → Wd → Prop} (hC : cx G D_X9_measure M) (he : en G M (qi Q) Qf) (h : wp_X9_measure x1 x2 w Q) : jq G D_X9_measure M Qf 0 [(0, .ref (aD G 0 32)), (1, .int x1), (2, .int x2)] [] w := by
  unfold wp_X9_measure at h
  refine jq_aload_n (k0 := 0) dX9_measure_0 hC rfl rfl ?_
  refine jq_aload_n (k0 := 0) dX9_measure_1 hC rfl rfl ?_
  refine jq_iload_n (k0 := 1) dX9_measure_2 hC rfl rfl ?_
  refine jq_callV (As := [.int x1]) (rest := [.ref (aD G 0 32)]) (n := 0) (o := 32) (D' := D_X9_isLeg) dX9_measure_3 hC (cl_0 (by decide)) rfl rfl rfl (mt_X9_isLeg h) gX9_measure_X9_isLeg rfl ⟨rfl, rfl, Nat.le_of_ble_eq_true rfl, Nat.le_of_ble_eq_true rfl⟩ nm_X9_isLeg rfl (Nat.le_of_ble_eq_true rfl) (kIp fun r3 h => ?_)
  refine jq_if_ne (tgt := 13) dX9_measure_6 hC (by decide) (fun c6 => ?_) (fun c6 => ?_)
  · have h := h.1 c6
    refine jq_iload_n (k0 := 2) dX9_measure_13 hC rfl rfl ?_
    refine jq_sipush (v := (-9999 : Int32)) dX9_measure_14 hC (by decide) ?_
    refine jq_sipush (v := (9999 : Int32)) dX9_measure_17 hC (by decide) ?_
    refine jq_callS (As := [.int x2, .int (-9999 : Int32), .int (9999 : Int32)]) (rest := [.ref (aD G 0 32)]) (D' := D_X9_in) dX9_measure_20 hC (mt_X9_in h) gX9_measure_X9_in rfl ⟨rfl, rfl, Nat.le_of_ble_eq_true rfl, Nat.le_of_ble_eq_true rfl⟩ nm_X9_in rfl (Nat.le_of_ble_eq_true rfl) (kIp fun r20 h => ?_)
    refine jq_if_ne (tgt := 30) dX9_measure_23 hC (by decide) (fun c23 => ?_) (fun c23 => ?_)
    · have h := h.1 c23
      refine jq_iconst (v := (0 : Int32)) dX9_measure_30 hC (by decide) ?_
      refine jq_less (L' := [(0, .ref (aD G 0 32)), (1, .int x1), (2, .int x2)]) [0, 1, 2] rfl ?_
      exact ok_X9_measure_J31 hC he h
    · have h := h.2 c23
      refine jq_iconst (v := (2 : Int32)) dX9_measure_26 hC (by decide) ?_
      refine jq_goto (tgt := 31) dX9_measure_27 hC (by decide) ?_
      refine jq_less (L' := [(0, .ref (aD G 0 32)), (1, .int x1), (2, .int x2)]) [0, 1, 2] rfl ?_
      exact ok_X9_measure_J31 hC he h
  · have h := h.2 c6
    refine jq_iconst (v := (1 : Int32)) dX9_measure_9 hC (by decide) ?_
    refine jq_goto (tgt := 31) dX9_measure_10 hC (by decide) ?_
    refine jq_less (L' := [(0, .ref (aD G 0 32)), (1, .int x1), (2, .int x2)]) [0, 1, 2] rfl ?_
    exact ok_X9_measure_J31 hC he h
theorem mt_X9_measure {G : Gt} {x1 : Int32} {x2 : Int32} {w : Wd} {Q : Int32 → Wd → Prop} (h : wp_X9_measure x1 x2 w Q) : Mt G D_X9_measure [.ref (aD G 0 32), .int x1, .int x2] w (qi Q) := Mt_of (by decide +kernel) rfl rfl (Nat.le_of_ble_eq_true rfl) (fun M Qf hC he => ok_X9_measure hC he h)
/-! X9.turn(I)I -/
theorem dX9_turn_0 : decode cX9_turn 0 = .ok (.aload_n 0, 1) := by decide +kernel
theorem dX9_turn_1 : decode cX9_turn 1 = .ok (.aload_n 0, 1) := by decide +kernel
theorem dX9_turn_2 : decode cX9_turn 2 = .ok (.iload_n 1, 1) := by decide +kernel
theorem dX9_turn_3 : decode cX9_turn 3 = .ok (.invokevirtual 180, 3) := by decide +kernel
theorem dX9_turn_6 : decode cX9_turn 6 = .ok (.ifCond .eq 7, 3) := by decide +kernel
theorem dX9_turn_9 : decode cX9_turn 9 = .ok (.iconst 0, 1) := by decide +kernel
theorem dX9_turn_10 : decode cX9_turn 10 = .ok (.goto 4, 3) := by decide +kernel
theorem dX9_turn_13 : decode cX9_turn 13 = .ok (.iconst 1, 1) := by decide +kernel
theorem dX9_turn_14 : decode cX9_turn 14 = .ok (.invokevirtual 158, 3) := by decide +kernel
theorem dX9_turn_17 : decode cX9_turn 17 = .ok (.ifCond .ne 5, 3) := by decide +kernel
theorem dX9_turn_20 : decode cX9_turn 20 = .ok (.iconst 0, 1) := by decide +kernel
theorem dX9_turn_21 : decode cX9_turn 21 = .ok (.ireturn, 1) := by decide +kernel
theorem dX9_turn_22 : decode cX9_turn 22 = .ok (.aload_n 0, 1) := by decide +kernel
theorem dX9_turn_23 : decode cX9_turn 23 = .ok (.invokevirtual 161, 3) := by decide +kernel
theorem dX9_turn_26 : decode cX9_turn 26 = .ok (.aload_n 0, 1) := by decide +kernel
theorem dX9_turn_27 : decode cX9_turn 27 = .ok (.getfield 7, 3) := by decide +kernel
theorem dX9_turn_30 : decode cX9_turn 30 = .ok (.iload_n 1, 1) := by decide +kernel
theorem dX9_turn_31 : decode cX9_turn 31 = .ok (.iconst 0, 1) := by decide +kernel
theorem dX9_turn_32 : decode cX9_turn 32 = .ok (.invokestatic 76, 3) := by decide +kernel
theorem dX9_turn_35 : decode cX9_turn 35 = .ok (.iaload, 1) := by decide +kernel
theorem dX9_turn_36 : decode cX9_turn 36 = .ok (.istore_n 2, 1) := by decide +kernel
theorem dX9_turn_37 : decode cX9_turn 37 = .ok (.aload_n 0, 1) := by decide +kernel
theorem dX9_turn_38 : decode cX9_turn 38 = .ok (.getfield 7, 3) := by decide +kernel
theorem dX9_turn_41 : decode cX9_turn 41 = .ok (.iload_n 1, 1) := by decide +kernel
theorem dX9_turn_42 : decode cX9_turn 42 = .ok (.iconst 0, 1) := by decide +kernel
theorem dX9_turn_43 : decode cX9_turn 43 = .ok (.invokestatic 76, 3) := by decide +kernel
theorem dX9_turn_46 : decode cX9_turn 46 = .ok (.aload_n 0, 1) := by decide +kernel
theorem dX9_turn_47 : decode cX9_turn 47 = .ok (.getfield 7, 3) := by decide +kernel
theorem dX9_turn_50 : decode cX9_turn 50 = .ok (.iload_n 1, 1) := by decide +kernel
theorem dX9_turn_51 : decode cX9_turn 51 = .ok (.iconst 1, 1) := by decide +kernel
theorem dX9_turn_52 : decode cX9_turn 52 = .ok (.invokestatic 76, 3) := by decide +kernel
theorem dX9_turn_55 : decode cX9_turn 55 = .ok (.iaload, 1) := by decide +kernel
theorem dX9_turn_56 : decode cX9_turn 56 = .ok (.iastore, 1) := by decide +kernel
theorem dX9_turn_57 : decode cX9_turn 57 = .ok (.aload_n 0, 1) := by decide +kernel
theorem dX9_turn_58 : decode cX9_turn 58 = .ok (.getfield 7, 3) := by decide +kernel
theorem dX9_turn_61 : decode cX9_turn 61 = .ok (.iload_n 1, 1) := by decide +kernel
theorem dX9_turn_62 : decode cX9_turn 62 = .ok (.iconst 1, 1) := by decide +kernel
theorem dX9_turn_63 : decode cX9_turn 63 = .ok (.invokestatic 76, 3) := by decide +kernel
theorem dX9_turn_66 : decode cX9_turn 66 = .ok (.iload_n 2, 1) := by decide +kernel
theorem dX9_turn_67 : decode cX9_turn 67 = .ok (.iastore, 1) := by decide +kernel
theorem dX9_turn_68 : decode cX9_turn 68 = .ok (.aload_n 0, 1) := by decide +kernel
theorem dX9_turn_69 : decode cX9_turn 69 = .ok (.getfield 7, 3) := by decide +kernel
theorem dX9_turn_72 : decode cX9_turn 72 = .ok (.iload_n 1, 1) := by decide +kernel
theorem dX9_turn_73 : decode cX9_turn 73 = .ok (.iconst 3, 1) := by decide +kernel
theorem dX9_turn_74 : decode cX9_turn 74 = .ok (.invokestatic 76, 3) := by decide +kernel
theorem dX9_turn_77 : decode cX9_turn 77 = .ok (.aload_n 0, 1) := by decide +kernel
theorem dX9_turn_78 : decode cX9_turn 78 = .ok (.getfield 7, 3) := by decide +kernel
theorem dX9_turn_81 : decode cX9_turn 81 = .ok (.iload_n 1, 1) := by decide +kernel
theorem dX9_turn_82 : decode cX9_turn 82 = .ok (.iconst 3, 1) := by decide +kernel
theorem dX9_turn_83 : decode cX9_turn 83 = .ok (.invokestatic 76, 3) := by decide +kernel
theorem dX9_turn_86 : decode cX9_turn 86 = .ok (.iaload, 1) := by decide +kernel
theorem dX9_turn_87 : decode cX9_turn 87 = .ok (.ineg, 1) := by decide +kernel
theorem dX9_turn_88 : decode cX9_turn 88 = .ok (.iastore, 1) := by decide +kernel
theorem dX9_turn_89 : decode cX9_turn 89 = .ok (.aload_n 0, 1) := by decide +kernel
theorem dX9_turn_90 : decode cX9_turn 90 = .ok (.getfield 7, 3) := by decide +kernel
theorem dX9_turn_93 : decode cX9_turn 93 = .ok (.iload_n 1, 1) := by decide +kernel
theorem dX9_turn_94 : decode cX9_turn 94 = .ok (.iconst 0, 1) := by decide +kernel
theorem dX9_turn_95 : decode cX9_turn 95 = .ok (.invokestatic 76, 3) := by decide +kernel
theorem dX9_turn_98 : decode cX9_turn 98 = .ok (.iaload, 1) := by decide +kernel
theorem dX9_turn_99 : decode cX9_turn 99 = .ok (.ireturn, 1) := by decide +kernel
set_option maxRecDepth 20000 in
theorem ggX9_turn_X9_of : GoodIn wsX9_turn wsX9_of := goodIn_r _ [23] (by decide +kernel) (by decide +kernel)
set_option maxRecDepth 20000 in
theorem gX9_turn_X9_of : GoodIn wsX9_turn (va_wsS RX9 76 yX9_of wsX9_of) := goodIn_app (goodIn_of _ (by decide +kernel)) ggX9_turn_X9_of
set_option maxRecDepth 20000 in
theorem ggX9_turn_X9_save : GoodIn wsX9_turn wsX9_save := goodIn_r _ [18, 19, 20, 1, 24, 25, 26, 27, 28, 29, 30, 31, 32, 33, 34, 35, 36, 37, 38, 39, 40, 41, 42, 43, 44, 45, 46, 47, 48] (by decide +kernel) (by decide +kernel)
set_option maxRecDepth 20000 in
theorem gX9_turn_X9_save : GoodIn wsX9_turn (wsV RX9 161 RX9 yX9_save wsX9_save) := goodIn_app (goodIn_of _ (by decide +kernel)) ggX9_turn_X9_save
set_option maxRecDepth 20000 in
theorem ggX9_turn_X9_holds : GoodIn wsX9_turn wsX9_holds := goodIn_r _ [13, 14, 24, 25, 26, 27, 28, 29, 30, 31, 32, 33, 34, 35, 36, 37, 38, 39, 40, 41, 42, 43, 44, 45, 46, 47, 48] (by decide +kernel) (by decide +kernel)
set_option maxRecDepth 20000 in
theorem gX9_turn_X9_holds : GoodIn wsX9_turn (wsV RX9 158 RX9 yX9_holds wsX9_holds) := goodIn_app (goodIn_of _ (by decide +kernel)) ggX9_turn_X9_holds
set_option maxRecDepth 20000 in
theorem ggX9_turn_X9_isLeg : GoodIn wsX9_turn wsX9_isLeg := goodIn_r _ [6, 1, 7, 8, 5, 9, 24, 25, 26, 27, 28, 29, 30, 31, 32, 33, 34, 35, 36, 37, 38, 39, 40, 41, 42, 43, 44, 45, 46, 47, 48] (by decide +kernel) (by decide +kernel)
set_option maxRecDepth 20000 in
theorem gX9_turn_X9_isLeg : GoodIn wsX9_turn (wsV RX9 180 RX9 yX9_isLeg wsX9_isLeg) := goodIn_app (goodIn_of _ (by decide +kernel)) ggX9_turn_X9_isLeg
def D_X9_turn : Md := (yX9_turn, cX9_turn, 3, (some .int), wsX9_turn, RX9, { frames := 2, cells := 0, slots := 0, locals := 43 })
theorem nm_X9_turn : nmD D_X9_turn 1 := ⟨rfl, by decide +kernel, by decide +kernel, by decide +kernel⟩
theorem hi_X9_turn_X9 : ∀ w ∈ u_ws RX9 TX9 25, w ∈ wsX9_turn := by decide +kernel
theorem hl_X9_turn_7 : Cond.fieldLink RX9 7 "LevelLoopsModel" "s" "[I" ∈ wsX9_turn := by decide +kernel
def wp_X9_turn_J14 (x1 : Int32) (s0 : Int32) (w : Wd) (Q : Int32 → Wd → Prop) : Prop :=
  wp_X9_holds s0 w (fun r14 w14 => ((¬ r14 = 0 → wp_X9_save w14 (fun w23 => wp_X9_of x1 (0 : Int32) (fun r32 => vp_in r32 95 ∧ wp_X9_of x1 (0 : Int32) (fun r43 => wp_X9_of x1 (1 : Int32) (fun r52 => vp_in r52 95 ∧ vp_in r43 95 ∧ (∀ w56 : Wd, w56 = (sI w23 0 33 r43.toNatClampNeg (wi w23 0 33 r52.toNatClampNeg)) → wp_X9_of x1 (1 : Int32) (fun r63 => vp_in r63 95 ∧ (∀ w67 : Wd, w67 = (sI w56 0 33 r63.toNatClampNeg (wi w23 0 33 r32.toNatClampNeg)) → wp_X9_of x1 (3 : Int32) (fun r74 => wp_X9_of x1 (3 : Int32) (fun r83 => vp_in r83 95 ∧ vp_in r74 95 ∧ (∀ w88 : Wd, w88 = (sI w67 0 33 r74.toNatClampNeg (-(wi w67 0 33 r83.toNatClampNeg))) → wp_X9_of x1 (0 : Int32) (fun r95 => vp_in r95 95 ∧ Q (wi w88 0 33 r95.toNatClampNeg) w88)))))))))))) ∧ (r14 = 0 → Q (0 : Int32) w14)))
def wp_X9_turn (x1 : Int32) (w : Wd) (Q : Int32 → Wd → Prop) : Prop :=
  wp_X9_isLeg x1 w (fun r3 => ((r3 = 0 → wp_X9_turn_J14 x1 (1 : Int32) w Q) ∧ (¬ r3 = 0 → wp_X9_turn_J14 x1 (0 : Int32) w Q)))
theorem ok_X9_turn_J14 {G : Gt} {M : Mx} {Qf : State → Prop} {x1 : Int32} {s0 : Int32} {w : Wd} {Q : Int32 → Wd → Prop} (hC : cx G D_X9_turn M) (he : en G M (qi Q) Qf) (h : wp_X9_turn_J14 x1 s0 w Q) : jq G D_X9_turn M Qf 14 [(0, .ref (aD G 0 32)), (1, .int x1)] [.int s0, .ref (aD G 0 32)] w := by
  unfold wp_X9_turn_J14 at h
  refine jq_callV (As := [.int s0]) (rest := []) (n := 0) (o := 32) (D' := D_X9_holds) dX9_turn_14 hC (cl_0 (by decide)) rfl rfl rfl (mt_X9_holds h) gX9_turn_X9_holds rfl ⟨rfl, rfl, Nat.le_of_ble_eq_true rfl, Nat.le_of_ble_eq_true rfl⟩ nm_X9_holds rfl (Nat.le_of_ble_eq_true rfl) (kI fun r14 w14 h => ?_)
  refine jq_if_ne (tgt := 22) dX9_turn_17 hC (by decide) (fun c17 => ?_) (fun c17 => ?_)
  · have h := h.1 c17
    refine jq_aload_n (k0 := 0) dX9_turn_22 hC rfl rfl ?_
    refine jq_callV (As := []) (rest := []) (n := 0) (o := 32) (D' := D_X9_save) dX9_turn_23 hC (cl_0 (by decide)) rfl rfl rfl (mt_X9_save h) gX9_turn_X9_save rfl ⟨rfl, rfl, Nat.le_of_ble_eq_true rfl, Nat.le_of_ble_eq_true rfl⟩ nm_X9_save rfl (Nat.le_of_ble_eq_true rfl) (kV fun w23 h => ?_)
    refine jq_aload_n (k0 := 0) dX9_turn_26 hC rfl rfl ?_
    refine jq_get (k0 := 1) (n := 0) (o := 32) dX9_turn_27 hC (cl_0 (by decide)) rfl rfl hi_X9_turn_X9 (by decide) hl_X9_turn_7 rfl rfl ?_
    refine jq_iload_n (k0 := 1) dX9_turn_30 hC rfl rfl ?_
    refine jq_iconst (v := (0 : Int32)) dX9_turn_31 hC (by decide) ?_
    refine jq_callS (As := [.int x1, .int (0 : Int32)]) (rest := [.ref (aD G 0 33)]) (D' := D_X9_of) dX9_turn_32 hC (mt_X9_of h) gX9_turn_X9_of rfl ⟨rfl, rfl, Nat.le_of_ble_eq_true rfl, Nat.le_of_ble_eq_true rfl⟩ nm_X9_of rfl (Nat.le_of_ble_eq_true rfl) (kIp fun r32 h => ?_)
    obtain ⟨b35, h⟩ := h
    refine jq_iald (n := 0) (o := 33) (j := r32.toNatClampNeg) dX9_turn_35 hC (cl_0 (by decide)) rfl b35 rfl ?_
    refine jq_istore_n (L' := [(2, .int (wi w23 0 33 r32.toNatClampNeg)), (0, .ref (aD G 0 32)), (1, .int x1)]) dX9_turn_36 hC rfl (by decide) rfl ?_
    refine jq_aload_n (k0 := 1) dX9_turn_37 hC rfl rfl ?_
    refine jq_get (k0 := 1) (n := 0) (o := 32) dX9_turn_38 hC (cl_0 (by decide)) rfl rfl hi_X9_turn_X9 (by decide) hl_X9_turn_7 rfl rfl ?_
    refine jq_iload_n (k0 := 2) dX9_turn_41 hC rfl rfl ?_
    refine jq_iconst (v := (0 : Int32)) dX9_turn_42 hC (by decide) ?_
    refine jq_callS (As := [.int x1, .int (0 : Int32)]) (rest := [.ref (aD G 0 33)]) (D' := D_X9_of) dX9_turn_43 hC (mt_X9_of h) gX9_turn_X9_of rfl ⟨rfl, rfl, Nat.le_of_ble_eq_true rfl, Nat.le_of_ble_eq_true rfl⟩ nm_X9_of rfl (Nat.le_of_ble_eq_true rfl) (kIp fun r43 h => ?_)
    refine jq_aload_n (k0 := 1) dX9_turn_46 hC rfl rfl ?_
    refine jq_get (k0 := 1) (n := 0) (o := 32) dX9_turn_47 hC (cl_0 (by decide)) rfl rfl hi_X9_turn_X9 (by decide) hl_X9_turn_7 rfl rfl ?_
    refine jq_iload_n (k0 := 2) dX9_turn_50 hC rfl rfl ?_
    refine jq_iconst (v := (1 : Int32)) dX9_turn_51 hC (by decide) ?_
    refine jq_callS (As := [.int x1, .int (1 : Int32)]) (rest := [.ref (aD G 0 33), .int r43, .ref (aD G 0 33)]) (D' := D_X9_of) dX9_turn_52 hC (mt_X9_of h) gX9_turn_X9_of rfl ⟨rfl, rfl, Nat.le_of_ble_eq_true rfl, Nat.le_of_ble_eq_true rfl⟩ nm_X9_of rfl (Nat.le_of_ble_eq_true rfl) (kIp fun r52 h => ?_)
    obtain ⟨b55, h⟩ := h
    refine jq_iald (n := 0) (o := 33) (j := r52.toNatClampNeg) dX9_turn_55 hC (cl_0 (by decide)) rfl b55 rfl ?_
    obtain ⟨b56, h⟩ := h
    refine jq_iast (n := 0) (o := 33) (j := r43.toNatClampNeg) dX9_turn_56 hC (cl_0 (by decide)) (fun _ => rfl) b56 rfl ?_
    refine jq_w (fun w56 e56 => ?_)
    have h := h w56 e56
    refine jq_aload_n (k0 := 1) dX9_turn_57 hC rfl rfl ?_
    refine jq_get (k0 := 1) (n := 0) (o := 32) dX9_turn_58 hC (cl_0 (by decide)) rfl rfl hi_X9_turn_X9 (by decide) hl_X9_turn_7 rfl rfl ?_
    refine jq_iload_n (k0 := 2) dX9_turn_61 hC rfl rfl ?_
    refine jq_iconst (v := (1 : Int32)) dX9_turn_62 hC (by decide) ?_
    refine jq_callS (As := [.int x1, .int (1 : Int32)]) (rest := [.ref (aD G 0 33)]) (D' := D_X9_of) dX9_turn_63 hC (mt_X9_of h) gX9_turn_X9_of rfl ⟨rfl, rfl, Nat.le_of_ble_eq_true rfl, Nat.le_of_ble_eq_true rfl⟩ nm_X9_of rfl (Nat.le_of_ble_eq_true rfl) (kIp fun r63 h => ?_)
    refine jq_iload_n (k0 := 0) dX9_turn_66 hC rfl rfl ?_
    obtain ⟨b67, h⟩ := h
    refine jq_iast (n := 0) (o := 33) (j := r63.toNatClampNeg) dX9_turn_67 hC (cl_0 (by decide)) (fun _ => rfl) b67 rfl ?_
    refine jq_w (fun w67 e67 => ?_)
    have h := h w67 e67
    refine jq_aload_n (k0 := 1) dX9_turn_68 hC rfl rfl ?_
    refine jq_get (k0 := 1) (n := 0) (o := 32) dX9_turn_69 hC (cl_0 (by decide)) rfl rfl hi_X9_turn_X9 (by decide) hl_X9_turn_7 rfl rfl ?_
    refine jq_iload_n (k0 := 2) dX9_turn_72 hC rfl rfl ?_
    refine jq_iconst (v := (3 : Int32)) dX9_turn_73 hC (by decide) ?_
    refine jq_callS (As := [.int x1, .int (3 : Int32)]) (rest := [.ref (aD G 0 33)]) (D' := D_X9_of) dX9_turn_74 hC (mt_X9_of h) gX9_turn_X9_of rfl ⟨rfl, rfl, Nat.le_of_ble_eq_true rfl, Nat.le_of_ble_eq_true rfl⟩ nm_X9_of rfl (Nat.le_of_ble_eq_true rfl) (kIp fun r74 h => ?_)
    refine jq_aload_n (k0 := 1) dX9_turn_77 hC rfl rfl ?_
    refine jq_get (k0 := 1) (n := 0) (o := 32) dX9_turn_78 hC (cl_0 (by decide)) rfl rfl hi_X9_turn_X9 (by decide) hl_X9_turn_7 rfl rfl ?_
    refine jq_iload_n (k0 := 2) dX9_turn_81 hC rfl rfl ?_
    refine jq_iconst (v := (3 : Int32)) dX9_turn_82 hC (by decide) ?_
    refine jq_callS (As := [.int x1, .int (3 : Int32)]) (rest := [.ref (aD G 0 33), .int r74, .ref (aD G 0 33)]) (D' := D_X9_of) dX9_turn_83 hC (mt_X9_of h) gX9_turn_X9_of rfl ⟨rfl, rfl, Nat.le_of_ble_eq_true rfl, Nat.le_of_ble_eq_true rfl⟩ nm_X9_of rfl (Nat.le_of_ble_eq_true rfl) (kIp fun r83 h => ?_)
    obtain ⟨b86, h⟩ := h
    refine jq_iald (n := 0) (o := 33) (j := r83.toNatClampNeg) dX9_turn_86 hC (cl_0 (by decide)) rfl b86 rfl ?_
    refine jq_ineg dX9_turn_87 hC ?_
    obtain ⟨b88, h⟩ := h
    refine jq_iast (n := 0) (o := 33) (j := r74.toNatClampNeg) dX9_turn_88 hC (cl_0 (by decide)) (fun _ => rfl) b88 rfl ?_
    refine jq_w (fun w88 e88 => ?_)
    have h := h w88 e88
    refine jq_aload_n (k0 := 1) dX9_turn_89 hC rfl rfl ?_
    refine jq_get (k0 := 1) (n := 0) (o := 32) dX9_turn_90 hC (cl_0 (by decide)) rfl rfl hi_X9_turn_X9 (by decide) hl_X9_turn_7 rfl rfl ?_
    refine jq_iload_n (k0 := 2) dX9_turn_93 hC rfl rfl ?_
    refine jq_iconst (v := (0 : Int32)) dX9_turn_94 hC (by decide) ?_
    refine jq_callS (As := [.int x1, .int (0 : Int32)]) (rest := [.ref (aD G 0 33)]) (D' := D_X9_of) dX9_turn_95 hC (mt_X9_of h) gX9_turn_X9_of rfl ⟨rfl, rfl, Nat.le_of_ble_eq_true rfl, Nat.le_of_ble_eq_true rfl⟩ nm_X9_of rfl (Nat.le_of_ble_eq_true rfl) (kIp fun r95 h => ?_)
    obtain ⟨b98, h⟩ := h
    refine jq_iald (n := 0) (o := 33) (j := r95.toNatClampNeg) dX9_turn_98 hC (cl_0 (by decide)) rfl b98 rfl ?_
    exact jq_iret dX9_turn_99 hC he rfl ⟨_, rfl, h⟩
  · have h := h.2 c17
    refine jq_iconst (v := (0 : Int32)) dX9_turn_20 hC (by decide) ?_
    exact jq_iret dX9_turn_21 hC he rfl ⟨_, rfl, h⟩
theorem ok_X9_turn {G : Gt} {M : Mx} {Qf : State → Prop} {x1 : Int32} {w : Wd} {Q : Int32 → Wd → Prop} (hC : cx G D_X9_turn M) (he : en G M (qi Q) Qf) (h : wp_X9_turn x1 w Q) : jq G D_X9_turn M Qf 0 [(0, .ref (aD G 0 32)), (1, .int x1)] [] w := by
  unfold wp_X9_turn at h
  refine jq_aload_n (k0 := 0) dX9_turn_0 hC rfl rfl ?_
  refine jq_aload_n (k0 := 0) dX9_turn_1 hC rfl rfl ?_
  refine jq_iload_n (k0 := 1) dX9_turn_2 hC rfl rfl ?_
  refine jq_callV (As := [.int x1]) (rest := [.ref (aD G 0 32)]) (n := 0) (o := 32) (D' := D_X9_isLeg) dX9_turn_3 hC (cl_0 (by decide)) rfl rfl rfl (mt_X9_isLeg h) gX9_turn_X9_isLeg rfl ⟨rfl, rfl, Nat.le_of_ble_eq_true rfl, Nat.le_of_ble_eq_true rfl⟩ nm_X9_isLeg rfl (Nat.le_of_ble_eq_true rfl) (kIp fun r3 h => ?_)
  refine jq_if_eq (tgt := 13) dX9_turn_6 hC (by decide) (fun c6 => ?_) (fun c6 => ?_)
  · have h := h.1 c6
    refine jq_iconst (v := (1 : Int32)) dX9_turn_13 hC (by decide) ?_
    refine jq_less (L' := [(0, .ref (aD G 0 32)), (1, .int x1)]) [0, 1] rfl ?_
    exact ok_X9_turn_J14 hC he h
  · have h := h.2 c6
    refine jq_iconst (v := (0 : Int32)) dX9_turn_9 hC (by decide) ?_
    refine jq_goto (tgt := 14) dX9_turn_10 hC (by decide) ?_
    refine jq_less (L' := [(0, .ref (aD G 0 32)), (1, .int x1)]) [0, 1] rfl ?_
    exact ok_X9_turn_J14 hC he h
theorem mt_X9_turn {G : Gt} {x1 : Int32} {w : Wd} {Q : Int32 → Wd → Prop} (h : wp_X9_turn x1 w Q) : Mt G D_X9_turn [.ref (aD G 0 32), .int x1] w (qi Q) := Mt_of (by decide +kernel) rfl rfl (Nat.le_of_ble_eq_true rfl) (fun M Qf hC he => ok_X9_turn hC he h)
/-! X9.remove(I)V -/
theorem dX9_remove_0 : decode cX9_remove 0 = .ok (.iload_n 1, 1) := by decide +kernel
theorem dX9_remove_1 : decode cX9_remove 1 = .ok (.iconst 0, 1) := by decide +kernel
theorem dX9_remove_2 : decode cX9_remove 2 = .ok (.invokestatic 76, 3) := by decide +kernel
theorem dX9_remove_5 : decode cX9_remove 5 = .ok (.istore_n 2, 1) := by decide +kernel
theorem dX9_remove_6 : decode cX9_remove 6 = .ok (.iload_n 2, 1) := by decide +kernel
theorem dX9_remove_7 : decode cX9_remove 7 = .ok (.aload_n 0, 1) := by decide +kernel
theorem dX9_remove_8 : decode cX9_remove 8 = .ok (.getfield 7, 3) := by decide +kernel
theorem dX9_remove_11 : decode cX9_remove 11 = .ok (.bipush 11, 2) := by decide +kernel
theorem dX9_remove_13 : decode cX9_remove 13 = .ok (.iaload, 1) := by decide +kernel
theorem dX9_remove_14 : decode cX9_remove 14 = .ok (.iconst 1, 1) := by decide +kernel
theorem dX9_remove_15 : decode cX9_remove 15 = .ok (.isub, 1) := by decide +kernel
theorem dX9_remove_16 : decode cX9_remove 16 = .ok (.iconst 0, 1) := by decide +kernel
theorem dX9_remove_17 : decode cX9_remove 17 = .ok (.invokestatic 76, 3) := by decide +kernel
theorem dX9_remove_20 : decode cX9_remove 20 = .ok (.if_icmp .ge 23, 3) := by decide +kernel
theorem dX9_remove_23 : decode cX9_remove 23 = .ok (.aload_n 0, 1) := by decide +kernel
theorem dX9_remove_24 : decode cX9_remove 24 = .ok (.getfield 7, 3) := by decide +kernel
theorem dX9_remove_27 : decode cX9_remove 27 = .ok (.iload_n 2, 1) := by decide +kernel
theorem dX9_remove_28 : decode cX9_remove 28 = .ok (.aload_n 0, 1) := by decide +kernel
theorem dX9_remove_29 : decode cX9_remove 29 = .ok (.getfield 7, 3) := by decide +kernel
theorem dX9_remove_32 : decode cX9_remove 32 = .ok (.iload_n 2, 1) := by decide +kernel
theorem dX9_remove_33 : decode cX9_remove 33 = .ok (.iconst 4, 1) := by decide +kernel
theorem dX9_remove_34 : decode cX9_remove 34 = .ok (.iadd, 1) := by decide +kernel
theorem dX9_remove_35 : decode cX9_remove 35 = .ok (.iaload, 1) := by decide +kernel
theorem dX9_remove_36 : decode cX9_remove 36 = .ok (.iastore, 1) := by decide +kernel
theorem dX9_remove_37 : decode cX9_remove 37 = .ok (.iinc 2 1, 3) := by decide +kernel
theorem dX9_remove_40 : decode cX9_remove 40 = .ok (.goto (-34), 3) := by decide +kernel
theorem dX9_remove_43 : decode cX9_remove 43 = .ok (.aload_n 0, 1) := by decide +kernel
theorem dX9_remove_44 : decode cX9_remove 44 = .ok (.getfield 7, 3) := by decide +kernel
theorem dX9_remove_47 : decode cX9_remove 47 = .ok (.bipush 11, 2) := by decide +kernel
theorem dX9_remove_49 : decode cX9_remove 49 = .ok (.dup2, 1) := by decide +kernel
theorem dX9_remove_50 : decode cX9_remove 50 = .ok (.iaload, 1) := by decide +kernel
theorem dX9_remove_51 : decode cX9_remove 51 = .ok (.iconst 1, 1) := by decide +kernel
theorem dX9_remove_52 : decode cX9_remove 52 = .ok (.isub, 1) := by decide +kernel
theorem dX9_remove_53 : decode cX9_remove 53 = .ok (.iastore, 1) := by decide +kernel
theorem dX9_remove_54 : decode cX9_remove 54 = .ok (.return_, 1) := by decide +kernel
set_option maxRecDepth 20000 in
theorem ggX9_remove_X9_of : GoodIn wsX9_remove wsX9_of := goodIn_r _ [5] (by decide +kernel) (by decide +kernel)
set_option maxRecDepth 20000 in
theorem gX9_remove_X9_of : GoodIn wsX9_remove (va_wsS RX9 76 yX9_of wsX9_of) := goodIn_app (goodIn_of _ (by decide +kernel)) ggX9_remove_X9_of
def D_X9_remove : Md := (yX9_remove, cX9_remove, 3, none, wsX9_remove, RX9, { frames := 1, cells := 0, slots := 0, locals := 21 })
theorem nm_X9_remove : nmD D_X9_remove 1 := ⟨rfl, by decide +kernel, by decide +kernel, by decide +kernel⟩
theorem hi_X9_remove_X9 : ∀ w ∈ u_ws RX9 TX9 25, w ∈ wsX9_remove := by decide +kernel
theorem hl_X9_remove_7 : Cond.fieldLink RX9 7 "LevelLoopsModel" "s" "[I" ∈ wsX9_remove := by decide +kernel
def wp_X9_remove_B6 (x2 : Int32) (w : Wd) (Q : Wd → Prop) (K6 : Int32 → Wd → Prop) : Prop :=
  wp_X9_of ((wi w 0 33 11) - (1 : Int32)) (0 : Int32) (fun r17 => ((r17 ≤ x2 → (∀ w53 : Wd, w53 = (sI w 0 33 11 ((wi w 0 33 11) - (1 : Int32))) → Q w53)) ∧ (¬ r17 ≤ x2 → vp_in (x2 + (4 : Int32)) 95 ∧ vp_in x2 95 ∧ (∀ w36 : Wd, w36 = (sI w 0 33 x2.toNatClampNeg (wi w 0 33 (x2 + (4 : Int32)).toNatClampNeg)) → K6 (x2 + 1) w36))))
def wp_X9_remove_L6 (x2 : Int32) (w : Wd) (Q : Wd → Prop) : Prop :=
  ∃ (I : Int32 → Wd → Prop) (μ : Int32 → Wd → Nat), I x2 w ∧ ∀ (x2 : Int32) (w : Wd), I x2 w → wp_X9_remove_B6 x2 w Q (fun x2' w' => I x2' w' ∧ μ x2' w' < μ x2 w)
def wp_X9_remove (x1 : Int32) (w : Wd) (Q : Wd → Prop) : Prop :=
  wp_X9_of x1 (0 : Int32) (fun r2 => wp_X9_remove_L6 r2 w Q)
theorem ok_X9_remove_B6 {G : Gt} {M : Mx} {Qf : State → Prop} {x2 : Int32} {w : Wd} {Q : Wd → Prop} {K6 : Int32 → Wd → Prop} (hC : cx G D_X9_remove M) (he : en G M (qv Q) Qf) (h : wp_X9_remove_B6 x2 w Q K6) (hK6 : ∀ (x2 : Int32) (w : Wd), K6 x2 w → jq G D_X9_remove M Qf 6 [(0, .ref (aD G 0 32)), (2, .int x2)] [] w) : jq G D_X9_remove M Qf 6 [(0, .ref (aD G 0 32)), (2, .int x2)] [] w := by
  unfold wp_X9_remove_B6 at h
  refine jq_iload_n (k0 := 1) dX9_remove_6 hC rfl rfl ?_
  refine jq_aload_n (k0 := 0) dX9_remove_7 hC rfl rfl ?_
  refine jq_get (k0 := 1) (n := 0) (o := 32) dX9_remove_8 hC (cl_0 (by decide)) rfl rfl hi_X9_remove_X9 (by decide) hl_X9_remove_7 rfl rfl ?_
  refine jq_bipush (v := (11 : Int32)) dX9_remove_11 hC (by decide) ?_
  refine jq_iald (n := 0) (o := 33) (j := 11) dX9_remove_13 hC (cl_0 (by decide)) rfl (vin (by decide)) (by decide) ?_
  refine jq_iconst (v := (1 : Int32)) dX9_remove_14 hC (by decide) ?_
  refine jq_isub dX9_remove_15 hC ?_
  refine jq_iconst (v := (0 : Int32)) dX9_remove_16 hC (by decide) ?_
  refine jq_callS (As := [.int ((wi w 0 33 11) - (1 : Int32)), .int (0 : Int32)]) (rest := [.int x2]) (D' := D_X9_of) dX9_remove_17 hC (mt_X9_of h) gX9_remove_X9_of rfl ⟨rfl, rfl, Nat.le_of_ble_eq_true rfl, Nat.le_of_ble_eq_true rfl⟩ nm_X9_of rfl (Nat.le_of_ble_eq_true rfl) (kIp fun r17 h => ?_)
  refine jq_icmp_ge (tgt := 43) dX9_remove_20 hC (by decide) (fun c20 => ?_) (fun c20 => ?_)
  · have h := h.1 c20
    refine jq_aload_n (k0 := 0) dX9_remove_43 hC rfl rfl ?_
    refine jq_get (k0 := 1) (n := 0) (o := 32) dX9_remove_44 hC (cl_0 (by decide)) rfl rfl hi_X9_remove_X9 (by decide) hl_X9_remove_7 rfl rfl ?_
    refine jq_bipush (v := (11 : Int32)) dX9_remove_47 hC (by decide) ?_
    refine jq_dup2 dX9_remove_49 hC rfl rfl ?_
    refine jq_iald (n := 0) (o := 33) (j := 11) dX9_remove_50 hC (cl_0 (by decide)) rfl (vin (by decide)) (by decide) ?_
    refine jq_iconst (v := (1 : Int32)) dX9_remove_51 hC (by decide) ?_
    refine jq_isub dX9_remove_52 hC ?_
    refine jq_iast (n := 0) (o := 33) (j := 11) dX9_remove_53 hC (cl_0 (by decide)) (fun _ => rfl) (vin (by decide)) (by decide) ?_
    refine jq_w (fun w53 e53 => ?_)
    have h := h w53 e53
    exact jq_vret dX9_remove_54 hC he rfl ⟨rfl, h⟩
  · have h := h.2 c20
    refine jq_aload_n (k0 := 0) dX9_remove_23 hC rfl rfl ?_
    refine jq_get (k0 := 1) (n := 0) (o := 32) dX9_remove_24 hC (cl_0 (by decide)) rfl rfl hi_X9_remove_X9 (by decide) hl_X9_remove_7 rfl rfl ?_
    refine jq_iload_n (k0 := 1) dX9_remove_27 hC rfl rfl ?_
    refine jq_aload_n (k0 := 0) dX9_remove_28 hC rfl rfl ?_
    refine jq_get (k0 := 1) (n := 0) (o := 32) dX9_remove_29 hC (cl_0 (by decide)) rfl rfl hi_X9_remove_X9 (by decide) hl_X9_remove_7 rfl rfl ?_
    refine jq_iload_n (k0 := 1) dX9_remove_32 hC rfl rfl ?_
    refine jq_iconst (v := (4 : Int32)) dX9_remove_33 hC (by decide) ?_
    refine jq_iadd dX9_remove_34 hC ?_
    obtain ⟨b35, h⟩ := h
    refine jq_iald (n := 0) (o := 33) (j := (x2 + (4 : Int32)).toNatClampNeg) dX9_remove_35 hC (cl_0 (by decide)) rfl b35 rfl ?_
    obtain ⟨b36, h⟩ := h
    refine jq_iast (n := 0) (o := 33) (j := x2.toNatClampNeg) dX9_remove_36 hC (cl_0 (by decide)) (fun _ => rfl) b36 rfl ?_
    refine jq_w (fun w36 e36 => ?_)
    have h := h w36 e36
    refine jq_iinc (k0 := 1) (v := (x2 + 1)) (L' := [(2, .int (x2 + 1)), (0, .ref (aD G 0 32))]) dX9_remove_37 hC rfl rfl (by decide) rfl ?_
    refine jq_goto (tgt := 6) dX9_remove_40 hC (by decide) ?_
    exact jq_less (L' := [(0, .ref (aD G 0 32)), (2, .int (x2 + 1))]) [1, 0] rfl (hK6 _ _ h)
theorem ok_X9_remove_L6 {G : Gt} {M : Mx} {Qf : State → Prop} {x2 : Int32} {w : Wd} {Q : Wd → Prop} (hC : cx G D_X9_remove M) (he : en G M (qv Q) Qf) (h : wp_X9_remove_L6 x2 w Q) : jq G D_X9_remove M Qf 6 [(0, .ref (aD G 0 32)), (2, .int x2)] [] w := by
  unfold wp_X9_remove_L6 at h
  obtain ⟨I, μ, h0, hs⟩ := h
  exact lp_ind (σ := Int32 × Wd) (P := fun s => jq G D_X9_remove M Qf 6 [(0, .ref (aD G 0 32)), (2, .int s.1)] [] s.2) (fun s => I s.1 s.2) (fun s => μ s.1 s.2) (fun s h1 ih => ok_X9_remove_B6 hC he (hs s.1 s.2 h1) (fun x2' w' h => ih (x2', w') h.1 h.2)) (x2, w) h0
theorem ok_X9_remove {G : Gt} {M : Mx} {Qf : State → Prop} {x1 : Int32} {w : Wd} {Q : Wd → Prop} (hC : cx G D_X9_remove M) (he : en G M (qv Q) Qf) (h : wp_X9_remove x1 w Q) : jq G D_X9_remove M Qf 0 [(0, .ref (aD G 0 32)), (1, .int x1)] [] w := by
  unfold wp_X9_remove at h
  refine jq_iload_n (k0 := 1) dX9_remove_0 hC rfl rfl ?_
  refine jq_iconst (v := (0 : Int32)) dX9_remove_1 hC (by decide) ?_
  refine jq_callS (As := [.int x1, .int (0 : Int32)]) (rest := []) (D' := D_X9_of) dX9_remove_2 hC (mt_X9_of h) gX9_remove_X9_of rfl ⟨rfl, rfl, Nat.le_of_ble_eq_true rfl, Nat.le_of_ble_eq_true rfl⟩ nm_X9_of rfl (Nat.le_of_ble_eq_true rfl) (kIp fun r2 h => ?_)
  refine jq_istore_n (L' := [(2, .int r2), (0, .ref (aD G 0 32)), (1, .int x1)]) dX9_remove_5 hC rfl (by decide) rfl ?_
  refine jq_less (L' := [(0, .ref (aD G 0 32)), (2, .int r2)]) [1, 0] rfl ?_
  exact ok_X9_remove_L6 hC he h
theorem mt_X9_remove {G : Gt} {x1 : Int32} {w : Wd} {Q : Wd → Prop} (h : wp_X9_remove x1 w Q) : Mt G D_X9_remove [.ref (aD G 0 32), .int x1] w (qv Q) := Mt_of (by decide +kernel) rfl rfl (Nat.le_of_ble_eq_true rfl) (fun M Qf hC he => ok_X9_remove hC he h)
