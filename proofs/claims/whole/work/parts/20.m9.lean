/-! X9.thrown()I -/
theorem dX9_thrown_0 : decode cX9_thrown 0 = .ok (.aload_n 0, 1) := by decide +kernel
theorem dX9_thrown_1 : decode cX9_thrown 1 = .ok (.getfield 65, 3) := by decide +kernel
theorem dX9_thrown_4 : decode cX9_thrown 4 = .ok (.ireturn, 1) := by decide +kernel
def D_X9_thrown : Md := (yX9_thrown, cX9_thrown, 1, (some .int), wsX9_thrown, RX9, { frames := 0, cells := 0, slots := 0, locals := 0 })
theorem nm_X9_thrown : nmD D_X9_thrown 0 := ⟨rfl, by decide +kernel, by decide +kernel, by decide +kernel⟩
theorem hi_X9_thrown_X9 : ∀ w ∈ u_ws RX9 TX9 25, w ∈ wsX9_thrown := by decide +kernel
theorem hl_X9_thrown_65 : Cond.fieldLink RX9 65 "LevelLoopsModel" "thrown" "I" ∈ wsX9_thrown := by decide +kernel
def wp_X9_thrown (w : Wd) (Q : Int32 → Prop) : Prop :=
  Q (wi w 0 32 0)
theorem ok_X9_thrown {G : Gt} {M : Mx} {Qf : State → Prop} {w : Wd} {Q : Int32 → Prop} (hC : cx G D_X9_thrown M) (he : en G M (qip w Q) Qf) (h : wp_X9_thrown w Q) : jq G D_X9_thrown M Qf 0 [(0, .ref (aD G 0 32))] [] w := by
  unfold wp_X9_thrown at h
  refine jq_aload_n (k0 := 0) dX9_thrown_0 hC rfl rfl ?_
  refine jq_get (k0 := 0) (n := 0) (o := 32) dX9_thrown_1 hC (cl_0 (by decide)) rfl rfl hi_X9_thrown_X9 (by decide) hl_X9_thrown_65 rfl rfl ?_
  exact jq_iret dX9_thrown_4 hC he rfl ⟨_, rfl, rfl, h⟩
theorem mt_X9_thrown {G : Gt} {w : Wd} {Q : Int32 → Prop} (h : wp_X9_thrown w Q) : Mt G D_X9_thrown [.ref (aD G 0 32)] w (qip w Q) := Mt_of (by decide +kernel) rfl rfl (Nat.le_of_ble_eq_true rfl) (fun M Qf hC he => ok_X9_thrown hC he h)
/-! X9.in(III)Z -/
theorem dX9_in_0 : decode cX9_in 0 = .ok (.iload_n 0, 1) := by decide +kernel
theorem dX9_in_1 : decode cX9_in 1 = .ok (.iload_n 1, 1) := by decide +kernel
theorem dX9_in_2 : decode cX9_in 2 = .ok (.if_icmp .lt 12, 3) := by decide +kernel
theorem dX9_in_5 : decode cX9_in 5 = .ok (.iload_n 0, 1) := by decide +kernel
theorem dX9_in_6 : decode cX9_in 6 = .ok (.iload_n 2, 1) := by decide +kernel
theorem dX9_in_7 : decode cX9_in 7 = .ok (.if_icmp .gt 7, 3) := by decide +kernel
theorem dX9_in_10 : decode cX9_in 10 = .ok (.iconst 1, 1) := by decide +kernel
theorem dX9_in_11 : decode cX9_in 11 = .ok (.goto 4, 3) := by decide +kernel
theorem dX9_in_14 : decode cX9_in 14 = .ok (.iconst 0, 1) := by decide +kernel
theorem dX9_in_15 : decode cX9_in 15 = .ok (.ireturn, 1) := by decide +kernel
def D_X9_in : Md := (yX9_in, cX9_in, 3, (some .boolean), wsX9_in, RX9, { frames := 0, cells := 0, slots := 0, locals := 0 })
theorem nm_X9_in : nmD D_X9_in 3 := ⟨rfl, by decide +kernel, by decide +kernel, by decide +kernel⟩
def wp_X9_in_J14 (Q : Int32 → Prop) : Prop :=
  zb (0 : Int32) ∧ Q (0 : Int32)
def wp_X9_in (x0 : Int32) (x1 : Int32) (x2 : Int32) (Q : Int32 → Prop) : Prop :=
  ((x0 < x1 → wp_X9_in_J14 Q) ∧ (¬ x0 < x1 → ((x2 < x0 → wp_X9_in_J14 Q) ∧ (¬ x2 < x0 → zb (1 : Int32) ∧ Q (1 : Int32)))))
theorem ok_X9_in_J14 {G : Gt} {M : Mx} {Qf : State → Prop} {w : Wd} {Q : Int32 → Prop} (hC : cx G D_X9_in M) (he : en G M (qip w Q) Qf) (h : wp_X9_in_J14 Q) : jq G D_X9_in M Qf 14 [] [] w := by
  unfold wp_X9_in_J14 at h
  refine jq_iconst (v := (0 : Int32)) dX9_in_14 hC (by decide) ?_
  obtain ⟨bz, h⟩ := h
  exact jq_zret dX9_in_15 hC he rfl bz ⟨_, rfl, rfl, h⟩
theorem ok_X9_in {G : Gt} {M : Mx} {Qf : State → Prop} {x0 : Int32} {x1 : Int32} {x2 : Int32} {w : Wd} {Q : Int32 → Prop} (hC : cx G D_X9_in M) (he : en G M (qip w Q) Qf) (h : wp_X9_in x0 x1 x2 Q) : jq G D_X9_in M Qf 0 [(0, .int x0), (1, .int x1), (2, .int x2)] [] w := by
  unfold wp_X9_in at h
  refine jq_iload_n (k0 := 0) dX9_in_0 hC rfl rfl ?_
  refine jq_iload_n (k0 := 1) dX9_in_1 hC rfl rfl ?_
  refine jq_icmp_lt (tgt := 14) dX9_in_2 hC (by decide) (fun c2 => ?_) (fun c2 => ?_)
  · have h := h.1 c2
    refine jq_less (L' := []) [] rfl ?_
    exact ok_X9_in_J14 hC he h
  · have h := h.2 c2
    refine jq_iload_n (k0 := 0) dX9_in_5 hC rfl rfl ?_
    refine jq_iload_n (k0 := 2) dX9_in_6 hC rfl rfl ?_
    refine jq_icmp_gt (tgt := 14) dX9_in_7 hC (by decide) (fun c7 => ?_) (fun c7 => ?_)
    · have h := h.1 c7
      refine jq_less (L' := []) [] rfl ?_
      exact ok_X9_in_J14 hC he h
    · have h := h.2 c7
      refine jq_iconst (v := (1 : Int32)) dX9_in_10 hC (by decide) ?_
      refine jq_goto (tgt := 15) dX9_in_11 hC (by decide) ?_
      obtain ⟨bz, h⟩ := h
      exact jq_zret dX9_in_15 hC he rfl bz ⟨_, rfl, rfl, h⟩
theorem mt_X9_in {G : Gt} {x0 : Int32} {x1 : Int32} {x2 : Int32} {w : Wd} {Q : Int32 → Prop} (h : wp_X9_in x0 x1 x2 Q) : Mt G D_X9_in [.int x0, .int x1, .int x2] w (qip w Q) := Mt_of (by decide +kernel) rfl rfl (Nat.le_of_ble_eq_true rfl) (fun M Qf hC he => ok_X9_in hC he h)
/-! X9.holds(I)Z -/
theorem dX9_holds_0 : decode cX9_holds 0 = .ok (.aload_n 0, 1) := by decide +kernel
theorem dX9_holds_1 : decode cX9_holds 1 = .ok (.iload_n 1, 1) := by decide +kernel
theorem dX9_holds_2 : decode cX9_holds 2 = .ok (.putfield 65, 3) := by decide +kernel
theorem dX9_holds_5 : decode cX9_holds 5 = .ok (.iload_n 1, 1) := by decide +kernel
theorem dX9_holds_6 : decode cX9_holds 6 = .ok (.ifCond .ne 7, 3) := by decide +kernel
theorem dX9_holds_9 : decode cX9_holds 9 = .ok (.iconst 1, 1) := by decide +kernel
theorem dX9_holds_10 : decode cX9_holds 10 = .ok (.goto 4, 3) := by decide +kernel
theorem dX9_holds_13 : decode cX9_holds 13 = .ok (.iconst 0, 1) := by decide +kernel
theorem dX9_holds_14 : decode cX9_holds 14 = .ok (.ireturn, 1) := by decide +kernel
def D_X9_holds : Md := (yX9_holds, cX9_holds, 2, (some .boolean), wsX9_holds, RX9, { frames := 0, cells := 0, slots := 0, locals := 0 })
theorem nm_X9_holds : nmD D_X9_holds 1 := ⟨rfl, by decide +kernel, by decide +kernel, by decide +kernel⟩
theorem hi_X9_holds_X9 : ∀ w ∈ u_ws RX9 TX9 25, w ∈ wsX9_holds := by decide +kernel
theorem hl_X9_holds_65 : Cond.fieldLink RX9 65 "LevelLoopsModel" "thrown" "I" ∈ wsX9_holds := by decide +kernel
def wp_X9_holds (x1 : Int32) (w : Wd) (Q : Int32 → Wd → Prop) : Prop :=
  (∀ w2 : Wd, w2 = (sI w 0 32 0 x1) → ((¬ x1 = 0 → zb (0 : Int32) ∧ Q (0 : Int32) w2) ∧ (x1 = 0 → zb (1 : Int32) ∧ Q (1 : Int32) w2)))
theorem ok_X9_holds {G : Gt} {M : Mx} {Qf : State → Prop} {x1 : Int32} {w : Wd} {Q : Int32 → Wd → Prop} (hC : cx G D_X9_holds M) (he : en G M (qi Q) Qf) (h : wp_X9_holds x1 w Q) : jq G D_X9_holds M Qf 0 [(0, .ref (aD G 0 32)), (1, .int x1)] [] w := by
  unfold wp_X9_holds at h
  refine jq_aload_n (k0 := 0) dX9_holds_0 hC rfl rfl ?_
  refine jq_iload_n (k0 := 1) dX9_holds_1 hC rfl rfl ?_
  refine jq_put (k0 := 0) (n := 0) (o := 32) (ty := .int) (w' := (sI w 0 32 0 x1)) dX9_holds_2 hC (cl_0 (by decide)) rfl rfl hi_X9_holds_X9 tyX9 tyX9_ok nmX9 (by decide) hl_X9_holds_65 rfl rfl (by decide +kernel) rfl rfl (Nat.le_of_ble_eq_true rfl) (e_32_0 G _ _ _) (fun c _ hne => ent_sA c hne) ?_
  refine jq_w (fun w2 e2 => ?_)
  have h := h w2 e2
  refine jq_iload_n (k0 := 1) dX9_holds_5 hC rfl rfl ?_
  refine jq_if_ne (tgt := 13) dX9_holds_6 hC (by decide) (fun c6 => ?_) (fun c6 => ?_)
  · have h := h.1 c6
    refine jq_iconst (v := (0 : Int32)) dX9_holds_13 hC (by decide) ?_
    obtain ⟨bz, h⟩ := h
    exact jq_zret dX9_holds_14 hC he rfl bz ⟨_, rfl, h⟩
  · have h := h.2 c6
    refine jq_iconst (v := (1 : Int32)) dX9_holds_9 hC (by decide) ?_
    refine jq_goto (tgt := 14) dX9_holds_10 hC (by decide) ?_
    obtain ⟨bz, h⟩ := h
    exact jq_zret dX9_holds_14 hC he rfl bz ⟨_, rfl, h⟩
theorem mt_X9_holds {G : Gt} {x1 : Int32} {w : Wd} {Q : Int32 → Wd → Prop} (h : wp_X9_holds x1 w Q) : Mt G D_X9_holds [.ref (aD G 0 32), .int x1] w (qi Q) := Mt_of (by decide +kernel) rfl rfl (Nat.le_of_ble_eq_true rfl) (fun M Qf hC he => ok_X9_holds hC he h)
/-! X9.of(II)I -/
theorem dX9_of_0 : decode cX9_of 0 = .ok (.bipush 12, 2) := by decide +kernel
theorem dX9_of_2 : decode cX9_of 2 = .ok (.iconst 4, 1) := by decide +kernel
theorem dX9_of_3 : decode cX9_of 3 = .ok (.iload_n 0, 1) := by decide +kernel
theorem dX9_of_4 : decode cX9_of 4 = .ok (.imul, 1) := by decide +kernel
theorem dX9_of_5 : decode cX9_of 5 = .ok (.iadd, 1) := by decide +kernel
theorem dX9_of_6 : decode cX9_of 6 = .ok (.iload_n 1, 1) := by decide +kernel
theorem dX9_of_7 : decode cX9_of 7 = .ok (.iadd, 1) := by decide +kernel
theorem dX9_of_8 : decode cX9_of 8 = .ok (.ireturn, 1) := by decide +kernel
def D_X9_of : Md := (yX9_of, cX9_of, 2, (some .int), wsX9_of, RX9, { frames := 0, cells := 0, slots := 0, locals := 0 })
theorem nm_X9_of : nmD D_X9_of 2 := ⟨rfl, by decide +kernel, by decide +kernel, by decide +kernel⟩
def wp_X9_of (x0 : Int32) (x1 : Int32) (Q : Int32 → Prop) : Prop :=
  Q (((12 : Int32) + ((4 : Int32) * x0)) + x1)
theorem ok_X9_of {G : Gt} {M : Mx} {Qf : State → Prop} {x0 : Int32} {x1 : Int32} {w : Wd} {Q : Int32 → Prop} (hC : cx G D_X9_of M) (he : en G M (qip w Q) Qf) (h : wp_X9_of x0 x1 Q) : jq G D_X9_of M Qf 0 [(0, .int x0), (1, .int x1)] [] w := by
  unfold wp_X9_of at h
  refine jq_bipush (v := (12 : Int32)) dX9_of_0 hC (by decide) ?_
  refine jq_iconst (v := (4 : Int32)) dX9_of_2 hC (by decide) ?_
  refine jq_iload_n (k0 := 0) dX9_of_3 hC rfl rfl ?_
  refine jq_imul dX9_of_4 hC ?_
  refine jq_iadd dX9_of_5 hC ?_
  refine jq_iload_n (k0 := 1) dX9_of_6 hC rfl rfl ?_
  refine jq_iadd dX9_of_7 hC ?_
  exact jq_iret dX9_of_8 hC he rfl ⟨_, rfl, rfl, h⟩
theorem mt_X9_of {G : Gt} {x0 : Int32} {x1 : Int32} {w : Wd} {Q : Int32 → Prop} (h : wp_X9_of x0 x1 Q) : Mt G D_X9_of [.int x0, .int x1] w (qip w Q) := Mt_of (by decide +kernel) rfl rfl (Nat.le_of_ble_eq_true rfl) (fun M Qf hC he => ok_X9_of hC he h)
/-! X9.size(I)I -/
theorem dX9_size_0 : decode cX9_size 0 = .ok (.iload_n 0, 1) := by decide +kernel
theorem dX9_size_1 : decode cX9_size 1 = .ok (.ifCond .ge 8, 3) := by decide +kernel
theorem dX9_size_4 : decode cX9_size 4 = .ok (.iload_n 0, 1) := by decide +kernel
theorem dX9_size_5 : decode cX9_size 5 = .ok (.ineg, 1) := by decide +kernel
theorem dX9_size_6 : decode cX9_size 6 = .ok (.goto 4, 3) := by decide +kernel
theorem dX9_size_9 : decode cX9_size 9 = .ok (.iload_n 0, 1) := by decide +kernel
theorem dX9_size_10 : decode cX9_size 10 = .ok (.ireturn, 1) := by decide +kernel
def D_X9_size : Md := (yX9_size, cX9_size, 1, (some .int), wsX9_size, RX9, { frames := 0, cells := 0, slots := 0, locals := 0 })
theorem nm_X9_size : nmD D_X9_size 1 := ⟨rfl, by decide +kernel, by decide +kernel, by decide +kernel⟩
def wp_X9_size (x0 : Int32) (Q : Int32 → Prop) : Prop :=
  ((0 ≤ x0 → Q x0) ∧ (¬ 0 ≤ x0 → Q (-x0)))
theorem ok_X9_size {G : Gt} {M : Mx} {Qf : State → Prop} {x0 : Int32} {w : Wd} {Q : Int32 → Prop} (hC : cx G D_X9_size M) (he : en G M (qip w Q) Qf) (h : wp_X9_size x0 Q) : jq G D_X9_size M Qf 0 [(0, .int x0)] [] w := by
  unfold wp_X9_size at h
  refine jq_iload_n (k0 := 0) dX9_size_0 hC rfl rfl ?_
  refine jq_if_ge (tgt := 9) dX9_size_1 hC (by decide) (fun c1 => ?_) (fun c1 => ?_)
  · have h := h.1 c1
    refine jq_iload_n (k0 := 0) dX9_size_9 hC rfl rfl ?_
    exact jq_iret dX9_size_10 hC he rfl ⟨_, rfl, rfl, h⟩
  · have h := h.2 c1
    refine jq_iload_n (k0 := 0) dX9_size_4 hC rfl rfl ?_
    refine jq_ineg dX9_size_5 hC ?_
    refine jq_goto (tgt := 10) dX9_size_6 hC (by decide) ?_
    exact jq_iret dX9_size_10 hC he rfl ⟨_, rfl, rfl, h⟩
theorem mt_X9_size {G : Gt} {x0 : Int32} {w : Wd} {Q : Int32 → Prop} (h : wp_X9_size x0 Q) : Mt G D_X9_size [.int x0] w (qip w Q) := Mt_of (by decide +kernel) rfl rfl (Nat.le_of_ble_eq_true rfl) (fun M Qf hC he => ok_X9_size hC he h)
/-! X9.isMark(I)Z -/
theorem dX9_isMark_0 : decode cX9_isMark 0 = .ok (.iload_n 1, 1) := by decide +kernel
theorem dX9_isMark_1 : decode cX9_isMark 1 = .ok (.iconst 0, 1) := by decide +kernel
theorem dX9_isMark_2 : decode cX9_isMark 2 = .ok (.aload_n 0, 1) := by decide +kernel
theorem dX9_isMark_3 : decode cX9_isMark 3 = .ok (.getfield 7, 3) := by decide +kernel
theorem dX9_isMark_6 : decode cX9_isMark 6 = .ok (.iconst 0, 1) := by decide +kernel
theorem dX9_isMark_7 : decode cX9_isMark 7 = .ok (.iaload, 1) := by decide +kernel
theorem dX9_isMark_8 : decode cX9_isMark 8 = .ok (.iconst 1, 1) := by decide +kernel
theorem dX9_isMark_9 : decode cX9_isMark 9 = .ok (.isub, 1) := by decide +kernel
theorem dX9_isMark_10 : decode cX9_isMark 10 = .ok (.invokestatic 69, 3) := by decide +kernel
theorem dX9_isMark_13 : decode cX9_isMark 13 = .ok (.ireturn, 1) := by decide +kernel
set_option maxRecDepth 20000 in
theorem ggX9_isMark_X9_in : GoodIn wsX9_isMark wsX9_in := goodIn_r _ [5] (by decide +kernel) (by decide +kernel)
set_option maxRecDepth 20000 in
theorem gX9_isMark_X9_in : GoodIn wsX9_isMark (va_wsS RX9 69 yX9_in wsX9_in) := goodIn_app (goodIn_of _ (by decide +kernel)) ggX9_isMark_X9_in
def D_X9_isMark : Md := (yX9_isMark, cX9_isMark, 2, (some .boolean), wsX9_isMark, RX9, { frames := 1, cells := 0, slots := 0, locals := 22 })
theorem nm_X9_isMark : nmD D_X9_isMark 1 := ⟨rfl, by decide +kernel, by decide +kernel, by decide +kernel⟩
theorem hi_X9_isMark_X9 : ∀ w ∈ u_ws RX9 TX9 25, w ∈ wsX9_isMark := by decide +kernel
theorem hl_X9_isMark_7 : Cond.fieldLink RX9 7 "LevelLoopsModel" "s" "[I" ∈ wsX9_isMark := by decide +kernel
def wp_X9_isMark (x1 : Int32) (w : Wd) (Q : Int32 → Prop) : Prop :=
  wp_X9_in x1 (0 : Int32) ((wi w 0 33 0) - (1 : Int32)) (fun r10 => zb r10 ∧ Q r10)
theorem ok_X9_isMark {G : Gt} {M : Mx} {Qf : State → Prop} {x1 : Int32} {w : Wd} {Q : Int32 → Prop} (hC : cx G D_X9_isMark M) (he : en G M (qip w Q) Qf) (h : wp_X9_isMark x1 w Q) : jq G D_X9_isMark M Qf 0 [(0, .ref (aD G 0 32)), (1, .int x1)] [] w := by
  unfold wp_X9_isMark at h
  refine jq_iload_n (k0 := 1) dX9_isMark_0 hC rfl rfl ?_
  refine jq_iconst (v := (0 : Int32)) dX9_isMark_1 hC (by decide) ?_
  refine jq_aload_n (k0 := 0) dX9_isMark_2 hC rfl rfl ?_
  refine jq_get (k0 := 1) (n := 0) (o := 32) dX9_isMark_3 hC (cl_0 (by decide)) rfl rfl hi_X9_isMark_X9 (by decide) hl_X9_isMark_7 rfl rfl ?_
  refine jq_iconst (v := (0 : Int32)) dX9_isMark_6 hC (by decide) ?_
  refine jq_iald (n := 0) (o := 33) (j := 0) dX9_isMark_7 hC (cl_0 (by decide)) rfl (vin (by decide)) (by decide) ?_
  refine jq_iconst (v := (1 : Int32)) dX9_isMark_8 hC (by decide) ?_
  refine jq_isub dX9_isMark_9 hC ?_
  refine jq_callS (As := [.int x1, .int (0 : Int32), .int ((wi w 0 33 0) - (1 : Int32))]) (rest := []) (D' := D_X9_in) dX9_isMark_10 hC (mt_X9_in h) gX9_isMark_X9_in rfl ⟨rfl, rfl, Nat.le_of_ble_eq_true rfl, Nat.le_of_ble_eq_true rfl⟩ nm_X9_in rfl (Nat.le_of_ble_eq_true rfl) (kIp fun r10 h => ?_)
  obtain ⟨bz, h⟩ := h
  exact jq_zret dX9_isMark_13 hC he rfl bz ⟨_, rfl, rfl, h⟩
theorem mt_X9_isMark {G : Gt} {x1 : Int32} {w : Wd} {Q : Int32 → Prop} (h : wp_X9_isMark x1 w Q) : Mt G D_X9_isMark [.ref (aD G 0 32), .int x1] w (qip w Q) := Mt_of (by decide +kernel) rfl rfl (Nat.le_of_ble_eq_true rfl) (fun M Qf hC he => ok_X9_isMark hC he h)
/-! X9.isLeg(I)Z -/
theorem dX9_isLeg_0 : decode cX9_isLeg 0 = .ok (.iload_n 1, 1) := by decide +kernel
theorem dX9_isLeg_1 : decode cX9_isLeg 1 = .ok (.iconst 0, 1) := by decide +kernel
theorem dX9_isLeg_2 : decode cX9_isLeg 2 = .ok (.aload_n 0, 1) := by decide +kernel
theorem dX9_isLeg_3 : decode cX9_isLeg 3 = .ok (.getfield 7, 3) := by decide +kernel
theorem dX9_isLeg_6 : decode cX9_isLeg 6 = .ok (.bipush 11, 2) := by decide +kernel
theorem dX9_isLeg_8 : decode cX9_isLeg 8 = .ok (.iaload, 1) := by decide +kernel
theorem dX9_isLeg_9 : decode cX9_isLeg 9 = .ok (.iconst 1, 1) := by decide +kernel
theorem dX9_isLeg_10 : decode cX9_isLeg 10 = .ok (.isub, 1) := by decide +kernel
theorem dX9_isLeg_11 : decode cX9_isLeg 11 = .ok (.invokestatic 69, 3) := by decide +kernel
theorem dX9_isLeg_14 : decode cX9_isLeg 14 = .ok (.ireturn, 1) := by decide +kernel
set_option maxRecDepth 20000 in
theorem ggX9_isLeg_X9_in : GoodIn wsX9_isLeg wsX9_in := goodIn_r _ [5] (by decide +kernel) (by decide +kernel)
set_option maxRecDepth 20000 in
theorem gX9_isLeg_X9_in : GoodIn wsX9_isLeg (va_wsS RX9 69 yX9_in wsX9_in) := goodIn_app (goodIn_of _ (by decide +kernel)) ggX9_isLeg_X9_in
def D_X9_isLeg : Md := (yX9_isLeg, cX9_isLeg, 2, (some .boolean), wsX9_isLeg, RX9, { frames := 1, cells := 0, slots := 0, locals := 22 })
theorem nm_X9_isLeg : nmD D_X9_isLeg 1 := ⟨rfl, by decide +kernel, by decide +kernel, by decide +kernel⟩
theorem hi_X9_isLeg_X9 : ∀ w ∈ u_ws RX9 TX9 25, w ∈ wsX9_isLeg := by decide +kernel
theorem hl_X9_isLeg_7 : Cond.fieldLink RX9 7 "LevelLoopsModel" "s" "[I" ∈ wsX9_isLeg := by decide +kernel
def wp_X9_isLeg (x1 : Int32) (w : Wd) (Q : Int32 → Prop) : Prop :=
  wp_X9_in x1 (0 : Int32) ((wi w 0 33 11) - (1 : Int32)) (fun r11 => zb r11 ∧ Q r11)
theorem ok_X9_isLeg {G : Gt} {M : Mx} {Qf : State → Prop} {x1 : Int32} {w : Wd} {Q : Int32 → Prop} (hC : cx G D_X9_isLeg M) (he : en G M (qip w Q) Qf) (h : wp_X9_isLeg x1 w Q) : jq G D_X9_isLeg M Qf 0 [(0, .ref (aD G 0 32)), (1, .int x1)] [] w := by
  unfold wp_X9_isLeg at h
  refine jq_iload_n (k0 := 1) dX9_isLeg_0 hC rfl rfl ?_
  refine jq_iconst (v := (0 : Int32)) dX9_isLeg_1 hC (by decide) ?_
  refine jq_aload_n (k0 := 0) dX9_isLeg_2 hC rfl rfl ?_
  refine jq_get (k0 := 1) (n := 0) (o := 32) dX9_isLeg_3 hC (cl_0 (by decide)) rfl rfl hi_X9_isLeg_X9 (by decide) hl_X9_isLeg_7 rfl rfl ?_
  refine jq_bipush (v := (11 : Int32)) dX9_isLeg_6 hC (by decide) ?_
  refine jq_iald (n := 0) (o := 33) (j := 11) dX9_isLeg_8 hC (cl_0 (by decide)) rfl (vin (by decide)) (by decide) ?_
  refine jq_iconst (v := (1 : Int32)) dX9_isLeg_9 hC (by decide) ?_
  refine jq_isub dX9_isLeg_10 hC ?_
  refine jq_callS (As := [.int x1, .int (0 : Int32), .int ((wi w 0 33 11) - (1 : Int32))]) (rest := []) (D' := D_X9_in) dX9_isLeg_11 hC (mt_X9_in h) gX9_isLeg_X9_in rfl ⟨rfl, rfl, Nat.le_of_ble_eq_true rfl, Nat.le_of_ble_eq_true rfl⟩ nm_X9_in rfl (Nat.le_of_ble_eq_true rfl) (kIp fun r11 h => ?_)
  obtain ⟨bz, h⟩ := h
  exact jq_zret dX9_isLeg_14 hC he rfl bz ⟨_, rfl, rfl, h⟩
theorem mt_X9_isLeg {G : Gt} {x1 : Int32} {w : Wd} {Q : Int32 → Prop} (h : wp_X9_isLeg x1 w Q) : Mt G D_X9_isLeg [.ref (aD G 0 32), .int x1] w (qip w Q) := Mt_of (by decide +kernel) rfl rfl (Nat.le_of_ble_eq_true rfl) (fun M Qf hC he => ok_X9_isLeg hC he h)
/-! X9.save()V -/
theorem dX9_save_0 : decode cX9_save 0 = .ok (.aload_n 0, 1) := by decide +kernel
theorem dX9_save_1 : decode cX9_save 1 = .ok (.getfield 73, 3) := by decide +kernel
theorem dX9_save_4 : decode cX9_save 4 = .ok (.bipush 6, 2) := by decide +kernel
theorem dX9_save_6 : decode cX9_save 6 = .ok (.if_icmp .ne 43, 3) := by decide +kernel
theorem dX9_save_9 : decode cX9_save 9 = .ok (.iconst 0, 1) := by decide +kernel
theorem dX9_save_10 : decode cX9_save 10 = .ok (.istore_n 1, 1) := by decide +kernel
theorem dX9_save_11 : decode cX9_save 11 = .ok (.iload_n 1, 1) := by decide +kernel
theorem dX9_save_12 : decode cX9_save 12 = .ok (.sipush 475, 3) := by decide +kernel
theorem dX9_save_15 : decode cX9_save 15 = .ok (.if_icmp .ge 24, 3) := by decide +kernel
theorem dX9_save_18 : decode cX9_save 18 = .ok (.aload_n 0, 1) := by decide +kernel
theorem dX9_save_19 : decode cX9_save 19 = .ok (.getfield 16, 3) := by decide +kernel
theorem dX9_save_22 : decode cX9_save 22 = .ok (.iload_n 1, 1) := by decide +kernel
theorem dX9_save_23 : decode cX9_save 23 = .ok (.aload_n 0, 1) := by decide +kernel
theorem dX9_save_24 : decode cX9_save 24 = .ok (.getfield 16, 3) := by decide +kernel
theorem dX9_save_27 : decode cX9_save 27 = .ok (.bipush 95, 2) := by decide +kernel
theorem dX9_save_29 : decode cX9_save 29 = .ok (.iload_n 1, 1) := by decide +kernel
theorem dX9_save_30 : decode cX9_save 30 = .ok (.iadd, 1) := by decide +kernel
theorem dX9_save_31 : decode cX9_save 31 = .ok (.iaload, 1) := by decide +kernel
theorem dX9_save_32 : decode cX9_save 32 = .ok (.iastore, 1) := by decide +kernel
theorem dX9_save_33 : decode cX9_save 33 = .ok (.iinc 1 1, 3) := by decide +kernel
theorem dX9_save_36 : decode cX9_save 36 = .ok (.goto (-25), 3) := by decide +kernel
theorem dX9_save_39 : decode cX9_save 39 = .ok (.aload_n 0, 1) := by decide +kernel
theorem dX9_save_40 : decode cX9_save 40 = .ok (.dup, 1) := by decide +kernel
theorem dX9_save_41 : decode cX9_save 41 = .ok (.getfield 73, 3) := by decide +kernel
theorem dX9_save_44 : decode cX9_save 44 = .ok (.iconst 1, 1) := by decide +kernel
theorem dX9_save_45 : decode cX9_save 45 = .ok (.isub, 1) := by decide +kernel
theorem dX9_save_46 : decode cX9_save 46 = .ok (.putfield 73, 3) := by decide +kernel
theorem dX9_save_49 : decode cX9_save 49 = .ok (.iconst 0, 1) := by decide +kernel
theorem dX9_save_50 : decode cX9_save 50 = .ok (.istore_n 1, 1) := by decide +kernel
theorem dX9_save_51 : decode cX9_save 51 = .ok (.iload_n 1, 1) := by decide +kernel
theorem dX9_save_52 : decode cX9_save 52 = .ok (.bipush 95, 2) := by decide +kernel
theorem dX9_save_54 : decode cX9_save 54 = .ok (.if_icmp .ge 29, 3) := by decide +kernel
theorem dX9_save_57 : decode cX9_save 57 = .ok (.aload_n 0, 1) := by decide +kernel
theorem dX9_save_58 : decode cX9_save 58 = .ok (.getfield 16, 3) := by decide +kernel
theorem dX9_save_61 : decode cX9_save 61 = .ok (.bipush 95, 2) := by decide +kernel
theorem dX9_save_63 : decode cX9_save 63 = .ok (.aload_n 0, 1) := by decide +kernel
theorem dX9_save_64 : decode cX9_save 64 = .ok (.getfield 73, 3) := by decide +kernel
theorem dX9_save_67 : decode cX9_save 67 = .ok (.imul, 1) := by decide +kernel
theorem dX9_save_68 : decode cX9_save 68 = .ok (.iload_n 1, 1) := by decide +kernel
theorem dX9_save_69 : decode cX9_save 69 = .ok (.iadd, 1) := by decide +kernel
theorem dX9_save_70 : decode cX9_save 70 = .ok (.aload_n 0, 1) := by decide +kernel
theorem dX9_save_71 : decode cX9_save 71 = .ok (.getfield 7, 3) := by decide +kernel
theorem dX9_save_74 : decode cX9_save 74 = .ok (.iload_n 1, 1) := by decide +kernel
theorem dX9_save_75 : decode cX9_save 75 = .ok (.iaload, 1) := by decide +kernel
theorem dX9_save_76 : decode cX9_save 76 = .ok (.iastore, 1) := by decide +kernel
theorem dX9_save_77 : decode cX9_save 77 = .ok (.iinc 1 1, 3) := by decide +kernel
theorem dX9_save_80 : decode cX9_save 80 = .ok (.goto (-29), 3) := by decide +kernel
theorem dX9_save_83 : decode cX9_save 83 = .ok (.aload_n 0, 1) := by decide +kernel
theorem dX9_save_84 : decode cX9_save 84 = .ok (.dup, 1) := by decide +kernel
theorem dX9_save_85 : decode cX9_save 85 = .ok (.getfield 73, 3) := by decide +kernel
theorem dX9_save_88 : decode cX9_save 88 = .ok (.iconst 1, 1) := by decide +kernel
theorem dX9_save_89 : decode cX9_save 89 = .ok (.iadd, 1) := by decide +kernel
theorem dX9_save_90 : decode cX9_save 90 = .ok (.putfield 73, 3) := by decide +kernel
theorem dX9_save_93 : decode cX9_save 93 = .ok (.return_, 1) := by decide +kernel
def D_X9_save : Md := (yX9_save, cX9_save, 2, none, wsX9_save, RX9, { frames := 0, cells := 0, slots := 0, locals := 0 })
theorem nm_X9_save : nmD D_X9_save 0 := ⟨rfl, by decide +kernel, by decide +kernel, by decide +kernel⟩
theorem hi_X9_save_X9 : ∀ w ∈ u_ws RX9 TX9 25, w ∈ wsX9_save := by decide +kernel
theorem hl_X9_save_7 : Cond.fieldLink RX9 7 "LevelLoopsModel" "s" "[I" ∈ wsX9_save := by decide +kernel
theorem hl_X9_save_16 : Cond.fieldLink RX9 16 "LevelLoopsModel" "saved" "[I" ∈ wsX9_save := by decide +kernel
theorem hl_X9_save_73 : Cond.fieldLink RX9 73 "LevelLoopsModel" "savedMany" "I" ∈ wsX9_save := by decide +kernel
def wp_X9_save_B51 (x1 : Int32) (w : Wd) (Q : Wd → Prop) (K51 : Int32 → Wd → Prop) : Prop :=
  (((95 : Int32) ≤ x1 → (∀ w90 : Wd, w90 = (sI w 0 32 4 ((wi w 0 32 4) + (1 : Int32))) → Q w90)) ∧ (¬ (95 : Int32) ≤ x1 → vp_in x1 95 ∧ vp_in (((95 : Int32) * (wi w 0 32 4)) + x1) 570 ∧ (∀ w76 : Wd, w76 = (sI w 0 35 (((95 : Int32) * (wi w 0 32 4)) + x1).toNatClampNeg (wi w 0 33 x1.toNatClampNeg)) → K51 (x1 + 1) w76)))
def wp_X9_save_L51 (x1 : Int32) (w : Wd) (Q : Wd → Prop) : Prop :=
  ∃ (I : Int32 → Wd → Prop) (μ : Int32 → Wd → Nat), I x1 w ∧ ∀ (x1 : Int32) (w : Wd), I x1 w → wp_X9_save_B51 x1 w Q (fun x1' w' => I x1' w' ∧ μ x1' w' < μ x1 w)
def wp_X9_save_B11 (x1 : Int32) (w : Wd) (Q : Wd → Prop) (K11 : Int32 → Wd → Prop) : Prop :=
  (((475 : Int32) ≤ x1 → (∀ w46 : Wd, w46 = (sI w 0 32 4 ((wi w 0 32 4) - (1 : Int32))) → wp_X9_save_L51 (0 : Int32) w46 Q)) ∧ (¬ (475 : Int32) ≤ x1 → vp_in ((95 : Int32) + x1) 570 ∧ vp_in x1 570 ∧ (∀ w32 : Wd, w32 = (sI w 0 35 x1.toNatClampNeg (wi w 0 35 ((95 : Int32) + x1).toNatClampNeg)) → K11 (x1 + 1) w32)))
def wp_X9_save_L11 (x1 : Int32) (w : Wd) (Q : Wd → Prop) : Prop :=
  ∃ (I : Int32 → Wd → Prop) (μ : Int32 → Wd → Nat), I x1 w ∧ ∀ (x1 : Int32) (w : Wd), I x1 w → wp_X9_save_B11 x1 w Q (fun x1' w' => I x1' w' ∧ μ x1' w' < μ x1 w)
def wp_X9_save (w : Wd) (Q : Wd → Prop) : Prop :=
  ((¬ (wi w 0 32 4) = (6 : Int32) → wp_X9_save_L51 (0 : Int32) w Q) ∧ ((wi w 0 32 4) = (6 : Int32) → wp_X9_save_L11 (0 : Int32) w Q))
theorem ok_X9_save_B51 {G : Gt} {M : Mx} {Qf : State → Prop} {x1 : Int32} {w : Wd} {Q : Wd → Prop} {K51 : Int32 → Wd → Prop} (hC : cx G D_X9_save M) (he : en G M (qv Q) Qf) (h : wp_X9_save_B51 x1 w Q K51) (hK51 : ∀ (x1 : Int32) (w : Wd), K51 x1 w → jq G D_X9_save M Qf 51 [(0, .ref (aD G 0 32)), (1, .int x1)] [] w) : jq G D_X9_save M Qf 51 [(0, .ref (aD G 0 32)), (1, .int x1)] [] w := by
  unfold wp_X9_save_B51 at h
  refine jq_iload_n (k0 := 1) dX9_save_51 hC rfl rfl ?_
  refine jq_bipush (v := (95 : Int32)) dX9_save_52 hC (by decide) ?_
  refine jq_icmp_ge (tgt := 83) dX9_save_54 hC (by decide) (fun c54 => ?_) (fun c54 => ?_)
  · have h := h.1 c54
    refine jq_aload_n (k0 := 0) dX9_save_83 hC rfl rfl ?_
    refine jq_dup dX9_save_84 hC rfl ?_
    refine jq_get (k0 := 4) (n := 0) (o := 32) dX9_save_85 hC (cl_0 (by decide)) rfl rfl hi_X9_save_X9 (by decide) hl_X9_save_73 rfl rfl ?_
    refine jq_iconst (v := (1 : Int32)) dX9_save_88 hC (by decide) ?_
    refine jq_iadd dX9_save_89 hC ?_
    refine jq_put (k0 := 4) (n := 0) (o := 32) (ty := .int) (w' := (sI w 0 32 4 ((wi w 0 32 4) + (1 : Int32)))) dX9_save_90 hC (cl_0 (by decide)) rfl rfl hi_X9_save_X9 tyX9 tyX9_ok nmX9 (by decide) hl_X9_save_73 rfl rfl (by decide +kernel) rfl rfl (Nat.le_of_ble_eq_true rfl) (e_32_4 G _ _ _) (fun c _ hne => ent_sA c hne) ?_
    refine jq_w (fun w90 e90 => ?_)
    have h := h w90 e90
    exact jq_vret dX9_save_93 hC he rfl ⟨rfl, h⟩
  · have h := h.2 c54
    refine jq_aload_n (k0 := 0) dX9_save_57 hC rfl rfl ?_
    refine jq_get (k0 := 3) (n := 0) (o := 32) dX9_save_58 hC (cl_0 (by decide)) rfl rfl hi_X9_save_X9 (by decide) hl_X9_save_16 rfl rfl ?_
    refine jq_bipush (v := (95 : Int32)) dX9_save_61 hC (by decide) ?_
    refine jq_aload_n (k0 := 0) dX9_save_63 hC rfl rfl ?_
    refine jq_get (k0 := 4) (n := 0) (o := 32) dX9_save_64 hC (cl_0 (by decide)) rfl rfl hi_X9_save_X9 (by decide) hl_X9_save_73 rfl rfl ?_
    refine jq_imul dX9_save_67 hC ?_
    refine jq_iload_n (k0 := 1) dX9_save_68 hC rfl rfl ?_
    refine jq_iadd dX9_save_69 hC ?_
    refine jq_aload_n (k0 := 0) dX9_save_70 hC rfl rfl ?_
    refine jq_get (k0 := 1) (n := 0) (o := 32) dX9_save_71 hC (cl_0 (by decide)) rfl rfl hi_X9_save_X9 (by decide) hl_X9_save_7 rfl rfl ?_
    refine jq_iload_n (k0 := 1) dX9_save_74 hC rfl rfl ?_
    obtain ⟨b75, h⟩ := h
    refine jq_iald (n := 0) (o := 33) (j := x1.toNatClampNeg) dX9_save_75 hC (cl_0 (by decide)) rfl b75 rfl ?_
    obtain ⟨b76, h⟩ := h
    refine jq_iast (n := 0) (o := 35) (j := (((95 : Int32) * (wi w 0 32 4)) + x1).toNatClampNeg) dX9_save_76 hC (cl_0 (by decide)) (fun _ => rfl) b76 rfl ?_
    refine jq_w (fun w76 e76 => ?_)
    have h := h w76 e76
    refine jq_iinc (k0 := 1) (v := (x1 + 1)) (L' := [(1, .int (x1 + 1)), (0, .ref (aD G 0 32))]) dX9_save_77 hC rfl rfl (by decide) rfl ?_
    refine jq_goto (tgt := 51) dX9_save_80 hC (by decide) ?_
    exact jq_less (L' := [(0, .ref (aD G 0 32)), (1, .int (x1 + 1))]) [1, 0] rfl (hK51 _ _ h)
theorem ok_X9_save_L51 {G : Gt} {M : Mx} {Qf : State → Prop} {x1 : Int32} {w : Wd} {Q : Wd → Prop} (hC : cx G D_X9_save M) (he : en G M (qv Q) Qf) (h : wp_X9_save_L51 x1 w Q) : jq G D_X9_save M Qf 51 [(0, .ref (aD G 0 32)), (1, .int x1)] [] w := by
  unfold wp_X9_save_L51 at h
  obtain ⟨I, μ, h0, hs⟩ := h
  exact lp_ind (σ := Int32 × Wd) (P := fun s => jq G D_X9_save M Qf 51 [(0, .ref (aD G 0 32)), (1, .int s.1)] [] s.2) (fun s => I s.1 s.2) (fun s => μ s.1 s.2) (fun s h1 ih => ok_X9_save_B51 hC he (hs s.1 s.2 h1) (fun x1' w' h => ih (x1', w') h.1 h.2)) (x1, w) h0
theorem ok_X9_save_B11 {G : Gt} {M : Mx} {Qf : State → Prop} {x1 : Int32} {w : Wd} {Q : Wd → Prop} {K11 : Int32 → Wd → Prop} (hC : cx G D_X9_save M) (he : en G M (qv Q) Qf) (h : wp_X9_save_B11 x1 w Q K11) (hK11 : ∀ (x1 : Int32) (w : Wd), K11 x1 w → jq G D_X9_save M Qf 11 [(0, .ref (aD G 0 32)), (1, .int x1)] [] w) : jq G D_X9_save M Qf 11 [(0, .ref (aD G 0 32)), (1, .int x1)] [] w := by
  unfold wp_X9_save_B11 at h
  refine jq_iload_n (k0 := 1) dX9_save_11 hC rfl rfl ?_
  refine jq_sipush (v := (475 : Int32)) dX9_save_12 hC (by decide) ?_
  refine jq_icmp_ge (tgt := 39) dX9_save_15 hC (by decide) (fun c15 => ?_) (fun c15 => ?_)
  · have h := h.1 c15
    refine jq_aload_n (k0 := 0) dX9_save_39 hC rfl rfl ?_
    refine jq_dup dX9_save_40 hC rfl ?_
    refine jq_get (k0 := 4) (n := 0) (o := 32) dX9_save_41 hC (cl_0 (by decide)) rfl rfl hi_X9_save_X9 (by decide) hl_X9_save_73 rfl rfl ?_
    refine jq_iconst (v := (1 : Int32)) dX9_save_44 hC (by decide) ?_
    refine jq_isub dX9_save_45 hC ?_
    refine jq_put (k0 := 4) (n := 0) (o := 32) (ty := .int) (w' := (sI w 0 32 4 ((wi w 0 32 4) - (1 : Int32)))) dX9_save_46 hC (cl_0 (by decide)) rfl rfl hi_X9_save_X9 tyX9 tyX9_ok nmX9 (by decide) hl_X9_save_73 rfl rfl (by decide +kernel) rfl rfl (Nat.le_of_ble_eq_true rfl) (e_32_4 G _ _ _) (fun c _ hne => ent_sA c hne) ?_
    refine jq_w (fun w46 e46 => ?_)
    have h := h w46 e46
    refine jq_iconst (v := (0 : Int32)) dX9_save_49 hC (by decide) ?_
    refine jq_istore_n (L' := [(1, .int (0 : Int32)), (0, .ref (aD G 0 32))]) dX9_save_50 hC rfl (by decide) rfl ?_
    refine jq_less (L' := [(0, .ref (aD G 0 32)), (1, .int (0 : Int32))]) [1, 0] rfl ?_
    exact ok_X9_save_L51 hC he h
  · have h := h.2 c15
    refine jq_aload_n (k0 := 0) dX9_save_18 hC rfl rfl ?_
    refine jq_get (k0 := 3) (n := 0) (o := 32) dX9_save_19 hC (cl_0 (by decide)) rfl rfl hi_X9_save_X9 (by decide) hl_X9_save_16 rfl rfl ?_
    refine jq_iload_n (k0 := 1) dX9_save_22 hC rfl rfl ?_
    refine jq_aload_n (k0 := 0) dX9_save_23 hC rfl rfl ?_
    refine jq_get (k0 := 3) (n := 0) (o := 32) dX9_save_24 hC (cl_0 (by decide)) rfl rfl hi_X9_save_X9 (by decide) hl_X9_save_16 rfl rfl ?_
    refine jq_bipush (v := (95 : Int32)) dX9_save_27 hC (by decide) ?_
    refine jq_iload_n (k0 := 1) dX9_save_29 hC rfl rfl ?_
    refine jq_iadd dX9_save_30 hC ?_
    obtain ⟨b31, h⟩ := h
    refine jq_iald (n := 0) (o := 35) (j := ((95 : Int32) + x1).toNatClampNeg) dX9_save_31 hC (cl_0 (by decide)) rfl b31 rfl ?_
    obtain ⟨b32, h⟩ := h
    refine jq_iast (n := 0) (o := 35) (j := x1.toNatClampNeg) dX9_save_32 hC (cl_0 (by decide)) (fun _ => rfl) b32 rfl ?_
    refine jq_w (fun w32 e32 => ?_)
    have h := h w32 e32
    refine jq_iinc (k0 := 1) (v := (x1 + 1)) (L' := [(1, .int (x1 + 1)), (0, .ref (aD G 0 32))]) dX9_save_33 hC rfl rfl (by decide) rfl ?_
    refine jq_goto (tgt := 11) dX9_save_36 hC (by decide) ?_
    exact jq_less (L' := [(0, .ref (aD G 0 32)), (1, .int (x1 + 1))]) [1, 0] rfl (hK11 _ _ h)
theorem ok_X9_save_L11 {G : Gt} {M : Mx} {Qf : State → Prop} {x1 : Int32} {w : Wd} {Q : Wd → Prop} (hC : cx G D_X9_save M) (he : en G M (qv Q) Qf) (h : wp_X9_save_L11 x1 w Q) : jq G D_X9_save M Qf 11 [(0, .ref (aD G 0 32)), (1, .int x1)] [] w := by
  unfold wp_X9_save_L11 at h
  obtain ⟨I, μ, h0, hs⟩ := h
  exact lp_ind (σ := Int32 × Wd) (P := fun s => jq G D_X9_save M Qf 11 [(0, .ref (aD G 0 32)), (1, .int s.1)] [] s.2) (fun s => I s.1 s.2) (fun s => μ s.1 s.2) (fun s h1 ih => ok_X9_save_B11 hC he (hs s.1 s.2 h1) (fun x1' w' h => ih (x1', w') h.1 h.2)) (x1, w) h0
theorem ok_X9_save {G : Gt} {M : Mx} {Qf : State → Prop} {w : Wd} {Q : Wd → Prop} (hC : cx G D_X9_save M) (he : en G M (qv Q) Qf) (h : wp_X9_save w Q) : jq G D_X9_save M Qf 0 [(0, .ref (aD G 0 32))] [] w := by
  unfold wp_X9_save at h
  refine jq_aload_n (k0 := 0) dX9_save_0 hC rfl rfl ?_
  refine jq_get (k0 := 4) (n := 0) (o := 32) dX9_save_1 hC (cl_0 (by decide)) rfl rfl hi_X9_save_X9 (by decide) hl_X9_save_73 rfl rfl ?_
  refine jq_bipush (v := (6 : Int32)) dX9_save_4 hC (by decide) ?_
  refine jq_icmp_ne (tgt := 49) dX9_save_6 hC (by decide) (fun c6 => ?_) (fun c6 => ?_)
  · have h := h.1 c6
    refine jq_iconst (v := (0 : Int32)) dX9_save_49 hC (by decide) ?_
    refine jq_istore_n (L' := [(1, .int (0 : Int32)), (0, .ref (aD G 0 32))]) dX9_save_50 hC rfl (by decide) rfl ?_
    refine jq_less (L' := [(0, .ref (aD G 0 32)), (1, .int (0 : Int32))]) [1, 0] rfl ?_
    exact ok_X9_save_L51 hC he h
  · have h := h.2 c6
    refine jq_iconst (v := (0 : Int32)) dX9_save_9 hC (by decide) ?_
    refine jq_istore_n (L' := [(1, .int (0 : Int32)), (0, .ref (aD G 0 32))]) dX9_save_10 hC rfl (by decide) rfl ?_
    refine jq_less (L' := [(0, .ref (aD G 0 32)), (1, .int (0 : Int32))]) [1, 0] rfl ?_
    exact ok_X9_save_L11 hC he h
theorem mt_X9_save {G : Gt} {w : Wd} {Q : Wd → Prop} (h : wp_X9_save w Q) : Mt G D_X9_save [.ref (aD G 0 32)] w (qv Q) := Mt_of (by decide +kernel) rfl rfl (Nat.le_of_ble_eq_true rfl) (fun M Qf hC he => ok_X9_save hC he h)
/-! X9.putAside()V -/
theorem dX9_putAside_0 : decode cX9_putAside 0 = .ok (.iconst 0, 1) := by decide +kernel
theorem dX9_putAside_1 : decode cX9_putAside 1 = .ok (.istore_n 1, 1) := by decide +kernel
theorem dX9_putAside_2 : decode cX9_putAside 2 = .ok (.iload_n 1, 1) := by decide +kernel
theorem dX9_putAside_3 : decode cX9_putAside 3 = .ok (.bipush 95, 2) := by decide +kernel
theorem dX9_putAside_5 : decode cX9_putAside 5 = .ok (.if_icmp .ge 21, 3) := by decide +kernel
theorem dX9_putAside_8 : decode cX9_putAside 8 = .ok (.aload_n 0, 1) := by decide +kernel
theorem dX9_putAside_9 : decode cX9_putAside 9 = .ok (.getfield 13, 3) := by decide +kernel
theorem dX9_putAside_12 : decode cX9_putAside 12 = .ok (.iload_n 1, 1) := by decide +kernel
theorem dX9_putAside_13 : decode cX9_putAside 13 = .ok (.aload_n 0, 1) := by decide +kernel
theorem dX9_putAside_14 : decode cX9_putAside 14 = .ok (.getfield 7, 3) := by decide +kernel
theorem dX9_putAside_17 : decode cX9_putAside 17 = .ok (.iload_n 1, 1) := by decide +kernel
theorem dX9_putAside_18 : decode cX9_putAside 18 = .ok (.iaload, 1) := by decide +kernel
theorem dX9_putAside_19 : decode cX9_putAside 19 = .ok (.iastore, 1) := by decide +kernel
theorem dX9_putAside_20 : decode cX9_putAside 20 = .ok (.iinc 1 1, 3) := by decide +kernel
theorem dX9_putAside_23 : decode cX9_putAside 23 = .ok (.goto (-21), 3) := by decide +kernel
theorem dX9_putAside_26 : decode cX9_putAside 26 = .ok (.return_, 1) := by decide +kernel
def D_X9_putAside : Md := (yX9_putAside, cX9_putAside, 2, none, wsX9_putAside, RX9, { frames := 0, cells := 0, slots := 0, locals := 0 })
theorem nm_X9_putAside : nmD D_X9_putAside 0 := ⟨rfl, by decide +kernel, by decide +kernel, by decide +kernel⟩
theorem hi_X9_putAside_X9 : ∀ w ∈ u_ws RX9 TX9 25, w ∈ wsX9_putAside := by decide +kernel
theorem hl_X9_putAside_7 : Cond.fieldLink RX9 7 "LevelLoopsModel" "s" "[I" ∈ wsX9_putAside := by decide +kernel
theorem hl_X9_putAside_13 : Cond.fieldLink RX9 13 "LevelLoopsModel" "aside" "[I" ∈ wsX9_putAside := by decide +kernel
def wp_X9_putAside_B2 (x1 : Int32) (w : Wd) (Q : Wd → Prop) (K2 : Int32 → Wd → Prop) : Prop :=
  (((95 : Int32) ≤ x1 → Q w) ∧ (¬ (95 : Int32) ≤ x1 → vp_in x1 95 ∧ vp_in x1 95 ∧ (∀ w19 : Wd, w19 = (sI w 0 34 x1.toNatClampNeg (wi w 0 33 x1.toNatClampNeg)) → K2 (x1 + 1) w19)))
def wp_X9_putAside_L2 (x1 : Int32) (w : Wd) (Q : Wd → Prop) : Prop :=
  ∃ (I : Int32 → Wd → Prop) (μ : Int32 → Wd → Nat), I x1 w ∧ ∀ (x1 : Int32) (w : Wd), I x1 w → wp_X9_putAside_B2 x1 w Q (fun x1' w' => I x1' w' ∧ μ x1' w' < μ x1 w)
def wp_X9_putAside (w : Wd) (Q : Wd → Prop) : Prop :=
  wp_X9_putAside_L2 (0 : Int32) w Q
theorem ok_X9_putAside_B2 {G : Gt} {M : Mx} {Qf : State → Prop} {x1 : Int32} {w : Wd} {Q : Wd → Prop} {K2 : Int32 → Wd → Prop} (hC : cx G D_X9_putAside M) (he : en G M (qv Q) Qf) (h : wp_X9_putAside_B2 x1 w Q K2) (hK2 : ∀ (x1 : Int32) (w : Wd), K2 x1 w → jq G D_X9_putAside M Qf 2 [(0, .ref (aD G 0 32)), (1, .int x1)] [] w) : jq G D_X9_putAside M Qf 2 [(0, .ref (aD G 0 32)), (1, .int x1)] [] w := by
  unfold wp_X9_putAside_B2 at h
  refine jq_iload_n (k0 := 1) dX9_putAside_2 hC rfl rfl ?_
  refine jq_bipush (v := (95 : Int32)) dX9_putAside_3 hC (by decide) ?_
  refine jq_icmp_ge (tgt := 26) dX9_putAside_5 hC (by decide) (fun c5 => ?_) (fun c5 => ?_)
  · have h := h.1 c5
    exact jq_vret dX9_putAside_26 hC he rfl ⟨rfl, h⟩
  · have h := h.2 c5
    refine jq_aload_n (k0 := 0) dX9_putAside_8 hC rfl rfl ?_
    refine jq_get (k0 := 2) (n := 0) (o := 32) dX9_putAside_9 hC (cl_0 (by decide)) rfl rfl hi_X9_putAside_X9 (by decide) hl_X9_putAside_13 rfl rfl ?_
    refine jq_iload_n (k0 := 1) dX9_putAside_12 hC rfl rfl ?_
    refine jq_aload_n (k0 := 0) dX9_putAside_13 hC rfl rfl ?_
    refine jq_get (k0 := 1) (n := 0) (o := 32) dX9_putAside_14 hC (cl_0 (by decide)) rfl rfl hi_X9_putAside_X9 (by decide) hl_X9_putAside_7 rfl rfl ?_
    refine jq_iload_n (k0 := 1) dX9_putAside_17 hC rfl rfl ?_
    obtain ⟨b18, h⟩ := h
    refine jq_iald (n := 0) (o := 33) (j := x1.toNatClampNeg) dX9_putAside_18 hC (cl_0 (by decide)) rfl b18 rfl ?_
    obtain ⟨b19, h⟩ := h
    refine jq_iast (n := 0) (o := 34) (j := x1.toNatClampNeg) dX9_putAside_19 hC (cl_0 (by decide)) (fun _ => rfl) b19 rfl ?_
    refine jq_w (fun w19 e19 => ?_)
    have h := h w19 e19
    refine jq_iinc (k0 := 1) (v := (x1 + 1)) (L' := [(1, .int (x1 + 1)), (0, .ref (aD G 0 32))]) dX9_putAside_20 hC rfl rfl (by decide) rfl ?_
    refine jq_goto (tgt := 2) dX9_putAside_23 hC (by decide) ?_
    exact jq_less (L' := [(0, .ref (aD G 0 32)), (1, .int (x1 + 1))]) [1, 0] rfl (hK2 _ _ h)
theorem ok_X9_putAside_L2 {G : Gt} {M : Mx} {Qf : State → Prop} {x1 : Int32} {w : Wd} {Q : Wd → Prop} (hC : cx G D_X9_putAside M) (he : en G M (qv Q) Qf) (h : wp_X9_putAside_L2 x1 w Q) : jq G D_X9_putAside M Qf 2 [(0, .ref (aD G 0 32)), (1, .int x1)] [] w := by
  unfold wp_X9_putAside_L2 at h
  obtain ⟨I, μ, h0, hs⟩ := h
  exact lp_ind (σ := Int32 × Wd) (P := fun s => jq G D_X9_putAside M Qf 2 [(0, .ref (aD G 0 32)), (1, .int s.1)] [] s.2) (fun s => I s.1 s.2) (fun s => μ s.1 s.2) (fun s h1 ih => ok_X9_putAside_B2 hC he (hs s.1 s.2 h1) (fun x1' w' h => ih (x1', w') h.1 h.2)) (x1, w) h0
theorem ok_X9_putAside {G : Gt} {M : Mx} {Qf : State → Prop} {w : Wd} {Q : Wd → Prop} (hC : cx G D_X9_putAside M) (he : en G M (qv Q) Qf) (h : wp_X9_putAside w Q) : jq G D_X9_putAside M Qf 0 [(0, .ref (aD G 0 32))] [] w := by
  unfold wp_X9_putAside at h
  refine jq_iconst (v := (0 : Int32)) dX9_putAside_0 hC (by decide) ?_
  refine jq_istore_n (L' := [(1, .int (0 : Int32)), (0, .ref (aD G 0 32))]) dX9_putAside_1 hC rfl (by decide) rfl ?_
  refine jq_less (L' := [(0, .ref (aD G 0 32)), (1, .int (0 : Int32))]) [1, 0] rfl ?_
  exact ok_X9_putAside_L2 hC he h
theorem mt_X9_putAside {G : Gt} {w : Wd} {Q : Wd → Prop} (h : wp_X9_putAside w Q) : Mt G D_X9_putAside [.ref (aD G 0 32)] w (qv Q) := Mt_of (by decide +kernel) rfl rfl (Nat.le_of_ble_eq_true rfl) (fun M Qf hC he => ok_X9_putAside hC he h)
/-! X9.putBack()V -/
theorem dX9_putBack_0 : decode cX9_putBack 0 = .ok (.iconst 0, 1) := by decide +kernel
theorem dX9_putBack_1 : decode cX9_putBack 1 = .ok (.istore_n 1, 1) := by decide +kernel
theorem dX9_putBack_2 : decode cX9_putBack 2 = .ok (.iload_n 1, 1) := by decide +kernel
theorem dX9_putBack_3 : decode cX9_putBack 3 = .ok (.bipush 95, 2) := by decide +kernel
theorem dX9_putBack_5 : decode cX9_putBack 5 = .ok (.if_icmp .ge 21, 3) := by decide +kernel
theorem dX9_putBack_8 : decode cX9_putBack 8 = .ok (.aload_n 0, 1) := by decide +kernel
theorem dX9_putBack_9 : decode cX9_putBack 9 = .ok (.getfield 7, 3) := by decide +kernel
theorem dX9_putBack_12 : decode cX9_putBack 12 = .ok (.iload_n 1, 1) := by decide +kernel
theorem dX9_putBack_13 : decode cX9_putBack 13 = .ok (.aload_n 0, 1) := by decide +kernel
theorem dX9_putBack_14 : decode cX9_putBack 14 = .ok (.getfield 13, 3) := by decide +kernel
theorem dX9_putBack_17 : decode cX9_putBack 17 = .ok (.iload_n 1, 1) := by decide +kernel
theorem dX9_putBack_18 : decode cX9_putBack 18 = .ok (.iaload, 1) := by decide +kernel
theorem dX9_putBack_19 : decode cX9_putBack 19 = .ok (.iastore, 1) := by decide +kernel
theorem dX9_putBack_20 : decode cX9_putBack 20 = .ok (.iinc 1 1, 3) := by decide +kernel
theorem dX9_putBack_23 : decode cX9_putBack 23 = .ok (.goto (-21), 3) := by decide +kernel
theorem dX9_putBack_26 : decode cX9_putBack 26 = .ok (.return_, 1) := by decide +kernel
def D_X9_putBack : Md := (yX9_putBack, cX9_putBack, 2, none, wsX9_putBack, RX9, { frames := 0, cells := 0, slots := 0, locals := 0 })
theorem nm_X9_putBack : nmD D_X9_putBack 0 := ⟨rfl, by decide +kernel, by decide +kernel, by decide +kernel⟩
theorem hi_X9_putBack_X9 : ∀ w ∈ u_ws RX9 TX9 25, w ∈ wsX9_putBack := by decide +kernel
theorem hl_X9_putBack_7 : Cond.fieldLink RX9 7 "LevelLoopsModel" "s" "[I" ∈ wsX9_putBack := by decide +kernel
theorem hl_X9_putBack_13 : Cond.fieldLink RX9 13 "LevelLoopsModel" "aside" "[I" ∈ wsX9_putBack := by decide +kernel
def wp_X9_putBack_B2 (x1 : Int32) (w : Wd) (Q : Wd → Prop) (K2 : Int32 → Wd → Prop) : Prop :=
  (((95 : Int32) ≤ x1 → Q w) ∧ (¬ (95 : Int32) ≤ x1 → vp_in x1 95 ∧ vp_in x1 95 ∧ (∀ w19 : Wd, w19 = (sI w 0 33 x1.toNatClampNeg (wi w 0 34 x1.toNatClampNeg)) → K2 (x1 + 1) w19)))
def wp_X9_putBack_L2 (x1 : Int32) (w : Wd) (Q : Wd → Prop) : Prop :=
  ∃ (I : Int32 → Wd → Prop) (μ : Int32 → Wd → Nat), I x1 w ∧ ∀ (x1 : Int32) (w : Wd), I x1 w → wp_X9_putBack_B2 x1 w Q (fun x1' w' => I x1' w' ∧ μ x1' w' < μ x1 w)
def wp_X9_putBack (w : Wd) (Q : Wd → Prop) : Prop :=
  wp_X9_putBack_L2 (0 : Int32) w Q
theorem ok_X9_putBack_B2 {G : Gt} {M : Mx} {Qf : State → Prop} {x1 : Int32} {w : Wd} {Q : Wd → Prop} {K2 : Int32 → Wd → Prop} (hC : cx G D_X9_putBack M) (he : en G M (qv Q) Qf) (h : wp_X9_putBack_B2 x1 w Q K2) (hK2 : ∀ (x1 : Int32) (w : Wd), K2 x1 w → jq G D_X9_putBack M Qf 2 [(0, .ref (aD G 0 32)), (1, .int x1)] [] w) : jq G D_X9_putBack M Qf 2 [(0, .ref (aD G 0 32)), (1, .int x1)] [] w := by
  unfold wp_X9_putBack_B2 at h
  refine jq_iload_n (k0 := 1) dX9_putBack_2 hC rfl rfl ?_
  refine jq_bipush (v := (95 : Int32)) dX9_putBack_3 hC (by decide) ?_
  refine jq_icmp_ge (tgt := 26) dX9_putBack_5 hC (by decide) (fun c5 => ?_) (fun c5 => ?_)
  · have h := h.1 c5
    exact jq_vret dX9_putBack_26 hC he rfl ⟨rfl, h⟩
  · have h := h.2 c5
    refine jq_aload_n (k0 := 0) dX9_putBack_8 hC rfl rfl ?_
    refine jq_get (k0 := 1) (n := 0) (o := 32) dX9_putBack_9 hC (cl_0 (by decide)) rfl rfl hi_X9_putBack_X9 (by decide) hl_X9_putBack_7 rfl rfl ?_
    refine jq_iload_n (k0 := 1) dX9_putBack_12 hC rfl rfl ?_
    refine jq_aload_n (k0 := 0) dX9_putBack_13 hC rfl rfl ?_
    refine jq_get (k0 := 2) (n := 0) (o := 32) dX9_putBack_14 hC (cl_0 (by decide)) rfl rfl hi_X9_putBack_X9 (by decide) hl_X9_putBack_13 rfl rfl ?_
    refine jq_iload_n (k0 := 1) dX9_putBack_17 hC rfl rfl ?_
    obtain ⟨b18, h⟩ := h
    refine jq_iald (n := 0) (o := 34) (j := x1.toNatClampNeg) dX9_putBack_18 hC (cl_0 (by decide)) rfl b18 rfl ?_
    obtain ⟨b19, h⟩ := h
    refine jq_iast (n := 0) (o := 33) (j := x1.toNatClampNeg) dX9_putBack_19 hC (cl_0 (by decide)) (fun _ => rfl) b19 rfl ?_
    refine jq_w (fun w19 e19 => ?_)
    have h := h w19 e19
    refine jq_iinc (k0 := 1) (v := (x1 + 1)) (L' := [(1, .int (x1 + 1)), (0, .ref (aD G 0 32))]) dX9_putBack_20 hC rfl rfl (by decide) rfl ?_
    refine jq_goto (tgt := 2) dX9_putBack_23 hC (by decide) ?_
    exact jq_less (L' := [(0, .ref (aD G 0 32)), (1, .int (x1 + 1))]) [1, 0] rfl (hK2 _ _ h)
theorem ok_X9_putBack_L2 {G : Gt} {M : Mx} {Qf : State → Prop} {x1 : Int32} {w : Wd} {Q : Wd → Prop} (hC : cx G D_X9_putBack M) (he : en G M (qv Q) Qf) (h : wp_X9_putBack_L2 x1 w Q) : jq G D_X9_putBack M Qf 2 [(0, .ref (aD G 0 32)), (1, .int x1)] [] w := by
  unfold wp_X9_putBack_L2 at h
  obtain ⟨I, μ, h0, hs⟩ := h
  exact lp_ind (σ := Int32 × Wd) (P := fun s => jq G D_X9_putBack M Qf 2 [(0, .ref (aD G 0 32)), (1, .int s.1)] [] s.2) (fun s => I s.1 s.2) (fun s => μ s.1 s.2) (fun s h1 ih => ok_X9_putBack_B2 hC he (hs s.1 s.2 h1) (fun x1' w' h => ih (x1', w') h.1 h.2)) (x1, w) h0
theorem ok_X9_putBack {G : Gt} {M : Mx} {Qf : State → Prop} {w : Wd} {Q : Wd → Prop} (hC : cx G D_X9_putBack M) (he : en G M (qv Q) Qf) (h : wp_X9_putBack w Q) : jq G D_X9_putBack M Qf 0 [(0, .ref (aD G 0 32))] [] w := by
  unfold wp_X9_putBack at h
  refine jq_iconst (v := (0 : Int32)) dX9_putBack_0 hC (by decide) ?_
  refine jq_istore_n (L' := [(1, .int (0 : Int32)), (0, .ref (aD G 0 32))]) dX9_putBack_1 hC rfl (by decide) rfl ?_
  refine jq_less (L' := [(0, .ref (aD G 0 32)), (1, .int (0 : Int32))]) [1, 0] rfl ?_
  exact ok_X9_putBack_L2 hC he h
theorem mt_X9_putBack {G : Gt} {w : Wd} {Q : Wd → Prop} (h : wp_X9_putBack w Q) : Mt G D_X9_putBack [.ref (aD G 0 32)] w (qv Q) := Mt_of (by decide +kernel) rfl rfl (Nat.le_of_ble_eq_true rfl) (fun M Qf hC he => ok_X9_putBack hC he h)
/-! X9.nextLeg(I)I -/
theorem dX9_nextLeg_0 : decode cX9_nextLeg 0 = .ok (.iconst (-1), 1) := by decide +kernel
theorem dX9_nextLeg_1 : decode cX9_nextLeg 1 = .ok (.istore_n 2, 1) := by decide +kernel
theorem dX9_nextLeg_2 : decode cX9_nextLeg 2 = .ok (.iconst 0, 1) := by decide +kernel
theorem dX9_nextLeg_3 : decode cX9_nextLeg 3 = .ok (.istore_n 3, 1) := by decide +kernel
theorem dX9_nextLeg_4 : decode cX9_nextLeg 4 = .ok (.iload_n 3, 1) := by decide +kernel
theorem dX9_nextLeg_5 : decode cX9_nextLeg 5 = .ok (.aload_n 0, 1) := by decide +kernel
theorem dX9_nextLeg_6 : decode cX9_nextLeg 6 = .ok (.getfield 7, 3) := by decide +kernel
theorem dX9_nextLeg_9 : decode cX9_nextLeg 9 = .ok (.bipush 11, 2) := by decide +kernel
theorem dX9_nextLeg_11 : decode cX9_nextLeg 11 = .ok (.iaload, 1) := by decide +kernel
theorem dX9_nextLeg_12 : decode cX9_nextLeg 12 = .ok (.if_icmp .ge 94, 3) := by decide +kernel
theorem dX9_nextLeg_15 : decode cX9_nextLeg 15 = .ok (.bipush 100, 2) := by decide +kernel
theorem dX9_nextLeg_17 : decode cX9_nextLeg 17 = .ok (.aload_n 0, 1) := by decide +kernel
theorem dX9_nextLeg_18 : decode cX9_nextLeg 18 = .ok (.getfield 7, 3) := by decide +kernel
theorem dX9_nextLeg_21 : decode cX9_nextLeg 21 = .ok (.iload_n 3, 1) := by decide +kernel
theorem dX9_nextLeg_22 : decode cX9_nextLeg 22 = .ok (.iconst 2, 1) := by decide +kernel
theorem dX9_nextLeg_23 : decode cX9_nextLeg 23 = .ok (.invokestatic 76, 3) := by decide +kernel
theorem dX9_nextLeg_26 : decode cX9_nextLeg 26 = .ok (.iaload, 1) := by decide +kernel
theorem dX9_nextLeg_27 : decode cX9_nextLeg 27 = .ok (.imul, 1) := by decide +kernel
theorem dX9_nextLeg_28 : decode cX9_nextLeg 28 = .ok (.iload_n 3, 1) := by decide +kernel
theorem dX9_nextLeg_29 : decode cX9_nextLeg 29 = .ok (.iadd, 1) := by decide +kernel
theorem dX9_nextLeg_30 : decode cX9_nextLeg 30 = .ok (.istore 4, 2) := by decide +kernel
theorem dX9_nextLeg_32 : decode cX9_nextLeg 32 = .ok (.iload_n 1, 1) := by decide +kernel
theorem dX9_nextLeg_33 : decode cX9_nextLeg 33 = .ok (.iconst (-1), 1) := by decide +kernel
theorem dX9_nextLeg_34 : decode cX9_nextLeg 34 = .ok (.if_icmp .eq 23, 3) := by decide +kernel
theorem dX9_nextLeg_37 : decode cX9_nextLeg 37 = .ok (.iload 4, 2) := by decide +kernel
theorem dX9_nextLeg_39 : decode cX9_nextLeg 39 = .ok (.bipush 100, 2) := by decide +kernel
theorem dX9_nextLeg_41 : decode cX9_nextLeg 41 = .ok (.aload_n 0, 1) := by decide +kernel
theorem dX9_nextLeg_42 : decode cX9_nextLeg 42 = .ok (.getfield 7, 3) := by decide +kernel
theorem dX9_nextLeg_45 : decode cX9_nextLeg 45 = .ok (.iload_n 1, 1) := by decide +kernel
theorem dX9_nextLeg_46 : decode cX9_nextLeg 46 = .ok (.iconst 2, 1) := by decide +kernel
theorem dX9_nextLeg_47 : decode cX9_nextLeg 47 = .ok (.invokestatic 76, 3) := by decide +kernel
theorem dX9_nextLeg_50 : decode cX9_nextLeg 50 = .ok (.iaload, 1) := by decide +kernel
theorem dX9_nextLeg_51 : decode cX9_nextLeg 51 = .ok (.imul, 1) := by decide +kernel
theorem dX9_nextLeg_52 : decode cX9_nextLeg 52 = .ok (.iload_n 1, 1) := by decide +kernel
theorem dX9_nextLeg_53 : decode cX9_nextLeg 53 = .ok (.iadd, 1) := by decide +kernel
theorem dX9_nextLeg_54 : decode cX9_nextLeg 54 = .ok (.if_icmp .le 7, 3) := by decide +kernel
theorem dX9_nextLeg_57 : decode cX9_nextLeg 57 = .ok (.iconst 1, 1) := by decide +kernel
theorem dX9_nextLeg_58 : decode cX9_nextLeg 58 = .ok (.goto 4, 3) := by decide +kernel
theorem dX9_nextLeg_61 : decode cX9_nextLeg 61 = .ok (.iconst 0, 1) := by decide +kernel
theorem dX9_nextLeg_62 : decode cX9_nextLeg 62 = .ok (.istore 5, 2) := by decide +kernel
theorem dX9_nextLeg_64 : decode cX9_nextLeg 64 = .ok (.iload 5, 2) := by decide +kernel
theorem dX9_nextLeg_66 : decode cX9_nextLeg 66 = .ok (.ifCond .eq 32, 3) := by decide +kernel
theorem dX9_nextLeg_69 : decode cX9_nextLeg 69 = .ok (.iload_n 2, 1) := by decide +kernel
theorem dX9_nextLeg_70 : decode cX9_nextLeg 70 = .ok (.iconst (-1), 1) := by decide +kernel
theorem dX9_nextLeg_71 : decode cX9_nextLeg 71 = .ok (.if_icmp .eq 23, 3) := by decide +kernel
theorem dX9_nextLeg_74 : decode cX9_nextLeg 74 = .ok (.iload 4, 2) := by decide +kernel
theorem dX9_nextLeg_76 : decode cX9_nextLeg 76 = .ok (.bipush 100, 2) := by decide +kernel
theorem dX9_nextLeg_78 : decode cX9_nextLeg 78 = .ok (.aload_n 0, 1) := by decide +kernel
theorem dX9_nextLeg_79 : decode cX9_nextLeg 79 = .ok (.getfield 7, 3) := by decide +kernel
theorem dX9_nextLeg_82 : decode cX9_nextLeg 82 = .ok (.iload_n 2, 1) := by decide +kernel
theorem dX9_nextLeg_83 : decode cX9_nextLeg 83 = .ok (.iconst 2, 1) := by decide +kernel
theorem dX9_nextLeg_84 : decode cX9_nextLeg 84 = .ok (.invokestatic 76, 3) := by decide +kernel
theorem dX9_nextLeg_87 : decode cX9_nextLeg 87 = .ok (.iaload, 1) := by decide +kernel
theorem dX9_nextLeg_88 : decode cX9_nextLeg 88 = .ok (.imul, 1) := by decide +kernel
theorem dX9_nextLeg_89 : decode cX9_nextLeg 89 = .ok (.iload_n 2, 1) := by decide +kernel
theorem dX9_nextLeg_90 : decode cX9_nextLeg 90 = .ok (.iadd, 1) := by decide +kernel
theorem dX9_nextLeg_91 : decode cX9_nextLeg 91 = .ok (.if_icmp .ge 7, 3) := by decide +kernel
theorem dX9_nextLeg_94 : decode cX9_nextLeg 94 = .ok (.iload_n 3, 1) := by decide +kernel
theorem dX9_nextLeg_95 : decode cX9_nextLeg 95 = .ok (.goto 4, 3) := by decide +kernel
theorem dX9_nextLeg_98 : decode cX9_nextLeg 98 = .ok (.iload_n 2, 1) := by decide +kernel
theorem dX9_nextLeg_99 : decode cX9_nextLeg 99 = .ok (.istore_n 2, 1) := by decide +kernel
theorem dX9_nextLeg_100 : decode cX9_nextLeg 100 = .ok (.iinc 3 1, 3) := by decide +kernel
theorem dX9_nextLeg_103 : decode cX9_nextLeg 103 = .ok (.goto (-99), 3) := by decide +kernel
theorem dX9_nextLeg_106 : decode cX9_nextLeg 106 = .ok (.iload_n 2, 1) := by decide +kernel
theorem dX9_nextLeg_107 : decode cX9_nextLeg 107 = .ok (.ireturn, 1) := by decide +kernel
set_option maxRecDepth 20000 in
theorem ggX9_nextLeg_X9_of : GoodIn wsX9_nextLeg wsX9_of := goodIn_r _ [5] (by decide +kernel) (by decide +kernel)
set_option maxRecDepth 20000 in
theorem gX9_nextLeg_X9_of : GoodIn wsX9_nextLeg (va_wsS RX9 76 yX9_of wsX9_of) := goodIn_app (goodIn_of _ (by decide +kernel)) ggX9_nextLeg_X9_of
def D_X9_nextLeg : Md := (yX9_nextLeg, cX9_nextLeg, 6, (some .int), wsX9_nextLeg, RX9, { frames := 1, cells := 0, slots := 0, locals := 21 })
theorem nm_X9_nextLeg : nmD D_X9_nextLeg 1 := ⟨rfl, by decide +kernel, by decide +kernel, by decide +kernel⟩
theorem hi_X9_nextLeg_X9 : ∀ w ∈ u_ws RX9 TX9 25, w ∈ wsX9_nextLeg := by decide +kernel
theorem hl_X9_nextLeg_7 : Cond.fieldLink RX9 7 "LevelLoopsModel" "s" "[I" ∈ wsX9_nextLeg := by decide +kernel
def wp_X9_nextLeg_J98 (x1 : Int32) (x2 : Int32) (x3 : Int32) (w : Wd) (Q : Int32 → Prop) (K4 : Int32 → Int32 → Prop) : Prop :=
  K4 x2 (x3 + 1)
def wp_X9_nextLeg_J62 (x1 : Int32) (x2 : Int32) (x3 : Int32) (x4 : Int32) (s0 : Int32) (w : Wd) (Q : Int32 → Prop) (K4 : Int32 → Int32 → Prop) : Prop :=
  ((s0 = 0 → wp_X9_nextLeg_J98 x1 x2 x3 w Q K4) ∧ (¬ s0 = 0 → ((x2 = (-1 : Int32) → K4 x3 (x3 + 1)) ∧ (¬ x2 = (-1 : Int32) → wp_X9_of x2 (2 : Int32) (fun r84 => vp_in r84 95 ∧ (((((100 : Int32) * (wi w 0 33 r84.toNatClampNeg)) + x2) ≤ x4 → wp_X9_nextLeg_J98 x1 x2 x3 w Q K4) ∧ (¬ (((100 : Int32) * (wi w 0 33 r84.toNatClampNeg)) + x2) ≤ x4 → K4 x3 (x3 + 1))))))))
def wp_X9_nextLeg_B4 (x1 : Int32) (x2 : Int32) (x3 : Int32) (w : Wd) (Q : Int32 → Prop) (K4 : Int32 → Int32 → Prop) : Prop :=
  (((wi w 0 33 11) ≤ x3 → Q x2) ∧ (¬ (wi w 0 33 11) ≤ x3 → wp_X9_of x3 (2 : Int32) (fun r23 => vp_in r23 95 ∧ ((x1 = (-1 : Int32) → wp_X9_nextLeg_J62 x1 x2 x3 (((100 : Int32) * (wi w 0 33 r23.toNatClampNeg)) + x3) (1 : Int32) w Q K4) ∧ (¬ x1 = (-1 : Int32) → wp_X9_of x1 (2 : Int32) (fun r47 => vp_in r47 95 ∧ (((((100 : Int32) * (wi w 0 33 r23.toNatClampNeg)) + x3) ≤ (((100 : Int32) * (wi w 0 33 r47.toNatClampNeg)) + x1) → wp_X9_nextLeg_J62 x1 x2 x3 (((100 : Int32) * (wi w 0 33 r23.toNatClampNeg)) + x3) (0 : Int32) w Q K4) ∧ (¬ (((100 : Int32) * (wi w 0 33 r23.toNatClampNeg)) + x3) ≤ (((100 : Int32) * (wi w 0 33 r47.toNatClampNeg)) + x1) → wp_X9_nextLeg_J62 x1 x2 x3 (((100 : Int32) * (wi w 0 33 r23.toNatClampNeg)) + x3) (1 : Int32) w Q K4))))))))
def wp_X9_nextLeg_L4 (x1 : Int32) (x2 : Int32) (x3 : Int32) (w : Wd) (Q : Int32 → Prop) : Prop :=
  ∃ (I : Int32 → Int32 → Prop) (μ : Int32 → Int32 → Nat), I x2 x3 ∧ ∀ (x2 : Int32) (x3 : Int32), I x2 x3 → wp_X9_nextLeg_B4 x1 x2 x3 w Q (fun x2' x3' => I x2' x3' ∧ μ x2' x3' < μ x2 x3)
def wp_X9_nextLeg (x1 : Int32) (w : Wd) (Q : Int32 → Prop) : Prop :=
  wp_X9_nextLeg_L4 x1 (-1 : Int32) (0 : Int32) w Q
theorem ok_X9_nextLeg_J98 {G : Gt} {M : Mx} {Qf : State → Prop} {x1 : Int32} {x2 : Int32} {x3 : Int32} {w : Wd} {Q : Int32 → Prop} {K4 : Int32 → Int32 → Prop} (hC : cx G D_X9_nextLeg M) (he : en G M (qip w Q) Qf) (h : wp_X9_nextLeg_J98 x1 x2 x3 w Q K4) (hK4 : ∀ (x2 : Int32) (x3 : Int32), K4 x2 x3 → jq G D_X9_nextLeg M Qf 4 [(0, .ref (aD G 0 32)), (1, .int x1), (2, .int x2), (3, .int x3)] [] w) : jq G D_X9_nextLeg M Qf 98 [(0, .ref (aD G 0 32)), (1, .int x1), (2, .int x2), (3, .int x3)] [] w := by
  unfold wp_X9_nextLeg_J98 at h
  refine jq_iload_n (k0 := 2) dX9_nextLeg_98 hC rfl rfl ?_
  refine jq_istore_n (L' := [(2, .int x2), (0, .ref (aD G 0 32)), (1, .int x1), (3, .int x3)]) dX9_nextLeg_99 hC rfl (by decide) rfl ?_
  refine jq_iinc (k0 := 3) (v := (x3 + 1)) (L' := [(3, .int (x3 + 1)), (2, .int x2), (0, .ref (aD G 0 32)), (1, .int x1)]) dX9_nextLeg_100 hC rfl rfl (by decide) rfl ?_
  refine jq_goto (tgt := 4) dX9_nextLeg_103 hC (by decide) ?_
  exact jq_less (L' := [(0, .ref (aD G 0 32)), (1, .int x1), (2, .int x2), (3, .int (x3 + 1))]) [2, 3, 1, 0] rfl (hK4 _ _ h)
theorem ok_X9_nextLeg_J62 {G : Gt} {M : Mx} {Qf : State → Prop} {x1 : Int32} {x2 : Int32} {x3 : Int32} {x4 : Int32} {s0 : Int32} {w : Wd} {Q : Int32 → Prop} {K4 : Int32 → Int32 → Prop} (hC : cx G D_X9_nextLeg M) (he : en G M (qip w Q) Qf) (h : wp_X9_nextLeg_J62 x1 x2 x3 x4 s0 w Q K4) (hK4 : ∀ (x2 : Int32) (x3 : Int32), K4 x2 x3 → jq G D_X9_nextLeg M Qf 4 [(0, .ref (aD G 0 32)), (1, .int x1), (2, .int x2), (3, .int x3)] [] w) : jq G D_X9_nextLeg M Qf 62 [(0, .ref (aD G 0 32)), (1, .int x1), (2, .int x2), (3, .int x3), (4, .int x4)] [.int s0] w := by
  unfold wp_X9_nextLeg_J62 at h
  refine jq_istore (L' := [(5, .int s0), (0, .ref (aD G 0 32)), (1, .int x1), (2, .int x2), (3, .int x3), (4, .int x4)]) dX9_nextLeg_62 hC (by decide) rfl ?_
  refine jq_iload (k0 := 0) dX9_nextLeg_64 hC rfl ?_
  refine jq_if_eq (tgt := 98) dX9_nextLeg_66 hC (by decide) (fun c66 => ?_) (fun c66 => ?_)
  · have h := h.1 c66
    refine jq_less (L' := [(0, .ref (aD G 0 32)), (1, .int x1), (2, .int x2), (3, .int x3)]) [1, 2, 3, 4] rfl ?_
    exact ok_X9_nextLeg_J98 hC he h hK4
  · have h := h.2 c66
    refine jq_iload_n (k0 := 3) dX9_nextLeg_69 hC rfl rfl ?_
    refine jq_iconst (v := (-1 : Int32)) dX9_nextLeg_70 hC (by decide) ?_
    refine jq_icmp_eq (tgt := 94) dX9_nextLeg_71 hC (by decide) (fun c71 => ?_) (fun c71 => ?_)
    · have h := h.1 c71
      refine jq_iload_n (k0 := 4) dX9_nextLeg_94 hC rfl rfl ?_
      refine jq_goto (tgt := 99) dX9_nextLeg_95 hC (by decide) ?_
      refine jq_istore_n (L' := [(2, .int x3), (5, .int s0), (0, .ref (aD G 0 32)), (1, .int x1), (3, .int x3), (4, .int x4)]) dX9_nextLeg_99 hC rfl (by decide) rfl ?_
      refine jq_iinc (k0 := 4) (v := (x3 + 1)) (L' := [(3, .int (x3 + 1)), (2, .int x3), (5, .int s0), (0, .ref (aD G 0 32)), (1, .int x1), (4, .int x4)]) dX9_nextLeg_100 hC rfl rfl (by decide) rfl ?_
      refine jq_goto (tgt := 4) dX9_nextLeg_103 hC (by decide) ?_
      exact jq_less (L' := [(0, .ref (aD G 0 32)), (1, .int x1), (2, .int x3), (3, .int (x3 + 1))]) [3, 4, 1, 0] rfl (hK4 _ _ h)
    · have h := h.2 c71
      refine jq_iload (k0 := 5) dX9_nextLeg_74 hC rfl ?_
      refine jq_bipush (v := (100 : Int32)) dX9_nextLeg_76 hC (by decide) ?_
      refine jq_aload_n (k0 := 1) dX9_nextLeg_78 hC rfl rfl ?_
      refine jq_get (k0 := 1) (n := 0) (o := 32) dX9_nextLeg_79 hC (cl_0 (by decide)) rfl rfl hi_X9_nextLeg_X9 (by decide) hl_X9_nextLeg_7 rfl rfl ?_
      refine jq_iload_n (k0 := 3) dX9_nextLeg_82 hC rfl rfl ?_
      refine jq_iconst (v := (2 : Int32)) dX9_nextLeg_83 hC (by decide) ?_
      refine jq_callS (As := [.int x2, .int (2 : Int32)]) (rest := [.ref (aD G 0 33), .int (100 : Int32), .int x4]) (D' := D_X9_of) dX9_nextLeg_84 hC (mt_X9_of h) gX9_nextLeg_X9_of rfl ⟨rfl, rfl, Nat.le_of_ble_eq_true rfl, Nat.le_of_ble_eq_true rfl⟩ nm_X9_of rfl (Nat.le_of_ble_eq_true rfl) (kIp fun r84 h => ?_)
      obtain ⟨b87, h⟩ := h
      refine jq_iald (n := 0) (o := 33) (j := r84.toNatClampNeg) dX9_nextLeg_87 hC (cl_0 (by decide)) rfl b87 rfl ?_
      refine jq_imul dX9_nextLeg_88 hC ?_
      refine jq_iload_n (k0 := 3) dX9_nextLeg_89 hC rfl rfl ?_
      refine jq_iadd dX9_nextLeg_90 hC ?_
      refine jq_icmp_ge (tgt := 98) dX9_nextLeg_91 hC (by decide) (fun c91 => ?_) (fun c91 => ?_)
      · have h := h.1 c91
        refine jq_less (L' := [(0, .ref (aD G 0 32)), (1, .int x1), (2, .int x2), (3, .int x3)]) [1, 2, 3, 4] rfl ?_
        exact ok_X9_nextLeg_J98 hC he h hK4
      · have h := h.2 c91
        refine jq_iload_n (k0 := 4) dX9_nextLeg_94 hC rfl rfl ?_
        refine jq_goto (tgt := 99) dX9_nextLeg_95 hC (by decide) ?_
        refine jq_istore_n (L' := [(2, .int x3), (5, .int s0), (0, .ref (aD G 0 32)), (1, .int x1), (3, .int x3), (4, .int x4)]) dX9_nextLeg_99 hC rfl (by decide) rfl ?_
        refine jq_iinc (k0 := 4) (v := (x3 + 1)) (L' := [(3, .int (x3 + 1)), (2, .int x3), (5, .int s0), (0, .ref (aD G 0 32)), (1, .int x1), (4, .int x4)]) dX9_nextLeg_100 hC rfl rfl (by decide) rfl ?_
        refine jq_goto (tgt := 4) dX9_nextLeg_103 hC (by decide) ?_
        exact jq_less (L' := [(0, .ref (aD G 0 32)), (1, .int x1), (2, .int x3), (3, .int (x3 + 1))]) [3, 4, 1, 0] rfl (hK4 _ _ h)
theorem ok_X9_nextLeg_B4 {G : Gt} {M : Mx} {Qf : State → Prop} {x1 : Int32} {x2 : Int32} {x3 : Int32} {w : Wd} {Q : Int32 → Prop} {K4 : Int32 → Int32 → Prop} (hC : cx G D_X9_nextLeg M) (he : en G M (qip w Q) Qf) (h : wp_X9_nextLeg_B4 x1 x2 x3 w Q K4) (hK4 : ∀ (x2 : Int32) (x3 : Int32), K4 x2 x3 → jq G D_X9_nextLeg M Qf 4 [(0, .ref (aD G 0 32)), (1, .int x1), (2, .int x2), (3, .int x3)] [] w) : jq G D_X9_nextLeg M Qf 4 [(0, .ref (aD G 0 32)), (1, .int x1), (2, .int x2), (3, .int x3)] [] w := by
  unfold wp_X9_nextLeg_B4 at h
  refine jq_iload_n (k0 := 3) dX9_nextLeg_4 hC rfl rfl ?_
  refine jq_aload_n (k0 := 0) dX9_nextLeg_5 hC rfl rfl ?_
  refine jq_get (k0 := 1) (n := 0) (o := 32) dX9_nextLeg_6 hC (cl_0 (by decide)) rfl rfl hi_X9_nextLeg_X9 (by decide) hl_X9_nextLeg_7 rfl rfl ?_
  refine jq_bipush (v := (11 : Int32)) dX9_nextLeg_9 hC (by decide) ?_
  refine jq_iald (n := 0) (o := 33) (j := 11) dX9_nextLeg_11 hC (cl_0 (by decide)) rfl (vin (by decide)) (by decide) ?_
  refine jq_icmp_ge (tgt := 106) dX9_nextLeg_12 hC (by decide) (fun c12 => ?_) (fun c12 => ?_)
  · have h := h.1 c12
    refine jq_iload_n (k0 := 2) dX9_nextLeg_106 hC rfl rfl ?_
    exact jq_iret dX9_nextLeg_107 hC he rfl ⟨_, rfl, rfl, h⟩
  · have h := h.2 c12
    refine jq_bipush (v := (100 : Int32)) dX9_nextLeg_15 hC (by decide) ?_
    refine jq_aload_n (k0 := 0) dX9_nextLeg_17 hC rfl rfl ?_
    refine jq_get (k0 := 1) (n := 0) (o := 32) dX9_nextLeg_18 hC (cl_0 (by decide)) rfl rfl hi_X9_nextLeg_X9 (by decide) hl_X9_nextLeg_7 rfl rfl ?_
    refine jq_iload_n (k0 := 3) dX9_nextLeg_21 hC rfl rfl ?_
    refine jq_iconst (v := (2 : Int32)) dX9_nextLeg_22 hC (by decide) ?_
    refine jq_callS (As := [.int x3, .int (2 : Int32)]) (rest := [.ref (aD G 0 33), .int (100 : Int32)]) (D' := D_X9_of) dX9_nextLeg_23 hC (mt_X9_of h) gX9_nextLeg_X9_of rfl ⟨rfl, rfl, Nat.le_of_ble_eq_true rfl, Nat.le_of_ble_eq_true rfl⟩ nm_X9_of rfl (Nat.le_of_ble_eq_true rfl) (kIp fun r23 h => ?_)
    obtain ⟨b26, h⟩ := h
    refine jq_iald (n := 0) (o := 33) (j := r23.toNatClampNeg) dX9_nextLeg_26 hC (cl_0 (by decide)) rfl b26 rfl ?_
    refine jq_imul dX9_nextLeg_27 hC ?_
    refine jq_iload_n (k0 := 3) dX9_nextLeg_28 hC rfl rfl ?_
    refine jq_iadd dX9_nextLeg_29 hC ?_
    refine jq_istore (L' := [(4, .int (((100 : Int32) * (wi w 0 33 r23.toNatClampNeg)) + x3)), (0, .ref (aD G 0 32)), (1, .int x1), (2, .int x2), (3, .int x3)]) dX9_nextLeg_30 hC (by decide) rfl ?_
    refine jq_iload_n (k0 := 2) dX9_nextLeg_32 hC rfl rfl ?_
    refine jq_iconst (v := (-1 : Int32)) dX9_nextLeg_33 hC (by decide) ?_
    refine jq_icmp_eq (tgt := 57) dX9_nextLeg_34 hC (by decide) (fun c34 => ?_) (fun c34 => ?_)
    · have h := h.1 c34
      refine jq_iconst (v := (1 : Int32)) dX9_nextLeg_57 hC (by decide) ?_
      refine jq_goto (tgt := 62) dX9_nextLeg_58 hC (by decide) ?_
      refine jq_less (L' := [(0, .ref (aD G 0 32)), (1, .int x1), (2, .int x2), (3, .int x3), (4, .int (((100 : Int32) * (wi w 0 33 r23.toNatClampNeg)) + x3))]) [1, 2, 3, 4, 0] rfl ?_
      exact ok_X9_nextLeg_J62 hC he h hK4
    · have h := h.2 c34
      refine jq_iload (k0 := 0) dX9_nextLeg_37 hC rfl ?_
      refine jq_bipush (v := (100 : Int32)) dX9_nextLeg_39 hC (by decide) ?_
      refine jq_aload_n (k0 := 1) dX9_nextLeg_41 hC rfl rfl ?_
      refine jq_get (k0 := 1) (n := 0) (o := 32) dX9_nextLeg_42 hC (cl_0 (by decide)) rfl rfl hi_X9_nextLeg_X9 (by decide) hl_X9_nextLeg_7 rfl rfl ?_
      refine jq_iload_n (k0 := 2) dX9_nextLeg_45 hC rfl rfl ?_
      refine jq_iconst (v := (2 : Int32)) dX9_nextLeg_46 hC (by decide) ?_
      refine jq_callS (As := [.int x1, .int (2 : Int32)]) (rest := [.ref (aD G 0 33), .int (100 : Int32), .int (((100 : Int32) * (wi w 0 33 r23.toNatClampNeg)) + x3)]) (D' := D_X9_of) dX9_nextLeg_47 hC (mt_X9_of h) gX9_nextLeg_X9_of rfl ⟨rfl, rfl, Nat.le_of_ble_eq_true rfl, Nat.le_of_ble_eq_true rfl⟩ nm_X9_of rfl (Nat.le_of_ble_eq_true rfl) (kIp fun r47 h => ?_)
      obtain ⟨b50, h⟩ := h
      refine jq_iald (n := 0) (o := 33) (j := r47.toNatClampNeg) dX9_nextLeg_50 hC (cl_0 (by decide)) rfl b50 rfl ?_
      refine jq_imul dX9_nextLeg_51 hC ?_
      refine jq_iload_n (k0 := 2) dX9_nextLeg_52 hC rfl rfl ?_
      refine jq_iadd dX9_nextLeg_53 hC ?_
      refine jq_icmp_le (tgt := 61) dX9_nextLeg_54 hC (by decide) (fun c54 => ?_) (fun c54 => ?_)
      · have h := h.1 c54
        refine jq_iconst (v := (0 : Int32)) dX9_nextLeg_61 hC (by decide) ?_
        refine jq_less (L' := [(0, .ref (aD G 0 32)), (1, .int x1), (2, .int x2), (3, .int x3), (4, .int (((100 : Int32) * (wi w 0 33 r23.toNatClampNeg)) + x3))]) [1, 2, 3, 4, 0] rfl ?_
        exact ok_X9_nextLeg_J62 hC he h hK4
      · have h := h.2 c54
        refine jq_iconst (v := (1 : Int32)) dX9_nextLeg_57 hC (by decide) ?_
        refine jq_goto (tgt := 62) dX9_nextLeg_58 hC (by decide) ?_
        refine jq_less (L' := [(0, .ref (aD G 0 32)), (1, .int x1), (2, .int x2), (3, .int x3), (4, .int (((100 : Int32) * (wi w 0 33 r23.toNatClampNeg)) + x3))]) [1, 2, 3, 4, 0] rfl ?_
        exact ok_X9_nextLeg_J62 hC he h hK4
theorem ok_X9_nextLeg_L4 {G : Gt} {M : Mx} {Qf : State → Prop} {x1 : Int32} {x2 : Int32} {x3 : Int32} {w : Wd} {Q : Int32 → Prop} (hC : cx G D_X9_nextLeg M) (he : en G M (qip w Q) Qf) (h : wp_X9_nextLeg_L4 x1 x2 x3 w Q) : jq G D_X9_nextLeg M Qf 4 [(0, .ref (aD G 0 32)), (1, .int x1), (2, .int x2), (3, .int x3)] [] w := by
  unfold wp_X9_nextLeg_L4 at h
  obtain ⟨I, μ, h0, hs⟩ := h
  exact lp_ind (σ := Int32 × Int32) (P := fun s => jq G D_X9_nextLeg M Qf 4 [(0, .ref (aD G 0 32)), (1, .int x1), (2, .int s.1), (3, .int s.2)] [] w) (fun s => I s.1 s.2) (fun s => μ s.1 s.2) (fun s h1 ih => ok_X9_nextLeg_B4 hC he (hs s.1 s.2 h1) (fun x2' x3' h => ih (x2', x3') h.1 h.2)) (x2, x3) h0
theorem ok_X9_nextLeg {G : Gt} {M : Mx} {Qf : State → Prop} {x1 : Int32} {w : Wd} {Q : Int32 → Prop} (hC : cx G D_X9_nextLeg M) (he : en G M (qip w Q) Qf) (h : wp_X9_nextLeg x1 w Q) : jq G D_X9_nextLeg M Qf 0 [(0, .ref (aD G 0 32)), (1, .int x1)] [] w := by
  unfold wp_X9_nextLeg at h
  refine jq_iconst (v := (-1 : Int32)) dX9_nextLeg_0 hC (by decide) ?_
  refine jq_istore_n (L' := [(2, .int (-1 : Int32)), (0, .ref (aD G 0 32)), (1, .int x1)]) dX9_nextLeg_1 hC rfl (by decide) rfl ?_
  refine jq_iconst (v := (0 : Int32)) dX9_nextLeg_2 hC (by decide) ?_
  refine jq_istore_n (L' := [(3, .int (0 : Int32)), (2, .int (-1 : Int32)), (0, .ref (aD G 0 32)), (1, .int x1)]) dX9_nextLeg_3 hC rfl (by decide) rfl ?_
  refine jq_less (L' := [(0, .ref (aD G 0 32)), (1, .int x1), (2, .int (-1 : Int32)), (3, .int (0 : Int32))]) [2, 3, 1, 0] rfl ?_
  exact ok_X9_nextLeg_L4 hC he h
theorem mt_X9_nextLeg {G : Gt} {x1 : Int32} {w : Wd} {Q : Int32 → Prop} (h : wp_X9_nextLeg x1 w Q) : Mt G D_X9_nextLeg [.ref (aD G 0 32), .int x1] w (qip w Q) := Mt_of (by decide +kernel) rfl rfl (Nat.le_of_ble_eq_true rfl) (fun M Qf hC he => ok_X9_nextLeg hC he h)
/-! X9.join(II)V -/
theorem dX9_join_0 : decode cX9_join 0 = .ok (.aload_n 0, 1) := by decide +kernel
theorem dX9_join_1 : decode cX9_join 1 = .ok (.getfield 22, 3) := by decide +kernel
theorem dX9_join_4 : decode cX9_join 4 = .ok (.iload_n 1, 1) := by decide +kernel
theorem dX9_join_5 : decode cX9_join 5 = .ok (.iaload, 1) := by decide +kernel
theorem dX9_join_6 : decode cX9_join 6 = .ok (.aload_n 0, 1) := by decide +kernel
theorem dX9_join_7 : decode cX9_join 7 = .ok (.getfield 22, 3) := by decide +kernel
theorem dX9_join_10 : decode cX9_join 10 = .ok (.iload_n 2, 1) := by decide +kernel
theorem dX9_join_11 : decode cX9_join 11 = .ok (.iaload, 1) := by decide +kernel
theorem dX9_join_12 : decode cX9_join 12 = .ok (.if_icmp .ge 12, 3) := by decide +kernel
theorem dX9_join_15 : decode cX9_join 15 = .ok (.aload_n 0, 1) := by decide +kernel
theorem dX9_join_16 : decode cX9_join 16 = .ok (.getfield 22, 3) := by decide +kernel
theorem dX9_join_19 : decode cX9_join 19 = .ok (.iload_n 1, 1) := by decide +kernel
theorem dX9_join_20 : decode cX9_join 20 = .ok (.iaload, 1) := by decide +kernel
theorem dX9_join_21 : decode cX9_join 21 = .ok (.goto 9, 3) := by decide +kernel
theorem dX9_join_24 : decode cX9_join 24 = .ok (.aload_n 0, 1) := by decide +kernel
theorem dX9_join_25 : decode cX9_join 25 = .ok (.getfield 22, 3) := by decide +kernel
theorem dX9_join_28 : decode cX9_join 28 = .ok (.iload_n 2, 1) := by decide +kernel
theorem dX9_join_29 : decode cX9_join 29 = .ok (.iaload, 1) := by decide +kernel
theorem dX9_join_30 : decode cX9_join 30 = .ok (.istore_n 3, 1) := by decide +kernel
theorem dX9_join_31 : decode cX9_join 31 = .ok (.aload_n 0, 1) := by decide +kernel
theorem dX9_join_32 : decode cX9_join 32 = .ok (.getfield 22, 3) := by decide +kernel
theorem dX9_join_35 : decode cX9_join 35 = .ok (.iload_n 1, 1) := by decide +kernel
theorem dX9_join_36 : decode cX9_join 36 = .ok (.iaload, 1) := by decide +kernel
theorem dX9_join_37 : decode cX9_join 37 = .ok (.aload_n 0, 1) := by decide +kernel
theorem dX9_join_38 : decode cX9_join 38 = .ok (.getfield 22, 3) := by decide +kernel
theorem dX9_join_41 : decode cX9_join 41 = .ok (.iload_n 2, 1) := by decide +kernel
theorem dX9_join_42 : decode cX9_join 42 = .ok (.iaload, 1) := by decide +kernel
theorem dX9_join_43 : decode cX9_join 43 = .ok (.if_icmp .ge 12, 3) := by decide +kernel
theorem dX9_join_46 : decode cX9_join 46 = .ok (.aload_n 0, 1) := by decide +kernel
theorem dX9_join_47 : decode cX9_join 47 = .ok (.getfield 22, 3) := by decide +kernel
theorem dX9_join_50 : decode cX9_join 50 = .ok (.iload_n 2, 1) := by decide +kernel
theorem dX9_join_51 : decode cX9_join 51 = .ok (.iaload, 1) := by decide +kernel
theorem dX9_join_52 : decode cX9_join 52 = .ok (.goto 9, 3) := by decide +kernel
theorem dX9_join_55 : decode cX9_join 55 = .ok (.aload_n 0, 1) := by decide +kernel
theorem dX9_join_56 : decode cX9_join 56 = .ok (.getfield 22, 3) := by decide +kernel
theorem dX9_join_59 : decode cX9_join 59 = .ok (.iload_n 1, 1) := by decide +kernel
theorem dX9_join_60 : decode cX9_join 60 = .ok (.iaload, 1) := by decide +kernel
theorem dX9_join_61 : decode cX9_join 61 = .ok (.istore 4, 2) := by decide +kernel
theorem dX9_join_63 : decode cX9_join 63 = .ok (.iconst 0, 1) := by decide +kernel
theorem dX9_join_64 : decode cX9_join 64 = .ok (.istore 5, 2) := by decide +kernel
theorem dX9_join_66 : decode cX9_join 66 = .ok (.iload 5, 2) := by decide +kernel
theorem dX9_join_68 : decode cX9_join 68 = .ok (.aload_n 0, 1) := by decide +kernel
theorem dX9_join_69 : decode cX9_join 69 = .ok (.getfield 7, 3) := by decide +kernel
theorem dX9_join_72 : decode cX9_join 72 = .ok (.iconst 0, 1) := by decide +kernel
theorem dX9_join_73 : decode cX9_join 73 = .ok (.iaload, 1) := by decide +kernel
theorem dX9_join_74 : decode cX9_join 74 = .ok (.if_icmp .ge 39, 3) := by decide +kernel
theorem dX9_join_77 : decode cX9_join 77 = .ok (.aload_n 0, 1) := by decide +kernel
theorem dX9_join_78 : decode cX9_join 78 = .ok (.getfield 22, 3) := by decide +kernel
theorem dX9_join_81 : decode cX9_join 81 = .ok (.iload 5, 2) := by decide +kernel
theorem dX9_join_83 : decode cX9_join 83 = .ok (.aload_n 0, 1) := by decide +kernel
theorem dX9_join_84 : decode cX9_join 84 = .ok (.getfield 22, 3) := by decide +kernel
theorem dX9_join_87 : decode cX9_join 87 = .ok (.iload 5, 2) := by decide +kernel
theorem dX9_join_89 : decode cX9_join 89 = .ok (.iaload, 1) := by decide +kernel
theorem dX9_join_90 : decode cX9_join 90 = .ok (.iload 4, 2) := by decide +kernel
theorem dX9_join_92 : decode cX9_join 92 = .ok (.if_icmp .ne 7, 3) := by decide +kernel
theorem dX9_join_95 : decode cX9_join 95 = .ok (.iload_n 3, 1) := by decide +kernel
theorem dX9_join_96 : decode cX9_join 96 = .ok (.goto 10, 3) := by decide +kernel
theorem dX9_join_99 : decode cX9_join 99 = .ok (.aload_n 0, 1) := by decide +kernel
theorem dX9_join_100 : decode cX9_join 100 = .ok (.getfield 22, 3) := by decide +kernel
theorem dX9_join_103 : decode cX9_join 103 = .ok (.iload 5, 2) := by decide +kernel
theorem dX9_join_105 : decode cX9_join 105 = .ok (.iaload, 1) := by decide +kernel
theorem dX9_join_106 : decode cX9_join 106 = .ok (.iastore, 1) := by decide +kernel
theorem dX9_join_107 : decode cX9_join 107 = .ok (.iinc 5 1, 3) := by decide +kernel
theorem dX9_join_110 : decode cX9_join 110 = .ok (.goto (-44), 3) := by decide +kernel
theorem dX9_join_113 : decode cX9_join 113 = .ok (.return_, 1) := by decide +kernel
def D_X9_join : Md := (yX9_join, cX9_join, 6, none, wsX9_join, RX9, { frames := 0, cells := 0, slots := 0, locals := 0 })
theorem nm_X9_join : nmD D_X9_join 2 := ⟨rfl, by decide +kernel, by decide +kernel, by decide +kernel⟩
theorem hi_X9_join_X9 : ∀ w ∈ u_ws RX9 TX9 25, w ∈ wsX9_join := by decide +kernel
theorem hl_X9_join_7 : Cond.fieldLink RX9 7 "LevelLoopsModel" "s" "[I" ∈ wsX9_join := by decide +kernel
theorem hl_X9_join_22 : Cond.fieldLink RX9 22 "LevelLoopsModel" "net" "[I" ∈ wsX9_join := by decide +kernel
def wp_X9_join_J106 (x3 : Int32) (x4 : Int32) (x5 : Int32) (s0 : Int32) (s1 : Int32) (w : Wd) (Q : Wd → Prop) (K66 : Int32 → Wd → Prop) : Prop :=
  vp_in s1 10 ∧ (∀ w106 : Wd, w106 = (sI w 0 37 s1.toNatClampNeg s0) → K66 (x5 + 1) w106)
def wp_X9_join_B66 (x3 : Int32) (x4 : Int32) (x5 : Int32) (w : Wd) (Q : Wd → Prop) (K66 : Int32 → Wd → Prop) : Prop :=
  (((wi w 0 33 0) ≤ x5 → Q w) ∧ (¬ (wi w 0 33 0) ≤ x5 → vp_in x5 10 ∧ ((¬ (wi w 0 37 x5.toNatClampNeg) = x4 → vp_in x5 10 ∧ wp_X9_join_J106 x3 x4 x5 (wi w 0 37 x5.toNatClampNeg) x5 w Q K66) ∧ ((wi w 0 37 x5.toNatClampNeg) = x4 → wp_X9_join_J106 x3 x4 x5 x3 x5 w Q K66))))
def wp_X9_join_L66 (x3 : Int32) (x4 : Int32) (x5 : Int32) (w : Wd) (Q : Wd → Prop) : Prop :=
  ∃ (I : Int32 → Wd → Prop) (μ : Int32 → Wd → Nat), I x5 w ∧ ∀ (x5 : Int32) (w : Wd), I x5 w → wp_X9_join_B66 x3 x4 x5 w Q (fun x5' w' => I x5' w' ∧ μ x5' w' < μ x5 w)
def wp_X9_join_J30 (x1 : Int32) (x2 : Int32) (s0 : Int32) (w : Wd) (Q : Wd → Prop) : Prop :=
  vp_in x1 10 ∧ vp_in x2 10 ∧ (((wi w 0 37 x2.toNatClampNeg) ≤ (wi w 0 37 x1.toNatClampNeg) → vp_in x1 10 ∧ wp_X9_join_L66 s0 (wi w 0 37 x1.toNatClampNeg) (0 : Int32) w Q) ∧ (¬ (wi w 0 37 x2.toNatClampNeg) ≤ (wi w 0 37 x1.toNatClampNeg) → vp_in x2 10 ∧ wp_X9_join_L66 s0 (wi w 0 37 x2.toNatClampNeg) (0 : Int32) w Q))
def wp_X9_join (x1 : Int32) (x2 : Int32) (w : Wd) (Q : Wd → Prop) : Prop :=
  vp_in x1 10 ∧ vp_in x2 10 ∧ (((wi w 0 37 x2.toNatClampNeg) ≤ (wi w 0 37 x1.toNatClampNeg) → vp_in x2 10 ∧ wp_X9_join_J30 x1 x2 (wi w 0 37 x2.toNatClampNeg) w Q) ∧ (¬ (wi w 0 37 x2.toNatClampNeg) ≤ (wi w 0 37 x1.toNatClampNeg) → vp_in x1 10 ∧ wp_X9_join_J30 x1 x2 (wi w 0 37 x1.toNatClampNeg) w Q))
theorem ok_X9_join_J106 {G : Gt} {M : Mx} {Qf : State → Prop} {x3 : Int32} {x4 : Int32} {x5 : Int32} {s0 : Int32} {s1 : Int32} {w : Wd} {Q : Wd → Prop} {K66 : Int32 → Wd → Prop} (hC : cx G D_X9_join M) (he : en G M (qv Q) Qf) (h : wp_X9_join_J106 x3 x4 x5 s0 s1 w Q K66) (hK66 : ∀ (x5 : Int32) (w : Wd), K66 x5 w → jq G D_X9_join M Qf 66 [(0, .ref (aD G 0 32)), (3, .int x3), (4, .int x4), (5, .int x5)] [] w) : jq G D_X9_join M Qf 106 [(0, .ref (aD G 0 32)), (3, .int x3), (4, .int x4), (5, .int x5)] [.int s0, .int s1, .ref (aD G 0 37)] w := by
  unfold wp_X9_join_J106 at h
  obtain ⟨b106, h⟩ := h
  refine jq_iast (n := 0) (o := 37) (j := s1.toNatClampNeg) dX9_join_106 hC (cl_0 (by decide)) (fun _ => rfl) b106 rfl ?_
  refine jq_w (fun w106 e106 => ?_)
  have h := h w106 e106
  refine jq_iinc (k0 := 3) (v := (x5 + 1)) (L' := [(5, .int (x5 + 1)), (0, .ref (aD G 0 32)), (3, .int x3), (4, .int x4)]) dX9_join_107 hC rfl rfl (by decide) rfl ?_
  refine jq_goto (tgt := 66) dX9_join_110 hC (by decide) ?_
  exact jq_less (L' := [(0, .ref (aD G 0 32)), (3, .int x3), (4, .int x4), (5, .int (x5 + 1))]) [1, 2, 3, 0] rfl (hK66 _ _ h)
theorem ok_X9_join_B66 {G : Gt} {M : Mx} {Qf : State → Prop} {x3 : Int32} {x4 : Int32} {x5 : Int32} {w : Wd} {Q : Wd → Prop} {K66 : Int32 → Wd → Prop} (hC : cx G D_X9_join M) (he : en G M (qv Q) Qf) (h : wp_X9_join_B66 x3 x4 x5 w Q K66) (hK66 : ∀ (x5 : Int32) (w : Wd), K66 x5 w → jq G D_X9_join M Qf 66 [(0, .ref (aD G 0 32)), (3, .int x3), (4, .int x4), (5, .int x5)] [] w) : jq G D_X9_join M Qf 66 [(0, .ref (aD G 0 32)), (3, .int x3), (4, .int x4), (5, .int x5)] [] w := by
  unfold wp_X9_join_B66 at h
  refine jq_iload (k0 := 3) dX9_join_66 hC rfl ?_
  refine jq_aload_n (k0 := 0) dX9_join_68 hC rfl rfl ?_
  refine jq_get (k0 := 1) (n := 0) (o := 32) dX9_join_69 hC (cl_0 (by decide)) rfl rfl hi_X9_join_X9 (by decide) hl_X9_join_7 rfl rfl ?_
  refine jq_iconst (v := (0 : Int32)) dX9_join_72 hC (by decide) ?_
  refine jq_iald (n := 0) (o := 33) (j := 0) dX9_join_73 hC (cl_0 (by decide)) rfl (vin (by decide)) (by decide) ?_
  refine jq_icmp_ge (tgt := 113) dX9_join_74 hC (by decide) (fun c74 => ?_) (fun c74 => ?_)
  · have h := h.1 c74
    exact jq_vret dX9_join_113 hC he rfl ⟨rfl, h⟩
  · have h := h.2 c74
    refine jq_aload_n (k0 := 0) dX9_join_77 hC rfl rfl ?_
    refine jq_get (k0 := 7) (n := 0) (o := 32) dX9_join_78 hC (cl_0 (by decide)) rfl rfl hi_X9_join_X9 (by decide) hl_X9_join_22 rfl rfl ?_
    refine jq_iload (k0 := 3) dX9_join_81 hC rfl ?_
    refine jq_aload_n (k0 := 0) dX9_join_83 hC rfl rfl ?_
    refine jq_get (k0 := 7) (n := 0) (o := 32) dX9_join_84 hC (cl_0 (by decide)) rfl rfl hi_X9_join_X9 (by decide) hl_X9_join_22 rfl rfl ?_
    refine jq_iload (k0 := 3) dX9_join_87 hC rfl ?_
    obtain ⟨b89, h⟩ := h
    refine jq_iald (n := 0) (o := 37) (j := x5.toNatClampNeg) dX9_join_89 hC (cl_0 (by decide)) rfl b89 rfl ?_
    refine jq_iload (k0 := 2) dX9_join_90 hC rfl ?_
    refine jq_icmp_ne (tgt := 99) dX9_join_92 hC (by decide) (fun c92 => ?_) (fun c92 => ?_)
    · have h := h.1 c92
      refine jq_aload_n (k0 := 0) dX9_join_99 hC rfl rfl ?_
      refine jq_get (k0 := 7) (n := 0) (o := 32) dX9_join_100 hC (cl_0 (by decide)) rfl rfl hi_X9_join_X9 (by decide) hl_X9_join_22 rfl rfl ?_
      refine jq_iload (k0 := 3) dX9_join_103 hC rfl ?_
      obtain ⟨b105, h⟩ := h
      refine jq_iald (n := 0) (o := 37) (j := x5.toNatClampNeg) dX9_join_105 hC (cl_0 (by decide)) rfl b105 rfl ?_
      refine jq_less (L' := [(0, .ref (aD G 0 32)), (3, .int x3), (4, .int x4), (5, .int x5)]) [0, 1, 2, 3] rfl ?_
      exact ok_X9_join_J106 hC he h hK66
    · have h := h.2 c92
      refine jq_iload_n (k0 := 1) dX9_join_95 hC rfl rfl ?_
      refine jq_goto (tgt := 106) dX9_join_96 hC (by decide) ?_
      refine jq_less (L' := [(0, .ref (aD G 0 32)), (3, .int x3), (4, .int x4), (5, .int x5)]) [0, 1, 2, 3] rfl ?_
      exact ok_X9_join_J106 hC he h hK66
theorem ok_X9_join_L66 {G : Gt} {M : Mx} {Qf : State → Prop} {x3 : Int32} {x4 : Int32} {x5 : Int32} {w : Wd} {Q : Wd → Prop} (hC : cx G D_X9_join M) (he : en G M (qv Q) Qf) (h : wp_X9_join_L66 x3 x4 x5 w Q) : jq G D_X9_join M Qf 66 [(0, .ref (aD G 0 32)), (3, .int x3), (4, .int x4), (5, .int x5)] [] w := by
  unfold wp_X9_join_L66 at h
  obtain ⟨I, μ, h0, hs⟩ := h
  exact lp_ind (σ := Int32 × Wd) (P := fun s => jq G D_X9_join M Qf 66 [(0, .ref (aD G 0 32)), (3, .int x3), (4, .int x4), (5, .int s.1)] [] s.2) (fun s => I s.1 s.2) (fun s => μ s.1 s.2) (fun s h1 ih => ok_X9_join_B66 hC he (hs s.1 s.2 h1) (fun x5' w' h => ih (x5', w') h.1 h.2)) (x5, w) h0
theorem ok_X9_join_J30 {G : Gt} {M : Mx} {Qf : State → Prop} {x1 : Int32} {x2 : Int32} {s0 : Int32} {w : Wd} {Q : Wd → Prop} (hC : cx G D_X9_join M) (he : en G M (qv Q) Qf) (h : wp_X9_join_J30 x1 x2 s0 w Q) : jq G D_X9_join M Qf 30 [(0, .ref (aD G 0 32)), (1, .int x1), (2, .int x2)] [.int s0] w := by
  unfold wp_X9_join_J30 at h
  refine jq_istore_n (L' := [(3, .int s0), (0, .ref (aD G 0 32)), (1, .int x1), (2, .int x2)]) dX9_join_30 hC rfl (by decide) rfl ?_
  refine jq_aload_n (k0 := 1) dX9_join_31 hC rfl rfl ?_
  refine jq_get (k0 := 7) (n := 0) (o := 32) dX9_join_32 hC (cl_0 (by decide)) rfl rfl hi_X9_join_X9 (by decide) hl_X9_join_22 rfl rfl ?_
  refine jq_iload_n (k0 := 2) dX9_join_35 hC rfl rfl ?_
  obtain ⟨b36, h⟩ := h
  refine jq_iald (n := 0) (o := 37) (j := x1.toNatClampNeg) dX9_join_36 hC (cl_0 (by decide)) rfl b36 rfl ?_
  refine jq_aload_n (k0 := 1) dX9_join_37 hC rfl rfl ?_
  refine jq_get (k0 := 7) (n := 0) (o := 32) dX9_join_38 hC (cl_0 (by decide)) rfl rfl hi_X9_join_X9 (by decide) hl_X9_join_22 rfl rfl ?_
  refine jq_iload_n (k0 := 3) dX9_join_41 hC rfl rfl ?_
  obtain ⟨b42, h⟩ := h
  refine jq_iald (n := 0) (o := 37) (j := x2.toNatClampNeg) dX9_join_42 hC (cl_0 (by decide)) rfl b42 rfl ?_
  refine jq_icmp_ge (tgt := 55) dX9_join_43 hC (by decide) (fun c43 => ?_) (fun c43 => ?_)
  · have h := h.1 c43
    refine jq_aload_n (k0 := 1) dX9_join_55 hC rfl rfl ?_
    refine jq_get (k0 := 7) (n := 0) (o := 32) dX9_join_56 hC (cl_0 (by decide)) rfl rfl hi_X9_join_X9 (by decide) hl_X9_join_22 rfl rfl ?_
    refine jq_iload_n (k0 := 2) dX9_join_59 hC rfl rfl ?_
    obtain ⟨b60, h⟩ := h
    refine jq_iald (n := 0) (o := 37) (j := x1.toNatClampNeg) dX9_join_60 hC (cl_0 (by decide)) rfl b60 rfl ?_
    refine jq_istore (L' := [(4, .int (wi w 0 37 x1.toNatClampNeg)), (3, .int s0), (0, .ref (aD G 0 32)), (1, .int x1), (2, .int x2)]) dX9_join_61 hC (by decide) rfl ?_
    refine jq_iconst (v := (0 : Int32)) dX9_join_63 hC (by decide) ?_
    refine jq_istore (L' := [(5, .int (0 : Int32)), (4, .int (wi w 0 37 x1.toNatClampNeg)), (3, .int s0), (0, .ref (aD G 0 32)), (1, .int x1), (2, .int x2)]) dX9_join_64 hC (by decide) rfl ?_
    refine jq_less (L' := [(0, .ref (aD G 0 32)), (3, .int s0), (4, .int (wi w 0 37 x1.toNatClampNeg)), (5, .int (0 : Int32))]) [3, 2, 1, 0] rfl ?_
    exact ok_X9_join_L66 hC he h
  · have h := h.2 c43
    refine jq_aload_n (k0 := 1) dX9_join_46 hC rfl rfl ?_
    refine jq_get (k0 := 7) (n := 0) (o := 32) dX9_join_47 hC (cl_0 (by decide)) rfl rfl hi_X9_join_X9 (by decide) hl_X9_join_22 rfl rfl ?_
    refine jq_iload_n (k0 := 3) dX9_join_50 hC rfl rfl ?_
    obtain ⟨b51, h⟩ := h
    refine jq_iald (n := 0) (o := 37) (j := x2.toNatClampNeg) dX9_join_51 hC (cl_0 (by decide)) rfl b51 rfl ?_
    refine jq_goto (tgt := 61) dX9_join_52 hC (by decide) ?_
    refine jq_istore (L' := [(4, .int (wi w 0 37 x2.toNatClampNeg)), (3, .int s0), (0, .ref (aD G 0 32)), (1, .int x1), (2, .int x2)]) dX9_join_61 hC (by decide) rfl ?_
    refine jq_iconst (v := (0 : Int32)) dX9_join_63 hC (by decide) ?_
    refine jq_istore (L' := [(5, .int (0 : Int32)), (4, .int (wi w 0 37 x2.toNatClampNeg)), (3, .int s0), (0, .ref (aD G 0 32)), (1, .int x1), (2, .int x2)]) dX9_join_64 hC (by decide) rfl ?_
    refine jq_less (L' := [(0, .ref (aD G 0 32)), (3, .int s0), (4, .int (wi w 0 37 x2.toNatClampNeg)), (5, .int (0 : Int32))]) [3, 2, 1, 0] rfl ?_
    exact ok_X9_join_L66 hC he h
theorem ok_X9_join {G : Gt} {M : Mx} {Qf : State → Prop} {x1 : Int32} {x2 : Int32} {w : Wd} {Q : Wd → Prop} (hC : cx G D_X9_join M) (he : en G M (qv Q) Qf) (h : wp_X9_join x1 x2 w Q) : jq G D_X9_join M Qf 0 [(0, .ref (aD G 0 32)), (1, .int x1), (2, .int x2)] [] w := by
  unfold wp_X9_join at h
  refine jq_aload_n (k0 := 0) dX9_join_0 hC rfl rfl ?_
  refine jq_get (k0 := 7) (n := 0) (o := 32) dX9_join_1 hC (cl_0 (by decide)) rfl rfl hi_X9_join_X9 (by decide) hl_X9_join_22 rfl rfl ?_
  refine jq_iload_n (k0 := 1) dX9_join_4 hC rfl rfl ?_
  obtain ⟨b5, h⟩ := h
  refine jq_iald (n := 0) (o := 37) (j := x1.toNatClampNeg) dX9_join_5 hC (cl_0 (by decide)) rfl b5 rfl ?_
  refine jq_aload_n (k0 := 0) dX9_join_6 hC rfl rfl ?_
  refine jq_get (k0 := 7) (n := 0) (o := 32) dX9_join_7 hC (cl_0 (by decide)) rfl rfl hi_X9_join_X9 (by decide) hl_X9_join_22 rfl rfl ?_
  refine jq_iload_n (k0 := 2) dX9_join_10 hC rfl rfl ?_
  obtain ⟨b11, h⟩ := h
  refine jq_iald (n := 0) (o := 37) (j := x2.toNatClampNeg) dX9_join_11 hC (cl_0 (by decide)) rfl b11 rfl ?_
  refine jq_icmp_ge (tgt := 24) dX9_join_12 hC (by decide) (fun c12 => ?_) (fun c12 => ?_)
  · have h := h.1 c12
    refine jq_aload_n (k0 := 0) dX9_join_24 hC rfl rfl ?_
    refine jq_get (k0 := 7) (n := 0) (o := 32) dX9_join_25 hC (cl_0 (by decide)) rfl rfl hi_X9_join_X9 (by decide) hl_X9_join_22 rfl rfl ?_
    refine jq_iload_n (k0 := 2) dX9_join_28 hC rfl rfl ?_
    obtain ⟨b29, h⟩ := h
    refine jq_iald (n := 0) (o := 37) (j := x2.toNatClampNeg) dX9_join_29 hC (cl_0 (by decide)) rfl b29 rfl ?_
    refine jq_less (L' := [(0, .ref (aD G 0 32)), (1, .int x1), (2, .int x2)]) [0, 1, 2] rfl ?_
    exact ok_X9_join_J30 hC he h
  · have h := h.2 c12
    refine jq_aload_n (k0 := 0) dX9_join_15 hC rfl rfl ?_
    refine jq_get (k0 := 7) (n := 0) (o := 32) dX9_join_16 hC (cl_0 (by decide)) rfl rfl hi_X9_join_X9 (by decide) hl_X9_join_22 rfl rfl ?_
    refine jq_iload_n (k0 := 1) dX9_join_19 hC rfl rfl ?_
    obtain ⟨b20, h⟩ := h
    refine jq_iald (n := 0) (o := 37) (j := x1.toNatClampNeg) dX9_join_20 hC (cl_0 (by decide)) rfl b20 rfl ?_
    refine jq_goto (tgt := 30) dX9_join_21 hC (by decide) ?_
    refine jq_less (L' := [(0, .ref (aD G 0 32)), (1, .int x1), (2, .int x2)]) [0, 1, 2] rfl ?_
    exact ok_X9_join_J30 hC he h
theorem mt_X9_join {G : Gt} {x1 : Int32} {x2 : Int32} {w : Wd} {Q : Wd → Prop} (h : wp_X9_join x1 x2 w Q) : Mt G D_X9_join [.ref (aD G 0 32), .int x1, .int x2] w (qv Q) := Mt_of (by decide +kernel) rfl rfl (Nat.le_of_ble_eq_true rfl) (fun M Qf hC he => ok_X9_join hC he h)
/-! X9.isHung(I)Z -/
theorem dX9_isHung_0 : decode cX9_isHung 0 = .ok (.aload_n 0, 1) := by decide +kernel
theorem dX9_isHung_1 : decode cX9_isHung 1 = .ok (.getfield 22, 3) := by decide +kernel
theorem dX9_isHung_4 : decode cX9_isHung 4 = .ok (.iload_n 1, 1) := by decide +kernel
theorem dX9_isHung_5 : decode cX9_isHung 5 = .ok (.iaload, 1) := by decide +kernel
theorem dX9_isHung_6 : decode cX9_isHung 6 = .ok (.iload_n 1, 1) := by decide +kernel
theorem dX9_isHung_7 : decode cX9_isHung 7 = .ok (.if_icmp .eq 13, 3) := by decide +kernel
theorem dX9_isHung_10 : decode cX9_isHung 10 = .ok (.aload_n 0, 1) := by decide +kernel
theorem dX9_isHung_11 : decode cX9_isHung 11 = .ok (.getfield 29, 3) := by decide +kernel
theorem dX9_isHung_14 : decode cX9_isHung 14 = .ok (.iload_n 1, 1) := by decide +kernel
theorem dX9_isHung_15 : decode cX9_isHung 15 = .ok (.iaload, 1) := by decide +kernel
theorem dX9_isHung_16 : decode cX9_isHung 16 = .ok (.iconst (-1), 1) := by decide +kernel
theorem dX9_isHung_17 : decode cX9_isHung 17 = .ok (.if_icmp .eq 7, 3) := by decide +kernel
theorem dX9_isHung_20 : decode cX9_isHung 20 = .ok (.iconst 1, 1) := by decide +kernel
theorem dX9_isHung_21 : decode cX9_isHung 21 = .ok (.goto 4, 3) := by decide +kernel
theorem dX9_isHung_24 : decode cX9_isHung 24 = .ok (.iconst 0, 1) := by decide +kernel
theorem dX9_isHung_25 : decode cX9_isHung 25 = .ok (.ireturn, 1) := by decide +kernel
def D_X9_isHung : Md := (yX9_isHung, cX9_isHung, 2, (some .boolean), wsX9_isHung, RX9, { frames := 0, cells := 0, slots := 0, locals := 0 })
theorem nm_X9_isHung : nmD D_X9_isHung 1 := ⟨rfl, by decide +kernel, by decide +kernel, by decide +kernel⟩
theorem hi_X9_isHung_X9 : ∀ w ∈ u_ws RX9 TX9 25, w ∈ wsX9_isHung := by decide +kernel
theorem hl_X9_isHung_22 : Cond.fieldLink RX9 22 "LevelLoopsModel" "net" "[I" ∈ wsX9_isHung := by decide +kernel
theorem hl_X9_isHung_29 : Cond.fieldLink RX9 29 "LevelLoopsModel" "upLeg" "[I" ∈ wsX9_isHung := by decide +kernel
def wp_X9_isHung (x1 : Int32) (w : Wd) (Q : Int32 → Prop) : Prop :=
  vp_in x1 10 ∧ (((wi w 0 37 x1.toNatClampNeg) = x1 → zb (1 : Int32) ∧ Q (1 : Int32)) ∧ (¬ (wi w 0 37 x1.toNatClampNeg) = x1 → vp_in x1 10 ∧ (((wi w 0 39 x1.toNatClampNeg) = (-1 : Int32) → zb (0 : Int32) ∧ Q (0 : Int32)) ∧ (¬ (wi w 0 39 x1.toNatClampNeg) = (-1 : Int32) → zb (1 : Int32) ∧ Q (1 : Int32)))))
theorem ok_X9_isHung {G : Gt} {M : Mx} {Qf : State → Prop} {x1 : Int32} {w : Wd} {Q : Int32 → Prop} (hC : cx G D_X9_isHung M) (he : en G M (qip w Q) Qf) (h : wp_X9_isHung x1 w Q) : jq G D_X9_isHung M Qf 0 [(0, .ref (aD G 0 32)), (1, .int x1)] [] w := by
  unfold wp_X9_isHung at h
  refine jq_aload_n (k0 := 0) dX9_isHung_0 hC rfl rfl ?_
  refine jq_get (k0 := 7) (n := 0) (o := 32) dX9_isHung_1 hC (cl_0 (by decide)) rfl rfl hi_X9_isHung_X9 (by decide) hl_X9_isHung_22 rfl rfl ?_
  refine jq_iload_n (k0 := 1) dX9_isHung_4 hC rfl rfl ?_
  obtain ⟨b5, h⟩ := h
  refine jq_iald (n := 0) (o := 37) (j := x1.toNatClampNeg) dX9_isHung_5 hC (cl_0 (by decide)) rfl b5 rfl ?_
  refine jq_iload_n (k0 := 1) dX9_isHung_6 hC rfl rfl ?_
  refine jq_icmp_eq (tgt := 20) dX9_isHung_7 hC (by decide) (fun c7 => ?_) (fun c7 => ?_)
  · have h := h.1 c7
    refine jq_iconst (v := (1 : Int32)) dX9_isHung_20 hC (by decide) ?_
    refine jq_goto (tgt := 25) dX9_isHung_21 hC (by decide) ?_
    obtain ⟨bz, h⟩ := h
    exact jq_zret dX9_isHung_25 hC he rfl bz ⟨_, rfl, rfl, h⟩
  · have h := h.2 c7
    refine jq_aload_n (k0 := 0) dX9_isHung_10 hC rfl rfl ?_
    refine jq_get (k0 := 9) (n := 0) (o := 32) dX9_isHung_11 hC (cl_0 (by decide)) rfl rfl hi_X9_isHung_X9 (by decide) hl_X9_isHung_29 rfl rfl ?_
    refine jq_iload_n (k0 := 1) dX9_isHung_14 hC rfl rfl ?_
    obtain ⟨b15, h⟩ := h
    refine jq_iald (n := 0) (o := 39) (j := x1.toNatClampNeg) dX9_isHung_15 hC (cl_0 (by decide)) rfl b15 rfl ?_
    refine jq_iconst (v := (-1 : Int32)) dX9_isHung_16 hC (by decide) ?_
    refine jq_icmp_eq (tgt := 24) dX9_isHung_17 hC (by decide) (fun c17 => ?_) (fun c17 => ?_)
    · have h := h.1 c17
      refine jq_iconst (v := (0 : Int32)) dX9_isHung_24 hC (by decide) ?_
      obtain ⟨bz, h⟩ := h
      exact jq_zret dX9_isHung_25 hC he rfl bz ⟨_, rfl, rfl, h⟩
    · have h := h.2 c17
      refine jq_iconst (v := (1 : Int32)) dX9_isHung_20 hC (by decide) ?_
      refine jq_goto (tgt := 25) dX9_isHung_21 hC (by decide) ?_
      obtain ⟨bz, h⟩ := h
      exact jq_zret dX9_isHung_25 hC he rfl bz ⟨_, rfl, rfl, h⟩
theorem mt_X9_isHung {G : Gt} {x1 : Int32} {w : Wd} {Q : Int32 → Prop} (h : wp_X9_isHung x1 w Q) : Mt G D_X9_isHung [.ref (aD G 0 32), .int x1] w (qip w Q) := Mt_of (by decide +kernel) rfl rfl (Nat.le_of_ble_eq_true rfl) (fun M Qf hC he => ok_X9_isHung hC he h)
/-! X9.hang(III)Z -/
theorem dX9_hang_0 : decode cX9_hang 0 = .ok (.aload_n 0, 1) := by decide +kernel
theorem dX9_hang_1 : decode cX9_hang 1 = .ok (.iload_n 1, 1) := by decide +kernel
theorem dX9_hang_2 : decode cX9_hang 2 = .ok (.invokevirtual 91, 3) := by decide +kernel
theorem dX9_hang_5 : decode cX9_hang 5 = .ok (.ifCond .ne 11, 3) := by decide +kernel
theorem dX9_hang_8 : decode cX9_hang 8 = .ok (.aload_n 0, 1) := by decide +kernel
theorem dX9_hang_9 : decode cX9_hang 9 = .ok (.iload_n 2, 1) := by decide +kernel
theorem dX9_hang_10 : decode cX9_hang 10 = .ok (.invokevirtual 91, 3) := by decide +kernel
theorem dX9_hang_13 : decode cX9_hang 13 = .ok (.ifCond .ne 5, 3) := by decide +kernel
theorem dX9_hang_16 : decode cX9_hang 16 = .ok (.iconst 0, 1) := by decide +kernel
theorem dX9_hang_17 : decode cX9_hang 17 = .ok (.ireturn, 1) := by decide +kernel
theorem dX9_hang_18 : decode cX9_hang 18 = .ok (.aload_n 0, 1) := by decide +kernel
theorem dX9_hang_19 : decode cX9_hang 19 = .ok (.getfield 29, 3) := by decide +kernel
theorem dX9_hang_22 : decode cX9_hang 22 = .ok (.iload_n 1, 1) := by decide +kernel
theorem dX9_hang_23 : decode cX9_hang 23 = .ok (.iload_n 3, 1) := by decide +kernel
theorem dX9_hang_24 : decode cX9_hang 24 = .ok (.iastore, 1) := by decide +kernel
theorem dX9_hang_25 : decode cX9_hang 25 = .ok (.aload_n 0, 1) := by decide +kernel
theorem dX9_hang_26 : decode cX9_hang 26 = .ok (.getfield 32, 3) := by decide +kernel
theorem dX9_hang_29 : decode cX9_hang 29 = .ok (.iload_n 1, 1) := by decide +kernel
theorem dX9_hang_30 : decode cX9_hang 30 = .ok (.iload_n 2, 1) := by decide +kernel
theorem dX9_hang_31 : decode cX9_hang 31 = .ok (.iastore, 1) := by decide +kernel
theorem dX9_hang_32 : decode cX9_hang 32 = .ok (.iconst 1, 1) := by decide +kernel
theorem dX9_hang_33 : decode cX9_hang 33 = .ok (.ireturn, 1) := by decide +kernel
set_option maxRecDepth 20000 in
theorem ggX9_hang_X9_isHung : GoodIn wsX9_hang wsX9_isHung := goodIn_r _ [7, 8, 1, 9, 10, 11, 12, 13, 14, 15, 16, 17, 18, 19, 20, 21, 22, 23, 24, 25, 26, 27, 28, 29, 30, 31, 32, 33] (by decide +kernel) (by decide +kernel)
set_option maxRecDepth 20000 in
theorem gX9_hang_X9_isHung : GoodIn wsX9_hang (wsV RX9 91 RX9 yX9_isHung wsX9_isHung) := goodIn_app (goodIn_of _ (by decide +kernel)) ggX9_hang_X9_isHung
def D_X9_hang : Md := (yX9_hang, cX9_hang, 4, (some .boolean), wsX9_hang, RX9, { frames := 1, cells := 0, slots := 0, locals := 21 })
theorem nm_X9_hang : nmD D_X9_hang 3 := ⟨rfl, by decide +kernel, by decide +kernel, by decide +kernel⟩
theorem hi_X9_hang_X9 : ∀ w ∈ u_ws RX9 TX9 25, w ∈ wsX9_hang := by decide +kernel
theorem hl_X9_hang_29 : Cond.fieldLink RX9 29 "LevelLoopsModel" "upLeg" "[I" ∈ wsX9_hang := by decide +kernel
theorem hl_X9_hang_32 : Cond.fieldLink RX9 32 "LevelLoopsModel" "upMark" "[I" ∈ wsX9_hang := by decide +kernel
def wp_X9_hang (x1 : Int32) (x2 : Int32) (x3 : Int32) (w : Wd) (Q : Int32 → Wd → Prop) : Prop :=
  wp_X9_isHung x1 w (fun r2 => ((¬ r2 = 0 → zb (0 : Int32) ∧ Q (0 : Int32) w) ∧ (r2 = 0 → wp_X9_isHung x2 w (fun r10 => ((¬ r10 = 0 → vp_in x1 10 ∧ (∀ w24 : Wd, w24 = (sI w 0 39 x1.toNatClampNeg x3) → vp_in x1 10 ∧ (∀ w31 : Wd, w31 = (sI w24 0 40 x1.toNatClampNeg x2) → zb (1 : Int32) ∧ Q (1 : Int32) w31))) ∧ (r10 = 0 → zb (0 : Int32) ∧ Q (0 : Int32) w))))))
theorem ok_X9_hang {G : Gt} {M : Mx} {Qf : State → Prop} {x1 : Int32} {x2 : Int32} {x3 : Int32} {w : Wd} {Q : Int32 → Wd → Prop} (hC : cx G D_X9_hang M) (he : en G M (qi Q) Qf) (h : wp_X9_hang x1 x2 x3 w Q) : jq G D_X9_hang M Qf 0 [(0, .ref (aD G 0 32)), (1, .int x1), (2, .int x2), (3, .int x3)] [] w := by
  unfold wp_X9_hang at h
  refine jq_aload_n (k0 := 0) dX9_hang_0 hC rfl rfl ?_
  refine jq_iload_n (k0 := 1) dX9_hang_1 hC rfl rfl ?_
  refine jq_callV (As := [.int x1]) (rest := []) (n := 0) (o := 32) (D' := D_X9_isHung) dX9_hang_2 hC (cl_0 (by decide)) rfl rfl rfl (mt_X9_isHung h) gX9_hang_X9_isHung rfl ⟨rfl, rfl, Nat.le_of_ble_eq_true rfl, Nat.le_of_ble_eq_true rfl⟩ nm_X9_isHung rfl (Nat.le_of_ble_eq_true rfl) (kIp fun r2 h => ?_)
  refine jq_if_ne (tgt := 16) dX9_hang_5 hC (by decide) (fun c5 => ?_) (fun c5 => ?_)
  · have h := h.1 c5
    refine jq_iconst (v := (0 : Int32)) dX9_hang_16 hC (by decide) ?_
    obtain ⟨bz, h⟩ := h
    exact jq_zret dX9_hang_17 hC he rfl bz ⟨_, rfl, h⟩
  · have h := h.2 c5
    refine jq_aload_n (k0 := 0) dX9_hang_8 hC rfl rfl ?_
    refine jq_iload_n (k0 := 2) dX9_hang_9 hC rfl rfl ?_
    refine jq_callV (As := [.int x2]) (rest := []) (n := 0) (o := 32) (D' := D_X9_isHung) dX9_hang_10 hC (cl_0 (by decide)) rfl rfl rfl (mt_X9_isHung h) gX9_hang_X9_isHung rfl ⟨rfl, rfl, Nat.le_of_ble_eq_true rfl, Nat.le_of_ble_eq_true rfl⟩ nm_X9_isHung rfl (Nat.le_of_ble_eq_true rfl) (kIp fun r10 h => ?_)
    refine jq_if_ne (tgt := 18) dX9_hang_13 hC (by decide) (fun c13 => ?_) (fun c13 => ?_)
    · have h := h.1 c13
      refine jq_aload_n (k0 := 0) dX9_hang_18 hC rfl rfl ?_
      refine jq_get (k0 := 9) (n := 0) (o := 32) dX9_hang_19 hC (cl_0 (by decide)) rfl rfl hi_X9_hang_X9 (by decide) hl_X9_hang_29 rfl rfl ?_
      refine jq_iload_n (k0 := 1) dX9_hang_22 hC rfl rfl ?_
      refine jq_iload_n (k0 := 3) dX9_hang_23 hC rfl rfl ?_
      obtain ⟨b24, h⟩ := h
      refine jq_iast (n := 0) (o := 39) (j := x1.toNatClampNeg) dX9_hang_24 hC (cl_0 (by decide)) (fun _ => rfl) b24 rfl ?_
      refine jq_w (fun w24 e24 => ?_)
      have h := h w24 e24
      refine jq_aload_n (k0 := 0) dX9_hang_25 hC rfl rfl ?_
      refine jq_get (k0 := 10) (n := 0) (o := 32) dX9_hang_26 hC (cl_0 (by decide)) rfl rfl hi_X9_hang_X9 (by decide) hl_X9_hang_32 rfl rfl ?_
      refine jq_iload_n (k0 := 1) dX9_hang_29 hC rfl rfl ?_
      refine jq_iload_n (k0 := 2) dX9_hang_30 hC rfl rfl ?_
      obtain ⟨b31, h⟩ := h
      refine jq_iast (n := 0) (o := 40) (j := x1.toNatClampNeg) dX9_hang_31 hC (cl_0 (by decide)) (fun _ => rfl) b31 rfl ?_
      refine jq_w (fun w31 e31 => ?_)
      have h := h w31 e31
      refine jq_iconst (v := (1 : Int32)) dX9_hang_32 hC (by decide) ?_
      obtain ⟨bz, h⟩ := h
      exact jq_zret dX9_hang_33 hC he rfl bz ⟨_, rfl, h⟩
    · have h := h.2 c13
      refine jq_iconst (v := (0 : Int32)) dX9_hang_16 hC (by decide) ?_
      obtain ⟨bz, h⟩ := h
      exact jq_zret dX9_hang_17 hC he rfl bz ⟨_, rfl, h⟩
theorem mt_X9_hang {G : Gt} {x1 : Int32} {x2 : Int32} {x3 : Int32} {w : Wd} {Q : Int32 → Wd → Prop} (h : wp_X9_hang x1 x2 x3 w Q) : Mt G D_X9_hang [.ref (aD G 0 32), .int x1, .int x2, .int x3] w (qi Q) := Mt_of (by decide +kernel) rfl rfl (Nat.le_of_ble_eq_true rfl) (fun M Qf hC he => ok_X9_hang hC he h)
/-! X9.layTree()V -/
theorem dX9_layTree_0 : decode cX9_layTree 0 = .ok (.iconst 0, 1) := by decide +kernel
theorem dX9_layTree_1 : decode cX9_layTree 1 = .ok (.istore_n 1, 1) := by decide +kernel
theorem dX9_layTree_2 : decode cX9_layTree 2 = .ok (.iload_n 1, 1) := by decide +kernel
theorem dX9_layTree_3 : decode cX9_layTree 3 = .ok (.aload_n 0, 1) := by decide +kernel
theorem dX9_layTree_4 : decode cX9_layTree 4 = .ok (.getfield 7, 3) := by decide +kernel
theorem dX9_layTree_7 : decode cX9_layTree 7 = .ok (.iconst 0, 1) := by decide +kernel
theorem dX9_layTree_8 : decode cX9_layTree 8 = .ok (.iaload, 1) := by decide +kernel
theorem dX9_layTree_9 : decode cX9_layTree 9 = .ok (.if_icmp .ge 30, 3) := by decide +kernel
theorem dX9_layTree_12 : decode cX9_layTree 12 = .ok (.aload_n 0, 1) := by decide +kernel
theorem dX9_layTree_13 : decode cX9_layTree 13 = .ok (.getfield 22, 3) := by decide +kernel
theorem dX9_layTree_16 : decode cX9_layTree 16 = .ok (.iload_n 1, 1) := by decide +kernel
theorem dX9_layTree_17 : decode cX9_layTree 17 = .ok (.iload_n 1, 1) := by decide +kernel
theorem dX9_layTree_18 : decode cX9_layTree 18 = .ok (.iastore, 1) := by decide +kernel
theorem dX9_layTree_19 : decode cX9_layTree 19 = .ok (.aload_n 0, 1) := by decide +kernel
theorem dX9_layTree_20 : decode cX9_layTree 20 = .ok (.getfield 29, 3) := by decide +kernel
theorem dX9_layTree_23 : decode cX9_layTree 23 = .ok (.iload_n 1, 1) := by decide +kernel
theorem dX9_layTree_24 : decode cX9_layTree 24 = .ok (.iconst (-1), 1) := by decide +kernel
theorem dX9_layTree_25 : decode cX9_layTree 25 = .ok (.iastore, 1) := by decide +kernel
theorem dX9_layTree_26 : decode cX9_layTree 26 = .ok (.aload_n 0, 1) := by decide +kernel
theorem dX9_layTree_27 : decode cX9_layTree 27 = .ok (.getfield 32, 3) := by decide +kernel
theorem dX9_layTree_30 : decode cX9_layTree 30 = .ok (.iload_n 1, 1) := by decide +kernel
theorem dX9_layTree_31 : decode cX9_layTree 31 = .ok (.iconst (-1), 1) := by decide +kernel
theorem dX9_layTree_32 : decode cX9_layTree 32 = .ok (.iastore, 1) := by decide +kernel
theorem dX9_layTree_33 : decode cX9_layTree 33 = .ok (.iinc 1 1, 3) := by decide +kernel
theorem dX9_layTree_36 : decode cX9_layTree 36 = .ok (.goto (-34), 3) := by decide +kernel
theorem dX9_layTree_39 : decode cX9_layTree 39 = .ok (.aload_n 0, 1) := by decide +kernel
theorem dX9_layTree_40 : decode cX9_layTree 40 = .ok (.iconst (-1), 1) := by decide +kernel
theorem dX9_layTree_41 : decode cX9_layTree 41 = .ok (.invokevirtual 80, 3) := by decide +kernel
theorem dX9_layTree_44 : decode cX9_layTree 44 = .ok (.istore_n 1, 1) := by decide +kernel
theorem dX9_layTree_45 : decode cX9_layTree 45 = .ok (.iload_n 1, 1) := by decide +kernel
theorem dX9_layTree_46 : decode cX9_layTree 46 = .ok (.iconst (-1), 1) := by decide +kernel
theorem dX9_layTree_47 : decode cX9_layTree 47 = .ok (.if_icmp .eq 66, 3) := by decide +kernel
theorem dX9_layTree_50 : decode cX9_layTree 50 = .ok (.aload_n 0, 1) := by decide +kernel
theorem dX9_layTree_51 : decode cX9_layTree 51 = .ok (.getfield 7, 3) := by decide +kernel
theorem dX9_layTree_54 : decode cX9_layTree 54 = .ok (.iload_n 1, 1) := by decide +kernel
theorem dX9_layTree_55 : decode cX9_layTree 55 = .ok (.iconst 0, 1) := by decide +kernel
theorem dX9_layTree_56 : decode cX9_layTree 56 = .ok (.invokestatic 76, 3) := by decide +kernel
theorem dX9_layTree_59 : decode cX9_layTree 59 = .ok (.iaload, 1) := by decide +kernel
theorem dX9_layTree_60 : decode cX9_layTree 60 = .ok (.istore_n 2, 1) := by decide +kernel
theorem dX9_layTree_61 : decode cX9_layTree 61 = .ok (.aload_n 0, 1) := by decide +kernel
theorem dX9_layTree_62 : decode cX9_layTree 62 = .ok (.getfield 7, 3) := by decide +kernel
theorem dX9_layTree_65 : decode cX9_layTree 65 = .ok (.iload_n 1, 1) := by decide +kernel
theorem dX9_layTree_66 : decode cX9_layTree 66 = .ok (.iconst 1, 1) := by decide +kernel
theorem dX9_layTree_67 : decode cX9_layTree 67 = .ok (.invokestatic 76, 3) := by decide +kernel
theorem dX9_layTree_70 : decode cX9_layTree 70 = .ok (.iaload, 1) := by decide +kernel
theorem dX9_layTree_71 : decode cX9_layTree 71 = .ok (.istore_n 3, 1) := by decide +kernel
theorem dX9_layTree_72 : decode cX9_layTree 72 = .ok (.aload_n 0, 1) := by decide +kernel
theorem dX9_layTree_73 : decode cX9_layTree 73 = .ok (.getfield 25, 3) := by decide +kernel
theorem dX9_layTree_76 : decode cX9_layTree 76 = .ok (.iload_n 1, 1) := by decide +kernel
theorem dX9_layTree_77 : decode cX9_layTree 77 = .ok (.aload_n 0, 1) := by decide +kernel
theorem dX9_layTree_78 : decode cX9_layTree 78 = .ok (.getfield 22, 3) := by decide +kernel
theorem dX9_layTree_81 : decode cX9_layTree 81 = .ok (.iload_n 2, 1) := by decide +kernel
theorem dX9_layTree_82 : decode cX9_layTree 82 = .ok (.iaload, 1) := by decide +kernel
theorem dX9_layTree_83 : decode cX9_layTree 83 = .ok (.aload_n 0, 1) := by decide +kernel
theorem dX9_layTree_84 : decode cX9_layTree 84 = .ok (.getfield 22, 3) := by decide +kernel
theorem dX9_layTree_87 : decode cX9_layTree 87 = .ok (.iload_n 3, 1) := by decide +kernel
theorem dX9_layTree_88 : decode cX9_layTree 88 = .ok (.iaload, 1) := by decide +kernel
theorem dX9_layTree_89 : decode cX9_layTree 89 = .ok (.if_icmp .eq 7, 3) := by decide +kernel
theorem dX9_layTree_92 : decode cX9_layTree 92 = .ok (.iconst 1, 1) := by decide +kernel
theorem dX9_layTree_93 : decode cX9_layTree 93 = .ok (.goto 4, 3) := by decide +kernel
theorem dX9_layTree_96 : decode cX9_layTree 96 = .ok (.iconst 0, 1) := by decide +kernel
theorem dX9_layTree_97 : decode cX9_layTree 97 = .ok (.bastore, 1) := by decide +kernel
theorem dX9_layTree_98 : decode cX9_layTree 98 = .ok (.aload_n 0, 1) := by decide +kernel
theorem dX9_layTree_99 : decode cX9_layTree 99 = .ok (.iload_n 2, 1) := by decide +kernel
theorem dX9_layTree_100 : decode cX9_layTree 100 = .ok (.iload_n 3, 1) := by decide +kernel
theorem dX9_layTree_101 : decode cX9_layTree 101 = .ok (.invokevirtual 84, 3) := by decide +kernel
theorem dX9_layTree_104 : decode cX9_layTree 104 = .ok (.aload_n 0, 1) := by decide +kernel
theorem dX9_layTree_105 : decode cX9_layTree 105 = .ok (.iload_n 1, 1) := by decide +kernel
theorem dX9_layTree_106 : decode cX9_layTree 106 = .ok (.invokevirtual 80, 3) := by decide +kernel
theorem dX9_layTree_109 : decode cX9_layTree 109 = .ok (.istore_n 1, 1) := by decide +kernel
theorem dX9_layTree_110 : decode cX9_layTree 110 = .ok (.goto (-65), 3) := by decide +kernel
theorem dX9_layTree_113 : decode cX9_layTree 113 = .ok (.iconst 1, 1) := by decide +kernel
theorem dX9_layTree_114 : decode cX9_layTree 114 = .ok (.istore_n 1, 1) := by decide +kernel
theorem dX9_layTree_115 : decode cX9_layTree 115 = .ok (.iload_n 1, 1) := by decide +kernel
theorem dX9_layTree_116 : decode cX9_layTree 116 = .ok (.ifCond .eq 104, 3) := by decide +kernel
theorem dX9_layTree_119 : decode cX9_layTree 119 = .ok (.iconst 0, 1) := by decide +kernel
theorem dX9_layTree_120 : decode cX9_layTree 120 = .ok (.istore_n 1, 1) := by decide +kernel
theorem dX9_layTree_121 : decode cX9_layTree 121 = .ok (.iconst 0, 1) := by decide +kernel
theorem dX9_layTree_122 : decode cX9_layTree 122 = .ok (.istore_n 2, 1) := by decide +kernel
theorem dX9_layTree_123 : decode cX9_layTree 123 = .ok (.iload_n 2, 1) := by decide +kernel
theorem dX9_layTree_124 : decode cX9_layTree 124 = .ok (.aload_n 0, 1) := by decide +kernel
theorem dX9_layTree_125 : decode cX9_layTree 125 = .ok (.getfield 7, 3) := by decide +kernel
theorem dX9_layTree_128 : decode cX9_layTree 128 = .ok (.bipush 11, 2) := by decide +kernel
theorem dX9_layTree_130 : decode cX9_layTree 130 = .ok (.iaload, 1) := by decide +kernel
theorem dX9_layTree_131 : decode cX9_layTree 131 = .ok (.if_icmp .ge 86, 3) := by decide +kernel
theorem dX9_layTree_134 : decode cX9_layTree 134 = .ok (.aload_n 0, 1) := by decide +kernel
theorem dX9_layTree_135 : decode cX9_layTree 135 = .ok (.getfield 25, 3) := by decide +kernel
theorem dX9_layTree_138 : decode cX9_layTree 138 = .ok (.iload_n 2, 1) := by decide +kernel
theorem dX9_layTree_139 : decode cX9_layTree 139 = .ok (.baload, 1) := by decide +kernel
theorem dX9_layTree_140 : decode cX9_layTree 140 = .ok (.ifCond .eq 71, 3) := by decide +kernel
theorem dX9_layTree_143 : decode cX9_layTree 143 = .ok (.aload_n 0, 1) := by decide +kernel
theorem dX9_layTree_144 : decode cX9_layTree 144 = .ok (.aload_n 0, 1) := by decide +kernel
theorem dX9_layTree_145 : decode cX9_layTree 145 = .ok (.getfield 7, 3) := by decide +kernel
theorem dX9_layTree_148 : decode cX9_layTree 148 = .ok (.iload_n 2, 1) := by decide +kernel
theorem dX9_layTree_149 : decode cX9_layTree 149 = .ok (.iconst 0, 1) := by decide +kernel
theorem dX9_layTree_150 : decode cX9_layTree 150 = .ok (.invokestatic 76, 3) := by decide +kernel
theorem dX9_layTree_153 : decode cX9_layTree 153 = .ok (.iaload, 1) := by decide +kernel
theorem dX9_layTree_154 : decode cX9_layTree 154 = .ok (.aload_n 0, 1) := by decide +kernel
theorem dX9_layTree_155 : decode cX9_layTree 155 = .ok (.getfield 7, 3) := by decide +kernel
theorem dX9_layTree_158 : decode cX9_layTree 158 = .ok (.iload_n 2, 1) := by decide +kernel
theorem dX9_layTree_159 : decode cX9_layTree 159 = .ok (.iconst 1, 1) := by decide +kernel
theorem dX9_layTree_160 : decode cX9_layTree 160 = .ok (.invokestatic 76, 3) := by decide +kernel
theorem dX9_layTree_163 : decode cX9_layTree 163 = .ok (.iaload, 1) := by decide +kernel
theorem dX9_layTree_164 : decode cX9_layTree 164 = .ok (.iload_n 2, 1) := by decide +kernel
theorem dX9_layTree_165 : decode cX9_layTree 165 = .ok (.invokevirtual 88, 3) := by decide +kernel
theorem dX9_layTree_168 : decode cX9_layTree 168 = .ok (.istore_n 3, 1) := by decide +kernel
theorem dX9_layTree_169 : decode cX9_layTree 169 = .ok (.aload_n 0, 1) := by decide +kernel
theorem dX9_layTree_170 : decode cX9_layTree 170 = .ok (.aload_n 0, 1) := by decide +kernel
theorem dX9_layTree_171 : decode cX9_layTree 171 = .ok (.getfield 7, 3) := by decide +kernel
theorem dX9_layTree_174 : decode cX9_layTree 174 = .ok (.iload_n 2, 1) := by decide +kernel
theorem dX9_layTree_175 : decode cX9_layTree 175 = .ok (.iconst 1, 1) := by decide +kernel
theorem dX9_layTree_176 : decode cX9_layTree 176 = .ok (.invokestatic 76, 3) := by decide +kernel
theorem dX9_layTree_179 : decode cX9_layTree 179 = .ok (.iaload, 1) := by decide +kernel
theorem dX9_layTree_180 : decode cX9_layTree 180 = .ok (.aload_n 0, 1) := by decide +kernel
theorem dX9_layTree_181 : decode cX9_layTree 181 = .ok (.getfield 7, 3) := by decide +kernel
theorem dX9_layTree_184 : decode cX9_layTree 184 = .ok (.iload_n 2, 1) := by decide +kernel
theorem dX9_layTree_185 : decode cX9_layTree 185 = .ok (.iconst 0, 1) := by decide +kernel
theorem dX9_layTree_186 : decode cX9_layTree 186 = .ok (.invokestatic 76, 3) := by decide +kernel
theorem dX9_layTree_189 : decode cX9_layTree 189 = .ok (.iaload, 1) := by decide +kernel
theorem dX9_layTree_190 : decode cX9_layTree 190 = .ok (.iload_n 2, 1) := by decide +kernel
theorem dX9_layTree_191 : decode cX9_layTree 191 = .ok (.invokevirtual 88, 3) := by decide +kernel
theorem dX9_layTree_194 : decode cX9_layTree 194 = .ok (.ifCond .ne 11, 3) := by decide +kernel
theorem dX9_layTree_197 : decode cX9_layTree 197 = .ok (.iload_n 3, 1) := by decide +kernel
theorem dX9_layTree_198 : decode cX9_layTree 198 = .ok (.ifCond .ne 7, 3) := by decide +kernel
theorem dX9_layTree_201 : decode cX9_layTree 201 = .ok (.iload_n 1, 1) := by decide +kernel
theorem dX9_layTree_202 : decode cX9_layTree 202 = .ok (.ifCond .eq 7, 3) := by decide +kernel
theorem dX9_layTree_205 : decode cX9_layTree 205 = .ok (.iconst 1, 1) := by decide +kernel
theorem dX9_layTree_206 : decode cX9_layTree 206 = .ok (.goto 4, 3) := by decide +kernel
theorem dX9_layTree_209 : decode cX9_layTree 209 = .ok (.iconst 0, 1) := by decide +kernel
theorem dX9_layTree_210 : decode cX9_layTree 210 = .ok (.istore_n 1, 1) := by decide +kernel
theorem dX9_layTree_211 : decode cX9_layTree 211 = .ok (.iinc 2 1, 3) := by decide +kernel
theorem dX9_layTree_214 : decode cX9_layTree 214 = .ok (.goto (-91), 3) := by decide +kernel
theorem dX9_layTree_217 : decode cX9_layTree 217 = .ok (.goto (-102), 3) := by decide +kernel
theorem dX9_layTree_220 : decode cX9_layTree 220 = .ok (.return_, 1) := by decide +kernel
set_option maxRecDepth 20000 in
theorem ggX9_layTree_X9_hang : GoodIn wsX9_layTree wsX9_hang := goodIn_r _ [21, 3, 4, 22, 23, 24, 9, 25, 2, 26, 27, 28, 29, 30, 31, 32, 33, 34, 35, 36, 37, 38, 39, 40, 41, 42, 43, 44, 45, 46, 47, 48, 49, 50] (by decide +kernel) (by decide +kernel)
set_option maxRecDepth 20000 in
theorem gX9_layTree_X9_hang : GoodIn wsX9_layTree (wsV RX9 88 RX9 yX9_hang wsX9_hang) := goodIn_app (goodIn_of _ (by decide +kernel)) ggX9_layTree_X9_hang
set_option maxRecDepth 20000 in
theorem ggX9_layTree_X9_of : GoodIn wsX9_layTree wsX9_of := goodIn_r _ [13] (by decide +kernel) (by decide +kernel)
set_option maxRecDepth 20000 in
theorem gX9_layTree_X9_of : GoodIn wsX9_layTree (va_wsS RX9 76 yX9_of wsX9_of) := goodIn_app (goodIn_of _ (by decide +kernel)) ggX9_layTree_X9_of
set_option maxRecDepth 20000 in
theorem ggX9_layTree_X9_nextLeg : GoodIn wsX9_layTree wsX9_nextLeg := goodIn_r _ [10, 1, 11, 12, 9, 13, 26, 27, 28, 29, 30, 31, 32, 33, 34, 35, 36, 37, 38, 39, 40, 41, 42, 43, 44, 45, 46, 47, 48, 49, 50] (by decide +kernel) (by decide +kernel)
set_option maxRecDepth 20000 in
theorem gX9_layTree_X9_nextLeg : GoodIn wsX9_layTree (wsV RX9 80 RX9 yX9_nextLeg wsX9_nextLeg) := goodIn_app (goodIn_of _ (by decide +kernel)) ggX9_layTree_X9_nextLeg
set_option maxRecDepth 20000 in
theorem ggX9_layTree_X9_join : GoodIn wsX9_layTree wsX9_join := goodIn_r _ [17, 2, 1, 26, 27, 28, 29, 30, 31, 32, 33, 34, 35, 36, 37, 38, 39, 40, 41, 42, 43, 44, 45, 46, 47, 48, 49, 50] (by decide +kernel) (by decide +kernel)
set_option maxRecDepth 20000 in
theorem gX9_layTree_X9_join : GoodIn wsX9_layTree (wsV RX9 84 RX9 yX9_join wsX9_join) := goodIn_app (goodIn_of _ (by decide +kernel)) ggX9_layTree_X9_join
def D_X9_layTree : Md := (yX9_layTree, cX9_layTree, 4, none, wsX9_layTree, RX9, { frames := 2, cells := 0, slots := 0, locals := 46 })
theorem nm_X9_layTree : nmD D_X9_layTree 0 := ⟨rfl, by decide +kernel, by decide +kernel, by decide +kernel⟩
theorem hi_X9_layTree_X9 : ∀ w ∈ u_ws RX9 TX9 25, w ∈ wsX9_layTree := by decide +kernel
theorem hl_X9_layTree_7 : Cond.fieldLink RX9 7 "LevelLoopsModel" "s" "[I" ∈ wsX9_layTree := by decide +kernel
theorem hl_X9_layTree_22 : Cond.fieldLink RX9 22 "LevelLoopsModel" "net" "[I" ∈ wsX9_layTree := by decide +kernel
theorem hl_X9_layTree_25 : Cond.fieldLink RX9 25 "LevelLoopsModel" "isTree" "[Z" ∈ wsX9_layTree := by decide +kernel
theorem hl_X9_layTree_29 : Cond.fieldLink RX9 29 "LevelLoopsModel" "upLeg" "[I" ∈ wsX9_layTree := by decide +kernel
theorem hl_X9_layTree_32 : Cond.fieldLink RX9 32 "LevelLoopsModel" "upMark" "[I" ∈ wsX9_layTree := by decide +kernel
def wp_X9_layTree_J210 (x2 : Int32) (s0 : Int32) (w : Wd) (Q : Wd → Prop) (K115 : Int32 → Wd → Prop) (K123 : Int32 → Int32 → Wd → Prop) : Prop :=
  K123 s0 (x2 + 1) w
def wp_X9_layTree_B123 (x1 : Int32) (x2 : Int32) (w : Wd) (Q : Wd → Prop) (K115 : Int32 → Wd → Prop) (K123 : Int32 → Int32 → Wd → Prop) : Prop :=
  (((wi w 0 33 11) ≤ x2 → K115 x1 w) ∧ (¬ (wi w 0 33 11) ≤ x2 → vp_in x2 20 ∧ (((wi w 0 38 x2.toNatClampNeg) = 0 → K123 x1 (x2 + 1) w) ∧ (¬ (wi w 0 38 x2.toNatClampNeg) = 0 → wp_X9_of x2 (0 : Int32) (fun r150 => vp_in r150 95 ∧ wp_X9_of x2 (1 : Int32) (fun r160 => vp_in r160 95 ∧ wp_X9_hang (wi w 0 33 r150.toNatClampNeg) (wi w 0 33 r160.toNatClampNeg) x2 w (fun r165 w165 => wp_X9_of x2 (1 : Int32) (fun r176 => vp_in r176 95 ∧ wp_X9_of x2 (0 : Int32) (fun r186 => vp_in r186 95 ∧ wp_X9_hang (wi w165 0 33 r176.toNatClampNeg) (wi w165 0 33 r186.toNatClampNeg) x2 w165 (fun r191 w191 => ((¬ r191 = 0 → wp_X9_layTree_J210 x2 (1 : Int32) w191 Q K115 K123) ∧ (r191 = 0 → ((¬ r165 = 0 → wp_X9_layTree_J210 x2 (1 : Int32) w191 Q K115 K123) ∧ (r165 = 0 → ((x1 = 0 → wp_X9_layTree_J210 x2 (0 : Int32) w191 Q K115 K123) ∧ (¬ x1 = 0 → wp_X9_layTree_J210 x2 (1 : Int32) w191 Q K115 K123))))))))))))))))
def wp_X9_layTree_L123 (x1 : Int32) (x2 : Int32) (w : Wd) (Q : Wd → Prop) (K115 : Int32 → Wd → Prop) : Prop :=
  ∃ (I : Int32 → Int32 → Wd → Prop) (μ : Int32 → Int32 → Wd → Nat), I x1 x2 w ∧ ∀ (x1 : Int32) (x2 : Int32) (w : Wd), I x1 x2 w → wp_X9_layTree_B123 x1 x2 w Q K115 (fun x1' x2' w' => I x1' x2' w' ∧ μ x1' x2' w' < μ x1 x2 w)
def wp_X9_layTree_B115 (x1 : Int32) (w : Wd) (Q : Wd → Prop) (K115 : Int32 → Wd → Prop) : Prop :=
  ((x1 = 0 → Q w) ∧ (¬ x1 = 0 → wp_X9_layTree_L123 (0 : Int32) (0 : Int32) w Q K115))
def wp_X9_layTree_L115 (x1 : Int32) (w : Wd) (Q : Wd → Prop) : Prop :=
  ∃ (I : Int32 → Wd → Prop) (μ : Int32 → Wd → Nat), I x1 w ∧ ∀ (x1 : Int32) (w : Wd), I x1 w → wp_X9_layTree_B115 x1 w Q (fun x1' w' => I x1' w' ∧ μ x1' w' < μ x1 w)
def wp_X9_layTree_J97 (x1 : Int32) (x2 : Int32) (x3 : Int32) (s0 : Int32) (s1 : Int32) (w : Wd) (Q : Wd → Prop) (K45 : Int32 → Wd → Prop) : Prop :=
  vp_in s1 20 ∧ zb s0 ∧ (∀ w97 : Wd, w97 = (sI w 0 38 s1.toNatClampNeg s0) → wp_X9_join x2 x3 w97 (fun w101 => wp_X9_nextLeg x1 w101 (fun r106 => K45 r106 w101)))
def wp_X9_layTree_B45 (x1 : Int32) (w : Wd) (Q : Wd → Prop) (K45 : Int32 → Wd → Prop) : Prop :=
  ((x1 = (-1 : Int32) → wp_X9_layTree_L115 (1 : Int32) w Q) ∧ (¬ x1 = (-1 : Int32) → wp_X9_of x1 (0 : Int32) (fun r56 => vp_in r56 95 ∧ wp_X9_of x1 (1 : Int32) (fun r67 => vp_in r67 95 ∧ vp_in (wi w 0 33 r56.toNatClampNeg) 10 ∧ vp_in (wi w 0 33 r67.toNatClampNeg) 10 ∧ (((wi w 0 37 (wi w 0 33 r56.toNatClampNeg).toNatClampNeg) = (wi w 0 37 (wi w 0 33 r67.toNatClampNeg).toNatClampNeg) → wp_X9_layTree_J97 x1 (wi w 0 33 r56.toNatClampNeg) (wi w 0 33 r67.toNatClampNeg) (0 : Int32) x1 w Q K45) ∧ (¬ (wi w 0 37 (wi w 0 33 r56.toNatClampNeg).toNatClampNeg) = (wi w 0 37 (wi w 0 33 r67.toNatClampNeg).toNatClampNeg) → wp_X9_layTree_J97 x1 (wi w 0 33 r56.toNatClampNeg) (wi w 0 33 r67.toNatClampNeg) (1 : Int32) x1 w Q K45))))))
def wp_X9_layTree_L45 (x1 : Int32) (w : Wd) (Q : Wd → Prop) : Prop :=
  ∃ (I : Int32 → Wd → Prop) (μ : Int32 → Wd → Nat), I x1 w ∧ ∀ (x1 : Int32) (w : Wd), I x1 w → wp_X9_layTree_B45 x1 w Q (fun x1' w' => I x1' w' ∧ μ x1' w' < μ x1 w)
def wp_X9_layTree_B2 (x1 : Int32) (w : Wd) (Q : Wd → Prop) (K2 : Int32 → Wd → Prop) : Prop :=
  (((wi w 0 33 0) ≤ x1 → wp_X9_nextLeg (-1 : Int32) w (fun r41 => wp_X9_layTree_L45 r41 w Q)) ∧ (¬ (wi w 0 33 0) ≤ x1 → vp_in x1 10 ∧ (∀ w18 : Wd, w18 = (sI w 0 37 x1.toNatClampNeg x1) → vp_in x1 10 ∧ (∀ w25 : Wd, w25 = (sI w18 0 39 x1.toNatClampNeg (-1 : Int32)) → vp_in x1 10 ∧ (∀ w32 : Wd, w32 = (sI w25 0 40 x1.toNatClampNeg (-1 : Int32)) → K2 (x1 + 1) w32)))))
def wp_X9_layTree_L2 (x1 : Int32) (w : Wd) (Q : Wd → Prop) : Prop :=
  ∃ (I : Int32 → Wd → Prop) (μ : Int32 → Wd → Nat), I x1 w ∧ ∀ (x1 : Int32) (w : Wd), I x1 w → wp_X9_layTree_B2 x1 w Q (fun x1' w' => I x1' w' ∧ μ x1' w' < μ x1 w)
def wp_X9_layTree (w : Wd) (Q : Wd → Prop) : Prop :=
  wp_X9_layTree_L2 (0 : Int32) w Q
theorem ok_X9_layTree_J210 {G : Gt} {M : Mx} {Qf : State → Prop} {x2 : Int32} {s0 : Int32} {w : Wd} {Q : Wd → Prop} {K115 : Int32 → Wd → Prop} {K123 : Int32 → Int32 → Wd → Prop} (hC : cx G D_X9_layTree M) (he : en G M (qv Q) Qf) (h : wp_X9_layTree_J210 x2 s0 w Q K115 K123) (hK115 : ∀ (x1 : Int32) (w : Wd), K115 x1 w → jq G D_X9_layTree M Qf 115 [(0, .ref (aD G 0 32)), (1, .int x1)] [] w) (hK123 : ∀ (x1 : Int32) (x2 : Int32) (w : Wd), K123 x1 x2 w → jq G D_X9_layTree M Qf 123 [(0, .ref (aD G 0 32)), (1, .int x1), (2, .int x2)] [] w) : jq G D_X9_layTree M Qf 210 [(0, .ref (aD G 0 32)), (2, .int x2)] [.int s0] w := by
  unfold wp_X9_layTree_J210 at h
  refine jq_istore_n (L' := [(1, .int s0), (0, .ref (aD G 0 32)), (2, .int x2)]) dX9_layTree_210 hC rfl (by decide) rfl ?_
  refine jq_iinc (k0 := 2) (v := (x2 + 1)) (L' := [(2, .int (x2 + 1)), (1, .int s0), (0, .ref (aD G 0 32))]) dX9_layTree_211 hC rfl rfl (by decide) rfl ?_
  refine jq_goto (tgt := 123) dX9_layTree_214 hC (by decide) ?_
  exact jq_less (L' := [(0, .ref (aD G 0 32)), (1, .int s0), (2, .int (x2 + 1))]) [2, 1, 0] rfl (hK123 _ _ _ h)
theorem ok_X9_layTree_B123 {G : Gt} {M : Mx} {Qf : State → Prop} {x1 : Int32} {x2 : Int32} {w : Wd} {Q : Wd → Prop} {K115 : Int32 → Wd → Prop} {K123 : Int32 → Int32 → Wd → Prop} (hC : cx G D_X9_layTree M) (he : en G M (qv Q) Qf) (h : wp_X9_layTree_B123 x1 x2 w Q K115 K123) (hK115 : ∀ (x1 : Int32) (w : Wd), K115 x1 w → jq G D_X9_layTree M Qf 115 [(0, .ref (aD G 0 32)), (1, .int x1)] [] w) (hK123 : ∀ (x1 : Int32) (x2 : Int32) (w : Wd), K123 x1 x2 w → jq G D_X9_layTree M Qf 123 [(0, .ref (aD G 0 32)), (1, .int x1), (2, .int x2)] [] w) : jq G D_X9_layTree M Qf 123 [(0, .ref (aD G 0 32)), (1, .int x1), (2, .int x2)] [] w := by
  unfold wp_X9_layTree_B123 at h
  refine jq_iload_n (k0 := 2) dX9_layTree_123 hC rfl rfl ?_
  refine jq_aload_n (k0 := 0) dX9_layTree_124 hC rfl rfl ?_
  refine jq_get (k0 := 1) (n := 0) (o := 32) dX9_layTree_125 hC (cl_0 (by decide)) rfl rfl hi_X9_layTree_X9 (by decide) hl_X9_layTree_7 rfl rfl ?_
  refine jq_bipush (v := (11 : Int32)) dX9_layTree_128 hC (by decide) ?_
  refine jq_iald (n := 0) (o := 33) (j := 11) dX9_layTree_130 hC (cl_0 (by decide)) rfl (vin (by decide)) (by decide) ?_
  refine jq_icmp_ge (tgt := 217) dX9_layTree_131 hC (by decide) (fun c131 => ?_) (fun c131 => ?_)
  · have h := h.1 c131
    refine jq_goto (tgt := 115) dX9_layTree_217 hC (by decide) ?_
    exact jq_less (L' := [(0, .ref (aD G 0 32)), (1, .int x1)]) [0, 1] rfl (hK115 _ _ h)
  · have h := h.2 c131
    refine jq_aload_n (k0 := 0) dX9_layTree_134 hC rfl rfl ?_
    refine jq_get (k0 := 8) (n := 0) (o := 32) dX9_layTree_135 hC (cl_0 (by decide)) rfl rfl hi_X9_layTree_X9 (by decide) hl_X9_layTree_25 rfl rfl ?_
    refine jq_iload_n (k0 := 2) dX9_layTree_138 hC rfl rfl ?_
    obtain ⟨b139, h⟩ := h
    refine jq_zald (n := 0) (o := 38) (j := x2.toNatClampNeg) dX9_layTree_139 hC (cl_0 (by decide)) rfl b139 rfl ?_
    refine jq_if_eq (tgt := 211) dX9_layTree_140 hC (by decide) (fun c140 => ?_) (fun c140 => ?_)
    · have h := h.1 c140
      refine jq_iinc (k0 := 2) (v := (x2 + 1)) (L' := [(2, .int (x2 + 1)), (0, .ref (aD G 0 32)), (1, .int x1)]) dX9_layTree_211 hC rfl rfl (by decide) rfl ?_
      refine jq_goto (tgt := 123) dX9_layTree_214 hC (by decide) ?_
      exact jq_less (L' := [(0, .ref (aD G 0 32)), (1, .int x1), (2, .int (x2 + 1))]) [1, 2, 0] rfl (hK123 _ _ _ h)
    · have h := h.2 c140
      refine jq_aload_n (k0 := 0) dX9_layTree_143 hC rfl rfl ?_
      refine jq_aload_n (k0 := 0) dX9_layTree_144 hC rfl rfl ?_
      refine jq_get (k0 := 1) (n := 0) (o := 32) dX9_layTree_145 hC (cl_0 (by decide)) rfl rfl hi_X9_layTree_X9 (by decide) hl_X9_layTree_7 rfl rfl ?_
      refine jq_iload_n (k0 := 2) dX9_layTree_148 hC rfl rfl ?_
      refine jq_iconst (v := (0 : Int32)) dX9_layTree_149 hC (by decide) ?_
      refine jq_callS (As := [.int x2, .int (0 : Int32)]) (rest := [.ref (aD G 0 33), .ref (aD G 0 32)]) (D' := D_X9_of) dX9_layTree_150 hC (mt_X9_of h) gX9_layTree_X9_of rfl ⟨rfl, rfl, Nat.le_of_ble_eq_true rfl, Nat.le_of_ble_eq_true rfl⟩ nm_X9_of rfl (Nat.le_of_ble_eq_true rfl) (kIp fun r150 h => ?_)
      obtain ⟨b153, h⟩ := h
      refine jq_iald (n := 0) (o := 33) (j := r150.toNatClampNeg) dX9_layTree_153 hC (cl_0 (by decide)) rfl b153 rfl ?_
      refine jq_aload_n (k0 := 0) dX9_layTree_154 hC rfl rfl ?_
      refine jq_get (k0 := 1) (n := 0) (o := 32) dX9_layTree_155 hC (cl_0 (by decide)) rfl rfl hi_X9_layTree_X9 (by decide) hl_X9_layTree_7 rfl rfl ?_
      refine jq_iload_n (k0 := 2) dX9_layTree_158 hC rfl rfl ?_
      refine jq_iconst (v := (1 : Int32)) dX9_layTree_159 hC (by decide) ?_
      refine jq_callS (As := [.int x2, .int (1 : Int32)]) (rest := [.ref (aD G 0 33), .int (wi w 0 33 r150.toNatClampNeg), .ref (aD G 0 32)]) (D' := D_X9_of) dX9_layTree_160 hC (mt_X9_of h) gX9_layTree_X9_of rfl ⟨rfl, rfl, Nat.le_of_ble_eq_true rfl, Nat.le_of_ble_eq_true rfl⟩ nm_X9_of rfl (Nat.le_of_ble_eq_true rfl) (kIp fun r160 h => ?_)
      obtain ⟨b163, h⟩ := h
      refine jq_iald (n := 0) (o := 33) (j := r160.toNatClampNeg) dX9_layTree_163 hC (cl_0 (by decide)) rfl b163 rfl ?_
      refine jq_iload_n (k0 := 2) dX9_layTree_164 hC rfl rfl ?_
      refine jq_callV (As := [.int (wi w 0 33 r150.toNatClampNeg), .int (wi w 0 33 r160.toNatClampNeg), .int x2]) (rest := []) (n := 0) (o := 32) (D' := D_X9_hang) dX9_layTree_165 hC (cl_0 (by decide)) rfl rfl rfl (mt_X9_hang h) gX9_layTree_X9_hang rfl ⟨rfl, rfl, Nat.le_of_ble_eq_true rfl, Nat.le_of_ble_eq_true rfl⟩ nm_X9_hang rfl (Nat.le_of_ble_eq_true rfl) (kI fun r165 w165 h => ?_)
      refine jq_istore_n (L' := [(3, .int r165), (0, .ref (aD G 0 32)), (1, .int x1), (2, .int x2)]) dX9_layTree_168 hC rfl (by decide) rfl ?_
      refine jq_aload_n (k0 := 1) dX9_layTree_169 hC rfl rfl ?_
      refine jq_aload_n (k0 := 1) dX9_layTree_170 hC rfl rfl ?_
      refine jq_get (k0 := 1) (n := 0) (o := 32) dX9_layTree_171 hC (cl_0 (by decide)) rfl rfl hi_X9_layTree_X9 (by decide) hl_X9_layTree_7 rfl rfl ?_
      refine jq_iload_n (k0 := 3) dX9_layTree_174 hC rfl rfl ?_
      refine jq_iconst (v := (1 : Int32)) dX9_layTree_175 hC (by decide) ?_
      refine jq_callS (As := [.int x2, .int (1 : Int32)]) (rest := [.ref (aD G 0 33), .ref (aD G 0 32)]) (D' := D_X9_of) dX9_layTree_176 hC (mt_X9_of h) gX9_layTree_X9_of rfl ⟨rfl, rfl, Nat.le_of_ble_eq_true rfl, Nat.le_of_ble_eq_true rfl⟩ nm_X9_of rfl (Nat.le_of_ble_eq_true rfl) (kIp fun r176 h => ?_)
      obtain ⟨b179, h⟩ := h
      refine jq_iald (n := 0) (o := 33) (j := r176.toNatClampNeg) dX9_layTree_179 hC (cl_0 (by decide)) rfl b179 rfl ?_
      refine jq_aload_n (k0 := 1) dX9_layTree_180 hC rfl rfl ?_
      refine jq_get (k0 := 1) (n := 0) (o := 32) dX9_layTree_181 hC (cl_0 (by decide)) rfl rfl hi_X9_layTree_X9 (by decide) hl_X9_layTree_7 rfl rfl ?_
      refine jq_iload_n (k0 := 3) dX9_layTree_184 hC rfl rfl ?_
      refine jq_iconst (v := (0 : Int32)) dX9_layTree_185 hC (by decide) ?_
      refine jq_callS (As := [.int x2, .int (0 : Int32)]) (rest := [.ref (aD G 0 33), .int (wi w165 0 33 r176.toNatClampNeg), .ref (aD G 0 32)]) (D' := D_X9_of) dX9_layTree_186 hC (mt_X9_of h) gX9_layTree_X9_of rfl ⟨rfl, rfl, Nat.le_of_ble_eq_true rfl, Nat.le_of_ble_eq_true rfl⟩ nm_X9_of rfl (Nat.le_of_ble_eq_true rfl) (kIp fun r186 h => ?_)
      obtain ⟨b189, h⟩ := h
      refine jq_iald (n := 0) (o := 33) (j := r186.toNatClampNeg) dX9_layTree_189 hC (cl_0 (by decide)) rfl b189 rfl ?_
      refine jq_iload_n (k0 := 3) dX9_layTree_190 hC rfl rfl ?_
      refine jq_callV (As := [.int (wi w165 0 33 r176.toNatClampNeg), .int (wi w165 0 33 r186.toNatClampNeg), .int x2]) (rest := []) (n := 0) (o := 32) (D' := D_X9_hang) dX9_layTree_191 hC (cl_0 (by decide)) rfl rfl rfl (mt_X9_hang h) gX9_layTree_X9_hang rfl ⟨rfl, rfl, Nat.le_of_ble_eq_true rfl, Nat.le_of_ble_eq_true rfl⟩ nm_X9_hang rfl (Nat.le_of_ble_eq_true rfl) (kI fun r191 w191 h => ?_)
      refine jq_if_ne (tgt := 205) dX9_layTree_194 hC (by decide) (fun c194 => ?_) (fun c194 => ?_)
      · have h := h.1 c194
        refine jq_iconst (v := (1 : Int32)) dX9_layTree_205 hC (by decide) ?_
        refine jq_goto (tgt := 210) dX9_layTree_206 hC (by decide) ?_
        refine jq_less (L' := [(0, .ref (aD G 0 32)), (2, .int x2)]) [1, 3] rfl ?_
        exact ok_X9_layTree_J210 hC he h hK115 hK123
      · have h := h.2 c194
        refine jq_iload_n (k0 := 0) dX9_layTree_197 hC rfl rfl ?_
        refine jq_if_ne (tgt := 205) dX9_layTree_198 hC (by decide) (fun c198 => ?_) (fun c198 => ?_)
        · have h := h.1 c198
          refine jq_iconst (v := (1 : Int32)) dX9_layTree_205 hC (by decide) ?_
          refine jq_goto (tgt := 210) dX9_layTree_206 hC (by decide) ?_
          refine jq_less (L' := [(0, .ref (aD G 0 32)), (2, .int x2)]) [1, 3] rfl ?_
          exact ok_X9_layTree_J210 hC he h hK115 hK123
        · have h := h.2 c198
          refine jq_iload_n (k0 := 2) dX9_layTree_201 hC rfl rfl ?_
          refine jq_if_eq (tgt := 209) dX9_layTree_202 hC (by decide) (fun c202 => ?_) (fun c202 => ?_)
          · have h := h.1 c202
            refine jq_iconst (v := (0 : Int32)) dX9_layTree_209 hC (by decide) ?_
            refine jq_less (L' := [(0, .ref (aD G 0 32)), (2, .int x2)]) [1, 3] rfl ?_
            exact ok_X9_layTree_J210 hC he h hK115 hK123
          · have h := h.2 c202
            refine jq_iconst (v := (1 : Int32)) dX9_layTree_205 hC (by decide) ?_
            refine jq_goto (tgt := 210) dX9_layTree_206 hC (by decide) ?_
            refine jq_less (L' := [(0, .ref (aD G 0 32)), (2, .int x2)]) [1, 3] rfl ?_
            exact ok_X9_layTree_J210 hC he h hK115 hK123
theorem ok_X9_layTree_L123 {G : Gt} {M : Mx} {Qf : State → Prop} {x1 : Int32} {x2 : Int32} {w : Wd} {Q : Wd → Prop} {K115 : Int32 → Wd → Prop} (hC : cx G D_X9_layTree M) (he : en G M (qv Q) Qf) (h : wp_X9_layTree_L123 x1 x2 w Q K115) (hK115 : ∀ (x1 : Int32) (w : Wd), K115 x1 w → jq G D_X9_layTree M Qf 115 [(0, .ref (aD G 0 32)), (1, .int x1)] [] w) : jq G D_X9_layTree M Qf 123 [(0, .ref (aD G 0 32)), (1, .int x1), (2, .int x2)] [] w := by
  unfold wp_X9_layTree_L123 at h
  obtain ⟨I, μ, h0, hs⟩ := h
  exact lp_ind (σ := Int32 × Int32 × Wd) (P := fun s => jq G D_X9_layTree M Qf 123 [(0, .ref (aD G 0 32)), (1, .int s.1), (2, .int s.2.1)] [] s.2.2) (fun s => I s.1 s.2.1 s.2.2) (fun s => μ s.1 s.2.1 s.2.2) (fun s h1 ih => ok_X9_layTree_B123 hC he (hs s.1 s.2.1 s.2.2 h1) hK115 (fun x1' x2' w' h => ih (x1', x2', w') h.1 h.2)) (x1, x2, w) h0
theorem ok_X9_layTree_B115 {G : Gt} {M : Mx} {Qf : State → Prop} {x1 : Int32} {w : Wd} {Q : Wd → Prop} {K115 : Int32 → Wd → Prop} (hC : cx G D_X9_layTree M) (he : en G M (qv Q) Qf) (h : wp_X9_layTree_B115 x1 w Q K115) (hK115 : ∀ (x1 : Int32) (w : Wd), K115 x1 w → jq G D_X9_layTree M Qf 115 [(0, .ref (aD G 0 32)), (1, .int x1)] [] w) : jq G D_X9_layTree M Qf 115 [(0, .ref (aD G 0 32)), (1, .int x1)] [] w := by
  unfold wp_X9_layTree_B115 at h
  refine jq_iload_n (k0 := 1) dX9_layTree_115 hC rfl rfl ?_
  refine jq_if_eq (tgt := 220) dX9_layTree_116 hC (by decide) (fun c116 => ?_) (fun c116 => ?_)
  · have h := h.1 c116
    exact jq_vret dX9_layTree_220 hC he rfl ⟨rfl, h⟩
  · have h := h.2 c116
    refine jq_iconst (v := (0 : Int32)) dX9_layTree_119 hC (by decide) ?_
    refine jq_istore_n (L' := [(1, .int (0 : Int32)), (0, .ref (aD G 0 32))]) dX9_layTree_120 hC rfl (by decide) rfl ?_
    refine jq_iconst (v := (0 : Int32)) dX9_layTree_121 hC (by decide) ?_
    refine jq_istore_n (L' := [(2, .int (0 : Int32)), (1, .int (0 : Int32)), (0, .ref (aD G 0 32))]) dX9_layTree_122 hC rfl (by decide) rfl ?_
    refine jq_less (L' := [(0, .ref (aD G 0 32)), (1, .int (0 : Int32)), (2, .int (0 : Int32))]) [2, 1, 0] rfl ?_
    exact ok_X9_layTree_L123 hC he h hK115
theorem ok_X9_layTree_L115 {G : Gt} {M : Mx} {Qf : State → Prop} {x1 : Int32} {w : Wd} {Q : Wd → Prop} (hC : cx G D_X9_layTree M) (he : en G M (qv Q) Qf) (h : wp_X9_layTree_L115 x1 w Q) : jq G D_X9_layTree M Qf 115 [(0, .ref (aD G 0 32)), (1, .int x1)] [] w := by
  unfold wp_X9_layTree_L115 at h
  obtain ⟨I, μ, h0, hs⟩ := h
  exact lp_ind (σ := Int32 × Wd) (P := fun s => jq G D_X9_layTree M Qf 115 [(0, .ref (aD G 0 32)), (1, .int s.1)] [] s.2) (fun s => I s.1 s.2) (fun s => μ s.1 s.2) (fun s h1 ih => ok_X9_layTree_B115 hC he (hs s.1 s.2 h1) (fun x1' w' h => ih (x1', w') h.1 h.2)) (x1, w) h0
theorem ok_X9_layTree_J97 {G : Gt} {M : Mx} {Qf : State → Prop} {x1 : Int32} {x2 : Int32} {x3 : Int32} {s0 : Int32} {s1 : Int32} {w : Wd} {Q : Wd → Prop} {K45 : Int32 → Wd → Prop} (hC : cx G D_X9_layTree M) (he : en G M (qv Q) Qf) (h : wp_X9_layTree_J97 x1 x2 x3 s0 s1 w Q K45) (hK45 : ∀ (x1 : Int32) (w : Wd), K45 x1 w → jq G D_X9_layTree M Qf 45 [(0, .ref (aD G 0 32)), (1, .int x1)] [] w) : jq G D_X9_layTree M Qf 97 [(0, .ref (aD G 0 32)), (1, .int x1), (2, .int x2), (3, .int x3)] [.int s0, .int s1, .ref (aD G 0 38)] w := by
  unfold wp_X9_layTree_J97 at h
  obtain ⟨b97, z97, h⟩ := h
  refine jq_zast (n := 0) (o := 38) (j := s1.toNatClampNeg) dX9_layTree_97 hC (cl_0 (by decide)) (fun _ => rfl) b97 z97 rfl ?_
  refine jq_w (fun w97 e97 => ?_)
  have h := h w97 e97
  refine jq_aload_n (k0 := 0) dX9_layTree_98 hC rfl rfl ?_
  refine jq_iload_n (k0 := 2) dX9_layTree_99 hC rfl rfl ?_
  refine jq_iload_n (k0 := 3) dX9_layTree_100 hC rfl rfl ?_
  refine jq_callV (As := [.int x2, .int x3]) (rest := []) (n := 0) (o := 32) (D' := D_X9_join) dX9_layTree_101 hC (cl_0 (by decide)) rfl rfl rfl (mt_X9_join h) gX9_layTree_X9_join rfl ⟨rfl, rfl, Nat.le_of_ble_eq_true rfl, Nat.le_of_ble_eq_true rfl⟩ nm_X9_join rfl (Nat.le_of_ble_eq_true rfl) (kV fun w101 h => ?_)
  refine jq_aload_n (k0 := 0) dX9_layTree_104 hC rfl rfl ?_
  refine jq_iload_n (k0 := 1) dX9_layTree_105 hC rfl rfl ?_
  refine jq_callV (As := [.int x1]) (rest := []) (n := 0) (o := 32) (D' := D_X9_nextLeg) dX9_layTree_106 hC (cl_0 (by decide)) rfl rfl rfl (mt_X9_nextLeg h) gX9_layTree_X9_nextLeg rfl ⟨rfl, rfl, Nat.le_of_ble_eq_true rfl, Nat.le_of_ble_eq_true rfl⟩ nm_X9_nextLeg rfl (Nat.le_of_ble_eq_true rfl) (kIp fun r106 h => ?_)
  refine jq_istore_n (L' := [(1, .int r106), (0, .ref (aD G 0 32)), (2, .int x2), (3, .int x3)]) dX9_layTree_109 hC rfl (by decide) rfl ?_
  refine jq_goto (tgt := 45) dX9_layTree_110 hC (by decide) ?_
  exact jq_less (L' := [(0, .ref (aD G 0 32)), (1, .int r106)]) [1, 0] rfl (hK45 _ _ h)
theorem ok_X9_layTree_B45 {G : Gt} {M : Mx} {Qf : State → Prop} {x1 : Int32} {w : Wd} {Q : Wd → Prop} {K45 : Int32 → Wd → Prop} (hC : cx G D_X9_layTree M) (he : en G M (qv Q) Qf) (h : wp_X9_layTree_B45 x1 w Q K45) (hK45 : ∀ (x1 : Int32) (w : Wd), K45 x1 w → jq G D_X9_layTree M Qf 45 [(0, .ref (aD G 0 32)), (1, .int x1)] [] w) : jq G D_X9_layTree M Qf 45 [(0, .ref (aD G 0 32)), (1, .int x1)] [] w := by
  unfold wp_X9_layTree_B45 at h
  refine jq_iload_n (k0 := 1) dX9_layTree_45 hC rfl rfl ?_
  refine jq_iconst (v := (-1 : Int32)) dX9_layTree_46 hC (by decide) ?_
  refine jq_icmp_eq (tgt := 113) dX9_layTree_47 hC (by decide) (fun c47 => ?_) (fun c47 => ?_)
  · have h := h.1 c47
    refine jq_iconst (v := (1 : Int32)) dX9_layTree_113 hC (by decide) ?_
    refine jq_istore_n (L' := [(1, .int (1 : Int32)), (0, .ref (aD G 0 32))]) dX9_layTree_114 hC rfl (by decide) rfl ?_
    refine jq_less (L' := [(0, .ref (aD G 0 32)), (1, .int (1 : Int32))]) [1, 0] rfl ?_
    exact ok_X9_layTree_L115 hC he h
  · have h := h.2 c47
    refine jq_aload_n (k0 := 0) dX9_layTree_50 hC rfl rfl ?_
    refine jq_get (k0 := 1) (n := 0) (o := 32) dX9_layTree_51 hC (cl_0 (by decide)) rfl rfl hi_X9_layTree_X9 (by decide) hl_X9_layTree_7 rfl rfl ?_
    refine jq_iload_n (k0 := 1) dX9_layTree_54 hC rfl rfl ?_
    refine jq_iconst (v := (0 : Int32)) dX9_layTree_55 hC (by decide) ?_
    refine jq_callS (As := [.int x1, .int (0 : Int32)]) (rest := [.ref (aD G 0 33)]) (D' := D_X9_of) dX9_layTree_56 hC (mt_X9_of h) gX9_layTree_X9_of rfl ⟨rfl, rfl, Nat.le_of_ble_eq_true rfl, Nat.le_of_ble_eq_true rfl⟩ nm_X9_of rfl (Nat.le_of_ble_eq_true rfl) (kIp fun r56 h => ?_)
    obtain ⟨b59, h⟩ := h
    refine jq_iald (n := 0) (o := 33) (j := r56.toNatClampNeg) dX9_layTree_59 hC (cl_0 (by decide)) rfl b59 rfl ?_
    refine jq_istore_n (L' := [(2, .int (wi w 0 33 r56.toNatClampNeg)), (0, .ref (aD G 0 32)), (1, .int x1)]) dX9_layTree_60 hC rfl (by decide) rfl ?_
    refine jq_aload_n (k0 := 1) dX9_layTree_61 hC rfl rfl ?_
    refine jq_get (k0 := 1) (n := 0) (o := 32) dX9_layTree_62 hC (cl_0 (by decide)) rfl rfl hi_X9_layTree_X9 (by decide) hl_X9_layTree_7 rfl rfl ?_
    refine jq_iload_n (k0 := 2) dX9_layTree_65 hC rfl rfl ?_
    refine jq_iconst (v := (1 : Int32)) dX9_layTree_66 hC (by decide) ?_
    refine jq_callS (As := [.int x1, .int (1 : Int32)]) (rest := [.ref (aD G 0 33)]) (D' := D_X9_of) dX9_layTree_67 hC (mt_X9_of h) gX9_layTree_X9_of rfl ⟨rfl, rfl, Nat.le_of_ble_eq_true rfl, Nat.le_of_ble_eq_true rfl⟩ nm_X9_of rfl (Nat.le_of_ble_eq_true rfl) (kIp fun r67 h => ?_)
    obtain ⟨b70, h⟩ := h
    refine jq_iald (n := 0) (o := 33) (j := r67.toNatClampNeg) dX9_layTree_70 hC (cl_0 (by decide)) rfl b70 rfl ?_
    refine jq_istore_n (L' := [(3, .int (wi w 0 33 r67.toNatClampNeg)), (2, .int (wi w 0 33 r56.toNatClampNeg)), (0, .ref (aD G 0 32)), (1, .int x1)]) dX9_layTree_71 hC rfl (by decide) rfl ?_
    refine jq_aload_n (k0 := 2) dX9_layTree_72 hC rfl rfl ?_
    refine jq_get (k0 := 8) (n := 0) (o := 32) dX9_layTree_73 hC (cl_0 (by decide)) rfl rfl hi_X9_layTree_X9 (by decide) hl_X9_layTree_25 rfl rfl ?_
    refine jq_iload_n (k0 := 3) dX9_layTree_76 hC rfl rfl ?_
    refine jq_aload_n (k0 := 2) dX9_layTree_77 hC rfl rfl ?_
    refine jq_get (k0 := 7) (n := 0) (o := 32) dX9_layTree_78 hC (cl_0 (by decide)) rfl rfl hi_X9_layTree_X9 (by decide) hl_X9_layTree_22 rfl rfl ?_
    refine jq_iload_n (k0 := 1) dX9_layTree_81 hC rfl rfl ?_
    obtain ⟨b82, h⟩ := h
    refine jq_iald (n := 0) (o := 37) (j := (wi w 0 33 r56.toNatClampNeg).toNatClampNeg) dX9_layTree_82 hC (cl_0 (by decide)) rfl b82 rfl ?_
    refine jq_aload_n (k0 := 2) dX9_layTree_83 hC rfl rfl ?_
    refine jq_get (k0 := 7) (n := 0) (o := 32) dX9_layTree_84 hC (cl_0 (by decide)) rfl rfl hi_X9_layTree_X9 (by decide) hl_X9_layTree_22 rfl rfl ?_
    refine jq_iload_n (k0 := 0) dX9_layTree_87 hC rfl rfl ?_
    obtain ⟨b88, h⟩ := h
    refine jq_iald (n := 0) (o := 37) (j := (wi w 0 33 r67.toNatClampNeg).toNatClampNeg) dX9_layTree_88 hC (cl_0 (by decide)) rfl b88 rfl ?_
    refine jq_icmp_eq (tgt := 96) dX9_layTree_89 hC (by decide) (fun c89 => ?_) (fun c89 => ?_)
    · have h := h.1 c89
      refine jq_iconst (v := (0 : Int32)) dX9_layTree_96 hC (by decide) ?_
      refine jq_less (L' := [(0, .ref (aD G 0 32)), (1, .int x1), (2, .int (wi w 0 33 r56.toNatClampNeg)), (3, .int (wi w 0 33 r67.toNatClampNeg))]) [2, 3, 1, 0] rfl ?_
      exact ok_X9_layTree_J97 hC he h hK45
    · have h := h.2 c89
      refine jq_iconst (v := (1 : Int32)) dX9_layTree_92 hC (by decide) ?_
      refine jq_goto (tgt := 97) dX9_layTree_93 hC (by decide) ?_
      refine jq_less (L' := [(0, .ref (aD G 0 32)), (1, .int x1), (2, .int (wi w 0 33 r56.toNatClampNeg)), (3, .int (wi w 0 33 r67.toNatClampNeg))]) [2, 3, 1, 0] rfl ?_
      exact ok_X9_layTree_J97 hC he h hK45
theorem ok_X9_layTree_L45 {G : Gt} {M : Mx} {Qf : State → Prop} {x1 : Int32} {w : Wd} {Q : Wd → Prop} (hC : cx G D_X9_layTree M) (he : en G M (qv Q) Qf) (h : wp_X9_layTree_L45 x1 w Q) : jq G D_X9_layTree M Qf 45 [(0, .ref (aD G 0 32)), (1, .int x1)] [] w := by
  unfold wp_X9_layTree_L45 at h
  obtain ⟨I, μ, h0, hs⟩ := h
  exact lp_ind (σ := Int32 × Wd) (P := fun s => jq G D_X9_layTree M Qf 45 [(0, .ref (aD G 0 32)), (1, .int s.1)] [] s.2) (fun s => I s.1 s.2) (fun s => μ s.1 s.2) (fun s h1 ih => ok_X9_layTree_B45 hC he (hs s.1 s.2 h1) (fun x1' w' h => ih (x1', w') h.1 h.2)) (x1, w) h0
theorem ok_X9_layTree_B2 {G : Gt} {M : Mx} {Qf : State → Prop} {x1 : Int32} {w : Wd} {Q : Wd → Prop} {K2 : Int32 → Wd → Prop} (hC : cx G D_X9_layTree M) (he : en G M (qv Q) Qf) (h : wp_X9_layTree_B2 x1 w Q K2) (hK2 : ∀ (x1 : Int32) (w : Wd), K2 x1 w → jq G D_X9_layTree M Qf 2 [(0, .ref (aD G 0 32)), (1, .int x1)] [] w) : jq G D_X9_layTree M Qf 2 [(0, .ref (aD G 0 32)), (1, .int x1)] [] w := by
  unfold wp_X9_layTree_B2 at h
  refine jq_iload_n (k0 := 1) dX9_layTree_2 hC rfl rfl ?_
  refine jq_aload_n (k0 := 0) dX9_layTree_3 hC rfl rfl ?_
  refine jq_get (k0 := 1) (n := 0) (o := 32) dX9_layTree_4 hC (cl_0 (by decide)) rfl rfl hi_X9_layTree_X9 (by decide) hl_X9_layTree_7 rfl rfl ?_
  refine jq_iconst (v := (0 : Int32)) dX9_layTree_7 hC (by decide) ?_
  refine jq_iald (n := 0) (o := 33) (j := 0) dX9_layTree_8 hC (cl_0 (by decide)) rfl (vin (by decide)) (by decide) ?_
  refine jq_icmp_ge (tgt := 39) dX9_layTree_9 hC (by decide) (fun c9 => ?_) (fun c9 => ?_)
  · have h := h.1 c9
    refine jq_aload_n (k0 := 0) dX9_layTree_39 hC rfl rfl ?_
    refine jq_iconst (v := (-1 : Int32)) dX9_layTree_40 hC (by decide) ?_
    refine jq_callV (As := [.int (-1 : Int32)]) (rest := []) (n := 0) (o := 32) (D' := D_X9_nextLeg) dX9_layTree_41 hC (cl_0 (by decide)) rfl rfl rfl (mt_X9_nextLeg h) gX9_layTree_X9_nextLeg rfl ⟨rfl, rfl, Nat.le_of_ble_eq_true rfl, Nat.le_of_ble_eq_true rfl⟩ nm_X9_nextLeg rfl (Nat.le_of_ble_eq_true rfl) (kIp fun r41 h => ?_)
    refine jq_istore_n (L' := [(1, .int r41), (0, .ref (aD G 0 32))]) dX9_layTree_44 hC rfl (by decide) rfl ?_
    refine jq_less (L' := [(0, .ref (aD G 0 32)), (1, .int r41)]) [1, 0] rfl ?_
    exact ok_X9_layTree_L45 hC he h
  · have h := h.2 c9
    refine jq_aload_n (k0 := 0) dX9_layTree_12 hC rfl rfl ?_
    refine jq_get (k0 := 7) (n := 0) (o := 32) dX9_layTree_13 hC (cl_0 (by decide)) rfl rfl hi_X9_layTree_X9 (by decide) hl_X9_layTree_22 rfl rfl ?_
    refine jq_iload_n (k0 := 1) dX9_layTree_16 hC rfl rfl ?_
    refine jq_iload_n (k0 := 1) dX9_layTree_17 hC rfl rfl ?_
    obtain ⟨b18, h⟩ := h
    refine jq_iast (n := 0) (o := 37) (j := x1.toNatClampNeg) dX9_layTree_18 hC (cl_0 (by decide)) (fun _ => rfl) b18 rfl ?_
    refine jq_w (fun w18 e18 => ?_)
    have h := h w18 e18
    refine jq_aload_n (k0 := 0) dX9_layTree_19 hC rfl rfl ?_
    refine jq_get (k0 := 9) (n := 0) (o := 32) dX9_layTree_20 hC (cl_0 (by decide)) rfl rfl hi_X9_layTree_X9 (by decide) hl_X9_layTree_29 rfl rfl ?_
    refine jq_iload_n (k0 := 1) dX9_layTree_23 hC rfl rfl ?_
    refine jq_iconst (v := (-1 : Int32)) dX9_layTree_24 hC (by decide) ?_
    obtain ⟨b25, h⟩ := h
    refine jq_iast (n := 0) (o := 39) (j := x1.toNatClampNeg) dX9_layTree_25 hC (cl_0 (by decide)) (fun _ => rfl) b25 rfl ?_
    refine jq_w (fun w25 e25 => ?_)
    have h := h w25 e25
    refine jq_aload_n (k0 := 0) dX9_layTree_26 hC rfl rfl ?_
    refine jq_get (k0 := 10) (n := 0) (o := 32) dX9_layTree_27 hC (cl_0 (by decide)) rfl rfl hi_X9_layTree_X9 (by decide) hl_X9_layTree_32 rfl rfl ?_
    refine jq_iload_n (k0 := 1) dX9_layTree_30 hC rfl rfl ?_
    refine jq_iconst (v := (-1 : Int32)) dX9_layTree_31 hC (by decide) ?_
    obtain ⟨b32, h⟩ := h
    refine jq_iast (n := 0) (o := 40) (j := x1.toNatClampNeg) dX9_layTree_32 hC (cl_0 (by decide)) (fun _ => rfl) b32 rfl ?_
    refine jq_w (fun w32 e32 => ?_)
    have h := h w32 e32
    refine jq_iinc (k0 := 1) (v := (x1 + 1)) (L' := [(1, .int (x1 + 1)), (0, .ref (aD G 0 32))]) dX9_layTree_33 hC rfl rfl (by decide) rfl ?_
    refine jq_goto (tgt := 2) dX9_layTree_36 hC (by decide) ?_
    exact jq_less (L' := [(0, .ref (aD G 0 32)), (1, .int (x1 + 1))]) [1, 0] rfl (hK2 _ _ h)
theorem ok_X9_layTree_L2 {G : Gt} {M : Mx} {Qf : State → Prop} {x1 : Int32} {w : Wd} {Q : Wd → Prop} (hC : cx G D_X9_layTree M) (he : en G M (qv Q) Qf) (h : wp_X9_layTree_L2 x1 w Q) : jq G D_X9_layTree M Qf 2 [(0, .ref (aD G 0 32)), (1, .int x1)] [] w := by
  unfold wp_X9_layTree_L2 at h
  obtain ⟨I, μ, h0, hs⟩ := h
  exact lp_ind (σ := Int32 × Wd) (P := fun s => jq G D_X9_layTree M Qf 2 [(0, .ref (aD G 0 32)), (1, .int s.1)] [] s.2) (fun s => I s.1 s.2) (fun s => μ s.1 s.2) (fun s h1 ih => ok_X9_layTree_B2 hC he (hs s.1 s.2 h1) (fun x1' w' h => ih (x1', w') h.1 h.2)) (x1, w) h0
theorem ok_X9_layTree {G : Gt} {M : Mx} {Qf : State → Prop} {w : Wd} {Q : Wd → Prop} (hC : cx G D_X9_layTree M) (he : en G M (qv Q) Qf) (h : wp_X9_layTree w Q) : jq G D_X9_layTree M Qf 0 [(0, .ref (aD G 0 32))] [] w := by
  unfold wp_X9_layTree at h
  refine jq_iconst (v := (0 : Int32)) dX9_layTree_0 hC (by decide) ?_
  refine jq_istore_n (L' := [(1, .int (0 : Int32)), (0, .ref (aD G 0 32))]) dX9_layTree_1 hC rfl (by decide) rfl ?_
  refine jq_less (L' := [(0, .ref (aD G 0 32)), (1, .int (0 : Int32))]) [1, 0] rfl ?_
  exact ok_X9_layTree_L2 hC he h
theorem mt_X9_layTree {G : Gt} {w : Wd} {Q : Wd → Prop} (h : wp_X9_layTree w Q) : Mt G D_X9_layTree [.ref (aD G 0 32)] w (qv Q) := Mt_of (by decide +kernel) rfl rfl (Nat.le_of_ble_eq_true rfl) (fun M Qf hC he => ok_X9_layTree hC he h)
/-! X9.goUp(II)V -/
theorem dX9_goUp_0 : decode cX9_goUp 0 = .ok (.iload_n 1, 1) := by decide +kernel
theorem dX9_goUp_1 : decode cX9_goUp 1 = .ok (.istore_n 3, 1) := by decide +kernel
theorem dX9_goUp_2 : decode cX9_goUp 2 = .ok (.aload_n 0, 1) := by decide +kernel
theorem dX9_goUp_3 : decode cX9_goUp 3 = .ok (.getfield 29, 3) := by decide +kernel
theorem dX9_goUp_6 : decode cX9_goUp 6 = .ok (.iload_n 3, 1) := by decide +kernel
theorem dX9_goUp_7 : decode cX9_goUp 7 = .ok (.iaload, 1) := by decide +kernel
theorem dX9_goUp_8 : decode cX9_goUp 8 = .ok (.iconst (-1), 1) := by decide +kernel
theorem dX9_goUp_9 : decode cX9_goUp 9 = .ok (.if_icmp .eq 52, 3) := by decide +kernel
theorem dX9_goUp_12 : decode cX9_goUp 12 = .ok (.aload_n 0, 1) := by decide +kernel
theorem dX9_goUp_13 : decode cX9_goUp 13 = .ok (.getfield 35, 3) := by decide +kernel
theorem dX9_goUp_16 : decode cX9_goUp 16 = .ok (.aload_n 0, 1) := by decide +kernel
theorem dX9_goUp_17 : decode cX9_goUp 17 = .ok (.getfield 29, 3) := by decide +kernel
theorem dX9_goUp_20 : decode cX9_goUp 20 = .ok (.iload_n 3, 1) := by decide +kernel
theorem dX9_goUp_21 : decode cX9_goUp 21 = .ok (.iaload, 1) := by decide +kernel
theorem dX9_goUp_22 : decode cX9_goUp 22 = .ok (.dup2, 1) := by decide +kernel
theorem dX9_goUp_23 : decode cX9_goUp 23 = .ok (.iaload, 1) := by decide +kernel
theorem dX9_goUp_24 : decode cX9_goUp 24 = .ok (.aload_n 0, 1) := by decide +kernel
theorem dX9_goUp_25 : decode cX9_goUp 25 = .ok (.getfield 7, 3) := by decide +kernel
theorem dX9_goUp_28 : decode cX9_goUp 28 = .ok (.aload_n 0, 1) := by decide +kernel
theorem dX9_goUp_29 : decode cX9_goUp 29 = .ok (.getfield 29, 3) := by decide +kernel
theorem dX9_goUp_32 : decode cX9_goUp 32 = .ok (.iload_n 3, 1) := by decide +kernel
theorem dX9_goUp_33 : decode cX9_goUp 33 = .ok (.iaload, 1) := by decide +kernel
theorem dX9_goUp_34 : decode cX9_goUp 34 = .ok (.iconst 0, 1) := by decide +kernel
theorem dX9_goUp_35 : decode cX9_goUp 35 = .ok (.invokestatic 76, 3) := by decide +kernel
theorem dX9_goUp_38 : decode cX9_goUp 38 = .ok (.iaload, 1) := by decide +kernel
theorem dX9_goUp_39 : decode cX9_goUp 39 = .ok (.iload_n 3, 1) := by decide +kernel
theorem dX9_goUp_40 : decode cX9_goUp 40 = .ok (.if_icmp .ne 7, 3) := by decide +kernel
theorem dX9_goUp_43 : decode cX9_goUp 43 = .ok (.iload_n 2, 1) := by decide +kernel
theorem dX9_goUp_44 : decode cX9_goUp 44 = .ok (.goto 5, 3) := by decide +kernel
theorem dX9_goUp_47 : decode cX9_goUp 47 = .ok (.iload_n 2, 1) := by decide +kernel
theorem dX9_goUp_48 : decode cX9_goUp 48 = .ok (.ineg, 1) := by decide +kernel
theorem dX9_goUp_49 : decode cX9_goUp 49 = .ok (.iadd, 1) := by decide +kernel
theorem dX9_goUp_50 : decode cX9_goUp 50 = .ok (.iastore, 1) := by decide +kernel
theorem dX9_goUp_51 : decode cX9_goUp 51 = .ok (.aload_n 0, 1) := by decide +kernel
theorem dX9_goUp_52 : decode cX9_goUp 52 = .ok (.getfield 32, 3) := by decide +kernel
theorem dX9_goUp_55 : decode cX9_goUp 55 = .ok (.iload_n 3, 1) := by decide +kernel
theorem dX9_goUp_56 : decode cX9_goUp 56 = .ok (.iaload, 1) := by decide +kernel
theorem dX9_goUp_57 : decode cX9_goUp 57 = .ok (.istore_n 3, 1) := by decide +kernel
theorem dX9_goUp_58 : decode cX9_goUp 58 = .ok (.goto (-56), 3) := by decide +kernel
theorem dX9_goUp_61 : decode cX9_goUp 61 = .ok (.return_, 1) := by decide +kernel
set_option maxRecDepth 20000 in
theorem ggX9_goUp_X9_of : GoodIn wsX9_goUp wsX9_of := goodIn_r _ [8] (by decide +kernel) (by decide +kernel)
set_option maxRecDepth 20000 in
theorem gX9_goUp_X9_of : GoodIn wsX9_goUp (va_wsS RX9 76 yX9_of wsX9_of) := goodIn_app (goodIn_of _ (by decide +kernel)) ggX9_goUp_X9_of
def D_X9_goUp : Md := (yX9_goUp, cX9_goUp, 4, none, wsX9_goUp, RX9, { frames := 1, cells := 0, slots := 0, locals := 21 })
theorem nm_X9_goUp : nmD D_X9_goUp 2 := ⟨rfl, by decide +kernel, by decide +kernel, by decide +kernel⟩
theorem hi_X9_goUp_X9 : ∀ w ∈ u_ws RX9 TX9 25, w ∈ wsX9_goUp := by decide +kernel
theorem hl_X9_goUp_7 : Cond.fieldLink RX9 7 "LevelLoopsModel" "s" "[I" ∈ wsX9_goUp := by decide +kernel
theorem hl_X9_goUp_29 : Cond.fieldLink RX9 29 "LevelLoopsModel" "upLeg" "[I" ∈ wsX9_goUp := by decide +kernel
theorem hl_X9_goUp_32 : Cond.fieldLink RX9 32 "LevelLoopsModel" "upMark" "[I" ∈ wsX9_goUp := by decide +kernel
theorem hl_X9_goUp_35 : Cond.fieldLink RX9 35 "LevelLoopsModel" "steps" "[I" ∈ wsX9_goUp := by decide +kernel
def wp_X9_goUp_J49 (x2 : Int32) (x3 : Int32) (s0 : Int32) (s1 : Int32) (s2 : Int32) (w : Wd) (Q : Wd → Prop) (K2 : Int32 → Wd → Prop) : Prop :=
  vp_in s2 20 ∧ (∀ w50 : Wd, w50 = (sI w 0 41 s2.toNatClampNeg (s1 + s0)) → vp_in x3 10 ∧ K2 (wi w50 0 40 x3.toNatClampNeg) w50)
def wp_X9_goUp_B2 (x2 : Int32) (x3 : Int32) (w : Wd) (Q : Wd → Prop) (K2 : Int32 → Wd → Prop) : Prop :=
  vp_in x3 10 ∧ (((wi w 0 39 x3.toNatClampNeg) = (-1 : Int32) → Q w) ∧ (¬ (wi w 0 39 x3.toNatClampNeg) = (-1 : Int32) → vp_in x3 10 ∧ vp_in (wi w 0 39 x3.toNatClampNeg) 20 ∧ vp_in x3 10 ∧ wp_X9_of (wi w 0 39 x3.toNatClampNeg) (0 : Int32) (fun r35 => vp_in r35 95 ∧ ((¬ (wi w 0 33 r35.toNatClampNeg) = x3 → wp_X9_goUp_J49 x2 x3 (-x2) (wi w 0 41 (wi w 0 39 x3.toNatClampNeg).toNatClampNeg) (wi w 0 39 x3.toNatClampNeg) w Q K2) ∧ ((wi w 0 33 r35.toNatClampNeg) = x3 → wp_X9_goUp_J49 x2 x3 x2 (wi w 0 41 (wi w 0 39 x3.toNatClampNeg).toNatClampNeg) (wi w 0 39 x3.toNatClampNeg) w Q K2)))))
def wp_X9_goUp_L2 (x2 : Int32) (x3 : Int32) (w : Wd) (Q : Wd → Prop) : Prop :=
  ∃ (I : Int32 → Wd → Prop) (μ : Int32 → Wd → Nat), I x3 w ∧ ∀ (x3 : Int32) (w : Wd), I x3 w → wp_X9_goUp_B2 x2 x3 w Q (fun x3' w' => I x3' w' ∧ μ x3' w' < μ x3 w)
def wp_X9_goUp (x1 : Int32) (x2 : Int32) (w : Wd) (Q : Wd → Prop) : Prop :=
  wp_X9_goUp_L2 x2 x1 w Q
theorem ok_X9_goUp_J49 {G : Gt} {M : Mx} {Qf : State → Prop} {x2 : Int32} {x3 : Int32} {s0 : Int32} {s1 : Int32} {s2 : Int32} {w : Wd} {Q : Wd → Prop} {K2 : Int32 → Wd → Prop} (hC : cx G D_X9_goUp M) (he : en G M (qv Q) Qf) (h : wp_X9_goUp_J49 x2 x3 s0 s1 s2 w Q K2) (hK2 : ∀ (x3 : Int32) (w : Wd), K2 x3 w → jq G D_X9_goUp M Qf 2 [(0, .ref (aD G 0 32)), (2, .int x2), (3, .int x3)] [] w) : jq G D_X9_goUp M Qf 49 [(0, .ref (aD G 0 32)), (2, .int x2), (3, .int x3)] [.int s0, .int s1, .int s2, .ref (aD G 0 41)] w := by
  unfold wp_X9_goUp_J49 at h
  refine jq_iadd dX9_goUp_49 hC ?_
  obtain ⟨b50, h⟩ := h
  refine jq_iast (n := 0) (o := 41) (j := s2.toNatClampNeg) dX9_goUp_50 hC (cl_0 (by decide)) (fun _ => rfl) b50 rfl ?_
  refine jq_w (fun w50 e50 => ?_)
  have h := h w50 e50
  refine jq_aload_n (k0 := 0) dX9_goUp_51 hC rfl rfl ?_
  refine jq_get (k0 := 10) (n := 0) (o := 32) dX9_goUp_52 hC (cl_0 (by decide)) rfl rfl hi_X9_goUp_X9 (by decide) hl_X9_goUp_32 rfl rfl ?_
  refine jq_iload_n (k0 := 2) dX9_goUp_55 hC rfl rfl ?_
  obtain ⟨b56, h⟩ := h
  refine jq_iald (n := 0) (o := 40) (j := x3.toNatClampNeg) dX9_goUp_56 hC (cl_0 (by decide)) rfl b56 rfl ?_
  refine jq_istore_n (L' := [(3, .int (wi w50 0 40 x3.toNatClampNeg)), (0, .ref (aD G 0 32)), (2, .int x2)]) dX9_goUp_57 hC rfl (by decide) rfl ?_
  refine jq_goto (tgt := 2) dX9_goUp_58 hC (by decide) ?_
  exact jq_less (L' := [(0, .ref (aD G 0 32)), (2, .int x2), (3, .int (wi w50 0 40 x3.toNatClampNeg))]) [1, 2, 0] rfl (hK2 _ _ h)
theorem ok_X9_goUp_B2 {G : Gt} {M : Mx} {Qf : State → Prop} {x2 : Int32} {x3 : Int32} {w : Wd} {Q : Wd → Prop} {K2 : Int32 → Wd → Prop} (hC : cx G D_X9_goUp M) (he : en G M (qv Q) Qf) (h : wp_X9_goUp_B2 x2 x3 w Q K2) (hK2 : ∀ (x3 : Int32) (w : Wd), K2 x3 w → jq G D_X9_goUp M Qf 2 [(0, .ref (aD G 0 32)), (2, .int x2), (3, .int x3)] [] w) : jq G D_X9_goUp M Qf 2 [(0, .ref (aD G 0 32)), (2, .int x2), (3, .int x3)] [] w := by
  unfold wp_X9_goUp_B2 at h
  refine jq_aload_n (k0 := 0) dX9_goUp_2 hC rfl rfl ?_
  refine jq_get (k0 := 9) (n := 0) (o := 32) dX9_goUp_3 hC (cl_0 (by decide)) rfl rfl hi_X9_goUp_X9 (by decide) hl_X9_goUp_29 rfl rfl ?_
  refine jq_iload_n (k0 := 2) dX9_goUp_6 hC rfl rfl ?_
  obtain ⟨b7, h⟩ := h
  refine jq_iald (n := 0) (o := 39) (j := x3.toNatClampNeg) dX9_goUp_7 hC (cl_0 (by decide)) rfl b7 rfl ?_
  refine jq_iconst (v := (-1 : Int32)) dX9_goUp_8 hC (by decide) ?_
  refine jq_icmp_eq (tgt := 61) dX9_goUp_9 hC (by decide) (fun c9 => ?_) (fun c9 => ?_)
  · have h := h.1 c9
    exact jq_vret dX9_goUp_61 hC he rfl ⟨rfl, h⟩
  · have h := h.2 c9
    refine jq_aload_n (k0 := 0) dX9_goUp_12 hC rfl rfl ?_
    refine jq_get (k0 := 11) (n := 0) (o := 32) dX9_goUp_13 hC (cl_0 (by decide)) rfl rfl hi_X9_goUp_X9 (by decide) hl_X9_goUp_35 rfl rfl ?_
    refine jq_aload_n (k0 := 0) dX9_goUp_16 hC rfl rfl ?_
    refine jq_get (k0 := 9) (n := 0) (o := 32) dX9_goUp_17 hC (cl_0 (by decide)) rfl rfl hi_X9_goUp_X9 (by decide) hl_X9_goUp_29 rfl rfl ?_
    refine jq_iload_n (k0 := 2) dX9_goUp_20 hC rfl rfl ?_
    obtain ⟨b21, h⟩ := h
    refine jq_iald (n := 0) (o := 39) (j := x3.toNatClampNeg) dX9_goUp_21 hC (cl_0 (by decide)) rfl b21 rfl ?_
    refine jq_dup2 dX9_goUp_22 hC rfl rfl ?_
    obtain ⟨b23, h⟩ := h
    refine jq_iald (n := 0) (o := 41) (j := (wi w 0 39 x3.toNatClampNeg).toNatClampNeg) dX9_goUp_23 hC (cl_0 (by decide)) rfl b23 rfl ?_
    refine jq_aload_n (k0 := 0) dX9_goUp_24 hC rfl rfl ?_
    refine jq_get (k0 := 1) (n := 0) (o := 32) dX9_goUp_25 hC (cl_0 (by decide)) rfl rfl hi_X9_goUp_X9 (by decide) hl_X9_goUp_7 rfl rfl ?_
    refine jq_aload_n (k0 := 0) dX9_goUp_28 hC rfl rfl ?_
    refine jq_get (k0 := 9) (n := 0) (o := 32) dX9_goUp_29 hC (cl_0 (by decide)) rfl rfl hi_X9_goUp_X9 (by decide) hl_X9_goUp_29 rfl rfl ?_
    refine jq_iload_n (k0 := 2) dX9_goUp_32 hC rfl rfl ?_
    obtain ⟨b33, h⟩ := h
    refine jq_iald (n := 0) (o := 39) (j := x3.toNatClampNeg) dX9_goUp_33 hC (cl_0 (by decide)) rfl b33 rfl ?_
    refine jq_iconst (v := (0 : Int32)) dX9_goUp_34 hC (by decide) ?_
    refine jq_callS (As := [.int (wi w 0 39 x3.toNatClampNeg), .int (0 : Int32)]) (rest := [.ref (aD G 0 33), .int (wi w 0 41 (wi w 0 39 x3.toNatClampNeg).toNatClampNeg), .int (wi w 0 39 x3.toNatClampNeg), .ref (aD G 0 41)]) (D' := D_X9_of) dX9_goUp_35 hC (mt_X9_of h) gX9_goUp_X9_of rfl ⟨rfl, rfl, Nat.le_of_ble_eq_true rfl, Nat.le_of_ble_eq_true rfl⟩ nm_X9_of rfl (Nat.le_of_ble_eq_true rfl) (kIp fun r35 h => ?_)
    obtain ⟨b38, h⟩ := h
    refine jq_iald (n := 0) (o := 33) (j := r35.toNatClampNeg) dX9_goUp_38 hC (cl_0 (by decide)) rfl b38 rfl ?_
    refine jq_iload_n (k0 := 2) dX9_goUp_39 hC rfl rfl ?_
    refine jq_icmp_ne (tgt := 47) dX9_goUp_40 hC (by decide) (fun c40 => ?_) (fun c40 => ?_)
    · have h := h.1 c40
      refine jq_iload_n (k0 := 1) dX9_goUp_47 hC rfl rfl ?_
      refine jq_ineg dX9_goUp_48 hC ?_
      refine jq_less (L' := [(0, .ref (aD G 0 32)), (2, .int x2), (3, .int x3)]) [0, 1, 2] rfl ?_
      exact ok_X9_goUp_J49 hC he h hK2
    · have h := h.2 c40
      refine jq_iload_n (k0 := 1) dX9_goUp_43 hC rfl rfl ?_
      refine jq_goto (tgt := 49) dX9_goUp_44 hC (by decide) ?_
      refine jq_less (L' := [(0, .ref (aD G 0 32)), (2, .int x2), (3, .int x3)]) [0, 1, 2] rfl ?_
      exact ok_X9_goUp_J49 hC he h hK2
theorem ok_X9_goUp_L2 {G : Gt} {M : Mx} {Qf : State → Prop} {x2 : Int32} {x3 : Int32} {w : Wd} {Q : Wd → Prop} (hC : cx G D_X9_goUp M) (he : en G M (qv Q) Qf) (h : wp_X9_goUp_L2 x2 x3 w Q) : jq G D_X9_goUp M Qf 2 [(0, .ref (aD G 0 32)), (2, .int x2), (3, .int x3)] [] w := by
  unfold wp_X9_goUp_L2 at h
  obtain ⟨I, μ, h0, hs⟩ := h
  exact lp_ind (σ := Int32 × Wd) (P := fun s => jq G D_X9_goUp M Qf 2 [(0, .ref (aD G 0 32)), (2, .int x2), (3, .int s.1)] [] s.2) (fun s => I s.1 s.2) (fun s => μ s.1 s.2) (fun s h1 ih => ok_X9_goUp_B2 hC he (hs s.1 s.2 h1) (fun x3' w' h => ih (x3', w') h.1 h.2)) (x3, w) h0
theorem ok_X9_goUp {G : Gt} {M : Mx} {Qf : State → Prop} {x1 : Int32} {x2 : Int32} {w : Wd} {Q : Wd → Prop} (hC : cx G D_X9_goUp M) (he : en G M (qv Q) Qf) (h : wp_X9_goUp x1 x2 w Q) : jq G D_X9_goUp M Qf 0 [(0, .ref (aD G 0 32)), (1, .int x1), (2, .int x2)] [] w := by
  unfold wp_X9_goUp at h
  refine jq_iload_n (k0 := 1) dX9_goUp_0 hC rfl rfl ?_
  refine jq_istore_n (L' := [(3, .int x1), (0, .ref (aD G 0 32)), (1, .int x1), (2, .int x2)]) dX9_goUp_1 hC rfl (by decide) rfl ?_
  refine jq_less (L' := [(0, .ref (aD G 0 32)), (2, .int x2), (3, .int x1)]) [1, 3, 0] rfl ?_
  exact ok_X9_goUp_L2 hC he h
theorem mt_X9_goUp {G : Gt} {x1 : Int32} {x2 : Int32} {w : Wd} {Q : Wd → Prop} (h : wp_X9_goUp x1 x2 w Q) : Mt G D_X9_goUp [.ref (aD G 0 32), .int x1, .int x2] w (qv Q) := Mt_of (by decide +kernel) rfl rfl (Nat.le_of_ble_eq_true rfl) (fun M Qf hC he => ok_X9_goUp hC he h)
/-! X9.go(II)V -/
theorem dX9_go_0 : decode cX9_go 0 = .ok (.iconst 0, 1) := by decide +kernel
theorem dX9_go_1 : decode cX9_go 1 = .ok (.istore_n 3, 1) := by decide +kernel
theorem dX9_go_2 : decode cX9_go 2 = .ok (.iload_n 3, 1) := by decide +kernel
theorem dX9_go_3 : decode cX9_go 3 = .ok (.bipush 20, 2) := by decide +kernel
theorem dX9_go_5 : decode cX9_go 5 = .ok (.if_icmp .ge 16, 3) := by decide +kernel
theorem dX9_go_8 : decode cX9_go 8 = .ok (.aload_n 0, 1) := by decide +kernel
theorem dX9_go_9 : decode cX9_go 9 = .ok (.getfield 35, 3) := by decide +kernel
theorem dX9_go_12 : decode cX9_go 12 = .ok (.iload_n 3, 1) := by decide +kernel
theorem dX9_go_13 : decode cX9_go 13 = .ok (.iconst 0, 1) := by decide +kernel
theorem dX9_go_14 : decode cX9_go 14 = .ok (.iastore, 1) := by decide +kernel
theorem dX9_go_15 : decode cX9_go 15 = .ok (.iinc 3 1, 3) := by decide +kernel
theorem dX9_go_18 : decode cX9_go 18 = .ok (.goto (-16), 3) := by decide +kernel
theorem dX9_go_21 : decode cX9_go 21 = .ok (.aload_n 0, 1) := by decide +kernel
theorem dX9_go_22 : decode cX9_go 22 = .ok (.iload_n 1, 1) := by decide +kernel
theorem dX9_go_23 : decode cX9_go 23 = .ok (.iconst 1, 1) := by decide +kernel
theorem dX9_go_24 : decode cX9_go 24 = .ok (.invokevirtual 95, 3) := by decide +kernel
theorem dX9_go_27 : decode cX9_go 27 = .ok (.aload_n 0, 1) := by decide +kernel
theorem dX9_go_28 : decode cX9_go 28 = .ok (.iload_n 2, 1) := by decide +kernel
theorem dX9_go_29 : decode cX9_go 29 = .ok (.iconst (-1), 1) := by decide +kernel
theorem dX9_go_30 : decode cX9_go 30 = .ok (.invokevirtual 95, 3) := by decide +kernel
theorem dX9_go_33 : decode cX9_go 33 = .ok (.return_, 1) := by decide +kernel
set_option maxRecDepth 20000 in
theorem ggX9_go_X9_goUp : GoodIn wsX9_go wsX9_goUp := goodIn_r _ [6, 7, 1, 8, 9, 10, 11, 5, 12, 13, 14, 15, 16, 17, 18, 19, 20, 21, 22, 23, 24, 25, 26, 27, 28, 29, 30, 31, 32, 33, 34, 35, 36, 37] (by decide +kernel) (by decide +kernel)
set_option maxRecDepth 20000 in
theorem gX9_go_X9_goUp : GoodIn wsX9_go (wsV RX9 95 RX9 yX9_goUp wsX9_goUp) := goodIn_app (goodIn_of _ (by decide +kernel)) ggX9_go_X9_goUp
def D_X9_go : Md := (yX9_go, cX9_go, 4, none, wsX9_go, RX9, { frames := 2, cells := 0, slots := 0, locals := 44 })
theorem nm_X9_go : nmD D_X9_go 2 := ⟨rfl, by decide +kernel, by decide +kernel, by decide +kernel⟩
theorem hi_X9_go_X9 : ∀ w ∈ u_ws RX9 TX9 25, w ∈ wsX9_go := by decide +kernel
theorem hl_X9_go_35 : Cond.fieldLink RX9 35 "LevelLoopsModel" "steps" "[I" ∈ wsX9_go := by decide +kernel
def wp_X9_go_B2 (x1 : Int32) (x2 : Int32) (x3 : Int32) (w : Wd) (Q : Wd → Prop) (K2 : Int32 → Wd → Prop) : Prop :=
  (((20 : Int32) ≤ x3 → wp_X9_goUp x1 (1 : Int32) w (fun w24 => wp_X9_goUp x2 (-1 : Int32) w24 (fun w30 => Q w30))) ∧ (¬ (20 : Int32) ≤ x3 → vp_in x3 20 ∧ (∀ w14 : Wd, w14 = (sI w 0 41 x3.toNatClampNeg (0 : Int32)) → K2 (x3 + 1) w14)))
def wp_X9_go_L2 (x1 : Int32) (x2 : Int32) (x3 : Int32) (w : Wd) (Q : Wd → Prop) : Prop :=
  ∃ (I : Int32 → Wd → Prop) (μ : Int32 → Wd → Nat), I x3 w ∧ ∀ (x3 : Int32) (w : Wd), I x3 w → wp_X9_go_B2 x1 x2 x3 w Q (fun x3' w' => I x3' w' ∧ μ x3' w' < μ x3 w)
def wp_X9_go (x1 : Int32) (x2 : Int32) (w : Wd) (Q : Wd → Prop) : Prop :=
  wp_X9_go_L2 x1 x2 (0 : Int32) w Q
theorem ok_X9_go_B2 {G : Gt} {M : Mx} {Qf : State → Prop} {x1 : Int32} {x2 : Int32} {x3 : Int32} {w : Wd} {Q : Wd → Prop} {K2 : Int32 → Wd → Prop} (hC : cx G D_X9_go M) (he : en G M (qv Q) Qf) (h : wp_X9_go_B2 x1 x2 x3 w Q K2) (hK2 : ∀ (x3 : Int32) (w : Wd), K2 x3 w → jq G D_X9_go M Qf 2 [(0, .ref (aD G 0 32)), (1, .int x1), (2, .int x2), (3, .int x3)] [] w) : jq G D_X9_go M Qf 2 [(0, .ref (aD G 0 32)), (1, .int x1), (2, .int x2), (3, .int x3)] [] w := by
  unfold wp_X9_go_B2 at h
  refine jq_iload_n (k0 := 3) dX9_go_2 hC rfl rfl ?_
  refine jq_bipush (v := (20 : Int32)) dX9_go_3 hC (by decide) ?_
  refine jq_icmp_ge (tgt := 21) dX9_go_5 hC (by decide) (fun c5 => ?_) (fun c5 => ?_)
  · have h := h.1 c5
    refine jq_aload_n (k0 := 0) dX9_go_21 hC rfl rfl ?_
    refine jq_iload_n (k0 := 1) dX9_go_22 hC rfl rfl ?_
    refine jq_iconst (v := (1 : Int32)) dX9_go_23 hC (by decide) ?_
    refine jq_callV (As := [.int x1, .int (1 : Int32)]) (rest := []) (n := 0) (o := 32) (D' := D_X9_goUp) dX9_go_24 hC (cl_0 (by decide)) rfl rfl rfl (mt_X9_goUp h) gX9_go_X9_goUp rfl ⟨rfl, rfl, Nat.le_of_ble_eq_true rfl, Nat.le_of_ble_eq_true rfl⟩ nm_X9_goUp rfl (Nat.le_of_ble_eq_true rfl) (kV fun w24 h => ?_)
    refine jq_aload_n (k0 := 0) dX9_go_27 hC rfl rfl ?_
    refine jq_iload_n (k0 := 2) dX9_go_28 hC rfl rfl ?_
    refine jq_iconst (v := (-1 : Int32)) dX9_go_29 hC (by decide) ?_
    refine jq_callV (As := [.int x2, .int (-1 : Int32)]) (rest := []) (n := 0) (o := 32) (D' := D_X9_goUp) dX9_go_30 hC (cl_0 (by decide)) rfl rfl rfl (mt_X9_goUp h) gX9_go_X9_goUp rfl ⟨rfl, rfl, Nat.le_of_ble_eq_true rfl, Nat.le_of_ble_eq_true rfl⟩ nm_X9_goUp rfl (Nat.le_of_ble_eq_true rfl) (kV fun w30 h => ?_)
    exact jq_vret dX9_go_33 hC he rfl ⟨rfl, h⟩
  · have h := h.2 c5
    refine jq_aload_n (k0 := 0) dX9_go_8 hC rfl rfl ?_
    refine jq_get (k0 := 11) (n := 0) (o := 32) dX9_go_9 hC (cl_0 (by decide)) rfl rfl hi_X9_go_X9 (by decide) hl_X9_go_35 rfl rfl ?_
    refine jq_iload_n (k0 := 3) dX9_go_12 hC rfl rfl ?_
    refine jq_iconst (v := (0 : Int32)) dX9_go_13 hC (by decide) ?_
    obtain ⟨b14, h⟩ := h
    refine jq_iast (n := 0) (o := 41) (j := x3.toNatClampNeg) dX9_go_14 hC (cl_0 (by decide)) (fun _ => rfl) b14 rfl ?_
    refine jq_w (fun w14 e14 => ?_)
    have h := h w14 e14
    refine jq_iinc (k0 := 3) (v := (x3 + 1)) (L' := [(3, .int (x3 + 1)), (0, .ref (aD G 0 32)), (1, .int x1), (2, .int x2)]) dX9_go_15 hC rfl rfl (by decide) rfl ?_
    refine jq_goto (tgt := 2) dX9_go_18 hC (by decide) ?_
    exact jq_less (L' := [(0, .ref (aD G 0 32)), (1, .int x1), (2, .int x2), (3, .int (x3 + 1))]) [1, 2, 3, 0] rfl (hK2 _ _ h)
theorem ok_X9_go_L2 {G : Gt} {M : Mx} {Qf : State → Prop} {x1 : Int32} {x2 : Int32} {x3 : Int32} {w : Wd} {Q : Wd → Prop} (hC : cx G D_X9_go M) (he : en G M (qv Q) Qf) (h : wp_X9_go_L2 x1 x2 x3 w Q) : jq G D_X9_go M Qf 2 [(0, .ref (aD G 0 32)), (1, .int x1), (2, .int x2), (3, .int x3)] [] w := by
  unfold wp_X9_go_L2 at h
  obtain ⟨I, μ, h0, hs⟩ := h
  exact lp_ind (σ := Int32 × Wd) (P := fun s => jq G D_X9_go M Qf 2 [(0, .ref (aD G 0 32)), (1, .int x1), (2, .int x2), (3, .int s.1)] [] s.2) (fun s => I s.1 s.2) (fun s => μ s.1 s.2) (fun s h1 ih => ok_X9_go_B2 hC he (hs s.1 s.2 h1) (fun x3' w' h => ih (x3', w') h.1 h.2)) (x3, w) h0
theorem ok_X9_go {G : Gt} {M : Mx} {Qf : State → Prop} {x1 : Int32} {x2 : Int32} {w : Wd} {Q : Wd → Prop} (hC : cx G D_X9_go M) (he : en G M (qv Q) Qf) (h : wp_X9_go x1 x2 w Q) : jq G D_X9_go M Qf 0 [(0, .ref (aD G 0 32)), (1, .int x1), (2, .int x2)] [] w := by
  unfold wp_X9_go at h
  refine jq_iconst (v := (0 : Int32)) dX9_go_0 hC (by decide) ?_
  refine jq_istore_n (L' := [(3, .int (0 : Int32)), (0, .ref (aD G 0 32)), (1, .int x1), (2, .int x2)]) dX9_go_1 hC rfl (by decide) rfl ?_
  refine jq_less (L' := [(0, .ref (aD G 0 32)), (1, .int x1), (2, .int x2), (3, .int (0 : Int32))]) [1, 2, 3, 0] rfl ?_
  exact ok_X9_go_L2 hC he h
theorem mt_X9_go {G : Gt} {x1 : Int32} {x2 : Int32} {w : Wd} {Q : Wd → Prop} (h : wp_X9_go x1 x2 w Q) : Mt G D_X9_go [.ref (aD G 0 32), .int x1, .int x2] w (qv Q) := Mt_of (by decide +kernel) rfl rfl (Nat.le_of_ble_eq_true rfl) (fun M Qf hC he => ok_X9_go hC he h)
/-! X9.layLoops()V -/
theorem dX9_layLoops_0 : decode cX9_layLoops 0 = .ok (.aload_n 0, 1) := by decide +kernel
theorem dX9_layLoops_1 : decode cX9_layLoops 1 = .ok (.iconst 0, 1) := by decide +kernel
theorem dX9_layLoops_2 : decode cX9_layLoops 2 = .ok (.putfield 98, 3) := by decide +kernel
theorem dX9_layLoops_5 : decode cX9_layLoops 5 = .ok (.iconst 0, 1) := by decide +kernel
theorem dX9_layLoops_6 : decode cX9_layLoops 6 = .ok (.istore_n 1, 1) := by decide +kernel
theorem dX9_layLoops_7 : decode cX9_layLoops 7 = .ok (.iload_n 1, 1) := by decide +kernel
theorem dX9_layLoops_8 : decode cX9_layLoops 8 = .ok (.aload_n 0, 1) := by decide +kernel
theorem dX9_layLoops_9 : decode cX9_layLoops 9 = .ok (.getfield 7, 3) := by decide +kernel
theorem dX9_layLoops_12 : decode cX9_layLoops 12 = .ok (.bipush 11, 2) := by decide +kernel
theorem dX9_layLoops_14 : decode cX9_layLoops 14 = .ok (.iaload, 1) := by decide +kernel
theorem dX9_layLoops_15 : decode cX9_layLoops 15 = .ok (.if_icmp .ge 103, 3) := by decide +kernel
theorem dX9_layLoops_18 : decode cX9_layLoops 18 = .ok (.aload_n 0, 1) := by decide +kernel
theorem dX9_layLoops_19 : decode cX9_layLoops 19 = .ok (.getfield 25, 3) := by decide +kernel
theorem dX9_layLoops_22 : decode cX9_layLoops 22 = .ok (.iload_n 1, 1) := by decide +kernel
theorem dX9_layLoops_23 : decode cX9_layLoops 23 = .ok (.baload, 1) := by decide +kernel
theorem dX9_layLoops_24 : decode cX9_layLoops 24 = .ok (.ifCond .ne 88, 3) := by decide +kernel
theorem dX9_layLoops_27 : decode cX9_layLoops 27 = .ok (.aload_n 0, 1) := by decide +kernel
theorem dX9_layLoops_28 : decode cX9_layLoops 28 = .ok (.aload_n 0, 1) := by decide +kernel
theorem dX9_layLoops_29 : decode cX9_layLoops 29 = .ok (.getfield 7, 3) := by decide +kernel
theorem dX9_layLoops_32 : decode cX9_layLoops 32 = .ok (.iload_n 1, 1) := by decide +kernel
theorem dX9_layLoops_33 : decode cX9_layLoops 33 = .ok (.iconst 1, 1) := by decide +kernel
theorem dX9_layLoops_34 : decode cX9_layLoops 34 = .ok (.invokestatic 76, 3) := by decide +kernel
theorem dX9_layLoops_37 : decode cX9_layLoops 37 = .ok (.iaload, 1) := by decide +kernel
theorem dX9_layLoops_38 : decode cX9_layLoops 38 = .ok (.aload_n 0, 1) := by decide +kernel
theorem dX9_layLoops_39 : decode cX9_layLoops 39 = .ok (.getfield 7, 3) := by decide +kernel
theorem dX9_layLoops_42 : decode cX9_layLoops 42 = .ok (.iload_n 1, 1) := by decide +kernel
theorem dX9_layLoops_43 : decode cX9_layLoops 43 = .ok (.iconst 0, 1) := by decide +kernel
theorem dX9_layLoops_44 : decode cX9_layLoops 44 = .ok (.invokestatic 76, 3) := by decide +kernel
theorem dX9_layLoops_47 : decode cX9_layLoops 47 = .ok (.iaload, 1) := by decide +kernel
theorem dX9_layLoops_48 : decode cX9_layLoops 48 = .ok (.invokevirtual 101, 3) := by decide +kernel
theorem dX9_layLoops_51 : decode cX9_layLoops 51 = .ok (.aload_n 0, 1) := by decide +kernel
theorem dX9_layLoops_52 : decode cX9_layLoops 52 = .ok (.getfield 35, 3) := by decide +kernel
theorem dX9_layLoops_55 : decode cX9_layLoops 55 = .ok (.iload_n 1, 1) := by decide +kernel
theorem dX9_layLoops_56 : decode cX9_layLoops 56 = .ok (.iconst 1, 1) := by decide +kernel
theorem dX9_layLoops_57 : decode cX9_layLoops 57 = .ok (.iastore, 1) := by decide +kernel
theorem dX9_layLoops_58 : decode cX9_layLoops 58 = .ok (.iconst 0, 1) := by decide +kernel
theorem dX9_layLoops_59 : decode cX9_layLoops 59 = .ok (.istore_n 2, 1) := by decide +kernel
theorem dX9_layLoops_60 : decode cX9_layLoops 60 = .ok (.iload_n 2, 1) := by decide +kernel
theorem dX9_layLoops_61 : decode cX9_layLoops 61 = .ok (.bipush 20, 2) := by decide +kernel
theorem dX9_layLoops_63 : decode cX9_layLoops 63 = .ok (.if_icmp .ge 29, 3) := by decide +kernel
theorem dX9_layLoops_66 : decode cX9_layLoops 66 = .ok (.aload_n 0, 1) := by decide +kernel
theorem dX9_layLoops_67 : decode cX9_layLoops 67 = .ok (.getfield 38, 3) := by decide +kernel
theorem dX9_layLoops_70 : decode cX9_layLoops 70 = .ok (.bipush 20, 2) := by decide +kernel
theorem dX9_layLoops_72 : decode cX9_layLoops 72 = .ok (.aload_n 0, 1) := by decide +kernel
theorem dX9_layLoops_73 : decode cX9_layLoops 73 = .ok (.getfield 98, 3) := by decide +kernel
theorem dX9_layLoops_76 : decode cX9_layLoops 76 = .ok (.imul, 1) := by decide +kernel
theorem dX9_layLoops_77 : decode cX9_layLoops 77 = .ok (.iload_n 2, 1) := by decide +kernel
theorem dX9_layLoops_78 : decode cX9_layLoops 78 = .ok (.iadd, 1) := by decide +kernel
theorem dX9_layLoops_79 : decode cX9_layLoops 79 = .ok (.aload_n 0, 1) := by decide +kernel
theorem dX9_layLoops_80 : decode cX9_layLoops 80 = .ok (.getfield 35, 3) := by decide +kernel
theorem dX9_layLoops_83 : decode cX9_layLoops 83 = .ok (.iload_n 2, 1) := by decide +kernel
theorem dX9_layLoops_84 : decode cX9_layLoops 84 = .ok (.iaload, 1) := by decide +kernel
theorem dX9_layLoops_85 : decode cX9_layLoops 85 = .ok (.iastore, 1) := by decide +kernel
theorem dX9_layLoops_86 : decode cX9_layLoops 86 = .ok (.iinc 2 1, 3) := by decide +kernel
theorem dX9_layLoops_89 : decode cX9_layLoops 89 = .ok (.goto (-29), 3) := by decide +kernel
theorem dX9_layLoops_92 : decode cX9_layLoops 92 = .ok (.aload_n 0, 1) := by decide +kernel
theorem dX9_layLoops_93 : decode cX9_layLoops 93 = .ok (.getfield 41, 3) := by decide +kernel
theorem dX9_layLoops_96 : decode cX9_layLoops 96 = .ok (.aload_n 0, 1) := by decide +kernel
theorem dX9_layLoops_97 : decode cX9_layLoops 97 = .ok (.getfield 98, 3) := by decide +kernel
theorem dX9_layLoops_100 : decode cX9_layLoops 100 = .ok (.iload_n 1, 1) := by decide +kernel
theorem dX9_layLoops_101 : decode cX9_layLoops 101 = .ok (.iastore, 1) := by decide +kernel
theorem dX9_layLoops_102 : decode cX9_layLoops 102 = .ok (.aload_n 0, 1) := by decide +kernel
theorem dX9_layLoops_103 : decode cX9_layLoops 103 = .ok (.dup, 1) := by decide +kernel
theorem dX9_layLoops_104 : decode cX9_layLoops 104 = .ok (.getfield 98, 3) := by decide +kernel
theorem dX9_layLoops_107 : decode cX9_layLoops 107 = .ok (.iconst 1, 1) := by decide +kernel
theorem dX9_layLoops_108 : decode cX9_layLoops 108 = .ok (.iadd, 1) := by decide +kernel
theorem dX9_layLoops_109 : decode cX9_layLoops 109 = .ok (.putfield 98, 3) := by decide +kernel
theorem dX9_layLoops_112 : decode cX9_layLoops 112 = .ok (.iinc 1 1, 3) := by decide +kernel
theorem dX9_layLoops_115 : decode cX9_layLoops 115 = .ok (.goto (-108), 3) := by decide +kernel
theorem dX9_layLoops_118 : decode cX9_layLoops 118 = .ok (.return_, 1) := by decide +kernel
set_option maxRecDepth 20000 in
theorem ggX9_layLoops_X9_go : GoodIn wsX9_layLoops wsX9_go := goodIn_r _ [14, 4, 15, 16, 17, 9, 18, 19, 2, 20, 7, 8, 10, 21, 22, 23, 24, 25, 26, 27, 28, 29, 30, 31, 32, 33, 34, 35, 36, 37, 38, 39, 40, 41, 42, 43, 44, 45] (by decide +kernel) (by decide +kernel)
set_option maxRecDepth 20000 in
theorem gX9_layLoops_X9_go : GoodIn wsX9_layLoops (wsV RX9 101 RX9 yX9_go wsX9_go) := goodIn_app (goodIn_of _ (by decide +kernel)) ggX9_layLoops_X9_go
set_option maxRecDepth 20000 in
theorem ggX9_layLoops_X9_of : GoodIn wsX9_layLoops wsX9_of := goodIn_r _ [10] (by decide +kernel) (by decide +kernel)
set_option maxRecDepth 20000 in
theorem gX9_layLoops_X9_of : GoodIn wsX9_layLoops (va_wsS RX9 76 yX9_of wsX9_of) := goodIn_app (goodIn_of _ (by decide +kernel)) ggX9_layLoops_X9_of
def D_X9_layLoops : Md := (yX9_layLoops, cX9_layLoops, 3, none, wsX9_layLoops, RX9, { frames := 3, cells := 0, slots := 0, locals := 67 })
theorem nm_X9_layLoops : nmD D_X9_layLoops 0 := ⟨rfl, by decide +kernel, by decide +kernel, by decide +kernel⟩
theorem hi_X9_layLoops_X9 : ∀ w ∈ u_ws RX9 TX9 25, w ∈ wsX9_layLoops := by decide +kernel
theorem hl_X9_layLoops_7 : Cond.fieldLink RX9 7 "LevelLoopsModel" "s" "[I" ∈ wsX9_layLoops := by decide +kernel
theorem hl_X9_layLoops_25 : Cond.fieldLink RX9 25 "LevelLoopsModel" "isTree" "[Z" ∈ wsX9_layLoops := by decide +kernel
theorem hl_X9_layLoops_35 : Cond.fieldLink RX9 35 "LevelLoopsModel" "steps" "[I" ∈ wsX9_layLoops := by decide +kernel
theorem hl_X9_layLoops_38 : Cond.fieldLink RX9 38 "LevelLoopsModel" "loops" "[I" ∈ wsX9_layLoops := by decide +kernel
theorem hl_X9_layLoops_41 : Cond.fieldLink RX9 41 "LevelLoopsModel" "closing" "[I" ∈ wsX9_layLoops := by decide +kernel
theorem hl_X9_layLoops_98 : Cond.fieldLink RX9 98 "LevelLoopsModel" "manyLoops" "I" ∈ wsX9_layLoops := by decide +kernel
def wp_X9_layLoops_B60 (x1 : Int32) (x2 : Int32) (w : Wd) (Q : Wd → Prop) (K7 : Int32 → Wd → Prop) (K60 : Int32 → Wd → Prop) : Prop :=
  (((20 : Int32) ≤ x2 → vp_in (wi w 0 32 15) 20 ∧ (∀ w101 : Wd, w101 = (sI w 0 43 (wi w 0 32 15).toNatClampNeg x1) → (∀ w109 : Wd, w109 = (sI w101 0 32 15 ((wi w101 0 32 15) + (1 : Int32))) → K7 (x1 + 1) w109))) ∧ (¬ (20 : Int32) ≤ x2 → vp_in x2 20 ∧ vp_in (((20 : Int32) * (wi w 0 32 15)) + x2) 400 ∧ (∀ w85 : Wd, w85 = (sI w 0 42 (((20 : Int32) * (wi w 0 32 15)) + x2).toNatClampNeg (wi w 0 41 x2.toNatClampNeg)) → K60 (x2 + 1) w85)))
def wp_X9_layLoops_L60 (x1 : Int32) (x2 : Int32) (w : Wd) (Q : Wd → Prop) (K7 : Int32 → Wd → Prop) : Prop :=
  ∃ (I : Int32 → Wd → Prop) (μ : Int32 → Wd → Nat), I x2 w ∧ ∀ (x2 : Int32) (w : Wd), I x2 w → wp_X9_layLoops_B60 x1 x2 w Q K7 (fun x2' w' => I x2' w' ∧ μ x2' w' < μ x2 w)
def wp_X9_layLoops_B7 (x1 : Int32) (w : Wd) (Q : Wd → Prop) (K7 : Int32 → Wd → Prop) : Prop :=
  (((wi w 0 33 11) ≤ x1 → Q w) ∧ (¬ (wi w 0 33 11) ≤ x1 → vp_in x1 20 ∧ ((¬ (wi w 0 38 x1.toNatClampNeg) = 0 → K7 (x1 + 1) w) ∧ ((wi w 0 38 x1.toNatClampNeg) = 0 → wp_X9_of x1 (1 : Int32) (fun r34 => vp_in r34 95 ∧ wp_X9_of x1 (0 : Int32) (fun r44 => vp_in r44 95 ∧ wp_X9_go (wi w 0 33 r34.toNatClampNeg) (wi w 0 33 r44.toNatClampNeg) w (fun w48 => vp_in x1 20 ∧ (∀ w57 : Wd, w57 = (sI w48 0 41 x1.toNatClampNeg (1 : Int32)) → wp_X9_layLoops_L60 x1 (0 : Int32) w57 Q K7))))))))
def wp_X9_layLoops_L7 (x1 : Int32) (w : Wd) (Q : Wd → Prop) : Prop :=
  ∃ (I : Int32 → Wd → Prop) (μ : Int32 → Wd → Nat), I x1 w ∧ ∀ (x1 : Int32) (w : Wd), I x1 w → wp_X9_layLoops_B7 x1 w Q (fun x1' w' => I x1' w' ∧ μ x1' w' < μ x1 w)
def wp_X9_layLoops (w : Wd) (Q : Wd → Prop) : Prop :=
  (∀ w2 : Wd, w2 = (sI w 0 32 15 (0 : Int32)) → wp_X9_layLoops_L7 (0 : Int32) w2 Q)
theorem ok_X9_layLoops_B60 {G : Gt} {M : Mx} {Qf : State → Prop} {x1 : Int32} {x2 : Int32} {w : Wd} {Q : Wd → Prop} {K7 : Int32 → Wd → Prop} {K60 : Int32 → Wd → Prop} (hC : cx G D_X9_layLoops M) (he : en G M (qv Q) Qf) (h : wp_X9_layLoops_B60 x1 x2 w Q K7 K60) (hK7 : ∀ (x1 : Int32) (w : Wd), K7 x1 w → jq G D_X9_layLoops M Qf 7 [(0, .ref (aD G 0 32)), (1, .int x1)] [] w) (hK60 : ∀ (x2 : Int32) (w : Wd), K60 x2 w → jq G D_X9_layLoops M Qf 60 [(0, .ref (aD G 0 32)), (1, .int x1), (2, .int x2)] [] w) : jq G D_X9_layLoops M Qf 60 [(0, .ref (aD G 0 32)), (1, .int x1), (2, .int x2)] [] w := by
  unfold wp_X9_layLoops_B60 at h
  refine jq_iload_n (k0 := 2) dX9_layLoops_60 hC rfl rfl ?_
  refine jq_bipush (v := (20 : Int32)) dX9_layLoops_61 hC (by decide) ?_
  refine jq_icmp_ge (tgt := 92) dX9_layLoops_63 hC (by decide) (fun c63 => ?_) (fun c63 => ?_)
  · have h := h.1 c63
    refine jq_aload_n (k0 := 0) dX9_layLoops_92 hC rfl rfl ?_
    refine jq_get (k0 := 13) (n := 0) (o := 32) dX9_layLoops_93 hC (cl_0 (by decide)) rfl rfl hi_X9_layLoops_X9 (by decide) hl_X9_layLoops_41 rfl rfl ?_
    refine jq_aload_n (k0 := 0) dX9_layLoops_96 hC rfl rfl ?_
    refine jq_get (k0 := 15) (n := 0) (o := 32) dX9_layLoops_97 hC (cl_0 (by decide)) rfl rfl hi_X9_layLoops_X9 (by decide) hl_X9_layLoops_98 rfl rfl ?_
    refine jq_iload_n (k0 := 1) dX9_layLoops_100 hC rfl rfl ?_
    obtain ⟨b101, h⟩ := h
    refine jq_iast (n := 0) (o := 43) (j := (wi w 0 32 15).toNatClampNeg) dX9_layLoops_101 hC (cl_0 (by decide)) (fun _ => rfl) b101 rfl ?_
    refine jq_w (fun w101 e101 => ?_)
    have h := h w101 e101
    refine jq_aload_n (k0 := 0) dX9_layLoops_102 hC rfl rfl ?_
    refine jq_dup dX9_layLoops_103 hC rfl ?_
    refine jq_get (k0 := 15) (n := 0) (o := 32) dX9_layLoops_104 hC (cl_0 (by decide)) rfl rfl hi_X9_layLoops_X9 (by decide) hl_X9_layLoops_98 rfl rfl ?_
    refine jq_iconst (v := (1 : Int32)) dX9_layLoops_107 hC (by decide) ?_
    refine jq_iadd dX9_layLoops_108 hC ?_
    refine jq_put (k0 := 15) (n := 0) (o := 32) (ty := .int) (w' := (sI w101 0 32 15 ((wi w101 0 32 15) + (1 : Int32)))) dX9_layLoops_109 hC (cl_0 (by decide)) rfl rfl hi_X9_layLoops_X9 tyX9 tyX9_ok nmX9 (by decide) hl_X9_layLoops_98 rfl rfl (by decide +kernel) rfl rfl (Nat.le_of_ble_eq_true rfl) (e_32_15 G _ _ _) (fun c _ hne => ent_sA c hne) ?_
    refine jq_w (fun w109 e109 => ?_)
    have h := h w109 e109
    refine jq_iinc (k0 := 1) (v := (x1 + 1)) (L' := [(1, .int (x1 + 1)), (0, .ref (aD G 0 32)), (2, .int x2)]) dX9_layLoops_112 hC rfl rfl (by decide) rfl ?_
    refine jq_goto (tgt := 7) dX9_layLoops_115 hC (by decide) ?_
    exact jq_less (L' := [(0, .ref (aD G 0 32)), (1, .int (x1 + 1))]) [1, 0] rfl (hK7 _ _ h)
  · have h := h.2 c63
    refine jq_aload_n (k0 := 0) dX9_layLoops_66 hC rfl rfl ?_
    refine jq_get (k0 := 12) (n := 0) (o := 32) dX9_layLoops_67 hC (cl_0 (by decide)) rfl rfl hi_X9_layLoops_X9 (by decide) hl_X9_layLoops_38 rfl rfl ?_
    refine jq_bipush (v := (20 : Int32)) dX9_layLoops_70 hC (by decide) ?_
    refine jq_aload_n (k0 := 0) dX9_layLoops_72 hC rfl rfl ?_
    refine jq_get (k0 := 15) (n := 0) (o := 32) dX9_layLoops_73 hC (cl_0 (by decide)) rfl rfl hi_X9_layLoops_X9 (by decide) hl_X9_layLoops_98 rfl rfl ?_
    refine jq_imul dX9_layLoops_76 hC ?_
    refine jq_iload_n (k0 := 2) dX9_layLoops_77 hC rfl rfl ?_
    refine jq_iadd dX9_layLoops_78 hC ?_
    refine jq_aload_n (k0 := 0) dX9_layLoops_79 hC rfl rfl ?_
    refine jq_get (k0 := 11) (n := 0) (o := 32) dX9_layLoops_80 hC (cl_0 (by decide)) rfl rfl hi_X9_layLoops_X9 (by decide) hl_X9_layLoops_35 rfl rfl ?_
    refine jq_iload_n (k0 := 2) dX9_layLoops_83 hC rfl rfl ?_
    obtain ⟨b84, h⟩ := h
    refine jq_iald (n := 0) (o := 41) (j := x2.toNatClampNeg) dX9_layLoops_84 hC (cl_0 (by decide)) rfl b84 rfl ?_
    obtain ⟨b85, h⟩ := h
    refine jq_iast (n := 0) (o := 42) (j := (((20 : Int32) * (wi w 0 32 15)) + x2).toNatClampNeg) dX9_layLoops_85 hC (cl_0 (by decide)) (fun _ => rfl) b85 rfl ?_
    refine jq_w (fun w85 e85 => ?_)
    have h := h w85 e85
    refine jq_iinc (k0 := 2) (v := (x2 + 1)) (L' := [(2, .int (x2 + 1)), (0, .ref (aD G 0 32)), (1, .int x1)]) dX9_layLoops_86 hC rfl rfl (by decide) rfl ?_
    refine jq_goto (tgt := 60) dX9_layLoops_89 hC (by decide) ?_
    exact jq_less (L' := [(0, .ref (aD G 0 32)), (1, .int x1), (2, .int (x2 + 1))]) [1, 2, 0] rfl (hK60 _ _ h)
theorem ok_X9_layLoops_L60 {G : Gt} {M : Mx} {Qf : State → Prop} {x1 : Int32} {x2 : Int32} {w : Wd} {Q : Wd → Prop} {K7 : Int32 → Wd → Prop} (hC : cx G D_X9_layLoops M) (he : en G M (qv Q) Qf) (h : wp_X9_layLoops_L60 x1 x2 w Q K7) (hK7 : ∀ (x1 : Int32) (w : Wd), K7 x1 w → jq G D_X9_layLoops M Qf 7 [(0, .ref (aD G 0 32)), (1, .int x1)] [] w) : jq G D_X9_layLoops M Qf 60 [(0, .ref (aD G 0 32)), (1, .int x1), (2, .int x2)] [] w := by
  unfold wp_X9_layLoops_L60 at h
  obtain ⟨I, μ, h0, hs⟩ := h
  exact lp_ind (σ := Int32 × Wd) (P := fun s => jq G D_X9_layLoops M Qf 60 [(0, .ref (aD G 0 32)), (1, .int x1), (2, .int s.1)] [] s.2) (fun s => I s.1 s.2) (fun s => μ s.1 s.2) (fun s h1 ih => ok_X9_layLoops_B60 hC he (hs s.1 s.2 h1) hK7 (fun x2' w' h => ih (x2', w') h.1 h.2)) (x2, w) h0
theorem ok_X9_layLoops_B7 {G : Gt} {M : Mx} {Qf : State → Prop} {x1 : Int32} {w : Wd} {Q : Wd → Prop} {K7 : Int32 → Wd → Prop} (hC : cx G D_X9_layLoops M) (he : en G M (qv Q) Qf) (h : wp_X9_layLoops_B7 x1 w Q K7) (hK7 : ∀ (x1 : Int32) (w : Wd), K7 x1 w → jq G D_X9_layLoops M Qf 7 [(0, .ref (aD G 0 32)), (1, .int x1)] [] w) : jq G D_X9_layLoops M Qf 7 [(0, .ref (aD G 0 32)), (1, .int x1)] [] w := by
  unfold wp_X9_layLoops_B7 at h
  refine jq_iload_n (k0 := 1) dX9_layLoops_7 hC rfl rfl ?_
  refine jq_aload_n (k0 := 0) dX9_layLoops_8 hC rfl rfl ?_
  refine jq_get (k0 := 1) (n := 0) (o := 32) dX9_layLoops_9 hC (cl_0 (by decide)) rfl rfl hi_X9_layLoops_X9 (by decide) hl_X9_layLoops_7 rfl rfl ?_
  refine jq_bipush (v := (11 : Int32)) dX9_layLoops_12 hC (by decide) ?_
  refine jq_iald (n := 0) (o := 33) (j := 11) dX9_layLoops_14 hC (cl_0 (by decide)) rfl (vin (by decide)) (by decide) ?_
  refine jq_icmp_ge (tgt := 118) dX9_layLoops_15 hC (by decide) (fun c15 => ?_) (fun c15 => ?_)
  · have h := h.1 c15
    exact jq_vret dX9_layLoops_118 hC he rfl ⟨rfl, h⟩
  · have h := h.2 c15
    refine jq_aload_n (k0 := 0) dX9_layLoops_18 hC rfl rfl ?_
    refine jq_get (k0 := 8) (n := 0) (o := 32) dX9_layLoops_19 hC (cl_0 (by decide)) rfl rfl hi_X9_layLoops_X9 (by decide) hl_X9_layLoops_25 rfl rfl ?_
    refine jq_iload_n (k0 := 1) dX9_layLoops_22 hC rfl rfl ?_
    obtain ⟨b23, h⟩ := h
    refine jq_zald (n := 0) (o := 38) (j := x1.toNatClampNeg) dX9_layLoops_23 hC (cl_0 (by decide)) rfl b23 rfl ?_
    refine jq_if_ne (tgt := 112) dX9_layLoops_24 hC (by decide) (fun c24 => ?_) (fun c24 => ?_)
    · have h := h.1 c24
      refine jq_iinc (k0 := 1) (v := (x1 + 1)) (L' := [(1, .int (x1 + 1)), (0, .ref (aD G 0 32))]) dX9_layLoops_112 hC rfl rfl (by decide) rfl ?_
      refine jq_goto (tgt := 7) dX9_layLoops_115 hC (by decide) ?_
      exact jq_less (L' := [(0, .ref (aD G 0 32)), (1, .int (x1 + 1))]) [1, 0] rfl (hK7 _ _ h)
    · have h := h.2 c24
      refine jq_aload_n (k0 := 0) dX9_layLoops_27 hC rfl rfl ?_
      refine jq_aload_n (k0 := 0) dX9_layLoops_28 hC rfl rfl ?_
      refine jq_get (k0 := 1) (n := 0) (o := 32) dX9_layLoops_29 hC (cl_0 (by decide)) rfl rfl hi_X9_layLoops_X9 (by decide) hl_X9_layLoops_7 rfl rfl ?_
      refine jq_iload_n (k0 := 1) dX9_layLoops_32 hC rfl rfl ?_
      refine jq_iconst (v := (1 : Int32)) dX9_layLoops_33 hC (by decide) ?_
      refine jq_callS (As := [.int x1, .int (1 : Int32)]) (rest := [.ref (aD G 0 33), .ref (aD G 0 32)]) (D' := D_X9_of) dX9_layLoops_34 hC (mt_X9_of h) gX9_layLoops_X9_of rfl ⟨rfl, rfl, Nat.le_of_ble_eq_true rfl, Nat.le_of_ble_eq_true rfl⟩ nm_X9_of rfl (Nat.le_of_ble_eq_true rfl) (kIp fun r34 h => ?_)
      obtain ⟨b37, h⟩ := h
      refine jq_iald (n := 0) (o := 33) (j := r34.toNatClampNeg) dX9_layLoops_37 hC (cl_0 (by decide)) rfl b37 rfl ?_
      refine jq_aload_n (k0 := 0) dX9_layLoops_38 hC rfl rfl ?_
      refine jq_get (k0 := 1) (n := 0) (o := 32) dX9_layLoops_39 hC (cl_0 (by decide)) rfl rfl hi_X9_layLoops_X9 (by decide) hl_X9_layLoops_7 rfl rfl ?_
      refine jq_iload_n (k0 := 1) dX9_layLoops_42 hC rfl rfl ?_
      refine jq_iconst (v := (0 : Int32)) dX9_layLoops_43 hC (by decide) ?_
      refine jq_callS (As := [.int x1, .int (0 : Int32)]) (rest := [.ref (aD G 0 33), .int (wi w 0 33 r34.toNatClampNeg), .ref (aD G 0 32)]) (D' := D_X9_of) dX9_layLoops_44 hC (mt_X9_of h) gX9_layLoops_X9_of rfl ⟨rfl, rfl, Nat.le_of_ble_eq_true rfl, Nat.le_of_ble_eq_true rfl⟩ nm_X9_of rfl (Nat.le_of_ble_eq_true rfl) (kIp fun r44 h => ?_)
      obtain ⟨b47, h⟩ := h
      refine jq_iald (n := 0) (o := 33) (j := r44.toNatClampNeg) dX9_layLoops_47 hC (cl_0 (by decide)) rfl b47 rfl ?_
      refine jq_callV (As := [.int (wi w 0 33 r34.toNatClampNeg), .int (wi w 0 33 r44.toNatClampNeg)]) (rest := []) (n := 0) (o := 32) (D' := D_X9_go) dX9_layLoops_48 hC (cl_0 (by decide)) rfl rfl rfl (mt_X9_go h) gX9_layLoops_X9_go rfl ⟨rfl, rfl, Nat.le_of_ble_eq_true rfl, Nat.le_of_ble_eq_true rfl⟩ nm_X9_go rfl (Nat.le_of_ble_eq_true rfl) (kV fun w48 h => ?_)
      refine jq_aload_n (k0 := 0) dX9_layLoops_51 hC rfl rfl ?_
      refine jq_get (k0 := 11) (n := 0) (o := 32) dX9_layLoops_52 hC (cl_0 (by decide)) rfl rfl hi_X9_layLoops_X9 (by decide) hl_X9_layLoops_35 rfl rfl ?_
      refine jq_iload_n (k0 := 1) dX9_layLoops_55 hC rfl rfl ?_
      refine jq_iconst (v := (1 : Int32)) dX9_layLoops_56 hC (by decide) ?_
      obtain ⟨b57, h⟩ := h
      refine jq_iast (n := 0) (o := 41) (j := x1.toNatClampNeg) dX9_layLoops_57 hC (cl_0 (by decide)) (fun _ => rfl) b57 rfl ?_
      refine jq_w (fun w57 e57 => ?_)
      have h := h w57 e57
      refine jq_iconst (v := (0 : Int32)) dX9_layLoops_58 hC (by decide) ?_
      refine jq_istore_n (L' := [(2, .int (0 : Int32)), (0, .ref (aD G 0 32)), (1, .int x1)]) dX9_layLoops_59 hC rfl (by decide) rfl ?_
      refine jq_less (L' := [(0, .ref (aD G 0 32)), (1, .int x1), (2, .int (0 : Int32))]) [1, 2, 0] rfl ?_
      exact ok_X9_layLoops_L60 hC he h hK7
theorem ok_X9_layLoops_L7 {G : Gt} {M : Mx} {Qf : State → Prop} {x1 : Int32} {w : Wd} {Q : Wd → Prop} (hC : cx G D_X9_layLoops M) (he : en G M (qv Q) Qf) (h : wp_X9_layLoops_L7 x1 w Q) : jq G D_X9_layLoops M Qf 7 [(0, .ref (aD G 0 32)), (1, .int x1)] [] w := by
  unfold wp_X9_layLoops_L7 at h
  obtain ⟨I, μ, h0, hs⟩ := h
  exact lp_ind (σ := Int32 × Wd) (P := fun s => jq G D_X9_layLoops M Qf 7 [(0, .ref (aD G 0 32)), (1, .int s.1)] [] s.2) (fun s => I s.1 s.2) (fun s => μ s.1 s.2) (fun s h1 ih => ok_X9_layLoops_B7 hC he (hs s.1 s.2 h1) (fun x1' w' h => ih (x1', w') h.1 h.2)) (x1, w) h0
theorem ok_X9_layLoops {G : Gt} {M : Mx} {Qf : State → Prop} {w : Wd} {Q : Wd → Prop} (hC : cx G D_X9_layLoops M) (he : en G M (qv Q) Qf) (h : wp_X9_layLoops w Q) : jq G D_X9_layLoops M Qf 0 [(0, .ref (aD G 0 32))] [] w := by
  unfold wp_X9_layLoops at h
  refine jq_aload_n (k0 := 0) dX9_layLoops_0 hC rfl rfl ?_
  refine jq_iconst (v := (0 : Int32)) dX9_layLoops_1 hC (by decide) ?_
  refine jq_put (k0 := 15) (n := 0) (o := 32) (ty := .int) (w' := (sI w 0 32 15 (0 : Int32))) dX9_layLoops_2 hC (cl_0 (by decide)) rfl rfl hi_X9_layLoops_X9 tyX9 tyX9_ok nmX9 (by decide) hl_X9_layLoops_98 rfl rfl (by decide +kernel) rfl rfl (Nat.le_of_ble_eq_true rfl) (e_32_15 G _ _ _) (fun c _ hne => ent_sA c hne) ?_
  refine jq_w (fun w2 e2 => ?_)
  have h := h w2 e2
  refine jq_iconst (v := (0 : Int32)) dX9_layLoops_5 hC (by decide) ?_
  refine jq_istore_n (L' := [(1, .int (0 : Int32)), (0, .ref (aD G 0 32))]) dX9_layLoops_6 hC rfl (by decide) rfl ?_
  refine jq_less (L' := [(0, .ref (aD G 0 32)), (1, .int (0 : Int32))]) [1, 0] rfl ?_
  exact ok_X9_layLoops_L7 hC he h
theorem mt_X9_layLoops {G : Gt} {w : Wd} {Q : Wd → Prop} (h : wp_X9_layLoops w Q) : Mt G D_X9_layLoops [.ref (aD G 0 32)] w (qv Q) := Mt_of (by decide +kernel) rfl rfl (Nat.le_of_ble_eq_true rfl) (fun M Qf hC he => ok_X9_layLoops hC he h)
/-! X9.signIn(II)I -/
theorem dX9_signIn_0 : decode cX9_signIn 0 = .ok (.aload_n 0, 1) := by decide +kernel
theorem dX9_signIn_1 : decode cX9_signIn 1 = .ok (.getfield 38, 3) := by decide +kernel
theorem dX9_signIn_4 : decode cX9_signIn 4 = .ok (.bipush 20, 2) := by decide +kernel
theorem dX9_signIn_6 : decode cX9_signIn 6 = .ok (.iload_n 1, 1) := by decide +kernel
theorem dX9_signIn_7 : decode cX9_signIn 7 = .ok (.imul, 1) := by decide +kernel
theorem dX9_signIn_8 : decode cX9_signIn 8 = .ok (.iload_n 2, 1) := by decide +kernel
theorem dX9_signIn_9 : decode cX9_signIn 9 = .ok (.iadd, 1) := by decide +kernel
theorem dX9_signIn_10 : decode cX9_signIn 10 = .ok (.iaload, 1) := by decide +kernel
theorem dX9_signIn_11 : decode cX9_signIn 11 = .ok (.ireturn, 1) := by decide +kernel
def D_X9_signIn : Md := (yX9_signIn, cX9_signIn, 3, (some .int), wsX9_signIn, RX9, { frames := 0, cells := 0, slots := 0, locals := 0 })
theorem nm_X9_signIn : nmD D_X9_signIn 2 := ⟨rfl, by decide +kernel, by decide +kernel, by decide +kernel⟩
theorem hi_X9_signIn_X9 : ∀ w ∈ u_ws RX9 TX9 25, w ∈ wsX9_signIn := by decide +kernel
theorem hl_X9_signIn_38 : Cond.fieldLink RX9 38 "LevelLoopsModel" "loops" "[I" ∈ wsX9_signIn := by decide +kernel
def wp_X9_signIn (x1 : Int32) (x2 : Int32) (w : Wd) (Q : Int32 → Prop) : Prop :=
  vp_in (((20 : Int32) * x1) + x2) 400 ∧ Q (wi w 0 42 (((20 : Int32) * x1) + x2).toNatClampNeg)
theorem ok_X9_signIn {G : Gt} {M : Mx} {Qf : State → Prop} {x1 : Int32} {x2 : Int32} {w : Wd} {Q : Int32 → Prop} (hC : cx G D_X9_signIn M) (he : en G M (qip w Q) Qf) (h : wp_X9_signIn x1 x2 w Q) : jq G D_X9_signIn M Qf 0 [(0, .ref (aD G 0 32)), (1, .int x1), (2, .int x2)] [] w := by
  unfold wp_X9_signIn at h
  refine jq_aload_n (k0 := 0) dX9_signIn_0 hC rfl rfl ?_
  refine jq_get (k0 := 12) (n := 0) (o := 32) dX9_signIn_1 hC (cl_0 (by decide)) rfl rfl hi_X9_signIn_X9 (by decide) hl_X9_signIn_38 rfl rfl ?_
  refine jq_bipush (v := (20 : Int32)) dX9_signIn_4 hC (by decide) ?_
  refine jq_iload_n (k0 := 1) dX9_signIn_6 hC rfl rfl ?_
  refine jq_imul dX9_signIn_7 hC ?_
  refine jq_iload_n (k0 := 2) dX9_signIn_8 hC rfl rfl ?_
  refine jq_iadd dX9_signIn_9 hC ?_
  obtain ⟨b10, h⟩ := h
  refine jq_iald (n := 0) (o := 42) (j := (((20 : Int32) * x1) + x2).toNatClampNeg) dX9_signIn_10 hC (cl_0 (by decide)) rfl b10 rfl ?_
  exact jq_iret dX9_signIn_11 hC he rfl ⟨_, rfl, rfl, h⟩
theorem mt_X9_signIn {G : Gt} {x1 : Int32} {x2 : Int32} {w : Wd} {Q : Int32 → Prop} (h : wp_X9_signIn x1 x2 w Q) : Mt G D_X9_signIn [.ref (aD G 0 32), .int x1, .int x2] w (qip w Q) := Mt_of (by decide +kernel) rfl rfl (Nat.le_of_ble_eq_true rfl) (fun M Qf hC he => ok_X9_signIn hC he h)
/-! X9.missOf(I)I -/
theorem dX9_missOf_0 : decode cX9_missOf 0 = .ok (.iconst 0, 1) := by decide +kernel
theorem dX9_missOf_1 : decode cX9_missOf 1 = .ok (.istore_n 2, 1) := by decide +kernel
theorem dX9_missOf_2 : decode cX9_missOf 2 = .ok (.iconst 0, 1) := by decide +kernel
theorem dX9_missOf_3 : decode cX9_missOf 3 = .ok (.istore_n 3, 1) := by decide +kernel
theorem dX9_missOf_4 : decode cX9_missOf 4 = .ok (.iload_n 3, 1) := by decide +kernel
theorem dX9_missOf_5 : decode cX9_missOf 5 = .ok (.aload_n 0, 1) := by decide +kernel
theorem dX9_missOf_6 : decode cX9_missOf 6 = .ok (.getfield 7, 3) := by decide +kernel
theorem dX9_missOf_9 : decode cX9_missOf 9 = .ok (.bipush 11, 2) := by decide +kernel
theorem dX9_missOf_11 : decode cX9_missOf 11 = .ok (.iaload, 1) := by decide +kernel
theorem dX9_missOf_12 : decode cX9_missOf 12 = .ok (.if_icmp .ge 29, 3) := by decide +kernel
theorem dX9_missOf_15 : decode cX9_missOf 15 = .ok (.iload_n 2, 1) := by decide +kernel
theorem dX9_missOf_16 : decode cX9_missOf 16 = .ok (.aload_n 0, 1) := by decide +kernel
theorem dX9_missOf_17 : decode cX9_missOf 17 = .ok (.iload_n 1, 1) := by decide +kernel
theorem dX9_missOf_18 : decode cX9_missOf 18 = .ok (.iload_n 3, 1) := by decide +kernel
theorem dX9_missOf_19 : decode cX9_missOf 19 = .ok (.invokevirtual 104, 3) := by decide +kernel
theorem dX9_missOf_22 : decode cX9_missOf 22 = .ok (.aload_n 0, 1) := by decide +kernel
theorem dX9_missOf_23 : decode cX9_missOf 23 = .ok (.getfield 7, 3) := by decide +kernel
theorem dX9_missOf_26 : decode cX9_missOf 26 = .ok (.iload_n 3, 1) := by decide +kernel
theorem dX9_missOf_27 : decode cX9_missOf 27 = .ok (.iconst 3, 1) := by decide +kernel
theorem dX9_missOf_28 : decode cX9_missOf 28 = .ok (.invokestatic 76, 3) := by decide +kernel
theorem dX9_missOf_31 : decode cX9_missOf 31 = .ok (.iaload, 1) := by decide +kernel
theorem dX9_missOf_32 : decode cX9_missOf 32 = .ok (.imul, 1) := by decide +kernel
theorem dX9_missOf_33 : decode cX9_missOf 33 = .ok (.iadd, 1) := by decide +kernel
theorem dX9_missOf_34 : decode cX9_missOf 34 = .ok (.istore_n 2, 1) := by decide +kernel
theorem dX9_missOf_35 : decode cX9_missOf 35 = .ok (.iinc 3 1, 3) := by decide +kernel
theorem dX9_missOf_38 : decode cX9_missOf 38 = .ok (.goto (-34), 3) := by decide +kernel
theorem dX9_missOf_41 : decode cX9_missOf 41 = .ok (.iload_n 2, 1) := by decide +kernel
theorem dX9_missOf_42 : decode cX9_missOf 42 = .ok (.ireturn, 1) := by decide +kernel
set_option maxRecDepth 20000 in
theorem ggX9_missOf_X9_of : GoodIn wsX9_missOf wsX9_of := goodIn_r _ [10] (by decide +kernel) (by decide +kernel)
set_option maxRecDepth 20000 in
theorem gX9_missOf_X9_of : GoodIn wsX9_missOf (va_wsS RX9 76 yX9_of wsX9_of) := goodIn_app (goodIn_of _ (by decide +kernel)) ggX9_missOf_X9_of
set_option maxRecDepth 20000 in
theorem ggX9_missOf_X9_signIn : GoodIn wsX9_missOf wsX9_signIn := goodIn_r _ [6, 7, 11, 12, 13, 14, 15, 16, 17, 18, 19, 20, 21, 22, 23, 24, 25, 26, 27, 28, 29, 30, 31, 32, 33, 34, 35] (by decide +kernel) (by decide +kernel)
set_option maxRecDepth 20000 in
theorem gX9_missOf_X9_signIn : GoodIn wsX9_missOf (wsV RX9 104 RX9 yX9_signIn wsX9_signIn) := goodIn_app (goodIn_of _ (by decide +kernel)) ggX9_missOf_X9_signIn
def D_X9_missOf : Md := (yX9_missOf, cX9_missOf, 4, (some .int), wsX9_missOf, RX9, { frames := 1, cells := 0, slots := 0, locals := 22 })
theorem nm_X9_missOf : nmD D_X9_missOf 1 := ⟨rfl, by decide +kernel, by decide +kernel, by decide +kernel⟩
theorem hi_X9_missOf_X9 : ∀ w ∈ u_ws RX9 TX9 25, w ∈ wsX9_missOf := by decide +kernel
theorem hl_X9_missOf_7 : Cond.fieldLink RX9 7 "LevelLoopsModel" "s" "[I" ∈ wsX9_missOf := by decide +kernel
def wp_X9_missOf_B4 (x1 : Int32) (x2 : Int32) (x3 : Int32) (w : Wd) (Q : Int32 → Prop) (K4 : Int32 → Int32 → Prop) : Prop :=
  (((wi w 0 33 11) ≤ x3 → Q x2) ∧ (¬ (wi w 0 33 11) ≤ x3 → wp_X9_signIn x1 x3 w (fun r19 => wp_X9_of x3 (3 : Int32) (fun r28 => vp_in r28 95 ∧ K4 (x2 + (r19 * (wi w 0 33 r28.toNatClampNeg))) (x3 + 1)))))
def wp_X9_missOf_L4 (x1 : Int32) (x2 : Int32) (x3 : Int32) (w : Wd) (Q : Int32 → Prop) : Prop :=
  ∃ (I : Int32 → Int32 → Prop) (μ : Int32 → Int32 → Nat), I x2 x3 ∧ ∀ (x2 : Int32) (x3 : Int32), I x2 x3 → wp_X9_missOf_B4 x1 x2 x3 w Q (fun x2' x3' => I x2' x3' ∧ μ x2' x3' < μ x2 x3)
def wp_X9_missOf (x1 : Int32) (w : Wd) (Q : Int32 → Prop) : Prop :=
  wp_X9_missOf_L4 x1 (0 : Int32) (0 : Int32) w Q
theorem ok_X9_missOf_B4 {G : Gt} {M : Mx} {Qf : State → Prop} {x1 : Int32} {x2 : Int32} {x3 : Int32} {w : Wd} {Q : Int32 → Prop} {K4 : Int32 → Int32 → Prop} (hC : cx G D_X9_missOf M) (he : en G M (qip w Q) Qf) (h : wp_X9_missOf_B4 x1 x2 x3 w Q K4) (hK4 : ∀ (x2 : Int32) (x3 : Int32), K4 x2 x3 → jq G D_X9_missOf M Qf 4 [(0, .ref (aD G 0 32)), (1, .int x1), (2, .int x2), (3, .int x3)] [] w) : jq G D_X9_missOf M Qf 4 [(0, .ref (aD G 0 32)), (1, .int x1), (2, .int x2), (3, .int x3)] [] w := by
  unfold wp_X9_missOf_B4 at h
  refine jq_iload_n (k0 := 3) dX9_missOf_4 hC rfl rfl ?_
  refine jq_aload_n (k0 := 0) dX9_missOf_5 hC rfl rfl ?_
  refine jq_get (k0 := 1) (n := 0) (o := 32) dX9_missOf_6 hC (cl_0 (by decide)) rfl rfl hi_X9_missOf_X9 (by decide) hl_X9_missOf_7 rfl rfl ?_
  refine jq_bipush (v := (11 : Int32)) dX9_missOf_9 hC (by decide) ?_
  refine jq_iald (n := 0) (o := 33) (j := 11) dX9_missOf_11 hC (cl_0 (by decide)) rfl (vin (by decide)) (by decide) ?_
  refine jq_icmp_ge (tgt := 41) dX9_missOf_12 hC (by decide) (fun c12 => ?_) (fun c12 => ?_)
  · have h := h.1 c12
    refine jq_iload_n (k0 := 2) dX9_missOf_41 hC rfl rfl ?_
    exact jq_iret dX9_missOf_42 hC he rfl ⟨_, rfl, rfl, h⟩
  · have h := h.2 c12
    refine jq_iload_n (k0 := 2) dX9_missOf_15 hC rfl rfl ?_
    refine jq_aload_n (k0 := 0) dX9_missOf_16 hC rfl rfl ?_
    refine jq_iload_n (k0 := 1) dX9_missOf_17 hC rfl rfl ?_
    refine jq_iload_n (k0 := 3) dX9_missOf_18 hC rfl rfl ?_
    refine jq_callV (As := [.int x1, .int x3]) (rest := [.int x2]) (n := 0) (o := 32) (D' := D_X9_signIn) dX9_missOf_19 hC (cl_0 (by decide)) rfl rfl rfl (mt_X9_signIn h) gX9_missOf_X9_signIn rfl ⟨rfl, rfl, Nat.le_of_ble_eq_true rfl, Nat.le_of_ble_eq_true rfl⟩ nm_X9_signIn rfl (Nat.le_of_ble_eq_true rfl) (kIp fun r19 h => ?_)
    refine jq_aload_n (k0 := 0) dX9_missOf_22 hC rfl rfl ?_
    refine jq_get (k0 := 1) (n := 0) (o := 32) dX9_missOf_23 hC (cl_0 (by decide)) rfl rfl hi_X9_missOf_X9 (by decide) hl_X9_missOf_7 rfl rfl ?_
    refine jq_iload_n (k0 := 3) dX9_missOf_26 hC rfl rfl ?_
    refine jq_iconst (v := (3 : Int32)) dX9_missOf_27 hC (by decide) ?_
    refine jq_callS (As := [.int x3, .int (3 : Int32)]) (rest := [.ref (aD G 0 33), .int r19, .int x2]) (D' := D_X9_of) dX9_missOf_28 hC (mt_X9_of h) gX9_missOf_X9_of rfl ⟨rfl, rfl, Nat.le_of_ble_eq_true rfl, Nat.le_of_ble_eq_true rfl⟩ nm_X9_of rfl (Nat.le_of_ble_eq_true rfl) (kIp fun r28 h => ?_)
    obtain ⟨b31, h⟩ := h
    refine jq_iald (n := 0) (o := 33) (j := r28.toNatClampNeg) dX9_missOf_31 hC (cl_0 (by decide)) rfl b31 rfl ?_
    refine jq_imul dX9_missOf_32 hC ?_
    refine jq_iadd dX9_missOf_33 hC ?_
    refine jq_istore_n (L' := [(2, .int (x2 + (r19 * (wi w 0 33 r28.toNatClampNeg)))), (0, .ref (aD G 0 32)), (1, .int x1), (3, .int x3)]) dX9_missOf_34 hC rfl (by decide) rfl ?_
    refine jq_iinc (k0 := 3) (v := (x3 + 1)) (L' := [(3, .int (x3 + 1)), (2, .int (x2 + (r19 * (wi w 0 33 r28.toNatClampNeg)))), (0, .ref (aD G 0 32)), (1, .int x1)]) dX9_missOf_35 hC rfl rfl (by decide) rfl ?_
    refine jq_goto (tgt := 4) dX9_missOf_38 hC (by decide) ?_
    exact jq_less (L' := [(0, .ref (aD G 0 32)), (1, .int x1), (2, .int (x2 + (r19 * (wi w 0 33 r28.toNatClampNeg)))), (3, .int (x3 + 1))]) [2, 3, 1, 0] rfl (hK4 _ _ h)
theorem ok_X9_missOf_L4 {G : Gt} {M : Mx} {Qf : State → Prop} {x1 : Int32} {x2 : Int32} {x3 : Int32} {w : Wd} {Q : Int32 → Prop} (hC : cx G D_X9_missOf M) (he : en G M (qip w Q) Qf) (h : wp_X9_missOf_L4 x1 x2 x3 w Q) : jq G D_X9_missOf M Qf 4 [(0, .ref (aD G 0 32)), (1, .int x1), (2, .int x2), (3, .int x3)] [] w := by
  unfold wp_X9_missOf_L4 at h
  obtain ⟨I, μ, h0, hs⟩ := h
  exact lp_ind (σ := Int32 × Int32) (P := fun s => jq G D_X9_missOf M Qf 4 [(0, .ref (aD G 0 32)), (1, .int x1), (2, .int s.1), (3, .int s.2)] [] w) (fun s => I s.1 s.2) (fun s => μ s.1 s.2) (fun s h1 ih => ok_X9_missOf_B4 hC he (hs s.1 s.2 h1) (fun x2' x3' h => ih (x2', x3') h.1 h.2)) (x2, x3) h0
theorem ok_X9_missOf {G : Gt} {M : Mx} {Qf : State → Prop} {x1 : Int32} {w : Wd} {Q : Int32 → Prop} (hC : cx G D_X9_missOf M) (he : en G M (qip w Q) Qf) (h : wp_X9_missOf x1 w Q) : jq G D_X9_missOf M Qf 0 [(0, .ref (aD G 0 32)), (1, .int x1)] [] w := by
  unfold wp_X9_missOf at h
  refine jq_iconst (v := (0 : Int32)) dX9_missOf_0 hC (by decide) ?_
  refine jq_istore_n (L' := [(2, .int (0 : Int32)), (0, .ref (aD G 0 32)), (1, .int x1)]) dX9_missOf_1 hC rfl (by decide) rfl ?_
  refine jq_iconst (v := (0 : Int32)) dX9_missOf_2 hC (by decide) ?_
  refine jq_istore_n (L' := [(3, .int (0 : Int32)), (2, .int (0 : Int32)), (0, .ref (aD G 0 32)), (1, .int x1)]) dX9_missOf_3 hC rfl (by decide) rfl ?_
  refine jq_less (L' := [(0, .ref (aD G 0 32)), (1, .int x1), (2, .int (0 : Int32)), (3, .int (0 : Int32))]) [2, 3, 1, 0] rfl ?_
  exact ok_X9_missOf_L4 hC he h
theorem mt_X9_missOf {G : Gt} {x1 : Int32} {w : Wd} {Q : Int32 → Prop} (h : wp_X9_missOf x1 w Q) : Mt G D_X9_missOf [.ref (aD G 0 32), .int x1] w (qip w Q) := Mt_of (by decide +kernel) rfl rfl (Nat.le_of_ble_eq_true rfl) (fun M Qf hC he => ok_X9_missOf hC he h)
/-! X9.lengthOf(I)I -/
theorem dX9_lengthOf_0 : decode cX9_lengthOf 0 = .ok (.iconst 0, 1) := by decide +kernel
theorem dX9_lengthOf_1 : decode cX9_lengthOf 1 = .ok (.istore_n 2, 1) := by decide +kernel
theorem dX9_lengthOf_2 : decode cX9_lengthOf 2 = .ok (.iconst 0, 1) := by decide +kernel
theorem dX9_lengthOf_3 : decode cX9_lengthOf 3 = .ok (.istore_n 3, 1) := by decide +kernel
theorem dX9_lengthOf_4 : decode cX9_lengthOf 4 = .ok (.iload_n 3, 1) := by decide +kernel
theorem dX9_lengthOf_5 : decode cX9_lengthOf 5 = .ok (.aload_n 0, 1) := by decide +kernel
theorem dX9_lengthOf_6 : decode cX9_lengthOf 6 = .ok (.getfield 7, 3) := by decide +kernel
theorem dX9_lengthOf_9 : decode cX9_lengthOf 9 = .ok (.bipush 11, 2) := by decide +kernel
theorem dX9_lengthOf_11 : decode cX9_lengthOf 11 = .ok (.iaload, 1) := by decide +kernel
theorem dX9_lengthOf_12 : decode cX9_lengthOf 12 = .ok (.if_icmp .ge 32, 3) := by decide +kernel
theorem dX9_lengthOf_15 : decode cX9_lengthOf 15 = .ok (.iload_n 2, 1) := by decide +kernel
theorem dX9_lengthOf_16 : decode cX9_lengthOf 16 = .ok (.aload_n 0, 1) := by decide +kernel
theorem dX9_lengthOf_17 : decode cX9_lengthOf 17 = .ok (.iload_n 1, 1) := by decide +kernel
theorem dX9_lengthOf_18 : decode cX9_lengthOf 18 = .ok (.iload_n 3, 1) := by decide +kernel
theorem dX9_lengthOf_19 : decode cX9_lengthOf 19 = .ok (.invokevirtual 104, 3) := by decide +kernel
theorem dX9_lengthOf_22 : decode cX9_lengthOf 22 = .ok (.invokestatic 107, 3) := by decide +kernel
theorem dX9_lengthOf_25 : decode cX9_lengthOf 25 = .ok (.aload_n 0, 1) := by decide +kernel
theorem dX9_lengthOf_26 : decode cX9_lengthOf 26 = .ok (.getfield 7, 3) := by decide +kernel
theorem dX9_lengthOf_29 : decode cX9_lengthOf 29 = .ok (.iload_n 3, 1) := by decide +kernel
theorem dX9_lengthOf_30 : decode cX9_lengthOf 30 = .ok (.iconst 2, 1) := by decide +kernel
theorem dX9_lengthOf_31 : decode cX9_lengthOf 31 = .ok (.invokestatic 76, 3) := by decide +kernel
theorem dX9_lengthOf_34 : decode cX9_lengthOf 34 = .ok (.iaload, 1) := by decide +kernel
theorem dX9_lengthOf_35 : decode cX9_lengthOf 35 = .ok (.imul, 1) := by decide +kernel
theorem dX9_lengthOf_36 : decode cX9_lengthOf 36 = .ok (.iadd, 1) := by decide +kernel
theorem dX9_lengthOf_37 : decode cX9_lengthOf 37 = .ok (.istore_n 2, 1) := by decide +kernel
theorem dX9_lengthOf_38 : decode cX9_lengthOf 38 = .ok (.iinc 3 1, 3) := by decide +kernel
theorem dX9_lengthOf_41 : decode cX9_lengthOf 41 = .ok (.goto (-37), 3) := by decide +kernel
theorem dX9_lengthOf_44 : decode cX9_lengthOf 44 = .ok (.iload_n 2, 1) := by decide +kernel
theorem dX9_lengthOf_45 : decode cX9_lengthOf 45 = .ok (.ireturn, 1) := by decide +kernel
set_option maxRecDepth 20000 in
theorem ggX9_lengthOf_X9_of : GoodIn wsX9_lengthOf wsX9_of := goodIn_r _ [13] (by decide +kernel) (by decide +kernel)
set_option maxRecDepth 20000 in
theorem gX9_lengthOf_X9_of : GoodIn wsX9_lengthOf (va_wsS RX9 76 yX9_of wsX9_of) := goodIn_app (goodIn_of _ (by decide +kernel)) ggX9_lengthOf_X9_of
set_option maxRecDepth 20000 in
theorem ggX9_lengthOf_X9_size : GoodIn wsX9_lengthOf wsX9_size := goodIn_r _ [10] (by decide +kernel) (by decide +kernel)
set_option maxRecDepth 20000 in
theorem gX9_lengthOf_X9_size : GoodIn wsX9_lengthOf (va_wsS RX9 107 yX9_size wsX9_size) := goodIn_app (goodIn_of _ (by decide +kernel)) ggX9_lengthOf_X9_size
set_option maxRecDepth 20000 in
theorem ggX9_lengthOf_X9_signIn : GoodIn wsX9_lengthOf wsX9_signIn := goodIn_r _ [6, 7, 14, 15, 16, 17, 18, 19, 20, 21, 22, 23, 24, 25, 26, 27, 28, 29, 30, 31, 32, 33, 34, 35, 36, 37, 38] (by decide +kernel) (by decide +kernel)
set_option maxRecDepth 20000 in
theorem gX9_lengthOf_X9_signIn : GoodIn wsX9_lengthOf (wsV RX9 104 RX9 yX9_signIn wsX9_signIn) := goodIn_app (goodIn_of _ (by decide +kernel)) ggX9_lengthOf_X9_signIn
def D_X9_lengthOf : Md := (yX9_lengthOf, cX9_lengthOf, 4, (some .int), wsX9_lengthOf, RX9, { frames := 1, cells := 0, slots := 0, locals := 22 })
theorem nm_X9_lengthOf : nmD D_X9_lengthOf 1 := ⟨rfl, by decide +kernel, by decide +kernel, by decide +kernel⟩
theorem hi_X9_lengthOf_X9 : ∀ w ∈ u_ws RX9 TX9 25, w ∈ wsX9_lengthOf := by decide +kernel
theorem hl_X9_lengthOf_7 : Cond.fieldLink RX9 7 "LevelLoopsModel" "s" "[I" ∈ wsX9_lengthOf := by decide +kernel
def wp_X9_lengthOf_B4 (x1 : Int32) (x2 : Int32) (x3 : Int32) (w : Wd) (Q : Int32 → Prop) (K4 : Int32 → Int32 → Prop) : Prop :=
  (((wi w 0 33 11) ≤ x3 → Q x2) ∧ (¬ (wi w 0 33 11) ≤ x3 → wp_X9_signIn x1 x3 w (fun r19 => wp_X9_size r19 (fun r22 => wp_X9_of x3 (2 : Int32) (fun r31 => vp_in r31 95 ∧ K4 (x2 + (r22 * (wi w 0 33 r31.toNatClampNeg))) (x3 + 1))))))
def wp_X9_lengthOf_L4 (x1 : Int32) (x2 : Int32) (x3 : Int32) (w : Wd) (Q : Int32 → Prop) : Prop :=
  ∃ (I : Int32 → Int32 → Prop) (μ : Int32 → Int32 → Nat), I x2 x3 ∧ ∀ (x2 : Int32) (x3 : Int32), I x2 x3 → wp_X9_lengthOf_B4 x1 x2 x3 w Q (fun x2' x3' => I x2' x3' ∧ μ x2' x3' < μ x2 x3)
def wp_X9_lengthOf (x1 : Int32) (w : Wd) (Q : Int32 → Prop) : Prop :=
  wp_X9_lengthOf_L4 x1 (0 : Int32) (0 : Int32) w Q
theorem ok_X9_lengthOf_B4 {G : Gt} {M : Mx} {Qf : State → Prop} {x1 : Int32} {x2 : Int32} {x3 : Int32} {w : Wd} {Q : Int32 → Prop} {K4 : Int32 → Int32 → Prop} (hC : cx G D_X9_lengthOf M) (he : en G M (qip w Q) Qf) (h : wp_X9_lengthOf_B4 x1 x2 x3 w Q K4) (hK4 : ∀ (x2 : Int32) (x3 : Int32), K4 x2 x3 → jq G D_X9_lengthOf M Qf 4 [(0, .ref (aD G 0 32)), (1, .int x1), (2, .int x2), (3, .int x3)] [] w) : jq G D_X9_lengthOf M Qf 4 [(0, .ref (aD G 0 32)), (1, .int x1), (2, .int x2), (3, .int x3)] [] w := by
  unfold wp_X9_lengthOf_B4 at h
  refine jq_iload_n (k0 := 3) dX9_lengthOf_4 hC rfl rfl ?_
  refine jq_aload_n (k0 := 0) dX9_lengthOf_5 hC rfl rfl ?_
  refine jq_get (k0 := 1) (n := 0) (o := 32) dX9_lengthOf_6 hC (cl_0 (by decide)) rfl rfl hi_X9_lengthOf_X9 (by decide) hl_X9_lengthOf_7 rfl rfl ?_
  refine jq_bipush (v := (11 : Int32)) dX9_lengthOf_9 hC (by decide) ?_
  refine jq_iald (n := 0) (o := 33) (j := 11) dX9_lengthOf_11 hC (cl_0 (by decide)) rfl (vin (by decide)) (by decide) ?_
  refine jq_icmp_ge (tgt := 44) dX9_lengthOf_12 hC (by decide) (fun c12 => ?_) (fun c12 => ?_)
  · have h := h.1 c12
    refine jq_iload_n (k0 := 2) dX9_lengthOf_44 hC rfl rfl ?_
    exact jq_iret dX9_lengthOf_45 hC he rfl ⟨_, rfl, rfl, h⟩
  · have h := h.2 c12
    refine jq_iload_n (k0 := 2) dX9_lengthOf_15 hC rfl rfl ?_
    refine jq_aload_n (k0 := 0) dX9_lengthOf_16 hC rfl rfl ?_
    refine jq_iload_n (k0 := 1) dX9_lengthOf_17 hC rfl rfl ?_
    refine jq_iload_n (k0 := 3) dX9_lengthOf_18 hC rfl rfl ?_
    refine jq_callV (As := [.int x1, .int x3]) (rest := [.int x2]) (n := 0) (o := 32) (D' := D_X9_signIn) dX9_lengthOf_19 hC (cl_0 (by decide)) rfl rfl rfl (mt_X9_signIn h) gX9_lengthOf_X9_signIn rfl ⟨rfl, rfl, Nat.le_of_ble_eq_true rfl, Nat.le_of_ble_eq_true rfl⟩ nm_X9_signIn rfl (Nat.le_of_ble_eq_true rfl) (kIp fun r19 h => ?_)
    refine jq_callS (As := [.int r19]) (rest := [.int x2]) (D' := D_X9_size) dX9_lengthOf_22 hC (mt_X9_size h) gX9_lengthOf_X9_size rfl ⟨rfl, rfl, Nat.le_of_ble_eq_true rfl, Nat.le_of_ble_eq_true rfl⟩ nm_X9_size rfl (Nat.le_of_ble_eq_true rfl) (kIp fun r22 h => ?_)
    refine jq_aload_n (k0 := 0) dX9_lengthOf_25 hC rfl rfl ?_
    refine jq_get (k0 := 1) (n := 0) (o := 32) dX9_lengthOf_26 hC (cl_0 (by decide)) rfl rfl hi_X9_lengthOf_X9 (by decide) hl_X9_lengthOf_7 rfl rfl ?_
    refine jq_iload_n (k0 := 3) dX9_lengthOf_29 hC rfl rfl ?_
    refine jq_iconst (v := (2 : Int32)) dX9_lengthOf_30 hC (by decide) ?_
    refine jq_callS (As := [.int x3, .int (2 : Int32)]) (rest := [.ref (aD G 0 33), .int r22, .int x2]) (D' := D_X9_of) dX9_lengthOf_31 hC (mt_X9_of h) gX9_lengthOf_X9_of rfl ⟨rfl, rfl, Nat.le_of_ble_eq_true rfl, Nat.le_of_ble_eq_true rfl⟩ nm_X9_of rfl (Nat.le_of_ble_eq_true rfl) (kIp fun r31 h => ?_)
    obtain ⟨b34, h⟩ := h
    refine jq_iald (n := 0) (o := 33) (j := r31.toNatClampNeg) dX9_lengthOf_34 hC (cl_0 (by decide)) rfl b34 rfl ?_
    refine jq_imul dX9_lengthOf_35 hC ?_
    refine jq_iadd dX9_lengthOf_36 hC ?_
    refine jq_istore_n (L' := [(2, .int (x2 + (r22 * (wi w 0 33 r31.toNatClampNeg)))), (0, .ref (aD G 0 32)), (1, .int x1), (3, .int x3)]) dX9_lengthOf_37 hC rfl (by decide) rfl ?_
    refine jq_iinc (k0 := 3) (v := (x3 + 1)) (L' := [(3, .int (x3 + 1)), (2, .int (x2 + (r22 * (wi w 0 33 r31.toNatClampNeg)))), (0, .ref (aD G 0 32)), (1, .int x1)]) dX9_lengthOf_38 hC rfl rfl (by decide) rfl ?_
    refine jq_goto (tgt := 4) dX9_lengthOf_41 hC (by decide) ?_
    exact jq_less (L' := [(0, .ref (aD G 0 32)), (1, .int x1), (2, .int (x2 + (r22 * (wi w 0 33 r31.toNatClampNeg)))), (3, .int (x3 + 1))]) [2, 3, 1, 0] rfl (hK4 _ _ h)
theorem ok_X9_lengthOf_L4 {G : Gt} {M : Mx} {Qf : State → Prop} {x1 : Int32} {x2 : Int32} {x3 : Int32} {w : Wd} {Q : Int32 → Prop} (hC : cx G D_X9_lengthOf M) (he : en G M (qip w Q) Qf) (h : wp_X9_lengthOf_L4 x1 x2 x3 w Q) : jq G D_X9_lengthOf M Qf 4 [(0, .ref (aD G 0 32)), (1, .int x1), (2, .int x2), (3, .int x3)] [] w := by
  unfold wp_X9_lengthOf_L4 at h
  obtain ⟨I, μ, h0, hs⟩ := h
  exact lp_ind (σ := Int32 × Int32) (P := fun s => jq G D_X9_lengthOf M Qf 4 [(0, .ref (aD G 0 32)), (1, .int x1), (2, .int s.1), (3, .int s.2)] [] w) (fun s => I s.1 s.2) (fun s => μ s.1 s.2) (fun s h1 ih => ok_X9_lengthOf_B4 hC he (hs s.1 s.2 h1) (fun x2' x3' h => ih (x2', x3') h.1 h.2)) (x2, x3) h0
theorem ok_X9_lengthOf {G : Gt} {M : Mx} {Qf : State → Prop} {x1 : Int32} {w : Wd} {Q : Int32 → Prop} (hC : cx G D_X9_lengthOf M) (he : en G M (qip w Q) Qf) (h : wp_X9_lengthOf x1 w Q) : jq G D_X9_lengthOf M Qf 0 [(0, .ref (aD G 0 32)), (1, .int x1)] [] w := by
  unfold wp_X9_lengthOf at h
  refine jq_iconst (v := (0 : Int32)) dX9_lengthOf_0 hC (by decide) ?_
  refine jq_istore_n (L' := [(2, .int (0 : Int32)), (0, .ref (aD G 0 32)), (1, .int x1)]) dX9_lengthOf_1 hC rfl (by decide) rfl ?_
  refine jq_iconst (v := (0 : Int32)) dX9_lengthOf_2 hC (by decide) ?_
  refine jq_istore_n (L' := [(3, .int (0 : Int32)), (2, .int (0 : Int32)), (0, .ref (aD G 0 32)), (1, .int x1)]) dX9_lengthOf_3 hC rfl (by decide) rfl ?_
  refine jq_less (L' := [(0, .ref (aD G 0 32)), (1, .int x1), (2, .int (0 : Int32)), (3, .int (0 : Int32))]) [2, 3, 1, 0] rfl ?_
  exact ok_X9_lengthOf_L4 hC he h
theorem mt_X9_lengthOf {G : Gt} {x1 : Int32} {w : Wd} {Q : Int32 → Prop} (h : wp_X9_lengthOf x1 w Q) : Mt G D_X9_lengthOf [.ref (aD G 0 32), .int x1] w (qip w Q) := Mt_of (by decide +kernel) rfl rfl (Nat.le_of_ble_eq_true rfl) (fun M Qf hC he => ok_X9_lengthOf hC he h)
/-! X9.allowed(I)I -/
theorem dX9_allowed_0 : decode cX9_allowed 0 = .ok (.aload_n 0, 1) := by decide +kernel
theorem dX9_allowed_1 : decode cX9_allowed 1 = .ok (.getfield 7, 3) := by decide +kernel
theorem dX9_allowed_4 : decode cX9_allowed 4 = .ok (.bipush 92, 2) := by decide +kernel
theorem dX9_allowed_6 : decode cX9_allowed 6 = .ok (.iaload, 1) := by decide +kernel
theorem dX9_allowed_7 : decode cX9_allowed 7 = .ok (.aload_n 0, 1) := by decide +kernel
theorem dX9_allowed_8 : decode cX9_allowed 8 = .ok (.iload_n 1, 1) := by decide +kernel
theorem dX9_allowed_9 : decode cX9_allowed 9 = .ok (.invokevirtual 110, 3) := by decide +kernel
theorem dX9_allowed_12 : decode cX9_allowed 12 = .ok (.imul, 1) := by decide +kernel
theorem dX9_allowed_13 : decode cX9_allowed 13 = .ok (.bipush 10, 2) := by decide +kernel
theorem dX9_allowed_15 : decode cX9_allowed 15 = .ok (.idiv, 1) := by decide +kernel
theorem dX9_allowed_16 : decode cX9_allowed 16 = .ok (.aload_n 0, 1) := by decide +kernel
theorem dX9_allowed_17 : decode cX9_allowed 17 = .ok (.getfield 7, 3) := by decide +kernel
theorem dX9_allowed_20 : decode cX9_allowed 20 = .ok (.bipush 93, 2) := by decide +kernel
theorem dX9_allowed_22 : decode cX9_allowed 22 = .ok (.iaload, 1) := by decide +kernel
theorem dX9_allowed_23 : decode cX9_allowed 23 = .ok (.iadd, 1) := by decide +kernel
theorem dX9_allowed_24 : decode cX9_allowed 24 = .ok (.ireturn, 1) := by decide +kernel
set_option maxRecDepth 20000 in
theorem ggX9_allowed_X9_lengthOf : GoodIn wsX9_allowed wsX9_lengthOf := goodIn_r _ [6, 1, 7, 8, 9, 5, 10, 11, 12, 13, 14, 15, 16, 17, 18, 19, 20, 21, 22, 23, 24, 25, 26, 27, 28, 29, 30, 31, 32, 33, 34, 35, 36, 37, 38, 39, 40, 41, 42] (by decide +kernel) (by decide +kernel)
set_option maxRecDepth 20000 in
theorem gX9_allowed_X9_lengthOf : GoodIn wsX9_allowed (wsV RX9 110 RX9 yX9_lengthOf wsX9_lengthOf) := goodIn_app (goodIn_of _ (by decide +kernel)) ggX9_allowed_X9_lengthOf
def D_X9_allowed : Md := (yX9_allowed, cX9_allowed, 2, (some .int), wsX9_allowed, RX9, { frames := 2, cells := 0, slots := 0, locals := 45 })
theorem nm_X9_allowed : nmD D_X9_allowed 1 := ⟨rfl, by decide +kernel, by decide +kernel, by decide +kernel⟩
theorem hi_X9_allowed_X9 : ∀ w ∈ u_ws RX9 TX9 25, w ∈ wsX9_allowed := by decide +kernel
theorem hl_X9_allowed_7 : Cond.fieldLink RX9 7 "LevelLoopsModel" "s" "[I" ∈ wsX9_allowed := by decide +kernel
def wp_X9_allowed (x1 : Int32) (w : Wd) (Q : Int32 → Prop) : Prop :=
  wp_X9_lengthOf x1 w (fun r9 => Q ((((wi w 0 33 92) * r9) / (10 : Int32)) + (wi w 0 33 93)))
theorem ok_X9_allowed {G : Gt} {M : Mx} {Qf : State → Prop} {x1 : Int32} {w : Wd} {Q : Int32 → Prop} (hC : cx G D_X9_allowed M) (he : en G M (qip w Q) Qf) (h : wp_X9_allowed x1 w Q) : jq G D_X9_allowed M Qf 0 [(0, .ref (aD G 0 32)), (1, .int x1)] [] w := by
  unfold wp_X9_allowed at h
  refine jq_aload_n (k0 := 0) dX9_allowed_0 hC rfl rfl ?_
  refine jq_get (k0 := 1) (n := 0) (o := 32) dX9_allowed_1 hC (cl_0 (by decide)) rfl rfl hi_X9_allowed_X9 (by decide) hl_X9_allowed_7 rfl rfl ?_
  refine jq_bipush (v := (92 : Int32)) dX9_allowed_4 hC (by decide) ?_
  refine jq_iald (n := 0) (o := 33) (j := 92) dX9_allowed_6 hC (cl_0 (by decide)) rfl (vin (by decide)) (by decide) ?_
  refine jq_aload_n (k0 := 0) dX9_allowed_7 hC rfl rfl ?_
  refine jq_iload_n (k0 := 1) dX9_allowed_8 hC rfl rfl ?_
  refine jq_callV (As := [.int x1]) (rest := [.int (wi w 0 33 92)]) (n := 0) (o := 32) (D' := D_X9_lengthOf) dX9_allowed_9 hC (cl_0 (by decide)) rfl rfl rfl (mt_X9_lengthOf h) gX9_allowed_X9_lengthOf rfl ⟨rfl, rfl, Nat.le_of_ble_eq_true rfl, Nat.le_of_ble_eq_true rfl⟩ nm_X9_lengthOf rfl (Nat.le_of_ble_eq_true rfl) (kIp fun r9 h => ?_)
  refine jq_imul dX9_allowed_12 hC ?_
  refine jq_bipush (v := (10 : Int32)) dX9_allowed_13 hC (by decide) ?_
  refine jq_idiv dX9_allowed_15 hC (by decide) ?_
  refine jq_aload_n (k0 := 0) dX9_allowed_16 hC rfl rfl ?_
  refine jq_get (k0 := 1) (n := 0) (o := 32) dX9_allowed_17 hC (cl_0 (by decide)) rfl rfl hi_X9_allowed_X9 (by decide) hl_X9_allowed_7 rfl rfl ?_
  refine jq_bipush (v := (93 : Int32)) dX9_allowed_20 hC (by decide) ?_
  refine jq_iald (n := 0) (o := 33) (j := 93) dX9_allowed_22 hC (cl_0 (by decide)) rfl (vin (by decide)) (by decide) ?_
  refine jq_iadd dX9_allowed_23 hC ?_
  exact jq_iret dX9_allowed_24 hC he rfl ⟨_, rfl, rfl, h⟩
theorem mt_X9_allowed {G : Gt} {x1 : Int32} {w : Wd} {Q : Int32 → Prop} (h : wp_X9_allowed x1 w Q) : Mt G D_X9_allowed [.ref (aD G 0 32), .int x1] w (qip w Q) := Mt_of (by decide +kernel) rfl rfl (Nat.le_of_ble_eq_true rfl) (fun M Qf hC he => ok_X9_allowed hC he h)
