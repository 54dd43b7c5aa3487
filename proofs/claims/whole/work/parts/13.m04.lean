/-! X0.riseOf(I)I -/
theorem dX0_riseOf_0 : decode cX0_riseOf 0 = .ok (.iconst 0, 1) := by decide +kernel
theorem dX0_riseOf_1 : decode cX0_riseOf 1 = .ok (.istore_n 2, 1) := by decide +kernel
theorem dX0_riseOf_2 : decode cX0_riseOf 2 = .ok (.iconst 0, 1) := by decide +kernel
theorem dX0_riseOf_3 : decode cX0_riseOf 3 = .ok (.istore_n 3, 1) := by decide +kernel
theorem dX0_riseOf_4 : decode cX0_riseOf 4 = .ok (.iload_n 3, 1) := by decide +kernel
theorem dX0_riseOf_5 : decode cX0_riseOf 5 = .ok (.aload_n 0, 1) := by decide +kernel
theorem dX0_riseOf_6 : decode cX0_riseOf 6 = .ok (.getfield 21, 3) := by decide +kernel
theorem dX0_riseOf_9 : decode cX0_riseOf 9 = .ok (.getfield 57, 3) := by decide +kernel
theorem dX0_riseOf_12 : decode cX0_riseOf 12 = .ok (.if_icmp .ge 63, 3) := by decide +kernel
theorem dX0_riseOf_15 : decode cX0_riseOf 15 = .ok (.iload_n 1, 1) := by decide +kernel
theorem dX0_riseOf_16 : decode cX0_riseOf 16 = .ok (.iload_n 3, 1) := by decide +kernel
theorem dX0_riseOf_17 : decode cX0_riseOf 17 = .ok (.invokestatic 60, 3) := by decide +kernel
theorem dX0_riseOf_20 : decode cX0_riseOf 20 = .ok (.ifCond .eq 49, 3) := by decide +kernel
theorem dX0_riseOf_23 : decode cX0_riseOf 23 = .ok (.aload_n 0, 1) := by decide +kernel
theorem dX0_riseOf_24 : decode cX0_riseOf 24 = .ok (.getfield 21, 3) := by decide +kernel
theorem dX0_riseOf_27 : decode cX0_riseOf 27 = .ok (.getfield 64, 3) := by decide +kernel
theorem dX0_riseOf_30 : decode cX0_riseOf 30 = .ok (.iload_n 3, 1) := by decide +kernel
theorem dX0_riseOf_31 : decode cX0_riseOf 31 = .ok (.iaload, 1) := by decide +kernel
theorem dX0_riseOf_32 : decode cX0_riseOf 32 = .ok (.aload_n 0, 1) := by decide +kernel
theorem dX0_riseOf_33 : decode cX0_riseOf 33 = .ok (.getfield 29, 3) := by decide +kernel
theorem dX0_riseOf_36 : decode cX0_riseOf 36 = .ok (.getfield 67, 3) := by decide +kernel
theorem dX0_riseOf_39 : decode cX0_riseOf 39 = .ok (.iload_n 3, 1) := by decide +kernel
theorem dX0_riseOf_40 : decode cX0_riseOf 40 = .ok (.iaload, 1) := by decide +kernel
theorem dX0_riseOf_41 : decode cX0_riseOf 41 = .ok (.iadd, 1) := by decide +kernel
theorem dX0_riseOf_42 : decode cX0_riseOf 42 = .ok (.istore 4, 2) := by decide +kernel
theorem dX0_riseOf_44 : decode cX0_riseOf 44 = .ok (.iload_n 2, 1) := by decide +kernel
theorem dX0_riseOf_45 : decode cX0_riseOf 45 = .ok (.aload_n 0, 1) := by decide +kernel
theorem dX0_riseOf_46 : decode cX0_riseOf 46 = .ok (.getfield 25, 3) := by decide +kernel
theorem dX0_riseOf_49 : decode cX0_riseOf 49 = .ok (.getfield 72, 3) := by decide +kernel
theorem dX0_riseOf_52 : decode cX0_riseOf 52 = .ok (.iload_n 3, 1) := by decide +kernel
theorem dX0_riseOf_53 : decode cX0_riseOf 53 = .ok (.invokestatic 60, 3) := by decide +kernel
theorem dX0_riseOf_56 : decode cX0_riseOf 56 = .ok (.ifCond .eq 8, 3) := by decide +kernel
theorem dX0_riseOf_59 : decode cX0_riseOf 59 = .ok (.iload 4, 2) := by decide +kernel
theorem dX0_riseOf_61 : decode cX0_riseOf 61 = .ok (.goto 6, 3) := by decide +kernel
theorem dX0_riseOf_64 : decode cX0_riseOf 64 = .ok (.iload 4, 2) := by decide +kernel
theorem dX0_riseOf_66 : decode cX0_riseOf 66 = .ok (.ineg, 1) := by decide +kernel
theorem dX0_riseOf_67 : decode cX0_riseOf 67 = .ok (.iadd, 1) := by decide +kernel
theorem dX0_riseOf_68 : decode cX0_riseOf 68 = .ok (.istore_n 2, 1) := by decide +kernel
theorem dX0_riseOf_69 : decode cX0_riseOf 69 = .ok (.iinc 3 1, 3) := by decide +kernel
theorem dX0_riseOf_72 : decode cX0_riseOf 72 = .ok (.goto (-68), 3) := by decide +kernel
theorem dX0_riseOf_75 : decode cX0_riseOf 75 = .ok (.iload_n 2, 1) := by decide +kernel
theorem dX0_riseOf_76 : decode cX0_riseOf 76 = .ok (.ireturn, 1) := by decide +kernel
set_option maxRecDepth 20000 in
theorem ggX0_riseOf_X8_isIn : GoodIn wsX0_riseOf wsX8_isIn := goodIn_r _ [10] (by decide +kernel) (by decide +kernel)
def D_X0_riseOf : Md := (yX0_riseOf, cX0_riseOf, 5, (some .int), wsX0_riseOf, RX0, { frames := 1, cells := 0, slots := 0, locals := 21 })
theorem nm_X0_riseOf : nmD D_X0_riseOf 1 := ⟨rfl, by decide +kernel, by decide +kernel, by decide +kernel⟩
theorem hi_X0_riseOf_X0 : ∀ w ∈ u_ws RX0 TX0 6, w ∈ wsX0_riseOf := by decide +kernel
theorem hi_X0_riseOf_X2 : ∀ w ∈ u_ws RX2 TX2 13, w ∈ wsX0_riseOf := by decide +kernel
theorem hi_X0_riseOf_X5 : ∀ w ∈ u_ws RX5 TX5 8, w ∈ wsX0_riseOf := by decide +kernel
theorem hi_X0_riseOf_X7 : ∀ w ∈ u_ws RX7 TX7 6, w ∈ wsX0_riseOf := by decide +kernel
theorem hl_X0_riseOf_21 : Cond.fieldLink RX0 21 "LevelLoops$Heights" "survey" "LLevelLoops$Survey;" ∈ wsX0_riseOf := by decide +kernel
theorem hl_X0_riseOf_25 : Cond.fieldLink RX0 25 "LevelLoops$Heights" "tree" "LLevelLoops$Tree;" ∈ wsX0_riseOf := by decide +kernel
theorem hl_X0_riseOf_29 : Cond.fieldLink RX0 29 "LevelLoops$Heights" "loops" "LLevelLoops$Loops;" ∈ wsX0_riseOf := by decide +kernel
theorem hl_X0_riseOf_57 : Cond.fieldLink RX0 57 "LevelLoops$Survey" "legs" "I" ∈ wsX0_riseOf := by decide +kernel
theorem hl_X0_riseOf_64 : Cond.fieldLink RX0 64 "LevelLoops$Survey" "difference" "[I" ∈ wsX0_riseOf := by decide +kernel
theorem hl_X0_riseOf_67 : Cond.fieldLink RX0 67 "LevelLoops$Loops" "correction" "[I" ∈ wsX0_riseOf := by decide +kernel
theorem hl_X0_riseOf_72 : Cond.fieldLink RX0 72 "LevelLoops$Tree" "downward" "I" ∈ wsX0_riseOf := by decide +kernel
def wp_X0_riseOf_J67 (n : Nat) (x1 : Int32) (x3 : Int32) (s0 : Int32) (s1 : Int32) (w : Wd) (Q : Int32 → Prop) (K4 : Int32 → Int32 → Prop) : Prop :=
  K4 (s1 + s0) (x3 + 1)
def wp_X0_riseOf_B4 (n : Nat) (x1 : Int32) (x2 : Int32) (x3 : Int32) (w : Wd) (Q : Int32 → Prop) (K4 : Int32 → Int32 → Prop) : Prop :=
  (((wi w n 0 1) ≤ x3 → Q x2) ∧ (¬ (wi w n 0 1) ≤ x3 → wp_X8_isIn x1 x3 (fun r17 => ((r17 = 0 → K4 x2 (x3 + 1)) ∧ (¬ r17 = 0 → vp_in x3 20 ∧ vp_in x3 20 ∧ wp_X8_isIn (wi w n 8 1) x3 (fun r53 => ((r53 = 0 → wp_X0_riseOf_J67 n x1 x3 (-((wi w n 4 x3.toNatClampNeg) + (wi w n 13 x3.toNatClampNeg))) x2 w Q K4) ∧ (¬ r53 = 0 → wp_X0_riseOf_J67 n x1 x3 ((wi w n 4 x3.toNatClampNeg) + (wi w n 13 x3.toNatClampNeg)) x2 w Q K4))))))))
def wp_X0_riseOf_L4 (n : Nat) (x1 : Int32) (x2 : Int32) (x3 : Int32) (w : Wd) (Q : Int32 → Prop) : Prop :=
  ∃ (I : Int32 → Int32 → Prop) (μ : Int32 → Int32 → Nat), I x2 x3 ∧ ∀ (x2 : Int32) (x3 : Int32), I x2 x3 → wp_X0_riseOf_B4 n x1 x2 x3 w Q (fun x2' x3' => I x2' x3' ∧ μ x2' x3' < μ x2 x3)
def wp_X0_riseOf (n : Nat) (x1 : Int32) (w : Wd) (Q : Int32 → Prop) : Prop :=
  wp_X0_riseOf_L4 n x1 (0 : Int32) (0 : Int32) w Q
theorem ok_X0_riseOf_J67 {G : Gt} {M : Mx} {Qf : State → Prop} {n : Nat} {x1 : Int32} {x3 : Int32} {s0 : Int32} {s1 : Int32} {w : Wd} {Q : Int32 → Prop} {K4 : Int32 → Int32 → Prop} (hC : cx G D_X0_riseOf M) (he : en G M (qip w Q) Qf) (hn : n < 2) (h : wp_X0_riseOf_J67 n x1 x3 s0 s1 w Q K4) (hK4 : ∀ (x2 : Int32) (x3 : Int32), K4 x2 x3 → jq G D_X0_riseOf M Qf 4 [(0, .ref (aD G n 22)), (1, .int x1), (2, .int x2), (3, .int x3)] [] w) : jq G D_X0_riseOf M Qf 67 [(0, .ref (aD G n 22)), (1, .int x1), (3, .int x3)] [.int s0, .int s1] w := by
  unfold wp_X0_riseOf_J67 at h
  refine jq_iadd dX0_riseOf_67 hC ?_
  refine jq_istore_n (L' := [(2, .int (s1 + s0)), (0, .ref (aD G n 22)), (1, .int x1), (3, .int x3)]) dX0_riseOf_68 hC rfl (by decide) rfl ?_
  refine jq_iinc (k0 := 3) (v := (x3 + 1)) (L' := [(3, .int (x3 + 1)), (2, .int (s1 + s0)), (0, .ref (aD G n 22)), (1, .int x1)]) dX0_riseOf_69 hC rfl rfl (by decide) rfl ?_
  refine jq_goto (tgt := 4) dX0_riseOf_72 hC (by decide) ?_
  exact jq_less (L' := [(0, .ref (aD G n 22)), (1, .int x1), (2, .int (s1 + s0)), (3, .int (x3 + 1))]) [2, 3, 1, 0] rfl (hK4 _ _ h)
theorem ok_X0_riseOf_B4 {G : Gt} {M : Mx} {Qf : State → Prop} {n : Nat} {x1 : Int32} {x2 : Int32} {x3 : Int32} {w : Wd} {Q : Int32 → Prop} {K4 : Int32 → Int32 → Prop} (hC : cx G D_X0_riseOf M) (he : en G M (qip w Q) Qf) (hn : n < 2) (h : wp_X0_riseOf_B4 n x1 x2 x3 w Q K4) (hK4 : ∀ (x2 : Int32) (x3 : Int32), K4 x2 x3 → jq G D_X0_riseOf M Qf 4 [(0, .ref (aD G n 22)), (1, .int x1), (2, .int x2), (3, .int x3)] [] w) : jq G D_X0_riseOf M Qf 4 [(0, .ref (aD G n 22)), (1, .int x1), (2, .int x2), (3, .int x3)] [] w := by
  unfold wp_X0_riseOf_B4 at h
  refine jq_iload_n (k0 := 3) dX0_riseOf_4 hC rfl rfl ?_
  refine jq_aload_n (k0 := 0) dX0_riseOf_5 hC rfl rfl ?_
  refine jq_get (k0 := 2) (n := n) (o := 22) dX0_riseOf_6 hC (cl_T (by omega) (by decide)) rfl rfl hi_X0_riseOf_X0 (by decide) hl_X0_riseOf_21 rfl rfl ?_
  refine jq_get (k0 := 1) (n := n) (o := 0) dX0_riseOf_9 hC (cl_S (by omega) (by decide)) rfl rfl hi_X0_riseOf_X5 (by decide) hl_X0_riseOf_57 rfl rfl ?_
  refine jq_icmp_ge (tgt := 75) dX0_riseOf_12 hC (by decide) (fun c12 => ?_) (fun c12 => ?_)
  · have h := h.1 c12
    refine jq_iload_n (k0 := 2) dX0_riseOf_75 hC rfl rfl ?_
    exact jq_iret dX0_riseOf_76 hC he rfl ⟨_, rfl, rfl, h⟩
  · have h := h.2 c12
    refine jq_iload_n (k0 := 1) dX0_riseOf_15 hC rfl rfl ?_
    refine jq_iload_n (k0 := 3) dX0_riseOf_16 hC rfl rfl ?_
    refine jq_callSN (As := [.int x1, .int x3]) (rest := []) (D' := D_X8_isIn) (host := "LevelLoops") dX0_riseOf_17 hC (mt_X8_isIn h) ggX0_riseOf_X8_isIn rfl (by decide +kernel) (by decide +kernel) (by decide +kernel) ⟨rfl, rfl, Nat.le_of_ble_eq_true rfl, Nat.le_of_ble_eq_true rfl⟩ nm_X8_isIn rfl (Nat.le_of_ble_eq_true rfl) (kIp fun r17 h => ?_)
    refine jq_if_eq (tgt := 69) dX0_riseOf_20 hC (by decide) (fun c20 => ?_) (fun c20 => ?_)
    · have h := h.1 c20
      refine jq_iinc (k0 := 3) (v := (x3 + 1)) (L' := [(3, .int (x3 + 1)), (0, .ref (aD G n 22)), (1, .int x1), (2, .int x2)]) dX0_riseOf_69 hC rfl rfl (by decide) rfl ?_
      refine jq_goto (tgt := 4) dX0_riseOf_72 hC (by decide) ?_
      exact jq_less (L' := [(0, .ref (aD G n 22)), (1, .int x1), (2, .int x2), (3, .int (x3 + 1))]) [1, 2, 3, 0] rfl (hK4 _ _ h)
    · have h := h.2 c20
      refine jq_aload_n (k0 := 0) dX0_riseOf_23 hC rfl rfl ?_
      refine jq_get (k0 := 2) (n := n) (o := 22) dX0_riseOf_24 hC (cl_T (by omega) (by decide)) rfl rfl hi_X0_riseOf_X0 (by decide) hl_X0_riseOf_21 rfl rfl ?_
      refine jq_get (k0 := 5) (n := n) (o := 0) dX0_riseOf_27 hC (cl_S (by omega) (by decide)) rfl rfl hi_X0_riseOf_X5 (by decide) hl_X0_riseOf_64 rfl rfl ?_
      refine jq_iload_n (k0 := 3) dX0_riseOf_30 hC rfl rfl ?_
      obtain ⟨b31, h⟩ := h
      refine jq_iald (n := n) (o := 4) (j := x3.toNatClampNeg) dX0_riseOf_31 hC (cl_S (by omega) (by decide)) rfl b31 rfl ?_
      refine jq_aload_n (k0 := 0) dX0_riseOf_32 hC rfl rfl ?_
      refine jq_get (k0 := 4) (n := n) (o := 22) dX0_riseOf_33 hC (cl_T (by omega) (by decide)) rfl rfl hi_X0_riseOf_X0 (by decide) hl_X0_riseOf_29 rfl rfl ?_
      refine jq_get (k0 := 1) (n := n) (o := 12) dX0_riseOf_36 hC (cl_T (by omega) (by decide)) rfl rfl hi_X0_riseOf_X2 (by decide) hl_X0_riseOf_67 rfl rfl ?_
      refine jq_iload_n (k0 := 3) dX0_riseOf_39 hC rfl rfl ?_
      obtain ⟨b40, h⟩ := h
      refine jq_iald (n := n) (o := 13) (j := x3.toNatClampNeg) dX0_riseOf_40 hC (cl_T (by omega) (by decide)) rfl b40 rfl ?_
      refine jq_iadd dX0_riseOf_41 hC ?_
      refine jq_istore (L' := [(4, .int ((wi w n 4 x3.toNatClampNeg) + (wi w n 13 x3.toNatClampNeg))), (0, .ref (aD G n 22)), (1, .int x1), (2, .int x2), (3, .int x3)]) dX0_riseOf_42 hC (by decide) rfl ?_
      refine jq_iload_n (k0 := 3) dX0_riseOf_44 hC rfl rfl ?_
      refine jq_aload_n (k0 := 1) dX0_riseOf_45 hC rfl rfl ?_
      refine jq_get (k0 := 3) (n := n) (o := 22) dX0_riseOf_46 hC (cl_T (by omega) (by decide)) rfl rfl hi_X0_riseOf_X0 (by decide) hl_X0_riseOf_25 rfl rfl ?_
      refine jq_get (k0 := 1) (n := n) (o := 8) dX0_riseOf_49 hC (cl_T (by omega) (by decide)) rfl rfl hi_X0_riseOf_X7 (by decide) hl_X0_riseOf_72 rfl rfl ?_
      refine jq_iload_n (k0 := 4) dX0_riseOf_52 hC rfl rfl ?_
      refine jq_callSN (As := [.int (wi w n 8 1), .int x3]) (rest := [.int x2]) (D' := D_X8_isIn) (host := "LevelLoops") dX0_riseOf_53 hC (mt_X8_isIn h) ggX0_riseOf_X8_isIn rfl (by decide +kernel) (by decide +kernel) (by decide +kernel) ⟨rfl, rfl, Nat.le_of_ble_eq_true rfl, Nat.le_of_ble_eq_true rfl⟩ nm_X8_isIn rfl (Nat.le_of_ble_eq_true rfl) (kIp fun r53 h => ?_)
      refine jq_if_eq (tgt := 64) dX0_riseOf_56 hC (by decide) (fun c56 => ?_) (fun c56 => ?_)
      · have h := h.1 c56
        refine jq_iload (k0 := 0) dX0_riseOf_64 hC rfl ?_
        refine jq_ineg dX0_riseOf_66 hC ?_
        refine jq_less (L' := [(0, .ref (aD G n 22)), (1, .int x1), (3, .int x3)]) [1, 2, 4] rfl ?_
        exact ok_X0_riseOf_J67 hC he hn h hK4
      · have h := h.2 c56
        refine jq_iload (k0 := 0) dX0_riseOf_59 hC rfl ?_
        refine jq_goto (tgt := 67) dX0_riseOf_61 hC (by decide) ?_
        refine jq_less (L' := [(0, .ref (aD G n 22)), (1, .int x1), (3, .int x3)]) [1, 2, 4] rfl ?_
        exact ok_X0_riseOf_J67 hC he hn h hK4
theorem ok_X0_riseOf_L4 {G : Gt} {M : Mx} {Qf : State → Prop} {n : Nat} {x1 : Int32} {x2 : Int32} {x3 : Int32} {w : Wd} {Q : Int32 → Prop} (hC : cx G D_X0_riseOf M) (he : en G M (qip w Q) Qf) (hn : n < 2) (h : wp_X0_riseOf_L4 n x1 x2 x3 w Q) : jq G D_X0_riseOf M Qf 4 [(0, .ref (aD G n 22)), (1, .int x1), (2, .int x2), (3, .int x3)] [] w := by
  unfold wp_X0_riseOf_L4 at h
  obtain ⟨I, μ, h0, hs⟩ := h
  exact lp_ind (σ := Int32 × Int32) (P := fun s => jq G D_X0_riseOf M Qf 4 [(0, .ref (aD G n 22)), (1, .int x1), (2, .int s.1), (3, .int s.2)] [] w) (fun s => I s.1 s.2) (fun s => μ s.1 s.2) (fun s h1 ih => ok_X0_riseOf_B4 hC he hn (hs s.1 s.2 h1) (fun x2' x3' h => ih (x2', x3') h.1 h.2)) (x2, x3) h0
theorem ok_X0_riseOf {G : Gt} {M : Mx} {Qf : State → Prop} {n : Nat} {x1 : Int32} {w : Wd} {Q : Int32 → Prop} (hC : cx G D_X0_riseOf M) (he : en G M (qip w Q) Qf) (hn : n < 2) (h : wp_X0_riseOf n x1 w Q) : jq G D_X0_riseOf M Qf 0 [(0, .ref (aD G n 22)), (1, .int x1)] [] w := by
  unfold wp_X0_riseOf at h
  refine jq_iconst (v := (0 : Int32)) dX0_riseOf_0 hC (by decide) ?_
  refine jq_istore_n (L' := [(2, .int (0 : Int32)), (0, .ref (aD G n 22)), (1, .int x1)]) dX0_riseOf_1 hC rfl (by decide) rfl ?_
  refine jq_iconst (v := (0 : Int32)) dX0_riseOf_2 hC (by decide) ?_
  refine jq_istore_n (L' := [(3, .int (0 : Int32)), (2, .int (0 : Int32)), (0, .ref (aD G n 22)), (1, .int x1)]) dX0_riseOf_3 hC rfl (by decide) rfl ?_
  refine jq_less (L' := [(0, .ref (aD G n 22)), (1, .int x1), (2, .int (0 : Int32)), (3, .int (0 : Int32))]) [2, 3, 1, 0] rfl ?_
  exact ok_X0_riseOf_L4 hC he hn h
theorem mt_X0_riseOf {G : Gt} {n : Nat} {x1 : Int32} {w : Wd} {Q : Int32 → Prop} (hn : n < 2) (h : wp_X0_riseOf n x1 w Q) : Mt G D_X0_riseOf [.ref (aD G n 22), .int x1] w (qip w Q) := Mt_of (by decide +kernel) rfl rfl (Nat.le_of_ble_eq_true rfl) (fun M Qf hC he => ok_X0_riseOf hC he hn h)
/-! X0.agree(II)Z -/
theorem dX0_agree_0 : decode cX0_agree 0 = .ok (.aload_n 0, 1) := by decide +kernel
theorem dX0_agree_1 : decode cX0_agree 1 = .ok (.getfield 21, 3) := by decide +kernel
theorem dX0_agree_4 : decode cX0_agree 4 = .ok (.getfield 48, 3) := by decide +kernel
theorem dX0_agree_7 : decode cX0_agree 7 = .ok (.iload_n 2, 1) := by decide +kernel
theorem dX0_agree_8 : decode cX0_agree 8 = .ok (.iaload, 1) := by decide +kernel
theorem dX0_agree_9 : decode cX0_agree 9 = .ok (.aload_n 0, 1) := by decide +kernel
theorem dX0_agree_10 : decode cX0_agree 10 = .ok (.getfield 21, 3) := by decide +kernel
theorem dX0_agree_13 : decode cX0_agree 13 = .ok (.getfield 48, 3) := by decide +kernel
theorem dX0_agree_16 : decode cX0_agree 16 = .ok (.iload_n 1, 1) := by decide +kernel
theorem dX0_agree_17 : decode cX0_agree 17 = .ok (.iaload, 1) := by decide +kernel
theorem dX0_agree_18 : decode cX0_agree 18 = .ok (.isub, 1) := by decide +kernel
theorem dX0_agree_19 : decode cX0_agree 19 = .ok (.istore_n 3, 1) := by decide +kernel
theorem dX0_agree_20 : decode cX0_agree 20 = .ok (.aload_n 0, 1) := by decide +kernel
theorem dX0_agree_21 : decode cX0_agree 21 = .ok (.getfield 9, 3) := by decide +kernel
theorem dX0_agree_24 : decode cX0_agree 24 = .ok (.iload_n 2, 1) := by decide +kernel
theorem dX0_agree_25 : decode cX0_agree 25 = .ok (.iaload, 1) := by decide +kernel
theorem dX0_agree_26 : decode cX0_agree 26 = .ok (.aload_n 0, 1) := by decide +kernel
theorem dX0_agree_27 : decode cX0_agree 27 = .ok (.getfield 9, 3) := by decide +kernel
theorem dX0_agree_30 : decode cX0_agree 30 = .ok (.iload_n 1, 1) := by decide +kernel
theorem dX0_agree_31 : decode cX0_agree 31 = .ok (.iaload, 1) := by decide +kernel
theorem dX0_agree_32 : decode cX0_agree 32 = .ok (.isub, 1) := by decide +kernel
theorem dX0_agree_33 : decode cX0_agree 33 = .ok (.istore 4, 2) := by decide +kernel
theorem dX0_agree_35 : decode cX0_agree 35 = .ok (.iload_n 3, 1) := by decide +kernel
theorem dX0_agree_36 : decode cX0_agree 36 = .ok (.iload 4, 2) := by decide +kernel
theorem dX0_agree_38 : decode cX0_agree 38 = .ok (.isub, 1) := by decide +kernel
theorem dX0_agree_39 : decode cX0_agree 39 = .ok (.invokestatic 78, 3) := by decide +kernel
theorem dX0_agree_42 : decode cX0_agree 42 = .ok (.aload_n 0, 1) := by decide +kernel
theorem dX0_agree_43 : decode cX0_agree 43 = .ok (.getfield 21, 3) := by decide +kernel
theorem dX0_agree_46 : decode cX0_agree 46 = .ok (.getfield 83, 3) := by decide +kernel
theorem dX0_agree_49 : decode cX0_agree 49 = .ok (.iconst 2, 1) := by decide +kernel
theorem dX0_agree_50 : decode cX0_agree 50 = .ok (.iaload, 1) := by decide +kernel
theorem dX0_agree_51 : decode cX0_agree 51 = .ok (.if_icmp .gt 7, 3) := by decide +kernel
theorem dX0_agree_54 : decode cX0_agree 54 = .ok (.iconst 1, 1) := by decide +kernel
theorem dX0_agree_55 : decode cX0_agree 55 = .ok (.goto 4, 3) := by decide +kernel
theorem dX0_agree_58 : decode cX0_agree 58 = .ok (.iconst 0, 1) := by decide +kernel
theorem dX0_agree_59 : decode cX0_agree 59 = .ok (.ireturn, 1) := by decide +kernel
def D_X0_agree : Md := (yX0_agree, cX0_agree, 5, (some .boolean), wsX0_agree, RX0, { frames := 1, cells := 0, slots := 0, locals := 21 })
theorem nm_X0_agree : nmD D_X0_agree 2 := ⟨rfl, by decide +kernel, by decide +kernel, by decide +kernel⟩
theorem hi_X0_agree_X0 : ∀ w ∈ u_ws RX0 TX0 6, w ∈ wsX0_agree := by decide +kernel
theorem hi_X0_agree_X5 : ∀ w ∈ u_ws RX5 TX5 8, w ∈ wsX0_agree := by decide +kernel
theorem hl_X0_agree_9 : Cond.fieldLink RX0 9 "LevelLoops$Heights" "rise" "[I" ∈ wsX0_agree := by decide +kernel
theorem hl_X0_agree_21 : Cond.fieldLink RX0 21 "LevelLoops$Heights" "survey" "LLevelLoops$Survey;" ∈ wsX0_agree := by decide +kernel
theorem hl_X0_agree_48 : Cond.fieldLink RX0 48 "LevelLoops$Survey" "known" "[I" ∈ wsX0_agree := by decide +kernel
theorem hl_X0_agree_83 : Cond.fieldLink RX0 83 "LevelLoops$Survey" "settings" "[I" ∈ wsX0_agree := by decide +kernel
def wp_X0_agree (n : Nat) (x1 : Int32) (x2 : Int32) (w : Wd) (Q : Int32 → Prop) : Prop :=
  vp_in x2 10 ∧ vp_in x1 10 ∧ vp_in x2 10 ∧ vp_in x1 10 ∧ (((wi w n 6 2) < (iabs (((wi w n 1 x2.toNatClampNeg) - (wi w n 1 x1.toNatClampNeg)) - ((wi w n 23 x2.toNatClampNeg) - (wi w n 23 x1.toNatClampNeg)))) → zb (0 : Int32) ∧ Q (0 : Int32)) ∧ (¬ (wi w n 6 2) < (iabs (((wi w n 1 x2.toNatClampNeg) - (wi w n 1 x1.toNatClampNeg)) - ((wi w n 23 x2.toNatClampNeg) - (wi w n 23 x1.toNatClampNeg)))) → zb (1 : Int32) ∧ Q (1 : Int32)))
theorem ok_X0_agree {G : Gt} {M : Mx} {Qf : State → Prop} {n : Nat} {x1 : Int32} {x2 : Int32} {w : Wd} {Q : Int32 → Prop} (hC : cx G D_X0_agree M) (he : en G M (qip w Q) Qf) (hn : n < 2) (h : wp_X0_agree n x1 x2 w Q) : jq G D_X0_agree M Qf 0 [(0, .ref (aD G n 22)), (1, .int x1), (2, .int x2)] [] w := by
  unfold wp_X0_agree at h
  refine jq_aload_n (k0 := 0) dX0_agree_0 hC rfl rfl ?_
  refine jq_get (k0 := 2) (n := n) (o := 22) dX0_agree_1 hC (cl_T (by omega) (by decide)) rfl rfl hi_X0_agree_X0 (by decide) hl_X0_agree_21 rfl rfl ?_
  refine jq_get (k0 := 2) (n := n) (o := 0) dX0_agree_4 hC (cl_S (by omega) (by decide)) rfl rfl hi_X0_agree_X5 (by decide) hl_X0_agree_48 rfl rfl ?_
  refine jq_iload_n (k0 := 2) dX0_agree_7 hC rfl rfl ?_
  obtain ⟨b8, h⟩ := h
  refine jq_iald (n := n) (o := 1) (j := x2.toNatClampNeg) dX0_agree_8 hC (cl_S (by omega) (by decide)) rfl b8 rfl ?_
  refine jq_aload_n (k0 := 0) dX0_agree_9 hC rfl rfl ?_
  refine jq_get (k0 := 2) (n := n) (o := 22) dX0_agree_10 hC (cl_T (by omega) (by decide)) rfl rfl hi_X0_agree_X0 (by decide) hl_X0_agree_21 rfl rfl ?_
  refine jq_get (k0 := 2) (n := n) (o := 0) dX0_agree_13 hC (cl_S (by omega) (by decide)) rfl rfl hi_X0_agree_X5 (by decide) hl_X0_agree_48 rfl rfl ?_
  refine jq_iload_n (k0 := 1) dX0_agree_16 hC rfl rfl ?_
  obtain ⟨b17, h⟩ := h
  refine jq_iald (n := n) (o := 1) (j := x1.toNatClampNeg) dX0_agree_17 hC (cl_S (by omega) (by decide)) rfl b17 rfl ?_
  refine jq_isub dX0_agree_18 hC ?_
  refine jq_istore_n (L' := [(3, .int ((wi w n 1 x2.toNatClampNeg) - (wi w n 1 x1.toNatClampNeg))), (0, .ref (aD G n 22)), (1, .int x1), (2, .int x2)]) dX0_agree_19 hC rfl (by decide) rfl ?_
  refine jq_aload_n (k0 := 1) dX0_agree_20 hC rfl rfl ?_
  refine jq_get (k0 := 0) (n := n) (o := 22) dX0_agree_21 hC (cl_T (by omega) (by decide)) rfl rfl hi_X0_agree_X0 (by decide) hl_X0_agree_9 rfl rfl ?_
  refine jq_iload_n (k0 := 3) dX0_agree_24 hC rfl rfl ?_
  obtain ⟨b25, h⟩ := h
  refine jq_iald (n := n) (o := 23) (j := x2.toNatClampNeg) dX0_agree_25 hC (cl_T (by omega) (by decide)) rfl b25 rfl ?_
  refine jq_aload_n (k0 := 1) dX0_agree_26 hC rfl rfl ?_
  refine jq_get (k0 := 0) (n := n) (o := 22) dX0_agree_27 hC (cl_T (by omega) (by decide)) rfl rfl hi_X0_agree_X0 (by decide) hl_X0_agree_9 rfl rfl ?_
  refine jq_iload_n (k0 := 2) dX0_agree_30 hC rfl rfl ?_
  obtain ⟨b31, h⟩ := h
  refine jq_iald (n := n) (o := 23) (j := x1.toNatClampNeg) dX0_agree_31 hC (cl_T (by omega) (by decide)) rfl b31 rfl ?_
  refine jq_isub dX0_agree_32 hC ?_
  refine jq_istore (L' := [(4, .int ((wi w n 23 x2.toNatClampNeg) - (wi w n 23 x1.toNatClampNeg))), (3, .int ((wi w n 1 x2.toNatClampNeg) - (wi w n 1 x1.toNatClampNeg))), (0, .ref (aD G n 22)), (1, .int x1), (2, .int x2)]) dX0_agree_33 hC (by decide) rfl ?_
  refine jq_iload_n (k0 := 1) dX0_agree_35 hC rfl rfl ?_
  refine jq_iload (k0 := 0) dX0_agree_36 hC rfl ?_
  refine jq_isub dX0_agree_38 hC ?_
  refine jq_abs dX0_agree_39 hC (by decide +kernel) (Nat.le_of_ble_eq_true rfl) (Nat.le_of_ble_eq_true rfl) ?_
  refine jq_aload_n (k0 := 2) dX0_agree_42 hC rfl rfl ?_
  refine jq_get (k0 := 2) (n := n) (o := 22) dX0_agree_43 hC (cl_T (by omega) (by decide)) rfl rfl hi_X0_agree_X0 (by decide) hl_X0_agree_21 rfl rfl ?_
  refine jq_get (k0 := 7) (n := n) (o := 0) dX0_agree_46 hC (cl_S (by omega) (by decide)) rfl rfl hi_X0_agree_X5 (by decide) hl_X0_agree_83 rfl rfl ?_
  refine jq_iconst (v := (2 : Int32)) dX0_agree_49 hC (by decide) ?_
  refine jq_iald (n := n) (o := 6) (j := 2) dX0_agree_50 hC (cl_S (by omega) (by decide)) rfl (vin (by decide)) (by decide) ?_
  refine jq_icmp_gt (tgt := 58) dX0_agree_51 hC (by decide) (fun c51 => ?_) (fun c51 => ?_)
  · have h := h.1 c51
    refine jq_iconst (v := (0 : Int32)) dX0_agree_58 hC (by decide) ?_
    obtain ⟨bz, h⟩ := h
    exact jq_zret dX0_agree_59 hC he rfl bz ⟨_, rfl, rfl, h⟩
  · have h := h.2 c51
    refine jq_iconst (v := (1 : Int32)) dX0_agree_54 hC (by decide) ?_
    refine jq_goto (tgt := 59) dX0_agree_55 hC (by decide) ?_
    obtain ⟨bz, h⟩ := h
    exact jq_zret dX0_agree_59 hC he rfl bz ⟨_, rfl, rfl, h⟩
theorem mt_X0_agree {G : Gt} {n : Nat} {x1 : Int32} {x2 : Int32} {w : Wd} {Q : Int32 → Prop} (hn : n < 2) (h : wp_X0_agree n x1 x2 w Q) : Mt G D_X0_agree [.ref (aD G n 22), .int x1, .int x2] w (qip w Q) := Mt_of (by decide +kernel) rfl rfl (Nat.le_of_ble_eq_true rfl) (fun M Qf hC he => ok_X0_agree hC he hn h)
/-! X0.howManyAgree(I)I -/
theorem dX0_howManyAgree_0 : decode cX0_howManyAgree 0 = .ok (.iconst 0, 1) := by decide +kernel
theorem dX0_howManyAgree_1 : decode cX0_howManyAgree 1 = .ok (.istore_n 2, 1) := by decide +kernel
theorem dX0_howManyAgree_2 : decode cX0_howManyAgree 2 = .ok (.iconst 0, 1) := by decide +kernel
theorem dX0_howManyAgree_3 : decode cX0_howManyAgree 3 = .ok (.istore_n 3, 1) := by decide +kernel
theorem dX0_howManyAgree_4 : decode cX0_howManyAgree 4 = .ok (.iload_n 3, 1) := by decide +kernel
theorem dX0_howManyAgree_5 : decode cX0_howManyAgree 5 = .ok (.aload_n 0, 1) := by decide +kernel
theorem dX0_howManyAgree_6 : decode cX0_howManyAgree 6 = .ok (.getfield 21, 3) := by decide +kernel
theorem dX0_howManyAgree_9 : decode cX0_howManyAgree 9 = .ok (.getfield 33, 3) := by decide +kernel
theorem dX0_howManyAgree_12 : decode cX0_howManyAgree 12 = .ok (.if_icmp .ge 60, 3) := by decide +kernel
theorem dX0_howManyAgree_15 : decode cX0_howManyAgree 15 = .ok (.iload_n 3, 1) := by decide +kernel
theorem dX0_howManyAgree_16 : decode cX0_howManyAgree 16 = .ok (.iload_n 1, 1) := by decide +kernel
theorem dX0_howManyAgree_17 : decode cX0_howManyAgree 17 = .ok (.if_icmp .eq 49, 3) := by decide +kernel
theorem dX0_howManyAgree_20 : decode cX0_howManyAgree 20 = .ok (.aload_n 0, 1) := by decide +kernel
theorem dX0_howManyAgree_21 : decode cX0_howManyAgree 21 = .ok (.getfield 21, 3) := by decide +kernel
theorem dX0_howManyAgree_24 : decode cX0_howManyAgree 24 = .ok (.getfield 48, 3) := by decide +kernel
theorem dX0_howManyAgree_27 : decode cX0_howManyAgree 27 = .ok (.iload_n 3, 1) := by decide +kernel
theorem dX0_howManyAgree_28 : decode cX0_howManyAgree 28 = .ok (.iaload, 1) := by decide +kernel
theorem dX0_howManyAgree_29 : decode cX0_howManyAgree 29 = .ok (.iconst (-1), 1) := by decide +kernel
theorem dX0_howManyAgree_30 : decode cX0_howManyAgree 30 = .ok (.if_icmp .eq 36, 3) := by decide +kernel
theorem dX0_howManyAgree_33 : decode cX0_howManyAgree 33 = .ok (.aload_n 0, 1) := by decide +kernel
theorem dX0_howManyAgree_34 : decode cX0_howManyAgree 34 = .ok (.getfield 25, 3) := by decide +kernel
theorem dX0_howManyAgree_37 : decode cX0_howManyAgree 37 = .ok (.getfield 54, 3) := by decide +kernel
theorem dX0_howManyAgree_40 : decode cX0_howManyAgree 40 = .ok (.iload_n 3, 1) := by decide +kernel
theorem dX0_howManyAgree_41 : decode cX0_howManyAgree 41 = .ok (.iaload, 1) := by decide +kernel
theorem dX0_howManyAgree_42 : decode cX0_howManyAgree 42 = .ok (.aload_n 0, 1) := by decide +kernel
theorem dX0_howManyAgree_43 : decode cX0_howManyAgree 43 = .ok (.getfield 25, 3) := by decide +kernel
theorem dX0_howManyAgree_46 : decode cX0_howManyAgree 46 = .ok (.getfield 54, 3) := by decide +kernel
theorem dX0_howManyAgree_49 : decode cX0_howManyAgree 49 = .ok (.iload_n 1, 1) := by decide +kernel
theorem dX0_howManyAgree_50 : decode cX0_howManyAgree 50 = .ok (.iaload, 1) := by decide +kernel
theorem dX0_howManyAgree_51 : decode cX0_howManyAgree 51 = .ok (.if_icmp .ne 15, 3) := by decide +kernel
theorem dX0_howManyAgree_54 : decode cX0_howManyAgree 54 = .ok (.aload_n 0, 1) := by decide +kernel
theorem dX0_howManyAgree_55 : decode cX0_howManyAgree 55 = .ok (.iload_n 1, 1) := by decide +kernel
theorem dX0_howManyAgree_56 : decode cX0_howManyAgree 56 = .ok (.iload_n 3, 1) := by decide +kernel
theorem dX0_howManyAgree_57 : decode cX0_howManyAgree 57 = .ok (.invokevirtual 75, 3) := by decide +kernel
theorem dX0_howManyAgree_60 : decode cX0_howManyAgree 60 = .ok (.ifCond .eq 6, 3) := by decide +kernel
theorem dX0_howManyAgree_63 : decode cX0_howManyAgree 63 = .ok (.iinc 2 1, 3) := by decide +kernel
theorem dX0_howManyAgree_66 : decode cX0_howManyAgree 66 = .ok (.iinc 3 1, 3) := by decide +kernel
theorem dX0_howManyAgree_69 : decode cX0_howManyAgree 69 = .ok (.goto (-65), 3) := by decide +kernel
theorem dX0_howManyAgree_72 : decode cX0_howManyAgree 72 = .ok (.iload_n 2, 1) := by decide +kernel
theorem dX0_howManyAgree_73 : decode cX0_howManyAgree 73 = .ok (.ireturn, 1) := by decide +kernel
set_option maxRecDepth 20000 in
theorem ggX0_howManyAgree_X0_agree : GoodIn wsX0_howManyAgree wsX0_agree := goodIn_r _ [10, 1, 3, 11, 12, 13, 14, 15, 16, 17, 18, 19, 20, 21, 22, 23, 24, 25, 26, 27, 28, 29, 30] (by decide +kernel) (by decide +kernel)
set_option maxRecDepth 20000 in
theorem gX0_howManyAgree_X0_agree : GoodIn wsX0_howManyAgree (wsV RX0 75 RX0 yX0_agree wsX0_agree) := goodIn_app (goodIn_of _ (by decide +kernel)) ggX0_howManyAgree_X0_agree
def D_X0_howManyAgree : Md := (yX0_howManyAgree, cX0_howManyAgree, 4, (some .int), wsX0_howManyAgree, RX0, { frames := 2, cells := 0, slots := 0, locals := 45 })
theorem nm_X0_howManyAgree : nmD D_X0_howManyAgree 1 := ⟨rfl, by decide +kernel, by decide +kernel, by decide +kernel⟩
theorem hi_X0_howManyAgree_X0 : ∀ w ∈ u_ws RX0 TX0 6, w ∈ wsX0_howManyAgree := by decide +kernel
theorem hi_X0_howManyAgree_X5 : ∀ w ∈ u_ws RX5 TX5 8, w ∈ wsX0_howManyAgree := by decide +kernel
theorem hi_X0_howManyAgree_X7 : ∀ w ∈ u_ws RX7 TX7 6, w ∈ wsX0_howManyAgree := by decide +kernel
theorem hl_X0_howManyAgree_21 : Cond.fieldLink RX0 21 "LevelLoops$Heights" "survey" "LLevelLoops$Survey;" ∈ wsX0_howManyAgree := by decide +kernel
theorem hl_X0_howManyAgree_25 : Cond.fieldLink RX0 25 "LevelLoops$Heights" "tree" "LLevelLoops$Tree;" ∈ wsX0_howManyAgree := by decide +kernel
theorem hl_X0_howManyAgree_33 : Cond.fieldLink RX0 33 "LevelLoops$Survey" "marks" "I" ∈ wsX0_howManyAgree := by decide +kernel
theorem hl_X0_howManyAgree_48 : Cond.fieldLink RX0 48 "LevelLoops$Survey" "known" "[I" ∈ wsX0_howManyAgree := by decide +kernel
theorem hl_X0_howManyAgree_54 : Cond.fieldLink RX0 54 "LevelLoops$Tree" "net" "[I" ∈ wsX0_howManyAgree := by decide +kernel
def wp_X0_howManyAgree_B4 (n : Nat) (x1 : Int32) (x2 : Int32) (x3 : Int32) (w : Wd) (Q : Int32 → Prop) (K4 : Int32 → Int32 → Prop) : Prop :=
  (((wi w n 0 0) ≤ x3 → Q x2) ∧ (¬ (wi w n 0 0) ≤ x3 → ((x3 = x1 → K4 x2 (x3 + 1)) ∧ (¬ x3 = x1 → vp_in x3 10 ∧ (((wi w n 1 x3.toNatClampNeg) = (-1 : Int32) → K4 x2 (x3 + 1)) ∧ (¬ (wi w n 1 x3.toNatClampNeg) = (-1 : Int32) → vp_in x3 10 ∧ vp_in x1 10 ∧ ((¬ (wi w n 9 x3.toNatClampNeg) = (wi w n 9 x1.toNatClampNeg) → K4 x2 (x3 + 1)) ∧ ((wi w n 9 x3.toNatClampNeg) = (wi w n 9 x1.toNatClampNeg) → wp_X0_agree n x1 x3 w (fun r57 => ((r57 = 0 → K4 x2 (x3 + 1)) ∧ (¬ r57 = 0 → K4 (x2 + 1) (x3 + 1))))))))))))
def wp_X0_howManyAgree_L4 (n : Nat) (x1 : Int32) (x2 : Int32) (x3 : Int32) (w : Wd) (Q : Int32 → Prop) : Prop :=
  ∃ (I : Int32 → Int32 → Prop) (μ : Int32 → Int32 → Nat), I x2 x3 ∧ ∀ (x2 : Int32) (x3 : Int32), I x2 x3 → wp_X0_howManyAgree_B4 n x1 x2 x3 w Q (fun x2' x3' => I x2' x3' ∧ μ x2' x3' < μ x2 x3)
def wp_X0_howManyAgree (n : Nat) (x1 : Int32) (w : Wd) (Q : Int32 → Prop) : Prop :=
  wp_X0_howManyAgree_L4 n x1 (0 : Int32) (0 : Int32) w Q
theorem ok_X0_howManyAgree_B4 {G : Gt} {M : Mx} {Qf : State → Prop} {n : Nat} {x1 : Int32} {x2 : Int32} {x3 : Int32} {w : Wd} {Q : Int32 → Prop} {K4 : Int32 → Int32 → Prop} (hC : cx G D_X0_howManyAgree M) (he : en G M (qip w Q) Qf) (hn : n < 2) (h : wp_X0_howManyAgree_B4 n x1 x2 x3 w Q K4) (hK4 : ∀ (x2 : Int32) (x3 : Int32), K4 x2 x3 → jq G D_X0_howManyAgree M Qf 4 [(0, .ref (aD G n 22)), (1, .int x1), (2, .int x2), (3, .int x3)] [] w) : jq G D_X0_howManyAgree M Qf 4 [(0, .ref (aD G n 22)), (1, .int x1), (2, .int x2), (3, .int x3)] [] w := by
  unfold wp_X0_howManyAgree_B4 at h
  refine jq_iload_n (k0 := 3) dX0_howManyAgree_4 hC rfl rfl ?_
  refine jq_aload_n (k0 := 0) dX0_howManyAgree_5 hC rfl rfl ?_
  refine jq_get (k0 := 2) (n := n) (o := 22) dX0_howManyAgree_6 hC (cl_T (by omega) (by decide)) rfl rfl hi_X0_howManyAgree_X0 (by decide) hl_X0_howManyAgree_21 rfl rfl ?_
  refine jq_get (k0 := 0) (n := n) (o := 0) dX0_howManyAgree_9 hC (cl_S (by omega) (by decide)) rfl rfl hi_X0_howManyAgree_X5 (by decide) hl_X0_howManyAgree_33 rfl rfl ?_
  refine jq_icmp_ge (tgt := 72) dX0_howManyAgree_12 hC (by decide) (fun c12 => ?_) (fun c12 => ?_)
  · have h := h.1 c12
    refine jq_iload_n (k0 := 2) dX0_howManyAgree_72 hC rfl rfl ?_
    exact jq_iret dX0_howManyAgree_73 hC he rfl ⟨_, rfl, rfl, h⟩
  · have h := h.2 c12
    refine jq_iload_n (k0 := 3) dX0_howManyAgree_15 hC rfl rfl ?_
    refine jq_iload_n (k0 := 1) dX0_howManyAgree_16 hC rfl rfl ?_
    refine jq_icmp_eq (tgt := 66) dX0_howManyAgree_17 hC (by decide) (fun c17 => ?_) (fun c17 => ?_)
    · have h := h.1 c17
      refine jq_iinc (k0 := 3) (v := (x3 + 1)) (L' := [(3, .int (x3 + 1)), (0, .ref (aD G n 22)), (1, .int x1), (2, .int x2)]) dX0_howManyAgree_66 hC rfl rfl (by decide) rfl ?_
      refine jq_goto (tgt := 4) dX0_howManyAgree_69 hC (by decide) ?_
      exact jq_less (L' := [(0, .ref (aD G n 22)), (1, .int x1), (2, .int x2), (3, .int (x3 + 1))]) [1, 2, 3, 0] rfl (hK4 _ _ h)
    · have h := h.2 c17
      refine jq_aload_n (k0 := 0) dX0_howManyAgree_20 hC rfl rfl ?_
      refine jq_get (k0 := 2) (n := n) (o := 22) dX0_howManyAgree_21 hC (cl_T (by omega) (by decide)) rfl rfl hi_X0_howManyAgree_X0 (by decide) hl_X0_howManyAgree_21 rfl rfl ?_
      refine jq_get (k0 := 2) (n := n) (o := 0) dX0_howManyAgree_24 hC (cl_S (by omega) (by decide)) rfl rfl hi_X0_howManyAgree_X5 (by decide) hl_X0_howManyAgree_48 rfl rfl ?_
      refine jq_iload_n (k0 := 3) dX0_howManyAgree_27 hC rfl rfl ?_
      obtain ⟨b28, h⟩ := h
      refine jq_iald (n := n) (o := 1) (j := x3.toNatClampNeg) dX0_howManyAgree_28 hC (cl_S (by omega) (by decide)) rfl b28 rfl ?_
      refine jq_iconst (v := (-1 : Int32)) dX0_howManyAgree_29 hC (by decide) ?_
      refine jq_icmp_eq (tgt := 66) dX0_howManyAgree_30 hC (by decide) (fun c30 => ?_) (fun c30 => ?_)
      · have h := h.1 c30
        refine jq_iinc (k0 := 3) (v := (x3 + 1)) (L' := [(3, .int (x3 + 1)), (0, .ref (aD G n 22)), (1, .int x1), (2, .int x2)]) dX0_howManyAgree_66 hC rfl rfl (by decide) rfl ?_
        refine jq_goto (tgt := 4) dX0_howManyAgree_69 hC (by decide) ?_
        exact jq_less (L' := [(0, .ref (aD G n 22)), (1, .int x1), (2, .int x2), (3, .int (x3 + 1))]) [1, 2, 3, 0] rfl (hK4 _ _ h)
      · have h := h.2 c30
        refine jq_aload_n (k0 := 0) dX0_howManyAgree_33 hC rfl rfl ?_
        refine jq_get (k0 := 3) (n := n) (o := 22) dX0_howManyAgree_34 hC (cl_T (by omega) (by decide)) rfl rfl hi_X0_howManyAgree_X0 (by decide) hl_X0_howManyAgree_25 rfl rfl ?_
        refine jq_get (k0 := 2) (n := n) (o := 8) dX0_howManyAgree_37 hC (cl_T (by omega) (by decide)) rfl rfl hi_X0_howManyAgree_X7 (by decide) hl_X0_howManyAgree_54 rfl rfl ?_
        refine jq_iload_n (k0 := 3) dX0_howManyAgree_40 hC rfl rfl ?_
        obtain ⟨b41, h⟩ := h
        refine jq_iald (n := n) (o := 9) (j := x3.toNatClampNeg) dX0_howManyAgree_41 hC (cl_T (by omega) (by decide)) rfl b41 rfl ?_
        refine jq_aload_n (k0 := 0) dX0_howManyAgree_42 hC rfl rfl ?_
        refine jq_get (k0 := 3) (n := n) (o := 22) dX0_howManyAgree_43 hC (cl_T (by omega) (by decide)) rfl rfl hi_X0_howManyAgree_X0 (by decide) hl_X0_howManyAgree_25 rfl rfl ?_
        refine jq_get (k0 := 2) (n := n) (o := 8) dX0_howManyAgree_46 hC (cl_T (by omega) (by decide)) rfl rfl hi_X0_howManyAgree_X7 (by decide) hl_X0_howManyAgree_54 rfl rfl ?_
        refine jq_iload_n (k0 := 1) dX0_howManyAgree_49 hC rfl rfl ?_
        obtain ⟨b50, h⟩ := h
        refine jq_iald (n := n) (o := 9) (j := x1.toNatClampNeg) dX0_howManyAgree_50 hC (cl_T (by omega) (by decide)) rfl b50 rfl ?_
        refine jq_icmp_ne (tgt := 66) dX0_howManyAgree_51 hC (by decide) (fun c51 => ?_) (fun c51 => ?_)
        · have h := h.1 c51
          refine jq_iinc (k0 := 3) (v := (x3 + 1)) (L' := [(3, .int (x3 + 1)), (0, .ref (aD G n 22)), (1, .int x1), (2, .int x2)]) dX0_howManyAgree_66 hC rfl rfl (by decide) rfl ?_
          refine jq_goto (tgt := 4) dX0_howManyAgree_69 hC (by decide) ?_
          exact jq_less (L' := [(0, .ref (aD G n 22)), (1, .int x1), (2, .int x2), (3, .int (x3 + 1))]) [1, 2, 3, 0] rfl (hK4 _ _ h)
        · have h := h.2 c51
          refine jq_aload_n (k0 := 0) dX0_howManyAgree_54 hC rfl rfl ?_
          refine jq_iload_n (k0 := 1) dX0_howManyAgree_55 hC rfl rfl ?_
          refine jq_iload_n (k0 := 3) dX0_howManyAgree_56 hC rfl rfl ?_
          refine jq_callV (As := [.int x1, .int x3]) (rest := []) (n := n) (o := 22) (D' := D_X0_agree) dX0_howManyAgree_57 hC (cl_T (by omega) (by decide)) rfl rfl rfl (mt_X0_agree (by omega) h) gX0_howManyAgree_X0_agree rfl ⟨rfl, rfl, Nat.le_of_ble_eq_true rfl, Nat.le_of_ble_eq_true rfl⟩ nm_X0_agree rfl (Nat.le_of_ble_eq_true rfl) (kIp fun r57 h => ?_)
          refine jq_if_eq (tgt := 66) dX0_howManyAgree_60 hC (by decide) (fun c60 => ?_) (fun c60 => ?_)
          · have h := h.1 c60
            refine jq_iinc (k0 := 3) (v := (x3 + 1)) (L' := [(3, .int (x3 + 1)), (0, .ref (aD G n 22)), (1, .int x1), (2, .int x2)]) dX0_howManyAgree_66 hC rfl rfl (by decide) rfl ?_
            refine jq_goto (tgt := 4) dX0_howManyAgree_69 hC (by decide) ?_
            exact jq_less (L' := [(0, .ref (aD G n 22)), (1, .int x1), (2, .int x2), (3, .int (x3 + 1))]) [1, 2, 3, 0] rfl (hK4 _ _ h)
          · have h := h.2 c60
            refine jq_iinc (k0 := 2) (v := (x2 + 1)) (L' := [(2, .int (x2 + 1)), (0, .ref (aD G n 22)), (1, .int x1), (3, .int x3)]) dX0_howManyAgree_63 hC rfl rfl (by decide) rfl ?_
            refine jq_iinc (k0 := 3) (v := (x3 + 1)) (L' := [(3, .int (x3 + 1)), (2, .int (x2 + 1)), (0, .ref (aD G n 22)), (1, .int x1)]) dX0_howManyAgree_66 hC rfl rfl (by decide) rfl ?_
            refine jq_goto (tgt := 4) dX0_howManyAgree_69 hC (by decide) ?_
            exact jq_less (L' := [(0, .ref (aD G n 22)), (1, .int x1), (2, .int (x2 + 1)), (3, .int (x3 + 1))]) [2, 3, 1, 0] rfl (hK4 _ _ h)
theorem ok_X0_howManyAgree_L4 {G : Gt} {M : Mx} {Qf : State → Prop} {n : Nat} {x1 : Int32} {x2 : Int32} {x3 : Int32} {w : Wd} {Q : Int32 → Prop} (hC : cx G D_X0_howManyAgree M) (he : en G M (qip w Q) Qf) (hn : n < 2) (h : wp_X0_howManyAgree_L4 n x1 x2 x3 w Q) : jq G D_X0_howManyAgree M Qf 4 [(0, .ref (aD G n 22)), (1, .int x1), (2, .int x2), (3, .int x3)] [] w := by
  unfold wp_X0_howManyAgree_L4 at h
  obtain ⟨I, μ, h0, hs⟩ := h
  exact lp_ind (σ := Int32 × Int32) (P := fun s => jq G D_X0_howManyAgree M Qf 4 [(0, .ref (aD G n 22)), (1, .int x1), (2, .int s.1), (3, .int s.2)] [] w) (fun s => I s.1 s.2) (fun s => μ s.1 s.2) (fun s h1 ih => ok_X0_howManyAgree_B4 hC he hn (hs s.1 s.2 h1) (fun x2' x3' h => ih (x2', x3') h.1 h.2)) (x2, x3) h0
theorem ok_X0_howManyAgree {G : Gt} {M : Mx} {Qf : State → Prop} {n : Nat} {x1 : Int32} {w : Wd} {Q : Int32 → Prop} (hC : cx G D_X0_howManyAgree M) (he : en G M (qip w Q) Qf) (hn : n < 2) (h : wp_X0_howManyAgree n x1 w Q) : jq G D_X0_howManyAgree M Qf 0 [(0, .ref (aD G n 22)), (1, .int x1)] [] w := by
  unfold wp_X0_howManyAgree at h
  refine jq_iconst (v := (0 : Int32)) dX0_howManyAgree_0 hC (by decide) ?_
  refine jq_istore_n (L' := [(2, .int (0 : Int32)), (0, .ref (aD G n 22)), (1, .int x1)]) dX0_howManyAgree_1 hC rfl (by decide) rfl ?_
  refine jq_iconst (v := (0 : Int32)) dX0_howManyAgree_2 hC (by decide) ?_
  refine jq_istore_n (L' := [(3, .int (0 : Int32)), (2, .int (0 : Int32)), (0, .ref (aD G n 22)), (1, .int x1)]) dX0_howManyAgree_3 hC rfl (by decide) rfl ?_
  refine jq_less (L' := [(0, .ref (aD G n 22)), (1, .int x1), (2, .int (0 : Int32)), (3, .int (0 : Int32))]) [2, 3, 1, 0] rfl ?_
  exact ok_X0_howManyAgree_L4 hC he hn h
theorem mt_X0_howManyAgree {G : Gt} {n : Nat} {x1 : Int32} {w : Wd} {Q : Int32 → Prop} (hn : n < 2) (h : wp_X0_howManyAgree n x1 w Q) : Mt G D_X0_howManyAgree [.ref (aD G n 22), .int x1] w (qip w Q) := Mt_of (by decide +kernel) rfl rfl (Nat.le_of_ble_eq_true rfl) (fun M Qf hC he => ok_X0_howManyAgree hC he hn h)
/-! X0.find()V -/
theorem dX0_find_0 : decode cX0_find 0 = .ok (.iconst 0, 1) := by decide +kernel
theorem dX0_find_1 : decode cX0_find 1 = .ok (.istore_n 1, 1) := by decide +kernel
theorem dX0_find_2 : decode cX0_find 2 = .ok (.iload_n 1, 1) := by decide +kernel
theorem dX0_find_3 : decode cX0_find 3 = .ok (.aload_n 0, 1) := by decide +kernel
theorem dX0_find_4 : decode cX0_find 4 = .ok (.getfield 21, 3) := by decide +kernel
theorem dX0_find_7 : decode cX0_find 7 = .ok (.getfield 33, 3) := by decide +kernel
theorem dX0_find_10 : decode cX0_find 10 = .ok (.if_icmp .ge 35, 3) := by decide +kernel
theorem dX0_find_13 : decode cX0_find 13 = .ok (.aload_n 0, 1) := by decide +kernel
theorem dX0_find_14 : decode cX0_find 14 = .ok (.getfield 9, 3) := by decide +kernel
theorem dX0_find_17 : decode cX0_find 17 = .ok (.iload_n 1, 1) := by decide +kernel
theorem dX0_find_18 : decode cX0_find 18 = .ok (.aload_n 0, 1) := by decide +kernel
theorem dX0_find_19 : decode cX0_find 19 = .ok (.aload_n 0, 1) := by decide +kernel
theorem dX0_find_20 : decode cX0_find 20 = .ok (.getfield 25, 3) := by decide +kernel
theorem dX0_find_23 : decode cX0_find 23 = .ok (.getfield 39, 3) := by decide +kernel
theorem dX0_find_26 : decode cX0_find 26 = .ok (.iload_n 1, 1) := by decide +kernel
theorem dX0_find_27 : decode cX0_find 27 = .ok (.iaload, 1) := by decide +kernel
theorem dX0_find_28 : decode cX0_find 28 = .ok (.invokevirtual 44, 3) := by decide +kernel
theorem dX0_find_31 : decode cX0_find 31 = .ok (.iastore, 1) := by decide +kernel
theorem dX0_find_32 : decode cX0_find 32 = .ok (.aload_n 0, 1) := by decide +kernel
theorem dX0_find_33 : decode cX0_find 33 = .ok (.getfield 18, 3) := by decide +kernel
theorem dX0_find_36 : decode cX0_find 36 = .ok (.iload_n 1, 1) := by decide +kernel
theorem dX0_find_37 : decode cX0_find 37 = .ok (.iconst (-1), 1) := by decide +kernel
theorem dX0_find_38 : decode cX0_find 38 = .ok (.iastore, 1) := by decide +kernel
theorem dX0_find_39 : decode cX0_find 39 = .ok (.iinc 1 1, 3) := by decide +kernel
theorem dX0_find_42 : decode cX0_find 42 = .ok (.goto (-40), 3) := by decide +kernel
theorem dX0_find_45 : decode cX0_find 45 = .ok (.iconst 0, 1) := by decide +kernel
theorem dX0_find_46 : decode cX0_find 46 = .ok (.istore_n 1, 1) := by decide +kernel
theorem dX0_find_47 : decode cX0_find 47 = .ok (.iload_n 1, 1) := by decide +kernel
theorem dX0_find_48 : decode cX0_find 48 = .ok (.aload_n 0, 1) := by decide +kernel
theorem dX0_find_49 : decode cX0_find 49 = .ok (.getfield 21, 3) := by decide +kernel
theorem dX0_find_52 : decode cX0_find 52 = .ok (.getfield 33, 3) := by decide +kernel
theorem dX0_find_55 : decode cX0_find 55 = .ok (.if_icmp .ge 92, 3) := by decide +kernel
theorem dX0_find_58 : decode cX0_find 58 = .ok (.aload_n 0, 1) := by decide +kernel
theorem dX0_find_59 : decode cX0_find 59 = .ok (.getfield 15, 3) := by decide +kernel
theorem dX0_find_62 : decode cX0_find 62 = .ok (.iload_n 1, 1) := by decide +kernel
theorem dX0_find_63 : decode cX0_find 63 = .ok (.aload_n 0, 1) := by decide +kernel
theorem dX0_find_64 : decode cX0_find 64 = .ok (.getfield 21, 3) := by decide +kernel
theorem dX0_find_67 : decode cX0_find 67 = .ok (.getfield 48, 3) := by decide +kernel
theorem dX0_find_70 : decode cX0_find 70 = .ok (.iload_n 1, 1) := by decide +kernel
theorem dX0_find_71 : decode cX0_find 71 = .ok (.iaload, 1) := by decide +kernel
theorem dX0_find_72 : decode cX0_find 72 = .ok (.iconst (-1), 1) := by decide +kernel
theorem dX0_find_73 : decode cX0_find 73 = .ok (.if_icmp .ne 7, 3) := by decide +kernel
theorem dX0_find_76 : decode cX0_find 76 = .ok (.iconst (-1), 1) := by decide +kernel
theorem dX0_find_77 : decode cX0_find 77 = .ok (.goto 8, 3) := by decide +kernel
theorem dX0_find_80 : decode cX0_find 80 = .ok (.aload_n 0, 1) := by decide +kernel
theorem dX0_find_81 : decode cX0_find 81 = .ok (.iload_n 1, 1) := by decide +kernel
theorem dX0_find_82 : decode cX0_find 82 = .ok (.invokevirtual 51, 3) := by decide +kernel
theorem dX0_find_85 : decode cX0_find 85 = .ok (.iastore, 1) := by decide +kernel
theorem dX0_find_86 : decode cX0_find 86 = .ok (.aload_n 0, 1) := by decide +kernel
theorem dX0_find_87 : decode cX0_find 87 = .ok (.getfield 25, 3) := by decide +kernel
theorem dX0_find_90 : decode cX0_find 90 = .ok (.getfield 54, 3) := by decide +kernel
theorem dX0_find_93 : decode cX0_find 93 = .ok (.iload_n 1, 1) := by decide +kernel
theorem dX0_find_94 : decode cX0_find 94 = .ok (.iaload, 1) := by decide +kernel
theorem dX0_find_95 : decode cX0_find 95 = .ok (.istore_n 2, 1) := by decide +kernel
theorem dX0_find_96 : decode cX0_find 96 = .ok (.aload_n 0, 1) := by decide +kernel
theorem dX0_find_97 : decode cX0_find 97 = .ok (.getfield 15, 3) := by decide +kernel
theorem dX0_find_100 : decode cX0_find 100 = .ok (.iload_n 1, 1) := by decide +kernel
theorem dX0_find_101 : decode cX0_find 101 = .ok (.iaload, 1) := by decide +kernel
theorem dX0_find_102 : decode cX0_find 102 = .ok (.ifCond .lt 39, 3) := by decide +kernel
theorem dX0_find_105 : decode cX0_find 105 = .ok (.aload_n 0, 1) := by decide +kernel
theorem dX0_find_106 : decode cX0_find 106 = .ok (.getfield 18, 3) := by decide +kernel
theorem dX0_find_109 : decode cX0_find 109 = .ok (.iload_n 2, 1) := by decide +kernel
theorem dX0_find_110 : decode cX0_find 110 = .ok (.iaload, 1) := by decide +kernel
theorem dX0_find_111 : decode cX0_find 111 = .ok (.ifCond .lt 23, 3) := by decide +kernel
theorem dX0_find_114 : decode cX0_find 114 = .ok (.aload_n 0, 1) := by decide +kernel
theorem dX0_find_115 : decode cX0_find 115 = .ok (.getfield 15, 3) := by decide +kernel
theorem dX0_find_118 : decode cX0_find 118 = .ok (.iload_n 1, 1) := by decide +kernel
theorem dX0_find_119 : decode cX0_find 119 = .ok (.iaload, 1) := by decide +kernel
theorem dX0_find_120 : decode cX0_find 120 = .ok (.aload_n 0, 1) := by decide +kernel
theorem dX0_find_121 : decode cX0_find 121 = .ok (.getfield 15, 3) := by decide +kernel
theorem dX0_find_124 : decode cX0_find 124 = .ok (.aload_n 0, 1) := by decide +kernel
theorem dX0_find_125 : decode cX0_find 125 = .ok (.getfield 18, 3) := by decide +kernel
theorem dX0_find_128 : decode cX0_find 128 = .ok (.iload_n 2, 1) := by decide +kernel
theorem dX0_find_129 : decode cX0_find 129 = .ok (.iaload, 1) := by decide +kernel
theorem dX0_find_130 : decode cX0_find 130 = .ok (.iaload, 1) := by decide +kernel
theorem dX0_find_131 : decode cX0_find 131 = .ok (.if_icmp .le 10, 3) := by decide +kernel
theorem dX0_find_134 : decode cX0_find 134 = .ok (.aload_n 0, 1) := by decide +kernel
theorem dX0_find_135 : decode cX0_find 135 = .ok (.getfield 18, 3) := by decide +kernel
theorem dX0_find_138 : decode cX0_find 138 = .ok (.iload_n 2, 1) := by decide +kernel
theorem dX0_find_139 : decode cX0_find 139 = .ok (.iload_n 1, 1) := by decide +kernel
theorem dX0_find_140 : decode cX0_find 140 = .ok (.iastore, 1) := by decide +kernel
theorem dX0_find_141 : decode cX0_find 141 = .ok (.iinc 1 1, 3) := by decide +kernel
theorem dX0_find_144 : decode cX0_find 144 = .ok (.goto (-97), 3) := by decide +kernel
theorem dX0_find_147 : decode cX0_find 147 = .ok (.return_, 1) := by decide +kernel
set_option maxRecDepth 20000 in
theorem ggX0_find_X0_howManyAgree : GoodIn wsX0_find wsX0_howManyAgree := goodIn_r _ [26, 1, 2, 8, 4, 9, 27, 28, 29, 13, 30, 3, 31, 32, 33, 34, 35, 36, 37, 38, 39, 40, 41, 42, 43, 44, 45, 46, 47, 48, 49, 50, 51, 52, 53, 54, 55] (by decide +kernel) (by decide +kernel)
set_option maxRecDepth 20000 in
theorem gX0_find_X0_howManyAgree : GoodIn wsX0_find (wsV RX0 51 RX0 yX0_howManyAgree wsX0_howManyAgree) := goodIn_app (goodIn_of _ (by decide +kernel)) ggX0_find_X0_howManyAgree
set_option maxRecDepth 20000 in
theorem ggX0_find_X0_riseOf : GoodIn wsX0_find wsX0_riseOf := goodIn_r _ [14, 1, 15, 16, 17, 18, 4, 19, 20, 21, 22, 36, 37, 38, 39, 40, 41, 42, 43, 44, 45, 46, 47, 48, 49, 56, 57, 58, 59, 60, 61, 62, 63, 64, 65, 66, 67, 68, 50, 51, 52, 53, 54, 55] (by decide +kernel) (by decide +kernel)
set_option maxRecDepth 20000 in
theorem gX0_find_X0_riseOf : GoodIn wsX0_find (wsV RX0 44 RX0 yX0_riseOf wsX0_riseOf) := goodIn_app (goodIn_of _ (by decide +kernel)) ggX0_find_X0_riseOf
def D_X0_find : Md := (yX0_find, cX0_find, 3, none, wsX0_find, RX0, { frames := 3, cells := 0, slots := 0, locals := 68 })
theorem nm_X0_find : nmD D_X0_find 0 := ⟨rfl, by decide +kernel, by decide +kernel, by decide +kernel⟩
theorem hi_X0_find_X0 : ∀ w ∈ u_ws RX0 TX0 6, w ∈ wsX0_find := by decide +kernel
theorem hi_X0_find_X5 : ∀ w ∈ u_ws RX5 TX5 8, w ∈ wsX0_find := by decide +kernel
theorem hi_X0_find_X7 : ∀ w ∈ u_ws RX7 TX7 6, w ∈ wsX0_find := by decide +kernel
theorem hl_X0_find_9 : Cond.fieldLink RX0 9 "LevelLoops$Heights" "rise" "[I" ∈ wsX0_find := by decide +kernel
theorem hl_X0_find_15 : Cond.fieldLink RX0 15 "LevelLoops$Heights" "agreeing" "[I" ∈ wsX0_find := by decide +kernel
theorem hl_X0_find_18 : Cond.fieldLink RX0 18 "LevelLoops$Heights" "base" "[I" ∈ wsX0_find := by decide +kernel
theorem hl_X0_find_21 : Cond.fieldLink RX0 21 "LevelLoops$Heights" "survey" "LLevelLoops$Survey;" ∈ wsX0_find := by decide +kernel
theorem hl_X0_find_25 : Cond.fieldLink RX0 25 "LevelLoops$Heights" "tree" "LLevelLoops$Tree;" ∈ wsX0_find := by decide +kernel
theorem hl_X0_find_33 : Cond.fieldLink RX0 33 "LevelLoops$Survey" "marks" "I" ∈ wsX0_find := by decide +kernel
theorem hl_X0_find_39 : Cond.fieldLink RX0 39 "LevelLoops$Tree" "toTop" "[I" ∈ wsX0_find := by decide +kernel
theorem hl_X0_find_48 : Cond.fieldLink RX0 48 "LevelLoops$Survey" "known" "[I" ∈ wsX0_find := by decide +kernel
theorem hl_X0_find_54 : Cond.fieldLink RX0 54 "LevelLoops$Tree" "net" "[I" ∈ wsX0_find := by decide +kernel
def wp_X0_find_J134 (n : Nat) (x1 : Int32) (x2 : Int32) (w : Wd) (Q : Wd → Prop) (K47 : Int32 → Wd → Prop) : Prop :=
  vp_in x2 10 ∧ (∀ w140 : Wd, w140 = (sI w n 25 x2.toNatClampNeg x1) → K47 (x1 + 1) w140)
def wp_X0_find_J85 (n : Nat) (x1 : Int32) (s0 : Int32) (s1 : Int32) (w : Wd) (Q : Wd → Prop) (K47 : Int32 → Wd → Prop) : Prop :=
  vp_in s1 10 ∧ (∀ w85 : Wd, w85 = (sI w n 24 s1.toNatClampNeg s0) → vp_in x1 10 ∧ vp_in x1 10 ∧ (((wi w85 n 24 x1.toNatClampNeg) < 0 → K47 (x1 + 1) w85) ∧ (¬ (wi w85 n 24 x1.toNatClampNeg) < 0 → vp_in (wi w85 n 9 x1.toNatClampNeg) 10 ∧ (((wi w85 n 25 (wi w85 n 9 x1.toNatClampNeg).toNatClampNeg) < 0 → wp_X0_find_J134 n x1 (wi w85 n 9 x1.toNatClampNeg) w85 Q K47) ∧ (¬ (wi w85 n 25 (wi w85 n 9 x1.toNatClampNeg).toNatClampNeg) < 0 → vp_in x1 10 ∧ vp_in (wi w85 n 9 x1.toNatClampNeg) 10 ∧ vp_in (wi w85 n 25 (wi w85 n 9 x1.toNatClampNeg).toNatClampNeg) 10 ∧ (((wi w85 n 24 x1.toNatClampNeg) ≤ (wi w85 n 24 (wi w85 n 25 (wi w85 n 9 x1.toNatClampNeg).toNatClampNeg).toNatClampNeg) → K47 (x1 + 1) w85) ∧ (¬ (wi w85 n 24 x1.toNatClampNeg) ≤ (wi w85 n 24 (wi w85 n 25 (wi w85 n 9 x1.toNatClampNeg).toNatClampNeg).toNatClampNeg) → wp_X0_find_J134 n x1 (wi w85 n 9 x1.toNatClampNeg) w85 Q K47)))))))
def wp_X0_find_B47 (n : Nat) (x1 : Int32) (w : Wd) (Q : Wd → Prop) (K47 : Int32 → Wd → Prop) : Prop :=
  (((wi w n 0 0) ≤ x1 → Q w) ∧ (¬ (wi w n 0 0) ≤ x1 → vp_in x1 10 ∧ ((¬ (wi w n 1 x1.toNatClampNeg) = (-1 : Int32) → wp_X0_howManyAgree n x1 w (fun r82 => wp_X0_find_J85 n x1 r82 x1 w Q K47)) ∧ ((wi w n 1 x1.toNatClampNeg) = (-1 : Int32) → wp_X0_find_J85 n x1 (-1 : Int32) x1 w Q K47))))
def wp_X0_find_L47 (n : Nat) (x1 : Int32) (w : Wd) (Q : Wd → Prop) : Prop :=
  ∃ (I : Int32 → Wd → Prop) (μ : Int32 → Wd → Nat), I x1 w ∧ ∀ (x1 : Int32) (w : Wd), I x1 w → wp_X0_find_B47 n x1 w Q (fun x1' w' => I x1' w' ∧ μ x1' w' < μ x1 w)
def wp_X0_find_B2 (n : Nat) (x1 : Int32) (w : Wd) (Q : Wd → Prop) (K2 : Int32 → Wd → Prop) : Prop :=
  (((wi w n 0 0) ≤ x1 → wp_X0_find_L47 n (0 : Int32) w Q) ∧ (¬ (wi w n 0 0) ≤ x1 → vp_in x1 10 ∧ wp_X0_riseOf n (wi w n 10 x1.toNatClampNeg) w (fun r28 => vp_in x1 10 ∧ (∀ w31 : Wd, w31 = (sI w n 23 x1.toNatClampNeg r28) → vp_in x1 10 ∧ (∀ w38 : Wd, w38 = (sI w31 n 25 x1.toNatClampNeg (-1 : Int32)) → K2 (x1 + 1) w38)))))
def wp_X0_find_L2 (n : Nat) (x1 : Int32) (w : Wd) (Q : Wd → Prop) : Prop :=
  ∃ (I : Int32 → Wd → Prop) (μ : Int32 → Wd → Nat), I x1 w ∧ ∀ (x1 : Int32) (w : Wd), I x1 w → wp_X0_find_B2 n x1 w Q (fun x1' w' => I x1' w' ∧ μ x1' w' < μ x1 w)
def wp_X0_find (n : Nat) (w : Wd) (Q : Wd → Prop) : Prop :=
  wp_X0_find_L2 n (0 : Int32) w Q
theorem ok_X0_find_J134 {G : Gt} {M : Mx} {Qf : State → Prop} {n : Nat} {x1 : Int32} {x2 : Int32} {w : Wd} {Q : Wd → Prop} {K47 : Int32 → Wd → Prop} (hC : cx G D_X0_find M) (he : en G M (qv Q) Qf) (hn : n < 2) (h : wp_X0_find_J134 n x1 x2 w Q K47) (hK47 : ∀ (x1 : Int32) (w : Wd), K47 x1 w → jq G D_X0_find M Qf 47 [(0, .ref (aD G n 22)), (1, .int x1)] [] w) : jq G D_X0_find M Qf 134 [(0, .ref (aD G n 22)), (1, .int x1), (2, .int x2)] [] w := by
  unfold wp_X0_find_J134 at h
  refine jq_aload_n (k0 := 0) dX0_find_134 hC rfl rfl ?_
  refine jq_get (k0 := 5) (n := n) (o := 22) dX0_find_135 hC (cl_T (by omega) (by decide)) rfl rfl hi_X0_find_X0 (by decide) hl_X0_find_18 rfl rfl ?_
  refine jq_iload_n (k0 := 2) dX0_find_138 hC rfl rfl ?_
  refine jq_iload_n (k0 := 1) dX0_find_139 hC rfl rfl ?_
  obtain ⟨b140, h⟩ := h
  refine jq_iast (n := n) (o := 25) (j := x2.toNatClampNeg) dX0_find_140 hC (cl_T (by omega) (by decide)) (fun _ => rfl) b140 rfl ?_
  refine jq_w (fun w140 e140 => ?_)
  have h := h w140 e140
  refine jq_iinc (k0 := 1) (v := (x1 + 1)) (L' := [(1, .int (x1 + 1)), (0, .ref (aD G n 22)), (2, .int x2)]) dX0_find_141 hC rfl rfl (by decide) rfl ?_
  refine jq_goto (tgt := 47) dX0_find_144 hC (by decide) ?_
  exact jq_less (L' := [(0, .ref (aD G n 22)), (1, .int (x1 + 1))]) [1, 0] rfl (hK47 _ _ h)
theorem ok_X0_find_J85 {G : Gt} {M : Mx} {Qf : State → Prop} {n : Nat} {x1 : Int32} {s0 : Int32} {s1 : Int32} {w : Wd} {Q : Wd → Prop} {K47 : Int32 → Wd → Prop} (hC : cx G D_X0_find M) (he : en G M (qv Q) Qf) (hn : n < 2) (h : wp_X0_find_J85 n x1 s0 s1 w Q K47) (hK47 : ∀ (x1 : Int32) (w : Wd), K47 x1 w → jq G D_X0_find M Qf 47 [(0, .ref (aD G n 22)), (1, .int x1)] [] w) : jq G D_X0_find M Qf 85 [(0, .ref (aD G n 22)), (1, .int x1)] [.int s0, .int s1, .ref (aD G n 24)] w := by
  unfold wp_X0_find_J85 at h
  obtain ⟨b85, h⟩ := h
  refine jq_iast (n := n) (o := 24) (j := s1.toNatClampNeg) dX0_find_85 hC (cl_T (by omega) (by decide)) (fun _ => rfl) b85 rfl ?_
  refine jq_w (fun w85 e85 => ?_)
  have h := h w85 e85
  refine jq_aload_n (k0 := 0) dX0_find_86 hC rfl rfl ?_
  refine jq_get (k0 := 3) (n := n) (o := 22) dX0_find_87 hC (cl_T (by omega) (by decide)) rfl rfl hi_X0_find_X0 (by decide) hl_X0_find_25 rfl rfl ?_
  refine jq_get (k0 := 2) (n := n) (o := 8) dX0_find_90 hC (cl_T (by omega) (by decide)) rfl rfl hi_X0_find_X7 (by decide) hl_X0_find_54 rfl rfl ?_
  refine jq_iload_n (k0 := 1) dX0_find_93 hC rfl rfl ?_
  obtain ⟨b94, h⟩ := h
  refine jq_iald (n := n) (o := 9) (j := x1.toNatClampNeg) dX0_find_94 hC (cl_T (by omega) (by decide)) rfl b94 rfl ?_
  refine jq_istore_n (L' := [(2, .int (wi w85 n 9 x1.toNatClampNeg)), (0, .ref (aD G n 22)), (1, .int x1)]) dX0_find_95 hC rfl (by decide) rfl ?_
  refine jq_aload_n (k0 := 1) dX0_find_96 hC rfl rfl ?_
  refine jq_get (k0 := 1) (n := n) (o := 22) dX0_find_97 hC (cl_T (by omega) (by decide)) rfl rfl hi_X0_find_X0 (by decide) hl_X0_find_15 rfl rfl ?_
  refine jq_iload_n (k0 := 2) dX0_find_100 hC rfl rfl ?_
  obtain ⟨b101, h⟩ := h
  refine jq_iald (n := n) (o := 24) (j := x1.toNatClampNeg) dX0_find_101 hC (cl_T (by omega) (by decide)) rfl b101 rfl ?_
  refine jq_if_lt (tgt := 141) dX0_find_102 hC (by decide) (fun c102 => ?_) (fun c102 => ?_)
  · have h := h.1 c102
    refine jq_iinc (k0 := 2) (v := (x1 + 1)) (L' := [(1, .int (x1 + 1)), (2, .int (wi w85 n 9 x1.toNatClampNeg)), (0, .ref (aD G n 22))]) dX0_find_141 hC rfl rfl (by decide) rfl ?_
    refine jq_goto (tgt := 47) dX0_find_144 hC (by decide) ?_
    exact jq_less (L' := [(0, .ref (aD G n 22)), (1, .int (x1 + 1))]) [2, 0] rfl (hK47 _ _ h)
  · have h := h.2 c102
    refine jq_aload_n (k0 := 1) dX0_find_105 hC rfl rfl ?_
    refine jq_get (k0 := 5) (n := n) (o := 22) dX0_find_106 hC (cl_T (by omega) (by decide)) rfl rfl hi_X0_find_X0 (by decide) hl_X0_find_18 rfl rfl ?_
    refine jq_iload_n (k0 := 0) dX0_find_109 hC rfl rfl ?_
    obtain ⟨b110, h⟩ := h
    refine jq_iald (n := n) (o := 25) (j := (wi w85 n 9 x1.toNatClampNeg).toNatClampNeg) dX0_find_110 hC (cl_T (by omega) (by decide)) rfl b110 rfl ?_
    refine jq_if_lt (tgt := 134) dX0_find_111 hC (by decide) (fun c111 => ?_) (fun c111 => ?_)
    · have h := h.1 c111
      refine jq_less (L' := [(0, .ref (aD G n 22)), (1, .int x1), (2, .int (wi w85 n 9 x1.toNatClampNeg))]) [1, 2, 0] rfl ?_
      exact ok_X0_find_J134 hC he hn h hK47
    · have h := h.2 c111
      refine jq_aload_n (k0 := 1) dX0_find_114 hC rfl rfl ?_
      refine jq_get (k0 := 1) (n := n) (o := 22) dX0_find_115 hC (cl_T (by omega) (by decide)) rfl rfl hi_X0_find_X0 (by decide) hl_X0_find_15 rfl rfl ?_
      refine jq_iload_n (k0 := 2) dX0_find_118 hC rfl rfl ?_
      obtain ⟨b119, h⟩ := h
      refine jq_iald (n := n) (o := 24) (j := x1.toNatClampNeg) dX0_find_119 hC (cl_T (by omega) (by decide)) rfl b119 rfl ?_
      refine jq_aload_n (k0 := 1) dX0_find_120 hC rfl rfl ?_
      refine jq_get (k0 := 1) (n := n) (o := 22) dX0_find_121 hC (cl_T (by omega) (by decide)) rfl rfl hi_X0_find_X0 (by decide) hl_X0_find_15 rfl rfl ?_
      refine jq_aload_n (k0 := 1) dX0_find_124 hC rfl rfl ?_
      refine jq_get (k0 := 5) (n := n) (o := 22) dX0_find_125 hC (cl_T (by omega) (by decide)) rfl rfl hi_X0_find_X0 (by decide) hl_X0_find_18 rfl rfl ?_
      refine jq_iload_n (k0 := 0) dX0_find_128 hC rfl rfl ?_
      obtain ⟨b129, h⟩ := h
      refine jq_iald (n := n) (o := 25) (j := (wi w85 n 9 x1.toNatClampNeg).toNatClampNeg) dX0_find_129 hC (cl_T (by omega) (by decide)) rfl b129 rfl ?_
      obtain ⟨b130, h⟩ := h
      refine jq_iald (n := n) (o := 24) (j := (wi w85 n 25 (wi w85 n 9 x1.toNatClampNeg).toNatClampNeg).toNatClampNeg) dX0_find_130 hC (cl_T (by omega) (by decide)) rfl b130 rfl ?_
      refine jq_icmp_le (tgt := 141) dX0_find_131 hC (by decide) (fun c131 => ?_) (fun c131 => ?_)
      · have h := h.1 c131
        refine jq_iinc (k0 := 2) (v := (x1 + 1)) (L' := [(1, .int (x1 + 1)), (2, .int (wi w85 n 9 x1.toNatClampNeg)), (0, .ref (aD G n 22))]) dX0_find_141 hC rfl rfl (by decide) rfl ?_
        refine jq_goto (tgt := 47) dX0_find_144 hC (by decide) ?_
        exact jq_less (L' := [(0, .ref (aD G n 22)), (1, .int (x1 + 1))]) [2, 0] rfl (hK47 _ _ h)
      · have h := h.2 c131
        refine jq_less (L' := [(0, .ref (aD G n 22)), (1, .int x1), (2, .int (wi w85 n 9 x1.toNatClampNeg))]) [1, 2, 0] rfl ?_
        exact ok_X0_find_J134 hC he hn h hK47
theorem ok_X0_find_B47 {G : Gt} {M : Mx} {Qf : State → Prop} {n : Nat} {x1 : Int32} {w : Wd} {Q : Wd → Prop} {K47 : Int32 → Wd → Prop} (hC : cx G D_X0_find M) (he : en G M (qv Q) Qf) (hn : n < 2) (h : wp_X0_find_B47 n x1 w Q K47) (hK47 : ∀ (x1 : Int32) (w : Wd), K47 x1 w → jq G D_X0_find M Qf 47 [(0, .ref (aD G n 22)), (1, .int x1)] [] w) : jq G D_X0_find M Qf 47 [(0, .ref (aD G n 22)), (1, .int x1)] [] w := by
  unfold wp_X0_find_B47 at h
  refine jq_iload_n (k0 := 1) dX0_find_47 hC rfl rfl ?_
  refine jq_aload_n (k0 := 0) dX0_find_48 hC rfl rfl ?_
  refine jq_get (k0 := 2) (n := n) (o := 22) dX0_find_49 hC (cl_T (by omega) (by decide)) rfl rfl hi_X0_find_X0 (by decide) hl_X0_find_21 rfl rfl ?_
  refine jq_get (k0 := 0) (n := n) (o := 0) dX0_find_52 hC (cl_S (by omega) (by decide)) rfl rfl hi_X0_find_X5 (by decide) hl_X0_find_33 rfl rfl ?_
  refine jq_icmp_ge (tgt := 147) dX0_find_55 hC (by decide) (fun c55 => ?_) (fun c55 => ?_)
  · have h := h.1 c55
    exact jq_vret dX0_find_147 hC he rfl ⟨rfl, h⟩
  · have h := h.2 c55
    refine jq_aload_n (k0 := 0) dX0_find_58 hC rfl rfl ?_
    refine jq_get (k0 := 1) (n := n) (o := 22) dX0_find_59 hC (cl_T (by omega) (by decide)) rfl rfl hi_X0_find_X0 (by decide) hl_X0_find_15 rfl rfl ?_
    refine jq_iload_n (k0 := 1) dX0_find_62 hC rfl rfl ?_
    refine jq_aload_n (k0 := 0) dX0_find_63 hC rfl rfl ?_
    refine jq_get (k0 := 2) (n := n) (o := 22) dX0_find_64 hC (cl_T (by omega) (by decide)) rfl rfl hi_X0_find_X0 (by decide) hl_X0_find_21 rfl rfl ?_
    refine jq_get (k0 := 2) (n := n) (o := 0) dX0_find_67 hC (cl_S (by omega) (by decide)) rfl rfl hi_X0_find_X5 (by decide) hl_X0_find_48 rfl rfl ?_
    refine jq_iload_n (k0 := 1) dX0_find_70 hC rfl rfl ?_
    obtain ⟨b71, h⟩ := h
    refine jq_iald (n := n) (o := 1) (j := x1.toNatClampNeg) dX0_find_71 hC (cl_S (by omega) (by decide)) rfl b71 rfl ?_
    refine jq_iconst (v := (-1 : Int32)) dX0_find_72 hC (by decide) ?_
    refine jq_icmp_ne (tgt := 80) dX0_find_73 hC (by decide) (fun c73 => ?_) (fun c73 => ?_)
    · have h := h.1 c73
      refine jq_aload_n (k0 := 0) dX0_find_80 hC rfl rfl ?_
      refine jq_iload_n (k0 := 1) dX0_find_81 hC rfl rfl ?_
      refine jq_callV (As := [.int x1]) (rest := [.int x1, .ref (aD G n 24)]) (n := n) (o := 22) (D' := D_X0_howManyAgree) dX0_find_82 hC (cl_T (by omega) (by decide)) rfl rfl rfl (mt_X0_howManyAgree (by omega) h) gX0_find_X0_howManyAgree rfl ⟨rfl, rfl, Nat.le_of_ble_eq_true rfl, Nat.le_of_ble_eq_true rfl⟩ nm_X0_howManyAgree rfl (Nat.le_of_ble_eq_true rfl) (kIp fun r82 h => ?_)
      refine jq_less (L' := [(0, .ref (aD G n 22)), (1, .int x1)]) [0, 1] rfl ?_
      exact ok_X0_find_J85 hC he hn h hK47
    · have h := h.2 c73
      refine jq_iconst (v := (-1 : Int32)) dX0_find_76 hC (by decide) ?_
      refine jq_goto (tgt := 85) dX0_find_77 hC (by decide) ?_
      refine jq_less (L' := [(0, .ref (aD G n 22)), (1, .int x1)]) [0, 1] rfl ?_
      exact ok_X0_find_J85 hC he hn h hK47
theorem ok_X0_find_L47 {G : Gt} {M : Mx} {Qf : State → Prop} {n : Nat} {x1 : Int32} {w : Wd} {Q : Wd → Prop} (hC : cx G D_X0_find M) (he : en G M (qv Q) Qf) (hn : n < 2) (h : wp_X0_find_L47 n x1 w Q) : jq G D_X0_find M Qf 47 [(0, .ref (aD G n 22)), (1, .int x1)] [] w := by
  unfold wp_X0_find_L47 at h
  obtain ⟨I, μ, h0, hs⟩ := h
  exact lp_ind (σ := Int32 × Wd) (P := fun s => jq G D_X0_find M Qf 47 [(0, .ref (aD G n 22)), (1, .int s.1)] [] s.2) (fun s => I s.1 s.2) (fun s => μ s.1 s.2) (fun s h1 ih => ok_X0_find_B47 hC he hn (hs s.1 s.2 h1) (fun x1' w' h => ih (x1', w') h.1 h.2)) (x1, w) h0
theorem ok_X0_find_B2 {G : Gt} {M : Mx} {Qf : State → Prop} {n : Nat} {x1 : Int32} {w : Wd} {Q : Wd → Prop} {K2 : Int32 → Wd → Prop} (hC : cx G D_X0_find M) (he : en G M (qv Q) Qf) (hn : n < 2) (h : wp_X0_find_B2 n x1 w Q K2) (hK2 : ∀ (x1 : Int32) (w : Wd), K2 x1 w → jq G D_X0_find M Qf 2 [(0, .ref (aD G n 22)), (1, .int x1)] [] w) : jq G D_X0_find M Qf 2 [(0, .ref (aD G n 22)), (1, .int x1)] [] w := by
  unfold wp_X0_find_B2 at h
  refine jq_iload_n (k0 := 1) dX0_find_2 hC rfl rfl ?_
  refine jq_aload_n (k0 := 0) dX0_find_3 hC rfl rfl ?_
  refine jq_get (k0 := 2) (n := n) (o := 22) dX0_find_4 hC (cl_T (by omega) (by decide)) rfl rfl hi_X0_find_X0 (by decide) hl_X0_find_21 rfl rfl ?_
  refine jq_get (k0 := 0) (n := n) (o := 0) dX0_find_7 hC (cl_S (by omega) (by decide)) rfl rfl hi_X0_find_X5 (by decide) hl_X0_find_33 rfl rfl ?_
  refine jq_icmp_ge (tgt := 45) dX0_find_10 hC (by decide) (fun c10 => ?_) (fun c10 => ?_)
  · have h := h.1 c10
    refine jq_iconst (v := (0 : Int32)) dX0_find_45 hC (by decide) ?_
    refine jq_istore_n (L' := [(1, .int (0 : Int32)), (0, .ref (aD G n 22))]) dX0_find_46 hC rfl (by decide) rfl ?_
    refine jq_less (L' := [(0, .ref (aD G n 22)), (1, .int (0 : Int32))]) [1, 0] rfl ?_
    exact ok_X0_find_L47 hC he hn h
  · have h := h.2 c10
    refine jq_aload_n (k0 := 0) dX0_find_13 hC rfl rfl ?_
    refine jq_get (k0 := 0) (n := n) (o := 22) dX0_find_14 hC (cl_T (by omega) (by decide)) rfl rfl hi_X0_find_X0 (by decide) hl_X0_find_9 rfl rfl ?_
    refine jq_iload_n (k0 := 1) dX0_find_17 hC rfl rfl ?_
    refine jq_aload_n (k0 := 0) dX0_find_18 hC rfl rfl ?_
    refine jq_aload_n (k0 := 0) dX0_find_19 hC rfl rfl ?_
    refine jq_get (k0 := 3) (n := n) (o := 22) dX0_find_20 hC (cl_T (by omega) (by decide)) rfl rfl hi_X0_find_X0 (by decide) hl_X0_find_25 rfl rfl ?_
    refine jq_get (k0 := 3) (n := n) (o := 8) dX0_find_23 hC (cl_T (by omega) (by decide)) rfl rfl hi_X0_find_X7 (by decide) hl_X0_find_39 rfl rfl ?_
    refine jq_iload_n (k0 := 1) dX0_find_26 hC rfl rfl ?_
    obtain ⟨b27, h⟩ := h
    refine jq_iald (n := n) (o := 10) (j := x1.toNatClampNeg) dX0_find_27 hC (cl_T (by omega) (by decide)) rfl b27 rfl ?_
    refine jq_callV (As := [.int (wi w n 10 x1.toNatClampNeg)]) (rest := [.int x1, .ref (aD G n 23)]) (n := n) (o := 22) (D' := D_X0_riseOf) dX0_find_28 hC (cl_T (by omega) (by decide)) rfl rfl rfl (mt_X0_riseOf (by omega) h) gX0_find_X0_riseOf rfl ⟨rfl, rfl, Nat.le_of_ble_eq_true rfl, Nat.le_of_ble_eq_true rfl⟩ nm_X0_riseOf rfl (Nat.le_of_ble_eq_true rfl) (kIp fun r28 h => ?_)
    obtain ⟨b31, h⟩ := h
    refine jq_iast (n := n) (o := 23) (j := x1.toNatClampNeg) dX0_find_31 hC (cl_T (by omega) (by decide)) (fun _ => rfl) b31 rfl ?_
    refine jq_w (fun w31 e31 => ?_)
    have h := h w31 e31
    refine jq_aload_n (k0 := 0) dX0_find_32 hC rfl rfl ?_
    refine jq_get (k0 := 5) (n := n) (o := 22) dX0_find_33 hC (cl_T (by omega) (by decide)) rfl rfl hi_X0_find_X0 (by decide) hl_X0_find_18 rfl rfl ?_
    refine jq_iload_n (k0 := 1) dX0_find_36 hC rfl rfl ?_
    refine jq_iconst (v := (-1 : Int32)) dX0_find_37 hC (by decide) ?_
    obtain ⟨b38, h⟩ := h
    refine jq_iast (n := n) (o := 25) (j := x1.toNatClampNeg) dX0_find_38 hC (cl_T (by omega) (by decide)) (fun _ => rfl) b38 rfl ?_
    refine jq_w (fun w38 e38 => ?_)
    have h := h w38 e38
    refine jq_iinc (k0 := 1) (v := (x1 + 1)) (L' := [(1, .int (x1 + 1)), (0, .ref (aD G n 22))]) dX0_find_39 hC rfl rfl (by decide) rfl ?_
    refine jq_goto (tgt := 2) dX0_find_42 hC (by decide) ?_
    exact jq_less (L' := [(0, .ref (aD G n 22)), (1, .int (x1 + 1))]) [1, 0] rfl (hK2 _ _ h)
theorem ok_X0_find_L2 {G : Gt} {M : Mx} {Qf : State → Prop} {n : Nat} {x1 : Int32} {w : Wd} {Q : Wd → Prop} (hC : cx G D_X0_find M) (he : en G M (qv Q) Qf) (hn : n < 2) (h : wp_X0_find_L2 n x1 w Q) : jq G D_X0_find M Qf 2 [(0, .ref (aD G n 22)), (1, .int x1)] [] w := by
  unfold wp_X0_find_L2 at h
  obtain ⟨I, μ, h0, hs⟩ := h
  exact lp_ind (σ := Int32 × Wd) (P := fun s => jq G D_X0_find M Qf 2 [(0, .ref (aD G n 22)), (1, .int s.1)] [] s.2) (fun s => I s.1 s.2) (fun s => μ s.1 s.2) (fun s h1 ih => ok_X0_find_B2 hC he hn (hs s.1 s.2 h1) (fun x1' w' h => ih (x1', w') h.1 h.2)) (x1, w) h0
theorem ok_X0_find {G : Gt} {M : Mx} {Qf : State → Prop} {n : Nat} {w : Wd} {Q : Wd → Prop} (hC : cx G D_X0_find M) (he : en G M (qv Q) Qf) (hn : n < 2) (h : wp_X0_find n w Q) : jq G D_X0_find M Qf 0 [(0, .ref (aD G n 22))] [] w := by
  unfold wp_X0_find at h
  refine jq_iconst (v := (0 : Int32)) dX0_find_0 hC (by decide) ?_
  refine jq_istore_n (L' := [(1, .int (0 : Int32)), (0, .ref (aD G n 22))]) dX0_find_1 hC rfl (by decide) rfl ?_
  refine jq_less (L' := [(0, .ref (aD G n 22)), (1, .int (0 : Int32))]) [1, 0] rfl ?_
  exact ok_X0_find_L2 hC he hn h
theorem mt_X0_find {G : Gt} {n : Nat} {w : Wd} {Q : Wd → Prop} (hn : n < 2) (h : wp_X0_find n w Q) : Mt G D_X0_find [.ref (aD G n 22)] w (qv Q) := Mt_of (by decide +kernel) rfl rfl (Nat.le_of_ble_eq_true rfl) (fun M Qf hC he => ok_X0_find hC he hn h)
/-! X0.baseOf(I)I -/
theorem dX0_baseOf_0 : decode cX0_baseOf 0 = .ok (.aload_n 0, 1) := by decide +kernel
theorem dX0_baseOf_1 : decode cX0_baseOf 1 = .ok (.getfield 18, 3) := by decide +kernel
theorem dX0_baseOf_4 : decode cX0_baseOf 4 = .ok (.aload_n 0, 1) := by decide +kernel
theorem dX0_baseOf_5 : decode cX0_baseOf 5 = .ok (.getfield 25, 3) := by decide +kernel
theorem dX0_baseOf_8 : decode cX0_baseOf 8 = .ok (.getfield 54, 3) := by decide +kernel
theorem dX0_baseOf_11 : decode cX0_baseOf 11 = .ok (.iload_n 1, 1) := by decide +kernel
theorem dX0_baseOf_12 : decode cX0_baseOf 12 = .ok (.iaload, 1) := by decide +kernel
theorem dX0_baseOf_13 : decode cX0_baseOf 13 = .ok (.iaload, 1) := by decide +kernel
theorem dX0_baseOf_14 : decode cX0_baseOf 14 = .ok (.ireturn, 1) := by decide +kernel
def D_X0_baseOf : Md := (yX0_baseOf, cX0_baseOf, 2, (some .int), wsX0_baseOf, RX0, { frames := 0, cells := 0, slots := 0, locals := 0 })
theorem nm_X0_baseOf : nmD D_X0_baseOf 1 := ⟨rfl, by decide +kernel, by decide +kernel, by decide +kernel⟩
theorem hi_X0_baseOf_X0 : ∀ w ∈ u_ws RX0 TX0 6, w ∈ wsX0_baseOf := by decide +kernel
theorem hi_X0_baseOf_X7 : ∀ w ∈ u_ws RX7 TX7 6, w ∈ wsX0_baseOf := by decide +kernel
theorem hl_X0_baseOf_18 : Cond.fieldLink RX0 18 "LevelLoops$Heights" "base" "[I" ∈ wsX0_baseOf := by decide +kernel
theorem hl_X0_baseOf_25 : Cond.fieldLink RX0 25 "LevelLoops$Heights" "tree" "LLevelLoops$Tree;" ∈ wsX0_baseOf := by decide +kernel
theorem hl_X0_baseOf_54 : Cond.fieldLink RX0 54 "LevelLoops$Tree" "net" "[I" ∈ wsX0_baseOf := by decide +kernel
def wp_X0_baseOf (n : Nat) (x1 : Int32) (w : Wd) (Q : Int32 → Prop) : Prop :=
  vp_in x1 10 ∧ vp_in (wi w n 9 x1.toNatClampNeg) 10 ∧ Q (wi w n 25 (wi w n 9 x1.toNatClampNeg).toNatClampNeg)
theorem ok_X0_baseOf {G : Gt} {M : Mx} {Qf : State → Prop} {n : Nat} {x1 : Int32} {w : Wd} {Q : Int32 → Prop} (hC : cx G D_X0_baseOf M) (he : en G M (qip w Q) Qf) (hn : n < 2) (h : wp_X0_baseOf n x1 w Q) : jq G D_X0_baseOf M Qf 0 [(0, .ref (aD G n 22)), (1, .int x1)] [] w := by
  unfold wp_X0_baseOf at h
  refine jq_aload_n (k0 := 0) dX0_baseOf_0 hC rfl rfl ?_
  refine jq_get (k0 := 5) (n := n) (o := 22) dX0_baseOf_1 hC (cl_T (by omega) (by decide)) rfl rfl hi_X0_baseOf_X0 (by decide) hl_X0_baseOf_18 rfl rfl ?_
  refine jq_aload_n (k0 := 0) dX0_baseOf_4 hC rfl rfl ?_
  refine jq_get (k0 := 3) (n := n) (o := 22) dX0_baseOf_5 hC (cl_T (by omega) (by decide)) rfl rfl hi_X0_baseOf_X0 (by decide) hl_X0_baseOf_25 rfl rfl ?_
  refine jq_get (k0 := 2) (n := n) (o := 8) dX0_baseOf_8 hC (cl_T (by omega) (by decide)) rfl rfl hi_X0_baseOf_X7 (by decide) hl_X0_baseOf_54 rfl rfl ?_
  refine jq_iload_n (k0 := 1) dX0_baseOf_11 hC rfl rfl ?_
  obtain ⟨b12, h⟩ := h
  refine jq_iald (n := n) (o := 9) (j := x1.toNatClampNeg) dX0_baseOf_12 hC (cl_T (by omega) (by decide)) rfl b12 rfl ?_
  obtain ⟨b13, h⟩ := h
  refine jq_iald (n := n) (o := 25) (j := (wi w n 9 x1.toNatClampNeg).toNatClampNeg) dX0_baseOf_13 hC (cl_T (by omega) (by decide)) rfl b13 rfl ?_
  exact jq_iret dX0_baseOf_14 hC he rfl ⟨_, rfl, rfl, h⟩
theorem mt_X0_baseOf {G : Gt} {n : Nat} {x1 : Int32} {w : Wd} {Q : Int32 → Prop} (hn : n < 2) (h : wp_X0_baseOf n x1 w Q) : Mt G D_X0_baseOf [.ref (aD G n 22), .int x1] w (qip w Q) := Mt_of (by decide +kernel) rfl rfl (Nat.le_of_ble_eq_true rfl) (fun M Qf hC he => ok_X0_baseOf hC he hn h)
/-! X0.isThere(I)Z -/
theorem dX0_isThere_0 : decode cX0_isThere 0 = .ok (.aload_n 0, 1) := by decide +kernel
theorem dX0_isThere_1 : decode cX0_isThere 1 = .ok (.iload_n 1, 1) := by decide +kernel
theorem dX0_isThere_2 : decode cX0_isThere 2 = .ok (.invokevirtual 86, 3) := by decide +kernel
theorem dX0_isThere_5 : decode cX0_isThere 5 = .ok (.ifCond .lt 7, 3) := by decide +kernel
theorem dX0_isThere_8 : decode cX0_isThere 8 = .ok (.iconst 1, 1) := by decide +kernel
theorem dX0_isThere_9 : decode cX0_isThere 9 = .ok (.goto 4, 3) := by decide +kernel
theorem dX0_isThere_12 : decode cX0_isThere 12 = .ok (.iconst 0, 1) := by decide +kernel
theorem dX0_isThere_13 : decode cX0_isThere 13 = .ok (.ireturn, 1) := by decide +kernel
set_option maxRecDepth 20000 in
theorem ggX0_isThere_X0_baseOf : GoodIn wsX0_isThere wsX0_baseOf := goodIn_r _ [5, 6, 7, 8, 9, 10, 11, 12, 13, 14, 15, 16, 17, 18, 19, 20] (by decide +kernel) (by decide +kernel)
set_option maxRecDepth 20000 in
theorem gX0_isThere_X0_baseOf : GoodIn wsX0_isThere (wsV RX0 86 RX0 yX0_baseOf wsX0_baseOf) := goodIn_app (goodIn_of _ (by decide +kernel)) ggX0_isThere_X0_baseOf
def D_X0_isThere : Md := (yX0_isThere, cX0_isThere, 2, (some .boolean), wsX0_isThere, RX0, { frames := 1, cells := 0, slots := 0, locals := 21 })
theorem nm_X0_isThere : nmD D_X0_isThere 1 := ⟨rfl, by decide +kernel, by decide +kernel, by decide +kernel⟩
def wp_X0_isThere (n : Nat) (x1 : Int32) (w : Wd) (Q : Int32 → Prop) : Prop :=
  wp_X0_baseOf n x1 w (fun r2 => ((r2 < 0 → zb (0 : Int32) ∧ Q (0 : Int32)) ∧ (¬ r2 < 0 → zb (1 : Int32) ∧ Q (1 : Int32))))
theorem ok_X0_isThere {G : Gt} {M : Mx} {Qf : State → Prop} {n : Nat} {x1 : Int32} {w : Wd} {Q : Int32 → Prop} (hC : cx G D_X0_isThere M) (he : en G M (qip w Q) Qf) (hn : n < 2) (h : wp_X0_isThere n x1 w Q) : jq G D_X0_isThere M Qf 0 [(0, .ref (aD G n 22)), (1, .int x1)] [] w := by
  unfold wp_X0_isThere at h
  refine jq_aload_n (k0 := 0) dX0_isThere_0 hC rfl rfl ?_
  refine jq_iload_n (k0 := 1) dX0_isThere_1 hC rfl rfl ?_
  refine jq_callV (As := [.int x1]) (rest := []) (n := n) (o := 22) (D' := D_X0_baseOf) dX0_isThere_2 hC (cl_T (by omega) (by decide)) rfl rfl rfl (mt_X0_baseOf (by omega) h) gX0_isThere_X0_baseOf rfl ⟨rfl, rfl, Nat.le_of_ble_eq_true rfl, Nat.le_of_ble_eq_true rfl⟩ nm_X0_baseOf rfl (Nat.le_of_ble_eq_true rfl) (kIp fun r2 h => ?_)
  refine jq_if_lt (tgt := 12) dX0_isThere_5 hC (by decide) (fun c5 => ?_) (fun c5 => ?_)
  · have h := h.1 c5
    refine jq_iconst (v := (0 : Int32)) dX0_isThere_12 hC (by decide) ?_
    obtain ⟨bz, h⟩ := h
    exact jq_zret dX0_isThere_13 hC he rfl bz ⟨_, rfl, rfl, h⟩
  · have h := h.2 c5
    refine jq_iconst (v := (1 : Int32)) dX0_isThere_8 hC (by decide) ?_
    refine jq_goto (tgt := 13) dX0_isThere_9 hC (by decide) ?_
    obtain ⟨bz, h⟩ := h
    exact jq_zret dX0_isThere_13 hC he rfl bz ⟨_, rfl, rfl, h⟩
theorem mt_X0_isThere {G : Gt} {n : Nat} {x1 : Int32} {w : Wd} {Q : Int32 → Prop} (hn : n < 2) (h : wp_X0_isThere n x1 w Q) : Mt G D_X0_isThere [.ref (aD G n 22), .int x1] w (qip w Q) := Mt_of (by decide +kernel) rfl rfl (Nat.le_of_ble_eq_true rfl) (fun M Qf hC he => ok_X0_isThere hC he hn h)
/-! X0.of(I)I -/
theorem dX0_of_0 : decode cX0_of 0 = .ok (.aload_n 0, 1) := by decide +kernel
theorem dX0_of_1 : decode cX0_of 1 = .ok (.iload_n 1, 1) := by decide +kernel
theorem dX0_of_2 : decode cX0_of 2 = .ok (.invokevirtual 86, 3) := by decide +kernel
theorem dX0_of_5 : decode cX0_of 5 = .ok (.istore_n 2, 1) := by decide +kernel
theorem dX0_of_6 : decode cX0_of 6 = .ok (.iload_n 2, 1) := by decide +kernel
theorem dX0_of_7 : decode cX0_of 7 = .ok (.ifCond .ge 8, 3) := by decide +kernel
theorem dX0_of_10 : decode cX0_of 10 = .ok (.ldc 89, 2) := by decide +kernel
theorem dX0_of_12 : decode cX0_of 12 = .ok (.goto 26, 3) := by decide +kernel
theorem dX0_of_15 : decode cX0_of 15 = .ok (.aload_n 0, 1) := by decide +kernel
theorem dX0_of_16 : decode cX0_of 16 = .ok (.getfield 21, 3) := by decide +kernel
theorem dX0_of_19 : decode cX0_of 19 = .ok (.getfield 48, 3) := by decide +kernel
theorem dX0_of_22 : decode cX0_of 22 = .ok (.iload_n 2, 1) := by decide +kernel
theorem dX0_of_23 : decode cX0_of 23 = .ok (.iaload, 1) := by decide +kernel
theorem dX0_of_24 : decode cX0_of 24 = .ok (.aload_n 0, 1) := by decide +kernel
theorem dX0_of_25 : decode cX0_of 25 = .ok (.getfield 9, 3) := by decide +kernel
theorem dX0_of_28 : decode cX0_of 28 = .ok (.iload_n 1, 1) := by decide +kernel
theorem dX0_of_29 : decode cX0_of 29 = .ok (.iaload, 1) := by decide +kernel
theorem dX0_of_30 : decode cX0_of 30 = .ok (.iadd, 1) := by decide +kernel
theorem dX0_of_31 : decode cX0_of 31 = .ok (.aload_n 0, 1) := by decide +kernel
theorem dX0_of_32 : decode cX0_of 32 = .ok (.getfield 9, 3) := by decide +kernel
theorem dX0_of_35 : decode cX0_of 35 = .ok (.iload_n 2, 1) := by decide +kernel
theorem dX0_of_36 : decode cX0_of 36 = .ok (.iaload, 1) := by decide +kernel
theorem dX0_of_37 : decode cX0_of 37 = .ok (.isub, 1) := by decide +kernel
theorem dX0_of_38 : decode cX0_of 38 = .ok (.ireturn, 1) := by decide +kernel
set_option maxRecDepth 20000 in
theorem ggX0_of_X0_baseOf : GoodIn wsX0_of wsX0_baseOf := goodIn_r _ [9, 10, 11, 12, 13, 14, 15, 16, 17, 18, 27, 28, 29, 30, 31, 32] (by decide +kernel) (by decide +kernel)
set_option maxRecDepth 20000 in
theorem gX0_of_X0_baseOf : GoodIn wsX0_of (wsV RX0 86 RX0 yX0_baseOf wsX0_baseOf) := goodIn_app (goodIn_of _ (by decide +kernel)) ggX0_of_X0_baseOf
def D_X0_of : Md := (yX0_of, cX0_of, 3, (some .int), wsX0_of, RX0, { frames := 1, cells := 0, slots := 0, locals := 21 })
theorem nm_X0_of : nmD D_X0_of 1 := ⟨rfl, by decide +kernel, by decide +kernel, by decide +kernel⟩
theorem hi_X0_of_X0 : ∀ w ∈ u_ws RX0 TX0 6, w ∈ wsX0_of := by decide +kernel
theorem hi_X0_of_X5 : ∀ w ∈ u_ws RX5 TX5 8, w ∈ wsX0_of := by decide +kernel
theorem hl_X0_of_9 : Cond.fieldLink RX0 9 "LevelLoops$Heights" "rise" "[I" ∈ wsX0_of := by decide +kernel
theorem hl_X0_of_21 : Cond.fieldLink RX0 21 "LevelLoops$Heights" "survey" "LLevelLoops$Survey;" ∈ wsX0_of := by decide +kernel
theorem hl_X0_of_48 : Cond.fieldLink RX0 48 "LevelLoops$Survey" "known" "[I" ∈ wsX0_of := by decide +kernel
def wp_X0_of (n : Nat) (x1 : Int32) (w : Wd) (Q : Int32 → Prop) : Prop :=
  wp_X0_baseOf n x1 w (fun r2 => ((0 ≤ r2 → vp_in r2 10 ∧ vp_in x1 10 ∧ vp_in r2 10 ∧ Q (((wi w n 1 r2.toNatClampNeg) + (wi w n 23 x1.toNatClampNeg)) - (wi w n 23 r2.toNatClampNeg))) ∧ (¬ 0 ≤ r2 → Q (-1000000 : Int32))))
theorem ok_X0_of {G : Gt} {M : Mx} {Qf : State → Prop} {n : Nat} {x1 : Int32} {w : Wd} {Q : Int32 → Prop} (hC : cx G D_X0_of M) (he : en G M (qip w Q) Qf) (hn : n < 2) (h : wp_X0_of n x1 w Q) : jq G D_X0_of M Qf 0 [(0, .ref (aD G n 22)), (1, .int x1)] [] w := by
  unfold wp_X0_of at h
  refine jq_aload_n (k0 := 0) dX0_of_0 hC rfl rfl ?_
  refine jq_iload_n (k0 := 1) dX0_of_1 hC rfl rfl ?_
  refine jq_callV (As := [.int x1]) (rest := []) (n := n) (o := 22) (D' := D_X0_baseOf) dX0_of_2 hC (cl_T (by omega) (by decide)) rfl rfl rfl (mt_X0_baseOf (by omega) h) gX0_of_X0_baseOf rfl ⟨rfl, rfl, Nat.le_of_ble_eq_true rfl, Nat.le_of_ble_eq_true rfl⟩ nm_X0_baseOf rfl (Nat.le_of_ble_eq_true rfl) (kIp fun r2 h => ?_)
  refine jq_istore_n (L' := [(2, .int r2), (0, .ref (aD G n 22)), (1, .int x1)]) dX0_of_5 hC rfl (by decide) rfl ?_
  refine jq_iload_n (k0 := 0) dX0_of_6 hC rfl rfl ?_
  refine jq_if_ge (tgt := 15) dX0_of_7 hC (by decide) (fun c7 => ?_) (fun c7 => ?_)
  · have h := h.1 c7
    refine jq_aload_n (k0 := 1) dX0_of_15 hC rfl rfl ?_
    refine jq_get (k0 := 2) (n := n) (o := 22) dX0_of_16 hC (cl_T (by omega) (by decide)) rfl rfl hi_X0_of_X0 (by decide) hl_X0_of_21 rfl rfl ?_
    refine jq_get (k0 := 2) (n := n) (o := 0) dX0_of_19 hC (cl_S (by omega) (by decide)) rfl rfl hi_X0_of_X5 (by decide) hl_X0_of_48 rfl rfl ?_
    refine jq_iload_n (k0 := 0) dX0_of_22 hC rfl rfl ?_
    obtain ⟨b23, h⟩ := h
    refine jq_iald (n := n) (o := 1) (j := r2.toNatClampNeg) dX0_of_23 hC (cl_S (by omega) (by decide)) rfl b23 rfl ?_
    refine jq_aload_n (k0 := 1) dX0_of_24 hC rfl rfl ?_
    refine jq_get (k0 := 0) (n := n) (o := 22) dX0_of_25 hC (cl_T (by omega) (by decide)) rfl rfl hi_X0_of_X0 (by decide) hl_X0_of_9 rfl rfl ?_
    refine jq_iload_n (k0 := 2) dX0_of_28 hC rfl rfl ?_
    obtain ⟨b29, h⟩ := h
    refine jq_iald (n := n) (o := 23) (j := x1.toNatClampNeg) dX0_of_29 hC (cl_T (by omega) (by decide)) rfl b29 rfl ?_
    refine jq_iadd dX0_of_30 hC ?_
    refine jq_aload_n (k0 := 1) dX0_of_31 hC rfl rfl ?_
    refine jq_get (k0 := 0) (n := n) (o := 22) dX0_of_32 hC (cl_T (by omega) (by decide)) rfl rfl hi_X0_of_X0 (by decide) hl_X0_of_9 rfl rfl ?_
    refine jq_iload_n (k0 := 0) dX0_of_35 hC rfl rfl ?_
    obtain ⟨b36, h⟩ := h
    refine jq_iald (n := n) (o := 23) (j := r2.toNatClampNeg) dX0_of_36 hC (cl_T (by omega) (by decide)) rfl b36 rfl ?_
    refine jq_isub dX0_of_37 hC ?_
    exact jq_iret dX0_of_38 hC he rfl ⟨_, rfl, rfl, h⟩
  · have h := h.2 c7
    refine jq_ldc (v := (-1000000 : Int32)) dX0_of_10 hC (by decide +kernel) ?_
    refine jq_goto (tgt := 38) dX0_of_12 hC (by decide) ?_
    exact jq_iret dX0_of_38 hC he rfl ⟨_, rfl, rfl, h⟩
theorem mt_X0_of {G : Gt} {n : Nat} {x1 : Int32} {w : Wd} {Q : Int32 → Prop} (hn : n < 2) (h : wp_X0_of n x1 w Q) : Mt G D_X0_of [.ref (aD G n 22), .int x1] w (qip w Q) := Mt_of (by decide +kernel) rfl rfl (Nat.le_of_ble_eq_true rfl) (fun M Qf hC he => ok_X0_of hC he hn h)
/-! X0.movement(I)I -/
theorem dX0_movement_0 : decode cX0_movement 0 = .ok (.aload_n 0, 1) := by decide +kernel
theorem dX0_movement_1 : decode cX0_movement 1 = .ok (.getfield 21, 3) := by decide +kernel
theorem dX0_movement_4 : decode cX0_movement 4 = .ok (.getfield 48, 3) := by decide +kernel
theorem dX0_movement_7 : decode cX0_movement 7 = .ok (.iload_n 1, 1) := by decide +kernel
theorem dX0_movement_8 : decode cX0_movement 8 = .ok (.iaload, 1) := by decide +kernel
theorem dX0_movement_9 : decode cX0_movement 9 = .ok (.iconst (-1), 1) := by decide +kernel
theorem dX0_movement_10 : decode cX0_movement 10 = .ok (.if_icmp .eq 11, 3) := by decide +kernel
theorem dX0_movement_13 : decode cX0_movement 13 = .ok (.aload_n 0, 1) := by decide +kernel
theorem dX0_movement_14 : decode cX0_movement 14 = .ok (.iload_n 1, 1) := by decide +kernel
theorem dX0_movement_15 : decode cX0_movement 15 = .ok (.invokevirtual 90, 3) := by decide +kernel
theorem dX0_movement_18 : decode cX0_movement 18 = .ok (.ifCond .ne 5, 3) := by decide +kernel
theorem dX0_movement_21 : decode cX0_movement 21 = .ok (.iconst 0, 1) := by decide +kernel
theorem dX0_movement_22 : decode cX0_movement 22 = .ok (.ireturn, 1) := by decide +kernel
theorem dX0_movement_23 : decode cX0_movement 23 = .ok (.aload_n 0, 1) := by decide +kernel
theorem dX0_movement_24 : decode cX0_movement 24 = .ok (.iload_n 1, 1) := by decide +kernel
theorem dX0_movement_25 : decode cX0_movement 25 = .ok (.invokevirtual 94, 3) := by decide +kernel
theorem dX0_movement_28 : decode cX0_movement 28 = .ok (.aload_n 0, 1) := by decide +kernel
theorem dX0_movement_29 : decode cX0_movement 29 = .ok (.getfield 21, 3) := by decide +kernel
theorem dX0_movement_32 : decode cX0_movement 32 = .ok (.getfield 48, 3) := by decide +kernel
theorem dX0_movement_35 : decode cX0_movement 35 = .ok (.iload_n 1, 1) := by decide +kernel
theorem dX0_movement_36 : decode cX0_movement 36 = .ok (.iaload, 1) := by decide +kernel
theorem dX0_movement_37 : decode cX0_movement 37 = .ok (.isub, 1) := by decide +kernel
theorem dX0_movement_38 : decode cX0_movement 38 = .ok (.istore_n 2, 1) := by decide +kernel
theorem dX0_movement_39 : decode cX0_movement 39 = .ok (.iload_n 2, 1) := by decide +kernel
theorem dX0_movement_40 : decode cX0_movement 40 = .ok (.invokestatic 78, 3) := by decide +kernel
theorem dX0_movement_43 : decode cX0_movement 43 = .ok (.aload_n 0, 1) := by decide +kernel
theorem dX0_movement_44 : decode cX0_movement 44 = .ok (.getfield 21, 3) := by decide +kernel
theorem dX0_movement_47 : decode cX0_movement 47 = .ok (.getfield 83, 3) := by decide +kernel
theorem dX0_movement_50 : decode cX0_movement 50 = .ok (.iconst 2, 1) := by decide +kernel
theorem dX0_movement_51 : decode cX0_movement 51 = .ok (.iaload, 1) := by decide +kernel
theorem dX0_movement_52 : decode cX0_movement 52 = .ok (.if_icmp .gt 5, 3) := by decide +kernel
theorem dX0_movement_55 : decode cX0_movement 55 = .ok (.iconst 0, 1) := by decide +kernel
theorem dX0_movement_56 : decode cX0_movement 56 = .ok (.ireturn, 1) := by decide +kernel
theorem dX0_movement_57 : decode cX0_movement 57 = .ok (.iload_n 2, 1) := by decide +kernel
theorem dX0_movement_58 : decode cX0_movement 58 = .ok (.ifCond .ge 7, 3) := by decide +kernel
theorem dX0_movement_61 : decode cX0_movement 61 = .ok (.iconst 1, 1) := by decide +kernel
theorem dX0_movement_62 : decode cX0_movement 62 = .ok (.goto 4, 3) := by decide +kernel
theorem dX0_movement_65 : decode cX0_movement 65 = .ok (.iconst 2, 1) := by decide +kernel
theorem dX0_movement_66 : decode cX0_movement 66 = .ok (.ireturn, 1) := by decide +kernel
set_option maxRecDepth 20000 in
theorem ggX0_movement_X0_of : GoodIn wsX0_movement wsX0_of := goodIn_r _ [23, 24, 1, 2, 25, 13, 14, 15, 11, 16, 17, 18, 19, 26, 27, 28, 29, 30, 31, 32, 33, 34, 35, 36, 37, 38, 39, 40, 41, 42, 43, 44, 45] (by decide +kernel) (by decide +kernel)
set_option maxRecDepth 20000 in
theorem gX0_movement_X0_of : GoodIn wsX0_movement (wsV RX0 94 RX0 yX0_of wsX0_of) := goodIn_app (goodIn_of _ (by decide +kernel)) ggX0_movement_X0_of
set_option maxRecDepth 20000 in
theorem ggX0_movement_X0_isThere : GoodIn wsX0_movement wsX0_isThere := goodIn_r _ [12, 13, 14, 15, 11, 16, 17, 18, 19, 26, 27, 28, 29, 30, 31, 40, 41, 42, 43, 44, 45] (by decide +kernel) (by decide +kernel)
set_option maxRecDepth 20000 in
theorem gX0_movement_X0_isThere : GoodIn wsX0_movement (wsV RX0 90 RX0 yX0_isThere wsX0_isThere) := goodIn_app (goodIn_of _ (by decide +kernel)) ggX0_movement_X0_isThere
def D_X0_movement : Md := (yX0_movement, cX0_movement, 3, (some .int), wsX0_movement, RX0, { frames := 2, cells := 0, slots := 0, locals := 43 })
theorem nm_X0_movement : nmD D_X0_movement 1 := ⟨rfl, by decide +kernel, by decide +kernel, by decide +kernel⟩
theorem hi_X0_movement_X0 : ∀ w ∈ u_ws RX0 TX0 6, w ∈ wsX0_movement := by decide +kernel
theorem hi_X0_movement_X5 : ∀ w ∈ u_ws RX5 TX5 8, w ∈ wsX0_movement := by decide +kernel
theorem hl_X0_movement_21 : Cond.fieldLink RX0 21 "LevelLoops$Heights" "survey" "LLevelLoops$Survey;" ∈ wsX0_movement := by decide +kernel
theorem hl_X0_movement_48 : Cond.fieldLink RX0 48 "LevelLoops$Survey" "known" "[I" ∈ wsX0_movement := by decide +kernel
theorem hl_X0_movement_83 : Cond.fieldLink RX0 83 "LevelLoops$Survey" "settings" "[I" ∈ wsX0_movement := by decide +kernel
def wp_X0_movement (n : Nat) (x1 : Int32) (w : Wd) (Q : Int32 → Prop) : Prop :=
  vp_in x1 10 ∧ (((wi w n 1 x1.toNatClampNeg) = (-1 : Int32) → Q (0 : Int32)) ∧ (¬ (wi w n 1 x1.toNatClampNeg) = (-1 : Int32) → wp_X0_isThere n x1 w (fun r15 => ((¬ r15 = 0 → wp_X0_of n x1 w (fun r25 => vp_in x1 10 ∧ (((wi w n 6 2) < (iabs (r25 - (wi w n 1 x1.toNatClampNeg))) → ((0 ≤ (r25 - (wi w n 1 x1.toNatClampNeg)) → Q (2 : Int32)) ∧ (¬ 0 ≤ (r25 - (wi w n 1 x1.toNatClampNeg)) → Q (1 : Int32)))) ∧ (¬ (wi w n 6 2) < (iabs (r25 - (wi w n 1 x1.toNatClampNeg))) → Q (0 : Int32))))) ∧ (r15 = 0 → Q (0 : Int32))))))
theorem ok_X0_movement {G : Gt} {M : Mx} {Qf : State → Prop} {n : Nat} {x1 : Int32} {w : Wd} {Q : Int32 → Prop} (hC : cx G D_X0_movement M) (he : en G M (qip w Q) Qf) (hn : n < 2) (h : wp_X0_movement n x1 w Q) : jq G D_X0_movement M Qf 0 [(0, .ref (aD G n 22)), (1, .int x1)] [] w := by
  unfold wp_X0_movement at h
  refine jq_aload_n (k0 := 0) dX0_movement_0 hC rfl rfl ?_
  refine jq_get (k0 := 2) (n := n) (o := 22) dX0_movement_1 hC (cl_T (by omega) (by decide)) rfl rfl hi_X0_movement_X0 (by decide) hl_X0_movement_21 rfl rfl ?_
  refine jq_get (k0 := 2) (n := n) (o := 0) dX0_movement_4 hC (cl_S (by omega) (by decide)) rfl rfl hi_X0_movement_X5 (by decide) hl_X0_movement_48 rfl rfl ?_
  refine jq_iload_n (k0 := 1) dX0_movement_7 hC rfl rfl ?_
  obtain ⟨b8, h⟩ := h
  refine jq_iald (n := n) (o := 1) (j := x1.toNatClampNeg) dX0_movement_8 hC (cl_S (by omega) (by decide)) rfl b8 rfl ?_
  refine jq_iconst (v := (-1 : Int32)) dX0_movement_9 hC (by decide) ?_
  refine jq_icmp_eq (tgt := 21) dX0_movement_10 hC (by decide) (fun c10 => ?_) (fun c10 => ?_)
  · have h := h.1 c10
    refine jq_iconst (v := (0 : Int32)) dX0_movement_21 hC (by decide) ?_
    exact jq_iret dX0_movement_22 hC he rfl ⟨_, rfl, rfl, h⟩
  · have h := h.2 c10
    refine jq_aload_n (k0 := 0) dX0_movement_13 hC rfl rfl ?_
    refine jq_iload_n (k0 := 1) dX0_movement_14 hC rfl rfl ?_
    refine jq_callV (As := [.int x1]) (rest := []) (n := n) (o := 22) (D' := D_X0_isThere) dX0_movement_15 hC (cl_T (by omega) (by decide)) rfl rfl rfl (mt_X0_isThere (by omega) h) gX0_movement_X0_isThere rfl ⟨rfl, rfl, Nat.le_of_ble_eq_true rfl, Nat.le_of_ble_eq_true rfl⟩ nm_X0_isThere rfl (Nat.le_of_ble_eq_true rfl) (kIp fun r15 h => ?_)
    refine jq_if_ne (tgt := 23) dX0_movement_18 hC (by decide) (fun c18 => ?_) (fun c18 => ?_)
    · have h := h.1 c18
      refine jq_aload_n (k0 := 0) dX0_movement_23 hC rfl rfl ?_
      refine jq_iload_n (k0 := 1) dX0_movement_24 hC rfl rfl ?_
      refine jq_callV (As := [.int x1]) (rest := []) (n := n) (o := 22) (D' := D_X0_of) dX0_movement_25 hC (cl_T (by omega) (by decide)) rfl rfl rfl (mt_X0_of (by omega) h) gX0_movement_X0_of rfl ⟨rfl, rfl, Nat.le_of_ble_eq_true rfl, Nat.le_of_ble_eq_true rfl⟩ nm_X0_of rfl (Nat.le_of_ble_eq_true rfl) (kIp fun r25 h => ?_)
      refine jq_aload_n (k0 := 0) dX0_movement_28 hC rfl rfl ?_
      refine jq_get (k0 := 2) (n := n) (o := 22) dX0_movement_29 hC (cl_T (by omega) (by decide)) rfl rfl hi_X0_movement_X0 (by decide) hl_X0_movement_21 rfl rfl ?_
      refine jq_get (k0 := 2) (n := n) (o := 0) dX0_movement_32 hC (cl_S (by omega) (by decide)) rfl rfl hi_X0_movement_X5 (by decide) hl_X0_movement_48 rfl rfl ?_
      refine jq_iload_n (k0 := 1) dX0_movement_35 hC rfl rfl ?_
      obtain ⟨b36, h⟩ := h
      refine jq_iald (n := n) (o := 1) (j := x1.toNatClampNeg) dX0_movement_36 hC (cl_S (by omega) (by decide)) rfl b36 rfl ?_
      refine jq_isub dX0_movement_37 hC ?_
      refine jq_istore_n (L' := [(2, .int (r25 - (wi w n 1 x1.toNatClampNeg))), (0, .ref (aD G n 22)), (1, .int x1)]) dX0_movement_38 hC rfl (by decide) rfl ?_
      refine jq_iload_n (k0 := 0) dX0_movement_39 hC rfl rfl ?_
      refine jq_abs dX0_movement_40 hC (by decide +kernel) (Nat.le_of_ble_eq_true rfl) (Nat.le_of_ble_eq_true rfl) ?_
      refine jq_aload_n (k0 := 1) dX0_movement_43 hC rfl rfl ?_
      refine jq_get (k0 := 2) (n := n) (o := 22) dX0_movement_44 hC (cl_T (by omega) (by decide)) rfl rfl hi_X0_movement_X0 (by decide) hl_X0_movement_21 rfl rfl ?_
      refine jq_get (k0 := 7) (n := n) (o := 0) dX0_movement_47 hC (cl_S (by omega) (by decide)) rfl rfl hi_X0_movement_X5 (by decide) hl_X0_movement_83 rfl rfl ?_
      refine jq_iconst (v := (2 : Int32)) dX0_movement_50 hC (by decide) ?_
      refine jq_iald (n := n) (o := 6) (j := 2) dX0_movement_51 hC (cl_S (by omega) (by decide)) rfl (vin (by decide)) (by decide) ?_
      refine jq_icmp_gt (tgt := 57) dX0_movement_52 hC (by decide) (fun c52 => ?_) (fun c52 => ?_)
      · have h := h.1 c52
        refine jq_iload_n (k0 := 0) dX0_movement_57 hC rfl rfl ?_
        refine jq_if_ge (tgt := 65) dX0_movement_58 hC (by decide) (fun c58 => ?_) (fun c58 => ?_)
        · have h := h.1 c58
          refine jq_iconst (v := (2 : Int32)) dX0_movement_65 hC (by decide) ?_
          exact jq_iret dX0_movement_66 hC he rfl ⟨_, rfl, rfl, h⟩
        · have h := h.2 c58
          refine jq_iconst (v := (1 : Int32)) dX0_movement_61 hC (by decide) ?_
          refine jq_goto (tgt := 66) dX0_movement_62 hC (by decide) ?_
          exact jq_iret dX0_movement_66 hC he rfl ⟨_, rfl, rfl, h⟩
      · have h := h.2 c52
        refine jq_iconst (v := (0 : Int32)) dX0_movement_55 hC (by decide) ?_
        exact jq_iret dX0_movement_56 hC he rfl ⟨_, rfl, rfl, h⟩
    · have h := h.2 c18
      refine jq_iconst (v := (0 : Int32)) dX0_movement_21 hC (by decide) ?_
      exact jq_iret dX0_movement_22 hC he rfl ⟨_, rfl, rfl, h⟩
theorem mt_X0_movement {G : Gt} {n : Nat} {x1 : Int32} {w : Wd} {Q : Int32 → Prop} (hn : n < 2) (h : wp_X0_movement n x1 w Q) : Mt G D_X0_movement [.ref (aD G n 22), .int x1] w (qip w Q) := Mt_of (by decide +kernel) rfl rfl (Nat.le_of_ble_eq_true rfl) (fun M Qf hC he => ok_X0_movement hC he hn h)
/-! X0.howManyMoved()I -/
theorem dX0_howManyMoved_0 : decode cX0_howManyMoved 0 = .ok (.iconst 0, 1) := by decide +kernel
theorem dX0_howManyMoved_1 : decode cX0_howManyMoved 1 = .ok (.istore_n 1, 1) := by decide +kernel
theorem dX0_howManyMoved_2 : decode cX0_howManyMoved 2 = .ok (.iconst 0, 1) := by decide +kernel
theorem dX0_howManyMoved_3 : decode cX0_howManyMoved 3 = .ok (.istore_n 2, 1) := by decide +kernel
theorem dX0_howManyMoved_4 : decode cX0_howManyMoved 4 = .ok (.iload_n 2, 1) := by decide +kernel
theorem dX0_howManyMoved_5 : decode cX0_howManyMoved 5 = .ok (.aload_n 0, 1) := by decide +kernel
theorem dX0_howManyMoved_6 : decode cX0_howManyMoved 6 = .ok (.getfield 21, 3) := by decide +kernel
theorem dX0_howManyMoved_9 : decode cX0_howManyMoved 9 = .ok (.getfield 33, 3) := by decide +kernel
theorem dX0_howManyMoved_12 : decode cX0_howManyMoved 12 = .ok (.if_icmp .ge 20, 3) := by decide +kernel
theorem dX0_howManyMoved_15 : decode cX0_howManyMoved 15 = .ok (.aload_n 0, 1) := by decide +kernel
theorem dX0_howManyMoved_16 : decode cX0_howManyMoved 16 = .ok (.iload_n 2, 1) := by decide +kernel
theorem dX0_howManyMoved_17 : decode cX0_howManyMoved 17 = .ok (.invokevirtual 97, 3) := by decide +kernel
theorem dX0_howManyMoved_20 : decode cX0_howManyMoved 20 = .ok (.ifCond .eq 6, 3) := by decide +kernel
theorem dX0_howManyMoved_23 : decode cX0_howManyMoved 23 = .ok (.iinc 1 1, 3) := by decide +kernel
theorem dX0_howManyMoved_26 : decode cX0_howManyMoved 26 = .ok (.iinc 2 1, 3) := by decide +kernel
theorem dX0_howManyMoved_29 : decode cX0_howManyMoved 29 = .ok (.goto (-25), 3) := by decide +kernel
theorem dX0_howManyMoved_32 : decode cX0_howManyMoved 32 = .ok (.iload_n 1, 1) := by decide +kernel
theorem dX0_howManyMoved_33 : decode cX0_howManyMoved 33 = .ok (.ireturn, 1) := by decide +kernel
set_option maxRecDepth 20000 in
theorem ggX0_howManyMoved_X0_movement : GoodIn wsX0_howManyMoved wsX0_movement := goodIn_r _ [7, 1, 8, 9, 10, 11, 12, 13, 14, 15, 16, 6, 17, 18, 19, 20, 21, 22, 23, 24, 25, 26, 27, 28, 29, 30, 31, 32, 33, 34, 35, 36, 37, 38, 39, 40, 41, 42, 43, 44, 45, 46, 47, 48, 49, 50] (by decide +kernel) (by decide +kernel)
set_option maxRecDepth 20000 in
theorem gX0_howManyMoved_X0_movement : GoodIn wsX0_howManyMoved (wsV RX0 97 RX0 yX0_movement wsX0_movement) := goodIn_app (goodIn_of _ (by decide +kernel)) ggX0_howManyMoved_X0_movement
def D_X0_howManyMoved : Md := (yX0_howManyMoved, cX0_howManyMoved, 3, (some .int), wsX0_howManyMoved, RX0, { frames := 3, cells := 0, slots := 0, locals := 65 })
theorem nm_X0_howManyMoved : nmD D_X0_howManyMoved 0 := ⟨rfl, by decide +kernel, by decide +kernel, by decide +kernel⟩
theorem hi_X0_howManyMoved_X0 : ∀ w ∈ u_ws RX0 TX0 6, w ∈ wsX0_howManyMoved := by decide +kernel
theorem hi_X0_howManyMoved_X5 : ∀ w ∈ u_ws RX5 TX5 8, w ∈ wsX0_howManyMoved := by decide +kernel
theorem hl_X0_howManyMoved_21 : Cond.fieldLink RX0 21 "LevelLoops$Heights" "survey" "LLevelLoops$Survey;" ∈ wsX0_howManyMoved := by decide +kernel
theorem hl_X0_howManyMoved_33 : Cond.fieldLink RX0 33 "LevelLoops$Survey" "marks" "I" ∈ wsX0_howManyMoved := by decide +kernel
def wp_X0_howManyMoved_B4 (n : Nat) (x1 : Int32) (x2 : Int32) (w : Wd) (Q : Int32 → Prop) (K4 : Int32 → Int32 → Prop) : Prop :=
  (((wi w n 0 0) ≤ x2 → Q x1) ∧ (¬ (wi w n 0 0) ≤ x2 → wp_X0_movement n x2 w (fun r17 => ((r17 = 0 → K4 x1 (x2 + 1)) ∧ (¬ r17 = 0 → K4 (x1 + 1) (x2 + 1))))))
def wp_X0_howManyMoved_L4 (n : Nat) (x1 : Int32) (x2 : Int32) (w : Wd) (Q : Int32 → Prop) : Prop :=
  ∃ (I : Int32 → Int32 → Prop) (μ : Int32 → Int32 → Nat), I x1 x2 ∧ ∀ (x1 : Int32) (x2 : Int32), I x1 x2 → wp_X0_howManyMoved_B4 n x1 x2 w Q (fun x1' x2' => I x1' x2' ∧ μ x1' x2' < μ x1 x2)
def wp_X0_howManyMoved (n : Nat) (w : Wd) (Q : Int32 → Prop) : Prop :=
  wp_X0_howManyMoved_L4 n (0 : Int32) (0 : Int32) w Q
theorem ok_X0_howManyMoved_B4 {G : Gt} {M : Mx} {Qf : State → Prop} {n : Nat} {x1 : Int32} {x2 : Int32} {w : Wd} {Q : Int32 → Prop} {K4 : Int32 → Int32 → Prop} (hC : cx G D_X0_howManyMoved M) (he : en G M (qip w Q) Qf) (hn : n < 2) (h : wp_X0_howManyMoved_B4 n x1 x2 w Q K4) (hK4 : ∀ (x1 : Int32) (x2 : Int32), K4 x1 x2 → jq G D_X0_howManyMoved M Qf 4 [(0, .ref (aD G n 22)), (1, .int x1), (2, .int x2)] [] w) : jq G D_X0_howManyMoved M Qf 4 [(0, .ref (aD G n 22)), (1, .int x1), (2, .int x2)] [] w := by
  unfold wp_X0_howManyMoved_B4 at h
  refine jq_iload_n (k0 := 2) dX0_howManyMoved_4 hC rfl rfl ?_
  refine jq_aload_n (k0 := 0) dX0_howManyMoved_5 hC rfl rfl ?_
  refine jq_get (k0 := 2) (n := n) (o := 22) dX0_howManyMoved_6 hC (cl_T (by omega) (by decide)) rfl rfl hi_X0_howManyMoved_X0 (by decide) hl_X0_howManyMoved_21 rfl rfl ?_
  refine jq_get (k0 := 0) (n := n) (o := 0) dX0_howManyMoved_9 hC (cl_S (by omega) (by decide)) rfl rfl hi_X0_howManyMoved_X5 (by decide) hl_X0_howManyMoved_33 rfl rfl ?_
  refine jq_icmp_ge (tgt := 32) dX0_howManyMoved_12 hC (by decide) (fun c12 => ?_) (fun c12 => ?_)
  · have h := h.1 c12
    refine jq_iload_n (k0 := 1) dX0_howManyMoved_32 hC rfl rfl ?_
    exact jq_iret dX0_howManyMoved_33 hC he rfl ⟨_, rfl, rfl, h⟩
  · have h := h.2 c12
    refine jq_aload_n (k0 := 0) dX0_howManyMoved_15 hC rfl rfl ?_
    refine jq_iload_n (k0 := 2) dX0_howManyMoved_16 hC rfl rfl ?_
    refine jq_callV (As := [.int x2]) (rest := []) (n := n) (o := 22) (D' := D_X0_movement) dX0_howManyMoved_17 hC (cl_T (by omega) (by decide)) rfl rfl rfl (mt_X0_movement (by omega) h) gX0_howManyMoved_X0_movement rfl ⟨rfl, rfl, Nat.le_of_ble_eq_true rfl, Nat.le_of_ble_eq_true rfl⟩ nm_X0_movement rfl (Nat.le_of_ble_eq_true rfl) (kIp fun r17 h => ?_)
    refine jq_if_eq (tgt := 26) dX0_howManyMoved_20 hC (by decide) (fun c20 => ?_) (fun c20 => ?_)
    · have h := h.1 c20
      refine jq_iinc (k0 := 2) (v := (x2 + 1)) (L' := [(2, .int (x2 + 1)), (0, .ref (aD G n 22)), (1, .int x1)]) dX0_howManyMoved_26 hC rfl rfl (by decide) rfl ?_
      refine jq_goto (tgt := 4) dX0_howManyMoved_29 hC (by decide) ?_
      exact jq_less (L' := [(0, .ref (aD G n 22)), (1, .int x1), (2, .int (x2 + 1))]) [1, 2, 0] rfl (hK4 _ _ h)
    · have h := h.2 c20
      refine jq_iinc (k0 := 1) (v := (x1 + 1)) (L' := [(1, .int (x1 + 1)), (0, .ref (aD G n 22)), (2, .int x2)]) dX0_howManyMoved_23 hC rfl rfl (by decide) rfl ?_
      refine jq_iinc (k0 := 2) (v := (x2 + 1)) (L' := [(2, .int (x2 + 1)), (1, .int (x1 + 1)), (0, .ref (aD G n 22))]) dX0_howManyMoved_26 hC rfl rfl (by decide) rfl ?_
      refine jq_goto (tgt := 4) dX0_howManyMoved_29 hC (by decide) ?_
      exact jq_less (L' := [(0, .ref (aD G n 22)), (1, .int (x1 + 1)), (2, .int (x2 + 1))]) [2, 1, 0] rfl (hK4 _ _ h)
theorem ok_X0_howManyMoved_L4 {G : Gt} {M : Mx} {Qf : State → Prop} {n : Nat} {x1 : Int32} {x2 : Int32} {w : Wd} {Q : Int32 → Prop} (hC : cx G D_X0_howManyMoved M) (he : en G M (qip w Q) Qf) (hn : n < 2) (h : wp_X0_howManyMoved_L4 n x1 x2 w Q) : jq G D_X0_howManyMoved M Qf 4 [(0, .ref (aD G n 22)), (1, .int x1), (2, .int x2)] [] w := by
  unfold wp_X0_howManyMoved_L4 at h
  obtain ⟨I, μ, h0, hs⟩ := h
  exact lp_ind (σ := Int32 × Int32) (P := fun s => jq G D_X0_howManyMoved M Qf 4 [(0, .ref (aD G n 22)), (1, .int s.1), (2, .int s.2)] [] w) (fun s => I s.1 s.2) (fun s => μ s.1 s.2) (fun s h1 ih => ok_X0_howManyMoved_B4 hC he hn (hs s.1 s.2 h1) (fun x1' x2' h => ih (x1', x2') h.1 h.2)) (x1, x2) h0
theorem ok_X0_howManyMoved {G : Gt} {M : Mx} {Qf : State → Prop} {n : Nat} {w : Wd} {Q : Int32 → Prop} (hC : cx G D_X0_howManyMoved M) (he : en G M (qip w Q) Qf) (hn : n < 2) (h : wp_X0_howManyMoved n w Q) : jq G D_X0_howManyMoved M Qf 0 [(0, .ref (aD G n 22))] [] w := by
  unfold wp_X0_howManyMoved at h
  refine jq_iconst (v := (0 : Int32)) dX0_howManyMoved_0 hC (by decide) ?_
  refine jq_istore_n (L' := [(1, .int (0 : Int32)), (0, .ref (aD G n 22))]) dX0_howManyMoved_1 hC rfl (by decide) rfl ?_
  refine jq_iconst (v := (0 : Int32)) dX0_howManyMoved_2 hC (by decide) ?_
  refine jq_istore_n (L' := [(2, .int (0 : Int32)), (1, .int (0 : Int32)), (0, .ref (aD G n 22))]) dX0_howManyMoved_3 hC rfl (by decide) rfl ?_
  refine jq_less (L' := [(0, .ref (aD G n 22)), (1, .int (0 : Int32)), (2, .int (0 : Int32))]) [2, 1, 0] rfl ?_
  exact ok_X0_howManyMoved_L4 hC he hn h
theorem mt_X0_howManyMoved {G : Gt} {n : Nat} {w : Wd} {Q : Int32 → Prop} (hn : n < 2) (h : wp_X0_howManyMoved n w Q) : Mt G D_X0_howManyMoved [.ref (aD G n 22)] w (qip w Q) := Mt_of (by decide +kernel) rfl rfl (Nat.le_of_ble_eq_true rfl) (fun M Qf hC he => ok_X0_howManyMoved hC he hn h)
/-! X0.howManyThere()I -/
theorem dX0_howManyThere_0 : decode cX0_howManyThere 0 = .ok (.iconst 0, 1) := by decide +kernel
theorem dX0_howManyThere_1 : decode cX0_howManyThere 1 = .ok (.istore_n 1, 1) := by decide +kernel
theorem dX0_howManyThere_2 : decode cX0_howManyThere 2 = .ok (.iconst 0, 1) := by decide +kernel
theorem dX0_howManyThere_3 : decode cX0_howManyThere 3 = .ok (.istore_n 2, 1) := by decide +kernel
theorem dX0_howManyThere_4 : decode cX0_howManyThere 4 = .ok (.iload_n 2, 1) := by decide +kernel
theorem dX0_howManyThere_5 : decode cX0_howManyThere 5 = .ok (.aload_n 0, 1) := by decide +kernel
theorem dX0_howManyThere_6 : decode cX0_howManyThere 6 = .ok (.getfield 21, 3) := by decide +kernel
theorem dX0_howManyThere_9 : decode cX0_howManyThere 9 = .ok (.getfield 33, 3) := by decide +kernel
theorem dX0_howManyThere_12 : decode cX0_howManyThere 12 = .ok (.if_icmp .ge 20, 3) := by decide +kernel
theorem dX0_howManyThere_15 : decode cX0_howManyThere 15 = .ok (.aload_n 0, 1) := by decide +kernel
theorem dX0_howManyThere_16 : decode cX0_howManyThere 16 = .ok (.iload_n 2, 1) := by decide +kernel
theorem dX0_howManyThere_17 : decode cX0_howManyThere 17 = .ok (.invokevirtual 90, 3) := by decide +kernel
theorem dX0_howManyThere_20 : decode cX0_howManyThere 20 = .ok (.ifCond .eq 6, 3) := by decide +kernel
theorem dX0_howManyThere_23 : decode cX0_howManyThere 23 = .ok (.iinc 1 1, 3) := by decide +kernel
theorem dX0_howManyThere_26 : decode cX0_howManyThere 26 = .ok (.iinc 2 1, 3) := by decide +kernel
theorem dX0_howManyThere_29 : decode cX0_howManyThere 29 = .ok (.goto (-25), 3) := by decide +kernel
theorem dX0_howManyThere_32 : decode cX0_howManyThere 32 = .ok (.iload_n 1, 1) := by decide +kernel
theorem dX0_howManyThere_33 : decode cX0_howManyThere 33 = .ok (.ireturn, 1) := by decide +kernel
set_option maxRecDepth 20000 in
theorem ggX0_howManyThere_X0_isThere : GoodIn wsX0_howManyThere wsX0_isThere := goodIn_r _ [7, 8, 9, 10, 6, 11, 12, 13, 14, 15, 16, 17, 18, 19, 20, 29, 30, 31, 32, 33, 34] (by decide +kernel) (by decide +kernel)
set_option maxRecDepth 20000 in
theorem gX0_howManyThere_X0_isThere : GoodIn wsX0_howManyThere (wsV RX0 90 RX0 yX0_isThere wsX0_isThere) := goodIn_app (goodIn_of _ (by decide +kernel)) ggX0_howManyThere_X0_isThere
def D_X0_howManyThere : Md := (yX0_howManyThere, cX0_howManyThere, 3, (some .int), wsX0_howManyThere, RX0, { frames := 2, cells := 0, slots := 0, locals := 42 })
theorem nm_X0_howManyThere : nmD D_X0_howManyThere 0 := ⟨rfl, by decide +kernel, by decide +kernel, by decide +kernel⟩
theorem hi_X0_howManyThere_X0 : ∀ w ∈ u_ws RX0 TX0 6, w ∈ wsX0_howManyThere := by decide +kernel
theorem hi_X0_howManyThere_X5 : ∀ w ∈ u_ws RX5 TX5 8, w ∈ wsX0_howManyThere := by decide +kernel
theorem hl_X0_howManyThere_21 : Cond.fieldLink RX0 21 "LevelLoops$Heights" "survey" "LLevelLoops$Survey;" ∈ wsX0_howManyThere := by decide +kernel
theorem hl_X0_howManyThere_33 : Cond.fieldLink RX0 33 "LevelLoops$Survey" "marks" "I" ∈ wsX0_howManyThere := by decide +kernel
def wp_X0_howManyThere_B4 (n : Nat) (x1 : Int32) (x2 : Int32) (w : Wd) (Q : Int32 → Prop) (K4 : Int32 → Int32 → Prop) : Prop :=
  (((wi w n 0 0) ≤ x2 → Q x1) ∧ (¬ (wi w n 0 0) ≤ x2 → wp_X0_isThere n x2 w (fun r17 => ((r17 = 0 → K4 x1 (x2 + 1)) ∧ (¬ r17 = 0 → K4 (x1 + 1) (x2 + 1))))))
def wp_X0_howManyThere_L4 (n : Nat) (x1 : Int32) (x2 : Int32) (w : Wd) (Q : Int32 → Prop) : Prop :=
  ∃ (I : Int32 → Int32 → Prop) (μ : Int32 → Int32 → Nat), I x1 x2 ∧ ∀ (x1 : Int32) (x2 : Int32), I x1 x2 → wp_X0_howManyThere_B4 n x1 x2 w Q (fun x1' x2' => I x1' x2' ∧ μ x1' x2' < μ x1 x2)
def wp_X0_howManyThere (n : Nat) (w : Wd) (Q : Int32 → Prop) : Prop :=
  wp_X0_howManyThere_L4 n (0 : Int32) (0 : Int32) w Q
theorem ok_X0_howManyThere_B4 {G : Gt} {M : Mx} {Qf : State → Prop} {n : Nat} {x1 : Int32} {x2 : Int32} {w : Wd} {Q : Int32 → Prop} {K4 : Int32 → Int32 → Prop} (hC : cx G D_X0_howManyThere M) (he : en G M (qip w Q) Qf) (hn : n < 2) (h : wp_X0_howManyThere_B4 n x1 x2 w Q K4) (hK4 : ∀ (x1 : Int32) (x2 : Int32), K4 x1 x2 → jq G D_X0_howManyThere M Qf 4 [(0, .ref (aD G n 22)), (1, .int x1), (2, .int x2)] [] w) : jq G D_X0_howManyThere M Qf 4 [(0, .ref (aD G n 22)), (1, .int x1), (2, .int x2)] [] w := by
  unfold wp_X0_howManyThere_B4 at h
  refine jq_iload_n (k0 := 2) dX0_howManyThere_4 hC rfl rfl ?_
  refine jq_aload_n (k0 := 0) dX0_howManyThere_5 hC rfl rfl ?_
  refine jq_get (k0 := 2) (n := n) (o := 22) dX0_howManyThere_6 hC (cl_T (by omega) (by decide)) rfl rfl hi_X0_howManyThere_X0 (by decide) hl_X0_howManyThere_21 rfl rfl ?_
  refine jq_get (k0 := 0) (n := n) (o := 0) dX0_howManyThere_9 hC (cl_S (by omega) (by decide)) rfl rfl hi_X0_howManyThere_X5 (by decide) hl_X0_howManyThere_33 rfl rfl ?_
  refine jq_icmp_ge (tgt := 32) dX0_howManyThere_12 hC (by decide) (fun c12 => ?_) (fun c12 => ?_)
  · have h := h.1 c12
    refine jq_iload_n (k0 := 1) dX0_howManyThere_32 hC rfl rfl ?_
    exact jq_iret dX0_howManyThere_33 hC he rfl ⟨_, rfl, rfl, h⟩
  · have h := h.2 c12
    refine jq_aload_n (k0 := 0) dX0_howManyThere_15 hC rfl rfl ?_
    refine jq_iload_n (k0 := 2) dX0_howManyThere_16 hC rfl rfl ?_
    refine jq_callV (As := [.int x2]) (rest := []) (n := n) (o := 22) (D' := D_X0_isThere) dX0_howManyThere_17 hC (cl_T (by omega) (by decide)) rfl rfl rfl (mt_X0_isThere (by omega) h) gX0_howManyThere_X0_isThere rfl ⟨rfl, rfl, Nat.le_of_ble_eq_true rfl, Nat.le_of_ble_eq_true rfl⟩ nm_X0_isThere rfl (Nat.le_of_ble_eq_true rfl) (kIp fun r17 h => ?_)
    refine jq_if_eq (tgt := 26) dX0_howManyThere_20 hC (by decide) (fun c20 => ?_) (fun c20 => ?_)
    · have h := h.1 c20
      refine jq_iinc (k0 := 2) (v := (x2 + 1)) (L' := [(2, .int (x2 + 1)), (0, .ref (aD G n 22)), (1, .int x1)]) dX0_howManyThere_26 hC rfl rfl (by decide) rfl ?_
      refine jq_goto (tgt := 4) dX0_howManyThere_29 hC (by decide) ?_
      exact jq_less (L' := [(0, .ref (aD G n 22)), (1, .int x1), (2, .int (x2 + 1))]) [1, 2, 0] rfl (hK4 _ _ h)
    · have h := h.2 c20
      refine jq_iinc (k0 := 1) (v := (x1 + 1)) (L' := [(1, .int (x1 + 1)), (0, .ref (aD G n 22)), (2, .int x2)]) dX0_howManyThere_23 hC rfl rfl (by decide) rfl ?_
      refine jq_iinc (k0 := 2) (v := (x2 + 1)) (L' := [(2, .int (x2 + 1)), (1, .int (x1 + 1)), (0, .ref (aD G n 22))]) dX0_howManyThere_26 hC rfl rfl (by decide) rfl ?_
      refine jq_goto (tgt := 4) dX0_howManyThere_29 hC (by decide) ?_
      exact jq_less (L' := [(0, .ref (aD G n 22)), (1, .int (x1 + 1)), (2, .int (x2 + 1))]) [2, 1, 0] rfl (hK4 _ _ h)
theorem ok_X0_howManyThere_L4 {G : Gt} {M : Mx} {Qf : State → Prop} {n : Nat} {x1 : Int32} {x2 : Int32} {w : Wd} {Q : Int32 → Prop} (hC : cx G D_X0_howManyThere M) (he : en G M (qip w Q) Qf) (hn : n < 2) (h : wp_X0_howManyThere_L4 n x1 x2 w Q) : jq G D_X0_howManyThere M Qf 4 [(0, .ref (aD G n 22)), (1, .int x1), (2, .int x2)] [] w := by
  unfold wp_X0_howManyThere_L4 at h
  obtain ⟨I, μ, h0, hs⟩ := h
  exact lp_ind (σ := Int32 × Int32) (P := fun s => jq G D_X0_howManyThere M Qf 4 [(0, .ref (aD G n 22)), (1, .int s.1), (2, .int s.2)] [] w) (fun s => I s.1 s.2) (fun s => μ s.1 s.2) (fun s h1 ih => ok_X0_howManyThere_B4 hC he hn (hs s.1 s.2 h1) (fun x1' x2' h => ih (x1', x2') h.1 h.2)) (x1, x2) h0
theorem ok_X0_howManyThere {G : Gt} {M : Mx} {Qf : State → Prop} {n : Nat} {w : Wd} {Q : Int32 → Prop} (hC : cx G D_X0_howManyThere M) (he : en G M (qip w Q) Qf) (hn : n < 2) (h : wp_X0_howManyThere n w Q) : jq G D_X0_howManyThere M Qf 0 [(0, .ref (aD G n 22))] [] w := by
  unfold wp_X0_howManyThere at h
  refine jq_iconst (v := (0 : Int32)) dX0_howManyThere_0 hC (by decide) ?_
  refine jq_istore_n (L' := [(1, .int (0 : Int32)), (0, .ref (aD G n 22))]) dX0_howManyThere_1 hC rfl (by decide) rfl ?_
  refine jq_iconst (v := (0 : Int32)) dX0_howManyThere_2 hC (by decide) ?_
  refine jq_istore_n (L' := [(2, .int (0 : Int32)), (1, .int (0 : Int32)), (0, .ref (aD G n 22))]) dX0_howManyThere_3 hC rfl (by decide) rfl ?_
  refine jq_less (L' := [(0, .ref (aD G n 22)), (1, .int (0 : Int32)), (2, .int (0 : Int32))]) [2, 1, 0] rfl ?_
  exact ok_X0_howManyThere_L4 hC he hn h
theorem mt_X0_howManyThere {G : Gt} {n : Nat} {w : Wd} {Q : Int32 → Prop} (hn : n < 2) (h : wp_X0_howManyThere n w Q) : Mt G D_X0_howManyThere [.ref (aD G n 22)] w (qip w Q) := Mt_of (by decide +kernel) rfl rfl (Nat.le_of_ble_eq_true rfl) (fun M Qf hC he => ok_X0_howManyThere hC he hn h)
/-! X4.renew()V -/
theorem dX4_renew_0 : decode cX4_renew 0 = .ok (.aload_n 0, 1) := by decide +kernel
theorem dX4_renew_1 : decode cX4_renew 1 = .ok (.getfield 25, 3) := by decide +kernel
theorem dX4_renew_4 : decode cX4_renew 4 = .ok (.invokevirtual 42, 3) := by decide +kernel
theorem dX4_renew_7 : decode cX4_renew 7 = .ok (.aload_n 0, 1) := by decide +kernel
theorem dX4_renew_8 : decode cX4_renew 8 = .ok (.getfield 29, 3) := by decide +kernel
theorem dX4_renew_11 : decode cX4_renew 11 = .ok (.invokevirtual 45, 3) := by decide +kernel
theorem dX4_renew_14 : decode cX4_renew 14 = .ok (.aload_n 0, 1) := by decide +kernel
theorem dX4_renew_15 : decode cX4_renew 15 = .ok (.getfield 29, 3) := by decide +kernel
theorem dX4_renew_18 : decode cX4_renew 18 = .ok (.invokevirtual 48, 3) := by decide +kernel
theorem dX4_renew_21 : decode cX4_renew 21 = .ok (.aload_n 0, 1) := by decide +kernel
theorem dX4_renew_22 : decode cX4_renew 22 = .ok (.getfield 38, 3) := by decide +kernel
theorem dX4_renew_25 : decode cX4_renew 25 = .ok (.invokevirtual 51, 3) := by decide +kernel
theorem dX4_renew_28 : decode cX4_renew 28 = .ok (.return_, 1) := by decide +kernel
set_option maxRecDepth 20000 in
theorem ggX4_renew_X0_find : GoodIn wsX4_renew wsX0_find := goodIn_r _ [123, 124, 125, 126, 127, 128, 129, 130, 131, 132, 133, 134, 135, 122, 136, 137, 138, 139, 140, 141, 39, 40, 41, 142, 143, 144, 145, 146, 147, 148, 149, 150, 92, 19, 93, 151, 183, 184, 185, 186, 187, 188, 162, 163, 164, 165, 166, 167, 168, 169, 156, 157, 158, 159, 160, 161, 170, 171, 172, 173, 174, 175, 176, 177, 178, 179, 180, 181, 182] (by decide +kernel) (by decide +kernel)
set_option maxRecDepth 20000 in
theorem gX4_renew_X0_find : GoodIn wsX4_renew (wsV RX4 51 RX0 yX0_find wsX0_find) := goodIn_app (goodIn_of _ (by decide +kernel)) ggX4_renew_X0_find
set_option maxRecDepth 20000 in
theorem ggX4_renew_X2_spread : GoodIn wsX4_renew wsX2_spread := goodIn_r _ [102, 51, 66, 103, 91, 92, 19, 93, 82, 83, 84, 49, 85, 53, 54, 86, 55, 68, 39, 40, 41, 104, 105, 106, 107, 108, 109, 110, 75, 76, 77, 78, 79, 80, 81, 111, 112, 113, 114, 115, 116, 117, 118, 170, 171, 172, 173, 174, 175, 176, 177, 178, 179, 180, 181, 182, 162, 163, 164, 165, 166, 167, 168, 169] (by decide +kernel) (by decide +kernel)
set_option maxRecDepth 20000 in
theorem gX4_renew_X2_spread : GoodIn wsX4_renew (wsV RX4 48 RX2 yX2_spread wsX2_spread) := goodIn_app (goodIn_of _ (by decide +kernel)) ggX4_renew_X2_spread
set_option maxRecDepth 20000 in
theorem ggX4_renew_X2_close : GoodIn wsX4_renew wsX2_close := goodIn_r _ [50, 51, 52, 53, 54, 55, 56, 57, 39, 40, 41, 58, 59, 60, 49, 61, 62, 63, 64, 65, 66, 67, 68, 69, 70, 71, 72, 73, 7, 74, 38, 75, 76, 77, 78, 79, 80, 81, 82, 83, 84, 85, 86, 87, 88, 89, 90, 91, 92, 19, 93, 94, 95, 96, 97, 98, 170, 171, 172, 173, 174, 175, 176, 177, 178, 179, 180, 181, 182, 162, 163, 164, 165, 166, 167, 168, 169, 156, 157, 158, 159, 160, 161] (by decide +kernel) (by decide +kernel)
set_option maxRecDepth 20000 in
theorem gX4_renew_X2_close : GoodIn wsX4_renew (wsV RX4 45 RX2 yX2_close wsX2_close) := goodIn_app (goodIn_of _ (by decide +kernel)) ggX4_renew_X2_close
set_option maxRecDepth 20000 in
theorem ggX4_renew_X7_grow : GoodIn wsX4_renew wsX7_grow := goodIn_r _ [8, 9, 10, 11, 12, 13, 14, 15, 16, 17, 18, 19, 20, 21, 22, 23, 24, 25, 26, 7, 27, 28, 29, 30, 31, 32, 33, 34, 35, 36, 37, 38, 39, 40, 41, 42, 43, 44, 45, 156, 157, 158, 159, 160, 161, 162, 163, 164, 165, 166, 167, 168, 169] (by decide +kernel) (by decide +kernel)
set_option maxRecDepth 20000 in
theorem gX4_renew_X7_grow : GoodIn wsX4_renew (wsV RX4 42 RX7 yX7_grow wsX7_grow) := goodIn_app (goodIn_of _ (by decide +kernel)) ggX4_renew_X7_grow
def D_X4_renew : Md := (yX4_renew, cX4_renew, 1, none, wsX4_renew, RX4, { frames := 4, cells := 0, slots := 0, locals := 95 })
theorem nm_X4_renew : nmD D_X4_renew 0 := ⟨rfl, by decide +kernel, by decide +kernel, by decide +kernel⟩
theorem hi_X4_renew_X4 : ∀ w ∈ u_ws RX4 TX4 4, w ∈ wsX4_renew := by decide +kernel
theorem hl_X4_renew_25 : Cond.fieldLink RX4 25 "LevelLoops$Study" "tree" "LLevelLoops$Tree;" ∈ wsX4_renew := by decide +kernel
theorem hl_X4_renew_29 : Cond.fieldLink RX4 29 "LevelLoops$Study" "loops" "LLevelLoops$Loops;" ∈ wsX4_renew := by decide +kernel
theorem hl_X4_renew_38 : Cond.fieldLink RX4 38 "LevelLoops$Study" "heights" "LLevelLoops$Heights;" ∈ wsX4_renew := by decide +kernel
def wp_X4_renew (n : Nat) (w : Wd) (Q : Wd → Prop) : Prop :=
  wp_X7_grow n w (fun w4 => wp_X2_close n w4 (fun w11 => wp_X2_spread n w11 (fun w18 => wp_X0_find n w18 (fun w25 => Q w25))))
theorem ok_X4_renew {G : Gt} {M : Mx} {Qf : State → Prop} {n : Nat} {w : Wd} {Q : Wd → Prop} (hC : cx G D_X4_renew M) (he : en G M (qv Q) Qf) (hn : n < 2) (h : wp_X4_renew n w Q) : jq G D_X4_renew M Qf 0 [(0, .ref (aD G n 7))] [] w := by
  unfold wp_X4_renew at h
  refine jq_aload_n (k0 := 0) dX4_renew_0 hC rfl rfl ?_
  refine jq_get (k0 := 0) (n := n) (o := 7) dX4_renew_1 hC (cl_T (by omega) (by decide)) rfl rfl hi_X4_renew_X4 (by decide) hl_X4_renew_25 rfl rfl ?_
  refine jq_callV (As := []) (rest := []) (n := n) (o := 8) (D' := D_X7_grow) dX4_renew_4 hC (cl_T (by omega) (by decide)) rfl rfl rfl (mt_X7_grow (by omega) h) gX4_renew_X7_grow rfl ⟨rfl, rfl, Nat.le_of_ble_eq_true rfl, Nat.le_of_ble_eq_true rfl⟩ nm_X7_grow rfl (Nat.le_of_ble_eq_true rfl) (kV fun w4 h => ?_)
  refine jq_aload_n (k0 := 0) dX4_renew_7 hC rfl rfl ?_
  refine jq_get (k0 := 1) (n := n) (o := 7) dX4_renew_8 hC (cl_T (by omega) (by decide)) rfl rfl hi_X4_renew_X4 (by decide) hl_X4_renew_29 rfl rfl ?_
  refine jq_callV (As := []) (rest := []) (n := n) (o := 12) (D' := D_X2_close) dX4_renew_11 hC (cl_T (by omega) (by decide)) rfl rfl rfl (mt_X2_close (by omega) h) gX4_renew_X2_close rfl ⟨rfl, rfl, Nat.le_of_ble_eq_true rfl, Nat.le_of_ble_eq_true rfl⟩ nm_X2_close rfl (Nat.le_of_ble_eq_true rfl) (kV fun w11 h => ?_)
  refine jq_aload_n (k0 := 0) dX4_renew_14 hC rfl rfl ?_
  refine jq_get (k0 := 1) (n := n) (o := 7) dX4_renew_15 hC (cl_T (by omega) (by decide)) rfl rfl hi_X4_renew_X4 (by decide) hl_X4_renew_29 rfl rfl ?_
  refine jq_callV (As := []) (rest := []) (n := n) (o := 12) (D' := D_X2_spread) dX4_renew_18 hC (cl_T (by omega) (by decide)) rfl rfl rfl (mt_X2_spread (by omega) h) gX4_renew_X2_spread rfl ⟨rfl, rfl, Nat.le_of_ble_eq_true rfl, Nat.le_of_ble_eq_true rfl⟩ nm_X2_spread rfl (Nat.le_of_ble_eq_true rfl) (kV fun w18 h => ?_)
  refine jq_aload_n (k0 := 0) dX4_renew_21 hC rfl rfl ?_
  refine jq_get (k0 := 2) (n := n) (o := 7) dX4_renew_22 hC (cl_T (by omega) (by decide)) rfl rfl hi_X4_renew_X4 (by decide) hl_X4_renew_38 rfl rfl ?_
  refine jq_callV (As := []) (rest := []) (n := n) (o := 22) (D' := D_X0_find) dX4_renew_25 hC (cl_T (by omega) (by decide)) rfl rfl rfl (mt_X0_find (by omega) h) gX4_renew_X0_find rfl ⟨rfl, rfl, Nat.le_of_ble_eq_true rfl, Nat.le_of_ble_eq_true rfl⟩ nm_X0_find rfl (Nat.le_of_ble_eq_true rfl) (kV fun w25 h => ?_)
  exact jq_vret dX4_renew_28 hC he rfl ⟨rfl, h⟩
theorem mt_X4_renew {G : Gt} {n : Nat} {w : Wd} {Q : Wd → Prop} (hn : n < 2) (h : wp_X4_renew n w Q) : Mt G D_X4_renew [.ref (aD G n 7)] w (qv Q) := Mt_of (by decide +kernel) rfl rfl (Nat.le_of_ble_eq_true rfl) (fun M Qf hC he => ok_X4_renew hC he hn h)
/-! X4.ofMark(II)I -/
theorem dX4_ofMark_0 : decode cX4_ofMark 0 = .ok (.iload_n 2, 1) := by decide +kernel
theorem dX4_ofMark_1 : decode cX4_ofMark 1 = .ok (.tableswitch 111 0 5 #[39, 49, 74, 84, 93, 102], 39) := by decide +kernel
theorem dX4_ofMark_40 : decode cX4_ofMark 40 = .ok (.aload_n 0, 1) := by decide +kernel
theorem dX4_ofMark_41 : decode cX4_ofMark 41 = .ok (.getfield 19, 3) := by decide +kernel
theorem dX4_ofMark_44 : decode cX4_ofMark 44 = .ok (.getfield 54, 3) := by decide +kernel
theorem dX4_ofMark_47 : decode cX4_ofMark 47 = .ok (.iload_n 1, 1) := by decide +kernel
theorem dX4_ofMark_48 : decode cX4_ofMark 48 = .ok (.iaload, 1) := by decide +kernel
theorem dX4_ofMark_49 : decode cX4_ofMark 49 = .ok (.ireturn, 1) := by decide +kernel
theorem dX4_ofMark_50 : decode cX4_ofMark 50 = .ok (.aload_n 0, 1) := by decide +kernel
theorem dX4_ofMark_51 : decode cX4_ofMark 51 = .ok (.getfield 38, 3) := by decide +kernel
theorem dX4_ofMark_54 : decode cX4_ofMark 54 = .ok (.iload_n 1, 1) := by decide +kernel
theorem dX4_ofMark_55 : decode cX4_ofMark 55 = .ok (.invokevirtual 60, 3) := by decide +kernel
theorem dX4_ofMark_58 : decode cX4_ofMark 58 = .ok (.ifCond .eq 14, 3) := by decide +kernel
theorem dX4_ofMark_61 : decode cX4_ofMark 61 = .ok (.aload_n 0, 1) := by decide +kernel
theorem dX4_ofMark_62 : decode cX4_ofMark 62 = .ok (.getfield 38, 3) := by decide +kernel
theorem dX4_ofMark_65 : decode cX4_ofMark 65 = .ok (.iload_n 1, 1) := by decide +kernel
theorem dX4_ofMark_66 : decode cX4_ofMark 66 = .ok (.invokevirtual 64, 3) := by decide +kernel
theorem dX4_ofMark_69 : decode cX4_ofMark 69 = .ok (.goto 5, 3) := by decide +kernel
theorem dX4_ofMark_72 : decode cX4_ofMark 72 = .ok (.ldc 68, 2) := by decide +kernel
theorem dX4_ofMark_74 : decode cX4_ofMark 74 = .ok (.ireturn, 1) := by decide +kernel
theorem dX4_ofMark_75 : decode cX4_ofMark 75 = .ok (.aload_n 0, 1) := by decide +kernel
theorem dX4_ofMark_76 : decode cX4_ofMark 76 = .ok (.getfield 25, 3) := by decide +kernel
theorem dX4_ofMark_79 : decode cX4_ofMark 79 = .ok (.getfield 69, 3) := by decide +kernel
theorem dX4_ofMark_82 : decode cX4_ofMark 82 = .ok (.iload_n 1, 1) := by decide +kernel
theorem dX4_ofMark_83 : decode cX4_ofMark 83 = .ok (.iaload, 1) := by decide +kernel
theorem dX4_ofMark_84 : decode cX4_ofMark 84 = .ok (.ireturn, 1) := by decide +kernel
theorem dX4_ofMark_85 : decode cX4_ofMark 85 = .ok (.aload_n 0, 1) := by decide +kernel
theorem dX4_ofMark_86 : decode cX4_ofMark 86 = .ok (.getfield 38, 3) := by decide +kernel
theorem dX4_ofMark_89 : decode cX4_ofMark 89 = .ok (.iload_n 1, 1) := by decide +kernel
theorem dX4_ofMark_90 : decode cX4_ofMark 90 = .ok (.invokevirtual 72, 3) := by decide +kernel
theorem dX4_ofMark_93 : decode cX4_ofMark 93 = .ok (.ireturn, 1) := by decide +kernel
theorem dX4_ofMark_94 : decode cX4_ofMark 94 = .ok (.aload_n 0, 1) := by decide +kernel
theorem dX4_ofMark_95 : decode cX4_ofMark 95 = .ok (.getfield 19, 3) := by decide +kernel
theorem dX4_ofMark_98 : decode cX4_ofMark 98 = .ok (.iload_n 1, 1) := by decide +kernel
theorem dX4_ofMark_99 : decode cX4_ofMark 99 = .ok (.invokevirtual 75, 3) := by decide +kernel
theorem dX4_ofMark_102 : decode cX4_ofMark 102 = .ok (.ireturn, 1) := by decide +kernel
theorem dX4_ofMark_103 : decode cX4_ofMark 103 = .ok (.aload_n 0, 1) := by decide +kernel
theorem dX4_ofMark_104 : decode cX4_ofMark 104 = .ok (.getfield 38, 3) := by decide +kernel
theorem dX4_ofMark_107 : decode cX4_ofMark 107 = .ok (.iload_n 1, 1) := by decide +kernel
theorem dX4_ofMark_108 : decode cX4_ofMark 108 = .ok (.invokevirtual 78, 3) := by decide +kernel
theorem dX4_ofMark_111 : decode cX4_ofMark 111 = .ok (.ireturn, 1) := by decide +kernel
theorem dX4_ofMark_112 : decode cX4_ofMark 112 = .ok (.aload_n 0, 1) := by decide +kernel
theorem dX4_ofMark_113 : decode cX4_ofMark 113 = .ok (.getfield 38, 3) := by decide +kernel
theorem dX4_ofMark_116 : decode cX4_ofMark 116 = .ok (.getfield 81, 3) := by decide +kernel
theorem dX4_ofMark_119 : decode cX4_ofMark 119 = .ok (.iload_n 1, 1) := by decide +kernel
theorem dX4_ofMark_120 : decode cX4_ofMark 120 = .ok (.iaload, 1) := by decide +kernel
theorem dX4_ofMark_121 : decode cX4_ofMark 121 = .ok (.ireturn, 1) := by decide +kernel
set_option maxRecDepth 20000 in
theorem ggX4_ofMark_X0_of : GoodIn wsX4_ofMark wsX0_of := goodIn_r _ [23, 24, 25, 26, 27, 13, 14, 15, 11, 16, 17, 18, 19, 66, 67, 68, 69, 70, 71, 52, 53, 54, 55, 56, 57, 58, 59, 60, 61, 62, 63, 64, 65] (by decide +kernel) (by decide +kernel)
set_option maxRecDepth 20000 in
theorem gX4_ofMark_X0_of : GoodIn wsX4_ofMark (wsV RX4 64 RX0 yX0_of wsX0_of) := goodIn_app (goodIn_of _ (by decide +kernel)) ggX4_ofMark_X0_of
set_option maxRecDepth 20000 in
theorem ggX4_ofMark_X0_isThere : GoodIn wsX4_ofMark wsX0_isThere := goodIn_r _ [12, 13, 14, 15, 11, 16, 17, 18, 19, 66, 67, 68, 69, 70, 71, 60, 61, 62, 63, 64, 65] (by decide +kernel) (by decide +kernel)
set_option maxRecDepth 20000 in
theorem gX4_ofMark_X0_isThere : GoodIn wsX4_ofMark (wsV RX4 60 RX0 yX0_isThere wsX0_isThere) := goodIn_app (goodIn_of _ (by decide +kernel)) ggX4_ofMark_X0_isThere
set_option maxRecDepth 20000 in
theorem ggX4_ofMark_X0_movement : GoodIn wsX4_ofMark wsX0_movement := goodIn_r _ [31, 25, 26, 32, 33, 34, 35, 36, 37, 9, 10, 11, 12, 13, 14, 15, 16, 17, 18, 19, 38, 21, 22, 23, 24, 27, 66, 67, 68, 69, 70, 71, 52, 53, 54, 55, 56, 57, 58, 59, 60, 61, 62, 63, 64, 65] (by decide +kernel) (by decide +kernel)
set_option maxRecDepth 20000 in
theorem gX4_ofMark_X0_movement : GoodIn wsX4_ofMark (wsV RX4 72 RX0 yX0_movement wsX0_movement) := goodIn_app (goodIn_of _ (by decide +kernel)) ggX4_ofMark_X0_movement
set_option maxRecDepth 20000 in
theorem ggX4_ofMark_X5_legsAt : GoodIn wsX4_ofMark wsX5_legsAt := goodIn_r _ [43, 44, 45, 46, 52, 53, 54, 55, 56, 57, 58, 59] (by decide +kernel) (by decide +kernel)
set_option maxRecDepth 20000 in
theorem gX4_ofMark_X5_legsAt : GoodIn wsX4_ofMark (wsV RX4 75 RX5 yX5_legsAt wsX5_legsAt) := goodIn_app (goodIn_of _ (by decide +kernel)) ggX4_ofMark_X5_legsAt
set_option maxRecDepth 20000 in
theorem ggX4_ofMark_X0_baseOf : GoodIn wsX4_ofMark wsX0_baseOf := goodIn_r _ [16, 17, 18, 19, 66, 67, 68, 69, 70, 71, 60, 61, 62, 63, 64, 65] (by decide +kernel) (by decide +kernel)
set_option maxRecDepth 20000 in
theorem gX4_ofMark_X0_baseOf : GoodIn wsX4_ofMark (wsV RX4 78 RX0 yX0_baseOf wsX0_baseOf) := goodIn_app (goodIn_of _ (by decide +kernel)) ggX4_ofMark_X0_baseOf
def D_X4_ofMark : Md := (yX4_ofMark, cX4_ofMark, 3, (some .int), wsX4_ofMark, RX4, { frames := 3, cells := 0, slots := 0, locals := 65 })
theorem nm_X4_ofMark : nmD D_X4_ofMark 2 := ⟨rfl, by decide +kernel, by decide +kernel, by decide +kernel⟩
theorem hi_X4_ofMark_X0 : ∀ w ∈ u_ws RX0 TX0 6, w ∈ wsX4_ofMark := by decide +kernel
theorem hi_X4_ofMark_X4 : ∀ w ∈ u_ws RX4 TX4 4, w ∈ wsX4_ofMark := by decide +kernel
theorem hi_X4_ofMark_X5 : ∀ w ∈ u_ws RX5 TX5 8, w ∈ wsX4_ofMark := by decide +kernel
theorem hi_X4_ofMark_X7 : ∀ w ∈ u_ws RX7 TX7 6, w ∈ wsX4_ofMark := by decide +kernel
theorem hl_X4_ofMark_19 : Cond.fieldLink RX4 19 "LevelLoops$Study" "survey" "LLevelLoops$Survey;" ∈ wsX4_ofMark := by decide +kernel
theorem hl_X4_ofMark_25 : Cond.fieldLink RX4 25 "LevelLoops$Study" "tree" "LLevelLoops$Tree;" ∈ wsX4_ofMark := by decide +kernel
theorem hl_X4_ofMark_38 : Cond.fieldLink RX4 38 "LevelLoops$Study" "heights" "LLevelLoops$Heights;" ∈ wsX4_ofMark := by decide +kernel
theorem hl_X4_ofMark_54 : Cond.fieldLink RX4 54 "LevelLoops$Survey" "known" "[I" ∈ wsX4_ofMark := by decide +kernel
theorem hl_X4_ofMark_69 : Cond.fieldLink RX4 69 "LevelLoops$Tree" "net" "[I" ∈ wsX4_ofMark := by decide +kernel
theorem hl_X4_ofMark_81 : Cond.fieldLink RX4 81 "LevelLoops$Heights" "agreeing" "[I" ∈ wsX4_ofMark := by decide +kernel
def wp_X4_ofMark (n : Nat) (x1 : Int32) (x2 : Int32) (w : Wd) (Q : Int32 → Prop) : Prop :=
  ((x2 = 0 → vp_in x1 10 ∧ Q (wi w n 1 x1.toNatClampNeg)) ∧ (x2 = 1 → wp_X0_isThere n x1 w (fun r55 => ((r55 = 0 → Q (-1000000 : Int32)) ∧ (¬ r55 = 0 → wp_X0_of n x1 w (fun r66 => Q r66))))) ∧ (x2 = 2 → vp_in x1 10 ∧ Q (wi w n 9 x1.toNatClampNeg)) ∧ (x2 = 3 → wp_X0_movement n x1 w (fun r90 => Q r90)) ∧ (x2 = 4 → wp_X5_legsAt n x1 w (fun r99 => Q r99)) ∧ (x2 = 5 → wp_X0_baseOf n x1 w (fun r108 => Q r108)) ∧ (¬ x2 = 0 → ¬ x2 = 1 → ¬ x2 = 2 → ¬ x2 = 3 → ¬ x2 = 4 → ¬ x2 = 5 → vp_in x1 10 ∧ Q (wi w n 24 x1.toNatClampNeg)))
theorem ok_X4_ofMark {G : Gt} {M : Mx} {Qf : State → Prop} {n : Nat} {x1 : Int32} {x2 : Int32} {w : Wd} {Q : Int32 → Prop} (hC : cx G D_X4_ofMark M) (he : en G M (qip w Q) Qf) (hn : n < 2) (h : wp_X4_ofMark n x1 x2 w Q) : jq G D_X4_ofMark M Qf 0 [(0, .ref (aD G n 7)), (1, .int x1), (2, .int x2)] [] w := by
  unfold wp_X4_ofMark at h
  refine jq_iload_n (k0 := 2) dX4_ofMark_0 hC rfl rfl ?_
  by_cases cd : (x2).toInt < 0 ∨ 5 < (x2).toInt
  · refine jq_tout (tgt := 112) dX4_ofMark_1 hC cd (by decide) ?_
    have h := h.2.2.2.2.2.2 (fun e => by rw [e] at cd; revert cd; decide) (fun e => by rw [e] at cd; revert cd; decide) (fun e => by rw [e] at cd; revert cd; decide) (fun e => by rw [e] at cd; revert cd; decide) (fun e => by rw [e] at cd; revert cd; decide) (fun e => by rw [e] at cd; revert cd; decide)
    refine jq_aload_n (k0 := 0) dX4_ofMark_112 hC rfl rfl ?_
    refine jq_get (k0 := 2) (n := n) (o := 7) dX4_ofMark_113 hC (cl_T (by omega) (by decide)) rfl rfl hi_X4_ofMark_X4 (by decide) hl_X4_ofMark_38 rfl rfl ?_
    refine jq_get (k0 := 1) (n := n) (o := 22) dX4_ofMark_116 hC (cl_T (by omega) (by decide)) rfl rfl hi_X4_ofMark_X0 (by decide) hl_X4_ofMark_81 rfl rfl ?_
    refine jq_iload_n (k0 := 1) dX4_ofMark_119 hC rfl rfl ?_
    obtain ⟨b120, h⟩ := h
    refine jq_iald (n := n) (o := 24) (j := x1.toNatClampNeg) dX4_ofMark_120 hC (cl_T (by omega) (by decide)) rfl b120 rfl ?_
    exact jq_iret dX4_ofMark_121 hC he rfl ⟨_, rfl, rfl, h⟩
  have cs : (x2).toInt = 0 ∨ (x2).toInt = 1 ∨ (x2).toInt = 2 ∨ (x2).toInt = 3 ∨ (x2).toInt = 4 ∨ (x2).toInt = 5 := by omega
  rcases cs with cs | cs | cs | cs | cs | cs
  · refine jq_tin (tgt := 40) (off := 39) dX4_ofMark_1 hC (fun q => cd (Or.inl q)) (fun q => cd (Or.inr q)) (by rw [cs]; rfl) (by decide) ?_
    have h := h.1 (Int32.toInt_inj.mp (cs.trans (by decide)))
    refine jq_aload_n (k0 := 0) dX4_ofMark_40 hC rfl rfl ?_
    refine jq_get (k0 := 3) (n := n) (o := 7) dX4_ofMark_41 hC (cl_T (by omega) (by decide)) rfl rfl hi_X4_ofMark_X4 (by decide) hl_X4_ofMark_19 rfl rfl ?_
    refine jq_get (k0 := 2) (n := n) (o := 0) dX4_ofMark_44 hC (cl_S (by omega) (by decide)) rfl rfl hi_X4_ofMark_X5 (by decide) hl_X4_ofMark_54 rfl rfl ?_
    refine jq_iload_n (k0 := 1) dX4_ofMark_47 hC rfl rfl ?_
    obtain ⟨b48, h⟩ := h
    refine jq_iald (n := n) (o := 1) (j := x1.toNatClampNeg) dX4_ofMark_48 hC (cl_S (by omega) (by decide)) rfl b48 rfl ?_
    exact jq_iret dX4_ofMark_49 hC he rfl ⟨_, rfl, rfl, h⟩
  · refine jq_tin (tgt := 50) (off := 49) dX4_ofMark_1 hC (fun q => cd (Or.inl q)) (fun q => cd (Or.inr q)) (by rw [cs]; rfl) (by decide) ?_
    have h := h.2.1 (Int32.toInt_inj.mp (cs.trans (by decide)))
    refine jq_aload_n (k0 := 0) dX4_ofMark_50 hC rfl rfl ?_
    refine jq_get (k0 := 2) (n := n) (o := 7) dX4_ofMark_51 hC (cl_T (by omega) (by decide)) rfl rfl hi_X4_ofMark_X4 (by decide) hl_X4_ofMark_38 rfl rfl ?_
    refine jq_iload_n (k0 := 1) dX4_ofMark_54 hC rfl rfl ?_
    refine jq_callV (As := [.int x1]) (rest := []) (n := n) (o := 22) (D' := D_X0_isThere) dX4_ofMark_55 hC (cl_T (by omega) (by decide)) rfl rfl rfl (mt_X0_isThere (by omega) h) gX4_ofMark_X0_isThere rfl ⟨rfl, rfl, Nat.le_of_ble_eq_true rfl, Nat.le_of_ble_eq_true rfl⟩ nm_X0_isThere rfl (Nat.le_of_ble_eq_true rfl) (kIp fun r55 h => ?_)
    refine jq_if_eq (tgt := 72) dX4_ofMark_58 hC (by decide) (fun c58 => ?_) (fun c58 => ?_)
    · have h := h.1 c58
      refine jq_ldc (v := (-1000000 : Int32)) dX4_ofMark_72 hC (by decide +kernel) ?_
      exact jq_iret dX4_ofMark_74 hC he rfl ⟨_, rfl, rfl, h⟩
    · have h := h.2 c58
      refine jq_aload_n (k0 := 0) dX4_ofMark_61 hC rfl rfl ?_
      refine jq_get (k0 := 2) (n := n) (o := 7) dX4_ofMark_62 hC (cl_T (by omega) (by decide)) rfl rfl hi_X4_ofMark_X4 (by decide) hl_X4_ofMark_38 rfl rfl ?_
      refine jq_iload_n (k0 := 1) dX4_ofMark_65 hC rfl rfl ?_
      refine jq_callV (As := [.int x1]) (rest := []) (n := n) (o := 22) (D' := D_X0_of) dX4_ofMark_66 hC (cl_T (by omega) (by decide)) rfl rfl rfl (mt_X0_of (by omega) h) gX4_ofMark_X0_of rfl ⟨rfl, rfl, Nat.le_of_ble_eq_true rfl, Nat.le_of_ble_eq_true rfl⟩ nm_X0_of rfl (Nat.le_of_ble_eq_true rfl) (kIp fun r66 h => ?_)
      refine jq_goto (tgt := 74) dX4_ofMark_69 hC (by decide) ?_
      exact jq_iret dX4_ofMark_74 hC he rfl ⟨_, rfl, rfl, h⟩
  · refine jq_tin (tgt := 75) (off := 74) dX4_ofMark_1 hC (fun q => cd (Or.inl q)) (fun q => cd (Or.inr q)) (by rw [cs]; rfl) (by decide) ?_
    have h := h.2.2.1 (Int32.toInt_inj.mp (cs.trans (by decide)))
    refine jq_aload_n (k0 := 0) dX4_ofMark_75 hC rfl rfl ?_
    refine jq_get (k0 := 0) (n := n) (o := 7) dX4_ofMark_76 hC (cl_T (by omega) (by decide)) rfl rfl hi_X4_ofMark_X4 (by decide) hl_X4_ofMark_25 rfl rfl ?_
    refine jq_get (k0 := 2) (n := n) (o := 8) dX4_ofMark_79 hC (cl_T (by omega) (by decide)) rfl rfl hi_X4_ofMark_X7 (by decide) hl_X4_ofMark_69 rfl rfl ?_
    refine jq_iload_n (k0 := 1) dX4_ofMark_82 hC rfl rfl ?_
    obtain ⟨b83, h⟩ := h
    refine jq_iald (n := n) (o := 9) (j := x1.toNatClampNeg) dX4_ofMark_83 hC (cl_T (by omega) (by decide)) rfl b83 rfl ?_
    exact jq_iret dX4_ofMark_84 hC he rfl ⟨_, rfl, rfl, h⟩
  · refine jq_tin (tgt := 85) (off := 84) dX4_ofMark_1 hC (fun q => cd (Or.inl q)) (fun q => cd (Or.inr q)) (by rw [cs]; rfl) (by decide) ?_
    have h := h.2.2.2.1 (Int32.toInt_inj.mp (cs.trans (by decide)))
    refine jq_aload_n (k0 := 0) dX4_ofMark_85 hC rfl rfl ?_
    refine jq_get (k0 := 2) (n := n) (o := 7) dX4_ofMark_86 hC (cl_T (by omega) (by decide)) rfl rfl hi_X4_ofMark_X4 (by decide) hl_X4_ofMark_38 rfl rfl ?_
    refine jq_iload_n (k0 := 1) dX4_ofMark_89 hC rfl rfl ?_
    refine jq_callV (As := [.int x1]) (rest := []) (n := n) (o := 22) (D' := D_X0_movement) dX4_ofMark_90 hC (cl_T (by omega) (by decide)) rfl rfl rfl (mt_X0_movement (by omega) h) gX4_ofMark_X0_movement rfl ⟨rfl, rfl, Nat.le_of_ble_eq_true rfl, Nat.le_of_ble_eq_true rfl⟩ nm_X0_movement rfl (Nat.le_of_ble_eq_true rfl) (kIp fun r90 h => ?_)
    exact jq_iret dX4_ofMark_93 hC he rfl ⟨_, rfl, rfl, h⟩
  · refine jq_tin (tgt := 94) (off := 93) dX4_ofMark_1 hC (fun q => cd (Or.inl q)) (fun q => cd (Or.inr q)) (by rw [cs]; rfl) (by decide) ?_
    have h := h.2.2.2.2.1 (Int32.toInt_inj.mp (cs.trans (by decide)))
    refine jq_aload_n (k0 := 0) dX4_ofMark_94 hC rfl rfl ?_
    refine jq_get (k0 := 3) (n := n) (o := 7) dX4_ofMark_95 hC (cl_T (by omega) (by decide)) rfl rfl hi_X4_ofMark_X4 (by decide) hl_X4_ofMark_19 rfl rfl ?_
    refine jq_iload_n (k0 := 1) dX4_ofMark_98 hC rfl rfl ?_
    refine jq_callV (As := [.int x1]) (rest := []) (n := n) (o := 0) (D' := D_X5_legsAt) dX4_ofMark_99 hC (cl_S (by omega) (by decide)) rfl rfl rfl (mt_X5_legsAt (by omega) h) gX4_ofMark_X5_legsAt rfl ⟨rfl, rfl, Nat.le_of_ble_eq_true rfl, Nat.le_of_ble_eq_true rfl⟩ nm_X5_legsAt rfl (Nat.le_of_ble_eq_true rfl) (kIp fun r99 h => ?_)
    exact jq_iret dX4_ofMark_102 hC he rfl ⟨_, rfl, rfl, h⟩
  · refine jq_tin (tgt := 103) (off := 102) dX4_ofMark_1 hC (fun q => cd (Or.inl q)) (fun q => cd (Or.inr q)) (by rw [cs]; rfl) (by decide) ?_
    have h := h.2.2.2.2.2.1 (Int32.toInt_inj.mp (cs.trans (by decide)))
    refine jq_aload_n (k0 := 0) dX4_ofMark_103 hC rfl rfl ?_
    refine jq_get (k0 := 2) (n := n) (o := 7) dX4_ofMark_104 hC (cl_T (by omega) (by decide)) rfl rfl hi_X4_ofMark_X4 (by decide) hl_X4_ofMark_38 rfl rfl ?_
    refine jq_iload_n (k0 := 1) dX4_ofMark_107 hC rfl rfl ?_
    refine jq_callV (As := [.int x1]) (rest := []) (n := n) (o := 22) (D' := D_X0_baseOf) dX4_ofMark_108 hC (cl_T (by omega) (by decide)) rfl rfl rfl (mt_X0_baseOf (by omega) h) gX4_ofMark_X0_baseOf rfl ⟨rfl, rfl, Nat.le_of_ble_eq_true rfl, Nat.le_of_ble_eq_true rfl⟩ nm_X0_baseOf rfl (Nat.le_of_ble_eq_true rfl) (kIp fun r108 h => ?_)
    exact jq_iret dX4_ofMark_111 hC he rfl ⟨_, rfl, rfl, h⟩
theorem mt_X4_ofMark {G : Gt} {n : Nat} {x1 : Int32} {x2 : Int32} {w : Wd} {Q : Int32 → Prop} (hn : n < 2) (h : wp_X4_ofMark n x1 x2 w Q) : Mt G D_X4_ofMark [.ref (aD G n 7), .int x1, .int x2] w (qip w Q) := Mt_of (by decide +kernel) rfl rfl (Nat.le_of_ble_eq_true rfl) (fun M Qf hC he => ok_X4_ofMark hC he hn h)
/-! X4.ofLeg(II)I -/
theorem dX4_ofLeg_0 : decode cX4_ofLeg 0 = .ok (.iload_n 2, 1) := by decide +kernel
theorem dX4_ofLeg_1 : decode cX4_ofLeg 1 = .ok (.tableswitch 168 0 8 #[51, 61, 71, 81, 94, 117, 130, 150, 159], 51) := by decide +kernel
theorem dX4_ofLeg_52 : decode cX4_ofLeg 52 = .ok (.aload_n 0, 1) := by decide +kernel
theorem dX4_ofLeg_53 : decode cX4_ofLeg 53 = .ok (.getfield 19, 3) := by decide +kernel
theorem dX4_ofLeg_56 : decode cX4_ofLeg 56 = .ok (.getfield 84, 3) := by decide +kernel
theorem dX4_ofLeg_59 : decode cX4_ofLeg 59 = .ok (.iload_n 1, 1) := by decide +kernel
theorem dX4_ofLeg_60 : decode cX4_ofLeg 60 = .ok (.iaload, 1) := by decide +kernel
theorem dX4_ofLeg_61 : decode cX4_ofLeg 61 = .ok (.ireturn, 1) := by decide +kernel
theorem dX4_ofLeg_62 : decode cX4_ofLeg 62 = .ok (.aload_n 0, 1) := by decide +kernel
theorem dX4_ofLeg_63 : decode cX4_ofLeg 63 = .ok (.getfield 19, 3) := by decide +kernel
theorem dX4_ofLeg_66 : decode cX4_ofLeg 66 = .ok (.getfield 87, 3) := by decide +kernel
theorem dX4_ofLeg_69 : decode cX4_ofLeg 69 = .ok (.iload_n 1, 1) := by decide +kernel
theorem dX4_ofLeg_70 : decode cX4_ofLeg 70 = .ok (.iaload, 1) := by decide +kernel
theorem dX4_ofLeg_71 : decode cX4_ofLeg 71 = .ok (.ireturn, 1) := by decide +kernel
theorem dX4_ofLeg_72 : decode cX4_ofLeg 72 = .ok (.aload_n 0, 1) := by decide +kernel
theorem dX4_ofLeg_73 : decode cX4_ofLeg 73 = .ok (.getfield 19, 3) := by decide +kernel
theorem dX4_ofLeg_76 : decode cX4_ofLeg 76 = .ok (.getfield 90, 3) := by decide +kernel
theorem dX4_ofLeg_79 : decode cX4_ofLeg 79 = .ok (.iload_n 1, 1) := by decide +kernel
theorem dX4_ofLeg_80 : decode cX4_ofLeg 80 = .ok (.iaload, 1) := by decide +kernel
theorem dX4_ofLeg_81 : decode cX4_ofLeg 81 = .ok (.ireturn, 1) := by decide +kernel
theorem dX4_ofLeg_82 : decode cX4_ofLeg 82 = .ok (.aload_n 0, 1) := by decide +kernel
theorem dX4_ofLeg_83 : decode cX4_ofLeg 83 = .ok (.getfield 19, 3) := by decide +kernel
theorem dX4_ofLeg_86 : decode cX4_ofLeg 86 = .ok (.getfield 93, 3) := by decide +kernel
theorem dX4_ofLeg_89 : decode cX4_ofLeg 89 = .ok (.iload_n 1, 1) := by decide +kernel
theorem dX4_ofLeg_90 : decode cX4_ofLeg 90 = .ok (.iaload, 1) := by decide +kernel
theorem dX4_ofLeg_91 : decode cX4_ofLeg 91 = .ok (.ldc 96, 2) := by decide +kernel
theorem dX4_ofLeg_93 : decode cX4_ofLeg 93 = .ok (.iadd, 1) := by decide +kernel
theorem dX4_ofLeg_94 : decode cX4_ofLeg 94 = .ok (.ireturn, 1) := by decide +kernel
theorem dX4_ofLeg_95 : decode cX4_ofLeg 95 = .ok (.aload_n 0, 1) := by decide +kernel
theorem dX4_ofLeg_96 : decode cX4_ofLeg 96 = .ok (.getfield 19, 3) := by decide +kernel
theorem dX4_ofLeg_99 : decode cX4_ofLeg 99 = .ok (.getfield 93, 3) := by decide +kernel
theorem dX4_ofLeg_102 : decode cX4_ofLeg 102 = .ok (.iload_n 1, 1) := by decide +kernel
theorem dX4_ofLeg_103 : decode cX4_ofLeg 103 = .ok (.iaload, 1) := by decide +kernel
theorem dX4_ofLeg_104 : decode cX4_ofLeg 104 = .ok (.aload_n 0, 1) := by decide +kernel
theorem dX4_ofLeg_105 : decode cX4_ofLeg 105 = .ok (.getfield 29, 3) := by decide +kernel
theorem dX4_ofLeg_108 : decode cX4_ofLeg 108 = .ok (.getfield 97, 3) := by decide +kernel
theorem dX4_ofLeg_111 : decode cX4_ofLeg 111 = .ok (.iload_n 1, 1) := by decide +kernel
theorem dX4_ofLeg_112 : decode cX4_ofLeg 112 = .ok (.iaload, 1) := by decide +kernel
theorem dX4_ofLeg_113 : decode cX4_ofLeg 113 = .ok (.iadd, 1) := by decide +kernel
theorem dX4_ofLeg_114 : decode cX4_ofLeg 114 = .ok (.ldc 96, 2) := by decide +kernel
theorem dX4_ofLeg_116 : decode cX4_ofLeg 116 = .ok (.iadd, 1) := by decide +kernel
theorem dX4_ofLeg_117 : decode cX4_ofLeg 117 = .ok (.ireturn, 1) := by decide +kernel
theorem dX4_ofLeg_118 : decode cX4_ofLeg 118 = .ok (.aload_n 0, 1) := by decide +kernel
theorem dX4_ofLeg_119 : decode cX4_ofLeg 119 = .ok (.getfield 29, 3) := by decide +kernel
theorem dX4_ofLeg_122 : decode cX4_ofLeg 122 = .ok (.getfield 97, 3) := by decide +kernel
theorem dX4_ofLeg_125 : decode cX4_ofLeg 125 = .ok (.iload_n 1, 1) := by decide +kernel
theorem dX4_ofLeg_126 : decode cX4_ofLeg 126 = .ok (.iaload, 1) := by decide +kernel
theorem dX4_ofLeg_127 : decode cX4_ofLeg 127 = .ok (.ldc 96, 2) := by decide +kernel
theorem dX4_ofLeg_129 : decode cX4_ofLeg 129 = .ok (.iadd, 1) := by decide +kernel
theorem dX4_ofLeg_130 : decode cX4_ofLeg 130 = .ok (.ireturn, 1) := by decide +kernel
theorem dX4_ofLeg_131 : decode cX4_ofLeg 131 = .ok (.aload_n 0, 1) := by decide +kernel
theorem dX4_ofLeg_132 : decode cX4_ofLeg 132 = .ok (.getfield 25, 3) := by decide +kernel
theorem dX4_ofLeg_135 : decode cX4_ofLeg 135 = .ok (.getfield 100, 3) := by decide +kernel
theorem dX4_ofLeg_138 : decode cX4_ofLeg 138 = .ok (.iload_n 1, 1) := by decide +kernel
theorem dX4_ofLeg_139 : decode cX4_ofLeg 139 = .ok (.invokestatic 104, 3) := by decide +kernel
theorem dX4_ofLeg_142 : decode cX4_ofLeg 142 = .ok (.ifCond .eq 7, 3) := by decide +kernel
theorem dX4_ofLeg_145 : decode cX4_ofLeg 145 = .ok (.iconst 1, 1) := by decide +kernel
theorem dX4_ofLeg_146 : decode cX4_ofLeg 146 = .ok (.goto 4, 3) := by decide +kernel
theorem dX4_ofLeg_149 : decode cX4_ofLeg 149 = .ok (.iconst 0, 1) := by decide +kernel
theorem dX4_ofLeg_150 : decode cX4_ofLeg 150 = .ok (.ireturn, 1) := by decide +kernel
theorem dX4_ofLeg_151 : decode cX4_ofLeg 151 = .ok (.aload_n 0, 1) := by decide +kernel
theorem dX4_ofLeg_152 : decode cX4_ofLeg 152 = .ok (.getfield 29, 3) := by decide +kernel
theorem dX4_ofLeg_155 : decode cX4_ofLeg 155 = .ok (.iload_n 1, 1) := by decide +kernel
theorem dX4_ofLeg_156 : decode cX4_ofLeg 156 = .ok (.invokevirtual 108, 3) := by decide +kernel
theorem dX4_ofLeg_159 : decode cX4_ofLeg 159 = .ok (.ireturn, 1) := by decide +kernel
theorem dX4_ofLeg_160 : decode cX4_ofLeg 160 = .ok (.aload_n 0, 1) := by decide +kernel
theorem dX4_ofLeg_161 : decode cX4_ofLeg 161 = .ok (.getfield 29, 3) := by decide +kernel
theorem dX4_ofLeg_164 : decode cX4_ofLeg 164 = .ok (.iload_n 1, 1) := by decide +kernel
theorem dX4_ofLeg_165 : decode cX4_ofLeg 165 = .ok (.invokevirtual 111, 3) := by decide +kernel
theorem dX4_ofLeg_168 : decode cX4_ofLeg 168 = .ok (.ireturn, 1) := by decide +kernel
theorem dX4_ofLeg_169 : decode cX4_ofLeg 169 = .ok (.aload_n 0, 1) := by decide +kernel
theorem dX4_ofLeg_170 : decode cX4_ofLeg 170 = .ok (.getfield 29, 3) := by decide +kernel
theorem dX4_ofLeg_173 : decode cX4_ofLeg 173 = .ok (.iload_n 1, 1) := by decide +kernel
theorem dX4_ofLeg_174 : decode cX4_ofLeg 174 = .ok (.invokevirtual 114, 3) := by decide +kernel
theorem dX4_ofLeg_177 : decode cX4_ofLeg 177 = .ok (.ireturn, 1) := by decide +kernel
set_option maxRecDepth 20000 in
theorem ggX4_ofLeg_X2_howManyBadWith : GoodIn wsX4_ofLeg wsX2_howManyBadWith := goodIn_r _ [29, 19, 30, 25, 11, 12, 13, 43, 44, 45, 46, 47, 48, 49, 50, 51, 52, 53, 54, 55] (by decide +kernel) (by decide +kernel)
set_option maxRecDepth 20000 in
theorem gX4_ofLeg_X2_howManyBadWith : GoodIn wsX4_ofLeg (wsV RX4 114 RX2 yX2_howManyBadWith wsX2_howManyBadWith) := goodIn_app (goodIn_of _ (by decide +kernel)) ggX4_ofLeg_X2_howManyBadWith
set_option maxRecDepth 20000 in
theorem ggX4_ofLeg_X8_isIn : GoodIn wsX4_ofLeg wsX8_isIn := goodIn_r _ [13] (by decide +kernel) (by decide +kernel)
set_option maxRecDepth 20000 in
theorem ggX4_ofLeg_X2_closedBy : GoodIn wsX4_ofLeg wsX2_closedBy := goodIn_r _ [18, 19, 20, 43, 44, 45, 46, 47, 48, 49, 50, 51, 52, 53, 54, 55] (by decide +kernel) (by decide +kernel)
set_option maxRecDepth 20000 in
theorem gX4_ofLeg_X2_closedBy : GoodIn wsX4_ofLeg (wsV RX4 108 RX2 yX2_closedBy wsX2_closedBy) := goodIn_app (goodIn_of _ (by decide +kernel)) ggX4_ofLeg_X2_closedBy
set_option maxRecDepth 20000 in
theorem ggX4_ofLeg_X2_howManyWith : GoodIn wsX4_ofLeg wsX2_howManyWith := goodIn_r _ [24, 19, 25, 11, 12, 13, 43, 44, 45, 46, 47, 48, 49, 50, 51, 52, 53, 54, 55] (by decide +kernel) (by decide +kernel)
set_option maxRecDepth 20000 in
theorem gX4_ofLeg_X2_howManyWith : GoodIn wsX4_ofLeg (wsV RX4 111 RX2 yX2_howManyWith wsX2_howManyWith) := goodIn_app (goodIn_of _ (by decide +kernel)) ggX4_ofLeg_X2_howManyWith
def D_X4_ofLeg : Md := (yX4_ofLeg, cX4_ofLeg, 3, (some .int), wsX4_ofLeg, RX4, { frames := 2, cells := 0, slots := 0, locals := 44 })
theorem nm_X4_ofLeg : nmD D_X4_ofLeg 2 := ⟨rfl, by decide +kernel, by decide +kernel, by decide +kernel⟩
theorem hi_X4_ofLeg_X2 : ∀ w ∈ u_ws RX2 TX2 13, w ∈ wsX4_ofLeg := by decide +kernel
theorem hi_X4_ofLeg_X4 : ∀ w ∈ u_ws RX4 TX4 4, w ∈ wsX4_ofLeg := by decide +kernel
theorem hi_X4_ofLeg_X5 : ∀ w ∈ u_ws RX5 TX5 8, w ∈ wsX4_ofLeg := by decide +kernel
theorem hi_X4_ofLeg_X7 : ∀ w ∈ u_ws RX7 TX7 6, w ∈ wsX4_ofLeg := by decide +kernel
theorem hl_X4_ofLeg_19 : Cond.fieldLink RX4 19 "LevelLoops$Study" "survey" "LLevelLoops$Survey;" ∈ wsX4_ofLeg := by decide +kernel
theorem hl_X4_ofLeg_25 : Cond.fieldLink RX4 25 "LevelLoops$Study" "tree" "LLevelLoops$Tree;" ∈ wsX4_ofLeg := by decide +kernel
theorem hl_X4_ofLeg_29 : Cond.fieldLink RX4 29 "LevelLoops$Study" "loops" "LLevelLoops$Loops;" ∈ wsX4_ofLeg := by decide +kernel
theorem hl_X4_ofLeg_84 : Cond.fieldLink RX4 84 "LevelLoops$Survey" "from" "[I" ∈ wsX4_ofLeg := by decide +kernel
theorem hl_X4_ofLeg_87 : Cond.fieldLink RX4 87 "LevelLoops$Survey" "to" "[I" ∈ wsX4_ofLeg := by decide +kernel
theorem hl_X4_ofLeg_90 : Cond.fieldLink RX4 90 "LevelLoops$Survey" "length" "[I" ∈ wsX4_ofLeg := by decide +kernel
theorem hl_X4_ofLeg_93 : Cond.fieldLink RX4 93 "LevelLoops$Survey" "difference" "[I" ∈ wsX4_ofLeg := by decide +kernel
theorem hl_X4_ofLeg_97 : Cond.fieldLink RX4 97 "LevelLoops$Loops" "correction" "[I" ∈ wsX4_ofLeg := by decide +kernel
theorem hl_X4_ofLeg_100 : Cond.fieldLink RX4 100 "LevelLoops$Tree" "legs" "I" ∈ wsX4_ofLeg := by decide +kernel
def wp_X4_ofLeg (n : Nat) (x1 : Int32) (x2 : Int32) (w : Wd) (Q : Int32 → Prop) : Prop :=
  ((x2 = 0 → vp_in x1 20 ∧ Q (wi w n 2 x1.toNatClampNeg)) ∧ (x2 = 1 → vp_in x1 20 ∧ Q (wi w n 3 x1.toNatClampNeg)) ∧ (x2 = 2 → vp_in x1 20 ∧ Q (wi w n 5 x1.toNatClampNeg)) ∧ (x2 = 3 → vp_in x1 20 ∧ Q ((wi w n 4 x1.toNatClampNeg) + (100000 : Int32))) ∧ (x2 = 4 → vp_in x1 20 ∧ vp_in x1 20 ∧ Q (((wi w n 4 x1.toNatClampNeg) + (wi w n 13 x1.toNatClampNeg)) + (100000 : Int32))) ∧ (x2 = 5 → vp_in x1 20 ∧ Q ((wi w n 13 x1.toNatClampNeg) + (100000 : Int32))) ∧ (x2 = 6 → wp_X8_isIn (wi w n 8 0) x1 (fun r139 => ((r139 = 0 → Q (0 : Int32)) ∧ (¬ r139 = 0 → Q (1 : Int32))))) ∧ (x2 = 7 → wp_X2_closedBy n x1 w (fun r156 => Q r156)) ∧ (x2 = 8 → wp_X2_howManyWith n x1 w (fun r165 => Q r165)) ∧ (¬ x2 = 0 → ¬ x2 = 1 → ¬ x2 = 2 → ¬ x2 = 3 → ¬ x2 = 4 → ¬ x2 = 5 → ¬ x2 = 6 → ¬ x2 = 7 → ¬ x2 = 8 → wp_X2_howManyBadWith n x1 w (fun r174 => Q r174)))
theorem ok_X4_ofLeg {G : Gt} {M : Mx} {Qf : State → Prop} {n : Nat} {x1 : Int32} {x2 : Int32} {w : Wd} {Q : Int32 → Prop} (hC : cx G D_X4_ofLeg M) (he : en G M (qip w Q) Qf) (hn : n < 2) (h : wp_X4_ofLeg n x1 x2 w Q) : jq G D_X4_ofLeg M Qf 0 [(0, .ref (aD G n 7)), (1, .int x1), (2, .int x2)] [] w := by
  unfold wp_X4_ofLeg at h
  refine jq_iload_n (k0 := 2) dX4_ofLeg_0 hC rfl rfl ?_
  by_cases cd : (x2).toInt < 0 ∨ 8 < (x2).toInt
  · refine jq_tout (tgt := 169) dX4_ofLeg_1 hC cd (by decide) ?_
    have h := h.2.2.2.2.2.2.2.2.2 (fun e => by rw [e] at cd; revert cd; decide) (fun e => by rw [e] at cd; revert cd; decide) (fun e => by rw [e] at cd; revert cd; decide) (fun e => by rw [e] at cd; revert cd; decide) (fun e => by rw [e] at cd; revert cd; decide) (fun e => by rw [e] at cd; revert cd; decide) (fun e => by rw [e] at cd; revert cd; decide) (fun e => by rw [e] at cd; revert cd; decide) (fun e => by rw [e] at cd; revert cd; decide)
    refine jq_aload_n (k0 := 0) dX4_ofLeg_169 hC rfl rfl ?_
    refine jq_get (k0 := 1) (n := n) (o := 7) dX4_ofLeg_170 hC (cl_T (by omega) (by decide)) rfl rfl hi_X4_ofLeg_X4 (by decide) hl_X4_ofLeg_29 rfl rfl ?_
    refine jq_iload_n (k0 := 1) dX4_ofLeg_173 hC rfl rfl ?_
    refine jq_callV (As := [.int x1]) (rest := []) (n := n) (o := 12) (D' := D_X2_howManyBadWith) dX4_ofLeg_174 hC (cl_T (by omega) (by decide)) rfl rfl rfl (mt_X2_howManyBadWith (by omega) h) gX4_ofLeg_X2_howManyBadWith rfl ⟨rfl, rfl, Nat.le_of_ble_eq_true rfl, Nat.le_of_ble_eq_true rfl⟩ nm_X2_howManyBadWith rfl (Nat.le_of_ble_eq_true rfl) (kIp fun r174 h => ?_)
    exact jq_iret dX4_ofLeg_177 hC he rfl ⟨_, rfl, rfl, h⟩
  have cs : (x2).toInt = 0 ∨ (x2).toInt = 1 ∨ (x2).toInt = 2 ∨ (x2).toInt = 3 ∨ (x2).toInt = 4 ∨ (x2).toInt = 5 ∨ (x2).toInt = 6 ∨ (x2).toInt = 7 ∨ (x2).toInt = 8 := by omega
  rcases cs with cs | cs | cs | cs | cs | cs | cs | cs | cs
  · refine jq_tin (tgt := 52) (off := 51) dX4_ofLeg_1 hC (fun q => cd (Or.inl q)) (fun q => cd (Or.inr q)) (by rw [cs]; rfl) (by decide) ?_
    have h := h.1 (Int32.toInt_inj.mp (cs.trans (by decide)))
    refine jq_aload_n (k0 := 0) dX4_ofLeg_52 hC rfl rfl ?_
    refine jq_get (k0 := 3) (n := n) (o := 7) dX4_ofLeg_53 hC (cl_T (by omega) (by decide)) rfl rfl hi_X4_ofLeg_X4 (by decide) hl_X4_ofLeg_19 rfl rfl ?_
    refine jq_get (k0 := 3) (n := n) (o := 0) dX4_ofLeg_56 hC (cl_S (by omega) (by decide)) rfl rfl hi_X4_ofLeg_X5 (by decide) hl_X4_ofLeg_84 rfl rfl ?_
    refine jq_iload_n (k0 := 1) dX4_ofLeg_59 hC rfl rfl ?_
    obtain ⟨b60, h⟩ := h
    refine jq_iald (n := n) (o := 2) (j := x1.toNatClampNeg) dX4_ofLeg_60 hC (cl_S (by omega) (by decide)) rfl b60 rfl ?_
    exact jq_iret dX4_ofLeg_61 hC he rfl ⟨_, rfl, rfl, h⟩
  · refine jq_tin (tgt := 62) (off := 61) dX4_ofLeg_1 hC (fun q => cd (Or.inl q)) (fun q => cd (Or.inr q)) (by rw [cs]; rfl) (by decide) ?_
    have h := h.2.1 (Int32.toInt_inj.mp (cs.trans (by decide)))
    refine jq_aload_n (k0 := 0) dX4_ofLeg_62 hC rfl rfl ?_
    refine jq_get (k0 := 3) (n := n) (o := 7) dX4_ofLeg_63 hC (cl_T (by omega) (by decide)) rfl rfl hi_X4_ofLeg_X4 (by decide) hl_X4_ofLeg_19 rfl rfl ?_
    refine jq_get (k0 := 4) (n := n) (o := 0) dX4_ofLeg_66 hC (cl_S (by omega) (by decide)) rfl rfl hi_X4_ofLeg_X5 (by decide) hl_X4_ofLeg_87 rfl rfl ?_
    refine jq_iload_n (k0 := 1) dX4_ofLeg_69 hC rfl rfl ?_
    obtain ⟨b70, h⟩ := h
    refine jq_iald (n := n) (o := 3) (j := x1.toNatClampNeg) dX4_ofLeg_70 hC (cl_S (by omega) (by decide)) rfl b70 rfl ?_
    exact jq_iret dX4_ofLeg_71 hC he rfl ⟨_, rfl, rfl, h⟩
  · refine jq_tin (tgt := 72) (off := 71) dX4_ofLeg_1 hC (fun q => cd (Or.inl q)) (fun q => cd (Or.inr q)) (by rw [cs]; rfl) (by decide) ?_
    have h := h.2.2.1 (Int32.toInt_inj.mp (cs.trans (by decide)))
    refine jq_aload_n (k0 := 0) dX4_ofLeg_72 hC rfl rfl ?_
    refine jq_get (k0 := 3) (n := n) (o := 7) dX4_ofLeg_73 hC (cl_T (by omega) (by decide)) rfl rfl hi_X4_ofLeg_X4 (by decide) hl_X4_ofLeg_19 rfl rfl ?_
    refine jq_get (k0 := 6) (n := n) (o := 0) dX4_ofLeg_76 hC (cl_S (by omega) (by decide)) rfl rfl hi_X4_ofLeg_X5 (by decide) hl_X4_ofLeg_90 rfl rfl ?_
    refine jq_iload_n (k0 := 1) dX4_ofLeg_79 hC rfl rfl ?_
    obtain ⟨b80, h⟩ := h
    refine jq_iald (n := n) (o := 5) (j := x1.toNatClampNeg) dX4_ofLeg_80 hC (cl_S (by omega) (by decide)) rfl b80 rfl ?_
    exact jq_iret dX4_ofLeg_81 hC he rfl ⟨_, rfl, rfl, h⟩
  · refine jq_tin (tgt := 82) (off := 81) dX4_ofLeg_1 hC (fun q => cd (Or.inl q)) (fun q => cd (Or.inr q)) (by rw [cs]; rfl) (by decide) ?_
    have h := h.2.2.2.1 (Int32.toInt_inj.mp (cs.trans (by decide)))
    refine jq_aload_n (k0 := 0) dX4_ofLeg_82 hC rfl rfl ?_
    refine jq_get (k0 := 3) (n := n) (o := 7) dX4_ofLeg_83 hC (cl_T (by omega) (by decide)) rfl rfl hi_X4_ofLeg_X4 (by decide) hl_X4_ofLeg_19 rfl rfl ?_
    refine jq_get (k0 := 5) (n := n) (o := 0) dX4_ofLeg_86 hC (cl_S (by omega) (by decide)) rfl rfl hi_X4_ofLeg_X5 (by decide) hl_X4_ofLeg_93 rfl rfl ?_
    refine jq_iload_n (k0 := 1) dX4_ofLeg_89 hC rfl rfl ?_
    obtain ⟨b90, h⟩ := h
    refine jq_iald (n := n) (o := 4) (j := x1.toNatClampNeg) dX4_ofLeg_90 hC (cl_S (by omega) (by decide)) rfl b90 rfl ?_
    refine jq_ldc (v := (100000 : Int32)) dX4_ofLeg_91 hC (by decide +kernel) ?_
    refine jq_iadd dX4_ofLeg_93 hC ?_
    exact jq_iret dX4_ofLeg_94 hC he rfl ⟨_, rfl, rfl, h⟩
  · refine jq_tin (tgt := 95) (off := 94) dX4_ofLeg_1 hC (fun q => cd (Or.inl q)) (fun q => cd (Or.inr q)) (by rw [cs]; rfl) (by decide) ?_
    have h := h.2.2.2.2.1 (Int32.toInt_inj.mp (cs.trans (by decide)))
    refine jq_aload_n (k0 := 0) dX4_ofLeg_95 hC rfl rfl ?_
    refine jq_get (k0 := 3) (n := n) (o := 7) dX4_ofLeg_96 hC (cl_T (by omega) (by decide)) rfl rfl hi_X4_ofLeg_X4 (by decide) hl_X4_ofLeg_19 rfl rfl ?_
    refine jq_get (k0 := 5) (n := n) (o := 0) dX4_ofLeg_99 hC (cl_S (by omega) (by decide)) rfl rfl hi_X4_ofLeg_X5 (by decide) hl_X4_ofLeg_93 rfl rfl ?_
    refine jq_iload_n (k0 := 1) dX4_ofLeg_102 hC rfl rfl ?_
    obtain ⟨b103, h⟩ := h
    refine jq_iald (n := n) (o := 4) (j := x1.toNatClampNeg) dX4_ofLeg_103 hC (cl_S (by omega) (by decide)) rfl b103 rfl ?_
    refine jq_aload_n (k0 := 0) dX4_ofLeg_104 hC rfl rfl ?_
    refine jq_get (k0 := 1) (n := n) (o := 7) dX4_ofLeg_105 hC (cl_T (by omega) (by decide)) rfl rfl hi_X4_ofLeg_X4 (by decide) hl_X4_ofLeg_29 rfl rfl ?_
    refine jq_get (k0 := 1) (n := n) (o := 12) dX4_ofLeg_108 hC (cl_T (by omega) (by decide)) rfl rfl hi_X4_ofLeg_X2 (by decide) hl_X4_ofLeg_97 rfl rfl ?_
    refine jq_iload_n (k0 := 1) dX4_ofLeg_111 hC rfl rfl ?_
    obtain ⟨b112, h⟩ := h
    refine jq_iald (n := n) (o := 13) (j := x1.toNatClampNeg) dX4_ofLeg_112 hC (cl_T (by omega) (by decide)) rfl b112 rfl ?_
    refine jq_iadd dX4_ofLeg_113 hC ?_
    refine jq_ldc (v := (100000 : Int32)) dX4_ofLeg_114 hC (by decide +kernel) ?_
    refine jq_iadd dX4_ofLeg_116 hC ?_
    exact jq_iret dX4_ofLeg_117 hC he rfl ⟨_, rfl, rfl, h⟩
  · refine jq_tin (tgt := 118) (off := 117) dX4_ofLeg_1 hC (fun q => cd (Or.inl q)) (fun q => cd (Or.inr q)) (by rw [cs]; rfl) (by decide) ?_
    have h := h.2.2.2.2.2.1 (Int32.toInt_inj.mp (cs.trans (by decide)))
    refine jq_aload_n (k0 := 0) dX4_ofLeg_118 hC rfl rfl ?_
    refine jq_get (k0 := 1) (n := n) (o := 7) dX4_ofLeg_119 hC (cl_T (by omega) (by decide)) rfl rfl hi_X4_ofLeg_X4 (by decide) hl_X4_ofLeg_29 rfl rfl ?_
    refine jq_get (k0 := 1) (n := n) (o := 12) dX4_ofLeg_122 hC (cl_T (by omega) (by decide)) rfl rfl hi_X4_ofLeg_X2 (by decide) hl_X4_ofLeg_97 rfl rfl ?_
    refine jq_iload_n (k0 := 1) dX4_ofLeg_125 hC rfl rfl ?_
    obtain ⟨b126, h⟩ := h
    refine jq_iald (n := n) (o := 13) (j := x1.toNatClampNeg) dX4_ofLeg_126 hC (cl_T (by omega) (by decide)) rfl b126 rfl ?_
    refine jq_ldc (v := (100000 : Int32)) dX4_ofLeg_127 hC (by decide +kernel) ?_
    refine jq_iadd dX4_ofLeg_129 hC ?_
    exact jq_iret dX4_ofLeg_130 hC he rfl ⟨_, rfl, rfl, h⟩
  · refine jq_tin (tgt := 131) (off := 130) dX4_ofLeg_1 hC (fun q => cd (Or.inl q)) (fun q => cd (Or.inr q)) (by rw [cs]; rfl) (by decide) ?_
    have h := h.2.2.2.2.2.2.1 (Int32.toInt_inj.mp (cs.trans (by decide)))
    refine jq_aload_n (k0 := 0) dX4_ofLeg_131 hC rfl rfl ?_
    refine jq_get (k0 := 0) (n := n) (o := 7) dX4_ofLeg_132 hC (cl_T (by omega) (by decide)) rfl rfl hi_X4_ofLeg_X4 (by decide) hl_X4_ofLeg_25 rfl rfl ?_
    refine jq_get (k0 := 0) (n := n) (o := 8) dX4_ofLeg_135 hC (cl_T (by omega) (by decide)) rfl rfl hi_X4_ofLeg_X7 (by decide) hl_X4_ofLeg_100 rfl rfl ?_
    refine jq_iload_n (k0 := 1) dX4_ofLeg_138 hC rfl rfl ?_
    refine jq_callSN (As := [.int (wi w n 8 0), .int x1]) (rest := []) (D' := D_X8_isIn) (host := "LevelLoops") dX4_ofLeg_139 hC (mt_X8_isIn h) ggX4_ofLeg_X8_isIn rfl (by decide +kernel) (by decide +kernel) (by decide +kernel) ⟨rfl, rfl, Nat.le_of_ble_eq_true rfl, Nat.le_of_ble_eq_true rfl⟩ nm_X8_isIn rfl (Nat.le_of_ble_eq_true rfl) (kIp fun r139 h => ?_)
    refine jq_if_eq (tgt := 149) dX4_ofLeg_142 hC (by decide) (fun c142 => ?_) (fun c142 => ?_)
    · have h := h.1 c142
      refine jq_iconst (v := (0 : Int32)) dX4_ofLeg_149 hC (by decide) ?_
      exact jq_iret dX4_ofLeg_150 hC he rfl ⟨_, rfl, rfl, h⟩
    · have h := h.2 c142
      refine jq_iconst (v := (1 : Int32)) dX4_ofLeg_145 hC (by decide) ?_
      refine jq_goto (tgt := 150) dX4_ofLeg_146 hC (by decide) ?_
      exact jq_iret dX4_ofLeg_150 hC he rfl ⟨_, rfl, rfl, h⟩
  · refine jq_tin (tgt := 151) (off := 150) dX4_ofLeg_1 hC (fun q => cd (Or.inl q)) (fun q => cd (Or.inr q)) (by rw [cs]; rfl) (by decide) ?_
    have h := h.2.2.2.2.2.2.2.1 (Int32.toInt_inj.mp (cs.trans (by decide)))
    refine jq_aload_n (k0 := 0) dX4_ofLeg_151 hC rfl rfl ?_
    refine jq_get (k0 := 1) (n := n) (o := 7) dX4_ofLeg_152 hC (cl_T (by omega) (by decide)) rfl rfl hi_X4_ofLeg_X4 (by decide) hl_X4_ofLeg_29 rfl rfl ?_
    refine jq_iload_n (k0 := 1) dX4_ofLeg_155 hC rfl rfl ?_
    refine jq_callV (As := [.int x1]) (rest := []) (n := n) (o := 12) (D' := D_X2_closedBy) dX4_ofLeg_156 hC (cl_T (by omega) (by decide)) rfl rfl rfl (mt_X2_closedBy (by omega) h) gX4_ofLeg_X2_closedBy rfl ⟨rfl, rfl, Nat.le_of_ble_eq_true rfl, Nat.le_of_ble_eq_true rfl⟩ nm_X2_closedBy rfl (Nat.le_of_ble_eq_true rfl) (kIp fun r156 h => ?_)
    exact jq_iret dX4_ofLeg_159 hC he rfl ⟨_, rfl, rfl, h⟩
  · refine jq_tin (tgt := 160) (off := 159) dX4_ofLeg_1 hC (fun q => cd (Or.inl q)) (fun q => cd (Or.inr q)) (by rw [cs]; rfl) (by decide) ?_
    have h := h.2.2.2.2.2.2.2.2.1 (Int32.toInt_inj.mp (cs.trans (by decide)))
    refine jq_aload_n (k0 := 0) dX4_ofLeg_160 hC rfl rfl ?_
    refine jq_get (k0 := 1) (n := n) (o := 7) dX4_ofLeg_161 hC (cl_T (by omega) (by decide)) rfl rfl hi_X4_ofLeg_X4 (by decide) hl_X4_ofLeg_29 rfl rfl ?_
    refine jq_iload_n (k0 := 1) dX4_ofLeg_164 hC rfl rfl ?_
    refine jq_callV (As := [.int x1]) (rest := []) (n := n) (o := 12) (D' := D_X2_howManyWith) dX4_ofLeg_165 hC (cl_T (by omega) (by decide)) rfl rfl rfl (mt_X2_howManyWith (by omega) h) gX4_ofLeg_X2_howManyWith rfl ⟨rfl, rfl, Nat.le_of_ble_eq_true rfl, Nat.le_of_ble_eq_true rfl⟩ nm_X2_howManyWith rfl (Nat.le_of_ble_eq_true rfl) (kIp fun r165 h => ?_)
    exact jq_iret dX4_ofLeg_168 hC he rfl ⟨_, rfl, rfl, h⟩
theorem mt_X4_ofLeg {G : Gt} {n : Nat} {x1 : Int32} {x2 : Int32} {w : Wd} {Q : Int32 → Prop} (hn : n < 2) (h : wp_X4_ofLeg n x1 x2 w Q) : Mt G D_X4_ofLeg [.ref (aD G n 7), .int x1, .int x2] w (qip w Q) := Mt_of (by decide +kernel) rfl rfl (Nat.le_of_ble_eq_true rfl) (fun M Qf hC he => ok_X4_ofLeg hC he hn h)
/-! X4.ofWay(III)I -/
theorem dX4_ofWay_0 : decode cX4_ofWay 0 = .ok (.aload_n 0, 1) := by decide +kernel
theorem dX4_ofWay_1 : decode cX4_ofWay 1 = .ok (.getfield 25, 3) := by decide +kernel
theorem dX4_ofWay_4 : decode cX4_ofWay 4 = .ok (.getfield 69, 3) := by decide +kernel
theorem dX4_ofWay_7 : decode cX4_ofWay 7 = .ok (.iload_n 1, 1) := by decide +kernel
theorem dX4_ofWay_8 : decode cX4_ofWay 8 = .ok (.iaload, 1) := by decide +kernel
theorem dX4_ofWay_9 : decode cX4_ofWay 9 = .ok (.aload_n 0, 1) := by decide +kernel
theorem dX4_ofWay_10 : decode cX4_ofWay 10 = .ok (.getfield 25, 3) := by decide +kernel
theorem dX4_ofWay_13 : decode cX4_ofWay 13 = .ok (.getfield 69, 3) := by decide +kernel
theorem dX4_ofWay_16 : decode cX4_ofWay 16 = .ok (.iload_n 2, 1) := by decide +kernel
theorem dX4_ofWay_17 : decode cX4_ofWay 17 = .ok (.iaload, 1) := by decide +kernel
theorem dX4_ofWay_18 : decode cX4_ofWay 18 = .ok (.if_icmp .eq 5, 3) := by decide +kernel
theorem dX4_ofWay_21 : decode cX4_ofWay 21 = .ok (.iconst (-1), 1) := by decide +kernel
theorem dX4_ofWay_22 : decode cX4_ofWay 22 = .ok (.ireturn, 1) := by decide +kernel
theorem dX4_ofWay_23 : decode cX4_ofWay 23 = .ok (.aload_n 0, 1) := by decide +kernel
theorem dX4_ofWay_24 : decode cX4_ofWay 24 = .ok (.getfield 25, 3) := by decide +kernel
theorem dX4_ofWay_27 : decode cX4_ofWay 27 = .ok (.iload_n 1, 1) := by decide +kernel
theorem dX4_ofWay_28 : decode cX4_ofWay 28 = .ok (.iload_n 2, 1) := by decide +kernel
theorem dX4_ofWay_29 : decode cX4_ofWay 29 = .ok (.invokevirtual 117, 3) := by decide +kernel
theorem dX4_ofWay_32 : decode cX4_ofWay 32 = .ok (.istore 4, 2) := by decide +kernel
theorem dX4_ofWay_34 : decode cX4_ofWay 34 = .ok (.iload_n 3, 1) := by decide +kernel
theorem dX4_ofWay_35 : decode cX4_ofWay 35 = .ok (.tableswitch 64 0 2 #[25, 31, 41], 25) := by decide +kernel
theorem dX4_ofWay_60 : decode cX4_ofWay 60 = .ok (.iload 4, 2) := by decide +kernel
theorem dX4_ofWay_62 : decode cX4_ofWay 62 = .ok (.invokestatic 121, 3) := by decide +kernel
theorem dX4_ofWay_65 : decode cX4_ofWay 65 = .ok (.ireturn, 1) := by decide +kernel
theorem dX4_ofWay_66 : decode cX4_ofWay 66 = .ok (.aload_n 0, 1) := by decide +kernel
theorem dX4_ofWay_67 : decode cX4_ofWay 67 = .ok (.getfield 19, 3) := by decide +kernel
theorem dX4_ofWay_70 : decode cX4_ofWay 70 = .ok (.iload 4, 2) := by decide +kernel
theorem dX4_ofWay_72 : decode cX4_ofWay 72 = .ok (.invokevirtual 126, 3) := by decide +kernel
theorem dX4_ofWay_75 : decode cX4_ofWay 75 = .ok (.ireturn, 1) := by decide +kernel
theorem dX4_ofWay_76 : decode cX4_ofWay 76 = .ok (.aload_n 0, 1) := by decide +kernel
theorem dX4_ofWay_77 : decode cX4_ofWay 77 = .ok (.getfield 38, 3) := by decide +kernel
theorem dX4_ofWay_80 : decode cX4_ofWay 80 = .ok (.getfield 129, 3) := by decide +kernel
theorem dX4_ofWay_83 : decode cX4_ofWay 83 = .ok (.iload_n 2, 1) := by decide +kernel
theorem dX4_ofWay_84 : decode cX4_ofWay 84 = .ok (.iaload, 1) := by decide +kernel
theorem dX4_ofWay_85 : decode cX4_ofWay 85 = .ok (.aload_n 0, 1) := by decide +kernel
theorem dX4_ofWay_86 : decode cX4_ofWay 86 = .ok (.getfield 38, 3) := by decide +kernel
theorem dX4_ofWay_89 : decode cX4_ofWay 89 = .ok (.getfield 129, 3) := by decide +kernel
theorem dX4_ofWay_92 : decode cX4_ofWay 92 = .ok (.iload_n 1, 1) := by decide +kernel
theorem dX4_ofWay_93 : decode cX4_ofWay 93 = .ok (.iaload, 1) := by decide +kernel
theorem dX4_ofWay_94 : decode cX4_ofWay 94 = .ok (.isub, 1) := by decide +kernel
theorem dX4_ofWay_95 : decode cX4_ofWay 95 = .ok (.ldc 132, 2) := by decide +kernel
theorem dX4_ofWay_97 : decode cX4_ofWay 97 = .ok (.iadd, 1) := by decide +kernel
theorem dX4_ofWay_98 : decode cX4_ofWay 98 = .ok (.ireturn, 1) := by decide +kernel
theorem dX4_ofWay_99 : decode cX4_ofWay 99 = .ok (.aload_n 0, 1) := by decide +kernel
theorem dX4_ofWay_100 : decode cX4_ofWay 100 = .ok (.getfield 25, 3) := by decide +kernel
theorem dX4_ofWay_103 : decode cX4_ofWay 103 = .ok (.iload_n 1, 1) := by decide +kernel
theorem dX4_ofWay_104 : decode cX4_ofWay 104 = .ok (.iload 4, 2) := by decide +kernel
theorem dX4_ofWay_106 : decode cX4_ofWay 106 = .ok (.invokevirtual 133, 3) := by decide +kernel
theorem dX4_ofWay_109 : decode cX4_ofWay 109 = .ok (.ireturn, 1) := by decide +kernel
set_option maxRecDepth 20000 in
theorem ggX4_ofWay_X7_legAt : GoodIn wsX4_ofWay wsX7_legAt := goodIn_r _ [33, 34, 35, 36, 37, 27, 28, 29, 42, 43, 44, 45, 46, 47, 54, 55, 56, 57, 58, 59, 60, 61] (by decide +kernel) (by decide +kernel)
set_option maxRecDepth 20000 in
theorem gX4_ofWay_X7_legAt : GoodIn wsX4_ofWay (wsV RX4 133 RX7 yX7_legAt wsX7_legAt) := goodIn_app (goodIn_of _ (by decide +kernel)) ggX4_ofWay_X7_legAt
set_option maxRecDepth 20000 in
theorem ggX4_ofWay_J6_bitCount_0f7a4 : GoodIn wsX4_ofWay wsJ6_bitCount_0f7a4 := goodIn_r _ [16, 17, 18, 19] (by decide +kernel) (by decide +kernel)
set_option maxRecDepth 20000 in
theorem gX4_ofWay_J6_bitCount_0f7a4 : GoodIn wsX4_ofWay (va_wsS RX4 121 yJ6_bitCount_0f7a4 wsJ6_bitCount_0f7a4) := goodIn_app (goodIn_of _ (by decide +kernel)) ggX4_ofWay_J6_bitCount_0f7a4
set_option maxRecDepth 20000 in
theorem ggX4_ofWay_X5_lengthOf : GoodIn wsX4_ofWay wsX5_lengthOf := goodIn_r _ [24, 25, 26, 27, 28, 29, 54, 55, 56, 57, 58, 59, 60, 61] (by decide +kernel) (by decide +kernel)
set_option maxRecDepth 20000 in
theorem gX4_ofWay_X5_lengthOf : GoodIn wsX4_ofWay (wsV RX4 126 RX5 yX5_lengthOf wsX5_lengthOf) := goodIn_app (goodIn_of _ (by decide +kernel)) ggX4_ofWay_X5_lengthOf
set_option maxRecDepth 20000 in
theorem ggX4_ofWay_X7_between : GoodIn wsX4_ofWay wsX7_between := goodIn_r _ [11, 12, 42, 43, 44, 45, 46, 47] (by decide +kernel) (by decide +kernel)
set_option maxRecDepth 20000 in
theorem gX4_ofWay_X7_between : GoodIn wsX4_ofWay (wsV RX4 117 RX7 yX7_between wsX7_between) := goodIn_app (goodIn_of _ (by decide +kernel)) ggX4_ofWay_X7_between
def D_X4_ofWay : Md := (yX4_ofWay, cX4_ofWay, 5, (some .int), wsX4_ofWay, RX4, { frames := 2, cells := 0, slots := 0, locals := 44 })
theorem nm_X4_ofWay : nmD D_X4_ofWay 3 := ⟨rfl, by decide +kernel, by decide +kernel, by decide +kernel⟩
theorem hi_X4_ofWay_X0 : ∀ w ∈ u_ws RX0 TX0 6, w ∈ wsX4_ofWay := by decide +kernel
theorem hi_X4_ofWay_X4 : ∀ w ∈ u_ws RX4 TX4 4, w ∈ wsX4_ofWay := by decide +kernel
theorem hi_X4_ofWay_X7 : ∀ w ∈ u_ws RX7 TX7 6, w ∈ wsX4_ofWay := by decide +kernel
theorem hl_X4_ofWay_19 : Cond.fieldLink RX4 19 "LevelLoops$Study" "survey" "LLevelLoops$Survey;" ∈ wsX4_ofWay := by decide +kernel
theorem hl_X4_ofWay_25 : Cond.fieldLink RX4 25 "LevelLoops$Study" "tree" "LLevelLoops$Tree;" ∈ wsX4_ofWay := by decide +kernel
theorem hl_X4_ofWay_38 : Cond.fieldLink RX4 38 "LevelLoops$Study" "heights" "LLevelLoops$Heights;" ∈ wsX4_ofWay := by decide +kernel
theorem hl_X4_ofWay_69 : Cond.fieldLink RX4 69 "LevelLoops$Tree" "net" "[I" ∈ wsX4_ofWay := by decide +kernel
theorem hl_X4_ofWay_129 : Cond.fieldLink RX4 129 "LevelLoops$Heights" "rise" "[I" ∈ wsX4_ofWay := by decide +kernel
def wp_X4_ofWay (n : Nat) (x1 : Int32) (x2 : Int32) (x3 : Int32) (w : Wd) (Q : Int32 → Prop) : Prop :=
  vp_in x1 10 ∧ vp_in x2 10 ∧ (((wi w n 9 x1.toNatClampNeg) = (wi w n 9 x2.toNatClampNeg) → wp_X7_between n x1 x2 w (fun r29 => ((x3 = 0 → wp_J6_bitCount_0f7a4 r29 (fun r62 => Q r62)) ∧ (x3 = 1 → wp_X5_lengthOf n r29 w (fun r72 => Q r72)) ∧ (x3 = 2 → vp_in x2 10 ∧ vp_in x1 10 ∧ Q (((wi w n 23 x2.toNatClampNeg) - (wi w n 23 x1.toNatClampNeg)) + (1000000 : Int32))) ∧ (¬ x3 = 0 → ¬ x3 = 1 → ¬ x3 = 2 → wp_X7_legAt n x1 r29 w (fun r106 => Q r106))))) ∧ (¬ (wi w n 9 x1.toNatClampNeg) = (wi w n 9 x2.toNatClampNeg) → Q (-1 : Int32)))
theorem ok_X4_ofWay {G : Gt} {M : Mx} {Qf : State → Prop} {n : Nat} {x1 : Int32} {x2 : Int32} {x3 : Int32} {w : Wd} {Q : Int32 → Prop} (hC : cx G D_X4_ofWay M) (he : en G M (qip w Q) Qf) (hn : n < 2) (h : wp_X4_ofWay n x1 x2 x3 w Q) : jq G D_X4_ofWay M Qf 0 [(0, .ref (aD G n 7)), (1, .int x1), (2, .int x2), (3, .int x3)] [] w := by
  unfold wp_X4_ofWay at h
  refine jq_aload_n (k0 := 0) dX4_ofWay_0 hC rfl rfl ?_
  refine jq_get (k0 := 0) (n := n) (o := 7) dX4_ofWay_1 hC (cl_T (by omega) (by decide)) rfl rfl hi_X4_ofWay_X4 (by decide) hl_X4_ofWay_25 rfl rfl ?_
  refine jq_get (k0 := 2) (n := n) (o := 8) dX4_ofWay_4 hC (cl_T (by omega) (by decide)) rfl rfl hi_X4_ofWay_X7 (by decide) hl_X4_ofWay_69 rfl rfl ?_
  refine jq_iload_n (k0 := 1) dX4_ofWay_7 hC rfl rfl ?_
  obtain ⟨b8, h⟩ := h
  refine jq_iald (n := n) (o := 9) (j := x1.toNatClampNeg) dX4_ofWay_8 hC (cl_T (by omega) (by decide)) rfl b8 rfl ?_
  refine jq_aload_n (k0 := 0) dX4_ofWay_9 hC rfl rfl ?_
  refine jq_get (k0 := 0) (n := n) (o := 7) dX4_ofWay_10 hC (cl_T (by omega) (by decide)) rfl rfl hi_X4_ofWay_X4 (by decide) hl_X4_ofWay_25 rfl rfl ?_
  refine jq_get (k0 := 2) (n := n) (o := 8) dX4_ofWay_13 hC (cl_T (by omega) (by decide)) rfl rfl hi_X4_ofWay_X7 (by decide) hl_X4_ofWay_69 rfl rfl ?_
  refine jq_iload_n (k0 := 2) dX4_ofWay_16 hC rfl rfl ?_
  obtain ⟨b17, h⟩ := h
  refine jq_iald (n := n) (o := 9) (j := x2.toNatClampNeg) dX4_ofWay_17 hC (cl_T (by omega) (by decide)) rfl b17 rfl ?_
  refine jq_icmp_eq (tgt := 23) dX4_ofWay_18 hC (by decide) (fun c18 => ?_) (fun c18 => ?_)
  · have h := h.1 c18
    refine jq_aload_n (k0 := 0) dX4_ofWay_23 hC rfl rfl ?_
    refine jq_get (k0 := 0) (n := n) (o := 7) dX4_ofWay_24 hC (cl_T (by omega) (by decide)) rfl rfl hi_X4_ofWay_X4 (by decide) hl_X4_ofWay_25 rfl rfl ?_
    refine jq_iload_n (k0 := 1) dX4_ofWay_27 hC rfl rfl ?_
    refine jq_iload_n (k0 := 2) dX4_ofWay_28 hC rfl rfl ?_
    refine jq_callV (As := [.int x1, .int x2]) (rest := []) (n := n) (o := 8) (D' := D_X7_between) dX4_ofWay_29 hC (cl_T (by omega) (by decide)) rfl rfl rfl (mt_X7_between (by omega) h) gX4_ofWay_X7_between rfl ⟨rfl, rfl, Nat.le_of_ble_eq_true rfl, Nat.le_of_ble_eq_true rfl⟩ nm_X7_between rfl (Nat.le_of_ble_eq_true rfl) (kIp fun r29 h => ?_)
    refine jq_istore (L' := [(4, .int r29), (0, .ref (aD G n 7)), (1, .int x1), (2, .int x2), (3, .int x3)]) dX4_ofWay_32 hC (by decide) rfl ?_
    refine jq_iload_n (k0 := 4) dX4_ofWay_34 hC rfl rfl ?_
    by_cases cd : (x3).toInt < 0 ∨ 2 < (x3).toInt
    · refine jq_tout (tgt := 99) dX4_ofWay_35 hC cd (by decide) ?_
      have h := h.2.2.2 (fun e => by rw [e] at cd; revert cd; decide) (fun e => by rw [e] at cd; revert cd; decide) (fun e => by rw [e] at cd; revert cd; decide)
      refine jq_aload_n (k0 := 1) dX4_ofWay_99 hC rfl rfl ?_
      refine jq_get (k0 := 0) (n := n) (o := 7) dX4_ofWay_100 hC (cl_T (by omega) (by decide)) rfl rfl hi_X4_ofWay_X4 (by decide) hl_X4_ofWay_25 rfl rfl ?_
      refine jq_iload_n (k0 := 2) dX4_ofWay_103 hC rfl rfl ?_
      refine jq_iload (k0 := 0) dX4_ofWay_104 hC rfl ?_
      refine jq_callV (As := [.int x1, .int r29]) (rest := []) (n := n) (o := 8) (D' := D_X7_legAt) dX4_ofWay_106 hC (cl_T (by omega) (by decide)) rfl rfl rfl (mt_X7_legAt (by omega) h) gX4_ofWay_X7_legAt rfl ⟨rfl, rfl, Nat.le_of_ble_eq_true rfl, Nat.le_of_ble_eq_true rfl⟩ nm_X7_legAt rfl (Nat.le_of_ble_eq_true rfl) (kIp fun r106 h => ?_)
      exact jq_iret dX4_ofWay_109 hC he rfl ⟨_, rfl, rfl, h⟩
    have cs : (x3).toInt = 0 ∨ (x3).toInt = 1 ∨ (x3).toInt = 2 := by omega
    rcases cs with cs | cs | cs
    · refine jq_tin (tgt := 60) (off := 25) dX4_ofWay_35 hC (fun q => cd (Or.inl q)) (fun q => cd (Or.inr q)) (by rw [cs]; rfl) (by decide) ?_
      have h := h.1 (Int32.toInt_inj.mp (cs.trans (by decide)))
      refine jq_iload (k0 := 0) dX4_ofWay_60 hC rfl ?_
      refine jq_callS (As := [.int r29]) (rest := []) (D' := D_J6_bitCount_0f7a4) dX4_ofWay_62 hC (mt_J6_bitCount_0f7a4 h) gX4_ofWay_J6_bitCount_0f7a4 rfl ⟨rfl, rfl, Nat.le_of_ble_eq_true rfl, Nat.le_of_ble_eq_true rfl⟩ nm_J6_bitCount_0f7a4 rfl (Nat.le_of_ble_eq_true rfl) (kIp fun r62 h => ?_)
      exact jq_iret dX4_ofWay_65 hC he rfl ⟨_, rfl, rfl, h⟩
    · refine jq_tin (tgt := 66) (off := 31) dX4_ofWay_35 hC (fun q => cd (Or.inl q)) (fun q => cd (Or.inr q)) (by rw [cs]; rfl) (by decide) ?_
      have h := h.2.1 (Int32.toInt_inj.mp (cs.trans (by decide)))
      refine jq_aload_n (k0 := 1) dX4_ofWay_66 hC rfl rfl ?_
      refine jq_get (k0 := 3) (n := n) (o := 7) dX4_ofWay_67 hC (cl_T (by omega) (by decide)) rfl rfl hi_X4_ofWay_X4 (by decide) hl_X4_ofWay_19 rfl rfl ?_
      refine jq_iload (k0 := 0) dX4_ofWay_70 hC rfl ?_
      refine jq_callV (As := [.int r29]) (rest := []) (n := n) (o := 0) (D' := D_X5_lengthOf) dX4_ofWay_72 hC (cl_S (by omega) (by decide)) rfl rfl rfl (mt_X5_lengthOf (by omega) h) gX4_ofWay_X5_lengthOf rfl ⟨rfl, rfl, Nat.le_of_ble_eq_true rfl, Nat.le_of_ble_eq_true rfl⟩ nm_X5_lengthOf rfl (Nat.le_of_ble_eq_true rfl) (kIp fun r72 h => ?_)
      exact jq_iret dX4_ofWay_75 hC he rfl ⟨_, rfl, rfl, h⟩
    · refine jq_tin (tgt := 76) (off := 41) dX4_ofWay_35 hC (fun q => cd (Or.inl q)) (fun q => cd (Or.inr q)) (by rw [cs]; rfl) (by decide) ?_
      have h := h.2.2.1 (Int32.toInt_inj.mp (cs.trans (by decide)))
      refine jq_aload_n (k0 := 1) dX4_ofWay_76 hC rfl rfl ?_
      refine jq_get (k0 := 2) (n := n) (o := 7) dX4_ofWay_77 hC (cl_T (by omega) (by decide)) rfl rfl hi_X4_ofWay_X4 (by decide) hl_X4_ofWay_38 rfl rfl ?_
      refine jq_get (k0 := 0) (n := n) (o := 22) dX4_ofWay_80 hC (cl_T (by omega) (by decide)) rfl rfl hi_X4_ofWay_X0 (by decide) hl_X4_ofWay_129 rfl rfl ?_
      refine jq_iload_n (k0 := 3) dX4_ofWay_83 hC rfl rfl ?_
      obtain ⟨b84, h⟩ := h
      refine jq_iald (n := n) (o := 23) (j := x2.toNatClampNeg) dX4_ofWay_84 hC (cl_T (by omega) (by decide)) rfl b84 rfl ?_
      refine jq_aload_n (k0 := 1) dX4_ofWay_85 hC rfl rfl ?_
      refine jq_get (k0 := 2) (n := n) (o := 7) dX4_ofWay_86 hC (cl_T (by omega) (by decide)) rfl rfl hi_X4_ofWay_X4 (by decide) hl_X4_ofWay_38 rfl rfl ?_
      refine jq_get (k0 := 0) (n := n) (o := 22) dX4_ofWay_89 hC (cl_T (by omega) (by decide)) rfl rfl hi_X4_ofWay_X0 (by decide) hl_X4_ofWay_129 rfl rfl ?_
      refine jq_iload_n (k0 := 2) dX4_ofWay_92 hC rfl rfl ?_
      obtain ⟨b93, h⟩ := h
      refine jq_iald (n := n) (o := 23) (j := x1.toNatClampNeg) dX4_ofWay_93 hC (cl_T (by omega) (by decide)) rfl b93 rfl ?_
      refine jq_isub dX4_ofWay_94 hC ?_
      refine jq_ldc (v := (1000000 : Int32)) dX4_ofWay_95 hC (by decide +kernel) ?_
      refine jq_iadd dX4_ofWay_97 hC ?_
      exact jq_iret dX4_ofWay_98 hC he rfl ⟨_, rfl, rfl, h⟩
  · have h := h.2 c18
    refine jq_iconst (v := (-1 : Int32)) dX4_ofWay_21 hC (by decide) ?_
    exact jq_iret dX4_ofWay_22 hC he rfl ⟨_, rfl, rfl, h⟩
theorem mt_X4_ofWay {G : Gt} {n : Nat} {x1 : Int32} {x2 : Int32} {x3 : Int32} {w : Wd} {Q : Int32 → Prop} (hn : n < 2) (h : wp_X4_ofWay n x1 x2 x3 w Q) : Mt G D_X4_ofWay [.ref (aD G n 7), .int x1, .int x2, .int x3] w (qip w Q) := Mt_of (by decide +kernel) rfl rfl (Nat.le_of_ble_eq_true rfl) (fun M Qf hC he => ok_X4_ofWay hC he hn h)
