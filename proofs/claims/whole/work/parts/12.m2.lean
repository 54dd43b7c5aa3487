/-! X2.goneAlong(I)I -/
theorem dX2_goneAlong_0 : decode cX2_goneAlong 0 = .ok (.iconst 0, 1) := by decide +kernel
theorem dX2_goneAlong_1 : decode cX2_goneAlong 1 = .ok (.istore_n 2, 1) := by decide +kernel
theorem dX2_goneAlong_2 : decode cX2_goneAlong 2 = .ok (.iconst 0, 1) := by decide +kernel
theorem dX2_goneAlong_3 : decode cX2_goneAlong 3 = .ok (.istore_n 3, 1) := by decide +kernel
theorem dX2_goneAlong_4 : decode cX2_goneAlong 4 = .ok (.iload_n 3, 1) := by decide +kernel
theorem dX2_goneAlong_5 : decode cX2_goneAlong 5 = .ok (.aload_n 0, 1) := by decide +kernel
theorem dX2_goneAlong_6 : decode cX2_goneAlong 6 = .ok (.getfield 39, 3) := by decide +kernel
theorem dX2_goneAlong_9 : decode cX2_goneAlong 9 = .ok (.getfield 54, 3) := by decide +kernel
theorem dX2_goneAlong_12 : decode cX2_goneAlong 12 = .ok (.if_icmp .ge 64, 3) := by decide +kernel
theorem dX2_goneAlong_15 : decode cX2_goneAlong 15 = .ok (.aload_n 0, 1) := by decide +kernel
theorem dX2_goneAlong_16 : decode cX2_goneAlong 16 = .ok (.getfield 18, 3) := by decide +kernel
theorem dX2_goneAlong_19 : decode cX2_goneAlong 19 = .ok (.iload_n 1, 1) := by decide +kernel
theorem dX2_goneAlong_20 : decode cX2_goneAlong 20 = .ok (.iaload, 1) := by decide +kernel
theorem dX2_goneAlong_21 : decode cX2_goneAlong 21 = .ok (.iload_n 3, 1) := by decide +kernel
theorem dX2_goneAlong_22 : decode cX2_goneAlong 22 = .ok (.invokestatic 61, 3) := by decide +kernel
theorem dX2_goneAlong_25 : decode cX2_goneAlong 25 = .ok (.ifCond .eq 45, 3) := by decide +kernel
theorem dX2_goneAlong_28 : decode cX2_goneAlong 28 = .ok (.aload_n 0, 1) := by decide +kernel
theorem dX2_goneAlong_29 : decode cX2_goneAlong 29 = .ok (.getfield 39, 3) := by decide +kernel
theorem dX2_goneAlong_32 : decode cX2_goneAlong 32 = .ok (.getfield 95, 3) := by decide +kernel
theorem dX2_goneAlong_35 : decode cX2_goneAlong 35 = .ok (.iload_n 3, 1) := by decide +kernel
theorem dX2_goneAlong_36 : decode cX2_goneAlong 36 = .ok (.iaload, 1) := by decide +kernel
theorem dX2_goneAlong_37 : decode cX2_goneAlong 37 = .ok (.aload_n 0, 1) := by decide +kernel
theorem dX2_goneAlong_38 : decode cX2_goneAlong 38 = .ok (.getfield 9, 3) := by decide +kernel
theorem dX2_goneAlong_41 : decode cX2_goneAlong 41 = .ok (.iload_n 3, 1) := by decide +kernel
theorem dX2_goneAlong_42 : decode cX2_goneAlong 42 = .ok (.iaload, 1) := by decide +kernel
theorem dX2_goneAlong_43 : decode cX2_goneAlong 43 = .ok (.iadd, 1) := by decide +kernel
theorem dX2_goneAlong_44 : decode cX2_goneAlong 44 = .ok (.istore 4, 2) := by decide +kernel
theorem dX2_goneAlong_46 : decode cX2_goneAlong 46 = .ok (.iload_n 2, 1) := by decide +kernel
theorem dX2_goneAlong_47 : decode cX2_goneAlong 47 = .ok (.aload_n 0, 1) := by decide +kernel
theorem dX2_goneAlong_48 : decode cX2_goneAlong 48 = .ok (.getfield 24, 3) := by decide +kernel
theorem dX2_goneAlong_51 : decode cX2_goneAlong 51 = .ok (.iload_n 1, 1) := by decide +kernel
theorem dX2_goneAlong_52 : decode cX2_goneAlong 52 = .ok (.iaload, 1) := by decide +kernel
theorem dX2_goneAlong_53 : decode cX2_goneAlong 53 = .ok (.iload_n 3, 1) := by decide +kernel
theorem dX2_goneAlong_54 : decode cX2_goneAlong 54 = .ok (.invokestatic 61, 3) := by decide +kernel
theorem dX2_goneAlong_57 : decode cX2_goneAlong 57 = .ok (.ifCond .eq 8, 3) := by decide +kernel
theorem dX2_goneAlong_60 : decode cX2_goneAlong 60 = .ok (.iload 4, 2) := by decide +kernel
theorem dX2_goneAlong_62 : decode cX2_goneAlong 62 = .ok (.goto 6, 3) := by decide +kernel
theorem dX2_goneAlong_65 : decode cX2_goneAlong 65 = .ok (.iload 4, 2) := by decide +kernel
theorem dX2_goneAlong_67 : decode cX2_goneAlong 67 = .ok (.ineg, 1) := by decide +kernel
theorem dX2_goneAlong_68 : decode cX2_goneAlong 68 = .ok (.iadd, 1) := by decide +kernel
theorem dX2_goneAlong_69 : decode cX2_goneAlong 69 = .ok (.istore_n 2, 1) := by decide +kernel
theorem dX2_goneAlong_70 : decode cX2_goneAlong 70 = .ok (.iinc 3 1, 3) := by decide +kernel
theorem dX2_goneAlong_73 : decode cX2_goneAlong 73 = .ok (.goto (-69), 3) := by decide +kernel
theorem dX2_goneAlong_76 : decode cX2_goneAlong 76 = .ok (.iload_n 2, 1) := by decide +kernel
theorem dX2_goneAlong_77 : decode cX2_goneAlong 77 = .ok (.ireturn, 1) := by decide +kernel
set_option maxRecDepth 20000 in
theorem ggX2_goneAlong_X8_isIn : GoodIn wsX2_goneAlong wsX8_isIn := goodIn_r _ [9] (by decide +kernel) (by decide +kernel)
def D_X2_goneAlong : Md := (yX2_goneAlong, cX2_goneAlong, 5, (some .int), wsX2_goneAlong, RX2, { frames := 1, cells := 0, slots := 0, locals := 21 })
theorem nm_X2_goneAlong : nmD D_X2_goneAlong 1 := ⟨rfl, by decide +kernel, by decide +kernel, by decide +kernel⟩
theorem hi_X2_goneAlong_X2 : ∀ w ∈ u_ws RX2 TX2 13, w ∈ wsX2_goneAlong := by decide +kernel
theorem hi_X2_goneAlong_X5 : ∀ w ∈ u_ws RX5 TX5 8, w ∈ wsX2_goneAlong := by decide +kernel
theorem hl_X2_goneAlong_9 : Cond.fieldLink RX2 9 "LevelLoops$Loops" "correction" "[I" ∈ wsX2_goneAlong := by decide +kernel
theorem hl_X2_goneAlong_18 : Cond.fieldLink RX2 18 "LevelLoops$Loops" "legs" "[I" ∈ wsX2_goneAlong := by decide +kernel
theorem hl_X2_goneAlong_24 : Cond.fieldLink RX2 24 "LevelLoops$Loops" "forward" "[I" ∈ wsX2_goneAlong := by decide +kernel
theorem hl_X2_goneAlong_39 : Cond.fieldLink RX2 39 "LevelLoops$Loops" "survey" "LLevelLoops$Survey;" ∈ wsX2_goneAlong := by decide +kernel
theorem hl_X2_goneAlong_54 : Cond.fieldLink RX2 54 "LevelLoops$Survey" "legs" "I" ∈ wsX2_goneAlong := by decide +kernel
theorem hl_X2_goneAlong_95 : Cond.fieldLink RX2 95 "LevelLoops$Survey" "difference" "[I" ∈ wsX2_goneAlong := by decide +kernel
def wp_X2_goneAlong_J68 (n : Nat) (x1 : Int32) (x3 : Int32) (s0 : Int32) (s1 : Int32) (w : Wd) (Q : Int32 → Prop) (K4 : Int32 → Int32 → Prop) : Prop :=
  K4 (s1 + s0) (x3 + 1)
def wp_X2_goneAlong_B4 (n : Nat) (x1 : Int32) (x2 : Int32) (x3 : Int32) (w : Wd) (Q : Int32 → Prop) (K4 : Int32 → Int32 → Prop) : Prop :=
  (((wi w n 0 1) ≤ x3 → Q x2) ∧ (¬ (wi w n 0 1) ≤ x3 → vp_in x1 20 ∧ wp_X8_isIn (wi w n 15 x1.toNatClampNeg) x3 (fun r22 => ((r22 = 0 → K4 x2 (x3 + 1)) ∧ (¬ r22 = 0 → vp_in x3 20 ∧ vp_in x3 20 ∧ vp_in x1 20 ∧ wp_X8_isIn (wi w n 17 x1.toNatClampNeg) x3 (fun r54 => ((r54 = 0 → wp_X2_goneAlong_J68 n x1 x3 (-((wi w n 4 x3.toNatClampNeg) + (wi w n 13 x3.toNatClampNeg))) x2 w Q K4) ∧ (¬ r54 = 0 → wp_X2_goneAlong_J68 n x1 x3 ((wi w n 4 x3.toNatClampNeg) + (wi w n 13 x3.toNatClampNeg)) x2 w Q K4))))))))
def wp_X2_goneAlong_L4 (n : Nat) (x1 : Int32) (x2 : Int32) (x3 : Int32) (w : Wd) (Q : Int32 → Prop) : Prop :=
  ∃ (I : Int32 → Int32 → Prop) (μ : Int32 → Int32 → Nat), I x2 x3 ∧ ∀ (x2 : Int32) (x3 : Int32), I x2 x3 → wp_X2_goneAlong_B4 n x1 x2 x3 w Q (fun x2' x3' => I x2' x3' ∧ μ x2' x3' < μ x2 x3)
def wp_X2_goneAlong (n : Nat) (x1 : Int32) (w : Wd) (Q : Int32 → Prop) : Prop :=
  wp_X2_goneAlong_L4 n x1 (0 : Int32) (0 : Int32) w Q
theorem ok_X2_goneAlong_J68 {G : Gt} {M : Mx} {Qf : State → Prop} {n : Nat} {x1 : Int32} {x3 : Int32} {s0 : Int32} {s1 : Int32} {w : Wd} {Q : Int32 → Prop} {K4 : Int32 → Int32 → Prop} (hC : cx G D_X2_goneAlong M) (he : en G M (qip w Q) Qf) (hn : n < 2) (h : wp_X2_goneAlong_J68 n x1 x3 s0 s1 w Q K4) (hK4 : ∀ (x2 : Int32) (x3 : Int32), K4 x2 x3 → jq G D_X2_goneAlong M Qf 4 [(0, .ref (aD G n 12)), (1, .int x1), (2, .int x2), (3, .int x3)] [] w) : jq G D_X2_goneAlong M Qf 68 [(0, .ref (aD G n 12)), (1, .int x1), (3, .int x3)] [.int s0, .int s1] w := by
  unfold wp_X2_goneAlong_J68 at h
  refine jq_iadd dX2_goneAlong_68 hC ?_
  refine jq_istore_n (L' := [(2, .int (s1 + s0)), (0, .ref (aD G n 12)), (1, .int x1), (3, .int x3)]) dX2_goneAlong_69 hC rfl (by decide) rfl ?_
  refine jq_iinc (k0 := 3) (v := (x3 + 1)) (L' := [(3, .int (x3 + 1)), (2, .int (s1 + s0)), (0, .ref (aD G n 12)), (1, .int x1)]) dX2_goneAlong_70 hC rfl rfl (by decide) rfl ?_
  refine jq_goto (tgt := 4) dX2_goneAlong_73 hC (by decide) ?_
  exact jq_less (L' := [(0, .ref (aD G n 12)), (1, .int x1), (2, .int (s1 + s0)), (3, .int (x3 + 1))]) [2, 3, 1, 0] rfl (hK4 _ _ h)
theorem ok_X2_goneAlong_B4 {G : Gt} {M : Mx} {Qf : State → Prop} {n : Nat} {x1 : Int32} {x2 : Int32} {x3 : Int32} {w : Wd} {Q : Int32 → Prop} {K4 : Int32 → Int32 → Prop} (hC : cx G D_X2_goneAlong M) (he : en G M (qip w Q) Qf) (hn : n < 2) (h : wp_X2_goneAlong_B4 n x1 x2 x3 w Q K4) (hK4 : ∀ (x2 : Int32) (x3 : Int32), K4 x2 x3 → jq G D_X2_goneAlong M Qf 4 [(0, .ref (aD G n 12)), (1, .int x1), (2, .int x2), (3, .int x3)] [] w) : jq G D_X2_goneAlong M Qf 4 [(0, .ref (aD G n 12)), (1, .int x1), (2, .int x2), (3, .int x3)] [] w := by
  unfold wp_X2_goneAlong_B4 at h
  refine jq_iload_n (k0 := 3) dX2_goneAlong_4 hC rfl rfl ?_
  refine jq_aload_n (k0 := 0) dX2_goneAlong_5 hC rfl rfl ?_
  refine jq_get (k0 := 2) (n := n) (o := 12) dX2_goneAlong_6 hC (cl_T (by omega) (by decide)) rfl rfl hi_X2_goneAlong_X2 (by decide) hl_X2_goneAlong_39 rfl rfl ?_
  refine jq_get (k0 := 1) (n := n) (o := 0) dX2_goneAlong_9 hC (cl_S (by omega) (by decide)) rfl rfl hi_X2_goneAlong_X5 (by decide) hl_X2_goneAlong_54 rfl rfl ?_
  refine jq_icmp_ge (tgt := 76) dX2_goneAlong_12 hC (by decide) (fun c12 => ?_) (fun c12 => ?_)
  · have h := h.1 c12
    refine jq_iload_n (k0 := 2) dX2_goneAlong_76 hC rfl rfl ?_
    exact jq_iret dX2_goneAlong_77 hC he rfl ⟨_, rfl, rfl, h⟩
  · have h := h.2 c12
    refine jq_aload_n (k0 := 0) dX2_goneAlong_15 hC rfl rfl ?_
    refine jq_get (k0 := 6) (n := n) (o := 12) dX2_goneAlong_16 hC (cl_T (by omega) (by decide)) rfl rfl hi_X2_goneAlong_X2 (by decide) hl_X2_goneAlong_18 rfl rfl ?_
    refine jq_iload_n (k0 := 1) dX2_goneAlong_19 hC rfl rfl ?_
    obtain ⟨b20, h⟩ := h
    refine jq_iald (n := n) (o := 15) (j := x1.toNatClampNeg) dX2_goneAlong_20 hC (cl_T (by omega) (by decide)) rfl b20 rfl ?_
    refine jq_iload_n (k0 := 3) dX2_goneAlong_21 hC rfl rfl ?_
    refine jq_callSN (As := [.int (wi w n 15 x1.toNatClampNeg), .int x3]) (rest := []) (D' := D_X8_isIn) (host := "LevelLoops") dX2_goneAlong_22 hC (mt_X8_isIn h) ggX2_goneAlong_X8_isIn rfl (by decide +kernel) (by decide +kernel) (by decide +kernel) ⟨rfl, rfl, Nat.le_of_ble_eq_true rfl, Nat.le_of_ble_eq_true rfl⟩ nm_X8_isIn rfl (Nat.le_of_ble_eq_true rfl) (kIp fun r22 h => ?_)
    refine jq_if_eq (tgt := 70) dX2_goneAlong_25 hC (by decide) (fun c25 => ?_) (fun c25 => ?_)
    · have h := h.1 c25
      refine jq_iinc (k0 := 3) (v := (x3 + 1)) (L' := [(3, .int (x3 + 1)), (0, .ref (aD G n 12)), (1, .int x1), (2, .int x2)]) dX2_goneAlong_70 hC rfl rfl (by decide) rfl ?_
      refine jq_goto (tgt := 4) dX2_goneAlong_73 hC (by decide) ?_
      exact jq_less (L' := [(0, .ref (aD G n 12)), (1, .int x1), (2, .int x2), (3, .int (x3 + 1))]) [1, 2, 3, 0] rfl (hK4 _ _ h)
    · have h := h.2 c25
      refine jq_aload_n (k0 := 0) dX2_goneAlong_28 hC rfl rfl ?_
      refine jq_get (k0 := 2) (n := n) (o := 12) dX2_goneAlong_29 hC (cl_T (by omega) (by decide)) rfl rfl hi_X2_goneAlong_X2 (by decide) hl_X2_goneAlong_39 rfl rfl ?_
      refine jq_get (k0 := 5) (n := n) (o := 0) dX2_goneAlong_32 hC (cl_S (by omega) (by decide)) rfl rfl hi_X2_goneAlong_X5 (by decide) hl_X2_goneAlong_95 rfl rfl ?_
      refine jq_iload_n (k0 := 3) dX2_goneAlong_35 hC rfl rfl ?_
      obtain ⟨b36, h⟩ := h
      refine jq_iald (n := n) (o := 4) (j := x3.toNatClampNeg) dX2_goneAlong_36 hC (cl_S (by omega) (by decide)) rfl b36 rfl ?_
      refine jq_aload_n (k0 := 0) dX2_goneAlong_37 hC rfl rfl ?_
      refine jq_get (k0 := 1) (n := n) (o := 12) dX2_goneAlong_38 hC (cl_T (by omega) (by decide)) rfl rfl hi_X2_goneAlong_X2 (by decide) hl_X2_goneAlong_9 rfl rfl ?_
      refine jq_iload_n (k0 := 3) dX2_goneAlong_41 hC rfl rfl ?_
      obtain ⟨b42, h⟩ := h
      refine jq_iald (n := n) (o := 13) (j := x3.toNatClampNeg) dX2_goneAlong_42 hC (cl_T (by omega) (by decide)) rfl b42 rfl ?_
      refine jq_iadd dX2_goneAlong_43 hC ?_
      refine jq_istore (L' := [(4, .int ((wi w n 4 x3.toNatClampNeg) + (wi w n 13 x3.toNatClampNeg))), (0, .ref (aD G n 12)), (1, .int x1), (2, .int x2), (3, .int x3)]) dX2_goneAlong_44 hC (by decide) rfl ?_
      refine jq_iload_n (k0 := 3) dX2_goneAlong_46 hC rfl rfl ?_
      refine jq_aload_n (k0 := 1) dX2_goneAlong_47 hC rfl rfl ?_
      refine jq_get (k0 := 8) (n := n) (o := 12) dX2_goneAlong_48 hC (cl_T (by omega) (by decide)) rfl rfl hi_X2_goneAlong_X2 (by decide) hl_X2_goneAlong_24 rfl rfl ?_
      refine jq_iload_n (k0 := 2) dX2_goneAlong_51 hC rfl rfl ?_
      obtain ⟨b52, h⟩ := h
      refine jq_iald (n := n) (o := 17) (j := x1.toNatClampNeg) dX2_goneAlong_52 hC (cl_T (by omega) (by decide)) rfl b52 rfl ?_
      refine jq_iload_n (k0 := 4) dX2_goneAlong_53 hC rfl rfl ?_
      refine jq_callSN (As := [.int (wi w n 17 x1.toNatClampNeg), .int x3]) (rest := [.int x2]) (D' := D_X8_isIn) (host := "LevelLoops") dX2_goneAlong_54 hC (mt_X8_isIn h) ggX2_goneAlong_X8_isIn rfl (by decide +kernel) (by decide +kernel) (by decide +kernel) ⟨rfl, rfl, Nat.le_of_ble_eq_true rfl, Nat.le_of_ble_eq_true rfl⟩ nm_X8_isIn rfl (Nat.le_of_ble_eq_true rfl) (kIp fun r54 h => ?_)
      refine jq_if_eq (tgt := 65) dX2_goneAlong_57 hC (by decide) (fun c57 => ?_) (fun c57 => ?_)
      · have h := h.1 c57
        refine jq_iload (k0 := 0) dX2_goneAlong_65 hC rfl ?_
        refine jq_ineg dX2_goneAlong_67 hC ?_
        refine jq_less (L' := [(0, .ref (aD G n 12)), (1, .int x1), (3, .int x3)]) [1, 2, 4] rfl ?_
        exact ok_X2_goneAlong_J68 hC he hn h hK4
      · have h := h.2 c57
        refine jq_iload (k0 := 0) dX2_goneAlong_60 hC rfl ?_
        refine jq_goto (tgt := 68) dX2_goneAlong_62 hC (by decide) ?_
        refine jq_less (L' := [(0, .ref (aD G n 12)), (1, .int x1), (3, .int x3)]) [1, 2, 4] rfl ?_
        exact ok_X2_goneAlong_J68 hC he hn h hK4
theorem ok_X2_goneAlong_L4 {G : Gt} {M : Mx} {Qf : State → Prop} {n : Nat} {x1 : Int32} {x2 : Int32} {x3 : Int32} {w : Wd} {Q : Int32 → Prop} (hC : cx G D_X2_goneAlong M) (he : en G M (qip w Q) Qf) (hn : n < 2) (h : wp_X2_goneAlong_L4 n x1 x2 x3 w Q) : jq G D_X2_goneAlong M Qf 4 [(0, .ref (aD G n 12)), (1, .int x1), (2, .int x2), (3, .int x3)] [] w := by
  unfold wp_X2_goneAlong_L4 at h
  obtain ⟨I, μ, h0, hs⟩ := h
  exact lp_ind (σ := Int32 × Int32) (P := fun s => jq G D_X2_goneAlong M Qf 4 [(0, .ref (aD G n 12)), (1, .int x1), (2, .int s.1), (3, .int s.2)] [] w) (fun s => I s.1 s.2) (fun s => μ s.1 s.2) (fun s h1 ih => ok_X2_goneAlong_B4 hC he hn (hs s.1 s.2 h1) (fun x2' x3' h => ih (x2', x3') h.1 h.2)) (x2, x3) h0
theorem ok_X2_goneAlong {G : Gt} {M : Mx} {Qf : State → Prop} {n : Nat} {x1 : Int32} {w : Wd} {Q : Int32 → Prop} (hC : cx G D_X2_goneAlong M) (he : en G M (qip w Q) Qf) (hn : n < 2) (h : wp_X2_goneAlong n x1 w Q) : jq G D_X2_goneAlong M Qf 0 [(0, .ref (aD G n 12)), (1, .int x1)] [] w := by
  unfold wp_X2_goneAlong at h
  refine jq_iconst (v := (0 : Int32)) dX2_goneAlong_0 hC (by decide) ?_
  refine jq_istore_n (L' := [(2, .int (0 : Int32)), (0, .ref (aD G n 12)), (1, .int x1)]) dX2_goneAlong_1 hC rfl (by decide) rfl ?_
  refine jq_iconst (v := (0 : Int32)) dX2_goneAlong_2 hC (by decide) ?_
  refine jq_istore_n (L' := [(3, .int (0 : Int32)), (2, .int (0 : Int32)), (0, .ref (aD G n 12)), (1, .int x1)]) dX2_goneAlong_3 hC rfl (by decide) rfl ?_
  refine jq_less (L' := [(0, .ref (aD G n 12)), (1, .int x1), (2, .int (0 : Int32)), (3, .int (0 : Int32))]) [2, 3, 1, 0] rfl ?_
  exact ok_X2_goneAlong_L4 hC he hn h
theorem mt_X2_goneAlong {G : Gt} {n : Nat} {x1 : Int32} {w : Wd} {Q : Int32 → Prop} (hn : n < 2) (h : wp_X2_goneAlong n x1 w Q) : Mt G D_X2_goneAlong [.ref (aD G n 12), .int x1] w (qip w Q) := Mt_of (by decide +kernel) rfl rfl (Nat.le_of_ble_eq_true rfl) (fun M Qf hC he => ok_X2_goneAlong hC he hn h)
/-! X2.allowed(I)I -/
theorem dX2_allowed_0 : decode cX2_allowed 0 = .ok (.aload_n 0, 1) := by decide +kernel
theorem dX2_allowed_1 : decode cX2_allowed 1 = .ok (.getfield 39, 3) := by decide +kernel
theorem dX2_allowed_4 : decode cX2_allowed 4 = .ok (.getfield 115, 3) := by decide +kernel
theorem dX2_allowed_7 : decode cX2_allowed 7 = .ok (.iconst 0, 1) := by decide +kernel
theorem dX2_allowed_8 : decode cX2_allowed 8 = .ok (.iaload, 1) := by decide +kernel
theorem dX2_allowed_9 : decode cX2_allowed 9 = .ok (.aload_n 0, 1) := by decide +kernel
theorem dX2_allowed_10 : decode cX2_allowed 10 = .ok (.getfield 21, 3) := by decide +kernel
theorem dX2_allowed_13 : decode cX2_allowed 13 = .ok (.iload_n 1, 1) := by decide +kernel
theorem dX2_allowed_14 : decode cX2_allowed 14 = .ok (.iaload, 1) := by decide +kernel
theorem dX2_allowed_15 : decode cX2_allowed 15 = .ok (.imul, 1) := by decide +kernel
theorem dX2_allowed_16 : decode cX2_allowed 16 = .ok (.bipush 10, 2) := by decide +kernel
theorem dX2_allowed_18 : decode cX2_allowed 18 = .ok (.idiv, 1) := by decide +kernel
theorem dX2_allowed_19 : decode cX2_allowed 19 = .ok (.aload_n 0, 1) := by decide +kernel
theorem dX2_allowed_20 : decode cX2_allowed 20 = .ok (.getfield 39, 3) := by decide +kernel
theorem dX2_allowed_23 : decode cX2_allowed 23 = .ok (.getfield 115, 3) := by decide +kernel
theorem dX2_allowed_26 : decode cX2_allowed 26 = .ok (.iconst 1, 1) := by decide +kernel
theorem dX2_allowed_27 : decode cX2_allowed 27 = .ok (.iaload, 1) := by decide +kernel
theorem dX2_allowed_28 : decode cX2_allowed 28 = .ok (.iadd, 1) := by decide +kernel
theorem dX2_allowed_29 : decode cX2_allowed 29 = .ok (.ireturn, 1) := by decide +kernel
def D_X2_allowed : Md := (yX2_allowed, cX2_allowed, 2, (some .int), wsX2_allowed, RX2, { frames := 0, cells := 0, slots := 0, locals := 0 })
theorem nm_X2_allowed : nmD D_X2_allowed 1 := ⟨rfl, by decide +kernel, by decide +kernel, by decide +kernel⟩
theorem hi_X2_allowed_X2 : ∀ w ∈ u_ws RX2 TX2 13, w ∈ wsX2_allowed := by decide +kernel
theorem hi_X2_allowed_X5 : ∀ w ∈ u_ws RX5 TX5 8, w ∈ wsX2_allowed := by decide +kernel
theorem hl_X2_allowed_21 : Cond.fieldLink RX2 21 "LevelLoops$Loops" "length" "[I" ∈ wsX2_allowed := by decide +kernel
theorem hl_X2_allowed_39 : Cond.fieldLink RX2 39 "LevelLoops$Loops" "survey" "LLevelLoops$Survey;" ∈ wsX2_allowed := by decide +kernel
theorem hl_X2_allowed_115 : Cond.fieldLink RX2 115 "LevelLoops$Survey" "settings" "[I" ∈ wsX2_allowed := by decide +kernel
def wp_X2_allowed (n : Nat) (x1 : Int32) (w : Wd) (Q : Int32 → Prop) : Prop :=
  vp_in x1 20 ∧ Q ((((wi w n 6 0) * (wi w n 16 x1.toNatClampNeg)) / (10 : Int32)) + (wi w n 6 1))
theorem ok_X2_allowed {G : Gt} {M : Mx} {Qf : State → Prop} {n : Nat} {x1 : Int32} {w : Wd} {Q : Int32 → Prop} (hC : cx G D_X2_allowed M) (he : en G M (qip w Q) Qf) (hn : n < 2) (h : wp_X2_allowed n x1 w Q) : jq G D_X2_allowed M Qf 0 [(0, .ref (aD G n 12)), (1, .int x1)] [] w := by
  unfold wp_X2_allowed at h
  refine jq_aload_n (k0 := 0) dX2_allowed_0 hC rfl rfl ?_
  refine jq_get (k0 := 2) (n := n) (o := 12) dX2_allowed_1 hC (cl_T (by omega) (by decide)) rfl rfl hi_X2_allowed_X2 (by decide) hl_X2_allowed_39 rfl rfl ?_
  refine jq_get (k0 := 7) (n := n) (o := 0) dX2_allowed_4 hC (cl_S (by omega) (by decide)) rfl rfl hi_X2_allowed_X5 (by decide) hl_X2_allowed_115 rfl rfl ?_
  refine jq_iconst (v := (0 : Int32)) dX2_allowed_7 hC (by decide) ?_
  refine jq_iald (n := n) (o := 6) (j := 0) dX2_allowed_8 hC (cl_S (by omega) (by decide)) rfl (vin (by decide)) (by decide) ?_
  refine jq_aload_n (k0 := 0) dX2_allowed_9 hC rfl rfl ?_
  refine jq_get (k0 := 7) (n := n) (o := 12) dX2_allowed_10 hC (cl_T (by omega) (by decide)) rfl rfl hi_X2_allowed_X2 (by decide) hl_X2_allowed_21 rfl rfl ?_
  refine jq_iload_n (k0 := 1) dX2_allowed_13 hC rfl rfl ?_
  obtain ⟨b14, h⟩ := h
  refine jq_iald (n := n) (o := 16) (j := x1.toNatClampNeg) dX2_allowed_14 hC (cl_T (by omega) (by decide)) rfl b14 rfl ?_
  refine jq_imul dX2_allowed_15 hC ?_
  refine jq_bipush (v := (10 : Int32)) dX2_allowed_16 hC (by decide) ?_
  refine jq_idiv dX2_allowed_18 hC (by decide) ?_
  refine jq_aload_n (k0 := 0) dX2_allowed_19 hC rfl rfl ?_
  refine jq_get (k0 := 2) (n := n) (o := 12) dX2_allowed_20 hC (cl_T (by omega) (by decide)) rfl rfl hi_X2_allowed_X2 (by decide) hl_X2_allowed_39 rfl rfl ?_
  refine jq_get (k0 := 7) (n := n) (o := 0) dX2_allowed_23 hC (cl_S (by omega) (by decide)) rfl rfl hi_X2_allowed_X5 (by decide) hl_X2_allowed_115 rfl rfl ?_
  refine jq_iconst (v := (1 : Int32)) dX2_allowed_26 hC (by decide) ?_
  refine jq_iald (n := n) (o := 6) (j := 1) dX2_allowed_27 hC (cl_S (by omega) (by decide)) rfl (vin (by decide)) (by decide) ?_
  refine jq_iadd dX2_allowed_28 hC ?_
  exact jq_iret dX2_allowed_29 hC he rfl ⟨_, rfl, rfl, h⟩
theorem mt_X2_allowed {G : Gt} {n : Nat} {x1 : Int32} {w : Wd} {Q : Int32 → Prop} (hn : n < 2) (h : wp_X2_allowed n x1 w Q) : Mt G D_X2_allowed [.ref (aD G n 12), .int x1] w (qip w Q) := Mt_of (by decide +kernel) rfl rfl (Nat.le_of_ble_eq_true rfl) (fun M Qf hC he => ok_X2_allowed hC he hn h)
/-! X2.excess(I)I -/
theorem dX2_excess_0 : decode cX2_excess 0 = .ok (.aload_n 0, 1) := by decide +kernel
theorem dX2_excess_1 : decode cX2_excess 1 = .ok (.getfield 27, 3) := by decide +kernel
theorem dX2_excess_4 : decode cX2_excess 4 = .ok (.iload_n 1, 1) := by decide +kernel
theorem dX2_excess_5 : decode cX2_excess 5 = .ok (.iaload, 1) := by decide +kernel
theorem dX2_excess_6 : decode cX2_excess 6 = .ok (.invokestatic 98, 3) := by decide +kernel
theorem dX2_excess_9 : decode cX2_excess 9 = .ok (.aload_n 0, 1) := by decide +kernel
theorem dX2_excess_10 : decode cX2_excess 10 = .ok (.iload_n 1, 1) := by decide +kernel
theorem dX2_excess_11 : decode cX2_excess 11 = .ok (.invokevirtual 118, 3) := by decide +kernel
theorem dX2_excess_14 : decode cX2_excess 14 = .ok (.isub, 1) := by decide +kernel
theorem dX2_excess_15 : decode cX2_excess 15 = .ok (.ireturn, 1) := by decide +kernel
set_option maxRecDepth 20000 in
theorem ggX2_excess_X2_allowed : GoodIn wsX2_excess wsX2_allowed := goodIn_r _ [10, 11, 12, 13, 14, 15, 16, 17, 18, 19, 20, 21, 22, 23, 24, 25, 26, 27, 28, 29, 30, 31, 32, 33, 34] (by decide +kernel) (by decide +kernel)
set_option maxRecDepth 20000 in
theorem gX2_excess_X2_allowed : GoodIn wsX2_excess (wsV RX2 118 RX2 yX2_allowed wsX2_allowed) := goodIn_app (goodIn_of _ (by decide +kernel)) ggX2_excess_X2_allowed
def D_X2_excess : Md := (yX2_excess, cX2_excess, 2, (some .int), wsX2_excess, RX2, { frames := 1, cells := 0, slots := 0, locals := 21 })
theorem nm_X2_excess : nmD D_X2_excess 1 := ⟨rfl, by decide +kernel, by decide +kernel, by decide +kernel⟩
theorem hi_X2_excess_X2 : ∀ w ∈ u_ws RX2 TX2 13, w ∈ wsX2_excess := by decide +kernel
theorem hl_X2_excess_27 : Cond.fieldLink RX2 27 "LevelLoops$Loops" "miss" "[I" ∈ wsX2_excess := by decide +kernel
def wp_X2_excess (n : Nat) (x1 : Int32) (w : Wd) (Q : Int32 → Prop) : Prop :=
  vp_in x1 20 ∧ wp_X2_allowed n x1 w (fun r11 => Q ((iabs (wi w n 18 x1.toNatClampNeg)) - r11))
theorem ok_X2_excess {G : Gt} {M : Mx} {Qf : State → Prop} {n : Nat} {x1 : Int32} {w : Wd} {Q : Int32 → Prop} (hC : cx G D_X2_excess M) (he : en G M (qip w Q) Qf) (hn : n < 2) (h : wp_X2_excess n x1 w Q) : jq G D_X2_excess M Qf 0 [(0, .ref (aD G n 12)), (1, .int x1)] [] w := by
  unfold wp_X2_excess at h
  refine jq_aload_n (k0 := 0) dX2_excess_0 hC rfl rfl ?_
  refine jq_get (k0 := 9) (n := n) (o := 12) dX2_excess_1 hC (cl_T (by omega) (by decide)) rfl rfl hi_X2_excess_X2 (by decide) hl_X2_excess_27 rfl rfl ?_
  refine jq_iload_n (k0 := 1) dX2_excess_4 hC rfl rfl ?_
  obtain ⟨b5, h⟩ := h
  refine jq_iald (n := n) (o := 18) (j := x1.toNatClampNeg) dX2_excess_5 hC (cl_T (by omega) (by decide)) rfl b5 rfl ?_
  refine jq_abs dX2_excess_6 hC (by decide +kernel) (Nat.le_of_ble_eq_true rfl) (Nat.le_of_ble_eq_true rfl) ?_
  refine jq_aload_n (k0 := 0) dX2_excess_9 hC rfl rfl ?_
  refine jq_iload_n (k0 := 1) dX2_excess_10 hC rfl rfl ?_
  refine jq_callV (As := [.int x1]) (rest := [.int (iabs (wi w n 18 x1.toNatClampNeg))]) (n := n) (o := 12) (D' := D_X2_allowed) dX2_excess_11 hC (cl_T (by omega) (by decide)) rfl rfl rfl (mt_X2_allowed (by omega) h) gX2_excess_X2_allowed rfl ⟨rfl, rfl, Nat.le_of_ble_eq_true rfl, Nat.le_of_ble_eq_true rfl⟩ nm_X2_allowed rfl (Nat.le_of_ble_eq_true rfl) (kIp fun r11 h => ?_)
  refine jq_isub dX2_excess_14 hC ?_
  exact jq_iret dX2_excess_15 hC he rfl ⟨_, rfl, rfl, h⟩
theorem mt_X2_excess {G : Gt} {n : Nat} {x1 : Int32} {w : Wd} {Q : Int32 → Prop} (hn : n < 2) (h : wp_X2_excess n x1 w Q) : Mt G D_X2_excess [.ref (aD G n 12), .int x1] w (qip w Q) := Mt_of (by decide +kernel) rfl rfl (Nat.le_of_ble_eq_true rfl) (fun M Qf hC he => ok_X2_excess hC he hn h)
/-! X2.closeBy(I)V -/
theorem dX2_closeBy_0 : decode cX2_closeBy 0 = .ok (.aload_n 0, 1) := by decide +kernel
theorem dX2_closeBy_1 : decode cX2_closeBy 1 = .ok (.getfield 39, 3) := by decide +kernel
theorem dX2_closeBy_4 : decode cX2_closeBy 4 = .ok (.getfield 69, 3) := by decide +kernel
theorem dX2_closeBy_7 : decode cX2_closeBy 7 = .ok (.iload_n 1, 1) := by decide +kernel
theorem dX2_closeBy_8 : decode cX2_closeBy 8 = .ok (.iaload, 1) := by decide +kernel
theorem dX2_closeBy_9 : decode cX2_closeBy 9 = .ok (.istore_n 2, 1) := by decide +kernel
theorem dX2_closeBy_10 : decode cX2_closeBy 10 = .ok (.aload_n 0, 1) := by decide +kernel
theorem dX2_closeBy_11 : decode cX2_closeBy 11 = .ok (.getfield 39, 3) := by decide +kernel
theorem dX2_closeBy_14 : decode cX2_closeBy 14 = .ok (.getfield 72, 3) := by decide +kernel
theorem dX2_closeBy_17 : decode cX2_closeBy 17 = .ok (.iload_n 1, 1) := by decide +kernel
theorem dX2_closeBy_18 : decode cX2_closeBy 18 = .ok (.iaload, 1) := by decide +kernel
theorem dX2_closeBy_19 : decode cX2_closeBy 19 = .ok (.istore_n 3, 1) := by decide +kernel
theorem dX2_closeBy_20 : decode cX2_closeBy 20 = .ok (.aload_n 0, 1) := by decide +kernel
theorem dX2_closeBy_21 : decode cX2_closeBy 21 = .ok (.getfield 43, 3) := by decide +kernel
theorem dX2_closeBy_24 : decode cX2_closeBy 24 = .ok (.iload_n 2, 1) := by decide +kernel
theorem dX2_closeBy_25 : decode cX2_closeBy 25 = .ok (.iload_n 3, 1) := by decide +kernel
theorem dX2_closeBy_26 : decode cX2_closeBy 26 = .ok (.invokevirtual 75, 3) := by decide +kernel
theorem dX2_closeBy_29 : decode cX2_closeBy 29 = .ok (.istore 4, 2) := by decide +kernel
theorem dX2_closeBy_31 : decode cX2_closeBy 31 = .ok (.iload 4, 2) := by decide +kernel
theorem dX2_closeBy_33 : decode cX2_closeBy 33 = .ok (.aload_n 0, 1) := by decide +kernel
theorem dX2_closeBy_34 : decode cX2_closeBy 34 = .ok (.getfield 43, 3) := by decide +kernel
theorem dX2_closeBy_37 : decode cX2_closeBy 37 = .ok (.getfield 79, 3) := by decide +kernel
theorem dX2_closeBy_40 : decode cX2_closeBy 40 = .ok (.iload_n 3, 1) := by decide +kernel
theorem dX2_closeBy_41 : decode cX2_closeBy 41 = .ok (.iaload, 1) := by decide +kernel
theorem dX2_closeBy_42 : decode cX2_closeBy 42 = .ok (.iand, 1) := by decide +kernel
theorem dX2_closeBy_43 : decode cX2_closeBy 43 = .ok (.istore 5, 2) := by decide +kernel
theorem dX2_closeBy_45 : decode cX2_closeBy 45 = .ok (.iload 4, 2) := by decide +kernel
theorem dX2_closeBy_47 : decode cX2_closeBy 47 = .ok (.aload_n 0, 1) := by decide +kernel
theorem dX2_closeBy_48 : decode cX2_closeBy 48 = .ok (.getfield 43, 3) := by decide +kernel
theorem dX2_closeBy_51 : decode cX2_closeBy 51 = .ok (.getfield 79, 3) := by decide +kernel
theorem dX2_closeBy_54 : decode cX2_closeBy 54 = .ok (.iload_n 2, 1) := by decide +kernel
theorem dX2_closeBy_55 : decode cX2_closeBy 55 = .ok (.iaload, 1) := by decide +kernel
theorem dX2_closeBy_56 : decode cX2_closeBy 56 = .ok (.iand, 1) := by decide +kernel
theorem dX2_closeBy_57 : decode cX2_closeBy 57 = .ok (.istore 6, 2) := by decide +kernel
theorem dX2_closeBy_59 : decode cX2_closeBy 59 = .ok (.aload_n 0, 1) := by decide +kernel
theorem dX2_closeBy_60 : decode cX2_closeBy 60 = .ok (.getfield 15, 3) := by decide +kernel
theorem dX2_closeBy_63 : decode cX2_closeBy 63 = .ok (.aload_n 0, 1) := by decide +kernel
theorem dX2_closeBy_64 : decode cX2_closeBy 64 = .ok (.getfield 47, 3) := by decide +kernel
theorem dX2_closeBy_67 : decode cX2_closeBy 67 = .ok (.iload_n 1, 1) := by decide +kernel
theorem dX2_closeBy_68 : decode cX2_closeBy 68 = .ok (.iastore, 1) := by decide +kernel
theorem dX2_closeBy_69 : decode cX2_closeBy 69 = .ok (.aload_n 0, 1) := by decide +kernel
theorem dX2_closeBy_70 : decode cX2_closeBy 70 = .ok (.getfield 18, 3) := by decide +kernel
theorem dX2_closeBy_73 : decode cX2_closeBy 73 = .ok (.aload_n 0, 1) := by decide +kernel
theorem dX2_closeBy_74 : decode cX2_closeBy 74 = .ok (.getfield 47, 3) := by decide +kernel
theorem dX2_closeBy_77 : decode cX2_closeBy 77 = .ok (.iload 4, 2) := by decide +kernel
theorem dX2_closeBy_79 : decode cX2_closeBy 79 = .ok (.iconst 1, 1) := by decide +kernel
theorem dX2_closeBy_80 : decode cX2_closeBy 80 = .ok (.iload_n 1, 1) := by decide +kernel
theorem dX2_closeBy_81 : decode cX2_closeBy 81 = .ok (.ishl, 1) := by decide +kernel
theorem dX2_closeBy_82 : decode cX2_closeBy 82 = .ok (.ior, 1) := by decide +kernel
theorem dX2_closeBy_83 : decode cX2_closeBy 83 = .ok (.iastore, 1) := by decide +kernel
theorem dX2_closeBy_84 : decode cX2_closeBy 84 = .ok (.aload_n 0, 1) := by decide +kernel
theorem dX2_closeBy_85 : decode cX2_closeBy 85 = .ok (.getfield 21, 3) := by decide +kernel
theorem dX2_closeBy_88 : decode cX2_closeBy 88 = .ok (.aload_n 0, 1) := by decide +kernel
theorem dX2_closeBy_89 : decode cX2_closeBy 89 = .ok (.getfield 47, 3) := by decide +kernel
theorem dX2_closeBy_92 : decode cX2_closeBy 92 = .ok (.aload_n 0, 1) := by decide +kernel
theorem dX2_closeBy_93 : decode cX2_closeBy 93 = .ok (.getfield 39, 3) := by decide +kernel
theorem dX2_closeBy_96 : decode cX2_closeBy 96 = .ok (.aload_n 0, 1) := by decide +kernel
theorem dX2_closeBy_97 : decode cX2_closeBy 97 = .ok (.getfield 18, 3) := by decide +kernel
theorem dX2_closeBy_100 : decode cX2_closeBy 100 = .ok (.aload_n 0, 1) := by decide +kernel
theorem dX2_closeBy_101 : decode cX2_closeBy 101 = .ok (.getfield 47, 3) := by decide +kernel
theorem dX2_closeBy_104 : decode cX2_closeBy 104 = .ok (.iaload, 1) := by decide +kernel
theorem dX2_closeBy_105 : decode cX2_closeBy 105 = .ok (.invokevirtual 82, 3) := by decide +kernel
theorem dX2_closeBy_108 : decode cX2_closeBy 108 = .ok (.iastore, 1) := by decide +kernel
theorem dX2_closeBy_109 : decode cX2_closeBy 109 = .ok (.aload_n 0, 1) := by decide +kernel
theorem dX2_closeBy_110 : decode cX2_closeBy 110 = .ok (.getfield 24, 3) := by decide +kernel
theorem dX2_closeBy_113 : decode cX2_closeBy 113 = .ok (.aload_n 0, 1) := by decide +kernel
theorem dX2_closeBy_114 : decode cX2_closeBy 114 = .ok (.getfield 47, 3) := by decide +kernel
theorem dX2_closeBy_117 : decode cX2_closeBy 117 = .ok (.iconst 1, 1) := by decide +kernel
theorem dX2_closeBy_118 : decode cX2_closeBy 118 = .ok (.iload_n 1, 1) := by decide +kernel
theorem dX2_closeBy_119 : decode cX2_closeBy 119 = .ok (.ishl, 1) := by decide +kernel
theorem dX2_closeBy_120 : decode cX2_closeBy 120 = .ok (.iload 6, 2) := by decide +kernel
theorem dX2_closeBy_122 : decode cX2_closeBy 122 = .ok (.aload_n 0, 1) := by decide +kernel
theorem dX2_closeBy_123 : decode cX2_closeBy 123 = .ok (.getfield 43, 3) := by decide +kernel
theorem dX2_closeBy_126 : decode cX2_closeBy 126 = .ok (.getfield 86, 3) := by decide +kernel
theorem dX2_closeBy_129 : decode cX2_closeBy 129 = .ok (.iand, 1) := by decide +kernel
theorem dX2_closeBy_130 : decode cX2_closeBy 130 = .ok (.ior, 1) := by decide +kernel
theorem dX2_closeBy_131 : decode cX2_closeBy 131 = .ok (.iload 5, 2) := by decide +kernel
theorem dX2_closeBy_133 : decode cX2_closeBy 133 = .ok (.aload_n 0, 1) := by decide +kernel
theorem dX2_closeBy_134 : decode cX2_closeBy 134 = .ok (.getfield 43, 3) := by decide +kernel
theorem dX2_closeBy_137 : decode cX2_closeBy 137 = .ok (.getfield 86, 3) := by decide +kernel
theorem dX2_closeBy_140 : decode cX2_closeBy 140 = .ok (.iconst (-1), 1) := by decide +kernel
theorem dX2_closeBy_141 : decode cX2_closeBy 141 = .ok (.ixor, 1) := by decide +kernel
theorem dX2_closeBy_142 : decode cX2_closeBy 142 = .ok (.iand, 1) := by decide +kernel
theorem dX2_closeBy_143 : decode cX2_closeBy 143 = .ok (.ior, 1) := by decide +kernel
theorem dX2_closeBy_144 : decode cX2_closeBy 144 = .ok (.iastore, 1) := by decide +kernel
theorem dX2_closeBy_145 : decode cX2_closeBy 145 = .ok (.aload_n 0, 1) := by decide +kernel
theorem dX2_closeBy_146 : decode cX2_closeBy 146 = .ok (.getfield 27, 3) := by decide +kernel
theorem dX2_closeBy_149 : decode cX2_closeBy 149 = .ok (.aload_n 0, 1) := by decide +kernel
theorem dX2_closeBy_150 : decode cX2_closeBy 150 = .ok (.getfield 47, 3) := by decide +kernel
theorem dX2_closeBy_153 : decode cX2_closeBy 153 = .ok (.aload_n 0, 1) := by decide +kernel
theorem dX2_closeBy_154 : decode cX2_closeBy 154 = .ok (.aload_n 0, 1) := by decide +kernel
theorem dX2_closeBy_155 : decode cX2_closeBy 155 = .ok (.getfield 47, 3) := by decide +kernel
theorem dX2_closeBy_158 : decode cX2_closeBy 158 = .ok (.invokevirtual 89, 3) := by decide +kernel
theorem dX2_closeBy_161 : decode cX2_closeBy 161 = .ok (.iastore, 1) := by decide +kernel
theorem dX2_closeBy_162 : decode cX2_closeBy 162 = .ok (.aload_n 0, 1) := by decide +kernel
theorem dX2_closeBy_163 : decode cX2_closeBy 163 = .ok (.aload_n 0, 1) := by decide +kernel
theorem dX2_closeBy_164 : decode cX2_closeBy 164 = .ok (.getfield 47, 3) := by decide +kernel
theorem dX2_closeBy_167 : decode cX2_closeBy 167 = .ok (.invokevirtual 92, 3) := by decide +kernel
theorem dX2_closeBy_170 : decode cX2_closeBy 170 = .ok (.ifCond .le 18, 3) := by decide +kernel
theorem dX2_closeBy_173 : decode cX2_closeBy 173 = .ok (.aload_n 0, 1) := by decide +kernel
theorem dX2_closeBy_174 : decode cX2_closeBy 174 = .ok (.dup, 1) := by decide +kernel
theorem dX2_closeBy_175 : decode cX2_closeBy 175 = .ok (.getfield 51, 3) := by decide +kernel
theorem dX2_closeBy_178 : decode cX2_closeBy 178 = .ok (.iconst 1, 1) := by decide +kernel
theorem dX2_closeBy_179 : decode cX2_closeBy 179 = .ok (.aload_n 0, 1) := by decide +kernel
theorem dX2_closeBy_180 : decode cX2_closeBy 180 = .ok (.getfield 47, 3) := by decide +kernel
theorem dX2_closeBy_183 : decode cX2_closeBy 183 = .ok (.ishl, 1) := by decide +kernel
theorem dX2_closeBy_184 : decode cX2_closeBy 184 = .ok (.ior, 1) := by decide +kernel
theorem dX2_closeBy_185 : decode cX2_closeBy 185 = .ok (.putfield 51, 3) := by decide +kernel
theorem dX2_closeBy_188 : decode cX2_closeBy 188 = .ok (.aload_n 0, 1) := by decide +kernel
theorem dX2_closeBy_189 : decode cX2_closeBy 189 = .ok (.dup, 1) := by decide +kernel
theorem dX2_closeBy_190 : decode cX2_closeBy 190 = .ok (.getfield 47, 3) := by decide +kernel
theorem dX2_closeBy_193 : decode cX2_closeBy 193 = .ok (.iconst 1, 1) := by decide +kernel
theorem dX2_closeBy_194 : decode cX2_closeBy 194 = .ok (.iadd, 1) := by decide +kernel
theorem dX2_closeBy_195 : decode cX2_closeBy 195 = .ok (.putfield 47, 3) := by decide +kernel
theorem dX2_closeBy_198 : decode cX2_closeBy 198 = .ok (.return_, 1) := by decide +kernel
set_option maxRecDepth 20000 in
theorem ggX2_closeBy_X2_excess : GoodIn wsX2_closeBy wsX2_excess := goodIn_r _ [41, 12, 42, 43, 44, 45, 46, 47, 48, 33, 49, 1, 50, 9, 51, 52, 53, 54, 55, 56, 57, 58, 59, 60, 61, 62, 63, 64, 65, 66, 67, 68, 69, 70, 71] (by decide +kernel) (by decide +kernel)
set_option maxRecDepth 20000 in
theorem gX2_closeBy_X2_excess : GoodIn wsX2_closeBy (wsV RX2 92 RX2 yX2_excess wsX2_excess) := goodIn_app (goodIn_of _ (by decide +kernel)) ggX2_closeBy_X2_excess
set_option maxRecDepth 20000 in
theorem ggX2_closeBy_X2_goneAlong : GoodIn wsX2_closeBy wsX2_goneAlong := goodIn_r _ [34, 1, 35, 8, 36, 37, 10, 27, 28, 29, 51, 52, 53, 54, 55, 56, 57, 58, 59, 60, 61, 62, 63, 64, 65, 66, 67, 68, 69, 70, 71] (by decide +kernel) (by decide +kernel)
set_option maxRecDepth 20000 in
theorem gX2_closeBy_X2_goneAlong : GoodIn wsX2_closeBy (wsV RX2 89 RX2 yX2_goneAlong wsX2_goneAlong) := goodIn_app (goodIn_of _ (by decide +kernel)) ggX2_closeBy_X2_goneAlong
set_option maxRecDepth 20000 in
theorem ggX2_closeBy_X5_lengthOf : GoodIn wsX2_closeBy wsX5_lengthOf := goodIn_r _ [24, 25, 26, 27, 28, 29, 64, 65, 66, 67, 68, 69, 70, 71] (by decide +kernel) (by decide +kernel)
set_option maxRecDepth 20000 in
theorem gX2_closeBy_X5_lengthOf : GoodIn wsX2_closeBy (wsV RX2 82 RX5 yX5_lengthOf wsX5_lengthOf) := goodIn_app (goodIn_of _ (by decide +kernel)) ggX2_closeBy_X5_lengthOf
set_option maxRecDepth 20000 in
theorem ggX2_closeBy_X7_between : GoodIn wsX2_closeBy wsX7_between := goodIn_r _ [18, 19, 72, 73, 74, 75, 76, 77] (by decide +kernel) (by decide +kernel)
set_option maxRecDepth 20000 in
theorem gX2_closeBy_X7_between : GoodIn wsX2_closeBy (wsV RX2 75 RX7 yX7_between wsX7_between) := goodIn_app (goodIn_of _ (by decide +kernel)) ggX2_closeBy_X7_between
def D_X2_closeBy : Md := (yX2_closeBy, cX2_closeBy, 7, none, wsX2_closeBy, RX2, { frames := 2, cells := 0, slots := 0, locals := 45 })
theorem nm_X2_closeBy : nmD D_X2_closeBy 1 := ⟨rfl, by decide +kernel, by decide +kernel, by decide +kernel⟩
theorem hi_X2_closeBy_X2 : ∀ w ∈ u_ws RX2 TX2 13, w ∈ wsX2_closeBy := by decide +kernel
theorem hi_X2_closeBy_X5 : ∀ w ∈ u_ws RX5 TX5 8, w ∈ wsX2_closeBy := by decide +kernel
theorem hi_X2_closeBy_X7 : ∀ w ∈ u_ws RX7 TX7 6, w ∈ wsX2_closeBy := by decide +kernel
theorem hl_X2_closeBy_15 : Cond.fieldLink RX2 15 "LevelLoops$Loops" "closing" "[I" ∈ wsX2_closeBy := by decide +kernel
theorem hl_X2_closeBy_18 : Cond.fieldLink RX2 18 "LevelLoops$Loops" "legs" "[I" ∈ wsX2_closeBy := by decide +kernel
theorem hl_X2_closeBy_21 : Cond.fieldLink RX2 21 "LevelLoops$Loops" "length" "[I" ∈ wsX2_closeBy := by decide +kernel
theorem hl_X2_closeBy_24 : Cond.fieldLink RX2 24 "LevelLoops$Loops" "forward" "[I" ∈ wsX2_closeBy := by decide +kernel
theorem hl_X2_closeBy_27 : Cond.fieldLink RX2 27 "LevelLoops$Loops" "miss" "[I" ∈ wsX2_closeBy := by decide +kernel
theorem hl_X2_closeBy_39 : Cond.fieldLink RX2 39 "LevelLoops$Loops" "survey" "LLevelLoops$Survey;" ∈ wsX2_closeBy := by decide +kernel
theorem hl_X2_closeBy_43 : Cond.fieldLink RX2 43 "LevelLoops$Loops" "tree" "LLevelLoops$Tree;" ∈ wsX2_closeBy := by decide +kernel
theorem hl_X2_closeBy_47 : Cond.fieldLink RX2 47 "LevelLoops$Loops" "size" "I" ∈ wsX2_closeBy := by decide +kernel
theorem hl_X2_closeBy_51 : Cond.fieldLink RX2 51 "LevelLoops$Loops" "bad" "I" ∈ wsX2_closeBy := by decide +kernel
theorem hl_X2_closeBy_69 : Cond.fieldLink RX2 69 "LevelLoops$Survey" "from" "[I" ∈ wsX2_closeBy := by decide +kernel
theorem hl_X2_closeBy_72 : Cond.fieldLink RX2 72 "LevelLoops$Survey" "to" "[I" ∈ wsX2_closeBy := by decide +kernel
theorem hl_X2_closeBy_79 : Cond.fieldLink RX2 79 "LevelLoops$Tree" "toTop" "[I" ∈ wsX2_closeBy := by decide +kernel
theorem hl_X2_closeBy_86 : Cond.fieldLink RX2 86 "LevelLoops$Tree" "downward" "I" ∈ wsX2_closeBy := by decide +kernel
def wp_X2_closeBy_J188 (n : Nat) (w : Wd) (Q : Wd → Prop) : Prop :=
  (∀ w195 : Wd, w195 = (sI w n 12 0 ((wi w n 12 0) + (1 : Int32))) → Q w195)
def wp_X2_closeBy (n : Nat) (x1 : Int32) (w : Wd) (Q : Wd → Prop) : Prop :=
  vp_in x1 20 ∧ vp_in x1 20 ∧ wp_X7_between n (wi w n 2 x1.toNatClampNeg) (wi w n 3 x1.toNatClampNeg) w (fun r26 => vp_in (wi w n 3 x1.toNatClampNeg) 10 ∧ vp_in (wi w n 2 x1.toNatClampNeg) 10 ∧ vp_in (wi w n 12 0) 20 ∧ (∀ w68 : Wd, w68 = (sI w n 14 (wi w n 12 0).toNatClampNeg x1) → vp_in (wi w68 n 12 0) 20 ∧ (∀ w83 : Wd, w83 = (sI w68 n 15 (wi w68 n 12 0).toNatClampNeg (r26 ||| ((1 : Int32) <<< (x1 &&& 31)))) → vp_in (wi w83 n 12 0) 20 ∧ wp_X5_lengthOf n (wi w83 n 15 (wi w83 n 12 0).toNatClampNeg) w83 (fun r105 => vp_in (wi w83 n 12 0) 20 ∧ (∀ w108 : Wd, w108 = (sI w83 n 16 (wi w83 n 12 0).toNatClampNeg r105) → vp_in (wi w108 n 12 0) 20 ∧ (∀ w144 : Wd, w144 = (sI w108 n 17 (wi w108 n 12 0).toNatClampNeg ((((1 : Int32) <<< (x1 &&& 31)) ||| ((r26 &&& (wi w n 10 (wi w n 2 x1.toNatClampNeg).toNatClampNeg)) &&& (wi w108 n 8 1))) ||| ((r26 &&& (wi w n 10 (wi w n 3 x1.toNatClampNeg).toNatClampNeg)) &&& ((wi w108 n 8 1) ^^^ (-1 : Int32))))) → wp_X2_goneAlong n (wi w144 n 12 0) w144 (fun r158 => vp_in (wi w144 n 12 0) 20 ∧ (∀ w161 : Wd, w161 = (sI w144 n 18 (wi w144 n 12 0).toNatClampNeg r158) → wp_X2_excess n (wi w161 n 12 0) w161 (fun r167 => ((r167 ≤ 0 → wp_X2_closeBy_J188 n w161 Q) ∧ (¬ r167 ≤ 0 → (∀ w185 : Wd, w185 = (sI w161 n 12 4 ((wi w161 n 12 4) ||| ((1 : Int32) <<< ((wi w161 n 12 0) &&& 31)))) → wp_X2_closeBy_J188 n w185 Q))))))))))))
theorem ok_X2_closeBy_J188 {G : Gt} {M : Mx} {Qf : State → Prop} {n : Nat} {w : Wd} {Q : Wd → Prop} (hC : cx G D_X2_closeBy M) (he : en G M (qv Q) Qf) (hn : n < 2) (h : wp_X2_closeBy_J188 n w Q) : jq G D_X2_closeBy M Qf 188 [(0, .ref (aD G n 12))] [] w := by
  unfold wp_X2_closeBy_J188 at h
  refine jq_aload_n (k0 := 0) dX2_closeBy_188 hC rfl rfl ?_
  refine jq_dup dX2_closeBy_189 hC rfl ?_
  refine jq_get (k0 := 0) (n := n) (o := 12) dX2_closeBy_190 hC (cl_T (by omega) (by decide)) rfl rfl hi_X2_closeBy_X2 (by decide) hl_X2_closeBy_47 rfl rfl ?_
  refine jq_iconst (v := (1 : Int32)) dX2_closeBy_193 hC (by decide) ?_
  refine jq_iadd dX2_closeBy_194 hC ?_
  refine jq_put (k0 := 0) (n := n) (o := 12) (ty := .int) (w' := (sI w n 12 0 ((wi w n 12 0) + (1 : Int32)))) dX2_closeBy_195 hC (cl_T (by omega) (by decide)) rfl rfl hi_X2_closeBy_X2 tyX2 tyX2_ok nmX2 (by decide) hl_X2_closeBy_47 rfl rfl (by decide +kernel) rfl rfl (Nat.le_of_ble_eq_true rfl) (e_12_0 G _ _ _) (fun c _ hne => ent_sA c hne) ?_
  refine jq_w (fun w195 e195 => ?_)
  have h := h w195 e195
  exact jq_vret dX2_closeBy_198 hC he rfl ⟨rfl, h⟩
theorem ok_X2_closeBy {G : Gt} {M : Mx} {Qf : State → Prop} {n : Nat} {x1 : Int32} {w : Wd} {Q : Wd → Prop} (hC : cx G D_X2_closeBy M) (he : en G M (qv Q) Qf) (hn : n < 2) (h : wp_X2_closeBy n x1 w Q) : jq G D_X2_closeBy M Qf 0 [(0, .ref (aD G n 12)), (1, .int x1)] [] w := by
  unfold wp_X2_closeBy at h
  refine jq_aload_n (k0 := 0) dX2_closeBy_0 hC rfl rfl ?_
  refine jq_get (k0 := 2) (n := n) (o := 12) dX2_closeBy_1 hC (cl_T (by omega) (by decide)) rfl rfl hi_X2_closeBy_X2 (by decide) hl_X2_closeBy_39 rfl rfl ?_
  refine jq_get (k0 := 3) (n := n) (o := 0) dX2_closeBy_4 hC (cl_S (by omega) (by decide)) rfl rfl hi_X2_closeBy_X5 (by decide) hl_X2_closeBy_69 rfl rfl ?_
  refine jq_iload_n (k0 := 1) dX2_closeBy_7 hC rfl rfl ?_
  obtain ⟨b8, h⟩ := h
  refine jq_iald (n := n) (o := 2) (j := x1.toNatClampNeg) dX2_closeBy_8 hC (cl_S (by omega) (by decide)) rfl b8 rfl ?_
  refine jq_istore_n (L' := [(2, .int (wi w n 2 x1.toNatClampNeg)), (0, .ref (aD G n 12)), (1, .int x1)]) dX2_closeBy_9 hC rfl (by decide) rfl ?_
  refine jq_aload_n (k0 := 1) dX2_closeBy_10 hC rfl rfl ?_
  refine jq_get (k0 := 2) (n := n) (o := 12) dX2_closeBy_11 hC (cl_T (by omega) (by decide)) rfl rfl hi_X2_closeBy_X2 (by decide) hl_X2_closeBy_39 rfl rfl ?_
  refine jq_get (k0 := 4) (n := n) (o := 0) dX2_closeBy_14 hC (cl_S (by omega) (by decide)) rfl rfl hi_X2_closeBy_X5 (by decide) hl_X2_closeBy_72 rfl rfl ?_
  refine jq_iload_n (k0 := 2) dX2_closeBy_17 hC rfl rfl ?_
  obtain ⟨b18, h⟩ := h
  refine jq_iald (n := n) (o := 3) (j := x1.toNatClampNeg) dX2_closeBy_18 hC (cl_S (by omega) (by decide)) rfl b18 rfl ?_
  refine jq_istore_n (L' := [(3, .int (wi w n 3 x1.toNatClampNeg)), (2, .int (wi w n 2 x1.toNatClampNeg)), (0, .ref (aD G n 12)), (1, .int x1)]) dX2_closeBy_19 hC rfl (by decide) rfl ?_
  refine jq_aload_n (k0 := 2) dX2_closeBy_20 hC rfl rfl ?_
  refine jq_get (k0 := 3) (n := n) (o := 12) dX2_closeBy_21 hC (cl_T (by omega) (by decide)) rfl rfl hi_X2_closeBy_X2 (by decide) hl_X2_closeBy_43 rfl rfl ?_
  refine jq_iload_n (k0 := 1) dX2_closeBy_24 hC rfl rfl ?_
  refine jq_iload_n (k0 := 0) dX2_closeBy_25 hC rfl rfl ?_
  refine jq_callV (As := [.int (wi w n 2 x1.toNatClampNeg), .int (wi w n 3 x1.toNatClampNeg)]) (rest := []) (n := n) (o := 8) (D' := D_X7_between) dX2_closeBy_26 hC (cl_T (by omega) (by decide)) rfl rfl rfl (mt_X7_between (by omega) h) gX2_closeBy_X7_between rfl ⟨rfl, rfl, Nat.le_of_ble_eq_true rfl, Nat.le_of_ble_eq_true rfl⟩ nm_X7_between rfl (Nat.le_of_ble_eq_true rfl) (kIp fun r26 h => ?_)
  refine jq_istore (L' := [(4, .int r26), (3, .int (wi w n 3 x1.toNatClampNeg)), (2, .int (wi w n 2 x1.toNatClampNeg)), (0, .ref (aD G n 12)), (1, .int x1)]) dX2_closeBy_29 hC (by decide) rfl ?_
  refine jq_iload (k0 := 0) dX2_closeBy_31 hC rfl ?_
  refine jq_aload_n (k0 := 3) dX2_closeBy_33 hC rfl rfl ?_
  refine jq_get (k0 := 3) (n := n) (o := 12) dX2_closeBy_34 hC (cl_T (by omega) (by decide)) rfl rfl hi_X2_closeBy_X2 (by decide) hl_X2_closeBy_43 rfl rfl ?_
  refine jq_get (k0 := 3) (n := n) (o := 8) dX2_closeBy_37 hC (cl_T (by omega) (by decide)) rfl rfl hi_X2_closeBy_X7 (by decide) hl_X2_closeBy_79 rfl rfl ?_
  refine jq_iload_n (k0 := 1) dX2_closeBy_40 hC rfl rfl ?_
  obtain ⟨b41, h⟩ := h
  refine jq_iald (n := n) (o := 10) (j := (wi w n 3 x1.toNatClampNeg).toNatClampNeg) dX2_closeBy_41 hC (cl_T (by omega) (by decide)) rfl b41 rfl ?_
  refine jq_iand dX2_closeBy_42 hC ?_
  refine jq_istore (L' := [(5, .int (r26 &&& (wi w n 10 (wi w n 3 x1.toNatClampNeg).toNatClampNeg))), (4, .int r26), (3, .int (wi w n 3 x1.toNatClampNeg)), (2, .int (wi w n 2 x1.toNatClampNeg)), (0, .ref (aD G n 12)), (1, .int x1)]) dX2_closeBy_43 hC (by decide) rfl ?_
  refine jq_iload (k0 := 1) dX2_closeBy_45 hC rfl ?_
  refine jq_aload_n (k0 := 4) dX2_closeBy_47 hC rfl rfl ?_
  refine jq_get (k0 := 3) (n := n) (o := 12) dX2_closeBy_48 hC (cl_T (by omega) (by decide)) rfl rfl hi_X2_closeBy_X2 (by decide) hl_X2_closeBy_43 rfl rfl ?_
  refine jq_get (k0 := 3) (n := n) (o := 8) dX2_closeBy_51 hC (cl_T (by omega) (by decide)) rfl rfl hi_X2_closeBy_X7 (by decide) hl_X2_closeBy_79 rfl rfl ?_
  refine jq_iload_n (k0 := 3) dX2_closeBy_54 hC rfl rfl ?_
  obtain ⟨b55, h⟩ := h
  refine jq_iald (n := n) (o := 10) (j := (wi w n 2 x1.toNatClampNeg).toNatClampNeg) dX2_closeBy_55 hC (cl_T (by omega) (by decide)) rfl b55 rfl ?_
  refine jq_iand dX2_closeBy_56 hC ?_
  refine jq_istore (L' := [(6, .int (r26 &&& (wi w n 10 (wi w n 2 x1.toNatClampNeg).toNatClampNeg))), (5, .int (r26 &&& (wi w n 10 (wi w n 3 x1.toNatClampNeg).toNatClampNeg))), (4, .int r26), (3, .int (wi w n 3 x1.toNatClampNeg)), (2, .int (wi w n 2 x1.toNatClampNeg)), (0, .ref (aD G n 12)), (1, .int x1)]) dX2_closeBy_57 hC (by decide) rfl ?_
  refine jq_aload_n (k0 := 5) dX2_closeBy_59 hC rfl rfl ?_
  refine jq_get (k0 := 5) (n := n) (o := 12) dX2_closeBy_60 hC (cl_T (by omega) (by decide)) rfl rfl hi_X2_closeBy_X2 (by decide) hl_X2_closeBy_15 rfl rfl ?_
  refine jq_aload_n (k0 := 5) dX2_closeBy_63 hC rfl rfl ?_
  refine jq_get (k0 := 0) (n := n) (o := 12) dX2_closeBy_64 hC (cl_T (by omega) (by decide)) rfl rfl hi_X2_closeBy_X2 (by decide) hl_X2_closeBy_47 rfl rfl ?_
  refine jq_iload_n (k0 := 6) dX2_closeBy_67 hC rfl rfl ?_
  obtain ⟨b68, h⟩ := h
  refine jq_iast (n := n) (o := 14) (j := (wi w n 12 0).toNatClampNeg) dX2_closeBy_68 hC (cl_T (by omega) (by decide)) (fun _ => rfl) b68 rfl ?_
  refine jq_w (fun w68 e68 => ?_)
  have h := h w68 e68
  refine jq_aload_n (k0 := 5) dX2_closeBy_69 hC rfl rfl ?_
  refine jq_get (k0 := 6) (n := n) (o := 12) dX2_closeBy_70 hC (cl_T (by omega) (by decide)) rfl rfl hi_X2_closeBy_X2 (by decide) hl_X2_closeBy_18 rfl rfl ?_
  refine jq_aload_n (k0 := 5) dX2_closeBy_73 hC rfl rfl ?_
  refine jq_get (k0 := 0) (n := n) (o := 12) dX2_closeBy_74 hC (cl_T (by omega) (by decide)) rfl rfl hi_X2_closeBy_X2 (by decide) hl_X2_closeBy_47 rfl rfl ?_
  refine jq_iload (k0 := 2) dX2_closeBy_77 hC rfl ?_
  refine jq_iconst (v := (1 : Int32)) dX2_closeBy_79 hC (by decide) ?_
  refine jq_iload_n (k0 := 6) dX2_closeBy_80 hC rfl rfl ?_
  refine jq_ishl dX2_closeBy_81 hC ?_
  refine jq_ior dX2_closeBy_82 hC ?_
  obtain ⟨b83, h⟩ := h
  refine jq_iast (n := n) (o := 15) (j := (wi w68 n 12 0).toNatClampNeg) dX2_closeBy_83 hC (cl_T (by omega) (by decide)) (fun _ => rfl) b83 rfl ?_
  refine jq_w (fun w83 e83 => ?_)
  have h := h w83 e83
  refine jq_aload_n (k0 := 5) dX2_closeBy_84 hC rfl rfl ?_
  refine jq_get (k0 := 7) (n := n) (o := 12) dX2_closeBy_85 hC (cl_T (by omega) (by decide)) rfl rfl hi_X2_closeBy_X2 (by decide) hl_X2_closeBy_21 rfl rfl ?_
  refine jq_aload_n (k0 := 5) dX2_closeBy_88 hC rfl rfl ?_
  refine jq_get (k0 := 0) (n := n) (o := 12) dX2_closeBy_89 hC (cl_T (by omega) (by decide)) rfl rfl hi_X2_closeBy_X2 (by decide) hl_X2_closeBy_47 rfl rfl ?_
  refine jq_aload_n (k0 := 5) dX2_closeBy_92 hC rfl rfl ?_
  refine jq_get (k0 := 2) (n := n) (o := 12) dX2_closeBy_93 hC (cl_T (by omega) (by decide)) rfl rfl hi_X2_closeBy_X2 (by decide) hl_X2_closeBy_39 rfl rfl ?_
  refine jq_aload_n (k0 := 5) dX2_closeBy_96 hC rfl rfl ?_
  refine jq_get (k0 := 6) (n := n) (o := 12) dX2_closeBy_97 hC (cl_T (by omega) (by decide)) rfl rfl hi_X2_closeBy_X2 (by decide) hl_X2_closeBy_18 rfl rfl ?_
  refine jq_aload_n (k0 := 5) dX2_closeBy_100 hC rfl rfl ?_
  refine jq_get (k0 := 0) (n := n) (o := 12) dX2_closeBy_101 hC (cl_T (by omega) (by decide)) rfl rfl hi_X2_closeBy_X2 (by decide) hl_X2_closeBy_47 rfl rfl ?_
  obtain ⟨b104, h⟩ := h
  refine jq_iald (n := n) (o := 15) (j := (wi w83 n 12 0).toNatClampNeg) dX2_closeBy_104 hC (cl_T (by omega) (by decide)) rfl b104 rfl ?_
  refine jq_callV (As := [.int (wi w83 n 15 (wi w83 n 12 0).toNatClampNeg)]) (rest := [.int (wi w83 n 12 0), .ref (aD G n 16)]) (n := n) (o := 0) (D' := D_X5_lengthOf) dX2_closeBy_105 hC (cl_S (by omega) (by decide)) rfl rfl rfl (mt_X5_lengthOf (by omega) h) gX2_closeBy_X5_lengthOf rfl ⟨rfl, rfl, Nat.le_of_ble_eq_true rfl, Nat.le_of_ble_eq_true rfl⟩ nm_X5_lengthOf rfl (Nat.le_of_ble_eq_true rfl) (kIp fun r105 h => ?_)
  obtain ⟨b108, h⟩ := h
  refine jq_iast (n := n) (o := 16) (j := (wi w83 n 12 0).toNatClampNeg) dX2_closeBy_108 hC (cl_T (by omega) (by decide)) (fun _ => rfl) b108 rfl ?_
  refine jq_w (fun w108 e108 => ?_)
  have h := h w108 e108
  refine jq_aload_n (k0 := 5) dX2_closeBy_109 hC rfl rfl ?_
  refine jq_get (k0 := 8) (n := n) (o := 12) dX2_closeBy_110 hC (cl_T (by omega) (by decide)) rfl rfl hi_X2_closeBy_X2 (by decide) hl_X2_closeBy_24 rfl rfl ?_
  refine jq_aload_n (k0 := 5) dX2_closeBy_113 hC rfl rfl ?_
  refine jq_get (k0 := 0) (n := n) (o := 12) dX2_closeBy_114 hC (cl_T (by omega) (by decide)) rfl rfl hi_X2_closeBy_X2 (by decide) hl_X2_closeBy_47 rfl rfl ?_
  refine jq_iconst (v := (1 : Int32)) dX2_closeBy_117 hC (by decide) ?_
  refine jq_iload_n (k0 := 6) dX2_closeBy_118 hC rfl rfl ?_
  refine jq_ishl dX2_closeBy_119 hC ?_
  refine jq_iload (k0 := 0) dX2_closeBy_120 hC rfl ?_
  refine jq_aload_n (k0 := 5) dX2_closeBy_122 hC rfl rfl ?_
  refine jq_get (k0 := 3) (n := n) (o := 12) dX2_closeBy_123 hC (cl_T (by omega) (by decide)) rfl rfl hi_X2_closeBy_X2 (by decide) hl_X2_closeBy_43 rfl rfl ?_
  refine jq_get (k0 := 1) (n := n) (o := 8) dX2_closeBy_126 hC (cl_T (by omega) (by decide)) rfl rfl hi_X2_closeBy_X7 (by decide) hl_X2_closeBy_86 rfl rfl ?_
  refine jq_iand dX2_closeBy_129 hC ?_
  refine jq_ior dX2_closeBy_130 hC ?_
  refine jq_iload (k0 := 1) dX2_closeBy_131 hC rfl ?_
  refine jq_aload_n (k0 := 5) dX2_closeBy_133 hC rfl rfl ?_
  refine jq_get (k0 := 3) (n := n) (o := 12) dX2_closeBy_134 hC (cl_T (by omega) (by decide)) rfl rfl hi_X2_closeBy_X2 (by decide) hl_X2_closeBy_43 rfl rfl ?_
  refine jq_get (k0 := 1) (n := n) (o := 8) dX2_closeBy_137 hC (cl_T (by omega) (by decide)) rfl rfl hi_X2_closeBy_X7 (by decide) hl_X2_closeBy_86 rfl rfl ?_
  refine jq_iconst (v := (-1 : Int32)) dX2_closeBy_140 hC (by decide) ?_
  refine jq_ixor dX2_closeBy_141 hC ?_
  refine jq_iand dX2_closeBy_142 hC ?_
  refine jq_ior dX2_closeBy_143 hC ?_
  obtain ⟨b144, h⟩ := h
  refine jq_iast (n := n) (o := 17) (j := (wi w108 n 12 0).toNatClampNeg) dX2_closeBy_144 hC (cl_T (by omega) (by decide)) (fun _ => rfl) b144 rfl ?_
  refine jq_w (fun w144 e144 => ?_)
  have h := h w144 e144
  refine jq_aload_n (k0 := 5) dX2_closeBy_145 hC rfl rfl ?_
  refine jq_get (k0 := 9) (n := n) (o := 12) dX2_closeBy_146 hC (cl_T (by omega) (by decide)) rfl rfl hi_X2_closeBy_X2 (by decide) hl_X2_closeBy_27 rfl rfl ?_
  refine jq_aload_n (k0 := 5) dX2_closeBy_149 hC rfl rfl ?_
  refine jq_get (k0 := 0) (n := n) (o := 12) dX2_closeBy_150 hC (cl_T (by omega) (by decide)) rfl rfl hi_X2_closeBy_X2 (by decide) hl_X2_closeBy_47 rfl rfl ?_
  refine jq_aload_n (k0 := 5) dX2_closeBy_153 hC rfl rfl ?_
  refine jq_aload_n (k0 := 5) dX2_closeBy_154 hC rfl rfl ?_
  refine jq_get (k0 := 0) (n := n) (o := 12) dX2_closeBy_155 hC (cl_T (by omega) (by decide)) rfl rfl hi_X2_closeBy_X2 (by decide) hl_X2_closeBy_47 rfl rfl ?_
  refine jq_callV (As := [.int (wi w144 n 12 0)]) (rest := [.int (wi w144 n 12 0), .ref (aD G n 18)]) (n := n) (o := 12) (D' := D_X2_goneAlong) dX2_closeBy_158 hC (cl_T (by omega) (by decide)) rfl rfl rfl (mt_X2_goneAlong (by omega) h) gX2_closeBy_X2_goneAlong rfl ⟨rfl, rfl, Nat.le_of_ble_eq_true rfl, Nat.le_of_ble_eq_true rfl⟩ nm_X2_goneAlong rfl (Nat.le_of_ble_eq_true rfl) (kIp fun r158 h => ?_)
  obtain ⟨b161, h⟩ := h
  refine jq_iast (n := n) (o := 18) (j := (wi w144 n 12 0).toNatClampNeg) dX2_closeBy_161 hC (cl_T (by omega) (by decide)) (fun _ => rfl) b161 rfl ?_
  refine jq_w (fun w161 e161 => ?_)
  have h := h w161 e161
  refine jq_aload_n (k0 := 5) dX2_closeBy_162 hC rfl rfl ?_
  refine jq_aload_n (k0 := 5) dX2_closeBy_163 hC rfl rfl ?_
  refine jq_get (k0 := 0) (n := n) (o := 12) dX2_closeBy_164 hC (cl_T (by omega) (by decide)) rfl rfl hi_X2_closeBy_X2 (by decide) hl_X2_closeBy_47 rfl rfl ?_
  refine jq_callV (As := [.int (wi w161 n 12 0)]) (rest := []) (n := n) (o := 12) (D' := D_X2_excess) dX2_closeBy_167 hC (cl_T (by omega) (by decide)) rfl rfl rfl (mt_X2_excess (by omega) h) gX2_closeBy_X2_excess rfl ⟨rfl, rfl, Nat.le_of_ble_eq_true rfl, Nat.le_of_ble_eq_true rfl⟩ nm_X2_excess rfl (Nat.le_of_ble_eq_true rfl) (kIp fun r167 h => ?_)
  refine jq_if_le (tgt := 188) dX2_closeBy_170 hC (by decide) (fun c170 => ?_) (fun c170 => ?_)
  · have h := h.1 c170
    refine jq_less (L' := [(0, .ref (aD G n 12))]) [5] rfl ?_
    exact ok_X2_closeBy_J188 hC he hn h
  · have h := h.2 c170
    refine jq_aload_n (k0 := 5) dX2_closeBy_173 hC rfl rfl ?_
    refine jq_dup dX2_closeBy_174 hC rfl ?_
    refine jq_get (k0 := 4) (n := n) (o := 12) dX2_closeBy_175 hC (cl_T (by omega) (by decide)) rfl rfl hi_X2_closeBy_X2 (by decide) hl_X2_closeBy_51 rfl rfl ?_
    refine jq_iconst (v := (1 : Int32)) dX2_closeBy_178 hC (by decide) ?_
    refine jq_aload_n (k0 := 5) dX2_closeBy_179 hC rfl rfl ?_
    refine jq_get (k0 := 0) (n := n) (o := 12) dX2_closeBy_180 hC (cl_T (by omega) (by decide)) rfl rfl hi_X2_closeBy_X2 (by decide) hl_X2_closeBy_47 rfl rfl ?_
    refine jq_ishl dX2_closeBy_183 hC ?_
    refine jq_ior dX2_closeBy_184 hC ?_
    refine jq_put (k0 := 4) (n := n) (o := 12) (ty := .int) (w' := (sI w161 n 12 4 ((wi w161 n 12 4) ||| ((1 : Int32) <<< ((wi w161 n 12 0) &&& 31))))) dX2_closeBy_185 hC (cl_T (by omega) (by decide)) rfl rfl hi_X2_closeBy_X2 tyX2 tyX2_ok nmX2 (by decide) hl_X2_closeBy_51 rfl rfl (by decide +kernel) rfl rfl (Nat.le_of_ble_eq_true rfl) (e_12_4 G _ _ _) (fun c _ hne => ent_sA c hne) ?_
    refine jq_w (fun w185 e185 => ?_)
    have h := h w185 e185
    refine jq_less (L' := [(0, .ref (aD G n 12))]) [5] rfl ?_
    exact ok_X2_closeBy_J188 hC he hn h
theorem mt_X2_closeBy {G : Gt} {n : Nat} {x1 : Int32} {w : Wd} {Q : Wd → Prop} (hn : n < 2) (h : wp_X2_closeBy n x1 w Q) : Mt G D_X2_closeBy [.ref (aD G n 12), .int x1] w (qv Q) := Mt_of (by decide +kernel) rfl rfl (Nat.le_of_ble_eq_true rfl) (fun M Qf hC he => ok_X2_closeBy hC he hn h)
/-! X2.close()V -/
theorem dX2_close_0 : decode cX2_close 0 = .ok (.aload_n 0, 1) := by decide +kernel
theorem dX2_close_1 : decode cX2_close 1 = .ok (.iconst 0, 1) := by decide +kernel
theorem dX2_close_2 : decode cX2_close 2 = .ok (.putfield 47, 3) := by decide +kernel
theorem dX2_close_5 : decode cX2_close 5 = .ok (.aload_n 0, 1) := by decide +kernel
theorem dX2_close_6 : decode cX2_close 6 = .ok (.iconst 0, 1) := by decide +kernel
theorem dX2_close_7 : decode cX2_close 7 = .ok (.putfield 51, 3) := by decide +kernel
theorem dX2_close_10 : decode cX2_close 10 = .ok (.iconst 0, 1) := by decide +kernel
theorem dX2_close_11 : decode cX2_close 11 = .ok (.istore_n 1, 1) := by decide +kernel
theorem dX2_close_12 : decode cX2_close 12 = .ok (.iload_n 1, 1) := by decide +kernel
theorem dX2_close_13 : decode cX2_close 13 = .ok (.aload_n 0, 1) := by decide +kernel
theorem dX2_close_14 : decode cX2_close 14 = .ok (.getfield 39, 3) := by decide +kernel
theorem dX2_close_17 : decode cX2_close 17 = .ok (.getfield 54, 3) := by decide +kernel
theorem dX2_close_20 : decode cX2_close 20 = .ok (.if_icmp .ge 16, 3) := by decide +kernel
theorem dX2_close_23 : decode cX2_close 23 = .ok (.aload_n 0, 1) := by decide +kernel
theorem dX2_close_24 : decode cX2_close 24 = .ok (.getfield 9, 3) := by decide +kernel
theorem dX2_close_27 : decode cX2_close 27 = .ok (.iload_n 1, 1) := by decide +kernel
theorem dX2_close_28 : decode cX2_close 28 = .ok (.iconst 0, 1) := by decide +kernel
theorem dX2_close_29 : decode cX2_close 29 = .ok (.iastore, 1) := by decide +kernel
theorem dX2_close_30 : decode cX2_close 30 = .ok (.iinc 1 1, 3) := by decide +kernel
theorem dX2_close_33 : decode cX2_close 33 = .ok (.goto (-21), 3) := by decide +kernel
theorem dX2_close_36 : decode cX2_close 36 = .ok (.iconst 0, 1) := by decide +kernel
theorem dX2_close_37 : decode cX2_close 37 = .ok (.istore_n 1, 1) := by decide +kernel
theorem dX2_close_38 : decode cX2_close 38 = .ok (.iload_n 1, 1) := by decide +kernel
theorem dX2_close_39 : decode cX2_close 39 = .ok (.aload_n 0, 1) := by decide +kernel
theorem dX2_close_40 : decode cX2_close 40 = .ok (.getfield 39, 3) := by decide +kernel
theorem dX2_close_43 : decode cX2_close 43 = .ok (.getfield 54, 3) := by decide +kernel
theorem dX2_close_46 : decode cX2_close 46 = .ok (.if_icmp .ge 28, 3) := by decide +kernel
theorem dX2_close_49 : decode cX2_close 49 = .ok (.aload_n 0, 1) := by decide +kernel
theorem dX2_close_50 : decode cX2_close 50 = .ok (.getfield 43, 3) := by decide +kernel
theorem dX2_close_53 : decode cX2_close 53 = .ok (.getfield 58, 3) := by decide +kernel
theorem dX2_close_56 : decode cX2_close 56 = .ok (.iload_n 1, 1) := by decide +kernel
theorem dX2_close_57 : decode cX2_close 57 = .ok (.invokestatic 61, 3) := by decide +kernel
theorem dX2_close_60 : decode cX2_close 60 = .ok (.ifCond .ne 8, 3) := by decide +kernel
theorem dX2_close_63 : decode cX2_close 63 = .ok (.aload_n 0, 1) := by decide +kernel
theorem dX2_close_64 : decode cX2_close 64 = .ok (.iload_n 1, 1) := by decide +kernel
theorem dX2_close_65 : decode cX2_close 65 = .ok (.invokevirtual 65, 3) := by decide +kernel
theorem dX2_close_68 : decode cX2_close 68 = .ok (.iinc 1 1, 3) := by decide +kernel
theorem dX2_close_71 : decode cX2_close 71 = .ok (.goto (-33), 3) := by decide +kernel
theorem dX2_close_74 : decode cX2_close 74 = .ok (.return_, 1) := by decide +kernel
set_option maxRecDepth 20000 in
theorem ggX2_close_X2_closeBy : GoodIn wsX2_close wsX2_closeBy := goodIn_r _ [15, 3, 16, 17, 6, 18, 19, 1, 20, 21, 22, 23, 24, 2, 25, 26, 27, 28, 29, 30, 31, 32, 33, 34, 35, 36, 37, 8, 9, 10, 38, 39, 40, 14, 41, 4, 42, 5, 43, 44, 45, 46, 47, 48, 49, 50, 51, 52, 53, 54, 55, 56, 57, 58, 59, 60, 61, 62, 63, 64, 65, 66, 67, 68, 69, 70, 71, 72, 73, 74, 75, 76, 77, 78, 79, 80, 81, 82] (by decide +kernel) (by decide +kernel)
set_option maxRecDepth 20000 in
theorem gX2_close_X2_closeBy : GoodIn wsX2_close (wsV RX2 65 RX2 yX2_closeBy wsX2_closeBy) := goodIn_app (goodIn_of _ (by decide +kernel)) ggX2_close_X2_closeBy
set_option maxRecDepth 20000 in
theorem ggX2_close_X8_isIn : GoodIn wsX2_close wsX8_isIn := goodIn_r _ [10] (by decide +kernel) (by decide +kernel)
def D_X2_close : Md := (yX2_close, cX2_close, 2, none, wsX2_close, RX2, { frames := 3, cells := 0, slots := 0, locals := 71 })
theorem nm_X2_close : nmD D_X2_close 0 := ⟨rfl, by decide +kernel, by decide +kernel, by decide +kernel⟩
theorem hi_X2_close_X2 : ∀ w ∈ u_ws RX2 TX2 13, w ∈ wsX2_close := by decide +kernel
theorem hi_X2_close_X5 : ∀ w ∈ u_ws RX5 TX5 8, w ∈ wsX2_close := by decide +kernel
theorem hi_X2_close_X7 : ∀ w ∈ u_ws RX7 TX7 6, w ∈ wsX2_close := by decide +kernel
theorem hl_X2_close_9 : Cond.fieldLink RX2 9 "LevelLoops$Loops" "correction" "[I" ∈ wsX2_close := by decide +kernel
theorem hl_X2_close_39 : Cond.fieldLink RX2 39 "LevelLoops$Loops" "survey" "LLevelLoops$Survey;" ∈ wsX2_close := by decide +kernel
theorem hl_X2_close_43 : Cond.fieldLink RX2 43 "LevelLoops$Loops" "tree" "LLevelLoops$Tree;" ∈ wsX2_close := by decide +kernel
theorem hl_X2_close_47 : Cond.fieldLink RX2 47 "LevelLoops$Loops" "size" "I" ∈ wsX2_close := by decide +kernel
theorem hl_X2_close_51 : Cond.fieldLink RX2 51 "LevelLoops$Loops" "bad" "I" ∈ wsX2_close := by decide +kernel
theorem hl_X2_close_54 : Cond.fieldLink RX2 54 "LevelLoops$Survey" "legs" "I" ∈ wsX2_close := by decide +kernel
theorem hl_X2_close_58 : Cond.fieldLink RX2 58 "LevelLoops$Tree" "legs" "I" ∈ wsX2_close := by decide +kernel
def wp_X2_close_B38 (n : Nat) (x1 : Int32) (w : Wd) (Q : Wd → Prop) (K38 : Int32 → Wd → Prop) : Prop :=
  (((wi w n 0 1) ≤ x1 → Q w) ∧ (¬ (wi w n 0 1) ≤ x1 → wp_X8_isIn (wi w n 8 0) x1 (fun r57 => ((¬ r57 = 0 → K38 (x1 + 1) w) ∧ (r57 = 0 → wp_X2_closeBy n x1 w (fun w65 => K38 (x1 + 1) w65))))))
def wp_X2_close_L38 (n : Nat) (x1 : Int32) (w : Wd) (Q : Wd → Prop) : Prop :=
  ∃ (I : Int32 → Wd → Prop) (μ : Int32 → Wd → Nat), I x1 w ∧ ∀ (x1 : Int32) (w : Wd), I x1 w → wp_X2_close_B38 n x1 w Q (fun x1' w' => I x1' w' ∧ μ x1' w' < μ x1 w)
def wp_X2_close_B12 (n : Nat) (x1 : Int32) (w : Wd) (Q : Wd → Prop) (K12 : Int32 → Wd → Prop) : Prop :=
  (((wi w n 0 1) ≤ x1 → wp_X2_close_L38 n (0 : Int32) w Q) ∧ (¬ (wi w n 0 1) ≤ x1 → vp_in x1 20 ∧ (∀ w29 : Wd, w29 = (sI w n 13 x1.toNatClampNeg (0 : Int32)) → K12 (x1 + 1) w29)))
def wp_X2_close_L12 (n : Nat) (x1 : Int32) (w : Wd) (Q : Wd → Prop) : Prop :=
  ∃ (I : Int32 → Wd → Prop) (μ : Int32 → Wd → Nat), I x1 w ∧ ∀ (x1 : Int32) (w : Wd), I x1 w → wp_X2_close_B12 n x1 w Q (fun x1' w' => I x1' w' ∧ μ x1' w' < μ x1 w)
def wp_X2_close (n : Nat) (w : Wd) (Q : Wd → Prop) : Prop :=
  (∀ w2 : Wd, w2 = (sI w n 12 0 (0 : Int32)) → (∀ w7 : Wd, w7 = (sI w2 n 12 4 (0 : Int32)) → wp_X2_close_L12 n (0 : Int32) w7 Q))
theorem ok_X2_close_B38 {G : Gt} {M : Mx} {Qf : State → Prop} {n : Nat} {x1 : Int32} {w : Wd} {Q : Wd → Prop} {K38 : Int32 → Wd → Prop} (hC : cx G D_X2_close M) (he : en G M (qv Q) Qf) (hn : n < 2) (h : wp_X2_close_B38 n x1 w Q K38) (hK38 : ∀ (x1 : Int32) (w : Wd), K38 x1 w → jq G D_X2_close M Qf 38 [(0, .ref (aD G n 12)), (1, .int x1)] [] w) : jq G D_X2_close M Qf 38 [(0, .ref (aD G n 12)), (1, .int x1)] [] w := by
  unfold wp_X2_close_B38 at h
  refine jq_iload_n (k0 := 1) dX2_close_38 hC rfl rfl ?_
  refine jq_aload_n (k0 := 0) dX2_close_39 hC rfl rfl ?_
  refine jq_get (k0 := 2) (n := n) (o := 12) dX2_close_40 hC (cl_T (by omega) (by decide)) rfl rfl hi_X2_close_X2 (by decide) hl_X2_close_39 rfl rfl ?_
  refine jq_get (k0 := 1) (n := n) (o := 0) dX2_close_43 hC (cl_S (by omega) (by decide)) rfl rfl hi_X2_close_X5 (by decide) hl_X2_close_54 rfl rfl ?_
  refine jq_icmp_ge (tgt := 74) dX2_close_46 hC (by decide) (fun c46 => ?_) (fun c46 => ?_)
  · have h := h.1 c46
    exact jq_vret dX2_close_74 hC he rfl ⟨rfl, h⟩
  · have h := h.2 c46
    refine jq_aload_n (k0 := 0) dX2_close_49 hC rfl rfl ?_
    refine jq_get (k0 := 3) (n := n) (o := 12) dX2_close_50 hC (cl_T (by omega) (by decide)) rfl rfl hi_X2_close_X2 (by decide) hl_X2_close_43 rfl rfl ?_
    refine jq_get (k0 := 0) (n := n) (o := 8) dX2_close_53 hC (cl_T (by omega) (by decide)) rfl rfl hi_X2_close_X7 (by decide) hl_X2_close_58 rfl rfl ?_
    refine jq_iload_n (k0 := 1) dX2_close_56 hC rfl rfl ?_
    refine jq_callSN (As := [.int (wi w n 8 0), .int x1]) (rest := []) (D' := D_X8_isIn) (host := "LevelLoops") dX2_close_57 hC (mt_X8_isIn h) ggX2_close_X8_isIn rfl (by decide +kernel) (by decide +kernel) (by decide +kernel) ⟨rfl, rfl, Nat.le_of_ble_eq_true rfl, Nat.le_of_ble_eq_true rfl⟩ nm_X8_isIn rfl (Nat.le_of_ble_eq_true rfl) (kIp fun r57 h => ?_)
    refine jq_if_ne (tgt := 68) dX2_close_60 hC (by decide) (fun c60 => ?_) (fun c60 => ?_)
    · have h := h.1 c60
      refine jq_iinc (k0 := 1) (v := (x1 + 1)) (L' := [(1, .int (x1 + 1)), (0, .ref (aD G n 12))]) dX2_close_68 hC rfl rfl (by decide) rfl ?_
      refine jq_goto (tgt := 38) dX2_close_71 hC (by decide) ?_
      exact jq_less (L' := [(0, .ref (aD G n 12)), (1, .int (x1 + 1))]) [1, 0] rfl (hK38 _ _ h)
    · have h := h.2 c60
      refine jq_aload_n (k0 := 0) dX2_close_63 hC rfl rfl ?_
      refine jq_iload_n (k0 := 1) dX2_close_64 hC rfl rfl ?_
      refine jq_callV (As := [.int x1]) (rest := []) (n := n) (o := 12) (D' := D_X2_closeBy) dX2_close_65 hC (cl_T (by omega) (by decide)) rfl rfl rfl (mt_X2_closeBy (by omega) h) gX2_close_X2_closeBy rfl ⟨rfl, rfl, Nat.le_of_ble_eq_true rfl, Nat.le_of_ble_eq_true rfl⟩ nm_X2_closeBy rfl (Nat.le_of_ble_eq_true rfl) (kV fun w65 h => ?_)
      refine jq_iinc (k0 := 1) (v := (x1 + 1)) (L' := [(1, .int (x1 + 1)), (0, .ref (aD G n 12))]) dX2_close_68 hC rfl rfl (by decide) rfl ?_
      refine jq_goto (tgt := 38) dX2_close_71 hC (by decide) ?_
      exact jq_less (L' := [(0, .ref (aD G n 12)), (1, .int (x1 + 1))]) [1, 0] rfl (hK38 _ _ h)
theorem ok_X2_close_L38 {G : Gt} {M : Mx} {Qf : State → Prop} {n : Nat} {x1 : Int32} {w : Wd} {Q : Wd → Prop} (hC : cx G D_X2_close M) (he : en G M (qv Q) Qf) (hn : n < 2) (h : wp_X2_close_L38 n x1 w Q) : jq G D_X2_close M Qf 38 [(0, .ref (aD G n 12)), (1, .int x1)] [] w := by
  unfold wp_X2_close_L38 at h
  obtain ⟨I, μ, h0, hs⟩ := h
  exact lp_ind (σ := Int32 × Wd) (P := fun s => jq G D_X2_close M Qf 38 [(0, .ref (aD G n 12)), (1, .int s.1)] [] s.2) (fun s => I s.1 s.2) (fun s => μ s.1 s.2) (fun s h1 ih => ok_X2_close_B38 hC he hn (hs s.1 s.2 h1) (fun x1' w' h => ih (x1', w') h.1 h.2)) (x1, w) h0
theorem ok_X2_close_B12 {G : Gt} {M : Mx} {Qf : State → Prop} {n : Nat} {x1 : Int32} {w : Wd} {Q : Wd → Prop} {K12 : Int32 → Wd → Prop} (hC : cx G D_X2_close M) (he : en G M (qv Q) Qf) (hn : n < 2) (h : wp_X2_close_B12 n x1 w Q K12) (hK12 : ∀ (x1 : Int32) (w : Wd), K12 x1 w → jq G D_X2_close M Qf 12 [(0, .ref (aD G n 12)), (1, .int x1)] [] w) : jq G D_X2_close M Qf 12 [(0, .ref (aD G n 12)), (1, .int x1)] [] w := by
  unfold wp_X2_close_B12 at h
  refine jq_iload_n (k0 := 1) dX2_close_12 hC rfl rfl ?_
  refine jq_aload_n (k0 := 0) dX2_close_13 hC rfl rfl ?_
  refine jq_get (k0 := 2) (n := n) (o := 12) dX2_close_14 hC (cl_T (by omega) (by decide)) rfl rfl hi_X2_close_X2 (by decide) hl_X2_close_39 rfl rfl ?_
  refine jq_get (k0 := 1) (n := n) (o := 0) dX2_close_17 hC (cl_S (by omega) (by decide)) rfl rfl hi_X2_close_X5 (by decide) hl_X2_close_54 rfl rfl ?_
  refine jq_icmp_ge (tgt := 36) dX2_close_20 hC (by decide) (fun c20 => ?_) (fun c20 => ?_)
  · have h := h.1 c20
    refine jq_iconst (v := (0 : Int32)) dX2_close_36 hC (by decide) ?_
    refine jq_istore_n (L' := [(1, .int (0 : Int32)), (0, .ref (aD G n 12))]) dX2_close_37 hC rfl (by decide) rfl ?_
    refine jq_less (L' := [(0, .ref (aD G n 12)), (1, .int (0 : Int32))]) [1, 0] rfl ?_
    exact ok_X2_close_L38 hC he hn h
  · have h := h.2 c20
    refine jq_aload_n (k0 := 0) dX2_close_23 hC rfl rfl ?_
    refine jq_get (k0 := 1) (n := n) (o := 12) dX2_close_24 hC (cl_T (by omega) (by decide)) rfl rfl hi_X2_close_X2 (by decide) hl_X2_close_9 rfl rfl ?_
    refine jq_iload_n (k0 := 1) dX2_close_27 hC rfl rfl ?_
    refine jq_iconst (v := (0 : Int32)) dX2_close_28 hC (by decide) ?_
    obtain ⟨b29, h⟩ := h
    refine jq_iast (n := n) (o := 13) (j := x1.toNatClampNeg) dX2_close_29 hC (cl_T (by omega) (by decide)) (fun _ => rfl) b29 rfl ?_
    refine jq_w (fun w29 e29 => ?_)
    have h := h w29 e29
    refine jq_iinc (k0 := 1) (v := (x1 + 1)) (L' := [(1, .int (x1 + 1)), (0, .ref (aD G n 12))]) dX2_close_30 hC rfl rfl (by decide) rfl ?_
    refine jq_goto (tgt := 12) dX2_close_33 hC (by decide) ?_
    exact jq_less (L' := [(0, .ref (aD G n 12)), (1, .int (x1 + 1))]) [1, 0] rfl (hK12 _ _ h)
theorem ok_X2_close_L12 {G : Gt} {M : Mx} {Qf : State → Prop} {n : Nat} {x1 : Int32} {w : Wd} {Q : Wd → Prop} (hC : cx G D_X2_close M) (he : en G M (qv Q) Qf) (hn : n < 2) (h : wp_X2_close_L12 n x1 w Q) : jq G D_X2_close M Qf 12 [(0, .ref (aD G n 12)), (1, .int x1)] [] w := by
  unfold wp_X2_close_L12 at h
  obtain ⟨I, μ, h0, hs⟩ := h
  exact lp_ind (σ := Int32 × Wd) (P := fun s => jq G D_X2_close M Qf 12 [(0, .ref (aD G n 12)), (1, .int s.1)] [] s.2) (fun s => I s.1 s.2) (fun s => μ s.1 s.2) (fun s h1 ih => ok_X2_close_B12 hC he hn (hs s.1 s.2 h1) (fun x1' w' h => ih (x1', w') h.1 h.2)) (x1, w) h0
theorem ok_X2_close {G : Gt} {M : Mx} {Qf : State → Prop} {n : Nat} {w : Wd} {Q : Wd → Prop} (hC : cx G D_X2_close M) (he : en G M (qv Q) Qf) (hn : n < 2) (h : wp_X2_close n w Q) : jq G D_X2_close M Qf 0 [(0, .ref (aD G n 12))] [] w := by
  unfold wp_X2_close at h
  refine jq_aload_n (k0 := 0) dX2_close_0 hC rfl rfl ?_
  refine jq_iconst (v := (0 : Int32)) dX2_close_1 hC (by decide) ?_
  refine jq_put (k0 := 0) (n := n) (o := 12) (ty := .int) (w' := (sI w n 12 0 (0 : Int32))) dX2_close_2 hC (cl_T (by omega) (by decide)) rfl rfl hi_X2_close_X2 tyX2 tyX2_ok nmX2 (by decide) hl_X2_close_47 rfl rfl (by decide +kernel) rfl rfl (Nat.le_of_ble_eq_true rfl) (e_12_0 G _ _ _) (fun c _ hne => ent_sA c hne) ?_
  refine jq_w (fun w2 e2 => ?_)
  have h := h w2 e2
  refine jq_aload_n (k0 := 0) dX2_close_5 hC rfl rfl ?_
  refine jq_iconst (v := (0 : Int32)) dX2_close_6 hC (by decide) ?_
  refine jq_put (k0 := 4) (n := n) (o := 12) (ty := .int) (w' := (sI w2 n 12 4 (0 : Int32))) dX2_close_7 hC (cl_T (by omega) (by decide)) rfl rfl hi_X2_close_X2 tyX2 tyX2_ok nmX2 (by decide) hl_X2_close_51 rfl rfl (by decide +kernel) rfl rfl (Nat.le_of_ble_eq_true rfl) (e_12_4 G _ _ _) (fun c _ hne => ent_sA c hne) ?_
  refine jq_w (fun w7 e7 => ?_)
  have h := h w7 e7
  refine jq_iconst (v := (0 : Int32)) dX2_close_10 hC (by decide) ?_
  refine jq_istore_n (L' := [(1, .int (0 : Int32)), (0, .ref (aD G n 12))]) dX2_close_11 hC rfl (by decide) rfl ?_
  refine jq_less (L' := [(0, .ref (aD G n 12)), (1, .int (0 : Int32))]) [1, 0] rfl ?_
  exact ok_X2_close_L12 hC he hn h
theorem mt_X2_close {G : Gt} {n : Nat} {w : Wd} {Q : Wd → Prop} (hn : n < 2) (h : wp_X2_close n w Q) : Mt G D_X2_close [.ref (aD G n 12)] w (qv Q) := Mt_of (by decide +kernel) rfl rfl (Nat.le_of_ble_eq_true rfl) (fun M Qf hC he => ok_X2_close hC he hn h)
/-! X2.giveOne()V -/
theorem dX2_giveOne_0 : decode cX2_giveOne 0 = .ok (.iconst (-1), 1) := by decide +kernel
theorem dX2_giveOne_1 : decode cX2_giveOne 1 = .ok (.istore_n 1, 1) := by decide +kernel
theorem dX2_giveOne_2 : decode cX2_giveOne 2 = .ok (.iconst (-1), 1) := by decide +kernel
theorem dX2_giveOne_3 : decode cX2_giveOne 3 = .ok (.istore_n 2, 1) := by decide +kernel
theorem dX2_giveOne_4 : decode cX2_giveOne 4 = .ok (.iconst 0, 1) := by decide +kernel
theorem dX2_giveOne_5 : decode cX2_giveOne 5 = .ok (.istore_n 3, 1) := by decide +kernel
theorem dX2_giveOne_6 : decode cX2_giveOne 6 = .ok (.iload_n 3, 1) := by decide +kernel
theorem dX2_giveOne_7 : decode cX2_giveOne 7 = .ok (.aload_n 0, 1) := by decide +kernel
theorem dX2_giveOne_8 : decode cX2_giveOne 8 = .ok (.getfield 39, 3) := by decide +kernel
theorem dX2_giveOne_11 : decode cX2_giveOne 11 = .ok (.getfield 54, 3) := by decide +kernel
theorem dX2_giveOne_14 : decode cX2_giveOne 14 = .ok (.if_icmp .ge 28, 3) := by decide +kernel
theorem dX2_giveOne_17 : decode cX2_giveOne 17 = .ok (.aload_n 0, 1) := by decide +kernel
theorem dX2_giveOne_18 : decode cX2_giveOne 18 = .ok (.getfield 36, 3) := by decide +kernel
theorem dX2_giveOne_21 : decode cX2_giveOne 21 = .ok (.iload_n 3, 1) := by decide +kernel
theorem dX2_giveOne_22 : decode cX2_giveOne 22 = .ok (.iaload, 1) := by decide +kernel
theorem dX2_giveOne_23 : decode cX2_giveOne 23 = .ok (.iload_n 2, 1) := by decide +kernel
theorem dX2_giveOne_24 : decode cX2_giveOne 24 = .ok (.if_icmp .le 12, 3) := by decide +kernel
theorem dX2_giveOne_27 : decode cX2_giveOne 27 = .ok (.iload_n 3, 1) := by decide +kernel
theorem dX2_giveOne_28 : decode cX2_giveOne 28 = .ok (.istore_n 1, 1) := by decide +kernel
theorem dX2_giveOne_29 : decode cX2_giveOne 29 = .ok (.aload_n 0, 1) := by decide +kernel
theorem dX2_giveOne_30 : decode cX2_giveOne 30 = .ok (.getfield 36, 3) := by decide +kernel
theorem dX2_giveOne_33 : decode cX2_giveOne 33 = .ok (.iload_n 3, 1) := by decide +kernel
theorem dX2_giveOne_34 : decode cX2_giveOne 34 = .ok (.iaload, 1) := by decide +kernel
theorem dX2_giveOne_35 : decode cX2_giveOne 35 = .ok (.istore_n 2, 1) := by decide +kernel
theorem dX2_giveOne_36 : decode cX2_giveOne 36 = .ok (.iinc 3 1, 3) := by decide +kernel
theorem dX2_giveOne_39 : decode cX2_giveOne 39 = .ok (.goto (-33), 3) := by decide +kernel
theorem dX2_giveOne_42 : decode cX2_giveOne 42 = .ok (.iload_n 1, 1) := by decide +kernel
theorem dX2_giveOne_43 : decode cX2_giveOne 43 = .ok (.ifCond .lt 20, 3) := by decide +kernel
theorem dX2_giveOne_46 : decode cX2_giveOne 46 = .ok (.aload_n 0, 1) := by decide +kernel
theorem dX2_giveOne_47 : decode cX2_giveOne 47 = .ok (.getfield 33, 3) := by decide +kernel
theorem dX2_giveOne_50 : decode cX2_giveOne 50 = .ok (.iload_n 1, 1) := by decide +kernel
theorem dX2_giveOne_51 : decode cX2_giveOne 51 = .ok (.dup2, 1) := by decide +kernel
theorem dX2_giveOne_52 : decode cX2_giveOne 52 = .ok (.iaload, 1) := by decide +kernel
theorem dX2_giveOne_53 : decode cX2_giveOne 53 = .ok (.iconst 1, 1) := by decide +kernel
theorem dX2_giveOne_54 : decode cX2_giveOne 54 = .ok (.iadd, 1) := by decide +kernel
theorem dX2_giveOne_55 : decode cX2_giveOne 55 = .ok (.iastore, 1) := by decide +kernel
theorem dX2_giveOne_56 : decode cX2_giveOne 56 = .ok (.aload_n 0, 1) := by decide +kernel
theorem dX2_giveOne_57 : decode cX2_giveOne 57 = .ok (.getfield 36, 3) := by decide +kernel
theorem dX2_giveOne_60 : decode cX2_giveOne 60 = .ok (.iload_n 1, 1) := by decide +kernel
theorem dX2_giveOne_61 : decode cX2_giveOne 61 = .ok (.iconst (-1), 1) := by decide +kernel
theorem dX2_giveOne_62 : decode cX2_giveOne 62 = .ok (.iastore, 1) := by decide +kernel
theorem dX2_giveOne_63 : decode cX2_giveOne 63 = .ok (.return_, 1) := by decide +kernel
def D_X2_giveOne : Md := (yX2_giveOne, cX2_giveOne, 4, none, wsX2_giveOne, RX2, { frames := 0, cells := 0, slots := 0, locals := 0 })
theorem nm_X2_giveOne : nmD D_X2_giveOne 0 := ⟨rfl, by decide +kernel, by decide +kernel, by decide +kernel⟩
theorem hi_X2_giveOne_X2 : ∀ w ∈ u_ws RX2 TX2 13, w ∈ wsX2_giveOne := by decide +kernel
theorem hi_X2_giveOne_X5 : ∀ w ∈ u_ws RX5 TX5 8, w ∈ wsX2_giveOne := by decide +kernel
theorem hl_X2_giveOne_33 : Cond.fieldLink RX2 33 "LevelLoops$Loops" "share" "[I" ∈ wsX2_giveOne := by decide +kernel
theorem hl_X2_giveOne_36 : Cond.fieldLink RX2 36 "LevelLoops$Loops" "rest" "[I" ∈ wsX2_giveOne := by decide +kernel
theorem hl_X2_giveOne_39 : Cond.fieldLink RX2 39 "LevelLoops$Loops" "survey" "LLevelLoops$Survey;" ∈ wsX2_giveOne := by decide +kernel
theorem hl_X2_giveOne_54 : Cond.fieldLink RX2 54 "LevelLoops$Survey" "legs" "I" ∈ wsX2_giveOne := by decide +kernel
def wp_X2_giveOne_B6 (n : Nat) (x1 : Int32) (x2 : Int32) (x3 : Int32) (w : Wd) (Q : Wd → Prop) (K6 : Int32 → Int32 → Int32 → Prop) : Prop :=
  (((wi w n 0 1) ≤ x3 → ((x1 < 0 → Q w) ∧ (¬ x1 < 0 → vp_in x1 20 ∧ vp_in x1 20 ∧ (∀ w55 : Wd, w55 = (sI w n 20 x1.toNatClampNeg ((wi w n 20 x1.toNatClampNeg) + (1 : Int32))) → vp_in x1 20 ∧ (∀ w62 : Wd, w62 = (sI w55 n 21 x1.toNatClampNeg (-1 : Int32)) → Q w62))))) ∧ (¬ (wi w n 0 1) ≤ x3 → vp_in x3 20 ∧ (((wi w n 21 x3.toNatClampNeg) ≤ x2 → K6 x1 x2 (x3 + 1)) ∧ (¬ (wi w n 21 x3.toNatClampNeg) ≤ x2 → vp_in x3 20 ∧ K6 x3 (wi w n 21 x3.toNatClampNeg) (x3 + 1)))))
def wp_X2_giveOne_L6 (n : Nat) (x1 : Int32) (x2 : Int32) (x3 : Int32) (w : Wd) (Q : Wd → Prop) : Prop :=
  ∃ (I : Int32 → Int32 → Int32 → Prop) (μ : Int32 → Int32 → Int32 → Nat), I x1 x2 x3 ∧ ∀ (x1 : Int32) (x2 : Int32) (x3 : Int32), I x1 x2 x3 → wp_X2_giveOne_B6 n x1 x2 x3 w Q (fun x1' x2' x3' => I x1' x2' x3' ∧ μ x1' x2' x3' < μ x1 x2 x3)
def wp_X2_giveOne (n : Nat) (w : Wd) (Q : Wd → Prop) : Prop :=
  wp_X2_giveOne_L6 n (-1 : Int32) (-1 : Int32) (0 : Int32) w Q
theorem ok_X2_giveOne_B6 {G : Gt} {M : Mx} {Qf : State → Prop} {n : Nat} {x1 : Int32} {x2 : Int32} {x3 : Int32} {w : Wd} {Q : Wd → Prop} {K6 : Int32 → Int32 → Int32 → Prop} (hC : cx G D_X2_giveOne M) (he : en G M (qv Q) Qf) (hn : n < 2) (h : wp_X2_giveOne_B6 n x1 x2 x3 w Q K6) (hK6 : ∀ (x1 : Int32) (x2 : Int32) (x3 : Int32), K6 x1 x2 x3 → jq G D_X2_giveOne M Qf 6 [(0, .ref (aD G n 12)), (1, .int x1), (2, .int x2), (3, .int x3)] [] w) : jq G D_X2_giveOne M Qf 6 [(0, .ref (aD G n 12)), (1, .int x1), (2, .int x2), (3, .int x3)] [] w := by
  unfold wp_X2_giveOne_B6 at h
  refine jq_iload_n (k0 := 3) dX2_giveOne_6 hC rfl rfl ?_
  refine jq_aload_n (k0 := 0) dX2_giveOne_7 hC rfl rfl ?_
  refine jq_get (k0 := 2) (n := n) (o := 12) dX2_giveOne_8 hC (cl_T (by omega) (by decide)) rfl rfl hi_X2_giveOne_X2 (by decide) hl_X2_giveOne_39 rfl rfl ?_
  refine jq_get (k0 := 1) (n := n) (o := 0) dX2_giveOne_11 hC (cl_S (by omega) (by decide)) rfl rfl hi_X2_giveOne_X5 (by decide) hl_X2_giveOne_54 rfl rfl ?_
  refine jq_icmp_ge (tgt := 42) dX2_giveOne_14 hC (by decide) (fun c14 => ?_) (fun c14 => ?_)
  · have h := h.1 c14
    refine jq_iload_n (k0 := 1) dX2_giveOne_42 hC rfl rfl ?_
    refine jq_if_lt (tgt := 63) dX2_giveOne_43 hC (by decide) (fun c43 => ?_) (fun c43 => ?_)
    · have h := h.1 c43
      exact jq_vret dX2_giveOne_63 hC he rfl ⟨rfl, h⟩
    · have h := h.2 c43
      refine jq_aload_n (k0 := 0) dX2_giveOne_46 hC rfl rfl ?_
      refine jq_get (k0 := 11) (n := n) (o := 12) dX2_giveOne_47 hC (cl_T (by omega) (by decide)) rfl rfl hi_X2_giveOne_X2 (by decide) hl_X2_giveOne_33 rfl rfl ?_
      refine jq_iload_n (k0 := 1) dX2_giveOne_50 hC rfl rfl ?_
      refine jq_dup2 dX2_giveOne_51 hC rfl rfl ?_
      obtain ⟨b52, h⟩ := h
      refine jq_iald (n := n) (o := 20) (j := x1.toNatClampNeg) dX2_giveOne_52 hC (cl_T (by omega) (by decide)) rfl b52 rfl ?_
      refine jq_iconst (v := (1 : Int32)) dX2_giveOne_53 hC (by decide) ?_
      refine jq_iadd dX2_giveOne_54 hC ?_
      obtain ⟨b55, h⟩ := h
      refine jq_iast (n := n) (o := 20) (j := x1.toNatClampNeg) dX2_giveOne_55 hC (cl_T (by omega) (by decide)) (fun _ => rfl) b55 rfl ?_
      refine jq_w (fun w55 e55 => ?_)
      have h := h w55 e55
      refine jq_aload_n (k0 := 0) dX2_giveOne_56 hC rfl rfl ?_
      refine jq_get (k0 := 12) (n := n) (o := 12) dX2_giveOne_57 hC (cl_T (by omega) (by decide)) rfl rfl hi_X2_giveOne_X2 (by decide) hl_X2_giveOne_36 rfl rfl ?_
      refine jq_iload_n (k0 := 1) dX2_giveOne_60 hC rfl rfl ?_
      refine jq_iconst (v := (-1 : Int32)) dX2_giveOne_61 hC (by decide) ?_
      obtain ⟨b62, h⟩ := h
      refine jq_iast (n := n) (o := 21) (j := x1.toNatClampNeg) dX2_giveOne_62 hC (cl_T (by omega) (by decide)) (fun _ => rfl) b62 rfl ?_
      refine jq_w (fun w62 e62 => ?_)
      have h := h w62 e62
      exact jq_vret dX2_giveOne_63 hC he rfl ⟨rfl, h⟩
  · have h := h.2 c14
    refine jq_aload_n (k0 := 0) dX2_giveOne_17 hC rfl rfl ?_
    refine jq_get (k0 := 12) (n := n) (o := 12) dX2_giveOne_18 hC (cl_T (by omega) (by decide)) rfl rfl hi_X2_giveOne_X2 (by decide) hl_X2_giveOne_36 rfl rfl ?_
    refine jq_iload_n (k0 := 3) dX2_giveOne_21 hC rfl rfl ?_
    obtain ⟨b22, h⟩ := h
    refine jq_iald (n := n) (o := 21) (j := x3.toNatClampNeg) dX2_giveOne_22 hC (cl_T (by omega) (by decide)) rfl b22 rfl ?_
    refine jq_iload_n (k0 := 2) dX2_giveOne_23 hC rfl rfl ?_
    refine jq_icmp_le (tgt := 36) dX2_giveOne_24 hC (by decide) (fun c24 => ?_) (fun c24 => ?_)
    · have h := h.1 c24
      refine jq_iinc (k0 := 3) (v := (x3 + 1)) (L' := [(3, .int (x3 + 1)), (0, .ref (aD G n 12)), (1, .int x1), (2, .int x2)]) dX2_giveOne_36 hC rfl rfl (by decide) rfl ?_
      refine jq_goto (tgt := 6) dX2_giveOne_39 hC (by decide) ?_
      exact jq_less (L' := [(0, .ref (aD G n 12)), (1, .int x1), (2, .int x2), (3, .int (x3 + 1))]) [1, 2, 3, 0] rfl (hK6 _ _ _ h)
    · have h := h.2 c24
      refine jq_iload_n (k0 := 3) dX2_giveOne_27 hC rfl rfl ?_
      refine jq_istore_n (L' := [(1, .int x3), (0, .ref (aD G n 12)), (2, .int x2), (3, .int x3)]) dX2_giveOne_28 hC rfl (by decide) rfl ?_
      refine jq_aload_n (k0 := 1) dX2_giveOne_29 hC rfl rfl ?_
      refine jq_get (k0 := 12) (n := n) (o := 12) dX2_giveOne_30 hC (cl_T (by omega) (by decide)) rfl rfl hi_X2_giveOne_X2 (by decide) hl_X2_giveOne_36 rfl rfl ?_
      refine jq_iload_n (k0 := 3) dX2_giveOne_33 hC rfl rfl ?_
      obtain ⟨b34, h⟩ := h
      refine jq_iald (n := n) (o := 21) (j := x3.toNatClampNeg) dX2_giveOne_34 hC (cl_T (by omega) (by decide)) rfl b34 rfl ?_
      refine jq_istore_n (L' := [(2, .int (wi w n 21 x3.toNatClampNeg)), (1, .int x3), (0, .ref (aD G n 12)), (3, .int x3)]) dX2_giveOne_35 hC rfl (by decide) rfl ?_
      refine jq_iinc (k0 := 3) (v := (x3 + 1)) (L' := [(3, .int (x3 + 1)), (2, .int (wi w n 21 x3.toNatClampNeg)), (1, .int x3), (0, .ref (aD G n 12))]) dX2_giveOne_36 hC rfl rfl (by decide) rfl ?_
      refine jq_goto (tgt := 6) dX2_giveOne_39 hC (by decide) ?_
      exact jq_less (L' := [(0, .ref (aD G n 12)), (1, .int x3), (2, .int (wi w n 21 x3.toNatClampNeg)), (3, .int (x3 + 1))]) [3, 2, 1, 0] rfl (hK6 _ _ _ h)
theorem ok_X2_giveOne_L6 {G : Gt} {M : Mx} {Qf : State → Prop} {n : Nat} {x1 : Int32} {x2 : Int32} {x3 : Int32} {w : Wd} {Q : Wd → Prop} (hC : cx G D_X2_giveOne M) (he : en G M (qv Q) Qf) (hn : n < 2) (h : wp_X2_giveOne_L6 n x1 x2 x3 w Q) : jq G D_X2_giveOne M Qf 6 [(0, .ref (aD G n 12)), (1, .int x1), (2, .int x2), (3, .int x3)] [] w := by
  unfold wp_X2_giveOne_L6 at h
  obtain ⟨I, μ, h0, hs⟩ := h
  exact lp_ind (σ := Int32 × Int32 × Int32) (P := fun s => jq G D_X2_giveOne M Qf 6 [(0, .ref (aD G n 12)), (1, .int s.1), (2, .int s.2.1), (3, .int s.2.2)] [] w) (fun s => I s.1 s.2.1 s.2.2) (fun s => μ s.1 s.2.1 s.2.2) (fun s h1 ih => ok_X2_giveOne_B6 hC he hn (hs s.1 s.2.1 s.2.2 h1) (fun x1' x2' x3' h => ih (x1', x2', x3') h.1 h.2)) (x1, x2, x3) h0
theorem ok_X2_giveOne {G : Gt} {M : Mx} {Qf : State → Prop} {n : Nat} {w : Wd} {Q : Wd → Prop} (hC : cx G D_X2_giveOne M) (he : en G M (qv Q) Qf) (hn : n < 2) (h : wp_X2_giveOne n w Q) : jq G D_X2_giveOne M Qf 0 [(0, .ref (aD G n 12))] [] w := by
  unfold wp_X2_giveOne at h
  refine jq_iconst (v := (-1 : Int32)) dX2_giveOne_0 hC (by decide) ?_
  refine jq_istore_n (L' := [(1, .int (-1 : Int32)), (0, .ref (aD G n 12))]) dX2_giveOne_1 hC rfl (by decide) rfl ?_
  refine jq_iconst (v := (-1 : Int32)) dX2_giveOne_2 hC (by decide) ?_
  refine jq_istore_n (L' := [(2, .int (-1 : Int32)), (1, .int (-1 : Int32)), (0, .ref (aD G n 12))]) dX2_giveOne_3 hC rfl (by decide) rfl ?_
  refine jq_iconst (v := (0 : Int32)) dX2_giveOne_4 hC (by decide) ?_
  refine jq_istore_n (L' := [(3, .int (0 : Int32)), (2, .int (-1 : Int32)), (1, .int (-1 : Int32)), (0, .ref (aD G n 12))]) dX2_giveOne_5 hC rfl (by decide) rfl ?_
  refine jq_less (L' := [(0, .ref (aD G n 12)), (1, .int (-1 : Int32)), (2, .int (-1 : Int32)), (3, .int (0 : Int32))]) [3, 2, 1, 0] rfl ?_
  exact ok_X2_giveOne_L6 hC he hn h
theorem mt_X2_giveOne {G : Gt} {n : Nat} {w : Wd} {Q : Wd → Prop} (hn : n < 2) (h : wp_X2_giveOne n w Q) : Mt G D_X2_giveOne [.ref (aD G n 12)] w (qv Q) := Mt_of (by decide +kernel) rfl rfl (Nat.le_of_ble_eq_true rfl) (fun M Qf hC he => ok_X2_giveOne hC he hn h)
/-! X2.shareOut(II)V -/
theorem dX2_shareOut_0 : decode cX2_shareOut 0 = .ok (.aload_n 0, 1) := by decide +kernel
theorem dX2_shareOut_1 : decode cX2_shareOut 1 = .ok (.getfield 39, 3) := by decide +kernel
theorem dX2_shareOut_4 : decode cX2_shareOut 4 = .ok (.iload_n 2, 1) := by decide +kernel
theorem dX2_shareOut_5 : decode cX2_shareOut 5 = .ok (.invokevirtual 82, 3) := by decide +kernel
theorem dX2_shareOut_8 : decode cX2_shareOut 8 = .ok (.istore_n 3, 1) := by decide +kernel
theorem dX2_shareOut_9 : decode cX2_shareOut 9 = .ok (.iload_n 3, 1) := by decide +kernel
theorem dX2_shareOut_10 : decode cX2_shareOut 10 = .ok (.ifCond .gt 4, 3) := by decide +kernel
theorem dX2_shareOut_13 : decode cX2_shareOut 13 = .ok (.return_, 1) := by decide +kernel
theorem dX2_shareOut_14 : decode cX2_shareOut 14 = .ok (.iload_n 1, 1) := by decide +kernel
theorem dX2_shareOut_15 : decode cX2_shareOut 15 = .ok (.istore 4, 2) := by decide +kernel
theorem dX2_shareOut_17 : decode cX2_shareOut 17 = .ok (.iconst 0, 1) := by decide +kernel
theorem dX2_shareOut_18 : decode cX2_shareOut 18 = .ok (.istore 5, 2) := by decide +kernel
theorem dX2_shareOut_20 : decode cX2_shareOut 20 = .ok (.iload 5, 2) := by decide +kernel
theorem dX2_shareOut_22 : decode cX2_shareOut 22 = .ok (.aload_n 0, 1) := by decide +kernel
theorem dX2_shareOut_23 : decode cX2_shareOut 23 = .ok (.getfield 39, 3) := by decide +kernel
theorem dX2_shareOut_26 : decode cX2_shareOut 26 = .ok (.getfield 54, 3) := by decide +kernel
theorem dX2_shareOut_29 : decode cX2_shareOut 29 = .ok (.if_icmp .ge 80, 3) := by decide +kernel
theorem dX2_shareOut_32 : decode cX2_shareOut 32 = .ok (.aload_n 0, 1) := by decide +kernel
theorem dX2_shareOut_33 : decode cX2_shareOut 33 = .ok (.getfield 36, 3) := by decide +kernel
theorem dX2_shareOut_36 : decode cX2_shareOut 36 = .ok (.iload 5, 2) := by decide +kernel
theorem dX2_shareOut_38 : decode cX2_shareOut 38 = .ok (.iconst (-1), 1) := by decide +kernel
theorem dX2_shareOut_39 : decode cX2_shareOut 39 = .ok (.iastore, 1) := by decide +kernel
theorem dX2_shareOut_40 : decode cX2_shareOut 40 = .ok (.iload_n 2, 1) := by decide +kernel
theorem dX2_shareOut_41 : decode cX2_shareOut 41 = .ok (.iload 5, 2) := by decide +kernel
theorem dX2_shareOut_43 : decode cX2_shareOut 43 = .ok (.invokestatic 61, 3) := by decide +kernel
theorem dX2_shareOut_46 : decode cX2_shareOut 46 = .ok (.ifCond .eq 57, 3) := by decide +kernel
theorem dX2_shareOut_49 : decode cX2_shareOut 49 = .ok (.iload_n 1, 1) := by decide +kernel
theorem dX2_shareOut_50 : decode cX2_shareOut 50 = .ok (.i2l, 1) := by decide +kernel
theorem dX2_shareOut_51 : decode cX2_shareOut 51 = .ok (.aload_n 0, 1) := by decide +kernel
theorem dX2_shareOut_52 : decode cX2_shareOut 52 = .ok (.getfield 39, 3) := by decide +kernel
theorem dX2_shareOut_55 : decode cX2_shareOut 55 = .ok (.getfield 111, 3) := by decide +kernel
theorem dX2_shareOut_58 : decode cX2_shareOut 58 = .ok (.iload 5, 2) := by decide +kernel
theorem dX2_shareOut_60 : decode cX2_shareOut 60 = .ok (.iaload, 1) := by decide +kernel
theorem dX2_shareOut_61 : decode cX2_shareOut 61 = .ok (.i2l, 1) := by decide +kernel
theorem dX2_shareOut_62 : decode cX2_shareOut 62 = .ok (.lmul, 1) := by decide +kernel
theorem dX2_shareOut_63 : decode cX2_shareOut 63 = .ok (.lstore 6, 2) := by decide +kernel
theorem dX2_shareOut_65 : decode cX2_shareOut 65 = .ok (.aload_n 0, 1) := by decide +kernel
theorem dX2_shareOut_66 : decode cX2_shareOut 66 = .ok (.getfield 33, 3) := by decide +kernel
theorem dX2_shareOut_69 : decode cX2_shareOut 69 = .ok (.iload 5, 2) := by decide +kernel
theorem dX2_shareOut_71 : decode cX2_shareOut 71 = .ok (.lload 6, 2) := by decide +kernel
theorem dX2_shareOut_73 : decode cX2_shareOut 73 = .ok (.iload_n 3, 1) := by decide +kernel
theorem dX2_shareOut_74 : decode cX2_shareOut 74 = .ok (.i2l, 1) := by decide +kernel
theorem dX2_shareOut_75 : decode cX2_shareOut 75 = .ok (.ldiv, 1) := by decide +kernel
theorem dX2_shareOut_76 : decode cX2_shareOut 76 = .ok (.l2i, 1) := by decide +kernel
theorem dX2_shareOut_77 : decode cX2_shareOut 77 = .ok (.iastore, 1) := by decide +kernel
theorem dX2_shareOut_78 : decode cX2_shareOut 78 = .ok (.aload_n 0, 1) := by decide +kernel
theorem dX2_shareOut_79 : decode cX2_shareOut 79 = .ok (.getfield 36, 3) := by decide +kernel
theorem dX2_shareOut_82 : decode cX2_shareOut 82 = .ok (.iload 5, 2) := by decide +kernel
theorem dX2_shareOut_84 : decode cX2_shareOut 84 = .ok (.lload 6, 2) := by decide +kernel
theorem dX2_shareOut_86 : decode cX2_shareOut 86 = .ok (.iload_n 3, 1) := by decide +kernel
theorem dX2_shareOut_87 : decode cX2_shareOut 87 = .ok (.i2l, 1) := by decide +kernel
theorem dX2_shareOut_88 : decode cX2_shareOut 88 = .ok (.lrem, 1) := by decide +kernel
theorem dX2_shareOut_89 : decode cX2_shareOut 89 = .ok (.l2i, 1) := by decide +kernel
theorem dX2_shareOut_90 : decode cX2_shareOut 90 = .ok (.iastore, 1) := by decide +kernel
theorem dX2_shareOut_91 : decode cX2_shareOut 91 = .ok (.iload 4, 2) := by decide +kernel
theorem dX2_shareOut_93 : decode cX2_shareOut 93 = .ok (.aload_n 0, 1) := by decide +kernel
theorem dX2_shareOut_94 : decode cX2_shareOut 94 = .ok (.getfield 33, 3) := by decide +kernel
theorem dX2_shareOut_97 : decode cX2_shareOut 97 = .ok (.iload 5, 2) := by decide +kernel
theorem dX2_shareOut_99 : decode cX2_shareOut 99 = .ok (.iaload, 1) := by decide +kernel
theorem dX2_shareOut_100 : decode cX2_shareOut 100 = .ok (.isub, 1) := by decide +kernel
theorem dX2_shareOut_101 : decode cX2_shareOut 101 = .ok (.istore 4, 2) := by decide +kernel
theorem dX2_shareOut_103 : decode cX2_shareOut 103 = .ok (.iinc 5 1, 3) := by decide +kernel
theorem dX2_shareOut_106 : decode cX2_shareOut 106 = .ok (.goto (-86), 3) := by decide +kernel
theorem dX2_shareOut_109 : decode cX2_shareOut 109 = .ok (.iconst 0, 1) := by decide +kernel
theorem dX2_shareOut_110 : decode cX2_shareOut 110 = .ok (.istore 5, 2) := by decide +kernel
theorem dX2_shareOut_112 : decode cX2_shareOut 112 = .ok (.iload 5, 2) := by decide +kernel
theorem dX2_shareOut_114 : decode cX2_shareOut 114 = .ok (.iload 4, 2) := by decide +kernel
theorem dX2_shareOut_116 : decode cX2_shareOut 116 = .ok (.if_icmp .ge 13, 3) := by decide +kernel
theorem dX2_shareOut_119 : decode cX2_shareOut 119 = .ok (.aload_n 0, 1) := by decide +kernel
theorem dX2_shareOut_120 : decode cX2_shareOut 120 = .ok (.invokevirtual 112, 3) := by decide +kernel
theorem dX2_shareOut_123 : decode cX2_shareOut 123 = .ok (.iinc 5 1, 3) := by decide +kernel
theorem dX2_shareOut_126 : decode cX2_shareOut 126 = .ok (.goto (-14), 3) := by decide +kernel
theorem dX2_shareOut_129 : decode cX2_shareOut 129 = .ok (.return_, 1) := by decide +kernel
set_option maxRecDepth 20000 in
theorem ggX2_shareOut_X2_giveOne : GoodIn wsX2_shareOut wsX2_giveOne := goodIn_r _ [20, 1, 2, 3, 5, 21, 22, 23, 24, 25, 26, 27, 28, 29, 30, 31, 32, 33, 34, 35, 36, 37, 38, 39, 40, 41] (by decide +kernel) (by decide +kernel)
set_option maxRecDepth 20000 in
theorem gX2_shareOut_X2_giveOne : GoodIn wsX2_shareOut (wsV RX2 112 RX2 yX2_giveOne wsX2_giveOne) := goodIn_app (goodIn_of _ (by decide +kernel)) ggX2_shareOut_X2_giveOne
set_option maxRecDepth 20000 in
theorem ggX2_shareOut_X8_isIn : GoodIn wsX2_shareOut wsX8_isIn := goodIn_r _ [15] (by decide +kernel) (by decide +kernel)
set_option maxRecDepth 20000 in
theorem ggX2_shareOut_X5_lengthOf : GoodIn wsX2_shareOut wsX5_lengthOf := goodIn_r _ [10, 11, 12, 13, 14, 15, 34, 35, 36, 37, 38, 39, 40, 41] (by decide +kernel) (by decide +kernel)
set_option maxRecDepth 20000 in
theorem gX2_shareOut_X5_lengthOf : GoodIn wsX2_shareOut (wsV RX2 82 RX5 yX5_lengthOf wsX5_lengthOf) := goodIn_app (goodIn_of _ (by decide +kernel)) ggX2_shareOut_X5_lengthOf
def D_X2_shareOut : Md := (yX2_shareOut, cX2_shareOut, 8, none, wsX2_shareOut, RX2, { frames := 2, cells := 0, slots := 0, locals := 44 })
theorem nm_X2_shareOut : nmD D_X2_shareOut 2 := ⟨rfl, by decide +kernel, by decide +kernel, by decide +kernel⟩
theorem hi_X2_shareOut_X2 : ∀ w ∈ u_ws RX2 TX2 13, w ∈ wsX2_shareOut := by decide +kernel
theorem hi_X2_shareOut_X5 : ∀ w ∈ u_ws RX5 TX5 8, w ∈ wsX2_shareOut := by decide +kernel
theorem hl_X2_shareOut_33 : Cond.fieldLink RX2 33 "LevelLoops$Loops" "share" "[I" ∈ wsX2_shareOut := by decide +kernel
theorem hl_X2_shareOut_36 : Cond.fieldLink RX2 36 "LevelLoops$Loops" "rest" "[I" ∈ wsX2_shareOut := by decide +kernel
theorem hl_X2_shareOut_39 : Cond.fieldLink RX2 39 "LevelLoops$Loops" "survey" "LLevelLoops$Survey;" ∈ wsX2_shareOut := by decide +kernel
theorem hl_X2_shareOut_54 : Cond.fieldLink RX2 54 "LevelLoops$Survey" "legs" "I" ∈ wsX2_shareOut := by decide +kernel
theorem hl_X2_shareOut_111 : Cond.fieldLink RX2 111 "LevelLoops$Survey" "length" "[I" ∈ wsX2_shareOut := by decide +kernel
def wp_X2_shareOut_B112 (n : Nat) (x4 : Int32) (x5 : Int32) (w : Wd) (Q : Wd → Prop) (K112 : Int32 → Wd → Prop) : Prop :=
  ((x4 ≤ x5 → Q w) ∧ (¬ x4 ≤ x5 → wp_X2_giveOne n w (fun w120 => K112 (x5 + 1) w120)))
def wp_X2_shareOut_L112 (n : Nat) (x4 : Int32) (x5 : Int32) (w : Wd) (Q : Wd → Prop) : Prop :=
  ∃ (I : Int32 → Wd → Prop) (μ : Int32 → Wd → Nat), I x5 w ∧ ∀ (x5 : Int32) (w : Wd), I x5 w → wp_X2_shareOut_B112 n x4 x5 w Q (fun x5' w' => I x5' w' ∧ μ x5' w' < μ x5 w)
def wp_X2_shareOut_B20 (n : Nat) (x1 : Int32) (x2 : Int32) (x3 : Int32) (x4 : Int32) (x5 : Int32) (w : Wd) (Q : Wd → Prop) (K20 : Int32 → Int32 → Wd → Prop) : Prop :=
  (((wi w n 0 1) ≤ x5 → wp_X2_shareOut_L112 n x4 (0 : Int32) w Q) ∧ (¬ (wi w n 0 1) ≤ x5 → vp_in x5 20 ∧ (∀ w39 : Wd, w39 = (sI w n 21 x5.toNatClampNeg (-1 : Int32)) → wp_X8_isIn x2 x5 (fun r43 => ((r43 = 0 → K20 x4 (x5 + 1) w39) ∧ (¬ r43 = 0 → vp_in x5 20 ∧ ¬ x3.toInt64 = 0 ∧ vp_in x5 20 ∧ (∀ w77 : Wd, w77 = (sI w39 n 20 x5.toNatClampNeg (((x1.toInt64 * ((wi w39 n 5 x5.toNatClampNeg).toInt64)) / x3.toInt64).toInt32)) → ¬ x3.toInt64 = 0 ∧ vp_in x5 20 ∧ (∀ w90 : Wd, w90 = (sI w77 n 21 x5.toNatClampNeg ((lrem (x1.toInt64 * ((wi w39 n 5 x5.toNatClampNeg).toInt64)) x3.toInt64).toInt32)) → vp_in x5 20 ∧ K20 (x4 - (wi w90 n 20 x5.toNatClampNeg)) (x5 + 1) w90))))))))
def wp_X2_shareOut_L20 (n : Nat) (x1 : Int32) (x2 : Int32) (x3 : Int32) (x4 : Int32) (x5 : Int32) (w : Wd) (Q : Wd → Prop) : Prop :=
  ∃ (I : Int32 → Int32 → Wd → Prop) (μ : Int32 → Int32 → Wd → Nat), I x4 x5 w ∧ ∀ (x4 : Int32) (x5 : Int32) (w : Wd), I x4 x5 w → wp_X2_shareOut_B20 n x1 x2 x3 x4 x5 w Q (fun x4' x5' w' => I x4' x5' w' ∧ μ x4' x5' w' < μ x4 x5 w)
def wp_X2_shareOut (n : Nat) (x1 : Int32) (x2 : Int32) (w : Wd) (Q : Wd → Prop) : Prop :=
  wp_X5_lengthOf n x2 w (fun r5 => ((0 < r5 → wp_X2_shareOut_L20 n x1 x2 r5 x1 (0 : Int32) w Q) ∧ (¬ 0 < r5 → Q w)))
theorem ok_X2_shareOut_B112 {G : Gt} {M : Mx} {Qf : State → Prop} {n : Nat} {x4 : Int32} {x5 : Int32} {w : Wd} {Q : Wd → Prop} {K112 : Int32 → Wd → Prop} (hC : cx G D_X2_shareOut M) (he : en G M (qv Q) Qf) (hn : n < 2) (h : wp_X2_shareOut_B112 n x4 x5 w Q K112) (hK112 : ∀ (x5 : Int32) (w : Wd), K112 x5 w → jq G D_X2_shareOut M Qf 112 [(0, .ref (aD G n 12)), (4, .int x4), (5, .int x5)] [] w) : jq G D_X2_shareOut M Qf 112 [(0, .ref (aD G n 12)), (4, .int x4), (5, .int x5)] [] w := by
  unfold wp_X2_shareOut_B112 at h
  refine jq_iload (k0 := 2) dX2_shareOut_112 hC rfl ?_
  refine jq_iload (k0 := 1) dX2_shareOut_114 hC rfl ?_
  refine jq_icmp_ge (tgt := 129) dX2_shareOut_116 hC (by decide) (fun c116 => ?_) (fun c116 => ?_)
  · have h := h.1 c116
    exact jq_vret dX2_shareOut_129 hC he rfl ⟨rfl, h⟩
  · have h := h.2 c116
    refine jq_aload_n (k0 := 0) dX2_shareOut_119 hC rfl rfl ?_
    refine jq_callV (As := []) (rest := []) (n := n) (o := 12) (D' := D_X2_giveOne) dX2_shareOut_120 hC (cl_T (by omega) (by decide)) rfl rfl rfl (mt_X2_giveOne (by omega) h) gX2_shareOut_X2_giveOne rfl ⟨rfl, rfl, Nat.le_of_ble_eq_true rfl, Nat.le_of_ble_eq_true rfl⟩ nm_X2_giveOne rfl (Nat.le_of_ble_eq_true rfl) (kV fun w120 h => ?_)
    refine jq_iinc (k0 := 2) (v := (x5 + 1)) (L' := [(5, .int (x5 + 1)), (0, .ref (aD G n 12)), (4, .int x4)]) dX2_shareOut_123 hC rfl rfl (by decide) rfl ?_
    refine jq_goto (tgt := 112) dX2_shareOut_126 hC (by decide) ?_
    exact jq_less (L' := [(0, .ref (aD G n 12)), (4, .int x4), (5, .int (x5 + 1))]) [1, 2, 0] rfl (hK112 _ _ h)
theorem ok_X2_shareOut_L112 {G : Gt} {M : Mx} {Qf : State → Prop} {n : Nat} {x4 : Int32} {x5 : Int32} {w : Wd} {Q : Wd → Prop} (hC : cx G D_X2_shareOut M) (he : en G M (qv Q) Qf) (hn : n < 2) (h : wp_X2_shareOut_L112 n x4 x5 w Q) : jq G D_X2_shareOut M Qf 112 [(0, .ref (aD G n 12)), (4, .int x4), (5, .int x5)] [] w := by
  unfold wp_X2_shareOut_L112 at h
  obtain ⟨I, μ, h0, hs⟩ := h
  exact lp_ind (σ := Int32 × Wd) (P := fun s => jq G D_X2_shareOut M Qf 112 [(0, .ref (aD G n 12)), (4, .int x4), (5, .int s.1)] [] s.2) (fun s => I s.1 s.2) (fun s => μ s.1 s.2) (fun s h1 ih => ok_X2_shareOut_B112 hC he hn (hs s.1 s.2 h1) (fun x5' w' h => ih (x5', w') h.1 h.2)) (x5, w) h0
theorem ok_X2_shareOut_B20 {G : Gt} {M : Mx} {Qf : State → Prop} {n : Nat} {x1 : Int32} {x2 : Int32} {x3 : Int32} {x4 : Int32} {x5 : Int32} {w : Wd} {Q : Wd → Prop} {K20 : Int32 → Int32 → Wd → Prop} (hC : cx G D_X2_shareOut M) (he : en G M (qv Q) Qf) (hn : n < 2) (h : wp_X2_shareOut_B20 n x1 x2 x3 x4 x5 w Q K20) (hK20 : ∀ (x4 : Int32) (x5 : Int32) (w : Wd), K20 x4 x5 w → jq G D_X2_shareOut M Qf 20 [(0, .ref (aD G n 12)), (1, .int x1), (2, .int x2), (3, .int x3), (4, .int x4), (5, .int x5)] [] w) : jq G D_X2_shareOut M Qf 20 [(0, .ref (aD G n 12)), (1, .int x1), (2, .int x2), (3, .int x3), (4, .int x4), (5, .int x5)] [] w := by
  unfold wp_X2_shareOut_B20 at h
  refine jq_iload (k0 := 5) dX2_shareOut_20 hC rfl ?_
  refine jq_aload_n (k0 := 0) dX2_shareOut_22 hC rfl rfl ?_
  refine jq_get (k0 := 2) (n := n) (o := 12) dX2_shareOut_23 hC (cl_T (by omega) (by decide)) rfl rfl hi_X2_shareOut_X2 (by decide) hl_X2_shareOut_39 rfl rfl ?_
  refine jq_get (k0 := 1) (n := n) (o := 0) dX2_shareOut_26 hC (cl_S (by omega) (by decide)) rfl rfl hi_X2_shareOut_X5 (by decide) hl_X2_shareOut_54 rfl rfl ?_
  refine jq_icmp_ge (tgt := 109) dX2_shareOut_29 hC (by decide) (fun c29 => ?_) (fun c29 => ?_)
  · have h := h.1 c29
    refine jq_iconst (v := (0 : Int32)) dX2_shareOut_109 hC (by decide) ?_
    refine jq_istore (L' := [(5, .int (0 : Int32)), (0, .ref (aD G n 12)), (1, .int x1), (2, .int x2), (3, .int x3), (4, .int x4)]) dX2_shareOut_110 hC (by decide) rfl ?_
    refine jq_less (L' := [(0, .ref (aD G n 12)), (4, .int x4), (5, .int (0 : Int32))]) [1, 5, 0] rfl ?_
    exact ok_X2_shareOut_L112 hC he hn h
  · have h := h.2 c29
    refine jq_aload_n (k0 := 0) dX2_shareOut_32 hC rfl rfl ?_
    refine jq_get (k0 := 12) (n := n) (o := 12) dX2_shareOut_33 hC (cl_T (by omega) (by decide)) rfl rfl hi_X2_shareOut_X2 (by decide) hl_X2_shareOut_36 rfl rfl ?_
    refine jq_iload (k0 := 5) dX2_shareOut_36 hC rfl ?_
    refine jq_iconst (v := (-1 : Int32)) dX2_shareOut_38 hC (by decide) ?_
    obtain ⟨b39, h⟩ := h
    refine jq_iast (n := n) (o := 21) (j := x5.toNatClampNeg) dX2_shareOut_39 hC (cl_T (by omega) (by decide)) (fun _ => rfl) b39 rfl ?_
    refine jq_w (fun w39 e39 => ?_)
    have h := h w39 e39
    refine jq_iload_n (k0 := 2) dX2_shareOut_40 hC rfl rfl ?_
    refine jq_iload (k0 := 5) dX2_shareOut_41 hC rfl ?_
    refine jq_callSN (As := [.int x2, .int x5]) (rest := []) (D' := D_X8_isIn) (host := "LevelLoops") dX2_shareOut_43 hC (mt_X8_isIn h) ggX2_shareOut_X8_isIn rfl (by decide +kernel) (by decide +kernel) (by decide +kernel) ⟨rfl, rfl, Nat.le_of_ble_eq_true rfl, Nat.le_of_ble_eq_true rfl⟩ nm_X8_isIn rfl (Nat.le_of_ble_eq_true rfl) (kIp fun r43 h => ?_)
    refine jq_if_eq (tgt := 103) dX2_shareOut_46 hC (by decide) (fun c46 => ?_) (fun c46 => ?_)
    · have h := h.1 c46
      refine jq_iinc (k0 := 5) (v := (x5 + 1)) (L' := [(5, .int (x5 + 1)), (0, .ref (aD G n 12)), (1, .int x1), (2, .int x2), (3, .int x3), (4, .int x4)]) dX2_shareOut_103 hC rfl rfl (by decide) rfl ?_
      refine jq_goto (tgt := 20) dX2_shareOut_106 hC (by decide) ?_
      exact jq_less (L' := [(0, .ref (aD G n 12)), (1, .int x1), (2, .int x2), (3, .int x3), (4, .int x4), (5, .int (x5 + 1))]) [1, 2, 3, 4, 5, 0] rfl (hK20 _ _ _ h)
    · have h := h.2 c46
      refine jq_iload_n (k0 := 1) dX2_shareOut_49 hC rfl rfl ?_
      refine jq_i2l dX2_shareOut_50 hC ?_
      refine jq_aload_n (k0 := 0) dX2_shareOut_51 hC rfl rfl ?_
      refine jq_get (k0 := 2) (n := n) (o := 12) dX2_shareOut_52 hC (cl_T (by omega) (by decide)) rfl rfl hi_X2_shareOut_X2 (by decide) hl_X2_shareOut_39 rfl rfl ?_
      refine jq_get (k0 := 6) (n := n) (o := 0) dX2_shareOut_55 hC (cl_S (by omega) (by decide)) rfl rfl hi_X2_shareOut_X5 (by decide) hl_X2_shareOut_111 rfl rfl ?_
      refine jq_iload (k0 := 5) dX2_shareOut_58 hC rfl ?_
      obtain ⟨b60, h⟩ := h
      refine jq_iald (n := n) (o := 5) (j := x5.toNatClampNeg) dX2_shareOut_60 hC (cl_S (by omega) (by decide)) rfl b60 rfl ?_
      refine jq_i2l dX2_shareOut_61 hC ?_
      refine jq_lmul dX2_shareOut_62 hC ?_
      refine jq_lstore (L' := [(6, .long (x1.toInt64 * ((wi w39 n 5 x5.toNatClampNeg).toInt64))), (0, .ref (aD G n 12)), (1, .int x1), (2, .int x2), (3, .int x3), (4, .int x4), (5, .int x5)]) dX2_shareOut_63 hC (by decide) rfl ?_
      refine jq_aload_n (k0 := 1) dX2_shareOut_65 hC rfl rfl ?_
      refine jq_get (k0 := 11) (n := n) (o := 12) dX2_shareOut_66 hC (cl_T (by omega) (by decide)) rfl rfl hi_X2_shareOut_X2 (by decide) hl_X2_shareOut_33 rfl rfl ?_
      refine jq_iload (k0 := 6) dX2_shareOut_69 hC rfl ?_
      refine jq_lload (k0 := 0) dX2_shareOut_71 hC rfl ?_
      refine jq_iload_n (k0 := 4) dX2_shareOut_73 hC rfl rfl ?_
      refine jq_i2l dX2_shareOut_74 hC ?_
      obtain ⟨b75, h⟩ := h
      refine jq_ldiv dX2_shareOut_75 hC b75 ?_
      refine jq_l2i dX2_shareOut_76 hC ?_
      obtain ⟨b77, h⟩ := h
      refine jq_iast (n := n) (o := 20) (j := x5.toNatClampNeg) dX2_shareOut_77 hC (cl_T (by omega) (by decide)) (fun _ => rfl) b77 rfl ?_
      refine jq_w (fun w77 e77 => ?_)
      have h := h w77 e77
      refine jq_aload_n (k0 := 1) dX2_shareOut_78 hC rfl rfl ?_
      refine jq_get (k0 := 12) (n := n) (o := 12) dX2_shareOut_79 hC (cl_T (by omega) (by decide)) rfl rfl hi_X2_shareOut_X2 (by decide) hl_X2_shareOut_36 rfl rfl ?_
      refine jq_iload (k0 := 6) dX2_shareOut_82 hC rfl ?_
      refine jq_lload (k0 := 0) dX2_shareOut_84 hC rfl ?_
      refine jq_iload_n (k0 := 4) dX2_shareOut_86 hC rfl rfl ?_
      refine jq_i2l dX2_shareOut_87 hC ?_
      obtain ⟨b88, h⟩ := h
      refine jq_lrem dX2_shareOut_88 hC b88 ?_
      refine jq_l2i dX2_shareOut_89 hC ?_
      obtain ⟨b90, h⟩ := h
      refine jq_iast (n := n) (o := 21) (j := x5.toNatClampNeg) dX2_shareOut_90 hC (cl_T (by omega) (by decide)) (fun _ => rfl) b90 rfl ?_
      refine jq_w (fun w90 e90 => ?_)
      have h := h w90 e90
      refine jq_iload (k0 := 5) dX2_shareOut_91 hC rfl ?_
      refine jq_aload_n (k0 := 1) dX2_shareOut_93 hC rfl rfl ?_
      refine jq_get (k0 := 11) (n := n) (o := 12) dX2_shareOut_94 hC (cl_T (by omega) (by decide)) rfl rfl hi_X2_shareOut_X2 (by decide) hl_X2_shareOut_33 rfl rfl ?_
      refine jq_iload (k0 := 6) dX2_shareOut_97 hC rfl ?_
      obtain ⟨b99, h⟩ := h
      refine jq_iald (n := n) (o := 20) (j := x5.toNatClampNeg) dX2_shareOut_99 hC (cl_T (by omega) (by decide)) rfl b99 rfl ?_
      refine jq_isub dX2_shareOut_100 hC ?_
      refine jq_istore (L' := [(4, .int (x4 - (wi w90 n 20 x5.toNatClampNeg))), (6, .long (x1.toInt64 * ((wi w39 n 5 x5.toNatClampNeg).toInt64))), (0, .ref (aD G n 12)), (1, .int x1), (2, .int x2), (3, .int x3), (5, .int x5)]) dX2_shareOut_101 hC (by decide) rfl ?_
      refine jq_iinc (k0 := 6) (v := (x5 + 1)) (L' := [(5, .int (x5 + 1)), (4, .int (x4 - (wi w90 n 20 x5.toNatClampNeg))), (6, .long (x1.toInt64 * ((wi w39 n 5 x5.toNatClampNeg).toInt64))), (0, .ref (aD G n 12)), (1, .int x1), (2, .int x2), (3, .int x3)]) dX2_shareOut_103 hC rfl rfl (by decide) rfl ?_
      refine jq_goto (tgt := 20) dX2_shareOut_106 hC (by decide) ?_
      exact jq_less (L' := [(0, .ref (aD G n 12)), (1, .int x1), (2, .int x2), (3, .int x3), (4, .int (x4 - (wi w90 n 20 x5.toNatClampNeg))), (5, .int (x5 + 1))]) [3, 4, 5, 6, 1, 0] rfl (hK20 _ _ _ h)
theorem ok_X2_shareOut_L20 {G : Gt} {M : Mx} {Qf : State → Prop} {n : Nat} {x1 : Int32} {x2 : Int32} {x3 : Int32} {x4 : Int32} {x5 : Int32} {w : Wd} {Q : Wd → Prop} (hC : cx G D_X2_shareOut M) (he : en G M (qv Q) Qf) (hn : n < 2) (h : wp_X2_shareOut_L20 n x1 x2 x3 x4 x5 w Q) : jq G D_X2_shareOut M Qf 20 [(0, .ref (aD G n 12)), (1, .int x1), (2, .int x2), (3, .int x3), (4, .int x4), (5, .int x5)] [] w := by
  unfold wp_X2_shareOut_L20 at h
  obtain ⟨I, μ, h0, hs⟩ := h
  exact lp_ind (σ := Int32 × Int32 × Wd) (P := fun s => jq G D_X2_shareOut M Qf 20 [(0, .ref (aD G n 12)), (1, .int x1), (2, .int x2), (3, .int x3), (4, .int s.1), (5, .int s.2.1)] [] s.2.2) (fun s => I s.1 s.2.1 s.2.2) (fun s => μ s.1 s.2.1 s.2.2) (fun s h1 ih => ok_X2_shareOut_B20 hC he hn (hs s.1 s.2.1 s.2.2 h1) (fun x4' x5' w' h => ih (x4', x5', w') h.1 h.2)) (x4, x5, w) h0
theorem ok_X2_shareOut {G : Gt} {M : Mx} {Qf : State → Prop} {n : Nat} {x1 : Int32} {x2 : Int32} {w : Wd} {Q : Wd → Prop} (hC : cx G D_X2_shareOut M) (he : en G M (qv Q) Qf) (hn : n < 2) (h : wp_X2_shareOut n x1 x2 w Q) : jq G D_X2_shareOut M Qf 0 [(0, .ref (aD G n 12)), (1, .int x1), (2, .int x2)] [] w := by
  unfold wp_X2_shareOut at h
  refine jq_aload_n (k0 := 0) dX2_shareOut_0 hC rfl rfl ?_
  refine jq_get (k0 := 2) (n := n) (o := 12) dX2_shareOut_1 hC (cl_T (by omega) (by decide)) rfl rfl hi_X2_shareOut_X2 (by decide) hl_X2_shareOut_39 rfl rfl ?_
  refine jq_iload_n (k0 := 2) dX2_shareOut_4 hC rfl rfl ?_
  refine jq_callV (As := [.int x2]) (rest := []) (n := n) (o := 0) (D' := D_X5_lengthOf) dX2_shareOut_5 hC (cl_S (by omega) (by decide)) rfl rfl rfl (mt_X5_lengthOf (by omega) h) gX2_shareOut_X5_lengthOf rfl ⟨rfl, rfl, Nat.le_of_ble_eq_true rfl, Nat.le_of_ble_eq_true rfl⟩ nm_X5_lengthOf rfl (Nat.le_of_ble_eq_true rfl) (kIp fun r5 h => ?_)
  refine jq_istore_n (L' := [(3, .int r5), (0, .ref (aD G n 12)), (1, .int x1), (2, .int x2)]) dX2_shareOut_8 hC rfl (by decide) rfl ?_
  refine jq_iload_n (k0 := 0) dX2_shareOut_9 hC rfl rfl ?_
  refine jq_if_gt (tgt := 14) dX2_shareOut_10 hC (by decide) (fun c10 => ?_) (fun c10 => ?_)
  · have h := h.1 c10
    refine jq_iload_n (k0 := 2) dX2_shareOut_14 hC rfl rfl ?_
    refine jq_istore (L' := [(4, .int x1), (3, .int r5), (0, .ref (aD G n 12)), (1, .int x1), (2, .int x2)]) dX2_shareOut_15 hC (by decide) rfl ?_
    refine jq_iconst (v := (0 : Int32)) dX2_shareOut_17 hC (by decide) ?_
    refine jq_istore (L' := [(5, .int (0 : Int32)), (4, .int x1), (3, .int r5), (0, .ref (aD G n 12)), (1, .int x1), (2, .int x2)]) dX2_shareOut_18 hC (by decide) rfl ?_
    refine jq_less (L' := [(0, .ref (aD G n 12)), (1, .int x1), (2, .int x2), (3, .int r5), (4, .int x1), (5, .int (0 : Int32))]) [3, 4, 5, 2, 1, 0] rfl ?_
    exact ok_X2_shareOut_L20 hC he hn h
  · have h := h.2 c10
    exact jq_vret dX2_shareOut_13 hC he rfl ⟨rfl, h⟩
theorem mt_X2_shareOut {G : Gt} {n : Nat} {x1 : Int32} {x2 : Int32} {w : Wd} {Q : Wd → Prop} (hn : n < 2) (h : wp_X2_shareOut n x1 x2 w Q) : Mt G D_X2_shareOut [.ref (aD G n 12), .int x1, .int x2] w (qv Q) := Mt_of (by decide +kernel) rfl rfl (Nat.le_of_ble_eq_true rfl) (fun M Qf hC he => ok_X2_shareOut hC he hn h)
/-! X2.correct(IIZ)V -/
theorem dX2_correct_0 : decode cX2_correct 0 = .ok (.iconst 0, 1) := by decide +kernel
theorem dX2_correct_1 : decode cX2_correct 1 = .ok (.istore 4, 2) := by decide +kernel
theorem dX2_correct_3 : decode cX2_correct 3 = .ok (.iload 4, 2) := by decide +kernel
theorem dX2_correct_5 : decode cX2_correct 5 = .ok (.aload_n 0, 1) := by decide +kernel
theorem dX2_correct_6 : decode cX2_correct 6 = .ok (.getfield 39, 3) := by decide +kernel
theorem dX2_correct_9 : decode cX2_correct 9 = .ok (.getfield 54, 3) := by decide +kernel
theorem dX2_correct_12 : decode cX2_correct 12 = .ok (.if_icmp .ge 70, 3) := by decide +kernel
theorem dX2_correct_15 : decode cX2_correct 15 = .ok (.iload_n 2, 1) := by decide +kernel
theorem dX2_correct_16 : decode cX2_correct 16 = .ok (.iload 4, 2) := by decide +kernel
theorem dX2_correct_18 : decode cX2_correct 18 = .ok (.invokestatic 61, 3) := by decide +kernel
theorem dX2_correct_21 : decode cX2_correct 21 = .ok (.ifCond .eq 55, 3) := by decide +kernel
theorem dX2_correct_24 : decode cX2_correct 24 = .ok (.aload_n 0, 1) := by decide +kernel
theorem dX2_correct_25 : decode cX2_correct 25 = .ok (.getfield 24, 3) := by decide +kernel
theorem dX2_correct_28 : decode cX2_correct 28 = .ok (.iload_n 1, 1) := by decide +kernel
theorem dX2_correct_29 : decode cX2_correct 29 = .ok (.iaload, 1) := by decide +kernel
theorem dX2_correct_30 : decode cX2_correct 30 = .ok (.iload 4, 2) := by decide +kernel
theorem dX2_correct_32 : decode cX2_correct 32 = .ok (.invokestatic 61, 3) := by decide +kernel
theorem dX2_correct_35 : decode cX2_correct 35 = .ok (.iload_n 3, 1) := by decide +kernel
theorem dX2_correct_36 : decode cX2_correct 36 = .ok (.if_icmp .ne 7, 3) := by decide +kernel
theorem dX2_correct_39 : decode cX2_correct 39 = .ok (.iconst 1, 1) := by decide +kernel
theorem dX2_correct_40 : decode cX2_correct 40 = .ok (.goto 4, 3) := by decide +kernel
theorem dX2_correct_43 : decode cX2_correct 43 = .ok (.iconst 0, 1) := by decide +kernel
theorem dX2_correct_44 : decode cX2_correct 44 = .ok (.istore 5, 2) := by decide +kernel
theorem dX2_correct_46 : decode cX2_correct 46 = .ok (.aload_n 0, 1) := by decide +kernel
theorem dX2_correct_47 : decode cX2_correct 47 = .ok (.getfield 9, 3) := by decide +kernel
theorem dX2_correct_50 : decode cX2_correct 50 = .ok (.iload 4, 2) := by decide +kernel
theorem dX2_correct_52 : decode cX2_correct 52 = .ok (.iload 5, 2) := by decide +kernel
theorem dX2_correct_54 : decode cX2_correct 54 = .ok (.ifCond .eq 14, 3) := by decide +kernel
theorem dX2_correct_57 : decode cX2_correct 57 = .ok (.aload_n 0, 1) := by decide +kernel
theorem dX2_correct_58 : decode cX2_correct 58 = .ok (.getfield 33, 3) := by decide +kernel
theorem dX2_correct_61 : decode cX2_correct 61 = .ok (.iload 4, 2) := by decide +kernel
theorem dX2_correct_63 : decode cX2_correct 63 = .ok (.iaload, 1) := by decide +kernel
theorem dX2_correct_64 : decode cX2_correct 64 = .ok (.ineg, 1) := by decide +kernel
theorem dX2_correct_65 : decode cX2_correct 65 = .ok (.goto 10, 3) := by decide +kernel
theorem dX2_correct_68 : decode cX2_correct 68 = .ok (.aload_n 0, 1) := by decide +kernel
theorem dX2_correct_69 : decode cX2_correct 69 = .ok (.getfield 33, 3) := by decide +kernel
theorem dX2_correct_72 : decode cX2_correct 72 = .ok (.iload 4, 2) := by decide +kernel
theorem dX2_correct_74 : decode cX2_correct 74 = .ok (.iaload, 1) := by decide +kernel
theorem dX2_correct_75 : decode cX2_correct 75 = .ok (.iastore, 1) := by decide +kernel
theorem dX2_correct_76 : decode cX2_correct 76 = .ok (.iinc 4 1, 3) := by decide +kernel
theorem dX2_correct_79 : decode cX2_correct 79 = .ok (.goto (-76), 3) := by decide +kernel
theorem dX2_correct_82 : decode cX2_correct 82 = .ok (.return_, 1) := by decide +kernel
set_option maxRecDepth 20000 in
theorem ggX2_correct_X8_isIn : GoodIn wsX2_correct wsX8_isIn := goodIn_r _ [8] (by decide +kernel) (by decide +kernel)
def D_X2_correct : Md := (yX2_correct, cX2_correct, 6, none, wsX2_correct, RX2, { frames := 1, cells := 0, slots := 0, locals := 21 })
theorem nm_X2_correct : nmD D_X2_correct 3 := ⟨rfl, by decide +kernel, by decide +kernel, by decide +kernel⟩
theorem hi_X2_correct_X2 : ∀ w ∈ u_ws RX2 TX2 13, w ∈ wsX2_correct := by decide +kernel
theorem hi_X2_correct_X5 : ∀ w ∈ u_ws RX5 TX5 8, w ∈ wsX2_correct := by decide +kernel
theorem hl_X2_correct_9 : Cond.fieldLink RX2 9 "LevelLoops$Loops" "correction" "[I" ∈ wsX2_correct := by decide +kernel
theorem hl_X2_correct_24 : Cond.fieldLink RX2 24 "LevelLoops$Loops" "forward" "[I" ∈ wsX2_correct := by decide +kernel
theorem hl_X2_correct_33 : Cond.fieldLink RX2 33 "LevelLoops$Loops" "share" "[I" ∈ wsX2_correct := by decide +kernel
theorem hl_X2_correct_39 : Cond.fieldLink RX2 39 "LevelLoops$Loops" "survey" "LLevelLoops$Survey;" ∈ wsX2_correct := by decide +kernel
theorem hl_X2_correct_54 : Cond.fieldLink RX2 54 "LevelLoops$Survey" "legs" "I" ∈ wsX2_correct := by decide +kernel
def wp_X2_correct_J75 (n : Nat) (x1 : Int32) (x2 : Int32) (x3 : Int32) (x4 : Int32) (s0 : Int32) (s1 : Int32) (w : Wd) (Q : Wd → Prop) (K3 : Int32 → Wd → Prop) : Prop :=
  vp_in s1 20 ∧ (∀ w75 : Wd, w75 = (sI w n 13 s1.toNatClampNeg s0) → K3 (x4 + 1) w75)
def wp_X2_correct_J44 (n : Nat) (x1 : Int32) (x2 : Int32) (x3 : Int32) (x4 : Int32) (s0 : Int32) (w : Wd) (Q : Wd → Prop) (K3 : Int32 → Wd → Prop) : Prop :=
  ((s0 = 0 → vp_in x4 20 ∧ wp_X2_correct_J75 n x1 x2 x3 x4 (wi w n 20 x4.toNatClampNeg) x4 w Q K3) ∧ (¬ s0 = 0 → vp_in x4 20 ∧ wp_X2_correct_J75 n x1 x2 x3 x4 (-(wi w n 20 x4.toNatClampNeg)) x4 w Q K3))
def wp_X2_correct_B3 (n : Nat) (x1 : Int32) (x2 : Int32) (x3 : Int32) (x4 : Int32) (w : Wd) (Q : Wd → Prop) (K3 : Int32 → Wd → Prop) : Prop :=
  (((wi w n 0 1) ≤ x4 → Q w) ∧ (¬ (wi w n 0 1) ≤ x4 → wp_X8_isIn x2 x4 (fun r18 => ((r18 = 0 → K3 (x4 + 1) w) ∧ (¬ r18 = 0 → vp_in x1 20 ∧ wp_X8_isIn (wi w n 17 x1.toNatClampNeg) x4 (fun r32 => ((¬ r32 = x3 → wp_X2_correct_J44 n x1 x2 x3 x4 (0 : Int32) w Q K3) ∧ (r32 = x3 → wp_X2_correct_J44 n x1 x2 x3 x4 (1 : Int32) w Q K3))))))))
def wp_X2_correct_L3 (n : Nat) (x1 : Int32) (x2 : Int32) (x3 : Int32) (x4 : Int32) (w : Wd) (Q : Wd → Prop) : Prop :=
  ∃ (I : Int32 → Wd → Prop) (μ : Int32 → Wd → Nat), I x4 w ∧ ∀ (x4 : Int32) (w : Wd), I x4 w → wp_X2_correct_B3 n x1 x2 x3 x4 w Q (fun x4' w' => I x4' w' ∧ μ x4' w' < μ x4 w)
def wp_X2_correct (n : Nat) (x1 : Int32) (x2 : Int32) (x3 : Int32) (w : Wd) (Q : Wd → Prop) : Prop :=
  wp_X2_correct_L3 n x1 x2 x3 (0 : Int32) w Q
theorem ok_X2_correct_J75 {G : Gt} {M : Mx} {Qf : State → Prop} {n : Nat} {x1 : Int32} {x2 : Int32} {x3 : Int32} {x4 : Int32} {s0 : Int32} {s1 : Int32} {w : Wd} {Q : Wd → Prop} {K3 : Int32 → Wd → Prop} (hC : cx G D_X2_correct M) (he : en G M (qv Q) Qf) (hn : n < 2) (h : wp_X2_correct_J75 n x1 x2 x3 x4 s0 s1 w Q K3) (hK3 : ∀ (x4 : Int32) (w : Wd), K3 x4 w → jq G D_X2_correct M Qf 3 [(0, .ref (aD G n 12)), (1, .int x1), (2, .int x2), (3, .int x3), (4, .int x4)] [] w) : jq G D_X2_correct M Qf 75 [(0, .ref (aD G n 12)), (1, .int x1), (2, .int x2), (3, .int x3), (4, .int x4)] [.int s0, .int s1, .ref (aD G n 13)] w := by
  unfold wp_X2_correct_J75 at h
  obtain ⟨b75, h⟩ := h
  refine jq_iast (n := n) (o := 13) (j := s1.toNatClampNeg) dX2_correct_75 hC (cl_T (by omega) (by decide)) (fun _ => rfl) b75 rfl ?_
  refine jq_w (fun w75 e75 => ?_)
  have h := h w75 e75
  refine jq_iinc (k0 := 4) (v := (x4 + 1)) (L' := [(4, .int (x4 + 1)), (0, .ref (aD G n 12)), (1, .int x1), (2, .int x2), (3, .int x3)]) dX2_correct_76 hC rfl rfl (by decide) rfl ?_
  refine jq_goto (tgt := 3) dX2_correct_79 hC (by decide) ?_
  exact jq_less (L' := [(0, .ref (aD G n 12)), (1, .int x1), (2, .int x2), (3, .int x3), (4, .int (x4 + 1))]) [1, 2, 3, 4, 0] rfl (hK3 _ _ h)
theorem ok_X2_correct_J44 {G : Gt} {M : Mx} {Qf : State → Prop} {n : Nat} {x1 : Int32} {x2 : Int32} {x3 : Int32} {x4 : Int32} {s0 : Int32} {w : Wd} {Q : Wd → Prop} {K3 : Int32 → Wd → Prop} (hC : cx G D_X2_correct M) (he : en G M (qv Q) Qf) (hn : n < 2) (h : wp_X2_correct_J44 n x1 x2 x3 x4 s0 w Q K3) (hK3 : ∀ (x4 : Int32) (w : Wd), K3 x4 w → jq G D_X2_correct M Qf 3 [(0, .ref (aD G n 12)), (1, .int x1), (2, .int x2), (3, .int x3), (4, .int x4)] [] w) : jq G D_X2_correct M Qf 44 [(0, .ref (aD G n 12)), (1, .int x1), (2, .int x2), (3, .int x3), (4, .int x4)] [.int s0] w := by
  unfold wp_X2_correct_J44 at h
  refine jq_istore (L' := [(5, .int s0), (0, .ref (aD G n 12)), (1, .int x1), (2, .int x2), (3, .int x3), (4, .int x4)]) dX2_correct_44 hC (by decide) rfl ?_
  refine jq_aload_n (k0 := 1) dX2_correct_46 hC rfl rfl ?_
  refine jq_get (k0 := 1) (n := n) (o := 12) dX2_correct_47 hC (cl_T (by omega) (by decide)) rfl rfl hi_X2_correct_X2 (by decide) hl_X2_correct_9 rfl rfl ?_
  refine jq_iload (k0 := 5) dX2_correct_50 hC rfl ?_
  refine jq_iload (k0 := 0) dX2_correct_52 hC rfl ?_
  refine jq_if_eq (tgt := 68) dX2_correct_54 hC (by decide) (fun c54 => ?_) (fun c54 => ?_)
  · have h := h.1 c54
    refine jq_aload_n (k0 := 1) dX2_correct_68 hC rfl rfl ?_
    refine jq_get (k0 := 11) (n := n) (o := 12) dX2_correct_69 hC (cl_T (by omega) (by decide)) rfl rfl hi_X2_correct_X2 (by decide) hl_X2_correct_33 rfl rfl ?_
    refine jq_iload (k0 := 5) dX2_correct_72 hC rfl ?_
    obtain ⟨b74, h⟩ := h
    refine jq_iald (n := n) (o := 20) (j := x4.toNatClampNeg) dX2_correct_74 hC (cl_T (by omega) (by decide)) rfl b74 rfl ?_
    refine jq_less (L' := [(0, .ref (aD G n 12)), (1, .int x1), (2, .int x2), (3, .int x3), (4, .int x4)]) [1, 2, 3, 4, 5] rfl ?_
    exact ok_X2_correct_J75 hC he hn h hK3
  · have h := h.2 c54
    refine jq_aload_n (k0 := 1) dX2_correct_57 hC rfl rfl ?_
    refine jq_get (k0 := 11) (n := n) (o := 12) dX2_correct_58 hC (cl_T (by omega) (by decide)) rfl rfl hi_X2_correct_X2 (by decide) hl_X2_correct_33 rfl rfl ?_
    refine jq_iload (k0 := 5) dX2_correct_61 hC rfl ?_
    obtain ⟨b63, h⟩ := h
    refine jq_iald (n := n) (o := 20) (j := x4.toNatClampNeg) dX2_correct_63 hC (cl_T (by omega) (by decide)) rfl b63 rfl ?_
    refine jq_ineg dX2_correct_64 hC ?_
    refine jq_goto (tgt := 75) dX2_correct_65 hC (by decide) ?_
    refine jq_less (L' := [(0, .ref (aD G n 12)), (1, .int x1), (2, .int x2), (3, .int x3), (4, .int x4)]) [1, 2, 3, 4, 5] rfl ?_
    exact ok_X2_correct_J75 hC he hn h hK3
theorem ok_X2_correct_B3 {G : Gt} {M : Mx} {Qf : State → Prop} {n : Nat} {x1 : Int32} {x2 : Int32} {x3 : Int32} {x4 : Int32} {w : Wd} {Q : Wd → Prop} {K3 : Int32 → Wd → Prop} (hC : cx G D_X2_correct M) (he : en G M (qv Q) Qf) (hn : n < 2) (h : wp_X2_correct_B3 n x1 x2 x3 x4 w Q K3) (hK3 : ∀ (x4 : Int32) (w : Wd), K3 x4 w → jq G D_X2_correct M Qf 3 [(0, .ref (aD G n 12)), (1, .int x1), (2, .int x2), (3, .int x3), (4, .int x4)] [] w) : jq G D_X2_correct M Qf 3 [(0, .ref (aD G n 12)), (1, .int x1), (2, .int x2), (3, .int x3), (4, .int x4)] [] w := by
  unfold wp_X2_correct_B3 at h
  refine jq_iload (k0 := 4) dX2_correct_3 hC rfl ?_
  refine jq_aload_n (k0 := 0) dX2_correct_5 hC rfl rfl ?_
  refine jq_get (k0 := 2) (n := n) (o := 12) dX2_correct_6 hC (cl_T (by omega) (by decide)) rfl rfl hi_X2_correct_X2 (by decide) hl_X2_correct_39 rfl rfl ?_
  refine jq_get (k0 := 1) (n := n) (o := 0) dX2_correct_9 hC (cl_S (by omega) (by decide)) rfl rfl hi_X2_correct_X5 (by decide) hl_X2_correct_54 rfl rfl ?_
  refine jq_icmp_ge (tgt := 82) dX2_correct_12 hC (by decide) (fun c12 => ?_) (fun c12 => ?_)
  · have h := h.1 c12
    exact jq_vret dX2_correct_82 hC he rfl ⟨rfl, h⟩
  · have h := h.2 c12
    refine jq_iload_n (k0 := 2) dX2_correct_15 hC rfl rfl ?_
    refine jq_iload (k0 := 4) dX2_correct_16 hC rfl ?_
    refine jq_callSN (As := [.int x2, .int x4]) (rest := []) (D' := D_X8_isIn) (host := "LevelLoops") dX2_correct_18 hC (mt_X8_isIn h) ggX2_correct_X8_isIn rfl (by decide +kernel) (by decide +kernel) (by decide +kernel) ⟨rfl, rfl, Nat.le_of_ble_eq_true rfl, Nat.le_of_ble_eq_true rfl⟩ nm_X8_isIn rfl (Nat.le_of_ble_eq_true rfl) (kIp fun r18 h => ?_)
    refine jq_if_eq (tgt := 76) dX2_correct_21 hC (by decide) (fun c21 => ?_) (fun c21 => ?_)
    · have h := h.1 c21
      refine jq_iinc (k0 := 4) (v := (x4 + 1)) (L' := [(4, .int (x4 + 1)), (0, .ref (aD G n 12)), (1, .int x1), (2, .int x2), (3, .int x3)]) dX2_correct_76 hC rfl rfl (by decide) rfl ?_
      refine jq_goto (tgt := 3) dX2_correct_79 hC (by decide) ?_
      exact jq_less (L' := [(0, .ref (aD G n 12)), (1, .int x1), (2, .int x2), (3, .int x3), (4, .int (x4 + 1))]) [1, 2, 3, 4, 0] rfl (hK3 _ _ h)
    · have h := h.2 c21
      refine jq_aload_n (k0 := 0) dX2_correct_24 hC rfl rfl ?_
      refine jq_get (k0 := 8) (n := n) (o := 12) dX2_correct_25 hC (cl_T (by omega) (by decide)) rfl rfl hi_X2_correct_X2 (by decide) hl_X2_correct_24 rfl rfl ?_
      refine jq_iload_n (k0 := 1) dX2_correct_28 hC rfl rfl ?_
      obtain ⟨b29, h⟩ := h
      refine jq_iald (n := n) (o := 17) (j := x1.toNatClampNeg) dX2_correct_29 hC (cl_T (by omega) (by decide)) rfl b29 rfl ?_
      refine jq_iload (k0 := 4) dX2_correct_30 hC rfl ?_
      refine jq_callSN (As := [.int (wi w n 17 x1.toNatClampNeg), .int x4]) (rest := []) (D' := D_X8_isIn) (host := "LevelLoops") dX2_correct_32 hC (mt_X8_isIn h) ggX2_correct_X8_isIn rfl (by decide +kernel) (by decide +kernel) (by decide +kernel) ⟨rfl, rfl, Nat.le_of_ble_eq_true rfl, Nat.le_of_ble_eq_true rfl⟩ nm_X8_isIn rfl (Nat.le_of_ble_eq_true rfl) (kIp fun r32 h => ?_)
      refine jq_iload_n (k0 := 3) dX2_correct_35 hC rfl rfl ?_
      refine jq_icmp_ne (tgt := 43) dX2_correct_36 hC (by decide) (fun c36 => ?_) (fun c36 => ?_)
      · have h := h.1 c36
        refine jq_iconst (v := (0 : Int32)) dX2_correct_43 hC (by decide) ?_
        refine jq_less (L' := [(0, .ref (aD G n 12)), (1, .int x1), (2, .int x2), (3, .int x3), (4, .int x4)]) [0, 1, 2, 3, 4] rfl ?_
        exact ok_X2_correct_J44 hC he hn h hK3
      · have h := h.2 c36
        refine jq_iconst (v := (1 : Int32)) dX2_correct_39 hC (by decide) ?_
        refine jq_goto (tgt := 44) dX2_correct_40 hC (by decide) ?_
        refine jq_less (L' := [(0, .ref (aD G n 12)), (1, .int x1), (2, .int x2), (3, .int x3), (4, .int x4)]) [0, 1, 2, 3, 4] rfl ?_
        exact ok_X2_correct_J44 hC he hn h hK3
theorem ok_X2_correct_L3 {G : Gt} {M : Mx} {Qf : State → Prop} {n : Nat} {x1 : Int32} {x2 : Int32} {x3 : Int32} {x4 : Int32} {w : Wd} {Q : Wd → Prop} (hC : cx G D_X2_correct M) (he : en G M (qv Q) Qf) (hn : n < 2) (h : wp_X2_correct_L3 n x1 x2 x3 x4 w Q) : jq G D_X2_correct M Qf 3 [(0, .ref (aD G n 12)), (1, .int x1), (2, .int x2), (3, .int x3), (4, .int x4)] [] w := by
  unfold wp_X2_correct_L3 at h
  obtain ⟨I, μ, h0, hs⟩ := h
  exact lp_ind (σ := Int32 × Wd) (P := fun s => jq G D_X2_correct M Qf 3 [(0, .ref (aD G n 12)), (1, .int x1), (2, .int x2), (3, .int x3), (4, .int s.1)] [] s.2) (fun s => I s.1 s.2) (fun s => μ s.1 s.2) (fun s h1 ih => ok_X2_correct_B3 hC he hn (hs s.1 s.2 h1) (fun x4' w' h => ih (x4', w') h.1 h.2)) (x4, w) h0
theorem ok_X2_correct {G : Gt} {M : Mx} {Qf : State → Prop} {n : Nat} {x1 : Int32} {x2 : Int32} {x3 : Int32} {w : Wd} {Q : Wd → Prop} (hC : cx G D_X2_correct M) (he : en G M (qv Q) Qf) (hn : n < 2) (h : wp_X2_correct n x1 x2 x3 w Q) : jq G D_X2_correct M Qf 0 [(0, .ref (aD G n 12)), (1, .int x1), (2, .int x2), (3, .int x3)] [] w := by
  unfold wp_X2_correct at h
  refine jq_iconst (v := (0 : Int32)) dX2_correct_0 hC (by decide) ?_
  refine jq_istore (L' := [(4, .int (0 : Int32)), (0, .ref (aD G n 12)), (1, .int x1), (2, .int x2), (3, .int x3)]) dX2_correct_1 hC (by decide) rfl ?_
  refine jq_less (L' := [(0, .ref (aD G n 12)), (1, .int x1), (2, .int x2), (3, .int x3), (4, .int (0 : Int32))]) [1, 2, 3, 4, 0] rfl ?_
  exact ok_X2_correct_L3 hC he hn h
theorem mt_X2_correct {G : Gt} {n : Nat} {x1 : Int32} {x2 : Int32} {x3 : Int32} {w : Wd} {Q : Wd → Prop} (hn : n < 2) (h : wp_X2_correct n x1 x2 x3 w Q) : Mt G D_X2_correct [.ref (aD G n 12), .int x1, .int x2, .int x3] w (qv Q) := Mt_of (by decide +kernel) rfl rfl (Nat.le_of_ble_eq_true rfl) (fun M Qf hC he => ok_X2_correct hC he hn h)
/-! X2.spread()V -/
theorem dX2_spread_0 : decode cX2_spread 0 = .ok (.iconst 0, 1) := by decide +kernel
theorem dX2_spread_1 : decode cX2_spread 1 = .ok (.istore_n 1, 1) := by decide +kernel
theorem dX2_spread_2 : decode cX2_spread 2 = .ok (.iconst 0, 1) := by decide +kernel
theorem dX2_spread_3 : decode cX2_spread 3 = .ok (.istore_n 2, 1) := by decide +kernel
theorem dX2_spread_4 : decode cX2_spread 4 = .ok (.iload_n 2, 1) := by decide +kernel
theorem dX2_spread_5 : decode cX2_spread 5 = .ok (.aload_n 0, 1) := by decide +kernel
theorem dX2_spread_6 : decode cX2_spread 6 = .ok (.getfield 47, 3) := by decide +kernel
theorem dX2_spread_9 : decode cX2_spread 9 = .ok (.if_icmp .ge 74, 3) := by decide +kernel
theorem dX2_spread_12 : decode cX2_spread 12 = .ok (.aload_n 0, 1) := by decide +kernel
theorem dX2_spread_13 : decode cX2_spread 13 = .ok (.iload_n 2, 1) := by decide +kernel
theorem dX2_spread_14 : decode cX2_spread 14 = .ok (.invokevirtual 89, 3) := by decide +kernel
theorem dX2_spread_17 : decode cX2_spread 17 = .ok (.istore_n 3, 1) := by decide +kernel
theorem dX2_spread_18 : decode cX2_spread 18 = .ok (.aload_n 0, 1) := by decide +kernel
theorem dX2_spread_19 : decode cX2_spread 19 = .ok (.getfield 18, 3) := by decide +kernel
theorem dX2_spread_22 : decode cX2_spread 22 = .ok (.iload_n 2, 1) := by decide +kernel
theorem dX2_spread_23 : decode cX2_spread 23 = .ok (.iaload, 1) := by decide +kernel
theorem dX2_spread_24 : decode cX2_spread 24 = .ok (.iload_n 1, 1) := by decide +kernel
theorem dX2_spread_25 : decode cX2_spread 25 = .ok (.iconst (-1), 1) := by decide +kernel
theorem dX2_spread_26 : decode cX2_spread 26 = .ok (.ixor, 1) := by decide +kernel
theorem dX2_spread_27 : decode cX2_spread 27 = .ok (.iand, 1) := by decide +kernel
theorem dX2_spread_28 : decode cX2_spread 28 = .ok (.istore 4, 2) := by decide +kernel
theorem dX2_spread_30 : decode cX2_spread 30 = .ok (.aload_n 0, 1) := by decide +kernel
theorem dX2_spread_31 : decode cX2_spread 31 = .ok (.getfield 30, 3) := by decide +kernel
theorem dX2_spread_34 : decode cX2_spread 34 = .ok (.iload_n 2, 1) := by decide +kernel
theorem dX2_spread_35 : decode cX2_spread 35 = .ok (.iload_n 3, 1) := by decide +kernel
theorem dX2_spread_36 : decode cX2_spread 36 = .ok (.invokestatic 98, 3) := by decide +kernel
theorem dX2_spread_39 : decode cX2_spread 39 = .ok (.iastore, 1) := by decide +kernel
theorem dX2_spread_40 : decode cX2_spread 40 = .ok (.aload_n 0, 1) := by decide +kernel
theorem dX2_spread_41 : decode cX2_spread 41 = .ok (.aload_n 0, 1) := by decide +kernel
theorem dX2_spread_42 : decode cX2_spread 42 = .ok (.getfield 30, 3) := by decide +kernel
theorem dX2_spread_45 : decode cX2_spread 45 = .ok (.iload_n 2, 1) := by decide +kernel
theorem dX2_spread_46 : decode cX2_spread 46 = .ok (.iaload, 1) := by decide +kernel
theorem dX2_spread_47 : decode cX2_spread 47 = .ok (.iload 4, 2) := by decide +kernel
theorem dX2_spread_49 : decode cX2_spread 49 = .ok (.invokevirtual 103, 3) := by decide +kernel
theorem dX2_spread_52 : decode cX2_spread 52 = .ok (.aload_n 0, 1) := by decide +kernel
theorem dX2_spread_53 : decode cX2_spread 53 = .ok (.iload_n 2, 1) := by decide +kernel
theorem dX2_spread_54 : decode cX2_spread 54 = .ok (.iload 4, 2) := by decide +kernel
theorem dX2_spread_56 : decode cX2_spread 56 = .ok (.iload_n 3, 1) := by decide +kernel
theorem dX2_spread_57 : decode cX2_spread 57 = .ok (.ifCond .le 7, 3) := by decide +kernel
theorem dX2_spread_60 : decode cX2_spread 60 = .ok (.iconst 1, 1) := by decide +kernel
theorem dX2_spread_61 : decode cX2_spread 61 = .ok (.goto 4, 3) := by decide +kernel
theorem dX2_spread_64 : decode cX2_spread 64 = .ok (.iconst 0, 1) := by decide +kernel
theorem dX2_spread_65 : decode cX2_spread 65 = .ok (.invokevirtual 107, 3) := by decide +kernel
theorem dX2_spread_68 : decode cX2_spread 68 = .ok (.iload_n 1, 1) := by decide +kernel
theorem dX2_spread_69 : decode cX2_spread 69 = .ok (.aload_n 0, 1) := by decide +kernel
theorem dX2_spread_70 : decode cX2_spread 70 = .ok (.getfield 18, 3) := by decide +kernel
theorem dX2_spread_73 : decode cX2_spread 73 = .ok (.iload_n 2, 1) := by decide +kernel
theorem dX2_spread_74 : decode cX2_spread 74 = .ok (.iaload, 1) := by decide +kernel
theorem dX2_spread_75 : decode cX2_spread 75 = .ok (.ior, 1) := by decide +kernel
theorem dX2_spread_76 : decode cX2_spread 76 = .ok (.istore_n 1, 1) := by decide +kernel
theorem dX2_spread_77 : decode cX2_spread 77 = .ok (.iinc 2 1, 3) := by decide +kernel
theorem dX2_spread_80 : decode cX2_spread 80 = .ok (.goto (-76), 3) := by decide +kernel
theorem dX2_spread_83 : decode cX2_spread 83 = .ok (.return_, 1) := by decide +kernel
set_option maxRecDepth 20000 in
theorem ggX2_spread_X2_correct : GoodIn wsX2_spread wsX2_correct := goodIn_r _ [42, 13, 14, 17, 16, 27, 18, 19, 20, 43, 44, 45, 46, 47, 48, 49, 50, 51, 52, 53, 54, 55, 56, 57, 58, 59, 60, 61, 62, 63] (by decide +kernel) (by decide +kernel)
set_option maxRecDepth 20000 in
theorem gX2_spread_X2_correct : GoodIn wsX2_spread (wsV RX2 107 RX2 yX2_correct wsX2_correct) := goodIn_app (goodIn_of _ (by decide +kernel)) ggX2_spread_X2_correct
set_option maxRecDepth 20000 in
theorem ggX2_spread_X2_shareOut : GoodIn wsX2_spread wsX2_shareOut := goodIn_r _ [24, 13, 14, 25, 26, 27, 28, 29, 30, 31, 32, 33, 34, 18, 19, 20, 35, 36, 37, 11, 38, 43, 44, 45, 46, 47, 48, 49, 50, 51, 52, 53, 54, 55, 56, 57, 58, 59, 60, 61, 62, 63] (by decide +kernel) (by decide +kernel)
set_option maxRecDepth 20000 in
theorem gX2_spread_X2_shareOut : GoodIn wsX2_spread (wsV RX2 103 RX2 yX2_shareOut wsX2_shareOut) := goodIn_app (goodIn_of _ (by decide +kernel)) ggX2_spread_X2_shareOut
set_option maxRecDepth 20000 in
theorem ggX2_spread_X2_goneAlong : GoodIn wsX2_spread wsX2_goneAlong := goodIn_r _ [12, 13, 14, 2, 15, 16, 17, 18, 19, 20, 43, 44, 45, 46, 47, 48, 49, 50, 51, 52, 53, 54, 55, 56, 57, 58, 59, 60, 61, 62, 63] (by decide +kernel) (by decide +kernel)
set_option maxRecDepth 20000 in
theorem gX2_spread_X2_goneAlong : GoodIn wsX2_spread (wsV RX2 89 RX2 yX2_goneAlong wsX2_goneAlong) := goodIn_app (goodIn_of _ (by decide +kernel)) ggX2_spread_X2_goneAlong
def D_X2_spread : Md := (yX2_spread, cX2_spread, 5, none, wsX2_spread, RX2, { frames := 3, cells := 0, slots := 0, locals := 71 })
theorem nm_X2_spread : nmD D_X2_spread 0 := ⟨rfl, by decide +kernel, by decide +kernel, by decide +kernel⟩
theorem hi_X2_spread_X2 : ∀ w ∈ u_ws RX2 TX2 13, w ∈ wsX2_spread := by decide +kernel
theorem hl_X2_spread_18 : Cond.fieldLink RX2 18 "LevelLoops$Loops" "legs" "[I" ∈ wsX2_spread := by decide +kernel
theorem hl_X2_spread_30 : Cond.fieldLink RX2 30 "LevelLoops$Loops" "spreadMiss" "[I" ∈ wsX2_spread := by decide +kernel
theorem hl_X2_spread_47 : Cond.fieldLink RX2 47 "LevelLoops$Loops" "size" "I" ∈ wsX2_spread := by decide +kernel
def wp_X2_spread_J65 (n : Nat) (x1 : Int32) (x2 : Int32) (s0 : Int32) (s1 : Int32) (s2 : Int32) (w : Wd) (Q : Wd → Prop) (K4 : Int32 → Int32 → Wd → Prop) : Prop :=
  wp_X2_correct n s2 s1 s0 w (fun w65 => vp_in x2 20 ∧ K4 (x1 ||| (wi w65 n 15 x2.toNatClampNeg)) (x2 + 1) w65)
def wp_X2_spread_B4 (n : Nat) (x1 : Int32) (x2 : Int32) (w : Wd) (Q : Wd → Prop) (K4 : Int32 → Int32 → Wd → Prop) : Prop :=
  (((wi w n 12 0) ≤ x2 → Q w) ∧ (¬ (wi w n 12 0) ≤ x2 → wp_X2_goneAlong n x2 w (fun r14 => vp_in x2 20 ∧ vp_in x2 20 ∧ (∀ w39 : Wd, w39 = (sI w n 19 x2.toNatClampNeg (iabs r14)) → vp_in x2 20 ∧ wp_X2_shareOut n (wi w39 n 19 x2.toNatClampNeg) ((wi w n 15 x2.toNatClampNeg) &&& (x1 ^^^ (-1 : Int32))) w39 (fun w49 => ((r14 ≤ 0 → wp_X2_spread_J65 n x1 x2 (0 : Int32) ((wi w n 15 x2.toNatClampNeg) &&& (x1 ^^^ (-1 : Int32))) x2 w49 Q K4) ∧ (¬ r14 ≤ 0 → wp_X2_spread_J65 n x1 x2 (1 : Int32) ((wi w n 15 x2.toNatClampNeg) &&& (x1 ^^^ (-1 : Int32))) x2 w49 Q K4)))))))
def wp_X2_spread_L4 (n : Nat) (x1 : Int32) (x2 : Int32) (w : Wd) (Q : Wd → Prop) : Prop :=
  ∃ (I : Int32 → Int32 → Wd → Prop) (μ : Int32 → Int32 → Wd → Nat), I x1 x2 w ∧ ∀ (x1 : Int32) (x2 : Int32) (w : Wd), I x1 x2 w → wp_X2_spread_B4 n x1 x2 w Q (fun x1' x2' w' => I x1' x2' w' ∧ μ x1' x2' w' < μ x1 x2 w)
def wp_X2_spread (n : Nat) (w : Wd) (Q : Wd → Prop) : Prop :=
  wp_X2_spread_L4 n (0 : Int32) (0 : Int32) w Q
theorem ok_X2_spread_J65 {G : Gt} {M : Mx} {Qf : State → Prop} {n : Nat} {x1 : Int32} {x2 : Int32} {s0 : Int32} {s1 : Int32} {s2 : Int32} {w : Wd} {Q : Wd → Prop} {K4 : Int32 → Int32 → Wd → Prop} (hC : cx G D_X2_spread M) (he : en G M (qv Q) Qf) (hn : n < 2) (h : wp_X2_spread_J65 n x1 x2 s0 s1 s2 w Q K4) (hK4 : ∀ (x1 : Int32) (x2 : Int32) (w : Wd), K4 x1 x2 w → jq G D_X2_spread M Qf 4 [(0, .ref (aD G n 12)), (1, .int x1), (2, .int x2)] [] w) : jq G D_X2_spread M Qf 65 [(0, .ref (aD G n 12)), (1, .int x1), (2, .int x2)] [.int s0, .int s1, .int s2, .ref (aD G n 12)] w := by
  unfold wp_X2_spread_J65 at h
  refine jq_callV (As := [.int s2, .int s1, .int s0]) (rest := []) (n := n) (o := 12) (D' := D_X2_correct) dX2_spread_65 hC (cl_T (by omega) (by decide)) rfl rfl rfl (mt_X2_correct (by omega) h) gX2_spread_X2_correct rfl ⟨rfl, rfl, Nat.le_of_ble_eq_true rfl, Nat.le_of_ble_eq_true rfl⟩ nm_X2_correct rfl (Nat.le_of_ble_eq_true rfl) (kV fun w65 h => ?_)
  refine jq_iload_n (k0 := 1) dX2_spread_68 hC rfl rfl ?_
  refine jq_aload_n (k0 := 0) dX2_spread_69 hC rfl rfl ?_
  refine jq_get (k0 := 6) (n := n) (o := 12) dX2_spread_70 hC (cl_T (by omega) (by decide)) rfl rfl hi_X2_spread_X2 (by decide) hl_X2_spread_18 rfl rfl ?_
  refine jq_iload_n (k0 := 2) dX2_spread_73 hC rfl rfl ?_
  obtain ⟨b74, h⟩ := h
  refine jq_iald (n := n) (o := 15) (j := x2.toNatClampNeg) dX2_spread_74 hC (cl_T (by omega) (by decide)) rfl b74 rfl ?_
  refine jq_ior dX2_spread_75 hC ?_
  refine jq_istore_n (L' := [(1, .int (x1 ||| (wi w65 n 15 x2.toNatClampNeg))), (0, .ref (aD G n 12)), (2, .int x2)]) dX2_spread_76 hC rfl (by decide) rfl ?_
  refine jq_iinc (k0 := 2) (v := (x2 + 1)) (L' := [(2, .int (x2 + 1)), (1, .int (x1 ||| (wi w65 n 15 x2.toNatClampNeg))), (0, .ref (aD G n 12))]) dX2_spread_77 hC rfl rfl (by decide) rfl ?_
  refine jq_goto (tgt := 4) dX2_spread_80 hC (by decide) ?_
  exact jq_less (L' := [(0, .ref (aD G n 12)), (1, .int (x1 ||| (wi w65 n 15 x2.toNatClampNeg))), (2, .int (x2 + 1))]) [2, 1, 0] rfl (hK4 _ _ _ h)
theorem ok_X2_spread_B4 {G : Gt} {M : Mx} {Qf : State → Prop} {n : Nat} {x1 : Int32} {x2 : Int32} {w : Wd} {Q : Wd → Prop} {K4 : Int32 → Int32 → Wd → Prop} (hC : cx G D_X2_spread M) (he : en G M (qv Q) Qf) (hn : n < 2) (h : wp_X2_spread_B4 n x1 x2 w Q K4) (hK4 : ∀ (x1 : Int32) (x2 : Int32) (w : Wd), K4 x1 x2 w → jq G D_X2_spread M Qf 4 [(0, .ref (aD G n 12)), (1, .int x1), (2, .int x2)] [] w) : jq G D_X2_spread M Qf 4 [(0, .ref (aD G n 12)), (1, .int x1), (2, .int x2)] [] w := by
  unfold wp_X2_spread_B4 at h
  refine jq_iload_n (k0 := 2) dX2_spread_4 hC rfl rfl ?_
  refine jq_aload_n (k0 := 0) dX2_spread_5 hC rfl rfl ?_
  refine jq_get (k0 := 0) (n := n) (o := 12) dX2_spread_6 hC (cl_T (by omega) (by decide)) rfl rfl hi_X2_spread_X2 (by decide) hl_X2_spread_47 rfl rfl ?_
  refine jq_icmp_ge (tgt := 83) dX2_spread_9 hC (by decide) (fun c9 => ?_) (fun c9 => ?_)
  · have h := h.1 c9
    exact jq_vret dX2_spread_83 hC he rfl ⟨rfl, h⟩
  · have h := h.2 c9
    refine jq_aload_n (k0 := 0) dX2_spread_12 hC rfl rfl ?_
    refine jq_iload_n (k0 := 2) dX2_spread_13 hC rfl rfl ?_
    refine jq_callV (As := [.int x2]) (rest := []) (n := n) (o := 12) (D' := D_X2_goneAlong) dX2_spread_14 hC (cl_T (by omega) (by decide)) rfl rfl rfl (mt_X2_goneAlong (by omega) h) gX2_spread_X2_goneAlong rfl ⟨rfl, rfl, Nat.le_of_ble_eq_true rfl, Nat.le_of_ble_eq_true rfl⟩ nm_X2_goneAlong rfl (Nat.le_of_ble_eq_true rfl) (kIp fun r14 h => ?_)
    refine jq_istore_n (L' := [(3, .int r14), (0, .ref (aD G n 12)), (1, .int x1), (2, .int x2)]) dX2_spread_17 hC rfl (by decide) rfl ?_
    refine jq_aload_n (k0 := 1) dX2_spread_18 hC rfl rfl ?_
    refine jq_get (k0 := 6) (n := n) (o := 12) dX2_spread_19 hC (cl_T (by omega) (by decide)) rfl rfl hi_X2_spread_X2 (by decide) hl_X2_spread_18 rfl rfl ?_
    refine jq_iload_n (k0 := 3) dX2_spread_22 hC rfl rfl ?_
    obtain ⟨b23, h⟩ := h
    refine jq_iald (n := n) (o := 15) (j := x2.toNatClampNeg) dX2_spread_23 hC (cl_T (by omega) (by decide)) rfl b23 rfl ?_
    refine jq_iload_n (k0 := 2) dX2_spread_24 hC rfl rfl ?_
    refine jq_iconst (v := (-1 : Int32)) dX2_spread_25 hC (by decide) ?_
    refine jq_ixor dX2_spread_26 hC ?_
    refine jq_iand dX2_spread_27 hC ?_
    refine jq_istore (L' := [(4, .int ((wi w n 15 x2.toNatClampNeg) &&& (x1 ^^^ (-1 : Int32)))), (3, .int r14), (0, .ref (aD G n 12)), (1, .int x1), (2, .int x2)]) dX2_spread_28 hC (by decide) rfl ?_
    refine jq_aload_n (k0 := 2) dX2_spread_30 hC rfl rfl ?_
    refine jq_get (k0 := 10) (n := n) (o := 12) dX2_spread_31 hC (cl_T (by omega) (by decide)) rfl rfl hi_X2_spread_X2 (by decide) hl_X2_spread_30 rfl rfl ?_
    refine jq_iload_n (k0 := 4) dX2_spread_34 hC rfl rfl ?_
    refine jq_iload_n (k0 := 1) dX2_spread_35 hC rfl rfl ?_
    refine jq_abs dX2_spread_36 hC (by decide +kernel) (Nat.le_of_ble_eq_true rfl) (Nat.le_of_ble_eq_true rfl) ?_
    obtain ⟨b39, h⟩ := h
    refine jq_iast (n := n) (o := 19) (j := x2.toNatClampNeg) dX2_spread_39 hC (cl_T (by omega) (by decide)) (fun _ => rfl) b39 rfl ?_
    refine jq_w (fun w39 e39 => ?_)
    have h := h w39 e39
    refine jq_aload_n (k0 := 2) dX2_spread_40 hC rfl rfl ?_
    refine jq_aload_n (k0 := 2) dX2_spread_41 hC rfl rfl ?_
    refine jq_get (k0 := 10) (n := n) (o := 12) dX2_spread_42 hC (cl_T (by omega) (by decide)) rfl rfl hi_X2_spread_X2 (by decide) hl_X2_spread_30 rfl rfl ?_
    refine jq_iload_n (k0 := 4) dX2_spread_45 hC rfl rfl ?_
    obtain ⟨b46, h⟩ := h
    refine jq_iald (n := n) (o := 19) (j := x2.toNatClampNeg) dX2_spread_46 hC (cl_T (by omega) (by decide)) rfl b46 rfl ?_
    refine jq_iload (k0 := 0) dX2_spread_47 hC rfl ?_
    refine jq_callV (As := [.int (wi w39 n 19 x2.toNatClampNeg), .int ((wi w n 15 x2.toNatClampNeg) &&& (x1 ^^^ (-1 : Int32)))]) (rest := []) (n := n) (o := 12) (D' := D_X2_shareOut) dX2_spread_49 hC (cl_T (by omega) (by decide)) rfl rfl rfl (mt_X2_shareOut (by omega) h) gX2_spread_X2_shareOut rfl ⟨rfl, rfl, Nat.le_of_ble_eq_true rfl, Nat.le_of_ble_eq_true rfl⟩ nm_X2_shareOut rfl (Nat.le_of_ble_eq_true rfl) (kV fun w49 h => ?_)
    refine jq_aload_n (k0 := 2) dX2_spread_52 hC rfl rfl ?_
    refine jq_iload_n (k0 := 4) dX2_spread_53 hC rfl rfl ?_
    refine jq_iload (k0 := 0) dX2_spread_54 hC rfl ?_
    refine jq_iload_n (k0 := 1) dX2_spread_56 hC rfl rfl ?_
    refine jq_if_le (tgt := 64) dX2_spread_57 hC (by decide) (fun c57 => ?_) (fun c57 => ?_)
    · have h := h.1 c57
      refine jq_iconst (v := (0 : Int32)) dX2_spread_64 hC (by decide) ?_
      refine jq_less (L' := [(0, .ref (aD G n 12)), (1, .int x1), (2, .int x2)]) [2, 3, 4] rfl ?_
      exact ok_X2_spread_J65 hC he hn h hK4
    · have h := h.2 c57
      refine jq_iconst (v := (1 : Int32)) dX2_spread_60 hC (by decide) ?_
      refine jq_goto (tgt := 65) dX2_spread_61 hC (by decide) ?_
      refine jq_less (L' := [(0, .ref (aD G n 12)), (1, .int x1), (2, .int x2)]) [2, 3, 4] rfl ?_
      exact ok_X2_spread_J65 hC he hn h hK4
theorem ok_X2_spread_L4 {G : Gt} {M : Mx} {Qf : State → Prop} {n : Nat} {x1 : Int32} {x2 : Int32} {w : Wd} {Q : Wd → Prop} (hC : cx G D_X2_spread M) (he : en G M (qv Q) Qf) (hn : n < 2) (h : wp_X2_spread_L4 n x1 x2 w Q) : jq G D_X2_spread M Qf 4 [(0, .ref (aD G n 12)), (1, .int x1), (2, .int x2)] [] w := by
  unfold wp_X2_spread_L4 at h
  obtain ⟨I, μ, h0, hs⟩ := h
  exact lp_ind (σ := Int32 × Int32 × Wd) (P := fun s => jq G D_X2_spread M Qf 4 [(0, .ref (aD G n 12)), (1, .int s.1), (2, .int s.2.1)] [] s.2.2) (fun s => I s.1 s.2.1 s.2.2) (fun s => μ s.1 s.2.1 s.2.2) (fun s h1 ih => ok_X2_spread_B4 hC he hn (hs s.1 s.2.1 s.2.2 h1) (fun x1' x2' w' h => ih (x1', x2', w') h.1 h.2)) (x1, x2, w) h0
theorem ok_X2_spread {G : Gt} {M : Mx} {Qf : State → Prop} {n : Nat} {w : Wd} {Q : Wd → Prop} (hC : cx G D_X2_spread M) (he : en G M (qv Q) Qf) (hn : n < 2) (h : wp_X2_spread n w Q) : jq G D_X2_spread M Qf 0 [(0, .ref (aD G n 12))] [] w := by
  unfold wp_X2_spread at h
  refine jq_iconst (v := (0 : Int32)) dX2_spread_0 hC (by decide) ?_
  refine jq_istore_n (L' := [(1, .int (0 : Int32)), (0, .ref (aD G n 12))]) dX2_spread_1 hC rfl (by decide) rfl ?_
  refine jq_iconst (v := (0 : Int32)) dX2_spread_2 hC (by decide) ?_
  refine jq_istore_n (L' := [(2, .int (0 : Int32)), (1, .int (0 : Int32)), (0, .ref (aD G n 12))]) dX2_spread_3 hC rfl (by decide) rfl ?_
  refine jq_less (L' := [(0, .ref (aD G n 12)), (1, .int (0 : Int32)), (2, .int (0 : Int32))]) [2, 1, 0] rfl ?_
  exact ok_X2_spread_L4 hC he hn h
theorem mt_X2_spread {G : Gt} {n : Nat} {w : Wd} {Q : Wd → Prop} (hn : n < 2) (h : wp_X2_spread n w Q) : Mt G D_X2_spread [.ref (aD G n 12)] w (qv Q) := Mt_of (by decide +kernel) rfl rfl (Nat.le_of_ble_eq_true rfl) (fun M Qf hC he => ok_X2_spread hC he hn h)
/-! X2.ofLoop(II)I -/
theorem dX2_ofLoop_0 : decode cX2_ofLoop 0 = .ok (.iload_n 2, 1) := by decide +kernel
theorem dX2_ofLoop_1 : decode cX2_ofLoop 1 = .ok (.tableswitch 125 0 6 #[43, 50, 57, 64, 74, 102, 108], 43) := by decide +kernel
theorem dX2_ofLoop_44 : decode cX2_ofLoop 44 = .ok (.aload_n 0, 1) := by decide +kernel
theorem dX2_ofLoop_45 : decode cX2_ofLoop 45 = .ok (.getfield 15, 3) := by decide +kernel
theorem dX2_ofLoop_48 : decode cX2_ofLoop 48 = .ok (.iload_n 1, 1) := by decide +kernel
theorem dX2_ofLoop_49 : decode cX2_ofLoop 49 = .ok (.iaload, 1) := by decide +kernel
theorem dX2_ofLoop_50 : decode cX2_ofLoop 50 = .ok (.ireturn, 1) := by decide +kernel
theorem dX2_ofLoop_51 : decode cX2_ofLoop 51 = .ok (.aload_n 0, 1) := by decide +kernel
theorem dX2_ofLoop_52 : decode cX2_ofLoop 52 = .ok (.getfield 18, 3) := by decide +kernel
theorem dX2_ofLoop_55 : decode cX2_ofLoop 55 = .ok (.iload_n 1, 1) := by decide +kernel
theorem dX2_ofLoop_56 : decode cX2_ofLoop 56 = .ok (.iaload, 1) := by decide +kernel
theorem dX2_ofLoop_57 : decode cX2_ofLoop 57 = .ok (.ireturn, 1) := by decide +kernel
theorem dX2_ofLoop_58 : decode cX2_ofLoop 58 = .ok (.aload_n 0, 1) := by decide +kernel
theorem dX2_ofLoop_59 : decode cX2_ofLoop 59 = .ok (.getfield 21, 3) := by decide +kernel
theorem dX2_ofLoop_62 : decode cX2_ofLoop 62 = .ok (.iload_n 1, 1) := by decide +kernel
theorem dX2_ofLoop_63 : decode cX2_ofLoop 63 = .ok (.iaload, 1) := by decide +kernel
theorem dX2_ofLoop_64 : decode cX2_ofLoop 64 = .ok (.ireturn, 1) := by decide +kernel
theorem dX2_ofLoop_65 : decode cX2_ofLoop 65 = .ok (.aload_n 0, 1) := by decide +kernel
theorem dX2_ofLoop_66 : decode cX2_ofLoop 66 = .ok (.getfield 27, 3) := by decide +kernel
theorem dX2_ofLoop_69 : decode cX2_ofLoop 69 = .ok (.iload_n 1, 1) := by decide +kernel
theorem dX2_ofLoop_70 : decode cX2_ofLoop 70 = .ok (.iaload, 1) := by decide +kernel
theorem dX2_ofLoop_71 : decode cX2_ofLoop 71 = .ok (.invokestatic 98, 3) := by decide +kernel
theorem dX2_ofLoop_74 : decode cX2_ofLoop 74 = .ok (.ireturn, 1) := by decide +kernel
theorem dX2_ofLoop_75 : decode cX2_ofLoop 75 = .ok (.aload_n 0, 1) := by decide +kernel
theorem dX2_ofLoop_76 : decode cX2_ofLoop 76 = .ok (.getfield 27, 3) := by decide +kernel
theorem dX2_ofLoop_79 : decode cX2_ofLoop 79 = .ok (.iload_n 1, 1) := by decide +kernel
theorem dX2_ofLoop_80 : decode cX2_ofLoop 80 = .ok (.iaload, 1) := by decide +kernel
theorem dX2_ofLoop_81 : decode cX2_ofLoop 81 = .ok (.ifCond .ne 7, 3) := by decide +kernel
theorem dX2_ofLoop_84 : decode cX2_ofLoop 84 = .ok (.iconst 0, 1) := by decide +kernel
theorem dX2_ofLoop_85 : decode cX2_ofLoop 85 = .ok (.goto 17, 3) := by decide +kernel
theorem dX2_ofLoop_88 : decode cX2_ofLoop 88 = .ok (.aload_n 0, 1) := by decide +kernel
theorem dX2_ofLoop_89 : decode cX2_ofLoop 89 = .ok (.getfield 27, 3) := by decide +kernel
theorem dX2_ofLoop_92 : decode cX2_ofLoop 92 = .ok (.iload_n 1, 1) := by decide +kernel
theorem dX2_ofLoop_93 : decode cX2_ofLoop 93 = .ok (.iaload, 1) := by decide +kernel
theorem dX2_ofLoop_94 : decode cX2_ofLoop 94 = .ok (.ifCond .le 7, 3) := by decide +kernel
theorem dX2_ofLoop_97 : decode cX2_ofLoop 97 = .ok (.iconst 1, 1) := by decide +kernel
theorem dX2_ofLoop_98 : decode cX2_ofLoop 98 = .ok (.goto 4, 3) := by decide +kernel
theorem dX2_ofLoop_101 : decode cX2_ofLoop 101 = .ok (.iconst 2, 1) := by decide +kernel
theorem dX2_ofLoop_102 : decode cX2_ofLoop 102 = .ok (.ireturn, 1) := by decide +kernel
theorem dX2_ofLoop_103 : decode cX2_ofLoop 103 = .ok (.aload_n 0, 1) := by decide +kernel
theorem dX2_ofLoop_104 : decode cX2_ofLoop 104 = .ok (.iload_n 1, 1) := by decide +kernel
theorem dX2_ofLoop_105 : decode cX2_ofLoop 105 = .ok (.invokevirtual 118, 3) := by decide +kernel
theorem dX2_ofLoop_108 : decode cX2_ofLoop 108 = .ok (.ireturn, 1) := by decide +kernel
theorem dX2_ofLoop_109 : decode cX2_ofLoop 109 = .ok (.aload_n 0, 1) := by decide +kernel
theorem dX2_ofLoop_110 : decode cX2_ofLoop 110 = .ok (.getfield 51, 3) := by decide +kernel
theorem dX2_ofLoop_113 : decode cX2_ofLoop 113 = .ok (.iload_n 1, 1) := by decide +kernel
theorem dX2_ofLoop_114 : decode cX2_ofLoop 114 = .ok (.invokestatic 61, 3) := by decide +kernel
theorem dX2_ofLoop_117 : decode cX2_ofLoop 117 = .ok (.ifCond .eq 7, 3) := by decide +kernel
theorem dX2_ofLoop_120 : decode cX2_ofLoop 120 = .ok (.iconst 1, 1) := by decide +kernel
theorem dX2_ofLoop_121 : decode cX2_ofLoop 121 = .ok (.goto 4, 3) := by decide +kernel
theorem dX2_ofLoop_124 : decode cX2_ofLoop 124 = .ok (.iconst 0, 1) := by decide +kernel
theorem dX2_ofLoop_125 : decode cX2_ofLoop 125 = .ok (.ireturn, 1) := by decide +kernel
theorem dX2_ofLoop_126 : decode cX2_ofLoop 126 = .ok (.aload_n 0, 1) := by decide +kernel
theorem dX2_ofLoop_127 : decode cX2_ofLoop 127 = .ok (.getfield 30, 3) := by decide +kernel
theorem dX2_ofLoop_130 : decode cX2_ofLoop 130 = .ok (.iload_n 1, 1) := by decide +kernel
theorem dX2_ofLoop_131 : decode cX2_ofLoop 131 = .ok (.iaload, 1) := by decide +kernel
theorem dX2_ofLoop_132 : decode cX2_ofLoop 132 = .ok (.ireturn, 1) := by decide +kernel
set_option maxRecDepth 20000 in
theorem ggX2_ofLoop_X2_allowed : GoodIn wsX2_ofLoop wsX2_allowed := goodIn_r _ [15, 16, 17, 3, 21, 22, 23, 24, 25, 26, 27, 28, 29, 30, 31, 32, 33, 34, 35, 36, 37, 38, 39, 40, 41] (by decide +kernel) (by decide +kernel)
set_option maxRecDepth 20000 in
theorem gX2_ofLoop_X2_allowed : GoodIn wsX2_ofLoop (wsV RX2 118 RX2 yX2_allowed wsX2_allowed) := goodIn_app (goodIn_of _ (by decide +kernel)) ggX2_ofLoop_X2_allowed
set_option maxRecDepth 20000 in
theorem ggX2_ofLoop_X8_isIn : GoodIn wsX2_ofLoop wsX8_isIn := goodIn_r _ [20] (by decide +kernel) (by decide +kernel)
def D_X2_ofLoop : Md := (yX2_ofLoop, cX2_ofLoop, 3, (some .int), wsX2_ofLoop, RX2, { frames := 1, cells := 0, slots := 0, locals := 21 })
theorem nm_X2_ofLoop : nmD D_X2_ofLoop 2 := ⟨rfl, by decide +kernel, by decide +kernel, by decide +kernel⟩
theorem hi_X2_ofLoop_X2 : ∀ w ∈ u_ws RX2 TX2 13, w ∈ wsX2_ofLoop := by decide +kernel
theorem hl_X2_ofLoop_15 : Cond.fieldLink RX2 15 "LevelLoops$Loops" "closing" "[I" ∈ wsX2_ofLoop := by decide +kernel
theorem hl_X2_ofLoop_18 : Cond.fieldLink RX2 18 "LevelLoops$Loops" "legs" "[I" ∈ wsX2_ofLoop := by decide +kernel
theorem hl_X2_ofLoop_21 : Cond.fieldLink RX2 21 "LevelLoops$Loops" "length" "[I" ∈ wsX2_ofLoop := by decide +kernel
theorem hl_X2_ofLoop_27 : Cond.fieldLink RX2 27 "LevelLoops$Loops" "miss" "[I" ∈ wsX2_ofLoop := by decide +kernel
theorem hl_X2_ofLoop_30 : Cond.fieldLink RX2 30 "LevelLoops$Loops" "spreadMiss" "[I" ∈ wsX2_ofLoop := by decide +kernel
theorem hl_X2_ofLoop_51 : Cond.fieldLink RX2 51 "LevelLoops$Loops" "bad" "I" ∈ wsX2_ofLoop := by decide +kernel
def wp_X2_ofLoop (n : Nat) (x1 : Int32) (x2 : Int32) (w : Wd) (Q : Int32 → Prop) : Prop :=
  ((x2 = 0 → vp_in x1 20 ∧ Q (wi w n 14 x1.toNatClampNeg)) ∧ (x2 = 1 → vp_in x1 20 ∧ Q (wi w n 15 x1.toNatClampNeg)) ∧ (x2 = 2 → vp_in x1 20 ∧ Q (wi w n 16 x1.toNatClampNeg)) ∧ (x2 = 3 → vp_in x1 20 ∧ Q (iabs (wi w n 18 x1.toNatClampNeg))) ∧ (x2 = 4 → vp_in x1 20 ∧ ((¬ (wi w n 18 x1.toNatClampNeg) = 0 → vp_in x1 20 ∧ (((wi w n 18 x1.toNatClampNeg) ≤ 0 → Q (2 : Int32)) ∧ (¬ (wi w n 18 x1.toNatClampNeg) ≤ 0 → Q (1 : Int32)))) ∧ ((wi w n 18 x1.toNatClampNeg) = 0 → Q (0 : Int32)))) ∧ (x2 = 5 → wp_X2_allowed n x1 w (fun r105 => Q r105)) ∧ (x2 = 6 → wp_X8_isIn (wi w n 12 4) x1 (fun r114 => ((r114 = 0 → Q (0 : Int32)) ∧ (¬ r114 = 0 → Q (1 : Int32))))) ∧ (¬ x2 = 0 → ¬ x2 = 1 → ¬ x2 = 2 → ¬ x2 = 3 → ¬ x2 = 4 → ¬ x2 = 5 → ¬ x2 = 6 → vp_in x1 20 ∧ Q (wi w n 19 x1.toNatClampNeg)))
theorem ok_X2_ofLoop {G : Gt} {M : Mx} {Qf : State → Prop} {n : Nat} {x1 : Int32} {x2 : Int32} {w : Wd} {Q : Int32 → Prop} (hC : cx G D_X2_ofLoop M) (he : en G M (qip w Q) Qf) (hn : n < 2) (h : wp_X2_ofLoop n x1 x2 w Q) : jq G D_X2_ofLoop M Qf 0 [(0, .ref (aD G n 12)), (1, .int x1), (2, .int x2)] [] w := by
  unfold wp_X2_ofLoop at h
  refine jq_iload_n (k0 := 2) dX2_ofLoop_0 hC rfl rfl ?_
  by_cases cd : (x2).toInt < 0 ∨ 6 < (x2).toInt
  · refine jq_tout (tgt := 126) dX2_ofLoop_1 hC cd (by decide) ?_
    have h := h.2.2.2.2.2.2.2 (fun e => by rw [e] at cd; revert cd; decide) (fun e => by rw [e] at cd; revert cd; decide) (fun e => by rw [e] at cd; revert cd; decide) (fun e => by rw [e] at cd; revert cd; decide) (fun e => by rw [e] at cd; revert cd; decide) (fun e => by rw [e] at cd; revert cd; decide) (fun e => by rw [e] at cd; revert cd; decide)
    refine jq_aload_n (k0 := 0) dX2_ofLoop_126 hC rfl rfl ?_
    refine jq_get (k0 := 10) (n := n) (o := 12) dX2_ofLoop_127 hC (cl_T (by omega) (by decide)) rfl rfl hi_X2_ofLoop_X2 (by decide) hl_X2_ofLoop_30 rfl rfl ?_
    refine jq_iload_n (k0 := 1) dX2_ofLoop_130 hC rfl rfl ?_
    obtain ⟨b131, h⟩ := h
    refine jq_iald (n := n) (o := 19) (j := x1.toNatClampNeg) dX2_ofLoop_131 hC (cl_T (by omega) (by decide)) rfl b131 rfl ?_
    exact jq_iret dX2_ofLoop_132 hC he rfl ⟨_, rfl, rfl, h⟩
  have cs : (x2).toInt = 0 ∨ (x2).toInt = 1 ∨ (x2).toInt = 2 ∨ (x2).toInt = 3 ∨ (x2).toInt = 4 ∨ (x2).toInt = 5 ∨ (x2).toInt = 6 := by omega
  rcases cs with cs | cs | cs | cs | cs | cs | cs
  · refine jq_tin (tgt := 44) (off := 43) dX2_ofLoop_1 hC (fun q => cd (Or.inl q)) (fun q => cd (Or.inr q)) (by rw [cs]; rfl) (by decide) ?_
    have h := h.1 (Int32.toInt_inj.mp (cs.trans (by decide)))
    refine jq_aload_n (k0 := 0) dX2_ofLoop_44 hC rfl rfl ?_
    refine jq_get (k0 := 5) (n := n) (o := 12) dX2_ofLoop_45 hC (cl_T (by omega) (by decide)) rfl rfl hi_X2_ofLoop_X2 (by decide) hl_X2_ofLoop_15 rfl rfl ?_
    refine jq_iload_n (k0 := 1) dX2_ofLoop_48 hC rfl rfl ?_
    obtain ⟨b49, h⟩ := h
    refine jq_iald (n := n) (o := 14) (j := x1.toNatClampNeg) dX2_ofLoop_49 hC (cl_T (by omega) (by decide)) rfl b49 rfl ?_
    exact jq_iret dX2_ofLoop_50 hC he rfl ⟨_, rfl, rfl, h⟩
  · refine jq_tin (tgt := 51) (off := 50) dX2_ofLoop_1 hC (fun q => cd (Or.inl q)) (fun q => cd (Or.inr q)) (by rw [cs]; rfl) (by decide) ?_
    have h := h.2.1 (Int32.toInt_inj.mp (cs.trans (by decide)))
    refine jq_aload_n (k0 := 0) dX2_ofLoop_51 hC rfl rfl ?_
    refine jq_get (k0 := 6) (n := n) (o := 12) dX2_ofLoop_52 hC (cl_T (by omega) (by decide)) rfl rfl hi_X2_ofLoop_X2 (by decide) hl_X2_ofLoop_18 rfl rfl ?_
    refine jq_iload_n (k0 := 1) dX2_ofLoop_55 hC rfl rfl ?_
    obtain ⟨b56, h⟩ := h
    refine jq_iald (n := n) (o := 15) (j := x1.toNatClampNeg) dX2_ofLoop_56 hC (cl_T (by omega) (by decide)) rfl b56 rfl ?_
    exact jq_iret dX2_ofLoop_57 hC he rfl ⟨_, rfl, rfl, h⟩
  · refine jq_tin (tgt := 58) (off := 57) dX2_ofLoop_1 hC (fun q => cd (Or.inl q)) (fun q => cd (Or.inr q)) (by rw [cs]; rfl) (by decide) ?_
    have h := h.2.2.1 (Int32.toInt_inj.mp (cs.trans (by decide)))
    refine jq_aload_n (k0 := 0) dX2_ofLoop_58 hC rfl rfl ?_
    refine jq_get (k0 := 7) (n := n) (o := 12) dX2_ofLoop_59 hC (cl_T (by omega) (by decide)) rfl rfl hi_X2_ofLoop_X2 (by decide) hl_X2_ofLoop_21 rfl rfl ?_
    refine jq_iload_n (k0 := 1) dX2_ofLoop_62 hC rfl rfl ?_
    obtain ⟨b63, h⟩ := h
    refine jq_iald (n := n) (o := 16) (j := x1.toNatClampNeg) dX2_ofLoop_63 hC (cl_T (by omega) (by decide)) rfl b63 rfl ?_
    exact jq_iret dX2_ofLoop_64 hC he rfl ⟨_, rfl, rfl, h⟩
  · refine jq_tin (tgt := 65) (off := 64) dX2_ofLoop_1 hC (fun q => cd (Or.inl q)) (fun q => cd (Or.inr q)) (by rw [cs]; rfl) (by decide) ?_
    have h := h.2.2.2.1 (Int32.toInt_inj.mp (cs.trans (by decide)))
    refine jq_aload_n (k0 := 0) dX2_ofLoop_65 hC rfl rfl ?_
    refine jq_get (k0 := 9) (n := n) (o := 12) dX2_ofLoop_66 hC (cl_T (by omega) (by decide)) rfl rfl hi_X2_ofLoop_X2 (by decide) hl_X2_ofLoop_27 rfl rfl ?_
    refine jq_iload_n (k0 := 1) dX2_ofLoop_69 hC rfl rfl ?_
    obtain ⟨b70, h⟩ := h
    refine jq_iald (n := n) (o := 18) (j := x1.toNatClampNeg) dX2_ofLoop_70 hC (cl_T (by omega) (by decide)) rfl b70 rfl ?_
    refine jq_abs dX2_ofLoop_71 hC (by decide +kernel) (Nat.le_of_ble_eq_true rfl) (Nat.le_of_ble_eq_true rfl) ?_
    exact jq_iret dX2_ofLoop_74 hC he rfl ⟨_, rfl, rfl, h⟩
  · refine jq_tin (tgt := 75) (off := 74) dX2_ofLoop_1 hC (fun q => cd (Or.inl q)) (fun q => cd (Or.inr q)) (by rw [cs]; rfl) (by decide) ?_
    have h := h.2.2.2.2.1 (Int32.toInt_inj.mp (cs.trans (by decide)))
    refine jq_aload_n (k0 := 0) dX2_ofLoop_75 hC rfl rfl ?_
    refine jq_get (k0 := 9) (n := n) (o := 12) dX2_ofLoop_76 hC (cl_T (by omega) (by decide)) rfl rfl hi_X2_ofLoop_X2 (by decide) hl_X2_ofLoop_27 rfl rfl ?_
    refine jq_iload_n (k0 := 1) dX2_ofLoop_79 hC rfl rfl ?_
    obtain ⟨b80, h⟩ := h
    refine jq_iald (n := n) (o := 18) (j := x1.toNatClampNeg) dX2_ofLoop_80 hC (cl_T (by omega) (by decide)) rfl b80 rfl ?_
    refine jq_if_ne (tgt := 88) dX2_ofLoop_81 hC (by decide) (fun c81 => ?_) (fun c81 => ?_)
    · have h := h.1 c81
      refine jq_aload_n (k0 := 0) dX2_ofLoop_88 hC rfl rfl ?_
      refine jq_get (k0 := 9) (n := n) (o := 12) dX2_ofLoop_89 hC (cl_T (by omega) (by decide)) rfl rfl hi_X2_ofLoop_X2 (by decide) hl_X2_ofLoop_27 rfl rfl ?_
      refine jq_iload_n (k0 := 1) dX2_ofLoop_92 hC rfl rfl ?_
      obtain ⟨b93, h⟩ := h
      refine jq_iald (n := n) (o := 18) (j := x1.toNatClampNeg) dX2_ofLoop_93 hC (cl_T (by omega) (by decide)) rfl b93 rfl ?_
      refine jq_if_le (tgt := 101) dX2_ofLoop_94 hC (by decide) (fun c94 => ?_) (fun c94 => ?_)
      · have h := h.1 c94
        refine jq_iconst (v := (2 : Int32)) dX2_ofLoop_101 hC (by decide) ?_
        exact jq_iret dX2_ofLoop_102 hC he rfl ⟨_, rfl, rfl, h⟩
      · have h := h.2 c94
        refine jq_iconst (v := (1 : Int32)) dX2_ofLoop_97 hC (by decide) ?_
        refine jq_goto (tgt := 102) dX2_ofLoop_98 hC (by decide) ?_
        exact jq_iret dX2_ofLoop_102 hC he rfl ⟨_, rfl, rfl, h⟩
    · have h := h.2 c81
      refine jq_iconst (v := (0 : Int32)) dX2_ofLoop_84 hC (by decide) ?_
      refine jq_goto (tgt := 102) dX2_ofLoop_85 hC (by decide) ?_
      exact jq_iret dX2_ofLoop_102 hC he rfl ⟨_, rfl, rfl, h⟩
  · refine jq_tin (tgt := 103) (off := 102) dX2_ofLoop_1 hC (fun q => cd (Or.inl q)) (fun q => cd (Or.inr q)) (by rw [cs]; rfl) (by decide) ?_
    have h := h.2.2.2.2.2.1 (Int32.toInt_inj.mp (cs.trans (by decide)))
    refine jq_aload_n (k0 := 0) dX2_ofLoop_103 hC rfl rfl ?_
    refine jq_iload_n (k0 := 1) dX2_ofLoop_104 hC rfl rfl ?_
    refine jq_callV (As := [.int x1]) (rest := []) (n := n) (o := 12) (D' := D_X2_allowed) dX2_ofLoop_105 hC (cl_T (by omega) (by decide)) rfl rfl rfl (mt_X2_allowed (by omega) h) gX2_ofLoop_X2_allowed rfl ⟨rfl, rfl, Nat.le_of_ble_eq_true rfl, Nat.le_of_ble_eq_true rfl⟩ nm_X2_allowed rfl (Nat.le_of_ble_eq_true rfl) (kIp fun r105 h => ?_)
    exact jq_iret dX2_ofLoop_108 hC he rfl ⟨_, rfl, rfl, h⟩
  · refine jq_tin (tgt := 109) (off := 108) dX2_ofLoop_1 hC (fun q => cd (Or.inl q)) (fun q => cd (Or.inr q)) (by rw [cs]; rfl) (by decide) ?_
    have h := h.2.2.2.2.2.2.1 (Int32.toInt_inj.mp (cs.trans (by decide)))
    refine jq_aload_n (k0 := 0) dX2_ofLoop_109 hC rfl rfl ?_
    refine jq_get (k0 := 4) (n := n) (o := 12) dX2_ofLoop_110 hC (cl_T (by omega) (by decide)) rfl rfl hi_X2_ofLoop_X2 (by decide) hl_X2_ofLoop_51 rfl rfl ?_
    refine jq_iload_n (k0 := 1) dX2_ofLoop_113 hC rfl rfl ?_
    refine jq_callSN (As := [.int (wi w n 12 4), .int x1]) (rest := []) (D' := D_X8_isIn) (host := "LevelLoops") dX2_ofLoop_114 hC (mt_X8_isIn h) ggX2_ofLoop_X8_isIn rfl (by decide +kernel) (by decide +kernel) (by decide +kernel) ⟨rfl, rfl, Nat.le_of_ble_eq_true rfl, Nat.le_of_ble_eq_true rfl⟩ nm_X8_isIn rfl (Nat.le_of_ble_eq_true rfl) (kIp fun r114 h => ?_)
    refine jq_if_eq (tgt := 124) dX2_ofLoop_117 hC (by decide) (fun c117 => ?_) (fun c117 => ?_)
    · have h := h.1 c117
      refine jq_iconst (v := (0 : Int32)) dX2_ofLoop_124 hC (by decide) ?_
      exact jq_iret dX2_ofLoop_125 hC he rfl ⟨_, rfl, rfl, h⟩
    · have h := h.2 c117
      refine jq_iconst (v := (1 : Int32)) dX2_ofLoop_120 hC (by decide) ?_
      refine jq_goto (tgt := 125) dX2_ofLoop_121 hC (by decide) ?_
      exact jq_iret dX2_ofLoop_125 hC he rfl ⟨_, rfl, rfl, h⟩
theorem mt_X2_ofLoop {G : Gt} {n : Nat} {x1 : Int32} {x2 : Int32} {w : Wd} {Q : Int32 → Prop} (hn : n < 2) (h : wp_X2_ofLoop n x1 x2 w Q) : Mt G D_X2_ofLoop [.ref (aD G n 12), .int x1, .int x2] w (qip w Q) := Mt_of (by decide +kernel) rfl rfl (Nat.le_of_ble_eq_true rfl) (fun M Qf hC he => ok_X2_ofLoop hC he hn h)
/-! X2.closedBy(I)I -/
theorem dX2_closedBy_0 : decode cX2_closedBy 0 = .ok (.iconst 0, 1) := by decide +kernel
theorem dX2_closedBy_1 : decode cX2_closedBy 1 = .ok (.istore_n 2, 1) := by decide +kernel
theorem dX2_closedBy_2 : decode cX2_closedBy 2 = .ok (.iload_n 2, 1) := by decide +kernel
theorem dX2_closedBy_3 : decode cX2_closedBy 3 = .ok (.aload_n 0, 1) := by decide +kernel
theorem dX2_closedBy_4 : decode cX2_closedBy 4 = .ok (.getfield 47, 3) := by decide +kernel
theorem dX2_closedBy_7 : decode cX2_closedBy 7 = .ok (.if_icmp .ge 21, 3) := by decide +kernel
theorem dX2_closedBy_10 : decode cX2_closedBy 10 = .ok (.aload_n 0, 1) := by decide +kernel
theorem dX2_closedBy_11 : decode cX2_closedBy 11 = .ok (.getfield 15, 3) := by decide +kernel
theorem dX2_closedBy_14 : decode cX2_closedBy 14 = .ok (.iload_n 2, 1) := by decide +kernel
theorem dX2_closedBy_15 : decode cX2_closedBy 15 = .ok (.iaload, 1) := by decide +kernel
theorem dX2_closedBy_16 : decode cX2_closedBy 16 = .ok (.iload_n 1, 1) := by decide +kernel
theorem dX2_closedBy_17 : decode cX2_closedBy 17 = .ok (.if_icmp .ne 5, 3) := by decide +kernel
theorem dX2_closedBy_20 : decode cX2_closedBy 20 = .ok (.iload_n 2, 1) := by decide +kernel
theorem dX2_closedBy_21 : decode cX2_closedBy 21 = .ok (.ireturn, 1) := by decide +kernel
theorem dX2_closedBy_22 : decode cX2_closedBy 22 = .ok (.iinc 2 1, 3) := by decide +kernel
theorem dX2_closedBy_25 : decode cX2_closedBy 25 = .ok (.goto (-23), 3) := by decide +kernel
theorem dX2_closedBy_28 : decode cX2_closedBy 28 = .ok (.iconst (-1), 1) := by decide +kernel
theorem dX2_closedBy_29 : decode cX2_closedBy 29 = .ok (.ireturn, 1) := by decide +kernel
def D_X2_closedBy : Md := (yX2_closedBy, cX2_closedBy, 3, (some .int), wsX2_closedBy, RX2, { frames := 0, cells := 0, slots := 0, locals := 0 })
theorem nm_X2_closedBy : nmD D_X2_closedBy 1 := ⟨rfl, by decide +kernel, by decide +kernel, by decide +kernel⟩
theorem hi_X2_closedBy_X2 : ∀ w ∈ u_ws RX2 TX2 13, w ∈ wsX2_closedBy := by decide +kernel
theorem hl_X2_closedBy_15 : Cond.fieldLink RX2 15 "LevelLoops$Loops" "closing" "[I" ∈ wsX2_closedBy := by decide +kernel
theorem hl_X2_closedBy_47 : Cond.fieldLink RX2 47 "LevelLoops$Loops" "size" "I" ∈ wsX2_closedBy := by decide +kernel
def wp_X2_closedBy_B2 (n : Nat) (x1 : Int32) (x2 : Int32) (w : Wd) (Q : Int32 → Prop) (K2 : Int32 → Prop) : Prop :=
  (((wi w n 12 0) ≤ x2 → Q (-1 : Int32)) ∧ (¬ (wi w n 12 0) ≤ x2 → vp_in x2 20 ∧ ((¬ (wi w n 14 x2.toNatClampNeg) = x1 → K2 (x2 + 1)) ∧ ((wi w n 14 x2.toNatClampNeg) = x1 → Q x2))))
def wp_X2_closedBy_L2 (n : Nat) (x1 : Int32) (x2 : Int32) (w : Wd) (Q : Int32 → Prop) : Prop :=
  ∃ (I : Int32 → Prop) (μ : Int32 → Nat), I x2 ∧ ∀ (x2 : Int32), I x2 → wp_X2_closedBy_B2 n x1 x2 w Q (fun x2' => I x2' ∧ μ x2' < μ x2)
def wp_X2_closedBy (n : Nat) (x1 : Int32) (w : Wd) (Q : Int32 → Prop) : Prop :=
  wp_X2_closedBy_L2 n x1 (0 : Int32) w Q
theorem ok_X2_closedBy_B2 {G : Gt} {M : Mx} {Qf : State → Prop} {n : Nat} {x1 : Int32} {x2 : Int32} {w : Wd} {Q : Int32 → Prop} {K2 : Int32 → Prop} (hC : cx G D_X2_closedBy M) (he : en G M (qip w Q) Qf) (hn : n < 2) (h : wp_X2_closedBy_B2 n x1 x2 w Q K2) (hK2 : ∀ (x2 : Int32), K2 x2 → jq G D_X2_closedBy M Qf 2 [(0, .ref (aD G n 12)), (1, .int x1), (2, .int x2)] [] w) : jq G D_X2_closedBy M Qf 2 [(0, .ref (aD G n 12)), (1, .int x1), (2, .int x2)] [] w := by
  unfold wp_X2_closedBy_B2 at h
  refine jq_iload_n (k0 := 2) dX2_closedBy_2 hC rfl rfl ?_
  refine jq_aload_n (k0 := 0) dX2_closedBy_3 hC rfl rfl ?_
  refine jq_get (k0 := 0) (n := n) (o := 12) dX2_closedBy_4 hC (cl_T (by omega) (by decide)) rfl rfl hi_X2_closedBy_X2 (by decide) hl_X2_closedBy_47 rfl rfl ?_
  refine jq_icmp_ge (tgt := 28) dX2_closedBy_7 hC (by decide) (fun c7 => ?_) (fun c7 => ?_)
  · have h := h.1 c7
    refine jq_iconst (v := (-1 : Int32)) dX2_closedBy_28 hC (by decide) ?_
    exact jq_iret dX2_closedBy_29 hC he rfl ⟨_, rfl, rfl, h⟩
  · have h := h.2 c7
    refine jq_aload_n (k0 := 0) dX2_closedBy_10 hC rfl rfl ?_
    refine jq_get (k0 := 5) (n := n) (o := 12) dX2_closedBy_11 hC (cl_T (by omega) (by decide)) rfl rfl hi_X2_closedBy_X2 (by decide) hl_X2_closedBy_15 rfl rfl ?_
    refine jq_iload_n (k0 := 2) dX2_closedBy_14 hC rfl rfl ?_
    obtain ⟨b15, h⟩ := h
    refine jq_iald (n := n) (o := 14) (j := x2.toNatClampNeg) dX2_closedBy_15 hC (cl_T (by omega) (by decide)) rfl b15 rfl ?_
    refine jq_iload_n (k0 := 1) dX2_closedBy_16 hC rfl rfl ?_
    refine jq_icmp_ne (tgt := 22) dX2_closedBy_17 hC (by decide) (fun c17 => ?_) (fun c17 => ?_)
    · have h := h.1 c17
      refine jq_iinc (k0 := 2) (v := (x2 + 1)) (L' := [(2, .int (x2 + 1)), (0, .ref (aD G n 12)), (1, .int x1)]) dX2_closedBy_22 hC rfl rfl (by decide) rfl ?_
      refine jq_goto (tgt := 2) dX2_closedBy_25 hC (by decide) ?_
      exact jq_less (L' := [(0, .ref (aD G n 12)), (1, .int x1), (2, .int (x2 + 1))]) [1, 2, 0] rfl (hK2 _ h)
    · have h := h.2 c17
      refine jq_iload_n (k0 := 2) dX2_closedBy_20 hC rfl rfl ?_
      exact jq_iret dX2_closedBy_21 hC he rfl ⟨_, rfl, rfl, h⟩
theorem ok_X2_closedBy_L2 {G : Gt} {M : Mx} {Qf : State → Prop} {n : Nat} {x1 : Int32} {x2 : Int32} {w : Wd} {Q : Int32 → Prop} (hC : cx G D_X2_closedBy M) (he : en G M (qip w Q) Qf) (hn : n < 2) (h : wp_X2_closedBy_L2 n x1 x2 w Q) : jq G D_X2_closedBy M Qf 2 [(0, .ref (aD G n 12)), (1, .int x1), (2, .int x2)] [] w := by
  unfold wp_X2_closedBy_L2 at h
  obtain ⟨I, μ, h0, hs⟩ := h
  exact lp_ind (σ := Int32) (P := fun s => jq G D_X2_closedBy M Qf 2 [(0, .ref (aD G n 12)), (1, .int x1), (2, .int s)] [] w) (fun s => I s) (fun s => μ s) (fun s h1 ih => ok_X2_closedBy_B2 hC he hn (hs s h1) (fun x2' h => ih x2' h.1 h.2)) x2 h0
theorem ok_X2_closedBy {G : Gt} {M : Mx} {Qf : State → Prop} {n : Nat} {x1 : Int32} {w : Wd} {Q : Int32 → Prop} (hC : cx G D_X2_closedBy M) (he : en G M (qip w Q) Qf) (hn : n < 2) (h : wp_X2_closedBy n x1 w Q) : jq G D_X2_closedBy M Qf 0 [(0, .ref (aD G n 12)), (1, .int x1)] [] w := by
  unfold wp_X2_closedBy at h
  refine jq_iconst (v := (0 : Int32)) dX2_closedBy_0 hC (by decide) ?_
  refine jq_istore_n (L' := [(2, .int (0 : Int32)), (0, .ref (aD G n 12)), (1, .int x1)]) dX2_closedBy_1 hC rfl (by decide) rfl ?_
  refine jq_less (L' := [(0, .ref (aD G n 12)), (1, .int x1), (2, .int (0 : Int32))]) [1, 2, 0] rfl ?_
  exact ok_X2_closedBy_L2 hC he hn h
theorem mt_X2_closedBy {G : Gt} {n : Nat} {x1 : Int32} {w : Wd} {Q : Int32 → Prop} (hn : n < 2) (h : wp_X2_closedBy n x1 w Q) : Mt G D_X2_closedBy [.ref (aD G n 12), .int x1] w (qip w Q) := Mt_of (by decide +kernel) rfl rfl (Nat.le_of_ble_eq_true rfl) (fun M Qf hC he => ok_X2_closedBy hC he hn h)
/-! X2.howManyWith(I)I -/
theorem dX2_howManyWith_0 : decode cX2_howManyWith 0 = .ok (.iconst 0, 1) := by decide +kernel
theorem dX2_howManyWith_1 : decode cX2_howManyWith 1 = .ok (.istore_n 2, 1) := by decide +kernel
theorem dX2_howManyWith_2 : decode cX2_howManyWith 2 = .ok (.iconst 0, 1) := by decide +kernel
theorem dX2_howManyWith_3 : decode cX2_howManyWith 3 = .ok (.istore_n 3, 1) := by decide +kernel
theorem dX2_howManyWith_4 : decode cX2_howManyWith 4 = .ok (.iload_n 3, 1) := by decide +kernel
theorem dX2_howManyWith_5 : decode cX2_howManyWith 5 = .ok (.aload_n 0, 1) := by decide +kernel
theorem dX2_howManyWith_6 : decode cX2_howManyWith 6 = .ok (.getfield 47, 3) := by decide +kernel
theorem dX2_howManyWith_9 : decode cX2_howManyWith 9 = .ok (.if_icmp .ge 25, 3) := by decide +kernel
theorem dX2_howManyWith_12 : decode cX2_howManyWith 12 = .ok (.aload_n 0, 1) := by decide +kernel
theorem dX2_howManyWith_13 : decode cX2_howManyWith 13 = .ok (.getfield 18, 3) := by decide +kernel
theorem dX2_howManyWith_16 : decode cX2_howManyWith 16 = .ok (.iload_n 3, 1) := by decide +kernel
theorem dX2_howManyWith_17 : decode cX2_howManyWith 17 = .ok (.iaload, 1) := by decide +kernel
theorem dX2_howManyWith_18 : decode cX2_howManyWith 18 = .ok (.iload_n 1, 1) := by decide +kernel
theorem dX2_howManyWith_19 : decode cX2_howManyWith 19 = .ok (.invokestatic 61, 3) := by decide +kernel
theorem dX2_howManyWith_22 : decode cX2_howManyWith 22 = .ok (.ifCond .eq 6, 3) := by decide +kernel
theorem dX2_howManyWith_25 : decode cX2_howManyWith 25 = .ok (.iinc 2 1, 3) := by decide +kernel
theorem dX2_howManyWith_28 : decode cX2_howManyWith 28 = .ok (.iinc 3 1, 3) := by decide +kernel
theorem dX2_howManyWith_31 : decode cX2_howManyWith 31 = .ok (.goto (-27), 3) := by decide +kernel
theorem dX2_howManyWith_34 : decode cX2_howManyWith 34 = .ok (.iload_n 2, 1) := by decide +kernel
theorem dX2_howManyWith_35 : decode cX2_howManyWith 35 = .ok (.ireturn, 1) := by decide +kernel
set_option maxRecDepth 20000 in
theorem ggX2_howManyWith_X8_isIn : GoodIn wsX2_howManyWith wsX8_isIn := goodIn_r _ [5] (by decide +kernel) (by decide +kernel)
def D_X2_howManyWith : Md := (yX2_howManyWith, cX2_howManyWith, 4, (some .int), wsX2_howManyWith, RX2, { frames := 1, cells := 0, slots := 0, locals := 21 })
theorem nm_X2_howManyWith : nmD D_X2_howManyWith 1 := ⟨rfl, by decide +kernel, by decide +kernel, by decide +kernel⟩
theorem hi_X2_howManyWith_X2 : ∀ w ∈ u_ws RX2 TX2 13, w ∈ wsX2_howManyWith := by decide +kernel
theorem hl_X2_howManyWith_18 : Cond.fieldLink RX2 18 "LevelLoops$Loops" "legs" "[I" ∈ wsX2_howManyWith := by decide +kernel
theorem hl_X2_howManyWith_47 : Cond.fieldLink RX2 47 "LevelLoops$Loops" "size" "I" ∈ wsX2_howManyWith := by decide +kernel
def wp_X2_howManyWith_B4 (n : Nat) (x1 : Int32) (x2 : Int32) (x3 : Int32) (w : Wd) (Q : Int32 → Prop) (K4 : Int32 → Int32 → Prop) : Prop :=
  (((wi w n 12 0) ≤ x3 → Q x2) ∧ (¬ (wi w n 12 0) ≤ x3 → vp_in x3 20 ∧ wp_X8_isIn (wi w n 15 x3.toNatClampNeg) x1 (fun r19 => ((r19 = 0 → K4 x2 (x3 + 1)) ∧ (¬ r19 = 0 → K4 (x2 + 1) (x3 + 1))))))
def wp_X2_howManyWith_L4 (n : Nat) (x1 : Int32) (x2 : Int32) (x3 : Int32) (w : Wd) (Q : Int32 → Prop) : Prop :=
  ∃ (I : Int32 → Int32 → Prop) (μ : Int32 → Int32 → Nat), I x2 x3 ∧ ∀ (x2 : Int32) (x3 : Int32), I x2 x3 → wp_X2_howManyWith_B4 n x1 x2 x3 w Q (fun x2' x3' => I x2' x3' ∧ μ x2' x3' < μ x2 x3)
def wp_X2_howManyWith (n : Nat) (x1 : Int32) (w : Wd) (Q : Int32 → Prop) : Prop :=
  wp_X2_howManyWith_L4 n x1 (0 : Int32) (0 : Int32) w Q
theorem ok_X2_howManyWith_B4 {G : Gt} {M : Mx} {Qf : State → Prop} {n : Nat} {x1 : Int32} {x2 : Int32} {x3 : Int32} {w : Wd} {Q : Int32 → Prop} {K4 : Int32 → Int32 → Prop} (hC : cx G D_X2_howManyWith M) (he : en G M (qip w Q) Qf) (hn : n < 2) (h : wp_X2_howManyWith_B4 n x1 x2 x3 w Q K4) (hK4 : ∀ (x2 : Int32) (x3 : Int32), K4 x2 x3 → jq G D_X2_howManyWith M Qf 4 [(0, .ref (aD G n 12)), (1, .int x1), (2, .int x2), (3, .int x3)] [] w) : jq G D_X2_howManyWith M Qf 4 [(0, .ref (aD G n 12)), (1, .int x1), (2, .int x2), (3, .int x3)] [] w := by
  unfold wp_X2_howManyWith_B4 at h
  refine jq_iload_n (k0 := 3) dX2_howManyWith_4 hC rfl rfl ?_
  refine jq_aload_n (k0 := 0) dX2_howManyWith_5 hC rfl rfl ?_
  refine jq_get (k0 := 0) (n := n) (o := 12) dX2_howManyWith_6 hC (cl_T (by omega) (by decide)) rfl rfl hi_X2_howManyWith_X2 (by decide) hl_X2_howManyWith_47 rfl rfl ?_
  refine jq_icmp_ge (tgt := 34) dX2_howManyWith_9 hC (by decide) (fun c9 => ?_) (fun c9 => ?_)
  · have h := h.1 c9
    refine jq_iload_n (k0 := 2) dX2_howManyWith_34 hC rfl rfl ?_
    exact jq_iret dX2_howManyWith_35 hC he rfl ⟨_, rfl, rfl, h⟩
  · have h := h.2 c9
    refine jq_aload_n (k0 := 0) dX2_howManyWith_12 hC rfl rfl ?_
    refine jq_get (k0 := 6) (n := n) (o := 12) dX2_howManyWith_13 hC (cl_T (by omega) (by decide)) rfl rfl hi_X2_howManyWith_X2 (by decide) hl_X2_howManyWith_18 rfl rfl ?_
    refine jq_iload_n (k0 := 3) dX2_howManyWith_16 hC rfl rfl ?_
    obtain ⟨b17, h⟩ := h
    refine jq_iald (n := n) (o := 15) (j := x3.toNatClampNeg) dX2_howManyWith_17 hC (cl_T (by omega) (by decide)) rfl b17 rfl ?_
    refine jq_iload_n (k0 := 1) dX2_howManyWith_18 hC rfl rfl ?_
    refine jq_callSN (As := [.int (wi w n 15 x3.toNatClampNeg), .int x1]) (rest := []) (D' := D_X8_isIn) (host := "LevelLoops") dX2_howManyWith_19 hC (mt_X8_isIn h) ggX2_howManyWith_X8_isIn rfl (by decide +kernel) (by decide +kernel) (by decide +kernel) ⟨rfl, rfl, Nat.le_of_ble_eq_true rfl, Nat.le_of_ble_eq_true rfl⟩ nm_X8_isIn rfl (Nat.le_of_ble_eq_true rfl) (kIp fun r19 h => ?_)
    refine jq_if_eq (tgt := 28) dX2_howManyWith_22 hC (by decide) (fun c22 => ?_) (fun c22 => ?_)
    · have h := h.1 c22
      refine jq_iinc (k0 := 3) (v := (x3 + 1)) (L' := [(3, .int (x3 + 1)), (0, .ref (aD G n 12)), (1, .int x1), (2, .int x2)]) dX2_howManyWith_28 hC rfl rfl (by decide) rfl ?_
      refine jq_goto (tgt := 4) dX2_howManyWith_31 hC (by decide) ?_
      exact jq_less (L' := [(0, .ref (aD G n 12)), (1, .int x1), (2, .int x2), (3, .int (x3 + 1))]) [1, 2, 3, 0] rfl (hK4 _ _ h)
    · have h := h.2 c22
      refine jq_iinc (k0 := 2) (v := (x2 + 1)) (L' := [(2, .int (x2 + 1)), (0, .ref (aD G n 12)), (1, .int x1), (3, .int x3)]) dX2_howManyWith_25 hC rfl rfl (by decide) rfl ?_
      refine jq_iinc (k0 := 3) (v := (x3 + 1)) (L' := [(3, .int (x3 + 1)), (2, .int (x2 + 1)), (0, .ref (aD G n 12)), (1, .int x1)]) dX2_howManyWith_28 hC rfl rfl (by decide) rfl ?_
      refine jq_goto (tgt := 4) dX2_howManyWith_31 hC (by decide) ?_
      exact jq_less (L' := [(0, .ref (aD G n 12)), (1, .int x1), (2, .int (x2 + 1)), (3, .int (x3 + 1))]) [2, 3, 1, 0] rfl (hK4 _ _ h)
theorem ok_X2_howManyWith_L4 {G : Gt} {M : Mx} {Qf : State → Prop} {n : Nat} {x1 : Int32} {x2 : Int32} {x3 : Int32} {w : Wd} {Q : Int32 → Prop} (hC : cx G D_X2_howManyWith M) (he : en G M (qip w Q) Qf) (hn : n < 2) (h : wp_X2_howManyWith_L4 n x1 x2 x3 w Q) : jq G D_X2_howManyWith M Qf 4 [(0, .ref (aD G n 12)), (1, .int x1), (2, .int x2), (3, .int x3)] [] w := by
  unfold wp_X2_howManyWith_L4 at h
  obtain ⟨I, μ, h0, hs⟩ := h
  exact lp_ind (σ := Int32 × Int32) (P := fun s => jq G D_X2_howManyWith M Qf 4 [(0, .ref (aD G n 12)), (1, .int x1), (2, .int s.1), (3, .int s.2)] [] w) (fun s => I s.1 s.2) (fun s => μ s.1 s.2) (fun s h1 ih => ok_X2_howManyWith_B4 hC he hn (hs s.1 s.2 h1) (fun x2' x3' h => ih (x2', x3') h.1 h.2)) (x2, x3) h0
theorem ok_X2_howManyWith {G : Gt} {M : Mx} {Qf : State → Prop} {n : Nat} {x1 : Int32} {w : Wd} {Q : Int32 → Prop} (hC : cx G D_X2_howManyWith M) (he : en G M (qip w Q) Qf) (hn : n < 2) (h : wp_X2_howManyWith n x1 w Q) : jq G D_X2_howManyWith M Qf 0 [(0, .ref (aD G n 12)), (1, .int x1)] [] w := by
  unfold wp_X2_howManyWith at h
  refine jq_iconst (v := (0 : Int32)) dX2_howManyWith_0 hC (by decide) ?_
  refine jq_istore_n (L' := [(2, .int (0 : Int32)), (0, .ref (aD G n 12)), (1, .int x1)]) dX2_howManyWith_1 hC rfl (by decide) rfl ?_
  refine jq_iconst (v := (0 : Int32)) dX2_howManyWith_2 hC (by decide) ?_
  refine jq_istore_n (L' := [(3, .int (0 : Int32)), (2, .int (0 : Int32)), (0, .ref (aD G n 12)), (1, .int x1)]) dX2_howManyWith_3 hC rfl (by decide) rfl ?_
  refine jq_less (L' := [(0, .ref (aD G n 12)), (1, .int x1), (2, .int (0 : Int32)), (3, .int (0 : Int32))]) [2, 3, 1, 0] rfl ?_
  exact ok_X2_howManyWith_L4 hC he hn h
theorem mt_X2_howManyWith {G : Gt} {n : Nat} {x1 : Int32} {w : Wd} {Q : Int32 → Prop} (hn : n < 2) (h : wp_X2_howManyWith n x1 w Q) : Mt G D_X2_howManyWith [.ref (aD G n 12), .int x1] w (qip w Q) := Mt_of (by decide +kernel) rfl rfl (Nat.le_of_ble_eq_true rfl) (fun M Qf hC he => ok_X2_howManyWith hC he hn h)
/-! X2.howManyBadWith(I)I -/
theorem dX2_howManyBadWith_0 : decode cX2_howManyBadWith 0 = .ok (.iconst 0, 1) := by decide +kernel
theorem dX2_howManyBadWith_1 : decode cX2_howManyBadWith 1 = .ok (.istore_n 2, 1) := by decide +kernel
theorem dX2_howManyBadWith_2 : decode cX2_howManyBadWith 2 = .ok (.iconst 0, 1) := by decide +kernel
theorem dX2_howManyBadWith_3 : decode cX2_howManyBadWith 3 = .ok (.istore_n 3, 1) := by decide +kernel
theorem dX2_howManyBadWith_4 : decode cX2_howManyBadWith 4 = .ok (.iload_n 3, 1) := by decide +kernel
theorem dX2_howManyBadWith_5 : decode cX2_howManyBadWith 5 = .ok (.aload_n 0, 1) := by decide +kernel
theorem dX2_howManyBadWith_6 : decode cX2_howManyBadWith 6 = .ok (.getfield 47, 3) := by decide +kernel
theorem dX2_howManyBadWith_9 : decode cX2_howManyBadWith 9 = .ok (.if_icmp .ge 36, 3) := by decide +kernel
theorem dX2_howManyBadWith_12 : decode cX2_howManyBadWith 12 = .ok (.aload_n 0, 1) := by decide +kernel
theorem dX2_howManyBadWith_13 : decode cX2_howManyBadWith 13 = .ok (.getfield 51, 3) := by decide +kernel
theorem dX2_howManyBadWith_16 : decode cX2_howManyBadWith 16 = .ok (.iload_n 3, 1) := by decide +kernel
theorem dX2_howManyBadWith_17 : decode cX2_howManyBadWith 17 = .ok (.invokestatic 61, 3) := by decide +kernel
theorem dX2_howManyBadWith_20 : decode cX2_howManyBadWith 20 = .ok (.ifCond .eq 19, 3) := by decide +kernel
theorem dX2_howManyBadWith_23 : decode cX2_howManyBadWith 23 = .ok (.aload_n 0, 1) := by decide +kernel
theorem dX2_howManyBadWith_24 : decode cX2_howManyBadWith 24 = .ok (.getfield 18, 3) := by decide +kernel
theorem dX2_howManyBadWith_27 : decode cX2_howManyBadWith 27 = .ok (.iload_n 3, 1) := by decide +kernel
theorem dX2_howManyBadWith_28 : decode cX2_howManyBadWith 28 = .ok (.iaload, 1) := by decide +kernel
theorem dX2_howManyBadWith_29 : decode cX2_howManyBadWith 29 = .ok (.iload_n 1, 1) := by decide +kernel
theorem dX2_howManyBadWith_30 : decode cX2_howManyBadWith 30 = .ok (.invokestatic 61, 3) := by decide +kernel
theorem dX2_howManyBadWith_33 : decode cX2_howManyBadWith 33 = .ok (.ifCond .eq 6, 3) := by decide +kernel
theorem dX2_howManyBadWith_36 : decode cX2_howManyBadWith 36 = .ok (.iinc 2 1, 3) := by decide +kernel
theorem dX2_howManyBadWith_39 : decode cX2_howManyBadWith 39 = .ok (.iinc 3 1, 3) := by decide +kernel
theorem dX2_howManyBadWith_42 : decode cX2_howManyBadWith 42 = .ok (.goto (-38), 3) := by decide +kernel
theorem dX2_howManyBadWith_45 : decode cX2_howManyBadWith 45 = .ok (.iload_n 2, 1) := by decide +kernel
theorem dX2_howManyBadWith_46 : decode cX2_howManyBadWith 46 = .ok (.ireturn, 1) := by decide +kernel
set_option maxRecDepth 20000 in
theorem ggX2_howManyBadWith_X8_isIn : GoodIn wsX2_howManyBadWith wsX8_isIn := goodIn_r _ [6] (by decide +kernel) (by decide +kernel)
def D_X2_howManyBadWith : Md := (yX2_howManyBadWith, cX2_howManyBadWith, 4, (some .int), wsX2_howManyBadWith, RX2, { frames := 1, cells := 0, slots := 0, locals := 21 })
theorem nm_X2_howManyBadWith : nmD D_X2_howManyBadWith 1 := ⟨rfl, by decide +kernel, by decide +kernel, by decide +kernel⟩
theorem hi_X2_howManyBadWith_X2 : ∀ w ∈ u_ws RX2 TX2 13, w ∈ wsX2_howManyBadWith := by decide +kernel
theorem hl_X2_howManyBadWith_18 : Cond.fieldLink RX2 18 "LevelLoops$Loops" "legs" "[I" ∈ wsX2_howManyBadWith := by decide +kernel
theorem hl_X2_howManyBadWith_47 : Cond.fieldLink RX2 47 "LevelLoops$Loops" "size" "I" ∈ wsX2_howManyBadWith := by decide +kernel
theorem hl_X2_howManyBadWith_51 : Cond.fieldLink RX2 51 "LevelLoops$Loops" "bad" "I" ∈ wsX2_howManyBadWith := by decide +kernel
def wp_X2_howManyBadWith_B4 (n : Nat) (x1 : Int32) (x2 : Int32) (x3 : Int32) (w : Wd) (Q : Int32 → Prop) (K4 : Int32 → Int32 → Prop) : Prop :=
  (((wi w n 12 0) ≤ x3 → Q x2) ∧ (¬ (wi w n 12 0) ≤ x3 → wp_X8_isIn (wi w n 12 4) x3 (fun r17 => ((r17 = 0 → K4 x2 (x3 + 1)) ∧ (¬ r17 = 0 → vp_in x3 20 ∧ wp_X8_isIn (wi w n 15 x3.toNatClampNeg) x1 (fun r30 => ((r30 = 0 → K4 x2 (x3 + 1)) ∧ (¬ r30 = 0 → K4 (x2 + 1) (x3 + 1)))))))))
def wp_X2_howManyBadWith_L4 (n : Nat) (x1 : Int32) (x2 : Int32) (x3 : Int32) (w : Wd) (Q : Int32 → Prop) : Prop :=
  ∃ (I : Int32 → Int32 → Prop) (μ : Int32 → Int32 → Nat), I x2 x3 ∧ ∀ (x2 : Int32) (x3 : Int32), I x2 x3 → wp_X2_howManyBadWith_B4 n x1 x2 x3 w Q (fun x2' x3' => I x2' x3' ∧ μ x2' x3' < μ x2 x3)
def wp_X2_howManyBadWith (n : Nat) (x1 : Int32) (w : Wd) (Q : Int32 → Prop) : Prop :=
  wp_X2_howManyBadWith_L4 n x1 (0 : Int32) (0 : Int32) w Q
theorem ok_X2_howManyBadWith_B4 {G : Gt} {M : Mx} {Qf : State → Prop} {n : Nat} {x1 : Int32} {x2 : Int32} {x3 : Int32} {w : Wd} {Q : Int32 → Prop} {K4 : Int32 → Int32 → Prop} (hC : cx G D_X2_howManyBadWith M) (he : en G M (qip w Q) Qf) (hn : n < 2) (h : wp_X2_howManyBadWith_B4 n x1 x2 x3 w Q K4) (hK4 : ∀ (x2 : Int32) (x3 : Int32), K4 x2 x3 → jq G D_X2_howManyBadWith M Qf 4 [(0, .ref (aD G n 12)), (1, .int x1), (2, .int x2), (3, .int x3)] [] w) : jq G D_X2_howManyBadWith M Qf 4 [(0, .ref (aD G n 12)), (1, .int x1), (2, .int x2), (3, .int x3)] [] w := by
  unfold wp_X2_howManyBadWith_B4 at h
  refine jq_iload_n (k0 := 3) dX2_howManyBadWith_4 hC rfl rfl ?_
  refine jq_aload_n (k0 := 0) dX2_howManyBadWith_5 hC rfl rfl ?_
  refine jq_get (k0 := 0) (n := n) (o := 12) dX2_howManyBadWith_6 hC (cl_T (by omega) (by decide)) rfl rfl hi_X2_howManyBadWith_X2 (by decide) hl_X2_howManyBadWith_47 rfl rfl ?_
  refine jq_icmp_ge (tgt := 45) dX2_howManyBadWith_9 hC (by decide) (fun c9 => ?_) (fun c9 => ?_)
  · have h := h.1 c9
    refine jq_iload_n (k0 := 2) dX2_howManyBadWith_45 hC rfl rfl ?_
    exact jq_iret dX2_howManyBadWith_46 hC he rfl ⟨_, rfl, rfl, h⟩
  · have h := h.2 c9
    refine jq_aload_n (k0 := 0) dX2_howManyBadWith_12 hC rfl rfl ?_
    refine jq_get (k0 := 4) (n := n) (o := 12) dX2_howManyBadWith_13 hC (cl_T (by omega) (by decide)) rfl rfl hi_X2_howManyBadWith_X2 (by decide) hl_X2_howManyBadWith_51 rfl rfl ?_
    refine jq_iload_n (k0 := 3) dX2_howManyBadWith_16 hC rfl rfl ?_
    refine jq_callSN (As := [.int (wi w n 12 4), .int x3]) (rest := []) (D' := D_X8_isIn) (host := "LevelLoops") dX2_howManyBadWith_17 hC (mt_X8_isIn h) ggX2_howManyBadWith_X8_isIn rfl (by decide +kernel) (by decide +kernel) (by decide +kernel) ⟨rfl, rfl, Nat.le_of_ble_eq_true rfl, Nat.le_of_ble_eq_true rfl⟩ nm_X8_isIn rfl (Nat.le_of_ble_eq_true rfl) (kIp fun r17 h => ?_)
    refine jq_if_eq (tgt := 39) dX2_howManyBadWith_20 hC (by decide) (fun c20 => ?_) (fun c20 => ?_)
    · have h := h.1 c20
      refine jq_iinc (k0 := 3) (v := (x3 + 1)) (L' := [(3, .int (x3 + 1)), (0, .ref (aD G n 12)), (1, .int x1), (2, .int x2)]) dX2_howManyBadWith_39 hC rfl rfl (by decide) rfl ?_
      refine jq_goto (tgt := 4) dX2_howManyBadWith_42 hC (by decide) ?_
      exact jq_less (L' := [(0, .ref (aD G n 12)), (1, .int x1), (2, .int x2), (3, .int (x3 + 1))]) [1, 2, 3, 0] rfl (hK4 _ _ h)
    · have h := h.2 c20
      refine jq_aload_n (k0 := 0) dX2_howManyBadWith_23 hC rfl rfl ?_
      refine jq_get (k0 := 6) (n := n) (o := 12) dX2_howManyBadWith_24 hC (cl_T (by omega) (by decide)) rfl rfl hi_X2_howManyBadWith_X2 (by decide) hl_X2_howManyBadWith_18 rfl rfl ?_
      refine jq_iload_n (k0 := 3) dX2_howManyBadWith_27 hC rfl rfl ?_
      obtain ⟨b28, h⟩ := h
      refine jq_iald (n := n) (o := 15) (j := x3.toNatClampNeg) dX2_howManyBadWith_28 hC (cl_T (by omega) (by decide)) rfl b28 rfl ?_
      refine jq_iload_n (k0 := 1) dX2_howManyBadWith_29 hC rfl rfl ?_
      refine jq_callSN (As := [.int (wi w n 15 x3.toNatClampNeg), .int x1]) (rest := []) (D' := D_X8_isIn) (host := "LevelLoops") dX2_howManyBadWith_30 hC (mt_X8_isIn h) ggX2_howManyBadWith_X8_isIn rfl (by decide +kernel) (by decide +kernel) (by decide +kernel) ⟨rfl, rfl, Nat.le_of_ble_eq_true rfl, Nat.le_of_ble_eq_true rfl⟩ nm_X8_isIn rfl (Nat.le_of_ble_eq_true rfl) (kIp fun r30 h => ?_)
      refine jq_if_eq (tgt := 39) dX2_howManyBadWith_33 hC (by decide) (fun c33 => ?_) (fun c33 => ?_)
      · have h := h.1 c33
        refine jq_iinc (k0 := 3) (v := (x3 + 1)) (L' := [(3, .int (x3 + 1)), (0, .ref (aD G n 12)), (1, .int x1), (2, .int x2)]) dX2_howManyBadWith_39 hC rfl rfl (by decide) rfl ?_
        refine jq_goto (tgt := 4) dX2_howManyBadWith_42 hC (by decide) ?_
        exact jq_less (L' := [(0, .ref (aD G n 12)), (1, .int x1), (2, .int x2), (3, .int (x3 + 1))]) [1, 2, 3, 0] rfl (hK4 _ _ h)
      · have h := h.2 c33
        refine jq_iinc (k0 := 2) (v := (x2 + 1)) (L' := [(2, .int (x2 + 1)), (0, .ref (aD G n 12)), (1, .int x1), (3, .int x3)]) dX2_howManyBadWith_36 hC rfl rfl (by decide) rfl ?_
        refine jq_iinc (k0 := 3) (v := (x3 + 1)) (L' := [(3, .int (x3 + 1)), (2, .int (x2 + 1)), (0, .ref (aD G n 12)), (1, .int x1)]) dX2_howManyBadWith_39 hC rfl rfl (by decide) rfl ?_
        refine jq_goto (tgt := 4) dX2_howManyBadWith_42 hC (by decide) ?_
        exact jq_less (L' := [(0, .ref (aD G n 12)), (1, .int x1), (2, .int (x2 + 1)), (3, .int (x3 + 1))]) [2, 3, 1, 0] rfl (hK4 _ _ h)
theorem ok_X2_howManyBadWith_L4 {G : Gt} {M : Mx} {Qf : State → Prop} {n : Nat} {x1 : Int32} {x2 : Int32} {x3 : Int32} {w : Wd} {Q : Int32 → Prop} (hC : cx G D_X2_howManyBadWith M) (he : en G M (qip w Q) Qf) (hn : n < 2) (h : wp_X2_howManyBadWith_L4 n x1 x2 x3 w Q) : jq G D_X2_howManyBadWith M Qf 4 [(0, .ref (aD G n 12)), (1, .int x1), (2, .int x2), (3, .int x3)] [] w := by
  unfold wp_X2_howManyBadWith_L4 at h
  obtain ⟨I, μ, h0, hs⟩ := h
  exact lp_ind (σ := Int32 × Int32) (P := fun s => jq G D_X2_howManyBadWith M Qf 4 [(0, .ref (aD G n 12)), (1, .int x1), (2, .int s.1), (3, .int s.2)] [] w) (fun s => I s.1 s.2) (fun s => μ s.1 s.2) (fun s h1 ih => ok_X2_howManyBadWith_B4 hC he hn (hs s.1 s.2 h1) (fun x2' x3' h => ih (x2', x3') h.1 h.2)) (x2, x3) h0
theorem ok_X2_howManyBadWith {G : Gt} {M : Mx} {Qf : State → Prop} {n : Nat} {x1 : Int32} {w : Wd} {Q : Int32 → Prop} (hC : cx G D_X2_howManyBadWith M) (he : en G M (qip w Q) Qf) (hn : n < 2) (h : wp_X2_howManyBadWith n x1 w Q) : jq G D_X2_howManyBadWith M Qf 0 [(0, .ref (aD G n 12)), (1, .int x1)] [] w := by
  unfold wp_X2_howManyBadWith at h
  refine jq_iconst (v := (0 : Int32)) dX2_howManyBadWith_0 hC (by decide) ?_
  refine jq_istore_n (L' := [(2, .int (0 : Int32)), (0, .ref (aD G n 12)), (1, .int x1)]) dX2_howManyBadWith_1 hC rfl (by decide) rfl ?_
  refine jq_iconst (v := (0 : Int32)) dX2_howManyBadWith_2 hC (by decide) ?_
  refine jq_istore_n (L' := [(3, .int (0 : Int32)), (2, .int (0 : Int32)), (0, .ref (aD G n 12)), (1, .int x1)]) dX2_howManyBadWith_3 hC rfl (by decide) rfl ?_
  refine jq_less (L' := [(0, .ref (aD G n 12)), (1, .int x1), (2, .int (0 : Int32)), (3, .int (0 : Int32))]) [2, 3, 1, 0] rfl ?_
  exact ok_X2_howManyBadWith_L4 hC he hn h
theorem mt_X2_howManyBadWith {G : Gt} {n : Nat} {x1 : Int32} {w : Wd} {Q : Int32 → Prop} (hn : n < 2) (h : wp_X2_howManyBadWith n x1 w Q) : Mt G D_X2_howManyBadWith [.ref (aD G n 12), .int x1] w (qip w Q) := Mt_of (by decide +kernel) rfl rfl (Nat.le_of_ble_eq_true rfl) (fun M Qf hC he => ok_X2_howManyBadWith hC he hn h)
/-! J6.bitCount(I)I -/
theorem dJ6_bitCount_0f7a4_0 : decode cJ6_bitCount_0f7a4 0 = .ok (.iload_n 0, 1) := by decide +kernel
theorem dJ6_bitCount_0f7a4_1 : decode cJ6_bitCount_0f7a4 1 = .ok (.iload_n 0, 1) := by decide +kernel
theorem dJ6_bitCount_0f7a4_2 : decode cJ6_bitCount_0f7a4 2 = .ok (.iconst 1, 1) := by decide +kernel
theorem dJ6_bitCount_0f7a4_3 : decode cJ6_bitCount_0f7a4 3 = .ok (.iushr, 1) := by decide +kernel
theorem dJ6_bitCount_0f7a4_4 : decode cJ6_bitCount_0f7a4 4 = .ok (.ldc_w 265, 3) := by decide +kernel
theorem dJ6_bitCount_0f7a4_7 : decode cJ6_bitCount_0f7a4 7 = .ok (.iand, 1) := by decide +kernel
theorem dJ6_bitCount_0f7a4_8 : decode cJ6_bitCount_0f7a4 8 = .ok (.isub, 1) := by decide +kernel
theorem dJ6_bitCount_0f7a4_9 : decode cJ6_bitCount_0f7a4 9 = .ok (.istore_n 0, 1) := by decide +kernel
theorem dJ6_bitCount_0f7a4_10 : decode cJ6_bitCount_0f7a4 10 = .ok (.iload_n 0, 1) := by decide +kernel
theorem dJ6_bitCount_0f7a4_11 : decode cJ6_bitCount_0f7a4 11 = .ok (.ldc_w 266, 3) := by decide +kernel
theorem dJ6_bitCount_0f7a4_14 : decode cJ6_bitCount_0f7a4 14 = .ok (.iand, 1) := by decide +kernel
theorem dJ6_bitCount_0f7a4_15 : decode cJ6_bitCount_0f7a4 15 = .ok (.iload_n 0, 1) := by decide +kernel
theorem dJ6_bitCount_0f7a4_16 : decode cJ6_bitCount_0f7a4 16 = .ok (.iconst 2, 1) := by decide +kernel
theorem dJ6_bitCount_0f7a4_17 : decode cJ6_bitCount_0f7a4 17 = .ok (.iushr, 1) := by decide +kernel
theorem dJ6_bitCount_0f7a4_18 : decode cJ6_bitCount_0f7a4 18 = .ok (.ldc_w 266, 3) := by decide +kernel
theorem dJ6_bitCount_0f7a4_21 : decode cJ6_bitCount_0f7a4 21 = .ok (.iand, 1) := by decide +kernel
theorem dJ6_bitCount_0f7a4_22 : decode cJ6_bitCount_0f7a4 22 = .ok (.iadd, 1) := by decide +kernel
theorem dJ6_bitCount_0f7a4_23 : decode cJ6_bitCount_0f7a4 23 = .ok (.istore_n 0, 1) := by decide +kernel
theorem dJ6_bitCount_0f7a4_24 : decode cJ6_bitCount_0f7a4 24 = .ok (.iload_n 0, 1) := by decide +kernel
theorem dJ6_bitCount_0f7a4_25 : decode cJ6_bitCount_0f7a4 25 = .ok (.iload_n 0, 1) := by decide +kernel
theorem dJ6_bitCount_0f7a4_26 : decode cJ6_bitCount_0f7a4 26 = .ok (.iconst 4, 1) := by decide +kernel
theorem dJ6_bitCount_0f7a4_27 : decode cJ6_bitCount_0f7a4 27 = .ok (.iushr, 1) := by decide +kernel
theorem dJ6_bitCount_0f7a4_28 : decode cJ6_bitCount_0f7a4 28 = .ok (.iadd, 1) := by decide +kernel
theorem dJ6_bitCount_0f7a4_29 : decode cJ6_bitCount_0f7a4 29 = .ok (.ldc_w 267, 3) := by decide +kernel
theorem dJ6_bitCount_0f7a4_32 : decode cJ6_bitCount_0f7a4 32 = .ok (.iand, 1) := by decide +kernel
theorem dJ6_bitCount_0f7a4_33 : decode cJ6_bitCount_0f7a4 33 = .ok (.istore_n 0, 1) := by decide +kernel
theorem dJ6_bitCount_0f7a4_34 : decode cJ6_bitCount_0f7a4 34 = .ok (.iload_n 0, 1) := by decide +kernel
theorem dJ6_bitCount_0f7a4_35 : decode cJ6_bitCount_0f7a4 35 = .ok (.iload_n 0, 1) := by decide +kernel
theorem dJ6_bitCount_0f7a4_36 : decode cJ6_bitCount_0f7a4 36 = .ok (.bipush 8, 2) := by decide +kernel
theorem dJ6_bitCount_0f7a4_38 : decode cJ6_bitCount_0f7a4 38 = .ok (.iushr, 1) := by decide +kernel
theorem dJ6_bitCount_0f7a4_39 : decode cJ6_bitCount_0f7a4 39 = .ok (.iadd, 1) := by decide +kernel
theorem dJ6_bitCount_0f7a4_40 : decode cJ6_bitCount_0f7a4 40 = .ok (.istore_n 0, 1) := by decide +kernel
theorem dJ6_bitCount_0f7a4_41 : decode cJ6_bitCount_0f7a4 41 = .ok (.iload_n 0, 1) := by decide +kernel
theorem dJ6_bitCount_0f7a4_42 : decode cJ6_bitCount_0f7a4 42 = .ok (.iload_n 0, 1) := by decide +kernel
theorem dJ6_bitCount_0f7a4_43 : decode cJ6_bitCount_0f7a4 43 = .ok (.bipush 16, 2) := by decide +kernel
theorem dJ6_bitCount_0f7a4_45 : decode cJ6_bitCount_0f7a4 45 = .ok (.iushr, 1) := by decide +kernel
theorem dJ6_bitCount_0f7a4_46 : decode cJ6_bitCount_0f7a4 46 = .ok (.iadd, 1) := by decide +kernel
theorem dJ6_bitCount_0f7a4_47 : decode cJ6_bitCount_0f7a4 47 = .ok (.istore_n 0, 1) := by decide +kernel
theorem dJ6_bitCount_0f7a4_48 : decode cJ6_bitCount_0f7a4 48 = .ok (.iload_n 0, 1) := by decide +kernel
theorem dJ6_bitCount_0f7a4_49 : decode cJ6_bitCount_0f7a4 49 = .ok (.bipush 63, 2) := by decide +kernel
theorem dJ6_bitCount_0f7a4_51 : decode cJ6_bitCount_0f7a4 51 = .ok (.iand, 1) := by decide +kernel
theorem dJ6_bitCount_0f7a4_52 : decode cJ6_bitCount_0f7a4 52 = .ok (.ireturn, 1) := by decide +kernel
def D_J6_bitCount_0f7a4 : Md := (yJ6_bitCount_0f7a4, cJ6_bitCount_0f7a4, 1, (some .int), wsJ6_bitCount_0f7a4, RJ6, { frames := 0, cells := 0, slots := 0, locals := 0 })
theorem nm_J6_bitCount_0f7a4 : nmD D_J6_bitCount_0f7a4 1 := ⟨rfl, by decide +kernel, by decide +kernel, by decide +kernel⟩
def wp_J6_bitCount_0f7a4 (x0 : Int32) (Q : Int32 → Prop) : Prop :=
  Q ((((((((x0 - ((iushr x0 (1 : Int32)) &&& (1431655765 : Int32))) &&& (858993459 : Int32)) + ((iushr (x0 - ((iushr x0 (1 : Int32)) &&& (1431655765 : Int32))) (2 : Int32)) &&& (858993459 : Int32))) + (iushr (((x0 - ((iushr x0 (1 : Int32)) &&& (1431655765 : Int32))) &&& (858993459 : Int32)) + ((iushr (x0 - ((iushr x0 (1 : Int32)) &&& (1431655765 : Int32))) (2 : Int32)) &&& (858993459 : Int32))) (4 : Int32))) &&& (252645135 : Int32)) + (iushr (((((x0 - ((iushr x0 (1 : Int32)) &&& (1431655765 : Int32))) &&& (858993459 : Int32)) + ((iushr (x0 - ((iushr x0 (1 : Int32)) &&& (1431655765 : Int32))) (2 : Int32)) &&& (858993459 : Int32))) + (iushr (((x0 - ((iushr x0 (1 : Int32)) &&& (1431655765 : Int32))) &&& (858993459 : Int32)) + ((iushr (x0 - ((iushr x0 (1 : Int32)) &&& (1431655765 : Int32))) (2 : Int32)) &&& (858993459 : Int32))) (4 : Int32))) &&& (252645135 : Int32)) (8 : Int32))) + (iushr ((((((x0 - ((iushr x0 (1 : Int32)) &&& (1431655765 : Int32))) &&& (858993459 : Int32)) + ((iushr (x0 - ((iushr x0 (1 : Int32)) &&& (1431655765 : Int32))) (2 : Int32)) &&& (858993459 : Int32))) + (iushr (((x0 - ((iushr x0 (1 : Int32)) &&& (1431655765 : Int32))) &&& (858993459 : Int32)) + ((iushr (x0 - ((iushr x0 (1 : Int32)) &&& (1431655765 : Int32))) (2 : Int32)) &&& (858993459 : Int32))) (4 : Int32))) &&& (252645135 : Int32)) + (iushr (((((x0 - ((iushr x0 (1 : Int32)) &&& (1431655765 : Int32))) &&& (858993459 : Int32)) + ((iushr (x0 - ((iushr x0 (1 : Int32)) &&& (1431655765 : Int32))) (2 : Int32)) &&& (858993459 : Int32))) + (iushr (((x0 - ((iushr x0 (1 : Int32)) &&& (1431655765 : Int32))) &&& (858993459 : Int32)) + ((iushr (x0 - ((iushr x0 (1 : Int32)) &&& (1431655765 : Int32))) (2 : Int32)) &&& (858993459 : Int32))) (4 : Int32))) &&& (252645135 : Int32)) (8 : Int32))) (16 : Int32))) &&& (63 : Int32))
theorem ok_J6_bitCount_0f7a4 {G : Gt} {M : Mx} {Qf : State → Prop} {x0 : Int32} {w : Wd} {Q : Int32 → Prop} (hC : cx G D_J6_bitCount_0f7a4 M) (he : en G M (qip w Q) Qf) (h : wp_J6_bitCount_0f7a4 x0 Q) : jq G D_J6_bitCount_0f7a4 M Qf 0 [(0, .int x0)] [] w := by
  unfold wp_J6_bitCount_0f7a4 at h
  refine jq_iload_n (k0 := 0) dJ6_bitCount_0f7a4_0 hC rfl rfl ?_
  refine jq_iload_n (k0 := 0) dJ6_bitCount_0f7a4_1 hC rfl rfl ?_
  refine jq_iconst (v := (1 : Int32)) dJ6_bitCount_0f7a4_2 hC (by decide) ?_
  refine jq_iushr dJ6_bitCount_0f7a4_3 hC ?_
  refine jq_ldcw (v := (1431655765 : Int32)) dJ6_bitCount_0f7a4_4 hC (by decide +kernel) ?_
  refine jq_iand dJ6_bitCount_0f7a4_7 hC ?_
  refine jq_isub dJ6_bitCount_0f7a4_8 hC ?_
  refine jq_istore_n (L' := [(0, .int (x0 - ((iushr x0 (1 : Int32)) &&& (1431655765 : Int32))))]) dJ6_bitCount_0f7a4_9 hC rfl (by decide) rfl ?_
  refine jq_iload_n (k0 := 0) dJ6_bitCount_0f7a4_10 hC rfl rfl ?_
  refine jq_ldcw (v := (858993459 : Int32)) dJ6_bitCount_0f7a4_11 hC (by decide +kernel) ?_
  refine jq_iand dJ6_bitCount_0f7a4_14 hC ?_
  refine jq_iload_n (k0 := 0) dJ6_bitCount_0f7a4_15 hC rfl rfl ?_
  refine jq_iconst (v := (2 : Int32)) dJ6_bitCount_0f7a4_16 hC (by decide) ?_
  refine jq_iushr dJ6_bitCount_0f7a4_17 hC ?_
  refine jq_ldcw (v := (858993459 : Int32)) dJ6_bitCount_0f7a4_18 hC (by decide +kernel) ?_
  refine jq_iand dJ6_bitCount_0f7a4_21 hC ?_
  refine jq_iadd dJ6_bitCount_0f7a4_22 hC ?_
  refine jq_istore_n (L' := [(0, .int (((x0 - ((iushr x0 (1 : Int32)) &&& (1431655765 : Int32))) &&& (858993459 : Int32)) + ((iushr (x0 - ((iushr x0 (1 : Int32)) &&& (1431655765 : Int32))) (2 : Int32)) &&& (858993459 : Int32))))]) dJ6_bitCount_0f7a4_23 hC rfl (by decide) rfl ?_
  refine jq_iload_n (k0 := 0) dJ6_bitCount_0f7a4_24 hC rfl rfl ?_
  refine jq_iload_n (k0 := 0) dJ6_bitCount_0f7a4_25 hC rfl rfl ?_
  refine jq_iconst (v := (4 : Int32)) dJ6_bitCount_0f7a4_26 hC (by decide) ?_
  refine jq_iushr dJ6_bitCount_0f7a4_27 hC ?_
  refine jq_iadd dJ6_bitCount_0f7a4_28 hC ?_
  refine jq_ldcw (v := (252645135 : Int32)) dJ6_bitCount_0f7a4_29 hC (by decide +kernel) ?_
  refine jq_iand dJ6_bitCount_0f7a4_32 hC ?_
  refine jq_istore_n (L' := [(0, .int (((((x0 - ((iushr x0 (1 : Int32)) &&& (1431655765 : Int32))) &&& (858993459 : Int32)) + ((iushr (x0 - ((iushr x0 (1 : Int32)) &&& (1431655765 : Int32))) (2 : Int32)) &&& (858993459 : Int32))) + (iushr (((x0 - ((iushr x0 (1 : Int32)) &&& (1431655765 : Int32))) &&& (858993459 : Int32)) + ((iushr (x0 - ((iushr x0 (1 : Int32)) &&& (1431655765 : Int32))) (2 : Int32)) &&& (858993459 : Int32))) (4 : Int32))) &&& (252645135 : Int32)))]) dJ6_bitCount_0f7a4_33 hC rfl (by decide) rfl ?_
  refine jq_iload_n (k0 := 0) dJ6_bitCount_0f7a4_34 hC rfl rfl ?_
  refine jq_iload_n (k0 := 0) dJ6_bitCount_0f7a4_35 hC rfl rfl ?_
  refine jq_bipush (v := (8 : Int32)) dJ6_bitCount_0f7a4_36 hC (by decide) ?_
  refine jq_iushr dJ6_bitCount_0f7a4_38 hC ?_
  refine jq_iadd dJ6_bitCount_0f7a4_39 hC ?_
  refine jq_istore_n (L' := [(0, .int ((((((x0 - ((iushr x0 (1 : Int32)) &&& (1431655765 : Int32))) &&& (858993459 : Int32)) + ((iushr (x0 - ((iushr x0 (1 : Int32)) &&& (1431655765 : Int32))) (2 : Int32)) &&& (858993459 : Int32))) + (iushr (((x0 - ((iushr x0 (1 : Int32)) &&& (1431655765 : Int32))) &&& (858993459 : Int32)) + ((iushr (x0 - ((iushr x0 (1 : Int32)) &&& (1431655765 : Int32))) (2 : Int32)) &&& (858993459 : Int32))) (4 : Int32))) &&& (252645135 : Int32)) + (iushr (((((x0 - ((iushr x0 (1 : Int32)) &&& (1431655765 : Int32))) &&& (858993459 : Int32)) + ((iushr (x0 - ((iushr x0 (1 : Int32)) &&& (1431655765 : Int32))) (2 : Int32)) &&& (858993459 : Int32))) + (iushr (((x0 - ((iushr x0 (1 : Int32)) &&& (1431655765 : Int32))) &&& (858993459 : Int32)) + ((iushr (x0 - ((iushr x0 (1 : Int32)) &&& (1431655765 : Int32))) (2 : Int32)) &&& (858993459 : Int32))) (4 : Int32))) &&& (252645135 : Int32)) (8 : Int32))))]) dJ6_bitCount_0f7a4_40 hC rfl (by decide) rfl ?_
  refine jq_iload_n (k0 := 0) dJ6_bitCount_0f7a4_41 hC rfl rfl ?_
  refine jq_iload_n (k0 := 0) dJ6_bitCount_0f7a4_42 hC rfl rfl ?_
  refine jq_bipush (v := (16 : Int32)) dJ6_bitCount_0f7a4_43 hC (by decide) ?_
  refine jq_iushr dJ6_bitCount_0f7a4_45 hC ?_
  refine jq_iadd dJ6_bitCount_0f7a4_46 hC ?_
  refine jq_istore_n (L' := [(0, .int (((((((x0 - ((iushr x0 (1 : Int32)) &&& (1431655765 : Int32))) &&& (858993459 : Int32)) + ((iushr (x0 - ((iushr x0 (1 : Int32)) &&& (1431655765 : Int32))) (2 : Int32)) &&& (858993459 : Int32))) + (iushr (((x0 - ((iushr x0 (1 : Int32)) &&& (1431655765 : Int32))) &&& (858993459 : Int32)) + ((iushr (x0 - ((iushr x0 (1 : Int32)) &&& (1431655765 : Int32))) (2 : Int32)) &&& (858993459 : Int32))) (4 : Int32))) &&& (252645135 : Int32)) + (iushr (((((x0 - ((iushr x0 (1 : Int32)) &&& (1431655765 : Int32))) &&& (858993459 : Int32)) + ((iushr (x0 - ((iushr x0 (1 : Int32)) &&& (1431655765 : Int32))) (2 : Int32)) &&& (858993459 : Int32))) + (iushr (((x0 - ((iushr x0 (1 : Int32)) &&& (1431655765 : Int32))) &&& (858993459 : Int32)) + ((iushr (x0 - ((iushr x0 (1 : Int32)) &&& (1431655765 : Int32))) (2 : Int32)) &&& (858993459 : Int32))) (4 : Int32))) &&& (252645135 : Int32)) (8 : Int32))) + (iushr ((((((x0 - ((iushr x0 (1 : Int32)) &&& (1431655765 : Int32))) &&& (858993459 : Int32)) + ((iushr (x0 - ((iushr x0 (1 : Int32)) &&& (1431655765 : Int32))) (2 : Int32)) &&& (858993459 : Int32))) + (iushr (((x0 - ((iushr x0 (1 : Int32)) &&& (1431655765 : Int32))) &&& (858993459 : Int32)) + ((iushr (x0 - ((iushr x0 (1 : Int32)) &&& (1431655765 : Int32))) (2 : Int32)) &&& (858993459 : Int32))) (4 : Int32))) &&& (252645135 : Int32)) + (iushr (((((x0 - ((iushr x0 (1 : Int32)) &&& (1431655765 : Int32))) &&& (858993459 : Int32)) + ((iushr (x0 - ((iushr x0 (1 : Int32)) &&& (1431655765 : Int32))) (2 : Int32)) &&& (858993459 : Int32))) + (iushr (((x0 - ((iushr x0 (1 : Int32)) &&& (1431655765 : Int32))) &&& (858993459 : Int32)) + ((iushr (x0 - ((iushr x0 (1 : Int32)) &&& (1431655765 : Int32))) (2 : Int32)) &&& (858993459 : Int32))) (4 : Int32))) &&& (252645135 : Int32)) (8 : Int32))) (16 : Int32))))]) dJ6_bitCount_0f7a4_47 hC rfl (by decide) rfl ?_
  refine jq_iload_n (k0 := 0) dJ6_bitCount_0f7a4_48 hC rfl rfl ?_
  refine jq_bipush (v := (63 : Int32)) dJ6_bitCount_0f7a4_49 hC (by decide) ?_
  refine jq_iand dJ6_bitCount_0f7a4_51 hC ?_
  exact jq_iret dJ6_bitCount_0f7a4_52 hC he rfl ⟨_, rfl, rfl, h⟩
theorem mt_J6_bitCount_0f7a4 {G : Gt} {x0 : Int32} {w : Wd} {Q : Int32 → Prop} (h : wp_J6_bitCount_0f7a4 x0 Q) : Mt G D_J6_bitCount_0f7a4 [.int x0] w (qip w Q) := Mt_of (by decide +kernel) rfl rfl (Nat.le_of_ble_eq_true rfl) (fun M Qf hC he => ok_J6_bitCount_0f7a4 hC he h)
/-! X2.howManyBad()I -/
theorem dX2_howManyBad_0 : decode cX2_howManyBad 0 = .ok (.aload_n 0, 1) := by decide +kernel
theorem dX2_howManyBad_1 : decode cX2_howManyBad 1 = .ok (.getfield 51, 3) := by decide +kernel
theorem dX2_howManyBad_4 : decode cX2_howManyBad 4 = .ok (.invokestatic 121, 3) := by decide +kernel
theorem dX2_howManyBad_7 : decode cX2_howManyBad 7 = .ok (.ireturn, 1) := by decide +kernel
set_option maxRecDepth 20000 in
theorem ggX2_howManyBad_J6_bitCount_0f7a4 : GoodIn wsX2_howManyBad wsJ6_bitCount_0f7a4 := goodIn_r _ [5, 6, 7, 8] (by decide +kernel) (by decide +kernel)
set_option maxRecDepth 20000 in
theorem gX2_howManyBad_J6_bitCount_0f7a4 : GoodIn wsX2_howManyBad (va_wsS RX2 121 yJ6_bitCount_0f7a4 wsJ6_bitCount_0f7a4) := goodIn_app (goodIn_of _ (by decide +kernel)) ggX2_howManyBad_J6_bitCount_0f7a4
def D_X2_howManyBad : Md := (yX2_howManyBad, cX2_howManyBad, 1, (some .int), wsX2_howManyBad, RX2, { frames := 1, cells := 0, slots := 0, locals := 20 })
theorem nm_X2_howManyBad : nmD D_X2_howManyBad 0 := ⟨rfl, by decide +kernel, by decide +kernel, by decide +kernel⟩
theorem hi_X2_howManyBad_X2 : ∀ w ∈ u_ws RX2 TX2 13, w ∈ wsX2_howManyBad := by decide +kernel
theorem hl_X2_howManyBad_51 : Cond.fieldLink RX2 51 "LevelLoops$Loops" "bad" "I" ∈ wsX2_howManyBad := by decide +kernel
def wp_X2_howManyBad (n : Nat) (w : Wd) (Q : Int32 → Prop) : Prop :=
  wp_J6_bitCount_0f7a4 (wi w n 12 4) (fun r4 => Q r4)
theorem ok_X2_howManyBad {G : Gt} {M : Mx} {Qf : State → Prop} {n : Nat} {w : Wd} {Q : Int32 → Prop} (hC : cx G D_X2_howManyBad M) (he : en G M (qip w Q) Qf) (hn : n < 2) (h : wp_X2_howManyBad n w Q) : jq G D_X2_howManyBad M Qf 0 [(0, .ref (aD G n 12))] [] w := by
  unfold wp_X2_howManyBad at h
  refine jq_aload_n (k0 := 0) dX2_howManyBad_0 hC rfl rfl ?_
  refine jq_get (k0 := 4) (n := n) (o := 12) dX2_howManyBad_1 hC (cl_T (by omega) (by decide)) rfl rfl hi_X2_howManyBad_X2 (by decide) hl_X2_howManyBad_51 rfl rfl ?_
  refine jq_callS (As := [.int (wi w n 12 4)]) (rest := []) (D' := D_J6_bitCount_0f7a4) dX2_howManyBad_4 hC (mt_J6_bitCount_0f7a4 h) gX2_howManyBad_J6_bitCount_0f7a4 rfl ⟨rfl, rfl, Nat.le_of_ble_eq_true rfl, Nat.le_of_ble_eq_true rfl⟩ nm_J6_bitCount_0f7a4 rfl (Nat.le_of_ble_eq_true rfl) (kIp fun r4 h => ?_)
  exact jq_iret dX2_howManyBad_7 hC he rfl ⟨_, rfl, rfl, h⟩
theorem mt_X2_howManyBad {G : Gt} {n : Nat} {w : Wd} {Q : Int32 → Prop} (hn : n < 2) (h : wp_X2_howManyBad n w Q) : Mt G D_X2_howManyBad [.ref (aD G n 12)] w (qip w Q) := Mt_of (by decide +kernel) rfl rfl (Nat.le_of_ble_eq_true rfl) (fun M Qf hC he => ok_X2_howManyBad hC he hn h)
/-! X2.missesTogether()I -/
theorem dX2_missesTogether_0 : decode cX2_missesTogether 0 = .ok (.iconst 0, 1) := by decide +kernel
theorem dX2_missesTogether_1 : decode cX2_missesTogether 1 = .ok (.istore_n 1, 1) := by decide +kernel
theorem dX2_missesTogether_2 : decode cX2_missesTogether 2 = .ok (.iconst 0, 1) := by decide +kernel
theorem dX2_missesTogether_3 : decode cX2_missesTogether 3 = .ok (.istore_n 2, 1) := by decide +kernel
theorem dX2_missesTogether_4 : decode cX2_missesTogether 4 = .ok (.iload_n 2, 1) := by decide +kernel
theorem dX2_missesTogether_5 : decode cX2_missesTogether 5 = .ok (.aload_n 0, 1) := by decide +kernel
theorem dX2_missesTogether_6 : decode cX2_missesTogether 6 = .ok (.getfield 47, 3) := by decide +kernel
theorem dX2_missesTogether_9 : decode cX2_missesTogether 9 = .ok (.if_icmp .ge 21, 3) := by decide +kernel
theorem dX2_missesTogether_12 : decode cX2_missesTogether 12 = .ok (.iload_n 1, 1) := by decide +kernel
theorem dX2_missesTogether_13 : decode cX2_missesTogether 13 = .ok (.aload_n 0, 1) := by decide +kernel
theorem dX2_missesTogether_14 : decode cX2_missesTogether 14 = .ok (.getfield 27, 3) := by decide +kernel
theorem dX2_missesTogether_17 : decode cX2_missesTogether 17 = .ok (.iload_n 2, 1) := by decide +kernel
theorem dX2_missesTogether_18 : decode cX2_missesTogether 18 = .ok (.iaload, 1) := by decide +kernel
theorem dX2_missesTogether_19 : decode cX2_missesTogether 19 = .ok (.invokestatic 98, 3) := by decide +kernel
theorem dX2_missesTogether_22 : decode cX2_missesTogether 22 = .ok (.iadd, 1) := by decide +kernel
theorem dX2_missesTogether_23 : decode cX2_missesTogether 23 = .ok (.istore_n 1, 1) := by decide +kernel
theorem dX2_missesTogether_24 : decode cX2_missesTogether 24 = .ok (.iinc 2 1, 3) := by decide +kernel
theorem dX2_missesTogether_27 : decode cX2_missesTogether 27 = .ok (.goto (-23), 3) := by decide +kernel
theorem dX2_missesTogether_30 : decode cX2_missesTogether 30 = .ok (.iload_n 1, 1) := by decide +kernel
theorem dX2_missesTogether_31 : decode cX2_missesTogether 31 = .ok (.ireturn, 1) := by decide +kernel
def D_X2_missesTogether : Md := (yX2_missesTogether, cX2_missesTogether, 3, (some .int), wsX2_missesTogether, RX2, { frames := 1, cells := 0, slots := 0, locals := 21 })
theorem nm_X2_missesTogether : nmD D_X2_missesTogether 0 := ⟨rfl, by decide +kernel, by decide +kernel, by decide +kernel⟩
theorem hi_X2_missesTogether_X2 : ∀ w ∈ u_ws RX2 TX2 13, w ∈ wsX2_missesTogether := by decide +kernel
theorem hl_X2_missesTogether_27 : Cond.fieldLink RX2 27 "LevelLoops$Loops" "miss" "[I" ∈ wsX2_missesTogether := by decide +kernel
theorem hl_X2_missesTogether_47 : Cond.fieldLink RX2 47 "LevelLoops$Loops" "size" "I" ∈ wsX2_missesTogether := by decide +kernel
def wp_X2_missesTogether_B4 (n : Nat) (x1 : Int32) (x2 : Int32) (w : Wd) (Q : Int32 → Prop) (K4 : Int32 → Int32 → Prop) : Prop :=
  (((wi w n 12 0) ≤ x2 → Q x1) ∧ (¬ (wi w n 12 0) ≤ x2 → vp_in x2 20 ∧ K4 (x1 + (iabs (wi w n 18 x2.toNatClampNeg))) (x2 + 1)))
def wp_X2_missesTogether_L4 (n : Nat) (x1 : Int32) (x2 : Int32) (w : Wd) (Q : Int32 → Prop) : Prop :=
  ∃ (I : Int32 → Int32 → Prop) (μ : Int32 → Int32 → Nat), I x1 x2 ∧ ∀ (x1 : Int32) (x2 : Int32), I x1 x2 → wp_X2_missesTogether_B4 n x1 x2 w Q (fun x1' x2' => I x1' x2' ∧ μ x1' x2' < μ x1 x2)
def wp_X2_missesTogether (n : Nat) (w : Wd) (Q : Int32 → Prop) : Prop :=
  wp_X2_missesTogether_L4 n (0 : Int32) (0 : Int32) w Q
theorem ok_X2_missesTogether_B4 {G : Gt} {M : Mx} {Qf : State → Prop} {n : Nat} {x1 : Int32} {x2 : Int32} {w : Wd} {Q : Int32 → Prop} {K4 : Int32 → Int32 → Prop} (hC : cx G D_X2_missesTogether M) (he : en G M (qip w Q) Qf) (hn : n < 2) (h : wp_X2_missesTogether_B4 n x1 x2 w Q K4) (hK4 : ∀ (x1 : Int32) (x2 : Int32), K4 x1 x2 → jq G D_X2_missesTogether M Qf 4 [(0, .ref (aD G n 12)), (1, .int x1), (2, .int x2)] [] w) : jq G D_X2_missesTogether M Qf 4 [(0, .ref (aD G n 12)), (1, .int x1), (2, .int x2)] [] w := by
  unfold wp_X2_missesTogether_B4 at h
  refine jq_iload_n (k0 := 2) dX2_missesTogether_4 hC rfl rfl ?_
  refine jq_aload_n (k0 := 0) dX2_missesTogether_5 hC rfl rfl ?_
  refine jq_get (k0 := 0) (n := n) (o := 12) dX2_missesTogether_6 hC (cl_T (by omega) (by decide)) rfl rfl hi_X2_missesTogether_X2 (by decide) hl_X2_missesTogether_47 rfl rfl ?_
  refine jq_icmp_ge (tgt := 30) dX2_missesTogether_9 hC (by decide) (fun c9 => ?_) (fun c9 => ?_)
  · have h := h.1 c9
    refine jq_iload_n (k0 := 1) dX2_missesTogether_30 hC rfl rfl ?_
    exact jq_iret dX2_missesTogether_31 hC he rfl ⟨_, rfl, rfl, h⟩
  · have h := h.2 c9
    refine jq_iload_n (k0 := 1) dX2_missesTogether_12 hC rfl rfl ?_
    refine jq_aload_n (k0 := 0) dX2_missesTogether_13 hC rfl rfl ?_
    refine jq_get (k0 := 9) (n := n) (o := 12) dX2_missesTogether_14 hC (cl_T (by omega) (by decide)) rfl rfl hi_X2_missesTogether_X2 (by decide) hl_X2_missesTogether_27 rfl rfl ?_
    refine jq_iload_n (k0 := 2) dX2_missesTogether_17 hC rfl rfl ?_
    obtain ⟨b18, h⟩ := h
    refine jq_iald (n := n) (o := 18) (j := x2.toNatClampNeg) dX2_missesTogether_18 hC (cl_T (by omega) (by decide)) rfl b18 rfl ?_
    refine jq_abs dX2_missesTogether_19 hC (by decide +kernel) (Nat.le_of_ble_eq_true rfl) (Nat.le_of_ble_eq_true rfl) ?_
    refine jq_iadd dX2_missesTogether_22 hC ?_
    refine jq_istore_n (L' := [(1, .int (x1 + (iabs (wi w n 18 x2.toNatClampNeg)))), (0, .ref (aD G n 12)), (2, .int x2)]) dX2_missesTogether_23 hC rfl (by decide) rfl ?_
    refine jq_iinc (k0 := 2) (v := (x2 + 1)) (L' := [(2, .int (x2 + 1)), (1, .int (x1 + (iabs (wi w n 18 x2.toNatClampNeg)))), (0, .ref (aD G n 12))]) dX2_missesTogether_24 hC rfl rfl (by decide) rfl ?_
    refine jq_goto (tgt := 4) dX2_missesTogether_27 hC (by decide) ?_
    exact jq_less (L' := [(0, .ref (aD G n 12)), (1, .int (x1 + (iabs (wi w n 18 x2.toNatClampNeg)))), (2, .int (x2 + 1))]) [2, 1, 0] rfl (hK4 _ _ h)
theorem ok_X2_missesTogether_L4 {G : Gt} {M : Mx} {Qf : State → Prop} {n : Nat} {x1 : Int32} {x2 : Int32} {w : Wd} {Q : Int32 → Prop} (hC : cx G D_X2_missesTogether M) (he : en G M (qip w Q) Qf) (hn : n < 2) (h : wp_X2_missesTogether_L4 n x1 x2 w Q) : jq G D_X2_missesTogether M Qf 4 [(0, .ref (aD G n 12)), (1, .int x1), (2, .int x2)] [] w := by
  unfold wp_X2_missesTogether_L4 at h
  obtain ⟨I, μ, h0, hs⟩ := h
  exact lp_ind (σ := Int32 × Int32) (P := fun s => jq G D_X2_missesTogether M Qf 4 [(0, .ref (aD G n 12)), (1, .int s.1), (2, .int s.2)] [] w) (fun s => I s.1 s.2) (fun s => μ s.1 s.2) (fun s h1 ih => ok_X2_missesTogether_B4 hC he hn (hs s.1 s.2 h1) (fun x1' x2' h => ih (x1', x2') h.1 h.2)) (x1, x2) h0
theorem ok_X2_missesTogether {G : Gt} {M : Mx} {Qf : State → Prop} {n : Nat} {w : Wd} {Q : Int32 → Prop} (hC : cx G D_X2_missesTogether M) (he : en G M (qip w Q) Qf) (hn : n < 2) (h : wp_X2_missesTogether n w Q) : jq G D_X2_missesTogether M Qf 0 [(0, .ref (aD G n 12))] [] w := by
  unfold wp_X2_missesTogether at h
  refine jq_iconst (v := (0 : Int32)) dX2_missesTogether_0 hC (by decide) ?_
  refine jq_istore_n (L' := [(1, .int (0 : Int32)), (0, .ref (aD G n 12))]) dX2_missesTogether_1 hC rfl (by decide) rfl ?_
  refine jq_iconst (v := (0 : Int32)) dX2_missesTogether_2 hC (by decide) ?_
  refine jq_istore_n (L' := [(2, .int (0 : Int32)), (1, .int (0 : Int32)), (0, .ref (aD G n 12))]) dX2_missesTogether_3 hC rfl (by decide) rfl ?_
  refine jq_less (L' := [(0, .ref (aD G n 12)), (1, .int (0 : Int32)), (2, .int (0 : Int32))]) [2, 1, 0] rfl ?_
  exact ok_X2_missesTogether_L4 hC he hn h
theorem mt_X2_missesTogether {G : Gt} {n : Nat} {w : Wd} {Q : Int32 → Prop} (hn : n < 2) (h : wp_X2_missesTogether n w Q) : Mt G D_X2_missesTogether [.ref (aD G n 12)] w (qip w Q) := Mt_of (by decide +kernel) rfl rfl (Nat.le_of_ble_eq_true rfl) (fun M Qf hC he => ok_X2_missesTogether hC he hn h)
/-! X2.correctionsTogether()I -/
theorem dX2_correctionsTogether_0 : decode cX2_correctionsTogether 0 = .ok (.iconst 0, 1) := by decide +kernel
theorem dX2_correctionsTogether_1 : decode cX2_correctionsTogether 1 = .ok (.istore_n 1, 1) := by decide +kernel
theorem dX2_correctionsTogether_2 : decode cX2_correctionsTogether 2 = .ok (.iconst 0, 1) := by decide +kernel
theorem dX2_correctionsTogether_3 : decode cX2_correctionsTogether 3 = .ok (.istore_n 2, 1) := by decide +kernel
theorem dX2_correctionsTogether_4 : decode cX2_correctionsTogether 4 = .ok (.iload_n 2, 1) := by decide +kernel
theorem dX2_correctionsTogether_5 : decode cX2_correctionsTogether 5 = .ok (.aload_n 0, 1) := by decide +kernel
theorem dX2_correctionsTogether_6 : decode cX2_correctionsTogether 6 = .ok (.getfield 39, 3) := by decide +kernel
theorem dX2_correctionsTogether_9 : decode cX2_correctionsTogether 9 = .ok (.getfield 54, 3) := by decide +kernel
theorem dX2_correctionsTogether_12 : decode cX2_correctionsTogether 12 = .ok (.if_icmp .ge 21, 3) := by decide +kernel
theorem dX2_correctionsTogether_15 : decode cX2_correctionsTogether 15 = .ok (.iload_n 1, 1) := by decide +kernel
theorem dX2_correctionsTogether_16 : decode cX2_correctionsTogether 16 = .ok (.aload_n 0, 1) := by decide +kernel
theorem dX2_correctionsTogether_17 : decode cX2_correctionsTogether 17 = .ok (.getfield 9, 3) := by decide +kernel
theorem dX2_correctionsTogether_20 : decode cX2_correctionsTogether 20 = .ok (.iload_n 2, 1) := by decide +kernel
theorem dX2_correctionsTogether_21 : decode cX2_correctionsTogether 21 = .ok (.iaload, 1) := by decide +kernel
theorem dX2_correctionsTogether_22 : decode cX2_correctionsTogether 22 = .ok (.invokestatic 98, 3) := by decide +kernel
theorem dX2_correctionsTogether_25 : decode cX2_correctionsTogether 25 = .ok (.iadd, 1) := by decide +kernel
theorem dX2_correctionsTogether_26 : decode cX2_correctionsTogether 26 = .ok (.istore_n 1, 1) := by decide +kernel
theorem dX2_correctionsTogether_27 : decode cX2_correctionsTogether 27 = .ok (.iinc 2 1, 3) := by decide +kernel
theorem dX2_correctionsTogether_30 : decode cX2_correctionsTogether 30 = .ok (.goto (-26), 3) := by decide +kernel
theorem dX2_correctionsTogether_33 : decode cX2_correctionsTogether 33 = .ok (.iload_n 1, 1) := by decide +kernel
theorem dX2_correctionsTogether_34 : decode cX2_correctionsTogether 34 = .ok (.ireturn, 1) := by decide +kernel
def D_X2_correctionsTogether : Md := (yX2_correctionsTogether, cX2_correctionsTogether, 3, (some .int), wsX2_correctionsTogether, RX2, { frames := 1, cells := 0, slots := 0, locals := 21 })
theorem nm_X2_correctionsTogether : nmD D_X2_correctionsTogether 0 := ⟨rfl, by decide +kernel, by decide +kernel, by decide +kernel⟩
theorem hi_X2_correctionsTogether_X2 : ∀ w ∈ u_ws RX2 TX2 13, w ∈ wsX2_correctionsTogether := by decide +kernel
theorem hi_X2_correctionsTogether_X5 : ∀ w ∈ u_ws RX5 TX5 8, w ∈ wsX2_correctionsTogether := by decide +kernel
theorem hl_X2_correctionsTogether_9 : Cond.fieldLink RX2 9 "LevelLoops$Loops" "correction" "[I" ∈ wsX2_correctionsTogether := by decide +kernel
theorem hl_X2_correctionsTogether_39 : Cond.fieldLink RX2 39 "LevelLoops$Loops" "survey" "LLevelLoops$Survey;" ∈ wsX2_correctionsTogether := by decide +kernel
theorem hl_X2_correctionsTogether_54 : Cond.fieldLink RX2 54 "LevelLoops$Survey" "legs" "I" ∈ wsX2_correctionsTogether := by decide +kernel
def wp_X2_correctionsTogether_B4 (n : Nat) (x1 : Int32) (x2 : Int32) (w : Wd) (Q : Int32 → Prop) (K4 : Int32 → Int32 → Prop) : Prop :=
  (((wi w n 0 1) ≤ x2 → Q x1) ∧ (¬ (wi w n 0 1) ≤ x2 → vp_in x2 20 ∧ K4 (x1 + (iabs (wi w n 13 x2.toNatClampNeg))) (x2 + 1)))
def wp_X2_correctionsTogether_L4 (n : Nat) (x1 : Int32) (x2 : Int32) (w : Wd) (Q : Int32 → Prop) : Prop :=
  ∃ (I : Int32 → Int32 → Prop) (μ : Int32 → Int32 → Nat), I x1 x2 ∧ ∀ (x1 : Int32) (x2 : Int32), I x1 x2 → wp_X2_correctionsTogether_B4 n x1 x2 w Q (fun x1' x2' => I x1' x2' ∧ μ x1' x2' < μ x1 x2)
def wp_X2_correctionsTogether (n : Nat) (w : Wd) (Q : Int32 → Prop) : Prop :=
  wp_X2_correctionsTogether_L4 n (0 : Int32) (0 : Int32) w Q
theorem ok_X2_correctionsTogether_B4 {G : Gt} {M : Mx} {Qf : State → Prop} {n : Nat} {x1 : Int32} {x2 : Int32} {w : Wd} {Q : Int32 → Prop} {K4 : Int32 → Int32 → Prop} (hC : cx G D_X2_correctionsTogether M) (he : en G M (qip w Q) Qf) (hn : n < 2) (h : wp_X2_correctionsTogether_B4 n x1 x2 w Q K4) (hK4 : ∀ (x1 : Int32) (x2 : Int32), K4 x1 x2 → jq G D_X2_correctionsTogether M Qf 4 [(0, .ref (aD G n 12)), (1, .int x1), (2, .int x2)] [] w) : jq G D_X2_correctionsTogether M Qf 4 [(0, .ref (aD G n 12)), (1, .int x1), (2, .int x2)] [] w := by
  unfold wp_X2_correctionsTogether_B4 at h
  refine jq_iload_n (k0 := 2) dX2_correctionsTogether_4 hC rfl rfl ?_
  refine jq_aload_n (k0 := 0) dX2_correctionsTogether_5 hC rfl rfl ?_
  refine jq_get (k0 := 2) (n := n) (o := 12) dX2_correctionsTogether_6 hC (cl_T (by omega) (by decide)) rfl rfl hi_X2_correctionsTogether_X2 (by decide) hl_X2_correctionsTogether_39 rfl rfl ?_
  refine jq_get (k0 := 1) (n := n) (o := 0) dX2_correctionsTogether_9 hC (cl_S (by omega) (by decide)) rfl rfl hi_X2_correctionsTogether_X5 (by decide) hl_X2_correctionsTogether_54 rfl rfl ?_
  refine jq_icmp_ge (tgt := 33) dX2_correctionsTogether_12 hC (by decide) (fun c12 => ?_) (fun c12 => ?_)
  · have h := h.1 c12
    refine jq_iload_n (k0 := 1) dX2_correctionsTogether_33 hC rfl rfl ?_
    exact jq_iret dX2_correctionsTogether_34 hC he rfl ⟨_, rfl, rfl, h⟩
  · have h := h.2 c12
    refine jq_iload_n (k0 := 1) dX2_correctionsTogether_15 hC rfl rfl ?_
    refine jq_aload_n (k0 := 0) dX2_correctionsTogether_16 hC rfl rfl ?_
    refine jq_get (k0 := 1) (n := n) (o := 12) dX2_correctionsTogether_17 hC (cl_T (by omega) (by decide)) rfl rfl hi_X2_correctionsTogether_X2 (by decide) hl_X2_correctionsTogether_9 rfl rfl ?_
    refine jq_iload_n (k0 := 2) dX2_correctionsTogether_20 hC rfl rfl ?_
    obtain ⟨b21, h⟩ := h
    refine jq_iald (n := n) (o := 13) (j := x2.toNatClampNeg) dX2_correctionsTogether_21 hC (cl_T (by omega) (by decide)) rfl b21 rfl ?_
    refine jq_abs dX2_correctionsTogether_22 hC (by decide +kernel) (Nat.le_of_ble_eq_true rfl) (Nat.le_of_ble_eq_true rfl) ?_
    refine jq_iadd dX2_correctionsTogether_25 hC ?_
    refine jq_istore_n (L' := [(1, .int (x1 + (iabs (wi w n 13 x2.toNatClampNeg)))), (0, .ref (aD G n 12)), (2, .int x2)]) dX2_correctionsTogether_26 hC rfl (by decide) rfl ?_
    refine jq_iinc (k0 := 2) (v := (x2 + 1)) (L' := [(2, .int (x2 + 1)), (1, .int (x1 + (iabs (wi w n 13 x2.toNatClampNeg)))), (0, .ref (aD G n 12))]) dX2_correctionsTogether_27 hC rfl rfl (by decide) rfl ?_
    refine jq_goto (tgt := 4) dX2_correctionsTogether_30 hC (by decide) ?_
    exact jq_less (L' := [(0, .ref (aD G n 12)), (1, .int (x1 + (iabs (wi w n 13 x2.toNatClampNeg)))), (2, .int (x2 + 1))]) [2, 1, 0] rfl (hK4 _ _ h)
theorem ok_X2_correctionsTogether_L4 {G : Gt} {M : Mx} {Qf : State → Prop} {n : Nat} {x1 : Int32} {x2 : Int32} {w : Wd} {Q : Int32 → Prop} (hC : cx G D_X2_correctionsTogether M) (he : en G M (qip w Q) Qf) (hn : n < 2) (h : wp_X2_correctionsTogether_L4 n x1 x2 w Q) : jq G D_X2_correctionsTogether M Qf 4 [(0, .ref (aD G n 12)), (1, .int x1), (2, .int x2)] [] w := by
  unfold wp_X2_correctionsTogether_L4 at h
  obtain ⟨I, μ, h0, hs⟩ := h
  exact lp_ind (σ := Int32 × Int32) (P := fun s => jq G D_X2_correctionsTogether M Qf 4 [(0, .ref (aD G n 12)), (1, .int s.1), (2, .int s.2)] [] w) (fun s => I s.1 s.2) (fun s => μ s.1 s.2) (fun s h1 ih => ok_X2_correctionsTogether_B4 hC he hn (hs s.1 s.2 h1) (fun x1' x2' h => ih (x1', x2') h.1 h.2)) (x1, x2) h0
theorem ok_X2_correctionsTogether {G : Gt} {M : Mx} {Qf : State → Prop} {n : Nat} {w : Wd} {Q : Int32 → Prop} (hC : cx G D_X2_correctionsTogether M) (he : en G M (qip w Q) Qf) (hn : n < 2) (h : wp_X2_correctionsTogether n w Q) : jq G D_X2_correctionsTogether M Qf 0 [(0, .ref (aD G n 12))] [] w := by
  unfold wp_X2_correctionsTogether at h
  refine jq_iconst (v := (0 : Int32)) dX2_correctionsTogether_0 hC (by decide) ?_
  refine jq_istore_n (L' := [(1, .int (0 : Int32)), (0, .ref (aD G n 12))]) dX2_correctionsTogether_1 hC rfl (by decide) rfl ?_
  refine jq_iconst (v := (0 : Int32)) dX2_correctionsTogether_2 hC (by decide) ?_
  refine jq_istore_n (L' := [(2, .int (0 : Int32)), (1, .int (0 : Int32)), (0, .ref (aD G n 12))]) dX2_correctionsTogether_3 hC rfl (by decide) rfl ?_
  refine jq_less (L' := [(0, .ref (aD G n 12)), (1, .int (0 : Int32)), (2, .int (0 : Int32))]) [2, 1, 0] rfl ?_
  exact ok_X2_correctionsTogether_L4 hC he hn h
theorem mt_X2_correctionsTogether {G : Gt} {n : Nat} {w : Wd} {Q : Int32 → Prop} (hn : n < 2) (h : wp_X2_correctionsTogether n w Q) : Mt G D_X2_correctionsTogether [.ref (aD G n 12)] w (qip w Q) := Mt_of (by decide +kernel) rfl rfl (Nat.le_of_ble_eq_true rfl) (fun M Qf hC he => ok_X2_correctionsTogether hC he hn h)
/-! X2.worstLoop()I -/
theorem dX2_worstLoop_0 : decode cX2_worstLoop 0 = .ok (.iconst (-1), 1) := by decide +kernel
theorem dX2_worstLoop_1 : decode cX2_worstLoop 1 = .ok (.istore_n 1, 1) := by decide +kernel
theorem dX2_worstLoop_2 : decode cX2_worstLoop 2 = .ok (.iconst 0, 1) := by decide +kernel
theorem dX2_worstLoop_3 : decode cX2_worstLoop 3 = .ok (.istore_n 2, 1) := by decide +kernel
theorem dX2_worstLoop_4 : decode cX2_worstLoop 4 = .ok (.iload_n 2, 1) := by decide +kernel
theorem dX2_worstLoop_5 : decode cX2_worstLoop 5 = .ok (.aload_n 0, 1) := by decide +kernel
theorem dX2_worstLoop_6 : decode cX2_worstLoop 6 = .ok (.getfield 47, 3) := by decide +kernel
theorem dX2_worstLoop_9 : decode cX2_worstLoop 9 = .ok (.if_icmp .ge 28, 3) := by decide +kernel
theorem dX2_worstLoop_12 : decode cX2_worstLoop 12 = .ok (.iload_n 1, 1) := by decide +kernel
theorem dX2_worstLoop_13 : decode cX2_worstLoop 13 = .ok (.ifCond .lt 16, 3) := by decide +kernel
theorem dX2_worstLoop_16 : decode cX2_worstLoop 16 = .ok (.aload_n 0, 1) := by decide +kernel
theorem dX2_worstLoop_17 : decode cX2_worstLoop 17 = .ok (.iload_n 2, 1) := by decide +kernel
theorem dX2_worstLoop_18 : decode cX2_worstLoop 18 = .ok (.invokevirtual 92, 3) := by decide +kernel
theorem dX2_worstLoop_21 : decode cX2_worstLoop 21 = .ok (.aload_n 0, 1) := by decide +kernel
theorem dX2_worstLoop_22 : decode cX2_worstLoop 22 = .ok (.iload_n 1, 1) := by decide +kernel
theorem dX2_worstLoop_23 : decode cX2_worstLoop 23 = .ok (.invokevirtual 92, 3) := by decide +kernel
theorem dX2_worstLoop_26 : decode cX2_worstLoop 26 = .ok (.if_icmp .le 5, 3) := by decide +kernel
theorem dX2_worstLoop_29 : decode cX2_worstLoop 29 = .ok (.iload_n 2, 1) := by decide +kernel
theorem dX2_worstLoop_30 : decode cX2_worstLoop 30 = .ok (.istore_n 1, 1) := by decide +kernel
theorem dX2_worstLoop_31 : decode cX2_worstLoop 31 = .ok (.iinc 2 1, 3) := by decide +kernel
theorem dX2_worstLoop_34 : decode cX2_worstLoop 34 = .ok (.goto (-30), 3) := by decide +kernel
theorem dX2_worstLoop_37 : decode cX2_worstLoop 37 = .ok (.iload_n 1, 1) := by decide +kernel
theorem dX2_worstLoop_38 : decode cX2_worstLoop 38 = .ok (.ireturn, 1) := by decide +kernel
set_option maxRecDepth 20000 in
theorem ggX2_worstLoop_X2_excess : GoodIn wsX2_worstLoop wsX2_excess := goodIn_r _ [6, 7, 8, 9, 10, 11, 12, 13, 14, 5, 15, 16, 17, 18, 19, 20, 21, 22, 23, 24, 25, 26, 27, 28, 29, 30, 31, 32, 33, 34, 35, 36, 37, 38, 39] (by decide +kernel) (by decide +kernel)
set_option maxRecDepth 20000 in
theorem gX2_worstLoop_X2_excess : GoodIn wsX2_worstLoop (wsV RX2 92 RX2 yX2_excess wsX2_excess) := goodIn_app (goodIn_of _ (by decide +kernel)) ggX2_worstLoop_X2_excess
def D_X2_worstLoop : Md := (yX2_worstLoop, cX2_worstLoop, 3, (some .int), wsX2_worstLoop, RX2, { frames := 2, cells := 0, slots := 0, locals := 42 })
theorem nm_X2_worstLoop : nmD D_X2_worstLoop 0 := ⟨rfl, by decide +kernel, by decide +kernel, by decide +kernel⟩
theorem hi_X2_worstLoop_X2 : ∀ w ∈ u_ws RX2 TX2 13, w ∈ wsX2_worstLoop := by decide +kernel
theorem hl_X2_worstLoop_47 : Cond.fieldLink RX2 47 "LevelLoops$Loops" "size" "I" ∈ wsX2_worstLoop := by decide +kernel
def wp_X2_worstLoop_J29 (n : Nat) (x2 : Int32) (w : Wd) (Q : Int32 → Prop) (K4 : Int32 → Int32 → Prop) : Prop :=
  K4 x2 (x2 + 1)
def wp_X2_worstLoop_B4 (n : Nat) (x1 : Int32) (x2 : Int32) (w : Wd) (Q : Int32 → Prop) (K4 : Int32 → Int32 → Prop) : Prop :=
  (((wi w n 12 0) ≤ x2 → Q x1) ∧ (¬ (wi w n 12 0) ≤ x2 → ((x1 < 0 → wp_X2_worstLoop_J29 n x2 w Q K4) ∧ (¬ x1 < 0 → wp_X2_excess n x2 w (fun r18 => wp_X2_excess n x1 w (fun r23 => ((r18 ≤ r23 → K4 x1 (x2 + 1)) ∧ (¬ r18 ≤ r23 → wp_X2_worstLoop_J29 n x2 w Q K4))))))))
def wp_X2_worstLoop_L4 (n : Nat) (x1 : Int32) (x2 : Int32) (w : Wd) (Q : Int32 → Prop) : Prop :=
  ∃ (I : Int32 → Int32 → Prop) (μ : Int32 → Int32 → Nat), I x1 x2 ∧ ∀ (x1 : Int32) (x2 : Int32), I x1 x2 → wp_X2_worstLoop_B4 n x1 x2 w Q (fun x1' x2' => I x1' x2' ∧ μ x1' x2' < μ x1 x2)
def wp_X2_worstLoop (n : Nat) (w : Wd) (Q : Int32 → Prop) : Prop :=
  wp_X2_worstLoop_L4 n (-1 : Int32) (0 : Int32) w Q
theorem ok_X2_worstLoop_J29 {G : Gt} {M : Mx} {Qf : State → Prop} {n : Nat} {x2 : Int32} {w : Wd} {Q : Int32 → Prop} {K4 : Int32 → Int32 → Prop} (hC : cx G D_X2_worstLoop M) (he : en G M (qip w Q) Qf) (hn : n < 2) (h : wp_X2_worstLoop_J29 n x2 w Q K4) (hK4 : ∀ (x1 : Int32) (x2 : Int32), K4 x1 x2 → jq G D_X2_worstLoop M Qf 4 [(0, .ref (aD G n 12)), (1, .int x1), (2, .int x2)] [] w) : jq G D_X2_worstLoop M Qf 29 [(0, .ref (aD G n 12)), (2, .int x2)] [] w := by
  unfold wp_X2_worstLoop_J29 at h
  refine jq_iload_n (k0 := 1) dX2_worstLoop_29 hC rfl rfl ?_
  refine jq_istore_n (L' := [(1, .int x2), (0, .ref (aD G n 12)), (2, .int x2)]) dX2_worstLoop_30 hC rfl (by decide) rfl ?_
  refine jq_iinc (k0 := 2) (v := (x2 + 1)) (L' := [(2, .int (x2 + 1)), (1, .int x2), (0, .ref (aD G n 12))]) dX2_worstLoop_31 hC rfl rfl (by decide) rfl ?_
  refine jq_goto (tgt := 4) dX2_worstLoop_34 hC (by decide) ?_
  exact jq_less (L' := [(0, .ref (aD G n 12)), (1, .int x2), (2, .int (x2 + 1))]) [2, 1, 0] rfl (hK4 _ _ h)
theorem ok_X2_worstLoop_B4 {G : Gt} {M : Mx} {Qf : State → Prop} {n : Nat} {x1 : Int32} {x2 : Int32} {w : Wd} {Q : Int32 → Prop} {K4 : Int32 → Int32 → Prop} (hC : cx G D_X2_worstLoop M) (he : en G M (qip w Q) Qf) (hn : n < 2) (h : wp_X2_worstLoop_B4 n x1 x2 w Q K4) (hK4 : ∀ (x1 : Int32) (x2 : Int32), K4 x1 x2 → jq G D_X2_worstLoop M Qf 4 [(0, .ref (aD G n 12)), (1, .int x1), (2, .int x2)] [] w) : jq G D_X2_worstLoop M Qf 4 [(0, .ref (aD G n 12)), (1, .int x1), (2, .int x2)] [] w := by
  unfold wp_X2_worstLoop_B4 at h
  refine jq_iload_n (k0 := 2) dX2_worstLoop_4 hC rfl rfl ?_
  refine jq_aload_n (k0 := 0) dX2_worstLoop_5 hC rfl rfl ?_
  refine jq_get (k0 := 0) (n := n) (o := 12) dX2_worstLoop_6 hC (cl_T (by omega) (by decide)) rfl rfl hi_X2_worstLoop_X2 (by decide) hl_X2_worstLoop_47 rfl rfl ?_
  refine jq_icmp_ge (tgt := 37) dX2_worstLoop_9 hC (by decide) (fun c9 => ?_) (fun c9 => ?_)
  · have h := h.1 c9
    refine jq_iload_n (k0 := 1) dX2_worstLoop_37 hC rfl rfl ?_
    exact jq_iret dX2_worstLoop_38 hC he rfl ⟨_, rfl, rfl, h⟩
  · have h := h.2 c9
    refine jq_iload_n (k0 := 1) dX2_worstLoop_12 hC rfl rfl ?_
    refine jq_if_lt (tgt := 29) dX2_worstLoop_13 hC (by decide) (fun c13 => ?_) (fun c13 => ?_)
    · have h := h.1 c13
      refine jq_less (L' := [(0, .ref (aD G n 12)), (2, .int x2)]) [0, 2] rfl ?_
      exact ok_X2_worstLoop_J29 hC he hn h hK4
    · have h := h.2 c13
      refine jq_aload_n (k0 := 0) dX2_worstLoop_16 hC rfl rfl ?_
      refine jq_iload_n (k0 := 2) dX2_worstLoop_17 hC rfl rfl ?_
      refine jq_callV (As := [.int x2]) (rest := []) (n := n) (o := 12) (D' := D_X2_excess) dX2_worstLoop_18 hC (cl_T (by omega) (by decide)) rfl rfl rfl (mt_X2_excess (by omega) h) gX2_worstLoop_X2_excess rfl ⟨rfl, rfl, Nat.le_of_ble_eq_true rfl, Nat.le_of_ble_eq_true rfl⟩ nm_X2_excess rfl (Nat.le_of_ble_eq_true rfl) (kIp fun r18 h => ?_)
      refine jq_aload_n (k0 := 0) dX2_worstLoop_21 hC rfl rfl ?_
      refine jq_iload_n (k0 := 1) dX2_worstLoop_22 hC rfl rfl ?_
      refine jq_callV (As := [.int x1]) (rest := [.int r18]) (n := n) (o := 12) (D' := D_X2_excess) dX2_worstLoop_23 hC (cl_T (by omega) (by decide)) rfl rfl rfl (mt_X2_excess (by omega) h) gX2_worstLoop_X2_excess rfl ⟨rfl, rfl, Nat.le_of_ble_eq_true rfl, Nat.le_of_ble_eq_true rfl⟩ nm_X2_excess rfl (Nat.le_of_ble_eq_true rfl) (kIp fun r23 h => ?_)
      refine jq_icmp_le (tgt := 31) dX2_worstLoop_26 hC (by decide) (fun c26 => ?_) (fun c26 => ?_)
      · have h := h.1 c26
        refine jq_iinc (k0 := 2) (v := (x2 + 1)) (L' := [(2, .int (x2 + 1)), (0, .ref (aD G n 12)), (1, .int x1)]) dX2_worstLoop_31 hC rfl rfl (by decide) rfl ?_
        refine jq_goto (tgt := 4) dX2_worstLoop_34 hC (by decide) ?_
        exact jq_less (L' := [(0, .ref (aD G n 12)), (1, .int x1), (2, .int (x2 + 1))]) [1, 2, 0] rfl (hK4 _ _ h)
      · have h := h.2 c26
        refine jq_less (L' := [(0, .ref (aD G n 12)), (2, .int x2)]) [0, 2] rfl ?_
        exact ok_X2_worstLoop_J29 hC he hn h hK4
theorem ok_X2_worstLoop_L4 {G : Gt} {M : Mx} {Qf : State → Prop} {n : Nat} {x1 : Int32} {x2 : Int32} {w : Wd} {Q : Int32 → Prop} (hC : cx G D_X2_worstLoop M) (he : en G M (qip w Q) Qf) (hn : n < 2) (h : wp_X2_worstLoop_L4 n x1 x2 w Q) : jq G D_X2_worstLoop M Qf 4 [(0, .ref (aD G n 12)), (1, .int x1), (2, .int x2)] [] w := by
  unfold wp_X2_worstLoop_L4 at h
  obtain ⟨I, μ, h0, hs⟩ := h
  exact lp_ind (σ := Int32 × Int32) (P := fun s => jq G D_X2_worstLoop M Qf 4 [(0, .ref (aD G n 12)), (1, .int s.1), (2, .int s.2)] [] w) (fun s => I s.1 s.2) (fun s => μ s.1 s.2) (fun s h1 ih => ok_X2_worstLoop_B4 hC he hn (hs s.1 s.2 h1) (fun x1' x2' h => ih (x1', x2') h.1 h.2)) (x1, x2) h0
theorem ok_X2_worstLoop {G : Gt} {M : Mx} {Qf : State → Prop} {n : Nat} {w : Wd} {Q : Int32 → Prop} (hC : cx G D_X2_worstLoop M) (he : en G M (qip w Q) Qf) (hn : n < 2) (h : wp_X2_worstLoop n w Q) : jq G D_X2_worstLoop M Qf 0 [(0, .ref (aD G n 12))] [] w := by
  unfold wp_X2_worstLoop at h
  refine jq_iconst (v := (-1 : Int32)) dX2_worstLoop_0 hC (by decide) ?_
  refine jq_istore_n (L' := [(1, .int (-1 : Int32)), (0, .ref (aD G n 12))]) dX2_worstLoop_1 hC rfl (by decide) rfl ?_
  refine jq_iconst (v := (0 : Int32)) dX2_worstLoop_2 hC (by decide) ?_
  refine jq_istore_n (L' := [(2, .int (0 : Int32)), (1, .int (-1 : Int32)), (0, .ref (aD G n 12))]) dX2_worstLoop_3 hC rfl (by decide) rfl ?_
  refine jq_less (L' := [(0, .ref (aD G n 12)), (1, .int (-1 : Int32)), (2, .int (0 : Int32))]) [2, 1, 0] rfl ?_
  exact ok_X2_worstLoop_L4 hC he hn h
theorem mt_X2_worstLoop {G : Gt} {n : Nat} {w : Wd} {Q : Int32 → Prop} (hn : n < 2) (h : wp_X2_worstLoop n w Q) : Mt G D_X2_worstLoop [.ref (aD G n 12)] w (qip w Q) := Mt_of (by decide +kernel) rfl rfl (Nat.le_of_ble_eq_true rfl) (fun M Qf hC he => ok_X2_worstLoop hC he hn h)
/-! X2.isMoreSuspect(II)Z -/
theorem dX2_isMoreSuspect_0 : decode cX2_isMoreSuspect 0 = .ok (.aload_n 0, 1) := by decide +kernel
theorem dX2_isMoreSuspect_1 : decode cX2_isMoreSuspect 1 = .ok (.iload_n 1, 1) := by decide +kernel
theorem dX2_isMoreSuspect_2 : decode cX2_isMoreSuspect 2 = .ok (.invokevirtual 136, 3) := by decide +kernel
theorem dX2_isMoreSuspect_5 : decode cX2_isMoreSuspect 5 = .ok (.istore_n 3, 1) := by decide +kernel
theorem dX2_isMoreSuspect_6 : decode cX2_isMoreSuspect 6 = .ok (.aload_n 0, 1) := by decide +kernel
theorem dX2_isMoreSuspect_7 : decode cX2_isMoreSuspect 7 = .ok (.iload_n 2, 1) := by decide +kernel
theorem dX2_isMoreSuspect_8 : decode cX2_isMoreSuspect 8 = .ok (.invokevirtual 136, 3) := by decide +kernel
theorem dX2_isMoreSuspect_11 : decode cX2_isMoreSuspect 11 = .ok (.istore 4, 2) := by decide +kernel
theorem dX2_isMoreSuspect_13 : decode cX2_isMoreSuspect 13 = .ok (.iload_n 3, 1) := by decide +kernel
theorem dX2_isMoreSuspect_14 : decode cX2_isMoreSuspect 14 = .ok (.iload 4, 2) := by decide +kernel
theorem dX2_isMoreSuspect_16 : decode cX2_isMoreSuspect 16 = .ok (.if_icmp .lt 30, 3) := by decide +kernel
theorem dX2_isMoreSuspect_19 : decode cX2_isMoreSuspect 19 = .ok (.iload_n 3, 1) := by decide +kernel
theorem dX2_isMoreSuspect_20 : decode cX2_isMoreSuspect 20 = .ok (.iload 4, 2) := by decide +kernel
theorem dX2_isMoreSuspect_22 : decode cX2_isMoreSuspect 22 = .ok (.if_icmp .ne 28, 3) := by decide +kernel
theorem dX2_isMoreSuspect_25 : decode cX2_isMoreSuspect 25 = .ok (.aload_n 0, 1) := by decide +kernel
theorem dX2_isMoreSuspect_26 : decode cX2_isMoreSuspect 26 = .ok (.getfield 39, 3) := by decide +kernel
theorem dX2_isMoreSuspect_29 : decode cX2_isMoreSuspect 29 = .ok (.getfield 111, 3) := by decide +kernel
theorem dX2_isMoreSuspect_32 : decode cX2_isMoreSuspect 32 = .ok (.iload_n 1, 1) := by decide +kernel
theorem dX2_isMoreSuspect_33 : decode cX2_isMoreSuspect 33 = .ok (.iaload, 1) := by decide +kernel
theorem dX2_isMoreSuspect_34 : decode cX2_isMoreSuspect 34 = .ok (.aload_n 0, 1) := by decide +kernel
theorem dX2_isMoreSuspect_35 : decode cX2_isMoreSuspect 35 = .ok (.getfield 39, 3) := by decide +kernel
theorem dX2_isMoreSuspect_38 : decode cX2_isMoreSuspect 38 = .ok (.getfield 111, 3) := by decide +kernel
theorem dX2_isMoreSuspect_41 : decode cX2_isMoreSuspect 41 = .ok (.iload_n 2, 1) := by decide +kernel
theorem dX2_isMoreSuspect_42 : decode cX2_isMoreSuspect 42 = .ok (.iaload, 1) := by decide +kernel
theorem dX2_isMoreSuspect_43 : decode cX2_isMoreSuspect 43 = .ok (.if_icmp .le 7, 3) := by decide +kernel
theorem dX2_isMoreSuspect_46 : decode cX2_isMoreSuspect 46 = .ok (.iconst 1, 1) := by decide +kernel
theorem dX2_isMoreSuspect_47 : decode cX2_isMoreSuspect 47 = .ok (.goto 4, 3) := by decide +kernel
theorem dX2_isMoreSuspect_50 : decode cX2_isMoreSuspect 50 = .ok (.iconst 0, 1) := by decide +kernel
theorem dX2_isMoreSuspect_51 : decode cX2_isMoreSuspect 51 = .ok (.ireturn, 1) := by decide +kernel
set_option maxRecDepth 20000 in
theorem ggX2_isMoreSuspect_X2_howManyWith : GoodIn wsX2_isMoreSuspect wsX2_howManyWith := goodIn_r _ [7, 8, 9, 10, 11, 12, 13, 14, 15, 16, 17, 18, 19, 20, 21, 22, 23, 24, 25] (by decide +kernel) (by decide +kernel)
set_option maxRecDepth 20000 in
theorem gX2_isMoreSuspect_X2_howManyWith : GoodIn wsX2_isMoreSuspect (wsV RX2 136 RX2 yX2_howManyWith wsX2_howManyWith) := goodIn_app (goodIn_of _ (by decide +kernel)) ggX2_isMoreSuspect_X2_howManyWith
def D_X2_isMoreSuspect : Md := (yX2_isMoreSuspect, cX2_isMoreSuspect, 5, (some .boolean), wsX2_isMoreSuspect, RX2, { frames := 2, cells := 0, slots := 0, locals := 44 })
theorem nm_X2_isMoreSuspect : nmD D_X2_isMoreSuspect 2 := ⟨rfl, by decide +kernel, by decide +kernel, by decide +kernel⟩
theorem hi_X2_isMoreSuspect_X2 : ∀ w ∈ u_ws RX2 TX2 13, w ∈ wsX2_isMoreSuspect := by decide +kernel
theorem hi_X2_isMoreSuspect_X5 : ∀ w ∈ u_ws RX5 TX5 8, w ∈ wsX2_isMoreSuspect := by decide +kernel
theorem hl_X2_isMoreSuspect_39 : Cond.fieldLink RX2 39 "LevelLoops$Loops" "survey" "LLevelLoops$Survey;" ∈ wsX2_isMoreSuspect := by decide +kernel
theorem hl_X2_isMoreSuspect_111 : Cond.fieldLink RX2 111 "LevelLoops$Survey" "length" "[I" ∈ wsX2_isMoreSuspect := by decide +kernel
def wp_X2_isMoreSuspect_J50 (n : Nat) (w : Wd) (Q : Int32 → Prop) : Prop :=
  zb (0 : Int32) ∧ Q (0 : Int32)
def wp_X2_isMoreSuspect (n : Nat) (x1 : Int32) (x2 : Int32) (w : Wd) (Q : Int32 → Prop) : Prop :=
  wp_X2_howManyWith n x1 w (fun r2 => wp_X2_howManyWith n x2 w (fun r8 => ((r2 < r8 → zb (1 : Int32) ∧ Q (1 : Int32)) ∧ (¬ r2 < r8 → ((¬ r2 = r8 → wp_X2_isMoreSuspect_J50 n w Q) ∧ (r2 = r8 → vp_in x1 20 ∧ vp_in x2 20 ∧ (((wi w n 5 x1.toNatClampNeg) ≤ (wi w n 5 x2.toNatClampNeg) → wp_X2_isMoreSuspect_J50 n w Q) ∧ (¬ (wi w n 5 x1.toNatClampNeg) ≤ (wi w n 5 x2.toNatClampNeg) → zb (1 : Int32) ∧ Q (1 : Int32)))))))))
theorem ok_X2_isMoreSuspect_J50 {G : Gt} {M : Mx} {Qf : State → Prop} {n : Nat} {w : Wd} {Q : Int32 → Prop} (hC : cx G D_X2_isMoreSuspect M) (he : en G M (qip w Q) Qf) (hn : n < 2) (h : wp_X2_isMoreSuspect_J50 n w Q) : jq G D_X2_isMoreSuspect M Qf 50 [] [] w := by
  unfold wp_X2_isMoreSuspect_J50 at h
  refine jq_iconst (v := (0 : Int32)) dX2_isMoreSuspect_50 hC (by decide) ?_
  obtain ⟨bz, h⟩ := h
  exact jq_zret dX2_isMoreSuspect_51 hC he rfl bz ⟨_, rfl, rfl, h⟩
theorem ok_X2_isMoreSuspect {G : Gt} {M : Mx} {Qf : State → Prop} {n : Nat} {x1 : Int32} {x2 : Int32} {w : Wd} {Q : Int32 → Prop} (hC : cx G D_X2_isMoreSuspect M) (he : en G M (qip w Q) Qf) (hn : n < 2) (h : wp_X2_isMoreSuspect n x1 x2 w Q) : jq G D_X2_isMoreSuspect M Qf 0 [(0, .ref (aD G n 12)), (1, .int x1), (2, .int x2)] [] w := by
  unfold wp_X2_isMoreSuspect at h
  refine jq_aload_n (k0 := 0) dX2_isMoreSuspect_0 hC rfl rfl ?_
  refine jq_iload_n (k0 := 1) dX2_isMoreSuspect_1 hC rfl rfl ?_
  refine jq_callV (As := [.int x1]) (rest := []) (n := n) (o := 12) (D' := D_X2_howManyWith) dX2_isMoreSuspect_2 hC (cl_T (by omega) (by decide)) rfl rfl rfl (mt_X2_howManyWith (by omega) h) gX2_isMoreSuspect_X2_howManyWith rfl ⟨rfl, rfl, Nat.le_of_ble_eq_true rfl, Nat.le_of_ble_eq_true rfl⟩ nm_X2_howManyWith rfl (Nat.le_of_ble_eq_true rfl) (kIp fun r2 h => ?_)
  refine jq_istore_n (L' := [(3, .int r2), (0, .ref (aD G n 12)), (1, .int x1), (2, .int x2)]) dX2_isMoreSuspect_5 hC rfl (by decide) rfl ?_
  refine jq_aload_n (k0 := 1) dX2_isMoreSuspect_6 hC rfl rfl ?_
  refine jq_iload_n (k0 := 3) dX2_isMoreSuspect_7 hC rfl rfl ?_
  refine jq_callV (As := [.int x2]) (rest := []) (n := n) (o := 12) (D' := D_X2_howManyWith) dX2_isMoreSuspect_8 hC (cl_T (by omega) (by decide)) rfl rfl rfl (mt_X2_howManyWith (by omega) h) gX2_isMoreSuspect_X2_howManyWith rfl ⟨rfl, rfl, Nat.le_of_ble_eq_true rfl, Nat.le_of_ble_eq_true rfl⟩ nm_X2_howManyWith rfl (Nat.le_of_ble_eq_true rfl) (kIp fun r8 h => ?_)
  refine jq_istore (L' := [(4, .int r8), (3, .int r2), (0, .ref (aD G n 12)), (1, .int x1), (2, .int x2)]) dX2_isMoreSuspect_11 hC (by decide) rfl ?_
  refine jq_iload_n (k0 := 1) dX2_isMoreSuspect_13 hC rfl rfl ?_
  refine jq_iload (k0 := 0) dX2_isMoreSuspect_14 hC rfl ?_
  refine jq_icmp_lt (tgt := 46) dX2_isMoreSuspect_16 hC (by decide) (fun c16 => ?_) (fun c16 => ?_)
  · have h := h.1 c16
    refine jq_iconst (v := (1 : Int32)) dX2_isMoreSuspect_46 hC (by decide) ?_
    refine jq_goto (tgt := 51) dX2_isMoreSuspect_47 hC (by decide) ?_
    obtain ⟨bz, h⟩ := h
    exact jq_zret dX2_isMoreSuspect_51 hC he rfl bz ⟨_, rfl, rfl, h⟩
  · have h := h.2 c16
    refine jq_iload_n (k0 := 1) dX2_isMoreSuspect_19 hC rfl rfl ?_
    refine jq_iload (k0 := 0) dX2_isMoreSuspect_20 hC rfl ?_
    refine jq_icmp_ne (tgt := 50) dX2_isMoreSuspect_22 hC (by decide) (fun c22 => ?_) (fun c22 => ?_)
    · have h := h.1 c22
      refine jq_less (L' := []) [] rfl ?_
      exact ok_X2_isMoreSuspect_J50 hC he hn h
    · have h := h.2 c22
      refine jq_aload_n (k0 := 2) dX2_isMoreSuspect_25 hC rfl rfl ?_
      refine jq_get (k0 := 2) (n := n) (o := 12) dX2_isMoreSuspect_26 hC (cl_T (by omega) (by decide)) rfl rfl hi_X2_isMoreSuspect_X2 (by decide) hl_X2_isMoreSuspect_39 rfl rfl ?_
      refine jq_get (k0 := 6) (n := n) (o := 0) dX2_isMoreSuspect_29 hC (cl_S (by omega) (by decide)) rfl rfl hi_X2_isMoreSuspect_X5 (by decide) hl_X2_isMoreSuspect_111 rfl rfl ?_
      refine jq_iload_n (k0 := 3) dX2_isMoreSuspect_32 hC rfl rfl ?_
      obtain ⟨b33, h⟩ := h
      refine jq_iald (n := n) (o := 5) (j := x1.toNatClampNeg) dX2_isMoreSuspect_33 hC (cl_S (by omega) (by decide)) rfl b33 rfl ?_
      refine jq_aload_n (k0 := 2) dX2_isMoreSuspect_34 hC rfl rfl ?_
      refine jq_get (k0 := 2) (n := n) (o := 12) dX2_isMoreSuspect_35 hC (cl_T (by omega) (by decide)) rfl rfl hi_X2_isMoreSuspect_X2 (by decide) hl_X2_isMoreSuspect_39 rfl rfl ?_
      refine jq_get (k0 := 6) (n := n) (o := 0) dX2_isMoreSuspect_38 hC (cl_S (by omega) (by decide)) rfl rfl hi_X2_isMoreSuspect_X5 (by decide) hl_X2_isMoreSuspect_111 rfl rfl ?_
      refine jq_iload_n (k0 := 4) dX2_isMoreSuspect_41 hC rfl rfl ?_
      obtain ⟨b42, h⟩ := h
      refine jq_iald (n := n) (o := 5) (j := x2.toNatClampNeg) dX2_isMoreSuspect_42 hC (cl_S (by omega) (by decide)) rfl b42 rfl ?_
      refine jq_icmp_le (tgt := 50) dX2_isMoreSuspect_43 hC (by decide) (fun c43 => ?_) (fun c43 => ?_)
      · have h := h.1 c43
        refine jq_less (L' := []) [] rfl ?_
        exact ok_X2_isMoreSuspect_J50 hC he hn h
      · have h := h.2 c43
        refine jq_iconst (v := (1 : Int32)) dX2_isMoreSuspect_46 hC (by decide) ?_
        refine jq_goto (tgt := 51) dX2_isMoreSuspect_47 hC (by decide) ?_
        obtain ⟨bz, h⟩ := h
        exact jq_zret dX2_isMoreSuspect_51 hC he rfl bz ⟨_, rfl, rfl, h⟩
theorem mt_X2_isMoreSuspect {G : Gt} {n : Nat} {x1 : Int32} {x2 : Int32} {w : Wd} {Q : Int32 → Prop} (hn : n < 2) (h : wp_X2_isMoreSuspect n x1 x2 w Q) : Mt G D_X2_isMoreSuspect [.ref (aD G n 12), .int x1, .int x2] w (qip w Q) := Mt_of (by decide +kernel) rfl rfl (Nat.le_of_ble_eq_true rfl) (fun M Qf hC he => ok_X2_isMoreSuspect hC he hn h)
/-! X2.suspectLeg()I -/
theorem dX2_suspectLeg_0 : decode cX2_suspectLeg 0 = .ok (.iconst (-1), 1) := by decide +kernel
theorem dX2_suspectLeg_1 : decode cX2_suspectLeg 1 = .ok (.istore_n 1, 1) := by decide +kernel
theorem dX2_suspectLeg_2 : decode cX2_suspectLeg 2 = .ok (.iconst 0, 1) := by decide +kernel
theorem dX2_suspectLeg_3 : decode cX2_suspectLeg 3 = .ok (.istore_n 2, 1) := by decide +kernel
theorem dX2_suspectLeg_4 : decode cX2_suspectLeg 4 = .ok (.iload_n 2, 1) := by decide +kernel
theorem dX2_suspectLeg_5 : decode cX2_suspectLeg 5 = .ok (.aload_n 0, 1) := by decide +kernel
theorem dX2_suspectLeg_6 : decode cX2_suspectLeg 6 = .ok (.getfield 39, 3) := by decide +kernel
theorem dX2_suspectLeg_9 : decode cX2_suspectLeg 9 = .ok (.getfield 54, 3) := by decide +kernel
theorem dX2_suspectLeg_12 : decode cX2_suspectLeg 12 = .ok (.if_icmp .ge 43, 3) := by decide +kernel
theorem dX2_suspectLeg_15 : decode cX2_suspectLeg 15 = .ok (.aload_n 0, 1) := by decide +kernel
theorem dX2_suspectLeg_16 : decode cX2_suspectLeg 16 = .ok (.getfield 51, 3) := by decide +kernel
theorem dX2_suspectLeg_19 : decode cX2_suspectLeg 19 = .ok (.ifCond .eq 30, 3) := by decide +kernel
theorem dX2_suspectLeg_22 : decode cX2_suspectLeg 22 = .ok (.aload_n 0, 1) := by decide +kernel
theorem dX2_suspectLeg_23 : decode cX2_suspectLeg 23 = .ok (.iload_n 2, 1) := by decide +kernel
theorem dX2_suspectLeg_24 : decode cX2_suspectLeg 24 = .ok (.invokevirtual 126, 3) := by decide +kernel
theorem dX2_suspectLeg_27 : decode cX2_suspectLeg 27 = .ok (.aload_n 0, 1) := by decide +kernel
theorem dX2_suspectLeg_28 : decode cX2_suspectLeg 28 = .ok (.invokevirtual 129, 3) := by decide +kernel
theorem dX2_suspectLeg_31 : decode cX2_suspectLeg 31 = .ok (.if_icmp .ne 18, 3) := by decide +kernel
theorem dX2_suspectLeg_34 : decode cX2_suspectLeg 34 = .ok (.iload_n 1, 1) := by decide +kernel
theorem dX2_suspectLeg_35 : decode cX2_suspectLeg 35 = .ok (.ifCond .lt 12, 3) := by decide +kernel
theorem dX2_suspectLeg_38 : decode cX2_suspectLeg 38 = .ok (.aload_n 0, 1) := by decide +kernel
theorem dX2_suspectLeg_39 : decode cX2_suspectLeg 39 = .ok (.iload_n 2, 1) := by decide +kernel
theorem dX2_suspectLeg_40 : decode cX2_suspectLeg 40 = .ok (.iload_n 1, 1) := by decide +kernel
theorem dX2_suspectLeg_41 : decode cX2_suspectLeg 41 = .ok (.invokevirtual 133, 3) := by decide +kernel
theorem dX2_suspectLeg_44 : decode cX2_suspectLeg 44 = .ok (.ifCond .eq 5, 3) := by decide +kernel
theorem dX2_suspectLeg_47 : decode cX2_suspectLeg 47 = .ok (.iload_n 2, 1) := by decide +kernel
theorem dX2_suspectLeg_48 : decode cX2_suspectLeg 48 = .ok (.istore_n 1, 1) := by decide +kernel
theorem dX2_suspectLeg_49 : decode cX2_suspectLeg 49 = .ok (.iinc 2 1, 3) := by decide +kernel
theorem dX2_suspectLeg_52 : decode cX2_suspectLeg 52 = .ok (.goto (-48), 3) := by decide +kernel
theorem dX2_suspectLeg_55 : decode cX2_suspectLeg 55 = .ok (.iload_n 1, 1) := by decide +kernel
theorem dX2_suspectLeg_56 : decode cX2_suspectLeg 56 = .ok (.ireturn, 1) := by decide +kernel
set_option maxRecDepth 20000 in
theorem ggX2_suspectLeg_X2_isMoreSuspect : GoodIn wsX2_suspectLeg wsX2_isMoreSuspect := goodIn_r _ [28, 1, 29, 30, 31, 32, 7, 33, 9, 10, 11, 12, 13, 34, 35, 36, 37, 38, 39, 40, 41, 42, 43, 44, 45, 46, 47, 48, 49, 50, 51, 52, 53, 54] (by decide +kernel) (by decide +kernel)
set_option maxRecDepth 20000 in
theorem gX2_suspectLeg_X2_isMoreSuspect : GoodIn wsX2_suspectLeg (wsV RX2 133 RX2 yX2_isMoreSuspect wsX2_isMoreSuspect) := goodIn_app (goodIn_of _ (by decide +kernel)) ggX2_suspectLeg_X2_isMoreSuspect
set_option maxRecDepth 20000 in
theorem ggX2_suspectLeg_X2_howManyBad : GoodIn wsX2_suspectLeg wsX2_howManyBad := goodIn_r _ [17, 3, 18, 19, 20, 21, 22, 23, 24, 34, 35, 36, 37, 38, 39, 40, 41, 42, 43, 44, 45, 46] (by decide +kernel) (by decide +kernel)
set_option maxRecDepth 20000 in
theorem gX2_suspectLeg_X2_howManyBad : GoodIn wsX2_suspectLeg (wsV RX2 129 RX2 yX2_howManyBad wsX2_howManyBad) := goodIn_app (goodIn_of _ (by decide +kernel)) ggX2_suspectLeg_X2_howManyBad
set_option maxRecDepth 20000 in
theorem ggX2_suspectLeg_X2_howManyBadWith : GoodIn wsX2_suspectLeg wsX2_howManyBadWith := goodIn_r _ [8, 9, 3, 10, 11, 12, 13, 34, 35, 36, 37, 38, 39, 40, 41, 42, 43, 44, 45, 46] (by decide +kernel) (by decide +kernel)
set_option maxRecDepth 20000 in
theorem gX2_suspectLeg_X2_howManyBadWith : GoodIn wsX2_suspectLeg (wsV RX2 126 RX2 yX2_howManyBadWith wsX2_howManyBadWith) := goodIn_app (goodIn_of _ (by decide +kernel)) ggX2_suspectLeg_X2_howManyBadWith
def D_X2_suspectLeg : Md := (yX2_suspectLeg, cX2_suspectLeg, 3, (some .int), wsX2_suspectLeg, RX2, { frames := 3, cells := 0, slots := 0, locals := 68 })
theorem nm_X2_suspectLeg : nmD D_X2_suspectLeg 0 := ⟨rfl, by decide +kernel, by decide +kernel, by decide +kernel⟩
theorem hi_X2_suspectLeg_X2 : ∀ w ∈ u_ws RX2 TX2 13, w ∈ wsX2_suspectLeg := by decide +kernel
theorem hi_X2_suspectLeg_X5 : ∀ w ∈ u_ws RX5 TX5 8, w ∈ wsX2_suspectLeg := by decide +kernel
theorem hl_X2_suspectLeg_39 : Cond.fieldLink RX2 39 "LevelLoops$Loops" "survey" "LLevelLoops$Survey;" ∈ wsX2_suspectLeg := by decide +kernel
theorem hl_X2_suspectLeg_51 : Cond.fieldLink RX2 51 "LevelLoops$Loops" "bad" "I" ∈ wsX2_suspectLeg := by decide +kernel
theorem hl_X2_suspectLeg_54 : Cond.fieldLink RX2 54 "LevelLoops$Survey" "legs" "I" ∈ wsX2_suspectLeg := by decide +kernel
def wp_X2_suspectLeg_J47 (n : Nat) (x2 : Int32) (w : Wd) (Q : Int32 → Prop) (K4 : Int32 → Int32 → Prop) : Prop :=
  K4 x2 (x2 + 1)
def wp_X2_suspectLeg_B4 (n : Nat) (x1 : Int32) (x2 : Int32) (w : Wd) (Q : Int32 → Prop) (K4 : Int32 → Int32 → Prop) : Prop :=
  (((wi w n 0 1) ≤ x2 → Q x1) ∧ (¬ (wi w n 0 1) ≤ x2 → (((wi w n 12 4) = 0 → K4 x1 (x2 + 1)) ∧ (¬ (wi w n 12 4) = 0 → wp_X2_howManyBadWith n x2 w (fun r24 => wp_X2_howManyBad n w (fun r28 => ((¬ r24 = r28 → K4 x1 (x2 + 1)) ∧ (r24 = r28 → ((x1 < 0 → wp_X2_suspectLeg_J47 n x2 w Q K4) ∧ (¬ x1 < 0 → wp_X2_isMoreSuspect n x2 x1 w (fun r41 => ((r41 = 0 → K4 x1 (x2 + 1)) ∧ (¬ r41 = 0 → wp_X2_suspectLeg_J47 n x2 w Q K4)))))))))))))
def wp_X2_suspectLeg_L4 (n : Nat) (x1 : Int32) (x2 : Int32) (w : Wd) (Q : Int32 → Prop) : Prop :=
  ∃ (I : Int32 → Int32 → Prop) (μ : Int32 → Int32 → Nat), I x1 x2 ∧ ∀ (x1 : Int32) (x2 : Int32), I x1 x2 → wp_X2_suspectLeg_B4 n x1 x2 w Q (fun x1' x2' => I x1' x2' ∧ μ x1' x2' < μ x1 x2)
def wp_X2_suspectLeg (n : Nat) (w : Wd) (Q : Int32 → Prop) : Prop :=
  wp_X2_suspectLeg_L4 n (-1 : Int32) (0 : Int32) w Q
theorem ok_X2_suspectLeg_J47 {G : Gt} {M : Mx} {Qf : State → Prop} {n : Nat} {x2 : Int32} {w : Wd} {Q : Int32 → Prop} {K4 : Int32 → Int32 → Prop} (hC : cx G D_X2_suspectLeg M) (he : en G M (qip w Q) Qf) (hn : n < 2) (h : wp_X2_suspectLeg_J47 n x2 w Q K4) (hK4 : ∀ (x1 : Int32) (x2 : Int32), K4 x1 x2 → jq G D_X2_suspectLeg M Qf 4 [(0, .ref (aD G n 12)), (1, .int x1), (2, .int x2)] [] w) : jq G D_X2_suspectLeg M Qf 47 [(0, .ref (aD G n 12)), (2, .int x2)] [] w := by
  unfold wp_X2_suspectLeg_J47 at h
  refine jq_iload_n (k0 := 1) dX2_suspectLeg_47 hC rfl rfl ?_
  refine jq_istore_n (L' := [(1, .int x2), (0, .ref (aD G n 12)), (2, .int x2)]) dX2_suspectLeg_48 hC rfl (by decide) rfl ?_
  refine jq_iinc (k0 := 2) (v := (x2 + 1)) (L' := [(2, .int (x2 + 1)), (1, .int x2), (0, .ref (aD G n 12))]) dX2_suspectLeg_49 hC rfl rfl (by decide) rfl ?_
  refine jq_goto (tgt := 4) dX2_suspectLeg_52 hC (by decide) ?_
  exact jq_less (L' := [(0, .ref (aD G n 12)), (1, .int x2), (2, .int (x2 + 1))]) [2, 1, 0] rfl (hK4 _ _ h)
theorem ok_X2_suspectLeg_B4 {G : Gt} {M : Mx} {Qf : State → Prop} {n : Nat} {x1 : Int32} {x2 : Int32} {w : Wd} {Q : Int32 → Prop} {K4 : Int32 → Int32 → Prop} (hC : cx G D_X2_suspectLeg M) (he : en G M (qip w Q) Qf) (hn : n < 2) (h : wp_X2_suspectLeg_B4 n x1 x2 w Q K4) (hK4 : ∀ (x1 : Int32) (x2 : Int32), K4 x1 x2 → jq G D_X2_suspectLeg M Qf 4 [(0, .ref (aD G n 12)), (1, .int x1), (2, .int x2)] [] w) : jq G D_X2_suspectLeg M Qf 4 [(0, .ref (aD G n 12)), (1, .int x1), (2, .int x2)] [] w := by
  unfold wp_X2_suspectLeg_B4 at h
  refine jq_iload_n (k0 := 2) dX2_suspectLeg_4 hC rfl rfl ?_
  refine jq_aload_n (k0 := 0) dX2_suspectLeg_5 hC rfl rfl ?_
  refine jq_get (k0 := 2) (n := n) (o := 12) dX2_suspectLeg_6 hC (cl_T (by omega) (by decide)) rfl rfl hi_X2_suspectLeg_X2 (by decide) hl_X2_suspectLeg_39 rfl rfl ?_
  refine jq_get (k0 := 1) (n := n) (o := 0) dX2_suspectLeg_9 hC (cl_S (by omega) (by decide)) rfl rfl hi_X2_suspectLeg_X5 (by decide) hl_X2_suspectLeg_54 rfl rfl ?_
  refine jq_icmp_ge (tgt := 55) dX2_suspectLeg_12 hC (by decide) (fun c12 => ?_) (fun c12 => ?_)
  · have h := h.1 c12
    refine jq_iload_n (k0 := 1) dX2_suspectLeg_55 hC rfl rfl ?_
    exact jq_iret dX2_suspectLeg_56 hC he rfl ⟨_, rfl, rfl, h⟩
  · have h := h.2 c12
    refine jq_aload_n (k0 := 0) dX2_suspectLeg_15 hC rfl rfl ?_
    refine jq_get (k0 := 4) (n := n) (o := 12) dX2_suspectLeg_16 hC (cl_T (by omega) (by decide)) rfl rfl hi_X2_suspectLeg_X2 (by decide) hl_X2_suspectLeg_51 rfl rfl ?_
    refine jq_if_eq (tgt := 49) dX2_suspectLeg_19 hC (by decide) (fun c19 => ?_) (fun c19 => ?_)
    · have h := h.1 c19
      refine jq_iinc (k0 := 2) (v := (x2 + 1)) (L' := [(2, .int (x2 + 1)), (0, .ref (aD G n 12)), (1, .int x1)]) dX2_suspectLeg_49 hC rfl rfl (by decide) rfl ?_
      refine jq_goto (tgt := 4) dX2_suspectLeg_52 hC (by decide) ?_
      exact jq_less (L' := [(0, .ref (aD G n 12)), (1, .int x1), (2, .int (x2 + 1))]) [1, 2, 0] rfl (hK4 _ _ h)
    · have h := h.2 c19
      refine jq_aload_n (k0 := 0) dX2_suspectLeg_22 hC rfl rfl ?_
      refine jq_iload_n (k0 := 2) dX2_suspectLeg_23 hC rfl rfl ?_
      refine jq_callV (As := [.int x2]) (rest := []) (n := n) (o := 12) (D' := D_X2_howManyBadWith) dX2_suspectLeg_24 hC (cl_T (by omega) (by decide)) rfl rfl rfl (mt_X2_howManyBadWith (by omega) h) gX2_suspectLeg_X2_howManyBadWith rfl ⟨rfl, rfl, Nat.le_of_ble_eq_true rfl, Nat.le_of_ble_eq_true rfl⟩ nm_X2_howManyBadWith rfl (Nat.le_of_ble_eq_true rfl) (kIp fun r24 h => ?_)
      refine jq_aload_n (k0 := 0) dX2_suspectLeg_27 hC rfl rfl ?_
      refine jq_callV (As := []) (rest := [.int r24]) (n := n) (o := 12) (D' := D_X2_howManyBad) dX2_suspectLeg_28 hC (cl_T (by omega) (by decide)) rfl rfl rfl (mt_X2_howManyBad (by omega) h) gX2_suspectLeg_X2_howManyBad rfl ⟨rfl, rfl, Nat.le_of_ble_eq_true rfl, Nat.le_of_ble_eq_true rfl⟩ nm_X2_howManyBad rfl (Nat.le_of_ble_eq_true rfl) (kIp fun r28 h => ?_)
      refine jq_icmp_ne (tgt := 49) dX2_suspectLeg_31 hC (by decide) (fun c31 => ?_) (fun c31 => ?_)
      · have h := h.1 c31
        refine jq_iinc (k0 := 2) (v := (x2 + 1)) (L' := [(2, .int (x2 + 1)), (0, .ref (aD G n 12)), (1, .int x1)]) dX2_suspectLeg_49 hC rfl rfl (by decide) rfl ?_
        refine jq_goto (tgt := 4) dX2_suspectLeg_52 hC (by decide) ?_
        exact jq_less (L' := [(0, .ref (aD G n 12)), (1, .int x1), (2, .int (x2 + 1))]) [1, 2, 0] rfl (hK4 _ _ h)
      · have h := h.2 c31
        refine jq_iload_n (k0 := 1) dX2_suspectLeg_34 hC rfl rfl ?_
        refine jq_if_lt (tgt := 47) dX2_suspectLeg_35 hC (by decide) (fun c35 => ?_) (fun c35 => ?_)
        · have h := h.1 c35
          refine jq_less (L' := [(0, .ref (aD G n 12)), (2, .int x2)]) [0, 2] rfl ?_
          exact ok_X2_suspectLeg_J47 hC he hn h hK4
        · have h := h.2 c35
          refine jq_aload_n (k0 := 0) dX2_suspectLeg_38 hC rfl rfl ?_
          refine jq_iload_n (k0 := 2) dX2_suspectLeg_39 hC rfl rfl ?_
          refine jq_iload_n (k0 := 1) dX2_suspectLeg_40 hC rfl rfl ?_
          refine jq_callV (As := [.int x2, .int x1]) (rest := []) (n := n) (o := 12) (D' := D_X2_isMoreSuspect) dX2_suspectLeg_41 hC (cl_T (by omega) (by decide)) rfl rfl rfl (mt_X2_isMoreSuspect (by omega) h) gX2_suspectLeg_X2_isMoreSuspect rfl ⟨rfl, rfl, Nat.le_of_ble_eq_true rfl, Nat.le_of_ble_eq_true rfl⟩ nm_X2_isMoreSuspect rfl (Nat.le_of_ble_eq_true rfl) (kIp fun r41 h => ?_)
          refine jq_if_eq (tgt := 49) dX2_suspectLeg_44 hC (by decide) (fun c44 => ?_) (fun c44 => ?_)
          · have h := h.1 c44
            refine jq_iinc (k0 := 2) (v := (x2 + 1)) (L' := [(2, .int (x2 + 1)), (0, .ref (aD G n 12)), (1, .int x1)]) dX2_suspectLeg_49 hC rfl rfl (by decide) rfl ?_
            refine jq_goto (tgt := 4) dX2_suspectLeg_52 hC (by decide) ?_
            exact jq_less (L' := [(0, .ref (aD G n 12)), (1, .int x1), (2, .int (x2 + 1))]) [1, 2, 0] rfl (hK4 _ _ h)
          · have h := h.2 c44
            refine jq_less (L' := [(0, .ref (aD G n 12)), (2, .int x2)]) [0, 2] rfl ?_
            exact ok_X2_suspectLeg_J47 hC he hn h hK4
theorem ok_X2_suspectLeg_L4 {G : Gt} {M : Mx} {Qf : State → Prop} {n : Nat} {x1 : Int32} {x2 : Int32} {w : Wd} {Q : Int32 → Prop} (hC : cx G D_X2_suspectLeg M) (he : en G M (qip w Q) Qf) (hn : n < 2) (h : wp_X2_suspectLeg_L4 n x1 x2 w Q) : jq G D_X2_suspectLeg M Qf 4 [(0, .ref (aD G n 12)), (1, .int x1), (2, .int x2)] [] w := by
  unfold wp_X2_suspectLeg_L4 at h
  obtain ⟨I, μ, h0, hs⟩ := h
  exact lp_ind (σ := Int32 × Int32) (P := fun s => jq G D_X2_suspectLeg M Qf 4 [(0, .ref (aD G n 12)), (1, .int s.1), (2, .int s.2)] [] w) (fun s => I s.1 s.2) (fun s => μ s.1 s.2) (fun s h1 ih => ok_X2_suspectLeg_B4 hC he hn (hs s.1 s.2 h1) (fun x1' x2' h => ih (x1', x2') h.1 h.2)) (x1, x2) h0
theorem ok_X2_suspectLeg {G : Gt} {M : Mx} {Qf : State → Prop} {n : Nat} {w : Wd} {Q : Int32 → Prop} (hC : cx G D_X2_suspectLeg M) (he : en G M (qip w Q) Qf) (hn : n < 2) (h : wp_X2_suspectLeg n w Q) : jq G D_X2_suspectLeg M Qf 0 [(0, .ref (aD G n 12))] [] w := by
  unfold wp_X2_suspectLeg at h
  refine jq_iconst (v := (-1 : Int32)) dX2_suspectLeg_0 hC (by decide) ?_
  refine jq_istore_n (L' := [(1, .int (-1 : Int32)), (0, .ref (aD G n 12))]) dX2_suspectLeg_1 hC rfl (by decide) rfl ?_
  refine jq_iconst (v := (0 : Int32)) dX2_suspectLeg_2 hC (by decide) ?_
  refine jq_istore_n (L' := [(2, .int (0 : Int32)), (1, .int (-1 : Int32)), (0, .ref (aD G n 12))]) dX2_suspectLeg_3 hC rfl (by decide) rfl ?_
  refine jq_less (L' := [(0, .ref (aD G n 12)), (1, .int (-1 : Int32)), (2, .int (0 : Int32))]) [2, 1, 0] rfl ?_
  exact ok_X2_suspectLeg_L4 hC he hn h
theorem mt_X2_suspectLeg {G : Gt} {n : Nat} {w : Wd} {Q : Int32 → Prop} (hn : n < 2) (h : wp_X2_suspectLeg n w Q) : Mt G D_X2_suspectLeg [.ref (aD G n 12)] w (qip w Q) := Mt_of (by decide +kernel) rfl rfl (Nat.le_of_ble_eq_true rfl) (fun M Qf hC he => ok_X2_suspectLeg hC he hn h)
/-! X2.shareOfGood()D -/
theorem dX2_shareOfGood_0 : decode cX2_shareOfGood 0 = .ok (.aload_n 0, 1) := by decide +kernel
theorem dX2_shareOfGood_1 : decode cX2_shareOfGood 1 = .ok (.getfield 47, 3) := by decide +kernel
theorem dX2_shareOfGood_4 : decode cX2_shareOfGood 4 = .ok (.ifCond .ne 5, 3) := by decide +kernel
theorem dX2_shareOfGood_7 : decode cX2_shareOfGood 7 = .ok (.dconst 1, 1) := by decide +kernel
theorem dX2_shareOfGood_8 : decode cX2_shareOfGood 8 = .ok (.dreturn, 1) := by decide +kernel
theorem dX2_shareOfGood_9 : decode cX2_shareOfGood 9 = .ok (.aload_n 0, 1) := by decide +kernel
theorem dX2_shareOfGood_10 : decode cX2_shareOfGood 10 = .ok (.getfield 47, 3) := by decide +kernel
theorem dX2_shareOfGood_13 : decode cX2_shareOfGood 13 = .ok (.aload_n 0, 1) := by decide +kernel
theorem dX2_shareOfGood_14 : decode cX2_shareOfGood 14 = .ok (.invokevirtual 129, 3) := by decide +kernel
theorem dX2_shareOfGood_17 : decode cX2_shareOfGood 17 = .ok (.isub, 1) := by decide +kernel
theorem dX2_shareOfGood_18 : decode cX2_shareOfGood 18 = .ok (.i2d, 1) := by decide +kernel
theorem dX2_shareOfGood_19 : decode cX2_shareOfGood 19 = .ok (.aload_n 0, 1) := by decide +kernel
theorem dX2_shareOfGood_20 : decode cX2_shareOfGood 20 = .ok (.getfield 47, 3) := by decide +kernel
theorem dX2_shareOfGood_23 : decode cX2_shareOfGood 23 = .ok (.i2d, 1) := by decide +kernel
theorem dX2_shareOfGood_24 : decode cX2_shareOfGood 24 = .ok (.ddiv, 1) := by decide +kernel
theorem dX2_shareOfGood_25 : decode cX2_shareOfGood 25 = .ok (.dreturn, 1) := by decide +kernel
set_option maxRecDepth 20000 in
theorem ggX2_shareOfGood_X2_howManyBad : GoodIn wsX2_shareOfGood wsX2_howManyBad := goodIn_r _ [6, 7, 8, 9, 10, 11, 12, 13, 14, 15, 16, 17, 18, 19, 20, 21, 22, 23, 24, 25, 26, 27] (by decide +kernel) (by decide +kernel)
set_option maxRecDepth 20000 in
theorem gX2_shareOfGood_X2_howManyBad : GoodIn wsX2_shareOfGood (wsV RX2 129 RX2 yX2_howManyBad wsX2_howManyBad) := goodIn_app (goodIn_of _ (by decide +kernel)) ggX2_shareOfGood_X2_howManyBad
def D_X2_shareOfGood : Md := (yX2_shareOfGood, cX2_shareOfGood, 1, (some .double), wsX2_shareOfGood, RX2, { frames := 2, cells := 0, slots := 0, locals := 40 })
theorem nm_X2_shareOfGood : nmD D_X2_shareOfGood 0 := ⟨rfl, by decide +kernel, by decide +kernel, by decide +kernel⟩
theorem hi_X2_shareOfGood_X2 : ∀ w ∈ u_ws RX2 TX2 13, w ∈ wsX2_shareOfGood := by decide +kernel
theorem hl_X2_shareOfGood_47 : Cond.fieldLink RX2 47 "LevelLoops$Loops" "size" "I" ∈ wsX2_shareOfGood := by decide +kernel
def wp_X2_shareOfGood (n : Nat) (w : Wd) (Q : UInt64 → Prop) : Prop :=
  ((¬ (wi w n 12 0) = 0 → wp_X2_howManyBad n w (fun r14 => vf_n64 (FP.ddiv (FP.i2d ((wi w n 12 0) - r14)) (FP.i2d (wi w n 12 0))) ∧ Q (FP.ddiv (FP.i2d ((wi w n 12 0) - r14)) (FP.i2d (wi w n 12 0))))) ∧ ((wi w n 12 0) = 0 → Q FP.dconst1))
theorem ok_X2_shareOfGood {G : Gt} {M : Mx} {Qf : State → Prop} {n : Nat} {w : Wd} {Q : UInt64 → Prop} (hC : cx G D_X2_shareOfGood M) (he : en G M (qdp w Q) Qf) (hn : n < 2) (h : wp_X2_shareOfGood n w Q) : jq G D_X2_shareOfGood M Qf 0 [(0, .ref (aD G n 12))] [] w := by
  unfold wp_X2_shareOfGood at h
  refine jq_aload_n (k0 := 0) dX2_shareOfGood_0 hC rfl rfl ?_
  refine jq_get (k0 := 0) (n := n) (o := 12) dX2_shareOfGood_1 hC (cl_T (by omega) (by decide)) rfl rfl hi_X2_shareOfGood_X2 (by decide) hl_X2_shareOfGood_47 rfl rfl ?_
  refine jq_if_ne (tgt := 9) dX2_shareOfGood_4 hC (by decide) (fun c4 => ?_) (fun c4 => ?_)
  · have h := h.1 c4
    refine jq_aload_n (k0 := 0) dX2_shareOfGood_9 hC rfl rfl ?_
    refine jq_get (k0 := 0) (n := n) (o := 12) dX2_shareOfGood_10 hC (cl_T (by omega) (by decide)) rfl rfl hi_X2_shareOfGood_X2 (by decide) hl_X2_shareOfGood_47 rfl rfl ?_
    refine jq_aload_n (k0 := 0) dX2_shareOfGood_13 hC rfl rfl ?_
    refine jq_callV (As := []) (rest := [.int (wi w n 12 0)]) (n := n) (o := 12) (D' := D_X2_howManyBad) dX2_shareOfGood_14 hC (cl_T (by omega) (by decide)) rfl rfl rfl (mt_X2_howManyBad (by omega) h) gX2_shareOfGood_X2_howManyBad rfl ⟨rfl, rfl, Nat.le_of_ble_eq_true rfl, Nat.le_of_ble_eq_true rfl⟩ nm_X2_howManyBad rfl (Nat.le_of_ble_eq_true rfl) (kIp fun r14 h => ?_)
    refine jq_isub dX2_shareOfGood_17 hC ?_
    refine jq_i2d dX2_shareOfGood_18 hC ?_
    refine jq_aload_n (k0 := 0) dX2_shareOfGood_19 hC rfl rfl ?_
    refine jq_get (k0 := 0) (n := n) (o := 12) dX2_shareOfGood_20 hC (cl_T (by omega) (by decide)) rfl rfl hi_X2_shareOfGood_X2 (by decide) hl_X2_shareOfGood_47 rfl rfl ?_
    refine jq_i2d dX2_shareOfGood_23 hC ?_
    obtain ⟨b24, h⟩ := h
    refine jq_ddiv dX2_shareOfGood_24 hC b24 ?_
    exact jq_dret dX2_shareOfGood_25 hC he rfl ⟨_, rfl, rfl, h⟩
  · have h := h.2 c4
    refine jq_dconst1 dX2_shareOfGood_7 hC ?_
    exact jq_dret dX2_shareOfGood_8 hC he rfl ⟨_, rfl, rfl, h⟩
theorem mt_X2_shareOfGood {G : Gt} {n : Nat} {w : Wd} {Q : UInt64 → Prop} (hn : n < 2) (h : wp_X2_shareOfGood n w Q) : Mt G D_X2_shareOfGood [.ref (aD G n 12)] w (qdp w Q) := Mt_of (by decide +kernel) rfl rfl (Nat.le_of_ble_eq_true rfl) (fun M Qf hC he => ok_X2_shareOfGood hC he hn h)
