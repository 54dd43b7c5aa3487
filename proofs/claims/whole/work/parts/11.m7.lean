/-! X7.between(II)I -/
theorem dX7_between_0 : decode cX7_between 0 = .ok (.aload_n 0, 1) := by decide +kernel
theorem dX7_between_1 : decode cX7_between 1 = .ok (.getfield 15, 3) := by decide +kernel
theorem dX7_between_4 : decode cX7_between 4 = .ok (.iload_n 1, 1) := by decide +kernel
theorem dX7_between_5 : decode cX7_between 5 = .ok (.iaload, 1) := by decide +kernel
theorem dX7_between_6 : decode cX7_between 6 = .ok (.aload_n 0, 1) := by decide +kernel
theorem dX7_between_7 : decode cX7_between 7 = .ok (.getfield 15, 3) := by decide +kernel
theorem dX7_between_10 : decode cX7_between 10 = .ok (.iload_n 2, 1) := by decide +kernel
theorem dX7_between_11 : decode cX7_between 11 = .ok (.iaload, 1) := by decide +kernel
theorem dX7_between_12 : decode cX7_between 12 = .ok (.ixor, 1) := by decide +kernel
theorem dX7_between_13 : decode cX7_between 13 = .ok (.ireturn, 1) := by decide +kernel
def D_X7_between : Md := (yX7_between, cX7_between, 3, (some .int), wsX7_between, RX7, { frames := 0, cells := 0, slots := 0, locals := 0 })
theorem nm_X7_between : nmD D_X7_between 2 := ⟨rfl, by decide +kernel, by decide +kernel, by decide +kernel⟩
theorem hi_X7_between_X7 : ∀ w ∈ u_ws RX7 TX7 6, w ∈ wsX7_between := by decide +kernel
theorem hl_X7_between_15 : Cond.fieldLink RX7 15 "LevelLoops$Tree" "toTop" "[I" ∈ wsX7_between := by decide +kernel
def wp_X7_between (n : Nat) (x1 : Int32) (x2 : Int32) (w : Wd) (Q : Int32 → Prop) : Prop :=
  vp_in x1 10 ∧ vp_in x2 10 ∧ Q ((wi w n 10 x1.toNatClampNeg) ^^^ (wi w n 10 x2.toNatClampNeg))
theorem ok_X7_between {G : Gt} {M : Mx} {Qf : State → Prop} {n : Nat} {x1 : Int32} {x2 : Int32} {w : Wd} {Q : Int32 → Prop} (hC : cx G D_X7_between M) (he : en G M (qip w Q) Qf) (hn : n < 2) (h : wp_X7_between n x1 x2 w Q) : jq G D_X7_between M Qf 0 [(0, .ref (aD G n 8)), (1, .int x1), (2, .int x2)] [] w := by
  unfold wp_X7_between at h
  refine jq_aload_n (k0 := 0) dX7_between_0 hC rfl rfl ?_
  refine jq_get (k0 := 3) (n := n) (o := 8) dX7_between_1 hC (cl_T (by omega) (by decide)) rfl rfl hi_X7_between_X7 (by decide) hl_X7_between_15 rfl rfl ?_
  refine jq_iload_n (k0 := 1) dX7_between_4 hC rfl rfl ?_
  obtain ⟨b5, h⟩ := h
  refine jq_iald (n := n) (o := 10) (j := x1.toNatClampNeg) dX7_between_5 hC (cl_T (by omega) (by decide)) rfl b5 rfl ?_
  refine jq_aload_n (k0 := 0) dX7_between_6 hC rfl rfl ?_
  refine jq_get (k0 := 3) (n := n) (o := 8) dX7_between_7 hC (cl_T (by omega) (by decide)) rfl rfl hi_X7_between_X7 (by decide) hl_X7_between_15 rfl rfl ?_
  refine jq_iload_n (k0 := 2) dX7_between_10 hC rfl rfl ?_
  obtain ⟨b11, h⟩ := h
  refine jq_iald (n := n) (o := 10) (j := x2.toNatClampNeg) dX7_between_11 hC (cl_T (by omega) (by decide)) rfl b11 rfl ?_
  refine jq_ixor dX7_between_12 hC ?_
  exact jq_iret dX7_between_13 hC he rfl ⟨_, rfl, rfl, h⟩
theorem mt_X7_between {G : Gt} {n : Nat} {x1 : Int32} {x2 : Int32} {w : Wd} {Q : Int32 → Prop} (hn : n < 2) (h : wp_X7_between n x1 x2 w Q) : Mt G D_X7_between [.ref (aD G n 8), .int x1, .int x2] w (qip w Q) := Mt_of (by decide +kernel) rfl rfl (Nat.le_of_ble_eq_true rfl) (fun M Qf hC he => ok_X7_between hC he hn h)
/-! X7.sortLegs()V -/
theorem dX7_sortLegs_0 : decode cX7_sortLegs 0 = .ok (.iconst 0, 1) := by decide +kernel
theorem dX7_sortLegs_1 : decode cX7_sortLegs 1 = .ok (.istore_n 1, 1) := by decide +kernel
theorem dX7_sortLegs_2 : decode cX7_sortLegs 2 = .ok (.iload_n 1, 1) := by decide +kernel
theorem dX7_sortLegs_3 : decode cX7_sortLegs 3 = .ok (.aload_n 0, 1) := by decide +kernel
theorem dX7_sortLegs_4 : decode cX7_sortLegs 4 = .ok (.getfield 21, 3) := by decide +kernel
theorem dX7_sortLegs_7 : decode cX7_sortLegs 7 = .ok (.getfield 37, 3) := by decide +kernel
theorem dX7_sortLegs_10 : decode cX7_sortLegs 10 = .ok (.if_icmp .ge 70, 3) := by decide +kernel
theorem dX7_sortLegs_13 : decode cX7_sortLegs 13 = .ok (.iload_n 1, 1) := by decide +kernel
theorem dX7_sortLegs_14 : decode cX7_sortLegs 14 = .ok (.istore_n 2, 1) := by decide +kernel
theorem dX7_sortLegs_15 : decode cX7_sortLegs 15 = .ok (.iload_n 2, 1) := by decide +kernel
theorem dX7_sortLegs_16 : decode cX7_sortLegs 16 = .ok (.ifCond .le 51, 3) := by decide +kernel
theorem dX7_sortLegs_19 : decode cX7_sortLegs 19 = .ok (.aload_n 0, 1) := by decide +kernel
theorem dX7_sortLegs_20 : decode cX7_sortLegs 20 = .ok (.getfield 21, 3) := by decide +kernel
theorem dX7_sortLegs_23 : decode cX7_sortLegs 23 = .ok (.getfield 60, 3) := by decide +kernel
theorem dX7_sortLegs_26 : decode cX7_sortLegs 26 = .ok (.aload_n 0, 1) := by decide +kernel
theorem dX7_sortLegs_27 : decode cX7_sortLegs 27 = .ok (.getfield 18, 3) := by decide +kernel
theorem dX7_sortLegs_30 : decode cX7_sortLegs 30 = .ok (.iload_n 2, 1) := by decide +kernel
theorem dX7_sortLegs_31 : decode cX7_sortLegs 31 = .ok (.iconst 1, 1) := by decide +kernel
theorem dX7_sortLegs_32 : decode cX7_sortLegs 32 = .ok (.isub, 1) := by decide +kernel
theorem dX7_sortLegs_33 : decode cX7_sortLegs 33 = .ok (.iaload, 1) := by decide +kernel
theorem dX7_sortLegs_34 : decode cX7_sortLegs 34 = .ok (.iaload, 1) := by decide +kernel
theorem dX7_sortLegs_35 : decode cX7_sortLegs 35 = .ok (.aload_n 0, 1) := by decide +kernel
theorem dX7_sortLegs_36 : decode cX7_sortLegs 36 = .ok (.getfield 21, 3) := by decide +kernel
theorem dX7_sortLegs_39 : decode cX7_sortLegs 39 = .ok (.getfield 60, 3) := by decide +kernel
theorem dX7_sortLegs_42 : decode cX7_sortLegs 42 = .ok (.iload_n 1, 1) := by decide +kernel
theorem dX7_sortLegs_43 : decode cX7_sortLegs 43 = .ok (.iaload, 1) := by decide +kernel
theorem dX7_sortLegs_44 : decode cX7_sortLegs 44 = .ok (.if_icmp .le 23, 3) := by decide +kernel
theorem dX7_sortLegs_47 : decode cX7_sortLegs 47 = .ok (.aload_n 0, 1) := by decide +kernel
theorem dX7_sortLegs_48 : decode cX7_sortLegs 48 = .ok (.getfield 18, 3) := by decide +kernel
theorem dX7_sortLegs_51 : decode cX7_sortLegs 51 = .ok (.iload_n 2, 1) := by decide +kernel
theorem dX7_sortLegs_52 : decode cX7_sortLegs 52 = .ok (.aload_n 0, 1) := by decide +kernel
theorem dX7_sortLegs_53 : decode cX7_sortLegs 53 = .ok (.getfield 18, 3) := by decide +kernel
theorem dX7_sortLegs_56 : decode cX7_sortLegs 56 = .ok (.iload_n 2, 1) := by decide +kernel
theorem dX7_sortLegs_57 : decode cX7_sortLegs 57 = .ok (.iconst 1, 1) := by decide +kernel
theorem dX7_sortLegs_58 : decode cX7_sortLegs 58 = .ok (.isub, 1) := by decide +kernel
theorem dX7_sortLegs_59 : decode cX7_sortLegs 59 = .ok (.iaload, 1) := by decide +kernel
theorem dX7_sortLegs_60 : decode cX7_sortLegs 60 = .ok (.iastore, 1) := by decide +kernel
theorem dX7_sortLegs_61 : decode cX7_sortLegs 61 = .ok (.iinc 2 (-1), 3) := by decide +kernel
theorem dX7_sortLegs_64 : decode cX7_sortLegs 64 = .ok (.goto (-49), 3) := by decide +kernel
theorem dX7_sortLegs_67 : decode cX7_sortLegs 67 = .ok (.aload_n 0, 1) := by decide +kernel
theorem dX7_sortLegs_68 : decode cX7_sortLegs 68 = .ok (.getfield 18, 3) := by decide +kernel
theorem dX7_sortLegs_71 : decode cX7_sortLegs 71 = .ok (.iload_n 2, 1) := by decide +kernel
theorem dX7_sortLegs_72 : decode cX7_sortLegs 72 = .ok (.iload_n 1, 1) := by decide +kernel
theorem dX7_sortLegs_73 : decode cX7_sortLegs 73 = .ok (.iastore, 1) := by decide +kernel
theorem dX7_sortLegs_74 : decode cX7_sortLegs 74 = .ok (.iinc 1 1, 3) := by decide +kernel
theorem dX7_sortLegs_77 : decode cX7_sortLegs 77 = .ok (.goto (-75), 3) := by decide +kernel
theorem dX7_sortLegs_80 : decode cX7_sortLegs 80 = .ok (.return_, 1) := by decide +kernel
def D_X7_sortLegs : Md := (yX7_sortLegs, cX7_sortLegs, 3, none, wsX7_sortLegs, RX7, { frames := 0, cells := 0, slots := 0, locals := 0 })
theorem nm_X7_sortLegs : nmD D_X7_sortLegs 0 := ⟨rfl, by decide +kernel, by decide +kernel, by decide +kernel⟩
theorem hi_X7_sortLegs_X5 : ∀ w ∈ u_ws RX5 TX5 8, w ∈ wsX7_sortLegs := by decide +kernel
theorem hi_X7_sortLegs_X7 : ∀ w ∈ u_ws RX7 TX7 6, w ∈ wsX7_sortLegs := by decide +kernel
theorem hl_X7_sortLegs_18 : Cond.fieldLink RX7 18 "LevelLoops$Tree" "order" "[I" ∈ wsX7_sortLegs := by decide +kernel
theorem hl_X7_sortLegs_21 : Cond.fieldLink RX7 21 "LevelLoops$Tree" "survey" "LLevelLoops$Survey;" ∈ wsX7_sortLegs := by decide +kernel
theorem hl_X7_sortLegs_37 : Cond.fieldLink RX7 37 "LevelLoops$Survey" "legs" "I" ∈ wsX7_sortLegs := by decide +kernel
theorem hl_X7_sortLegs_60 : Cond.fieldLink RX7 60 "LevelLoops$Survey" "length" "[I" ∈ wsX7_sortLegs := by decide +kernel
def wp_X7_sortLegs_J67 (n : Nat) (x1 : Int32) (x2 : Int32) (w : Wd) (Q : Wd → Prop) (K2 : Int32 → Wd → Prop) : Prop :=
  vp_in x2 20 ∧ (∀ w73 : Wd, w73 = (sI w n 11 x2.toNatClampNeg x1) → K2 (x1 + 1) w73)
def wp_X7_sortLegs_B15 (n : Nat) (x1 : Int32) (x2 : Int32) (w : Wd) (Q : Wd → Prop) (K2 : Int32 → Wd → Prop) (K15 : Int32 → Wd → Prop) : Prop :=
  ((x2 ≤ 0 → wp_X7_sortLegs_J67 n x1 x2 w Q K2) ∧ (¬ x2 ≤ 0 → vp_in (x2 - (1 : Int32)) 20 ∧ vp_in (wi w n 11 (x2 - (1 : Int32)).toNatClampNeg) 20 ∧ vp_in x1 20 ∧ (((wi w n 5 (wi w n 11 (x2 - (1 : Int32)).toNatClampNeg).toNatClampNeg) ≤ (wi w n 5 x1.toNatClampNeg) → wp_X7_sortLegs_J67 n x1 x2 w Q K2) ∧ (¬ (wi w n 5 (wi w n 11 (x2 - (1 : Int32)).toNatClampNeg).toNatClampNeg) ≤ (wi w n 5 x1.toNatClampNeg) → vp_in (x2 - (1 : Int32)) 20 ∧ vp_in x2 20 ∧ (∀ w60 : Wd, w60 = (sI w n 11 x2.toNatClampNeg (wi w n 11 (x2 - (1 : Int32)).toNatClampNeg)) → K15 (x2 + (-1)) w60)))))
def wp_X7_sortLegs_L15 (n : Nat) (x1 : Int32) (x2 : Int32) (w : Wd) (Q : Wd → Prop) (K2 : Int32 → Wd → Prop) : Prop :=
  ∃ (I : Int32 → Wd → Prop) (μ : Int32 → Wd → Nat), I x2 w ∧ ∀ (x2 : Int32) (w : Wd), I x2 w → wp_X7_sortLegs_B15 n x1 x2 w Q K2 (fun x2' w' => I x2' w' ∧ μ x2' w' < μ x2 w)
def wp_X7_sortLegs_B2 (n : Nat) (x1 : Int32) (w : Wd) (Q : Wd → Prop) (K2 : Int32 → Wd → Prop) : Prop :=
  (((wi w n 0 1) ≤ x1 → Q w) ∧ (¬ (wi w n 0 1) ≤ x1 → wp_X7_sortLegs_L15 n x1 x1 w Q K2))
def wp_X7_sortLegs_L2 (n : Nat) (x1 : Int32) (w : Wd) (Q : Wd → Prop) : Prop :=
  ∃ (I : Int32 → Wd → Prop) (μ : Int32 → Wd → Nat), I x1 w ∧ ∀ (x1 : Int32) (w : Wd), I x1 w → wp_X7_sortLegs_B2 n x1 w Q (fun x1' w' => I x1' w' ∧ μ x1' w' < μ x1 w)
def wp_X7_sortLegs (n : Nat) (w : Wd) (Q : Wd → Prop) : Prop :=
  wp_X7_sortLegs_L2 n (0 : Int32) w Q
theorem ok_X7_sortLegs_J67 {G : Gt} {M : Mx} {Qf : State → Prop} {n : Nat} {x1 : Int32} {x2 : Int32} {w : Wd} {Q : Wd → Prop} {K2 : Int32 → Wd → Prop} (hC : cx G D_X7_sortLegs M) (he : en G M (qv Q) Qf) (hn : n < 2) (h : wp_X7_sortLegs_J67 n x1 x2 w Q K2) (hK2 : ∀ (x1 : Int32) (w : Wd), K2 x1 w → jq G D_X7_sortLegs M Qf 2 [(0, .ref (aD G n 8)), (1, .int x1)] [] w) : jq G D_X7_sortLegs M Qf 67 [(0, .ref (aD G n 8)), (1, .int x1), (2, .int x2)] [] w := by
  unfold wp_X7_sortLegs_J67 at h
  refine jq_aload_n (k0 := 0) dX7_sortLegs_67 hC rfl rfl ?_
  refine jq_get (k0 := 5) (n := n) (o := 8) dX7_sortLegs_68 hC (cl_T (by omega) (by decide)) rfl rfl hi_X7_sortLegs_X7 (by decide) hl_X7_sortLegs_18 rfl rfl ?_
  refine jq_iload_n (k0 := 2) dX7_sortLegs_71 hC rfl rfl ?_
  refine jq_iload_n (k0 := 1) dX7_sortLegs_72 hC rfl rfl ?_
  obtain ⟨b73, h⟩ := h
  refine jq_iast (n := n) (o := 11) (j := x2.toNatClampNeg) dX7_sortLegs_73 hC (cl_T (by omega) (by decide)) (fun _ => rfl) b73 rfl ?_
  refine jq_w (fun w73 e73 => ?_)
  have h := h w73 e73
  refine jq_iinc (k0 := 1) (v := (x1 + 1)) (L' := [(1, .int (x1 + 1)), (0, .ref (aD G n 8)), (2, .int x2)]) dX7_sortLegs_74 hC rfl rfl (by decide) rfl ?_
  refine jq_goto (tgt := 2) dX7_sortLegs_77 hC (by decide) ?_
  exact jq_less (L' := [(0, .ref (aD G n 8)), (1, .int (x1 + 1))]) [1, 0] rfl (hK2 _ _ h)
theorem ok_X7_sortLegs_B15 {G : Gt} {M : Mx} {Qf : State → Prop} {n : Nat} {x1 : Int32} {x2 : Int32} {w : Wd} {Q : Wd → Prop} {K2 : Int32 → Wd → Prop} {K15 : Int32 → Wd → Prop} (hC : cx G D_X7_sortLegs M) (he : en G M (qv Q) Qf) (hn : n < 2) (h : wp_X7_sortLegs_B15 n x1 x2 w Q K2 K15) (hK2 : ∀ (x1 : Int32) (w : Wd), K2 x1 w → jq G D_X7_sortLegs M Qf 2 [(0, .ref (aD G n 8)), (1, .int x1)] [] w) (hK15 : ∀ (x2 : Int32) (w : Wd), K15 x2 w → jq G D_X7_sortLegs M Qf 15 [(0, .ref (aD G n 8)), (1, .int x1), (2, .int x2)] [] w) : jq G D_X7_sortLegs M Qf 15 [(0, .ref (aD G n 8)), (1, .int x1), (2, .int x2)] [] w := by
  unfold wp_X7_sortLegs_B15 at h
  refine jq_iload_n (k0 := 2) dX7_sortLegs_15 hC rfl rfl ?_
  refine jq_if_le (tgt := 67) dX7_sortLegs_16 hC (by decide) (fun c16 => ?_) (fun c16 => ?_)
  · have h := h.1 c16
    refine jq_less (L' := [(0, .ref (aD G n 8)), (1, .int x1), (2, .int x2)]) [0, 1, 2] rfl ?_
    exact ok_X7_sortLegs_J67 hC he hn h hK2
  · have h := h.2 c16
    refine jq_aload_n (k0 := 0) dX7_sortLegs_19 hC rfl rfl ?_
    refine jq_get (k0 := 4) (n := n) (o := 8) dX7_sortLegs_20 hC (cl_T (by omega) (by decide)) rfl rfl hi_X7_sortLegs_X7 (by decide) hl_X7_sortLegs_21 rfl rfl ?_
    refine jq_get (k0 := 6) (n := n) (o := 0) dX7_sortLegs_23 hC (cl_S (by omega) (by decide)) rfl rfl hi_X7_sortLegs_X5 (by decide) hl_X7_sortLegs_60 rfl rfl ?_
    refine jq_aload_n (k0 := 0) dX7_sortLegs_26 hC rfl rfl ?_
    refine jq_get (k0 := 5) (n := n) (o := 8) dX7_sortLegs_27 hC (cl_T (by omega) (by decide)) rfl rfl hi_X7_sortLegs_X7 (by decide) hl_X7_sortLegs_18 rfl rfl ?_
    refine jq_iload_n (k0 := 2) dX7_sortLegs_30 hC rfl rfl ?_
    refine jq_iconst (v := (1 : Int32)) dX7_sortLegs_31 hC (by decide) ?_
    refine jq_isub dX7_sortLegs_32 hC ?_
    obtain ⟨b33, h⟩ := h
    refine jq_iald (n := n) (o := 11) (j := (x2 - (1 : Int32)).toNatClampNeg) dX7_sortLegs_33 hC (cl_T (by omega) (by decide)) rfl b33 rfl ?_
    obtain ⟨b34, h⟩ := h
    refine jq_iald (n := n) (o := 5) (j := (wi w n 11 (x2 - (1 : Int32)).toNatClampNeg).toNatClampNeg) dX7_sortLegs_34 hC (cl_S (by omega) (by decide)) rfl b34 rfl ?_
    refine jq_aload_n (k0 := 0) dX7_sortLegs_35 hC rfl rfl ?_
    refine jq_get (k0 := 4) (n := n) (o := 8) dX7_sortLegs_36 hC (cl_T (by omega) (by decide)) rfl rfl hi_X7_sortLegs_X7 (by decide) hl_X7_sortLegs_21 rfl rfl ?_
    refine jq_get (k0 := 6) (n := n) (o := 0) dX7_sortLegs_39 hC (cl_S (by omega) (by decide)) rfl rfl hi_X7_sortLegs_X5 (by decide) hl_X7_sortLegs_60 rfl rfl ?_
    refine jq_iload_n (k0 := 1) dX7_sortLegs_42 hC rfl rfl ?_
    obtain ⟨b43, h⟩ := h
    refine jq_iald (n := n) (o := 5) (j := x1.toNatClampNeg) dX7_sortLegs_43 hC (cl_S (by omega) (by decide)) rfl b43 rfl ?_
    refine jq_icmp_le (tgt := 67) dX7_sortLegs_44 hC (by decide) (fun c44 => ?_) (fun c44 => ?_)
    · have h := h.1 c44
      refine jq_less (L' := [(0, .ref (aD G n 8)), (1, .int x1), (2, .int x2)]) [0, 1, 2] rfl ?_
      exact ok_X7_sortLegs_J67 hC he hn h hK2
    · have h := h.2 c44
      refine jq_aload_n (k0 := 0) dX7_sortLegs_47 hC rfl rfl ?_
      refine jq_get (k0 := 5) (n := n) (o := 8) dX7_sortLegs_48 hC (cl_T (by omega) (by decide)) rfl rfl hi_X7_sortLegs_X7 (by decide) hl_X7_sortLegs_18 rfl rfl ?_
      refine jq_iload_n (k0 := 2) dX7_sortLegs_51 hC rfl rfl ?_
      refine jq_aload_n (k0 := 0) dX7_sortLegs_52 hC rfl rfl ?_
      refine jq_get (k0 := 5) (n := n) (o := 8) dX7_sortLegs_53 hC (cl_T (by omega) (by decide)) rfl rfl hi_X7_sortLegs_X7 (by decide) hl_X7_sortLegs_18 rfl rfl ?_
      refine jq_iload_n (k0 := 2) dX7_sortLegs_56 hC rfl rfl ?_
      refine jq_iconst (v := (1 : Int32)) dX7_sortLegs_57 hC (by decide) ?_
      refine jq_isub dX7_sortLegs_58 hC ?_
      obtain ⟨b59, h⟩ := h
      refine jq_iald (n := n) (o := 11) (j := (x2 - (1 : Int32)).toNatClampNeg) dX7_sortLegs_59 hC (cl_T (by omega) (by decide)) rfl b59 rfl ?_
      obtain ⟨b60, h⟩ := h
      refine jq_iast (n := n) (o := 11) (j := x2.toNatClampNeg) dX7_sortLegs_60 hC (cl_T (by omega) (by decide)) (fun _ => rfl) b60 rfl ?_
      refine jq_w (fun w60 e60 => ?_)
      have h := h w60 e60
      refine jq_iinc (k0 := 2) (v := (x2 + (-1))) (L' := [(2, .int (x2 + (-1))), (0, .ref (aD G n 8)), (1, .int x1)]) dX7_sortLegs_61 hC rfl rfl (by decide) rfl ?_
      refine jq_goto (tgt := 15) dX7_sortLegs_64 hC (by decide) ?_
      exact jq_less (L' := [(0, .ref (aD G n 8)), (1, .int x1), (2, .int (x2 + (-1)))]) [1, 2, 0] rfl (hK15 _ _ h)
theorem ok_X7_sortLegs_L15 {G : Gt} {M : Mx} {Qf : State → Prop} {n : Nat} {x1 : Int32} {x2 : Int32} {w : Wd} {Q : Wd → Prop} {K2 : Int32 → Wd → Prop} (hC : cx G D_X7_sortLegs M) (he : en G M (qv Q) Qf) (hn : n < 2) (h : wp_X7_sortLegs_L15 n x1 x2 w Q K2) (hK2 : ∀ (x1 : Int32) (w : Wd), K2 x1 w → jq G D_X7_sortLegs M Qf 2 [(0, .ref (aD G n 8)), (1, .int x1)] [] w) : jq G D_X7_sortLegs M Qf 15 [(0, .ref (aD G n 8)), (1, .int x1), (2, .int x2)] [] w := by
  unfold wp_X7_sortLegs_L15 at h
  obtain ⟨I, μ, h0, hs⟩ := h
  exact lp_ind (σ := Int32 × Wd) (P := fun s => jq G D_X7_sortLegs M Qf 15 [(0, .ref (aD G n 8)), (1, .int x1), (2, .int s.1)] [] s.2) (fun s => I s.1 s.2) (fun s => μ s.1 s.2) (fun s h1 ih => ok_X7_sortLegs_B15 hC he hn (hs s.1 s.2 h1) hK2 (fun x2' w' h => ih (x2', w') h.1 h.2)) (x2, w) h0
theorem ok_X7_sortLegs_B2 {G : Gt} {M : Mx} {Qf : State → Prop} {n : Nat} {x1 : Int32} {w : Wd} {Q : Wd → Prop} {K2 : Int32 → Wd → Prop} (hC : cx G D_X7_sortLegs M) (he : en G M (qv Q) Qf) (hn : n < 2) (h : wp_X7_sortLegs_B2 n x1 w Q K2) (hK2 : ∀ (x1 : Int32) (w : Wd), K2 x1 w → jq G D_X7_sortLegs M Qf 2 [(0, .ref (aD G n 8)), (1, .int x1)] [] w) : jq G D_X7_sortLegs M Qf 2 [(0, .ref (aD G n 8)), (1, .int x1)] [] w := by
  unfold wp_X7_sortLegs_B2 at h
  refine jq_iload_n (k0 := 1) dX7_sortLegs_2 hC rfl rfl ?_
  refine jq_aload_n (k0 := 0) dX7_sortLegs_3 hC rfl rfl ?_
  refine jq_get (k0 := 4) (n := n) (o := 8) dX7_sortLegs_4 hC (cl_T (by omega) (by decide)) rfl rfl hi_X7_sortLegs_X7 (by decide) hl_X7_sortLegs_21 rfl rfl ?_
  refine jq_get (k0 := 1) (n := n) (o := 0) dX7_sortLegs_7 hC (cl_S (by omega) (by decide)) rfl rfl hi_X7_sortLegs_X5 (by decide) hl_X7_sortLegs_37 rfl rfl ?_
  refine jq_icmp_ge (tgt := 80) dX7_sortLegs_10 hC (by decide) (fun c10 => ?_) (fun c10 => ?_)
  · have h := h.1 c10
    exact jq_vret dX7_sortLegs_80 hC he rfl ⟨rfl, h⟩
  · have h := h.2 c10
    refine jq_iload_n (k0 := 1) dX7_sortLegs_13 hC rfl rfl ?_
    refine jq_istore_n (L' := [(2, .int x1), (0, .ref (aD G n 8)), (1, .int x1)]) dX7_sortLegs_14 hC rfl (by decide) rfl ?_
    refine jq_less (L' := [(0, .ref (aD G n 8)), (1, .int x1), (2, .int x1)]) [1, 2, 0] rfl ?_
    exact ok_X7_sortLegs_L15 hC he hn h hK2
theorem ok_X7_sortLegs_L2 {G : Gt} {M : Mx} {Qf : State → Prop} {n : Nat} {x1 : Int32} {w : Wd} {Q : Wd → Prop} (hC : cx G D_X7_sortLegs M) (he : en G M (qv Q) Qf) (hn : n < 2) (h : wp_X7_sortLegs_L2 n x1 w Q) : jq G D_X7_sortLegs M Qf 2 [(0, .ref (aD G n 8)), (1, .int x1)] [] w := by
  unfold wp_X7_sortLegs_L2 at h
  obtain ⟨I, μ, h0, hs⟩ := h
  exact lp_ind (σ := Int32 × Wd) (P := fun s => jq G D_X7_sortLegs M Qf 2 [(0, .ref (aD G n 8)), (1, .int s.1)] [] s.2) (fun s => I s.1 s.2) (fun s => μ s.1 s.2) (fun s h1 ih => ok_X7_sortLegs_B2 hC he hn (hs s.1 s.2 h1) (fun x1' w' h => ih (x1', w') h.1 h.2)) (x1, w) h0
theorem ok_X7_sortLegs {G : Gt} {M : Mx} {Qf : State → Prop} {n : Nat} {w : Wd} {Q : Wd → Prop} (hC : cx G D_X7_sortLegs M) (he : en G M (qv Q) Qf) (hn : n < 2) (h : wp_X7_sortLegs n w Q) : jq G D_X7_sortLegs M Qf 0 [(0, .ref (aD G n 8))] [] w := by
  unfold wp_X7_sortLegs at h
  refine jq_iconst (v := (0 : Int32)) dX7_sortLegs_0 hC (by decide) ?_
  refine jq_istore_n (L' := [(1, .int (0 : Int32)), (0, .ref (aD G n 8))]) dX7_sortLegs_1 hC rfl (by decide) rfl ?_
  refine jq_less (L' := [(0, .ref (aD G n 8)), (1, .int (0 : Int32))]) [1, 0] rfl ?_
  exact ok_X7_sortLegs_L2 hC he hn h
theorem mt_X7_sortLegs {G : Gt} {n : Nat} {w : Wd} {Q : Wd → Prop} (hn : n < 2) (h : wp_X7_sortLegs n w Q) : Mt G D_X7_sortLegs [.ref (aD G n 8)] w (qv Q) := Mt_of (by decide +kernel) rfl rfl (Nat.le_of_ble_eq_true rfl) (fun M Qf hC he => ok_X7_sortLegs hC he hn h)
/-! X7.join(II)V -/
theorem dX7_join_0 : decode cX7_join 0 = .ok (.iconst 0, 1) := by decide +kernel
theorem dX7_join_1 : decode cX7_join 1 = .ok (.istore_n 3, 1) := by decide +kernel
theorem dX7_join_2 : decode cX7_join 2 = .ok (.iload_n 3, 1) := by decide +kernel
theorem dX7_join_3 : decode cX7_join 3 = .ok (.aload_n 0, 1) := by decide +kernel
theorem dX7_join_4 : decode cX7_join 4 = .ok (.getfield 21, 3) := by decide +kernel
theorem dX7_join_7 : decode cX7_join 7 = .ok (.getfield 32, 3) := by decide +kernel
theorem dX7_join_10 : decode cX7_join 10 = .ok (.if_icmp .ge 26, 3) := by decide +kernel
theorem dX7_join_13 : decode cX7_join 13 = .ok (.aload_n 0, 1) := by decide +kernel
theorem dX7_join_14 : decode cX7_join 14 = .ok (.getfield 9, 3) := by decide +kernel
theorem dX7_join_17 : decode cX7_join 17 = .ok (.iload_n 3, 1) := by decide +kernel
theorem dX7_join_18 : decode cX7_join 18 = .ok (.iaload, 1) := by decide +kernel
theorem dX7_join_19 : decode cX7_join 19 = .ok (.iload_n 1, 1) := by decide +kernel
theorem dX7_join_20 : decode cX7_join 20 = .ok (.if_icmp .ne 10, 3) := by decide +kernel
theorem dX7_join_23 : decode cX7_join 23 = .ok (.aload_n 0, 1) := by decide +kernel
theorem dX7_join_24 : decode cX7_join 24 = .ok (.getfield 9, 3) := by decide +kernel
theorem dX7_join_27 : decode cX7_join 27 = .ok (.iload_n 3, 1) := by decide +kernel
theorem dX7_join_28 : decode cX7_join 28 = .ok (.iload_n 2, 1) := by decide +kernel
theorem dX7_join_29 : decode cX7_join 29 = .ok (.iastore, 1) := by decide +kernel
theorem dX7_join_30 : decode cX7_join 30 = .ok (.iinc 3 1, 3) := by decide +kernel
theorem dX7_join_33 : decode cX7_join 33 = .ok (.goto (-31), 3) := by decide +kernel
theorem dX7_join_36 : decode cX7_join 36 = .ok (.return_, 1) := by decide +kernel
def D_X7_join : Md := (yX7_join, cX7_join, 4, none, wsX7_join, RX7, { frames := 0, cells := 0, slots := 0, locals := 0 })
theorem nm_X7_join : nmD D_X7_join 2 := ⟨rfl, by decide +kernel, by decide +kernel, by decide +kernel⟩
theorem hi_X7_join_X5 : ∀ w ∈ u_ws RX5 TX5 8, w ∈ wsX7_join := by decide +kernel
theorem hi_X7_join_X7 : ∀ w ∈ u_ws RX7 TX7 6, w ∈ wsX7_join := by decide +kernel
theorem hl_X7_join_9 : Cond.fieldLink RX7 9 "LevelLoops$Tree" "net" "[I" ∈ wsX7_join := by decide +kernel
theorem hl_X7_join_21 : Cond.fieldLink RX7 21 "LevelLoops$Tree" "survey" "LLevelLoops$Survey;" ∈ wsX7_join := by decide +kernel
theorem hl_X7_join_32 : Cond.fieldLink RX7 32 "LevelLoops$Survey" "marks" "I" ∈ wsX7_join := by decide +kernel
def wp_X7_join_B2 (n : Nat) (x1 : Int32) (x2 : Int32) (x3 : Int32) (w : Wd) (Q : Wd → Prop) (K2 : Int32 → Wd → Prop) : Prop :=
  (((wi w n 0 0) ≤ x3 → Q w) ∧ (¬ (wi w n 0 0) ≤ x3 → vp_in x3 10 ∧ ((¬ (wi w n 9 x3.toNatClampNeg) = x1 → K2 (x3 + 1) w) ∧ ((wi w n 9 x3.toNatClampNeg) = x1 → vp_in x3 10 ∧ (∀ w29 : Wd, w29 = (sI w n 9 x3.toNatClampNeg x2) → K2 (x3 + 1) w29)))))
def wp_X7_join_L2 (n : Nat) (x1 : Int32) (x2 : Int32) (x3 : Int32) (w : Wd) (Q : Wd → Prop) : Prop :=
  ∃ (I : Int32 → Wd → Prop) (μ : Int32 → Wd → Nat), I x3 w ∧ ∀ (x3 : Int32) (w : Wd), I x3 w → wp_X7_join_B2 n x1 x2 x3 w Q (fun x3' w' => I x3' w' ∧ μ x3' w' < μ x3 w)
def wp_X7_join (n : Nat) (x1 : Int32) (x2 : Int32) (w : Wd) (Q : Wd → Prop) : Prop :=
  wp_X7_join_L2 n x1 x2 (0 : Int32) w Q
theorem ok_X7_join_B2 {G : Gt} {M : Mx} {Qf : State → Prop} {n : Nat} {x1 : Int32} {x2 : Int32} {x3 : Int32} {w : Wd} {Q : Wd → Prop} {K2 : Int32 → Wd → Prop} (hC : cx G D_X7_join M) (he : en G M (qv Q) Qf) (hn : n < 2) (h : wp_X7_join_B2 n x1 x2 x3 w Q K2) (hK2 : ∀ (x3 : Int32) (w : Wd), K2 x3 w → jq G D_X7_join M Qf 2 [(0, .ref (aD G n 8)), (1, .int x1), (2, .int x2), (3, .int x3)] [] w) : jq G D_X7_join M Qf 2 [(0, .ref (aD G n 8)), (1, .int x1), (2, .int x2), (3, .int x3)] [] w := by
  unfold wp_X7_join_B2 at h
  refine jq_iload_n (k0 := 3) dX7_join_2 hC rfl rfl ?_
  refine jq_aload_n (k0 := 0) dX7_join_3 hC rfl rfl ?_
  refine jq_get (k0 := 4) (n := n) (o := 8) dX7_join_4 hC (cl_T (by omega) (by decide)) rfl rfl hi_X7_join_X7 (by decide) hl_X7_join_21 rfl rfl ?_
  refine jq_get (k0 := 0) (n := n) (o := 0) dX7_join_7 hC (cl_S (by omega) (by decide)) rfl rfl hi_X7_join_X5 (by decide) hl_X7_join_32 rfl rfl ?_
  refine jq_icmp_ge (tgt := 36) dX7_join_10 hC (by decide) (fun c10 => ?_) (fun c10 => ?_)
  · have h := h.1 c10
    exact jq_vret dX7_join_36 hC he rfl ⟨rfl, h⟩
  · have h := h.2 c10
    refine jq_aload_n (k0 := 0) dX7_join_13 hC rfl rfl ?_
    refine jq_get (k0 := 2) (n := n) (o := 8) dX7_join_14 hC (cl_T (by omega) (by decide)) rfl rfl hi_X7_join_X7 (by decide) hl_X7_join_9 rfl rfl ?_
    refine jq_iload_n (k0 := 3) dX7_join_17 hC rfl rfl ?_
    obtain ⟨b18, h⟩ := h
    refine jq_iald (n := n) (o := 9) (j := x3.toNatClampNeg) dX7_join_18 hC (cl_T (by omega) (by decide)) rfl b18 rfl ?_
    refine jq_iload_n (k0 := 1) dX7_join_19 hC rfl rfl ?_
    refine jq_icmp_ne (tgt := 30) dX7_join_20 hC (by decide) (fun c20 => ?_) (fun c20 => ?_)
    · have h := h.1 c20
      refine jq_iinc (k0 := 3) (v := (x3 + 1)) (L' := [(3, .int (x3 + 1)), (0, .ref (aD G n 8)), (1, .int x1), (2, .int x2)]) dX7_join_30 hC rfl rfl (by decide) rfl ?_
      refine jq_goto (tgt := 2) dX7_join_33 hC (by decide) ?_
      exact jq_less (L' := [(0, .ref (aD G n 8)), (1, .int x1), (2, .int x2), (3, .int (x3 + 1))]) [1, 2, 3, 0] rfl (hK2 _ _ h)
    · have h := h.2 c20
      refine jq_aload_n (k0 := 0) dX7_join_23 hC rfl rfl ?_
      refine jq_get (k0 := 2) (n := n) (o := 8) dX7_join_24 hC (cl_T (by omega) (by decide)) rfl rfl hi_X7_join_X7 (by decide) hl_X7_join_9 rfl rfl ?_
      refine jq_iload_n (k0 := 3) dX7_join_27 hC rfl rfl ?_
      refine jq_iload_n (k0 := 2) dX7_join_28 hC rfl rfl ?_
      obtain ⟨b29, h⟩ := h
      refine jq_iast (n := n) (o := 9) (j := x3.toNatClampNeg) dX7_join_29 hC (cl_T (by omega) (by decide)) (fun _ => rfl) b29 rfl ?_
      refine jq_w (fun w29 e29 => ?_)
      have h := h w29 e29
      refine jq_iinc (k0 := 3) (v := (x3 + 1)) (L' := [(3, .int (x3 + 1)), (0, .ref (aD G n 8)), (1, .int x1), (2, .int x2)]) dX7_join_30 hC rfl rfl (by decide) rfl ?_
      refine jq_goto (tgt := 2) dX7_join_33 hC (by decide) ?_
      exact jq_less (L' := [(0, .ref (aD G n 8)), (1, .int x1), (2, .int x2), (3, .int (x3 + 1))]) [1, 2, 3, 0] rfl (hK2 _ _ h)
theorem ok_X7_join_L2 {G : Gt} {M : Mx} {Qf : State → Prop} {n : Nat} {x1 : Int32} {x2 : Int32} {x3 : Int32} {w : Wd} {Q : Wd → Prop} (hC : cx G D_X7_join M) (he : en G M (qv Q) Qf) (hn : n < 2) (h : wp_X7_join_L2 n x1 x2 x3 w Q) : jq G D_X7_join M Qf 2 [(0, .ref (aD G n 8)), (1, .int x1), (2, .int x2), (3, .int x3)] [] w := by
  unfold wp_X7_join_L2 at h
  obtain ⟨I, μ, h0, hs⟩ := h
  exact lp_ind (σ := Int32 × Wd) (P := fun s => jq G D_X7_join M Qf 2 [(0, .ref (aD G n 8)), (1, .int x1), (2, .int x2), (3, .int s.1)] [] s.2) (fun s => I s.1 s.2) (fun s => μ s.1 s.2) (fun s h1 ih => ok_X7_join_B2 hC he hn (hs s.1 s.2 h1) (fun x3' w' h => ih (x3', w') h.1 h.2)) (x3, w) h0
theorem ok_X7_join {G : Gt} {M : Mx} {Qf : State → Prop} {n : Nat} {x1 : Int32} {x2 : Int32} {w : Wd} {Q : Wd → Prop} (hC : cx G D_X7_join M) (he : en G M (qv Q) Qf) (hn : n < 2) (h : wp_X7_join n x1 x2 w Q) : jq G D_X7_join M Qf 0 [(0, .ref (aD G n 8)), (1, .int x1), (2, .int x2)] [] w := by
  unfold wp_X7_join at h
  refine jq_iconst (v := (0 : Int32)) dX7_join_0 hC (by decide) ?_
  refine jq_istore_n (L' := [(3, .int (0 : Int32)), (0, .ref (aD G n 8)), (1, .int x1), (2, .int x2)]) dX7_join_1 hC rfl (by decide) rfl ?_
  refine jq_less (L' := [(0, .ref (aD G n 8)), (1, .int x1), (2, .int x2), (3, .int (0 : Int32))]) [1, 2, 3, 0] rfl ?_
  exact ok_X7_join_L2 hC he hn h
theorem mt_X7_join {G : Gt} {n : Nat} {x1 : Int32} {x2 : Int32} {w : Wd} {Q : Wd → Prop} (hn : n < 2) (h : wp_X7_join n x1 x2 w Q) : Mt G D_X7_join [.ref (aD G n 8), .int x1, .int x2] w (qv Q) := Mt_of (by decide +kernel) rfl rfl (Nat.le_of_ble_eq_true rfl) (fun M Qf hC he => ok_X7_join hC he hn h)
/-! X7.reachBy(II)I -/
theorem dX7_reachBy_0 : decode cX7_reachBy 0 = .ok (.aload_n 0, 1) := by decide +kernel
theorem dX7_reachBy_1 : decode cX7_reachBy 1 = .ok (.getfield 21, 3) := by decide +kernel
theorem dX7_reachBy_4 : decode cX7_reachBy 4 = .ok (.getfield 38, 3) := by decide +kernel
theorem dX7_reachBy_7 : decode cX7_reachBy 7 = .ok (.iload_n 1, 1) := by decide +kernel
theorem dX7_reachBy_8 : decode cX7_reachBy 8 = .ok (.iaload, 1) := by decide +kernel
theorem dX7_reachBy_9 : decode cX7_reachBy 9 = .ok (.istore_n 3, 1) := by decide +kernel
theorem dX7_reachBy_10 : decode cX7_reachBy 10 = .ok (.aload_n 0, 1) := by decide +kernel
theorem dX7_reachBy_11 : decode cX7_reachBy 11 = .ok (.getfield 21, 3) := by decide +kernel
theorem dX7_reachBy_14 : decode cX7_reachBy 14 = .ok (.getfield 41, 3) := by decide +kernel
theorem dX7_reachBy_17 : decode cX7_reachBy 17 = .ok (.iload_n 1, 1) := by decide +kernel
theorem dX7_reachBy_18 : decode cX7_reachBy 18 = .ok (.iaload, 1) := by decide +kernel
theorem dX7_reachBy_19 : decode cX7_reachBy 19 = .ok (.istore 4, 2) := by decide +kernel
theorem dX7_reachBy_21 : decode cX7_reachBy 21 = .ok (.iload_n 2, 1) := by decide +kernel
theorem dX7_reachBy_22 : decode cX7_reachBy 22 = .ok (.iload_n 3, 1) := by decide +kernel
theorem dX7_reachBy_23 : decode cX7_reachBy 23 = .ok (.invokestatic 66, 3) := by decide +kernel
theorem dX7_reachBy_26 : decode cX7_reachBy 26 = .ok (.iload_n 2, 1) := by decide +kernel
theorem dX7_reachBy_27 : decode cX7_reachBy 27 = .ok (.iload 4, 2) := by decide +kernel
theorem dX7_reachBy_29 : decode cX7_reachBy 29 = .ok (.invokestatic 66, 3) := by decide +kernel
theorem dX7_reachBy_32 : decode cX7_reachBy 32 = .ok (.if_icmp .ne 5, 3) := by decide +kernel
theorem dX7_reachBy_35 : decode cX7_reachBy 35 = .ok (.iconst 0, 1) := by decide +kernel
theorem dX7_reachBy_36 : decode cX7_reachBy 36 = .ok (.ireturn, 1) := by decide +kernel
theorem dX7_reachBy_37 : decode cX7_reachBy 37 = .ok (.iload_n 2, 1) := by decide +kernel
theorem dX7_reachBy_38 : decode cX7_reachBy 38 = .ok (.iload_n 3, 1) := by decide +kernel
theorem dX7_reachBy_39 : decode cX7_reachBy 39 = .ok (.invokestatic 66, 3) := by decide +kernel
theorem dX7_reachBy_42 : decode cX7_reachBy 42 = .ok (.ifCond .eq 37, 3) := by decide +kernel
theorem dX7_reachBy_45 : decode cX7_reachBy 45 = .ok (.aload_n 0, 1) := by decide +kernel
theorem dX7_reachBy_46 : decode cX7_reachBy 46 = .ok (.dup, 1) := by decide +kernel
theorem dX7_reachBy_47 : decode cX7_reachBy 47 = .ok (.getfield 63, 3) := by decide +kernel
theorem dX7_reachBy_50 : decode cX7_reachBy 50 = .ok (.iconst 1, 1) := by decide +kernel
theorem dX7_reachBy_51 : decode cX7_reachBy 51 = .ok (.iload_n 1, 1) := by decide +kernel
theorem dX7_reachBy_52 : decode cX7_reachBy 52 = .ok (.ishl, 1) := by decide +kernel
theorem dX7_reachBy_53 : decode cX7_reachBy 53 = .ok (.ior, 1) := by decide +kernel
theorem dX7_reachBy_54 : decode cX7_reachBy 54 = .ok (.putfield 63, 3) := by decide +kernel
theorem dX7_reachBy_57 : decode cX7_reachBy 57 = .ok (.aload_n 0, 1) := by decide +kernel
theorem dX7_reachBy_58 : decode cX7_reachBy 58 = .ok (.getfield 15, 3) := by decide +kernel
theorem dX7_reachBy_61 : decode cX7_reachBy 61 = .ok (.iload 4, 2) := by decide +kernel
theorem dX7_reachBy_63 : decode cX7_reachBy 63 = .ok (.aload_n 0, 1) := by decide +kernel
theorem dX7_reachBy_64 : decode cX7_reachBy 64 = .ok (.getfield 15, 3) := by decide +kernel
theorem dX7_reachBy_67 : decode cX7_reachBy 67 = .ok (.iload_n 3, 1) := by decide +kernel
theorem dX7_reachBy_68 : decode cX7_reachBy 68 = .ok (.iaload, 1) := by decide +kernel
theorem dX7_reachBy_69 : decode cX7_reachBy 69 = .ok (.iconst 1, 1) := by decide +kernel
theorem dX7_reachBy_70 : decode cX7_reachBy 70 = .ok (.iload_n 1, 1) := by decide +kernel
theorem dX7_reachBy_71 : decode cX7_reachBy 71 = .ok (.ishl, 1) := by decide +kernel
theorem dX7_reachBy_72 : decode cX7_reachBy 72 = .ok (.ior, 1) := by decide +kernel
theorem dX7_reachBy_73 : decode cX7_reachBy 73 = .ok (.iastore, 1) := by decide +kernel
theorem dX7_reachBy_74 : decode cX7_reachBy 74 = .ok (.iconst 1, 1) := by decide +kernel
theorem dX7_reachBy_75 : decode cX7_reachBy 75 = .ok (.iload 4, 2) := by decide +kernel
theorem dX7_reachBy_77 : decode cX7_reachBy 77 = .ok (.ishl, 1) := by decide +kernel
theorem dX7_reachBy_78 : decode cX7_reachBy 78 = .ok (.ireturn, 1) := by decide +kernel
theorem dX7_reachBy_79 : decode cX7_reachBy 79 = .ok (.aload_n 0, 1) := by decide +kernel
theorem dX7_reachBy_80 : decode cX7_reachBy 80 = .ok (.getfield 15, 3) := by decide +kernel
theorem dX7_reachBy_83 : decode cX7_reachBy 83 = .ok (.iload_n 3, 1) := by decide +kernel
theorem dX7_reachBy_84 : decode cX7_reachBy 84 = .ok (.aload_n 0, 1) := by decide +kernel
theorem dX7_reachBy_85 : decode cX7_reachBy 85 = .ok (.getfield 15, 3) := by decide +kernel
theorem dX7_reachBy_88 : decode cX7_reachBy 88 = .ok (.iload 4, 2) := by decide +kernel
theorem dX7_reachBy_90 : decode cX7_reachBy 90 = .ok (.iaload, 1) := by decide +kernel
theorem dX7_reachBy_91 : decode cX7_reachBy 91 = .ok (.iconst 1, 1) := by decide +kernel
theorem dX7_reachBy_92 : decode cX7_reachBy 92 = .ok (.iload_n 1, 1) := by decide +kernel
theorem dX7_reachBy_93 : decode cX7_reachBy 93 = .ok (.ishl, 1) := by decide +kernel
theorem dX7_reachBy_94 : decode cX7_reachBy 94 = .ok (.ior, 1) := by decide +kernel
theorem dX7_reachBy_95 : decode cX7_reachBy 95 = .ok (.iastore, 1) := by decide +kernel
theorem dX7_reachBy_96 : decode cX7_reachBy 96 = .ok (.iconst 1, 1) := by decide +kernel
theorem dX7_reachBy_97 : decode cX7_reachBy 97 = .ok (.iload_n 3, 1) := by decide +kernel
theorem dX7_reachBy_98 : decode cX7_reachBy 98 = .ok (.ishl, 1) := by decide +kernel
theorem dX7_reachBy_99 : decode cX7_reachBy 99 = .ok (.ireturn, 1) := by decide +kernel
set_option maxRecDepth 20000 in
theorem ggX7_reachBy_X8_isIn : GoodIn wsX7_reachBy wsX8_isIn := goodIn_r _ [8] (by decide +kernel) (by decide +kernel)
def D_X7_reachBy : Md := (yX7_reachBy, cX7_reachBy, 5, (some .int), wsX7_reachBy, RX7, { frames := 1, cells := 0, slots := 0, locals := 21 })
theorem nm_X7_reachBy : nmD D_X7_reachBy 2 := ⟨rfl, by decide +kernel, by decide +kernel, by decide +kernel⟩
theorem hi_X7_reachBy_X5 : ∀ w ∈ u_ws RX5 TX5 8, w ∈ wsX7_reachBy := by decide +kernel
theorem hi_X7_reachBy_X7 : ∀ w ∈ u_ws RX7 TX7 6, w ∈ wsX7_reachBy := by decide +kernel
theorem hl_X7_reachBy_15 : Cond.fieldLink RX7 15 "LevelLoops$Tree" "toTop" "[I" ∈ wsX7_reachBy := by decide +kernel
theorem hl_X7_reachBy_21 : Cond.fieldLink RX7 21 "LevelLoops$Tree" "survey" "LLevelLoops$Survey;" ∈ wsX7_reachBy := by decide +kernel
theorem hl_X7_reachBy_38 : Cond.fieldLink RX7 38 "LevelLoops$Survey" "from" "[I" ∈ wsX7_reachBy := by decide +kernel
theorem hl_X7_reachBy_41 : Cond.fieldLink RX7 41 "LevelLoops$Survey" "to" "[I" ∈ wsX7_reachBy := by decide +kernel
theorem hl_X7_reachBy_63 : Cond.fieldLink RX7 63 "LevelLoops$Tree" "downward" "I" ∈ wsX7_reachBy := by decide +kernel
def wp_X7_reachBy (n : Nat) (x1 : Int32) (x2 : Int32) (w : Wd) (Q : Int32 → Wd → Prop) : Prop :=
  vp_in x1 20 ∧ vp_in x1 20 ∧ wp_X8_isIn x2 (wi w n 2 x1.toNatClampNeg) (fun r23 => wp_X8_isIn x2 (wi w n 3 x1.toNatClampNeg) (fun r29 => ((¬ r23 = r29 → wp_X8_isIn x2 (wi w n 2 x1.toNatClampNeg) (fun r39 => ((r39 = 0 → vp_in (wi w n 3 x1.toNatClampNeg) 10 ∧ vp_in (wi w n 2 x1.toNatClampNeg) 10 ∧ (∀ w95 : Wd, w95 = (sI w n 10 (wi w n 2 x1.toNatClampNeg).toNatClampNeg ((wi w n 10 (wi w n 3 x1.toNatClampNeg).toNatClampNeg) ||| ((1 : Int32) <<< (x1 &&& 31)))) → Q ((1 : Int32) <<< ((wi w n 2 x1.toNatClampNeg) &&& 31)) w95)) ∧ (¬ r39 = 0 → (∀ w54 : Wd, w54 = (sI w n 8 1 ((wi w n 8 1) ||| ((1 : Int32) <<< (x1 &&& 31)))) → vp_in (wi w n 2 x1.toNatClampNeg) 10 ∧ vp_in (wi w n 3 x1.toNatClampNeg) 10 ∧ (∀ w73 : Wd, w73 = (sI w54 n 10 (wi w n 3 x1.toNatClampNeg).toNatClampNeg ((wi w54 n 10 (wi w n 2 x1.toNatClampNeg).toNatClampNeg) ||| ((1 : Int32) <<< (x1 &&& 31)))) → Q ((1 : Int32) <<< ((wi w n 3 x1.toNatClampNeg) &&& 31)) w73)))))) ∧ (r23 = r29 → Q (0 : Int32) w))))
theorem ok_X7_reachBy {G : Gt} {M : Mx} {Qf : State → Prop} {n : Nat} {x1 : Int32} {x2 : Int32} {w : Wd} {Q : Int32 → Wd → Prop} (hC : cx G D_X7_reachBy M) (he : en G M (qi Q) Qf) (hn : n < 2) (h : wp_X7_reachBy n x1 x2 w Q) : jq G D_X7_reachBy M Qf 0 [(0, .ref (aD G n 8)), (1, .int x1), (2, .int x2)] [] w := by
  unfold wp_X7_reachBy at h
  refine jq_aload_n (k0 := 0) dX7_reachBy_0 hC rfl rfl ?_
  refine jq_get (k0 := 4) (n := n) (o := 8) dX7_reachBy_1 hC (cl_T (by omega) (by decide)) rfl rfl hi_X7_reachBy_X7 (by decide) hl_X7_reachBy_21 rfl rfl ?_
  refine jq_get (k0 := 3) (n := n) (o := 0) dX7_reachBy_4 hC (cl_S (by omega) (by decide)) rfl rfl hi_X7_reachBy_X5 (by decide) hl_X7_reachBy_38 rfl rfl ?_
  refine jq_iload_n (k0 := 1) dX7_reachBy_7 hC rfl rfl ?_
  obtain ⟨b8, h⟩ := h
  refine jq_iald (n := n) (o := 2) (j := x1.toNatClampNeg) dX7_reachBy_8 hC (cl_S (by omega) (by decide)) rfl b8 rfl ?_
  refine jq_istore_n (L' := [(3, .int (wi w n 2 x1.toNatClampNeg)), (0, .ref (aD G n 8)), (1, .int x1), (2, .int x2)]) dX7_reachBy_9 hC rfl (by decide) rfl ?_
  refine jq_aload_n (k0 := 1) dX7_reachBy_10 hC rfl rfl ?_
  refine jq_get (k0 := 4) (n := n) (o := 8) dX7_reachBy_11 hC (cl_T (by omega) (by decide)) rfl rfl hi_X7_reachBy_X7 (by decide) hl_X7_reachBy_21 rfl rfl ?_
  refine jq_get (k0 := 4) (n := n) (o := 0) dX7_reachBy_14 hC (cl_S (by omega) (by decide)) rfl rfl hi_X7_reachBy_X5 (by decide) hl_X7_reachBy_41 rfl rfl ?_
  refine jq_iload_n (k0 := 2) dX7_reachBy_17 hC rfl rfl ?_
  obtain ⟨b18, h⟩ := h
  refine jq_iald (n := n) (o := 3) (j := x1.toNatClampNeg) dX7_reachBy_18 hC (cl_S (by omega) (by decide)) rfl b18 rfl ?_
  refine jq_istore (L' := [(4, .int (wi w n 3 x1.toNatClampNeg)), (3, .int (wi w n 2 x1.toNatClampNeg)), (0, .ref (aD G n 8)), (1, .int x1), (2, .int x2)]) dX7_reachBy_19 hC (by decide) rfl ?_
  refine jq_iload_n (k0 := 4) dX7_reachBy_21 hC rfl rfl ?_
  refine jq_iload_n (k0 := 1) dX7_reachBy_22 hC rfl rfl ?_
  refine jq_callSN (As := [.int x2, .int (wi w n 2 x1.toNatClampNeg)]) (rest := []) (D' := D_X8_isIn) (host := "LevelLoops") dX7_reachBy_23 hC (mt_X8_isIn h) ggX7_reachBy_X8_isIn rfl (by decide +kernel) (by decide +kernel) (by decide +kernel) ⟨rfl, rfl, Nat.le_of_ble_eq_true rfl, Nat.le_of_ble_eq_true rfl⟩ nm_X8_isIn rfl (Nat.le_of_ble_eq_true rfl) (kIp fun r23 h => ?_)
  refine jq_iload_n (k0 := 4) dX7_reachBy_26 hC rfl rfl ?_
  refine jq_iload (k0 := 0) dX7_reachBy_27 hC rfl ?_
  refine jq_callSN (As := [.int x2, .int (wi w n 3 x1.toNatClampNeg)]) (rest := [.int r23]) (D' := D_X8_isIn) (host := "LevelLoops") dX7_reachBy_29 hC (mt_X8_isIn h) ggX7_reachBy_X8_isIn rfl (by decide +kernel) (by decide +kernel) (by decide +kernel) ⟨rfl, rfl, Nat.le_of_ble_eq_true rfl, Nat.le_of_ble_eq_true rfl⟩ nm_X8_isIn rfl (Nat.le_of_ble_eq_true rfl) (kIp fun r29 h => ?_)
  refine jq_icmp_ne (tgt := 37) dX7_reachBy_32 hC (by decide) (fun c32 => ?_) (fun c32 => ?_)
  · have h := h.1 c32
    refine jq_iload_n (k0 := 4) dX7_reachBy_37 hC rfl rfl ?_
    refine jq_iload_n (k0 := 1) dX7_reachBy_38 hC rfl rfl ?_
    refine jq_callSN (As := [.int x2, .int (wi w n 2 x1.toNatClampNeg)]) (rest := []) (D' := D_X8_isIn) (host := "LevelLoops") dX7_reachBy_39 hC (mt_X8_isIn h) ggX7_reachBy_X8_isIn rfl (by decide +kernel) (by decide +kernel) (by decide +kernel) ⟨rfl, rfl, Nat.le_of_ble_eq_true rfl, Nat.le_of_ble_eq_true rfl⟩ nm_X8_isIn rfl (Nat.le_of_ble_eq_true rfl) (kIp fun r39 h => ?_)
    refine jq_if_eq (tgt := 79) dX7_reachBy_42 hC (by decide) (fun c42 => ?_) (fun c42 => ?_)
    · have h := h.1 c42
      refine jq_aload_n (k0 := 2) dX7_reachBy_79 hC rfl rfl ?_
      refine jq_get (k0 := 3) (n := n) (o := 8) dX7_reachBy_80 hC (cl_T (by omega) (by decide)) rfl rfl hi_X7_reachBy_X7 (by decide) hl_X7_reachBy_15 rfl rfl ?_
      refine jq_iload_n (k0 := 1) dX7_reachBy_83 hC rfl rfl ?_
      refine jq_aload_n (k0 := 2) dX7_reachBy_84 hC rfl rfl ?_
      refine jq_get (k0 := 3) (n := n) (o := 8) dX7_reachBy_85 hC (cl_T (by omega) (by decide)) rfl rfl hi_X7_reachBy_X7 (by decide) hl_X7_reachBy_15 rfl rfl ?_
      refine jq_iload (k0 := 0) dX7_reachBy_88 hC rfl ?_
      obtain ⟨b90, h⟩ := h
      refine jq_iald (n := n) (o := 10) (j := (wi w n 3 x1.toNatClampNeg).toNatClampNeg) dX7_reachBy_90 hC (cl_T (by omega) (by decide)) rfl b90 rfl ?_
      refine jq_iconst (v := (1 : Int32)) dX7_reachBy_91 hC (by decide) ?_
      refine jq_iload_n (k0 := 3) dX7_reachBy_92 hC rfl rfl ?_
      refine jq_ishl dX7_reachBy_93 hC ?_
      refine jq_ior dX7_reachBy_94 hC ?_
      obtain ⟨b95, h⟩ := h
      refine jq_iast (n := n) (o := 10) (j := (wi w n 2 x1.toNatClampNeg).toNatClampNeg) dX7_reachBy_95 hC (cl_T (by omega) (by decide)) (fun _ => rfl) b95 rfl ?_
      refine jq_w (fun w95 e95 => ?_)
      have h := h w95 e95
      refine jq_iconst (v := (1 : Int32)) dX7_reachBy_96 hC (by decide) ?_
      refine jq_iload_n (k0 := 1) dX7_reachBy_97 hC rfl rfl ?_
      refine jq_ishl dX7_reachBy_98 hC ?_
      exact jq_iret dX7_reachBy_99 hC he rfl ⟨_, rfl, h⟩
    · have h := h.2 c42
      refine jq_aload_n (k0 := 2) dX7_reachBy_45 hC rfl rfl ?_
      refine jq_dup dX7_reachBy_46 hC rfl ?_
      refine jq_get (k0 := 1) (n := n) (o := 8) dX7_reachBy_47 hC (cl_T (by omega) (by decide)) rfl rfl hi_X7_reachBy_X7 (by decide) hl_X7_reachBy_63 rfl rfl ?_
      refine jq_iconst (v := (1 : Int32)) dX7_reachBy_50 hC (by decide) ?_
      refine jq_iload_n (k0 := 3) dX7_reachBy_51 hC rfl rfl ?_
      refine jq_ishl dX7_reachBy_52 hC ?_
      refine jq_ior dX7_reachBy_53 hC ?_
      refine jq_put (k0 := 1) (n := n) (o := 8) (ty := .int) (w' := (sI w n 8 1 ((wi w n 8 1) ||| ((1 : Int32) <<< (x1 &&& 31))))) dX7_reachBy_54 hC (cl_T (by omega) (by decide)) rfl rfl hi_X7_reachBy_X7 tyX7 tyX7_ok nmX7 (by decide) hl_X7_reachBy_63 rfl rfl (by decide +kernel) rfl rfl (Nat.le_of_ble_eq_true rfl) (e_8_1 G _ _ _) (fun c _ hne => ent_sA c hne) ?_
      refine jq_w (fun w54 e54 => ?_)
      have h := h w54 e54
      refine jq_aload_n (k0 := 2) dX7_reachBy_57 hC rfl rfl ?_
      refine jq_get (k0 := 3) (n := n) (o := 8) dX7_reachBy_58 hC (cl_T (by omega) (by decide)) rfl rfl hi_X7_reachBy_X7 (by decide) hl_X7_reachBy_15 rfl rfl ?_
      refine jq_iload (k0 := 0) dX7_reachBy_61 hC rfl ?_
      refine jq_aload_n (k0 := 2) dX7_reachBy_63 hC rfl rfl ?_
      refine jq_get (k0 := 3) (n := n) (o := 8) dX7_reachBy_64 hC (cl_T (by omega) (by decide)) rfl rfl hi_X7_reachBy_X7 (by decide) hl_X7_reachBy_15 rfl rfl ?_
      refine jq_iload_n (k0 := 1) dX7_reachBy_67 hC rfl rfl ?_
      obtain ⟨b68, h⟩ := h
      refine jq_iald (n := n) (o := 10) (j := (wi w n 2 x1.toNatClampNeg).toNatClampNeg) dX7_reachBy_68 hC (cl_T (by omega) (by decide)) rfl b68 rfl ?_
      refine jq_iconst (v := (1 : Int32)) dX7_reachBy_69 hC (by decide) ?_
      refine jq_iload_n (k0 := 3) dX7_reachBy_70 hC rfl rfl ?_
      refine jq_ishl dX7_reachBy_71 hC ?_
      refine jq_ior dX7_reachBy_72 hC ?_
      obtain ⟨b73, h⟩ := h
      refine jq_iast (n := n) (o := 10) (j := (wi w n 3 x1.toNatClampNeg).toNatClampNeg) dX7_reachBy_73 hC (cl_T (by omega) (by decide)) (fun _ => rfl) b73 rfl ?_
      refine jq_w (fun w73 e73 => ?_)
      have h := h w73 e73
      refine jq_iconst (v := (1 : Int32)) dX7_reachBy_74 hC (by decide) ?_
      refine jq_iload (k0 := 0) dX7_reachBy_75 hC rfl ?_
      refine jq_ishl dX7_reachBy_77 hC ?_
      exact jq_iret dX7_reachBy_78 hC he rfl ⟨_, rfl, h⟩
  · have h := h.2 c32
    refine jq_iconst (v := (0 : Int32)) dX7_reachBy_35 hC (by decide) ?_
    exact jq_iret dX7_reachBy_36 hC he rfl ⟨_, rfl, h⟩
theorem mt_X7_reachBy {G : Gt} {n : Nat} {x1 : Int32} {x2 : Int32} {w : Wd} {Q : Int32 → Wd → Prop} (hn : n < 2) (h : wp_X7_reachBy n x1 x2 w Q) : Mt G D_X7_reachBy [.ref (aD G n 8), .int x1, .int x2] w (qi Q) := Mt_of (by decide +kernel) rfl rfl (Nat.le_of_ble_eq_true rfl) (fun M Qf hC he => ok_X7_reachBy hC he hn h)
/-! X7.hang()V -/
theorem dX7_hang_0 : decode cX7_hang 0 = .ok (.iconst 0, 1) := by decide +kernel
theorem dX7_hang_1 : decode cX7_hang 1 = .ok (.istore_n 1, 1) := by decide +kernel
theorem dX7_hang_2 : decode cX7_hang 2 = .ok (.aload_n 0, 1) := by decide +kernel
theorem dX7_hang_3 : decode cX7_hang 3 = .ok (.iconst 0, 1) := by decide +kernel
theorem dX7_hang_4 : decode cX7_hang 4 = .ok (.putfield 63, 3) := by decide +kernel
theorem dX7_hang_7 : decode cX7_hang 7 = .ok (.iconst 0, 1) := by decide +kernel
theorem dX7_hang_8 : decode cX7_hang 8 = .ok (.istore_n 2, 1) := by decide +kernel
theorem dX7_hang_9 : decode cX7_hang 9 = .ok (.iload_n 2, 1) := by decide +kernel
theorem dX7_hang_10 : decode cX7_hang 10 = .ok (.aload_n 0, 1) := by decide +kernel
theorem dX7_hang_11 : decode cX7_hang 11 = .ok (.getfield 21, 3) := by decide +kernel
theorem dX7_hang_14 : decode cX7_hang 14 = .ok (.getfield 32, 3) := by decide +kernel
theorem dX7_hang_17 : decode cX7_hang 17 = .ok (.if_icmp .ge 32, 3) := by decide +kernel
theorem dX7_hang_20 : decode cX7_hang 20 = .ok (.aload_n 0, 1) := by decide +kernel
theorem dX7_hang_21 : decode cX7_hang 21 = .ok (.getfield 15, 3) := by decide +kernel
theorem dX7_hang_24 : decode cX7_hang 24 = .ok (.iload_n 2, 1) := by decide +kernel
theorem dX7_hang_25 : decode cX7_hang 25 = .ok (.iconst 0, 1) := by decide +kernel
theorem dX7_hang_26 : decode cX7_hang 26 = .ok (.iastore, 1) := by decide +kernel
theorem dX7_hang_27 : decode cX7_hang 27 = .ok (.aload_n 0, 1) := by decide +kernel
theorem dX7_hang_28 : decode cX7_hang 28 = .ok (.getfield 9, 3) := by decide +kernel
theorem dX7_hang_31 : decode cX7_hang 31 = .ok (.iload_n 2, 1) := by decide +kernel
theorem dX7_hang_32 : decode cX7_hang 32 = .ok (.iaload, 1) := by decide +kernel
theorem dX7_hang_33 : decode cX7_hang 33 = .ok (.iload_n 2, 1) := by decide +kernel
theorem dX7_hang_34 : decode cX7_hang 34 = .ok (.if_icmp .ne 9, 3) := by decide +kernel
theorem dX7_hang_37 : decode cX7_hang 37 = .ok (.iload_n 1, 1) := by decide +kernel
theorem dX7_hang_38 : decode cX7_hang 38 = .ok (.iconst 1, 1) := by decide +kernel
theorem dX7_hang_39 : decode cX7_hang 39 = .ok (.iload_n 2, 1) := by decide +kernel
theorem dX7_hang_40 : decode cX7_hang 40 = .ok (.ishl, 1) := by decide +kernel
theorem dX7_hang_41 : decode cX7_hang 41 = .ok (.ior, 1) := by decide +kernel
theorem dX7_hang_42 : decode cX7_hang 42 = .ok (.istore_n 1, 1) := by decide +kernel
theorem dX7_hang_43 : decode cX7_hang 43 = .ok (.iinc 2 1, 3) := by decide +kernel
theorem dX7_hang_46 : decode cX7_hang 46 = .ok (.goto (-37), 3) := by decide +kernel
theorem dX7_hang_49 : decode cX7_hang 49 = .ok (.iconst 1, 1) := by decide +kernel
theorem dX7_hang_50 : decode cX7_hang 50 = .ok (.aload_n 0, 1) := by decide +kernel
theorem dX7_hang_51 : decode cX7_hang 51 = .ok (.getfield 21, 3) := by decide +kernel
theorem dX7_hang_54 : decode cX7_hang 54 = .ok (.getfield 32, 3) := by decide +kernel
theorem dX7_hang_57 : decode cX7_hang 57 = .ok (.ishl, 1) := by decide +kernel
theorem dX7_hang_58 : decode cX7_hang 58 = .ok (.iconst 1, 1) := by decide +kernel
theorem dX7_hang_59 : decode cX7_hang 59 = .ok (.isub, 1) := by decide +kernel
theorem dX7_hang_60 : decode cX7_hang 60 = .ok (.istore_n 2, 1) := by decide +kernel
theorem dX7_hang_61 : decode cX7_hang 61 = .ok (.iconst 1, 1) := by decide +kernel
theorem dX7_hang_62 : decode cX7_hang 62 = .ok (.istore_n 3, 1) := by decide +kernel
theorem dX7_hang_63 : decode cX7_hang 63 = .ok (.iload_n 3, 1) := by decide +kernel
theorem dX7_hang_64 : decode cX7_hang 64 = .ok (.aload_n 0, 1) := by decide +kernel
theorem dX7_hang_65 : decode cX7_hang 65 = .ok (.getfield 21, 3) := by decide +kernel
theorem dX7_hang_68 : decode cX7_hang 68 = .ok (.getfield 32, 3) := by decide +kernel
theorem dX7_hang_71 : decode cX7_hang 71 = .ok (.if_icmp .ge 57, 3) := by decide +kernel
theorem dX7_hang_74 : decode cX7_hang 74 = .ok (.iload_n 1, 1) := by decide +kernel
theorem dX7_hang_75 : decode cX7_hang 75 = .ok (.iload_n 2, 1) := by decide +kernel
theorem dX7_hang_76 : decode cX7_hang 76 = .ok (.if_icmp .eq 52, 3) := by decide +kernel
theorem dX7_hang_79 : decode cX7_hang 79 = .ok (.iconst 0, 1) := by decide +kernel
theorem dX7_hang_80 : decode cX7_hang 80 = .ok (.istore 4, 2) := by decide +kernel
theorem dX7_hang_82 : decode cX7_hang 82 = .ok (.iload 4, 2) := by decide +kernel
theorem dX7_hang_84 : decode cX7_hang 84 = .ok (.aload_n 0, 1) := by decide +kernel
theorem dX7_hang_85 : decode cX7_hang 85 = .ok (.getfield 21, 3) := by decide +kernel
theorem dX7_hang_88 : decode cX7_hang 88 = .ok (.getfield 37, 3) := by decide +kernel
theorem dX7_hang_91 : decode cX7_hang 91 = .ok (.if_icmp .ge 31, 3) := by decide +kernel
theorem dX7_hang_94 : decode cX7_hang 94 = .ok (.aload_n 0, 1) := by decide +kernel
theorem dX7_hang_95 : decode cX7_hang 95 = .ok (.getfield 28, 3) := by decide +kernel
theorem dX7_hang_98 : decode cX7_hang 98 = .ok (.iload 4, 2) := by decide +kernel
theorem dX7_hang_100 : decode cX7_hang 100 = .ok (.invokestatic 66, 3) := by decide +kernel
theorem dX7_hang_103 : decode cX7_hang 103 = .ok (.ifCond .eq 13, 3) := by decide +kernel
theorem dX7_hang_106 : decode cX7_hang 106 = .ok (.iload_n 1, 1) := by decide +kernel
theorem dX7_hang_107 : decode cX7_hang 107 = .ok (.aload_n 0, 1) := by decide +kernel
theorem dX7_hang_108 : decode cX7_hang 108 = .ok (.iload 4, 2) := by decide +kernel
theorem dX7_hang_110 : decode cX7_hang 110 = .ok (.iload_n 1, 1) := by decide +kernel
theorem dX7_hang_111 : decode cX7_hang 111 = .ok (.invokevirtual 70, 3) := by decide +kernel
theorem dX7_hang_114 : decode cX7_hang 114 = .ok (.ior, 1) := by decide +kernel
theorem dX7_hang_115 : decode cX7_hang 115 = .ok (.istore_n 1, 1) := by decide +kernel
theorem dX7_hang_116 : decode cX7_hang 116 = .ok (.iinc 4 1, 3) := by decide +kernel
theorem dX7_hang_119 : decode cX7_hang 119 = .ok (.goto (-37), 3) := by decide +kernel
theorem dX7_hang_122 : decode cX7_hang 122 = .ok (.iinc 3 1, 3) := by decide +kernel
theorem dX7_hang_125 : decode cX7_hang 125 = .ok (.goto (-62), 3) := by decide +kernel
theorem dX7_hang_128 : decode cX7_hang 128 = .ok (.return_, 1) := by decide +kernel
set_option maxRecDepth 20000 in
theorem ggX7_hang_X7_reachBy : GoodIn wsX7_hang wsX7_reachBy := goodIn_r _ [15, 2, 16, 17, 1, 4, 8, 9, 10, 18, 19, 20, 21, 22, 23, 24, 25, 26, 27, 28, 29, 30, 31] (by decide +kernel) (by decide +kernel)
set_option maxRecDepth 20000 in
theorem gX7_hang_X7_reachBy : GoodIn wsX7_hang (wsV RX7 70 RX7 yX7_reachBy wsX7_reachBy) := goodIn_app (goodIn_of _ (by decide +kernel)) ggX7_hang_X7_reachBy
set_option maxRecDepth 20000 in
theorem ggX7_hang_X8_isIn : GoodIn wsX7_hang wsX8_isIn := goodIn_r _ [10] (by decide +kernel) (by decide +kernel)
def D_X7_hang : Md := (yX7_hang, cX7_hang, 5, none, wsX7_hang, RX7, { frames := 2, cells := 0, slots := 0, locals := 45 })
theorem nm_X7_hang : nmD D_X7_hang 0 := ⟨rfl, by decide +kernel, by decide +kernel, by decide +kernel⟩
theorem hi_X7_hang_X5 : ∀ w ∈ u_ws RX5 TX5 8, w ∈ wsX7_hang := by decide +kernel
theorem hi_X7_hang_X7 : ∀ w ∈ u_ws RX7 TX7 6, w ∈ wsX7_hang := by decide +kernel
theorem hl_X7_hang_9 : Cond.fieldLink RX7 9 "LevelLoops$Tree" "net" "[I" ∈ wsX7_hang := by decide +kernel
theorem hl_X7_hang_15 : Cond.fieldLink RX7 15 "LevelLoops$Tree" "toTop" "[I" ∈ wsX7_hang := by decide +kernel
theorem hl_X7_hang_21 : Cond.fieldLink RX7 21 "LevelLoops$Tree" "survey" "LLevelLoops$Survey;" ∈ wsX7_hang := by decide +kernel
theorem hl_X7_hang_28 : Cond.fieldLink RX7 28 "LevelLoops$Tree" "legs" "I" ∈ wsX7_hang := by decide +kernel
theorem hl_X7_hang_32 : Cond.fieldLink RX7 32 "LevelLoops$Survey" "marks" "I" ∈ wsX7_hang := by decide +kernel
theorem hl_X7_hang_37 : Cond.fieldLink RX7 37 "LevelLoops$Survey" "legs" "I" ∈ wsX7_hang := by decide +kernel
theorem hl_X7_hang_63 : Cond.fieldLink RX7 63 "LevelLoops$Tree" "downward" "I" ∈ wsX7_hang := by decide +kernel
def wp_X7_hang_B82 (n : Nat) (x1 : Int32) (x2 : Int32) (x3 : Int32) (x4 : Int32) (w : Wd) (Q : Wd → Prop) (K63 : Int32 → Int32 → Wd → Prop) (K82 : Int32 → Int32 → Wd → Prop) : Prop :=
  (((wi w n 0 1) ≤ x4 → K63 x1 (x3 + 1) w) ∧ (¬ (wi w n 0 1) ≤ x4 → wp_X8_isIn (wi w n 8 0) x4 (fun r100 => ((r100 = 0 → K82 x1 (x4 + 1) w) ∧ (¬ r100 = 0 → wp_X7_reachBy n x4 x1 w (fun r111 w111 => K82 (x1 ||| r111) (x4 + 1) w111))))))
def wp_X7_hang_L82 (n : Nat) (x1 : Int32) (x2 : Int32) (x3 : Int32) (x4 : Int32) (w : Wd) (Q : Wd → Prop) (K63 : Int32 → Int32 → Wd → Prop) : Prop :=
  ∃ (I : Int32 → Int32 → Wd → Prop) (μ : Int32 → Int32 → Wd → Nat), I x1 x4 w ∧ ∀ (x1 : Int32) (x4 : Int32) (w : Wd), I x1 x4 w → wp_X7_hang_B82 n x1 x2 x3 x4 w Q K63 (fun x1' x4' w' => I x1' x4' w' ∧ μ x1' x4' w' < μ x1 x4 w)
def wp_X7_hang_B63 (n : Nat) (x1 : Int32) (x2 : Int32) (x3 : Int32) (w : Wd) (Q : Wd → Prop) (K63 : Int32 → Int32 → Wd → Prop) : Prop :=
  (((wi w n 0 0) ≤ x3 → Q w) ∧ (¬ (wi w n 0 0) ≤ x3 → ((x1 = x2 → Q w) ∧ (¬ x1 = x2 → wp_X7_hang_L82 n x1 x2 x3 (0 : Int32) w Q K63))))
def wp_X7_hang_L63 (n : Nat) (x1 : Int32) (x2 : Int32) (x3 : Int32) (w : Wd) (Q : Wd → Prop) : Prop :=
  ∃ (I : Int32 → Int32 → Wd → Prop) (μ : Int32 → Int32 → Wd → Nat), I x1 x3 w ∧ ∀ (x1 : Int32) (x3 : Int32) (w : Wd), I x1 x3 w → wp_X7_hang_B63 n x1 x2 x3 w Q (fun x1' x3' w' => I x1' x3' w' ∧ μ x1' x3' w' < μ x1 x3 w)
def wp_X7_hang_B9 (n : Nat) (x1 : Int32) (x2 : Int32) (w : Wd) (Q : Wd → Prop) (K9 : Int32 → Int32 → Wd → Prop) : Prop :=
  (((wi w n 0 0) ≤ x2 → wp_X7_hang_L63 n x1 (((1 : Int32) <<< ((wi w n 0 0) &&& 31)) - (1 : Int32)) (1 : Int32) w Q) ∧ (¬ (wi w n 0 0) ≤ x2 → vp_in x2 10 ∧ (∀ w26 : Wd, w26 = (sI w n 10 x2.toNatClampNeg (0 : Int32)) → vp_in x2 10 ∧ ((¬ (wi w26 n 9 x2.toNatClampNeg) = x2 → K9 x1 (x2 + 1) w26) ∧ ((wi w26 n 9 x2.toNatClampNeg) = x2 → K9 (x1 ||| ((1 : Int32) <<< (x2 &&& 31))) (x2 + 1) w26)))))
def wp_X7_hang_L9 (n : Nat) (x1 : Int32) (x2 : Int32) (w : Wd) (Q : Wd → Prop) : Prop :=
  ∃ (I : Int32 → Int32 → Wd → Prop) (μ : Int32 → Int32 → Wd → Nat), I x1 x2 w ∧ ∀ (x1 : Int32) (x2 : Int32) (w : Wd), I x1 x2 w → wp_X7_hang_B9 n x1 x2 w Q (fun x1' x2' w' => I x1' x2' w' ∧ μ x1' x2' w' < μ x1 x2 w)
def wp_X7_hang (n : Nat) (w : Wd) (Q : Wd → Prop) : Prop :=
  (∀ w4 : Wd, w4 = (sI w n 8 1 (0 : Int32)) → wp_X7_hang_L9 n (0 : Int32) (0 : Int32) w4 Q)
theorem ok_X7_hang_B82 {G : Gt} {M : Mx} {Qf : State → Prop} {n : Nat} {x1 : Int32} {x2 : Int32} {x3 : Int32} {x4 : Int32} {w : Wd} {Q : Wd → Prop} {K63 : Int32 → Int32 → Wd → Prop} {K82 : Int32 → Int32 → Wd → Prop} (hC : cx G D_X7_hang M) (he : en G M (qv Q) Qf) (hn : n < 2) (h : wp_X7_hang_B82 n x1 x2 x3 x4 w Q K63 K82) (hK63 : ∀ (x1 : Int32) (x3 : Int32) (w : Wd), K63 x1 x3 w → jq G D_X7_hang M Qf 63 [(0, .ref (aD G n 8)), (1, .int x1), (2, .int x2), (3, .int x3)] [] w) (hK82 : ∀ (x1 : Int32) (x4 : Int32) (w : Wd), K82 x1 x4 w → jq G D_X7_hang M Qf 82 [(0, .ref (aD G n 8)), (1, .int x1), (2, .int x2), (3, .int x3), (4, .int x4)] [] w) : jq G D_X7_hang M Qf 82 [(0, .ref (aD G n 8)), (1, .int x1), (2, .int x2), (3, .int x3), (4, .int x4)] [] w := by
  unfold wp_X7_hang_B82 at h
  refine jq_iload (k0 := 4) dX7_hang_82 hC rfl ?_
  refine jq_aload_n (k0 := 0) dX7_hang_84 hC rfl rfl ?_
  refine jq_get (k0 := 4) (n := n) (o := 8) dX7_hang_85 hC (cl_T (by omega) (by decide)) rfl rfl hi_X7_hang_X7 (by decide) hl_X7_hang_21 rfl rfl ?_
  refine jq_get (k0 := 1) (n := n) (o := 0) dX7_hang_88 hC (cl_S (by omega) (by decide)) rfl rfl hi_X7_hang_X5 (by decide) hl_X7_hang_37 rfl rfl ?_
  refine jq_icmp_ge (tgt := 122) dX7_hang_91 hC (by decide) (fun c91 => ?_) (fun c91 => ?_)
  · have h := h.1 c91
    refine jq_iinc (k0 := 3) (v := (x3 + 1)) (L' := [(3, .int (x3 + 1)), (0, .ref (aD G n 8)), (1, .int x1), (2, .int x2), (4, .int x4)]) dX7_hang_122 hC rfl rfl (by decide) rfl ?_
    refine jq_goto (tgt := 63) dX7_hang_125 hC (by decide) ?_
    exact jq_less (L' := [(0, .ref (aD G n 8)), (1, .int x1), (2, .int x2), (3, .int (x3 + 1))]) [1, 2, 3, 0] rfl (hK63 _ _ _ h)
  · have h := h.2 c91
    refine jq_aload_n (k0 := 0) dX7_hang_94 hC rfl rfl ?_
    refine jq_get (k0 := 0) (n := n) (o := 8) dX7_hang_95 hC (cl_T (by omega) (by decide)) rfl rfl hi_X7_hang_X7 (by decide) hl_X7_hang_28 rfl rfl ?_
    refine jq_iload (k0 := 4) dX7_hang_98 hC rfl ?_
    refine jq_callSN (As := [.int (wi w n 8 0), .int x4]) (rest := []) (D' := D_X8_isIn) (host := "LevelLoops") dX7_hang_100 hC (mt_X8_isIn h) ggX7_hang_X8_isIn rfl (by decide +kernel) (by decide +kernel) (by decide +kernel) ⟨rfl, rfl, Nat.le_of_ble_eq_true rfl, Nat.le_of_ble_eq_true rfl⟩ nm_X8_isIn rfl (Nat.le_of_ble_eq_true rfl) (kIp fun r100 h => ?_)
    refine jq_if_eq (tgt := 116) dX7_hang_103 hC (by decide) (fun c103 => ?_) (fun c103 => ?_)
    · have h := h.1 c103
      refine jq_iinc (k0 := 4) (v := (x4 + 1)) (L' := [(4, .int (x4 + 1)), (0, .ref (aD G n 8)), (1, .int x1), (2, .int x2), (3, .int x3)]) dX7_hang_116 hC rfl rfl (by decide) rfl ?_
      refine jq_goto (tgt := 82) dX7_hang_119 hC (by decide) ?_
      exact jq_less (L' := [(0, .ref (aD G n 8)), (1, .int x1), (2, .int x2), (3, .int x3), (4, .int (x4 + 1))]) [1, 2, 3, 4, 0] rfl (hK82 _ _ _ h)
    · have h := h.2 c103
      refine jq_iload_n (k0 := 1) dX7_hang_106 hC rfl rfl ?_
      refine jq_aload_n (k0 := 0) dX7_hang_107 hC rfl rfl ?_
      refine jq_iload (k0 := 4) dX7_hang_108 hC rfl ?_
      refine jq_iload_n (k0 := 1) dX7_hang_110 hC rfl rfl ?_
      refine jq_callV (As := [.int x4, .int x1]) (rest := [.int x1]) (n := n) (o := 8) (D' := D_X7_reachBy) dX7_hang_111 hC (cl_T (by omega) (by decide)) rfl rfl rfl (mt_X7_reachBy (by omega) h) gX7_hang_X7_reachBy rfl ⟨rfl, rfl, Nat.le_of_ble_eq_true rfl, Nat.le_of_ble_eq_true rfl⟩ nm_X7_reachBy rfl (Nat.le_of_ble_eq_true rfl) (kI fun r111 w111 h => ?_)
      refine jq_ior dX7_hang_114 hC ?_
      refine jq_istore_n (L' := [(1, .int (x1 ||| r111)), (0, .ref (aD G n 8)), (2, .int x2), (3, .int x3), (4, .int x4)]) dX7_hang_115 hC rfl (by decide) rfl ?_
      refine jq_iinc (k0 := 4) (v := (x4 + 1)) (L' := [(4, .int (x4 + 1)), (1, .int (x1 ||| r111)), (0, .ref (aD G n 8)), (2, .int x2), (3, .int x3)]) dX7_hang_116 hC rfl rfl (by decide) rfl ?_
      refine jq_goto (tgt := 82) dX7_hang_119 hC (by decide) ?_
      exact jq_less (L' := [(0, .ref (aD G n 8)), (1, .int (x1 ||| r111)), (2, .int x2), (3, .int x3), (4, .int (x4 + 1))]) [2, 1, 3, 4, 0] rfl (hK82 _ _ _ h)
theorem ok_X7_hang_L82 {G : Gt} {M : Mx} {Qf : State → Prop} {n : Nat} {x1 : Int32} {x2 : Int32} {x3 : Int32} {x4 : Int32} {w : Wd} {Q : Wd → Prop} {K63 : Int32 → Int32 → Wd → Prop} (hC : cx G D_X7_hang M) (he : en G M (qv Q) Qf) (hn : n < 2) (h : wp_X7_hang_L82 n x1 x2 x3 x4 w Q K63) (hK63 : ∀ (x1 : Int32) (x3 : Int32) (w : Wd), K63 x1 x3 w → jq G D_X7_hang M Qf 63 [(0, .ref (aD G n 8)), (1, .int x1), (2, .int x2), (3, .int x3)] [] w) : jq G D_X7_hang M Qf 82 [(0, .ref (aD G n 8)), (1, .int x1), (2, .int x2), (3, .int x3), (4, .int x4)] [] w := by
  unfold wp_X7_hang_L82 at h
  obtain ⟨I, μ, h0, hs⟩ := h
  exact lp_ind (σ := Int32 × Int32 × Wd) (P := fun s => jq G D_X7_hang M Qf 82 [(0, .ref (aD G n 8)), (1, .int s.1), (2, .int x2), (3, .int x3), (4, .int s.2.1)] [] s.2.2) (fun s => I s.1 s.2.1 s.2.2) (fun s => μ s.1 s.2.1 s.2.2) (fun s h1 ih => ok_X7_hang_B82 hC he hn (hs s.1 s.2.1 s.2.2 h1) hK63 (fun x1' x4' w' h => ih (x1', x4', w') h.1 h.2)) (x1, x4, w) h0
theorem ok_X7_hang_B63 {G : Gt} {M : Mx} {Qf : State → Prop} {n : Nat} {x1 : Int32} {x2 : Int32} {x3 : Int32} {w : Wd} {Q : Wd → Prop} {K63 : Int32 → Int32 → Wd → Prop} (hC : cx G D_X7_hang M) (he : en G M (qv Q) Qf) (hn : n < 2) (h : wp_X7_hang_B63 n x1 x2 x3 w Q K63) (hK63 : ∀ (x1 : Int32) (x3 : Int32) (w : Wd), K63 x1 x3 w → jq G D_X7_hang M Qf 63 [(0, .ref (aD G n 8)), (1, .int x1), (2, .int x2), (3, .int x3)] [] w) : jq G D_X7_hang M Qf 63 [(0, .ref (aD G n 8)), (1, .int x1), (2, .int x2), (3, .int x3)] [] w := by
  unfold wp_X7_hang_B63 at h
  refine jq_iload_n (k0 := 3) dX7_hang_63 hC rfl rfl ?_
  refine jq_aload_n (k0 := 0) dX7_hang_64 hC rfl rfl ?_
  refine jq_get (k0 := 4) (n := n) (o := 8) dX7_hang_65 hC (cl_T (by omega) (by decide)) rfl rfl hi_X7_hang_X7 (by decide) hl_X7_hang_21 rfl rfl ?_
  refine jq_get (k0 := 0) (n := n) (o := 0) dX7_hang_68 hC (cl_S (by omega) (by decide)) rfl rfl hi_X7_hang_X5 (by decide) hl_X7_hang_32 rfl rfl ?_
  refine jq_icmp_ge (tgt := 128) dX7_hang_71 hC (by decide) (fun c71 => ?_) (fun c71 => ?_)
  · have h := h.1 c71
    exact jq_vret dX7_hang_128 hC he rfl ⟨rfl, h⟩
  · have h := h.2 c71
    refine jq_iload_n (k0 := 1) dX7_hang_74 hC rfl rfl ?_
    refine jq_iload_n (k0 := 2) dX7_hang_75 hC rfl rfl ?_
    refine jq_icmp_eq (tgt := 128) dX7_hang_76 hC (by decide) (fun c76 => ?_) (fun c76 => ?_)
    · have h := h.1 c76
      exact jq_vret dX7_hang_128 hC he rfl ⟨rfl, h⟩
    · have h := h.2 c76
      refine jq_iconst (v := (0 : Int32)) dX7_hang_79 hC (by decide) ?_
      refine jq_istore (L' := [(4, .int (0 : Int32)), (0, .ref (aD G n 8)), (1, .int x1), (2, .int x2), (3, .int x3)]) dX7_hang_80 hC (by decide) rfl ?_
      refine jq_less (L' := [(0, .ref (aD G n 8)), (1, .int x1), (2, .int x2), (3, .int x3), (4, .int (0 : Int32))]) [1, 2, 3, 4, 0] rfl ?_
      exact ok_X7_hang_L82 hC he hn h hK63
theorem ok_X7_hang_L63 {G : Gt} {M : Mx} {Qf : State → Prop} {n : Nat} {x1 : Int32} {x2 : Int32} {x3 : Int32} {w : Wd} {Q : Wd → Prop} (hC : cx G D_X7_hang M) (he : en G M (qv Q) Qf) (hn : n < 2) (h : wp_X7_hang_L63 n x1 x2 x3 w Q) : jq G D_X7_hang M Qf 63 [(0, .ref (aD G n 8)), (1, .int x1), (2, .int x2), (3, .int x3)] [] w := by
  unfold wp_X7_hang_L63 at h
  obtain ⟨I, μ, h0, hs⟩ := h
  exact lp_ind (σ := Int32 × Int32 × Wd) (P := fun s => jq G D_X7_hang M Qf 63 [(0, .ref (aD G n 8)), (1, .int s.1), (2, .int x2), (3, .int s.2.1)] [] s.2.2) (fun s => I s.1 s.2.1 s.2.2) (fun s => μ s.1 s.2.1 s.2.2) (fun s h1 ih => ok_X7_hang_B63 hC he hn (hs s.1 s.2.1 s.2.2 h1) (fun x1' x3' w' h => ih (x1', x3', w') h.1 h.2)) (x1, x3, w) h0
theorem ok_X7_hang_B9 {G : Gt} {M : Mx} {Qf : State → Prop} {n : Nat} {x1 : Int32} {x2 : Int32} {w : Wd} {Q : Wd → Prop} {K9 : Int32 → Int32 → Wd → Prop} (hC : cx G D_X7_hang M) (he : en G M (qv Q) Qf) (hn : n < 2) (h : wp_X7_hang_B9 n x1 x2 w Q K9) (hK9 : ∀ (x1 : Int32) (x2 : Int32) (w : Wd), K9 x1 x2 w → jq G D_X7_hang M Qf 9 [(0, .ref (aD G n 8)), (1, .int x1), (2, .int x2)] [] w) : jq G D_X7_hang M Qf 9 [(0, .ref (aD G n 8)), (1, .int x1), (2, .int x2)] [] w := by
  unfold wp_X7_hang_B9 at h
  refine jq_iload_n (k0 := 2) dX7_hang_9 hC rfl rfl ?_
  refine jq_aload_n (k0 := 0) dX7_hang_10 hC rfl rfl ?_
  refine jq_get (k0 := 4) (n := n) (o := 8) dX7_hang_11 hC (cl_T (by omega) (by decide)) rfl rfl hi_X7_hang_X7 (by decide) hl_X7_hang_21 rfl rfl ?_
  refine jq_get (k0 := 0) (n := n) (o := 0) dX7_hang_14 hC (cl_S (by omega) (by decide)) rfl rfl hi_X7_hang_X5 (by decide) hl_X7_hang_32 rfl rfl ?_
  refine jq_icmp_ge (tgt := 49) dX7_hang_17 hC (by decide) (fun c17 => ?_) (fun c17 => ?_)
  · have h := h.1 c17
    refine jq_iconst (v := (1 : Int32)) dX7_hang_49 hC (by decide) ?_
    refine jq_aload_n (k0 := 0) dX7_hang_50 hC rfl rfl ?_
    refine jq_get (k0 := 4) (n := n) (o := 8) dX7_hang_51 hC (cl_T (by omega) (by decide)) rfl rfl hi_X7_hang_X7 (by decide) hl_X7_hang_21 rfl rfl ?_
    refine jq_get (k0 := 0) (n := n) (o := 0) dX7_hang_54 hC (cl_S (by omega) (by decide)) rfl rfl hi_X7_hang_X5 (by decide) hl_X7_hang_32 rfl rfl ?_
    refine jq_ishl dX7_hang_57 hC ?_
    refine jq_iconst (v := (1 : Int32)) dX7_hang_58 hC (by decide) ?_
    refine jq_isub dX7_hang_59 hC ?_
    refine jq_istore_n (L' := [(2, .int (((1 : Int32) <<< ((wi w n 0 0) &&& 31)) - (1 : Int32))), (0, .ref (aD G n 8)), (1, .int x1)]) dX7_hang_60 hC rfl (by decide) rfl ?_
    refine jq_iconst (v := (1 : Int32)) dX7_hang_61 hC (by decide) ?_
    refine jq_istore_n (L' := [(3, .int (1 : Int32)), (2, .int (((1 : Int32) <<< ((wi w n 0 0) &&& 31)) - (1 : Int32))), (0, .ref (aD G n 8)), (1, .int x1)]) dX7_hang_62 hC rfl (by decide) rfl ?_
    refine jq_less (L' := [(0, .ref (aD G n 8)), (1, .int x1), (2, .int (((1 : Int32) <<< ((wi w n 0 0) &&& 31)) - (1 : Int32))), (3, .int (1 : Int32))]) [2, 3, 1, 0] rfl ?_
    exact ok_X7_hang_L63 hC he hn h
  · have h := h.2 c17
    refine jq_aload_n (k0 := 0) dX7_hang_20 hC rfl rfl ?_
    refine jq_get (k0 := 3) (n := n) (o := 8) dX7_hang_21 hC (cl_T (by omega) (by decide)) rfl rfl hi_X7_hang_X7 (by decide) hl_X7_hang_15 rfl rfl ?_
    refine jq_iload_n (k0 := 2) dX7_hang_24 hC rfl rfl ?_
    refine jq_iconst (v := (0 : Int32)) dX7_hang_25 hC (by decide) ?_
    obtain ⟨b26, h⟩ := h
    refine jq_iast (n := n) (o := 10) (j := x2.toNatClampNeg) dX7_hang_26 hC (cl_T (by omega) (by decide)) (fun _ => rfl) b26 rfl ?_
    refine jq_w (fun w26 e26 => ?_)
    have h := h w26 e26
    refine jq_aload_n (k0 := 0) dX7_hang_27 hC rfl rfl ?_
    refine jq_get (k0 := 2) (n := n) (o := 8) dX7_hang_28 hC (cl_T (by omega) (by decide)) rfl rfl hi_X7_hang_X7 (by decide) hl_X7_hang_9 rfl rfl ?_
    refine jq_iload_n (k0 := 2) dX7_hang_31 hC rfl rfl ?_
    obtain ⟨b32, h⟩ := h
    refine jq_iald (n := n) (o := 9) (j := x2.toNatClampNeg) dX7_hang_32 hC (cl_T (by omega) (by decide)) rfl b32 rfl ?_
    refine jq_iload_n (k0 := 2) dX7_hang_33 hC rfl rfl ?_
    refine jq_icmp_ne (tgt := 43) dX7_hang_34 hC (by decide) (fun c34 => ?_) (fun c34 => ?_)
    · have h := h.1 c34
      refine jq_iinc (k0 := 2) (v := (x2 + 1)) (L' := [(2, .int (x2 + 1)), (0, .ref (aD G n 8)), (1, .int x1)]) dX7_hang_43 hC rfl rfl (by decide) rfl ?_
      refine jq_goto (tgt := 9) dX7_hang_46 hC (by decide) ?_
      exact jq_less (L' := [(0, .ref (aD G n 8)), (1, .int x1), (2, .int (x2 + 1))]) [1, 2, 0] rfl (hK9 _ _ _ h)
    · have h := h.2 c34
      refine jq_iload_n (k0 := 1) dX7_hang_37 hC rfl rfl ?_
      refine jq_iconst (v := (1 : Int32)) dX7_hang_38 hC (by decide) ?_
      refine jq_iload_n (k0 := 2) dX7_hang_39 hC rfl rfl ?_
      refine jq_ishl dX7_hang_40 hC ?_
      refine jq_ior dX7_hang_41 hC ?_
      refine jq_istore_n (L' := [(1, .int (x1 ||| ((1 : Int32) <<< (x2 &&& 31)))), (0, .ref (aD G n 8)), (2, .int x2)]) dX7_hang_42 hC rfl (by decide) rfl ?_
      refine jq_iinc (k0 := 2) (v := (x2 + 1)) (L' := [(2, .int (x2 + 1)), (1, .int (x1 ||| ((1 : Int32) <<< (x2 &&& 31)))), (0, .ref (aD G n 8))]) dX7_hang_43 hC rfl rfl (by decide) rfl ?_
      refine jq_goto (tgt := 9) dX7_hang_46 hC (by decide) ?_
      exact jq_less (L' := [(0, .ref (aD G n 8)), (1, .int (x1 ||| ((1 : Int32) <<< (x2 &&& 31)))), (2, .int (x2 + 1))]) [2, 1, 0] rfl (hK9 _ _ _ h)
theorem ok_X7_hang_L9 {G : Gt} {M : Mx} {Qf : State → Prop} {n : Nat} {x1 : Int32} {x2 : Int32} {w : Wd} {Q : Wd → Prop} (hC : cx G D_X7_hang M) (he : en G M (qv Q) Qf) (hn : n < 2) (h : wp_X7_hang_L9 n x1 x2 w Q) : jq G D_X7_hang M Qf 9 [(0, .ref (aD G n 8)), (1, .int x1), (2, .int x2)] [] w := by
  unfold wp_X7_hang_L9 at h
  obtain ⟨I, μ, h0, hs⟩ := h
  exact lp_ind (σ := Int32 × Int32 × Wd) (P := fun s => jq G D_X7_hang M Qf 9 [(0, .ref (aD G n 8)), (1, .int s.1), (2, .int s.2.1)] [] s.2.2) (fun s => I s.1 s.2.1 s.2.2) (fun s => μ s.1 s.2.1 s.2.2) (fun s h1 ih => ok_X7_hang_B9 hC he hn (hs s.1 s.2.1 s.2.2 h1) (fun x1' x2' w' h => ih (x1', x2', w') h.1 h.2)) (x1, x2, w) h0
theorem ok_X7_hang {G : Gt} {M : Mx} {Qf : State → Prop} {n : Nat} {w : Wd} {Q : Wd → Prop} (hC : cx G D_X7_hang M) (he : en G M (qv Q) Qf) (hn : n < 2) (h : wp_X7_hang n w Q) : jq G D_X7_hang M Qf 0 [(0, .ref (aD G n 8))] [] w := by
  unfold wp_X7_hang at h
  refine jq_iconst (v := (0 : Int32)) dX7_hang_0 hC (by decide) ?_
  refine jq_istore_n (L' := [(1, .int (0 : Int32)), (0, .ref (aD G n 8))]) dX7_hang_1 hC rfl (by decide) rfl ?_
  refine jq_aload_n (k0 := 1) dX7_hang_2 hC rfl rfl ?_
  refine jq_iconst (v := (0 : Int32)) dX7_hang_3 hC (by decide) ?_
  refine jq_put (k0 := 1) (n := n) (o := 8) (ty := .int) (w' := (sI w n 8 1 (0 : Int32))) dX7_hang_4 hC (cl_T (by omega) (by decide)) rfl rfl hi_X7_hang_X7 tyX7 tyX7_ok nmX7 (by decide) hl_X7_hang_63 rfl rfl (by decide +kernel) rfl rfl (Nat.le_of_ble_eq_true rfl) (e_8_1 G _ _ _) (fun c _ hne => ent_sA c hne) ?_
  refine jq_w (fun w4 e4 => ?_)
  have h := h w4 e4
  refine jq_iconst (v := (0 : Int32)) dX7_hang_7 hC (by decide) ?_
  refine jq_istore_n (L' := [(2, .int (0 : Int32)), (1, .int (0 : Int32)), (0, .ref (aD G n 8))]) dX7_hang_8 hC rfl (by decide) rfl ?_
  refine jq_less (L' := [(0, .ref (aD G n 8)), (1, .int (0 : Int32)), (2, .int (0 : Int32))]) [2, 1, 0] rfl ?_
  exact ok_X7_hang_L9 hC he hn h
theorem mt_X7_hang {G : Gt} {n : Nat} {w : Wd} {Q : Wd → Prop} (hn : n < 2) (h : wp_X7_hang n w Q) : Mt G D_X7_hang [.ref (aD G n 8)] w (qv Q) := Mt_of (by decide +kernel) rfl rfl (Nat.le_of_ble_eq_true rfl) (fun M Qf hC he => ok_X7_hang hC he hn h)
/-! X7.grow()V -/
theorem dX7_grow_0 : decode cX7_grow 0 = .ok (.aload_n 0, 1) := by decide +kernel
theorem dX7_grow_1 : decode cX7_grow 1 = .ok (.invokevirtual 25, 3) := by decide +kernel
theorem dX7_grow_4 : decode cX7_grow 4 = .ok (.aload_n 0, 1) := by decide +kernel
theorem dX7_grow_5 : decode cX7_grow 5 = .ok (.iconst 0, 1) := by decide +kernel
theorem dX7_grow_6 : decode cX7_grow 6 = .ok (.putfield 28, 3) := by decide +kernel
theorem dX7_grow_9 : decode cX7_grow 9 = .ok (.iconst 0, 1) := by decide +kernel
theorem dX7_grow_10 : decode cX7_grow 10 = .ok (.istore_n 1, 1) := by decide +kernel
theorem dX7_grow_11 : decode cX7_grow 11 = .ok (.iload_n 1, 1) := by decide +kernel
theorem dX7_grow_12 : decode cX7_grow 12 = .ok (.aload_n 0, 1) := by decide +kernel
theorem dX7_grow_13 : decode cX7_grow 13 = .ok (.getfield 21, 3) := by decide +kernel
theorem dX7_grow_16 : decode cX7_grow 16 = .ok (.getfield 32, 3) := by decide +kernel
theorem dX7_grow_19 : decode cX7_grow 19 = .ok (.if_icmp .ge 16, 3) := by decide +kernel
theorem dX7_grow_22 : decode cX7_grow 22 = .ok (.aload_n 0, 1) := by decide +kernel
theorem dX7_grow_23 : decode cX7_grow 23 = .ok (.getfield 9, 3) := by decide +kernel
theorem dX7_grow_26 : decode cX7_grow 26 = .ok (.iload_n 1, 1) := by decide +kernel
theorem dX7_grow_27 : decode cX7_grow 27 = .ok (.iload_n 1, 1) := by decide +kernel
theorem dX7_grow_28 : decode cX7_grow 28 = .ok (.iastore, 1) := by decide +kernel
theorem dX7_grow_29 : decode cX7_grow 29 = .ok (.iinc 1 1, 3) := by decide +kernel
theorem dX7_grow_32 : decode cX7_grow 32 = .ok (.goto (-21), 3) := by decide +kernel
theorem dX7_grow_35 : decode cX7_grow 35 = .ok (.iconst 0, 1) := by decide +kernel
theorem dX7_grow_36 : decode cX7_grow 36 = .ok (.istore_n 1, 1) := by decide +kernel
theorem dX7_grow_37 : decode cX7_grow 37 = .ok (.iload_n 1, 1) := by decide +kernel
theorem dX7_grow_38 : decode cX7_grow 38 = .ok (.aload_n 0, 1) := by decide +kernel
theorem dX7_grow_39 : decode cX7_grow 39 = .ok (.getfield 21, 3) := by decide +kernel
theorem dX7_grow_42 : decode cX7_grow 42 = .ok (.getfield 37, 3) := by decide +kernel
theorem dX7_grow_45 : decode cX7_grow 45 = .ok (.if_icmp .ge 81, 3) := by decide +kernel
theorem dX7_grow_48 : decode cX7_grow 48 = .ok (.aload_n 0, 1) := by decide +kernel
theorem dX7_grow_49 : decode cX7_grow 49 = .ok (.getfield 18, 3) := by decide +kernel
theorem dX7_grow_52 : decode cX7_grow 52 = .ok (.iload_n 1, 1) := by decide +kernel
theorem dX7_grow_53 : decode cX7_grow 53 = .ok (.iaload, 1) := by decide +kernel
theorem dX7_grow_54 : decode cX7_grow 54 = .ok (.istore_n 2, 1) := by decide +kernel
theorem dX7_grow_55 : decode cX7_grow 55 = .ok (.aload_n 0, 1) := by decide +kernel
theorem dX7_grow_56 : decode cX7_grow 56 = .ok (.getfield 9, 3) := by decide +kernel
theorem dX7_grow_59 : decode cX7_grow 59 = .ok (.aload_n 0, 1) := by decide +kernel
theorem dX7_grow_60 : decode cX7_grow 60 = .ok (.getfield 21, 3) := by decide +kernel
theorem dX7_grow_63 : decode cX7_grow 63 = .ok (.getfield 38, 3) := by decide +kernel
theorem dX7_grow_66 : decode cX7_grow 66 = .ok (.iload_n 2, 1) := by decide +kernel
theorem dX7_grow_67 : decode cX7_grow 67 = .ok (.iaload, 1) := by decide +kernel
theorem dX7_grow_68 : decode cX7_grow 68 = .ok (.iaload, 1) := by decide +kernel
theorem dX7_grow_69 : decode cX7_grow 69 = .ok (.istore_n 3, 1) := by decide +kernel
theorem dX7_grow_70 : decode cX7_grow 70 = .ok (.aload_n 0, 1) := by decide +kernel
theorem dX7_grow_71 : decode cX7_grow 71 = .ok (.getfield 9, 3) := by decide +kernel
theorem dX7_grow_74 : decode cX7_grow 74 = .ok (.aload_n 0, 1) := by decide +kernel
theorem dX7_grow_75 : decode cX7_grow 75 = .ok (.getfield 21, 3) := by decide +kernel
theorem dX7_grow_78 : decode cX7_grow 78 = .ok (.getfield 41, 3) := by decide +kernel
theorem dX7_grow_81 : decode cX7_grow 81 = .ok (.iload_n 2, 1) := by decide +kernel
theorem dX7_grow_82 : decode cX7_grow 82 = .ok (.iaload, 1) := by decide +kernel
theorem dX7_grow_83 : decode cX7_grow 83 = .ok (.iaload, 1) := by decide +kernel
theorem dX7_grow_84 : decode cX7_grow 84 = .ok (.istore 4, 2) := by decide +kernel
theorem dX7_grow_86 : decode cX7_grow 86 = .ok (.iload_n 3, 1) := by decide +kernel
theorem dX7_grow_87 : decode cX7_grow 87 = .ok (.iload 4, 2) := by decide +kernel
theorem dX7_grow_89 : decode cX7_grow 89 = .ok (.if_icmp .eq 31, 3) := by decide +kernel
theorem dX7_grow_92 : decode cX7_grow 92 = .ok (.aload_n 0, 1) := by decide +kernel
theorem dX7_grow_93 : decode cX7_grow 93 = .ok (.dup, 1) := by decide +kernel
theorem dX7_grow_94 : decode cX7_grow 94 = .ok (.getfield 28, 3) := by decide +kernel
theorem dX7_grow_97 : decode cX7_grow 97 = .ok (.iconst 1, 1) := by decide +kernel
theorem dX7_grow_98 : decode cX7_grow 98 = .ok (.iload_n 2, 1) := by decide +kernel
theorem dX7_grow_99 : decode cX7_grow 99 = .ok (.ishl, 1) := by decide +kernel
theorem dX7_grow_100 : decode cX7_grow 100 = .ok (.ior, 1) := by decide +kernel
theorem dX7_grow_101 : decode cX7_grow 101 = .ok (.putfield 28, 3) := by decide +kernel
theorem dX7_grow_104 : decode cX7_grow 104 = .ok (.aload_n 0, 1) := by decide +kernel
theorem dX7_grow_105 : decode cX7_grow 105 = .ok (.iload_n 3, 1) := by decide +kernel
theorem dX7_grow_106 : decode cX7_grow 106 = .ok (.iload 4, 2) := by decide +kernel
theorem dX7_grow_108 : decode cX7_grow 108 = .ok (.invokestatic 44, 3) := by decide +kernel
theorem dX7_grow_111 : decode cX7_grow 111 = .ok (.iload_n 3, 1) := by decide +kernel
theorem dX7_grow_112 : decode cX7_grow 112 = .ok (.iload 4, 2) := by decide +kernel
theorem dX7_grow_114 : decode cX7_grow 114 = .ok (.invokestatic 50, 3) := by decide +kernel
theorem dX7_grow_117 : decode cX7_grow 117 = .ok (.invokevirtual 53, 3) := by decide +kernel
theorem dX7_grow_120 : decode cX7_grow 120 = .ok (.iinc 1 1, 3) := by decide +kernel
theorem dX7_grow_123 : decode cX7_grow 123 = .ok (.goto (-86), 3) := by decide +kernel
theorem dX7_grow_126 : decode cX7_grow 126 = .ok (.aload_n 0, 1) := by decide +kernel
theorem dX7_grow_127 : decode cX7_grow 127 = .ok (.invokevirtual 57, 3) := by decide +kernel
theorem dX7_grow_130 : decode cX7_grow 130 = .ok (.return_, 1) := by decide +kernel
set_option maxRecDepth 20000 in
theorem ggX7_grow_X7_hang : GoodIn wsX7_grow wsX7_hang := goodIn_r _ [29, 30, 2, 3, 31, 4, 5, 1, 32, 33, 34, 35, 36, 37, 19, 38, 7, 8, 39, 40, 41, 42, 43, 44, 45, 46, 47, 48, 49, 50, 51, 52] (by decide +kernel) (by decide +kernel)
set_option maxRecDepth 20000 in
theorem gX7_grow_X7_hang : GoodIn wsX7_grow (wsV RX7 57 RX7 yX7_hang wsX7_hang) := goodIn_app (goodIn_of _ (by decide +kernel)) ggX7_grow_X7_hang
set_option maxRecDepth 20000 in
theorem ggX7_grow_X7_join : GoodIn wsX7_grow wsX7_join := goodIn_r _ [25, 2, 3, 4, 39, 40, 41, 42, 43, 44, 45, 46, 47, 48, 49, 50, 51, 52] (by decide +kernel) (by decide +kernel)
set_option maxRecDepth 20000 in
theorem gX7_grow_X7_join : GoodIn wsX7_grow (wsV RX7 53 RX7 yX7_join wsX7_join) := goodIn_app (goodIn_of _ (by decide +kernel)) ggX7_grow_X7_join
set_option maxRecDepth 20000 in
theorem ggX7_grow_X7_sortLegs : GoodIn wsX7_grow wsX7_sortLegs := goodIn_r _ [20, 2, 5, 21, 6, 39, 40, 41, 42, 43, 44, 45, 46, 47, 48, 49, 50, 51, 52] (by decide +kernel) (by decide +kernel)
set_option maxRecDepth 20000 in
theorem gX7_grow_X7_sortLegs : GoodIn wsX7_grow (wsV RX7 25 RX7 yX7_sortLegs wsX7_sortLegs) := goodIn_app (goodIn_of _ (by decide +kernel)) ggX7_grow_X7_sortLegs
def D_X7_grow : Md := (yX7_grow, cX7_grow, 5, none, wsX7_grow, RX7, { frames := 3, cells := 0, slots := 0, locals := 69 })
theorem nm_X7_grow : nmD D_X7_grow 0 := ⟨rfl, by decide +kernel, by decide +kernel, by decide +kernel⟩
theorem hi_X7_grow_X5 : ∀ w ∈ u_ws RX5 TX5 8, w ∈ wsX7_grow := by decide +kernel
theorem hi_X7_grow_X7 : ∀ w ∈ u_ws RX7 TX7 6, w ∈ wsX7_grow := by decide +kernel
theorem hl_X7_grow_9 : Cond.fieldLink RX7 9 "LevelLoops$Tree" "net" "[I" ∈ wsX7_grow := by decide +kernel
theorem hl_X7_grow_18 : Cond.fieldLink RX7 18 "LevelLoops$Tree" "order" "[I" ∈ wsX7_grow := by decide +kernel
theorem hl_X7_grow_21 : Cond.fieldLink RX7 21 "LevelLoops$Tree" "survey" "LLevelLoops$Survey;" ∈ wsX7_grow := by decide +kernel
theorem hl_X7_grow_28 : Cond.fieldLink RX7 28 "LevelLoops$Tree" "legs" "I" ∈ wsX7_grow := by decide +kernel
theorem hl_X7_grow_32 : Cond.fieldLink RX7 32 "LevelLoops$Survey" "marks" "I" ∈ wsX7_grow := by decide +kernel
theorem hl_X7_grow_37 : Cond.fieldLink RX7 37 "LevelLoops$Survey" "legs" "I" ∈ wsX7_grow := by decide +kernel
theorem hl_X7_grow_38 : Cond.fieldLink RX7 38 "LevelLoops$Survey" "from" "[I" ∈ wsX7_grow := by decide +kernel
theorem hl_X7_grow_41 : Cond.fieldLink RX7 41 "LevelLoops$Survey" "to" "[I" ∈ wsX7_grow := by decide +kernel
def wp_X7_grow_B37 (n : Nat) (x1 : Int32) (w : Wd) (Q : Wd → Prop) (K37 : Int32 → Wd → Prop) : Prop :=
  (((wi w n 0 1) ≤ x1 → wp_X7_hang n w (fun w127 => Q w127)) ∧ (¬ (wi w n 0 1) ≤ x1 → vp_in x1 20 ∧ vp_in (wi w n 11 x1.toNatClampNeg) 20 ∧ vp_in (wi w n 2 (wi w n 11 x1.toNatClampNeg).toNatClampNeg) 10 ∧ vp_in (wi w n 11 x1.toNatClampNeg) 20 ∧ vp_in (wi w n 3 (wi w n 11 x1.toNatClampNeg).toNatClampNeg) 10 ∧ (((wi w n 9 (wi w n 2 (wi w n 11 x1.toNatClampNeg).toNatClampNeg).toNatClampNeg) = (wi w n 9 (wi w n 3 (wi w n 11 x1.toNatClampNeg).toNatClampNeg).toNatClampNeg) → K37 (x1 + 1) w) ∧ (¬ (wi w n 9 (wi w n 2 (wi w n 11 x1.toNatClampNeg).toNatClampNeg).toNatClampNeg) = (wi w n 9 (wi w n 3 (wi w n 11 x1.toNatClampNeg).toNatClampNeg).toNatClampNeg) → (∀ w101 : Wd, w101 = (sI w n 8 0 ((wi w n 8 0) ||| ((1 : Int32) <<< ((wi w n 11 x1.toNatClampNeg) &&& 31)))) → wp_X7_join n (imax (wi w n 9 (wi w n 2 (wi w n 11 x1.toNatClampNeg).toNatClampNeg).toNatClampNeg) (wi w n 9 (wi w n 3 (wi w n 11 x1.toNatClampNeg).toNatClampNeg).toNatClampNeg)) (imin (wi w n 9 (wi w n 2 (wi w n 11 x1.toNatClampNeg).toNatClampNeg).toNatClampNeg) (wi w n 9 (wi w n 3 (wi w n 11 x1.toNatClampNeg).toNatClampNeg).toNatClampNeg)) w101 (fun w117 => K37 (x1 + 1) w117))))))
def wp_X7_grow_L37 (n : Nat) (x1 : Int32) (w : Wd) (Q : Wd → Prop) : Prop :=
  ∃ (I : Int32 → Wd → Prop) (μ : Int32 → Wd → Nat), I x1 w ∧ ∀ (x1 : Int32) (w : Wd), I x1 w → wp_X7_grow_B37 n x1 w Q (fun x1' w' => I x1' w' ∧ μ x1' w' < μ x1 w)
def wp_X7_grow_B11 (n : Nat) (x1 : Int32) (w : Wd) (Q : Wd → Prop) (K11 : Int32 → Wd → Prop) : Prop :=
  (((wi w n 0 0) ≤ x1 → wp_X7_grow_L37 n (0 : Int32) w Q) ∧ (¬ (wi w n 0 0) ≤ x1 → vp_in x1 10 ∧ (∀ w28 : Wd, w28 = (sI w n 9 x1.toNatClampNeg x1) → K11 (x1 + 1) w28)))
def wp_X7_grow_L11 (n : Nat) (x1 : Int32) (w : Wd) (Q : Wd → Prop) : Prop :=
  ∃ (I : Int32 → Wd → Prop) (μ : Int32 → Wd → Nat), I x1 w ∧ ∀ (x1 : Int32) (w : Wd), I x1 w → wp_X7_grow_B11 n x1 w Q (fun x1' w' => I x1' w' ∧ μ x1' w' < μ x1 w)
def wp_X7_grow (n : Nat) (w : Wd) (Q : Wd → Prop) : Prop :=
  wp_X7_sortLegs n w (fun w1 => (∀ w6 : Wd, w6 = (sI w1 n 8 0 (0 : Int32)) → wp_X7_grow_L11 n (0 : Int32) w6 Q))
theorem ok_X7_grow_B37 {G : Gt} {M : Mx} {Qf : State → Prop} {n : Nat} {x1 : Int32} {w : Wd} {Q : Wd → Prop} {K37 : Int32 → Wd → Prop} (hC : cx G D_X7_grow M) (he : en G M (qv Q) Qf) (hn : n < 2) (h : wp_X7_grow_B37 n x1 w Q K37) (hK37 : ∀ (x1 : Int32) (w : Wd), K37 x1 w → jq G D_X7_grow M Qf 37 [(0, .ref (aD G n 8)), (1, .int x1)] [] w) : jq G D_X7_grow M Qf 37 [(0, .ref (aD G n 8)), (1, .int x1)] [] w := by
  unfold wp_X7_grow_B37 at h
  refine jq_iload_n (k0 := 1) dX7_grow_37 hC rfl rfl ?_
  refine jq_aload_n (k0 := 0) dX7_grow_38 hC rfl rfl ?_
  refine jq_get (k0 := 4) (n := n) (o := 8) dX7_grow_39 hC (cl_T (by omega) (by decide)) rfl rfl hi_X7_grow_X7 (by decide) hl_X7_grow_21 rfl rfl ?_
  refine jq_get (k0 := 1) (n := n) (o := 0) dX7_grow_42 hC (cl_S (by omega) (by decide)) rfl rfl hi_X7_grow_X5 (by decide) hl_X7_grow_37 rfl rfl ?_
  refine jq_icmp_ge (tgt := 126) dX7_grow_45 hC (by decide) (fun c45 => ?_) (fun c45 => ?_)
  · have h := h.1 c45
    refine jq_aload_n (k0 := 0) dX7_grow_126 hC rfl rfl ?_
    refine jq_callV (As := []) (rest := []) (n := n) (o := 8) (D' := D_X7_hang) dX7_grow_127 hC (cl_T (by omega) (by decide)) rfl rfl rfl (mt_X7_hang (by omega) h) gX7_grow_X7_hang rfl ⟨rfl, rfl, Nat.le_of_ble_eq_true rfl, Nat.le_of_ble_eq_true rfl⟩ nm_X7_hang rfl (Nat.le_of_ble_eq_true rfl) (kV fun w127 h => ?_)
    exact jq_vret dX7_grow_130 hC he rfl ⟨rfl, h⟩
  · have h := h.2 c45
    refine jq_aload_n (k0 := 0) dX7_grow_48 hC rfl rfl ?_
    refine jq_get (k0 := 5) (n := n) (o := 8) dX7_grow_49 hC (cl_T (by omega) (by decide)) rfl rfl hi_X7_grow_X7 (by decide) hl_X7_grow_18 rfl rfl ?_
    refine jq_iload_n (k0 := 1) dX7_grow_52 hC rfl rfl ?_
    obtain ⟨b53, h⟩ := h
    refine jq_iald (n := n) (o := 11) (j := x1.toNatClampNeg) dX7_grow_53 hC (cl_T (by omega) (by decide)) rfl b53 rfl ?_
    refine jq_istore_n (L' := [(2, .int (wi w n 11 x1.toNatClampNeg)), (0, .ref (aD G n 8)), (1, .int x1)]) dX7_grow_54 hC rfl (by decide) rfl ?_
    refine jq_aload_n (k0 := 1) dX7_grow_55 hC rfl rfl ?_
    refine jq_get (k0 := 2) (n := n) (o := 8) dX7_grow_56 hC (cl_T (by omega) (by decide)) rfl rfl hi_X7_grow_X7 (by decide) hl_X7_grow_9 rfl rfl ?_
    refine jq_aload_n (k0 := 1) dX7_grow_59 hC rfl rfl ?_
    refine jq_get (k0 := 4) (n := n) (o := 8) dX7_grow_60 hC (cl_T (by omega) (by decide)) rfl rfl hi_X7_grow_X7 (by decide) hl_X7_grow_21 rfl rfl ?_
    refine jq_get (k0 := 3) (n := n) (o := 0) dX7_grow_63 hC (cl_S (by omega) (by decide)) rfl rfl hi_X7_grow_X5 (by decide) hl_X7_grow_38 rfl rfl ?_
    refine jq_iload_n (k0 := 0) dX7_grow_66 hC rfl rfl ?_
    obtain ⟨b67, h⟩ := h
    refine jq_iald (n := n) (o := 2) (j := (wi w n 11 x1.toNatClampNeg).toNatClampNeg) dX7_grow_67 hC (cl_S (by omega) (by decide)) rfl b67 rfl ?_
    obtain ⟨b68, h⟩ := h
    refine jq_iald (n := n) (o := 9) (j := (wi w n 2 (wi w n 11 x1.toNatClampNeg).toNatClampNeg).toNatClampNeg) dX7_grow_68 hC (cl_T (by omega) (by decide)) rfl b68 rfl ?_
    refine jq_istore_n (L' := [(3, .int (wi w n 9 (wi w n 2 (wi w n 11 x1.toNatClampNeg).toNatClampNeg).toNatClampNeg)), (2, .int (wi w n 11 x1.toNatClampNeg)), (0, .ref (aD G n 8)), (1, .int x1)]) dX7_grow_69 hC rfl (by decide) rfl ?_
    refine jq_aload_n (k0 := 2) dX7_grow_70 hC rfl rfl ?_
    refine jq_get (k0 := 2) (n := n) (o := 8) dX7_grow_71 hC (cl_T (by omega) (by decide)) rfl rfl hi_X7_grow_X7 (by decide) hl_X7_grow_9 rfl rfl ?_
    refine jq_aload_n (k0 := 2) dX7_grow_74 hC rfl rfl ?_
    refine jq_get (k0 := 4) (n := n) (o := 8) dX7_grow_75 hC (cl_T (by omega) (by decide)) rfl rfl hi_X7_grow_X7 (by decide) hl_X7_grow_21 rfl rfl ?_
    refine jq_get (k0 := 4) (n := n) (o := 0) dX7_grow_78 hC (cl_S (by omega) (by decide)) rfl rfl hi_X7_grow_X5 (by decide) hl_X7_grow_41 rfl rfl ?_
    refine jq_iload_n (k0 := 1) dX7_grow_81 hC rfl rfl ?_
    obtain ⟨b82, h⟩ := h
    refine jq_iald (n := n) (o := 3) (j := (wi w n 11 x1.toNatClampNeg).toNatClampNeg) dX7_grow_82 hC (cl_S (by omega) (by decide)) rfl b82 rfl ?_
    obtain ⟨b83, h⟩ := h
    refine jq_iald (n := n) (o := 9) (j := (wi w n 3 (wi w n 11 x1.toNatClampNeg).toNatClampNeg).toNatClampNeg) dX7_grow_83 hC (cl_T (by omega) (by decide)) rfl b83 rfl ?_
    refine jq_istore (L' := [(4, .int (wi w n 9 (wi w n 3 (wi w n 11 x1.toNatClampNeg).toNatClampNeg).toNatClampNeg)), (3, .int (wi w n 9 (wi w n 2 (wi w n 11 x1.toNatClampNeg).toNatClampNeg).toNatClampNeg)), (2, .int (wi w n 11 x1.toNatClampNeg)), (0, .ref (aD G n 8)), (1, .int x1)]) dX7_grow_84 hC (by decide) rfl ?_
    refine jq_iload_n (k0 := 1) dX7_grow_86 hC rfl rfl ?_
    refine jq_iload (k0 := 0) dX7_grow_87 hC rfl ?_
    refine jq_icmp_eq (tgt := 120) dX7_grow_89 hC (by decide) (fun c89 => ?_) (fun c89 => ?_)
    · have h := h.1 c89
      refine jq_iinc (k0 := 4) (v := (x1 + 1)) (L' := [(1, .int (x1 + 1)), (4, .int (wi w n 9 (wi w n 3 (wi w n 11 x1.toNatClampNeg).toNatClampNeg).toNatClampNeg)), (3, .int (wi w n 9 (wi w n 2 (wi w n 11 x1.toNatClampNeg).toNatClampNeg).toNatClampNeg)), (2, .int (wi w n 11 x1.toNatClampNeg)), (0, .ref (aD G n 8))]) dX7_grow_120 hC rfl rfl (by decide) rfl ?_
      refine jq_goto (tgt := 37) dX7_grow_123 hC (by decide) ?_
      exact jq_less (L' := [(0, .ref (aD G n 8)), (1, .int (x1 + 1))]) [4, 0] rfl (hK37 _ _ h)
    · have h := h.2 c89
      refine jq_aload_n (k0 := 3) dX7_grow_92 hC rfl rfl ?_
      refine jq_dup dX7_grow_93 hC rfl ?_
      refine jq_get (k0 := 0) (n := n) (o := 8) dX7_grow_94 hC (cl_T (by omega) (by decide)) rfl rfl hi_X7_grow_X7 (by decide) hl_X7_grow_28 rfl rfl ?_
      refine jq_iconst (v := (1 : Int32)) dX7_grow_97 hC (by decide) ?_
      refine jq_iload_n (k0 := 2) dX7_grow_98 hC rfl rfl ?_
      refine jq_ishl dX7_grow_99 hC ?_
      refine jq_ior dX7_grow_100 hC ?_
      refine jq_put (k0 := 0) (n := n) (o := 8) (ty := .int) (w' := (sI w n 8 0 ((wi w n 8 0) ||| ((1 : Int32) <<< ((wi w n 11 x1.toNatClampNeg) &&& 31))))) dX7_grow_101 hC (cl_T (by omega) (by decide)) rfl rfl hi_X7_grow_X7 tyX7 tyX7_ok nmX7 (by decide) hl_X7_grow_28 rfl rfl (by decide +kernel) rfl rfl (Nat.le_of_ble_eq_true rfl) (e_8_0 G _ _ _) (fun c _ hne => ent_sA c hne) ?_
      refine jq_w (fun w101 e101 => ?_)
      have h := h w101 e101
      refine jq_aload_n (k0 := 3) dX7_grow_104 hC rfl rfl ?_
      refine jq_iload_n (k0 := 1) dX7_grow_105 hC rfl rfl ?_
      refine jq_iload (k0 := 0) dX7_grow_106 hC rfl ?_
      refine jq_max dX7_grow_108 hC (by decide +kernel) (Nat.le_of_ble_eq_true rfl) (Nat.le_of_ble_eq_true rfl) ?_
      refine jq_iload_n (k0 := 1) dX7_grow_111 hC rfl rfl ?_
      refine jq_iload (k0 := 0) dX7_grow_112 hC rfl ?_
      refine jq_min dX7_grow_114 hC (by decide +kernel) (Nat.le_of_ble_eq_true rfl) (Nat.le_of_ble_eq_true rfl) ?_
      refine jq_callV (As := [.int (imax (wi w n 9 (wi w n 2 (wi w n 11 x1.toNatClampNeg).toNatClampNeg).toNatClampNeg) (wi w n 9 (wi w n 3 (wi w n 11 x1.toNatClampNeg).toNatClampNeg).toNatClampNeg)), .int (imin (wi w n 9 (wi w n 2 (wi w n 11 x1.toNatClampNeg).toNatClampNeg).toNatClampNeg) (wi w n 9 (wi w n 3 (wi w n 11 x1.toNatClampNeg).toNatClampNeg).toNatClampNeg))]) (rest := []) (n := n) (o := 8) (D' := D_X7_join) dX7_grow_117 hC (cl_T (by omega) (by decide)) rfl rfl rfl (mt_X7_join (by omega) h) gX7_grow_X7_join rfl ⟨rfl, rfl, Nat.le_of_ble_eq_true rfl, Nat.le_of_ble_eq_true rfl⟩ nm_X7_join rfl (Nat.le_of_ble_eq_true rfl) (kV fun w117 h => ?_)
      refine jq_iinc (k0 := 4) (v := (x1 + 1)) (L' := [(1, .int (x1 + 1)), (4, .int (wi w n 9 (wi w n 3 (wi w n 11 x1.toNatClampNeg).toNatClampNeg).toNatClampNeg)), (3, .int (wi w n 9 (wi w n 2 (wi w n 11 x1.toNatClampNeg).toNatClampNeg).toNatClampNeg)), (2, .int (wi w n 11 x1.toNatClampNeg)), (0, .ref (aD G n 8))]) dX7_grow_120 hC rfl rfl (by decide) rfl ?_
      refine jq_goto (tgt := 37) dX7_grow_123 hC (by decide) ?_
      exact jq_less (L' := [(0, .ref (aD G n 8)), (1, .int (x1 + 1))]) [4, 0] rfl (hK37 _ _ h)
theorem ok_X7_grow_L37 {G : Gt} {M : Mx} {Qf : State → Prop} {n : Nat} {x1 : Int32} {w : Wd} {Q : Wd → Prop} (hC : cx G D_X7_grow M) (he : en G M (qv Q) Qf) (hn : n < 2) (h : wp_X7_grow_L37 n x1 w Q) : jq G D_X7_grow M Qf 37 [(0, .ref (aD G n 8)), (1, .int x1)] [] w := by
  unfold wp_X7_grow_L37 at h
  obtain ⟨I, μ, h0, hs⟩ := h
  exact lp_ind (σ := Int32 × Wd) (P := fun s => jq G D_X7_grow M Qf 37 [(0, .ref (aD G n 8)), (1, .int s.1)] [] s.2) (fun s => I s.1 s.2) (fun s => μ s.1 s.2) (fun s h1 ih => ok_X7_grow_B37 hC he hn (hs s.1 s.2 h1) (fun x1' w' h => ih (x1', w') h.1 h.2)) (x1, w) h0
theorem ok_X7_grow_B11 {G : Gt} {M : Mx} {Qf : State → Prop} {n : Nat} {x1 : Int32} {w : Wd} {Q : Wd → Prop} {K11 : Int32 → Wd → Prop} (hC : cx G D_X7_grow M) (he : en G M (qv Q) Qf) (hn : n < 2) (h : wp_X7_grow_B11 n x1 w Q K11) (hK11 : ∀ (x1 : Int32) (w : Wd), K11 x1 w → jq G D_X7_grow M Qf 11 [(0, .ref (aD G n 8)), (1, .int x1)] [] w) : jq G D_X7_grow M Qf 11 [(0, .ref (aD G n 8)), (1, .int x1)] [] w := by
  unfold wp_X7_grow_B11 at h
  refine jq_iload_n (k0 := 1) dX7_grow_11 hC rfl rfl ?_
  refine jq_aload_n (k0 := 0) dX7_grow_12 hC rfl rfl ?_
  refine jq_get (k0 := 4) (n := n) (o := 8) dX7_grow_13 hC (cl_T (by omega) (by decide)) rfl rfl hi_X7_grow_X7 (by decide) hl_X7_grow_21 rfl rfl ?_
  refine jq_get (k0 := 0) (n := n) (o := 0) dX7_grow_16 hC (cl_S (by omega) (by decide)) rfl rfl hi_X7_grow_X5 (by decide) hl_X7_grow_32 rfl rfl ?_
  refine jq_icmp_ge (tgt := 35) dX7_grow_19 hC (by decide) (fun c19 => ?_) (fun c19 => ?_)
  · have h := h.1 c19
    refine jq_iconst (v := (0 : Int32)) dX7_grow_35 hC (by decide) ?_
    refine jq_istore_n (L' := [(1, .int (0 : Int32)), (0, .ref (aD G n 8))]) dX7_grow_36 hC rfl (by decide) rfl ?_
    refine jq_less (L' := [(0, .ref (aD G n 8)), (1, .int (0 : Int32))]) [1, 0] rfl ?_
    exact ok_X7_grow_L37 hC he hn h
  · have h := h.2 c19
    refine jq_aload_n (k0 := 0) dX7_grow_22 hC rfl rfl ?_
    refine jq_get (k0 := 2) (n := n) (o := 8) dX7_grow_23 hC (cl_T (by omega) (by decide)) rfl rfl hi_X7_grow_X7 (by decide) hl_X7_grow_9 rfl rfl ?_
    refine jq_iload_n (k0 := 1) dX7_grow_26 hC rfl rfl ?_
    refine jq_iload_n (k0 := 1) dX7_grow_27 hC rfl rfl ?_
    obtain ⟨b28, h⟩ := h
    refine jq_iast (n := n) (o := 9) (j := x1.toNatClampNeg) dX7_grow_28 hC (cl_T (by omega) (by decide)) (fun _ => rfl) b28 rfl ?_
    refine jq_w (fun w28 e28 => ?_)
    have h := h w28 e28
    refine jq_iinc (k0 := 1) (v := (x1 + 1)) (L' := [(1, .int (x1 + 1)), (0, .ref (aD G n 8))]) dX7_grow_29 hC rfl rfl (by decide) rfl ?_
    refine jq_goto (tgt := 11) dX7_grow_32 hC (by decide) ?_
    exact jq_less (L' := [(0, .ref (aD G n 8)), (1, .int (x1 + 1))]) [1, 0] rfl (hK11 _ _ h)
theorem ok_X7_grow_L11 {G : Gt} {M : Mx} {Qf : State → Prop} {n : Nat} {x1 : Int32} {w : Wd} {Q : Wd → Prop} (hC : cx G D_X7_grow M) (he : en G M (qv Q) Qf) (hn : n < 2) (h : wp_X7_grow_L11 n x1 w Q) : jq G D_X7_grow M Qf 11 [(0, .ref (aD G n 8)), (1, .int x1)] [] w := by
  unfold wp_X7_grow_L11 at h
  obtain ⟨I, μ, h0, hs⟩ := h
  exact lp_ind (σ := Int32 × Wd) (P := fun s => jq G D_X7_grow M Qf 11 [(0, .ref (aD G n 8)), (1, .int s.1)] [] s.2) (fun s => I s.1 s.2) (fun s => μ s.1 s.2) (fun s h1 ih => ok_X7_grow_B11 hC he hn (hs s.1 s.2 h1) (fun x1' w' h => ih (x1', w') h.1 h.2)) (x1, w) h0
theorem ok_X7_grow {G : Gt} {M : Mx} {Qf : State → Prop} {n : Nat} {w : Wd} {Q : Wd → Prop} (hC : cx G D_X7_grow M) (he : en G M (qv Q) Qf) (hn : n < 2) (h : wp_X7_grow n w Q) : jq G D_X7_grow M Qf 0 [(0, .ref (aD G n 8))] [] w := by
  unfold wp_X7_grow at h
  refine jq_aload_n (k0 := 0) dX7_grow_0 hC rfl rfl ?_
  refine jq_callV (As := []) (rest := []) (n := n) (o := 8) (D' := D_X7_sortLegs) dX7_grow_1 hC (cl_T (by omega) (by decide)) rfl rfl rfl (mt_X7_sortLegs (by omega) h) gX7_grow_X7_sortLegs rfl ⟨rfl, rfl, Nat.le_of_ble_eq_true rfl, Nat.le_of_ble_eq_true rfl⟩ nm_X7_sortLegs rfl (Nat.le_of_ble_eq_true rfl) (kV fun w1 h => ?_)
  refine jq_aload_n (k0 := 0) dX7_grow_4 hC rfl rfl ?_
  refine jq_iconst (v := (0 : Int32)) dX7_grow_5 hC (by decide) ?_
  refine jq_put (k0 := 0) (n := n) (o := 8) (ty := .int) (w' := (sI w1 n 8 0 (0 : Int32))) dX7_grow_6 hC (cl_T (by omega) (by decide)) rfl rfl hi_X7_grow_X7 tyX7 tyX7_ok nmX7 (by decide) hl_X7_grow_28 rfl rfl (by decide +kernel) rfl rfl (Nat.le_of_ble_eq_true rfl) (e_8_0 G _ _ _) (fun c _ hne => ent_sA c hne) ?_
  refine jq_w (fun w6 e6 => ?_)
  have h := h w6 e6
  refine jq_iconst (v := (0 : Int32)) dX7_grow_9 hC (by decide) ?_
  refine jq_istore_n (L' := [(1, .int (0 : Int32)), (0, .ref (aD G n 8))]) dX7_grow_10 hC rfl (by decide) rfl ?_
  refine jq_less (L' := [(0, .ref (aD G n 8)), (1, .int (0 : Int32))]) [1, 0] rfl ?_
  exact ok_X7_grow_L11 hC he hn h
theorem mt_X7_grow {G : Gt} {n : Nat} {w : Wd} {Q : Wd → Prop} (hn : n < 2) (h : wp_X7_grow n w Q) : Mt G D_X7_grow [.ref (aD G n 8)] w (qv Q) := Mt_of (by decide +kernel) rfl rfl (Nat.le_of_ble_eq_true rfl) (fun M Qf hC he => ok_X7_grow hC he hn h)
/-! X7.legAt(II)I -/
theorem dX7_legAt_0 : decode cX7_legAt 0 = .ok (.iconst 0, 1) := by decide +kernel
theorem dX7_legAt_1 : decode cX7_legAt 1 = .ok (.istore_n 3, 1) := by decide +kernel
theorem dX7_legAt_2 : decode cX7_legAt 2 = .ok (.iload_n 3, 1) := by decide +kernel
theorem dX7_legAt_3 : decode cX7_legAt 3 = .ok (.aload_n 0, 1) := by decide +kernel
theorem dX7_legAt_4 : decode cX7_legAt 4 = .ok (.getfield 21, 3) := by decide +kernel
theorem dX7_legAt_7 : decode cX7_legAt 7 = .ok (.getfield 37, 3) := by decide +kernel
theorem dX7_legAt_10 : decode cX7_legAt 10 = .ok (.if_icmp .ge 45, 3) := by decide +kernel
theorem dX7_legAt_13 : decode cX7_legAt 13 = .ok (.iload_n 2, 1) := by decide +kernel
theorem dX7_legAt_14 : decode cX7_legAt 14 = .ok (.iload_n 3, 1) := by decide +kernel
theorem dX7_legAt_15 : decode cX7_legAt 15 = .ok (.invokestatic 66, 3) := by decide +kernel
theorem dX7_legAt_18 : decode cX7_legAt 18 = .ok (.ifCond .eq 31, 3) := by decide +kernel
theorem dX7_legAt_21 : decode cX7_legAt 21 = .ok (.aload_n 0, 1) := by decide +kernel
theorem dX7_legAt_22 : decode cX7_legAt 22 = .ok (.getfield 21, 3) := by decide +kernel
theorem dX7_legAt_25 : decode cX7_legAt 25 = .ok (.getfield 38, 3) := by decide +kernel
theorem dX7_legAt_28 : decode cX7_legAt 28 = .ok (.iload_n 3, 1) := by decide +kernel
theorem dX7_legAt_29 : decode cX7_legAt 29 = .ok (.iaload, 1) := by decide +kernel
theorem dX7_legAt_30 : decode cX7_legAt 30 = .ok (.iload_n 1, 1) := by decide +kernel
theorem dX7_legAt_31 : decode cX7_legAt 31 = .ok (.if_icmp .eq 16, 3) := by decide +kernel
theorem dX7_legAt_34 : decode cX7_legAt 34 = .ok (.aload_n 0, 1) := by decide +kernel
theorem dX7_legAt_35 : decode cX7_legAt 35 = .ok (.getfield 21, 3) := by decide +kernel
theorem dX7_legAt_38 : decode cX7_legAt 38 = .ok (.getfield 41, 3) := by decide +kernel
theorem dX7_legAt_41 : decode cX7_legAt 41 = .ok (.iload_n 3, 1) := by decide +kernel
theorem dX7_legAt_42 : decode cX7_legAt 42 = .ok (.iaload, 1) := by decide +kernel
theorem dX7_legAt_43 : decode cX7_legAt 43 = .ok (.iload_n 1, 1) := by decide +kernel
theorem dX7_legAt_44 : decode cX7_legAt 44 = .ok (.if_icmp .ne 5, 3) := by decide +kernel
theorem dX7_legAt_47 : decode cX7_legAt 47 = .ok (.iload_n 3, 1) := by decide +kernel
theorem dX7_legAt_48 : decode cX7_legAt 48 = .ok (.ireturn, 1) := by decide +kernel
theorem dX7_legAt_49 : decode cX7_legAt 49 = .ok (.iinc 3 1, 3) := by decide +kernel
theorem dX7_legAt_52 : decode cX7_legAt 52 = .ok (.goto (-50), 3) := by decide +kernel
theorem dX7_legAt_55 : decode cX7_legAt 55 = .ok (.iconst (-1), 1) := by decide +kernel
theorem dX7_legAt_56 : decode cX7_legAt 56 = .ok (.ireturn, 1) := by decide +kernel
set_option maxRecDepth 20000 in
theorem ggX7_legAt_X8_isIn : GoodIn wsX7_legAt wsX8_isIn := goodIn_r _ [7] (by decide +kernel) (by decide +kernel)
def D_X7_legAt : Md := (yX7_legAt, cX7_legAt, 4, (some .int), wsX7_legAt, RX7, { frames := 1, cells := 0, slots := 0, locals := 21 })
theorem nm_X7_legAt : nmD D_X7_legAt 2 := ⟨rfl, by decide +kernel, by decide +kernel, by decide +kernel⟩
theorem hi_X7_legAt_X5 : ∀ w ∈ u_ws RX5 TX5 8, w ∈ wsX7_legAt := by decide +kernel
theorem hi_X7_legAt_X7 : ∀ w ∈ u_ws RX7 TX7 6, w ∈ wsX7_legAt := by decide +kernel
theorem hl_X7_legAt_21 : Cond.fieldLink RX7 21 "LevelLoops$Tree" "survey" "LLevelLoops$Survey;" ∈ wsX7_legAt := by decide +kernel
theorem hl_X7_legAt_37 : Cond.fieldLink RX7 37 "LevelLoops$Survey" "legs" "I" ∈ wsX7_legAt := by decide +kernel
theorem hl_X7_legAt_38 : Cond.fieldLink RX7 38 "LevelLoops$Survey" "from" "[I" ∈ wsX7_legAt := by decide +kernel
theorem hl_X7_legAt_41 : Cond.fieldLink RX7 41 "LevelLoops$Survey" "to" "[I" ∈ wsX7_legAt := by decide +kernel
def wp_X7_legAt_B2 (n : Nat) (x1 : Int32) (x2 : Int32) (x3 : Int32) (w : Wd) (Q : Int32 → Prop) (K2 : Int32 → Prop) : Prop :=
  (((wi w n 0 1) ≤ x3 → Q (-1 : Int32)) ∧ (¬ (wi w n 0 1) ≤ x3 → wp_X8_isIn x2 x3 (fun r15 => ((r15 = 0 → K2 (x3 + 1)) ∧ (¬ r15 = 0 → vp_in x3 20 ∧ (((wi w n 2 x3.toNatClampNeg) = x1 → Q x3) ∧ (¬ (wi w n 2 x3.toNatClampNeg) = x1 → vp_in x3 20 ∧ ((¬ (wi w n 3 x3.toNatClampNeg) = x1 → K2 (x3 + 1)) ∧ ((wi w n 3 x3.toNatClampNeg) = x1 → Q x3)))))))))
def wp_X7_legAt_L2 (n : Nat) (x1 : Int32) (x2 : Int32) (x3 : Int32) (w : Wd) (Q : Int32 → Prop) : Prop :=
  ∃ (I : Int32 → Prop) (μ : Int32 → Nat), I x3 ∧ ∀ (x3 : Int32), I x3 → wp_X7_legAt_B2 n x1 x2 x3 w Q (fun x3' => I x3' ∧ μ x3' < μ x3)
def wp_X7_legAt (n : Nat) (x1 : Int32) (x2 : Int32) (w : Wd) (Q : Int32 → Prop) : Prop :=
  wp_X7_legAt_L2 n x1 x2 (0 : Int32) w Q
theorem ok_X7_legAt_B2 {G : Gt} {M : Mx} {Qf : State → Prop} {n : Nat} {x1 : Int32} {x2 : Int32} {x3 : Int32} {w : Wd} {Q : Int32 → Prop} {K2 : Int32 → Prop} (hC : cx G D_X7_legAt M) (he : en G M (qip w Q) Qf) (hn : n < 2) (h : wp_X7_legAt_B2 n x1 x2 x3 w Q K2) (hK2 : ∀ (x3 : Int32), K2 x3 → jq G D_X7_legAt M Qf 2 [(0, .ref (aD G n 8)), (1, .int x1), (2, .int x2), (3, .int x3)] [] w) : jq G D_X7_legAt M Qf 2 [(0, .ref (aD G n 8)), (1, .int x1), (2, .int x2), (3, .int x3)] [] w := by
  unfold wp_X7_legAt_B2 at h
  refine jq_iload_n (k0 := 3) dX7_legAt_2 hC rfl rfl ?_
  refine jq_aload_n (k0 := 0) dX7_legAt_3 hC rfl rfl ?_
  refine jq_get (k0 := 4) (n := n) (o := 8) dX7_legAt_4 hC (cl_T (by omega) (by decide)) rfl rfl hi_X7_legAt_X7 (by decide) hl_X7_legAt_21 rfl rfl ?_
  refine jq_get (k0 := 1) (n := n) (o := 0) dX7_legAt_7 hC (cl_S (by omega) (by decide)) rfl rfl hi_X7_legAt_X5 (by decide) hl_X7_legAt_37 rfl rfl ?_
  refine jq_icmp_ge (tgt := 55) dX7_legAt_10 hC (by decide) (fun c10 => ?_) (fun c10 => ?_)
  · have h := h.1 c10
    refine jq_iconst (v := (-1 : Int32)) dX7_legAt_55 hC (by decide) ?_
    exact jq_iret dX7_legAt_56 hC he rfl ⟨_, rfl, rfl, h⟩
  · have h := h.2 c10
    refine jq_iload_n (k0 := 2) dX7_legAt_13 hC rfl rfl ?_
    refine jq_iload_n (k0 := 3) dX7_legAt_14 hC rfl rfl ?_
    refine jq_callSN (As := [.int x2, .int x3]) (rest := []) (D' := D_X8_isIn) (host := "LevelLoops") dX7_legAt_15 hC (mt_X8_isIn h) ggX7_legAt_X8_isIn rfl (by decide +kernel) (by decide +kernel) (by decide +kernel) ⟨rfl, rfl, Nat.le_of_ble_eq_true rfl, Nat.le_of_ble_eq_true rfl⟩ nm_X8_isIn rfl (Nat.le_of_ble_eq_true rfl) (kIp fun r15 h => ?_)
    refine jq_if_eq (tgt := 49) dX7_legAt_18 hC (by decide) (fun c18 => ?_) (fun c18 => ?_)
    · have h := h.1 c18
      refine jq_iinc (k0 := 3) (v := (x3 + 1)) (L' := [(3, .int (x3 + 1)), (0, .ref (aD G n 8)), (1, .int x1), (2, .int x2)]) dX7_legAt_49 hC rfl rfl (by decide) rfl ?_
      refine jq_goto (tgt := 2) dX7_legAt_52 hC (by decide) ?_
      exact jq_less (L' := [(0, .ref (aD G n 8)), (1, .int x1), (2, .int x2), (3, .int (x3 + 1))]) [1, 2, 3, 0] rfl (hK2 _ h)
    · have h := h.2 c18
      refine jq_aload_n (k0 := 0) dX7_legAt_21 hC rfl rfl ?_
      refine jq_get (k0 := 4) (n := n) (o := 8) dX7_legAt_22 hC (cl_T (by omega) (by decide)) rfl rfl hi_X7_legAt_X7 (by decide) hl_X7_legAt_21 rfl rfl ?_
      refine jq_get (k0 := 3) (n := n) (o := 0) dX7_legAt_25 hC (cl_S (by omega) (by decide)) rfl rfl hi_X7_legAt_X5 (by decide) hl_X7_legAt_38 rfl rfl ?_
      refine jq_iload_n (k0 := 3) dX7_legAt_28 hC rfl rfl ?_
      obtain ⟨b29, h⟩ := h
      refine jq_iald (n := n) (o := 2) (j := x3.toNatClampNeg) dX7_legAt_29 hC (cl_S (by omega) (by decide)) rfl b29 rfl ?_
      refine jq_iload_n (k0 := 1) dX7_legAt_30 hC rfl rfl ?_
      refine jq_icmp_eq (tgt := 47) dX7_legAt_31 hC (by decide) (fun c31 => ?_) (fun c31 => ?_)
      · have h := h.1 c31
        refine jq_iload_n (k0 := 3) dX7_legAt_47 hC rfl rfl ?_
        exact jq_iret dX7_legAt_48 hC he rfl ⟨_, rfl, rfl, h⟩
      · have h := h.2 c31
        refine jq_aload_n (k0 := 0) dX7_legAt_34 hC rfl rfl ?_
        refine jq_get (k0 := 4) (n := n) (o := 8) dX7_legAt_35 hC (cl_T (by omega) (by decide)) rfl rfl hi_X7_legAt_X7 (by decide) hl_X7_legAt_21 rfl rfl ?_
        refine jq_get (k0 := 4) (n := n) (o := 0) dX7_legAt_38 hC (cl_S (by omega) (by decide)) rfl rfl hi_X7_legAt_X5 (by decide) hl_X7_legAt_41 rfl rfl ?_
        refine jq_iload_n (k0 := 3) dX7_legAt_41 hC rfl rfl ?_
        obtain ⟨b42, h⟩ := h
        refine jq_iald (n := n) (o := 3) (j := x3.toNatClampNeg) dX7_legAt_42 hC (cl_S (by omega) (by decide)) rfl b42 rfl ?_
        refine jq_iload_n (k0 := 1) dX7_legAt_43 hC rfl rfl ?_
        refine jq_icmp_ne (tgt := 49) dX7_legAt_44 hC (by decide) (fun c44 => ?_) (fun c44 => ?_)
        · have h := h.1 c44
          refine jq_iinc (k0 := 3) (v := (x3 + 1)) (L' := [(3, .int (x3 + 1)), (0, .ref (aD G n 8)), (1, .int x1), (2, .int x2)]) dX7_legAt_49 hC rfl rfl (by decide) rfl ?_
          refine jq_goto (tgt := 2) dX7_legAt_52 hC (by decide) ?_
          exact jq_less (L' := [(0, .ref (aD G n 8)), (1, .int x1), (2, .int x2), (3, .int (x3 + 1))]) [1, 2, 3, 0] rfl (hK2 _ h)
        · have h := h.2 c44
          refine jq_iload_n (k0 := 3) dX7_legAt_47 hC rfl rfl ?_
          exact jq_iret dX7_legAt_48 hC he rfl ⟨_, rfl, rfl, h⟩
theorem ok_X7_legAt_L2 {G : Gt} {M : Mx} {Qf : State → Prop} {n : Nat} {x1 : Int32} {x2 : Int32} {x3 : Int32} {w : Wd} {Q : Int32 → Prop} (hC : cx G D_X7_legAt M) (he : en G M (qip w Q) Qf) (hn : n < 2) (h : wp_X7_legAt_L2 n x1 x2 x3 w Q) : jq G D_X7_legAt M Qf 2 [(0, .ref (aD G n 8)), (1, .int x1), (2, .int x2), (3, .int x3)] [] w := by
  unfold wp_X7_legAt_L2 at h
  obtain ⟨I, μ, h0, hs⟩ := h
  exact lp_ind (σ := Int32) (P := fun s => jq G D_X7_legAt M Qf 2 [(0, .ref (aD G n 8)), (1, .int x1), (2, .int x2), (3, .int s)] [] w) (fun s => I s) (fun s => μ s) (fun s h1 ih => ok_X7_legAt_B2 hC he hn (hs s h1) (fun x3' h => ih x3' h.1 h.2)) x3 h0
theorem ok_X7_legAt {G : Gt} {M : Mx} {Qf : State → Prop} {n : Nat} {x1 : Int32} {x2 : Int32} {w : Wd} {Q : Int32 → Prop} (hC : cx G D_X7_legAt M) (he : en G M (qip w Q) Qf) (hn : n < 2) (h : wp_X7_legAt n x1 x2 w Q) : jq G D_X7_legAt M Qf 0 [(0, .ref (aD G n 8)), (1, .int x1), (2, .int x2)] [] w := by
  unfold wp_X7_legAt at h
  refine jq_iconst (v := (0 : Int32)) dX7_legAt_0 hC (by decide) ?_
  refine jq_istore_n (L' := [(3, .int (0 : Int32)), (0, .ref (aD G n 8)), (1, .int x1), (2, .int x2)]) dX7_legAt_1 hC rfl (by decide) rfl ?_
  refine jq_less (L' := [(0, .ref (aD G n 8)), (1, .int x1), (2, .int x2), (3, .int (0 : Int32))]) [1, 2, 3, 0] rfl ?_
  exact ok_X7_legAt_L2 hC he hn h
theorem mt_X7_legAt {G : Gt} {n : Nat} {x1 : Int32} {x2 : Int32} {w : Wd} {Q : Int32 → Prop} (hn : n < 2) (h : wp_X7_legAt n x1 x2 w Q) : Mt G D_X7_legAt [.ref (aD G n 8), .int x1, .int x2] w (qip w Q) := Mt_of (by decide +kernel) rfl rfl (Nat.le_of_ble_eq_true rfl) (fun M Qf hC he => ok_X7_legAt hC he hn h)
/-! X7.howManyNets()I -/
theorem dX7_howManyNets_0 : decode cX7_howManyNets 0 = .ok (.iconst 0, 1) := by decide +kernel
theorem dX7_howManyNets_1 : decode cX7_howManyNets 1 = .ok (.istore_n 1, 1) := by decide +kernel
theorem dX7_howManyNets_2 : decode cX7_howManyNets 2 = .ok (.iconst 0, 1) := by decide +kernel
theorem dX7_howManyNets_3 : decode cX7_howManyNets 3 = .ok (.istore_n 2, 1) := by decide +kernel
theorem dX7_howManyNets_4 : decode cX7_howManyNets 4 = .ok (.iload_n 2, 1) := by decide +kernel
theorem dX7_howManyNets_5 : decode cX7_howManyNets 5 = .ok (.aload_n 0, 1) := by decide +kernel
theorem dX7_howManyNets_6 : decode cX7_howManyNets 6 = .ok (.getfield 21, 3) := by decide +kernel
theorem dX7_howManyNets_9 : decode cX7_howManyNets 9 = .ok (.getfield 32, 3) := by decide +kernel
theorem dX7_howManyNets_12 : decode cX7_howManyNets 12 = .ok (.if_icmp .ge 22, 3) := by decide +kernel
theorem dX7_howManyNets_15 : decode cX7_howManyNets 15 = .ok (.aload_n 0, 1) := by decide +kernel
theorem dX7_howManyNets_16 : decode cX7_howManyNets 16 = .ok (.getfield 9, 3) := by decide +kernel
theorem dX7_howManyNets_19 : decode cX7_howManyNets 19 = .ok (.iload_n 2, 1) := by decide +kernel
theorem dX7_howManyNets_20 : decode cX7_howManyNets 20 = .ok (.iaload, 1) := by decide +kernel
theorem dX7_howManyNets_21 : decode cX7_howManyNets 21 = .ok (.iload_n 2, 1) := by decide +kernel
theorem dX7_howManyNets_22 : decode cX7_howManyNets 22 = .ok (.if_icmp .ne 6, 3) := by decide +kernel
theorem dX7_howManyNets_25 : decode cX7_howManyNets 25 = .ok (.iinc 1 1, 3) := by decide +kernel
theorem dX7_howManyNets_28 : decode cX7_howManyNets 28 = .ok (.iinc 2 1, 3) := by decide +kernel
theorem dX7_howManyNets_31 : decode cX7_howManyNets 31 = .ok (.goto (-27), 3) := by decide +kernel
theorem dX7_howManyNets_34 : decode cX7_howManyNets 34 = .ok (.iload_n 1, 1) := by decide +kernel
theorem dX7_howManyNets_35 : decode cX7_howManyNets 35 = .ok (.ireturn, 1) := by decide +kernel
def D_X7_howManyNets : Md := (yX7_howManyNets, cX7_howManyNets, 3, (some .int), wsX7_howManyNets, RX7, { frames := 0, cells := 0, slots := 0, locals := 0 })
theorem nm_X7_howManyNets : nmD D_X7_howManyNets 0 := ⟨rfl, by decide +kernel, by decide +kernel, by decide +kernel⟩
theorem hi_X7_howManyNets_X5 : ∀ w ∈ u_ws RX5 TX5 8, w ∈ wsX7_howManyNets := by decide +kernel
theorem hi_X7_howManyNets_X7 : ∀ w ∈ u_ws RX7 TX7 6, w ∈ wsX7_howManyNets := by decide +kernel
theorem hl_X7_howManyNets_9 : Cond.fieldLink RX7 9 "LevelLoops$Tree" "net" "[I" ∈ wsX7_howManyNets := by decide +kernel
theorem hl_X7_howManyNets_21 : Cond.fieldLink RX7 21 "LevelLoops$Tree" "survey" "LLevelLoops$Survey;" ∈ wsX7_howManyNets := by decide +kernel
theorem hl_X7_howManyNets_32 : Cond.fieldLink RX7 32 "LevelLoops$Survey" "marks" "I" ∈ wsX7_howManyNets := by decide +kernel
def wp_X7_howManyNets_B4 (n : Nat) (x1 : Int32) (x2 : Int32) (w : Wd) (Q : Int32 → Prop) (K4 : Int32 → Int32 → Prop) : Prop :=
  (((wi w n 0 0) ≤ x2 → Q x1) ∧ (¬ (wi w n 0 0) ≤ x2 → vp_in x2 10 ∧ ((¬ (wi w n 9 x2.toNatClampNeg) = x2 → K4 x1 (x2 + 1)) ∧ ((wi w n 9 x2.toNatClampNeg) = x2 → K4 (x1 + 1) (x2 + 1)))))
def wp_X7_howManyNets_L4 (n : Nat) (x1 : Int32) (x2 : Int32) (w : Wd) (Q : Int32 → Prop) : Prop :=
  ∃ (I : Int32 → Int32 → Prop) (μ : Int32 → Int32 → Nat), I x1 x2 ∧ ∀ (x1 : Int32) (x2 : Int32), I x1 x2 → wp_X7_howManyNets_B4 n x1 x2 w Q (fun x1' x2' => I x1' x2' ∧ μ x1' x2' < μ x1 x2)
def wp_X7_howManyNets (n : Nat) (w : Wd) (Q : Int32 → Prop) : Prop :=
  wp_X7_howManyNets_L4 n (0 : Int32) (0 : Int32) w Q
theorem ok_X7_howManyNets_B4 {G : Gt} {M : Mx} {Qf : State → Prop} {n : Nat} {x1 : Int32} {x2 : Int32} {w : Wd} {Q : Int32 → Prop} {K4 : Int32 → Int32 → Prop} (hC : cx G D_X7_howManyNets M) (he : en G M (qip w Q) Qf) (hn : n < 2) (h : wp_X7_howManyNets_B4 n x1 x2 w Q K4) (hK4 : ∀ (x1 : Int32) (x2 : Int32), K4 x1 x2 → jq G D_X7_howManyNets M Qf 4 [(0, .ref (aD G n 8)), (1, .int x1), (2, .int x2)] [] w) : jq G D_X7_howManyNets M Qf 4 [(0, .ref (aD G n 8)), (1, .int x1), (2, .int x2)] [] w := by
  unfold wp_X7_howManyNets_B4 at h
  refine jq_iload_n (k0 := 2) dX7_howManyNets_4 hC rfl rfl ?_
  refine jq_aload_n (k0 := 0) dX7_howManyNets_5 hC rfl rfl ?_
  refine jq_get (k0 := 4) (n := n) (o := 8) dX7_howManyNets_6 hC (cl_T (by omega) (by decide)) rfl rfl hi_X7_howManyNets_X7 (by decide) hl_X7_howManyNets_21 rfl rfl ?_
  refine jq_get (k0 := 0) (n := n) (o := 0) dX7_howManyNets_9 hC (cl_S (by omega) (by decide)) rfl rfl hi_X7_howManyNets_X5 (by decide) hl_X7_howManyNets_32 rfl rfl ?_
  refine jq_icmp_ge (tgt := 34) dX7_howManyNets_12 hC (by decide) (fun c12 => ?_) (fun c12 => ?_)
  · have h := h.1 c12
    refine jq_iload_n (k0 := 1) dX7_howManyNets_34 hC rfl rfl ?_
    exact jq_iret dX7_howManyNets_35 hC he rfl ⟨_, rfl, rfl, h⟩
  · have h := h.2 c12
    refine jq_aload_n (k0 := 0) dX7_howManyNets_15 hC rfl rfl ?_
    refine jq_get (k0 := 2) (n := n) (o := 8) dX7_howManyNets_16 hC (cl_T (by omega) (by decide)) rfl rfl hi_X7_howManyNets_X7 (by decide) hl_X7_howManyNets_9 rfl rfl ?_
    refine jq_iload_n (k0 := 2) dX7_howManyNets_19 hC rfl rfl ?_
    obtain ⟨b20, h⟩ := h
    refine jq_iald (n := n) (o := 9) (j := x2.toNatClampNeg) dX7_howManyNets_20 hC (cl_T (by omega) (by decide)) rfl b20 rfl ?_
    refine jq_iload_n (k0 := 2) dX7_howManyNets_21 hC rfl rfl ?_
    refine jq_icmp_ne (tgt := 28) dX7_howManyNets_22 hC (by decide) (fun c22 => ?_) (fun c22 => ?_)
    · have h := h.1 c22
      refine jq_iinc (k0 := 2) (v := (x2 + 1)) (L' := [(2, .int (x2 + 1)), (0, .ref (aD G n 8)), (1, .int x1)]) dX7_howManyNets_28 hC rfl rfl (by decide) rfl ?_
      refine jq_goto (tgt := 4) dX7_howManyNets_31 hC (by decide) ?_
      exact jq_less (L' := [(0, .ref (aD G n 8)), (1, .int x1), (2, .int (x2 + 1))]) [1, 2, 0] rfl (hK4 _ _ h)
    · have h := h.2 c22
      refine jq_iinc (k0 := 1) (v := (x1 + 1)) (L' := [(1, .int (x1 + 1)), (0, .ref (aD G n 8)), (2, .int x2)]) dX7_howManyNets_25 hC rfl rfl (by decide) rfl ?_
      refine jq_iinc (k0 := 2) (v := (x2 + 1)) (L' := [(2, .int (x2 + 1)), (1, .int (x1 + 1)), (0, .ref (aD G n 8))]) dX7_howManyNets_28 hC rfl rfl (by decide) rfl ?_
      refine jq_goto (tgt := 4) dX7_howManyNets_31 hC (by decide) ?_
      exact jq_less (L' := [(0, .ref (aD G n 8)), (1, .int (x1 + 1)), (2, .int (x2 + 1))]) [2, 1, 0] rfl (hK4 _ _ h)
theorem ok_X7_howManyNets_L4 {G : Gt} {M : Mx} {Qf : State → Prop} {n : Nat} {x1 : Int32} {x2 : Int32} {w : Wd} {Q : Int32 → Prop} (hC : cx G D_X7_howManyNets M) (he : en G M (qip w Q) Qf) (hn : n < 2) (h : wp_X7_howManyNets_L4 n x1 x2 w Q) : jq G D_X7_howManyNets M Qf 4 [(0, .ref (aD G n 8)), (1, .int x1), (2, .int x2)] [] w := by
  unfold wp_X7_howManyNets_L4 at h
  obtain ⟨I, μ, h0, hs⟩ := h
  exact lp_ind (σ := Int32 × Int32) (P := fun s => jq G D_X7_howManyNets M Qf 4 [(0, .ref (aD G n 8)), (1, .int s.1), (2, .int s.2)] [] w) (fun s => I s.1 s.2) (fun s => μ s.1 s.2) (fun s h1 ih => ok_X7_howManyNets_B4 hC he hn (hs s.1 s.2 h1) (fun x1' x2' h => ih (x1', x2') h.1 h.2)) (x1, x2) h0
theorem ok_X7_howManyNets {G : Gt} {M : Mx} {Qf : State → Prop} {n : Nat} {w : Wd} {Q : Int32 → Prop} (hC : cx G D_X7_howManyNets M) (he : en G M (qip w Q) Qf) (hn : n < 2) (h : wp_X7_howManyNets n w Q) : jq G D_X7_howManyNets M Qf 0 [(0, .ref (aD G n 8))] [] w := by
  unfold wp_X7_howManyNets at h
  refine jq_iconst (v := (0 : Int32)) dX7_howManyNets_0 hC (by decide) ?_
  refine jq_istore_n (L' := [(1, .int (0 : Int32)), (0, .ref (aD G n 8))]) dX7_howManyNets_1 hC rfl (by decide) rfl ?_
  refine jq_iconst (v := (0 : Int32)) dX7_howManyNets_2 hC (by decide) ?_
  refine jq_istore_n (L' := [(2, .int (0 : Int32)), (1, .int (0 : Int32)), (0, .ref (aD G n 8))]) dX7_howManyNets_3 hC rfl (by decide) rfl ?_
  refine jq_less (L' := [(0, .ref (aD G n 8)), (1, .int (0 : Int32)), (2, .int (0 : Int32))]) [2, 1, 0] rfl ?_
  exact ok_X7_howManyNets_L4 hC he hn h
theorem mt_X7_howManyNets {G : Gt} {n : Nat} {w : Wd} {Q : Int32 → Prop} (hn : n < 2) (h : wp_X7_howManyNets n w Q) : Mt G D_X7_howManyNets [.ref (aD G n 8)] w (qip w Q) := Mt_of (by decide +kernel) rfl rfl (Nat.le_of_ble_eq_true rfl) (fun M Qf hC he => ok_X7_howManyNets hC he hn h)
