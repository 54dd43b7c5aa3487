/-! X1.dropOldest()V -/
theorem dX1_dropOldest_0 : decode cX1_dropOldest 0 = .ok (.aload_n 0, 1) := by decide +kernel
theorem dX1_dropOldest_1 : decode cX1_dropOldest 1 = .ok (.getfield 11, 3) := by decide +kernel
theorem dX1_dropOldest_4 : decode cX1_dropOldest 4 = .ok (.iconst 0, 1) := by decide +kernel
theorem dX1_dropOldest_5 : decode cX1_dropOldest 5 = .ok (.aaload, 1) := by decide +kernel
theorem dX1_dropOldest_6 : decode cX1_dropOldest 6 = .ok (.astore_n 1, 1) := by decide +kernel
theorem dX1_dropOldest_7 : decode cX1_dropOldest 7 = .ok (.iconst 1, 1) := by decide +kernel
theorem dX1_dropOldest_8 : decode cX1_dropOldest 8 = .ok (.istore_n 2, 1) := by decide +kernel
theorem dX1_dropOldest_9 : decode cX1_dropOldest 9 = .ok (.iload_n 2, 1) := by decide +kernel
theorem dX1_dropOldest_10 : decode cX1_dropOldest 10 = .ok (.bipush 6, 2) := by decide +kernel
theorem dX1_dropOldest_12 : decode cX1_dropOldest 12 = .ok (.if_icmp .ge 23, 3) := by decide +kernel
theorem dX1_dropOldest_15 : decode cX1_dropOldest 15 = .ok (.aload_n 0, 1) := by decide +kernel
theorem dX1_dropOldest_16 : decode cX1_dropOldest 16 = .ok (.getfield 11, 3) := by decide +kernel
theorem dX1_dropOldest_19 : decode cX1_dropOldest 19 = .ok (.iload_n 2, 1) := by decide +kernel
theorem dX1_dropOldest_20 : decode cX1_dropOldest 20 = .ok (.iconst 1, 1) := by decide +kernel
theorem dX1_dropOldest_21 : decode cX1_dropOldest 21 = .ok (.isub, 1) := by decide +kernel
theorem dX1_dropOldest_22 : decode cX1_dropOldest 22 = .ok (.aload_n 0, 1) := by decide +kernel
theorem dX1_dropOldest_23 : decode cX1_dropOldest 23 = .ok (.getfield 11, 3) := by decide +kernel
theorem dX1_dropOldest_26 : decode cX1_dropOldest 26 = .ok (.iload_n 2, 1) := by decide +kernel
theorem dX1_dropOldest_27 : decode cX1_dropOldest 27 = .ok (.aaload, 1) := by decide +kernel
theorem dX1_dropOldest_28 : decode cX1_dropOldest 28 = .ok (.aastore, 1) := by decide +kernel
theorem dX1_dropOldest_29 : decode cX1_dropOldest 29 = .ok (.iinc 2 1, 3) := by decide +kernel
theorem dX1_dropOldest_32 : decode cX1_dropOldest 32 = .ok (.goto (-23), 3) := by decide +kernel
theorem dX1_dropOldest_35 : decode cX1_dropOldest 35 = .ok (.aload_n 0, 1) := by decide +kernel
theorem dX1_dropOldest_36 : decode cX1_dropOldest 36 = .ok (.getfield 11, 3) := by decide +kernel
theorem dX1_dropOldest_39 : decode cX1_dropOldest 39 = .ok (.iconst 5, 1) := by decide +kernel
theorem dX1_dropOldest_40 : decode cX1_dropOldest 40 = .ok (.aload_n 1, 1) := by decide +kernel
theorem dX1_dropOldest_41 : decode cX1_dropOldest 41 = .ok (.aastore, 1) := by decide +kernel
theorem dX1_dropOldest_42 : decode cX1_dropOldest 42 = .ok (.aload_n 0, 1) := by decide +kernel
theorem dX1_dropOldest_43 : decode cX1_dropOldest 43 = .ok (.iconst 5, 1) := by decide +kernel
theorem dX1_dropOldest_44 : decode cX1_dropOldest 44 = .ok (.putfield 18, 3) := by decide +kernel
theorem dX1_dropOldest_47 : decode cX1_dropOldest 47 = .ok (.return_, 1) := by decide +kernel
def D_X1_dropOldest : Md := (yX1_dropOldest, cX1_dropOldest, 3, none, wsX1_dropOldest, RX1, { frames := 0, cells := 0, slots := 0, locals := 0 })
theorem nm_X1_dropOldest : nmD D_X1_dropOldest 0 := ⟨rfl, by decide +kernel, by decide +kernel, by decide +kernel⟩
theorem hi_X1_dropOldest_X1 : ∀ w ∈ u_ws RX1 TX1 2, w ∈ wsX1_dropOldest := by decide +kernel
theorem hl_X1_dropOldest_11 : Cond.fieldLink RX1 11 "LevelLoops$History" "saved" "[LLevelLoops$Survey;" ∈ wsX1_dropOldest := by decide +kernel
theorem hl_X1_dropOldest_18 : Cond.fieldLink RX1 18 "LevelLoops$History" "size" "I" ∈ wsX1_dropOldest := by decide +kernel
def wp_X1_dropOldest_B9 (m1 : Nat) (x2 : Int32) (w : Wd) (Q : Wd → Prop) (K9 : Int32 → Wd → Prop) : Prop :=
  (((6 : Int32) ≤ x2 → (∀ w41 : Wd, w41 = (sV w 5 m1) → (∀ w44 : Wd, w44 = (sI w41 0 27 0 (5 : Int32)) → Q w44))) ∧ (¬ (6 : Int32) ≤ x2 → vp_in x2 6 ∧ sv w x2.toNatClampNeg < 8 ∧ vp_in (x2 - (1 : Int32)) 6 ∧ (∀ w28 : Wd, w28 = (sV w (x2 - (1 : Int32)).toNatClampNeg (sv w x2.toNatClampNeg)) → K9 (x2 + 1) w28)))
def wp_X1_dropOldest_L9 (m1 : Nat) (x2 : Int32) (w : Wd) (Q : Wd → Prop) : Prop :=
  ∃ (I : Int32 → Wd → Prop) (μ : Int32 → Wd → Nat), I x2 w ∧ ∀ (x2 : Int32) (w : Wd), I x2 w → wp_X1_dropOldest_B9 m1 x2 w Q (fun x2' w' => I x2' w' ∧ μ x2' w' < μ x2 w)
def wp_X1_dropOldest (w : Wd) (Q : Wd → Prop) : Prop :=
  sv w 0 < 8 ∧ wp_X1_dropOldest_L9 (sv w 0) (1 : Int32) w Q
theorem ok_X1_dropOldest_B9 {G : Gt} {M : Mx} {Qf : State → Prop} {m1 : Nat} {x2 : Int32} {w : Wd} {Q : Wd → Prop} {K9 : Int32 → Wd → Prop} (hC : cx G D_X1_dropOldest M) (he : en G M (qv Q) Qf) (hm1 : m1 < 8) (h : wp_X1_dropOldest_B9 m1 x2 w Q K9) (hK9 : ∀ (x2 : Int32) (w : Wd), K9 x2 w → jq G D_X1_dropOldest M Qf 9 [(0, .ref (aD G 0 27)), (1, .ref (aD G m1 0)), (2, .int x2)] [] w) : jq G D_X1_dropOldest M Qf 9 [(0, .ref (aD G 0 27)), (1, .ref (aD G m1 0)), (2, .int x2)] [] w := by
  unfold wp_X1_dropOldest_B9 at h
  refine jq_iload_n (k0 := 2) dX1_dropOldest_9 hC rfl rfl ?_
  refine jq_bipush (v := (6 : Int32)) dX1_dropOldest_10 hC (by decide) ?_
  refine jq_icmp_ge (tgt := 35) dX1_dropOldest_12 hC (by decide) (fun c12 => ?_) (fun c12 => ?_)
  · have h := h.1 c12
    refine jq_aload_n (k0 := 0) dX1_dropOldest_35 hC rfl rfl ?_
    refine jq_get (k0 := 1) (n := 0) (o := 27) dX1_dropOldest_36 hC (cl_0 (by decide)) rfl rfl hi_X1_dropOldest_X1 (by decide) hl_X1_dropOldest_11 rfl rfl ?_
    refine jq_iconst (v := (5 : Int32)) dX1_dropOldest_39 hC (by decide) ?_
    refine jq_aload_n (k0 := 1) dX1_dropOldest_40 hC rfl rfl ?_
    refine jq_aast (o := 0) (j := 5) dX1_dropOldest_41 hC (by omega) (vin (by decide)) (by decide) ?_
    refine jq_w (fun w41 e41 => ?_)
    have h := h w41 e41
    refine jq_aload_n (k0 := 0) dX1_dropOldest_42 hC rfl rfl ?_
    refine jq_iconst (v := (5 : Int32)) dX1_dropOldest_43 hC (by decide) ?_
    refine jq_put (k0 := 0) (n := 0) (o := 27) (ty := .int) (w' := (sI w41 0 27 0 (5 : Int32))) dX1_dropOldest_44 hC (cl_0 (by decide)) rfl rfl hi_X1_dropOldest_X1 tyX1 tyX1_ok nmX1 (by decide) hl_X1_dropOldest_18 rfl rfl (by decide +kernel) rfl rfl (Nat.le_of_ble_eq_true rfl) (e_27_0 G _ _ _) (fun c _ hne => ent_sA c hne) ?_
    refine jq_w (fun w44 e44 => ?_)
    have h := h w44 e44
    exact jq_vret dX1_dropOldest_47 hC he rfl ⟨rfl, h⟩
  · have h := h.2 c12
    refine jq_aload_n (k0 := 0) dX1_dropOldest_15 hC rfl rfl ?_
    refine jq_get (k0 := 1) (n := 0) (o := 27) dX1_dropOldest_16 hC (cl_0 (by decide)) rfl rfl hi_X1_dropOldest_X1 (by decide) hl_X1_dropOldest_11 rfl rfl ?_
    refine jq_iload_n (k0 := 2) dX1_dropOldest_19 hC rfl rfl ?_
    refine jq_iconst (v := (1 : Int32)) dX1_dropOldest_20 hC (by decide) ?_
    refine jq_isub dX1_dropOldest_21 hC ?_
    refine jq_aload_n (k0 := 0) dX1_dropOldest_22 hC rfl rfl ?_
    refine jq_get (k0 := 1) (n := 0) (o := 27) dX1_dropOldest_23 hC (cl_0 (by decide)) rfl rfl hi_X1_dropOldest_X1 (by decide) hl_X1_dropOldest_11 rfl rfl ?_
    refine jq_iload_n (k0 := 2) dX1_dropOldest_26 hC rfl rfl ?_
    obtain ⟨b27, z27, h⟩ := h
    refine jq_aald (n := 0) (o := 28) (j := x2.toNatClampNeg) dX1_dropOldest_27 hC (cl_0 (by decide)) rfl b27 rfl rfl ?_
    obtain ⟨b28, h⟩ := h
    refine jq_aast (o := 0) (j := (x2 - (1 : Int32)).toNatClampNeg) dX1_dropOldest_28 hC (by omega) b28 rfl ?_
    refine jq_w (fun w28 e28 => ?_)
    have h := h w28 e28
    refine jq_iinc (k0 := 2) (v := (x2 + 1)) (L' := [(2, .int (x2 + 1)), (0, .ref (aD G 0 27)), (1, .ref (aD G m1 0))]) dX1_dropOldest_29 hC rfl rfl (by decide) rfl ?_
    refine jq_goto (tgt := 9) dX1_dropOldest_32 hC (by decide) ?_
    exact jq_less (L' := [(0, .ref (aD G 0 27)), (1, .ref (aD G m1 0)), (2, .int (x2 + 1))]) [1, 2, 0] rfl (hK9 _ _ h)
theorem ok_X1_dropOldest_L9 {G : Gt} {M : Mx} {Qf : State → Prop} {m1 : Nat} {x2 : Int32} {w : Wd} {Q : Wd → Prop} (hC : cx G D_X1_dropOldest M) (he : en G M (qv Q) Qf) (hm1 : m1 < 8) (h : wp_X1_dropOldest_L9 m1 x2 w Q) : jq G D_X1_dropOldest M Qf 9 [(0, .ref (aD G 0 27)), (1, .ref (aD G m1 0)), (2, .int x2)] [] w := by
  unfold wp_X1_dropOldest_L9 at h
  obtain ⟨I, μ, h0, hs⟩ := h
  exact lp_ind (σ := Int32 × Wd) (P := fun s => jq G D_X1_dropOldest M Qf 9 [(0, .ref (aD G 0 27)), (1, .ref (aD G m1 0)), (2, .int s.1)] [] s.2) (fun s => I s.1 s.2) (fun s => μ s.1 s.2) (fun s h1 ih => ok_X1_dropOldest_B9 hC he hm1 (hs s.1 s.2 h1) (fun x2' w' h => ih (x2', w') h.1 h.2)) (x2, w) h0
theorem ok_X1_dropOldest {G : Gt} {M : Mx} {Qf : State → Prop} {w : Wd} {Q : Wd → Prop} (hC : cx G D_X1_dropOldest M) (he : en G M (qv Q) Qf) (h : wp_X1_dropOldest w Q) : jq G D_X1_dropOldest M Qf 0 [(0, .ref (aD G 0 27))] [] w := by
  unfold wp_X1_dropOldest at h
  refine jq_aload_n (k0 := 0) dX1_dropOldest_0 hC rfl rfl ?_
  refine jq_get (k0 := 1) (n := 0) (o := 27) dX1_dropOldest_1 hC (cl_0 (by decide)) rfl rfl hi_X1_dropOldest_X1 (by decide) hl_X1_dropOldest_11 rfl rfl ?_
  refine jq_iconst (v := (0 : Int32)) dX1_dropOldest_4 hC (by decide) ?_
  obtain ⟨z5, h⟩ := h
  refine jq_aald (n := 0) (o := 28) (j := 0) dX1_dropOldest_5 hC (cl_0 (by decide)) rfl (vin (by decide)) (by decide) rfl ?_
  refine jq_astore_n (L' := [(1, .ref (aD G (sv w 0) 0)), (0, .ref (aD G 0 27))]) dX1_dropOldest_6 hC rfl (by decide) rfl ?_
  refine jq_iconst (v := (1 : Int32)) dX1_dropOldest_7 hC (by decide) ?_
  refine jq_istore_n (L' := [(2, .int (1 : Int32)), (1, .ref (aD G (sv w 0) 0)), (0, .ref (aD G 0 27))]) dX1_dropOldest_8 hC rfl (by decide) rfl ?_
  refine jq_less (L' := [(0, .ref (aD G 0 27)), (1, .ref (aD G (sv w 0) 0)), (2, .int (1 : Int32))]) [2, 1, 0] rfl ?_
  exact ok_X1_dropOldest_L9 hC he (by omega) h
theorem mt_X1_dropOldest {G : Gt} {w : Wd} {Q : Wd → Prop} (h : wp_X1_dropOldest w Q) : Mt G D_X1_dropOldest [.ref (aD G 0 27)] w (qv Q) := Mt_of (by decide +kernel) rfl rfl (Nat.le_of_ble_eq_true rfl) (fun M Qf hC he => ok_X1_dropOldest hC he h)
/-! X1.save(LLevelLoops$Survey;)V -/
theorem dX1_save_0 : decode cX1_save 0 = .ok (.aload_n 0, 1) := by decide +kernel
theorem dX1_save_1 : decode cX1_save 1 = .ok (.getfield 18, 3) := by decide +kernel
theorem dX1_save_4 : decode cX1_save 4 = .ok (.bipush 6, 2) := by decide +kernel
theorem dX1_save_6 : decode cX1_save 6 = .ok (.if_icmp .lt 7, 3) := by decide +kernel
theorem dX1_save_9 : decode cX1_save 9 = .ok (.aload_n 0, 1) := by decide +kernel
theorem dX1_save_10 : decode cX1_save 10 = .ok (.invokevirtual 22, 3) := by decide +kernel
theorem dX1_save_13 : decode cX1_save 13 = .ok (.aload_n 0, 1) := by decide +kernel
theorem dX1_save_14 : decode cX1_save 14 = .ok (.getfield 11, 3) := by decide +kernel
theorem dX1_save_17 : decode cX1_save 17 = .ok (.aload_n 0, 1) := by decide +kernel
theorem dX1_save_18 : decode cX1_save 18 = .ok (.getfield 18, 3) := by decide +kernel
theorem dX1_save_21 : decode cX1_save 21 = .ok (.aaload, 1) := by decide +kernel
theorem dX1_save_22 : decode cX1_save 22 = .ok (.astore_n 2, 1) := by decide +kernel
theorem dX1_save_23 : decode cX1_save 23 = .ok (.aload_n 2, 1) := by decide +kernel
theorem dX1_save_24 : decode cX1_save 24 = .ok (.ifnull 18, 3) := by decide +kernel
theorem dX1_save_27 : decode cX1_save 27 = .ok (.aload_n 2, 1) := by decide +kernel
theorem dX1_save_28 : decode cX1_save 28 = .ok (.aload_n 1, 1) := by decide +kernel
theorem dX1_save_29 : decode cX1_save 29 = .ok (.invokevirtual 25, 3) := by decide +kernel
theorem dX1_save_32 : decode cX1_save 32 = .ok (.aload_n 0, 1) := by decide +kernel
theorem dX1_save_33 : decode cX1_save 33 = .ok (.dup, 1) := by decide +kernel
theorem dX1_save_34 : decode cX1_save 34 = .ok (.getfield 18, 3) := by decide +kernel
theorem dX1_save_37 : decode cX1_save 37 = .ok (.iconst 1, 1) := by decide +kernel
theorem dX1_save_38 : decode cX1_save 38 = .ok (.iadd, 1) := by decide +kernel
theorem dX1_save_39 : decode cX1_save 39 = .ok (.putfield 18, 3) := by decide +kernel
theorem dX1_save_42 : decode cX1_save 42 = .ok (.return_, 1) := by decide +kernel
set_option maxRecDepth 20000 in
theorem ggX1_save_X5_copy : GoodIn wsX1_save wsX5_copy := goodIn_r _ [12, 13, 14, 15, 16, 17, 18, 19, 20, 21, 22, 23, 24, 27, 28, 29, 30, 31, 32, 33, 34] (by decide +kernel) (by decide +kernel)
set_option maxRecDepth 20000 in
theorem gX1_save_X5_copy : GoodIn wsX1_save (wsV RX1 25 RX5 yX5_copy wsX5_copy) := goodIn_app (goodIn_of _ (by decide +kernel)) ggX1_save_X5_copy
set_option maxRecDepth 20000 in
theorem ggX1_save_X1_dropOldest : GoodIn wsX1_save wsX1_dropOldest := goodIn_r _ [7, 2, 1, 25, 26] (by decide +kernel) (by decide +kernel)
set_option maxRecDepth 20000 in
theorem gX1_save_X1_dropOldest : GoodIn wsX1_save (wsV RX1 22 RX1 yX1_dropOldest wsX1_dropOldest) := goodIn_app (goodIn_of _ (by decide +kernel)) ggX1_save_X1_dropOldest
def D_X1_save : Md := (yX1_save, cX1_save, 3, none, wsX1_save, RX1, { frames := 2, cells := 0, slots := 0, locals := 61 })
theorem nm_X1_save : nmD D_X1_save 1 := ⟨rfl, by decide +kernel, by decide +kernel, by decide +kernel⟩
theorem hi_X1_save_X1 : ∀ w ∈ u_ws RX1 TX1 2, w ∈ wsX1_save := by decide +kernel
theorem hl_X1_save_11 : Cond.fieldLink RX1 11 "LevelLoops$History" "saved" "[LLevelLoops$Survey;" ∈ wsX1_save := by decide +kernel
theorem hl_X1_save_18 : Cond.fieldLink RX1 18 "LevelLoops$History" "size" "I" ∈ wsX1_save := by decide +kernel
def wp_X1_save_J13 (n1 : Nat) (w : Wd) (Q : Wd → Prop) : Prop :=
  vp_in (wi w 0 27 0) 6 ∧ sv w (wi w 0 27 0).toNatClampNeg < 8 ∧ wp_X5_copy (sv w (wi w 0 27 0).toNatClampNeg) n1 w (fun w29 => (∀ w39 : Wd, w39 = (sI w29 0 27 0 ((wi w29 0 27 0) + (1 : Int32))) → Q w39))
def wp_X1_save (n1 : Nat) (w : Wd) (Q : Wd → Prop) : Prop :=
  (((wi w 0 27 0) < (6 : Int32) → wp_X1_save_J13 n1 w Q) ∧ (¬ (wi w 0 27 0) < (6 : Int32) → wp_X1_dropOldest w (fun w10 => wp_X1_save_J13 n1 w10 Q)))
theorem ok_X1_save_J13 {G : Gt} {M : Mx} {Qf : State → Prop} {n1 : Nat} {w : Wd} {Q : Wd → Prop} (hC : cx G D_X1_save M) (he : en G M (qv Q) Qf) (hn1 : n1 < 8) (h : wp_X1_save_J13 n1 w Q) : jq G D_X1_save M Qf 13 [(0, .ref (aD G 0 27)), (1, .ref (aD G n1 0))] [] w := by
  unfold wp_X1_save_J13 at h
  refine jq_aload_n (k0 := 0) dX1_save_13 hC rfl rfl ?_
  refine jq_get (k0 := 1) (n := 0) (o := 27) dX1_save_14 hC (cl_0 (by decide)) rfl rfl hi_X1_save_X1 (by decide) hl_X1_save_11 rfl rfl ?_
  refine jq_aload_n (k0 := 0) dX1_save_17 hC rfl rfl ?_
  refine jq_get (k0 := 0) (n := 0) (o := 27) dX1_save_18 hC (cl_0 (by decide)) rfl rfl hi_X1_save_X1 (by decide) hl_X1_save_18 rfl rfl ?_
  obtain ⟨b21, z21, h⟩ := h
  refine jq_aald (n := 0) (o := 28) (j := (wi w 0 27 0).toNatClampNeg) dX1_save_21 hC (cl_0 (by decide)) rfl b21 rfl rfl ?_
  refine jq_astore_n (L' := [(2, .ref (aD G (sv w (wi w 0 27 0).toNatClampNeg) 0)), (0, .ref (aD G 0 27)), (1, .ref (aD G n1 0))]) dX1_save_22 hC rfl (by decide) rfl ?_
  refine jq_aload_n (k0 := 0) dX1_save_23 hC rfl rfl ?_
  refine jq_ifnull dX1_save_24 hC ?_
  refine jq_aload_n (k0 := 0) dX1_save_27 hC rfl rfl ?_
  refine jq_aload_n (k0 := 2) dX1_save_28 hC rfl rfl ?_
  refine jq_callV (As := [.ref (aD G n1 0)]) (rest := []) (n := (sv w (wi w 0 27 0).toNatClampNeg)) (o := 0) (D' := D_X5_copy) dX1_save_29 hC (cl_S (by omega) (by decide)) rfl rfl rfl (mt_X5_copy (by omega) (by omega) h) gX1_save_X5_copy rfl ⟨rfl, rfl, Nat.le_of_ble_eq_true rfl, Nat.le_of_ble_eq_true rfl⟩ nm_X5_copy rfl (Nat.le_of_ble_eq_true rfl) (kV fun w29 h => ?_)
  refine jq_aload_n (k0 := 1) dX1_save_32 hC rfl rfl ?_
  refine jq_dup dX1_save_33 hC rfl ?_
  refine jq_get (k0 := 0) (n := 0) (o := 27) dX1_save_34 hC (cl_0 (by decide)) rfl rfl hi_X1_save_X1 (by decide) hl_X1_save_18 rfl rfl ?_
  refine jq_iconst (v := (1 : Int32)) dX1_save_37 hC (by decide) ?_
  refine jq_iadd dX1_save_38 hC ?_
  refine jq_put (k0 := 0) (n := 0) (o := 27) (ty := .int) (w' := (sI w29 0 27 0 ((wi w29 0 27 0) + (1 : Int32)))) dX1_save_39 hC (cl_0 (by decide)) rfl rfl hi_X1_save_X1 tyX1 tyX1_ok nmX1 (by decide) hl_X1_save_18 rfl rfl (by decide +kernel) rfl rfl (Nat.le_of_ble_eq_true rfl) (e_27_0 G _ _ _) (fun c _ hne => ent_sA c hne) ?_
  refine jq_w (fun w39 e39 => ?_)
  have h := h w39 e39
  exact jq_vret dX1_save_42 hC he rfl ⟨rfl, h⟩
theorem ok_X1_save {G : Gt} {M : Mx} {Qf : State → Prop} {n1 : Nat} {w : Wd} {Q : Wd → Prop} (hC : cx G D_X1_save M) (he : en G M (qv Q) Qf) (hn1 : n1 < 8) (h : wp_X1_save n1 w Q) : jq G D_X1_save M Qf 0 [(0, .ref (aD G 0 27)), (1, .ref (aD G n1 0))] [] w := by
  unfold wp_X1_save at h
  refine jq_aload_n (k0 := 0) dX1_save_0 hC rfl rfl ?_
  refine jq_get (k0 := 0) (n := 0) (o := 27) dX1_save_1 hC (cl_0 (by decide)) rfl rfl hi_X1_save_X1 (by decide) hl_X1_save_18 rfl rfl ?_
  refine jq_bipush (v := (6 : Int32)) dX1_save_4 hC (by decide) ?_
  refine jq_icmp_lt (tgt := 13) dX1_save_6 hC (by decide) (fun c6 => ?_) (fun c6 => ?_)
  · have h := h.1 c6
    refine jq_less (L' := [(0, .ref (aD G 0 27)), (1, .ref (aD G n1 0))]) [0, 1] rfl ?_
    exact ok_X1_save_J13 hC he hn1 h
  · have h := h.2 c6
    refine jq_aload_n (k0 := 0) dX1_save_9 hC rfl rfl ?_
    refine jq_callV (As := []) (rest := []) (n := 0) (o := 27) (D' := D_X1_dropOldest) dX1_save_10 hC (cl_0 (by decide)) rfl rfl rfl (mt_X1_dropOldest h) gX1_save_X1_dropOldest rfl ⟨rfl, rfl, Nat.le_of_ble_eq_true rfl, Nat.le_of_ble_eq_true rfl⟩ nm_X1_dropOldest rfl (Nat.le_of_ble_eq_true rfl) (kV fun w10 h => ?_)
    refine jq_less (L' := [(0, .ref (aD G 0 27)), (1, .ref (aD G n1 0))]) [0, 1] rfl ?_
    exact ok_X1_save_J13 hC he hn1 h
theorem mt_X1_save {G : Gt} {n1 : Nat} {w : Wd} {Q : Wd → Prop} (hn1 : n1 < 8) (h : wp_X1_save n1 w Q) : Mt G D_X1_save [.ref (aD G 0 27), .ref (aD G n1 0)] w (qv Q) := Mt_of (by decide +kernel) rfl rfl (Nat.le_of_ble_eq_true rfl) (fun M Qf hC he => ok_X1_save hC he hn1 h)
/-! X1.restore(LLevelLoops$Survey;)V -/
theorem dX1_restore_0 : decode cX1_restore 0 = .ok (.aload_n 0, 1) := by decide +kernel
theorem dX1_restore_1 : decode cX1_restore 1 = .ok (.getfield 18, 3) := by decide +kernel
theorem dX1_restore_4 : decode cX1_restore 4 = .ok (.ifCond .ne 4, 3) := by decide +kernel
theorem dX1_restore_7 : decode cX1_restore 7 = .ok (.return_, 1) := by decide +kernel
theorem dX1_restore_8 : decode cX1_restore 8 = .ok (.aload_n 0, 1) := by decide +kernel
theorem dX1_restore_9 : decode cX1_restore 9 = .ok (.getfield 11, 3) := by decide +kernel
theorem dX1_restore_12 : decode cX1_restore 12 = .ok (.aload_n 0, 1) := by decide +kernel
theorem dX1_restore_13 : decode cX1_restore 13 = .ok (.getfield 18, 3) := by decide +kernel
theorem dX1_restore_16 : decode cX1_restore 16 = .ok (.iconst 1, 1) := by decide +kernel
theorem dX1_restore_17 : decode cX1_restore 17 = .ok (.isub, 1) := by decide +kernel
theorem dX1_restore_18 : decode cX1_restore 18 = .ok (.aaload, 1) := by decide +kernel
theorem dX1_restore_19 : decode cX1_restore 19 = .ok (.astore_n 2, 1) := by decide +kernel
theorem dX1_restore_20 : decode cX1_restore 20 = .ok (.aload_n 2, 1) := by decide +kernel
theorem dX1_restore_21 : decode cX1_restore 21 = .ok (.ifnull 18, 3) := by decide +kernel
theorem dX1_restore_24 : decode cX1_restore 24 = .ok (.aload_n 1, 1) := by decide +kernel
theorem dX1_restore_25 : decode cX1_restore 25 = .ok (.aload_n 2, 1) := by decide +kernel
theorem dX1_restore_26 : decode cX1_restore 26 = .ok (.invokevirtual 25, 3) := by decide +kernel
theorem dX1_restore_29 : decode cX1_restore 29 = .ok (.aload_n 0, 1) := by decide +kernel
theorem dX1_restore_30 : decode cX1_restore 30 = .ok (.dup, 1) := by decide +kernel
theorem dX1_restore_31 : decode cX1_restore 31 = .ok (.getfield 18, 3) := by decide +kernel
theorem dX1_restore_34 : decode cX1_restore 34 = .ok (.iconst 1, 1) := by decide +kernel
theorem dX1_restore_35 : decode cX1_restore 35 = .ok (.isub, 1) := by decide +kernel
theorem dX1_restore_36 : decode cX1_restore 36 = .ok (.putfield 18, 3) := by decide +kernel
theorem dX1_restore_39 : decode cX1_restore 39 = .ok (.return_, 1) := by decide +kernel
set_option maxRecDepth 20000 in
theorem ggX1_restore_X5_copy : GoodIn wsX1_restore wsX5_copy := goodIn_r _ [7, 8, 9, 10, 11, 12, 13, 14, 15, 16, 17, 18, 19, 22, 23, 24, 25, 26, 27, 28, 29] (by decide +kernel) (by decide +kernel)
set_option maxRecDepth 20000 in
theorem gX1_restore_X5_copy : GoodIn wsX1_restore (wsV RX1 25 RX5 yX5_copy wsX5_copy) := goodIn_app (goodIn_of _ (by decide +kernel)) ggX1_restore_X5_copy
def D_X1_restore : Md := (yX1_restore, cX1_restore, 3, none, wsX1_restore, RX1, { frames := 2, cells := 0, slots := 0, locals := 61 })
theorem nm_X1_restore : nmD D_X1_restore 1 := ⟨rfl, by decide +kernel, by decide +kernel, by decide +kernel⟩
theorem hi_X1_restore_X1 : ∀ w ∈ u_ws RX1 TX1 2, w ∈ wsX1_restore := by decide +kernel
theorem hl_X1_restore_11 : Cond.fieldLink RX1 11 "LevelLoops$History" "saved" "[LLevelLoops$Survey;" ∈ wsX1_restore := by decide +kernel
theorem hl_X1_restore_18 : Cond.fieldLink RX1 18 "LevelLoops$History" "size" "I" ∈ wsX1_restore := by decide +kernel
def wp_X1_restore (n1 : Nat) (w : Wd) (Q : Wd → Prop) : Prop :=
  ((¬ (wi w 0 27 0) = 0 → vp_in ((wi w 0 27 0) - (1 : Int32)) 6 ∧ sv w ((wi w 0 27 0) - (1 : Int32)).toNatClampNeg < 8 ∧ wp_X5_copy n1 (sv w ((wi w 0 27 0) - (1 : Int32)).toNatClampNeg) w (fun w26 => (∀ w36 : Wd, w36 = (sI w26 0 27 0 ((wi w26 0 27 0) - (1 : Int32))) → Q w36))) ∧ ((wi w 0 27 0) = 0 → Q w))
theorem ok_X1_restore {G : Gt} {M : Mx} {Qf : State → Prop} {n1 : Nat} {w : Wd} {Q : Wd → Prop} (hC : cx G D_X1_restore M) (he : en G M (qv Q) Qf) (hn1 : n1 < 8) (h : wp_X1_restore n1 w Q) : jq G D_X1_restore M Qf 0 [(0, .ref (aD G 0 27)), (1, .ref (aD G n1 0))] [] w := by
  unfold wp_X1_restore at h
  refine jq_aload_n (k0 := 0) dX1_restore_0 hC rfl rfl ?_
  refine jq_get (k0 := 0) (n := 0) (o := 27) dX1_restore_1 hC (cl_0 (by decide)) rfl rfl hi_X1_restore_X1 (by decide) hl_X1_restore_18 rfl rfl ?_
  refine jq_if_ne (tgt := 8) dX1_restore_4 hC (by decide) (fun c4 => ?_) (fun c4 => ?_)
  · have h := h.1 c4
    refine jq_aload_n (k0 := 0) dX1_restore_8 hC rfl rfl ?_
    refine jq_get (k0 := 1) (n := 0) (o := 27) dX1_restore_9 hC (cl_0 (by decide)) rfl rfl hi_X1_restore_X1 (by decide) hl_X1_restore_11 rfl rfl ?_
    refine jq_aload_n (k0 := 0) dX1_restore_12 hC rfl rfl ?_
    refine jq_get (k0 := 0) (n := 0) (o := 27) dX1_restore_13 hC (cl_0 (by decide)) rfl rfl hi_X1_restore_X1 (by decide) hl_X1_restore_18 rfl rfl ?_
    refine jq_iconst (v := (1 : Int32)) dX1_restore_16 hC (by decide) ?_
    refine jq_isub dX1_restore_17 hC ?_
    obtain ⟨b18, z18, h⟩ := h
    refine jq_aald (n := 0) (o := 28) (j := ((wi w 0 27 0) - (1 : Int32)).toNatClampNeg) dX1_restore_18 hC (cl_0 (by decide)) rfl b18 rfl rfl ?_
    refine jq_astore_n (L' := [(2, .ref (aD G (sv w ((wi w 0 27 0) - (1 : Int32)).toNatClampNeg) 0)), (0, .ref (aD G 0 27)), (1, .ref (aD G n1 0))]) dX1_restore_19 hC rfl (by decide) rfl ?_
    refine jq_aload_n (k0 := 0) dX1_restore_20 hC rfl rfl ?_
    refine jq_ifnull dX1_restore_21 hC ?_
    refine jq_aload_n (k0 := 2) dX1_restore_24 hC rfl rfl ?_
    refine jq_aload_n (k0 := 0) dX1_restore_25 hC rfl rfl ?_
    refine jq_callV (As := [.ref (aD G (sv w ((wi w 0 27 0) - (1 : Int32)).toNatClampNeg) 0)]) (rest := []) (n := n1) (o := 0) (D' := D_X5_copy) dX1_restore_26 hC (cl_S (by omega) (by decide)) rfl rfl rfl (mt_X5_copy (by omega) (by omega) h) gX1_restore_X5_copy rfl ⟨rfl, rfl, Nat.le_of_ble_eq_true rfl, Nat.le_of_ble_eq_true rfl⟩ nm_X5_copy rfl (Nat.le_of_ble_eq_true rfl) (kV fun w26 h => ?_)
    refine jq_aload_n (k0 := 1) dX1_restore_29 hC rfl rfl ?_
    refine jq_dup dX1_restore_30 hC rfl ?_
    refine jq_get (k0 := 0) (n := 0) (o := 27) dX1_restore_31 hC (cl_0 (by decide)) rfl rfl hi_X1_restore_X1 (by decide) hl_X1_restore_18 rfl rfl ?_
    refine jq_iconst (v := (1 : Int32)) dX1_restore_34 hC (by decide) ?_
    refine jq_isub dX1_restore_35 hC ?_
    refine jq_put (k0 := 0) (n := 0) (o := 27) (ty := .int) (w' := (sI w26 0 27 0 ((wi w26 0 27 0) - (1 : Int32)))) dX1_restore_36 hC (cl_0 (by decide)) rfl rfl hi_X1_restore_X1 tyX1 tyX1_ok nmX1 (by decide) hl_X1_restore_18 rfl rfl (by decide +kernel) rfl rfl (Nat.le_of_ble_eq_true rfl) (e_27_0 G _ _ _) (fun c _ hne => ent_sA c hne) ?_
    refine jq_w (fun w36 e36 => ?_)
    have h := h w36 e36
    exact jq_vret dX1_restore_39 hC he rfl ⟨rfl, h⟩
  · have h := h.2 c4
    exact jq_vret dX1_restore_7 hC he rfl ⟨rfl, h⟩
theorem mt_X1_restore {G : Gt} {n1 : Nat} {w : Wd} {Q : Wd → Prop} (hn1 : n1 < 8) (h : wp_X1_restore n1 w Q) : Mt G D_X1_restore [.ref (aD G 0 27), .ref (aD G n1 0)] w (qv Q) := Mt_of (by decide +kernel) rfl rfl (Nat.le_of_ble_eq_true rfl) (fun M Qf hC he => ok_X1_restore hC he hn1 h)
/-! X3.start()V -/
theorem dX3_start_0 : decode cX3_start 0 = .ok (.aload_n 0, 1) := by decide +kernel
theorem dX3_start_1 : decode cX3_start 1 = .ok (.iconst 0, 1) := by decide +kernel
theorem dX3_start_2 : decode cX3_start 2 = .ok (.putfield 11, 3) := by decide +kernel
theorem dX3_start_5 : decode cX3_start 5 = .ok (.return_, 1) := by decide +kernel
def D_X3_start : Md := (yX3_start, cX3_start, 1, none, wsX3_start, RX3, { frames := 0, cells := 0, slots := 0, locals := 0 })
theorem nm_X3_start : nmD D_X3_start 0 := ⟨rfl, by decide +kernel, by decide +kernel, by decide +kernel⟩
theorem hi_X3_start_X3 : ∀ w ∈ u_ws RX3 TX3 6, w ∈ wsX3_start := by decide +kernel
theorem hl_X3_start_11 : Cond.fieldLink RX3 11 "LevelLoops$Reader" "state" "I" ∈ wsX3_start := by decide +kernel
def wp_X3_start (w : Wd) (Q : Wd → Prop) : Prop :=
  (∀ w2 : Wd, w2 = (sI w 0 31 4 (0 : Int32)) → Q w2)
theorem ok_X3_start {G : Gt} {M : Mx} {Qf : State → Prop} {w : Wd} {Q : Wd → Prop} (hC : cx G D_X3_start M) (he : en G M (qv Q) Qf) (h : wp_X3_start w Q) : jq G D_X3_start M Qf 0 [(0, .ref (aD G 0 31))] [] w := by
  unfold wp_X3_start at h
  refine jq_aload_n (k0 := 0) dX3_start_0 hC rfl rfl ?_
  refine jq_iconst (v := (0 : Int32)) dX3_start_1 hC (by decide) ?_
  refine jq_put (k0 := 4) (n := 0) (o := 31) (ty := .int) (w' := (sI w 0 31 4 (0 : Int32))) dX3_start_2 hC (cl_0 (by decide)) rfl rfl hi_X3_start_X3 tyX3 tyX3_ok nmX3 (by decide) hl_X3_start_11 rfl rfl (by decide +kernel) rfl rfl (Nat.le_of_ble_eq_true rfl) (e_31_4 G _ _ _) (fun c _ hne => ent_sA c hne) ?_
  refine jq_w (fun w2 e2 => ?_)
  have h := h w2 e2
  exact jq_vret dX3_start_5 hC he rfl ⟨rfl, h⟩
theorem mt_X3_start {G : Gt} {w : Wd} {Q : Wd → Prop} (h : wp_X3_start w Q) : Mt G D_X3_start [.ref (aD G 0 31)] w (qv Q) := Mt_of (by decide +kernel) rfl rfl (Nat.le_of_ble_eq_true rfl) (fun M Qf hC he => ok_X3_start hC he h)
/-! X3.isAtMark()Z -/
theorem dX3_isAtMark_0 : decode cX3_isAtMark 0 = .ok (.aload_n 0, 1) := by decide +kernel
theorem dX3_isAtMark_1 : decode cX3_isAtMark 1 = .ok (.getfield 11, 3) := by decide +kernel
theorem dX3_isAtMark_4 : decode cX3_isAtMark 4 = .ok (.iconst 1, 1) := by decide +kernel
theorem dX3_isAtMark_5 : decode cX3_isAtMark 5 = .ok (.if_icmp .eq 11, 3) := by decide +kernel
theorem dX3_isAtMark_8 : decode cX3_isAtMark 8 = .ok (.aload_n 0, 1) := by decide +kernel
theorem dX3_isAtMark_9 : decode cX3_isAtMark 9 = .ok (.getfield 11, 3) := by decide +kernel
theorem dX3_isAtMark_12 : decode cX3_isAtMark 12 = .ok (.iconst 2, 1) := by decide +kernel
theorem dX3_isAtMark_13 : decode cX3_isAtMark 13 = .ok (.if_icmp .ne 7, 3) := by decide +kernel
theorem dX3_isAtMark_16 : decode cX3_isAtMark 16 = .ok (.iconst 1, 1) := by decide +kernel
theorem dX3_isAtMark_17 : decode cX3_isAtMark 17 = .ok (.goto 4, 3) := by decide +kernel
theorem dX3_isAtMark_20 : decode cX3_isAtMark 20 = .ok (.iconst 0, 1) := by decide +kernel
theorem dX3_isAtMark_21 : decode cX3_isAtMark 21 = .ok (.ireturn, 1) := by decide +kernel
def D_X3_isAtMark : Md := (yX3_isAtMark, cX3_isAtMark, 1, (some .boolean), wsX3_isAtMark, RX3, { frames := 0, cells := 0, slots := 0, locals := 0 })
theorem nm_X3_isAtMark : nmD D_X3_isAtMark 0 := ⟨rfl, by decide +kernel, by decide +kernel, by decide +kernel⟩
theorem hi_X3_isAtMark_X3 : ∀ w ∈ u_ws RX3 TX3 6, w ∈ wsX3_isAtMark := by decide +kernel
theorem hl_X3_isAtMark_11 : Cond.fieldLink RX3 11 "LevelLoops$Reader" "state" "I" ∈ wsX3_isAtMark := by decide +kernel
def wp_X3_isAtMark (w : Wd) (Q : Int32 → Prop) : Prop :=
  (((wi w 0 31 4) = (1 : Int32) → zb (1 : Int32) ∧ Q (1 : Int32)) ∧ (¬ (wi w 0 31 4) = (1 : Int32) → ((¬ (wi w 0 31 4) = (2 : Int32) → zb (0 : Int32) ∧ Q (0 : Int32)) ∧ ((wi w 0 31 4) = (2 : Int32) → zb (1 : Int32) ∧ Q (1 : Int32)))))
theorem ok_X3_isAtMark {G : Gt} {M : Mx} {Qf : State → Prop} {w : Wd} {Q : Int32 → Prop} (hC : cx G D_X3_isAtMark M) (he : en G M (qip w Q) Qf) (h : wp_X3_isAtMark w Q) : jq G D_X3_isAtMark M Qf 0 [(0, .ref (aD G 0 31))] [] w := by
  unfold wp_X3_isAtMark at h
  refine jq_aload_n (k0 := 0) dX3_isAtMark_0 hC rfl rfl ?_
  refine jq_get (k0 := 4) (n := 0) (o := 31) dX3_isAtMark_1 hC (cl_0 (by decide)) rfl rfl hi_X3_isAtMark_X3 (by decide) hl_X3_isAtMark_11 rfl rfl ?_
  refine jq_iconst (v := (1 : Int32)) dX3_isAtMark_4 hC (by decide) ?_
  refine jq_icmp_eq (tgt := 16) dX3_isAtMark_5 hC (by decide) (fun c5 => ?_) (fun c5 => ?_)
  · have h := h.1 c5
    refine jq_iconst (v := (1 : Int32)) dX3_isAtMark_16 hC (by decide) ?_
    refine jq_goto (tgt := 21) dX3_isAtMark_17 hC (by decide) ?_
    obtain ⟨bz, h⟩ := h
    exact jq_zret dX3_isAtMark_21 hC he rfl bz ⟨_, rfl, rfl, h⟩
  · have h := h.2 c5
    refine jq_aload_n (k0 := 0) dX3_isAtMark_8 hC rfl rfl ?_
    refine jq_get (k0 := 4) (n := 0) (o := 31) dX3_isAtMark_9 hC (cl_0 (by decide)) rfl rfl hi_X3_isAtMark_X3 (by decide) hl_X3_isAtMark_11 rfl rfl ?_
    refine jq_iconst (v := (2 : Int32)) dX3_isAtMark_12 hC (by decide) ?_
    refine jq_icmp_ne (tgt := 20) dX3_isAtMark_13 hC (by decide) (fun c13 => ?_) (fun c13 => ?_)
    · have h := h.1 c13
      refine jq_iconst (v := (0 : Int32)) dX3_isAtMark_20 hC (by decide) ?_
      obtain ⟨bz, h⟩ := h
      exact jq_zret dX3_isAtMark_21 hC he rfl bz ⟨_, rfl, rfl, h⟩
    · have h := h.2 c13
      refine jq_iconst (v := (1 : Int32)) dX3_isAtMark_16 hC (by decide) ?_
      refine jq_goto (tgt := 21) dX3_isAtMark_17 hC (by decide) ?_
      obtain ⟨bz, h⟩ := h
      exact jq_zret dX3_isAtMark_21 hC he rfl bz ⟨_, rfl, rfl, h⟩
theorem mt_X3_isAtMark {G : Gt} {w : Wd} {Q : Int32 → Prop} (h : wp_X3_isAtMark w Q) : Mt G D_X3_isAtMark [.ref (aD G 0 31)] w (qip w Q) := Mt_of (by decide +kernel) rfl rfl (Nat.le_of_ble_eq_true rfl) (fun M Qf hC he => ok_X3_isAtMark hC he h)
/-! X3.isAtEntryEnd()Z -/
theorem dX3_isAtEntryEnd_0 : decode cX3_isAtEntryEnd 0 = .ok (.aload_n 0, 1) := by decide +kernel
theorem dX3_isAtEntryEnd_1 : decode cX3_isAtEntryEnd 1 = .ok (.invokevirtual 15, 3) := by decide +kernel
theorem dX3_isAtEntryEnd_4 : decode cX3_isAtEntryEnd 4 = .ok (.ifCond .ne 12, 3) := by decide +kernel
theorem dX3_isAtEntryEnd_7 : decode cX3_isAtEntryEnd 7 = .ok (.aload_n 0, 1) := by decide +kernel
theorem dX3_isAtEntryEnd_8 : decode cX3_isAtEntryEnd 8 = .ok (.getfield 11, 3) := by decide +kernel
theorem dX3_isAtEntryEnd_11 : decode cX3_isAtEntryEnd 11 = .ok (.bipush 10, 2) := by decide +kernel
theorem dX3_isAtEntryEnd_13 : decode cX3_isAtEntryEnd 13 = .ok (.if_icmp .ne 7, 3) := by decide +kernel
theorem dX3_isAtEntryEnd_16 : decode cX3_isAtEntryEnd 16 = .ok (.iconst 1, 1) := by decide +kernel
theorem dX3_isAtEntryEnd_17 : decode cX3_isAtEntryEnd 17 = .ok (.goto 4, 3) := by decide +kernel
theorem dX3_isAtEntryEnd_20 : decode cX3_isAtEntryEnd 20 = .ok (.iconst 0, 1) := by decide +kernel
theorem dX3_isAtEntryEnd_21 : decode cX3_isAtEntryEnd 21 = .ok (.ireturn, 1) := by decide +kernel
set_option maxRecDepth 20000 in
theorem ggX3_isAtEntryEnd_X3_isAtMark : GoodIn wsX3_isAtEntryEnd wsX3_isAtMark := goodIn_r _ [6, 1, 7, 8, 9, 10, 11, 12] (by decide +kernel) (by decide +kernel)
set_option maxRecDepth 20000 in
theorem gX3_isAtEntryEnd_X3_isAtMark : GoodIn wsX3_isAtEntryEnd (wsV RX3 15 RX3 yX3_isAtMark wsX3_isAtMark) := goodIn_app (goodIn_of _ (by decide +kernel)) ggX3_isAtEntryEnd_X3_isAtMark
def D_X3_isAtEntryEnd : Md := (yX3_isAtEntryEnd, cX3_isAtEntryEnd, 1, (some .boolean), wsX3_isAtEntryEnd, RX3, { frames := 1, cells := 0, slots := 0, locals := 20 })
theorem nm_X3_isAtEntryEnd : nmD D_X3_isAtEntryEnd 0 := ⟨rfl, by decide +kernel, by decide +kernel, by decide +kernel⟩
theorem hi_X3_isAtEntryEnd_X3 : ∀ w ∈ u_ws RX3 TX3 6, w ∈ wsX3_isAtEntryEnd := by decide +kernel
theorem hl_X3_isAtEntryEnd_11 : Cond.fieldLink RX3 11 "LevelLoops$Reader" "state" "I" ∈ wsX3_isAtEntryEnd := by decide +kernel
def wp_X3_isAtEntryEnd (w : Wd) (Q : Int32 → Prop) : Prop :=
  wp_X3_isAtMark w (fun r1 => ((¬ r1 = 0 → zb (1 : Int32) ∧ Q (1 : Int32)) ∧ (r1 = 0 → ((¬ (wi w 0 31 4) = (10 : Int32) → zb (0 : Int32) ∧ Q (0 : Int32)) ∧ ((wi w 0 31 4) = (10 : Int32) → zb (1 : Int32) ∧ Q (1 : Int32))))))
theorem ok_X3_isAtEntryEnd {G : Gt} {M : Mx} {Qf : State → Prop} {w : Wd} {Q : Int32 → Prop} (hC : cx G D_X3_isAtEntryEnd M) (he : en G M (qip w Q) Qf) (h : wp_X3_isAtEntryEnd w Q) : jq G D_X3_isAtEntryEnd M Qf 0 [(0, .ref (aD G 0 31))] [] w := by
  unfold wp_X3_isAtEntryEnd at h
  refine jq_aload_n (k0 := 0) dX3_isAtEntryEnd_0 hC rfl rfl ?_
  refine jq_callV (As := []) (rest := []) (n := 0) (o := 31) (D' := D_X3_isAtMark) dX3_isAtEntryEnd_1 hC (cl_0 (by decide)) rfl rfl rfl (mt_X3_isAtMark h) gX3_isAtEntryEnd_X3_isAtMark rfl ⟨rfl, rfl, Nat.le_of_ble_eq_true rfl, Nat.le_of_ble_eq_true rfl⟩ nm_X3_isAtMark rfl (Nat.le_of_ble_eq_true rfl) (kIp fun r1 h => ?_)
  refine jq_if_ne (tgt := 16) dX3_isAtEntryEnd_4 hC (by decide) (fun c4 => ?_) (fun c4 => ?_)
  · have h := h.1 c4
    refine jq_iconst (v := (1 : Int32)) dX3_isAtEntryEnd_16 hC (by decide) ?_
    refine jq_goto (tgt := 21) dX3_isAtEntryEnd_17 hC (by decide) ?_
    obtain ⟨bz, h⟩ := h
    exact jq_zret dX3_isAtEntryEnd_21 hC he rfl bz ⟨_, rfl, rfl, h⟩
  · have h := h.2 c4
    refine jq_aload_n (k0 := 0) dX3_isAtEntryEnd_7 hC rfl rfl ?_
    refine jq_get (k0 := 4) (n := 0) (o := 31) dX3_isAtEntryEnd_8 hC (cl_0 (by decide)) rfl rfl hi_X3_isAtEntryEnd_X3 (by decide) hl_X3_isAtEntryEnd_11 rfl rfl ?_
    refine jq_bipush (v := (10 : Int32)) dX3_isAtEntryEnd_11 hC (by decide) ?_
    refine jq_icmp_ne (tgt := 20) dX3_isAtEntryEnd_13 hC (by decide) (fun c13 => ?_) (fun c13 => ?_)
    · have h := h.1 c13
      refine jq_iconst (v := (0 : Int32)) dX3_isAtEntryEnd_20 hC (by decide) ?_
      obtain ⟨bz, h⟩ := h
      exact jq_zret dX3_isAtEntryEnd_21 hC he rfl bz ⟨_, rfl, rfl, h⟩
    · have h := h.2 c13
      refine jq_iconst (v := (1 : Int32)) dX3_isAtEntryEnd_16 hC (by decide) ?_
      refine jq_goto (tgt := 21) dX3_isAtEntryEnd_17 hC (by decide) ?_
      obtain ⟨bz, h⟩ := h
      exact jq_zret dX3_isAtEntryEnd_21 hC he rfl bz ⟨_, rfl, rfl, h⟩
theorem mt_X3_isAtEntryEnd {G : Gt} {w : Wd} {Q : Int32 → Prop} (h : wp_X3_isAtEntryEnd w Q) : Mt G D_X3_isAtEntryEnd [.ref (aD G 0 31)] w (qip w Q) := Mt_of (by decide +kernel) rfl rfl (Nat.le_of_ble_eq_true rfl) (fun M Qf hC he => ok_X3_isAtEntryEnd hC he h)
/-! X3.known()I -/
theorem dX3_known_0 : decode cX3_known 0 = .ok (.aload_n 0, 1) := by decide +kernel
theorem dX3_known_1 : decode cX3_known 1 = .ok (.getfield 11, 3) := by decide +kernel
theorem dX3_known_4 : decode cX3_known 4 = .ok (.iconst 2, 1) := by decide +kernel
theorem dX3_known_5 : decode cX3_known 5 = .ok (.if_icmp .ne 10, 3) := by decide +kernel
theorem dX3_known_8 : decode cX3_known 8 = .ok (.aload_n 0, 1) := by decide +kernel
theorem dX3_known_9 : decode cX3_known 9 = .ok (.getfield 19, 3) := by decide +kernel
theorem dX3_known_12 : decode cX3_known 12 = .ok (.goto 4, 3) := by decide +kernel
theorem dX3_known_15 : decode cX3_known 15 = .ok (.iconst (-1), 1) := by decide +kernel
theorem dX3_known_16 : decode cX3_known 16 = .ok (.ireturn, 1) := by decide +kernel
def D_X3_known : Md := (yX3_known, cX3_known, 1, (some .int), wsX3_known, RX3, { frames := 0, cells := 0, slots := 0, locals := 0 })
theorem nm_X3_known : nmD D_X3_known 0 := ⟨rfl, by decide +kernel, by decide +kernel, by decide +kernel⟩
theorem hi_X3_known_X3 : ∀ w ∈ u_ws RX3 TX3 6, w ∈ wsX3_known := by decide +kernel
theorem hl_X3_known_11 : Cond.fieldLink RX3 11 "LevelLoops$Reader" "state" "I" ∈ wsX3_known := by decide +kernel
theorem hl_X3_known_19 : Cond.fieldLink RX3 19 "LevelLoops$Reader" "number" "I" ∈ wsX3_known := by decide +kernel
def wp_X3_known (w : Wd) (Q : Int32 → Prop) : Prop :=
  ((¬ (wi w 0 31 4) = (2 : Int32) → Q (-1 : Int32)) ∧ ((wi w 0 31 4) = (2 : Int32) → Q (wi w 0 31 0)))
theorem ok_X3_known {G : Gt} {M : Mx} {Qf : State → Prop} {w : Wd} {Q : Int32 → Prop} (hC : cx G D_X3_known M) (he : en G M (qip w Q) Qf) (h : wp_X3_known w Q) : jq G D_X3_known M Qf 0 [(0, .ref (aD G 0 31))] [] w := by
  unfold wp_X3_known at h
  refine jq_aload_n (k0 := 0) dX3_known_0 hC rfl rfl ?_
  refine jq_get (k0 := 4) (n := 0) (o := 31) dX3_known_1 hC (cl_0 (by decide)) rfl rfl hi_X3_known_X3 (by decide) hl_X3_known_11 rfl rfl ?_
  refine jq_iconst (v := (2 : Int32)) dX3_known_4 hC (by decide) ?_
  refine jq_icmp_ne (tgt := 15) dX3_known_5 hC (by decide) (fun c5 => ?_) (fun c5 => ?_)
  · have h := h.1 c5
    refine jq_iconst (v := (-1 : Int32)) dX3_known_15 hC (by decide) ?_
    exact jq_iret dX3_known_16 hC he rfl ⟨_, rfl, rfl, h⟩
  · have h := h.2 c5
    refine jq_aload_n (k0 := 0) dX3_known_8 hC rfl rfl ?_
    refine jq_get (k0 := 0) (n := 0) (o := 31) dX3_known_9 hC (cl_0 (by decide)) rfl rfl hi_X3_known_X3 (by decide) hl_X3_known_19 rfl rfl ?_
    refine jq_goto (tgt := 16) dX3_known_12 hC (by decide) ?_
    exact jq_iret dX3_known_16 hC he rfl ⟨_, rfl, rfl, h⟩
theorem mt_X3_known {G : Gt} {w : Wd} {Q : Int32 → Prop} (h : wp_X3_known w Q) : Mt G D_X3_known [.ref (aD G 0 31)] w (qip w Q) := Mt_of (by decide +kernel) rfl rfl (Nat.le_of_ble_eq_true rfl) (fun M Qf hC he => ok_X3_known hC he h)
/-! X3.comeTo(I)Z -/
theorem dX3_comeTo_0 : decode cX3_comeTo 0 = .ok (.aload_n 0, 1) := by decide +kernel
theorem dX3_comeTo_1 : decode cX3_comeTo 1 = .ok (.iload_n 1, 1) := by decide +kernel
theorem dX3_comeTo_2 : decode cX3_comeTo 2 = .ok (.putfield 11, 3) := by decide +kernel
theorem dX3_comeTo_5 : decode cX3_comeTo 5 = .ok (.iconst 1, 1) := by decide +kernel
theorem dX3_comeTo_6 : decode cX3_comeTo 6 = .ok (.ireturn, 1) := by decide +kernel
def D_X3_comeTo : Md := (yX3_comeTo, cX3_comeTo, 2, (some .boolean), wsX3_comeTo, RX3, { frames := 0, cells := 0, slots := 0, locals := 0 })
theorem nm_X3_comeTo : nmD D_X3_comeTo 1 := ⟨rfl, by decide +kernel, by decide +kernel, by decide +kernel⟩
theorem hi_X3_comeTo_X3 : ∀ w ∈ u_ws RX3 TX3 6, w ∈ wsX3_comeTo := by decide +kernel
theorem hl_X3_comeTo_11 : Cond.fieldLink RX3 11 "LevelLoops$Reader" "state" "I" ∈ wsX3_comeTo := by decide +kernel
def wp_X3_comeTo (x1 : Int32) (w : Wd) (Q : Int32 → Wd → Prop) : Prop :=
  (∀ w2 : Wd, w2 = (sI w 0 31 4 x1) → zb (1 : Int32) ∧ Q (1 : Int32) w2)
theorem ok_X3_comeTo {G : Gt} {M : Mx} {Qf : State → Prop} {x1 : Int32} {w : Wd} {Q : Int32 → Wd → Prop} (hC : cx G D_X3_comeTo M) (he : en G M (qi Q) Qf) (h : wp_X3_comeTo x1 w Q) : jq G D_X3_comeTo M Qf 0 [(0, .ref (aD G 0 31)), (1, .int x1)] [] w := by
  unfold wp_X3_comeTo at h
  refine jq_aload_n (k0 := 0) dX3_comeTo_0 hC rfl rfl ?_
  refine jq_iload_n (k0 := 1) dX3_comeTo_1 hC rfl rfl ?_
  refine jq_put (k0 := 4) (n := 0) (o := 31) (ty := .int) (w' := (sI w 0 31 4 x1)) dX3_comeTo_2 hC (cl_0 (by decide)) rfl rfl hi_X3_comeTo_X3 tyX3 tyX3_ok nmX3 (by decide) hl_X3_comeTo_11 rfl rfl (by decide +kernel) rfl rfl (Nat.le_of_ble_eq_true rfl) (e_31_4 G _ _ _) (fun c _ hne => ent_sA c hne) ?_
  refine jq_w (fun w2 e2 => ?_)
  have h := h w2 e2
  refine jq_iconst (v := (1 : Int32)) dX3_comeTo_5 hC (by decide) ?_
  obtain ⟨bz, h⟩ := h
  exact jq_zret dX3_comeTo_6 hC he rfl bz ⟨_, rfl, h⟩
theorem mt_X3_comeTo {G : Gt} {x1 : Int32} {w : Wd} {Q : Int32 → Wd → Prop} (h : wp_X3_comeTo x1 w Q) : Mt G D_X3_comeTo [.ref (aD G 0 31), .int x1] w (qi Q) := Mt_of (by decide +kernel) rfl rfl (Nat.le_of_ble_eq_true rfl) (fun M Qf hC he => ok_X3_comeTo hC he h)
/-! X3.isDigit(I)Z -/
theorem dX3_isDigit_0 : decode cX3_isDigit 0 = .ok (.iload_n 0, 1) := by decide +kernel
theorem dX3_isDigit_1 : decode cX3_isDigit 1 = .ok (.bipush 48, 2) := by decide +kernel
theorem dX3_isDigit_3 : decode cX3_isDigit 3 = .ok (.if_icmp .lt 13, 3) := by decide +kernel
theorem dX3_isDigit_6 : decode cX3_isDigit 6 = .ok (.iload_n 0, 1) := by decide +kernel
theorem dX3_isDigit_7 : decode cX3_isDigit 7 = .ok (.bipush 57, 2) := by decide +kernel
theorem dX3_isDigit_9 : decode cX3_isDigit 9 = .ok (.if_icmp .gt 7, 3) := by decide +kernel
theorem dX3_isDigit_12 : decode cX3_isDigit 12 = .ok (.iconst 1, 1) := by decide +kernel
theorem dX3_isDigit_13 : decode cX3_isDigit 13 = .ok (.goto 4, 3) := by decide +kernel
theorem dX3_isDigit_16 : decode cX3_isDigit 16 = .ok (.iconst 0, 1) := by decide +kernel
theorem dX3_isDigit_17 : decode cX3_isDigit 17 = .ok (.ireturn, 1) := by decide +kernel
def D_X3_isDigit : Md := (yX3_isDigit, cX3_isDigit, 1, (some .boolean), wsX3_isDigit, RX3, { frames := 0, cells := 0, slots := 0, locals := 0 })
theorem nm_X3_isDigit : nmD D_X3_isDigit 1 := ⟨rfl, by decide +kernel, by decide +kernel, by decide +kernel⟩
def wp_X3_isDigit_J16 (Q : Int32 → Prop) : Prop :=
  zb (0 : Int32) ∧ Q (0 : Int32)
def wp_X3_isDigit (x0 : Int32) (Q : Int32 → Prop) : Prop :=
  ((x0 < (48 : Int32) → wp_X3_isDigit_J16 Q) ∧ (¬ x0 < (48 : Int32) → (((57 : Int32) < x0 → wp_X3_isDigit_J16 Q) ∧ (¬ (57 : Int32) < x0 → zb (1 : Int32) ∧ Q (1 : Int32)))))
theorem ok_X3_isDigit_J16 {G : Gt} {M : Mx} {Qf : State → Prop} {w : Wd} {Q : Int32 → Prop} (hC : cx G D_X3_isDigit M) (he : en G M (qip w Q) Qf) (h : wp_X3_isDigit_J16 Q) : jq G D_X3_isDigit M Qf 16 [] [] w := by
  unfold wp_X3_isDigit_J16 at h
  refine jq_iconst (v := (0 : Int32)) dX3_isDigit_16 hC (by decide) ?_
  obtain ⟨bz, h⟩ := h
  exact jq_zret dX3_isDigit_17 hC he rfl bz ⟨_, rfl, rfl, h⟩
theorem ok_X3_isDigit {G : Gt} {M : Mx} {Qf : State → Prop} {x0 : Int32} {w : Wd} {Q : Int32 → Prop} (hC : cx G D_X3_isDigit M) (he : en G M (qip w Q) Qf) (h : wp_X3_isDigit x0 Q) : jq G D_X3_isDigit M Qf 0 [(0, .int x0)] [] w := by
  unfold wp_X3_isDigit at h
  refine jq_iload_n (k0 := 0) dX3_isDigit_0 hC rfl rfl ?_
  refine jq_bipush (v := (48 : Int32)) dX3_isDigit_1 hC (by decide) ?_
  refine jq_icmp_lt (tgt := 16) dX3_isDigit_3 hC (by decide) (fun c3 => ?_) (fun c3 => ?_)
  · have h := h.1 c3
    refine jq_less (L' := []) [] rfl ?_
    exact ok_X3_isDigit_J16 hC he h
  · have h := h.2 c3
    refine jq_iload_n (k0 := 0) dX3_isDigit_6 hC rfl rfl ?_
    refine jq_bipush (v := (57 : Int32)) dX3_isDigit_7 hC (by decide) ?_
    refine jq_icmp_gt (tgt := 16) dX3_isDigit_9 hC (by decide) (fun c9 => ?_) (fun c9 => ?_)
    · have h := h.1 c9
      refine jq_less (L' := []) [] rfl ?_
      exact ok_X3_isDigit_J16 hC he h
    · have h := h.2 c9
      refine jq_iconst (v := (1 : Int32)) dX3_isDigit_12 hC (by decide) ?_
      refine jq_goto (tgt := 17) dX3_isDigit_13 hC (by decide) ?_
      obtain ⟨bz, h⟩ := h
      exact jq_zret dX3_isDigit_17 hC he rfl bz ⟨_, rfl, rfl, h⟩
theorem mt_X3_isDigit {G : Gt} {x0 : Int32} {w : Wd} {Q : Int32 → Prop} (h : wp_X3_isDigit x0 Q) : Mt G D_X3_isDigit [.int x0] w (qip w Q) := Mt_of (by decide +kernel) rfl rfl (Nat.le_of_ble_eq_true rfl) (fun M Qf hC he => ok_X3_isDigit hC he h)
/-! X3.takeFrom(I)Z -/
theorem dX3_takeFrom_0 : decode cX3_takeFrom 0 = .ok (.aload_n 0, 1) := by decide +kernel
theorem dX3_takeFrom_1 : decode cX3_takeFrom 1 = .ok (.iload_n 1, 1) := by decide +kernel
theorem dX3_takeFrom_2 : decode cX3_takeFrom 2 = .ok (.bipush 48, 2) := by decide +kernel
theorem dX3_takeFrom_4 : decode cX3_takeFrom 4 = .ok (.isub, 1) := by decide +kernel
theorem dX3_takeFrom_5 : decode cX3_takeFrom 5 = .ok (.putfield 50, 3) := by decide +kernel
theorem dX3_takeFrom_8 : decode cX3_takeFrom 8 = .ok (.iload_n 1, 1) := by decide +kernel
theorem dX3_takeFrom_9 : decode cX3_takeFrom 9 = .ok (.invokestatic 53, 3) := by decide +kernel
theorem dX3_takeFrom_12 : decode cX3_takeFrom 12 = .ok (.ifCond .eq 15, 3) := by decide +kernel
theorem dX3_takeFrom_15 : decode cX3_takeFrom 15 = .ok (.aload_n 0, 1) := by decide +kernel
theorem dX3_takeFrom_16 : decode cX3_takeFrom 16 = .ok (.iconst 3, 1) := by decide +kernel
theorem dX3_takeFrom_17 : decode cX3_takeFrom 17 = .ok (.invokevirtual 22, 3) := by decide +kernel
theorem dX3_takeFrom_20 : decode cX3_takeFrom 20 = .ok (.ifCond .eq 7, 3) := by decide +kernel
theorem dX3_takeFrom_23 : decode cX3_takeFrom 23 = .ok (.iconst 1, 1) := by decide +kernel
theorem dX3_takeFrom_24 : decode cX3_takeFrom 24 = .ok (.goto 4, 3) := by decide +kernel
theorem dX3_takeFrom_27 : decode cX3_takeFrom 27 = .ok (.iconst 0, 1) := by decide +kernel
theorem dX3_takeFrom_28 : decode cX3_takeFrom 28 = .ok (.ireturn, 1) := by decide +kernel
set_option maxRecDepth 20000 in
theorem ggX3_takeFrom_X3_comeTo : GoodIn wsX3_takeFrom wsX3_comeTo := goodIn_r _ [9, 10, 11, 12, 13, 14, 15, 16] (by decide +kernel) (by decide +kernel)
set_option maxRecDepth 20000 in
theorem gX3_takeFrom_X3_comeTo : GoodIn wsX3_takeFrom (wsV RX3 22 RX3 yX3_comeTo wsX3_comeTo) := goodIn_app (goodIn_of _ (by decide +kernel)) ggX3_takeFrom_X3_comeTo
set_option maxRecDepth 20000 in
theorem ggX3_takeFrom_X3_isDigit : GoodIn wsX3_takeFrom wsX3_isDigit := goodIn_r _ [5] (by decide +kernel) (by decide +kernel)
set_option maxRecDepth 20000 in
theorem gX3_takeFrom_X3_isDigit : GoodIn wsX3_takeFrom (va_wsS RX3 53 yX3_isDigit wsX3_isDigit) := goodIn_app (goodIn_of _ (by decide +kernel)) ggX3_takeFrom_X3_isDigit
def D_X3_takeFrom : Md := (yX3_takeFrom, cX3_takeFrom, 2, (some .boolean), wsX3_takeFrom, RX3, { frames := 1, cells := 0, slots := 0, locals := 21 })
theorem nm_X3_takeFrom : nmD D_X3_takeFrom 1 := ⟨rfl, by decide +kernel, by decide +kernel, by decide +kernel⟩
theorem hi_X3_takeFrom_X3 : ∀ w ∈ u_ws RX3 TX3 6, w ∈ wsX3_takeFrom := by decide +kernel
theorem hl_X3_takeFrom_50 : Cond.fieldLink RX3 50 "LevelLoops$Reader" "from" "I" ∈ wsX3_takeFrom := by decide +kernel
def wp_X3_takeFrom_J27 (w : Wd) (Q : Int32 → Wd → Prop) : Prop :=
  zb (0 : Int32) ∧ Q (0 : Int32) w
def wp_X3_takeFrom (x1 : Int32) (w : Wd) (Q : Int32 → Wd → Prop) : Prop :=
  (∀ w5 : Wd, w5 = (sI w 0 31 1 (x1 - (48 : Int32))) → wp_X3_isDigit x1 (fun r9 => ((r9 = 0 → wp_X3_takeFrom_J27 w5 Q) ∧ (¬ r9 = 0 → wp_X3_comeTo (3 : Int32) w5 (fun r17 w17 => ((r17 = 0 → wp_X3_takeFrom_J27 w17 Q) ∧ (¬ r17 = 0 → zb (1 : Int32) ∧ Q (1 : Int32) w17)))))))
theorem ok_X3_takeFrom_J27 {G : Gt} {M : Mx} {Qf : State → Prop} {w : Wd} {Q : Int32 → Wd → Prop} (hC : cx G D_X3_takeFrom M) (he : en G M (qi Q) Qf) (h : wp_X3_takeFrom_J27 w Q) : jq G D_X3_takeFrom M Qf 27 [] [] w := by
  unfold wp_X3_takeFrom_J27 at h
  refine jq_iconst (v := (0 : Int32)) dX3_takeFrom_27 hC (by decide) ?_
  obtain ⟨bz, h⟩ := h
  exact jq_zret dX3_takeFrom_28 hC he rfl bz ⟨_, rfl, h⟩
theorem ok_X3_takeFrom {G : Gt} {M : Mx} {Qf : State → Prop} {x1 : Int32} {w : Wd} {Q : Int32 → Wd → Prop} (hC : cx G D_X3_takeFrom M) (he : en G M (qi Q) Qf) (h : wp_X3_takeFrom x1 w Q) : jq G D_X3_takeFrom M Qf 0 [(0, .ref (aD G 0 31)), (1, .int x1)] [] w := by
  unfold wp_X3_takeFrom at h
  refine jq_aload_n (k0 := 0) dX3_takeFrom_0 hC rfl rfl ?_
  refine jq_iload_n (k0 := 1) dX3_takeFrom_1 hC rfl rfl ?_
  refine jq_bipush (v := (48 : Int32)) dX3_takeFrom_2 hC (by decide) ?_
  refine jq_isub dX3_takeFrom_4 hC ?_
  refine jq_put (k0 := 1) (n := 0) (o := 31) (ty := .int) (w' := (sI w 0 31 1 (x1 - (48 : Int32)))) dX3_takeFrom_5 hC (cl_0 (by decide)) rfl rfl hi_X3_takeFrom_X3 tyX3 tyX3_ok nmX3 (by decide) hl_X3_takeFrom_50 rfl rfl (by decide +kernel) rfl rfl (Nat.le_of_ble_eq_true rfl) (e_31_1 G _ _ _) (fun c _ hne => ent_sA c hne) ?_
  refine jq_w (fun w5 e5 => ?_)
  have h := h w5 e5
  refine jq_iload_n (k0 := 1) dX3_takeFrom_8 hC rfl rfl ?_
  refine jq_callS (As := [.int x1]) (rest := []) (D' := D_X3_isDigit) dX3_takeFrom_9 hC (mt_X3_isDigit h) gX3_takeFrom_X3_isDigit rfl ⟨rfl, rfl, Nat.le_of_ble_eq_true rfl, Nat.le_of_ble_eq_true rfl⟩ nm_X3_isDigit rfl (Nat.le_of_ble_eq_true rfl) (kIp fun r9 h => ?_)
  refine jq_if_eq (tgt := 27) dX3_takeFrom_12 hC (by decide) (fun c12 => ?_) (fun c12 => ?_)
  · have h := h.1 c12
    refine jq_less (L' := []) [] rfl ?_
    exact ok_X3_takeFrom_J27 hC he h
  · have h := h.2 c12
    refine jq_aload_n (k0 := 0) dX3_takeFrom_15 hC rfl rfl ?_
    refine jq_iconst (v := (3 : Int32)) dX3_takeFrom_16 hC (by decide) ?_
    refine jq_callV (As := [.int (3 : Int32)]) (rest := []) (n := 0) (o := 31) (D' := D_X3_comeTo) dX3_takeFrom_17 hC (cl_0 (by decide)) rfl rfl rfl (mt_X3_comeTo h) gX3_takeFrom_X3_comeTo rfl ⟨rfl, rfl, Nat.le_of_ble_eq_true rfl, Nat.le_of_ble_eq_true rfl⟩ nm_X3_comeTo rfl (Nat.le_of_ble_eq_true rfl) (kI fun r17 w17 h => ?_)
    refine jq_if_eq (tgt := 27) dX3_takeFrom_20 hC (by decide) (fun c20 => ?_) (fun c20 => ?_)
    · have h := h.1 c20
      refine jq_less (L' := []) [] rfl ?_
      exact ok_X3_takeFrom_J27 hC he h
    · have h := h.2 c20
      refine jq_iconst (v := (1 : Int32)) dX3_takeFrom_23 hC (by decide) ?_
      refine jq_goto (tgt := 28) dX3_takeFrom_24 hC (by decide) ?_
      obtain ⟨bz, h⟩ := h
      exact jq_zret dX3_takeFrom_28 hC he rfl bz ⟨_, rfl, h⟩
theorem mt_X3_takeFrom {G : Gt} {x1 : Int32} {w : Wd} {Q : Int32 → Wd → Prop} (h : wp_X3_takeFrom x1 w Q) : Mt G D_X3_takeFrom [.ref (aD G 0 31), .int x1] w (qi Q) := Mt_of (by decide +kernel) rfl rfl (Nat.le_of_ble_eq_true rfl) (fun M Qf hC he => ok_X3_takeFrom hC he h)
/-! X3.begin(III)Z -/
theorem dX3_begin_0 : decode cX3_begin 0 = .ok (.iload_n 1, 1) := by decide +kernel
theorem dX3_begin_1 : decode cX3_begin 1 = .ok (.invokestatic 53, 3) := by decide +kernel
theorem dX3_begin_4 : decode cX3_begin 4 = .ok (.ifCond .eq 11, 3) := by decide +kernel
theorem dX3_begin_7 : decode cX3_begin 7 = .ok (.iload_n 1, 1) := by decide +kernel
theorem dX3_begin_8 : decode cX3_begin 8 = .ok (.bipush 48, 2) := by decide +kernel
theorem dX3_begin_10 : decode cX3_begin 10 = .ok (.isub, 1) := by decide +kernel
theorem dX3_begin_11 : decode cX3_begin 11 = .ok (.iload_n 2, 1) := by decide +kernel
theorem dX3_begin_12 : decode cX3_begin 12 = .ok (.if_icmp .ge 5, 3) := by decide +kernel
theorem dX3_begin_15 : decode cX3_begin 15 = .ok (.iconst 0, 1) := by decide +kernel
theorem dX3_begin_16 : decode cX3_begin 16 = .ok (.ireturn, 1) := by decide +kernel
theorem dX3_begin_17 : decode cX3_begin 17 = .ok (.aload_n 0, 1) := by decide +kernel
theorem dX3_begin_18 : decode cX3_begin 18 = .ok (.iload_n 1, 1) := by decide +kernel
theorem dX3_begin_19 : decode cX3_begin 19 = .ok (.bipush 48, 2) := by decide +kernel
theorem dX3_begin_21 : decode cX3_begin 21 = .ok (.isub, 1) := by decide +kernel
theorem dX3_begin_22 : decode cX3_begin 22 = .ok (.putfield 19, 3) := by decide +kernel
theorem dX3_begin_25 : decode cX3_begin 25 = .ok (.aload_n 0, 1) := by decide +kernel
theorem dX3_begin_26 : decode cX3_begin 26 = .ok (.iload_n 3, 1) := by decide +kernel
theorem dX3_begin_27 : decode cX3_begin 27 = .ok (.invokevirtual 22, 3) := by decide +kernel
theorem dX3_begin_30 : decode cX3_begin 30 = .ok (.ireturn, 1) := by decide +kernel
set_option maxRecDepth 20000 in
theorem ggX3_begin_X3_comeTo : GoodIn wsX3_begin wsX3_comeTo := goodIn_r _ [9, 10, 11, 12, 13, 14, 15, 16] (by decide +kernel) (by decide +kernel)
set_option maxRecDepth 20000 in
theorem gX3_begin_X3_comeTo : GoodIn wsX3_begin (wsV RX3 22 RX3 yX3_comeTo wsX3_comeTo) := goodIn_app (goodIn_of _ (by decide +kernel)) ggX3_begin_X3_comeTo
set_option maxRecDepth 20000 in
theorem ggX3_begin_X3_isDigit : GoodIn wsX3_begin wsX3_isDigit := goodIn_r _ [5] (by decide +kernel) (by decide +kernel)
set_option maxRecDepth 20000 in
theorem gX3_begin_X3_isDigit : GoodIn wsX3_begin (va_wsS RX3 53 yX3_isDigit wsX3_isDigit) := goodIn_app (goodIn_of _ (by decide +kernel)) ggX3_begin_X3_isDigit
def D_X3_begin : Md := (yX3_begin, cX3_begin, 4, (some .boolean), wsX3_begin, RX3, { frames := 1, cells := 0, slots := 0, locals := 21 })
theorem nm_X3_begin : nmD D_X3_begin 3 := ⟨rfl, by decide +kernel, by decide +kernel, by decide +kernel⟩
theorem hi_X3_begin_X3 : ∀ w ∈ u_ws RX3 TX3 6, w ∈ wsX3_begin := by decide +kernel
theorem hl_X3_begin_19 : Cond.fieldLink RX3 19 "LevelLoops$Reader" "number" "I" ∈ wsX3_begin := by decide +kernel
def wp_X3_begin (x1 : Int32) (x2 : Int32) (x3 : Int32) (w : Wd) (Q : Int32 → Wd → Prop) : Prop :=
  wp_X3_isDigit x1 (fun r1 => ((r1 = 0 → zb (0 : Int32) ∧ Q (0 : Int32) w) ∧ (¬ r1 = 0 → ((x2 ≤ (x1 - (48 : Int32)) → (∀ w22 : Wd, w22 = (sI w 0 31 0 (x1 - (48 : Int32))) → wp_X3_comeTo x3 w22 (fun r27 w27 => zb r27 ∧ Q r27 w27))) ∧ (¬ x2 ≤ (x1 - (48 : Int32)) → zb (0 : Int32) ∧ Q (0 : Int32) w)))))
theorem ok_X3_begin {G : Gt} {M : Mx} {Qf : State → Prop} {x1 : Int32} {x2 : Int32} {x3 : Int32} {w : Wd} {Q : Int32 → Wd → Prop} (hC : cx G D_X3_begin M) (he : en G M (qi Q) Qf) (h : wp_X3_begin x1 x2 x3 w Q) : jq G D_X3_begin M Qf 0 [(0, .ref (aD G 0 31)), (1, .int x1), (2, .int x2), (3, .int x3)] [] w := by
  unfold wp_X3_begin at h
  refine jq_iload_n (k0 := 1) dX3_begin_0 hC rfl rfl ?_
  refine jq_callS (As := [.int x1]) (rest := []) (D' := D_X3_isDigit) dX3_begin_1 hC (mt_X3_isDigit h) gX3_begin_X3_isDigit rfl ⟨rfl, rfl, Nat.le_of_ble_eq_true rfl, Nat.le_of_ble_eq_true rfl⟩ nm_X3_isDigit rfl (Nat.le_of_ble_eq_true rfl) (kIp fun r1 h => ?_)
  refine jq_if_eq (tgt := 15) dX3_begin_4 hC (by decide) (fun c4 => ?_) (fun c4 => ?_)
  · have h := h.1 c4
    refine jq_iconst (v := (0 : Int32)) dX3_begin_15 hC (by decide) ?_
    obtain ⟨bz, h⟩ := h
    exact jq_zret dX3_begin_16 hC he rfl bz ⟨_, rfl, h⟩
  · have h := h.2 c4
    refine jq_iload_n (k0 := 1) dX3_begin_7 hC rfl rfl ?_
    refine jq_bipush (v := (48 : Int32)) dX3_begin_8 hC (by decide) ?_
    refine jq_isub dX3_begin_10 hC ?_
    refine jq_iload_n (k0 := 2) dX3_begin_11 hC rfl rfl ?_
    refine jq_icmp_ge (tgt := 17) dX3_begin_12 hC (by decide) (fun c12 => ?_) (fun c12 => ?_)
    · have h := h.1 c12
      refine jq_aload_n (k0 := 0) dX3_begin_17 hC rfl rfl ?_
      refine jq_iload_n (k0 := 1) dX3_begin_18 hC rfl rfl ?_
      refine jq_bipush (v := (48 : Int32)) dX3_begin_19 hC (by decide) ?_
      refine jq_isub dX3_begin_21 hC ?_
      refine jq_put (k0 := 0) (n := 0) (o := 31) (ty := .int) (w' := (sI w 0 31 0 (x1 - (48 : Int32)))) dX3_begin_22 hC (cl_0 (by decide)) rfl rfl hi_X3_begin_X3 tyX3 tyX3_ok nmX3 (by decide) hl_X3_begin_19 rfl rfl (by decide +kernel) rfl rfl (Nat.le_of_ble_eq_true rfl) (e_31_0 G _ _ _) (fun c _ hne => ent_sA c hne) ?_
      refine jq_w (fun w22 e22 => ?_)
      have h := h w22 e22
      refine jq_aload_n (k0 := 0) dX3_begin_25 hC rfl rfl ?_
      refine jq_iload_n (k0 := 3) dX3_begin_26 hC rfl rfl ?_
      refine jq_callV (As := [.int x3]) (rest := []) (n := 0) (o := 31) (D' := D_X3_comeTo) dX3_begin_27 hC (cl_0 (by decide)) rfl rfl rfl (mt_X3_comeTo h) gX3_begin_X3_comeTo rfl ⟨rfl, rfl, Nat.le_of_ble_eq_true rfl, Nat.le_of_ble_eq_true rfl⟩ nm_X3_comeTo rfl (Nat.le_of_ble_eq_true rfl) (kI fun r27 w27 h => ?_)
      obtain ⟨bz, h⟩ := h
      exact jq_zret dX3_begin_30 hC he rfl bz ⟨_, rfl, h⟩
    · have h := h.2 c12
      refine jq_iconst (v := (0 : Int32)) dX3_begin_15 hC (by decide) ?_
      obtain ⟨bz, h⟩ := h
      exact jq_zret dX3_begin_16 hC he rfl bz ⟨_, rfl, h⟩
theorem mt_X3_begin {G : Gt} {x1 : Int32} {x2 : Int32} {x3 : Int32} {w : Wd} {Q : Int32 → Wd → Prop} (h : wp_X3_begin x1 x2 x3 w Q) : Mt G D_X3_begin [.ref (aD G 0 31), .int x1, .int x2, .int x3] w (qi Q) := Mt_of (by decide +kernel) rfl rfl (Nat.le_of_ble_eq_true rfl) (fun M Qf hC he => ok_X3_begin hC he h)
/-! X3.goOn(II)Z -/
theorem dX3_goOn_0 : decode cX3_goOn 0 = .ok (.iload_n 1, 1) := by decide +kernel
theorem dX3_goOn_1 : decode cX3_goOn 1 = .ok (.invokestatic 53, 3) := by decide +kernel
theorem dX3_goOn_4 : decode cX3_goOn 4 = .ok (.ifCond .eq 26, 3) := by decide +kernel
theorem dX3_goOn_7 : decode cX3_goOn 7 = .ok (.aload_n 0, 1) := by decide +kernel
theorem dX3_goOn_8 : decode cX3_goOn 8 = .ok (.getfield 19, 3) := by decide +kernel
theorem dX3_goOn_11 : decode cX3_goOn 11 = .ok (.ifCond .eq 19, 3) := by decide +kernel
theorem dX3_goOn_14 : decode cX3_goOn 14 = .ok (.bipush 10, 2) := by decide +kernel
theorem dX3_goOn_16 : decode cX3_goOn 16 = .ok (.aload_n 0, 1) := by decide +kernel
theorem dX3_goOn_17 : decode cX3_goOn 17 = .ok (.getfield 19, 3) := by decide +kernel
theorem dX3_goOn_20 : decode cX3_goOn 20 = .ok (.imul, 1) := by decide +kernel
theorem dX3_goOn_21 : decode cX3_goOn 21 = .ok (.iload_n 1, 1) := by decide +kernel
theorem dX3_goOn_22 : decode cX3_goOn 22 = .ok (.iadd, 1) := by decide +kernel
theorem dX3_goOn_23 : decode cX3_goOn 23 = .ok (.bipush 48, 2) := by decide +kernel
theorem dX3_goOn_25 : decode cX3_goOn 25 = .ok (.isub, 1) := by decide +kernel
theorem dX3_goOn_26 : decode cX3_goOn 26 = .ok (.iload_n 2, 1) := by decide +kernel
theorem dX3_goOn_27 : decode cX3_goOn 27 = .ok (.if_icmp .le 5, 3) := by decide +kernel
theorem dX3_goOn_30 : decode cX3_goOn 30 = .ok (.iconst 0, 1) := by decide +kernel
theorem dX3_goOn_31 : decode cX3_goOn 31 = .ok (.ireturn, 1) := by decide +kernel
theorem dX3_goOn_32 : decode cX3_goOn 32 = .ok (.aload_n 0, 1) := by decide +kernel
theorem dX3_goOn_33 : decode cX3_goOn 33 = .ok (.bipush 10, 2) := by decide +kernel
theorem dX3_goOn_35 : decode cX3_goOn 35 = .ok (.aload_n 0, 1) := by decide +kernel
theorem dX3_goOn_36 : decode cX3_goOn 36 = .ok (.getfield 19, 3) := by decide +kernel
theorem dX3_goOn_39 : decode cX3_goOn 39 = .ok (.imul, 1) := by decide +kernel
theorem dX3_goOn_40 : decode cX3_goOn 40 = .ok (.iload_n 1, 1) := by decide +kernel
theorem dX3_goOn_41 : decode cX3_goOn 41 = .ok (.iadd, 1) := by decide +kernel
theorem dX3_goOn_42 : decode cX3_goOn 42 = .ok (.bipush 48, 2) := by decide +kernel
theorem dX3_goOn_44 : decode cX3_goOn 44 = .ok (.isub, 1) := by decide +kernel
theorem dX3_goOn_45 : decode cX3_goOn 45 = .ok (.putfield 19, 3) := by decide +kernel
theorem dX3_goOn_48 : decode cX3_goOn 48 = .ok (.iconst 1, 1) := by decide +kernel
theorem dX3_goOn_49 : decode cX3_goOn 49 = .ok (.ireturn, 1) := by decide +kernel
set_option maxRecDepth 20000 in
theorem ggX3_goOn_X3_isDigit : GoodIn wsX3_goOn wsX3_isDigit := goodIn_r _ [5] (by decide +kernel) (by decide +kernel)
set_option maxRecDepth 20000 in
theorem gX3_goOn_X3_isDigit : GoodIn wsX3_goOn (va_wsS RX3 53 yX3_isDigit wsX3_isDigit) := goodIn_app (goodIn_of _ (by decide +kernel)) ggX3_goOn_X3_isDigit
def D_X3_goOn : Md := (yX3_goOn, cX3_goOn, 3, (some .boolean), wsX3_goOn, RX3, { frames := 1, cells := 0, slots := 0, locals := 20 })
theorem nm_X3_goOn : nmD D_X3_goOn 2 := ⟨rfl, by decide +kernel, by decide +kernel, by decide +kernel⟩
theorem hi_X3_goOn_X3 : ∀ w ∈ u_ws RX3 TX3 6, w ∈ wsX3_goOn := by decide +kernel
theorem hl_X3_goOn_19 : Cond.fieldLink RX3 19 "LevelLoops$Reader" "number" "I" ∈ wsX3_goOn := by decide +kernel
def wp_X3_goOn (x1 : Int32) (x2 : Int32) (w : Wd) (Q : Int32 → Wd → Prop) : Prop :=
  wp_X3_isDigit x1 (fun r1 => ((r1 = 0 → zb (0 : Int32) ∧ Q (0 : Int32) w) ∧ (¬ r1 = 0 → (((wi w 0 31 0) = 0 → zb (0 : Int32) ∧ Q (0 : Int32) w) ∧ (¬ (wi w 0 31 0) = 0 → ((((((10 : Int32) * (wi w 0 31 0)) + x1) - (48 : Int32)) ≤ x2 → (∀ w45 : Wd, w45 = (sI w 0 31 0 ((((10 : Int32) * (wi w 0 31 0)) + x1) - (48 : Int32))) → zb (1 : Int32) ∧ Q (1 : Int32) w45)) ∧ (¬ ((((10 : Int32) * (wi w 0 31 0)) + x1) - (48 : Int32)) ≤ x2 → zb (0 : Int32) ∧ Q (0 : Int32) w)))))))
theorem ok_X3_goOn {G : Gt} {M : Mx} {Qf : State → Prop} {x1 : Int32} {x2 : Int32} {w : Wd} {Q : Int32 → Wd → Prop} (hC : cx G D_X3_goOn M) (he : en G M (qi Q) Qf) (h : wp_X3_goOn x1 x2 w Q) : jq G D_X3_goOn M Qf 0 [(0, .ref (aD G 0 31)), (1, .int x1), (2, .int x2)] [] w := by
  unfold wp_X3_goOn at h
  refine jq_iload_n (k0 := 1) dX3_goOn_0 hC rfl rfl ?_
  refine jq_callS (As := [.int x1]) (rest := []) (D' := D_X3_isDigit) dX3_goOn_1 hC (mt_X3_isDigit h) gX3_goOn_X3_isDigit rfl ⟨rfl, rfl, Nat.le_of_ble_eq_true rfl, Nat.le_of_ble_eq_true rfl⟩ nm_X3_isDigit rfl (Nat.le_of_ble_eq_true rfl) (kIp fun r1 h => ?_)
  refine jq_if_eq (tgt := 30) dX3_goOn_4 hC (by decide) (fun c4 => ?_) (fun c4 => ?_)
  · have h := h.1 c4
    refine jq_iconst (v := (0 : Int32)) dX3_goOn_30 hC (by decide) ?_
    obtain ⟨bz, h⟩ := h
    exact jq_zret dX3_goOn_31 hC he rfl bz ⟨_, rfl, h⟩
  · have h := h.2 c4
    refine jq_aload_n (k0 := 0) dX3_goOn_7 hC rfl rfl ?_
    refine jq_get (k0 := 0) (n := 0) (o := 31) dX3_goOn_8 hC (cl_0 (by decide)) rfl rfl hi_X3_goOn_X3 (by decide) hl_X3_goOn_19 rfl rfl ?_
    refine jq_if_eq (tgt := 30) dX3_goOn_11 hC (by decide) (fun c11 => ?_) (fun c11 => ?_)
    · have h := h.1 c11
      refine jq_iconst (v := (0 : Int32)) dX3_goOn_30 hC (by decide) ?_
      obtain ⟨bz, h⟩ := h
      exact jq_zret dX3_goOn_31 hC he rfl bz ⟨_, rfl, h⟩
    · have h := h.2 c11
      refine jq_bipush (v := (10 : Int32)) dX3_goOn_14 hC (by decide) ?_
      refine jq_aload_n (k0 := 0) dX3_goOn_16 hC rfl rfl ?_
      refine jq_get (k0 := 0) (n := 0) (o := 31) dX3_goOn_17 hC (cl_0 (by decide)) rfl rfl hi_X3_goOn_X3 (by decide) hl_X3_goOn_19 rfl rfl ?_
      refine jq_imul dX3_goOn_20 hC ?_
      refine jq_iload_n (k0 := 1) dX3_goOn_21 hC rfl rfl ?_
      refine jq_iadd dX3_goOn_22 hC ?_
      refine jq_bipush (v := (48 : Int32)) dX3_goOn_23 hC (by decide) ?_
      refine jq_isub dX3_goOn_25 hC ?_
      refine jq_iload_n (k0 := 2) dX3_goOn_26 hC rfl rfl ?_
      refine jq_icmp_le (tgt := 32) dX3_goOn_27 hC (by decide) (fun c27 => ?_) (fun c27 => ?_)
      · have h := h.1 c27
        refine jq_aload_n (k0 := 0) dX3_goOn_32 hC rfl rfl ?_
        refine jq_bipush (v := (10 : Int32)) dX3_goOn_33 hC (by decide) ?_
        refine jq_aload_n (k0 := 0) dX3_goOn_35 hC rfl rfl ?_
        refine jq_get (k0 := 0) (n := 0) (o := 31) dX3_goOn_36 hC (cl_0 (by decide)) rfl rfl hi_X3_goOn_X3 (by decide) hl_X3_goOn_19 rfl rfl ?_
        refine jq_imul dX3_goOn_39 hC ?_
        refine jq_iload_n (k0 := 1) dX3_goOn_40 hC rfl rfl ?_
        refine jq_iadd dX3_goOn_41 hC ?_
        refine jq_bipush (v := (48 : Int32)) dX3_goOn_42 hC (by decide) ?_
        refine jq_isub dX3_goOn_44 hC ?_
        refine jq_put (k0 := 0) (n := 0) (o := 31) (ty := .int) (w' := (sI w 0 31 0 ((((10 : Int32) * (wi w 0 31 0)) + x1) - (48 : Int32)))) dX3_goOn_45 hC (cl_0 (by decide)) rfl rfl hi_X3_goOn_X3 tyX3 tyX3_ok nmX3 (by decide) hl_X3_goOn_19 rfl rfl (by decide +kernel) rfl rfl (Nat.le_of_ble_eq_true rfl) (e_31_0 G _ _ _) (fun c _ hne => ent_sA c hne) ?_
        refine jq_w (fun w45 e45 => ?_)
        have h := h w45 e45
        refine jq_iconst (v := (1 : Int32)) dX3_goOn_48 hC (by decide) ?_
        obtain ⟨bz, h⟩ := h
        exact jq_zret dX3_goOn_49 hC he rfl bz ⟨_, rfl, h⟩
      · have h := h.2 c27
        refine jq_iconst (v := (0 : Int32)) dX3_goOn_30 hC (by decide) ?_
        obtain ⟨bz, h⟩ := h
        exact jq_zret dX3_goOn_31 hC he rfl bz ⟨_, rfl, h⟩
theorem mt_X3_goOn {G : Gt} {x1 : Int32} {x2 : Int32} {w : Wd} {Q : Int32 → Wd → Prop} (h : wp_X3_goOn x1 x2 w Q) : Mt G D_X3_goOn [.ref (aD G 0 31), .int x1, .int x2] w (qi Q) := Mt_of (by decide +kernel) rfl rfl (Nat.le_of_ble_eq_true rfl) (fun M Qf hC he => ok_X3_goOn hC he h)
/-! X3.takeTo(I)Z -/
theorem dX3_takeTo_0 : decode cX3_takeTo 0 = .ok (.aload_n 0, 1) := by decide +kernel
theorem dX3_takeTo_1 : decode cX3_takeTo 1 = .ok (.iload_n 1, 1) := by decide +kernel
theorem dX3_takeTo_2 : decode cX3_takeTo 2 = .ok (.bipush 48, 2) := by decide +kernel
theorem dX3_takeTo_4 : decode cX3_takeTo 4 = .ok (.isub, 1) := by decide +kernel
theorem dX3_takeTo_5 : decode cX3_takeTo 5 = .ok (.putfield 56, 3) := by decide +kernel
theorem dX3_takeTo_8 : decode cX3_takeTo 8 = .ok (.iload_n 1, 1) := by decide +kernel
theorem dX3_takeTo_9 : decode cX3_takeTo 9 = .ok (.invokestatic 53, 3) := by decide +kernel
theorem dX3_takeTo_12 : decode cX3_takeTo 12 = .ok (.ifCond .eq 15, 3) := by decide +kernel
theorem dX3_takeTo_15 : decode cX3_takeTo 15 = .ok (.aload_n 0, 1) := by decide +kernel
theorem dX3_takeTo_16 : decode cX3_takeTo 16 = .ok (.iconst 5, 1) := by decide +kernel
theorem dX3_takeTo_17 : decode cX3_takeTo 17 = .ok (.invokevirtual 22, 3) := by decide +kernel
theorem dX3_takeTo_20 : decode cX3_takeTo 20 = .ok (.ifCond .eq 7, 3) := by decide +kernel
theorem dX3_takeTo_23 : decode cX3_takeTo 23 = .ok (.iconst 1, 1) := by decide +kernel
theorem dX3_takeTo_24 : decode cX3_takeTo 24 = .ok (.goto 4, 3) := by decide +kernel
theorem dX3_takeTo_27 : decode cX3_takeTo 27 = .ok (.iconst 0, 1) := by decide +kernel
theorem dX3_takeTo_28 : decode cX3_takeTo 28 = .ok (.ireturn, 1) := by decide +kernel
set_option maxRecDepth 20000 in
theorem ggX3_takeTo_X3_comeTo : GoodIn wsX3_takeTo wsX3_comeTo := goodIn_r _ [9, 10, 11, 12, 13, 14, 15, 16] (by decide +kernel) (by decide +kernel)
set_option maxRecDepth 20000 in
theorem gX3_takeTo_X3_comeTo : GoodIn wsX3_takeTo (wsV RX3 22 RX3 yX3_comeTo wsX3_comeTo) := goodIn_app (goodIn_of _ (by decide +kernel)) ggX3_takeTo_X3_comeTo
set_option maxRecDepth 20000 in
theorem ggX3_takeTo_X3_isDigit : GoodIn wsX3_takeTo wsX3_isDigit := goodIn_r _ [5] (by decide +kernel) (by decide +kernel)
set_option maxRecDepth 20000 in
theorem gX3_takeTo_X3_isDigit : GoodIn wsX3_takeTo (va_wsS RX3 53 yX3_isDigit wsX3_isDigit) := goodIn_app (goodIn_of _ (by decide +kernel)) ggX3_takeTo_X3_isDigit
def D_X3_takeTo : Md := (yX3_takeTo, cX3_takeTo, 2, (some .boolean), wsX3_takeTo, RX3, { frames := 1, cells := 0, slots := 0, locals := 21 })
theorem nm_X3_takeTo : nmD D_X3_takeTo 1 := ⟨rfl, by decide +kernel, by decide +kernel, by decide +kernel⟩
theorem hi_X3_takeTo_X3 : ∀ w ∈ u_ws RX3 TX3 6, w ∈ wsX3_takeTo := by decide +kernel
theorem hl_X3_takeTo_56 : Cond.fieldLink RX3 56 "LevelLoops$Reader" "to" "I" ∈ wsX3_takeTo := by decide +kernel
def wp_X3_takeTo_J27 (w : Wd) (Q : Int32 → Wd → Prop) : Prop :=
  zb (0 : Int32) ∧ Q (0 : Int32) w
def wp_X3_takeTo (x1 : Int32) (w : Wd) (Q : Int32 → Wd → Prop) : Prop :=
  (∀ w5 : Wd, w5 = (sI w 0 31 2 (x1 - (48 : Int32))) → wp_X3_isDigit x1 (fun r9 => ((r9 = 0 → wp_X3_takeTo_J27 w5 Q) ∧ (¬ r9 = 0 → wp_X3_comeTo (5 : Int32) w5 (fun r17 w17 => ((r17 = 0 → wp_X3_takeTo_J27 w17 Q) ∧ (¬ r17 = 0 → zb (1 : Int32) ∧ Q (1 : Int32) w17)))))))
theorem ok_X3_takeTo_J27 {G : Gt} {M : Mx} {Qf : State → Prop} {w : Wd} {Q : Int32 → Wd → Prop} (hC : cx G D_X3_takeTo M) (he : en G M (qi Q) Qf) (h : wp_X3_takeTo_J27 w Q) : jq G D_X3_takeTo M Qf 27 [] [] w := by
  unfold wp_X3_takeTo_J27 at h
  refine jq_iconst (v := (0 : Int32)) dX3_takeTo_27 hC (by decide) ?_
  obtain ⟨bz, h⟩ := h
  exact jq_zret dX3_takeTo_28 hC he rfl bz ⟨_, rfl, h⟩
theorem ok_X3_takeTo {G : Gt} {M : Mx} {Qf : State → Prop} {x1 : Int32} {w : Wd} {Q : Int32 → Wd → Prop} (hC : cx G D_X3_takeTo M) (he : en G M (qi Q) Qf) (h : wp_X3_takeTo x1 w Q) : jq G D_X3_takeTo M Qf 0 [(0, .ref (aD G 0 31)), (1, .int x1)] [] w := by
  unfold wp_X3_takeTo at h
  refine jq_aload_n (k0 := 0) dX3_takeTo_0 hC rfl rfl ?_
  refine jq_iload_n (k0 := 1) dX3_takeTo_1 hC rfl rfl ?_
  refine jq_bipush (v := (48 : Int32)) dX3_takeTo_2 hC (by decide) ?_
  refine jq_isub dX3_takeTo_4 hC ?_
  refine jq_put (k0 := 2) (n := 0) (o := 31) (ty := .int) (w' := (sI w 0 31 2 (x1 - (48 : Int32)))) dX3_takeTo_5 hC (cl_0 (by decide)) rfl rfl hi_X3_takeTo_X3 tyX3 tyX3_ok nmX3 (by decide) hl_X3_takeTo_56 rfl rfl (by decide +kernel) rfl rfl (Nat.le_of_ble_eq_true rfl) (e_31_2 G _ _ _) (fun c _ hne => ent_sA c hne) ?_
  refine jq_w (fun w5 e5 => ?_)
  have h := h w5 e5
  refine jq_iload_n (k0 := 1) dX3_takeTo_8 hC rfl rfl ?_
  refine jq_callS (As := [.int x1]) (rest := []) (D' := D_X3_isDigit) dX3_takeTo_9 hC (mt_X3_isDigit h) gX3_takeTo_X3_isDigit rfl ⟨rfl, rfl, Nat.le_of_ble_eq_true rfl, Nat.le_of_ble_eq_true rfl⟩ nm_X3_isDigit rfl (Nat.le_of_ble_eq_true rfl) (kIp fun r9 h => ?_)
  refine jq_if_eq (tgt := 27) dX3_takeTo_12 hC (by decide) (fun c12 => ?_) (fun c12 => ?_)
  · have h := h.1 c12
    refine jq_less (L' := []) [] rfl ?_
    exact ok_X3_takeTo_J27 hC he h
  · have h := h.2 c12
    refine jq_aload_n (k0 := 0) dX3_takeTo_15 hC rfl rfl ?_
    refine jq_iconst (v := (5 : Int32)) dX3_takeTo_16 hC (by decide) ?_
    refine jq_callV (As := [.int (5 : Int32)]) (rest := []) (n := 0) (o := 31) (D' := D_X3_comeTo) dX3_takeTo_17 hC (cl_0 (by decide)) rfl rfl rfl (mt_X3_comeTo h) gX3_takeTo_X3_comeTo rfl ⟨rfl, rfl, Nat.le_of_ble_eq_true rfl, Nat.le_of_ble_eq_true rfl⟩ nm_X3_comeTo rfl (Nat.le_of_ble_eq_true rfl) (kI fun r17 w17 h => ?_)
    refine jq_if_eq (tgt := 27) dX3_takeTo_20 hC (by decide) (fun c20 => ?_) (fun c20 => ?_)
    · have h := h.1 c20
      refine jq_less (L' := []) [] rfl ?_
      exact ok_X3_takeTo_J27 hC he h
    · have h := h.2 c20
      refine jq_iconst (v := (1 : Int32)) dX3_takeTo_23 hC (by decide) ?_
      refine jq_goto (tgt := 28) dX3_takeTo_24 hC (by decide) ?_
      obtain ⟨bz, h⟩ := h
      exact jq_zret dX3_takeTo_28 hC he rfl bz ⟨_, rfl, h⟩
theorem mt_X3_takeTo {G : Gt} {x1 : Int32} {w : Wd} {Q : Int32 → Wd → Prop} (h : wp_X3_takeTo x1 w Q) : Mt G D_X3_takeTo [.ref (aD G 0 31), .int x1] w (qi Q) := Mt_of (by decide +kernel) rfl rfl (Nat.le_of_ble_eq_true rfl) (fun M Qf hC he => ok_X3_takeTo hC he h)
/-! X3.takeColon()Z -/
theorem dX3_takeColon_0 : decode cX3_takeColon 0 = .ok (.aload_n 0, 1) := by decide +kernel
theorem dX3_takeColon_1 : decode cX3_takeColon 1 = .ok (.iconst 0, 1) := by decide +kernel
theorem dX3_takeColon_2 : decode cX3_takeColon 2 = .ok (.putfield 59, 3) := by decide +kernel
theorem dX3_takeColon_5 : decode cX3_takeColon 5 = .ok (.aload_n 0, 1) := by decide +kernel
theorem dX3_takeColon_6 : decode cX3_takeColon 6 = .ok (.bipush 6, 2) := by decide +kernel
theorem dX3_takeColon_8 : decode cX3_takeColon 8 = .ok (.invokevirtual 22, 3) := by decide +kernel
theorem dX3_takeColon_11 : decode cX3_takeColon 11 = .ok (.ireturn, 1) := by decide +kernel
set_option maxRecDepth 20000 in
theorem ggX3_takeColon_X3_comeTo : GoodIn wsX3_takeColon wsX3_comeTo := goodIn_r _ [6, 7, 8, 9, 10, 11, 12, 13] (by decide +kernel) (by decide +kernel)
set_option maxRecDepth 20000 in
theorem gX3_takeColon_X3_comeTo : GoodIn wsX3_takeColon (wsV RX3 22 RX3 yX3_comeTo wsX3_comeTo) := goodIn_app (goodIn_of _ (by decide +kernel)) ggX3_takeColon_X3_comeTo
def D_X3_takeColon : Md := (yX3_takeColon, cX3_takeColon, 1, (some .boolean), wsX3_takeColon, RX3, { frames := 1, cells := 0, slots := 0, locals := 21 })
theorem nm_X3_takeColon : nmD D_X3_takeColon 0 := ⟨rfl, by decide +kernel, by decide +kernel, by decide +kernel⟩
theorem hi_X3_takeColon_X3 : ∀ w ∈ u_ws RX3 TX3 6, w ∈ wsX3_takeColon := by decide +kernel
theorem hl_X3_takeColon_59 : Cond.fieldLink RX3 59 "LevelLoops$Reader" "negative" "Z" ∈ wsX3_takeColon := by decide +kernel
def wp_X3_takeColon (w : Wd) (Q : Int32 → Wd → Prop) : Prop :=
  zb (0 : Int32) ∧ (∀ w2 : Wd, w2 = (sI w 0 31 5 (0 : Int32)) → wp_X3_comeTo (6 : Int32) w2 (fun r8 w8 => zb r8 ∧ Q r8 w8))
theorem ok_X3_takeColon {G : Gt} {M : Mx} {Qf : State → Prop} {w : Wd} {Q : Int32 → Wd → Prop} (hC : cx G D_X3_takeColon M) (he : en G M (qi Q) Qf) (h : wp_X3_takeColon w Q) : jq G D_X3_takeColon M Qf 0 [(0, .ref (aD G 0 31))] [] w := by
  unfold wp_X3_takeColon at h
  refine jq_aload_n (k0 := 0) dX3_takeColon_0 hC rfl rfl ?_
  refine jq_iconst (v := (0 : Int32)) dX3_takeColon_1 hC (by decide) ?_
  obtain ⟨b2, h⟩ := h
  refine jq_put (k0 := 5) (n := 0) (o := 31) (ty := .boolean) (w' := (sI w 0 31 5 (0 : Int32))) dX3_takeColon_2 hC (cl_0 (by decide)) rfl rfl hi_X3_takeColon_X3 tyX3 tyX3_ok nmX3 (by decide) hl_X3_takeColon_59 rfl rfl (by decide +kernel) (by rcases b2 with e | e <;> rw [e] <;> rfl) (by rcases b2 with e | e <;> rw [e] <;> rfl) (Nat.le_of_ble_eq_true rfl) (e_31_5 G _ _ _) (fun c _ hne => ent_sA c hne) ?_
  refine jq_w (fun w2 e2 => ?_)
  have h := h w2 e2
  refine jq_aload_n (k0 := 0) dX3_takeColon_5 hC rfl rfl ?_
  refine jq_bipush (v := (6 : Int32)) dX3_takeColon_6 hC (by decide) ?_
  refine jq_callV (As := [.int (6 : Int32)]) (rest := []) (n := 0) (o := 31) (D' := D_X3_comeTo) dX3_takeColon_8 hC (cl_0 (by decide)) rfl rfl rfl (mt_X3_comeTo h) gX3_takeColon_X3_comeTo rfl ⟨rfl, rfl, Nat.le_of_ble_eq_true rfl, Nat.le_of_ble_eq_true rfl⟩ nm_X3_comeTo rfl (Nat.le_of_ble_eq_true rfl) (kI fun r8 w8 h => ?_)
  obtain ⟨bz, h⟩ := h
  exact jq_zret dX3_takeColon_11 hC he rfl bz ⟨_, rfl, h⟩
theorem mt_X3_takeColon {G : Gt} {w : Wd} {Q : Int32 → Wd → Prop} (h : wp_X3_takeColon w Q) : Mt G D_X3_takeColon [.ref (aD G 0 31)] w (qi Q) := Mt_of (by decide +kernel) rfl rfl (Nat.le_of_ble_eq_true rfl) (fun M Qf hC he => ok_X3_takeColon hC he h)
/-! X3.takeSign()Z -/
theorem dX3_takeSign_0 : decode cX3_takeSign 0 = .ok (.aload_n 0, 1) := by decide +kernel
theorem dX3_takeSign_1 : decode cX3_takeSign 1 = .ok (.iconst 1, 1) := by decide +kernel
theorem dX3_takeSign_2 : decode cX3_takeSign 2 = .ok (.putfield 59, 3) := by decide +kernel
theorem dX3_takeSign_5 : decode cX3_takeSign 5 = .ok (.aload_n 0, 1) := by decide +kernel
theorem dX3_takeSign_6 : decode cX3_takeSign 6 = .ok (.bipush 7, 2) := by decide +kernel
theorem dX3_takeSign_8 : decode cX3_takeSign 8 = .ok (.invokevirtual 22, 3) := by decide +kernel
theorem dX3_takeSign_11 : decode cX3_takeSign 11 = .ok (.ireturn, 1) := by decide +kernel
set_option maxRecDepth 20000 in
theorem ggX3_takeSign_X3_comeTo : GoodIn wsX3_takeSign wsX3_comeTo := goodIn_r _ [6, 7, 8, 9, 10, 11, 12, 13] (by decide +kernel) (by decide +kernel)
set_option maxRecDepth 20000 in
theorem gX3_takeSign_X3_comeTo : GoodIn wsX3_takeSign (wsV RX3 22 RX3 yX3_comeTo wsX3_comeTo) := goodIn_app (goodIn_of _ (by decide +kernel)) ggX3_takeSign_X3_comeTo
def D_X3_takeSign : Md := (yX3_takeSign, cX3_takeSign, 1, (some .boolean), wsX3_takeSign, RX3, { frames := 1, cells := 0, slots := 0, locals := 21 })
theorem nm_X3_takeSign : nmD D_X3_takeSign 0 := ⟨rfl, by decide +kernel, by decide +kernel, by decide +kernel⟩
theorem hi_X3_takeSign_X3 : ∀ w ∈ u_ws RX3 TX3 6, w ∈ wsX3_takeSign := by decide +kernel
theorem hl_X3_takeSign_59 : Cond.fieldLink RX3 59 "LevelLoops$Reader" "negative" "Z" ∈ wsX3_takeSign := by decide +kernel
def wp_X3_takeSign (w : Wd) (Q : Int32 → Wd → Prop) : Prop :=
  zb (1 : Int32) ∧ (∀ w2 : Wd, w2 = (sI w 0 31 5 (1 : Int32)) → wp_X3_comeTo (7 : Int32) w2 (fun r8 w8 => zb r8 ∧ Q r8 w8))
theorem ok_X3_takeSign {G : Gt} {M : Mx} {Qf : State → Prop} {w : Wd} {Q : Int32 → Wd → Prop} (hC : cx G D_X3_takeSign M) (he : en G M (qi Q) Qf) (h : wp_X3_takeSign w Q) : jq G D_X3_takeSign M Qf 0 [(0, .ref (aD G 0 31))] [] w := by
  unfold wp_X3_takeSign at h
  refine jq_aload_n (k0 := 0) dX3_takeSign_0 hC rfl rfl ?_
  refine jq_iconst (v := (1 : Int32)) dX3_takeSign_1 hC (by decide) ?_
  obtain ⟨b2, h⟩ := h
  refine jq_put (k0 := 5) (n := 0) (o := 31) (ty := .boolean) (w' := (sI w 0 31 5 (1 : Int32))) dX3_takeSign_2 hC (cl_0 (by decide)) rfl rfl hi_X3_takeSign_X3 tyX3 tyX3_ok nmX3 (by decide) hl_X3_takeSign_59 rfl rfl (by decide +kernel) (by rcases b2 with e | e <;> rw [e] <;> rfl) (by rcases b2 with e | e <;> rw [e] <;> rfl) (Nat.le_of_ble_eq_true rfl) (e_31_5 G _ _ _) (fun c _ hne => ent_sA c hne) ?_
  refine jq_w (fun w2 e2 => ?_)
  have h := h w2 e2
  refine jq_aload_n (k0 := 0) dX3_takeSign_5 hC rfl rfl ?_
  refine jq_bipush (v := (7 : Int32)) dX3_takeSign_6 hC (by decide) ?_
  refine jq_callV (As := [.int (7 : Int32)]) (rest := []) (n := 0) (o := 31) (D' := D_X3_comeTo) dX3_takeSign_8 hC (cl_0 (by decide)) rfl rfl rfl (mt_X3_comeTo h) gX3_takeSign_X3_comeTo rfl ⟨rfl, rfl, Nat.le_of_ble_eq_true rfl, Nat.le_of_ble_eq_true rfl⟩ nm_X3_comeTo rfl (Nat.le_of_ble_eq_true rfl) (kI fun r8 w8 h => ?_)
  obtain ⟨bz, h⟩ := h
  exact jq_zret dX3_takeSign_11 hC he rfl bz ⟨_, rfl, h⟩
theorem mt_X3_takeSign {G : Gt} {w : Wd} {Q : Int32 → Wd → Prop} (h : wp_X3_takeSign w Q) : Mt G D_X3_takeSign [.ref (aD G 0 31)] w (qi Q) := Mt_of (by decide +kernel) rfl rfl (Nat.le_of_ble_eq_true rfl) (fun M Qf hC he => ok_X3_takeSign hC he h)
/-! X3.takeSlash()Z -/
theorem dX3_takeSlash_0 : decode cX3_takeSlash 0 = .ok (.aload_n 0, 1) := by decide +kernel
theorem dX3_takeSlash_1 : decode cX3_takeSlash 1 = .ok (.aload_n 0, 1) := by decide +kernel
theorem dX3_takeSlash_2 : decode cX3_takeSlash 2 = .ok (.getfield 59, 3) := by decide +kernel
theorem dX3_takeSlash_5 : decode cX3_takeSlash 5 = .ok (.ifCond .eq 11, 3) := by decide +kernel
theorem dX3_takeSlash_8 : decode cX3_takeSlash 8 = .ok (.aload_n 0, 1) := by decide +kernel
theorem dX3_takeSlash_9 : decode cX3_takeSlash 9 = .ok (.getfield 19, 3) := by decide +kernel
theorem dX3_takeSlash_12 : decode cX3_takeSlash 12 = .ok (.ineg, 1) := by decide +kernel
theorem dX3_takeSlash_13 : decode cX3_takeSlash 13 = .ok (.goto 7, 3) := by decide +kernel
theorem dX3_takeSlash_16 : decode cX3_takeSlash 16 = .ok (.aload_n 0, 1) := by decide +kernel
theorem dX3_takeSlash_17 : decode cX3_takeSlash 17 = .ok (.getfield 19, 3) := by decide +kernel
theorem dX3_takeSlash_20 : decode cX3_takeSlash 20 = .ok (.putfield 63, 3) := by decide +kernel
theorem dX3_takeSlash_23 : decode cX3_takeSlash 23 = .ok (.aload_n 0, 1) := by decide +kernel
theorem dX3_takeSlash_24 : decode cX3_takeSlash 24 = .ok (.bipush 9, 2) := by decide +kernel
theorem dX3_takeSlash_26 : decode cX3_takeSlash 26 = .ok (.invokevirtual 22, 3) := by decide +kernel
theorem dX3_takeSlash_29 : decode cX3_takeSlash 29 = .ok (.ireturn, 1) := by decide +kernel
set_option maxRecDepth 20000 in
theorem ggX3_takeSlash_X3_comeTo : GoodIn wsX3_takeSlash wsX3_comeTo := goodIn_r _ [8, 9, 10, 11, 12, 13, 14, 15] (by decide +kernel) (by decide +kernel)
set_option maxRecDepth 20000 in
theorem gX3_takeSlash_X3_comeTo : GoodIn wsX3_takeSlash (wsV RX3 22 RX3 yX3_comeTo wsX3_comeTo) := goodIn_app (goodIn_of _ (by decide +kernel)) ggX3_takeSlash_X3_comeTo
def D_X3_takeSlash : Md := (yX3_takeSlash, cX3_takeSlash, 1, (some .boolean), wsX3_takeSlash, RX3, { frames := 1, cells := 0, slots := 0, locals := 21 })
theorem nm_X3_takeSlash : nmD D_X3_takeSlash 0 := ⟨rfl, by decide +kernel, by decide +kernel, by decide +kernel⟩
theorem hi_X3_takeSlash_X3 : ∀ w ∈ u_ws RX3 TX3 6, w ∈ wsX3_takeSlash := by decide +kernel
theorem hl_X3_takeSlash_19 : Cond.fieldLink RX3 19 "LevelLoops$Reader" "number" "I" ∈ wsX3_takeSlash := by decide +kernel
theorem hl_X3_takeSlash_59 : Cond.fieldLink RX3 59 "LevelLoops$Reader" "negative" "Z" ∈ wsX3_takeSlash := by decide +kernel
theorem hl_X3_takeSlash_63 : Cond.fieldLink RX3 63 "LevelLoops$Reader" "difference" "I" ∈ wsX3_takeSlash := by decide +kernel
def wp_X3_takeSlash_J20 (s0 : Int32) (w : Wd) (Q : Int32 → Wd → Prop) : Prop :=
  (∀ w20 : Wd, w20 = (sI w 0 31 3 s0) → wp_X3_comeTo (9 : Int32) w20 (fun r26 w26 => zb r26 ∧ Q r26 w26))
def wp_X3_takeSlash (w : Wd) (Q : Int32 → Wd → Prop) : Prop :=
  (((wi w 0 31 5) = 0 → wp_X3_takeSlash_J20 (wi w 0 31 0) w Q) ∧ (¬ (wi w 0 31 5) = 0 → wp_X3_takeSlash_J20 (-(wi w 0 31 0)) w Q))
theorem ok_X3_takeSlash_J20 {G : Gt} {M : Mx} {Qf : State → Prop} {s0 : Int32} {w : Wd} {Q : Int32 → Wd → Prop} (hC : cx G D_X3_takeSlash M) (he : en G M (qi Q) Qf) (h : wp_X3_takeSlash_J20 s0 w Q) : jq G D_X3_takeSlash M Qf 20 [(0, .ref (aD G 0 31))] [.int s0, .ref (aD G 0 31)] w := by
  unfold wp_X3_takeSlash_J20 at h
  refine jq_put (k0 := 3) (n := 0) (o := 31) (ty := .int) (w' := (sI w 0 31 3 s0)) dX3_takeSlash_20 hC (cl_0 (by decide)) rfl rfl hi_X3_takeSlash_X3 tyX3 tyX3_ok nmX3 (by decide) hl_X3_takeSlash_63 rfl rfl (by decide +kernel) rfl rfl (Nat.le_of_ble_eq_true rfl) (e_31_3 G _ _ _) (fun c _ hne => ent_sA c hne) ?_
  refine jq_w (fun w20 e20 => ?_)
  have h := h w20 e20
  refine jq_aload_n (k0 := 0) dX3_takeSlash_23 hC rfl rfl ?_
  refine jq_bipush (v := (9 : Int32)) dX3_takeSlash_24 hC (by decide) ?_
  refine jq_callV (As := [.int (9 : Int32)]) (rest := []) (n := 0) (o := 31) (D' := D_X3_comeTo) dX3_takeSlash_26 hC (cl_0 (by decide)) rfl rfl rfl (mt_X3_comeTo h) gX3_takeSlash_X3_comeTo rfl ⟨rfl, rfl, Nat.le_of_ble_eq_true rfl, Nat.le_of_ble_eq_true rfl⟩ nm_X3_comeTo rfl (Nat.le_of_ble_eq_true rfl) (kI fun r26 w26 h => ?_)
  obtain ⟨bz, h⟩ := h
  exact jq_zret dX3_takeSlash_29 hC he rfl bz ⟨_, rfl, h⟩
theorem ok_X3_takeSlash {G : Gt} {M : Mx} {Qf : State → Prop} {w : Wd} {Q : Int32 → Wd → Prop} (hC : cx G D_X3_takeSlash M) (he : en G M (qi Q) Qf) (h : wp_X3_takeSlash w Q) : jq G D_X3_takeSlash M Qf 0 [(0, .ref (aD G 0 31))] [] w := by
  unfold wp_X3_takeSlash at h
  refine jq_aload_n (k0 := 0) dX3_takeSlash_0 hC rfl rfl ?_
  refine jq_aload_n (k0 := 0) dX3_takeSlash_1 hC rfl rfl ?_
  refine jq_get (k0 := 5) (n := 0) (o := 31) dX3_takeSlash_2 hC (cl_0 (by decide)) rfl rfl hi_X3_takeSlash_X3 (by decide) hl_X3_takeSlash_59 rfl rfl ?_
  refine jq_if_eq (tgt := 16) dX3_takeSlash_5 hC (by decide) (fun c5 => ?_) (fun c5 => ?_)
  · have h := h.1 c5
    refine jq_aload_n (k0 := 0) dX3_takeSlash_16 hC rfl rfl ?_
    refine jq_get (k0 := 0) (n := 0) (o := 31) dX3_takeSlash_17 hC (cl_0 (by decide)) rfl rfl hi_X3_takeSlash_X3 (by decide) hl_X3_takeSlash_19 rfl rfl ?_
    refine jq_less (L' := [(0, .ref (aD G 0 31))]) [0] rfl ?_
    exact ok_X3_takeSlash_J20 hC he h
  · have h := h.2 c5
    refine jq_aload_n (k0 := 0) dX3_takeSlash_8 hC rfl rfl ?_
    refine jq_get (k0 := 0) (n := 0) (o := 31) dX3_takeSlash_9 hC (cl_0 (by decide)) rfl rfl hi_X3_takeSlash_X3 (by decide) hl_X3_takeSlash_19 rfl rfl ?_
    refine jq_ineg dX3_takeSlash_12 hC ?_
    refine jq_goto (tgt := 20) dX3_takeSlash_13 hC (by decide) ?_
    refine jq_less (L' := [(0, .ref (aD G 0 31))]) [0] rfl ?_
    exact ok_X3_takeSlash_J20 hC he h
theorem mt_X3_takeSlash {G : Gt} {w : Wd} {Q : Int32 → Wd → Prop} (h : wp_X3_takeSlash w Q) : Mt G D_X3_takeSlash [.ref (aD G 0 31)] w (qi Q) := Mt_of (by decide +kernel) rfl rfl (Nat.le_of_ble_eq_true rfl) (fun M Qf hC he => ok_X3_takeSlash hC he h)
/-! X3.take(I)Z -/
theorem dX3_take_0 : decode cX3_take 0 = .ok (.aload_n 0, 1) := by decide +kernel
theorem dX3_take_1 : decode cX3_take 1 = .ok (.getfield 11, 3) := by decide +kernel
theorem dX3_take_4 : decode cX3_take 4 = .ok (.tableswitch 227 0 9 #[56, 76, 98, 120, 140, 146, 165, 187, 196, 218], 56) := by decide +kernel
theorem dX3_take_60 : decode cX3_take 60 = .ok (.iload_n 1, 1) := by decide +kernel
theorem dX3_take_61 : decode cX3_take 61 = .ok (.bipush 109, 2) := by decide +kernel
theorem dX3_take_63 : decode cX3_take 63 = .ok (.if_icmp .ne 11, 3) := by decide +kernel
theorem dX3_take_66 : decode cX3_take 66 = .ok (.aload_n 0, 1) := by decide +kernel
theorem dX3_take_67 : decode cX3_take 67 = .ok (.iconst 1, 1) := by decide +kernel
theorem dX3_take_68 : decode cX3_take 68 = .ok (.invokevirtual 22, 3) := by decide +kernel
theorem dX3_take_71 : decode cX3_take 71 = .ok (.goto 8, 3) := by decide +kernel
theorem dX3_take_74 : decode cX3_take 74 = .ok (.aload_n 0, 1) := by decide +kernel
theorem dX3_take_75 : decode cX3_take 75 = .ok (.iload_n 1, 1) := by decide +kernel
theorem dX3_take_76 : decode cX3_take 76 = .ok (.invokevirtual 26, 3) := by decide +kernel
theorem dX3_take_79 : decode cX3_take 79 = .ok (.ireturn, 1) := by decide +kernel
theorem dX3_take_80 : decode cX3_take 80 = .ok (.iload_n 1, 1) := by decide +kernel
theorem dX3_take_81 : decode cX3_take 81 = .ok (.bipush 59, 2) := by decide +kernel
theorem dX3_take_83 : decode cX3_take 83 = .ok (.if_icmp .ne 11, 3) := by decide +kernel
theorem dX3_take_86 : decode cX3_take 86 = .ok (.aload_n 0, 1) := by decide +kernel
theorem dX3_take_87 : decode cX3_take 87 = .ok (.iconst 0, 1) := by decide +kernel
theorem dX3_take_88 : decode cX3_take 88 = .ok (.invokevirtual 22, 3) := by decide +kernel
theorem dX3_take_91 : decode cX3_take 91 = .ok (.goto 10, 3) := by decide +kernel
theorem dX3_take_94 : decode cX3_take 94 = .ok (.aload_n 0, 1) := by decide +kernel
theorem dX3_take_95 : decode cX3_take 95 = .ok (.iload_n 1, 1) := by decide +kernel
theorem dX3_take_96 : decode cX3_take 96 = .ok (.iconst 0, 1) := by decide +kernel
theorem dX3_take_97 : decode cX3_take 97 = .ok (.iconst 2, 1) := by decide +kernel
theorem dX3_take_98 : decode cX3_take 98 = .ok (.invokevirtual 29, 3) := by decide +kernel
theorem dX3_take_101 : decode cX3_take 101 = .ok (.ireturn, 1) := by decide +kernel
theorem dX3_take_102 : decode cX3_take 102 = .ok (.iload_n 1, 1) := by decide +kernel
theorem dX3_take_103 : decode cX3_take 103 = .ok (.bipush 59, 2) := by decide +kernel
theorem dX3_take_105 : decode cX3_take 105 = .ok (.if_icmp .ne 11, 3) := by decide +kernel
theorem dX3_take_108 : decode cX3_take 108 = .ok (.aload_n 0, 1) := by decide +kernel
theorem dX3_take_109 : decode cX3_take 109 = .ok (.iconst 0, 1) := by decide +kernel
theorem dX3_take_110 : decode cX3_take 110 = .ok (.invokevirtual 22, 3) := by decide +kernel
theorem dX3_take_113 : decode cX3_take 113 = .ok (.goto 10, 3) := by decide +kernel
theorem dX3_take_116 : decode cX3_take 116 = .ok (.aload_n 0, 1) := by decide +kernel
theorem dX3_take_117 : decode cX3_take 117 = .ok (.iload_n 1, 1) := by decide +kernel
theorem dX3_take_118 : decode cX3_take 118 = .ok (.ldc 33, 2) := by decide +kernel
theorem dX3_take_120 : decode cX3_take 120 = .ok (.invokevirtual 34, 3) := by decide +kernel
theorem dX3_take_123 : decode cX3_take 123 = .ok (.ireturn, 1) := by decide +kernel
theorem dX3_take_124 : decode cX3_take 124 = .ok (.iload_n 1, 1) := by decide +kernel
theorem dX3_take_125 : decode cX3_take 125 = .ok (.bipush 45, 2) := by decide +kernel
theorem dX3_take_127 : decode cX3_take 127 = .ok (.if_icmp .ne 15, 3) := by decide +kernel
theorem dX3_take_130 : decode cX3_take 130 = .ok (.aload_n 0, 1) := by decide +kernel
theorem dX3_take_131 : decode cX3_take 131 = .ok (.iconst 4, 1) := by decide +kernel
theorem dX3_take_132 : decode cX3_take 132 = .ok (.invokevirtual 22, 3) := by decide +kernel
theorem dX3_take_135 : decode cX3_take 135 = .ok (.ifCond .eq 7, 3) := by decide +kernel
theorem dX3_take_138 : decode cX3_take 138 = .ok (.iconst 1, 1) := by decide +kernel
theorem dX3_take_139 : decode cX3_take 139 = .ok (.goto 4, 3) := by decide +kernel
theorem dX3_take_142 : decode cX3_take 142 = .ok (.iconst 0, 1) := by decide +kernel
theorem dX3_take_143 : decode cX3_take 143 = .ok (.ireturn, 1) := by decide +kernel
theorem dX3_take_144 : decode cX3_take 144 = .ok (.aload_n 0, 1) := by decide +kernel
theorem dX3_take_145 : decode cX3_take 145 = .ok (.iload_n 1, 1) := by decide +kernel
theorem dX3_take_146 : decode cX3_take 146 = .ok (.invokevirtual 38, 3) := by decide +kernel
theorem dX3_take_149 : decode cX3_take 149 = .ok (.ireturn, 1) := by decide +kernel
theorem dX3_take_150 : decode cX3_take 150 = .ok (.iload_n 1, 1) := by decide +kernel
theorem dX3_take_151 : decode cX3_take 151 = .ok (.bipush 58, 2) := by decide +kernel
theorem dX3_take_153 : decode cX3_take 153 = .ok (.if_icmp .ne 14, 3) := by decide +kernel
theorem dX3_take_156 : decode cX3_take 156 = .ok (.aload_n 0, 1) := by decide +kernel
theorem dX3_take_157 : decode cX3_take 157 = .ok (.invokevirtual 41, 3) := by decide +kernel
theorem dX3_take_160 : decode cX3_take 160 = .ok (.ifCond .eq 7, 3) := by decide +kernel
theorem dX3_take_163 : decode cX3_take 163 = .ok (.iconst 1, 1) := by decide +kernel
theorem dX3_take_164 : decode cX3_take 164 = .ok (.goto 4, 3) := by decide +kernel
theorem dX3_take_167 : decode cX3_take 167 = .ok (.iconst 0, 1) := by decide +kernel
theorem dX3_take_168 : decode cX3_take 168 = .ok (.ireturn, 1) := by decide +kernel
theorem dX3_take_169 : decode cX3_take 169 = .ok (.iload_n 1, 1) := by decide +kernel
theorem dX3_take_170 : decode cX3_take 170 = .ok (.bipush 45, 2) := by decide +kernel
theorem dX3_take_172 : decode cX3_take 172 = .ok (.if_icmp .ne 10, 3) := by decide +kernel
theorem dX3_take_175 : decode cX3_take 175 = .ok (.aload_n 0, 1) := by decide +kernel
theorem dX3_take_176 : decode cX3_take 176 = .ok (.invokevirtual 44, 3) := by decide +kernel
theorem dX3_take_179 : decode cX3_take 179 = .ok (.goto 11, 3) := by decide +kernel
theorem dX3_take_182 : decode cX3_take 182 = .ok (.aload_n 0, 1) := by decide +kernel
theorem dX3_take_183 : decode cX3_take 183 = .ok (.iload_n 1, 1) := by decide +kernel
theorem dX3_take_184 : decode cX3_take 184 = .ok (.iconst 0, 1) := by decide +kernel
theorem dX3_take_185 : decode cX3_take 185 = .ok (.bipush 8, 2) := by decide +kernel
theorem dX3_take_187 : decode cX3_take 187 = .ok (.invokevirtual 29, 3) := by decide +kernel
theorem dX3_take_190 : decode cX3_take 190 = .ok (.ireturn, 1) := by decide +kernel
theorem dX3_take_191 : decode cX3_take 191 = .ok (.aload_n 0, 1) := by decide +kernel
theorem dX3_take_192 : decode cX3_take 192 = .ok (.iload_n 1, 1) := by decide +kernel
theorem dX3_take_193 : decode cX3_take 193 = .ok (.iconst 0, 1) := by decide +kernel
theorem dX3_take_194 : decode cX3_take 194 = .ok (.bipush 8, 2) := by decide +kernel
theorem dX3_take_196 : decode cX3_take 196 = .ok (.invokevirtual 29, 3) := by decide +kernel
theorem dX3_take_199 : decode cX3_take 199 = .ok (.ireturn, 1) := by decide +kernel
theorem dX3_take_200 : decode cX3_take 200 = .ok (.iload_n 1, 1) := by decide +kernel
theorem dX3_take_201 : decode cX3_take 201 = .ok (.bipush 47, 2) := by decide +kernel
theorem dX3_take_203 : decode cX3_take 203 = .ok (.if_icmp .ne 10, 3) := by decide +kernel
theorem dX3_take_206 : decode cX3_take 206 = .ok (.aload_n 0, 1) := by decide +kernel
theorem dX3_take_207 : decode cX3_take 207 = .ok (.invokevirtual 47, 3) := by decide +kernel
theorem dX3_take_210 : decode cX3_take 210 = .ok (.goto 11, 3) := by decide +kernel
theorem dX3_take_213 : decode cX3_take 213 = .ok (.aload_n 0, 1) := by decide +kernel
theorem dX3_take_214 : decode cX3_take 214 = .ok (.iload_n 1, 1) := by decide +kernel
theorem dX3_take_215 : decode cX3_take 215 = .ok (.sipush 9999, 3) := by decide +kernel
theorem dX3_take_218 : decode cX3_take 218 = .ok (.invokevirtual 34, 3) := by decide +kernel
theorem dX3_take_221 : decode cX3_take 221 = .ok (.ireturn, 1) := by decide +kernel
theorem dX3_take_222 : decode cX3_take 222 = .ok (.aload_n 0, 1) := by decide +kernel
theorem dX3_take_223 : decode cX3_take 223 = .ok (.iload_n 1, 1) := by decide +kernel
theorem dX3_take_224 : decode cX3_take 224 = .ok (.iconst 1, 1) := by decide +kernel
theorem dX3_take_225 : decode cX3_take 225 = .ok (.bipush 10, 2) := by decide +kernel
theorem dX3_take_227 : decode cX3_take 227 = .ok (.invokevirtual 29, 3) := by decide +kernel
theorem dX3_take_230 : decode cX3_take 230 = .ok (.ireturn, 1) := by decide +kernel
theorem dX3_take_231 : decode cX3_take 231 = .ok (.iload_n 1, 1) := by decide +kernel
theorem dX3_take_232 : decode cX3_take 232 = .ok (.bipush 59, 2) := by decide +kernel
theorem dX3_take_234 : decode cX3_take 234 = .ok (.if_icmp .ne 11, 3) := by decide +kernel
theorem dX3_take_237 : decode cX3_take 237 = .ok (.aload_n 0, 1) := by decide +kernel
theorem dX3_take_238 : decode cX3_take 238 = .ok (.iconst 0, 1) := by decide +kernel
theorem dX3_take_239 : decode cX3_take 239 = .ok (.invokevirtual 22, 3) := by decide +kernel
theorem dX3_take_242 : decode cX3_take 242 = .ok (.goto 10, 3) := by decide +kernel
theorem dX3_take_245 : decode cX3_take 245 = .ok (.aload_n 0, 1) := by decide +kernel
theorem dX3_take_246 : decode cX3_take 246 = .ok (.iload_n 1, 1) := by decide +kernel
theorem dX3_take_247 : decode cX3_take 247 = .ok (.bipush 99, 2) := by decide +kernel
theorem dX3_take_249 : decode cX3_take 249 = .ok (.invokevirtual 34, 3) := by decide +kernel
theorem dX3_take_252 : decode cX3_take 252 = .ok (.ireturn, 1) := by decide +kernel
set_option maxRecDepth 20000 in
theorem ggX3_take_X3_goOn : GoodIn wsX3_take wsX3_goOn := goodIn_r _ [24, 20, 13, 14, 6, 15, 44, 45, 46, 47, 48, 49] (by decide +kernel) (by decide +kernel)
set_option maxRecDepth 20000 in
theorem gX3_take_X3_goOn : GoodIn wsX3_take (wsV RX3 34 RX3 yX3_goOn wsX3_goOn) := goodIn_app (goodIn_of _ (by decide +kernel)) ggX3_take_X3_goOn
set_option maxRecDepth 20000 in
theorem ggX3_take_X3_comeTo : GoodIn wsX3_take wsX3_comeTo := goodIn_r _ [7, 1, 44, 45, 46, 47, 48, 49] (by decide +kernel) (by decide +kernel)
set_option maxRecDepth 20000 in
theorem gX3_take_X3_comeTo : GoodIn wsX3_take (wsV RX3 22 RX3 yX3_comeTo wsX3_comeTo) := goodIn_app (goodIn_of _ (by decide +kernel)) ggX3_take_X3_comeTo
set_option maxRecDepth 20000 in
theorem ggX3_take_X3_takeFrom : GoodIn wsX3_take wsX3_takeFrom := goodIn_r _ [11, 12, 13, 14, 6, 15, 3, 4, 5, 7, 1, 44, 45, 46, 47, 48, 49] (by decide +kernel) (by decide +kernel)
set_option maxRecDepth 20000 in
theorem gX3_take_X3_takeFrom : GoodIn wsX3_take (wsV RX3 26 RX3 yX3_takeFrom wsX3_takeFrom) := goodIn_app (goodIn_of _ (by decide +kernel)) ggX3_take_X3_takeFrom
set_option maxRecDepth 20000 in
theorem ggX3_take_X3_begin : GoodIn wsX3_take wsX3_begin := goodIn_r _ [19, 20, 13, 14, 6, 15, 3, 4, 5, 7, 1, 44, 45, 46, 47, 48, 49] (by decide +kernel) (by decide +kernel)
set_option maxRecDepth 20000 in
theorem gX3_take_X3_begin : GoodIn wsX3_take (wsV RX3 29 RX3 yX3_begin wsX3_begin) := goodIn_app (goodIn_of _ (by decide +kernel)) ggX3_take_X3_begin
set_option maxRecDepth 20000 in
theorem ggX3_take_X3_takeTo : GoodIn wsX3_take wsX3_takeTo := goodIn_r _ [28, 29, 13, 14, 6, 15, 3, 4, 5, 7, 1, 44, 45, 46, 47, 48, 49] (by decide +kernel) (by decide +kernel)
set_option maxRecDepth 20000 in
theorem gX3_take_X3_takeTo : GoodIn wsX3_take (wsV RX3 38 RX3 yX3_takeTo wsX3_takeTo) := goodIn_app (goodIn_of _ (by decide +kernel)) ggX3_take_X3_takeTo
set_option maxRecDepth 20000 in
theorem ggX3_take_X3_takeColon : GoodIn wsX3_take wsX3_takeColon := goodIn_r _ [33, 34, 3, 4, 5, 6, 7, 1, 44, 45, 46, 47, 48, 49] (by decide +kernel) (by decide +kernel)
set_option maxRecDepth 20000 in
theorem gX3_take_X3_takeColon : GoodIn wsX3_take (wsV RX3 41 RX3 yX3_takeColon wsX3_takeColon) := goodIn_app (goodIn_of _ (by decide +kernel)) ggX3_take_X3_takeColon
set_option maxRecDepth 20000 in
theorem ggX3_take_X3_takeSign : GoodIn wsX3_take wsX3_takeSign := goodIn_r _ [38, 34, 3, 4, 5, 6, 7, 1, 44, 45, 46, 47, 48, 49] (by decide +kernel) (by decide +kernel)
set_option maxRecDepth 20000 in
theorem gX3_take_X3_takeSign : GoodIn wsX3_take (wsV RX3 44 RX3 yX3_takeSign wsX3_takeSign) := goodIn_app (goodIn_of _ (by decide +kernel)) ggX3_take_X3_takeSign
set_option maxRecDepth 20000 in
theorem ggX3_take_X3_takeSlash : GoodIn wsX3_take wsX3_takeSlash := goodIn_r _ [42, 34, 20, 43, 3, 4, 5, 6, 7, 1, 44, 45, 46, 47, 48, 49] (by decide +kernel) (by decide +kernel)
set_option maxRecDepth 20000 in
theorem gX3_take_X3_takeSlash : GoodIn wsX3_take (wsV RX3 47 RX3 yX3_takeSlash wsX3_takeSlash) := goodIn_app (goodIn_of _ (by decide +kernel)) ggX3_take_X3_takeSlash
def D_X3_take : Md := (yX3_take, cX3_take, 2, (some .boolean), wsX3_take, RX3, { frames := 2, cells := 0, slots := 0, locals := 44 })
theorem nm_X3_take : nmD D_X3_take 1 := ⟨rfl, by decide +kernel, by decide +kernel, by decide +kernel⟩
theorem hi_X3_take_X3 : ∀ w ∈ u_ws RX3 TX3 6, w ∈ wsX3_take := by decide +kernel
theorem hl_X3_take_11 : Cond.fieldLink RX3 11 "LevelLoops$Reader" "state" "I" ∈ wsX3_take := by decide +kernel
def wp_X3_take_J142 (w : Wd) (Q : Int32 → Wd → Prop) : Prop :=
  zb (0 : Int32) ∧ Q (0 : Int32) w
def wp_X3_take_J167 (w : Wd) (Q : Int32 → Wd → Prop) : Prop :=
  zb (0 : Int32) ∧ Q (0 : Int32) w
def wp_X3_take (x1 : Int32) (w : Wd) (Q : Int32 → Wd → Prop) : Prop :=
  (((wi w 0 31 4) = 0 → ((¬ x1 = (109 : Int32) → wp_X3_takeFrom x1 w (fun r76 w76 => zb r76 ∧ Q r76 w76)) ∧ (x1 = (109 : Int32) → wp_X3_comeTo (1 : Int32) w (fun r68 w68 => zb r68 ∧ Q r68 w68)))) ∧ ((wi w 0 31 4) = 1 → ((¬ x1 = (59 : Int32) → wp_X3_begin x1 (0 : Int32) (2 : Int32) w (fun r98 w98 => zb r98 ∧ Q r98 w98)) ∧ (x1 = (59 : Int32) → wp_X3_comeTo (0 : Int32) w (fun r88 w88 => zb r88 ∧ Q r88 w88)))) ∧ ((wi w 0 31 4) = 2 → ((¬ x1 = (59 : Int32) → wp_X3_goOn x1 (99999 : Int32) w (fun r120 w120 => zb r120 ∧ Q r120 w120)) ∧ (x1 = (59 : Int32) → wp_X3_comeTo (0 : Int32) w (fun r110 w110 => zb r110 ∧ Q r110 w110)))) ∧ ((wi w 0 31 4) = 3 → ((¬ x1 = (45 : Int32) → wp_X3_take_J142 w Q) ∧ (x1 = (45 : Int32) → wp_X3_comeTo (4 : Int32) w (fun r132 w132 => ((r132 = 0 → wp_X3_take_J142 w132 Q) ∧ (¬ r132 = 0 → zb (1 : Int32) ∧ Q (1 : Int32) w132)))))) ∧ ((wi w 0 31 4) = 4 → wp_X3_takeTo x1 w (fun r146 w146 => zb r146 ∧ Q r146 w146)) ∧ ((wi w 0 31 4) = 5 → ((¬ x1 = (58 : Int32) → wp_X3_take_J167 w Q) ∧ (x1 = (58 : Int32) → wp_X3_takeColon w (fun r157 w157 => ((r157 = 0 → wp_X3_take_J167 w157 Q) ∧ (¬ r157 = 0 → zb (1 : Int32) ∧ Q (1 : Int32) w157)))))) ∧ ((wi w 0 31 4) = 6 → ((¬ x1 = (45 : Int32) → wp_X3_begin x1 (0 : Int32) (8 : Int32) w (fun r187 w187 => zb r187 ∧ Q r187 w187)) ∧ (x1 = (45 : Int32) → wp_X3_takeSign w (fun r176 w176 => zb r176 ∧ Q r176 w176)))) ∧ ((wi w 0 31 4) = 7 → wp_X3_begin x1 (0 : Int32) (8 : Int32) w (fun r196 w196 => zb r196 ∧ Q r196 w196)) ∧ ((wi w 0 31 4) = 8 → ((¬ x1 = (47 : Int32) → wp_X3_goOn x1 (9999 : Int32) w (fun r218 w218 => zb r218 ∧ Q r218 w218)) ∧ (x1 = (47 : Int32) → wp_X3_takeSlash w (fun r207 w207 => zb r207 ∧ Q r207 w207)))) ∧ ((wi w 0 31 4) = 9 → wp_X3_begin x1 (1 : Int32) (10 : Int32) w (fun r227 w227 => zb r227 ∧ Q r227 w227)) ∧ (¬ (wi w 0 31 4) = 0 → ¬ (wi w 0 31 4) = 1 → ¬ (wi w 0 31 4) = 2 → ¬ (wi w 0 31 4) = 3 → ¬ (wi w 0 31 4) = 4 → ¬ (wi w 0 31 4) = 5 → ¬ (wi w 0 31 4) = 6 → ¬ (wi w 0 31 4) = 7 → ¬ (wi w 0 31 4) = 8 → ¬ (wi w 0 31 4) = 9 → ((¬ x1 = (59 : Int32) → wp_X3_goOn x1 (99 : Int32) w (fun r249 w249 => zb r249 ∧ Q r249 w249)) ∧ (x1 = (59 : Int32) → wp_X3_comeTo (0 : Int32) w (fun r239 w239 => zb r239 ∧ Q r239 w239)))))
theorem ok_X3_take_J142 {G : Gt} {M : Mx} {Qf : State → Prop} {w : Wd} {Q : Int32 → Wd → Prop} (hC : cx G D_X3_take M) (he : en G M (qi Q) Qf) (h : wp_X3_take_J142 w Q) : jq G D_X3_take M Qf 142 [] [] w := by
  unfold wp_X3_take_J142 at h
  refine jq_iconst (v := (0 : Int32)) dX3_take_142 hC (by decide) ?_
  obtain ⟨bz, h⟩ := h
  exact jq_zret dX3_take_143 hC he rfl bz ⟨_, rfl, h⟩
theorem ok_X3_take_J167 {G : Gt} {M : Mx} {Qf : State → Prop} {w : Wd} {Q : Int32 → Wd → Prop} (hC : cx G D_X3_take M) (he : en G M (qi Q) Qf) (h : wp_X3_take_J167 w Q) : jq G D_X3_take M Qf 167 [] [] w := by
  unfold wp_X3_take_J167 at h
  refine jq_iconst (v := (0 : Int32)) dX3_take_167 hC (by decide) ?_
  obtain ⟨bz, h⟩ := h
  exact jq_zret dX3_take_168 hC he rfl bz ⟨_, rfl, h⟩
theorem ok_X3_take {G : Gt} {M : Mx} {Qf : State → Prop} {x1 : Int32} {w : Wd} {Q : Int32 → Wd → Prop} (hC : cx G D_X3_take M) (he : en G M (qi Q) Qf) (h : wp_X3_take x1 w Q) : jq G D_X3_take M Qf 0 [(0, .ref (aD G 0 31)), (1, .int x1)] [] w := by
  unfold wp_X3_take at h
  refine jq_aload_n (k0 := 0) dX3_take_0 hC rfl rfl ?_
  refine jq_get (k0 := 4) (n := 0) (o := 31) dX3_take_1 hC (cl_0 (by decide)) rfl rfl hi_X3_take_X3 (by decide) hl_X3_take_11 rfl rfl ?_
  by_cases cd : ((wi w 0 31 4)).toInt < 0 ∨ 9 < ((wi w 0 31 4)).toInt
  · refine jq_tout (tgt := 231) dX3_take_4 hC cd (by decide) ?_
    have h := h.2.2.2.2.2.2.2.2.2.2 (fun e => by rw [e] at cd; revert cd; decide) (fun e => by rw [e] at cd; revert cd; decide) (fun e => by rw [e] at cd; revert cd; decide) (fun e => by rw [e] at cd; revert cd; decide) (fun e => by rw [e] at cd; revert cd; decide) (fun e => by rw [e] at cd; revert cd; decide) (fun e => by rw [e] at cd; revert cd; decide) (fun e => by rw [e] at cd; revert cd; decide) (fun e => by rw [e] at cd; revert cd; decide) (fun e => by rw [e] at cd; revert cd; decide)
    refine jq_iload_n (k0 := 1) dX3_take_231 hC rfl rfl ?_
    refine jq_bipush (v := (59 : Int32)) dX3_take_232 hC (by decide) ?_
    refine jq_icmp_ne (tgt := 245) dX3_take_234 hC (by decide) (fun c234 => ?_) (fun c234 => ?_)
    · have h := h.1 c234
      refine jq_aload_n (k0 := 0) dX3_take_245 hC rfl rfl ?_
      refine jq_iload_n (k0 := 1) dX3_take_246 hC rfl rfl ?_
      refine jq_bipush (v := (99 : Int32)) dX3_take_247 hC (by decide) ?_
      refine jq_callV (As := [.int x1, .int (99 : Int32)]) (rest := []) (n := 0) (o := 31) (D' := D_X3_goOn) dX3_take_249 hC (cl_0 (by decide)) rfl rfl rfl (mt_X3_goOn h) gX3_take_X3_goOn rfl ⟨rfl, rfl, Nat.le_of_ble_eq_true rfl, Nat.le_of_ble_eq_true rfl⟩ nm_X3_goOn rfl (Nat.le_of_ble_eq_true rfl) (kI fun r249 w249 h => ?_)
      obtain ⟨bz, h⟩ := h
      exact jq_zret dX3_take_252 hC he rfl bz ⟨_, rfl, h⟩
    · have h := h.2 c234
      refine jq_aload_n (k0 := 0) dX3_take_237 hC rfl rfl ?_
      refine jq_iconst (v := (0 : Int32)) dX3_take_238 hC (by decide) ?_
      refine jq_callV (As := [.int (0 : Int32)]) (rest := []) (n := 0) (o := 31) (D' := D_X3_comeTo) dX3_take_239 hC (cl_0 (by decide)) rfl rfl rfl (mt_X3_comeTo h) gX3_take_X3_comeTo rfl ⟨rfl, rfl, Nat.le_of_ble_eq_true rfl, Nat.le_of_ble_eq_true rfl⟩ nm_X3_comeTo rfl (Nat.le_of_ble_eq_true rfl) (kI fun r239 w239 h => ?_)
      refine jq_goto (tgt := 252) dX3_take_242 hC (by decide) ?_
      obtain ⟨bz, h⟩ := h
      exact jq_zret dX3_take_252 hC he rfl bz ⟨_, rfl, h⟩
  have cs : ((wi w 0 31 4)).toInt = 0 ∨ ((wi w 0 31 4)).toInt = 1 ∨ ((wi w 0 31 4)).toInt = 2 ∨ ((wi w 0 31 4)).toInt = 3 ∨ ((wi w 0 31 4)).toInt = 4 ∨ ((wi w 0 31 4)).toInt = 5 ∨ ((wi w 0 31 4)).toInt = 6 ∨ ((wi w 0 31 4)).toInt = 7 ∨ ((wi w 0 31 4)).toInt = 8 ∨ ((wi w 0 31 4)).toInt = 9 := by omega
  rcases cs with cs | cs | cs | cs | cs | cs | cs | cs | cs | cs
  · refine jq_tin (tgt := 60) (off := 56) dX3_take_4 hC (fun q => cd (Or.inl q)) (fun q => cd (Or.inr q)) (by rw [cs]; rfl) (by decide) ?_
    have h := h.1 (Int32.toInt_inj.mp (cs.trans (by decide)))
    refine jq_iload_n (k0 := 1) dX3_take_60 hC rfl rfl ?_
    refine jq_bipush (v := (109 : Int32)) dX3_take_61 hC (by decide) ?_
    refine jq_icmp_ne (tgt := 74) dX3_take_63 hC (by decide) (fun c63 => ?_) (fun c63 => ?_)
    · have h := h.1 c63
      refine jq_aload_n (k0 := 0) dX3_take_74 hC rfl rfl ?_
      refine jq_iload_n (k0 := 1) dX3_take_75 hC rfl rfl ?_
      refine jq_callV (As := [.int x1]) (rest := []) (n := 0) (o := 31) (D' := D_X3_takeFrom) dX3_take_76 hC (cl_0 (by decide)) rfl rfl rfl (mt_X3_takeFrom h) gX3_take_X3_takeFrom rfl ⟨rfl, rfl, Nat.le_of_ble_eq_true rfl, Nat.le_of_ble_eq_true rfl⟩ nm_X3_takeFrom rfl (Nat.le_of_ble_eq_true rfl) (kI fun r76 w76 h => ?_)
      obtain ⟨bz, h⟩ := h
      exact jq_zret dX3_take_79 hC he rfl bz ⟨_, rfl, h⟩
    · have h := h.2 c63
      refine jq_aload_n (k0 := 0) dX3_take_66 hC rfl rfl ?_
      refine jq_iconst (v := (1 : Int32)) dX3_take_67 hC (by decide) ?_
      refine jq_callV (As := [.int (1 : Int32)]) (rest := []) (n := 0) (o := 31) (D' := D_X3_comeTo) dX3_take_68 hC (cl_0 (by decide)) rfl rfl rfl (mt_X3_comeTo h) gX3_take_X3_comeTo rfl ⟨rfl, rfl, Nat.le_of_ble_eq_true rfl, Nat.le_of_ble_eq_true rfl⟩ nm_X3_comeTo rfl (Nat.le_of_ble_eq_true rfl) (kI fun r68 w68 h => ?_)
      refine jq_goto (tgt := 79) dX3_take_71 hC (by decide) ?_
      obtain ⟨bz, h⟩ := h
      exact jq_zret dX3_take_79 hC he rfl bz ⟨_, rfl, h⟩
  · refine jq_tin (tgt := 80) (off := 76) dX3_take_4 hC (fun q => cd (Or.inl q)) (fun q => cd (Or.inr q)) (by rw [cs]; rfl) (by decide) ?_
    have h := h.2.1 (Int32.toInt_inj.mp (cs.trans (by decide)))
    refine jq_iload_n (k0 := 1) dX3_take_80 hC rfl rfl ?_
    refine jq_bipush (v := (59 : Int32)) dX3_take_81 hC (by decide) ?_
    refine jq_icmp_ne (tgt := 94) dX3_take_83 hC (by decide) (fun c83 => ?_) (fun c83 => ?_)
    · have h := h.1 c83
      refine jq_aload_n (k0 := 0) dX3_take_94 hC rfl rfl ?_
      refine jq_iload_n (k0 := 1) dX3_take_95 hC rfl rfl ?_
      refine jq_iconst (v := (0 : Int32)) dX3_take_96 hC (by decide) ?_
      refine jq_iconst (v := (2 : Int32)) dX3_take_97 hC (by decide) ?_
      refine jq_callV (As := [.int x1, .int (0 : Int32), .int (2 : Int32)]) (rest := []) (n := 0) (o := 31) (D' := D_X3_begin) dX3_take_98 hC (cl_0 (by decide)) rfl rfl rfl (mt_X3_begin h) gX3_take_X3_begin rfl ⟨rfl, rfl, Nat.le_of_ble_eq_true rfl, Nat.le_of_ble_eq_true rfl⟩ nm_X3_begin rfl (Nat.le_of_ble_eq_true rfl) (kI fun r98 w98 h => ?_)
      obtain ⟨bz, h⟩ := h
      exact jq_zret dX3_take_101 hC he rfl bz ⟨_, rfl, h⟩
    · have h := h.2 c83
      refine jq_aload_n (k0 := 0) dX3_take_86 hC rfl rfl ?_
      refine jq_iconst (v := (0 : Int32)) dX3_take_87 hC (by decide) ?_
      refine jq_callV (As := [.int (0 : Int32)]) (rest := []) (n := 0) (o := 31) (D' := D_X3_comeTo) dX3_take_88 hC (cl_0 (by decide)) rfl rfl rfl (mt_X3_comeTo h) gX3_take_X3_comeTo rfl ⟨rfl, rfl, Nat.le_of_ble_eq_true rfl, Nat.le_of_ble_eq_true rfl⟩ nm_X3_comeTo rfl (Nat.le_of_ble_eq_true rfl) (kI fun r88 w88 h => ?_)
      refine jq_goto (tgt := 101) dX3_take_91 hC (by decide) ?_
      obtain ⟨bz, h⟩ := h
      exact jq_zret dX3_take_101 hC he rfl bz ⟨_, rfl, h⟩
  · refine jq_tin (tgt := 102) (off := 98) dX3_take_4 hC (fun q => cd (Or.inl q)) (fun q => cd (Or.inr q)) (by rw [cs]; rfl) (by decide) ?_
    have h := h.2.2.1 (Int32.toInt_inj.mp (cs.trans (by decide)))
    refine jq_iload_n (k0 := 1) dX3_take_102 hC rfl rfl ?_
    refine jq_bipush (v := (59 : Int32)) dX3_take_103 hC (by decide) ?_
    refine jq_icmp_ne (tgt := 116) dX3_take_105 hC (by decide) (fun c105 => ?_) (fun c105 => ?_)
    · have h := h.1 c105
      refine jq_aload_n (k0 := 0) dX3_take_116 hC rfl rfl ?_
      refine jq_iload_n (k0 := 1) dX3_take_117 hC rfl rfl ?_
      refine jq_ldc (v := (99999 : Int32)) dX3_take_118 hC (by decide +kernel) ?_
      refine jq_callV (As := [.int x1, .int (99999 : Int32)]) (rest := []) (n := 0) (o := 31) (D' := D_X3_goOn) dX3_take_120 hC (cl_0 (by decide)) rfl rfl rfl (mt_X3_goOn h) gX3_take_X3_goOn rfl ⟨rfl, rfl, Nat.le_of_ble_eq_true rfl, Nat.le_of_ble_eq_true rfl⟩ nm_X3_goOn rfl (Nat.le_of_ble_eq_true rfl) (kI fun r120 w120 h => ?_)
      obtain ⟨bz, h⟩ := h
      exact jq_zret dX3_take_123 hC he rfl bz ⟨_, rfl, h⟩
    · have h := h.2 c105
      refine jq_aload_n (k0 := 0) dX3_take_108 hC rfl rfl ?_
      refine jq_iconst (v := (0 : Int32)) dX3_take_109 hC (by decide) ?_
      refine jq_callV (As := [.int (0 : Int32)]) (rest := []) (n := 0) (o := 31) (D' := D_X3_comeTo) dX3_take_110 hC (cl_0 (by decide)) rfl rfl rfl (mt_X3_comeTo h) gX3_take_X3_comeTo rfl ⟨rfl, rfl, Nat.le_of_ble_eq_true rfl, Nat.le_of_ble_eq_true rfl⟩ nm_X3_comeTo rfl (Nat.le_of_ble_eq_true rfl) (kI fun r110 w110 h => ?_)
      refine jq_goto (tgt := 123) dX3_take_113 hC (by decide) ?_
      obtain ⟨bz, h⟩ := h
      exact jq_zret dX3_take_123 hC he rfl bz ⟨_, rfl, h⟩
  · refine jq_tin (tgt := 124) (off := 120) dX3_take_4 hC (fun q => cd (Or.inl q)) (fun q => cd (Or.inr q)) (by rw [cs]; rfl) (by decide) ?_
    have h := h.2.2.2.1 (Int32.toInt_inj.mp (cs.trans (by decide)))
    refine jq_iload_n (k0 := 1) dX3_take_124 hC rfl rfl ?_
    refine jq_bipush (v := (45 : Int32)) dX3_take_125 hC (by decide) ?_
    refine jq_icmp_ne (tgt := 142) dX3_take_127 hC (by decide) (fun c127 => ?_) (fun c127 => ?_)
    · have h := h.1 c127
      refine jq_less (L' := []) [] rfl ?_
      exact ok_X3_take_J142 hC he h
    · have h := h.2 c127
      refine jq_aload_n (k0 := 0) dX3_take_130 hC rfl rfl ?_
      refine jq_iconst (v := (4 : Int32)) dX3_take_131 hC (by decide) ?_
      refine jq_callV (As := [.int (4 : Int32)]) (rest := []) (n := 0) (o := 31) (D' := D_X3_comeTo) dX3_take_132 hC (cl_0 (by decide)) rfl rfl rfl (mt_X3_comeTo h) gX3_take_X3_comeTo rfl ⟨rfl, rfl, Nat.le_of_ble_eq_true rfl, Nat.le_of_ble_eq_true rfl⟩ nm_X3_comeTo rfl (Nat.le_of_ble_eq_true rfl) (kI fun r132 w132 h => ?_)
      refine jq_if_eq (tgt := 142) dX3_take_135 hC (by decide) (fun c135 => ?_) (fun c135 => ?_)
      · have h := h.1 c135
        refine jq_less (L' := []) [] rfl ?_
        exact ok_X3_take_J142 hC he h
      · have h := h.2 c135
        refine jq_iconst (v := (1 : Int32)) dX3_take_138 hC (by decide) ?_
        refine jq_goto (tgt := 143) dX3_take_139 hC (by decide) ?_
        obtain ⟨bz, h⟩ := h
        exact jq_zret dX3_take_143 hC he rfl bz ⟨_, rfl, h⟩
  · refine jq_tin (tgt := 144) (off := 140) dX3_take_4 hC (fun q => cd (Or.inl q)) (fun q => cd (Or.inr q)) (by rw [cs]; rfl) (by decide) ?_
    have h := h.2.2.2.2.1 (Int32.toInt_inj.mp (cs.trans (by decide)))
    refine jq_aload_n (k0 := 0) dX3_take_144 hC rfl rfl ?_
    refine jq_iload_n (k0 := 1) dX3_take_145 hC rfl rfl ?_
    refine jq_callV (As := [.int x1]) (rest := []) (n := 0) (o := 31) (D' := D_X3_takeTo) dX3_take_146 hC (cl_0 (by decide)) rfl rfl rfl (mt_X3_takeTo h) gX3_take_X3_takeTo rfl ⟨rfl, rfl, Nat.le_of_ble_eq_true rfl, Nat.le_of_ble_eq_true rfl⟩ nm_X3_takeTo rfl (Nat.le_of_ble_eq_true rfl) (kI fun r146 w146 h => ?_)
    obtain ⟨bz, h⟩ := h
    exact jq_zret dX3_take_149 hC he rfl bz ⟨_, rfl, h⟩
  · refine jq_tin (tgt := 150) (off := 146) dX3_take_4 hC (fun q => cd (Or.inl q)) (fun q => cd (Or.inr q)) (by rw [cs]; rfl) (by decide) ?_
    have h := h.2.2.2.2.2.1 (Int32.toInt_inj.mp (cs.trans (by decide)))
    refine jq_iload_n (k0 := 1) dX3_take_150 hC rfl rfl ?_
    refine jq_bipush (v := (58 : Int32)) dX3_take_151 hC (by decide) ?_
    refine jq_icmp_ne (tgt := 167) dX3_take_153 hC (by decide) (fun c153 => ?_) (fun c153 => ?_)
    · have h := h.1 c153
      refine jq_less (L' := []) [] rfl ?_
      exact ok_X3_take_J167 hC he h
    · have h := h.2 c153
      refine jq_aload_n (k0 := 0) dX3_take_156 hC rfl rfl ?_
      refine jq_callV (As := []) (rest := []) (n := 0) (o := 31) (D' := D_X3_takeColon) dX3_take_157 hC (cl_0 (by decide)) rfl rfl rfl (mt_X3_takeColon h) gX3_take_X3_takeColon rfl ⟨rfl, rfl, Nat.le_of_ble_eq_true rfl, Nat.le_of_ble_eq_true rfl⟩ nm_X3_takeColon rfl (Nat.le_of_ble_eq_true rfl) (kI fun r157 w157 h => ?_)
      refine jq_if_eq (tgt := 167) dX3_take_160 hC (by decide) (fun c160 => ?_) (fun c160 => ?_)
      · have h := h.1 c160
        refine jq_less (L' := []) [] rfl ?_
        exact ok_X3_take_J167 hC he h
      · have h := h.2 c160
        refine jq_iconst (v := (1 : Int32)) dX3_take_163 hC (by decide) ?_
        refine jq_goto (tgt := 168) dX3_take_164 hC (by decide) ?_
        obtain ⟨bz, h⟩ := h
        exact jq_zret dX3_take_168 hC he rfl bz ⟨_, rfl, h⟩
  · refine jq_tin (tgt := 169) (off := 165) dX3_take_4 hC (fun q => cd (Or.inl q)) (fun q => cd (Or.inr q)) (by rw [cs]; rfl) (by decide) ?_
    have h := h.2.2.2.2.2.2.1 (Int32.toInt_inj.mp (cs.trans (by decide)))
    refine jq_iload_n (k0 := 1) dX3_take_169 hC rfl rfl ?_
    refine jq_bipush (v := (45 : Int32)) dX3_take_170 hC (by decide) ?_
    refine jq_icmp_ne (tgt := 182) dX3_take_172 hC (by decide) (fun c172 => ?_) (fun c172 => ?_)
    · have h := h.1 c172
      refine jq_aload_n (k0 := 0) dX3_take_182 hC rfl rfl ?_
      refine jq_iload_n (k0 := 1) dX3_take_183 hC rfl rfl ?_
      refine jq_iconst (v := (0 : Int32)) dX3_take_184 hC (by decide) ?_
      refine jq_bipush (v := (8 : Int32)) dX3_take_185 hC (by decide) ?_
      refine jq_callV (As := [.int x1, .int (0 : Int32), .int (8 : Int32)]) (rest := []) (n := 0) (o := 31) (D' := D_X3_begin) dX3_take_187 hC (cl_0 (by decide)) rfl rfl rfl (mt_X3_begin h) gX3_take_X3_begin rfl ⟨rfl, rfl, Nat.le_of_ble_eq_true rfl, Nat.le_of_ble_eq_true rfl⟩ nm_X3_begin rfl (Nat.le_of_ble_eq_true rfl) (kI fun r187 w187 h => ?_)
      obtain ⟨bz, h⟩ := h
      exact jq_zret dX3_take_190 hC he rfl bz ⟨_, rfl, h⟩
    · have h := h.2 c172
      refine jq_aload_n (k0 := 0) dX3_take_175 hC rfl rfl ?_
      refine jq_callV (As := []) (rest := []) (n := 0) (o := 31) (D' := D_X3_takeSign) dX3_take_176 hC (cl_0 (by decide)) rfl rfl rfl (mt_X3_takeSign h) gX3_take_X3_takeSign rfl ⟨rfl, rfl, Nat.le_of_ble_eq_true rfl, Nat.le_of_ble_eq_true rfl⟩ nm_X3_takeSign rfl (Nat.le_of_ble_eq_true rfl) (kI fun r176 w176 h => ?_)
      refine jq_goto (tgt := 190) dX3_take_179 hC (by decide) ?_
      obtain ⟨bz, h⟩ := h
      exact jq_zret dX3_take_190 hC he rfl bz ⟨_, rfl, h⟩
  · refine jq_tin (tgt := 191) (off := 187) dX3_take_4 hC (fun q => cd (Or.inl q)) (fun q => cd (Or.inr q)) (by rw [cs]; rfl) (by decide) ?_
    have h := h.2.2.2.2.2.2.2.1 (Int32.toInt_inj.mp (cs.trans (by decide)))
    refine jq_aload_n (k0 := 0) dX3_take_191 hC rfl rfl ?_
    refine jq_iload_n (k0 := 1) dX3_take_192 hC rfl rfl ?_
    refine jq_iconst (v := (0 : Int32)) dX3_take_193 hC (by decide) ?_
    refine jq_bipush (v := (8 : Int32)) dX3_take_194 hC (by decide) ?_
    refine jq_callV (As := [.int x1, .int (0 : Int32), .int (8 : Int32)]) (rest := []) (n := 0) (o := 31) (D' := D_X3_begin) dX3_take_196 hC (cl_0 (by decide)) rfl rfl rfl (mt_X3_begin h) gX3_take_X3_begin rfl ⟨rfl, rfl, Nat.le_of_ble_eq_true rfl, Nat.le_of_ble_eq_true rfl⟩ nm_X3_begin rfl (Nat.le_of_ble_eq_true rfl) (kI fun r196 w196 h => ?_)
    obtain ⟨bz, h⟩ := h
    exact jq_zret dX3_take_199 hC he rfl bz ⟨_, rfl, h⟩
  · refine jq_tin (tgt := 200) (off := 196) dX3_take_4 hC (fun q => cd (Or.inl q)) (fun q => cd (Or.inr q)) (by rw [cs]; rfl) (by decide) ?_
    have h := h.2.2.2.2.2.2.2.2.1 (Int32.toInt_inj.mp (cs.trans (by decide)))
    refine jq_iload_n (k0 := 1) dX3_take_200 hC rfl rfl ?_
    refine jq_bipush (v := (47 : Int32)) dX3_take_201 hC (by decide) ?_
    refine jq_icmp_ne (tgt := 213) dX3_take_203 hC (by decide) (fun c203 => ?_) (fun c203 => ?_)
    · have h := h.1 c203
      refine jq_aload_n (k0 := 0) dX3_take_213 hC rfl rfl ?_
      refine jq_iload_n (k0 := 1) dX3_take_214 hC rfl rfl ?_
      refine jq_sipush (v := (9999 : Int32)) dX3_take_215 hC (by decide) ?_
      refine jq_callV (As := [.int x1, .int (9999 : Int32)]) (rest := []) (n := 0) (o := 31) (D' := D_X3_goOn) dX3_take_218 hC (cl_0 (by decide)) rfl rfl rfl (mt_X3_goOn h) gX3_take_X3_goOn rfl ⟨rfl, rfl, Nat.le_of_ble_eq_true rfl, Nat.le_of_ble_eq_true rfl⟩ nm_X3_goOn rfl (Nat.le_of_ble_eq_true rfl) (kI fun r218 w218 h => ?_)
      obtain ⟨bz, h⟩ := h
      exact jq_zret dX3_take_221 hC he rfl bz ⟨_, rfl, h⟩
    · have h := h.2 c203
      refine jq_aload_n (k0 := 0) dX3_take_206 hC rfl rfl ?_
      refine jq_callV (As := []) (rest := []) (n := 0) (o := 31) (D' := D_X3_takeSlash) dX3_take_207 hC (cl_0 (by decide)) rfl rfl rfl (mt_X3_takeSlash h) gX3_take_X3_takeSlash rfl ⟨rfl, rfl, Nat.le_of_ble_eq_true rfl, Nat.le_of_ble_eq_true rfl⟩ nm_X3_takeSlash rfl (Nat.le_of_ble_eq_true rfl) (kI fun r207 w207 h => ?_)
      refine jq_goto (tgt := 221) dX3_take_210 hC (by decide) ?_
      obtain ⟨bz, h⟩ := h
      exact jq_zret dX3_take_221 hC he rfl bz ⟨_, rfl, h⟩
  · refine jq_tin (tgt := 222) (off := 218) dX3_take_4 hC (fun q => cd (Or.inl q)) (fun q => cd (Or.inr q)) (by rw [cs]; rfl) (by decide) ?_
    have h := h.2.2.2.2.2.2.2.2.2.1 (Int32.toInt_inj.mp (cs.trans (by decide)))
    refine jq_aload_n (k0 := 0) dX3_take_222 hC rfl rfl ?_
    refine jq_iload_n (k0 := 1) dX3_take_223 hC rfl rfl ?_
    refine jq_iconst (v := (1 : Int32)) dX3_take_224 hC (by decide) ?_
    refine jq_bipush (v := (10 : Int32)) dX3_take_225 hC (by decide) ?_
    refine jq_callV (As := [.int x1, .int (1 : Int32), .int (10 : Int32)]) (rest := []) (n := 0) (o := 31) (D' := D_X3_begin) dX3_take_227 hC (cl_0 (by decide)) rfl rfl rfl (mt_X3_begin h) gX3_take_X3_begin rfl ⟨rfl, rfl, Nat.le_of_ble_eq_true rfl, Nat.le_of_ble_eq_true rfl⟩ nm_X3_begin rfl (Nat.le_of_ble_eq_true rfl) (kI fun r227 w227 h => ?_)
    obtain ⟨bz, h⟩ := h
    exact jq_zret dX3_take_230 hC he rfl bz ⟨_, rfl, h⟩
theorem mt_X3_take {G : Gt} {x1 : Int32} {w : Wd} {Q : Int32 → Wd → Prop} (h : wp_X3_take x1 w Q) : Mt G D_X3_take [.ref (aD G 0 31), .int x1] w (qi Q) := Mt_of (by decide +kernel) rfl rfl (Nat.le_of_ble_eq_true rfl) (fun M Qf hC he => ok_X3_take hC he h)
/-! X6.put(I)V -/
theorem dX6_put_0 : decode cX6_put 0 = .ok (.aload_n 0, 1) := by decide +kernel
theorem dX6_put_1 : decode cX6_put 1 = .ok (.getfield 15, 3) := by decide +kernel
theorem dX6_put_4 : decode cX6_put 4 = .ok (.bipush 60, 2) := by decide +kernel
theorem dX6_put_6 : decode cX6_put 6 = .ok (.if_icmp .ge 23, 3) := by decide +kernel
theorem dX6_put_9 : decode cX6_put 9 = .ok (.aload_n 0, 1) := by decide +kernel
theorem dX6_put_10 : decode cX6_put 10 = .ok (.getfield 9, 3) := by decide +kernel
theorem dX6_put_13 : decode cX6_put 13 = .ok (.aload_n 0, 1) := by decide +kernel
theorem dX6_put_14 : decode cX6_put 14 = .ok (.getfield 15, 3) := by decide +kernel
theorem dX6_put_17 : decode cX6_put 17 = .ok (.iload_n 1, 1) := by decide +kernel
theorem dX6_put_18 : decode cX6_put 18 = .ok (.iastore, 1) := by decide +kernel
theorem dX6_put_19 : decode cX6_put 19 = .ok (.aload_n 0, 1) := by decide +kernel
theorem dX6_put_20 : decode cX6_put 20 = .ok (.dup, 1) := by decide +kernel
theorem dX6_put_21 : decode cX6_put 21 = .ok (.getfield 15, 3) := by decide +kernel
theorem dX6_put_24 : decode cX6_put 24 = .ok (.iconst 1, 1) := by decide +kernel
theorem dX6_put_25 : decode cX6_put 25 = .ok (.iadd, 1) := by decide +kernel
theorem dX6_put_26 : decode cX6_put 26 = .ok (.putfield 15, 3) := by decide +kernel
theorem dX6_put_29 : decode cX6_put 29 = .ok (.return_, 1) := by decide +kernel
def D_X6_put : Md := (yX6_put, cX6_put, 2, none, wsX6_put, RX6, { frames := 0, cells := 0, slots := 0, locals := 0 })
theorem nm_X6_put : nmD D_X6_put 1 := ⟨rfl, by decide +kernel, by decide +kernel, by decide +kernel⟩
theorem hi_X6_put_X6 : ∀ w ∈ u_ws RX6 TX6 2, w ∈ wsX6_put := by decide +kernel
theorem hl_X6_put_9 : Cond.fieldLink RX6 9 "LevelLoops$Text" "codes" "[I" ∈ wsX6_put := by decide +kernel
theorem hl_X6_put_15 : Cond.fieldLink RX6 15 "LevelLoops$Text" "size" "I" ∈ wsX6_put := by decide +kernel
def wp_X6_put (x1 : Int32) (w : Wd) (Q : Wd → Prop) : Prop :=
  (((60 : Int32) ≤ (wi w 0 29 0) → Q w) ∧ (¬ (60 : Int32) ≤ (wi w 0 29 0) → vp_in (wi w 0 29 0) 60 ∧ (∀ w18 : Wd, w18 = (sI w 0 30 (wi w 0 29 0).toNatClampNeg x1) → (∀ w26 : Wd, w26 = (sI w18 0 29 0 ((wi w18 0 29 0) + (1 : Int32))) → Q w26))))
theorem ok_X6_put {G : Gt} {M : Mx} {Qf : State → Prop} {x1 : Int32} {w : Wd} {Q : Wd → Prop} (hC : cx G D_X6_put M) (he : en G M (qv Q) Qf) (h : wp_X6_put x1 w Q) : jq G D_X6_put M Qf 0 [(0, .ref (aD G 0 29)), (1, .int x1)] [] w := by
  unfold wp_X6_put at h
  refine jq_aload_n (k0 := 0) dX6_put_0 hC rfl rfl ?_
  refine jq_get (k0 := 0) (n := 0) (o := 29) dX6_put_1 hC (cl_0 (by decide)) rfl rfl hi_X6_put_X6 (by decide) hl_X6_put_15 rfl rfl ?_
  refine jq_bipush (v := (60 : Int32)) dX6_put_4 hC (by decide) ?_
  refine jq_icmp_ge (tgt := 29) dX6_put_6 hC (by decide) (fun c6 => ?_) (fun c6 => ?_)
  · have h := h.1 c6
    exact jq_vret dX6_put_29 hC he rfl ⟨rfl, h⟩
  · have h := h.2 c6
    refine jq_aload_n (k0 := 0) dX6_put_9 hC rfl rfl ?_
    refine jq_get (k0 := 1) (n := 0) (o := 29) dX6_put_10 hC (cl_0 (by decide)) rfl rfl hi_X6_put_X6 (by decide) hl_X6_put_9 rfl rfl ?_
    refine jq_aload_n (k0 := 0) dX6_put_13 hC rfl rfl ?_
    refine jq_get (k0 := 0) (n := 0) (o := 29) dX6_put_14 hC (cl_0 (by decide)) rfl rfl hi_X6_put_X6 (by decide) hl_X6_put_15 rfl rfl ?_
    refine jq_iload_n (k0 := 1) dX6_put_17 hC rfl rfl ?_
    obtain ⟨b18, h⟩ := h
    refine jq_iast (n := 0) (o := 30) (j := (wi w 0 29 0).toNatClampNeg) dX6_put_18 hC (cl_0 (by decide)) (fun _ => rfl) b18 rfl ?_
    refine jq_w (fun w18 e18 => ?_)
    have h := h w18 e18
    refine jq_aload_n (k0 := 0) dX6_put_19 hC rfl rfl ?_
    refine jq_dup dX6_put_20 hC rfl ?_
    refine jq_get (k0 := 0) (n := 0) (o := 29) dX6_put_21 hC (cl_0 (by decide)) rfl rfl hi_X6_put_X6 (by decide) hl_X6_put_15 rfl rfl ?_
    refine jq_iconst (v := (1 : Int32)) dX6_put_24 hC (by decide) ?_
    refine jq_iadd dX6_put_25 hC ?_
    refine jq_put (k0 := 0) (n := 0) (o := 29) (ty := .int) (w' := (sI w18 0 29 0 ((wi w18 0 29 0) + (1 : Int32)))) dX6_put_26 hC (cl_0 (by decide)) rfl rfl hi_X6_put_X6 tyX6 tyX6_ok nmX6 (by decide) hl_X6_put_15 rfl rfl (by decide +kernel) rfl rfl (Nat.le_of_ble_eq_true rfl) (e_29_0 G _ _ _) (fun c _ hne => ent_sA c hne) ?_
    refine jq_w (fun w26 e26 => ?_)
    have h := h w26 e26
    exact jq_vret dX6_put_29 hC he rfl ⟨rfl, h⟩
theorem mt_X6_put {G : Gt} {x1 : Int32} {w : Wd} {Q : Wd → Prop} (h : wp_X6_put x1 w Q) : Mt G D_X6_put [.ref (aD G 0 29), .int x1] w (qv Q) := Mt_of (by decide +kernel) rfl rfl (Nat.le_of_ble_eq_true rfl) (fun M Qf hC he => ok_X6_put hC he h)
