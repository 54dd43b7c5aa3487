/-! X8.isIn(II)Z -/
theorem dX8_isIn_0 : decode cX8_isIn 0 = .ok (.iload_n 0, 1) := by decide +kernel
theorem dX8_isIn_1 : decode cX8_isIn 1 = .ok (.iload_n 1, 1) := by decide +kernel
theorem dX8_isIn_2 : decode cX8_isIn 2 = .ok (.ishr, 1) := by decide +kernel
theorem dX8_isIn_3 : decode cX8_isIn 3 = .ok (.iconst 1, 1) := by decide +kernel
theorem dX8_isIn_4 : decode cX8_isIn 4 = .ok (.iand, 1) := by decide +kernel
theorem dX8_isIn_5 : decode cX8_isIn 5 = .ok (.ifCond .eq 7, 3) := by decide +kernel
theorem dX8_isIn_8 : decode cX8_isIn 8 = .ok (.iconst 1, 1) := by decide +kernel
theorem dX8_isIn_9 : decode cX8_isIn 9 = .ok (.goto 4, 3) := by decide +kernel
theorem dX8_isIn_12 : decode cX8_isIn 12 = .ok (.iconst 0, 1) := by decide +kernel
theorem dX8_isIn_13 : decode cX8_isIn 13 = .ok (.ireturn, 1) := by decide +kernel
def D_X8_isIn : Md := (yX8_isIn, cX8_isIn, 2, (some .boolean), wsX8_isIn, RX8, { frames := 0, cells := 0, slots := 0, locals := 0 })
theorem nm_X8_isIn : nmD D_X8_isIn 2 := ⟨rfl, by decide +kernel, by decide +kernel, by decide +kernel⟩
def wp_X8_isIn (x0 : Int32) (x1 : Int32) (Q : Int32 → Prop) : Prop :=
  ((((x0 >>> (x1 &&& 31)) &&& (1 : Int32)) = 0 → zb (0 : Int32) ∧ Q (0 : Int32)) ∧ (¬ ((x0 >>> (x1 &&& 31)) &&& (1 : Int32)) = 0 → zb (1 : Int32) ∧ Q (1 : Int32)))
theorem ok_X8_isIn {G : Gt} {M : Mx} {Qf : State → Prop} {x0 : Int32} {x1 : Int32} {w : Wd} {Q : Int32 → Prop} (hC : cx G D_X8_isIn M) (he : en G M (qip w Q) Qf) (h : wp_X8_isIn x0 x1 Q) : jq G D_X8_isIn M Qf 0 [(0, .int x0), (1, .int x1)] [] w := by
  unfold wp_X8_isIn at h
  refine jq_iload_n (k0 := 0) dX8_isIn_0 hC rfl rfl ?_
  refine jq_iload_n (k0 := 1) dX8_isIn_1 hC rfl rfl ?_
  refine jq_ishr dX8_isIn_2 hC ?_
  refine jq_iconst (v := (1 : Int32)) dX8_isIn_3 hC (by decide) ?_
  refine jq_iand dX8_isIn_4 hC ?_
  refine jq_if_eq (tgt := 12) dX8_isIn_5 hC (by decide) (fun c5 => ?_) (fun c5 => ?_)
  · have h := h.1 c5
    refine jq_iconst (v := (0 : Int32)) dX8_isIn_12 hC (by decide) ?_
    obtain ⟨bz, h⟩ := h
    exact jq_zret dX8_isIn_13 hC he rfl bz ⟨_, rfl, rfl, h⟩
  · have h := h.2 c5
    refine jq_iconst (v := (1 : Int32)) dX8_isIn_8 hC (by decide) ?_
    refine jq_goto (tgt := 13) dX8_isIn_9 hC (by decide) ?_
    obtain ⟨bz, h⟩ := h
    exact jq_zret dX8_isIn_13 hC he rfl bz ⟨_, rfl, rfl, h⟩
theorem mt_X8_isIn {G : Gt} {x0 : Int32} {x1 : Int32} {w : Wd} {Q : Int32 → Prop} (h : wp_X8_isIn x0 x1 Q) : Mt G D_X8_isIn [.int x0, .int x1] w (qip w Q) := Mt_of (by decide +kernel) rfl rfl (Nat.le_of_ble_eq_true rfl) (fun M Qf hC he => ok_X8_isIn hC he h)
/-! X5.copy(LLevelLoops$Survey;)V -/
theorem dX5_copy_0 : decode cX5_copy 0 = .ok (.aload_n 0, 1) := by decide +kernel
theorem dX5_copy_1 : decode cX5_copy 1 = .ok (.aload_n 1, 1) := by decide +kernel
theorem dX5_copy_2 : decode cX5_copy 2 = .ok (.getfield 30, 3) := by decide +kernel
theorem dX5_copy_5 : decode cX5_copy 5 = .ok (.putfield 30, 3) := by decide +kernel
theorem dX5_copy_8 : decode cX5_copy 8 = .ok (.aload_n 0, 1) := by decide +kernel
theorem dX5_copy_9 : decode cX5_copy 9 = .ok (.aload_n 1, 1) := by decide +kernel
theorem dX5_copy_10 : decode cX5_copy 10 = .ok (.getfield 34, 3) := by decide +kernel
theorem dX5_copy_13 : decode cX5_copy 13 = .ok (.putfield 34, 3) := by decide +kernel
theorem dX5_copy_16 : decode cX5_copy 16 = .ok (.aload_n 1, 1) := by decide +kernel
theorem dX5_copy_17 : decode cX5_copy 17 = .ok (.getfield 9, 3) := by decide +kernel
theorem dX5_copy_20 : decode cX5_copy 20 = .ok (.iconst 0, 1) := by decide +kernel
theorem dX5_copy_21 : decode cX5_copy 21 = .ok (.aload_n 0, 1) := by decide +kernel
theorem dX5_copy_22 : decode cX5_copy 22 = .ok (.getfield 9, 3) := by decide +kernel
theorem dX5_copy_25 : decode cX5_copy 25 = .ok (.iconst 0, 1) := by decide +kernel
theorem dX5_copy_26 : decode cX5_copy 26 = .ok (.bipush 10, 2) := by decide +kernel
theorem dX5_copy_28 : decode cX5_copy 28 = .ok (.invokestatic 37, 3) := by decide +kernel
theorem dX5_copy_31 : decode cX5_copy 31 = .ok (.aload_n 1, 1) := by decide +kernel
theorem dX5_copy_32 : decode cX5_copy 32 = .ok (.getfield 15, 3) := by decide +kernel
theorem dX5_copy_35 : decode cX5_copy 35 = .ok (.iconst 0, 1) := by decide +kernel
theorem dX5_copy_36 : decode cX5_copy 36 = .ok (.aload_n 0, 1) := by decide +kernel
theorem dX5_copy_37 : decode cX5_copy 37 = .ok (.getfield 15, 3) := by decide +kernel
theorem dX5_copy_40 : decode cX5_copy 40 = .ok (.iconst 0, 1) := by decide +kernel
theorem dX5_copy_41 : decode cX5_copy 41 = .ok (.bipush 20, 2) := by decide +kernel
theorem dX5_copy_43 : decode cX5_copy 43 = .ok (.invokestatic 37, 3) := by decide +kernel
theorem dX5_copy_46 : decode cX5_copy 46 = .ok (.aload_n 1, 1) := by decide +kernel
theorem dX5_copy_47 : decode cX5_copy 47 = .ok (.getfield 18, 3) := by decide +kernel
theorem dX5_copy_50 : decode cX5_copy 50 = .ok (.iconst 0, 1) := by decide +kernel
theorem dX5_copy_51 : decode cX5_copy 51 = .ok (.aload_n 0, 1) := by decide +kernel
theorem dX5_copy_52 : decode cX5_copy 52 = .ok (.getfield 18, 3) := by decide +kernel
theorem dX5_copy_55 : decode cX5_copy 55 = .ok (.iconst 0, 1) := by decide +kernel
theorem dX5_copy_56 : decode cX5_copy 56 = .ok (.bipush 20, 2) := by decide +kernel
theorem dX5_copy_58 : decode cX5_copy 58 = .ok (.invokestatic 37, 3) := by decide +kernel
theorem dX5_copy_61 : decode cX5_copy 61 = .ok (.aload_n 1, 1) := by decide +kernel
theorem dX5_copy_62 : decode cX5_copy 62 = .ok (.getfield 21, 3) := by decide +kernel
theorem dX5_copy_65 : decode cX5_copy 65 = .ok (.iconst 0, 1) := by decide +kernel
theorem dX5_copy_66 : decode cX5_copy 66 = .ok (.aload_n 0, 1) := by decide +kernel
theorem dX5_copy_67 : decode cX5_copy 67 = .ok (.getfield 21, 3) := by decide +kernel
theorem dX5_copy_70 : decode cX5_copy 70 = .ok (.iconst 0, 1) := by decide +kernel
theorem dX5_copy_71 : decode cX5_copy 71 = .ok (.bipush 20, 2) := by decide +kernel
theorem dX5_copy_73 : decode cX5_copy 73 = .ok (.invokestatic 37, 3) := by decide +kernel
theorem dX5_copy_76 : decode cX5_copy 76 = .ok (.aload_n 1, 1) := by decide +kernel
theorem dX5_copy_77 : decode cX5_copy 77 = .ok (.getfield 24, 3) := by decide +kernel
theorem dX5_copy_80 : decode cX5_copy 80 = .ok (.iconst 0, 1) := by decide +kernel
theorem dX5_copy_81 : decode cX5_copy 81 = .ok (.aload_n 0, 1) := by decide +kernel
theorem dX5_copy_82 : decode cX5_copy 82 = .ok (.getfield 24, 3) := by decide +kernel
theorem dX5_copy_85 : decode cX5_copy 85 = .ok (.iconst 0, 1) := by decide +kernel
theorem dX5_copy_86 : decode cX5_copy 86 = .ok (.bipush 20, 2) := by decide +kernel
theorem dX5_copy_88 : decode cX5_copy 88 = .ok (.invokestatic 37, 3) := by decide +kernel
theorem dX5_copy_91 : decode cX5_copy 91 = .ok (.aload_n 1, 1) := by decide +kernel
theorem dX5_copy_92 : decode cX5_copy 92 = .ok (.getfield 27, 3) := by decide +kernel
theorem dX5_copy_95 : decode cX5_copy 95 = .ok (.iconst 0, 1) := by decide +kernel
theorem dX5_copy_96 : decode cX5_copy 96 = .ok (.aload_n 0, 1) := by decide +kernel
theorem dX5_copy_97 : decode cX5_copy 97 = .ok (.getfield 27, 3) := by decide +kernel
theorem dX5_copy_100 : decode cX5_copy 100 = .ok (.iconst 0, 1) := by decide +kernel
theorem dX5_copy_101 : decode cX5_copy 101 = .ok (.iconst 3, 1) := by decide +kernel
theorem dX5_copy_102 : decode cX5_copy 102 = .ok (.invokestatic 37, 3) := by decide +kernel
theorem dX5_copy_105 : decode cX5_copy 105 = .ok (.return_, 1) := by decide +kernel
def D_X5_copy : Md := (yX5_copy, cX5_copy, 2, none, wsX5_copy, RX5, { frames := 1, cells := 0, slots := 0, locals := 40 })
theorem nm_X5_copy : nmD D_X5_copy 1 := ⟨rfl, by decide +kernel, by decide +kernel, by decide +kernel⟩
theorem hi_X5_copy_X5 : ∀ w ∈ u_ws RX5 TX5 8, w ∈ wsX5_copy := by decide +kernel
theorem hl_X5_copy_9 : Cond.fieldLink RX5 9 "LevelLoops$Survey" "known" "[I" ∈ wsX5_copy := by decide +kernel
theorem hl_X5_copy_15 : Cond.fieldLink RX5 15 "LevelLoops$Survey" "from" "[I" ∈ wsX5_copy := by decide +kernel
theorem hl_X5_copy_18 : Cond.fieldLink RX5 18 "LevelLoops$Survey" "to" "[I" ∈ wsX5_copy := by decide +kernel
theorem hl_X5_copy_21 : Cond.fieldLink RX5 21 "LevelLoops$Survey" "difference" "[I" ∈ wsX5_copy := by decide +kernel
theorem hl_X5_copy_24 : Cond.fieldLink RX5 24 "LevelLoops$Survey" "length" "[I" ∈ wsX5_copy := by decide +kernel
theorem hl_X5_copy_27 : Cond.fieldLink RX5 27 "LevelLoops$Survey" "settings" "[I" ∈ wsX5_copy := by decide +kernel
theorem hl_X5_copy_30 : Cond.fieldLink RX5 30 "LevelLoops$Survey" "marks" "I" ∈ wsX5_copy := by decide +kernel
theorem hl_X5_copy_34 : Cond.fieldLink RX5 34 "LevelLoops$Survey" "legs" "I" ∈ wsX5_copy := by decide +kernel
def wp_X5_copy (n : Nat) (n1 : Nat) (w : Wd) (Q : Wd → Prop) : Prop :=
  (∀ w5 : Wd, w5 = (sI w n 0 0 (wi w n1 0 0)) → (∀ w13 : Wd, w13 = (sI w5 n 0 1 (wi w5 n1 0 1)) → (∀ w28 : Wd, w28 = (sA w13 n 1 (va_cpy (w13.1 n1 1) (w13.1 n 1) 0 0 10)) → (∀ w43 : Wd, w43 = (sA w28 n 2 (va_cpy (w28.1 n1 2) (w28.1 n 2) 0 0 20)) → (∀ w58 : Wd, w58 = (sA w43 n 3 (va_cpy (w43.1 n1 3) (w43.1 n 3) 0 0 20)) → (∀ w73 : Wd, w73 = (sA w58 n 4 (va_cpy (w58.1 n1 4) (w58.1 n 4) 0 0 20)) → (∀ w88 : Wd, w88 = (sA w73 n 5 (va_cpy (w73.1 n1 5) (w73.1 n 5) 0 0 20)) → (∀ w102 : Wd, w102 = (sA w88 n 6 (va_cpy (w88.1 n1 6) (w88.1 n 6) 0 0 3)) → Q w102))))))))
theorem ok_X5_copy {G : Gt} {M : Mx} {Qf : State → Prop} {n : Nat} {n1 : Nat} {w : Wd} {Q : Wd → Prop} (hC : cx G D_X5_copy M) (he : en G M (qv Q) Qf) (hn : n < 8) (hn1 : n1 < 8) (h : wp_X5_copy n n1 w Q) : jq G D_X5_copy M Qf 0 [(0, .ref (aD G n 0)), (1, .ref (aD G n1 0))] [] w := by
  unfold wp_X5_copy at h
  refine jq_aload_n (k0 := 0) dX5_copy_0 hC rfl rfl ?_
  refine jq_aload_n (k0 := 1) dX5_copy_1 hC rfl rfl ?_
  refine jq_get (k0 := 0) (n := n1) (o := 0) dX5_copy_2 hC (cl_S (by omega) (by decide)) rfl rfl hi_X5_copy_X5 (by decide) hl_X5_copy_30 rfl rfl ?_
  refine jq_put (k0 := 0) (n := n) (o := 0) (ty := .int) (w' := (sI w n 0 0 (wi w n1 0 0))) dX5_copy_5 hC (cl_S (by omega) (by decide)) rfl rfl hi_X5_copy_X5 tyX5 tyX5_ok nmX5 (by decide) hl_X5_copy_30 rfl rfl (by decide +kernel) rfl rfl (Nat.le_of_ble_eq_true rfl) (e_0_0 G _ _ _) (fun c _ hne => ent_sA c hne) ?_
  refine jq_w (fun w5 e5 => ?_)
  have h := h w5 e5
  refine jq_aload_n (k0 := 0) dX5_copy_8 hC rfl rfl ?_
  refine jq_aload_n (k0 := 1) dX5_copy_9 hC rfl rfl ?_
  refine jq_get (k0 := 1) (n := n1) (o := 0) dX5_copy_10 hC (cl_S (by omega) (by decide)) rfl rfl hi_X5_copy_X5 (by decide) hl_X5_copy_34 rfl rfl ?_
  refine jq_put (k0 := 1) (n := n) (o := 0) (ty := .int) (w' := (sI w5 n 0 1 (wi w5 n1 0 1))) dX5_copy_13 hC (cl_S (by omega) (by decide)) rfl rfl hi_X5_copy_X5 tyX5 tyX5_ok nmX5 (by decide) hl_X5_copy_34 rfl rfl (by decide +kernel) rfl rfl (Nat.le_of_ble_eq_true rfl) (e_0_1 G _ _ _) (fun c _ hne => ent_sA c hne) ?_
  refine jq_w (fun w13 e13 => ?_)
  have h := h w13 e13
  refine jq_aload_n (k0 := 1) dX5_copy_16 hC rfl rfl ?_
  refine jq_get (k0 := 2) (n := n1) (o := 0) dX5_copy_17 hC (cl_S (by omega) (by decide)) rfl rfl hi_X5_copy_X5 (by decide) hl_X5_copy_9 rfl rfl ?_
  refine jq_iconst (v := (0 : Int32)) dX5_copy_20 hC (by decide) ?_
  refine jq_aload_n (k0 := 0) dX5_copy_21 hC rfl rfl ?_
  refine jq_get (k0 := 2) (n := n) (o := 0) dX5_copy_22 hC (cl_S (by omega) (by decide)) rfl rfl hi_X5_copy_X5 (by decide) hl_X5_copy_9 rfl rfl ?_
  refine jq_iconst (v := (0 : Int32)) dX5_copy_25 hC (by decide) ?_
  refine jq_bipush (v := (10 : Int32)) dX5_copy_26 hC (by decide) ?_
  refine jq_copy (n := n1) (n' := n) (o := 1) (len := 10) dX5_copy_28 hC (by decide +kernel) (Nat.le_of_ble_eq_true rfl) (Nat.le_of_ble_eq_true rfl) (cl_S (by omega) (by decide)) (cl_S (by omega) (by decide)) (fun _ _ => rfl) (by decide) (by decide) ?_
  refine jq_w (fun w28 e28 => ?_)
  have h := h w28 e28
  refine jq_aload_n (k0 := 1) dX5_copy_31 hC rfl rfl ?_
  refine jq_get (k0 := 3) (n := n1) (o := 0) dX5_copy_32 hC (cl_S (by omega) (by decide)) rfl rfl hi_X5_copy_X5 (by decide) hl_X5_copy_15 rfl rfl ?_
  refine jq_iconst (v := (0 : Int32)) dX5_copy_35 hC (by decide) ?_
  refine jq_aload_n (k0 := 0) dX5_copy_36 hC rfl rfl ?_
  refine jq_get (k0 := 3) (n := n) (o := 0) dX5_copy_37 hC (cl_S (by omega) (by decide)) rfl rfl hi_X5_copy_X5 (by decide) hl_X5_copy_15 rfl rfl ?_
  refine jq_iconst (v := (0 : Int32)) dX5_copy_40 hC (by decide) ?_
  refine jq_bipush (v := (20 : Int32)) dX5_copy_41 hC (by decide) ?_
  refine jq_copy (n := n1) (n' := n) (o := 2) (len := 20) dX5_copy_43 hC (by decide +kernel) (Nat.le_of_ble_eq_true rfl) (Nat.le_of_ble_eq_true rfl) (cl_S (by omega) (by decide)) (cl_S (by omega) (by decide)) (fun _ _ => rfl) (by decide) (by decide) ?_
  refine jq_w (fun w43 e43 => ?_)
  have h := h w43 e43
  refine jq_aload_n (k0 := 1) dX5_copy_46 hC rfl rfl ?_
  refine jq_get (k0 := 4) (n := n1) (o := 0) dX5_copy_47 hC (cl_S (by omega) (by decide)) rfl rfl hi_X5_copy_X5 (by decide) hl_X5_copy_18 rfl rfl ?_
  refine jq_iconst (v := (0 : Int32)) dX5_copy_50 hC (by decide) ?_
  refine jq_aload_n (k0 := 0) dX5_copy_51 hC rfl rfl ?_
  refine jq_get (k0 := 4) (n := n) (o := 0) dX5_copy_52 hC (cl_S (by omega) (by decide)) rfl rfl hi_X5_copy_X5 (by decide) hl_X5_copy_18 rfl rfl ?_
  refine jq_iconst (v := (0 : Int32)) dX5_copy_55 hC (by decide) ?_
  refine jq_bipush (v := (20 : Int32)) dX5_copy_56 hC (by decide) ?_
  refine jq_copy (n := n1) (n' := n) (o := 3) (len := 20) dX5_copy_58 hC (by decide +kernel) (Nat.le_of_ble_eq_true rfl) (Nat.le_of_ble_eq_true rfl) (cl_S (by omega) (by decide)) (cl_S (by omega) (by decide)) (fun _ _ => rfl) (by decide) (by decide) ?_
  refine jq_w (fun w58 e58 => ?_)
  have h := h w58 e58
  refine jq_aload_n (k0 := 1) dX5_copy_61 hC rfl rfl ?_
  refine jq_get (k0 := 5) (n := n1) (o := 0) dX5_copy_62 hC (cl_S (by omega) (by decide)) rfl rfl hi_X5_copy_X5 (by decide) hl_X5_copy_21 rfl rfl ?_
  refine jq_iconst (v := (0 : Int32)) dX5_copy_65 hC (by decide) ?_
  refine jq_aload_n (k0 := 0) dX5_copy_66 hC rfl rfl ?_
  refine jq_get (k0 := 5) (n := n) (o := 0) dX5_copy_67 hC (cl_S (by omega) (by decide)) rfl rfl hi_X5_copy_X5 (by decide) hl_X5_copy_21 rfl rfl ?_
  refine jq_iconst (v := (0 : Int32)) dX5_copy_70 hC (by decide) ?_
  refine jq_bipush (v := (20 : Int32)) dX5_copy_71 hC (by decide) ?_
  refine jq_copy (n := n1) (n' := n) (o := 4) (len := 20) dX5_copy_73 hC (by decide +kernel) (Nat.le_of_ble_eq_true rfl) (Nat.le_of_ble_eq_true rfl) (cl_S (by omega) (by decide)) (cl_S (by omega) (by decide)) (fun _ _ => rfl) (by decide) (by decide) ?_
  refine jq_w (fun w73 e73 => ?_)
  have h := h w73 e73
  refine jq_aload_n (k0 := 1) dX5_copy_76 hC rfl rfl ?_
  refine jq_get (k0 := 6) (n := n1) (o := 0) dX5_copy_77 hC (cl_S (by omega) (by decide)) rfl rfl hi_X5_copy_X5 (by decide) hl_X5_copy_24 rfl rfl ?_
  refine jq_iconst (v := (0 : Int32)) dX5_copy_80 hC (by decide) ?_
  refine jq_aload_n (k0 := 0) dX5_copy_81 hC rfl rfl ?_
  refine jq_get (k0 := 6) (n := n) (o := 0) dX5_copy_82 hC (cl_S (by omega) (by decide)) rfl rfl hi_X5_copy_X5 (by decide) hl_X5_copy_24 rfl rfl ?_
  refine jq_iconst (v := (0 : Int32)) dX5_copy_85 hC (by decide) ?_
  refine jq_bipush (v := (20 : Int32)) dX5_copy_86 hC (by decide) ?_
  refine jq_copy (n := n1) (n' := n) (o := 5) (len := 20) dX5_copy_88 hC (by decide +kernel) (Nat.le_of_ble_eq_true rfl) (Nat.le_of_ble_eq_true rfl) (cl_S (by omega) (by decide)) (cl_S (by omega) (by decide)) (fun _ _ => rfl) (by decide) (by decide) ?_
  refine jq_w (fun w88 e88 => ?_)
  have h := h w88 e88
  refine jq_aload_n (k0 := 1) dX5_copy_91 hC rfl rfl ?_
  refine jq_get (k0 := 7) (n := n1) (o := 0) dX5_copy_92 hC (cl_S (by omega) (by decide)) rfl rfl hi_X5_copy_X5 (by decide) hl_X5_copy_27 rfl rfl ?_
  refine jq_iconst (v := (0 : Int32)) dX5_copy_95 hC (by decide) ?_
  refine jq_aload_n (k0 := 0) dX5_copy_96 hC rfl rfl ?_
  refine jq_get (k0 := 7) (n := n) (o := 0) dX5_copy_97 hC (cl_S (by omega) (by decide)) rfl rfl hi_X5_copy_X5 (by decide) hl_X5_copy_27 rfl rfl ?_
  refine jq_iconst (v := (0 : Int32)) dX5_copy_100 hC (by decide) ?_
  refine jq_iconst (v := (3 : Int32)) dX5_copy_101 hC (by decide) ?_
  refine jq_copy (n := n1) (n' := n) (o := 6) (len := 3) dX5_copy_102 hC (by decide +kernel) (Nat.le_of_ble_eq_true rfl) (Nat.le_of_ble_eq_true rfl) (cl_S (by omega) (by decide)) (cl_S (by omega) (by decide)) (fun _ _ => rfl) (by decide) (by decide) ?_
  refine jq_w (fun w102 e102 => ?_)
  have h := h w102 e102
  exact jq_vret dX5_copy_105 hC he rfl ⟨rfl, h⟩
theorem mt_X5_copy {G : Gt} {n : Nat} {n1 : Nat} {w : Wd} {Q : Wd → Prop} (hn : n < 8) (hn1 : n1 < 8) (h : wp_X5_copy n n1 w Q) : Mt G D_X5_copy [.ref (aD G n 0), .ref (aD G n1 0)] w (qv Q) := Mt_of (by decide +kernel) rfl rfl (Nat.le_of_ble_eq_true rfl) (fun M Qf hC he => ok_X5_copy hC he hn hn1 h)
/-! X5.lengthOf(I)I -/
theorem dX5_lengthOf_0 : decode cX5_lengthOf 0 = .ok (.iconst 0, 1) := by decide +kernel
theorem dX5_lengthOf_1 : decode cX5_lengthOf 1 = .ok (.istore_n 2, 1) := by decide +kernel
theorem dX5_lengthOf_2 : decode cX5_lengthOf 2 = .ok (.iconst 0, 1) := by decide +kernel
theorem dX5_lengthOf_3 : decode cX5_lengthOf 3 = .ok (.istore_n 3, 1) := by decide +kernel
theorem dX5_lengthOf_4 : decode cX5_lengthOf 4 = .ok (.iload_n 3, 1) := by decide +kernel
theorem dX5_lengthOf_5 : decode cX5_lengthOf 5 = .ok (.aload_n 0, 1) := by decide +kernel
theorem dX5_lengthOf_6 : decode cX5_lengthOf 6 = .ok (.getfield 34, 3) := by decide +kernel
theorem dX5_lengthOf_9 : decode cX5_lengthOf 9 = .ok (.if_icmp .ge 26, 3) := by decide +kernel
theorem dX5_lengthOf_12 : decode cX5_lengthOf 12 = .ok (.iload_n 1, 1) := by decide +kernel
theorem dX5_lengthOf_13 : decode cX5_lengthOf 13 = .ok (.iload_n 3, 1) := by decide +kernel
theorem dX5_lengthOf_14 : decode cX5_lengthOf 14 = .ok (.invokestatic 43, 3) := by decide +kernel
theorem dX5_lengthOf_17 : decode cX5_lengthOf 17 = .ok (.ifCond .eq 12, 3) := by decide +kernel
theorem dX5_lengthOf_20 : decode cX5_lengthOf 20 = .ok (.iload_n 2, 1) := by decide +kernel
theorem dX5_lengthOf_21 : decode cX5_lengthOf 21 = .ok (.aload_n 0, 1) := by decide +kernel
theorem dX5_lengthOf_22 : decode cX5_lengthOf 22 = .ok (.getfield 24, 3) := by decide +kernel
theorem dX5_lengthOf_25 : decode cX5_lengthOf 25 = .ok (.iload_n 3, 1) := by decide +kernel
theorem dX5_lengthOf_26 : decode cX5_lengthOf 26 = .ok (.iaload, 1) := by decide +kernel
theorem dX5_lengthOf_27 : decode cX5_lengthOf 27 = .ok (.iadd, 1) := by decide +kernel
theorem dX5_lengthOf_28 : decode cX5_lengthOf 28 = .ok (.istore_n 2, 1) := by decide +kernel
theorem dX5_lengthOf_29 : decode cX5_lengthOf 29 = .ok (.iinc 3 1, 3) := by decide +kernel
theorem dX5_lengthOf_32 : decode cX5_lengthOf 32 = .ok (.goto (-28), 3) := by decide +kernel
theorem dX5_lengthOf_35 : decode cX5_lengthOf 35 = .ok (.iload_n 2, 1) := by decide +kernel
theorem dX5_lengthOf_36 : decode cX5_lengthOf 36 = .ok (.ireturn, 1) := by decide +kernel
set_option maxRecDepth 20000 in
theorem ggX5_lengthOf_X8_isIn : GoodIn wsX5_lengthOf wsX8_isIn := goodIn_r _ [5] (by decide +kernel) (by decide +kernel)
def D_X5_lengthOf : Md := (yX5_lengthOf, cX5_lengthOf, 4, (some .int), wsX5_lengthOf, RX5, { frames := 1, cells := 0, slots := 0, locals := 21 })
theorem nm_X5_lengthOf : nmD D_X5_lengthOf 1 := ⟨rfl, by decide +kernel, by decide +kernel, by decide +kernel⟩
theorem hi_X5_lengthOf_X5 : ∀ w ∈ u_ws RX5 TX5 8, w ∈ wsX5_lengthOf := by decide +kernel
theorem hl_X5_lengthOf_24 : Cond.fieldLink RX5 24 "LevelLoops$Survey" "length" "[I" ∈ wsX5_lengthOf := by decide +kernel
theorem hl_X5_lengthOf_34 : Cond.fieldLink RX5 34 "LevelLoops$Survey" "legs" "I" ∈ wsX5_lengthOf := by decide +kernel
def wp_X5_lengthOf_B4 (n : Nat) (x1 : Int32) (x2 : Int32) (x3 : Int32) (w : Wd) (Q : Int32 → Prop) (K4 : Int32 → Int32 → Prop) : Prop :=
  (((wi w n 0 1) ≤ x3 → Q x2) ∧ (¬ (wi w n 0 1) ≤ x3 → wp_X8_isIn x1 x3 (fun r14 => ((r14 = 0 → K4 x2 (x3 + 1)) ∧ (¬ r14 = 0 → vp_in x3 20 ∧ K4 (x2 + (wi w n 5 x3.toNatClampNeg)) (x3 + 1))))))
def wp_X5_lengthOf_L4 (n : Nat) (x1 : Int32) (x2 : Int32) (x3 : Int32) (w : Wd) (Q : Int32 → Prop) : Prop :=
  ∃ (I : Int32 → Int32 → Prop) (μ : Int32 → Int32 → Nat), I x2 x3 ∧ ∀ (x2 : Int32) (x3 : Int32), I x2 x3 → wp_X5_lengthOf_B4 n x1 x2 x3 w Q (fun x2' x3' => I x2' x3' ∧ μ x2' x3' < μ x2 x3)
def wp_X5_lengthOf (n : Nat) (x1 : Int32) (w : Wd) (Q : Int32 → Prop) : Prop :=
  wp_X5_lengthOf_L4 n x1 (0 : Int32) (0 : Int32) w Q
theorem ok_X5_lengthOf_B4 {G : Gt} {M : Mx} {Qf : State → Prop} {n : Nat} {x1 : Int32} {x2 : Int32} {x3 : Int32} {w : Wd} {Q : Int32 → Prop} {K4 : Int32 → Int32 → Prop} (hC : cx G D_X5_lengthOf M) (he : en G M (qip w Q) Qf) (hn : n < 8) (h : wp_X5_lengthOf_B4 n x1 x2 x3 w Q K4) (hK4 : ∀ (x2 : Int32) (x3 : Int32), K4 x2 x3 → jq G D_X5_lengthOf M Qf 4 [(0, .ref (aD G n 0)), (1, .int x1), (2, .int x2), (3, .int x3)] [] w) : jq G D_X5_lengthOf M Qf 4 [(0, .ref (aD G n 0)), (1, .int x1), (2, .int x2), (3, .int x3)] [] w := by
  unfold wp_X5_lengthOf_B4 at h
  refine jq_iload_n (k0 := 3) dX5_lengthOf_4 hC rfl rfl ?_
  refine jq_aload_n (k0 := 0) dX5_lengthOf_5 hC rfl rfl ?_
  refine jq_get (k0 := 1) (n := n) (o := 0) dX5_lengthOf_6 hC (cl_S (by omega) (by decide)) rfl rfl hi_X5_lengthOf_X5 (by decide) hl_X5_lengthOf_34 rfl rfl ?_
  refine jq_icmp_ge (tgt := 35) dX5_lengthOf_9 hC (by decide) (fun c9 => ?_) (fun c9 => ?_)
  · have h := h.1 c9
    refine jq_iload_n (k0 := 2) dX5_lengthOf_35 hC rfl rfl ?_
    exact jq_iret dX5_lengthOf_36 hC he rfl ⟨_, rfl, rfl, h⟩
  · have h := h.2 c9
    refine jq_iload_n (k0 := 1) dX5_lengthOf_12 hC rfl rfl ?_
    refine jq_iload_n (k0 := 3) dX5_lengthOf_13 hC rfl rfl ?_
    refine jq_callSN (As := [.int x1, .int x3]) (rest := []) (D' := D_X8_isIn) (host := "LevelLoops") dX5_lengthOf_14 hC (mt_X8_isIn h) ggX5_lengthOf_X8_isIn rfl (by decide +kernel) (by decide +kernel) (by decide +kernel) ⟨rfl, rfl, Nat.le_of_ble_eq_true rfl, Nat.le_of_ble_eq_true rfl⟩ nm_X8_isIn rfl (Nat.le_of_ble_eq_true rfl) (kIp fun r14 h => ?_)
    refine jq_if_eq (tgt := 29) dX5_lengthOf_17 hC (by decide) (fun c17 => ?_) (fun c17 => ?_)
    · have h := h.1 c17
      refine jq_iinc (k0 := 3) (v := (x3 + 1)) (L' := [(3, .int (x3 + 1)), (0, .ref (aD G n 0)), (1, .int x1), (2, .int x2)]) dX5_lengthOf_29 hC rfl rfl (by decide) rfl ?_
      refine jq_goto (tgt := 4) dX5_lengthOf_32 hC (by decide) ?_
      exact jq_less (L' := [(0, .ref (aD G n 0)), (1, .int x1), (2, .int x2), (3, .int (x3 + 1))]) [1, 2, 3, 0] rfl (hK4 _ _ h)
    · have h := h.2 c17
      refine jq_iload_n (k0 := 2) dX5_lengthOf_20 hC rfl rfl ?_
      refine jq_aload_n (k0 := 0) dX5_lengthOf_21 hC rfl rfl ?_
      refine jq_get (k0 := 6) (n := n) (o := 0) dX5_lengthOf_22 hC (cl_S (by omega) (by decide)) rfl rfl hi_X5_lengthOf_X5 (by decide) hl_X5_lengthOf_24 rfl rfl ?_
      refine jq_iload_n (k0 := 3) dX5_lengthOf_25 hC rfl rfl ?_
      obtain ⟨b26, h⟩ := h
      refine jq_iald (n := n) (o := 5) (j := x3.toNatClampNeg) dX5_lengthOf_26 hC (cl_S (by omega) (by decide)) rfl b26 rfl ?_
      refine jq_iadd dX5_lengthOf_27 hC ?_
      refine jq_istore_n (L' := [(2, .int (x2 + (wi w n 5 x3.toNatClampNeg))), (0, .ref (aD G n 0)), (1, .int x1), (3, .int x3)]) dX5_lengthOf_28 hC rfl (by decide) rfl ?_
      refine jq_iinc (k0 := 3) (v := (x3 + 1)) (L' := [(3, .int (x3 + 1)), (2, .int (x2 + (wi w n 5 x3.toNatClampNeg))), (0, .ref (aD G n 0)), (1, .int x1)]) dX5_lengthOf_29 hC rfl rfl (by decide) rfl ?_
      refine jq_goto (tgt := 4) dX5_lengthOf_32 hC (by decide) ?_
      exact jq_less (L' := [(0, .ref (aD G n 0)), (1, .int x1), (2, .int (x2 + (wi w n 5 x3.toNatClampNeg))), (3, .int (x3 + 1))]) [2, 3, 1, 0] rfl (hK4 _ _ h)
theorem ok_X5_lengthOf_L4 {G : Gt} {M : Mx} {Qf : State → Prop} {n : Nat} {x1 : Int32} {x2 : Int32} {x3 : Int32} {w : Wd} {Q : Int32 → Prop} (hC : cx G D_X5_lengthOf M) (he : en G M (qip w Q) Qf) (hn : n < 8) (h : wp_X5_lengthOf_L4 n x1 x2 x3 w Q) : jq G D_X5_lengthOf M Qf 4 [(0, .ref (aD G n 0)), (1, .int x1), (2, .int x2), (3, .int x3)] [] w := by
  unfold wp_X5_lengthOf_L4 at h
  obtain ⟨I, μ, h0, hs⟩ := h
  exact lp_ind (σ := Int32 × Int32) (P := fun s => jq G D_X5_lengthOf M Qf 4 [(0, .ref (aD G n 0)), (1, .int x1), (2, .int s.1), (3, .int s.2)] [] w) (fun s => I s.1 s.2) (fun s => μ s.1 s.2) (fun s h1 ih => ok_X5_lengthOf_B4 hC he hn (hs s.1 s.2 h1) (fun x2' x3' h => ih (x2', x3') h.1 h.2)) (x2, x3) h0
theorem ok_X5_lengthOf {G : Gt} {M : Mx} {Qf : State → Prop} {n : Nat} {x1 : Int32} {w : Wd} {Q : Int32 → Prop} (hC : cx G D_X5_lengthOf M) (he : en G M (qip w Q) Qf) (hn : n < 8) (h : wp_X5_lengthOf n x1 w Q) : jq G D_X5_lengthOf M Qf 0 [(0, .ref (aD G n 0)), (1, .int x1)] [] w := by
  unfold wp_X5_lengthOf at h
  refine jq_iconst (v := (0 : Int32)) dX5_lengthOf_0 hC (by decide) ?_
  refine jq_istore_n (L' := [(2, .int (0 : Int32)), (0, .ref (aD G n 0)), (1, .int x1)]) dX5_lengthOf_1 hC rfl (by decide) rfl ?_
  refine jq_iconst (v := (0 : Int32)) dX5_lengthOf_2 hC (by decide) ?_
  refine jq_istore_n (L' := [(3, .int (0 : Int32)), (2, .int (0 : Int32)), (0, .ref (aD G n 0)), (1, .int x1)]) dX5_lengthOf_3 hC rfl (by decide) rfl ?_
  refine jq_less (L' := [(0, .ref (aD G n 0)), (1, .int x1), (2, .int (0 : Int32)), (3, .int (0 : Int32))]) [2, 3, 1, 0] rfl ?_
  exact ok_X5_lengthOf_L4 hC he hn h
theorem mt_X5_lengthOf {G : Gt} {n : Nat} {x1 : Int32} {w : Wd} {Q : Int32 → Prop} (hn : n < 8) (h : wp_X5_lengthOf n x1 w Q) : Mt G D_X5_lengthOf [.ref (aD G n 0), .int x1] w (qip w Q) := Mt_of (by decide +kernel) rfl rfl (Nat.le_of_ble_eq_true rfl) (fun M Qf hC he => ok_X5_lengthOf hC he hn h)
/-! X5.legsAt(I)I -/
theorem dX5_legsAt_0 : decode cX5_legsAt 0 = .ok (.iconst 0, 1) := by decide +kernel
theorem dX5_legsAt_1 : decode cX5_legsAt 1 = .ok (.istore_n 2, 1) := by decide +kernel
theorem dX5_legsAt_2 : decode cX5_legsAt 2 = .ok (.iconst 0, 1) := by decide +kernel
theorem dX5_legsAt_3 : decode cX5_legsAt 3 = .ok (.istore_n 3, 1) := by decide +kernel
theorem dX5_legsAt_4 : decode cX5_legsAt 4 = .ok (.iload_n 3, 1) := by decide +kernel
theorem dX5_legsAt_5 : decode cX5_legsAt 5 = .ok (.aload_n 0, 1) := by decide +kernel
theorem dX5_legsAt_6 : decode cX5_legsAt 6 = .ok (.getfield 34, 3) := by decide +kernel
theorem dX5_legsAt_9 : decode cX5_legsAt 9 = .ok (.if_icmp .ge 32, 3) := by decide +kernel
theorem dX5_legsAt_12 : decode cX5_legsAt 12 = .ok (.aload_n 0, 1) := by decide +kernel
theorem dX5_legsAt_13 : decode cX5_legsAt 13 = .ok (.getfield 15, 3) := by decide +kernel
theorem dX5_legsAt_16 : decode cX5_legsAt 16 = .ok (.iload_n 3, 1) := by decide +kernel
theorem dX5_legsAt_17 : decode cX5_legsAt 17 = .ok (.iaload, 1) := by decide +kernel
theorem dX5_legsAt_18 : decode cX5_legsAt 18 = .ok (.iload_n 1, 1) := by decide +kernel
theorem dX5_legsAt_19 : decode cX5_legsAt 19 = .ok (.if_icmp .eq 13, 3) := by decide +kernel
theorem dX5_legsAt_22 : decode cX5_legsAt 22 = .ok (.aload_n 0, 1) := by decide +kernel
theorem dX5_legsAt_23 : decode cX5_legsAt 23 = .ok (.getfield 18, 3) := by decide +kernel
theorem dX5_legsAt_26 : decode cX5_legsAt 26 = .ok (.iload_n 3, 1) := by decide +kernel
theorem dX5_legsAt_27 : decode cX5_legsAt 27 = .ok (.iaload, 1) := by decide +kernel
theorem dX5_legsAt_28 : decode cX5_legsAt 28 = .ok (.iload_n 1, 1) := by decide +kernel
theorem dX5_legsAt_29 : decode cX5_legsAt 29 = .ok (.if_icmp .ne 6, 3) := by decide +kernel
theorem dX5_legsAt_32 : decode cX5_legsAt 32 = .ok (.iinc 2 1, 3) := by decide +kernel
theorem dX5_legsAt_35 : decode cX5_legsAt 35 = .ok (.iinc 3 1, 3) := by decide +kernel
theorem dX5_legsAt_38 : decode cX5_legsAt 38 = .ok (.goto (-34), 3) := by decide +kernel
theorem dX5_legsAt_41 : decode cX5_legsAt 41 = .ok (.iload_n 2, 1) := by decide +kernel
theorem dX5_legsAt_42 : decode cX5_legsAt 42 = .ok (.ireturn, 1) := by decide +kernel
def D_X5_legsAt : Md := (yX5_legsAt, cX5_legsAt, 4, (some .int), wsX5_legsAt, RX5, { frames := 0, cells := 0, slots := 0, locals := 0 })
theorem nm_X5_legsAt : nmD D_X5_legsAt 1 := ⟨rfl, by decide +kernel, by decide +kernel, by decide +kernel⟩
theorem hi_X5_legsAt_X5 : ∀ w ∈ u_ws RX5 TX5 8, w ∈ wsX5_legsAt := by decide +kernel
theorem hl_X5_legsAt_15 : Cond.fieldLink RX5 15 "LevelLoops$Survey" "from" "[I" ∈ wsX5_legsAt := by decide +kernel
theorem hl_X5_legsAt_18 : Cond.fieldLink RX5 18 "LevelLoops$Survey" "to" "[I" ∈ wsX5_legsAt := by decide +kernel
theorem hl_X5_legsAt_34 : Cond.fieldLink RX5 34 "LevelLoops$Survey" "legs" "I" ∈ wsX5_legsAt := by decide +kernel
def wp_X5_legsAt_J32 (n : Nat) (x1 : Int32) (x2 : Int32) (x3 : Int32) (w : Wd) (Q : Int32 → Prop) (K4 : Int32 → Int32 → Prop) : Prop :=
  K4 (x2 + 1) (x3 + 1)
def wp_X5_legsAt_B4 (n : Nat) (x1 : Int32) (x2 : Int32) (x3 : Int32) (w : Wd) (Q : Int32 → Prop) (K4 : Int32 → Int32 → Prop) : Prop :=
  (((wi w n 0 1) ≤ x3 → Q x2) ∧ (¬ (wi w n 0 1) ≤ x3 → vp_in x3 20 ∧ (((wi w n 2 x3.toNatClampNeg) = x1 → wp_X5_legsAt_J32 n x1 x2 x3 w Q K4) ∧ (¬ (wi w n 2 x3.toNatClampNeg) = x1 → vp_in x3 20 ∧ ((¬ (wi w n 3 x3.toNatClampNeg) = x1 → K4 x2 (x3 + 1)) ∧ ((wi w n 3 x3.toNatClampNeg) = x1 → wp_X5_legsAt_J32 n x1 x2 x3 w Q K4))))))
def wp_X5_legsAt_L4 (n : Nat) (x1 : Int32) (x2 : Int32) (x3 : Int32) (w : Wd) (Q : Int32 → Prop) : Prop :=
  ∃ (I : Int32 → Int32 → Prop) (μ : Int32 → Int32 → Nat), I x2 x3 ∧ ∀ (x2 : Int32) (x3 : Int32), I x2 x3 → wp_X5_legsAt_B4 n x1 x2 x3 w Q (fun x2' x3' => I x2' x3' ∧ μ x2' x3' < μ x2 x3)
def wp_X5_legsAt (n : Nat) (x1 : Int32) (w : Wd) (Q : Int32 → Prop) : Prop :=
  wp_X5_legsAt_L4 n x1 (0 : Int32) (0 : Int32) w Q
theorem ok_X5_legsAt_J32 {G : Gt} {M : Mx} {Qf : State → Prop} {n : Nat} {x1 : Int32} {x2 : Int32} {x3 : Int32} {w : Wd} {Q : Int32 → Prop} {K4 : Int32 → Int32 → Prop} (hC : cx G D_X5_legsAt M) (he : en G M (qip w Q) Qf) (hn : n < 8) (h : wp_X5_legsAt_J32 n x1 x2 x3 w Q K4) (hK4 : ∀ (x2 : Int32) (x3 : Int32), K4 x2 x3 → jq G D_X5_legsAt M Qf 4 [(0, .ref (aD G n 0)), (1, .int x1), (2, .int x2), (3, .int x3)] [] w) : jq G D_X5_legsAt M Qf 32 [(0, .ref (aD G n 0)), (1, .int x1), (2, .int x2), (3, .int x3)] [] w := by
  unfold wp_X5_legsAt_J32 at h
  refine jq_iinc (k0 := 2) (v := (x2 + 1)) (L' := [(2, .int (x2 + 1)), (0, .ref (aD G n 0)), (1, .int x1), (3, .int x3)]) dX5_legsAt_32 hC rfl rfl (by decide) rfl ?_
  refine jq_iinc (k0 := 3) (v := (x3 + 1)) (L' := [(3, .int (x3 + 1)), (2, .int (x2 + 1)), (0, .ref (aD G n 0)), (1, .int x1)]) dX5_legsAt_35 hC rfl rfl (by decide) rfl ?_
  refine jq_goto (tgt := 4) dX5_legsAt_38 hC (by decide) ?_
  exact jq_less (L' := [(0, .ref (aD G n 0)), (1, .int x1), (2, .int (x2 + 1)), (3, .int (x3 + 1))]) [2, 3, 1, 0] rfl (hK4 _ _ h)
theorem ok_X5_legsAt_B4 {G : Gt} {M : Mx} {Qf : State → Prop} {n : Nat} {x1 : Int32} {x2 : Int32} {x3 : Int32} {w : Wd} {Q : Int32 → Prop} {K4 : Int32 → Int32 → Prop} (hC : cx G D_X5_legsAt M) (he : en G M (qip w Q) Qf) (hn : n < 8) (h : wp_X5_legsAt_B4 n x1 x2 x3 w Q K4) (hK4 : ∀ (x2 : Int32) (x3 : Int32), K4 x2 x3 → jq G D_X5_legsAt M Qf 4 [(0, .ref (aD G n 0)), (1, .int x1), (2, .int x2), (3, .int x3)] [] w) : jq G D_X5_legsAt M Qf 4 [(0, .ref (aD G n 0)), (1, .int x1), (2, .int x2), (3, .int x3)] [] w := by
  unfold wp_X5_legsAt_B4 at h
  refine jq_iload_n (k0 := 3) dX5_legsAt_4 hC rfl rfl ?_
  refine jq_aload_n (k0 := 0) dX5_legsAt_5 hC rfl rfl ?_
  refine jq_get (k0 := 1) (n := n) (o := 0) dX5_legsAt_6 hC (cl_S (by omega) (by decide)) rfl rfl hi_X5_legsAt_X5 (by decide) hl_X5_legsAt_34 rfl rfl ?_
  refine jq_icmp_ge (tgt := 41) dX5_legsAt_9 hC (by decide) (fun c9 => ?_) (fun c9 => ?_)
  · have h := h.1 c9
    refine jq_iload_n (k0 := 2) dX5_legsAt_41 hC rfl rfl ?_
    exact jq_iret dX5_legsAt_42 hC he rfl ⟨_, rfl, rfl, h⟩
  · have h := h.2 c9
    refine jq_aload_n (k0 := 0) dX5_legsAt_12 hC rfl rfl ?_
    refine jq_get (k0 := 3) (n := n) (o := 0) dX5_legsAt_13 hC (cl_S (by omega) (by decide)) rfl rfl hi_X5_legsAt_X5 (by decide) hl_X5_legsAt_15 rfl rfl ?_
    refine jq_iload_n (k0 := 3) dX5_legsAt_16 hC rfl rfl ?_
    obtain ⟨b17, h⟩ := h
    refine jq_iald (n := n) (o := 2) (j := x3.toNatClampNeg) dX5_legsAt_17 hC (cl_S (by omega) (by decide)) rfl b17 rfl ?_
    refine jq_iload_n (k0 := 1) dX5_legsAt_18 hC rfl rfl ?_
    refine jq_icmp_eq (tgt := 32) dX5_legsAt_19 hC (by decide) (fun c19 => ?_) (fun c19 => ?_)
    · have h := h.1 c19
      refine jq_less (L' := [(0, .ref (aD G n 0)), (1, .int x1), (2, .int x2), (3, .int x3)]) [0, 1, 2, 3] rfl ?_
      exact ok_X5_legsAt_J32 hC he hn h hK4
    · have h := h.2 c19
      refine jq_aload_n (k0 := 0) dX5_legsAt_22 hC rfl rfl ?_
      refine jq_get (k0 := 4) (n := n) (o := 0) dX5_legsAt_23 hC (cl_S (by omega) (by decide)) rfl rfl hi_X5_legsAt_X5 (by decide) hl_X5_legsAt_18 rfl rfl ?_
      refine jq_iload_n (k0 := 3) dX5_legsAt_26 hC rfl rfl ?_
      obtain ⟨b27, h⟩ := h
      refine jq_iald (n := n) (o := 3) (j := x3.toNatClampNeg) dX5_legsAt_27 hC (cl_S (by omega) (by decide)) rfl b27 rfl ?_
      refine jq_iload_n (k0 := 1) dX5_legsAt_28 hC rfl rfl ?_
      refine jq_icmp_ne (tgt := 35) dX5_legsAt_29 hC (by decide) (fun c29 => ?_) (fun c29 => ?_)
      · have h := h.1 c29
        refine jq_iinc (k0 := 3) (v := (x3 + 1)) (L' := [(3, .int (x3 + 1)), (0, .ref (aD G n 0)), (1, .int x1), (2, .int x2)]) dX5_legsAt_35 hC rfl rfl (by decide) rfl ?_
        refine jq_goto (tgt := 4) dX5_legsAt_38 hC (by decide) ?_
        exact jq_less (L' := [(0, .ref (aD G n 0)), (1, .int x1), (2, .int x2), (3, .int (x3 + 1))]) [1, 2, 3, 0] rfl (hK4 _ _ h)
      · have h := h.2 c29
        refine jq_less (L' := [(0, .ref (aD G n 0)), (1, .int x1), (2, .int x2), (3, .int x3)]) [0, 1, 2, 3] rfl ?_
        exact ok_X5_legsAt_J32 hC he hn h hK4
theorem ok_X5_legsAt_L4 {G : Gt} {M : Mx} {Qf : State → Prop} {n : Nat} {x1 : Int32} {x2 : Int32} {x3 : Int32} {w : Wd} {Q : Int32 → Prop} (hC : cx G D_X5_legsAt M) (he : en G M (qip w Q) Qf) (hn : n < 8) (h : wp_X5_legsAt_L4 n x1 x2 x3 w Q) : jq G D_X5_legsAt M Qf 4 [(0, .ref (aD G n 0)), (1, .int x1), (2, .int x2), (3, .int x3)] [] w := by
  unfold wp_X5_legsAt_L4 at h
  obtain ⟨I, μ, h0, hs⟩ := h
  exact lp_ind (σ := Int32 × Int32) (P := fun s => jq G D_X5_legsAt M Qf 4 [(0, .ref (aD G n 0)), (1, .int x1), (2, .int s.1), (3, .int s.2)] [] w) (fun s => I s.1 s.2) (fun s => μ s.1 s.2) (fun s h1 ih => ok_X5_legsAt_B4 hC he hn (hs s.1 s.2 h1) (fun x2' x3' h => ih (x2', x3') h.1 h.2)) (x2, x3) h0
theorem ok_X5_legsAt {G : Gt} {M : Mx} {Qf : State → Prop} {n : Nat} {x1 : Int32} {w : Wd} {Q : Int32 → Prop} (hC : cx G D_X5_legsAt M) (he : en G M (qip w Q) Qf) (hn : n < 8) (h : wp_X5_legsAt n x1 w Q) : jq G D_X5_legsAt M Qf 0 [(0, .ref (aD G n 0)), (1, .int x1)] [] w := by
  unfold wp_X5_legsAt at h
  refine jq_iconst (v := (0 : Int32)) dX5_legsAt_0 hC (by decide) ?_
  refine jq_istore_n (L' := [(2, .int (0 : Int32)), (0, .ref (aD G n 0)), (1, .int x1)]) dX5_legsAt_1 hC rfl (by decide) rfl ?_
  refine jq_iconst (v := (0 : Int32)) dX5_legsAt_2 hC (by decide) ?_
  refine jq_istore_n (L' := [(3, .int (0 : Int32)), (2, .int (0 : Int32)), (0, .ref (aD G n 0)), (1, .int x1)]) dX5_legsAt_3 hC rfl (by decide) rfl ?_
  refine jq_less (L' := [(0, .ref (aD G n 0)), (1, .int x1), (2, .int (0 : Int32)), (3, .int (0 : Int32))]) [2, 3, 1, 0] rfl ?_
  exact ok_X5_legsAt_L4 hC he hn h
theorem mt_X5_legsAt {G : Gt} {n : Nat} {x1 : Int32} {w : Wd} {Q : Int32 → Prop} (hn : n < 8) (h : wp_X5_legsAt n x1 w Q) : Mt G D_X5_legsAt [.ref (aD G n 0), .int x1] w (qip w Q) := Mt_of (by decide +kernel) rfl rfl (Nat.le_of_ble_eq_true rfl) (fun M Qf hC he => ok_X5_legsAt hC he hn h)
/-! X5.hasMark(I)Z -/
theorem dX5_hasMark_0 : decode cX5_hasMark 0 = .ok (.iload_n 1, 1) := by decide +kernel
theorem dX5_hasMark_1 : decode cX5_hasMark 1 = .ok (.ifCond .lt 15, 3) := by decide +kernel
theorem dX5_hasMark_4 : decode cX5_hasMark 4 = .ok (.iload_n 1, 1) := by decide +kernel
theorem dX5_hasMark_5 : decode cX5_hasMark 5 = .ok (.aload_n 0, 1) := by decide +kernel
theorem dX5_hasMark_6 : decode cX5_hasMark 6 = .ok (.getfield 30, 3) := by decide +kernel
theorem dX5_hasMark_9 : decode cX5_hasMark 9 = .ok (.if_icmp .ge 7, 3) := by decide +kernel
theorem dX5_hasMark_12 : decode cX5_hasMark 12 = .ok (.iconst 1, 1) := by decide +kernel
theorem dX5_hasMark_13 : decode cX5_hasMark 13 = .ok (.goto 4, 3) := by decide +kernel
theorem dX5_hasMark_16 : decode cX5_hasMark 16 = .ok (.iconst 0, 1) := by decide +kernel
theorem dX5_hasMark_17 : decode cX5_hasMark 17 = .ok (.ireturn, 1) := by decide +kernel
def D_X5_hasMark : Md := (yX5_hasMark, cX5_hasMark, 2, (some .boolean), wsX5_hasMark, RX5, { frames := 0, cells := 0, slots := 0, locals := 0 })
theorem nm_X5_hasMark : nmD D_X5_hasMark 1 := ⟨rfl, by decide +kernel, by decide +kernel, by decide +kernel⟩
theorem hi_X5_hasMark_X5 : ∀ w ∈ u_ws RX5 TX5 8, w ∈ wsX5_hasMark := by decide +kernel
theorem hl_X5_hasMark_30 : Cond.fieldLink RX5 30 "LevelLoops$Survey" "marks" "I" ∈ wsX5_hasMark := by decide +kernel
def wp_X5_hasMark_J16 (n : Nat) (w : Wd) (Q : Int32 → Prop) : Prop :=
  zb (0 : Int32) ∧ Q (0 : Int32)
def wp_X5_hasMark (n : Nat) (x1 : Int32) (w : Wd) (Q : Int32 → Prop) : Prop :=
  ((x1 < 0 → wp_X5_hasMark_J16 n w Q) ∧ (¬ x1 < 0 → (((wi w n 0 0) ≤ x1 → wp_X5_hasMark_J16 n w Q) ∧ (¬ (wi w n 0 0) ≤ x1 → zb (1 : Int32) ∧ Q (1 : Int32)))))
theorem ok_X5_hasMark_J16 {G : Gt} {M : Mx} {Qf : State → Prop} {n : Nat} {w : Wd} {Q : Int32 → Prop} (hC : cx G D_X5_hasMark M) (he : en G M (qip w Q) Qf) (hn : n < 8) (h : wp_X5_hasMark_J16 n w Q) : jq G D_X5_hasMark M Qf 16 [] [] w := by
  unfold wp_X5_hasMark_J16 at h
  refine jq_iconst (v := (0 : Int32)) dX5_hasMark_16 hC (by decide) ?_
  obtain ⟨bz, h⟩ := h
  exact jq_zret dX5_hasMark_17 hC he rfl bz ⟨_, rfl, rfl, h⟩
theorem ok_X5_hasMark {G : Gt} {M : Mx} {Qf : State → Prop} {n : Nat} {x1 : Int32} {w : Wd} {Q : Int32 → Prop} (hC : cx G D_X5_hasMark M) (he : en G M (qip w Q) Qf) (hn : n < 8) (h : wp_X5_hasMark n x1 w Q) : jq G D_X5_hasMark M Qf 0 [(0, .ref (aD G n 0)), (1, .int x1)] [] w := by
  unfold wp_X5_hasMark at h
  refine jq_iload_n (k0 := 1) dX5_hasMark_0 hC rfl rfl ?_
  refine jq_if_lt (tgt := 16) dX5_hasMark_1 hC (by decide) (fun c1 => ?_) (fun c1 => ?_)
  · have h := h.1 c1
    refine jq_less (L' := []) [] rfl ?_
    exact ok_X5_hasMark_J16 hC he hn h
  · have h := h.2 c1
    refine jq_iload_n (k0 := 1) dX5_hasMark_4 hC rfl rfl ?_
    refine jq_aload_n (k0 := 0) dX5_hasMark_5 hC rfl rfl ?_
    refine jq_get (k0 := 0) (n := n) (o := 0) dX5_hasMark_6 hC (cl_S (by omega) (by decide)) rfl rfl hi_X5_hasMark_X5 (by decide) hl_X5_hasMark_30 rfl rfl ?_
    refine jq_icmp_ge (tgt := 16) dX5_hasMark_9 hC (by decide) (fun c9 => ?_) (fun c9 => ?_)
    · have h := h.1 c9
      refine jq_less (L' := []) [] rfl ?_
      exact ok_X5_hasMark_J16 hC he hn h
    · have h := h.2 c9
      refine jq_iconst (v := (1 : Int32)) dX5_hasMark_12 hC (by decide) ?_
      refine jq_goto (tgt := 17) dX5_hasMark_13 hC (by decide) ?_
      obtain ⟨bz, h⟩ := h
      exact jq_zret dX5_hasMark_17 hC he rfl bz ⟨_, rfl, rfl, h⟩
theorem mt_X5_hasMark {G : Gt} {n : Nat} {x1 : Int32} {w : Wd} {Q : Int32 → Prop} (hn : n < 8) (h : wp_X5_hasMark n x1 w Q) : Mt G D_X5_hasMark [.ref (aD G n 0), .int x1] w (qip w Q) := Mt_of (by decide +kernel) rfl rfl (Nat.le_of_ble_eq_true rfl) (fun M Qf hC he => ok_X5_hasMark hC he hn h)
/-! X5.hasLeg(I)Z -/
theorem dX5_hasLeg_0 : decode cX5_hasLeg 0 = .ok (.iload_n 1, 1) := by decide +kernel
theorem dX5_hasLeg_1 : decode cX5_hasLeg 1 = .ok (.ifCond .lt 15, 3) := by decide +kernel
theorem dX5_hasLeg_4 : decode cX5_hasLeg 4 = .ok (.iload_n 1, 1) := by decide +kernel
theorem dX5_hasLeg_5 : decode cX5_hasLeg 5 = .ok (.aload_n 0, 1) := by decide +kernel
theorem dX5_hasLeg_6 : decode cX5_hasLeg 6 = .ok (.getfield 34, 3) := by decide +kernel
theorem dX5_hasLeg_9 : decode cX5_hasLeg 9 = .ok (.if_icmp .ge 7, 3) := by decide +kernel
theorem dX5_hasLeg_12 : decode cX5_hasLeg 12 = .ok (.iconst 1, 1) := by decide +kernel
theorem dX5_hasLeg_13 : decode cX5_hasLeg 13 = .ok (.goto 4, 3) := by decide +kernel
theorem dX5_hasLeg_16 : decode cX5_hasLeg 16 = .ok (.iconst 0, 1) := by decide +kernel
theorem dX5_hasLeg_17 : decode cX5_hasLeg 17 = .ok (.ireturn, 1) := by decide +kernel
def D_X5_hasLeg : Md := (yX5_hasLeg, cX5_hasLeg, 2, (some .boolean), wsX5_hasLeg, RX5, { frames := 0, cells := 0, slots := 0, locals := 0 })
theorem nm_X5_hasLeg : nmD D_X5_hasLeg 1 := ⟨rfl, by decide +kernel, by decide +kernel, by decide +kernel⟩
theorem hi_X5_hasLeg_X5 : ∀ w ∈ u_ws RX5 TX5 8, w ∈ wsX5_hasLeg := by decide +kernel
theorem hl_X5_hasLeg_34 : Cond.fieldLink RX5 34 "LevelLoops$Survey" "legs" "I" ∈ wsX5_hasLeg := by decide +kernel
def wp_X5_hasLeg_J16 (n : Nat) (w : Wd) (Q : Int32 → Prop) : Prop :=
  zb (0 : Int32) ∧ Q (0 : Int32)
def wp_X5_hasLeg (n : Nat) (x1 : Int32) (w : Wd) (Q : Int32 → Prop) : Prop :=
  ((x1 < 0 → wp_X5_hasLeg_J16 n w Q) ∧ (¬ x1 < 0 → (((wi w n 0 1) ≤ x1 → wp_X5_hasLeg_J16 n w Q) ∧ (¬ (wi w n 0 1) ≤ x1 → zb (1 : Int32) ∧ Q (1 : Int32)))))
theorem ok_X5_hasLeg_J16 {G : Gt} {M : Mx} {Qf : State → Prop} {n : Nat} {w : Wd} {Q : Int32 → Prop} (hC : cx G D_X5_hasLeg M) (he : en G M (qip w Q) Qf) (hn : n < 8) (h : wp_X5_hasLeg_J16 n w Q) : jq G D_X5_hasLeg M Qf 16 [] [] w := by
  unfold wp_X5_hasLeg_J16 at h
  refine jq_iconst (v := (0 : Int32)) dX5_hasLeg_16 hC (by decide) ?_
  obtain ⟨bz, h⟩ := h
  exact jq_zret dX5_hasLeg_17 hC he rfl bz ⟨_, rfl, rfl, h⟩
theorem ok_X5_hasLeg {G : Gt} {M : Mx} {Qf : State → Prop} {n : Nat} {x1 : Int32} {w : Wd} {Q : Int32 → Prop} (hC : cx G D_X5_hasLeg M) (he : en G M (qip w Q) Qf) (hn : n < 8) (h : wp_X5_hasLeg n x1 w Q) : jq G D_X5_hasLeg M Qf 0 [(0, .ref (aD G n 0)), (1, .int x1)] [] w := by
  unfold wp_X5_hasLeg at h
  refine jq_iload_n (k0 := 1) dX5_hasLeg_0 hC rfl rfl ?_
  refine jq_if_lt (tgt := 16) dX5_hasLeg_1 hC (by decide) (fun c1 => ?_) (fun c1 => ?_)
  · have h := h.1 c1
    refine jq_less (L' := []) [] rfl ?_
    exact ok_X5_hasLeg_J16 hC he hn h
  · have h := h.2 c1
    refine jq_iload_n (k0 := 1) dX5_hasLeg_4 hC rfl rfl ?_
    refine jq_aload_n (k0 := 0) dX5_hasLeg_5 hC rfl rfl ?_
    refine jq_get (k0 := 1) (n := n) (o := 0) dX5_hasLeg_6 hC (cl_S (by omega) (by decide)) rfl rfl hi_X5_hasLeg_X5 (by decide) hl_X5_hasLeg_34 rfl rfl ?_
    refine jq_icmp_ge (tgt := 16) dX5_hasLeg_9 hC (by decide) (fun c9 => ?_) (fun c9 => ?_)
    · have h := h.1 c9
      refine jq_less (L' := []) [] rfl ?_
      exact ok_X5_hasLeg_J16 hC he hn h
    · have h := h.2 c9
      refine jq_iconst (v := (1 : Int32)) dX5_hasLeg_12 hC (by decide) ?_
      refine jq_goto (tgt := 17) dX5_hasLeg_13 hC (by decide) ?_
      obtain ⟨bz, h⟩ := h
      exact jq_zret dX5_hasLeg_17 hC he rfl bz ⟨_, rfl, rfl, h⟩
theorem mt_X5_hasLeg {G : Gt} {n : Nat} {x1 : Int32} {w : Wd} {Q : Int32 → Prop} (hn : n < 8) (h : wp_X5_hasLeg n x1 w Q) : Mt G D_X5_hasLeg [.ref (aD G n 0), .int x1] w (qip w Q) := Mt_of (by decide +kernel) rfl rfl (Nat.le_of_ble_eq_true rfl) (fun M Qf hC he => ok_X5_hasLeg hC he hn h)
/-! X5.putMark(I)Z -/
theorem dX5_putMark_0 : decode cX5_putMark 0 = .ok (.aload_n 0, 1) := by decide +kernel
theorem dX5_putMark_1 : decode cX5_putMark 1 = .ok (.getfield 30, 3) := by decide +kernel
theorem dX5_putMark_4 : decode cX5_putMark 4 = .ok (.bipush 10, 2) := by decide +kernel
theorem dX5_putMark_6 : decode cX5_putMark 6 = .ok (.if_icmp .lt 5, 3) := by decide +kernel
theorem dX5_putMark_9 : decode cX5_putMark 9 = .ok (.iconst 0, 1) := by decide +kernel
theorem dX5_putMark_10 : decode cX5_putMark 10 = .ok (.ireturn, 1) := by decide +kernel
theorem dX5_putMark_11 : decode cX5_putMark 11 = .ok (.aload_n 0, 1) := by decide +kernel
theorem dX5_putMark_12 : decode cX5_putMark 12 = .ok (.getfield 9, 3) := by decide +kernel
theorem dX5_putMark_15 : decode cX5_putMark 15 = .ok (.aload_n 0, 1) := by decide +kernel
theorem dX5_putMark_16 : decode cX5_putMark 16 = .ok (.getfield 30, 3) := by decide +kernel
theorem dX5_putMark_19 : decode cX5_putMark 19 = .ok (.iload_n 1, 1) := by decide +kernel
theorem dX5_putMark_20 : decode cX5_putMark 20 = .ok (.iastore, 1) := by decide +kernel
theorem dX5_putMark_21 : decode cX5_putMark 21 = .ok (.aload_n 0, 1) := by decide +kernel
theorem dX5_putMark_22 : decode cX5_putMark 22 = .ok (.dup, 1) := by decide +kernel
theorem dX5_putMark_23 : decode cX5_putMark 23 = .ok (.getfield 30, 3) := by decide +kernel
theorem dX5_putMark_26 : decode cX5_putMark 26 = .ok (.iconst 1, 1) := by decide +kernel
theorem dX5_putMark_27 : decode cX5_putMark 27 = .ok (.iadd, 1) := by decide +kernel
theorem dX5_putMark_28 : decode cX5_putMark 28 = .ok (.putfield 30, 3) := by decide +kernel
theorem dX5_putMark_31 : decode cX5_putMark 31 = .ok (.iconst 1, 1) := by decide +kernel
theorem dX5_putMark_32 : decode cX5_putMark 32 = .ok (.ireturn, 1) := by decide +kernel
def D_X5_putMark : Md := (yX5_putMark, cX5_putMark, 2, (some .boolean), wsX5_putMark, RX5, { frames := 0, cells := 0, slots := 0, locals := 0 })
theorem nm_X5_putMark : nmD D_X5_putMark 1 := ⟨rfl, by decide +kernel, by decide +kernel, by decide +kernel⟩
theorem hi_X5_putMark_X5 : ∀ w ∈ u_ws RX5 TX5 8, w ∈ wsX5_putMark := by decide +kernel
theorem hl_X5_putMark_9 : Cond.fieldLink RX5 9 "LevelLoops$Survey" "known" "[I" ∈ wsX5_putMark := by decide +kernel
theorem hl_X5_putMark_30 : Cond.fieldLink RX5 30 "LevelLoops$Survey" "marks" "I" ∈ wsX5_putMark := by decide +kernel
def wp_X5_putMark (n : Nat) (x1 : Int32) (w : Wd) (Q : Int32 → Wd → Prop) : Prop :=
  (((wi w n 0 0) < (10 : Int32) → vp_in (wi w n 0 0) 10 ∧ (∀ w20 : Wd, w20 = (sI w n 1 (wi w n 0 0).toNatClampNeg x1) → (∀ w28 : Wd, w28 = (sI w20 n 0 0 ((wi w20 n 0 0) + (1 : Int32))) → zb (1 : Int32) ∧ Q (1 : Int32) w28))) ∧ (¬ (wi w n 0 0) < (10 : Int32) → zb (0 : Int32) ∧ Q (0 : Int32) w))
theorem ok_X5_putMark {G : Gt} {M : Mx} {Qf : State → Prop} {n : Nat} {x1 : Int32} {w : Wd} {Q : Int32 → Wd → Prop} (hC : cx G D_X5_putMark M) (he : en G M (qi Q) Qf) (hn : n < 8) (h : wp_X5_putMark n x1 w Q) : jq G D_X5_putMark M Qf 0 [(0, .ref (aD G n 0)), (1, .int x1)] [] w := by
  unfold wp_X5_putMark at h
  refine jq_aload_n (k0 := 0) dX5_putMark_0 hC rfl rfl ?_
  refine jq_get (k0 := 0) (n := n) (o := 0) dX5_putMark_1 hC (cl_S (by omega) (by decide)) rfl rfl hi_X5_putMark_X5 (by decide) hl_X5_putMark_30 rfl rfl ?_
  refine jq_bipush (v := (10 : Int32)) dX5_putMark_4 hC (by decide) ?_
  refine jq_icmp_lt (tgt := 11) dX5_putMark_6 hC (by decide) (fun c6 => ?_) (fun c6 => ?_)
  · have h := h.1 c6
    refine jq_aload_n (k0 := 0) dX5_putMark_11 hC rfl rfl ?_
    refine jq_get (k0 := 2) (n := n) (o := 0) dX5_putMark_12 hC (cl_S (by omega) (by decide)) rfl rfl hi_X5_putMark_X5 (by decide) hl_X5_putMark_9 rfl rfl ?_
    refine jq_aload_n (k0 := 0) dX5_putMark_15 hC rfl rfl ?_
    refine jq_get (k0 := 0) (n := n) (o := 0) dX5_putMark_16 hC (cl_S (by omega) (by decide)) rfl rfl hi_X5_putMark_X5 (by decide) hl_X5_putMark_30 rfl rfl ?_
    refine jq_iload_n (k0 := 1) dX5_putMark_19 hC rfl rfl ?_
    obtain ⟨b20, h⟩ := h
    refine jq_iast (n := n) (o := 1) (j := (wi w n 0 0).toNatClampNeg) dX5_putMark_20 hC (cl_S (by omega) (by decide)) (fun _ => rfl) b20 rfl ?_
    refine jq_w (fun w20 e20 => ?_)
    have h := h w20 e20
    refine jq_aload_n (k0 := 0) dX5_putMark_21 hC rfl rfl ?_
    refine jq_dup dX5_putMark_22 hC rfl ?_
    refine jq_get (k0 := 0) (n := n) (o := 0) dX5_putMark_23 hC (cl_S (by omega) (by decide)) rfl rfl hi_X5_putMark_X5 (by decide) hl_X5_putMark_30 rfl rfl ?_
    refine jq_iconst (v := (1 : Int32)) dX5_putMark_26 hC (by decide) ?_
    refine jq_iadd dX5_putMark_27 hC ?_
    refine jq_put (k0 := 0) (n := n) (o := 0) (ty := .int) (w' := (sI w20 n 0 0 ((wi w20 n 0 0) + (1 : Int32)))) dX5_putMark_28 hC (cl_S (by omega) (by decide)) rfl rfl hi_X5_putMark_X5 tyX5 tyX5_ok nmX5 (by decide) hl_X5_putMark_30 rfl rfl (by decide +kernel) rfl rfl (Nat.le_of_ble_eq_true rfl) (e_0_0 G _ _ _) (fun c _ hne => ent_sA c hne) ?_
    refine jq_w (fun w28 e28 => ?_)
    have h := h w28 e28
    refine jq_iconst (v := (1 : Int32)) dX5_putMark_31 hC (by decide) ?_
    obtain ⟨bz, h⟩ := h
    exact jq_zret dX5_putMark_32 hC he rfl bz ⟨_, rfl, h⟩
  · have h := h.2 c6
    refine jq_iconst (v := (0 : Int32)) dX5_putMark_9 hC (by decide) ?_
    obtain ⟨bz, h⟩ := h
    exact jq_zret dX5_putMark_10 hC he rfl bz ⟨_, rfl, h⟩
theorem mt_X5_putMark {G : Gt} {n : Nat} {x1 : Int32} {w : Wd} {Q : Int32 → Wd → Prop} (hn : n < 8) (h : wp_X5_putMark n x1 w Q) : Mt G D_X5_putMark [.ref (aD G n 0), .int x1] w (qi Q) := Mt_of (by decide +kernel) rfl rfl (Nat.le_of_ble_eq_true rfl) (fun M Qf hC he => ok_X5_putMark hC he hn h)
/-! X5.putLeg(IIII)Z -/
theorem dX5_putLeg_0 : decode cX5_putLeg 0 = .ok (.aload_n 0, 1) := by decide +kernel
theorem dX5_putLeg_1 : decode cX5_putLeg 1 = .ok (.getfield 34, 3) := by decide +kernel
theorem dX5_putLeg_4 : decode cX5_putLeg 4 = .ok (.bipush 20, 2) := by decide +kernel
theorem dX5_putLeg_6 : decode cX5_putLeg 6 = .ok (.if_icmp .lt 5, 3) := by decide +kernel
theorem dX5_putLeg_9 : decode cX5_putLeg 9 = .ok (.iconst 0, 1) := by decide +kernel
theorem dX5_putLeg_10 : decode cX5_putLeg 10 = .ok (.ireturn, 1) := by decide +kernel
theorem dX5_putLeg_11 : decode cX5_putLeg 11 = .ok (.aload_n 0, 1) := by decide +kernel
theorem dX5_putLeg_12 : decode cX5_putLeg 12 = .ok (.getfield 15, 3) := by decide +kernel
theorem dX5_putLeg_15 : decode cX5_putLeg 15 = .ok (.aload_n 0, 1) := by decide +kernel
theorem dX5_putLeg_16 : decode cX5_putLeg 16 = .ok (.getfield 34, 3) := by decide +kernel
theorem dX5_putLeg_19 : decode cX5_putLeg 19 = .ok (.iload_n 1, 1) := by decide +kernel
theorem dX5_putLeg_20 : decode cX5_putLeg 20 = .ok (.iastore, 1) := by decide +kernel
theorem dX5_putLeg_21 : decode cX5_putLeg 21 = .ok (.aload_n 0, 1) := by decide +kernel
theorem dX5_putLeg_22 : decode cX5_putLeg 22 = .ok (.getfield 18, 3) := by decide +kernel
theorem dX5_putLeg_25 : decode cX5_putLeg 25 = .ok (.aload_n 0, 1) := by decide +kernel
theorem dX5_putLeg_26 : decode cX5_putLeg 26 = .ok (.getfield 34, 3) := by decide +kernel
theorem dX5_putLeg_29 : decode cX5_putLeg 29 = .ok (.iload_n 2, 1) := by decide +kernel
theorem dX5_putLeg_30 : decode cX5_putLeg 30 = .ok (.iastore, 1) := by decide +kernel
theorem dX5_putLeg_31 : decode cX5_putLeg 31 = .ok (.aload_n 0, 1) := by decide +kernel
theorem dX5_putLeg_32 : decode cX5_putLeg 32 = .ok (.getfield 21, 3) := by decide +kernel
theorem dX5_putLeg_35 : decode cX5_putLeg 35 = .ok (.aload_n 0, 1) := by decide +kernel
theorem dX5_putLeg_36 : decode cX5_putLeg 36 = .ok (.getfield 34, 3) := by decide +kernel
theorem dX5_putLeg_39 : decode cX5_putLeg 39 = .ok (.iload_n 3, 1) := by decide +kernel
theorem dX5_putLeg_40 : decode cX5_putLeg 40 = .ok (.iastore, 1) := by decide +kernel
theorem dX5_putLeg_41 : decode cX5_putLeg 41 = .ok (.aload_n 0, 1) := by decide +kernel
theorem dX5_putLeg_42 : decode cX5_putLeg 42 = .ok (.getfield 24, 3) := by decide +kernel
theorem dX5_putLeg_45 : decode cX5_putLeg 45 = .ok (.aload_n 0, 1) := by decide +kernel
theorem dX5_putLeg_46 : decode cX5_putLeg 46 = .ok (.getfield 34, 3) := by decide +kernel
theorem dX5_putLeg_49 : decode cX5_putLeg 49 = .ok (.iload 4, 2) := by decide +kernel
theorem dX5_putLeg_51 : decode cX5_putLeg 51 = .ok (.iastore, 1) := by decide +kernel
theorem dX5_putLeg_52 : decode cX5_putLeg 52 = .ok (.aload_n 0, 1) := by decide +kernel
theorem dX5_putLeg_53 : decode cX5_putLeg 53 = .ok (.dup, 1) := by decide +kernel
theorem dX5_putLeg_54 : decode cX5_putLeg 54 = .ok (.getfield 34, 3) := by decide +kernel
theorem dX5_putLeg_57 : decode cX5_putLeg 57 = .ok (.iconst 1, 1) := by decide +kernel
theorem dX5_putLeg_58 : decode cX5_putLeg 58 = .ok (.iadd, 1) := by decide +kernel
theorem dX5_putLeg_59 : decode cX5_putLeg 59 = .ok (.putfield 34, 3) := by decide +kernel
theorem dX5_putLeg_62 : decode cX5_putLeg 62 = .ok (.iconst 1, 1) := by decide +kernel
theorem dX5_putLeg_63 : decode cX5_putLeg 63 = .ok (.ireturn, 1) := by decide +kernel
def D_X5_putLeg : Md := (yX5_putLeg, cX5_putLeg, 5, (some .boolean), wsX5_putLeg, RX5, { frames := 0, cells := 0, slots := 0, locals := 0 })
theorem nm_X5_putLeg : nmD D_X5_putLeg 4 := ⟨rfl, by decide +kernel, by decide +kernel, by decide +kernel⟩
theorem hi_X5_putLeg_X5 : ∀ w ∈ u_ws RX5 TX5 8, w ∈ wsX5_putLeg := by decide +kernel
theorem hl_X5_putLeg_15 : Cond.fieldLink RX5 15 "LevelLoops$Survey" "from" "[I" ∈ wsX5_putLeg := by decide +kernel
theorem hl_X5_putLeg_18 : Cond.fieldLink RX5 18 "LevelLoops$Survey" "to" "[I" ∈ wsX5_putLeg := by decide +kernel
theorem hl_X5_putLeg_21 : Cond.fieldLink RX5 21 "LevelLoops$Survey" "difference" "[I" ∈ wsX5_putLeg := by decide +kernel
theorem hl_X5_putLeg_24 : Cond.fieldLink RX5 24 "LevelLoops$Survey" "length" "[I" ∈ wsX5_putLeg := by decide +kernel
theorem hl_X5_putLeg_34 : Cond.fieldLink RX5 34 "LevelLoops$Survey" "legs" "I" ∈ wsX5_putLeg := by decide +kernel
def wp_X5_putLeg (n : Nat) (x1 : Int32) (x2 : Int32) (x3 : Int32) (x4 : Int32) (w : Wd) (Q : Int32 → Wd → Prop) : Prop :=
  (((wi w n 0 1) < (20 : Int32) → vp_in (wi w n 0 1) 20 ∧ (∀ w20 : Wd, w20 = (sI w n 2 (wi w n 0 1).toNatClampNeg x1) → vp_in (wi w20 n 0 1) 20 ∧ (∀ w30 : Wd, w30 = (sI w20 n 3 (wi w20 n 0 1).toNatClampNeg x2) → vp_in (wi w30 n 0 1) 20 ∧ (∀ w40 : Wd, w40 = (sI w30 n 4 (wi w30 n 0 1).toNatClampNeg x3) → vp_in (wi w40 n 0 1) 20 ∧ (∀ w51 : Wd, w51 = (sI w40 n 5 (wi w40 n 0 1).toNatClampNeg x4) → (∀ w59 : Wd, w59 = (sI w51 n 0 1 ((wi w51 n 0 1) + (1 : Int32))) → zb (1 : Int32) ∧ Q (1 : Int32) w59)))))) ∧ (¬ (wi w n 0 1) < (20 : Int32) → zb (0 : Int32) ∧ Q (0 : Int32) w))
theorem ok_X5_putLeg {G : Gt} {M : Mx} {Qf : State → Prop} {n : Nat} {x1 : Int32} {x2 : Int32} {x3 : Int32} {x4 : Int32} {w : Wd} {Q : Int32 → Wd → Prop} (hC : cx G D_X5_putLeg M) (he : en G M (qi Q) Qf) (hn : n < 8) (h : wp_X5_putLeg n x1 x2 x3 x4 w Q) : jq G D_X5_putLeg M Qf 0 [(0, .ref (aD G n 0)), (1, .int x1), (2, .int x2), (3, .int x3), (4, .int x4)] [] w := by
  unfold wp_X5_putLeg at h
  refine jq_aload_n (k0 := 0) dX5_putLeg_0 hC rfl rfl ?_
  refine jq_get (k0 := 1) (n := n) (o := 0) dX5_putLeg_1 hC (cl_S (by omega) (by decide)) rfl rfl hi_X5_putLeg_X5 (by decide) hl_X5_putLeg_34 rfl rfl ?_
  refine jq_bipush (v := (20 : Int32)) dX5_putLeg_4 hC (by decide) ?_
  refine jq_icmp_lt (tgt := 11) dX5_putLeg_6 hC (by decide) (fun c6 => ?_) (fun c6 => ?_)
  · have h := h.1 c6
    refine jq_aload_n (k0 := 0) dX5_putLeg_11 hC rfl rfl ?_
    refine jq_get (k0 := 3) (n := n) (o := 0) dX5_putLeg_12 hC (cl_S (by omega) (by decide)) rfl rfl hi_X5_putLeg_X5 (by decide) hl_X5_putLeg_15 rfl rfl ?_
    refine jq_aload_n (k0 := 0) dX5_putLeg_15 hC rfl rfl ?_
    refine jq_get (k0 := 1) (n := n) (o := 0) dX5_putLeg_16 hC (cl_S (by omega) (by decide)) rfl rfl hi_X5_putLeg_X5 (by decide) hl_X5_putLeg_34 rfl rfl ?_
    refine jq_iload_n (k0 := 1) dX5_putLeg_19 hC rfl rfl ?_
    obtain ⟨b20, h⟩ := h
    refine jq_iast (n := n) (o := 2) (j := (wi w n 0 1).toNatClampNeg) dX5_putLeg_20 hC (cl_S (by omega) (by decide)) (fun _ => rfl) b20 rfl ?_
    refine jq_w (fun w20 e20 => ?_)
    have h := h w20 e20
    refine jq_aload_n (k0 := 0) dX5_putLeg_21 hC rfl rfl ?_
    refine jq_get (k0 := 4) (n := n) (o := 0) dX5_putLeg_22 hC (cl_S (by omega) (by decide)) rfl rfl hi_X5_putLeg_X5 (by decide) hl_X5_putLeg_18 rfl rfl ?_
    refine jq_aload_n (k0 := 0) dX5_putLeg_25 hC rfl rfl ?_
    refine jq_get (k0 := 1) (n := n) (o := 0) dX5_putLeg_26 hC (cl_S (by omega) (by decide)) rfl rfl hi_X5_putLeg_X5 (by decide) hl_X5_putLeg_34 rfl rfl ?_
    refine jq_iload_n (k0 := 2) dX5_putLeg_29 hC rfl rfl ?_
    obtain ⟨b30, h⟩ := h
    refine jq_iast (n := n) (o := 3) (j := (wi w20 n 0 1).toNatClampNeg) dX5_putLeg_30 hC (cl_S (by omega) (by decide)) (fun _ => rfl) b30 rfl ?_
    refine jq_w (fun w30 e30 => ?_)
    have h := h w30 e30
    refine jq_aload_n (k0 := 0) dX5_putLeg_31 hC rfl rfl ?_
    refine jq_get (k0 := 5) (n := n) (o := 0) dX5_putLeg_32 hC (cl_S (by omega) (by decide)) rfl rfl hi_X5_putLeg_X5 (by decide) hl_X5_putLeg_21 rfl rfl ?_
    refine jq_aload_n (k0 := 0) dX5_putLeg_35 hC rfl rfl ?_
    refine jq_get (k0 := 1) (n := n) (o := 0) dX5_putLeg_36 hC (cl_S (by omega) (by decide)) rfl rfl hi_X5_putLeg_X5 (by decide) hl_X5_putLeg_34 rfl rfl ?_
    refine jq_iload_n (k0 := 3) dX5_putLeg_39 hC rfl rfl ?_
    obtain ⟨b40, h⟩ := h
    refine jq_iast (n := n) (o := 4) (j := (wi w30 n 0 1).toNatClampNeg) dX5_putLeg_40 hC (cl_S (by omega) (by decide)) (fun _ => rfl) b40 rfl ?_
    refine jq_w (fun w40 e40 => ?_)
    have h := h w40 e40
    refine jq_aload_n (k0 := 0) dX5_putLeg_41 hC rfl rfl ?_
    refine jq_get (k0 := 6) (n := n) (o := 0) dX5_putLeg_42 hC (cl_S (by omega) (by decide)) rfl rfl hi_X5_putLeg_X5 (by decide) hl_X5_putLeg_24 rfl rfl ?_
    refine jq_aload_n (k0 := 0) dX5_putLeg_45 hC rfl rfl ?_
    refine jq_get (k0 := 1) (n := n) (o := 0) dX5_putLeg_46 hC (cl_S (by omega) (by decide)) rfl rfl hi_X5_putLeg_X5 (by decide) hl_X5_putLeg_34 rfl rfl ?_
    refine jq_iload (k0 := 4) dX5_putLeg_49 hC rfl ?_
    obtain ⟨b51, h⟩ := h
    refine jq_iast (n := n) (o := 5) (j := (wi w40 n 0 1).toNatClampNeg) dX5_putLeg_51 hC (cl_S (by omega) (by decide)) (fun _ => rfl) b51 rfl ?_
    refine jq_w (fun w51 e51 => ?_)
    have h := h w51 e51
    refine jq_aload_n (k0 := 0) dX5_putLeg_52 hC rfl rfl ?_
    refine jq_dup dX5_putLeg_53 hC rfl ?_
    refine jq_get (k0 := 1) (n := n) (o := 0) dX5_putLeg_54 hC (cl_S (by omega) (by decide)) rfl rfl hi_X5_putLeg_X5 (by decide) hl_X5_putLeg_34 rfl rfl ?_
    refine jq_iconst (v := (1 : Int32)) dX5_putLeg_57 hC (by decide) ?_
    refine jq_iadd dX5_putLeg_58 hC ?_
    refine jq_put (k0 := 1) (n := n) (o := 0) (ty := .int) (w' := (sI w51 n 0 1 ((wi w51 n 0 1) + (1 : Int32)))) dX5_putLeg_59 hC (cl_S (by omega) (by decide)) rfl rfl hi_X5_putLeg_X5 tyX5 tyX5_ok nmX5 (by decide) hl_X5_putLeg_34 rfl rfl (by decide +kernel) rfl rfl (Nat.le_of_ble_eq_true rfl) (e_0_1 G _ _ _) (fun c _ hne => ent_sA c hne) ?_
    refine jq_w (fun w59 e59 => ?_)
    have h := h w59 e59
    refine jq_iconst (v := (1 : Int32)) dX5_putLeg_62 hC (by decide) ?_
    obtain ⟨bz, h⟩ := h
    exact jq_zret dX5_putLeg_63 hC he rfl bz ⟨_, rfl, h⟩
  · have h := h.2 c6
    refine jq_iconst (v := (0 : Int32)) dX5_putLeg_9 hC (by decide) ?_
    obtain ⟨bz, h⟩ := h
    exact jq_zret dX5_putLeg_10 hC he rfl bz ⟨_, rfl, h⟩
theorem mt_X5_putLeg {G : Gt} {n : Nat} {x1 : Int32} {x2 : Int32} {x3 : Int32} {x4 : Int32} {w : Wd} {Q : Int32 → Wd → Prop} (hn : n < 8) (h : wp_X5_putLeg n x1 x2 x3 x4 w Q) : Mt G D_X5_putLeg [.ref (aD G n 0), .int x1, .int x2, .int x3, .int x4] w (qi Q) := Mt_of (by decide +kernel) rfl rfl (Nat.le_of_ble_eq_true rfl) (fun M Qf hC he => ok_X5_putLeg hC he hn h)
/-! X5.turnAround(I)V -/
theorem dX5_turnAround_0 : decode cX5_turnAround 0 = .ok (.aload_n 0, 1) := by decide +kernel
theorem dX5_turnAround_1 : decode cX5_turnAround 1 = .ok (.getfield 15, 3) := by decide +kernel
theorem dX5_turnAround_4 : decode cX5_turnAround 4 = .ok (.iload_n 1, 1) := by decide +kernel
theorem dX5_turnAround_5 : decode cX5_turnAround 5 = .ok (.iaload, 1) := by decide +kernel
theorem dX5_turnAround_6 : decode cX5_turnAround 6 = .ok (.istore_n 2, 1) := by decide +kernel
theorem dX5_turnAround_7 : decode cX5_turnAround 7 = .ok (.aload_n 0, 1) := by decide +kernel
theorem dX5_turnAround_8 : decode cX5_turnAround 8 = .ok (.getfield 15, 3) := by decide +kernel
theorem dX5_turnAround_11 : decode cX5_turnAround 11 = .ok (.iload_n 1, 1) := by decide +kernel
theorem dX5_turnAround_12 : decode cX5_turnAround 12 = .ok (.aload_n 0, 1) := by decide +kernel
theorem dX5_turnAround_13 : decode cX5_turnAround 13 = .ok (.getfield 18, 3) := by decide +kernel
theorem dX5_turnAround_16 : decode cX5_turnAround 16 = .ok (.iload_n 1, 1) := by decide +kernel
theorem dX5_turnAround_17 : decode cX5_turnAround 17 = .ok (.iaload, 1) := by decide +kernel
theorem dX5_turnAround_18 : decode cX5_turnAround 18 = .ok (.iastore, 1) := by decide +kernel
theorem dX5_turnAround_19 : decode cX5_turnAround 19 = .ok (.aload_n 0, 1) := by decide +kernel
theorem dX5_turnAround_20 : decode cX5_turnAround 20 = .ok (.getfield 18, 3) := by decide +kernel
theorem dX5_turnAround_23 : decode cX5_turnAround 23 = .ok (.iload_n 1, 1) := by decide +kernel
theorem dX5_turnAround_24 : decode cX5_turnAround 24 = .ok (.iload_n 2, 1) := by decide +kernel
theorem dX5_turnAround_25 : decode cX5_turnAround 25 = .ok (.iastore, 1) := by decide +kernel
theorem dX5_turnAround_26 : decode cX5_turnAround 26 = .ok (.aload_n 0, 1) := by decide +kernel
theorem dX5_turnAround_27 : decode cX5_turnAround 27 = .ok (.getfield 21, 3) := by decide +kernel
theorem dX5_turnAround_30 : decode cX5_turnAround 30 = .ok (.iload_n 1, 1) := by decide +kernel
theorem dX5_turnAround_31 : decode cX5_turnAround 31 = .ok (.aload_n 0, 1) := by decide +kernel
theorem dX5_turnAround_32 : decode cX5_turnAround 32 = .ok (.getfield 21, 3) := by decide +kernel
theorem dX5_turnAround_35 : decode cX5_turnAround 35 = .ok (.iload_n 1, 1) := by decide +kernel
theorem dX5_turnAround_36 : decode cX5_turnAround 36 = .ok (.iaload, 1) := by decide +kernel
theorem dX5_turnAround_37 : decode cX5_turnAround 37 = .ok (.ineg, 1) := by decide +kernel
theorem dX5_turnAround_38 : decode cX5_turnAround 38 = .ok (.iastore, 1) := by decide +kernel
theorem dX5_turnAround_39 : decode cX5_turnAround 39 = .ok (.return_, 1) := by decide +kernel
def D_X5_turnAround : Md := (yX5_turnAround, cX5_turnAround, 3, none, wsX5_turnAround, RX5, { frames := 0, cells := 0, slots := 0, locals := 0 })
theorem nm_X5_turnAround : nmD D_X5_turnAround 1 := ⟨rfl, by decide +kernel, by decide +kernel, by decide +kernel⟩
theorem hi_X5_turnAround_X5 : ∀ w ∈ u_ws RX5 TX5 8, w ∈ wsX5_turnAround := by decide +kernel
theorem hl_X5_turnAround_15 : Cond.fieldLink RX5 15 "LevelLoops$Survey" "from" "[I" ∈ wsX5_turnAround := by decide +kernel
theorem hl_X5_turnAround_18 : Cond.fieldLink RX5 18 "LevelLoops$Survey" "to" "[I" ∈ wsX5_turnAround := by decide +kernel
theorem hl_X5_turnAround_21 : Cond.fieldLink RX5 21 "LevelLoops$Survey" "difference" "[I" ∈ wsX5_turnAround := by decide +kernel
def wp_X5_turnAround (n : Nat) (x1 : Int32) (w : Wd) (Q : Wd → Prop) : Prop :=
  vp_in x1 20 ∧ vp_in x1 20 ∧ vp_in x1 20 ∧ (∀ w18 : Wd, w18 = (sI w n 2 x1.toNatClampNeg (wi w n 3 x1.toNatClampNeg)) → vp_in x1 20 ∧ (∀ w25 : Wd, w25 = (sI w18 n 3 x1.toNatClampNeg (wi w n 2 x1.toNatClampNeg)) → vp_in x1 20 ∧ vp_in x1 20 ∧ (∀ w38 : Wd, w38 = (sI w25 n 4 x1.toNatClampNeg (-(wi w25 n 4 x1.toNatClampNeg))) → Q w38)))
theorem ok_X5_turnAround {G : Gt} {M : Mx} {Qf : State → Prop} {n : Nat} {x1 : Int32} {w : Wd} {Q : Wd → Prop} (hC : cx G D_X5_turnAround M) (he : en G M (qv Q) Qf) (hn : n < 8) (h : wp_X5_turnAround n x1 w Q) : jq G D_X5_turnAround M Qf 0 [(0, .ref (aD G n 0)), (1, .int x1)] [] w := by
  unfold wp_X5_turnAround at h
  refine jq_aload_n (k0 := 0) dX5_turnAround_0 hC rfl rfl ?_
  refine jq_get (k0 := 3) (n := n) (o := 0) dX5_turnAround_1 hC (cl_S (by omega) (by decide)) rfl rfl hi_X5_turnAround_X5 (by decide) hl_X5_turnAround_15 rfl rfl ?_
  refine jq_iload_n (k0 := 1) dX5_turnAround_4 hC rfl rfl ?_
  obtain ⟨b5, h⟩ := h
  refine jq_iald (n := n) (o := 2) (j := x1.toNatClampNeg) dX5_turnAround_5 hC (cl_S (by omega) (by decide)) rfl b5 rfl ?_
  refine jq_istore_n (L' := [(2, .int (wi w n 2 x1.toNatClampNeg)), (0, .ref (aD G n 0)), (1, .int x1)]) dX5_turnAround_6 hC rfl (by decide) rfl ?_
  refine jq_aload_n (k0 := 1) dX5_turnAround_7 hC rfl rfl ?_
  refine jq_get (k0 := 3) (n := n) (o := 0) dX5_turnAround_8 hC (cl_S (by omega) (by decide)) rfl rfl hi_X5_turnAround_X5 (by decide) hl_X5_turnAround_15 rfl rfl ?_
  refine jq_iload_n (k0 := 2) dX5_turnAround_11 hC rfl rfl ?_
  refine jq_aload_n (k0 := 1) dX5_turnAround_12 hC rfl rfl ?_
  refine jq_get (k0 := 4) (n := n) (o := 0) dX5_turnAround_13 hC (cl_S (by omega) (by decide)) rfl rfl hi_X5_turnAround_X5 (by decide) hl_X5_turnAround_18 rfl rfl ?_
  refine jq_iload_n (k0 := 2) dX5_turnAround_16 hC rfl rfl ?_
  obtain ⟨b17, h⟩ := h
  refine jq_iald (n := n) (o := 3) (j := x1.toNatClampNeg) dX5_turnAround_17 hC (cl_S (by omega) (by decide)) rfl b17 rfl ?_
  obtain ⟨b18, h⟩ := h
  refine jq_iast (n := n) (o := 2) (j := x1.toNatClampNeg) dX5_turnAround_18 hC (cl_S (by omega) (by decide)) (fun _ => rfl) b18 rfl ?_
  refine jq_w (fun w18 e18 => ?_)
  have h := h w18 e18
  refine jq_aload_n (k0 := 1) dX5_turnAround_19 hC rfl rfl ?_
  refine jq_get (k0 := 4) (n := n) (o := 0) dX5_turnAround_20 hC (cl_S (by omega) (by decide)) rfl rfl hi_X5_turnAround_X5 (by decide) hl_X5_turnAround_18 rfl rfl ?_
  refine jq_iload_n (k0 := 2) dX5_turnAround_23 hC rfl rfl ?_
  refine jq_iload_n (k0 := 0) dX5_turnAround_24 hC rfl rfl ?_
  obtain ⟨b25, h⟩ := h
  refine jq_iast (n := n) (o := 3) (j := x1.toNatClampNeg) dX5_turnAround_25 hC (cl_S (by omega) (by decide)) (fun _ => rfl) b25 rfl ?_
  refine jq_w (fun w25 e25 => ?_)
  have h := h w25 e25
  refine jq_aload_n (k0 := 1) dX5_turnAround_26 hC rfl rfl ?_
  refine jq_get (k0 := 5) (n := n) (o := 0) dX5_turnAround_27 hC (cl_S (by omega) (by decide)) rfl rfl hi_X5_turnAround_X5 (by decide) hl_X5_turnAround_21 rfl rfl ?_
  refine jq_iload_n (k0 := 2) dX5_turnAround_30 hC rfl rfl ?_
  refine jq_aload_n (k0 := 1) dX5_turnAround_31 hC rfl rfl ?_
  refine jq_get (k0 := 5) (n := n) (o := 0) dX5_turnAround_32 hC (cl_S (by omega) (by decide)) rfl rfl hi_X5_turnAround_X5 (by decide) hl_X5_turnAround_21 rfl rfl ?_
  refine jq_iload_n (k0 := 2) dX5_turnAround_35 hC rfl rfl ?_
  obtain ⟨b36, h⟩ := h
  refine jq_iald (n := n) (o := 4) (j := x1.toNatClampNeg) dX5_turnAround_36 hC (cl_S (by omega) (by decide)) rfl b36 rfl ?_
  refine jq_ineg dX5_turnAround_37 hC ?_
  obtain ⟨b38, h⟩ := h
  refine jq_iast (n := n) (o := 4) (j := x1.toNatClampNeg) dX5_turnAround_38 hC (cl_S (by omega) (by decide)) (fun _ => rfl) b38 rfl ?_
  refine jq_w (fun w38 e38 => ?_)
  have h := h w38 e38
  exact jq_vret dX5_turnAround_39 hC he rfl ⟨rfl, h⟩
theorem mt_X5_turnAround {G : Gt} {n : Nat} {x1 : Int32} {w : Wd} {Q : Wd → Prop} (hn : n < 8) (h : wp_X5_turnAround n x1 w Q) : Mt G D_X5_turnAround [.ref (aD G n 0), .int x1] w (qv Q) := Mt_of (by decide +kernel) rfl rfl (Nat.le_of_ble_eq_true rfl) (fun M Qf hC he => ok_X5_turnAround hC he hn h)
/-! X5.dropLeg(I)V -/
theorem dX5_dropLeg_0 : decode cX5_dropLeg 0 = .ok (.iload_n 1, 1) := by decide +kernel
theorem dX5_dropLeg_1 : decode cX5_dropLeg 1 = .ok (.istore_n 2, 1) := by decide +kernel
theorem dX5_dropLeg_2 : decode cX5_dropLeg 2 = .ok (.iload_n 2, 1) := by decide +kernel
theorem dX5_dropLeg_3 : decode cX5_dropLeg 3 = .ok (.iconst 1, 1) := by decide +kernel
theorem dX5_dropLeg_4 : decode cX5_dropLeg 4 = .ok (.iadd, 1) := by decide +kernel
theorem dX5_dropLeg_5 : decode cX5_dropLeg 5 = .ok (.aload_n 0, 1) := by decide +kernel
theorem dX5_dropLeg_6 : decode cX5_dropLeg 6 = .ok (.getfield 34, 3) := by decide +kernel
theorem dX5_dropLeg_9 : decode cX5_dropLeg 9 = .ok (.if_icmp .ge 65, 3) := by decide +kernel
theorem dX5_dropLeg_12 : decode cX5_dropLeg 12 = .ok (.aload_n 0, 1) := by decide +kernel
theorem dX5_dropLeg_13 : decode cX5_dropLeg 13 = .ok (.getfield 15, 3) := by decide +kernel
theorem dX5_dropLeg_16 : decode cX5_dropLeg 16 = .ok (.iload_n 2, 1) := by decide +kernel
theorem dX5_dropLeg_17 : decode cX5_dropLeg 17 = .ok (.aload_n 0, 1) := by decide +kernel
theorem dX5_dropLeg_18 : decode cX5_dropLeg 18 = .ok (.getfield 15, 3) := by decide +kernel
theorem dX5_dropLeg_21 : decode cX5_dropLeg 21 = .ok (.iload_n 2, 1) := by decide +kernel
theorem dX5_dropLeg_22 : decode cX5_dropLeg 22 = .ok (.iconst 1, 1) := by decide +kernel
theorem dX5_dropLeg_23 : decode cX5_dropLeg 23 = .ok (.iadd, 1) := by decide +kernel
theorem dX5_dropLeg_24 : decode cX5_dropLeg 24 = .ok (.iaload, 1) := by decide +kernel
theorem dX5_dropLeg_25 : decode cX5_dropLeg 25 = .ok (.iastore, 1) := by decide +kernel
theorem dX5_dropLeg_26 : decode cX5_dropLeg 26 = .ok (.aload_n 0, 1) := by decide +kernel
theorem dX5_dropLeg_27 : decode cX5_dropLeg 27 = .ok (.getfield 18, 3) := by decide +kernel
theorem dX5_dropLeg_30 : decode cX5_dropLeg 30 = .ok (.iload_n 2, 1) := by decide +kernel
theorem dX5_dropLeg_31 : decode cX5_dropLeg 31 = .ok (.aload_n 0, 1) := by decide +kernel
theorem dX5_dropLeg_32 : decode cX5_dropLeg 32 = .ok (.getfield 18, 3) := by decide +kernel
theorem dX5_dropLeg_35 : decode cX5_dropLeg 35 = .ok (.iload_n 2, 1) := by decide +kernel
theorem dX5_dropLeg_36 : decode cX5_dropLeg 36 = .ok (.iconst 1, 1) := by decide +kernel
theorem dX5_dropLeg_37 : decode cX5_dropLeg 37 = .ok (.iadd, 1) := by decide +kernel
theorem dX5_dropLeg_38 : decode cX5_dropLeg 38 = .ok (.iaload, 1) := by decide +kernel
theorem dX5_dropLeg_39 : decode cX5_dropLeg 39 = .ok (.iastore, 1) := by decide +kernel
theorem dX5_dropLeg_40 : decode cX5_dropLeg 40 = .ok (.aload_n 0, 1) := by decide +kernel
theorem dX5_dropLeg_41 : decode cX5_dropLeg 41 = .ok (.getfield 21, 3) := by decide +kernel
theorem dX5_dropLeg_44 : decode cX5_dropLeg 44 = .ok (.iload_n 2, 1) := by decide +kernel
theorem dX5_dropLeg_45 : decode cX5_dropLeg 45 = .ok (.aload_n 0, 1) := by decide +kernel
theorem dX5_dropLeg_46 : decode cX5_dropLeg 46 = .ok (.getfield 21, 3) := by decide +kernel
theorem dX5_dropLeg_49 : decode cX5_dropLeg 49 = .ok (.iload_n 2, 1) := by decide +kernel
theorem dX5_dropLeg_50 : decode cX5_dropLeg 50 = .ok (.iconst 1, 1) := by decide +kernel
theorem dX5_dropLeg_51 : decode cX5_dropLeg 51 = .ok (.iadd, 1) := by decide +kernel
theorem dX5_dropLeg_52 : decode cX5_dropLeg 52 = .ok (.iaload, 1) := by decide +kernel
theorem dX5_dropLeg_53 : decode cX5_dropLeg 53 = .ok (.iastore, 1) := by decide +kernel
theorem dX5_dropLeg_54 : decode cX5_dropLeg 54 = .ok (.aload_n 0, 1) := by decide +kernel
theorem dX5_dropLeg_55 : decode cX5_dropLeg 55 = .ok (.getfield 24, 3) := by decide +kernel
theorem dX5_dropLeg_58 : decode cX5_dropLeg 58 = .ok (.iload_n 2, 1) := by decide +kernel
theorem dX5_dropLeg_59 : decode cX5_dropLeg 59 = .ok (.aload_n 0, 1) := by decide +kernel
theorem dX5_dropLeg_60 : decode cX5_dropLeg 60 = .ok (.getfield 24, 3) := by decide +kernel
theorem dX5_dropLeg_63 : decode cX5_dropLeg 63 = .ok (.iload_n 2, 1) := by decide +kernel
theorem dX5_dropLeg_64 : decode cX5_dropLeg 64 = .ok (.iconst 1, 1) := by decide +kernel
theorem dX5_dropLeg_65 : decode cX5_dropLeg 65 = .ok (.iadd, 1) := by decide +kernel
theorem dX5_dropLeg_66 : decode cX5_dropLeg 66 = .ok (.iaload, 1) := by decide +kernel
theorem dX5_dropLeg_67 : decode cX5_dropLeg 67 = .ok (.iastore, 1) := by decide +kernel
theorem dX5_dropLeg_68 : decode cX5_dropLeg 68 = .ok (.iinc 2 1, 3) := by decide +kernel
theorem dX5_dropLeg_71 : decode cX5_dropLeg 71 = .ok (.goto (-69), 3) := by decide +kernel
theorem dX5_dropLeg_74 : decode cX5_dropLeg 74 = .ok (.aload_n 0, 1) := by decide +kernel
theorem dX5_dropLeg_75 : decode cX5_dropLeg 75 = .ok (.dup, 1) := by decide +kernel
theorem dX5_dropLeg_76 : decode cX5_dropLeg 76 = .ok (.getfield 34, 3) := by decide +kernel
theorem dX5_dropLeg_79 : decode cX5_dropLeg 79 = .ok (.iconst 1, 1) := by decide +kernel
theorem dX5_dropLeg_80 : decode cX5_dropLeg 80 = .ok (.isub, 1) := by decide +kernel
theorem dX5_dropLeg_81 : decode cX5_dropLeg 81 = .ok (.putfield 34, 3) := by decide +kernel
theorem dX5_dropLeg_84 : decode cX5_dropLeg 84 = .ok (.return_, 1) := by decide +kernel
def D_X5_dropLeg : Md := (yX5_dropLeg, cX5_dropLeg, 3, none, wsX5_dropLeg, RX5, { frames := 0, cells := 0, slots := 0, locals := 0 })
theorem nm_X5_dropLeg : nmD D_X5_dropLeg 1 := ⟨rfl, by decide +kernel, by decide +kernel, by decide +kernel⟩
theorem hi_X5_dropLeg_X5 : ∀ w ∈ u_ws RX5 TX5 8, w ∈ wsX5_dropLeg := by decide +kernel
theorem hl_X5_dropLeg_15 : Cond.fieldLink RX5 15 "LevelLoops$Survey" "from" "[I" ∈ wsX5_dropLeg := by decide +kernel
theorem hl_X5_dropLeg_18 : Cond.fieldLink RX5 18 "LevelLoops$Survey" "to" "[I" ∈ wsX5_dropLeg := by decide +kernel
theorem hl_X5_dropLeg_21 : Cond.fieldLink RX5 21 "LevelLoops$Survey" "difference" "[I" ∈ wsX5_dropLeg := by decide +kernel
theorem hl_X5_dropLeg_24 : Cond.fieldLink RX5 24 "LevelLoops$Survey" "length" "[I" ∈ wsX5_dropLeg := by decide +kernel
theorem hl_X5_dropLeg_34 : Cond.fieldLink RX5 34 "LevelLoops$Survey" "legs" "I" ∈ wsX5_dropLeg := by decide +kernel
def wp_X5_dropLeg_B2 (n : Nat) (x2 : Int32) (w : Wd) (Q : Wd → Prop) (K2 : Int32 → Wd → Prop) : Prop :=
  (((wi w n 0 1) ≤ (x2 + (1 : Int32)) → (∀ w81 : Wd, w81 = (sI w n 0 1 ((wi w n 0 1) - (1 : Int32))) → Q w81)) ∧ (¬ (wi w n 0 1) ≤ (x2 + (1 : Int32)) → vp_in (x2 + (1 : Int32)) 20 ∧ vp_in x2 20 ∧ (∀ w25 : Wd, w25 = (sI w n 2 x2.toNatClampNeg (wi w n 2 (x2 + (1 : Int32)).toNatClampNeg)) → vp_in (x2 + (1 : Int32)) 20 ∧ vp_in x2 20 ∧ (∀ w39 : Wd, w39 = (sI w25 n 3 x2.toNatClampNeg (wi w25 n 3 (x2 + (1 : Int32)).toNatClampNeg)) → vp_in (x2 + (1 : Int32)) 20 ∧ vp_in x2 20 ∧ (∀ w53 : Wd, w53 = (sI w39 n 4 x2.toNatClampNeg (wi w39 n 4 (x2 + (1 : Int32)).toNatClampNeg)) → vp_in (x2 + (1 : Int32)) 20 ∧ vp_in x2 20 ∧ (∀ w67 : Wd, w67 = (sI w53 n 5 x2.toNatClampNeg (wi w53 n 5 (x2 + (1 : Int32)).toNatClampNeg)) → K2 (x2 + 1) w67))))))
def wp_X5_dropLeg_L2 (n : Nat) (x2 : Int32) (w : Wd) (Q : Wd → Prop) : Prop :=
  ∃ (I : Int32 → Wd → Prop) (μ : Int32 → Wd → Nat), I x2 w ∧ ∀ (x2 : Int32) (w : Wd), I x2 w → wp_X5_dropLeg_B2 n x2 w Q (fun x2' w' => I x2' w' ∧ μ x2' w' < μ x2 w)
def wp_X5_dropLeg (n : Nat) (x1 : Int32) (w : Wd) (Q : Wd → Prop) : Prop :=
  wp_X5_dropLeg_L2 n x1 w Q
theorem ok_X5_dropLeg_B2 {G : Gt} {M : Mx} {Qf : State → Prop} {n : Nat} {x2 : Int32} {w : Wd} {Q : Wd → Prop} {K2 : Int32 → Wd → Prop} (hC : cx G D_X5_dropLeg M) (he : en G M (qv Q) Qf) (hn : n < 8) (h : wp_X5_dropLeg_B2 n x2 w Q K2) (hK2 : ∀ (x2 : Int32) (w : Wd), K2 x2 w → jq G D_X5_dropLeg M Qf 2 [(0, .ref (aD G n 0)), (2, .int x2)] [] w) : jq G D_X5_dropLeg M Qf 2 [(0, .ref (aD G n 0)), (2, .int x2)] [] w := by
  unfold wp_X5_dropLeg_B2 at h
  refine jq_iload_n (k0 := 1) dX5_dropLeg_2 hC rfl rfl ?_
  refine jq_iconst (v := (1 : Int32)) dX5_dropLeg_3 hC (by decide) ?_
  refine jq_iadd dX5_dropLeg_4 hC ?_
  refine jq_aload_n (k0 := 0) dX5_dropLeg_5 hC rfl rfl ?_
  refine jq_get (k0 := 1) (n := n) (o := 0) dX5_dropLeg_6 hC (cl_S (by omega) (by decide)) rfl rfl hi_X5_dropLeg_X5 (by decide) hl_X5_dropLeg_34 rfl rfl ?_
  refine jq_icmp_ge (tgt := 74) dX5_dropLeg_9 hC (by decide) (fun c9 => ?_) (fun c9 => ?_)
  · have h := h.1 c9
    refine jq_aload_n (k0 := 0) dX5_dropLeg_74 hC rfl rfl ?_
    refine jq_dup dX5_dropLeg_75 hC rfl ?_
    refine jq_get (k0 := 1) (n := n) (o := 0) dX5_dropLeg_76 hC (cl_S (by omega) (by decide)) rfl rfl hi_X5_dropLeg_X5 (by decide) hl_X5_dropLeg_34 rfl rfl ?_
    refine jq_iconst (v := (1 : Int32)) dX5_dropLeg_79 hC (by decide) ?_
    refine jq_isub dX5_dropLeg_80 hC ?_
    refine jq_put (k0 := 1) (n := n) (o := 0) (ty := .int) (w' := (sI w n 0 1 ((wi w n 0 1) - (1 : Int32)))) dX5_dropLeg_81 hC (cl_S (by omega) (by decide)) rfl rfl hi_X5_dropLeg_X5 tyX5 tyX5_ok nmX5 (by decide) hl_X5_dropLeg_34 rfl rfl (by decide +kernel) rfl rfl (Nat.le_of_ble_eq_true rfl) (e_0_1 G _ _ _) (fun c _ hne => ent_sA c hne) ?_
    refine jq_w (fun w81 e81 => ?_)
    have h := h w81 e81
    exact jq_vret dX5_dropLeg_84 hC he rfl ⟨rfl, h⟩
  · have h := h.2 c9
    refine jq_aload_n (k0 := 0) dX5_dropLeg_12 hC rfl rfl ?_
    refine jq_get (k0 := 3) (n := n) (o := 0) dX5_dropLeg_13 hC (cl_S (by omega) (by decide)) rfl rfl hi_X5_dropLeg_X5 (by decide) hl_X5_dropLeg_15 rfl rfl ?_
    refine jq_iload_n (k0 := 1) dX5_dropLeg_16 hC rfl rfl ?_
    refine jq_aload_n (k0 := 0) dX5_dropLeg_17 hC rfl rfl ?_
    refine jq_get (k0 := 3) (n := n) (o := 0) dX5_dropLeg_18 hC (cl_S (by omega) (by decide)) rfl rfl hi_X5_dropLeg_X5 (by decide) hl_X5_dropLeg_15 rfl rfl ?_
    refine jq_iload_n (k0 := 1) dX5_dropLeg_21 hC rfl rfl ?_
    refine jq_iconst (v := (1 : Int32)) dX5_dropLeg_22 hC (by decide) ?_
    refine jq_iadd dX5_dropLeg_23 hC ?_
    obtain ⟨b24, h⟩ := h
    refine jq_iald (n := n) (o := 2) (j := (x2 + (1 : Int32)).toNatClampNeg) dX5_dropLeg_24 hC (cl_S (by omega) (by decide)) rfl b24 rfl ?_
    obtain ⟨b25, h⟩ := h
    refine jq_iast (n := n) (o := 2) (j := x2.toNatClampNeg) dX5_dropLeg_25 hC (cl_S (by omega) (by decide)) (fun _ => rfl) b25 rfl ?_
    refine jq_w (fun w25 e25 => ?_)
    have h := h w25 e25
    refine jq_aload_n (k0 := 0) dX5_dropLeg_26 hC rfl rfl ?_
    refine jq_get (k0 := 4) (n := n) (o := 0) dX5_dropLeg_27 hC (cl_S (by omega) (by decide)) rfl rfl hi_X5_dropLeg_X5 (by decide) hl_X5_dropLeg_18 rfl rfl ?_
    refine jq_iload_n (k0 := 1) dX5_dropLeg_30 hC rfl rfl ?_
    refine jq_aload_n (k0 := 0) dX5_dropLeg_31 hC rfl rfl ?_
    refine jq_get (k0 := 4) (n := n) (o := 0) dX5_dropLeg_32 hC (cl_S (by omega) (by decide)) rfl rfl hi_X5_dropLeg_X5 (by decide) hl_X5_dropLeg_18 rfl rfl ?_
    refine jq_iload_n (k0 := 1) dX5_dropLeg_35 hC rfl rfl ?_
    refine jq_iconst (v := (1 : Int32)) dX5_dropLeg_36 hC (by decide) ?_
    refine jq_iadd dX5_dropLeg_37 hC ?_
    obtain ⟨b38, h⟩ := h
    refine jq_iald (n := n) (o := 3) (j := (x2 + (1 : Int32)).toNatClampNeg) dX5_dropLeg_38 hC (cl_S (by omega) (by decide)) rfl b38 rfl ?_
    obtain ⟨b39, h⟩ := h
    refine jq_iast (n := n) (o := 3) (j := x2.toNatClampNeg) dX5_dropLeg_39 hC (cl_S (by omega) (by decide)) (fun _ => rfl) b39 rfl ?_
    refine jq_w (fun w39 e39 => ?_)
    have h := h w39 e39
    refine jq_aload_n (k0 := 0) dX5_dropLeg_40 hC rfl rfl ?_
    refine jq_get (k0 := 5) (n := n) (o := 0) dX5_dropLeg_41 hC (cl_S (by omega) (by decide)) rfl rfl hi_X5_dropLeg_X5 (by decide) hl_X5_dropLeg_21 rfl rfl ?_
    refine jq_iload_n (k0 := 1) dX5_dropLeg_44 hC rfl rfl ?_
    refine jq_aload_n (k0 := 0) dX5_dropLeg_45 hC rfl rfl ?_
    refine jq_get (k0 := 5) (n := n) (o := 0) dX5_dropLeg_46 hC (cl_S (by omega) (by decide)) rfl rfl hi_X5_dropLeg_X5 (by decide) hl_X5_dropLeg_21 rfl rfl ?_
    refine jq_iload_n (k0 := 1) dX5_dropLeg_49 hC rfl rfl ?_
    refine jq_iconst (v := (1 : Int32)) dX5_dropLeg_50 hC (by decide) ?_
    refine jq_iadd dX5_dropLeg_51 hC ?_
    obtain ⟨b52, h⟩ := h
    refine jq_iald (n := n) (o := 4) (j := (x2 + (1 : Int32)).toNatClampNeg) dX5_dropLeg_52 hC (cl_S (by omega) (by decide)) rfl b52 rfl ?_
    obtain ⟨b53, h⟩ := h
    refine jq_iast (n := n) (o := 4) (j := x2.toNatClampNeg) dX5_dropLeg_53 hC (cl_S (by omega) (by decide)) (fun _ => rfl) b53 rfl ?_
    refine jq_w (fun w53 e53 => ?_)
    have h := h w53 e53
    refine jq_aload_n (k0 := 0) dX5_dropLeg_54 hC rfl rfl ?_
    refine jq_get (k0 := 6) (n := n) (o := 0) dX5_dropLeg_55 hC (cl_S (by omega) (by decide)) rfl rfl hi_X5_dropLeg_X5 (by decide) hl_X5_dropLeg_24 rfl rfl ?_
    refine jq_iload_n (k0 := 1) dX5_dropLeg_58 hC rfl rfl ?_
    refine jq_aload_n (k0 := 0) dX5_dropLeg_59 hC rfl rfl ?_
    refine jq_get (k0 := 6) (n := n) (o := 0) dX5_dropLeg_60 hC (cl_S (by omega) (by decide)) rfl rfl hi_X5_dropLeg_X5 (by decide) hl_X5_dropLeg_24 rfl rfl ?_
    refine jq_iload_n (k0 := 1) dX5_dropLeg_63 hC rfl rfl ?_
    refine jq_iconst (v := (1 : Int32)) dX5_dropLeg_64 hC (by decide) ?_
    refine jq_iadd dX5_dropLeg_65 hC ?_
    obtain ⟨b66, h⟩ := h
    refine jq_iald (n := n) (o := 5) (j := (x2 + (1 : Int32)).toNatClampNeg) dX5_dropLeg_66 hC (cl_S (by omega) (by decide)) rfl b66 rfl ?_
    obtain ⟨b67, h⟩ := h
    refine jq_iast (n := n) (o := 5) (j := x2.toNatClampNeg) dX5_dropLeg_67 hC (cl_S (by omega) (by decide)) (fun _ => rfl) b67 rfl ?_
    refine jq_w (fun w67 e67 => ?_)
    have h := h w67 e67
    refine jq_iinc (k0 := 1) (v := (x2 + 1)) (L' := [(2, .int (x2 + 1)), (0, .ref (aD G n 0))]) dX5_dropLeg_68 hC rfl rfl (by decide) rfl ?_
    refine jq_goto (tgt := 2) dX5_dropLeg_71 hC (by decide) ?_
    exact jq_less (L' := [(0, .ref (aD G n 0)), (2, .int (x2 + 1))]) [1, 0] rfl (hK2 _ _ h)
theorem ok_X5_dropLeg_L2 {G : Gt} {M : Mx} {Qf : State → Prop} {n : Nat} {x2 : Int32} {w : Wd} {Q : Wd → Prop} (hC : cx G D_X5_dropLeg M) (he : en G M (qv Q) Qf) (hn : n < 8) (h : wp_X5_dropLeg_L2 n x2 w Q) : jq G D_X5_dropLeg M Qf 2 [(0, .ref (aD G n 0)), (2, .int x2)] [] w := by
  unfold wp_X5_dropLeg_L2 at h
  obtain ⟨I, μ, h0, hs⟩ := h
  exact lp_ind (σ := Int32 × Wd) (P := fun s => jq G D_X5_dropLeg M Qf 2 [(0, .ref (aD G n 0)), (2, .int s.1)] [] s.2) (fun s => I s.1 s.2) (fun s => μ s.1 s.2) (fun s h1 ih => ok_X5_dropLeg_B2 hC he hn (hs s.1 s.2 h1) (fun x2' w' h => ih (x2', w') h.1 h.2)) (x2, w) h0
theorem ok_X5_dropLeg {G : Gt} {M : Mx} {Qf : State → Prop} {n : Nat} {x1 : Int32} {w : Wd} {Q : Wd → Prop} (hC : cx G D_X5_dropLeg M) (he : en G M (qv Q) Qf) (hn : n < 8) (h : wp_X5_dropLeg n x1 w Q) : jq G D_X5_dropLeg M Qf 0 [(0, .ref (aD G n 0)), (1, .int x1)] [] w := by
  unfold wp_X5_dropLeg at h
  refine jq_iload_n (k0 := 1) dX5_dropLeg_0 hC rfl rfl ?_
  refine jq_istore_n (L' := [(2, .int x1), (0, .ref (aD G n 0)), (1, .int x1)]) dX5_dropLeg_1 hC rfl (by decide) rfl ?_
  refine jq_less (L' := [(0, .ref (aD G n 0)), (2, .int x1)]) [1, 0] rfl ?_
  exact ok_X5_dropLeg_L2 hC he hn h
theorem mt_X5_dropLeg {G : Gt} {n : Nat} {x1 : Int32} {w : Wd} {Q : Wd → Prop} (hn : n < 8) (h : wp_X5_dropLeg n x1 w Q) : Mt G D_X5_dropLeg [.ref (aD G n 0), .int x1] w (qv Q) := Mt_of (by decide +kernel) rfl rfl (Nat.le_of_ble_eq_true rfl) (fun M Qf hC he => ok_X5_dropLeg hC he hn h)
/-! X5.allLegs()I -/
theorem dX5_allLegs_0 : decode cX5_allLegs 0 = .ok (.iconst 1, 1) := by decide +kernel
theorem dX5_allLegs_1 : decode cX5_allLegs 1 = .ok (.aload_n 0, 1) := by decide +kernel
theorem dX5_allLegs_2 : decode cX5_allLegs 2 = .ok (.getfield 34, 3) := by decide +kernel
theorem dX5_allLegs_5 : decode cX5_allLegs 5 = .ok (.ishl, 1) := by decide +kernel
theorem dX5_allLegs_6 : decode cX5_allLegs 6 = .ok (.iconst 1, 1) := by decide +kernel
theorem dX5_allLegs_7 : decode cX5_allLegs 7 = .ok (.isub, 1) := by decide +kernel
theorem dX5_allLegs_8 : decode cX5_allLegs 8 = .ok (.ireturn, 1) := by decide +kernel
def D_X5_allLegs : Md := (yX5_allLegs, cX5_allLegs, 1, (some .int), wsX5_allLegs, RX5, { frames := 0, cells := 0, slots := 0, locals := 0 })
theorem nm_X5_allLegs : nmD D_X5_allLegs 0 := ⟨rfl, by decide +kernel, by decide +kernel, by decide +kernel⟩
theorem hi_X5_allLegs_X5 : ∀ w ∈ u_ws RX5 TX5 8, w ∈ wsX5_allLegs := by decide +kernel
theorem hl_X5_allLegs_34 : Cond.fieldLink RX5 34 "LevelLoops$Survey" "legs" "I" ∈ wsX5_allLegs := by decide +kernel
def wp_X5_allLegs (n : Nat) (w : Wd) (Q : Int32 → Prop) : Prop :=
  Q (((1 : Int32) <<< ((wi w n 0 1) &&& 31)) - (1 : Int32))
theorem ok_X5_allLegs {G : Gt} {M : Mx} {Qf : State → Prop} {n : Nat} {w : Wd} {Q : Int32 → Prop} (hC : cx G D_X5_allLegs M) (he : en G M (qip w Q) Qf) (hn : n < 8) (h : wp_X5_allLegs n w Q) : jq G D_X5_allLegs M Qf 0 [(0, .ref (aD G n 0))] [] w := by
  unfold wp_X5_allLegs at h
  refine jq_iconst (v := (1 : Int32)) dX5_allLegs_0 hC (by decide) ?_
  refine jq_aload_n (k0 := 0) dX5_allLegs_1 hC rfl rfl ?_
  refine jq_get (k0 := 1) (n := n) (o := 0) dX5_allLegs_2 hC (cl_S (by omega) (by decide)) rfl rfl hi_X5_allLegs_X5 (by decide) hl_X5_allLegs_34 rfl rfl ?_
  refine jq_ishl dX5_allLegs_5 hC ?_
  refine jq_iconst (v := (1 : Int32)) dX5_allLegs_6 hC (by decide) ?_
  refine jq_isub dX5_allLegs_7 hC ?_
  exact jq_iret dX5_allLegs_8 hC he rfl ⟨_, rfl, rfl, h⟩
theorem mt_X5_allLegs {G : Gt} {n : Nat} {w : Wd} {Q : Int32 → Prop} (hn : n < 8) (h : wp_X5_allLegs n w Q) : Mt G D_X5_allLegs [.ref (aD G n 0)] w (qip w Q) := Mt_of (by decide +kernel) rfl rfl (Nat.le_of_ble_eq_true rfl) (fun M Qf hC he => ok_X5_allLegs hC he hn h)
