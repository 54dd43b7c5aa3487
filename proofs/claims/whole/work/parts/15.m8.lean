/-! X8.isKnownOrNone(I)Z -/
theorem dX8_isKnownOrNone_0 : decode cX8_isKnownOrNone 0 = .ok (.iload_n 0, 1) := by decide +kernel
theorem dX8_isKnownOrNone_1 : decode cX8_isKnownOrNone 1 = .ok (.iconst (-1), 1) := by decide +kernel
theorem dX8_isKnownOrNone_2 : decode cX8_isKnownOrNone 2 = .ok (.if_icmp .eq 13, 3) := by decide +kernel
theorem dX8_isKnownOrNone_5 : decode cX8_isKnownOrNone 5 = .ok (.iload_n 0, 1) := by decide +kernel
theorem dX8_isKnownOrNone_6 : decode cX8_isKnownOrNone 6 = .ok (.ifCond .lt 13, 3) := by decide +kernel
theorem dX8_isKnownOrNone_9 : decode cX8_isKnownOrNone 9 = .ok (.iload_n 0, 1) := by decide +kernel
theorem dX8_isKnownOrNone_10 : decode cX8_isKnownOrNone 10 = .ok (.ldc 98, 2) := by decide +kernel
theorem dX8_isKnownOrNone_12 : decode cX8_isKnownOrNone 12 = .ok (.if_icmp .gt 7, 3) := by decide +kernel
theorem dX8_isKnownOrNone_15 : decode cX8_isKnownOrNone 15 = .ok (.iconst 1, 1) := by decide +kernel
theorem dX8_isKnownOrNone_16 : decode cX8_isKnownOrNone 16 = .ok (.goto 4, 3) := by decide +kernel
theorem dX8_isKnownOrNone_19 : decode cX8_isKnownOrNone 19 = .ok (.iconst 0, 1) := by decide +kernel
theorem dX8_isKnownOrNone_20 : decode cX8_isKnownOrNone 20 = .ok (.ireturn, 1) := by decide +kernel
def D_X8_isKnownOrNone : Md := (yX8_isKnownOrNone, cX8_isKnownOrNone, 1, (some .boolean), wsX8_isKnownOrNone, RX8, { frames := 0, cells := 0, slots := 0, locals := 0 })
theorem nm_X8_isKnownOrNone : nmD D_X8_isKnownOrNone 1 := ⟨rfl, by decide +kernel, by decide +kernel, by decide +kernel⟩
def wp_X8_isKnownOrNone_J19 (Q : Int32 → Prop) : Prop :=
  zb (0 : Int32) ∧ Q (0 : Int32)
def wp_X8_isKnownOrNone (x0 : Int32) (Q : Int32 → Prop) : Prop :=
  ((x0 = (-1 : Int32) → zb (1 : Int32) ∧ Q (1 : Int32)) ∧ (¬ x0 = (-1 : Int32) → ((x0 < 0 → wp_X8_isKnownOrNone_J19 Q) ∧ (¬ x0 < 0 → (((99999 : Int32) < x0 → wp_X8_isKnownOrNone_J19 Q) ∧ (¬ (99999 : Int32) < x0 → zb (1 : Int32) ∧ Q (1 : Int32)))))))
theorem ok_X8_isKnownOrNone_J19 {G : Gt} {M : Mx} {Qf : State → Prop} {w : Wd} {Q : Int32 → Prop} (hC : cx G D_X8_isKnownOrNone M) (he : en G M (qip w Q) Qf) (h : wp_X8_isKnownOrNone_J19 Q) : jq G D_X8_isKnownOrNone M Qf 19 [] [] w := by
  unfold wp_X8_isKnownOrNone_J19 at h
  refine jq_iconst (v := (0 : Int32)) dX8_isKnownOrNone_19 hC (by decide) ?_
  obtain ⟨bz, h⟩ := h
  exact jq_zret dX8_isKnownOrNone_20 hC he rfl bz ⟨_, rfl, rfl, h⟩
theorem ok_X8_isKnownOrNone {G : Gt} {M : Mx} {Qf : State → Prop} {x0 : Int32} {w : Wd} {Q : Int32 → Prop} (hC : cx G D_X8_isKnownOrNone M) (he : en G M (qip w Q) Qf) (h : wp_X8_isKnownOrNone x0 Q) : jq G D_X8_isKnownOrNone M Qf 0 [(0, .int x0)] [] w := by
  unfold wp_X8_isKnownOrNone at h
  refine jq_iload_n (k0 := 0) dX8_isKnownOrNone_0 hC rfl rfl ?_
  refine jq_iconst (v := (-1 : Int32)) dX8_isKnownOrNone_1 hC (by decide) ?_
  refine jq_icmp_eq (tgt := 15) dX8_isKnownOrNone_2 hC (by decide) (fun c2 => ?_) (fun c2 => ?_)
  · have h := h.1 c2
    refine jq_iconst (v := (1 : Int32)) dX8_isKnownOrNone_15 hC (by decide) ?_
    refine jq_goto (tgt := 20) dX8_isKnownOrNone_16 hC (by decide) ?_
    obtain ⟨bz, h⟩ := h
    exact jq_zret dX8_isKnownOrNone_20 hC he rfl bz ⟨_, rfl, rfl, h⟩
  · have h := h.2 c2
    refine jq_iload_n (k0 := 0) dX8_isKnownOrNone_5 hC rfl rfl ?_
    refine jq_if_lt (tgt := 19) dX8_isKnownOrNone_6 hC (by decide) (fun c6 => ?_) (fun c6 => ?_)
    · have h := h.1 c6
      refine jq_less (L' := []) [] rfl ?_
      exact ok_X8_isKnownOrNone_J19 hC he h
    · have h := h.2 c6
      refine jq_iload_n (k0 := 0) dX8_isKnownOrNone_9 hC rfl rfl ?_
      refine jq_ldc (v := (99999 : Int32)) dX8_isKnownOrNone_10 hC (by decide +kernel) ?_
      refine jq_icmp_gt (tgt := 19) dX8_isKnownOrNone_12 hC (by decide) (fun c12 => ?_) (fun c12 => ?_)
      · have h := h.1 c12
        refine jq_less (L' := []) [] rfl ?_
        exact ok_X8_isKnownOrNone_J19 hC he h
      · have h := h.2 c12
        refine jq_iconst (v := (1 : Int32)) dX8_isKnownOrNone_15 hC (by decide) ?_
        refine jq_goto (tgt := 20) dX8_isKnownOrNone_16 hC (by decide) ?_
        obtain ⟨bz, h⟩ := h
        exact jq_zret dX8_isKnownOrNone_20 hC he rfl bz ⟨_, rfl, rfl, h⟩
theorem mt_X8_isKnownOrNone {G : Gt} {x0 : Int32} {w : Wd} {Q : Int32 → Prop} (h : wp_X8_isKnownOrNone x0 Q) : Mt G D_X8_isKnownOrNone [.int x0] w (qip w Q) := Mt_of (by decide +kernel) rfl rfl (Nat.le_of_ble_eq_true rfl) (fun M Qf hC he => ok_X8_isKnownOrNone hC he h)
/-! X8.isDifference(I)Z -/
theorem dX8_isDifference_0 : decode cX8_isDifference 0 = .ok (.iload_n 0, 1) := by decide +kernel
theorem dX8_isDifference_1 : decode cX8_isDifference 1 = .ok (.sipush (-9999), 3) := by decide +kernel
theorem dX8_isDifference_4 : decode cX8_isDifference 4 = .ok (.if_icmp .lt 14, 3) := by decide +kernel
theorem dX8_isDifference_7 : decode cX8_isDifference 7 = .ok (.iload_n 0, 1) := by decide +kernel
theorem dX8_isDifference_8 : decode cX8_isDifference 8 = .ok (.sipush 9999, 3) := by decide +kernel
theorem dX8_isDifference_11 : decode cX8_isDifference 11 = .ok (.if_icmp .gt 7, 3) := by decide +kernel
theorem dX8_isDifference_14 : decode cX8_isDifference 14 = .ok (.iconst 1, 1) := by decide +kernel
theorem dX8_isDifference_15 : decode cX8_isDifference 15 = .ok (.goto 4, 3) := by decide +kernel
theorem dX8_isDifference_18 : decode cX8_isDifference 18 = .ok (.iconst 0, 1) := by decide +kernel
theorem dX8_isDifference_19 : decode cX8_isDifference 19 = .ok (.ireturn, 1) := by decide +kernel
def D_X8_isDifference : Md := (yX8_isDifference, cX8_isDifference, 1, (some .boolean), wsX8_isDifference, RX8, { frames := 0, cells := 0, slots := 0, locals := 0 })
theorem nm_X8_isDifference : nmD D_X8_isDifference 1 := ⟨rfl, by decide +kernel, by decide +kernel, by decide +kernel⟩
def wp_X8_isDifference_J18 (Q : Int32 → Prop) : Prop :=
  zb (0 : Int32) ∧ Q (0 : Int32)
def wp_X8_isDifference (x0 : Int32) (Q : Int32 → Prop) : Prop :=
  ((x0 < (-9999 : Int32) → wp_X8_isDifference_J18 Q) ∧ (¬ x0 < (-9999 : Int32) → (((9999 : Int32) < x0 → wp_X8_isDifference_J18 Q) ∧ (¬ (9999 : Int32) < x0 → zb (1 : Int32) ∧ Q (1 : Int32)))))
theorem ok_X8_isDifference_J18 {G : Gt} {M : Mx} {Qf : State → Prop} {w : Wd} {Q : Int32 → Prop} (hC : cx G D_X8_isDifference M) (he : en G M (qip w Q) Qf) (h : wp_X8_isDifference_J18 Q) : jq G D_X8_isDifference M Qf 18 [] [] w := by
  unfold wp_X8_isDifference_J18 at h
  refine jq_iconst (v := (0 : Int32)) dX8_isDifference_18 hC (by decide) ?_
  obtain ⟨bz, h⟩ := h
  exact jq_zret dX8_isDifference_19 hC he rfl bz ⟨_, rfl, rfl, h⟩
theorem ok_X8_isDifference {G : Gt} {M : Mx} {Qf : State → Prop} {x0 : Int32} {w : Wd} {Q : Int32 → Prop} (hC : cx G D_X8_isDifference M) (he : en G M (qip w Q) Qf) (h : wp_X8_isDifference x0 Q) : jq G D_X8_isDifference M Qf 0 [(0, .int x0)] [] w := by
  unfold wp_X8_isDifference at h
  refine jq_iload_n (k0 := 0) dX8_isDifference_0 hC rfl rfl ?_
  refine jq_sipush (v := (-9999 : Int32)) dX8_isDifference_1 hC (by decide) ?_
  refine jq_icmp_lt (tgt := 18) dX8_isDifference_4 hC (by decide) (fun c4 => ?_) (fun c4 => ?_)
  · have h := h.1 c4
    refine jq_less (L' := []) [] rfl ?_
    exact ok_X8_isDifference_J18 hC he h
  · have h := h.2 c4
    refine jq_iload_n (k0 := 0) dX8_isDifference_7 hC rfl rfl ?_
    refine jq_sipush (v := (9999 : Int32)) dX8_isDifference_8 hC (by decide) ?_
    refine jq_icmp_gt (tgt := 18) dX8_isDifference_11 hC (by decide) (fun c11 => ?_) (fun c11 => ?_)
    · have h := h.1 c11
      refine jq_less (L' := []) [] rfl ?_
      exact ok_X8_isDifference_J18 hC he h
    · have h := h.2 c11
      refine jq_iconst (v := (1 : Int32)) dX8_isDifference_14 hC (by decide) ?_
      refine jq_goto (tgt := 19) dX8_isDifference_15 hC (by decide) ?_
      obtain ⟨bz, h⟩ := h
      exact jq_zret dX8_isDifference_19 hC he rfl bz ⟨_, rfl, rfl, h⟩
theorem mt_X8_isDifference {G : Gt} {x0 : Int32} {w : Wd} {Q : Int32 → Prop} (h : wp_X8_isDifference x0 Q) : Mt G D_X8_isDifference [.int x0] w (qip w Q) := Mt_of (by decide +kernel) rfl rfl (Nat.le_of_ble_eq_true rfl) (fun M Qf hC he => ok_X8_isDifference hC he h)
/-! X8.isLength(I)Z -/
theorem dX8_isLength_0 : decode cX8_isLength 0 = .ok (.iload_n 0, 1) := by decide +kernel
theorem dX8_isLength_1 : decode cX8_isLength 1 = .ok (.iconst 1, 1) := by decide +kernel
theorem dX8_isLength_2 : decode cX8_isLength 2 = .ok (.if_icmp .lt 13, 3) := by decide +kernel
theorem dX8_isLength_5 : decode cX8_isLength 5 = .ok (.iload_n 0, 1) := by decide +kernel
theorem dX8_isLength_6 : decode cX8_isLength 6 = .ok (.bipush 99, 2) := by decide +kernel
theorem dX8_isLength_8 : decode cX8_isLength 8 = .ok (.if_icmp .gt 7, 3) := by decide +kernel
theorem dX8_isLength_11 : decode cX8_isLength 11 = .ok (.iconst 1, 1) := by decide +kernel
theorem dX8_isLength_12 : decode cX8_isLength 12 = .ok (.goto 4, 3) := by decide +kernel
theorem dX8_isLength_15 : decode cX8_isLength 15 = .ok (.iconst 0, 1) := by decide +kernel
theorem dX8_isLength_16 : decode cX8_isLength 16 = .ok (.ireturn, 1) := by decide +kernel
def D_X8_isLength : Md := (yX8_isLength, cX8_isLength, 1, (some .boolean), wsX8_isLength, RX8, { frames := 0, cells := 0, slots := 0, locals := 0 })
theorem nm_X8_isLength : nmD D_X8_isLength 1 := ⟨rfl, by decide +kernel, by decide +kernel, by decide +kernel⟩
def wp_X8_isLength_J15 (Q : Int32 → Prop) : Prop :=
  zb (0 : Int32) ∧ Q (0 : Int32)
def wp_X8_isLength (x0 : Int32) (Q : Int32 → Prop) : Prop :=
  ((x0 < (1 : Int32) → wp_X8_isLength_J15 Q) ∧ (¬ x0 < (1 : Int32) → (((99 : Int32) < x0 → wp_X8_isLength_J15 Q) ∧ (¬ (99 : Int32) < x0 → zb (1 : Int32) ∧ Q (1 : Int32)))))
theorem ok_X8_isLength_J15 {G : Gt} {M : Mx} {Qf : State → Prop} {w : Wd} {Q : Int32 → Prop} (hC : cx G D_X8_isLength M) (he : en G M (qip w Q) Qf) (h : wp_X8_isLength_J15 Q) : jq G D_X8_isLength M Qf 15 [] [] w := by
  unfold wp_X8_isLength_J15 at h
  refine jq_iconst (v := (0 : Int32)) dX8_isLength_15 hC (by decide) ?_
  obtain ⟨bz, h⟩ := h
  exact jq_zret dX8_isLength_16 hC he rfl bz ⟨_, rfl, rfl, h⟩
theorem ok_X8_isLength {G : Gt} {M : Mx} {Qf : State → Prop} {x0 : Int32} {w : Wd} {Q : Int32 → Prop} (hC : cx G D_X8_isLength M) (he : en G M (qip w Q) Qf) (h : wp_X8_isLength x0 Q) : jq G D_X8_isLength M Qf 0 [(0, .int x0)] [] w := by
  unfold wp_X8_isLength at h
  refine jq_iload_n (k0 := 0) dX8_isLength_0 hC rfl rfl ?_
  refine jq_iconst (v := (1 : Int32)) dX8_isLength_1 hC (by decide) ?_
  refine jq_icmp_lt (tgt := 15) dX8_isLength_2 hC (by decide) (fun c2 => ?_) (fun c2 => ?_)
  · have h := h.1 c2
    refine jq_less (L' := []) [] rfl ?_
    exact ok_X8_isLength_J15 hC he h
  · have h := h.2 c2
    refine jq_iload_n (k0 := 0) dX8_isLength_5 hC rfl rfl ?_
    refine jq_bipush (v := (99 : Int32)) dX8_isLength_6 hC (by decide) ?_
    refine jq_icmp_gt (tgt := 15) dX8_isLength_8 hC (by decide) (fun c8 => ?_) (fun c8 => ?_)
    · have h := h.1 c8
      refine jq_less (L' := []) [] rfl ?_
      exact ok_X8_isLength_J15 hC he h
    · have h := h.2 c8
      refine jq_iconst (v := (1 : Int32)) dX8_isLength_11 hC (by decide) ?_
      refine jq_goto (tgt := 16) dX8_isLength_12 hC (by decide) ?_
      obtain ⟨bz, h⟩ := h
      exact jq_zret dX8_isLength_16 hC he rfl bz ⟨_, rfl, rfl, h⟩
theorem mt_X8_isLength {G : Gt} {x0 : Int32} {w : Wd} {Q : Int32 → Prop} (h : wp_X8_isLength x0 Q) : Mt G D_X8_isLength [.int x0] w (qip w Q) := Mt_of (by decide +kernel) rfl rfl (Nat.le_of_ble_eq_true rfl) (fun M Qf hC he => ok_X8_isLength hC he h)
/-! X8.isSetting(I)Z -/
theorem dX8_isSetting_0 : decode cX8_isSetting 0 = .ok (.iload_n 0, 1) := by decide +kernel
theorem dX8_isSetting_1 : decode cX8_isSetting 1 = .ok (.ifCond .lt 12, 3) := by decide +kernel
theorem dX8_isSetting_4 : decode cX8_isSetting 4 = .ok (.iload_n 0, 1) := by decide +kernel
theorem dX8_isSetting_5 : decode cX8_isSetting 5 = .ok (.iconst 3, 1) := by decide +kernel
theorem dX8_isSetting_6 : decode cX8_isSetting 6 = .ok (.if_icmp .ge 7, 3) := by decide +kernel
theorem dX8_isSetting_9 : decode cX8_isSetting 9 = .ok (.iconst 1, 1) := by decide +kernel
theorem dX8_isSetting_10 : decode cX8_isSetting 10 = .ok (.goto 4, 3) := by decide +kernel
theorem dX8_isSetting_13 : decode cX8_isSetting 13 = .ok (.iconst 0, 1) := by decide +kernel
theorem dX8_isSetting_14 : decode cX8_isSetting 14 = .ok (.ireturn, 1) := by decide +kernel
def D_X8_isSetting : Md := (yX8_isSetting, cX8_isSetting, 1, (some .boolean), wsX8_isSetting, RX8, { frames := 0, cells := 0, slots := 0, locals := 0 })
theorem nm_X8_isSetting : nmD D_X8_isSetting 1 := ⟨rfl, by decide +kernel, by decide +kernel, by decide +kernel⟩
def wp_X8_isSetting_J13 (Q : Int32 → Prop) : Prop :=
  zb (0 : Int32) ∧ Q (0 : Int32)
def wp_X8_isSetting (x0 : Int32) (Q : Int32 → Prop) : Prop :=
  ((x0 < 0 → wp_X8_isSetting_J13 Q) ∧ (¬ x0 < 0 → (((3 : Int32) ≤ x0 → wp_X8_isSetting_J13 Q) ∧ (¬ (3 : Int32) ≤ x0 → zb (1 : Int32) ∧ Q (1 : Int32)))))
theorem ok_X8_isSetting_J13 {G : Gt} {M : Mx} {Qf : State → Prop} {w : Wd} {Q : Int32 → Prop} (hC : cx G D_X8_isSetting M) (he : en G M (qip w Q) Qf) (h : wp_X8_isSetting_J13 Q) : jq G D_X8_isSetting M Qf 13 [] [] w := by
  unfold wp_X8_isSetting_J13 at h
  refine jq_iconst (v := (0 : Int32)) dX8_isSetting_13 hC (by decide) ?_
  obtain ⟨bz, h⟩ := h
  exact jq_zret dX8_isSetting_14 hC he rfl bz ⟨_, rfl, rfl, h⟩
theorem ok_X8_isSetting {G : Gt} {M : Mx} {Qf : State → Prop} {x0 : Int32} {w : Wd} {Q : Int32 → Prop} (hC : cx G D_X8_isSetting M) (he : en G M (qip w Q) Qf) (h : wp_X8_isSetting x0 Q) : jq G D_X8_isSetting M Qf 0 [(0, .int x0)] [] w := by
  unfold wp_X8_isSetting at h
  refine jq_iload_n (k0 := 0) dX8_isSetting_0 hC rfl rfl ?_
  refine jq_if_lt (tgt := 13) dX8_isSetting_1 hC (by decide) (fun c1 => ?_) (fun c1 => ?_)
  · have h := h.1 c1
    refine jq_less (L' := []) [] rfl ?_
    exact ok_X8_isSetting_J13 hC he h
  · have h := h.2 c1
    refine jq_iload_n (k0 := 0) dX8_isSetting_4 hC rfl rfl ?_
    refine jq_iconst (v := (3 : Int32)) dX8_isSetting_5 hC (by decide) ?_
    refine jq_icmp_ge (tgt := 13) dX8_isSetting_6 hC (by decide) (fun c6 => ?_) (fun c6 => ?_)
    · have h := h.1 c6
      refine jq_less (L' := []) [] rfl ?_
      exact ok_X8_isSetting_J13 hC he h
    · have h := h.2 c6
      refine jq_iconst (v := (1 : Int32)) dX8_isSetting_9 hC (by decide) ?_
      refine jq_goto (tgt := 14) dX8_isSetting_10 hC (by decide) ?_
      obtain ⟨bz, h⟩ := h
      exact jq_zret dX8_isSetting_14 hC he rfl bz ⟨_, rfl, rfl, h⟩
theorem mt_X8_isSetting {G : Gt} {x0 : Int32} {w : Wd} {Q : Int32 → Prop} (h : wp_X8_isSetting x0 Q) : Mt G D_X8_isSetting [.int x0] w (qip w Q) := Mt_of (by decide +kernel) rfl rfl (Nat.le_of_ble_eq_true rfl) (fun M Qf hC he => ok_X8_isSetting hC he h)
/-! X8.clearBuffer()I -/
theorem dX8_clearBuffer_0 : decode cX8_clearBuffer 0 = .ok (.aload_n 0, 1) := by decide +kernel
theorem dX8_clearBuffer_1 : decode cX8_clearBuffer 1 = .ok (.getfield 41, 3) := by decide +kernel
theorem dX8_clearBuffer_4 : decode cX8_clearBuffer 4 = .ok (.getfield 148, 3) := by decide +kernel
theorem dX8_clearBuffer_7 : decode cX8_clearBuffer 7 = .ok (.istore_n 1, 1) := by decide +kernel
theorem dX8_clearBuffer_8 : decode cX8_clearBuffer 8 = .ok (.aload_n 0, 1) := by decide +kernel
theorem dX8_clearBuffer_9 : decode cX8_clearBuffer 9 = .ok (.getfield 41, 3) := by decide +kernel
theorem dX8_clearBuffer_12 : decode cX8_clearBuffer 12 = .ok (.iconst 0, 1) := by decide +kernel
theorem dX8_clearBuffer_13 : decode cX8_clearBuffer 13 = .ok (.putfield 148, 3) := by decide +kernel
theorem dX8_clearBuffer_16 : decode cX8_clearBuffer 16 = .ok (.iload_n 1, 1) := by decide +kernel
theorem dX8_clearBuffer_17 : decode cX8_clearBuffer 17 = .ok (.ireturn, 1) := by decide +kernel
def D_X8_clearBuffer : Md := (yX8_clearBuffer, cX8_clearBuffer, 2, (some .int), wsX8_clearBuffer, RX8, { frames := 0, cells := 0, slots := 0, locals := 0 })
theorem nm_X8_clearBuffer : nmD D_X8_clearBuffer 0 := ⟨rfl, by decide +kernel, by decide +kernel, by decide +kernel⟩
theorem hi_X8_clearBuffer_X6 : ∀ w ∈ u_ws RX6 TX6 2, w ∈ wsX8_clearBuffer := by decide +kernel
theorem hi_X8_clearBuffer_X8 : ∀ w ∈ u_ws RX8 TX8 7, w ∈ wsX8_clearBuffer := by decide +kernel
theorem hl_X8_clearBuffer_41 : Cond.fieldLink RX8 41 "LevelLoops" "text" "LLevelLoops$Text;" ∈ wsX8_clearBuffer := by decide +kernel
theorem hl_X8_clearBuffer_148 : Cond.fieldLink RX8 148 "LevelLoops$Text" "size" "I" ∈ wsX8_clearBuffer := by decide +kernel
def wp_X8_clearBuffer (w : Wd) (Q : Int32 → Wd → Prop) : Prop :=
  (∀ w13 : Wd, w13 = (sI w 0 29 0 (0 : Int32)) → Q (wi w 0 29 0) w13)
theorem ok_X8_clearBuffer {G : Gt} {M : Mx} {Qf : State → Prop} {w : Wd} {Q : Int32 → Wd → Prop} (hC : cx G D_X8_clearBuffer M) (he : en G M (qi Q) Qf) (h : wp_X8_clearBuffer w Q) : jq G D_X8_clearBuffer M Qf 0 [(0, .ref (aD G 0 26))] [] w := by
  unfold wp_X8_clearBuffer at h
  refine jq_aload_n (k0 := 0) dX8_clearBuffer_0 hC rfl rfl ?_
  refine jq_get (k0 := 5) (n := 0) (o := 26) dX8_clearBuffer_1 hC (cl_0 (by decide)) rfl rfl hi_X8_clearBuffer_X8 (by decide) hl_X8_clearBuffer_41 rfl rfl ?_
  refine jq_get (k0 := 0) (n := 0) (o := 29) dX8_clearBuffer_4 hC (cl_0 (by decide)) rfl rfl hi_X8_clearBuffer_X6 (by decide) hl_X8_clearBuffer_148 rfl rfl ?_
  refine jq_istore_n (L' := [(1, .int (wi w 0 29 0)), (0, .ref (aD G 0 26))]) dX8_clearBuffer_7 hC rfl (by decide) rfl ?_
  refine jq_aload_n (k0 := 1) dX8_clearBuffer_8 hC rfl rfl ?_
  refine jq_get (k0 := 5) (n := 0) (o := 26) dX8_clearBuffer_9 hC (cl_0 (by decide)) rfl rfl hi_X8_clearBuffer_X8 (by decide) hl_X8_clearBuffer_41 rfl rfl ?_
  refine jq_iconst (v := (0 : Int32)) dX8_clearBuffer_12 hC (by decide) ?_
  refine jq_put (k0 := 0) (n := 0) (o := 29) (ty := .int) (w' := (sI w 0 29 0 (0 : Int32))) dX8_clearBuffer_13 hC (cl_0 (by decide)) rfl rfl hi_X8_clearBuffer_X6 tyX6 tyX6_ok nmX6 (by decide) hl_X8_clearBuffer_148 rfl rfl (by decide +kernel) rfl rfl (Nat.le_of_ble_eq_true rfl) (e_29_0 G _ _ _) (fun c _ hne => ent_sA c hne) ?_
  refine jq_w (fun w13 e13 => ?_)
  have h := h w13 e13
  refine jq_iload_n (k0 := 0) dX8_clearBuffer_16 hC rfl rfl ?_
  exact jq_iret dX8_clearBuffer_17 hC he rfl ⟨_, rfl, h⟩
theorem mt_X8_clearBuffer {G : Gt} {w : Wd} {Q : Int32 → Wd → Prop} (h : wp_X8_clearBuffer w Q) : Mt G D_X8_clearBuffer [.ref (aD G 0 26)] w (qi Q) := Mt_of (by decide +kernel) rfl rfl (Nat.le_of_ble_eq_true rfl) (fun M Qf hC he => ok_X8_clearBuffer hC he h)
/-! X8.readThrough()I -/
theorem dX8_readThrough_0 : decode cX8_readThrough 0 = .ok (.aload_n 0, 1) := by decide +kernel
theorem dX8_readThrough_1 : decode cX8_readThrough 1 = .ok (.getfield 48, 3) := by decide +kernel
theorem dX8_readThrough_4 : decode cX8_readThrough 4 = .ok (.invokevirtual 266, 3) := by decide +kernel
theorem dX8_readThrough_7 : decode cX8_readThrough 7 = .ok (.iconst 0, 1) := by decide +kernel
theorem dX8_readThrough_8 : decode cX8_readThrough 8 = .ok (.istore_n 1, 1) := by decide +kernel
theorem dX8_readThrough_9 : decode cX8_readThrough 9 = .ok (.iload_n 1, 1) := by decide +kernel
theorem dX8_readThrough_10 : decode cX8_readThrough 10 = .ok (.aload_n 0, 1) := by decide +kernel
theorem dX8_readThrough_11 : decode cX8_readThrough 11 = .ok (.getfield 41, 3) := by decide +kernel
theorem dX8_readThrough_14 : decode cX8_readThrough 14 = .ok (.getfield 148, 3) := by decide +kernel
theorem dX8_readThrough_17 : decode cX8_readThrough 17 = .ok (.if_icmp .ge 30, 3) := by decide +kernel
theorem dX8_readThrough_20 : decode cX8_readThrough 20 = .ok (.aload_n 0, 1) := by decide +kernel
theorem dX8_readThrough_21 : decode cX8_readThrough 21 = .ok (.getfield 48, 3) := by decide +kernel
theorem dX8_readThrough_24 : decode cX8_readThrough 24 = .ok (.aload_n 0, 1) := by decide +kernel
theorem dX8_readThrough_25 : decode cX8_readThrough 25 = .ok (.getfield 41, 3) := by decide +kernel
theorem dX8_readThrough_28 : decode cX8_readThrough 28 = .ok (.getfield 224, 3) := by decide +kernel
theorem dX8_readThrough_31 : decode cX8_readThrough 31 = .ok (.iload_n 1, 1) := by decide +kernel
theorem dX8_readThrough_32 : decode cX8_readThrough 32 = .ok (.iaload, 1) := by decide +kernel
theorem dX8_readThrough_33 : decode cX8_readThrough 33 = .ok (.invokevirtual 269, 3) := by decide +kernel
theorem dX8_readThrough_36 : decode cX8_readThrough 36 = .ok (.ifCond .ne 5, 3) := by decide +kernel
theorem dX8_readThrough_39 : decode cX8_readThrough 39 = .ok (.iload_n 1, 1) := by decide +kernel
theorem dX8_readThrough_40 : decode cX8_readThrough 40 = .ok (.ireturn, 1) := by decide +kernel
theorem dX8_readThrough_41 : decode cX8_readThrough 41 = .ok (.iinc 1 1, 3) := by decide +kernel
theorem dX8_readThrough_44 : decode cX8_readThrough 44 = .ok (.goto (-35), 3) := by decide +kernel
theorem dX8_readThrough_47 : decode cX8_readThrough 47 = .ok (.aload_n 0, 1) := by decide +kernel
theorem dX8_readThrough_48 : decode cX8_readThrough 48 = .ok (.getfield 41, 3) := by decide +kernel
theorem dX8_readThrough_51 : decode cX8_readThrough 51 = .ok (.getfield 148, 3) := by decide +kernel
theorem dX8_readThrough_54 : decode cX8_readThrough 54 = .ok (.ireturn, 1) := by decide +kernel
set_option maxRecDepth 20000 in
theorem ggX8_readThrough_X3_take : GoodIn wsX8_readThrough wsX3_take := goodIn_r _ [14, 10, 15, 16, 17, 18, 8, 19, 20, 21, 22, 23, 24, 25, 26, 27, 28, 29, 30, 31, 32, 33, 34, 35, 36, 37, 38, 39, 40, 41, 42, 43, 44, 45, 46, 47, 48, 49, 50, 51, 52, 53, 54, 55, 65, 66, 67, 68, 69, 70] (by decide +kernel) (by decide +kernel)
set_option maxRecDepth 20000 in
theorem gX8_readThrough_X3_take : GoodIn wsX8_readThrough (wsV RX8 269 RX3 yX3_take wsX3_take) := goodIn_app (goodIn_of _ (by decide +kernel)) ggX8_readThrough_X3_take
set_option maxRecDepth 20000 in
theorem ggX8_readThrough_X3_start : GoodIn wsX8_readThrough wsX3_start := goodIn_r _ [9, 10, 65, 66, 67, 68, 69, 70] (by decide +kernel) (by decide +kernel)
set_option maxRecDepth 20000 in
theorem gX8_readThrough_X3_start : GoodIn wsX8_readThrough (wsV RX8 266 RX3 yX3_start wsX3_start) := goodIn_app (goodIn_of _ (by decide +kernel)) ggX8_readThrough_X3_start
def D_X8_readThrough : Md := (yX8_readThrough, cX8_readThrough, 2, (some .int), wsX8_readThrough, RX8, { frames := 3, cells := 0, slots := 0, locals := 65 })
theorem nm_X8_readThrough : nmD D_X8_readThrough 0 := ⟨rfl, by decide +kernel, by decide +kernel, by decide +kernel⟩
theorem hi_X8_readThrough_X6 : ∀ w ∈ u_ws RX6 TX6 2, w ∈ wsX8_readThrough := by decide +kernel
theorem hi_X8_readThrough_X8 : ∀ w ∈ u_ws RX8 TX8 7, w ∈ wsX8_readThrough := by decide +kernel
theorem hl_X8_readThrough_41 : Cond.fieldLink RX8 41 "LevelLoops" "text" "LLevelLoops$Text;" ∈ wsX8_readThrough := by decide +kernel
theorem hl_X8_readThrough_48 : Cond.fieldLink RX8 48 "LevelLoops" "reader" "LLevelLoops$Reader;" ∈ wsX8_readThrough := by decide +kernel
theorem hl_X8_readThrough_148 : Cond.fieldLink RX8 148 "LevelLoops$Text" "size" "I" ∈ wsX8_readThrough := by decide +kernel
theorem hl_X8_readThrough_224 : Cond.fieldLink RX8 224 "LevelLoops$Text" "codes" "[I" ∈ wsX8_readThrough := by decide +kernel
def wp_X8_readThrough_B9 (x1 : Int32) (w : Wd) (Q : Int32 → Wd → Prop) (K9 : Int32 → Wd → Prop) : Prop :=
  (((wi w 0 29 0) ≤ x1 → Q (wi w 0 29 0) w) ∧ (¬ (wi w 0 29 0) ≤ x1 → vp_in x1 60 ∧ wp_X3_take (wi w 0 30 x1.toNatClampNeg) w (fun r33 w33 => ((¬ r33 = 0 → K9 (x1 + 1) w33) ∧ (r33 = 0 → Q x1 w33)))))
def wp_X8_readThrough_L9 (x1 : Int32) (w : Wd) (Q : Int32 → Wd → Prop) : Prop :=
  ∃ (I : Int32 → Wd → Prop) (μ : Int32 → Wd → Nat), I x1 w ∧ ∀ (x1 : Int32) (w : Wd), I x1 w → wp_X8_readThrough_B9 x1 w Q (fun x1' w' => I x1' w' ∧ μ x1' w' < μ x1 w)
def wp_X8_readThrough (w : Wd) (Q : Int32 → Wd → Prop) : Prop :=
  wp_X3_start w (fun w4 => wp_X8_readThrough_L9 (0 : Int32) w4 Q)
theorem ok_X8_readThrough_B9 {G : Gt} {M : Mx} {Qf : State → Prop} {x1 : Int32} {w : Wd} {Q : Int32 → Wd → Prop} {K9 : Int32 → Wd → Prop} (hC : cx G D_X8_readThrough M) (he : en G M (qi Q) Qf) (h : wp_X8_readThrough_B9 x1 w Q K9) (hK9 : ∀ (x1 : Int32) (w : Wd), K9 x1 w → jq G D_X8_readThrough M Qf 9 [(0, .ref (aD G 0 26)), (1, .int x1)] [] w) : jq G D_X8_readThrough M Qf 9 [(0, .ref (aD G 0 26)), (1, .int x1)] [] w := by
  unfold wp_X8_readThrough_B9 at h
  refine jq_iload_n (k0 := 1) dX8_readThrough_9 hC rfl rfl ?_
  refine jq_aload_n (k0 := 0) dX8_readThrough_10 hC rfl rfl ?_
  refine jq_get (k0 := 5) (n := 0) (o := 26) dX8_readThrough_11 hC (cl_0 (by decide)) rfl rfl hi_X8_readThrough_X8 (by decide) hl_X8_readThrough_41 rfl rfl ?_
  refine jq_get (k0 := 0) (n := 0) (o := 29) dX8_readThrough_14 hC (cl_0 (by decide)) rfl rfl hi_X8_readThrough_X6 (by decide) hl_X8_readThrough_148 rfl rfl ?_
  refine jq_icmp_ge (tgt := 47) dX8_readThrough_17 hC (by decide) (fun c17 => ?_) (fun c17 => ?_)
  · have h := h.1 c17
    refine jq_aload_n (k0 := 0) dX8_readThrough_47 hC rfl rfl ?_
    refine jq_get (k0 := 5) (n := 0) (o := 26) dX8_readThrough_48 hC (cl_0 (by decide)) rfl rfl hi_X8_readThrough_X8 (by decide) hl_X8_readThrough_41 rfl rfl ?_
    refine jq_get (k0 := 0) (n := 0) (o := 29) dX8_readThrough_51 hC (cl_0 (by decide)) rfl rfl hi_X8_readThrough_X6 (by decide) hl_X8_readThrough_148 rfl rfl ?_
    exact jq_iret dX8_readThrough_54 hC he rfl ⟨_, rfl, h⟩
  · have h := h.2 c17
    refine jq_aload_n (k0 := 0) dX8_readThrough_20 hC rfl rfl ?_
    refine jq_get (k0 := 6) (n := 0) (o := 26) dX8_readThrough_21 hC (cl_0 (by decide)) rfl rfl hi_X8_readThrough_X8 (by decide) hl_X8_readThrough_48 rfl rfl ?_
    refine jq_aload_n (k0 := 0) dX8_readThrough_24 hC rfl rfl ?_
    refine jq_get (k0 := 5) (n := 0) (o := 26) dX8_readThrough_25 hC (cl_0 (by decide)) rfl rfl hi_X8_readThrough_X8 (by decide) hl_X8_readThrough_41 rfl rfl ?_
    refine jq_get (k0 := 1) (n := 0) (o := 29) dX8_readThrough_28 hC (cl_0 (by decide)) rfl rfl hi_X8_readThrough_X6 (by decide) hl_X8_readThrough_224 rfl rfl ?_
    refine jq_iload_n (k0 := 1) dX8_readThrough_31 hC rfl rfl ?_
    obtain ⟨b32, h⟩ := h
    refine jq_iald (n := 0) (o := 30) (j := x1.toNatClampNeg) dX8_readThrough_32 hC (cl_0 (by decide)) rfl b32 rfl ?_
    refine jq_callV (As := [.int (wi w 0 30 x1.toNatClampNeg)]) (rest := []) (n := 0) (o := 31) (D' := D_X3_take) dX8_readThrough_33 hC (cl_0 (by decide)) rfl rfl rfl (mt_X3_take h) gX8_readThrough_X3_take rfl ⟨rfl, rfl, Nat.le_of_ble_eq_true rfl, Nat.le_of_ble_eq_true rfl⟩ nm_X3_take rfl (Nat.le_of_ble_eq_true rfl) (kI fun r33 w33 h => ?_)
    refine jq_if_ne (tgt := 41) dX8_readThrough_36 hC (by decide) (fun c36 => ?_) (fun c36 => ?_)
    · have h := h.1 c36
      refine jq_iinc (k0 := 1) (v := (x1 + 1)) (L' := [(1, .int (x1 + 1)), (0, .ref (aD G 0 26))]) dX8_readThrough_41 hC rfl rfl (by decide) rfl ?_
      refine jq_goto (tgt := 9) dX8_readThrough_44 hC (by decide) ?_
      exact jq_less (L' := [(0, .ref (aD G 0 26)), (1, .int (x1 + 1))]) [1, 0] rfl (hK9 _ _ h)
    · have h := h.2 c36
      refine jq_iload_n (k0 := 1) dX8_readThrough_39 hC rfl rfl ?_
      exact jq_iret dX8_readThrough_40 hC he rfl ⟨_, rfl, h⟩
theorem ok_X8_readThrough_L9 {G : Gt} {M : Mx} {Qf : State → Prop} {x1 : Int32} {w : Wd} {Q : Int32 → Wd → Prop} (hC : cx G D_X8_readThrough M) (he : en G M (qi Q) Qf) (h : wp_X8_readThrough_L9 x1 w Q) : jq G D_X8_readThrough M Qf 9 [(0, .ref (aD G 0 26)), (1, .int x1)] [] w := by
  unfold wp_X8_readThrough_L9 at h
  obtain ⟨I, μ, h0, hs⟩ := h
  exact lp_ind (σ := Int32 × Wd) (P := fun s => jq G D_X8_readThrough M Qf 9 [(0, .ref (aD G 0 26)), (1, .int s.1)] [] s.2) (fun s => I s.1 s.2) (fun s => μ s.1 s.2) (fun s h1 ih => ok_X8_readThrough_B9 hC he (hs s.1 s.2 h1) (fun x1' w' h => ih (x1', w') h.1 h.2)) (x1, w) h0
theorem ok_X8_readThrough {G : Gt} {M : Mx} {Qf : State → Prop} {w : Wd} {Q : Int32 → Wd → Prop} (hC : cx G D_X8_readThrough M) (he : en G M (qi Q) Qf) (h : wp_X8_readThrough w Q) : jq G D_X8_readThrough M Qf 0 [(0, .ref (aD G 0 26))] [] w := by
  unfold wp_X8_readThrough at h
  refine jq_aload_n (k0 := 0) dX8_readThrough_0 hC rfl rfl ?_
  refine jq_get (k0 := 6) (n := 0) (o := 26) dX8_readThrough_1 hC (cl_0 (by decide)) rfl rfl hi_X8_readThrough_X8 (by decide) hl_X8_readThrough_48 rfl rfl ?_
  refine jq_callV (As := []) (rest := []) (n := 0) (o := 31) (D' := D_X3_start) dX8_readThrough_4 hC (cl_0 (by decide)) rfl rfl rfl (mt_X3_start h) gX8_readThrough_X3_start rfl ⟨rfl, rfl, Nat.le_of_ble_eq_true rfl, Nat.le_of_ble_eq_true rfl⟩ nm_X3_start rfl (Nat.le_of_ble_eq_true rfl) (kV fun w4 h => ?_)
  refine jq_iconst (v := (0 : Int32)) dX8_readThrough_7 hC (by decide) ?_
  refine jq_istore_n (L' := [(1, .int (0 : Int32)), (0, .ref (aD G 0 26))]) dX8_readThrough_8 hC rfl (by decide) rfl ?_
  refine jq_less (L' := [(0, .ref (aD G 0 26)), (1, .int (0 : Int32))]) [1, 0] rfl ?_
  exact ok_X8_readThrough_L9 hC he h
theorem mt_X8_readThrough {G : Gt} {w : Wd} {Q : Int32 → Wd → Prop} (h : wp_X8_readThrough w Q) : Mt G D_X8_readThrough [.ref (aD G 0 26)] w (qi Q) := Mt_of (by decide +kernel) rfl rfl (Nat.le_of_ble_eq_true rfl) (fun M Qf hC he => ok_X8_readThrough hC he h)
/-! X8.firstError()I -/
theorem dX8_firstError_0 : decode cX8_firstError 0 = .ok (.aload_n 0, 1) := by decide +kernel
theorem dX8_firstError_1 : decode cX8_firstError 1 = .ok (.invokevirtual 152, 3) := by decide +kernel
theorem dX8_firstError_4 : decode cX8_firstError 4 = .ok (.ireturn, 1) := by decide +kernel
set_option maxRecDepth 20000 in
theorem ggX8_firstError_X8_readThrough : GoodIn wsX8_firstError wsX8_readThrough := goodIn_r _ [5, 6, 7, 8, 9, 10, 11, 12, 13, 14, 15, 16, 17, 18, 19, 20, 21, 22, 23, 24, 25, 26, 27, 28, 29, 30, 31, 32, 33, 34, 35, 36, 37, 38, 39, 40, 41, 42, 43, 44, 45, 46, 47, 48, 49, 50, 51, 52, 53, 54, 55, 56, 57, 58, 59, 60, 61, 62, 63, 64, 65, 66, 67, 68, 69, 70, 71, 72, 73, 74, 75] (by decide +kernel) (by decide +kernel)
set_option maxRecDepth 20000 in
theorem gX8_firstError_X8_readThrough : GoodIn wsX8_firstError (wsV RX8 152 RX8 yX8_readThrough wsX8_readThrough) := goodIn_app (goodIn_of _ (by decide +kernel)) ggX8_firstError_X8_readThrough
def D_X8_firstError : Md := (yX8_firstError, cX8_firstError, 1, (some .int), wsX8_firstError, RX8, { frames := 4, cells := 0, slots := 0, locals := 86 })
theorem nm_X8_firstError : nmD D_X8_firstError 0 := ⟨rfl, by decide +kernel, by decide +kernel, by decide +kernel⟩
def wp_X8_firstError (w : Wd) (Q : Int32 → Wd → Prop) : Prop :=
  wp_X8_readThrough w (fun r1 w1 => Q r1 w1)
theorem ok_X8_firstError {G : Gt} {M : Mx} {Qf : State → Prop} {w : Wd} {Q : Int32 → Wd → Prop} (hC : cx G D_X8_firstError M) (he : en G M (qi Q) Qf) (h : wp_X8_firstError w Q) : jq G D_X8_firstError M Qf 0 [(0, .ref (aD G 0 26))] [] w := by
  unfold wp_X8_firstError at h
  refine jq_aload_n (k0 := 0) dX8_firstError_0 hC rfl rfl ?_
  refine jq_callV (As := []) (rest := []) (n := 0) (o := 26) (D' := D_X8_readThrough) dX8_firstError_1 hC (cl_0 (by decide)) rfl rfl rfl (mt_X8_readThrough h) gX8_firstError_X8_readThrough rfl ⟨rfl, rfl, Nat.le_of_ble_eq_true rfl, Nat.le_of_ble_eq_true rfl⟩ nm_X8_readThrough rfl (Nat.le_of_ble_eq_true rfl) (kI fun r1 w1 h => ?_)
  exact jq_iret dX8_firstError_4 hC he rfl ⟨_, rfl, h⟩
theorem mt_X8_firstError {G : Gt} {w : Wd} {Q : Int32 → Wd → Prop} (h : wp_X8_firstError w Q) : Mt G D_X8_firstError [.ref (aD G 0 26)] w (qi Q) := Mt_of (by decide +kernel) rfl rfl (Nat.le_of_ble_eq_true rfl) (fun M Qf hC he => ok_X8_firstError hC he h)
/-! X8.doEntry()Z -/
theorem dX8_doEntry_0 : decode cX8_doEntry 0 = .ok (.aload_n 0, 1) := by decide +kernel
theorem dX8_doEntry_1 : decode cX8_doEntry 1 = .ok (.getfield 48, 3) := by decide +kernel
theorem dX8_doEntry_4 : decode cX8_doEntry 4 = .ok (.invokevirtual 275, 3) := by decide +kernel
theorem dX8_doEntry_7 : decode cX8_doEntry 7 = .ok (.ifCond .eq 18, 3) := by decide +kernel
theorem dX8_doEntry_10 : decode cX8_doEntry 10 = .ok (.aload_n 0, 1) := by decide +kernel
theorem dX8_doEntry_11 : decode cX8_doEntry 11 = .ok (.getfield 10, 3) := by decide +kernel
theorem dX8_doEntry_14 : decode cX8_doEntry 14 = .ok (.aload_n 0, 1) := by decide +kernel
theorem dX8_doEntry_15 : decode cX8_doEntry 15 = .ok (.getfield 48, 3) := by decide +kernel
theorem dX8_doEntry_18 : decode cX8_doEntry 18 = .ok (.invokevirtual 278, 3) := by decide +kernel
theorem dX8_doEntry_21 : decode cX8_doEntry 21 = .ok (.invokevirtual 69, 3) := by decide +kernel
theorem dX8_doEntry_24 : decode cX8_doEntry 24 = .ok (.ireturn, 1) := by decide +kernel
theorem dX8_doEntry_25 : decode cX8_doEntry 25 = .ok (.aload_n 0, 1) := by decide +kernel
theorem dX8_doEntry_26 : decode cX8_doEntry 26 = .ok (.getfield 10, 3) := by decide +kernel
theorem dX8_doEntry_29 : decode cX8_doEntry 29 = .ok (.aload_n 0, 1) := by decide +kernel
theorem dX8_doEntry_30 : decode cX8_doEntry 30 = .ok (.getfield 48, 3) := by decide +kernel
theorem dX8_doEntry_33 : decode cX8_doEntry 33 = .ok (.getfield 280, 3) := by decide +kernel
theorem dX8_doEntry_36 : decode cX8_doEntry 36 = .ok (.invokevirtual 75, 3) := by decide +kernel
theorem dX8_doEntry_39 : decode cX8_doEntry 39 = .ok (.ifCond .eq 37, 3) := by decide +kernel
theorem dX8_doEntry_42 : decode cX8_doEntry 42 = .ok (.aload_n 0, 1) := by decide +kernel
theorem dX8_doEntry_43 : decode cX8_doEntry 43 = .ok (.getfield 10, 3) := by decide +kernel
theorem dX8_doEntry_46 : decode cX8_doEntry 46 = .ok (.aload_n 0, 1) := by decide +kernel
theorem dX8_doEntry_47 : decode cX8_doEntry 47 = .ok (.getfield 48, 3) := by decide +kernel
theorem dX8_doEntry_50 : decode cX8_doEntry 50 = .ok (.getfield 282, 3) := by decide +kernel
theorem dX8_doEntry_53 : decode cX8_doEntry 53 = .ok (.invokevirtual 75, 3) := by decide +kernel
theorem dX8_doEntry_56 : decode cX8_doEntry 56 = .ok (.ifCond .eq 20, 3) := by decide +kernel
theorem dX8_doEntry_59 : decode cX8_doEntry 59 = .ok (.aload_n 0, 1) := by decide +kernel
theorem dX8_doEntry_60 : decode cX8_doEntry 60 = .ok (.getfield 48, 3) := by decide +kernel
theorem dX8_doEntry_63 : decode cX8_doEntry 63 = .ok (.getfield 280, 3) := by decide +kernel
theorem dX8_doEntry_66 : decode cX8_doEntry 66 = .ok (.aload_n 0, 1) := by decide +kernel
theorem dX8_doEntry_67 : decode cX8_doEntry 67 = .ok (.getfield 48, 3) := by decide +kernel
theorem dX8_doEntry_70 : decode cX8_doEntry 70 = .ok (.getfield 282, 3) := by decide +kernel
theorem dX8_doEntry_73 : decode cX8_doEntry 73 = .ok (.if_icmp .ne 5, 3) := by decide +kernel
theorem dX8_doEntry_76 : decode cX8_doEntry 76 = .ok (.iconst 0, 1) := by decide +kernel
theorem dX8_doEntry_77 : decode cX8_doEntry 77 = .ok (.ireturn, 1) := by decide +kernel
theorem dX8_doEntry_78 : decode cX8_doEntry 78 = .ok (.aload_n 0, 1) := by decide +kernel
theorem dX8_doEntry_79 : decode cX8_doEntry 79 = .ok (.getfield 10, 3) := by decide +kernel
theorem dX8_doEntry_82 : decode cX8_doEntry 82 = .ok (.aload_n 0, 1) := by decide +kernel
theorem dX8_doEntry_83 : decode cX8_doEntry 83 = .ok (.getfield 48, 3) := by decide +kernel
theorem dX8_doEntry_86 : decode cX8_doEntry 86 = .ok (.getfield 280, 3) := by decide +kernel
theorem dX8_doEntry_89 : decode cX8_doEntry 89 = .ok (.aload_n 0, 1) := by decide +kernel
theorem dX8_doEntry_90 : decode cX8_doEntry 90 = .ok (.getfield 48, 3) := by decide +kernel
theorem dX8_doEntry_93 : decode cX8_doEntry 93 = .ok (.getfield 282, 3) := by decide +kernel
theorem dX8_doEntry_96 : decode cX8_doEntry 96 = .ok (.aload_n 0, 1) := by decide +kernel
theorem dX8_doEntry_97 : decode cX8_doEntry 97 = .ok (.getfield 48, 3) := by decide +kernel
theorem dX8_doEntry_100 : decode cX8_doEntry 100 = .ok (.getfield 284, 3) := by decide +kernel
theorem dX8_doEntry_103 : decode cX8_doEntry 103 = .ok (.aload_n 0, 1) := by decide +kernel
theorem dX8_doEntry_104 : decode cX8_doEntry 104 = .ok (.getfield 48, 3) := by decide +kernel
theorem dX8_doEntry_107 : decode cX8_doEntry 107 = .ok (.getfield 286, 3) := by decide +kernel
theorem dX8_doEntry_110 : decode cX8_doEntry 110 = .ok (.invokevirtual 108, 3) := by decide +kernel
theorem dX8_doEntry_113 : decode cX8_doEntry 113 = .ok (.ireturn, 1) := by decide +kernel
set_option maxRecDepth 20000 in
theorem ggX8_doEntry_X5_putLeg : GoodIn wsX8_doEntry wsX5_putLeg := goodIn_r _ [32, 33, 34, 35, 36, 37, 51, 52, 53, 54, 55, 56, 57, 58] (by decide +kernel) (by decide +kernel)
set_option maxRecDepth 20000 in
theorem gX8_doEntry_X5_putLeg : GoodIn wsX8_doEntry (wsV RX8 108 RX5 yX5_putLeg wsX5_putLeg) := goodIn_app (goodIn_of _ (by decide +kernel)) ggX8_doEntry_X5_putLeg
set_option maxRecDepth 20000 in
theorem ggX8_doEntry_X5_hasMark : GoodIn wsX8_doEntry wsX5_hasMark := goodIn_r _ [28, 23, 51, 52, 53, 54, 55, 56, 57, 58] (by decide +kernel) (by decide +kernel)
set_option maxRecDepth 20000 in
theorem gX8_doEntry_X5_hasMark : GoodIn wsX8_doEntry (wsV RX8 75 RX5 yX5_hasMark wsX5_hasMark) := goodIn_app (goodIn_of _ (by decide +kernel)) ggX8_doEntry_X5_hasMark
set_option maxRecDepth 20000 in
theorem ggX8_doEntry_X5_putMark : GoodIn wsX8_doEntry wsX5_putMark := goodIn_r _ [22, 23, 24, 51, 52, 53, 54, 55, 56, 57, 58] (by decide +kernel) (by decide +kernel)
set_option maxRecDepth 20000 in
theorem gX8_doEntry_X5_putMark : GoodIn wsX8_doEntry (wsV RX8 69 RX5 yX5_putMark wsX5_putMark) := goodIn_app (goodIn_of _ (by decide +kernel)) ggX8_doEntry_X5_putMark
set_option maxRecDepth 20000 in
theorem ggX8_doEntry_X3_known : GoodIn wsX8_doEntry wsX3_known := goodIn_r _ [16, 12, 17, 45, 46, 47, 48, 49, 50] (by decide +kernel) (by decide +kernel)
set_option maxRecDepth 20000 in
theorem gX8_doEntry_X3_known : GoodIn wsX8_doEntry (wsV RX8 278 RX3 yX3_known wsX3_known) := goodIn_app (goodIn_of _ (by decide +kernel)) ggX8_doEntry_X3_known
set_option maxRecDepth 20000 in
theorem ggX8_doEntry_X3_isAtMark : GoodIn wsX8_doEntry wsX3_isAtMark := goodIn_r _ [11, 12, 45, 46, 47, 48, 49, 50] (by decide +kernel) (by decide +kernel)
set_option maxRecDepth 20000 in
theorem gX8_doEntry_X3_isAtMark : GoodIn wsX8_doEntry (wsV RX8 275 RX3 yX3_isAtMark wsX3_isAtMark) := goodIn_app (goodIn_of _ (by decide +kernel)) ggX8_doEntry_X3_isAtMark
def D_X8_doEntry : Md := (yX8_doEntry, cX8_doEntry, 1, (some .boolean), wsX8_doEntry, RX8, { frames := 1, cells := 0, slots := 0, locals := 24 })
theorem nm_X8_doEntry : nmD D_X8_doEntry 0 := ⟨rfl, by decide +kernel, by decide +kernel, by decide +kernel⟩
theorem hi_X8_doEntry_X3 : ∀ w ∈ u_ws RX3 TX3 6, w ∈ wsX8_doEntry := by decide +kernel
theorem hi_X8_doEntry_X8 : ∀ w ∈ u_ws RX8 TX8 7, w ∈ wsX8_doEntry := by decide +kernel
theorem hl_X8_doEntry_10 : Cond.fieldLink RX8 10 "LevelLoops" "survey" "LLevelLoops$Survey;" ∈ wsX8_doEntry := by decide +kernel
theorem hl_X8_doEntry_48 : Cond.fieldLink RX8 48 "LevelLoops" "reader" "LLevelLoops$Reader;" ∈ wsX8_doEntry := by decide +kernel
theorem hl_X8_doEntry_280 : Cond.fieldLink RX8 280 "LevelLoops$Reader" "from" "I" ∈ wsX8_doEntry := by decide +kernel
theorem hl_X8_doEntry_282 : Cond.fieldLink RX8 282 "LevelLoops$Reader" "to" "I" ∈ wsX8_doEntry := by decide +kernel
theorem hl_X8_doEntry_284 : Cond.fieldLink RX8 284 "LevelLoops$Reader" "difference" "I" ∈ wsX8_doEntry := by decide +kernel
theorem hl_X8_doEntry_286 : Cond.fieldLink RX8 286 "LevelLoops$Reader" "number" "I" ∈ wsX8_doEntry := by decide +kernel
def wp_X8_doEntry (w : Wd) (Q : Int32 → Wd → Prop) : Prop :=
  wp_X3_isAtMark w (fun r4 => ((r4 = 0 → wp_X5_hasMark 0 (wi w 0 31 1) w (fun r36 => ((r36 = 0 → zb (0 : Int32) ∧ Q (0 : Int32) w) ∧ (¬ r36 = 0 → wp_X5_hasMark 0 (wi w 0 31 2) w (fun r53 => ((r53 = 0 → zb (0 : Int32) ∧ Q (0 : Int32) w) ∧ (¬ r53 = 0 → ((¬ (wi w 0 31 1) = (wi w 0 31 2) → wp_X5_putLeg 0 (wi w 0 31 1) (wi w 0 31 2) (wi w 0 31 3) (wi w 0 31 0) w (fun r110 w110 => zb r110 ∧ Q r110 w110)) ∧ ((wi w 0 31 1) = (wi w 0 31 2) → zb (0 : Int32) ∧ Q (0 : Int32) w))))))))) ∧ (¬ r4 = 0 → wp_X3_known w (fun r18 => wp_X5_putMark 0 r18 w (fun r21 w21 => zb r21 ∧ Q r21 w21)))))
theorem ok_X8_doEntry {G : Gt} {M : Mx} {Qf : State → Prop} {w : Wd} {Q : Int32 → Wd → Prop} (hC : cx G D_X8_doEntry M) (he : en G M (qi Q) Qf) (h : wp_X8_doEntry w Q) : jq G D_X8_doEntry M Qf 0 [(0, .ref (aD G 0 26))] [] w := by
  unfold wp_X8_doEntry at h
  refine jq_aload_n (k0 := 0) dX8_doEntry_0 hC rfl rfl ?_
  refine jq_get (k0 := 6) (n := 0) (o := 26) dX8_doEntry_1 hC (cl_0 (by decide)) rfl rfl hi_X8_doEntry_X8 (by decide) hl_X8_doEntry_48 rfl rfl ?_
  refine jq_callV (As := []) (rest := []) (n := 0) (o := 31) (D' := D_X3_isAtMark) dX8_doEntry_4 hC (cl_0 (by decide)) rfl rfl rfl (mt_X3_isAtMark h) gX8_doEntry_X3_isAtMark rfl ⟨rfl, rfl, Nat.le_of_ble_eq_true rfl, Nat.le_of_ble_eq_true rfl⟩ nm_X3_isAtMark rfl (Nat.le_of_ble_eq_true rfl) (kIp fun r4 h => ?_)
  refine jq_if_eq (tgt := 25) dX8_doEntry_7 hC (by decide) (fun c7 => ?_) (fun c7 => ?_)
  · have h := h.1 c7
    refine jq_aload_n (k0 := 0) dX8_doEntry_25 hC rfl rfl ?_
    refine jq_get (k0 := 0) (n := 0) (o := 26) dX8_doEntry_26 hC (cl_0 (by decide)) rfl rfl hi_X8_doEntry_X8 (by decide) hl_X8_doEntry_10 rfl rfl ?_
    refine jq_aload_n (k0 := 0) dX8_doEntry_29 hC rfl rfl ?_
    refine jq_get (k0 := 6) (n := 0) (o := 26) dX8_doEntry_30 hC (cl_0 (by decide)) rfl rfl hi_X8_doEntry_X8 (by decide) hl_X8_doEntry_48 rfl rfl ?_
    refine jq_get (k0 := 1) (n := 0) (o := 31) dX8_doEntry_33 hC (cl_0 (by decide)) rfl rfl hi_X8_doEntry_X3 (by decide) hl_X8_doEntry_280 rfl rfl ?_
    refine jq_callV (As := [.int (wi w 0 31 1)]) (rest := []) (n := 0) (o := 0) (D' := D_X5_hasMark) dX8_doEntry_36 hC (cl_0 (by decide)) rfl rfl rfl (mt_X5_hasMark (by omega) h) gX8_doEntry_X5_hasMark rfl ⟨rfl, rfl, Nat.le_of_ble_eq_true rfl, Nat.le_of_ble_eq_true rfl⟩ nm_X5_hasMark rfl (Nat.le_of_ble_eq_true rfl) (kIp fun r36 h => ?_)
    refine jq_if_eq (tgt := 76) dX8_doEntry_39 hC (by decide) (fun c39 => ?_) (fun c39 => ?_)
    · have h := h.1 c39
      refine jq_iconst (v := (0 : Int32)) dX8_doEntry_76 hC (by decide) ?_
      obtain ⟨bz, h⟩ := h
      exact jq_zret dX8_doEntry_77 hC he rfl bz ⟨_, rfl, h⟩
    · have h := h.2 c39
      refine jq_aload_n (k0 := 0) dX8_doEntry_42 hC rfl rfl ?_
      refine jq_get (k0 := 0) (n := 0) (o := 26) dX8_doEntry_43 hC (cl_0 (by decide)) rfl rfl hi_X8_doEntry_X8 (by decide) hl_X8_doEntry_10 rfl rfl ?_
      refine jq_aload_n (k0 := 0) dX8_doEntry_46 hC rfl rfl ?_
      refine jq_get (k0 := 6) (n := 0) (o := 26) dX8_doEntry_47 hC (cl_0 (by decide)) rfl rfl hi_X8_doEntry_X8 (by decide) hl_X8_doEntry_48 rfl rfl ?_
      refine jq_get (k0 := 2) (n := 0) (o := 31) dX8_doEntry_50 hC (cl_0 (by decide)) rfl rfl hi_X8_doEntry_X3 (by decide) hl_X8_doEntry_282 rfl rfl ?_
      refine jq_callV (As := [.int (wi w 0 31 2)]) (rest := []) (n := 0) (o := 0) (D' := D_X5_hasMark) dX8_doEntry_53 hC (cl_0 (by decide)) rfl rfl rfl (mt_X5_hasMark (by omega) h) gX8_doEntry_X5_hasMark rfl ⟨rfl, rfl, Nat.le_of_ble_eq_true rfl, Nat.le_of_ble_eq_true rfl⟩ nm_X5_hasMark rfl (Nat.le_of_ble_eq_true rfl) (kIp fun r53 h => ?_)
      refine jq_if_eq (tgt := 76) dX8_doEntry_56 hC (by decide) (fun c56 => ?_) (fun c56 => ?_)
      · have h := h.1 c56
        refine jq_iconst (v := (0 : Int32)) dX8_doEntry_76 hC (by decide) ?_
        obtain ⟨bz, h⟩ := h
        exact jq_zret dX8_doEntry_77 hC he rfl bz ⟨_, rfl, h⟩
      · have h := h.2 c56
        refine jq_aload_n (k0 := 0) dX8_doEntry_59 hC rfl rfl ?_
        refine jq_get (k0 := 6) (n := 0) (o := 26) dX8_doEntry_60 hC (cl_0 (by decide)) rfl rfl hi_X8_doEntry_X8 (by decide) hl_X8_doEntry_48 rfl rfl ?_
        refine jq_get (k0 := 1) (n := 0) (o := 31) dX8_doEntry_63 hC (cl_0 (by decide)) rfl rfl hi_X8_doEntry_X3 (by decide) hl_X8_doEntry_280 rfl rfl ?_
        refine jq_aload_n (k0 := 0) dX8_doEntry_66 hC rfl rfl ?_
        refine jq_get (k0 := 6) (n := 0) (o := 26) dX8_doEntry_67 hC (cl_0 (by decide)) rfl rfl hi_X8_doEntry_X8 (by decide) hl_X8_doEntry_48 rfl rfl ?_
        refine jq_get (k0 := 2) (n := 0) (o := 31) dX8_doEntry_70 hC (cl_0 (by decide)) rfl rfl hi_X8_doEntry_X3 (by decide) hl_X8_doEntry_282 rfl rfl ?_
        refine jq_icmp_ne (tgt := 78) dX8_doEntry_73 hC (by decide) (fun c73 => ?_) (fun c73 => ?_)
        · have h := h.1 c73
          refine jq_aload_n (k0 := 0) dX8_doEntry_78 hC rfl rfl ?_
          refine jq_get (k0 := 0) (n := 0) (o := 26) dX8_doEntry_79 hC (cl_0 (by decide)) rfl rfl hi_X8_doEntry_X8 (by decide) hl_X8_doEntry_10 rfl rfl ?_
          refine jq_aload_n (k0 := 0) dX8_doEntry_82 hC rfl rfl ?_
          refine jq_get (k0 := 6) (n := 0) (o := 26) dX8_doEntry_83 hC (cl_0 (by decide)) rfl rfl hi_X8_doEntry_X8 (by decide) hl_X8_doEntry_48 rfl rfl ?_
          refine jq_get (k0 := 1) (n := 0) (o := 31) dX8_doEntry_86 hC (cl_0 (by decide)) rfl rfl hi_X8_doEntry_X3 (by decide) hl_X8_doEntry_280 rfl rfl ?_
          refine jq_aload_n (k0 := 0) dX8_doEntry_89 hC rfl rfl ?_
          refine jq_get (k0 := 6) (n := 0) (o := 26) dX8_doEntry_90 hC (cl_0 (by decide)) rfl rfl hi_X8_doEntry_X8 (by decide) hl_X8_doEntry_48 rfl rfl ?_
          refine jq_get (k0 := 2) (n := 0) (o := 31) dX8_doEntry_93 hC (cl_0 (by decide)) rfl rfl hi_X8_doEntry_X3 (by decide) hl_X8_doEntry_282 rfl rfl ?_
          refine jq_aload_n (k0 := 0) dX8_doEntry_96 hC rfl rfl ?_
          refine jq_get (k0 := 6) (n := 0) (o := 26) dX8_doEntry_97 hC (cl_0 (by decide)) rfl rfl hi_X8_doEntry_X8 (by decide) hl_X8_doEntry_48 rfl rfl ?_
          refine jq_get (k0 := 3) (n := 0) (o := 31) dX8_doEntry_100 hC (cl_0 (by decide)) rfl rfl hi_X8_doEntry_X3 (by decide) hl_X8_doEntry_284 rfl rfl ?_
          refine jq_aload_n (k0 := 0) dX8_doEntry_103 hC rfl rfl ?_
          refine jq_get (k0 := 6) (n := 0) (o := 26) dX8_doEntry_104 hC (cl_0 (by decide)) rfl rfl hi_X8_doEntry_X8 (by decide) hl_X8_doEntry_48 rfl rfl ?_
          refine jq_get (k0 := 0) (n := 0) (o := 31) dX8_doEntry_107 hC (cl_0 (by decide)) rfl rfl hi_X8_doEntry_X3 (by decide) hl_X8_doEntry_286 rfl rfl ?_
          refine jq_callV (As := [.int (wi w 0 31 1), .int (wi w 0 31 2), .int (wi w 0 31 3), .int (wi w 0 31 0)]) (rest := []) (n := 0) (o := 0) (D' := D_X5_putLeg) dX8_doEntry_110 hC (cl_0 (by decide)) rfl rfl rfl (mt_X5_putLeg (by omega) h) gX8_doEntry_X5_putLeg rfl ⟨rfl, rfl, Nat.le_of_ble_eq_true rfl, Nat.le_of_ble_eq_true rfl⟩ nm_X5_putLeg rfl (Nat.le_of_ble_eq_true rfl) (kI fun r110 w110 h => ?_)
          obtain ⟨bz, h⟩ := h
          exact jq_zret dX8_doEntry_113 hC he rfl bz ⟨_, rfl, h⟩
        · have h := h.2 c73
          refine jq_iconst (v := (0 : Int32)) dX8_doEntry_76 hC (by decide) ?_
          obtain ⟨bz, h⟩ := h
          exact jq_zret dX8_doEntry_77 hC he rfl bz ⟨_, rfl, h⟩
  · have h := h.2 c7
    refine jq_aload_n (k0 := 0) dX8_doEntry_10 hC rfl rfl ?_
    refine jq_get (k0 := 0) (n := 0) (o := 26) dX8_doEntry_11 hC (cl_0 (by decide)) rfl rfl hi_X8_doEntry_X8 (by decide) hl_X8_doEntry_10 rfl rfl ?_
    refine jq_aload_n (k0 := 0) dX8_doEntry_14 hC rfl rfl ?_
    refine jq_get (k0 := 6) (n := 0) (o := 26) dX8_doEntry_15 hC (cl_0 (by decide)) rfl rfl hi_X8_doEntry_X8 (by decide) hl_X8_doEntry_48 rfl rfl ?_
    refine jq_callV (As := []) (rest := [.ref (aD G 0 0)]) (n := 0) (o := 31) (D' := D_X3_known) dX8_doEntry_18 hC (cl_0 (by decide)) rfl rfl rfl (mt_X3_known h) gX8_doEntry_X3_known rfl ⟨rfl, rfl, Nat.le_of_ble_eq_true rfl, Nat.le_of_ble_eq_true rfl⟩ nm_X3_known rfl (Nat.le_of_ble_eq_true rfl) (kIp fun r18 h => ?_)
    refine jq_callV (As := [.int r18]) (rest := []) (n := 0) (o := 0) (D' := D_X5_putMark) dX8_doEntry_21 hC (cl_0 (by decide)) rfl rfl rfl (mt_X5_putMark (by omega) h) gX8_doEntry_X5_putMark rfl ⟨rfl, rfl, Nat.le_of_ble_eq_true rfl, Nat.le_of_ble_eq_true rfl⟩ nm_X5_putMark rfl (Nat.le_of_ble_eq_true rfl) (kI fun r21 w21 h => ?_)
    obtain ⟨bz, h⟩ := h
    exact jq_zret dX8_doEntry_24 hC he rfl bz ⟨_, rfl, h⟩
theorem mt_X8_doEntry {G : Gt} {w : Wd} {Q : Int32 → Wd → Prop} (h : wp_X8_doEntry w Q) : Mt G D_X8_doEntry [.ref (aD G 0 26)] w (qi Q) := Mt_of (by decide +kernel) rfl rfl (Nat.le_of_ble_eq_true rfl) (fun M Qf hC he => ok_X8_doEntry hC he h)
/-! X8.doEntries()I -/
theorem dX8_doEntries_0 : decode cX8_doEntries 0 = .ok (.iconst 0, 1) := by decide +kernel
theorem dX8_doEntries_1 : decode cX8_doEntries 1 = .ok (.istore_n 1, 1) := by decide +kernel
theorem dX8_doEntries_2 : decode cX8_doEntries 2 = .ok (.aload_n 0, 1) := by decide +kernel
theorem dX8_doEntries_3 : decode cX8_doEntries 3 = .ok (.getfield 48, 3) := by decide +kernel
theorem dX8_doEntries_6 : decode cX8_doEntries 6 = .ok (.invokevirtual 266, 3) := by decide +kernel
theorem dX8_doEntries_9 : decode cX8_doEntries 9 = .ok (.iconst 0, 1) := by decide +kernel
theorem dX8_doEntries_10 : decode cX8_doEntries 10 = .ok (.istore_n 2, 1) := by decide +kernel
theorem dX8_doEntries_11 : decode cX8_doEntries 11 = .ok (.iload_n 2, 1) := by decide +kernel
theorem dX8_doEntries_12 : decode cX8_doEntries 12 = .ok (.aload_n 0, 1) := by decide +kernel
theorem dX8_doEntries_13 : decode cX8_doEntries 13 = .ok (.getfield 41, 3) := by decide +kernel
theorem dX8_doEntries_16 : decode cX8_doEntries 16 = .ok (.getfield 148, 3) := by decide +kernel
theorem dX8_doEntries_19 : decode cX8_doEntries 19 = .ok (.if_icmp .ge 67, 3) := by decide +kernel
theorem dX8_doEntries_22 : decode cX8_doEntries 22 = .ok (.aload_n 0, 1) := by decide +kernel
theorem dX8_doEntries_23 : decode cX8_doEntries 23 = .ok (.getfield 48, 3) := by decide +kernel
theorem dX8_doEntries_26 : decode cX8_doEntries 26 = .ok (.aload_n 0, 1) := by decide +kernel
theorem dX8_doEntries_27 : decode cX8_doEntries 27 = .ok (.getfield 41, 3) := by decide +kernel
theorem dX8_doEntries_30 : decode cX8_doEntries 30 = .ok (.getfield 224, 3) := by decide +kernel
theorem dX8_doEntries_33 : decode cX8_doEntries 33 = .ok (.iload_n 2, 1) := by decide +kernel
theorem dX8_doEntries_34 : decode cX8_doEntries 34 = .ok (.iaload, 1) := by decide +kernel
theorem dX8_doEntries_35 : decode cX8_doEntries 35 = .ok (.invokevirtual 269, 3) := by decide +kernel
theorem dX8_doEntries_38 : decode cX8_doEntries 38 = .ok (.pop, 1) := by decide +kernel
theorem dX8_doEntries_39 : decode cX8_doEntries 39 = .ok (.iload_n 2, 1) := by decide +kernel
theorem dX8_doEntries_40 : decode cX8_doEntries 40 = .ok (.iconst 1, 1) := by decide +kernel
theorem dX8_doEntries_41 : decode cX8_doEntries 41 = .ok (.iadd, 1) := by decide +kernel
theorem dX8_doEntries_42 : decode cX8_doEntries 42 = .ok (.aload_n 0, 1) := by decide +kernel
theorem dX8_doEntries_43 : decode cX8_doEntries 43 = .ok (.getfield 41, 3) := by decide +kernel
theorem dX8_doEntries_46 : decode cX8_doEntries 46 = .ok (.getfield 148, 3) := by decide +kernel
theorem dX8_doEntries_49 : decode cX8_doEntries 49 = .ok (.if_icmp .eq 19, 3) := by decide +kernel
theorem dX8_doEntries_52 : decode cX8_doEntries 52 = .ok (.aload_n 0, 1) := by decide +kernel
theorem dX8_doEntries_53 : decode cX8_doEntries 53 = .ok (.getfield 41, 3) := by decide +kernel
theorem dX8_doEntries_56 : decode cX8_doEntries 56 = .ok (.getfield 224, 3) := by decide +kernel
theorem dX8_doEntries_59 : decode cX8_doEntries 59 = .ok (.iload_n 2, 1) := by decide +kernel
theorem dX8_doEntries_60 : decode cX8_doEntries 60 = .ok (.iconst 1, 1) := by decide +kernel
theorem dX8_doEntries_61 : decode cX8_doEntries 61 = .ok (.iadd, 1) := by decide +kernel
theorem dX8_doEntries_62 : decode cX8_doEntries 62 = .ok (.iaload, 1) := by decide +kernel
theorem dX8_doEntries_63 : decode cX8_doEntries 63 = .ok (.bipush 59, 2) := by decide +kernel
theorem dX8_doEntries_65 : decode cX8_doEntries 65 = .ok (.if_icmp .ne 15, 3) := by decide +kernel
theorem dX8_doEntries_68 : decode cX8_doEntries 68 = .ok (.aload_n 0, 1) := by decide +kernel
theorem dX8_doEntries_69 : decode cX8_doEntries 69 = .ok (.invokevirtual 272, 3) := by decide +kernel
theorem dX8_doEntries_72 : decode cX8_doEntries 72 = .ok (.ifCond .ne 5, 3) := by decide +kernel
theorem dX8_doEntries_75 : decode cX8_doEntries 75 = .ok (.iload_n 1, 1) := by decide +kernel
theorem dX8_doEntries_76 : decode cX8_doEntries 76 = .ok (.ireturn, 1) := by decide +kernel
theorem dX8_doEntries_77 : decode cX8_doEntries 77 = .ok (.iinc 1 1, 3) := by decide +kernel
theorem dX8_doEntries_80 : decode cX8_doEntries 80 = .ok (.iinc 2 1, 3) := by decide +kernel
theorem dX8_doEntries_83 : decode cX8_doEntries 83 = .ok (.goto (-72), 3) := by decide +kernel
theorem dX8_doEntries_86 : decode cX8_doEntries 86 = .ok (.iload_n 1, 1) := by decide +kernel
theorem dX8_doEntries_87 : decode cX8_doEntries 87 = .ok (.ireturn, 1) := by decide +kernel
set_option maxRecDepth 20000 in
theorem ggX8_doEntries_X8_doEntry : GoodIn wsX8_doEntries wsX8_doEntry := goodIn_r _ [60, 1, 61, 62, 63, 64, 65, 66, 67, 68, 8, 69, 10, 70, 71, 72, 73, 32, 74, 75, 76, 77, 78, 79, 80, 81, 82, 83, 84, 85, 86, 87, 88, 89, 90, 91, 92, 93, 94, 95, 96, 97, 98, 99, 100, 103, 104, 105, 106, 107, 108, 109, 110, 111, 112, 113, 114, 115, 116] (by decide +kernel) (by decide +kernel)
set_option maxRecDepth 20000 in
theorem gX8_doEntries_X8_doEntry : GoodIn wsX8_doEntries (wsV RX8 272 RX8 yX8_doEntry wsX8_doEntry) := goodIn_app (goodIn_of _ (by decide +kernel)) ggX8_doEntries_X8_doEntry
set_option maxRecDepth 20000 in
theorem ggX8_doEntries_X3_take : GoodIn wsX8_doEntries wsX3_take := goodIn_r _ [14, 10, 15, 16, 17, 18, 8, 19, 20, 21, 22, 23, 24, 25, 26, 27, 28, 29, 30, 31, 32, 33, 34, 35, 36, 37, 38, 39, 40, 41, 42, 43, 44, 45, 46, 47, 48, 49, 50, 51, 52, 53, 54, 55, 103, 104, 105, 106, 107, 108] (by decide +kernel) (by decide +kernel)
set_option maxRecDepth 20000 in
theorem gX8_doEntries_X3_take : GoodIn wsX8_doEntries (wsV RX8 269 RX3 yX3_take wsX3_take) := goodIn_app (goodIn_of _ (by decide +kernel)) ggX8_doEntries_X3_take
set_option maxRecDepth 20000 in
theorem ggX8_doEntries_X3_start : GoodIn wsX8_doEntries wsX3_start := goodIn_r _ [9, 10, 103, 104, 105, 106, 107, 108] (by decide +kernel) (by decide +kernel)
set_option maxRecDepth 20000 in
theorem gX8_doEntries_X3_start : GoodIn wsX8_doEntries (wsV RX8 266 RX3 yX3_start wsX3_start) := goodIn_app (goodIn_of _ (by decide +kernel)) ggX8_doEntries_X3_start
def D_X8_doEntries : Md := (yX8_doEntries, cX8_doEntries, 3, (some .int), wsX8_doEntries, RX8, { frames := 3, cells := 0, slots := 0, locals := 65 })
theorem nm_X8_doEntries : nmD D_X8_doEntries 0 := ⟨rfl, by decide +kernel, by decide +kernel, by decide +kernel⟩
theorem hi_X8_doEntries_X6 : ∀ w ∈ u_ws RX6 TX6 2, w ∈ wsX8_doEntries := by decide +kernel
theorem hi_X8_doEntries_X8 : ∀ w ∈ u_ws RX8 TX8 7, w ∈ wsX8_doEntries := by decide +kernel
theorem hl_X8_doEntries_41 : Cond.fieldLink RX8 41 "LevelLoops" "text" "LLevelLoops$Text;" ∈ wsX8_doEntries := by decide +kernel
theorem hl_X8_doEntries_48 : Cond.fieldLink RX8 48 "LevelLoops" "reader" "LLevelLoops$Reader;" ∈ wsX8_doEntries := by decide +kernel
theorem hl_X8_doEntries_148 : Cond.fieldLink RX8 148 "LevelLoops$Text" "size" "I" ∈ wsX8_doEntries := by decide +kernel
theorem hl_X8_doEntries_224 : Cond.fieldLink RX8 224 "LevelLoops$Text" "codes" "[I" ∈ wsX8_doEntries := by decide +kernel
def wp_X8_doEntries_J68 (x1 : Int32) (x2 : Int32) (w : Wd) (Q : Int32 → Wd → Prop) (K11 : Int32 → Int32 → Wd → Prop) : Prop :=
  wp_X8_doEntry w (fun r69 w69 => ((¬ r69 = 0 → K11 (x1 + 1) (x2 + 1) w69) ∧ (r69 = 0 → Q x1 w69)))
def wp_X8_doEntries_B11 (x1 : Int32) (x2 : Int32) (w : Wd) (Q : Int32 → Wd → Prop) (K11 : Int32 → Int32 → Wd → Prop) : Prop :=
  (((wi w 0 29 0) ≤ x2 → Q x1 w) ∧ (¬ (wi w 0 29 0) ≤ x2 → vp_in x2 60 ∧ wp_X3_take (wi w 0 30 x2.toNatClampNeg) w (fun r35 w35 => (((x2 + (1 : Int32)) = (wi w35 0 29 0) → wp_X8_doEntries_J68 x1 x2 w35 Q K11) ∧ (¬ (x2 + (1 : Int32)) = (wi w35 0 29 0) → vp_in (x2 + (1 : Int32)) 60 ∧ ((¬ (wi w35 0 30 (x2 + (1 : Int32)).toNatClampNeg) = (59 : Int32) → K11 x1 (x2 + 1) w35) ∧ ((wi w35 0 30 (x2 + (1 : Int32)).toNatClampNeg) = (59 : Int32) → wp_X8_doEntries_J68 x1 x2 w35 Q K11)))))))
def wp_X8_doEntries_L11 (x1 : Int32) (x2 : Int32) (w : Wd) (Q : Int32 → Wd → Prop) : Prop :=
  ∃ (I : Int32 → Int32 → Wd → Prop) (μ : Int32 → Int32 → Wd → Nat), I x1 x2 w ∧ ∀ (x1 : Int32) (x2 : Int32) (w : Wd), I x1 x2 w → wp_X8_doEntries_B11 x1 x2 w Q (fun x1' x2' w' => I x1' x2' w' ∧ μ x1' x2' w' < μ x1 x2 w)
def wp_X8_doEntries (w : Wd) (Q : Int32 → Wd → Prop) : Prop :=
  wp_X3_start w (fun w6 => wp_X8_doEntries_L11 (0 : Int32) (0 : Int32) w6 Q)
theorem ok_X8_doEntries_J68 {G : Gt} {M : Mx} {Qf : State → Prop} {x1 : Int32} {x2 : Int32} {w : Wd} {Q : Int32 → Wd → Prop} {K11 : Int32 → Int32 → Wd → Prop} (hC : cx G D_X8_doEntries M) (he : en G M (qi Q) Qf) (h : wp_X8_doEntries_J68 x1 x2 w Q K11) (hK11 : ∀ (x1 : Int32) (x2 : Int32) (w : Wd), K11 x1 x2 w → jq G D_X8_doEntries M Qf 11 [(0, .ref (aD G 0 26)), (1, .int x1), (2, .int x2)] [] w) : jq G D_X8_doEntries M Qf 68 [(0, .ref (aD G 0 26)), (1, .int x1), (2, .int x2)] [] w := by
  unfold wp_X8_doEntries_J68 at h
  refine jq_aload_n (k0 := 0) dX8_doEntries_68 hC rfl rfl ?_
  refine jq_callV (As := []) (rest := []) (n := 0) (o := 26) (D' := D_X8_doEntry) dX8_doEntries_69 hC (cl_0 (by decide)) rfl rfl rfl (mt_X8_doEntry h) gX8_doEntries_X8_doEntry rfl ⟨rfl, rfl, Nat.le_of_ble_eq_true rfl, Nat.le_of_ble_eq_true rfl⟩ nm_X8_doEntry rfl (Nat.le_of_ble_eq_true rfl) (kI fun r69 w69 h => ?_)
  refine jq_if_ne (tgt := 77) dX8_doEntries_72 hC (by decide) (fun c72 => ?_) (fun c72 => ?_)
  · have h := h.1 c72
    refine jq_iinc (k0 := 1) (v := (x1 + 1)) (L' := [(1, .int (x1 + 1)), (0, .ref (aD G 0 26)), (2, .int x2)]) dX8_doEntries_77 hC rfl rfl (by decide) rfl ?_
    refine jq_iinc (k0 := 2) (v := (x2 + 1)) (L' := [(2, .int (x2 + 1)), (1, .int (x1 + 1)), (0, .ref (aD G 0 26))]) dX8_doEntries_80 hC rfl rfl (by decide) rfl ?_
    refine jq_goto (tgt := 11) dX8_doEntries_83 hC (by decide) ?_
    exact jq_less (L' := [(0, .ref (aD G 0 26)), (1, .int (x1 + 1)), (2, .int (x2 + 1))]) [2, 1, 0] rfl (hK11 _ _ _ h)
  · have h := h.2 c72
    refine jq_iload_n (k0 := 1) dX8_doEntries_75 hC rfl rfl ?_
    exact jq_iret dX8_doEntries_76 hC he rfl ⟨_, rfl, h⟩
theorem ok_X8_doEntries_B11 {G : Gt} {M : Mx} {Qf : State → Prop} {x1 : Int32} {x2 : Int32} {w : Wd} {Q : Int32 → Wd → Prop} {K11 : Int32 → Int32 → Wd → Prop} (hC : cx G D_X8_doEntries M) (he : en G M (qi Q) Qf) (h : wp_X8_doEntries_B11 x1 x2 w Q K11) (hK11 : ∀ (x1 : Int32) (x2 : Int32) (w : Wd), K11 x1 x2 w → jq G D_X8_doEntries M Qf 11 [(0, .ref (aD G 0 26)), (1, .int x1), (2, .int x2)] [] w) : jq G D_X8_doEntries M Qf 11 [(0, .ref (aD G 0 26)), (1, .int x1), (2, .int x2)] [] w := by
  unfold wp_X8_doEntries_B11 at h
  refine jq_iload_n (k0 := 2) dX8_doEntries_11 hC rfl rfl ?_
  refine jq_aload_n (k0 := 0) dX8_doEntries_12 hC rfl rfl ?_
  refine jq_get (k0 := 5) (n := 0) (o := 26) dX8_doEntries_13 hC (cl_0 (by decide)) rfl rfl hi_X8_doEntries_X8 (by decide) hl_X8_doEntries_41 rfl rfl ?_
  refine jq_get (k0 := 0) (n := 0) (o := 29) dX8_doEntries_16 hC (cl_0 (by decide)) rfl rfl hi_X8_doEntries_X6 (by decide) hl_X8_doEntries_148 rfl rfl ?_
  refine jq_icmp_ge (tgt := 86) dX8_doEntries_19 hC (by decide) (fun c19 => ?_) (fun c19 => ?_)
  · have h := h.1 c19
    refine jq_iload_n (k0 := 1) dX8_doEntries_86 hC rfl rfl ?_
    exact jq_iret dX8_doEntries_87 hC he rfl ⟨_, rfl, h⟩
  · have h := h.2 c19
    refine jq_aload_n (k0 := 0) dX8_doEntries_22 hC rfl rfl ?_
    refine jq_get (k0 := 6) (n := 0) (o := 26) dX8_doEntries_23 hC (cl_0 (by decide)) rfl rfl hi_X8_doEntries_X8 (by decide) hl_X8_doEntries_48 rfl rfl ?_
    refine jq_aload_n (k0 := 0) dX8_doEntries_26 hC rfl rfl ?_
    refine jq_get (k0 := 5) (n := 0) (o := 26) dX8_doEntries_27 hC (cl_0 (by decide)) rfl rfl hi_X8_doEntries_X8 (by decide) hl_X8_doEntries_41 rfl rfl ?_
    refine jq_get (k0 := 1) (n := 0) (o := 29) dX8_doEntries_30 hC (cl_0 (by decide)) rfl rfl hi_X8_doEntries_X6 (by decide) hl_X8_doEntries_224 rfl rfl ?_
    refine jq_iload_n (k0 := 2) dX8_doEntries_33 hC rfl rfl ?_
    obtain ⟨b34, h⟩ := h
    refine jq_iald (n := 0) (o := 30) (j := x2.toNatClampNeg) dX8_doEntries_34 hC (cl_0 (by decide)) rfl b34 rfl ?_
    refine jq_callV (As := [.int (wi w 0 30 x2.toNatClampNeg)]) (rest := []) (n := 0) (o := 31) (D' := D_X3_take) dX8_doEntries_35 hC (cl_0 (by decide)) rfl rfl rfl (mt_X3_take h) gX8_doEntries_X3_take rfl ⟨rfl, rfl, Nat.le_of_ble_eq_true rfl, Nat.le_of_ble_eq_true rfl⟩ nm_X3_take rfl (Nat.le_of_ble_eq_true rfl) (kI fun r35 w35 h => ?_)
    refine jq_pop dX8_doEntries_38 hC rfl ?_
    refine jq_iload_n (k0 := 2) dX8_doEntries_39 hC rfl rfl ?_
    refine jq_iconst (v := (1 : Int32)) dX8_doEntries_40 hC (by decide) ?_
    refine jq_iadd dX8_doEntries_41 hC ?_
    refine jq_aload_n (k0 := 0) dX8_doEntries_42 hC rfl rfl ?_
    refine jq_get (k0 := 5) (n := 0) (o := 26) dX8_doEntries_43 hC (cl_0 (by decide)) rfl rfl hi_X8_doEntries_X8 (by decide) hl_X8_doEntries_41 rfl rfl ?_
    refine jq_get (k0 := 0) (n := 0) (o := 29) dX8_doEntries_46 hC (cl_0 (by decide)) rfl rfl hi_X8_doEntries_X6 (by decide) hl_X8_doEntries_148 rfl rfl ?_
    refine jq_icmp_eq (tgt := 68) dX8_doEntries_49 hC (by decide) (fun c49 => ?_) (fun c49 => ?_)
    · have h := h.1 c49
      refine jq_less (L' := [(0, .ref (aD G 0 26)), (1, .int x1), (2, .int x2)]) [0, 1, 2] rfl ?_
      exact ok_X8_doEntries_J68 hC he h hK11
    · have h := h.2 c49
      refine jq_aload_n (k0 := 0) dX8_doEntries_52 hC rfl rfl ?_
      refine jq_get (k0 := 5) (n := 0) (o := 26) dX8_doEntries_53 hC (cl_0 (by decide)) rfl rfl hi_X8_doEntries_X8 (by decide) hl_X8_doEntries_41 rfl rfl ?_
      refine jq_get (k0 := 1) (n := 0) (o := 29) dX8_doEntries_56 hC (cl_0 (by decide)) rfl rfl hi_X8_doEntries_X6 (by decide) hl_X8_doEntries_224 rfl rfl ?_
      refine jq_iload_n (k0 := 2) dX8_doEntries_59 hC rfl rfl ?_
      refine jq_iconst (v := (1 : Int32)) dX8_doEntries_60 hC (by decide) ?_
      refine jq_iadd dX8_doEntries_61 hC ?_
      obtain ⟨b62, h⟩ := h
      refine jq_iald (n := 0) (o := 30) (j := (x2 + (1 : Int32)).toNatClampNeg) dX8_doEntries_62 hC (cl_0 (by decide)) rfl b62 rfl ?_
      refine jq_bipush (v := (59 : Int32)) dX8_doEntries_63 hC (by decide) ?_
      refine jq_icmp_ne (tgt := 80) dX8_doEntries_65 hC (by decide) (fun c65 => ?_) (fun c65 => ?_)
      · have h := h.1 c65
        refine jq_iinc (k0 := 2) (v := (x2 + 1)) (L' := [(2, .int (x2 + 1)), (0, .ref (aD G 0 26)), (1, .int x1)]) dX8_doEntries_80 hC rfl rfl (by decide) rfl ?_
        refine jq_goto (tgt := 11) dX8_doEntries_83 hC (by decide) ?_
        exact jq_less (L' := [(0, .ref (aD G 0 26)), (1, .int x1), (2, .int (x2 + 1))]) [1, 2, 0] rfl (hK11 _ _ _ h)
      · have h := h.2 c65
        refine jq_less (L' := [(0, .ref (aD G 0 26)), (1, .int x1), (2, .int x2)]) [0, 1, 2] rfl ?_
        exact ok_X8_doEntries_J68 hC he h hK11
theorem ok_X8_doEntries_L11 {G : Gt} {M : Mx} {Qf : State → Prop} {x1 : Int32} {x2 : Int32} {w : Wd} {Q : Int32 → Wd → Prop} (hC : cx G D_X8_doEntries M) (he : en G M (qi Q) Qf) (h : wp_X8_doEntries_L11 x1 x2 w Q) : jq G D_X8_doEntries M Qf 11 [(0, .ref (aD G 0 26)), (1, .int x1), (2, .int x2)] [] w := by
  unfold wp_X8_doEntries_L11 at h
  obtain ⟨I, μ, h0, hs⟩ := h
  exact lp_ind (σ := Int32 × Int32 × Wd) (P := fun s => jq G D_X8_doEntries M Qf 11 [(0, .ref (aD G 0 26)), (1, .int s.1), (2, .int s.2.1)] [] s.2.2) (fun s => I s.1 s.2.1 s.2.2) (fun s => μ s.1 s.2.1 s.2.2) (fun s h1 ih => ok_X8_doEntries_B11 hC he (hs s.1 s.2.1 s.2.2 h1) (fun x1' x2' w' h => ih (x1', x2', w') h.1 h.2)) (x1, x2, w) h0
theorem ok_X8_doEntries {G : Gt} {M : Mx} {Qf : State → Prop} {w : Wd} {Q : Int32 → Wd → Prop} (hC : cx G D_X8_doEntries M) (he : en G M (qi Q) Qf) (h : wp_X8_doEntries w Q) : jq G D_X8_doEntries M Qf 0 [(0, .ref (aD G 0 26))] [] w := by
  unfold wp_X8_doEntries at h
  refine jq_iconst (v := (0 : Int32)) dX8_doEntries_0 hC (by decide) ?_
  refine jq_istore_n (L' := [(1, .int (0 : Int32)), (0, .ref (aD G 0 26))]) dX8_doEntries_1 hC rfl (by decide) rfl ?_
  refine jq_aload_n (k0 := 1) dX8_doEntries_2 hC rfl rfl ?_
  refine jq_get (k0 := 6) (n := 0) (o := 26) dX8_doEntries_3 hC (cl_0 (by decide)) rfl rfl hi_X8_doEntries_X8 (by decide) hl_X8_doEntries_48 rfl rfl ?_
  refine jq_callV (As := []) (rest := []) (n := 0) (o := 31) (D' := D_X3_start) dX8_doEntries_6 hC (cl_0 (by decide)) rfl rfl rfl (mt_X3_start h) gX8_doEntries_X3_start rfl ⟨rfl, rfl, Nat.le_of_ble_eq_true rfl, Nat.le_of_ble_eq_true rfl⟩ nm_X3_start rfl (Nat.le_of_ble_eq_true rfl) (kV fun w6 h => ?_)
  refine jq_iconst (v := (0 : Int32)) dX8_doEntries_9 hC (by decide) ?_
  refine jq_istore_n (L' := [(2, .int (0 : Int32)), (1, .int (0 : Int32)), (0, .ref (aD G 0 26))]) dX8_doEntries_10 hC rfl (by decide) rfl ?_
  refine jq_less (L' := [(0, .ref (aD G 0 26)), (1, .int (0 : Int32)), (2, .int (0 : Int32))]) [2, 1, 0] rfl ?_
  exact ok_X8_doEntries_L11 hC he h
theorem mt_X8_doEntries {G : Gt} {w : Wd} {Q : Int32 → Wd → Prop} (h : wp_X8_doEntries w Q) : Mt G D_X8_doEntries [.ref (aD G 0 26)] w (qi Q) := Mt_of (by decide +kernel) rfl rfl (Nat.le_of_ble_eq_true rfl) (fun M Qf hC he => ok_X8_doEntries hC he h)
/-! X8.counted(I)I -/
theorem dX8_counted_0 : decode cX8_counted 0 = .ok (.iload_n 1, 1) := by decide +kernel
theorem dX8_counted_1 : decode cX8_counted 1 = .ok (.tableswitch 163 0 9 #[55, 63, 71, 82, 93, 104, 115, 126, 137, 148], 55) := by decide +kernel
theorem dX8_counted_56 : decode cX8_counted 56 = .ok (.aload_n 0, 1) := by decide +kernel
theorem dX8_counted_57 : decode cX8_counted 57 = .ok (.getfield 10, 3) := by decide +kernel
theorem dX8_counted_60 : decode cX8_counted 60 = .ok (.getfield 59, 3) := by decide +kernel
theorem dX8_counted_63 : decode cX8_counted 63 = .ok (.ireturn, 1) := by decide +kernel
theorem dX8_counted_64 : decode cX8_counted 64 = .ok (.aload_n 0, 1) := by decide +kernel
theorem dX8_counted_65 : decode cX8_counted 65 = .ok (.getfield 10, 3) := by decide +kernel
theorem dX8_counted_68 : decode cX8_counted 68 = .ok (.getfield 105, 3) := by decide +kernel
theorem dX8_counted_71 : decode cX8_counted 71 = .ok (.ireturn, 1) := by decide +kernel
theorem dX8_counted_72 : decode cX8_counted 72 = .ok (.aload_n 0, 1) := by decide +kernel
theorem dX8_counted_73 : decode cX8_counted 73 = .ok (.getfield 21, 3) := by decide +kernel
theorem dX8_counted_76 : decode cX8_counted 76 = .ok (.getfield 115, 3) := by decide +kernel
theorem dX8_counted_79 : decode cX8_counted 79 = .ok (.getfield 139, 3) := by decide +kernel
theorem dX8_counted_82 : decode cX8_counted 82 = .ok (.ireturn, 1) := by decide +kernel
theorem dX8_counted_83 : decode cX8_counted 83 = .ok (.aload_n 0, 1) := by decide +kernel
theorem dX8_counted_84 : decode cX8_counted 84 = .ok (.getfield 21, 3) := by decide +kernel
theorem dX8_counted_87 : decode cX8_counted 87 = .ok (.getfield 115, 3) := by decide +kernel
theorem dX8_counted_90 : decode cX8_counted 90 = .ok (.invokevirtual 233, 3) := by decide +kernel
theorem dX8_counted_93 : decode cX8_counted 93 = .ok (.ireturn, 1) := by decide +kernel
theorem dX8_counted_94 : decode cX8_counted 94 = .ok (.aload_n 0, 1) := by decide +kernel
theorem dX8_counted_95 : decode cX8_counted 95 = .ok (.getfield 21, 3) := by decide +kernel
theorem dX8_counted_98 : decode cX8_counted 98 = .ok (.getfield 236, 3) := by decide +kernel
theorem dX8_counted_101 : decode cX8_counted 101 = .ok (.invokevirtual 240, 3) := by decide +kernel
theorem dX8_counted_104 : decode cX8_counted 104 = .ok (.ireturn, 1) := by decide +kernel
theorem dX8_counted_105 : decode cX8_counted 105 = .ok (.aload_n 0, 1) := by decide +kernel
theorem dX8_counted_106 : decode cX8_counted 106 = .ok (.getfield 21, 3) := by decide +kernel
theorem dX8_counted_109 : decode cX8_counted 109 = .ok (.getfield 85, 3) := by decide +kernel
theorem dX8_counted_112 : decode cX8_counted 112 = .ok (.invokevirtual 245, 3) := by decide +kernel
theorem dX8_counted_115 : decode cX8_counted 115 = .ok (.ireturn, 1) := by decide +kernel
theorem dX8_counted_116 : decode cX8_counted 116 = .ok (.aload_n 0, 1) := by decide +kernel
theorem dX8_counted_117 : decode cX8_counted 117 = .ok (.getfield 21, 3) := by decide +kernel
theorem dX8_counted_120 : decode cX8_counted 120 = .ok (.getfield 115, 3) := by decide +kernel
theorem dX8_counted_123 : decode cX8_counted 123 = .ok (.invokevirtual 119, 3) := by decide +kernel
theorem dX8_counted_126 : decode cX8_counted 126 = .ok (.ireturn, 1) := by decide +kernel
theorem dX8_counted_127 : decode cX8_counted 127 = .ok (.aload_n 0, 1) := by decide +kernel
theorem dX8_counted_128 : decode cX8_counted 128 = .ok (.getfield 21, 3) := by decide +kernel
theorem dX8_counted_131 : decode cX8_counted 131 = .ok (.getfield 115, 3) := by decide +kernel
theorem dX8_counted_134 : decode cX8_counted 134 = .ok (.invokevirtual 248, 3) := by decide +kernel
theorem dX8_counted_137 : decode cX8_counted 137 = .ok (.ireturn, 1) := by decide +kernel
theorem dX8_counted_138 : decode cX8_counted 138 = .ok (.aload_n 0, 1) := by decide +kernel
theorem dX8_counted_139 : decode cX8_counted 139 = .ok (.getfield 21, 3) := by decide +kernel
theorem dX8_counted_142 : decode cX8_counted 142 = .ok (.getfield 85, 3) := by decide +kernel
theorem dX8_counted_145 : decode cX8_counted 145 = .ok (.invokevirtual 251, 3) := by decide +kernel
theorem dX8_counted_148 : decode cX8_counted 148 = .ok (.ireturn, 1) := by decide +kernel
theorem dX8_counted_149 : decode cX8_counted 149 = .ok (.aload_n 0, 1) := by decide +kernel
theorem dX8_counted_150 : decode cX8_counted 150 = .ok (.getfield 10, 3) := by decide +kernel
theorem dX8_counted_153 : decode cX8_counted 153 = .ok (.aload_n 0, 1) := by decide +kernel
theorem dX8_counted_154 : decode cX8_counted 154 = .ok (.getfield 10, 3) := by decide +kernel
theorem dX8_counted_157 : decode cX8_counted 157 = .ok (.invokevirtual 254, 3) := by decide +kernel
theorem dX8_counted_160 : decode cX8_counted 160 = .ok (.invokevirtual 257, 3) := by decide +kernel
theorem dX8_counted_163 : decode cX8_counted 163 = .ok (.ireturn, 1) := by decide +kernel
theorem dX8_counted_164 : decode cX8_counted 164 = .ok (.aload_n 0, 1) := by decide +kernel
theorem dX8_counted_165 : decode cX8_counted 165 = .ok (.getfield 34, 3) := by decide +kernel
theorem dX8_counted_168 : decode cX8_counted 168 = .ok (.getfield 162, 3) := by decide +kernel
theorem dX8_counted_171 : decode cX8_counted 171 = .ok (.ireturn, 1) := by decide +kernel
set_option maxRecDepth 20000 in
theorem ggX8_counted_X2_howManyBad : GoodIn wsX8_counted wsX2_howManyBad := goodIn_r _ [15, 16, 17, 18, 19, 20, 21, 22, 23, 117, 118, 119, 120, 121, 122, 123, 124, 125, 126, 127, 128, 129] (by decide +kernel) (by decide +kernel)
set_option maxRecDepth 20000 in
theorem gX8_counted_X2_howManyBad : GoodIn wsX8_counted (wsV RX8 233 RX2 yX2_howManyBad wsX2_howManyBad) := goodIn_app (goodIn_of _ (by decide +kernel)) ggX8_counted_X2_howManyBad
set_option maxRecDepth 20000 in
theorem ggX8_counted_X7_howManyNets : GoodIn wsX8_counted wsX7_howManyNets := goodIn_r _ [28, 29, 30, 31, 132, 133, 134, 135, 136, 137, 105, 106, 107, 108, 109, 110, 111, 112] (by decide +kernel) (by decide +kernel)
set_option maxRecDepth 20000 in
theorem gX8_counted_X7_howManyNets : GoodIn wsX8_counted (wsV RX8 240 RX7 yX7_howManyNets wsX7_howManyNets) := goodIn_app (goodIn_of _ (by decide +kernel)) ggX8_counted_X7_howManyNets
set_option maxRecDepth 20000 in
theorem ggX8_counted_X0_howManyMoved : GoodIn wsX8_counted wsX0_howManyMoved := goodIn_r _ [36, 37, 38, 39, 40, 41, 35, 42, 43, 44, 45, 46, 47, 48, 49, 50, 51, 52, 53, 54, 55, 56, 57, 58, 59, 60, 61, 62, 63, 64, 65, 138, 139, 140, 141, 142, 143, 105, 106, 107, 108, 109, 110, 111, 112, 132, 133, 134, 135, 136, 137] (by decide +kernel) (by decide +kernel)
set_option maxRecDepth 20000 in
theorem gX8_counted_X0_howManyMoved : GoodIn wsX8_counted (wsV RX8 245 RX0 yX0_howManyMoved wsX0_howManyMoved) := goodIn_app (goodIn_of _ (by decide +kernel)) ggX8_counted_X0_howManyMoved
set_option maxRecDepth 20000 in
theorem ggX8_counted_X2_missesTogether : GoodIn wsX8_counted wsX2_missesTogether := goodIn_r _ [69, 70, 71, 72, 45, 46, 47, 117, 118, 119, 120, 121, 122, 123, 124, 125, 126, 127, 128, 129] (by decide +kernel) (by decide +kernel)
set_option maxRecDepth 20000 in
theorem gX8_counted_X2_missesTogether : GoodIn wsX8_counted (wsV RX8 119 RX2 yX2_missesTogether wsX2_missesTogether) := goodIn_app (goodIn_of _ (by decide +kernel)) ggX8_counted_X2_missesTogether
set_option maxRecDepth 20000 in
theorem ggX8_counted_X2_correctionsTogether : GoodIn wsX8_counted wsX2_correctionsTogether := goodIn_r _ [76, 77, 78, 79, 72, 45, 46, 47, 117, 118, 119, 120, 121, 122, 123, 124, 125, 126, 127, 128, 129, 105, 106, 107, 108, 109, 110, 111, 112] (by decide +kernel) (by decide +kernel)
set_option maxRecDepth 20000 in
theorem gX8_counted_X2_correctionsTogether : GoodIn wsX8_counted (wsV RX8 248 RX2 yX2_correctionsTogether wsX2_correctionsTogether) := goodIn_app (goodIn_of _ (by decide +kernel)) ggX8_counted_X2_correctionsTogether
set_option maxRecDepth 20000 in
theorem ggX8_counted_X0_howManyThere : GoodIn wsX8_counted wsX0_howManyThere := goodIn_r _ [83, 37, 38, 49, 50, 51, 35, 52, 53, 54, 55, 56, 57, 58, 59, 138, 139, 140, 141, 142, 143, 105, 106, 107, 108, 109, 110, 111, 112, 132, 133, 134, 135, 136, 137] (by decide +kernel) (by decide +kernel)
set_option maxRecDepth 20000 in
theorem gX8_counted_X0_howManyThere : GoodIn wsX8_counted (wsV RX8 251 RX0 yX0_howManyThere wsX0_howManyThere) := goodIn_app (goodIn_of _ (by decide +kernel)) ggX8_counted_X0_howManyThere
set_option maxRecDepth 20000 in
theorem ggX8_counted_X5_lengthOf : GoodIn wsX8_counted wsX5_lengthOf := goodIn_r _ [93, 89, 94, 95, 96, 97, 105, 106, 107, 108, 109, 110, 111, 112] (by decide +kernel) (by decide +kernel)
set_option maxRecDepth 20000 in
theorem gX8_counted_X5_lengthOf : GoodIn wsX8_counted (wsV RX8 257 RX5 yX5_lengthOf wsX5_lengthOf) := goodIn_app (goodIn_of _ (by decide +kernel)) ggX8_counted_X5_lengthOf
set_option maxRecDepth 20000 in
theorem ggX8_counted_X5_allLegs : GoodIn wsX8_counted wsX5_allLegs := goodIn_r _ [88, 89, 105, 106, 107, 108, 109, 110, 111, 112] (by decide +kernel) (by decide +kernel)
set_option maxRecDepth 20000 in
theorem gX8_counted_X5_allLegs : GoodIn wsX8_counted (wsV RX8 254 RX5 yX5_allLegs wsX5_allLegs) := goodIn_app (goodIn_of _ (by decide +kernel)) ggX8_counted_X5_allLegs
def D_X8_counted : Md := (yX8_counted, cX8_counted, 2, (some .int), wsX8_counted, RX8, { frames := 4, cells := 0, slots := 0, locals := 87 })
theorem nm_X8_counted : nmD D_X8_counted 1 := ⟨rfl, by decide +kernel, by decide +kernel, by decide +kernel⟩
theorem hi_X8_counted_X1 : ∀ w ∈ u_ws RX1 TX1 2, w ∈ wsX8_counted := by decide +kernel
theorem hi_X8_counted_X2 : ∀ w ∈ u_ws RX2 TX2 13, w ∈ wsX8_counted := by decide +kernel
theorem hi_X8_counted_X4 : ∀ w ∈ u_ws RX4 TX4 4, w ∈ wsX8_counted := by decide +kernel
theorem hi_X8_counted_X5 : ∀ w ∈ u_ws RX5 TX5 8, w ∈ wsX8_counted := by decide +kernel
theorem hi_X8_counted_X8 : ∀ w ∈ u_ws RX8 TX8 7, w ∈ wsX8_counted := by decide +kernel
theorem hl_X8_counted_10 : Cond.fieldLink RX8 10 "LevelLoops" "survey" "LLevelLoops$Survey;" ∈ wsX8_counted := by decide +kernel
theorem hl_X8_counted_21 : Cond.fieldLink RX8 21 "LevelLoops" "study" "LLevelLoops$Study;" ∈ wsX8_counted := by decide +kernel
theorem hl_X8_counted_34 : Cond.fieldLink RX8 34 "LevelLoops" "history" "LLevelLoops$History;" ∈ wsX8_counted := by decide +kernel
theorem hl_X8_counted_59 : Cond.fieldLink RX8 59 "LevelLoops$Survey" "marks" "I" ∈ wsX8_counted := by decide +kernel
theorem hl_X8_counted_85 : Cond.fieldLink RX8 85 "LevelLoops$Study" "heights" "LLevelLoops$Heights;" ∈ wsX8_counted := by decide +kernel
theorem hl_X8_counted_105 : Cond.fieldLink RX8 105 "LevelLoops$Survey" "legs" "I" ∈ wsX8_counted := by decide +kernel
theorem hl_X8_counted_115 : Cond.fieldLink RX8 115 "LevelLoops$Study" "loops" "LLevelLoops$Loops;" ∈ wsX8_counted := by decide +kernel
theorem hl_X8_counted_139 : Cond.fieldLink RX8 139 "LevelLoops$Loops" "size" "I" ∈ wsX8_counted := by decide +kernel
theorem hl_X8_counted_162 : Cond.fieldLink RX8 162 "LevelLoops$History" "size" "I" ∈ wsX8_counted := by decide +kernel
theorem hl_X8_counted_236 : Cond.fieldLink RX8 236 "LevelLoops$Study" "tree" "LLevelLoops$Tree;" ∈ wsX8_counted := by decide +kernel
def wp_X8_counted (x1 : Int32) (w : Wd) (Q : Int32 → Prop) : Prop :=
  ((x1 = 0 → Q (wi w 0 0 0)) ∧ (x1 = 1 → Q (wi w 0 0 1)) ∧ (x1 = 2 → Q (wi w 0 12 0)) ∧ (x1 = 3 → wp_X2_howManyBad 0 w (fun r90 => Q r90)) ∧ (x1 = 4 → wp_X7_howManyNets 0 w (fun r101 => Q r101)) ∧ (x1 = 5 → wp_X0_howManyMoved 0 w (fun r112 => Q r112)) ∧ (x1 = 6 → wp_X2_missesTogether 0 w (fun r123 => Q r123)) ∧ (x1 = 7 → wp_X2_correctionsTogether 0 w (fun r134 => Q r134)) ∧ (x1 = 8 → wp_X0_howManyThere 0 w (fun r145 => Q r145)) ∧ (x1 = 9 → wp_X5_allLegs 0 w (fun r157 => wp_X5_lengthOf 0 r157 w (fun r160 => Q r160))) ∧ (¬ x1 = 0 → ¬ x1 = 1 → ¬ x1 = 2 → ¬ x1 = 3 → ¬ x1 = 4 → ¬ x1 = 5 → ¬ x1 = 6 → ¬ x1 = 7 → ¬ x1 = 8 → ¬ x1 = 9 → Q (wi w 0 27 0)))
theorem ok_X8_counted {G : Gt} {M : Mx} {Qf : State → Prop} {x1 : Int32} {w : Wd} {Q : Int32 → Prop} (hC : cx G D_X8_counted M) (he : en G M (qip w Q) Qf) (h : wp_X8_counted x1 w Q) : jq G D_X8_counted M Qf 0 [(0, .ref (aD G 0 26)), (1, .int x1)] [] w := by
  unfold wp_X8_counted at h
  refine jq_iload_n (k0 := 1) dX8_counted_0 hC rfl rfl ?_
  by_cases cd : (x1).toInt < 0 ∨ 9 < (x1).toInt
  · refine jq_tout (tgt := 164) dX8_counted_1 hC cd (by decide) ?_
    have h := h.2.2.2.2.2.2.2.2.2.2 (fun e => by rw [e] at cd; revert cd; decide) (fun e => by rw [e] at cd; revert cd; decide) (fun e => by rw [e] at cd; revert cd; decide) (fun e => by rw [e] at cd; revert cd; decide) (fun e => by rw [e] at cd; revert cd; decide) (fun e => by rw [e] at cd; revert cd; decide) (fun e => by rw [e] at cd; revert cd; decide) (fun e => by rw [e] at cd; revert cd; decide) (fun e => by rw [e] at cd; revert cd; decide) (fun e => by rw [e] at cd; revert cd; decide)
    refine jq_aload_n (k0 := 0) dX8_counted_164 hC rfl rfl ?_
    refine jq_get (k0 := 4) (n := 0) (o := 26) dX8_counted_165 hC (cl_0 (by decide)) rfl rfl hi_X8_counted_X8 (by decide) hl_X8_counted_34 rfl rfl ?_
    refine jq_get (k0 := 0) (n := 0) (o := 27) dX8_counted_168 hC (cl_0 (by decide)) rfl rfl hi_X8_counted_X1 (by decide) hl_X8_counted_162 rfl rfl ?_
    exact jq_iret dX8_counted_171 hC he rfl ⟨_, rfl, rfl, h⟩
  have cs : (x1).toInt = 0 ∨ (x1).toInt = 1 ∨ (x1).toInt = 2 ∨ (x1).toInt = 3 ∨ (x1).toInt = 4 ∨ (x1).toInt = 5 ∨ (x1).toInt = 6 ∨ (x1).toInt = 7 ∨ (x1).toInt = 8 ∨ (x1).toInt = 9 := by omega
  rcases cs with cs | cs | cs | cs | cs | cs | cs | cs | cs | cs
  · refine jq_tin (tgt := 56) (off := 55) dX8_counted_1 hC (fun q => cd (Or.inl q)) (fun q => cd (Or.inr q)) (by rw [cs]; rfl) (by decide) ?_
    have h := h.1 (Int32.toInt_inj.mp (cs.trans (by decide)))
    refine jq_aload_n (k0 := 0) dX8_counted_56 hC rfl rfl ?_
    refine jq_get (k0 := 0) (n := 0) (o := 26) dX8_counted_57 hC (cl_0 (by decide)) rfl rfl hi_X8_counted_X8 (by decide) hl_X8_counted_10 rfl rfl ?_
    refine jq_get (k0 := 0) (n := 0) (o := 0) dX8_counted_60 hC (cl_0 (by decide)) rfl rfl hi_X8_counted_X5 (by decide) hl_X8_counted_59 rfl rfl ?_
    exact jq_iret dX8_counted_63 hC he rfl ⟨_, rfl, rfl, h⟩
  · refine jq_tin (tgt := 64) (off := 63) dX8_counted_1 hC (fun q => cd (Or.inl q)) (fun q => cd (Or.inr q)) (by rw [cs]; rfl) (by decide) ?_
    have h := h.2.1 (Int32.toInt_inj.mp (cs.trans (by decide)))
    refine jq_aload_n (k0 := 0) dX8_counted_64 hC rfl rfl ?_
    refine jq_get (k0 := 0) (n := 0) (o := 26) dX8_counted_65 hC (cl_0 (by decide)) rfl rfl hi_X8_counted_X8 (by decide) hl_X8_counted_10 rfl rfl ?_
    refine jq_get (k0 := 1) (n := 0) (o := 0) dX8_counted_68 hC (cl_0 (by decide)) rfl rfl hi_X8_counted_X5 (by decide) hl_X8_counted_105 rfl rfl ?_
    exact jq_iret dX8_counted_71 hC he rfl ⟨_, rfl, rfl, h⟩
  · refine jq_tin (tgt := 72) (off := 71) dX8_counted_1 hC (fun q => cd (Or.inl q)) (fun q => cd (Or.inr q)) (by rw [cs]; rfl) (by decide) ?_
    have h := h.2.2.1 (Int32.toInt_inj.mp (cs.trans (by decide)))
    refine jq_aload_n (k0 := 0) dX8_counted_72 hC rfl rfl ?_
    refine jq_get (k0 := 1) (n := 0) (o := 26) dX8_counted_73 hC (cl_0 (by decide)) rfl rfl hi_X8_counted_X8 (by decide) hl_X8_counted_21 rfl rfl ?_
    refine jq_get (k0 := 1) (n := 0) (o := 7) dX8_counted_76 hC (cl_0 (by decide)) rfl rfl hi_X8_counted_X4 (by decide) hl_X8_counted_115 rfl rfl ?_
    refine jq_get (k0 := 0) (n := 0) (o := 12) dX8_counted_79 hC (cl_0 (by decide)) rfl rfl hi_X8_counted_X2 (by decide) hl_X8_counted_139 rfl rfl ?_
    exact jq_iret dX8_counted_82 hC he rfl ⟨_, rfl, rfl, h⟩
  · refine jq_tin (tgt := 83) (off := 82) dX8_counted_1 hC (fun q => cd (Or.inl q)) (fun q => cd (Or.inr q)) (by rw [cs]; rfl) (by decide) ?_
    have h := h.2.2.2.1 (Int32.toInt_inj.mp (cs.trans (by decide)))
    refine jq_aload_n (k0 := 0) dX8_counted_83 hC rfl rfl ?_
    refine jq_get (k0 := 1) (n := 0) (o := 26) dX8_counted_84 hC (cl_0 (by decide)) rfl rfl hi_X8_counted_X8 (by decide) hl_X8_counted_21 rfl rfl ?_
    refine jq_get (k0 := 1) (n := 0) (o := 7) dX8_counted_87 hC (cl_0 (by decide)) rfl rfl hi_X8_counted_X4 (by decide) hl_X8_counted_115 rfl rfl ?_
    refine jq_callV (As := []) (rest := []) (n := 0) (o := 12) (D' := D_X2_howManyBad) dX8_counted_90 hC (cl_0 (by decide)) rfl rfl rfl (mt_X2_howManyBad (by omega) h) gX8_counted_X2_howManyBad rfl ⟨rfl, rfl, Nat.le_of_ble_eq_true rfl, Nat.le_of_ble_eq_true rfl⟩ nm_X2_howManyBad rfl (Nat.le_of_ble_eq_true rfl) (kIp fun r90 h => ?_)
    exact jq_iret dX8_counted_93 hC he rfl ⟨_, rfl, rfl, h⟩
  · refine jq_tin (tgt := 94) (off := 93) dX8_counted_1 hC (fun q => cd (Or.inl q)) (fun q => cd (Or.inr q)) (by rw [cs]; rfl) (by decide) ?_
    have h := h.2.2.2.2.1 (Int32.toInt_inj.mp (cs.trans (by decide)))
    refine jq_aload_n (k0 := 0) dX8_counted_94 hC rfl rfl ?_
    refine jq_get (k0 := 1) (n := 0) (o := 26) dX8_counted_95 hC (cl_0 (by decide)) rfl rfl hi_X8_counted_X8 (by decide) hl_X8_counted_21 rfl rfl ?_
    refine jq_get (k0 := 0) (n := 0) (o := 7) dX8_counted_98 hC (cl_0 (by decide)) rfl rfl hi_X8_counted_X4 (by decide) hl_X8_counted_236 rfl rfl ?_
    refine jq_callV (As := []) (rest := []) (n := 0) (o := 8) (D' := D_X7_howManyNets) dX8_counted_101 hC (cl_0 (by decide)) rfl rfl rfl (mt_X7_howManyNets (by omega) h) gX8_counted_X7_howManyNets rfl ⟨rfl, rfl, Nat.le_of_ble_eq_true rfl, Nat.le_of_ble_eq_true rfl⟩ nm_X7_howManyNets rfl (Nat.le_of_ble_eq_true rfl) (kIp fun r101 h => ?_)
    exact jq_iret dX8_counted_104 hC he rfl ⟨_, rfl, rfl, h⟩
  · refine jq_tin (tgt := 105) (off := 104) dX8_counted_1 hC (fun q => cd (Or.inl q)) (fun q => cd (Or.inr q)) (by rw [cs]; rfl) (by decide) ?_
    have h := h.2.2.2.2.2.1 (Int32.toInt_inj.mp (cs.trans (by decide)))
    refine jq_aload_n (k0 := 0) dX8_counted_105 hC rfl rfl ?_
    refine jq_get (k0 := 1) (n := 0) (o := 26) dX8_counted_106 hC (cl_0 (by decide)) rfl rfl hi_X8_counted_X8 (by decide) hl_X8_counted_21 rfl rfl ?_
    refine jq_get (k0 := 2) (n := 0) (o := 7) dX8_counted_109 hC (cl_0 (by decide)) rfl rfl hi_X8_counted_X4 (by decide) hl_X8_counted_85 rfl rfl ?_
    refine jq_callV (As := []) (rest := []) (n := 0) (o := 22) (D' := D_X0_howManyMoved) dX8_counted_112 hC (cl_0 (by decide)) rfl rfl rfl (mt_X0_howManyMoved (by omega) h) gX8_counted_X0_howManyMoved rfl ⟨rfl, rfl, Nat.le_of_ble_eq_true rfl, Nat.le_of_ble_eq_true rfl⟩ nm_X0_howManyMoved rfl (Nat.le_of_ble_eq_true rfl) (kIp fun r112 h => ?_)
    exact jq_iret dX8_counted_115 hC he rfl ⟨_, rfl, rfl, h⟩
  · refine jq_tin (tgt := 116) (off := 115) dX8_counted_1 hC (fun q => cd (Or.inl q)) (fun q => cd (Or.inr q)) (by rw [cs]; rfl) (by decide) ?_
    have h := h.2.2.2.2.2.2.1 (Int32.toInt_inj.mp (cs.trans (by decide)))
    refine jq_aload_n (k0 := 0) dX8_counted_116 hC rfl rfl ?_
    refine jq_get (k0 := 1) (n := 0) (o := 26) dX8_counted_117 hC (cl_0 (by decide)) rfl rfl hi_X8_counted_X8 (by decide) hl_X8_counted_21 rfl rfl ?_
    refine jq_get (k0 := 1) (n := 0) (o := 7) dX8_counted_120 hC (cl_0 (by decide)) rfl rfl hi_X8_counted_X4 (by decide) hl_X8_counted_115 rfl rfl ?_
    refine jq_callV (As := []) (rest := []) (n := 0) (o := 12) (D' := D_X2_missesTogether) dX8_counted_123 hC (cl_0 (by decide)) rfl rfl rfl (mt_X2_missesTogether (by omega) h) gX8_counted_X2_missesTogether rfl ⟨rfl, rfl, Nat.le_of_ble_eq_true rfl, Nat.le_of_ble_eq_true rfl⟩ nm_X2_missesTogether rfl (Nat.le_of_ble_eq_true rfl) (kIp fun r123 h => ?_)
    exact jq_iret dX8_counted_126 hC he rfl ⟨_, rfl, rfl, h⟩
  · refine jq_tin (tgt := 127) (off := 126) dX8_counted_1 hC (fun q => cd (Or.inl q)) (fun q => cd (Or.inr q)) (by rw [cs]; rfl) (by decide) ?_
    have h := h.2.2.2.2.2.2.2.1 (Int32.toInt_inj.mp (cs.trans (by decide)))
    refine jq_aload_n (k0 := 0) dX8_counted_127 hC rfl rfl ?_
    refine jq_get (k0 := 1) (n := 0) (o := 26) dX8_counted_128 hC (cl_0 (by decide)) rfl rfl hi_X8_counted_X8 (by decide) hl_X8_counted_21 rfl rfl ?_
    refine jq_get (k0 := 1) (n := 0) (o := 7) dX8_counted_131 hC (cl_0 (by decide)) rfl rfl hi_X8_counted_X4 (by decide) hl_X8_counted_115 rfl rfl ?_
    refine jq_callV (As := []) (rest := []) (n := 0) (o := 12) (D' := D_X2_correctionsTogether) dX8_counted_134 hC (cl_0 (by decide)) rfl rfl rfl (mt_X2_correctionsTogether (by omega) h) gX8_counted_X2_correctionsTogether rfl ⟨rfl, rfl, Nat.le_of_ble_eq_true rfl, Nat.le_of_ble_eq_true rfl⟩ nm_X2_correctionsTogether rfl (Nat.le_of_ble_eq_true rfl) (kIp fun r134 h => ?_)
    exact jq_iret dX8_counted_137 hC he rfl ⟨_, rfl, rfl, h⟩
  · refine jq_tin (tgt := 138) (off := 137) dX8_counted_1 hC (fun q => cd (Or.inl q)) (fun q => cd (Or.inr q)) (by rw [cs]; rfl) (by decide) ?_
    have h := h.2.2.2.2.2.2.2.2.1 (Int32.toInt_inj.mp (cs.trans (by decide)))
    refine jq_aload_n (k0 := 0) dX8_counted_138 hC rfl rfl ?_
    refine jq_get (k0 := 1) (n := 0) (o := 26) dX8_counted_139 hC (cl_0 (by decide)) rfl rfl hi_X8_counted_X8 (by decide) hl_X8_counted_21 rfl rfl ?_
    refine jq_get (k0 := 2) (n := 0) (o := 7) dX8_counted_142 hC (cl_0 (by decide)) rfl rfl hi_X8_counted_X4 (by decide) hl_X8_counted_85 rfl rfl ?_
    refine jq_callV (As := []) (rest := []) (n := 0) (o := 22) (D' := D_X0_howManyThere) dX8_counted_145 hC (cl_0 (by decide)) rfl rfl rfl (mt_X0_howManyThere (by omega) h) gX8_counted_X0_howManyThere rfl ⟨rfl, rfl, Nat.le_of_ble_eq_true rfl, Nat.le_of_ble_eq_true rfl⟩ nm_X0_howManyThere rfl (Nat.le_of_ble_eq_true rfl) (kIp fun r145 h => ?_)
    exact jq_iret dX8_counted_148 hC he rfl ⟨_, rfl, rfl, h⟩
  · refine jq_tin (tgt := 149) (off := 148) dX8_counted_1 hC (fun q => cd (Or.inl q)) (fun q => cd (Or.inr q)) (by rw [cs]; rfl) (by decide) ?_
    have h := h.2.2.2.2.2.2.2.2.2.1 (Int32.toInt_inj.mp (cs.trans (by decide)))
    refine jq_aload_n (k0 := 0) dX8_counted_149 hC rfl rfl ?_
    refine jq_get (k0 := 0) (n := 0) (o := 26) dX8_counted_150 hC (cl_0 (by decide)) rfl rfl hi_X8_counted_X8 (by decide) hl_X8_counted_10 rfl rfl ?_
    refine jq_aload_n (k0 := 0) dX8_counted_153 hC rfl rfl ?_
    refine jq_get (k0 := 0) (n := 0) (o := 26) dX8_counted_154 hC (cl_0 (by decide)) rfl rfl hi_X8_counted_X8 (by decide) hl_X8_counted_10 rfl rfl ?_
    refine jq_callV (As := []) (rest := [.ref (aD G 0 0)]) (n := 0) (o := 0) (D' := D_X5_allLegs) dX8_counted_157 hC (cl_0 (by decide)) rfl rfl rfl (mt_X5_allLegs (by omega) h) gX8_counted_X5_allLegs rfl ⟨rfl, rfl, Nat.le_of_ble_eq_true rfl, Nat.le_of_ble_eq_true rfl⟩ nm_X5_allLegs rfl (Nat.le_of_ble_eq_true rfl) (kIp fun r157 h => ?_)
    refine jq_callV (As := [.int r157]) (rest := []) (n := 0) (o := 0) (D' := D_X5_lengthOf) dX8_counted_160 hC (cl_0 (by decide)) rfl rfl rfl (mt_X5_lengthOf (by omega) h) gX8_counted_X5_lengthOf rfl ⟨rfl, rfl, Nat.le_of_ble_eq_true rfl, Nat.le_of_ble_eq_true rfl⟩ nm_X5_lengthOf rfl (Nat.le_of_ble_eq_true rfl) (kIp fun r160 h => ?_)
    exact jq_iret dX8_counted_163 hC he rfl ⟨_, rfl, rfl, h⟩
theorem mt_X8_counted {G : Gt} {x1 : Int32} {w : Wd} {Q : Int32 → Prop} (h : wp_X8_counted x1 w Q) : Mt G D_X8_counted [.ref (aD G 0 26), .int x1] w (qip w Q) := Mt_of (by decide +kernel) rfl rfl (Nat.le_of_ble_eq_true rfl) (fun M Qf hC he => ok_X8_counted hC he h)
/-! X8.worst()I -/
theorem dX8_worst_0 : decode cX8_worst 0 = .ok (.aload_n 0, 1) := by decide +kernel
theorem dX8_worst_1 : decode cX8_worst 1 = .ok (.getfield 21, 3) := by decide +kernel
theorem dX8_worst_4 : decode cX8_worst 4 = .ok (.getfield 115, 3) := by decide +kernel
theorem dX8_worst_7 : decode cX8_worst 7 = .ok (.invokevirtual 183, 3) := by decide +kernel
theorem dX8_worst_10 : decode cX8_worst 10 = .ok (.ireturn, 1) := by decide +kernel
set_option maxRecDepth 20000 in
theorem ggX8_worst_X2_worstLoop : GoodIn wsX8_worst wsX2_worstLoop := goodIn_r _ [7, 8, 9, 10, 11, 6, 12, 13, 14, 15, 16, 17, 18, 19, 20, 21, 22, 23, 24, 36, 37, 38, 39, 40, 41, 42, 43, 44, 45, 46, 47, 48, 49, 50, 51, 52, 53, 54, 55, 56] (by decide +kernel) (by decide +kernel)
set_option maxRecDepth 20000 in
theorem gX8_worst_X2_worstLoop : GoodIn wsX8_worst (wsV RX8 183 RX2 yX2_worstLoop wsX2_worstLoop) := goodIn_app (goodIn_of _ (by decide +kernel)) ggX8_worst_X2_worstLoop
def D_X8_worst : Md := (yX8_worst, cX8_worst, 1, (some .int), wsX8_worst, RX8, { frames := 3, cells := 0, slots := 0, locals := 64 })
theorem nm_X8_worst : nmD D_X8_worst 0 := ⟨rfl, by decide +kernel, by decide +kernel, by decide +kernel⟩
theorem hi_X8_worst_X4 : ∀ w ∈ u_ws RX4 TX4 4, w ∈ wsX8_worst := by decide +kernel
theorem hi_X8_worst_X8 : ∀ w ∈ u_ws RX8 TX8 7, w ∈ wsX8_worst := by decide +kernel
theorem hl_X8_worst_21 : Cond.fieldLink RX8 21 "LevelLoops" "study" "LLevelLoops$Study;" ∈ wsX8_worst := by decide +kernel
theorem hl_X8_worst_115 : Cond.fieldLink RX8 115 "LevelLoops$Study" "loops" "LLevelLoops$Loops;" ∈ wsX8_worst := by decide +kernel
def wp_X8_worst (w : Wd) (Q : Int32 → Prop) : Prop :=
  wp_X2_worstLoop 0 w (fun r7 => Q r7)
theorem ok_X8_worst {G : Gt} {M : Mx} {Qf : State → Prop} {w : Wd} {Q : Int32 → Prop} (hC : cx G D_X8_worst M) (he : en G M (qip w Q) Qf) (h : wp_X8_worst w Q) : jq G D_X8_worst M Qf 0 [(0, .ref (aD G 0 26))] [] w := by
  unfold wp_X8_worst at h
  refine jq_aload_n (k0 := 0) dX8_worst_0 hC rfl rfl ?_
  refine jq_get (k0 := 1) (n := 0) (o := 26) dX8_worst_1 hC (cl_0 (by decide)) rfl rfl hi_X8_worst_X8 (by decide) hl_X8_worst_21 rfl rfl ?_
  refine jq_get (k0 := 1) (n := 0) (o := 7) dX8_worst_4 hC (cl_0 (by decide)) rfl rfl hi_X8_worst_X4 (by decide) hl_X8_worst_115 rfl rfl ?_
  refine jq_callV (As := []) (rest := []) (n := 0) (o := 12) (D' := D_X2_worstLoop) dX8_worst_7 hC (cl_0 (by decide)) rfl rfl rfl (mt_X2_worstLoop (by omega) h) gX8_worst_X2_worstLoop rfl ⟨rfl, rfl, Nat.le_of_ble_eq_true rfl, Nat.le_of_ble_eq_true rfl⟩ nm_X2_worstLoop rfl (Nat.le_of_ble_eq_true rfl) (kIp fun r7 h => ?_)
  exact jq_iret dX8_worst_10 hC he rfl ⟨_, rfl, rfl, h⟩
theorem mt_X8_worst {G : Gt} {w : Wd} {Q : Int32 → Prop} (h : wp_X8_worst w Q) : Mt G D_X8_worst [.ref (aD G 0 26)] w (qip w Q) := Mt_of (by decide +kernel) rfl rfl (Nat.le_of_ble_eq_true rfl) (fun M Qf hC he => ok_X8_worst hC he h)
/-! X8.suspect()I -/
theorem dX8_suspect_0 : decode cX8_suspect 0 = .ok (.aload_n 0, 1) := by decide +kernel
theorem dX8_suspect_1 : decode cX8_suspect 1 = .ok (.getfield 21, 3) := by decide +kernel
theorem dX8_suspect_4 : decode cX8_suspect 4 = .ok (.getfield 115, 3) := by decide +kernel
theorem dX8_suspect_7 : decode cX8_suspect 7 = .ok (.invokevirtual 186, 3) := by decide +kernel
theorem dX8_suspect_10 : decode cX8_suspect 10 = .ok (.ireturn, 1) := by decide +kernel
set_option maxRecDepth 20000 in
theorem ggX8_suspect_X2_suspectLeg : GoodIn wsX8_suspect wsX2_suspectLeg := goodIn_r _ [7, 8, 9, 10, 11, 12, 13, 6, 14, 15, 16, 17, 18, 19, 20, 21, 22, 23, 24, 25, 26, 27, 28, 29, 30, 31, 32, 33, 34, 35, 36, 37, 38, 39, 51, 52, 53, 54, 55, 56, 57, 58, 59, 60, 61, 62, 63, 64, 65, 66, 67, 68, 69, 70, 71] (by decide +kernel) (by decide +kernel)
set_option maxRecDepth 20000 in
theorem gX8_suspect_X2_suspectLeg : GoodIn wsX8_suspect (wsV RX8 186 RX2 yX2_suspectLeg wsX2_suspectLeg) := goodIn_app (goodIn_of _ (by decide +kernel)) ggX8_suspect_X2_suspectLeg
def D_X8_suspect : Md := (yX8_suspect, cX8_suspect, 1, (some .int), wsX8_suspect, RX8, { frames := 4, cells := 0, slots := 0, locals := 90 })
theorem nm_X8_suspect : nmD D_X8_suspect 0 := ⟨rfl, by decide +kernel, by decide +kernel, by decide +kernel⟩
theorem hi_X8_suspect_X4 : ∀ w ∈ u_ws RX4 TX4 4, w ∈ wsX8_suspect := by decide +kernel
theorem hi_X8_suspect_X8 : ∀ w ∈ u_ws RX8 TX8 7, w ∈ wsX8_suspect := by decide +kernel
theorem hl_X8_suspect_21 : Cond.fieldLink RX8 21 "LevelLoops" "study" "LLevelLoops$Study;" ∈ wsX8_suspect := by decide +kernel
theorem hl_X8_suspect_115 : Cond.fieldLink RX8 115 "LevelLoops$Study" "loops" "LLevelLoops$Loops;" ∈ wsX8_suspect := by decide +kernel
def wp_X8_suspect (w : Wd) (Q : Int32 → Prop) : Prop :=
  wp_X2_suspectLeg 0 w (fun r7 => Q r7)
theorem ok_X8_suspect {G : Gt} {M : Mx} {Qf : State → Prop} {w : Wd} {Q : Int32 → Prop} (hC : cx G D_X8_suspect M) (he : en G M (qip w Q) Qf) (h : wp_X8_suspect w Q) : jq G D_X8_suspect M Qf 0 [(0, .ref (aD G 0 26))] [] w := by
  unfold wp_X8_suspect at h
  refine jq_aload_n (k0 := 0) dX8_suspect_0 hC rfl rfl ?_
  refine jq_get (k0 := 1) (n := 0) (o := 26) dX8_suspect_1 hC (cl_0 (by decide)) rfl rfl hi_X8_suspect_X8 (by decide) hl_X8_suspect_21 rfl rfl ?_
  refine jq_get (k0 := 1) (n := 0) (o := 7) dX8_suspect_4 hC (cl_0 (by decide)) rfl rfl hi_X8_suspect_X4 (by decide) hl_X8_suspect_115 rfl rfl ?_
  refine jq_callV (As := []) (rest := []) (n := 0) (o := 12) (D' := D_X2_suspectLeg) dX8_suspect_7 hC (cl_0 (by decide)) rfl rfl rfl (mt_X2_suspectLeg (by omega) h) gX8_suspect_X2_suspectLeg rfl ⟨rfl, rfl, Nat.le_of_ble_eq_true rfl, Nat.le_of_ble_eq_true rfl⟩ nm_X2_suspectLeg rfl (Nat.le_of_ble_eq_true rfl) (kIp fun r7 h => ?_)
  exact jq_iret dX8_suspect_10 hC he rfl ⟨_, rfl, rfl, h⟩
theorem mt_X8_suspect {G : Gt} {w : Wd} {Q : Int32 → Prop} (h : wp_X8_suspect w Q) : Mt G D_X8_suspect [.ref (aD G 0 26)] w (qip w Q) := Mt_of (by decide +kernel) rfl rfl (Nat.le_of_ble_eq_true rfl) (fun M Qf hC he => ok_X8_suspect hC he h)
/-! X8.thinkAway(I)V -/
theorem dX8_thinkAway_0 : decode cX8_thinkAway 0 = .ok (.aload_n 0, 1) := by decide +kernel
theorem dX8_thinkAway_1 : decode cX8_thinkAway 1 = .ok (.getfield 25, 3) := by decide +kernel
theorem dX8_thinkAway_4 : decode cX8_thinkAway 4 = .ok (.aload_n 0, 1) := by decide +kernel
theorem dX8_thinkAway_5 : decode cX8_thinkAway 5 = .ok (.getfield 10, 3) := by decide +kernel
theorem dX8_thinkAway_8 : decode cX8_thinkAway 8 = .ok (.invokevirtual 260, 3) := by decide +kernel
theorem dX8_thinkAway_11 : decode cX8_thinkAway 11 = .ok (.aload_n 0, 1) := by decide +kernel
theorem dX8_thinkAway_12 : decode cX8_thinkAway 12 = .ok (.getfield 25, 3) := by decide +kernel
theorem dX8_thinkAway_15 : decode cX8_thinkAway 15 = .ok (.iload_n 1, 1) := by decide +kernel
theorem dX8_thinkAway_16 : decode cX8_thinkAway 16 = .ok (.invokevirtual 136, 3) := by decide +kernel
theorem dX8_thinkAway_19 : decode cX8_thinkAway 19 = .ok (.aload_n 0, 1) := by decide +kernel
theorem dX8_thinkAway_20 : decode cX8_thinkAway 20 = .ok (.getfield 28, 3) := by decide +kernel
theorem dX8_thinkAway_23 : decode cX8_thinkAway 23 = .ok (.invokevirtual 72, 3) := by decide +kernel
theorem dX8_thinkAway_26 : decode cX8_thinkAway 26 = .ok (.return_, 1) := by decide +kernel
set_option maxRecDepth 20000 in
theorem ggX8_thinkAway_X4_renew : GoodIn wsX8_thinkAway wsX4_renew := goodIn_r _ [29, 30, 31, 32, 33, 34, 35, 36, 37, 38, 39, 40, 41, 42, 43, 44, 45, 46, 47, 48, 49, 50, 51, 52, 53, 54, 55, 56, 57, 58, 59, 60, 61, 62, 63, 64, 65, 66, 67, 68, 69, 70, 71, 72, 73, 74, 75, 76, 77, 78, 79, 80, 81, 82, 83, 84, 85, 86, 87, 88, 89, 90, 91, 92, 93, 94, 95, 96, 97, 98, 99, 100, 101, 102, 103, 104, 105, 106, 7, 107, 10, 19, 108, 109, 110, 111, 112, 113, 114, 115, 116, 117, 118, 119, 120, 121, 122, 123, 124, 125, 126, 127, 128, 129, 130, 131, 132, 133, 134, 135, 136, 137, 138, 139, 140, 141, 142, 143, 144, 145, 146, 147, 148, 149, 150, 151, 152, 153, 154, 155, 156, 157, 158, 159, 160, 161, 162, 163, 164, 165, 166, 167, 168, 169, 170, 171, 172, 173, 174, 175, 176, 177, 193, 194, 195, 196, 197, 198, 199, 200, 201, 202, 185, 186, 187, 188, 189, 190, 191, 192, 203, 204, 205, 206, 207, 208, 209, 210, 211, 212, 213, 214, 215, 216, 217, 218, 219, 220, 221] (by decide +kernel) (by decide +kernel)
set_option maxRecDepth 20000 in
theorem gX8_thinkAway_X4_renew : GoodIn wsX8_thinkAway (wsV RX8 72 RX4 yX4_renew wsX4_renew) := goodIn_app (goodIn_of _ (by decide +kernel)) ggX8_thinkAway_X4_renew
set_option maxRecDepth 20000 in
theorem ggX8_thinkAway_X5_dropLeg : GoodIn wsX8_thinkAway wsX5_dropLeg := goodIn_r _ [24, 10, 16, 17, 18, 19, 185, 186, 187, 188, 189, 190, 191, 192] (by decide +kernel) (by decide +kernel)
set_option maxRecDepth 20000 in
theorem gX8_thinkAway_X5_dropLeg : GoodIn wsX8_thinkAway (wsV RX8 136 RX5 yX5_dropLeg wsX5_dropLeg) := goodIn_app (goodIn_of _ (by decide +kernel)) ggX8_thinkAway_X5_dropLeg
set_option maxRecDepth 20000 in
theorem ggX8_thinkAway_X5_copy : GoodIn wsX8_thinkAway wsX5_copy := goodIn_r _ [8, 9, 10, 11, 12, 13, 14, 15, 16, 17, 18, 19, 20, 185, 186, 187, 188, 189, 190, 191, 192] (by decide +kernel) (by decide +kernel)
set_option maxRecDepth 20000 in
theorem gX8_thinkAway_X5_copy : GoodIn wsX8_thinkAway (wsV RX8 260 RX5 yX5_copy wsX5_copy) := goodIn_app (goodIn_of _ (by decide +kernel)) ggX8_thinkAway_X5_copy
def D_X8_thinkAway : Md := (yX8_thinkAway, cX8_thinkAway, 2, none, wsX8_thinkAway, RX8, { frames := 5, cells := 0, slots := 0, locals := 115 })
theorem nm_X8_thinkAway : nmD D_X8_thinkAway 1 := ⟨rfl, by decide +kernel, by decide +kernel, by decide +kernel⟩
theorem hi_X8_thinkAway_X8 : ∀ w ∈ u_ws RX8 TX8 7, w ∈ wsX8_thinkAway := by decide +kernel
theorem hl_X8_thinkAway_10 : Cond.fieldLink RX8 10 "LevelLoops" "survey" "LLevelLoops$Survey;" ∈ wsX8_thinkAway := by decide +kernel
theorem hl_X8_thinkAway_25 : Cond.fieldLink RX8 25 "LevelLoops" "lesser" "LLevelLoops$Survey;" ∈ wsX8_thinkAway := by decide +kernel
theorem hl_X8_thinkAway_28 : Cond.fieldLink RX8 28 "LevelLoops" "lesserStudy" "LLevelLoops$Study;" ∈ wsX8_thinkAway := by decide +kernel
def wp_X8_thinkAway (x1 : Int32) (w : Wd) (Q : Wd → Prop) : Prop :=
  wp_X5_copy 1 0 w (fun w8 => wp_X5_dropLeg 1 x1 w8 (fun w16 => wp_X4_renew 1 w16 (fun w23 => Q w23)))
theorem ok_X8_thinkAway {G : Gt} {M : Mx} {Qf : State → Prop} {x1 : Int32} {w : Wd} {Q : Wd → Prop} (hC : cx G D_X8_thinkAway M) (he : en G M (qv Q) Qf) (h : wp_X8_thinkAway x1 w Q) : jq G D_X8_thinkAway M Qf 0 [(0, .ref (aD G 0 26)), (1, .int x1)] [] w := by
  unfold wp_X8_thinkAway at h
  refine jq_aload_n (k0 := 0) dX8_thinkAway_0 hC rfl rfl ?_
  refine jq_get (k0 := 2) (n := 0) (o := 26) dX8_thinkAway_1 hC (cl_0 (by decide)) rfl rfl hi_X8_thinkAway_X8 (by decide) hl_X8_thinkAway_25 rfl rfl ?_
  refine jq_aload_n (k0 := 0) dX8_thinkAway_4 hC rfl rfl ?_
  refine jq_get (k0 := 0) (n := 0) (o := 26) dX8_thinkAway_5 hC (cl_0 (by decide)) rfl rfl hi_X8_thinkAway_X8 (by decide) hl_X8_thinkAway_10 rfl rfl ?_
  refine jq_callV (As := [.ref (aD G 0 0)]) (rest := []) (n := 1) (o := 0) (D' := D_X5_copy) dX8_thinkAway_8 hC (cl_T (by decide) (by decide)) rfl rfl rfl (mt_X5_copy (by omega) (by omega) h) gX8_thinkAway_X5_copy rfl ⟨rfl, rfl, Nat.le_of_ble_eq_true rfl, Nat.le_of_ble_eq_true rfl⟩ nm_X5_copy rfl (Nat.le_of_ble_eq_true rfl) (kV fun w8 h => ?_)
  refine jq_aload_n (k0 := 0) dX8_thinkAway_11 hC rfl rfl ?_
  refine jq_get (k0 := 2) (n := 0) (o := 26) dX8_thinkAway_12 hC (cl_0 (by decide)) rfl rfl hi_X8_thinkAway_X8 (by decide) hl_X8_thinkAway_25 rfl rfl ?_
  refine jq_iload_n (k0 := 1) dX8_thinkAway_15 hC rfl rfl ?_
  refine jq_callV (As := [.int x1]) (rest := []) (n := 1) (o := 0) (D' := D_X5_dropLeg) dX8_thinkAway_16 hC (cl_T (by decide) (by decide)) rfl rfl rfl (mt_X5_dropLeg (by omega) h) gX8_thinkAway_X5_dropLeg rfl ⟨rfl, rfl, Nat.le_of_ble_eq_true rfl, Nat.le_of_ble_eq_true rfl⟩ nm_X5_dropLeg rfl (Nat.le_of_ble_eq_true rfl) (kV fun w16 h => ?_)
  refine jq_aload_n (k0 := 0) dX8_thinkAway_19 hC rfl rfl ?_
  refine jq_get (k0 := 3) (n := 0) (o := 26) dX8_thinkAway_20 hC (cl_0 (by decide)) rfl rfl hi_X8_thinkAway_X8 (by decide) hl_X8_thinkAway_28 rfl rfl ?_
  refine jq_callV (As := []) (rest := []) (n := 1) (o := 7) (D' := D_X4_renew) dX8_thinkAway_23 hC (cl_T (by decide) (by decide)) rfl rfl rfl (mt_X4_renew (by omega) h) gX8_thinkAway_X4_renew rfl ⟨rfl, rfl, Nat.le_of_ble_eq_true rfl, Nat.le_of_ble_eq_true rfl⟩ nm_X4_renew rfl (Nat.le_of_ble_eq_true rfl) (kV fun w23 h => ?_)
  exact jq_vret dX8_thinkAway_26 hC he rfl ⟨rfl, h⟩
theorem mt_X8_thinkAway {G : Gt} {x1 : Int32} {w : Wd} {Q : Wd → Prop} (h : wp_X8_thinkAway x1 w Q) : Mt G D_X8_thinkAway [.ref (aD G 0 26), .int x1] w (qv Q) := Mt_of (by decide +kernel) rfl rfl (Nat.le_of_ble_eq_true rfl) (fun M Qf hC he => ok_X8_thinkAway hC he h)
/-! X8.wouldBe(I)I -/
theorem dX8_wouldBe_0 : decode cX8_wouldBe 0 = .ok (.iload_n 1, 1) := by decide +kernel
theorem dX8_wouldBe_1 : decode cX8_wouldBe 1 = .ok (.tableswitch 60 0 2 #[27, 38, 49], 27) := by decide +kernel
theorem dX8_wouldBe_28 : decode cX8_wouldBe 28 = .ok (.aload_n 0, 1) := by decide +kernel
theorem dX8_wouldBe_29 : decode cX8_wouldBe 29 = .ok (.getfield 28, 3) := by decide +kernel
theorem dX8_wouldBe_32 : decode cX8_wouldBe 32 = .ok (.getfield 115, 3) := by decide +kernel
theorem dX8_wouldBe_35 : decode cX8_wouldBe 35 = .ok (.getfield 139, 3) := by decide +kernel
theorem dX8_wouldBe_38 : decode cX8_wouldBe 38 = .ok (.ireturn, 1) := by decide +kernel
theorem dX8_wouldBe_39 : decode cX8_wouldBe 39 = .ok (.aload_n 0, 1) := by decide +kernel
theorem dX8_wouldBe_40 : decode cX8_wouldBe 40 = .ok (.getfield 28, 3) := by decide +kernel
theorem dX8_wouldBe_43 : decode cX8_wouldBe 43 = .ok (.getfield 115, 3) := by decide +kernel
theorem dX8_wouldBe_46 : decode cX8_wouldBe 46 = .ok (.invokevirtual 233, 3) := by decide +kernel
theorem dX8_wouldBe_49 : decode cX8_wouldBe 49 = .ok (.ireturn, 1) := by decide +kernel
theorem dX8_wouldBe_50 : decode cX8_wouldBe 50 = .ok (.aload_n 0, 1) := by decide +kernel
theorem dX8_wouldBe_51 : decode cX8_wouldBe 51 = .ok (.getfield 28, 3) := by decide +kernel
theorem dX8_wouldBe_54 : decode cX8_wouldBe 54 = .ok (.getfield 236, 3) := by decide +kernel
theorem dX8_wouldBe_57 : decode cX8_wouldBe 57 = .ok (.invokevirtual 240, 3) := by decide +kernel
theorem dX8_wouldBe_60 : decode cX8_wouldBe 60 = .ok (.ireturn, 1) := by decide +kernel
theorem dX8_wouldBe_61 : decode cX8_wouldBe 61 = .ok (.aload_n 0, 1) := by decide +kernel
theorem dX8_wouldBe_62 : decode cX8_wouldBe 62 = .ok (.getfield 28, 3) := by decide +kernel
theorem dX8_wouldBe_65 : decode cX8_wouldBe 65 = .ok (.getfield 115, 3) := by decide +kernel
theorem dX8_wouldBe_68 : decode cX8_wouldBe 68 = .ok (.invokevirtual 119, 3) := by decide +kernel
theorem dX8_wouldBe_71 : decode cX8_wouldBe 71 = .ok (.ireturn, 1) := by decide +kernel
set_option maxRecDepth 20000 in
theorem ggX8_wouldBe_X2_missesTogether : GoodIn wsX8_wouldBe wsX2_missesTogether := goodIn_r _ [29, 30, 31, 32, 33, 34, 35, 47, 48, 49, 50, 51, 52, 53, 54, 55, 56, 57, 58, 59] (by decide +kernel) (by decide +kernel)
set_option maxRecDepth 20000 in
theorem gX8_wouldBe_X2_missesTogether : GoodIn wsX8_wouldBe (wsV RX8 119 RX2 yX2_missesTogether wsX2_missesTogether) := goodIn_app (goodIn_of _ (by decide +kernel)) ggX8_wouldBe_X2_missesTogether
set_option maxRecDepth 20000 in
theorem ggX8_wouldBe_X2_howManyBad : GoodIn wsX8_wouldBe wsX2_howManyBad := goodIn_r _ [9, 10, 11, 12, 13, 14, 15, 16, 17, 47, 48, 49, 50, 51, 52, 53, 54, 55, 56, 57, 58, 59] (by decide +kernel) (by decide +kernel)
set_option maxRecDepth 20000 in
theorem gX8_wouldBe_X2_howManyBad : GoodIn wsX8_wouldBe (wsV RX8 233 RX2 yX2_howManyBad wsX2_howManyBad) := goodIn_app (goodIn_of _ (by decide +kernel)) ggX8_wouldBe_X2_howManyBad
set_option maxRecDepth 20000 in
theorem ggX8_wouldBe_X7_howManyNets : GoodIn wsX8_wouldBe wsX7_howManyNets := goodIn_r _ [22, 23, 24, 25, 60, 61, 62, 63, 64, 65, 66, 67, 68, 69, 70, 71, 72, 73] (by decide +kernel) (by decide +kernel)
set_option maxRecDepth 20000 in
theorem gX8_wouldBe_X7_howManyNets : GoodIn wsX8_wouldBe (wsV RX8 240 RX7 yX7_howManyNets wsX7_howManyNets) := goodIn_app (goodIn_of _ (by decide +kernel)) ggX8_wouldBe_X7_howManyNets
def D_X8_wouldBe : Md := (yX8_wouldBe, cX8_wouldBe, 2, (some .int), wsX8_wouldBe, RX8, { frames := 2, cells := 0, slots := 0, locals := 43 })
theorem nm_X8_wouldBe : nmD D_X8_wouldBe 1 := ⟨rfl, by decide +kernel, by decide +kernel, by decide +kernel⟩
theorem hi_X8_wouldBe_X2 : ∀ w ∈ u_ws RX2 TX2 13, w ∈ wsX8_wouldBe := by decide +kernel
theorem hi_X8_wouldBe_X4 : ∀ w ∈ u_ws RX4 TX4 4, w ∈ wsX8_wouldBe := by decide +kernel
theorem hi_X8_wouldBe_X8 : ∀ w ∈ u_ws RX8 TX8 7, w ∈ wsX8_wouldBe := by decide +kernel
theorem hl_X8_wouldBe_28 : Cond.fieldLink RX8 28 "LevelLoops" "lesserStudy" "LLevelLoops$Study;" ∈ wsX8_wouldBe := by decide +kernel
theorem hl_X8_wouldBe_115 : Cond.fieldLink RX8 115 "LevelLoops$Study" "loops" "LLevelLoops$Loops;" ∈ wsX8_wouldBe := by decide +kernel
theorem hl_X8_wouldBe_139 : Cond.fieldLink RX8 139 "LevelLoops$Loops" "size" "I" ∈ wsX8_wouldBe := by decide +kernel
theorem hl_X8_wouldBe_236 : Cond.fieldLink RX8 236 "LevelLoops$Study" "tree" "LLevelLoops$Tree;" ∈ wsX8_wouldBe := by decide +kernel
def wp_X8_wouldBe (x1 : Int32) (w : Wd) (Q : Int32 → Prop) : Prop :=
  ((x1 = 0 → Q (wi w 1 12 0)) ∧ (x1 = 1 → wp_X2_howManyBad 1 w (fun r46 => Q r46)) ∧ (x1 = 2 → wp_X7_howManyNets 1 w (fun r57 => Q r57)) ∧ (¬ x1 = 0 → ¬ x1 = 1 → ¬ x1 = 2 → wp_X2_missesTogether 1 w (fun r68 => Q r68)))
theorem ok_X8_wouldBe {G : Gt} {M : Mx} {Qf : State → Prop} {x1 : Int32} {w : Wd} {Q : Int32 → Prop} (hC : cx G D_X8_wouldBe M) (he : en G M (qip w Q) Qf) (h : wp_X8_wouldBe x1 w Q) : jq G D_X8_wouldBe M Qf 0 [(0, .ref (aD G 0 26)), (1, .int x1)] [] w := by
  unfold wp_X8_wouldBe at h
  refine jq_iload_n (k0 := 1) dX8_wouldBe_0 hC rfl rfl ?_
  by_cases cd : (x1).toInt < 0 ∨ 2 < (x1).toInt
  · refine jq_tout (tgt := 61) dX8_wouldBe_1 hC cd (by decide) ?_
    have h := h.2.2.2 (fun e => by rw [e] at cd; revert cd; decide) (fun e => by rw [e] at cd; revert cd; decide) (fun e => by rw [e] at cd; revert cd; decide)
    refine jq_aload_n (k0 := 0) dX8_wouldBe_61 hC rfl rfl ?_
    refine jq_get (k0 := 3) (n := 0) (o := 26) dX8_wouldBe_62 hC (cl_0 (by decide)) rfl rfl hi_X8_wouldBe_X8 (by decide) hl_X8_wouldBe_28 rfl rfl ?_
    refine jq_get (k0 := 1) (n := 1) (o := 7) dX8_wouldBe_65 hC (cl_T (by decide) (by decide)) rfl rfl hi_X8_wouldBe_X4 (by decide) hl_X8_wouldBe_115 rfl rfl ?_
    refine jq_callV (As := []) (rest := []) (n := 1) (o := 12) (D' := D_X2_missesTogether) dX8_wouldBe_68 hC (cl_T (by decide) (by decide)) rfl rfl rfl (mt_X2_missesTogether (by omega) h) gX8_wouldBe_X2_missesTogether rfl ⟨rfl, rfl, Nat.le_of_ble_eq_true rfl, Nat.le_of_ble_eq_true rfl⟩ nm_X2_missesTogether rfl (Nat.le_of_ble_eq_true rfl) (kIp fun r68 h => ?_)
    exact jq_iret dX8_wouldBe_71 hC he rfl ⟨_, rfl, rfl, h⟩
  have cs : (x1).toInt = 0 ∨ (x1).toInt = 1 ∨ (x1).toInt = 2 := by omega
  rcases cs with cs | cs | cs
  · refine jq_tin (tgt := 28) (off := 27) dX8_wouldBe_1 hC (fun q => cd (Or.inl q)) (fun q => cd (Or.inr q)) (by rw [cs]; rfl) (by decide) ?_
    have h := h.1 (Int32.toInt_inj.mp (cs.trans (by decide)))
    refine jq_aload_n (k0 := 0) dX8_wouldBe_28 hC rfl rfl ?_
    refine jq_get (k0 := 3) (n := 0) (o := 26) dX8_wouldBe_29 hC (cl_0 (by decide)) rfl rfl hi_X8_wouldBe_X8 (by decide) hl_X8_wouldBe_28 rfl rfl ?_
    refine jq_get (k0 := 1) (n := 1) (o := 7) dX8_wouldBe_32 hC (cl_T (by decide) (by decide)) rfl rfl hi_X8_wouldBe_X4 (by decide) hl_X8_wouldBe_115 rfl rfl ?_
    refine jq_get (k0 := 0) (n := 1) (o := 12) dX8_wouldBe_35 hC (cl_T (by decide) (by decide)) rfl rfl hi_X8_wouldBe_X2 (by decide) hl_X8_wouldBe_139 rfl rfl ?_
    exact jq_iret dX8_wouldBe_38 hC he rfl ⟨_, rfl, rfl, h⟩
  · refine jq_tin (tgt := 39) (off := 38) dX8_wouldBe_1 hC (fun q => cd (Or.inl q)) (fun q => cd (Or.inr q)) (by rw [cs]; rfl) (by decide) ?_
    have h := h.2.1 (Int32.toInt_inj.mp (cs.trans (by decide)))
    refine jq_aload_n (k0 := 0) dX8_wouldBe_39 hC rfl rfl ?_
    refine jq_get (k0 := 3) (n := 0) (o := 26) dX8_wouldBe_40 hC (cl_0 (by decide)) rfl rfl hi_X8_wouldBe_X8 (by decide) hl_X8_wouldBe_28 rfl rfl ?_
    refine jq_get (k0 := 1) (n := 1) (o := 7) dX8_wouldBe_43 hC (cl_T (by decide) (by decide)) rfl rfl hi_X8_wouldBe_X4 (by decide) hl_X8_wouldBe_115 rfl rfl ?_
    refine jq_callV (As := []) (rest := []) (n := 1) (o := 12) (D' := D_X2_howManyBad) dX8_wouldBe_46 hC (cl_T (by decide) (by decide)) rfl rfl rfl (mt_X2_howManyBad (by omega) h) gX8_wouldBe_X2_howManyBad rfl ⟨rfl, rfl, Nat.le_of_ble_eq_true rfl, Nat.le_of_ble_eq_true rfl⟩ nm_X2_howManyBad rfl (Nat.le_of_ble_eq_true rfl) (kIp fun r46 h => ?_)
    exact jq_iret dX8_wouldBe_49 hC he rfl ⟨_, rfl, rfl, h⟩
  · refine jq_tin (tgt := 50) (off := 49) dX8_wouldBe_1 hC (fun q => cd (Or.inl q)) (fun q => cd (Or.inr q)) (by rw [cs]; rfl) (by decide) ?_
    have h := h.2.2.1 (Int32.toInt_inj.mp (cs.trans (by decide)))
    refine jq_aload_n (k0 := 0) dX8_wouldBe_50 hC rfl rfl ?_
    refine jq_get (k0 := 3) (n := 0) (o := 26) dX8_wouldBe_51 hC (cl_0 (by decide)) rfl rfl hi_X8_wouldBe_X8 (by decide) hl_X8_wouldBe_28 rfl rfl ?_
    refine jq_get (k0 := 0) (n := 1) (o := 7) dX8_wouldBe_54 hC (cl_T (by decide) (by decide)) rfl rfl hi_X8_wouldBe_X4 (by decide) hl_X8_wouldBe_236 rfl rfl ?_
    refine jq_callV (As := []) (rest := []) (n := 1) (o := 8) (D' := D_X7_howManyNets) dX8_wouldBe_57 hC (cl_T (by decide) (by decide)) rfl rfl rfl (mt_X7_howManyNets (by omega) h) gX8_wouldBe_X7_howManyNets rfl ⟨rfl, rfl, Nat.le_of_ble_eq_true rfl, Nat.le_of_ble_eq_true rfl⟩ nm_X7_howManyNets rfl (Nat.le_of_ble_eq_true rfl) (kIp fun r57 h => ?_)
    exact jq_iret dX8_wouldBe_60 hC he rfl ⟨_, rfl, rfl, h⟩
theorem mt_X8_wouldBe {G : Gt} {x1 : Int32} {w : Wd} {Q : Int32 → Prop} (h : wp_X8_wouldBe x1 w Q) : Mt G D_X8_wouldBe [.ref (aD G 0 26), .int x1] w (qip w Q) := Mt_of (by decide +kernel) rfl rfl (Nat.le_of_ble_eq_true rfl) (fun M Qf hC he => ok_X8_wouldBe hC he h)
/-! X8.wouldFit(I)I -/
theorem dX8_wouldFit_0 : decode cX8_wouldFit 0 = .ok (.aload_n 0, 1) := by decide +kernel
theorem dX8_wouldFit_1 : decode cX8_wouldFit 1 = .ok (.getfield 28, 3) := by decide +kernel
theorem dX8_wouldFit_4 : decode cX8_wouldFit 4 = .ok (.aload_n 0, 1) := by decide +kernel
theorem dX8_wouldFit_5 : decode cX8_wouldFit 5 = .ok (.getfield 10, 3) := by decide +kernel
theorem dX8_wouldFit_8 : decode cX8_wouldFit 8 = .ok (.getfield 133, 3) := by decide +kernel
theorem dX8_wouldFit_11 : decode cX8_wouldFit 11 = .ok (.iload_n 1, 1) := by decide +kernel
theorem dX8_wouldFit_12 : decode cX8_wouldFit 12 = .ok (.iaload, 1) := by decide +kernel
theorem dX8_wouldFit_13 : decode cX8_wouldFit 13 = .ok (.aload_n 0, 1) := by decide +kernel
theorem dX8_wouldFit_14 : decode cX8_wouldFit 14 = .ok (.getfield 10, 3) := by decide +kernel
theorem dX8_wouldFit_17 : decode cX8_wouldFit 17 = .ok (.getfield 263, 3) := by decide +kernel
theorem dX8_wouldFit_20 : decode cX8_wouldFit 20 = .ok (.iload_n 1, 1) := by decide +kernel
theorem dX8_wouldFit_21 : decode cX8_wouldFit 21 = .ok (.iaload, 1) := by decide +kernel
theorem dX8_wouldFit_22 : decode cX8_wouldFit 22 = .ok (.iconst 2, 1) := by decide +kernel
theorem dX8_wouldFit_23 : decode cX8_wouldFit 23 = .ok (.invokevirtual 176, 3) := by decide +kernel
theorem dX8_wouldFit_26 : decode cX8_wouldFit 26 = .ok (.ireturn, 1) := by decide +kernel
set_option maxRecDepth 20000 in
theorem ggX8_wouldFit_X4_ofWay : GoodIn wsX8_wouldFit wsX4_ofWay := goodIn_r _ [9, 10, 11, 12, 13, 14, 15, 16, 17, 18, 19, 20, 21, 22, 23, 24, 25, 26, 27, 28, 29, 30, 31, 32, 33, 34, 35, 36, 37, 38, 39, 40, 41, 42, 43, 44, 45, 46, 62, 63, 64, 65, 66, 67, 68, 69, 70, 71, 72, 73, 74, 75, 76, 77, 54, 55, 56, 57, 58, 59, 60, 61] (by decide +kernel) (by decide +kernel)
set_option maxRecDepth 20000 in
theorem gX8_wouldFit_X4_ofWay : GoodIn wsX8_wouldFit (wsV RX8 176 RX4 yX4_ofWay wsX4_ofWay) := goodIn_app (goodIn_of _ (by decide +kernel)) ggX8_wouldFit_X4_ofWay
def D_X8_wouldFit : Md := (yX8_wouldFit, cX8_wouldFit, 2, (some .int), wsX8_wouldFit, RX8, { frames := 3, cells := 0, slots := 0, locals := 68 })
theorem nm_X8_wouldFit : nmD D_X8_wouldFit 1 := ⟨rfl, by decide +kernel, by decide +kernel, by decide +kernel⟩
theorem hi_X8_wouldFit_X5 : ∀ w ∈ u_ws RX5 TX5 8, w ∈ wsX8_wouldFit := by decide +kernel
theorem hi_X8_wouldFit_X8 : ∀ w ∈ u_ws RX8 TX8 7, w ∈ wsX8_wouldFit := by decide +kernel
theorem hl_X8_wouldFit_10 : Cond.fieldLink RX8 10 "LevelLoops" "survey" "LLevelLoops$Survey;" ∈ wsX8_wouldFit := by decide +kernel
theorem hl_X8_wouldFit_28 : Cond.fieldLink RX8 28 "LevelLoops" "lesserStudy" "LLevelLoops$Study;" ∈ wsX8_wouldFit := by decide +kernel
theorem hl_X8_wouldFit_133 : Cond.fieldLink RX8 133 "LevelLoops$Survey" "from" "[I" ∈ wsX8_wouldFit := by decide +kernel
theorem hl_X8_wouldFit_263 : Cond.fieldLink RX8 263 "LevelLoops$Survey" "to" "[I" ∈ wsX8_wouldFit := by decide +kernel
def wp_X8_wouldFit (x1 : Int32) (w : Wd) (Q : Int32 → Prop) : Prop :=
  vp_in x1 20 ∧ vp_in x1 20 ∧ wp_X4_ofWay 1 (wi w 0 2 x1.toNatClampNeg) (wi w 0 3 x1.toNatClampNeg) (2 : Int32) w (fun r23 => Q r23)
theorem ok_X8_wouldFit {G : Gt} {M : Mx} {Qf : State → Prop} {x1 : Int32} {w : Wd} {Q : Int32 → Prop} (hC : cx G D_X8_wouldFit M) (he : en G M (qip w Q) Qf) (h : wp_X8_wouldFit x1 w Q) : jq G D_X8_wouldFit M Qf 0 [(0, .ref (aD G 0 26)), (1, .int x1)] [] w := by
  unfold wp_X8_wouldFit at h
  refine jq_aload_n (k0 := 0) dX8_wouldFit_0 hC rfl rfl ?_
  refine jq_get (k0 := 3) (n := 0) (o := 26) dX8_wouldFit_1 hC (cl_0 (by decide)) rfl rfl hi_X8_wouldFit_X8 (by decide) hl_X8_wouldFit_28 rfl rfl ?_
  refine jq_aload_n (k0 := 0) dX8_wouldFit_4 hC rfl rfl ?_
  refine jq_get (k0 := 0) (n := 0) (o := 26) dX8_wouldFit_5 hC (cl_0 (by decide)) rfl rfl hi_X8_wouldFit_X8 (by decide) hl_X8_wouldFit_10 rfl rfl ?_
  refine jq_get (k0 := 3) (n := 0) (o := 0) dX8_wouldFit_8 hC (cl_0 (by decide)) rfl rfl hi_X8_wouldFit_X5 (by decide) hl_X8_wouldFit_133 rfl rfl ?_
  refine jq_iload_n (k0 := 1) dX8_wouldFit_11 hC rfl rfl ?_
  obtain ⟨b12, h⟩ := h
  refine jq_iald (n := 0) (o := 2) (j := x1.toNatClampNeg) dX8_wouldFit_12 hC (cl_0 (by decide)) rfl b12 rfl ?_
  refine jq_aload_n (k0 := 0) dX8_wouldFit_13 hC rfl rfl ?_
  refine jq_get (k0 := 0) (n := 0) (o := 26) dX8_wouldFit_14 hC (cl_0 (by decide)) rfl rfl hi_X8_wouldFit_X8 (by decide) hl_X8_wouldFit_10 rfl rfl ?_
  refine jq_get (k0 := 4) (n := 0) (o := 0) dX8_wouldFit_17 hC (cl_0 (by decide)) rfl rfl hi_X8_wouldFit_X5 (by decide) hl_X8_wouldFit_263 rfl rfl ?_
  refine jq_iload_n (k0 := 1) dX8_wouldFit_20 hC rfl rfl ?_
  obtain ⟨b21, h⟩ := h
  refine jq_iald (n := 0) (o := 3) (j := x1.toNatClampNeg) dX8_wouldFit_21 hC (cl_0 (by decide)) rfl b21 rfl ?_
  refine jq_iconst (v := (2 : Int32)) dX8_wouldFit_22 hC (by decide) ?_
  refine jq_callV (As := [.int (wi w 0 2 x1.toNatClampNeg), .int (wi w 0 3 x1.toNatClampNeg), .int (2 : Int32)]) (rest := []) (n := 1) (o := 7) (D' := D_X4_ofWay) dX8_wouldFit_23 hC (cl_T (by decide) (by decide)) rfl rfl rfl (mt_X4_ofWay (by omega) h) gX8_wouldFit_X4_ofWay rfl ⟨rfl, rfl, Nat.le_of_ble_eq_true rfl, Nat.le_of_ble_eq_true rfl⟩ nm_X4_ofWay rfl (Nat.le_of_ble_eq_true rfl) (kIp fun r23 h => ?_)
  exact jq_iret dX8_wouldFit_26 hC he rfl ⟨_, rfl, rfl, h⟩
theorem mt_X8_wouldFit {G : Gt} {x1 : Int32} {w : Wd} {Q : Int32 → Prop} (h : wp_X8_wouldFit x1 w Q) : Mt G D_X8_wouldFit [.ref (aD G 0 26), .int x1] w (qip w Q) := Mt_of (by decide +kernel) rfl rfl (Nat.le_of_ble_eq_true rfl) (fun M Qf hC he => ok_X8_wouldFit hC he h)
/-! X8.goodShare()D -/
theorem dX8_goodShare_0 : decode cX8_goodShare 0 = .ok (.aload_n 0, 1) := by decide +kernel
theorem dX8_goodShare_1 : decode cX8_goodShare 1 = .ok (.getfield 21, 3) := by decide +kernel
theorem dX8_goodShare_4 : decode cX8_goodShare 4 = .ok (.getfield 115, 3) := by decide +kernel
theorem dX8_goodShare_7 : decode cX8_goodShare 7 = .ok (.invokevirtual 198, 3) := by decide +kernel
theorem dX8_goodShare_10 : decode cX8_goodShare 10 = .ok (.dreturn, 1) := by decide +kernel
set_option maxRecDepth 20000 in
theorem ggX8_goodShare_X2_shareOfGood : GoodIn wsX8_goodShare wsX2_shareOfGood := goodIn_r _ [7, 8, 9, 10, 11, 6, 12, 13, 14, 15, 16, 17, 18, 19, 20, 32, 33, 34, 35, 36, 37, 38, 39, 40, 41, 42, 43, 44] (by decide +kernel) (by decide +kernel)
set_option maxRecDepth 20000 in
theorem gX8_goodShare_X2_shareOfGood : GoodIn wsX8_goodShare (wsV RX8 198 RX2 yX2_shareOfGood wsX2_shareOfGood) := goodIn_app (goodIn_of _ (by decide +kernel)) ggX8_goodShare_X2_shareOfGood
def D_X8_goodShare : Md := (yX8_goodShare, cX8_goodShare, 1, (some .double), wsX8_goodShare, RX8, { frames := 3, cells := 0, slots := 0, locals := 60 })
theorem nm_X8_goodShare : nmD D_X8_goodShare 0 := ⟨rfl, by decide +kernel, by decide +kernel, by decide +kernel⟩
theorem hi_X8_goodShare_X4 : ∀ w ∈ u_ws RX4 TX4 4, w ∈ wsX8_goodShare := by decide +kernel
theorem hi_X8_goodShare_X8 : ∀ w ∈ u_ws RX8 TX8 7, w ∈ wsX8_goodShare := by decide +kernel
theorem hl_X8_goodShare_21 : Cond.fieldLink RX8 21 "LevelLoops" "study" "LLevelLoops$Study;" ∈ wsX8_goodShare := by decide +kernel
theorem hl_X8_goodShare_115 : Cond.fieldLink RX8 115 "LevelLoops$Study" "loops" "LLevelLoops$Loops;" ∈ wsX8_goodShare := by decide +kernel
def wp_X8_goodShare (w : Wd) (Q : UInt64 → Prop) : Prop :=
  wp_X2_shareOfGood 0 w (fun r7 => Q r7)
theorem ok_X8_goodShare {G : Gt} {M : Mx} {Qf : State → Prop} {w : Wd} {Q : UInt64 → Prop} (hC : cx G D_X8_goodShare M) (he : en G M (qdp w Q) Qf) (h : wp_X8_goodShare w Q) : jq G D_X8_goodShare M Qf 0 [(0, .ref (aD G 0 26))] [] w := by
  unfold wp_X8_goodShare at h
  refine jq_aload_n (k0 := 0) dX8_goodShare_0 hC rfl rfl ?_
  refine jq_get (k0 := 1) (n := 0) (o := 26) dX8_goodShare_1 hC (cl_0 (by decide)) rfl rfl hi_X8_goodShare_X8 (by decide) hl_X8_goodShare_21 rfl rfl ?_
  refine jq_get (k0 := 1) (n := 0) (o := 7) dX8_goodShare_4 hC (cl_0 (by decide)) rfl rfl hi_X8_goodShare_X4 (by decide) hl_X8_goodShare_115 rfl rfl ?_
  refine jq_callV (As := []) (rest := []) (n := 0) (o := 12) (D' := D_X2_shareOfGood) dX8_goodShare_7 hC (cl_0 (by decide)) rfl rfl rfl (mt_X2_shareOfGood (by omega) h) gX8_goodShare_X2_shareOfGood rfl ⟨rfl, rfl, Nat.le_of_ble_eq_true rfl, Nat.le_of_ble_eq_true rfl⟩ nm_X2_shareOfGood rfl (Nat.le_of_ble_eq_true rfl) (kDp fun r7 h => ?_)
  exact jq_dret dX8_goodShare_10 hC he rfl ⟨_, rfl, rfl, h⟩
theorem mt_X8_goodShare {G : Gt} {w : Wd} {Q : UInt64 → Prop} (h : wp_X8_goodShare w Q) : Mt G D_X8_goodShare [.ref (aD G 0 26)] w (qdp w Q) := Mt_of (by decide +kernel) rfl rfl (Nat.le_of_ble_eq_true rfl) (fun M Qf hC he => ok_X8_goodShare hC he h)
/-! X8.withMark(JI)J -/
theorem dX8_withMark_0 : decode cX8_withMark 0 = .ok (.lload_n 1, 1) := by decide +kernel
theorem dX8_withMark_1 : decode cX8_withMark 1 = .ok (.lstore 4, 2) := by decide +kernel
theorem dX8_withMark_3 : decode cX8_withMark 3 = .ok (.iconst 0, 1) := by decide +kernel
theorem dX8_withMark_4 : decode cX8_withMark 4 = .ok (.istore 6, 2) := by decide +kernel
theorem dX8_withMark_6 : decode cX8_withMark 6 = .ok (.iload 6, 2) := by decide +kernel
theorem dX8_withMark_8 : decode cX8_withMark 8 = .ok (.bipush 7, 2) := by decide +kernel
theorem dX8_withMark_10 : decode cX8_withMark 10 = .ok (.if_icmp .ge 29, 3) := by decide +kernel
theorem dX8_withMark_13 : decode cX8_withMark 13 = .ok (.ldc2_w 204, 3) := by decide +kernel
theorem dX8_withMark_16 : decode cX8_withMark 16 = .ok (.lload 4, 2) := by decide +kernel
theorem dX8_withMark_18 : decode cX8_withMark 18 = .ok (.lmul, 1) := by decide +kernel
theorem dX8_withMark_19 : decode cX8_withMark 19 = .ok (.aload_n 0, 1) := by decide +kernel
theorem dX8_withMark_20 : decode cX8_withMark 20 = .ok (.getfield 21, 3) := by decide +kernel
theorem dX8_withMark_23 : decode cX8_withMark 23 = .ok (.iload_n 3, 1) := by decide +kernel
theorem dX8_withMark_24 : decode cX8_withMark 24 = .ok (.iload 6, 2) := by decide +kernel
theorem dX8_withMark_26 : decode cX8_withMark 26 = .ok (.invokevirtual 166, 3) := by decide +kernel
theorem dX8_withMark_29 : decode cX8_withMark 29 = .ok (.i2l, 1) := by decide +kernel
theorem dX8_withMark_30 : decode cX8_withMark 30 = .ok (.ladd, 1) := by decide +kernel
theorem dX8_withMark_31 : decode cX8_withMark 31 = .ok (.lstore 4, 2) := by decide +kernel
theorem dX8_withMark_33 : decode cX8_withMark 33 = .ok (.iinc 6 1, 3) := by decide +kernel
theorem dX8_withMark_36 : decode cX8_withMark 36 = .ok (.goto (-30), 3) := by decide +kernel
theorem dX8_withMark_39 : decode cX8_withMark 39 = .ok (.iconst 0, 1) := by decide +kernel
theorem dX8_withMark_40 : decode cX8_withMark 40 = .ok (.istore 6, 2) := by decide +kernel
theorem dX8_withMark_42 : decode cX8_withMark 42 = .ok (.iload 6, 2) := by decide +kernel
theorem dX8_withMark_44 : decode cX8_withMark 44 = .ok (.iconst 4, 1) := by decide +kernel
theorem dX8_withMark_45 : decode cX8_withMark 45 = .ok (.if_icmp .ge 30, 3) := by decide +kernel
theorem dX8_withMark_48 : decode cX8_withMark 48 = .ok (.ldc2_w 204, 3) := by decide +kernel
theorem dX8_withMark_51 : decode cX8_withMark 51 = .ok (.lload 4, 2) := by decide +kernel
theorem dX8_withMark_53 : decode cX8_withMark 53 = .ok (.lmul, 1) := by decide +kernel
theorem dX8_withMark_54 : decode cX8_withMark 54 = .ok (.aload_n 0, 1) := by decide +kernel
theorem dX8_withMark_55 : decode cX8_withMark 55 = .ok (.getfield 21, 3) := by decide +kernel
theorem dX8_withMark_58 : decode cX8_withMark 58 = .ok (.iconst 0, 1) := by decide +kernel
theorem dX8_withMark_59 : decode cX8_withMark 59 = .ok (.iload_n 3, 1) := by decide +kernel
theorem dX8_withMark_60 : decode cX8_withMark 60 = .ok (.iload 6, 2) := by decide +kernel
theorem dX8_withMark_62 : decode cX8_withMark 62 = .ok (.invokevirtual 176, 3) := by decide +kernel
theorem dX8_withMark_65 : decode cX8_withMark 65 = .ok (.i2l, 1) := by decide +kernel
theorem dX8_withMark_66 : decode cX8_withMark 66 = .ok (.ladd, 1) := by decide +kernel
theorem dX8_withMark_67 : decode cX8_withMark 67 = .ok (.lstore 4, 2) := by decide +kernel
theorem dX8_withMark_69 : decode cX8_withMark 69 = .ok (.iinc 6 1, 3) := by decide +kernel
theorem dX8_withMark_72 : decode cX8_withMark 72 = .ok (.goto (-30), 3) := by decide +kernel
theorem dX8_withMark_75 : decode cX8_withMark 75 = .ok (.lload 4, 2) := by decide +kernel
theorem dX8_withMark_77 : decode cX8_withMark 77 = .ok (.lreturn, 1) := by decide +kernel
set_option maxRecDepth 20000 in
theorem ggX8_withMark_X4_ofWay : GoodIn wsX8_withMark wsX4_ofWay := goodIn_r _ [58, 12, 13, 8, 10, 59, 60, 61, 62, 63, 64, 65, 66, 67, 68, 69, 70, 71, 72, 73, 74, 75, 76, 49, 77, 51, 78, 79, 80, 81, 82, 83, 84, 85, 86, 87, 88, 89, 97, 98, 99, 100, 109, 110, 111, 112, 113, 114, 115, 116, 117, 118, 119, 120, 101, 102, 103, 104, 105, 106, 107, 108] (by decide +kernel) (by decide +kernel)
set_option maxRecDepth 20000 in
theorem gX8_withMark_X4_ofWay : GoodIn wsX8_withMark (wsV RX8 176 RX4 yX4_ofWay wsX4_ofWay) := goodIn_app (goodIn_of _ (by decide +kernel)) ggX8_withMark_X4_ofWay
set_option maxRecDepth 20000 in
theorem ggX8_withMark_X4_ofMark : GoodIn wsX8_withMark wsX4_ofMark := goodIn_r _ [7, 8, 9, 10, 11, 12, 13, 14, 15, 16, 17, 18, 19, 20, 21, 22, 23, 24, 25, 26, 27, 28, 29, 30, 31, 32, 33, 34, 35, 36, 37, 38, 39, 40, 41, 42, 43, 44, 45, 46, 47, 48, 49, 50, 51, 52, 53, 54, 97, 98, 99, 100, 101, 102, 103, 104, 105, 106, 107, 108, 109, 110, 111, 112, 113, 114, 115, 116, 117, 118, 119, 120] (by decide +kernel) (by decide +kernel)
set_option maxRecDepth 20000 in
theorem gX8_withMark_X4_ofMark : GoodIn wsX8_withMark (wsV RX8 166 RX4 yX4_ofMark wsX4_ofMark) := goodIn_app (goodIn_of _ (by decide +kernel)) ggX8_withMark_X4_ofMark
def D_X8_withMark : Md := (yX8_withMark, cX8_withMark, 7, (some .long), wsX8_withMark, RX8, { frames := 4, cells := 0, slots := 0, locals := 87 })
theorem nm_X8_withMark : nmD D_X8_withMark 2 := ⟨rfl, by decide +kernel, by decide +kernel, by decide +kernel⟩
theorem hi_X8_withMark_X8 : ∀ w ∈ u_ws RX8 TX8 7, w ∈ wsX8_withMark := by decide +kernel
theorem hl_X8_withMark_21 : Cond.fieldLink RX8 21 "LevelLoops" "study" "LLevelLoops$Study;" ∈ wsX8_withMark := by decide +kernel
def wp_X8_withMark_B42 (x3 : Int32) (x4 : Int64) (x6 : Int32) (w : Wd) (Q : Int64 → Prop) (K42 : Int64 → Int32 → Prop) : Prop :=
  (((4 : Int32) ≤ x6 → Q x4) ∧ (¬ (4 : Int32) ≤ x6 → wp_X4_ofWay 0 (0 : Int32) x3 x6 w (fun r62 => K42 (((31 : Int64) * x4) + r62.toInt64) (x6 + 1))))
def wp_X8_withMark_L42 (x3 : Int32) (x4 : Int64) (x6 : Int32) (w : Wd) (Q : Int64 → Prop) : Prop :=
  ∃ (I : Int64 → Int32 → Prop) (μ : Int64 → Int32 → Nat), I x4 x6 ∧ ∀ (x4 : Int64) (x6 : Int32), I x4 x6 → wp_X8_withMark_B42 x3 x4 x6 w Q (fun x4' x6' => I x4' x6' ∧ μ x4' x6' < μ x4 x6)
def wp_X8_withMark_B6 (x3 : Int32) (x4 : Int64) (x6 : Int32) (w : Wd) (Q : Int64 → Prop) (K6 : Int64 → Int32 → Prop) : Prop :=
  (((7 : Int32) ≤ x6 → wp_X8_withMark_L42 x3 x4 (0 : Int32) w Q) ∧ (¬ (7 : Int32) ≤ x6 → wp_X4_ofMark 0 x3 x6 w (fun r26 => K6 (((31 : Int64) * x4) + r26.toInt64) (x6 + 1))))
def wp_X8_withMark_L6 (x3 : Int32) (x4 : Int64) (x6 : Int32) (w : Wd) (Q : Int64 → Prop) : Prop :=
  ∃ (I : Int64 → Int32 → Prop) (μ : Int64 → Int32 → Nat), I x4 x6 ∧ ∀ (x4 : Int64) (x6 : Int32), I x4 x6 → wp_X8_withMark_B6 x3 x4 x6 w Q (fun x4' x6' => I x4' x6' ∧ μ x4' x6' < μ x4 x6)
def wp_X8_withMark (x1 : Int64) (x3 : Int32) (w : Wd) (Q : Int64 → Prop) : Prop :=
  wp_X8_withMark_L6 x3 x1 (0 : Int32) w Q
theorem ok_X8_withMark_B42 {G : Gt} {M : Mx} {Qf : State → Prop} {x3 : Int32} {x4 : Int64} {x6 : Int32} {w : Wd} {Q : Int64 → Prop} {K42 : Int64 → Int32 → Prop} (hC : cx G D_X8_withMark M) (he : en G M (qlp w Q) Qf) (h : wp_X8_withMark_B42 x3 x4 x6 w Q K42) (hK42 : ∀ (x4 : Int64) (x6 : Int32), K42 x4 x6 → jq G D_X8_withMark M Qf 42 [(0, .ref (aD G 0 26)), (3, .int x3), (4, .long x4), (6, .int x6)] [] w) : jq G D_X8_withMark M Qf 42 [(0, .ref (aD G 0 26)), (3, .int x3), (4, .long x4), (6, .int x6)] [] w := by
  unfold wp_X8_withMark_B42 at h
  refine jq_iload (k0 := 3) dX8_withMark_42 hC rfl ?_
  refine jq_iconst (v := (4 : Int32)) dX8_withMark_44 hC (by decide) ?_
  refine jq_icmp_ge (tgt := 75) dX8_withMark_45 hC (by decide) (fun c45 => ?_) (fun c45 => ?_)
  · have h := h.1 c45
    refine jq_lload (k0 := 2) dX8_withMark_75 hC rfl ?_
    exact jq_lret dX8_withMark_77 hC he rfl ⟨_, rfl, rfl, h⟩
  · have h := h.2 c45
    refine jq_ldc2 (v := (31 : Int64)) dX8_withMark_48 hC (by decide +kernel) ?_
    refine jq_lload (k0 := 2) dX8_withMark_51 hC rfl ?_
    refine jq_lmul dX8_withMark_53 hC ?_
    refine jq_aload_n (k0 := 0) dX8_withMark_54 hC rfl rfl ?_
    refine jq_get (k0 := 1) (n := 0) (o := 26) dX8_withMark_55 hC (cl_0 (by decide)) rfl rfl hi_X8_withMark_X8 (by decide) hl_X8_withMark_21 rfl rfl ?_
    refine jq_iconst (v := (0 : Int32)) dX8_withMark_58 hC (by decide) ?_
    refine jq_iload_n (k0 := 1) dX8_withMark_59 hC rfl rfl ?_
    refine jq_iload (k0 := 3) dX8_withMark_60 hC rfl ?_
    refine jq_callV (As := [.int (0 : Int32), .int x3, .int x6]) (rest := [.long ((31 : Int64) * x4)]) (n := 0) (o := 7) (D' := D_X4_ofWay) dX8_withMark_62 hC (cl_0 (by decide)) rfl rfl rfl (mt_X4_ofWay (by omega) h) gX8_withMark_X4_ofWay rfl ⟨rfl, rfl, Nat.le_of_ble_eq_true rfl, Nat.le_of_ble_eq_true rfl⟩ nm_X4_ofWay rfl (Nat.le_of_ble_eq_true rfl) (kIp fun r62 h => ?_)
    refine jq_i2l dX8_withMark_65 hC ?_
    refine jq_ladd dX8_withMark_66 hC ?_
    refine jq_lstore (L' := [(4, .long (((31 : Int64) * x4) + r62.toInt64)), (0, .ref (aD G 0 26)), (3, .int x3), (6, .int x6)]) dX8_withMark_67 hC (by decide) rfl ?_
    refine jq_iinc (k0 := 3) (v := (x6 + 1)) (L' := [(6, .int (x6 + 1)), (4, .long (((31 : Int64) * x4) + r62.toInt64)), (0, .ref (aD G 0 26)), (3, .int x3)]) dX8_withMark_69 hC rfl rfl (by decide) rfl ?_
    refine jq_goto (tgt := 42) dX8_withMark_72 hC (by decide) ?_
    exact jq_less (L' := [(0, .ref (aD G 0 26)), (3, .int x3), (4, .long (((31 : Int64) * x4) + r62.toInt64)), (6, .int (x6 + 1))]) [2, 3, 1, 0] rfl (hK42 _ _ h)
theorem ok_X8_withMark_L42 {G : Gt} {M : Mx} {Qf : State → Prop} {x3 : Int32} {x4 : Int64} {x6 : Int32} {w : Wd} {Q : Int64 → Prop} (hC : cx G D_X8_withMark M) (he : en G M (qlp w Q) Qf) (h : wp_X8_withMark_L42 x3 x4 x6 w Q) : jq G D_X8_withMark M Qf 42 [(0, .ref (aD G 0 26)), (3, .int x3), (4, .long x4), (6, .int x6)] [] w := by
  unfold wp_X8_withMark_L42 at h
  obtain ⟨I, μ, h0, hs⟩ := h
  exact lp_ind (σ := Int64 × Int32) (P := fun s => jq G D_X8_withMark M Qf 42 [(0, .ref (aD G 0 26)), (3, .int x3), (4, .long s.1), (6, .int s.2)] [] w) (fun s => I s.1 s.2) (fun s => μ s.1 s.2) (fun s h1 ih => ok_X8_withMark_B42 hC he (hs s.1 s.2 h1) (fun x4' x6' h => ih (x4', x6') h.1 h.2)) (x4, x6) h0
theorem ok_X8_withMark_B6 {G : Gt} {M : Mx} {Qf : State → Prop} {x3 : Int32} {x4 : Int64} {x6 : Int32} {w : Wd} {Q : Int64 → Prop} {K6 : Int64 → Int32 → Prop} (hC : cx G D_X8_withMark M) (he : en G M (qlp w Q) Qf) (h : wp_X8_withMark_B6 x3 x4 x6 w Q K6) (hK6 : ∀ (x4 : Int64) (x6 : Int32), K6 x4 x6 → jq G D_X8_withMark M Qf 6 [(0, .ref (aD G 0 26)), (3, .int x3), (4, .long x4), (6, .int x6)] [] w) : jq G D_X8_withMark M Qf 6 [(0, .ref (aD G 0 26)), (3, .int x3), (4, .long x4), (6, .int x6)] [] w := by
  unfold wp_X8_withMark_B6 at h
  refine jq_iload (k0 := 3) dX8_withMark_6 hC rfl ?_
  refine jq_bipush (v := (7 : Int32)) dX8_withMark_8 hC (by decide) ?_
  refine jq_icmp_ge (tgt := 39) dX8_withMark_10 hC (by decide) (fun c10 => ?_) (fun c10 => ?_)
  · have h := h.1 c10
    refine jq_iconst (v := (0 : Int32)) dX8_withMark_39 hC (by decide) ?_
    refine jq_istore (L' := [(6, .int (0 : Int32)), (0, .ref (aD G 0 26)), (3, .int x3), (4, .long x4)]) dX8_withMark_40 hC (by decide) rfl ?_
    refine jq_less (L' := [(0, .ref (aD G 0 26)), (3, .int x3), (4, .long x4), (6, .int (0 : Int32))]) [1, 2, 3, 0] rfl ?_
    exact ok_X8_withMark_L42 hC he h
  · have h := h.2 c10
    refine jq_ldc2 (v := (31 : Int64)) dX8_withMark_13 hC (by decide +kernel) ?_
    refine jq_lload (k0 := 2) dX8_withMark_16 hC rfl ?_
    refine jq_lmul dX8_withMark_18 hC ?_
    refine jq_aload_n (k0 := 0) dX8_withMark_19 hC rfl rfl ?_
    refine jq_get (k0 := 1) (n := 0) (o := 26) dX8_withMark_20 hC (cl_0 (by decide)) rfl rfl hi_X8_withMark_X8 (by decide) hl_X8_withMark_21 rfl rfl ?_
    refine jq_iload_n (k0 := 1) dX8_withMark_23 hC rfl rfl ?_
    refine jq_iload (k0 := 3) dX8_withMark_24 hC rfl ?_
    refine jq_callV (As := [.int x3, .int x6]) (rest := [.long ((31 : Int64) * x4)]) (n := 0) (o := 7) (D' := D_X4_ofMark) dX8_withMark_26 hC (cl_0 (by decide)) rfl rfl rfl (mt_X4_ofMark (by omega) h) gX8_withMark_X4_ofMark rfl ⟨rfl, rfl, Nat.le_of_ble_eq_true rfl, Nat.le_of_ble_eq_true rfl⟩ nm_X4_ofMark rfl (Nat.le_of_ble_eq_true rfl) (kIp fun r26 h => ?_)
    refine jq_i2l dX8_withMark_29 hC ?_
    refine jq_ladd dX8_withMark_30 hC ?_
    refine jq_lstore (L' := [(4, .long (((31 : Int64) * x4) + r26.toInt64)), (0, .ref (aD G 0 26)), (3, .int x3), (6, .int x6)]) dX8_withMark_31 hC (by decide) rfl ?_
    refine jq_iinc (k0 := 3) (v := (x6 + 1)) (L' := [(6, .int (x6 + 1)), (4, .long (((31 : Int64) * x4) + r26.toInt64)), (0, .ref (aD G 0 26)), (3, .int x3)]) dX8_withMark_33 hC rfl rfl (by decide) rfl ?_
    refine jq_goto (tgt := 6) dX8_withMark_36 hC (by decide) ?_
    exact jq_less (L' := [(0, .ref (aD G 0 26)), (3, .int x3), (4, .long (((31 : Int64) * x4) + r26.toInt64)), (6, .int (x6 + 1))]) [2, 3, 1, 0] rfl (hK6 _ _ h)
theorem ok_X8_withMark_L6 {G : Gt} {M : Mx} {Qf : State → Prop} {x3 : Int32} {x4 : Int64} {x6 : Int32} {w : Wd} {Q : Int64 → Prop} (hC : cx G D_X8_withMark M) (he : en G M (qlp w Q) Qf) (h : wp_X8_withMark_L6 x3 x4 x6 w Q) : jq G D_X8_withMark M Qf 6 [(0, .ref (aD G 0 26)), (3, .int x3), (4, .long x4), (6, .int x6)] [] w := by
  unfold wp_X8_withMark_L6 at h
  obtain ⟨I, μ, h0, hs⟩ := h
  exact lp_ind (σ := Int64 × Int32) (P := fun s => jq G D_X8_withMark M Qf 6 [(0, .ref (aD G 0 26)), (3, .int x3), (4, .long s.1), (6, .int s.2)] [] w) (fun s => I s.1 s.2) (fun s => μ s.1 s.2) (fun s h1 ih => ok_X8_withMark_B6 hC he (hs s.1 s.2 h1) (fun x4' x6' h => ih (x4', x6') h.1 h.2)) (x4, x6) h0
theorem ok_X8_withMark {G : Gt} {M : Mx} {Qf : State → Prop} {x1 : Int64} {x3 : Int32} {w : Wd} {Q : Int64 → Prop} (hC : cx G D_X8_withMark M) (he : en G M (qlp w Q) Qf) (h : wp_X8_withMark x1 x3 w Q) : jq G D_X8_withMark M Qf 0 [(0, .ref (aD G 0 26)), (1, .long x1), (3, .int x3)] [] w := by
  unfold wp_X8_withMark at h
  refine jq_lload_n (k0 := 1) dX8_withMark_0 hC rfl rfl ?_
  refine jq_lstore (L' := [(4, .long x1), (0, .ref (aD G 0 26)), (1, .long x1), (3, .int x3)]) dX8_withMark_1 hC (by decide) rfl ?_
  refine jq_iconst (v := (0 : Int32)) dX8_withMark_3 hC (by decide) ?_
  refine jq_istore (L' := [(6, .int (0 : Int32)), (4, .long x1), (0, .ref (aD G 0 26)), (1, .long x1), (3, .int x3)]) dX8_withMark_4 hC (by decide) rfl ?_
  refine jq_less (L' := [(0, .ref (aD G 0 26)), (3, .int x3), (4, .long x1), (6, .int (0 : Int32))]) [2, 4, 1, 0] rfl ?_
  exact ok_X8_withMark_L6 hC he h
theorem mt_X8_withMark {G : Gt} {x1 : Int64} {x3 : Int32} {w : Wd} {Q : Int64 → Prop} (h : wp_X8_withMark x1 x3 w Q) : Mt G D_X8_withMark [.ref (aD G 0 26), .long x1, .int x3] w (qlp w Q) := Mt_of (by decide +kernel) rfl rfl (Nat.le_of_ble_eq_true rfl) (fun M Qf hC he => ok_X8_withMark hC he h)
/-! X8.withLeg(JI)J -/
theorem dX8_withLeg_0 : decode cX8_withLeg 0 = .ok (.lload_n 1, 1) := by decide +kernel
theorem dX8_withLeg_1 : decode cX8_withLeg 1 = .ok (.lstore 4, 2) := by decide +kernel
theorem dX8_withLeg_3 : decode cX8_withLeg 3 = .ok (.iconst 0, 1) := by decide +kernel
theorem dX8_withLeg_4 : decode cX8_withLeg 4 = .ok (.istore 6, 2) := by decide +kernel
theorem dX8_withLeg_6 : decode cX8_withLeg 6 = .ok (.iload 6, 2) := by decide +kernel
theorem dX8_withLeg_8 : decode cX8_withLeg 8 = .ok (.bipush 10, 2) := by decide +kernel
theorem dX8_withLeg_10 : decode cX8_withLeg 10 = .ok (.if_icmp .ge 29, 3) := by decide +kernel
theorem dX8_withLeg_13 : decode cX8_withLeg 13 = .ok (.ldc2_w 204, 3) := by decide +kernel
theorem dX8_withLeg_16 : decode cX8_withLeg 16 = .ok (.lload 4, 2) := by decide +kernel
theorem dX8_withLeg_18 : decode cX8_withLeg 18 = .ok (.lmul, 1) := by decide +kernel
theorem dX8_withLeg_19 : decode cX8_withLeg 19 = .ok (.aload_n 0, 1) := by decide +kernel
theorem dX8_withLeg_20 : decode cX8_withLeg 20 = .ok (.getfield 21, 3) := by decide +kernel
theorem dX8_withLeg_23 : decode cX8_withLeg 23 = .ok (.iload_n 3, 1) := by decide +kernel
theorem dX8_withLeg_24 : decode cX8_withLeg 24 = .ok (.iload 6, 2) := by decide +kernel
theorem dX8_withLeg_26 : decode cX8_withLeg 26 = .ok (.invokevirtual 170, 3) := by decide +kernel
theorem dX8_withLeg_29 : decode cX8_withLeg 29 = .ok (.i2l, 1) := by decide +kernel
theorem dX8_withLeg_30 : decode cX8_withLeg 30 = .ok (.ladd, 1) := by decide +kernel
theorem dX8_withLeg_31 : decode cX8_withLeg 31 = .ok (.lstore 4, 2) := by decide +kernel
theorem dX8_withLeg_33 : decode cX8_withLeg 33 = .ok (.iinc 6 1, 3) := by decide +kernel
theorem dX8_withLeg_36 : decode cX8_withLeg 36 = .ok (.goto (-30), 3) := by decide +kernel
theorem dX8_withLeg_39 : decode cX8_withLeg 39 = .ok (.iconst 0, 1) := by decide +kernel
theorem dX8_withLeg_40 : decode cX8_withLeg 40 = .ok (.istore 6, 2) := by decide +kernel
theorem dX8_withLeg_42 : decode cX8_withLeg 42 = .ok (.iload 6, 2) := by decide +kernel
theorem dX8_withLeg_44 : decode cX8_withLeg 44 = .ok (.iconst 4, 1) := by decide +kernel
theorem dX8_withLeg_45 : decode cX8_withLeg 45 = .ok (.if_icmp .ge 25, 3) := by decide +kernel
theorem dX8_withLeg_48 : decode cX8_withLeg 48 = .ok (.ldc2_w 204, 3) := by decide +kernel
theorem dX8_withLeg_51 : decode cX8_withLeg 51 = .ok (.lload 4, 2) := by decide +kernel
theorem dX8_withLeg_53 : decode cX8_withLeg 53 = .ok (.lmul, 1) := by decide +kernel
theorem dX8_withLeg_54 : decode cX8_withLeg 54 = .ok (.aload_n 0, 1) := by decide +kernel
theorem dX8_withLeg_55 : decode cX8_withLeg 55 = .ok (.iload 6, 2) := by decide +kernel
theorem dX8_withLeg_57 : decode cX8_withLeg 57 = .ok (.invokevirtual 192, 3) := by decide +kernel
theorem dX8_withLeg_60 : decode cX8_withLeg 60 = .ok (.i2l, 1) := by decide +kernel
theorem dX8_withLeg_61 : decode cX8_withLeg 61 = .ok (.ladd, 1) := by decide +kernel
theorem dX8_withLeg_62 : decode cX8_withLeg 62 = .ok (.lstore 4, 2) := by decide +kernel
theorem dX8_withLeg_64 : decode cX8_withLeg 64 = .ok (.iinc 6 1, 3) := by decide +kernel
theorem dX8_withLeg_67 : decode cX8_withLeg 67 = .ok (.goto (-25), 3) := by decide +kernel
theorem dX8_withLeg_70 : decode cX8_withLeg 70 = .ok (.ldc2_w 204, 3) := by decide +kernel
theorem dX8_withLeg_73 : decode cX8_withLeg 73 = .ok (.lload 4, 2) := by decide +kernel
theorem dX8_withLeg_75 : decode cX8_withLeg 75 = .ok (.lmul, 1) := by decide +kernel
theorem dX8_withLeg_76 : decode cX8_withLeg 76 = .ok (.aload_n 0, 1) := by decide +kernel
theorem dX8_withLeg_77 : decode cX8_withLeg 77 = .ok (.iload_n 3, 1) := by decide +kernel
theorem dX8_withLeg_78 : decode cX8_withLeg 78 = .ok (.invokevirtual 195, 3) := by decide +kernel
theorem dX8_withLeg_81 : decode cX8_withLeg 81 = .ok (.i2l, 1) := by decide +kernel
theorem dX8_withLeg_82 : decode cX8_withLeg 82 = .ok (.ladd, 1) := by decide +kernel
theorem dX8_withLeg_83 : decode cX8_withLeg 83 = .ok (.lreturn, 1) := by decide +kernel
set_option maxRecDepth 20000 in
theorem ggX8_withLeg_X8_wouldFit : GoodIn wsX8_withLeg wsX8_wouldFit := goodIn_r _ [77, 42, 78, 79, 80, 81, 82, 83, 6, 84, 16, 85, 8, 86, 87, 88, 89, 90, 91, 60, 92, 93, 94, 51, 52, 53, 54, 55, 56, 95, 96, 97, 98, 99, 100, 101, 18, 19, 20, 102, 103, 104, 105, 62, 106, 107, 108, 109, 110, 111, 112, 113, 114, 115, 120, 121, 122, 123, 124, 125, 126, 127, 116, 117, 118, 119, 141, 142, 143, 144, 145, 146, 147, 148, 149, 150, 151, 152] (by decide +kernel) (by decide +kernel)
set_option maxRecDepth 20000 in
theorem gX8_withLeg_X8_wouldFit : GoodIn wsX8_withLeg (wsV RX8 195 RX8 yX8_wouldFit wsX8_wouldFit) := goodIn_app (goodIn_of _ (by decide +kernel)) ggX8_withLeg_X8_wouldFit
set_option maxRecDepth 20000 in
theorem ggX8_withLeg_X8_wouldBe : GoodIn wsX8_withLeg wsX8_wouldBe := goodIn_r _ [41, 42, 43, 44, 45, 46, 47, 48, 24, 49, 37, 50, 51, 52, 53, 54, 55, 56, 57, 58, 59, 60, 61, 62, 63, 64, 65, 66, 67, 68, 26, 69, 70, 71, 72, 73, 109, 110, 111, 112, 113, 114, 115, 116, 117, 118, 119, 128, 129, 130, 131, 132, 133, 134, 135, 136, 137, 138, 139, 140, 141, 142, 143, 144, 145, 146, 120, 121, 122, 123, 124, 125, 126, 127] (by decide +kernel) (by decide +kernel)
set_option maxRecDepth 20000 in
theorem gX8_withLeg_X8_wouldBe : GoodIn wsX8_withLeg (wsV RX8 192 RX8 yX8_wouldBe wsX8_wouldBe) := goodIn_app (goodIn_of _ (by decide +kernel)) ggX8_withLeg_X8_wouldBe
set_option maxRecDepth 20000 in
theorem ggX8_withLeg_X4_ofLeg : GoodIn wsX8_withLeg wsX4_ofLeg := goodIn_r _ [7, 8, 9, 10, 11, 12, 13, 14, 15, 16, 17, 18, 19, 20, 21, 22, 23, 24, 25, 26, 27, 28, 29, 30, 31, 32, 33, 34, 35, 36, 37, 116, 117, 118, 119, 120, 121, 122, 123, 124, 125, 126, 127, 128, 129, 130, 131, 132, 133, 134, 135, 136, 137, 138, 139, 140, 141, 142, 143, 144, 145, 146] (by decide +kernel) (by decide +kernel)
set_option maxRecDepth 20000 in
theorem gX8_withLeg_X4_ofLeg : GoodIn wsX8_withLeg (wsV RX8 170 RX4 yX4_ofLeg wsX4_ofLeg) := goodIn_app (goodIn_of _ (by decide +kernel)) ggX8_withLeg_X4_ofLeg
def D_X8_withLeg : Md := (yX8_withLeg, cX8_withLeg, 7, (some .long), wsX8_withLeg, RX8, { frames := 4, cells := 0, slots := 0, locals := 89 })
theorem nm_X8_withLeg : nmD D_X8_withLeg 2 := ⟨rfl, by decide +kernel, by decide +kernel, by decide +kernel⟩
theorem hi_X8_withLeg_X8 : ∀ w ∈ u_ws RX8 TX8 7, w ∈ wsX8_withLeg := by decide +kernel
theorem hl_X8_withLeg_21 : Cond.fieldLink RX8 21 "LevelLoops" "study" "LLevelLoops$Study;" ∈ wsX8_withLeg := by decide +kernel
def wp_X8_withLeg_B42 (x3 : Int32) (x4 : Int64) (x6 : Int32) (w : Wd) (Q : Int64 → Prop) (K42 : Int64 → Int32 → Prop) : Prop :=
  (((4 : Int32) ≤ x6 → wp_X8_wouldFit x3 w (fun r78 => Q (((31 : Int64) * x4) + r78.toInt64))) ∧ (¬ (4 : Int32) ≤ x6 → wp_X8_wouldBe x6 w (fun r57 => K42 (((31 : Int64) * x4) + r57.toInt64) (x6 + 1))))
def wp_X8_withLeg_L42 (x3 : Int32) (x4 : Int64) (x6 : Int32) (w : Wd) (Q : Int64 → Prop) : Prop :=
  ∃ (I : Int64 → Int32 → Prop) (μ : Int64 → Int32 → Nat), I x4 x6 ∧ ∀ (x4 : Int64) (x6 : Int32), I x4 x6 → wp_X8_withLeg_B42 x3 x4 x6 w Q (fun x4' x6' => I x4' x6' ∧ μ x4' x6' < μ x4 x6)
def wp_X8_withLeg_B6 (x3 : Int32) (x4 : Int64) (x6 : Int32) (w : Wd) (Q : Int64 → Prop) (K6 : Int64 → Int32 → Prop) : Prop :=
  (((10 : Int32) ≤ x6 → wp_X8_withLeg_L42 x3 x4 (0 : Int32) w Q) ∧ (¬ (10 : Int32) ≤ x6 → wp_X4_ofLeg 0 x3 x6 w (fun r26 => K6 (((31 : Int64) * x4) + r26.toInt64) (x6 + 1))))
def wp_X8_withLeg_L6 (x3 : Int32) (x4 : Int64) (x6 : Int32) (w : Wd) (Q : Int64 → Prop) : Prop :=
  ∃ (I : Int64 → Int32 → Prop) (μ : Int64 → Int32 → Nat), I x4 x6 ∧ ∀ (x4 : Int64) (x6 : Int32), I x4 x6 → wp_X8_withLeg_B6 x3 x4 x6 w Q (fun x4' x6' => I x4' x6' ∧ μ x4' x6' < μ x4 x6)
def wp_X8_withLeg (x1 : Int64) (x3 : Int32) (w : Wd) (Q : Int64 → Prop) : Prop :=
  wp_X8_withLeg_L6 x3 x1 (0 : Int32) w Q
theorem ok_X8_withLeg_B42 {G : Gt} {M : Mx} {Qf : State → Prop} {x3 : Int32} {x4 : Int64} {x6 : Int32} {w : Wd} {Q : Int64 → Prop} {K42 : Int64 → Int32 → Prop} (hC : cx G D_X8_withLeg M) (he : en G M (qlp w Q) Qf) (h : wp_X8_withLeg_B42 x3 x4 x6 w Q K42) (hK42 : ∀ (x4 : Int64) (x6 : Int32), K42 x4 x6 → jq G D_X8_withLeg M Qf 42 [(0, .ref (aD G 0 26)), (3, .int x3), (4, .long x4), (6, .int x6)] [] w) : jq G D_X8_withLeg M Qf 42 [(0, .ref (aD G 0 26)), (3, .int x3), (4, .long x4), (6, .int x6)] [] w := by
  unfold wp_X8_withLeg_B42 at h
  refine jq_iload (k0 := 3) dX8_withLeg_42 hC rfl ?_
  refine jq_iconst (v := (4 : Int32)) dX8_withLeg_44 hC (by decide) ?_
  refine jq_icmp_ge (tgt := 70) dX8_withLeg_45 hC (by decide) (fun c45 => ?_) (fun c45 => ?_)
  · have h := h.1 c45
    refine jq_ldc2 (v := (31 : Int64)) dX8_withLeg_70 hC (by decide +kernel) ?_
    refine jq_lload (k0 := 2) dX8_withLeg_73 hC rfl ?_
    refine jq_lmul dX8_withLeg_75 hC ?_
    refine jq_aload_n (k0 := 0) dX8_withLeg_76 hC rfl rfl ?_
    refine jq_iload_n (k0 := 1) dX8_withLeg_77 hC rfl rfl ?_
    refine jq_callV (As := [.int x3]) (rest := [.long ((31 : Int64) * x4)]) (n := 0) (o := 26) (D' := D_X8_wouldFit) dX8_withLeg_78 hC (cl_0 (by decide)) rfl rfl rfl (mt_X8_wouldFit h) gX8_withLeg_X8_wouldFit rfl ⟨rfl, rfl, Nat.le_of_ble_eq_true rfl, Nat.le_of_ble_eq_true rfl⟩ nm_X8_wouldFit rfl (Nat.le_of_ble_eq_true rfl) (kIp fun r78 h => ?_)
    refine jq_i2l dX8_withLeg_81 hC ?_
    refine jq_ladd dX8_withLeg_82 hC ?_
    exact jq_lret dX8_withLeg_83 hC he rfl ⟨_, rfl, rfl, h⟩
  · have h := h.2 c45
    refine jq_ldc2 (v := (31 : Int64)) dX8_withLeg_48 hC (by decide +kernel) ?_
    refine jq_lload (k0 := 2) dX8_withLeg_51 hC rfl ?_
    refine jq_lmul dX8_withLeg_53 hC ?_
    refine jq_aload_n (k0 := 0) dX8_withLeg_54 hC rfl rfl ?_
    refine jq_iload (k0 := 3) dX8_withLeg_55 hC rfl ?_
    refine jq_callV (As := [.int x6]) (rest := [.long ((31 : Int64) * x4)]) (n := 0) (o := 26) (D' := D_X8_wouldBe) dX8_withLeg_57 hC (cl_0 (by decide)) rfl rfl rfl (mt_X8_wouldBe h) gX8_withLeg_X8_wouldBe rfl ⟨rfl, rfl, Nat.le_of_ble_eq_true rfl, Nat.le_of_ble_eq_true rfl⟩ nm_X8_wouldBe rfl (Nat.le_of_ble_eq_true rfl) (kIp fun r57 h => ?_)
    refine jq_i2l dX8_withLeg_60 hC ?_
    refine jq_ladd dX8_withLeg_61 hC ?_
    refine jq_lstore (L' := [(4, .long (((31 : Int64) * x4) + r57.toInt64)), (0, .ref (aD G 0 26)), (3, .int x3), (6, .int x6)]) dX8_withLeg_62 hC (by decide) rfl ?_
    refine jq_iinc (k0 := 3) (v := (x6 + 1)) (L' := [(6, .int (x6 + 1)), (4, .long (((31 : Int64) * x4) + r57.toInt64)), (0, .ref (aD G 0 26)), (3, .int x3)]) dX8_withLeg_64 hC rfl rfl (by decide) rfl ?_
    refine jq_goto (tgt := 42) dX8_withLeg_67 hC (by decide) ?_
    exact jq_less (L' := [(0, .ref (aD G 0 26)), (3, .int x3), (4, .long (((31 : Int64) * x4) + r57.toInt64)), (6, .int (x6 + 1))]) [2, 3, 1, 0] rfl (hK42 _ _ h)
theorem ok_X8_withLeg_L42 {G : Gt} {M : Mx} {Qf : State → Prop} {x3 : Int32} {x4 : Int64} {x6 : Int32} {w : Wd} {Q : Int64 → Prop} (hC : cx G D_X8_withLeg M) (he : en G M (qlp w Q) Qf) (h : wp_X8_withLeg_L42 x3 x4 x6 w Q) : jq G D_X8_withLeg M Qf 42 [(0, .ref (aD G 0 26)), (3, .int x3), (4, .long x4), (6, .int x6)] [] w := by
  unfold wp_X8_withLeg_L42 at h
  obtain ⟨I, μ, h0, hs⟩ := h
  exact lp_ind (σ := Int64 × Int32) (P := fun s => jq G D_X8_withLeg M Qf 42 [(0, .ref (aD G 0 26)), (3, .int x3), (4, .long s.1), (6, .int s.2)] [] w) (fun s => I s.1 s.2) (fun s => μ s.1 s.2) (fun s h1 ih => ok_X8_withLeg_B42 hC he (hs s.1 s.2 h1) (fun x4' x6' h => ih (x4', x6') h.1 h.2)) (x4, x6) h0
theorem ok_X8_withLeg_B6 {G : Gt} {M : Mx} {Qf : State → Prop} {x3 : Int32} {x4 : Int64} {x6 : Int32} {w : Wd} {Q : Int64 → Prop} {K6 : Int64 → Int32 → Prop} (hC : cx G D_X8_withLeg M) (he : en G M (qlp w Q) Qf) (h : wp_X8_withLeg_B6 x3 x4 x6 w Q K6) (hK6 : ∀ (x4 : Int64) (x6 : Int32), K6 x4 x6 → jq G D_X8_withLeg M Qf 6 [(0, .ref (aD G 0 26)), (3, .int x3), (4, .long x4), (6, .int x6)] [] w) : jq G D_X8_withLeg M Qf 6 [(0, .ref (aD G 0 26)), (3, .int x3), (4, .long x4), (6, .int x6)] [] w := by
  unfold wp_X8_withLeg_B6 at h
  refine jq_iload (k0 := 3) dX8_withLeg_6 hC rfl ?_
  refine jq_bipush (v := (10 : Int32)) dX8_withLeg_8 hC (by decide) ?_
  refine jq_icmp_ge (tgt := 39) dX8_withLeg_10 hC (by decide) (fun c10 => ?_) (fun c10 => ?_)
  · have h := h.1 c10
    refine jq_iconst (v := (0 : Int32)) dX8_withLeg_39 hC (by decide) ?_
    refine jq_istore (L' := [(6, .int (0 : Int32)), (0, .ref (aD G 0 26)), (3, .int x3), (4, .long x4)]) dX8_withLeg_40 hC (by decide) rfl ?_
    refine jq_less (L' := [(0, .ref (aD G 0 26)), (3, .int x3), (4, .long x4), (6, .int (0 : Int32))]) [1, 2, 3, 0] rfl ?_
    exact ok_X8_withLeg_L42 hC he h
  · have h := h.2 c10
    refine jq_ldc2 (v := (31 : Int64)) dX8_withLeg_13 hC (by decide +kernel) ?_
    refine jq_lload (k0 := 2) dX8_withLeg_16 hC rfl ?_
    refine jq_lmul dX8_withLeg_18 hC ?_
    refine jq_aload_n (k0 := 0) dX8_withLeg_19 hC rfl rfl ?_
    refine jq_get (k0 := 1) (n := 0) (o := 26) dX8_withLeg_20 hC (cl_0 (by decide)) rfl rfl hi_X8_withLeg_X8 (by decide) hl_X8_withLeg_21 rfl rfl ?_
    refine jq_iload_n (k0 := 1) dX8_withLeg_23 hC rfl rfl ?_
    refine jq_iload (k0 := 3) dX8_withLeg_24 hC rfl ?_
    refine jq_callV (As := [.int x3, .int x6]) (rest := [.long ((31 : Int64) * x4)]) (n := 0) (o := 7) (D' := D_X4_ofLeg) dX8_withLeg_26 hC (cl_0 (by decide)) rfl rfl rfl (mt_X4_ofLeg (by omega) h) gX8_withLeg_X4_ofLeg rfl ⟨rfl, rfl, Nat.le_of_ble_eq_true rfl, Nat.le_of_ble_eq_true rfl⟩ nm_X4_ofLeg rfl (Nat.le_of_ble_eq_true rfl) (kIp fun r26 h => ?_)
    refine jq_i2l dX8_withLeg_29 hC ?_
    refine jq_ladd dX8_withLeg_30 hC ?_
    refine jq_lstore (L' := [(4, .long (((31 : Int64) * x4) + r26.toInt64)), (0, .ref (aD G 0 26)), (3, .int x3), (6, .int x6)]) dX8_withLeg_31 hC (by decide) rfl ?_
    refine jq_iinc (k0 := 3) (v := (x6 + 1)) (L' := [(6, .int (x6 + 1)), (4, .long (((31 : Int64) * x4) + r26.toInt64)), (0, .ref (aD G 0 26)), (3, .int x3)]) dX8_withLeg_33 hC rfl rfl (by decide) rfl ?_
    refine jq_goto (tgt := 6) dX8_withLeg_36 hC (by decide) ?_
    exact jq_less (L' := [(0, .ref (aD G 0 26)), (3, .int x3), (4, .long (((31 : Int64) * x4) + r26.toInt64)), (6, .int (x6 + 1))]) [2, 3, 1, 0] rfl (hK6 _ _ h)
theorem ok_X8_withLeg_L6 {G : Gt} {M : Mx} {Qf : State → Prop} {x3 : Int32} {x4 : Int64} {x6 : Int32} {w : Wd} {Q : Int64 → Prop} (hC : cx G D_X8_withLeg M) (he : en G M (qlp w Q) Qf) (h : wp_X8_withLeg_L6 x3 x4 x6 w Q) : jq G D_X8_withLeg M Qf 6 [(0, .ref (aD G 0 26)), (3, .int x3), (4, .long x4), (6, .int x6)] [] w := by
  unfold wp_X8_withLeg_L6 at h
  obtain ⟨I, μ, h0, hs⟩ := h
  exact lp_ind (σ := Int64 × Int32) (P := fun s => jq G D_X8_withLeg M Qf 6 [(0, .ref (aD G 0 26)), (3, .int x3), (4, .long s.1), (6, .int s.2)] [] w) (fun s => I s.1 s.2) (fun s => μ s.1 s.2) (fun s h1 ih => ok_X8_withLeg_B6 hC he (hs s.1 s.2 h1) (fun x4' x6' h => ih (x4', x6') h.1 h.2)) (x4, x6) h0
theorem ok_X8_withLeg {G : Gt} {M : Mx} {Qf : State → Prop} {x1 : Int64} {x3 : Int32} {w : Wd} {Q : Int64 → Prop} (hC : cx G D_X8_withLeg M) (he : en G M (qlp w Q) Qf) (h : wp_X8_withLeg x1 x3 w Q) : jq G D_X8_withLeg M Qf 0 [(0, .ref (aD G 0 26)), (1, .long x1), (3, .int x3)] [] w := by
  unfold wp_X8_withLeg at h
  refine jq_lload_n (k0 := 1) dX8_withLeg_0 hC rfl rfl ?_
  refine jq_lstore (L' := [(4, .long x1), (0, .ref (aD G 0 26)), (1, .long x1), (3, .int x3)]) dX8_withLeg_1 hC (by decide) rfl ?_
  refine jq_iconst (v := (0 : Int32)) dX8_withLeg_3 hC (by decide) ?_
  refine jq_istore (L' := [(6, .int (0 : Int32)), (4, .long x1), (0, .ref (aD G 0 26)), (1, .long x1), (3, .int x3)]) dX8_withLeg_4 hC (by decide) rfl ?_
  refine jq_less (L' := [(0, .ref (aD G 0 26)), (3, .int x3), (4, .long x1), (6, .int (0 : Int32))]) [2, 4, 1, 0] rfl ?_
  exact ok_X8_withLeg_L6 hC he h
theorem mt_X8_withLeg {G : Gt} {x1 : Int64} {x3 : Int32} {w : Wd} {Q : Int64 → Prop} (h : wp_X8_withLeg x1 x3 w Q) : Mt G D_X8_withLeg [.ref (aD G 0 26), .long x1, .int x3] w (qlp w Q) := Mt_of (by decide +kernel) rfl rfl (Nat.le_of_ble_eq_true rfl) (fun M Qf hC he => ok_X8_withLeg hC he h)
/-! X8.withLoop(JI)J -/
theorem dX8_withLoop_0 : decode cX8_withLoop 0 = .ok (.lload_n 1, 1) := by decide +kernel
theorem dX8_withLoop_1 : decode cX8_withLoop 1 = .ok (.lstore 4, 2) := by decide +kernel
theorem dX8_withLoop_3 : decode cX8_withLoop 3 = .ok (.iconst 0, 1) := by decide +kernel
theorem dX8_withLoop_4 : decode cX8_withLoop 4 = .ok (.istore 6, 2) := by decide +kernel
theorem dX8_withLoop_6 : decode cX8_withLoop 6 = .ok (.iload 6, 2) := by decide +kernel
theorem dX8_withLoop_8 : decode cX8_withLoop 8 = .ok (.bipush 8, 2) := by decide +kernel
theorem dX8_withLoop_10 : decode cX8_withLoop 10 = .ok (.if_icmp .ge 32, 3) := by decide +kernel
theorem dX8_withLoop_13 : decode cX8_withLoop 13 = .ok (.ldc2_w 204, 3) := by decide +kernel
theorem dX8_withLoop_16 : decode cX8_withLoop 16 = .ok (.lload 4, 2) := by decide +kernel
theorem dX8_withLoop_18 : decode cX8_withLoop 18 = .ok (.lmul, 1) := by decide +kernel
theorem dX8_withLoop_19 : decode cX8_withLoop 19 = .ok (.aload_n 0, 1) := by decide +kernel
theorem dX8_withLoop_20 : decode cX8_withLoop 20 = .ok (.getfield 21, 3) := by decide +kernel
theorem dX8_withLoop_23 : decode cX8_withLoop 23 = .ok (.getfield 115, 3) := by decide +kernel
theorem dX8_withLoop_26 : decode cX8_withLoop 26 = .ok (.iload_n 3, 1) := by decide +kernel
theorem dX8_withLoop_27 : decode cX8_withLoop 27 = .ok (.iload 6, 2) := by decide +kernel
theorem dX8_withLoop_29 : decode cX8_withLoop 29 = .ok (.invokevirtual 173, 3) := by decide +kernel
theorem dX8_withLoop_32 : decode cX8_withLoop 32 = .ok (.i2l, 1) := by decide +kernel
theorem dX8_withLoop_33 : decode cX8_withLoop 33 = .ok (.ladd, 1) := by decide +kernel
theorem dX8_withLoop_34 : decode cX8_withLoop 34 = .ok (.lstore 4, 2) := by decide +kernel
theorem dX8_withLoop_36 : decode cX8_withLoop 36 = .ok (.iinc 6 1, 3) := by decide +kernel
theorem dX8_withLoop_39 : decode cX8_withLoop 39 = .ok (.goto (-33), 3) := by decide +kernel
theorem dX8_withLoop_42 : decode cX8_withLoop 42 = .ok (.lload 4, 2) := by decide +kernel
theorem dX8_withLoop_44 : decode cX8_withLoop 44 = .ok (.lreturn, 1) := by decide +kernel
set_option maxRecDepth 20000 in
theorem ggX8_withLoop_X2_ofLoop : GoodIn wsX8_withLoop wsX2_ofLoop := goodIn_r _ [8, 9, 10, 11, 12, 13, 14, 15, 16, 17, 18, 19, 20, 21, 7, 22, 23, 24, 25, 26, 27, 39, 40, 41, 42, 43, 44, 45, 46, 47, 48, 49, 50, 51, 52, 53, 54, 55, 56, 57, 58, 59] (by decide +kernel) (by decide +kernel)
set_option maxRecDepth 20000 in
theorem gX8_withLoop_X2_ofLoop : GoodIn wsX8_withLoop (wsV RX8 173 RX2 yX2_ofLoop wsX2_ofLoop) := goodIn_app (goodIn_of _ (by decide +kernel)) ggX8_withLoop_X2_ofLoop
def D_X8_withLoop : Md := (yX8_withLoop, cX8_withLoop, 7, (some .long), wsX8_withLoop, RX8, { frames := 2, cells := 0, slots := 0, locals := 43 })
theorem nm_X8_withLoop : nmD D_X8_withLoop 2 := ⟨rfl, by decide +kernel, by decide +kernel, by decide +kernel⟩
theorem hi_X8_withLoop_X4 : ∀ w ∈ u_ws RX4 TX4 4, w ∈ wsX8_withLoop := by decide +kernel
theorem hi_X8_withLoop_X8 : ∀ w ∈ u_ws RX8 TX8 7, w ∈ wsX8_withLoop := by decide +kernel
theorem hl_X8_withLoop_21 : Cond.fieldLink RX8 21 "LevelLoops" "study" "LLevelLoops$Study;" ∈ wsX8_withLoop := by decide +kernel
theorem hl_X8_withLoop_115 : Cond.fieldLink RX8 115 "LevelLoops$Study" "loops" "LLevelLoops$Loops;" ∈ wsX8_withLoop := by decide +kernel
def wp_X8_withLoop_B6 (x3 : Int32) (x4 : Int64) (x6 : Int32) (w : Wd) (Q : Int64 → Prop) (K6 : Int64 → Int32 → Prop) : Prop :=
  (((8 : Int32) ≤ x6 → Q x4) ∧ (¬ (8 : Int32) ≤ x6 → wp_X2_ofLoop 0 x3 x6 w (fun r29 => K6 (((31 : Int64) * x4) + r29.toInt64) (x6 + 1))))
def wp_X8_withLoop_L6 (x3 : Int32) (x4 : Int64) (x6 : Int32) (w : Wd) (Q : Int64 → Prop) : Prop :=
  ∃ (I : Int64 → Int32 → Prop) (μ : Int64 → Int32 → Nat), I x4 x6 ∧ ∀ (x4 : Int64) (x6 : Int32), I x4 x6 → wp_X8_withLoop_B6 x3 x4 x6 w Q (fun x4' x6' => I x4' x6' ∧ μ x4' x6' < μ x4 x6)
def wp_X8_withLoop (x1 : Int64) (x3 : Int32) (w : Wd) (Q : Int64 → Prop) : Prop :=
  wp_X8_withLoop_L6 x3 x1 (0 : Int32) w Q
theorem ok_X8_withLoop_B6 {G : Gt} {M : Mx} {Qf : State → Prop} {x3 : Int32} {x4 : Int64} {x6 : Int32} {w : Wd} {Q : Int64 → Prop} {K6 : Int64 → Int32 → Prop} (hC : cx G D_X8_withLoop M) (he : en G M (qlp w Q) Qf) (h : wp_X8_withLoop_B6 x3 x4 x6 w Q K6) (hK6 : ∀ (x4 : Int64) (x6 : Int32), K6 x4 x6 → jq G D_X8_withLoop M Qf 6 [(0, .ref (aD G 0 26)), (3, .int x3), (4, .long x4), (6, .int x6)] [] w) : jq G D_X8_withLoop M Qf 6 [(0, .ref (aD G 0 26)), (3, .int x3), (4, .long x4), (6, .int x6)] [] w := by
  unfold wp_X8_withLoop_B6 at h
  refine jq_iload (k0 := 3) dX8_withLoop_6 hC rfl ?_
  refine jq_bipush (v := (8 : Int32)) dX8_withLoop_8 hC (by decide) ?_
  refine jq_icmp_ge (tgt := 42) dX8_withLoop_10 hC (by decide) (fun c10 => ?_) (fun c10 => ?_)
  · have h := h.1 c10
    refine jq_lload (k0 := 2) dX8_withLoop_42 hC rfl ?_
    exact jq_lret dX8_withLoop_44 hC he rfl ⟨_, rfl, rfl, h⟩
  · have h := h.2 c10
    refine jq_ldc2 (v := (31 : Int64)) dX8_withLoop_13 hC (by decide +kernel) ?_
    refine jq_lload (k0 := 2) dX8_withLoop_16 hC rfl ?_
    refine jq_lmul dX8_withLoop_18 hC ?_
    refine jq_aload_n (k0 := 0) dX8_withLoop_19 hC rfl rfl ?_
    refine jq_get (k0 := 1) (n := 0) (o := 26) dX8_withLoop_20 hC (cl_0 (by decide)) rfl rfl hi_X8_withLoop_X8 (by decide) hl_X8_withLoop_21 rfl rfl ?_
    refine jq_get (k0 := 1) (n := 0) (o := 7) dX8_withLoop_23 hC (cl_0 (by decide)) rfl rfl hi_X8_withLoop_X4 (by decide) hl_X8_withLoop_115 rfl rfl ?_
    refine jq_iload_n (k0 := 1) dX8_withLoop_26 hC rfl rfl ?_
    refine jq_iload (k0 := 3) dX8_withLoop_27 hC rfl ?_
    refine jq_callV (As := [.int x3, .int x6]) (rest := [.long ((31 : Int64) * x4)]) (n := 0) (o := 12) (D' := D_X2_ofLoop) dX8_withLoop_29 hC (cl_0 (by decide)) rfl rfl rfl (mt_X2_ofLoop (by omega) h) gX8_withLoop_X2_ofLoop rfl ⟨rfl, rfl, Nat.le_of_ble_eq_true rfl, Nat.le_of_ble_eq_true rfl⟩ nm_X2_ofLoop rfl (Nat.le_of_ble_eq_true rfl) (kIp fun r29 h => ?_)
    refine jq_i2l dX8_withLoop_32 hC ?_
    refine jq_ladd dX8_withLoop_33 hC ?_
    refine jq_lstore (L' := [(4, .long (((31 : Int64) * x4) + r29.toInt64)), (0, .ref (aD G 0 26)), (3, .int x3), (6, .int x6)]) dX8_withLoop_34 hC (by decide) rfl ?_
    refine jq_iinc (k0 := 3) (v := (x6 + 1)) (L' := [(6, .int (x6 + 1)), (4, .long (((31 : Int64) * x4) + r29.toInt64)), (0, .ref (aD G 0 26)), (3, .int x3)]) dX8_withLoop_36 hC rfl rfl (by decide) rfl ?_
    refine jq_goto (tgt := 6) dX8_withLoop_39 hC (by decide) ?_
    exact jq_less (L' := [(0, .ref (aD G 0 26)), (3, .int x3), (4, .long (((31 : Int64) * x4) + r29.toInt64)), (6, .int (x6 + 1))]) [2, 3, 1, 0] rfl (hK6 _ _ h)
theorem ok_X8_withLoop_L6 {G : Gt} {M : Mx} {Qf : State → Prop} {x3 : Int32} {x4 : Int64} {x6 : Int32} {w : Wd} {Q : Int64 → Prop} (hC : cx G D_X8_withLoop M) (he : en G M (qlp w Q) Qf) (h : wp_X8_withLoop_L6 x3 x4 x6 w Q) : jq G D_X8_withLoop M Qf 6 [(0, .ref (aD G 0 26)), (3, .int x3), (4, .long x4), (6, .int x6)] [] w := by
  unfold wp_X8_withLoop_L6 at h
  obtain ⟨I, μ, h0, hs⟩ := h
  exact lp_ind (σ := Int64 × Int32) (P := fun s => jq G D_X8_withLoop M Qf 6 [(0, .ref (aD G 0 26)), (3, .int x3), (4, .long s.1), (6, .int s.2)] [] w) (fun s => I s.1 s.2) (fun s => μ s.1 s.2) (fun s h1 ih => ok_X8_withLoop_B6 hC he (hs s.1 s.2 h1) (fun x4' x6' h => ih (x4', x6') h.1 h.2)) (x4, x6) h0
theorem ok_X8_withLoop {G : Gt} {M : Mx} {Qf : State → Prop} {x1 : Int64} {x3 : Int32} {w : Wd} {Q : Int64 → Prop} (hC : cx G D_X8_withLoop M) (he : en G M (qlp w Q) Qf) (h : wp_X8_withLoop x1 x3 w Q) : jq G D_X8_withLoop M Qf 0 [(0, .ref (aD G 0 26)), (1, .long x1), (3, .int x3)] [] w := by
  unfold wp_X8_withLoop at h
  refine jq_lload_n (k0 := 1) dX8_withLoop_0 hC rfl rfl ?_
  refine jq_lstore (L' := [(4, .long x1), (0, .ref (aD G 0 26)), (1, .long x1), (3, .int x3)]) dX8_withLoop_1 hC (by decide) rfl ?_
  refine jq_iconst (v := (0 : Int32)) dX8_withLoop_3 hC (by decide) ?_
  refine jq_istore (L' := [(6, .int (0 : Int32)), (4, .long x1), (0, .ref (aD G 0 26)), (1, .long x1), (3, .int x3)]) dX8_withLoop_4 hC (by decide) rfl ?_
  refine jq_less (L' := [(0, .ref (aD G 0 26)), (3, .int x3), (4, .long x1), (6, .int (0 : Int32))]) [2, 4, 1, 0] rfl ?_
  exact ok_X8_withLoop_L6 hC he h
theorem mt_X8_withLoop {G : Gt} {x1 : Int64} {x3 : Int32} {w : Wd} {Q : Int64 → Prop} (h : wp_X8_withLoop x1 x3 w Q) : Mt G D_X8_withLoop [.ref (aD G 0 26), .long x1, .int x3] w (qlp w Q) := Mt_of (by decide +kernel) rfl rfl (Nat.le_of_ble_eq_true rfl) (fun M Qf hC he => ok_X8_withLoop hC he h)
/-! X8.bitsOf(D)J -/
theorem dX8_bitsOf_0 : decode cX8_bitsOf 0 = .ok (.dload_n 0, 1) := by decide +kernel
theorem dX8_bitsOf_1 : decode cX8_bitsOf 1 = .ok (.dconst 0, 1) := by decide +kernel
theorem dX8_bitsOf_2 : decode cX8_bitsOf 2 = .ok (.dcmp .g, 1) := by decide +kernel
theorem dX8_bitsOf_3 : decode cX8_bitsOf 3 = .ok (.ifCond .gt 5, 3) := by decide +kernel
theorem dX8_bitsOf_6 : decode cX8_bitsOf 6 = .ok (.lconst 0, 1) := by decide +kernel
theorem dX8_bitsOf_7 : decode cX8_bitsOf 7 = .ok (.lreturn, 1) := by decide +kernel
theorem dX8_bitsOf_8 : decode cX8_bitsOf 8 = .ok (.dload_n 0, 1) := by decide +kernel
theorem dX8_bitsOf_9 : decode cX8_bitsOf 9 = .ok (.dstore_n 2, 1) := by decide +kernel
theorem dX8_bitsOf_10 : decode cX8_bitsOf 10 = .ok (.ldc2_w 227, 3) := by decide +kernel
theorem dX8_bitsOf_13 : decode cX8_bitsOf 13 = .ok (.lstore 4, 2) := by decide +kernel
theorem dX8_bitsOf_15 : decode cX8_bitsOf 15 = .ok (.dload_n 2, 1) := by decide +kernel
theorem dX8_bitsOf_16 : decode cX8_bitsOf 16 = .ok (.dconst 1, 1) := by decide +kernel
theorem dX8_bitsOf_17 : decode cX8_bitsOf 17 = .ok (.dcmp .g, 1) := by decide +kernel
theorem dX8_bitsOf_18 : decode cX8_bitsOf 18 = .ok (.ifCond .ge 25, 3) := by decide +kernel
theorem dX8_bitsOf_21 : decode cX8_bitsOf 21 = .ok (.lload 4, 2) := by decide +kernel
theorem dX8_bitsOf_23 : decode cX8_bitsOf 23 = .ok (.lconst 1, 1) := by decide +kernel
theorem dX8_bitsOf_24 : decode cX8_bitsOf 24 = .ok (.lcmp, 1) := by decide +kernel
theorem dX8_bitsOf_25 : decode cX8_bitsOf 25 = .ok (.ifCond .le 18, 3) := by decide +kernel
theorem dX8_bitsOf_28 : decode cX8_bitsOf 28 = .ok (.dload_n 2, 1) := by decide +kernel
theorem dX8_bitsOf_29 : decode cX8_bitsOf 29 = .ok (.ldc2_w 229, 3) := by decide +kernel
theorem dX8_bitsOf_32 : decode cX8_bitsOf 32 = .ok (.dmul, 1) := by decide +kernel
theorem dX8_bitsOf_33 : decode cX8_bitsOf 33 = .ok (.dstore_n 2, 1) := by decide +kernel
theorem dX8_bitsOf_34 : decode cX8_bitsOf 34 = .ok (.lload 4, 2) := by decide +kernel
theorem dX8_bitsOf_36 : decode cX8_bitsOf 36 = .ok (.lconst 1, 1) := by decide +kernel
theorem dX8_bitsOf_37 : decode cX8_bitsOf 37 = .ok (.lsub, 1) := by decide +kernel
theorem dX8_bitsOf_38 : decode cX8_bitsOf 38 = .ok (.lstore 4, 2) := by decide +kernel
theorem dX8_bitsOf_40 : decode cX8_bitsOf 40 = .ok (.goto (-25), 3) := by decide +kernel
theorem dX8_bitsOf_43 : decode cX8_bitsOf 43 = .ok (.dload_n 2, 1) := by decide +kernel
theorem dX8_bitsOf_44 : decode cX8_bitsOf 44 = .ok (.dconst 1, 1) := by decide +kernel
theorem dX8_bitsOf_45 : decode cX8_bitsOf 45 = .ok (.dsub, 1) := by decide +kernel
theorem dX8_bitsOf_46 : decode cX8_bitsOf 46 = .ok (.ldc2_w 231, 3) := by decide +kernel
theorem dX8_bitsOf_49 : decode cX8_bitsOf 49 = .ok (.dmul, 1) := by decide +kernel
theorem dX8_bitsOf_50 : decode cX8_bitsOf 50 = .ok (.d2l, 1) := by decide +kernel
theorem dX8_bitsOf_51 : decode cX8_bitsOf 51 = .ok (.lstore 6, 2) := by decide +kernel
theorem dX8_bitsOf_53 : decode cX8_bitsOf 53 = .ok (.lload 4, 2) := by decide +kernel
theorem dX8_bitsOf_55 : decode cX8_bitsOf 55 = .ok (.bipush 52, 2) := by decide +kernel
theorem dX8_bitsOf_57 : decode cX8_bitsOf 57 = .ok (.lshl, 1) := by decide +kernel
theorem dX8_bitsOf_58 : decode cX8_bitsOf 58 = .ok (.lload 6, 2) := by decide +kernel
theorem dX8_bitsOf_60 : decode cX8_bitsOf 60 = .ok (.lor, 1) := by decide +kernel
theorem dX8_bitsOf_61 : decode cX8_bitsOf 61 = .ok (.lreturn, 1) := by decide +kernel
def D_X8_bitsOf : Md := (yX8_bitsOf, cX8_bitsOf, 8, (some .long), wsX8_bitsOf, RX8, { frames := 0, cells := 0, slots := 0, locals := 0 })
theorem nm_X8_bitsOf : nmD D_X8_bitsOf 1 := ⟨rfl, by decide +kernel, by decide +kernel, by decide +kernel⟩
def wp_X8_bitsOf_J43 (x2 : UInt64) (x4 : Int64) (Q : Int64 → Prop) : Prop :=
  vf_n64 (FP.dsub x2 FP.dconst1) ∧ vf_n64 (FP.dmul (FP.dsub x2 FP.dconst1) (4841369599423283200 : UInt64)) ∧ Q ((x4 <<< ((52 : Int32).toInt64 &&& 63)) ||| (FP.d2l (FP.dmul (FP.dsub x2 FP.dconst1) (4841369599423283200 : UInt64))))
def wp_X8_bitsOf_B15 (x2 : UInt64) (x4 : Int64) (Q : Int64 → Prop) (K15 : UInt64 → Int64 → Prop) : Prop :=
  ((0 ≤ (Op.cmpValue (FP.dcmp x2 FP.dconst1) .g) → wp_X8_bitsOf_J43 x2 x4 Q) ∧ (¬ 0 ≤ (Op.cmpValue (FP.dcmp x2 FP.dconst1) .g) → (((lg_cmp x4 (1 : Int64)) ≤ 0 → wp_X8_bitsOf_J43 x2 x4 Q) ∧ (¬ (lg_cmp x4 (1 : Int64)) ≤ 0 → vf_n64 (FP.dmul x2 (4611686018427387904 : UInt64)) ∧ K15 (FP.dmul x2 (4611686018427387904 : UInt64)) (x4 - (1 : Int64))))))
def wp_X8_bitsOf_L15 (x2 : UInt64) (x4 : Int64) (Q : Int64 → Prop) : Prop :=
  ∃ (I : UInt64 → Int64 → Prop) (μ : UInt64 → Int64 → Nat), I x2 x4 ∧ ∀ (x2 : UInt64) (x4 : Int64), I x2 x4 → wp_X8_bitsOf_B15 x2 x4 Q (fun x2' x4' => I x2' x4' ∧ μ x2' x4' < μ x2 x4)
def wp_X8_bitsOf (x0 : UInt64) (Q : Int64 → Prop) : Prop :=
  ((0 < (Op.cmpValue (FP.dcmp x0 FP.dconst0) .g) → wp_X8_bitsOf_L15 x0 (1023 : Int64) Q) ∧ (¬ 0 < (Op.cmpValue (FP.dcmp x0 FP.dconst0) .g) → Q (0 : Int64)))
theorem ok_X8_bitsOf_J43 {G : Gt} {M : Mx} {Qf : State → Prop} {x2 : UInt64} {x4 : Int64} {w : Wd} {Q : Int64 → Prop} (hC : cx G D_X8_bitsOf M) (he : en G M (qlp w Q) Qf) (h : wp_X8_bitsOf_J43 x2 x4 Q) : jq G D_X8_bitsOf M Qf 43 [(2, .double x2), (4, .long x4)] [] w := by
  unfold wp_X8_bitsOf_J43 at h
  refine jq_dload_n (k0 := 0) dX8_bitsOf_43 hC rfl rfl ?_
  refine jq_dconst1 dX8_bitsOf_44 hC ?_
  obtain ⟨b45, h⟩ := h
  refine jq_dsub dX8_bitsOf_45 hC b45 ?_
  refine jq_ldc2d (v := (4841369599423283200 : UInt64)) dX8_bitsOf_46 hC (by decide +kernel) ?_
  obtain ⟨b49, h⟩ := h
  refine jq_dmul dX8_bitsOf_49 hC b49 ?_
  refine jq_d2l dX8_bitsOf_50 hC ?_
  refine jq_lstore (L' := [(6, .long (FP.d2l (FP.dmul (FP.dsub x2 FP.dconst1) (4841369599423283200 : UInt64)))), (2, .double x2), (4, .long x4)]) dX8_bitsOf_51 hC (by decide) rfl ?_
  refine jq_lload (k0 := 2) dX8_bitsOf_53 hC rfl ?_
  refine jq_bipush (v := (52 : Int32)) dX8_bitsOf_55 hC (by decide) ?_
  refine jq_lshl dX8_bitsOf_57 hC ?_
  refine jq_lload (k0 := 0) dX8_bitsOf_58 hC rfl ?_
  refine jq_lor dX8_bitsOf_60 hC ?_
  exact jq_lret dX8_bitsOf_61 hC he rfl ⟨_, rfl, rfl, h⟩
theorem ok_X8_bitsOf_B15 {G : Gt} {M : Mx} {Qf : State → Prop} {x2 : UInt64} {x4 : Int64} {w : Wd} {Q : Int64 → Prop} {K15 : UInt64 → Int64 → Prop} (hC : cx G D_X8_bitsOf M) (he : en G M (qlp w Q) Qf) (h : wp_X8_bitsOf_B15 x2 x4 Q K15) (hK15 : ∀ (x2 : UInt64) (x4 : Int64), K15 x2 x4 → jq G D_X8_bitsOf M Qf 15 [(2, .double x2), (4, .long x4)] [] w) : jq G D_X8_bitsOf M Qf 15 [(2, .double x2), (4, .long x4)] [] w := by
  unfold wp_X8_bitsOf_B15 at h
  refine jq_dload_n (k0 := 0) dX8_bitsOf_15 hC rfl rfl ?_
  refine jq_dconst1 dX8_bitsOf_16 hC ?_
  refine jq_dcmp dX8_bitsOf_17 hC ?_
  refine jq_if_ge (tgt := 43) dX8_bitsOf_18 hC (by decide) (fun c18 => ?_) (fun c18 => ?_)
  · have h := h.1 c18
    refine jq_less (L' := [(2, .double x2), (4, .long x4)]) [0, 1] rfl ?_
    exact ok_X8_bitsOf_J43 hC he h
  · have h := h.2 c18
    refine jq_lload (k0 := 1) dX8_bitsOf_21 hC rfl ?_
    refine jq_lconst (v := 1) dX8_bitsOf_23 hC (by decide) ?_
    refine jq_lcmp dX8_bitsOf_24 hC ?_
    refine jq_if_le (tgt := 43) dX8_bitsOf_25 hC (by decide) (fun c25 => ?_) (fun c25 => ?_)
    · have h := h.1 c25
      refine jq_less (L' := [(2, .double x2), (4, .long x4)]) [0, 1] rfl ?_
      exact ok_X8_bitsOf_J43 hC he h
    · have h := h.2 c25
      refine jq_dload_n (k0 := 0) dX8_bitsOf_28 hC rfl rfl ?_
      refine jq_ldc2d (v := (4611686018427387904 : UInt64)) dX8_bitsOf_29 hC (by decide +kernel) ?_
      obtain ⟨b32, h⟩ := h
      refine jq_dmul dX8_bitsOf_32 hC b32 ?_
      refine jq_dstore_n (L' := [(2, .double (FP.dmul x2 (4611686018427387904 : UInt64))), (4, .long x4)]) dX8_bitsOf_33 hC rfl (by decide) rfl ?_
      refine jq_lload (k0 := 1) dX8_bitsOf_34 hC rfl ?_
      refine jq_lconst (v := 1) dX8_bitsOf_36 hC (by decide) ?_
      refine jq_lsub dX8_bitsOf_37 hC ?_
      refine jq_lstore (L' := [(4, .long (x4 - (1 : Int64))), (2, .double (FP.dmul x2 (4611686018427387904 : UInt64)))]) dX8_bitsOf_38 hC (by decide) rfl ?_
      refine jq_goto (tgt := 15) dX8_bitsOf_40 hC (by decide) ?_
      exact jq_less (L' := [(2, .double (FP.dmul x2 (4611686018427387904 : UInt64))), (4, .long (x4 - (1 : Int64)))]) [1, 0] rfl (hK15 _ _ h)
theorem ok_X8_bitsOf_L15 {G : Gt} {M : Mx} {Qf : State → Prop} {x2 : UInt64} {x4 : Int64} {w : Wd} {Q : Int64 → Prop} (hC : cx G D_X8_bitsOf M) (he : en G M (qlp w Q) Qf) (h : wp_X8_bitsOf_L15 x2 x4 Q) : jq G D_X8_bitsOf M Qf 15 [(2, .double x2), (4, .long x4)] [] w := by
  unfold wp_X8_bitsOf_L15 at h
  obtain ⟨I, μ, h0, hs⟩ := h
  exact lp_ind (σ := UInt64 × Int64) (P := fun s => jq G D_X8_bitsOf M Qf 15 [(2, .double s.1), (4, .long s.2)] [] w) (fun s => I s.1 s.2) (fun s => μ s.1 s.2) (fun s h1 ih => ok_X8_bitsOf_B15 hC he (hs s.1 s.2 h1) (fun x2' x4' h => ih (x2', x4') h.1 h.2)) (x2, x4) h0
theorem ok_X8_bitsOf {G : Gt} {M : Mx} {Qf : State → Prop} {x0 : UInt64} {w : Wd} {Q : Int64 → Prop} (hC : cx G D_X8_bitsOf M) (he : en G M (qlp w Q) Qf) (h : wp_X8_bitsOf x0 Q) : jq G D_X8_bitsOf M Qf 0 [(0, .double x0)] [] w := by
  unfold wp_X8_bitsOf at h
  refine jq_dload_n (k0 := 0) dX8_bitsOf_0 hC rfl rfl ?_
  refine jq_dconst0 dX8_bitsOf_1 hC ?_
  refine jq_dcmp dX8_bitsOf_2 hC ?_
  refine jq_if_gt (tgt := 8) dX8_bitsOf_3 hC (by decide) (fun c3 => ?_) (fun c3 => ?_)
  · have h := h.1 c3
    refine jq_dload_n (k0 := 0) dX8_bitsOf_8 hC rfl rfl ?_
    refine jq_dstore_n (L' := [(2, .double x0), (0, .double x0)]) dX8_bitsOf_9 hC rfl (by decide) rfl ?_
    refine jq_ldc2 (v := (1023 : Int64)) dX8_bitsOf_10 hC (by decide +kernel) ?_
    refine jq_lstore (L' := [(4, .long (1023 : Int64)), (2, .double x0), (0, .double x0)]) dX8_bitsOf_13 hC (by decide) rfl ?_
    refine jq_less (L' := [(2, .double x0), (4, .long (1023 : Int64))]) [1, 0] rfl ?_
    exact ok_X8_bitsOf_L15 hC he h
  · have h := h.2 c3
    refine jq_lconst (v := 0) dX8_bitsOf_6 hC (by decide) ?_
    exact jq_lret dX8_bitsOf_7 hC he rfl ⟨_, rfl, rfl, h⟩
theorem mt_X8_bitsOf {G : Gt} {x0 : UInt64} {w : Wd} {Q : Int64 → Prop} (h : wp_X8_bitsOf x0 Q) : Mt G D_X8_bitsOf [.double x0] w (qlp w Q) := Mt_of (by decide +kernel) rfl rfl (Nat.le_of_ble_eq_true rfl) (fun M Qf hC he => ok_X8_bitsOf hC he h)
/-! X8.withText(J)J -/
theorem dX8_withText_0 : decode cX8_withText 0 = .ok (.ldc2_w 204, 3) := by decide +kernel
theorem dX8_withText_3 : decode cX8_withText 3 = .ok (.lload_n 1, 1) := by decide +kernel
theorem dX8_withText_4 : decode cX8_withText 4 = .ok (.lmul, 1) := by decide +kernel
theorem dX8_withText_5 : decode cX8_withText 5 = .ok (.aload_n 0, 1) := by decide +kernel
theorem dX8_withText_6 : decode cX8_withText 6 = .ok (.getfield 41, 3) := by decide +kernel
theorem dX8_withText_9 : decode cX8_withText 9 = .ok (.getfield 148, 3) := by decide +kernel
theorem dX8_withText_12 : decode cX8_withText 12 = .ok (.i2l, 1) := by decide +kernel
theorem dX8_withText_13 : decode cX8_withText 13 = .ok (.ladd, 1) := by decide +kernel
theorem dX8_withText_14 : decode cX8_withText 14 = .ok (.lstore_n 3, 1) := by decide +kernel
theorem dX8_withText_15 : decode cX8_withText 15 = .ok (.iconst 0, 1) := by decide +kernel
theorem dX8_withText_16 : decode cX8_withText 16 = .ok (.istore 5, 2) := by decide +kernel
theorem dX8_withText_18 : decode cX8_withText 18 = .ok (.iload 5, 2) := by decide +kernel
theorem dX8_withText_20 : decode cX8_withText 20 = .ok (.aload_n 0, 1) := by decide +kernel
theorem dX8_withText_21 : decode cX8_withText 21 = .ok (.getfield 41, 3) := by decide +kernel
theorem dX8_withText_24 : decode cX8_withText 24 = .ok (.getfield 148, 3) := by decide +kernel
theorem dX8_withText_27 : decode cX8_withText 27 = .ok (.if_icmp .ge 27, 3) := by decide +kernel
theorem dX8_withText_30 : decode cX8_withText 30 = .ok (.ldc2_w 204, 3) := by decide +kernel
theorem dX8_withText_33 : decode cX8_withText 33 = .ok (.lload_n 3, 1) := by decide +kernel
theorem dX8_withText_34 : decode cX8_withText 34 = .ok (.lmul, 1) := by decide +kernel
theorem dX8_withText_35 : decode cX8_withText 35 = .ok (.aload_n 0, 1) := by decide +kernel
theorem dX8_withText_36 : decode cX8_withText 36 = .ok (.getfield 41, 3) := by decide +kernel
theorem dX8_withText_39 : decode cX8_withText 39 = .ok (.getfield 224, 3) := by decide +kernel
theorem dX8_withText_42 : decode cX8_withText 42 = .ok (.iload 5, 2) := by decide +kernel
theorem dX8_withText_44 : decode cX8_withText 44 = .ok (.iaload, 1) := by decide +kernel
theorem dX8_withText_45 : decode cX8_withText 45 = .ok (.i2l, 1) := by decide +kernel
theorem dX8_withText_46 : decode cX8_withText 46 = .ok (.ladd, 1) := by decide +kernel
theorem dX8_withText_47 : decode cX8_withText 47 = .ok (.lstore_n 3, 1) := by decide +kernel
theorem dX8_withText_48 : decode cX8_withText 48 = .ok (.iinc 5 1, 3) := by decide +kernel
theorem dX8_withText_51 : decode cX8_withText 51 = .ok (.goto (-33), 3) := by decide +kernel
theorem dX8_withText_54 : decode cX8_withText 54 = .ok (.lload_n 3, 1) := by decide +kernel
theorem dX8_withText_55 : decode cX8_withText 55 = .ok (.lreturn, 1) := by decide +kernel
def D_X8_withText : Md := (yX8_withText, cX8_withText, 6, (some .long), wsX8_withText, RX8, { frames := 0, cells := 0, slots := 0, locals := 0 })
theorem nm_X8_withText : nmD D_X8_withText 1 := ⟨rfl, by decide +kernel, by decide +kernel, by decide +kernel⟩
theorem hi_X8_withText_X6 : ∀ w ∈ u_ws RX6 TX6 2, w ∈ wsX8_withText := by decide +kernel
theorem hi_X8_withText_X8 : ∀ w ∈ u_ws RX8 TX8 7, w ∈ wsX8_withText := by decide +kernel
theorem hl_X8_withText_41 : Cond.fieldLink RX8 41 "LevelLoops" "text" "LLevelLoops$Text;" ∈ wsX8_withText := by decide +kernel
theorem hl_X8_withText_148 : Cond.fieldLink RX8 148 "LevelLoops$Text" "size" "I" ∈ wsX8_withText := by decide +kernel
theorem hl_X8_withText_224 : Cond.fieldLink RX8 224 "LevelLoops$Text" "codes" "[I" ∈ wsX8_withText := by decide +kernel
def wp_X8_withText_B18 (x3 : Int64) (x5 : Int32) (w : Wd) (Q : Int64 → Prop) (K18 : Int64 → Int32 → Prop) : Prop :=
  (((wi w 0 29 0) ≤ x5 → Q x3) ∧ (¬ (wi w 0 29 0) ≤ x5 → vp_in x5 60 ∧ K18 (((31 : Int64) * x3) + ((wi w 0 30 x5.toNatClampNeg).toInt64)) (x5 + 1)))
def wp_X8_withText_L18 (x3 : Int64) (x5 : Int32) (w : Wd) (Q : Int64 → Prop) : Prop :=
  ∃ (I : Int64 → Int32 → Prop) (μ : Int64 → Int32 → Nat), I x3 x5 ∧ ∀ (x3 : Int64) (x5 : Int32), I x3 x5 → wp_X8_withText_B18 x3 x5 w Q (fun x3' x5' => I x3' x5' ∧ μ x3' x5' < μ x3 x5)
def wp_X8_withText (x1 : Int64) (w : Wd) (Q : Int64 → Prop) : Prop :=
  wp_X8_withText_L18 (((31 : Int64) * x1) + ((wi w 0 29 0).toInt64)) (0 : Int32) w Q
theorem ok_X8_withText_B18 {G : Gt} {M : Mx} {Qf : State → Prop} {x3 : Int64} {x5 : Int32} {w : Wd} {Q : Int64 → Prop} {K18 : Int64 → Int32 → Prop} (hC : cx G D_X8_withText M) (he : en G M (qlp w Q) Qf) (h : wp_X8_withText_B18 x3 x5 w Q K18) (hK18 : ∀ (x3 : Int64) (x5 : Int32), K18 x3 x5 → jq G D_X8_withText M Qf 18 [(0, .ref (aD G 0 26)), (3, .long x3), (5, .int x5)] [] w) : jq G D_X8_withText M Qf 18 [(0, .ref (aD G 0 26)), (3, .long x3), (5, .int x5)] [] w := by
  unfold wp_X8_withText_B18 at h
  refine jq_iload (k0 := 2) dX8_withText_18 hC rfl ?_
  refine jq_aload_n (k0 := 0) dX8_withText_20 hC rfl rfl ?_
  refine jq_get (k0 := 5) (n := 0) (o := 26) dX8_withText_21 hC (cl_0 (by decide)) rfl rfl hi_X8_withText_X8 (by decide) hl_X8_withText_41 rfl rfl ?_
  refine jq_get (k0 := 0) (n := 0) (o := 29) dX8_withText_24 hC (cl_0 (by decide)) rfl rfl hi_X8_withText_X6 (by decide) hl_X8_withText_148 rfl rfl ?_
  refine jq_icmp_ge (tgt := 54) dX8_withText_27 hC (by decide) (fun c27 => ?_) (fun c27 => ?_)
  · have h := h.1 c27
    refine jq_lload_n (k0 := 1) dX8_withText_54 hC rfl rfl ?_
    exact jq_lret dX8_withText_55 hC he rfl ⟨_, rfl, rfl, h⟩
  · have h := h.2 c27
    refine jq_ldc2 (v := (31 : Int64)) dX8_withText_30 hC (by decide +kernel) ?_
    refine jq_lload_n (k0 := 1) dX8_withText_33 hC rfl rfl ?_
    refine jq_lmul dX8_withText_34 hC ?_
    refine jq_aload_n (k0 := 0) dX8_withText_35 hC rfl rfl ?_
    refine jq_get (k0 := 5) (n := 0) (o := 26) dX8_withText_36 hC (cl_0 (by decide)) rfl rfl hi_X8_withText_X8 (by decide) hl_X8_withText_41 rfl rfl ?_
    refine jq_get (k0 := 1) (n := 0) (o := 29) dX8_withText_39 hC (cl_0 (by decide)) rfl rfl hi_X8_withText_X6 (by decide) hl_X8_withText_224 rfl rfl ?_
    refine jq_iload (k0 := 2) dX8_withText_42 hC rfl ?_
    obtain ⟨b44, h⟩ := h
    refine jq_iald (n := 0) (o := 30) (j := x5.toNatClampNeg) dX8_withText_44 hC (cl_0 (by decide)) rfl b44 rfl ?_
    refine jq_i2l dX8_withText_45 hC ?_
    refine jq_ladd dX8_withText_46 hC ?_
    refine jq_lstore_n (L' := [(3, .long (((31 : Int64) * x3) + ((wi w 0 30 x5.toNatClampNeg).toInt64))), (0, .ref (aD G 0 26)), (5, .int x5)]) dX8_withText_47 hC rfl (by decide) rfl ?_
    refine jq_iinc (k0 := 2) (v := (x5 + 1)) (L' := [(5, .int (x5 + 1)), (3, .long (((31 : Int64) * x3) + ((wi w 0 30 x5.toNatClampNeg).toInt64))), (0, .ref (aD G 0 26))]) dX8_withText_48 hC rfl rfl (by decide) rfl ?_
    refine jq_goto (tgt := 18) dX8_withText_51 hC (by decide) ?_
    exact jq_less (L' := [(0, .ref (aD G 0 26)), (3, .long (((31 : Int64) * x3) + ((wi w 0 30 x5.toNatClampNeg).toInt64))), (5, .int (x5 + 1))]) [2, 1, 0] rfl (hK18 _ _ h)
theorem ok_X8_withText_L18 {G : Gt} {M : Mx} {Qf : State → Prop} {x3 : Int64} {x5 : Int32} {w : Wd} {Q : Int64 → Prop} (hC : cx G D_X8_withText M) (he : en G M (qlp w Q) Qf) (h : wp_X8_withText_L18 x3 x5 w Q) : jq G D_X8_withText M Qf 18 [(0, .ref (aD G 0 26)), (3, .long x3), (5, .int x5)] [] w := by
  unfold wp_X8_withText_L18 at h
  obtain ⟨I, μ, h0, hs⟩ := h
  exact lp_ind (σ := Int64 × Int32) (P := fun s => jq G D_X8_withText M Qf 18 [(0, .ref (aD G 0 26)), (3, .long s.1), (5, .int s.2)] [] w) (fun s => I s.1 s.2) (fun s => μ s.1 s.2) (fun s h1 ih => ok_X8_withText_B18 hC he (hs s.1 s.2 h1) (fun x3' x5' h => ih (x3', x5') h.1 h.2)) (x3, x5) h0
theorem ok_X8_withText {G : Gt} {M : Mx} {Qf : State → Prop} {x1 : Int64} {w : Wd} {Q : Int64 → Prop} (hC : cx G D_X8_withText M) (he : en G M (qlp w Q) Qf) (h : wp_X8_withText x1 w Q) : jq G D_X8_withText M Qf 0 [(0, .ref (aD G 0 26)), (1, .long x1)] [] w := by
  unfold wp_X8_withText at h
  refine jq_ldc2 (v := (31 : Int64)) dX8_withText_0 hC (by decide +kernel) ?_
  refine jq_lload_n (k0 := 1) dX8_withText_3 hC rfl rfl ?_
  refine jq_lmul dX8_withText_4 hC ?_
  refine jq_aload_n (k0 := 0) dX8_withText_5 hC rfl rfl ?_
  refine jq_get (k0 := 5) (n := 0) (o := 26) dX8_withText_6 hC (cl_0 (by decide)) rfl rfl hi_X8_withText_X8 (by decide) hl_X8_withText_41 rfl rfl ?_
  refine jq_get (k0 := 0) (n := 0) (o := 29) dX8_withText_9 hC (cl_0 (by decide)) rfl rfl hi_X8_withText_X6 (by decide) hl_X8_withText_148 rfl rfl ?_
  refine jq_i2l dX8_withText_12 hC ?_
  refine jq_ladd dX8_withText_13 hC ?_
  refine jq_lstore_n (L' := [(3, .long (((31 : Int64) * x1) + ((wi w 0 29 0).toInt64))), (0, .ref (aD G 0 26)), (1, .long x1)]) dX8_withText_14 hC rfl (by decide) rfl ?_
  refine jq_iconst (v := (0 : Int32)) dX8_withText_15 hC (by decide) ?_
  refine jq_istore (L' := [(5, .int (0 : Int32)), (3, .long (((31 : Int64) * x1) + ((wi w 0 29 0).toInt64))), (0, .ref (aD G 0 26)), (1, .long x1)]) dX8_withText_16 hC (by decide) rfl ?_
  refine jq_less (L' := [(0, .ref (aD G 0 26)), (3, .long (((31 : Int64) * x1) + ((wi w 0 29 0).toInt64))), (5, .int (0 : Int32))]) [2, 1, 0] rfl ?_
  exact ok_X8_withText_L18 hC he h
theorem mt_X8_withText {G : Gt} {x1 : Int64} {w : Wd} {Q : Int64 → Prop} (h : wp_X8_withText x1 w Q) : Mt G D_X8_withText [.ref (aD G 0 26), .long x1] w (qlp w Q) := Mt_of (by decide +kernel) rfl rfl (Nat.le_of_ble_eq_true rfl) (fun M Qf hC he => ok_X8_withText hC he h)
/-! X8.digest()J -/
theorem dX8_digest_0 : decode cX8_digest 0 = .ok (.ldc2_w 202, 3) := by decide +kernel
theorem dX8_digest_3 : decode cX8_digest 3 = .ok (.lstore_n 1, 1) := by decide +kernel
theorem dX8_digest_4 : decode cX8_digest 4 = .ok (.iconst 0, 1) := by decide +kernel
theorem dX8_digest_5 : decode cX8_digest 5 = .ok (.istore_n 3, 1) := by decide +kernel
theorem dX8_digest_6 : decode cX8_digest 6 = .ok (.iload_n 3, 1) := by decide +kernel
theorem dX8_digest_7 : decode cX8_digest 7 = .ok (.bipush 11, 2) := by decide +kernel
theorem dX8_digest_9 : decode cX8_digest 9 = .ok (.if_icmp .ge 22, 3) := by decide +kernel
theorem dX8_digest_12 : decode cX8_digest 12 = .ok (.ldc2_w 204, 3) := by decide +kernel
theorem dX8_digest_15 : decode cX8_digest 15 = .ok (.lload_n 1, 1) := by decide +kernel
theorem dX8_digest_16 : decode cX8_digest 16 = .ok (.lmul, 1) := by decide +kernel
theorem dX8_digest_17 : decode cX8_digest 17 = .ok (.aload_n 0, 1) := by decide +kernel
theorem dX8_digest_18 : decode cX8_digest 18 = .ok (.iload_n 3, 1) := by decide +kernel
theorem dX8_digest_19 : decode cX8_digest 19 = .ok (.invokevirtual 180, 3) := by decide +kernel
theorem dX8_digest_22 : decode cX8_digest 22 = .ok (.i2l, 1) := by decide +kernel
theorem dX8_digest_23 : decode cX8_digest 23 = .ok (.ladd, 1) := by decide +kernel
theorem dX8_digest_24 : decode cX8_digest 24 = .ok (.lstore_n 1, 1) := by decide +kernel
theorem dX8_digest_25 : decode cX8_digest 25 = .ok (.iinc 3 1, 3) := by decide +kernel
theorem dX8_digest_28 : decode cX8_digest 28 = .ok (.goto (-22), 3) := by decide +kernel
theorem dX8_digest_31 : decode cX8_digest 31 = .ok (.iconst 0, 1) := by decide +kernel
theorem dX8_digest_32 : decode cX8_digest 32 = .ok (.istore_n 3, 1) := by decide +kernel
theorem dX8_digest_33 : decode cX8_digest 33 = .ok (.iload_n 3, 1) := by decide +kernel
theorem dX8_digest_34 : decode cX8_digest 34 = .ok (.iconst 3, 1) := by decide +kernel
theorem dX8_digest_35 : decode cX8_digest 35 = .ok (.if_icmp .ge 26, 3) := by decide +kernel
theorem dX8_digest_38 : decode cX8_digest 38 = .ok (.ldc2_w 204, 3) := by decide +kernel
theorem dX8_digest_41 : decode cX8_digest 41 = .ok (.lload_n 1, 1) := by decide +kernel
theorem dX8_digest_42 : decode cX8_digest 42 = .ok (.lmul, 1) := by decide +kernel
theorem dX8_digest_43 : decode cX8_digest 43 = .ok (.aload_n 0, 1) := by decide +kernel
theorem dX8_digest_44 : decode cX8_digest 44 = .ok (.getfield 10, 3) := by decide +kernel
theorem dX8_digest_47 : decode cX8_digest 47 = .ok (.getfield 145, 3) := by decide +kernel
theorem dX8_digest_50 : decode cX8_digest 50 = .ok (.iload_n 3, 1) := by decide +kernel
theorem dX8_digest_51 : decode cX8_digest 51 = .ok (.iaload, 1) := by decide +kernel
theorem dX8_digest_52 : decode cX8_digest 52 = .ok (.i2l, 1) := by decide +kernel
theorem dX8_digest_53 : decode cX8_digest 53 = .ok (.ladd, 1) := by decide +kernel
theorem dX8_digest_54 : decode cX8_digest 54 = .ok (.lstore_n 1, 1) := by decide +kernel
theorem dX8_digest_55 : decode cX8_digest 55 = .ok (.iinc 3 1, 3) := by decide +kernel
theorem dX8_digest_58 : decode cX8_digest 58 = .ok (.goto (-25), 3) := by decide +kernel
theorem dX8_digest_61 : decode cX8_digest 61 = .ok (.iconst 0, 1) := by decide +kernel
theorem dX8_digest_62 : decode cX8_digest 62 = .ok (.istore_n 3, 1) := by decide +kernel
theorem dX8_digest_63 : decode cX8_digest 63 = .ok (.iload_n 3, 1) := by decide +kernel
theorem dX8_digest_64 : decode cX8_digest 64 = .ok (.aload_n 0, 1) := by decide +kernel
theorem dX8_digest_65 : decode cX8_digest 65 = .ok (.getfield 10, 3) := by decide +kernel
theorem dX8_digest_68 : decode cX8_digest 68 = .ok (.getfield 59, 3) := by decide +kernel
theorem dX8_digest_71 : decode cX8_digest 71 = .ok (.if_icmp .ge 16, 3) := by decide +kernel
theorem dX8_digest_74 : decode cX8_digest 74 = .ok (.aload_n 0, 1) := by decide +kernel
theorem dX8_digest_75 : decode cX8_digest 75 = .ok (.lload_n 1, 1) := by decide +kernel
theorem dX8_digest_76 : decode cX8_digest 76 = .ok (.iload_n 3, 1) := by decide +kernel
theorem dX8_digest_77 : decode cX8_digest 77 = .ok (.invokevirtual 206, 3) := by decide +kernel
theorem dX8_digest_80 : decode cX8_digest 80 = .ok (.lstore_n 1, 1) := by decide +kernel
theorem dX8_digest_81 : decode cX8_digest 81 = .ok (.iinc 3 1, 3) := by decide +kernel
theorem dX8_digest_84 : decode cX8_digest 84 = .ok (.goto (-21), 3) := by decide +kernel
theorem dX8_digest_87 : decode cX8_digest 87 = .ok (.iconst 0, 1) := by decide +kernel
theorem dX8_digest_88 : decode cX8_digest 88 = .ok (.istore_n 3, 1) := by decide +kernel
theorem dX8_digest_89 : decode cX8_digest 89 = .ok (.iload_n 3, 1) := by decide +kernel
theorem dX8_digest_90 : decode cX8_digest 90 = .ok (.aload_n 0, 1) := by decide +kernel
theorem dX8_digest_91 : decode cX8_digest 91 = .ok (.getfield 10, 3) := by decide +kernel
theorem dX8_digest_94 : decode cX8_digest 94 = .ok (.getfield 105, 3) := by decide +kernel
theorem dX8_digest_97 : decode cX8_digest 97 = .ok (.if_icmp .ge 21, 3) := by decide +kernel
theorem dX8_digest_100 : decode cX8_digest 100 = .ok (.aload_n 0, 1) := by decide +kernel
theorem dX8_digest_101 : decode cX8_digest 101 = .ok (.iload_n 3, 1) := by decide +kernel
theorem dX8_digest_102 : decode cX8_digest 102 = .ok (.invokevirtual 189, 3) := by decide +kernel
theorem dX8_digest_105 : decode cX8_digest 105 = .ok (.aload_n 0, 1) := by decide +kernel
theorem dX8_digest_106 : decode cX8_digest 106 = .ok (.lload_n 1, 1) := by decide +kernel
theorem dX8_digest_107 : decode cX8_digest 107 = .ok (.iload_n 3, 1) := by decide +kernel
theorem dX8_digest_108 : decode cX8_digest 108 = .ok (.invokevirtual 210, 3) := by decide +kernel
theorem dX8_digest_111 : decode cX8_digest 111 = .ok (.lstore_n 1, 1) := by decide +kernel
theorem dX8_digest_112 : decode cX8_digest 112 = .ok (.iinc 3 1, 3) := by decide +kernel
theorem dX8_digest_115 : decode cX8_digest 115 = .ok (.goto (-26), 3) := by decide +kernel
theorem dX8_digest_118 : decode cX8_digest 118 = .ok (.iconst 0, 1) := by decide +kernel
theorem dX8_digest_119 : decode cX8_digest 119 = .ok (.istore_n 3, 1) := by decide +kernel
theorem dX8_digest_120 : decode cX8_digest 120 = .ok (.iload_n 3, 1) := by decide +kernel
theorem dX8_digest_121 : decode cX8_digest 121 = .ok (.aload_n 0, 1) := by decide +kernel
theorem dX8_digest_122 : decode cX8_digest 122 = .ok (.getfield 21, 3) := by decide +kernel
theorem dX8_digest_125 : decode cX8_digest 125 = .ok (.getfield 115, 3) := by decide +kernel
theorem dX8_digest_128 : decode cX8_digest 128 = .ok (.getfield 139, 3) := by decide +kernel
theorem dX8_digest_131 : decode cX8_digest 131 = .ok (.if_icmp .ge 16, 3) := by decide +kernel
theorem dX8_digest_134 : decode cX8_digest 134 = .ok (.aload_n 0, 1) := by decide +kernel
theorem dX8_digest_135 : decode cX8_digest 135 = .ok (.lload_n 1, 1) := by decide +kernel
theorem dX8_digest_136 : decode cX8_digest 136 = .ok (.iload_n 3, 1) := by decide +kernel
theorem dX8_digest_137 : decode cX8_digest 137 = .ok (.invokevirtual 213, 3) := by decide +kernel
theorem dX8_digest_140 : decode cX8_digest 140 = .ok (.lstore_n 1, 1) := by decide +kernel
theorem dX8_digest_141 : decode cX8_digest 141 = .ok (.iinc 3 1, 3) := by decide +kernel
theorem dX8_digest_144 : decode cX8_digest 144 = .ok (.goto (-24), 3) := by decide +kernel
theorem dX8_digest_147 : decode cX8_digest 147 = .ok (.ldc2_w 204, 3) := by decide +kernel
theorem dX8_digest_150 : decode cX8_digest 150 = .ok (.lload_n 1, 1) := by decide +kernel
theorem dX8_digest_151 : decode cX8_digest 151 = .ok (.lmul, 1) := by decide +kernel
theorem dX8_digest_152 : decode cX8_digest 152 = .ok (.aload_n 0, 1) := by decide +kernel
theorem dX8_digest_153 : decode cX8_digest 153 = .ok (.getfield 21, 3) := by decide +kernel
theorem dX8_digest_156 : decode cX8_digest 156 = .ok (.getfield 115, 3) := by decide +kernel
theorem dX8_digest_159 : decode cX8_digest 159 = .ok (.invokevirtual 183, 3) := by decide +kernel
theorem dX8_digest_162 : decode cX8_digest 162 = .ok (.i2l, 1) := by decide +kernel
theorem dX8_digest_163 : decode cX8_digest 163 = .ok (.ladd, 1) := by decide +kernel
theorem dX8_digest_164 : decode cX8_digest 164 = .ok (.lstore_n 1, 1) := by decide +kernel
theorem dX8_digest_165 : decode cX8_digest 165 = .ok (.ldc2_w 204, 3) := by decide +kernel
theorem dX8_digest_168 : decode cX8_digest 168 = .ok (.lload_n 1, 1) := by decide +kernel
theorem dX8_digest_169 : decode cX8_digest 169 = .ok (.lmul, 1) := by decide +kernel
theorem dX8_digest_170 : decode cX8_digest 170 = .ok (.aload_n 0, 1) := by decide +kernel
theorem dX8_digest_171 : decode cX8_digest 171 = .ok (.getfield 21, 3) := by decide +kernel
theorem dX8_digest_174 : decode cX8_digest 174 = .ok (.getfield 115, 3) := by decide +kernel
theorem dX8_digest_177 : decode cX8_digest 177 = .ok (.invokevirtual 186, 3) := by decide +kernel
theorem dX8_digest_180 : decode cX8_digest 180 = .ok (.i2l, 1) := by decide +kernel
theorem dX8_digest_181 : decode cX8_digest 181 = .ok (.ladd, 1) := by decide +kernel
theorem dX8_digest_182 : decode cX8_digest 182 = .ok (.lstore_n 1, 1) := by decide +kernel
theorem dX8_digest_183 : decode cX8_digest 183 = .ok (.ldc2_w 204, 3) := by decide +kernel
theorem dX8_digest_186 : decode cX8_digest 186 = .ok (.lload_n 1, 1) := by decide +kernel
theorem dX8_digest_187 : decode cX8_digest 187 = .ok (.lmul, 1) := by decide +kernel
theorem dX8_digest_188 : decode cX8_digest 188 = .ok (.aload_n 0, 1) := by decide +kernel
theorem dX8_digest_189 : decode cX8_digest 189 = .ok (.getfield 21, 3) := by decide +kernel
theorem dX8_digest_192 : decode cX8_digest 192 = .ok (.getfield 115, 3) := by decide +kernel
theorem dX8_digest_195 : decode cX8_digest 195 = .ok (.invokevirtual 198, 3) := by decide +kernel
theorem dX8_digest_198 : decode cX8_digest 198 = .ok (.invokestatic 216, 3) := by decide +kernel
theorem dX8_digest_201 : decode cX8_digest 201 = .ok (.ladd, 1) := by decide +kernel
theorem dX8_digest_202 : decode cX8_digest 202 = .ok (.lstore_n 1, 1) := by decide +kernel
theorem dX8_digest_203 : decode cX8_digest 203 = .ok (.aload_n 0, 1) := by decide +kernel
theorem dX8_digest_204 : decode cX8_digest 204 = .ok (.lload_n 1, 1) := by decide +kernel
theorem dX8_digest_205 : decode cX8_digest 205 = .ok (.invokevirtual 220, 3) := by decide +kernel
theorem dX8_digest_208 : decode cX8_digest 208 = .ok (.lreturn, 1) := by decide +kernel
set_option maxRecDepth 20000 in
theorem ggX8_digest_X8_withText : GoodIn wsX8_digest wsX8_withText := goodIn_r _ [358, 2, 359, 360, 361, 362, 363, 364, 365, 366, 367, 368, 408, 409] (by decide +kernel) (by decide +kernel)
set_option maxRecDepth 20000 in
theorem gX8_digest_X8_withText : GoodIn wsX8_digest (wsV RX8 220 RX8 yX8_withText wsX8_withText) := goodIn_app (goodIn_of _ (by decide +kernel)) ggX8_digest_X8_withText
set_option maxRecDepth 20000 in
theorem ggX8_digest_X8_bitsOf : GoodIn wsX8_digest wsX8_bitsOf := goodIn_r _ [351, 352, 353, 354] (by decide +kernel) (by decide +kernel)
set_option maxRecDepth 20000 in
theorem gX8_digest_X8_bitsOf : GoodIn wsX8_digest (va_wsS RX8 216 yX8_bitsOf wsX8_bitsOf) := goodIn_app (goodIn_of _ (by decide +kernel)) ggX8_digest_X8_bitsOf
set_option maxRecDepth 20000 in
theorem ggX8_digest_X2_shareOfGood : GoodIn wsX8_digest wsX2_shareOfGood := goodIn_r _ [348, 78, 339, 20, 21, 22, 23, 24, 25, 26, 27, 28, 29, 30, 31, 381, 382, 383, 384, 385, 386, 387, 388, 389, 390, 391, 392, 393] (by decide +kernel) (by decide +kernel)
set_option maxRecDepth 20000 in
theorem gX8_digest_X2_shareOfGood : GoodIn wsX8_digest (wsV RX8 198 RX2 yX2_shareOfGood wsX2_shareOfGood) := goodIn_app (goodIn_of _ (by decide +kernel)) ggX8_digest_X2_shareOfGood
set_option maxRecDepth 20000 in
theorem ggX8_digest_X2_suspectLeg : GoodIn wsX8_digest wsX2_suspectLeg := goodIn_r _ [337, 85, 86, 24, 338, 309, 310, 22, 311, 78, 222, 103, 13, 104, 339, 20, 21, 23, 25, 26, 27, 28, 29, 30, 31, 340, 341, 342, 343, 252, 344, 305, 306, 307, 381, 382, 383, 384, 385, 386, 387, 388, 389, 390, 391, 392, 393, 369, 370, 371, 372, 373, 374, 375, 376] (by decide +kernel) (by decide +kernel)
set_option maxRecDepth 20000 in
theorem gX8_digest_X2_suspectLeg : GoodIn wsX8_digest (wsV RX8 186 RX2 yX2_suspectLeg wsX2_suspectLeg) := goodIn_app (goodIn_of _ (by decide +kernel)) ggX8_digest_X2_suspectLeg
set_option maxRecDepth 20000 in
theorem ggX8_digest_X2_worstLoop : GoodIn wsX8_digest wsX2_worstLoop := goodIn_r _ [333, 78, 233, 234, 235, 22, 236, 79, 80, 53, 54, 55, 237, 238, 239, 240, 85, 241, 223, 381, 382, 383, 384, 385, 386, 387, 388, 389, 390, 391, 392, 393, 369, 370, 371, 372, 373, 374, 375, 376] (by decide +kernel) (by decide +kernel)
set_option maxRecDepth 20000 in
theorem gX8_digest_X2_worstLoop : GoodIn wsX8_digest (wsV RX8 183 RX2 yX2_worstLoop wsX2_worstLoop) := goodIn_app (goodIn_of _ (by decide +kernel)) ggX8_digest_X2_worstLoop
set_option maxRecDepth 20000 in
theorem ggX8_digest_X8_withLoop : GoodIn wsX8_digest wsX8_withLoop := goodIn_r _ [325, 2, 7, 8, 326, 327, 328, 22, 329, 221, 222, 223, 79, 80, 53, 54, 55, 24, 246, 237, 238, 239, 240, 85, 241, 103, 13, 104, 362, 363, 364, 365, 366, 367, 368, 377, 378, 379, 380, 381, 382, 383, 384, 385, 386, 387, 388, 389, 390, 391, 392, 393, 369, 370, 371, 372, 373, 374, 375, 376] (by decide +kernel) (by decide +kernel)
set_option maxRecDepth 20000 in
theorem gX8_digest_X8_withLoop : GoodIn wsX8_digest (wsV RX8 213 RX8 yX8_withLoop wsX8_withLoop) := goodIn_app (goodIn_of _ (by decide +kernel)) ggX8_digest_X8_withLoop
set_option maxRecDepth 20000 in
theorem ggX8_digest_X8_withLeg : GoodIn wsX8_digest wsX8_withLeg := goodIn_r _ [288, 2, 7, 289, 290, 291, 112, 292, 114, 293, 294, 295, 296, 297, 177, 298, 118, 299, 103, 13, 104, 300, 301, 302, 22, 303, 78, 221, 304, 305, 306, 307, 222, 308, 309, 310, 311, 24, 312, 313, 314, 315, 156, 8, 9, 15, 19, 20, 21, 23, 25, 26, 27, 28, 29, 30, 31, 32, 33, 34, 35, 36, 37, 38, 39, 74, 75, 76, 77, 79, 80, 53, 54, 55, 316, 317, 318, 319, 3, 320, 321, 131, 132, 133, 134, 119, 116, 135, 136, 137, 138, 139, 140, 141, 142, 143, 99, 100, 95, 101, 97, 102, 144, 145, 146, 147, 148, 149, 150, 362, 363, 364, 365, 366, 367, 368, 377, 378, 379, 380, 369, 370, 371, 372, 373, 374, 375, 376, 381, 382, 383, 384, 385, 386, 387, 388, 389, 390, 391, 392, 393, 396, 397, 398, 399, 400, 401, 402, 403, 404, 405, 406, 407] (by decide +kernel) (by decide +kernel)
set_option maxRecDepth 20000 in
theorem gX8_digest_X8_withLeg : GoodIn wsX8_digest (wsV RX8 210 RX8 yX8_withLeg wsX8_withLeg) := goodIn_app (goodIn_of _ (by decide +kernel)) ggX8_digest_X8_withLeg
set_option maxRecDepth 20000 in
theorem ggX8_digest_X8_thinkAway : GoodIn wsX8_digest wsX8_thinkAway := goodIn_r _ [154, 155, 3, 156, 157, 158, 159, 95, 160, 161, 97, 162, 163, 164, 165, 166, 128, 129, 167, 102, 168, 169, 170, 171, 172, 173, 174, 175, 112, 176, 118, 177, 116, 178, 179, 180, 35, 181, 182, 37, 38, 39, 148, 183, 149, 150, 184, 185, 54, 186, 187, 188, 189, 190, 191, 192, 193, 194, 195, 196, 197, 198, 199, 200, 201, 202, 203, 141, 103, 13, 104, 204, 205, 206, 207, 208, 209, 210, 22, 211, 78, 24, 85, 86, 87, 212, 213, 214, 215, 216, 217, 218, 219, 220, 221, 222, 223, 224, 225, 79, 226, 138, 139, 140, 227, 99, 100, 101, 228, 229, 230, 231, 232, 233, 234, 235, 236, 80, 53, 55, 237, 238, 239, 240, 241, 242, 243, 244, 245, 246, 247, 248, 249, 250, 251, 252, 253, 254, 255, 256, 257, 258, 259, 260, 261, 262, 263, 264, 43, 265, 45, 46, 73, 66, 266, 65, 267, 51, 67, 268, 269, 270, 271, 272, 273, 274, 275, 276, 277, 278, 279, 280, 281, 282, 283, 284, 52, 56, 362, 363, 364, 365, 366, 367, 368, 369, 370, 371, 372, 373, 374, 375, 376, 377, 378, 379, 380, 396, 397, 398, 399, 400, 401, 381, 382, 383, 384, 385, 386, 387, 388, 389, 390, 391, 392, 393, 402, 403, 404, 405, 406, 407] (by decide +kernel) (by decide +kernel)
set_option maxRecDepth 20000 in
theorem gX8_digest_X8_thinkAway : GoodIn wsX8_digest (wsV RX8 189 RX8 yX8_thinkAway wsX8_thinkAway) := goodIn_app (goodIn_of _ (by decide +kernel)) ggX8_digest_X8_thinkAway
set_option maxRecDepth 20000 in
theorem ggX8_digest_X8_withMark : GoodIn wsX8_digest wsX8_withMark := goodIn_r _ [108, 2, 7, 109, 110, 111, 112, 113, 114, 115, 116, 117, 118, 119, 120, 121, 58, 59, 43, 60, 61, 62, 63, 64, 65, 66, 67, 122, 69, 70, 71, 72, 45, 51, 73, 123, 48, 49, 50, 52, 53, 54, 55, 56, 57, 68, 124, 125, 126, 95, 127, 97, 128, 129, 130, 131, 132, 133, 134, 135, 136, 137, 138, 139, 35, 140, 141, 142, 26, 27, 28, 29, 30, 31, 143, 99, 100, 101, 102, 103, 13, 104, 144, 145, 146, 147, 37, 148, 149, 150, 362, 363, 364, 365, 366, 367, 368, 377, 378, 379, 380, 369, 370, 371, 372, 373, 374, 375, 376, 396, 397, 398, 399, 400, 401, 402, 403, 404, 405, 406, 407] (by decide +kernel) (by decide +kernel)
set_option maxRecDepth 20000 in
theorem gX8_digest_X8_withMark : GoodIn wsX8_digest (wsV RX8 206 RX8 yX8_withMark wsX8_withMark) := goodIn_app (goodIn_of _ (by decide +kernel)) ggX8_digest_X8_withMark
set_option maxRecDepth 20000 in
theorem ggX8_digest_X8_counted : GoodIn wsX8_digest wsX8_counted := goodIn_r _ [14, 3, 5, 6, 7, 8, 9, 15, 16, 17, 18, 19, 20, 21, 22, 23, 24, 25, 26, 27, 28, 29, 30, 31, 32, 33, 34, 35, 36, 37, 38, 39, 40, 41, 42, 43, 44, 45, 46, 47, 48, 49, 50, 51, 52, 53, 54, 55, 56, 57, 58, 59, 60, 61, 62, 63, 64, 65, 66, 67, 68, 69, 70, 71, 72, 73, 74, 75, 76, 77, 78, 79, 80, 81, 82, 83, 84, 85, 86, 87, 88, 89, 90, 91, 92, 93, 94, 95, 96, 97, 98, 99, 100, 101, 102, 103, 13, 104, 362, 363, 364, 365, 366, 367, 368, 369, 370, 371, 372, 373, 374, 375, 376, 377, 378, 379, 380, 381, 382, 383, 384, 385, 386, 387, 388, 389, 390, 391, 392, 393, 394, 395, 396, 397, 398, 399, 400, 401, 402, 403, 404, 405, 406, 407] (by decide +kernel) (by decide +kernel)
set_option maxRecDepth 20000 in
theorem gX8_digest_X8_counted : GoodIn wsX8_digest (wsV RX8 180 RX8 yX8_counted wsX8_counted) := goodIn_app (goodIn_of _ (by decide +kernel)) ggX8_digest_X8_counted
def D_X8_digest : Md := (yX8_digest, cX8_digest, 4, (some .long), wsX8_digest, RX8, { frames := 6, cells := 0, slots := 0, locals := 136 })
theorem nm_X8_digest : nmD D_X8_digest 0 := ⟨rfl, by decide +kernel, by decide +kernel, by decide +kernel⟩
theorem hi_X8_digest_X2 : ∀ w ∈ u_ws RX2 TX2 13, w ∈ wsX8_digest := by decide +kernel
theorem hi_X8_digest_X4 : ∀ w ∈ u_ws RX4 TX4 4, w ∈ wsX8_digest := by decide +kernel
theorem hi_X8_digest_X5 : ∀ w ∈ u_ws RX5 TX5 8, w ∈ wsX8_digest := by decide +kernel
theorem hi_X8_digest_X8 : ∀ w ∈ u_ws RX8 TX8 7, w ∈ wsX8_digest := by decide +kernel
theorem hl_X8_digest_10 : Cond.fieldLink RX8 10 "LevelLoops" "survey" "LLevelLoops$Survey;" ∈ wsX8_digest := by decide +kernel
theorem hl_X8_digest_21 : Cond.fieldLink RX8 21 "LevelLoops" "study" "LLevelLoops$Study;" ∈ wsX8_digest := by decide +kernel
theorem hl_X8_digest_59 : Cond.fieldLink RX8 59 "LevelLoops$Survey" "marks" "I" ∈ wsX8_digest := by decide +kernel
theorem hl_X8_digest_105 : Cond.fieldLink RX8 105 "LevelLoops$Survey" "legs" "I" ∈ wsX8_digest := by decide +kernel
theorem hl_X8_digest_115 : Cond.fieldLink RX8 115 "LevelLoops$Study" "loops" "LLevelLoops$Loops;" ∈ wsX8_digest := by decide +kernel
theorem hl_X8_digest_139 : Cond.fieldLink RX8 139 "LevelLoops$Loops" "size" "I" ∈ wsX8_digest := by decide +kernel
theorem hl_X8_digest_145 : Cond.fieldLink RX8 145 "LevelLoops$Survey" "settings" "[I" ∈ wsX8_digest := by decide +kernel
def wp_X8_digest_B120 (x1 : Int64) (x3 : Int32) (w : Wd) (Q : Int64 → Wd → Prop) (K120 : Int64 → Int32 → Prop) : Prop :=
  (((wi w 0 12 0) ≤ x3 → wp_X2_worstLoop 0 w (fun r159 => wp_X2_suspectLeg 0 w (fun r177 => wp_X2_shareOfGood 0 w (fun r195 => wp_X8_bitsOf r195 (fun r198 => wp_X8_withText (((31 : Int64) * (((31 : Int64) * (((31 : Int64) * x1) + r159.toInt64)) + r177.toInt64)) + r198) w (fun r205 => Q r205 w)))))) ∧ (¬ (wi w 0 12 0) ≤ x3 → wp_X8_withLoop x1 x3 w (fun r137 => K120 r137 (x3 + 1))))
def wp_X8_digest_L120 (x1 : Int64) (x3 : Int32) (w : Wd) (Q : Int64 → Wd → Prop) : Prop :=
  ∃ (I : Int64 → Int32 → Prop) (μ : Int64 → Int32 → Nat), I x1 x3 ∧ ∀ (x1 : Int64) (x3 : Int32), I x1 x3 → wp_X8_digest_B120 x1 x3 w Q (fun x1' x3' => I x1' x3' ∧ μ x1' x3' < μ x1 x3)
def wp_X8_digest_B89 (x1 : Int64) (x3 : Int32) (w : Wd) (Q : Int64 → Wd → Prop) (K89 : Int64 → Int32 → Wd → Prop) : Prop :=
  (((wi w 0 0 1) ≤ x3 → wp_X8_digest_L120 x1 (0 : Int32) w Q) ∧ (¬ (wi w 0 0 1) ≤ x3 → wp_X8_thinkAway x3 w (fun w102 => wp_X8_withLeg x1 x3 w102 (fun r108 => K89 r108 (x3 + 1) w102))))
def wp_X8_digest_L89 (x1 : Int64) (x3 : Int32) (w : Wd) (Q : Int64 → Wd → Prop) : Prop :=
  ∃ (I : Int64 → Int32 → Wd → Prop) (μ : Int64 → Int32 → Wd → Nat), I x1 x3 w ∧ ∀ (x1 : Int64) (x3 : Int32) (w : Wd), I x1 x3 w → wp_X8_digest_B89 x1 x3 w Q (fun x1' x3' w' => I x1' x3' w' ∧ μ x1' x3' w' < μ x1 x3 w)
def wp_X8_digest_B63 (x1 : Int64) (x3 : Int32) (w : Wd) (Q : Int64 → Wd → Prop) (K63 : Int64 → Int32 → Prop) : Prop :=
  (((wi w 0 0 0) ≤ x3 → wp_X8_digest_L89 x1 (0 : Int32) w Q) ∧ (¬ (wi w 0 0 0) ≤ x3 → wp_X8_withMark x1 x3 w (fun r77 => K63 r77 (x3 + 1))))
def wp_X8_digest_L63 (x1 : Int64) (x3 : Int32) (w : Wd) (Q : Int64 → Wd → Prop) : Prop :=
  ∃ (I : Int64 → Int32 → Prop) (μ : Int64 → Int32 → Nat), I x1 x3 ∧ ∀ (x1 : Int64) (x3 : Int32), I x1 x3 → wp_X8_digest_B63 x1 x3 w Q (fun x1' x3' => I x1' x3' ∧ μ x1' x3' < μ x1 x3)
def wp_X8_digest_B33 (x1 : Int64) (x3 : Int32) (w : Wd) (Q : Int64 → Wd → Prop) (K33 : Int64 → Int32 → Prop) : Prop :=
  (((3 : Int32) ≤ x3 → wp_X8_digest_L63 x1 (0 : Int32) w Q) ∧ (¬ (3 : Int32) ≤ x3 → vp_in x3 3 ∧ K33 (((31 : Int64) * x1) + ((wi w 0 6 x3.toNatClampNeg).toInt64)) (x3 + 1)))
def wp_X8_digest_L33 (x1 : Int64) (x3 : Int32) (w : Wd) (Q : Int64 → Wd → Prop) : Prop :=
  ∃ (I : Int64 → Int32 → Prop) (μ : Int64 → Int32 → Nat), I x1 x3 ∧ ∀ (x1 : Int64) (x3 : Int32), I x1 x3 → wp_X8_digest_B33 x1 x3 w Q (fun x1' x3' => I x1' x3' ∧ μ x1' x3' < μ x1 x3)
def wp_X8_digest_B6 (x1 : Int64) (x3 : Int32) (w : Wd) (Q : Int64 → Wd → Prop) (K6 : Int64 → Int32 → Prop) : Prop :=
  (((11 : Int32) ≤ x3 → wp_X8_digest_L33 x1 (0 : Int32) w Q) ∧ (¬ (11 : Int32) ≤ x3 → wp_X8_counted x3 w (fun r19 => K6 (((31 : Int64) * x1) + r19.toInt64) (x3 + 1))))
def wp_X8_digest_L6 (x1 : Int64) (x3 : Int32) (w : Wd) (Q : Int64 → Wd → Prop) : Prop :=
  ∃ (I : Int64 → Int32 → Prop) (μ : Int64 → Int32 → Nat), I x1 x3 ∧ ∀ (x1 : Int64) (x3 : Int32), I x1 x3 → wp_X8_digest_B6 x1 x3 w Q (fun x1' x3' => I x1' x3' ∧ μ x1' x3' < μ x1 x3)
def wp_X8_digest (w : Wd) (Q : Int64 → Wd → Prop) : Prop :=
  wp_X8_digest_L6 (2741 : Int64) (0 : Int32) w Q
theorem ok_X8_digest_B120 {G : Gt} {M : Mx} {Qf : State → Prop} {x1 : Int64} {x3 : Int32} {w : Wd} {Q : Int64 → Wd → Prop} {K120 : Int64 → Int32 → Prop} (hC : cx G D_X8_digest M) (he : en G M (ql Q) Qf) (h : wp_X8_digest_B120 x1 x3 w Q K120) (hK120 : ∀ (x1 : Int64) (x3 : Int32), K120 x1 x3 → jq G D_X8_digest M Qf 120 [(0, .ref (aD G 0 26)), (1, .long x1), (3, .int x3)] [] w) : jq G D_X8_digest M Qf 120 [(0, .ref (aD G 0 26)), (1, .long x1), (3, .int x3)] [] w := by
  unfold wp_X8_digest_B120 at h
  refine jq_iload_n (k0 := 2) dX8_digest_120 hC rfl rfl ?_
  refine jq_aload_n (k0 := 0) dX8_digest_121 hC rfl rfl ?_
  refine jq_get (k0 := 1) (n := 0) (o := 26) dX8_digest_122 hC (cl_0 (by decide)) rfl rfl hi_X8_digest_X8 (by decide) hl_X8_digest_21 rfl rfl ?_
  refine jq_get (k0 := 1) (n := 0) (o := 7) dX8_digest_125 hC (cl_0 (by decide)) rfl rfl hi_X8_digest_X4 (by decide) hl_X8_digest_115 rfl rfl ?_
  refine jq_get (k0 := 0) (n := 0) (o := 12) dX8_digest_128 hC (cl_0 (by decide)) rfl rfl hi_X8_digest_X2 (by decide) hl_X8_digest_139 rfl rfl ?_
  refine jq_icmp_ge (tgt := 147) dX8_digest_131 hC (by decide) (fun c131 => ?_) (fun c131 => ?_)
  · have h := h.1 c131
    refine jq_ldc2 (v := (31 : Int64)) dX8_digest_147 hC (by decide +kernel) ?_
    refine jq_lload_n (k0 := 1) dX8_digest_150 hC rfl rfl ?_
    refine jq_lmul dX8_digest_151 hC ?_
    refine jq_aload_n (k0 := 0) dX8_digest_152 hC rfl rfl ?_
    refine jq_get (k0 := 1) (n := 0) (o := 26) dX8_digest_153 hC (cl_0 (by decide)) rfl rfl hi_X8_digest_X8 (by decide) hl_X8_digest_21 rfl rfl ?_
    refine jq_get (k0 := 1) (n := 0) (o := 7) dX8_digest_156 hC (cl_0 (by decide)) rfl rfl hi_X8_digest_X4 (by decide) hl_X8_digest_115 rfl rfl ?_
    refine jq_callV (As := []) (rest := [.long ((31 : Int64) * x1)]) (n := 0) (o := 12) (D' := D_X2_worstLoop) dX8_digest_159 hC (cl_0 (by decide)) rfl rfl rfl (mt_X2_worstLoop (by omega) h) gX8_digest_X2_worstLoop rfl ⟨rfl, rfl, Nat.le_of_ble_eq_true rfl, Nat.le_of_ble_eq_true rfl⟩ nm_X2_worstLoop rfl (Nat.le_of_ble_eq_true rfl) (kIp fun r159 h => ?_)
    refine jq_i2l dX8_digest_162 hC ?_
    refine jq_ladd dX8_digest_163 hC ?_
    refine jq_lstore_n (L' := [(1, .long (((31 : Int64) * x1) + r159.toInt64)), (0, .ref (aD G 0 26)), (3, .int x3)]) dX8_digest_164 hC rfl (by decide) rfl ?_
    refine jq_ldc2 (v := (31 : Int64)) dX8_digest_165 hC (by decide +kernel) ?_
    refine jq_lload_n (k0 := 0) dX8_digest_168 hC rfl rfl ?_
    refine jq_lmul dX8_digest_169 hC ?_
    refine jq_aload_n (k0 := 1) dX8_digest_170 hC rfl rfl ?_
    refine jq_get (k0 := 1) (n := 0) (o := 26) dX8_digest_171 hC (cl_0 (by decide)) rfl rfl hi_X8_digest_X8 (by decide) hl_X8_digest_21 rfl rfl ?_
    refine jq_get (k0 := 1) (n := 0) (o := 7) dX8_digest_174 hC (cl_0 (by decide)) rfl rfl hi_X8_digest_X4 (by decide) hl_X8_digest_115 rfl rfl ?_
    refine jq_callV (As := []) (rest := [.long ((31 : Int64) * (((31 : Int64) * x1) + r159.toInt64))]) (n := 0) (o := 12) (D' := D_X2_suspectLeg) dX8_digest_177 hC (cl_0 (by decide)) rfl rfl rfl (mt_X2_suspectLeg (by omega) h) gX8_digest_X2_suspectLeg rfl ⟨rfl, rfl, Nat.le_of_ble_eq_true rfl, Nat.le_of_ble_eq_true rfl⟩ nm_X2_suspectLeg rfl (Nat.le_of_ble_eq_true rfl) (kIp fun r177 h => ?_)
    refine jq_i2l dX8_digest_180 hC ?_
    refine jq_ladd dX8_digest_181 hC ?_
    refine jq_lstore_n (L' := [(1, .long (((31 : Int64) * (((31 : Int64) * x1) + r159.toInt64)) + r177.toInt64)), (0, .ref (aD G 0 26)), (3, .int x3)]) dX8_digest_182 hC rfl (by decide) rfl ?_
    refine jq_ldc2 (v := (31 : Int64)) dX8_digest_183 hC (by decide +kernel) ?_
    refine jq_lload_n (k0 := 0) dX8_digest_186 hC rfl rfl ?_
    refine jq_lmul dX8_digest_187 hC ?_
    refine jq_aload_n (k0 := 1) dX8_digest_188 hC rfl rfl ?_
    refine jq_get (k0 := 1) (n := 0) (o := 26) dX8_digest_189 hC (cl_0 (by decide)) rfl rfl hi_X8_digest_X8 (by decide) hl_X8_digest_21 rfl rfl ?_
    refine jq_get (k0 := 1) (n := 0) (o := 7) dX8_digest_192 hC (cl_0 (by decide)) rfl rfl hi_X8_digest_X4 (by decide) hl_X8_digest_115 rfl rfl ?_
    refine jq_callV (As := []) (rest := [.long ((31 : Int64) * (((31 : Int64) * (((31 : Int64) * x1) + r159.toInt64)) + r177.toInt64))]) (n := 0) (o := 12) (D' := D_X2_shareOfGood) dX8_digest_195 hC (cl_0 (by decide)) rfl rfl rfl (mt_X2_shareOfGood (by omega) h) gX8_digest_X2_shareOfGood rfl ⟨rfl, rfl, Nat.le_of_ble_eq_true rfl, Nat.le_of_ble_eq_true rfl⟩ nm_X2_shareOfGood rfl (Nat.le_of_ble_eq_true rfl) (kDp fun r195 h => ?_)
    refine jq_callS (As := [.double r195]) (rest := [.long ((31 : Int64) * (((31 : Int64) * (((31 : Int64) * x1) + r159.toInt64)) + r177.toInt64))]) (D' := D_X8_bitsOf) dX8_digest_198 hC (mt_X8_bitsOf h) gX8_digest_X8_bitsOf rfl ⟨rfl, rfl, Nat.le_of_ble_eq_true rfl, Nat.le_of_ble_eq_true rfl⟩ nm_X8_bitsOf rfl (Nat.le_of_ble_eq_true rfl) (kLp fun r198 h => ?_)
    refine jq_ladd dX8_digest_201 hC ?_
    refine jq_lstore_n (L' := [(1, .long (((31 : Int64) * (((31 : Int64) * (((31 : Int64) * x1) + r159.toInt64)) + r177.toInt64)) + r198)), (0, .ref (aD G 0 26)), (3, .int x3)]) dX8_digest_202 hC rfl (by decide) rfl ?_
    refine jq_aload_n (k0 := 1) dX8_digest_203 hC rfl rfl ?_
    refine jq_lload_n (k0 := 0) dX8_digest_204 hC rfl rfl ?_
    refine jq_callV (As := [.long (((31 : Int64) * (((31 : Int64) * (((31 : Int64) * x1) + r159.toInt64)) + r177.toInt64)) + r198)]) (rest := []) (n := 0) (o := 26) (D' := D_X8_withText) dX8_digest_205 hC (cl_0 (by decide)) rfl rfl rfl (mt_X8_withText h) gX8_digest_X8_withText rfl ⟨rfl, rfl, Nat.le_of_ble_eq_true rfl, Nat.le_of_ble_eq_true rfl⟩ nm_X8_withText rfl (Nat.le_of_ble_eq_true rfl) (kLp fun r205 h => ?_)
    exact jq_lret dX8_digest_208 hC he rfl ⟨_, rfl, h⟩
  · have h := h.2 c131
    refine jq_aload_n (k0 := 0) dX8_digest_134 hC rfl rfl ?_
    refine jq_lload_n (k0 := 1) dX8_digest_135 hC rfl rfl ?_
    refine jq_iload_n (k0 := 2) dX8_digest_136 hC rfl rfl ?_
    refine jq_callV (As := [.long x1, .int x3]) (rest := []) (n := 0) (o := 26) (D' := D_X8_withLoop) dX8_digest_137 hC (cl_0 (by decide)) rfl rfl rfl (mt_X8_withLoop h) gX8_digest_X8_withLoop rfl ⟨rfl, rfl, Nat.le_of_ble_eq_true rfl, Nat.le_of_ble_eq_true rfl⟩ nm_X8_withLoop rfl (Nat.le_of_ble_eq_true rfl) (kLp fun r137 h => ?_)
    refine jq_lstore_n (L' := [(1, .long r137), (0, .ref (aD G 0 26)), (3, .int x3)]) dX8_digest_140 hC rfl (by decide) rfl ?_
    refine jq_iinc (k0 := 2) (v := (x3 + 1)) (L' := [(3, .int (x3 + 1)), (1, .long r137), (0, .ref (aD G 0 26))]) dX8_digest_141 hC rfl rfl (by decide) rfl ?_
    refine jq_goto (tgt := 120) dX8_digest_144 hC (by decide) ?_
    exact jq_less (L' := [(0, .ref (aD G 0 26)), (1, .long r137), (3, .int (x3 + 1))]) [2, 1, 0] rfl (hK120 _ _ h)
theorem ok_X8_digest_L120 {G : Gt} {M : Mx} {Qf : State → Prop} {x1 : Int64} {x3 : Int32} {w : Wd} {Q : Int64 → Wd → Prop} (hC : cx G D_X8_digest M) (he : en G M (ql Q) Qf) (h : wp_X8_digest_L120 x1 x3 w Q) : jq G D_X8_digest M Qf 120 [(0, .ref (aD G 0 26)), (1, .long x1), (3, .int x3)] [] w := by
  unfold wp_X8_digest_L120 at h
  obtain ⟨I, μ, h0, hs⟩ := h
  exact lp_ind (σ := Int64 × Int32) (P := fun s => jq G D_X8_digest M Qf 120 [(0, .ref (aD G 0 26)), (1, .long s.1), (3, .int s.2)] [] w) (fun s => I s.1 s.2) (fun s => μ s.1 s.2) (fun s h1 ih => ok_X8_digest_B120 hC he (hs s.1 s.2 h1) (fun x1' x3' h => ih (x1', x3') h.1 h.2)) (x1, x3) h0
theorem ok_X8_digest_B89 {G : Gt} {M : Mx} {Qf : State → Prop} {x1 : Int64} {x3 : Int32} {w : Wd} {Q : Int64 → Wd → Prop} {K89 : Int64 → Int32 → Wd → Prop} (hC : cx G D_X8_digest M) (he : en G M (ql Q) Qf) (h : wp_X8_digest_B89 x1 x3 w Q K89) (hK89 : ∀ (x1 : Int64) (x3 : Int32) (w : Wd), K89 x1 x3 w → jq G D_X8_digest M Qf 89 [(0, .ref (aD G 0 26)), (1, .long x1), (3, .int x3)] [] w) : jq G D_X8_digest M Qf 89 [(0, .ref (aD G 0 26)), (1, .long x1), (3, .int x3)] [] w := by
  unfold wp_X8_digest_B89 at h
  refine jq_iload_n (k0 := 2) dX8_digest_89 hC rfl rfl ?_
  refine jq_aload_n (k0 := 0) dX8_digest_90 hC rfl rfl ?_
  refine jq_get (k0 := 0) (n := 0) (o := 26) dX8_digest_91 hC (cl_0 (by decide)) rfl rfl hi_X8_digest_X8 (by decide) hl_X8_digest_10 rfl rfl ?_
  refine jq_get (k0 := 1) (n := 0) (o := 0) dX8_digest_94 hC (cl_0 (by decide)) rfl rfl hi_X8_digest_X5 (by decide) hl_X8_digest_105 rfl rfl ?_
  refine jq_icmp_ge (tgt := 118) dX8_digest_97 hC (by decide) (fun c97 => ?_) (fun c97 => ?_)
  · have h := h.1 c97
    refine jq_iconst (v := (0 : Int32)) dX8_digest_118 hC (by decide) ?_
    refine jq_istore_n (L' := [(3, .int (0 : Int32)), (0, .ref (aD G 0 26)), (1, .long x1)]) dX8_digest_119 hC rfl (by decide) rfl ?_
    refine jq_less (L' := [(0, .ref (aD G 0 26)), (1, .long x1), (3, .int (0 : Int32))]) [1, 2, 0] rfl ?_
    exact ok_X8_digest_L120 hC he h
  · have h := h.2 c97
    refine jq_aload_n (k0 := 0) dX8_digest_100 hC rfl rfl ?_
    refine jq_iload_n (k0 := 2) dX8_digest_101 hC rfl rfl ?_
    refine jq_callV (As := [.int x3]) (rest := []) (n := 0) (o := 26) (D' := D_X8_thinkAway) dX8_digest_102 hC (cl_0 (by decide)) rfl rfl rfl (mt_X8_thinkAway h) gX8_digest_X8_thinkAway rfl ⟨rfl, rfl, Nat.le_of_ble_eq_true rfl, Nat.le_of_ble_eq_true rfl⟩ nm_X8_thinkAway rfl (Nat.le_of_ble_eq_true rfl) (kV fun w102 h => ?_)
    refine jq_aload_n (k0 := 0) dX8_digest_105 hC rfl rfl ?_
    refine jq_lload_n (k0 := 1) dX8_digest_106 hC rfl rfl ?_
    refine jq_iload_n (k0 := 2) dX8_digest_107 hC rfl rfl ?_
    refine jq_callV (As := [.long x1, .int x3]) (rest := []) (n := 0) (o := 26) (D' := D_X8_withLeg) dX8_digest_108 hC (cl_0 (by decide)) rfl rfl rfl (mt_X8_withLeg h) gX8_digest_X8_withLeg rfl ⟨rfl, rfl, Nat.le_of_ble_eq_true rfl, Nat.le_of_ble_eq_true rfl⟩ nm_X8_withLeg rfl (Nat.le_of_ble_eq_true rfl) (kLp fun r108 h => ?_)
    refine jq_lstore_n (L' := [(1, .long r108), (0, .ref (aD G 0 26)), (3, .int x3)]) dX8_digest_111 hC rfl (by decide) rfl ?_
    refine jq_iinc (k0 := 2) (v := (x3 + 1)) (L' := [(3, .int (x3 + 1)), (1, .long r108), (0, .ref (aD G 0 26))]) dX8_digest_112 hC rfl rfl (by decide) rfl ?_
    refine jq_goto (tgt := 89) dX8_digest_115 hC (by decide) ?_
    exact jq_less (L' := [(0, .ref (aD G 0 26)), (1, .long r108), (3, .int (x3 + 1))]) [2, 1, 0] rfl (hK89 _ _ _ h)
theorem ok_X8_digest_L89 {G : Gt} {M : Mx} {Qf : State → Prop} {x1 : Int64} {x3 : Int32} {w : Wd} {Q : Int64 → Wd → Prop} (hC : cx G D_X8_digest M) (he : en G M (ql Q) Qf) (h : wp_X8_digest_L89 x1 x3 w Q) : jq G D_X8_digest M Qf 89 [(0, .ref (aD G 0 26)), (1, .long x1), (3, .int x3)] [] w := by
  unfold wp_X8_digest_L89 at h
  obtain ⟨I, μ, h0, hs⟩ := h
  exact lp_ind (σ := Int64 × Int32 × Wd) (P := fun s => jq G D_X8_digest M Qf 89 [(0, .ref (aD G 0 26)), (1, .long s.1), (3, .int s.2.1)] [] s.2.2) (fun s => I s.1 s.2.1 s.2.2) (fun s => μ s.1 s.2.1 s.2.2) (fun s h1 ih => ok_X8_digest_B89 hC he (hs s.1 s.2.1 s.2.2 h1) (fun x1' x3' w' h => ih (x1', x3', w') h.1 h.2)) (x1, x3, w) h0
theorem ok_X8_digest_B63 {G : Gt} {M : Mx} {Qf : State → Prop} {x1 : Int64} {x3 : Int32} {w : Wd} {Q : Int64 → Wd → Prop} {K63 : Int64 → Int32 → Prop} (hC : cx G D_X8_digest M) (he : en G M (ql Q) Qf) (h : wp_X8_digest_B63 x1 x3 w Q K63) (hK63 : ∀ (x1 : Int64) (x3 : Int32), K63 x1 x3 → jq G D_X8_digest M Qf 63 [(0, .ref (aD G 0 26)), (1, .long x1), (3, .int x3)] [] w) : jq G D_X8_digest M Qf 63 [(0, .ref (aD G 0 26)), (1, .long x1), (3, .int x3)] [] w := by
  unfold wp_X8_digest_B63 at h
  refine jq_iload_n (k0 := 2) dX8_digest_63 hC rfl rfl ?_
  refine jq_aload_n (k0 := 0) dX8_digest_64 hC rfl rfl ?_
  refine jq_get (k0 := 0) (n := 0) (o := 26) dX8_digest_65 hC (cl_0 (by decide)) rfl rfl hi_X8_digest_X8 (by decide) hl_X8_digest_10 rfl rfl ?_
  refine jq_get (k0 := 0) (n := 0) (o := 0) dX8_digest_68 hC (cl_0 (by decide)) rfl rfl hi_X8_digest_X5 (by decide) hl_X8_digest_59 rfl rfl ?_
  refine jq_icmp_ge (tgt := 87) dX8_digest_71 hC (by decide) (fun c71 => ?_) (fun c71 => ?_)
  · have h := h.1 c71
    refine jq_iconst (v := (0 : Int32)) dX8_digest_87 hC (by decide) ?_
    refine jq_istore_n (L' := [(3, .int (0 : Int32)), (0, .ref (aD G 0 26)), (1, .long x1)]) dX8_digest_88 hC rfl (by decide) rfl ?_
    refine jq_less (L' := [(0, .ref (aD G 0 26)), (1, .long x1), (3, .int (0 : Int32))]) [1, 2, 0] rfl ?_
    exact ok_X8_digest_L89 hC he h
  · have h := h.2 c71
    refine jq_aload_n (k0 := 0) dX8_digest_74 hC rfl rfl ?_
    refine jq_lload_n (k0 := 1) dX8_digest_75 hC rfl rfl ?_
    refine jq_iload_n (k0 := 2) dX8_digest_76 hC rfl rfl ?_
    refine jq_callV (As := [.long x1, .int x3]) (rest := []) (n := 0) (o := 26) (D' := D_X8_withMark) dX8_digest_77 hC (cl_0 (by decide)) rfl rfl rfl (mt_X8_withMark h) gX8_digest_X8_withMark rfl ⟨rfl, rfl, Nat.le_of_ble_eq_true rfl, Nat.le_of_ble_eq_true rfl⟩ nm_X8_withMark rfl (Nat.le_of_ble_eq_true rfl) (kLp fun r77 h => ?_)
    refine jq_lstore_n (L' := [(1, .long r77), (0, .ref (aD G 0 26)), (3, .int x3)]) dX8_digest_80 hC rfl (by decide) rfl ?_
    refine jq_iinc (k0 := 2) (v := (x3 + 1)) (L' := [(3, .int (x3 + 1)), (1, .long r77), (0, .ref (aD G 0 26))]) dX8_digest_81 hC rfl rfl (by decide) rfl ?_
    refine jq_goto (tgt := 63) dX8_digest_84 hC (by decide) ?_
    exact jq_less (L' := [(0, .ref (aD G 0 26)), (1, .long r77), (3, .int (x3 + 1))]) [2, 1, 0] rfl (hK63 _ _ h)
theorem ok_X8_digest_L63 {G : Gt} {M : Mx} {Qf : State → Prop} {x1 : Int64} {x3 : Int32} {w : Wd} {Q : Int64 → Wd → Prop} (hC : cx G D_X8_digest M) (he : en G M (ql Q) Qf) (h : wp_X8_digest_L63 x1 x3 w Q) : jq G D_X8_digest M Qf 63 [(0, .ref (aD G 0 26)), (1, .long x1), (3, .int x3)] [] w := by
  unfold wp_X8_digest_L63 at h
  obtain ⟨I, μ, h0, hs⟩ := h
  exact lp_ind (σ := Int64 × Int32) (P := fun s => jq G D_X8_digest M Qf 63 [(0, .ref (aD G 0 26)), (1, .long s.1), (3, .int s.2)] [] w) (fun s => I s.1 s.2) (fun s => μ s.1 s.2) (fun s h1 ih => ok_X8_digest_B63 hC he (hs s.1 s.2 h1) (fun x1' x3' h => ih (x1', x3') h.1 h.2)) (x1, x3) h0
theorem ok_X8_digest_B33 {G : Gt} {M : Mx} {Qf : State → Prop} {x1 : Int64} {x3 : Int32} {w : Wd} {Q : Int64 → Wd → Prop} {K33 : Int64 → Int32 → Prop} (hC : cx G D_X8_digest M) (he : en G M (ql Q) Qf) (h : wp_X8_digest_B33 x1 x3 w Q K33) (hK33 : ∀ (x1 : Int64) (x3 : Int32), K33 x1 x3 → jq G D_X8_digest M Qf 33 [(0, .ref (aD G 0 26)), (1, .long x1), (3, .int x3)] [] w) : jq G D_X8_digest M Qf 33 [(0, .ref (aD G 0 26)), (1, .long x1), (3, .int x3)] [] w := by
  unfold wp_X8_digest_B33 at h
  refine jq_iload_n (k0 := 2) dX8_digest_33 hC rfl rfl ?_
  refine jq_iconst (v := (3 : Int32)) dX8_digest_34 hC (by decide) ?_
  refine jq_icmp_ge (tgt := 61) dX8_digest_35 hC (by decide) (fun c35 => ?_) (fun c35 => ?_)
  · have h := h.1 c35
    refine jq_iconst (v := (0 : Int32)) dX8_digest_61 hC (by decide) ?_
    refine jq_istore_n (L' := [(3, .int (0 : Int32)), (0, .ref (aD G 0 26)), (1, .long x1)]) dX8_digest_62 hC rfl (by decide) rfl ?_
    refine jq_less (L' := [(0, .ref (aD G 0 26)), (1, .long x1), (3, .int (0 : Int32))]) [1, 2, 0] rfl ?_
    exact ok_X8_digest_L63 hC he h
  · have h := h.2 c35
    refine jq_ldc2 (v := (31 : Int64)) dX8_digest_38 hC (by decide +kernel) ?_
    refine jq_lload_n (k0 := 1) dX8_digest_41 hC rfl rfl ?_
    refine jq_lmul dX8_digest_42 hC ?_
    refine jq_aload_n (k0 := 0) dX8_digest_43 hC rfl rfl ?_
    refine jq_get (k0 := 0) (n := 0) (o := 26) dX8_digest_44 hC (cl_0 (by decide)) rfl rfl hi_X8_digest_X8 (by decide) hl_X8_digest_10 rfl rfl ?_
    refine jq_get (k0 := 7) (n := 0) (o := 0) dX8_digest_47 hC (cl_0 (by decide)) rfl rfl hi_X8_digest_X5 (by decide) hl_X8_digest_145 rfl rfl ?_
    refine jq_iload_n (k0 := 2) dX8_digest_50 hC rfl rfl ?_
    obtain ⟨b51, h⟩ := h
    refine jq_iald (n := 0) (o := 6) (j := x3.toNatClampNeg) dX8_digest_51 hC (cl_0 (by decide)) rfl b51 rfl ?_
    refine jq_i2l dX8_digest_52 hC ?_
    refine jq_ladd dX8_digest_53 hC ?_
    refine jq_lstore_n (L' := [(1, .long (((31 : Int64) * x1) + ((wi w 0 6 x3.toNatClampNeg).toInt64))), (0, .ref (aD G 0 26)), (3, .int x3)]) dX8_digest_54 hC rfl (by decide) rfl ?_
    refine jq_iinc (k0 := 2) (v := (x3 + 1)) (L' := [(3, .int (x3 + 1)), (1, .long (((31 : Int64) * x1) + ((wi w 0 6 x3.toNatClampNeg).toInt64))), (0, .ref (aD G 0 26))]) dX8_digest_55 hC rfl rfl (by decide) rfl ?_
    refine jq_goto (tgt := 33) dX8_digest_58 hC (by decide) ?_
    exact jq_less (L' := [(0, .ref (aD G 0 26)), (1, .long (((31 : Int64) * x1) + ((wi w 0 6 x3.toNatClampNeg).toInt64))), (3, .int (x3 + 1))]) [2, 1, 0] rfl (hK33 _ _ h)
theorem ok_X8_digest_L33 {G : Gt} {M : Mx} {Qf : State → Prop} {x1 : Int64} {x3 : Int32} {w : Wd} {Q : Int64 → Wd → Prop} (hC : cx G D_X8_digest M) (he : en G M (ql Q) Qf) (h : wp_X8_digest_L33 x1 x3 w Q) : jq G D_X8_digest M Qf 33 [(0, .ref (aD G 0 26)), (1, .long x1), (3, .int x3)] [] w := by
  unfold wp_X8_digest_L33 at h
  obtain ⟨I, μ, h0, hs⟩ := h
  exact lp_ind (σ := Int64 × Int32) (P := fun s => jq G D_X8_digest M Qf 33 [(0, .ref (aD G 0 26)), (1, .long s.1), (3, .int s.2)] [] w) (fun s => I s.1 s.2) (fun s => μ s.1 s.2) (fun s h1 ih => ok_X8_digest_B33 hC he (hs s.1 s.2 h1) (fun x1' x3' h => ih (x1', x3') h.1 h.2)) (x1, x3) h0
theorem ok_X8_digest_B6 {G : Gt} {M : Mx} {Qf : State → Prop} {x1 : Int64} {x3 : Int32} {w : Wd} {Q : Int64 → Wd → Prop} {K6 : Int64 → Int32 → Prop} (hC : cx G D_X8_digest M) (he : en G M (ql Q) Qf) (h : wp_X8_digest_B6 x1 x3 w Q K6) (hK6 : ∀ (x1 : Int64) (x3 : Int32), K6 x1 x3 → jq G D_X8_digest M Qf 6 [(0, .ref (aD G 0 26)), (1, .long x1), (3, .int x3)] [] w) : jq G D_X8_digest M Qf 6 [(0, .ref (aD G 0 26)), (1, .long x1), (3, .int x3)] [] w := by
  unfold wp_X8_digest_B6 at h
  refine jq_iload_n (k0 := 2) dX8_digest_6 hC rfl rfl ?_
  refine jq_bipush (v := (11 : Int32)) dX8_digest_7 hC (by decide) ?_
  refine jq_icmp_ge (tgt := 31) dX8_digest_9 hC (by decide) (fun c9 => ?_) (fun c9 => ?_)
  · have h := h.1 c9
    refine jq_iconst (v := (0 : Int32)) dX8_digest_31 hC (by decide) ?_
    refine jq_istore_n (L' := [(3, .int (0 : Int32)), (0, .ref (aD G 0 26)), (1, .long x1)]) dX8_digest_32 hC rfl (by decide) rfl ?_
    refine jq_less (L' := [(0, .ref (aD G 0 26)), (1, .long x1), (3, .int (0 : Int32))]) [1, 2, 0] rfl ?_
    exact ok_X8_digest_L33 hC he h
  · have h := h.2 c9
    refine jq_ldc2 (v := (31 : Int64)) dX8_digest_12 hC (by decide +kernel) ?_
    refine jq_lload_n (k0 := 1) dX8_digest_15 hC rfl rfl ?_
    refine jq_lmul dX8_digest_16 hC ?_
    refine jq_aload_n (k0 := 0) dX8_digest_17 hC rfl rfl ?_
    refine jq_iload_n (k0 := 2) dX8_digest_18 hC rfl rfl ?_
    refine jq_callV (As := [.int x3]) (rest := [.long ((31 : Int64) * x1)]) (n := 0) (o := 26) (D' := D_X8_counted) dX8_digest_19 hC (cl_0 (by decide)) rfl rfl rfl (mt_X8_counted h) gX8_digest_X8_counted rfl ⟨rfl, rfl, Nat.le_of_ble_eq_true rfl, Nat.le_of_ble_eq_true rfl⟩ nm_X8_counted rfl (Nat.le_of_ble_eq_true rfl) (kIp fun r19 h => ?_)
    refine jq_i2l dX8_digest_22 hC ?_
    refine jq_ladd dX8_digest_23 hC ?_
    refine jq_lstore_n (L' := [(1, .long (((31 : Int64) * x1) + r19.toInt64)), (0, .ref (aD G 0 26)), (3, .int x3)]) dX8_digest_24 hC rfl (by decide) rfl ?_
    refine jq_iinc (k0 := 2) (v := (x3 + 1)) (L' := [(3, .int (x3 + 1)), (1, .long (((31 : Int64) * x1) + r19.toInt64)), (0, .ref (aD G 0 26))]) dX8_digest_25 hC rfl rfl (by decide) rfl ?_
    refine jq_goto (tgt := 6) dX8_digest_28 hC (by decide) ?_
    exact jq_less (L' := [(0, .ref (aD G 0 26)), (1, .long (((31 : Int64) * x1) + r19.toInt64)), (3, .int (x3 + 1))]) [2, 1, 0] rfl (hK6 _ _ h)
theorem ok_X8_digest_L6 {G : Gt} {M : Mx} {Qf : State → Prop} {x1 : Int64} {x3 : Int32} {w : Wd} {Q : Int64 → Wd → Prop} (hC : cx G D_X8_digest M) (he : en G M (ql Q) Qf) (h : wp_X8_digest_L6 x1 x3 w Q) : jq G D_X8_digest M Qf 6 [(0, .ref (aD G 0 26)), (1, .long x1), (3, .int x3)] [] w := by
  unfold wp_X8_digest_L6 at h
  obtain ⟨I, μ, h0, hs⟩ := h
  exact lp_ind (σ := Int64 × Int32) (P := fun s => jq G D_X8_digest M Qf 6 [(0, .ref (aD G 0 26)), (1, .long s.1), (3, .int s.2)] [] w) (fun s => I s.1 s.2) (fun s => μ s.1 s.2) (fun s h1 ih => ok_X8_digest_B6 hC he (hs s.1 s.2 h1) (fun x1' x3' h => ih (x1', x3') h.1 h.2)) (x1, x3) h0
theorem ok_X8_digest {G : Gt} {M : Mx} {Qf : State → Prop} {w : Wd} {Q : Int64 → Wd → Prop} (hC : cx G D_X8_digest M) (he : en G M (ql Q) Qf) (h : wp_X8_digest w Q) : jq G D_X8_digest M Qf 0 [(0, .ref (aD G 0 26))] [] w := by
  unfold wp_X8_digest at h
  refine jq_ldc2 (v := (2741 : Int64)) dX8_digest_0 hC (by decide +kernel) ?_
  refine jq_lstore_n (L' := [(1, .long (2741 : Int64)), (0, .ref (aD G 0 26))]) dX8_digest_3 hC rfl (by decide) rfl ?_
  refine jq_iconst (v := (0 : Int32)) dX8_digest_4 hC (by decide) ?_
  refine jq_istore_n (L' := [(3, .int (0 : Int32)), (1, .long (2741 : Int64)), (0, .ref (aD G 0 26))]) dX8_digest_5 hC rfl (by decide) rfl ?_
  refine jq_less (L' := [(0, .ref (aD G 0 26)), (1, .long (2741 : Int64)), (3, .int (0 : Int32))]) [2, 1, 0] rfl ?_
  exact ok_X8_digest_L6 hC he h
theorem mt_X8_digest {G : Gt} {w : Wd} {Q : Int64 → Wd → Prop} (h : wp_X8_digest w Q) : Mt G D_X8_digest [.ref (aD G 0 26)] w (ql Q) := Mt_of (by decide +kernel) rfl rfl (Nat.le_of_ble_eq_true rfl) (fun M Qf hC he => ok_X8_digest hC he h)
