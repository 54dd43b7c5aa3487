/-! CONSTRUCTORS -/
/-- a constructor's start and end: the cells W0 before, W1 f behind, at addresses that f tells -/
def pcC (G : Gt) (av : List Value) (sz : Nat) (W0 : va_W) : Array Value → State → Prop := va_Pc av (fun U => U.heap.size = sz ∧ va_P (vD G) vwCl W0 U.heap ∧ kk G U ∧ va_AO RX5 U ∧ va_D (fun _ => True) W0)
abbrev Ad : Type := Nat → Nat → Nat
def MetC (G : Gt) (y : MethodName) (ws : List Cond) (rm : Room) (av : List Value) (sz : Nat) (W0 : va_W) (post : Ad → Prop) (W1 : Ad → va_W) (mc ms : Nat) : Prop := Met G.1 y ws rm (pcC G av sz W0) (va_Qv post (fun f t => va_P (vD G) vwCl (W1 f) t.heap ∧ va_D (va_A W0 sz) (W1 f)) (va_A W0 sz)) mc ms (va_A W0 sz)
theorem pcC_blind (G : Gt) (av : List Value) (sz : Nat) (W0 : va_W) : FrameBlind (pcC G av sz W0) := by
  intro a U g mk q
  obtain ⟨q1, q2, q3, ⟨q4, q5⟩, q6, q7⟩ := q
  exact ⟨q1, q2, q3, ⟨va_K.moved (u := U) (U := U.calling g mk a) (Vm.Alike.refl U.vm) q4, nw.same (u := U) (U := U.calling g mk a) rfl q5⟩, va_AO.moved (u := U) (U := U.calling g mk a) (Vm.Alike.refl U.vm) q6, q7⟩
theorem pcC_here {G : Gt} {s : State} {H : Heap} {av : List Value} {W0 : va_W} {A : Nat → Prop} (hP : va_P (vD G) vwCl W0 H) (hK : kk G s) (hO : va_AO RX5 s) (hD : va_D A W0) : ∀ U : State, U.heap = H → s.WarmedH U.vm → pcC G av H.size W0 av.toArray U := fun U hU hW => ⟨rfl, by rw [hU], by rw [hU]; exact hP, ⟨va_K.moved hW.alike hK.1, nw.warm hW hK.2⟩, va_AO.moved hW.alike hO, hD.weaken (fun _ _ _ _ => trivial)⟩
theorem k_int {D : va_G} {cl : List vw_C} {tys0 : List (ClassId × FieldType)} {cA cB : ClassId} {s : State} (hK : va_K D cl (tys0 ++ [(cA, .int)]) s) (k : Nat) (h : tys0[k]? = some (cB, .int)) : cA = cB := by
  have h1 : s.vm.findClass _ = some cA := (hK.2 tys0.length (cA, .int) (by simp)).2
  have h2 : s.vm.findClass _ = some cB := (hK.2 k (cB, .int) (by rw [List.getElem?_append_left (List.getElem?_eq_some_iff.mp h).1]; exact h)).2
  exact Option.some.inj (h1.symm.trans h2)
theorem k_boolean {D : va_G} {cl : List vw_C} {tys0 : List (ClassId × FieldType)} {cA cB : ClassId} {s : State} (hK : va_K D cl (tys0 ++ [(cA, .boolean)]) s) (k : Nat) (h : tys0[k]? = some (cB, .boolean)) : cA = cB := by
  have h1 : s.vm.findClass _ = some cA := (hK.2 tys0.length (cA, .boolean) (by simp)).2
  have h2 : s.vm.findClass _ = some cB := (hK.2 k (cB, .boolean) (by rw [List.getElem?_append_left (List.getElem?_eq_some_iff.mp h).1]; exact h)).2
  exact Option.some.inj (h1.symm.trans h2)
theorem k_long {D : va_G} {cl : List vw_C} {tys0 : List (ClassId × FieldType)} {cA cB : ClassId} {s : State} (hK : va_K D cl (tys0 ++ [(cA, .long)]) s) (k : Nat) (h : tys0[k]? = some (cB, .long)) : cA = cB := by
  have h1 : s.vm.findClass _ = some cA := (hK.2 tys0.length (cA, .long) (by simp)).2
  have h2 : s.vm.findClass _ = some cB := (hK.2 k (cB, .long) (by rw [List.getElem?_append_left (List.getElem?_eq_some_iff.mp h).1]; exact h)).2
  exact Option.some.inj (h1.symm.trans h2)
theorem k_object {D : va_G} {cl : List vw_C} {tys0 : List (ClassId × FieldType)} {cA cB : ClassId} {C : String} {s : State} (hK : va_K D cl (tys0 ++ [(cA, .object C)]) s) (k : Nat) (h : tys0[k]? = some (cB, .object C)) : cA = cB := by
  obtain ⟨_, _, -, -, -, h1⟩ := (hK.2 tys0.length (cA, .object C) (by simp)).2
  obtain ⟨_, _, -, -, -, h2⟩ := (hK.2 k (cB, .object C) (by rw [List.getElem?_append_left (List.getElem?_eq_some_iff.mp h).1]; exact h)).2
  exact Option.some.inj (h1.symm.trans h2)
def z0 : Nat → Int32 := fun _ => 0
theorem dX5_init_0 : decode cX5_init 0 = .ok (.aload_n 0, 1) := by decide +kernel
theorem dX5_init_1 : decode cX5_init 1 = .ok (.invokespecial 3, 3) := by decide +kernel
theorem dX5_init_4 : decode cX5_init 4 = .ok (.aload_n 0, 1) := by decide +kernel
theorem dX5_init_5 : decode cX5_init 5 = .ok (.bipush 10, 2) := by decide +kernel
theorem dX5_init_7 : decode cX5_init 7 = .ok (.newarray .int, 2) := by decide +kernel
theorem dX5_init_9 : decode cX5_init 9 = .ok (.putfield 9, 3) := by decide +kernel
theorem dX5_init_12 : decode cX5_init 12 = .ok (.aload_n 0, 1) := by decide +kernel
theorem dX5_init_13 : decode cX5_init 13 = .ok (.bipush 20, 2) := by decide +kernel
theorem dX5_init_15 : decode cX5_init 15 = .ok (.newarray .int, 2) := by decide +kernel
theorem dX5_init_17 : decode cX5_init 17 = .ok (.putfield 15, 3) := by decide +kernel
theorem dX5_init_20 : decode cX5_init 20 = .ok (.aload_n 0, 1) := by decide +kernel
theorem dX5_init_21 : decode cX5_init 21 = .ok (.bipush 20, 2) := by decide +kernel
theorem dX5_init_23 : decode cX5_init 23 = .ok (.newarray .int, 2) := by decide +kernel
theorem dX5_init_25 : decode cX5_init 25 = .ok (.putfield 18, 3) := by decide +kernel
theorem dX5_init_28 : decode cX5_init 28 = .ok (.aload_n 0, 1) := by decide +kernel
theorem dX5_init_29 : decode cX5_init 29 = .ok (.bipush 20, 2) := by decide +kernel
theorem dX5_init_31 : decode cX5_init 31 = .ok (.newarray .int, 2) := by decide +kernel
theorem dX5_init_33 : decode cX5_init 33 = .ok (.putfield 21, 3) := by decide +kernel
theorem dX5_init_36 : decode cX5_init 36 = .ok (.aload_n 0, 1) := by decide +kernel
theorem dX5_init_37 : decode cX5_init 37 = .ok (.bipush 20, 2) := by decide +kernel
theorem dX5_init_39 : decode cX5_init 39 = .ok (.newarray .int, 2) := by decide +kernel
theorem dX5_init_41 : decode cX5_init 41 = .ok (.putfield 24, 3) := by decide +kernel
theorem dX5_init_44 : decode cX5_init 44 = .ok (.aload_n 0, 1) := by decide +kernel
theorem dX5_init_45 : decode cX5_init 45 = .ok (.iconst 3, 1) := by decide +kernel
theorem dX5_init_46 : decode cX5_init 46 = .ok (.newarray .int, 2) := by decide +kernel
theorem dX5_init_48 : decode cX5_init 48 = .ok (.putfield 27, 3) := by decide +kernel
theorem dX5_init_51 : decode cX5_init 51 = .ok (.aload_n 0, 1) := by decide +kernel
theorem dX5_init_52 : decode cX5_init 52 = .ok (.getfield 27, 3) := by decide +kernel
theorem dX5_init_55 : decode cX5_init 55 = .ok (.iconst 0, 1) := by decide +kernel
theorem dX5_init_56 : decode cX5_init 56 = .ok (.bipush 10, 2) := by decide +kernel
theorem dX5_init_58 : decode cX5_init 58 = .ok (.iastore, 1) := by decide +kernel
theorem dX5_init_59 : decode cX5_init 59 = .ok (.aload_n 0, 1) := by decide +kernel
theorem dX5_init_60 : decode cX5_init 60 = .ok (.getfield 27, 3) := by decide +kernel
theorem dX5_init_63 : decode cX5_init 63 = .ok (.iconst 1, 1) := by decide +kernel
theorem dX5_init_64 : decode cX5_init 64 = .ok (.iconst 2, 1) := by decide +kernel
theorem dX5_init_65 : decode cX5_init 65 = .ok (.iastore, 1) := by decide +kernel
theorem dX5_init_66 : decode cX5_init 66 = .ok (.aload_n 0, 1) := by decide +kernel
theorem dX5_init_67 : decode cX5_init 67 = .ok (.getfield 27, 3) := by decide +kernel
theorem dX5_init_70 : decode cX5_init 70 = .ok (.iconst 2, 1) := by decide +kernel
theorem dX5_init_71 : decode cX5_init 71 = .ok (.iconst 5, 1) := by decide +kernel
theorem dX5_init_72 : decode cX5_init 72 = .ok (.iastore, 1) := by decide +kernel
theorem dX5_init_73 : decode cX5_init 73 = .ok (.return_, 1) := by decide +kernel
set_option maxHeartbeats 4000000 in
set_option maxRecDepth 100000 in
theorem c_X5_init (G : Gt) (h0 sz : Nat) : MetC G yX5_init wsX5_init ({ frames := 1, cells := 6, slots := 93, locals := 12 }) [.ref h0] sz [(h0, .inr (5, [.int 0, .int 0, .null, .null, .null, .null, .null, .null]))] (fun u => u 0 0 = h0) (fun u => [((u 0 0), .inr (5, [.int 0, .int 0, .ref (u 0 1), .ref (u 0 2), .ref (u 0 3), .ref (u 0 4), .ref (u 0 5), .ref (u 0 6)])), ((u 0 1), .inl (cI G, 10, .inl z0)), ((u 0 2), .inl (cI G, 20, .inl z0)), ((u 0 3), .inl (cI G, 20, .inl z0)), ((u 0 4), .inl (cI G, 20, .inl z0)), ((u 0 5), .inl (cI G, 20, .inl z0)), ((u 0 6), .inl (cI G, 3, .inl (upd (upd (upd z0 0 10) 1 2) 2 5)))]) 6 93 := by
  refine Met.ofW (cc := cX5_init) (maxL := 1) (ret := none) (by decide +kernel) rfl ?_
  intro p e s m args below meth c s₁ B hml hv
  obtain ⟨rfl, hsz, hP, hKK, hO, hD0⟩ := hv
  have hK := hKK.1
  have hx := B.exec
  have hb := B.bytes
  have hr := B.returns
  have hts := atoms_spec (ws := wsX5_init) B.pre
  have hown : s.vm.findClass RX5 = some m.cls := findClass_of_methodNamed B.named
  have hin : meth.name = "<init>" := (name_of_methodNamed B.named B.method).1
  subst hsz
  have hD := hD0.self (sz := s.heap.size)
  generalize hAe : va_A [(h0, .inr (5, [.int 0, .int 0, .null, .null, .null, .null, .null, .null]))] s.heap.size = A at hD ⊢
  have hA : ∀ q : Nat, s.heap.size ≤ q → A q := fun q h => by rw [← hAe]; exact Or.inr h
  have hS : va_S A s.heap s.heap [] := va_S.rf
  have hl := lv_entry ([.ref h0]) (n := 1) (Nat.le_of_ble_eq_true rfl)
  rw [lg_entry_eq]
  generalize (lg_sl ([.ref h0]) ++ List.replicate (1 - (lg_sl ([.ref h0])).length) Slot.unset).toArray = ls at hl ⊢
  have hl : lv_has ls 1 [(0, .ref h0)] := hl
  refine lv_aload_n hx hb dX5_init_0 rfl (lv_at hl 0 rfl) ?_
  refine W.objInit hx hb hown (hts (.methodLink RX5 3 objectInit) (by decide +kernel)) (hts (.instanceMethod objectInit) (by decide +kernel)) (hts _ (List.mem_cons_of_mem _ (List.mem_of_getElem? (i := 2) rfl))) rfl (by rw [hml]; exact hl.1) rfl dX5_init_1 (Nat.le_of_ble_eq_true rfl) (Nat.le_of_ble_eq_true rfl) ?_
  refine W.eq (g2 := F0 m 4 ls []) rfl ?_
  refine lv_aload_n hx hb dX5_init_4 rfl (lv_at hl 0 rfl) ?_
  refine lv_bipush (v := 10) hx hb dX5_init_5 (by decide) ?_
  refine va_newa (atype := .int) (ty := .int) (n := 10) (N' := 10) (a0 := (10, .inl z0)) hx hb (hts (.arrayClass .int) (by decide +kernel)) rfl hK hP hD hS hA (fun _ => rfl) (by decide) rfl (Nat.le_of_ble_eq_true rfl) (Nat.le_of_ble_eq_true rfl) (Nat.le_of_ble_eq_true rfl) dX5_init_7 (fun q1 cA H hK1 hP hD hS => ?_)
  have e1 := k_int hK1 0 rfl
  subst e1
  clear hK1
  have hP : va_P (vD G) vwCl [(h0, .inr (5, [.int 0, .int 0, .null, .null, .null, .null, .null, .null])), (q1, .inl (cI G, 10, .inl z0))] H := hP
  have hD : va_D A [(h0, .inr (5, [.int 0, .int 0, .null, .null, .null, .null, .null, .null])), (q1, .inl (cI G, 10, .inl z0))] := hD
  refine W.widen (k := 1) (n := 10) (Nat.le_of_ble_eq_true rfl) (Nat.le_of_ble_eq_true rfl) ?_
  refine va_putF (D := vD G) (ci := 5) (v := .ref q1) (ty := .array .int) (C := RX5) (T := TX5) (N := 8) hx hb hts (by decide +kernel) tyX5 tyX5_ok nmX5 hown hK hP hD hS 0 rfl rfl 2 (by decide) (hts (.fieldLink RX5 9 "LevelLoops$Survey" "known" "[I") (by decide +kernel)) (fun _ h9 => h9) rfl hin rfl (by decide +kernel) rfl rfl (Nat.le_of_ble_eq_true rfl) dX5_init_9 (fun H locs hP hD hS => ?_)
  have hP : va_P (vD G) vwCl [(h0, .inr (5, [.int 0, .int 0, .ref q1, .null, .null, .null, .null, .null])), (q1, .inl (cI G, 10, .inl z0))] H := hP
  have hD : va_D A [(h0, .inr (5, [.int 0, .int 0, .ref q1, .null, .null, .null, .null, .null])), (q1, .inl (cI G, 10, .inl z0))] := hD
  refine lv_aload_n hx hb dX5_init_12 rfl (lv_at hl 0 rfl) ?_
  refine lv_bipush (v := 20) hx hb dX5_init_13 (by decide) ?_
  refine va_newa (atype := .int) (ty := .int) (n := 20) (N' := 20) (a0 := (20, .inl z0)) hx hb (hts (.arrayClass .int) (by decide +kernel)) rfl hK hP hD hS hA (fun _ => rfl) (by decide) rfl (Nat.le_of_ble_eq_true rfl) (Nat.le_of_ble_eq_true rfl) (Nat.le_of_ble_eq_true rfl) dX5_init_15 (fun q2 cA H hK1 hP hD hS => ?_)
  have e1 := k_int hK1 0 rfl
  subst e1
  clear hK1
  have hP : va_P (vD G) vwCl [(h0, .inr (5, [.int 0, .int 0, .ref q1, .null, .null, .null, .null, .null])), (q1, .inl (cI G, 10, .inl z0)), (q2, .inl (cI G, 20, .inl z0))] H := hP
  have hD : va_D A [(h0, .inr (5, [.int 0, .int 0, .ref q1, .null, .null, .null, .null, .null])), (q1, .inl (cI G, 10, .inl z0)), (q2, .inl (cI G, 20, .inl z0))] := hD
  refine W.widen (k := 2) (n := 30) (Nat.le_of_ble_eq_true rfl) (Nat.le_of_ble_eq_true rfl) ?_
  refine va_putF (D := vD G) (ci := 5) (v := .ref q2) (ty := .array .int) (C := RX5) (T := TX5) (N := 8) hx hb hts (by decide +kernel) tyX5 tyX5_ok nmX5 hown hK hP hD hS 0 rfl rfl 3 (by decide) (hts (.fieldLink RX5 15 "LevelLoops$Survey" "from" "[I") (by decide +kernel)) (fun _ h9 => h9) rfl hin rfl (by decide +kernel) rfl rfl (Nat.le_of_ble_eq_true rfl) dX5_init_17 (fun H locs hP hD hS => ?_)
  have hP : va_P (vD G) vwCl [(h0, .inr (5, [.int 0, .int 0, .ref q1, .ref q2, .null, .null, .null, .null])), (q1, .inl (cI G, 10, .inl z0)), (q2, .inl (cI G, 20, .inl z0))] H := hP
  have hD : va_D A [(h0, .inr (5, [.int 0, .int 0, .ref q1, .ref q2, .null, .null, .null, .null])), (q1, .inl (cI G, 10, .inl z0)), (q2, .inl (cI G, 20, .inl z0))] := hD
  refine lv_aload_n hx hb dX5_init_20 rfl (lv_at hl 0 rfl) ?_
  refine lv_bipush (v := 20) hx hb dX5_init_21 (by decide) ?_
  refine va_newa (atype := .int) (ty := .int) (n := 20) (N' := 20) (a0 := (20, .inl z0)) hx hb (hts (.arrayClass .int) (by decide +kernel)) rfl hK hP hD hS hA (fun _ => rfl) (by decide) rfl (Nat.le_of_ble_eq_true rfl) (Nat.le_of_ble_eq_true rfl) (Nat.le_of_ble_eq_true rfl) dX5_init_23 (fun q3 cA H hK1 hP hD hS => ?_)
  have e1 := k_int hK1 0 rfl
  subst e1
  clear hK1
  have hP : va_P (vD G) vwCl [(h0, .inr (5, [.int 0, .int 0, .ref q1, .ref q2, .null, .null, .null, .null])), (q1, .inl (cI G, 10, .inl z0)), (q2, .inl (cI G, 20, .inl z0)), (q3, .inl (cI G, 20, .inl z0))] H := hP
  have hD : va_D A [(h0, .inr (5, [.int 0, .int 0, .ref q1, .ref q2, .null, .null, .null, .null])), (q1, .inl (cI G, 10, .inl z0)), (q2, .inl (cI G, 20, .inl z0)), (q3, .inl (cI G, 20, .inl z0))] := hD
  refine W.widen (k := 3) (n := 50) (Nat.le_of_ble_eq_true rfl) (Nat.le_of_ble_eq_true rfl) ?_
  refine va_putF (D := vD G) (ci := 5) (v := .ref q3) (ty := .array .int) (C := RX5) (T := TX5) (N := 8) hx hb hts (by decide +kernel) tyX5 tyX5_ok nmX5 hown hK hP hD hS 0 rfl rfl 4 (by decide) (hts (.fieldLink RX5 18 "LevelLoops$Survey" "to" "[I") (by decide +kernel)) (fun _ h9 => h9) rfl hin rfl (by decide +kernel) rfl rfl (Nat.le_of_ble_eq_true rfl) dX5_init_25 (fun H locs hP hD hS => ?_)
  have hP : va_P (vD G) vwCl [(h0, .inr (5, [.int 0, .int 0, .ref q1, .ref q2, .ref q3, .null, .null, .null])), (q1, .inl (cI G, 10, .inl z0)), (q2, .inl (cI G, 20, .inl z0)), (q3, .inl (cI G, 20, .inl z0))] H := hP
  have hD : va_D A [(h0, .inr (5, [.int 0, .int 0, .ref q1, .ref q2, .ref q3, .null, .null, .null])), (q1, .inl (cI G, 10, .inl z0)), (q2, .inl (cI G, 20, .inl z0)), (q3, .inl (cI G, 20, .inl z0))] := hD
  refine lv_aload_n hx hb dX5_init_28 rfl (lv_at hl 0 rfl) ?_
  refine lv_bipush (v := 20) hx hb dX5_init_29 (by decide) ?_
  refine va_newa (atype := .int) (ty := .int) (n := 20) (N' := 20) (a0 := (20, .inl z0)) hx hb (hts (.arrayClass .int) (by decide +kernel)) rfl hK hP hD hS hA (fun _ => rfl) (by decide) rfl (Nat.le_of_ble_eq_true rfl) (Nat.le_of_ble_eq_true rfl) (Nat.le_of_ble_eq_true rfl) dX5_init_31 (fun q4 cA H hK1 hP hD hS => ?_)
  have e1 := k_int hK1 0 rfl
  subst e1
  clear hK1
  have hP : va_P (vD G) vwCl [(h0, .inr (5, [.int 0, .int 0, .ref q1, .ref q2, .ref q3, .null, .null, .null])), (q1, .inl (cI G, 10, .inl z0)), (q2, .inl (cI G, 20, .inl z0)), (q3, .inl (cI G, 20, .inl z0)), (q4, .inl (cI G, 20, .inl z0))] H := hP
  have hD : va_D A [(h0, .inr (5, [.int 0, .int 0, .ref q1, .ref q2, .ref q3, .null, .null, .null])), (q1, .inl (cI G, 10, .inl z0)), (q2, .inl (cI G, 20, .inl z0)), (q3, .inl (cI G, 20, .inl z0)), (q4, .inl (cI G, 20, .inl z0))] := hD
  refine W.widen (k := 4) (n := 70) (Nat.le_of_ble_eq_true rfl) (Nat.le_of_ble_eq_true rfl) ?_
  refine va_putF (D := vD G) (ci := 5) (v := .ref q4) (ty := .array .int) (C := RX5) (T := TX5) (N := 8) hx hb hts (by decide +kernel) tyX5 tyX5_ok nmX5 hown hK hP hD hS 0 rfl rfl 5 (by decide) (hts (.fieldLink RX5 21 "LevelLoops$Survey" "difference" "[I") (by decide +kernel)) (fun _ h9 => h9) rfl hin rfl (by decide +kernel) rfl rfl (Nat.le_of_ble_eq_true rfl) dX5_init_33 (fun H locs hP hD hS => ?_)
  have hP : va_P (vD G) vwCl [(h0, .inr (5, [.int 0, .int 0, .ref q1, .ref q2, .ref q3, .ref q4, .null, .null])), (q1, .inl (cI G, 10, .inl z0)), (q2, .inl (cI G, 20, .inl z0)), (q3, .inl (cI G, 20, .inl z0)), (q4, .inl (cI G, 20, .inl z0))] H := hP
  have hD : va_D A [(h0, .inr (5, [.int 0, .int 0, .ref q1, .ref q2, .ref q3, .ref q4, .null, .null])), (q1, .inl (cI G, 10, .inl z0)), (q2, .inl (cI G, 20, .inl z0)), (q3, .inl (cI G, 20, .inl z0)), (q4, .inl (cI G, 20, .inl z0))] := hD
  refine lv_aload_n hx hb dX5_init_36 rfl (lv_at hl 0 rfl) ?_
  refine lv_bipush (v := 20) hx hb dX5_init_37 (by decide) ?_
  refine va_newa (atype := .int) (ty := .int) (n := 20) (N' := 20) (a0 := (20, .inl z0)) hx hb (hts (.arrayClass .int) (by decide +kernel)) rfl hK hP hD hS hA (fun _ => rfl) (by decide) rfl (Nat.le_of_ble_eq_true rfl) (Nat.le_of_ble_eq_true rfl) (Nat.le_of_ble_eq_true rfl) dX5_init_39 (fun q5 cA H hK1 hP hD hS => ?_)
  have e1 := k_int hK1 0 rfl
  subst e1
  clear hK1
  have hP : va_P (vD G) vwCl [(h0, .inr (5, [.int 0, .int 0, .ref q1, .ref q2, .ref q3, .ref q4, .null, .null])), (q1, .inl (cI G, 10, .inl z0)), (q2, .inl (cI G, 20, .inl z0)), (q3, .inl (cI G, 20, .inl z0)), (q4, .inl (cI G, 20, .inl z0)), (q5, .inl (cI G, 20, .inl z0))] H := hP
  have hD : va_D A [(h0, .inr (5, [.int 0, .int 0, .ref q1, .ref q2, .ref q3, .ref q4, .null, .null])), (q1, .inl (cI G, 10, .inl z0)), (q2, .inl (cI G, 20, .inl z0)), (q3, .inl (cI G, 20, .inl z0)), (q4, .inl (cI G, 20, .inl z0)), (q5, .inl (cI G, 20, .inl z0))] := hD
  refine W.widen (k := 5) (n := 90) (Nat.le_of_ble_eq_true rfl) (Nat.le_of_ble_eq_true rfl) ?_
  refine va_putF (D := vD G) (ci := 5) (v := .ref q5) (ty := .array .int) (C := RX5) (T := TX5) (N := 8) hx hb hts (by decide +kernel) tyX5 tyX5_ok nmX5 hown hK hP hD hS 0 rfl rfl 6 (by decide) (hts (.fieldLink RX5 24 "LevelLoops$Survey" "length" "[I") (by decide +kernel)) (fun _ h9 => h9) rfl hin rfl (by decide +kernel) rfl rfl (Nat.le_of_ble_eq_true rfl) dX5_init_41 (fun H locs hP hD hS => ?_)
  have hP : va_P (vD G) vwCl [(h0, .inr (5, [.int 0, .int 0, .ref q1, .ref q2, .ref q3, .ref q4, .ref q5, .null])), (q1, .inl (cI G, 10, .inl z0)), (q2, .inl (cI G, 20, .inl z0)), (q3, .inl (cI G, 20, .inl z0)), (q4, .inl (cI G, 20, .inl z0)), (q5, .inl (cI G, 20, .inl z0))] H := hP
  have hD : va_D A [(h0, .inr (5, [.int 0, .int 0, .ref q1, .ref q2, .ref q3, .ref q4, .ref q5, .null])), (q1, .inl (cI G, 10, .inl z0)), (q2, .inl (cI G, 20, .inl z0)), (q3, .inl (cI G, 20, .inl z0)), (q4, .inl (cI G, 20, .inl z0)), (q5, .inl (cI G, 20, .inl z0))] := hD
  refine lv_aload_n hx hb dX5_init_44 rfl (lv_at hl 0 rfl) ?_
  refine lv_iconst (v := 3) hx hb dX5_init_45 (by decide) ?_
  refine va_newa (atype := .int) (ty := .int) (n := 3) (N' := 3) (a0 := (3, .inl z0)) hx hb (hts (.arrayClass .int) (by decide +kernel)) rfl hK hP hD hS hA (fun _ => rfl) (by decide) rfl (Nat.le_of_ble_eq_true rfl) (Nat.le_of_ble_eq_true rfl) (Nat.le_of_ble_eq_true rfl) dX5_init_46 (fun q6 cA H hK1 hP hD hS => ?_)
  have e1 := k_int hK1 0 rfl
  subst e1
  clear hK1
  have hP : va_P (vD G) vwCl [(h0, .inr (5, [.int 0, .int 0, .ref q1, .ref q2, .ref q3, .ref q4, .ref q5, .null])), (q1, .inl (cI G, 10, .inl z0)), (q2, .inl (cI G, 20, .inl z0)), (q3, .inl (cI G, 20, .inl z0)), (q4, .inl (cI G, 20, .inl z0)), (q5, .inl (cI G, 20, .inl z0)), (q6, .inl (cI G, 3, .inl z0))] H := hP
  have hD : va_D A [(h0, .inr (5, [.int 0, .int 0, .ref q1, .ref q2, .ref q3, .ref q4, .ref q5, .null])), (q1, .inl (cI G, 10, .inl z0)), (q2, .inl (cI G, 20, .inl z0)), (q3, .inl (cI G, 20, .inl z0)), (q4, .inl (cI G, 20, .inl z0)), (q5, .inl (cI G, 20, .inl z0)), (q6, .inl (cI G, 3, .inl z0))] := hD
  refine W.widen (k := 6) (n := 93) (Nat.le_of_ble_eq_true rfl) (Nat.le_of_ble_eq_true rfl) ?_
  refine va_putF (D := vD G) (ci := 5) (v := .ref q6) (ty := .array .int) (C := RX5) (T := TX5) (N := 8) hx hb hts (by decide +kernel) tyX5 tyX5_ok nmX5 hown hK hP hD hS 0 rfl rfl 7 (by decide) (hts (.fieldLink RX5 27 "LevelLoops$Survey" "settings" "[I") (by decide +kernel)) (fun _ h9 => h9) rfl hin rfl (by decide +kernel) rfl rfl (Nat.le_of_ble_eq_true rfl) dX5_init_48 (fun H locs hP hD hS => ?_)
  have hP : va_P (vD G) vwCl [(h0, .inr (5, [.int 0, .int 0, .ref q1, .ref q2, .ref q3, .ref q4, .ref q5, .ref q6])), (q1, .inl (cI G, 10, .inl z0)), (q2, .inl (cI G, 20, .inl z0)), (q3, .inl (cI G, 20, .inl z0)), (q4, .inl (cI G, 20, .inl z0)), (q5, .inl (cI G, 20, .inl z0)), (q6, .inl (cI G, 3, .inl z0))] H := hP
  have hD : va_D A [(h0, .inr (5, [.int 0, .int 0, .ref q1, .ref q2, .ref q3, .ref q4, .ref q5, .ref q6])), (q1, .inl (cI G, 10, .inl z0)), (q2, .inl (cI G, 20, .inl z0)), (q3, .inl (cI G, 20, .inl z0)), (q4, .inl (cI G, 20, .inl z0)), (q5, .inl (cI G, 20, .inl z0)), (q6, .inl (cI G, 3, .inl z0))] := hD
  refine lv_aload_n hx hb dX5_init_51 rfl (lv_at hl 0 rfl) ?_
  refine va_get (D := vD G) (ci := 5) (v := .ref q6) (C := RX5) (T := TX5) (N := 8) hx hb hts (by decide +kernel) hown hK hP 0 rfl rfl 7 (by decide) (hts (.fieldLink RX5 27 "LevelLoops$Survey" "settings" "[I") (by decide +kernel)) (fun _ h9 => h9) rfl dX5_init_52 ?_
  refine lv_iconst (v := 0) hx hb dX5_init_55 (by decide) ?_
  refine lv_bipush (v := 10) hx hb dX5_init_56 (by decide) ?_
  refine va_iast hx hb hK hP hD hS 6 0 rfl rfl (vin (by decide)) dX5_init_58 (fun H locs hP hD hS => ?_)
  have hP : va_P (vD G) vwCl [(h0, .inr (5, [.int 0, .int 0, .ref q1, .ref q2, .ref q3, .ref q4, .ref q5, .ref q6])), (q1, .inl (cI G, 10, .inl z0)), (q2, .inl (cI G, 20, .inl z0)), (q3, .inl (cI G, 20, .inl z0)), (q4, .inl (cI G, 20, .inl z0)), (q5, .inl (cI G, 20, .inl z0)), (q6, .inl (cI G, 3, .inl (upd z0 0 10)))] H := hP
  have hD : va_D A [(h0, .inr (5, [.int 0, .int 0, .ref q1, .ref q2, .ref q3, .ref q4, .ref q5, .ref q6])), (q1, .inl (cI G, 10, .inl z0)), (q2, .inl (cI G, 20, .inl z0)), (q3, .inl (cI G, 20, .inl z0)), (q4, .inl (cI G, 20, .inl z0)), (q5, .inl (cI G, 20, .inl z0)), (q6, .inl (cI G, 3, .inl (upd z0 0 10)))] := hD
  refine lv_aload_n hx hb dX5_init_59 rfl (lv_at hl 0 rfl) ?_
  refine va_get (D := vD G) (ci := 5) (v := .ref q6) (C := RX5) (T := TX5) (N := 8) hx hb hts (by decide +kernel) hown hK hP 0 rfl rfl 7 (by decide) (hts (.fieldLink RX5 27 "LevelLoops$Survey" "settings" "[I") (by decide +kernel)) (fun _ h9 => h9) rfl dX5_init_60 ?_
  refine lv_iconst (v := 1) hx hb dX5_init_63 (by decide) ?_
  refine lv_iconst (v := 2) hx hb dX5_init_64 (by decide) ?_
  refine va_iast hx hb hK hP hD hS 6 0 rfl rfl (vin (by decide)) dX5_init_65 (fun H locs hP hD hS => ?_)
  have hP : va_P (vD G) vwCl [(h0, .inr (5, [.int 0, .int 0, .ref q1, .ref q2, .ref q3, .ref q4, .ref q5, .ref q6])), (q1, .inl (cI G, 10, .inl z0)), (q2, .inl (cI G, 20, .inl z0)), (q3, .inl (cI G, 20, .inl z0)), (q4, .inl (cI G, 20, .inl z0)), (q5, .inl (cI G, 20, .inl z0)), (q6, .inl (cI G, 3, .inl (upd (upd z0 0 10) 1 2)))] H := hP
  have hD : va_D A [(h0, .inr (5, [.int 0, .int 0, .ref q1, .ref q2, .ref q3, .ref q4, .ref q5, .ref q6])), (q1, .inl (cI G, 10, .inl z0)), (q2, .inl (cI G, 20, .inl z0)), (q3, .inl (cI G, 20, .inl z0)), (q4, .inl (cI G, 20, .inl z0)), (q5, .inl (cI G, 20, .inl z0)), (q6, .inl (cI G, 3, .inl (upd (upd z0 0 10) 1 2)))] := hD
  refine lv_aload_n hx hb dX5_init_66 rfl (lv_at hl 0 rfl) ?_
  refine va_get (D := vD G) (ci := 5) (v := .ref q6) (C := RX5) (T := TX5) (N := 8) hx hb hts (by decide +kernel) hown hK hP 0 rfl rfl 7 (by decide) (hts (.fieldLink RX5 27 "LevelLoops$Survey" "settings" "[I") (by decide +kernel)) (fun _ h9 => h9) rfl dX5_init_67 ?_
  refine lv_iconst (v := 2) hx hb dX5_init_70 (by decide) ?_
  refine lv_iconst (v := 5) hx hb dX5_init_71 (by decide) ?_
  refine va_iast hx hb hK hP hD hS 6 0 rfl rfl (vin (by decide)) dX5_init_72 (fun H locs hP hD hS => ?_)
  have hP : va_P (vD G) vwCl [(h0, .inr (5, [.int 0, .int 0, .ref q1, .ref q2, .ref q3, .ref q4, .ref q5, .ref q6])), (q1, .inl (cI G, 10, .inl z0)), (q2, .inl (cI G, 20, .inl z0)), (q3, .inl (cI G, 20, .inl z0)), (q4, .inl (cI G, 20, .inl z0)), (q5, .inl (cI G, 20, .inl z0)), (q6, .inl (cI G, 3, .inl (upd (upd (upd z0 0 10) 1 2) 2 5)))] H := hP
  have hD : va_D A [(h0, .inr (5, [.int 0, .int 0, .ref q1, .ref q2, .ref q3, .ref q4, .ref q5, .ref q6])), (q1, .inl (cI G, 10, .inl z0)), (q2, .inl (cI G, 20, .inl z0)), (q3, .inl (cI G, 20, .inl z0)), (q4, .inl (cI G, 20, .inl z0)), (q5, .inl (cI G, 20, .inl z0)), (q6, .inl (cI G, 3, .inl (upd (upd (upd z0 0 10) 1 2) 2 5)))] := hD
  have hP9 := hP.sub (ws' := [(h0, .inr (5, [.int 0, .int 0, .ref q1, .ref q2, .ref q3, .ref q4, .ref q5, .ref q6])), (q1, .inl (cI G, 10, .inl z0)), (q2, .inl (cI G, 20, .inl z0)), (q3, .inl (cI G, 20, .inl z0)), (q4, .inl (cI G, 20, .inl z0)), (q5, .inl (cI G, 20, .inl z0)), (q6, .inl (cI G, 3, .inl (upd (upd (upd z0 0 10) 1 2) 2 5)))]) [0, 1, 2, 3, 4, 5, 6] rfl
  have hD9 := hD.sub (ws' := [(h0, .inr (5, [.int 0, .int 0, .ref q1, .ref q2, .ref q3, .ref q4, .ref q5, .ref q6])), (q1, .inl (cI G, 10, .inl z0)), (q2, .inl (cI G, 20, .inl z0)), (q3, .inl (cI G, 20, .inl z0)), (q4, .inl (cI G, 20, .inl z0)), (q5, .inl (cI G, 20, .inl z0)), (q6, .inl (cI G, 3, .inl (upd (upd (upd z0 0 10) 1 2) 2 5)))]) [0, 1, 2, 3, 4, 5, 6] (by decide) rfl
  exact W.vret hx hb hr (fun t ht hW => ⟨⟨(fun a b => if a = 0 then (if b = 0 then h0 else if b = 1 then q1 else if b = 2 then q2 else if b = 3 then q3 else if b = 4 then q4 else if b = 5 then q5 else if b = 6 then q6 else 0) else 0), rfl, rfl, by rw [ht]; exact hP9, hD9⟩, hS.F ht⟩) hS.2.2 dX5_init_73
theorem dX7_init_0 : decode cX7_init 0 = .ok (.aload_n 0, 1) := by decide +kernel
theorem dX7_init_1 : decode cX7_init 1 = .ok (.invokespecial 3, 3) := by decide +kernel
theorem dX7_init_4 : decode cX7_init 4 = .ok (.aload_n 0, 1) := by decide +kernel
theorem dX7_init_5 : decode cX7_init 5 = .ok (.bipush 10, 2) := by decide +kernel
theorem dX7_init_7 : decode cX7_init 7 = .ok (.newarray .int, 2) := by decide +kernel
theorem dX7_init_9 : decode cX7_init 9 = .ok (.putfield 9, 3) := by decide +kernel
theorem dX7_init_12 : decode cX7_init 12 = .ok (.aload_n 0, 1) := by decide +kernel
theorem dX7_init_13 : decode cX7_init 13 = .ok (.bipush 10, 2) := by decide +kernel
theorem dX7_init_15 : decode cX7_init 15 = .ok (.newarray .int, 2) := by decide +kernel
theorem dX7_init_17 : decode cX7_init 17 = .ok (.putfield 15, 3) := by decide +kernel
theorem dX7_init_20 : decode cX7_init 20 = .ok (.aload_n 0, 1) := by decide +kernel
theorem dX7_init_21 : decode cX7_init 21 = .ok (.bipush 20, 2) := by decide +kernel
theorem dX7_init_23 : decode cX7_init 23 = .ok (.newarray .int, 2) := by decide +kernel
theorem dX7_init_25 : decode cX7_init 25 = .ok (.putfield 18, 3) := by decide +kernel
theorem dX7_init_28 : decode cX7_init 28 = .ok (.aload_n 0, 1) := by decide +kernel
theorem dX7_init_29 : decode cX7_init 29 = .ok (.aload_n 1, 1) := by decide +kernel
theorem dX7_init_30 : decode cX7_init 30 = .ok (.putfield 21, 3) := by decide +kernel
theorem dX7_init_33 : decode cX7_init 33 = .ok (.return_, 1) := by decide +kernel
set_option maxHeartbeats 4000000 in
set_option maxRecDepth 100000 in
theorem c_X7_init (G : Gt) (h0 sv sz : Nat) : MetC G yX7_init wsX7_init ({ frames := 1, cells := 3, slots := 40, locals := 12 }) [.ref h0, .ref sv] sz [(h0, .inr (7, [.int 0, .int 0, .null, .null, .null, .null]))] (fun u => u 0 8 = h0) (fun u => [((u 0 8), .inr (7, [.int 0, .int 0, .ref (u 0 9), .ref (u 0 10), .ref sv, .ref (u 0 11)])), ((u 0 9), .inl (cI G, 10, .inl z0)), ((u 0 10), .inl (cI G, 10, .inl z0)), ((u 0 11), .inl (cI G, 20, .inl z0))]) 3 40 := by
  refine Met.ofW (cc := cX7_init) (maxL := 2) (ret := none) (by decide +kernel) rfl ?_
  intro p e s m args below meth c s₁ B hml hv
  obtain ⟨rfl, hsz, hP, hKK, hO, hD0⟩ := hv
  have hK := hKK.1
  have hx := B.exec
  have hb := B.bytes
  have hr := B.returns
  have hts := atoms_spec (ws := wsX7_init) B.pre
  have hown : s.vm.findClass RX7 = some m.cls := findClass_of_methodNamed B.named
  have hin : meth.name = "<init>" := (name_of_methodNamed B.named B.method).1
  subst hsz
  have hD := hD0.self (sz := s.heap.size)
  generalize hAe : va_A [(h0, .inr (7, [.int 0, .int 0, .null, .null, .null, .null]))] s.heap.size = A at hD ⊢
  have hA : ∀ q : Nat, s.heap.size ≤ q → A q := fun q h => by rw [← hAe]; exact Or.inr h
  have hS : va_S A s.heap s.heap [] := va_S.rf
  have hl := lv_entry ([.ref h0, .ref sv]) (n := 2) (Nat.le_of_ble_eq_true rfl)
  rw [lg_entry_eq]
  generalize (lg_sl ([.ref h0, .ref sv]) ++ List.replicate (2 - (lg_sl ([.ref h0, .ref sv])).length) Slot.unset).toArray = ls at hl ⊢
  have hl : lv_has ls 2 [(0, .ref h0), (1, .ref sv)] := hl
  refine lv_aload_n hx hb dX7_init_0 rfl (lv_at hl 0 rfl) ?_
  refine W.objInit hx hb hown (hts (.methodLink RX7 3 objectInit) (by decide +kernel)) (hts (.instanceMethod objectInit) (by decide +kernel)) (hts _ (List.mem_cons_of_mem _ (List.mem_of_getElem? (i := 2) rfl))) rfl (by rw [hml]; exact hl.1) rfl dX7_init_1 (Nat.le_of_ble_eq_true rfl) (Nat.le_of_ble_eq_true rfl) ?_
  refine W.eq (g2 := F0 m 4 ls []) rfl ?_
  refine lv_aload_n hx hb dX7_init_4 rfl (lv_at hl 0 rfl) ?_
  refine lv_bipush (v := 10) hx hb dX7_init_5 (by decide) ?_
  refine va_newa (atype := .int) (ty := .int) (n := 10) (N' := 10) (a0 := (10, .inl z0)) hx hb (hts (.arrayClass .int) (by decide +kernel)) rfl hK hP hD hS hA (fun _ => rfl) (by decide) rfl (Nat.le_of_ble_eq_true rfl) (Nat.le_of_ble_eq_true rfl) (Nat.le_of_ble_eq_true rfl) dX7_init_7 (fun q1 cA H hK1 hP hD hS => ?_)
  have e1 := k_int hK1 0 rfl
  subst e1
  clear hK1
  have hP : va_P (vD G) vwCl [(h0, .inr (7, [.int 0, .int 0, .null, .null, .null, .null])), (q1, .inl (cI G, 10, .inl z0))] H := hP
  have hD : va_D A [(h0, .inr (7, [.int 0, .int 0, .null, .null, .null, .null])), (q1, .inl (cI G, 10, .inl z0))] := hD
  refine W.widen (k := 1) (n := 10) (Nat.le_of_ble_eq_true rfl) (Nat.le_of_ble_eq_true rfl) ?_
  refine va_putF (D := vD G) (ci := 7) (v := .ref q1) (ty := .array .int) (C := RX7) (T := TX7) (N := 6) hx hb hts (by decide +kernel) tyX7 tyX7_ok nmX7 hown hK hP hD hS 0 rfl rfl 2 (by decide) (hts (.fieldLink RX7 9 "LevelLoops$Tree" "net" "[I") (by decide +kernel)) (fun _ h9 => h9) rfl hin rfl (by decide +kernel) rfl rfl (Nat.le_of_ble_eq_true rfl) dX7_init_9 (fun H locs hP hD hS => ?_)
  have hP : va_P (vD G) vwCl [(h0, .inr (7, [.int 0, .int 0, .ref q1, .null, .null, .null])), (q1, .inl (cI G, 10, .inl z0))] H := hP
  have hD : va_D A [(h0, .inr (7, [.int 0, .int 0, .ref q1, .null, .null, .null])), (q1, .inl (cI G, 10, .inl z0))] := hD
  refine lv_aload_n hx hb dX7_init_12 rfl (lv_at hl 0 rfl) ?_
  refine lv_bipush (v := 10) hx hb dX7_init_13 (by decide) ?_
  refine va_newa (atype := .int) (ty := .int) (n := 10) (N' := 10) (a0 := (10, .inl z0)) hx hb (hts (.arrayClass .int) (by decide +kernel)) rfl hK hP hD hS hA (fun _ => rfl) (by decide) rfl (Nat.le_of_ble_eq_true rfl) (Nat.le_of_ble_eq_true rfl) (Nat.le_of_ble_eq_true rfl) dX7_init_15 (fun q2 cA H hK1 hP hD hS => ?_)
  have e1 := k_int hK1 0 rfl
  subst e1
  clear hK1
  have hP : va_P (vD G) vwCl [(h0, .inr (7, [.int 0, .int 0, .ref q1, .null, .null, .null])), (q1, .inl (cI G, 10, .inl z0)), (q2, .inl (cI G, 10, .inl z0))] H := hP
  have hD : va_D A [(h0, .inr (7, [.int 0, .int 0, .ref q1, .null, .null, .null])), (q1, .inl (cI G, 10, .inl z0)), (q2, .inl (cI G, 10, .inl z0))] := hD
  refine W.widen (k := 2) (n := 20) (Nat.le_of_ble_eq_true rfl) (Nat.le_of_ble_eq_true rfl) ?_
  refine va_putF (D := vD G) (ci := 7) (v := .ref q2) (ty := .array .int) (C := RX7) (T := TX7) (N := 6) hx hb hts (by decide +kernel) tyX7 tyX7_ok nmX7 hown hK hP hD hS 0 rfl rfl 3 (by decide) (hts (.fieldLink RX7 15 "LevelLoops$Tree" "toTop" "[I") (by decide +kernel)) (fun _ h9 => h9) rfl hin rfl (by decide +kernel) rfl rfl (Nat.le_of_ble_eq_true rfl) dX7_init_17 (fun H locs hP hD hS => ?_)
  have hP : va_P (vD G) vwCl [(h0, .inr (7, [.int 0, .int 0, .ref q1, .ref q2, .null, .null])), (q1, .inl (cI G, 10, .inl z0)), (q2, .inl (cI G, 10, .inl z0))] H := hP
  have hD : va_D A [(h0, .inr (7, [.int 0, .int 0, .ref q1, .ref q2, .null, .null])), (q1, .inl (cI G, 10, .inl z0)), (q2, .inl (cI G, 10, .inl z0))] := hD
  refine lv_aload_n hx hb dX7_init_20 rfl (lv_at hl 0 rfl) ?_
  refine lv_bipush (v := 20) hx hb dX7_init_21 (by decide) ?_
  refine va_newa (atype := .int) (ty := .int) (n := 20) (N' := 20) (a0 := (20, .inl z0)) hx hb (hts (.arrayClass .int) (by decide +kernel)) rfl hK hP hD hS hA (fun _ => rfl) (by decide) rfl (Nat.le_of_ble_eq_true rfl) (Nat.le_of_ble_eq_true rfl) (Nat.le_of_ble_eq_true rfl) dX7_init_23 (fun q3 cA H hK1 hP hD hS => ?_)
  have e1 := k_int hK1 0 rfl
  subst e1
  clear hK1
  have hP : va_P (vD G) vwCl [(h0, .inr (7, [.int 0, .int 0, .ref q1, .ref q2, .null, .null])), (q1, .inl (cI G, 10, .inl z0)), (q2, .inl (cI G, 10, .inl z0)), (q3, .inl (cI G, 20, .inl z0))] H := hP
  have hD : va_D A [(h0, .inr (7, [.int 0, .int 0, .ref q1, .ref q2, .null, .null])), (q1, .inl (cI G, 10, .inl z0)), (q2, .inl (cI G, 10, .inl z0)), (q3, .inl (cI G, 20, .inl z0))] := hD
  refine W.widen (k := 3) (n := 40) (Nat.le_of_ble_eq_true rfl) (Nat.le_of_ble_eq_true rfl) ?_
  refine va_putF (D := vD G) (ci := 7) (v := .ref q3) (ty := .array .int) (C := RX7) (T := TX7) (N := 6) hx hb hts (by decide +kernel) tyX7 tyX7_ok nmX7 hown hK hP hD hS 0 rfl rfl 5 (by decide) (hts (.fieldLink RX7 18 "LevelLoops$Tree" "order" "[I") (by decide +kernel)) (fun _ h9 => h9) rfl hin rfl (by decide +kernel) rfl rfl (Nat.le_of_ble_eq_true rfl) dX7_init_25 (fun H locs hP hD hS => ?_)
  have hP : va_P (vD G) vwCl [(h0, .inr (7, [.int 0, .int 0, .ref q1, .ref q2, .null, .ref q3])), (q1, .inl (cI G, 10, .inl z0)), (q2, .inl (cI G, 10, .inl z0)), (q3, .inl (cI G, 20, .inl z0))] H := hP
  have hD : va_D A [(h0, .inr (7, [.int 0, .int 0, .ref q1, .ref q2, .null, .ref q3])), (q1, .inl (cI G, 10, .inl z0)), (q2, .inl (cI G, 10, .inl z0)), (q3, .inl (cI G, 20, .inl z0))] := hD
  refine lv_aload_n hx hb dX7_init_28 rfl (lv_at hl 0 rfl) ?_
  refine lv_aload_n hx hb dX7_init_29 rfl (lv_at hl 1 rfl) ?_
  refine va_putF (D := vD G) (ci := 7) (v := .ref sv) (ty := .object "LevelLoops$Survey") (C := RX7) (T := TX7) (N := 6) hx hb hts (by decide +kernel) tyX7 tyX7_ok nmX7 hown hK hP hD hS 0 rfl rfl 4 (by decide) (hts (.fieldLink RX7 21 "LevelLoops$Tree" "survey" "LLevelLoops$Survey;") (by decide +kernel)) (fun _ h9 => h9) rfl hin rfl (by decide +kernel) rfl rfl (Nat.le_of_ble_eq_true rfl) dX7_init_30 (fun H locs hP hD hS => ?_)
  have hP : va_P (vD G) vwCl [(h0, .inr (7, [.int 0, .int 0, .ref q1, .ref q2, .ref sv, .ref q3])), (q1, .inl (cI G, 10, .inl z0)), (q2, .inl (cI G, 10, .inl z0)), (q3, .inl (cI G, 20, .inl z0))] H := hP
  have hD : va_D A [(h0, .inr (7, [.int 0, .int 0, .ref q1, .ref q2, .ref sv, .ref q3])), (q1, .inl (cI G, 10, .inl z0)), (q2, .inl (cI G, 10, .inl z0)), (q3, .inl (cI G, 20, .inl z0))] := hD
  have hP9 := hP.sub (ws' := [(h0, .inr (7, [.int 0, .int 0, .ref q1, .ref q2, .ref sv, .ref q3])), (q1, .inl (cI G, 10, .inl z0)), (q2, .inl (cI G, 10, .inl z0)), (q3, .inl (cI G, 20, .inl z0))]) [0, 1, 2, 3] rfl
  have hD9 := hD.sub (ws' := [(h0, .inr (7, [.int 0, .int 0, .ref q1, .ref q2, .ref sv, .ref q3])), (q1, .inl (cI G, 10, .inl z0)), (q2, .inl (cI G, 10, .inl z0)), (q3, .inl (cI G, 20, .inl z0))]) [0, 1, 2, 3] (by decide) rfl
  exact W.vret hx hb hr (fun t ht hW => ⟨⟨(fun a b => if a = 0 then (if b = 8 then h0 else if b = 9 then q1 else if b = 10 then q2 else if b = 11 then q3 else 0) else 0), rfl, rfl, by rw [ht]; exact hP9, hD9⟩, hS.F ht⟩) hS.2.2 dX7_init_33
theorem dX2_init_0 : decode cX2_init 0 = .ok (.aload_n 0, 1) := by decide +kernel
theorem dX2_init_1 : decode cX2_init 1 = .ok (.invokespecial 3, 3) := by decide +kernel
theorem dX2_init_4 : decode cX2_init 4 = .ok (.aload_n 0, 1) := by decide +kernel
theorem dX2_init_5 : decode cX2_init 5 = .ok (.bipush 20, 2) := by decide +kernel
theorem dX2_init_7 : decode cX2_init 7 = .ok (.newarray .int, 2) := by decide +kernel
theorem dX2_init_9 : decode cX2_init 9 = .ok (.putfield 9, 3) := by decide +kernel
theorem dX2_init_12 : decode cX2_init 12 = .ok (.aload_n 0, 1) := by decide +kernel
theorem dX2_init_13 : decode cX2_init 13 = .ok (.bipush 20, 2) := by decide +kernel
theorem dX2_init_15 : decode cX2_init 15 = .ok (.newarray .int, 2) := by decide +kernel
theorem dX2_init_17 : decode cX2_init 17 = .ok (.putfield 15, 3) := by decide +kernel
theorem dX2_init_20 : decode cX2_init 20 = .ok (.aload_n 0, 1) := by decide +kernel
theorem dX2_init_21 : decode cX2_init 21 = .ok (.bipush 20, 2) := by decide +kernel
theorem dX2_init_23 : decode cX2_init 23 = .ok (.newarray .int, 2) := by decide +kernel
theorem dX2_init_25 : decode cX2_init 25 = .ok (.putfield 18, 3) := by decide +kernel
theorem dX2_init_28 : decode cX2_init 28 = .ok (.aload_n 0, 1) := by decide +kernel
theorem dX2_init_29 : decode cX2_init 29 = .ok (.bipush 20, 2) := by decide +kernel
theorem dX2_init_31 : decode cX2_init 31 = .ok (.newarray .int, 2) := by decide +kernel
theorem dX2_init_33 : decode cX2_init 33 = .ok (.putfield 21, 3) := by decide +kernel
theorem dX2_init_36 : decode cX2_init 36 = .ok (.aload_n 0, 1) := by decide +kernel
theorem dX2_init_37 : decode cX2_init 37 = .ok (.bipush 20, 2) := by decide +kernel
theorem dX2_init_39 : decode cX2_init 39 = .ok (.newarray .int, 2) := by decide +kernel
theorem dX2_init_41 : decode cX2_init 41 = .ok (.putfield 24, 3) := by decide +kernel
theorem dX2_init_44 : decode cX2_init 44 = .ok (.aload_n 0, 1) := by decide +kernel
theorem dX2_init_45 : decode cX2_init 45 = .ok (.bipush 20, 2) := by decide +kernel
theorem dX2_init_47 : decode cX2_init 47 = .ok (.newarray .int, 2) := by decide +kernel
theorem dX2_init_49 : decode cX2_init 49 = .ok (.putfield 27, 3) := by decide +kernel
theorem dX2_init_52 : decode cX2_init 52 = .ok (.aload_n 0, 1) := by decide +kernel
theorem dX2_init_53 : decode cX2_init 53 = .ok (.bipush 20, 2) := by decide +kernel
theorem dX2_init_55 : decode cX2_init 55 = .ok (.newarray .int, 2) := by decide +kernel
theorem dX2_init_57 : decode cX2_init 57 = .ok (.putfield 30, 3) := by decide +kernel
theorem dX2_init_60 : decode cX2_init 60 = .ok (.aload_n 0, 1) := by decide +kernel
theorem dX2_init_61 : decode cX2_init 61 = .ok (.bipush 20, 2) := by decide +kernel
theorem dX2_init_63 : decode cX2_init 63 = .ok (.newarray .int, 2) := by decide +kernel
theorem dX2_init_65 : decode cX2_init 65 = .ok (.putfield 33, 3) := by decide +kernel
theorem dX2_init_68 : decode cX2_init 68 = .ok (.aload_n 0, 1) := by decide +kernel
theorem dX2_init_69 : decode cX2_init 69 = .ok (.bipush 20, 2) := by decide +kernel
theorem dX2_init_71 : decode cX2_init 71 = .ok (.newarray .int, 2) := by decide +kernel
theorem dX2_init_73 : decode cX2_init 73 = .ok (.putfield 36, 3) := by decide +kernel
theorem dX2_init_76 : decode cX2_init 76 = .ok (.aload_n 0, 1) := by decide +kernel
theorem dX2_init_77 : decode cX2_init 77 = .ok (.aload_n 1, 1) := by decide +kernel
theorem dX2_init_78 : decode cX2_init 78 = .ok (.putfield 39, 3) := by decide +kernel
theorem dX2_init_81 : decode cX2_init 81 = .ok (.aload_n 0, 1) := by decide +kernel
theorem dX2_init_82 : decode cX2_init 82 = .ok (.aload_n 2, 1) := by decide +kernel
theorem dX2_init_83 : decode cX2_init 83 = .ok (.putfield 43, 3) := by decide +kernel
theorem dX2_init_86 : decode cX2_init 86 = .ok (.return_, 1) := by decide +kernel
set_option maxHeartbeats 4000000 in
set_option maxRecDepth 100000 in
theorem c_X2_init (G : Gt) (h0 sv tr sz : Nat) : MetC G yX2_init wsX2_init ({ frames := 1, cells := 9, slots := 180, locals := 12 }) [.ref h0, .ref sv, .ref tr] sz [(h0, .inr (2, [.int 0, .null, .null, .null, .int 0, .null, .null, .null, .null, .null, .null, .null, .null]))] (fun u => u 0 12 = h0) (fun u => [((u 0 12), .inr (2, [.int 0, .ref (u 0 13), .ref sv, .ref tr, .int 0, .ref (u 0 14), .ref (u 0 15), .ref (u 0 16), .ref (u 0 17), .ref (u 0 18), .ref (u 0 19), .ref (u 0 20), .ref (u 0 21)])), ((u 0 13), .inl (cI G, 20, .inl z0)), ((u 0 14), .inl (cI G, 20, .inl z0)), ((u 0 15), .inl (cI G, 20, .inl z0)), ((u 0 16), .inl (cI G, 20, .inl z0)), ((u 0 17), .inl (cI G, 20, .inl z0)), ((u 0 18), .inl (cI G, 20, .inl z0)), ((u 0 19), .inl (cI G, 20, .inl z0)), ((u 0 20), .inl (cI G, 20, .inl z0)), ((u 0 21), .inl (cI G, 20, .inl z0))]) 9 180 := by
  refine Met.ofW (cc := cX2_init) (maxL := 3) (ret := none) (by decide +kernel) rfl ?_
  intro p e s m args below meth c s₁ B hml hv
  obtain ⟨rfl, hsz, hP, hKK, hO, hD0⟩ := hv
  have hK := hKK.1
  have hx := B.exec
  have hb := B.bytes
  have hr := B.returns
  have hts := atoms_spec (ws := wsX2_init) B.pre
  have hown : s.vm.findClass RX2 = some m.cls := findClass_of_methodNamed B.named
  have hin : meth.name = "<init>" := (name_of_methodNamed B.named B.method).1
  subst hsz
  have hD := hD0.self (sz := s.heap.size)
  generalize hAe : va_A [(h0, .inr (2, [.int 0, .null, .null, .null, .int 0, .null, .null, .null, .null, .null, .null, .null, .null]))] s.heap.size = A at hD ⊢
  have hA : ∀ q : Nat, s.heap.size ≤ q → A q := fun q h => by rw [← hAe]; exact Or.inr h
  have hS : va_S A s.heap s.heap [] := va_S.rf
  have hl := lv_entry ([.ref h0, .ref sv, .ref tr]) (n := 3) (Nat.le_of_ble_eq_true rfl)
  rw [lg_entry_eq]
  generalize (lg_sl ([.ref h0, .ref sv, .ref tr]) ++ List.replicate (3 - (lg_sl ([.ref h0, .ref sv, .ref tr])).length) Slot.unset).toArray = ls at hl ⊢
  have hl : lv_has ls 3 [(0, .ref h0), (1, .ref sv), (2, .ref tr)] := hl
  refine lv_aload_n hx hb dX2_init_0 rfl (lv_at hl 0 rfl) ?_
  refine W.objInit hx hb hown (hts (.methodLink RX2 3 objectInit) (by decide +kernel)) (hts (.instanceMethod objectInit) (by decide +kernel)) (hts _ (List.mem_cons_of_mem _ (List.mem_of_getElem? (i := 2) rfl))) rfl (by rw [hml]; exact hl.1) rfl dX2_init_1 (Nat.le_of_ble_eq_true rfl) (Nat.le_of_ble_eq_true rfl) ?_
  refine W.eq (g2 := F0 m 4 ls []) rfl ?_
  refine lv_aload_n hx hb dX2_init_4 rfl (lv_at hl 0 rfl) ?_
  refine lv_bipush (v := 20) hx hb dX2_init_5 (by decide) ?_
  refine va_newa (atype := .int) (ty := .int) (n := 20) (N' := 20) (a0 := (20, .inl z0)) hx hb (hts (.arrayClass .int) (by decide +kernel)) rfl hK hP hD hS hA (fun _ => rfl) (by decide) rfl (Nat.le_of_ble_eq_true rfl) (Nat.le_of_ble_eq_true rfl) (Nat.le_of_ble_eq_true rfl) dX2_init_7 (fun q1 cA H hK1 hP hD hS => ?_)
  have e1 := k_int hK1 0 rfl
  subst e1
  clear hK1
  have hP : va_P (vD G) vwCl [(h0, .inr (2, [.int 0, .null, .null, .null, .int 0, .null, .null, .null, .null, .null, .null, .null, .null])), (q1, .inl (cI G, 20, .inl z0))] H := hP
  have hD : va_D A [(h0, .inr (2, [.int 0, .null, .null, .null, .int 0, .null, .null, .null, .null, .null, .null, .null, .null])), (q1, .inl (cI G, 20, .inl z0))] := hD
  refine W.widen (k := 1) (n := 20) (Nat.le_of_ble_eq_true rfl) (Nat.le_of_ble_eq_true rfl) ?_
  refine va_putF (D := vD G) (ci := 2) (v := .ref q1) (ty := .array .int) (C := RX2) (T := TX2) (N := 13) hx hb hts (by decide +kernel) tyX2 tyX2_ok nmX2 hown hK hP hD hS 0 rfl rfl 1 (by decide) (hts (.fieldLink RX2 9 "LevelLoops$Loops" "correction" "[I") (by decide +kernel)) (fun _ h9 => h9) rfl hin rfl (by decide +kernel) rfl rfl (Nat.le_of_ble_eq_true rfl) dX2_init_9 (fun H locs hP hD hS => ?_)
  have hP : va_P (vD G) vwCl [(h0, .inr (2, [.int 0, .ref q1, .null, .null, .int 0, .null, .null, .null, .null, .null, .null, .null, .null])), (q1, .inl (cI G, 20, .inl z0))] H := hP
  have hD : va_D A [(h0, .inr (2, [.int 0, .ref q1, .null, .null, .int 0, .null, .null, .null, .null, .null, .null, .null, .null])), (q1, .inl (cI G, 20, .inl z0))] := hD
  refine lv_aload_n hx hb dX2_init_12 rfl (lv_at hl 0 rfl) ?_
  refine lv_bipush (v := 20) hx hb dX2_init_13 (by decide) ?_
  refine va_newa (atype := .int) (ty := .int) (n := 20) (N' := 20) (a0 := (20, .inl z0)) hx hb (hts (.arrayClass .int) (by decide +kernel)) rfl hK hP hD hS hA (fun _ => rfl) (by decide) rfl (Nat.le_of_ble_eq_true rfl) (Nat.le_of_ble_eq_true rfl) (Nat.le_of_ble_eq_true rfl) dX2_init_15 (fun q2 cA H hK1 hP hD hS => ?_)
  have e1 := k_int hK1 0 rfl
  subst e1
  clear hK1
  have hP : va_P (vD G) vwCl [(h0, .inr (2, [.int 0, .ref q1, .null, .null, .int 0, .null, .null, .null, .null, .null, .null, .null, .null])), (q1, .inl (cI G, 20, .inl z0)), (q2, .inl (cI G, 20, .inl z0))] H := hP
  have hD : va_D A [(h0, .inr (2, [.int 0, .ref q1, .null, .null, .int 0, .null, .null, .null, .null, .null, .null, .null, .null])), (q1, .inl (cI G, 20, .inl z0)), (q2, .inl (cI G, 20, .inl z0))] := hD
  refine W.widen (k := 2) (n := 40) (Nat.le_of_ble_eq_true rfl) (Nat.le_of_ble_eq_true rfl) ?_
  refine va_putF (D := vD G) (ci := 2) (v := .ref q2) (ty := .array .int) (C := RX2) (T := TX2) (N := 13) hx hb hts (by decide +kernel) tyX2 tyX2_ok nmX2 hown hK hP hD hS 0 rfl rfl 5 (by decide) (hts (.fieldLink RX2 15 "LevelLoops$Loops" "closing" "[I") (by decide +kernel)) (fun _ h9 => h9) rfl hin rfl (by decide +kernel) rfl rfl (Nat.le_of_ble_eq_true rfl) dX2_init_17 (fun H locs hP hD hS => ?_)
  have hP : va_P (vD G) vwCl [(h0, .inr (2, [.int 0, .ref q1, .null, .null, .int 0, .ref q2, .null, .null, .null, .null, .null, .null, .null])), (q1, .inl (cI G, 20, .inl z0)), (q2, .inl (cI G, 20, .inl z0))] H := hP
  have hD : va_D A [(h0, .inr (2, [.int 0, .ref q1, .null, .null, .int 0, .ref q2, .null, .null, .null, .null, .null, .null, .null])), (q1, .inl (cI G, 20, .inl z0)), (q2, .inl (cI G, 20, .inl z0))] := hD
  refine lv_aload_n hx hb dX2_init_20 rfl (lv_at hl 0 rfl) ?_
  refine lv_bipush (v := 20) hx hb dX2_init_21 (by decide) ?_
  refine va_newa (atype := .int) (ty := .int) (n := 20) (N' := 20) (a0 := (20, .inl z0)) hx hb (hts (.arrayClass .int) (by decide +kernel)) rfl hK hP hD hS hA (fun _ => rfl) (by decide) rfl (Nat.le_of_ble_eq_true rfl) (Nat.le_of_ble_eq_true rfl) (Nat.le_of_ble_eq_true rfl) dX2_init_23 (fun q3 cA H hK1 hP hD hS => ?_)
  have e1 := k_int hK1 0 rfl
  subst e1
  clear hK1
  have hP : va_P (vD G) vwCl [(h0, .inr (2, [.int 0, .ref q1, .null, .null, .int 0, .ref q2, .null, .null, .null, .null, .null, .null, .null])), (q1, .inl (cI G, 20, .inl z0)), (q2, .inl (cI G, 20, .inl z0)), (q3, .inl (cI G, 20, .inl z0))] H := hP
  have hD : va_D A [(h0, .inr (2, [.int 0, .ref q1, .null, .null, .int 0, .ref q2, .null, .null, .null, .null, .null, .null, .null])), (q1, .inl (cI G, 20, .inl z0)), (q2, .inl (cI G, 20, .inl z0)), (q3, .inl (cI G, 20, .inl z0))] := hD
  refine W.widen (k := 3) (n := 60) (Nat.le_of_ble_eq_true rfl) (Nat.le_of_ble_eq_true rfl) ?_
  refine va_putF (D := vD G) (ci := 2) (v := .ref q3) (ty := .array .int) (C := RX2) (T := TX2) (N := 13) hx hb hts (by decide +kernel) tyX2 tyX2_ok nmX2 hown hK hP hD hS 0 rfl rfl 6 (by decide) (hts (.fieldLink RX2 18 "LevelLoops$Loops" "legs" "[I") (by decide +kernel)) (fun _ h9 => h9) rfl hin rfl (by decide +kernel) rfl rfl (Nat.le_of_ble_eq_true rfl) dX2_init_25 (fun H locs hP hD hS => ?_)
  have hP : va_P (vD G) vwCl [(h0, .inr (2, [.int 0, .ref q1, .null, .null, .int 0, .ref q2, .ref q3, .null, .null, .null, .null, .null, .null])), (q1, .inl (cI G, 20, .inl z0)), (q2, .inl (cI G, 20, .inl z0)), (q3, .inl (cI G, 20, .inl z0))] H := hP
  have hD : va_D A [(h0, .inr (2, [.int 0, .ref q1, .null, .null, .int 0, .ref q2, .ref q3, .null, .null, .null, .null, .null, .null])), (q1, .inl (cI G, 20, .inl z0)), (q2, .inl (cI G, 20, .inl z0)), (q3, .inl (cI G, 20, .inl z0))] := hD
  refine lv_aload_n hx hb dX2_init_28 rfl (lv_at hl 0 rfl) ?_
  refine lv_bipush (v := 20) hx hb dX2_init_29 (by decide) ?_
  refine va_newa (atype := .int) (ty := .int) (n := 20) (N' := 20) (a0 := (20, .inl z0)) hx hb (hts (.arrayClass .int) (by decide +kernel)) rfl hK hP hD hS hA (fun _ => rfl) (by decide) rfl (Nat.le_of_ble_eq_true rfl) (Nat.le_of_ble_eq_true rfl) (Nat.le_of_ble_eq_true rfl) dX2_init_31 (fun q4 cA H hK1 hP hD hS => ?_)
  have e1 := k_int hK1 0 rfl
  subst e1
  clear hK1
  have hP : va_P (vD G) vwCl [(h0, .inr (2, [.int 0, .ref q1, .null, .null, .int 0, .ref q2, .ref q3, .null, .null, .null, .null, .null, .null])), (q1, .inl (cI G, 20, .inl z0)), (q2, .inl (cI G, 20, .inl z0)), (q3, .inl (cI G, 20, .inl z0)), (q4, .inl (cI G, 20, .inl z0))] H := hP
  have hD : va_D A [(h0, .inr (2, [.int 0, .ref q1, .null, .null, .int 0, .ref q2, .ref q3, .null, .null, .null, .null, .null, .null])), (q1, .inl (cI G, 20, .inl z0)), (q2, .inl (cI G, 20, .inl z0)), (q3, .inl (cI G, 20, .inl z0)), (q4, .inl (cI G, 20, .inl z0))] := hD
  refine W.widen (k := 4) (n := 80) (Nat.le_of_ble_eq_true rfl) (Nat.le_of_ble_eq_true rfl) ?_
  refine va_putF (D := vD G) (ci := 2) (v := .ref q4) (ty := .array .int) (C := RX2) (T := TX2) (N := 13) hx hb hts (by decide +kernel) tyX2 tyX2_ok nmX2 hown hK hP hD hS 0 rfl rfl 7 (by decide) (hts (.fieldLink RX2 21 "LevelLoops$Loops" "length" "[I") (by decide +kernel)) (fun _ h9 => h9) rfl hin rfl (by decide +kernel) rfl rfl (Nat.le_of_ble_eq_true rfl) dX2_init_33 (fun H locs hP hD hS => ?_)
  have hP : va_P (vD G) vwCl [(h0, .inr (2, [.int 0, .ref q1, .null, .null, .int 0, .ref q2, .ref q3, .ref q4, .null, .null, .null, .null, .null])), (q1, .inl (cI G, 20, .inl z0)), (q2, .inl (cI G, 20, .inl z0)), (q3, .inl (cI G, 20, .inl z0)), (q4, .inl (cI G, 20, .inl z0))] H := hP
  have hD : va_D A [(h0, .inr (2, [.int 0, .ref q1, .null, .null, .int 0, .ref q2, .ref q3, .ref q4, .null, .null, .null, .null, .null])), (q1, .inl (cI G, 20, .inl z0)), (q2, .inl (cI G, 20, .inl z0)), (q3, .inl (cI G, 20, .inl z0)), (q4, .inl (cI G, 20, .inl z0))] := hD
  refine lv_aload_n hx hb dX2_init_36 rfl (lv_at hl 0 rfl) ?_
  refine lv_bipush (v := 20) hx hb dX2_init_37 (by decide) ?_
  refine va_newa (atype := .int) (ty := .int) (n := 20) (N' := 20) (a0 := (20, .inl z0)) hx hb (hts (.arrayClass .int) (by decide +kernel)) rfl hK hP hD hS hA (fun _ => rfl) (by decide) rfl (Nat.le_of_ble_eq_true rfl) (Nat.le_of_ble_eq_true rfl) (Nat.le_of_ble_eq_true rfl) dX2_init_39 (fun q5 cA H hK1 hP hD hS => ?_)
  have e1 := k_int hK1 0 rfl
  subst e1
  clear hK1
  have hP : va_P (vD G) vwCl [(h0, .inr (2, [.int 0, .ref q1, .null, .null, .int 0, .ref q2, .ref q3, .ref q4, .null, .null, .null, .null, .null])), (q1, .inl (cI G, 20, .inl z0)), (q2, .inl (cI G, 20, .inl z0)), (q3, .inl (cI G, 20, .inl z0)), (q4, .inl (cI G, 20, .inl z0)), (q5, .inl (cI G, 20, .inl z0))] H := hP
  have hD : va_D A [(h0, .inr (2, [.int 0, .ref q1, .null, .null, .int 0, .ref q2, .ref q3, .ref q4, .null, .null, .null, .null, .null])), (q1, .inl (cI G, 20, .inl z0)), (q2, .inl (cI G, 20, .inl z0)), (q3, .inl (cI G, 20, .inl z0)), (q4, .inl (cI G, 20, .inl z0)), (q5, .inl (cI G, 20, .inl z0))] := hD
  refine W.widen (k := 5) (n := 100) (Nat.le_of_ble_eq_true rfl) (Nat.le_of_ble_eq_true rfl) ?_
  refine va_putF (D := vD G) (ci := 2) (v := .ref q5) (ty := .array .int) (C := RX2) (T := TX2) (N := 13) hx hb hts (by decide +kernel) tyX2 tyX2_ok nmX2 hown hK hP hD hS 0 rfl rfl 8 (by decide) (hts (.fieldLink RX2 24 "LevelLoops$Loops" "forward" "[I") (by decide +kernel)) (fun _ h9 => h9) rfl hin rfl (by decide +kernel) rfl rfl (Nat.le_of_ble_eq_true rfl) dX2_init_41 (fun H locs hP hD hS => ?_)
  have hP : va_P (vD G) vwCl [(h0, .inr (2, [.int 0, .ref q1, .null, .null, .int 0, .ref q2, .ref q3, .ref q4, .ref q5, .null, .null, .null, .null])), (q1, .inl (cI G, 20, .inl z0)), (q2, .inl (cI G, 20, .inl z0)), (q3, .inl (cI G, 20, .inl z0)), (q4, .inl (cI G, 20, .inl z0)), (q5, .inl (cI G, 20, .inl z0))] H := hP
  have hD : va_D A [(h0, .inr (2, [.int 0, .ref q1, .null, .null, .int 0, .ref q2, .ref q3, .ref q4, .ref q5, .null, .null, .null, .null])), (q1, .inl (cI G, 20, .inl z0)), (q2, .inl (cI G, 20, .inl z0)), (q3, .inl (cI G, 20, .inl z0)), (q4, .inl (cI G, 20, .inl z0)), (q5, .inl (cI G, 20, .inl z0))] := hD
  refine lv_aload_n hx hb dX2_init_44 rfl (lv_at hl 0 rfl) ?_
  refine lv_bipush (v := 20) hx hb dX2_init_45 (by decide) ?_
  refine va_newa (atype := .int) (ty := .int) (n := 20) (N' := 20) (a0 := (20, .inl z0)) hx hb (hts (.arrayClass .int) (by decide +kernel)) rfl hK hP hD hS hA (fun _ => rfl) (by decide) rfl (Nat.le_of_ble_eq_true rfl) (Nat.le_of_ble_eq_true rfl) (Nat.le_of_ble_eq_true rfl) dX2_init_47 (fun q6 cA H hK1 hP hD hS => ?_)
  have e1 := k_int hK1 0 rfl
  subst e1
  clear hK1
  have hP : va_P (vD G) vwCl [(h0, .inr (2, [.int 0, .ref q1, .null, .null, .int 0, .ref q2, .ref q3, .ref q4, .ref q5, .null, .null, .null, .null])), (q1, .inl (cI G, 20, .inl z0)), (q2, .inl (cI G, 20, .inl z0)), (q3, .inl (cI G, 20, .inl z0)), (q4, .inl (cI G, 20, .inl z0)), (q5, .inl (cI G, 20, .inl z0)), (q6, .inl (cI G, 20, .inl z0))] H := hP
  have hD : va_D A [(h0, .inr (2, [.int 0, .ref q1, .null, .null, .int 0, .ref q2, .ref q3, .ref q4, .ref q5, .null, .null, .null, .null])), (q1, .inl (cI G, 20, .inl z0)), (q2, .inl (cI G, 20, .inl z0)), (q3, .inl (cI G, 20, .inl z0)), (q4, .inl (cI G, 20, .inl z0)), (q5, .inl (cI G, 20, .inl z0)), (q6, .inl (cI G, 20, .inl z0))] := hD
  refine W.widen (k := 6) (n := 120) (Nat.le_of_ble_eq_true rfl) (Nat.le_of_ble_eq_true rfl) ?_
  refine va_putF (D := vD G) (ci := 2) (v := .ref q6) (ty := .array .int) (C := RX2) (T := TX2) (N := 13) hx hb hts (by decide +kernel) tyX2 tyX2_ok nmX2 hown hK hP hD hS 0 rfl rfl 9 (by decide) (hts (.fieldLink RX2 27 "LevelLoops$Loops" "miss" "[I") (by decide +kernel)) (fun _ h9 => h9) rfl hin rfl (by decide +kernel) rfl rfl (Nat.le_of_ble_eq_true rfl) dX2_init_49 (fun H locs hP hD hS => ?_)
  have hP : va_P (vD G) vwCl [(h0, .inr (2, [.int 0, .ref q1, .null, .null, .int 0, .ref q2, .ref q3, .ref q4, .ref q5, .ref q6, .null, .null, .null])), (q1, .inl (cI G, 20, .inl z0)), (q2, .inl (cI G, 20, .inl z0)), (q3, .inl (cI G, 20, .inl z0)), (q4, .inl (cI G, 20, .inl z0)), (q5, .inl (cI G, 20, .inl z0)), (q6, .inl (cI G, 20, .inl z0))] H := hP
  have hD : va_D A [(h0, .inr (2, [.int 0, .ref q1, .null, .null, .int 0, .ref q2, .ref q3, .ref q4, .ref q5, .ref q6, .null, .null, .null])), (q1, .inl (cI G, 20, .inl z0)), (q2, .inl (cI G, 20, .inl z0)), (q3, .inl (cI G, 20, .inl z0)), (q4, .inl (cI G, 20, .inl z0)), (q5, .inl (cI G, 20, .inl z0)), (q6, .inl (cI G, 20, .inl z0))] := hD
  refine lv_aload_n hx hb dX2_init_52 rfl (lv_at hl 0 rfl) ?_
  refine lv_bipush (v := 20) hx hb dX2_init_53 (by decide) ?_
  refine va_newa (atype := .int) (ty := .int) (n := 20) (N' := 20) (a0 := (20, .inl z0)) hx hb (hts (.arrayClass .int) (by decide +kernel)) rfl hK hP hD hS hA (fun _ => rfl) (by decide) rfl (Nat.le_of_ble_eq_true rfl) (Nat.le_of_ble_eq_true rfl) (Nat.le_of_ble_eq_true rfl) dX2_init_55 (fun q7 cA H hK1 hP hD hS => ?_)
  have e1 := k_int hK1 0 rfl
  subst e1
  clear hK1
  have hP : va_P (vD G) vwCl [(h0, .inr (2, [.int 0, .ref q1, .null, .null, .int 0, .ref q2, .ref q3, .ref q4, .ref q5, .ref q6, .null, .null, .null])), (q1, .inl (cI G, 20, .inl z0)), (q2, .inl (cI G, 20, .inl z0)), (q3, .inl (cI G, 20, .inl z0)), (q4, .inl (cI G, 20, .inl z0)), (q5, .inl (cI G, 20, .inl z0)), (q6, .inl (cI G, 20, .inl z0)), (q7, .inl (cI G, 20, .inl z0))] H := hP
  have hD : va_D A [(h0, .inr (2, [.int 0, .ref q1, .null, .null, .int 0, .ref q2, .ref q3, .ref q4, .ref q5, .ref q6, .null, .null, .null])), (q1, .inl (cI G, 20, .inl z0)), (q2, .inl (cI G, 20, .inl z0)), (q3, .inl (cI G, 20, .inl z0)), (q4, .inl (cI G, 20, .inl z0)), (q5, .inl (cI G, 20, .inl z0)), (q6, .inl (cI G, 20, .inl z0)), (q7, .inl (cI G, 20, .inl z0))] := hD
  refine W.widen (k := 7) (n := 140) (Nat.le_of_ble_eq_true rfl) (Nat.le_of_ble_eq_true rfl) ?_
  refine va_putF (D := vD G) (ci := 2) (v := .ref q7) (ty := .array .int) (C := RX2) (T := TX2) (N := 13) hx hb hts (by decide +kernel) tyX2 tyX2_ok nmX2 hown hK hP hD hS 0 rfl rfl 10 (by decide) (hts (.fieldLink RX2 30 "LevelLoops$Loops" "spreadMiss" "[I") (by decide +kernel)) (fun _ h9 => h9) rfl hin rfl (by decide +kernel) rfl rfl (Nat.le_of_ble_eq_true rfl) dX2_init_57 (fun H locs hP hD hS => ?_)
  have hP : va_P (vD G) vwCl [(h0, .inr (2, [.int 0, .ref q1, .null, .null, .int 0, .ref q2, .ref q3, .ref q4, .ref q5, .ref q6, .ref q7, .null, .null])), (q1, .inl (cI G, 20, .inl z0)), (q2, .inl (cI G, 20, .inl z0)), (q3, .inl (cI G, 20, .inl z0)), (q4, .inl (cI G, 20, .inl z0)), (q5, .inl (cI G, 20, .inl z0)), (q6, .inl (cI G, 20, .inl z0)), (q7, .inl (cI G, 20, .inl z0))] H := hP
  have hD : va_D A [(h0, .inr (2, [.int 0, .ref q1, .null, .null, .int 0, .ref q2, .ref q3, .ref q4, .ref q5, .ref q6, .ref q7, .null, .null])), (q1, .inl (cI G, 20, .inl z0)), (q2, .inl (cI G, 20, .inl z0)), (q3, .inl (cI G, 20, .inl z0)), (q4, .inl (cI G, 20, .inl z0)), (q5, .inl (cI G, 20, .inl z0)), (q6, .inl (cI G, 20, .inl z0)), (q7, .inl (cI G, 20, .inl z0))] := hD
  refine lv_aload_n hx hb dX2_init_60 rfl (lv_at hl 0 rfl) ?_
  refine lv_bipush (v := 20) hx hb dX2_init_61 (by decide) ?_
  refine va_newa (atype := .int) (ty := .int) (n := 20) (N' := 20) (a0 := (20, .inl z0)) hx hb (hts (.arrayClass .int) (by decide +kernel)) rfl hK hP hD hS hA (fun _ => rfl) (by decide) rfl (Nat.le_of_ble_eq_true rfl) (Nat.le_of_ble_eq_true rfl) (Nat.le_of_ble_eq_true rfl) dX2_init_63 (fun q8 cA H hK1 hP hD hS => ?_)
  have e1 := k_int hK1 0 rfl
  subst e1
  clear hK1
  have hP : va_P (vD G) vwCl [(h0, .inr (2, [.int 0, .ref q1, .null, .null, .int 0, .ref q2, .ref q3, .ref q4, .ref q5, .ref q6, .ref q7, .null, .null])), (q1, .inl (cI G, 20, .inl z0)), (q2, .inl (cI G, 20, .inl z0)), (q3, .inl (cI G, 20, .inl z0)), (q4, .inl (cI G, 20, .inl z0)), (q5, .inl (cI G, 20, .inl z0)), (q6, .inl (cI G, 20, .inl z0)), (q7, .inl (cI G, 20, .inl z0)), (q8, .inl (cI G, 20, .inl z0))] H := hP
  have hD : va_D A [(h0, .inr (2, [.int 0, .ref q1, .null, .null, .int 0, .ref q2, .ref q3, .ref q4, .ref q5, .ref q6, .ref q7, .null, .null])), (q1, .inl (cI G, 20, .inl z0)), (q2, .inl (cI G, 20, .inl z0)), (q3, .inl (cI G, 20, .inl z0)), (q4, .inl (cI G, 20, .inl z0)), (q5, .inl (cI G, 20, .inl z0)), (q6, .inl (cI G, 20, .inl z0)), (q7, .inl (cI G, 20, .inl z0)), (q8, .inl (cI G, 20, .inl z0))] := hD
  refine W.widen (k := 8) (n := 160) (Nat.le_of_ble_eq_true rfl) (Nat.le_of_ble_eq_true rfl) ?_
  refine va_putF (D := vD G) (ci := 2) (v := .ref q8) (ty := .array .int) (C := RX2) (T := TX2) (N := 13) hx hb hts (by decide +kernel) tyX2 tyX2_ok nmX2 hown hK hP hD hS 0 rfl rfl 11 (by decide) (hts (.fieldLink RX2 33 "LevelLoops$Loops" "share" "[I") (by decide +kernel)) (fun _ h9 => h9) rfl hin rfl (by decide +kernel) rfl rfl (Nat.le_of_ble_eq_true rfl) dX2_init_65 (fun H locs hP hD hS => ?_)
  have hP : va_P (vD G) vwCl [(h0, .inr (2, [.int 0, .ref q1, .null, .null, .int 0, .ref q2, .ref q3, .ref q4, .ref q5, .ref q6, .ref q7, .ref q8, .null])), (q1, .inl (cI G, 20, .inl z0)), (q2, .inl (cI G, 20, .inl z0)), (q3, .inl (cI G, 20, .inl z0)), (q4, .inl (cI G, 20, .inl z0)), (q5, .inl (cI G, 20, .inl z0)), (q6, .inl (cI G, 20, .inl z0)), (q7, .inl (cI G, 20, .inl z0)), (q8, .inl (cI G, 20, .inl z0))] H := hP
  have hD : va_D A [(h0, .inr (2, [.int 0, .ref q1, .null, .null, .int 0, .ref q2, .ref q3, .ref q4, .ref q5, .ref q6, .ref q7, .ref q8, .null])), (q1, .inl (cI G, 20, .inl z0)), (q2, .inl (cI G, 20, .inl z0)), (q3, .inl (cI G, 20, .inl z0)), (q4, .inl (cI G, 20, .inl z0)), (q5, .inl (cI G, 20, .inl z0)), (q6, .inl (cI G, 20, .inl z0)), (q7, .inl (cI G, 20, .inl z0)), (q8, .inl (cI G, 20, .inl z0))] := hD
  refine lv_aload_n hx hb dX2_init_68 rfl (lv_at hl 0 rfl) ?_
  refine lv_bipush (v := 20) hx hb dX2_init_69 (by decide) ?_
  refine va_newa (atype := .int) (ty := .int) (n := 20) (N' := 20) (a0 := (20, .inl z0)) hx hb (hts (.arrayClass .int) (by decide +kernel)) rfl hK hP hD hS hA (fun _ => rfl) (by decide) rfl (Nat.le_of_ble_eq_true rfl) (Nat.le_of_ble_eq_true rfl) (Nat.le_of_ble_eq_true rfl) dX2_init_71 (fun q9 cA H hK1 hP hD hS => ?_)
  have e1 := k_int hK1 0 rfl
  subst e1
  clear hK1
  have hP : va_P (vD G) vwCl [(h0, .inr (2, [.int 0, .ref q1, .null, .null, .int 0, .ref q2, .ref q3, .ref q4, .ref q5, .ref q6, .ref q7, .ref q8, .null])), (q1, .inl (cI G, 20, .inl z0)), (q2, .inl (cI G, 20, .inl z0)), (q3, .inl (cI G, 20, .inl z0)), (q4, .inl (cI G, 20, .inl z0)), (q5, .inl (cI G, 20, .inl z0)), (q6, .inl (cI G, 20, .inl z0)), (q7, .inl (cI G, 20, .inl z0)), (q8, .inl (cI G, 20, .inl z0)), (q9, .inl (cI G, 20, .inl z0))] H := hP
  have hD : va_D A [(h0, .inr (2, [.int 0, .ref q1, .null, .null, .int 0, .ref q2, .ref q3, .ref q4, .ref q5, .ref q6, .ref q7, .ref q8, .null])), (q1, .inl (cI G, 20, .inl z0)), (q2, .inl (cI G, 20, .inl z0)), (q3, .inl (cI G, 20, .inl z0)), (q4, .inl (cI G, 20, .inl z0)), (q5, .inl (cI G, 20, .inl z0)), (q6, .inl (cI G, 20, .inl z0)), (q7, .inl (cI G, 20, .inl z0)), (q8, .inl (cI G, 20, .inl z0)), (q9, .inl (cI G, 20, .inl z0))] := hD
  refine W.widen (k := 9) (n := 180) (Nat.le_of_ble_eq_true rfl) (Nat.le_of_ble_eq_true rfl) ?_
  refine va_putF (D := vD G) (ci := 2) (v := .ref q9) (ty := .array .int) (C := RX2) (T := TX2) (N := 13) hx hb hts (by decide +kernel) tyX2 tyX2_ok nmX2 hown hK hP hD hS 0 rfl rfl 12 (by decide) (hts (.fieldLink RX2 36 "LevelLoops$Loops" "rest" "[I") (by decide +kernel)) (fun _ h9 => h9) rfl hin rfl (by decide +kernel) rfl rfl (Nat.le_of_ble_eq_true rfl) dX2_init_73 (fun H locs hP hD hS => ?_)
  have hP : va_P (vD G) vwCl [(h0, .inr (2, [.int 0, .ref q1, .null, .null, .int 0, .ref q2, .ref q3, .ref q4, .ref q5, .ref q6, .ref q7, .ref q8, .ref q9])), (q1, .inl (cI G, 20, .inl z0)), (q2, .inl (cI G, 20, .inl z0)), (q3, .inl (cI G, 20, .inl z0)), (q4, .inl (cI G, 20, .inl z0)), (q5, .inl (cI G, 20, .inl z0)), (q6, .inl (cI G, 20, .inl z0)), (q7, .inl (cI G, 20, .inl z0)), (q8, .inl (cI G, 20, .inl z0)), (q9, .inl (cI G, 20, .inl z0))] H := hP
  have hD : va_D A [(h0, .inr (2, [.int 0, .ref q1, .null, .null, .int 0, .ref q2, .ref q3, .ref q4, .ref q5, .ref q6, .ref q7, .ref q8, .ref q9])), (q1, .inl (cI G, 20, .inl z0)), (q2, .inl (cI G, 20, .inl z0)), (q3, .inl (cI G, 20, .inl z0)), (q4, .inl (cI G, 20, .inl z0)), (q5, .inl (cI G, 20, .inl z0)), (q6, .inl (cI G, 20, .inl z0)), (q7, .inl (cI G, 20, .inl z0)), (q8, .inl (cI G, 20, .inl z0)), (q9, .inl (cI G, 20, .inl z0))] := hD
  refine lv_aload_n hx hb dX2_init_76 rfl (lv_at hl 0 rfl) ?_
  refine lv_aload_n hx hb dX2_init_77 rfl (lv_at hl 1 rfl) ?_
  refine va_putF (D := vD G) (ci := 2) (v := .ref sv) (ty := .object "LevelLoops$Survey") (C := RX2) (T := TX2) (N := 13) hx hb hts (by decide +kernel) tyX2 tyX2_ok nmX2 hown hK hP hD hS 0 rfl rfl 2 (by decide) (hts (.fieldLink RX2 39 "LevelLoops$Loops" "survey" "LLevelLoops$Survey;") (by decide +kernel)) (fun _ h9 => h9) rfl hin rfl (by decide +kernel) rfl rfl (Nat.le_of_ble_eq_true rfl) dX2_init_78 (fun H locs hP hD hS => ?_)
  have hP : va_P (vD G) vwCl [(h0, .inr (2, [.int 0, .ref q1, .ref sv, .null, .int 0, .ref q2, .ref q3, .ref q4, .ref q5, .ref q6, .ref q7, .ref q8, .ref q9])), (q1, .inl (cI G, 20, .inl z0)), (q2, .inl (cI G, 20, .inl z0)), (q3, .inl (cI G, 20, .inl z0)), (q4, .inl (cI G, 20, .inl z0)), (q5, .inl (cI G, 20, .inl z0)), (q6, .inl (cI G, 20, .inl z0)), (q7, .inl (cI G, 20, .inl z0)), (q8, .inl (cI G, 20, .inl z0)), (q9, .inl (cI G, 20, .inl z0))] H := hP
  have hD : va_D A [(h0, .inr (2, [.int 0, .ref q1, .ref sv, .null, .int 0, .ref q2, .ref q3, .ref q4, .ref q5, .ref q6, .ref q7, .ref q8, .ref q9])), (q1, .inl (cI G, 20, .inl z0)), (q2, .inl (cI G, 20, .inl z0)), (q3, .inl (cI G, 20, .inl z0)), (q4, .inl (cI G, 20, .inl z0)), (q5, .inl (cI G, 20, .inl z0)), (q6, .inl (cI G, 20, .inl z0)), (q7, .inl (cI G, 20, .inl z0)), (q8, .inl (cI G, 20, .inl z0)), (q9, .inl (cI G, 20, .inl z0))] := hD
  refine lv_aload_n hx hb dX2_init_81 rfl (lv_at hl 0 rfl) ?_
  refine lv_aload_n hx hb dX2_init_82 rfl (lv_at hl 2 rfl) ?_
  refine va_putF (D := vD G) (ci := 2) (v := .ref tr) (ty := .object "LevelLoops$Tree") (C := RX2) (T := TX2) (N := 13) hx hb hts (by decide +kernel) tyX2 tyX2_ok nmX2 hown hK hP hD hS 0 rfl rfl 3 (by decide) (hts (.fieldLink RX2 43 "LevelLoops$Loops" "tree" "LLevelLoops$Tree;") (by decide +kernel)) (fun _ h9 => h9) rfl hin rfl (by decide +kernel) rfl rfl (Nat.le_of_ble_eq_true rfl) dX2_init_83 (fun H locs hP hD hS => ?_)
  have hP : va_P (vD G) vwCl [(h0, .inr (2, [.int 0, .ref q1, .ref sv, .ref tr, .int 0, .ref q2, .ref q3, .ref q4, .ref q5, .ref q6, .ref q7, .ref q8, .ref q9])), (q1, .inl (cI G, 20, .inl z0)), (q2, .inl (cI G, 20, .inl z0)), (q3, .inl (cI G, 20, .inl z0)), (q4, .inl (cI G, 20, .inl z0)), (q5, .inl (cI G, 20, .inl z0)), (q6, .inl (cI G, 20, .inl z0)), (q7, .inl (cI G, 20, .inl z0)), (q8, .inl (cI G, 20, .inl z0)), (q9, .inl (cI G, 20, .inl z0))] H := hP
  have hD : va_D A [(h0, .inr (2, [.int 0, .ref q1, .ref sv, .ref tr, .int 0, .ref q2, .ref q3, .ref q4, .ref q5, .ref q6, .ref q7, .ref q8, .ref q9])), (q1, .inl (cI G, 20, .inl z0)), (q2, .inl (cI G, 20, .inl z0)), (q3, .inl (cI G, 20, .inl z0)), (q4, .inl (cI G, 20, .inl z0)), (q5, .inl (cI G, 20, .inl z0)), (q6, .inl (cI G, 20, .inl z0)), (q7, .inl (cI G, 20, .inl z0)), (q8, .inl (cI G, 20, .inl z0)), (q9, .inl (cI G, 20, .inl z0))] := hD
  have hP9 := hP.sub (ws' := [(h0, .inr (2, [.int 0, .ref q1, .ref sv, .ref tr, .int 0, .ref q2, .ref q3, .ref q4, .ref q5, .ref q6, .ref q7, .ref q8, .ref q9])), (q1, .inl (cI G, 20, .inl z0)), (q2, .inl (cI G, 20, .inl z0)), (q3, .inl (cI G, 20, .inl z0)), (q4, .inl (cI G, 20, .inl z0)), (q5, .inl (cI G, 20, .inl z0)), (q6, .inl (cI G, 20, .inl z0)), (q7, .inl (cI G, 20, .inl z0)), (q8, .inl (cI G, 20, .inl z0)), (q9, .inl (cI G, 20, .inl z0))]) [0, 1, 2, 3, 4, 5, 6, 7, 8, 9] rfl
  have hD9 := hD.sub (ws' := [(h0, .inr (2, [.int 0, .ref q1, .ref sv, .ref tr, .int 0, .ref q2, .ref q3, .ref q4, .ref q5, .ref q6, .ref q7, .ref q8, .ref q9])), (q1, .inl (cI G, 20, .inl z0)), (q2, .inl (cI G, 20, .inl z0)), (q3, .inl (cI G, 20, .inl z0)), (q4, .inl (cI G, 20, .inl z0)), (q5, .inl (cI G, 20, .inl z0)), (q6, .inl (cI G, 20, .inl z0)), (q7, .inl (cI G, 20, .inl z0)), (q8, .inl (cI G, 20, .inl z0)), (q9, .inl (cI G, 20, .inl z0))]) [0, 1, 2, 3, 4, 5, 6, 7, 8, 9] (by decide) rfl
  exact W.vret hx hb hr (fun t ht hW => ⟨⟨(fun a b => if a = 0 then (if b = 12 then h0 else if b = 13 then q1 else if b = 14 then q2 else if b = 15 then q3 else if b = 16 then q4 else if b = 17 then q5 else if b = 18 then q6 else if b = 19 then q7 else if b = 20 then q8 else if b = 21 then q9 else 0) else 0), rfl, rfl, by rw [ht]; exact hP9, hD9⟩, hS.F ht⟩) hS.2.2 dX2_init_86
theorem dX0_init_0 : decode cX0_init 0 = .ok (.aload_n 0, 1) := by decide +kernel
theorem dX0_init_1 : decode cX0_init 1 = .ok (.invokespecial 3, 3) := by decide +kernel
theorem dX0_init_4 : decode cX0_init 4 = .ok (.aload_n 0, 1) := by decide +kernel
theorem dX0_init_5 : decode cX0_init 5 = .ok (.bipush 10, 2) := by decide +kernel
theorem dX0_init_7 : decode cX0_init 7 = .ok (.newarray .int, 2) := by decide +kernel
theorem dX0_init_9 : decode cX0_init 9 = .ok (.putfield 9, 3) := by decide +kernel
theorem dX0_init_12 : decode cX0_init 12 = .ok (.aload_n 0, 1) := by decide +kernel
theorem dX0_init_13 : decode cX0_init 13 = .ok (.bipush 10, 2) := by decide +kernel
theorem dX0_init_15 : decode cX0_init 15 = .ok (.newarray .int, 2) := by decide +kernel
theorem dX0_init_17 : decode cX0_init 17 = .ok (.putfield 15, 3) := by decide +kernel
theorem dX0_init_20 : decode cX0_init 20 = .ok (.aload_n 0, 1) := by decide +kernel
theorem dX0_init_21 : decode cX0_init 21 = .ok (.bipush 10, 2) := by decide +kernel
theorem dX0_init_23 : decode cX0_init 23 = .ok (.newarray .int, 2) := by decide +kernel
theorem dX0_init_25 : decode cX0_init 25 = .ok (.putfield 18, 3) := by decide +kernel
theorem dX0_init_28 : decode cX0_init 28 = .ok (.aload_n 0, 1) := by decide +kernel
theorem dX0_init_29 : decode cX0_init 29 = .ok (.aload_n 1, 1) := by decide +kernel
theorem dX0_init_30 : decode cX0_init 30 = .ok (.putfield 21, 3) := by decide +kernel
theorem dX0_init_33 : decode cX0_init 33 = .ok (.aload_n 0, 1) := by decide +kernel
theorem dX0_init_34 : decode cX0_init 34 = .ok (.aload_n 2, 1) := by decide +kernel
theorem dX0_init_35 : decode cX0_init 35 = .ok (.putfield 25, 3) := by decide +kernel
theorem dX0_init_38 : decode cX0_init 38 = .ok (.aload_n 0, 1) := by decide +kernel
theorem dX0_init_39 : decode cX0_init 39 = .ok (.aload_n 3, 1) := by decide +kernel
theorem dX0_init_40 : decode cX0_init 40 = .ok (.putfield 29, 3) := by decide +kernel
theorem dX0_init_43 : decode cX0_init 43 = .ok (.return_, 1) := by decide +kernel
set_option maxHeartbeats 4000000 in
set_option maxRecDepth 100000 in
theorem c_X0_init (G : Gt) (h0 sv tr lp sz : Nat) : MetC G yX0_init wsX0_init ({ frames := 1, cells := 3, slots := 30, locals := 12 }) [.ref h0, .ref sv, .ref tr, .ref lp] sz [(h0, .inr (0, [.null, .null, .null, .null, .null, .null]))] (fun u => u 0 22 = h0) (fun u => [((u 0 22), .inr (0, [.ref (u 0 23), .ref (u 0 24), .ref sv, .ref tr, .ref lp, .ref (u 0 25)])), ((u 0 23), .inl (cI G, 10, .inl z0)), ((u 0 24), .inl (cI G, 10, .inl z0)), ((u 0 25), .inl (cI G, 10, .inl z0))]) 3 30 := by
  refine Met.ofW (cc := cX0_init) (maxL := 4) (ret := none) (by decide +kernel) rfl ?_
  intro p e s m args below meth c s₁ B hml hv
  obtain ⟨rfl, hsz, hP, hKK, hO, hD0⟩ := hv
  have hK := hKK.1
  have hx := B.exec
  have hb := B.bytes
  have hr := B.returns
  have hts := atoms_spec (ws := wsX0_init) B.pre
  have hown : s.vm.findClass RX0 = some m.cls := findClass_of_methodNamed B.named
  have hin : meth.name = "<init>" := (name_of_methodNamed B.named B.method).1
  subst hsz
  have hD := hD0.self (sz := s.heap.size)
  generalize hAe : va_A [(h0, .inr (0, [.null, .null, .null, .null, .null, .null]))] s.heap.size = A at hD ⊢
  have hA : ∀ q : Nat, s.heap.size ≤ q → A q := fun q h => by rw [← hAe]; exact Or.inr h
  have hS : va_S A s.heap s.heap [] := va_S.rf
  have hl := lv_entry ([.ref h0, .ref sv, .ref tr, .ref lp]) (n := 4) (Nat.le_of_ble_eq_true rfl)
  rw [lg_entry_eq]
  generalize (lg_sl ([.ref h0, .ref sv, .ref tr, .ref lp]) ++ List.replicate (4 - (lg_sl ([.ref h0, .ref sv, .ref tr, .ref lp])).length) Slot.unset).toArray = ls at hl ⊢
  have hl : lv_has ls 4 [(0, .ref h0), (1, .ref sv), (2, .ref tr), (3, .ref lp)] := hl
  refine lv_aload_n hx hb dX0_init_0 rfl (lv_at hl 0 rfl) ?_
  refine W.objInit hx hb hown (hts (.methodLink RX0 3 objectInit) (by decide +kernel)) (hts (.instanceMethod objectInit) (by decide +kernel)) (hts _ (List.mem_cons_of_mem _ (List.mem_of_getElem? (i := 2) rfl))) rfl (by rw [hml]; exact hl.1) rfl dX0_init_1 (Nat.le_of_ble_eq_true rfl) (Nat.le_of_ble_eq_true rfl) ?_
  refine W.eq (g2 := F0 m 4 ls []) rfl ?_
  refine lv_aload_n hx hb dX0_init_4 rfl (lv_at hl 0 rfl) ?_
  refine lv_bipush (v := 10) hx hb dX0_init_5 (by decide) ?_
  refine va_newa (atype := .int) (ty := .int) (n := 10) (N' := 10) (a0 := (10, .inl z0)) hx hb (hts (.arrayClass .int) (by decide +kernel)) rfl hK hP hD hS hA (fun _ => rfl) (by decide) rfl (Nat.le_of_ble_eq_true rfl) (Nat.le_of_ble_eq_true rfl) (Nat.le_of_ble_eq_true rfl) dX0_init_7 (fun q1 cA H hK1 hP hD hS => ?_)
  have e1 := k_int hK1 0 rfl
  subst e1
  clear hK1
  have hP : va_P (vD G) vwCl [(h0, .inr (0, [.null, .null, .null, .null, .null, .null])), (q1, .inl (cI G, 10, .inl z0))] H := hP
  have hD : va_D A [(h0, .inr (0, [.null, .null, .null, .null, .null, .null])), (q1, .inl (cI G, 10, .inl z0))] := hD
  refine W.widen (k := 1) (n := 10) (Nat.le_of_ble_eq_true rfl) (Nat.le_of_ble_eq_true rfl) ?_
  refine va_putF (D := vD G) (ci := 0) (v := .ref q1) (ty := .array .int) (C := RX0) (T := TX0) (N := 6) hx hb hts (by decide +kernel) tyX0 tyX0_ok nmX0 hown hK hP hD hS 0 rfl rfl 0 (by decide) (hts (.fieldLink RX0 9 "LevelLoops$Heights" "rise" "[I") (by decide +kernel)) (fun _ h9 => h9) rfl hin rfl (by decide +kernel) rfl rfl (Nat.le_of_ble_eq_true rfl) dX0_init_9 (fun H locs hP hD hS => ?_)
  have hP : va_P (vD G) vwCl [(h0, .inr (0, [.ref q1, .null, .null, .null, .null, .null])), (q1, .inl (cI G, 10, .inl z0))] H := hP
  have hD : va_D A [(h0, .inr (0, [.ref q1, .null, .null, .null, .null, .null])), (q1, .inl (cI G, 10, .inl z0))] := hD
  refine lv_aload_n hx hb dX0_init_12 rfl (lv_at hl 0 rfl) ?_
  refine lv_bipush (v := 10) hx hb dX0_init_13 (by decide) ?_
  refine va_newa (atype := .int) (ty := .int) (n := 10) (N' := 10) (a0 := (10, .inl z0)) hx hb (hts (.arrayClass .int) (by decide +kernel)) rfl hK hP hD hS hA (fun _ => rfl) (by decide) rfl (Nat.le_of_ble_eq_true rfl) (Nat.le_of_ble_eq_true rfl) (Nat.le_of_ble_eq_true rfl) dX0_init_15 (fun q2 cA H hK1 hP hD hS => ?_)
  have e1 := k_int hK1 0 rfl
  subst e1
  clear hK1
  have hP : va_P (vD G) vwCl [(h0, .inr (0, [.ref q1, .null, .null, .null, .null, .null])), (q1, .inl (cI G, 10, .inl z0)), (q2, .inl (cI G, 10, .inl z0))] H := hP
  have hD : va_D A [(h0, .inr (0, [.ref q1, .null, .null, .null, .null, .null])), (q1, .inl (cI G, 10, .inl z0)), (q2, .inl (cI G, 10, .inl z0))] := hD
  refine W.widen (k := 2) (n := 20) (Nat.le_of_ble_eq_true rfl) (Nat.le_of_ble_eq_true rfl) ?_
  refine va_putF (D := vD G) (ci := 0) (v := .ref q2) (ty := .array .int) (C := RX0) (T := TX0) (N := 6) hx hb hts (by decide +kernel) tyX0 tyX0_ok nmX0 hown hK hP hD hS 0 rfl rfl 1 (by decide) (hts (.fieldLink RX0 15 "LevelLoops$Heights" "agreeing" "[I") (by decide +kernel)) (fun _ h9 => h9) rfl hin rfl (by decide +kernel) rfl rfl (Nat.le_of_ble_eq_true rfl) dX0_init_17 (fun H locs hP hD hS => ?_)
  have hP : va_P (vD G) vwCl [(h0, .inr (0, [.ref q1, .ref q2, .null, .null, .null, .null])), (q1, .inl (cI G, 10, .inl z0)), (q2, .inl (cI G, 10, .inl z0))] H := hP
  have hD : va_D A [(h0, .inr (0, [.ref q1, .ref q2, .null, .null, .null, .null])), (q1, .inl (cI G, 10, .inl z0)), (q2, .inl (cI G, 10, .inl z0))] := hD
  refine lv_aload_n hx hb dX0_init_20 rfl (lv_at hl 0 rfl) ?_
  refine lv_bipush (v := 10) hx hb dX0_init_21 (by decide) ?_
  refine va_newa (atype := .int) (ty := .int) (n := 10) (N' := 10) (a0 := (10, .inl z0)) hx hb (hts (.arrayClass .int) (by decide +kernel)) rfl hK hP hD hS hA (fun _ => rfl) (by decide) rfl (Nat.le_of_ble_eq_true rfl) (Nat.le_of_ble_eq_true rfl) (Nat.le_of_ble_eq_true rfl) dX0_init_23 (fun q3 cA H hK1 hP hD hS => ?_)
  have e1 := k_int hK1 0 rfl
  subst e1
  clear hK1
  have hP : va_P (vD G) vwCl [(h0, .inr (0, [.ref q1, .ref q2, .null, .null, .null, .null])), (q1, .inl (cI G, 10, .inl z0)), (q2, .inl (cI G, 10, .inl z0)), (q3, .inl (cI G, 10, .inl z0))] H := hP
  have hD : va_D A [(h0, .inr (0, [.ref q1, .ref q2, .null, .null, .null, .null])), (q1, .inl (cI G, 10, .inl z0)), (q2, .inl (cI G, 10, .inl z0)), (q3, .inl (cI G, 10, .inl z0))] := hD
  refine W.widen (k := 3) (n := 30) (Nat.le_of_ble_eq_true rfl) (Nat.le_of_ble_eq_true rfl) ?_
  refine va_putF (D := vD G) (ci := 0) (v := .ref q3) (ty := .array .int) (C := RX0) (T := TX0) (N := 6) hx hb hts (by decide +kernel) tyX0 tyX0_ok nmX0 hown hK hP hD hS 0 rfl rfl 5 (by decide) (hts (.fieldLink RX0 18 "LevelLoops$Heights" "base" "[I") (by decide +kernel)) (fun _ h9 => h9) rfl hin rfl (by decide +kernel) rfl rfl (Nat.le_of_ble_eq_true rfl) dX0_init_25 (fun H locs hP hD hS => ?_)
  have hP : va_P (vD G) vwCl [(h0, .inr (0, [.ref q1, .ref q2, .null, .null, .null, .ref q3])), (q1, .inl (cI G, 10, .inl z0)), (q2, .inl (cI G, 10, .inl z0)), (q3, .inl (cI G, 10, .inl z0))] H := hP
  have hD : va_D A [(h0, .inr (0, [.ref q1, .ref q2, .null, .null, .null, .ref q3])), (q1, .inl (cI G, 10, .inl z0)), (q2, .inl (cI G, 10, .inl z0)), (q3, .inl (cI G, 10, .inl z0))] := hD
  refine lv_aload_n hx hb dX0_init_28 rfl (lv_at hl 0 rfl) ?_
  refine lv_aload_n hx hb dX0_init_29 rfl (lv_at hl 1 rfl) ?_
  refine va_putF (D := vD G) (ci := 0) (v := .ref sv) (ty := .object "LevelLoops$Survey") (C := RX0) (T := TX0) (N := 6) hx hb hts (by decide +kernel) tyX0 tyX0_ok nmX0 hown hK hP hD hS 0 rfl rfl 2 (by decide) (hts (.fieldLink RX0 21 "LevelLoops$Heights" "survey" "LLevelLoops$Survey;") (by decide +kernel)) (fun _ h9 => h9) rfl hin rfl (by decide +kernel) rfl rfl (Nat.le_of_ble_eq_true rfl) dX0_init_30 (fun H locs hP hD hS => ?_)
  have hP : va_P (vD G) vwCl [(h0, .inr (0, [.ref q1, .ref q2, .ref sv, .null, .null, .ref q3])), (q1, .inl (cI G, 10, .inl z0)), (q2, .inl (cI G, 10, .inl z0)), (q3, .inl (cI G, 10, .inl z0))] H := hP
  have hD : va_D A [(h0, .inr (0, [.ref q1, .ref q2, .ref sv, .null, .null, .ref q3])), (q1, .inl (cI G, 10, .inl z0)), (q2, .inl (cI G, 10, .inl z0)), (q3, .inl (cI G, 10, .inl z0))] := hD
  refine lv_aload_n hx hb dX0_init_33 rfl (lv_at hl 0 rfl) ?_
  refine lv_aload_n hx hb dX0_init_34 rfl (lv_at hl 2 rfl) ?_
  refine va_putF (D := vD G) (ci := 0) (v := .ref tr) (ty := .object "LevelLoops$Tree") (C := RX0) (T := TX0) (N := 6) hx hb hts (by decide +kernel) tyX0 tyX0_ok nmX0 hown hK hP hD hS 0 rfl rfl 3 (by decide) (hts (.fieldLink RX0 25 "LevelLoops$Heights" "tree" "LLevelLoops$Tree;") (by decide +kernel)) (fun _ h9 => h9) rfl hin rfl (by decide +kernel) rfl rfl (Nat.le_of_ble_eq_true rfl) dX0_init_35 (fun H locs hP hD hS => ?_)
  have hP : va_P (vD G) vwCl [(h0, .inr (0, [.ref q1, .ref q2, .ref sv, .ref tr, .null, .ref q3])), (q1, .inl (cI G, 10, .inl z0)), (q2, .inl (cI G, 10, .inl z0)), (q3, .inl (cI G, 10, .inl z0))] H := hP
  have hD : va_D A [(h0, .inr (0, [.ref q1, .ref q2, .ref sv, .ref tr, .null, .ref q3])), (q1, .inl (cI G, 10, .inl z0)), (q2, .inl (cI G, 10, .inl z0)), (q3, .inl (cI G, 10, .inl z0))] := hD
  refine lv_aload_n hx hb dX0_init_38 rfl (lv_at hl 0 rfl) ?_
  refine lv_aload_n hx hb dX0_init_39 rfl (lv_at hl 3 rfl) ?_
  refine va_putF (D := vD G) (ci := 0) (v := .ref lp) (ty := .object "LevelLoops$Loops") (C := RX0) (T := TX0) (N := 6) hx hb hts (by decide +kernel) tyX0 tyX0_ok nmX0 hown hK hP hD hS 0 rfl rfl 4 (by decide) (hts (.fieldLink RX0 29 "LevelLoops$Heights" "loops" "LLevelLoops$Loops;") (by decide +kernel)) (fun _ h9 => h9) rfl hin rfl (by decide +kernel) rfl rfl (Nat.le_of_ble_eq_true rfl) dX0_init_40 (fun H locs hP hD hS => ?_)
  have hP : va_P (vD G) vwCl [(h0, .inr (0, [.ref q1, .ref q2, .ref sv, .ref tr, .ref lp, .ref q3])), (q1, .inl (cI G, 10, .inl z0)), (q2, .inl (cI G, 10, .inl z0)), (q3, .inl (cI G, 10, .inl z0))] H := hP
  have hD : va_D A [(h0, .inr (0, [.ref q1, .ref q2, .ref sv, .ref tr, .ref lp, .ref q3])), (q1, .inl (cI G, 10, .inl z0)), (q2, .inl (cI G, 10, .inl z0)), (q3, .inl (cI G, 10, .inl z0))] := hD
  have hP9 := hP.sub (ws' := [(h0, .inr (0, [.ref q1, .ref q2, .ref sv, .ref tr, .ref lp, .ref q3])), (q1, .inl (cI G, 10, .inl z0)), (q2, .inl (cI G, 10, .inl z0)), (q3, .inl (cI G, 10, .inl z0))]) [0, 1, 2, 3] rfl
  have hD9 := hD.sub (ws' := [(h0, .inr (0, [.ref q1, .ref q2, .ref sv, .ref tr, .ref lp, .ref q3])), (q1, .inl (cI G, 10, .inl z0)), (q2, .inl (cI G, 10, .inl z0)), (q3, .inl (cI G, 10, .inl z0))]) [0, 1, 2, 3] (by decide) rfl
  exact W.vret hx hb hr (fun t ht hW => ⟨⟨(fun a b => if a = 0 then (if b = 22 then h0 else if b = 23 then q1 else if b = 24 then q2 else if b = 25 then q3 else 0) else 0), rfl, rfl, by rw [ht]; exact hP9, hD9⟩, hS.F ht⟩) hS.2.2 dX0_init_43
theorem dX6_init_0 : decode cX6_init 0 = .ok (.aload_n 0, 1) := by decide +kernel
theorem dX6_init_1 : decode cX6_init 1 = .ok (.invokespecial 3, 3) := by decide +kernel
theorem dX6_init_4 : decode cX6_init 4 = .ok (.aload_n 0, 1) := by decide +kernel
theorem dX6_init_5 : decode cX6_init 5 = .ok (.bipush 60, 2) := by decide +kernel
theorem dX6_init_7 : decode cX6_init 7 = .ok (.newarray .int, 2) := by decide +kernel
theorem dX6_init_9 : decode cX6_init 9 = .ok (.putfield 9, 3) := by decide +kernel
theorem dX6_init_12 : decode cX6_init 12 = .ok (.return_, 1) := by decide +kernel
set_option maxHeartbeats 4000000 in
set_option maxRecDepth 100000 in
theorem c_X6_init (G : Gt) (h0 sz : Nat) : MetC G yX6_init wsX6_init ({ frames := 1, cells := 1, slots := 60, locals := 12 }) [.ref h0] sz [(h0, .inr (6, [.int 0, .null]))] (fun u => u 0 29 = h0) (fun u => [((u 0 29), .inr (6, [.int 0, .ref (u 0 30)])), ((u 0 30), .inl (cI G, 60, .inl z0))]) 1 60 := by
  refine Met.ofW (cc := cX6_init) (maxL := 1) (ret := none) (by decide +kernel) rfl ?_
  intro p e s m args below meth c s₁ B hml hv
  obtain ⟨rfl, hsz, hP, hKK, hO, hD0⟩ := hv
  have hK := hKK.1
  have hx := B.exec
  have hb := B.bytes
  have hr := B.returns
  have hts := atoms_spec (ws := wsX6_init) B.pre
  have hown : s.vm.findClass RX6 = some m.cls := findClass_of_methodNamed B.named
  have hin : meth.name = "<init>" := (name_of_methodNamed B.named B.method).1
  subst hsz
  have hD := hD0.self (sz := s.heap.size)
  generalize hAe : va_A [(h0, .inr (6, [.int 0, .null]))] s.heap.size = A at hD ⊢
  have hA : ∀ q : Nat, s.heap.size ≤ q → A q := fun q h => by rw [← hAe]; exact Or.inr h
  have hS : va_S A s.heap s.heap [] := va_S.rf
  have hl := lv_entry ([.ref h0]) (n := 1) (Nat.le_of_ble_eq_true rfl)
  rw [lg_entry_eq]
  generalize (lg_sl ([.ref h0]) ++ List.replicate (1 - (lg_sl ([.ref h0])).length) Slot.unset).toArray = ls at hl ⊢
  have hl : lv_has ls 1 [(0, .ref h0)] := hl
  refine lv_aload_n hx hb dX6_init_0 rfl (lv_at hl 0 rfl) ?_
  refine W.objInit hx hb hown (hts (.methodLink RX6 3 objectInit) (by decide +kernel)) (hts (.instanceMethod objectInit) (by decide +kernel)) (hts _ (List.mem_cons_of_mem _ (List.mem_of_getElem? (i := 2) rfl))) rfl (by rw [hml]; exact hl.1) rfl dX6_init_1 (Nat.le_of_ble_eq_true rfl) (Nat.le_of_ble_eq_true rfl) ?_
  refine W.eq (g2 := F0 m 4 ls []) rfl ?_
  refine lv_aload_n hx hb dX6_init_4 rfl (lv_at hl 0 rfl) ?_
  refine lv_bipush (v := 60) hx hb dX6_init_5 (by decide) ?_
  refine va_newa (atype := .int) (ty := .int) (n := 60) (N' := 60) (a0 := (60, .inl z0)) hx hb (hts (.arrayClass .int) (by decide +kernel)) rfl hK hP hD hS hA (fun _ => rfl) (by decide) rfl (Nat.le_of_ble_eq_true rfl) (Nat.le_of_ble_eq_true rfl) (Nat.le_of_ble_eq_true rfl) dX6_init_7 (fun q1 cA H hK1 hP hD hS => ?_)
  have e1 := k_int hK1 0 rfl
  subst e1
  clear hK1
  have hP : va_P (vD G) vwCl [(h0, .inr (6, [.int 0, .null])), (q1, .inl (cI G, 60, .inl z0))] H := hP
  have hD : va_D A [(h0, .inr (6, [.int 0, .null])), (q1, .inl (cI G, 60, .inl z0))] := hD
  refine W.widen (k := 1) (n := 60) (Nat.le_of_ble_eq_true rfl) (Nat.le_of_ble_eq_true rfl) ?_
  refine va_putF (D := vD G) (ci := 6) (v := .ref q1) (ty := .array .int) (C := RX6) (T := TX6) (N := 2) hx hb hts (by decide +kernel) tyX6 tyX6_ok nmX6 hown hK hP hD hS 0 rfl rfl 1 (by decide) (hts (.fieldLink RX6 9 "LevelLoops$Text" "codes" "[I") (by decide +kernel)) (fun _ h9 => h9) rfl hin rfl (by decide +kernel) rfl rfl (Nat.le_of_ble_eq_true rfl) dX6_init_9 (fun H locs hP hD hS => ?_)
  have hP : va_P (vD G) vwCl [(h0, .inr (6, [.int 0, .ref q1])), (q1, .inl (cI G, 60, .inl z0))] H := hP
  have hD : va_D A [(h0, .inr (6, [.int 0, .ref q1])), (q1, .inl (cI G, 60, .inl z0))] := hD
  have hP9 := hP.sub (ws' := [(h0, .inr (6, [.int 0, .ref q1])), (q1, .inl (cI G, 60, .inl z0))]) [0, 1] rfl
  have hD9 := hD.sub (ws' := [(h0, .inr (6, [.int 0, .ref q1])), (q1, .inl (cI G, 60, .inl z0))]) [0, 1] (by decide) rfl
  exact W.vret hx hb hr (fun t ht hW => ⟨⟨(fun a b => if a = 0 then (if b = 29 then h0 else if b = 30 then q1 else 0) else 0), rfl, rfl, by rw [ht]; exact hP9, hD9⟩, hS.F ht⟩) hS.2.2 dX6_init_12
theorem dX3_init_0 : decode cX3_init 0 = .ok (.aload_n 0, 1) := by decide +kernel
theorem dX3_init_1 : decode cX3_init 1 = .ok (.invokespecial 3, 3) := by decide +kernel
theorem dX3_init_4 : decode cX3_init 4 = .ok (.return_, 1) := by decide +kernel
set_option maxHeartbeats 4000000 in
set_option maxRecDepth 100000 in
theorem c_X3_init (G : Gt) (h0 sz : Nat) : MetC G yX3_init wsX3_init ({ frames := 1, cells := 0, slots := 0, locals := 12 }) [.ref h0] sz [(h0, .inr (3, [.int 0, .int 0, .int 0, .int 0, .int 0, .int 0]))] (fun u => u 0 31 = h0) (fun u => [((u 0 31), .inr (3, [.int 0, .int 0, .int 0, .int 0, .int 0, .int 0]))]) 0 0 := by
  refine Met.ofW (cc := cX3_init) (maxL := 1) (ret := none) (by decide +kernel) rfl ?_
  intro p e s m args below meth c s₁ B hml hv
  obtain ⟨rfl, hsz, hP, hKK, hO, hD0⟩ := hv
  have hK := hKK.1
  have hx := B.exec
  have hb := B.bytes
  have hr := B.returns
  have hts := atoms_spec (ws := wsX3_init) B.pre
  have hown : s.vm.findClass RX3 = some m.cls := findClass_of_methodNamed B.named
  have hin : meth.name = "<init>" := (name_of_methodNamed B.named B.method).1
  subst hsz
  have hD := hD0.self (sz := s.heap.size)
  generalize hAe : va_A [(h0, .inr (3, [.int 0, .int 0, .int 0, .int 0, .int 0, .int 0]))] s.heap.size = A at hD ⊢
  have hA : ∀ q : Nat, s.heap.size ≤ q → A q := fun q h => by rw [← hAe]; exact Or.inr h
  have hS : va_S A s.heap s.heap [] := va_S.rf
  have hl := lv_entry ([.ref h0]) (n := 1) (Nat.le_of_ble_eq_true rfl)
  rw [lg_entry_eq]
  generalize (lg_sl ([.ref h0]) ++ List.replicate (1 - (lg_sl ([.ref h0])).length) Slot.unset).toArray = ls at hl ⊢
  have hl : lv_has ls 1 [(0, .ref h0)] := hl
  refine lv_aload_n hx hb dX3_init_0 rfl (lv_at hl 0 rfl) ?_
  refine W.objInit hx hb hown (hts (.methodLink RX3 3 objectInit) (by decide +kernel)) (hts (.instanceMethod objectInit) (by decide +kernel)) (hts _ (List.mem_cons_of_mem _ (List.mem_of_getElem? (i := 2) rfl))) rfl (by rw [hml]; exact hl.1) rfl dX3_init_1 (Nat.le_of_ble_eq_true rfl) (Nat.le_of_ble_eq_true rfl) ?_
  refine W.eq (g2 := F0 m 4 ls []) rfl ?_
  have hP9 := hP.sub (ws' := [(h0, .inr (3, [.int 0, .int 0, .int 0, .int 0, .int 0, .int 0]))]) [0] rfl
  have hD9 := hD.sub (ws' := [(h0, .inr (3, [.int 0, .int 0, .int 0, .int 0, .int 0, .int 0]))]) [0] (by decide) rfl
  exact W.vret hx hb hr (fun t ht hW => ⟨⟨(fun a b => if a = 0 then (if b = 31 then h0 else 0) else 0), rfl, rfl, by rw [ht]; exact hP9, hD9⟩, hS.F ht⟩) hS.2.2 dX3_init_4
