/-! THROWS: methods that return or throw -/
def nwx : List Cond := [.declares ⟨"java/lang/RuntimeException", "<init>", "()V"⟩, .declares ⟨"java/lang/Exception", "<init>", "()V"⟩, .declares ⟨"java/lang/Throwable", "<init>", "()V"⟩, .castable "java/lang/IllegalArgumentException" "java/lang/IllegalArgumentException", .castable "java/lang/IllegalStateException" "java/lang/IllegalStateException", .castable "java/lang/IndexOutOfBoundsException" "java/lang/IndexOutOfBoundsException"]
def xw (U : State) : Prop := ∀ w ∈ nwx, va_Nw w U
theorem xw.warm {s U : State} (hW : s.WarmedH U.vm) (h : xw s) : xw U := by
  intro w hw
  have h1 := h w hw
  simp only [nwx, List.mem_cons, List.not_mem_nil, or_false] at hw
  rcases hw with rfl | rfl | rfl | rfl | rfl | rfl
  · exact va_Nw.warmD hW h1
  · exact va_Nw.warmD hW h1
  · exact va_Nw.warmD hW h1
  · exact va_Nw.warmC hW h1
  · exact va_Nw.warmC hW h1
  · exact va_Nw.warmC hW h1
theorem nwx_ot : ∀ w ∈ nwx, w.onTables = true := by decide +kernel
theorem xw.same {u U : State} (hv : u.vm = U.vm) (h : xw u) : xw U := fun q hq => va_Nw.same (nwx_ot q hq) hv (h q hq)
def xz (G : Gt) (U : State) : Prop := vx_Zq Bundle.tN "UNASSIGNED_STACK" Bundle.steD (aG G) U U.heap ∧ vx_Zq Bundle.tN "SUPPRESSED_SENTINEL" Bundle.listD (aG G) U U.heap ∧ xw U
theorem xz_here {G : Gt} {s U : State} {H : Heap} {locs : List Loc} (h : xz G s) (hS : va_S (aG G) s.heap H locs) (hU : U.heap = H) (hW : s.WarmedH U.vm) : xz G U := by
  obtain ⟨h1, h2, h3⟩ := h
  subst hU
  exact ⟨vx_Zq.kept (vx_Zq.moved hW.alike h1) hS.2.1, vx_Zq.kept (vx_Zq.moved hW.alike h2) hS.2.1, xw.warm hW h3⟩
def pcX (G : Gt) (av : List Value) (w : Wd) : Array Value → State → Prop := va_Pc av (fun U => hp G w U.heap ∧ kk G U ∧ xz G U)
def xcG (G : Gt) (X : String → Wd → Prop) : String → State → State → Prop := fun E st t => (∃ w', X E w' ∧ hp G w' t.heap) ∧ va_F (aG G) st t
def MtX (G : Gt) (D : Md) (av : List Value) (w : Wd) (Q : Option Value → Wd → Prop) (X : String → Wd → Prop) : Prop := inj G → G.1.stackTraces = false → vx_Met G.1 D.1 D.2.2.2.2.1 D.2.2.2.2.2.2 (pcX G av w) (qcG G Q) (xcG G X) 1 6 (aG G)
def ex (G : Gt) (D : Md) (M : Mx) (X : String → Wd → Prop) (Qf : State → Prop) : Prop :=
  G.1.stackTraces = false ∧ xz G (mS M) ∧ (∀ x ∈ M.2.2.2.2.2.2.2.2.1.exceptionTable.toList, False) ∧ 1 ≤ M.2.2.1.cells ∧ 6 ≤ M.2.2.1.slots ∧ M.2.2.2.2.2.2.2.2.2.1 = 0 ∧ M.2.2.2.2.2.2.2.2.2.2 = 0 ∧ ∃ Q0, ∀ (H : Heap) (locs : List Loc) (g : JFrame), WM G M H locs (vx_MQ M.2.2.2.2.2.2.1 (qcG G Q0) (xcG G X) (mArgs M) (mS M) 1 6 (aG G)) g → WM G M H locs Qf g
theorem hp_kept {G : Gt} {w : Wd} {H H1 : Heap} (h : hp G w H) (hq : ∀ q : Nat, q < H.size → H1[q]? = H[q]?) : hp G w H1 := va_P.kept h (fun k q hk => hq _ ((h k q hk).lt))
set_option maxHeartbeats 2000000 in
theorem jq_throw {G : Gt} {D : Md} {M : Mx} {Qf : State → Prop} {pc : Nat} {L : List (Nat × Value)} {rest : List Value} {w : Wd} {X : String → Wd → Prop} {E : String} {names : List String} {ik ic : Nat}
    (d0 : decode D.2.1 pc = .ok (.new ik, 3)) (d3 : decode D.2.1 (pc + 3) = .ok (.dup, 1)) (d4 : decode D.2.1 (pc + 4) = .ok (.invokespecial ic, 3)) (d7 : decode D.2.1 (pc + 7) = .ok (.athrow, 1))
    (hC : cx G D M) (hX : ex G D M X Qf) (hE : X E w) (hcls : Bundle.fit E = true) (hnames : ∀ n ∈ names, Bundle.fit n = true)
    (hk : Cond.classLink D.2.2.2.2.2.1 ik E ∈ D.2.2.2.2.1) (hini : Cond.initialized E ∈ D.2.2.2.2.1) (hg1 : ∀ v ∈ (vx_at0 D.2.2.2.2.2.1 ic E names).filter goodWord, v ∈ D.2.2.2.2.1) (hg2 : ∀ v ∈ (vx_at0 D.2.2.2.2.2.1 ic E names).filter (fun w => !goodWord w), v ∈ nwx)
    (hgood : ∀ w ∈ Cond.classLink D.2.2.2.2.2.1 ik E :: Cond.initialized E :: vx_at0 D.2.2.2.2.2.1 ic E names, vx_ot w = true)
    (hfr : names.length + 3 < D.2.2.2.2.2.2.frames) (hlo : (rest.map fun v => v.category).sum + (13 * (names.length + 1) + 42) ≤ D.2.2.2.2.2.2.locals) : jq G D M Qf pc L rest w := by
  intro H locs ls h1 h2 h3
  obtain ⟨htr, ⟨hU, hN, hxw⟩, htab, hc1, hs1, hc0, hs0, Q0, hout⟩ := hX
  refine hout H locs _ ?_
  refine vx_throw0 (A := aG G) hC.x hC.b htr hC.own hcls hnames (hC.ts _ hk) (hC.ts _ hini) (vx_hat (fun v hv => hC.ts _ (hg1 v hv)) hg2 (fun v hv => va_Nw.use (nwx_ot v hv) (hxw v hv))) hgood hU hN h2 (h3.1.trans hC.ml.symm) d0 d3 d4 d7 (fun x hx => (htab x hx).elim) (Nat.lt_of_lt_of_le hfr hC.fr) (Nat.le_trans hlo hC.lo) (by rw [hc0]; exact hc1) (by rw [hs0]; exact hs1) hC.lk (fun t _ ht1 ht2 => ?_) h2.2.2 (by rw [hc0]; exact Nat.le_refl _) (by rw [hs0]; exact Nat.le_refl _)
  exact ⟨⟨w, hE, hp_kept h1 ht2⟩, Nat.le_trans h2.1 ht1, fun q g1 g2 => (ht2 q (Nat.lt_of_lt_of_le g1 h2.1)).trans (h2.2.1 q g1 g2)⟩
theorem MtX_of {G : Gt} {D : Md} {av : List Value} {w : Wd} {Q : Option Value → Wd → Prop} {X : String → Wd → Prop} {ws' : List Cond} (hy : plainName D.1.cls = true) (hcl : D.1.cls = D.2.2.2.2.2.1) (hw : D.2.2.2.2.1 = Cond.code D.1 D.2.1 D.2.2.1 D.2.2.2.1 :: ws') (hlen : (lg_sl av).length ≤ D.2.2.1)
    (main : ∀ (M : Mx) (Qf : State → Prop), cx G D M → en G M Q Qf → ex G D M X Qf → jq G D M Qf 0 (lv_args 0 av) [] w) (hc : 1 ≤ D.2.2.2.2.2.2.cells := by decide) (hs : 6 ≤ D.2.2.2.2.2.2.slots := by decide) : MtX G D av w Q X := by
  intro hi htr
  refine vx_ofW (cc := D.2.1) (maxL := D.2.2.1) (ret := D.2.2.2.1) hy hw ?_
  intro p e s m args below meth c s₁ B hml htab hv
  obtain ⟨rfl, hP, ⟨hK, hN⟩, hxz⟩ := hv
  have hown : s.vm.findClass D.2.2.2.2.2.1 = some m.cls := by rw [← hcl]; exact findClass_of_methodNamed B.named
  rw [lg_entry_eq]
  refine main (p, e, D.2.2.2.2.2.2, s, m, av.toArray, below, meth, c, 0, 0) (vx_MQ below (qcG G Q) (xcG G X) av.toArray s 1 6 (aG G)) ⟨hi, B.exec, B.bytes, B.returns, hml, hown, atoms_spec (ws := D.2.2.2.2.1) B.pre, B.notSynchronized, ⟨hK, hN⟩, Nat.le_refl _, Nat.le_refl _, Nat.zero_le _, Nat.zero_le _⟩ (fun H locs g k T hT X9 => ?_) ⟨htr, hxz, htab, hc, hs, rfl, rfl, Q, fun _ _ _ h => h⟩ s.heap [] _ hP va_S.rf (lv_entry av hlen)
  obtain ⟨t, a1, o, b1, b2, b3, L, ⟨f1, f2, f3⟩, b4⟩ := k T hT X9
  exact ⟨t, a1, o, b1, b2, Or.inl ⟨b3, L, ⟨f1, f2, f3.mono (Nat.zero_le _) (Nat.zero_le _)⟩, b4⟩⟩
