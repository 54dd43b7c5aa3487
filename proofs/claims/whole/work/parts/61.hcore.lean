/-! THE LAW'S HELPERS: static methods that call one that throws, and catch -/
def ncs : List (String × String) := [("java/lang/IllegalStateException", "java/lang/IllegalArgumentException"), ("java/lang/IndexOutOfBoundsException", "java/lang/IllegalArgumentException"), ("java/lang/IllegalArgumentException", "java/lang/IllegalStateException"), ("java/lang/IndexOutOfBoundsException", "java/lang/IllegalStateException"), ("java/lang/IllegalArgumentException", "java/lang/IndexOutOfBoundsException"), ("java/lang/IllegalStateException", "java/lang/IndexOutOfBoundsException")]
def ncU (U : State) : Prop := ∀ q ∈ ncs, va_Nc q.1 q.2 U
theorem ncU_moved {u U : State} (hvm : u.vm.Alike U.vm) (h : ncU u) : ncU U := fun q hq => va_Nc.moved hvm (h q hq)
def pcH (G : Gt) (av : List Value) (w : Wd) : Array Value → State → Prop := va_Pc av (fun U => hp G w U.heap ∧ kk G U ∧ xz G U ∧ ncU U)
def MtH (G : Gt) (D : Md) (av : List Value) (w : Wd) (Q : Option Value → Wd → Prop) : Prop := inj G → G.1.stackTraces = false → Met G.1 D.1 D.2.2.2.2.1 D.2.2.2.2.2.2 (pcH G av w) (qcG G Q) 1 6 (aG G)
theorem pcX_blind (G : Gt) (av : List Value) (w : Wd) : FrameBlind (pcX G av w) := by
  intro a U g mk q
  obtain ⟨q1, q2, ⟨q3, q4⟩, q5, q6, q7⟩ := q
  exact ⟨q1, q2, ⟨va_K.moved (u := U) (U := U.calling g mk a) (Vm.Alike.refl U.vm) q3, nw.same (u := U) (U := U.calling g mk a) rfl q4⟩, vx_Zq.moved (u := U) (U := U.calling g mk a) (Vm.Alike.refl U.vm) q5, vx_Zq.moved (u := U) (U := U.calling g mk a) (Vm.Alike.refl U.vm) q6, xw.same (u := U) (U := U.calling g mk a) rfl q7⟩
theorem pcH_blind (G : Gt) (av : List Value) (w : Wd) : FrameBlind (pcH G av w) := by
  intro a U g mk q
  obtain ⟨q1, q2, ⟨q3, q4⟩, ⟨q5, q6, q7⟩, q8⟩ := q
  exact ⟨q1, q2, ⟨va_K.moved (u := U) (U := U.calling g mk a) (Vm.Alike.refl U.vm) q3, nw.same (u := U) (U := U.calling g mk a) rfl q4⟩, ⟨vx_Zq.moved (u := U) (U := U.calling g mk a) (Vm.Alike.refl U.vm) q5, vx_Zq.moved (u := U) (U := U.calling g mk a) (Vm.Alike.refl U.vm) q6, xw.same (u := U) (U := U.calling g mk a) rfl q7⟩, ncU_moved (u := U) (U := U.calling g mk a) (Vm.Alike.refl U.vm) q8⟩
/-- the same machine with other counts of what was made -/
abbrev M1 (M : Mx) (k n : Nat) : Mx := (M.1, M.2.1, M.2.2.1, M.2.2.2.1, M.2.2.2.2.1, M.2.2.2.2.2.1, M.2.2.2.2.2.2.1, M.2.2.2.2.2.2.2.1, M.2.2.2.2.2.2.2.2.1, k, n)
theorem cx_M1 {G : Gt} {D : Md} {M : Mx} {k n : Nat} (h : cx G D M) (hk : k ≤ M.2.2.1.cells) (hn : n ≤ M.2.2.1.slots) : cx G D (M1 M k n) := by
  obtain ⟨a1, a2, a3, a4, a5, a6, a7, a8, a9, a10, a11, -, -⟩ := h
  exact ⟨a1, a2, a3, a4, a5, a6, a7, a8, a9, a10, a11, hk, hn⟩
theorem pcX_here {G : Gt} {D : Md} {M : Mx} (hC : cx G D M) (hz : xz G (mS M)) {H : Heap} {locs : List Loc} {w : Wd} {av : List Value} (h1 : hp G w H) (h2 : va_S (aG G) (mS M).heap H locs) : ∀ U : State, U.heap = H → (mS M).WarmedH U.vm → pcX G av w av.toArray U := fun U hU hW => ⟨rfl, by rw [hU]; exact h1, ⟨va_K.moved hW.alike hC.K, nw.warm hW hC.nw⟩, xz_here hz h2 hU hW⟩
theorem pcH_here {G : Gt} {D : Md} {M : Mx} (hC : cx G D M) (hz : xz G (mS M)) (hn : ncU (mS M)) {H : Heap} {locs : List Loc} {w : Wd} {av : List Value} (h1 : hp G w H) (h2 : va_S (aG G) (mS M).heap H locs) : ∀ U : State, U.heap = H → (mS M).WarmedH U.vm → pcH G av w av.toArray U := fun U hU hW => ⟨rfl, by rw [hU]; exact h1, ⟨va_K.moved hW.alike hC.K, nw.warm hW hC.nw⟩, xz_here hz h2 hU hW, ncU_moved hW.alike hn⟩
/-- the method's frame, with q thrown over it -/
abbrev WX (G : Gt) (M : Mx) (H : Heap) (locs : List Loc) (Qf : State → Prop) (g : JFrame) (q : Addr) : Prop := vx_W M.1 G.1 M.2.1 M.2.2.1 M.2.2.2.1 M.2.2.2.2.1 M.2.2.2.2.2.1 M.2.2.2.2.2.2.1 M.2.2.2.2.2.2.2.1 M.2.2.2.2.2.2.2.2.1 H locs M.2.2.2.2.2.2.2.2.2.1 M.2.2.2.2.2.2.2.2.2.2 Qf g q
section BackX
variable {G : Gt} {D : Md} {M : Mx} {Qf : State → Prop} {pc : Nat} {L : List (Nat × Value)} {rest : List Value} {w : Wd}
theorem vs_keep {st₀ t T' : State} {H : Heap} {locs Lo : List Loc} (e0 : st₀.heap = H) (e1 : T'.heap = t.heap) (h2 : va_S (aG G) (mS M).heap H locs) (hL : ∀ q ∈ Lo, aG G q.base) (hF : va_F (aG G) st₀ t) : va_S (aG G) (mS M).heap T'.heap (locs ++ Lo) := by
  obtain ⟨hz, hk⟩ := hF
  rw [e0] at hz hk
  exact ⟨Nat.le_trans h2.1 (by rw [e1]; exact hz), fun q g1 g2 => by rw [e1, hk q (Nat.lt_of_lt_of_le g1 h2.1) g2]; exact h2.2.1 q g1 g2, fun q hq => by
    rcases List.mem_append.mp hq with h | h
    · exact h2.2.2 q h
    · exact hL q h⟩
theorem jq_backX {a : Array Value} {Q : Option Value → Wd → Prop} {X : String → Wd → Prop} {H : Heap} {locs : List Loc} {ls : Array Slot} {st0 : List Value}
    (hr : vx_Run M.1 G.1 M.2.1 M.2.2.1 M.2.2.2.1 M.2.2.2.2.1 M.2.2.2.2.2.1 M.2.2.2.2.2.2.1 M.2.2.2.2.2.2.2.1 M.2.2.2.2.2.2.2.2.1 H locs M.2.2.2.2.2.2.2.2.2.1 M.2.2.2.2.2.2.2.2.2.2 1 6 (F0 M.2.2.2.2.1 pc ls st0) rest (qcG G Q a) (xcG G X) (aG G))
    (h2 : va_S (aG G) (mS M).heap H locs) (h3 : lv_has ls D.2.2.1 L) (k : ∀ (r : Option Value) (w' : Wd), Q r w' → jq G D (M1 M (M.2.2.2.2.2.2.2.2.2.1 + 1) (M.2.2.2.2.2.2.2.2.2.2 + 6)) Qf (pc + 3) L (r.toList ++ rest) w')
    (kx : ∀ (E : String) (w' : Wd) (ce : Cell) (q9 : Addr) (H1 : Heap) (locs1 : List Loc), X E w' → hp G w' H1 → va_S (aG G) (mS M).heap H1 locs1 → H1[q9]? = some ce → ce.vm = .none → (mS M).vm.findClass E = some ce.cls → WX G (M1 M (M.2.2.2.2.2.2.2.2.2.1 + 1) (M.2.2.2.2.2.2.2.2.2.2 + 6)) H1 locs1 Qf (F0 M.2.2.2.2.1 pc ls rest) q9) : WM G M H locs Qf (F0 M.2.2.2.2.1 pc ls st0) := by
  intro T hT X0
  rcases hr T hT X0 with ⟨v, st₀, t, T', Lo, e0, X', hL, e1, e2, ⟨⟨r, w', hv, hq, hh⟩, hF⟩, st⟩ | ⟨q, st₀, t, T', Lo, E, ce, e0, X', hL, e1, e2, ⟨⟨w', hq, hh⟩, hF⟩, hce, hcv, hcl, st⟩
  · cases hv
    obtain ⟨t2, a1, b1⟩ := k v w' hq T'.heap (locs ++ Lo) ls (by rw [e1]; exact hh) (vs_keep e0 e1 h2 hL hF) h3 T' rfl X'
    exact ⟨t2, st t2 a1, b1⟩
  · obtain ⟨t2, a1, b1⟩ := kx E w' ce q T'.heap (locs ++ Lo) hq (by rw [e1]; exact hh) (vs_keep e0 e1 h2 hL hF) (by rw [e1]; exact hce) hcv hcl T' rfl X'
    exact ⟨t2, st.trans a1, b1⟩
theorem jq_backH {a : Array Value} {Q : Option Value → Wd → Prop} {H : Heap} {locs : List Loc} {ls : Array Slot} {st0 : List Value}
    (hr : va_Run M.1 G.1 M.2.1 M.2.2.1 M.2.2.2.1 M.2.2.2.2.1 M.2.2.2.2.2.1 M.2.2.2.2.2.2.1 M.2.2.2.2.2.2.2.1 M.2.2.2.2.2.2.2.2.1 H locs M.2.2.2.2.2.2.2.2.2.1 M.2.2.2.2.2.2.2.2.2.2 1 6 (F0 M.2.2.2.2.1 pc ls st0) rest (qcG G Q a) (aG G))
    (h2 : va_S (aG G) (mS M).heap H locs) (h3 : lv_has ls D.2.2.1 L) (k : ∀ (r : Option Value) (w' : Wd), Q r w' → jq G D (M1 M (M.2.2.2.2.2.2.2.2.2.1 + 1) (M.2.2.2.2.2.2.2.2.2.2 + 6)) Qf (pc + 3) L (r.toList ++ rest) w') : WM G M H locs Qf (F0 M.2.2.2.2.1 pc ls st0) := by
  intro T hT X0
  obtain ⟨v, st₀, t, T', Lo, e0, X', hL, e1, e2, ⟨⟨r, w', hv, hq, hh⟩, hF⟩, st⟩ := hr T hT X0
  cases hv
  obtain ⟨t2, a1, b1⟩ := k v w' hq T'.heap (locs ++ Lo) ls (by rw [e1]; exact hh) (vs_keep e0 e1 h2 hL hF) h3 T' rfl X'
  exact ⟨t2, st t2 a1, b1⟩
/-- what a helper's walk knows of its machine -/
def exH (G : Gt) (M : Mx) (hh : List (Nat × Nat × Nat × Nat)) : Prop := G.1.stackTraces = false ∧ xz G (mS M) ∧ ncU (mS M) ∧ M.2.2.2.2.2.2.2.2.1.exceptionTable.toList = tableOf hh ∧ 1 ≤ M.2.2.1.cells ∧ 6 ≤ M.2.2.1.slots ∧ M.2.2.2.2.2.2.2.2.2.1 = 0 ∧ M.2.2.2.2.2.2.2.2.2.2 = 0
/-- the callee's room, and its name, by program -/
def okX (D D' : Md) : Prop := D'.2.2.2.2.2.2.cells = 1 ∧ D'.2.2.2.2.2.2.slots = 6 ∧ D'.2.2.2.2.2.2.frames + 1 ≤ D.2.2.2.2.2.2.frames ∧ 8 + (D'.2.2.1 + 11) + D'.2.2.2.2.2.2.locals ≤ D.2.2.2.2.2.2.locals
theorem jq_callX {D' : Md} {hh : List (Nat × Nat × Nat × Nat)} {n o ci idx na : Nat} {C : String} {T : u_T} {N : Nat} {fs As : List Value} {ws' : List Cond} {Q : Option Value → Wd → Prop} {X : String → Wd → Prop} (hdg : decode D.2.1 pc = .ok (.invokevirtual idx, 3)) (hC : cx G D M) (hH : exH G M hh) (hm : (n, o) ∈ cellsL) (he : ent G w n o = .inr (ci, fs)) (hc : vwCl[ci]? = some (C, T, N)) (hcl : D'.2.2.2.2.2.1 = C)
    (hM : MtX G D' (.ref (aD G n o) :: As) w Q X) (hG : GoodIn D.2.2.2.2.1 (wsV D.2.2.2.2.2.1 idx C D'.1 D'.2.2.2.2.1)) (hw : D'.2.2.2.2.1 = Cond.code D'.1 D'.2.1 D'.2.2.1 D'.2.2.2.1 :: ws') (ho : okX D D') (hn : nmD D' na) (hA : As.length = na) (hst : (rest.map fun v => v.category).sum ≤ 8)
    (k : ∀ (r : Option Value) (w' : Wd), Q r w' → jq G D (M1 M 1 6) Qf (pc + 3) L (r.toList ++ rest) w')
    (kx : ∀ (E : String) (w' : Wd) (q9 : Addr), X E w' → ∃ (pre : List (Nat × Nat × Nat × Nat)) (x : Nat × Nat × Nat × Nat) (suf : List (Nat × Nat × Nat × Nat)), hh = pre ++ x :: suf ∧ (∀ z ∈ pre, z.2.2.2 ≠ 0 ∧ ∃ nm : String, Cond.classLink D.2.2.2.2.2.1 z.2.2.2 nm ∈ D.2.2.2.2.1 ∧ (E, nm) ∈ ncs) ∧ covers ⟨x.1, x.2.1, x.2.2.1, x.2.2.2⟩ pc = true ∧ x.2.2.2 ≠ 0 ∧ Cond.classLink D.2.2.2.2.2.1 x.2.2.2 E ∈ D.2.2.2.2.1 ∧ Cond.castable E E ∈ nwx ∧ jq G D (M1 M 1 6) Qf x.2.2.1 L [.ref q9] w') : jq G D M Qf pc L (As.reverse ++ .ref (aD G n o) :: rest) w := by
  intro H locs ls h1 h2 h3
  obtain ⟨q0, -, hq⟩ := ws_at G hm
  have hrv := va_recv (q := (C, T, N)) hC.K h1 hc ((hq w).trans (by rw [he]))
  subst hcl
  obtain ⟨htr, hz, hnc, htab, hr1, hr2, hc0, hs0⟩ := hH
  have hfr := hC.fr
  have hlo := hC.lo
  refine jq_backX (vx_runV (As := As) (rest := rest) ⟨hC.x, hC.b, hC.ml, hC.own, hC.ts⟩ (hM hC.1 htr) (cwV (ret := D'.2.2.2.1) (bytes := D'.2.1) (maxL := D'.2.2.1) na hC.ts hG hw ho.1 ho.2.1 ⟨hn.1, hn.2⟩ ⟨Nat.le_trans ho.2.2.1 hfr, Nat.le_trans ho.2.2.2 hlo⟩) ⟨pcX_blind _ _ _, hrv, pcX_here hC hz h1 h2⟩ rfl hA h3.1 rfl (lv_room hst) hdg ⟨by rw [hc0]; exact hr1, by rw [hs0]; exact hr2⟩) h2 h3 (fun r w' hq => by rw [hc0, hs0]; exact k r w' hq) (fun E w' ce q9 H1 locs1 hX hP1 hS1 hce hcv hcl => ?_)
  obtain ⟨pre, x, suf, e1, e2, e3, e4, e5, e6, e7⟩ := kx E w' q9 hX
  rw [hc0, hs0]
  refine vx_catch (own := D.2.2.2.2.2.1) (name := E) (ce := ce) (E := E) hC.own (tableOf pre) ⟨x.1, x.2.1, x.2.2.1, x.2.2.2⟩ (tableOf suf) (by rw [htab, e1]; simp [tableOf]) (fun z hz' => ?_) e3 e4 (hC.ts _ e5) (va_Nw.use (nwx_ot _ e6) (hz.2.2 _ e6)) hce hcv hcl (e7 H1 locs1 ls hP1 hS1 h3)
  obtain ⟨y, y1, rfl⟩ := List.mem_map.mp hz'
  obtain ⟨y2, nm, y3, y4⟩ := e2 y y1
  exact Or.inr ⟨y2, nm, hC.ts _ y3, hnc _ y4⟩
/-- the call of a helper -/
theorem jq_callH {D' : Md} {hh : List (Nat × Nat × Nat × Nat)} {idx na : Nat} {As : List Value} {ws' : List Cond} {Q : Option Value → Wd → Prop} (hdg : decode D.2.1 pc = .ok (.invokestatic idx, 3)) (hC : cx G D M) (htr : G.1.stackTraces = false) (hz : xz G (mS M)) (hnc : ncU (mS M))
    (hM : MtH G D' As w Q) (hG : GoodIn D.2.2.2.2.1 (va_wsS D.2.2.2.2.2.1 idx D'.1 D'.2.2.2.2.1)) (hw : D'.2.2.2.2.1 = Cond.codeWith D'.1 D'.2.1 D'.2.2.1 D'.2.2.2.1 hh :: ws') (ho : okX D D') (hn : nmD D' na) (hA : As.length = na) (hst : (rest.map fun v => v.category).sum ≤ 8) (hc : M.2.2.2.2.2.2.2.2.2.1 + 1 ≤ M.2.2.1.cells) (hs : M.2.2.2.2.2.2.2.2.2.2 + 6 ≤ M.2.2.1.slots)
    (k : ∀ (r : Option Value) (w' : Wd), Q r w' → jq G D (M1 M (M.2.2.2.2.2.2.2.2.2.1 + 1) (M.2.2.2.2.2.2.2.2.2.2 + 6)) Qf (pc + 3) L (r.toList ++ rest) w') : jq G D M Qf pc L (As.reverse ++ rest) w := by
  intro H locs ls h1 h2 h3
  have hfr := hC.fr
  have hlo := hC.lo
  exact jq_backH (vx_runSW (As := As) (rest := rest) ⟨hC.x, hC.b, hC.ml, hC.own, hC.ts⟩ (hM hC.1 htr) (vx_cwSW (ret := D'.2.2.2.1) (bytes := D'.2.1) (maxL := D'.2.2.1) na hC.ts hG hw ho.1 ho.2.1 hn.2 ⟨Nat.le_trans ho.2.2.1 hfr, Nat.le_trans ho.2.2.2 hlo⟩) ⟨pcH_blind _ _ _, pcH_here hC hz hnc h1 h2⟩ rfl hA h3.1 rfl (lv_room hst) hdg ⟨hc, hs⟩) h2 h3 k
end BackX
theorem Met_ofH {l : Launch} {y : MethodName} {ws ws' : List Cond} {rm : Room} {Pc : Array Value → State → Prop} {Qc : Array Value → State → Outcome → State → Prop} {mc ms : Nat} {free : Addr → Prop} {cc : ByteArray} {maxL : Nat} {ret : Option FieldType} {hh : List (Nat × Nat × Nat × Nat)}
    (hy : plainName y.cls = true) (hw : ws = Cond.codeWith y cc maxL ret hh :: ws')
    (body : ∀ p e s m args below meth c s₁, BodyLoose p l y (headSpec ws rm) cc maxL ret e s m args below meth c s₁ → c.maxLocals = maxL → Pc args s →
      W p l e (headSpec ws rm).room s m args below meth c s.heap [] 0 0 (MQ below Qc args s mc ms free) (entryFrame m args maxL)) : Met l y ws rm Pc Qc mc ms free := by
  refine MetFree.of_bodyS (code := cc) (maxLocals := maxL) (ret := ret) hy ?_ ?_
  · intro args s m h hn
    obtain ⟨m9, meth, c, hn9, h1, h2, h3, h4, -, h5, h6, -⟩ := Cond.codeWith_spec (atoms_spec (ws := ws) h _ (by rw [hw]; exact List.mem_cons_self))
    cases hn.symm.trans hn9
    exact ⟨meth, c, h1, h2, h3, h4, h5, h6⟩
  · intro p e s m args below meth c s₁ B hml hP _
    have hh0 : s₁.heap = s.heap := by rw [B.state]; rfl
    obtain ⟨t, a1, o, b1, b2, b3⟩ := body p e s m args below meth c s₁ B hml hP s₁ hh0 (Stand.of_body B)
    exact ⟨t, o, a1, b1, b2, ⟨b3.1, b3.2⟩⟩
theorem MtH_of {G : Gt} {D : Md} {av : List Value} {w : Wd} {Q : Option Value → Wd → Prop} {ws' : List Cond} {hh : List (Nat × Nat × Nat × Nat)} (hy : plainName D.1.cls = true) (hcl : D.1.cls = D.2.2.2.2.2.1) (hw : D.2.2.2.2.1 = Cond.codeWith D.1 D.2.1 D.2.2.1 D.2.2.2.1 hh :: ws') (hlen : (lg_sl av).length ≤ D.2.2.1)
    (main : ∀ (M : Mx) (Qf : State → Prop), cx G D M → en G (M1 M 1 6) Q Qf → exH G M hh → jq G D M Qf 0 (lv_args 0 av) [] w) (hc : 1 ≤ D.2.2.2.2.2.2.cells := by decide) (hs : 6 ≤ D.2.2.2.2.2.2.slots := by decide) : MtH G D av w Q := by
  intro hi htr
  refine Met_ofH (cc := D.2.1) (maxL := D.2.2.1) (ret := D.2.2.2.1) hy hw ?_
  intro p e s m args below meth c s₁ B hml hv
  obtain ⟨rfl, hP, ⟨hK, hN⟩, hz, hnc⟩ := hv
  have hts := atoms_spec (ws := D.2.2.2.2.1) B.pre
  have hown : s.vm.findClass D.2.2.2.2.2.1 = some m.cls := by rw [← hcl]; exact findClass_of_methodNamed B.named
  have htab := vx_table (x := D.1) B (hts _ (by rw [hw]; exact List.mem_cons_self))
  rw [lg_entry_eq]
  exact main (p, e, D.2.2.2.2.2.2, s, m, av.toArray, below, meth, c, 0, 0) (MQ below (qcG G Q) av.toArray s 1 6 (aG G)) ⟨hi, B.exec, B.bytes, B.returns, hml, hown, hts, B.notSynchronized, ⟨hK, hN⟩, Nat.le_refl _, Nat.le_refl _, Nat.zero_le _, Nat.zero_le _⟩ (fun _ _ _ h => h) ⟨htr, hz, hnc, htab, hc, hs, rfl, rfl⟩ s.heap [] _ hP va_S.rf (lv_entry av hlen)
