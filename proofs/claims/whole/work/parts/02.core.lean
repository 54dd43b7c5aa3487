/-! THE WORLD: every cell that the class, the reference and the law's row of longs hold, by (copy, offset). Copies: 0 the survey, 1 the lesser one, 2 to 7 the saved ones. -/
abbrev Wd : Type := (Nat → Nat → Nat → Int32) × (Nat → Nat) × (Nat → Int64)
def wi (w : Wd) (n o k : Nat) : Int32 := w.1 n o k
def sv (w : Wd) (k : Nat) : Nat := w.2.1 k
def wl (w : Wd) (k : Nat) : Int64 := w.2.2 k
def sA (w : Wd) (n o : Nat) (f : Nat → Int32) : Wd := (fun a b => if a = n ∧ b = o then f else w.1 a b, w.2)
def sI (w : Wd) (n o k : Nat) (x : Int32) : Wd := sA w n o (upd (w.1 n o) k x)
def sV (w : Wd) (k v : Nat) : Wd := (w.1, fun j => if j = k then v else w.2.1 j, w.2.2)
def sL (w : Wd) (k : Nat) (x : Int64) : Wd := (w.1, w.2.1, vp_updL w.2.2 k x)
abbrev Mx : Type := Program × Env × Room × State × MethodId × Array Value × List Frame × Method × Code × Nat × Nat
abbrev Gt : Type := Launch × (Nat → ClassId) × (Nat → Nat → Nat) × (Nat → Nat → Nat) × ClassId × ClassId × ClassId × ClassId
abbrev Md : Type := MethodName × ByteArray × Nat × Option FieldType × List Cond × String × Room
def iabs (x : Int32) : Int32 := if 0 ≤ x then x else 0 - x
def imax (x y : Int32) : Int32 := if x < y then y else x
def imin (x y : Int32) : Int32 := if y < x then y else x
def iushr (x y : Int32) : Int32 := (x.toUInt32 >>> (y.toUInt32 &&& Int32.toUInt32 31)).toInt32
def irem (x y : Int32) : Int32 := x - x / y * y
def lrem (x y : Int64) : Int64 := x - x / y * y
def aD (G : Gt) (n o : Nat) : Nat := G.2.2.2.1 n o
def cI (G : Gt) : ClassId := G.2.2.2.2.1
def cZ (G : Gt) : ClassId := G.2.2.2.2.2.1
def cL (G : Gt) : ClassId := G.2.2.2.2.2.2.1
def cQ (G : Gt) : ClassId := G.2.2.2.2.2.2.2
abbrev tys (G : Gt) : List (ClassId × FieldType) := [(cI G, .int), (cZ G, .boolean), (cL G, .long), (cQ G, .object "LevelLoops$Survey")]
def ent (G : Gt) (w : Wd) (n o : Nat) : va_E := match o with
  | 0 => .inr (5, [.int (wi w n 0 0), .int (wi w n 0 1), .ref (aD G n 1), .ref (aD G n 2), .ref (aD G n 3), .ref (aD G n 4), .ref (aD G n 5), .ref (aD G n 6)])
  | 1 => .inl (cI G, 10, .inl (w.1 n 1))
  | 2 => .inl (cI G, 20, .inl (w.1 n 2))
  | 3 => .inl (cI G, 20, .inl (w.1 n 3))
  | 4 => .inl (cI G, 20, .inl (w.1 n 4))
  | 5 => .inl (cI G, 20, .inl (w.1 n 5))
  | 6 => .inl (cI G, 3, .inl (w.1 n 6))
  | 7 => .inr (4, [.ref (aD G n 8), .ref (aD G n 12), .ref (aD G n 22), .ref (aD G n 0)])
  | 8 => .inr (7, [.int (wi w n 8 0), .int (wi w n 8 1), .ref (aD G n 9), .ref (aD G n 10), .ref (aD G n 0), .ref (aD G n 11)])
  | 9 => .inl (cI G, 10, .inl (w.1 n 9))
  | 10 => .inl (cI G, 10, .inl (w.1 n 10))
  | 11 => .inl (cI G, 20, .inl (w.1 n 11))
  | 12 => .inr (2, [.int (wi w n 12 0), .ref (aD G n 13), .ref (aD G n 0), .ref (aD G n 8), .int (wi w n 12 4), .ref (aD G n 14), .ref (aD G n 15), .ref (aD G n 16), .ref (aD G n 17), .ref (aD G n 18), .ref (aD G n 19), .ref (aD G n 20), .ref (aD G n 21)])
  | 13 => .inl (cI G, 20, .inl (w.1 n 13))
  | 14 => .inl (cI G, 20, .inl (w.1 n 14))
  | 15 => .inl (cI G, 20, .inl (w.1 n 15))
  | 16 => .inl (cI G, 20, .inl (w.1 n 16))
  | 17 => .inl (cI G, 20, .inl (w.1 n 17))
  | 18 => .inl (cI G, 20, .inl (w.1 n 18))
  | 19 => .inl (cI G, 20, .inl (w.1 n 19))
  | 20 => .inl (cI G, 20, .inl (w.1 n 20))
  | 21 => .inl (cI G, 20, .inl (w.1 n 21))
  | 22 => .inr (0, [.ref (aD G n 23), .ref (aD G n 24), .ref (aD G n 0), .ref (aD G n 8), .ref (aD G n 12), .ref (aD G n 25)])
  | 23 => .inl (cI G, 10, .inl (w.1 n 23))
  | 24 => .inl (cI G, 10, .inl (w.1 n 24))
  | 25 => .inl (cI G, 10, .inl (w.1 n 25))
  | 26 => .inr (8, [.ref (aD G 0 0), .ref (aD G 0 7), .ref (aD G 1 0), .ref (aD G 1 7), .ref (aD G n 27), .ref (aD G n 29), .ref (aD G n 31)])
  | 27 => .inr (1, [.int (wi w n 27 0), .ref (aD G n 28)])
  | 28 => .inl (cQ G, 6, .inr (.inr (.inr (.inr (fun j => some (aD G (sv w j) 0))))))
  | 29 => .inr (6, [.int (wi w n 29 0), .ref (aD G n 30)])
  | 30 => .inl (cI G, 60, .inl (w.1 n 30))
  | 31 => .inr (3, [.int (wi w n 31 0), .int (wi w n 31 1), .int (wi w n 31 2), .int (wi w n 31 3), .int (wi w n 31 4), .int (wi w n 31 5)])
  | 32 => .inr (9, [.int (wi w n 32 0), .ref (aD G n 33), .ref (aD G n 34), .ref (aD G n 35), .int (wi w n 32 4), .ref (aD G n 36), .int (wi w n 32 6), .ref (aD G n 37), .ref (aD G n 38), .ref (aD G n 39), .ref (aD G n 40), .ref (aD G n 41), .ref (aD G n 42), .ref (aD G n 43), .ref (aD G n 44), .int (wi w n 32 15), .ref (aD G n 45), .ref (aD G n 46), .ref (aD G n 47), .ref (aD G n 48), .ref (aD G n 49), .ref (aD G n 50), .int (wi w n 32 22), .int (wi w n 32 23), .long (wl w 0)])
  | 33 => .inl (cI G, 95, .inl (w.1 n 33))
  | 34 => .inl (cI G, 95, .inl (w.1 n 34))
  | 35 => .inl (cI G, 570, .inl (w.1 n 35))
  | 36 => .inl (cI G, 60, .inl (w.1 n 36))
  | 37 => .inl (cI G, 10, .inl (w.1 n 37))
  | 38 => .inl (cZ G, 20, .inl (w.1 n 38))
  | 39 => .inl (cI G, 10, .inl (w.1 n 39))
  | 40 => .inl (cI G, 10, .inl (w.1 n 40))
  | 41 => .inl (cI G, 20, .inl (w.1 n 41))
  | 42 => .inl (cI G, 400, .inl (w.1 n 42))
  | 43 => .inl (cI G, 20, .inl (w.1 n 43))
  | 44 => .inl (cI G, 20, .inl (w.1 n 44))
  | 45 => .inl (cI G, 20, .inl (w.1 n 45))
  | 46 => .inl (cZ G, 20, .inl (w.1 n 46))
  | 47 => .inl (cI G, 20, .inl (w.1 n 47))
  | 48 => .inl (cI G, 20, .inl (w.1 n 48))
  | 49 => .inl (cI G, 10, .inl (w.1 n 49))
  | 50 => .inl (cI G, 10, .inl (w.1 n 50))
  | 51 => .inl (cL G, 1, .inr (.inl (fun j => wl w (j + 1))))
  | _ => .inr (0, [])

def cellsL : List (Nat × Nat) := (List.range 52).map (fun o => (0, o)) ++ ((List.range 26).map (fun o => (1, o)) ++ ((List.range 7).map (fun o => (2, o)) ++ ((List.range 7).map (fun o => (3, o)) ++ ((List.range 7).map (fun o => (4, o)) ++ ((List.range 7).map (fun o => (5, o)) ++ ((List.range 7).map (fun o => (6, o)) ++ (List.range 7).map (fun o => (7, o))))))))
def wsG (G : Gt) (w : Wd) : va_W := cellsL.map fun c => (aD G c.1 c.2, ent G w c.1 c.2)
abbrev vD (G : Gt) : va_G := (G.2.1, G.2.2.1)
def hp (G : Gt) (w : Wd) (H : Heap) : Prop := va_P (vD G) vwCl (wsG G w) H
def aG (G : Gt) : Nat → Prop := fun q => ∃ c ∈ cellsL, q = aD G c.1 c.2
def inj (G : Gt) : Prop := ∀ c ∈ cellsL, ∀ c' ∈ cellsL, aD G c.1 c.2 = aD G c'.1 c'.2 → c = c'
theorem cl_S {n o : Nat} (h : n < 8) (h2 : o < 7) : (n, o) ∈ cellsL := by simp [cellsL]; omega
theorem cl_T {n o : Nat} (h : n < 2) (h2 : o < 26) : (n, o) ∈ cellsL := by simp [cellsL]; omega
theorem cl_0 {o : Nat} (h2 : o < 52) : (0, o) ∈ cellsL := by simp [cellsL]; omega
theorem cl_nd : cellsL.Nodup := by decide +kernel
theorem cl_28 : ∀ c ∈ cellsL, 26 ≤ c.2 → c.1 = 0 := by decide +kernel
theorem cl_ix {i j : Nat} {c : Nat × Nat} (h1 : cellsL[i]? = some c) (h2 : cellsL[j]? = some c) : i = j := by
  obtain ⟨a1, b1⟩ := List.getElem?_eq_some_iff.mp h1
  obtain ⟨a2, b2⟩ := List.getElem?_eq_some_iff.mp h2
  exact (List.getElem?_inj a1 cl_nd).mp (h1.trans h2.symm)
theorem ws_get {G : Gt} {q : Nat} {c : Nat × Nat} (h : cellsL[q]? = some c) (w : Wd) : (wsG G w)[q]? = some (aD G c.1 c.2, ent G w c.1 c.2) := by
  simp [wsG, h]
theorem ws_at (G : Gt) {n o : Nat} (h : (n, o) ∈ cellsL) : ∃ q0 : Nat, cellsL[q0]? = some (n, o) ∧ ∀ w, (wsG G w)[q0]? = some (aD G n o, ent G w n o) := by
  obtain ⟨q0, hq⟩ := List.getElem?_of_mem h
  exact ⟨q0, hq, fun w => ws_get hq w⟩
theorem ws_set {G : Gt} {w w' : Wd} {n o q0 : Nat} (hq : cellsL[q0]? = some (n, o)) (hw : ∀ c ∈ cellsL, c ≠ (n, o) → ent G w' c.1 c.2 = ent G w c.1 c.2) {e : va_E} (he : ent G w' n o = e) : (wsG G w).set q0 (aD G n o, e) = wsG G w' := by
  subst he
  apply List.ext_getElem?
  intro k
  have hl : q0 < (wsG G w).length := by
    simp only [wsG, List.length_map]
    exact (List.getElem?_eq_some_iff.mp hq).1
  by_cases hk : k = q0
  · subst hk
    rw [List.getElem?_set_self hl, ws_get hq w']
  · rw [List.getElem?_set_ne (Ne.symm hk)]
    cases hc : cellsL[k]? with
    | none => simp [wsG, hc]
    | some c =>
      rw [ws_get hc w, ws_get hc w', hw c (List.mem_of_getElem? hc)]
      intro h
      subst h
      exact hk (cl_ix hc hq)
theorem ent_c {G : Gt} {w w' : Wd} {a b : Nat} (h1 : w'.1 a b = w.1 a b) (h2 : b = 28 → w'.2.1 = w.2.1) (h3 : b = 32 → wl w' 0 = wl w 0) (h4 : b = 51 → ∀ j, wl w' (j + 1) = wl w (j + 1)) : ent G w' a b = ent G w a b := by
  unfold ent
  split <;> first | (simp only [wi, h1]; done) | (simp only [sv, h2 rfl]; done) | (simp only [wi, h1, h3 rfl]; done) | (simp only [h4 rfl]; done) | rfl
theorem ent_sA {G : Gt} {w : Wd} {n o : Nat} {f : Nat → Int32} (c : Nat × Nat) (h : c ≠ (n, o)) : ent G (sA w n o f) c.1 c.2 = ent G w c.1 c.2 := by
  refine ent_c ?_ (fun _ => rfl) (fun _ => rfl) (fun _ _ => rfl)
  show (if c.1 = n ∧ c.2 = o then f else w.1 c.1 c.2) = _
  rw [if_neg]
  rintro ⟨rfl, rfl⟩
  exact h rfl
theorem aG_of {G : Gt} {n o : Nat} (h : (n, o) ∈ cellsL) : aG G (aD G n o) := ⟨_, h, rfl⟩
theorem ws_D {G : Gt} (hi : inj G) (w : Wd) : va_D (aG G) (wsG G w) := by
  refine ⟨fun i j p q h1 h2 hpq => ?_, fun k q h => ?_⟩
  · cases c1 : cellsL[i]? with
    | none => simp [wsG, c1] at h1
    | some c =>
      cases c2 : cellsL[j]? with
      | none => simp [wsG, c2] at h2
      | some c' =>
        rw [ws_get c1] at h1
        rw [ws_get c2] at h2
        cases h1; cases h2
        have := hi c (List.mem_of_getElem? c1) c' (List.mem_of_getElem? c2) hpq
        subst this
        exact cl_ix c1 c2
  · cases c1 : cellsL[k]? with
    | none => simp [wsG, c1] at h
    | some c =>
      rw [ws_get c1] at h
      cases h
      exact ⟨c, List.mem_of_getElem? c1, rfl⟩
/-- the nest mates' links -/
def nws : List (String × Nat × MethodName × String) := [("LevelLoops", 40, ⟨"LevelLoops$Text", "<init>", "()V"⟩, "LevelLoops"), ("LevelLoops", 47, ⟨"LevelLoops$Reader", "<init>", "()V"⟩, "LevelLoops"), ("LevelLoops$Heights", 60, ⟨"LevelLoops", "isIn", "(II)Z"⟩, "LevelLoops"), ("LevelLoops$Loops", 61, ⟨"LevelLoops", "isIn", "(II)Z"⟩, "LevelLoops"), ("LevelLoops$Study", 104, ⟨"LevelLoops", "isIn", "(II)Z"⟩, "LevelLoops"), ("LevelLoops$Survey", 43, ⟨"LevelLoops", "isIn", "(II)Z"⟩, "LevelLoops"), ("LevelLoops$Tree", 66, ⟨"LevelLoops", "isIn", "(II)Z"⟩, "LevelLoops")]
def nw (U : State) : Prop := ∀ q ∈ nws, va_Nw (.methodLinkNest q.1 q.2.1 q.2.2.1 q.2.2.2) U
theorem nw.warm {s U : State} (hW : s.WarmedH U.vm) (h : nw s) : nw U := fun q hq => va_Nw.warmM hW (h q hq)
theorem nw.same {u U : State} (hv : u.vm = U.vm) (h : nw u) : nw U := fun q hq => va_Nw.same rfl hv (h q hq)
def kk (G : Gt) (U : State) : Prop := va_K (vD G) vwCl (tys G) U ∧ nw U
def pcG (G : Gt) (av : List Value) (w : Wd) : Array Value → State → Prop := va_Pc av (fun U => hp G w U.heap ∧ kk G U)
def qcG (G : Gt) (Q : Option Value → Wd → Prop) : Array Value → State → Outcome → State → Prop := fun _ st oc t => (∃ (r : Option Value) (w' : Wd), oc = .returned r ∧ Q r w' ∧ hp G w' t.heap) ∧ va_F (aG G) st t
def Mt (G : Gt) (D : Md) (av : List Value) (w : Wd) (Q : Option Value → Wd → Prop) : Prop := inj G → Met G.1 D.1 D.2.2.2.2.1 D.2.2.2.2.2.2 (pcG G av w) (qcG G Q) 0 0 (aG G)
abbrev mS (M : Mx) : State := M.2.2.2.1
abbrev mArgs (M : Mx) : Array Value := M.2.2.2.2.2.1
/-- W over a machine that is one value -/
abbrev WM (G : Gt) (M : Mx) (H : Heap) (locs : List Loc) (Qf : State → Prop) (g : JFrame) : Prop := W M.1 G.1 M.2.1 M.2.2.1 M.2.2.2.1 M.2.2.2.2.1 M.2.2.2.2.2.1 M.2.2.2.2.2.2.1 M.2.2.2.2.2.2.2.1 M.2.2.2.2.2.2.2.2.1 H locs M.2.2.2.2.2.2.2.2.2.1 M.2.2.2.2.2.2.2.2.2.2 Qf g
def cx (G : Gt) (D : Md) (M : Mx) : Prop :=
  inj G ∧ M.1.tables.exec = Jvm.exec ∧ M.2.2.2.2.2.2.2.2.1.code = D.2.1 ∧ M.2.2.2.2.2.2.2.1.sig.returnType = D.2.2.2.1 ∧ M.2.2.2.2.2.2.2.2.1.maxLocals = D.2.2.1 ∧ (mS M).vm.findClass D.2.2.2.2.2.1 = some M.2.2.2.2.1.cls ∧ (∀ w ∈ D.2.2.2.2.1, w.before (mArgs M) (mS M) = true) ∧ M.2.2.2.2.2.2.2.1.locks = false ∧ kk G (mS M) ∧ D.2.2.2.2.2.2.frames ≤ M.2.2.1.frames ∧ D.2.2.2.2.2.2.locals ≤ M.2.2.1.locals ∧ M.2.2.2.2.2.2.2.2.2.1 ≤ M.2.2.1.cells ∧ M.2.2.2.2.2.2.2.2.2.2 ≤ M.2.2.1.slots
def jq (G : Gt) (D : Md) (M : Mx) (Qf : State → Prop) (pc : Nat) (L : List (Nat × Value)) (st : List Value) (w : Wd) : Prop :=
  ∀ (H : Heap) (locs : List Loc) (ls : Array Slot), hp G w H → va_S (aG G) (mS M).heap H locs → lv_has ls D.2.2.1 L → WM G M H locs Qf (F0 M.2.2.2.2.1 pc ls st)
def en (G : Gt) (M : Mx) (Q : Option Value → Wd → Prop) (Qf : State → Prop) : Prop :=
  ∀ (H : Heap) (locs : List Loc) (g : JFrame), WM G M H locs (MQ M.2.2.2.2.2.2.1 (qcG G Q) (mArgs M) (mS M) M.2.2.2.2.2.2.2.2.2.1 M.2.2.2.2.2.2.2.2.2.2 (aG G)) g → WM G M H locs Qf g
theorem cx.x {G : Gt} {D : Md} {M : Mx} (h : cx G D M) : M.1.tables.exec = Jvm.exec := h.2.1
theorem cx.b {G : Gt} {D : Md} {M : Mx} (h : cx G D M) : M.2.2.2.2.2.2.2.2.1.code = D.2.1 := h.2.2.1
theorem cx.r {G : Gt} {D : Md} {M : Mx} (h : cx G D M) : M.2.2.2.2.2.2.2.1.sig.returnType = D.2.2.2.1 := h.2.2.2.1
theorem cx.ml {G : Gt} {D : Md} {M : Mx} (h : cx G D M) : M.2.2.2.2.2.2.2.2.1.maxLocals = D.2.2.1 := h.2.2.2.2.1
theorem cx.own {G : Gt} {D : Md} {M : Mx} (h : cx G D M) : (mS M).vm.findClass D.2.2.2.2.2.1 = some M.2.2.2.2.1.cls := h.2.2.2.2.2.1
theorem cx.ts {G : Gt} {D : Md} {M : Mx} (h : cx G D M) : ∀ w ∈ D.2.2.2.2.1, w.before (mArgs M) (mS M) = true := h.2.2.2.2.2.2.1
theorem cx.lk {G : Gt} {D : Md} {M : Mx} (h : cx G D M) : M.2.2.2.2.2.2.2.1.locks = false := h.2.2.2.2.2.2.2.1
theorem cx.K {G : Gt} {D : Md} {M : Mx} (h : cx G D M) : va_K (vD G) vwCl (tys G) (mS M) := h.2.2.2.2.2.2.2.2.1.1
theorem cx.nw {G : Gt} {D : Md} {M : Mx} (h : cx G D M) : nw (mS M) := h.2.2.2.2.2.2.2.2.1.2
theorem cx.fr {G : Gt} {D : Md} {M : Mx} (h : cx G D M) : D.2.2.2.2.2.2.frames ≤ M.2.2.1.frames := h.2.2.2.2.2.2.2.2.2.1
theorem cx.lo {G : Gt} {D : Md} {M : Mx} (h : cx G D M) : D.2.2.2.2.2.2.locals ≤ M.2.2.1.locals := h.2.2.2.2.2.2.2.2.2.2.1
theorem cx.ce {G : Gt} {D : Md} {M : Mx} (h : cx G D M) : M.2.2.2.2.2.2.2.2.2.1 ≤ M.2.2.1.cells := h.2.2.2.2.2.2.2.2.2.2.2.1
theorem cx.sl {G : Gt} {D : Md} {M : Mx} (h : cx G D M) : M.2.2.2.2.2.2.2.2.2.2 ≤ M.2.2.1.slots := h.2.2.2.2.2.2.2.2.2.2.2.2
theorem e_27_0 (G : Gt) (w : Wd) (n : Nat) (x : Int32) : ent G (sI w n 27 0 x) n 27 = (match ent G w n 27 with | .inr (c, fs) => .inr (c, fs.set 0 (.int x)) | e => e) := by simp [ent, wi, wl, sI, sA, upd]
theorem e_12_0 (G : Gt) (w : Wd) (n : Nat) (x : Int32) : ent G (sI w n 12 0 x) n 12 = (match ent G w n 12 with | .inr (c, fs) => .inr (c, fs.set 0 (.int x)) | e => e) := by simp [ent, wi, wl, sI, sA, upd]
theorem e_12_4 (G : Gt) (w : Wd) (n : Nat) (x : Int32) : ent G (sI w n 12 4 x) n 12 = (match ent G w n 12 with | .inr (c, fs) => .inr (c, fs.set 4 (.int x)) | e => e) := by simp [ent, wi, wl, sI, sA, upd]
theorem e_31_0 (G : Gt) (w : Wd) (n : Nat) (x : Int32) : ent G (sI w n 31 0 x) n 31 = (match ent G w n 31 with | .inr (c, fs) => .inr (c, fs.set 0 (.int x)) | e => e) := by simp [ent, wi, wl, sI, sA, upd]
theorem e_31_1 (G : Gt) (w : Wd) (n : Nat) (x : Int32) : ent G (sI w n 31 1 x) n 31 = (match ent G w n 31 with | .inr (c, fs) => .inr (c, fs.set 1 (.int x)) | e => e) := by simp [ent, wi, wl, sI, sA, upd]
theorem e_31_2 (G : Gt) (w : Wd) (n : Nat) (x : Int32) : ent G (sI w n 31 2 x) n 31 = (match ent G w n 31 with | .inr (c, fs) => .inr (c, fs.set 2 (.int x)) | e => e) := by simp [ent, wi, wl, sI, sA, upd]
theorem e_31_3 (G : Gt) (w : Wd) (n : Nat) (x : Int32) : ent G (sI w n 31 3 x) n 31 = (match ent G w n 31 with | .inr (c, fs) => .inr (c, fs.set 3 (.int x)) | e => e) := by simp [ent, wi, wl, sI, sA, upd]
theorem e_31_4 (G : Gt) (w : Wd) (n : Nat) (x : Int32) : ent G (sI w n 31 4 x) n 31 = (match ent G w n 31 with | .inr (c, fs) => .inr (c, fs.set 4 (.int x)) | e => e) := by simp [ent, wi, wl, sI, sA, upd]
theorem e_31_5 (G : Gt) (w : Wd) (n : Nat) (x : Int32) : ent G (sI w n 31 5 x) n 31 = (match ent G w n 31 with | .inr (c, fs) => .inr (c, fs.set 5 (.int x)) | e => e) := by simp [ent, wi, wl, sI, sA, upd]
theorem e_0_0 (G : Gt) (w : Wd) (n : Nat) (x : Int32) : ent G (sI w n 0 0 x) n 0 = (match ent G w n 0 with | .inr (c, fs) => .inr (c, fs.set 0 (.int x)) | e => e) := by simp [ent, wi, wl, sI, sA, upd]
theorem e_0_1 (G : Gt) (w : Wd) (n : Nat) (x : Int32) : ent G (sI w n 0 1 x) n 0 = (match ent G w n 0 with | .inr (c, fs) => .inr (c, fs.set 1 (.int x)) | e => e) := by simp [ent, wi, wl, sI, sA, upd]
theorem e_29_0 (G : Gt) (w : Wd) (n : Nat) (x : Int32) : ent G (sI w n 29 0 x) n 29 = (match ent G w n 29 with | .inr (c, fs) => .inr (c, fs.set 0 (.int x)) | e => e) := by simp [ent, wi, wl, sI, sA, upd]
theorem e_8_0 (G : Gt) (w : Wd) (n : Nat) (x : Int32) : ent G (sI w n 8 0 x) n 8 = (match ent G w n 8 with | .inr (c, fs) => .inr (c, fs.set 0 (.int x)) | e => e) := by simp [ent, wi, wl, sI, sA, upd]
theorem e_8_1 (G : Gt) (w : Wd) (n : Nat) (x : Int32) : ent G (sI w n 8 1 x) n 8 = (match ent G w n 8 with | .inr (c, fs) => .inr (c, fs.set 1 (.int x)) | e => e) := by simp [ent, wi, wl, sI, sA, upd]
theorem e_32_0 (G : Gt) (w : Wd) (n : Nat) (x : Int32) : ent G (sI w n 32 0 x) n 32 = (match ent G w n 32 with | .inr (c, fs) => .inr (c, fs.set 0 (.int x)) | e => e) := by simp [ent, wi, wl, sI, sA, upd]
theorem e_32_4 (G : Gt) (w : Wd) (n : Nat) (x : Int32) : ent G (sI w n 32 4 x) n 32 = (match ent G w n 32 with | .inr (c, fs) => .inr (c, fs.set 4 (.int x)) | e => e) := by simp [ent, wi, wl, sI, sA, upd]
theorem e_32_6 (G : Gt) (w : Wd) (n : Nat) (x : Int32) : ent G (sI w n 32 6 x) n 32 = (match ent G w n 32 with | .inr (c, fs) => .inr (c, fs.set 6 (.int x)) | e => e) := by simp [ent, wi, wl, sI, sA, upd]
theorem e_32_15 (G : Gt) (w : Wd) (n : Nat) (x : Int32) : ent G (sI w n 32 15 x) n 32 = (match ent G w n 32 with | .inr (c, fs) => .inr (c, fs.set 15 (.int x)) | e => e) := by simp [ent, wi, wl, sI, sA, upd]
theorem e_32_22 (G : Gt) (w : Wd) (n : Nat) (x : Int32) : ent G (sI w n 32 22 x) n 32 = (match ent G w n 32 with | .inr (c, fs) => .inr (c, fs.set 22 (.int x)) | e => e) := by simp [ent, wi, wl, sI, sA, upd]
theorem e_32_23 (G : Gt) (w : Wd) (n : Nat) (x : Int32) : ent G (sI w n 32 23 x) n 32 = (match ent G w n 32 with | .inr (c, fs) => .inr (c, fs.set 23 (.int x)) | e => e) := by simp [ent, wi, wl, sI, sA, upd]
theorem e_32_24 (G : Gt) (w : Wd) (n : Nat) (x : Int64) : ent G (sL w 0 x) n 32 = (match ent G w n 32 with | .inr (c, fs) => .inr (c, fs.set 24 (.long x)) | e => e) := by simp [ent, wi, wl, sL, vp_updL]
theorem vin {i : Int32} {n : Nat} (h : (decide (i < 0) || decide (n ≤ i.toNatClampNeg)) = false) : vp_in i n := by
  intro q
  rcases q with q | q <;> simp [q] at h
section Rules
variable {G : Gt} {D : Md} {M : Mx} {Qf : State → Prop} {pc : Nat} {L : List (Nat × Value)} {rest : List Value} {w : Wd}
/-- fewer locals are known -/
theorem jq_less {L' : List (Nat × Value)} {st : List Value} (ks : List Nat) (hk : lv_pick L ks = L') (k : jq G D M Qf pc L' st w) : jq G D M Qf pc L st w := fun H locs ls h1 h2 h3 => k H locs ls h1 h2 (lv_sub h3 ks hk)
/-- a name for the world -/
theorem jq_w {st : List Value} (k : ∀ w', w' = w → jq G D M Qf pc L st w') : jq G D M Qf pc L st w := k w rfl
theorem jq_iconst {n : Int} {v : Int32} (hdg : decode D.2.1 pc = .ok (.iconst n, 1)) (hC : cx G D M) (hv : Int32.ofInt n = v) (k : jq G D M Qf (pc + 1) L (.int v :: rest) w) : jq G D M Qf pc L rest w := fun H locs ls h1 h2 h3 => lv_iconst hC.x hC.b hdg hv (k H locs ls h1 h2 h3)
theorem jq_bipush {n : Int} {v : Int32} (hdg : decode D.2.1 pc = .ok (.bipush n, 2)) (hC : cx G D M) (hv : (Int8.ofInt n).toInt32 = v) (k : jq G D M Qf (pc + 2) L (.int v :: rest) w) : jq G D M Qf pc L rest w := fun H locs ls h1 h2 h3 => lv_bipush hC.x hC.b hdg hv (k H locs ls h1 h2 h3)
theorem jq_sipush {n : Int} {v : Int32} (hdg : decode D.2.1 pc = .ok (.sipush n, 3)) (hC : cx G D M) (hv : (Int16.ofInt n).toInt32 = v) (k : jq G D M Qf (pc + 3) L (.int v :: rest) w) : jq G D M Qf pc L rest w := fun H locs ls h1 h2 h3 => lv_sipush hC.x hC.b hdg hv (k H locs ls h1 h2 h3)
theorem jq_lconst {n : Fin 2} {v : Int64} (hdg : decode D.2.1 pc = .ok (.lconst n, 1)) (hC : cx G D M) (hv : Int64.ofNat (n : Nat) = v) (k : jq G D M Qf (pc + 1) L (.long v :: rest) w) : jq G D M Qf pc L rest w := fun H locs ls h1 h2 h3 => lv_lconst hC.x hC.b hdg hv (k H locs ls h1 h2 h3)
theorem jq_dconst0 (hdg : decode D.2.1 pc = .ok (.dconst 0, 1)) (hC : cx G D M) (k : jq G D M Qf (pc + 1) L (.double FP.dconst0 :: rest) w) : jq G D M Qf pc L rest w := fun H locs ls h1 h2 h3 => lv_dconst0 hC.x hC.b hdg (k H locs ls h1 h2 h3)
theorem jq_dconst1 (hdg : decode D.2.1 pc = .ok (.dconst 1, 1)) (hC : cx G D M) (k : jq G D M Qf (pc + 1) L (.double FP.dconst1 :: rest) w) : jq G D M Qf pc L rest w := fun H locs ls h1 h2 h3 => lv_dconst1 hC.x hC.b hdg (k H locs ls h1 h2 h3)
theorem jq_ldc {i : Nat} {v : Int32} (hdg : decode D.2.1 pc = .ok (.ldc i, 2)) (hC : cx G D M) (hm : Cond.constant D.2.2.2.2.2.1 i v ∈ D.2.2.2.2.1) (k : jq G D M Qf (pc + 2) L (.int v :: rest) w) : jq G D M Qf pc L rest w := fun H locs ls h1 h2 h3 => lv_ldc hC.x hC.b hC.own (hC.ts _ hm) hdg (k H locs ls h1 h2 h3)
theorem jq_ldcw {i : Nat} {v : Int32} (hdg : decode D.2.1 pc = .ok (.ldc_w i, 3)) (hC : cx G D M) (hm : Cond.constant D.2.2.2.2.2.1 i v ∈ D.2.2.2.2.1) (k : jq G D M Qf (pc + 3) L (.int v :: rest) w) : jq G D M Qf pc L rest w := fun H locs ls h1 h2 h3 => lv_ldcw hC.x hC.b hC.own (hC.ts _ hm) hdg (k H locs ls h1 h2 h3)
theorem jq_ldc2 {i : Nat} {v : Int64} (hdg : decode D.2.1 pc = .ok (.ldc2_w i, 3)) (hC : cx G D M) (hm : Cond.constantLong D.2.2.2.2.2.1 i v ∈ D.2.2.2.2.1) (k : jq G D M Qf (pc + 3) L (.long v :: rest) w) : jq G D M Qf pc L rest w := fun H locs ls h1 h2 h3 => lv_ldc2 hC.x hC.b hC.own (hC.ts _ hm) hdg (k H locs ls h1 h2 h3)
theorem jq_ldc2d {i : Nat} {v : UInt64} (hdg : decode D.2.1 pc = .ok (.ldc2_w i, 3)) (hC : cx G D M) (hm : Cond.constantDouble D.2.2.2.2.2.1 i v ∈ D.2.2.2.2.1) (k : jq G D M Qf (pc + 3) L (.double v :: rest) w) : jq G D M Qf pc L rest w := fun H locs ls h1 h2 h3 => lv_ldc2d hC.x hC.b hC.own (hC.ts _ hm) hdg (k H locs ls h1 h2 h3)
theorem jq_iload_n {k : Fin 4} {i k0 : Nat} {x : Int32} (hdg : decode D.2.1 pc = .ok (.iload_n k, 1)) (hC : cx G D M) (hi : (k : Nat) = i) (hk : L[k0]? = some (i, .int x)) (k : jq G D M Qf (pc + 1) L (.int x :: rest) w) : jq G D M Qf pc L rest w := fun H locs ls h1 h2 h3 => lv_iload_n hC.x hC.b hdg hi (lv_at h3 k0 hk) (k H locs ls h1 h2 h3)
theorem jq_iload {i k0 : Nat} {x : Int32} (hdg : decode D.2.1 pc = .ok (.iload i, 2)) (hC : cx G D M) (hk : L[k0]? = some (i, .int x)) (k : jq G D M Qf (pc + 2) L (.int x :: rest) w) : jq G D M Qf pc L rest w := fun H locs ls h1 h2 h3 => lv_iload hC.x hC.b hdg (lv_at h3 k0 hk) (k H locs ls h1 h2 h3)
theorem jq_istore_n {k : Fin 4} {i : Nat} {x : Int32} {L' : List (Nat × Value)} (hdg : decode D.2.1 pc = .ok (.istore_n k, 1)) (hC : cx G D M) (hi : (k : Nat) = i) (hn : i < D.2.2.1) (hl : (i, Value.int x) :: L.filter (fun q => !(q.1 == i) && !(q.1 + 1 == i && q.2.category == 2)) = L') (k : jq G D M Qf (pc + 1) L' rest w) : jq G D M Qf pc L (.int x :: rest) w := fun H locs ls h1 h2 h3 => lv_istore_n hC.x hC.b hdg hi h3 hn hl (fun ls' h3' => k H locs ls' h1 h2 h3')
theorem jq_istore {i : Nat} {x : Int32} {L' : List (Nat × Value)} (hdg : decode D.2.1 pc = .ok (.istore i, 2)) (hC : cx G D M) (hn : i < D.2.2.1) (hl : (i, Value.int x) :: L.filter (fun q => !(q.1 == i) && !(q.1 + 1 == i && q.2.category == 2)) = L') (k : jq G D M Qf (pc + 2) L' rest w) : jq G D M Qf pc L (.int x :: rest) w := fun H locs ls h1 h2 h3 => lv_istore hC.x hC.b hdg h3 hn hl (fun ls' h3' => k H locs ls' h1 h2 h3')
theorem jq_lload_n {k : Fin 4} {i k0 : Nat} {x : Int64} (hdg : decode D.2.1 pc = .ok (.lload_n k, 1)) (hC : cx G D M) (hi : (k : Nat) = i) (hk : L[k0]? = some (i, .long x)) (k : jq G D M Qf (pc + 1) L (.long x :: rest) w) : jq G D M Qf pc L rest w := fun H locs ls h1 h2 h3 => lv_lload_n hC.x hC.b hdg hi (lv_at h3 k0 hk) (k H locs ls h1 h2 h3)
theorem jq_lload {i k0 : Nat} {x : Int64} (hdg : decode D.2.1 pc = .ok (.lload i, 2)) (hC : cx G D M) (hk : L[k0]? = some (i, .long x)) (k : jq G D M Qf (pc + 2) L (.long x :: rest) w) : jq G D M Qf pc L rest w := fun H locs ls h1 h2 h3 => lv_lload hC.x hC.b hdg (lv_at h3 k0 hk) (k H locs ls h1 h2 h3)
theorem jq_lstore_n {k : Fin 4} {i : Nat} {x : Int64} {L' : List (Nat × Value)} (hdg : decode D.2.1 pc = .ok (.lstore_n k, 1)) (hC : cx G D M) (hi : (k : Nat) = i) (hn : i + 1 < D.2.2.1) (hl : (i, Value.long x) :: L.filter (fun q => !(q.1 == i) && (!(q.1 == i + 1) && !(q.1 + 1 == i && q.2.category == 2))) = L') (k : jq G D M Qf (pc + 1) L' rest w) : jq G D M Qf pc L (.long x :: rest) w := fun H locs ls h1 h2 h3 => lv_lstore_n hC.x hC.b hdg hi h3 hn hl (fun ls' h3' => k H locs ls' h1 h2 h3')
theorem jq_lstore {i : Nat} {x : Int64} {L' : List (Nat × Value)} (hdg : decode D.2.1 pc = .ok (.lstore i, 2)) (hC : cx G D M) (hn : i + 1 < D.2.2.1) (hl : (i, Value.long x) :: L.filter (fun q => !(q.1 == i) && (!(q.1 == i + 1) && !(q.1 + 1 == i && q.2.category == 2))) = L') (k : jq G D M Qf (pc + 2) L' rest w) : jq G D M Qf pc L (.long x :: rest) w := fun H locs ls h1 h2 h3 => lv_lstore hC.x hC.b hdg h3 hn hl (fun ls' h3' => k H locs ls' h1 h2 h3')
theorem jq_dload_n {k : Fin 4} {i k0 : Nat} {x : UInt64} (hdg : decode D.2.1 pc = .ok (.dload_n k, 1)) (hC : cx G D M) (hi : (k : Nat) = i) (hk : L[k0]? = some (i, .double x)) (k : jq G D M Qf (pc + 1) L (.double x :: rest) w) : jq G D M Qf pc L rest w := fun H locs ls h1 h2 h3 => lv_dload_n hC.x hC.b hdg hi (lv_at h3 k0 hk) (k H locs ls h1 h2 h3)
theorem jq_dload {i k0 : Nat} {x : UInt64} (hdg : decode D.2.1 pc = .ok (.dload i, 2)) (hC : cx G D M) (hk : L[k0]? = some (i, .double x)) (k : jq G D M Qf (pc + 2) L (.double x :: rest) w) : jq G D M Qf pc L rest w := fun H locs ls h1 h2 h3 => lv_dload hC.x hC.b hdg (lv_at h3 k0 hk) (k H locs ls h1 h2 h3)
theorem jq_dstore_n {k : Fin 4} {i : Nat} {x : UInt64} {L' : List (Nat × Value)} (hdg : decode D.2.1 pc = .ok (.dstore_n k, 1)) (hC : cx G D M) (hi : (k : Nat) = i) (hn : i + 1 < D.2.2.1) (hl : (i, Value.double x) :: L.filter (fun q => !(q.1 == i) && (!(q.1 == i + 1) && !(q.1 + 1 == i && q.2.category == 2))) = L') (k : jq G D M Qf (pc + 1) L' rest w) : jq G D M Qf pc L (.double x :: rest) w := fun H locs ls h1 h2 h3 => lv_dstore_n hC.x hC.b hdg hi h3 hn hl (fun ls' h3' => k H locs ls' h1 h2 h3')
theorem jq_dstore {i : Nat} {x : UInt64} {L' : List (Nat × Value)} (hdg : decode D.2.1 pc = .ok (.dstore i, 2)) (hC : cx G D M) (hn : i + 1 < D.2.2.1) (hl : (i, Value.double x) :: L.filter (fun q => !(q.1 == i) && (!(q.1 == i + 1) && !(q.1 + 1 == i && q.2.category == 2))) = L') (k : jq G D M Qf (pc + 2) L' rest w) : jq G D M Qf pc L (.double x :: rest) w := fun H locs ls h1 h2 h3 => lv_dstore hC.x hC.b hdg h3 hn hl (fun ls' h3' => k H locs ls' h1 h2 h3')
theorem jq_aload_n {k : Fin 4} {i k0 : Nat} {x : Nat} (hdg : decode D.2.1 pc = .ok (.aload_n k, 1)) (hC : cx G D M) (hi : (k : Nat) = i) (hk : L[k0]? = some (i, .ref x)) (k : jq G D M Qf (pc + 1) L (.ref x :: rest) w) : jq G D M Qf pc L rest w := fun H locs ls h1 h2 h3 => lv_aload_n hC.x hC.b hdg hi (lv_at h3 k0 hk) (k H locs ls h1 h2 h3)
theorem jq_aload {i k0 : Nat} {x : Nat} (hdg : decode D.2.1 pc = .ok (.aload i, 2)) (hC : cx G D M) (hk : L[k0]? = some (i, .ref x)) (k : jq G D M Qf (pc + 2) L (.ref x :: rest) w) : jq G D M Qf pc L rest w := fun H locs ls h1 h2 h3 => lv_aload hC.x hC.b hdg (lv_at h3 k0 hk) (k H locs ls h1 h2 h3)
theorem jq_astore_n {k : Fin 4} {i : Nat} {x : Nat} {L' : List (Nat × Value)} (hdg : decode D.2.1 pc = .ok (.astore_n k, 1)) (hC : cx G D M) (hi : (k : Nat) = i) (hn : i < D.2.2.1) (hl : (i, Value.ref x) :: L.filter (fun q => !(q.1 == i) && !(q.1 + 1 == i && q.2.category == 2)) = L') (k : jq G D M Qf (pc + 1) L' rest w) : jq G D M Qf pc L (.ref x :: rest) w := fun H locs ls h1 h2 h3 => lv_astore_n hC.x hC.b hdg hi h3 hn hl (fun ls' h3' => k H locs ls' h1 h2 h3')
theorem jq_astore {i : Nat} {x : Nat} {L' : List (Nat × Value)} (hdg : decode D.2.1 pc = .ok (.astore i, 2)) (hC : cx G D M) (hn : i < D.2.2.1) (hl : (i, Value.ref x) :: L.filter (fun q => !(q.1 == i) && !(q.1 + 1 == i && q.2.category == 2)) = L') (k : jq G D M Qf (pc + 2) L' rest w) : jq G D M Qf pc L (.ref x :: rest) w := fun H locs ls h1 h2 h3 => lv_astore hC.x hC.b hdg h3 hn hl (fun ls' h3' => k H locs ls' h1 h2 h3')
theorem jq_iadd {x y : Int32} (hdg : decode D.2.1 pc = .ok (.iadd, 1)) (hC : cx G D M) (k : jq G D M Qf (pc + 1) L (.int (x + y) :: rest) w) : jq G D M Qf pc L (.int y :: .int x :: rest) w := fun H locs ls h1 h2 h3 => lv_iadd hC.x hC.b hdg (k H locs ls h1 h2 h3)
theorem jq_isub {x y : Int32} (hdg : decode D.2.1 pc = .ok (.isub, 1)) (hC : cx G D M) (k : jq G D M Qf (pc + 1) L (.int (x - y) :: rest) w) : jq G D M Qf pc L (.int y :: .int x :: rest) w := fun H locs ls h1 h2 h3 => lv_isub hC.x hC.b hdg (k H locs ls h1 h2 h3)
theorem jq_imul {x y : Int32} (hdg : decode D.2.1 pc = .ok (.imul, 1)) (hC : cx G D M) (k : jq G D M Qf (pc + 1) L (.int (x * y) :: rest) w) : jq G D M Qf pc L (.int y :: .int x :: rest) w := fun H locs ls h1 h2 h3 => lv_imul hC.x hC.b hdg (k H locs ls h1 h2 h3)
theorem jq_iand {x y : Int32} (hdg : decode D.2.1 pc = .ok (.iand, 1)) (hC : cx G D M) (k : jq G D M Qf (pc + 1) L (.int (x &&& y) :: rest) w) : jq G D M Qf pc L (.int y :: .int x :: rest) w := fun H locs ls h1 h2 h3 => lv_iand hC.x hC.b hdg (k H locs ls h1 h2 h3)
theorem jq_ior {x y : Int32} (hdg : decode D.2.1 pc = .ok (.ior, 1)) (hC : cx G D M) (k : jq G D M Qf (pc + 1) L (.int (x ||| y) :: rest) w) : jq G D M Qf pc L (.int y :: .int x :: rest) w := fun H locs ls h1 h2 h3 => lv_ior hC.x hC.b hdg (k H locs ls h1 h2 h3)
theorem jq_ixor {x y : Int32} (hdg : decode D.2.1 pc = .ok (.ixor, 1)) (hC : cx G D M) (k : jq G D M Qf (pc + 1) L (.int (x ^^^ y) :: rest) w) : jq G D M Qf pc L (.int y :: .int x :: rest) w := fun H locs ls h1 h2 h3 => lv_ixor hC.x hC.b hdg (k H locs ls h1 h2 h3)
theorem jq_ishl {x y : Int32} (hdg : decode D.2.1 pc = .ok (.ishl, 1)) (hC : cx G D M) (k : jq G D M Qf (pc + 1) L (.int (x <<< (y &&& 31)) :: rest) w) : jq G D M Qf pc L (.int y :: .int x :: rest) w := fun H locs ls h1 h2 h3 => lv_ishl hC.x hC.b hdg (k H locs ls h1 h2 h3)
theorem jq_ishr {x y : Int32} (hdg : decode D.2.1 pc = .ok (.ishr, 1)) (hC : cx G D M) (k : jq G D M Qf (pc + 1) L (.int (x >>> (y &&& 31)) :: rest) w) : jq G D M Qf pc L (.int y :: .int x :: rest) w := fun H locs ls h1 h2 h3 => lv_ishr hC.x hC.b hdg (k H locs ls h1 h2 h3)
theorem jq_ladd {x y : Int64} (hdg : decode D.2.1 pc = .ok (.ladd, 1)) (hC : cx G D M) (k : jq G D M Qf (pc + 1) L (.long (x + y) :: rest) w) : jq G D M Qf pc L (.long y :: .long x :: rest) w := fun H locs ls h1 h2 h3 => lv_ladd hC.x hC.b hdg (k H locs ls h1 h2 h3)
theorem jq_lsub {x y : Int64} (hdg : decode D.2.1 pc = .ok (.lsub, 1)) (hC : cx G D M) (k : jq G D M Qf (pc + 1) L (.long (x - y) :: rest) w) : jq G D M Qf pc L (.long y :: .long x :: rest) w := fun H locs ls h1 h2 h3 => lv_lsub hC.x hC.b hdg (k H locs ls h1 h2 h3)
theorem jq_lmul {x y : Int64} (hdg : decode D.2.1 pc = .ok (.lmul, 1)) (hC : cx G D M) (k : jq G D M Qf (pc + 1) L (.long (x * y) :: rest) w) : jq G D M Qf pc L (.long y :: .long x :: rest) w := fun H locs ls h1 h2 h3 => lv_lmul hC.x hC.b hdg (k H locs ls h1 h2 h3)
theorem jq_lor {x y : Int64} (hdg : decode D.2.1 pc = .ok (.lor, 1)) (hC : cx G D M) (k : jq G D M Qf (pc + 1) L (.long (x ||| y) :: rest) w) : jq G D M Qf pc L (.long y :: .long x :: rest) w := fun H locs ls h1 h2 h3 => lv_lor hC.x hC.b hdg (k H locs ls h1 h2 h3)
theorem jq_ineg {x : Int32} (hdg : decode D.2.1 pc = .ok (.ineg, 1)) (hC : cx G D M) (k : jq G D M Qf (pc + 1) L (.int (-x) :: rest) w) : jq G D M Qf pc L (.int x :: rest) w := fun H locs ls h1 h2 h3 => lv_ineg hC.x hC.b hdg (k H locs ls h1 h2 h3)
theorem jq_idiv {x y : Int32} (hdg : decode D.2.1 pc = .ok (.idiv, 1)) (hC : cx G D M) (hne : ¬ y = 0) (k : jq G D M Qf (pc + 1) L (.int (x / y) :: rest) w) : jq G D M Qf pc L (.int y :: .int x :: rest) w := fun H locs ls h1 h2 h3 => lv_idiv hC.x hC.b hdg hne (k H locs ls h1 h2 h3)
theorem jq_irem {x y : Int32} (hdg : decode D.2.1 pc = .ok (.irem, 1)) (hC : cx G D M) (hne : ¬ y = 0) (k : jq G D M Qf (pc + 1) L (.int (irem x y) :: rest) w) : jq G D M Qf pc L (.int y :: .int x :: rest) w := fun H locs ls h1 h2 h3 => lv_irem hC.x hC.b hdg hne (k H locs ls h1 h2 h3)
theorem jq_ldiv {x y : Int64} (hdg : decode D.2.1 pc = .ok (.ldiv, 1)) (hC : cx G D M) (hne : ¬ y = 0) (k : jq G D M Qf (pc + 1) L (.long (x / y) :: rest) w) : jq G D M Qf pc L (.long y :: .long x :: rest) w := fun H locs ls h1 h2 h3 => lv_ldiv hC.x hC.b hdg hne (k H locs ls h1 h2 h3)
theorem jq_lrem {x y : Int64} (hdg : decode D.2.1 pc = .ok (.lrem, 1)) (hC : cx G D M) (hne : ¬ y = 0) (k : jq G D M Qf (pc + 1) L (.long (lrem x y) :: rest) w) : jq G D M Qf pc L (.long y :: .long x :: rest) w := fun H locs ls h1 h2 h3 => lv_lrem hC.x hC.b hdg hne (k H locs ls h1 h2 h3)
theorem jq_i2l {x : Int32} (hdg : decode D.2.1 pc = .ok (.i2l, 1)) (hC : cx G D M) (k : jq G D M Qf (pc + 1) L (.long x.toInt64 :: rest) w) : jq G D M Qf pc L (.int x :: rest) w := fun H locs ls h1 h2 h3 => lv_i2l hC.x hC.b hdg rfl (k H locs ls h1 h2 h3)
theorem jq_l2i {x : Int64} (hdg : decode D.2.1 pc = .ok (.l2i, 1)) (hC : cx G D M) (k : jq G D M Qf (pc + 1) L (.int x.toInt32 :: rest) w) : jq G D M Qf pc L (.long x :: rest) w := fun H locs ls h1 h2 h3 => lv_l2i hC.x hC.b hdg rfl (k H locs ls h1 h2 h3)
theorem jq_lshl {x : Int64} {y : Int32} (hdg : decode D.2.1 pc = .ok (.lshl, 1)) (hC : cx G D M) (k : jq G D M Qf (pc + 1) L (.long (x <<< (y.toInt64 &&& 63)) :: rest) w) : jq G D M Qf pc L (.int y :: .long x :: rest) w := fun H locs ls h1 h2 h3 => lv_lshl hC.x hC.b hdg rfl (k H locs ls h1 h2 h3)
theorem jq_iushr {x y : Int32} (hdg : decode D.2.1 pc = .ok (.iushr, 1)) (hC : cx G D M) (k : jq G D M Qf (pc + 1) L (.int (iushr x y) :: rest) w) : jq G D M Qf pc L (.int y :: .int x :: rest) w := fun H locs ls h1 h2 h3 => lv_iushr hC.x hC.b hdg rfl (k H locs ls h1 h2 h3)
theorem jq_ddiv {x y : UInt64} (hdg : decode D.2.1 pc = .ok (.ddiv, 1)) (hC : cx G D M) (hne : vf_n64 (FP.ddiv x y)) (k : jq G D M Qf (pc + 1) L (.double (FP.ddiv x y) :: rest) w) : jq G D M Qf pc L (.double y :: .double x :: rest) w := fun H locs ls h1 h2 h3 => lv_ddiv hC.x hC.b hdg hne (k H locs ls h1 h2 h3)
theorem jq_dmul {x y : UInt64} (hdg : decode D.2.1 pc = .ok (.dmul, 1)) (hC : cx G D M) (hne : vf_n64 (FP.dmul x y)) (k : jq G D M Qf (pc + 1) L (.double (FP.dmul x y) :: rest) w) : jq G D M Qf pc L (.double y :: .double x :: rest) w := fun H locs ls h1 h2 h3 => lv_dmul hC.x hC.b hdg hne (k H locs ls h1 h2 h3)
theorem jq_dsub {x y : UInt64} (hdg : decode D.2.1 pc = .ok (.dsub, 1)) (hC : cx G D M) (hne : vf_n64 (FP.dsub x y)) (k : jq G D M Qf (pc + 1) L (.double (FP.dsub x y) :: rest) w) : jq G D M Qf pc L (.double y :: .double x :: rest) w := fun H locs ls h1 h2 h3 => lv_dsub hC.x hC.b hdg hne (k H locs ls h1 h2 h3)
theorem jq_dcmp {x y : UInt64} {op : CmpOp} (hdg : decode D.2.1 pc = .ok (.dcmp op, 1)) (hC : cx G D M) (k : jq G D M Qf (pc + 1) L (.int (Op.cmpValue (FP.dcmp x y) op) :: rest) w) : jq G D M Qf pc L (.double y :: .double x :: rest) w := fun H locs ls h1 h2 h3 => lv_dcmp hC.x hC.b hdg (k H locs ls h1 h2 h3)
theorem jq_i2d {x : Int32} (hdg : decode D.2.1 pc = .ok (.i2d, 1)) (hC : cx G D M) (k : jq G D M Qf (pc + 1) L (.double (FP.i2d x) :: rest) w) : jq G D M Qf pc L (.int x :: rest) w := fun H locs ls h1 h2 h3 => lv_i2d hC.x hC.b hdg (k H locs ls h1 h2 h3)
theorem jq_l2d {x : Int64} (hdg : decode D.2.1 pc = .ok (.l2d, 1)) (hC : cx G D M) (k : jq G D M Qf (pc + 1) L (.double (FP.l2d x) :: rest) w) : jq G D M Qf pc L (.long x :: rest) w := fun H locs ls h1 h2 h3 => lv_l2d hC.x hC.b hdg (k H locs ls h1 h2 h3)
theorem jq_d2l {x : UInt64} (hdg : decode D.2.1 pc = .ok (.d2l, 1)) (hC : cx G D M) (k : jq G D M Qf (pc + 1) L (.long (FP.d2l x) :: rest) w) : jq G D M Qf pc L (.double x :: rest) w := fun H locs ls h1 h2 h3 => lv_d2l hC.x hC.b hdg (k H locs ls h1 h2 h3)
theorem jq_dup {va : Value} (hdg : decode D.2.1 pc = .ok (.dup, 1)) (hC : cx G D M) (hva : va.category = 1) (k : jq G D M Qf (pc + 1) L (va :: va :: rest) w) : jq G D M Qf pc L (va :: rest) w := fun H locs ls h1 h2 h3 => lv_dup hC.x hC.b hdg hva (k H locs ls h1 h2 h3)
theorem jq_pop {va : Value} (hdg : decode D.2.1 pc = .ok (.pop, 1)) (hC : cx G D M) (hva : va.category = 1) (k : jq G D M Qf (pc + 1) L rest w) : jq G D M Qf pc L (va :: rest) w := fun H locs ls h1 h2 h3 => lv_pop hC.x hC.b hdg hva (k H locs ls h1 h2 h3)
theorem jq_dup_x1 {va vb : Value} (hdg : decode D.2.1 pc = .ok (.dup_x1, 1)) (hC : cx G D M) (hva : va.category = 1) (hvb : vb.category = 1) (k : jq G D M Qf (pc + 1) L (va :: vb :: va :: rest) w) : jq G D M Qf pc L (va :: vb :: rest) w := fun H locs ls h1 h2 h3 => lv_dup_x1 hC.x hC.b hdg hva hvb (k H locs ls h1 h2 h3)
theorem jq_dup2 {va vb : Value} (hdg : decode D.2.1 pc = .ok (.dup2, 1)) (hC : cx G D M) (hva : va.category = 1) (hvb : vb.category = 1) (k : jq G D M Qf (pc + 1) L (va :: vb :: va :: vb :: rest) w) : jq G D M Qf pc L (va :: vb :: rest) w := fun H locs ls h1 h2 h3 => lv_dup2_11 hC.x hC.b hdg hva hvb (k H locs ls h1 h2 h3)
theorem jq_iinc {i k0 : Nat} {n : Int} {x v : Int32} {L' : List (Nat × Value)} (hdg : decode D.2.1 pc = .ok (.iinc i n, 3)) (hC : cx G D M) (hk : L[k0]? = some (i, .int x)) (hv : x + Int32.ofInt n = v) (hn : i < D.2.2.1) (hl : (i, Value.int v) :: L.filter (fun q => !(q.1 == i) && !(q.1 + 1 == i && q.2.category == 2)) = L') (k : jq G D M Qf (pc + 3) L' rest w) : jq G D M Qf pc L rest w := fun H locs ls h1 h2 h3 => lv_iinc hC.x hC.b hdg h3 hk hv hn hl (fun ls' h3' => k H locs ls' h1 h2 h3')
theorem jq_if_eq {x : Int32} {off : Int} {tgt : Nat} (hdg : decode D.2.1 pc = .ok (.ifCond .eq off, 3)) (hC : cx G D M) (ht : (pc : Int) + off = (tgt : Int)) (kt : x = 0 → jq G D M Qf tgt L rest w) (kf : ¬ x = 0 → jq G D M Qf (pc + 3) L rest w) : jq G D M Qf pc L (.int x :: rest) w := fun H locs ls h1 h2 h3 => lv_if_eq hC.x hC.b hdg ht (fun h => kt h H locs ls h1 h2 h3) (fun h => kf h H locs ls h1 h2 h3)
theorem jq_icmp_eq {x y : Int32} {off : Int} {tgt : Nat} (hdg : decode D.2.1 pc = .ok (.if_icmp .eq off, 3)) (hC : cx G D M) (ht : (pc : Int) + off = (tgt : Int)) (kt : x = y → jq G D M Qf tgt L rest w) (kf : ¬ x = y → jq G D M Qf (pc + 3) L rest w) : jq G D M Qf pc L (.int y :: .int x :: rest) w := fun H locs ls h1 h2 h3 => lv_icmp_eq hC.x hC.b hdg ht (fun h => kt h H locs ls h1 h2 h3) (fun h => kf h H locs ls h1 h2 h3)
theorem jq_if_ne {x : Int32} {off : Int} {tgt : Nat} (hdg : decode D.2.1 pc = .ok (.ifCond .ne off, 3)) (hC : cx G D M) (ht : (pc : Int) + off = (tgt : Int)) (kt : ¬ x = 0 → jq G D M Qf tgt L rest w) (kf : x = 0 → jq G D M Qf (pc + 3) L rest w) : jq G D M Qf pc L (.int x :: rest) w := fun H locs ls h1 h2 h3 => lv_if_ne hC.x hC.b hdg ht (fun h => kt h H locs ls h1 h2 h3) (fun h => kf h H locs ls h1 h2 h3)
theorem jq_icmp_ne {x y : Int32} {off : Int} {tgt : Nat} (hdg : decode D.2.1 pc = .ok (.if_icmp .ne off, 3)) (hC : cx G D M) (ht : (pc : Int) + off = (tgt : Int)) (kt : ¬ x = y → jq G D M Qf tgt L rest w) (kf : x = y → jq G D M Qf (pc + 3) L rest w) : jq G D M Qf pc L (.int y :: .int x :: rest) w := fun H locs ls h1 h2 h3 => lv_icmp_ne hC.x hC.b hdg ht (fun h => kt h H locs ls h1 h2 h3) (fun h => kf h H locs ls h1 h2 h3)
theorem jq_if_lt {x : Int32} {off : Int} {tgt : Nat} (hdg : decode D.2.1 pc = .ok (.ifCond .lt off, 3)) (hC : cx G D M) (ht : (pc : Int) + off = (tgt : Int)) (kt : x < 0 → jq G D M Qf tgt L rest w) (kf : ¬ x < 0 → jq G D M Qf (pc + 3) L rest w) : jq G D M Qf pc L (.int x :: rest) w := fun H locs ls h1 h2 h3 => lv_if_lt hC.x hC.b hdg ht (fun h => kt h H locs ls h1 h2 h3) (fun h => kf h H locs ls h1 h2 h3)
theorem jq_icmp_lt {x y : Int32} {off : Int} {tgt : Nat} (hdg : decode D.2.1 pc = .ok (.if_icmp .lt off, 3)) (hC : cx G D M) (ht : (pc : Int) + off = (tgt : Int)) (kt : x < y → jq G D M Qf tgt L rest w) (kf : ¬ x < y → jq G D M Qf (pc + 3) L rest w) : jq G D M Qf pc L (.int y :: .int x :: rest) w := fun H locs ls h1 h2 h3 => lv_icmp_lt hC.x hC.b hdg ht (fun h => kt h H locs ls h1 h2 h3) (fun h => kf h H locs ls h1 h2 h3)
theorem jq_if_ge {x : Int32} {off : Int} {tgt : Nat} (hdg : decode D.2.1 pc = .ok (.ifCond .ge off, 3)) (hC : cx G D M) (ht : (pc : Int) + off = (tgt : Int)) (kt : 0 ≤ x → jq G D M Qf tgt L rest w) (kf : ¬ 0 ≤ x → jq G D M Qf (pc + 3) L rest w) : jq G D M Qf pc L (.int x :: rest) w := fun H locs ls h1 h2 h3 => lv_if_ge hC.x hC.b hdg ht (fun h => kt h H locs ls h1 h2 h3) (fun h => kf h H locs ls h1 h2 h3)
theorem jq_icmp_ge {x y : Int32} {off : Int} {tgt : Nat} (hdg : decode D.2.1 pc = .ok (.if_icmp .ge off, 3)) (hC : cx G D M) (ht : (pc : Int) + off = (tgt : Int)) (kt : y ≤ x → jq G D M Qf tgt L rest w) (kf : ¬ y ≤ x → jq G D M Qf (pc + 3) L rest w) : jq G D M Qf pc L (.int y :: .int x :: rest) w := fun H locs ls h1 h2 h3 => lv_icmp_ge hC.x hC.b hdg ht (fun h => kt h H locs ls h1 h2 h3) (fun h => kf h H locs ls h1 h2 h3)
theorem jq_if_gt {x : Int32} {off : Int} {tgt : Nat} (hdg : decode D.2.1 pc = .ok (.ifCond .gt off, 3)) (hC : cx G D M) (ht : (pc : Int) + off = (tgt : Int)) (kt : 0 < x → jq G D M Qf tgt L rest w) (kf : ¬ 0 < x → jq G D M Qf (pc + 3) L rest w) : jq G D M Qf pc L (.int x :: rest) w := fun H locs ls h1 h2 h3 => lv_if_gt hC.x hC.b hdg ht (fun h => kt h H locs ls h1 h2 h3) (fun h => kf h H locs ls h1 h2 h3)
theorem jq_icmp_gt {x y : Int32} {off : Int} {tgt : Nat} (hdg : decode D.2.1 pc = .ok (.if_icmp .gt off, 3)) (hC : cx G D M) (ht : (pc : Int) + off = (tgt : Int)) (kt : y < x → jq G D M Qf tgt L rest w) (kf : ¬ y < x → jq G D M Qf (pc + 3) L rest w) : jq G D M Qf pc L (.int y :: .int x :: rest) w := fun H locs ls h1 h2 h3 => lv_icmp_gt hC.x hC.b hdg ht (fun h => kt h H locs ls h1 h2 h3) (fun h => kf h H locs ls h1 h2 h3)
theorem jq_if_le {x : Int32} {off : Int} {tgt : Nat} (hdg : decode D.2.1 pc = .ok (.ifCond .le off, 3)) (hC : cx G D M) (ht : (pc : Int) + off = (tgt : Int)) (kt : x ≤ 0 → jq G D M Qf tgt L rest w) (kf : ¬ x ≤ 0 → jq G D M Qf (pc + 3) L rest w) : jq G D M Qf pc L (.int x :: rest) w := fun H locs ls h1 h2 h3 => lv_if_le hC.x hC.b hdg ht (fun h => kt h H locs ls h1 h2 h3) (fun h => kf h H locs ls h1 h2 h3)
theorem jq_icmp_le {x y : Int32} {off : Int} {tgt : Nat} (hdg : decode D.2.1 pc = .ok (.if_icmp .le off, 3)) (hC : cx G D M) (ht : (pc : Int) + off = (tgt : Int)) (kt : x ≤ y → jq G D M Qf tgt L rest w) (kf : ¬ x ≤ y → jq G D M Qf (pc + 3) L rest w) : jq G D M Qf pc L (.int y :: .int x :: rest) w := fun H locs ls h1 h2 h3 => lv_icmp_le hC.x hC.b hdg ht (fun h => kt h H locs ls h1 h2 h3) (fun h => kf h H locs ls h1 h2 h3)
theorem jq_goto {off : Int} {tgt : Nat} (hdg : decode D.2.1 pc = .ok (.goto off, 3)) (hC : cx G D M) (ht : (pc : Int) + off = (tgt : Int)) (k : jq G D M Qf tgt L rest w) : jq G D M Qf pc L rest w := fun H locs ls h1 h2 h3 => lv_goto hC.x hC.b hdg ht (k H locs ls h1 h2 h3)
theorem jq_ifnull {x : Nat} {off : Int} (hdg : decode D.2.1 pc = .ok (.ifnull off, 3)) (hC : cx G D M) (k : jq G D M Qf (pc + 3) L rest w) : jq G D M Qf pc L (.ref x :: rest) w := fun H locs ls h1 h2 h3 => lv_ifnull hC.x hC.b hdg (k H locs ls h1 h2 h3)
theorem jq_lcmp {x y : Int64} (hdg : decode D.2.1 pc = .ok (.lcmp, 1)) (hC : cx G D M) (k : jq G D M Qf (pc + 1) L (.int (lg_cmp x y) :: rest) w) : jq G D M Qf pc L (.long y :: .long x :: rest) w := fun H locs ls h1 h2 h3 => W.lcmp hC.x hC.b hdg (k H locs ls h1 h2 h3)
theorem jq_tin {dflt lo hi : Int} {offs : Array Int} {len : Nat} {x : Int32} {off : Int} {tgt : Nat} (hdg : decode D.2.1 pc = .ok (.tableswitch dflt lo hi offs, len)) (hC : cx G D M) (h1' : ¬ x.toInt < lo) (h2' : ¬ hi < x.toInt) (ho : offs[(x.toInt - lo).toNat]? = some off) (ht : (pc : Int) + off = (tgt : Int)) (k : jq G D M Qf tgt L rest w) : jq G D M Qf pc L (.int x :: rest) w := fun H locs ls h1 h2 h3 => lv_tableIn hC.x hC.b hdg h1' h2' ho ht (k H locs ls h1 h2 h3)
theorem jq_tout {dflt lo hi : Int} {offs : Array Int} {len : Nat} {x : Int32} {tgt : Nat} (hdg : decode D.2.1 pc = .ok (.tableswitch dflt lo hi offs, len)) (hC : cx G D M) (h : x.toInt < lo ∨ hi < x.toInt) (ht : (pc : Int) + dflt = (tgt : Int)) (k : jq G D M Qf tgt L rest w) : jq G D M Qf pc L (.int x :: rest) w := fun H locs ls h1 h2 h3 => lv_tableOut hC.x hC.b hdg h ht (k H locs ls h1 h2 h3)
/-! the heap -/
theorem jq_get {n o ci idx k0 : Nat} {ref C : String} {T : u_T} {N : Nat} {fs : List Value} {v : Value} (hdg : decode D.2.1 pc = .ok (.getfield idx, 3)) (hC : cx G D M) (hm : (n, o) ∈ cellsL) (he : ent G w n o = .inr (ci, fs)) (hc : vwCl[ci]? = some (C, T, N)) (hin : ∀ w ∈ u_ws C T N, w ∈ D.2.2.2.2.1) (hk : k0 < N) (hl : Cond.fieldLink D.2.2.2.2.2.1 idx ref (T k0).2.1 (T k0).2.2.1 ∈ D.2.2.2.2.1) (hr : (T k0).1 = ref) (hv : fs[k0]? = some v) (k : jq G D M Qf (pc + 3) L (v :: rest) w) : jq G D M Qf pc L (.ref (aD G n o) :: rest) w := by
  intro H locs ls h1 h2 h3
  obtain ⟨q0, -, hq⟩ := ws_at G hm
  subst hr
  exact va_get hC.x hC.b hC.ts hin hC.own hC.K h1 q0 ((hq w).trans (by rw [he])) hc k0 hk (hC.ts _ hl) (fun _ h9 => h9) hv hdg (k H locs ls h1 h2 h3)
theorem jq_put {n o ci idx k0 : Nat} {ref C : String} {T : u_T} {N : Nat} {fs : List Value} {v : Value} {ty : FieldType} {w' : Wd} (hdg : decode D.2.1 pc = .ok (.putfield idx, 3)) (hC : cx G D M) (hm : (n, o) ∈ cellsL) (he : ent G w n o = .inr (ci, fs)) (hc : vwCl[ci]? = some (C, T, N)) (hin : ∀ w ∈ u_ws C T N, w ∈ D.2.2.2.2.1) (ty0 : Nat → FieldType) (hty : ∀ k, k < N → parseFieldDescriptor (T k).2.2.1 = some (ty0 k)) (hnm : ∀ a, a < N → ∀ b, b < N → a ≠ b → (T a).2.1 ≠ (T b).2.1) (hk : k0 < N) (hl : Cond.fieldLink D.2.2.2.2.2.1 idx ref (T k0).2.1 (T k0).2.2.1 ∈ D.2.2.2.2.1) (hr : (T k0).1 = ref) (hfin : (T k0).2.2.2 = false) (hd : parseFieldDescriptor (T k0).2.2.1 = some ty) (hn : narrow ty v = v) (hfit : fits ty v = true) (hlen : k0 < fs.length) (hw' : ent G w' n o = .inr (ci, fs.set k0 v)) (hoth : ∀ c ∈ cellsL, c ≠ (n, o) → ent G w' c.1 c.2 = ent G w c.1 c.2) (k : jq G D M Qf (pc + 3) L rest w') : jq G D M Qf pc L (v :: .ref (aD G n o) :: rest) w := by
  intro H locs ls h1 h2 h3
  obtain ⟨q0, hq0, hq⟩ := ws_at G hm
  subst hr
  refine va_put hC.x hC.b hC.ts hin ty0 hty hnm hC.own hC.K h1 (ws_D hC.1 w) h2 q0 ((hq w).trans (by rw [he])) hc k0 hk (hC.ts _ hl) (fun _ h9 => h9) hfin hd hn hfit hlen hdg (fun H1 locs1 g1 _ g3 => ?_)
  rw [ws_set hq0 hoth hw'] at g1
  exact k H1 locs1 ls g1 g3 h3
theorem jq_iald {n o len : Nat} {f : Nat → Int32} {i : Int32} (hdg : decode D.2.1 pc = .ok (.iaload, 1)) (hC : cx G D M) (hm : (n, o) ∈ cellsL) (he : ent G w n o = .inl (cI G, len, .inl f)) (hi : vp_in i len) {j : Nat} (hj : i.toNatClampNeg = j) (k : jq G D M Qf (pc + 1) L (.int (f j) :: rest) w) : jq G D M Qf pc L (.int i :: .ref (aD G n o) :: rest) w := by
  subst hj
  intro H locs ls h1 h2 h3
  obtain ⟨q0, -, hq⟩ := ws_at G hm
  exact va_iald hC.x hC.b hC.K h1 q0 0 ((hq w).trans (by rw [he])) rfl hi hdg (k H locs ls h1 h2 h3)
theorem jq_zald {n o len : Nat} {f : Nat → Int32} {i : Int32} (hdg : decode D.2.1 pc = .ok (.baload, 1)) (hC : cx G D M) (hm : (n, o) ∈ cellsL) (he : ent G w n o = .inl (cZ G, len, .inl f)) (hi : vp_in i len) {j : Nat} (hj : i.toNatClampNeg = j) (k : jq G D M Qf (pc + 1) L (.int (f j) :: rest) w) : jq G D M Qf pc L (.int i :: .ref (aD G n o) :: rest) w := by
  subst hj
  intro H locs ls h1 h2 h3
  obtain ⟨q0, -, hq⟩ := ws_at G hm
  exact va_zald hC.x hC.b hC.K h1 q0 1 ((hq w).trans (by rw [he])) rfl hi hdg (k H locs ls h1 h2 h3)
theorem jq_aald {n o len : Nat} {f : Nat → Option Nat} {i : Int32} {a : Nat} (hdg : decode D.2.1 pc = .ok (.aaload, 1)) (hC : cx G D M) (hm : (n, o) ∈ cellsL) (he : ent G w n o = .inl (cQ G, len, .inr (.inr (.inr (.inr f))))) (hi : vp_in i len) {j : Nat} (hj : i.toNatClampNeg = j) (ha : f j = some a) (k : jq G D M Qf (pc + 1) L (.ref a :: rest) w) : jq G D M Qf pc L (.int i :: .ref (aD G n o) :: rest) w := by
  subst hj
  intro H locs ls h1 h2 h3
  obtain ⟨q0, -, hq⟩ := ws_at G hm
  refine va_aldq hC.x hC.b hC.K h1 q0 3 ((hq w).trans (by rw [he])) rfl hi hdg ?_
  rw [ha]
  exact k H locs ls h1 h2 h3
theorem jq_lald {n o len : Nat} {f : Nat → Int64} {i : Int32} (hdg : decode D.2.1 pc = .ok (.laload, 1)) (hC : cx G D M) (hm : (n, o) ∈ cellsL) (he : ent G w n o = .inl (cL G, len, .inr (.inl f))) (hi : vp_in i len) {j : Nat} (hj : i.toNatClampNeg = j) (k : jq G D M Qf (pc + 1) L (.long (f j) :: rest) w) : jq G D M Qf pc L (.int i :: .ref (aD G n o) :: rest) w := by
  subst hj
  intro H locs ls h1 h2 h3
  obtain ⟨q0, -, hq⟩ := ws_at G hm
  exact va_lald hC.x hC.b hC.K h1 q0 2 ((hq w).trans (by rw [he])) rfl hi hdg (k H locs ls h1 h2 h3)
theorem jq_iast {n o len : Nat} {i x : Int32} (hdg : decode D.2.1 pc = .ok (.iastore, 1)) (hC : cx G D M) (hm : (n, o) ∈ cellsL) (he : ∀ w, ent G w n o = .inl (cI G, len, .inl (w.1 n o))) (hi : vp_in i len) {j : Nat} (hj : i.toNatClampNeg = j) (k : jq G D M Qf (pc + 1) L rest (sI w n o j x)) : jq G D M Qf pc L (.int x :: .int i :: .ref (aD G n o) :: rest) w := by
  subst hj
  intro H locs ls h1 h2 h3
  obtain ⟨q0, hq0, hq⟩ := ws_at G hm
  refine va_iast hC.x hC.b hC.K h1 (ws_D hC.1 w) h2 q0 0 ((hq w).trans (by rw [he])) rfl hi hdg (fun H1 locs1 g1 _ g3 => ?_)
  rw [ws_set (w' := sI w n o i.toNatClampNeg x) hq0 (fun c _ hne => ent_sA c hne) (by rw [he]; simp [sI, sA])] at g1
  exact k H1 locs1 ls g1 g3 h3
theorem jq_zast {n o len : Nat} {i x : Int32} (hdg : decode D.2.1 pc = .ok (.bastore, 1)) (hC : cx G D M) (hm : (n, o) ∈ cellsL) (he : ∀ w, ent G w n o = .inl (cZ G, len, .inl (w.1 n o))) (hi : vp_in i len) (hz : x = 0 ∨ x = 1) {j : Nat} (hj : i.toNatClampNeg = j) (k : jq G D M Qf (pc + 1) L rest (sI w n o j x)) : jq G D M Qf pc L (.int x :: .int i :: .ref (aD G n o) :: rest) w := by
  subst hj
  intro H locs ls h1 h2 h3
  obtain ⟨q0, hq0, hq⟩ := ws_at G hm
  refine va_zast hC.x hC.b hC.K h1 (ws_D hC.1 w) h2 q0 1 ((hq w).trans (by rw [he])) rfl hi hdg (fun H1 locs1 g1 _ g3 => ?_)
  have hx : vp_nar .boolean x = x := by rcases hz with rfl | rfl <;> rfl
  rw [hx, ws_set (w' := sI w n o i.toNatClampNeg x) hq0 (fun c _ hne => ent_sA c hne) (by rw [he]; simp [sI, sA])] at g1
  exact k H1 locs1 ls g1 g3 h3
theorem jq_last {i : Int32} {x : Int64} (hdg : decode D.2.1 pc = .ok (.lastore, 1)) (hC : cx G D M) (hi : i = 0) (k : jq G D M Qf (pc + 1) L rest (sL w 1 x)) : jq G D M Qf pc L (.long x :: .int i :: .ref (aD G 0 51) :: rest) w := by
  intro H locs ls h1 h2 h3
  obtain ⟨q0, hq0, hq⟩ := ws_at G (n := 0) (o := 51) (cl_0 (by decide))
  subst hi
  refine va_last hC.x hC.b hC.K h1 (ws_D hC.1 w) h2 q0 2 (n := 1) (f := fun j => wl w (j + 1)) (hq w) rfl (vin (by decide)) hdg (fun H1 locs1 g1 _ g3 => ?_)
  rw [ws_set (w' := sL w 1 x) hq0 (fun c hc hne => ?_) ?_] at g1
  · exact k H1 locs1 ls g1 g3 h3
  · simp only [ent, wl, sL]
    congr 5
    funext j
    cases j <;> rfl
  · refine ent_c rfl (fun _ => rfl) (fun _ => rfl) (fun h => ?_)
    have h5 : ∀ c ∈ cellsL, c.2 = 51 → c = (0, 51) := by decide +kernel
    exact absurd (h5 c hc h) hne
theorem jq_aast {n o : Nat} {i : Int32} (hdg : decode D.2.1 pc = .ok (.aastore, 1)) (hC : cx G D M) (hv : n < 8) (hi : vp_in i 6) {j : Nat} (hj : i.toNatClampNeg = j) (k : jq G D M Qf (pc + 1) L rest (sV w j n)) : jq G D M Qf pc L (.ref (aD G n 0) :: .int i :: .ref (aD G 0 28) :: rest) w := by
  subst hj
  intro H locs ls h1 h2 h3
  obtain ⟨q0, hq0, hq⟩ := ws_at G (n := 0) (o := 28) (cl_0 (by decide))
  obtain ⟨q1, hq1, hq'⟩ := ws_at G (n := n) (o := 0) (cl_S hv (by decide))
  refine va_astq (r := (RX5, TX5, 8)) hC.x hC.b hC.K h1 (ws_D hC.1 w) h2 q0 3 q1 5 (n := 6) (f := fun j => some (aD G (sv w j) 0)) (hq w) rfl (hq' w) rfl hi hdg (fun H1 locs1 g1 _ g3 => ?_)
  rw [ws_set (w' := sV w i.toNatClampNeg n) hq0 (fun c hc hne => ?_) ?_] at g1
  · exact k H1 locs1 ls g1 g3 h3
  · simp only [ent, sv, sV]
    congr 7
    funext j
    by_cases hj : j = i.toNatClampNeg <;> simp [hj, va_up]
  · refine ent_c rfl (fun h => ?_) (fun _ => rfl) (fun _ _ => rfl)
    have h5 : ∀ c ∈ cellsL, c.2 = 28 → c = (0, 28) := by decide +kernel
    exact absurd (h5 c hc h) hne
/-! returns -/
theorem jq_fin {Q : Option Value → Wd → Prop} {r : Option Value} {t : State} {H : Heap} {locs : List Loc} (h1 : hp G w H) (h2 : va_S (aG G) (mS M).heap H locs) (hq : Q r w) (ht : t.heap = H) : qcG G Q (mArgs M) (mS M) (.returned r) t := ⟨⟨r, w, rfl, hq, by rw [ht]; exact h1⟩, h2.F ht⟩
theorem jq_iret {Q : Option Value → Wd → Prop} {x : Int32} (hdg : decode D.2.1 pc = .ok (.ireturn, 1)) (hC : cx G D M) (he : en G M Q Qf) (hr : D.2.2.2.1 = some .int) (hq : Q (some (.int x)) w) : jq G D M Qf pc L [.int x] w := fun H locs ls h1 h2 h3 => he H locs _ (W.iret hC.x hC.b (hC.r.trans hr) (fun t ht _ => jq_fin h1 h2 hq ht) h2.2.2 hdg hC.lk)
theorem jq_zret {Q : Option Value → Wd → Prop} {x : Int32} (hdg : decode D.2.1 pc = .ok (.ireturn, 1)) (hC : cx G D M) (he : en G M Q Qf) (hr : D.2.2.2.1 = some .boolean) (hz : x = 0 ∨ x = 1) (hq : Q (some (.int x)) w) : jq G D M Qf pc L [.int x] w := fun H locs ls h1 h2 h3 => he H locs _ (W.zret hC.x hC.b (hC.r.trans hr) (by rcases hz with rfl | rfl <;> rfl) (fun t ht _ => jq_fin h1 h2 hq ht) h2.2.2 hdg hC.lk)
theorem jq_lret {Q : Option Value → Wd → Prop} {x : Int64} (hdg : decode D.2.1 pc = .ok (.lreturn, 1)) (hC : cx G D M) (he : en G M Q Qf) (hr : D.2.2.2.1 = some .long) (hq : Q (some (.long x)) w) : jq G D M Qf pc L [.long x] w := fun H locs ls h1 h2 h3 => he H locs _ (W.lret hC.x hC.b (hC.r.trans hr) (fun t ht _ => jq_fin h1 h2 hq ht) h2.2.2 hdg hC.lk)
theorem jq_dret {Q : Option Value → Wd → Prop} {x : UInt64} (hdg : decode D.2.1 pc = .ok (.dreturn, 1)) (hC : cx G D M) (he : en G M Q Qf) (hr : D.2.2.2.1 = some .double) (hq : Q (some (.double x)) w) : jq G D M Qf pc L [.double x] w := fun H locs ls h1 h2 h3 => he H locs _ (W.dret hC.x hC.b (hC.r.trans hr) (fun t ht _ => jq_fin h1 h2 hq ht) h2.2.2 hdg hC.lk)
theorem jq_vret {Q : Option Value → Wd → Prop} (hdg : decode D.2.1 pc = .ok (.return_, 1)) (hC : cx G D M) (he : en G M Q Qf) (hr : D.2.2.2.1 = none) (hq : Q none w) : jq G D M Qf pc L [] w := fun H locs ls h1 h2 h3 => he H locs _ (W.vret hC.x hC.b (hC.r.trans hr) (fun t ht _ => jq_fin h1 h2 hq ht) h2.2.2 hdg hC.lk)
/-! calls -/
theorem pc_blind (G : Gt) (av : List Value) (w : Wd) : FrameBlind (pcG G av w) := by
  intro a U g mk q
  obtain ⟨q1, q2, q3, q4⟩ := q
  exact ⟨q1, q2, va_K.moved (u := U) (U := U.calling g mk a) (Vm.Alike.refl U.vm) q3, nw.same (u := U) (U := U.calling g mk a) rfl q4⟩
theorem pc_here (hC : cx G D M) {H : Heap} {av : List Value} (h1 : hp G w H) : ∀ U : State, U.heap = H → (mS M).WarmedH U.vm → pcG G av w av.toArray U := fun U hU hW => ⟨rfl, by rw [hU]; exact h1, va_K.moved hW.alike hC.K, nw.warm hW hC.nw⟩
theorem jq_back {a : Array Value} {Q : Option Value → Wd → Prop} {H : Heap} {locs : List Loc} {ls : Array Slot} {st0 : List Value}
    (hr : va_Run M.1 G.1 M.2.1 M.2.2.1 M.2.2.2.1 M.2.2.2.2.1 M.2.2.2.2.2.1 M.2.2.2.2.2.2.1 M.2.2.2.2.2.2.2.1 M.2.2.2.2.2.2.2.2.1 H locs M.2.2.2.2.2.2.2.2.2.1 M.2.2.2.2.2.2.2.2.2.2 0 0 (F0 M.2.2.2.2.1 pc ls st0) rest (qcG G Q a) (aG G))
    (h2 : va_S (aG G) (mS M).heap H locs) (h3 : lv_has ls D.2.2.1 L) (k : ∀ (r : Option Value) (w' : Wd), Q r w' → jq G D M Qf (pc + 3) L (r.toList ++ rest) w') : WM G M H locs Qf (F0 M.2.2.2.2.1 pc ls st0) := by
  intro T hT X
  obtain ⟨v, st₀, t, T', Lo, e0, X', hL, e1, e2, ⟨⟨r, w', hv, hq, hh⟩, hz, hk⟩, st⟩ := hr T hT X
  cases hv
  rw [e0] at hz hk
  have hS : va_S (aG G) (mS M).heap T'.heap (locs ++ Lo) := ⟨Nat.le_trans h2.1 (by rw [e1]; exact hz), fun q g1 g2 => by rw [e1, hk q (Nat.lt_of_lt_of_le g1 h2.1) g2]; exact h2.2.1 q g1 g2, fun q hq => by
    rcases List.mem_append.mp hq with h | h
    · exact h2.2.2 q h
    · exact hL q h⟩
  obtain ⟨t2, a1, b1⟩ := k v w' hq T'.heap (locs ++ Lo) ls (by rw [e1]; exact hh) hS h3 T' rfl X'
  exact ⟨t2, st t2 a1, b1⟩
/-- the callee's room, and its name, by program -/
def okD (D D' : Md) : Prop := D'.2.2.2.2.2.2.cells = 0 ∧ D'.2.2.2.2.2.2.slots = 0 ∧ D'.2.2.2.2.2.2.frames + 1 ≤ D.2.2.2.2.2.2.frames ∧ 8 + (D'.2.2.1 + 11) + D'.2.2.2.2.2.2.locals ≤ D.2.2.2.2.2.2.locals
def nmD (D' : Md) (n : Nat) : Prop := D'.1.cls = D'.2.2.2.2.2.1 ∧ D'.1.cls ≠ "java/lang/invoke/MethodHandle" ∧ D'.1.cls ≠ "java/lang/invoke/VarHandle" ∧ (parseMethodDescriptor D'.1.desc).map (fun d => d.parameters.length) = some n
theorem jq_callV {D' : Md} {n o ci idx na : Nat} {C : String} {T : u_T} {N : Nat} {fs As : List Value} {ws' : List Cond} {Q : Option Value → Wd → Prop} (hdg : decode D.2.1 pc = .ok (.invokevirtual idx, 3)) (hC : cx G D M) (hm : (n, o) ∈ cellsL) (he : ent G w n o = .inr (ci, fs)) (hc : vwCl[ci]? = some (C, T, N)) (hcl : D'.2.2.2.2.2.1 = C)
    (hM : Mt G D' (.ref (aD G n o) :: As) w Q) (hG : GoodIn D.2.2.2.2.1 (wsV D.2.2.2.2.2.1 idx C D'.1 D'.2.2.2.2.1)) (hw : D'.2.2.2.2.1 = Cond.code D'.1 D'.2.1 D'.2.2.1 D'.2.2.2.1 :: ws') (ho : okD D D') (hn : nmD D' na) (hA : As.length = na) (hst : (rest.map fun v => v.category).sum ≤ 8)
    (k : ∀ (r : Option Value) (w' : Wd), Q r w' → jq G D M Qf (pc + 3) L (r.toList ++ rest) w') : jq G D M Qf pc L (As.reverse ++ .ref (aD G n o) :: rest) w := by
  intro H locs ls h1 h2 h3
  obtain ⟨q0, -, hq⟩ := ws_at G hm
  have hrv := va_recv (q := (C, T, N)) hC.K h1 hc ((hq w).trans (by rw [he]))
  subst hcl
  have hfr := hC.fr
  have hlo := hC.lo
  exact jq_back (va_runV (As := As) (rest := rest) ⟨hC.x, hC.b, hC.ml, hC.own, hC.ts⟩ (hM hC.1) (cwV (ret := D'.2.2.2.1) (bytes := D'.2.1) (maxL := D'.2.2.1) na hC.ts hG hw ho.1 ho.2.1 ⟨hn.1, hn.2⟩ ⟨Nat.le_trans ho.2.2.1 hfr, Nat.le_trans ho.2.2.2 hlo⟩) ⟨pc_blind _ _ _, hrv, pc_here hC h1⟩ rfl hA h3.1 rfl (lv_room hst) hdg ⟨hC.ce, hC.sl⟩) h2 h3 k
theorem jq_callS {D' : Md} {idx na : Nat} {As : List Value} {ws' : List Cond} {Q : Option Value → Wd → Prop} (hdg : decode D.2.1 pc = .ok (.invokestatic idx, 3)) (hC : cx G D M)
    (hM : Mt G D' As w Q) (hG : GoodIn D.2.2.2.2.1 (va_wsS D.2.2.2.2.2.1 idx D'.1 D'.2.2.2.2.1)) (hw : D'.2.2.2.2.1 = Cond.code D'.1 D'.2.1 D'.2.2.1 D'.2.2.2.1 :: ws') (ho : okD D D') (hn : nmD D' na) (hA : As.length = na) (hst : (rest.map fun v => v.category).sum ≤ 8)
    (k : ∀ (r : Option Value) (w' : Wd), Q r w' → jq G D M Qf (pc + 3) L (r.toList ++ rest) w') : jq G D M Qf pc L (As.reverse ++ rest) w := by
  intro H locs ls h1 h2 h3
  have hfr := hC.fr
  have hlo := hC.lo
  exact jq_back (va_runS (As := As) (rest := rest) ⟨hC.x, hC.b, hC.ml, hC.own, hC.ts⟩ (hM hC.1) (va_cwS (ret := D'.2.2.2.1) (bytes := D'.2.1) (maxL := D'.2.2.1) na hC.ts hG hw ho.1 ho.2.1 hn.2 ⟨Nat.le_trans ho.2.2.1 hfr, Nat.le_trans ho.2.2.2 hlo⟩) ⟨pc_blind _ _ _, pc_here hC h1⟩ rfl hA h3.1 rfl (lv_room hst) hdg ⟨hC.ce, hC.sl⟩) h2 h3 k
theorem jq_callSN {D' : Md} {idx na : Nat} {host : String} {As : List Value} {ws' : List Cond} {Q : Option Value → Wd → Prop} (hdg : decode D.2.1 pc = .ok (.invokestatic idx, 3)) (hC : cx G D M)
    (hM : Mt G D' As w Q) (hG : GoodIn D.2.2.2.2.1 D'.2.2.2.2.1) (hw : D'.2.2.2.2.1 = Cond.code D'.1 D'.2.1 D'.2.2.1 D'.2.2.2.1 :: ws') (hnw : (D.2.2.2.2.2.1, idx, D'.1, host) ∈ nws) (hini : Cond.initialized D'.1.cls ∈ D.2.2.2.2.1) (hsta : Cond.static D'.1 ∈ D.2.2.2.2.1) (ho : okD D D') (hn : nmD D' na) (hA : As.length = na) (hst : (rest.map fun v => v.category).sum ≤ 8)
    (k : ∀ (r : Option Value) (w' : Wd), Q r w' → jq G D M Qf (pc + 3) L (r.toList ++ rest) w') : jq G D M Qf pc L (As.reverse ++ rest) w := by
  intro H locs ls h1 h2 h3
  have hfr := hC.fr
  have hlo := hC.lo
  exact jq_back (va_runSN (As := As) (rest := rest) ⟨hC.x, hC.b, hC.ml, hC.own, hC.ts⟩ (hM hC.1) ⟨va_cnB (ret := D'.2.2.2.1) (bytes := D'.2.1) (maxL := D'.2.2.1) na hC.ts hG hw ho.1 ho.2.1 (hC.nw _ hnw) (hC.ts _ hini) hn.2 ⟨Nat.le_trans ho.2.2.1 hfr, Nat.le_trans ho.2.2.2 hlo⟩, hC.ts _ hsta, trivial⟩ ⟨pc_blind _ _ _, pc_here hC h1⟩ rfl hA h3.1 rfl (lv_room hst) hdg ⟨hC.ce, hC.sl⟩) h2 h3 k
theorem cx.sz (hC : cx G D M) {ls : Array Slot} (h3 : lv_has ls D.2.2.1 L) : M.2.2.2.2.2.2.2.2.1.maxLocals = ls.size := hC.ml.trans h3.1.symm
theorem jq_abs {idx : Nat} {x : Int32} (hdg : decode D.2.1 pc = .ok (.invokestatic idx, 3)) (hC : cx G D M) (h4 : ∀ w ∈ [Cond.methodLink D.2.2.2.2.2.1 idx Lib.Math.abs.name, Cond.static Lib.Math.abs.name, Cond.initialized "java/lang/Math", Cond.code Lib.Math.abs.name Lib.Math.abs.code 1 (some .int)], w ∈ D.2.2.2.2.1) (hf : 1 ≤ D.2.2.2.2.2.2.frames) (hlo : (rest.map fun v => v.category).sum + 13 ≤ D.2.2.2.2.2.2.locals) (k : jq G D M Qf (pc + 3) L (.int (iabs x) :: rest) w) : jq G D M Qf pc L (.int x :: rest) w := fun H locs ls h1 h2 h3 =>
  va_mabs hC.x hC.b (hC.sz h3) hC.own (hC.ts _ (h4 _ (by simp))) (hC.ts _ (h4 _ (by simp))) (hC.ts _ (h4 _ (by simp))) (hC.ts _ (h4 _ (by simp))) (Nat.le_trans hf hC.fr) (Nat.le_trans hlo hC.lo) hC.ce hC.sl hdg (k H locs ls h1 h2 h3)
theorem jq_max {idx : Nat} {x y : Int32} (hdg : decode D.2.1 pc = .ok (.invokestatic idx, 3)) (hC : cx G D M) (h4 : ∀ w ∈ [Cond.methodLink D.2.2.2.2.2.1 idx Lib.Math.max.name, Cond.static Lib.Math.max.name, Cond.initialized "java/lang/Math", Cond.code Lib.Math.max.name Lib.Math.max.code 2 (some .int)], w ∈ D.2.2.2.2.1) (hf : 1 ≤ D.2.2.2.2.2.2.frames) (hlo : (rest.map fun v => v.category).sum + 13 ≤ D.2.2.2.2.2.2.locals) (k : jq G D M Qf (pc + 3) L (.int (imax x y) :: rest) w) : jq G D M Qf pc L (.int y :: .int x :: rest) w := fun H locs ls h1 h2 h3 =>
  va_mmax hC.x hC.b (hC.sz h3) hC.own (hC.ts _ (h4 _ (by simp))) (hC.ts _ (h4 _ (by simp))) (hC.ts _ (h4 _ (by simp))) (hC.ts _ (h4 _ (by simp))) (Nat.le_trans hf hC.fr) (Nat.le_trans hlo hC.lo) hC.ce hC.sl hdg (k H locs ls h1 h2 h3)
theorem jq_min {idx : Nat} {x y : Int32} (hdg : decode D.2.1 pc = .ok (.invokestatic idx, 3)) (hC : cx G D M) (h4 : ∀ w ∈ [Cond.methodLink D.2.2.2.2.2.1 idx Lib.Math.min.name, Cond.static Lib.Math.min.name, Cond.initialized "java/lang/Math", Cond.code Lib.Math.min.name Lib.Math.min.code 2 (some .int)], w ∈ D.2.2.2.2.1) (hf : 1 ≤ D.2.2.2.2.2.2.frames) (hlo : (rest.map fun v => v.category).sum + 13 ≤ D.2.2.2.2.2.2.locals) (k : jq G D M Qf (pc + 3) L (.int (imin x y) :: rest) w) : jq G D M Qf pc L (.int y :: .int x :: rest) w := fun H locs ls h1 h2 h3 =>
  va_mmin hC.x hC.b (hC.sz h3) hC.own (hC.ts _ (h4 _ (by simp))) (hC.ts _ (h4 _ (by simp))) (hC.ts _ (h4 _ (by simp))) (hC.ts _ (h4 _ (by simp))) (Nat.le_trans hf hC.fr) (Nat.le_trans hlo hC.lo) hC.ce hC.sl hdg (k H locs ls h1 h2 h3)
/-- a whole row copied from one survey to another -/
theorem jq_copy {idx n n' o len : Nat} {x : Int32} (hdg : decode D.2.1 pc = .ok (.invokestatic idx, 3)) (hC : cx G D M) (h4 : ∀ w ∈ [Cond.methodLink D.2.2.2.2.2.1 idx arraycopyName, Cond.native arraycopyName, Cond.static arraycopyName, Cond.initialized "java/lang/System"], w ∈ D.2.2.2.2.1) (hf : 1 ≤ D.2.2.2.2.2.2.frames) (hlo : (rest.map fun v => v.category).sum + (nativeFrameWords "java/lang/System" "arraycopy" 5 + 11) ≤ D.2.2.2.2.2.2.locals)
    (hm : (n, o) ∈ cellsL) (hm' : (n', o) ∈ cellsL) (he : ∀ w n, ent G w n o = .inl (cI G, len, .inl (w.1 n o))) (hx : x.toNatClampNeg = len) (hx0 : ¬ x < 0) (k : jq G D M Qf (pc + 3) L rest (sA w n' o (va_cpy (w.1 n o) (w.1 n' o) 0 0 len))) : jq G D M Qf pc L (.int x :: .int 0 :: .ref (aD G n' o) :: .int 0 :: .ref (aD G n o) :: rest) w := by
  intro H locs ls h1 h2 h3
  obtain ⟨q0, hq0, hq⟩ := ws_at G hm
  obtain ⟨q1, hq1, hq'⟩ := ws_at G hm'
  refine va_copyi (ty := .int) hC.x hC.b (hC.sz h3) hC.own (hC.ts _ (h4 _ (by simp))) (hC.ts _ (h4 _ (by simp))) (hC.ts _ (h4 _ (by simp))) (hC.ts _ (h4 _ (by simp))) hC.K h1 (ws_D hC.1 w) h2 q0 q1 0 0 ((hq w).trans (by rw [he])) ((hq' w).trans (by rw [he])) rfl rfl rfl (by decide) (by decide) hx0 (by rw [hx]; exact Nat.le_of_eq (Nat.zero_add _)) (by rw [hx]; exact Nat.le_of_eq (Nat.zero_add _)) (fun _ _ => rfl) (Nat.le_trans hf hC.fr) (Nat.le_trans hlo hC.lo) hdg (fun H1 locs1 g1 _ g3 => ?_)
  rw [hx] at g1
  rw [ws_set (w' := sA w n' o (va_cpy (w.1 n o) (w.1 n' o) 0 0 len)) hq1 (fun c _ hne => ent_sA c hne) (by rw [he]; simp [sA])] at g1
  exact k H1 locs1 ls g1 g3 h3
end Rules
def qi (Q : Int32 → Wd → Prop) : Option Value → Wd → Prop := fun r w => ∃ x, r = some (.int x) ∧ Q x w
def ql (Q : Int64 → Wd → Prop) : Option Value → Wd → Prop := fun r w => ∃ x, r = some (.long x) ∧ Q x w
def qd (Q : UInt64 → Wd → Prop) : Option Value → Wd → Prop := fun r w => ∃ x, r = some (.double x) ∧ Q x w
def qv (Q : Wd → Prop) : Option Value → Wd → Prop := fun r w => r = none ∧ Q w
/-- a method that changes nothing -/
def qip (w0 : Wd) (Q : Int32 → Prop) : Option Value → Wd → Prop := fun r w => ∃ x, r = some (.int x) ∧ w = w0 ∧ Q x
def qlp (w0 : Wd) (Q : Int64 → Prop) : Option Value → Wd → Prop := fun r w => ∃ x, r = some (.long x) ∧ w = w0 ∧ Q x
def qdp (w0 : Wd) (Q : UInt64 → Prop) : Option Value → Wd → Prop := fun r w => ∃ x, r = some (.double x) ∧ w = w0 ∧ Q x
def zb (x : Int32) : Prop := x = 0 ∨ x = 1
/-- a method's contract out of the walk of its body -/
theorem Mt_of {G : Gt} {D : Md} {av : List Value} {w : Wd} {Q : Option Value → Wd → Prop} {ws' : List Cond} (hy : plainName D.1.cls = true) (hcl : D.1.cls = D.2.2.2.2.2.1) (hw : D.2.2.2.2.1 = Cond.code D.1 D.2.1 D.2.2.1 D.2.2.2.1 :: ws') (hlen : (lg_sl av).length ≤ D.2.2.1)
    (main : ∀ (M : Mx) (Qf : State → Prop), cx G D M → en G M Q Qf → jq G D M Qf 0 (lv_args 0 av) [] w) : Mt G D av w Q := by
  intro hi
  refine Met.ofW (cc := D.2.1) (maxL := D.2.2.1) (ret := D.2.2.2.1) hy hw ?_
  intro p e s m args below meth c s₁ B hml hv
  obtain ⟨rfl, hP, hK, hN⟩ := hv
  have hown : s.vm.findClass D.2.2.2.2.2.1 = some m.cls := by rw [← hcl]; exact findClass_of_methodNamed B.named
  rw [lg_entry_eq]
  exact main (p, e, D.2.2.2.2.2.2, s, m, av.toArray, below, meth, c, 0, 0) (MQ below (qcG G Q) av.toArray s 0 0 (aG G)) ⟨hi, B.exec, B.bytes, B.returns, hml, hown, atoms_spec (ws := D.2.2.2.2.1) B.pre, B.notSynchronized, ⟨hK, hN⟩, Nat.le_refl _, Nat.le_refl _, Nat.zero_le _, Nat.zero_le _⟩ (fun _ _ _ h => h) s.heap [] _ hP va_S.rf (lv_entry av hlen)
section Kk
variable {G : Gt} {D : Md} {M : Mx} {Qf : State → Prop} {pc : Nat} {L : List (Nat × Value)} {rest : List Value}
theorem kI {Q : Int32 → Wd → Prop} (k : ∀ x w', Q x w' → jq G D M Qf pc L (.int x :: rest) w') : ∀ r w', qi Q r w' → jq G D M Qf pc L (r.toList ++ rest) w' := by rintro r w' ⟨x, rfl, h⟩; exact k x w' h
theorem kL {Q : Int64 → Wd → Prop} (k : ∀ x w', Q x w' → jq G D M Qf pc L (.long x :: rest) w') : ∀ r w', ql Q r w' → jq G D M Qf pc L (r.toList ++ rest) w' := by rintro r w' ⟨x, rfl, h⟩; exact k x w' h
theorem kD {Q : UInt64 → Wd → Prop} (k : ∀ x w', Q x w' → jq G D M Qf pc L (.double x :: rest) w') : ∀ r w', qd Q r w' → jq G D M Qf pc L (r.toList ++ rest) w' := by rintro r w' ⟨x, rfl, h⟩; exact k x w' h
theorem kV {Q : Wd → Prop} (k : ∀ w', Q w' → jq G D M Qf pc L rest w') : ∀ r w', qv Q r w' → jq G D M Qf pc L (r.toList ++ rest) w' := by rintro r w' ⟨rfl, h⟩; exact k w' h
theorem kIp {w : Wd} {Q : Int32 → Prop} (k : ∀ x, Q x → jq G D M Qf pc L (.int x :: rest) w) : ∀ r w', qip w Q r w' → jq G D M Qf pc L (r.toList ++ rest) w' := by rintro r w' ⟨x, rfl, rfl, h⟩; exact k x h
theorem kLp {w : Wd} {Q : Int64 → Prop} (k : ∀ x, Q x → jq G D M Qf pc L (.long x :: rest) w) : ∀ r w', qlp w Q r w' → jq G D M Qf pc L (r.toList ++ rest) w' := by rintro r w' ⟨x, rfl, rfl, h⟩; exact k x h
theorem kDp {w : Wd} {Q : UInt64 → Prop} (k : ∀ x, Q x → jq G D M Qf pc L (.double x :: rest) w) : ∀ r w', qdp w Q r w' → jq G D M Qf pc L (r.toList ++ rest) w' := by rintro r w' ⟨x, rfl, rfl, h⟩; exact k x h
end Kk
theorem ent_L0 {G : Gt} {w : Wd} {x : Int64} (c : Nat × Nat) (h : c ≠ (0, 32)) (hc : c ∈ cellsL) : ent G (sL w 0 x) c.1 c.2 = ent G w c.1 c.2 := by
  refine ent_c rfl (fun _ => rfl) (fun e => ?_) (fun _ _ => rfl)
  have h5 : ∀ c ∈ cellsL, c.2 = 32 → c = (0, 32) := by decide +kernel
  exact absurd (h5 c hc e) h
/-- a loop: an invariant, and a number that falls -/
theorem lp_ind {σ : Type} {P : σ → Prop} (I : σ → Prop) (μ : σ → Nat) (step : ∀ s, I s → (∀ s', I s' → μ s' < μ s → P s') → P s) : ∀ s, I s → P s := by
  have h : ∀ n s, μ s < n → I s → P s := by
    intro n
    induction n with
    | zero => intro s h; exact absurd h (by omega)
    | succ n ih => intro s h1 h2; exact step s h2 (fun s' g1 g2 => ih s' (by omega) g1)
  exact fun s hs => h (μ s + 1) s (by omega) hs
