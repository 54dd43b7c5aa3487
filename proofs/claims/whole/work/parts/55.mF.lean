/-! THE MODEL: its methods that change the survey -/
def mX (w : Wd) (T : Tx) : Prop := wi w 0 32 6 = nI T.1 ∧ T.1 ≤ 60 ∧ ∀ i, i < T.1 → wi w 0 36 i = T.2 i
def okM (w : Wd) (σ : Ss) : Prop := wf σ.1 ∧ sS w σ.1 ∧ mH w σ.2.1 ∧ mX w σ.2.2
def mAll : List Nat := [32, 33, 34, 35, 36, 37, 38, 39, 40, 41, 42, 43, 44, 45, 46, 47, 48, 49, 50]
/-- the model touches its own cells only, and the long it digests in -/
def kM (w w' : Wd) : Prop := (∀ a b, ¬ (a = 0 ∧ 32 ≤ b ∧ b ≤ 50) → ∀ k, wi w' a b k = wi w a b k) ∧ (∀ k, sv w' k = sv w k) ∧ ∀ k, k ≠ 0 → wl w' k = wl w k
theorem kM_rf {w : Wd} : kM w w := ⟨fun _ _ _ _ => rfl, fun _ => rfl, fun _ _ => rfl⟩
theorem kM.tr {w w' w'' : Wd} (h : kM w w') (k : kM w' w'') : kM w w'' := ⟨fun a b q j => (k.1 a b q j).trans (h.1 a b q j), fun j => (k.2.1 j).trans (h.2.1 j), fun j q => (k.2.2 j q).trans (h.2.2 j q)⟩
theorem kM_fl {w w' : Wd} (h : fl mAll w w') : kM w w' := by
  refine ⟨fun a b q j => congrFun (h.1 a b (fun z => q ⟨z.1, ?_⟩)) j, fun j => h.sv j, fun j _ => h.wl j⟩
  have := z.2
  unfold mAll at this
  simp at this
  omega
theorem fo_all {w w' : Wd} (h : fo w w') : fl mAll w w' := h.1.wide (by decide)
theorem mX_of {w w' : Wd} {T : Tx} (h : mX w T) (e6 : wi w' 0 32 6 = wi w 0 32 6) (e : ∀ i, wi w' 0 36 i = wi w 0 36 i) : mX w' T := ⟨e6.trans h.1, h.2.1, fun i hi => (e i).trans (h.2.2 i hi)⟩
theorem okM_fo {w w' : Wd} {σ : Ss} (h : okM w σ) (k : fo w w') : okM w' σ :=
  ⟨h.1, sS_fo h.2.1 k, mH_fl h.2.2.1 k.1 (by decide) (k.2 4 (by omega)), mX_of h.2.2.2 (k.2 6 (by omega)) (fun i => k.1.wi (by decide) i)⟩
/-- the place is told -/
theorem h0_fo {w w' : Wd} {x : Int32} (q : w' = sI w 0 32 0 x) : fl [32] w w' ∧ (∀ j, j ≠ 0 → wi w' 0 32 j = wi w 0 32 j) ∧ wi w' 0 32 0 = x := by
  refine ⟨by rw [q]; exact fl_rf.sI (by decide), fun j hj => by rw [q, wi_sI, if_neg (by omega)], by rw [q, wi_sI, if_pos ⟨rfl, rfl, rfl⟩]⟩
theorem h0_ok {w w' : Wd} {σ : Ss} {x : Int32} (h : okM w σ) (q : w' = sI w 0 32 0 x) : okM w' σ := by
  obtain ⟨f, o, -⟩ := h0_fo q
  exact ⟨h.1, sS_fl h.2.1 f (by decide), mH_fl h.2.2.1 f (by decide) (o 4 (by omega)), mX_of h.2.2.2 (o 6 (by omega)) (fun i => f.wi (by decide) i)⟩
theorem h0_mO {w w' : Wd} {S : Sv} {x : Int32} (h : mO w S) (q : w' = sI w 0 32 0 x) : mO w' S := by
  obtain ⟨f, o, -⟩ := h0_fo q
  exact ⟨mT_fl h.1 f (by decide), ⟨(o 15 (by omega)).trans h.2.1.1, lR_fl h.2.1.2 f (by decide)⟩, mSp_fl h.2.2 f (by decide)⟩
theorem h0_mA {w w' : Wd} {S : Sv} {x : Int32} (h : mA w S) (q : w' = sI w 0 32 0 x) : mA w' S := ⟨h0_mO h.1 q, mHt_fl h.2 (h0_fo q).1 (by decide)⟩
theorem m_gate {w : Wd} {p : Nat} {x : Int32} {A B : Wd → Prop} (hx : x = nI p) (hp : p < 10) (k1 : p = 0 → ∀ w', w' = sI w 0 32 0 (nI p) → A w') (k0 : p ≠ 0 → ∀ w', w' = sI w 0 32 0 (nI p) → B w') : wp_X9_holds x w (fun r w' => (¬ r = 0 → A w') ∧ (r = 0 → B w')) := by
  subst hx
  unfold wp_X9_holds
  intro w' q
  rw [n_0, n_eq (by omega) (by omega)]
  exact ⟨fun z => ⟨Or.inl rfl, fun y => absurd rfl y, fun _ => k0 z w' q⟩, fun z => ⟨Or.inr rfl, fun _ => k1 z w' q, fun y => absurd y (by decide)⟩⟩
theorem m_gate2 {w : Wd} {p : Nat} {x : Int32} {A B : Wd → Prop} (hx : x = nI p) (hp : p < 10) (k1 : p = 0 → ∀ w', w' = sI w 0 32 0 (nI p) → A w') (k0 : p ≠ 0 → ∀ w', w' = sI w 0 32 0 (nI p) → B w') : wp_X9_holds x w (fun r w' => (r = 0 → B w') ∧ (¬ r = 0 → A w')) := by
  subst hx
  unfold wp_X9_holds
  intro w' q
  rw [n_0, n_eq (by omega) (by omega)]
  exact ⟨fun z => ⟨Or.inl rfl, fun _ => k0 z w' q, fun y => absurd rfl y⟩, fun z => ⟨Or.inr rfl, fun y => absurd y (by decide), fun _ => k1 z w' q⟩⟩
theorem m_in2 {x y z : Int32} (a b : Int) {Q : Int32 → Prop} (hy : y = iI a) (hz : z = iI b) (ha : fit a) (hb : fit b) (k1 : inR x a b = true → Q 1) (k0 : inR x a b = false → Q 0) : wp_X9_in x y z Q := by
  subst hy hz
  exact m_in ha hb k1 k0
/-! rows that change -/
theorem rw_kno {g g' : Nat → Int32} {S : Sv} {m : Nat} {k : Int} (hS : wf S) (h : mRw g S) (hm : m < nM S) (e : ∀ i, g' i = if i = 1 + m then iI k else g i) : mRw g' (knoM S m k) := by
  have hm' := hS.m
  have hl' := hS.l
  obtain ⟨h1, h2, h3, h4, h5⟩ := h
  refine ⟨by rw [e, if_neg (by omega)]; exact h1, by rw [e, if_neg (by omega)]; exact h2, fun i hi => ?_, fun l hl => ?_, fun i hi => by rw [e, if_neg (by omega)]; exact h5 i hi⟩
  · rw [e]
    show _ = iI (if i = m then k else kn S i)
    by_cases z : i = m
    · rw [if_pos (by omega), if_pos z]
    · rw [if_neg (by omega), if_neg z]; exact h3 i hi
  · have := h4 l hl
    rw [e, e, e, e, if_neg (by omega), if_neg (by omega), if_neg (by omega), if_neg (by omega)]
    exact this
theorem rw_set {g g' : Nat → Int32} {S : Sv} {j : Nat} {k : Int} (hS : wf S) (h : mRw g S) (e : ∀ i, g' i = if i = 92 + j then iI k else g i) : mRw g' (setS S j k) := by
  have hm' := hS.m
  have hl' := hS.l
  obtain ⟨h1, h2, h3, h4, h5⟩ := h
  refine ⟨by rw [e, if_neg (by omega)]; exact h1, by rw [e, if_neg (by omega)]; exact h2, fun i hi => ?_, fun l hl => ?_, fun i hi => ?_⟩
  · have hi' : i < nM S := hi
    rw [e, if_neg (by omega)]; exact h3 i hi
  · have hl'' : l < nL S := hl
    have := h4 l hl
    rw [e, e, e, e, if_neg (by omega), if_neg (by omega), if_neg (by omega), if_neg (by omega)]
    exact this
  · rw [e]
    show _ = iI (if i = j then k else st S i)
    by_cases z : i = j
    · rw [if_pos (by omega), if_pos z]
    · rw [if_neg (by omega), if_neg z]; exact h5 i hi
theorem rw_mea {g g' : Nat → Int32} {S : Sv} {l0 : Nat} {k : Int} (hS : wf S) (h : mRw g S) (hl0 : l0 < nL S) (e : ∀ i, g' i = if i = 12 + 4 * l0 + 3 then iI k else g i) : mRw g' (meaL S l0 k) := by
  have hm' := hS.m
  have hl' := hS.l
  obtain ⟨h1, h2, h3, h4, h5⟩ := h
  refine ⟨by rw [e, if_neg (by omega)]; exact h1, by rw [e, if_neg (by omega)]; exact h2, fun i hi => ?_, fun l hl => ?_, fun i hi => by rw [e, if_neg (by omega)]; exact h5 i hi⟩
  · have hi' : i < nM S := hi
    rw [e, if_neg (by omega)]; exact h3 i hi
  · have hl'' : l < nL S := hl
    obtain ⟨a, b, c, d⟩ := h4 l hl
    rw [e, e, e, e, if_neg (by omega), if_neg (by omega), if_neg (by omega)]
    refine ⟨a, b, c, ?_⟩
    show _ = iI (if l = l0 then k else df S l)
    by_cases z : l = l0
    · rw [if_pos (by omega), if_pos z]
    · rw [if_neg (by omega), if_neg z]; exact d
theorem rw_tur {g g' : Nat → Int32} {S : Sv} {l0 : Nat} (hS : wf S) (h : mRw g S) (hl0 : l0 < nL S) (e : ∀ i, g' i = if i = 12 + 4 * l0 then nI (tO S l0) else if i = 12 + 4 * l0 + 1 then nI (fr S l0) else if i = 12 + 4 * l0 + 3 then iI (- df S l0) else g i) : mRw g' (turL S l0) := by
  have hm' := hS.m
  have hl' := hS.l
  obtain ⟨h1, h2, h3, h4, h5⟩ := h
  have out : ∀ i, i < 12 ∨ 92 ≤ i → g' i = g i := fun i hi => by rw [e, if_neg (by omega), if_neg (by omega), if_neg (by omega)]
  refine ⟨by rw [out 0 (by omega)]; exact h1, by rw [out 11 (by omega)]; exact h2, fun i hi => ?_, fun l hl => ?_, fun i hi => by rw [out _ (by omega)]; exact h5 i hi⟩
  · have hi' : i < nM S := hi
    rw [out _ (by omega)]; exact h3 i hi
  · have hl'' : l < nL S := hl
    obtain ⟨a, b, c, d⟩ := h4 l hl
    show _ = nI (if l = l0 then tO S l0 else fr S l) ∧ _ = nI (if l = l0 then fr S l0 else tO S l) ∧ _ = nI (ln S l) ∧ _ = iI (if l = l0 then - df S l0 else df S l)
    by_cases z : l = l0
    · subst z
      rw [if_pos rfl, if_pos rfl, if_pos rfl]
      refine ⟨by rw [e, if_pos rfl], by rw [e, if_neg (by omega), if_pos rfl], ?_, by rw [e, if_neg (by omega), if_neg (by omega), if_pos rfl]⟩
      rw [e, if_neg (by omega), if_neg (by omega), if_neg (by omega)]; exact c
    · rw [if_neg z, if_neg z, if_neg z]
      have o4 : ∀ j, j < 4 → g' (12 + 4 * l + j) = g (12 + 4 * l + j) := fun j hj => by rw [e, if_neg (by omega), if_neg (by omega), if_neg (by omega)]
      exact ⟨(o4 0 (by omega)).trans a, (o4 1 (by omega)).trans b, (o4 2 (by omega)).trans c, (o4 3 (by omega)).trans d⟩
theorem rw_addM {g g' : Nat → Int32} {S : Sv} {k : Int} (hS : wf S) (h : mRw g S) (hn : nM S < 10) (e : ∀ i, g' i = if i = 0 then nI (nM S + 1) else if i = 1 + nM S then iI k else g i) : mRw g' (addM S k) := by
  have hl' := hS.l
  obtain ⟨h1, h2, h3, h4, h5⟩ := h
  refine ⟨by rw [e, if_pos rfl]; rfl, by rw [e, if_neg (by omega), if_neg (by omega)]; exact h2, fun i hi => ?_, fun l hl => ?_, fun i hi => by rw [e, if_neg (by omega), if_neg (by omega)]; exact h5 i hi⟩
  · have hi' : i < nM S + 1 := hi
    rw [e, if_neg (by omega)]
    show _ = iI (if i = nM S then k else kn S i)
    by_cases z : i = nM S
    · rw [if_pos (by omega), if_pos z]
    · rw [if_neg (by omega), if_neg z]; exact h3 i (by omega)
  · have hl'' : l < nL S := hl
    obtain ⟨a, b, c, d⟩ := h4 l hl
    have o4 : ∀ j, j < 4 → g' (12 + 4 * l + j) = g (12 + 4 * l + j) := fun j hj => by rw [e, if_neg (by omega), if_neg (by omega)]
    exact ⟨(o4 0 (by omega)).trans a, (o4 1 (by omega)).trans b, (o4 2 (by omega)).trans c, (o4 3 (by omega)).trans d⟩
theorem rw_addL {g g' : Nat → Int32} {S : Sv} {f t l0 : Nat} {k : Int} (hS : wf S) (h : mRw g S) (hn : nL S < 20) (e : ∀ i, g' i = if i = 11 then nI (nL S + 1) else if i = 12 + 4 * nL S then nI f else if i = 12 + 4 * nL S + 1 then nI t else if i = 12 + 4 * nL S + 2 then nI l0 else if i = 12 + 4 * nL S + 3 then iI k else g i) : mRw g' (addL S f t k l0) := by
  have hm' := hS.m
  obtain ⟨h1, h2, h3, h4, h5⟩ := h
  have out : ∀ i, i < 11 ∨ 92 ≤ i → g' i = g i := fun i hi => by rw [e, if_neg (by omega), if_neg (by omega), if_neg (by omega), if_neg (by omega), if_neg (by omega)]
  refine ⟨by rw [out 0 (by omega)]; exact h1, by rw [e, if_pos rfl]; rfl, fun i hi => ?_, fun l hl => ?_, fun i hi => by rw [out _ (by omega)]; exact h5 i hi⟩
  · have hi' : i < nM S := hi
    rw [out _ (by omega)]; exact h3 i hi
  · have hl'' : l < nL S + 1 := hl
    show _ = nI (if l = nL S then f else fr S l) ∧ _ = nI (if l = nL S then t else tO S l) ∧ _ = nI (if l = nL S then l0 else ln S l) ∧ _ = iI (if l = nL S then k else df S l)
    by_cases z : l = nL S
    · rw [if_pos z, if_pos z, if_pos z, if_pos z, z]
      refine ⟨by rw [e, if_neg (by omega), if_pos rfl], by rw [e, if_neg (by omega), if_neg (by omega), if_pos rfl], by rw [e, if_neg (by omega), if_neg (by omega), if_neg (by omega), if_pos rfl], by rw [e, if_neg (by omega), if_neg (by omega), if_neg (by omega), if_neg (by omega), if_pos rfl]⟩
    · rw [if_neg z, if_neg z, if_neg z, if_neg z]
      obtain ⟨a, b, c, d⟩ := h4 l (by omega)
      have o4 : ∀ j, j < 4 → g' (12 + 4 * l + j) = g (12 + 4 * l + j) := fun j hj => by rw [e, if_neg (by omega), if_neg (by omega), if_neg (by omega), if_neg (by omega), if_neg (by omega)]
      exact ⟨(o4 0 (by omega)).trans a, (o4 1 (by omega)).trans b, (o4 2 (by omega)).trans c, (o4 3 (by omega)).trans d⟩
theorem rw_drp {g g' : Nat → Int32} {S : Sv} {l0 : Nat} (hS : wf S) (h : mRw g S) (hl0 : l0 < nL S) (e : ∀ i, g' i = if i = 11 then nI (nL S - 1) else if 12 + 4 * l0 ≤ i ∧ i < 12 + 4 * (nL S - 1) then g (i + 4) else g i) : mRw g' (drpL S l0) := by
  have hm' := hS.m
  have hl' := hS.l
  obtain ⟨h1, h2, h3, h4, h5⟩ := h
  refine ⟨by rw [e, if_neg (by omega), if_neg (by omega)]; exact h1, by rw [e, if_pos rfl]; rfl, fun i hi => ?_, fun l hl => ?_, fun i hi => by rw [e, if_neg (by omega), if_neg (by omega)]; exact h5 i hi⟩
  · have hi' : i < nM S := hi
    rw [e, if_neg (by omega), if_neg (by omega)]; exact h3 i hi
  · have hl'' : l < nL S - 1 := hl
    show _ = nI (sft (fr S) l0 l) ∧ _ = nI (sft (tO S) l0 l) ∧ _ = nI (sft (ln S) l0 l) ∧ _ = iI (sft (df S) l0 l)
    unfold sft
    by_cases z : l < l0
    · obtain ⟨a, b, c, d⟩ := h4 l (by omega)
      have o4 : ∀ j, j < 4 → g' (12 + 4 * l + j) = g (12 + 4 * l + j) := fun j hj => by rw [e, if_neg (by omega), if_neg (by omega)]
      rw [if_pos z, if_pos z, if_pos z, if_pos z]
      exact ⟨(o4 0 (by omega)).trans a, (o4 1 (by omega)).trans b, (o4 2 (by omega)).trans c, (o4 3 (by omega)).trans d⟩
    · obtain ⟨a, b, c, d⟩ := h4 (l + 1) (by omega)
      have o4 : ∀ j, j < 4 → g' (12 + 4 * l + j) = g (12 + 4 * (l + 1) + j) := fun j hj => by rw [e, if_neg (by omega), if_pos (by omega)]; congr 1; omega
      rw [if_neg z, if_neg z, if_neg z, if_neg z]
      exact ⟨(o4 0 (by omega)).trans a, (o4 1 (by omega)).trans b, (o4 2 (by omega)).trans c, (o4 3 (by omega)).trans d⟩
theorem m_remove {w : Wd} {S : Sv} {l : Nat} {Q : Wd → Prop} (hS : wf S) (h : sS w S) (hl : l < nL S) (k : ∀ w', fl [33] w w' → sS w' (drpL S l) → Q w') : wp_X9_remove (nI l) w Q := by
  have hl' := hS.l
  unfold wp_X9_remove
  refine m_of (c := 0) ?_
  unfold wp_X9_remove_L6
  refine lpIA (B := fun i v K => wp_X9_remove_B6 i v Q K) (fun j v => 12 + 4 * l ≤ j ∧ fl [33] w v ∧ ∀ i, wi v 0 33 i = if 12 + 4 * l ≤ i ∧ i < j then wi w 0 33 (i + 4) else wi w 0 33 i) (12 + 4 * (nL S - 1)) (12 + 4 * l) (by omega) (by omega) ⟨Nat.le_refl _, fl_rf, fun i => by rw [if_neg (by omega)]⟩ ?_ ?_
  · rintro j v K hj ⟨jl, fv, av⟩ hK
    have e11 : wi v 0 33 11 = nI (nL S) := by rw [av, if_neg (by omega)]; exact h.2.1
    unfold wp_X9_remove_B6
    rw [e11, show (1 : Int32) = nI 1 from rfl, pk_sub (by omega)]
    refine m_of (c := 0) ?_
    rw [n_le (by omega) (by omega), show (4 : Int32) = nI 4 from rfl, nI_add, n_cl (show j < 2147483648 by omega)]
    refine ⟨fun z => absurd z (by omega), fun z => ⟨n_in (by omega) (by omega), n_in (by omega) (by omega), fun v1 q1 => ?_⟩⟩
    rw [n_cl (show j + 4 < 2147483648 by omega)] at q1
    rw [nI_add]
    refine hK v1 ⟨by omega, by rw [q1]; exact fv.sI (by decide), fun i => ?_⟩
    rw [q1, wi_sI]
    by_cases y : i = j
    · rw [if_pos ⟨rfl, rfl, y⟩, av, if_neg (by omega), if_pos (by omega), y]
    · rw [if_neg (by omega), av]
      by_cases t : 12 + 4 * l ≤ i ∧ i < j
      · rw [if_pos t, if_pos (by omega)]
      · rw [if_neg t, if_neg (by omega)]
  · rintro v K ⟨-, fv, av⟩
    have e11 : wi v 0 33 11 = nI (nL S) := by rw [av, if_neg (by omega)]; exact h.2.1
    unfold wp_X9_remove_B6
    rw [e11, show (1 : Int32) = nI 1 from rfl, pk_sub (by omega)]
    refine m_of (c := 0) ?_
    refine ⟨fun _ v1 q1 => k v1 (by rw [q1]; exact fv.sI (by decide)) (rw_drp hS h hl (fun i => ?_)), fun z => absurd (Int32.le_refl _) z⟩
    rw [q1, wi_sI]
    by_cases y : i = 11
    · rw [if_pos ⟨rfl, rfl, y⟩, if_pos y]
    · rw [if_neg (by omega), if_neg y]; exact av i
theorem m_marks {w : Wd} {S : Sv} {x : Int32} {k0 : Int} {Q : Int32 → Wd → Prop} (hS : wf S) (h : sS w S) (hn : nM S < 10) (hx : x = iI k0) (k : ∀ w', fl [33] w w' → sS w' (addM S k0) → Q (nI (nM S)) w') : wp_X9_marks x w Q := by
  subst hx
  unfold wp_X9_marks
  rw [h.1, n1p, n_cl (by omega)]
  refine ⟨n_in (by omega) (by omega), fun w1 q1 w2 q2 => ?_⟩
  have e0 : wi w1 0 33 0 = nI (nM S) := by rw [q1, wi_sI, if_neg (by omega)]; exact h.1
  have e2 : wi w2 0 33 0 = nI (nM S + 1) := by rw [q2, wi_sI, if_pos ⟨rfl, rfl, rfl⟩, e0, nI_1]
  rw [e2, show (1 : Int32) = nI 1 from rfl, pk_sub (by omega), Nat.add_sub_cancel]
  refine k w2 ?_ (rw_addM hS h hn (fun i => ?_))
  · rw [q2, q1]; exact (fl_rf.sI (by decide)).sI (by decide)
  · rw [q2, wi_sI]
    by_cases y : i = 0
    · rw [if_pos ⟨rfl, rfl, y⟩, if_pos y, e0, nI_1]
    · rw [if_neg (by omega), if_neg y, q1, wi_sI]
      by_cases t : i = 1 + nM S
      · rw [if_pos ⟨rfl, rfl, t⟩, if_pos t]
      · rw [if_neg (by omega), if_neg t]
theorem m_legs {w : Wd} {S : Sv} {f t l0 : Nat} {d : Int} {Q : Int32 → Wd → Prop} (hS : wf S) (h : sS w S) (hn : nL S < 20) (k : ∀ w', fl [33] w w' → sS w' (addL S f t d l0) → Q (nI (nL S)) w') : wp_X9_legs (nI f) (nI t) (iI d) (nI l0) w Q := by
  unfold wp_X9_legs
  rw [h.2.1]
  refine m_of2 rfl rfl (by omega) (by omega) (fun w1 q1 => m_of2 rfl rfl (by omega) (by omega) (fun w2 q2 => m_of2 rfl rfl (by omega) (by omega) (fun w3 q3 => m_of2 rfl rfl (by omega) (by omega) (fun w4 q4 => ?_))))
  rw [n_cl (by omega)] at q1 q2 q3 q4
  have e11 : wi w4 0 33 11 = nI (nL S) := by
    rw [q4, wi_sI, if_neg (by omega), q3, wi_sI, if_neg (by omega), q2, wi_sI, if_neg (by omega), q1, wi_sI, if_neg (by omega)]; exact h.2.1
  intro w5 q5
  rw [e11, nI_1] at q5
  refine k w5 ?_ (rw_addL hS h hn (fun i => ?_))
  · rw [q5, q4, q3, q2, q1]; exact ((((fl_rf.sI (by decide)).sI (by decide)).sI (by decide)).sI (by decide)).sI (by decide)
  · rw [q5, wi_sI]
    by_cases y : i = 11
    · rw [if_pos ⟨rfl, rfl, y⟩, if_pos y]
    · rw [if_neg (by omega), if_neg y, q4, wi_sI]
      by_cases y3 : i = 12 + 4 * nL S + 3
      · rw [if_pos ⟨rfl, rfl, y3⟩, if_neg (by omega), if_neg (by omega), if_neg (by omega), if_pos y3]
      · rw [if_neg (by omega), q3, wi_sI]
        by_cases y2 : i = 12 + 4 * nL S + 2
        · rw [if_pos ⟨rfl, rfl, y2⟩, if_neg (by omega), if_neg (by omega), if_pos y2]
        · rw [if_neg (by omega), q2, wi_sI]
          by_cases y1 : i = 12 + 4 * nL S + 1
          · rw [if_pos ⟨rfl, rfl, y1⟩, if_neg (by omega), if_pos y1]
          · rw [if_neg (by omega), q1, wi_sI]
            by_cases y0 : i = 12 + 4 * nL S
            · rw [if_pos ⟨rfl, rfl, by omega⟩, if_pos y0]
            · rw [if_neg (by omega), if_neg y0, if_neg y1, if_neg y2, if_neg y3]
/-! places -/
theorem m_markFault {w : Wd} {S : Sv} {x : Int32} {Q : Int32 → Prop} (hS : wf S) (h : sS w S) (q : Q (nI (pAddMark S x))) : wp_X9_markFault x w Q := by
  have hm' := hS.m
  unfold pAddMark at q
  unfold wp_X9_markFault
  refine m_in2 (-1) 99999 rfl rfl ⟨by omega, by omega⟩ ⟨by omega, by omega⟩ (fun c => ⟨fun _ => ?_, fun z => absurd z (by decide)⟩) (fun c => ⟨fun z => absurd rfl z, fun _ => ?_⟩)
  · rw [if_pos c] at q
    rw [h.1, show (10 : Int32) = nI 10 from rfl, n_eq (by omega) (by omega)]
    refine ⟨fun z => ?_, fun z => ?_⟩
    · rw [if_pos (by omega)] at q; exact q
    · rw [if_neg (by omega)] at q; exact q
  · rw [if_neg (by rw [c]; decide)] at q; exact q
theorem m_legFault {w : Wd} {S : Sv} {a b d l : Int32} {Q : Int32 → Prop} (hS : wf S) (h : sS w S) (q : Q (nI (pAddLeg S a b d l))) : wp_X9_legFault a b d l w Q := by
  have hl' := hS.l
  unfold pAddLeg at q
  unfold wp_X9_legFault
  refine m_isMark hS h (fun c => ⟨fun z => absurd z (by decide), fun _ => ?_⟩) (fun c => ⟨fun _ => ?_, fun z => absurd rfl z⟩)
  · refine m_isMark hS h (fun c2 => ⟨fun _ => ?_, fun z => absurd z (by decide)⟩) (fun c2 => ⟨fun z => absurd rfl z, fun _ => ?_⟩)
    · rw [if_pos ⟨c, c2⟩] at q
      refine ⟨fun e => ?_, fun e => ?_⟩
      · rw [if_neg (fun z => z.1 e)] at q; exact q
      · refine m_in2 (-9999) 9999 rfl rfl ⟨by omega, by omega⟩ ⟨by omega, by omega⟩ (fun c3 => ⟨fun z => absurd z (by decide), fun _ => ?_⟩) (fun c3 => ⟨fun _ => ?_, fun z => absurd rfl z⟩)
        · refine m_in2 1 99 rfl rfl ⟨by omega, by omega⟩ ⟨by omega, by omega⟩ (fun c4 => ⟨fun _ => ?_, fun z => absurd z (by decide)⟩) (fun c4 => ⟨fun z => absurd rfl z, fun _ => ?_⟩)
          · rw [if_pos ⟨e, c3, c4⟩] at q
            rw [h.2.1, show (20 : Int32) = nI 20 from rfl, n_eq (by omega) (by omega)]
            refine ⟨fun z => ?_, fun z => ?_⟩
            · rw [if_pos (by omega)] at q; exact q
            · rw [if_neg (by omega)] at q; exact q
          · rw [if_neg (fun z => by rw [c4] at z; cases z.2.2)] at q; exact q
        · rw [if_neg (fun z => by rw [c3] at z; cases z.2.1)] at q; exact q
    · rw [if_neg (fun z => by rw [c2] at z; cases z.2)] at q; exact q
  · rw [if_neg (fun z => by rw [c] at z; cases z.1)] at q; exact q
theorem m_addMark {x : Int32} {w : Wd} {σ : Ss} {Q : Int32 → Wd → Prop} (h : okM w σ) (k0 : pAddMark σ.1 x = 0 → ∀ w', kM w w' → wi w' 0 32 0 = nI 0 → okM w' (addM σ.1 x.toInt, psh σ.2.1 σ.1, σ.2.2) → Q (nI (nM σ.1)) w') (k1 : pAddMark σ.1 x ≠ 0 → ∀ r w', kM w w' → wi w' 0 32 0 = nI (pAddMark σ.1 x) → okM w' σ → Q r w') : wp_X9_addMark x w Q := by
  have pl : pAddMark σ.1 x < 10 := by unfold pAddMark; split <;> (try split) <;> omega
  unfold wp_X9_addMark
  refine m_markFault h.1 h.2.1 (m_gate rfl pl (fun e w1 q1 => ?_) (fun e w1 q1 => k1 e 0 w1 (kM_fl ((h0_fo q1).1.wide (by decide))) (h0_fo q1).2.2 (h0_ok h q1)))
  obtain ⟨f1, o1, t1⟩ := h0_fo q1
  have g1 := h0_ok h q1
  have in1 : inR x (-1) 99999 = true := by
    cases c : inR x (-1) 99999 with
    | true => rfl
    | false => unfold pAddMark at e; rw [if_neg (by rw [c]; decide)] at e; omega
  have n1 : nM σ.1 < 10 := by
    unfold pAddMark at e
    rw [if_pos in1] at e
    by_cases z : nM σ.1 < 10
    · exact z
    · rw [if_neg z] at e; omega
  obtain ⟨v, v1, v2, v3, v4⟩ := inR_e in1 (by omega) (by omega)
  refine m_save g1.1 g1.2.1 g1.2.2.1 (fun w2 f2 o2 h2 => ?_)
  refine m_marks g1.1 (sS_fl g1.2.1 f2 (by decide)) n1 v1 (fun w3 f3 s3 => k0 e w3 ?_ ?_ ⟨?_, ?_, mH_fl h2 f3 (by decide) (f3.wi (by decide) 4), ?_⟩)
  · exact kM_fl (((f1.wide (by decide)).tr (f2.wide (by decide))).tr (f3.wide (by decide)))
  · rw [f3.wi (by decide), o2 0 (by omega), t1, e]
  · exact wf_addM h.1 (by rw [v2]; exact ⟨v3, v4⟩) n1
  · rw [v2]; exact s3
  · exact mX_of g1.2.2.2 (by rw [f3.wi (by decide), o2 6 (by omega)]) (fun i => by rw [f3.wi (by decide), f2.wi (by decide)])
theorem m_know {x y : Int32} {w : Wd} {σ : Ss} {Q : Int32 → Wd → Prop} (h : okM w σ) (k0 : pKnow σ.1 x y = 0 → ∀ w', kM w w' → wi w' 0 32 0 = nI 0 → okM w' (knoM σ.1 (xN x) y.toInt, psh σ.2.1 σ.1, σ.2.2) → Q (iI (kn σ.1 (xN x))) w') (k1 : pKnow σ.1 x y ≠ 0 → ∀ r w', kM w w' → wi w' 0 32 0 = nI (pKnow σ.1 x y) → okM w' σ → Q r w') : wp_X9_know x y w Q := by
  have hm' := h.1.m
  have pl : pKnow σ.1 x y < 10 := by unfold pKnow; split <;> (try split) <;> omega
  have G : ∀ s, s = nI (pKnow σ.1 x y) → wp_X9_know_J28 x y s w Q := by
    intro s hs
    unfold wp_X9_know_J28
    refine m_gate hs pl (fun e w1 q1 => ?_) (fun e w1 q1 => k1 e 0 w1 (kM_fl ((h0_fo q1).1.wide (by decide))) (h0_fo q1).2.2 (h0_ok h q1))
    obtain ⟨f1, o1, t1⟩ := h0_fo q1
    have g1 := h0_ok h q1
    have i1 : iM σ.1 x = true := by
      cases c : iM σ.1 x with
      | true => rfl
      | false => unfold pKnow at e; rw [if_neg (by rw [c]; decide)] at e; omega
    have i2 : inR y (-1) 99999 = true := by
      cases c : inR y (-1) 99999 with
      | true => rfl
      | false => unfold pKnow at e; rw [if_pos i1, if_neg (by rw [c]; decide)] at e; omega
    obtain ⟨m, m1, rfl⟩ := iM_e h.1 i1
    obtain ⟨v, v1, v2, v3, v4⟩ := inR_e i2 (by omega) (by omega)
    have em : xN (nI m) = m := xN_nI (by omega)
    rw [em] at k0
    refine m_save g1.1 g1.2.1 g1.2.2.1 (fun w2 f2 o2 h2 => ?_)
    have s2 := sS_fl g1.2.1 f2 (by decide)
    rw [n1p, n_cl (by omega), s2.2.2.1 m m1]
    refine ⟨n_in (by omega) (by omega), n_in (by omega) (by omega), fun w3 q3 => ?_⟩
    have f3 : fl [33] w2 w3 := by rw [q3]; exact fl_rf.sI (by decide)
    refine k0 e w3 ?_ ?_ ⟨?_, ?_, mH_fl h2 f3 (by decide) (f3.wi (by decide) 4), ?_⟩
    · exact kM_fl (((f1.wide (by decide)).tr (f2.wide (by decide))).tr (f3.wide (by decide)))
    · rw [f3.wi (by decide), o2 0 (by omega), t1, e]
    · exact wf_knoM h.1 (by rw [v2]; exact ⟨v3, v4⟩)
    · rw [v2]
      refine rw_kno h.1 s2 m1 (fun i => ?_)
      rw [q3, wi_sI, v1]
      by_cases z : i = 1 + m
      · rw [if_pos ⟨rfl, rfl, z⟩, if_pos z]
      · rw [if_neg (by omega), if_neg z]
    · exact mX_of g1.2.2.2 (by rw [f3.wi (by decide), o2 6 (by omega)]) (fun i => by rw [f3.wi (by decide), f2.wi (by decide)])
  unfold wp_X9_know
  refine m_isMark h.1 h.2.1 (fun c => ⟨fun _ => m_in2 (-1) 99999 rfl rfl ⟨by omega, by omega⟩ ⟨by omega, by omega⟩ (fun d => ⟨fun _ => G _ ?_, fun z => absurd z (by decide)⟩) (fun d => ⟨fun z => absurd rfl z, fun _ => G _ ?_⟩), fun z => absurd z (by decide)⟩) (fun c => ⟨fun z => absurd rfl z, fun _ => G _ ?_⟩)
  · unfold pKnow; rw [if_pos c, if_pos d]; rfl
  · unfold pKnow; rw [if_pos c, if_neg (by rw [d]; decide)]; rfl
  · unfold pKnow; rw [if_neg (by rw [c]; decide)]; rfl
theorem m_accept {x : Int32} {w : Wd} {σ : Ss} {Q : Int32 → Wd → Prop} (h : okM w σ) (k0 : pAccept σ.1 x = 0 → ∀ w', kM w w' → wi w' 0 32 0 = nI 0 → okM w' (knoM σ.1 (xN x) (hgt σ.1 (xN x)), psh σ.2.1 σ.1, σ.2.2) → Q (iI (hgt σ.1 (xN x))) w') (k1 : pAccept σ.1 x ≠ 0 → ∀ r w', kM w w' → wi w' 0 32 0 = nI (pAccept σ.1 x) → okM w' σ → Q r w') : wp_X9_accept x w Q := by
  have hm' := h.1.m
  have pl : pAccept σ.1 x < 10 := by unfold pAccept; split <;> (try split) <;> omega
  unfold wp_X9_accept
  refine m_layAll h.1 h.2.1 (fun w0 f0 a0 => ?_)
  have h' := okM_fo h f0
  have G : ∀ s, s = nI (pAccept σ.1 x) → wp_X9_accept_J37 x s w0 Q := by
    intro s hs
    unfold wp_X9_accept_J37
    refine m_gate hs pl (fun e w1 q1 => ?_) (fun e w1 q1 => k1 e 0 w1 ((kM_fl (fo_all f0)).tr (kM_fl ((h0_fo q1).1.wide (by decide)))) (h0_fo q1).2.2 (h0_ok h' q1))
    obtain ⟨f1, o1, t1⟩ := h0_fo q1
    have g1 := h0_ok h' q1
    have a1 := h0_mA a0 q1
    have i1 : iM σ.1 x = true := by
      cases c : iM σ.1 x with
      | true => rfl
      | false => unfold pAccept at e; rw [if_neg (by rw [c]; decide)] at e; omega
    obtain ⟨m, m1, rfl⟩ := iM_e h.1 i1
    have em : xN (nI m) = m := xN_nI (by omega)
    rw [em] at k0
    have i2 : 0 ≤ hgt σ.1 m ∧ hgt σ.1 m ≤ 99999 := by
      by_cases c : 0 ≤ hgt σ.1 m ∧ hgt σ.1 m ≤ 99999
      · exact c
      · unfold pAccept at e; rw [if_pos i1, em, if_neg c] at e; omega
    refine m_save g1.1 g1.2.1 g1.2.2.1 (fun w2 f2 o2 h2 => ?_)
    have s2 := sS_fl g1.2.1 f2 (by decide)
    have e50 : wi w2 0 50 m = iI (hgt σ.1 m) := (f2.wi (by decide) m).trans (a1.2 m m1).2
    rw [n1p, n_cl (show 1 + m < 2147483648 by omega), n_cl (show m < 2147483648 by omega), e50]
    refine ⟨n_in (by omega) (by omega), n_in (by omega) (by omega), fun w3 q3 => ⟨n_in (by omega) (by omega), ?_⟩⟩
    have f3 : fl [33] w2 w3 := by rw [q3]; exact fl_rf.sI (by decide)
    rw [f3.wi (by decide), e50]
    refine k0 e w3 ?_ ?_ ⟨?_, ?_, mH_fl h2 f3 (by decide) (f3.wi (by decide) 4), ?_⟩
    · exact (kM_fl (fo_all f0)).tr (kM_fl (((f1.wide (by decide)).tr (f2.wide (by decide))).tr (f3.wide (by decide))))
    · rw [f3.wi (by decide), o2 0 (by omega), t1, e]
    · exact wf_knoM h.1 ⟨by omega, i2.2⟩
    · refine rw_kno h.1 s2 m1 (fun i => ?_)
      rw [q3, wi_sI]
      by_cases z : i = 1 + m
      · rw [if_pos ⟨rfl, rfl, z⟩, if_pos z]
      · rw [if_neg (by omega), if_neg z]
    · exact mX_of g1.2.2.2 (by rw [f3.wi (by decide), o2 6 (by omega)]) (fun i => by rw [f3.wi (by decide), f2.wi (by decide)])
  refine m_isMark h.1 h'.2.1 (fun c => ⟨fun _ => ?_, fun z => absurd z (by decide)⟩) (fun c => ⟨fun z => absurd rfl z, fun _ => G _ ?_⟩)
  · obtain ⟨m, m1, rfl⟩ := iM_e h.1 c
    have em : xN (nI m) = m := xN_nI (by omega)
    have hb := hgt_bd' h.1 m
    rw [n_cl (by omega), (a0.2 m m1).2]
    have ei : inR (iI (hgt σ.1 m)) 0 99999 = decide (0 ≤ hgt σ.1 m ∧ hgt σ.1 m ≤ 99999) := by
      unfold inR; rw [iI_toInt ⟨by omega, by omega⟩]
    refine ⟨n_in (by omega) (by omega), m_in2 0 99999 rfl rfl ⟨by omega, by omega⟩ ⟨by omega, by omega⟩ (fun d => ⟨fun _ => G _ ?_, fun z => absurd z (by decide)⟩) (fun d => ⟨fun z => absurd rfl z, fun _ => G _ ?_⟩)⟩
    · rw [ei] at d
      unfold pAccept; rw [if_pos c, em, if_pos (of_decide_eq_true d)]; rfl
    · rw [ei] at d
      unfold pAccept; rw [if_pos c, em, if_neg (of_decide_eq_false d)]; rfl
  · unfold pAccept; rw [if_neg (by rw [c]; decide)]; rfl
theorem m_addLeg {a b d l : Int32} {w : Wd} {σ : Ss} {Q : Int32 → Wd → Prop} (h : okM w σ) (k0 : pAddLeg σ.1 a b d l = 0 → ∀ w', kM w w' → wi w' 0 32 0 = nI 0 → okM w' (addL σ.1 (xN a) (xN b) d.toInt (xN l), psh σ.2.1 σ.1, σ.2.2) → Q (nI (nL σ.1)) w') (k1 : pAddLeg σ.1 a b d l ≠ 0 → ∀ r w', kM w w' → wi w' 0 32 0 = nI (pAddLeg σ.1 a b d l) → okM w' σ → Q r w') : wp_X9_addLeg a b d l w Q := by
  have hm' := h.1.m
  have pl : pAddLeg σ.1 a b d l < 10 := by unfold pAddLeg; split <;> (try split) <;> (try split) <;> omega
  unfold wp_X9_addLeg
  refine m_legFault h.1 h.2.1 (m_gate rfl pl (fun e w1 q1 => ?_) (fun e w1 q1 => k1 e 0 w1 (kM_fl ((h0_fo q1).1.wide (by decide))) (h0_fo q1).2.2 (h0_ok h q1)))
  obtain ⟨f1, o1, t1⟩ := h0_fo q1
  have g1 := h0_ok h q1
  have cs : (iM σ.1 a = true ∧ iM σ.1 b = true) ∧ (a ≠ b ∧ inR d (-9999) 9999 = true ∧ inR l 1 99 = true) ∧ nL σ.1 < 20 := by
    unfold pAddLeg at e
    by_cases c : iM σ.1 a = true ∧ iM σ.1 b = true
    · rw [if_pos c] at e
      by_cases c2 : a ≠ b ∧ inR d (-9999) 9999 = true ∧ inR l 1 99 = true
      · rw [if_pos c2] at e
        by_cases c3 : nL σ.1 < 20
        · exact ⟨c, c2, c3⟩
        · rw [if_neg c3] at e; omega
      · rw [if_neg c2] at e; omega
    · rw [if_neg c] at e; omega
  obtain ⟨⟨c1, c2⟩, ⟨c3, c4, c5⟩, c6⟩ := cs
  obtain ⟨m, m1, rfl⟩ := iM_e h.1 c1
  obtain ⟨o, o1', rfl⟩ := iM_e h.1 c2
  obtain ⟨v, rfl, v2, v3, v4⟩ := inR_e c4 (by omega) (by omega)
  obtain ⟨u, rfl, u2, u3, u4⟩ := inR_e c5 (by omega) (by omega)
  have em : xN (nI m) = m := xN_nI (by omega)
  have eo : xN (nI o) = o := xN_nI (by omega)
  have eu : xN (iI u) = u.toNat := by unfold xN; rw [u2]
  have eu2 : iI u = nI u.toNat := by rw [nI_iI]; congr 1; omega
  rw [em, eo, eu, v2] at k0
  refine m_save g1.1 g1.2.1 g1.2.2.1 (fun w2 f2 o2 h2 => ?_)
  rw [eu2]
  refine m_legs g1.1 (sS_fl g1.2.1 f2 (by decide)) c6 (fun w3 f3 s3 => k0 e w3 ?_ ?_ ⟨?_, s3, mH_fl h2 f3 (by decide) (f3.wi (by decide) 4), ?_⟩)
  · exact kM_fl (((f1.wide (by decide)).tr (f2.wide (by decide))).tr (f3.wide (by decide)))
  · rw [f3.wi (by decide), o2 0 (by omega), t1, e]
  · exact wf_addL h.1 c6 m1 o1' (fun z => c3 (by rw [z])) ⟨v3, v4⟩ ⟨by omega, by omega⟩
  · exact mX_of g1.2.2.2 (by rw [f3.wi (by decide), o2 6 (by omega)]) (fun i => by rw [f3.wi (by decide), f2.wi (by decide)])
