/-! THE LAW: its start -/
def st0 : Nat → Int := fun j => if j = 0 then 10 else if j = 1 then 2 else if j = 2 then 5 else 0
def S0 : Sv := (0, 0, fun _ => 0, fun _ => 0, fun _ => 0, fun _ => 0, fun _ => 0, st0)
def σ0 : Ss := (S0, (0, fun _ => S0), (0, fun _ => 0))
def c0f : Nat → Nat → Int32 := fun o => if o = 6 then upd (upd (upd z0 0 10) 1 2) 2 5 else if o = 33 then upd (upd (upd z0 92 10) 93 2) 94 5 else z0
def w0 : Wd := (fun _ o => c0f o, fun j => j + 2, fun _ => 0)
theorem wf0 : wf S0 := ⟨by decide, by decide, fun m hm => absurd hm (Nat.not_lt_zero _), fun l hl => absurd hl (Nat.not_lt_zero _), by decide⟩
theorem rS0 : rS 0 w0 S0 := by
  refine ⟨rfl, rfl, fun m hm => absurd hm (Nat.not_lt_zero _), fun l hl => absurd hl (Nat.not_lt_zero _), fun k hk => ?_⟩
  rcases (show k = 0 ∨ k = 1 ∨ k = 2 by omega) with rfl | rfl | rfl <;> rfl
theorem dA0 : dA 0 w0 S0 := by
  refine ⟨rS0, ⟨fun m hm => absurd hm (Nat.not_lt_zero _), fun m hm => absurd hm (Nat.not_lt_zero _), bm_0, bm_0⟩, ⟨rfl, ?_, fun k hk => absurd hk (Nat.not_lt_zero _)⟩, ⟨fun l hl => absurd hl (Nat.not_lt_zero _), fun k hk => absurd hk (Nat.not_lt_zero _)⟩, ⟨fun m hm => absurd hm (Nat.not_lt_zero _), fun t ht => absurd ht (Nat.not_lt_zero _)⟩⟩
  exact bm_congr bm_0 (fun i => by
    show false = (decide (i < 0) && bad S0 i)
    simp)
theorem okC0 : okC w0 σ0 := by
  refine ⟨wf0, dA0, ⟨rfl, Nat.zero_le _, fun i hi => ?_, fun i j hi hj e => ?_, fun i hi => absurd hi (Nat.not_lt_zero _)⟩, ⟨rfl, Nat.zero_le _, fun i hi => absurd hi (Nat.not_lt_zero _)⟩⟩
  · show 2 ≤ i + 2 ∧ i + 2 < 8
    omega
  · have e2 : i + 2 = j + 2 := e
    omega
theorem okM0 : okM w0 σ0 := by
  refine ⟨wf0, ?_, ⟨rfl, Nat.zero_le _, fun i hi => absurd hi (Nat.not_lt_zero _)⟩, ⟨rfl, Nat.zero_le _, fun i hi => absurd hi (Nat.not_lt_zero _)⟩⟩
  refine ⟨rfl, rfl, fun m hm => absurd hm (Nat.not_lt_zero _), fun l hl => absurd hl (Nat.not_lt_zero _), fun k hk => ?_⟩
  rcases (show k = 0 ∨ k = 1 ∨ k = 2 by omega) with rfl | rfl | rfl <;> rfl
theorem arr_ext {c : ClassId} {n : Nat} {f g : Nat → Option Nat} (h : ∀ j, j < n → f j = g j) : vp_cell c (n, .inr (.inr (.inr (.inr f)))) = vp_cell c (n, .inr (.inr (.inr (.inr g)))) := by
  rw [vp_cell_q, vp_cell_q]
  unfold arrV
  have e : (fun j : Fin n => va_rf (f j.val)) = fun j : Fin n => va_rf (g j.val) := funext fun j => by rw [h j.val j.isLt]
  rw [e]
theorem inj_of {G : Gt} {w : Wd} {A : Nat → Prop} (h : va_D A (wsG G w)) : inj G := by
  intro c hc c' hc' e
  obtain ⟨i, hi⟩ := List.getElem?_of_mem hc
  obtain ⟨j, hj⟩ := List.getElem?_of_mem hc'
  have hij := h.1 i j _ _ (ws_get hi w) (ws_get hj w) e
  subst hij
  exact Option.some.inj (hi.symm.trans hj)
theorem aG_D {G : Gt} {w : Wd} {A : Nat → Prop} (h : va_D A (wsG G w)) (q : Nat) (hq : aG G q) : A q := by
  obtain ⟨c, hc, rfl⟩ := hq
  obtain ⟨i, hi⟩ := List.getElem?_of_mem hc
  exact h.2 i _ (ws_get hi w)
theorem k_aI {s : State} {args : Array Value} (h : (Cond.arrayClass .int).before args s = true) : ∃ cA : ClassId, ArrOfT s cA .int ∧ va_RA s cA .int := by
  obtain ⟨cA, k, comp, h1, h2, h3⟩ := Cond.arrayClass_spec h
  exact ⟨cA, fun n z => ⟨fun k h => (by cases h), k, h2, comp, h3⟩, h1⟩
theorem k_aZ {s : State} {args : Array Value} (h : (Cond.arrayClass .boolean).before args s = true) : ∃ cA : ClassId, ArrOfT s cA .boolean ∧ va_RA s cA .boolean := by
  obtain ⟨cA, k, comp, h1, h2, h3⟩ := Cond.arrayClass_spec h
  exact ⟨cA, fun n z => ⟨fun k h => (by cases h), k, h2, comp, h3⟩, h1⟩
theorem k_aL {s : State} {args : Array Value} (h : (Cond.arrayClass .long).before args s = true) : ∃ cA : ClassId, ArrOfT s cA .long ∧ va_RA s cA .long := by
  obtain ⟨cA, k, comp, h1, h2, h3⟩ := Cond.arrayClass_spec h
  exact ⟨cA, fun n z => ⟨fun k h => (by cases h), k, h2, comp, h3⟩, h1⟩
theorem k_aQ {s : State} {args : Array Value} {C : String} (h : (Cond.arrayOver (.object C)).before args s = true) : ∃ cA : ClassId, ArrOfT s cA (.object C) ∧ va_RA s cA (.object C) := by
  obtain ⟨comp, cA, k, h1, -, h3, h4, h5⟩ := Cond.arrayOver_spec h
  exact ⟨cA, fun n z => ⟨fun k h => (by cases h), k, h3, comp, h4⟩, k, comp, h3, h4, h1, h5⟩
