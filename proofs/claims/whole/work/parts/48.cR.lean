/-! THE CLASS: reading; a run of the reader on whole numbers: state, number, from, to, difference, is it below -/
abbrev RS : Type := Nat × Nat × Nat × Nat × Int × Bool
def dg (c : Int) : Bool := decide (48 ≤ c ∧ c ≤ 57)
def cm (s : RS) (n : Nat) : RS := (n, s.2)
def beg (c : Int) (least : Int) (nx : Nat) (s : RS) : Option RS := if dg c = true ∧ least ≤ c - 48 then some (nx, (c - 48).toNat, s.2.2) else none
def gon (c : Int) (most : Int) (s : RS) : Option RS := if dg c = true ∧ s.2.1 ≠ 0 ∧ 10 * (s.2.1 : Int) + c - 48 ≤ most then some (s.1, (10 * (s.2.1 : Int) + c - 48).toNat, s.2.2) else none
def tk (c : Int) (s : RS) : Option RS :=
  if s.1 = 0 then (if c = 109 then some (cm s 1) else if dg c = true then some (3, s.2.1, (c - 48).toNat, s.2.2.2) else none)
  else if s.1 = 1 then (if c = 59 then some (cm s 0) else beg c 0 2 s)
  else if s.1 = 2 then (if c = 59 then some (cm s 0) else gon c 99999 s)
  else if s.1 = 3 then (if c = 45 then some (cm s 4) else none)
  else if s.1 = 4 then (if dg c = true then some (5, s.2.1, s.2.2.1, (c - 48).toNat, s.2.2.2.2) else none)
  else if s.1 = 5 then (if c = 58 then some (6, s.2.1, s.2.2.1, s.2.2.2.1, s.2.2.2.2.1, false) else none)
  else if s.1 = 6 then (if c = 45 then some (7, s.2.1, s.2.2.1, s.2.2.2.1, s.2.2.2.2.1, true) else beg c 0 8 s)
  else if s.1 = 7 then beg c 0 8 s
  else if s.1 = 8 then (if c = 47 then some (9, s.2.1, s.2.2.1, s.2.2.2.1, (if s.2.2.2.2.2 = true then -(s.2.1 : Int) else s.2.1), s.2.2.2.2.2) else gon c 9999 s)
  else if s.1 = 9 then beg c 1 10 s
  else (if c = 59 then some (cm s 0) else gon c 99 s)
/-- the reader's cells hold what counts of s -/
def rdR (w : Wd) (s : RS) : Prop := wi w 0 31 4 = nI s.1 ∧ s.1 ≤ 10 ∧ (s.1 = 2 ∨ s.1 = 8 ∨ s.1 = 10 → wi w 0 31 0 = nI s.2.1 ∧ s.2.1 < 100000) ∧ (3 ≤ s.1 → wi w 0 31 1 = nI s.2.2.1 ∧ s.2.2.1 < 10) ∧ (5 ≤ s.1 → wi w 0 31 2 = nI s.2.2.2.1 ∧ s.2.2.2.1 < 10) ∧ (6 ≤ s.1 → s.1 ≤ 8 → wi w 0 31 5 = (if s.2.2.2.2.2 = true then 1 else 0)) ∧ (9 ≤ s.1 → wi w 0 31 3 = iI s.2.2.2.2.1)
/-- p signs are read, and lead to s -/
def rch (c : Nat → Int32) : Nat → RS → Prop
  | 0, s => s = (0, 0, 0, 0, 0, false)
  | p + 1, s => ∃ t, rch c p t ∧ tk (c p).toInt t = some s
theorem rch_det {c : Nat → Int32} {p : Nat} {s t : RS} (h : rch c p s) (k : rch c p t) : s = t := by
  induction p generalizing s t with
  | zero => exact h.trans k.symm
  | succ p ih =>
    obtain ⟨a, a1, a2⟩ := h
    obtain ⟨b, b1, b2⟩ := k
    rw [ih a1 b1, b2] at a2
    exact (Option.some.inj a2).symm
theorem rch_pre {c : Nat → Int32} {p q : Nat} {s : RS} (h : rch c q s) (hp : p < q) : ∃ t u, rch c p t ∧ tk (c p).toInt t = some u := by
  induction q generalizing s with
  | zero => omega
  | succ q ih =>
    obtain ⟨a, a1, a2⟩ := h
    by_cases z : p = q
    · subst z; exact ⟨a, s, a1, a2⟩
    · exact ih a1 (by omega)
theorem s_isDigit {x : Int32} {Q : Int32 → Prop} (k1 : dg x.toInt = true → Q 1) (k0 : dg x.toInt = false → Q 0) : wp_X3_isDigit x Q := by
  obtain ⟨v, hv, e, e2⟩ := of_int x
  unfold dg at k1 k0
  rw [e2] at k1 k0
  unfold wp_X3_isDigit wp_X3_isDigit_J16
  rw [e, show (48 : Int32) = iI 48 from rfl, iI_lt hv ⟨by omega, by omega⟩, show (57 : Int32) = iI 57 from rfl, iI_lt ⟨by omega, by omega⟩ hv]
  exact ⟨fun q => ⟨Or.inl rfl, k0 (decide_eq_false (by omega))⟩, fun q => ⟨fun z => ⟨Or.inl rfl, k0 (decide_eq_false (by omega))⟩, fun z => ⟨Or.inr rfl, k1 (decide_eq_true (by omega))⟩⟩⟩
/-- a digit, told from its sign -/
theorem dg_e {x : Int32} (h : dg x.toInt = true) : x - 48 = nI (x.toInt - 48).toNat ∧ (x.toInt - 48).toNat < 10 ∧ x = nI (48 + (x.toInt - 48).toNat) := by
  obtain ⟨v, hv, e, e2⟩ := of_int x
  have q := of_decide_eq_true h
  rw [e2] at q ⊢
  refine ⟨?_, by omega, ?_⟩
  · rw [e, show (48 : Int32) = iI 48 from rfl, iI_sub, ← iI_nat]; congr 1; omega
  · rw [e, ← iI_nat]; congr 1; omega
theorem s_comeTo {nx : Nat} {w : Wd} {Q : Int32 → Wd → Prop} (k : ∀ w', fm 0 31 31 w w' → (∀ j, j ≠ 4 → wi w' 0 31 j = wi w 0 31 j) → wi w' 0 31 4 = nI nx → Q 1 w') : wp_X3_comeTo (nI nx) w Q := by
  unfold wp_X3_comeTo
  intro w1 q1
  exact ⟨Or.inr rfl, k w1 (by rw [q1]; exact fm.rf.sI (by omega) (by omega)) (fun j hj => by rw [q1, wi_sI, if_neg (by omega)]) (by rw [q1, wi_sI, if_pos ⟨rfl, rfl, rfl⟩])⟩
theorem s_begin {x : Int32} {least nx : Nat} {w : Wd} {Q : Int32 → Wd → Prop} (hl : least < 10) (k1 : dg x.toInt = true ∧ (least : Int) ≤ x.toInt - 48 → ∀ w', fm 0 31 31 w w' → (∀ j, j ≠ 4 → j ≠ 0 → wi w' 0 31 j = wi w 0 31 j) → wi w' 0 31 4 = nI nx → wi w' 0 31 0 = nI (x.toInt - 48).toNat → Q 1 w') (k0 : ¬ (dg x.toInt = true ∧ (least : Int) ≤ x.toInt - 48) → Q 0 w) : wp_X3_begin x (nI least) (nI nx) w Q := by
  unfold wp_X3_begin
  refine s_isDigit (fun c => ⟨fun z => absurd z (by decide), fun _ => ?_⟩) (fun c => ⟨fun _ => ⟨Or.inl rfl, k0 (by rw [c]; simp)⟩, fun z => absurd rfl z⟩)
  obtain ⟨e, d, -⟩ := dg_e c
  have q := of_decide_eq_true c
  rw [show (48 : Int32) = nI 48 from rfl] at e ⊢
  rw [e, n_le (by omega) (by omega)]
  refine ⟨fun z => fun w1 q1 => s_comeTo (fun w2 f2 o2 e2 => ⟨Or.inr rfl, k1 ⟨c, by omega⟩ w2 ?_ (fun j h4 h0 => ?_) e2 ?_⟩), fun z => ⟨Or.inl rfl, k0 (fun y => by omega)⟩⟩
  · exact (show fm 0 31 31 w w1 by rw [q1]; exact fm.rf.sI (by omega) (by omega)).tr f2
  · rw [o2 j h4, q1, wi_sI, if_neg (by omega)]
  · rw [o2 0 (by omega), q1, wi_sI, if_pos ⟨rfl, rfl, rfl⟩]
theorem s_goOn {x : Int32} {n most : Nat} {w : Wd} {Q : Int32 → Wd → Prop} (hn : n < 100000) (hm : most < 100000) (e0 : wi w 0 31 0 = nI n) (k1 : dg x.toInt = true ∧ n ≠ 0 ∧ 10 * (n : Int) + x.toInt - 48 ≤ most → ∀ w', fm 0 31 31 w w' → (∀ j, j ≠ 0 → wi w' 0 31 j = wi w 0 31 j) → wi w' 0 31 0 = nI (10 * (n : Int) + x.toInt - 48).toNat → Q 1 w') (k0 : ¬ (dg x.toInt = true ∧ n ≠ 0 ∧ 10 * (n : Int) + x.toInt - 48 ≤ most) → Q 0 w) : wp_X3_goOn x (nI most) w Q := by
  unfold wp_X3_goOn
  refine s_isDigit (fun c => ⟨fun z => absurd z (by decide), fun _ => ?_⟩) (fun c => ⟨fun _ => ⟨Or.inl rfl, k0 (by rw [c]; simp)⟩, fun z => absurd rfl z⟩)
  obtain ⟨e, d, ex⟩ := dg_e c
  have q := of_decide_eq_true c
  have ev : ((10 : Int32) * nI n) + x - (48 : Int32) = nI (10 * (n : Int) + x.toInt - 48).toNat := by
    rw [show (10 : Int32) = nI 10 from rfl, pk_mul]
    rw [ex, nI_add, show (48 : Int32) = nI 48 from rfl, pk_sub (by omega)]
    congr 1
    rw [nI_toInt (by omega)]
    omega
  rw [e0, ev, show (0 : Int32) = nI 0 from rfl, n_eq (by omega) (by omega), n_le (by omega) (by omega)]
  refine ⟨fun z => ⟨Or.inl rfl, k0 (fun y => y.2.1 z)⟩, fun z => ⟨fun y => fun w1 q1 => ⟨Or.inr rfl, k1 ⟨c, z, by omega⟩ w1 (by rw [q1]; exact fm.rf.sI (by omega) (by omega)) (fun j hj => by rw [q1, wi_sI, if_neg (by omega)]) (by rw [q1, wi_sI, if_pos ⟨rfl, rfl, rfl⟩])⟩, fun y => ⟨Or.inl rfl, k0 (fun t => by omega)⟩⟩⟩
/-- what a sign does to the reader: answers 1 and goes to the next state, or answers 0 -/
def tkQ (c : Int) (s : RS) (w : Wd) (Q : Int32 → Wd → Prop) : Prop := (∀ u, tk c s = some u → ∀ w', fm 0 31 31 w w' → rdR w' u → Q 1 w') ∧ (tk c s = none → ∀ w', fm 0 31 31 w w' → Q 0 w')
theorem s_take {x : Int32} {s : RS} {w : Wd} {Q : Int32 → Wd → Prop} (h : rdR w s) (k : tkQ x.toInt s w Q) : wp_X3_take x w Q := by
  obtain ⟨a, n, f, t, d, b⟩ := s
  obtain ⟨h4, h10, hn, hf, ht, hb, hd⟩ := h
  obtain ⟨k1, k0⟩ := k
  have h4' : wi w 0 31 4 = nI a := h4
  have h10' : a ≤ 10 := h10
  have st : ∀ i, i ≤ 10 → wi w 0 31 4 = nI i → a = i := fun i hi z => (n_eq (by omega) (by omega)).mp (h4'.symm.trans z)
  have sg : ∀ (i : Nat) (j : Int), j = (i : Int) → i < 1000 → (x = nI i ↔ x.toInt = j) := fun i j hj hi => by
    obtain ⟨v, hv, e, e2⟩ := of_int x
    rw [e2, e, nI_iI, iI_eq hv (fit_nat (by omega)), hj]
  have come : ∀ (nx : Nat) (u : RS), tk x.toInt (a, n, f, t, d, b) = some u → (∀ w', (∀ j, j ≠ 4 → wi w' 0 31 j = wi w 0 31 j) → wi w' 0 31 4 = nI nx → rdR w' u) → wp_X3_comeTo (nI nx) w (fun r w' => zb r ∧ Q r w') := fun nx u ek hr => s_comeTo (fun w' f' o' e' => ⟨Or.inr rfl, k1 u ek w' f' (hr w' o' e')⟩)
  unfold wp_X3_take
  refine ⟨fun z => ?_, fun z => ?_, fun z => ?_, fun z => ?_, fun z => ?_, fun z => ?_, fun z => ?_, fun z => ?_, fun z => ?_, fun z => ?_, fun z0 z1 z2 z3 z4 z5 z6 z7 z8 z9 => ?_⟩
  · have := st 0 (by omega) z
    subst this
    have e : tk x.toInt (0, n, f, t, d, b) = if x.toInt = 109 then some (1, n, f, t, d, b) else if dg x.toInt = true then some (3, n, (x.toInt - 48).toNat, t, d, b) else none := rfl
    refine ⟨fun c => ?_, fun c => ?_⟩
    · have c' : ¬ x.toInt = 109 := fun y => c ((sg 109 109 rfl (by omega)).mpr y)
      rw [if_neg c'] at e
      unfold wp_X3_takeFrom wp_X3_takeFrom_J27
      intro w1 q1
      have f1 : fm 0 31 31 w w1 := by rw [q1]; exact fm.rf.sI (by omega) (by omega)
      refine s_isDigit (fun g => ⟨fun y => absurd y (by first | decide | simp), fun _ => ?_⟩) (fun g => ⟨fun _ => ⟨Or.inl rfl, Or.inl rfl, k0 (by rw [e, if_neg (by rw [g]; decide)]) w1 f1⟩, fun y => absurd rfl y⟩)
      obtain ⟨d1, d2, -⟩ := dg_e g
      refine s_comeTo (nx := 3) (fun w2 f2 o2 e2 => ⟨fun y => absurd y (by first | decide | simp), fun _ => ⟨Or.inr rfl, Or.inr rfl, k1 _ (by rw [e, if_pos g]) w2 (f1.tr f2) ?_⟩⟩)
      refine ⟨e2, by show 3 ≤ 10; omega, fun y => absurd y (by first | decide | simp), fun _ => ⟨?_, d2⟩, fun y => absurd y (by first | decide | simp), fun y => absurd y (by first | decide | simp), fun y => absurd y (by first | decide | simp)⟩
      rw [o2 1 (by omega), q1, wi_sI, if_pos ⟨rfl, rfl, rfl⟩]; exact d1
    · have c' : x.toInt = 109 := (sg 109 109 rfl (by omega)).mp c
      rw [if_pos c'] at e
      exact come 1 _ e (fun w' o' e' => ⟨e', by show 1 ≤ 10; omega, fun y => absurd y (by first | decide | simp), fun y => absurd y (by first | decide | simp), fun y => absurd y (by first | decide | simp), fun y => absurd y (by first | decide | simp), fun y => absurd y (by first | decide | simp)⟩)
  · have := st 1 (by omega) z
    subst this
    have e : tk x.toInt (1, n, f, t, d, b) = if x.toInt = 59 then some (0, n, f, t, d, b) else beg x.toInt 0 2 (1, n, f, t, d, b) := rfl
    refine ⟨fun c => ?_, fun c => ?_⟩
    · rw [if_neg (fun y => c ((sg 59 59 rfl (by omega)).mpr y)), beg] at e
      refine s_begin (least := 0) (nx := 2) (by omega) (fun g w' f' o' e4 e0 => ⟨Or.inr rfl, k1 _ (by rw [e]; exact if_pos g) w' f' ⟨e4, by show 2 ≤ 10; omega, fun _ => ⟨e0, by have := dg_e g.1; show (x.toInt - 48).toNat < 100000; omega⟩, fun y => absurd y (by first | decide | simp), fun y => absurd y (by first | decide | simp), fun y => absurd y (by first | decide | simp), fun y => absurd y (by first | decide | simp)⟩⟩) (fun g => ⟨Or.inl rfl, k0 (by rw [e]; exact if_neg g) w fm.rf⟩)
    · rw [if_pos ((sg 59 59 rfl (by omega)).mp c)] at e
      exact come 0 _ e (fun w' o' e' => ⟨e', by show 0 ≤ 10; omega, fun y => absurd y (by first | decide | simp), fun y => absurd y (by first | decide | simp), fun y => absurd y (by first | decide | simp), fun y => absurd y (by first | decide | simp), fun y => absurd y (by first | decide | simp)⟩)
  · have := st 2 (by omega) z
    subst this
    have e : tk x.toInt (2, n, f, t, d, b) = if x.toInt = 59 then some (0, n, f, t, d, b) else gon x.toInt 99999 (2, n, f, t, d, b) := rfl
    obtain ⟨n1, n2⟩ := hn (Or.inl rfl)
    refine ⟨fun c => ?_, fun c => ?_⟩
    · rw [if_neg (fun y => c ((sg 59 59 rfl (by omega)).mpr y)), gon] at e
      exact s_goOn (n := n) (most := 99999) n2 (by omega) n1 (fun g w' f' o' e0 => ⟨Or.inr rfl, k1 _ (by rw [e]; exact if_pos g) w' f' ⟨(o' 4 (by omega)).trans h4', by show 2 ≤ 10; omega, fun _ => ⟨e0, by have := g.2.2; show (10 * (n : Int) + x.toInt - 48).toNat < 100000; omega⟩, fun y => absurd y (by first | decide | simp), fun y => absurd y (by first | decide | simp), fun y => absurd y (by first | decide | simp), fun y => absurd y (by first | decide | simp)⟩⟩) (fun g => ⟨Or.inl rfl, k0 (by rw [e]; exact if_neg g) w fm.rf⟩)
    · rw [if_pos ((sg 59 59 rfl (by omega)).mp c)] at e
      exact come 0 _ e (fun w' o' e' => ⟨e', by show 0 ≤ 10; omega, fun y => absurd y (by first | decide | simp), fun y => absurd y (by first | decide | simp), fun y => absurd y (by first | decide | simp), fun y => absurd y (by first | decide | simp), fun y => absurd y (by first | decide | simp)⟩)
  · have := st 3 (by omega) z
    subst this
    have e : tk x.toInt (3, n, f, t, d, b) = if x.toInt = 45 then some (4, n, f, t, d, b) else none := rfl
    obtain ⟨f1, f2⟩ := hf (by first | decide | simp)
    unfold wp_X3_take_J142
    refine ⟨fun c => ⟨Or.inl rfl, k0 (by rw [e, if_neg (fun y => c ((sg 45 45 rfl (by omega)).mpr y))]) w fm.rf⟩, fun c => ?_⟩
    rw [if_pos ((sg 45 45 rfl (by omega)).mp c)] at e
    exact s_comeTo (nx := 4) (fun w' f' o' e' => ⟨fun y => absurd y (by first | decide | simp), fun _ => ⟨Or.inr rfl, k1 _ e w' f' ⟨e', by show 4 ≤ 10; omega, fun y => absurd y (by first | decide | simp), fun _ => ⟨(o' 1 (by omega)).trans f1, f2⟩, fun y => absurd y (by first | decide | simp), fun y => absurd y (by first | decide | simp), fun y => absurd y (by first | decide | simp)⟩⟩⟩)
  · have := st 4 (by omega) z
    subst this
    have e : tk x.toInt (4, n, f, t, d, b) = if dg x.toInt = true then some (5, n, f, (x.toInt - 48).toNat, d, b) else none := rfl
    obtain ⟨f1, f2⟩ := hf (by first | decide | simp)
    unfold wp_X3_takeTo wp_X3_takeTo_J27
    intro w1 q1
    have g1 : fm 0 31 31 w w1 := by rw [q1]; exact fm.rf.sI (by omega) (by omega)
    refine s_isDigit (fun g => ⟨fun y => absurd y (by first | decide | simp), fun _ => ?_⟩) (fun g => ⟨fun _ => ⟨Or.inl rfl, Or.inl rfl, k0 (by rw [e, if_neg (by rw [g]; decide)]) w1 g1⟩, fun y => absurd rfl y⟩)
    obtain ⟨d1, d2, -⟩ := dg_e g
    refine s_comeTo (nx := 5) (fun w2 f2' o2 e2 => ⟨fun y => absurd y (by first | decide | simp), fun _ => ⟨Or.inr rfl, Or.inr rfl, k1 _ (by rw [e, if_pos g]) w2 (g1.tr f2') ?_⟩⟩)
    refine ⟨e2, by show 5 ≤ 10; omega, fun y => absurd y (by first | decide | simp), fun _ => ⟨?_, f2⟩, fun _ => ⟨?_, d2⟩, fun y => absurd y (by first | decide | simp), fun y => absurd y (by first | decide | simp)⟩
    · rw [o2 1 (by omega), q1, wi_sI, if_neg (by omega)]; exact f1
    · rw [o2 2 (by omega), q1, wi_sI, if_pos ⟨rfl, rfl, rfl⟩]; exact d1
  · have := st 5 (by omega) z
    subst this
    have e : tk x.toInt (5, n, f, t, d, b) = if x.toInt = 58 then some (6, n, f, t, d, false) else none := rfl
    obtain ⟨f1, f2⟩ := hf (by first | decide | simp)
    obtain ⟨t1, t2⟩ := ht (by first | decide | simp)
    unfold wp_X3_take_J167 wp_X3_takeColon
    refine ⟨fun c => ⟨Or.inl rfl, k0 (by rw [e, if_neg (fun y => c ((sg 58 58 rfl (by omega)).mpr y))]) w fm.rf⟩, fun c => ⟨Or.inl rfl, fun w1 q1 => ?_⟩⟩
    rw [if_pos ((sg 58 58 rfl (by omega)).mp c)] at e
    have g1 : fm 0 31 31 w w1 := by rw [q1]; exact fm.rf.sI (by omega) (by omega)
    refine s_comeTo (nx := 6) (fun w2 f2' o2 e2 => ⟨Or.inr rfl, fun y => absurd y (by first | decide | simp), fun _ => ⟨Or.inr rfl, k1 _ e w2 (g1.tr f2') ?_⟩⟩)
    refine ⟨e2, by show 6 ≤ 10; omega, fun y => absurd y (by first | decide | simp), fun _ => ⟨?_, f2⟩, fun _ => ⟨?_, t2⟩, fun _ _ => ?_, fun y => absurd y (by first | decide | simp)⟩
    · rw [o2 1 (by omega), q1, wi_sI, if_neg (by omega)]; exact f1
    · rw [o2 2 (by omega), q1, wi_sI, if_neg (by omega)]; exact t1
    · rw [o2 5 (by omega), q1, wi_sI, if_pos ⟨rfl, rfl, rfl⟩]; rfl
  · have := st 6 (by omega) z
    subst this
    have e : tk x.toInt (6, n, f, t, d, b) = if x.toInt = 45 then some (7, n, f, t, d, true) else beg x.toInt 0 8 (6, n, f, t, d, b) := rfl
    obtain ⟨f1, f2⟩ := hf (by first | decide | simp)
    obtain ⟨t1, t2⟩ := ht (by first | decide | simp)
    have b1 := hb (by first | decide | simp) (by first | decide | simp)
    refine ⟨fun c => ?_, fun c => ?_⟩
    · rw [if_neg (fun y => c ((sg 45 45 rfl (by omega)).mpr y)), beg] at e
      exact s_begin (least := 0) (nx := 8) (by omega) (fun g w' f' o' e4 e0 => ⟨Or.inr rfl, k1 (8, (x.toInt - 48).toNat, f, t, d, b) (by rw [e]; exact if_pos g) w' f' ⟨e4, by show 8 ≤ 10; omega, fun _ => ⟨e0, by have := dg_e g.1; show (x.toInt - 48).toNat < 100000; omega⟩, fun _ => ⟨(o' 1 (by omega) (by omega)).trans f1, f2⟩, fun _ => ⟨(o' 2 (by omega) (by omega)).trans t1, t2⟩, fun _ _ => (o' 5 (by omega) (by omega)).trans b1, fun y => absurd y (by first | decide | simp)⟩⟩) (fun g => ⟨Or.inl rfl, k0 (by rw [e]; exact if_neg g) w fm.rf⟩)
    · rw [if_pos ((sg 45 45 rfl (by omega)).mp c)] at e
      unfold wp_X3_takeSign
      refine ⟨Or.inr rfl, fun w1 q1 => ?_⟩
      have g1 : fm 0 31 31 w w1 := by rw [q1]; exact fm.rf.sI (by omega) (by omega)
      refine s_comeTo (nx := 7) (fun w2 f2' o2 e2 => ⟨Or.inr rfl, Or.inr rfl, k1 _ e w2 (g1.tr f2') ?_⟩)
      refine ⟨e2, by show 7 ≤ 10; omega, fun y => absurd y (by first | decide | simp), fun _ => ⟨?_, f2⟩, fun _ => ⟨?_, t2⟩, fun _ _ => ?_, fun y => absurd y (by first | decide | simp)⟩
      · rw [o2 1 (by omega), q1, wi_sI, if_neg (by omega)]; exact f1
      · rw [o2 2 (by omega), q1, wi_sI, if_neg (by omega)]; exact t1
      · rw [o2 5 (by omega), q1, wi_sI, if_pos ⟨rfl, rfl, rfl⟩]; rfl
  · have := st 7 (by omega) z
    subst this
    have e : tk x.toInt (7, n, f, t, d, b) = beg x.toInt 0 8 (7, n, f, t, d, b) := rfl
    obtain ⟨f1, f2⟩ := hf (by first | decide | simp)
    obtain ⟨t1, t2⟩ := ht (by first | decide | simp)
    have b1 := hb (by first | decide | simp) (by first | decide | simp)
    rw [beg] at e
    exact s_begin (least := 0) (nx := 8) (by omega) (fun g w' f' o' e4 e0 => ⟨Or.inr rfl, k1 (8, (x.toInt - 48).toNat, f, t, d, b) (by rw [e]; exact if_pos g) w' f' ⟨e4, by show 8 ≤ 10; omega, fun _ => ⟨e0, by have := dg_e g.1; show (x.toInt - 48).toNat < 100000; omega⟩, fun _ => ⟨(o' 1 (by omega) (by omega)).trans f1, f2⟩, fun _ => ⟨(o' 2 (by omega) (by omega)).trans t1, t2⟩, fun _ _ => (o' 5 (by omega) (by omega)).trans b1, fun y => absurd y (by first | decide | simp)⟩⟩) (fun g => ⟨Or.inl rfl, k0 (by rw [e]; exact if_neg g) w fm.rf⟩)
  · have := st 8 (by omega) z
    subst this
    have e : tk x.toInt (8, n, f, t, d, b) = if x.toInt = 47 then some (9, n, f, t, (if b = true then -(n : Int) else n), b) else gon x.toInt 9999 (8, n, f, t, d, b) := rfl
    obtain ⟨n1, n2⟩ := hn (Or.inr (Or.inl rfl))
    obtain ⟨f1, f2⟩ := hf (by first | decide | simp)
    obtain ⟨t1, t2⟩ := ht (by first | decide | simp)
    have b1 : wi w 0 31 5 = (if b = true then 1 else 0) := hb (by first | decide | simp) (by first | decide | simp)
    have n1' : wi w 0 31 0 = nI n := n1
    refine ⟨fun c => ?_, fun c => ?_⟩
    · rw [if_neg (fun y => c ((sg 47 47 rfl (by omega)).mpr y)), gon] at e
      exact s_goOn (n := n) (most := 9999) n2 (by omega) n1 (fun g w' f' o' e0 => ⟨Or.inr rfl, k1 (8, (10 * (n : Int) + x.toInt - 48).toNat, f, t, d, b) (by rw [e]; exact if_pos g) w' f' ⟨(o' 4 (by omega)).trans h4', by show 8 ≤ 10; omega, fun _ => ⟨e0, by have := g.2.2; show (10 * (n : Int) + x.toInt - 48).toNat < 100000; omega⟩, fun _ => ⟨(o' 1 (by omega)).trans f1, f2⟩, fun _ => ⟨(o' 2 (by omega)).trans t1, t2⟩, fun _ _ => (o' 5 (by omega)).trans b1, fun y => absurd y (by first | decide | simp)⟩⟩) (fun g => ⟨Or.inl rfl, k0 (by rw [e]; exact if_neg g) w fm.rf⟩)
    · rw [if_pos ((sg 47 47 rfl (by omega)).mp c)] at e
      have go : ∀ v : Int32, v = iI (if b = true then -(n : Int) else n) → wp_X3_takeSlash_J20 v w (fun r w' => zb r ∧ Q r w') := by
        intro v ev
        unfold wp_X3_takeSlash_J20
        intro w1 q1
        have g1 : fm 0 31 31 w w1 := by rw [q1]; exact fm.rf.sI (by omega) (by omega)
        refine s_comeTo (nx := 9) (fun w2 f2' o2 e2 => ⟨Or.inr rfl, Or.inr rfl, k1 _ e w2 (g1.tr f2') ?_⟩)
        refine ⟨e2, by show 9 ≤ 10; omega, fun y => absurd y (by first | decide | simp), fun _ => ⟨?_, f2⟩, fun _ => ⟨?_, t2⟩, fun _ y => absurd y (by first | decide | simp), fun _ => ?_⟩
        · rw [o2 1 (by omega), q1, wi_sI, if_neg (by omega)]; exact f1
        · rw [o2 2 (by omega), q1, wi_sI, if_neg (by omega)]; exact t1
        · rw [o2 3 (by omega), q1, wi_sI, if_pos ⟨rfl, rfl, rfl⟩]; exact ev
      unfold wp_X3_takeSlash
      rw [b1, n1']
      cases b
      · exact ⟨fun _ => go _ (nI_iI n), fun y => absurd rfl y⟩
      · exact ⟨fun y => absurd y (by first | decide | simp), fun _ => go _ (by rw [nI_iI, iI_neg]; rfl)⟩
  · have := st 9 (by omega) z
    subst this
    have e : tk x.toInt (9, n, f, t, d, b) = beg x.toInt 1 10 (9, n, f, t, d, b) := rfl
    obtain ⟨f1, f2⟩ := hf (by first | decide | simp)
    obtain ⟨t1, t2⟩ := ht (by first | decide | simp)
    have d1 := hd (by first | decide | simp)
    rw [beg] at e
    exact s_begin (least := 1) (nx := 10) (by omega) (fun g w' f' o' e4 e0 => ⟨Or.inr rfl, k1 (10, (x.toInt - 48).toNat, f, t, d, b) (by rw [e]; exact if_pos g) w' f' ⟨e4, by show 10 ≤ 10; omega, fun _ => ⟨e0, by have := dg_e g.1; show (x.toInt - 48).toNat < 100000; omega⟩, fun _ => ⟨(o' 1 (by omega) (by omega)).trans f1, f2⟩, fun _ => ⟨(o' 2 (by omega) (by omega)).trans t1, t2⟩, fun _ y => absurd y (by first | decide | simp), fun _ => (o' 3 (by omega) (by omega)).trans d1⟩⟩) (fun g => ⟨Or.inl rfl, k0 (by rw [e]; exact if_neg g) w fm.rf⟩)
  · have ha : a = 10 := by
      have q : ∀ i, i < 10 → a ≠ i → True := fun _ _ _ => trivial
      rcases Nat.lt_or_ge a 10 with y | y
      · exfalso
        rcases (show a = 0 ∨ a = 1 ∨ a = 2 ∨ a = 3 ∨ a = 4 ∨ a = 5 ∨ a = 6 ∨ a = 7 ∨ a = 8 ∨ a = 9 by omega) with r | r | r | r | r | r | r | r | r | r <;> rw [r] at h4'
        · exact z0 h4'
        · exact z1 h4'
        · exact z2 h4'
        · exact z3 h4'
        · exact z4 h4'
        · exact z5 h4'
        · exact z6 h4'
        · exact z7 h4'
        · exact z8 h4'
        · exact z9 h4'
      · omega
    subst ha
    have e : tk x.toInt (10, n, f, t, d, b) = if x.toInt = 59 then some (0, n, f, t, d, b) else gon x.toInt 99 (10, n, f, t, d, b) := rfl
    obtain ⟨n1, n2⟩ := hn (Or.inr (Or.inr rfl))
    obtain ⟨f1, f2⟩ := hf (by first | decide | simp)
    obtain ⟨t1, t2⟩ := ht (by first | decide | simp)
    have d1 := hd (by first | decide | simp)
    refine ⟨fun c => ?_, fun c => ?_⟩
    · rw [if_neg (fun y => c ((sg 59 59 rfl (by omega)).mpr y)), gon] at e
      exact s_goOn (n := n) (most := 99) n2 (by omega) n1 (fun g w' f' o' e0 => ⟨Or.inr rfl, k1 (10, (10 * (n : Int) + x.toInt - 48).toNat, f, t, d, b) (by rw [e]; exact if_pos g) w' f' ⟨(o' 4 (by omega)).trans h4', by show 10 ≤ 10; omega, fun _ => ⟨e0, by have := g.2.2; show (10 * (n : Int) + x.toInt - 48).toNat < 100000; omega⟩, fun _ => ⟨(o' 1 (by omega)).trans f1, f2⟩, fun _ => ⟨(o' 2 (by omega)).trans t1, t2⟩, fun _ y => absurd y (by first | decide | simp), fun _ => (o' 3 (by omega)).trans d1⟩⟩) (fun g => ⟨Or.inl rfl, k0 (by rw [e]; exact if_neg g) w fm.rf⟩)
    · rw [if_pos ((sg 59 59 rfl (by omega)).mp c)] at e
      exact come 0 _ e (fun w' o' e' => ⟨e', by show 0 ≤ 10; omega, fun y => absurd y (by first | decide | simp), fun y => absurd y (by first | decide | simp), fun y => absurd y (by first | decide | simp), fun y => absurd y (by first | decide | simp), fun y => absurd y (by first | decide | simp)⟩)
theorem rdR_0 {w : Wd} (h : wi w 0 31 4 = nI 0) : rdR w (0, 0, 0, 0, 0, false) :=
  ⟨h, by show 0 ≤ 10; omega, fun y => absurd y (by first | decide | simp), fun y => absurd y (by first | decide | simp), fun y => absurd y (by first | decide | simp), fun y => absurd y (by first | decide | simp), fun y => absurd y (by first | decide | simp)⟩
theorem s_readThrough {w : Wd} {T : Tx} {Q : Int32 → Wd → Prop} (ht : tX w T) (k : ∀ p s w', fm 0 31 31 w w' → rch T.2 p s → p ≤ T.1 → (p < T.1 → tk (T.2 p).toInt s = none) → (p = T.1 → rdR w' s) → Q (nI p) w') : wp_X8_readThrough w Q := by
  have t2 := ht.2.1
  unfold wp_X8_readThrough wp_X3_start
  intro w1 q1
  have f1 : fm 0 31 31 w w1 := by rw [q1]; exact fm.rf.sI (by omega) (by omega)
  unfold wp_X8_readThrough_L9
  refine lpIA (B := fun i v K => wp_X8_readThrough_B9 i v Q K) (fun j v => fm 0 31 31 w v ∧ ∃ s, rch T.2 j s ∧ rdR v s) T.1 0 (by omega) (Nat.zero_le _) ⟨f1, _, rfl, rdR_0 (by rw [q1, wi_sI, if_pos ⟨rfl, rfl, rfl⟩]; rfl)⟩ ?_ ?_
  · rintro j v K hj ⟨f, s, r1, r2⟩ hK
    have tv : tX v T := ht.fm f (by omega)
    unfold wp_X8_readThrough_B9
    rw [tv.1, n_le (by omega) (by omega), n_cl (by omega), tv.2.2 j hj, nI_1]
    refine ⟨fun z => absurd z (by omega), fun _ => ⟨n_in (by omega) (by omega), s_take r2 ⟨fun u eu w' f' ru => ⟨fun _ => hK w' ⟨f.tr f', u, ⟨s, r1, eu⟩, ru⟩, fun z => absurd z (by decide)⟩, fun eu w' f' => ⟨fun z => absurd rfl z, fun _ => k j s w' (f.tr f') r1 (by omega) (fun _ => eu) (fun z => absurd z (by omega))⟩⟩⟩⟩
  · rintro v K ⟨f, s, r1, r2⟩
    have tv : tX v T := ht.fm f (by omega)
    unfold wp_X8_readThrough_B9
    rw [tv.1]
    exact ⟨fun _ => k T.1 s v f r1 (Nat.le_refl _) (fun z => absurd z (by omega)) (fun _ => r2), fun z => absurd (Int32.le_refl _) z⟩
/-- a state behind an entry -/
def acc (s : RS) : Bool := decide (s.1 = 1 ∨ s.1 = 2 ∨ s.1 = 10)
theorem s_isAtMark {w : Wd} {s : RS} {Q : Int32 → Prop} (h : rdR w s) (k1 : s.1 = 1 ∨ s.1 = 2 → Q 1) (k0 : ¬ (s.1 = 1 ∨ s.1 = 2) → Q 0) : wp_X3_isAtMark w Q := by
  have h10 := h.2.1
  unfold wp_X3_isAtMark
  rw [h.1, show (1 : Int32) = nI 1 from rfl, show (2 : Int32) = nI 2 from rfl, n_eq (by omega) (by omega), n_eq (by omega) (by omega)]
  exact ⟨fun q => ⟨Or.inr rfl, k1 (Or.inl q)⟩, fun q => ⟨fun z => ⟨Or.inl rfl, k0 (by omega)⟩, fun z => ⟨Or.inr rfl, k1 (Or.inr z)⟩⟩⟩
theorem s_isAtEntryEnd {w : Wd} {s : RS} {Q : Int32 → Prop} (h : rdR w s) (k1 : acc s = true → Q 1) (k0 : acc s = false → Q 0) : wp_X3_isAtEntryEnd w Q := by
  have h10 := h.2.1
  unfold acc at k1 k0
  unfold wp_X3_isAtEntryEnd
  refine s_isAtMark h (fun c => ⟨fun _ => ⟨Or.inr rfl, k1 (decide_eq_true (by omega))⟩, fun z => absurd z (by decide)⟩) (fun c => ⟨fun z => absurd rfl z, fun _ => ?_⟩)
  rw [h.1, show (10 : Int32) = nI 10 from rfl, n_eq (by omega) (by omega)]
  exact ⟨fun z => ⟨Or.inl rfl, k0 (decide_eq_false (by omega))⟩, fun z => ⟨Or.inr rfl, k1 (decide_eq_true (by omega))⟩⟩
