/-! THE CLASS: firstError and book -/
def rsK (c : Nat → Int32) : Nat → Option RS
  | 0 => some (0, 0, 0, 0, 0, false)
  | p + 1 => (rsK c p).bind (fun s => tk (c p).toInt s)
theorem rch_rsK {c : Nat → Int32} {p : Nat} {s : RS} : rch c p s ↔ rsK c p = some s := by
  induction p generalizing s with
  | zero => exact ⟨fun h => by rw [show s = (0, 0, 0, 0, 0, false) from h]; rfl, fun h => (Option.some.inj h).symm⟩
  | succ p ih =>
    constructor
    · rintro ⟨t, t1, t2⟩
      show (rsK c p).bind _ = _
      rw [ih.mp t1]; exact t2
    · intro h
      have h' : (rsK c p).bind (fun s => tk (c p).toInt s) = some s := h
      cases q : rsK c p with
      | none => rw [q] at h'; cases h'
      | some t => rw [q] at h'; exact ⟨t, ih.mpr q, h'⟩
def fe (c : Nat → Int32) : Nat → Nat
  | 0 => 0
  | k + 1 => if (rsK c (k + 1)).isSome = true then k + 1 else fe c k
theorem rsK_none {c : Nat → Int32} {p : Nat} (h : rsK c p = none) (k : Nat) : rsK c (p + k) = none := by
  induction k with
  | zero => exact h
  | succ k ih =>
    show (rsK c (p + k)).bind _ = none
    rw [ih]; rfl
theorem fe_at {c : Nat → Int32} {p n : Nat} {s : RS} (h : rch c p s) (hp : p ≤ n) (hn : p < n → tk (c p).toInt s = none) : fe c n = p := by
  have hs := rch_rsK.mp h
  induction n with
  | zero => have : p = 0 := by omega
            rw [this]; rfl
  | succ n ih =>
    rw [fe]
    by_cases z : p = n + 1
    · rw [z] at hs
      rw [if_pos (by rw [hs]; rfl), z]
    · have hb : rsK c (p + 1) = none := by
        show (rsK c p).bind _ = none
        rw [hs]; exact hn (by omega)
      have hc := rsK_none hb (n - p)
      rw [show p + 1 + (n - p) = n + 1 by omega] at hc
      rw [if_neg (by rw [hc]; decide)]
      exact ih (by omega) (fun _ => hn (by omega))
def goodT (T : Tx) : Bool := match rsK T.2 T.1 with
  | some s => acc s
  | none => false
theorem goodT_s {T : Tx} {s : RS} (h : rch T.2 T.1 s) : goodT T = acc s := by
  unfold goodT; rw [rch_rsK.mp h]
theorem goodT_no {T : Tx} {p : Nat} {s : RS} (h : rch T.2 p s) (hp : p < T.1) (hn : tk (T.2 p).toInt s = none) : goodT T = false := by
  have hb : rsK T.2 (p + 1) = none := by
    show (rsK T.2 p).bind _ = none
    rw [rch_rsK.mp h]; exact hn
  have hc := rsK_none hb (T.1 - p - 1)
  rw [show p + 1 + (T.1 - p - 1) = T.1 by omega] at hc
  unfold goodT; rw [hc]
theorem goodT_e {T : Tx} (h : goodT T = true) : ∃ s, rch T.2 T.1 s ∧ acc s = true := by
  unfold goodT at h
  cases q : rsK T.2 T.1 with
  | none => rw [q] at h; cases h
  | some s => rw [q] at h; exact ⟨s, rch_rsK.mpr q, h⟩
def pBook (T : Tx) : Nat := if goodT T = true then 0 else 1
/-- what the numbers of a state can be -/
def invR (s : RS) : Prop := s.1 ≤ 10 ∧ (s.1 = 2 → s.2.1 ≤ 99999) ∧ (s.1 = 8 → s.2.1 ≤ 9999) ∧ (9 ≤ s.1 → -9999 ≤ s.2.2.2.2.1 ∧ s.2.2.2.2.1 ≤ 9999) ∧ (s.1 = 10 → 1 ≤ s.2.1 ∧ s.2.1 ≤ 99) ∧ (3 ≤ s.1 → s.2.2.1 < 10) ∧ (5 ≤ s.1 → s.2.2.2.1 < 10)
theorem dg_b {c : Int} (h : dg c = true) : 48 ≤ c ∧ c ≤ 57 := of_decide_eq_true h
theorem tk_inv {c : Int} {s u : RS} (h : invR s) (e : tk c s = some u) : invR u := by
  obtain ⟨a, n, f, t, d, b⟩ := s
  obtain ⟨h0, h2, h8, h9, h10, h3, h5⟩ := h
  have ha : a = 0 ∨ a = 1 ∨ a = 2 ∨ a = 3 ∨ a = 4 ∨ a = 5 ∨ a = 6 ∨ a = 7 ∨ a = 8 ∨ a = 9 ∨ a = 10 := by
    have : a ≤ 10 := h0
    omega
  rcases ha with rfl | rfl | rfl | rfl | rfl | rfl | rfl | rfl | rfl | rfl | rfl
  · have e' : (if c = 109 then some (1, n, f, t, d, b) else if dg c = true then some (3, n, (c - 48).toNat, t, d, b) else none) = some u := e
    by_cases c1 : c = 109
    · rw [if_pos c1] at e'
      cases e'
      exact ⟨by simp, by simp, by simp, by simp, by simp, by simp, by simp⟩
    · rw [if_neg c1] at e'
      by_cases c2 : dg c = true
      · rw [if_pos c2] at e'
        cases e'
        have := dg_b c2
        exact ⟨by simp, by simp, by simp, by simp, by simp, fun _ => by show (c - 48).toNat < 10; omega, by simp⟩
      · rw [if_neg c2] at e'; cases e'
  · have e' : (if c = 59 then some (0, n, f, t, d, b) else beg c 0 2 (1, n, f, t, d, b)) = some u := e
    by_cases c1 : c = 59
    · rw [if_pos c1] at e'
      cases e'
      exact ⟨by simp, by simp, by simp, by simp, by simp, by simp, by simp⟩
    · rw [if_neg c1, beg] at e'
      by_cases c2 : dg c = true ∧ (0 : Int) ≤ c - 48
      · rw [if_pos c2] at e'
        cases e'
        have := dg_b c2.1
        exact ⟨by simp, fun _ => by show (c - 48).toNat ≤ 99999; omega, by simp, by simp, by simp, by simp, by simp⟩
      · rw [if_neg c2] at e'; cases e'
  · have e' : (if c = 59 then some (0, n, f, t, d, b) else gon c 99999 (2, n, f, t, d, b)) = some u := e
    by_cases c1 : c = 59
    · rw [if_pos c1] at e'
      cases e'
      exact ⟨by simp, by simp, by simp, by simp, by simp, by simp, by simp⟩
    · rw [if_neg c1, gon] at e'
      by_cases c2 : dg c = true ∧ n ≠ 0 ∧ 10 * (n : Int) + c - 48 ≤ 99999
      · rw [if_pos c2] at e'
        cases e'
        have := dg_b c2.1
        have := c2.2.2
        exact ⟨by simp, fun _ => by show (10 * (n : Int) + c - 48).toNat ≤ 99999; omega, by simp, by simp, by simp, by simp, by simp⟩
      · rw [if_neg c2] at e'; cases e'
  · have e' : (if c = 45 then some (4, n, f, t, d, b) else none) = some u := e
    have f3 : f < 10 := h3 (by simp)
    by_cases c1 : c = 45
    · rw [if_pos c1] at e'
      cases e'
      exact ⟨by simp, by simp, by simp, by simp, by simp, fun _ => f3, by simp⟩
    · rw [if_neg c1] at e'; cases e'
  · have e' : (if dg c = true then some (5, n, f, (c - 48).toNat, d, b) else none) = some u := e
    have f3 : f < 10 := h3 (by simp)
    by_cases c1 : dg c = true
    · rw [if_pos c1] at e'
      cases e'
      have := dg_b c1
      exact ⟨by simp, by simp, by simp, by simp, by simp, fun _ => f3, fun _ => by show (c - 48).toNat < 10; omega⟩
    · rw [if_neg c1] at e'; cases e'
  · have e' : (if c = 58 then some (6, n, f, t, d, false) else none) = some u := e
    have f3 : f < 10 := h3 (by simp)
    have t5 : t < 10 := h5 (by simp)
    by_cases c1 : c = 58
    · rw [if_pos c1] at e'
      cases e'
      exact ⟨by simp, by simp, by simp, by simp, by simp, fun _ => f3, fun _ => t5⟩
    · rw [if_neg c1] at e'; cases e'
  · have e' : (if c = 45 then some (7, n, f, t, d, true) else beg c 0 8 (6, n, f, t, d, b)) = some u := e
    have f3 : f < 10 := h3 (by simp)
    have t5 : t < 10 := h5 (by simp)
    by_cases c1 : c = 45
    · rw [if_pos c1] at e'
      cases e'
      exact ⟨by simp, by simp, by simp, by simp, by simp, fun _ => f3, fun _ => t5⟩
    · rw [if_neg c1, beg] at e'
      by_cases c2 : dg c = true ∧ (0 : Int) ≤ c - 48
      · rw [if_pos c2] at e'
        cases e'
        have := dg_b c2.1
        exact ⟨by simp, by simp, fun _ => by show (c - 48).toNat ≤ 9999; omega, by simp, by simp, fun _ => f3, fun _ => t5⟩
      · rw [if_neg c2] at e'; cases e'
  · have e' : beg c 0 8 (7, n, f, t, d, b) = some u := e
    have f3 : f < 10 := h3 (by simp)
    have t5 : t < 10 := h5 (by simp)
    rw [beg] at e'
    by_cases c2 : dg c = true ∧ (0 : Int) ≤ c - 48
    · rw [if_pos c2] at e'
      cases e'
      have := dg_b c2.1
      exact ⟨by simp, by simp, fun _ => by show (c - 48).toNat ≤ 9999; omega, by simp, by simp, fun _ => f3, fun _ => t5⟩
    · rw [if_neg c2] at e'; cases e'
  · have e' : (if c = 47 then some (9, n, f, t, (if b = true then -(n : Int) else n), b) else gon c 9999 (8, n, f, t, d, b)) = some u := e
    have f3 : f < 10 := h3 (by simp)
    have t5 : t < 10 := h5 (by simp)
    have n8 : n ≤ 9999 := h8 rfl
    by_cases c1 : c = 47
    · rw [if_pos c1] at e'
      cases e'
      refine ⟨by simp, by simp, by simp, fun _ => ?_, by simp, fun _ => f3, fun _ => t5⟩
      show -9999 ≤ (if b = true then -(n : Int) else n) ∧ (if b = true then -(n : Int) else n) ≤ 9999
      split <;> omega
    · rw [if_neg c1, gon] at e'
      by_cases c2 : dg c = true ∧ n ≠ 0 ∧ 10 * (n : Int) + c - 48 ≤ 9999
      · rw [if_pos c2] at e'
        cases e'
        have := c2.2.2
        exact ⟨by simp, by simp, fun _ => by show (10 * (n : Int) + c - 48).toNat ≤ 9999; omega, by simp, by simp, fun _ => f3, fun _ => t5⟩
      · rw [if_neg c2] at e'; cases e'
  · have e' : beg c 1 10 (9, n, f, t, d, b) = some u := e
    have f3 : f < 10 := h3 (by simp)
    have t5 : t < 10 := h5 (by simp)
    have d9 : -9999 ≤ d ∧ d ≤ 9999 := h9 (by simp)
    rw [beg] at e'
    by_cases c2 : dg c = true ∧ (1 : Int) ≤ c - 48
    · rw [if_pos c2] at e'
      cases e'
      have := dg_b c2.1
      exact ⟨by simp, by simp, by simp, fun _ => d9, fun _ => by show 1 ≤ (c - 48).toNat ∧ (c - 48).toNat ≤ 99; omega, fun _ => f3, fun _ => t5⟩
    · rw [if_neg c2] at e'; cases e'
  · have e' : (if c = 59 then some (0, n, f, t, d, b) else gon c 99 (10, n, f, t, d, b)) = some u := e
    have f3 : f < 10 := h3 (by simp)
    have t5 : t < 10 := h5 (by simp)
    have d9 : -9999 ≤ d ∧ d ≤ 9999 := h9 (by simp)
    have n10 : 1 ≤ n ∧ n ≤ 99 := h10 rfl
    by_cases c1 : c = 59
    · rw [if_pos c1] at e'
      cases e'
      exact ⟨by simp, by simp, by simp, by simp, by simp, by simp, by simp⟩
    · rw [if_neg c1, gon] at e'
      by_cases c2 : dg c = true ∧ n ≠ 0 ∧ 10 * (n : Int) + c - 48 ≤ 99
      · rw [if_pos c2] at e'
        cases e'
        have := dg_b c2.1
        have := c2.2.2
        exact ⟨by simp, by simp, by simp, fun _ => d9, fun _ => by show 1 ≤ (10 * (n : Int) + c - 48).toNat ∧ (10 * (n : Int) + c - 48).toNat ≤ 99; omega, fun _ => f3, fun _ => t5⟩
      · rw [if_neg c2] at e'; cases e'
theorem rch_inv {c : Nat → Int32} {p : Nat} {s : RS} (h : rch c p s) : invR s := by
  induction p generalizing s with
  | zero =>
    rw [show s = (0, 0, 0, 0, 0, false) from h]
    exact ⟨by simp, by simp, by simp, by simp, by simp, by simp, by simp⟩
  | succ p ih =>
    obtain ⟨t, t1, t2⟩ := h
    exact tk_inv (ih t1) t2
/-- only an entry's end takes a ';' -/
theorem tk_59 {s u : RS} (h : invR s) (e : tk 59 s = some u) : acc s = true := by
  obtain ⟨a, n, f, t, d, b⟩ := s
  have ha : a = 0 ∨ a = 1 ∨ a = 2 ∨ a = 3 ∨ a = 4 ∨ a = 5 ∨ a = 6 ∨ a = 7 ∨ a = 8 ∨ a = 9 ∨ a = 10 := by
    have : a ≤ 10 := h.1
    omega
  rcases ha with rfl | rfl | rfl | rfl | rfl | rfl | rfl | rfl | rfl | rfl | rfl
  · cases e
  · rfl
  · rfl
  · cases e
  · cases e
  · cases e
  · cases e
  · cases e
  · have e' : gon 59 9999 (8, n, f, t, d, b) = some u := e
    rw [gon, if_neg (fun z => absurd z.1 (by decide))] at e'
    cases e'
  · cases e
  · rfl
/-- an entry that is done -/
def entD (S : Sv) (s : RS) : Option Sv :=
  if s.1 = 1 then (if nM S < 10 then some (addM S (-1)) else none)
  else if s.1 = 2 then (if nM S < 10 then some (addM S s.2.1) else none)
  else if s.2.2.1 < nM S ∧ s.2.2.2.1 < nM S ∧ s.2.2.1 ≠ s.2.2.2.1 ∧ nL S < 20 then some (addL S s.2.2.1 s.2.2.2.1 s.2.2.2.2.1 s.2.1) else none
theorem entD_wf {S S' : Sv} {s : RS} (hS : wf S) (h : invR s) (ha : acc s = true) (e : entD S s = some S') : wf S' := by
  unfold entD at e
  have ha' := of_decide_eq_true ha
  by_cases c1 : s.1 = 1
  · rw [if_pos c1] at e
    by_cases c2 : nM S < 10
    · rw [if_pos c2] at e; cases e; exact wf_addM hS ⟨by omega, by omega⟩ c2
    · rw [if_neg c2] at e; cases e
  · rw [if_neg c1] at e
    by_cases c3 : s.1 = 2
    · rw [if_pos c3] at e
      have := h.2.1 c3
      by_cases c2 : nM S < 10
      · rw [if_pos c2] at e; cases e; exact wf_addM hS ⟨by omega, by omega⟩ c2
      · rw [if_neg c2] at e; cases e
    · rw [if_neg c3] at e
      have c10 : s.1 = 10 := by omega
      by_cases c2 : s.2.2.1 < nM S ∧ s.2.2.2.1 < nM S ∧ s.2.2.1 ≠ s.2.2.2.1 ∧ nL S < 20
      · rw [if_pos c2] at e
        cases e
        exact wf_addL hS c2.2.2.2 c2.1 c2.2.1 c2.2.2.1 (h.2.2.2.1 (by omega)) (h.2.2.2.2.1 c10)
      · rw [if_neg c2] at e; cases e
/-- the entries done up to a place: the survey, how many, whether one was not done -/
def bnd (T : Tx) (q : Nat) : Bool := decide (q = T.1 ∨ (q < T.1 ∧ T.2 q = 59))
def bkS (S : Sv) (n : Nat) (s : RS) : Sv × Nat × Bool := match entD S s with
  | some S' => (S', n + 1, false)
  | none => (S, n, true)
def bk (T : Tx) (S : Sv) : Nat → Sv × Nat × Bool
  | 0 => (S, 0, false)
  | q + 1 => if (bk T S q).2.2 = true ∨ bnd T (q + 1) = false then bk T S q else bkS (bk T S q).1 (bk T S q).2.1 ((rsK T.2 (q + 1)).getD (0, 0, 0, 0, 0, false))
theorem bk_stop {T : Tx} {S : Sv} {p : Nat} (h : (bk T S p).2.2 = true) (k : Nat) : bk T S (p + k) = bk T S p := by
  induction k with
  | zero => rfl
  | succ k ih =>
    show bk T S (p + k + 1) = _
    rw [bk, if_pos (Or.inl (by rw [ih]; exact h)), ih]
theorem bk_skip {T : Tx} {S : Sv} {p : Nat} (h : bnd T (p + 1) = false) : bk T S (p + 1) = bk T S p := by
  rw [bk, if_pos (Or.inr h)]
theorem bk_do {T : Tx} {S : Sv} {p : Nat} {s : RS} (h : (bk T S p).2.2 = false) (hb : bnd T (p + 1) = true) (hr : rch T.2 (p + 1) s) : bk T S (p + 1) = bkS (bk T S p).1 (bk T S p).2.1 s := by
  rw [bk, if_neg (by rw [h, hb]; decide), rch_rsK.mp hr]; rfl
theorem rdR_fm {n lo hi : Nat} {w w' : Wd} {s : RS} (h : rdR w s) (k : fm n lo hi w w') (hh : n ≠ 0 ∨ hi < 31) : rdR w' s := by
  have e : ∀ j, wi w' 0 31 j = wi w 0 31 j := fun j => k.wi (by omega) j
  obtain ⟨a, b, c, d, f, g, i⟩ := h
  refine ⟨(e 4).trans a, b, fun z => ⟨(e 0).trans (c z).1, (c z).2⟩, fun z => ⟨(e 1).trans (d z).1, (d z).2⟩, fun z => ⟨(e 2).trans (f z).1, (f z).2⟩, fun z y => (e 5).trans (g z y), fun z => (e 3).trans (i z)⟩
theorem s_doEntry {w : Wd} {S : Sv} {s : RS} {Q : Int32 → Wd → Prop} (hS : wf S) (hr : rS 0 w S) (hd : rdR w s) (ha : acc s = true) (k1 : ∀ S', entD S s = some S' → ∀ w', fm 0 0 6 w w' → rS 0 w' S' → Q 1 w') (k0 : entD S s = none → Q 0 w) : wp_X8_doEntry w Q := by
  have hm' := hS.m
  have ha' := of_decide_eq_true ha
  obtain ⟨h4, h10, hn, hf, ht, hb, hdd⟩ := id hd
  unfold wp_X8_doEntry
  refine s_isAtMark hd (fun c => ⟨fun z => absurd z (by decide), fun _ => ?_⟩) (fun c => ⟨fun _ => ?_, fun z => absurd rfl z⟩)
  · unfold wp_X3_known
    rw [h4, show (2 : Int32) = nI 2 from rfl, n_eq (by omega) (by omega)]
    refine ⟨fun z => ?_, fun z => ?_⟩
    · have c1 : s.1 = 1 := by omega
      have e : entD S s = if nM S < 10 then some (addM S (-1)) else none := by unfold entD; rw [if_pos c1]
      refine s_putMark hS hr (k := -1) rfl (fun y w' f' r' => ⟨Or.inr rfl, k1 _ (by rw [e, if_pos y]) w' f' r'⟩) (fun y => ⟨Or.inl rfl, k0 (by rw [e, if_neg (by omega)])⟩)
    · have e : entD S s = if nM S < 10 then some (addM S s.2.1) else none := by unfold entD; rw [if_neg (by omega), if_pos z]
      have n0 := (hn (Or.inl z)).1
      refine s_putMark hS hr (k := (s.2.1 : Int)) (by rw [n0, nI_iI]) (fun y w' f' r' => ⟨Or.inr rfl, k1 _ (by rw [e, if_pos y]) w' f' r'⟩) (fun y => ⟨Or.inl rfl, k0 (by rw [e, if_neg (by omega)])⟩)
  · have c10 : s.1 = 10 := by omega
    have e : entD S s = if s.2.2.1 < nM S ∧ s.2.2.2.1 < nM S ∧ s.2.2.1 ≠ s.2.2.2.1 ∧ nL S < 20 then some (addL S s.2.2.1 s.2.2.2.1 s.2.2.2.2.1 s.2.1) else none := by
      unfold entD; rw [if_neg (by omega), if_neg (by omega)]
    obtain ⟨f1, f2⟩ := hf (by omega)
    obtain ⟨t1, t2⟩ := ht (by omega)
    obtain ⟨n1, n2⟩ := hn (Or.inr (Or.inr c10))
    have d1 := hdd (by omega)
    rw [f1, t1, n1, d1]
    refine s_hasMark hS hr (fun m hm em => ⟨fun z => absurd z (by decide), fun _ => ?_⟩) (fun o => ⟨fun _ => ⟨Or.inl rfl, k0 ?_⟩, fun z => absurd rfl z⟩)
    · have fm' : s.2.2.1 < nM S := by
        have := (n_eq (by omega) (by omega)).mp em
        omega
      refine s_hasMark hS hr (fun m2 hm2 em2 => ⟨fun z => absurd z (by decide), fun _ => ?_⟩) (fun o => ⟨fun _ => ⟨Or.inl rfl, k0 ?_⟩, fun z => absurd rfl z⟩)
      · have tm' : s.2.2.2.1 < nM S := by
          have := (n_eq (by omega) (by omega)).mp em2
          omega
        rw [n_eq (by omega) (by omega)]
        refine ⟨fun z => s_putLeg hS hr (fun y w' f' r' => ⟨Or.inr rfl, k1 _ (by rw [e, if_pos ⟨fm', tm', z, y⟩]) w' f' r'⟩) (fun y => ⟨Or.inl rfl, k0 (by rw [e, if_neg (by omega)])⟩), fun z => ⟨Or.inl rfl, k0 (by rw [e, if_neg (fun y => y.2.2.1 z)])⟩⟩
      · rw [e, if_neg (fun y => ou_no y.2.1 (by omega) o)]
    · rw [e, if_neg (fun y => ou_no y.1 (by omega) o)]
theorem s_doEntries {w : Wd} {S : Sv} {T : Tx} {Q : Int32 → Wd → Prop} (hS : wf S) (hr : rS 0 w S) (ht : tX w T) (hg : goodT T = true) (k : ∀ w', (∀ a b, ¬ (a = 0 ∧ (b ≤ 6 ∨ b = 31)) → ∀ j, wi w' a b j = wi w a b j) → w'.2 = w.2 → wf (bk T S T.1).1 → rS 0 w' (bk T S T.1).1 → Q (nI (bk T S T.1).2.1) w') : wp_X8_doEntries w Q := by
  obtain ⟨se, se1, se2⟩ := goodT_e hg
  have t2 := ht.2.1
  have cnt : ∀ j, (bk T S j).2.1 ≤ j := fun j => by
    induction j with
    | zero => exact Nat.le_refl _
    | succ j ih =>
      rw [bk]
      split
      · omega
      · unfold bkS
        split
        · show (bk T S j).2.1 + 1 ≤ j + 1; omega
        · show (bk T S j).2.1 ≤ j + 1; omega
  unfold wp_X8_doEntries wp_X3_start
  intro w1 q1
  unfold wp_X8_doEntries_L11
  have G : ∀ j (v : Wd), ((∀ a b, ¬ (a = 0 ∧ (b ≤ 6 ∨ b = 31)) → ∀ j, wi v a b j = wi w a b j) ∧ v.2 = w.2) → wf (bk T S j).1 → rS 0 v (bk T S j).1 → bk T S T.1 = bk T S j → Q (nI (bk T S j).2.1) v := by
    intro j v hv hw hs e
    have := k v hv.1 hv.2 (by rw [e]; exact hw) (by rw [e]; exact hs)
    rw [e] at this
    exact this
  refine lpAIB (B := fun x i v K => wp_X8_doEntries_B11 x i v Q K) (fun j x v => ((∀ a b, ¬ (a = 0 ∧ (b ≤ 6 ∨ b = 31)) → ∀ j, wi v a b j = wi w a b j) ∧ v.2 = w.2) ∧ x = nI (bk T S j).2.1 ∧ (bk T S j).2.2 = false ∧ wf (bk T S j).1 ∧ rS 0 v (bk T S j).1 ∧ ∃ s, rch T.2 j s ∧ rdR v s) T.1 0 (by omega) (Nat.zero_le _) ⟨⟨fun a b z j => by rw [q1, wi_sI, if_neg (by omega)], by rw [q1]; rfl⟩, rfl, rfl, hS, ?_, _, rfl, rdR_0 (by rw [q1, wi_sI, if_pos ⟨rfl, rfl, rfl⟩]; rfl)⟩ ?_ ?_
  · exact hr.of (N := 7) (fun b hb j => by rw [q1, wi_sI, if_neg (by omega)]) (by omega)
  · rintro j x v K hj ⟨hv, rfl, nst, hw, hs, s, s1, s2⟩ hK
    have tv : tX v T := ⟨by rw [hv.1 0 29 (by omega)]; exact ht.1, t2, fun i hi => by rw [hv.1 0 30 (by omega)]; exact ht.2.2 i hi⟩
    obtain ⟨t, u, r1, r2⟩ := rch_pre se1 hj
    have ets := rch_det r1 s1
    rw [ets] at r2
    have ru : rch T.2 (j + 1) u := ⟨s, s1, r2⟩
    unfold wp_X8_doEntries_B11
    rw [tv.1, n_le (by omega) (by omega), n_cl (by omega), tv.2.2 j hj]
    refine ⟨fun z => absurd z (by omega), fun _ => ⟨n_in (by omega) (by omega), s_take s2 ⟨fun u' eu w' f' ru' => ?_, fun en => by rw [r2] at en; cases en⟩⟩⟩
    rw [r2] at eu
    cases eu
    have hv' : (∀ a b, ¬ (a = 0 ∧ (b ≤ 6 ∨ b = 31)) → ∀ j, wi w' a b j = wi w a b j) ∧ w'.2 = w.2 := ⟨fun a b z j => by rw [f'.wi (by omega)]; exact hv.1 a b z j, f'.2.trans hv.2⟩
    have hs' : rS 0 w' (bk T S j).1 := hs.fm f' (by omega)
    have tv' : tX w' T := tv.fm f' (by omega)
    have J : bnd T (j + 1) = true → acc u = true → wp_X8_doEntries_J68 (nI (bk T S j).2.1) (nI j) w' Q K := by
      intro hb hacc
      have e1 := bk_do (S := S) nst hb ru
      unfold wp_X8_doEntries_J68
      refine s_doEntry hw hs' ru' hacc (fun S' es w2 f2 r2' => ⟨fun _ => ?_, fun z => absurd z (by decide)⟩) (fun en => ⟨fun z => absurd rfl z, fun _ => ?_⟩)
      · have e2 : bk T S (j + 1) = (S', (bk T S j).2.1 + 1, false) := by rw [e1]; unfold bkS; rw [es]
        rw [nI_1, nI_1]
        refine hK _ w2 ⟨⟨fun a b z j => by rw [f2.wi (by omega)]; exact hv'.1 a b z j, f2.2.trans hv'.2⟩, by rw [e2], by rw [e2], ?_, ?_, u, ru, rdR_fm ru' f2 (by omega)⟩
        · rw [e2]; exact entD_wf hw (rch_inv ru) hacc es
        · rw [e2]; exact r2'
      · have e2 : bk T S (j + 1) = ((bk T S j).1, (bk T S j).2.1, true) := by rw [e1]; unfold bkS; rw [en]
        have e3 := bk_stop (T := T) (S := S) (p := j + 1) (by rw [e2]) (T.1 - (j + 1))
        rw [show j + 1 + (T.1 - (j + 1)) = T.1 by omega] at e3
        have := G (j + 1) w' hv' (by rw [e2]; exact hw) (by rw [e2]; exact hs') e3
        rw [e2] at this
        exact this
    rw [nI_1 j, tv'.1, n_eq (by omega) (by omega)]
    refine ⟨fun z => J (decide_eq_true (Or.inl z)) ?_, fun z => ?_⟩
    · rw [← z] at se1
      rw [rch_det ru se1]; exact se2
    · rw [n_cl (by omega), tv'.2.2 (j + 1) (by omega)]
      refine ⟨n_in (by omega) (by omega), fun y => ?_, fun y => J (decide_eq_true (Or.inr ⟨by omega, y⟩)) ?_⟩
      · have eb : bnd T (j + 1) = false := decide_eq_false (fun t => by
          rcases t with t | t
          · exact z t
          · exact y t.2)
        have e1 := bk_skip (S := S) eb
        exact hK _ w' ⟨hv', by rw [e1], by rw [e1]; exact nst, by rw [e1]; exact hw, by rw [e1]; exact hs', u, ru, ru'⟩
      · obtain ⟨t', u', p1, p2⟩ := rch_pre se1 (show j + 1 < T.1 by omega)
        rw [rch_det p1 ru, y] at p2
        exact tk_59 (rch_inv ru) p2
  · rintro x v K ⟨hv, rfl, nst, hw, hs, s, s1, s2⟩
    unfold wp_X8_doEntries_B11
    exact ⟨fun _ => G T.1 v hv hw hs rfl, fun z => absurd (by rw [hv.1 0 29 (by omega), ht.1]; exact Int32.le_refl _) z⟩
theorem okC_31 {w w' : Wd} {σ : Ss} (h : okC w σ) (f : fm 0 31 31 w w') : okC w' σ := ⟨h.1, h.2.1.fm f (Or.inr (by omega)), h.2.2.1.fm f (Or.inr ⟨rfl, by omega⟩), h.2.2.2.fm f (by omega)⟩
theorem c_firstError {w : Wd} {σ : Ss} {Q : Int32 → Wd → Prop} (h : okC w σ) (k0 : ∀ w', kC w w' → okC w' σ → Q (nI (fe σ.2.2.2 σ.2.2.1)) w') : wp_X8_firstError w Q := by
  unfold wp_X8_firstError
  refine s_readThrough h.2.2.2 (fun p s w' f r hp hn _ => ?_)
  have := k0 w' (f.kC (by omega)) (okC_31 h f)
  rw [fe_at r hp hn] at this
  exact this
theorem c_book {w : Wd} {σ : Ss} {Q : Int32 → Wd → Prop} {X : String → Wd → Prop} (h : okC w σ) (k0 : pBook σ.2.2 = 0 → ∀ w', kC w w' → okC w' ((bk σ.2.2 σ.1 σ.2.2.1).1, psh σ.2.1 σ.1, (0, σ.2.2.2)) → Q (nI (bk σ.2.2 σ.1 σ.2.2.1).2.1) w') (k1 : pBook σ.2.2 = 1 → ∀ w', kC w w' → okC w' σ → X IAE w') : wp_X8_book w Q X := by
  have t2 := h.2.2.2.2.1
  unfold wp_X8_book
  refine s_readThrough h.2.2.2 (fun p s w1 f1 r hp hn hd => ?_)
  have g1 := okC_31 h f1
  have q1 := f1.kC (by omega)
  unfold wp_X8_book_J24
  rw [g1.2.2.2.1, n_lt (by omega) (by omega)]
  refine ⟨fun z => k1 ?_ w1 q1 g1, fun z => ?_⟩
  · unfold pBook
    rw [if_neg (by rw [goodT_no r z (hn z)]; decide)]
  · have ep : p = σ.2.2.1 := by omega
    subst ep
    have eg := goodT_s r
    refine s_isAtEntryEnd (hd rfl) (fun c => ⟨fun _ => ?_, fun y => absurd y (by decide)⟩) (fun c => ⟨fun y => absurd rfl y, fun _ => k1 ?_ w1 q1 g1⟩)
    · rw [c] at eg
      have e0 : pBook σ.2.2 = 0 := by unfold pBook; rw [if_pos eg]
      refine s_save g1.1 g1.2.1.1 g1.2.2.1 (fun w2 f2 h2 => ?_)
      have tx2 : tX w2 σ.2.2 := ⟨by rw [f2.1 0 29 (by omega) (by omega)]; exact g1.2.2.2.1, t2, fun i hi => by rw [f2.1 0 30 (by omega) (by omega)]; exact g1.2.2.2.2.2 i hi⟩
      refine s_doEntries g1.1 (g1.2.1.1.fh f2) tx2 eg (fun w3 f3 p3 hw hs w4 q4 => ?_)
      have hs4 : rS 0 w4 (bk σ.2.2 σ.1 σ.2.2.1).1 := hs.of (N := 7) (fun b hb j => by rw [q4, wi_sI, if_neg (by omega)]) (by omega)
      have h4 : hsT w4 (psh σ.2.1 σ.1) := h2.of (fun a b ha j => by rw [q4, wi_sI, if_neg (by omega)]; exact f3 a b (by omega) j) (by rw [q4, wi_sI, if_neg (by omega)]; exact f3 0 27 (by omega) 0) (fun i => by rw [q4, sv_sI]; exact congrFun (congrArg (fun q => q.1) p3) i)
      refine s_renew hw hs4 (fun w5 f5 d5 => k0 e0 w5 ?_ ⟨hw, d5, h4.fm f5 (Or.inr ⟨rfl, by omega⟩), ?_⟩)
      · refine ((q1.tr f2.kC).tr ?_).tr (f5.kC (by omega))
        refine ⟨fun b hb j => by rw [q4, wi_sI, if_neg (by omega)]; exact f3 0 b (by omega) j, fun j => ?_⟩
        rw [q4, wl_sI]
        exact congrFun (congrArg (fun q => q.2) p3) j
      · refine tX.fm ⟨?_, by show 0 ≤ 60; omega, fun i hi => absurd hi (Nat.not_lt_zero _)⟩ f5 (by omega)
        rw [q4, wi_sI, if_pos ⟨rfl, rfl, rfl⟩]; rfl
    · rw [c] at eg
      unfold pBook
      rw [if_neg (by rw [eg]; decide)]
