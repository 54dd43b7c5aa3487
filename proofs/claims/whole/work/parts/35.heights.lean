/-! HEIGHTS -/
def rise (S : Sv) (m : Nat) : Int := sm (fun l => if tT S m l = true then (if dN S l = true then cd S l else - cd S l) else 0) (nL S)
def agr (S : Sv) (m o : Nat) : Bool := decide ((((kn S o - kn S m) - (rise S o - rise S m)).natAbs : Int) ≤ st S 2)
def agP (S : Sv) (m o : Nat) : Bool := !(o == m) && !(kn S o == -1) && (net S o == net S m) && agr S m o
def ag (S : Sv) (m : Nat) : Nat := ct (agP S m) (nM S)
/-- the base of the net t; -1: none -/
def bsK (S : Sv) (t : Nat) : Nat → Int
  | 0 => -1
  | k + 1 => if net S k = t ∧ kn S k ≠ -1 ∧ (bsK S t k < 0 ∨ ag S (bsK S t k).toNat < ag S k) then (k : Int) else bsK S t k
def bs (S : Sv) (m : Nat) : Int := bsK S (net S m) (nM S)
def hgt (S : Sv) (m : Nat) : Int := if bs S m < 0 then -1000000 else kn S (bs S m).toNat + rise S m - rise S (bs S m).toNat
/-- 0: it did not move, or nothing is to be told; 1: it sank; 2: it rose -/
def mvd (S : Sv) (m : Nat) : Int := if kn S m = -1 ∨ bs S m < 0 then 0 else if ((hgt S m - kn S m).natAbs : Int) ≤ st S 2 then 0 else if hgt S m < kn S m then 1 else 2
theorem rise_diff {S : Sv} (hS : wf S) (m o : Nat) : (rise S m - rise S o).natAbs ≤ 777389 := by
  have h1 := cd_bd hS
  unfold rise
  rw [← sm_sub]
  have h2 := sm_abs (fun l => (if tT S m l = true then (if dN S l = true then cd S l else - cd S l) else 0) - (if tT S o l = true then (if dN S l = true then cd S l else - cd S l) else 0)) (nL S)
  have h3 := sm_le (n := nL S) (f := fun l => (((if tT S m l = true then (if dN S l = true then cd S l else - cd S l) else 0) - (if tT S o l = true then (if dN S l = true then cd S l else - cd S l) else 0)).natAbs : Int)) (g := fun l => if tr S l = true then ((cd S l).natAbs : Int) else 0) (fun l _ => by
    cases h4 : tT S m l
    · cases h5 : tT S o l
      · simp; split <;> omega
      · rw [if_pos (tT_tr hS h5)]
        cases dN S l <;> simp
    · rw [if_pos (tT_tr hS h4)]
      cases h5 : tT S o l <;> cases dN S l <;> simp)
  omega
theorem rise_bd {S : Sv} (hS : wf S) (m : Nat) : (rise S m).natAbs ≤ 777389 := by
  have h1 := cd_bd hS
  unfold rise
  have h2 := sm_abs (fun l => if tT S m l = true then (if dN S l = true then cd S l else - cd S l) else 0) (nL S)
  have h3 := sm_le (n := nL S) (f := fun l => ((if tT S m l = true then (if dN S l = true then cd S l else - cd S l) else 0).natAbs : Int)) (g := fun l => if tr S l = true then ((cd S l).natAbs : Int) else 0) (fun l _ => by
    cases h4 : tT S m l
    · simp; split <;> omega
    · rw [if_pos (tT_tr hS h4)]
      cases dN S l <;> simp)
  omega
theorem bsK_spec {S : Sv} {t k : Nat} (h : ¬ bsK S t k < 0) : ∃ b : Nat, bsK S t k = (b : Int) ∧ b < k ∧ net S b = t ∧ kn S b ≠ -1 := by
  induction k with
  | zero => exact absurd (show (-1 : Int) < 0 by omega) h
  | succ k ih =>
    rw [bsK] at h ⊢
    split at h
    · rename_i q
      rw [if_pos q]
      exact ⟨k, rfl, by omega, q.1, q.2.1⟩
    · rename_i q
      rw [if_neg q]
      obtain ⟨b, h1, h2, h3, h4⟩ := ih h
      exact ⟨b, h1, by omega, h3, h4⟩
theorem bsK_bd (S : Sv) (t k : Nat) : -1 ≤ bsK S t k ∧ bsK S t k < k := by
  induction k with
  | zero => exact ⟨show (-1 : Int) ≤ -1 by omega, show (-1 : Int) < ((0 : Nat) : Int) by omega⟩
  | succ k ih => rw [bsK]; split <;> omega
theorem hgt_bd {S : Sv} (hS : wf S) {m : Nat} (h : ¬ bs S m < 0) : -777389 ≤ hgt S m ∧ hgt S m ≤ 877388 := by
  obtain ⟨b, h1, h2, h3, h4⟩ := bsK_spec h
  have h1' : bs S m = (b : Int) := h1
  unfold hgt
  rw [if_neg h, h1', Int.toNat_natCast]
  have h5 := rise_diff hS m b
  have h6 := hS.k h2
  omega
theorem hgt_bd' {S : Sv} (hS : wf S) (m : Nat) : -1000000 ≤ hgt S m ∧ hgt S m ≤ 877388 := by
  by_cases h : bs S m < 0
  · unfold hgt; rw [if_pos h]; omega
  · have := hgt_bd hS h; omega
theorem hgt_no {S : Sv} (hS : wf S) (m : Nat) : hgt S m = -1000000 ↔ bs S m < 0 := by
  constructor
  · intro h
    by_cases q : bs S m < 0
    · exact q
    · have := hgt_bd hS q; omega
  · intro h; unfold hgt; rw [if_pos h]
/-! what the cells hold -/
def fm (n lo hi : Nat) (w w' : Wd) : Prop := (∀ a b, ¬ (a = n ∧ lo ≤ b ∧ b ≤ hi) → w'.1 a b = w.1 a b) ∧ w'.2 = w.2
theorem fm.rf {n lo hi : Nat} {w : Wd} : fm n lo hi w w := ⟨fun _ _ _ => rfl, rfl⟩
theorem fm.wide {n lo hi lo' hi' : Nat} {w w' : Wd} (h : fm n lo hi w w') (h1 : lo' ≤ lo) (h2 : hi ≤ hi') : fm n lo' hi' w w' := ⟨fun a b q => h.1 a b (fun z => q ⟨z.1, by omega, by omega⟩), h.2⟩
theorem fm.tr {n lo hi : Nat} {w w' w'' : Wd} (h : fm n lo hi w w') (k : fm n lo hi w' w'') : fm n lo hi w w'' := ⟨fun a b q => (k.1 a b q).trans (h.1 a b q), k.2.trans h.2⟩
theorem fm.sA {n lo hi o : Nat} {w w' : Wd} {f : Nat → Int32} (h : fm n lo hi w w') (h1 : lo ≤ o) (h2 : o ≤ hi) : fm n lo hi w (sA w' n o f) := by
  refine ⟨fun a b q => ?_, h.2⟩
  show (if a = n ∧ b = o then f else w'.1 a b) = _
  rw [if_neg (fun z => q ⟨z.1, by omega, by omega⟩)]
  exact h.1 a b q
theorem fm.sI {n lo hi o k : Nat} {x : Int32} {w w' : Wd} (h : fm n lo hi w w') (h1 : lo ≤ o) (h2 : o ≤ hi) : fm n lo hi w (sI w' n o k x) := fm.sA h h1 h2
theorem fm.wi {n lo hi : Nat} {w w' : Wd} (h : fm n lo hi w w') {a b : Nat} (q : ¬ (a = n ∧ lo ≤ b ∧ b ≤ hi)) (k : Nat) : wi w' a b k = wi w a b k := congrFun (h.1 a b q) k
theorem fm.sv {n lo hi : Nat} {w w' : Wd} (h : fm n lo hi w w') (k : Nat) : sv w' k = sv w k := congrFun (congrArg (fun q => q.1) h.2) k
theorem fm.wl {n lo hi : Nat} {w w' : Wd} (h : fm n lo hi w w') (k : Nat) : wl w' k = wl w k := congrFun (congrArg (fun q => q.2) h.2) k
/-- a survey of the class holds S -/
def rS (n : Nat) (w : Wd) (S : Sv) : Prop := wi w n 0 0 = nI (nM S) ∧ wi w n 0 1 = nI (nL S) ∧ (∀ m, m < nM S → wi w n 1 m = iI (kn S m)) ∧ (∀ l, l < nL S → wi w n 2 l = nI (fr S l) ∧ wi w n 3 l = nI (tO S l) ∧ wi w n 4 l = iI (df S l) ∧ wi w n 5 l = nI (ln S l)) ∧ ∀ k, k < 3 → wi w n 6 k = iI (st S k)
theorem rS.fm {n m lo hi : Nat} {w w' : Wd} {S : Sv} (h : rS n w S) (k : fm m lo hi w w') (hlo : m ≠ n ∨ 7 ≤ lo) : rS n w' S := by
  have e : ∀ b, b < 7 → ∀ j, wi w' n b j = wi w n b j := fun b hb j => k.wi (by omega) j
  obtain ⟨h1, h2, h3, h4, h5⟩ := h
  refine ⟨by rw [e 0 (by omega)]; exact h1, by rw [e 0 (by omega)]; exact h2, fun m hm => by rw [e 1 (by omega)]; exact h3 m hm, fun l hl => ?_, fun j hj => by rw [e 6 (by omega)]; exact h5 j hj⟩
  obtain ⟨a, b, c, d⟩ := h4 l hl
  exact ⟨by rw [e 2 (by omega)]; exact a, by rw [e 3 (by omega)]; exact b, by rw [e 4 (by omega)]; exact c, by rw [e 5 (by omega)]; exact d⟩
/-- the tree of a study -/
def dT (n : Nat) (w : Wd) (S : Sv) : Prop := (∀ m, m < nM S → wi w n 9 m = nI (net S m)) ∧ (∀ m, m < nM S → bm (wi w n 10 m) (tT S m)) ∧ bm (wi w n 8 0) (tr S) ∧ bm (wi w n 8 1) (dN S)
theorem dT.fm {n m lo hi : Nat} {w w' : Wd} {S : Sv} (h : dT n w S) (k : fm m lo hi w w') (hlo : m ≠ n ∨ 12 ≤ lo ∨ hi < 8) : dT n w' S := by
  have e : ∀ b, 8 ≤ b → b < 11 → ∀ j, wi w' n b j = wi w n b j := fun b hb hb2 j => k.wi (by omega) j
  obtain ⟨h1, h2, h3, h4⟩ := h
  exact ⟨fun m hm => by rw [e 9 (by omega) (by omega)]; exact h1 m hm, fun m hm => by rw [e 10 (by omega) (by omega)]; exact h2 m hm, by rw [e 8 (by omega) (by omega)]; exact h3, by rw [e 8 (by omega) (by omega)]; exact h4⟩
def bdK (S : Sv) (k i : Nat) : Bool := decide (i < k) && bad S i
/-- the loops of a study: as they are closed -/
def dC (n : Nat) (w : Wd) (S : Sv) : Prop := wi w n 12 0 = nI (nlp S) ∧ bm (wi w n 12 4) (bdK S (nlp S)) ∧ ∀ k, k < nlp S → wi w n 14 k = nI (cl S k) ∧ bm (wi w n 15 k) (inL S k) ∧ wi w n 16 k = nI (lenL S k) ∧ bm (wi w n 17 k) (fw S k) ∧ wi w n 18 k = iI (miss S k)
theorem dC.fm {n m lo hi : Nat} {w w' : Wd} {S : Sv} (h : dC n w S) (k : fm m lo hi w w') (hlo : m ≠ n ∨ 19 ≤ lo ∨ hi < 12) : dC n w' S := by
  have e : ∀ b, 12 ≤ b → b < 19 → ∀ j, wi w' n b j = wi w n b j := fun b hb hb2 j => k.wi (by omega) j
  obtain ⟨h1, h2, h3⟩ := h
  refine ⟨by rw [e 12 (by omega) (by omega)]; exact h1, by rw [e 12 (by omega) (by omega)]; exact h2, fun j hj => ?_⟩
  obtain ⟨a, b, c, d, f⟩ := h3 j hj
  exact ⟨by rw [e 14 (by omega) (by omega)]; exact a, by rw [e 15 (by omega) (by omega)]; exact b, by rw [e 16 (by omega) (by omega)]; exact c, by rw [e 17 (by omega) (by omega)]; exact d, by rw [e 18 (by omega) (by omega)]; exact f⟩
/-- as they are spread -/
def dS (n : Nat) (w : Wd) (S : Sv) : Prop := (∀ l, l < nL S → wi w n 13 l = iI (cor S l)) ∧ ∀ k, k < nlp S → wi w n 19 k = iI (spM S k).natAbs
def dH (n : Nat) (w : Wd) (S : Sv) : Prop := (∀ m, m < nM S → wi w n 23 m = iI (rise S m) ∧ wi w n 24 m = (if kn S m = -1 then -1 else nI (ag S m))) ∧ ∀ t, t < nM S → wi w n 25 t = iI (bsK S t (nM S))
