/-! LOOPS: the legs that close them, their legs, the way that each is gone along -/
def clL (S : Sv) : Nat → List Nat
  | 0 => []
  | k + 1 => if tr S k = true then clL S k else clL S k ++ [k]
def nlp (S : Sv) : Nat := (clL S (nL S)).length
def cl (S : Sv) (k : Nat) : Nat := (clL S (nL S)).getD k 0
theorem clL_pre {S : Sv} {i j : Nat} (h : i ≤ j) : ∃ t, clL S j = clL S i ++ t := by
  induction j with
  | zero => exact ⟨[], by rw [show i = 0 by omega]; rfl⟩
  | succ j ih =>
    by_cases q : i = j + 1
    · exact ⟨[], by rw [q, List.append_nil]⟩
    · obtain ⟨t, ht⟩ := ih (by omega)
      rw [clL]
      split
      · exact ⟨t, ht⟩
      · exact ⟨t ++ [j], by rw [ht, List.append_assoc]⟩
theorem clL_len {S : Sv} (k : Nat) : (clL S k).length ≤ k := by
  induction k with
  | zero => exact Nat.le_refl _
  | succ k ih =>
    rw [clL]
    split
    · omega
    · rw [List.length_append]; simp; omega
theorem cl_pre {S : Sv} {i j : Nat} (hi : i ≤ nL S) (hj : j < (clL S i).length) : (clL S i).getD j 0 = cl S j := by
  obtain ⟨t, ht⟩ := clL_pre (S := S) hi
  unfold cl
  rw [ht]
  simp [List.getD, List.getElem?_append_left hj]
theorem cl_at {S : Sv} {i : Nat} (hi : i < nL S) (ht : tr S i = false) : cl S (clL S i).length = i := by
  have h1 : (clL S (i + 1)) = clL S i ++ [i] := by rw [clL, if_neg (by simp [ht])]
  rw [← cl_pre (S := S) (i := i + 1) (j := (clL S i).length) (by omega) (by rw [h1]; simp), h1]
  simp [List.getD]
theorem clL_mem {S : Sv} {i l : Nat} : l ∈ clL S i ↔ l < i ∧ tr S l = false := by
  induction i with
  | zero => simp [clL]
  | succ i ih =>
    rw [clL]
    split
    · rename_i h
      rw [ih]
      constructor
      · intro q; exact ⟨by omega, q.2⟩
      · intro q
        refine ⟨?_, q.2⟩
        rcases Nat.lt_or_ge l i with z | z
        · exact z
        · have : l = i := by omega
          rw [this, h] at q; cases q.2
    · rename_i h
      simp only [List.mem_append, ih, List.mem_cons, List.not_mem_nil, or_false]
      constructor
      · rintro (q | rfl)
        · exact ⟨by omega, q.2⟩
        · exact ⟨by omega, by simpa using h⟩
      · intro q
        by_cases z : l = i
        · exact Or.inr z
        · exact Or.inl ⟨by omega, q.2⟩
theorem cl_get {S : Sv} {k : Nat} (h : k < nlp S) : (clL S (nL S))[k]? = some (cl S k) := by
  have : k < (clL S (nL S)).length := h
  simp [cl, List.getD, this]
theorem cl_lt {S : Sv} {k : Nat} (h : k < nlp S) : cl S k < nL S ∧ tr S (cl S k) = false := clL_mem.mp (List.mem_of_getElem? (cl_get h))
theorem clL_sorted {S : Sv} (i : Nat) : (clL S i).Pairwise (· < ·) := by
  induction i with
  | zero => exact List.Pairwise.nil
  | succ i ih =>
    rw [clL]
    split
    · exact ih
    · refine List.pairwise_append.mpr ⟨ih, List.pairwise_singleton _ _, fun a ha b hb => ?_⟩
      simp only [List.mem_cons, List.not_mem_nil, or_false] at hb
      subst hb
      exact (clL_mem.mp ha).1
theorem cl_mono {S : Sv} {i j : Nat} (h : i < j) (hj : j < nlp S) : cl S i < cl S j := by
  have hj' : j < (clL S (nL S)).length := hj
  have hi' : i < (clL S (nL S)).length := Nat.lt_trans h hj'
  have h1 := List.pairwise_iff_getElem.mp (clL_sorted (S := S) (nL S)) i j hi' hj' h
  have e1 := cl_get (S := S) (k := i) hi'
  have e2 := cl_get (S := S) (k := j) hj'
  rw [List.getElem?_eq_getElem hi'] at e1
  rw [List.getElem?_eq_getElem hj'] at e2
  rw [Option.some.inj e1, Option.some.inj e2] at h1
  exact h1
theorem cl_inj {S : Sv} {i j : Nat} (hi : i < nlp S) (hj : j < nlp S) (h : cl S i = cl S j) : i = j := by
  rcases Nat.lt_trichotomy i j with q | q | q
  · have := cl_mono q hj; omega
  · exact q
  · have := cl_mono q hi; omega
theorem nlp_le {S : Sv} : nlp S ≤ nL S := clL_len _
/-- the legs of a loop; how each is gone along -/
def inL (S : Sv) (k l : Nat) : Bool := l == cl S k || (tT S (fr S (cl S k)) l ^^ tT S (tO S (cl S k)) l)
def fw (S : Sv) (k l : Nat) : Bool := l == cl S k || ((tT S (fr S (cl S k)) l && !tT S (tO S (cl S k)) l && dN S l) || (tT S (tO S (cl S k)) l && !tT S (fr S (cl S k)) l && !dN S l))
def b01 (b : Bool) : Int := if b then 1 else 0
def sg0 (S : Sv) (l : Nat) : Int := if dN S l then -1 else 1
def sg (S : Sv) (k l : Nat) : Int := if l = cl S k then 1 else sg0 S l * (b01 (tT S (tO S (cl S k)) l) - b01 (tT S (fr S (cl S k)) l))
theorem sg_eq (S : Sv) (k l : Nat) : sg S k l = if inL S k l = true then (if fw S k l = true then 1 else -1) else 0 := by
  unfold sg inL fw sg0 b01
  by_cases h : l = cl S k
  · simp [h]
  · have h' : (l == cl S k) = false := by simpa using h
    rw [if_neg h, h']
    cases tT S (fr S (cl S k)) l <;> cases tT S (tO S (cl S k)) l <;> cases dN S l <;> simp
theorem sg_in {S : Sv} {k l : Nat} : (sg S k l = 0) ↔ inL S k l = false := by
  rw [sg_eq]
  cases inL S k l <;> cases fw S k l <;> simp
theorem sg_abs {S : Sv} {k l : Nat} : ((sg S k l).natAbs : Int) = b01 (inL S k l) := by
  rw [sg_eq]
  cases inL S k l <;> cases fw S k l <;> simp [b01]
theorem sg_bd {S : Sv} (k l : Nat) : -1 ≤ sg S k l ∧ sg S k l ≤ 1 := by
  rw [sg_eq]
  cases inL S k l <;> cases fw S k l <;> simp
theorem fw_in {S : Sv} {k l : Nat} (h : fw S k l = true) : inL S k l = true := by
  unfold fw inL at *
  cases hl : (l == cl S k) <;> rw [hl] at h <;> cases h1 : tT S (fr S (cl S k)) l <;> cases h2 : tT S (tO S (cl S k)) l <;> rw [h1, h2] at h <;> simp at h ⊢
/-- besides the leg that closes it a loop has legs of the tree -/
theorem inL_tr {S : Sv} (hS : wf S) {k l : Nat} (h : inL S k l = true) (hn : l ≠ cl S k) : tr S l = true := by
  have h' : (l == cl S k) = false := by simpa using hn
  unfold inL at h
  rw [h', Bool.false_or] at h
  cases h1 : tT S (fr S (cl S k)) l
  · cases h2 : tT S (tO S (cl S k)) l
    · rw [h1, h2] at h; cases h
    · exact tT_tr hS h2
  · exact tT_tr hS h1
theorem inL_cl {S : Sv} (k : Nat) : inL S k (cl S k) = true := by simp [inL]
theorem inL_lt {S : Sv} (hS : wf S) {k l : Nat} (hk : k < nlp S) (h : inL S k l = true) : l < nL S := by
  by_cases q : l = cl S k
  · rw [q]; exact (cl_lt hk).1
  · exact tr_lt (inL_tr hS h q)
theorem inL_ln {S : Sv} (hS : wf S) {k l : Nat} (hk : k < nlp S) (h : inL S k l = true) : ln S l ≤ ln S (cl S k) := by
  by_cases q : l = cl S k
  · rw [q]; exact Nat.le_refl _
  · obtain ⟨h1, h2⟩ := cl_lt hk
    refine mst hS h1 h2 ?_
    have h' : (l == cl S k) = false := by simpa using q
    unfold inL at h
    rw [h', Bool.false_or] at h
    intro z
    rw [z, Bool.xor_self] at h
    cases h
/-- a leg that closes a loop is in no other one -/
theorem inL_other {S : Sv} (hS : wf S) {j k : Nat} (hj : j < nlp S) (hk : k < nlp S) (h : inL S j (cl S k) = true) : j = k := by
  by_cases q : cl S k = cl S j
  · exact (cl_inj hk hj q).symm
  · have := inL_tr hS h q
    rw [(cl_lt hk).2] at this
    cases this
/-! misses, lengths, what is allowed -/
def miss (S : Sv) (k : Nat) : Int := sm (fun l => sg S k l * df S l) (nL S)
def lenL (S : Sv) (k : Nat) : Nat := (sm (fun l => if inL S k l = true then (ln S l : Int) else 0) (nL S)).toNat
def alw (S : Sv) (k : Nat) : Int := st S 0 * lenL S k / 10 + st S 1
def bad (S : Sv) (k : Nat) : Bool := decide (alw S k < (miss S k).natAbs)
def exc (S : Sv) (k : Nat) : Int := ((miss S k).natAbs : Int) - alw S k
theorem sgdf_bd {S : Sv} (hS : wf S) {k l : Nat} (hl : l < nL S) : -9999 ≤ sg S k l * df S l ∧ sg S k l * df S l ≤ 9999 := by
  have h := hS.g hl
  rw [sg_eq]
  cases inL S k l <;> cases fw S k l <;> simp <;> (unfold wfL at h; omega)
theorem miss_bd {S : Sv} (hS : wf S) (k : Nat) : (miss S k).natAbs ≤ 199980 := by
  have h := sm_bd (f := fun l => sg S k l * df S l) (n := nL S) (B := 9999) (fun l hl => sgdf_bd hS hl)
  have h2 := hS.l
  unfold miss
  omega
theorem lenL_eq {S : Sv} (k : Nat) : (lenL S k : Int) = sm (fun l => if inL S k l = true then (ln S l : Int) else 0) (nL S) := by
  unfold lenL
  rw [Int.toNat_of_nonneg]
  exact sm_nn (fun l _ => by split <;> omega)
theorem lenL_bd {S : Sv} (hS : wf S) (k : Nat) : lenL S k ≤ 1980 := by
  have h := sm_bd (f := fun l => if inL S k l = true then (ln S l : Int) else 0) (n := nL S) (B := 99) (fun l hl => by
    have := hS.g hl
    unfold wfL at this
    split <;> omega)
  have h2 := hS.l
  rw [← lenL_eq] at h
  omega
theorem alw_bd {S : Sv} (hS : wf S) (k : Nat) : 0 ≤ alw S k ∧ alw S k ≤ 20000 := by
  have h1 := lenL_bd hS k
  obtain ⟨a, b, c, d, -⟩ := hS.s
  unfold alw
  have h2 : st S 0 * (lenL S k : Int) ≤ 99 * 1980 := Int.mul_le_mul b (by omega) (by omega) (by omega)
  have h3 : 0 ≤ st S 0 * (lenL S k : Int) := Int.mul_nonneg a (by omega)
  omega
theorem bad_exc {S : Sv} (k : Nat) : bad S k = decide (0 < exc S k) := by
  unfold bad exc
  congr 1
  apply propext
  omega
/-! the spreading: of a loop's miss over its free legs -/
abbrev Pt2 : Type := (Nat → Int) × (Nat → Bool)
def MM (S : Sv) (c : Nat → Int) (k : Nat) : Int := sm (fun l => sg S k l * (df S l + c l)) (nL S)
def fre (S : Sv) (g : Nat → Bool) (k l : Nat) : Bool := inL S k l && !g l
def TT (S : Sv) (F : Nat → Bool) : Int := sm (fun l => if F l = true then (ln S l : Int) else 0) (nL S)
def bsh (S : Sv) (F : Nat → Bool) (m : Int) (l : Nat) : Int := if F l = true then m * ln S l / TT S F else 0
def brs (S : Sv) (F : Nat → Bool) (m : Int) (l : Nat) : Int := if F l = true then m * ln S l % TT S F else -1
/-- the place of the greatest rest, the first one -/
def bst (r : Nat → Int) : Nat → Nat
  | 0 => 0
  | k + 1 => if r (bst r k) < r k then k else bst r k
def gv (n : Nat) (s : (Nat → Int) × (Nat → Int)) : (Nat → Int) × (Nat → Int) :=
  (fun l => if l = bst s.2 n then s.1 l + 1 else s.1 l, fun l => if l = bst s.2 n then -1 else s.2 l)
def gvK (S : Sv) (F : Nat → Bool) (m : Int) : Nat → (Nat → Int) × (Nat → Int)
  | 0 => (bsh S F m, brs S F m)
  | j + 1 => gv (nL S) (gvK S F m j)
def lft (S : Sv) (F : Nat → Bool) (m : Int) : Int := m - sm (bsh S F m) (nL S)
def shr (S : Sv) (F : Nat → Bool) (m : Int) (l : Nat) : Int := (gvK S F m (lft S F m).toNat).1 l
def spS (S : Sv) (p : Pt2) (k : Nat) : Pt2 :=
  (fun l => if fre S p.2 k l = true then p.1 l + (if 0 < MM S p.1 k then - shr S (fre S p.2 k) (MM S p.1 k).natAbs l else shr S (fre S p.2 k) (MM S p.1 k).natAbs l) * sg S k l else p.1 l,
   fun l => p.2 l || inL S k l)
def spK (S : Sv) : Nat → Pt2
  | 0 => (fun _ => 0, fun _ => false)
  | k + 1 => spS S (spK S k) k
def spM (S : Sv) (k : Nat) : Int := MM S (spK S k).1 k
def cor (S : Sv) (l : Nat) : Int := (spK S (nlp S)).1 l
def cd (S : Sv) (l : Nat) : Int := df S l + cor S l
theorem gone_iff {S : Sv} {k l : Nat} : (spK S k).2 l = true ↔ ∃ j, j < k ∧ inL S j l = true := by
  induction k with
  | zero => simp [spK]
  | succ k ih =>
    simp only [spK, spS, Bool.or_eq_true, ih]
    constructor
    · rintro (⟨j, a, b⟩ | h)
      · exact ⟨j, by omega, b⟩
      · exact ⟨k, by omega, h⟩
    · rintro ⟨j, a, b⟩
      by_cases q : j = k
      · subst q; exact Or.inr b
      · exact Or.inl ⟨j, by omega, b⟩
theorem not_gone {S : Sv} {k l : Nat} (h : (spK S k).2 l = false) : (spK S k).1 l = 0 := by
  induction k with
  | zero => rfl
  | succ k ih =>
    simp only [spK, spS, Bool.or_eq_false_iff] at h ⊢
    rw [if_neg (by simp [fre, h.2])]
    exact ih h.1
theorem cl_free {S : Sv} (hS : wf S) {k : Nat} (hk : k < nlp S) : fre S (spK S k).2 k (cl S k) = true := by
  unfold fre
  rw [inL_cl, Bool.true_and]
  cases q : (spK S k).2 (cl S k)
  · rfl
  · obtain ⟨j, h1, h2⟩ := gone_iff.mp q
    have := inL_other hS (by omega) hk h2
    omega
