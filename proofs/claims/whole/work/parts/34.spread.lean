/-! THE SPREADING, in bounds -/
theorem bst_lt (r : Nat → Int) {n : Nat} (h : 0 < n) : bst r n < n := by
  induction n with
  | zero => omega
  | succ n ih =>
    rw [bst]
    split
    · omega
    · rcases Nat.eq_zero_or_pos n with q | q
      · subst q; exact Nat.zero_lt_one
      · have := ih q; omega
theorem bst_max (r : Nat → Int) {n l : Nat} (h : l < n) : r l ≤ r (bst r n) := by
  induction n with
  | zero => omega
  | succ n ih =>
    rw [bst]
    by_cases q : l = n
    · subst q
      split
      · exact Int.le_refl _
      · omega
    · have := ih (by omega)
      split
      · omega
      · exact this
theorem ct_ex {P : Nat → Bool} {n : Nat} (h : 0 < ct P n) : ∃ l, l < n ∧ P l = true := by
  induction n with
  | zero => simp [ct] at h
  | succ n ih =>
    rw [ct] at h
    by_cases q : P n = true
    · exact ⟨n, by omega, q⟩
    · rw [if_neg q] at h
      obtain ⟨l, h1, h2⟩ := ih h
      exact ⟨l, by omega, h2⟩
theorem ct_pos {P : Nat → Bool} {n l : Nat} (h : l < n) (hp : P l = true) : 0 < ct P n := by
  rw [ct_one h, if_pos hp]; omega
theorem TT_pos {S : Sv} (hS : wf S) {F : Nat → Bool} {l : Nat} (hl : l < nL S) (h : F l = true) : 0 < TT S F := by
  unfold TT
  rw [sm_one hl, if_pos h]
  have h1 : 0 ≤ sm (fun k => if k = l then 0 else (if F k = true then (ln S k : Int) else 0)) (nL S) := sm_nn (fun k _ => by split <;> (try split) <;> omega)
  have h2 := hS.g hl
  unfold wfL at h2
  omega
theorem bsh_eq {S : Sv} {F : Nat → Bool} {m : Int} {l : Nat} (h : F l = true) (hT : 0 < TT S F) (hm : 0 ≤ m) : bsh S F m l * TT S F + brs S F m l = m * ln S l ∧ 0 ≤ brs S F m l ∧ brs S F m l < TT S F ∧ 0 ≤ bsh S F m l := by
  unfold bsh brs
  rw [if_pos h, if_pos h]
  refine ⟨by rw [Int.mul_comm]; exact Int.mul_ediv_add_emod _ _, Int.emod_nonneg _ (by omega), Int.emod_lt_of_pos _ hT, Int.ediv_nonneg (Int.mul_nonneg hm (by omega)) (by omega)⟩
/-- what is left over is less than there are free legs -/
theorem lft_bd {S : Sv} (hS : wf S) {F : Nat → Bool} {m : Int} (hm : 0 ≤ m) {l : Nat} (hl : l < nL S) (h : F l = true) : 0 ≤ lft S F m ∧ lft S F m < ct F (nL S) := by
  have hT := TT_pos hS hl h
  have e1 : sm (fun k => bsh S F m k * TT S F + (if F k = true then brs S F m k else 0)) (nL S) = m * TT S F := by
    rw [show m * TT S F = sm (fun k => m * (if F k = true then (ln S k : Int) else 0)) (nL S) from (sm_mul m _ _).symm]
    refine sm_congr (fun k _ => ?_)
    by_cases q : F k = true
    · rw [if_pos q, if_pos q]; exact (bsh_eq q hT hm).1
    · rw [if_neg q, if_neg q]; simp [bsh, q]
  rw [sm_add, show sm (fun k => bsh S F m k * TT S F) (nL S) = TT S F * sm (bsh S F m) (nL S) by rw [← sm_mul]; exact sm_congr (fun k _ => Int.mul_comm _ _)] at e1
  have e2 : TT S F * lft S F m = sm (fun k => if F k = true then brs S F m k else 0) (nL S) := by
    unfold lft
    rw [Int.mul_sub, Int.mul_comm (TT S F) m]
    omega
  have h0 : 0 ≤ sm (fun k => if F k = true then brs S F m k else 0) (nL S) := sm_nn (fun k _ => by
    by_cases q : F k = true
    · rw [if_pos q]; exact (bsh_eq q hT hm).2.1
    · rw [if_neg q]; omega)
  have h1 : sm (fun k => if F k = true then brs S F m k else 0) (nL S) ≤ sm (fun k => (TT S F - 1) * (if F k = true then 1 else 0)) (nL S) := sm_le (fun k _ => by
    by_cases q : F k = true
    · rw [if_pos q, if_pos q]
      have := (bsh_eq (m := m) q hT hm).2.2.1
      omega
    · rw [if_neg q, if_neg q]; omega)
  rw [sm_mul, ← ct_sm] at h1
  have hc := ct_pos hl h
  constructor
  · by_cases q : 0 ≤ lft S F m
    · exact q
    · exfalso
      have := Int.mul_lt_mul_of_pos_left (show lft S F m < 0 by omega) hT
      rw [Int.mul_zero] at this
      omega
  · by_cases q : lft S F m < ct F (nL S)
    · exact q
    · exfalso
      have := Int.mul_le_mul_of_nonneg_left (show (ct F (nL S) : Int) ≤ lft S F m by omega) (show 0 ≤ TT S F by omega)
      rw [Int.sub_mul] at h1
      omega
/-- while it is given out: each free leg gets one more at the most -/
theorem gv_inv {S : Sv} {F : Nat → Bool} {m : Int} (hm : 0 ≤ m) (hT : 0 < TT S F) (hn : 0 < nL S) (j : Nat) (hj : j ≤ ct F (nL S)) :
    (∀ l, l < nL S → ((gvK S F m j).2 l = brs S F m l ∧ (gvK S F m j).1 l = bsh S F m l) ∨ (F l = true ∧ (gvK S F m j).2 l = -1 ∧ (gvK S F m j).1 l = bsh S F m l + 1)) ∧ ct (fun l => decide (0 ≤ (gvK S F m j).2 l)) (nL S) + j = ct F (nL S) := by
  induction j with
  | zero =>
    refine ⟨fun l _ => Or.inl ⟨rfl, rfl⟩, ?_⟩
    rw [Nat.add_zero]
    refine ct_congr (fun l _ => ?_)
    show decide (0 ≤ brs S F m l) = F l
    by_cases q : F l = true
    · rw [q]; exact decide_eq_true (bsh_eq q hT hm).2.1
    · simp [brs, q]
  | succ j ih =>
    obtain ⟨h1, h2⟩ := ih (by omega)
    have hpos : 0 < ct (fun l => decide (0 ≤ (gvK S F m j).2 l)) (nL S) := by omega
    obtain ⟨l0, hl0, hr0⟩ := ct_ex hpos
    have hr0' : 0 ≤ (gvK S F m j).2 l0 := by simpa using hr0
    have hb := bst_lt (gvK S F m j).2 hn
    have hmx := bst_max (gvK S F m j).2 hl0
    have hbr : 0 ≤ (gvK S F m j).2 (bst (gvK S F m j).2 (nL S)) := by omega
    have hF : F (bst (gvK S F m j).2 (nL S)) = true ∧ (gvK S F m j).1 (bst (gvK S F m j).2 (nL S)) = bsh S F m (bst (gvK S F m j).2 (nL S)) := by
      rcases h1 _ hb with ⟨a, b⟩ | ⟨a, b, c⟩
      · refine ⟨?_, b⟩
        cases q : F (bst (gvK S F m j).2 (nL S))
        · rw [a] at hbr; simp [brs, q] at hbr
        · rfl
      · omega
    constructor
    · intro l hl
      simp only [gvK, gv]
      by_cases q : l = bst (gvK S F m j).2 (nL S)
      · rw [if_pos q, if_pos q]
        right
        rw [q]
        exact ⟨hF.1, rfl, by rw [hF.2]⟩
      · rw [if_neg q, if_neg q]; exact h1 l hl
    · rw [ct_one (P := fun l => decide (0 ≤ (gvK S F m (j + 1)).2 l)) hb]
      rw [ct_one (P := fun l => decide (0 ≤ (gvK S F m j).2 l)) hb] at h2
      have e1 : (gvK S F m (j + 1)).2 (bst (gvK S F m j).2 (nL S)) = -1 := by simp [gvK, gv]
      rw [e1]
      rw [decide_eq_true hbr] at h2
      rw [ct_congr (f := fun k => !(k == bst (gvK S F m j).2 (nL S)) && decide (0 ≤ (gvK S F m (j + 1)).2 k)) (g := fun k => !(k == bst (gvK S F m j).2 (nL S)) && decide (0 ≤ (gvK S F m j).2 k)) (fun k _ => by
        by_cases q : k = bst (gvK S F m j).2 (nL S)
        · simp [q]
        · simp [gvK, gv, q])]
      simp at h2 ⊢
      omega
theorem shr_bd {S : Sv} (hS : wf S) {F : Nat → Bool} {m : Int} (hm : 0 ≤ m) {l : Nat} (hl : l < nL S) (h : F l = true) : 0 ≤ shr S F m l ∧ m * ln S l - TT S F ≤ shr S F m l * TT S F ∧ shr S F m l * TT S F ≤ m * ln S l + TT S F := by
  have hT := TT_pos hS hl h
  obtain ⟨h1, h2⟩ := lft_bd hS hm hl h
  have h3 := (gv_inv (S := S) (F := F) hm hT (by omega) (lft S F m).toNat (by omega)).1 l hl
  obtain ⟨e1, e2, e3, e4⟩ := bsh_eq (l := l) h hT hm
  unfold shr
  rcases h3 with ⟨-, q⟩ | ⟨-, -, q⟩
  · rw [q]; omega
  · rw [q, Int.add_mul, Int.one_mul]; omega
/-! the sum of what the gone legs of the tree are worth -/
def gb (t : Nat) : Int := ([0, 10001, 26667, 50002, 85004, 137507, 216262, 334394, 511592, 777389] : List Int).getD t 777389
theorem gb_ok : ∀ t : Nat, t < 10 → ∀ f : Nat, f < 10 → 1 ≤ f → t + f < 10 → ((f : Int) + 1) * gb t + ((f : Int) + 1) * ((f : Int) * 10000) + (f : Int) * (((f : Int) - 1) * 9999 + gb t) ≤ ((f : Int) + 1) * gb (t + f) := by decide +kernel
theorem gb_mono : ∀ t : Nat, t < 10 → ∀ f : Nat, f < 10 → t + f < 10 → gb t + (f : Int) * 9999 ≤ gb (t + f) := by decide +kernel
theorem gb_9 : ∀ t : Nat, t < 10 → 0 ≤ gb t ∧ gb t ≤ 777389 := by decide +kernel
def Gc (S : Sv) (g : Nat → Bool) (l : Nat) : Bool := tr S l && g l
def Fc (S : Sv) (g : Nat → Bool) (k l : Nat) : Bool := tr S l && fre S g k l
def CC (S : Sv) (p : Pt2) : Int := sm (fun l => if Gc S p.2 l = true then ((df S l + p.1 l).natAbs : Int) else 0) (nL S)
theorem sg_one {S : Sv} {k l : Nat} (h : inL S k l = true) : sg S k l = 1 ∨ sg S k l = -1 := by
  rw [sg_eq, if_pos h]
  cases fw S k l <;> simp
theorem sgx {s x : Int} (h : s = 1 ∨ s = -1) : (s * x).natAbs = x.natAbs ∧ s * (s * x) = x := by
  rcases h with rfl | rfl <;> omega
/-- the parts of a loop's miss -/
theorem MM_part {S : Sv} (hS : wf S) {k : Nat} (hk : k < nlp S) {l : Nat} (hl : l < nL S) :
    ((sg S k l * (df S l + (spK S k).1 l)).natAbs : Int) ≤ (if l = cl S k then 9999 else 0) + ((if Fc S (spK S k).2 k l = true then 9999 else 0) + (if Gc S (spK S k).2 l = true then ((df S l + (spK S k).1 l).natAbs : Int) else 0)) := by
  have hd := hS.g hl
  unfold wfL at hd
  by_cases hi : inL S k l = true
  · rw [(sgx (sg_one hi)).1]
    by_cases hg : (spK S k).2 l = true
    · have hne : l ≠ cl S k := by
        intro q
        have := cl_free hS hk
        unfold fre at this
        rw [← q, hg] at this
        simp at this
      have ht := inL_tr hS hi hne
      have e1 : Gc S (spK S k).2 l = true := by simp [Gc, ht, hg]
      rw [if_neg hne, if_pos e1]
      split <;> omega
    · have hg' : (spK S k).2 l = false := by simpa using hg
      rw [not_gone hg']
      have e2 : Gc S (spK S k).2 l = false := by simp [Gc, hg']
      rw [e2]
      by_cases hc : l = cl S k
      · rw [if_pos hc]
        split <;> simp <;> omega
      · have ht := inL_tr hS hi hc
        have e1 : Fc S (spK S k).2 k l = true := by simp [Fc, ht, fre, hi, hg']
        rw [if_neg hc, if_pos e1]
        simp; omega
  · have hi' : inL S k l = false := by simpa using hi
    rw [sg_in.mpr hi']
    simp only [Int.zero_mul]
    split <;> split <;> split <;> omega
theorem sm_if_one {n a : Nat} (ha : a < n) (c : Int) : sm (fun k => if k = a then c else 0) n = c := by
  rw [sm_one ha, if_pos rfl, sm_congr (g := fun _ => 0) (fun k _ => by by_cases q : k = a <;> simp [q]), sm_0]
  omega
theorem sm_if_ct (P : Nat → Bool) (n : Nat) (c : Int) : sm (fun k => if P k = true then c else 0) n = ct P n * c := by
  rw [Int.mul_comm, ct_sm, ← sm_mul]
  exact sm_congr (fun k _ => by split <;> simp)
theorem spM_bd {S : Sv} (hS : wf S) {k : Nat} (hk : k < nlp S) : ((spM S k).natAbs : Int) ≤ 9999 + ct (Fc S (spK S k).2 k) (nL S) * 9999 + CC S (spK S k) := by
  unfold spM MM
  have h1 := sm_abs (fun l => sg S k l * (df S l + (spK S k).1 l)) (nL S)
  have h2 := sm_le (n := nL S) (f := fun l => ((sg S k l * (df S l + (spK S k).1 l)).natAbs : Int)) (g := fun l => (if l = cl S k then 9999 else 0) + ((if Fc S (spK S k).2 k l = true then 9999 else 0) + (if Gc S (spK S k).2 l = true then ((df S l + (spK S k).1 l).natAbs : Int) else 0))) (fun l hl => MM_part hS hk hl)
  rw [sm_add, sm_add, sm_if_one (cl_lt hk).1, sm_if_ct] at h2
  unfold CC
  omega
/-- without one free leg of the tree -/
theorem spM_but {S : Sv} (hS : wf S) {k : Nat} (hk : k < nlp S) {l : Nat} (hl : l < nL S) (hF : Fc S (spK S k).2 k l = true) : ((spM S k - sg S k l * df S l).natAbs : Int) ≤ ct (Fc S (spK S k).2 k) (nL S) * 9999 + CC S (spK S k) := by
  have hfr : fre S (spK S k).2 k l = true := by
    unfold Fc at hF; simp only [Bool.and_eq_true] at hF; exact hF.2
  have hin : inL S k l = true ∧ (spK S k).2 l = false := by
    unfold fre at hfr; simpa using hfr
  have htr : tr S l = true := by
    unfold Fc at hF; simp only [Bool.and_eq_true] at hF; exact hF.1
  have hne : l ≠ cl S k := fun q => by rw [q, (cl_lt hk).2] at htr; cases htr
  have e0 : spM S k - sg S k l * df S l = sm (fun j => if j = l then 0 else sg S k j * (df S j + (spK S k).1 j)) (nL S) := by
    unfold spM MM
    rw [sm_one hl, not_gone hin.2, Int.add_zero]
    omega
  rw [e0]
  have h1 := sm_abs (fun j => if j = l then 0 else sg S k j * (df S j + (spK S k).1 j)) (nL S)
  have h2 := sm_le (n := nL S) (f := fun j => ((if j = l then 0 else sg S k j * (df S j + (spK S k).1 j)).natAbs : Int)) (g := fun j => (if j = l then -9999 else 0) + ((if j = cl S k then 9999 else 0) + ((if Fc S (spK S k).2 k j = true then 9999 else 0) + (if Gc S (spK S k).2 j = true then ((df S j + (spK S k).1 j).natAbs : Int) else 0)))) (fun j hj => by
    by_cases q : j = l
    · subst q
      rw [if_pos rfl, if_pos rfl, if_pos hF, if_neg hne]
      split <;> omega
    · rw [if_neg q, if_neg q]
      have := MM_part hS hk hj
      omega)
  rw [sm_add, sm_add, sm_add, sm_if_one (cl_lt hk).1, sm_if_one hl, sm_if_ct] at h2
  unfold CC
  omega
/-- a free leg of the tree behind the spreading -/
theorem new_bd {S : Sv} (hS : wf S) {k : Nat} (hk : k < nlp S) {l : Nat} (hl : l < nL S) (hF : Fc S (spK S k).2 k l = true) :
    TT S (fre S (spK S k).2 k) * ((df S l + (spK S (k + 1)).1 l).natAbs : Int) ≤ TT S (fre S (spK S k).2 k) * 10000 + ln S l * ((ct (Fc S (spK S k).2 k) (nL S) - 1) * 9999 + CC S (spK S k)) := by
  have hfr : fre S (spK S k).2 k l = true := by
    unfold Fc at hF; simp only [Bool.and_eq_true] at hF; exact hF.2
  have hin : inL S k l = true ∧ (spK S k).2 l = false := by
    unfold fre at hfr; simpa using hfr
  have hbut := spM_but hS hk hl hF
  have hd := hS.g hl
  unfold wfL at hd
  have hsg := sg_one hin.1
  have hT := TT_pos hS hl hfr
  have hlnT : (ln S l : Int) ≤ TT S (fre S (spK S k).2 k) := by
    unfold TT
    rw [sm_one hl, if_pos hfr]
    have : 0 ≤ sm (fun j => if j = l then 0 else (if fre S (spK S k).2 k j = true then (ln S j : Int) else 0)) (nL S) := sm_nn (fun j _ => by split <;> (try split) <;> omega)
    omega
  obtain ⟨hs0, hs1, hs2⟩ := shr_bd hS (m := ((spM S k).natAbs : Int)) (by omega) hl hfr
  have enew : (spK S (k + 1)).1 l = (if 0 < spM S k then - shr S (fre S (spK S k).2 k) (spM S k).natAbs l else shr S (fre S (spK S k).2 k) (spM S k).natAbs l) * sg S k l := by
    simp only [spK, spS]
    rw [if_pos hfr, not_gone hin.2, Int.zero_add]
    rfl
  rw [enew]
  generalize hsh : shr S (fre S (spK S k).2 k) ((spM S k).natAbs : Int) l = s at *
  generalize hTT : TT S (fre S (spK S k).2 k) = T at *
  generalize hMM : spM S k = M at *
  generalize hX : (ct (Fc S (spK S k).2 k) (nL S) : Int) * 9999 + CC S (spK S k) = X at *
  have hX2 : ((ct (Fc S (spK S k).2 k) (nL S) : Int) - 1) * 9999 + CC S (spK S k) = X - 9999 := by omega
  rw [hX2]
  -- along the loop
  obtain ⟨e, he⟩ : ∃ e : Int, e = (if 0 < M then -s else s) := ⟨_, rfl⟩
  rw [← he]
  have ha : ((df S l + e * sg S k l).natAbs : Int) = ((sg S k l * df S l + e).natAbs : Int) := by
    rcases hsg with z | z <;> rw [z] <;> omega
  rw [ha]
  have ha2 : -9999 ≤ sg S k l * df S l ∧ sg S k l * df S l ≤ 9999 := by
    rcases hsg with z | z <;> rw [z] <;> omega
  generalize hav : sg S k l * df S l = a at *
  have hTe : -T ≤ T * e + M * ln S l ∧ T * e + M * ln S l ≤ T := by
    rw [he, Int.mul_comm T]
    split
    · rename_i q
      rw [show ((M.natAbs : Int)) = M by omega] at hs1 hs2
      rw [Int.neg_mul]
      omega
    · rename_i q
      rw [show ((M.natAbs : Int)) = -M by omega, Int.neg_mul] at hs1 hs2
      omega
  have k1 : (T - ln S l) * a ≤ (T - ln S l) * 9999 := Int.mul_le_mul_of_nonneg_left ha2.2 (by omega)
  have k2 : (T - ln S l) * (-9999) ≤ (T - ln S l) * a := Int.mul_le_mul_of_nonneg_left ha2.1 (by omega)
  have k3 : (ln S l : Int) * (M - a) ≤ ln S l * X := Int.mul_le_mul_of_nonneg_left (by omega) (by omega)
  have k4 : (ln S l : Int) * (-X) ≤ ln S l * (M - a) := Int.mul_le_mul_of_nonneg_left (by omega) (by omega)
  have k5 : T * (a + e) = (T - ln S l) * a - ln S l * (M - a) + (T * e + M * ln S l) := by
    rw [Int.mul_add, Int.sub_mul, Int.mul_sub, Int.mul_comm M]
    omega
  have k6 : T * ((a + e).natAbs : Int) = ((T * (a + e)).natAbs : Int) := by
    rw [Int.natAbs_mul, Int.natCast_mul, show ((T.natAbs : Int)) = T by omega]
  have k7 : (ln S l : Int) * (X - 9999) = ln S l * X - ln S l * 9999 := Int.mul_sub _ _ _
  rw [k6, k5, k7]
  rw [Int.mul_neg] at k2 k4
  rw [show (T - (ln S l : Int)) * a = T * a - ln S l * a from Int.sub_mul _ _ _] at k1 k2 ⊢
  generalize (ln S l : Int) * X = y1 at *
  generalize (ln S l : Int) * (M - a) = y2 at *
  generalize T * e = y3 at *
  generalize M * (ln S l : Int) = y4 at *
  generalize T * a = y5 at *
  generalize (ln S l : Int) * a = y6 at *
  omega

theorem spK_step {S : Sv} {k l : Nat} (h : fre S (spK S k).2 k l = false) : (spK S (k + 1)).1 l = (spK S k).1 l := by
  simp only [spK, spS]
  rw [if_neg (by simp [h])]
/-- one loop more: what the gone legs of the tree are worth -/
theorem CC_step {S : Sv} (hS : wf S) {k : Nat} (hk : k < nlp S) : CC S (spK S (k + 1)) = CC S (spK S k) + sm (fun l => if Fc S (spK S k).2 k l = true then ((df S l + (spK S (k + 1)).1 l).natAbs : Int) else 0) (nL S) ∧ ct (Gc S (spK S (k + 1)).2) (nL S) = ct (Gc S (spK S k).2) (nL S) + ct (Fc S (spK S k).2 k) (nL S) := by
  have hg : ∀ l, Gc S (spK S (k + 1)).2 l = (Gc S (spK S k).2 l || Fc S (spK S k).2 k l) := by
    intro l
    simp only [Gc, Fc, fre, spK, spS]
    cases tr S l <;> cases (spK S k).2 l <;> cases inL S k l <;> rfl
  have hd : ∀ l, Gc S (spK S k).2 l = true → Fc S (spK S k).2 k l = false := by
    intro l
    simp only [Gc, Fc, fre]
    cases tr S l <;> cases (spK S k).2 l <;> cases inL S k l <;> simp
  constructor
  · unfold CC
    rw [← sm_add]
    refine sm_congr (fun l _ => ?_)
    rw [hg]
    by_cases q : Gc S (spK S k).2 l = true
    · have h1 := hd l q
      have h2 : fre S (spK S k).2 k l = false := by
        unfold Gc at q
        unfold fre
        simp only [Bool.and_eq_true] at q
        simp [q.2]
      rw [q, h1, spK_step h2]
      simp
    · have q' : Gc S (spK S k).2 l = false := by simpa using q
      rw [q']
      simp
  · have key : ∀ n, ct (Gc S (spK S (k + 1)).2) n = ct (Gc S (spK S k).2) n + ct (Fc S (spK S k).2 k) n := by
      intro n
      induction n with
      | zero => rfl
      | succ n ih =>
        simp only [ct, ih]
        rw [hg]
        have := hd n
        cases q : Gc S (spK S k).2 n
        · simp; omega
        · rw [this q]; simp; omega
    exact key _
theorem CC_bd {S : Sv} (hS : wf S) (k : Nat) (hk : k ≤ nlp S) : CC S (spK S k) ≤ gb (ct (Gc S (spK S k).2) (nL S)) := by
  induction k with
  | zero =>
    have h1 : ∀ l, Gc S (spK S 0).2 l = false := fun l => by simp [Gc, spK]
    have h2 : CC S (spK S 0) = 0 := by
      unfold CC
      rw [sm_congr (g := fun _ => 0) (fun l _ => by rw [h1]; simp), sm_0]
    have h3 : ct (Gc S (spK S 0).2) (nL S) = 0 := by
      rcases Nat.eq_zero_or_pos (ct (Gc S (spK S 0).2) (nL S)) with q | q
      · exact q
      · obtain ⟨l, -, hl⟩ := ct_ex q
        rw [h1] at hl; cases hl
    rw [h2, h3]; decide
  | succ k ih =>
    have ih := ih (by omega)
    have hk : k < nlp S := by omega
    obtain ⟨e1, e2⟩ := CC_step hS hk
    rw [e1, e2]
    have h9 : ct (Gc S (spK S (k + 1)).2) (nL S) ≤ 9 := Nat.le_trans (ct_mono (fun l _ h => by unfold Gc at h; simp only [Bool.and_eq_true] at h; exact h.1)) (tr_9 hS)
    rw [e2] at h9
    rcases Nat.eq_zero_or_pos (ct (Fc S (spK S k).2 k) (nL S)) with q | q
    · have h1 : sm (fun l => if Fc S (spK S k).2 k l = true then ((df S l + (spK S (k + 1)).1 l).natAbs : Int) else 0) (nL S) = 0 := by
        rw [sm_congr (g := fun _ => 0) (fun l hl => ?_), sm_0]
        rw [if_neg]
        intro z
        have := ct_pos hl z
        omega
      rw [h1, q, Int.add_zero, Nat.add_zero]; exact ih
    · -- the closing leg and the free legs of the tree
      have hcl := cl_lt hk
      have hcf := cl_free hS hk
      have hT := TT_pos hS hcl.1 hcf
      have hCC : 0 ≤ CC S (spK S k) := sm_nn (fun l _ => by split <;> omega)
      have eT : TT S (fre S (spK S k).2 k) = ln S (cl S k) + sm (fun l => if Fc S (spK S k).2 k l = true then (ln S l : Int) else 0) (nL S) := by
        unfold TT
        rw [sm_one hcl.1, if_pos hcf]
        congr 1
        refine sm_congr (fun l _ => ?_)
        by_cases z : l = cl S k
        · rw [if_pos z, z, if_neg]
          simp [Fc, hcl.2]
        · rw [if_neg z]
          by_cases y : fre S (spK S k).2 k l = true
          · have hi : inL S k l = true := by
              unfold fre at y; simp only [Bool.and_eq_true] at y; exact y.1
            have ht := inL_tr hS hi z
            rw [if_pos y, if_pos (by simp [Fc, ht, y])]
          · rw [if_neg y, if_neg]
            simp only [Fc, Bool.and_eq_true]
            exact fun x => y x.2
      have hL : sm (fun l => if Fc S (spK S k).2 k l = true then (ln S l : Int) else 0) (nL S) ≤ ct (Fc S (spK S k).2 k) (nL S) * ln S (cl S k) := by
        rw [← sm_if_ct]
        refine sm_le (fun l _ => ?_)
        by_cases z : Fc S (spK S k).2 k l = true
        · rw [if_pos z, if_pos z]
          have hi : inL S k l = true := by
            unfold Fc fre at z; simp only [Bool.and_eq_true] at z; exact z.2.1
          have := inL_ln hS hk hi
          omega
        · rw [if_neg z, if_neg z]; exact Int.le_refl _
      have hL0 : 0 ≤ sm (fun l => if Fc S (spK S k).2 k l = true then (ln S l : Int) else 0) (nL S) := sm_nn (fun l _ => by split <;> omega)
      have hsum := sm_le (n := nL S) (f := fun l => TT S (fre S (spK S k).2 k) * (if Fc S (spK S k).2 k l = true then ((df S l + (spK S (k + 1)).1 l).natAbs : Int) else 0)) (g := fun l => (if Fc S (spK S k).2 k l = true then TT S (fre S (spK S k).2 k) * 10000 else 0) + (((ct (Fc S (spK S k).2 k) (nL S) : Int) - 1) * 9999 + CC S (spK S k)) * (if Fc S (spK S k).2 k l = true then (ln S l : Int) else 0)) (fun l hl => by
        by_cases z : Fc S (spK S k).2 k l = true
        · rw [if_pos z, if_pos z, if_pos z]
          have := new_bd hS hk hl z
          rw [Int.mul_comm (ln S l : Int)] at this
          exact this
        · rw [if_neg z, if_neg z, if_neg z]; simp)
      rw [sm_add, sm_mul, sm_mul, sm_if_ct] at hsum
      have hgb := gb_ok (ct (Gc S (spK S k).2) (nL S)) (by omega) (ct (Fc S (spK S k).2 k) (nL S)) (by omega) q (by omega)
      generalize sm (fun l => if Fc S (spK S k).2 k l = true then ((df S l + (spK S (k + 1)).1 l).natAbs : Int) else 0) (nL S) = Sg at *
      generalize sm (fun l => if Fc S (spK S k).2 k l = true then (ln S l : Int) else 0) (nL S) = LL at *
      generalize TT S (fre S (spK S k).2 k) = T at *
      generalize hf : (ct (Fc S (spK S k).2 k) (nL S) : Int) = f at *
      have hf1 : 1 ≤ f := by omega
      generalize CC S (spK S k) = C at *
      generalize gb (ct (Gc S (spK S k).2) (nL S)) = g at *
      generalize gb (ct (Gc S (spK S k).2) (nL S) + ct (Fc S (spK S k).2 k) (nL S)) = g' at *
      have hD : 0 ≤ (f - 1) * 9999 + C := by omega
      -- (f + 1) L ≤ f T
      have a1 : (f + 1) * LL ≤ f * T := by
        rw [eT, Int.add_mul, Int.one_mul, Int.mul_add]
        omega
      have a2 : ((f - 1) * 9999 + C) * ((f + 1) * LL) ≤ ((f - 1) * 9999 + C) * (f * T) := Int.mul_le_mul_of_nonneg_left a1 hD
      have a3 : (f + 1) * (T * Sg) ≤ (f + 1) * (f * (T * 10000) + ((f - 1) * 9999 + C) * LL) := Int.mul_le_mul_of_nonneg_left hsum (by omega)
      have a4 : T * ((f + 1) * Sg) ≤ T * ((f + 1) * (f * 10000) + f * ((f - 1) * 9999 + C)) := by
        have b1 : T * ((f + 1) * Sg) = (f + 1) * (T * Sg) := Int.mul_left_comm _ _ _
        have b2 : (f + 1) * (f * (T * 10000) + ((f - 1) * 9999 + C) * LL) = T * ((f + 1) * (f * 10000)) + ((f - 1) * 9999 + C) * ((f + 1) * LL) := by grind
        have b3 : T * ((f + 1) * (f * 10000) + f * ((f - 1) * 9999 + C)) = T * ((f + 1) * (f * 10000)) + ((f - 1) * 9999 + C) * (f * T) := by grind
        omega
      have a5 := Int.le_of_mul_le_mul_left a4 hT
      have a6 : (f + 1) * C ≤ (f + 1) * g := Int.mul_le_mul_of_nonneg_left ih (by omega)
      have a7 : f * ((f - 1) * 9999 + C) ≤ f * ((f - 1) * 9999 + g) := Int.mul_le_mul_of_nonneg_left (by omega) (by omega)
      have a8 : (f + 1) * (C + Sg) ≤ (f + 1) * g' := by
        rw [Int.mul_add]
        omega
      exact Int.le_of_mul_le_mul_left a8 (by omega)
/-- a loop's miss with the corrections there are -/
theorem spM_le {S : Sv} (hS : wf S) {k : Nat} (hk : k < nlp S) : (spM S k).natAbs ≤ 787388 := by
  have h1 := spM_bd hS hk
  have h2 := CC_bd hS k (by omega)
  obtain ⟨-, e2⟩ := CC_step hS hk
  have h9 : ct (Gc S (spK S (k + 1)).2) (nL S) ≤ 9 := Nat.le_trans (ct_mono (fun l _ h => by unfold Gc at h; simp only [Bool.and_eq_true] at h; exact h.1)) (tr_9 hS)
  rw [e2] at h9
  have h3 := gb_mono (ct (Gc S (spK S k).2) (nL S)) (by omega) (ct (Fc S (spK S k).2 k) (nL S)) (by omega) (by omega)
  have h4 := (gb_9 (ct (Gc S (spK S k).2) (nL S) + ct (Fc S (spK S k).2 k) (nL S)) (by omega)).2
  omega
theorem ct_split (P g : Nat → Bool) (n : Nat) : ct (fun l => P l && g l) n + ct (fun l => P l && !g l) n = ct P n := by
  induction n with
  | zero => rfl
  | succ n ih =>
    simp only [ct, ← ih]
    by_cases h1 : P n = true <;> by_cases h2 : g n = true <;> simp [h1, h2] <;> omega
/-- all legs of the tree together, corrected -/
theorem cd_bd {S : Sv} (hS : wf S) : sm (fun l => if tr S l = true then ((cd S l).natAbs : Int) else 0) (nL S) ≤ 777389 := by
  have h1 := CC_bd hS (nlp S) (Nat.le_refl _)
  have h2 := sm_le (n := nL S) (f := fun l => if tr S l = true then ((cd S l).natAbs : Int) else 0) (g := fun l => (if Gc S (spK S (nlp S)).2 l = true then ((df S l + (spK S (nlp S)).1 l).natAbs : Int) else 0) + (if (tr S l && !(spK S (nlp S)).2 l) = true then 9999 else 0)) (fun l hl => by
    have hd := hS.g hl
    unfold wfL at hd
    unfold Gc cd cor
    cases q : tr S l
    · simp
    · cases z : (spK S (nlp S)).2 l
      · rw [not_gone z]; simp; omega
      · simp)
  rw [sm_add, sm_if_ct] at h2
  have h3 : ct (Gc S (spK S (nlp S)).2) (nL S) + ct (fun l => tr S l && !(spK S (nlp S)).2 l) (nL S) = ct (tr S) (nL S) := by
    exact ct_split (tr S) (spK S (nlp S)).2 (nL S)
  have h4 := tr_9 hS
  have h5 := gb_mono (ct (Gc S (spK S (nlp S)).2) (nL S)) (by omega) (ct (fun l => tr S l && !(spK S (nlp S)).2 l) (nL S)) (by omega) (by omega)
  have h6 := (gb_9 (ct (Gc S (spK S (nlp S)).2) (nL S) + ct (fun l => tr S l && !(spK S (nlp S)).2 l) (nL S)) (by omega)).2
  unfold CC at h1
  omega
