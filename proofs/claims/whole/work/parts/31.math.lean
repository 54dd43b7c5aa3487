/-! THE PICTURE of a survey: marks, legs, known heights, ends, differences, lengths, settings; and what follows from it -/
abbrev Sv : Type := Nat × Nat × (Nat → Int) × (Nat → Nat) × (Nat → Nat) × (Nat → Int) × (Nat → Nat) × (Nat → Int)
def nM (S : Sv) : Nat := S.1
def nL (S : Sv) : Nat := S.2.1
def kn (S : Sv) : Nat → Int := S.2.2.1
def fr (S : Sv) : Nat → Nat := S.2.2.2.1
def tO (S : Sv) : Nat → Nat := S.2.2.2.2.1
def df (S : Sv) : Nat → Int := S.2.2.2.2.2.1
def ln (S : Sv) : Nat → Nat := S.2.2.2.2.2.2.1
def st (S : Sv) : Nat → Int := S.2.2.2.2.2.2.2
def wfL (S : Sv) (l : Nat) : Prop := fr S l < nM S ∧ tO S l < nM S ∧ fr S l ≠ tO S l ∧ -9999 ≤ df S l ∧ df S l ≤ 9999 ∧ 1 ≤ ln S l ∧ ln S l ≤ 99
def wf (S : Sv) : Prop := nM S ≤ 10 ∧ nL S ≤ 20 ∧ (∀ m, m < nM S → -1 ≤ kn S m ∧ kn S m ≤ 99999) ∧ (∀ l, l < nL S → wfL S l) ∧ (0 ≤ st S 0 ∧ st S 0 ≤ 99 ∧ 0 ≤ st S 1 ∧ st S 1 ≤ 99 ∧ 0 ≤ st S 2 ∧ st S 2 ≤ 999)
theorem wf.m {S : Sv} (h : wf S) : nM S ≤ 10 := h.1
theorem wf.l {S : Sv} (h : wf S) : nL S ≤ 20 := h.2.1
theorem wf.k {S : Sv} (h : wf S) {m : Nat} (hm : m < nM S) : -1 ≤ kn S m ∧ kn S m ≤ 99999 := h.2.2.1 m hm
theorem wf.g {S : Sv} (h : wf S) {l : Nat} (hl : l < nL S) : wfL S l := h.2.2.2.1 l hl
theorem wf.s {S : Sv} (h : wf S) : 0 ≤ st S 0 ∧ st S 0 ≤ 99 ∧ 0 ≤ st S 1 ∧ st S 1 ≤ 99 ∧ 0 ≤ st S 2 ∧ st S 2 ≤ 999 := h.2.2.2.2
/-! sums and counts -/
def sm (f : Nat → Int) : Nat → Int
  | 0 => 0
  | k + 1 => sm f k + f k
def ct (P : Nat → Bool) : Nat → Nat
  | 0 => 0
  | k + 1 => ct P k + (if P k then 1 else 0)
theorem sm_congr {f g : Nat → Int} {n : Nat} (h : ∀ k, k < n → f k = g k) : sm f n = sm g n := by
  induction n with
  | zero => rfl
  | succ n ih => rw [sm, sm, ih (fun k hk => h k (by omega)), h n (by omega)]
theorem ct_congr {f g : Nat → Bool} {n : Nat} (h : ∀ k, k < n → f k = g k) : ct f n = ct g n := by
  induction n with
  | zero => rfl
  | succ n ih => rw [ct, ct, ih (fun k hk => h k (by omega)), h n (by omega)]
theorem ct_le (P : Nat → Bool) (n : Nat) : ct P n ≤ n := by
  induction n with
  | zero => exact Nat.le_refl _
  | succ n ih => rw [ct]; split <;> omega
theorem sm_add (f g : Nat → Int) (n : Nat) : sm (fun k => f k + g k) n = sm f n + sm g n := by
  induction n with
  | zero => rfl
  | succ n ih => simp only [sm, ih]; omega
theorem sm_sub (f g : Nat → Int) (n : Nat) : sm (fun k => f k - g k) n = sm f n - sm g n := by
  induction n with
  | zero => rfl
  | succ n ih => simp only [sm, ih]; omega
theorem sm_neg (f : Nat → Int) (n : Nat) : sm (fun k => - f k) n = - sm f n := by
  induction n with
  | zero => rfl
  | succ n ih => simp only [sm, ih]; omega
theorem sm_mul (c : Int) (f : Nat → Int) (n : Nat) : sm (fun k => c * f k) n = c * sm f n := by
  induction n with
  | zero => simp [sm]
  | succ n ih => simp only [sm, ih, Int.mul_add]
theorem sm_le {f g : Nat → Int} {n : Nat} (h : ∀ k, k < n → f k ≤ g k) : sm f n ≤ sm g n := by
  induction n with
  | zero => exact Int.le_refl _
  | succ n ih =>
    have h1 := ih (fun k hk => h k (by omega))
    have h2 := h n (by omega)
    simp only [sm]; omega
theorem sm_0 (n : Nat) : sm (fun _ => 0) n = 0 := by
  induction n with
  | zero => rfl
  | succ n ih => simp only [sm, ih]; omega
theorem sm_c (c : Int) (n : Nat) : sm (fun _ => c) n = n * c := by
  induction n with
  | zero => simp [sm]
  | succ n ih => simp only [sm, ih]; rw [Int.natCast_succ, Int.add_mul, Int.one_mul]
theorem sm_nn {f : Nat → Int} {n : Nat} (h : ∀ k, k < n → 0 ≤ f k) : 0 ≤ sm f n := by
  have := sm_le (f := fun _ => 0) (g := f) h
  rw [sm_0] at this; exact this
theorem sm_abs (f : Nat → Int) (n : Nat) : ((sm f n).natAbs : Int) ≤ sm (fun k => ((f k).natAbs : Int)) n := by
  induction n with
  | zero => exact Int.le_refl _
  | succ n ih => simp only [sm]; omega
theorem sm_bd {f : Nat → Int} {n : Nat} {B : Int} (h : ∀ k, k < n → -B ≤ f k ∧ f k ≤ B) : -(n * B) ≤ sm f n ∧ sm f n ≤ n * B := by
  have h1 := sm_le (f := f) (g := fun _ => B) (fun k hk => (h k hk).2)
  have h2 := sm_le (f := fun _ => -B) (g := f) (fun k hk => (h k hk).1)
  rw [sm_c] at h1 h2
  rw [Int.mul_neg] at h2
  exact ⟨h2, h1⟩
/-- one place more -/
theorem sm_one {f : Nat → Int} {n a : Nat} (ha : a < n) : sm f n = f a + sm (fun k => if k = a then 0 else f k) n := by
  induction n with
  | zero => omega
  | succ n ih =>
    simp only [sm]
    by_cases h : a = n
    · subst h
      rw [if_pos rfl, sm_congr (f := f) (g := fun k => if k = a then 0 else f k) (fun k hk => by rw [if_neg (by omega)])]
      omega
    · rw [ih (by omega), if_neg (by omega)]; omega
theorem ct_one {P : Nat → Bool} {n a : Nat} (ha : a < n) : ct P n = (if P a then 1 else 0) + ct (fun k => !(k == a) && P k) n := by
  induction n with
  | zero => omega
  | succ n ih =>
    simp only [ct]
    by_cases h : a = n
    · subst h
      rw [ct_congr (f := P) (g := fun k => !(k == a) && P k) (fun k hk => by simp [show k ≠ a by omega])]
      simp; omega
    · rw [ih (by omega)]
      have : (n == a) = false := by simp; omega
      simp [this]; omega
theorem ct_sm (P : Nat → Bool) (n : Nat) : (ct P n : Int) = sm (fun k => if P k then 1 else 0) n := by
  induction n with
  | zero => rfl
  | succ n ih => simp only [ct, sm]; rw [← ih]; split <;> omega
theorem ct_mono {P Q : Nat → Bool} {n : Nat} (h : ∀ k, k < n → P k = true → Q k = true) : ct P n ≤ ct Q n := by
  induction n with
  | zero => exact Nat.le_refl _
  | succ n ih =>
    have h1 := ih (fun k hk => h k (by omega))
    have h2 := h n (by omega)
    simp only [ct]
    cases hp : P n <;> cases hq : Q n <;> simp [hp, hq] at h2 ⊢ <;> omega
theorem ct_eq {P Q : Nat → Bool} {n : Nat} (h : ∀ k, k < n → P k = true → Q k = true) (e : ct Q n ≤ ct P n) : ∀ k, k < n → Q k = true → P k = true := by
  induction n with
  | zero => intro k hk; omega
  | succ n ih =>
    have h1 := ct_mono (P := P) (Q := Q) (n := n) (fun k hk => h k (by omega))
    have h2 := h n (by omega)
    simp only [ct] at e
    intro k hk hq
    by_cases hkn : k = n
    · subst hkn
      rw [hq] at e
      cases hp : P k
      · rw [hp] at e; simp at e; omega
      · rfl
    · refine ih (fun k hk => h k (by omega)) ?_ k (by omega) hq
      cases hp : P n <;> cases hq' : Q n <;> simp [hp, hq'] at h2 e ⊢ <;> omega
/-! the order of the legs -/
def ky (S : Sv) (l : Nat) : Nat := 100 * ln S l + l
def ins (S : Sv) (x : Nat) : List Nat → List Nat
  | [] => [x]
  | y :: t => if ln S y ≤ ln S x then y :: ins S x t else x :: y :: t
def ordL (S : Sv) : Nat → List Nat
  | 0 => []
  | k + 1 => ins S k (ordL S k)
theorem ins_mem {S : Sv} {x : Nat} {L : List Nat} (y : Nat) : y ∈ ins S x L ↔ y = x ∨ y ∈ L := by
  induction L with
  | nil => simp [ins]
  | cons z t ih =>
    simp only [ins]
    split
    · simp only [List.mem_cons, ih]
      constructor <;> (intro h; rcases h with h | h | h <;> simp [h])
    · simp only [List.mem_cons]
theorem ins_len {S : Sv} {x : Nat} {L : List Nat} : (ins S x L).length = L.length + 1 := by
  induction L with
  | nil => rfl
  | cons z t ih => simp only [ins]; split <;> simp [ih]
theorem ordL_mem {S : Sv} {k l : Nat} : l ∈ ordL S k ↔ l < k := by
  induction k with
  | zero => simp [ordL]
  | succ k ih => rw [ordL, ins_mem, ih]; omega
theorem ordL_len {S : Sv} {k : Nat} : (ordL S k).length = k := by
  induction k with
  | zero => rfl
  | succ k ih => rw [ordL, ins_len, ih]
theorem ins_sorted {S : Sv} {x : Nat} {L : List Nat} (hx : x < 100) (h : L.Pairwise (fun a b => ky S a < ky S b)) (hl : ∀ y ∈ L, y < x) : (ins S x L).Pairwise (fun a b => ky S a < ky S b) := by
  induction L with
  | nil => simp [ins]
  | cons z t ih =>
    obtain ⟨h1, h2⟩ := List.pairwise_cons.mp h
    have hz := hl z List.mem_cons_self
    simp only [ins]
    split
    · rename_i hc
      refine List.pairwise_cons.mpr ⟨fun y hy => ?_, ih h2 (fun y hy => hl y (List.mem_cons_of_mem _ hy))⟩
      rcases (ins_mem y).mp hy with rfl | hy
      · unfold ky; omega
      · exact h1 y hy
    · rename_i hc
      refine List.pairwise_cons.mpr ⟨fun y hy => ?_, h⟩
      have hzk : ky S x < ky S z := by unfold ky; omega
      rcases List.mem_cons.mp hy with rfl | hy
      · exact hzk
      · exact Nat.lt_trans hzk (h1 y hy)
theorem ordL_sorted {S : Sv} {k : Nat} (hk : k ≤ 100) : (ordL S k).Pairwise (fun a b => ky S a < ky S b) := by
  induction k with
  | zero => exact List.Pairwise.nil
  | succ k ih => exact ins_sorted (by omega) (ih (by omega)) (fun y hy => ordL_mem.mp hy)
/-- the i-th leg in the order -/
def oL (S : Sv) (i : Nat) : Nat := (ordL S (nL S)).getD i 0
theorem oL_get {S : Sv} {i : Nat} (h : i < nL S) : (ordL S (nL S))[i]? = some (oL S i) := by
  have : i < (ordL S (nL S)).length := by rw [ordL_len]; exact h
  simp [oL, List.getD, this]
theorem oL_lt {S : Sv} {i : Nat} (h : i < nL S) : oL S i < nL S := ordL_mem.mp (List.mem_of_getElem? (oL_get h))
theorem oL_all {S : Sv} {l : Nat} (h : l < nL S) : ∃ i, i < nL S ∧ oL S i = l := by
  obtain ⟨i, hi⟩ := List.getElem?_of_mem (ordL_mem (S := S) (k := nL S).mpr h)
  have hl : i < nL S := by
    have := (List.getElem?_eq_some_iff.mp hi).1
    rwa [ordL_len] at this
  refine ⟨i, hl, ?_⟩
  have := oL_get hl
  rw [hi] at this
  exact (Option.some.inj this).symm
theorem oL_ky {S : Sv} (hS : wf S) {i j : Nat} (h : i < j) (hj : j < nL S) : ky S (oL S i) < ky S (oL S j) := by
  have hs := ordL_sorted (S := S) (k := nL S) (by have := hS.l; omega)
  have h1 := List.pairwise_iff_getElem.mp hs i j (by rw [ordL_len]; omega) (by rw [ordL_len]; omega) h
  have e1 := oL_get (S := S) (i := i) (by omega)
  have e2 := oL_get (S := S) (i := j) hj
  rw [List.getElem?_eq_getElem (by rw [ordL_len]; omega)] at e1 e2
  rw [Option.some.inj e1, Option.some.inj e2] at h1
  exact h1
theorem oL_inj {S : Sv} (hS : wf S) {i j : Nat} (hi : i < nL S) (hj : j < nL S) (h : oL S i = oL S j) : i = j := by
  rcases Nat.lt_trichotomy i j with q | q | q
  · have := oL_ky hS q hj; rw [h] at this; omega
  · exact q
  · have := oL_ky hS q hi; rw [h] at this; omega
/-! the tree -/
abbrev Kt : Type := (Nat → Nat) × (Nat → Bool)
def kst (S : Sv) (t : Kt) (l : Nat) : Kt :=
  if t.1 (fr S l) = t.1 (tO S l) then t
  else (fun m => if t.1 m = max (t.1 (fr S l)) (t.1 (tO S l)) then min (t.1 (fr S l)) (t.1 (tO S l)) else t.1 m, fun x => x == l || t.2 x)
def krK (S : Sv) : Nat → Kt
  | 0 => (fun m => m, fun _ => false)
  | i + 1 => kst S (krK S i) (oL S i)
def net (S : Sv) : Nat → Nat := (krK S (nL S)).1
def tr (S : Sv) : Nat → Bool := (krK S (nL S)).2
theorem krK_mem {S : Sv} {i l : Nat} (hi : i ≤ nL S) (h : (krK S i).2 l = true) : ∃ j, j < i ∧ oL S j = l := by
  induction i with
  | zero => exact absurd h (by simp [krK])
  | succ i ih =>
    rw [krK, kst] at h
    split at h
    · obtain ⟨j, h1, h2⟩ := ih (by omega) h; exact ⟨j, by omega, h2⟩
    · simp only [Bool.or_eq_true, beq_iff_eq] at h
      rcases h with h | h
      · exact ⟨i, by omega, h.symm⟩
      · obtain ⟨j, h1, h2⟩ := ih (by omega) h; exact ⟨j, by omega, h2⟩
theorem tr_lt {S : Sv} {l : Nat} (h : tr S l = true) : l < nL S := by
  obtain ⟨j, h1, h2⟩ := krK_mem (Nat.le_refl _) h
  rw [← h2]; exact oL_lt h1
/-- labels: each is a mark of its own net, not above it -/
theorem krK_lab {S : Sv} (hS : wf S) {i : Nat} (hi : i ≤ nL S) : ∀ m, (krK S i).1 m ≤ m ∧ (krK S i).1 ((krK S i).1 m) = (krK S i).1 m := by
  induction i with
  | zero => intro m; exact ⟨Nat.le_refl _, rfl⟩
  | succ i ih =>
    have ih := ih (by omega)
    intro m
    rw [krK, kst]
    split
    · exact ih m
    · rename_i hne
      have ha := ih (fr S (oL S i))
      have hb := ih (tO S (oL S i))
      have hm := ih m
      generalize (krK S i).1 (fr S (oL S i)) = a at *
      generalize (krK S i).1 (tO S (oL S i)) = b at *
      have hmin : (krK S i).1 (min a b) = min a b := by
        rcases Nat.le_total a b with q | q
        · rw [Nat.min_eq_left q]; exact ha.2
        · rw [Nat.min_eq_right q]; exact hb.2
      dsimp only
      by_cases hx : (krK S i).1 m = max a b
      · rw [if_pos hx]
        refine ⟨by omega, ?_⟩
        rw [hmin, if_neg (by omega)]
      · rw [if_neg hx]
        refine ⟨hm.1, ?_⟩
        rw [hm.2, if_neg hx]
theorem net_le {S : Sv} (hS : wf S) (m : Nat) : net S m ≤ m := (krK_lab hS (Nat.le_refl _) m).1
theorem net_net {S : Sv} (hS : wf S) (m : Nat) : net S (net S m) = net S m := (krK_lab hS (Nat.le_refl _) m).2
/-- a set that the legs of the tree don't leave holds a mark and its label, or neither -/
theorem krK_cut {S : Sv} (hS : wf S) {i : Nat} (hi : i ≤ nL S) (P : Nat → Bool) (hP : ∀ l, (krK S i).2 l = true → P (fr S l) = P (tO S l)) : ∀ m, P m = P ((krK S i).1 m) := by
  induction i with
  | zero => intro m; rfl
  | succ i ih =>
    intro m
    rw [krK, kst] at hP ⊢
    split at hP
    · rename_i he
      rw [if_pos he]
      exact ih (by omega) hP m
    · rename_i hne
      rw [if_neg hne]
      have ih := ih (by omega) (fun l hl => hP l (by simp [hl]))
      have h1 : P (fr S (oL S i)) = P (tO S (oL S i)) := hP _ (by simp)
      have ha := ih (fr S (oL S i))
      have hb := ih (tO S (oL S i))
      have hm := ih m
      simp only
      generalize (krK S i).1 (fr S (oL S i)) = a at *
      generalize (krK S i).1 (tO S (oL S i)) = b at *
      by_cases hx : (krK S i).1 m = max a b
      · rw [if_pos hx, hm, hx]
        rcases Nat.le_total a b with q | q
        · rw [Nat.max_eq_right q, Nat.min_eq_left q, ← ha, ← hb, h1]
        · rw [Nat.max_eq_left q, Nat.min_eq_right q, ← ha, ← hb, h1]
      · rw [if_neg hx]; exact hm
/-- a leg that comes later, with marks of one net then, is not of the tree; and a leg of the tree joined two nets -/
theorem krK_step {S : Sv} (hS : wf S) {i : Nat} (hi : i < nL S) : tr S (oL S i) = !((krK S i).1 (fr S (oL S i)) == (krK S i).1 (tO S (oL S i))) := by
  have hkeep : ∀ j, i + 1 ≤ j → j ≤ nL S → (krK S j).2 (oL S i) = (krK S (i + 1)).2 (oL S i) := by
    intro j h1 h2
    induction j with
    | zero => omega
    | succ j ih =>
      by_cases hj : j = i
      · subst hj; rfl
      · rw [← ih (by omega) (by omega), krK, kst]
        split
        · rfl
        · have : (oL S i == oL S j) = false := by
            simp only [beq_eq_false_iff_ne, ne_eq]
            intro q
            have := oL_inj hS (by omega) (by omega) q
            omega
          simp [this]
  show (krK S (nL S)).2 _ = _
  rw [hkeep (nL S) (by omega) (Nat.le_refl _), krK, kst]
  have hno : (krK S i).2 (oL S i) = false := by
    cases h : (krK S i).2 (oL S i)
    · rfl
    · obtain ⟨j, h1, h2⟩ := krK_mem (by omega) h
      have := oL_inj hS (by omega) (by omega) h2
      omega
  split
  · rename_i he; rw [hno, he]; simp
  · rename_i he; simp [he]
/-- how many marks are their own labels, and how many legs are of the tree -/
theorem krK_cnt {S : Sv} (hS : wf S) {i : Nat} (hi : i ≤ nL S) : ct (krK S i).2 (nL S) + ct (fun m => (krK S i).1 m == m) (nM S) = nM S := by
  induction i with
  | zero =>
    simp only [krK]
    have h1 : ct (fun _ => false) (nL S) = 0 := by
      induction nL S with
      | zero => rfl
      | succ n ih => simp [ct, ih]
    have h2 : ∀ n, ct (fun m : Nat => m == m) n = n := by
      intro n
      induction n with
      | zero => rfl
      | succ n ih =>
        show ct (fun m : Nat => m == m) n + (if (n == n) = true then 1 else 0) = n + 1
        rw [ih]; simp
    rw [h1, h2]; omega
  | succ i ih =>
    have ih := ih (by omega)
    rw [krK, kst]
    split
    · exact ih
    · rename_i hne
      have hw := hS.g (oL_lt (S := S) (i := i) (by omega))
      have ha := krK_lab hS (i := i) (by omega) (fr S (oL S i))
      have hb := krK_lab hS (i := i) (by omega) (tO S (oL S i))
      have hno : (krK S i).2 (oL S i) = false := by
        cases h : (krK S i).2 (oL S i)
        · rfl
        · obtain ⟨j, h1, h2⟩ := krK_mem (by omega) h
          have := oL_inj hS (by omega) (by omega) h2
          omega
      have e1 : ct (fun x => x == oL S i || (krK S i).2 x) (nL S) = 1 + ct (krK S i).2 (nL S) := by
        rw [ct_one (P := fun x => x == oL S i || (krK S i).2 x) (oL_lt (S := S) (i := i) (by omega)), ct_one (P := (krK S i).2) (oL_lt (S := S) (i := i) (by omega)), hno]
        simp only [beq_self_eq_true, Bool.true_or, if_true]
        rw [ct_congr (f := fun k => !(k == oL S i) && (k == oL S i || (krK S i).2 k)) (g := fun k => !(k == oL S i) && (krK S i).2 k) (fun k _ => by cases (k == oL S i) <;> simp)]
        simp
      have hwl := hw.1
      have hwr := hw.2.1
      generalize (krK S i).1 (fr S (oL S i)) = a at *
      generalize (krK S i).1 (tO S (oL S i)) = b at *
      have hmx : (krK S i).1 (max a b) = max a b := by
        rcases Nat.le_total a b with q | q
        · rw [Nat.max_eq_right q]; exact hb.2
        · rw [Nat.max_eq_left q]; exact ha.2
      have hmlt : max a b < nM S := by omega
      have e2 : ct (fun m => (krK S i).1 m == m) (nM S) = 1 + ct (fun m => (if (krK S i).1 m = max a b then min a b else (krK S i).1 m) == m) (nM S) := by
        rw [ct_one (P := fun m => (krK S i).1 m == m) hmlt, ct_one (P := fun m => (if (krK S i).1 m = max a b then min a b else (krK S i).1 m) == m) hmlt]
        rw [hmx]
        simp only [beq_self_eq_true, if_true]
        have h3 : (min a b == max a b) = false := by simp only [beq_eq_false_iff_ne, ne_eq]; omega
        rw [h3]
        simp only [Bool.false_eq_true, if_false, Nat.zero_add]
        congr 1
        refine ct_congr (fun m _ => ?_)
        by_cases hx : (krK S i).1 m = max a b
        · rw [if_pos hx, hx]
          by_cases hmm : m = max a b
          · subst hmm; simp
          · have q1 : (max a b == m) = false := by simp only [beq_eq_false_iff_ne, ne_eq]; omega
            have q2 : (min a b == m) = false := by
              simp only [beq_eq_false_iff_ne, ne_eq]
              intro q
              rw [← q] at hx
              have hmin : (krK S i).1 (min a b) = min a b := by
                rcases Nat.le_total a b with z | z
                · rw [Nat.min_eq_left z]; exact ha.2
                · rw [Nat.min_eq_right z]; exact hb.2
              omega
            rw [q1, q2]
        · rw [if_neg hx]
      simp only
      omega
theorem net_cut {S : Sv} (hS : wf S) (P : Nat → Bool) (hP : ∀ l, tr S l = true → P (fr S l) = P (tO S l)) (m : Nat) : P m = P (net S m) := krK_cut hS (Nat.le_refl _) P hP m
theorem tr_cnt {S : Sv} (hS : wf S) : ct (tr S) (nL S) + ct (fun m => net S m == m) (nM S) = nM S := krK_cnt hS (Nat.le_refl _)
