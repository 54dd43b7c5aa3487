/-! NUMBERS: ints of the machine out of whole numbers, masks, counted loops -/
def iI (x : Int) : Int32 := Int32.ofInt x
def fit (x : Int) : Prop := -2147483648 ≤ x ∧ x < 2147483648
theorem iI_nat (n : Nat) : iI (n : Int) = nI n := Int32.ofInt_eq_ofNat
theorem iI_add (a b : Int) : iI a + iI b = iI (a + b) := (Int32.ofInt_add a b).symm
theorem iI_mul (a b : Int) : iI a * iI b = iI (a * b) := (Int32.ofInt_mul a b).symm
theorem iI_neg (a : Int) : - iI a = iI (-a) := (Int32.ofInt_neg a).symm
theorem iI_sub (a b : Int) : iI a - iI b = iI (a - b) := (Int32.ofInt_sub a b).symm
theorem iI_toInt {x : Int} (h : fit x) : (iI x).toInt = x := Int32.toInt_ofInt_of_le (by have := h.1; omega) (by have := h.2; omega)
theorem iI_of (x : Int32) : x = iI x.toInt := by
  apply Int32.toInt_inj.mp
  have h1 := Int32.le_toInt x
  have h2 := Int32.toInt_lt x
  rw [iI_toInt ⟨by omega, by omega⟩]
theorem iI_le {a b : Int} (ha : fit a) (hb : fit b) : iI a ≤ iI b ↔ a ≤ b := by rw [Int32.le_iff_toInt_le, iI_toInt ha, iI_toInt hb]
theorem iI_lt {a b : Int} (ha : fit a) (hb : fit b) : iI a < iI b ↔ a < b := by rw [Int32.lt_iff_toInt_lt, iI_toInt ha, iI_toInt hb]
theorem iI_eq {a b : Int} (ha : fit a) (hb : fit b) : iI a = iI b ↔ a = b := by rw [← Int32.toInt_inj, iI_toInt ha, iI_toInt hb]
theorem iI_0 : iI 0 = 0 := rfl
theorem iI_1 : iI 1 = 1 := rfl
theorem iI_m1 : iI (-1) = -1 := rfl
theorem nI_iI (n : Nat) : nI n = iI (n : Int) := (iI_nat n).symm
theorem fit_nat {n : Nat} (h : n < 2147483648) : fit (n : Int) := ⟨by omega, by omega⟩
theorem iI_lt0 {a : Int} (ha : fit a) : iI a < 0 ↔ a < 0 := by rw [← iI_0, iI_lt ha ⟨by omega, by omega⟩]
theorem iI_le0 {a : Int} (ha : fit a) : iI a ≤ 0 ↔ a ≤ 0 := by rw [← iI_0, iI_le ha ⟨by omega, by omega⟩]
theorem iI_0le {a : Int} (ha : fit a) : 0 ≤ iI a ↔ 0 ≤ a := by rw [← iI_0, iI_le ⟨by omega, by omega⟩ ha]
theorem iI_0lt {a : Int} (ha : fit a) : 0 < iI a ↔ 0 < a := by rw [← iI_0, iI_lt ⟨by omega, by omega⟩ ha]
theorem iabs_iI {a : Int} (ha : fit a) : iabs (iI a) = iI a.natAbs := by
  unfold iabs
  by_cases h : 0 ≤ a
  · rw [if_pos ((iI_0le ha).mpr h), Int.natAbs_of_nonneg h]
  · rw [if_neg (fun q => h ((iI_0le ha).mp q)), ← iI_0, iI_sub]
    congr 1
    omega
theorem n_le {a b : Nat} (ha : a < 2147483648) (hb : b < 2147483648) : nI a ≤ nI b ↔ a ≤ b := nI_leI ha hb
theorem n_lt {a b : Nat} (ha : a < 2147483648) (hb : b < 2147483648) : nI a < nI b ↔ a < b := nI_ltI ha hb
theorem n_eq {a b : Nat} (ha : a < 2147483648) (hb : b < 2147483648) : nI a = nI b ↔ a = b := nI_eq ha hb
theorem n_0 : (0 : Int32) = nI 0 := rfl
theorem n_in {n N : Nat} (h : n < N) (hN : N < 2147483648) : vp_in (nI n) N := vp_in_nI h hN
theorem n_cl {n : Nat} (h : n < 2147483648) : (nI n).toNatClampNeg = n := nI_clamp h
theorem n_m1 {n : Nat} (h : n < 2147483648) : ¬ nI n = -1 := by
  intro q
  have := congrArg Int32.toInt q
  rw [nI_toInt h] at this
  have h2 : (-1 : Int32).toInt = -1 := rfl
  rw [h2] at this
  omega
/-! the world -/
theorem wi_sA (w : Wd) (n o : Nat) (f : Nat → Int32) (a b k : Nat) : wi (sA w n o f) a b k = if a = n ∧ b = o then f k else wi w a b k := by
  unfold wi sA
  by_cases h : a = n ∧ b = o
  · simp only [if_pos h]
  · simp only [if_neg h]
theorem wi_sI (w : Wd) (n o j : Nat) (x : Int32) (a b k : Nat) : wi (sI w n o j x) a b k = if a = n ∧ b = o ∧ k = j then x else wi w a b k := by
  rw [sI, wi_sA]
  by_cases h : a = n ∧ b = o
  · obtain ⟨rfl, rfl⟩ := h
    by_cases hk : k = j
    · subst hk; simp [upd]
    · simp [upd, hk, wi]
  · rw [if_neg h, if_neg (fun q => h ⟨q.1, q.2.1⟩)]
theorem wi_sV (w : Wd) (j v a b k : Nat) : wi (sV w j v) a b k = wi w a b k := rfl
theorem wi_sL (w : Wd) (j : Nat) (x : Int64) (a b k : Nat) : wi (sL w j x) a b k = wi w a b k := rfl
theorem sv_sA (w : Wd) (n o : Nat) (f : Nat → Int32) (k : Nat) : sv (sA w n o f) k = sv w k := rfl
theorem sv_sI (w : Wd) (n o j : Nat) (x : Int32) (k : Nat) : sv (sI w n o j x) k = sv w k := rfl
theorem sv_sL (w : Wd) (j : Nat) (x : Int64) (k : Nat) : sv (sL w j x) k = sv w k := rfl
theorem sv_sV (w : Wd) (j v k : Nat) : sv (sV w j v) k = if k = j then v else sv w k := rfl
theorem wl_sA (w : Wd) (n o : Nat) (f : Nat → Int32) (k : Nat) : wl (sA w n o f) k = wl w k := rfl
theorem wl_sI (w : Wd) (n o j : Nat) (x : Int32) (k : Nat) : wl (sI w n o j x) k = wl w k := rfl
theorem wl_sV (w : Wd) (j v k : Nat) : wl (sV w j v) k = wl w k := rfl
theorem wl_sL (w : Wd) (j : Nat) (x : Int64) (k : Nat) : wl (sL w j x) k = if k = j then x else wl w k := rfl
/-! masks -/
def bm (x : Int32) (P : Nat → Bool) : Prop := ∀ i, x.toBitVec.getLsbD i = P i
theorem bm_congr {x : Int32} {P P' : Nat → Bool} (h : bm x P) (e : ∀ i, P i = P' i) : bm x P' := fun i => (h i).trans (e i)
theorem bm_hi {x : Int32} {P : Nat → Bool} (h : bm x P) {i : Nat} (hi : 32 ≤ i) : P i = false := by rw [← h i]; exact BitVec.getLsbD_of_ge _ _ hi
theorem bm_0 : bm 0 (fun _ => false) := fun i => by
  show (0 : Int32).toBitVec.getLsbD i = false
  rw [show (0 : Int32).toBitVec = 0#32 from rfl]
  simp
theorem bm_and {x y : Int32} {P Q : Nat → Bool} (h : bm x P) (k : bm y Q) : bm (x &&& y) (fun i => P i && Q i) := fun i => by
  rw [Int32.toBitVec_and, BitVec.getLsbD_and, h i, k i]
theorem bm_or {x y : Int32} {P Q : Nat → Bool} (h : bm x P) (k : bm y Q) : bm (x ||| y) (fun i => P i || Q i) := fun i => by
  rw [Int32.toBitVec_or, BitVec.getLsbD_or, h i, k i]
theorem bm_xor {x y : Int32} {P Q : Nat → Bool} (h : bm x P) (k : bm y Q) : bm (x ^^^ y) (fun i => P i ^^ Q i) := fun i => by
  rw [Int32.toBitVec_xor, BitVec.getLsbD_xor, h i, k i]
theorem bm_not {x : Int32} {P : Nat → Bool} (h : bm x P) : bm (x ^^^ (-1)) (fun i => decide (i < 32) && !P i) := fun i => by
  rw [Int32.toBitVec_xor, BitVec.getLsbD_xor, h i, show (-1 : Int32).toBitVec = BitVec.allOnes 32 from rfl, BitVec.getLsbD_allOnes]
  by_cases hi : i < 32
  · simp [hi]
  · rw [bm_hi h (by omega)]; simp [hi]
theorem bm_eq {x y : Int32} {P Q : Nat → Bool} (h : bm x P) (k : bm y Q) (e : ∀ i, P i = Q i) : x = y := by
  apply Int32.toBitVec_inj.mp
  apply BitVec.eq_of_getLsbD_eq
  intro i _
  rw [h i, k i, e i]
theorem bm_inj {x : Int32} {P Q : Nat → Bool} (h : bm x P) (k : bm x Q) (i : Nat) : P i = Q i := (h i).symm.trans (k i)
theorem bm_bit : ∀ l : Nat, l < 31 → bm ((1 : Int32) <<< (nI l &&& 31)) (fun i => decide (i = l)) := by
  have h : ∀ l : Nat, l < 31 → ∀ i : Nat, i < 32 → ((1 : Int32) <<< (nI l &&& 31)).toBitVec.getLsbD i = decide (i = l) := by decide +kernel
  intro l hl i
  by_cases hi : i < 32
  · exact h l hl i hi
  · rw [BitVec.getLsbD_of_ge _ _ (by omega)]
    have : i ≠ l := by omega
    simp [this]
theorem bm_all : ∀ n : Nat, n < 31 → bm (((1 : Int32) <<< (nI n &&& 31)) - 1) (fun i => decide (i < n)) := by
  have h : ∀ l : Nat, l < 31 → ∀ i : Nat, i < 32 → (((1 : Int32) <<< (nI l &&& 31)) - 1).toBitVec.getLsbD i = decide (i < l) := by decide +kernel
  intro l hl i
  by_cases hi : i < 32
  · exact h l hl i hi
  · rw [BitVec.getLsbD_of_ge _ _ (by omega)]
    have : ¬ i < l := by omega
    simp [this]
theorem bm_in {x : Int32} {P : Nat → Bool} (h : bm x P) {l : Nat} (hl : l < 31) : ((x >>> (nI l &&& 31)) &&& 1) = if P l then 1 else 0 := by
  have hs : ((nI l &&& 31).toBitVec.smod 32).toNat = l := by
    have : ∀ l : Nat, l < 31 → ((nI l &&& 31).toBitVec.smod 32).toNat = l := by decide +kernel
    exact this l hl
  apply Int32.toBitVec_inj.mp
  apply BitVec.eq_of_getLsbD_eq
  intro i hi
  rw [Int32.toBitVec_and, BitVec.getLsbD_and, Int32.toBitVec_shiftRight]
  rw [show (x.toBitVec.sshiftRight' ((nI l &&& 31).toBitVec.smod 32)) = x.toBitVec.sshiftRight l by rw [BitVec.sshiftRight', hs]]
  rw [BitVec.getLsbD_sshiftRight]
  rw [show (1 : Int32).toBitVec = 1#32 from rfl]
  by_cases hi0 : i = 0
  · subst hi0
    rw [if_pos (show l + 0 < 32 by omega), Nat.add_zero, h l]
    cases P l <;> rfl
  · have h1 : (1#32).getLsbD i = false := by
      rw [BitVec.getLsbD_one]
      simp [hi0]
    rw [h1, Bool.and_false]
    by_cases hp : P l
    · simp only [hp, if_true]
      rw [show (1 : Int32).toBitVec = 1#32 from rfl, h1]
    · simp only [hp]
      rw [show (if false = true then (1 : Int32) else 0) = 0 from rfl, show (0 : Int32).toBitVec = 0#32 from rfl]
      simp
/-! counted loops -/
theorem lpI {B : Int32 → (Int32 → Prop) → Prop} (N k0 : Nat) (hN : N < 2147483648) (hk : k0 ≤ N) (hs : ∀ k (K : Int32 → Prop), k < N → K (nI (k + 1)) → B (nI k) K) (he : ∀ K, B (nI N) K) :
    ∃ (I : Int32 → Prop) (μ : Int32 → Nat), I (nI k0) ∧ ∀ i, I i → B i (fun i' => I i' ∧ μ i' < μ i) := by
  refine ⟨fun i => ∃ k, k ≤ N ∧ i = nI k, fun i => N - i.toNatClampNeg, ⟨k0, hk, rfl⟩, ?_⟩
  rintro i ⟨k, hk, rfl⟩
  rcases Nat.lt_or_ge k N with h | h
  · exact hs k _ h ⟨⟨k + 1, h, rfl⟩, by dsimp only; rw [n_cl (by omega), n_cl (by omega)]; omega⟩
  · rw [show k = N by omega]; exact he _
theorem lpAI {α : Type} {B : α → Int32 → (α → Int32 → Prop) → Prop} {a0 : α} (F : Nat → α → Prop) (N k0 : Nat) (hN : N < 2147483648) (hk : k0 ≤ N) (h0 : F k0 a0) (hs : ∀ k a (K : α → Int32 → Prop), k < N → F k a → (∀ a', F (k + 1) a' → K a' (nI (k + 1))) → B a (nI k) K) (he : ∀ a K, F N a → B a (nI N) K) :
    ∃ (I : α → Int32 → Prop) (μ : α → Int32 → Nat), I a0 (nI k0) ∧ ∀ a i, I a i → B a i (fun a' i' => I a' i' ∧ μ a' i' < μ a i) := by
  refine ⟨fun a i => ∃ k, k ≤ N ∧ i = nI k ∧ F k a, fun _ i => N - i.toNatClampNeg, ⟨k0, hk, rfl, h0⟩, ?_⟩
  rintro a i ⟨k, hk, rfl, hF⟩
  rcases Nat.lt_or_ge k N with h | h
  · exact hs k a _ h hF (fun a' h' => ⟨⟨k + 1, h, rfl, h'⟩, by dsimp only; rw [n_cl (by omega), n_cl (by omega)]; omega⟩)
  · have : k = N := by omega
    subst this; exact he a _ hF
theorem lpIA {α : Type} {B : Int32 → α → (Int32 → α → Prop) → Prop} {a0 : α} (F : Nat → α → Prop) (N k0 : Nat) (hN : N < 2147483648) (hk : k0 ≤ N) (h0 : F k0 a0) (hs : ∀ k a (K : Int32 → α → Prop), k < N → F k a → (∀ a', F (k + 1) a' → K (nI (k + 1)) a') → B (nI k) a K) (he : ∀ a K, F N a → B (nI N) a K) :
    ∃ (I : Int32 → α → Prop) (μ : Int32 → α → Nat), I (nI k0) a0 ∧ ∀ i a, I i a → B i a (fun i' a' => I i' a' ∧ μ i' a' < μ i a) := by
  refine ⟨fun i a => ∃ k, k ≤ N ∧ i = nI k ∧ F k a, fun i _ => N - i.toNatClampNeg, ⟨k0, hk, rfl, h0⟩, ?_⟩
  rintro i a ⟨k, hk, rfl, hF⟩
  rcases Nat.lt_or_ge k N with h | h
  · exact hs k a _ h hF (fun a' h' => ⟨⟨k + 1, h, rfl, h'⟩, by dsimp only; rw [n_cl (by omega), n_cl (by omega)]; omega⟩)
  · have : k = N := by omega
    subst this; exact he a _ hF
theorem lpAIB {α β : Type} {B : α → Int32 → β → (α → Int32 → β → Prop) → Prop} {a0 : α} {b0 : β} (F : Nat → α → β → Prop) (N k0 : Nat) (hN : N < 2147483648) (hk : k0 ≤ N) (h0 : F k0 a0 b0) (hs : ∀ k a b (K : α → Int32 → β → Prop), k < N → F k a b → (∀ a' b', F (k + 1) a' b' → K a' (nI (k + 1)) b') → B a (nI k) b K) (he : ∀ a b K, F N a b → B a (nI N) b K) :
    ∃ (I : α → Int32 → β → Prop) (μ : α → Int32 → β → Nat), I a0 (nI k0) b0 ∧ ∀ a i b, I a i b → B a i b (fun a' i' b' => I a' i' b' ∧ μ a' i' b' < μ a i b) := by
  refine ⟨fun a i b => ∃ k, k ≤ N ∧ i = nI k ∧ F k a b, fun _ i _ => N - i.toNatClampNeg, ⟨k0, hk, rfl, h0⟩, ?_⟩
  rintro a i b ⟨k, hk, rfl, hF⟩
  rcases Nat.lt_or_ge k N with h | h
  · exact hs k a b _ h hF (fun a' b' h' => ⟨⟨k + 1, h, rfl, h'⟩, by dsimp only; rw [n_cl (by omega), n_cl (by omega)]; omega⟩)
  · have : k = N := by omega
    subst this; exact he a b _ hF
