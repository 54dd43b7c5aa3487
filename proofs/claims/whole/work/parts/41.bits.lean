/-! the bit count -/
def M5 : Nat → Nat
  | 0 => 0
  | k + 1 => 5 + 16 * M5 k
def M3 : Nat → Nat
  | 0 => 0
  | k + 1 => 3 + 16 * M3 k
def f1 (n : Nat) : Nat := n - ((n / 2) &&& 5)
def f2 (n : Nat) : Nat := (n &&& 3) + ((n / 4) &&& 3)
def pY (k x : Nat) : Nat := x - ((x / 2) &&& M5 k)
def pZ (k y : Nat) : Nat := (y &&& M3 k) + ((y / 4) &&& M3 k)
theorem and_16 (a b c d : Nat) (ha : a < 16) (hc : c < 16) : (a + 16 * b) &&& (c + 16 * d) = (a &&& c) + 16 * (b &&& d) := by
  have h1 : ((a + 16 * b) &&& (c + 16 * d)) % 2 ^ 4 = ((a + 16 * b) % 2 ^ 4 &&& (c + 16 * d) % 2 ^ 4) := Nat.and_mod_two_pow
  have h2 : ((a + 16 * b) &&& (c + 16 * d)) / 2 ^ 4 = ((a + 16 * b) / 2 ^ 4 &&& (c + 16 * d) / 2 ^ 4) := Nat.and_div_two_pow
  rw [show (a + 16 * b) % 2 ^ 4 = a by omega, show (c + 16 * d) % 2 ^ 4 = c by omega] at h1
  rw [show (a + 16 * b) / 2 ^ 4 = b by omega, show (c + 16 * d) / 2 ^ 4 = d by omega] at h2
  omega
theorem pY_16 (k a b : Nat) (ha : a < 16) : pY (k + 1) (a + 16 * b) = f1 a + 16 * pY k b := by
  unfold pY f1
  rw [M5]
  have e1 : (a + 16 * b) / 2 = (a / 2 + 8 * (b % 2)) + 16 * (b / 2) := by omega
  have h : ∀ t, t < 8 → ∀ s, s < 2 → ((t + 8 * s) &&& 5) = (t &&& 5) := by decide +kernel
  rw [e1, and_16 _ _ _ _ (by omega) (by omega), h (a / 2) (by omega) (b % 2) (by omega)]
  have h1 : (a / 2 &&& 5) ≤ a / 2 := Nat.and_le_left
  have h2 : (b / 2 &&& M5 k) ≤ b / 2 := Nat.and_le_left
  omega
theorem pZ_16 (k a b : Nat) (ha : a < 16) : pZ (k + 1) (a + 16 * b) = f2 a + 16 * pZ k b := by
  unfold pZ f2
  rw [M3]
  have e1 : (a + 16 * b) / 4 = (a / 4 + 4 * (b % 4)) + 16 * (b / 4) := by omega
  have h : ∀ t, t < 4 → ∀ s, s < 4 → ((t + 4 * s) &&& 3) = (t &&& 3) := by decide +kernel
  rw [e1, and_16 a b 3 (M3 k) ha (by omega), and_16 (a / 4 + 4 * (b % 4)) (b / 4) 3 (M3 k) (by omega) (by omega), h (a / 4) (by omega) (b % 4) (by omega)]
  omega
theorem f1_lt : ∀ a : Nat, a < 16 → f1 a < 16 := by decide +kernel
theorem pYZ_16 (k a b : Nat) (ha : a < 16) : pZ (k + 1) (pY (k + 1) (a + 16 * b)) = f2 (f1 a) + 16 * pZ k (pY k b) := by
  rw [pY_16 k a b ha, pZ_16 k _ _ (f1_lt a ha)]
theorem pYZ_0 (k : Nat) : pZ k (pY k 0) = 0 := by
  unfold pZ pY
  simp
theorem f12_b : ∀ a : Nat, a < 16 → f2 (f1 a) = (a.testBit 0).toNat + (a.testBit 1).toNat + (a.testBit 2).toNat + (a.testBit 3).toNat ∧ f2 (f1 a) < 5 := by decide +kernel
def bE (z : Nat) : Nat := let u := (z + z / 16) &&& 252645135; let v := u + u / 256; (v + v / 65536) &&& 63
theorem bE_ok : ∀ a : Nat, a < 5 → ∀ b : Nat, b < 5 → ∀ c : Nat, c < 5 → ∀ d : Nat, d < 5 → ∀ e : Nat, e < 5 → bE (a + 16 * (b + 16 * (c + 16 * (d + 16 * e)))) = a + b + c + d + e := by decide +kernel
def tn (x : Int32) : Nat := x.toBitVec.toNat
theorem tn_lt (x : Int32) : tn x < 4294967296 := x.toBitVec.isLt
theorem tn_nI (x : Int32) : x = nI (tn x) := by
  apply Int32.toBitVec_inj.mp
  apply BitVec.eq_of_toNat_eq
  rw [pk_tn (tn_lt x)]
  rfl
theorem tn_and (x y : Int32) : tn (x &&& y) = tn x &&& tn y := by
  unfold tn
  rw [Int32.toBitVec_and, BitVec.toNat_and]
theorem tn_add (x y : Int32) (h : tn x + tn y < 4294967296) : tn (x + y) = tn x + tn y := by
  unfold tn at *
  rw [Int32.toBitVec_add, BitVec.toNat_add, Nat.mod_eq_of_lt (by omega)]
theorem tn_sub (x y : Int32) (h : tn y ≤ tn x) : tn (x - y) = tn x - tn y := by
  unfold tn at *
  rw [Int32.toBitVec_sub, BitVec.toNat_sub_of_le (BitVec.le_def.mpr h)]
theorem tn_sh (x : Int32) (s : Int32) (k : Nat) (hs : ((s.toUInt32 &&& Int32.toUInt32 31).toBitVec % 32).toNat = k) : tn (iushr x s) = tn x / 2 ^ k := pk_ushr x s k hs
theorem bitc {x : Int32} {P : Nat → Bool} {Q : Int32 → Prop} (h : bm x P) (hz : ∀ i, 20 ≤ i → P i = false) (k : Q (nI (ct P 20))) : wp_J6_bitCount_0f7a4 x Q := by
  have hb : ∀ i, (tn x).testBit i = P i := h
  have hlt : tn x < 2 ^ 20 := Nat.lt_pow_two_of_testBit _ (fun i hi => (hb i).trans (hz i hi))
  have hX : ∀ X, tn x = X → ∃ a b c d e, a < 16 ∧ b < 16 ∧ c < 16 ∧ d < 16 ∧ e < 16 ∧ X = a + 16 * (b + 16 * (c + 16 * (d + 16 * e))) := by
    rintro X rfl
    exact ⟨tn x % 16, tn x / 16 % 16, tn x / 256 % 16, tn x / 4096 % 16, tn x / 65536 % 16, by omega, by omega, by omega, by omega, by omega, by omega⟩
  obtain ⟨a, b, c, d, e, ha, hb', hc, hd, he, eX⟩ := hX _ rfl
  obtain ⟨fa, la⟩ := f12_b a ha
  obtain ⟨fb, lb⟩ := f12_b b hb'
  obtain ⟨fc, lc⟩ := f12_b c hc
  obtain ⟨fd, ld⟩ := f12_b d hd
  obtain ⟨fe, le⟩ := f12_b e he
  have bits : ∀ (q r t : Nat) (i : Nat), q < 16 → tn x / 2 ^ t = q + 16 * r → i < 4 → q.testBit i = P (i + t) := fun q r t i hq e hi => by
    rw [← hb, ← Nat.testBit_div_two_pow, e]
    have h0 : (q + 16 * r) % 2 ^ 4 = q := by omega
    have h1 := Nat.testBit_mod_two_pow (q + 16 * r) 4 i
    rw [h0, decide_eq_true hi, Bool.true_and] at h1
    exact h1
  have ya : ∀ i, i < 4 → a.testBit i = P (i + 0) := fun i hi => bits a (b + 16 * (c + 16 * (d + 16 * e))) 0 i ha (by omega) hi
  have yb : ∀ i, i < 4 → b.testBit i = P (i + 4) := fun i hi => bits b (c + 16 * (d + 16 * e)) 4 i hb' (by omega) hi
  have yc : ∀ i, i < 4 → c.testBit i = P (i + 8) := fun i hi => bits c (d + 16 * e) 8 i hc (by omega) hi
  have yd : ∀ i, i < 4 → d.testBit i = P (i + 12) := fun i hi => bits d e 12 i hd (by omega) hi
  have ye : ∀ i, i < 4 → e.testBit i = P (i + 16) := fun i hi => bits e 0 16 i he (by omega) hi
  have ecnt : ct P 20 = f2 (f1 a) + f2 (f1 b) + f2 (f1 c) + f2 (f1 d) + f2 (f1 e) := by
    rw [fa, fb, fc, fd, fe, ya 0 (by omega), ya 1 (by omega), ya 2 (by omega), ya 3 (by omega), yb 0 (by omega), yb 1 (by omega), yb 2 (by omega), yb 3 (by omega), yc 0 (by omega), yc 1 (by omega), yc 2 (by omega), yc 3 (by omega), yd 0 (by omega), yd 1 (by omega), yd 2 (by omega), yd 3 (by omega), ye 0 (by omega), ye 1 (by omega), ye 2 (by omega), ye 3 (by omega)]
    have t : ∀ b : Bool, (if b = true then 1 else 0) = b.toNat := fun b => by cases b <;> rfl
    simp only [ct, t, Nat.zero_add, Nat.add_zero, Nat.reduceAdd]
    omega
  have e5 : tn (1431655765 : Int32) = M5 8 := by decide +kernel
  have e3 : tn (858993459 : Int32) = M3 8 := by decide +kernel
  have eF : tn (252645135 : Int32) = 252645135 := by decide +kernel
  have e63 : tn (63 : Int32) = 63 := by decide +kernel
  have ez : pZ 8 (pY 8 (tn x)) = f2 (f1 a) + 16 * (f2 (f1 b) + 16 * (f2 (f1 c) + 16 * (f2 (f1 d) + 16 * f2 (f1 e)))) := by
    rw [eX, pYZ_16 7 a _ ha, pYZ_16 6 b _ hb', pYZ_16 5 c _ hc, pYZ_16 4 d _ hd, show e = e + 16 * 0 from rfl, pYZ_16 3 e 0 he, pYZ_0]
    rfl
  unfold wp_J6_bitCount_0f7a4
  have hy : ∀ y : Int32, y = x - ((iushr x (1 : Int32)) &&& (1431655765 : Int32)) → tn y = pY 8 (tn x) := by
    rintro y rfl
    have q : tn ((iushr x (1 : Int32)) &&& (1431655765 : Int32)) = (tn x / 2) &&& M5 8 := by
      rw [tn_and, tn_sh x 1 1 (by decide), e5]
    have q2 : (tn x / 2) &&& M5 8 ≤ tn x / 2 := Nat.and_le_left
    rw [tn_sub _ _ (by rw [q]; omega), q]; rfl
  generalize hyy : x - ((iushr x (1 : Int32)) &&& (1431655765 : Int32)) = y
  have hyt := hy y hyy.symm
  have hylt : tn y < 1048576 := by
    rw [hyt]; unfold pY; omega
  have hz2 : tn ((y &&& (858993459 : Int32)) + ((iushr y (2 : Int32)) &&& (858993459 : Int32))) = pZ 8 (pY 8 (tn x)) := by
    have q : tn ((iushr y (2 : Int32)) &&& (858993459 : Int32)) = (tn y / 4) &&& M3 8 := by
      rw [tn_and, tn_sh y 2 2 (by decide), e3]
    have q2 : tn (y &&& (858993459 : Int32)) = tn y &&& M3 8 := by rw [tn_and, e3]
    have q3 : (tn y / 4) &&& M3 8 ≤ tn y / 4 := Nat.and_le_left
    have q4 : tn y &&& M3 8 ≤ tn y := Nat.and_le_left
    rw [tn_add _ _ (by rw [q, q2]; omega), q, q2, hyt]; rfl
  generalize hzz : (y &&& (858993459 : Int32)) + ((iushr y (2 : Int32)) &&& (858993459 : Int32)) = z at hz2 ⊢
  rw [ez] at hz2
  have hzl : tn z < 1048576 := by omega
  have hu : tn ((z + iushr z (4 : Int32)) &&& (252645135 : Int32)) = ((tn z + tn z / 16) &&& 252645135) := by
    have q := tn_sh z 4 4 (by decide)
    rw [tn_and, eF, tn_add _ _ (by rw [q]; omega), q]
  have hul : ((tn z + tn z / 16) &&& 252645135) ≤ tn z + tn z / 16 := Nat.and_le_left
  generalize huu : (z + iushr z (4 : Int32)) &&& (252645135 : Int32) = u at hu ⊢
  have hv : tn (u + iushr u (8 : Int32)) = tn u + tn u / 256 := by
    have q := tn_sh u 8 8 (by decide)
    rw [tn_add _ _ (by rw [q]; omega), q]
  generalize hvv : u + iushr u (8 : Int32) = v at hv ⊢
  have hr : tn ((v + iushr v (16 : Int32)) &&& (63 : Int32)) = bE (tn z) := by
    have q := tn_sh v 16 16 (by decide)
    rw [tn_and, e63, tn_add _ _ (by rw [q]; omega), q, hv, hu]
    rfl
  rw [tn_nI ((v + iushr v (16 : Int32)) &&& (63 : Int32)), hr, hz2, bE_ok _ la _ lb _ lc _ ld _ le, ← ecnt]
  exact k
