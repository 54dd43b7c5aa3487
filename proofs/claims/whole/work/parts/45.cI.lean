/-! THE CLASS: the digest -/
def fd (f : Nat → Int32) (h : Int64) : Nat → Int64
  | 0 => h
  | k + 1 => (31 : Int64) * fd f h k + (f k).toInt64
def it (g : Nat → Int64 → Int64) (h : Int64) : Nat → Int64
  | 0 => h
  | k + 1 => g k (it g h k)
def gMk (S : Sv) (m : Nat) (h : Int64) : Int64 := fd (fun k => oWy S 0 m (nI k)) (fd (fun k => oMk S m (nI k)) h 7) 4
def gLg (S : Sv) (l : Nat) (h : Int64) : Int64 := (31 : Int64) * fd (fun k => oWb (drpL S l) (nI k)) (fd (fun k => oLg S l (nI k)) h 10) 4 + (oFt S l).toInt64
def gLp (S : Sv) (k : Nat) (h : Int64) : Int64 := fd (fun i => oLp S k (nI i)) h 8
theorem s_withMark {m : Nat} {h : Int64} {w : Wd} {S : Sv} {Q : Int64 → Prop} (hS : wf S) (hd : dA 0 w S) (hm : m < nM S) (k : Q (gMk S m h)) : wp_X8_withMark h (nI m) w Q := by
  unfold wp_X8_withMark wp_X8_withMark_L6
  refine lpAI (B := fun a i K => wp_X8_withMark_B6 (nI m) a i w Q K) (fun j a => a = fd (fun k => oMk S m (nI k)) h j) 7 0 (by omega) (Nat.zero_le _) rfl ?_ ?_
  · rintro j a K hj rfl hK
    unfold wp_X8_withMark_B6
    rw [show (7 : Int32) = nI 7 from rfl, n_le (by omega) (by omega), nI_1]
    exact ⟨fun z => absurd z (by omega), fun _ => s_ofMark hS hd hm (hK _ rfl)⟩
  · rintro a K rfl
    unfold wp_X8_withMark_B6
    refine ⟨fun _ => ?_, fun z => absurd (Int32.le_refl _) z⟩
    unfold wp_X8_withMark_L42
    refine lpAI (B := fun a i K => wp_X8_withMark_B42 (nI m) a i w Q K) (fun j a => a = fd (fun k => oWy S 0 m (nI k)) (fd (fun k => oMk S m (nI k)) h 7) j) 4 0 (by omega) (Nat.zero_le _) rfl ?_ ?_
    · rintro j a K hj rfl hK
      unfold wp_X8_withMark_B42
      rw [show (4 : Int32) = nI 4 from rfl, n_le (by omega) (by omega), nI_1]
      exact ⟨fun z => absurd z (by omega), fun _ => s_ofWay (a := 0) hS hd (by omega) hm (hK _ rfl)⟩
    · rintro a K rfl
      unfold wp_X8_withMark_B42
      exact ⟨fun _ => k, fun z => absurd (Int32.le_refl _) z⟩
theorem s_withLeg {l : Nat} {h : Int64} {w : Wd} {S : Sv} {Q : Int64 → Prop} (hS : wf S) (hd : dA 0 w S) (hl : l < nL S) (hd1 : dA 1 w (drpL S l)) (k : Q (gLg S l h)) : wp_X8_withLeg h (nI l) w Q := by
  unfold wp_X8_withLeg wp_X8_withLeg_L6
  refine lpAI (B := fun a i K => wp_X8_withLeg_B6 (nI l) a i w Q K) (fun j a => a = fd (fun k => oLg S l (nI k)) h j) 10 0 (by omega) (Nat.zero_le _) rfl ?_ ?_
  · rintro j a K hj rfl hK
    unfold wp_X8_withLeg_B6
    rw [show (10 : Int32) = nI 10 from rfl, n_le (by omega) (by omega), nI_1]
    exact ⟨fun z => absurd z (by omega), fun _ => s_ofLeg hS hd hl (hK _ rfl)⟩
  · rintro a K rfl
    unfold wp_X8_withLeg_B6
    refine ⟨fun _ => ?_, fun z => absurd (Int32.le_refl _) z⟩
    unfold wp_X8_withLeg_L42
    refine lpAI (B := fun a i K => wp_X8_withLeg_B42 (nI l) a i w Q K) (fun j a => a = fd (fun k => oWb (drpL S l) (nI k)) (fd (fun k => oLg S l (nI k)) h 10) j) 4 0 (by omega) (Nat.zero_le _) rfl ?_ ?_
    · rintro j a K hj rfl hK
      unfold wp_X8_withLeg_B42
      rw [show (4 : Int32) = nI 4 from rfl, n_le (by omega) (by omega), nI_1]
      exact ⟨fun z => absurd z (by omega), fun _ => s_wouldBe (wf_drpL hS hl) hd1 (hK _ rfl)⟩
    · rintro a K rfl
      unfold wp_X8_withLeg_B42
      exact ⟨fun _ => s_wouldFit hS hd.1 hl hd1 k, fun z => absurd (Int32.le_refl _) z⟩
theorem s_withLoop {j : Nat} {h : Int64} {w : Wd} {S : Sv} {Q : Int64 → Prop} (hS : wf S) (hd : dA 0 w S) (hj : j < nlp S) (k : Q (gLp S j h)) : wp_X8_withLoop h (nI j) w Q := by
  unfold wp_X8_withLoop wp_X8_withLoop_L6
  refine lpAI (B := fun a i K => wp_X8_withLoop_B6 (nI j) a i w Q K) (fun i a => a = fd (fun i => oLp S j (nI i)) h i) 8 0 (by omega) (Nat.zero_le _) rfl ?_ ?_
  · rintro i a K hi rfl hK
    unfold wp_X8_withLoop_B6
    rw [show (8 : Int32) = nI 8 from rfl, n_le (by omega) (by omega), nI_1]
    exact ⟨fun z => absurd z (by omega), fun _ => s_ofLoop hS hd.1 hd.2.2.1 hd.2.2.2.1 hj (hK _ rfl)⟩
  · rintro a K rfl
    unfold wp_X8_withLoop_B6
    exact ⟨fun _ => k, fun z => absurd (Int32.le_refl _) z⟩
def gTx (T : Tx) (h : Int64) : Int64 := fd T.2 ((31 : Int64) * h + (nI T.1).toInt64) T.1
theorem s_withText {h : Int64} {w : Wd} {T : Tx} {Q : Int64 → Prop} (ht : tX w T) (k : Q (gTx T h)) : wp_X8_withText h w Q := by
  obtain ⟨t1, t2, t3⟩ := ht
  unfold wp_X8_withText wp_X8_withText_L18
  rw [t1]
  refine lpAI (B := fun a i K => wp_X8_withText_B18 a i w Q K) (fun i a => a = fd T.2 ((31 : Int64) * h + (nI T.1).toInt64) i) T.1 0 (by omega) (Nat.zero_le _) rfl ?_ ?_
  · rintro i a K hi rfl hK
    unfold wp_X8_withText_B18
    rw [t1, n_le (by omega) (by omega), n_cl (by omega), t3 i hi, nI_1]
    exact ⟨fun z => absurd z (by omega), fun _ => ⟨n_in (by omega) (by omega), hK _ rfl⟩⟩
  · rintro a K rfl
    unfold wp_X8_withText_B18
    rw [t1]
    exact ⟨fun _ => k, fun z => absurd (Int32.le_refl _) z⟩
/-! the share of the good loops, and its bits -/
def shG (n b : Nat) : UInt64 := if n = 0 then FP.dconst1 else FP.ddiv (FP.i2d (nI n - nI b)) (FP.i2d (nI n))
def n64 (r : UInt64) : Bool := decide (r &&& 0x7fffffffffffffff ≤ 0x7ff0000000000000)
theorem n64_ok {r : UInt64} (h : n64 r = true) : vf_n64 r := by
  unfold n64 at h
  exact of_decide_eq_true (p := r &&& 0x7fffffffffffffff ≤ 0x7ff0000000000000) h
def bC : Nat → UInt64 → Int64 → Option Int64
  | 0, _, _ => none
  | k + 1, x, e =>
    if 0 ≤ (Op.cmpValue (FP.dcmp x FP.dconst1) .g) ∨ (lg_cmp e (1 : Int64)) ≤ 0 then
      (if n64 (FP.dsub x FP.dconst1) = true ∧ n64 (FP.dmul (FP.dsub x FP.dconst1) (4841369599423283200 : UInt64)) = true then some ((e <<< ((52 : Int32).toInt64 &&& 63)) ||| (FP.d2l (FP.dmul (FP.dsub x FP.dconst1) (4841369599423283200 : UInt64)))) else none)
    else if n64 (FP.dmul x (4611686018427387904 : UInt64)) = true then bC k (FP.dmul x (4611686018427387904 : UInt64)) (e - 1) else none
def bT (x : UInt64) : Option Int64 := if 0 < (Op.cmpValue (FP.dcmp x FP.dconst0) .g) then bC 10 x 1023 else some 0
theorem s_bitsC {Q : Int64 → Prop} : ∀ (k : Nat) (x : UInt64) (e : Int64) (r : Int64), bC k x e = some r → Q r → ∃ (I : UInt64 → Int64 → Prop) (μ : UInt64 → Int64 → Nat), I x e ∧ ∀ (x2 : UInt64) (x4 : Int64), I x2 x4 → wp_X8_bitsOf_B15 x2 x4 Q (fun x2' x4' => I x2' x4' ∧ μ x2' x4' < μ x2 x4) := by
  intro k x e r h hq
  have key : ∀ (k : Nat) (x : UInt64) (e : Int64), bC k x e = some r → ∃ j, bC j x e = some r ∧ ∀ i, i < j → bC i x e ≠ some r := by
    intro k x e h
    induction k using Nat.strongRecOn with
    | ind k ih =>
      by_cases q : ∃ i, i < k ∧ bC i x e = some r
      · obtain ⟨i, hi, hb⟩ := q
        exact ih i hi hb
      · exact ⟨k, h, fun i hi z => q ⟨i, hi, z⟩⟩
  have hex : ∃ (μ : UInt64 → Int64 → Nat), ∀ x e, (∃ j, bC j x e = some r) → bC (μ x e) x e = some r ∧ ∀ i, i < μ x e → bC i x e ≠ some r := by
    refine ⟨fun x e => @dite _ (∃ j, bC j x e = some r ∧ ∀ i, i < j → bC i x e ≠ some r) (Classical.propDecidable _) (fun z => Classical.choose z) (fun _ => 0), fun x e ⟨j, hj⟩ => ?_⟩
    have z := key j x e hj
    dsimp only
    rw [dif_pos z]
    exact Classical.choose_spec z
  obtain ⟨μ, hμ⟩ := hex
  refine ⟨fun x e => ∃ j, bC j x e = some r, μ, ⟨k, h⟩, fun x e hI => ?_⟩
  obtain ⟨h1, h2⟩ := hμ x e hI
  cases hm : μ x e with
  | zero => rw [hm] at h1; cases h1
  | succ m =>
    rw [hm, bC] at h1
    unfold wp_X8_bitsOf_B15 wp_X8_bitsOf_J43
    by_cases c : 0 ≤ (Op.cmpValue (FP.dcmp x FP.dconst1) .g) ∨ (lg_cmp e (1 : Int64)) ≤ 0
    · rw [if_pos c] at h1
      by_cases c2 : n64 (FP.dsub x FP.dconst1) = true ∧ n64 (FP.dmul (FP.dsub x FP.dconst1) (4841369599423283200 : UInt64)) = true
      · rw [if_pos c2] at h1
        rw [Option.some.inj h1]
        refine ⟨fun _ => ⟨n64_ok c2.1, n64_ok c2.2, hq⟩, fun z => ⟨fun _ => ⟨n64_ok c2.1, n64_ok c2.2, hq⟩, fun y => ?_⟩⟩
        rcases c with c | c
        · exact absurd c z
        · exact absurd c y
      · rw [if_neg c2] at h1; cases h1
    · rw [if_neg c] at h1
      by_cases c2 : n64 (FP.dmul x (4611686018427387904 : UInt64)) = true
      · rw [if_pos c2] at h1
        refine ⟨fun z => absurd (Or.inl z) c, fun _ => ⟨fun z => absurd (Or.inr z) c, fun _ => ⟨n64_ok c2, ⟨m, h1⟩, ?_⟩⟩⟩
        obtain ⟨h3, h4⟩ := hμ _ _ ⟨m, h1⟩
        rcases Nat.lt_or_ge m (μ (FP.dmul x (4611686018427387904 : UInt64)) (e - 1)) with q | q
        · exact absurd h1 (h4 m q)
        · omega
      · rw [if_neg c2] at h1; cases h1
theorem s_bitsOf {x : UInt64} {r : Int64} {Q : Int64 → Prop} (h : bT x = some r) (q : Q r) : wp_X8_bitsOf x Q := by
  unfold wp_X8_bitsOf
  unfold bT at h
  refine ⟨fun c => ?_, fun c => ?_⟩
  · rw [if_pos c] at h
    unfold wp_X8_bitsOf_L15
    exact s_bitsC 10 x 1023 r h q
  · rw [if_neg c] at h
    rw [Option.some.inj h]; exact q
theorem shG_ok : ∀ n : Nat, n < 21 → ∀ b : Nat, b < n + 1 → (n = 0 ∨ n64 (shG n b) = true) ∧ (bT (shG n b)).isSome = true := by decide +kernel
theorem s_shareOfGood {n : Nat} {w : Wd} {S : Sv} {Q : UInt64 → Prop} (hS : wf S) (hd : dC n w S) (k : Q (shG (nlp S) (nbd S))) : wp_X2_shareOfGood n w Q := by
  have hl := hS.l
  have hcn := nlp_le (S := S)
  have hb : nbd S ≤ nlp S := ct_le _ _
  have ok := (shG_ok (nlp S) (by omega) (nbd S) (by omega)).1
  unfold wp_X2_shareOfGood
  rw [hd.1, show (0 : Int32) = nI 0 from rfl, n_eq (by omega) (by omega)]
  refine ⟨fun z => s_howManyBad hS hd ?_, fun z => ?_⟩
  · have e : shG (nlp S) (nbd S) = FP.ddiv (FP.i2d (nI (nlp S) - nI (nbd S))) (FP.i2d (nI (nlp S))) := by rw [shG, if_neg z]
    rw [← e]
    exact ⟨n64_ok (ok.resolve_left z), k⟩
  · rw [shG, if_pos z] at k; exact k
def gBt (S : Sv) : Int64 := (bT (shG (nlp S) (nbd S))).getD 0
theorem gBt_ok {S : Sv} (hS : wf S) : bT (shG (nlp S) (nbd S)) = some (gBt S) := by
  have hl := hS.l
  have hcn := nlp_le (S := S)
  have hb : nbd S ≤ nlp S := ct_le _ _
  have ok := (shG_ok (nlp S) (by omega) (nbd S) (by omega)).2
  unfold gBt
  cases q : bT (shG (nlp S) (nbd S)) with
  | none => rw [q] at ok; cases ok
  | some r => rfl
