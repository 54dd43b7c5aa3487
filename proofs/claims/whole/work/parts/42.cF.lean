/-! THE CLASS: Loops, looks -/
def ff (P : Nat → Bool) : Nat → Int
  | 0 => -1
  | k + 1 => if ff P k < 0 ∧ P k = true then (k : Int) else ff P k
theorem ff_bd {P : Nat → Bool} {k : Nat} : -1 ≤ ff P k ∧ ff P k < k := by
  induction k with
  | zero => exact ⟨by show (-1 : Int) ≤ -1; omega, by show (-1 : Int) < ((0 : Nat) : Int); omega⟩
  | succ k ih => rw [ff]; split <;> omega
theorem ff_no {P : Nat → Bool} {k : Nat} (h : ∀ i, i < k → P i = false) : ff P k = -1 := by
  induction k with
  | zero => rfl
  | succ k ih => rw [ff, ih (fun i hi => h i (by omega)), if_neg (by rw [h k (by omega)]; simp)]
theorem ff_at {P : Nat → Bool} {j k : Nat} (h : ∀ i, i < j → P i = false) (hp : P j = true) (hj : j < k) : ff P k = j := by
  induction k with
  | zero => omega
  | succ k ih =>
    by_cases z : j = k
    · subst z
      rw [ff, ff_no h, if_pos ⟨by omega, hp⟩]
    · rw [ff, ih (by omega), if_neg (by omega)]
theorem lpI2 {B : Int32 → (Int32 → Prop) → Prop} (F : Nat → Prop) (N k0 : Nat) (hN : N < 2147483648) (hk : k0 ≤ N) (h0 : F k0) (hs : ∀ k (K : Int32 → Prop), k < N → F k → (F (k + 1) → K (nI (k + 1))) → B (nI k) K) (he : ∀ K, F N → B (nI N) K) :
    ∃ (I : Int32 → Prop) (μ : Int32 → Nat), I (nI k0) ∧ ∀ i, I i → B i (fun i' => I i' ∧ μ i' < μ i) := by
  refine ⟨fun i => ∃ k, k ≤ N ∧ i = nI k ∧ F k, fun i => N - i.toNatClampNeg, ⟨k0, hk, rfl, h0⟩, ?_⟩
  rintro i ⟨k, hk, rfl, hF⟩
  rcases Nat.lt_or_ge k N with h | h
  · exact hs k _ h hF (fun h' => ⟨⟨k + 1, h, rfl, h'⟩, by dsimp only; rw [n_cl (by omega), n_cl (by omega)]; omega⟩)
  · have : k = N := by omega
    subst this; exact he _ hF
def nbd (S : Sv) : Nat := ct (bad S) (nlp S)
def hwl (S : Sv) (l : Nat) : Nat := ct (fun k => inL S k l) (nlp S)
def hbl (S : Sv) (l : Nat) : Nat := ct (fun k => bad S k && inL S k l) (nlp S)
def mor (S : Sv) (l o : Nat) : Bool := decide (hwl S l < hwl S o) || (decide (hwl S l = hwl S o) && decide (ln S o < ln S l))
def wsK (S : Sv) : Nat → Int
  | 0 => -1
  | k + 1 => if wsK S k < 0 ∨ exc S (wsK S k).toNat < exc S k then (k : Int) else wsK S k
def suK (S : Sv) : Nat → Int
  | 0 => -1
  | k + 1 => if (0 < nbd S ∧ hbl S k = nbd S) ∧ (suK S k < 0 ∨ mor S k (suK S k).toNat = true) then (k : Int) else suK S k
theorem wsK_bd {S : Sv} {k : Nat} : -1 ≤ wsK S k ∧ wsK S k < k := by
  induction k with
  | zero => exact ⟨by show (-1 : Int) ≤ -1; omega, by show (-1 : Int) < ((0 : Nat) : Int); omega⟩
  | succ k ih => rw [wsK]; split <;> omega
theorem suK_bd {S : Sv} {k : Nat} : -1 ≤ suK S k ∧ suK S k < k := by
  induction k with
  | zero => exact ⟨by show (-1 : Int) ≤ -1; omega, by show (-1 : Int) < ((0 : Nat) : Int); omega⟩
  | succ k ih => rw [suK]; split <;> omega
def smm (S : Sv) : Int := sm (fun k => ((miss S k).natAbs : Int)) (nlp S)
def smc (S : Sv) : Int := sm (fun l => ((cor S l).natAbs : Int)) (nL S)
theorem TT_ge {S : Sv} {F : Nat → Bool} {l : Nat} (hl : l < nL S) (h : F l = true) : (ln S l : Int) ≤ TT S F := by
  unfold TT
  rw [sm_one hl, if_pos h]
  have := sm_nn (n := nL S) (f := fun k => if k = l then 0 else if F k = true then (ln S k : Int) else 0) (fun k _ => by
    split
    · omega
    · split <;> omega)
  omega
theorem cor_bd' {S : Sv} (hS : wf S) {l : Nat} (hl : l < nL S) (k : Nat) (hk : k ≤ nlp S) : ((spK S k).1 l).natAbs ≤ 787389 := by
  induction k with
  | zero => show (0 : Int).natAbs ≤ 787389; decide
  | succ k ih =>
    show ((spS S (spK S k) k).1 l).natAbs ≤ 787389
    unfold spS
    dsimp only
    by_cases q : fre S (spK S k).2 k l = true
    · have q' : inL S k l = true ∧ (spK S k).2 l = false := by
        unfold fre at q
        simpa using q
      have hm := spM_le hS (show k < nlp S by omega)
      rw [if_pos q, not_gone q'.2, show MM S (spK S k).1 k = spM S k from rfl]
      obtain ⟨b1, b2, b3⟩ := shr_bd hS (F := fre S (spK S k).2 k) (m := ((spM S k).natAbs : Int)) (by omega) hl q
      have hT := TT_pos hS hl q
      have hg := TT_ge hl q
      have hb : shr S (fre S (spK S k).2 k) ((spM S k).natAbs : Int) l ≤ ((spM S k).natAbs : Int) + 1 := by
        by_cases c : shr S (fre S (spK S k).2 k) ((spM S k).natAbs : Int) l ≤ ((spM S k).natAbs : Int) + 1
        · exact c
        · have e1 := Int.mul_le_mul_of_nonneg_right (show ((spM S k).natAbs : Int) + 2 ≤ shr S (fre S (spK S k).2 k) ((spM S k).natAbs : Int) l by omega) (Int.le_of_lt hT)
          have e2 := Int.mul_le_mul_of_nonneg_left hg (show (0 : Int) ≤ ((spM S k).natAbs : Int) by omega)
          rw [Int.add_mul] at e1
          omega
      generalize shr S (fre S (spK S k).2 k) ((spM S k).natAbs : Int) l = z at b1 hb ⊢
      rcases sg_one q'.1 with e | e <;> rw [e] <;> split <;> omega
    · rw [if_neg q]; exact ih (by omega)
theorem cor_bd {S : Sv} (hS : wf S) {l : Nat} (hl : l < nL S) : (cor S l).natAbs ≤ 787389 := cor_bd' hS hl _ (Nat.le_refl _)
theorem s_missesTogether {n : Nat} {w : Wd} {S : Sv} {Q : Int32 → Prop} (hS : wf S) (hd : dC n w S) (k : Q (iI (smm S))) : wp_X2_missesTogether n w Q := by
  have hl := hS.l
  have hcn := nlp_le (S := S)
  unfold wp_X2_missesTogether wp_X2_missesTogether_L4
  refine lpAI (B := fun a i K => wp_X2_missesTogether_B4 n a i w Q K) (fun j a => a = iI (sm (fun k => ((miss S k).natAbs : Int)) j)) (nlp S) 0 (by omega) (Nat.zero_le _) rfl ?_ ?_
  · rintro j a K hj rfl hK
    have hb := miss_bd hS j
    unfold wp_X2_missesTogether_B4
    rw [hd.1, n_le (by omega) (by omega), n_cl (by omega), (hd.2.2 j hj).2.2.2.2, iabs_iI ⟨by omega, by omega⟩, iI_add, nI_1]
    exact ⟨fun z => absurd z (by omega), fun _ => ⟨n_in (by omega) (by omega), hK _ rfl⟩⟩
  · rintro a K rfl
    unfold wp_X2_missesTogether_B4
    rw [hd.1]
    exact ⟨fun _ => k, fun z => absurd (Int32.le_refl _) z⟩
theorem s_correctionsTogether {n : Nat} {w : Wd} {S : Sv} {Q : Int32 → Prop} (hS : wf S) (hr : rS n w S) (hd : dS n w S) (k : Q (iI (smc S))) : wp_X2_correctionsTogether n w Q := by
  have hl := hS.l
  unfold wp_X2_correctionsTogether wp_X2_correctionsTogether_L4
  refine lpAI (B := fun a i K => wp_X2_correctionsTogether_B4 n a i w Q K) (fun j a => a = iI (sm (fun l => ((cor S l).natAbs : Int)) j)) (nL S) 0 (by omega) (Nat.zero_le _) rfl ?_ ?_
  · rintro j a K hj rfl hK
    have hb := cor_bd hS hj
    unfold wp_X2_correctionsTogether_B4
    rw [hr.2.1, n_le (by omega) (by omega), n_cl (by omega), hd.1 j hj, iabs_iI ⟨by omega, by omega⟩, iI_add, nI_1]
    exact ⟨fun z => absurd z (by omega), fun _ => ⟨n_in (by omega) (by omega), hK _ rfl⟩⟩
  · rintro a K rfl
    unfold wp_X2_correctionsTogether_B4
    rw [hr.2.1]
    exact ⟨fun _ => k, fun z => absurd (Int32.le_refl _) z⟩
theorem s_howManyWith {n l : Nat} {w : Wd} {S : Sv} {Q : Int32 → Prop} (hS : wf S) (hd : dC n w S) (hll : l < nL S) (k : Q (nI (hwl S l))) : wp_X2_howManyWith n (nI l) w Q := by
  have hl := hS.l
  have hcn := nlp_le (S := S)
  unfold wp_X2_howManyWith wp_X2_howManyWith_L4
  refine lpAI (B := fun a i K => wp_X2_howManyWith_B4 n (nI l) a i w Q K) (fun j a => a = nI (ct (fun k => inL S k l) j)) (nlp S) 0 (by omega) (Nat.zero_le _) rfl ?_ ?_
  · rintro j a K hj rfl hK
    unfold wp_X2_howManyWith_B4
    rw [hd.1, n_le (by omega) (by omega), n_cl (by omega), nI_1, nI_1]
    refine ⟨fun z => absurd z (by omega), fun _ => ⟨n_in (by omega) (by omega), s_isIn (hd.2.2 j hj).2.1 (by omega) (fun hp => ⟨fun z => absurd z (by decide), fun _ => hK _ ?_⟩) (fun hp => ⟨fun _ => hK _ ?_, fun z => absurd rfl z⟩)⟩⟩
    · rw [ct, if_pos hp]
    · rw [ct, if_neg (by rw [hp]; decide), Nat.add_zero]
  · rintro a K rfl
    unfold wp_X2_howManyWith_B4
    rw [hd.1]
    exact ⟨fun _ => k, fun z => absurd (Int32.le_refl _) z⟩
theorem bdK_at {S : Sv} {j : Nat} (hj : j < nlp S) : bdK S (nlp S) j = bad S j := by
  unfold bdK
  rw [decide_eq_true hj, Bool.true_and]
theorem s_howManyBadWith {n l : Nat} {w : Wd} {S : Sv} {Q : Int32 → Prop} (hS : wf S) (hd : dC n w S) (hll : l < nL S) (k : Q (nI (hbl S l))) : wp_X2_howManyBadWith n (nI l) w Q := by
  have hl := hS.l
  have hcn := nlp_le (S := S)
  unfold wp_X2_howManyBadWith wp_X2_howManyBadWith_L4
  refine lpAI (B := fun a i K => wp_X2_howManyBadWith_B4 n (nI l) a i w Q K) (fun j a => a = nI (ct (fun k => bad S k && inL S k l) j)) (nlp S) 0 (by omega) (Nat.zero_le _) rfl ?_ ?_
  · rintro j a K hj rfl hK
    unfold wp_X2_howManyBadWith_B4
    rw [hd.1, n_le (by omega) (by omega), n_cl (by omega), nI_1, nI_1]
    refine ⟨fun z => absurd z (by omega), fun _ => s_isIn hd.2.1 (by omega) (fun hp => ⟨fun z => absurd z (by decide), fun _ => ⟨n_in (by omega) (by omega), ?_⟩⟩) (fun hp => ⟨fun _ => hK _ ?_, fun z => absurd rfl z⟩)⟩
    · rw [bdK_at hj] at hp
      refine s_isIn (hd.2.2 j hj).2.1 (by omega) (fun hq => ⟨fun z => absurd z (by decide), fun _ => hK _ ?_⟩) (fun hq => ⟨fun _ => hK _ ?_, fun z => absurd rfl z⟩)
      · rw [ct, hp, hq]; rfl
      · rw [ct, hp, hq]; rfl
    · rw [bdK_at hj] at hp
      rw [ct, hp]; rfl
  · rintro a K rfl
    unfold wp_X2_howManyBadWith_B4
    rw [hd.1]
    exact ⟨fun _ => k, fun z => absurd (Int32.le_refl _) z⟩
theorem ct_cut (P : Nat → Bool) {k n : Nat} (h : k ≤ n) : ct (fun i => decide (i < k) && P i) n = ct P k := by
  induction n with
  | zero => rw [show k = 0 by omega]; rfl
  | succ n ih =>
    rw [ct]
    by_cases z : k = n + 1
    · subst z
      rw [ct]
      have e : ct (fun i => decide (i < n + 1) && P i) n = ct P n := ct_congr (fun i hi => by rw [decide_eq_true (show i < n + 1 by omega), Bool.true_and])
      rw [e, decide_eq_true (show n < n + 1 by omega), Bool.true_and]
    · rw [ih (by omega), decide_eq_false (show ¬ n < k by omega), Bool.false_and]; rfl
theorem s_howManyBad {n : Nat} {w : Wd} {S : Sv} {Q : Int32 → Prop} (hS : wf S) (hd : dC n w S) (k : Q (nI (nbd S))) : wp_X2_howManyBad n w Q := by
  have hl := hS.l
  have hcn := nlp_le (S := S)
  unfold wp_X2_howManyBad
  refine bitc hd.2.1 (fun i hi => by unfold bdK; rw [decide_eq_false (show ¬ i < nlp S by omega), Bool.false_and]) ?_
  rw [show ct (bdK S (nlp S)) 20 = nbd S from ct_cut (bad S) (by omega)]
  exact k
theorem s_worstLoop {n : Nat} {w : Wd} {S : Sv} {Q : Int32 → Prop} (hS : wf S) (hr : rS n w S) (hd : dC n w S) (k : Q (iI (wsK S (nlp S)))) : wp_X2_worstLoop n w Q := by
  have hl := hS.l
  have hcn := nlp_le (S := S)
  unfold wp_X2_worstLoop wp_X2_worstLoop_L4
  refine lpAI (B := fun a i K => wp_X2_worstLoop_B4 n a i w Q K) (fun j a => a = iI (wsK S j)) (nlp S) 0 (by omega) (Nat.zero_le _) rfl ?_ ?_
  · rintro j a K hj rfl hK
    have hb := wsK_bd (S := S) (k := j)
    unfold wp_X2_worstLoop_B4
    rw [hd.1, n_le (by omega) (by omega), iI_lt0 ⟨by omega, by omega⟩]
    refine ⟨fun z => absurd z (by omega), fun _ => ⟨fun c => ?_, fun c => ?_⟩⟩
    · unfold wp_X2_worstLoop_J29
      rw [nI_1]
      exact hK _ (by rw [wsK, if_pos (Or.inl c), iI_nat])
    · have e : iI (wsK S j) = nI (wsK S j).toNat := by rw [← iI_nat]; congr 1; omega
      obtain ⟨g1, g2, g3, g4, g5⟩ := hd.2.2 j hj
      obtain ⟨i1, i2, i3, i4, i5⟩ := hd.2.2 (wsK S j).toNat (by omega)
      have b1 := exc_bd hS j
      have b2 := exc_bd hS (wsK S j).toNat
      refine s_excess hS hr (by omega) g3 g5 ?_
      rw [e]
      refine s_excess hS hr (by omega) i3 i5 ?_
      rw [iI_le ⟨by omega, by omega⟩ ⟨by omega, by omega⟩, nI_1]
      refine ⟨fun z => hK _ ?_, fun z => ?_⟩
      · rw [wsK, if_neg (by omega), e]
      · unfold wp_X2_worstLoop_J29
        rw [nI_1]
        exact hK _ (by rw [wsK, if_pos (by omega), iI_nat])
  · rintro a K rfl
    unfold wp_X2_worstLoop_B4
    rw [hd.1]
    exact ⟨fun _ => k, fun z => absurd (Int32.le_refl _) z⟩
theorem s_isMoreSuspect {n l o : Nat} {w : Wd} {S : Sv} {Q : Int32 → Prop} (hS : wf S) (hr : rS n w S) (hd : dC n w S) (hl1 : l < nL S) (ho : o < nL S) (k1 : mor S l o = true → Q 1) (k0 : mor S l o = false → Q 0) : wp_X2_isMoreSuspect n (nI l) (nI o) w Q := by
  have hl := hS.l
  have hcn := nlp_le (S := S)
  have c1 : hwl S l ≤ nlp S := ct_le _ _
  have c2 : hwl S o ≤ nlp S := ct_le _ _
  have g1 := hS.g hl1
  have g2 := hS.g ho
  unfold wfL at g1 g2
  unfold wp_X2_isMoreSuspect wp_X2_isMoreSuspect_J50
  refine s_howManyWith hS hd hl1 (s_howManyWith hS hd ho ?_)
  rw [n_lt (by omega) (by omega), n_eq (by omega) (by omega), n_cl (by omega), n_cl (by omega), (hr.2.2.2.1 l hl1).2.2.2, (hr.2.2.2.1 o ho).2.2.2, n_le (by omega) (by omega)]
  refine ⟨fun z => ⟨Or.inr rfl, k1 (by simp [mor, z])⟩, fun z => ⟨fun y => ⟨Or.inl rfl, k0 (by simp [mor, y]; omega)⟩, fun y => ⟨n_in (by omega) (by omega), n_in (by omega) (by omega), fun x => ⟨Or.inl rfl, k0 (by simp [mor, y]; omega)⟩, fun x => ⟨Or.inr rfl, k1 (by simp [mor, y]; omega)⟩⟩⟩⟩
theorem bm_z {x : Int32} {P : Nat → Bool} (h : bm x P) : x = 0 ↔ ∀ i, P i = false := by
  constructor
  · rintro rfl i
    exact bm_inj h bm_0 i
  · intro q
    exact bm_eq h bm_0 q
theorem ct_z {P : Nat → Bool} {n : Nat} (h : ct P n = 0) {i : Nat} (hi : i < n) : P i = false := by
  cases q : P i
  · rfl
  · have := ct_pos hi q
    omega
theorem s_suspectLeg {n : Nat} {w : Wd} {S : Sv} {Q : Int32 → Prop} (hS : wf S) (hr : rS n w S) (hd : dC n w S) (k : Q (iI (suK S (nL S)))) : wp_X2_suspectLeg n w Q := by
  have hl := hS.l
  have hcn := nlp_le (S := S)
  have hz : (wi w n 12 4) = 0 ↔ nbd S = 0 := by
    rw [bm_z hd.2.1]
    constructor
    · intro q
      cases e : nbd S with
      | zero => rfl
      | succ m =>
        obtain ⟨i, hi, hb⟩ := ct_ex (P := bad S) (n := nlp S) (by unfold nbd at e; omega)
        have := q i
        rw [bdK_at hi, hb] at this
        cases this
    · intro q i
      unfold bdK
      by_cases hi : i < nlp S
      · rw [ct_z q hi, Bool.and_false]
      · rw [decide_eq_false hi, Bool.false_and]
  have cb : nbd S ≤ nlp S := ct_le _ _
  unfold wp_X2_suspectLeg wp_X2_suspectLeg_L4
  refine lpAI (B := fun a i K => wp_X2_suspectLeg_B4 n a i w Q K) (fun j a => a = iI (suK S j)) (nL S) 0 (by omega) (Nat.zero_le _) rfl ?_ ?_
  · rintro j a K hj rfl hK
    have hb := suK_bd (S := S) (k := j)
    have ch : hbl S j ≤ nlp S := ct_le _ _
    unfold wp_X2_suspectLeg_B4
    rw [hr.2.1, n_le (by omega) (by omega), hz, nI_1]
    refine ⟨fun z => absurd z (by omega), fun _ => ⟨fun c => hK _ (by rw [suK, if_neg (by omega)]), fun c => s_howManyBadWith hS hd hj (s_howManyBad hS hd ?_)⟩⟩
    rw [n_eq (by omega) (by omega), iI_lt0 ⟨by omega, by omega⟩]
    refine ⟨fun z => hK _ (by rw [suK, if_neg (fun y => z y.1.2)]), fun z => ⟨fun y => ?_, fun y => ?_⟩⟩
    · unfold wp_X2_suspectLeg_J47
      rw [nI_1]
      exact hK _ (by rw [suK, if_pos ⟨⟨by omega, z⟩, Or.inl y⟩, iI_nat])
    · have e : iI (suK S j) = nI (suK S j).toNat := by rw [← iI_nat]; congr 1; omega
      rw [e]
      refine s_isMoreSuspect hS hr hd hj (by omega) (fun m => ⟨fun x => absurd x (by decide), fun _ => ?_⟩) (fun m => ⟨fun _ => hK _ ?_, fun x => absurd rfl x⟩)
      · unfold wp_X2_suspectLeg_J47
        rw [nI_1]
        exact hK _ (by rw [suK, if_pos ⟨⟨by omega, z⟩, Or.inr m⟩, iI_nat])
      · rw [suK, if_neg (fun x => ?_), e]
        rcases x.2 with x | x
        · exact y x
        · rw [m] at x; cases x
  · rintro a K rfl
    unfold wp_X2_suspectLeg_B4
    rw [hr.2.1]
    exact ⟨fun _ => k, fun z => absurd (Int32.le_refl _) z⟩
theorem s_closedBy {n l : Nat} {w : Wd} {S : Sv} {Q : Int32 → Prop} (hS : wf S) (hd : dC n w S) (hll : l < nL S) (k : Q (iI (ff (fun k => cl S k == l) (nlp S)))) : wp_X2_closedBy n (nI l) w Q := by
  have hl := hS.l
  have hcn := nlp_le (S := S)
  unfold wp_X2_closedBy wp_X2_closedBy_L2
  refine lpI2 (B := fun i K => wp_X2_closedBy_B2 n (nI l) i w Q K) (fun j => ∀ i, i < j → (cl S i == l) = false) (nlp S) 0 (by omega) (Nat.zero_le _) (fun i h => absurd h (by omega)) ?_ ?_
  · rintro j K hj hI hK
    have hc := (cl_lt hj).1
    unfold wp_X2_closedBy_B2
    rw [hd.1, n_le (by omega) (by omega), n_cl (by omega), (hd.2.2 j hj).1, n_eq (by omega) (by omega), nI_1]
    refine ⟨fun z => absurd z (by omega), fun _ => ⟨n_in (by omega) (by omega), fun c => hK (fun i hi => ?_), fun c => ?_⟩⟩
    · by_cases z : i = j
      · rw [z]; simpa using c
      · exact hI i (by omega)
    · rw [ff_at (P := fun k => cl S k == l) hI (by simpa using c) hj, iI_nat] at k
      exact k
  · rintro K hI
    unfold wp_X2_closedBy_B2
    rw [hd.1]
    refine ⟨fun _ => ?_, fun z => absurd (Int32.le_refl _) z⟩
    rw [ff_no (P := fun k => cl S k == l) hI] at k
    exact k
/-! masks that have one value -/
def mkB (P : Nat → Bool) : Nat → Int32
  | 0 => 0
  | k + 1 => mkB P k ||| (if P k = true then (1 : Int32) <<< (nI k &&& 31) else 0)
def mk (P : Nat → Bool) : Int32 := mkB P 20
theorem mkB_bm (P : Nat → Bool) (k : Nat) (hk : k ≤ 31) : bm (mkB P k) (fun i => decide (i < k) && P i) := by
  induction k with
  | zero => exact bm_congr bm_0 (fun i => by rw [decide_eq_false (by omega), Bool.false_and])
  | succ k ih =>
    rw [mkB]
    by_cases h : P k = true
    · rw [if_pos h]
      refine bm_congr (bm_or (ih (by omega)) (bm_bit k (by omega))) (fun i => ?_)
      by_cases z : i = k
      · rw [z, h, decide_eq_true (show k < k + 1 by omega)]; simp
      · rw [decide_eq_false z, Bool.or_false, decide_eq_decide.mpr (show i < k ↔ i < k + 1 by omega)]
    · rw [if_neg h]
      refine bm_congr (bm_or (ih (by omega)) bm_0) (fun i => ?_)
      rw [Bool.or_false]
      by_cases z : i = k
      · rw [z, show P k = false by simpa using h, Bool.and_false, Bool.and_false]
      · rw [decide_eq_decide.mpr (show i < k ↔ i < k + 1 by omega)]
theorem mk_of {x : Int32} {P : Nat → Bool} (h : bm x P) (hz : ∀ i, P i = true → i < 20) : x = mk P :=
  bm_eq h (mkB_bm P 20 (by omega)) (fun i => by
    cases q : P i
    · rw [Bool.and_false]
    · rw [decide_eq_true (hz i q)]; rfl)
def sgn (x : Int) : Int32 := if x = 0 then 0 else if 0 < x then 1 else 2
def b32 (b : Bool) : Int32 := if b = true then 1 else 0
def oLp (S : Sv) (k : Nat) (what : Int32) : Int32 :=
  if what = 0 then nI (cl S k) else if what = 1 then mk (inL S k) else if what = 2 then nI (lenL S k) else if what = 3 then iI (miss S k).natAbs else if what = 4 then sgn (miss S k) else if what = 5 then iI (alw S k) else if what = 6 then b32 (bad S k) else iI (spM S k).natAbs
theorem s_ofLoop {n j : Nat} {what : Int32} {w : Wd} {S : Sv} {Q : Int32 → Prop} (hS : wf S) (hr : rS n w S) (hd : dC n w S) (hs : dS n w S) (hj : j < nlp S) (k : Q (oLp S j what)) : wp_X2_ofLoop n (nI j) what w Q := by
  have hl := hS.l
  have hcn := nlp_le (S := S)
  obtain ⟨g1, g2, g3, g4, g5⟩ := hd.2.2 j hj
  have hin := n_in (show j < 20 by omega) (by omega)
  have hb := miss_bd hS j
  unfold wp_X2_ofLoop
  rw [n_cl (by omega), g1, g3, g5, hs.2 j hj, iabs_iI ⟨by omega, by omega⟩]
  refine ⟨fun z => ⟨hin, ?_⟩, fun z => ⟨hin, ?_⟩, fun z => ⟨hin, ?_⟩, fun z => ⟨hin, ?_⟩, fun z => ⟨hin, ?_⟩, fun z => ?_, fun z => ?_, fun z0 z1 z2 z3 z4 z5 z6 => ⟨hin, ?_⟩⟩
  · subst z; exact k
  · subst z
    rw [mk_of g2 (fun i hi => by have := inL_lt hS hj hi; omega)]; exact k
  · subst z; exact k
  · subst z; exact k
  · subst z
    have k' : Q (sgn (miss S j)) := k
    unfold sgn at k'
    rw [← iI_0, iI_eq ⟨by omega, by omega⟩ ⟨by omega, by omega⟩, iI_le ⟨by omega, by omega⟩ ⟨by omega, by omega⟩]
    refine ⟨fun c => ⟨hin, fun d => ?_, fun d => ?_⟩, fun c => ?_⟩
    · rw [if_neg c, if_neg (by omega)] at k'; exact k'
    · rw [if_neg c, if_pos (by omega)] at k'; exact k'
    · rw [if_pos c] at k'; exact k'
  · subst z
    exact s_allowed hS hr (by omega) g3 k
  · subst z
    have k' : Q (b32 (bad S j)) := k
    refine s_isIn hd.2.1 (by omega) (fun hp => ⟨fun x => absurd x (by decide), fun _ => ?_⟩) (fun hp => ⟨fun _ => ?_, fun x => absurd rfl x⟩)
    · rw [bdK_at hj] at hp
      rw [hp] at k'; exact k'
    · rw [bdK_at hj] at hp
      rw [hp] at k'; exact k'
  · unfold oLp at k
    rw [if_neg z0, if_neg z1, if_neg z2, if_neg z3, if_neg z4, if_neg z5, if_neg z6] at k
    exact k
