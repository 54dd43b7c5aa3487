/-! THE CLASS: Loops, spreading -/
theorem lpAAI {α β : Type} {B : α → β → Int32 → (α → β → Int32 → Prop) → Prop} {a0 : α} {b0 : β} (F : Nat → α → β → Prop) (N k0 : Nat) (hN : N < 2147483648) (hk : k0 ≤ N) (h0 : F k0 a0 b0) (hs : ∀ k a b (K : α → β → Int32 → Prop), k < N → F k a b → (∀ a' b', F (k + 1) a' b' → K a' b' (nI (k + 1))) → B a b (nI k) K) (he : ∀ a b K, F N a b → B a b (nI N) K) :
    ∃ (I : α → β → Int32 → Prop) (μ : α → β → Int32 → Nat), I a0 b0 (nI k0) ∧ ∀ a b i, I a b i → B a b i (fun a' b' i' => I a' b' i' ∧ μ a' b' i' < μ a b i) := by
  refine ⟨fun a b i => ∃ k, k ≤ N ∧ i = nI k ∧ F k a b, fun _ _ i => N - i.toNatClampNeg, ⟨k0, hk, rfl, h0⟩, ?_⟩
  rintro a b i ⟨k, hk, rfl, hF⟩
  rcases Nat.lt_or_ge k N with h | h
  · exact hs k a b _ h hF (fun a' b' h' => ⟨⟨k + 1, h, rfl, h'⟩, by dsimp only; rw [n_cl (by omega), n_cl (by omega)]; omega⟩)
  · have : k = N := by omega
    subst this; exact he a b _ hF
theorem bst_le (r : Nat → Int) (n : Nat) : bst r n ≤ n := by
  rcases Nat.eq_zero_or_pos n with h | h
  · subst h; exact Nat.le_refl _
  · exact Nat.le_of_lt (bst_lt r h)
theorem s_giveOne {n : Nat} {w : Wd} {S : Sv} {F : Nat → Bool} {sh r : Nat → Int} {Q : Wd → Prop} (hS : wf S) (h1 : wi w n 0 1 = nI (nL S)) (e20 : ∀ l, l < nL S → F l = true → wi w n 20 l = iI (sh l)) (e21 : ∀ l, l < nL S → wi w n 21 l = iI (r l) ∧ -1 ≤ r l ∧ r l < 10000) (hF : ∀ l, l < nL S → 0 ≤ r l → F l = true) (hx : ∃ l, l < nL S ∧ 0 ≤ r l) (k : ∀ w', fm n 20 21 w w' → (∀ l, l < nL S → F l = true → wi w' n 20 l = iI ((gv (nL S) (sh, r)).1 l)) → (∀ l, l < nL S → wi w' n 21 l = iI ((gv (nL S) (sh, r)).2 l)) → Q w') : wp_X2_giveOne n w Q := by
  have hl := hS.l
  unfold wp_X2_giveOne wp_X2_giveOne_L6
  refine lpAAI (B := fun a b i K => wp_X2_giveOne_B6 n a b i w Q K) (fun j a b => (a = -1 ∧ b = iI (-1) ∧ ∀ l, l < j → r l < 0) ∨ (0 < j ∧ a = nI (bst r j) ∧ b = iI (r (bst r j)) ∧ 0 ≤ r (bst r j))) (nL S) 0 (by omega) (Nat.zero_le _) (Or.inl ⟨rfl, rfl, fun l h => absurd h (by omega)⟩) ?_ ?_
  · rintro j a b K hj hI hK
    obtain ⟨r1, r2, r3⟩ := e21 j hj
    unfold wp_X2_giveOne_B6
    rw [h1, n_le (by omega) (by omega), n_cl (by omega), r1, nI_1]
    refine ⟨fun z => absurd z (by omega), fun _ => ⟨n_in (by omega) (by omega), ?_⟩⟩
    rcases hI with ⟨a1, b1, c1⟩ | ⟨a0, a1, b1, c1⟩
    · rw [a1, b1, iI_le ⟨by omega, by omega⟩ ⟨by omega, by omega⟩]
      refine ⟨fun z => hK _ _ (Or.inl ⟨rfl, rfl, fun l hl' => ?_⟩), fun z => ⟨n_in (by omega) (by omega), hK _ _ (Or.inr ⟨by omega, ?_⟩)⟩⟩
      · by_cases y : l = j
        · rw [y]; omega
        · exact c1 l (by omega)
      · have eb : bst r (j + 1) = j := by
          rw [bst]
          rcases Nat.eq_zero_or_pos j with y | y
          · subst y; split <;> rfl
          · have := c1 _ (bst_lt r y)
            rw [if_pos (by omega)]
        rw [eb]
        exact ⟨rfl, rfl, by omega⟩
    · have hb := bst_lt r a0
      obtain ⟨r4, r5, r6⟩ := e21 (bst r j) (by omega)
      rw [a1, b1, iI_le ⟨by omega, by omega⟩ ⟨by omega, by omega⟩]
      refine ⟨fun z => hK _ _ (Or.inr ⟨by omega, ?_⟩), fun z => ⟨n_in (by omega) (by omega), hK _ _ (Or.inr ⟨by omega, ?_⟩)⟩⟩
      · rw [bst, if_neg (by omega)]; exact ⟨rfl, rfl, c1⟩
      · rw [bst, if_pos (by omega)]; exact ⟨rfl, rfl, by omega⟩
  · rintro a b K hI
    unfold wp_X2_giveOne_B6
    rw [h1]
    refine ⟨fun _ => ?_, fun z => absurd (Int32.le_refl _) z⟩
    rcases hI with ⟨a1, b1, c1⟩ | ⟨a0, a1, b1, c1⟩
    · obtain ⟨l, l1, l2⟩ := hx
      have := c1 l l1
      omega
    · have hb := bst_lt r a0
      have hin := n_in (show bst r (nL S) < 20 by omega) (by omega)
      rw [a1]
      refine ⟨fun z => absurd z (nI_pos (by omega)), fun _ => ⟨hin, hin, ?_⟩⟩
      rw [n_cl (show bst r (nL S) < 2147483648 by omega)]
      intro w1 q1
      refine ⟨hin, fun w2 q2 => k w2 ?_ (fun l hl' hf => ?_) (fun l hl' => ?_)⟩
      · rw [q2, q1]; exact (fm.rf.sI (by omega) (by omega)).sI (by omega) (by omega)
      · rw [q2, wi_sI, if_neg (by omega), q1, wi_sI]
        show _ = iI (if l = bst r (nL S) then sh l + 1 else sh l)
        by_cases z : l = bst r (nL S)
        · rw [if_pos ⟨rfl, rfl, z⟩, if_pos z, ← z, e20 l hl' hf, ← iI_1, iI_add]
        · rw [if_neg (by omega), if_neg z]; exact e20 l hl' hf
      · rw [q2, wi_sI]
        show _ = iI (if l = bst r (nL S) then -1 else r l)
        by_cases z : l = bst r (nL S)
        · rw [if_pos ⟨rfl, rfl, z⟩, if_pos z]; rfl
        · rw [if_neg (by omega), if_neg z, q1, wi_sI, if_neg (by omega)]; exact (e21 l hl').1
theorem TT_nn {S : Sv} (F : Nat → Bool) : 0 ≤ TT S F := sm_nn (fun l _ => by split <;> omega)
theorem TT_le {S : Sv} (hS : wf S) (F : Nat → Bool) : TT S F ≤ 1980 := by
  have h := sm_bd (f := fun l => if F l = true then (ln S l : Int) else 0) (n := nL S) (B := 99) (fun l hl => by
    have := hS.g hl
    unfold wfL at this
    split <;> omega)
  have h2 := hS.l
  unfold TT
  omega
theorem s_shareOut {n M : Nat} {x : Int32} {w : Wd} {S : Sv} {F : Nat → Bool} {Q : Wd → Prop} (hS : wf S) (hr : rS n w S) (hM : M < 1000000) (hx : bm x F) (hf : ∃ l, l < nL S ∧ F l = true) (k : ∀ w', fm n 20 21 w w' → (∀ l, l < nL S → F l = true → wi w' n 20 l = iI (shr S F M l)) → Q w') : wp_X2_shareOut n (nI M) x w Q := by
  have hl := hS.l
  obtain ⟨h1, h2, h3, h4, h5⟩ := id hr
  obtain ⟨l0, hl0, hf0⟩ := hf
  have hT := TT_pos hS hl0 hf0
  have hT2 := TT_le hS F
  have eT : TT S F = ((TT S F).toNat : Int) := (Int.toNat_of_nonneg (TT_nn F)).symm
  have hlft := lft_bd hS (F := F) (m := (M : Int)) (by omega) hl0 hf0
  have hct := ct_le F (nL S)
  unfold wp_X2_shareOut
  refine s_lengthOf hS hr hx ⟨fun _ => ?_, fun z => absurd ((iI_0lt (a := TT S F) ⟨by omega, by omega⟩).mpr hT) z⟩
  rw [show sm (fun l => if F l = true then (ln S l : Int) else 0) (nL S) = TT S F from rfl, eT, iI_nat]
  unfold wp_X2_shareOut_L20
  refine lpAIB (B := fun a i v K => wp_X2_shareOut_B20 n (nI M) x (nI (TT S F).toNat) a i v Q K) (fun j a v => fm n 20 21 w v ∧ a = iI ((M : Int) - sm (bsh S F M) j) ∧ ∀ l, l < j → wi v n 21 l = iI (brs S F M l) ∧ (F l = true → wi v n 20 l = iI (bsh S F M l))) (nL S) 0 (by omega) (Nat.zero_le _) ⟨fm.rf, by rw [sm, Int.sub_zero, iI_nat], fun l h => absurd h (by omega)⟩ ?_ ?_
  · rintro j a v K hj ⟨f, ea, hc⟩ hK
    have e1 : wi v n 0 1 = nI (nL S) := (f.wi (by omega) 1).trans h2
    unfold wp_X2_shareOut_B20
    rw [e1, n_le (by omega) (by omega), n_cl (show j < 2147483648 by omega), nI_1]
    refine ⟨fun z => absurd z (by omega), fun _ => ⟨n_in (by omega) (by omega), fun w1 q1 => ?_⟩⟩
    have f1 : fm n 20 21 w w1 := by rw [q1]; exact f.sI (by omega) (by omega)
    have e5 : wi w1 n 5 j = nI (ln S j) := (f1.wi (by omega) j).trans (h4 j hj).2.2.2
    have hg := hS.g hj
    unfold wfL at hg
    refine s_isIn hx (by omega) (fun hp => ⟨fun z => absurd z (by decide), fun _ => ⟨n_in (by omega) (by omega), ?_⟩⟩) (fun hp => ⟨fun _ => hK _ _ ⟨f1, ?_, fun l hl' => ?_⟩, fun z => absurd rfl z⟩)
    · have hne : ¬ (nI (TT S F).toNat).toInt64 = 0 := by
        rw [nI_l (by omega), show (0 : Int64) = lN 0 from rfl, pk_lEQ (by omega) (by omega)]; omega
      have hmul : M * ln S j < 100000000 := by
        have := Nat.mul_le_mul (show M ≤ 1000000 by omega) (show ln S j ≤ 99 by omega)
        omega
      refine ⟨hne, n_in (by omega) (by omega), fun w2 q2 => ⟨hne, n_in (by omega) (by omega), fun w3 q3 => ⟨n_in (by omega) (by omega), ?_⟩⟩⟩
      rw [e5, nI_l (show M < 2147483648 by omega), nI_l (show ln S j < 2147483648 by omega), nI_l (show (TT S F).toNat < 2147483648 by omega), lN_mul] at q2 q3
      rw [pk_lDiv (by omega) (by omega) (by omega), lN_i] at q2
      unfold lrem at q3
      rw [pk_lRem (by omega) (by omega) (by omega), lN_i] at q3
      have eb : bsh S F M j = ((M * ln S j / (TT S F).toNat : Nat) : Int) := by
        unfold bsh
        rw [if_pos hp, Int.natCast_ediv, ← eT, Int.natCast_mul]
      have er : brs S F M j = ((M * ln S j % (TT S F).toNat : Nat) : Int) := by
        unfold brs
        rw [if_pos hp, Int.natCast_emod, ← eT, Int.natCast_mul]
      have c3 : wi w3 n 20 j = iI (bsh S F M j) := by
        rw [q3, wi_sI, if_neg (by omega), q2, wi_sI, if_pos ⟨rfl, rfl, rfl⟩, eb, iI_nat]
      rw [c3, ea, iI_sub]
      refine hK _ _ ⟨?_, ?_, fun l hl' => ?_⟩
      · rw [q3, q2]; exact (f1.sI (by omega) (by omega)).sI (by omega) (by omega)
      · rw [sm]; congr 1; omega
      · by_cases z : l = j
        · rw [z]
          refine ⟨?_, fun _ => c3⟩
          rw [q3, wi_sI, if_pos ⟨rfl, rfl, rfl⟩, er, iI_nat]
        · rw [q3, wi_sI, if_neg (by omega), wi_sI, if_neg (by omega), q2, wi_sI, if_neg (by omega), wi_sI, if_neg (by omega), q1, wi_sI, if_neg (by omega), wi_sI, if_neg (by omega)]
          exact hc l (by omega)
    · rw [ea, sm, bsh, if_neg (by rw [hp]; decide), Int.add_zero]
    · by_cases z : l = j
      · rw [z]
        refine ⟨?_, fun y => by rw [hp] at y; cases y⟩
        rw [q1, wi_sI, if_pos ⟨rfl, rfl, rfl⟩, brs, if_neg (by rw [hp]; decide)]; rfl
      · rw [q1, wi_sI, if_neg (by omega), wi_sI, if_neg (by omega)]
        exact hc l (by omega)
  · rintro a v K ⟨f, ea, hc⟩
    have e1 : wi v n 0 1 = nI (nL S) := (f.wi (by omega) 1).trans h2
    unfold wp_X2_shareOut_B20
    rw [e1]
    refine ⟨fun _ => ?_, fun z => absurd (Int32.le_refl _) z⟩
    have el : (M : Int) - sm (bsh S F M) (nL S) = ((lft S F M).toNat : Int) := by
      show lft S F M = _
      omega
    rw [ea, el, iI_nat]
    unfold wp_X2_shareOut_L112
    refine lpIA (B := fun i u K' => wp_X2_shareOut_B112 n (nI (lft S F M).toNat) i u Q K') (fun j u => fm n 20 21 w u ∧ ∀ l, l < nL S → wi u n 21 l = iI ((gvK S F M j).2 l) ∧ (F l = true → wi u n 20 l = iI ((gvK S F M j).1 l))) (lft S F M).toNat 0 (by omega) (Nat.zero_le _) ⟨f, hc⟩ ?_ ?_
    · rintro j u K' hj ⟨fu, hu⟩ hK'
      have e1 : wi u n 0 1 = nI (nL S) := (fu.wi (by omega) 1).trans h2
      obtain ⟨i1, i2⟩ := gv_inv (S := S) (F := F) (m := (M : Int)) (by omega) hT (by omega) j (by omega)
      have hbr : ∀ l, l < nL S → -1 ≤ brs S F M l ∧ brs S F M l < 10000 ∧ (0 ≤ brs S F M l → F l = true) := fun l hl' => by
        by_cases q : F l = true
        · have := bsh_eq (m := (M : Int)) q hT (by omega)
          exact ⟨by omega, by omega, fun _ => q⟩
        · have e : brs S F M l = -1 := by rw [brs, if_neg q]
          rw [e]
          exact ⟨by omega, by omega, fun z => absurd z (by omega)⟩
      unfold wp_X2_shareOut_B112
      rw [n_le (by omega) (by omega), nI_1]
      refine ⟨fun z => absurd z (by omega), fun _ => s_giveOne (F := F) (sh := (gvK S F M j).1) (r := (gvK S F M j).2) hS e1 (fun l hl' hf => (hu l hl').2 hf) (fun l hl' => ⟨(hu l hl').1, ?_⟩) (fun l hl' hp => ?_) ?_ (fun u2 fu2 a2 b2 => hK' u2 ⟨fu.tr fu2, fun l hl' => ⟨b2 l hl', a2 l hl'⟩⟩)⟩
      · have := hbr l hl'
        rcases i1 l hl' with ⟨z, _⟩ | ⟨_, z, _⟩ <;> rw [z] <;> omega
      · rcases i1 l hl' with ⟨z, _⟩ | ⟨z, _, _⟩
        · rw [z] at hp; exact (hbr l hl').2.2 hp
        · exact z
      · obtain ⟨l, z1, z2⟩ := ct_ex (P := fun l => decide (0 ≤ (gvK S F M j).2 l)) (n := nL S) (by omega)
        exact ⟨l, z1, of_decide_eq_true z2⟩
    · rintro u K' ⟨fu, hu⟩
      unfold wp_X2_shareOut_B112
      exact ⟨fun _ => k u fu (fun l hl' hf => (hu l hl').2 hf), fun z => absurd (Int32.le_refl _) z⟩
theorem s_correct {n c : Nat} {x : Int32} {tm : Bool} {w : Wd} {S : Sv} {F W : Nat → Bool} {sh c0 : Nat → Int} {Q : Wd → Prop} (hS : wf S) (hr : rS n w S) (hc : c < 20) (hx : bm x F) (hW : bm (wi w n 17 c) W) (e20 : ∀ l, l < nL S → F l = true → wi w n 20 l = iI (sh l)) (e13 : ∀ l, l < nL S → wi w n 13 l = iI (c0 l)) (k : ∀ w', fm n 13 13 w w' → (∀ l, l < nL S → wi w' n 13 l = iI (if F l = true then (if W l = tm then - sh l else sh l) else c0 l)) → Q w') : wp_X2_correct n (nI c) x (if tm = true then 1 else 0) w Q := by
  have hl := hS.l
  obtain ⟨h1, h2, h3, h4, h5⟩ := id hr
  unfold wp_X2_correct wp_X2_correct_L3
  refine lpIA (B := fun i v K => wp_X2_correct_B3 n (nI c) x (if tm = true then 1 else 0) i v Q K) (fun j v => fm n 13 13 w v ∧ ∀ l, l < nL S → wi v n 13 l = iI (if l < j ∧ F l = true then (if W l = tm then - sh l else sh l) else c0 l)) (nL S) 0 (by omega) (Nat.zero_le _) ⟨fm.rf, fun l hl' => by rw [if_neg (by omega)]; exact e13 l hl'⟩ ?_ ?_
  · rintro j v K hj ⟨f, hv⟩ hK
    have e1 : wi v n 0 1 = nI (nL S) := (f.wi (by omega) 1).trans h2
    have e17 : wi v n 17 c = wi w n 17 c := f.wi (by omega) c
    have st : ∀ (s0 : Int32), F j = true → (s0 = 0 ↔ ¬ W j = tm) → wp_X2_correct_J44 n (nI c) x (if tm = true then 1 else 0) (nI j) s0 v Q K := by
      intro s0 hp hs
      have e20' : wi v n 20 j = iI (sh j) := (f.wi (by omega) j).trans (e20 j hj hp)
      unfold wp_X2_correct_J44 wp_X2_correct_J75
      rw [n_cl (show j < 2147483648 by omega), e20', nI_1]
      refine ⟨fun z => ⟨n_in (by omega) (by omega), n_in (by omega) (by omega), fun u q => hK u ⟨by rw [q]; exact f.sI (by omega) (by omega), fun l hl' => ?_⟩⟩, fun z => ⟨n_in (by omega) (by omega), n_in (by omega) (by omega), fun u q => hK u ⟨by rw [q]; exact f.sI (by omega) (by omega), fun l hl' => ?_⟩⟩⟩
      · rw [q, wi_sI]
        by_cases y : l = j
        · rw [if_pos ⟨rfl, rfl, y⟩, y, if_pos ⟨by omega, hp⟩, if_neg (hs.mp z)]
        · rw [if_neg (by omega), hv l hl']
          congr 1
          simp only [show (l < j) = (l < j + 1) from propext ⟨fun _ => by omega, fun _ => by omega⟩]
      · rw [q, wi_sI]
        by_cases y : l = j
        · rw [if_pos ⟨rfl, rfl, y⟩, y, if_pos ⟨by omega, hp⟩, iI_neg]
          congr 1
          by_cases yy : W j = tm
          · rw [if_pos yy]
          · exact absurd (hs.mpr yy) z
        · rw [if_neg (by omega), hv l hl']
          congr 1
          simp only [show (l < j) = (l < j + 1) from propext ⟨fun _ => by omega, fun _ => by omega⟩]
    unfold wp_X2_correct_B3
    rw [e1, n_le (by omega) (by omega), n_cl (show c < 2147483648 by omega), e17]
    refine ⟨fun z => absurd z (by omega), fun _ => s_isIn hx (by omega) (fun hp => ⟨fun z => absurd z (by decide), fun _ => ⟨n_in (by omega) (by omega), ?_⟩⟩) (fun hp => ⟨fun _ => ?_, fun z => absurd rfl z⟩)⟩
    · refine s_isIn hW (by omega) (fun hq => ⟨fun z => st 0 hp ⟨fun _ y => ?_, fun _ => rfl⟩, fun z => st 1 hp ⟨fun y => absurd y (by decide), fun y => absurd ?_ y⟩⟩) (fun hq => ⟨fun z => st 0 hp ⟨fun _ y => ?_, fun _ => rfl⟩, fun z => st 1 hp ⟨fun y => absurd y (by decide), fun y => absurd ?_ y⟩⟩)
      · rw [hq] at y; rw [← y] at z; exact z rfl
      · cases tm
        · exact absurd z (by decide)
        · exact hq
      · rw [hq] at y; rw [← y] at z; exact z rfl
      · cases tm
        · exact hq
        · exact absurd z (by decide)
    · rw [nI_1]
      refine hK v ⟨f, fun l hl' => ?_⟩
      rw [hv l hl']
      congr 1
      by_cases y : l = j
      · rw [y, if_neg (fun q => by rw [hp] at q; exact absurd q.2 (by decide)), if_neg (fun q => by rw [hp] at q; exact absurd q.2 (by decide))]
      · simp only [show (l < j) = (l < j + 1) from propext ⟨fun _ => by omega, fun _ => by omega⟩]
  · rintro v K ⟨f, hv⟩
    have e1 : wi v n 0 1 = nI (nL S) := (f.wi (by omega) 1).trans h2
    unfold wp_X2_correct_B3
    rw [e1]
    refine ⟨fun _ => k v f (fun l hl' => ?_), fun z => absurd (Int32.le_refl _) z⟩
    rw [hv l hl']
    congr 1
    simp only [hl', true_and]
theorem dC_f13 {n : Nat} {w w' : Wd} {S : Sv} (h : dC n w S) (k : fm n 13 13 w w') : dC n w' S := by
  have e : ∀ b, b ≠ 13 → ∀ j, wi w' n b j = wi w n b j := fun b hb j => k.wi (by omega) j
  obtain ⟨h1, h2, h3⟩ := h
  refine ⟨by rw [e 12 (by omega)]; exact h1, by rw [e 12 (by omega)]; exact h2, fun j hj => ?_⟩
  obtain ⟨a, b, c, d, f⟩ := h3 j hj
  exact ⟨by rw [e 14 (by omega)]; exact a, by rw [e 15 (by omega)]; exact b, by rw [e 16 (by omega)]; exact c, by rw [e 17 (by omega)]; exact d, by rw [e 18 (by omega)]; exact f⟩
theorem s_spread {n : Nat} {w : Wd} {S : Sv} {Q : Wd → Prop} (hS : wf S) (hr : rS n w S) (hd : dC n w S) (hz : ∀ l, l < nL S → wi w n 13 l = iI 0) (k : ∀ w', fm n 13 21 w w' → dC n w' S → dS n w' S → Q w') : wp_X2_spread n w Q := by
  have hl := hS.l
  have hcn := nlp_le (S := S)
  unfold wp_X2_spread wp_X2_spread_L4
  refine lpAIB (B := fun a i v K => wp_X2_spread_B4 n a i v Q K) (fun j a v => fm n 13 21 w v ∧ dC n v S ∧ bm a (spK S j).2 ∧ (∀ l, l < nL S → wi v n 13 l = iI ((spK S j).1 l)) ∧ ∀ i, i < j → wi v n 19 i = iI (spM S i).natAbs) (nlp S) 0 (by omega) (Nat.zero_le _) ⟨fm.rf, hd, bm_0, hz, fun i h => absurd h (by omega)⟩ ?_ ?_
  · rintro j a v K hj ⟨f, dv, ba, ec, es⟩ hK
    have rv : rS n v S := hr.fm f (Or.inr (by omega))
    obtain ⟨d1, d2, d3⟩ := id dv
    obtain ⟨g1, g2, g3, g4, g5⟩ := d3 j hj
    have hin := n_in (show j < 20 by omega) (by omega)
    have hsp := spM_le hS hj
    unfold wp_X2_spread_B4
    rw [d1, n_le (by omega) (by omega)]
    refine ⟨fun z => absurd z (by omega), fun _ => s_goneAlong hS rv (by omega) g2 g4 ec ?_⟩
    have em : sm (gnF S (spK S j).1 (inL S j) (fw S j)) (nL S) = spM S j := by
      show _ = sm _ _
      exact sm_congr (fun l _ => gnF_sg l)
    rw [em, n_cl (show j < 2147483648 by omega), iabs_iI ⟨by omega, by omega⟩]
    refine ⟨hin, hin, fun w1 q1 => ⟨hin, ?_⟩⟩
    have f1 : fm n 19 21 v w1 := by rw [q1]; exact fm.rf.sI (by omega) (by omega)
    have z1 : wi w1 n 19 j = nI (spM S j).natAbs := by rw [q1, wi_sI, if_pos ⟨rfl, rfl, rfl⟩, iI_nat]
    have bF : bm ((wi v n 15 j) &&& (a ^^^ (-1 : Int32))) (fre S (spK S j).2 j) := bm_congr (bm_and g2 (bm_not ba)) (fun i => by
      unfold fre
      cases q : inL S j i
      · rfl
      · have := inL_lt hS hj q
        rw [decide_eq_true (show i < 32 by omega)]; simp)
    have hcl := cl_free hS hj
    obtain ⟨hlt, htr⟩ := cl_lt hj
    rw [z1]
    refine s_shareOut hS (rv.fm f1 (Or.inr (by omega))) (by omega) bF ⟨cl S j, hlt, hcl⟩ (fun w2 f2 e2 => ?_)
    have f2' : fm n 19 21 v w2 := f1.tr (f2.wide (by omega) (by omega))
    have r2 : rS n w2 S := rv.fm f2' (Or.inr (by omega))
    have v2 : dC n w2 S := dv.fm f2' (Or.inr (Or.inl (by omega)))
    have c2 : ∀ l, l < nL S → wi w2 n 13 l = iI ((spK S j).1 l) := fun l hl' => (f2'.wi (by omega) l).trans (ec l hl')
    have z2 : ∀ i, i < j + 1 → wi w2 n 19 i = iI (spM S i).natAbs := fun i hi => by
      rw [f2.wi (by omega) i, q1, wi_sI]
      by_cases y : i = j
      · rw [if_pos ⟨rfl, rfl, y⟩, y]
      · rw [if_neg (by omega)]; exact es i (by omega)
    have fin : ∀ tm : Bool, (tm = true ↔ 0 < spM S j) → wp_X2_spread_J65 n a (nI j) (if tm = true then 1 else 0) ((wi v n 15 j) &&& (a ^^^ (-1 : Int32))) (nI j) w2 Q K := by
      intro tm htm
      unfold wp_X2_spread_J65
      refine s_correct (W := fw S j) hS r2 (by omega) bF (v2.2.2 j hj).2.2.2.1 e2 c2 (fun w3 f3 e3 => ⟨hin, ?_⟩)
      have v3 : dC n w3 S := dC_f13 v2 f3
      rw [n_cl (show j < 2147483648 by omega), nI_1]
      refine hK _ w3 ⟨f.tr ((f2'.wide (by omega) (by omega)).tr (f3.wide (by omega) (by omega))), v3, bm_or ba (v3.2.2 j hj).2.1, fun l hl' => ?_, fun i hi => (f3.wi (by omega) i).trans (z2 i hi)⟩
      rw [e3 l hl']
      congr 1
      show _ = (spS S (spK S j) j).1 l
      unfold spS
      dsimp only
      by_cases q : fre S (spK S j).2 j l = true
      · have q' : inL S j l = true ∧ (spK S j).2 l = false := by
          unfold fre at q
          simpa using q
        rw [if_pos q, if_pos q, not_gone q'.2, sg_eq, if_pos q'.1, Int.zero_add]
        rw [show MM S (spK S j).1 j = spM S j from rfl]
        cases tm
        · have hn : ¬ 0 < spM S j := fun y => absurd (htm.mpr y) (by decide)
          rw [if_neg hn]
          cases fw S j l
          · rw [if_pos rfl, if_neg (by decide)]; omega
          · rw [if_neg (by decide), if_pos rfl]; omega
        · rw [if_pos (htm.mp rfl)]
          cases fw S j l
          · rw [if_neg (by decide), if_neg (by decide)]; omega
          · rw [if_pos rfl, if_pos rfl]; omega
      · rw [if_neg q, if_neg q]
    refine ⟨fun hq => ?_, fun hq => ?_⟩
    · rw [iI_le0 ⟨by omega, by omega⟩] at hq
      exact fin false ⟨fun y => absurd y (by decide), fun y => absurd y (by omega)⟩
    · rw [iI_le0 ⟨by omega, by omega⟩] at hq
      exact fin true ⟨fun _ => by omega, fun _ => rfl⟩
  · rintro a v K ⟨f, dv, ba, ec, es⟩
    unfold wp_X2_spread_B4
    rw [dv.1]
    exact ⟨fun _ => k v f dv ⟨ec, es⟩, fun z => absurd (Int32.le_refl _) z⟩
