/-! THE CLASS: Survey, isIn -/
def ou (x : Int32) (n : Nat) : Prop := x < 0 ∨ nI n ≤ x
theorem ou_or (x : Int32) {n : Nat} (hn : n < 2147483648) : ou x n ∨ ∃ j, j < n ∧ x = nI j := by
  rcases pk_ix x (n := n) hn with q | q | q
  · exact Or.inl (Or.inl q)
  · exact Or.inl (Or.inr q)
  · exact Or.inr q
theorem ou_no {j n : Nat} (hj : j < n) (hn : n < 2147483648) : ¬ ou (nI j) n := by
  rintro (q | q)
  · exact nI_pos (by omega) q
  · rw [n_le hn (by omega)] at q; omega
theorem s_isIn {x : Int32} {P : Nat → Bool} {l : Nat} {Q : Int32 → Prop} (h : bm x P) (hl : l < 31) (k1 : P l = true → Q 1) (k0 : P l = false → Q 0) : wp_X8_isIn x (nI l) Q := by
  unfold wp_X8_isIn
  rw [bm_in h hl]
  cases hp : P l
  · exact ⟨fun _ => ⟨Or.inl rfl, k0 hp⟩, fun q => absurd rfl q⟩
  · exact ⟨fun q => absurd q (by decide), fun _ => ⟨Or.inr rfl, k1 hp⟩⟩
theorem s_hasMark {n : Nat} {x : Int32} {w : Wd} {S : Sv} {Q : Int32 → Prop} (hS : wf S) (h : rS n w S) (k1 : ∀ m, m < nM S → x = nI m → Q 1) (k0 : ou x (nM S) → Q 0) : wp_X5_hasMark n x w Q := by
  have hm := hS.m
  unfold wp_X5_hasMark wp_X5_hasMark_J16
  rw [h.1]
  refine ⟨fun c => ⟨Or.inl rfl, k0 (Or.inl c)⟩, fun c => ⟨fun c2 => ⟨Or.inl rfl, k0 (Or.inr c2)⟩, fun c2 => ⟨Or.inr rfl, ?_⟩⟩⟩
  rcases ou_or x (n := nM S) (by omega) with (q | q) | ⟨j, hj, e⟩
  · exact absurd q c
  · exact absurd q c2
  · exact k1 j hj e
theorem s_hasLeg {n : Nat} {x : Int32} {w : Wd} {S : Sv} {Q : Int32 → Prop} (hS : wf S) (h : rS n w S) (k1 : ∀ m, m < nL S → x = nI m → Q 1) (k0 : ou x (nL S) → Q 0) : wp_X5_hasLeg n x w Q := by
  have hm := hS.l
  unfold wp_X5_hasLeg wp_X5_hasLeg_J16
  rw [h.2.1]
  refine ⟨fun c => ⟨Or.inl rfl, k0 (Or.inl c)⟩, fun c => ⟨fun c2 => ⟨Or.inl rfl, k0 (Or.inr c2)⟩, fun c2 => ⟨Or.inr rfl, ?_⟩⟩⟩
  rcases ou_or x (n := nL S) (by omega) with (q | q) | ⟨j, hj, e⟩
  · exact absurd q c
  · exact absurd q c2
  · exact k1 j hj e
def addM (S : Sv) (k : Int) : Sv := (nM S + 1, nL S, fun m => if m = nM S then k else kn S m, fr S, tO S, df S, ln S, st S)
def addL (S : Sv) (f t : Nat) (d : Int) (l : Nat) : Sv := (nM S, nL S + 1, kn S, fun i => if i = nL S then f else fr S i, fun i => if i = nL S then t else tO S i, fun i => if i = nL S then d else df S i, fun i => if i = nL S then l else ln S i, st S)
def turL (S : Sv) (l : Nat) : Sv := (nM S, nL S, kn S, fun i => if i = l then tO S l else fr S i, fun i => if i = l then fr S l else tO S i, fun i => if i = l then - df S l else df S i, ln S, st S)
def sft {α : Type} (f : Nat → α) (l : Nat) : Nat → α := fun i => if i < l then f i else f (i + 1)
def drpL (S : Sv) (l : Nat) : Sv := (nM S, nL S - 1, kn S, sft (fr S) l, sft (tO S) l, sft (df S) l, sft (ln S) l, st S)
def meaL (S : Sv) (l : Nat) (d : Int) : Sv := (nM S, nL S, kn S, fr S, tO S, fun i => if i = l then d else df S i, ln S, st S)
def knoM (S : Sv) (m : Nat) (k : Int) : Sv := (nM S, nL S, fun i => if i = m then k else kn S i, fr S, tO S, df S, ln S, st S)
def setS (S : Sv) (i : Nat) (v : Int) : Sv := (nM S, nL S, kn S, fr S, tO S, df S, ln S, fun j => if j = i then v else st S j)
theorem s_putMark {n : Nat} {x : Int32} {k : Int} {w : Wd} {S : Sv} {Q : Int32 → Wd → Prop} (hS : wf S) (h : rS n w S) (hx : x = iI k) (k1 : nM S < 10 → ∀ w', fm n 0 6 w w' → rS n w' (addM S k) → Q 1 w') (k0 : nM S = 10 → Q 0 w) : wp_X5_putMark n x w Q := by
  have hm := hS.m
  obtain ⟨h1, h2, h3, h4, h5⟩ := id h
  unfold wp_X5_putMark
  rw [h1, show (10 : Int32) = nI 10 from rfl, n_lt (by omega) (by omega), n_cl (by omega)]
  refine ⟨fun c => ⟨n_in c (by omega), fun w1 e1 w2 e2 => ⟨Or.inr rfl, k1 c w2 ?_ ?_⟩⟩, fun c => ⟨Or.inl rfl, k0 (by omega)⟩⟩
  · subst e2; subst e1
    exact (fm.rf.sI (by omega) (by omega)).sI (by omega) (by omega)
  · subst e2; subst e1
    refine ⟨?_, ?_, fun m hm => ?_, fun l hl => ?_, fun j hj => ?_⟩
    · simp only [wi_sI, h1]
      simp
      exact (nI_1 _)
    · simp [wi_sI]; exact h2
    · simp only [wi_sI, addM, nM, kn] at hm ⊢
      by_cases q : m = nM S
      · subst q
        simp only [nM] at *
        simp [hx]
      · have q' : ¬ m = S.1 := q
        simp [q']
        exact h3 m (by simp only [nM]; omega)
    · obtain ⟨a, b, c, d⟩ := h4 l hl
      simp [wi_sI]
      exact ⟨a, b, c, d⟩
    · simp [wi_sI]; exact h5 j hj
theorem s_putLeg {n : Nat} {f t l : Nat} {d : Int} {w : Wd} {S : Sv} {Q : Int32 → Wd → Prop} (hS : wf S) (h : rS n w S) (k1 : nL S < 20 → ∀ w', fm n 0 6 w w' → rS n w' (addL S f t d l) → Q 1 w') (k0 : nL S = 20 → Q 0 w) : wp_X5_putLeg n (nI f) (nI t) (iI d) (nI l) w Q := by
  have hm := hS.l
  obtain ⟨h1, h2, h3, h4, h5⟩ := id h
  unfold wp_X5_putLeg
  rw [h2, show (20 : Int32) = nI 20 from rfl, n_lt (by omega) (by omega), n_cl (by omega)]
  refine ⟨fun c => ⟨n_in c (by omega), fun w1 e1 => ?_⟩, fun c => ⟨Or.inl rfl, k0 (by omega)⟩⟩
  have q1 : wi w1 n 0 1 = nI (nL S) := by rw [e1, wi_sI]; simp; exact h2
  rw [q1, n_cl (by omega)]
  refine ⟨n_in c (by omega), fun w2 e2 => ?_⟩
  have q2 : wi w2 n 0 1 = nI (nL S) := by rw [e2, wi_sI]; simp; exact q1
  rw [q2, n_cl (by omega)]
  refine ⟨n_in c (by omega), fun w3 e3 => ?_⟩
  have q3 : wi w3 n 0 1 = nI (nL S) := by rw [e3, wi_sI]; simp; exact q2
  rw [q3, n_cl (by omega)]
  refine ⟨n_in c (by omega), fun w4 e4 => ?_⟩
  have q4 : wi w4 n 0 1 = nI (nL S) := by rw [e4, wi_sI]; simp; exact q3
  rw [q4]
  intro w5 e5
  refine ⟨Or.inr rfl, k1 c w5 ?_ ?_⟩
  · subst e5; subst e4; subst e3; subst e2; subst e1
    exact ((((fm.rf.sI (by omega) (by omega)).sI (by omega) (by omega)).sI (by omega) (by omega)).sI (by omega) (by omega)).sI (by omega) (by omega)
  · subst e5; subst e4; subst e3; subst e2; subst e1
    refine ⟨?_, ?_, fun m hm => ?_, fun i hi => ?_, fun j hj => ?_⟩
    · simp [wi_sI]; exact h1
    · simp [wi_sI]; exact (nI_1 _)
    · simp [wi_sI]; exact h3 m hm
    · simp only [wi_sI, addL, nL, fr, tO, df, ln] at hi ⊢
      by_cases q : i = nL S
      · subst q
        simp [nL]
      · have q' : ¬ i = S.2.1 := q
        obtain ⟨a, b, c, d⟩ := h4 i (by simp only [nL]; omega)
        simp [q, q']
        exact ⟨a, b, c, d⟩
    · simp [wi_sI]; exact h5 j hj
theorem s_turnAround {n l : Nat} {w : Wd} {S : Sv} {Q : Wd → Prop} (hS : wf S) (h : rS n w S) (hl : l < nL S) (k : ∀ w', fm n 0 6 w w' → rS n w' (turL S l) → Q w') : wp_X5_turnAround n (nI l) w Q := by
  have hm := hS.l
  obtain ⟨h1, h2, h3, h4, h5⟩ := id h
  have hin := n_in (show l < 20 by omega) (by omega)
  unfold wp_X5_turnAround
  rw [n_cl (by omega)]
  obtain ⟨a, b, c, d⟩ := h4 l hl
  refine ⟨hin, hin, hin, fun w1 e1 => ⟨hin, fun w2 e2 => ⟨hin, hin, fun w3 e3 => k w3 ?_ ?_⟩⟩⟩
  · subst e3; subst e2; subst e1
    exact ((fm.rf.sI (by omega) (by omega)).sI (by omega) (by omega)).sI (by omega) (by omega)
  · subst e3; subst e2; subst e1
    refine ⟨?_, ?_, fun m hm => ?_, fun i hi => ?_, fun j hj => ?_⟩
    · simp [wi_sI]; exact h1
    · simp [wi_sI]; exact h2
    · simp [wi_sI]; exact h3 m hm
    · simp only [wi_sI, turL, nL, fr, tO, df, ln] at hi ⊢
      by_cases q : i = l
      · subst q
        simp [a, b, c, d, iI_neg, fr, tO, df, ln]
      · obtain ⟨a', b', c', d'⟩ := h4 i hi
        simp [q]
        exact ⟨a', b', c', d'⟩
    · simp [wi_sI]; exact h5 j hj
theorem s_allLegs {n : Nat} {w : Wd} {S : Sv} {Q : Int32 → Prop} (hS : wf S) (h : rS n w S) (k : ∀ x, bm x (fun i => decide (i < nL S)) → Q x) : wp_X5_allLegs n w Q := by
  have hm := hS.l
  unfold wp_X5_allLegs
  rw [h.2.1]
  exact k _ (bm_all _ (by omega))
theorem s_lengthOf {n : Nat} {x : Int32} {P : Nat → Bool} {w : Wd} {S : Sv} {Q : Int32 → Prop} (hS : wf S) (h : rS n w S) (hx : bm x P) (k : Q (iI (sm (fun l => if P l = true then (ln S l : Int) else 0) (nL S)))) : wp_X5_lengthOf n x w Q := by
  have hm := hS.l
  obtain ⟨h1, h2, h3, h4, h5⟩ := id h
  unfold wp_X5_lengthOf wp_X5_lengthOf_L4
  refine lpAI (B := fun a i K => wp_X5_lengthOf_B4 n x a i w Q K) (fun j a => a = iI (sm (fun l => if P l = true then (ln S l : Int) else 0) j)) (nL S) 0 (by omega) (Nat.zero_le _) rfl ?_ ?_
  · intro j a K hj ha hK
    subst ha
    unfold wp_X5_lengthOf_B4
    rw [h2, n_le (by omega) (by omega), n_cl (by omega), nI_1]
    refine ⟨fun c => absurd c (by omega), fun _ => s_isIn hx (by omega) (fun hp => ⟨fun c => absurd c (by decide), fun _ => ⟨n_in (by omega) (by omega), hK _ ?_⟩⟩) (fun hp => ⟨fun _ => hK _ ?_, fun c => absurd rfl c⟩)⟩
    · rw [(h4 j hj).2.2.2, nI_iI, iI_add, sm, if_pos hp]
    · rw [sm, if_neg (by simp [hp]), Int.add_zero]
  · intro a K ha
    subst ha
    unfold wp_X5_lengthOf_B4
    rw [h2, n_le (by omega) (by omega)]
    exact ⟨fun _ => k, fun c => absurd (Nat.le_refl _) c⟩
def lgP (S : Sv) (m l : Nat) : Bool := fr S l == m || tO S l == m
theorem s_legsAt {n m : Nat} {w : Wd} {S : Sv} {Q : Int32 → Prop} (hS : wf S) (h : rS n w S) (hmm : m < nM S) (k : Q (nI (ct (lgP S m) (nL S)))) : wp_X5_legsAt n (nI m) w Q := by
  have hm := hS.l
  have hm2 := hS.m
  obtain ⟨h1, h2, h3, h4, h5⟩ := id h
  unfold wp_X5_legsAt wp_X5_legsAt_L4
  refine lpAI (B := fun a i K => wp_X5_legsAt_B4 n (nI m) a i w Q K) (fun j a => a = nI (ct (lgP S m) j)) (nL S) 0 (by omega) (Nat.zero_le _) rfl ?_ ?_
  · intro j a K hj ha hK
    subst ha
    have hg := hS.g hj
    unfold wfL at hg
    unfold wp_X5_legsAt_B4 wp_X5_legsAt_J32
    obtain ⟨a, b, -, -⟩ := h4 j hj
    rw [h2, n_le (by omega) (by omega), n_cl (by omega), a, b, n_eq (by omega) (by omega), n_eq (by omega) (by omega), nI_1, nI_1]
    have hin := n_in (show j < 20 by omega) (by omega)
    refine ⟨fun c => absurd c (by omega), fun _ => ⟨hin, fun c => hK _ ?_, fun c => ⟨hin, fun c2 => hK _ ?_, fun c2 => hK _ ?_⟩⟩⟩
    · rw [ct, if_pos (by simp [lgP, c])]
    · rw [ct, if_neg (by simp [lgP, c, c2]), Nat.add_zero]
    · rw [ct, if_pos (by simp [lgP, c2])]
  · intro a K ha
    subst ha
    unfold wp_X5_legsAt_B4
    rw [h2, n_le (by omega) (by omega)]
    exact ⟨fun _ => k, fun c => absurd (Nat.le_refl _) c⟩
theorem s_copy {n n1 : Nat} {w : Wd} {S : Sv} {Q : Wd → Prop} (hS : wf S) (hn : n ≠ n1) (h : rS n1 w S) (k : ∀ w', fm n 0 6 w w' → rS n w' S → Q w') : wp_X5_copy n n1 w Q := by
  have hl := hS.l
  have hm := hS.m
  obtain ⟨h1, h2, h3, h4, h5⟩ := id h
  unfold wp_X5_copy
  intro w1 e1 w2 e2 w3 e3 w4 e4 w5 e5 w6 e6 w7 e7 w8 e8
  have f1 : fm n 0 6 w w1 := by subst e1; exact fm.rf.sI (by omega) (by omega)
  have f2 : fm n 0 6 w w2 := by subst e2; exact f1.sI (by omega) (by omega)
  have f3 : fm n 0 6 w w3 := by subst e3; exact f2.sA (by omega) (by omega)
  have f4 : fm n 0 6 w w4 := by subst e4; exact f3.sA (by omega) (by omega)
  have f5 : fm n 0 6 w w5 := by subst e5; exact f4.sA (by omega) (by omega)
  have f6 : fm n 0 6 w w6 := by subst e6; exact f5.sA (by omega) (by omega)
  have f7 : fm n 0 6 w w7 := by subst e7; exact f6.sA (by omega) (by omega)
  have f8 : fm n 0 6 w w8 := by subst e8; exact f7.sA (by omega) (by omega)
  have r : ∀ {v : Wd}, fm n 0 6 w v → ∀ b, v.1 n1 b = w.1 n1 b := fun f b => f.1 n1 b (by omega)
  have cp : ∀ (f g : Nat → Int32) (L j : Nat), j < L → va_cpy f g 0 0 L j = f j := fun f g L j hj => by rw [pk_cpy_in (by omega) (by omega)]; congr 1; omega
  refine k w8 f8 ⟨?_, ?_, fun m hmm => ?_, fun l hll => ?_, fun j hj => ?_⟩
  · subst e8; subst e7; subst e6; subst e5; subst e4; subst e3; subst e2; subst e1
    simp [wi_sA, wi_sI]; exact h1
  · subst e8; subst e7; subst e6; subst e5; subst e4; subst e3
    simp [wi_sA]
    rw [e2, wi_sI, if_pos ⟨rfl, rfl, rfl⟩]
    exact (f1.wi (by omega) 1).trans h2
  · rw [e8, wi_sA, if_neg (by omega), e7, wi_sA, if_neg (by omega), e6, wi_sA, if_neg (by omega), e5, wi_sA, if_neg (by omega), e4, wi_sA, if_neg (by omega), e3, wi_sA, if_pos ⟨rfl, rfl⟩, cp _ _ _ _ (by omega), r f2]
    exact h3 m hmm
  · obtain ⟨a, b, c, d⟩ := h4 l hll
    refine ⟨?_, ?_, ?_, ?_⟩
    · rw [e8, wi_sA, if_neg (by omega), e7, wi_sA, if_neg (by omega), e6, wi_sA, if_neg (by omega), e5, wi_sA, if_neg (by omega), e4, wi_sA, if_pos ⟨rfl, rfl⟩, cp _ _ _ _ (by omega), r f3]
      exact a
    · rw [e8, wi_sA, if_neg (by omega), e7, wi_sA, if_neg (by omega), e6, wi_sA, if_neg (by omega), e5, wi_sA, if_pos ⟨rfl, rfl⟩, cp _ _ _ _ (by omega), r f4]
      exact b
    · rw [e8, wi_sA, if_neg (by omega), e7, wi_sA, if_neg (by omega), e6, wi_sA, if_pos ⟨rfl, rfl⟩, cp _ _ _ _ (by omega), r f5]
      exact c
    · rw [e8, wi_sA, if_neg (by omega), e7, wi_sA, if_pos ⟨rfl, rfl⟩, cp _ _ _ _ (by omega), r f6]
      exact d
  · rw [e8, wi_sA, if_pos ⟨rfl, rfl⟩, cp _ _ _ _ (by omega), r f7]
    exact h5 j hj
/-- dropping a leg: up to the place j the legs behind have come one down -/
theorem s_dropLeg {n l : Nat} {w : Wd} {S : Sv} {Q : Wd → Prop} (hS : wf S) (h : rS n w S) (hl : l < nL S) (k : ∀ w', fm n 0 6 w w' → rS n w' (drpL S l) → Q w') : wp_X5_dropLeg n (nI l) w Q := by
  have hm := hS.l
  obtain ⟨h1, h2, h3, h4, h5⟩ := id h
  have key : ∀ o, ∀ j, ∀ v : Wd, (∀ i, i < nL S → wi v n o i = (if l ≤ i ∧ i < j then wi w n o (i + 1) else wi w n o i)) → j < nL S → ∀ i, i < nL S → (if i = j then wi v n o (j + 1) else wi v n o i) = (if l ≤ i ∧ i < j then wi w n o (i + 1) else if i = j then wi v n o (j + 1) else wi w n o i) := by
    intro o j v hv hj i hi
    by_cases q : i = j
    · rw [if_pos q, if_neg (by omega), if_pos q]
    · rw [if_neg q, hv i hi, if_neg q]
  unfold wp_X5_dropLeg wp_X5_dropLeg_L2
  refine lpIA (B := fun i v K => wp_X5_dropLeg_B2 n i v Q K) (fun j v => l ≤ j ∧ fm n 0 6 w v ∧ wi v n 0 0 = nI (nM S) ∧ wi v n 0 1 = nI (nL S) ∧ (∀ b, b = 1 ∨ b = 6 → v.1 n b = w.1 n b) ∧ ∀ o, 2 ≤ o → o ≤ 5 → ∀ i, i < nL S → wi v n o i = (if l ≤ i ∧ i < j then wi w n o (i + 1) else wi w n o i)) (nL S - 1) l (by omega) (by omega) ⟨Nat.le_refl _, fm.rf, h1, h2, fun _ _ => rfl, fun o _ _ i _ => by rw [if_neg (by omega)]⟩ ?_ ?_
  · rintro j v K hj ⟨lj, f, g1, g2, g3, g4⟩ hK
    unfold wp_X5_dropLeg_B2
    rw [g2, show (1 : Int32) = nI 1 from rfl, nI_add, n_le (by omega) (by omega), n_cl (by omega), n_cl (by omega)]
    have i1 := n_in (show j < 20 by omega) (by omega)
    have i2 := n_in (show j + 1 < 20 by omega) (by omega)
    refine ⟨fun c => absurd c (by omega), fun _ => ⟨i2, i1, fun w1 e1 => ⟨i2, i1, fun w2 e2 => ⟨i2, i1, fun w3 e3 => ⟨i2, i1, fun w4 e4 => ?_⟩⟩⟩⟩⟩
    have z1 : ∀ b i, wi w1 n b i = if b = 2 ∧ i = j then wi v n 2 (j + 1) else wi v n b i := fun b i => by rw [e1, wi_sI]; simp
    have z2 : ∀ b i, wi w2 n b i = if b = 3 ∧ i = j then wi v n 3 (j + 1) else wi w1 n b i := fun b i => by rw [e2, wi_sI, z1]; simp
    have z3 : ∀ b i, wi w3 n b i = if b = 4 ∧ i = j then wi v n 4 (j + 1) else wi w2 n b i := fun b i => by rw [e3, wi_sI, z2, z1]; simp
    have z4 : ∀ b i, wi w4 n b i = if b = 5 ∧ i = j then wi v n 5 (j + 1) else wi w3 n b i := fun b i => by rw [e4, wi_sI, z3, z2, z1]; simp
    have z : ∀ o i, 2 ≤ o → o ≤ 5 → wi w4 n o i = if i = j then wi v n o (j + 1) else wi v n o i := by
      intro o i h1 h2
      rw [z4, z3, z2, z1]
      rcases (show o = 2 ∨ o = 3 ∨ o = 4 ∨ o = 5 by omega) with rfl | rfl | rfl | rfl <;> simp <;> split <;> simp_all
    have zz : ∀ b i, ¬ (2 ≤ b ∧ b ≤ 5) → wi w4 n b i = wi v n b i := by
      intro b i hb
      rw [z4, z3, z2, z1, if_neg (by omega), if_neg (by omega), if_neg (by omega), if_neg (by omega)]
    have ff : fm n 0 6 w w4 := by
      subst e4; subst e3; subst e2; subst e1
      exact (((f.sI (by omega) (by omega)).sI (by omega) (by omega)).sI (by omega) (by omega)).sI (by omega) (by omega)
    rw [show (j : Nat) + 1 = j + 1 from rfl]
    refine hK w4 ⟨by omega, ff, (zz 0 0 (by omega)).trans g1, (zz 0 1 (by omega)).trans g2, fun b hb => ?_, fun o o1 o2 i hi => ?_⟩
    · rw [← g3 b hb]
      funext i
      exact zz b i (by omega)
    · rw [z o i o1 o2]
      by_cases q : i = j
      · subst q
        rw [if_pos rfl, if_pos ⟨by omega, by omega⟩, g4 o o1 o2 (i + 1) (by omega), if_neg (by omega)]
      · rw [if_neg q, g4 o o1 o2 i hi]
        by_cases q2 : l ≤ i ∧ i < j
        · rw [if_pos q2, if_pos (by omega)]
        · rw [if_neg q2, if_neg (by omega)]
  · rintro v K ⟨lj, f, g1, g2, g3, g4⟩
    unfold wp_X5_dropLeg_B2
    rw [g2, show (1 : Int32) = nI 1 from rfl, nI_add, n_le (by omega) (by omega), pk_sub (by omega)]
    refine ⟨fun _ w1 e1 => k w1 ?_ ?_, fun c => absurd (show nL S ≤ nL S - 1 + 1 by omega) c⟩
    · subst e1; exact f.sI (by omega) (by omega)
    · have z : ∀ b i, ¬ (b = 0 ∧ i = 1) → wi w1 n b i = wi v n b i := fun b i hb => by rw [e1, wi_sI, if_neg (by omega)]
      have z5 : ∀ o, 2 ≤ o → o ≤ 5 → ∀ i, i < nL S - 1 → wi w1 n o i = sft (wi w n o) l i := by
        intro o o1 o2 i hi
        rw [z o i (by omega), g4 o o1 o2 i (by omega)]
        unfold sft
        by_cases q : i < l
        · rw [if_pos q, if_neg (by omega)]
        · rw [if_neg q, if_pos (by omega)]
      refine ⟨(z 0 0 (by omega)).trans g1, by rw [e1, wi_sI, if_pos ⟨rfl, rfl, rfl⟩]; rfl, fun m hmm => ?_, fun i hi => ?_, fun j hj => ?_⟩
      · rw [z 1 m (by omega)]
        exact (congrFun (g3 1 (Or.inl rfl)) m).trans (h3 m hmm)
      · have hi' : i < nL S - 1 := hi
        have e : ∀ q, q = i ∨ q = i + 1 → q < nL S := by omega
        obtain ⟨a, b, c, d⟩ := h4 i (by omega)
        obtain ⟨a', b', c', d'⟩ := h4 (i + 1) (by omega)
        rw [z5 2 (by omega) (by omega) i hi', z5 3 (by omega) (by omega) i hi', z5 4 (by omega) (by omega) i hi', z5 5 (by omega) (by omega) i hi']
        simp only [sft, drpL, fr, tO, df, ln] at *
        by_cases q : i < l
        · simp only [if_pos q]; exact ⟨a, b, c, d⟩
        · simp only [if_neg q]; exact ⟨a', b', c', d'⟩
      · rw [z 6 j (by omega)]
        exact (congrFun (g3 6 (Or.inr rfl)) j).trans (h5 j hj)
