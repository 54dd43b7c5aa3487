/-! THE CLASS: Tree -/
theorem lpDA {α : Type} {B : Int32 → α → (Int32 → α → Prop) → Prop} {a0 : α} (F : Nat → α → Prop) (k0 : Nat) (hk : k0 < 2147483648) (h0 : F k0 a0) (hs : ∀ k a (K : Int32 → α → Prop), k ≤ k0 → F k a → (∀ k' a', k = k' + 1 → F k' a' → K (nI k') a') → B (nI k) a K) :
    ∃ (I : Int32 → α → Prop) (μ : Int32 → α → Nat), I (nI k0) a0 ∧ ∀ i a, I i a → B i a (fun i' a' => I i' a' ∧ μ i' a' < μ i a) := by
  refine ⟨fun i a => ∃ k, k ≤ k0 ∧ i = nI k ∧ F k a, fun i _ => i.toNatClampNeg, ⟨k0, Nat.le_refl _, rfl, h0⟩, ?_⟩
  rintro i a ⟨k, hk', rfl, hF⟩
  refine hs k a _ hk' hF (fun k' a' e h' => ⟨⟨k', by omega, rfl, h'⟩, ?_⟩)
  dsimp only
  rw [n_cl (by omega), n_cl (by omega)]; omega
theorem ins_split {S : Sv} {x : Nat} {A B : List Nat} (hA : ∀ y ∈ A, ln S y ≤ ln S x) (hB : ∀ y ∈ B, ln S x < ln S y) : ins S x (A ++ B) = A ++ x :: B := by
  induction A with
  | nil =>
    cases B with
    | nil => rfl
    | cons b t =>
      have := hB b List.mem_cons_self
      show (if ln S b ≤ ln S x then _ else _) = _
      rw [if_neg (by omega)]; rfl
  | cons a t ih =>
    have := hA a List.mem_cons_self
    show (if ln S a ≤ ln S x then a :: ins S x (t ++ B) else _) = _
    rw [if_pos this, ih (fun y hy => hA y (List.mem_cons_of_mem _ hy))]; rfl
theorem ordL_ln {S : Sv} {k i j : Nat} (hk : k ≤ 100) (hij : i < j) (hj : j < k) : ln S ((ordL S k).getD i 0) ≤ ln S ((ordL S k).getD j 0) := by
  have hl : (ordL S k).length = k := ordL_len
  have h1 := List.pairwise_iff_getElem.mp (ordL_sorted (S := S) hk) i j (by omega) (by omega) hij
  have m1 : (ordL S k)[i]'(by omega) < k := ordL_mem.mp (List.getElem_mem _)
  have m2 : (ordL S k)[j]'(by omega) < k := ordL_mem.mp (List.getElem_mem _)
  have e1 : (ordL S k).getD i 0 = (ordL S k)[i]'(by omega) := by simp [List.getD, show i < (ordL S k).length by omega]
  have e2 : (ordL S k).getD j 0 = (ordL S k)[j]'(by omega) := by simp [List.getD, show j < (ordL S k).length by omega]
  rw [e1, e2]
  unfold ky at h1
  omega
theorem ordL_lt {S : Sv} {k i : Nat} (hi : i < k) : (ordL S k).getD i 0 < k := by
  have hl : (ordL S k).length = k := ordL_len
  have e1 : (ordL S k).getD i 0 = (ordL S k)[i]'(by omega) := by simp [List.getD, show i < (ordL S k).length by omega]
  rw [e1]
  exact ordL_mem.mp (List.getElem_mem _)
/-- where the new leg goes in -/
theorem ordL_in {S : Sv} {k p : Nat} (hk : k ≤ 99) (hp : p ≤ k) (hA : p = 0 ∨ ln S ((ordL S k).getD (p - 1) 0) ≤ ln S k) (hB : ∀ i, p ≤ i → i < k → ln S k < ln S ((ordL S k).getD i 0)) (i : Nat) : (ordL S (k + 1)).getD i 0 = if i < p then (ordL S k).getD i 0 else if i = p then k else (ordL S k).getD (i - 1) 0 := by
  have hl : (ordL S k).length = k := ordL_len
  have e : ordL S (k + 1) = (ordL S k).take p ++ k :: (ordL S k).drop p := by
    rw [ordL]
    have := ins_split (S := S) (x := k) (A := (ordL S k).take p) (B := (ordL S k).drop p) (fun y hy => ?_) (fun y hy => ?_)
    · rw [List.take_append_drop] at this; exact this
    · obtain ⟨i, hi⟩ := List.getElem?_of_mem hy
      rw [List.getElem?_take] at hi
      split at hi
      · rename_i q
        rcases hA with z | z
        · omega
        · have e1 : (ordL S k).getD i 0 = y := by simp [List.getD, hi]
          by_cases w : i = p - 1
          · rw [← w, e1] at z; exact z
          · have := ordL_ln (S := S) (k := k) (i := i) (j := p - 1) (by omega) (by omega) (by omega)
            rw [e1] at this
            omega
      · cases hi
    · obtain ⟨i, hi⟩ := List.getElem?_of_mem hy
      rw [List.getElem?_drop] at hi
      have hlt : p + i < (ordL S k).length := (List.getElem?_eq_some_iff.mp hi).1
      have e1 : (ordL S k).getD (p + i) 0 = y := by simp only [List.getD, hi]; rfl
      rw [← e1]
      exact hB _ (by omega) (by omega)
  rw [e]
  simp only [List.getD]
  by_cases h1 : i < p
  · rw [if_pos h1, List.getElem?_append_left (by rw [List.length_take]; omega), List.getElem?_take_of_lt h1]
  · rw [if_neg h1, List.getElem?_append_right (by rw [List.length_take]; omega), List.length_take]
    by_cases h2 : i = p
    · rw [if_pos h2, show i - min p (ordL S k).length = 0 by omega]; rfl
    · rw [if_neg h2, show i - min p (ordL S k).length = (i - 1 - p) + 1 by omega, List.getElem?_cons_succ, List.getElem?_drop, show p + (i - 1 - p) = i - 1 by omega]
theorem s_sortLegs {n : Nat} {w : Wd} {S : Sv} {Q : Wd → Prop} (hS : wf S) (h : rS n w S) (k : ∀ w', fm n 11 11 w w' → (∀ i, i < nL S → wi w' n 11 i = nI (oL S i)) → Q w') : wp_X7_sortLegs n w Q := by
  have hl := hS.l
  obtain ⟨h1, h2, h3, h4, h5⟩ := id h
  unfold wp_X7_sortLegs wp_X7_sortLegs_L2
  refine lpIA (B := fun i v K => wp_X7_sortLegs_B2 n i v Q K) (fun j v => fm n 11 11 w v ∧ ∀ i, i < j → wi v n 11 i = nI ((ordL S j).getD i 0)) (nL S) 0 (by omega) (Nat.zero_le _) ⟨fm.rf, fun i hi => absurd hi (by omega)⟩ ?_ ?_
  · rintro j v K hj ⟨f, g⟩ hK
    have e1 : wi v n 0 1 = nI (nL S) := (f.wi (by omega) 1).trans h2
    have e5 : ∀ i, i < nL S → wi v n 5 i = nI (ln S i) := fun i hi => (f.wi (by omega) i).trans (h4 i hi).2.2.2
    unfold wp_X7_sortLegs_B2
    rw [e1, n_le (by omega) (by omega)]
    refine ⟨fun c => absurd c (by omega), fun _ => ?_⟩
    unfold wp_X7_sortLegs_L15
    refine lpDA (B := fun i u K' => wp_X7_sortLegs_B15 n (nI j) i u Q K K') (fun p u => fm n 11 11 w u ∧ (∀ i, i < p → wi u n 11 i = nI ((ordL S j).getD i 0)) ∧ (∀ i, p ≤ i → i < j → wi u n 11 (i + 1) = nI ((ordL S j).getD i 0)) ∧ ∀ i, p ≤ i → i < j → ln S j < ln S ((ordL S j).getD i 0)) j (by omega) ⟨f, g, fun i a b => absurd b (by omega), fun i a b => absurd b (by omega)⟩ ?_
    rintro p u K' hp ⟨f', g1, g2, g3⟩ hK'
    have e5' : ∀ i, i < nL S → wi u n 5 i = nI (ln S i) := fun i hi => (f'.wi (by omega) i).trans (h4 i hi).2.2.2
    have done : (p = 0 ∨ ln S ((ordL S j).getD (p - 1) 0) ≤ ln S j) → wp_X7_sortLegs_J67 n (nI j) (nI p) u Q K := by
      intro hA
      unfold wp_X7_sortLegs_J67
      rw [n_cl (by omega), nI_1]
      refine ⟨n_in (by omega) (by omega), fun u1 q1 => hK u1 ⟨by rw [q1]; exact f'.sI (by omega) (by omega), fun i hi => ?_⟩⟩
      rw [q1, wi_sI, ordL_in (by omega) hp hA g3 i]
      by_cases z : i = p
      · rw [if_pos ⟨rfl, rfl, z⟩, if_neg (by omega), if_pos z]
      · rw [if_neg (by omega)]
        by_cases y : i < p
        · rw [if_pos y]; exact g1 i y
        · rw [if_neg y, if_neg z]
          have := g2 (i - 1) (by omega) (by omega)
          rw [show i - 1 + 1 = i by omega] at this
          exact this
    unfold wp_X7_sortLegs_B15
    rw [show (0 : Int32) = nI 0 from rfl, n_le (by omega) (by omega)]
    refine ⟨fun c => done (Or.inl (by omega)), fun c => ?_⟩
    rw [show (1 : Int32) = nI 1 from rfl, pk_sub (by omega), n_cl (by omega), g1 (p - 1) (by omega)]
    have hlt := ordL_lt (S := S) (k := j) (i := p - 1) (by omega)
    refine ⟨n_in (by omega) (by omega), n_in (by omega) (by omega), n_in (by omega) (by omega), ?_⟩
    rw [n_cl (by omega), n_cl (by omega), e5' _ (by omega), e5' _ hj]
    have hg1 := hS.g (l := (ordL S j).getD (p - 1) 0) (by omega)
    have hg2 := hS.g hj
    unfold wfL at hg1 hg2
    rw [n_le (by omega) (by omega)]
    refine ⟨fun c2 => done (Or.inr c2), fun c2 => ⟨n_in (by omega) (by omega), n_in (by omega) (by omega), fun u1 q1 => ?_⟩⟩
    rw [n_cl (by omega)] at q1
    have ep : nI p + (-1) = nI (p - 1) := by
      have := pk_m1 (p - 1)
      rwa [show p - 1 + 1 = p by omega] at this
    rw [show (-nI 1 : Int32) = -1 from by decide, ep]
    refine hK' (p - 1) u1 (by omega) ⟨by rw [q1]; exact f'.sI (by omega) (by omega), fun i hi => ?_, fun i a b => ?_, fun i a b => ?_⟩
    · rw [q1, wi_sI, if_neg (by omega)]; exact g1 i (by omega)
    · rw [q1, wi_sI]
      by_cases z : i + 1 = p
      · rw [if_pos ⟨rfl, rfl, z⟩, show i = p - 1 by omega]
      · rw [if_neg (by omega)]; exact g2 i (by omega) b
    · by_cases z : i = p - 1
      · rw [z]; omega
      · exact g3 i (by omega) b
  · rintro v K ⟨f, g⟩
    have e1 : wi v n 0 1 = nI (nL S) := (f.wi (by omega) 1).trans h2
    unfold wp_X7_sortLegs_B2
    rw [e1, n_le (by omega) (by omega)]
    exact ⟨fun _ => k v f (fun i hi => g i hi), fun c => absurd (Nat.le_refl _) c⟩
theorem s_join {n a b : Nat} {w : Wd} {S : Sv} {f : Nat → Nat} {Q : Wd → Prop} (hS : wf S) (h : rS n w S) (hf : ∀ m, m < nM S → wi w n 9 m = nI (f m) ∧ f m < 10) (ha : a < 10) (k : ∀ w', fm n 9 9 w w' → (∀ m, m < nM S → wi w' n 9 m = nI (if f m = a then b else f m)) → Q w') : wp_X7_join n (nI a) (nI b) w Q := by
  have hm := hS.m
  obtain ⟨h1, h2, h3, h4, h5⟩ := id h
  unfold wp_X7_join wp_X7_join_L2
  refine lpIA (B := fun i v K => wp_X7_join_B2 n (nI a) (nI b) i v Q K) (fun j v => fm n 9 9 w v ∧ ∀ m, m < nM S → wi v n 9 m = if m < j then nI (if f m = a then b else f m) else nI (f m)) (nM S) 0 (by omega) (Nat.zero_le _) ⟨fm.rf, fun m hm => by rw [if_neg (by omega)]; exact (hf m hm).1⟩ ?_ ?_
  · rintro j v K hj ⟨fr, g⟩ hK
    have e1 : wi v n 0 0 = nI (nM S) := (fr.wi (by omega) 0).trans h1
    obtain ⟨-, hfj⟩ := hf j hj
    unfold wp_X7_join_B2
    rw [e1, n_le (by omega) (by omega), n_cl (by omega), g j hj, if_neg (by omega), n_eq (by omega) (by omega), nI_1]
    have hin := n_in (show j < 10 by omega) (by omega)
    refine ⟨fun c => absurd c (by omega), fun _ => ⟨hin, fun c => hK v ⟨fr, fun m hm => ?_⟩, fun c => ⟨hin, fun u q => hK u ⟨by rw [q]; exact fr.sI (by omega) (by omega), fun m hm => ?_⟩⟩⟩⟩
    · rw [g m hm]
      by_cases z : m = j
      · subst z; rw [if_neg (by omega), if_pos (show m < m + 1 by omega), if_neg c]
      · by_cases y : m < j
        · rw [if_pos y, if_pos (show m < j + 1 by omega)]
        · rw [if_neg y, if_neg (show ¬ m < j + 1 by omega)]
    · rw [q, wi_sI]
      by_cases z : m = j
      · subst z; rw [if_pos ⟨rfl, rfl, rfl⟩, if_pos (show m < m + 1 by omega), if_pos c]
      · rw [if_neg (by omega), g m hm]
        by_cases y : m < j
        · rw [if_pos y, if_pos (show m < j + 1 by omega)]
        · rw [if_neg y, if_neg (show ¬ m < j + 1 by omega)]
  · rintro v K ⟨fr, g⟩
    have e1 : wi v n 0 0 = nI (nM S) := (fr.wi (by omega) 0).trans h1
    unfold wp_X7_join_B2
    rw [e1, n_le (by omega) (by omega)]
    exact ⟨fun _ => k v fr (fun m hm => by rw [g m hm, if_pos hm]), fun c => absurd (Nat.le_refl _) c⟩
/-- what hangs so far, in the cells -/
def nT (n : Nat) (w : Wd) (S : Sv) : Prop := (∀ m, m < nM S → wi w n 9 m = nI (net S m)) ∧ bm (wi w n 8 0) (tr S)
def hT (n : Nat) (w : Wd) (S : Sv) (h : Ht) : Prop := (∀ m, m < nM S → bm (wi w n 10 m) (h.2.1 m)) ∧ bm (wi w n 8 1) h.2.2
def rM (S : Sv) (h : Ht) (m : Nat) : Bool := decide (m < nM S) && hung S h m
theorem s_reachBy {n l : Nat} {w : Wd} {S : Sv} {h : Ht} {x : Int32} {Q : Int32 → Wd → Prop} (hS : wf S) (hr : rS n w S) (hl : l < nL S) (ht : tr S l = true) (hx : bm x (rM S h)) (hn : nT n w S) (hh : hT n w S h) (k : ∀ r w', fm n 8 10 w w' → nT n w' S → hT n w' S (hst S h l) → bm (x ||| r) (rM S (hst S h l)) → Q r w') : wp_X7_reachBy n (nI l) x w Q := by
  have hm := hS.m
  have hl2 := hS.l
  have hg := hS.g hl
  unfold wfL at hg
  obtain ⟨h1, h2, h3, h4, h5⟩ := id hr
  obtain ⟨a, b, -, -⟩ := h4 l hl
  have bl := bm_bit l (by omega)
  have q1 : rM S h (fr S l) = hung S h (fr S l) := by simp [rM, hg.1]
  have q2 : rM S h (tO S l) = hung S h (tO S l) := by simp [rM, hg.2.1]
  have in1 := n_in (show fr S l < 10 by omega) (by omega)
  have in2 := n_in (show tO S l < 10 by omega) (by omega)
  unfold wp_X7_reachBy
  rw [n_cl (by omega), a, b, n_cl (by omega), n_cl (by omega)]
  -- the two ways of hanging, in the cells
  have cell : ∀ (m o : Nat) (d : Bool), m < nM S → o < nM S → m ≠ o → hung S h m = false → ∀ v : Wd, (∀ j, wi v n 9 j = wi w n 9 j) → wi v n 8 0 = wi w n 8 0 → fm n 8 10 w v → bm (wi v n 8 1) (fun k => (d && (k == l)) || h.2.2 k) → (∀ j, wi v n 10 j = if j = m then wi w n 10 o ||| ((1 : Int32) <<< (nI l &&& 31)) else wi w n 10 j) → (hst S h l = hang1 h m o l d) → Q ((1 : Int32) <<< (nI m &&& 31)) v := by
    intro m o d hm1 ho1 hmo hum v v1 v2 v3 v4 v5 e
    refine k _ v v3 ⟨fun j hj => (v1 j).trans (hn.1 j hj), by rw [v2]; exact hn.2⟩ ?_ ?_
    · rw [e]
      refine ⟨fun j hj => ?_, ?_⟩
      · rw [v5 j]
        by_cases z : j = m
        · rw [if_pos z]
          refine bm_congr (bm_or (hh.1 o ho1) bl) (fun i => ?_)
          by_cases y : i = l
          · subst y; simp [hang1, z]
          · simp [hang1, z, y]
        · rw [if_neg z]
          simp only [hang1, if_neg z]
          exact hh.1 j hj
      · exact v4
    · rw [e]
      refine bm_congr (bm_or hx (bm_bit m (by omega))) (fun i => ?_)
      simp only [rM, hung_hang1]
      by_cases z : i = m
      · subst z; simp [hm1]
      · have : (i == m) = false := by simpa using z
        rw [decide_eq_false z, this, Bool.or_false, Bool.false_or]
  refine ⟨n_in (by omega) (by omega), n_in (by omega) (by omega), ?_⟩
  have nochange : hung S h (fr S l) = hung S h (tO S l) → Q 0 w := by
    intro e
    have e2 : hst S h l = h := by unfold hst; rw [if_pos ht, if_pos e]
    refine k 0 w fm.rf hn (by rw [e2]; exact hh) ?_
    rw [e2]
    refine bm_congr (bm_or hx bm_0) (fun i => by simp)
  refine s_isIn hx (by omega) (fun p1 => ?_) (fun p1 => ?_)
  · rw [q1] at p1
    refine s_isIn hx (by omega) (fun p2 => ?_) (fun p2 => ?_)
    · rw [q2] at p2
      exact ⟨fun c => absurd rfl c, fun _ => nochange (p1.trans p2.symm)⟩
    · rw [q2] at p2
      refine ⟨fun _ => s_isIn hx (by omega) (fun _ => ⟨fun c => absurd c (by decide), fun _ v1 e1 => ⟨in1, in2, fun v2 e2 => ?_⟩⟩) (fun p3 => by rw [q1, p1] at p3; cases p3), fun c => absurd c (by decide)⟩
      have hst' : hst S h l = hang1 h (tO S l) (fr S l) l true := by
        unfold hst; rw [if_pos ht, if_neg (by rw [p1, p2]; simp), if_pos p1]
      refine cell (tO S l) (fr S l) true hg.2.1 hg.1 (fun z => hg.2.2.1 z.symm) p2 v2 (fun j => ?_) ?_ ?_ ?_ (fun j => ?_) hst'
      · rw [e2, wi_sI, if_neg (by omega), e1, wi_sI, if_neg (by omega)]
      · rw [e2, wi_sI, if_neg (by omega), e1, wi_sI, if_neg (by omega)]
      · rw [e2, e1]; exact (fm.rf.sI (by omega) (by omega)).sI (by omega) (by omega)
      · rw [e2, wi_sI, if_neg (by omega), e1, wi_sI, if_pos ⟨rfl, rfl, rfl⟩]
        refine bm_congr (bm_or hh.2 bl) (fun i => ?_)
        by_cases y : i = l
        · subst y; simp
        · simp [y]
      · rw [e2, wi_sI]
        by_cases z : j = tO S l
        · rw [if_pos ⟨rfl, rfl, z⟩, if_pos z, e1, wi_sI, if_neg (by omega)]
        · rw [if_neg (by omega), if_neg z, e1, wi_sI, if_neg (by omega)]
  · rw [q1] at p1
    refine s_isIn hx (by omega) (fun p2 => ?_) (fun p2 => ?_)
    · rw [q2] at p2
      refine ⟨fun _ => s_isIn hx (by omega) (fun p3 => by rw [q1, p1] at p3; cases p3) (fun _ => ⟨fun _ => ⟨in2, in1, fun v1 e1 => ?_⟩, fun c => absurd rfl c⟩), fun c => absurd c (by decide)⟩
      have hst' : hst S h l = hang1 h (fr S l) (tO S l) l false := by
        unfold hst; rw [if_pos ht, if_neg (by rw [p1, p2]; simp), if_neg (by rw [p1]; simp)]
      refine cell (fr S l) (tO S l) false hg.1 hg.2.1 hg.2.2.1 p1 v1 (fun j => ?_) ?_ ?_ ?_ (fun j => ?_) hst'
      · rw [e1, wi_sI, if_neg (by omega)]
      · rw [e1, wi_sI, if_neg (by omega)]
      · rw [e1]; exact fm.rf.sI (by omega) (by omega)
      · rw [e1, wi_sI, if_neg (by omega)]
        exact bm_congr hh.2 (fun i => by simp)
      · rw [e1, wi_sI]
        by_cases z : j = fr S l
        · rw [if_pos ⟨rfl, rfl, z⟩, if_pos z]
        · rw [if_neg (by omega), if_neg z]
    · rw [q2] at p2
      exact ⟨fun c => absurd rfl c, fun _ => nochange (p1.trans p2.symm)⟩
