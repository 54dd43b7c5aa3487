/-! THE MODEL: the order of legs, the tree, ways -/
theorem lpG {α β : Type} {B : α → β → (α → β → Prop) → Prop} {a0 : α} {b0 : β} (F : Nat → α → β → Prop) (N : Nat) (h0 : F N a0 b0) (hs : ∀ k a b (K : α → β → Prop), F k a b → (∀ k' a' b', k' < k → F k' a' b' → K a' b') → B a b K) :
    ∃ (I : α → β → Prop) (μ : α → β → Nat), I a0 b0 ∧ ∀ a b, I a b → B a b (fun a' b' => I a' b' ∧ μ a' b' < μ a b) := by
  have least : ∀ (P : Nat → Prop) (n : Nat), P n → ∃ k, P k ∧ ∀ j, P j → k ≤ j := by
    intro P n
    induction n using Nat.strongRecOn with
    | ind n ih =>
      intro h
      by_cases q : ∃ j, j < n ∧ P j
      · obtain ⟨j, j1, j2⟩ := q; exact ih j j1 j2
      · refine ⟨n, h, fun j hj => ?_⟩
        rcases Nat.lt_or_ge j n with z | z
        · exact absurd ⟨j, z, hj⟩ q
        · exact z
  refine ⟨fun a b => ∃ k, F k a b, fun a b => Classical.epsilon (fun k => F k a b ∧ ∀ j, F j a b → k ≤ j), ⟨N, h0⟩, ?_⟩
  rintro a b ⟨n, hn⟩
  have e := Classical.epsilon_spec (least (fun k => F k a b) n hn)
  refine hs _ a b _ e.1 (fun k' a' b' hk' hf => ⟨⟨k', hf⟩, ?_⟩)
  have e' := Classical.epsilon_spec (least (fun k => F k a' b') k' hf)
  exact Nat.lt_of_le_of_lt (e'.2 k' hf) hk'
theorem m_of2 {l c : Nat} {x : Int32} {R : Int32 → Prop} (hx : x = nI l) (hy : (0 : Nat) = 0) (hl : l < 20) (hc : @OfNat.ofNat Nat c (instOfNatNat c) < 4) (k : R (nI (12 + 4 * l + @OfNat.ofNat Nat c (instOfNatNat c)))) : wp_X9_of x (@OfNat.ofNat Int32 c _) (fun r => vp_in r 95 ∧ R r) := by
  subst hx
  exact m_of (l := l) (c := c) ⟨n_in (show 12 + 4 * l + c < 95 by have : c < 4 := hc; omega) (by omega), k⟩
theorem m_next {w : Wd} {S : Sv} {x1 : Int32} {b : Nat → Bool} {Q : Int32 → Prop} (hS : wf S) (h : sS w S) (hb : (x1 = -1 ∧ ∀ l, b l = true) ∨ ∃ o, o < nL S ∧ x1 = nI o ∧ ∀ l, b l = decide (ky S o < ky S l)) (k : ∀ f : Int, ((f = -1 ∧ ∀ l, l < nL S → b l = false) ∨ ∃ j, j < nL S ∧ f = (j : Int) ∧ b j = true ∧ ∀ l, l < nL S → b l = true → ky S j ≤ ky S l) → Q (iI f)) : wp_X9_nextLeg x1 w Q := by
  have hl := hS.l
  have kyb : ∀ l, l < nL S → ky S l < 10000 := fun l hl' => by
    have := (hS.g hl').2.2.2.2.2.2
    unfold ky
    omega
  have kv : ∀ l, l < nL S → (100 : Int32) * wi w 0 33 (12 + 4 * l + 2) + nI l = nI (ky S l) := fun l hl' => by
    rw [(h.2.2.2.1 l hl').2.2.1, show (100 : Int32) = nI 100 from rfl, pk_mul, nI_add]; rfl
  unfold wp_X9_nextLeg wp_X9_nextLeg_L4
  refine lpAI (B := fun x i K => wp_X9_nextLeg_B4 x1 x i w Q K) (fun n x => (x = -1 ∧ ∀ l, l < n → b l = false) ∨ ∃ j, j < n ∧ x = nI j ∧ b j = true ∧ ∀ l, l < n → b l = true → ky S j ≤ ky S l) (nL S) 0 (by omega) (Nat.zero_le _) (Or.inl ⟨rfl, fun l hl => absurd hl (by omega)⟩) ?_ ?_
  · intro n x K hn hF hK
    have keep : (b n = false ∨ ∃ j, j < n ∧ x = nI j ∧ ky S j ≤ ky S n) → K x (nI n + 1) := by
      intro q
      rw [nI_1 n]
      apply hK
      rcases hF with ⟨e, a⟩ | ⟨j, j1, j2, j3, j4⟩
      · refine Or.inl ⟨e, fun l hl => ?_⟩
        rcases q with q | ⟨j, j1, j2, -⟩
        · by_cases z : l = n
          · rw [z]; exact q
          · exact a l (by omega)
        · exact absurd (j2.symm.trans e) (n_m1 (by omega))
      · refine Or.inr ⟨j, by omega, j2, j3, fun l hl bl => ?_⟩
        by_cases z : l = n
        · rcases q with q | ⟨i, i1, i2, i3⟩
          · rw [z, q] at bl; cases bl
          · have : i = j := (n_eq (by omega) (by omega)).mp (i2.symm.trans j2)
            rw [z, ← this]; exact i3
        · exact j4 l (by omega) bl
    have take : b n = true → (x = -1 ∨ ∃ j, j < n ∧ x = nI j ∧ ky S n < ky S j) → K (nI n) (nI n + 1) := by
      intro bn q
      rw [nI_1 n]
      apply hK
      refine Or.inr ⟨n, by omega, rfl, bn, fun l hl bl => ?_⟩
      by_cases z : l = n
      · rw [z]; exact Nat.le_refl _
      · rcases hF with ⟨e, a⟩ | ⟨j, j1, j2, j3, j4⟩
        · have := a l (by omega); rw [bl] at this; cases this
        · rcases q with q | ⟨i, i1, i2, i3⟩
          · exact absurd (j2.symm.trans q) (n_m1 (by omega))
          · have e : i = j := (n_eq (by omega) (by omega)).mp (i2.symm.trans j2)
            have := j4 l (by omega) bl
            rw [e] at i3
            omega
    have J : ∀ s0 : Int32, (s0 = 0 ∧ b n = false) ∨ (s0 = 1 ∧ b n = true) → wp_X9_nextLeg_J62 x1 x (nI n) (nI (ky S n)) s0 w Q K := by
      rintro s0 (⟨rfl, z⟩ | ⟨rfl, z⟩)
      · unfold wp_X9_nextLeg_J62 wp_X9_nextLeg_J98
        exact ⟨fun _ => keep (Or.inl z), fun y => absurd rfl y⟩
      · unfold wp_X9_nextLeg_J62 wp_X9_nextLeg_J98
        refine ⟨fun y => absurd y (by decide), fun _ => ⟨fun y => take z (Or.inl y), fun y => ?_⟩⟩
        rcases id hF with ⟨e, -⟩ | ⟨j, j1, j2, j3, j4⟩
        · exact absurd e y
        · refine m_of2 j2 rfl (by omega) (by omega) ?_
          have e84 : (100 : Int32) * wi w 0 33 (12 + 4 * j + 2) + x = nI (ky S j) := by rw [j2]; exact kv j (by omega)
          rw [n_cl (by omega), e84, n_le (by have := kyb j (by omega); omega) (by have := kyb n hn; omega)]
          exact ⟨fun q => keep (Or.inr ⟨j, j1, j2, q⟩), fun q => take z (Or.inr ⟨j, j1, j2, by omega⟩)⟩
    unfold wp_X9_nextLeg_B4
    rw [h.2.1, n_le (by omega) (by omega)]
    refine ⟨fun z => absurd z (by omega), fun _ => m_of2 rfl rfl (by omega) (by omega) ?_⟩
    rw [n_cl (by omega), kv n hn]
    rcases hb with ⟨rfl, hb⟩ | ⟨o, o1, rfl, hb⟩
    · exact ⟨fun _ => J 1 (Or.inr ⟨rfl, hb n⟩), fun y => absurd rfl y⟩
    · refine ⟨fun y => absurd y (n_m1 (by omega)), fun _ => m_of2 rfl rfl (by omega) (by omega) ?_⟩
      rw [n_cl (by omega), kv o o1, n_le (by have := kyb n hn; omega) (by have := kyb o o1; omega)]
      exact ⟨fun q => J 0 (Or.inl ⟨rfl, by rw [hb]; exact decide_eq_false (by omega)⟩), fun q => J 1 (Or.inr ⟨rfl, by rw [hb]; exact decide_eq_true (by omega)⟩)⟩
  · intro x K hF
    unfold wp_X9_nextLeg_B4
    refine ⟨fun _ => ?_, fun z => absurd (by rw [h.2.1]; exact Int32.le_refl _) z⟩
    rcases hF with ⟨rfl, a⟩ | ⟨j, j1, rfl, j3, j4⟩
    · exact k (-1) (Or.inl ⟨rfl, a⟩)
    · rw [nI_iI]; exact k j (Or.inr ⟨j, j1, rfl, j3, j4⟩)
/-- the i-th leg in the order, or none -/
def nx (S : Sv) (i : Nat) : Int32 := if i < nL S then nI (oL S i) else -1
theorem m_nx0 {w : Wd} {S : Sv} {Q : Int32 → Prop} (hS : wf S) (h : sS w S) (k : Q (nx S 0)) : wp_X9_nextLeg (-1) w Q := by
  refine m_next (b := fun _ => true) hS h (Or.inl ⟨rfl, fun _ => rfl⟩) ?_
  rintro f (⟨rfl, a⟩ | ⟨j, j1, rfl, -, j4⟩)
  · have e : nx S 0 = -1 := if_neg (fun z => absurd (a _ (oL_lt z)) (by decide))
    rw [e] at k; exact k
  · obtain ⟨p, p1, p2⟩ := oL_all j1
    have p0 : p = 0 := by
      rcases Nat.eq_zero_or_pos p with z | z
      · exact z
      · have q1 := oL_ky hS z p1
        have q2 := j4 (oL S 0) (oL_lt (by omega)) rfl
        rw [← p2] at q2; omega
    subst p0
    have e : nx S 0 = nI j := by unfold nx; rw [if_pos p1, p2]
    rw [e, nI_iI] at k; exact k
theorem m_nxS {w : Wd} {S : Sv} {i : Nat} {Q : Int32 → Prop} (hS : wf S) (h : sS w S) (hi : i < nL S) (k : Q (nx S (i + 1))) : wp_X9_nextLeg (nI (oL S i)) w Q := by
  refine m_next (b := fun l => decide (ky S (oL S i) < ky S l)) hS h (Or.inr ⟨oL S i, oL_lt hi, rfl, fun _ => rfl⟩) ?_
  rintro f (⟨rfl, a⟩ | ⟨j, j1, rfl, j3, j4⟩)
  · have e : nx S (i + 1) = -1 := if_neg (fun z => of_decide_eq_false (a _ (oL_lt z)) (oL_ky hS (by omega) z))
    rw [e] at k; exact k
  · obtain ⟨p, p1, p2⟩ := oL_all j1
    have q3 := of_decide_eq_true j3
    rw [← p2] at q3
    have h1 : i < p := by
      rcases Nat.lt_or_ge i p with z | z
      · exact z
      · rcases Nat.eq_or_lt_of_le z with y | y
        · rw [y] at q3; omega
        · have := oL_ky hS y hi; omega
    have h2 : p = i + 1 := by
      rcases Nat.lt_or_ge (i + 1) p with z | z
      · have q1 := oL_ky hS z p1
        have q2 := j4 (oL S (i + 1)) (oL_lt (by omega)) (decide_eq_true (oL_ky hS (by omega) (by omega)))
        rw [← p2] at q2; omega
      · omega
    subst h2
    have e : nx S (i + 1) = nI j := by unfold nx; rw [if_pos p1, p2]
    rw [e, nI_iI] at k; exact k
theorem m_join {w : Wd} {S : Sv} {a b : Nat} {f : Nat → Nat} {Q : Wd → Prop} (hS : wf S) (h : sS w S) (hf : ∀ m, m < nM S → wi w 0 37 m = nI (f m) ∧ f m < 10) (ha : a < nM S) (hb : b < nM S) (k : ∀ w', fl [37] w w' → (∀ m, m < nM S → wi w' 0 37 m = nI (if f m = max (f a) (f b) then min (f a) (f b) else f m)) → Q w') : wp_X9_join (nI a) (nI b) w Q := by
  have hm := hS.m
  obtain ⟨fa, fa2⟩ := hf a ha
  obtain ⟨fb, fb2⟩ := hf b hb
  have L : ∀ lo hi : Nat, lo < 10 → hi < 10 → (∀ w', fl [37] w w' → (∀ m, m < nM S → wi w' 0 37 m = nI (if f m = hi then lo else f m)) → Q w') → wp_X9_join_L66 (nI lo) (nI hi) 0 w Q := by
    intro lo hi lo1 hi1 kk
    unfold wp_X9_join_L66
    refine lpIA (B := fun i v K => wp_X9_join_B66 (nI lo) (nI hi) i v Q K) (fun j v => fl [37] w v ∧ ∀ m, m < nM S → wi v 0 37 m = nI (if m < j ∧ f m = hi then lo else f m)) (nM S) 0 (by omega) (Nat.zero_le _) ⟨fl_rf, fun m hm' => by rw [if_neg (by omega)]; exact (hf m hm').1⟩ ?_ ?_
    · rintro j v K hj ⟨fv, av⟩ hK
      have e0 : wi v 0 33 0 = nI (nM S) := (fv.wi (by decide) 0).trans h.1
      have ej : wi v 0 37 j = nI (f j) := by rw [av j hj, if_neg (by omega)]
      have fj := (hf j hj).2
      have J : ∀ s : Int32, s = nI (if f j = hi then lo else f j) → wp_X9_join_J106 (nI lo) (nI hi) (nI j) s (nI j) v Q K := by
        rintro s rfl
        unfold wp_X9_join_J106
        rw [n_cl (by omega), nI_1 j]
        refine ⟨n_in (by omega) (by omega), fun u q => hK u ⟨by rw [q]; exact fv.sI (by decide), fun m hm' => ?_⟩⟩
        rw [q, wi_sI]
        by_cases z : m = j
        · rw [if_pos ⟨rfl, rfl, z⟩, z]
          by_cases y : f j = hi
          · rw [if_pos y, if_pos ⟨by omega, y⟩]
          · rw [if_neg y, if_neg (fun t => y t.2)]
        · rw [if_neg (by omega), av m hm']
          by_cases y : m < j ∧ f m = hi
          · rw [if_pos y, if_pos ⟨by omega, y.2⟩]
          · rw [if_neg y, if_neg (fun t => y ⟨by omega, t.2⟩)]
      unfold wp_X9_join_B66
      rw [e0, n_le (by omega) (by omega), n_cl (by omega), ej, n_eq (by omega) (by omega)]
      exact ⟨fun z => absurd z (by omega), fun _ => ⟨n_in (by omega) (by omega), fun z => ⟨n_in (by omega) (by omega), J _ (by rw [if_neg z])⟩, fun z => J _ (by rw [if_pos z])⟩⟩
    · rintro v K ⟨fv, av⟩
      have e0 : wi v 0 33 0 = nI (nM S) := (fv.wi (by decide) 0).trans h.1
      unfold wp_X9_join_B66
      refine ⟨fun _ => kk v fv (fun m hm' => ?_), fun z => absurd (by rw [e0]; exact Int32.le_refl _) z⟩
      rw [av m hm']
      by_cases y : f m = hi
      · rw [if_pos y, if_pos ⟨hm', y⟩]
      · rw [if_neg y, if_neg (fun t => y t.2)]
  unfold wp_X9_join wp_X9_join_J30
  rw [n_cl (show a < 2147483648 by omega), n_cl (show b < 2147483648 by omega), fa, fb, n_le (by omega) (by omega)]
  refine ⟨n_in (by omega) (by omega), n_in (by omega) (by omega), fun z => ⟨n_in (by omega) (by omega), n_in (by omega) (by omega), n_in (by omega) (by omega), fun _ => ⟨n_in (by omega) (by omega), L _ _ fb2 fa2 (fun w' g e => k w' g ?_)⟩, fun y => absurd z y⟩, fun z => ⟨n_in (by omega) (by omega), n_in (by omega) (by omega), n_in (by omega) (by omega), fun y => absurd y z, fun _ => ⟨n_in (by omega) (by omega), L _ _ fa2 fb2 (fun w' g e => k w' g ?_)⟩⟩⟩
  · rw [Nat.max_eq_left z, Nat.min_eq_right z]; exact e
  · rw [Nat.max_eq_right (by omega), Nat.min_eq_left (by omega)]; exact e
/-- the other end of a leg -/
def uO (S : Sv) (m l : Nat) : Nat := if fr S l = m then tO S l else fr S l
def uR (w : Wd) (S : Sv) (h : Ht) : Prop := ∀ m, m < nM S → (h.1 m = none → wi w 0 39 m = -1) ∧ ∀ l, h.1 m = some l → wi w 0 39 m = nI l ∧ wi w 0 40 m = nI (uO S m l)
def nR (w : Wd) (S : Sv) : Prop := (∀ m, m < nM S → wi w 0 37 m = nI (net S m)) ∧ ∀ l, l < nL S → wi w 0 38 l = b32 (tr S l)
def mT (w : Wd) (S : Sv) : Prop := nR w S ∧ uR w S (hg S)
theorem nR_fl {L : List Nat} {w w' : Wd} {S : Sv} (h : nR w S) (k : fl L w w') (hL : 37 ∉ L ∧ 38 ∉ L) : nR w' S :=
  ⟨fun m hm => (k.wi hL.1 m).trans (h.1 m hm), fun l hl => (k.wi hL.2 l).trans (h.2 l hl)⟩
theorem uR_fl {L : List Nat} {w w' : Wd} {S : Sv} {t : Ht} (h : uR w S t) (k : fl L w w') (hL : 39 ∉ L ∧ 40 ∉ L) : uR w' S t :=
  fun m hm => ⟨fun q => (k.wi hL.1 m).trans ((h m hm).1 q), fun l q => ⟨(k.wi hL.1 m).trans ((h m hm).2 l q).1, (k.wi hL.2 m).trans ((h m hm).2 l q).2⟩⟩
theorem mT_fl {L : List Nat} {w w' : Wd} {S : Sv} (h : mT w S) (k : fl L w w') (hL : 37 ∉ L ∧ 38 ∉ L ∧ 39 ∉ L ∧ 40 ∉ L) : mT w' S :=
  ⟨nR_fl h.1 k ⟨hL.1, hL.2.1⟩, uR_fl h.2 k hL.2.2⟩
theorem m_isHung {w : Wd} {S : Sv} {t : Ht} {m : Nat} {Q : Int32 → Prop} (hS : wf S) (hn : nR w S) (hu : uR w S t) (H : HI S t) (hm : m < nM S) (k1 : hung S t m = true → Q 1) (k0 : hung S t m = false → Q 0) : wp_X9_isHung (nI m) w Q := by
  have hm' := hS.m
  have hl' := hS.l
  have hnm := net_le hS m
  unfold wp_X9_isHung
  rw [n_cl (by omega), hn.1 m hm, n_eq (by omega) (by omega)]
  refine ⟨n_in (by omega) (by omega), fun z => ⟨Or.inr rfl, k1 (by unfold hung; simp [z])⟩, fun z => ⟨n_in (by omega) (by omega), ?_⟩⟩
  cases q : t.1 m with
  | none =>
    rw [(hu m hm).1 q]
    exact ⟨fun _ => ⟨Or.inl rfl, k0 (by unfold hung; simp [z, q])⟩, fun y => absurd rfl y⟩
  | some l =>
    have l1 := tr_lt (H.1 m l q).1
    rw [((hu m hm).2 l q).1]
    exact ⟨fun y => absurd y (n_m1 (by omega)), fun _ => ⟨Or.inr rfl, k1 (by unfold hung; simp [q])⟩⟩
theorem m_hang {w : Wd} {S : Sv} {t : Ht} {m o : Nat} {x : Int32} {Q : Int32 → Wd → Prop} (hS : wf S) (hn : nR w S) (hu : uR w S t) (H : HI S t) (hm : m < nM S) (ho : o < nM S) (k1 : hung S t m = false → hung S t o = true → ∀ w', fl [39, 40] w w' → (∀ c, c ≠ m → wi w' 0 39 c = wi w 0 39 c ∧ wi w' 0 40 c = wi w 0 40 c) → wi w' 0 39 m = x → wi w' 0 40 m = nI o → Q 1 w') (k0 : ¬ (hung S t m = false ∧ hung S t o = true) → Q 0 w) : wp_X9_hang (nI m) (nI o) x w Q := by
  have hm' := hS.m
  unfold wp_X9_hang
  refine m_isHung hS hn hu H hm (fun c => ⟨fun _ => ⟨Or.inl rfl, k0 (fun z => by rw [c] at z; cases z.1)⟩, fun z => absurd z (by decide)⟩) (fun c => ⟨fun z => absurd rfl z, fun _ => ?_⟩)
  refine m_isHung hS hn hu H ho (fun d => ⟨fun _ => ⟨n_in (by omega) (by omega), fun w1 q1 => ⟨n_in (by omega) (by omega), fun w2 q2 => ⟨Or.inr rfl, k1 c d w2 ?_ (fun e he => ⟨?_, ?_⟩) ?_ ?_⟩⟩⟩, fun z => absurd z (by decide)⟩) (fun d => ⟨fun z => absurd rfl z, fun _ => ⟨Or.inl rfl, k0 (fun z => by rw [d] at z; cases z.2)⟩⟩)
  · rw [q2, q1]; exact (fl_rf.sI (by decide)).sI (by decide)
  · rw [q2, wi_sI, if_neg (by omega), q1, wi_sI, n_cl (by omega), if_neg (by omega)]
  · rw [q2, wi_sI, n_cl (by omega), if_neg (by omega), q1, wi_sI, if_neg (by omega)]
  · rw [q2, wi_sI, if_neg (by omega), q1, wi_sI, n_cl (by omega), if_pos ⟨rfl, rfl, rfl⟩]
  · rw [q2, wi_sI, n_cl (by omega), if_pos ⟨rfl, rfl, rfl⟩]
theorem uR_hang1 {w w' : Wd} {S : Sv} {t : Ht} {m o l : Nat} {d : Bool} (hu : uR w S t) (e : ∀ c, c ≠ m → wi w' 0 39 c = wi w 0 39 c ∧ wi w' 0 40 c = wi w 0 40 c) (e1 : wi w' 0 39 m = nI l) (e2 : wi w' 0 40 m = nI o) (ho : uO S m l = o) : uR w' S (hang1 t m o l d) := by
  intro c hc
  show ((if c = m then some l else t.1 c) = none → _) ∧ ∀ i, (if c = m then some l else t.1 c) = some i → _
  by_cases z : c = m
  · rw [if_pos z, z]
    refine ⟨fun q => (by cases q), fun i q => ?_⟩
    cases q
    exact ⟨e1, by rw [ho]; exact e2⟩
  · rw [if_neg z]
    refine ⟨fun q => (e c z).1.trans ((hu c hc).1 q), fun i q => ⟨(e c z).1.trans ((hu c hc).2 i q).1, (e c z).2.trans ((hu c hc).2 i q).2⟩⟩
theorem m_layHang {w : Wd} {S : Sv} {Q : Wd → Prop} (hS : wf S) (h : sS w S) (hn : nR w S) (h0 : ∀ m, m < nM S → wi w 0 39 m = -1) (k : ∀ w', fl [39, 40] w w' → mT w' S → Q w') : wp_X9_layTree_L115 1 w Q := by
  have hm' := hS.m
  have hl' := hS.l
  unfold wp_X9_layTree_L115
  refine lpG (B := fun x v K => wp_X9_layTree_B115 x v Q K) (fun n x v => ∃ r, fl [39, 40] w v ∧ uR v S (hgK S r) ∧ ((x = 1 ∧ n = 21 - hc S (hgK S r)) ∨ (x = 0 ∧ n = 0 ∧ psK S (hgK S r) (nL S) = hgK S r))) (21 - hc S (hgK S 0)) ⟨0, fl_rf, fun m hm => ⟨fun _ => h0 m hm, fun l q => (by cases q)⟩, Or.inl ⟨rfl, rfl⟩⟩ ?_
  rintro n x v K ⟨r, fv, uv, hx⟩ hK
  unfold wp_X9_layTree_B115
  rcases hx with ⟨rfl, hn'⟩ | ⟨rfl, hn', hr⟩
  · refine ⟨fun z => absurd z (by decide), fun _ => ?_⟩
    unfold wp_X9_layTree_L123
    refine lpAIB (B := fun a i u K2 => wp_X9_layTree_B123 a i u Q K K2) (fun j a u => fl [39, 40] w u ∧ uR u S (psK S (hgK S r) j) ∧ ((a = 1 ∧ hc S (hgK S r) < hc S (psK S (hgK S r) j)) ∨ (a = 0 ∧ psK S (hgK S r) j = hgK S r))) (nL S) 0 (by omega) (Nat.zero_le _) ⟨fv, uv, Or.inr ⟨rfl, rfl⟩⟩ ?_ ?_
    · rintro j a u K2 hj ⟨fu, uu, ha⟩ hK2
      have su : sS u S := sS_fl h fu (by decide)
      have nu : nR u S := nR_fl hn fu (by decide)
      have HJ : HI S (psK S (hgK S r) j) := HI_psK hS (HI_hgK hS r) j
      obtain ⟨g1, g2, g3, -⟩ := hS.g hj
      have sj := su.2.2.2.1 j hj
      unfold wp_X9_layTree_B123
      rw [su.2.1, n_le (by omega) (by omega), n_cl (show j < 2147483648 by omega), nu.2 j hj]
      refine ⟨fun z => absurd z (by omega), fun _ => ⟨n_in (by omega) (by omega), fun z => ?_, fun z => ?_⟩⟩
      · have tf : tr S j = false := by
          cases q : tr S j with
          | false => rfl
          | true => rw [q] at z; exact absurd z (by decide)
        have e : psK S (hgK S r) (j + 1) = psK S (hgK S r) j := by
          show hst S (psK S (hgK S r) j) j = _
          unfold hst
          rw [if_neg (by rw [tf]; decide)]
        rw [nI_1 j]
        exact hK2 a u ⟨fu, by rw [e]; exact uu, by rw [e]; exact ha⟩
      · have tt : tr S j = true := by
          cases q : tr S j with
          | true => rfl
          | false => rw [q] at z; exact absurd rfl z
        have st0 : psK S (hgK S r) (j + 1) = if hung S (psK S (hgK S r) j) (fr S j) = hung S (psK S (hgK S r) j) (tO S j) then psK S (hgK S r) j else if hung S (psK S (hgK S r) j) (fr S j) = true then hang1 (psK S (hgK S r) j) (tO S j) (fr S j) j true else hang1 (psK S (hgK S r) j) (fr S j) (tO S j) j false := by
          show hst S (psK S (hgK S r) j) j = _
          unfold hst
          rw [if_pos tt]
        have more : ∀ m o d, psK S (hgK S r) (j + 1) = hang1 (psK S (hgK S r) j) m o j d → hung S (psK S (hgK S r) j) m = false → m < nM S → hc S (hgK S r) < hc S (psK S (hgK S r) (j + 1)) := by
          intro m o d e q hm
          have a1 := hc_hang1 (S := S) (h := psK S (hgK S r) j) (m := m) (o := o) (l := j) (d := d) q hm
          have a2 := (hc_psK (S := S) (h := hgK S r) hS j).1
          rw [e]; omega
        refine m_of2 rfl rfl (by omega) (by omega) (m_of2 rfl rfl (by omega) (by omega) ?_)
        rw [n_cl (by omega), n_cl (by omega)]
        rw [show wi u 0 33 (12 + 4 * j + 0) = nI (fr S j) from sj.1, sj.2.1]
        refine m_hang hS nu uu HJ g1 g2 (fun c1 c2 u1 f1 e1 e2 e3 => ?_) (fun c1 => ?_)
        · have fu1 := fu.tr f1
          have su1 : sS u1 S := sS_fl h fu1 (by decide)
          have nu1 : nR u1 S := nR_fl hn fu1 (by decide)
          have sj1 := su1.2.2.2.1 j hj
          have ne : ¬ hung S (psK S (hgK S r) j) (fr S j) = hung S (psK S (hgK S r) j) (tO S j) := by rw [c1, c2]; decide
          have st1 : psK S (hgK S r) (j + 1) = hang1 (psK S (hgK S r) j) (fr S j) (tO S j) j false := by rw [st0, if_neg ne, if_neg (by rw [c1]; decide)]
          have uu1 : uR u1 S (psK S (hgK S r) (j + 1)) := by
            rw [st1]; exact uR_hang1 uu e1 e2 e3 (by unfold uO; rw [if_pos rfl])
          have HJ1 : HI S (psK S (hgK S r) (j + 1)) := HI_psK hS (HI_hgK hS r) (j + 1)
          refine m_of2 rfl rfl (by omega) (by omega) (m_of2 rfl rfl (by omega) (by omega) ?_)
          rw [n_cl (by omega), n_cl (by omega), show wi u1 0 33 (12 + 4 * j + 0) = nI (fr S j) from sj1.1, sj1.2.1]
          refine m_hang hS nu1 uu1 HJ1 g2 g1 (fun d1 _ _ _ _ _ _ => absurd d1 ?_) (fun _ => ⟨fun y => absurd rfl y, fun _ => ⟨fun _ => ?_, fun y => absurd y (by decide)⟩⟩)
          · rw [st1, hung_hang1, c2]; simp
          · unfold wp_X9_layTree_J210
            rw [nI_1 j]
            exact hK2 1 u1 ⟨fu1, uu1, Or.inl ⟨rfl, more _ _ _ st1 c1 g1⟩⟩
        · refine m_of2 rfl rfl (by omega) (by omega) (m_of2 rfl rfl (by omega) (by omega) ?_)
          rw [n_cl (by omega), n_cl (by omega), show wi u 0 33 (12 + 4 * j + 0) = nI (fr S j) from sj.1, sj.2.1]
          refine m_hang hS nu uu HJ g2 g1 (fun d1 d2 u1 f1 e1 e2 e3 => ?_) (fun d1 => ?_)
          · have ne : ¬ hung S (psK S (hgK S r) j) (fr S j) = hung S (psK S (hgK S r) j) (tO S j) := by rw [d1, d2]; decide
            have st1 : psK S (hgK S r) (j + 1) = hang1 (psK S (hgK S r) j) (tO S j) (fr S j) j true := by rw [st0, if_neg ne, if_pos d2]
            have uu1 : uR u1 S (psK S (hgK S r) (j + 1)) := by
              rw [st1]; exact uR_hang1 uu e1 e2 e3 (by unfold uO; rw [if_neg g3])
            refine ⟨fun _ => ?_, fun y => absurd y (by decide)⟩
            unfold wp_X9_layTree_J210
            rw [nI_1 j]
            exact hK2 1 u1 ⟨fu.tr f1, uu1, Or.inl ⟨rfl, more _ _ _ st1 d1 g2⟩⟩
          · have eq : hung S (psK S (hgK S r) j) (fr S j) = hung S (psK S (hgK S r) j) (tO S j) := by
              cases q1 : hung S (psK S (hgK S r) j) (fr S j) <;> cases q2 : hung S (psK S (hgK S r) j) (tO S j)
              · rfl
              · exact absurd ⟨q1, q2⟩ c1
              · exact absurd ⟨q2, q1⟩ d1
              · rfl
            have e : psK S (hgK S r) (j + 1) = psK S (hgK S r) j := by rw [st0, if_pos eq]
            refine ⟨fun y => absurd rfl y, fun _ => ⟨fun y => absurd rfl y, fun _ => ?_⟩⟩
            unfold wp_X9_layTree_J210
            rw [nI_1 j]
            refine ⟨fun y => hK2 0 u ⟨fu, by rw [e]; exact uu, ?_⟩, fun y => hK2 1 u ⟨fu, by rw [e]; exact uu, ?_⟩⟩
            · rw [e]
              rcases ha with ⟨z, -⟩ | z
              · rw [z] at y; exact absurd y (by decide)
              · exact Or.inr ⟨rfl, z.2⟩
            · rw [e]
              rcases ha with z | ⟨z, -⟩
              · exact Or.inl ⟨rfl, z.2⟩
              · exact absurd z y
    · rintro a u K2 ⟨fu, uu, ha⟩
      have su : sS u S := sS_fl h fu (by decide)
      unfold wp_X9_layTree_B123
      refine ⟨fun _ => ?_, fun z => absurd (by rw [su.2.1]; exact Int32.le_refl _) z⟩
      have c1 := hc_le (S := S) (hgK S r)
      have c2 := hc_le (S := S) (psK S (hgK S r) (nL S))
      rcases ha with ⟨rfl, z⟩ | ⟨rfl, z⟩
      · refine hK (21 - hc S (hgK S (r + 1))) 1 u ?_ ⟨r + 1, fu, uu, Or.inl ⟨rfl, rfl⟩⟩
        show 21 - hc S (psK S (hgK S r) (nL S)) < n
        omega
      · exact hK 0 0 u (by omega) ⟨r, fu, by rw [z] at uu; exact uu, Or.inr ⟨rfl, rfl, z⟩⟩
  · refine ⟨fun _ => k v fv ⟨nR_fl hn fv (by decide), ?_⟩, fun z => absurd rfl z⟩
    rw [← hg_of hS (Or.inl hr)]
    exact uv
theorem m_layTree {w : Wd} {S : Sv} {Q : Wd → Prop} (hS : wf S) (h : sS w S) (k : ∀ w', fl [37, 38, 39, 40] w w' → mT w' S → Q w') : wp_X9_layTree w Q := by
  have hm' := hS.m
  have hl' := hS.l
  unfold wp_X9_layTree wp_X9_layTree_L2
  refine lpIA (B := fun i v K => wp_X9_layTree_B2 i v Q K) (fun j v => fl [37, 38, 39, 40] w v ∧ ∀ m, m < j → wi v 0 37 m = nI m ∧ wi v 0 39 m = -1) (nM S) 0 (by omega) (Nat.zero_le _) ⟨fl_rf, fun m hm => absurd hm (by omega)⟩ ?_ ?_
  · rintro j v K hj ⟨fv, av⟩ hK
    have e0 : wi v 0 33 0 = nI (nM S) := (fv.wi (by decide) 0).trans h.1
    unfold wp_X9_layTree_B2
    rw [e0, n_le (by omega) (by omega), n_cl (by omega), nI_1 j]
    refine ⟨fun z => absurd z (by omega), fun _ => ⟨n_in (by omega) (by omega), fun v1 q1 => ⟨n_in (by omega) (by omega), fun v2 q2 => ⟨n_in (by omega) (by omega), fun v3 q3 => hK v3 ⟨?_, fun m hm => ⟨?_, ?_⟩⟩⟩⟩⟩⟩
    · rw [q3, q2, q1]; exact ((fv.sI (by decide)).sI (by decide)).sI (by decide)
    · rw [q3, wi_sI, if_neg (by omega), q2, wi_sI, if_neg (by omega), q1, wi_sI]
      by_cases z : m = j
      · rw [if_pos ⟨rfl, rfl, z⟩, z]
      · rw [if_neg (by omega)]; exact (av m (by omega)).1
    · rw [q3, wi_sI, if_neg (by omega), q2, wi_sI]
      by_cases z : m = j
      · rw [if_pos ⟨rfl, rfl, z⟩]
      · rw [if_neg (by omega), q1, wi_sI, if_neg (by omega)]; exact (av m (by omega)).2
  · rintro v K ⟨fv, av⟩
    have sv' : sS v S := sS_fl h fv (by decide)
    unfold wp_X9_layTree_B2
    refine ⟨fun _ => ?_, fun z => absurd (by rw [sv'.1]; exact Int32.le_refl _) z⟩
    refine m_nx0 hS sv' ?_
    unfold wp_X9_layTree_L45
    refine lpG (B := fun x u K2 => wp_X9_layTree_B45 x u Q K2) (fun n x u => ∃ i, i ≤ nL S ∧ n = nL S - i ∧ x = nx S i ∧ fl [37, 38, 39, 40] w u ∧ (∀ m, m < nM S → wi u 0 37 m = nI ((krK S i).1 m)) ∧ (∀ m, m < nM S → wi u 0 39 m = -1) ∧ ∀ p, p < i → wi u 0 38 (oL S p) = b32 (tr S (oL S p))) (nL S) ⟨0, Nat.zero_le _, rfl, rfl, fv, fun m hm => (av m hm).1, fun m hm => (av m hm).2, fun p hp => absurd hp (by omega)⟩ ?_
    rintro n x u K2 ⟨i, i1, hn, rfl, fu, au, bu, cu⟩ hK
    have su : sS u S := sS_fl h fu (by decide)
    unfold wp_X9_layTree_B45
    rcases Nat.lt_or_ge i (nL S) with hi | hi
    · have ex : nx S i = nI (oL S i) := if_pos hi
      have ol := oL_lt hi
      obtain ⟨g1, g2, g3, -⟩ := hS.g ol
      have so := su.2.2.2.1 _ ol
      have lab := krK_lab hS i1
      have l1 := lab (fr S (oL S i))
      have l2 := lab (tO S (oL S i))
      have st := krK_step hS hi
      rw [ex]
      refine ⟨fun z => absurd z (n_m1 (by omega)), fun _ => m_of2 rfl rfl (by omega) (by omega) (m_of2 rfl rfl (by omega) (by omega) ?_)⟩
      rw [n_cl (by omega), n_cl (by omega), show wi u 0 33 (12 + 4 * oL S i + 0) = nI (fr S (oL S i)) from so.1, so.2.1, n_cl (by omega), n_cl (by omega), au _ g1, au _ g2, n_eq (by omega) (by omega)]
      have J : ∀ s : Int32, s = b32 (tr S (oL S i)) → wp_X9_layTree_J97 (nI (oL S i)) (nI (fr S (oL S i))) (nI (tO S (oL S i))) s (nI (oL S i)) u Q K2 := by
        rintro s rfl
        unfold wp_X9_layTree_J97
        rw [n_cl (by omega)]
        refine ⟨n_in (by omega) (by omega), ?_, fun u1 q1 => ?_⟩
        · unfold b32
          by_cases z : tr S (oL S i) = true
          · rw [if_pos z]; exact Or.inr rfl
          · rw [if_neg z]; exact Or.inl rfl
        · have f1 : fl [37, 38, 39, 40] w u1 := by rw [q1]; exact fu.sI (by decide)
          have s1 : sS u1 S := sS_fl h f1 (by decide)
          refine m_join (f := (krK S i).1) hS s1 (fun m hm => ⟨?_, ?_⟩) g1 g2 (fun u2 f2 e2 => ?_)
          · rw [q1, wi_sI, if_neg (by omega)]; exact au m hm
          · have := (lab m).1; omega
          · have f3 : fl [37, 38, 39, 40] w u2 := f1.tr (f2.wide (by decide))
            refine m_nxS hS (sS_fl h f3 (by decide)) hi ?_
            refine hK (nL S - (i + 1)) _ u2 (by omega) ⟨i + 1, hi, rfl, rfl, f3, fun m hm => ?_, fun m hm => ?_, fun p hp => ?_⟩
            · rw [e2 m hm]
              show _ = nI ((kst S (krK S i) (oL S i)).1 m)
              unfold kst
              by_cases z : (krK S i).1 (fr S (oL S i)) = (krK S i).1 (tO S (oL S i))
              · rw [if_pos z, z, Nat.max_self, Nat.min_self]
                by_cases y : (krK S i).1 m = (krK S i).1 (tO S (oL S i))
                · rw [if_pos y, y]
                · rw [if_neg y]
              · rw [if_neg z]
            · rw [f2.wi (by decide), q1, wi_sI, if_neg (by omega)]; exact bu m hm
            · rw [f2.wi (by decide), q1, wi_sI]
              by_cases z : p = i
              · rw [z, if_pos ⟨rfl, rfl, rfl⟩]
              · rw [if_neg (fun y => z (oL_inj hS (by omega) hi y.2.2))]; exact cu p (by omega)
      refine ⟨n_in (by omega) (by omega), n_in (by omega) (by omega), fun z => J 0 ?_, fun z => J 1 ?_⟩
      · rw [st, z]; simp [b32]
      · rw [st]; simp [b32, z]
    · have ei : i = nL S := by omega
      have ex : nx S i = -1 := if_neg (by omega)
      rw [ex]
      refine ⟨fun _ => m_layHang hS su ⟨fun m hm => ?_, fun l hl => ?_⟩ bu (fun u' f' t' => k u' (fu.tr (f'.wide (by decide))) t'), fun z => absurd rfl z⟩
      · rw [au m hm, ei]; rfl
      · obtain ⟨p, p1, p2⟩ := oL_all hl
        rw [← p2]; exact cu p (by omega)
theorem m_goUp {w : Wd} {S : Sv} {m : Nat} {s : Int} {f : Nat → Int} {Q : Wd → Prop} (hS : wf S) (h : sS w S) (ht : mT w S) (hm : m < nM S) (hf : ∀ l, l < 20 → wi w 0 41 l = iI (f l)) (k : ∀ w', fl [41] w w' → (∀ l, l < 20 → wi w' 0 41 l = iI (f l + s * sg0 S l * b01 (tT S m l))) → Q w') : wp_X9_goUp (nI m) (iI s) w Q := by
  have hm' := hS.m
  have hl' := hS.l
  unfold wp_X9_goUp wp_X9_goUp_L2
  refine lpG (B := fun x v K => wp_X9_goUp_B2 (iI s) x v Q K) (fun n x v => ∃ c, c < nM S ∧ x = nI c ∧ n = dp S c ∧ fl [41] w v ∧ ∀ l, l < 20 → wi v 0 41 l = iI (f l + s * sg0 S l * (b01 (tT S m l) - b01 (tT S c l)))) (dp S m) ⟨m, hm, rfl, rfl, fl_rf, fun l hl => by rw [hf l hl, Int.sub_self, Int.mul_zero, Int.add_zero]⟩ ?_
  rintro n x v K ⟨c, c1, rfl, hn, fv, av⟩ hK
  have sv' : sS v S := sS_fl h fv (by decide)
  have tv : mT v S := mT_fl ht fv (by decide)
  unfold wp_X9_goUp_B2
  rw [n_cl (by omega)]
  refine ⟨n_in (by omega) (by omega), ?_⟩
  cases q : uP S c with
  | none =>
    rw [(tv.2 c c1).1 q]
    refine ⟨fun _ => k v fv (fun l hl => ?_), fun z => absurd rfl z⟩
    rw [av l hl, tT_top hS q l]
    show iI (f l + s * sg0 S l * (b01 (tT S m l) - 0)) = _
    rw [Int.sub_zero]
  | some l =>
    obtain ⟨htr, l1, -, -, o, o1, o2, o3, o4, o5⟩ := uP_on hS q
    obtain ⟨e39, e40⟩ := (tv.2 c c1).2 l q
    have eo : uO S c l = o := by
      unfold uO
      rcases o3 with ⟨a, b, -⟩ | ⟨a, b, -⟩
      · rw [if_neg (by rw [← b]; exact o2)]; exact b.symm
      · rw [if_pos a.symm]; exact b.symm
    have sl := sv'.2.2.2.1 l l1
    obtain ⟨g1, g2, g3, -⟩ := hS.g l1
    rw [e39, n_cl (show l < 2147483648 by omega)]
    refine ⟨fun z => absurd z (n_m1 (by omega)), fun _ => ⟨n_in (by omega) (by omega), n_in (by omega) (by omega), n_in (by omega) (by omega), m_of2 rfl rfl (by omega) (by omega) ?_⟩⟩
    rw [n_cl (by omega), show wi v 0 33 (12 + 4 * l + 0) = nI (fr S l) from sl.1, n_eq (by omega) (by omega)]
    have J : ∀ s0 : Int32, s0 = iI (s * sg0 S l) → wp_X9_goUp_J49 (iI s) (nI c) s0 (wi v 0 41 l) (nI l) v Q K := by
      rintro s0 rfl
      unfold wp_X9_goUp_J49
      rw [n_cl (show l < 2147483648 by omega), n_cl (show c < 2147483648 by omega)]
      refine ⟨n_in (by omega) (by omega), fun v1 q1 => ⟨n_in (by omega) (by omega), ?_⟩⟩
      have f1 : fl [41] w v1 := by rw [q1]; exact fv.sI (by decide)
      have e1 : wi v1 0 40 c = nI o := by rw [q1, wi_sI, if_neg (by omega), e40, eo]
      rw [e1]
      refine hK (dp S o) _ v1 (by have := dp_up l1 o4 o5; omega) ⟨o, o1, rfl, rfl, f1, fun i hi => ?_⟩
      rw [q1, wi_sI]
      by_cases z : i = l
      · rw [if_pos ⟨rfl, rfl, z⟩, z, av l (by omega), o5, o4 l, iI_add]
        simp only [beq_self_eq_true, Bool.true_or]
        show iI (f l + s * sg0 S l * (b01 (tT S m l) - 1) + s * sg0 S l) = iI (f l + s * sg0 S l * (b01 (tT S m l) - 0))
        rw [Int.mul_sub, Int.mul_sub, Int.mul_one, Int.mul_zero]
        congr 1; omega
      · rw [if_neg (fun y => z y.2.2), av i hi, o4 i, show (i == l) = false by simp [z], Bool.false_or]
    refine ⟨fun z => J _ ?_, fun z => J _ ?_⟩
    · rcases o3 with ⟨-, -, d⟩ | ⟨a, -, -⟩
      · unfold sg0; rw [if_pos d, iI_neg]; congr 1; omega
      · exact absurd a.symm z
    · rcases o3 with ⟨a, b, -⟩ | ⟨-, -, d⟩
      · exact absurd (b.trans z) o2
      · unfold sg0; rw [if_neg (by rw [d]; decide), Int.mul_one]
/-- the steps of a way -/
def stp (S : Sv) (a b l : Nat) : Int := sg0 S l * (b01 (tT S a l) - b01 (tT S b l))
theorem m_go {w : Wd} {S : Sv} {a b : Nat} {Q : Wd → Prop} (hS : wf S) (h : sS w S) (ht : mT w S) (ha : a < nM S) (hb : b < nM S) (k : ∀ w', fl [41] w w' → (∀ l, l < 20 → wi w' 0 41 l = iI (stp S a b l)) → Q w') : wp_X9_go (nI a) (nI b) w Q := by
  unfold wp_X9_go wp_X9_go_L2
  refine lpIA (B := fun i v K => wp_X9_go_B2 (nI a) (nI b) i v Q K) (fun j v => fl [41] w v ∧ ∀ l, l < j → wi v 0 41 l = iI 0) 20 0 (by omega) (Nat.zero_le _) ⟨fl_rf, fun m hm => absurd hm (by omega)⟩ ?_ ?_
  · rintro j v K hj ⟨fv, av⟩ hK
    unfold wp_X9_go_B2
    rw [show (20 : Int32) = nI 20 from rfl, n_le (by omega) (by omega), n_cl (by omega), nI_1 j]
    refine ⟨fun z => absurd z (by omega), fun _ => ⟨n_in (by omega) (by omega), fun v1 q1 => hK v1 ⟨by rw [q1]; exact fv.sI (by decide), fun m hm => ?_⟩⟩⟩
    rw [q1, wi_sI]
    by_cases z : m = j
    · rw [if_pos ⟨rfl, rfl, z⟩]; rfl
    · rw [if_neg (by omega)]; exact av m (by omega)
  · rintro v K ⟨fv, av⟩
    unfold wp_X9_go_B2
    refine ⟨fun _ => ?_, fun z => absurd (Int32.le_refl _) z⟩
    refine m_goUp (s := 1) hS (sS_fl h fv (by decide)) (mT_fl ht fv (by decide)) ha av (fun v1 f1 e1 => ?_)
    have f2 := fv.tr f1
    rw [show (-1 : Int32) = iI (-1) from rfl]
    refine m_goUp (s := -1) hS (sS_fl h f2 (by decide)) (mT_fl ht f2 (by decide)) hb e1 (fun v2 f3 e2 => k v2 (f2.tr f3) (fun l hl => ?_))
    rw [e2 l hl]
    unfold stp
    rw [Int.mul_sub, Int.one_mul]
    congr 1
    rw [show (-1 : Int) * sg0 S l = -(sg0 S l) by omega, Int.neg_mul]
    omega
