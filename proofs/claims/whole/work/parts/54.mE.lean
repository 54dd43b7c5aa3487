/-! THE MODEL: looks at loops and legs, ways, counts -/
def lwP (S : Sv) (c l k : Nat) : Bool := (c == 2 || (bad S k == (c == 1))) && inL S k l
theorem m_loopsWith {w : Wd} {S : Sv} {c l : Nat} {Q : Int32 → Prop} (hS : wf S) (h : sS w S) (hL : mL w S) (hl : l < nL S) (hc : c < 3) (q : Q (nI (ct (lwP S c l) (nlp S)))) : wp_X9_loopsWith (nI l) (nI c) w Q := by
  have hl' := hS.l
  have hn' := nlp_le (S := S)
  unfold wp_X9_loopsWith wp_X9_loopsWith_L5
  refine lpAI (B := fun x i K => wp_X9_loopsWith_B5 (nI l) (nI c) x i w Q K) (fun j x => x = nI (ct (lwP S c l) j)) (nlp S) 0 (by omega) (Nat.zero_le _) rfl ?_ ?_
  · rintro j x K hj rfl hK
    have keep : lwP S c l j = false → K (nI (ct (lwP S c l) j) + 0) (nI j + 1) := fun e => by
      rw [nI_1 j]
      refine hK _ ?_
      rw [n_0, nI_add, ct, if_neg (by rw [e]; decide)]
    have up : lwP S c l j = true → K (nI (ct (lwP S c l) j) + 1) (nI j + 1) := fun e => by
      rw [nI_1 j, nI_1]
      refine hK _ ?_
      rw [ct, if_pos e]
    have J : ∀ b : Bool, b = (c == 2 || (bad S j == (c == 1))) → wp_X9_loopsWith_J43 (nI l) (nI c) (nI (ct (lwP S c l) j)) (nI j) (b32 b) w Q K := by
      intro b hb
      have hbs := sg_bd (S := S) j l
      unfold wp_X9_loopsWith_J43 wp_X9_loopsWith_J65
      refine ⟨fun z => keep ?_, fun z => m_signIn hS hL.2 hj (by omega) ?_⟩
      · unfold lwP
        rw [← hb, b32_0.mp z]; rfl
      · have bt : b = true := by
          cases b with
          | true => rfl
          | false => exact absurd rfl z
        rw [← iI_0, iI_eq ⟨by omega, by omega⟩ ⟨by omega, by omega⟩, sg_in, iI_0]
        refine ⟨fun y => keep ?_, fun y => up ?_⟩
        · unfold lwP; rw [y, Bool.and_false]
        · have : inL S j l = true := by
            cases t : inL S j l with
            | true => rfl
            | false => exact absurd t y
          unfold lwP; rw [← hb, bt, this]; rfl
    unfold wp_X9_loopsWith_B5
    rw [hL.1, n_le (by omega) (by omega), show (2 : Int32) = nI 2 from rfl, n_eq (by omega) (by omega)]
    refine ⟨fun z => absurd z (by omega), fun _ => ⟨fun z => J true (by rw [z]; rfl), fun z => m_isBad hS h hL.2 hj ?_⟩⟩
    have c2 : (c == 2) = false := by simp [z]
    rw [show (1 : Int32) = nI 1 from rfl, n_eq (by omega) (by omega)]
    unfold wp_X9_loopsWith_J35
    refine ⟨fun y => ?_, fun y => ?_⟩
    · have c1 : (c == 1) = false := by simp [y]
      rw [b32_0]
      refine ⟨fun t => J false ?_, fun t => J true ?_⟩
      · rw [c1, c2]
        cases s : bad S j with
        | true => rfl
        | false => exact absurd s t
      · rw [c1, c2, t]; rfl
    · have c1 : (c == 1) = true := by simp [y]
      have e : b32 (bad S j) = nI 1 ↔ bad S j = true := by
        cases bad S j
        · exact ⟨fun t => absurd t (by decide), fun t => (by cases t)⟩
        · exact ⟨fun _ => rfl, fun _ => rfl⟩
      rw [e]
      refine ⟨fun t => J false ?_, fun t => J true ?_⟩
      · rw [c1, c2]
        cases s : bad S j with
        | true => exact absurd s t
        | false => rfl
      · rw [c1, c2, t]; rfl
  · rintro x K rfl
    unfold wp_X9_loopsWith_B5
    exact ⟨fun _ => q, fun z => absurd (by rw [hL.1]; exact Int32.le_refl _) z⟩
theorem lwP_2 {S : Sv} (l : Nat) : ct (lwP S 2 l) (nlp S) = hwl S l := ct_congr (fun k _ => by unfold lwP; rfl)
theorem lwP_1 {S : Sv} (l : Nat) : ct (lwP S 1 l) (nlp S) = hbl S l := ct_congr (fun k _ => by unfold lwP; cases bad S k <;> rfl)
theorem lwP_0 {S : Sv} (l : Nat) : ct (lwP S 0 l) (nlp S) + hbl S l = hwl S l := by
  unfold hbl hwl
  generalize nlp S = n
  induction n with
  | zero => rfl
  | succ n ih =>
    simp only [ct]
    have e : lwP S 0 l n = (!bad S n && inL S n l) := by unfold lwP; cases bad S n <;> rfl
    rw [e]
    rcases Bool.eq_false_or_eq_true (bad S n) with q1 | q1 <;> rcases Bool.eq_false_or_eq_true (inL S n l) with q2 | q2 <;> simp [q1, q2] <;> omega
theorem m_loopOf {w : Wd} {S : Sv} {l : Nat} {Q : Int32 → Prop} (hS : wf S) (hL : mL w S) (hl : l < nL S) (q : Q (iI (ff (fun k => cl S k == l) (nlp S)))) : wp_X9_loopOf (nI l) w Q := by
  have hl' := hS.l
  have hn' := nlp_le (S := S)
  unfold wp_X9_loopOf wp_X9_loopOf_L4
  refine lpAI (B := fun x i K => wp_X9_loopOf_B4 (nI l) x i w Q K) (fun j x => x = iI (ff (fun k => cl S k == l) j)) (nlp S) 0 (by omega) (Nat.zero_le _) rfl ?_ ?_
  · rintro j x K hj rfl hK
    have cj := (cl_lt hj).1
    unfold wp_X9_loopOf_B4
    rw [hL.1, n_le (by omega) (by omega), n_cl (by omega), (hL.2 j hj).1, n_eq (by omega) (by omega), nI_1 j]
    refine ⟨fun z => absurd z (by omega), fun _ => ⟨n_in (by omega) (by omega), fun z => hK _ ?_, fun z => hK _ ?_⟩⟩
    · rw [ff, if_neg (by simp [z])]
    · have e : ff (fun k => cl S k == l) j = -1 := ff_no (fun i hi => by
        have : ¬ cl S i = l := fun y => by
          have := cl_inj (by omega) hj (y.trans z.symm)
          omega
        simp [this])
      rw [ff, if_pos ⟨by omega, by simp [z]⟩, nI_iI]
  · rintro x K rfl
    unfold wp_X9_loopOf_B4
    exact ⟨fun _ => q, fun z => absurd (by rw [hL.1]; exact Int32.le_refl _) z⟩
theorem m_legOf {w : Wd} {S : Sv} {l : Nat} {x : Int32} {Q : Int32 → Prop} (hS : wf S) (h : sS w S) (ho : mO w S) (hl : l < nL S) (q : Q (oLg S l x)) : wp_X9_legOf (nI l) x w Q := by
  have hl' := hS.l
  have hn' := nlp_le (S := S)
  have sl := h.2.2.2.1 l hl
  unfold oLg at q
  unfold wp_X9_legOf wp_X9_legOf_J52
  refine ⟨fun z => ?_, fun z => ?_, fun z => ?_, fun z => ?_, fun z => m_corrected hS h ho hl ?_, fun z => ⟨n_in (by omega) (by omega), ?_⟩, fun z => ⟨n_in (by omega) (by omega), ?_⟩, fun z => m_loopOf hS ho.2.1 hl ?_, fun z => ?_, fun z0 z1 z2 z3 z4 z5 z6 z7 z8 => ?_⟩
  · subst z
    refine m_of2 rfl rfl (by omega) (by omega) ?_
    rw [n_cl (by omega), show wi w 0 33 (12 + 4 * l + 0) = nI (fr S l) from sl.1]
    exact q
  · subst z
    refine m_of2 rfl rfl (by omega) (by omega) ?_
    rw [n_cl (by omega), sl.2.1]
    exact q
  · subst z
    refine m_of2 rfl rfl (by omega) (by omega) ?_
    rw [n_cl (by omega), sl.2.2.1]
    exact q
  · subst z
    refine m_of2 rfl rfl (by omega) (by omega) ?_
    rw [n_cl (by omega), sl.2.2.2, show (100000 : Int32) = iI 100000 from rfl, iI_add]
    exact q
  · subst z
    rw [show (100000 : Int32) = iI 100000 from rfl, iI_add]
    exact q
  · subst z
    rw [n_cl (by omega), ho.2.2.1 l hl, show (100000 : Int32) = iI 100000 from rfl, iI_add]
    exact q
  · subst z
    rw [n_cl (by omega), ho.1.1.2 l hl, b32_0]
    refine ⟨fun y => ?_, fun y => ?_⟩
    · have q' : Q (b32 (tr S l)) := q
      rw [y] at q'; exact q'
    · have q' : Q (b32 (tr S l)) := q
      have : tr S l = true := by
        cases t : tr S l with
        | true => rfl
        | false => exact absurd t y
      rw [this] at q'; exact q'
  · subst z
    exact q
  · subst z
    refine m_loopsWith (c := 2) hS h ho.2.1 hl (by omega) ?_
    rw [lwP_2]; exact q
  · refine m_loopsWith (c := 1) hS h ho.2.1 hl (by omega) ?_
    rw [lwP_1]
    rw [if_neg z0, if_neg z1, if_neg z2, if_neg z3, if_neg z4, if_neg z5, if_neg z6, if_neg z7, if_neg z8] at q
    exact q
theorem m_loopAt {w : Wd} {S : Sv} {k : Nat} {x : Int32} {Q : Int32 → Prop} (hS : wf S) (h : sS w S) (ho : mO w S) (hk : k < nlp S) (q : Q (oLp S k x)) : wp_X9_loopAt (nI k) x w Q := by
  have hl' := hS.l
  have hn' := nlp_le (S := S)
  have hmb := miss_bd hS k
  unfold oLp at q
  unfold wp_X9_loopAt
  refine m_missOf hS h ho.2.1.2 hk ⟨fun z => ⟨n_in (by omega) (by omega), ?_⟩, fun z => ?_, fun z => m_lengthOf hS h ho.2.1.2 hk ?_, fun z => m_size ⟨by omega, by omega⟩ ?_, fun z => ?_, fun z => m_allowed hS h ho.2.1.2 hk ?_, fun z => m_isBad hS h ho.2.1.2 hk ?_, fun z0 z1 z2 z3 z4 z5 z6 => ⟨n_in (by omega) (by omega), ?_⟩⟩
  · subst z
    rw [n_cl (by omega), (ho.2.1.2 k hk).1]
    exact q
  · subst z
    have q' : Q (mk (inL S k)) := q
    unfold wp_X9_loopAt_L61
    refine lpAI (B := fun a i K => wp_X9_loopAt_B61 (nI k) a i w Q K) (fun j a => bm a (fun i => decide (i < j) && inL S k i)) (nL S) 0 (by omega) (Nat.zero_le _) (bm_congr bm_0 (fun i => by rw [decide_eq_false (by omega)]; rfl)) ?_ ?_
    · rintro j a K hj ha hK
      have hbs := sg_bd (S := S) k j
      unfold wp_X9_loopAt_B61
      rw [h.2.1, n_le (by omega) (by omega), nI_1 j]
      refine ⟨fun z => absurd z (by omega), fun _ => m_signIn hS ho.2.1.2 hk (by omega) ?_⟩
      rw [← iI_0, iI_eq ⟨by omega, by omega⟩ ⟨by omega, by omega⟩, sg_in, iI_0]
      refine ⟨fun y => hK _ (bm_congr (bm_or ha bm_0) (fun i => ?_)), fun y => hK _ (bm_congr (bm_or ha (bm_bit j (by omega))) (fun i => ?_))⟩
      · rw [Bool.or_false]
        by_cases t : i = j
        · rw [t, y, Bool.and_false, Bool.and_false]
        · rw [show decide (i < j) = decide (i < j + 1) from decide_eq_decide.mpr (by omega)]
      · by_cases t : i = j
        · have e : inL S k j = true := by
            cases s : inL S k j with
            | true => rfl
            | false => exact absurd s y
          rw [t, e, decide_eq_true (show j < j + 1 by omega)]; simp
        · rw [show decide (i < j) = decide (i < j + 1) from decide_eq_decide.mpr (by omega), decide_eq_false t, Bool.or_false]
    · rintro a K ha
      unfold wp_X9_loopAt_B61
      refine ⟨fun _ => ?_, fun z => absurd (by rw [h.2.1]; exact Int32.le_refl _) z⟩
      have e : a = mk (inL S k) := mk_of (bm_congr ha (fun i => by
        by_cases t : i < nL S
        · rw [decide_eq_true t]; rfl
        · rw [decide_eq_false t]
          cases s : inL S k i with
          | true => exact absurd (inL_lt hS hk s) t
          | false => rfl)) (fun i s => by have := inL_lt hS hk s; omega)
      rw [e]; exact q'
  · subst z; exact q
  · subst z; exact q
  · subst z
    have q' : Q (sgn (miss S k)) := q
    unfold sgn at q'
    rw [← iI_0, iI_eq ⟨by omega, by omega⟩ ⟨by omega, by omega⟩, iI_le ⟨by omega, by omega⟩ ⟨by omega, by omega⟩]
    refine ⟨fun y => ⟨fun t => ?_, fun t => ?_⟩, fun y => ?_⟩
    · rw [if_neg y, if_neg (by omega)] at q'; exact q'
    · rw [if_neg y, if_pos (by omega)] at q'; exact q'
    · rw [if_pos y] at q'; exact q'
  · subst z; exact q
  · subst z
    have q' : Q (b32 (bad S k)) := q
    rw [b32_0]
    refine ⟨fun y => ?_, fun y => ?_⟩
    · rw [y] at q'; exact q'
    · have : bad S k = true := by
        cases t : bad S k with
        | true => rfl
        | false => exact absurd t y
      rw [this] at q'; exact q'
  · rw [if_neg z0, if_neg z1, if_neg z2, if_neg z3, if_neg z4, if_neg z5, if_neg z6] at q
    rw [n_cl (by omega), ho.2.2.2 k hk]
    exact q
/-- on a way only one leg goes from where it begins -/
theorem wy_one {S : Sv} (hS : wf S) {a b l l' : Nat} (h : wyP S a b l = true) (g : lgP S a l = true) (h' : wyP S a b l' = true) (g' : lgP S a l' = true) : l = l' := by
  have cs : ∀ i, wyP S a b i = true → lgP S a i = true → (uP S a = some i ∧ tT S a i = true ∧ tT S b i = false) ∨ ∃ c, uP S c = some i ∧ (∀ k, tT S c k = (k == i || tT S a k)) ∧ tT S a i = false ∧ tT S b i = true := by
    intro i hi gi
    have ht : tr S i = true := by
      unfold wyP at hi
      cases q : tT S a i with
      | true => exact tT_tr hS q
      | false => rw [q] at hi; exact tT_tr hS (m := b) (by cases y : tT S b i with
        | true => rfl
        | false => rw [y] at hi; cases hi)
    obtain ⟨c, hc⟩ := tr_up hS ht
    obtain ⟨-, -, -, -, o, o1, o2, o3, o4, o5⟩ := uP_on hS hc
    have ao : a = c ∨ a = o := by
      unfold lgP at gi
      rcases o3 with ⟨e1, e2, -⟩ | ⟨e1, e2, -⟩
      · by_cases y : fr S i = a
        · exact Or.inr (by rw [e2, y])
        · have : tO S i = a := by simpa [y] using gi
          exact Or.inl (by rw [e1, this])
      · by_cases y : fr S i = a
        · exact Or.inl (by rw [e1, y])
        · have : tO S i = a := by simpa [y] using gi
          exact Or.inr (by rw [e2, this])
    rcases ao with rfl | rfl
    · have t : tT S a i = true := by rw [o4 i]; simp
      refine Or.inl ⟨hc, t, ?_⟩
      unfold wyP at hi
      rw [t] at hi
      cases y : tT S b i with
      | true => rw [y] at hi; cases hi
      | false => rfl
    · refine Or.inr ⟨c, hc, o4, o5, ?_⟩
      unfold wyP at hi
      rw [o5] at hi
      cases y : tT S b i with
      | true => rfl
      | false => rw [y] at hi; cases hi
  by_cases ne : l = l'
  · exact ne
  · exfalso
    rcases cs l h g with ⟨a1, a2, a3⟩ | ⟨c, c1, c2, c3, c4⟩ <;> rcases cs l' h' g' with ⟨b1, b2, b3⟩ | ⟨d, d1, d2, d3, d4⟩
    · rw [a1] at b1; exact ne (Option.some.inj b1)
    · have := tT_sub hS d1 b d4 l (by rw [d2, a2, Bool.or_true])
      rw [a3] at this; cases this
    · have := tT_sub hS c1 b c4 l' (by rw [c2, b2, Bool.or_true])
      rw [b3] at this; cases this
    · rcases tT_lin hS c1 d1 b c4 d4 with y | y
      · rw [c2, d3, Bool.or_false] at y
        exact ne (by simpa using y : l' = l).symm
      · rw [d2, c3, Bool.or_false] at y
        exact ne (by simpa using y)
theorem fstL_in {S : Sv} {P : Nat → Bool} {m k : Nat} (h : ¬ fstL S P m k < 0) : ∃ l, l < k ∧ fstL S P m k = (l : Int) ∧ P l = true ∧ lgP S m l = true := by
  induction k with
  | zero => exact absurd (show (-1 : Int) < 0 by omega) h
  | succ k ih =>
    rw [fstL] at h ⊢
    by_cases c : fstL S P m k < 0 ∧ P k = true ∧ lgP S m k = true
    · rw [if_pos c]; exact ⟨k, by omega, rfl, c.2⟩
    · rw [if_neg c] at h ⊢
      obtain ⟨l, l1, l2⟩ := ih h
      exact ⟨l, by omega, l2⟩
theorem stp_cs (S : Sv) (a b l : Nat) : (wyP S a b l = false ∧ stp S a b l = 0) ∨ (wyP S a b l = true ∧ (stp S a b l = 1 ∨ stp S a b l = -1)) := by
  unfold wyP stp sg0 b01
  generalize tT S a l = x
  generalize tT S b l = y
  generalize dN S l = z
  cases x <;> cases y <;> cases z <;> simp
theorem m_firstLeg {w : Wd} {S : Sv} {a b : Nat} {Q : Int32 → Prop} (hS : wf S) (h : sS w S) (ha : a < nM S) (e : ∀ l, l < 20 → wi w 0 41 l = iI (stp S a b l)) (q : Q (iI (fstL S (wyP S a b) a (nL S)))) : wp_X9_firstLeg (nI a) w Q := by
  have hm' := hS.m
  have hl' := hS.l
  unfold wp_X9_firstLeg wp_X9_firstLeg_L4
  refine lpAI (B := fun x i K => wp_X9_firstLeg_B4 (nI a) x i w Q K) (fun j x => x = iI (fstL S (wyP S a b) a j)) (nL S) 0 (by omega) (Nat.zero_le _) rfl ?_ ?_
  · rintro j x K hj rfl hK
    obtain ⟨g1, g2, -⟩ := hS.g hj
    have sj := h.2.2.2.1 j hj
    have cs := stp_cs S a b j
    have keep : ¬ (wyP S a b j = true ∧ lgP S a j = true) → wp_X9_firstLeg_J56 (nI a) (iI (fstL S (wyP S a b) a j)) (nI j) w Q K := fun c => by
      unfold wp_X9_firstLeg_J56
      rw [nI_1 j]
      refine hK _ ?_
      rw [fstL, if_neg (fun y => c y.2)]
    have take : wyP S a b j = true → lgP S a j = true → K (nI j) (nI j + 1) := fun c d => by
      rw [nI_1 j]
      refine hK _ ?_
      have : fstL S (wyP S a b) a j < 0 := by
        by_cases y : fstL S (wyP S a b) a j < 0
        · exact y
        · obtain ⟨l, l1, l2, l3, l4⟩ := fstL_in y
          have := wy_one hS l3 l4 c d
          omega
      rw [fstL, if_pos ⟨this, c, d⟩, nI_iI]
    unfold wp_X9_firstLeg_B4
    rw [h.2.1, n_le (by omega) (by omega), n_cl (show j < 2147483648 by omega), e j (by omega), ← iI_0, iI_eq ⟨by omega, by omega⟩ ⟨by omega, by omega⟩]
    refine ⟨fun z => absurd z (by omega), fun _ => ⟨n_in (by omega) (by omega), fun z => keep (fun y => ?_), fun z => m_of2 rfl rfl (by omega) (by omega) ?_⟩⟩
    · rcases cs with c | c
      · rw [c.1] at y; cases y.1
      · omega
    · have wt : wyP S a b j = true := by
        rcases cs with c | c
        · exact absurd c.2 z
        · exact c.1
      rw [n_cl (by omega), show wi w 0 33 (12 + 4 * j + 0) = nI (fr S j) from sj.1, n_eq (by omega) (by omega)]
      refine ⟨fun y => take wt (by unfold lgP; simp [y]), fun y => m_of2 rfl rfl (by omega) (by omega) ?_⟩
      rw [n_cl (by omega), sj.2.1, n_eq (by omega) (by omega)]
      refine ⟨fun t => keep (fun s => ?_), fun t => take wt (by unfold lgP; simp [t])⟩
      have := s.2
      unfold lgP at this
      simp [y, t] at this
  · rintro x K rfl
    unfold wp_X9_firstLeg_B4
    exact ⟨fun _ => q, fun z => absurd (by rw [h.2.1]; exact Int32.le_refl _) z⟩
theorem m_wayOf {w : Wd} {S : Sv} {a b : Nat} {x : Int32} {Q : Int32 → Wd → Prop} (hS : wf S) (h : sS w S) (ho : mO w S) (ha : a < nM S) (hb : b < nM S) (q : ∀ w', fl [41] w w' → Q (oWy S a b x) w') : wp_X9_wayOf (nI a) (nI b) x w Q := by
  have hm' := hS.m
  have hl' := hS.l
  have n1 := net_le hS a
  have n2 := net_le hS b
  unfold oWy at q
  unfold wp_X9_wayOf
  rw [n_cl (show a < 2147483648 by omega), n_cl (show b < 2147483648 by omega), ho.1.1.1 a ha, ho.1.1.1 b hb, n_eq (by omega) (by omega)]
  refine ⟨n_in (by omega) (by omega), n_in (by omega) (by omega), fun z => m_rise hS h ho ha hb (fun v fv ev => ?_), fun z => ?_⟩
  · have q' := q v fv
    rw [if_pos z] at q'
    have sv' : sS v S := sS_fl h fv (by decide)
    unfold wp_X9_wayOf_L34
    refine lpAAI (B := fun c d i K => wp_X9_wayOf_B34 (nI a) x (iI (rise S b - rise S a)) c d i v Q K) (fun j c d => c = iI (ct (wyP S a b) j : Int) ∧ d = iI (sm (fun l => if wyP S a b l = true then (ln S l : Int) else 0) j)) (nL S) 0 (by omega) (Nat.zero_le _) ⟨rfl, rfl⟩ ?_ ?_
    · rintro j c d K hj ⟨rfl, rfl⟩ hK
      have cs := stp_cs S a b j
      unfold wp_X9_wayOf_B34
      rw [sv'.2.1, n_le (by omega) (by omega), n_cl (show j < 2147483648 by omega), ev j (by omega)]
      refine ⟨fun y => absurd y (by omega), fun _ => ⟨n_in (by omega) (by omega), m_size ⟨by omega, by omega⟩ ⟨n_in (by omega) (by omega), m_size ⟨by omega, by omega⟩ (m_of2 rfl rfl (by omega) (by omega) ?_)⟩⟩⟩
      rw [n_cl (by omega), (sv'.2.2.2.1 j hj).2.2.1, nI_iI (ln S j), iI_mul, iI_add, iI_add, nI_1 j]
      refine hK _ _ ⟨?_, ?_⟩
      · rw [ct]
        rcases cs with ⟨c1, c2⟩ | ⟨c1, c2⟩
        · rw [c1, c2]; rfl
        · rw [c1]
          have : (stp S a b j).natAbs = 1 := by omega
          rw [this]; rfl
      · rw [sm]
        congr 2
        rcases cs with ⟨c1, c2⟩ | ⟨c1, c2⟩
        · rw [c2, if_neg (by rw [c1]; decide)]
          exact Int.zero_mul _
        · have : (stp S a b j).natAbs = 1 := by omega
          rw [this, if_pos c1]
          exact Int.one_mul _
    · rintro c d K ⟨rfl, rfl⟩
      unfold wp_X9_wayOf_B34
      refine ⟨fun _ => ⟨fun x0 => ⟨fun x1 => ⟨fun x2 => m_firstLeg hS sv' ha ev ?_, fun x2 => ?_⟩, fun x1 => ?_⟩, fun x0 => ?_⟩, fun z => absurd (by rw [sv'.2.1]; exact Int32.le_refl _) z⟩
      · rw [if_neg x0, if_neg x1, if_neg x2] at q'; exact q'
      · rw [if_neg x0, if_neg x1, if_pos x2] at q'
        rw [show (1000000 : Int32) = iI 1000000 from rfl, iI_add]; exact q'
      · rw [if_neg x0, if_pos x1] at q'; exact q'
      · rw [if_pos x0] at q'
        have e : ct (wyP S a b) 20 = ct (wyP S a b) (nL S) := by
          rw [← ct_cut (wyP S a b) (k := nL S) (n := 20) (by omega)]
          refine ct_congr (fun i _ => ?_)
          by_cases t : i < nL S
          · rw [decide_eq_true t]; rfl
          · rw [decide_eq_false t]
            cases s : wyP S a b i with
            | true => exact absurd (wyP_lt hS s) t
            | false => rfl
        rw [e] at q'
        rw [iI_nat]; exact q'
  · have q' := q w fl_rf
    rw [if_neg z] at q'
    exact q'
theorem m_bads {w : Wd} {S : Sv} {Q : Int32 → Prop} (hS : wf S) (h : sS w S) (hL : mL w S) (q : Q (nI (nbd S))) : wp_X9_bads w Q := by
  have hl' := hS.l
  have hn' := nlp_le (S := S)
  unfold wp_X9_bads wp_X9_bads_L4
  refine lpAI (B := fun x i K => wp_X9_bads_B4 x i w Q K) (fun j x => x = nI (ct (bad S) j)) (nlp S) 0 (by omega) (Nat.zero_le _) rfl ?_ ?_
  · rintro j x K hj rfl hK
    unfold wp_X9_bads_B4
    rw [hL.1, n_le (by omega) (by omega), nI_1 j]
    refine ⟨fun z => absurd z (by omega), fun _ => m_isBad hS h hL.2 hj ?_⟩
    rw [b32_0]
    refine ⟨fun y => hK _ ?_, fun y => hK _ ?_⟩
    · rw [n_0, nI_add, ct, if_neg (by rw [y]; decide)]
    · have : bad S j = true := by
        cases t : bad S j with
        | true => rfl
        | false => exact absurd t y
      rw [nI_1, ct, if_pos this]
  · rintro x K rfl
    unfold wp_X9_bads_B4
    exact ⟨fun _ => q, fun z => absurd (by rw [hL.1]; exact Int32.le_refl _) z⟩
theorem m_nets {w : Wd} {S : Sv} {Q : Int32 → Prop} (hS : wf S) (h : sS w S) (ht : mT w S) (q : Q (nI (ct (fun m => net S m == m) (nM S)))) : wp_X9_nets w Q := by
  have hm' := hS.m
  unfold wp_X9_nets wp_X9_nets_L4
  refine lpAI (B := fun x i K => wp_X9_nets_B4 x i w Q K) (fun j x => x = nI (ct (fun m => net S m == m) j)) (nM S) 0 (by omega) (Nat.zero_le _) rfl ?_ ?_
  · rintro j x K hj rfl hK
    have n1 := net_le hS j
    unfold wp_X9_nets_B4
    rw [h.1, n_le (by omega) (by omega), n_cl (by omega), ht.1.1 j hj, n_eq (by omega) (by omega), nI_1 j]
    refine ⟨fun z => absurd z (by omega), fun _ => ⟨n_in (by omega) (by omega), fun y => hK _ ?_, fun y => hK _ ?_⟩⟩
    · rw [n_0, nI_add, ct, if_neg (by simp [y])]
    · rw [nI_1, ct, if_pos (by simp [y])]
  · rintro x K rfl
    unfold wp_X9_nets_B4
    exact ⟨fun _ => q, fun z => absurd (by rw [h.1]; exact Int32.le_refl _) z⟩
theorem m_marksThat5 {w : Wd} {S : Sv} {Q : Int32 → Prop} (hS : wf S) (h : sS w S) (ha : mA w S) (q : Q (nI (nmv S))) : wp_X9_marksThat 5 w Q := by
  have hm' := hS.m
  unfold wp_X9_marksThat wp_X9_marksThat_L4
  refine lpAI (B := fun x i K => wp_X9_marksThat_B4 5 x i w Q K) (fun j x => x = nI (ct (fun m => !(mvd S m == 0)) j)) (nM S) 0 (by omega) (Nat.zero_le _) rfl ?_ ?_
  · rintro j x K hj rfl hK
    have mb := mvd_bd S j
    unfold wp_X9_marksThat_B4
    rw [h.1, n_le (by omega) (by omega), nI_1 j]
    refine ⟨fun z => absurd z (by omega), fun _ => ⟨fun z => absurd rfl z, fun _ => m_movedOf hS h ha hj ?_⟩⟩
    rw [iI_le0 ⟨by omega, by omega⟩]
    refine ⟨fun y => hK _ ?_, fun y => hK _ ?_⟩
    · have : mvd S j = 0 := by omega
      rw [n_0, nI_add, ct, if_neg (by simp [this])]
    · have : ¬ mvd S j = 0 := by omega
      rw [nI_1, ct, if_pos (by simp [this])]
  · rintro x K rfl
    unfold wp_X9_marksThat_B4
    exact ⟨fun _ => q, fun z => absurd (by rw [h.1]; exact Int32.le_refl _) z⟩
theorem m_marksThat8 {w : Wd} {S : Sv} {Q : Int32 → Prop} (hS : wf S) (h : sS w S) (ha : mA w S) (q : Q (nI (nth S))) : wp_X9_marksThat 8 w Q := by
  have hm' := hS.m
  unfold wp_X9_marksThat wp_X9_marksThat_L4
  refine lpAI (B := fun x i K => wp_X9_marksThat_B4 8 x i w Q K) (fun j x => x = nI (ct (fun m => decide (0 ≤ bs S m)) j)) (nM S) 0 (by omega) (Nat.zero_le _) rfl ?_ ?_
  · rintro j x K hj rfl hK
    have bb := bs_bd hS j
    unfold wp_X9_marksThat_B4
    rw [h.1, n_le (by omega) (by omega), n_cl (by omega), (ha.2 j hj).1, ← iI_m1, iI_eq ⟨by omega, by omega⟩ ⟨by omega, by omega⟩, nI_1 j]
    refine ⟨fun z => absurd z (by omega), fun _ => ⟨fun _ => ⟨n_in (by omega) (by omega), fun y => hK _ ?_, fun y => hK _ ?_⟩, fun z => absurd z (by decide)⟩⟩
    · rw [n_0, nI_add, ct, if_neg (by rw [decide_eq_false (by omega)]; decide)]
    · rw [nI_1, ct, if_pos (decide_eq_true (by omega))]
  · rintro x K rfl
    unfold wp_X9_marksThat_B4
    exact ⟨fun _ => q, fun z => absurd (by rw [h.1]; exact Int32.le_refl _) z⟩
theorem m_sumOfLegs7 {w : Wd} {S : Sv} {Q : Int32 → Prop} (hS : wf S) (h : sS w S) (ho : mO w S) (q : Q (iI (smc S))) : wp_X9_sumOfLegs 7 w Q := by
  have hl' := hS.l
  unfold wp_X9_sumOfLegs wp_X9_sumOfLegs_L4
  refine lpAI (B := fun x i K => wp_X9_sumOfLegs_B4 7 x i w Q K) (fun j x => x = iI (sm (fun l => ((cor S l).natAbs : Int)) j)) (nL S) 0 (by omega) (Nat.zero_le _) rfl ?_ ?_
  · rintro j x K hj rfl hK
    have cb := cor_bd hS hj
    unfold wp_X9_sumOfLegs_B4
    rw [h.2.1, n_le (by omega) (by omega), n_cl (by omega), ho.2.2.1 j hj, nI_1 j]
    refine ⟨fun z => absurd z (by omega), fun _ => ⟨fun z => absurd rfl z, fun _ => ⟨n_in (by omega) (by omega), m_size ⟨by omega, by omega⟩ (hK _ ?_)⟩⟩⟩
    rw [iI_add]; rfl
  · rintro x K rfl
    unfold wp_X9_sumOfLegs_B4
    exact ⟨fun _ => q, fun z => absurd (by rw [h.2.1]; exact Int32.le_refl _) z⟩
theorem m_sumOfLegs9 {w : Wd} {S : Sv} {Q : Int32 → Prop} (hS : wf S) (h : sS w S) (q : Q (iI (sm (fun l => (ln S l : Int)) (nL S)))) : wp_X9_sumOfLegs 9 w Q := by
  have hl' := hS.l
  unfold wp_X9_sumOfLegs wp_X9_sumOfLegs_L4
  refine lpAI (B := fun x i K => wp_X9_sumOfLegs_B4 9 x i w Q K) (fun j x => x = iI (sm (fun l => (ln S l : Int)) j)) (nL S) 0 (by omega) (Nat.zero_le _) rfl ?_ ?_
  · rintro j x K hj rfl hK
    unfold wp_X9_sumOfLegs_B4
    rw [h.2.1, n_le (by omega) (by omega), nI_1 j]
    refine ⟨fun z => absurd z (by omega), fun _ => ⟨fun _ => m_of2 rfl rfl (by omega) (by omega) ?_, fun z => absurd z (by decide)⟩⟩
    rw [n_cl (by omega), (h.2.2.2.1 j hj).2.2.1, nI_iI (ln S j), iI_add]
    exact hK _ rfl
  · rintro x K rfl
    unfold wp_X9_sumOfLegs_B4
    exact ⟨fun _ => q, fun z => absurd (by rw [h.2.1]; exact Int32.le_refl _) z⟩
theorem m_misses {w : Wd} {S : Sv} {Q : Int32 → Prop} (hS : wf S) (h : sS w S) (hL : mL w S) (q : Q (iI (smm S))) : wp_X9_misses w Q := by
  have hl' := hS.l
  have hn' := nlp_le (S := S)
  unfold wp_X9_misses wp_X9_misses_L4
  refine lpAI (B := fun x i K => wp_X9_misses_B4 x i w Q K) (fun j x => x = iI (sm (fun k => ((miss S k).natAbs : Int)) j)) (nlp S) 0 (by omega) (Nat.zero_le _) rfl ?_ ?_
  · rintro j x K hj rfl hK
    have mb := miss_bd hS j
    unfold wp_X9_misses_B4
    rw [hL.1, n_le (by omega) (by omega), nI_1 j]
    refine ⟨fun z => absurd z (by omega), fun _ => m_missOf hS h hL.2 hj (m_size ⟨by omega, by omega⟩ (hK _ ?_))⟩
    rw [iI_add]; rfl
  · rintro x K rfl
    unfold wp_X9_misses_B4
    exact ⟨fun _ => q, fun z => absurd (by rw [hL.1]; exact Int32.le_refl _) z⟩
theorem m_counted {w : Wd} {σ : Ss} {x : Int32} {Q : Int32 → Prop} (hS : wf σ.1) (h : sS w σ.1) (ha : mA w σ.1) (hh : wi w 0 32 4 = nI σ.2.1.1) (q : Q (oCt σ x)) : wp_X9_counted x w Q := by
  unfold oCt at q
  unfold wp_X9_counted wp_X9_counted_J91 wp_X9_counted_J97
  refine ⟨fun z => ?_, fun z => ?_, fun z => ?_, fun z => m_bads hS h ha.1.2.1 ?_, fun z => m_nets hS h ha.1.1 ?_, fun z => ?_, fun z => m_misses hS h ha.1.2.1 ?_, fun z => ?_, fun z => ?_, fun z => ?_, fun z0 z1 z2 z3 z4 z5 z6 z7 z8 z9 => ?_⟩
  · subst z; rw [h.1]; exact q
  · subst z; rw [h.2.1]; exact q
  · subst z; rw [ha.1.2.1.1]; exact q
  · subst z; exact q
  · subst z; exact q
  · subst z; exact m_marksThat5 hS h ha q
  · subst z; exact q
  · subst z; exact m_sumOfLegs7 hS h ha.1 q
  · subst z; exact m_marksThat8 hS h ha q
  · subst z; exact m_sumOfLegs9 hS h q
  · rw [if_neg z0, if_neg z1, if_neg z2, if_neg z3, if_neg z4, if_neg z5, if_neg z6, if_neg z7, if_neg z8, if_neg z9] at q
    rw [hh]; exact q
theorem m_worstOf {w : Wd} {S : Sv} {Q : Int32 → Prop} (hS : wf S) (h : sS w S) (hL : mL w S) (q : Q (iI (wsK S (nlp S)))) : wp_X9_worstOf w Q := by
  have hl' := hS.l
  have hn' := nlp_le (S := S)
  unfold wp_X9_worstOf wp_X9_worstOf_L6
  refine lpAAI (B := fun a b i K => wp_X9_worstOf_B6 a b i w Q K) (fun j a b => a = iI (wsK S j) ∧ (¬ wsK S j < 0 → b = iI (exc S (wsK S j).toNat))) (nlp S) 0 (by omega) (Nat.zero_le _) ⟨rfl, fun z => absurd (show (-1 : Int) < 0 by omega) z⟩ ?_ ?_
  · rintro j a b K hj ⟨rfl, hb⟩ hK
    have wb := wsK_bd (S := S) (k := j)
    have mb := miss_bd hS j
    have ab := alw_bd hS j
    have eb := exc_bd hS j
    have eb2 := exc_bd hS (wsK S j).toNat
    have J : ∀ s : Int32, (s = 0 ∧ wsK S (j + 1) = wsK S j) ∨ (s = 1 ∧ wsK S (j + 1) = (j : Int)) → wp_X9_worstOf_J46 (iI (wsK S j)) b (nI j) (iI (exc S j)) s w Q K := by
      rintro s (⟨rfl, e⟩ | ⟨rfl, e⟩)
      · unfold wp_X9_worstOf_J46 wp_X9_worstOf_J58
        rw [nI_1 j]
        refine ⟨fun _ => ⟨fun _ => hK _ _ ⟨by rw [e], by rw [e]; exact hb⟩, fun z => absurd rfl z⟩, fun z => absurd rfl z⟩
      · unfold wp_X9_worstOf_J46 wp_X9_worstOf_J58
        rw [nI_1 j]
        refine ⟨fun z => absurd z (by decide), fun _ => ⟨fun z => absurd z (by decide), fun _ => hK _ _ ⟨by rw [e, nI_iI], fun _ => by rw [e, Int.toNat_natCast]⟩⟩⟩
    unfold wp_X9_worstOf_B6
    rw [hL.1, n_le (by omega) (by omega)]
    refine ⟨fun z => absurd z (by omega), fun _ => m_missOf hS h hL.2 hj (m_size ⟨by omega, by omega⟩ (m_allowed hS h hL.2 hj ?_))⟩
    rw [iI_sub, show (((miss S j).natAbs : Int) - alw S j) = exc S j from rfl, ← iI_m1, iI_eq ⟨by omega, by omega⟩ ⟨by omega, by omega⟩]
    refine ⟨fun z => J 1 (Or.inr ⟨rfl, by rw [wsK, if_pos (Or.inl (by omega))]⟩), fun z => ?_⟩
    have w0 : ¬ wsK S j < 0 := by omega
    rw [hb w0, iI_le ⟨by omega, by omega⟩ ⟨by omega, by omega⟩, ← hb w0]
    refine ⟨fun y => J 0 (Or.inl ⟨rfl, by rw [wsK, if_neg (by omega)]⟩), fun y => J 1 (Or.inr ⟨rfl, by rw [wsK, if_pos (Or.inr (by omega))]⟩)⟩
  · rintro a b K ⟨rfl, hb⟩
    unfold wp_X9_worstOf_B6
    exact ⟨fun _ => q, fun z => absurd (by rw [hL.1]; exact Int32.le_refl _) z⟩
theorem m_isBetter {w : Wd} {S : Sv} {l o : Nat} {Q : Int32 → Prop} (hS : wf S) (h : sS w S) (hL : mL w S) (hl : l < nL S) (ho : o < nL S) (e : hbl S l = hbl S o) (k1 : mor S l o = true → Q 1) (k0 : mor S l o = false → Q 0) : wp_X9_isBetter (nI l) (nI o) w Q := by
  have hl' := hS.l
  have hn' := nlp_le (S := S)
  have e1 := lwP_0 (S := S) l
  have e2 := lwP_0 (S := S) o
  have c1 := ct_le (lwP S 0 l) (nlp S)
  have c2 := ct_le (lwP S 0 o) (nlp S)
  obtain ⟨-, -, -, -, -, g1, g2⟩ := hS.g hl
  obtain ⟨-, -, -, -, -, g3, g4⟩ := hS.g ho
  unfold mor at k1 k0
  unfold wp_X9_isBetter wp_X9_isBetter_J49
  refine m_loopsWith (c := 0) hS h hL hl (by omega) (m_loopsWith (c := 0) hS h hL ho (by omega) ?_)
  rw [nI_iI, nI_iI (ct (lwP S 0 o) (nlp S)), iI_sub, iI_lt0 ⟨by omega, by omega⟩]
  refine ⟨fun z => ⟨Or.inr rfl, k1 (by rw [decide_eq_true (show hwl S l < hwl S o by omega)]; rfl)⟩, fun z => ?_⟩
  rw [← iI_0, iI_eq ⟨by omega, by omega⟩ ⟨by omega, by omega⟩, iI_0]
  rw [decide_eq_false (show ¬ hwl S l < hwl S o by omega), Bool.false_or] at k1 k0
  refine ⟨fun y => ⟨Or.inl rfl, k0 (by rw [decide_eq_false (show ¬ hwl S l = hwl S o by omega)]; rfl)⟩, fun y => m_of2 rfl rfl (by omega) (by omega) (m_of2 rfl rfl (by omega) (by omega) ?_)⟩
  rw [decide_eq_true (show hwl S l = hwl S o by omega), Bool.true_and] at k1 k0
  rw [n_cl (by omega), n_cl (by omega), (h.2.2.2.1 l hl).2.2.1, (h.2.2.2.1 o ho).2.2.1, n_le (by omega) (by omega)]
  exact ⟨fun t => ⟨Or.inl rfl, k0 (decide_eq_false (by omega))⟩, fun t => ⟨Or.inr rfl, k1 (decide_eq_true (by omega))⟩⟩
theorem suK_in {S : Sv} {k : Nat} (h : ¬ suK S k < 0) : hbl S (suK S k).toNat = nbd S := by
  induction k with
  | zero => exact absurd (show (-1 : Int) < 0 by omega) h
  | succ k ih =>
    rw [suK] at h ⊢
    by_cases c : (0 < nbd S ∧ hbl S k = nbd S) ∧ (suK S k < 0 ∨ mor S k (suK S k).toNat = true)
    · rw [if_pos c, Int.toNat_natCast]; exact c.1.2
    · rw [if_neg c] at h ⊢; exact ih h
theorem m_suspected {w : Wd} {S : Sv} {Q : Int32 → Prop} (hS : wf S) (h : sS w S) (hL : mL w S) (q : Q (iI (suK S (nL S)))) : wp_X9_suspected w Q := by
  have hl' := hS.l
  have hn' := nlp_le (S := S)
  have cb : nbd S ≤ nlp S := ct_le _ _
  unfold wp_X9_suspected
  refine m_bads hS h hL ?_
  unfold wp_X9_suspected_L9
  have nothing : nbd S = 0 → ∀ j, suK S j = -1 := fun z j => by
    induction j with
    | zero => rfl
    | succ j ih => rw [suK, if_neg (by omega)]; exact ih
  refine lpAI (B := fun x i K => wp_X9_suspected_B9 (nI (nbd S)) x i w Q K) (fun j x => x = iI (suK S j)) (nL S) 0 (by omega) (Nat.zero_le _) rfl ?_ ?_
  · rintro j x K hj rfl hK
    have sb := suK_bd (S := S) (k := j)
    have ch : hbl S j ≤ nlp S := ct_le _ _
    unfold wp_X9_suspected_B9 wp_X9_suspected_J52
    rw [h.2.1, n_le (by omega) (by omega), n_0, n_le (by omega) (by omega), nI_1 j]
    refine ⟨fun z => absurd z (by omega), fun _ => ⟨fun z => ?_, fun z => m_loopsWith (c := 1) hS h hL hj (by omega) ?_⟩⟩
    · rw [nothing (by omega) (nL S)] at q
      rw [nothing (by omega) j]; exact q
    · rw [lwP_1, n_eq (by omega) (by omega), ← iI_m1, iI_eq ⟨by omega, by omega⟩ ⟨by omega, by omega⟩]
      refine ⟨fun y => hK _ (by rw [suK, if_neg (fun t => y t.1.2)]), fun y => ⟨fun t => hK _ (by rw [suK, if_pos ⟨⟨by omega, y⟩, Or.inl (by omega)⟩, iI_nat]), fun t => ?_⟩⟩
      have e : iI (suK S j) = nI (suK S j).toNat := by rw [← iI_nat]; congr 1; omega
      rw [e]
      refine m_isBetter hS h hL hj (by omega) (by rw [y, suK_in (by omega)]) (fun m => ⟨fun x => absurd x (by decide), fun _ => hK _ (by rw [suK, if_pos ⟨⟨by omega, y⟩, Or.inr m⟩, iI_nat])⟩) (fun m => ⟨fun _ => hK _ ?_, fun x => absurd rfl x⟩)
      rw [suK, if_neg (fun x => ?_), e]
      rcases x.2 with x | x
      · omega
      · rw [m] at x; cases x
  · rintro x K rfl
    unfold wp_X9_suspected_B9
    exact ⟨fun _ => q, fun z => absurd (by rw [h.2.1]; exact Int32.le_refl _) z⟩
theorem m_shareOf {w : Wd} {S : Sv} {Q : UInt64 → Prop} (hS : wf S) (h : sS w S) (hL : mL w S) (q : Q (shG (nlp S) (nbd S))) : wp_X9_share_ w Q := by
  have hl' := hS.l
  have hn' := nlp_le (S := S)
  have hb : nbd S ≤ nlp S := ct_le _ _
  have ok := (shG_ok (nlp S) (by omega) (nbd S) (by omega)).1
  unfold wp_X9_share_
  rw [hL.1, n_0, n_eq (by omega) (by omega)]
  refine ⟨fun z => m_bads hS h hL ?_, fun z => ?_⟩
  · have e : shG (nlp S) (nbd S) = FP.ddiv (FP.i2d (nI (nlp S) - nI (nbd S))) (FP.i2d (nI (nlp S))) := by rw [shG, if_neg z]
    rw [← e]
    exact ⟨n64_ok (ok.resolve_left z), q⟩
  · rw [shG, if_pos z] at q; exact q
def bD : Nat → UInt64 → Int64 → Option Int64
  | 0, _, _ => none
  | k + 1, x, e =>
    if 0 ≤ (Op.cmpValue (FP.dcmp x FP.dconst1) .g) then
      (if n64 (FP.dsub x FP.dconst1) = true ∧ n64 (FP.dmul (FP.dsub x FP.dconst1) (4841369599423283200 : UInt64)) = true then some ((e * (4503599627370496 : Int64)) + (FP.d2l (FP.dmul (FP.dsub x FP.dconst1) (4841369599423283200 : UInt64)))) else none)
    else if n64 (FP.dmul x (4611686018427387904 : UInt64)) = true then bD k (FP.dmul x (4611686018427387904 : UInt64)) (e - 1) else none
def bEs (x : UInt64) : Option Int64 := if ¬ (Op.cmpValue (FP.dcmp x FP.dconst0) .l) = 0 then bD 10 x 1023 else some 0
theorem bEs_ok : ∀ n : Nat, n < 21 → ∀ b : Nat, b < n + 1 → bEs (shG n b) = bT (shG n b) := by decide +kernel
theorem m_bitsOfShare {x : UInt64} {r : Int64} {Q : Int64 → Prop} (h : bEs x = some r) (q : Q r) : wp_X9_bitsOfShare x Q := by
  unfold wp_X9_bitsOfShare
  unfold bEs at h
  refine ⟨fun c => ?_, fun c => ?_⟩
  · rw [if_pos c] at h
    unfold wp_X9_bitsOfShare_L15
    refine lpG (B := fun e y K => wp_X9_bitsOfShare_B15 e y Q K) (fun k e y => bD k y e = some r) 10 h ?_
    rintro k e y K hk hK
    cases k with
    | zero => cases hk
    | succ k =>
      rw [bD] at hk
      unfold wp_X9_bitsOfShare_B15
      by_cases c : 0 ≤ (Op.cmpValue (FP.dcmp y FP.dconst1) .g)
      · rw [if_pos c] at hk
        by_cases c2 : n64 (FP.dsub y FP.dconst1) = true ∧ n64 (FP.dmul (FP.dsub y FP.dconst1) (4841369599423283200 : UInt64)) = true
        · rw [if_pos c2] at hk
          rw [Option.some.inj hk]
          exact ⟨fun _ => ⟨n64_ok c2.1, n64_ok c2.2, q⟩, fun z => absurd c z⟩
        · rw [if_neg c2] at hk; cases hk
      · rw [if_neg c] at hk
        by_cases c2 : n64 (FP.dmul y (4611686018427387904 : UInt64)) = true
        · rw [if_pos c2] at hk
          exact ⟨fun z => absurd z c, fun _ => ⟨n64_ok c2, hK k _ _ (by omega) hk⟩⟩
        · rw [if_neg c2] at hk; cases hk
  · rw [if_neg (fun z => z c)] at h
    rw [Option.some.inj h]; exact q
