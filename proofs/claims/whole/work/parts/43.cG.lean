/-! THE CLASS: Heights and Study -/
theorem dS.fm {n m lo hi : Nat} {w w' : Wd} {S : Sv} (h : dS n w S) (k : fm m lo hi w w') (hlo : m ≠ n ∨ 20 ≤ lo ∨ hi < 13) : dS n w' S := by
  have e : ∀ b, b = 13 ∨ b = 19 → ∀ j, wi w' n b j = wi w n b j := fun b hb j => k.wi (by omega) j
  exact ⟨fun l hl => by rw [e 13 (Or.inl rfl)]; exact h.1 l hl, fun j hj => by rw [e 19 (Or.inr rfl)]; exact h.2 j hj⟩
theorem dH.fm {n m lo hi : Nat} {w w' : Wd} {S : Sv} (h : dH n w S) (k : fm m lo hi w w') (hlo : m ≠ n ∨ 26 ≤ lo ∨ hi < 23) : dH n w' S := by
  have e : ∀ b, 23 ≤ b → b < 26 → ∀ j, wi w' n b j = wi w n b j := fun b hb hb2 j => k.wi (by omega) j
  refine ⟨fun m hm => ⟨by rw [e 23 (by omega) (by omega)]; exact (h.1 m hm).1, by rw [e 24 (by omega) (by omega)]; exact (h.1 m hm).2⟩, fun t ht => by rw [e 25 (by omega) (by omega)]; exact h.2 t ht⟩
def rsF (S : Sv) (P : Nat → Bool) (l : Nat) : Int := if P l = true then (if dN S l = true then cd S l else - cd S l) else 0
theorem s_riseOf {n : Nat} {x : Int32} {P : Nat → Bool} {w : Wd} {S : Sv} {Q : Int32 → Prop} (hS : wf S) (hr : rS n w S) (hd : dT n w S) (hs : dS n w S) (hx : bm x P) (q : Q (iI (sm (rsF S P) (nL S)))) : wp_X0_riseOf n x w Q := by
  have hl := hS.l
  obtain ⟨h1, h2, h3, h4, h5⟩ := id hr
  unfold wp_X0_riseOf wp_X0_riseOf_L4
  refine lpAI (B := fun a i K => wp_X0_riseOf_B4 n x a i w Q K) (fun j a => a = iI (sm (rsF S P) j)) (nL S) 0 (by omega) (Nat.zero_le _) rfl ?_ ?_
  · rintro j a K hj rfl hK
    unfold wp_X0_riseOf_B4
    rw [h2, n_le (by omega) (by omega), nI_1]
    refine ⟨fun z => absurd z (by omega), fun _ => s_isIn hx (by omega) (fun hp => ⟨fun z => absurd z (by decide), fun _ => ⟨n_in (by omega) (by omega), n_in (by omega) (by omega), ?_⟩⟩) (fun hp => ⟨fun _ => ?_, fun z => absurd rfl z⟩)⟩
    · rw [n_cl (show j < 2147483648 by omega), (h4 j hj).2.2.1, hs.1 j hj, iI_add]
      unfold wp_X0_riseOf_J67
      rw [iI_neg, iI_add, iI_add, nI_1]
      refine s_isIn hd.2.2.2 (by omega) (fun hq => ⟨fun z => absurd z (by decide), fun _ => hK _ ?_⟩) (fun hq => ⟨fun _ => hK _ ?_, fun z => absurd rfl z⟩)
      · rw [sm, rsF, if_pos hp, if_pos hq]; rfl
      · rw [sm, rsF, if_pos hp, if_neg (by rw [hq]; decide)]; rfl
    · refine hK _ ?_
      rw [sm, rsF, if_neg (by rw [hp]; decide), Int.add_zero]
  · rintro a K rfl
    unfold wp_X0_riseOf_B4
    rw [h2]
    exact ⟨fun _ => q, fun z => absurd (Int32.le_refl _) z⟩
def rH (n : Nat) (w : Wd) (S : Sv) : Prop := ∀ m, m < nM S → wi w n 23 m = iI (rise S m)
theorem s_agree {n m o : Nat} {w : Wd} {S : Sv} {Q : Int32 → Prop} (hS : wf S) (hr : rS n w S) (hh : rH n w S) (hm : m < nM S) (ho : o < nM S) (k1 : agr S m o = true → Q 1) (k0 : agr S m o = false → Q 0) : wp_X0_agree n (nI m) (nI o) w Q := by
  have hmm := hS.m
  have i1 := n_in (show m < 10 by omega) (by omega)
  have i2 := n_in (show o < 10 by omega) (by omega)
  have hk1 := hS.k hm
  have hk2 := hS.k ho
  have hd := rise_diff hS o m
  obtain ⟨-, -, -, -, s1, s2⟩ := hS.s
  unfold wp_X0_agree
  rw [n_cl (by omega), n_cl (by omega), hr.2.2.1 m hm, hr.2.2.1 o ho, hh m hm, hh o ho, hr.2.2.2.2 2 (by omega), iI_sub, iI_sub, iI_sub, iabs_iI ⟨by omega, by omega⟩, iI_lt ⟨by omega, by omega⟩ ⟨by omega, by omega⟩]
  exact ⟨i2, i1, i2, i1, fun z => ⟨Or.inl rfl, k0 (decide_eq_false (by omega))⟩, fun z => ⟨Or.inr rfl, k1 (decide_eq_true (by omega))⟩⟩
theorem kn_m1 {S : Sv} (hS : wf S) {m : Nat} (hm : m < nM S) : (iI (kn S m) = (-1 : Int32)) ↔ kn S m = -1 := by
  have := hS.k hm
  rw [← iI_m1, iI_eq ⟨by omega, by omega⟩ ⟨by omega, by omega⟩]
theorem s_howManyAgree {n m : Nat} {w : Wd} {S : Sv} {Q : Int32 → Prop} (hS : wf S) (hr : rS n w S) (hd : dT n w S) (hh : rH n w S) (hm : m < nM S) (k : Q (nI (ag S m))) : wp_X0_howManyAgree n (nI m) w Q := by
  have hmm := hS.m
  unfold wp_X0_howManyAgree wp_X0_howManyAgree_L4
  refine lpAI (B := fun a i K => wp_X0_howManyAgree_B4 n (nI m) a i w Q K) (fun j a => a = nI (ct (agP S m) j)) (nM S) 0 (by omega) (Nat.zero_le _) rfl ?_ ?_
  · rintro j a K hj rfl hK
    have no : agP S m j = false → nI (ct (agP S m) j) = nI (ct (agP S m) (j + 1)) := fun z => by rw [ct, if_neg (by rw [z]; decide), Nat.add_zero]
    have n1 := net_le hS j
    have n2 := net_le hS m
    unfold wp_X0_howManyAgree_B4
    rw [hr.1, n_le (by omega) (by omega), n_eq (by omega) (by omega), n_cl (show j < 2147483648 by omega), n_cl (show m < 2147483648 by omega), hr.2.2.1 j hj, kn_m1 hS hj, hd.1 j hj, hd.1 m hm, n_eq (by omega) (by omega), nI_1, nI_1]
    refine ⟨fun z => absurd z (by omega), fun _ => ⟨fun z => hK _ (no (by simp [agP, z])), fun z => ⟨n_in (by omega) (by omega), fun y => hK _ (no (by simp [agP, y])), fun y => ⟨n_in (by omega) (by omega), n_in (by omega) (by omega), fun x => hK _ (no (by simp [agP, x])), fun x => ?_⟩⟩⟩⟩
    refine s_agree hS hr hh hm hj (fun v => ⟨fun u => absurd u (by decide), fun _ => hK _ ?_⟩) (fun v => ⟨fun _ => hK _ (no (by simp [agP, v])), fun u => absurd rfl u⟩)
    rw [ct, if_pos (by simp [agP, v, x, y, z])]
  · rintro a K rfl
    unfold wp_X0_howManyAgree_B4
    rw [hr.1]
    exact ⟨fun _ => k, fun z => absurd (Int32.le_refl _) z⟩
theorem s_find {n : Nat} {w : Wd} {S : Sv} {Q : Wd → Prop} (hS : wf S) (hr : rS n w S) (hd : dT n w S) (hs : dS n w S) (k : ∀ w', fm n 23 25 w w' → dH n w' S → Q w') : wp_X0_find n w Q := by
  have hmm := hS.m
  unfold wp_X0_find wp_X0_find_L2
  refine lpIA (B := fun i v K => wp_X0_find_B2 n i v Q K) (fun j v => fm n 23 25 w v ∧ (∀ m, m < j → wi v n 23 m = iI (rise S m)) ∧ ∀ m, m < j → wi v n 25 m = -1) (nM S) 0 (by omega) (Nat.zero_le _) ⟨fm.rf, fun m h => absurd h (by omega), fun m h => absurd h (by omega)⟩ ?_ ?_
  · rintro j v K hj ⟨f, a, b⟩ hK
    have rv : rS n v S := hr.fm f (Or.inr (by omega))
    have dv : dT n v S := hd.fm f (Or.inr (Or.inl (by omega)))
    have sv' : dS n v S := hs.fm f (Or.inr (Or.inl (by omega)))
    unfold wp_X0_find_B2
    rw [rv.1, n_le (by omega) (by omega), n_cl (show j < 2147483648 by omega), nI_1]
    refine ⟨fun z => absurd z (by omega), fun _ => ⟨n_in (by omega) (by omega), s_riseOf hS rv dv sv' (dv.2.1 j hj) ⟨n_in (by omega) (by omega), fun w1 q1 => ⟨n_in (by omega) (by omega), fun w2 q2 => hK w2 ⟨?_, fun m hm => ?_, fun m hm => ?_⟩⟩⟩⟩⟩
    · rw [q2, q1]; exact (f.sI (by omega) (by omega)).sI (by omega) (by omega)
    · rw [q2, wi_sI, if_neg (by omega), q1, wi_sI]
      by_cases z : m = j
      · rw [if_pos ⟨rfl, rfl, z⟩, z]; rfl
      · rw [if_neg (by omega)]; exact a m (by omega)
    · rw [q2, wi_sI]
      by_cases z : m = j
      · rw [if_pos ⟨rfl, rfl, z⟩]
      · rw [if_neg (by omega), q1, wi_sI, if_neg (by omega)]; exact b m (by omega)
  · rintro v K ⟨f, a, b⟩
    have rv : rS n v S := hr.fm f (Or.inr (by omega))
    unfold wp_X0_find_B2
    rw [rv.1]
    refine ⟨fun _ => ?_, fun z => absurd (Int32.le_refl _) z⟩
    unfold wp_X0_find_L47
    refine lpIA (B := fun i v K => wp_X0_find_B47 n i v Q K) (fun j v => fm n 23 25 w v ∧ (∀ m, m < nM S → wi v n 23 m = iI (rise S m)) ∧ (∀ m, m < j → wi v n 24 m = (if kn S m = -1 then -1 else nI (ag S m))) ∧ ∀ t, t < nM S → wi v n 25 t = iI (bsK S t j)) (nM S) 0 (by omega) (Nat.zero_le _) ⟨f, a, fun m h => absurd h (by omega), fun t ht => (b t ht).trans rfl⟩ ?_ ?_
    · rintro j v K hj ⟨f, a, b, c⟩ hK
      have rv : rS n v S := hr.fm f (Or.inr (by omega))
      have dv : dT n v S := hd.fm f (Or.inr (Or.inl (by omega)))
      have hin := n_in (show j < 10 by omega) (by omega)
      have hnet := net_le hS j
      have hin2 := n_in (show net S j < 10 by omega) (by omega)
      have hag : ag S j ≤ nM S := ct_le _ _
      have hbk := bsK_bd S (net S j) j
      have st : ∀ (s0 : Int32), s0 = (if kn S j = -1 then -1 else nI (ag S j)) → wp_X0_find_J85 n (nI j) s0 (nI j) v Q K := by
        intro s0 es
        unfold wp_X0_find_J85
        rw [n_cl (show j < 2147483648 by omega)]
        refine ⟨hin, fun w1 q1 => ⟨hin, hin, ?_⟩⟩
        have f1 : fm n 23 25 w w1 := by rw [q1]; exact f.sI (by omega) (by omega)
        have a1 : ∀ m, m < nM S → wi w1 n 23 m = iI (rise S m) := fun m hm => by rw [q1, wi_sI, if_neg (by omega)]; exact a m hm
        have b1 : ∀ m, m < j + 1 → wi w1 n 24 m = (if kn S m = -1 then -1 else nI (ag S m)) := fun m hm => by
          rw [q1, wi_sI]
          by_cases z : m = j
          · rw [if_pos ⟨rfl, rfl, z⟩, z]; exact es
          · rw [if_neg (by omega)]; exact b m (by omega)
        have c1 : ∀ t, t < nM S → wi w1 n 25 t = iI (bsK S t j) := fun t ht => by rw [q1, wi_sI, if_neg (by omega)]; exact c t ht
        have d1 : wi w1 n 9 j = nI (net S j) := by rw [q1, wi_sI, if_neg (by omega)]; exact dv.1 j hj
        have same : (∀ t, bsK S t (j + 1) = bsK S t j) → K (nI (j + 1)) w1 := fun e => hK w1 ⟨f1, a1, b1, fun t ht => by rw [e t]; exact c1 t ht⟩
        have put : (kn S j ≠ -1 ∧ (bsK S (net S j) j < 0 ∨ ag S (bsK S (net S j) j).toNat < ag S j)) → wp_X0_find_J134 n (nI j) (nI (net S j)) w1 Q K := fun e => by
          unfold wp_X0_find_J134
          rw [n_cl (show net S j < 2147483648 by omega), nI_1]
          refine ⟨hin2, fun w2 q2 => hK w2 ⟨by rw [q2]; exact f1.sI (by omega) (by omega), fun m hm => by rw [q2, wi_sI, if_neg (by omega)]; exact a1 m hm, fun m hm => by rw [q2, wi_sI, if_neg (by omega)]; exact b1 m hm, fun t ht => ?_⟩⟩
          rw [q2, wi_sI, bsK]
          by_cases z : t = net S j
          · rw [if_pos ⟨rfl, rfl, z⟩, z, if_pos ⟨rfl, e⟩, iI_nat]
          · rw [if_neg (by omega), if_neg (by omega)]; exact c1 t ht
        rw [b1 j (by omega), d1, n_cl (show net S j < 2147483648 by omega), c1 (net S j) (by omega), nI_1]
        by_cases hk : kn S j = -1
        · rw [if_pos hk]
          exact ⟨fun _ => same (fun t => by rw [bsK, if_neg (fun z => z.2.1 hk)]), fun z => absurd (show (-1 : Int32) < 0 by decide) z⟩
        · rw [if_neg hk, iI_lt0 ⟨by omega, by omega⟩]
          refine ⟨fun z => absurd z (nI_pos (by omega)), fun _ => ⟨hin2, fun z => put ⟨hk, Or.inl z⟩, fun z => ?_⟩⟩
          obtain ⟨p, p1, p2, p3, p4⟩ := bsK_spec z
          have hap : ag S p ≤ nM S := ct_le _ _
          rw [p1, iI_nat, n_cl (show p < 2147483648 by omega), b1 p (by omega), if_neg p4, n_le (by omega) (by omega)]
          refine ⟨hin, hin2, n_in (by omega) (by omega), fun y => same (fun t => ?_), fun y => put ⟨hk, Or.inr ?_⟩⟩
          · rw [bsK, if_neg]
            rintro ⟨t1, t2, t3⟩
            rw [← t1, p1] at t3
            rw [Int.toNat_natCast] at t3
            omega
          · rw [p1, Int.toNat_natCast]; omega
      unfold wp_X0_find_B47
      rw [rv.1, n_le (by omega) (by omega), n_cl (show j < 2147483648 by omega), rv.2.2.1 j hj, kn_m1 hS hj]
      refine ⟨fun z => absurd z (by omega), fun _ => ⟨hin, fun z => s_howManyAgree hS rv dv a hj (st _ (by rw [if_neg z])), fun z => st _ (by rw [if_pos z])⟩⟩
    · rintro v K ⟨f, a, b, c⟩
      have rv : rS n v S := hr.fm f (Or.inr (by omega))
      unfold wp_X0_find_B47
      rw [rv.1]
      exact ⟨fun _ => k v f ⟨fun m hm => ⟨a m hm, b m hm⟩, c⟩, fun z => absurd (Int32.le_refl _) z⟩
/-- all that follows from the survey S -/
def dA (n : Nat) (w : Wd) (S : Sv) : Prop := rS n w S ∧ dT n w S ∧ dC n w S ∧ dS n w S ∧ dH n w S
theorem dA.fm {n m lo hi : Nat} {w w' : Wd} {S : Sv} (h : dA n w S) (k : fm m lo hi w w') (hlo : m ≠ n ∨ 26 ≤ lo) : dA n w' S :=
  ⟨h.1.fm k (by omega), h.2.1.fm k (by omega), h.2.2.1.fm k (by omega), h.2.2.2.1.fm k (by omega), h.2.2.2.2.fm k (by omega)⟩
theorem s_renew {n : Nat} {w : Wd} {S : Sv} {Q : Wd → Prop} (hS : wf S) (hr : rS n w S) (k : ∀ w', fm n 8 25 w w' → dA n w' S → Q w') : wp_X4_renew n w Q := by
  unfold wp_X4_renew
  refine s_grow hS hr (fun w1 f1 d1 => ?_)
  have r1 : rS n w1 S := hr.fm f1 (Or.inr (by omega))
  refine s_close hS r1 d1 (fun w2 f2 d2 z2 => ?_)
  have r2 : rS n w2 S := r1.fm f2 (Or.inr (by omega))
  refine s_spread hS r2 d2 z2 (fun w3 f3 d3 e3 => ?_)
  have r3 : rS n w3 S := r2.fm f3 (Or.inr (by omega))
  have t3 : dT n w3 S := (d1.fm f2 (by omega)).fm f3 (by omega)
  refine s_find hS r3 t3 e3 (fun w4 f4 d4 => k w4 ?_ ⟨r3.fm f4 (by omega), t3.fm f4 (by omega), d3.fm f4 (by omega), e3.fm f4 (by omega), d4⟩)
  exact (((f1.wide (by omega) (by omega)).tr (f2.wide (by omega) (by omega))).tr (f3.wide (by omega) (by omega))).tr (f4.wide (by omega) (by omega))
/-! looks -/
theorem s_baseOf {n m : Nat} {w : Wd} {S : Sv} {Q : Int32 → Prop} (hS : wf S) (h : dA n w S) (hm : m < nM S) (k : Q (iI (bs S m))) : wp_X0_baseOf n (nI m) w Q := by
  have hmm := hS.m
  have hnet := net_le hS m
  unfold wp_X0_baseOf
  rw [n_cl (by omega), h.2.1.1 m hm, n_cl (by omega), h.2.2.2.2.2 (net S m) (by omega)]
  exact ⟨n_in (by omega) (by omega), n_in (by omega) (by omega), k⟩
theorem bs_bd {S : Sv} (hS : wf S) (m : Nat) : -1 ≤ bs S m ∧ bs S m < 10 := by
  have := bsK_bd S (net S m) (nM S)
  have := hS.m
  unfold bs
  omega
theorem s_isThere {n m : Nat} {w : Wd} {S : Sv} {Q : Int32 → Prop} (hS : wf S) (h : dA n w S) (hm : m < nM S) (k1 : ¬ bs S m < 0 → Q 1) (k0 : bs S m < 0 → Q 0) : wp_X0_isThere n (nI m) w Q := by
  have hb := bs_bd hS m
  unfold wp_X0_isThere
  refine s_baseOf hS h hm ?_
  rw [iI_lt0 ⟨by omega, by omega⟩]
  exact ⟨fun z => ⟨Or.inl rfl, k0 z⟩, fun z => ⟨Or.inr rfl, k1 z⟩⟩
theorem s_of {n m : Nat} {w : Wd} {S : Sv} {Q : Int32 → Prop} (hS : wf S) (h : dA n w S) (hm : m < nM S) (k : Q (iI (hgt S m))) : wp_X0_of n (nI m) w Q := by
  have hmm := hS.m
  have hb := bs_bd hS m
  unfold wp_X0_of
  refine s_baseOf hS h hm ?_
  rw [iI_0le ⟨by omega, by omega⟩]
  unfold hgt at k
  refine ⟨fun z => ?_, fun z => ?_⟩
  · rw [if_neg (by omega)] at k
    obtain ⟨b, b1, b2, b3, b4⟩ := bsK_spec (S := S) (t := net S m) (k := nM S) (by show ¬ bs S m < 0; omega)
    have b1' : bs S m = (b : Int) := b1
    rw [b1', Int.toNat_natCast] at k
    rw [b1', iI_nat, n_cl (by omega), n_cl (by omega), h.1.2.2.1 b b2, (h.2.2.2.2.1 m hm).1, (h.2.2.2.2.1 b b2).1, iI_add, iI_sub]
    exact ⟨n_in (by omega) (by omega), n_in (by omega) (by omega), n_in (by omega) (by omega), k⟩
  · rw [if_pos (by omega)] at k
    exact k
theorem s_movement {n m : Nat} {w : Wd} {S : Sv} {Q : Int32 → Prop} (hS : wf S) (h : dA n w S) (hm : m < nM S) (k : Q (iI (mvd S m))) : wp_X0_movement n (nI m) w Q := by
  have hmm := hS.m
  have hk := hS.k hm
  obtain ⟨-, -, -, -, s1, s2⟩ := hS.s
  unfold wp_X0_movement
  rw [n_cl (by omega), h.1.2.2.1 m hm, kn_m1 hS hm]
  unfold mvd at k
  refine ⟨n_in (by omega) (by omega), fun z => ?_, fun z => s_isThere hS h hm (fun c => ⟨fun _ => ?_, fun x => absurd x (by decide)⟩) (fun c => ⟨fun x => absurd rfl x, fun _ => ?_⟩)⟩
  · rw [if_pos (Or.inl z)] at k; exact k
  · rw [if_neg (by omega)] at k
    have hb := hgt_bd hS c
    refine s_of hS h hm ?_
    rw [iI_sub, iabs_iI ⟨by omega, by omega⟩, h.1.2.2.2.2 2 (by omega), iI_lt ⟨by omega, by omega⟩ ⟨by omega, by omega⟩, iI_0le ⟨by omega, by omega⟩]
    refine ⟨n_in (by omega) (by omega), fun y => ⟨fun x => ?_, fun x => ?_⟩, fun y => ?_⟩
    · rw [if_neg (by omega), if_neg (by omega)] at k; exact k
    · rw [if_neg (by omega), if_pos (by omega)] at k; exact k
    · rw [if_pos (by omega)] at k; exact k
  · rw [if_pos (Or.inr c)] at k; exact k
theorem mvd_bd (S : Sv) (m : Nat) : 0 ≤ mvd S m ∧ mvd S m ≤ 2 := by
  unfold mvd
  split
  · omega
  · split
    · omega
    · split <;> omega
def nmv (S : Sv) : Nat := ct (fun m => !(mvd S m == 0)) (nM S)
def nth (S : Sv) : Nat := ct (fun m => decide (0 ≤ bs S m)) (nM S)
theorem s_howManyMoved {n : Nat} {w : Wd} {S : Sv} {Q : Int32 → Prop} (hS : wf S) (h : dA n w S) (k : Q (nI (nmv S))) : wp_X0_howManyMoved n w Q := by
  have hmm := hS.m
  unfold wp_X0_howManyMoved wp_X0_howManyMoved_L4
  refine lpAI (B := fun a i K => wp_X0_howManyMoved_B4 n a i w Q K) (fun j a => a = nI (ct (fun m => !(mvd S m == 0)) j)) (nM S) 0 (by omega) (Nat.zero_le _) rfl ?_ ?_
  · rintro j a K hj rfl hK
    have hb := mvd_bd S j
    unfold wp_X0_howManyMoved_B4
    rw [h.1.1, n_le (by omega) (by omega), nI_1, nI_1]
    refine ⟨fun z => absurd z (by omega), fun _ => s_movement hS h hj ?_⟩
    rw [← iI_0, iI_eq ⟨by omega, by omega⟩ ⟨by omega, by omega⟩]
    refine ⟨fun z => hK _ ?_, fun z => hK _ ?_⟩
    · rw [ct, if_neg (by simp [z]), Nat.add_zero]
    · rw [ct, if_pos (by simp [z])]
  · rintro a K rfl
    unfold wp_X0_howManyMoved_B4
    rw [h.1.1]
    exact ⟨fun _ => k, fun z => absurd (Int32.le_refl _) z⟩
theorem s_howManyThere {n : Nat} {w : Wd} {S : Sv} {Q : Int32 → Prop} (hS : wf S) (h : dA n w S) (k : Q (nI (nth S))) : wp_X0_howManyThere n w Q := by
  have hmm := hS.m
  unfold wp_X0_howManyThere wp_X0_howManyThere_L4
  refine lpAI (B := fun a i K => wp_X0_howManyThere_B4 n a i w Q K) (fun j a => a = nI (ct (fun m => decide (0 ≤ bs S m)) j)) (nM S) 0 (by omega) (Nat.zero_le _) rfl ?_ ?_
  · rintro j a K hj rfl hK
    unfold wp_X0_howManyThere_B4
    rw [h.1.1, n_le (by omega) (by omega), nI_1, nI_1]
    refine ⟨fun z => absurd z (by omega), fun _ => s_isThere hS h hj (fun c => ⟨fun z => absurd z (by decide), fun _ => hK _ ?_⟩) (fun c => ⟨fun _ => hK _ ?_, fun z => absurd rfl z⟩)⟩
    · rw [ct, if_pos (decide_eq_true (by omega))]
    · rw [ct, if_neg (by rw [decide_eq_false (by omega)]; decide), Nat.add_zero]
  · rintro a K rfl
    unfold wp_X0_howManyThere_B4
    rw [h.1.1]
    exact ⟨fun _ => k, fun z => absurd (Int32.le_refl _) z⟩
def oMk (S : Sv) (m : Nat) (what : Int32) : Int32 :=
  if what = 0 then iI (kn S m) else if what = 1 then iI (hgt S m) else if what = 2 then nI (net S m) else if what = 3 then iI (mvd S m) else if what = 4 then nI (ct (lgP S m) (nL S)) else if what = 5 then iI (bs S m) else if kn S m = -1 then -1 else nI (ag S m)
theorem s_ofMark {n m : Nat} {what : Int32} {w : Wd} {S : Sv} {Q : Int32 → Prop} (hS : wf S) (h : dA n w S) (hm : m < nM S) (k : Q (oMk S m what)) : wp_X4_ofMark n (nI m) what w Q := by
  have hmm := hS.m
  have hin := n_in (show m < 10 by omega) (by omega)
  unfold wp_X4_ofMark
  rw [n_cl (by omega), h.1.2.2.1 m hm, h.2.1.1 m hm, (h.2.2.2.2.1 m hm).2]
  refine ⟨fun z => ⟨hin, ?_⟩, fun z => ?_, fun z => ⟨hin, ?_⟩, fun z => ?_, fun z => ?_, fun z => ?_, fun z0 z1 z2 z3 z4 z5 => ⟨hin, ?_⟩⟩
  · subst z; exact k
  · subst z
    have k' : Q (iI (hgt S m)) := k
    refine s_isThere hS h hm (fun c => ⟨fun x => absurd x (by decide), fun _ => s_of hS h hm k'⟩) (fun c => ⟨fun _ => ?_, fun x => absurd rfl x⟩)
    rw [(hgt_no hS m).mpr c] at k'; exact k'
  · subst z; exact k
  · subst z; exact s_movement hS h hm k
  · subst z; exact s_legsAt hS h.1 hm k
  · subst z; exact s_baseOf hS h hm k
  · unfold oMk at k
    rw [if_neg z0, if_neg z1, if_neg z2, if_neg z3, if_neg z4, if_neg z5] at k
    exact k
def oLg (S : Sv) (l : Nat) (what : Int32) : Int32 :=
  if what = 0 then nI (fr S l) else if what = 1 then nI (tO S l) else if what = 2 then nI (ln S l) else if what = 3 then iI (df S l + 100000) else if what = 4 then iI (df S l + cor S l + 100000) else if what = 5 then iI (cor S l + 100000) else if what = 6 then b32 (tr S l) else if what = 7 then iI (ff (fun k => cl S k == l) (nlp S)) else if what = 8 then nI (hwl S l) else nI (hbl S l)
theorem s_ofLeg {n l : Nat} {what : Int32} {w : Wd} {S : Sv} {Q : Int32 → Prop} (hS : wf S) (h : dA n w S) (hl : l < nL S) (k : Q (oLg S l what)) : wp_X4_ofLeg n (nI l) what w Q := by
  have hll := hS.l
  have hin := n_in (show l < 20 by omega) (by omega)
  obtain ⟨a, b, c, d⟩ := h.1.2.2.2.1 l hl
  unfold wp_X4_ofLeg
  rw [n_cl (by omega), a, b, c, d, h.2.2.2.1.1 l hl, show (100000 : Int32) = iI 100000 from rfl, iI_add, iI_add, iI_add, iI_add]
  refine ⟨fun z => ⟨hin, ?_⟩, fun z => ⟨hin, ?_⟩, fun z => ⟨hin, ?_⟩, fun z => ⟨hin, ?_⟩, fun z => ⟨hin, hin, ?_⟩, fun z => ⟨hin, ?_⟩, fun z => ?_, fun z => ?_, fun z => ?_, fun z0 z1 z2 z3 z4 z5 z6 z7 z8 => ?_⟩
  · subst z; exact k
  · subst z; exact k
  · subst z; exact k
  · subst z; exact k
  · subst z; exact k
  · subst z; exact k
  · subst z
    have k' : Q (b32 (tr S l)) := k
    refine s_isIn h.2.1.2.2.1 (by omega) (fun hp => ⟨fun x => absurd x (by decide), fun _ => ?_⟩) (fun hp => ⟨fun _ => ?_, fun x => absurd rfl x⟩)
    · rw [hp] at k'; exact k'
    · rw [hp] at k'; exact k'
  · subst z; exact s_closedBy hS h.2.2.1 hl k
  · subst z; exact s_howManyWith hS h.2.2.1 hl k
  · unfold oLg at k
    rw [if_neg z0, if_neg z1, if_neg z2, if_neg z3, if_neg z4, if_neg z5, if_neg z6, if_neg z7, if_neg z8] at k
    exact s_howManyBadWith hS h.2.2.1 hl k
def wyP (S : Sv) (a b l : Nat) : Bool := tT S a l ^^ tT S b l
theorem wyP_lt {S : Sv} (hS : wf S) {a b l : Nat} (h : wyP S a b l = true) : l < nL S := by
  unfold wyP at h
  cases q : tT S a l
  · cases q2 : tT S b l
    · rw [q, q2] at h; cases h
    · exact tr_lt (tT_tr hS q2)
  · exact tr_lt (tT_tr hS q)
def oWy (S : Sv) (a b : Nat) (what : Int32) : Int32 :=
  if net S a = net S b then (if what = 0 then nI (ct (wyP S a b) 20) else if what = 1 then iI (sm (fun l => if wyP S a b l = true then (ln S l : Int) else 0) (nL S)) else if what = 2 then iI (rise S b - rise S a + 1000000) else iI (fstL S (wyP S a b) a (nL S))) else -1
theorem s_ofWay {n a b : Nat} {what : Int32} {w : Wd} {S : Sv} {Q : Int32 → Prop} (hS : wf S) (h : dA n w S) (ha : a < nM S) (hb : b < nM S) (k : Q (oWy S a b what)) : wp_X4_ofWay n (nI a) (nI b) what w Q := by
  have hmm := hS.m
  have hll := hS.l
  have ia := n_in (show a < 10 by omega) (by omega)
  have ib := n_in (show b < 10 by omega) (by omega)
  have na := net_le hS a
  have nb := net_le hS b
  unfold wp_X4_ofWay
  rw [n_cl (show a < 2147483648 by omega), n_cl (show b < 2147483648 by omega), h.2.1.1 a ha, h.2.1.1 b hb, n_eq (by omega) (by omega)]
  refine ⟨ia, ib, fun c => ?_, fun c => ?_⟩
  · unfold oWy at k
    rw [if_pos c] at k
    refine s_between hS h.2.1 ha hb (fun x hx => ?_)
    have hx' : bm x (wyP S a b) := hx
    rw [(h.2.2.2.2.1 a ha).1, (h.2.2.2.2.1 b hb).1, show (1000000 : Int32) = iI 1000000 from rfl, iI_sub, iI_add]
    refine ⟨fun z => ?_, fun z => ?_, fun z => ⟨ib, ia, ?_⟩, fun z0 z1 z2 => ?_⟩
    · subst z
      refine bitc hx' (fun i hi => ?_) k
      cases q : wyP S a b i
      · rfl
      · have := wyP_lt hS q; omega
    · subst z; exact s_lengthOf hS h.1 hx' k
    · subst z; exact k
    · rw [if_neg z0, if_neg z1, if_neg z2] at k
      exact s_legAt hS h.1 ha hx' k
  · unfold oWy at k
    rw [if_neg c] at k
    exact k
