/-! THE CLASS: Loops, closing -/
def gnF (S : Sv) (c : Nat → Int) (F W : Nat → Bool) (l : Nat) : Int := if F l = true then (if W l = true then df S l + c l else -(df S l + c l)) else 0
theorem s_goneAlong {n k : Nat} {w : Wd} {S : Sv} {c : Nat → Int} {F W : Nat → Bool} {Q : Int32 → Prop} (hS : wf S) (h : rS n w S) (hk : k < 20) (hF : bm (wi w n 15 k) F) (hW : bm (wi w n 17 k) W) (hc : ∀ l, l < nL S → wi w n 13 l = iI (c l)) (q : Q (iI (sm (gnF S c F W) (nL S)))) : wp_X2_goneAlong n (nI k) w Q := by
  have hl := hS.l
  obtain ⟨h1, h2, h3, h4, h5⟩ := id h
  unfold wp_X2_goneAlong wp_X2_goneAlong_L4
  refine lpAI (B := fun a i K => wp_X2_goneAlong_B4 n (nI k) a i w Q K) (fun j a => a = iI (sm (gnF S c F W) j)) (nL S) 0 (by omega) (Nat.zero_le _) rfl ?_ ?_
  · rintro j a K hj rfl hK
    unfold wp_X2_goneAlong_B4
    rw [h2, n_le (by omega) (by omega)]
    refine ⟨fun z => absurd z (by omega), fun _ => ⟨n_in hk (by omega), ?_⟩⟩
    rw [n_cl (show k < 2147483648 by omega), n_cl (show j < 2147483648 by omega)]
    refine s_isIn hF (by omega) (fun hp => ⟨fun z => absurd z (by decide), fun _ => ⟨n_in (by omega) (by omega), n_in (by omega) (by omega), n_in hk (by omega), ?_⟩⟩) (fun hp => ⟨fun _ => ?_, fun z => absurd rfl z⟩)
    · rw [(h4 j hj).2.2.1, hc j hj, iI_add]
      refine s_isIn hW (by omega) (fun hq => ⟨fun z => absurd z (by decide), fun _ => ?_⟩) (fun hq => ⟨fun _ => ?_, fun z => absurd rfl z⟩)
      · unfold wp_X2_goneAlong_J68
        rw [iI_add, nI_1]
        refine hK _ ?_
        rw [sm, gnF, if_pos hp, if_pos hq]
      · unfold wp_X2_goneAlong_J68
        rw [iI_neg, iI_add, nI_1]
        refine hK _ ?_
        rw [sm, gnF, if_pos hp, if_neg (by rw [hq]; decide)]
    · rw [nI_1]
      refine hK _ ?_
      rw [sm, gnF, if_neg (by rw [hp]; decide), Int.add_zero]
  · rintro a K rfl
    unfold wp_X2_goneAlong_B4
    rw [h2]
    exact ⟨fun _ => q, fun z => absurd (Int32.le_refl _) z⟩
theorem gnF_sg {S : Sv} {c : Nat → Int} {k : Nat} (l : Nat) : gnF S c (inL S k) (fw S k) l = sg S k l * (df S l + c l) := by
  rw [sg_eq, gnF]
  cases inL S k l <;> cases fw S k l <;> simp
theorem s_allowed {n k : Nat} {w : Wd} {S : Sv} {Q : Int32 → Prop} (hS : wf S) (h : rS n w S) (hk : k < 20) (hl : wi w n 16 k = nI (lenL S k)) (q : Q (iI (alw S k))) : wp_X2_allowed n (nI k) w Q := by
  obtain ⟨h1, h2, h3, h4, h5⟩ := id h
  unfold wp_X2_allowed
  refine ⟨n_in hk (by omega), ?_⟩
  rw [n_cl (by omega), hl, h5 0 (by omega), h5 1 (by omega), nI_iI, iI_mul]
  have hb := lenL_bd hS k
  obtain ⟨a, b, c, d, -⟩ := hS.s
  have e1 : st S 0 * (lenL S k : Int) ≤ 99 * 1980 := Int.mul_le_mul b (by omega) (by omega) (by omega)
  have e2 : 0 ≤ st S 0 * (lenL S k : Int) := Int.mul_nonneg a (by omega)
  have e3 : (st S 0 * (lenL S k : Int)).toNat < 2147483648 := by omega
  have e4 : iI (st S 0 * (lenL S k : Int)) / (10 : Int32) = iI (st S 0 * (lenL S k : Int) / 10) := by
    have z : st S 0 * (lenL S k : Int) = ((st S 0 * (lenL S k : Int)).toNat : Int) := by omega
    rw [z, iI_nat, show (10 : Int32) = nI 10 from rfl, pk_div (by omega) (by omega) (by omega), nI_iI]
    congr 1
  rw [e4, iI_add]
  exact q
theorem s_excess {n k : Nat} {w : Wd} {S : Sv} {Q : Int32 → Prop} (hS : wf S) (h : rS n w S) (hk : k < 20) (hl : wi w n 16 k = nI (lenL S k)) (hm : wi w n 18 k = iI (miss S k)) (q : Q (iI (exc S k))) : wp_X2_excess n (nI k) w Q := by
  have hb := miss_bd hS k
  unfold wp_X2_excess
  refine ⟨n_in hk (by omega), s_allowed hS h hk hl ?_⟩
  rw [n_cl (by omega), hm, iabs_iI ⟨by omega, by omega⟩, iI_sub]
  exact q
theorem exc_bd {S : Sv} (hS : wf S) (k : Nat) : -20000 ≤ exc S k ∧ exc S k ≤ 199980 := by
  have h1 := miss_bd hS k
  have h2 := alw_bd hS k
  unfold exc
  omega
/-- the cells of the loop k -/
def rC (n : Nat) (w : Wd) (S : Sv) (k : Nat) : Prop := wi w n 14 k = nI (cl S k) ∧ bm (wi w n 15 k) (inL S k) ∧ wi w n 16 k = nI (lenL S k) ∧ bm (wi w n 17 k) (fw S k) ∧ wi w n 18 k = iI (miss S k)
theorem rC.of {n k : Nat} {w w' : Wd} {S : Sv} (h : rC n w S k) (e : ∀ o, 14 ≤ o → o ≤ 18 → wi w' n o k = wi w n o k) : rC n w' S k := by
  obtain ⟨a, b, c, d, f⟩ := h
  exact ⟨by rw [e 14 (by omega) (by omega)]; exact a, by rw [e 15 (by omega) (by omega)]; exact b, by rw [e 16 (by omega) (by omega)]; exact c, by rw [e 17 (by omega) (by omega)]; exact d, by rw [e 18 (by omega) (by omega)]; exact f⟩
theorem miss_eq {S : Sv} (k : Nat) : miss S k = sm (gnF S (fun _ => 0) (inL S k) (fw S k)) (nL S) := by
  unfold miss
  refine sm_congr (fun l _ => ?_)
  rw [gnF_sg]
  show _ = sg S k l * (df S l + 0)
  rw [Int.add_zero]
theorem s_closeBy {n c : Nat} {w : Wd} {S : Sv} {Q : Wd → Prop} (hS : wf S) (hr : rS n w S) (hd : dT n w S) (hc : c < nlp S) (hz : ∀ l, l < nL S → wi w n 13 l = iI 0) (h0 : wi w n 12 0 = nI c) (hb : bm (wi w n 12 4) (bdK S c)) (k : ∀ w', fm n 12 18 w w' → wi w' n 12 0 = nI (c + 1) → bm (wi w' n 12 4) (bdK S (c + 1)) → rC n w' S c → (∀ o j, 14 ≤ o → j ≠ c → wi w' n o j = wi w n o j) → (∀ j, wi w' n 13 j = wi w n 13 j) → Q w') : wp_X2_closeBy n (nI (cl S c)) w Q := by
  have hl := hS.l
  have hm := hS.m
  have hcn := nlp_le (S := S)
  obtain ⟨hlt, htr⟩ := cl_lt hc
  obtain ⟨h1, h2, h3, h4, h5⟩ := id hr
  obtain ⟨g1, g2, g3, g4⟩ := hS.g hlt
  obtain ⟨d1, d2, d3, d4⟩ := id hd
  obtain ⟨a1, a2, a3, a4⟩ := h4 _ hlt
  have hin := n_in (show c < 20 by omega) (by omega)
  unfold wp_X2_closeBy
  rw [n_cl (show cl S c < 2147483648 by omega), a1, a2, n_cl (show fr S (cl S c) < 2147483648 by omega), n_cl (show tO S (cl S c) < 2147483648 by omega), h0, n_cl (show c < 2147483648 by omega)]
  refine ⟨n_in (by omega) (by omega), n_in (by omega) (by omega), s_between hS hd g1 g2 (fun x hx => ⟨n_in (by omega) (by omega), n_in (by omega) (by omega), hin, fun w1 q1 => ?_⟩)⟩
  have z1 : wi w1 n 12 0 = nI c := by rw [q1, wi_sI, if_neg (by omega)]; exact h0
  rw [z1, n_cl (show c < 2147483648 by omega)]
  refine ⟨hin, fun w2 q2 => ?_⟩
  have z2 : wi w2 n 12 0 = nI c := by rw [q2, wi_sI, if_neg (by omega)]; exact z1
  have f2 : fm n 12 18 w w2 := by rw [q2, q1]; exact (fm.rf.sI (by omega) (by omega)).sI (by omega) (by omega)
  have b2 : bm (wi w2 n 15 c) (inL S c) := by
    rw [q2, wi_sI, if_pos ⟨rfl, rfl, rfl⟩]
    refine bm_congr (bm_or hx (bm_bit (cl S c) (by omega))) (fun i => ?_)
    unfold inL
    rw [Bool.or_comm]
    congr 1
  rw [z2, n_cl (show c < 2147483648 by omega)]
  refine ⟨hin, s_lengthOf hS (hr.fm f2 (Or.inr (by omega))) b2 ⟨hin, fun w3 q3 => ?_⟩⟩
  rw [← lenL_eq, ← nI_iI] at q3
  have z3 : wi w3 n 12 0 = nI c := by rw [q3, wi_sI, if_neg (by omega)]; exact z2
  have f3 : fm n 12 18 w w3 := by rw [q3]; exact f2.sI (by omega) (by omega)
  rw [z3, n_cl (show c < 2147483648 by omega)]
  refine ⟨hin, fun w4 q4 => ?_⟩
  have z4 : wi w4 n 12 0 = nI c := by rw [q4, wi_sI, if_neg (by omega)]; exact z3
  have f4 : fm n 12 18 w w4 := by rw [q4]; exact f3.sI (by omega) (by omega)
  have b4 : bm (wi w4 n 17 c) (fw S c) := by
    rw [q4, wi_sI, if_pos ⟨rfl, rfl, rfl⟩]
    have e8 : wi w3 n 8 1 = wi w n 8 1 := f3.wi (by omega) 1
    rw [e8]
    refine bm_congr (bm_or (bm_or (bm_bit (cl S c) (by omega)) (bm_and (bm_and hx (d2 _ g1)) d4)) (bm_and (bm_and hx (d2 _ g2)) (bm_not d4))) (fun i => ?_)
    have hi : tT S (tO S (cl S c)) i = true → i < 32 := fun z => by
      have := tr_lt (tT_tr hS z)
      omega
    unfold fw
    rw [show (i == cl S c) = decide (i = cl S c) from rfl]
    by_cases hi2 : i < 32
    · cases decide (i = cl S c) <;> cases tT S (fr S (cl S c)) i <;> cases tT S (tO S (cl S c)) i <;> cases dN S i <;> simp [hi2]
    · have e : tT S (tO S (cl S c)) i = false := by
        cases q : tT S (tO S (cl S c)) i
        · rfl
        · exact absurd (hi q) hi2
      rw [e]
      cases decide (i = cl S c) <;> cases tT S (fr S (cl S c)) i <;> cases dN S i <;> simp
  have r4 : rS n w4 S := hr.fm f4 (Or.inr (by omega))
  have b5 : bm (wi w4 n 15 c) (inL S c) := by
    rw [q4, wi_sI, if_neg (by omega), q3, wi_sI, if_neg (by omega)]; exact b2
  have y4 : ∀ l, l < nL S → wi w4 n 13 l = iI ((fun _ => 0) l) := fun l hl => by
    rw [q4, wi_sI, if_neg (by omega), q3, wi_sI, if_neg (by omega), q2, wi_sI, if_neg (by omega), q1, wi_sI, if_neg (by omega)]
    exact hz l hl
  rw [z4]
  refine s_goneAlong hS r4 (by omega) b5 b4 y4 ?_
  rw [← miss_eq, n_cl (show c < 2147483648 by omega)]
  refine ⟨hin, fun w5 q5 => ?_⟩
  have z5 : wi w5 n 12 0 = nI c := by rw [q5, wi_sI, if_neg (by omega)]; exact z4
  have f5 : fm n 12 18 w w5 := by rw [q5]; exact f4.sI (by omega) (by omega)
  have r5 : rS n w5 S := hr.fm f5 (Or.inr (by omega))
  have c5 : rC n w5 S c := by
    refine ⟨?_, ?_, ?_, ?_, ?_⟩
    · rw [q5, wi_sI, if_neg (by omega), q4, wi_sI, if_neg (by omega), q3, wi_sI, if_neg (by omega), q2, wi_sI, if_neg (by omega), q1, wi_sI, if_pos ⟨rfl, rfl, rfl⟩]
    · rw [q5, wi_sI, if_neg (by omega)]; exact b5
    · rw [q5, wi_sI, if_neg (by omega), q4, wi_sI, if_neg (by omega), q3, wi_sI, if_pos ⟨rfl, rfl, rfl⟩]
    · rw [q5, wi_sI, if_neg (by omega)]; exact b4
    · rw [q5, wi_sI, if_pos ⟨rfl, rfl, rfl⟩]
  have o5 : ∀ o j, 14 ≤ o → j ≠ c → wi w5 n o j = wi w n o j := fun o j _ hj => by
    rw [q5, wi_sI, if_neg (by omega), q4, wi_sI, if_neg (by omega), q3, wi_sI, if_neg (by omega), q2, wi_sI, if_neg (by omega), q1, wi_sI, if_neg (by omega)]
  have o6 : ∀ j, wi w5 n 13 j = wi w n 13 j := fun j => by
    rw [q5, wi_sI, if_neg (by omega), q4, wi_sI, if_neg (by omega), q3, wi_sI, if_neg (by omega), q2, wi_sI, if_neg (by omega), q1, wi_sI, if_neg (by omega)]
  have y5 : bm (wi w5 n 12 4) (bdK S c) := by
    rw [q5, wi_sI, if_neg (by omega), q4, wi_sI, if_neg (by omega), q3, wi_sI, if_neg (by omega), q2, wi_sI, if_neg (by omega), q1, wi_sI, if_neg (by omega)]
    exact hb
  rw [z5]
  have he := exc_bd hS c
  refine s_excess hS r5 (by omega) c5.2.2.1 c5.2.2.2.2 ⟨fun hq => ?_, fun hq => fun w6 q6 => ?_⟩
  · rw [iI_le0 ⟨by omega, by omega⟩] at hq
    unfold wp_X2_closeBy_J188
    rw [z5, nI_1]
    intro w6 q6
    refine k w6 (by rw [q6]; exact f5.sI (by omega) (by omega)) (by rw [q6, wi_sI, if_pos ⟨rfl, rfl, rfl⟩]) ?_ (c5.of (fun o _ _ => by rw [q6, wi_sI, if_neg (by omega)])) (fun o j ho hj => by rw [q6, wi_sI, if_neg (by omega)]; exact o5 o j ho hj) (fun j => by rw [q6, wi_sI, if_neg (by omega)]; exact o6 j)
    rw [q6, wi_sI, if_neg (by omega)]
    refine bm_congr y5 (fun i => ?_)
    unfold bdK
    by_cases e : i = c
    · subst e
      rw [bad_exc, decide_eq_false (p := 0 < exc S i) (by omega), Bool.and_false, Bool.and_false]
    · rw [decide_eq_decide.mpr (show i < c ↔ i < c + 1 by omega)]
  · rw [iI_le0 ⟨by omega, by omega⟩] at hq
    have z6 : wi w6 n 12 0 = nI c := by rw [q6, wi_sI, if_neg (by omega)]; exact z5
    unfold wp_X2_closeBy_J188
    rw [z6, nI_1]
    intro w7 q7
    refine k w7 (by rw [q7, q6]; exact (f5.sI (by omega) (by omega)).sI (by omega) (by omega)) (by rw [q7, wi_sI, if_pos ⟨rfl, rfl, rfl⟩]) ?_ (c5.of (fun o _ _ => by rw [q7, wi_sI, if_neg (by omega), q6, wi_sI, if_neg (by omega)])) (fun o j ho hj => by rw [q7, wi_sI, if_neg (by omega), q6, wi_sI, if_neg (by omega)]; exact o5 o j ho hj) (fun j => by rw [q7, wi_sI, if_neg (by omega), q6, wi_sI, if_neg (by omega)]; exact o6 j)
    rw [q7, wi_sI, if_neg (by omega), q6, wi_sI, if_pos ⟨rfl, rfl, rfl⟩]
    refine bm_congr (bm_or y5 (bm_bit c (by omega))) (fun i => ?_)
    unfold bdK
    by_cases e : i = c
    · subst e
      rw [bad_exc, decide_eq_true (p := 0 < exc S i) (by omega)]
      simp
    · rw [decide_eq_decide.mpr (show i < c ↔ i < c + 1 by omega), decide_eq_false e, Bool.or_false]
theorem dC_of {n : Nat} {w : Wd} {S : Sv} (h1 : wi w n 12 0 = nI (nlp S)) (h2 : bm (wi w n 12 4) (bdK S (nlp S))) (h3 : ∀ k, k < nlp S → rC n w S k) : dC n w S := ⟨h1, h2, h3⟩
theorem clL_in {S : Sv} {i : Nat} (hi : i < nL S) (ht : tr S i = false) : (clL S i).length < nlp S := by
  obtain ⟨t, e⟩ := clL_pre (S := S) (show i + 1 ≤ nL S by omega)
  have h1 : (clL S (i + 1)) = clL S i ++ [i] := by rw [clL, if_neg (by simp [ht])]
  unfold nlp
  rw [e, h1]
  simp only [List.length_append, List.length_cons, List.length_nil]
  omega
theorem s_close {n : Nat} {w : Wd} {S : Sv} {Q : Wd → Prop} (hS : wf S) (hr : rS n w S) (hd : dT n w S) (k : ∀ w', fm n 12 18 w w' → dC n w' S → (∀ l, l < nL S → wi w' n 13 l = iI 0) → Q w') : wp_X2_close n w Q := by
  have hl := hS.l
  have hcn := nlp_le (S := S)
  unfold wp_X2_close
  intro w1 q1 w2 q2
  have f2 : fm n 12 18 w w2 := by rw [q2, q1]; exact (fm.rf.sI (by omega) (by omega)).sI (by omega) (by omega)
  have a2 : wi w2 n 12 0 = nI 0 := by rw [q2, wi_sI, if_neg (by omega), q1, wi_sI, if_pos ⟨rfl, rfl, rfl⟩]; rfl
  have b2 : wi w2 n 12 4 = 0 := by rw [q2, wi_sI, if_pos ⟨rfl, rfl, rfl⟩]
  unfold wp_X2_close_L12
  refine lpIA (B := fun i v K => wp_X2_close_B12 n i v Q K) (fun j v => fm n 12 18 w v ∧ wi v n 12 0 = nI 0 ∧ wi v n 12 4 = 0 ∧ ∀ l, l < j → wi v n 13 l = iI 0) (nL S) 0 (by omega) (Nat.zero_le _) ⟨f2, a2, b2, fun l h => absurd h (by omega)⟩ ?_ ?_
  · rintro j v K hj ⟨f, a, b, c⟩ hK
    have e1 : wi v n 0 1 = nI (nL S) := (f.wi (by omega) 1).trans hr.2.1
    unfold wp_X2_close_B12
    rw [e1, n_le (by omega) (by omega), n_cl (by omega), nI_1]
    refine ⟨fun z => absurd z (by omega), fun _ => ⟨n_in (by omega) (by omega), fun u q => hK u ⟨by rw [q]; exact f.sI (by omega) (by omega), by rw [q, wi_sI, if_neg (by omega)]; exact a, by rw [q, wi_sI, if_neg (by omega)]; exact b, fun l hl' => ?_⟩⟩⟩
    rw [q, wi_sI]
    by_cases z : l = j
    · rw [if_pos ⟨rfl, rfl, z⟩]; rfl
    · rw [if_neg (by omega)]; exact c l (by omega)
  · rintro v K ⟨f, a, b, c⟩
    have e1 : wi v n 0 1 = nI (nL S) := (f.wi (by omega) 1).trans hr.2.1
    unfold wp_X2_close_B12
    rw [e1]
    refine ⟨fun _ => ?_, fun z => absurd (Int32.le_refl _) z⟩
    unfold wp_X2_close_L38
    refine lpIA (B := fun i v K => wp_X2_close_B38 n i v Q K) (fun j v => fm n 12 18 w v ∧ wi v n 12 0 = nI (clL S j).length ∧ bm (wi v n 12 4) (bdK S (clL S j).length) ∧ (∀ l, l < nL S → wi v n 13 l = iI 0) ∧ ∀ k, k < (clL S j).length → rC n v S k) (nL S) 0 (by omega) (Nat.zero_le _) ⟨f, a, by rw [b]; exact bm_congr bm_0 (fun i => by unfold bdK; rw [show (clL S 0).length = 0 from rfl, decide_eq_false (by omega), Bool.false_and]), c, fun k h => absurd h (by simp [clL])⟩ ?_ ?_
    · rintro j v K hj ⟨f, a, b, c, d⟩ hK
      have e1 : wi v n 0 1 = nI (nL S) := (f.wi (by omega) 1).trans hr.2.1
      have rv : rS n v S := hr.fm f (Or.inr (by omega))
      have dv : dT n v S := hd.fm f (Or.inr (Or.inl (by omega)))
      unfold wp_X2_close_B38
      rw [e1, n_le (by omega) (by omega), nI_1]
      refine ⟨fun z => absurd z (by omega), fun _ => s_isIn dv.2.2.1 (by omega) (fun ht => ⟨fun _ => hK v ⟨f, ?_⟩, fun z => absurd z (by decide)⟩) (fun ht => ⟨fun z => absurd rfl z, fun _ => ?_⟩)⟩
      · rw [clL, if_pos ht]; exact ⟨a, b, c, d⟩
      · have ec := cl_at hj ht
        have ec2 := clL_in hj ht
        have en : (clL S (j + 1)).length = (clL S j).length + 1 := by rw [clL, if_neg (by simp [ht])]; simp
        have := s_closeBy (n := n) (w := v) (Q := fun w65 => K (nI (j + 1)) w65) hS rv dv ec2 c a b (fun u fu a' b' r' o' o2 => hK u ⟨f.tr fu, by rw [en]; exact a', by rw [en]; exact b', fun l hl' => by rw [o2]; exact c l hl', fun k hk => ?_⟩)
        · rw [ec] at this; exact this
        · by_cases z : k = (clL S j).length
          · rw [z]; exact r'
          · exact (d k (by omega)).of (fun o h1 h2 => o' o k h1 z)
    · rintro v K ⟨f, a, b, c, d⟩
      have e1 : wi v n 0 1 = nI (nL S) := (f.wi (by omega) 1).trans hr.2.1
      unfold wp_X2_close_B38
      rw [e1]
      exact ⟨fun _ => k v f (dC_of a b d) c, fun z => absurd (Int32.le_refl _) z⟩
