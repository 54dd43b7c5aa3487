/-! THE MODEL: measure, turn, removeLeg, set, append, clearBuffer, undo -/
theorem mea_ins {S : Sv} {l : Nat} {d : Int} (x : Nat) (L : List Nat) : ins (meaL S l d) x L = ins S x L := by
  induction L with
  | nil => rfl
  | cons y t ih =>
    show (if ln S y ≤ ln S x then y :: ins (meaL S l d) x t else x :: y :: t) = _
    rw [ih]; rfl
theorem mea_ord {S : Sv} {l : Nat} {d : Int} (k : Nat) : ordL (meaL S l d) k = ordL S k := by
  induction k with
  | zero => rfl
  | succ k ih =>
    show ins (meaL S l d) k (ordL (meaL S l d) k) = _
    rw [ih, mea_ins]; rfl
theorem mea_oL {S : Sv} {l : Nat} {d : Int} (i : Nat) : oL (meaL S l d) i = oL S i := by
  show (ordL (meaL S l d) (nL S)).getD i 0 = _
  rw [mea_ord]; rfl
theorem mea_krK {S : Sv} {l : Nat} {d : Int} (i : Nat) : krK (meaL S l d) i = krK S i := by
  induction i with
  | zero => rfl
  | succ i ih =>
    show kst (meaL S l d) (krK (meaL S l d) i) (oL (meaL S l d) i) = _
    rw [ih, mea_oL]; rfl
theorem mea_net {S : Sv} {l : Nat} {d : Int} : net (meaL S l d) = net S := by
  show (krK (meaL S l d) (nL S)).1 = _
  rw [mea_krK]; rfl
theorem mea_tr {S : Sv} {l : Nat} {d : Int} : tr (meaL S l d) = tr S := by
  show (krK (meaL S l d) (nL S)).2 = _
  rw [mea_krK]; rfl
theorem mea_hung {S : Sv} {l : Nat} {d : Int} (h : Ht) (m : Nat) : hung (meaL S l d) h m = hung S h m := by
  unfold hung; rw [mea_net]
theorem mea_hst {S : Sv} {l : Nat} {d : Int} (h : Ht) (i : Nat) : hst (meaL S l d) h i = hst S h i := by
  unfold hst
  rw [mea_tr, mea_hung, mea_hung]; rfl
theorem mea_psK {S : Sv} {l : Nat} {d : Int} (h : Ht) (k : Nat) : psK (meaL S l d) h k = psK S h k := by
  induction k with
  | zero => rfl
  | succ k ih =>
    show hst (meaL S l d) (psK (meaL S l d) h k) k = _
    rw [ih, mea_hst]; rfl
theorem mea_hgK {S : Sv} {l : Nat} {d : Int} (r : Nat) : hgK (meaL S l d) r = hgK S r := by
  induction r with
  | zero => rfl
  | succ r ih =>
    show psK (meaL S l d) (hgK (meaL S l d) r) (nL S) = _
    rw [ih, mea_psK]; rfl
theorem mea_hg {S : Sv} {l : Nat} {d : Int} : hg (meaL S l d) = hg S := mea_hgK _
theorem mea_tT {S : Sv} {l : Nat} {d : Int} (m k : Nat) : tT (meaL S l d) m k = tT S m k := by
  unfold tT; rw [mea_hg]
theorem mea_sg0 {S : Sv} {l : Nat} {d : Int} (k : Nat) : sg0 (meaL S l d) k = sg0 S k := by
  unfold sg0 dN; rw [mea_hg]
theorem mea_clL {S : Sv} {l : Nat} {d : Int} (k : Nat) : clL (meaL S l d) k = clL S k := by
  induction k with
  | zero => rfl
  | succ k ih =>
    show (if tr (meaL S l d) k = true then clL (meaL S l d) k else clL (meaL S l d) k ++ [k]) = _
    rw [ih, mea_tr]; rfl
theorem mea_nlp {S : Sv} {l : Nat} {d : Int} : nlp (meaL S l d) = nlp S := by
  show (clL (meaL S l d) (nL S)).length = _
  rw [mea_clL]; rfl
theorem mea_cl {S : Sv} {l : Nat} {d : Int} (k : Nat) : cl (meaL S l d) k = cl S k := by
  show (clL (meaL S l d) (nL S)).getD k 0 = _
  rw [mea_clL]; rfl
theorem mea_sg {S : Sv} {l : Nat} {d : Int} (k i : Nat) : sg (meaL S l d) k i = sg S k i := by
  unfold sg
  rw [mea_cl, mea_sg0, mea_tT, mea_tT]; rfl
theorem mea_mL {w w' : Wd} {S : Sv} {l : Nat} {d : Int} (h : mL w S) (f : fl [33] w w') : mL w' (meaL S l d) := by
  refine ⟨by rw [f.wi (by decide), mea_nlp]; exact h.1, fun k hk => ?_⟩
  rw [mea_nlp] at hk
  obtain ⟨a, b⟩ := h.2 k hk
  exact ⟨by rw [f.wi (by decide), mea_cl]; exact a, fun i hi => by rw [f.wi (by decide), mea_sg]; exact b i hi⟩
theorem m_measure {x y : Int32} {w : Wd} {σ : Ss} {Q : Int32 → Wd → Prop} (h : okM w σ) (k0 : pMeasure σ.1 x y = 0 → ∀ w', kM w w' → wi w' 0 32 0 = nI 0 → okM w' (meaL σ.1 (xN x) y.toInt, psh σ.2.1 σ.1, σ.2.2) → Q (iI (smm σ.1 - smm (meaL σ.1 (xN x) y.toInt) + 1000000)) w') (k1 : pMeasure σ.1 x y ≠ 0 → ∀ r w', kM w w' → wi w' 0 32 0 = nI (pMeasure σ.1 x y) → okM w' σ → Q r w') : wp_X9_measure x y w Q := by
  have hl' := h.1.l
  have pl : pMeasure σ.1 x y < 10 := by unfold pMeasure; split <;> (try split) <;> omega
  have G : ∀ s, s = nI (pMeasure σ.1 x y) → wp_X9_measure_J31 x y s w Q := by
    intro s hs
    unfold wp_X9_measure_J31
    refine m_gate hs pl (fun e w1 q1 => ?_) (fun e w1 q1 => k1 e 0 w1 (kM_fl ((h0_fo q1).1.wide (by decide))) (h0_fo q1).2.2 (h0_ok h q1))
    obtain ⟨f1, o1, t1⟩ := h0_fo q1
    have g1 := h0_ok h q1
    have i1 : iL σ.1 x = true := by
      cases c : iL σ.1 x with
      | true => rfl
      | false => unfold pMeasure at e; rw [if_neg (by rw [c]; decide)] at e; omega
    have i2 : inR y (-9999) 9999 = true := by
      cases c : inR y (-9999) 9999 with
      | true => rfl
      | false => unfold pMeasure at e; rw [if_pos i1, if_neg (by rw [c]; decide)] at e; omega
    obtain ⟨l, l1, rfl⟩ := iL_e h.1 i1
    obtain ⟨v, rfl, v2, v3, v4⟩ := inR_e i2 (by omega) (by omega)
    have em : xN (nI l) = l := xN_nI (by omega)
    rw [em, v2] at k0
    refine m_save g1.1 g1.2.1 g1.2.2.1 (fun w2 f2 o2 h2 => ?_)
    have s2 := sS_fl g1.2.1 f2 (by decide)
    refine m_layOut g1.1 s2 (fun w3 f3 p3 => ?_)
    have s3 := sS_fo s2 f3
    refine m_misses g1.1 s3 p3.2.1 (m_of2 rfl rfl (by omega) (by omega) (fun w4 q4 => ?_))
    rw [n_cl (by omega)] at q4
    have f4 : fl [33] w3 w4 := by rw [q4]; exact fl_rf.sI (by decide)
    have s4 : sS w4 (meaL σ.1 l v) := rw_mea g1.1 s3 l1 (fun i => by
      rw [q4, wi_sI]
      by_cases z : i = 12 + 4 * l + 3
      · rw [if_pos ⟨rfl, rfl, z⟩, if_pos z]
      · rw [if_neg (by omega), if_neg z])
    have wf4 : wf (meaL σ.1 l v) := wf_meaL h.1 ⟨v3, v4⟩
    refine m_misses wf4 s4 (mea_mL p3.2.1 f4) ?_
    rw [iI_sub, show (1000000 : Int32) = iI 1000000 from rfl, iI_add]
    refine k0 e w4 ?_ ?_ ⟨wf4, s4, ?_, ?_⟩
    · exact kM_fl ((((f1.wide (by decide)).tr (f2.wide (by decide))).tr (fo_all f3)).tr (f4.wide (by decide)))
    · rw [f4.wi (by decide), f3.2 0 (by omega), o2 0 (by omega), t1, e]
    · exact mH_fl (mH_fl h2 f3.1 (by decide) (f3.2 4 (by omega))) f4 (by decide) (f4.wi (by decide) 4)
    · exact mX_of g1.2.2.2 (by rw [f4.wi (by decide), f3.2 6 (by omega), o2 6 (by omega)]) (fun i => by rw [f4.wi (by decide), f3.1.wi (by decide), f2.wi (by decide)])
  unfold wp_X9_measure
  refine m_isLeg h.1 h.2.1 (fun c => ⟨fun _ => m_in2 (-9999) 9999 rfl rfl ⟨by omega, by omega⟩ ⟨by omega, by omega⟩ (fun d => ⟨fun _ => G _ ?_, fun z => absurd z (by decide)⟩) (fun d => ⟨fun z => absurd rfl z, fun _ => G _ ?_⟩), fun z => absurd z (by decide)⟩) (fun c => ⟨fun z => absurd rfl z, fun _ => G _ ?_⟩)
  · unfold pMeasure; rw [if_pos c, if_pos d]; rfl
  · unfold pMeasure; rw [if_pos c, if_neg (by rw [d]; decide)]; rfl
  · unfold pMeasure; rw [if_neg (by rw [c]; decide)]; rfl
theorem m_turn {x : Int32} {w : Wd} {σ : Ss} {Q : Int32 → Wd → Prop} (h : okM w σ) (k0 : pLeg1 σ.1 x = 0 → ∀ w', kM w w' → wi w' 0 32 0 = nI 0 → okM w' (turL σ.1 (xN x), psh σ.2.1 σ.1, σ.2.2) → Q (nI (tO σ.1 (xN x))) w') (k1 : pLeg1 σ.1 x ≠ 0 → ∀ r w', kM w w' → wi w' 0 32 0 = nI (pLeg1 σ.1 x) → okM w' σ → Q r w') : wp_X9_turn x w Q := by
  have hl' := h.1.l
  have pl : pLeg1 σ.1 x < 10 := by unfold pLeg1; split <;> omega
  have G : ∀ s, s = nI (pLeg1 σ.1 x) → wp_X9_turn_J14 x s w Q := by
    intro s hs
    unfold wp_X9_turn_J14
    refine m_gate hs pl (fun e w1 q1 => ?_) (fun e w1 q1 => k1 e 0 w1 (kM_fl ((h0_fo q1).1.wide (by decide))) (h0_fo q1).2.2 (h0_ok h q1))
    obtain ⟨f1, o1, t1⟩ := h0_fo q1
    have g1 := h0_ok h q1
    have i1 : iL σ.1 x = true := by
      cases c : iL σ.1 x with
      | true => rfl
      | false => unfold pLeg1 at e; rw [if_neg (by rw [c]; decide)] at e; omega
    obtain ⟨l, l1, rfl⟩ := iL_e h.1 i1
    have em : xN (nI l) = l := xN_nI (by omega)
    rw [em] at k0
    refine m_save g1.1 g1.2.1 g1.2.2.1 (fun w2 f2 o2 h2 => ?_)
    have s2 := sS_fl g1.2.1 f2 (by decide)
    obtain ⟨a2, b2, c2, d2⟩ := s2.2.2.2.1 l l1
    refine m_of2 rfl rfl (by omega) (by omega) (m_of (c := 0) (m_of2 rfl rfl (by omega) (by omega) ⟨n_in (by omega) (by omega), fun w3 q3 => ?_⟩))
    rw [n_cl (by omega), n_cl (by omega), b2] at q3
    refine m_of2 rfl rfl (by omega) (by omega) (fun w4 q4 => ?_)
    rw [n_cl (by omega), n_cl (by omega), show wi w2 0 33 (12 + 4 * l + 0) = nI (fr σ.1 l) from a2] at q4
    refine m_of (c := 3) (m_of2 rfl rfl (by omega) (by omega) ⟨n_in (by omega) (by omega), fun w5 q5 => ?_⟩)
    have e5 : wi w4 0 33 (12 + 4 * l + 3) = iI (df σ.1 l) := by
      rw [q4, wi_sI, if_neg (by omega), q3, wi_sI, if_neg (by omega)]; exact d2
    rw [n_cl (by omega), e5, iI_neg] at q5
    refine m_of2 rfl rfl (by omega) (by omega) ?_
    have e6 : wi w5 0 33 (12 + 4 * l + 0) = nI (tO σ.1 l) := by
      rw [q5, wi_sI, if_neg (by omega), q4, wi_sI, if_neg (by omega), q3, wi_sI, if_pos ⟨rfl, rfl, rfl⟩]
    rw [n_cl (by omega), e6]
    have f5 : fl [33] w2 w5 := by rw [q5, q4, q3]; exact ((fl_rf.sI (by decide)).sI (by decide)).sI (by decide)
    refine k0 e w5 ?_ ?_ ⟨wf_turL h.1 l1, ?_, mH_fl h2 f5 (by decide) (f5.wi (by decide) 4), ?_⟩
    · exact kM_fl (((f1.wide (by decide)).tr (f2.wide (by decide))).tr (f5.wide (by decide)))
    · rw [f5.wi (by decide), o2 0 (by omega), t1, e]
    · refine rw_tur g1.1 s2 l1 (fun i => ?_)
      rw [q5, wi_sI]
      by_cases y3 : i = 12 + 4 * l + 3
      · rw [if_pos ⟨rfl, rfl, y3⟩, if_neg (by omega), if_neg (by omega), if_pos y3]
      · rw [if_neg (by omega), q4, wi_sI]
        by_cases y1 : i = 12 + 4 * l + 1
        · rw [if_pos ⟨rfl, rfl, y1⟩, if_neg (by omega), if_pos y1]
        · rw [if_neg (by omega), q3, wi_sI]
          by_cases y0 : i = 12 + 4 * l
          · rw [if_pos ⟨rfl, rfl, by omega⟩, if_pos y0]
          · rw [if_neg (by omega), if_neg y0, if_neg y1, if_neg y3]
    · exact mX_of g1.2.2.2 (by rw [f5.wi (by decide), o2 6 (by omega)]) (fun i => by rw [f5.wi (by decide), f2.wi (by decide)])
  unfold wp_X9_turn
  refine m_isLeg h.1 h.2.1 (fun c => ⟨fun z => absurd z (by decide), fun _ => G _ ?_⟩) (fun c => ⟨fun _ => G _ ?_, fun z => absurd rfl z⟩)
  · unfold pLeg1; rw [if_pos c]; rfl
  · unfold pLeg1; rw [if_neg (by rw [c]; decide)]; rfl
theorem m_removeLeg {x : Int32} {w : Wd} {σ : Ss} {Q : Int32 → Wd → Prop} (h : okM w σ) (k0 : pLeg1 σ.1 x = 0 → ∀ w', kM w w' → wi w' 0 32 0 = nI 0 → okM w' (drpL σ.1 (xN x), psh σ.2.1 σ.1, σ.2.2) → Q (nI (nlp (drpL σ.1 (xN x)))) w') (k1 : pLeg1 σ.1 x ≠ 0 → ∀ r w', kM w w' → wi w' 0 32 0 = nI (pLeg1 σ.1 x) → okM w' σ → Q r w') : wp_X9_removeLeg x w Q := by
  have hl' := h.1.l
  have pl : pLeg1 σ.1 x < 10 := by unfold pLeg1; split <;> omega
  have G : ∀ s, s = nI (pLeg1 σ.1 x) → wp_X9_removeLeg_J14 x s w Q := by
    intro s hs
    unfold wp_X9_removeLeg_J14
    refine m_gate hs pl (fun e w1 q1 => ?_) (fun e w1 q1 => k1 e 0 w1 (kM_fl ((h0_fo q1).1.wide (by decide))) (h0_fo q1).2.2 (h0_ok h q1))
    obtain ⟨f1, o1, t1⟩ := h0_fo q1
    have g1 := h0_ok h q1
    have i1 : iL σ.1 x = true := by
      cases c : iL σ.1 x with
      | true => rfl
      | false => unfold pLeg1 at e; rw [if_neg (by rw [c]; decide)] at e; omega
    obtain ⟨l, l1, rfl⟩ := iL_e h.1 i1
    have em : xN (nI l) = l := xN_nI (by omega)
    rw [em] at k0
    refine m_save g1.1 g1.2.1 g1.2.2.1 (fun w2 f2 o2 h2 => ?_)
    refine m_remove g1.1 (sS_fl g1.2.1 f2 (by decide)) l1 (fun w3 f3 s3 => ?_)
    have wf3 := wf_drpL h.1 l1
    refine m_layOut wf3 s3 (fun w4 f4 p4 => ?_)
    rw [p4.2.1.1]
    refine k0 e w4 ?_ ?_ ⟨wf3, sS_fo s3 f4, ?_, ?_⟩
    · exact kM_fl ((((f1.wide (by decide)).tr (f2.wide (by decide))).tr (f3.wide (by decide))).tr (fo_all f4))
    · rw [f4.2 0 (by omega), f3.wi (by decide), o2 0 (by omega), t1, e]
    · exact mH_fl (mH_fl h2 f3 (by decide) (f3.wi (by decide) 4)) f4.1 (by decide) (f4.2 4 (by omega))
    · exact mX_of g1.2.2.2 (by rw [f4.2 6 (by omega), f3.wi (by decide), o2 6 (by omega)]) (fun i => by rw [f4.1.wi (by decide), f3.wi (by decide), f2.wi (by decide)])
  unfold wp_X9_removeLeg
  refine m_isLeg h.1 h.2.1 (fun c => ⟨fun z => absurd z (by decide), fun _ => G _ ?_⟩) (fun c => ⟨fun _ => G _ ?_, fun z => absurd rfl z⟩)
  · unfold pLeg1; rw [if_pos c]; rfl
  · unfold pLeg1; rw [if_neg (by rw [c]; decide)]; rfl
theorem m_set {x y : Int32} {w : Wd} {σ : Ss} {Q : Int32 → Wd → Prop} (h : okM w σ) (k0 : pSet x y = 0 → ∀ w', kM w w' → wi w' 0 32 0 = nI 0 → okM w' (setS σ.1 (xN x) y.toInt, psh σ.2.1 σ.1, σ.2.2) → Q (iI (st σ.1 (xN x))) w') (k1 : pSet x y ≠ 0 → ∀ r w', kM w w' → wi w' 0 32 0 = nI (pSet x y) → okM w' σ → Q r w') : wp_X9_set x y w Q := by
  have pl : pSet x y < 10 := by unfold pSet; split <;> (try split) <;> (try split) <;> omega
  have G : ∀ s, s = nI (pSet x y) → wp_X9_set_J40 x y s w Q := by
    intro s hs
    unfold wp_X9_set_J40
    refine m_gate hs pl (fun e w1 q1 => ?_) (fun e w1 q1 => k1 e 0 w1 (kM_fl ((h0_fo q1).1.wide (by decide))) (h0_fo q1).2.2 (h0_ok h q1))
    obtain ⟨f1, o1, t1⟩ := h0_fo q1
    have g1 := h0_ok h q1
    have i1 : inR x 0 2 = true := by
      cases c : inR x 0 2 with
      | true => rfl
      | false => unfold pSet at e; rw [if_neg (by rw [c]; decide)] at e; omega
    have i2 : inR y 0 (if x = 2 then 999 else 99) = true := by
      cases c : inR y 0 (if x = 2 then 999 else 99) with
      | true => rfl
      | false => unfold pSet at e; rw [if_pos i1, if_neg (by rw [c]; decide)] at e; omega
    obtain ⟨u, rfl, u2, u3, u4⟩ := inR_e i1 (by omega) (by omega)
    obtain ⟨v, rfl, v2, v3, v4⟩ := inR_e i2 (by omega) (by split <;> omega)
    obtain ⟨j, rfl⟩ : ∃ j : Nat, u = (j : Int) := ⟨u.toNat, by omega⟩
    have ej : xN (iI (j : Int)) = j := by unfold xN; rw [u2]; rfl
    rw [ej, v2] at k0
    refine m_save g1.1 g1.2.1 g1.2.2.1 (fun w2 f2 o2 h2 => ?_)
    have s2 := sS_fl g1.2.1 f2 (by decide)
    rw [iI_nat, show (92 : Int32) = nI 92 from rfl, nI_add, n_cl (by omega), s2.2.2.2.2 j (by omega)]
    refine ⟨n_in (by omega) (by omega), n_in (by omega) (by omega), fun w3 q3 => ?_⟩
    have f3 : fl [33] w2 w3 := by rw [q3]; exact fl_rf.sI (by decide)
    have h2j : iI (j : Int) = (2 : Int32) ↔ j = 2 := by rw [iI_nat, show (2 : Int32) = nI 2 from rfl, n_eq (by omega) (by omega)]
    refine k0 e w3 ?_ ?_ ⟨?_, ?_, mH_fl h2 f3 (by decide) (f3.wi (by decide) 4), ?_⟩
    · exact kM_fl (((f1.wide (by decide)).tr (f2.wide (by decide))).tr (f3.wide (by decide)))
    · rw [f3.wi (by decide), o2 0 (by omega), t1, e]
    · by_cases z : j = 2
      · rw [if_pos (h2j.mpr z)] at v4
        exact wf_setS h.1 v3 v4 (Or.inl z)
      · rw [if_neg (fun y => z (h2j.mp y))] at v4
        exact wf_setS h.1 v3 (by omega) (Or.inr v4)
    · refine rw_set h.1 s2 (fun i => ?_)
      rw [q3, wi_sI]
      by_cases z : i = 92 + j
      · rw [if_pos ⟨rfl, rfl, z⟩, if_pos z]
      · rw [if_neg (by omega), if_neg z]
    · exact mX_of g1.2.2.2 (by rw [f3.wi (by decide), o2 6 (by omega)]) (fun i => by rw [f3.wi (by decide), f2.wi (by decide)])
  unfold wp_X9_set wp_X9_set_J29
  refine m_in2 0 2 rfl rfl ⟨by omega, by omega⟩ ⟨by omega, by omega⟩ (fun c => ⟨fun _ => ⟨fun t => ?_, fun t => ?_⟩, fun z => absurd z (by decide)⟩) (fun c => ⟨fun z => absurd rfl z, fun _ => G _ ?_⟩)
  · refine m_in2 0 99 rfl rfl ⟨by omega, by omega⟩ ⟨by omega, by omega⟩ (fun d => ⟨fun _ => G _ ?_, fun z => absurd z (by decide)⟩) (fun d => ⟨fun z => absurd rfl z, fun _ => G _ ?_⟩)
    · unfold pSet; rw [if_pos c, if_neg t, if_pos d]; rfl
    · unfold pSet; rw [if_pos c, if_neg t, if_neg (by rw [d]; decide)]; rfl
  · refine m_in2 0 999 rfl rfl ⟨by omega, by omega⟩ ⟨by omega, by omega⟩ (fun d => ⟨fun _ => G _ ?_, fun z => absurd z (by decide)⟩) (fun d => ⟨fun z => absurd rfl z, fun _ => G _ ?_⟩)
    · unfold pSet; rw [if_pos c, if_pos t, if_pos d]; rfl
    · unfold pSet; rw [if_pos c, if_pos t, if_neg (by rw [d]; decide)]; rfl
  · unfold pSet; rw [if_neg (by rw [c]; decide)]; rfl
theorem m_append {x : Int32} {w : Wd} {σ : Ss} {Q : Int32 → Wd → Prop} (h : okM w σ) (k0 : pAppend σ.2.2 x = 0 → ∀ w', kM w w' → wi w' 0 32 0 = nI 0 → okM w' (σ.1, σ.2.1, putT σ.2.2 x) → Q (nI (σ.2.2.1 + 1)) w') (k1 : pAppend σ.2.2 x ≠ 0 → ∀ r w', kM w w' → wi w' 0 32 0 = nI (pAppend σ.2.2 x) → okM w' σ → Q r w') : wp_X9_append x w Q := by
  have ht := h.2.2.2.2.1
  have pl : pAppend σ.2.2 x < 10 := by unfold pAppend; split <;> (try split) <;> omega
  have G : ∀ s, s = nI (pAppend σ.2.2 x) → wp_X9_append_J30 x s w Q := by
    intro s hs
    unfold wp_X9_append_J30
    refine m_gate hs pl (fun e w1 q1 => ?_) (fun e w1 q1 => k1 e 0 w1 (kM_fl ((h0_fo q1).1.wide (by decide))) (h0_fo q1).2.2 (h0_ok h q1))
    obtain ⟨f1, o1, t1⟩ := h0_fo q1
    have g1 := h0_ok h q1
    have i1 : inR x 33 126 = true := by
      cases c : inR x 33 126 with
      | true => rfl
      | false => unfold pAppend at e; rw [if_neg (by rw [c]; decide)] at e; omega
    have i2 : σ.2.2.1 < 60 := by
      by_cases z : σ.2.2.1 < 60
      · exact z
      · unfold pAppend at e; rw [if_pos i1, if_neg z] at e; omega
    obtain ⟨x1, x2, x3⟩ := g1.2.2.2
    rw [x1, n_cl (by omega)]
    refine ⟨n_in (by omega) (by omega), fun w2 q2 w3 q3 => ?_⟩
    have e6 : wi w2 0 32 6 = nI σ.2.2.1 := by rw [q2, wi_sI, if_neg (by omega)]; exact x1
    rw [e6, nI_1] at q3
    have f3 : fl [32, 36] w1 w3 := by rw [q3, q2]; exact (fl_rf.sI (by decide)).sI (by decide)
    have e7 : wi w3 0 32 6 = nI (σ.2.2.1 + 1) := by rw [q3, wi_sI, if_pos ⟨rfl, rfl, rfl⟩]
    have o3 : ∀ j, j ≠ 6 → wi w3 0 32 j = wi w1 0 32 j := fun j hj => by rw [q3, wi_sI, if_neg (by omega), q2, wi_sI, if_neg (by omega)]
    rw [e7]
    refine k0 e w3 ?_ ?_ ⟨h.1, sS_fl g1.2.1 f3 (by decide), mH_fl g1.2.2.1 f3 (by decide) (o3 4 (by omega)), ⟨e7, by show σ.2.2.1 + 1 ≤ 60; omega, fun i hi => ?_⟩⟩
    · exact kM_fl ((f1.wide (by decide)).tr (f3.wide (by decide)))
    · rw [o3 0 (by omega), t1, e]
    · have hi' : i < σ.2.2.1 + 1 := hi
      show _ = if i = σ.2.2.1 then x else σ.2.2.2 i
      rw [q3, wi_sI, if_neg (by omega), q2, wi_sI]
      by_cases z : i = σ.2.2.1
      · rw [if_pos ⟨rfl, rfl, z⟩, if_pos z]
      · rw [if_neg (by omega), if_neg z]; exact x3 i (by omega)
  unfold wp_X9_append
  refine m_in2 33 126 rfl rfl ⟨by omega, by omega⟩ ⟨by omega, by omega⟩ (fun c => ⟨fun _ => ?_, fun z => absurd z (by decide)⟩) (fun c => ⟨fun z => absurd rfl z, fun _ => G _ ?_⟩)
  · rw [h.2.2.2.1, show (60 : Int32) = nI 60 from rfl, n_eq (by omega) (by omega)]
    refine ⟨fun z => G _ ?_, fun z => G _ ?_⟩
    · unfold pAppend; rw [if_pos c, if_pos (by omega)]; rfl
    · unfold pAppend; rw [if_pos c, if_neg (by omega)]; rfl
  · unfold pAppend; rw [if_neg (by rw [c]; decide)]; rfl
theorem m_clearBuffer {w : Wd} {σ : Ss} {Q : Int32 → Wd → Prop} (h : okM w σ) (k0 : ∀ w', kM w w' → okM w' (σ.1, σ.2.1, (0, σ.2.2.2)) → Q (nI σ.2.2.1) w') : wp_X9_clearBuffer w Q := by
  unfold wp_X9_clearBuffer
  intro w1 q1 w2 q2
  obtain ⟨f1, o1, t1⟩ := h0_fo q1
  have g1 := h0_ok h q1
  rw [g1.2.2.2.1]
  have f2 : fl [32] w1 w2 := by rw [q2]; exact fl_rf.sI (by decide)
  refine k0 w2 (kM_fl ((f1.wide (by decide)).tr (f2.wide (by decide)))) ⟨h.1, sS_fl g1.2.1 f2 (by decide), mH_fl g1.2.2.1 f2 (by decide) (by rw [q2, wi_sI, if_neg (by omega)]), ⟨by rw [q2, wi_sI, if_pos ⟨rfl, rfl, rfl⟩]; rfl, by show 0 ≤ 60; omega, fun i hi => absurd hi (Nat.not_lt_zero _)⟩⟩
theorem m_undo {w : Wd} {σ : Ss} {Q : Int32 → Wd → Prop} (h : okM w σ) (k0 : pUndo σ.2.1 = 0 → ∀ w', kM w w' → wi w' 0 32 0 = nI 0 → okM w' (σ.2.1.2 (σ.2.1.1 - 1), (σ.2.1.1 - 1, σ.2.1.2), σ.2.2) → Q (nI (σ.2.1.1 - 1)) w') (k1 : pUndo σ.2.1 ≠ 0 → ∀ r w', kM w w' → wi w' 0 32 0 = nI (pUndo σ.2.1) → okM w' σ → Q r w') : wp_X9_undo w Q := by
  have pl : pUndo σ.2.1 < 10 := by unfold pUndo; split <;> omega
  have hh := h.2.2.1.2.1
  have G : ∀ s, s = nI (pUndo σ.2.1) → wp_X9_undo_J13 s w Q := by
    intro s hs
    unfold wp_X9_undo_J13
    refine m_gate hs pl (fun e w1 q1 => ?_) (fun e w1 q1 => k1 e 0 w1 (kM_fl ((h0_fo q1).1.wide (by decide))) (h0_fo q1).2.2 (h0_ok h q1))
    obtain ⟨f1, o1, t1⟩ := h0_fo q1
    obtain ⟨g0, g1, ⟨g2, g3, g4⟩, g5⟩ := h0_ok h q1
    have hp : 0 < σ.2.1.1 := by
      by_cases z : 0 < σ.2.1.1
      · exact z
      · unfold pUndo at e; rw [if_neg z] at e; omega
    intro w2 q2
    rw [g2, show (1 : Int32) = nI 1 from rfl, pk_sub (by omega)] at q2
    have f2 : fl [32] w1 w2 := by rw [q2]; exact fl_rf.sI (by decide)
    have o2 : ∀ j, j ≠ 4 → wi w2 0 32 j = wi w1 0 32 j := fun j hj => by rw [q2, wi_sI, if_neg (by omega)]
    have e4 : wi w2 0 32 4 = nI (σ.2.1.1 - 1) := by rw [q2, wi_sI, if_pos ⟨rfl, rfl, rfl⟩]
    unfold wp_X9_undo_L33
    refine lpIA (B := fun i v K => wp_X9_undo_B33 i v Q K) (fun j v => fl [33] w2 v ∧ ∀ i, i < j → wi v 0 33 i = wi w2 0 35 (95 * (σ.2.1.1 - 1) + i)) 95 0 (by omega) (by omega) ⟨fl_rf, fun i hi => absurd hi (by omega)⟩ ?_ ?_
    · rintro j v K hj ⟨fv, av⟩ hK
      unfold wp_X9_undo_B33
      rw [fv.wi (by decide), e4, show (95 : Int32) = nI 95 from rfl, n_le (by omega) (by omega), pk_mul, nI_add, n_cl (show j < 2147483648 by omega), n_cl (show 95 * (σ.2.1.1 - 1) + j < 2147483648 by omega), nI_1 j, fv.wi (by decide)]
      refine ⟨fun z => absurd z (by omega), fun _ => ⟨n_in (by omega) (by omega), n_in (by omega) (by omega), fun v1 r1 => hK v1 ⟨by rw [r1]; exact fv.sI (by decide), fun i hi => ?_⟩⟩⟩
      rw [r1, wi_sI]
      by_cases z : i = j
      · rw [if_pos ⟨rfl, rfl, z⟩, z]
      · rw [if_neg (by omega)]; exact av i (by omega)
    · rintro v K ⟨fv, av⟩
      unfold wp_X9_undo_B33
      refine ⟨fun _ => ?_, fun z => absurd (Int32.le_refl _) z⟩
      have e4' : wi v 0 32 4 = nI (σ.2.1.1 - 1) := (fv.wi (by decide) 4).trans e4
      rw [e4']
      have gi := g4 (σ.2.1.1 - 1) (by omega)
      have gv : ∀ k, wi v 0 35 k = wi w1 0 35 k := fun k => by rw [fv.wi (by decide), f2.wi (by decide)]
      refine k0 e v ?_ ?_ ⟨gi.1, mRw_of gi.1 gi.2 (fun k hk => ?_), ⟨e4', by show σ.2.1.1 - 1 ≤ 6; omega, fun i hi => ?_⟩, mX_of g5 (by rw [fv.wi (by decide), o2 6 (by omega)]) (fun i => by rw [fv.wi (by decide), f2.wi (by decide)])⟩
      · exact kM_fl (((f1.wide (by decide)).tr (f2.wide (by decide))).tr (fv.wide (by decide)))
      · rw [fv.wi (by decide), o2 0 (by omega), t1, e]
      · rw [av k hk, f2.wi (by decide)]
      · have hi' : i < σ.2.1.1 - 1 := hi
        have gj := g4 i (by omega)
        exact ⟨gj.1, mRw_of gj.1 gj.2 (fun k _ => gv _)⟩
  unfold wp_X9_undo
  rw [h.2.2.1.1, nI_iI, iI_le0 ⟨by omega, by omega⟩]
  refine ⟨fun z => G _ ?_, fun z => G _ ?_⟩
  · unfold pUndo; rw [if_neg (by omega)]; rfl
  · unfold pUndo; rw [if_pos (by omega)]; rfl
