/-! THE MODEL: its methods that only look -/
theorem iK_e {S : Sv} (hS : wf S) {x : Int32} (h : iK S x = true) : ∃ k, k < nlp S ∧ x = nI k := by
  have hl' := hS.l
  have hn' := nlp_le (S := S)
  obtain ⟨v, hv, e, e2⟩ := of_int x
  have q := of_decide_eq_true h
  rw [e2] at q
  exact ⟨v.toNat, by omega, by rw [e, nI_iI]; congr 1; omega⟩
theorem fo_kM {w w' : Wd} (h : fo w w') : kM w w' := kM_fl (fo_all h)
theorem h0_kM {w w' : Wd} {x : Int32} (q : w' = sI w 0 32 0 x) : kM w w' := kM_fl ((h0_fo q).1.wide (by decide))
theorem f41_fo {w w' : Wd} (h : fl [41] w w') : fo w w' := fl_fo h (by decide) (by decide)
theorem m_mark {x y : Int32} {w : Wd} {σ : Ss} {Q : Int32 → Wd → Prop} (h : okM w σ) (k0 : pMark σ.1 x y = 0 → ∀ w', kM w w' → wi w' 0 32 0 = nI 0 → okM w' σ → Q (oMk σ.1 (xN x) y) w') (k1 : pMark σ.1 x y ≠ 0 → ∀ r w', kM w w' → wi w' 0 32 0 = nI (pMark σ.1 x y) → okM w' σ → Q r w') : wp_X9_mark x y w Q := by
  have hm' := h.1.m
  have pl : pMark σ.1 x y < 10 := by unfold pMark; split <;> (try split) <;> omega
  unfold wp_X9_mark
  refine m_layAll h.1 h.2.1 (fun w0 f0 a0 => ?_)
  have h' := okM_fo h f0
  have G : ∀ s, s = nI (pMark σ.1 x y) → wp_X9_mark_J32 x y s w0 Q := by
    intro s hs
    unfold wp_X9_mark_J32
    refine m_gate2 hs pl (fun e w1 q1 => ?_) (fun e w1 q1 => k1 e 0 w1 ((fo_kM f0).tr (h0_kM q1)) (h0_fo q1).2.2 (h0_ok h' q1))
    have g1 := h0_ok h' q1
    have i1 : iM σ.1 x = true := by
      cases c : iM σ.1 x with
      | true => rfl
      | false => unfold pMark at e; rw [if_neg (by rw [c]; decide)] at e; omega
    obtain ⟨m, m1, rfl⟩ := iM_e h.1 i1
    have em : xN (nI m) = m := xN_nI (by omega)
    rw [em] at k0
    exact m_markOf h.1 g1.2.1 (h0_mA a0 q1) m1 (fun w2 f2 => k0 e w2 (((fo_kM f0).tr (h0_kM q1)).tr (fo_kM (f41_fo f2))) (by rw [f2.wi (by decide), (h0_fo q1).2.2, e]) (okM_fo g1 (f41_fo f2)))
  refine m_isMark h.1 h'.2.1 (fun c => ⟨fun _ => m_in2 0 6 rfl rfl ⟨by omega, by omega⟩ ⟨by omega, by omega⟩ (fun d => ⟨fun _ => G _ ?_, fun z => absurd z (by decide)⟩) (fun d => ⟨fun z => absurd rfl z, fun _ => G _ ?_⟩), fun z => absurd z (by decide)⟩) (fun c => ⟨fun z => absurd rfl z, fun _ => G _ ?_⟩)
  · unfold pMark; rw [if_pos c, if_pos d]; rfl
  · unfold pMark; rw [if_pos c, if_neg (by rw [d]; decide)]; rfl
  · unfold pMark; rw [if_neg (by rw [c]; decide)]; rfl
theorem m_leg {x y : Int32} {w : Wd} {σ : Ss} {Q : Int32 → Wd → Prop} (h : okM w σ) (k0 : pLeg σ.1 x y = 0 → ∀ w', kM w w' → wi w' 0 32 0 = nI 0 → okM w' σ → Q (oLg σ.1 (xN x) y) w') (k1 : pLeg σ.1 x y ≠ 0 → ∀ r w', kM w w' → wi w' 0 32 0 = nI (pLeg σ.1 x y) → okM w' σ → Q r w') : wp_X9_leg x y w Q := by
  have hl' := h.1.l
  have pl : pLeg σ.1 x y < 10 := by unfold pLeg; split <;> (try split) <;> omega
  unfold wp_X9_leg
  refine m_layOut h.1 h.2.1 (fun w0 f0 a0 => ?_)
  have h' := okM_fo h f0
  have G : ∀ s, s = nI (pLeg σ.1 x y) → wp_X9_leg_J32 x y s w0 Q := by
    intro s hs
    unfold wp_X9_leg_J32
    refine m_gate2 hs pl (fun e w1 q1 => ?_) (fun e w1 q1 => k1 e 0 w1 ((fo_kM f0).tr (h0_kM q1)) (h0_fo q1).2.2 (h0_ok h' q1))
    have g1 := h0_ok h' q1
    have i1 : iL σ.1 x = true := by
      cases c : iL σ.1 x with
      | true => rfl
      | false => unfold pLeg at e; rw [if_neg (by rw [c]; decide)] at e; omega
    obtain ⟨m, m1, rfl⟩ := iL_e h.1 i1
    have em : xN (nI m) = m := xN_nI (by omega)
    rw [em] at k0
    exact m_legOf h.1 g1.2.1 (h0_mO a0 q1) m1 (k0 e w1 ((fo_kM f0).tr (h0_kM q1)) (by rw [(h0_fo q1).2.2, e]) g1)
  refine m_isLeg h.1 h'.2.1 (fun c => ⟨fun _ => m_in2 0 9 rfl rfl ⟨by omega, by omega⟩ ⟨by omega, by omega⟩ (fun d => ⟨fun _ => G _ ?_, fun z => absurd z (by decide)⟩) (fun d => ⟨fun z => absurd rfl z, fun _ => G _ ?_⟩), fun z => absurd z (by decide)⟩) (fun c => ⟨fun z => absurd rfl z, fun _ => G _ ?_⟩)
  · unfold pLeg; rw [if_pos c, if_pos d]; rfl
  · unfold pLeg; rw [if_pos c, if_neg (by rw [d]; decide)]; rfl
  · unfold pLeg; rw [if_neg (by rw [c]; decide)]; rfl
theorem m_loop {x y : Int32} {w : Wd} {σ : Ss} {Q : Int32 → Wd → Prop} (h : okM w σ) (k0 : pLoop σ.1 x y = 0 → ∀ w', kM w w' → wi w' 0 32 0 = nI 0 → okM w' σ → Q (oLp σ.1 (xN x) y) w') (k1 : pLoop σ.1 x y ≠ 0 → ∀ r w', kM w w' → wi w' 0 32 0 = nI (pLoop σ.1 x y) → okM w' σ → Q r w') : wp_X9_loop x y w Q := by
  have hl' := h.1.l
  have hn' := nlp_le (S := σ.1)
  have pl : pLoop σ.1 x y < 10 := by unfold pLoop; split <;> (try split) <;> omega
  unfold wp_X9_loop
  refine m_layOut h.1 h.2.1 (fun w0 f0 a0 => ?_)
  have h' := okM_fo h f0
  have G : ∀ s, s = nI (pLoop σ.1 x y) → wp_X9_loop_J38 x y s w0 Q := by
    intro s hs
    unfold wp_X9_loop_J38
    refine m_gate2 hs pl (fun e w1 q1 => ?_) (fun e w1 q1 => k1 e 0 w1 ((fo_kM f0).tr (h0_kM q1)) (h0_fo q1).2.2 (h0_ok h' q1))
    have g1 := h0_ok h' q1
    have i1 : iK σ.1 x = true := by
      cases c : iK σ.1 x with
      | true => rfl
      | false => unfold pLoop at e; rw [if_neg (by rw [c]; decide)] at e; omega
    obtain ⟨m, m1, rfl⟩ := iK_e h.1 i1
    have em : xN (nI m) = m := xN_nI (by omega)
    rw [em] at k0
    exact m_loopAt h.1 g1.2.1 (h0_mO a0 q1) m1 (k0 e w1 ((fo_kM f0).tr (h0_kM q1)) (by rw [(h0_fo q1).2.2, e]) g1)
  have ei : inR x 0 ((nlp σ.1 : Int) - 1) = iK σ.1 x := by
    unfold inR iK
    exact decide_eq_decide.mpr (by omega)
  refine m_in2 0 ((nlp σ.1 : Int) - 1) rfl (by rw [a0.2.1.1, nI_iI, show (1 : Int32) = iI 1 from rfl, iI_sub]) ⟨by omega, by omega⟩ ⟨by omega, by omega⟩ (fun c => ⟨fun _ => m_in2 0 7 rfl rfl ⟨by omega, by omega⟩ ⟨by omega, by omega⟩ (fun d => ⟨fun _ => G _ ?_, fun z => absurd z (by decide)⟩) (fun d => ⟨fun z => absurd rfl z, fun _ => G _ ?_⟩), fun z => absurd z (by decide)⟩) (fun c => ⟨fun z => absurd rfl z, fun _ => G _ ?_⟩)
  · rw [ei] at c
    unfold pLoop; rw [if_pos c, if_pos d]; rfl
  · rw [ei] at c
    unfold pLoop; rw [if_pos c, if_neg (by rw [d]; decide)]; rfl
  · rw [ei] at c
    unfold pLoop; rw [if_neg (by rw [c]; decide)]; rfl
theorem m_way {x y t : Int32} {w : Wd} {σ : Ss} {Q : Int32 → Wd → Prop} (h : okM w σ) (k0 : pWay σ.1 x y t = 0 → ∀ w', kM w w' → wi w' 0 32 0 = nI 0 → okM w' σ → Q (oWy σ.1 (xN x) (xN y) t) w') (k1 : pWay σ.1 x y t ≠ 0 → ∀ r w', kM w w' → wi w' 0 32 0 = nI (pWay σ.1 x y t) → okM w' σ → Q r w') : wp_X9_way x y t w Q := by
  have hm' := h.1.m
  have pl : pWay σ.1 x y t < 10 := by unfold pWay; split <;> (try split) <;> omega
  unfold wp_X9_way
  refine m_layOut h.1 h.2.1 (fun w0 f0 a0 => ?_)
  have h' := okM_fo h f0
  have G : ∀ s, s = nI (pWay σ.1 x y t) → wp_X9_way_J39 x y t s w0 Q := by
    intro s hs
    unfold wp_X9_way_J39
    refine m_gate2 hs pl (fun e w1 q1 => ?_) (fun e w1 q1 => k1 e 0 w1 ((fo_kM f0).tr (h0_kM q1)) (h0_fo q1).2.2 (h0_ok h' q1))
    have g1 := h0_ok h' q1
    have i1 : iM σ.1 x = true ∧ iM σ.1 y = true := by
      by_cases c : iM σ.1 x = true ∧ iM σ.1 y = true
      · exact c
      · unfold pWay at e; rw [if_neg c] at e; omega
    obtain ⟨m, m1, rfl⟩ := iM_e h.1 i1.1
    obtain ⟨o, o1, rfl⟩ := iM_e h.1 i1.2
    have em : xN (nI m) = m := xN_nI (by omega)
    have eo : xN (nI o) = o := xN_nI (by omega)
    rw [em, eo] at k0
    exact m_wayOf h.1 g1.2.1 (h0_mO a0 q1) m1 o1 (fun w2 f2 => k0 e w2 (((fo_kM f0).tr (h0_kM q1)).tr (fo_kM (f41_fo f2))) (by rw [f2.wi (by decide), (h0_fo q1).2.2, e]) (okM_fo g1 (f41_fo f2)))
  refine m_isMark h.1 h'.2.1 (fun c => ⟨fun z => absurd z (by decide), fun _ => m_isMark h.1 h'.2.1 (fun c2 => ⟨fun _ => m_in2 0 3 rfl rfl ⟨by omega, by omega⟩ ⟨by omega, by omega⟩ (fun d => ⟨fun _ => G _ ?_, fun z => absurd z (by decide)⟩) (fun d => ⟨fun z => absurd rfl z, fun _ => G _ ?_⟩), fun z => absurd z (by decide)⟩) (fun c2 => ⟨fun z => absurd rfl z, fun _ => G _ ?_⟩)⟩) (fun c => ⟨fun _ => G _ ?_, fun z => absurd rfl z⟩)
  · unfold pWay; rw [if_pos ⟨c, c2⟩, if_pos d]; rfl
  · unfold pWay; rw [if_pos ⟨c, c2⟩, if_neg (by rw [d]; decide)]; rfl
  · unfold pWay; rw [if_neg (fun z => by rw [c2] at z; cases z.2)]; rfl
  · unfold pWay; rw [if_neg (fun z => by rw [c] at z; cases z.1)]; rfl
theorem m_count {x : Int32} {w : Wd} {σ : Ss} {Q : Int32 → Wd → Prop} (h : okM w σ) (k0 : pCount x = 0 → ∀ w', kM w w' → wi w' 0 32 0 = nI 0 → okM w' σ → Q (oCt σ x) w') (k1 : pCount x ≠ 0 → ∀ r w', kM w w' → wi w' 0 32 0 = nI (pCount x) → okM w' σ → Q r w') : wp_X9_count x w Q := by
  have pl : pCount x < 10 := by unfold pCount; split <;> omega
  unfold wp_X9_count
  refine m_layAll h.1 h.2.1 (fun w0 f0 a0 => ?_)
  have h' := okM_fo h f0
  have G : ∀ s, s = nI (pCount x) → wp_X9_count_J20 x s w0 Q := by
    intro s hs
    unfold wp_X9_count_J20
    refine m_gate2 hs pl (fun e w1 q1 => ?_) (fun e w1 q1 => k1 e 0 w1 ((fo_kM f0).tr (h0_kM q1)) (h0_fo q1).2.2 (h0_ok h' q1))
    have g1 := h0_ok h' q1
    exact m_counted h.1 g1.2.1 (h0_mA a0 q1) g1.2.2.1.1 (k0 e w1 ((fo_kM f0).tr (h0_kM q1)) (by rw [(h0_fo q1).2.2, e]) g1)
  refine m_in2 0 10 rfl rfl ⟨by omega, by omega⟩ ⟨by omega, by omega⟩ (fun d => ⟨fun z => absurd z (by decide), fun _ => G _ ?_⟩) (fun d => ⟨fun _ => G _ ?_, fun z => absurd rfl z⟩)
  · unfold pCount; rw [if_pos d]; rfl
  · unfold pCount; rw [if_neg (by rw [d]; decide)]; rfl
theorem m_setting {x : Int32} {w : Wd} {σ : Ss} {Q : Int32 → Wd → Prop} (h : okM w σ) (k0 : pSetting x = 0 → ∀ w', kM w w' → wi w' 0 32 0 = nI 0 → okM w' σ → Q (iI (st σ.1 (xN x))) w') (k1 : pSetting x ≠ 0 → ∀ r w', kM w w' → wi w' 0 32 0 = nI (pSetting x) → okM w' σ → Q r w') : wp_X9_setting x w Q := by
  have pl : pSetting x < 10 := by unfold pSetting; split <;> omega
  have G : ∀ s, s = nI (pSetting x) → wp_X9_setting_J15 x s w Q := by
    intro s hs
    unfold wp_X9_setting_J15
    refine m_gate2 hs pl (fun e w1 q1 => ?_) (fun e w1 q1 => k1 e 0 w1 (h0_kM q1) (h0_fo q1).2.2 (h0_ok h q1))
    have g1 := h0_ok h q1
    have i1 : inR x 0 2 = true := by
      cases c : inR x 0 2 with
      | true => rfl
      | false => unfold pSetting at e; rw [if_neg (by rw [c]; decide)] at e; omega
    obtain ⟨u, rfl, u2, u3, u4⟩ := inR_e i1 (by omega) (by omega)
    obtain ⟨j, rfl⟩ : ∃ j : Nat, u = (j : Int) := ⟨u.toNat, by omega⟩
    have ej : xN (iI (j : Int)) = j := by unfold xN; rw [u2]; rfl
    rw [ej] at k0
    rw [iI_nat, show (92 : Int32) = nI 92 from rfl, nI_add, n_cl (by omega), g1.2.1.2.2.2.2 j (by omega)]
    exact ⟨n_in (by omega) (by omega), k0 e w1 (h0_kM q1) (by rw [(h0_fo q1).2.2, e]) g1⟩
  unfold wp_X9_setting
  refine m_in2 0 2 rfl rfl ⟨by omega, by omega⟩ ⟨by omega, by omega⟩ (fun d => ⟨fun z => absurd z (by decide), fun _ => G _ ?_⟩) (fun d => ⟨fun _ => G _ ?_, fun z => absurd rfl z⟩)
  · unfold pSetting; rw [if_pos d]; rfl
  · unfold pSetting; rw [if_neg (by rw [d]; decide)]; rfl
theorem m_worst {w : Wd} {σ : Ss} {Q : Int32 → Wd → Prop} (h : okM w σ) (k0 : ∀ w', kM w w' → okM w' σ → Q (iI (wsK σ.1 (nlp σ.1))) w') : wp_X9_worst w Q := by
  unfold wp_X9_worst
  intro w1 q1
  have g1 := h0_ok h q1
  refine m_layOut g1.1 g1.2.1 (fun w2 f2 o2 => ?_)
  have g2 := okM_fo g1 f2
  exact m_worstOf g2.1 g2.2.1 o2.2.1 (k0 w2 ((h0_kM q1).tr (fo_kM f2)) g2)
theorem m_suspect {w : Wd} {σ : Ss} {Q : Int32 → Wd → Prop} (h : okM w σ) (k0 : ∀ w', kM w w' → okM w' σ → Q (iI (suK σ.1 (nL σ.1))) w') : wp_X9_suspect w Q := by
  unfold wp_X9_suspect
  intro w1 q1
  have g1 := h0_ok h q1
  refine m_layOut g1.1 g1.2.1 (fun w2 f2 o2 => ?_)
  have g2 := okM_fo g1 f2
  exact m_suspected g2.1 g2.2.1 o2.2.1 (k0 w2 ((h0_kM q1).tr (fo_kM f2)) g2)
theorem m_goodShare {w : Wd} {σ : Ss} {Q : UInt64 → Wd → Prop} (h : okM w σ) (k0 : ∀ w', kM w w' → okM w' σ → Q (shG (nlp σ.1) (nbd σ.1)) w') : wp_X9_goodShare w Q := by
  unfold wp_X9_goodShare
  intro w1 q1
  have g1 := h0_ok h q1
  refine m_layOut g1.1 g1.2.1 (fun w2 f2 o2 => ?_)
  have g2 := okM_fo g1 f2
  exact m_shareOf g2.1 g2.2.1 o2.2.1 (k0 w2 ((h0_kM q1).tr (fo_kM f2)) g2)
/-- what thinking a leg away leaves -/
def tk0 (w w' : Wd) : Prop := fl mAll w w' ∧ ∀ j, j ≠ 15 → wi w' 0 32 j = wi w 0 32 j
theorem m_back {w w0 w1 w2 : Wd} {σ : Ss} {Q : Wd → Prop} (h : okM w σ) (f0 : fl [34] w w0) (a0 : mRw (wi w0 0 34) σ.1) (f1 : fl [33] w0 w1) (f2 : fo w1 w2) (k : ∀ w', tk0 w w' → okM w' σ → Q w') : wp_X9_putBack w2 Q := by
  have e34 : wi w2 0 34 = wi w0 0 34 := funext (fun j => (f2.1.wi (by decide) j).trans (f1.wi (by decide) j))
  refine m_putBack h.1 (by rw [e34]; exact a0) (fun w3 f3 s3 => ?_)
  have o : ∀ j, j ≠ 15 → wi w3 0 32 j = wi w 0 32 j := fun j hj => by rw [f3.wi (by decide), f2.2 j hj, f1.wi (by decide), f0.wi (by decide)]
  have fa : fl mAll w w3 := (((f0.wide (by decide)).tr (f1.wide (by decide))).tr (fo_all f2)).tr (f3.wide (by decide))
  refine k w3 ⟨fa, o⟩ ⟨h.1, s3, ?_, mX_of h.2.2.2 (o 6 (by omega)) (fun i => by rw [f3.wi (by decide), f2.1.wi (by decide), f1.wi (by decide), f0.wi (by decide)])⟩
  refine mH_fl (mH_fl (mH_fl (mH_fl h.2.2.1 f0 (by decide) (f0.wi (by decide) 4)) f1 (by decide) (f1.wi (by decide) 4)) f2.1 (by decide) (f2.2 4 (by omega))) f3 (by decide) (f3.wi (by decide) 4)
theorem m_missing {l : Nat} {y : Int32} {w : Wd} {σ : Ss} {Q : Int32 → Wd → Prop} (h : okM w σ) (hl : l < nL σ.1) (k : ∀ w', tk0 w w' → okM w' σ → Q (oWb (drpL σ.1 l) y) w') : wp_X9_missing (nI l) y w Q := by
  have wf1 := wf_drpL h.1 hl
  unfold wp_X9_missing
  refine m_putAside h.1 h.2.1 (fun w0 f0 a0 => m_remove h.1 (sS_fl h.2.1 f0 (by decide)) hl (fun w1 f1 s1 => m_layOut wf1 s1 (fun w2 f2 o2 => ?_)))
  have s2 := sS_fo s1 f2
  have J : ∀ s, s = oWb (drpL σ.1 l) y → wp_X9_missing_J52 s w2 Q := by
    rintro s rfl
    unfold wp_X9_missing_J52
    exact m_back h f0 a0 f1 f2 k
  unfold oWb at J
  refine ⟨fun y0 => ⟨fun y1 => ⟨fun y2 => m_misses wf1 s2 o2.2.1 (J _ ?_), fun y2 => m_nets wf1 s2 o2.1 (J _ ?_)⟩, fun y1 => m_bads wf1 s2 o2.2.1 (J _ ?_)⟩, fun y0 => J _ ?_⟩
  · rw [if_neg y0, if_neg y1, if_neg y2]
  · rw [if_neg y0, if_neg y1, if_pos y2]
  · rw [if_neg y0, if_pos y1]
  · rw [if_pos y0]; exact o2.2.1.1
theorem m_fit {l : Nat} {w : Wd} {σ : Ss} {Q : Int32 → Wd → Prop} (h : okM w σ) (hl : l < nL σ.1) (k : ∀ w', tk0 w w' → okM w' σ → Q (oFt σ.1 l) w') : wp_X9_fit (nI l) w Q := by
  have hm' := h.1.m
  have hl' := h.1.l
  have wf1 := wf_drpL h.1 hl
  obtain ⟨g1, g2, -⟩ := h.1.g hl
  have sl := h.2.1.2.2.2.1 l hl
  unfold wp_X9_fit
  refine m_of2 rfl rfl (by omega) (by omega) (m_of2 rfl rfl (by omega) (by omega) ?_)
  rw [n_cl (by omega), n_cl (by omega), show wi w 0 33 (12 + 4 * l + 0) = nI (fr σ.1 l) from sl.1, sl.2.1, n_cl (by omega), n_cl (by omega)]
  refine m_putAside h.1 h.2.1 (fun w0 f0 a0 => m_remove h.1 (sS_fl h.2.1 f0 (by decide)) hl (fun w1 f1 s1 => m_layOut wf1 s1 (fun w2 f2 o2 => ?_)))
  have s2 := sS_fo s1 f2
  have n1 := net_le wf1 (fr σ.1 l)
  have n2 := net_le wf1 (tO σ.1 l)
  rw [o2.1.1.1 _ (show fr σ.1 l < nM (drpL σ.1 l) from g1), o2.1.1.1 _ (show tO σ.1 l < nM (drpL σ.1 l) from g2), n_eq (by omega) (by omega)]
  refine ⟨n_in (by omega) (by omega), n_in (by omega) (by omega), fun z => ?_, fun z => m_rise wf1 s2 o2 (show fr σ.1 l < nM (drpL σ.1 l) from g1) (show tO σ.1 l < nM (drpL σ.1 l) from g2) (fun w3 f3 _ => ?_)⟩
  · have e : oFt σ.1 l = -1 := if_neg z
    rw [e] at k
    unfold wp_X9_fit_J63
    exact m_back h f0 a0 f1 f2 k
  · have e : oFt σ.1 l = iI (rise (drpL σ.1 l) (tO σ.1 l) - rise (drpL σ.1 l) (fr σ.1 l) + 1000000) := by
      unfold oFt oWy
      rw [if_pos z, if_neg (by decide), if_neg (by decide), if_pos rfl]
    rw [e] at k
    rw [show (1000000 : Int32) = iI 1000000 from rfl, iI_add]
    unfold wp_X9_fit_J63
    exact m_back h f0 a0 f1 (f2.tr (f41_fo f3)) k
theorem tk0_kM {w w' : Wd} (h : tk0 w w') : kM w w' := kM_fl h.1
theorem m_without {x y : Int32} {w : Wd} {σ : Ss} {Q : Int32 → Wd → Prop} (h : okM w σ) (k0 : pWithout σ.1 x y = 0 → ∀ w', kM w w' → wi w' 0 32 0 = nI 0 → okM w' σ → Q (oWb (drpL σ.1 (xN x)) y) w') (k1 : pWithout σ.1 x y ≠ 0 → ∀ r w', kM w w' → wi w' 0 32 0 = nI (pWithout σ.1 x y) → okM w' σ → Q r w') : wp_X9_without x y w Q := by
  have hl' := h.1.l
  have pl : pWithout σ.1 x y < 10 := by unfold pWithout; split <;> (try split) <;> omega
  have G : ∀ s, s = nI (pWithout σ.1 x y) → wp_X9_without_J27 x y s w Q := by
    intro s hs
    unfold wp_X9_without_J27
    refine m_gate2 hs pl (fun e w1 q1 => ?_) (fun e w1 q1 => k1 e 0 w1 (h0_kM q1) (h0_fo q1).2.2 (h0_ok h q1))
    have g1 := h0_ok h q1
    have i1 : iL σ.1 x = true := by
      cases c : iL σ.1 x with
      | true => rfl
      | false => unfold pWithout at e; rw [if_neg (by rw [c]; decide)] at e; omega
    obtain ⟨m, m1, rfl⟩ := iL_e h.1 i1
    have em : xN (nI m) = m := xN_nI (by omega)
    rw [em] at k0
    exact m_missing g1 m1 (fun w2 f2 g2 => k0 e w2 ((h0_kM q1).tr (tk0_kM f2)) (by rw [f2.2 0 (by omega), (h0_fo q1).2.2, e]) g2)
  unfold wp_X9_without
  refine m_isLeg h.1 h.2.1 (fun c => ⟨fun _ => m_in2 0 3 rfl rfl ⟨by omega, by omega⟩ ⟨by omega, by omega⟩ (fun d => ⟨fun _ => G _ ?_, fun z => absurd z (by decide)⟩) (fun d => ⟨fun z => absurd rfl z, fun _ => G _ ?_⟩), fun z => absurd z (by decide)⟩) (fun c => ⟨fun z => absurd rfl z, fun _ => G _ ?_⟩)
  · unfold pWithout; rw [if_pos c, if_pos d]; rfl
  · unfold pWithout; rw [if_pos c, if_neg (by rw [d]; decide)]; rfl
  · unfold pWithout; rw [if_neg (by rw [c]; decide)]; rfl
theorem m_fitting {x : Int32} {w : Wd} {σ : Ss} {Q : Int32 → Wd → Prop} (h : okM w σ) (k0 : pLeg1 σ.1 x = 0 → ∀ w', kM w w' → wi w' 0 32 0 = nI 0 → okM w' σ → Q (oFt σ.1 (xN x)) w') (k1 : pLeg1 σ.1 x ≠ 0 → ∀ r w', kM w w' → wi w' 0 32 0 = nI (pLeg1 σ.1 x) → okM w' σ → Q r w') : wp_X9_fitting x w Q := by
  have hl' := h.1.l
  have pl : pLeg1 σ.1 x < 10 := by unfold pLeg1; split <;> omega
  have G : ∀ s, s = nI (pLeg1 σ.1 x) → wp_X9_fitting_J14 x s w Q := by
    intro s hs
    unfold wp_X9_fitting_J14
    refine m_gate2 hs pl (fun e w1 q1 => ?_) (fun e w1 q1 => k1 e 0 w1 (h0_kM q1) (h0_fo q1).2.2 (h0_ok h q1))
    have g1 := h0_ok h q1
    have i1 : iL σ.1 x = true := by
      cases c : iL σ.1 x with
      | true => rfl
      | false => unfold pLeg1 at e; rw [if_neg (by rw [c]; decide)] at e; omega
    obtain ⟨m, m1, rfl⟩ := iL_e h.1 i1
    have em : xN (nI m) = m := xN_nI (by omega)
    rw [em] at k0
    exact m_fit g1 m1 (fun w2 f2 g2 => k0 e w2 ((h0_kM q1).tr (tk0_kM f2)) (by rw [f2.2 0 (by omega), (h0_fo q1).2.2, e]) g2)
  unfold wp_X9_fitting
  refine m_isLeg h.1 h.2.1 (fun c => ⟨fun z => absurd z (by decide), fun _ => G _ ?_⟩) (fun c => ⟨fun _ => G _ ?_, fun z => absurd rfl z⟩)
  · unfold pLeg1; rw [if_pos c]; rfl
  · unfold pLeg1; rw [if_neg (by rw [c]; decide)]; rfl
