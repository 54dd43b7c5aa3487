/-! THE MODEL: digest -/
theorem m_one {x : Int64} {w : Wd} {Q : Wd → Prop} (q : ∀ w', w' = sL w 0 ((31 : Int64) * wl w 0 + x) → Q w') : wp_X9_digestOne x w Q := q
/-- a digit more in the long -/
theorem sL_ok {w w' : Wd} {σ : Ss} {x : Int64} (h : okM w σ) (e : w' = sL w 0 x) : okM w' σ := by subst e; exact h
theorem sL_mA {w w' : Wd} {S : Sv} {x : Int64} (h : mA w S) (e : w' = sL w 0 x) : mA w' S := by subst e; exact h
theorem sL_mO {w w' : Wd} {S : Sv} {x : Int64} (h : mO w S) (e : w' = sL w 0 x) : mO w' S := by subst e; exact h
theorem sL_kM {w w' : Wd} {x : Int64} (e : w' = sL w 0 x) : kM w w' := by
  subst e
  exact ⟨fun _ _ _ _ => rfl, fun _ => rfl, fun k hk => by rw [wl_sL, if_neg hk]⟩
theorem sL_wl {w w' : Wd} {x : Int64} (e : w' = sL w 0 x) : wl w' 0 = x := by
  subst e; rw [wl_sL, if_pos rfl]
/-- the state of the digest: all stands, h is in the long -/
def dI (w : Wd) (σ : Ss) (v : Wd) (h : Int64) : Prop := okM v σ ∧ kM w v ∧ wl v 0 = h
def dJ (w : Wd) (σ : Ss) (v : Wd) (h : Int64) : Prop := dI w σ v h ∧ mA v σ.1
theorem dI_one {w v v' : Wd} {σ : Ss} {h x : Int64} (d : dI w σ v h) (e : v' = sL v 0 ((31 : Int64) * wl v 0 + x)) : dI w σ v' ((31 : Int64) * h + x) := by
  obtain ⟨a, b, c⟩ := d
  exact ⟨sL_ok a e, b.tr (sL_kM e), by rw [sL_wl e, c]⟩
theorem dJ_one {w v v' : Wd} {σ : Ss} {h x : Int64} (d : dJ w σ v h) (e : v' = sL v 0 ((31 : Int64) * wl v 0 + x)) : dJ w σ v' ((31 : Int64) * h + x) := ⟨dI_one d.1 e, sL_mA d.2 e⟩
theorem dI_fo {w v v' : Wd} {σ : Ss} {h : Int64} (d : dI w σ v h) (f : fo v v') : dI w σ v' h := ⟨okM_fo d.1 f, d.2.1.tr (fo_kM f), (f.1.wl 0).trans d.2.2⟩
theorem dJ_41 {w v v' : Wd} {σ : Ss} {h : Int64} (d : dJ w σ v h) (f : fl [41] v v') : dJ w σ v' h := ⟨dI_fo d.1 (f41_fo f), mA_fl d.2 f (by decide) (by decide)⟩
theorem dI_tk {w v v' : Wd} {σ : Ss} {h : Int64} (d : dI w σ v h) (f : tk0 v v') (ok : okM v' σ) : dI w σ v' h := ⟨ok, d.2.1.tr (tk0_kM f), (f.1.wl 0).trans d.2.2⟩
theorem d_L302 {w v : Wd} {σ : Ss} {h : Int64} {Q : Int64 → Wd → Prop} (d : dI w σ v h) (q : ∀ u, dI w σ u (fd σ.2.2.2 h σ.2.2.1) → Q (fd σ.2.2.2 h σ.2.2.1) u) : wp_X9_digest_L302 0 v Q := by
  have ht := d.1.2.2.2.2.1
  unfold wp_X9_digest_L302
  refine lpIA (B := fun i u K => wp_X9_digest_B302 i u Q K) (fun j u => dI w σ u (fd σ.2.2.2 h j)) σ.2.2.1 0 (by omega) (Nat.zero_le _) d ?_ ?_
  · rintro j u K hj du hK
    obtain ⟨x1, x2, x3⟩ := du.1.2.2.2
    unfold wp_X9_digest_B302
    rw [x1, n_le (by omega) (by omega), n_cl (by omega), x3 j hj, nI_1 j]
    exact ⟨fun z => absurd z (by omega), fun _ => ⟨n_in (by omega) (by omega), m_one (fun u1 e => hK u1 (dI_one du e))⟩⟩
  · rintro u K du
    unfold wp_X9_digest_B302
    refine ⟨fun _ => ?_, fun z => absurd (by rw [du.1.2.2.2.1]; exact Int32.le_refl _) z⟩
    rw [du.2.2]; exact q u du
theorem d_L233 {w v : Wd} {σ : Ss} {k : Nat} {h : Int64} {Q : Int64 → Wd → Prop} {K : Int32 → Wd → Prop} (hk : k < nlp σ.1) (d : dJ w σ v h) (q : ∀ u, dJ w σ u (gLp σ.1 k h) → K (nI (k + 1)) u) : wp_X9_digest_L233 (nI k) 0 v Q K := by
  unfold wp_X9_digest_L233
  refine lpIA (B := fun i u K2 => wp_X9_digest_B233 (nI k) i u Q K K2) (fun j u => dJ w σ u (fd (fun i => oLp σ.1 k (nI i)) h j)) 8 0 (by omega) (by omega) d ?_ ?_
  · rintro j u K2 hj du hK
    unfold wp_X9_digest_B233
    rw [show (8 : Int32) = nI 8 from rfl, n_le (by omega) (by omega), nI_1 j]
    exact ⟨fun z => absurd z (by omega), fun _ => m_loopAt du.1.1.1 du.1.1.2.1 du.2.1 hk (m_one (fun u1 e => hK u1 (dJ_one du e)))⟩
  · rintro u K2 du
    unfold wp_X9_digest_B233
    rw [nI_1 k]
    exact ⟨fun _ => q u du, fun z => absurd (Int32.le_refl _) z⟩
theorem d_L223 {w v : Wd} {σ : Ss} {h : Int64} {Q : Int64 → Wd → Prop} (d : dJ w σ v h) (q : ∀ u, dI w σ u (gD2 σ h) → Q (gD2 σ h) u) : wp_X9_digest_L223 0 v Q := by
  have hn' := nlp_le (S := σ.1)
  have hl' := d.1.1.1.l
  have hb : nbd σ.1 ≤ nlp σ.1 := ct_le _ _
  unfold wp_X9_digest_L223
  refine lpIA (B := fun i u K => wp_X9_digest_B223 i u Q K) (fun j u => dJ w σ u (it (gLp σ.1) h j)) (nlp σ.1) 0 (by omega) (Nat.zero_le _) d ?_ ?_
  · rintro j u K hj du hK
    unfold wp_X9_digest_B223
    rw [du.2.1.2.1.1, n_le (by omega) (by omega)]
    exact ⟨fun z => absurd z (by omega), fun _ => d_L233 hj du (fun u1 e => hK u1 e)⟩
  · rintro u K du
    unfold wp_X9_digest_B223
    refine ⟨fun _ => ?_, fun z => absurd (by rw [du.2.1.2.1.1]; exact Int32.le_refl _) z⟩
    refine m_worstOf du.1.1.1 du.1.1.2.1 du.2.1.2.1 (m_one (fun u1 e1 => ?_))
    have d1 := dJ_one du e1
    refine m_suspected d1.1.1.1 d1.1.1.2.1 d1.2.1.2.1 (m_one (fun u2 e2 => ?_))
    have d2 := dJ_one d1 e2
    refine m_shareOf d2.1.1.1 d2.1.1.2.1 d2.2.1.2.1 ?_
    refine m_bitsOfShare (r := gBt σ.1) (by rw [bEs_ok _ (by omega) _ (by omega)]; exact gBt_ok d2.1.1.1) (m_one (fun u3 e3 => ?_))
    have d3 := dJ_one d2 e3
    rw [d3.1.1.2.2.2.1]
    refine m_one (fun u4 e4 => ?_)
    exact d_L302 (dI_one d3.1 e4) q
theorem d_L179 {w v : Wd} {σ : Ss} {l : Nat} {h : Int64} {Q : Int64 → Wd → Prop} {K : Int32 → Wd → Prop} (hl : l < nL σ.1) (d : dI w σ v h) (q : ∀ u, dI w σ u ((31 : Int64) * fd (fun k => oWb (drpL σ.1 l) (nI k)) h 4 + (oFt σ.1 l).toInt64) → K (nI (l + 1)) u) : wp_X9_digest_L179 (nI l) 0 v Q K := by
  unfold wp_X9_digest_L179
  refine lpIA (B := fun i u K2 => wp_X9_digest_B179 (nI l) i u Q K K2) (fun j u => dI w σ u (fd (fun k => oWb (drpL σ.1 l) (nI k)) h j)) 4 0 (by omega) (by omega) d ?_ ?_
  · rintro j u K2 hj du hK
    unfold wp_X9_digest_B179
    rw [show (4 : Int32) = nI 4 from rfl, n_le (by omega) (by omega), nI_1 j]
    exact ⟨fun z => absurd z (by omega), fun _ => m_missing du.1 hl (fun u1 f1 o1 => m_one (fun u2 e => hK u2 (dI_one (dI_tk du f1 o1) e)))⟩
  · rintro u K2 du
    unfold wp_X9_digest_B179
    rw [nI_1 l]
    exact ⟨fun _ => m_fit du.1 hl (fun u1 f1 o1 => m_one (fun u2 e => q u2 (dI_one (dI_tk du f1 o1) e))), fun z => absurd (Int32.le_refl _) z⟩
theorem d_L154 {w v : Wd} {σ : Ss} {l : Nat} {h : Int64} {Q : Int64 → Wd → Prop} {K : Int32 → Wd → Prop} (hl : l < nL σ.1) (d : dI w σ v h) (ho : mO v σ.1) (q : ∀ u, dI w σ u (gLg σ.1 l h) → K (nI (l + 1)) u) : wp_X9_digest_L154 (nI l) 0 v Q K := by
  unfold wp_X9_digest_L154
  refine lpIA (B := fun i u K2 => wp_X9_digest_B154 (nI l) i u Q K K2) (fun j u => dI w σ u (fd (fun k => oLg σ.1 l (nI k)) h j) ∧ mO u σ.1) 10 0 (by omega) (by omega) ⟨d, ho⟩ ?_ ?_
  · rintro j u K2 hj ⟨du, ou⟩ hK
    unfold wp_X9_digest_B154
    rw [show (10 : Int32) = nI 10 from rfl, n_le (by omega) (by omega), nI_1 j]
    exact ⟨fun z => absurd z (by omega), fun _ => m_legOf du.1.1 du.1.2.1 ou hl (m_one (fun u1 e => hK u1 ⟨dI_one du e, sL_mO ou e⟩))⟩
  · rintro u K2 ⟨du, ou⟩
    unfold wp_X9_digest_B154
    exact ⟨fun _ => d_L179 hl du q, fun z => absurd (Int32.le_refl _) z⟩
theorem d_L137 {w v : Wd} {σ : Ss} {h : Int64} {Q : Int64 → Wd → Prop} (d : dI w σ v h) (q : ∀ u, dI w σ u (gD2 σ (it (gLg σ.1) h (nL σ.1))) → Q (gD2 σ (it (gLg σ.1) h (nL σ.1))) u) : wp_X9_digest_L137 0 v Q := by
  have hl' := d.1.1.l
  unfold wp_X9_digest_L137
  refine lpIA (B := fun i u K => wp_X9_digest_B137 i u Q K) (fun j u => dI w σ u (it (gLg σ.1) h j)) (nL σ.1) 0 (by omega) (Nat.zero_le _) d ?_ ?_
  · rintro j u K hj du hK
    unfold wp_X9_digest_B137
    rw [du.1.2.1.2.1, n_le (by omega) (by omega)]
    exact ⟨fun z => absurd z (by omega), fun _ => m_layOut du.1.1 du.1.2.1 (fun u1 f1 o1 => d_L154 hj (dI_fo du f1) o1 (fun u2 e => hK u2 e))⟩
  · rintro u K du
    unfold wp_X9_digest_B137
    exact ⟨fun _ => m_layAll du.1.1 du.1.2.1 (fun u1 f1 a1 => d_L223 ⟨dI_fo du f1, a1⟩ q), fun z => absurd (by rw [du.1.2.1.2.1]; exact Int32.le_refl _) z⟩
theorem d_L106 {w v : Wd} {σ : Ss} {m : Nat} {h : Int64} {Q : Int64 → Wd → Prop} {K : Int32 → Wd → Prop} (hm : m < nM σ.1) (d : dJ w σ v h) (q : ∀ u, dJ w σ u (fd (fun k => oWy σ.1 0 m (nI k)) h 4) → K (nI (m + 1)) u) : wp_X9_digest_L106 (nI m) 0 v Q K := by
  unfold wp_X9_digest_L106
  refine lpIA (B := fun i u K2 => wp_X9_digest_B106 (nI m) i u Q K K2) (fun j u => dJ w σ u (fd (fun k => oWy σ.1 0 m (nI k)) h j)) 4 0 (by omega) (by omega) d ?_ ?_
  · rintro j u K2 hj du hK
    unfold wp_X9_digest_B106
    rw [show (4 : Int32) = nI 4 from rfl, n_le (by omega) (by omega), nI_1 j, n_0]
    exact ⟨fun z => absurd z (by omega), fun _ => m_wayOf du.1.1.1 du.1.1.2.1 du.2.1 (by omega) hm (fun u1 f1 => m_one (fun u2 e => hK u2 (dJ_one (dJ_41 du f1) e)))⟩
  · rintro u K2 du
    unfold wp_X9_digest_B106
    rw [nI_1 m]
    exact ⟨fun _ => q u du, fun z => absurd (Int32.le_refl _) z⟩
theorem d_L81 {w v : Wd} {σ : Ss} {m : Nat} {h : Int64} {Q : Int64 → Wd → Prop} {K : Int32 → Wd → Prop} (hm : m < nM σ.1) (d : dJ w σ v h) (q : ∀ u, dJ w σ u (gMk σ.1 m h) → K (nI (m + 1)) u) : wp_X9_digest_L81 (nI m) 0 v Q K := by
  unfold wp_X9_digest_L81
  refine lpIA (B := fun i u K2 => wp_X9_digest_B81 (nI m) i u Q K K2) (fun j u => dJ w σ u (fd (fun k => oMk σ.1 m (nI k)) h j)) 7 0 (by omega) (by omega) d ?_ ?_
  · rintro j u K2 hj du hK
    unfold wp_X9_digest_B81
    rw [show (7 : Int32) = nI 7 from rfl, n_le (by omega) (by omega), nI_1 j]
    exact ⟨fun z => absurd z (by omega), fun _ => m_markOf du.1.1.1 du.1.1.2.1 du.2 hm (fun u1 f1 => m_one (fun u2 e => hK u2 (dJ_one (dJ_41 du f1) e)))⟩
  · rintro u K2 du
    unfold wp_X9_digest_B81
    exact ⟨fun _ => d_L106 hm du q, fun z => absurd (Int32.le_refl _) z⟩
theorem d_L69 {w v : Wd} {σ : Ss} {h : Int64} {Q : Int64 → Wd → Prop} (d : dJ w σ v h) (q : ∀ u, dI w σ u (it (gMk σ.1) h (nM σ.1)) → wp_X9_digest_L137 0 u Q) : wp_X9_digest_L69 0 v Q := by
  have hm' := d.1.1.1.m
  unfold wp_X9_digest_L69
  refine lpIA (B := fun i u K => wp_X9_digest_B69 i u Q K) (fun j u => dJ w σ u (it (gMk σ.1) h j)) (nM σ.1) 0 (by omega) (Nat.zero_le _) d ?_ ?_
  · rintro j u K hj du hK
    unfold wp_X9_digest_B69
    rw [du.1.1.2.1.1, n_le (by omega) (by omega)]
    exact ⟨fun z => absurd z (by omega), fun _ => d_L81 hj du (fun u1 e => hK u1 e)⟩
  · rintro u K du
    unfold wp_X9_digest_B69
    exact ⟨fun _ => q u du.1, fun z => absurd (by rw [du.1.1.2.1.1]; exact Int32.le_refl _) z⟩
theorem d_L42 {w v : Wd} {σ : Ss} {h : Int64} {Q : Int64 → Wd → Prop} (d : dJ w σ v h) (q : ∀ u, dJ w σ u (fd (fun k => iI (st σ.1 k)) h 3) → wp_X9_digest_L69 0 u Q) : wp_X9_digest_L42 0 v Q := by
  unfold wp_X9_digest_L42
  refine lpIA (B := fun i u K => wp_X9_digest_B42 i u Q K) (fun j u => dJ w σ u (fd (fun k => iI (st σ.1 k)) h j)) 3 0 (by omega) (by omega) d ?_ ?_
  · rintro j u K hj du hK
    unfold wp_X9_digest_B42
    rw [show (3 : Int32) = nI 3 from rfl, n_le (by omega) (by omega), show (92 : Int32) = nI 92 from rfl, nI_add, n_cl (by omega), du.1.1.2.1.2.2.2.2 j (by omega), nI_1 j]
    exact ⟨fun z => absurd z (by omega), fun _ => ⟨n_in (by omega) (by omega), m_one (fun u2 e => hK u2 (dJ_one du e))⟩⟩
  · rintro u K du
    unfold wp_X9_digest_B42
    exact ⟨fun _ => q u du, fun z => absurd (Int32.le_refl _) z⟩
theorem d_L18 {w v : Wd} {σ : Ss} {h : Int64} {Q : Int64 → Wd → Prop} (d : dJ w σ v h) (q : ∀ u, dJ w σ u (fd (fun k => oCt σ (nI k)) h 11) → wp_X9_digest_L42 0 u Q) : wp_X9_digest_L18 0 v Q := by
  unfold wp_X9_digest_L18
  refine lpIA (B := fun i u K => wp_X9_digest_B18 i u Q K) (fun j u => dJ w σ u (fd (fun k => oCt σ (nI k)) h j)) 11 0 (by omega) (by omega) d ?_ ?_
  · rintro j u K hj du hK
    unfold wp_X9_digest_B18
    rw [show (11 : Int32) = nI 11 from rfl, n_le (by omega) (by omega), nI_1 j]
    exact ⟨fun z => absurd z (by omega), fun _ => m_counted du.1.1.1 du.1.1.2.1 du.2 du.1.1.2.2.1.1 (m_one (fun u2 e => hK u2 (dJ_one du e)))⟩
  · rintro u K du
    unfold wp_X9_digest_B18
    exact ⟨fun _ => q u du, fun z => absurd (Int32.le_refl _) z⟩
theorem m_digest {w : Wd} {σ : Ss} {Q : Int64 → Wd → Prop} (h : okM w σ) (k0 : ∀ w', kM w w' → okM w' σ → Q (gDg σ) w') : wp_X9_digest w Q := by
  unfold wp_X9_digest
  intro w1 q1
  have g1 := h0_ok h q1
  refine m_layAll g1.1 g1.2.1 (fun w2 f2 a2 w3 q3 => ?_)
  have d : dJ w σ w3 2741 := ⟨⟨sL_ok (okM_fo g1 f2) q3, ((h0_kM q1).tr (fo_kM f2)).tr (sL_kM q3), sL_wl q3⟩, sL_mA a2 q3⟩
  exact d_L18 d (fun u1 d1 => d_L42 d1 (fun u2 d2 => d_L69 d2 (fun u3 d3 => d_L137 d3 (fun u4 d4 => k0 u4 d4.2.1 d4.1))))
