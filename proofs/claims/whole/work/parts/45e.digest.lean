/-! THE CLASS: the digest, its loops one by one -/
theorem s_dL120 {h : Int64} {w : Wd} {σ : Ss} {Q : Int64 → Wd → Prop} (ok : okC w σ) (k : Q (gTx σ.2.2 ((31 : Int64) * ((31 : Int64) * ((31 : Int64) * it (gLp σ.1) h (nlp σ.1) + (iI (wsK σ.1 (nlp σ.1))).toInt64) + (iI (suK σ.1 (nL σ.1))).toInt64) + gBt σ.1)) w) : wp_X8_digest_L120 h 0 w Q := by
  obtain ⟨hS, hd, hh, ht⟩ := id ok
  have hl := hS.l
  have hcn := nlp_le (S := σ.1)
  unfold wp_X8_digest_L120
  refine lpAI (B := fun a i K => wp_X8_digest_B120 a i w Q K) (fun j a => a = it (gLp σ.1) h j) (nlp σ.1) 0 (by omega) (Nat.zero_le _) rfl ?_ ?_
  · rintro j a K hj rfl hK
    unfold wp_X8_digest_B120
    rw [hd.2.2.1.1, n_le (by omega) (by omega), nI_1]
    exact ⟨fun z => absurd z (by omega), fun _ => s_withLoop hS hd hj (hK _ rfl)⟩
  · rintro a K rfl
    unfold wp_X8_digest_B120
    rw [hd.2.2.1.1]
    refine ⟨fun _ => ?_, fun z => absurd (Int32.le_refl _) z⟩
    exact s_worstLoop hS hd.1 hd.2.2.1 (s_suspectLeg hS hd.1 hd.2.2.1 (s_shareOfGood hS hd.2.2.1 (s_bitsOf (gBt_ok hS) (s_withText ht k))))
theorem s_dL89 {h : Int64} {w : Wd} {σ : Ss} {Q : Int64 → Wd → Prop} (ok : okC w σ) (k : ∀ w', fm 1 0 25 w w' → okC w' σ → wp_X8_digest_L120 (it (gLg σ.1) h (nL σ.1)) 0 w' Q) : wp_X8_digest_L89 h 0 w Q := by
  obtain ⟨hS, hd, hh, ht⟩ := id ok
  have hl := hS.l
  unfold wp_X8_digest_L89
  refine lpAIB (B := fun a i v K => wp_X8_digest_B89 a i v Q K) (fun j a v => a = it (gLg σ.1) h j ∧ fm 1 0 25 w v) (nL σ.1) 0 (by omega) (Nat.zero_le _) ⟨rfl, fm.rf⟩ ?_ ?_
  · rintro j a v K hj ⟨rfl, f⟩ hK
    have hv := (ok.fm1 f).2.1
    unfold wp_X8_digest_B89
    rw [hv.1.2.1, n_le (by omega) (by omega), nI_1]
    exact ⟨fun z => absurd z (by omega), fun _ => s_thinkAway hS hv.1 hj (fun u fu du => s_withLeg hS (hv.fm fu (Or.inl (by omega))) hj du (hK _ _ ⟨rfl, f.tr fu⟩))⟩
  · rintro a v K ⟨rfl, f⟩
    have ov := ok.fm1 f
    unfold wp_X8_digest_B89
    rw [ov.2.1.1.2.1]
    exact ⟨fun _ => k v f ov, fun z => absurd (Int32.le_refl _) z⟩
theorem s_dL63 {h : Int64} {w : Wd} {σ : Ss} {Q : Int64 → Wd → Prop} (ok : okC w σ) (k : wp_X8_digest_L89 (it (gMk σ.1) h (nM σ.1)) 0 w Q) : wp_X8_digest_L63 h 0 w Q := by
  obtain ⟨hS, hd, hh, ht⟩ := id ok
  have hm := hS.m
  unfold wp_X8_digest_L63
  refine lpAI (B := fun a i K => wp_X8_digest_B63 a i w Q K) (fun j a => a = it (gMk σ.1) h j) (nM σ.1) 0 (by omega) (Nat.zero_le _) rfl ?_ ?_
  · rintro j a K hj rfl hK
    unfold wp_X8_digest_B63
    rw [hd.1.1, n_le (by omega) (by omega), nI_1]
    exact ⟨fun z => absurd z (by omega), fun _ => s_withMark hS hd hj (hK _ rfl)⟩
  · rintro a K rfl
    unfold wp_X8_digest_B63
    rw [hd.1.1]
    exact ⟨fun _ => k, fun z => absurd (Int32.le_refl _) z⟩
theorem s_dL33 {h : Int64} {w : Wd} {σ : Ss} {Q : Int64 → Wd → Prop} (ok : okC w σ) (k : wp_X8_digest_L63 (fd (fun k => iI (st σ.1 k)) h 3) 0 w Q) : wp_X8_digest_L33 h 0 w Q := by
  obtain ⟨hS, hd, hh, ht⟩ := id ok
  unfold wp_X8_digest_L33
  refine lpAI (B := fun a i K => wp_X8_digest_B33 a i w Q K) (fun j a => a = fd (fun k => iI (st σ.1 k)) h j) 3 0 (by omega) (Nat.zero_le _) rfl ?_ ?_
  · rintro j a K hj rfl hK
    unfold wp_X8_digest_B33
    rw [show (3 : Int32) = nI 3 from rfl, n_le (by omega) (by omega), n_cl (by omega), hd.1.2.2.2.2 j hj, nI_1]
    exact ⟨fun z => absurd z (by omega), fun _ => ⟨n_in (by omega) (by omega), hK _ rfl⟩⟩
  · rintro a K rfl
    unfold wp_X8_digest_B33
    exact ⟨fun _ => k, fun z => absurd (Int32.le_refl _) z⟩
theorem s_dL6 {h : Int64} {w : Wd} {σ : Ss} {Q : Int64 → Wd → Prop} (ok : okC w σ) (k : wp_X8_digest_L33 (fd (fun k => oCt σ (nI k)) h 11) 0 w Q) : wp_X8_digest_L6 h 0 w Q := by
  unfold wp_X8_digest_L6
  refine lpAI (B := fun a i K => wp_X8_digest_B6 a i w Q K) (fun j a => a = fd (fun k => oCt σ (nI k)) h j) 11 0 (by omega) (Nat.zero_le _) rfl ?_ ?_
  · rintro j a K hj rfl hK
    unfold wp_X8_digest_B6
    rw [show (11 : Int32) = nI 11 from rfl, n_le (by omega) (by omega), nI_1]
    exact ⟨fun z => absurd z (by omega), fun _ => s_counted ok (hK _ rfl)⟩
  · rintro a K rfl
    unfold wp_X8_digest_B6
    exact ⟨fun _ => k, fun z => absurd (Int32.le_refl _) z⟩
def gD1 (σ : Ss) (h : Int64) : Int64 := it (gLg σ.1) (it (gMk σ.1) (fd (fun k => iI (st σ.1 k)) (fd (fun k => oCt σ (nI k)) h 11) 3) (nM σ.1)) (nL σ.1)
def gD2 (σ : Ss) (h : Int64) : Int64 := gTx σ.2.2 ((31 : Int64) * ((31 : Int64) * ((31 : Int64) * it (gLp σ.1) h (nlp σ.1) + (iI (wsK σ.1 (nlp σ.1))).toInt64) + (iI (suK σ.1 (nL σ.1))).toInt64) + gBt σ.1)
def gDg (σ : Ss) : Int64 := gD2 σ (gD1 σ 2741)
theorem s_dAll {h : Int64} {w : Wd} {σ : Ss} {Q : Int64 → Wd → Prop} (ok : okC w σ) (k : ∀ w', fm 1 0 25 w w' → okC w' σ → Q (gD2 σ (gD1 σ h)) w') : wp_X8_digest_L6 h 0 w Q :=
  s_dL6 ok (s_dL33 ok (s_dL63 ok (s_dL89 ok (fun w' f o => s_dL120 o (k w' f o)))))
theorem s_digest {w : Wd} {σ : Ss} {Q : Int64 → Wd → Prop} (h : okC w σ) (k : ∀ w', fm 1 0 25 w w' → okC w' σ → Q (gDg σ) w') : wp_X8_digest w Q := by
  unfold wp_X8_digest
  exact s_dAll h k
