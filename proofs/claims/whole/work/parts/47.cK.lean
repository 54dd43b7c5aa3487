/-! THE CLASS: its methods, looks and the buffer -/
theorem inR_n {x : Int32} {N : Nat} (hN : N < 1000) : (inR x 0 (N : Int) = true) ↔ ¬ x < 0 ∧ x < nI (N + 1) := by
  obtain ⟨v, hv, e, e2⟩ := of_int x
  unfold inR
  rw [e2, e, iI_lt0 hv, nI_iI, iI_lt hv (fit_nat (by omega)), decide_eq_true_iff]
  omega
def pMark (S : Sv) (x y : Int32) : Nat := if iM S x = true then (if inR y 0 6 = true then 0 else 2) else 1
theorem c_mark {x y : Int32} {w : Wd} {σ : Ss} {Q : Int32 → Prop} {X : String → Wd → Prop} (h : okC w σ) (k0 : pMark σ.1 x y = 0 → Q (oMk σ.1 (xN x) y)) (k1 : pMark σ.1 x y = 1 → X IOB w) (k2 : pMark σ.1 x y = 2 → X IAE w) : wp_X8_mark x y w Q X := by
  obtain ⟨hS, hd, hh, ht⟩ := id h
  have hm := hS.m
  unfold wp_X8_mark wp_X8_mark_J29
  unfold pMark at k0 k1 k2
  refine s_hasMark' hS hd.1 (fun c m hmm em => ⟨fun _ => ?_, fun z => absurd z (by decide)⟩) (fun c => ⟨fun z => absurd rfl z, fun _ => k1 (by rw [if_neg (by rw [c]; decide)])⟩)
  rw [if_pos c] at k0 k1 k2
  have hr : inR y 0 6 = true ↔ ¬ y < 0 ∧ y < (7 : Int32) := inR_n (x := y) (N := 6) (by omega)
  subst em
  rw [xN_nI (by omega)] at k0
  refine ⟨fun q => k2 (by rw [if_neg (fun z => (hr.mp z).1 q)]), fun q => ⟨fun q2 => s_ofMark hS hd hmm (k0 (by rw [if_pos (hr.mpr ⟨q, q2⟩)])), fun q2 => k2 (by rw [if_neg (fun z => q2 (hr.mp z).2)])⟩⟩
def pLeg (S : Sv) (x y : Int32) : Nat := if iL S x = true then (if inR y 0 9 = true then 0 else 2) else 1
theorem c_leg {x y : Int32} {w : Wd} {σ : Ss} {Q : Int32 → Prop} {X : String → Wd → Prop} (h : okC w σ) (k0 : pLeg σ.1 x y = 0 → Q (oLg σ.1 (xN x) y)) (k1 : pLeg σ.1 x y = 1 → X IOB w) (k2 : pLeg σ.1 x y = 2 → X IAE w) : wp_X8_leg x y w Q X := by
  obtain ⟨hS, hd, hh, ht⟩ := id h
  have hm := hS.l
  unfold wp_X8_leg wp_X8_leg_J29
  unfold pLeg at k0 k1 k2
  refine s_hasLeg' hS hd.1 (fun c m hmm em => ⟨fun _ => ?_, fun z => absurd z (by decide)⟩) (fun c => ⟨fun z => absurd rfl z, fun _ => k1 (by rw [if_neg (by rw [c]; decide)])⟩)
  rw [if_pos c] at k0 k1 k2
  have hr : inR y 0 9 = true ↔ ¬ y < 0 ∧ y < (10 : Int32) := inR_n (x := y) (N := 9) (by omega)
  subst em
  rw [xN_nI (by omega)] at k0
  refine ⟨fun q => k2 (by rw [if_neg (fun z => (hr.mp z).1 q)]), fun q => ⟨fun q2 => s_ofLeg hS hd hmm (k0 (by rw [if_pos (hr.mpr ⟨q, q2⟩)])), fun q2 => k2 (by rw [if_neg (fun z => q2 (hr.mp z).2)])⟩⟩
def iK (S : Sv) (x : Int32) : Bool := decide (0 ≤ x.toInt ∧ x.toInt < nlp S)
def pLoop (S : Sv) (x y : Int32) : Nat := if iK S x = true then (if inR y 0 7 = true then 0 else 2) else 1
theorem c_loop {x y : Int32} {w : Wd} {σ : Ss} {Q : Int32 → Prop} {X : String → Wd → Prop} (h : okC w σ) (k0 : pLoop σ.1 x y = 0 → Q (oLp σ.1 (xN x) y)) (k1 : pLoop σ.1 x y = 1 → X IOB w) (k2 : pLoop σ.1 x y = 2 → X IAE w) : wp_X8_loop x y w Q X := by
  obtain ⟨hS, hd, hh, ht⟩ := id h
  have hm := hS.l
  have hcn := nlp_le (S := σ.1)
  obtain ⟨v, hv, e, e2⟩ := of_int x
  unfold wp_X8_loop wp_X8_loop_J18 wp_X8_loop_J36
  unfold pLoop at k0 k1 k2
  have hr : inR y 0 7 = true ↔ ¬ y < 0 ∧ y < (8 : Int32) := inR_n (x := y) (N := 7) (by omega)
  have hk : iK σ.1 x = true ↔ 0 ≤ v ∧ v < nlp σ.1 := by unfold iK; rw [e2, decide_eq_true_iff]
  rw [hd.2.2.1.1, show x < 0 ↔ v < 0 by rw [e, iI_lt0 hv], show x < nI (nlp σ.1) ↔ v < nlp σ.1 by rw [e, nI_iI, iI_lt hv (fit_nat (by omega))]]
  refine ⟨fun z => k1 (by rw [if_neg (fun q => by have := hk.mp q; omega)]), fun z => ⟨fun z2 => ?_, fun z2 => k1 (by rw [if_neg (fun q => by have := hk.mp q; omega)])⟩⟩
  rw [if_pos (hk.mpr ⟨by omega, z2⟩)] at k0 k1 k2
  have ex : x = nI v.toNat := by rw [e, ← iI_nat]; congr 1; omega
  rw [ex, xN_nI (by omega)] at k0
  rw [ex]
  refine ⟨fun q => k2 (by rw [if_neg (fun z => (hr.mp z).1 q)]), fun q => ⟨fun q2 => s_ofLoop hS hd.1 hd.2.2.1 hd.2.2.2.1 (by omega) (k0 (by rw [if_pos (hr.mpr ⟨q, q2⟩)])), fun q2 => k2 (by rw [if_neg (fun z => q2 (hr.mp z).2)])⟩⟩
def pWay (S : Sv) (x y z : Int32) : Nat := if iM S x = true ∧ iM S y = true then (if inR z 0 3 = true then 0 else 2) else 1
theorem c_way {x y t : Int32} {w : Wd} {σ : Ss} {Q : Int32 → Prop} {X : String → Wd → Prop} (h : okC w σ) (k0 : pWay σ.1 x y t = 0 → Q (oWy σ.1 (xN x) (xN y) t)) (k1 : pWay σ.1 x y t = 1 → X IOB w) (k2 : pWay σ.1 x y t = 2 → X IAE w) : wp_X8_way x y t w Q X := by
  obtain ⟨hS, hd, hh, ht⟩ := id h
  have hm := hS.m
  unfold wp_X8_way wp_X8_way_J22 wp_X8_way_J39
  unfold pWay at k0 k1 k2
  refine s_hasMark' hS hd.1 (fun c m hmm em => ⟨fun z => absurd z (by decide), fun _ => ?_⟩) (fun c => ⟨fun _ => k1 (by rw [if_neg (by rw [c]; simp)]), fun z => absurd rfl z⟩)
  refine s_hasMark' hS hd.1 (fun c2 o hoo eo => ⟨fun _ => ?_, fun z => absurd z (by decide)⟩) (fun c2 => ⟨fun z => absurd rfl z, fun _ => k1 (by rw [if_neg (by rw [c2]; simp)])⟩)
  rw [if_pos ⟨c, c2⟩] at k0 k1 k2
  have hr : inR t 0 3 = true ↔ ¬ t < 0 ∧ t < (4 : Int32) := inR_n (x := t) (N := 3) (by omega)
  subst em; subst eo
  rw [xN_nI (by omega), xN_nI (by omega)] at k0
  refine ⟨fun q => k2 (by rw [if_neg (fun z => (hr.mp z).1 q)]), fun q => ⟨fun q2 => s_ofWay hS hd hmm hoo (k0 (by rw [if_pos (hr.mpr ⟨q, q2⟩)])), fun q2 => k2 (by rw [if_neg (fun z => q2 (hr.mp z).2)])⟩⟩
def pCount (x : Int32) : Nat := if inR x 0 10 = true then 0 else 1
theorem c_count {x : Int32} {w : Wd} {σ : Ss} {Q : Int32 → Prop} {X : String → Wd → Prop} (h : okC w σ) (k0 : pCount x = 0 → Q (oCt σ x)) (k1 : pCount x = 1 → X IAE w) : wp_X8_count x w Q X := by
  unfold wp_X8_count wp_X8_count_J10
  unfold pCount at k0 k1
  have hr : inR x 0 10 = true ↔ ¬ x < 0 ∧ x < (11 : Int32) := inR_n (x := x) (N := 10) (by omega)
  refine ⟨fun q => k1 (by rw [if_neg (fun z => (hr.mp z).1 q)]), fun q => ⟨fun q2 => s_counted h (k0 (by rw [if_pos (hr.mpr ⟨q, q2⟩)])), fun q2 => k1 (by rw [if_neg (fun z => q2 (hr.mp z).2)])⟩⟩
def pSetting (x : Int32) : Nat := if inR x 0 2 = true then 0 else 1
theorem c_setting {x : Int32} {w : Wd} {σ : Ss} {Q : Int32 → Prop} {X : String → Wd → Prop} (h : okC w σ) (k0 : pSetting x = 0 → Q (iI (st σ.1 (xN x)))) (k1 : pSetting x = 1 → X IOB w) : wp_X8_setting x w Q X := by
  obtain ⟨hS, hd, hh, ht⟩ := id h
  unfold wp_X8_setting
  unfold pSetting at k0 k1
  refine s_isSetting (fun c => ⟨fun _ => ?_, fun z => absurd z (by decide)⟩) (fun c => ⟨fun z => absurd rfl z, fun _ => k1 (by rw [if_neg (by rw [c]; decide)])⟩)
  obtain ⟨i, ei, ei2, i1, i2⟩ := inR_e c (by omega) (by omega)
  have en : xN x = i.toNat := by unfold xN; rw [ei2]
  have ex : x = nI i.toNat := by rw [ei, ← iI_nat]; congr 1; omega
  rw [en] at k0
  rw [ex, n_cl (by omega), hd.1.2.2.2.2 i.toNat (by omega)]
  exact ⟨n_in (by omega) (by omega), k0 (by rw [if_pos c])⟩
theorem c_worst {w : Wd} {σ : Ss} {Q : Int32 → Prop} (h : okC w σ) (k0 : Q (iI (wsK σ.1 (nlp σ.1)))) : wp_X8_worst w Q := by
  unfold wp_X8_worst
  exact s_worstLoop h.1 h.2.1.1 h.2.1.2.2.1 k0
theorem c_suspect {w : Wd} {σ : Ss} {Q : Int32 → Prop} (h : okC w σ) (k0 : Q (iI (suK σ.1 (nL σ.1)))) : wp_X8_suspect w Q := by
  unfold wp_X8_suspect
  exact s_suspectLeg h.1 h.2.1.1 h.2.1.2.2.1 k0
theorem c_goodShare {w : Wd} {σ : Ss} {Q : UInt64 → Prop} (h : okC w σ) (k0 : Q (shG (nlp σ.1) (nbd σ.1))) : wp_X8_goodShare w Q := by
  unfold wp_X8_goodShare
  exact s_shareOfGood h.1 h.2.1.2.2.1 k0
def pWithout (S : Sv) (x y : Int32) : Nat := if iL S x = true then (if inR y 0 3 = true then 0 else 2) else 1
theorem c_without {x y : Int32} {w : Wd} {σ : Ss} {Q : Int32 → Wd → Prop} {X : String → Wd → Prop} (h : okC w σ) (k0 : pWithout σ.1 x y = 0 → ∀ w', kC w w' → okC w' σ → Q (oWb (drpL σ.1 (xN x)) y) w') (k1 : pWithout σ.1 x y = 1 → X IOB w) (k2 : pWithout σ.1 x y = 2 → X IAE w) : wp_X8_without x y w Q X := by
  obtain ⟨hS, hd, hh, ht⟩ := id h
  have hm := hS.l
  unfold wp_X8_without wp_X8_without_J28
  unfold pWithout at k0 k1 k2
  refine s_hasLeg' hS hd.1 (fun c m hmm em => ⟨fun _ => ?_, fun z => absurd z (by decide)⟩) (fun c => ⟨fun z => absurd rfl z, fun _ => k1 (by rw [if_neg (by rw [c]; decide)])⟩)
  rw [if_pos c] at k0 k1 k2
  have hr : inR y 0 3 = true ↔ ¬ y < 0 ∧ y < (4 : Int32) := inR_n (x := y) (N := 3) (by omega)
  subst em
  rw [xN_nI (by omega)] at k0
  refine ⟨fun q => k2 (by rw [if_neg (fun z => (hr.mp z).1 q)]), fun q => ⟨fun q2 => s_thinkAway hS hd.1 hmm (fun w1 f1 d1 => s_wouldBe (wf_drpL hS hmm) d1 (k0 (by rw [if_pos (hr.mpr ⟨q, q2⟩)]) w1 (f1.kC (Or.inl (by omega))) (h.fm1 f1))), fun q2 => k2 (by rw [if_neg (fun z => q2 (hr.mp z).2)])⟩⟩
theorem c_fitting {x : Int32} {w : Wd} {σ : Ss} {Q : Int32 → Wd → Prop} {X : String → Wd → Prop} (h : okC w σ) (k0 : pLeg1 σ.1 x = 0 → ∀ w', kC w w' → okC w' σ → Q (oFt σ.1 (xN x)) w') (k1 : pLeg1 σ.1 x = 1 → X IOB w) : wp_X8_fitting x w Q X := by
  obtain ⟨hS, hd, hh, ht⟩ := id h
  have hm := hS.l
  unfold wp_X8_fitting
  unfold pLeg1 at k0 k1
  refine s_hasLeg' hS hd.1 (fun c m hmm em => ⟨fun _ => ?_, fun z => absurd z (by decide)⟩) (fun c => ⟨fun z => absurd rfl z, fun _ => k1 (by rw [if_neg (by rw [c]; decide)])⟩)
  subst em
  rw [xN_nI (by omega)] at k0
  exact s_thinkAway hS hd.1 hmm (fun w1 f1 d1 => s_wouldFit hS (h.fm1 f1).2.1.1 hmm d1 (k0 (by rw [if_pos c]) w1 (f1.kC (Or.inl (by omega))) (h.fm1 f1)))
theorem c_digest {w : Wd} {σ : Ss} {Q : Int64 → Wd → Prop} (h : okC w σ) (k0 : ∀ w', kC w w' → okC w' σ → Q (gDg σ) w') : wp_X8_digest w Q :=
  s_digest h (fun w1 f1 o1 => k0 w1 (f1.kC (Or.inl (by omega))) o1)
def putT (T : Tx) (x : Int32) : Tx := (T.1 + 1, fun i => if i = T.1 then x else T.2 i)
def pAppend (T : Tx) (x : Int32) : Nat := if inR x 33 126 = true then (if T.1 < 60 then 0 else 2) else 1
theorem okC.tx {w w' : Wd} {σ : Ss} {T : Tx} (h : okC w σ) (f : fm 0 29 30 w w') (ht : tX w' T) : okC w' (σ.1, σ.2.1, T) :=
  ⟨h.1, h.2.1.fm f (Or.inr (by omega)), h.2.2.1.fm f (Or.inr ⟨rfl, by omega⟩), ht⟩
theorem c_append {x : Int32} {w : Wd} {σ : Ss} {Q : Int32 → Wd → Prop} {X : String → Wd → Prop} (h : okC w σ) (k0 : pAppend σ.2.2 x = 0 → ∀ w', kC w w' → okC w' (σ.1, σ.2.1, putT σ.2.2 x) → Q (nI (σ.2.2.1 + 1)) w') (k1 : pAppend σ.2.2 x = 1 → X IAE w) (k2 : pAppend σ.2.2 x = 2 → X ISE w) : wp_X8_append x w Q X := by
  obtain ⟨hS, hd, hh, t1, t2, t3⟩ := id h
  obtain ⟨v, hv, e, e2⟩ := of_int x
  unfold wp_X8_append wp_X8_append_J12
  unfold pAppend at k0 k1 k2
  have hi : inR x 33 126 = true ↔ 33 ≤ v ∧ v ≤ 126 := by unfold inR; rw [e2, decide_eq_true_iff]
  rw [t1, show x < (33 : Int32) ↔ v < 33 by rw [e, show (33 : Int32) = iI 33 from rfl, iI_lt hv ⟨by omega, by omega⟩], show x ≤ (126 : Int32) ↔ v ≤ 126 by rw [e, show (126 : Int32) = iI 126 from rfl, iI_le hv ⟨by omega, by omega⟩], show (60 : Int32) = nI 60 from rfl, n_lt (by omega) (by omega)]
  refine ⟨fun z => k1 (by rw [if_neg (fun q => by have := hi.mp q; omega)]), fun z => ⟨fun z2 => ?_, fun z2 => k1 (by rw [if_neg (fun q => by have := hi.mp q; omega)])⟩⟩
  rw [if_pos (hi.mpr ⟨by omega, z2⟩)] at k0 k1 k2
  refine ⟨fun q => ?_, fun q => k2 (by rw [if_neg q])⟩
  unfold wp_X6_put
  rw [t1, show (60 : Int32) = nI 60 from rfl, n_le (by omega) (by omega), n_cl (by omega)]
  refine ⟨fun y => absurd y (by omega), fun _ => ⟨n_in (by omega) (by omega), fun w1 q1 => ?_⟩⟩
  have a1 : wi w1 0 29 0 = nI σ.2.2.1 := by rw [q1, wi_sI, if_neg (by omega)]; exact t1
  rw [a1, nI_1]
  intro w2 q2
  have a2 : wi w2 0 29 0 = nI (σ.2.2.1 + 1) := by rw [q2, wi_sI, if_pos ⟨rfl, rfl, rfl⟩]
  have f2 : fm 0 29 30 w w2 := by rw [q2, q1]; exact (fm.rf.sI (by omega) (by omega)).sI (by omega) (by omega)
  rw [a2]
  refine k0 (by rw [if_pos q]) w2 (f2.kC (Or.inr (by omega))) (h.tx f2 ⟨a2, by show σ.2.2.1 + 1 ≤ 60; omega, fun i hi => ?_⟩)
  have hi' : i < σ.2.2.1 + 1 := hi
  show _ = if i = σ.2.2.1 then x else σ.2.2.2 i
  rw [q2, wi_sI, if_neg (by omega), q1, wi_sI]
  by_cases y : i = σ.2.2.1
  · rw [if_pos ⟨rfl, rfl, y⟩, if_pos y]
  · rw [if_neg (by omega), if_neg y]; exact t3 i (by omega)
theorem c_clearBuffer {w : Wd} {σ : Ss} {Q : Int32 → Wd → Prop} (h : okC w σ) (k0 : ∀ w', kC w w' → okC w' (σ.1, σ.2.1, (0, σ.2.2.2)) → Q (nI σ.2.2.1) w') : wp_X8_clearBuffer w Q := by
  obtain ⟨hS, hd, hh, t1, t2, t3⟩ := id h
  unfold wp_X8_clearBuffer
  intro w1 q1
  have f1 : fm 0 29 30 w w1 := by rw [q1]; exact fm.rf.sI (by omega) (by omega)
  rw [t1]
  exact k0 w1 (f1.kC (Or.inr (by omega))) (h.tx f1 ⟨by rw [q1, wi_sI, if_pos ⟨rfl, rfl, rfl⟩]; rfl, by show 0 ≤ 60; omega, fun i hi => absurd hi (Nat.not_lt_zero _)⟩)
def pUndo (H : Hs) : Nat := if 0 < H.1 then 0 else 1
theorem c_undo {w : Wd} {σ : Ss} {Q : Int32 → Wd → Prop} {X : String → Wd → Prop} (h : okC w σ) (k0 : pUndo σ.2.1 = 0 → ∀ w', kC w w' → okC w' (σ.2.1.2 (σ.2.1.1 - 1), (σ.2.1.1 - 1, σ.2.1.2), σ.2.2) → Q (nI (σ.2.1.1 - 1)) w') (k1 : pUndo σ.2.1 = 1 → X ISE w) : wp_X8_undo w Q X := by
  obtain ⟨hS, hd, hh, ht⟩ := id h
  unfold wp_X8_undo
  unfold pUndo at k0 k1
  have h6 := hh.2.1
  rw [hh.1, show (0 : Int32) = nI 0 from rfl, n_eq (by omega) (by omega)]
  refine ⟨fun q => ?_, fun q => k1 (by rw [if_neg (by omega)])⟩
  have hw := (hh.2.2.2.2 (σ.2.1.1 - 1) (by omega)).1
  refine s_restore hh (by omega) (fun w1 f1 r1 h1 e1 => s_renew hw r1 (fun w2 f2 d2 => ?_))
  have hh2 := h1.fm f2 (Or.inr ⟨rfl, by omega⟩)
  rw [hh2.1]
  refine k0 (by rw [if_pos (by omega)]) w2 ((f1.kC (Or.inr (by omega))).tr (f2.kC (Or.inr (by omega)))) ⟨hw, d2, hh2, ?_⟩
  exact (ht.fm f1 (by omega)).fm f2 (by omega)
