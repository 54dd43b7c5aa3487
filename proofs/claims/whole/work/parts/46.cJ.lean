/-! THE CLASS: its methods, but those on texts -/
def kC (w w' : Wd) : Prop := (∀ b, 32 ≤ b → ∀ k, wi w' 0 b k = wi w 0 b k) ∧ ∀ k, wl w' k = wl w k
theorem kC.rf {w : Wd} : kC w w := ⟨fun _ _ _ => rfl, fun _ => rfl⟩
theorem kC.tr {w w' w'' : Wd} (h : kC w w') (k : kC w' w'') : kC w w'' := ⟨fun b hb j => (k.1 b hb j).trans (h.1 b hb j), fun j => (k.2 j).trans (h.2 j)⟩
theorem fm.kC {n lo hi : Nat} {w w' : Wd} (h : fm n lo hi w w') (hh : n ≠ 0 ∨ hi < 32) : kC w w' := ⟨fun b hb j => h.wi (by omega) j, h.wl⟩
theorem fh.kC {w w' : Wd} (h : fh w w') : kC w w' := ⟨fun b hb j => h.1 0 b (by omega) (by omega) j, h.2⟩
def inR (x : Int32) (a b : Int) : Bool := decide (a ≤ x.toInt ∧ x.toInt ≤ b)
def iM (S : Sv) (x : Int32) : Bool := decide (0 ≤ x.toInt ∧ x.toInt < nM S)
def iL (S : Sv) (x : Int32) : Bool := decide (0 ≤ x.toInt ∧ x.toInt < nL S)
def xN (x : Int32) : Nat := x.toInt.toNat
theorem xN_nI {m : Nat} (h : m < 2147483648) : xN (nI m) = m := by unfold xN; rw [nI_toInt h]; rfl
theorem of_int (x : Int32) : ∃ v : Int, fit v ∧ x = iI v ∧ x.toInt = v := by
  have h1 := Int32.le_toInt x
  have h2 := Int32.toInt_lt x
  exact ⟨x.toInt, ⟨by omega, by omega⟩, iI_of x, rfl⟩
theorem iM_t {S : Sv} {m : Nat} (hS : wf S) (h : m < nM S) : iM S (nI m) = true := by
  have := hS.m
  unfold iM
  rw [nI_toInt (by omega)]
  exact decide_eq_true (by omega)
theorem iL_t {S : Sv} {m : Nat} (hS : wf S) (h : m < nL S) : iL S (nI m) = true := by
  have := hS.l
  unfold iL
  rw [nI_toInt (by omega)]
  exact decide_eq_true (by omega)
theorem ou_f {x : Int32} {n : Nat} (hn : n < 1000) (h : ou x n) : ¬ (0 ≤ x.toInt ∧ x.toInt < n) := by
  obtain ⟨v, hv, e, e2⟩ := of_int x
  rw [e2]
  rw [e] at h
  rcases h with q | q
  · rw [iI_lt0 hv] at q; omega
  · rw [nI_iI, iI_le (fit_nat (by omega)) hv] at q; omega
theorem iM_e {S : Sv} (hS : wf S) {x : Int32} (h : iM S x = true) : ∃ m, m < nM S ∧ x = nI m := by
  have := hS.m
  rcases ou_or x (n := nM S) (by omega) with q | q
  · exact absurd (of_decide_eq_true h) (ou_f (by omega) q)
  · exact q
theorem iL_e {S : Sv} (hS : wf S) {x : Int32} (h : iL S x = true) : ∃ m, m < nL S ∧ x = nI m := by
  have := hS.l
  rcases ou_or x (n := nL S) (by omega) with q | q
  · exact absurd (of_decide_eq_true h) (ou_f (by omega) q)
  · exact q
theorem s_hasMark' {x : Int32} {w : Wd} {S : Sv} {Q : Int32 → Prop} (hS : wf S) (h : rS 0 w S) (k1 : iM S x = true → ∀ m, m < nM S → x = nI m → Q 1) (k0 : iM S x = false → Q 0) : wp_X5_hasMark 0 x w Q := by
  have := hS.m
  exact s_hasMark hS h (fun m hm e => k1 (by rw [e]; exact iM_t hS hm) m hm e) (fun o => k0 (decide_eq_false (ou_f (by omega) o)))
theorem s_hasLeg' {x : Int32} {w : Wd} {S : Sv} {Q : Int32 → Prop} (hS : wf S) (h : rS 0 w S) (k1 : iL S x = true → ∀ m, m < nL S → x = nI m → Q 1) (k0 : iL S x = false → Q 0) : wp_X5_hasLeg 0 x w Q := by
  have := hS.l
  exact s_hasLeg hS h (fun m hm e => k1 (by rw [e]; exact iL_t hS hm) m hm e) (fun o => k0 (decide_eq_false (ou_f (by omega) o)))
theorem s_isKnownOrNone {x : Int32} {Q : Int32 → Prop} (k1 : inR x (-1) 99999 = true → Q 1) (k0 : inR x (-1) 99999 = false → Q 0) : wp_X8_isKnownOrNone x Q := by
  obtain ⟨v, hv, e, e2⟩ := of_int x
  unfold inR at k1 k0
  rw [e2] at k1 k0
  unfold wp_X8_isKnownOrNone wp_X8_isKnownOrNone_J19
  rw [e, ← iI_m1, iI_eq hv ⟨by omega, by omega⟩, iI_lt0 hv, show (99999 : Int32) = iI 99999 from rfl, iI_lt ⟨by omega, by omega⟩ hv]
  exact ⟨fun q => ⟨Or.inr rfl, k1 (decide_eq_true (by omega))⟩, fun q => ⟨fun y => ⟨Or.inl rfl, k0 (decide_eq_false (by omega))⟩, fun y => ⟨fun z => ⟨Or.inl rfl, k0 (decide_eq_false (by omega))⟩, fun z => ⟨Or.inr rfl, k1 (decide_eq_true (by omega))⟩⟩⟩⟩
theorem s_isDifference {x : Int32} {Q : Int32 → Prop} (k1 : inR x (-9999) 9999 = true → Q 1) (k0 : inR x (-9999) 9999 = false → Q 0) : wp_X8_isDifference x Q := by
  obtain ⟨v, hv, e, e2⟩ := of_int x
  unfold inR at k1 k0
  rw [e2] at k1 k0
  unfold wp_X8_isDifference wp_X8_isDifference_J18
  rw [e, show (-9999 : Int32) = iI (-9999) from rfl, iI_lt hv ⟨by omega, by omega⟩, show (9999 : Int32) = iI 9999 from rfl, iI_lt ⟨by omega, by omega⟩ hv]
  exact ⟨fun q => ⟨Or.inl rfl, k0 (decide_eq_false (by omega))⟩, fun q => ⟨fun z => ⟨Or.inl rfl, k0 (decide_eq_false (by omega))⟩, fun z => ⟨Or.inr rfl, k1 (decide_eq_true (by omega))⟩⟩⟩
theorem s_isLength {x : Int32} {Q : Int32 → Prop} (k1 : inR x 1 99 = true → Q 1) (k0 : inR x 1 99 = false → Q 0) : wp_X8_isLength x Q := by
  obtain ⟨v, hv, e, e2⟩ := of_int x
  unfold inR at k1 k0
  rw [e2] at k1 k0
  unfold wp_X8_isLength wp_X8_isLength_J15
  rw [e, show (1 : Int32) = iI 1 from rfl, iI_lt hv ⟨by omega, by omega⟩, show (99 : Int32) = iI 99 from rfl, iI_lt ⟨by omega, by omega⟩ hv]
  exact ⟨fun q => ⟨Or.inl rfl, k0 (decide_eq_false (by omega))⟩, fun q => ⟨fun z => ⟨Or.inl rfl, k0 (decide_eq_false (by omega))⟩, fun z => ⟨Or.inr rfl, k1 (decide_eq_true (by omega))⟩⟩⟩
theorem s_isSetting {x : Int32} {Q : Int32 → Prop} (k1 : inR x 0 2 = true → Q 1) (k0 : inR x 0 2 = false → Q 0) : wp_X8_isSetting x Q := by
  obtain ⟨v, hv, e, e2⟩ := of_int x
  unfold inR at k1 k0
  rw [e2] at k1 k0
  unfold wp_X8_isSetting wp_X8_isSetting_J13
  rw [e, iI_lt0 hv, show (3 : Int32) = iI 3 from rfl, iI_le ⟨by omega, by omega⟩ hv]
  exact ⟨fun q => ⟨Or.inl rfl, k0 (decide_eq_false (by omega))⟩, fun q => ⟨fun z => ⟨Or.inl rfl, k0 (decide_eq_false (by omega))⟩, fun z => ⟨Or.inr rfl, k1 (decide_eq_true (by omega))⟩⟩⟩
theorem inR_e {x : Int32} {a b : Int} (h : inR x a b = true) (ha : -2147483648 ≤ a) (hb : b < 2147483648) : ∃ v : Int, x = iI v ∧ x.toInt = v ∧ a ≤ v ∧ v ≤ b := by
  obtain ⟨v, hv, e, e2⟩ := of_int x
  have := of_decide_eq_true h
  exact ⟨v, e, e2, by omega, by omega⟩
theorem okC_new {w w1 w2 w3 : Wd} {σ : Ss} {S' : Sv} {H' : Hs} (h : okC w σ) (hS' : wf S') (f1 : fh w w1) (hh : hsT w1 H') (f2 : fm 0 0 6 w1 w2) (f3 : fm 0 8 25 w2 w3) (d : dA 0 w3 S') : kC w w3 ∧ okC w3 (S', H', σ.2.2) := by
  refine ⟨(f1.kC.tr (f2.kC (Or.inr (by omega)))).tr (f3.kC (Or.inr (by omega))), hS', d, (hh.fm f2 (Or.inr ⟨rfl, by omega⟩)).fm f3 (Or.inr ⟨rfl, by omega⟩), ?_⟩
  have t1 : tX w1 σ.2.2 := ⟨by rw [f1.1 0 29 (by omega) (by omega)]; exact h.2.2.2.1, h.2.2.2.2.1, fun i hi => by rw [f1.1 0 30 (by omega) (by omega)]; exact h.2.2.2.2.2 i hi⟩
  exact (t1.fm f2 (by omega)).fm f3 (by omega)
theorem rS.fh {w w' : Wd} {S : Sv} (h : rS 0 w S) (f : fh w w') : rS 0 w' S := h.of (N := 7) (fun b hb j => f.1 0 b (by omega) (by omega) j) (by omega)
theorem rS_kno {n m : Nat} {k : Int} {w : Wd} {S : Sv} (h : rS n w S) (hm : m < nM S) : rS n (sI w n 1 m (iI k)) (knoM S m k) := by
  obtain ⟨h1, h2, h3, h4, h5⟩ := h
  refine ⟨?_, ?_, fun i hi => ?_, fun l hl => ?_, fun j hj => ?_⟩
  · rw [wi_sI, if_neg (by omega)]; exact h1
  · rw [wi_sI, if_neg (by omega)]; exact h2
  · rw [wi_sI]
    show _ = iI (if i = m then k else kn S i)
    by_cases z : i = m
    · rw [if_pos ⟨rfl, rfl, z⟩, if_pos z]
    · rw [if_neg (by omega), if_neg z]; exact h3 i hi
  · obtain ⟨a, b, c, d⟩ := h4 l hl
    refine ⟨?_, ?_, ?_, ?_⟩
    · rw [wi_sI, if_neg (by omega)]; exact a
    · rw [wi_sI, if_neg (by omega)]; exact b
    · rw [wi_sI, if_neg (by omega)]; exact c
    · rw [wi_sI, if_neg (by omega)]; exact d
  · rw [wi_sI, if_neg (by omega)]; exact h5 j hj
theorem rS_mea {n m : Nat} {k : Int} {w : Wd} {S : Sv} (h : rS n w S) : rS n (sI w n 4 m (iI k)) (meaL S m k) := by
  obtain ⟨h1, h2, h3, h4, h5⟩ := h
  refine ⟨?_, ?_, fun i hi => ?_, fun l hl => ?_, fun j hj => ?_⟩
  · rw [wi_sI, if_neg (by omega)]; exact h1
  · rw [wi_sI, if_neg (by omega)]; exact h2
  · rw [wi_sI, if_neg (by omega)]; exact h3 i hi
  · obtain ⟨a, b, c, d⟩ := h4 l hl
    refine ⟨?_, ?_, ?_, ?_⟩
    · rw [wi_sI, if_neg (by omega)]; exact a
    · rw [wi_sI, if_neg (by omega)]; exact b
    · rw [wi_sI]
      show _ = iI (if l = m then k else df S l)
      by_cases z : l = m
      · rw [if_pos ⟨rfl, rfl, z⟩, if_pos z]
      · rw [if_neg (by omega), if_neg z]; exact c
    · rw [wi_sI, if_neg (by omega)]; exact d
  · rw [wi_sI, if_neg (by omega)]; exact h5 j hj
theorem rS_set {n m : Nat} {k : Int} {w : Wd} {S : Sv} (h : rS n w S) : rS n (sI w n 6 m (iI k)) (setS S m k) := by
  obtain ⟨h1, h2, h3, h4, h5⟩ := h
  refine ⟨?_, ?_, fun i hi => ?_, fun l hl => ?_, fun j hj => ?_⟩
  · rw [wi_sI, if_neg (by omega)]; exact h1
  · rw [wi_sI, if_neg (by omega)]; exact h2
  · rw [wi_sI, if_neg (by omega)]; exact h3 i hi
  · obtain ⟨a, b, c, d⟩ := h4 l hl
    refine ⟨?_, ?_, ?_, ?_⟩
    · rw [wi_sI, if_neg (by omega)]; exact a
    · rw [wi_sI, if_neg (by omega)]; exact b
    · rw [wi_sI, if_neg (by omega)]; exact c
    · rw [wi_sI, if_neg (by omega)]; exact d
  · rw [wi_sI]
    show _ = iI (if j = m then k else st S j)
    by_cases z : j = m
    · rw [if_pos ⟨rfl, rfl, z⟩, if_pos z]
    · rw [if_neg (by omega), if_neg z]; exact h5 j hj
def IAE : String := "java/lang/IllegalArgumentException"
def ISE : String := "java/lang/IllegalStateException"
def IOB : String := "java/lang/IndexOutOfBoundsException"
/-! places: 0 none, else which of the method's exceptions -/
def pAddMark (S : Sv) (x : Int32) : Nat := if inR x (-1) 99999 = true then (if nM S < 10 then 0 else 2) else 1
theorem c_addMark {x : Int32} {w : Wd} {σ : Ss} {Q : Int32 → Wd → Prop} {X : String → Wd → Prop} (h : okC w σ) (k0 : pAddMark σ.1 x = 0 → ∀ w', kC w w' → okC w' (addM σ.1 x.toInt, psh σ.2.1 σ.1, σ.2.2) → Q (nI (nM σ.1)) w') (k1 : pAddMark σ.1 x = 1 → X IAE w) (k2 : pAddMark σ.1 x = 2 → X ISE w) : wp_X8_addMark x w Q X := by
  obtain ⟨hS, hd, hh, ht⟩ := id h
  have hm := hS.m
  unfold wp_X8_addMark
  unfold pAddMark at k0 k1 k2
  refine s_isKnownOrNone (fun c => ⟨fun _ => ?_, fun z => absurd z (by decide)⟩) (fun c => ⟨fun z => absurd rfl z, fun _ => k1 (by rw [if_neg (by rw [c]; decide)])⟩)
  rw [if_pos c] at k0 k1 k2
  obtain ⟨v, e, e2, v1, v2⟩ := inR_e c (by omega) (by omega)
  rw [hd.1.1, show (10 : Int32) = nI 10 from rfl, n_lt (by omega) (by omega)]
  refine ⟨fun q => s_save hS hd.1 hh (fun w1 f1 h1 => s_putMark hS (hd.1.fh f1) e (fun _ w2 f2 r2 => ?_) (fun z => absurd z (by omega))), fun q => k2 (by rw [if_neg q])⟩
  have hS' := wf_addM hS (k := v) ⟨v1, v2⟩ q
  refine s_renew hS' r2 (fun w3 f3 d3 => ?_)
  obtain ⟨z1, z2⟩ := okC_new h hS' f1 h1 f2 f3 d3
  rw [d3.1.1, show nM (addM σ.1 v) = nM σ.1 + 1 from rfl, nI_pred]
  refine k0 (by rw [if_pos q]) w3 z1 ?_
  rw [e2]; exact z2
def pKnow (S : Sv) (x y : Int32) : Nat := if iM S x = true then (if inR y (-1) 99999 = true then 0 else 2) else 1
theorem c_know {x y : Int32} {w : Wd} {σ : Ss} {Q : Int32 → Wd → Prop} {X : String → Wd → Prop} (h : okC w σ) (k0 : pKnow σ.1 x y = 0 → ∀ w', kC w w' → okC w' (knoM σ.1 (xN x) y.toInt, psh σ.2.1 σ.1, σ.2.2) → Q (iI (kn σ.1 (xN x))) w') (k1 : pKnow σ.1 x y = 1 → X IOB w) (k2 : pKnow σ.1 x y = 2 → X IAE w) : wp_X8_know x y w Q X := by
  obtain ⟨hS, hd, hh, ht⟩ := id h
  have hm := hS.m
  unfold wp_X8_know
  unfold pKnow at k0 k1 k2
  refine s_hasMark' hS hd.1 (fun c m hmm em => ⟨fun _ => ?_, fun z => absurd z (by decide)⟩) (fun c => ⟨fun z => absurd rfl z, fun _ => k1 (by rw [if_neg (by rw [c]; decide)])⟩)
  rw [if_pos c] at k0 k1 k2
  refine s_isKnownOrNone (fun c2 => ⟨fun _ => ?_, fun z => absurd z (by decide)⟩) (fun c2 => ⟨fun z => absurd rfl z, fun _ => k2 (by rw [if_neg (by rw [c2]; decide)])⟩)
  obtain ⟨v, e, e2, v1, v2⟩ := inR_e c2 (by omega) (by omega)
  refine s_save hS hd.1 hh (fun w1 f1 h1 => ?_)
  have r1 := hd.1.fh f1
  have hS' := wf_knoM hS (m := m) (k := v) ⟨v1, v2⟩
  subst em
  rw [n_cl (by omega), r1.2.2.1 m hmm, e]
  refine ⟨n_in (by omega) (by omega), n_in (by omega) (by omega), fun w2 q2 => s_renew hS' (by rw [q2]; exact rS_kno r1 hmm) (fun w3 f3 d3 => ?_)⟩
  obtain ⟨z1, z2⟩ := okC_new h hS' f1 h1 (by rw [q2]; exact fm.rf.sI (by omega) (by omega)) f3 d3
  rw [xN_nI (by omega), e2] at k0
  exact k0 (by rw [if_pos c2]) w3 z1 z2
def pAccept (S : Sv) (x : Int32) : Nat := if iM S x = true then (if 0 ≤ hgt S (xN x) ∧ hgt S (xN x) ≤ 99999 then 0 else 2) else 1
theorem c_accept {x : Int32} {w : Wd} {σ : Ss} {Q : Int32 → Wd → Prop} {X : String → Wd → Prop} (h : okC w σ) (k0 : pAccept σ.1 x = 0 → ∀ w', kC w w' → okC w' (knoM σ.1 (xN x) (hgt σ.1 (xN x)), psh σ.2.1 σ.1, σ.2.2) → Q (iI (hgt σ.1 (xN x))) w') (k1 : pAccept σ.1 x = 1 → X IOB w) (k2 : pAccept σ.1 x = 2 → X ISE w) : wp_X8_accept x w Q X := by
  obtain ⟨hS, hd, hh, ht⟩ := id h
  have hm := hS.m
  unfold wp_X8_accept
  unfold pAccept at k0 k1 k2
  refine s_hasMark' hS hd.1 (fun c m hmm em => ⟨fun _ => ?_, fun z => absurd z (by decide)⟩) (fun c => ⟨fun z => absurd rfl z, fun _ => k1 (by rw [if_neg (by rw [c]; decide)])⟩)
  rw [if_pos c] at k0 k1 k2
  subst em
  rw [xN_nI (by omega)] at k0 k1 k2
  have hb := hgt_bd' hS m
  refine s_isThere hS hd hmm (fun c2 => ⟨fun _ => ?_, fun z => absurd z (by decide)⟩) (fun c2 => ⟨fun z => absurd rfl z, fun _ => k2 (by rw [if_neg (by have := (hgt_no hS m).mpr c2; omega)])⟩)
  refine s_of hS hd hmm ?_
  unfold wp_X8_accept_J63
  rw [iI_lt0 ⟨by omega, by omega⟩, show (99999 : Int32) = iI 99999 from rfl, iI_le ⟨by omega, by omega⟩ ⟨by omega, by omega⟩]
  refine ⟨fun q => k2 (by rw [if_neg (by omega)]), fun q => ⟨fun q2 => s_save hS hd.1 hh (fun w1 f1 h1 => ?_), fun q2 => k2 (by rw [if_neg (by omega)])⟩⟩
  have r1 := hd.1.fh f1
  have hS' := wf_knoM hS (m := m) (k := hgt σ.1 m) ⟨by omega, by omega⟩
  rw [n_cl (by omega)]
  refine ⟨n_in (by omega) (by omega), fun w2 e2 => s_renew hS' (by rw [e2]; exact rS_kno r1 hmm) (fun w3 f3 d3 => ?_)⟩
  obtain ⟨z1, z2⟩ := okC_new h hS' f1 h1 (by rw [e2]; exact fm.rf.sI (by omega) (by omega)) f3 d3
  exact k0 (by rw [if_pos ⟨by omega, q2⟩]) w3 z1 z2
def pAddLeg (S : Sv) (a b d l : Int32) : Nat := if iM S a = true ∧ iM S b = true then (if a ≠ b ∧ inR d (-9999) 9999 = true ∧ inR l 1 99 = true then (if nL S < 20 then 0 else 3) else 2) else 1
theorem c_addLeg {a b d l : Int32} {w : Wd} {σ : Ss} {Q : Int32 → Wd → Prop} {X : String → Wd → Prop} (h : okC w σ) (k0 : pAddLeg σ.1 a b d l = 0 → ∀ w', kC w w' → okC w' (addL σ.1 (xN a) (xN b) d.toInt (xN l), psh σ.2.1 σ.1, σ.2.2) → Q (nI (nL σ.1)) w') (k1 : pAddLeg σ.1 a b d l = 1 → X IOB w) (k2 : pAddLeg σ.1 a b d l = 2 → X IAE w) (k3 : pAddLeg σ.1 a b d l = 3 → X ISE w) : wp_X8_addLeg a b d l w Q X := by
  obtain ⟨hS, hd, hh, ht⟩ := id h
  have hm := hS.m
  have hll := hS.l
  unfold wp_X8_addLeg wp_X8_addLeg_J22 wp_X8_addLeg_J50
  unfold pAddLeg at k0 k1 k2 k3
  refine s_hasMark' hS hd.1 (fun c m hmm em => ⟨fun z => absurd z (by decide), fun _ => ?_⟩) (fun c => ⟨fun _ => k1 (by rw [if_neg (by rw [c]; simp)]), fun z => absurd rfl z⟩)
  refine s_hasMark' hS hd.1 (fun c2 o hoo eo => ⟨fun _ => ?_, fun z => absurd z (by decide)⟩) (fun c2 => ⟨fun z => absurd rfl z, fun _ => k1 (by rw [if_neg (by rw [c2]; simp)])⟩)
  rw [if_pos ⟨c, c2⟩] at k0 k1 k2 k3
  refine ⟨fun q => k2 (by rw [if_neg (fun z => z.1 q)]), fun q => ?_⟩
  refine s_isDifference (fun c3 => ⟨fun z => absurd z (by decide), fun _ => ?_⟩) (fun c3 => ⟨fun _ => k2 (by rw [if_neg (by rw [c3]; simp)]), fun z => absurd rfl z⟩)
  refine s_isLength (fun c4 => ⟨fun _ => ?_, fun z => absurd z (by decide)⟩) (fun c4 => ⟨fun z => absurd rfl z, fun _ => k2 (by rw [if_neg (by rw [c4]; simp)])⟩)
  rw [if_pos ⟨q, c3, c4⟩] at k0 k1 k2 k3
  obtain ⟨v, e, e2, v1, v2⟩ := inR_e c3 (by omega) (by omega)
  obtain ⟨u, g, g2, u1, u2⟩ := inR_e c4 (by omega) (by omega)
  rw [hd.1.2.1, show (20 : Int32) = nI 20 from rfl, n_lt (by omega) (by omega)]
  refine ⟨fun q2 => s_save hS hd.1 hh (fun w1 f1 h1 => ?_), fun q2 => k3 (by rw [if_neg q2])⟩
  subst em; subst eo
  have hne : m ≠ o := fun z => q (by rw [z])
  have el : l = nI u.toNat := by rw [g, ← iI_nat]; congr 1; omega
  have en : xN l = u.toNat := by unfold xN; rw [g2]
  rw [xN_nI (by omega), xN_nI (by omega), e2, en] at k0
  have hS' := wf_addL hS (f := m) (t := o) (d := v) (l := u.toNat) q2 hmm hoo hne ⟨v1, v2⟩ ⟨by omega, by omega⟩
  rw [e, el]
  refine s_putLeg hS (hd.1.fh f1) (fun _ w2 f2 r2 => ?_) (fun z => absurd z (by omega))
  refine s_renew hS' r2 (fun w3 f3 d3 => ?_)
  obtain ⟨z1, z2⟩ := okC_new h hS' f1 h1 f2 f3 d3
  rw [d3.1.2.1, show nL (addL σ.1 m o v u.toNat) = nL σ.1 + 1 from rfl, nI_pred]
  exact k0 (by rw [if_pos q2]) w3 z1 z2
def pMeasure (S : Sv) (x y : Int32) : Nat := if iL S x = true then (if inR y (-9999) 9999 = true then 0 else 2) else 1
theorem dC.fh {w w' : Wd} {S : Sv} (h : dC 0 w S) (f : fh w w') : dC 0 w' S := by
  have e : ∀ b, b ≠ 27 → ∀ j, wi w' 0 b j = wi w 0 b j := fun b hb j => f.1 0 b (by omega) (by omega) j
  obtain ⟨h1, h2, h3⟩ := h
  refine ⟨by rw [e 12 (by omega)]; exact h1, by rw [e 12 (by omega)]; exact h2, fun j hj => ?_⟩
  obtain ⟨a, b, c, d, f⟩ := h3 j hj
  exact ⟨by rw [e 14 (by omega)]; exact a, by rw [e 15 (by omega)]; exact b, by rw [e 16 (by omega)]; exact c, by rw [e 17 (by omega)]; exact d, by rw [e 18 (by omega)]; exact f⟩
theorem c_measure {x y : Int32} {w : Wd} {σ : Ss} {Q : Int32 → Wd → Prop} {X : String → Wd → Prop} (h : okC w σ) (k0 : pMeasure σ.1 x y = 0 → ∀ w', kC w w' → okC w' (meaL σ.1 (xN x) y.toInt, psh σ.2.1 σ.1, σ.2.2) → Q (iI (smm σ.1 - smm (meaL σ.1 (xN x) y.toInt) + 1000000)) w') (k1 : pMeasure σ.1 x y = 1 → X IOB w) (k2 : pMeasure σ.1 x y = 2 → X IAE w) : wp_X8_measure x y w Q X := by
  obtain ⟨hS, hd, hh, ht⟩ := id h
  have hll := hS.l
  unfold wp_X8_measure
  unfold pMeasure at k0 k1 k2
  refine s_hasLeg' hS hd.1 (fun c m hmm em => ⟨fun _ => ?_, fun z => absurd z (by decide)⟩) (fun c => ⟨fun z => absurd rfl z, fun _ => k1 (by rw [if_neg (by rw [c]; decide)])⟩)
  rw [if_pos c] at k0 k1 k2
  refine s_isDifference (fun c2 => ⟨fun _ => ?_, fun z => absurd z (by decide)⟩) (fun c2 => ⟨fun z => absurd rfl z, fun _ => k2 (by rw [if_neg (by rw [c2]; decide)])⟩)
  obtain ⟨v, e, e2, v1, v2⟩ := inR_e c2 (by omega) (by omega)
  refine s_save hS hd.1 hh (fun w1 f1 h1 => s_missesTogether hS (hd.2.2.1.fh f1) ?_)
  have r1 := hd.1.fh f1
  have hS' := wf_meaL hS (l := m) (d := v) ⟨v1, v2⟩
  subst em
  rw [n_cl (by omega), e]
  refine ⟨n_in (by omega) (by omega), fun w2 q2 => s_renew hS' (by rw [q2]; exact rS_mea r1) (fun w3 f3 d3 => s_missesTogether hS' d3.2.2.1 ?_)⟩
  obtain ⟨z1, z2⟩ := okC_new h hS' f1 h1 (by rw [q2]; exact fm.rf.sI (by omega) (by omega)) f3 d3
  rw [xN_nI (by omega), e2] at k0
  rw [show (1000000 : Int32) = iI 1000000 from rfl, iI_sub, iI_add]
  exact k0 (by rw [if_pos c2]) w3 z1 z2
def pLeg1 (S : Sv) (x : Int32) : Nat := if iL S x = true then 0 else 1
theorem c_turn {x : Int32} {w : Wd} {σ : Ss} {Q : Int32 → Wd → Prop} {X : String → Wd → Prop} (h : okC w σ) (k0 : pLeg1 σ.1 x = 0 → ∀ w', kC w w' → okC w' (turL σ.1 (xN x), psh σ.2.1 σ.1, σ.2.2) → Q (nI (tO σ.1 (xN x))) w') (k1 : pLeg1 σ.1 x = 1 → X IOB w) : wp_X8_turn x w Q X := by
  obtain ⟨hS, hd, hh, ht⟩ := id h
  have hll := hS.l
  unfold wp_X8_turn
  unfold pLeg1 at k0 k1
  refine s_hasLeg' hS hd.1 (fun c m hmm em => ⟨fun _ => ?_, fun z => absurd z (by decide)⟩) (fun c => ⟨fun z => absurd rfl z, fun _ => k1 (by rw [if_neg (by rw [c]; decide)])⟩)
  subst em
  rw [xN_nI (by omega)] at k0
  have hS' := wf_turL hS hmm
  refine s_save hS hd.1 hh (fun w1 f1 h1 => s_turnAround hS (hd.1.fh f1) hmm (fun w2 f2 r2 => s_renew hS' r2 (fun w3 f3 d3 => ?_)))
  obtain ⟨z1, z2⟩ := okC_new h hS' f1 h1 f2 f3 d3
  rw [n_cl (by omega), (d3.1.2.2.2.1 m hmm).1, show fr (turL σ.1 m) m = tO σ.1 m from if_pos rfl]
  exact ⟨n_in (by omega) (by omega), k0 (by rw [if_pos c]) w3 z1 z2⟩
theorem c_removeLeg {x : Int32} {w : Wd} {σ : Ss} {Q : Int32 → Wd → Prop} {X : String → Wd → Prop} (h : okC w σ) (k0 : pLeg1 σ.1 x = 0 → ∀ w', kC w w' → okC w' (drpL σ.1 (xN x), psh σ.2.1 σ.1, σ.2.2) → Q (nI (nlp (drpL σ.1 (xN x)))) w') (k1 : pLeg1 σ.1 x = 1 → X IOB w) : wp_X8_removeLeg x w Q X := by
  obtain ⟨hS, hd, hh, ht⟩ := id h
  have hll := hS.l
  unfold wp_X8_removeLeg
  unfold pLeg1 at k0 k1
  refine s_hasLeg' hS hd.1 (fun c m hmm em => ⟨fun _ => ?_, fun z => absurd z (by decide)⟩) (fun c => ⟨fun z => absurd rfl z, fun _ => k1 (by rw [if_neg (by rw [c]; decide)])⟩)
  subst em
  rw [xN_nI (by omega)] at k0
  have hS' := wf_drpL hS hmm
  refine s_save hS hd.1 hh (fun w1 f1 h1 => s_dropLeg hS (hd.1.fh f1) hmm (fun w2 f2 r2 => s_renew hS' r2 (fun w3 f3 d3 => ?_)))
  obtain ⟨z1, z2⟩ := okC_new h hS' f1 h1 f2 f3 d3
  rw [d3.2.2.1.1]
  exact k0 (by rw [if_pos c]) w3 z1 z2
def pSet (x y : Int32) : Nat := if inR x 0 2 = true then (if inR y 0 (if x = 2 then 999 else 99) = true then 0 else 2) else 1
theorem c_set {x y : Int32} {w : Wd} {σ : Ss} {Q : Int32 → Wd → Prop} {X : String → Wd → Prop} (h : okC w σ) (k0 : pSet x y = 0 → ∀ w', kC w w' → okC w' (setS σ.1 (xN x) y.toInt, psh σ.2.1 σ.1, σ.2.2) → Q (iI (st σ.1 (xN x))) w') (k1 : pSet x y = 1 → X IOB w) (k2 : pSet x y = 2 → X IAE w) : wp_X8_set x y w Q X := by
  obtain ⟨hS, hd, hh, ht⟩ := id h
  unfold wp_X8_set wp_X8_set_J33 wp_X8_set_J36
  unfold pSet at k0 k1 k2
  refine s_isSetting (fun c => ⟨fun _ => ?_, fun z => absurd z (by decide)⟩) (fun c => ⟨fun z => absurd rfl z, fun _ => k1 (by rw [if_neg (by rw [c]; decide)])⟩)
  rw [if_pos c] at k0 k1 k2
  obtain ⟨i, ei, ei2, i1, i2⟩ := inR_e c (by omega) (by omega)
  obtain ⟨v, hv, e, e2⟩ := of_int y
  have en : xN x = i.toNat := by unfold xN; rw [ei2]
  have ex : x = nI i.toNat := by rw [ei, ← iI_nat]; congr 1; omega
  have go : ∀ M : Int, (inR y 0 M = true → 0 ≤ v ∧ v ≤ M) ∧ (inR y 0 M = false → ¬ (0 ≤ v ∧ v ≤ M)) := fun M => by
    unfold inR
    rw [e2]
    exact ⟨fun q => of_decide_eq_true q, fun q => of_decide_eq_false q⟩
  have fin : 0 ≤ v → v ≤ 999 → (i.toNat = 2 ∨ v ≤ 99) → (∀ w', kC w w' → okC w' (setS σ.1 (xN x) y.toInt, psh σ.2.1 σ.1, σ.2.2) → Q (iI (st σ.1 (xN x))) w') → wp_X1_save 0 w (fun w52 => vp_in x 3 ∧ vp_in x 3 ∧ (∀ w74 : Wd, w74 = (sI w52 0 6 x.toNatClampNeg y) → wp_X4_renew 0 w74 (fun w79 => Q (wi w52 0 6 x.toNatClampNeg) w79))) := by
    intro v0 v1 v2 kk
    have hS' := wf_setS hS (i := i.toNat) v0 v1 v2
    refine s_save hS hd.1 hh (fun w1 f1 h1 => ?_)
    have r1 := hd.1.fh f1
    rw [en, e2] at kk
    rw [ex, n_cl (by omega), r1.2.2.2.2 i.toNat (by omega), e]
    refine ⟨n_in (by omega) (by omega), n_in (by omega) (by omega), fun w2 q2 => s_renew hS' (by rw [q2]; exact rS_set r1) (fun w3 f3 d3 => ?_)⟩
    obtain ⟨z1, z2⟩ := okC_new h hS' f1 h1 (by rw [q2]; exact fm.rf.sI (by omega) (by omega)) f3 d3
    exact kk w3 z1 z2
  have eq2 : x = 2 ↔ i.toNat = 2 := by
    rw [ex, show (2 : Int32) = nI 2 from rfl, n_eq (by omega) (by omega)]
  rw [show y < 0 ↔ v < 0 by rw [e, iI_lt0 hv], show y ≤ (99 : Int32) ↔ v ≤ 99 by rw [e, show (99 : Int32) = iI 99 from rfl, iI_le hv ⟨by omega, by omega⟩], show y ≤ (999 : Int32) ↔ v ≤ 999 by rw [e, show (999 : Int32) = iI 999 from rfl, iI_le hv ⟨by omega, by omega⟩]]
  have no : ∀ M : Int, ¬ (0 ≤ v ∧ v ≤ M) → inR y 0 M = false := fun M q => by
    unfold inR; rw [e2]; exact decide_eq_false q
  have ye : ∀ M : Int, (0 ≤ v ∧ v ≤ M) → inR y 0 M = true := fun M q => by
    unfold inR; rw [e2]; exact decide_eq_true q
  refine ⟨fun z => k2 (by rw [if_neg]; rw [no _ (by omega)]; decide), fun z => ⟨fun q => ?_, fun q => ?_⟩⟩
  · rw [if_neg q] at k0 k1 k2
    refine ⟨fun z2 => fin (by omega) (by omega) (Or.inr z2) (k0 (by rw [if_pos (ye _ ⟨by omega, z2⟩)])), fun z2 => k2 (by rw [if_neg]; rw [no _ (by omega)]; decide)⟩
  · rw [if_pos q] at k0 k1 k2
    refine ⟨fun z2 => fin (by omega) z2 (Or.inl (eq2.mp q)) (k0 (by rw [if_pos (ye _ ⟨by omega, z2⟩)])), fun z2 => k2 (by rw [if_neg]; rw [no _ (by omega)]; decide)⟩
