/-! the tree hangs on the labels: up (by which leg a mark hangs), tt (the legs above a mark), dn (legs that hang their latter mark) -/
abbrev Ht : Type := (Nat → Option Nat) × (Nat → Nat → Bool) × (Nat → Bool)
def hung (S : Sv) (h : Ht) (m : Nat) : Bool := (net S m == m) || (h.1 m).isSome
def hang1 (h : Ht) (m o l : Nat) (d : Bool) : Ht := (fun x => if x = m then some l else h.1 x, fun x => if x = m then (fun k => k == l || h.2.1 o k) else h.2.1 x, fun k => (d && (k == l)) || h.2.2 k)
def hst (S : Sv) (h : Ht) (l : Nat) : Ht :=
  if tr S l = true then
    if hung S h (fr S l) = hung S h (tO S l) then h
    else if hung S h (fr S l) = true then hang1 h (tO S l) (fr S l) l true
    else hang1 h (fr S l) (tO S l) l false
  else h
def psK (S : Sv) (h : Ht) : Nat → Ht
  | 0 => h
  | k + 1 => hst S (psK S h k) k
def hgK (S : Sv) : Nat → Ht
  | 0 => (fun _ => none, fun _ _ => false, fun _ => false)
  | r + 1 => psK S (hgK S r) (nL S)
def hg (S : Sv) : Ht := hgK S (nM S)
/-- m hangs on o by the leg l -/
def onBy (S : Sv) (h : Ht) (m o l : Nat) : Prop := ((m = tO S l ∧ o = fr S l ∧ h.2.2 l = true) ∨ (m = fr S l ∧ o = tO S l ∧ h.2.2 l = false)) ∧ hung S h o = true ∧ (∀ k, h.2.1 m k = (k == l || h.2.1 o k)) ∧ h.2.1 o l = false
def HI (S : Sv) (h : Ht) : Prop :=
  (∀ m l, h.1 m = some l → tr S l = true ∧ m < nM S ∧ net S m ≠ m ∧ ∃ o, onBy S h m o l) ∧
  (∀ m, h.1 m = none → ∀ k, h.2.1 m k = false) ∧ (∀ m k, h.2.1 m k = true → ∃ c, h.1 c = some k) ∧
  (∀ c c' l, h.1 c = some l → h.1 c' = some l → c = c') ∧ (∀ l, h.2.2 l = true → ∃ c, h.1 c = some l)
def usd (S : Sv) (h : Ht) (l : Nat) : Bool := h.2.1 (fr S l) l || h.2.1 (tO S l) l
theorem HI.both {S : Sv} {h : Ht} (H : HI S h) {c l : Nat} (hc : h.1 c = some l) : hung S h (fr S l) = true ∧ hung S h (tO S l) = true := by
  obtain ⟨h1, h2, h3, o, h4, h5, -, -⟩ := H.1 c l hc
  have hcg : hung S h c = true := by simp [hung, hc]
  rcases h4 with ⟨rfl, rfl, -⟩ | ⟨rfl, rfl, -⟩
  · exact ⟨h5, hcg⟩
  · exact ⟨hcg, h5⟩
theorem HI.no {S : Sv} {h : Ht} (H : HI S h) {l : Nat} (hne : ¬ hung S h (fr S l) = hung S h (tO S l)) (m : Nat) : h.2.1 m l = false := by
  cases q : h.2.1 m l
  · rfl
  · obtain ⟨c, hc⟩ := H.2.2.1 m l q
    obtain ⟨a, b⟩ := H.both hc
    exact absurd (a.trans b.symm) hne
theorem hung_hang1 {S : Sv} {h : Ht} {m o l : Nat} {d : Bool} (x : Nat) : hung S (hang1 h m o l d) x = (x == m || hung S h x) := by
  unfold hung hang1
  by_cases hx : x = m
  · subst hx; simp
  · simp [hx]
theorem HI_hang1 {S : Sv} {h : Ht} (hS : wf S) (H : HI S h) {m o l : Nat} {d : Bool} (ht : tr S l = true) (hm : hung S h m = false) (ho : hung S h o = true) (he : (m = tO S l ∧ o = fr S l ∧ d = true) ∨ (m = fr S l ∧ o = tO S l ∧ d = false)) : HI S (hang1 h m o l d) := by
  have hne : ¬ hung S h (fr S l) = hung S h (tO S l) := by
    rcases he with ⟨rfl, rfl, -⟩ | ⟨rfl, rfl, -⟩
    · rw [ho, hm]; simp
    · rw [ho, hm]; simp
  have hno := H.no hne
  have hup : ∀ c, h.1 c ≠ some l := fun c hc => by
    obtain ⟨a, b⟩ := H.both hc
    exact hne (a.trans b.symm)
  have hdl : h.2.2 l = false := by
    cases q : h.2.2 l
    · rfl
    · obtain ⟨c, hc⟩ := H.2.2.2.2 l q
      exact absurd hc (hup c)
  have hmo : m ≠ o := fun q => by rw [q, ho] at hm; cases hm
  have hum : h.1 m = none := by
    cases q : h.1 m
    · rfl
    · simp [hung, q] at hm
  have hnm : net S m ≠ m := by
    intro q
    simp [hung, q] at hm
  have hmlt : m < nM S := by
    have := hS.g (tr_lt ht)
    rcases he with ⟨rfl, -, -⟩ | ⟨rfl, -, -⟩
    · exact this.2.1
    · exact this.1
  refine ⟨fun x k hx => ?_, fun x hx k => ?_, fun x k hk => ?_, fun c c' k hc hc' => ?_, fun k hk => ?_⟩
  · by_cases hxm : x = m
    · subst hxm
      simp only [hang1, if_pos] at hx
      cases hx
      refine ⟨ht, hmlt, hnm, o, ?_, ?_, fun k => ?_, ?_⟩
      · rcases he with ⟨a, b, c⟩ | ⟨a, b, c⟩
        · exact Or.inl ⟨a, b, by simp [hang1, c]⟩
        · exact Or.inr ⟨a, b, by simp [hang1, c, hdl]⟩
      · rw [hung_hang1, ho]; simp
      · simp [hang1, Ne.symm hmo]
      · simp [hang1, Ne.symm hmo, hno]
    · simp only [hang1, if_neg hxm] at hx
      obtain ⟨h1, h2, h3, o', h4, h5, h6, h7⟩ := H.1 x k hx
      have hkl : k ≠ l := fun q => hup x (q ▸ hx)
      have ho' : o' ≠ m := fun q => by rw [q, hm] at h5; cases h5
      refine ⟨h1, h2, h3, o', ?_, ?_, fun j => ?_, ?_⟩
      · have e : (hang1 h m o l d).2.2 k = h.2.2 k := by simp [hang1, hkl]
        rw [e]; exact h4
      · rw [hung_hang1, h5]; simp
      · simp only [hang1, if_neg hxm, if_neg ho']; exact h6 j
      · simp only [hang1, if_neg ho']; exact h7
  · by_cases hxm : x = m
    · subst hxm; simp [hang1] at hx
    · simp only [hang1, if_neg hxm] at hx ⊢
      exact H.2.1 x hx k
  · by_cases hxm : x = m
    · subst hxm
      simp only [hang1, if_true, Bool.or_eq_true, beq_iff_eq] at hk
      rcases hk with rfl | hk
      · exact ⟨x, by simp [hang1]⟩
      · obtain ⟨c, hc⟩ := H.2.2.1 o k hk
        refine ⟨c, ?_⟩
        have : c ≠ x := fun q => by rw [q, hum] at hc; cases hc
        simp [hang1, this, hc]
    · simp only [hang1, if_neg hxm] at hk
      obtain ⟨c, hc⟩ := H.2.2.1 x k hk
      refine ⟨c, ?_⟩
      have : c ≠ m := fun q => by rw [q, hum] at hc; cases hc
      simp [hang1, this, hc]
  · by_cases h1 : c = m
    · by_cases h2 : c' = m
      · rw [h1, h2]
      · simp only [hang1, if_pos h1, if_neg h2] at hc hc'
        cases hc
        exact absurd hc' (hup c')
    · by_cases h2 : c' = m
      · simp only [hang1, if_pos h2, if_neg h1] at hc hc'
        cases hc'
        exact absurd hc (hup c)
      · simp only [hang1, if_neg h1, if_neg h2] at hc hc'
        exact H.2.2.2.1 c c' k hc hc'
  · simp only [hang1, Bool.or_eq_true, Bool.and_eq_true, beq_iff_eq] at hk
    rcases hk with ⟨-, rfl⟩ | hk
    · exact ⟨m, by simp [hang1]⟩
    · obtain ⟨c, hc⟩ := H.2.2.2.2 k hk
      refine ⟨c, ?_⟩
      have : c ≠ m := fun q => by rw [q, hum] at hc; cases hc
      simp [hang1, this, hc]
/-- a step hangs a mark, or changes nothing -/
theorem hst_or {S : Sv} {h : Ht} {l : Nat} : hst S h l = h ∨ ∃ m o d, hst S h l = hang1 h m o l d ∧ tr S l = true ∧ hung S h m = false ∧ hung S h o = true ∧ ((m = tO S l ∧ o = fr S l ∧ d = true) ∨ (m = fr S l ∧ o = tO S l ∧ d = false)) := by
  unfold hst
  by_cases h1 : tr S l = true
  · rw [if_pos h1]
    by_cases h2 : hung S h (fr S l) = hung S h (tO S l)
    · rw [if_pos h2]; exact Or.inl rfl
    · rw [if_neg h2]
      by_cases h3 : hung S h (fr S l) = true
      · rw [if_pos h3]
        refine Or.inr ⟨_, _, _, rfl, h1, ?_, h3, Or.inl ⟨rfl, rfl, rfl⟩⟩
        cases q : hung S h (tO S l)
        · rfl
        · exact absurd (h3.trans q.symm) h2
      · rw [if_neg h3]
        have h4 : hung S h (fr S l) = false := by simpa using h3
        refine Or.inr ⟨_, _, _, rfl, h1, h4, ?_, Or.inr ⟨rfl, rfl, rfl⟩⟩
        cases q : hung S h (tO S l)
        · exact absurd (h4.trans q.symm) h2
        · rfl
  · rw [if_neg h1]; exact Or.inl rfl
theorem HI_hst {S : Sv} {h : Ht} (hS : wf S) (H : HI S h) (l : Nat) : HI S (hst S h l) := by
  rcases hst_or (S := S) (h := h) (l := l) with e | ⟨m, o, d, e, h1, h2, h3, h4⟩
  · rw [e]; exact H
  · rw [e]; exact HI_hang1 hS H h1 h2 h3 h4
theorem HI_psK {S : Sv} {h : Ht} (hS : wf S) (H : HI S h) (k : Nat) : HI S (psK S h k) := by
  induction k with
  | zero => exact H
  | succ k ih => exact HI_hst hS ih k
theorem HI_hgK {S : Sv} (hS : wf S) (r : Nat) : HI S (hgK S r) := by
  induction r with
  | zero =>
    refine ⟨fun m l h => ?_, fun _ _ _ => rfl, fun m k h => ?_, fun c c' l h => ?_, fun l h => ?_⟩ <;> simp [hgK] at h
  | succ r ih => exact HI_psK hS ih _
theorem HI_hg {S : Sv} (hS : wf S) : HI S (hg S) := HI_hgK hS _
/-- how many marks hang -/
def hc (S : Sv) (h : Ht) : Nat := ct (hung S h) (nM S)
theorem hc_hang1 {S : Sv} {h : Ht} {m o l : Nat} {d : Bool} (hm : hung S h m = false) (hlt : m < nM S) : hc S (hang1 h m o l d) = hc S h + 1 := by
  unfold hc
  rw [ct_one (P := hung S (hang1 h m o l d)) hlt, ct_one (P := hung S h) hlt, hm, hung_hang1]
  simp only [beq_self_eq_true, Bool.true_or, if_true]
  rw [ct_congr (f := fun k => !(k == m) && hung S (hang1 h m o l d) k) (g := fun k => !(k == m) && hung S h k) (fun k _ => by rw [hung_hang1]; cases (k == m) <;> simp)]
  simp; omega
theorem end_lt {S : Sv} (hS : wf S) {m o l : Nat} {d : Bool} (ht : tr S l = true) (he : (m = tO S l ∧ o = fr S l ∧ d = true) ∨ (m = fr S l ∧ o = tO S l ∧ d = false)) : m < nM S ∧ o < nM S := by
  have := hS.g (tr_lt ht)
  rcases he with ⟨rfl, rfl, -⟩ | ⟨rfl, rfl, -⟩
  · exact ⟨this.2.1, this.1⟩
  · exact ⟨this.1, this.2.1⟩
theorem hc_hst {S : Sv} {h : Ht} (hS : wf S) {l : Nat} : hst S h l = h ∨ hc S (hst S h l) = hc S h + 1 := by
  rcases hst_or (S := S) (h := h) (l := l) with e | ⟨m, o, d, e, h1, h2, h3, h4⟩
  · exact Or.inl e
  · rw [e]; exact Or.inr (hc_hang1 h2 (end_lt hS h1 h4).1)
theorem hc_psK {S : Sv} {h : Ht} (hS : wf S) (k : Nat) : hc S h ≤ hc S (psK S h k) ∧ (hc S (psK S h k) = hc S h → psK S h k = h) := by
  induction k with
  | zero => exact ⟨Nat.le_refl _, fun _ => rfl⟩
  | succ k ih =>
    rw [psK]
    rcases hc_hst (S := S) (h := psK S h k) hS (l := k) with e | e
    · rw [e]; exact ih
    · rw [e]; exact ⟨by omega, fun q => by omega⟩
theorem psK_or {S : Sv} {h : Ht} (hS : wf S) : psK S h (nL S) = h ∨ hc S h + 1 ≤ hc S (psK S h (nL S)) := by
  obtain ⟨h1, h2⟩ := hc_psK (h := h) hS (nL S)
  rcases Nat.lt_or_ge (hc S h) (hc S (psK S h (nL S))) with q | q
  · exact Or.inr q
  · exact Or.inl (h2 (by omega))
theorem hc_0 {S : Sv} (hS : wf S) (h0 : 0 < nM S) (h : Ht) : 1 ≤ hc S h := by
  unfold hc
  rw [ct_one (a := 0) h0]
  have : hung S h 0 = true := by
    have h1 := net_le hS 0
    have : net S 0 = 0 := by omega
    simp [hung, this]
  rw [this]; simp
theorem hgK_hc {S : Sv} (hS : wf S) (h0 : 0 < nM S) (r : Nat) : (∃ j, j < r ∧ psK S (hgK S j) (nL S) = hgK S j) ∨ r + 1 ≤ hc S (hgK S r) := by
  induction r with
  | zero => exact Or.inr (hc_0 hS h0 _)
  | succ r ih =>
    rcases ih with ⟨j, h1, h2⟩ | h1
    · exact Or.inl ⟨j, by omega, h2⟩
    · rcases psK_or (h := hgK S r) hS with e | e
      · exact Or.inl ⟨r, by omega, e⟩
      · exact Or.inr (by rw [hgK]; omega)
theorem hgK_stay {S : Sv} {j : Nat} (h : psK S (hgK S j) (nL S) = hgK S j) (r : Nat) (hr : j ≤ r) : hgK S r = hgK S j := by
  induction r with
  | zero => rw [show j = 0 by omega]
  | succ r ih =>
    by_cases q : j = r + 1
    · rw [q]
    · rw [hgK, ih (by omega), h]
theorem hc_le {S : Sv} (h : Ht) : hc S h ≤ nM S := ct_le _ _
theorem hst_full {S : Sv} (hS : wf S) {h : Ht} (hf : hc S h = nM S) (l : Nat) : hst S h l = h := by
  rcases hc_hst (h := h) hS (l := l) with e | e
  · exact e
  · have := hc_le (S := S) (hst S h l)
    omega
theorem psK_full {S : Sv} (hS : wf S) {h : Ht} (hf : hc S h = nM S) (k : Nat) : psK S h k = h := by
  induction k with
  | zero => rfl
  | succ k ih => rw [psK, ih, hst_full hS hf]
/-- the passes come to rest, at the latest behind one less than there are marks -/
theorem hgK_rest {S : Sv} (hS : wf S) (r : Nat) (hr : nM S ≤ r + 1) : psK S (hgK S r) (nL S) = hgK S r := by
  by_cases h0 : 0 < nM S
  · rcases hgK_hc hS h0 r with ⟨j, h1, h2⟩ | h1
    · rw [hgK_stay h2 r (by omega), h2]
    · exact psK_full hS (by have := hc_le (S := S) (hgK S r); omega) _
  · have hz : nL S = 0 := by
      rcases Nat.eq_zero_or_pos (nL S) with q | q
      · exact q
      · have := (hS.g (l := 0) q).1
        omega
    rw [hz]; rfl
/-- a place of rest is the end -/
theorem hg_of {S : Sv} (hS : wf S) {j : Nat} (h : psK S (hgK S j) (nL S) = hgK S j ∨ hc S (hgK S j) = nM S ∨ nM S ≤ j + 1) : hgK S j = hg S := by
  have hj : psK S (hgK S j) (nL S) = hgK S j := by
    rcases h with h | h | h
    · exact h
    · exact psK_full hS h _
    · exact hgK_rest hS j h
  unfold hg
  rcases Nat.le_total j (nM S) with q | q
  · exact (hgK_stay hj _ q).symm
  · exact hgK_stay (hgK_rest hS (nM S) (by omega)) _ q
theorem hg_rest {S : Sv} (hS : wf S) : psK S (hg S) (nL S) = hg S := hgK_rest hS _ (by omega)
theorem psK_id {S : Sv} {h : Ht} (hS : wf S) (hr : psK S h (nL S) = h) {l : Nat} (hl : l < nL S) : hst S h l = h := by
  have key : ∀ k, k ≤ nL S → psK S h k = h := by
    intro k hk
    have h1 := hc_psK (h := h) hS k
    refine h1.2 ?_
    have mono : ∀ j, hc S (psK S h k) ≤ hc S (psK S h (k + j)) := by
      intro j
      induction j with
      | zero => exact Nat.le_refl _
      | succ j ih =>
        rw [← Nat.add_assoc, psK]
        rcases hc_hst (S := S) (h := psK S h (k + j)) hS (l := k + j) with e | e
        · rw [e]; exact ih
        · omega
    have h2 := mono (nL S - k)
    rw [show k + (nL S - k) = nL S by omega, hr] at h2
    omega
  have h1 := key (l + 1) hl
  rw [psK, key l (by omega)] at h1
  exact h1
theorem hg_even {S : Sv} (hS : wf S) {l : Nat} (ht : tr S l = true) : hung S (hg S) (fr S l) = hung S (hg S) (tO S l) := by
  rcases hc_hst (S := S) (h := hg S) hS (l := l) with e | e
  · rcases hst_or (S := S) (h := hg S) (l := l) with _ | ⟨m, o, d, e', h1, h2, h3, h4⟩
    · by_cases q : hung S (hg S) (fr S l) = hung S (hg S) (tO S l)
      · exact q
      · exfalso
        unfold hst at e
        rw [if_pos ht, if_neg q] at e
        split at e
        · rename_i q1
          have := congrArg (fun z => hung S z (tO S l)) e
          simp only [hung_hang1] at this
          simp at this
          exact q (q1.trans this.symm)
        · rename_i q1
          have := congrArg (fun z => hung S z (fr S l)) e
          simp only [hung_hang1] at this
          simp at this
          exact q1 this
    · rw [e'] at e
      have := hc_hang1 (o := o) (l := l) (d := d) h2 (end_lt hS h1 h4).1
      rw [e] at this
      omega
  · have h1 := psK_id hS (hg_rest hS) (tr_lt ht)
    rw [h1] at e
    omega
theorem hg_all {S : Sv} (hS : wf S) (m : Nat) : hung S (hg S) m = true := by
  rw [net_cut hS (hung S (hg S)) (fun l hl => hg_even hS hl) m]
  simp [hung, net_net hS]
/-! the end: chains -/
def uP (S : Sv) (m : Nat) : Option Nat := (hg S).1 m
def tT (S : Sv) (m l : Nat) : Bool := (hg S).2.1 m l
def dN (S : Sv) (l : Nat) : Bool := (hg S).2.2 l
theorem uP_top {S : Sv} (hS : wf S) {m : Nat} (h : net S m = m) : uP S m = none := by
  cases q : uP S m
  · rfl
  · exact absurd h ((HI_hg hS).1 m _ q).2.2.1
theorem uP_ex {S : Sv} (hS : wf S) {m : Nat} (h : net S m ≠ m) : ∃ l, uP S m = some l := by
  have h1 := hg_all hS m
  simp only [hung, Bool.or_eq_true, beq_iff_eq] at h1
  rcases h1 with h1 | h1
  · exact absurd h1 h
  · exact Option.isSome_iff_exists.mp h1
theorem tT_top {S : Sv} (hS : wf S) {m : Nat} (h : uP S m = none) (l : Nat) : tT S m l = false := (HI_hg hS).2.1 m h l
/-- what is known where a mark hangs -/
theorem uP_on {S : Sv} (hS : wf S) {m l : Nat} (h : uP S m = some l) : tr S l = true ∧ l < nL S ∧ m < nM S ∧ net S m ≠ m ∧ ∃ o, o < nM S ∧ o ≠ m ∧ ((m = tO S l ∧ o = fr S l ∧ dN S l = true) ∨ (m = fr S l ∧ o = tO S l ∧ dN S l = false)) ∧ (∀ k, tT S m k = (k == l || tT S o k)) ∧ tT S o l = false := by
  obtain ⟨h1, h2, h3, o, h4, h5, h6, h7⟩ := (HI_hg hS).1 m l h
  have hw := hS.g (tr_lt h1)
  refine ⟨h1, tr_lt h1, h2, h3, o, ?_, ?_, h4, h6, h7⟩
  · rcases h4 with ⟨-, rfl, -⟩ | ⟨-, rfl, -⟩
    · exact hw.1
    · exact hw.2.1
  · rcases h4 with ⟨rfl, rfl, -⟩ | ⟨rfl, rfl, -⟩
    · exact hw.2.2.1
    · exact fun q => hw.2.2.1 q.symm
theorem tT_used {S : Sv} (hS : wf S) {m l : Nat} (h : tT S m l = true) : ∃ c, uP S c = some l := (HI_hg hS).2.2.1 m l h
theorem tT_tr {S : Sv} (hS : wf S) {m l : Nat} (h : tT S m l = true) : tr S l = true := by
  obtain ⟨c, hc⟩ := tT_used hS h
  exact (uP_on hS hc).1
theorem tT_lt {S : Sv} (hS : wf S) {m l : Nat} (h : tT S m l = true) : l < nL S := tr_lt (tT_tr hS h)
theorem uP_inj {S : Sv} (hS : wf S) {c c' l : Nat} (h : uP S c = some l) (h' : uP S c' = some l) : c = c' := (HI_hg hS).2.2.2.1 c c' l h h'
/-- how deep a mark hangs -/
def dp (S : Sv) (m : Nat) : Nat := ct (tT S m) (nL S)
theorem dp_up {S : Sv} {m o l : Nat} (hl : l < nL S) (h : ∀ k, tT S m k = (k == l || tT S o k)) (h2 : tT S o l = false) : dp S m = dp S o + 1 := by
  unfold dp
  rw [ct_one (P := tT S m) hl, ct_one (P := tT S o) hl, h2, h l]
  simp only [beq_self_eq_true, Bool.true_or, if_true]
  rw [ct_congr (f := fun k => !(k == l) && tT S m k) (g := fun k => !(k == l) && tT S o k) (fun k _ => by rw [h k]; cases (k == l) <;> simp)]
  simp; omega
theorem dp_ind {S : Sv} {P : Nat → Prop} (h : ∀ m, (∀ o, dp S o < dp S m → P o) → P m) (m : Nat) : P m := by
  have key : ∀ n m, dp S m < n → P m := by
    intro n
    induction n with
    | zero => intro m hm; omega
    | succ n ih => intro m hm; exact h m (fun o ho => ih o (by omega))
  exact key (dp S m + 1) m (by omega)
theorem tT_sub {S : Sv} (hS : wf S) {c l : Nat} (hc : uP S c = some l) : ∀ x, tT S x l = true → ∀ k, tT S c k = true → tT S x k = true := by
  intro x
  induction x using dp_ind (S := S) with
  | h x ih =>
    intro hx k hk
    cases q : uP S x with
    | none => rw [tT_top hS q] at hx; cases hx
    | some l' =>
      obtain ⟨-, hl', -, -, o, -, -, -, h6, h7⟩ := uP_on hS q
      rw [h6] at hx ⊢
      by_cases e : l = l'
      · subst e
        have := uP_inj hS hc q
        subst this
        rw [h6] at hk
        exact hk
      · have e' : (l == l') = false := by simpa using e
        rw [e', Bool.false_or] at hx
        rw [ih o (by rw [dp_up hl' h6 h7]; omega) hx k hk, Bool.or_true]
/-- above a mark the legs stand in a row -/
theorem tT_lin {S : Sv} (hS : wf S) {c1 c2 l1 l2 : Nat} (h1 : uP S c1 = some l1) (h2 : uP S c2 = some l2) : ∀ x, tT S x l1 = true → tT S x l2 = true → tT S c1 l2 = true ∨ tT S c2 l1 = true := by
  intro x
  induction x using dp_ind (S := S) with
  | h x ih =>
    intro hx1 hx2
    cases q : uP S x with
    | none => rw [tT_top hS q] at hx1; cases hx1
    | some l' =>
      obtain ⟨-, hl', -, -, o, -, -, -, h6, h7⟩ := uP_on hS q
      by_cases e1 : l1 = l'
      · subst e1
        have := uP_inj hS h1 q
        subst this
        exact Or.inl hx2
      · by_cases e2 : l2 = l'
        · subst e2
          have := uP_inj hS h2 q
          subst this
          exact Or.inr hx1
        · have q1 : (l1 == l') = false := by simpa using e1
          have q2 : (l2 == l') = false := by simpa using e2
          rw [h6, q1, Bool.false_or] at hx1
          rw [h6, q2, Bool.false_or] at hx2
          exact ih o (by rw [dp_up hl' h6 h7]; omega) hx1 hx2
/-! all legs of the tree hang a mark -/
theorem uc_hst {S : Sv} {h : Ht} (hS : wf S) (H : HI S h) (l : Nat) (e : ct (usd S h) (nL S) + ct (fun m => net S m == m) (nM S) = hc S h) : ct (usd S (hst S h l)) (nL S) + ct (fun m => net S m == m) (nM S) = hc S (hst S h l) := by
  rcases hst_or (S := S) (h := h) (l := l) with q | ⟨m, o, d, q, h1, h2, h3, h4⟩
  · rw [q]; exact e
  · rw [q, hc_hang1 h2 (end_lt hS h1 h4).1, ← e]
    have hne : ¬ hung S h (fr S l) = hung S h (tO S l) := by
      rcases h4 with ⟨rfl, rfl, -⟩ | ⟨rfl, rfl, -⟩ <;> rw [h2, h3] <;> simp
    have hno := H.no hne
    have hum : h.1 m = none := by
      cases z : h.1 m
      · rfl
      · simp [hung, z] at h2
    have hb := H.2.1 m hum
    have hl := tr_lt h1
    have hmm : m = fr S l ∨ m = tO S l := by
      rcases h4 with ⟨a, -, -⟩ | ⟨a, -, -⟩
      · exact Or.inr a
      · exact Or.inl a
    have hom : o ≠ m := fun z => by rw [z, h2] at h3; cases h3
    have e1 : usd S (hang1 h m o l d) l = true := by
      unfold usd
      rcases hmm with z | z
      · rw [← z]; simp [hang1]
      · rw [← z]; simp [hang1]
    have e2 : usd S h l = false := by unfold usd; rw [hno, hno]; rfl
    have e3 : ∀ k, k ≠ l → usd S (hang1 h m o l d) k = usd S h k := by
      intro k hk
      have hkl : (k == l) = false := by simpa using hk
      have hx : ∀ x, (x = fr S k ∨ x = tO S k) → (hang1 h m o l d).2.1 x k = h.2.1 x k := by
        intro x hx
        by_cases z : x = m
        · subst z
          simp only [hang1, if_true, hkl, Bool.false_or]
          rw [hb k]
          cases y : h.2.1 o k
          · rfl
          · obtain ⟨c, hc'⟩ := H.2.2.1 o k y
            obtain ⟨b1, b2⟩ := H.both hc'
            rcases hx with hx | hx
            · rw [← hx, h2] at b1; cases b1
            · rw [← hx, h2] at b2; cases b2
        · simp [hang1, z]
      unfold usd
      rw [hx _ (Or.inl rfl), hx _ (Or.inr rfl)]
    rw [ct_one (P := usd S (hang1 h m o l d)) hl, ct_one (P := usd S h) hl, e1, e2]
    rw [ct_congr (f := fun k => !(k == l) && usd S (hang1 h m o l d) k) (g := fun k => !(k == l) && usd S h k) (fun k _ => by
      by_cases z : k = l
      · simp [z]
      · rw [e3 k z])]
    simp; omega
theorem uc_hg {S : Sv} (hS : wf S) : ct (usd S (hg S)) (nL S) + ct (fun m => net S m == m) (nM S) = nM S := by
  have key : ∀ r, ct (usd S (hgK S r)) (nL S) + ct (fun m => net S m == m) (nM S) = hc S (hgK S r) := by
    intro r
    induction r with
    | zero =>
      have h1 : ct (usd S (hgK S 0)) (nL S) = 0 := by
        have : ∀ n, ct (fun _ : Nat => false) n = 0 := by
          intro n; induction n with
          | zero => rfl
          | succ n ih => simp [ct, ih]
        exact (ct_congr (g := fun _ => false) (fun k _ => rfl)).trans (this _)
      rw [h1]
      unfold hc
      rw [Nat.zero_add]
      exact ct_congr (fun k _ => by simp [hung, hgK])
    | succ r ih =>
      rw [hgK]
      have key2 : ∀ k, ct (usd S (psK S (hgK S r) k)) (nL S) + ct (fun m => net S m == m) (nM S) = hc S (psK S (hgK S r) k) := by
        intro k
        induction k with
        | zero => exact ih
        | succ k ihk => exact uc_hst hS (HI_psK hS (HI_hgK hS r) k) k ihk
      exact key2 _
  have h1 := key (nM S)
  have h2 : hc S (hg S) = nM S := by
    unfold hc
    have : ∀ n, ct (hung S (hg S)) n = n := by
      intro n; induction n with
      | zero => rfl
      | succ n ih => simp [ct, ih, hg_all hS]
    exact this _
  rw [show hgK S (nM S) = hg S from rfl, h2] at h1
  exact h1
theorem usd_up {S : Sv} (hS : wf S) {l : Nat} (h : usd S (hg S) l = true) : ∃ c, uP S c = some l := by
  simp only [usd, Bool.or_eq_true] at h
  rcases h with h | h
  · exact tT_used hS h
  · exact tT_used hS h
theorem tr_up {S : Sv} (hS : wf S) {l : Nat} (h : tr S l = true) : ∃ c, uP S c = some l := by
  refine usd_up hS (ct_eq (P := usd S (hg S)) (Q := tr S) (n := nL S) (fun k _ hk => ?_) ?_ l (tr_lt h) h)
  · obtain ⟨c, hc⟩ := usd_up hS hk
    exact (uP_on hS hc).1
  · have h1 := uc_hg hS
    have h2 := tr_cnt hS
    omega
/-- at most nine legs are of the tree -/
theorem tr_9 {S : Sv} (hS : wf S) : ct (tr S) (nL S) ≤ 9 := by
  have h1 := tr_cnt hS
  have h2 := hS.m
  rcases Nat.eq_zero_or_pos (nM S) with q | q
  · omega
  · have : 1 ≤ ct (fun m => net S m == m) (nM S) := by
      rw [ct_one (a := 0) q]
      have h3 := net_le hS 0
      have : net S 0 = 0 := by omega
      simp [this]
    omega
theorem krK_mono {S : Sv} {i l : Nat} (hi : i ≤ nL S) (h : (krK S i).2 l = true) : tr S l = true := by
  have key : ∀ j, (krK S (i + j)).2 l = true := by
    intro j
    induction j with
    | zero => exact h
    | succ j ih =>
      rw [← Nat.add_assoc, krK, kst]
      split
      · exact ih
      · simp [ih]
  have := key (nL S - i)
  rw [show i + (nL S - i) = nL S by omega] at this
  exact this
/-- the leg that closes a loop is the longest of it -/
theorem mst {S : Sv} (hS : wf S) {c l : Nat} (hc : c < nL S) (hn : tr S c = false) (h : tT S (fr S c) l ≠ tT S (tO S c) l) : ln S l ≤ ln S c := by
  have hl : tr S l = true := by
    cases q : tT S (fr S c) l
    · have : tT S (tO S c) l = true := by
        cases z : tT S (tO S c) l
        · exact absurd (q.trans z.symm) h
        · rfl
      exact tT_tr hS this
    · exact tT_tr hS q
  obtain ⟨i, hi, ei⟩ := oL_all hc
  obtain ⟨j, hj, ej⟩ := oL_all (tr_lt hl)
  rcases Nat.lt_trichotomy i j with q | q | q
  · exfalso
    have hP : ∀ l', (krK S i).2 l' = true → tT S (fr S l') l = tT S (tO S l') l := by
      intro l' hl'
      obtain ⟨j', h1, h2⟩ := krK_mem (by omega) hl'
      obtain ⟨c', hc'⟩ := tr_up hS (krK_mono (by omega) hl')
      obtain ⟨-, -, -, -, o, -, -, h4, h6, -⟩ := uP_on hS hc'
      have hne : (l == l') = false := by
        simp only [beq_eq_false_iff_ne, ne_eq]
        intro z
        have := oL_inj hS (i := j') (j := j) (by omega) hj (by rw [h2, ej, z])
        omega
      have h8 := h6 l
      rw [hne, Bool.false_or] at h8
      rcases h4 with ⟨rfl, rfl, -⟩ | ⟨rfl, rfl, -⟩
      · exact h8.symm
      · exact h8
    have cut := krK_cut hS (i := i) (by omega) (fun m => tT S m l) hP
    have st := krK_step hS hi
    rw [ei, hn] at st
    have st' : (krK S i).1 (fr S c) = (krK S i).1 (tO S c) := by simpa using st.symm
    have a : tT S (fr S c) l = tT S ((krK S i).1 (fr S c)) l := cut (fr S c)
    have b : tT S (tO S c) l = tT S ((krK S i).1 (tO S c)) l := cut (tO S c)
    rw [st'] at a
    exact h (a.trans b.symm)
  · subst q
    rw [ei] at ej
    rw [← ej, hn] at hl
    cases hl
  · have := oL_ky hS q hi
    rw [ei, ej] at this
    have := hS.l
    unfold ky at *
    omega
