/-! THE MODEL: firstError, book -/
theorem m_entry0 {w : Wd} {T : Tx} {i0 : Nat} {s0 : RS} {Q : Int32 → Wd → Prop} (x : mX w T) (h : stW w i0 false) (hi : i0 ≤ T.1) (hr : rch T.2 i0 s0) (h0 : s0.1 = 0) (k : ∀ w', pf w w' → mX w' T → gd w' T (eE T i0) → Q 0 w') : wp_X9_entry 0 w Q := by
  refine m_entry x h hi hr h0 (fun r w' f' x' g' => ?_) (fun a b d l w' f' x' g' => ?_)
  · unfold wp_X9_entry_J42 wp_X9_entry_J59 wp_X9_entry_J60
    refine ⟨fun _ => ⟨fun _ => ⟨Or.inl rfl, k w' f' x' ?_⟩, fun z => absurd rfl z⟩, fun z => absurd rfl z⟩
    rcases g' with ⟨i, s, a, b, c, d⟩ | g'
    · exact Or.inl ⟨i, s, a, b, c, d.1⟩
    · exact Or.inr g'
  · unfold wp_X9_entry_J208 wp_X9_entry_J232 wp_X9_entry_J233
    refine ⟨fun _ => ⟨fun _ => ⟨Or.inl rfl, k w' f' x' ?_⟩, fun z => absurd rfl z⟩, fun z => absurd rfl z⟩
    rcases g' with ⟨i, s, a, b, c, d⟩ | g'
    · exact Or.inl ⟨i, s, a, b, c, d.1⟩
    · exact Or.inr g'
theorem lpG3 {α β γ : Type} {B : α → β → γ → (α → β → γ → Prop) → Prop} {a0 : α} {b0 : β} {c0 : γ} (F : Nat → α → β → γ → Prop) (N : Nat) (h0 : F N a0 b0 c0) (hs : ∀ k a b c (K : α → β → γ → Prop), F k a b c → (∀ k' a' b' c', k' < k → F k' a' b' c' → K a' b' c') → B a b c K) :
    ∃ (I : α → β → γ → Prop) (μ : α → β → γ → Nat), I a0 b0 c0 ∧ ∀ a b c, I a b c → B a b c (fun a' b' c' => I a' b' c' ∧ μ a' b' c' < μ a b c) := by
  obtain ⟨I, μ, h1, h2⟩ := lpG (α := α) (β := β × γ) (B := fun a p K => B a p.1 p.2 (fun a' b' c' => K a' (b', c'))) (a0 := a0) (b0 := (b0, c0)) (fun k a p => F k a p.1 p.2) N h0 (fun k a p K hF hK => hs k a p.1 p.2 _ hF (fun k' a' b' c' z f => hK k' a' (b', c') z f))
  exact ⟨fun a b c => I a (b, c), fun a b c => μ a (b, c), h1, fun a b c h => h2 a (b, c) h⟩
theorem m_start {w : Wd} {T : Tx} {x1 : Int32} {Q : Int32 → Wd → Prop} (x : mX w T) (k : ∀ w', pf w w' → mX w' T → stW w' 0 false → wp_X9_goThrough_L14 x1 0 1 w' Q) : wp_X9_goThrough x1 w Q := by
  unfold wp_X9_goThrough
  refine fun w1 q1 => ⟨Or.inl rfl, fun w2 q2 => ?_⟩
  have f2 : pf w w2 := ⟨by rw [q2, q1]; exact (fl_rf.sI (by decide)).sI (by decide), fun j a b => by rw [q2, wi_sI, if_neg (by omega), q1, wi_sI, if_neg (by omega)]⟩
  refine k w2 f2 (mX_pf x f2) ⟨?_, ?_⟩
  · rw [q2, wi_sI, if_neg (by omega), q1, wi_sI, if_pos ⟨rfl, rfl, rfl⟩]; rfl
  · rw [q2, wi_sI, if_pos ⟨rfl, rfl, rfl⟩]; rfl
theorem m_goThrough0 {w : Wd} {T : Tx} {Q : Int32 → Wd → Prop} (x : mX w T) (k1 : goodT T = true → ∀ r w', pf w w' → stW w' T.1 false → Q r w') (k0 : goodT T = false → ∀ r w', pf w w' → stW w' (fe T.2 T.1) true → Q r w') : wp_X9_goThrough 0 w Q := by
  refine m_start x (fun w1 f1 x1 s1 => ?_)
  unfold wp_X9_goThrough_L14
  refine lpG3 (B := fun a b u K => wp_X9_goThrough_B14 0 a b u Q K) (fun m _ b u => pf w u ∧ mX u T ∧ ((b = 0 ∧ ((goodT T = true ∧ stW u T.1 false) ∨ ∃ i, stW u i true ∧ bdT T i)) ∨ (b = 1 ∧ ∃ i s, stW u i false ∧ i ≤ T.1 ∧ rch T.2 i s ∧ s.1 = 0 ∧ T.1 - i < m))) (T.1 + 1) ⟨f1, x1, Or.inr ⟨rfl, 0, _, s1, Nat.zero_le _, rfl, rfl, by omega⟩⟩ ?_
  rintro m a b u K ⟨fu, xu, hb⟩ hK
  unfold wp_X9_goThrough_B14
  rcases hb with ⟨rfl, hb⟩ | ⟨rfl, i, s, a1, a2, a3, a4, a5⟩
  · refine ⟨fun _ => ?_, fun z => absurd rfl z⟩
    rcases hb with ⟨g1, g2⟩ | ⟨i, g1, g2⟩
    · exact k1 g1 a u fu g2
    · obtain ⟨e1, e2⟩ := bdT_e g2
      rw [← e1] at g1
      exact k0 e2 a u fu g1
  · refine ⟨fun z => absurd z (by decide), fun _ => m_entry0 xu a1 a2 a3 a4 (fun v fv xv gv => ⟨fun _ => ?_, fun z => absurd rfl z⟩)⟩
    have t2 := xv.2.1
    unfold wp_X9_goThrough_J36
    rcases gv with ⟨j, t, c1, c2, c3, c4, c5, c6, c7⟩ | ⟨j, c1, c2⟩
    · rw [c1.2]
      refine ⟨fun z => absurd rfl z, fun _ => ⟨fun z => absurd rfl z, fun _ => ⟨fun z => absurd rfl z, fun _ => ?_⟩⟩⟩
      unfold wp_X9_goThrough_J54
      rw [xv.1, c1.1, n_le (by omega) (by omega)]
      refine ⟨fun z => ?_, fun z => ?_⟩
      · unfold wp_X9_goThrough_J69 wp_X9_goThrough_J70
        have ej : j = T.1 := by omega
        subst ej
        exact ⟨fun _ => hK 0 _ 0 v (by omega) ⟨fu.tr fv, xv, Or.inl ⟨rfl, Or.inl ⟨by rw [goodT_s c3]; exact c4, c1⟩⟩⟩, fun y => absurd rfl y⟩
      · unfold wp_X9_goThrough_J70 wp_X9_goThrough_J97
        refine ⟨fun y => absurd y (by decide), fun _ => ?_⟩
        by_cases e : (T.2 j).toInt = 59
        · refine m_sign_in 59 59 rfl rfl ⟨by omega, by omega⟩ ⟨by omega, by omega⟩ xv c1 (by omega) (by omega) (by omega) (fun v2 fv2 sv2 => ?_)
          rw [sv2.2]
          refine ⟨fun y => absurd rfl y, fun _ => hK (T.1 - j) _ 1 v2 (by omega) ⟨(fu.tr fv).tr fv2, mX_pf xv fv2, Or.inr ⟨rfl, j + 1, cm t 0, sv2, by omega, ⟨t, c3, ?_⟩, rfl, by omega⟩⟩⟩
          rw [e]
          have ha := of_decide_eq_true c4
          obtain ⟨q, n, f, tt, d, bb⟩ := t
          have hq : q = 1 ∨ q = 2 ∨ q = 10 := ha
          rcases hq with rfl | rfl | rfl <;> rfl
        · refine m_sign_out 59 59 rfl rfl ⟨by omega, by omega⟩ ⟨by omega, by omega⟩ (by omega) xv c1 c2 (fun _ y => by omega) (fun r v2 fv2 sv2 => ?_)
          rw [sv2.2]
          exact ⟨fun _ => hK 0 _ 0 v2 (by omega) ⟨(fu.tr fv).tr fv2, mX_pf xv fv2, Or.inl ⟨rfl, Or.inr ⟨j, sv2, t, c3, c2, fun y => c7 y (ne59 e), fun y => by omega⟩⟩⟩, fun y => absurd y (by decide)⟩
    · rw [c1.2]
      unfold wp_X9_goThrough_J69 wp_X9_goThrough_J70
      exact ⟨fun _ => ⟨fun _ => hK 0 _ 0 v (by omega) ⟨fu.tr fv, xv, Or.inl ⟨rfl, Or.inr ⟨j, c1, c2⟩⟩⟩, fun y => absurd rfl y⟩, fun y => absurd y (by decide)⟩
/-- the cells that booking touches -/
def pk (w w' : Wd) : Prop := fl [32, 33] w w' ∧ ∀ j, j ≠ 22 → j ≠ 23 → wi w' 0 32 j = wi w 0 32 j
theorem pk_pf {w w' : Wd} (h : pf w w') : pk w w' := ⟨h.1.wide (by decide), h.2⟩
theorem pk.tr {w w' w'' : Wd} (h : pk w w') (k : pk w' w'') : pk w w'' := ⟨h.1.tr k.1, fun j a b => (k.2 j a b).trans (h.2 j a b)⟩
theorem pk_33 {w w' : Wd} (h : fl [33] w w') : pk w w' := ⟨h.wide (by decide), fun j _ _ => h.wi (by decide) j⟩
theorem mX_pk {w w' : Wd} {T : Tx} (h : mX w T) (k : pk w w') : mX w' T := mX_of h (k.2 6 (by omega) (by omega)) (fun i => k.1.wi (by decide) i)
theorem m_entry1 {w : Wd} {T : Tx} {S : Sv} {i0 : Nat} {s0 : RS} {Q : Int32 → Wd → Prop} (hS : wf S) (hs : sS w S) (hg : goodT T = true) (x : mX w T) (h : stW w i0 false) (hi : i0 ≤ T.1) (hr : rch T.2 i0 s0) (h0 : s0.1 = 0) (k1 : ∀ S' s i w', entD S s = some S' → pk w w' → stW w' i false → i ≤ T.1 → rch T.2 i s → eE T i0 s i → sS w' S' → Q 1 w') (k0 : ∀ s i w', entD S s = none → pk w w' → stW w' i false → i ≤ T.1 → rch T.2 i s → eE T i0 s i → sS w' S → Q 0 w') : wp_X9_entry 1 w Q := by
  have hm' := hS.m
  have hl' := hS.l
  refine m_entry x h hi hr h0 (fun r w' f' x' g' => ?_) (fun a b d l w' f' x' g' => ?_)
  · rcases g' with ⟨i, s, a, b, c, e1, e2⟩ | ⟨i, -, g⟩
    · have hs' : sS w' S := sS_fl hs f'.1 (by decide)
      have iv := rch_inv c
      have key : ∃ v : Int, r = iI v ∧ -1 ≤ v ∧ v ≤ 99999 ∧ entD S s = if nM S < 10 then some (addM S v) else none := by
        rcases e2 with ⟨c1, rfl⟩ | ⟨c1, rfl⟩
        · exact ⟨-1, rfl, by omega, by omega, by unfold entD; rw [if_pos c1]⟩
        · have := iv.2.1 c1
          exact ⟨(s.2.1 : Int), nI_iI _, by omega, by omega, by unfold entD; rw [if_neg (by omega), if_pos c1]⟩
      obtain ⟨v, rfl, v1, v2, v3⟩ := key
      have inr : inR (iI v) (-1) 99999 = true := decide_eq_true (by rw [iI_toInt ⟨by omega, by omega⟩]; omega)
      unfold wp_X9_entry_J42
      refine ⟨fun z => absurd z (by decide), fun _ => m_markFault hS hs' ?_⟩
      unfold pAddMark
      rw [if_pos inr]
      by_cases n1 : nM S < 10
      · rw [if_pos n1] at v3 ⊢
        refine ⟨fun z => absurd rfl z, fun _ => ?_⟩
        unfold wp_X9_entry_J60
        refine ⟨fun z => absurd z (by decide), fun _ => m_marks hS hs' n1 rfl (fun w2 f2 s2 => ⟨Or.inr rfl, k1 _ s i w2 v3 ((pk_pf f').tr (pk_33 f2)) ⟨(f2.wi (by decide) 22).trans a.1, (f2.wi (by decide) 23).trans a.2⟩ b c e1 s2⟩)⟩
      · rw [if_neg n1] at v3 ⊢
        refine ⟨fun _ => ?_, fun z => absurd z (by decide)⟩
        unfold wp_X9_entry_J59 wp_X9_entry_J60
        exact ⟨fun _ => ⟨Or.inl rfl, k0 s i w' v3 (pk_pf f') a b c e1 hs'⟩, fun z => absurd rfl z⟩
    · rw [(bdT_e g).2] at hg; cases hg
  · rcases g' with ⟨i, s, a0, b0, c, e1, e2, rfl, rfl, rfl, rfl⟩ | ⟨i, -, g⟩
    · have hs' : sS w' S := sS_fl hs f'.1 (by decide)
      obtain ⟨j1, j2, j3, j4, j5, j6, j7⟩ := rch_inv c
      have b1 := j4 (by omega)
      have b2 := j5 e2
      have b3 := j6 (by omega)
      have b4 := j7 (by omega)
      have ed : entD S s = if s.2.2.1 < nM S ∧ s.2.2.2.1 < nM S ∧ s.2.2.1 ≠ s.2.2.2.1 ∧ nL S < 20 then some (addL S s.2.2.1 s.2.2.2.1 s.2.2.2.2.1 s.2.1) else none := by
        unfold entD; rw [if_neg (by omega), if_neg (by omega)]
      have i1 : ∀ m : Nat, m < 10 → (iM S (nI m) = true ↔ m < nM S) := fun m hm => by
        unfold iM
        rw [nI_toInt (by omega)]
        exact ⟨fun z => by have := of_decide_eq_true z; omega, fun z => decide_eq_true (by omega)⟩
      have i2 : inR (iI s.2.2.2.2.1) (-9999) 9999 = true := decide_eq_true (by rw [iI_toInt ⟨by omega, by omega⟩]; omega)
      have i3 : inR (nI s.2.1) 1 99 = true := decide_eq_true (by rw [nI_toInt (by omega)]; omega)
      have pz : (pAddLeg S (nI s.2.2.1) (nI s.2.2.2.1) (iI s.2.2.2.2.1) (nI s.2.1) = 0 ↔ s.2.2.1 < nM S ∧ s.2.2.2.1 < nM S ∧ s.2.2.1 ≠ s.2.2.2.1 ∧ nL S < 20) ∧ pAddLeg S (nI s.2.2.1) (nI s.2.2.2.1) (iI s.2.2.2.2.1) (nI s.2.1) < 10 := by
        have ne : (nI s.2.2.1 ≠ nI s.2.2.2.1) ↔ s.2.2.1 ≠ s.2.2.2.1 := not_congr (n_eq (by omega) (by omega))
        unfold pAddLeg
        by_cases q1 : iM S (nI s.2.2.1) = true ∧ iM S (nI s.2.2.2.1) = true
        · rw [if_pos q1]
          have q1' : s.2.2.1 < nM S ∧ s.2.2.2.1 < nM S := ⟨(i1 _ b3).mp q1.1, (i1 _ b4).mp q1.2⟩
          by_cases q2 : nI s.2.2.1 ≠ nI s.2.2.2.1 ∧ inR (iI s.2.2.2.2.1) (-9999) 9999 = true ∧ inR (nI s.2.1) 1 99 = true
          · rw [if_pos q2]
            have q2' := ne.mp q2.1
            by_cases q3 : nL S < 20
            · rw [if_pos q3]; exact ⟨⟨fun _ => ⟨q1'.1, q1'.2, q2', q3⟩, fun _ => rfl⟩, by omega⟩
            · rw [if_neg q3]; exact ⟨⟨fun z => by omega, fun z => absurd z.2.2.2 q3⟩, by omega⟩
          · rw [if_neg q2]; exact ⟨⟨fun z => by omega, fun z => absurd ⟨ne.mpr z.2.2.1, i2, i3⟩ q2⟩, by omega⟩
        · rw [if_neg q1]; exact ⟨⟨fun z => by omega, fun z => absurd ⟨(i1 _ b3).mpr z.1, (i1 _ b4).mpr z.2.1⟩ q1⟩, by omega⟩
      unfold wp_X9_entry_J208
      refine ⟨fun z => absurd z (by decide), fun _ => m_legFault hS hs' ?_⟩
      rw [n_0, n_eq (by omega) (by omega), pz.1]
      refine ⟨fun z => ?_, fun z => ?_⟩
      · rw [if_neg z] at ed
        unfold wp_X9_entry_J232 wp_X9_entry_J233
        exact ⟨fun _ => ⟨Or.inl rfl, k0 s i w' ed (pk_pf f') a0 b0 c e1 hs'⟩, fun y => absurd rfl y⟩
      · rw [if_pos z] at ed
        unfold wp_X9_entry_J233
        refine ⟨fun y => absurd y (by decide), fun _ => m_legs hS hs' z.2.2.2 (fun w2 f2 s2 => ⟨Or.inr rfl, k1 _ s i w2 ed ((pk_pf f').tr (pk_33 f2)) ⟨(f2.wi (by decide) 22).trans a0.1, (f2.wi (by decide) 23).trans a0.2⟩ b0 c e1 s2⟩)⟩
    · rw [(bdT_e g).2] at hg; cases hg
theorem bk_ns {T : Tx} {S : Sv} {i j : Nat} (h : nsq T i j) (hj : j ≤ T.1) (k : Nat) (hk : i + k < j) : bk T S (i + k) = bk T S i := by
  induction k with
  | zero => rfl
  | succ k ih =>
    have e : bnd T (i + k + 1) = false := decide_eq_false (fun z => by
      rcases z with z | z
      · omega
      · exact h (i + k + 1) (by omega) (by omega) z.2)
    show bk T S (i + k + 1) = _
    rw [bk_skip e, ih (by omega)]
theorem bk_cnt {T : Tx} {S : Sv} (j : Nat) : (bk T S j).2.1 ≤ j := by
  induction j with
  | zero => exact Nat.le_refl _
  | succ j ih =>
    rw [bk]
    split
    · omega
    · unfold bkS
      split
      · show (bk T S j).2.1 + 1 ≤ j + 1; omega
      · show (bk T S j).2.1 ≤ j + 1; omega
/-- in a text that is read to its end, behind an entry comes its end or a ';' -/
theorem bk_end {T : Tx} {S : Sv} {i0 i : Nat} {s : RS} (hg : goodT T = true) (hi : i ≤ T.1) (hr : rch T.2 i s) (he : eE T i0 s i) (hn : (bk T S i0).2.2 = false) : bk T S i = bkS (bk T S i0).1 (bk T S i0).2.1 s ∧ (i < T.1 → (T.2 i).toInt = 59) := by
  obtain ⟨e1, e2, e3, e4⟩ := he
  obtain ⟨se, se1, se2⟩ := goodT_e hg
  have h59 : i < T.1 → T.2 i = 59 := fun z => by
    by_cases y : T.2 i = 59
    · exact y
    · obtain ⟨t, u, r1, r2⟩ := rch_pre se1 z
      rw [rch_det r1 hr, e4 z y] at r2
      cases r2
  have hb : bnd T i = true := decide_eq_true (by
    rcases Nat.lt_or_ge i T.1 with z | z
    · exact Or.inr ⟨z, h59 z⟩
    · exact Or.inl (by omega))
  have e5 := bk_ns (S := S) e3 hi (i - 1 - i0) (by omega)
  rw [show i0 + (i - 1 - i0) = i - 1 by omega] at e5
  have e6 : i = i - 1 + 1 := by omega
  refine ⟨?_, fun z => by rw [h59 z]; rfl⟩
  rw [e6] at hb hr ⊢
  rw [bk_do (by rw [e5]; exact hn) hb hr, e5]
theorem m_goThrough1 {w : Wd} {T : Tx} {S : Sv} {Q : Int32 → Wd → Prop} (hS : wf S) (hs : sS w S) (hg : goodT T = true) (x : mX w T) (k : ∀ w', pk w w' → wf (bk T S T.1).1 → sS w' (bk T S T.1).1 → Q (nI (bk T S T.1).2.1) w') : wp_X9_goThrough 1 w Q := by
  refine m_start x (fun w1 f1 x1 s1 => ?_)
  unfold wp_X9_goThrough_L14
  refine lpG3 (B := fun a b u K => wp_X9_goThrough_B14 1 a b u Q K) (fun m a b u => pk w u ∧ ∃ i s, stW u i false ∧ i ≤ T.1 ∧ rch T.2 i s ∧ a = nI (bk T S i).2.1 ∧ wf (bk T S i).1 ∧ sS u (bk T S i).1 ∧ ((b = 0 ∧ bk T S T.1 = bk T S i) ∨ (b = 1 ∧ s.1 = 0 ∧ (bk T S i).2.2 = false ∧ T.1 - i < m))) (T.1 + 1) ⟨pk_pf f1, 0, _, s1, Nat.zero_le _, rfl, rfl, hS, sS_fl hs f1.1 (by decide), Or.inr ⟨rfl, rfl, rfl, by omega⟩⟩ ?_
  rintro m a b u K ⟨fu, i, s, a1, a2, a3, rfl, a5, a6, hb⟩ hK
  have xu := mX_pk x fu
  unfold wp_X9_goThrough_B14
  rcases hb with ⟨rfl, hb⟩ | ⟨rfl, b1, b2, b3⟩
  · refine ⟨fun _ => ?_, fun z => absurd rfl z⟩
    have := k u fu (by rw [hb]; exact a5) (by rw [hb]; exact a6)
    rw [hb] at this
    exact this
  · refine ⟨fun z => absurd z (by decide), fun _ => m_entry1 a5 a6 hg xu a1 a2 a3 b1 (fun S' t j v es fv c1 c2 c3 c4 c5 => ⟨fun z => absurd z (by decide), fun _ => ?_⟩) (fun t j v en fv c1 c2 c3 c4 c5 => ⟨fun _ => ?_, fun z => absurd rfl z⟩)⟩
    · have xv := mX_pk xu fv
      have t2 := xv.2.1
      obtain ⟨e1, e2⟩ := bk_end (S := S) hg c2 c3 c4 b2
      have e3 : bk T S j = (S', (bk T S i).2.1 + 1, false) := by rw [e1]; unfold bkS; rw [es]
      have wf' : wf S' := entD_wf a5 (rch_inv c3) c4.1 es
      have fin : ∀ b' : Int32, ∀ v', pk v v' → ∀ j' t', stW v' j' false → j' ≤ T.1 → rch T.2 j' t' → bk T S j' = bk T S j → ∀ m', m' < m → ((b' = 0 ∧ bk T S T.1 = bk T S j') ∨ (b' = 1 ∧ t'.1 = 0 ∧ (bk T S j').2.2 = false ∧ T.1 - j' < m')) → sS v' S' → K (nI (bk T S i).2.1 + 1) b' v' := by
        intro b' v' fv' j' t' d1 d2 d3 d4 m' d5 d6 d7
        refine hK m' _ b' v' d5 ⟨(fu.tr fv).tr fv', j', t', d1, d2, d3, ?_, ?_, ?_, d6⟩
        · rw [d4, e3, nI_1]
        · rw [d4, e3]; exact wf'
        · rw [d4, e3]; exact d7
      unfold wp_X9_goThrough_J36
      rw [c1.2]
      refine ⟨fun z => absurd rfl z, fun _ => ⟨fun _ => ?_, fun z => absurd z (by decide)⟩⟩
      unfold wp_X9_goThrough_J54
      rw [xv.1, c1.1, n_le (by omega) (by omega)]
      refine ⟨fun z => ?_, fun z => ?_⟩
      · unfold wp_X9_goThrough_J69 wp_X9_goThrough_J70
        have ej : j = T.1 := by omega
        exact ⟨fun _ => fin 0 v (pk_pf pf_rf) j t c1 c2 c3 rfl 0 (by omega) (Or.inl ⟨rfl, by rw [ej]⟩) c5, fun y => absurd rfl y⟩
      · unfold wp_X9_goThrough_J70 wp_X9_goThrough_J97
        have h59 := e2 (by omega)
        have ij : i < j := c4.2.1
        refine ⟨fun y => absurd y (by decide), fun _ => m_sign_in 59 59 rfl rfl ⟨by omega, by omega⟩ ⟨by omega, by omega⟩ xv c1 (by omega) (by omega) (by omega) (fun v2 fv2 sv2 => ?_)⟩
        rw [sv2.2]
        have r2 : rch T.2 (j + 1) (cm t 0) := ⟨t, c3, by
          rw [h59]
          have ha := of_decide_eq_true c4.1
          obtain ⟨q, n, f, tt, d, bb⟩ := t
          have hq : q = 1 ∨ q = 2 ∨ q = 10 := ha
          rcases hq with rfl | rfl | rfl <;> rfl⟩
        have nb : bnd T (j + 1) = false := decide_eq_false (fun y => by
          obtain ⟨se, se1, se2⟩ := goodT_e hg
          rcases y with y | y
          · rw [← y] at se1
            rw [rch_det se1 r2] at se2
            cases se2
          · obtain ⟨t', u', p1, p2⟩ := rch_pre se1 y.1
            rw [rch_det p1 r2, y.2] at p2
            cases p2)
        exact ⟨fun y => absurd rfl y, fun _ => fin 1 v2 (pk_pf fv2) (j + 1) _ sv2 (by omega) r2 (bk_skip nb) (T.1 - j) (by omega) (Or.inr ⟨rfl, rfl, by rw [bk_skip nb, e3], by omega⟩) (sS_fl c5 fv2.1 (by decide))⟩
    · obtain ⟨e1, e2⟩ := bk_end (S := S) hg c2 c3 c4 b2
      have e3 : bk T S j = ((bk T S i).1, (bk T S i).2.1, true) := by rw [e1]; unfold bkS; rw [en]
      have e4 := bk_stop (T := T) (S := S) (p := j) (by rw [e3]) (T.1 - j)
      rw [show j + (T.1 - j) = T.1 by omega] at e4
      unfold wp_X9_goThrough_J36 wp_X9_goThrough_J69 wp_X9_goThrough_J70
      rw [c1.2]
      refine ⟨fun z => absurd rfl z, fun _ => ⟨fun z => absurd rfl z, fun _ => ⟨fun _ => ⟨fun _ => ?_, fun z => absurd rfl z⟩, fun z => absurd z (by decide)⟩⟩⟩
      refine hK 0 _ 0 v (by omega) ⟨fu.tr fv, j, t, c1, c2, c3, ?_, ?_, ?_, Or.inl ⟨rfl, e4⟩⟩
      · rw [e3, n_0, nI_add, Nat.add_zero]
      · rw [e3]; exact a5
      · rw [e3]; exact c5
theorem pf_ok {w w' : Wd} {σ : Ss} (h : okM w σ) (k : pf w w') : okM w' σ :=
  ⟨h.1, sS_fl h.2.1 k.1 (by decide), mH_fl h.2.2.1 k.1 (by decide) (k.2 4 (by omega) (by omega)), mX_pf h.2.2.2 k⟩
theorem pf_kM {w w' : Wd} (k : pf w w') : kM w w' := kM_fl (k.1.wide (by decide))
theorem m_firstError {w : Wd} {σ : Ss} {Q : Int32 → Wd → Prop} (h : okM w σ) (k0 : ∀ w', kM w w' → okM w' σ → Q (nI (fe σ.2.2.2 σ.2.2.1)) w') : wp_X9_firstError w Q := by
  unfold wp_X9_firstError
  intro w1 q1
  have g1 := h0_ok h q1
  refine m_goThrough0 g1.2.2.2 (fun e r w2 f2 s2 => ?_) (fun e r w2 f2 s2 => ?_)
  · have g2 := pf_ok g1 f2
    have := k0 w2 ((h0_kM q1).tr (pf_kM f2)) g2
    obtain ⟨s, r1, r2⟩ := goodT_e e
    rw [fe_at r1 (Nat.le_refl _) (fun z => absurd z (by omega))] at this
    rw [s2.2, g2.2.2.2.1]
    exact ⟨fun _ => this, fun z => absurd rfl z⟩
  · have g2 := pf_ok g1 f2
    rw [s2.2, s2.1]
    exact ⟨fun z => absurd z (by decide), fun _ => k0 w2 ((h0_kM q1).tr (pf_kM f2)) g2⟩
theorem m_book {w : Wd} {σ : Ss} {Q : Int32 → Wd → Prop} (h : okM w σ) (k0 : pBook σ.2.2 = 0 → ∀ w', kM w w' → wi w' 0 32 0 = nI 0 → okM w' ((bk σ.2.2 σ.1 σ.2.2.1).1, psh σ.2.1 σ.1, (0, σ.2.2.2)) → Q (nI (bk σ.2.2 σ.1 σ.2.2.1).2.1) w') (k1 : pBook σ.2.2 ≠ 0 → ∀ r w', kM w w' → wi w' 0 32 0 = nI (pBook σ.2.2) → okM w' σ → Q r w') : wp_X9_book w Q := by
  have pl : pBook σ.2.2 < 10 := by unfold pBook; split <;> omega
  have G : ∀ s w1, s = nI (pBook σ.2.2) → pf w w1 → wp_X9_book_J19 s w1 Q := by
    intro s w1 hs f1
    have g1 := pf_ok h f1
    unfold wp_X9_book_J19
    refine m_gate hs pl (fun e w2 q2 => ?_) (fun e w2 q2 => k1 e 0 w2 ((pf_kM f1).tr (h0_kM q2)) (h0_fo q2).2.2 (h0_ok g1 q2))
    have g2 := h0_ok g1 q2
    have hg : goodT σ.2.2 = true := by
      cases c : goodT σ.2.2 with
      | true => rfl
      | false => unfold pBook at e; rw [if_neg (by rw [c]; decide)] at e; omega
    refine m_save g2.1 g2.2.1 g2.2.2.1 (fun w3 f3 o3 h3 => ?_)
    have x3 : mX w3 σ.2.2 := mX_of g2.2.2.2 (o3 6 (by omega)) (fun i => f3.wi (by decide) i)
    refine m_goThrough1 g2.1 (sS_fl g2.2.1 f3 (by decide)) hg x3 (fun w4 f4 hw hs4 w5 q5 => ?_)
    have f5 : fl [32] w4 w5 := by rw [q5]; exact fl_rf.sI (by decide)
    have o5 : ∀ j, j ≠ 6 → wi w5 0 32 j = wi w4 0 32 j := fun j hj => by rw [q5, wi_sI, if_neg (by omega)]
    refine k0 e w5 ?_ ?_ ⟨hw, sS_fl hs4 f5 (by decide), ?_, ⟨by rw [q5, wi_sI, if_pos ⟨rfl, rfl, rfl⟩]; rfl, by show 0 ≤ 60; omega, fun i hi => absurd hi (Nat.not_lt_zero _)⟩⟩
    · exact ((pf_kM f1).tr (h0_kM q2)).tr (kM_fl (((f3.wide (by decide)).tr (f4.1.wide (by decide))).tr (f5.wide (by decide))))
    · rw [o5 0 (by omega), f4.2 0 (by omega) (by omega), o3 0 (by omega), (h0_fo q2).2.2, e]
    · exact mH_fl (mH_fl h3 f4.1 (by decide) (f4.2 4 (by omega) (by omega))) f5 (by decide) (o5 4 (by omega))
  unfold wp_X9_book
  refine m_goThrough0 h.2.2.2 (fun e r w1 f1 s1 => ?_) (fun e r w1 f1 s1 => ?_)
  · rw [s1.2]
    exact ⟨fun _ => G 0 w1 (by unfold pBook; rw [if_pos e]; rfl) f1, fun z => absurd rfl z⟩
  · rw [s1.2]
    exact ⟨fun z => absurd z (by decide), fun _ => G 1 w1 (by unfold pBook; rw [if_neg (by rw [e]; decide)]; rfl) f1⟩
