/-! THE MODEL: frames, the row of numbers, basics -/
def fl (L : List Nat) (w w' : Wd) : Prop := (∀ a b, ¬ (a = 0 ∧ b ∈ L) → w'.1 a b = w.1 a b) ∧ w'.2 = w.2
theorem fl_rf {L : List Nat} {w : Wd} : fl L w w := ⟨fun _ _ _ => rfl, rfl⟩
theorem fl.tr {L : List Nat} {w w' w'' : Wd} (h : fl L w w') (k : fl L w' w'') : fl L w w'' := ⟨fun a b q => (k.1 a b q).trans (h.1 a b q), k.2.trans h.2⟩
theorem fl.wide {L L' : List Nat} {w w' : Wd} (h : fl L w w') (hs : ∀ b, b ∈ L → b ∈ L') : fl L' w w' := ⟨fun a b q => h.1 a b (fun z => q ⟨z.1, hs b z.2⟩), h.2⟩
theorem fl.sI {L : List Nat} {w w' : Wd} {o k : Nat} {x : Int32} (h : fl L w w') (ho : o ∈ L) : fl L w (sI w' 0 o k x) := by
  refine ⟨fun a b q => ?_, h.2⟩
  show (if a = 0 ∧ b = o then _ else w'.1 a b) = _
  rw [if_neg (fun z => q ⟨z.1, by rw [z.2]; exact ho⟩)]
  exact h.1 a b q
theorem fl.wi {L : List Nat} {w w' : Wd} (h : fl L w w') {b : Nat} (hb : b ∉ L) (k : Nat) : wi w' 0 b k = wi w 0 b k := congrFun (h.1 0 b (fun z => hb z.2)) k
theorem fl_wa {L : List Nat} {w w' : Wd} (h : fl L w w') {a b : Nat} (ha : a ≠ 0) (k : Nat) : wi w' a b k = wi w a b k := congrFun (h.1 a b (fun z => ha z.1)) k
theorem fl.sv {L : List Nat} {w w' : Wd} (h : fl L w w') (k : Nat) : sv w' k = sv w k := congrFun (congrArg (fun q => q.1) h.2) k
theorem fl.wl {L : List Nat} {w w' : Wd} (h : fl L w w') (k : Nat) : wl w' k = wl w k := congrFun (congrArg (fun q => q.2) h.2) k
/-- a row of 95 numbers holds S -/
def mRw (g : Nat → Int32) (S : Sv) : Prop := g 0 = nI (nM S) ∧ g 11 = nI (nL S) ∧ (∀ m, m < nM S → g (1 + m) = iI (kn S m)) ∧ (∀ l, l < nL S → g (12 + 4 * l) = nI (fr S l) ∧ g (12 + 4 * l + 1) = nI (tO S l) ∧ g (12 + 4 * l + 2) = nI (ln S l) ∧ g (12 + 4 * l + 3) = iI (df S l)) ∧ ∀ k, k < 3 → g (92 + k) = iI (st S k)
theorem mRw_of {g g' : Nat → Int32} {S : Sv} (hS : wf S) (h : mRw g S) (e : ∀ k, k < 95 → g' k = g k) : mRw g' S := by
  have hm := hS.m
  have hl := hS.l
  obtain ⟨h1, h2, h3, h4, h5⟩ := h
  refine ⟨by rw [e 0 (by omega)]; exact h1, by rw [e 11 (by omega)]; exact h2, fun m hm => by rw [e _ (by omega)]; exact h3 m hm, fun l hl => ?_, fun k hk => by rw [e _ (by omega)]; exact h5 k hk⟩
  obtain ⟨a, b, c, d⟩ := h4 l hl
  exact ⟨by rw [e _ (by omega)]; exact a, by rw [e _ (by omega)]; exact b, by rw [e _ (by omega)]; exact c, by rw [e _ (by omega)]; exact d⟩
def sS (w : Wd) (S : Sv) : Prop := mRw (wi w 0 33) S
theorem sS_fl {L : List Nat} {w w' : Wd} {S : Sv} (h : sS w S) (k : fl L w w') (hL : 33 ∉ L) : sS w' S := by
  have e : wi w' 0 33 = wi w 0 33 := funext (fun j => k.wi hL j)
  unfold sS
  rw [e]; exact h
theorem m_of {l c : Nat} {Q : Int32 → Prop} (k : Q (nI (12 + 4 * l + c))) : wp_X9_of (nI l) (nI c) Q := by
  unfold wp_X9_of
  rw [show (12 : Int32) = nI 12 from rfl, show (4 : Int32) = nI 4 from rfl, pk_mul, nI_add, nI_add]
  exact k
theorem m_in {x : Int32} {a b : Int} (ha : fit a) (hb : fit b) {Q : Int32 → Prop} (k1 : inR x a b = true → Q 1) (k0 : inR x a b = false → Q 0) : wp_X9_in x (iI a) (iI b) Q := by
  obtain ⟨v, hv, e, e2⟩ := of_int x
  unfold inR at k1 k0
  rw [e2] at k1 k0
  unfold wp_X9_in wp_X9_in_J14
  rw [e, iI_lt hv ha, iI_lt hb hv]
  exact ⟨fun q => ⟨Or.inl rfl, k0 (decide_eq_false (by omega))⟩, fun q => ⟨fun z => ⟨Or.inl rfl, k0 (decide_eq_false (by omega))⟩, fun z => ⟨Or.inr rfl, k1 (decide_eq_true (by omega))⟩⟩⟩
theorem m_isMark {x : Int32} {w : Wd} {S : Sv} {Q : Int32 → Prop} (hS : wf S) (h : sS w S) (k1 : iM S x = true → Q 1) (k0 : iM S x = false → Q 0) : wp_X9_isMark x w Q := by
  have hm := hS.m
  unfold wp_X9_isMark
  rw [h.1, nI_iI, show (1 : Int32) = iI 1 from rfl, iI_sub, show (0 : Int32) = iI 0 from rfl]
  have e : inR x 0 ((nM S : Int) - 1) = iM S x := by
    unfold inR iM
    exact decide_eq_decide.mpr (by omega)
  refine m_in ⟨by omega, by omega⟩ ⟨by omega, by omega⟩ (fun c => ⟨Or.inr rfl, k1 (by rw [← e]; exact c)⟩) (fun c => ⟨Or.inl rfl, k0 (by rw [← e]; exact c)⟩)
theorem m_isLeg {x : Int32} {w : Wd} {S : Sv} {Q : Int32 → Prop} (hS : wf S) (h : sS w S) (k1 : iL S x = true → Q 1) (k0 : iL S x = false → Q 0) : wp_X9_isLeg x w Q := by
  have hm := hS.l
  unfold wp_X9_isLeg
  rw [h.2.1, nI_iI, show (1 : Int32) = iI 1 from rfl, iI_sub, show (0 : Int32) = iI 0 from rfl]
  have e : inR x 0 ((nL S : Int) - 1) = iL S x := by
    unfold inR iL
    exact decide_eq_decide.mpr (by omega)
  refine m_in ⟨by omega, by omega⟩ ⟨by omega, by omega⟩ (fun c => ⟨Or.inr rfl, k1 (by rw [← e]; exact c)⟩) (fun c => ⟨Or.inl rfl, k0 (by rw [← e]; exact c)⟩)
theorem m_size {v : Int} {Q : Int32 → Prop} (hv : fit v) (k : Q (iI v.natAbs)) : wp_X9_size (iI v) Q := by
  unfold wp_X9_size
  rw [iI_0le hv, iI_neg]
  refine ⟨fun q => ?_, fun q => ?_⟩
  · rw [Int.natAbs_of_nonneg q] at k; exact k
  · rw [show -v = (v.natAbs : Int) by omega]; exact k
/-- what the model saved -/
def mH (w : Wd) (H : Hs) : Prop := wi w 0 32 4 = nI H.1 ∧ H.1 ≤ 6 ∧ ∀ i, i < H.1 → wf (H.2 i) ∧ mRw (fun k => wi w 0 35 (95 * i + k)) (H.2 i)
theorem mH_fl {L : List Nat} {w w' : Wd} {H : Hs} (h : mH w H) (k : fl L w w') (hL : 35 ∉ L) (h4 : wi w' 0 32 4 = wi w 0 32 4) : mH w' H := by
  refine ⟨by rw [h4]; exact h.1, h.2.1, fun i hi => ⟨(h.2.2 i hi).1, ?_⟩⟩
  have e : (fun j => wi w' 0 35 (95 * i + j)) = fun j => wi w 0 35 (95 * i + j) := funext (fun j => k.wi hL _)
  rw [e]
  exact (h.2.2 i hi).2
theorem m_save {w : Wd} {S : Sv} {H : Hs} {Q : Wd → Prop} (hS : wf S) (hs : sS w S) (hh : mH w H) (k : ∀ w', fl [32, 35] w w' → (∀ j, j ≠ 4 → wi w' 0 32 j = wi w 0 32 j) → mH w' (psh H S) → Q w') : wp_X9_save w Q := by
  have go : ∀ (v : Wd) (G : Hs), fl [32, 35] w v → (∀ j, j ≠ 4 → wi v 0 32 j = wi w 0 32 j) → mH v G → G.1 < 6 → (∀ w', fl [32, 35] w w' → (∀ j, j ≠ 4 → wi w' 0 32 j = wi w 0 32 j) → mH w' (G.1 + 1, fun i => if i = G.1 then S else G.2 i) → Q w') → wp_X9_save_L51 (0 : Int32) v Q := by
    intro v G fv ev hv hG kk
    obtain ⟨g1, g2, g3⟩ := id hv
    have sv' : sS v S := sS_fl hs fv (by decide)
    unfold wp_X9_save_L51
    refine lpIA (B := fun i u K => wp_X9_save_B51 i u Q K) (fun j u => fl [35] v u ∧ (∀ i, i < 95 * G.1 → wi u 0 35 i = wi v 0 35 i) ∧ ∀ i, i < j → wi u 0 35 (95 * G.1 + i) = wi v 0 33 i) 95 0 (by omega) (by omega) ⟨fl_rf, fun _ _ => rfl, fun i hi => absurd hi (by omega)⟩ ?_ ?_
    · rintro j u K hj ⟨f, a, b⟩ hK
      have e4 : wi u 0 32 4 = nI G.1 := (f.wi (by decide) 4).trans g1
      unfold wp_X9_save_B51
      rw [show (95 : Int32) = nI 95 from rfl, n_le (by omega) (by omega), e4, pk_mul, nI_add, n_cl (show 95 * G.1 + j < 2147483648 by omega), n_cl (show j < 2147483648 by omega), nI_1 j]
      refine ⟨fun z => absurd z (by omega), fun _ => ⟨n_in (by omega) (by omega), n_in (by omega) (by omega), fun u1 q1 => hK u1 ⟨by rw [q1]; exact f.sI (by decide), fun i hi => ?_, fun i hi => ?_⟩⟩⟩
      · rw [q1, wi_sI, if_neg (by omega)]; exact a i hi
      · rw [q1, wi_sI]
        by_cases z : i = j
        · rw [if_pos ⟨rfl, rfl, by omega⟩, z]; exact f.wi (by decide) j
        · rw [if_neg (by omega)]; exact b i (by omega)
    · rintro u K ⟨f, a, b⟩
      have e4 : wi u 0 32 4 = nI G.1 := (f.wi (by decide) 4).trans g1
      unfold wp_X9_save_B51
      rw [e4, nI_1]
      refine ⟨fun _ => fun u1 q1 => kk u1 ?_ (fun j hj => ?_) ⟨by rw [q1, wi_sI, if_pos ⟨rfl, rfl, rfl⟩], by show G.1 + 1 ≤ 6; omega, fun i hi => ?_⟩, fun z => absurd (Int32.le_refl _) z⟩
      · rw [q1]; exact (fv.tr (f.wide (by decide))).sI (by decide)
      · rw [q1, wi_sI, if_neg (by omega), f.wi (by decide)]; exact ev j hj
      · have hi' : i < G.1 + 1 := hi
        show wf (if i = G.1 then S else G.2 i) ∧ mRw _ (if i = G.1 then S else G.2 i)
        by_cases z : i = G.1
        · rw [if_pos z]
          refine ⟨hS, mRw_of hS sv' (fun k hk => ?_)⟩
          rw [z, q1, wi_sI, if_neg (by omega)]; exact b k hk
        · rw [if_neg z]
          have gi := g3 i (by omega)
          refine ⟨gi.1, mRw_of gi.1 gi.2 (fun k hk => ?_)⟩
          rw [q1, wi_sI, if_neg (by omega)]; exact a _ (by omega)
  obtain ⟨h1, h2, h3⟩ := id hh
  unfold wp_X9_save
  rw [h1, show (6 : Int32) = nI 6 from rfl, n_eq (by omega) (by omega)]
  refine ⟨fun z => go w H fl_rf (fun _ _ => rfl) hh (by omega) (fun w' f e h' => k w' f e ?_), fun z => ?_⟩
  · unfold psh; rw [if_neg z]; exact h'
  · unfold wp_X9_save_L11
    refine lpIA (B := fun i u K => wp_X9_save_B11 i u Q K) (fun j u => fl [35] w u ∧ ∀ i, i < 570 → wi u 0 35 i = if i < j then wi w 0 35 (95 + i) else wi w 0 35 i) 475 0 (by omega) (by omega) ⟨fl_rf, fun i _ => by rw [if_neg (by omega)]⟩ ?_ ?_
    · rintro j u K hj ⟨f, a⟩ hK
      unfold wp_X9_save_B11
      rw [show (475 : Int32) = nI 475 from rfl, n_le (by omega) (by omega), show (95 : Int32) = nI 95 from rfl, nI_add, n_cl (show 95 + j < 2147483648 by omega), n_cl (show j < 2147483648 by omega), a (95 + j) (by omega), if_neg (by omega), nI_1 j]
      refine ⟨fun z => absurd z (by omega), fun _ => ⟨n_in (by omega) (by omega), n_in (by omega) (by omega), fun u1 q1 => hK u1 ⟨by rw [q1]; exact f.sI (by decide), fun i hi => ?_⟩⟩⟩
      rw [q1, wi_sI]
      by_cases y : i = j
      · rw [if_pos ⟨rfl, rfl, y⟩, if_pos (by omega), y]
      · rw [if_neg (by omega), a i hi]
        by_cases x : i < j
        · rw [if_pos x, if_pos (show i < j + 1 by omega)]
        · rw [if_neg x, if_neg (show ¬ i < j + 1 by omega)]
    · rintro u K ⟨f, a⟩
      have e4 : wi u 0 32 4 = nI 6 := (f.wi (by decide) 4).trans (by rw [h1, z])
      unfold wp_X9_save_B11
      rw [e4, show (1 : Int32) = nI 1 from rfl, pk_sub (by omega)]
      refine ⟨fun _ => fun u1 q1 => go u1 (5, fun i => H.2 (i + 1)) ?_ (fun j hj => ?_) ⟨?_, by show 5 ≤ 6; omega, fun i hi => ?_⟩ (by show 5 < 6; omega) (fun w' f' e' h' => k w' f' e' ?_), fun y => absurd (Int32.le_refl _) y⟩
      · rw [q1]; exact (f.wide (by decide)).sI (by decide)
      · rw [q1, wi_sI, if_neg (by omega)]; exact f.wi (by decide) j
      · rw [q1, wi_sI, if_pos ⟨rfl, rfl, rfl⟩]
      · have hi' : i < 5 := hi
        have gi := h3 (i + 1) (by omega)
        refine ⟨gi.1, mRw_of gi.1 gi.2 (fun k hk => ?_)⟩
        rw [q1, wi_sI, if_neg (by omega), a _ (by omega), if_pos (by omega)]
        congr 1; omega
      · unfold psh; rw [if_pos z]; exact h'
theorem m_putAside {w : Wd} {S : Sv} {Q : Wd → Prop} (hS : wf S) (hs : sS w S) (k : ∀ w', fl [34] w w' → mRw (wi w' 0 34) S → Q w') : wp_X9_putAside w Q := by
  unfold wp_X9_putAside wp_X9_putAside_L2
  refine lpIA (B := fun i u K => wp_X9_putAside_B2 i u Q K) (fun j u => fl [34] w u ∧ ∀ i, i < j → wi u 0 34 i = wi w 0 33 i) 95 0 (by omega) (by omega) ⟨fl_rf, fun i hi => absurd hi (by omega)⟩ ?_ ?_
  · rintro j u K hj ⟨f, a⟩ hK
    unfold wp_X9_putAside_B2
    rw [show (95 : Int32) = nI 95 from rfl, n_le (by omega) (by omega), n_cl (by omega), nI_1 j]
    refine ⟨fun z => absurd z (by omega), fun _ => ⟨n_in (by omega) (by omega), n_in (by omega) (by omega), fun u1 q1 => hK u1 ⟨by rw [q1]; exact f.sI (by decide), fun i hi => ?_⟩⟩⟩
    rw [q1, wi_sI]
    by_cases z : i = j
    · rw [if_pos ⟨rfl, rfl, z⟩, z]; exact f.wi (by decide) j
    · rw [if_neg (by omega)]; exact a i (by omega)
  · rintro u K ⟨f, a⟩
    unfold wp_X9_putAside_B2
    exact ⟨fun _ => k u f (mRw_of hS hs a), fun z => absurd (Int32.le_refl _) z⟩
theorem m_putBack {w : Wd} {S : Sv} {Q : Wd → Prop} (hS : wf S) (hs : mRw (wi w 0 34) S) (k : ∀ w', fl [33] w w' → sS w' S → Q w') : wp_X9_putBack w Q := by
  unfold wp_X9_putBack wp_X9_putBack_L2
  refine lpIA (B := fun i u K => wp_X9_putBack_B2 i u Q K) (fun j u => fl [33] w u ∧ ∀ i, i < j → wi u 0 33 i = wi w 0 34 i) 95 0 (by omega) (by omega) ⟨fl_rf, fun i hi => absurd hi (by omega)⟩ ?_ ?_
  · rintro j u K hj ⟨f, a⟩ hK
    unfold wp_X9_putBack_B2
    rw [show (95 : Int32) = nI 95 from rfl, n_le (by omega) (by omega), n_cl (by omega), nI_1 j]
    refine ⟨fun z => absurd z (by omega), fun _ => ⟨n_in (by omega) (by omega), n_in (by omega) (by omega), fun u1 q1 => hK u1 ⟨by rw [q1]; exact f.sI (by decide), fun i hi => ?_⟩⟩⟩
    rw [q1, wi_sI]
    by_cases z : i = j
    · rw [if_pos ⟨rfl, rfl, z⟩, z]; exact f.wi (by decide) j
    · rw [if_neg (by omega)]; exact a i (by omega)
  · rintro u K ⟨f, a⟩
    unfold wp_X9_putBack_B2
    exact ⟨fun _ => k u f (mRw_of hS hs a), fun z => absurd (Int32.le_refl _) z⟩
