/-! THE CLASS: History, the whole state -/
def sm7 (n N : Nat) (w w' : Wd) : Prop := ∀ b, b < N → ∀ k, wi w' n b k = wi w n b k
theorem rS.of {n N : Nat} {w w' : Wd} {S : Sv} (h : rS n w S) (e : sm7 n N w w') (hN : 7 ≤ N) : rS n w' S := by
  obtain ⟨h1, h2, h3, h4, h5⟩ := h
  refine ⟨by rw [e 0 (by omega)]; exact h1, by rw [e 0 (by omega)]; exact h2, fun m hm => by rw [e 1 (by omega)]; exact h3 m hm, fun l hl => ?_, fun j hj => by rw [e 6 (by omega)]; exact h5 j hj⟩
  obtain ⟨a, b, c, d⟩ := h4 l hl
  exact ⟨by rw [e 2 (by omega)]; exact a, by rw [e 3 (by omega)]; exact b, by rw [e 4 (by omega)]; exact c, by rw [e 5 (by omega)]; exact d⟩
theorem dA.of {n : Nat} {w w' : Wd} {S : Sv} (h : dA n w S) (e : sm7 n 26 w w') : dA n w' S := by
  obtain ⟨hr, ⟨t1, t2, t3, t4⟩, ⟨c1, c2, c3⟩, ⟨s1, s2⟩, h1, h2⟩ := h
  refine ⟨hr.of e (by omega), ⟨fun m hm => by rw [e 9 (by omega)]; exact t1 m hm, fun m hm => by rw [e 10 (by omega)]; exact t2 m hm, by rw [e 8 (by omega)]; exact t3, by rw [e 8 (by omega)]; exact t4⟩, ⟨by rw [e 12 (by omega)]; exact c1, by rw [e 12 (by omega)]; exact c2, fun j hj => ?_⟩, ⟨fun l hl => by rw [e 13 (by omega)]; exact s1 l hl, fun j hj => by rw [e 19 (by omega)]; exact s2 j hj⟩, ⟨fun m hm => ⟨by rw [e 23 (by omega)]; exact (h1 m hm).1, by rw [e 24 (by omega)]; exact (h1 m hm).2⟩, fun t ht => by rw [e 25 (by omega)]; exact h2 t ht⟩⟩
  obtain ⟨a, b, c, d, f⟩ := c3 j hj
  exact ⟨by rw [e 14 (by omega)]; exact a, by rw [e 15 (by omega)]; exact b, by rw [e 16 (by omega)]; exact c, by rw [e 17 (by omega)]; exact d, by rw [e 18 (by omega)]; exact f⟩
/-- the saved surveys: how many, the oldest one first -/
abbrev Hs : Type := Nat × (Nat → Sv)
def hsT (w : Wd) (H : Hs) : Prop := wi w 0 27 0 = nI H.1 ∧ H.1 ≤ 6 ∧ (∀ i, i < 6 → 2 ≤ sv w i ∧ sv w i < 8) ∧ (∀ i j, i < 6 → j < 6 → sv w i = sv w j → i = j) ∧ ∀ i, i < H.1 → wf (H.2 i) ∧ rS (sv w i) w (H.2 i)
def psh (H : Hs) (S : Sv) : Hs := if H.1 = 6 then (6, fun i => if i = 5 then S else H.2 (i + 1)) else (H.1 + 1, fun i => if i = H.1 then S else H.2 i)
def fh (w w' : Wd) : Prop := (∀ a b, a < 2 → ¬ (a = 0 ∧ b = 27) → ∀ k, wi w' a b k = wi w a b k) ∧ ∀ k, wl w' k = wl w k
theorem s_dropOldest {w : Wd} {Q : Wd → Prop} (h2 : ∀ i, i < 6 → 2 ≤ sv w i ∧ sv w i < 8) (k : ∀ w', (∀ a b, ¬ (a = 0 ∧ b = 27) → ∀ k, wi w' a b k = wi w a b k) → (∀ k, wl w' k = wl w k) → wi w' 0 27 0 = nI 5 → (∀ i, i < 6 → sv w' i = if i = 5 then sv w 0 else sv w (i + 1)) → Q w') : wp_X1_dropOldest w Q := by
  unfold wp_X1_dropOldest
  refine ⟨(h2 0 (by omega)).2, ?_⟩
  unfold wp_X1_dropOldest_L9
  refine lpIA (B := fun i v K => wp_X1_dropOldest_B9 (sv w 0) i v Q K) (fun j v => 1 ≤ j ∧ (∀ a b k, wi v a b k = wi w a b k) ∧ (∀ k, wl v k = wl w k) ∧ ∀ i, i < 6 → sv v i = if i + 1 < j then sv w (i + 1) else sv w i) 6 1 (by omega) (by omega) ⟨Nat.le_refl _, fun _ _ _ => rfl, fun _ => rfl, fun i _ => by rw [if_neg (by omega)]⟩ ?_ ?_
  · rintro j v K hj ⟨j0, a, b, c⟩ hK
    unfold wp_X1_dropOldest_B9
    rw [show (6 : Int32) = nI 6 from rfl, n_le (by omega) (by omega)]
    refine ⟨fun z => absurd z (by omega), fun _ => ?_⟩
    rw [show (1 : Int32) = nI 1 from rfl, pk_sub (by omega), n_cl (show j < 2147483648 by omega), n_cl (show j - 1 < 2147483648 by omega), c j hj, if_neg (by omega)]
    refine ⟨n_in (by omega) (by omega), (h2 j hj).2, n_in (by omega) (by omega), fun v1 q1 => ?_⟩
    rw [← show (1 : Int32) = nI 1 from rfl, nI_1]
    refine hK v1 ⟨by omega, fun x y z => by rw [q1]; exact a x y z, fun x => by rw [q1]; exact b x, fun i hi => ?_⟩
    rw [q1, sv_sV]
    by_cases z : i = j - 1
    · rw [if_pos z, if_pos (by omega)]; congr 1; omega
    · rw [if_neg z, c i hi]
      by_cases y : i + 1 < j
      · rw [if_pos y, if_pos (by omega)]
      · rw [if_neg y, if_neg (by omega)]
  · rintro v K ⟨j0, a, b, c⟩
    unfold wp_X1_dropOldest_B9
    refine ⟨fun _ => fun v1 q1 v2 q2 => k v2 (fun x y z t => ?_) (fun t => ?_) ?_ (fun i hi => ?_), fun z => absurd (Int32.le_refl _) z⟩
    · rw [q2, wi_sI, if_neg (by omega), q1]; exact a x y t
    · rw [q2, q1]; exact b t
    · rw [q2, wi_sI, if_pos ⟨rfl, rfl, rfl⟩]; rfl
    · rw [q2, sv_sI, q1, sv_sV]
      by_cases z : i = 5
      · rw [if_pos z, if_pos z]
      · rw [if_neg z, if_neg z, c i hi, if_pos (by omega)]
theorem s_save {w : Wd} {S : Sv} {H : Hs} {Q : Wd → Prop} (hS : wf S) (hr : rS 0 w S) (hh : hsT w H) (k : ∀ w', fh w w' → hsT w' (psh H S) → Q w') : wp_X1_save 0 w Q := by
  -- after the place is free
  have go : ∀ (v : Wd) (G : Hs), fh w v → hsT v G → G.1 < 6 → (∀ w', fh w w' → hsT w' (G.1 + 1, fun i => if i = G.1 then S else G.2 i) → Q w') → wp_X1_save_J13 0 v Q := by
    intro v G fv hv hG kk
    obtain ⟨g1, g2, g3, g4, g5⟩ := id hv
    have rv : rS 0 v S := hr.of (N := 7) (fun b hb j => fv.1 0 b (by omega) (by omega) j) (by omega)
    unfold wp_X1_save_J13
    rw [g1, n_cl (by omega)]
    refine ⟨n_in hG (by omega), (g3 _ hG).2, s_copy hS (by have := g3 _ hG; omega) rv (fun v1 f1 r1 v2 q2 => ?_)⟩
    have e0 : wi v1 0 27 0 = nI G.1 := (f1.wi (by have := g3 _ hG; omega) 0).trans g1
    rw [e0, nI_1] at q2
    have e2 : ∀ i, sv v2 i = sv v i := fun i => by rw [q2, sv_sI]; exact f1.sv i
    refine kk v2 ⟨fun a b ha hn j => ?_, fun j => ?_⟩ ⟨?_, by show G.1 + 1 ≤ 6; omega, fun i hi => by rw [e2]; exact g3 i hi, fun i j hi hj e => g4 i j hi hj (by rw [e2, e2] at e; exact e), fun i hi => ?_⟩
    · rw [q2, wi_sI, if_neg (by omega), f1.wi (by have := g3 _ hG; omega) j]; exact fv.1 a b ha hn j
    · rw [q2, wl_sI, f1.wl]; exact fv.2 j
    · rw [q2, wi_sI, if_pos ⟨rfl, rfl, rfl⟩]
    · rw [e2]
      have h2i := g3 i (by omega)
      have c2 : ∀ (R : Sv), rS (sv v i) v1 R → rS (sv v i) v2 R := fun R h => h.of (N := 7) (fun b hb j => by rw [q2, wi_sI, if_neg (by omega)]) (by omega)
      show wf (if i = G.1 then S else G.2 i) ∧ rS (sv v i) v2 (if i = G.1 then S else G.2 i)
      by_cases z : i = G.1
      · rw [if_pos z, z]
        rw [z] at c2
        exact ⟨hS, c2 _ r1⟩
      · rw [if_neg z]
        have hi' : i < G.1 := by
          have : i < G.1 + 1 := hi
          omega
        refine ⟨(g5 i hi').1, c2 _ ((g5 i hi').2.fm f1 (Or.inl (fun e => z ?_)))⟩
        exact (g4 _ _ (by omega) (by omega) e).symm
  obtain ⟨h1, h2, h3, h4, h5⟩ := id hh
  unfold wp_X1_save
  rw [h1, show (6 : Int32) = nI 6 from rfl, n_lt (by omega) (by omega)]
  refine ⟨fun z => go w H ⟨fun _ _ _ _ _ => rfl, fun _ => rfl⟩ hh z (fun w' f' h' => k w' f' ?_), fun z => s_dropOldest h3 (fun w' e1 e2 e3 e4 => ?_)⟩
  · unfold psh; rw [if_neg (by omega)]; exact h'
  · have hv : hsT w' (5, fun i => H.2 (i + 1)) := by
      refine ⟨e3, by show 5 ≤ 6; omega, fun i hi => ?_, fun i j hi hj e => ?_, fun i hi => ?_⟩
      · rw [e4 i hi]
        split
        · exact h3 0 (by omega)
        · exact h3 (i + 1) (by omega)
      · rw [e4 i hi, e4 j hj] at e
        by_cases zi : i = 5
        · by_cases zj : j = 5
          · omega
          · rw [if_pos zi, if_neg zj] at e
            have := h4 0 (j + 1) (by omega) (by omega) e
            omega
        · by_cases zj : j = 5
          · rw [if_neg zi, if_pos zj] at e
            have := h4 (i + 1) 0 (by omega) (by omega) e
            omega
          · rw [if_neg zi, if_neg zj] at e
            have := h4 (i + 1) (j + 1) (by omega) (by omega) e
            omega
      · have hi5 : i < 5 := hi
        obtain ⟨q1, q2⟩ := h5 (i + 1) (by omega)
        have h2i := h3 (i + 1) (by omega)
        rw [e4 i (by omega), if_neg (by omega)]
        exact ⟨q1, q2.of (N := 7) (fun b hb j => e1 _ _ (by omega) j) (by omega)⟩
    refine go w' (5, fun i => H.2 (i + 1)) ⟨fun a b ha hn j => e1 a b hn j, e2⟩ hv (by show 5 < 6; omega) (fun w2 f2 hw2 => k w2 f2 ?_)
    unfold psh; rw [if_pos (by omega)]; exact hw2
theorem s_restore {w : Wd} {H : Hs} {Q : Wd → Prop} (hh : hsT w H) (hp : 0 < H.1) (k : ∀ w', fm 0 0 27 w w' → rS 0 w' (H.2 (H.1 - 1)) → hsT w' (H.1 - 1, H.2) → (∀ b, 7 ≤ b → b ≠ 27 → ∀ j, wi w' 0 b j = wi w 0 b j) → Q w') : wp_X1_restore 0 w Q := by
  obtain ⟨h1, h2, h3, h4, h5⟩ := id hh
  have h3' := h3 (H.1 - 1) (by omega)
  obtain ⟨w5, r5⟩ := h5 (H.1 - 1) (by omega)
  unfold wp_X1_restore
  rw [h1, show (1 : Int32) = nI 1 from rfl, pk_sub (by omega), n_cl (by omega), show (0 : Int32) = nI 0 from rfl, n_eq (by omega) (by omega)]
  refine ⟨fun _ => ⟨n_in (by omega) (by omega), h3'.2, s_copy w5 (by omega) r5 (fun v1 f1 r1 v2 q2 => ?_)⟩, fun z => absurd z (by omega)⟩
  have e0 : wi v1 0 27 0 = nI H.1 := (f1.wi (by omega) 0).trans h1
  rw [e0, pk_sub (by omega)] at q2
  have e2 : ∀ i, sv v2 i = sv w i := fun i => by rw [q2, sv_sI]; exact f1.sv i
  refine k v2 ?_ (r1.of (N := 7) (fun b hb j => by rw [q2, wi_sI, if_neg (by omega)]) (by omega)) ⟨?_, by show H.1 - 1 ≤ 6; omega, fun i hi => by rw [e2]; exact h3 i hi, fun i j hi hj e => h4 i j hi hj (by rw [e2, e2] at e; exact e), fun i hi => ?_⟩ (fun b hb hb2 j => ?_)
  · rw [q2]; exact (f1.wide (by omega) (by omega)).sI (by omega) (by omega)
  · rw [q2, wi_sI, if_pos ⟨rfl, rfl, rfl⟩]
  · have hi' : i < H.1 - 1 := hi
    obtain ⟨q3, q4⟩ := h5 i (by omega)
    have h3i := h3 i (by omega)
    rw [e2]
    refine ⟨q3, q4.of (N := 7) (fun b hb j => ?_) (by omega)⟩
    rw [q2, wi_sI, if_neg (by omega)]
    exact f1.wi (by omega) j
  · rw [q2, wi_sI, if_neg (by omega)]
    exact f1.wi (by omega) j
/-! surveys stay well formed -/
theorem wf_addM {S : Sv} (h : wf S) {k : Int} (hk : -1 ≤ k ∧ k ≤ 99999) (hn : nM S < 10) : wf (addM S k) := by
  obtain ⟨a, b, c, d, e⟩ := h
  refine ⟨by show nM S + 1 ≤ 10; omega, b, fun m hm => ?_, fun l hl => ?_, e⟩
  · show -1 ≤ (if m = nM S then k else kn S m) ∧ (if m = nM S then k else kn S m) ≤ 99999
    by_cases z : m = nM S
    · rw [if_pos z]; exact hk
    · rw [if_neg z]
      have : m < nM S + 1 := hm
      exact c m (by omega)
  · obtain ⟨p1, p2, p3⟩ := d l hl
    exact ⟨Nat.lt_succ_of_lt p1, Nat.lt_succ_of_lt p2, p3⟩
theorem wf_addL {S : Sv} (h : wf S) {f t l : Nat} {d : Int} (hn : nL S < 20) (h1 : f < nM S) (h2 : t < nM S) (h3 : f ≠ t) (h4 : -9999 ≤ d ∧ d ≤ 9999) (h5 : 1 ≤ l ∧ l ≤ 99) : wf (addL S f t d l) := by
  obtain ⟨a, b, c, e, g⟩ := h
  refine ⟨a, by show nL S + 1 ≤ 20; omega, c, fun i hi => ?_, g⟩
  have hi' : i < nL S + 1 := hi
  show (if i = nL S then f else fr S i) < nM S ∧ (if i = nL S then t else tO S i) < nM S ∧ (if i = nL S then f else fr S i) ≠ (if i = nL S then t else tO S i) ∧ -9999 ≤ (if i = nL S then d else df S i) ∧ (if i = nL S then d else df S i) ≤ 9999 ∧ 1 ≤ (if i = nL S then l else ln S i) ∧ (if i = nL S then l else ln S i) ≤ 99
  by_cases z : i = nL S
  · simp only [if_pos z]
    exact ⟨h1, h2, h3, h4.1, h4.2, h5.1, h5.2⟩
  · simp only [if_neg z]
    exact e i (by omega)
theorem wf_turL {S : Sv} (h : wf S) {l : Nat} (hl : l < nL S) : wf (turL S l) := by
  obtain ⟨a, b, c, e, g⟩ := h
  refine ⟨a, b, c, fun i hi => ?_, g⟩
  obtain ⟨x1, x2, x3, x4, x5, x6, x7⟩ := e l hl
  obtain ⟨p1, p2, p3, p4, p5, p6, p7⟩ := e i hi
  show (if i = l then tO S l else fr S i) < nM S ∧ (if i = l then fr S l else tO S i) < nM S ∧ (if i = l then tO S l else fr S i) ≠ (if i = l then fr S l else tO S i) ∧ -9999 ≤ (if i = l then - df S l else df S i) ∧ (if i = l then - df S l else df S i) ≤ 9999 ∧ 1 ≤ ln S i ∧ ln S i ≤ 99
  by_cases z : i = l
  · simp only [if_pos z]
    exact ⟨x2, x1, fun q => x3 q.symm, by omega, by omega, p6, p7⟩
  · simp only [if_neg z]
    exact ⟨p1, p2, p3, p4, p5, p6, p7⟩
theorem wf_drpL {S : Sv} (h : wf S) {l : Nat} (hl : l < nL S) : wf (drpL S l) := by
  obtain ⟨a, b, c, e, g⟩ := h
  refine ⟨a, by show nL S - 1 ≤ 20; omega, c, fun i hi => ?_, g⟩
  have hi' : i < nL S - 1 := hi
  show sft (fr S) l i < nM S ∧ sft (tO S) l i < nM S ∧ sft (fr S) l i ≠ sft (tO S) l i ∧ -9999 ≤ sft (df S) l i ∧ sft (df S) l i ≤ 9999 ∧ 1 ≤ sft (ln S) l i ∧ sft (ln S) l i ≤ 99
  unfold sft
  by_cases z : i < l
  · simp only [if_pos z]; exact e i (by omega)
  · simp only [if_neg z]; exact e (i + 1) (by omega)
theorem wf_meaL {S : Sv} (h : wf S) {l : Nat} {d : Int} (hd : -9999 ≤ d ∧ d ≤ 9999) : wf (meaL S l d) := by
  obtain ⟨a, b, c, e, g⟩ := h
  refine ⟨a, b, c, fun i hi => ?_, g⟩
  obtain ⟨p1, p2, p3, p4, p5, p6, p7⟩ := e i hi
  show fr S i < nM S ∧ tO S i < nM S ∧ fr S i ≠ tO S i ∧ -9999 ≤ (if i = l then d else df S i) ∧ (if i = l then d else df S i) ≤ 9999 ∧ 1 ≤ ln S i ∧ ln S i ≤ 99
  by_cases z : i = l
  · simp only [if_pos z]
    exact ⟨p1, p2, p3, hd.1, hd.2, p6, p7⟩
  · simp only [if_neg z]
    exact ⟨p1, p2, p3, p4, p5, p6, p7⟩
theorem wf_knoM {S : Sv} (h : wf S) {m : Nat} {k : Int} (hk : -1 ≤ k ∧ k ≤ 99999) : wf (knoM S m k) := by
  obtain ⟨a, b, c, e, g⟩ := h
  refine ⟨a, b, fun i hi => ?_, e, g⟩
  show -1 ≤ (if i = m then k else kn S i) ∧ (if i = m then k else kn S i) ≤ 99999
  by_cases z : i = m
  · rw [if_pos z]; exact hk
  · rw [if_neg z]; exact c i hi
theorem wf_setS {S : Sv} (h : wf S) {i : Nat} {v : Int} (hv : 0 ≤ v) (h2 : v ≤ 999) (h3 : i = 2 ∨ v ≤ 99) : wf (setS S i v) := by
  obtain ⟨a, b, c, e, g1, g2, g3, g4, g5, g6⟩ := h
  refine ⟨a, b, c, e, ?_⟩
  show 0 ≤ (if 0 = i then v else st S 0) ∧ (if 0 = i then v else st S 0) ≤ 99 ∧ 0 ≤ (if 1 = i then v else st S 1) ∧ (if 1 = i then v else st S 1) ≤ 99 ∧ 0 ≤ (if 2 = i then v else st S 2) ∧ (if 2 = i then v else st S 2) ≤ 999
  refine ⟨?_, ?_, ?_, ?_, ?_, ?_⟩ <;> split <;> omega
/-- the buffer: how many codes, the codes -/
abbrev Tx : Type := Nat × (Nat → Int32)
def tX (w : Wd) (T : Tx) : Prop := wi w 0 29 0 = nI T.1 ∧ T.1 ≤ 60 ∧ ∀ i, i < T.1 → wi w 0 30 i = T.2 i
abbrev Ss : Type := Sv × Hs × Tx
/-- an instance of the class -/
def okC (w : Wd) (σ : Ss) : Prop := wf σ.1 ∧ dA 0 w σ.1 ∧ hsT w σ.2.1 ∧ tX w σ.2.2
theorem hsT.of {w w' : Wd} {H : Hs} (h : hsT w H) (e1 : ∀ a b, 2 ≤ a → ∀ k, wi w' a b k = wi w a b k) (e2 : wi w' 0 27 0 = wi w 0 27 0) (e3 : ∀ i, sv w' i = sv w i) : hsT w' H := by
  obtain ⟨h1, h2, h3, h4, h5⟩ := h
  refine ⟨by rw [e2]; exact h1, h2, fun i hi => by rw [e3]; exact h3 i hi, fun i j hi hj e => h4 i j hi hj (by rw [e3, e3] at e; exact e), fun i hi => ?_⟩
  rw [e3]
  have h3i := h3 i (by omega)
  exact ⟨(h5 i hi).1, (h5 i hi).2.of (N := 7) (fun b hb j => e1 _ _ (by omega) j) (by omega)⟩
theorem hsT.fm {n lo hi : Nat} {w w' : Wd} {H : Hs} (h : hsT w H) (k : fm n lo hi w w') (h1 : n = 1 ∨ (n = 0 ∧ (hi < 27 ∨ 27 < lo))) : hsT w' H :=
  h.of (fun a b ha j => k.wi (by omega) j) (k.wi (by omega) 0) k.sv
theorem tX.fm {n lo hi : Nat} {w w' : Wd} {T : Tx} (h : tX w T) (k : fm n lo hi w w') (h1 : n ≠ 0 ∨ hi < 29 ∨ 30 < lo) : tX w' T :=
  ⟨by rw [k.wi (by omega) 0]; exact h.1, h.2.1, fun i hi => by rw [k.wi (by omega) i]; exact h.2.2 i hi⟩
theorem s_thinkAway {l : Nat} {w : Wd} {S : Sv} {Q : Wd → Prop} (hS : wf S) (hr : rS 0 w S) (hl : l < nL S) (k : ∀ w', fm 1 0 25 w w' → dA 1 w' (drpL S l) → Q w') : wp_X8_thinkAway (nI l) w Q := by
  unfold wp_X8_thinkAway
  refine s_copy hS (by omega) hr (fun w1 f1 r1 => s_dropLeg hS r1 hl (fun w2 f2 r2 => s_renew (wf_drpL hS hl) r2 (fun w3 f3 d3 => k w3 ?_ d3)))
  exact ((f1.wide (by omega) (by omega)).tr (f2.wide (by omega) (by omega))).tr (f3.wide (by omega) (by omega))
theorem okC.fm1 {lo hi : Nat} {w w' : Wd} {σ : Ss} (h : okC w σ) (k : fm 1 lo hi w w') : okC w' σ :=
  ⟨h.1, h.2.1.fm k (Or.inl (by omega)), h.2.2.1.fm k (Or.inl rfl), h.2.2.2.fm k (Or.inl (by omega))⟩
def oWb (S : Sv) (what : Int32) : Int32 :=
  if what = 0 then nI (nlp S) else if what = 1 then nI (nbd S) else if what = 2 then nI (ct (fun m => net S m == m) (nM S)) else iI (smm S)
theorem s_wouldBe {what : Int32} {w : Wd} {S : Sv} {Q : Int32 → Prop} (hS : wf S) (h : dA 1 w S) (k : Q (oWb S what)) : wp_X8_wouldBe what w Q := by
  unfold wp_X8_wouldBe
  rw [h.2.2.1.1]
  refine ⟨fun z => ?_, fun z => ?_, fun z => ?_, fun z0 z1 z2 => ?_⟩
  · subst z; exact k
  · subst z; exact s_howManyBad hS h.2.2.1 k
  · subst z; exact s_howManyNets hS h.1 h.2.1 k
  · unfold oWb at k
    rw [if_neg z0, if_neg z1, if_neg z2] at k
    exact s_missesTogether hS h.2.2.1 k
def oFt (S : Sv) (l : Nat) : Int32 := oWy (drpL S l) (fr S l) (tO S l) 2
theorem s_wouldFit {l : Nat} {w : Wd} {S : Sv} {Q : Int32 → Prop} (hS : wf S) (hr : rS 0 w S) (hl : l < nL S) (h : dA 1 w (drpL S l)) (k : Q (oFt S l)) : wp_X8_wouldFit (nI l) w Q := by
  have hll := hS.l
  obtain ⟨a, b, c, d⟩ := hr.2.2.2.1 l hl
  obtain ⟨g1, g2, g3⟩ := hS.g hl
  unfold wp_X8_wouldFit
  rw [n_cl (by omega), a, b]
  exact ⟨n_in (by omega) (by omega), n_in (by omega) (by omega), s_ofWay (wf_drpL hS hl) h g1 g2 k⟩
def oCt (σ : Ss) (what : Int32) : Int32 :=
  if what = 0 then nI (nM σ.1) else if what = 1 then nI (nL σ.1) else if what = 2 then nI (nlp σ.1) else if what = 3 then nI (nbd σ.1) else if what = 4 then nI (ct (fun m => net σ.1 m == m) (nM σ.1)) else if what = 5 then nI (nmv σ.1) else if what = 6 then iI (smm σ.1) else if what = 7 then iI (smc σ.1) else if what = 8 then nI (nth σ.1) else if what = 9 then iI (sm (fun l => (ln σ.1 l : Int)) (nL σ.1)) else nI σ.2.1.1
theorem s_counted {what : Int32} {w : Wd} {σ : Ss} {Q : Int32 → Prop} (h : okC w σ) (k : Q (oCt σ what)) : wp_X8_counted what w Q := by
  obtain ⟨hS, hd, hh, ht⟩ := h
  unfold wp_X8_counted
  rw [hd.1.1, hd.1.2.1, hd.2.2.1.1, hh.1]
  refine ⟨fun z => ?_, fun z => ?_, fun z => ?_, fun z => ?_, fun z => ?_, fun z => ?_, fun z => ?_, fun z => ?_, fun z => ?_, fun z => ?_, fun z0 z1 z2 z3 z4 z5 z6 z7 z8 z9 => ?_⟩
  · subst z; exact k
  · subst z; exact k
  · subst z; exact k
  · subst z; exact s_howManyBad hS hd.2.2.1 k
  · subst z; exact s_howManyNets hS hd.1 hd.2.1 k
  · subst z; exact s_howManyMoved hS hd k
  · subst z; exact s_missesTogether hS hd.2.2.1 k
  · subst z; exact s_correctionsTogether hS hd.1 hd.2.2.2.1 k
  · subst z; exact s_howManyThere hS hd k
  · subst z
    refine s_allLegs hS hd.1 (fun x hx => s_lengthOf hS hd.1 hx ?_)
    have k' : Q (iI (sm (fun l => (ln σ.1 l : Int)) (nL σ.1))) := k
    rw [sm_congr (g := fun l => (ln σ.1 l : Int)) (fun l hl => by rw [if_pos (decide_eq_true hl)])]
    exact k'
  · unfold oCt at k
    rw [if_neg z0, if_neg z1, if_neg z2, if_neg z3, if_neg z4, if_neg z5, if_neg z6, if_neg z7, if_neg z8, if_neg z9] at k
    exact k
