/-! THE CLASS: Tree, hanging and growing -/
theorem rM_hang {S : Sv} {h : Ht} {l : Nat} : True := trivial
theorem hc_all {S : Sv} {h : Ht} (hm : ∀ m, m < nM S → hung S h m = true) : hc S h = nM S := by
  unfold hc
  have : ∀ n, n ≤ nM S → ct (hung S h) n = n := by
    intro n hn
    induction n with
    | zero => rfl
    | succ n ih => rw [ct, ih (by omega), hm n (by omega)]; rfl
  exact this _ (Nat.le_refl _)
theorem s_hang {n : Nat} {w : Wd} {S : Sv} {Q : Wd → Prop} (hS : wf S) (hr : rS n w S) (hn : nT n w S) (k : ∀ w', fm n 8 10 w w' → nT n w' S → hT n w' S (hg S) → Q w') : wp_X7_hang n w Q := by
  have hm := hS.m
  have hl := hS.l
  obtain ⟨h1, h2, h3, h4, h5⟩ := id hr
  unfold wp_X7_hang wp_X7_hang_L9
  intro w0 e0
  have f0 : fm n 8 10 w w0 := by rw [e0]; exact fm.rf.sI (by omega) (by omega)
  refine lpAIB (B := fun x i v K => wp_X7_hang_B9 n x i v Q K) (fun j x v => fm n 8 10 w v ∧ nT n v S ∧ bm (wi v n 8 1) (fun _ => false) ∧ (∀ m, m < j → wi v n 10 m = 0) ∧ bm x (fun m => decide (m < j) && (net S m == m))) (nM S) 0 (by omega) (Nat.zero_le _) ⟨f0, ⟨fun m hmm => ?_, ?_⟩, ?_, fun m hmm => absurd hmm (by omega), bm_congr bm_0 (fun i => by simp)⟩ ?_ ?_
  · rw [e0, wi_sI, if_neg (by omega)]; exact hn.1 m hmm
  · rw [e0, wi_sI, if_neg (by omega)]; exact hn.2
  · rw [e0, wi_sI, if_pos ⟨rfl, rfl, rfl⟩]; exact bm_0
  · rintro j x v K hj ⟨f, g1, g2, g3, g4⟩ hK
    have r := hr.fm f (by omega)
    unfold wp_X7_hang_B9
    rw [r.1, n_le (by omega) (by omega), n_cl (by omega)]
    have hin := n_in (show j < 10 by omega) (by omega)
    refine ⟨fun c => absurd c (by omega), fun _ => ⟨hin, fun v1 e1 => ⟨hin, ?_⟩⟩⟩
    have en : wi v1 n 9 j = nI (net S j) := by rw [e1, wi_sI, if_neg (by omega)]; exact g1.1 j hj
    have hnl := net_le hS j
    rw [en, n_eq (by omega) (by omega), nI_1]
    have common : fm n 8 10 w v1 ∧ nT n v1 S ∧ bm (wi v1 n 8 1) (fun _ => false) ∧ (∀ m, m < j + 1 → wi v1 n 10 m = 0) := by
      refine ⟨by rw [e1]; exact f.sI (by omega) (by omega), ⟨fun m hmm => ?_, ?_⟩, ?_, fun m hmm => ?_⟩
      · rw [e1, wi_sI, if_neg (by omega)]; exact g1.1 m hmm
      · rw [e1, wi_sI, if_neg (by omega)]; exact g1.2
      · rw [e1, wi_sI, if_neg (by omega)]; exact g2
      · rw [e1, wi_sI]
        by_cases z : m = j
        · rw [if_pos ⟨rfl, rfl, z⟩]
        · rw [if_neg (by omega)]; exact g3 m (by omega)
    refine ⟨fun c => hK _ _ ⟨common.1, common.2.1, common.2.2.1, common.2.2.2, bm_congr g4 (fun i => ?_)⟩, fun c => hK _ _ ⟨common.1, common.2.1, common.2.2.1, common.2.2.2, bm_congr (bm_or g4 (bm_bit j (by omega))) (fun i => ?_)⟩⟩
    · by_cases z : i = j
      · subst z; simp [c]
      · have : decide (i < j) = decide (i < j + 1) := by congr 1; apply propext; omega
        rw [this]
    · by_cases z : i = j
      · subst z; simp [c]
      · have : decide (i < j) = decide (i < j + 1) := by congr 1; apply propext; omega
        rw [this]; simp [z]
  · rintro x v K ⟨f, g1, g2, g3, g4⟩
    have r := hr.fm f (by omega)
    unfold wp_X7_hang_B9
    rw [r.1, n_le (by omega) (by omega)]
    refine ⟨fun _ => ?_, fun c => absurd (Nat.le_refl _) c⟩
    unfold wp_X7_hang_L63
    have ball := bm_all (nM S) (by omega)
    refine lpAIB (B := fun x i v K => wp_X7_hang_B63 n x (((1 : Int32) <<< (nI (nM S) &&& 31)) - (1 : Int32)) i v Q K) (fun j x v => fm n 8 10 w v ∧ nT n v S ∧ hT n v S (hgK S (j - 1)) ∧ bm x (rM S (hgK S (j - 1))) ∧ 1 ≤ j) (nM S + 1) 1 (by omega) (by omega) ⟨f, g1, ⟨fun m hmm => by rw [g3 m hmm]; exact bm_0, g2⟩, bm_congr g4 (fun i => by simp [rM, hung, hgK]), Nat.le_refl _⟩ ?_ ?_
    · rintro j x v K hj ⟨f, g1, g2, g3, g4⟩ hK
      have r := hr.fm f (by omega)
      unfold wp_X7_hang_B63
      rw [r.1, n_le (by omega) (by omega)]
      refine ⟨fun c => ?_, fun c => ⟨fun e => ?_, fun e => ?_⟩⟩
      · have := hg_of hS (j := j - 1) (Or.inr (Or.inr (by omega)))
        exact k v f g1 (by rw [← this]; exact g2)
      · have := hg_of hS (j := j - 1) (Or.inr (Or.inl (hc_all (fun m hmm => ?_))))
        · exact k v f g1 (by rw [← this]; exact g2)
        · have := bm_inj (e ▸ g3) ball m
          simp [rM, hmm] at this
          exact this
      · unfold wp_X7_hang_L82
        refine lpAIB (B := fun x' i v K' => wp_X7_hang_B82 n x' (((1 : Int32) <<< (nI (nM S) &&& 31)) - (1 : Int32)) (nI j) i v Q K K') (fun l x v => fm n 8 10 w v ∧ nT n v S ∧ hT n v S (psK S (hgK S (j - 1)) l) ∧ bm x (rM S (psK S (hgK S (j - 1)) l))) (nL S) 0 (by omega) (Nat.zero_le _) ⟨f, g1, g2, g3⟩ ?_ ?_
        · rintro l x v K' hlt ⟨f, g1, g2, g3⟩ hK'
          have r := hr.fm f (by omega)
          unfold wp_X7_hang_B82
          rw [r.2.1, n_le (by omega) (by omega), nI_1 l]
          refine ⟨fun c => absurd c (by omega), fun _ => s_isIn g1.2 (by omega) (fun ht => ⟨fun c => absurd c (by decide), fun _ => ?_⟩) (fun ht => ⟨fun _ => ?_, fun c => absurd rfl c⟩)⟩
          · exact s_reachBy hS r hlt ht g3 g1 g2 (fun r v' f' a b c => hK' _ _ ⟨f.tr f', a, b, c⟩)
          · have e2 : hst S (psK S (hgK S (j - 1)) l) l = psK S (hgK S (j - 1)) l := by unfold hst; rw [if_neg (by simp [ht])]
            refine hK' _ _ ⟨f, g1, ?_, ?_⟩
            · rw [psK, e2]; exact g2
            · rw [psK, e2]; exact g3
        · rintro x v K' ⟨f, g1, g2, g3⟩
          have r := hr.fm f (by omega)
          unfold wp_X7_hang_B82
          rw [r.2.1, n_le (by omega) (by omega), nI_1]
          refine ⟨fun _ => hK _ _ ⟨f, g1, ?_, ?_, by omega⟩, fun c => absurd (Nat.le_refl _) c⟩
          · rw [show j + 1 - 1 = j - 1 + 1 by omega]; exact g2
          · rw [show j + 1 - 1 = j - 1 + 1 by omega]; exact g3
    · rintro x v K ⟨f, g1, g2, g3, g4⟩
      have r := hr.fm f (by omega)
      unfold wp_X7_hang_B63
      rw [r.1, n_le (by omega) (by omega)]
      refine ⟨fun c => ?_, fun c => absurd (show nM S ≤ nM S + 1 by omega) c⟩
      have := hg_of hS (j := nM S + 1 - 1) (Or.inr (Or.inr (by omega)))
      exact k v f g1 (by rw [← this]; exact g2)
theorem s_grow {n : Nat} {w : Wd} {S : Sv} {Q : Wd → Prop} (hS : wf S) (hr : rS n w S) (k : ∀ w', fm n 8 11 w w' → dT n w' S → Q w') : wp_X7_grow n w Q := by
  have hm := hS.m
  have hl := hS.l
  unfold wp_X7_grow
  refine s_sortLegs hS hr (fun w1 f1 o1 w2 e2 => ?_)
  have f2 : fm n 8 11 w w2 := by rw [e2]; exact (f1.wide (by omega) (by omega)).sI (by omega) (by omega)
  have o2 : ∀ i, i < nL S → wi w2 n 11 i = nI (oL S i) := fun i hi => by rw [e2, wi_sI, if_neg (by omega)]; exact o1 i hi
  have l2 : wi w2 n 8 0 = 0 := by rw [e2, wi_sI, if_pos ⟨rfl, rfl, rfl⟩]
  unfold wp_X7_grow_L11
  refine lpIA (B := fun i v K => wp_X7_grow_B11 n i v Q K) (fun j v => fm n 8 11 w v ∧ (∀ i, i < nL S → wi v n 11 i = nI (oL S i)) ∧ wi v n 8 0 = 0 ∧ ∀ m, m < j → wi v n 9 m = nI m) (nM S) 0 (by omega) (Nat.zero_le _) ⟨f2, o2, l2, fun m hmm => absurd hmm (by omega)⟩ ?_ ?_
  · rintro j v K hj ⟨f, g1, g2, g3⟩ hK
    have r := hr.fm f (by omega)
    unfold wp_X7_grow_B11
    rw [r.1, n_le (by omega) (by omega), n_cl (by omega), nI_1]
    refine ⟨fun c => absurd c (by omega), fun _ => ⟨n_in (by omega) (by omega), fun v1 e1 => hK v1 ⟨by rw [e1]; exact f.sI (by omega) (by omega), fun i hi => ?_, ?_, fun m hmm => ?_⟩⟩⟩
    · rw [e1, wi_sI, if_neg (by omega)]; exact g1 i hi
    · rw [e1, wi_sI, if_neg (by omega)]; exact g2
    · rw [e1, wi_sI]
      by_cases z : m = j
      · rw [if_pos ⟨rfl, rfl, z⟩, z]
      · rw [if_neg (by omega)]; exact g3 m (by omega)
  · rintro v K ⟨f, g1, g2, g3⟩
    have r := hr.fm f (by omega)
    unfold wp_X7_grow_B11
    rw [r.1, n_le (by omega) (by omega)]
    refine ⟨fun _ => ?_, fun c => absurd (Nat.le_refl _) c⟩
    unfold wp_X7_grow_L37
    refine lpIA (B := fun i v K => wp_X7_grow_B37 n i v Q K) (fun i v => fm n 8 11 w v ∧ (∀ i, i < nL S → wi v n 11 i = nI (oL S i)) ∧ bm (wi v n 8 0) (krK S i).2 ∧ ∀ m, m < nM S → wi v n 9 m = nI ((krK S i).1 m)) (nL S) 0 (by omega) (Nat.zero_le _) ⟨f, g1, by rw [g2]; exact bm_0, g3⟩ ?_ ?_
    · rintro i v K hi ⟨f, g1, g2, g3⟩ hK
      have r := hr.fm f (by omega)
      have ho := oL_lt (S := S) hi
      have hgl := hS.g ho
      unfold wfL at hgl
      obtain ⟨a, b, -, -⟩ := r.2.2.2.1 _ ho
      have la := (krK_lab hS (i := i) (by omega) (fr S (oL S i))).1
      have lb := (krK_lab hS (i := i) (by omega) (tO S (oL S i))).1
      unfold wp_X7_grow_B37
      rw [r.2.1, n_le (by omega) (by omega), n_cl (by omega), g1 i hi, n_cl (by omega), a, b, n_cl (by omega), n_cl (by omega), g3 _ hgl.1, g3 _ hgl.2.1, n_eq (by omega) (by omega), nI_1]
      refine ⟨fun c => absurd c (by omega), fun _ => ⟨n_in (by omega) (by omega), n_in (by omega) (by omega), n_in (by omega) (by omega), n_in (by omega) (by omega), n_in (by omega) (by omega), fun e => hK v ⟨f, g1, ?_, ?_⟩, fun e v1 e1 => ?_⟩⟩
      · rw [krK, kst, if_pos e]; exact g2
      · rw [krK, kst, if_pos e]; exact g3
      · have f1 : fm n 8 11 w v1 := by rw [e1]; exact f.sI (by omega) (by omega)
        have r1 := hr.fm f1 (by omega)
        have emax : imax (nI ((krK S i).1 (fr S (oL S i)))) (nI ((krK S i).1 (tO S (oL S i)))) = nI (max ((krK S i).1 (fr S (oL S i))) ((krK S i).1 (tO S (oL S i)))) := by
          unfold imax
          by_cases z : (krK S i).1 (fr S (oL S i)) < (krK S i).1 (tO S (oL S i))
          · rw [if_pos ((n_lt (by omega) (by omega)).mpr z), Nat.max_eq_right (by omega)]
          · rw [if_neg (fun q => z ((n_lt (by omega) (by omega)).mp q)), Nat.max_eq_left (by omega)]
        have emin : imin (nI ((krK S i).1 (fr S (oL S i)))) (nI ((krK S i).1 (tO S (oL S i)))) = nI (min ((krK S i).1 (fr S (oL S i))) ((krK S i).1 (tO S (oL S i)))) := by
          unfold imin
          by_cases z : (krK S i).1 (tO S (oL S i)) < (krK S i).1 (fr S (oL S i))
          · rw [if_pos ((n_lt (by omega) (by omega)).mpr z), Nat.min_eq_right (by omega)]
          · rw [if_neg (fun q => z ((n_lt (by omega) (by omega)).mp q)), Nat.min_eq_left (by omega)]
        rw [emax, emin]
        refine s_join hS r1 (f := (krK S i).1) (fun m hmm => ⟨by rw [e1, wi_sI, if_neg (by omega)]; exact g3 m hmm, ?_⟩) (by omega) (fun v2 f2 g => hK v2 ⟨f1.tr (f2.wide (by omega) (by omega)), fun j hj => ?_, ?_, ?_⟩)
        · have := (krK_lab hS (i := i) (by omega) m).1; omega
        · rw [f2.wi (by omega), e1, wi_sI, if_neg (by omega)]; exact g1 j hj
        · rw [f2.wi (by omega), e1, wi_sI, if_pos ⟨rfl, rfl, rfl⟩, krK, kst, if_neg e]
          refine bm_congr (bm_or g2 (bm_bit _ (by omega))) (fun j => ?_)
          rw [Bool.or_comm]
          congr 1
        · rw [krK, kst, if_neg e]; exact g
    · rintro v K ⟨f, g1, g2, g3⟩
      have r := hr.fm f (by omega)
      unfold wp_X7_grow_B37
      rw [r.2.1, n_le (by omega) (by omega)]
      refine ⟨fun _ => s_hang hS r ⟨g3, g2⟩ (fun w' f' a b => k w' (f.tr (f'.wide (by omega) (by omega))) ⟨a.1, b.1, a.2, b.2⟩), fun c => absurd (Nat.le_refl _) c⟩
/-! reads of the tree -/
theorem s_between {n a b : Nat} {w : Wd} {S : Sv} {Q : Int32 → Prop} (hS : wf S) (hd : dT n w S) (ha : a < nM S) (hb : b < nM S) (k : ∀ x, bm x (fun l => tT S a l ^^ tT S b l) → Q x) : wp_X7_between n (nI a) (nI b) w Q := by
  have hm := hS.m
  unfold wp_X7_between
  rw [n_cl (by omega), n_cl (by omega)]
  exact ⟨n_in (by omega) (by omega), n_in (by omega) (by omega), k _ (bm_xor (hd.2.1 a ha) (hd.2.1 b hb))⟩
/-- the first leg of a set at a mark; -1 -/
def fstL (S : Sv) (P : Nat → Bool) (m : Nat) : Nat → Int
  | 0 => -1
  | k + 1 => if fstL S P m k < 0 ∧ P k = true ∧ lgP S m k = true then (k : Int) else fstL S P m k
theorem fstL_bd {S : Sv} {P : Nat → Bool} {m k : Nat} : -1 ≤ fstL S P m k ∧ fstL S P m k < k := by
  induction k with
  | zero => exact ⟨show (-1 : Int) ≤ -1 by omega, show (-1 : Int) < ((0 : Nat) : Int) by omega⟩
  | succ k ih => rw [fstL]; split <;> omega
theorem fstL_keep {S : Sv} {P : Nat → Bool} {m j k : Nat} (h : ¬ fstL S P m j < 0) (hjk : j ≤ k) : fstL S P m k = fstL S P m j := by
  induction k with
  | zero => rw [show j = 0 by omega]
  | succ k ih =>
    by_cases q : j = k + 1
    · rw [q]
    · have e := ih (by omega)
      rw [fstL, if_neg (by rw [e]; exact fun z => h z.1), e]
theorem s_legAt {n m : Nat} {x : Int32} {P : Nat → Bool} {w : Wd} {S : Sv} {Q : Int32 → Prop} (hS : wf S) (hr : rS n w S) (hmm : m < nM S) (hx : bm x P) (k : Q (iI (fstL S P m (nL S)))) : wp_X7_legAt n (nI m) x w Q := by
  have hm := hS.m
  have hl := hS.l
  unfold wp_X7_legAt wp_X7_legAt_L2
  have key : ∃ (I : Int32 → Unit → Prop) (μ : Int32 → Unit → Nat), I (nI 0) () ∧ ∀ i u, I i u → wp_X7_legAt_B2 n (nI m) x i w Q (fun i' => I i' () ∧ μ i' () < μ i u) := by
    refine lpIA (α := Unit) (B := fun i u K => wp_X7_legAt_B2 n (nI m) x i w Q (fun i' => K i' ())) (fun j _ => fstL S P m j = -1) (nL S) 0 (by omega) (Nat.zero_le _) rfl ?_ ?_
    · rintro j u K hj hF hK
      obtain ⟨a, b, -, -⟩ := hr.2.2.2.1 j hj
      have hg := hS.g hj
      unfold wfL at hg
      unfold wp_X7_legAt_B2
      rw [hr.2.1, n_le (by omega) (by omega), n_cl (by omega), a, b, n_eq (by omega) (by omega), n_eq (by omega) (by omega), nI_1]
      have hin := n_in (show j < 20 by omega) (by omega)
      have found : P j = true → lgP S m j = true → Q (nI j) := by
        intro p1 p2
        have e : fstL S P m (j + 1) = j := by rw [fstL, if_pos ⟨by omega, p1, p2⟩]
        rw [fstL_keep (j := j + 1) (by rw [e]; omega) hj, e] at k
        rw [nI_iI]; exact k
      refine ⟨fun c => absurd c (by omega), fun _ => s_isIn hx (by omega) (fun p => ⟨fun c => absurd c (by decide), fun _ => ⟨hin, fun c => found p (by simp [lgP, c]), fun c => ⟨hin, fun c2 => hK () ?_, fun c2 => found p (by simp [lgP, c2])⟩⟩⟩) (fun p => ⟨fun _ => hK () ?_, fun c => absurd rfl c⟩)⟩
      · show fstL S P m (j + 1) = -1
        rw [fstL, if_neg (by simp [lgP, c, c2])]; exact hF
      · show fstL S P m (j + 1) = -1
        rw [fstL, if_neg (by simp [p])]; exact hF
    · rintro u K hF
      have hF' : fstL S P m (nL S) = -1 := hF
      unfold wp_X7_legAt_B2
      rw [hr.2.1, n_le (by omega) (by omega)]
      exact ⟨fun _ => by rw [hF'] at k; exact k, fun c => absurd (Nat.le_refl _) c⟩
  obtain ⟨I, μ, h0, h1⟩ := key
  exact ⟨fun i => I i (), fun i => μ i (), h0, fun i hi => h1 i () hi⟩
theorem s_howManyNets {n : Nat} {w : Wd} {S : Sv} {Q : Int32 → Prop} (hS : wf S) (hr : rS n w S) (hd : dT n w S) (k : Q (nI (ct (fun m => net S m == m) (nM S)))) : wp_X7_howManyNets n w Q := by
  have hm := hS.m
  unfold wp_X7_howManyNets wp_X7_howManyNets_L4
  refine lpAI (B := fun a i K => wp_X7_howManyNets_B4 n a i w Q K) (fun j a => a = nI (ct (fun m => net S m == m) j)) (nM S) 0 (by omega) (Nat.zero_le _) rfl ?_ ?_
  · rintro j a K hj rfl hK
    have hn := net_le hS j
    unfold wp_X7_howManyNets_B4
    rw [hr.1, n_le (by omega) (by omega), n_cl (by omega), hd.1 j hj, n_eq (by omega) (by omega), nI_1, nI_1]
    refine ⟨fun c => absurd c (by omega), fun _ => ⟨n_in (by omega) (by omega), fun c => hK _ ?_, fun c => hK _ ?_⟩⟩
    · rw [ct, if_neg (by simpa using c), Nat.add_zero]
    · rw [ct, if_pos (by simpa using c)]
  · rintro a K rfl
    unfold wp_X7_howManyNets_B4
    rw [hr.1, n_le (by omega) (by omega)]
    exact ⟨fun _ => k, fun c => absurd (Nat.le_refl _) c⟩
