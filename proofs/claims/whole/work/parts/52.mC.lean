/-! THE MODEL: loops, sharing, spreading -/
def lR (w : Wd) (S : Sv) (n : Nat) : Prop := ∀ k, k < n → wi w 0 43 k = nI (cl S k) ∧ ∀ l, l < 20 → wi w 0 42 (20 * k + l) = iI (sg S k l)
def mL (w : Wd) (S : Sv) : Prop := wi w 0 32 15 = nI (nlp S) ∧ lR w S (nlp S)
theorem lR_fl {L : List Nat} {w w' : Wd} {S : Sv} {n : Nat} (h : lR w S n) (k : fl L w w') (hL : 42 ∉ L ∧ 43 ∉ L) : lR w' S n :=
  fun i hi => ⟨(k.wi hL.2 i).trans (h i hi).1, fun l hl => (k.wi hL.1 _).trans ((h i hi).2 l hl)⟩
theorem mL_fl {L : List Nat} {w w' : Wd} {S : Sv} (h : mL w S) (k : fl L w w') (hL : 32 ∉ L ∧ 42 ∉ L ∧ 43 ∉ L) : mL w' S :=
  ⟨(k.wi hL.1 15).trans h.1, lR_fl h.2 k hL.2⟩
theorem b32_0 {b : Bool} : b32 b = 0 ↔ b = false := by
  cases b
  · exact ⟨fun _ => rfl, fun _ => rfl⟩
  · exact ⟨fun z => absurd z (by decide), fun z => (by cases z)⟩
theorem b32_zb (b : Bool) : zb (b32 b) := by
  cases b
  · exact Or.inl rfl
  · exact Or.inr rfl
theorem m_layLoops {w : Wd} {S : Sv} {Q : Wd → Prop} (hS : wf S) (h : sS w S) (ht : mT w S) (k : ∀ w', fl [32, 41, 42, 43] w w' → (∀ j, j ≠ 15 → wi w' 0 32 j = wi w 0 32 j) → mL w' S → Q w') : wp_X9_layLoops w Q := by
  have hm' := hS.m
  have hl' := hS.l
  have hn' := nlp_le (S := S)
  unfold wp_X9_layLoops
  intro w2 q2
  unfold wp_X9_layLoops_L7
  refine lpIA (B := fun i v K => wp_X9_layLoops_B7 i v Q K) (fun i v => fl [32, 41, 42, 43] w v ∧ (∀ j, j ≠ 15 → wi v 0 32 j = wi w 0 32 j) ∧ wi v 0 32 15 = nI (clL S i).length ∧ lR v S (clL S i).length) (nL S) 0 (by omega) (Nat.zero_le _) ⟨by rw [q2]; exact fl_rf.sI (by decide), fun j hj => by rw [q2, wi_sI, if_neg (by omega)], by rw [q2, wi_sI, if_pos ⟨rfl, rfl, rfl⟩]; rfl, fun k hk => absurd hk (Nat.not_lt_zero _)⟩ ?_ ?_
  · rintro i v K hi ⟨fv, ov, cv, lv⟩ hK
    have su : sS v S := sS_fl h fv (by decide)
    have tv : mT v S := mT_fl ht fv (by decide)
    have sj := su.2.2.2.1 i hi
    obtain ⟨g1, g2, g3, -⟩ := hS.g hi
    have cl1 : clL S (i + 1) = if tr S i = true then clL S i else clL S i ++ [i] := rfl
    unfold wp_X9_layLoops_B7
    rw [su.2.1, n_le (by omega) (by omega), n_cl (show i < 2147483648 by omega), tv.1.2 i hi]
    refine ⟨fun z => absurd z (by omega), fun _ => ⟨n_in (by omega) (by omega), fun z => ?_, fun z => ?_⟩⟩
    · have tt : tr S i = true := by
        cases q : tr S i with
        | true => rfl
        | false => exact absurd (b32_0.mpr q) z
      rw [nI_1 i]
      exact hK v ⟨fv, ov, by rw [cl1, if_pos tt]; exact cv, by rw [cl1, if_pos tt]; exact lv⟩
    · have tf := b32_0.mp z
      have c1 := clL_in hi tf
      have c2 := cl_at hi tf
      have len1 : (clL S (i + 1)).length = (clL S i).length + 1 := by
        rw [cl1, if_neg (by rw [tf]; decide), List.length_append]; rfl
      refine m_of2 rfl rfl (by omega) (by omega) (m_of2 rfl rfl (by omega) (by omega) ?_)
      rw [n_cl (by omega), n_cl (by omega), sj.2.1, show wi v 0 33 (12 + 4 * i + 0) = nI (fr S i) from sj.1]
      refine m_go hS su tv g2 g1 (fun u f e => ⟨n_in (by omega) (by omega), fun u1 q1 => ?_⟩)
      have fu1 : fl [32, 41, 42, 43] w u1 := by rw [q1]; exact (fv.tr (f.wide (by decide))).sI (by decide)
      have ou1 : ∀ j, wi u1 0 32 j = wi v 0 32 j := fun j => by rw [q1, wi_sI, if_neg (by omega)]; exact f.wi (by decide) j
      have e41 : ∀ l, l < 20 → wi u1 0 41 l = iI (sg S (clL S i).length l) := fun l hl => by
        rw [q1, wi_sI]
        unfold sg
        rw [c2]
        by_cases y : l = i
        · rw [if_pos ⟨rfl, rfl, y⟩, if_pos y]; rfl
        · rw [if_neg (by omega), if_neg y]; exact e l hl
      have l42 : ∀ a, wi u1 0 42 a = wi v 0 42 a := fun a => by rw [q1, wi_sI, if_neg (by omega)]; exact f.wi (by decide) a
      have l43 : ∀ a, wi u1 0 43 a = wi v 0 43 a := fun a => by rw [q1, wi_sI, if_neg (by omega)]; exact f.wi (by decide) a
      generalize (clL S i).length = c at *
      unfold wp_X9_layLoops_L60
      refine lpIA (B := fun j t K2 => wp_X9_layLoops_B60 (nI i) j t Q K K2) (fun j t => fl [42] u1 t ∧ (∀ a, a < 20 * c → wi t 0 42 a = wi u1 0 42 a) ∧ ∀ l, l < j → wi t 0 42 (20 * c + l) = iI (sg S c l)) 20 0 (by omega) (by omega) ⟨fl_rf, fun _ _ => rfl, fun l hl => absurd hl (by omega)⟩ ?_ ?_
      · rintro j t K2 hj ⟨ft, at', bt⟩ hK2
        have e15 : wi t 0 32 15 = nI c := (ft.wi (by decide) 15).trans ((ou1 15).trans cv)
        unfold wp_X9_layLoops_B60
        rw [show (20 : Int32) = nI 20 from rfl, n_le (by omega) (by omega), e15, pk_mul, nI_add, n_cl (show 20 * c + j < 2147483648 by omega), n_cl (show j < 2147483648 by omega), nI_1 j, ft.wi (by decide), e41 j hj]
        refine ⟨fun z => absurd z (by omega), fun _ => ⟨n_in (by omega) (by omega), n_in (by omega) (by omega), fun t1 r1 => hK2 t1 ⟨by rw [r1]; exact ft.sI (by decide), fun a ha => ?_, fun l hl => ?_⟩⟩⟩
        · rw [r1, wi_sI, if_neg (by omega)]; exact at' a ha
        · rw [r1, wi_sI]
          by_cases y : l = j
          · rw [if_pos ⟨rfl, rfl, by omega⟩, y]
          · rw [if_neg (by omega)]; exact bt l (by omega)
      · rintro t K2 ⟨ft, at', bt⟩
        have e15 : wi t 0 32 15 = nI c := (ft.wi (by decide) 15).trans ((ou1 15).trans cv)
        unfold wp_X9_layLoops_B60
        refine ⟨fun _ => ?_, fun z => absurd (Int32.le_refl _) z⟩
        rw [e15, n_cl (by omega), nI_1 i]
        refine ⟨n_in (by omega) (by omega), fun t1 r1 t2 r2 => ?_⟩
        rw [r1, wi_sI, if_neg (by omega), e15, nI_1 c, ← r1] at r2
        refine hK t2 ⟨?_, fun j hj => ?_, ?_, ?_⟩
        · rw [r2, r1]; exact ((fu1.tr (ft.wide (by decide))).sI (by decide)).sI (by decide)
        · rw [r2, wi_sI, if_neg (by omega), r1, wi_sI, if_neg (by omega), ft.wi (by decide), ou1]; exact ov j hj
        · rw [r2, wi_sI, if_pos ⟨rfl, rfl, rfl⟩, len1]
        · rw [len1]
          intro x hx
          have y43 : wi t2 0 43 x = if x = c then nI i else wi v 0 43 x := by
            rw [r2, wi_sI, if_neg (by omega), r1, wi_sI]
            by_cases y : x = c
            · rw [if_pos ⟨rfl, rfl, y⟩, if_pos y]
            · rw [if_neg (by omega), if_neg y, ft.wi (by decide)]; exact l43 x
          have y42 : ∀ a, wi t2 0 42 a = wi t 0 42 a := fun a => by rw [r2, wi_sI, if_neg (by omega), r1, wi_sI, if_neg (by omega)]
          rw [y43]
          by_cases y : x = c
          · rw [if_pos y, y]
            exact ⟨by rw [c2], fun l hl => by rw [y42]; exact bt l hl⟩
          · rw [if_neg y]
            refine ⟨(lv x (by omega)).1, fun l hl => ?_⟩
            rw [y42, at' _ (by omega), l42]
            exact (lv x (by omega)).2 l hl
  · rintro v K ⟨fv, ov, cv, lv⟩
    have su : sS v S := sS_fl h fv (by decide)
    unfold wp_X9_layLoops_B7
    exact ⟨fun _ => k v fv ov ⟨cv, lv⟩, fun z => absurd (by rw [su.2.1]; exact Int32.le_refl _) z⟩
theorem m_signIn {w : Wd} {S : Sv} {k l : Nat} {Q : Int32 → Prop} (hS : wf S) (h : lR w S (nlp S)) (hk : k < nlp S) (hl : l < 20) (q : Q (iI (sg S k l))) : wp_X9_signIn (nI k) (nI l) w Q := by
  have := hS.l
  have := nlp_le (S := S)
  unfold wp_X9_signIn
  rw [show (20 : Int32) = nI 20 from rfl, pk_mul, nI_add, n_cl (by omega), (h k hk).2 l hl]
  exact ⟨n_in (by omega) (by omega), q⟩
theorem m_missOf {w : Wd} {S : Sv} {k : Nat} {Q : Int32 → Prop} (hS : wf S) (h : sS w S) (hl : lR w S (nlp S)) (hk : k < nlp S) (q : Q (iI (miss S k))) : wp_X9_missOf (nI k) w Q := by
  have hl' := hS.l
  unfold wp_X9_missOf wp_X9_missOf_L4
  refine lpAI (B := fun a i K => wp_X9_missOf_B4 (nI k) a i w Q K) (fun j a => a = iI (sm (fun l => sg S k l * df S l) j)) (nL S) 0 (by omega) (Nat.zero_le _) rfl ?_ ?_
  · rintro j a K hj rfl hK
    unfold wp_X9_missOf_B4
    rw [h.2.1, n_le (by omega) (by omega)]
    refine ⟨fun z => absurd z (by omega), fun _ => m_signIn hS hl hk (by omega) (m_of2 rfl rfl (by omega) (by omega) ?_)⟩
    rw [n_cl (by omega), (h.2.2.2.1 j hj).2.2.2, iI_mul, iI_add, nI_1 j]
    exact hK _ rfl
  · rintro a K rfl
    unfold wp_X9_missOf_B4
    exact ⟨fun _ => q, fun z => absurd (by rw [h.2.1]; exact Int32.le_refl _) z⟩
theorem m_lengthOf {w : Wd} {S : Sv} {k : Nat} {Q : Int32 → Prop} (hS : wf S) (h : sS w S) (hl : lR w S (nlp S)) (hk : k < nlp S) (q : Q (nI (lenL S k))) : wp_X9_lengthOf (nI k) w Q := by
  have hl' := hS.l
  unfold wp_X9_lengthOf wp_X9_lengthOf_L4
  refine lpAI (B := fun a i K => wp_X9_lengthOf_B4 (nI k) a i w Q K) (fun j a => a = iI (sm (fun l => if inL S k l = true then (ln S l : Int) else 0) j)) (nL S) 0 (by omega) (Nat.zero_le _) rfl ?_ ?_
  · rintro j a K hj rfl hK
    have hb := sg_bd (S := S) k j
    unfold wp_X9_lengthOf_B4
    rw [h.2.1, n_le (by omega) (by omega)]
    refine ⟨fun z => absurd z (by omega), fun _ => m_signIn hS hl hk (by omega) (m_size ⟨by omega, by omega⟩ (m_of2 rfl rfl (by omega) (by omega) ?_))⟩
    rw [n_cl (by omega), (h.2.2.2.1 j hj).2.2.1, nI_iI, iI_mul, iI_add, nI_1 j]
    refine hK _ ?_
    rw [sm, sg_abs]
    congr 2
    cases inL S k j
    · exact Int.zero_mul _
    · exact Int.one_mul _
  · rintro a K rfl
    unfold wp_X9_lengthOf_B4
    rw [← lenL_eq, iI_nat]
    exact ⟨fun _ => q, fun z => absurd (by rw [h.2.1]; exact Int32.le_refl _) z⟩
theorem m_allowed {w : Wd} {S : Sv} {k : Nat} {Q : Int32 → Prop} (hS : wf S) (h : sS w S) (hl : lR w S (nlp S)) (hk : k < nlp S) (q : Q (iI (alw S k))) : wp_X9_allowed (nI k) w Q := by
  unfold wp_X9_allowed
  refine m_lengthOf hS h hl hk ?_
  rw [show wi w 0 33 92 = iI (st S 0) from h.2.2.2.2 0 (by omega), show wi w 0 33 93 = iI (st S 1) from h.2.2.2.2 1 (by omega), nI_iI, iI_mul]
  have hb := lenL_bd hS k
  obtain ⟨a, b, c, d, -⟩ := hS.s
  have e1 : st S 0 * (lenL S k : Int) ≤ 99 * 1980 := Int.mul_le_mul b (by omega) (by omega) (by omega)
  have e2 : 0 ≤ st S 0 * (lenL S k : Int) := Int.mul_nonneg a (by omega)
  have e4 : iI (st S 0 * (lenL S k : Int)) / (10 : Int32) = iI (st S 0 * (lenL S k : Int) / 10) := by
    have z : st S 0 * (lenL S k : Int) = ((st S 0 * (lenL S k : Int)).toNat : Int) := by omega
    rw [z, iI_nat, show (10 : Int32) = nI 10 from rfl, pk_div (by omega) (by omega) (by omega), nI_iI]
    congr 1
  rw [e4, iI_add]
  exact q
theorem m_isBad {w : Wd} {S : Sv} {k : Nat} {Q : Int32 → Prop} (hS : wf S) (h : sS w S) (hl : lR w S (nlp S)) (hk : k < nlp S) (q : Q (b32 (bad S k))) : wp_X9_isBad (nI k) w Q := by
  have h1 := miss_bd hS k
  have h2 := alw_bd hS k
  unfold wp_X9_isBad
  refine m_missOf hS h hl hk (m_size ⟨by omega, by omega⟩ (m_allowed hS h hl hk ?_))
  rw [iI_le ⟨by omega, by omega⟩ ⟨by omega, by omega⟩]
  unfold bad at q
  refine ⟨fun z => ⟨Or.inl rfl, ?_⟩, fun z => ⟨Or.inr rfl, ?_⟩⟩
  · rw [decide_eq_false (by omega)] at q; exact q
  · rw [decide_eq_true (by omega)] at q; exact q
theorem m_isFree {w : Wd} {S : Sv} {k l : Nat} {g : Nat → Bool} {Q : Int32 → Prop} (hS : wf S) (hl : lR w S (nlp S)) (hk : k < nlp S) (hll : l < nL S) (eg : wi w 0 46 l = b32 (g l)) (k1 : fre S g k l = true → Q 1) (k0 : fre S g k l = false → Q 0) : wp_X9_isFree (nI k) (nI l) w Q := by
  have hl' := hS.l
  have hb := sg_bd (S := S) k l
  unfold fre at k1 k0
  unfold wp_X9_isFree wp_X9_isFree_J22
  refine m_signIn hS hl hk (by omega) ?_
  rw [← iI_0, iI_eq ⟨by omega, by omega⟩ ⟨by omega, by omega⟩, sg_in, n_cl (by omega), eg, iI_0]
  refine ⟨fun z => ⟨Or.inl rfl, k0 (by rw [z]; rfl)⟩, fun z => ⟨n_in (by omega) (by omega), fun y => ⟨Or.inl rfl, k0 ?_⟩, fun y => ⟨Or.inr rfl, k1 ?_⟩⟩⟩
  · have : g l = true := by
      cases q : g l with
      | true => rfl
      | false => exact absurd (b32_0.mpr q) y
    rw [this]; cases inL S k l <;> rfl
  · rw [b32_0.mp y]
    cases q : inL S k l with
    | true => rfl
    | false => exact absurd q z
theorem m_giveOne {w : Wd} {S : Sv} {x4 : Int32} {sh r : Nat → Int} {Q : Wd → Prop} {K : Int32 → Wd → Prop} (hS : wf S) (h0 : 0 < nL S) (h1 : wi w 0 33 11 = nI (nL S)) (e47 : ∀ l, l < nL S → wi w 0 47 l = iI (sh l)) (e48 : ∀ l, l < nL S → wi w 0 48 l = iI (r l) ∧ -1 ≤ r l ∧ r l < 10000) (k : ∀ w', fl [47, 48] w w' → (∀ l, l < nL S → wi w' 0 47 l = iI ((gv (nL S) (sh, r)).1 l) ∧ wi w' 0 48 l = iI ((gv (nL S) (sh, r)).2 l)) → K (x4 + (-1)) w') : wp_X9_share_L170 x4 0 0 w Q K := by
  have hl' := hS.l
  unfold wp_X9_share_L170
  refine lpAI (B := fun a i K2 => wp_X9_share_B170 x4 a i w Q K K2) (fun j a => a = nI (bst r j)) (nL S) 0 (by omega) (Nat.zero_le _) rfl ?_ ?_
  · rintro j a K2 hj rfl hK2
    have hb : bst r j < nL S := by
      have := bst_le r j
      omega
    obtain ⟨r1, r2, r3⟩ := e48 j hj
    obtain ⟨r4, r5, r6⟩ := e48 _ hb
    unfold wp_X9_share_B170
    rw [h1, n_le (by omega) (by omega), n_cl (show j < 2147483648 by omega), n_cl (show bst r j < 2147483648 by omega), r1, r4, iI_le ⟨by omega, by omega⟩ ⟨by omega, by omega⟩, nI_1 j]
    refine ⟨fun z => absurd z (by omega), fun _ => ⟨n_in (by omega) (by omega), n_in (by omega) (by omega), fun z => hK2 _ ?_, fun z => hK2 _ ?_⟩⟩
    · rw [bst, if_neg (by omega)]
    · rw [bst, if_pos (by omega)]
  · rintro a K2 rfl
    have hb := bst_lt r h0
    unfold wp_X9_share_B170
    refine ⟨fun _ => ?_, fun z => absurd (by rw [h1]; exact Int32.le_refl _) z⟩
    rw [n_cl (show bst r (nL S) < 2147483648 by omega)]
    refine ⟨n_in (by omega) (by omega), n_in (by omega) (by omega), fun w1 q1 => ⟨n_in (by omega) (by omega), fun w2 q2 => k w2 ?_ (fun l hl => ⟨?_, ?_⟩)⟩⟩
    · rw [q2, q1]; exact (fl_rf.sI (by decide)).sI (by decide)
    · rw [q2, wi_sI, if_neg (by omega), q1, wi_sI]
      show _ = iI (if l = bst r (nL S) then sh l + 1 else sh l)
      by_cases z : l = bst r (nL S)
      · rw [if_pos ⟨rfl, rfl, z⟩, if_pos z, ← z, e47 l hl, ← iI_1, iI_add]
      · rw [if_neg (by omega), if_neg z]; exact e47 l hl
    · rw [q2, wi_sI]
      show _ = iI (if l = bst r (nL S) then -1 else r l)
      by_cases z : l = bst r (nL S)
      · rw [if_pos ⟨rfl, rfl, z⟩, if_pos z]; rfl
      · rw [if_neg (by omega), if_neg z, q1, wi_sI, if_neg (by omega)]; exact (e48 l hl).1
theorem m_share {w : Wd} {S : Sv} {k M : Nat} {g : Nat → Bool} {Q : Wd → Prop} (hS : wf S) (h : sS w S) (hl : lR w S (nlp S)) (hk : k < nlp S) (hM : M < 1000000) (eg : ∀ l, l < nL S → wi w 0 46 l = b32 (g l)) (hf : ∃ l, l < nL S ∧ fre S g k l = true) (q : ∀ w', fl [47, 48] w w' → (∀ l, l < nL S → wi w' 0 47 l = iI (shr S (fre S g k) M l)) → Q w') : wp_X9_share (nI k) (nI M) w Q := by
  have hl' := hS.l
  obtain ⟨l0, hl0, hf0⟩ := hf
  have hT := TT_pos hS hl0 hf0
  have hT2 := TT_le hS (fre S g k)
  have eT : TT S (fre S g k) = ((TT S (fre S g k)).toNat : Int) := (Int.toNat_of_nonneg (TT_nn (fre S g k))).symm
  have hlft := lft_bd hS (F := fre S g k) (m := (M : Int)) (by omega) hl0 hf0
  have hct := ct_le (fre S g k) (nL S)
  unfold wp_X9_share wp_X9_share_L5
  refine lpAI (B := fun a i K => wp_X9_share_B5 (nI k) (nI M) a i w Q K) (fun j a => a = iI (sm (fun l => if fre S g k l = true then (ln S l : Int) else 0) j)) (nL S) 0 (by omega) (Nat.zero_le _) rfl ?_ ?_
  · rintro j a K hj rfl hK
    unfold wp_X9_share_B5
    rw [h.2.1, n_le (by omega) (by omega), nI_1 j]
    refine ⟨fun z => absurd z (by omega), fun _ => m_isFree hS hl hk hj (eg j hj) (fun c => ⟨fun z => absurd z (by decide), fun _ => m_of2 rfl rfl (by omega) (by omega) ?_⟩) (fun c => ⟨fun _ => ?_, fun z => absurd rfl z⟩)⟩
    · rw [n_cl (by omega), (h.2.2.2.1 j hj).2.2.1, nI_iI (ln S j), iI_add]
      refine hK _ ?_
      rw [sm, if_pos c]
    · rw [← iI_0, iI_add]
      refine hK _ ?_
      rw [sm, if_neg (by rw [c]; decide)]
  · rintro a K rfl
    unfold wp_X9_share_B5
    refine ⟨fun _ => ?_, fun z => absurd (by rw [h.2.1]; exact Int32.le_refl _) z⟩
    rw [show sm (fun l => if fre S g k l = true then (ln S l : Int) else 0) (nL S) = TT S (fre S g k) from rfl, eT, iI_nat]
    unfold wp_X9_share_L57
    refine lpAIB (B := fun a i v K2 => wp_X9_share_B57 (nI k) (nI M) (nI (TT S (fre S g k)).toNat) a i v Q K2) (fun j a v => fl [47, 48] w v ∧ a = iI ((M : Int) - sm (bsh S (fre S g k) M) j) ∧ ∀ l, l < j → wi v 0 47 l = iI (bsh S (fre S g k) M l) ∧ wi v 0 48 l = iI (brs S (fre S g k) M l)) (nL S) 0 (by omega) (Nat.zero_le _) ⟨fl_rf, by rw [sm, Int.sub_zero, iI_nat], fun l h => absurd h (by omega)⟩ ?_ ?_
    · rintro j a v K2 hj ⟨fv, rfl, av⟩ hK2
      have su : sS v S := sS_fl h fv (by decide)
      have lv : lR v S (nlp S) := lR_fl hl fv (by decide)
      have egv : wi v 0 46 j = b32 (g j) := (fv.wi (by decide) j).trans (eg j hj)
      obtain ⟨-, -, -, -, -, g6, g7⟩ := hS.g hj
      have hmul : M * ln S j < 100000000 := by
        have := Nat.mul_le_mul (show M ≤ 1000000 by omega) (show ln S j ≤ 99 by omega)
        omega
      have hne : ¬ nI (TT S (fre S g k)).toNat = 0 := by
        rw [n_0, n_eq (by omega) (by omega)]; omega
      have J140 : ∀ (s : Int32) (v1 : Wd), v1 = sI v 0 47 j (iI (bsh S (fre S g k) M j)) → s = iI (brs S (fre S g k) M j) → wp_X9_share_J140 (nI k) (nI M) (nI (TT S (fre S g k)).toNat) (iI ((M : Int) - sm (bsh S (fre S g k) M) j)) (nI j) s (nI j) v1 Q K2 := by
        rintro s v1 q1 rfl
        unfold wp_X9_share_J140
        rw [n_cl (by omega), nI_1 j]
        refine ⟨n_in (by omega) (by omega), fun v2 q2 => ⟨n_in (by omega) (by omega), ?_⟩⟩
        have c3 : wi v2 0 47 j = iI (bsh S (fre S g k) M j) := by
          rw [q2, wi_sI, if_neg (by omega), q1, wi_sI, if_pos ⟨rfl, rfl, rfl⟩]
        rw [c3, iI_sub]
        refine hK2 _ v2 ⟨?_, ?_, fun l hl => ?_⟩
        · rw [q2, q1]; exact (fv.sI (by decide)).sI (by decide)
        · rw [sm]; congr 1; omega
        · by_cases z : l = j
          · rw [z]
            exact ⟨c3, by rw [q2, wi_sI, if_pos ⟨rfl, rfl, rfl⟩]⟩
          · refine ⟨?_, ?_⟩
            · rw [q2, wi_sI, if_neg (by omega), q1, wi_sI, if_neg (by omega)]; exact (av l (by omega)).1
            · rw [q2, wi_sI, if_neg (by omega), q1, wi_sI, if_neg (by omega)]; exact (av l (by omega)).2
      have J104 : ∀ s : Int32, s = iI (bsh S (fre S g k) M j) → wp_X9_share_J104 (nI k) (nI M) (nI (TT S (fre S g k)).toNat) (iI ((M : Int) - sm (bsh S (fre S g k) M) j)) (nI j) s (nI j) v Q K2 := by
        rintro s rfl
        unfold wp_X9_share_J104
        rw [n_cl (by omega)]
        refine ⟨n_in (by omega) (by omega), fun v1 q1 => ?_⟩
        have f1 : fl [47, 48] w v1 := by rw [q1]; exact fv.sI (by decide)
        have s1 : sS v1 S := sS_fl h f1 (by decide)
        refine m_isFree hS (lR_fl hl f1 (by decide)) hk hj ((f1.wi (by decide) j).trans (eg j hj)) (fun c => ⟨fun z => absurd z (by decide), fun _ => m_of2 rfl rfl (by omega) (by omega) ⟨hne, ?_⟩⟩) (fun c => ⟨fun _ => J140 _ v1 q1 ?_, fun z => absurd rfl z⟩)
        · rw [n_cl (by omega), (s1.2.2.2.1 j hj).2.2.1, pk_mul]
          refine J140 _ v1 q1 ?_
          unfold irem
          rw [pk_rem (by omega) (by omega) (by omega)]
          unfold brs
          rw [if_pos c, nI_iI]
          congr 1
          rw [Int.natCast_emod, ← eT, Int.natCast_mul]
        · unfold brs
          rw [if_neg (by rw [c]; decide)]; rfl
      unfold wp_X9_share_B57
      rw [su.2.1, n_le (by omega) (by omega)]
      refine ⟨fun z => absurd z (by omega), fun _ => m_isFree hS lv hk hj egv (fun c => ⟨fun z => absurd z (by decide), fun _ => m_of2 rfl rfl (by omega) (by omega) ⟨hne, ?_⟩⟩) (fun c => ⟨fun _ => J104 _ ?_, fun z => absurd rfl z⟩)⟩
      · rw [n_cl (by omega), (su.2.2.2.1 j hj).2.2.1, pk_mul, pk_div (by omega) (by omega) (by omega)]
        refine J104 _ ?_
        unfold bsh
        rw [if_pos c, nI_iI]
        congr 1
        rw [Int.natCast_ediv, ← eT, Int.natCast_mul]
      · unfold bsh
        rw [if_neg (by rw [c]; decide)]; rfl
    · rintro a v K2 ⟨fv, rfl, av⟩
      have su : sS v S := sS_fl h fv (by decide)
      unfold wp_X9_share_B57
      refine ⟨fun _ => ?_, fun z => absurd (by rw [su.2.1]; exact Int32.le_refl _) z⟩
      have el : (M : Int) - sm (bsh S (fre S g k) M) (nL S) = ((lft S (fre S g k) M).toNat : Int) := by
        show lft S (fre S g k) M = _
        omega
      rw [el, iI_nat]
      have e0 : (lft S (fre S g k) M).toNat < 100 := by omega
      have hbr : ∀ l, l < nL S → -1 ≤ brs S (fre S g k) M l ∧ brs S (fre S g k) M l < 10000 := fun l hl'' => by
        by_cases y : fre S g k l = true
        · have := bsh_eq (m := (M : Int)) y hT (by omega)
          exact ⟨by omega, by omega⟩
        · have e : brs S (fre S g k) M l = -1 := by rw [brs, if_neg y]
          rw [e]
          exact ⟨by omega, by omega⟩
      unfold wp_X9_share_L159
      refine lpG (B := fun x u K3 => wp_X9_share_B159 x u Q K3) (fun n x u => ∃ j, j ≤ (lft S (fre S g k) M).toNat ∧ n = (lft S (fre S g k) M).toNat - j ∧ x = nI ((lft S (fre S g k) M).toNat - j) ∧ fl [47, 48] w u ∧ ∀ l, l < nL S → wi u 0 47 l = iI ((gvK S (fre S g k) M j).1 l) ∧ wi u 0 48 l = iI ((gvK S (fre S g k) M j).2 l)) (lft S (fre S g k) M).toNat ⟨0, Nat.zero_le _, rfl, rfl, fv, fun l hl => av l hl⟩ ?_
      rintro n x u K3 ⟨j, j1, hn, rfl, fu, au⟩ hK3
      unfold wp_X9_share_B159
      rw [nI_iI, iI_le0 ⟨by omega, by omega⟩]
      refine ⟨fun z => q u fu (fun l hl => ?_), fun z => ?_⟩
      · have : j = (lft S (fre S g k) M).toNat := by omega
        rw [(au l hl).1, this]; rfl
      · obtain ⟨i1, i2⟩ := gv_inv (S := S) (F := fre S g k) (m := (M : Int)) (by omega) hT (by omega) j (by omega)
        refine m_giveOne (sh := (gvK S (fre S g k) M j).1) (r := (gvK S (fre S g k) M j).2) hS (by omega) ((fu.wi (by decide) 11).trans h.2.1) (fun l hl => (au l hl).1) (fun l hl => ⟨(au l hl).2, ?_⟩) (fun u2 f2 e2 => ?_)
        · have := hbr l hl
          rcases i1 l hl with ⟨y, _⟩ | ⟨_, y, _⟩ <;> rw [y] <;> omega
        · rw [show (-1 : Int32) = iI (-1) from rfl, iI_add, show (((lft S (fre S g k) M).toNat - j : Nat) : Int) + -1 = (((lft S (fre S g k) M).toNat - (j + 1) : Nat) : Int) by omega, iI_nat]
          exact hK3 _ _ u2 (by omega) ⟨j + 1, by omega, rfl, rfl, fu.tr f2, e2⟩
def mSp (w : Wd) (S : Sv) : Prop := (∀ l, l < nL S → wi w 0 45 l = iI (cor S l)) ∧ ∀ k, k < nlp S → wi w 0 44 k = iI (spM S k).natAbs
theorem mSp_fl {L : List Nat} {w w' : Wd} {S : Sv} (h : mSp w S) (k : fl L w w') (hL : 44 ∉ L ∧ 45 ∉ L) : mSp w' S :=
  ⟨fun l hl => (k.wi hL.2 l).trans (h.1 l hl), fun i hi => (k.wi hL.1 i).trans (h.2 i hi)⟩
theorem m_spreadOne {w : Wd} {S : Sv} {k : Nat} {p : Pt2} {x1 : Int32} {Q : Wd → Prop} {K : Int32 → Wd → Prop} (hS : wf S) (h : sS w S) (hl : lR w S (nlp S)) (hk : k < nlp S) (hx : x1 = iI (MM S p.1 k)) (hb : (MM S p.1 k).natAbs ≤ 787388) (e45 : ∀ l, l < nL S → wi w 0 45 l = iI (p.1 l) ∧ wi w 0 46 l = b32 (p.2 l)) (e47 : ∀ l, l < nL S → wi w 0 47 l = iI (shr S (fre S p.2 k) (MM S p.1 k).natAbs l)) (q : ∀ w', fl [45, 46] w w' → (∀ l, l < nL S → wi w' 0 45 l = iI ((spS S p k).1 l) ∧ wi w' 0 46 l = b32 ((spS S p k).2 l)) → K (nI (k + 1)) w') : wp_X9_spreadAll_L100 (nI k) x1 0 w Q K := by
  have hl' := hS.l
  subst hx
  unfold wp_X9_spreadAll_L100
  refine lpIA (B := fun i v K2 => wp_X9_spreadAll_B100 (nI k) (iI (MM S p.1 k)) i v Q K K2) (fun j v => fl [45] w v ∧ ∀ l, l < nL S → wi v 0 45 l = iI (if l < j then (spS S p k).1 l else p.1 l)) (nL S) 0 (by omega) (Nat.zero_le _) ⟨fl_rf, fun l hl => by rw [if_neg (by omega)]; exact (e45 l hl).1⟩ ?_ ?_
  · rintro j v K2 hj ⟨fv, av⟩ hK2
    have e11 : wi v 0 33 11 = nI (nL S) := (fv.wi (by decide) 11).trans h.2.1
    have lv : lR v S (nlp S) := lR_fl hl fv (by decide)
    have eg : wi v 0 46 j = b32 (p.2 j) := (fv.wi (by decide) j).trans (e45 j hj).2
    have ec : wi v 0 45 j = iI (p.1 j) := by rw [av j hj, if_neg (by omega)]
    have es : wi v 0 47 j = iI (shr S (fre S p.2 k) (MM S p.1 k).natAbs j) := (fv.wi (by decide) j).trans (e47 j hj)
    have J158 : ∀ s : Int32, iI (p.1 j) + s = iI ((spS S p k).1 j) → wp_X9_spreadAll_J158 (nI k) (iI (MM S p.1 k)) (nI j) s (iI (p.1 j)) (nI j) v Q K K2 := by
      intro s hs
      unfold wp_X9_spreadAll_J158
      rw [n_cl (by omega), hs, nI_1 j]
      refine ⟨n_in (by omega) (by omega), fun v1 q1 => hK2 v1 ⟨by rw [q1]; exact fv.sI (by decide), fun l hl => ?_⟩⟩
      rw [q1, wi_sI]
      by_cases z : l = j
      · rw [if_pos ⟨rfl, rfl, z⟩, if_pos (by omega), z]
      · rw [if_neg (by omega), av l hl]
        congr 1
        by_cases y : l < j
        · rw [if_pos y, if_pos (by omega)]
        · rw [if_neg y, if_neg (by omega)]
    unfold wp_X9_spreadAll_B100
    rw [e11, n_le (by omega) (by omega), n_cl (by omega), ec, es]
    refine ⟨fun z => absurd z (by omega), fun _ => ⟨n_in (by omega) (by omega), m_isFree hS lv hk hj eg (fun c => ⟨fun z => absurd z (by decide), fun _ => ?_⟩) (fun c => ⟨fun _ => J158 _ ?_, fun z => absurd rfl z⟩)⟩⟩
    · have e1 : (spS S p k).1 j = p.1 j + (if 0 < MM S p.1 k then - shr S (fre S p.2 k) (MM S p.1 k).natAbs j else shr S (fre S p.2 k) (MM S p.1 k).natAbs j) * sg S k j := if_pos c
      rw [iI_le0 ⟨by omega, by omega⟩]
      unfold wp_X9_spreadAll_J147
      refine ⟨fun z => ⟨n_in (by omega) (by omega), m_signIn hS lv hk (by omega) (J158 _ ?_)⟩, fun z => ⟨n_in (by omega) (by omega), m_signIn hS lv hk (by omega) (J158 _ ?_)⟩⟩
      · rw [e1, if_neg (by omega), iI_mul, iI_add]
      · rw [e1, if_pos (by omega), iI_neg, iI_mul, iI_add]
    · have e1 : (spS S p k).1 j = p.1 j := if_neg (by rw [c]; decide)
      rw [e1, ← iI_0, iI_add, Int.add_zero]
  · rintro v K2 ⟨fv, av⟩
    have e11 : wi v 0 33 11 = nI (nL S) := (fv.wi (by decide) 11).trans h.2.1
    unfold wp_X9_spreadAll_B100
    refine ⟨fun _ => ?_, fun z => absurd (by rw [e11]; exact Int32.le_refl _) z⟩
    unfold wp_X9_spreadAll_L168
    refine lpIA (B := fun i u K3 => wp_X9_spreadAll_B168 (nI k) i u Q K K3) (fun j u => fl [46] v u ∧ ∀ l, l < nL S → wi u 0 46 l = b32 (if l < j then (p.2 l || inL S k l) else p.2 l)) (nL S) 0 (by omega) (Nat.zero_le _) ⟨fl_rf, fun l hl => by rw [if_neg (by omega), fv.wi (by decide)]; exact (e45 l hl).2⟩ ?_ ?_
    · rintro j u K3 hj ⟨fu, au⟩ hK3
      have e11 : wi u 0 33 11 = nI (nL S) := (fu.wi (by decide) 11).trans e11
      have lu : lR u S (nlp S) := lR_fl (lR_fl hl fv (by decide)) fu (by decide)
      have eg : wi u 0 46 j = b32 (p.2 j) := by rw [au j hj, if_neg (by omega)]
      have J : ∀ s : Int32, s = b32 (p.2 j || inL S k j) → wp_X9_spreadAll_J207 (nI k) (nI j) s (nI j) u Q K K3 := by
        rintro s rfl
        unfold wp_X9_spreadAll_J207
        rw [n_cl (by omega), nI_1 j]
        refine ⟨n_in (by omega) (by omega), b32_zb _, fun u1 q1 => hK3 u1 ⟨by rw [q1]; exact fu.sI (by decide), fun l hl => ?_⟩⟩
        rw [q1, wi_sI]
        by_cases z : l = j
        · rw [if_pos ⟨rfl, rfl, z⟩, if_pos (by omega), z]
        · rw [if_neg (by omega), au l hl]
          congr 1
          by_cases y : l < j
          · rw [if_pos y, if_pos (by omega)]
          · rw [if_neg y, if_neg (by omega)]
      have hbs := sg_bd (S := S) k j
      unfold wp_X9_spreadAll_B168
      rw [e11, n_le (by omega) (by omega), n_cl (by omega), eg]
      refine ⟨fun z => absurd z (by omega), fun _ => ⟨n_in (by omega) (by omega), fun z => J 1 ?_, fun z => m_signIn hS lu hk (by omega) ?_⟩⟩
      · have : p.2 j = true := by
          cases y : p.2 j with
          | true => rfl
          | false => exact absurd (b32_0.mpr y) z
        rw [this]; rfl
      · rw [← iI_0, iI_eq ⟨by omega, by omega⟩ ⟨by omega, by omega⟩, sg_in, iI_0]
        refine ⟨fun y => J 0 ?_, fun y => J 1 ?_⟩
        · rw [y, b32_0.mp z]; rfl
        · have : inL S k j = true := by
            cases x : inL S k j with
            | true => rfl
            | false => exact absurd x y
          rw [this, Bool.or_true]; rfl
    · rintro u K3 ⟨fu, au⟩
      unfold wp_X9_spreadAll_B168
      rw [nI_1 k]
      refine ⟨fun _ => q u ((fv.wide (by decide)).tr (fu.wide (by decide))) (fun l hl => ⟨?_, ?_⟩), fun z => absurd (by rw [(fu.wi (by decide) 11).trans e11]; exact Int32.le_refl _) z⟩
      · rw [fu.wi (by decide), av l hl, if_pos hl]
      · rw [au l hl, if_pos hl]; rfl
theorem m_spreadAll {w : Wd} {S : Sv} {Q : Wd → Prop} (hS : wf S) (h : sS w S) (hL : mL w S) (q : ∀ w', fl [44, 45, 46, 47, 48] w w' → mSp w' S → Q w') : wp_X9_spreadAll w Q := by
  have hl' := hS.l
  have hn' := nlp_le (S := S)
  unfold wp_X9_spreadAll wp_X9_spreadAll_L2
  refine lpIA (B := fun i v K => wp_X9_spreadAll_B2 i v Q K) (fun j v => fl [44, 45, 46, 47, 48] w v ∧ ∀ l, l < j → wi v 0 45 l = iI 0 ∧ wi v 0 46 l = b32 false) 20 0 (by omega) (by omega) ⟨fl_rf, fun l hl => absurd hl (by omega)⟩ ?_ ?_
  · rintro j v K hj ⟨fv, av⟩ hK
    unfold wp_X9_spreadAll_B2
    rw [show (20 : Int32) = nI 20 from rfl, n_le (by omega) (by omega), n_cl (by omega), nI_1 j]
    refine ⟨fun z => absurd z (by omega), fun _ => ⟨n_in (by omega) (by omega), fun v1 q1 => ⟨n_in (by omega) (by omega), Or.inl rfl, fun v2 q2 => hK v2 ⟨by rw [q2, q1]; exact (fv.sI (by decide)).sI (by decide), fun l hl => ⟨?_, ?_⟩⟩⟩⟩⟩
    · rw [q2, wi_sI, if_neg (by omega), q1, wi_sI]
      by_cases z : l = j
      · rw [if_pos ⟨rfl, rfl, z⟩]; rfl
      · rw [if_neg (by omega)]; exact (av l (by omega)).1
    · rw [q2, wi_sI]
      by_cases z : l = j
      · rw [if_pos ⟨rfl, rfl, z⟩]; rfl
      · rw [if_neg (by omega), q1, wi_sI, if_neg (by omega)]; exact (av l (by omega)).2
  · rintro v K ⟨fv, av⟩
    unfold wp_X9_spreadAll_B2
    refine ⟨fun _ => ?_, fun z => absurd (Int32.le_refl _) z⟩
    unfold wp_X9_spreadAll_L30
    refine lpIA (B := fun i u K2 => wp_X9_spreadAll_B30 i u Q K2) (fun k u => fl [44, 45, 46, 47, 48] w u ∧ (∀ l, l < nL S → wi u 0 45 l = iI ((spK S k).1 l) ∧ wi u 0 46 l = b32 ((spK S k).2 l)) ∧ ∀ i, i < k → wi u 0 44 i = iI (spM S i).natAbs) (nlp S) 0 (by omega) (Nat.zero_le _) ⟨fv, fun l hl => av l (by omega), fun i hi => absurd hi (by omega)⟩ ?_ ?_
    · rintro k u K2 hk ⟨fu, au, bu⟩ hK2
      have su : sS u S := sS_fl h fu (by decide)
      have lu : mL u S := mL_fl hL fu (by decide)
      have hb := spM_le hS hk
      unfold wp_X9_spreadAll_B30
      rw [lu.1, n_le (by omega) (by omega)]
      refine ⟨fun z => absurd z (by omega), fun _ => m_missOf hS su lu.2 hk ?_⟩
      unfold wp_X9_spreadAll_L46
      refine lpAI (B := fun a i K3 => wp_X9_spreadAll_B46 (nI k) a i u Q K2 K3) (fun j a => a = iI (miss S k + sm (fun l => sg S k l * (spK S k).1 l) j)) (nL S) 0 (by omega) (Nat.zero_le _) (by show _ = iI (miss S k + 0); rw [Int.add_zero]) ?_ ?_
      · rintro j a K3 hj rfl hK3
        unfold wp_X9_spreadAll_B46
        rw [su.2.1, n_le (by omega) (by omega), n_cl (show j < 2147483648 by omega), (au j hj).1]
        refine ⟨fun z => absurd z (by omega), fun _ => m_signIn hS lu.2 hk (by omega) ⟨n_in (by omega) (by omega), ?_⟩⟩
        rw [iI_mul, iI_add, nI_1 j]
        refine hK3 _ ?_
        rw [sm, Int.add_assoc]
      · rintro a K3 rfl
        have eM : miss S k + sm (fun l => sg S k l * (spK S k).1 l) (nL S) = spM S k := by
          unfold spM MM miss
          rw [← sm_add]
          exact sm_congr (fun l _ => (Int.mul_add _ _ _).symm)
        unfold wp_X9_spreadAll_B46
        refine ⟨fun _ => ?_, fun z => absurd (by rw [su.2.1]; exact Int32.le_refl _) z⟩
        rw [eM]
        refine m_size ⟨by omega, by omega⟩ ⟨n_in (by omega) (by omega), fun u1 q1 => m_size ⟨by omega, by omega⟩ ?_⟩
        rw [n_cl (by omega)] at q1
        have f1 : fl [44, 45, 46, 47, 48] w u1 := by rw [q1]; exact fu.sI (by decide)
        have e1 : ∀ o, o ≠ 44 → ∀ l, wi u1 0 o l = wi u 0 o l := fun o ho l => by rw [q1, wi_sI, if_neg (by omega)]
        rw [iI_nat]
        refine m_share (g := (spK S k).2) hS (sS_fl h f1 (by decide)) (mL_fl hL f1 (by decide)).2 hk (by omega) (fun l hl => (e1 46 (by omega) l).trans (au l hl).2) ⟨cl S k, (cl_lt hk).1, cl_free hS hk⟩ (fun u2 f2 e2 => ?_)
        have f3 := f1.tr (f2.wide (by decide))
        refine m_spreadOne (p := spK S k) hS (sS_fl h f3 (by decide)) (mL_fl hL f3 (by decide)).2 hk rfl hb (fun l hl => ⟨?_, ?_⟩) e2 (fun u3 f4 e3 => hK2 u3 ⟨f3.tr (f4.wide (by decide)), e3, fun i hi => ?_⟩)
        · rw [f2.wi (by decide), e1 45 (by omega)]; exact (au l hl).1
        · rw [f2.wi (by decide), e1 46 (by omega)]; exact (au l hl).2
        · rw [f4.wi (by decide), f2.wi (by decide), q1, wi_sI]
          by_cases z : i = k
          · rw [if_pos ⟨rfl, rfl, z⟩, z]
          · rw [if_neg (by omega)]; exact bu i (by omega)
    · rintro u K2 ⟨fu, au, bu⟩
      have lu : mL u S := mL_fl hL fu (by decide)
      unfold wp_X9_spreadAll_B30
      exact ⟨fun _ => q u fu ⟨fun l hl => (au l hl).1, bu⟩, fun z => absurd (by rw [lu.1]; exact Int32.le_refl _) z⟩
def mO (w : Wd) (S : Sv) : Prop := mT w S ∧ mL w S ∧ mSp w S
theorem mO_fl {L : List Nat} {w w' : Wd} {S : Sv} (h : mO w S) (k : fl L w w') (hL : (37 ∉ L ∧ 38 ∉ L ∧ 39 ∉ L ∧ 40 ∉ L) ∧ (32 ∉ L ∧ 42 ∉ L ∧ 43 ∉ L) ∧ (44 ∉ L ∧ 45 ∉ L)) : mO w' S :=
  ⟨mT_fl h.1 k hL.1, mL_fl h.2.1 k hL.2.1, mSp_fl h.2.2 k hL.2.2⟩
/-- what laying out leaves: all but the model's own rows, and slot 15 of its numbers -/
def fo (w w' : Wd) : Prop := fl [32, 37, 38, 39, 40, 41, 42, 43, 44, 45, 46, 47, 48, 49, 50] w w' ∧ ∀ j, j ≠ 15 → wi w' 0 32 j = wi w 0 32 j
theorem fo_rf {w : Wd} : fo w w := ⟨fl_rf, fun _ _ => rfl⟩
theorem fo.tr {w w' w'' : Wd} (h : fo w w') (k : fo w' w'') : fo w w'' := ⟨h.1.tr k.1, fun j hj => (k.2 j hj).trans (h.2 j hj)⟩
theorem fl_fo {L : List Nat} {w w' : Wd} (h : fl L w w') (hL : ∀ b, b ∈ L → b ∈ [32, 37, 38, 39, 40, 41, 42, 43, 44, 45, 46, 47, 48, 49, 50]) (h2 : 32 ∉ L) : fo w w' := ⟨h.wide hL, fun j _ => h.wi h2 j⟩
theorem sS_fo {w w' : Wd} {S : Sv} (h : sS w S) (k : fo w w') : sS w' S := sS_fl h k.1 (by decide)
theorem m_layOut {w : Wd} {S : Sv} {Q : Wd → Prop} (hS : wf S) (h : sS w S) (q : ∀ w', fo w w' → mO w' S → Q w') : wp_X9_layOut w Q := by
  unfold wp_X9_layOut
  refine m_layTree hS h (fun w1 f1 t1 => ?_)
  have s1 := sS_fl h f1 (by decide)
  refine m_layLoops hS s1 t1 (fun w2 f2 o2 l2 => ?_)
  have s2 := sS_fl s1 f2 (by decide)
  refine m_spreadAll hS s2 l2 (fun w3 f3 s3 => q w3 ?_ ⟨mT_fl (mT_fl t1 f2 (by decide)) f3 (by decide), mL_fl l2 f3 (by decide), s3⟩)
  exact ((fl_fo f1 (by decide) (by decide)).tr ⟨f2.wide (by decide), o2⟩).tr (fl_fo f3 (by decide) (by decide))
