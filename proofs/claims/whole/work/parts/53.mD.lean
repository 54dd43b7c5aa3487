/-! THE MODEL: heights and looks at marks -/
theorem n1p (m : Nat) : (1 : Int32) + nI m = nI (1 + m) := by rw [show (1 : Int32) = nI 1 from rfl, nI_add]
theorem stp_rise {S : Sv} (a b : Nat) : sm (fun l => stp S a b l * cd S l) (nL S) = rise S b - rise S a := by
  unfold rise
  rw [← sm_sub]
  refine sm_congr (fun l _ => ?_)
  unfold stp sg0 b01
  generalize tT S a l = x
  generalize tT S b l = y
  generalize dN S l = z
  generalize cd S l = c
  cases x <;> cases y <;> cases z <;> simp <;> omega
theorem m_corrected {w : Wd} {S : Sv} {l : Nat} {Q : Int32 → Prop} (hS : wf S) (h : sS w S) (ho : mO w S) (hl : l < nL S) (q : Q (iI (cd S l))) : wp_X9_corrected (nI l) w Q := by
  have hl' := hS.l
  unfold wp_X9_corrected
  refine m_of2 rfl rfl (by omega) (by omega) ⟨n_in (by omega) (by omega), ?_⟩
  rw [n_cl (by omega), n_cl (by omega), (h.2.2.2.1 l hl).2.2.2, ho.2.2.1 l hl, iI_add]
  exact q
theorem m_rise {w : Wd} {S : Sv} {a b : Nat} {Q : Int32 → Wd → Prop} (hS : wf S) (h : sS w S) (ho : mO w S) (ha : a < nM S) (hb : b < nM S) (k : ∀ w', fl [41] w w' → (∀ l, l < 20 → wi w' 0 41 l = iI (stp S a b l)) → Q (iI (rise S b - rise S a)) w') : wp_X9_rise (nI a) (nI b) w Q := by
  have hl' := hS.l
  unfold wp_X9_rise
  refine m_go hS h ho.1 ha hb (fun v fv ev => ?_)
  have sv' : sS v S := sS_fl h fv (by decide)
  have ov : mO v S := mO_fl ho fv (by decide)
  unfold wp_X9_rise_L11
  refine lpAI (B := fun x i K => wp_X9_rise_B11 x i v Q K) (fun j x => x = iI (sm (fun l => stp S a b l * cd S l) j)) (nL S) 0 (by omega) (Nat.zero_le _) rfl ?_ ?_
  · rintro j x K hj rfl hK
    unfold wp_X9_rise_B11
    rw [sv'.2.1, n_le (by omega) (by omega)]
    refine ⟨fun z => absurd z (by omega), fun _ => ⟨n_in (by omega) (by omega), m_corrected hS sv' ov hj ?_⟩⟩
    rw [n_cl (by omega), ev j (by omega), iI_mul, iI_add, nI_1 j]
    exact hK _ rfl
  · rintro x K rfl
    unfold wp_X9_rise_B11
    rw [stp_rise]
    exact ⟨fun _ => k v fv ev, fun z => absurd (by rw [sv'.2.1]; exact Int32.le_refl _) z⟩
theorem m_isKnown {w : Wd} {S : Sv} {m : Nat} {Q : Int32 → Prop} (hS : wf S) (h : sS w S) (hm : m < nM S) (k1 : kn S m ≠ -1 → Q 1) (k0 : kn S m = -1 → Q 0) : wp_X9_isKnown (nI m) w Q := by
  have hm' := hS.m
  unfold wp_X9_isKnown
  rw [n1p, n_cl (by omega), h.2.2.1 m hm, kn_m1 hS hm]
  exact ⟨n_in (by omega) (by omega), fun z => ⟨Or.inl rfl, k0 z⟩, fun z => ⟨Or.inr rfl, k1 z⟩⟩
theorem m_agrees {w : Wd} {S : Sv} {m : Nat} {Q : Int32 → Wd → Prop} (hS : wf S) (h : sS w S) (ho : mO w S) (hm : m < nM S) (k : ∀ w', fl [41] w w' → Q (nI (ag S m)) w') : wp_X9_agrees (nI m) w Q := by
  have hm' := hS.m
  unfold wp_X9_agrees wp_X9_agrees_L4
  refine lpAIB (B := fun x i v K => wp_X9_agrees_B4 (nI m) x i v Q K) (fun j x v => fl [41] w v ∧ x = nI (ct (agP S m) j)) (nM S) 0 (by omega) (Nat.zero_le _) ⟨fl_rf, rfl⟩ ?_ ?_
  · rintro j x v K hj ⟨fv, rfl⟩ hK
    have sv' : sS v S := sS_fl h fv (by decide)
    have ov : mO v S := mO_fl ho fv (by decide)
    have keep : agP S m j = false → K (nI (ct (agP S m) j)) (nI j + 1) v := fun c => by
      rw [nI_1 j]
      refine hK _ v ⟨fv, ?_⟩
      rw [ct, if_neg (by rw [c]; decide), Nat.add_zero]
    unfold wp_X9_agrees_B4
    rw [sv'.1, n_le (by omega) (by omega), n_eq (show j < 2147483648 by omega) (show m < 2147483648 by omega)]
    refine ⟨fun z => absurd z (by omega), fun _ => ⟨fun z => keep (by unfold agP; simp [z]), fun z => m_isKnown hS sv' hj (fun c => ⟨fun y => absurd y (by decide), fun _ => ?_⟩) (fun c => ⟨fun _ => keep (by unfold agP; simp [c]), fun y => absurd rfl y⟩)⟩⟩
    have n1 := net_le hS m
    have n2 := net_le hS j
    rw [n_cl (show j < 2147483648 by omega), n_cl (show m < 2147483648 by omega), ov.1.1.1 m hm, ov.1.1.1 j hj, n_eq (by omega) (by omega)]
    refine ⟨n_in (by omega) (by omega), n_in (by omega) (by omega), fun y => keep (by unfold agP; simp [y]), fun y => ?_⟩
    rw [n1p, n1p, n_cl (by omega), n_cl (by omega), sv'.2.2.1 m hm, sv'.2.2.1 j hj]
    refine ⟨n_in (by omega) (by omega), n_in (by omega) (by omega), m_rise hS sv' ov hm hj (fun u fu eu => ?_)⟩
    have k1 := hS.k hm
    have k2 := hS.k hj
    have rd := rise_diff hS j m
    have s5 := hS.s
    have su : sS u S := sS_fl sv' fu (by decide)
    rw [iI_sub, iI_sub]
    refine m_size ⟨by omega, by omega⟩ ?_
    rw [show wi u 0 33 94 = iI (st S 2) from su.2.2.2.2 2 (by omega), iI_lt ⟨by omega, by omega⟩ ⟨by omega, by omega⟩]
    unfold wp_X9_agrees_J85
    rw [nI_1 j]
    refine ⟨fun t => hK _ u ⟨fv.tr fu, ?_⟩, fun t => hK _ u ⟨fv.tr fu, ?_⟩⟩
    · have e : agP S m j = false := by
        unfold agP agr
        rw [decide_eq_false (by omega), Bool.and_false]
      rw [ct, if_neg (by rw [e]; decide), n_0, nI_add]
    · have e : agP S m j = true := by
        unfold agP agr
        rw [decide_eq_true (by omega)]
        simp [z, c, y]
      rw [ct, if_pos e, show (1 : Int32) = nI 1 from rfl, nI_add]
  · rintro x v K ⟨fv, rfl⟩
    have sv' : sS v S := sS_fl h fv (by decide)
    unfold wp_X9_agrees_B4
    exact ⟨fun _ => k v fv, fun z => absurd (by rw [sv'.1]; exact Int32.le_refl _) z⟩
def mHt (w : Wd) (S : Sv) : Prop := ∀ m, m < nM S → wi w 0 49 m = iI (bs S m) ∧ wi w 0 50 m = iI (hgt S m)
theorem mHt_fl {L : List Nat} {w w' : Wd} {S : Sv} (h : mHt w S) (k : fl L w w') (hL : 49 ∉ L ∧ 50 ∉ L) : mHt w' S :=
  fun m hm => ⟨(k.wi hL.1 m).trans (h m hm).1, (k.wi hL.2 m).trans (h m hm).2⟩
def mA (w : Wd) (S : Sv) : Prop := mO w S ∧ mHt w S
theorem mA_fl {L : List Nat} {w w' : Wd} {S : Sv} (h : mA w S) (k : fl L w w') (hL : (37 ∉ L ∧ 38 ∉ L ∧ 39 ∉ L ∧ 40 ∉ L) ∧ (32 ∉ L ∧ 42 ∉ L ∧ 43 ∉ L) ∧ (44 ∉ L ∧ 45 ∉ L)) (hL2 : 49 ∉ L ∧ 50 ∉ L) : mA w' S := ⟨mO_fl h.1 k hL, mHt_fl h.2 k hL2⟩
/-- how many agree with the base, or -1 -/
def mstK (S : Sv) (t k : Nat) : Int := if bsK S t k < 0 then -1 else (ag S (bsK S t k).toNat : Int)
theorem m_baseOf {w : Wd} {S : Sv} {m : Nat} {Q : Wd → Prop} {K : Int32 → Wd → Prop} (hS : wf S) (h : sS w S) (ho : mO w S) (hm : m < nM S) (h49 : wi w 0 49 m = iI (-1)) (k : ∀ w', fl [41, 49, 50] w w' → (∀ i, i ≠ m → wi w' 0 49 i = wi w 0 49 i ∧ wi w' 0 50 i = wi w 0 50 i) → wi w' 0 49 m = iI (bs S m) → wi w' 0 50 m = iI (hgt S m) → K (nI (m + 1)) w') : wp_X9_layHeights_L23 (nI m) (-1) 0 w Q K := by
  have hm' := hS.m
  unfold wp_X9_layHeights_L23
  refine lpAIB (B := fun x i v K2 => wp_X9_layHeights_B23 (nI m) x i v Q K K2) (fun j x v => fl [41, 49] w v ∧ (∀ i, i ≠ m → wi v 0 49 i = wi w 0 49 i) ∧ wi v 0 49 m = iI (bsK S (net S m) j) ∧ x = iI (mstK S (net S m) j)) (nM S) 0 (by omega) (Nat.zero_le _) ⟨fl_rf, fun _ _ => rfl, h49, rfl⟩ ?_ ?_
  · rintro j x v K2 hj ⟨fv, av, bv, rfl⟩ hK2
    have sv' : sS v S := sS_fl h fv (by decide)
    have ov : mO v S := mO_fl ho fv (by decide)
    have bb := bsK_bd S (net S m) j
    have mb : -1 ≤ mstK S (net S m) j ∧ mstK S (net S m) j ≤ 10 := by
      unfold mstK
      have := ct_le (agP S (bsK S (net S m) j).toNat) (nM S)
      by_cases z : bsK S (net S m) j < 0
      · rw [if_pos z]; omega
      · rw [if_neg z]
        have e : ag S (bsK S (net S m) j).toNat = ct (agP S (bsK S (net S m) j).toNat) (nM S) := rfl
        omega
    have J88 : ∀ (u : Wd) (n : Int) (s0 : Int32), fl [41] v u → -1 ≤ n → n ≤ 10 → s0 = iI (bsK S (net S m) (j + 1)) → (n ≤ mstK S (net S m) j → mstK S (net S m) (j + 1) = mstK S (net S m) j) → (¬ n ≤ mstK S (net S m) j → mstK S (net S m) (j + 1) = n) → wp_X9_layHeights_J88 (nI m) (iI (mstK S (net S m) j)) (nI j) (iI n) s0 (nI m) u Q K K2 := by
      rintro u n s0 fu n1 n2 rfl c1 c2
      unfold wp_X9_layHeights_J88
      rw [n_cl (by omega), iI_le ⟨by omega, by omega⟩ ⟨by omega, by omega⟩, nI_1 j]
      refine ⟨n_in (by omega) (by omega), fun u1 q1 => ?_⟩
      have f1 : fl [41, 49] w u1 := by rw [q1]; exact (fv.tr (fu.wide (by decide))).sI (by decide)
      have a1 : ∀ i, i ≠ m → wi u1 0 49 i = wi w 0 49 i := fun i hi => by rw [q1, wi_sI, if_neg (by omega), fu.wi (by decide)]; exact av i hi
      have b1 : wi u1 0 49 m = iI (bsK S (net S m) (j + 1)) := by rw [q1, wi_sI, if_pos ⟨rfl, rfl, rfl⟩]
      refine ⟨fun z => hK2 _ u1 ⟨f1, a1, b1, ?_⟩, fun z => hK2 _ u1 ⟨f1, a1, b1, ?_⟩⟩
      · rw [c1 z]
      · rw [c2 z]
    have J65 : ∀ (u : Wd) (n : Int), fl [41] v u → -1 ≤ n → n ≤ 10 → (n ≤ mstK S (net S m) j → bsK S (net S m) (j + 1) = bsK S (net S m) j) → (¬ n ≤ mstK S (net S m) j → bsK S (net S m) (j + 1) = (j : Int) ∧ n = (ag S j : Int)) → wp_X9_layHeights_J65 (nI m) (iI (mstK S (net S m) j)) (nI j) (iI n) u Q K K2 := by
      intro u n fu n1 n2 c1 c2
      unfold wp_X9_layHeights_J65
      rw [n_cl (by omega), fu.wi (by decide), bv, iI_le ⟨by omega, by omega⟩ ⟨by omega, by omega⟩]
      refine ⟨fun z => ⟨n_in (by omega) (by omega), J88 u n _ fu n1 n2 (by rw [c1 z]) (fun _ => by unfold mstK; rw [c1 z]) (fun y => absurd z y)⟩, fun z => J88 u n _ fu n1 n2 (by rw [(c2 z).1, nI_iI]) (fun y => absurd y z) (fun _ => ?_)⟩
      unfold mstK
      rw [(c2 z).1, if_neg (by omega), (c2 z).2, Int.toNat_natCast]
    have J64 : ¬ (net S j = net S m ∧ kn S j ≠ -1) → wp_X9_layHeights_J64 (nI m) (iI (mstK S (net S m) j)) (nI j) v Q K K2 := by
      intro z
      unfold wp_X9_layHeights_J64
      refine J65 v (-1) fl_rf (by omega) (by omega) (fun _ => ?_) (fun y => absurd mb.1 y)
      rw [bsK, if_neg (fun y => z ⟨y.1, y.2.1⟩)]
    have n1 := net_le hS m
    have n2 := net_le hS j
    unfold wp_X9_layHeights_B23
    rw [sv'.1, n_le (by omega) (by omega)]
    refine ⟨fun z => absurd z (by omega), fun _ => m_isKnown hS sv' hj (fun c => ⟨fun y => absurd y (by decide), fun _ => ?_⟩) (fun c => ⟨fun _ => J64 (fun y => y.2 c), fun y => absurd rfl y⟩)⟩
    rw [n_cl (show j < 2147483648 by omega), n_cl (show m < 2147483648 by omega), ov.1.1.1 m hm, ov.1.1.1 j hj, n_eq (by omega) (by omega)]
    refine ⟨n_in (by omega) (by omega), n_in (by omega) (by omega), fun y => J64 (fun z => y z.1), fun y => m_agrees hS sv' ov hj (fun u fu => ?_)⟩
    have hag : ag S j ≤ 10 := by
      have := ct_le (agP S j) (nM S)
      have e : ag S j = ct (agP S j) (nM S) := rfl
      omega
    rw [nI_iI]
    refine J65 u _ fu (by omega) (by omega) (fun z => ?_) (fun z => ⟨?_, rfl⟩)
    · unfold mstK at z
      rw [bsK, if_neg]
      rintro ⟨-, -, t | t⟩
      · rw [if_pos t] at z; omega
      · by_cases s : bsK S (net S m) j < 0
        · rw [if_pos s] at z; omega
        · rw [if_neg s] at z; omega
    · unfold mstK at z
      have hh : bsK S (net S m) j < 0 ∨ ag S (bsK S (net S m) j).toNat < ag S j := by
        by_cases s : bsK S (net S m) j < 0
        · exact Or.inl s
        · rw [if_neg s] at z
          exact Or.inr (by omega)
      rw [bsK, if_pos ⟨y, c, hh⟩]
  · rintro x v K2 ⟨fv, av, bv, rfl⟩
    have sv' : sS v S := sS_fl h fv (by decide)
    have ov : mO v S := mO_fl ho fv (by decide)
    have bb := bs_bd hS m
    have eb : wi v 0 49 m = iI (bs S m) := bv
    have J153 : ∀ (u : Wd) (s0 : Int32), fl [41] v u → s0 = iI (hgt S m) → wp_X9_layHeights_J153 (nI m) s0 (nI m) u Q K := by
      rintro u s0 fu rfl
      unfold wp_X9_layHeights_J153
      rw [n_cl (by omega), nI_1 m]
      refine ⟨n_in (by omega) (by omega), fun u1 q1 => k u1 ?_ (fun i hi => ⟨?_, ?_⟩) ?_ ?_⟩
      · rw [q1]; exact ((fv.wide (by decide)).tr (fu.wide (by decide))).sI (by decide)
      · rw [q1, wi_sI, if_neg (by omega), fu.wi (by decide)]; exact av i hi
      · rw [q1, wi_sI, if_neg (by omega), fu.wi (by decide), fv.wi (by decide)]
      · rw [q1, wi_sI, if_neg (by omega), fu.wi (by decide)]; exact eb
      · rw [q1, wi_sI, if_pos ⟨rfl, rfl, rfl⟩]
    unfold wp_X9_layHeights_B23
    refine ⟨fun _ => ?_, fun z => absurd (by rw [sv'.1]; exact Int32.le_refl _) z⟩
    rw [n_cl (show m < 2147483648 by omega), eb, ← iI_m1, iI_eq ⟨by omega, by omega⟩ ⟨by omega, by omega⟩]
    refine ⟨n_in (by omega) (by omega), fun z => ?_, fun z => J153 v _ fl_rf ?_⟩
    · have hb0 : ¬ bs S m < 0 := by omega
      obtain ⟨b, b1, b2, b3, b4⟩ := bsK_spec (S := S) (t := net S m) (k := nM S) hb0
      have b1' : bs S m = (b : Int) := b1
      rw [b1', iI_nat, n1p, n_cl (by omega), sv'.2.2.1 b b2]
      refine ⟨n_in (by omega) (by omega), n_in (by omega) (by omega), n_in (by omega) (by omega), m_rise hS sv' ov b2 hm (fun u fu _ => J153 u _ fu ?_)⟩
      rw [iI_add]
      unfold hgt
      rw [if_neg hb0, b1', Int.toNat_natCast]
      congr 1; omega
    · unfold hgt
      rw [if_pos (by omega)]; rfl
theorem m_layHeights {w : Wd} {S : Sv} {Q : Wd → Prop} (hS : wf S) (h : sS w S) (ho : mO w S) (k : ∀ w', fl [41, 49, 50] w w' → mHt w' S → Q w') : wp_X9_layHeights w Q := by
  have hm' := hS.m
  unfold wp_X9_layHeights wp_X9_layHeights_L2
  refine lpIA (B := fun i v K => wp_X9_layHeights_B2 i v Q K) (fun j v => fl [41, 49, 50] w v ∧ ∀ m, m < j → wi v 0 49 m = iI (bs S m) ∧ wi v 0 50 m = iI (hgt S m)) (nM S) 0 (by omega) (Nat.zero_le _) ⟨fl_rf, fun m hm => absurd hm (by omega)⟩ ?_ ?_
  · rintro j v K hj ⟨fv, av⟩ hK
    have sv' : sS v S := sS_fl h fv (by decide)
    have ov : mO v S := mO_fl ho fv (by decide)
    unfold wp_X9_layHeights_B2
    rw [sv'.1, n_le (by omega) (by omega), n_cl (by omega)]
    refine ⟨fun z => absurd z (by omega), fun _ => ⟨n_in (by omega) (by omega), fun v1 q1 => ?_⟩⟩
    have f1 : fl [49] v v1 := by rw [q1]; exact fl_rf.sI (by decide)
    have f2 : fl [41, 49, 50] w v1 := fv.tr (f1.wide (by decide))
    refine m_baseOf hS (sS_fl h f2 (by decide)) (mO_fl ho f2 (by decide)) hj (by rw [q1, wi_sI, if_pos ⟨rfl, rfl, rfl⟩]; rfl) (fun u fu au b1 b2 => hK u ⟨f2.tr fu, fun m hm => ?_⟩)
    by_cases z : m = j
    · rw [z]; exact ⟨b1, b2⟩
    · rw [(au m z).1, (au m z).2, q1, wi_sI, if_neg (by omega), wi_sI, if_neg (by omega)]
      exact av m (by omega)
  · rintro v K ⟨fv, av⟩
    have sv' : sS v S := sS_fl h fv (by decide)
    unfold wp_X9_layHeights_B2
    exact ⟨fun _ => k v fv av, fun z => absurd (by rw [sv'.1]; exact Int32.le_refl _) z⟩
theorem m_layAll {w : Wd} {S : Sv} {Q : Wd → Prop} (hS : wf S) (h : sS w S) (q : ∀ w', fo w w' → mA w' S → Q w') : wp_X9_layAll w Q := by
  unfold wp_X9_layAll
  refine m_layOut hS h (fun w1 f1 o1 => ?_)
  refine m_layHeights hS (sS_fo h f1) o1 (fun w2 f2 h2 => q w2 (f1.tr (fl_fo f2 (by decide) (by decide))) ⟨mO_fl o1 f2 (by decide), h2⟩)
theorem m_movedOf {w : Wd} {S : Sv} {m : Nat} {Q : Int32 → Prop} (hS : wf S) (h : sS w S) (ha : mA w S) (hm : m < nM S) (q : Q (iI (mvd S m))) : wp_X9_movedOf (nI m) w Q := by
  have hm' := hS.m
  have hb := hgt_bd' hS m
  have hk := hS.k hm
  have s5 := hS.s
  unfold mvd at q
  unfold wp_X9_movedOf
  refine m_isKnown hS h hm (fun c => ⟨fun y => absurd y (by decide), fun _ => ?_⟩) (fun c => ⟨fun _ => by rw [if_pos (Or.inl c)] at q; exact q, fun y => absurd rfl y⟩)
  rw [n1p, n_cl (show m < 2147483648 by omega), n_cl (by omega), (ha.2 m hm).2, h.2.2.1 m hm, show (-1000000 : Int32) = iI (-1000000) from rfl, iI_eq ⟨by omega, by omega⟩ ⟨by omega, by omega⟩, hgt_no hS m]
  refine ⟨n_in (by omega) (by omega), fun z => by rw [if_pos (Or.inr z)] at q; exact q, fun z => ⟨n_in (by omega) (by omega), n_in (by omega) (by omega), ?_⟩⟩
  rw [if_neg (by omega)] at q
  rw [iI_sub]
  refine m_size ⟨by omega, by omega⟩ ?_
  rw [show wi w 0 33 94 = iI (st S 2) from h.2.2.2.2 2 (by omega), iI_lt ⟨by omega, by omega⟩ ⟨by omega, by omega⟩, iI_le ⟨by omega, by omega⟩ ⟨by omega, by omega⟩]
  refine ⟨fun y => ⟨n_in (by omega) (by omega), n_in (by omega) (by omega), fun t => ?_, fun t => ?_⟩, fun y => ?_⟩
  · rw [if_neg (by omega), if_neg (by omega)] at q; exact q
  · rw [if_neg (by omega), if_pos (by omega)] at q; exact q
  · rw [if_pos (by omega)] at q; exact q
theorem m_legsAt {w : Wd} {S : Sv} {m : Nat} {Q : Int32 → Prop} (hS : wf S) (h : sS w S) (hm : m < nM S) (q : Q (nI (ct (lgP S m) (nL S)))) : wp_X9_legsAt (nI m) w Q := by
  have hm' := hS.m
  have hl' := hS.l
  unfold wp_X9_legsAt wp_X9_legsAt_L4
  refine lpAI (B := fun x i K => wp_X9_legsAt_B4 (nI m) x i w Q K) (fun j x => x = nI (ct (lgP S m) j)) (nL S) 0 (by omega) (Nat.zero_le _) rfl ?_ ?_
  · rintro j x K hj rfl hK
    obtain ⟨g1, g2, -⟩ := hS.g hj
    have sj := h.2.2.2.1 j hj
    have up : lgP S m j = true → K (nI (ct (lgP S m) j) + 1) (nI (j + 1)) := fun c => hK _ (by rw [ct, if_pos c, nI_1])
    unfold wp_X9_legsAt_B4
    rw [h.2.1, n_le (by omega) (by omega), nI_1 j]
    refine ⟨fun z => absurd z (by omega), fun _ => m_of2 rfl rfl (by omega) (by omega) ?_⟩
    rw [n_cl (by omega), show wi w 0 33 (12 + 4 * j + 0) = nI (fr S j) from sj.1, n_eq (by omega) (by omega)]
    refine ⟨fun z => up (by unfold lgP; simp [z]), fun z => m_of2 rfl rfl (by omega) (by omega) ?_⟩
    rw [n_cl (by omega), sj.2.1, n_eq (by omega) (by omega)]
    refine ⟨fun y => hK _ ?_, fun y => up (by unfold lgP; simp [y])⟩
    rw [n_0, nI_add, ct, if_neg (by unfold lgP; simp [z, y])]
  · rintro x K rfl
    unfold wp_X9_legsAt_B4
    exact ⟨fun _ => q, fun z => absurd (by rw [h.2.1]; exact Int32.le_refl _) z⟩
theorem m_markOf {w : Wd} {S : Sv} {m : Nat} {x : Int32} {Q : Int32 → Wd → Prop} (hS : wf S) (h : sS w S) (ha : mA w S) (hm : m < nM S) (q : ∀ w', fl [41] w w' → Q (oMk S m x) w') : wp_X9_markOf (nI m) x w Q := by
  have hm' := hS.m
  unfold oMk at q
  unfold wp_X9_markOf
  rw [n1p, n_cl (show m < 2147483648 by omega), n_cl (show 1 + m < 2147483648 by omega), h.2.2.1 m hm, (ha.2 m hm).2, (ha.2 m hm).1, ha.1.1.1.1 m hm]
  refine ⟨fun z => ⟨n_in (by omega) (by omega), ?_⟩, fun z => ⟨n_in (by omega) (by omega), ?_⟩, fun z => ⟨n_in (by omega) (by omega), ?_⟩, fun z => m_movedOf hS h ha hm ?_, fun z => m_legsAt hS h hm ?_, fun z => ⟨n_in (by omega) (by omega), ?_⟩, fun z0 z1 z2 z3 z4 z5 => m_isKnown hS h hm (fun c => ⟨fun y => absurd y (by decide), fun _ => m_agrees hS h ha.1 hm (fun w' f' => ?_)⟩) (fun c => ⟨fun _ => ?_, fun y => absurd rfl y⟩)⟩
  · subst z; exact q w fl_rf
  · subst z; exact q w fl_rf
  · subst z; exact q w fl_rf
  · subst z; exact q w fl_rf
  · subst z; exact q w fl_rf
  · subst z; exact q w fl_rf
  · have q' := q w' f'
    rw [if_neg z0, if_neg z1, if_neg z2, if_neg z3, if_neg z4, if_neg z5, if_neg c] at q'
    exact q'
  · have q' := q w fl_rf
    rw [if_neg z0, if_neg z1, if_neg z2, if_neg z3, if_neg z4, if_neg z5, if_pos c] at q'
    exact q'
