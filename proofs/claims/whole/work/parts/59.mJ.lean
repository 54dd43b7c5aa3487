/-! THE MODEL: its parser -/
def pf (w w' : Wd) : Prop := fl [32] w w' ∧ ∀ j, j ≠ 22 → j ≠ 23 → wi w' 0 32 j = wi w 0 32 j
theorem pf_rf {w : Wd} : pf w w := ⟨fl_rf, fun _ _ _ => rfl⟩
theorem pf.tr {w w' w'' : Wd} (h : pf w w') (k : pf w' w'') : pf w w'' := ⟨h.1.tr k.1, fun j a b => (k.2 j a b).trans (h.2 j a b)⟩
theorem mX_pf {w w' : Wd} {T : Tx} (h : mX w T) (k : pf w w') : mX w' T := mX_of h (k.2 6 (by omega) (by omega)) (fun i => k.1.wi (by decide) i)
def stW (w : Wd) (i : Nat) (b : Bool) : Prop := wi w 0 32 22 = nI i ∧ wi w 0 32 23 = b32 b
/-- here reading ends badly -/
def bdT (T : Tx) (i : Nat) : Prop := ∃ s, rch T.2 i s ∧ i ≤ T.1 ∧ (i < T.1 → tk (T.2 i).toInt s = none) ∧ (i = T.1 → acc s = false)
theorem bdT_e {T : Tx} {i : Nat} (h : bdT T i) : fe T.2 T.1 = i ∧ goodT T = false := by
  obtain ⟨s, s1, s2, s3, s4⟩ := h
  refine ⟨fe_at s1 s2 s3, ?_⟩
  by_cases z : i = T.1
  · subst z; rw [goodT_s s1]; exact s4 rfl
  · exact goodT_no s1 (by omega) (s3 (by omega))
def gd (w : Wd) (T : Tx) (P : RS → Nat → Prop) : Prop := (∃ i s, stW w i false ∧ i ≤ T.1 ∧ rch T.2 i s ∧ P s i) ∨ (∃ i, stW w i true ∧ bdT T i)
theorem m_isNext {w : Wd} {T : Tx} {i : Nat} {b : Bool} {y z : Int32} (lo hi : Int) {Q : Int32 → Prop} (hy : y = iI lo) (hz : z = iI hi) (hlo : fit lo) (hhi : fit hi) (x : mX w T) (h : stW w i b) (hiT : i ≤ T.1) (k1 : i < T.1 → lo ≤ (T.2 i).toInt → (T.2 i).toInt ≤ hi → Q 1) (k0 : ¬ (i < T.1 ∧ lo ≤ (T.2 i).toInt ∧ (T.2 i).toInt ≤ hi) → Q 0) : wp_X9_isNext y z w Q := by
  have t2 := x.2.1
  unfold wp_X9_isNext wp_X9_isNext_J32
  rw [x.1, h.1, n_le (by omega) (by omega), n_cl (by omega)]
  refine ⟨fun c => ⟨Or.inl rfl, k0 (by omega)⟩, fun c => ⟨n_in (by omega) (by omega), ?_⟩⟩
  rw [x.2.2 i (by omega)]
  refine m_in2 lo hi hy hz hlo hhi (fun d => ⟨fun q => absurd q (by decide), fun _ => ⟨Or.inr rfl, ?_⟩⟩) (fun d => ⟨fun _ => ⟨Or.inl rfl, k0 (fun q => of_decide_eq_false d q.2)⟩, fun q => absurd rfl q⟩)
  have := of_decide_eq_true d
  exact k1 (by omega) this.1 this.2
theorem m_J47 {w : Wd} {i : Nat} {x : Int32} (b : Bool) {Q : Int32 → Wd → Prop} (h : wi w 0 32 22 = nI i) (k : ∀ w', pf w w' → stW w' (if b = true then i else i + 1) b → Q x w') : wp_X9_sign_J47 x (b32 b) w Q := by
  unfold wp_X9_sign_J47 wp_X9_sign_J67
  refine ⟨b32_zb b, fun w1 q1 => ?_⟩
  have e23 : wi w1 0 32 23 = b32 b := by rw [q1, wi_sI, if_pos ⟨rfl, rfl, rfl⟩]
  have e22 : wi w1 0 32 22 = nI i := by rw [q1, wi_sI, if_neg (by omega)]; exact h
  have f1 : fl [32] w w1 := by rw [q1]; exact fl_rf.sI (by decide)
  rw [e23, e22, b32_0]
  have fin : ∀ (w2 : Wd) (v : Int32), w2 = sI w1 0 32 22 v → v = nI (if b = true then i else i + 1) → Q x w2 := by
    intro w2 v q2 ev
    refine k w2 ⟨by rw [q2]; exact f1.sI (by decide), fun j a c => by rw [q2, wi_sI, if_neg (by omega), q1, wi_sI, if_neg (by omega)]⟩ ⟨by rw [q2, wi_sI, if_pos ⟨rfl, rfl, rfl⟩, ev], by rw [q2, wi_sI, if_neg (by omega)]; exact e23⟩
  refine ⟨fun z w2 q2 => fin w2 _ q2 ?_, fun z w2 q2 => fin w2 _ q2 ?_⟩
  · rw [nI_1, z]; rfl
  · have bt : b = true := by
      cases b with
      | true => rfl
      | false => exact absurd rfl z
    rw [n_0, nI_add, bt]; rfl
theorem m_sign_in {w : Wd} {T : Tx} {i : Nat} {y z : Int32} (lo hi : Int) {Q : Int32 → Wd → Prop} (hy : y = iI lo) (hz : z = iI hi) (hlo : fit lo) (hhi : fit hi) (x : mX w T) (h : stW w i false) (hiT : i < T.1) (c1 : lo ≤ (T.2 i).toInt) (c2 : (T.2 i).toInt ≤ hi) (k : ∀ w', pf w w' → stW w' (i + 1) false → Q (T.2 i) w') : wp_X9_sign y z w Q := by
  have t2 := x.2.1
  unfold wp_X9_sign wp_X9_sign_J24
  rw [x.1, h.1, n_le (by omega) (by omega), n_cl (by omega), h.2, x.2.2 i hiT]
  refine ⟨fun c => absurd c (by omega), fun _ => ⟨n_in (by omega) (by omega), fun c => absurd rfl c, fun _ => ?_⟩⟩
  refine m_in2 lo hi hy hz hlo hhi (fun d => ⟨fun _ => m_J47 false h.1 k, fun q => absurd q (by decide)⟩) (fun d => absurd ⟨c1, c2⟩ (of_decide_eq_false d))
theorem m_sign_out {w : Wd} {T : Tx} {i : Nat} {y z : Int32} (lo hi : Int) {Q : Int32 → Wd → Prop} (hy : y = iI lo) (hz : z = iI hi) (hlo : fit lo) (hhi : fit hi) (hp : 0 < lo) (x : mX w T) (h : stW w i false) (hiT : i ≤ T.1) (c : i < T.1 → ¬ (lo ≤ (T.2 i).toInt ∧ (T.2 i).toInt ≤ hi)) (k : ∀ r w', pf w w' → stW w' i true → Q r w') : wp_X9_sign y z w Q := by
  have t2 := x.2.1
  unfold wp_X9_sign wp_X9_sign_J24
  rw [x.1, h.1, n_le (by omega) (by omega), n_cl (by omega), h.2]
  refine ⟨fun d => ⟨fun e => absurd rfl e, fun _ => m_in2 lo hi hy hz hlo hhi (fun e => ?_) (fun e => ⟨fun q => absurd rfl q, fun _ => m_J47 true h.1 (k 0)⟩)⟩, fun d => ⟨n_in (by omega) (by omega), fun e => absurd rfl e, fun _ => m_in2 lo hi hy hz hlo hhi (fun e => ?_) (fun e => ⟨fun q => absurd rfl q, fun _ => m_J47 true h.1 (k _)⟩)⟩⟩
  · have := of_decide_eq_true e
    have e0 : (0 : Int32).toInt = 0 := rfl
    rw [e0] at this
    omega
  · rw [x.2.2 i (by omega)] at e
    exact absurd (of_decide_eq_true e) (c (by omega))
theorem m_sign_w {w : Wd} {T : Tx} {i : Nat} {y z : Int32} {Q : Int32 → Wd → Prop} (x : mX w T) (h : stW w i true) (hiT : i ≤ T.1) (k : ∀ r w', pf w w' → stW w' i true → Q r w') : wp_X9_sign y z w Q := by
  have t2 := x.2.1
  unfold wp_X9_sign wp_X9_sign_J24
  rw [x.1, h.1, n_le (by omega) (by omega), h.2]
  refine ⟨fun d => ⟨fun _ => m_J47 true h.1 (k _), fun e => absurd e (by decide)⟩, fun d => ⟨n_in (by omega) (by omega), fun _ => m_J47 true h.1 (k _), fun e => absurd e (by decide)⟩⟩
theorem m_sgn {w : Wd} {T : Tx} {y z : Int32} (lo hi : Int) {P : RS → Nat → Prop} {P' : Int32 → RS → Nat → Prop} {Q : Int32 → Wd → Prop} (hy : y = iI lo) (hz : z = iI hi) (hlo : fit lo) (hhi : fit hi) (hp : 0 < lo) (x : mX w T) (h : gd w T P) (ht : ∀ s i, P s i → i < T.1 → lo ≤ (T.2 i).toInt → (T.2 i).toInt ≤ hi → ∃ u, tk (T.2 i).toInt s = some u ∧ P' (T.2 i) u (i + 1)) (hf : ∀ s i, P s i → (i = T.1 → acc s = false) ∧ (i < T.1 → ¬ (lo ≤ (T.2 i).toInt ∧ (T.2 i).toInt ≤ hi) → tk (T.2 i).toInt s = none)) (k : ∀ r w', pf w w' → mX w' T → gd w' T (P' r) → Q r w') : wp_X9_sign y z w Q := by
  rcases h with ⟨i, s, a, b, c, d⟩ | ⟨i, a, b⟩
  · by_cases e : i < T.1 ∧ lo ≤ (T.2 i).toInt ∧ (T.2 i).toInt ≤ hi
    · obtain ⟨u, u1, u2⟩ := ht s i d e.1 e.2.1 e.2.2
      exact m_sign_in lo hi hy hz hlo hhi x a e.1 e.2.1 e.2.2 (fun w' f' s' => k _ w' f' (mX_pf x f') (Or.inl ⟨i + 1, u, s', by omega, ⟨s, c, u1⟩, u2⟩))
    · obtain ⟨f1, f2⟩ := hf s i d
      exact m_sign_out lo hi hy hz hlo hhi hp x a b (fun q r => e ⟨q, r⟩) (fun r w' f' s' => k _ w' f' (mX_pf x f') (Or.inr ⟨i, s', s, c, b, fun q => f2 q (fun t => e ⟨q, t⟩), f1⟩))
  · obtain ⟨s, s1, s2, s3, s4⟩ := b
    exact m_sign_w x a s2 (fun r w' f' s' => k _ w' f' (mX_pf x f') (Or.inr ⟨i, s', s, s1, s2, s3, s4⟩))
/-- no ';' between -/
def nsq (T : Tx) (i j : Nat) : Prop := ∀ q, i ≤ q → q < j → T.2 q ≠ 59
theorem nsq_tr {T : Tx} {i j k : Nat} (h : nsq T i j) (h' : nsq T j k) : nsq T i k := fun q a b => by
  rcases Nat.lt_or_ge q j with z | z
  · exact h q a z
  · exact h' q z b
theorem ne59 {x : Int32} (h : x.toInt ≠ 59) : x ≠ 59 := fun z => h (by rw [z]; rfl)
theorem nsq_1 {T : Tx} {i : Nat} (h : (T.2 i).toInt ≠ 59) : nsq T i (i + 1) := fun q a b => by
  have : q = i := by omega
  rw [this]; exact ne59 h
theorem is59 {x : Int32} (h : x.toInt = 59) : x = 59 := Int32.toInt_inj.mp h
theorem m_num {w : Wd} {T : Tx} {y z : Int32} (least most nx : Nat) {P : RS → Nat → Prop} {P' : Int32 → RS → Nat → Prop} {Q : Int32 → Wd → Prop} (hy : y = nI least) (hz : z = nI most) (hle : least < 10) (hmo : most < 100000) (x : mX w T) (h : gd w T P)
    (hb : ∀ s i, P s i → i < T.1 → (dg (T.2 i).toInt = true ∧ (least : Int) ≤ (T.2 i).toInt - 48 → tk (T.2 i).toInt s = some (nx, ((T.2 i).toInt - 48).toNat, s.2.2)) ∧ (¬ (dg (T.2 i).toInt = true ∧ (least : Int) ≤ (T.2 i).toInt - 48) → tk (T.2 i).toInt s = none))
    (ha : ∀ s i, P s i → i = T.1 → acc s = false)
    (hg : ∀ (n : Nat) (r : Nat × Nat × Int × Bool) (c : Int), dg c = true ∧ n ≠ 0 ∧ 10 * (n : Int) + c - 48 ≤ most → tk c (nx, n, r) = some (nx, (10 * (n : Int) + c - 48).toNat, r))
    (hP : ∀ s i (n : Nat) j, P s i → i < j → j ≤ T.1 → nsq T i j → n < 100000 → (j < T.1 → ¬ (dg (T.2 j).toInt = true ∧ n ≠ 0 ∧ 10 * (n : Int) + (T.2 j).toInt - 48 ≤ most)) → P' (nI n) (nx, n, s.2.2) j)
    (k : ∀ r w', pf w w' → mX w' T → gd w' T (P' r) → Q r w') : wp_X9_number y z w Q := by
  subst hy hz
  have t2 := x.2.1
  unfold wp_X9_number
  refine m_sgn (48 + (least : Int)) 57 (P' := fun r u j => ∃ s i n, P s i ∧ u = (nx, n, s.2.2) ∧ r - 48 = nI n ∧ n < 100000 ∧ i < j ∧ nsq T i j) (by rw [show (48 : Int32) = iI 48 from rfl, nI_iI, iI_add]) rfl ⟨by omega, by omega⟩ ⟨by omega, by omega⟩ (by omega) x h (fun s i p hi c1 c2 => ?_) (fun s i p => ⟨ha s i p, fun hi c => (hb s i p hi).2 (fun q => c ?_)⟩) (fun r w1 f1 x1 g1 => ?_)
  · have d1 : dg (T.2 i).toInt = true := decide_eq_true (by omega)
    obtain ⟨e1, e2, e3⟩ := dg_e d1
    exact ⟨_, (hb s i p hi).1 ⟨d1, by omega⟩, s, i, _, p, rfl, e1, by omega, by omega, nsq_1 (by omega)⟩
  · have := dg_b q.1
    omega
  · unfold wp_X9_number_L14
    refine lpG (B := fun v u K => wp_X9_number_B14 (nI most) v u Q K) (fun m v u => pf w u ∧ ((∃ i, stW u i true ∧ bdT T i) ∨ ∃ j s i n, stW u j false ∧ j ≤ T.1 ∧ rch T.2 j (nx, n, s.2.2) ∧ P s i ∧ v = nI n ∧ n < 100000 ∧ i < j ∧ nsq T i j ∧ T.1 - j ≤ m)) T.1 ⟨f1, ?_⟩ ?_
    · rcases g1 with ⟨j, u, a, b, c, s, i, n, d, rfl, e, f, g, l⟩ | g1
      · exact Or.inr ⟨j, s, i, n, a, b, c, d, e, f, g, l, by omega⟩
      · exact Or.inl g1
    · rintro m v u K ⟨fu, hu⟩ hK
      have xu := mX_pf x fu
      unfold wp_X9_number_B14
      rcases hu with ⟨i, a, b⟩ | ⟨j, s, i, n, a, b, c, d, rfl, e, f, l, hm⟩
      · rw [a.2]
        exact ⟨fun _ => k v u fu xu (Or.inr ⟨i, a, b⟩), fun q => absurd q (by decide)⟩
      · have done : (j < T.1 → ¬ (dg (T.2 j).toInt = true ∧ n ≠ 0 ∧ 10 * (n : Int) + (T.2 j).toInt - 48 ≤ most)) → Q (nI n) u := fun q => k (nI n) u fu xu (Or.inl ⟨j, _, a, b, c, hP s i n j d f b l e q⟩)
        rw [a.2, nI_iI n, iI_le0 ⟨by omega, by omega⟩, ← nI_iI n]
        refine ⟨fun q => absurd rfl q, fun _ => ⟨fun q => done (fun _ y => y.2.1 (by omega)), fun q => ?_⟩⟩
        refine m_isNext 48 57 rfl rfl ⟨by omega, by omega⟩ ⟨by omega, by omega⟩ xu a b (fun j1 c1 c2 => ⟨fun y => absurd y (by decide), fun _ => ?_⟩) (fun y => ⟨fun _ => done (fun j1 t => y ⟨j1, dg_b t.1⟩), fun y => absurd rfl y⟩)
        have d1 : dg (T.2 j).toInt = true := decide_eq_true (by omega)
        obtain ⟨e1, e2, e3⟩ := dg_e d1
        have ev : ((10 : Int32) * nI n) + T.2 j - (48 : Int32) = nI (10 * (n : Int) + (T.2 j).toInt - 48).toNat := by
          rw [show (10 : Int32) = nI 10 from rfl, pk_mul]
          rw [e3, nI_add, show (48 : Int32) = nI 48 from rfl, pk_sub (by omega)]
          congr 1
          rw [nI_toInt (by omega)]
          omega
        rw [a.1, n_cl (by omega), xu.2.2 j j1, ev, n_lt (by omega) (by omega)]
        refine ⟨n_in (by omega) (by omega), fun y => done (fun _ t => by omega), fun y => ?_⟩
        refine m_sign_in 48 57 rfl rfl ⟨by omega, by omega⟩ ⟨by omega, by omega⟩ xu a j1 c1 c2 (fun u1 f2 s2 => ?_)
        rw [ev]
        have cond : dg (T.2 j).toInt = true ∧ n ≠ 0 ∧ 10 * (n : Int) + (T.2 j).toInt - 48 ≤ most := ⟨d1, by omega, by omega⟩
        exact hK (T.1 - (j + 1)) _ u1 (by omega) ⟨fu.tr f2, Or.inr ⟨j + 1, s, i, _, s2, by omega, ⟨_, c, hg n s.2.2 _ cond⟩, d, rfl, by omega, by omega, nsq_tr l (nsq_1 (by omega)), by omega⟩⟩
/-- an entry's end -/
def eE (T : Tx) (i0 : Nat) (s : RS) (i : Nat) : Prop := acc s = true ∧ i0 < i ∧ nsq T i0 i ∧ (i < T.1 → T.2 i ≠ 59 → tk (T.2 i).toInt s = none)
def eM (T : Tx) (i0 : Nat) (r : Int32) (s : RS) (i : Nat) : Prop := eE T i0 s i ∧ ((s.1 = 1 ∧ r = -1) ∨ (s.1 = 2 ∧ r = nI s.2.1))
def eL (T : Tx) (i0 : Nat) (a b d l : Int32) (s : RS) (i : Nat) : Prop := eE T i0 s i ∧ s.1 = 10 ∧ a = nI s.2.2.1 ∧ b = nI s.2.2.2.1 ∧ d = iI s.2.2.2.2.1 ∧ l = nI s.2.1
/-- within a leg: the state a, the marks so far, the sign so far -/
def q3 (T : Tx) (i0 a : Nat) (x2 : Int32) (s : RS) (i : Nat) : Prop := ∃ n f t d b, s = (a, n, f, t, d, b) ∧ x2 = nI f ∧ i0 < i ∧ nsq T i0 i
def q5 (T : Tx) (i0 a : Nat) (x2 x4 : Int32) (bb : Bool) (s : RS) (i : Nat) : Prop := ∃ n f t d, s = (a, n, f, t, d, bb) ∧ x2 = nI f ∧ x4 = nI t ∧ i0 < i ∧ nsq T i0 i
def qB (T : Tx) (i0 : Nat) (x2 x4 x5 : Int32) (s : RS) (i : Nat) : Prop := (x5 = 0 ∧ q5 T i0 6 x2 x4 false s i ∧ (i < T.1 → (T.2 i).toInt ≠ 45)) ∨ (x5 = 1 ∧ q5 T i0 7 x2 x4 true s i)
theorem m_J166 {w : Wd} {T : Tx} {i0 : Nat} {x1 x2 x4 x5 s0 : Int32} {Q : Int32 → Wd → Prop} (x : mX w T) (h : gd w T (qB T i0 x2 x4 x5)) (kL : ∀ d l w', pf w w' → mX w' T → gd w' T (eL T i0 x2 x4 d l) → wp_X9_entry_J208 x1 x2 x4 l d w' Q) : wp_X9_entry_J166 x1 x2 x4 x5 s0 w Q := by
  unfold wp_X9_entry_J166
  refine m_num 0 9999 8 (P' := fun r s i => ∃ n f t d b, s = (8, n, f, t, d, b) ∧ x5 = b32 b ∧ r = nI n ∧ x2 = nI f ∧ x4 = nI t ∧ i0 < i ∧ nsq T i0 i ∧ n < 100000 ∧ (i < T.1 → ¬ (dg (T.2 i).toInt = true ∧ n ≠ 0 ∧ 10 * (n : Int) + (T.2 i).toInt - 48 ≤ (9999 : Nat)))) rfl rfl (by omega) (by omega) x h ?_ ?_ ?_ ?_ (fun r1 w1 f1 x1' g1 => ?_)
  · rintro s i (⟨-, ⟨n, f, t, d, rfl, -⟩, c⟩ | ⟨-, ⟨n, f, t, d, rfl, -⟩⟩) hi
    · have e : tk (T.2 i).toInt (6, n, f, t, d, false) = if (T.2 i).toInt = 45 then some (7, n, f, t, d, true) else beg (T.2 i).toInt 0 8 (6, n, f, t, d, false) := rfl
      rw [if_neg (c hi), beg] at e
      exact ⟨fun q => by rw [e]; exact if_pos q, fun q => by rw [e]; exact if_neg q⟩
    · have e : tk (T.2 i).toInt (7, n, f, t, d, true) = beg (T.2 i).toInt 0 8 (7, n, f, t, d, true) := rfl
      rw [beg] at e
      exact ⟨fun q => by rw [e]; exact if_pos q, fun q => by rw [e]; exact if_neg q⟩
  · rintro s i (⟨-, ⟨n, f, t, d, rfl, -⟩, c⟩ | ⟨-, ⟨n, f, t, d, rfl, -⟩⟩) _
    · rfl
    · rfl
  · rintro n ⟨f, t, d, b⟩ c q
    have e : tk c (8, n, f, t, d, b) = if c = 47 then some (9, n, f, t, (if b = true then -(n : Int) else n), b) else gon c 9999 (8, n, f, t, d, b) := rfl
    have := dg_b q.1
    rw [if_neg (by omega), gon] at e
    rw [e]; exact if_pos q
  · rintro s i n j (⟨rfl, ⟨n', f, t, d, rfl, a1, a2, a3, a4⟩, c⟩ | ⟨rfl, ⟨n', f, t, d, rfl, a1, a2, a3, a4⟩⟩) b1 b2 b3 b4 b5
    · exact ⟨n, f, t, d, false, rfl, rfl, rfl, a1, a2, by omega, nsq_tr a4 b3, b4, b5⟩
    · exact ⟨n, f, t, d, true, rfl, rfl, rfl, a1, a2, by omega, nsq_tr a4 b3, b4, b5⟩
  · refine m_sgn 47 47 (P' := fun _ s i => ∃ n f t d b, s = (9, n, f, t, d, b) ∧ x5 = b32 b ∧ r1 = nI n ∧ d = (if b = true then -(n : Int) else n) ∧ x2 = nI f ∧ x4 = nI t ∧ i0 < i ∧ nsq T i0 i) rfl rfl ⟨by omega, by omega⟩ ⟨by omega, by omega⟩ (by omega) x1' g1 ?_ ?_ (fun r2 w2 f2 x2' g2 => ?_)
    · rintro s i ⟨n, f, t, d, b, rfl, a1, a2, a3, a4, a5, a6, a7, a8⟩ hi c1 c2
      have e : tk (T.2 i).toInt (8, n, f, t, d, b) = if (T.2 i).toInt = 47 then some (9, n, f, t, (if b = true then -(n : Int) else n), b) else gon (T.2 i).toInt 9999 (8, n, f, t, d, b) := rfl
      rw [if_pos (by omega)] at e
      exact ⟨_, e, n, f, t, _, b, rfl, a1, a2, rfl, a3, a4, by omega, nsq_tr a6 (nsq_1 (by omega))⟩
    · rintro s i ⟨n, f, t, d, b, rfl, a1, a2, a3, a4, a5, a6, a7, a8⟩
      refine ⟨fun _ => rfl, fun hi c => ?_⟩
      have e : tk (T.2 i).toInt (8, n, f, t, d, b) = if (T.2 i).toInt = 47 then some (9, n, f, t, (if b = true then -(n : Int) else n), b) else gon (T.2 i).toInt 9999 (8, n, f, t, d, b) := rfl
      rw [if_neg (by omega), gon] at e
      rw [e]; exact if_neg (a8 hi)
    · refine m_num 1 99 10 (P' := fun r s i => eE T i0 s i ∧ ∃ n m f t d b, s = (10, m, f, t, d, b) ∧ x5 = b32 b ∧ r1 = nI n ∧ d = (if b = true then -(n : Int) else n) ∧ x2 = nI f ∧ x4 = nI t ∧ r = nI m) rfl rfl (by omega) (by omega) x2' g2 ?_ ?_ ?_ ?_ (fun r3 w3 f3 x3' g3 => ?_)
      · rintro s i ⟨n, f, t, d, b, rfl, -⟩ hi
        have e : tk (T.2 i).toInt (9, n, f, t, d, b) = beg (T.2 i).toInt 1 10 (9, n, f, t, d, b) := rfl
        rw [beg] at e
        exact ⟨fun q => by rw [e]; exact if_pos q, fun q => by rw [e]; exact if_neg q⟩
      · rintro s i ⟨n, f, t, d, b, rfl, -⟩ _
        rfl
      · rintro n ⟨f, t, d, b⟩ c q
        have e : tk c (10, n, f, t, d, b) = if c = 59 then some (0, n, f, t, d, b) else gon c 99 (10, n, f, t, d, b) := rfl
        have := dg_b q.1
        rw [if_neg (by omega), gon] at e
        rw [e]; exact if_pos q
      · rintro s i m j ⟨n, f, t, d, b, rfl, a1, a2, a3, a4, a5, a6, a7⟩ b1 b2 b3 b4 b5
        refine ⟨⟨rfl, by omega, nsq_tr a7 b3, fun hj hne => ?_⟩, n, m, f, t, d, b, rfl, a1, a2, a3, a4, a5, rfl⟩
        have e : tk (T.2 j).toInt (10, m, f, t, d, b) = if (T.2 j).toInt = 59 then some (0, m, f, t, d, b) else gon (T.2 j).toInt 99 (10, m, f, t, d, b) := rfl
        rw [if_neg (fun q => hne (is59 q)), gon] at e
        show tk (T.2 j).toInt (10, m, f, t, d, b) = none
        rw [e]; exact if_neg (b5 hj)
      · have ff := (f1.tr f2).tr f3
        have conv : ∀ d0 : Int32, (∀ (b : Bool) (n : Nat), x5 = b32 b → r1 = nI n → d0 = iI (if b = true then -(n : Int) else n)) → gd w3 T (eL T i0 x2 x4 d0 r3) := by
          intro d0 hd
          rcases g3 with ⟨i, s, a, b, c, ⟨e1, n, m, f, t, d, bb, rfl, h1, h2, h3, h4, h5, h6⟩⟩ | g3
          · exact Or.inl ⟨i, _, a, b, c, e1, rfl, h4, h5, by show d0 = iI d; rw [h3]; exact hd bb n h1 h2, h6⟩
          · exact Or.inr g3
        refine ⟨fun z => kL r1 r3 w3 ff x3' (conv _ (fun b n h1 h2 => ?_)), fun z => kL (-r1) r3 w3 ff x3' (conv _ (fun b n h1 h2 => ?_))⟩
        · rw [z] at h1
          rw [b32_0.mp h1.symm, h2, nI_iI]; rfl
        · have bt : b = true := by
            cases b with
            | true => rfl
            | false => exact absurd h1 z
          rw [bt, h2, nI_iI, iI_neg]; rfl
theorem m_entry {w : Wd} {T : Tx} {i0 : Nat} {s0 : RS} {x1 : Int32} {Q : Int32 → Wd → Prop} (x : mX w T) (h : stW w i0 false) (hi : i0 ≤ T.1) (hr : rch T.2 i0 s0) (h0 : s0.1 = 0) (kM : ∀ r w', pf w w' → mX w' T → gd w' T (eM T i0 r) → wp_X9_entry_J42 x1 r w' Q) (kL : ∀ a b d l w', pf w w' → mX w' T → gd w' T (eL T i0 a b d l) → wp_X9_entry_J208 x1 a b l d w' Q) : wp_X9_entry x1 w Q := by
  obtain ⟨a, n, f, t, d, b⟩ := s0
  have ha : a = 0 := h0
  subst ha
  have tk0 : ∀ c, tk c (0, n, f, t, d, b) = if c = 109 then some (1, n, f, t, d, b) else if dg c = true then some (3, n, (c - 48).toNat, t, d, b) else none := fun _ => rfl
  unfold wp_X9_entry
  refine m_isNext 109 109 rfl rfl ⟨by omega, by omega⟩ ⟨by omega, by omega⟩ x h hi (fun j1 c1 c2 => ⟨fun z => absurd z (by decide), fun _ => ?_⟩) (fun c => ⟨fun _ => ?_, fun z => absurd rfl z⟩)
  · refine m_sign_in 109 109 rfl rfl ⟨by omega, by omega⟩ ⟨by omega, by omega⟩ x h j1 c1 c2 (fun w1 f1 s1 => ?_)
    have xw := mX_pf x f1
    have r1 : rch T.2 (i0 + 1) (1, n, f, t, d, b) := ⟨_, hr, by rw [tk0, if_pos (by omega)]⟩
    have ns : nsq T i0 (i0 + 1) := nsq_1 (by omega)
    refine m_isNext 48 57 rfl rfl ⟨by omega, by omega⟩ ⟨by omega, by omega⟩ xw s1 (by omega) (fun j2 d1 d2 => ⟨fun z => absurd z (by decide), fun _ => ?_⟩) (fun c => ⟨fun _ => kM _ w1 f1 xw (Or.inl ⟨i0 + 1, _, s1, by omega, r1, ⟨rfl, by omega, ns, fun j2 hne => ?_⟩, Or.inl ⟨rfl, rfl⟩⟩), fun z => absurd rfl z⟩)
    · refine m_num 0 99999 2 (P := fun s i => s = (1, n, f, t, d, b) ∧ i = i0 + 1) (P' := fun r s i => eM T i0 r s i) rfl rfl (by omega) (by omega) xw (Or.inl ⟨i0 + 1, _, s1, by omega, r1, rfl, rfl⟩) ?_ ?_ ?_ ?_ (fun r w2 f2 x2 g2 => kM r w2 (f1.tr f2) x2 g2)
      · rintro s i ⟨rfl, rfl⟩ hi'
        have e : tk (T.2 (i0 + 1)).toInt (1, n, f, t, d, b) = if (T.2 (i0 + 1)).toInt = 59 then some (0, n, f, t, d, b) else beg (T.2 (i0 + 1)).toInt 0 2 (1, n, f, t, d, b) := rfl
        rw [if_neg (by omega), beg] at e
        exact ⟨fun q => by rw [e]; exact if_pos q, fun q => by rw [e]; exact if_neg q⟩
      · rintro s i ⟨rfl, rfl⟩ e
        omega
      · rintro m ⟨f', t', d', b'⟩ c q
        have e : tk c (2, m, f', t', d', b') = if c = 59 then some (0, m, f', t', d', b') else gon c 99999 (2, m, f', t', d', b') := rfl
        have := dg_b q.1
        rw [if_neg (by omega), gon] at e
        rw [e]; exact if_pos q
      · rintro s i m j ⟨rfl, rfl⟩ b1 b2 b3 b4 b5
        refine ⟨⟨rfl, by omega, nsq_tr ns b3, fun hj hne => ?_⟩, Or.inr ⟨rfl, rfl⟩⟩
        have e : tk (T.2 j).toInt (2, m, f, t, d, b) = if (T.2 j).toInt = 59 then some (0, m, f, t, d, b) else gon (T.2 j).toInt 99999 (2, m, f, t, d, b) := rfl
        rw [if_neg (fun q => hne (is59 q)), gon] at e
        show tk (T.2 j).toInt (2, m, f, t, d, b) = none
        rw [e]; exact if_neg (b5 hj)
    · have e : tk (T.2 (i0 + 1)).toInt (1, n, f, t, d, b) = if (T.2 (i0 + 1)).toInt = 59 then some (0, n, f, t, d, b) else beg (T.2 (i0 + 1)).toInt 0 2 (1, n, f, t, d, b) := rfl
      rw [if_neg (fun q => hne (is59 q)), beg] at e
      rw [e]
      refine if_neg (fun q => c ⟨j2, dg_b q.1⟩)
  · refine m_sgn 48 57 (P := fun s i => s = (0, n, f, t, d, b) ∧ i = i0) (P' := fun r s i => q3 T i0 3 (r - 48) s i) rfl rfl ⟨by omega, by omega⟩ ⟨by omega, by omega⟩ (by omega) x (Or.inl ⟨i0, _, h, hi, hr, rfl, rfl⟩) ?_ ?_ (fun r1 w1 f1 x1' g1 => ?_)
    · rintro s i ⟨rfl, rfl⟩ hi' c1 c2
      have d1 : dg (T.2 i).toInt = true := decide_eq_true (by omega)
      obtain ⟨e1, e2, e3⟩ := dg_e d1
      exact ⟨_, by rw [tk0, if_neg (by omega), if_pos d1], n, _, t, d, b, rfl, e1, by omega, nsq_1 (by omega)⟩
    · rintro s i ⟨rfl, rfl⟩
      refine ⟨fun _ => rfl, fun hi' c' => ?_⟩
      rw [tk0, if_neg (fun q => c ⟨hi', by omega, by omega⟩), if_neg (fun q => c' (dg_b q))]
    · refine m_sgn 45 45 (P' := fun _ s i => q3 T i0 4 (r1 - 48) s i) rfl rfl ⟨by omega, by omega⟩ ⟨by omega, by omega⟩ (by omega) x1' g1 ?_ ?_ (fun r2 w2 f2 x2' g2 => ?_)
      · rintro s i ⟨n, f, t, d, b, rfl, a1, a2, a3⟩ hi' c1 c2
        have e : tk (T.2 i).toInt (3, n, f, t, d, b) = if (T.2 i).toInt = 45 then some (4, n, f, t, d, b) else none := rfl
        exact ⟨_, by rw [e, if_pos (by omega)], n, f, t, d, b, rfl, a1, by omega, nsq_tr a3 (nsq_1 (by omega))⟩
      · rintro s i ⟨n, f, t, d, b, rfl, a1, a2, a3⟩
        refine ⟨fun _ => rfl, fun hi' c' => ?_⟩
        have e : tk (T.2 i).toInt (3, n, f, t, d, b) = if (T.2 i).toInt = 45 then some (4, n, f, t, d, b) else none := rfl
        rw [e, if_neg (by omega)]
      · refine m_sgn 48 57 (P' := fun r s i => ∃ b, q5 T i0 5 (r1 - 48) (r - 48) b s i) rfl rfl ⟨by omega, by omega⟩ ⟨by omega, by omega⟩ (by omega) x2' g2 ?_ ?_ (fun r3 w3 f3 x3' g3 => ?_)
        · rintro s i ⟨n, f, t, d, b, rfl, a1, a2, a3⟩ hi' c1 c2
          have e : tk (T.2 i).toInt (4, n, f, t, d, b) = if dg (T.2 i).toInt = true then some (5, n, f, ((T.2 i).toInt - 48).toNat, d, b) else none := rfl
          have d1 : dg (T.2 i).toInt = true := decide_eq_true (by omega)
          obtain ⟨e1, e2, e3⟩ := dg_e d1
          exact ⟨_, by rw [e, if_pos d1], b, n, f, _, d, rfl, a1, e1, by omega, nsq_tr a3 (nsq_1 (by omega))⟩
        · rintro s i ⟨n, f, t, d, b, rfl, a1, a2, a3⟩
          refine ⟨fun _ => rfl, fun hi' c' => ?_⟩
          have e : tk (T.2 i).toInt (4, n, f, t, d, b) = if dg (T.2 i).toInt = true then some (5, n, f, ((T.2 i).toInt - 48).toNat, d, b) else none := rfl
          rw [e, if_neg (fun q => c' (dg_b q))]
        · refine m_sgn 58 58 (P' := fun _ s i => q5 T i0 6 (r1 - 48) (r3 - 48) false s i) rfl rfl ⟨by omega, by omega⟩ ⟨by omega, by omega⟩ (by omega) x3' g3 ?_ ?_ (fun r4 w4 f4 x4' g4 => ?_)
          · rintro s i ⟨b, n, f, t, d, rfl, a1, a2, a3, a4⟩ hi' c1 c2
            have e : tk (T.2 i).toInt (5, n, f, t, d, b) = if (T.2 i).toInt = 58 then some (6, n, f, t, d, false) else none := rfl
            exact ⟨_, by rw [e, if_pos (by omega)], n, f, t, d, rfl, a1, a2, by omega, nsq_tr a4 (nsq_1 (by omega))⟩
          · rintro s i ⟨b, n, f, t, d, rfl, a1, a2, a3, a4⟩
            refine ⟨fun _ => rfl, fun hi' c' => ?_⟩
            have e : tk (T.2 i).toInt (5, n, f, t, d, b) = if (T.2 i).toInt = 58 then some (6, n, f, t, d, false) else none := rfl
            rw [e, if_neg (by omega)]
          · have ff := ((f1.tr f2).tr f3).tr f4
            have fin : ∀ d l w', pf w4 w' → mX w' T → gd w' T (eL T i0 (r1 - 48) (r3 - 48) d l) → wp_X9_entry_J208 x1 (r1 - 48) (r3 - 48) l d w' Q := fun d l w' f' x' g' => kL _ _ _ _ w' (ff.tr f') x' g'
            unfold wp_X9_entry_J146 wp_X9_entry_J147
            rcases g4 with ⟨i, s, a, bi, c', e⟩ | ⟨i, a, bi⟩
            · rw [a.2]
              refine ⟨fun z => absurd rfl z, fun _ => m_isNext 45 45 rfl rfl ⟨by omega, by omega⟩ ⟨by omega, by omega⟩ x4' a bi (fun j1 c1 c2 => ⟨fun z => absurd z (by decide), fun _ => ⟨fun z => absurd z (by decide), fun _ => ?_⟩⟩) (fun c0 => ⟨fun _ => ⟨fun _ => m_J166 x4' (Or.inl ⟨i, s, a, bi, c', Or.inl ⟨rfl, e, fun hi' q => c0 ⟨hi', by omega, by omega⟩⟩⟩) fin, fun z => absurd rfl z⟩, fun z => absurd rfl z⟩)⟩
              refine m_sign_in 45 45 rfl rfl ⟨by omega, by omega⟩ ⟨by omega, by omega⟩ x4' a j1 c1 c2 (fun w5 f5 s5 => ?_)
              obtain ⟨n, f, t, d, rfl, a1, a2, a3, a4⟩ := e
              have e' : tk (T.2 i).toInt (6, n, f, t, d, false) = if (T.2 i).toInt = 45 then some (7, n, f, t, d, true) else beg (T.2 i).toInt 0 8 (6, n, f, t, d, false) := rfl
              refine m_J166 (mX_pf x4' f5) (Or.inl ⟨i + 1, (7, n, f, t, d, true), s5, by omega, ⟨_, c', by rw [e', if_pos (by omega)]⟩, Or.inr ⟨rfl, n, f, t, d, rfl, a1, a2, by omega, nsq_tr a4 (nsq_1 (by omega))⟩⟩) (fun d l w' f' x' g' => fin d l w' (f5.tr f') x' g')
            · rw [a.2]
              refine ⟨fun _ => ⟨fun _ => m_J166 x4' (Or.inr ⟨i, a, bi⟩) fin, fun z => absurd rfl z⟩, fun z => absurd z (by decide)⟩
