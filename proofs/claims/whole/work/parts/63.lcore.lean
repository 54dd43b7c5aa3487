/-! THE LAW: pure steps, and rows of its walk -/
theorem okM_ge {w w' : Wd} {σ : Ss} (h : okM w σ) (k : ∀ b, 32 ≤ b → ∀ j, wi w' 0 b j = wi w 0 b j) : okM w' σ := by
  obtain ⟨a, b, ⟨c1, c2, c3⟩, d⟩ := h
  have e33 : wi w' 0 33 = wi w 0 33 := funext (k 33 (by omega))
  refine ⟨a, ?_, ⟨by rw [k 32 (by omega)]; exact c1, c2, fun i hi => ⟨(c3 i hi).1, ?_⟩⟩, mX_of d (k 32 (by omega) 6) (k 36 (by omega))⟩
  · unfold sS; rw [e33]; exact b
  · have e : (fun j => wi w' 0 35 (95 * i + j)) = fun j => wi w 0 35 (95 * i + j) := funext (fun j => k 35 (by omega) _)
    rw [e]; exact (c3 i hi).2
theorem okC_kM {w w' : Wd} {σ : Ss} (h : okC w σ) (k : kM w w') : okC w' σ := by
  obtain ⟨a, b, c, d⟩ := h
  refine ⟨a, b.of (fun o ho j => k.1 0 o (by omega) j), c.of (fun n o hn j => k.1 n o (by omega) j) (k.1 0 27 (by omega) 0) k.2.1, ?_⟩
  exact ⟨(k.1 0 29 (by omega) 0).trans d.1, d.2.1, fun i hi => (k.1 0 30 (by omega) i).trans (d.2.2 i hi)⟩
/-- behind a helper: the place, and the answer in the row of longs -/
def HQ (p : Nat) (ans : Int32) (σ σ' : Ss) (k : Int32) (w1 : Wd) : Prop := k = nI p ∧ okM w1 σ ∧ (p = 0 → wl w1 1 = ans.toInt64 ∧ okC w1 σ') ∧ (p ≠ 0 → okC w1 σ)
/-- behind the reference's call -/
def GQ (p : Nat) (ans : Int32) (σ σ' : Ss) (r : Int32) (w2 : Wd) : Prop := wi w2 0 32 0 = nI p ∧ (p = 0 → r = ans ∧ wl w2 1 = ans.toInt64 ∧ okC w2 σ' ∧ okM w2 σ') ∧ (p ≠ 0 → okC w2 σ ∧ okM w2 σ)
theorem HQ_0 {w w1 : Wd} {σ σ' : Ss} {p : Nat} {ans : Int32} (hM : okM w σ) (hC : okC w1 σ') (k : kC w w1) (e : p = 0) : HQ p ans σ σ' 0 (sL w1 1 ans.toInt64) :=
  ⟨by rw [e]; rfl, okM_ge hM (fun b hb j => k.1 b hb j), fun _ => ⟨by rw [wl_sL, if_pos rfl], hC⟩, fun z => absurd e z⟩
theorem HQ_x {w w1 : Wd} {σ σ' : Ss} {p n : Nat} {ans : Int32} (hM : okM w σ) (hC : okC w1 σ) (k : kC w w1) (hn : n ≠ 0) (e : p = n) : HQ p ans σ σ' (nI n) w1 :=
  ⟨by rw [e], okM_ge hM (fun b hb j => k.1 b hb j), fun z => absurd (e.symm.trans z) hn, fun _ => hC⟩
theorem GQ_0 {w w2 : Wd} {σ σ' : Ss} {p : Nat} {ans k : Int32} (h : HQ p ans σ σ' k w) (e : p = 0) (kw : kM w w2) (t : wi w2 0 32 0 = nI 0) (ok : okM w2 σ') : GQ p ans σ σ' ans w2 :=
  ⟨by rw [t, e], fun _ => ⟨rfl, (kw.2.2 1 (by omega)).trans (h.2.2.1 e).1, okC_kM (h.2.2.1 e).2 kw, ok⟩, fun z => absurd e z⟩
theorem GQ_x {w w2 : Wd} {σ σ' : Ss} {p : Nat} {ans k r : Int32} (h : HQ p ans σ σ' k w) (e : p ≠ 0) (kw : kM w w2) (t : wi w2 0 32 0 = nI p) (ok : okM w2 σ) : GQ p ans σ σ' r w2 :=
  ⟨t, fun z => absurd z e, fun _ => ⟨okC_kM (h.2.2.2 e) kw, ok⟩⟩
def D_L_law : Md := (yL_law, code, 9, ret, wsL_law, RL, room_1)
/-- what the law's walk knows of its machine: no traces, what the throws need, the script -/
def lawE (G : Gt) (M : Mx) (b L : Nat) (xs : Nat → Int32) : Prop := G.1.stackTraces = false ∧ xz G (mS M) ∧ ncU (mS M) ∧ va_X b L xs (mS M) (mS M).heap ∧ b < (mS M).heap.size ∧ ¬ aG G b ∧ L ≤ 2560
theorem lawE_M1 {G : Gt} {M : Mx} {b L k n : Nat} {xs : Nat → Int32} (h : lawE G M b L xs) : lawE G (M1 M k n) b L xs := h
section LawR
variable {G : Gt} {M : Mx} {Qf : State → Prop} {pc b Ls : Nat} {xs : Nat → Int32} {L : List (Nat × Value)} {rest : List Value} {w : Wd}
theorem jq_sld {i : Int32} (hdg : decode D_L_law.2.1 pc = .ok (.iaload, 1)) (hC : cx G D_L_law M) (hE : lawE G M b Ls xs) (hin : vp_in i Ls) (k : jq G D_L_law M Qf (pc + 1) L (.int (xs i.toNatClampNeg) :: rest) w) : jq G D_L_law M Qf pc L (.int i :: .ref b :: rest) w := fun H locs ls h1 h2 h3 => va_sld hC.x hC.b hE.2.2.2.1 hE.2.2.2.2.1 hE.2.2.2.2.2.1 h2 hin hdg (k H locs ls h1 h2 h3)
/-- script[i + c] -/
theorem jq_arg {i c k0 k4 : Nat} {ci : Int} (d0 : decode D_L_law.2.1 pc = .ok (.aload_n 0, 1)) (d1 : decode D_L_law.2.1 (pc + 1) = .ok (.iload 4, 2)) (d3 : decode D_L_law.2.1 (pc + 3) = .ok (.iconst ci, 1)) (d4 : decode D_L_law.2.1 (pc + 4) = .ok (.iadd, 1)) (d5 : decode D_L_law.2.1 (pc + 5) = .ok (.iaload, 1)) (hci : Int32.ofInt ci = nI c) (hC : cx G D_L_law M) (hE : lawE G M b Ls xs) (hi : i + c < Ls) (h0 : L[k0]? = some (0, .ref b)) (h4 : L[k4]? = some (4, .int (nI i))) (k : jq G D_L_law M Qf (pc + 6) L (.int (xs (i + c)) :: rest) w) : jq G D_L_law M Qf pc L rest w := by
  have hL := hE.2.2.2.2.2.2
  refine jq_aload_n (k0 := k0) d0 hC rfl h0 ?_
  refine jq_iload (k0 := k4) d1 hC h4 ?_
  refine jq_iconst d3 hC hci ?_
  refine jq_iadd d4 hC ?_
  rw [nI_add]
  refine jq_sld d5 hC hE (n_in (by omega) (by omega)) ?_
  rw [n_cl (by omega)]
  exact k
theorem lgc_self (x : Int64) : lg_cmp x x = 0 := by
  unfold lg_cmp
  simp
/-- behind both calls: the places agree, and the answers where there is no throw -/
theorem jq_tail {i : Int32} {p : Nat} {ans k r : Int32} {σ σ' : Ss} (d0 : decode D_L_law.2.1 pc = .ok (.aload_n 2, 1)) (d1 : decode D_L_law.2.1 (pc + 1) = .ok (.invokevirtual 87, 3)) (d4 : decode D_L_law.2.1 (pc + 4) = .ok (.iload 5, 2)) (d6 : decode D_L_law.2.1 (pc + 6) = .ok (.if_icmp .eq 5, 3)) (d11 : decode D_L_law.2.1 (pc + 11) = .ok (.iload 5, 2)) (d13 : decode D_L_law.2.1 (pc + 13) = .ok (.ifCond .ne 15, 3)) (d16 : decode D_L_law.2.1 (pc + 16) = .ok (.aload_n 3, 1)) (d17 : decode D_L_law.2.1 (pc + 17) = .ok (.iconst 0, 1)) (d18 : decode D_L_law.2.1 (pc + 18) = .ok (.laload, 1)) (d19 : decode D_L_law.2.1 (pc + 19) = .ok (.iload 6, 2)) (d21 : decode D_L_law.2.1 (pc + 21) = .ok (.i2l, 1)) (d22 : decode D_L_law.2.1 (pc + 22) = .ok (.lcmp, 1)) (d23 : decode D_L_law.2.1 (pc + 23) = .ok (.ifCond .eq 5, 3)) {off : Int} (d28 : decode D_L_law.2.1 (pc + 28) = .ok (.goto off, 3)) (ht : ((pc + 28 : Nat) : Int) + off = 1443)
    (hC : cx G D_L_law M) (hp : p < 10) (hk : k = nI p) (h : GQ p ans σ σ' r w) (kk : ∀ σ2, okC w σ2 → okM w σ2 → jq G D_L_law M Qf 1443 [(6, .int r), (5, .int k), (0, .ref b), (1, .ref (aD G 0 26)), (2, .ref (aD G 0 32)), (3, .ref (aD G 0 51)), (4, .int i)] [] w) : jq G D_L_law M Qf pc [(6, .int r), (5, .int k), (0, .ref b), (1, .ref (aD G 0 26)), (2, .ref (aD G 0 32)), (3, .ref (aD G 0 51)), (4, .int i)] [] w := by
  obtain ⟨t, g0, gx⟩ := h
  refine jq_aload_n (k0 := 4) d0 hC rfl rfl ?_
  refine jq_callV (As := []) (rest := []) (n := 0) (o := 32) (D' := D_X9_thrown) (Q := qip w (fun x => x = nI p)) d1 hC (cl_0 (by decide)) rfl rfl rfl (mt_X9_thrown (by unfold wp_X9_thrown; exact t)) gL_law_X9_thrown rfl ⟨rfl, rfl, Nat.le_of_ble_eq_true rfl, Nat.le_of_ble_eq_true rfl⟩ nm_X9_thrown rfl (Nat.le_of_ble_eq_true rfl) (kIp fun x hx => ?_)
  subst hx
  refine jq_iload (k0 := 1) d4 hC rfl ?_
  refine jq_icmp_eq (tgt := pc + 11) d6 hC (by omega) (fun _ => ?_) (fun z => absurd hk.symm z)
  refine jq_iload (k0 := 1) d11 hC rfl ?_
  refine jq_if_ne (tgt := pc + 28) d13 hC (by omega) (fun z => ?_) (fun z => ?_)
  · have pz : p ≠ 0 := fun y => z (by rw [hk, y]; rfl)
    exact jq_goto (tgt := 1443) d28 hC ht (kk σ (gx pz).1 (gx pz).2)
  · have pz : p = 0 := (n_eq (by omega) (by omega)).mp (hk.symm.trans z)
    obtain ⟨rfl, e2, e3, e4⟩ := g0 pz
    refine jq_aload_n (k0 := 5) d16 hC rfl rfl ?_
    refine jq_iconst (v := 0) d17 hC (by decide) ?_
    refine jq_lald (n := 0) (o := 51) (len := 1) (f := fun j => wl w (j + 1)) (i := 0) (j := 0) d18 hC (cl_0 (by decide)) rfl (vin (by decide)) rfl ?_
    refine jq_iload (k0 := 0) d19 hC rfl ?_
    refine jq_i2l d21 hC ?_
    refine jq_lcmp d22 hC ?_
    have e5 : lg_cmp (wl w (0 + 1)) r.toInt64 = 0 := by rw [show wl w (0 + 1) = r.toInt64 from e2]; exact lgc_self _
    refine jq_if_eq (tgt := pc + 28) d23 hC (by omega) (fun _ => jq_goto (tgt := 1443) d28 hC ht (kk σ' e3 e4)) (fun z => absurd e5 z)
end LawR
theorem h_addMark {p0 : Int32} {w : Wd} {σ : Ss} (hC : okC w σ) (hM : okM w σ) : wp_X8_addMark p0 w (fun r w1 => HQ (pAddMark σ.1 p0) (nI (nM σ.1)) σ (addM σ.1 p0.toInt, psh σ.2.1 σ.1, σ.2.2) 0 (sL w1 1 r.toInt64)) (fun E w1 => (E = "java/lang/IllegalArgumentException" ∧ HQ (pAddMark σ.1 p0) (nI (nM σ.1)) σ (addM σ.1 p0.toInt, psh σ.2.1 σ.1, σ.2.2) 1 w1) ∨ (E = "java/lang/IllegalStateException" ∧ HQ (pAddMark σ.1 p0) (nI (nM σ.1)) σ (addM σ.1 p0.toInt, psh σ.2.1 σ.1, σ.2.2) 2 w1)) := by
  exact c_addMark hC (fun e w1 kw okw => HQ_0 hM okw kw e) (fun e => Or.inl ⟨rfl, HQ_x (n := 1) hM hC kC.rf (by decide) e⟩) (fun e => Or.inr ⟨rfl, HQ_x (n := 2) hM hC kC.rf (by decide) e⟩)
theorem g_addMark {p0 : Int32} {w : Wd} {σ : Ss} {k : Int32} (h : HQ (pAddMark σ.1 p0) (nI (nM σ.1)) σ (addM σ.1 p0.toInt, psh σ.2.1 σ.1, σ.2.2) k w) : wp_X9_addMark p0 w (GQ (pAddMark σ.1 p0) (nI (nM σ.1)) σ (addM σ.1 p0.toInt, psh σ.2.1 σ.1, σ.2.2)) :=
  m_addMark h.2.1 (fun e w2 kw t ok => GQ_0 h e kw t ok) (fun e r w2 kw t ok => GQ_x h e kw t ok)
theorem h_know {p0 p1 : Int32} {w : Wd} {σ : Ss} (hC : okC w σ) (hM : okM w σ) : wp_X8_know p0 p1 w (fun r w1 => HQ (pKnow σ.1 p0 p1) (iI (kn σ.1 (xN p0))) σ (knoM σ.1 (xN p0) p1.toInt, psh σ.2.1 σ.1, σ.2.2) 0 (sL w1 1 r.toInt64)) (fun E w1 => (E = "java/lang/IndexOutOfBoundsException" ∧ HQ (pKnow σ.1 p0 p1) (iI (kn σ.1 (xN p0))) σ (knoM σ.1 (xN p0) p1.toInt, psh σ.2.1 σ.1, σ.2.2) 1 w1) ∨ (E = "java/lang/IllegalArgumentException" ∧ HQ (pKnow σ.1 p0 p1) (iI (kn σ.1 (xN p0))) σ (knoM σ.1 (xN p0) p1.toInt, psh σ.2.1 σ.1, σ.2.2) 2 w1)) := by
  exact c_know hC (fun e w1 kw okw => HQ_0 hM okw kw e) (fun e => Or.inl ⟨rfl, HQ_x (n := 1) hM hC kC.rf (by decide) e⟩) (fun e => Or.inr ⟨rfl, HQ_x (n := 2) hM hC kC.rf (by decide) e⟩)
theorem g_know {p0 p1 : Int32} {w : Wd} {σ : Ss} {k : Int32} (h : HQ (pKnow σ.1 p0 p1) (iI (kn σ.1 (xN p0))) σ (knoM σ.1 (xN p0) p1.toInt, psh σ.2.1 σ.1, σ.2.2) k w) : wp_X9_know p0 p1 w (GQ (pKnow σ.1 p0 p1) (iI (kn σ.1 (xN p0))) σ (knoM σ.1 (xN p0) p1.toInt, psh σ.2.1 σ.1, σ.2.2)) :=
  m_know h.2.1 (fun e w2 kw t ok => GQ_0 h e kw t ok) (fun e r w2 kw t ok => GQ_x h e kw t ok)
theorem h_accept {p0 : Int32} {w : Wd} {σ : Ss} (hC : okC w σ) (hM : okM w σ) : wp_X8_accept p0 w (fun r w1 => HQ (pAccept σ.1 p0) (iI (hgt σ.1 (xN p0))) σ (knoM σ.1 (xN p0) (hgt σ.1 (xN p0)), psh σ.2.1 σ.1, σ.2.2) 0 (sL w1 1 r.toInt64)) (fun E w1 => (E = "java/lang/IndexOutOfBoundsException" ∧ HQ (pAccept σ.1 p0) (iI (hgt σ.1 (xN p0))) σ (knoM σ.1 (xN p0) (hgt σ.1 (xN p0)), psh σ.2.1 σ.1, σ.2.2) 1 w1) ∨ (E = "java/lang/IllegalStateException" ∧ HQ (pAccept σ.1 p0) (iI (hgt σ.1 (xN p0))) σ (knoM σ.1 (xN p0) (hgt σ.1 (xN p0)), psh σ.2.1 σ.1, σ.2.2) 2 w1)) := by
  exact c_accept hC (fun e w1 kw okw => HQ_0 hM okw kw e) (fun e => Or.inl ⟨rfl, HQ_x (n := 1) hM hC kC.rf (by decide) e⟩) (fun e => Or.inr ⟨rfl, HQ_x (n := 2) hM hC kC.rf (by decide) e⟩)
theorem g_accept {p0 : Int32} {w : Wd} {σ : Ss} {k : Int32} (h : HQ (pAccept σ.1 p0) (iI (hgt σ.1 (xN p0))) σ (knoM σ.1 (xN p0) (hgt σ.1 (xN p0)), psh σ.2.1 σ.1, σ.2.2) k w) : wp_X9_accept p0 w (GQ (pAccept σ.1 p0) (iI (hgt σ.1 (xN p0))) σ (knoM σ.1 (xN p0) (hgt σ.1 (xN p0)), psh σ.2.1 σ.1, σ.2.2)) :=
  m_accept h.2.1 (fun e w2 kw t ok => GQ_0 h e kw t ok) (fun e r w2 kw t ok => GQ_x h e kw t ok)
theorem h_addLeg {p0 p1 p2 p3 : Int32} {w : Wd} {σ : Ss} (hC : okC w σ) (hM : okM w σ) : wp_X8_addLeg p0 p1 p2 p3 w (fun r w1 => HQ (pAddLeg σ.1 p0 p1 p2 p3) (nI (nL σ.1)) σ (addL σ.1 (xN p0) (xN p1) p2.toInt (xN p3), psh σ.2.1 σ.1, σ.2.2) 0 (sL w1 1 r.toInt64)) (fun E w1 => (E = "java/lang/IndexOutOfBoundsException" ∧ HQ (pAddLeg σ.1 p0 p1 p2 p3) (nI (nL σ.1)) σ (addL σ.1 (xN p0) (xN p1) p2.toInt (xN p3), psh σ.2.1 σ.1, σ.2.2) 1 w1) ∨ (E = "java/lang/IllegalArgumentException" ∧ HQ (pAddLeg σ.1 p0 p1 p2 p3) (nI (nL σ.1)) σ (addL σ.1 (xN p0) (xN p1) p2.toInt (xN p3), psh σ.2.1 σ.1, σ.2.2) 2 w1) ∨ (E = "java/lang/IllegalStateException" ∧ HQ (pAddLeg σ.1 p0 p1 p2 p3) (nI (nL σ.1)) σ (addL σ.1 (xN p0) (xN p1) p2.toInt (xN p3), psh σ.2.1 σ.1, σ.2.2) 3 w1)) := by
  exact c_addLeg hC (fun e w1 kw okw => HQ_0 hM okw kw e) (fun e => Or.inl ⟨rfl, HQ_x (n := 1) hM hC kC.rf (by decide) e⟩) (fun e => Or.inr (Or.inl ⟨rfl, HQ_x (n := 2) hM hC kC.rf (by decide) e⟩)) (fun e => Or.inr (Or.inr ⟨rfl, HQ_x (n := 3) hM hC kC.rf (by decide) e⟩))
theorem g_addLeg {p0 p1 p2 p3 : Int32} {w : Wd} {σ : Ss} {k : Int32} (h : HQ (pAddLeg σ.1 p0 p1 p2 p3) (nI (nL σ.1)) σ (addL σ.1 (xN p0) (xN p1) p2.toInt (xN p3), psh σ.2.1 σ.1, σ.2.2) k w) : wp_X9_addLeg p0 p1 p2 p3 w (GQ (pAddLeg σ.1 p0 p1 p2 p3) (nI (nL σ.1)) σ (addL σ.1 (xN p0) (xN p1) p2.toInt (xN p3), psh σ.2.1 σ.1, σ.2.2)) :=
  m_addLeg h.2.1 (fun e w2 kw t ok => GQ_0 h e kw t ok) (fun e r w2 kw t ok => GQ_x h e kw t ok)
theorem h_measure {p0 p1 : Int32} {w : Wd} {σ : Ss} (hC : okC w σ) (hM : okM w σ) : wp_X8_measure p0 p1 w (fun r w1 => HQ (pMeasure σ.1 p0 p1) (iI (smm σ.1 - smm (meaL σ.1 (xN p0) p1.toInt) + 1000000)) σ (meaL σ.1 (xN p0) p1.toInt, psh σ.2.1 σ.1, σ.2.2) 0 (sL w1 1 r.toInt64)) (fun E w1 => (E = "java/lang/IndexOutOfBoundsException" ∧ HQ (pMeasure σ.1 p0 p1) (iI (smm σ.1 - smm (meaL σ.1 (xN p0) p1.toInt) + 1000000)) σ (meaL σ.1 (xN p0) p1.toInt, psh σ.2.1 σ.1, σ.2.2) 1 w1) ∨ (E = "java/lang/IllegalArgumentException" ∧ HQ (pMeasure σ.1 p0 p1) (iI (smm σ.1 - smm (meaL σ.1 (xN p0) p1.toInt) + 1000000)) σ (meaL σ.1 (xN p0) p1.toInt, psh σ.2.1 σ.1, σ.2.2) 2 w1)) := by
  exact c_measure hC (fun e w1 kw okw => HQ_0 hM okw kw e) (fun e => Or.inl ⟨rfl, HQ_x (n := 1) hM hC kC.rf (by decide) e⟩) (fun e => Or.inr ⟨rfl, HQ_x (n := 2) hM hC kC.rf (by decide) e⟩)
theorem g_measure {p0 p1 : Int32} {w : Wd} {σ : Ss} {k : Int32} (h : HQ (pMeasure σ.1 p0 p1) (iI (smm σ.1 - smm (meaL σ.1 (xN p0) p1.toInt) + 1000000)) σ (meaL σ.1 (xN p0) p1.toInt, psh σ.2.1 σ.1, σ.2.2) k w) : wp_X9_measure p0 p1 w (GQ (pMeasure σ.1 p0 p1) (iI (smm σ.1 - smm (meaL σ.1 (xN p0) p1.toInt) + 1000000)) σ (meaL σ.1 (xN p0) p1.toInt, psh σ.2.1 σ.1, σ.2.2)) :=
  m_measure h.2.1 (fun e w2 kw t ok => GQ_0 h e kw t ok) (fun e r w2 kw t ok => GQ_x h e kw t ok)
theorem h_turn {p0 : Int32} {w : Wd} {σ : Ss} (hC : okC w σ) (hM : okM w σ) : wp_X8_turn p0 w (fun r w1 => HQ (pLeg1 σ.1 p0) (nI (tO σ.1 (xN p0))) σ (turL σ.1 (xN p0), psh σ.2.1 σ.1, σ.2.2) 0 (sL w1 1 r.toInt64)) (fun E w1 => (E = "java/lang/IndexOutOfBoundsException" ∧ HQ (pLeg1 σ.1 p0) (nI (tO σ.1 (xN p0))) σ (turL σ.1 (xN p0), psh σ.2.1 σ.1, σ.2.2) 1 w1)) := by
  exact c_turn hC (fun e w1 kw okw => HQ_0 hM okw kw e) (fun e => ⟨rfl, HQ_x (n := 1) hM hC kC.rf (by decide) e⟩)
theorem g_turn {p0 : Int32} {w : Wd} {σ : Ss} {k : Int32} (h : HQ (pLeg1 σ.1 p0) (nI (tO σ.1 (xN p0))) σ (turL σ.1 (xN p0), psh σ.2.1 σ.1, σ.2.2) k w) : wp_X9_turn p0 w (GQ (pLeg1 σ.1 p0) (nI (tO σ.1 (xN p0))) σ (turL σ.1 (xN p0), psh σ.2.1 σ.1, σ.2.2)) :=
  m_turn h.2.1 (fun e w2 kw t ok => GQ_0 h e kw t ok) (fun e r w2 kw t ok => GQ_x h e kw t ok)
theorem h_removeLeg {p0 : Int32} {w : Wd} {σ : Ss} (hC : okC w σ) (hM : okM w σ) : wp_X8_removeLeg p0 w (fun r w1 => HQ (pLeg1 σ.1 p0) (nI (nlp (drpL σ.1 (xN p0)))) σ (drpL σ.1 (xN p0), psh σ.2.1 σ.1, σ.2.2) 0 (sL w1 1 r.toInt64)) (fun E w1 => (E = "java/lang/IndexOutOfBoundsException" ∧ HQ (pLeg1 σ.1 p0) (nI (nlp (drpL σ.1 (xN p0)))) σ (drpL σ.1 (xN p0), psh σ.2.1 σ.1, σ.2.2) 1 w1)) := by
  exact c_removeLeg hC (fun e w1 kw okw => HQ_0 hM okw kw e) (fun e => ⟨rfl, HQ_x (n := 1) hM hC kC.rf (by decide) e⟩)
theorem g_removeLeg {p0 : Int32} {w : Wd} {σ : Ss} {k : Int32} (h : HQ (pLeg1 σ.1 p0) (nI (nlp (drpL σ.1 (xN p0)))) σ (drpL σ.1 (xN p0), psh σ.2.1 σ.1, σ.2.2) k w) : wp_X9_removeLeg p0 w (GQ (pLeg1 σ.1 p0) (nI (nlp (drpL σ.1 (xN p0)))) σ (drpL σ.1 (xN p0), psh σ.2.1 σ.1, σ.2.2)) :=
  m_removeLeg h.2.1 (fun e w2 kw t ok => GQ_0 h e kw t ok) (fun e r w2 kw t ok => GQ_x h e kw t ok)
theorem h_set {p0 p1 : Int32} {w : Wd} {σ : Ss} (hC : okC w σ) (hM : okM w σ) : wp_X8_set p0 p1 w (fun r w1 => HQ (pSet p0 p1) (iI (st σ.1 (xN p0))) σ (setS σ.1 (xN p0) p1.toInt, psh σ.2.1 σ.1, σ.2.2) 0 (sL w1 1 r.toInt64)) (fun E w1 => (E = "java/lang/IndexOutOfBoundsException" ∧ HQ (pSet p0 p1) (iI (st σ.1 (xN p0))) σ (setS σ.1 (xN p0) p1.toInt, psh σ.2.1 σ.1, σ.2.2) 1 w1) ∨ (E = "java/lang/IllegalArgumentException" ∧ HQ (pSet p0 p1) (iI (st σ.1 (xN p0))) σ (setS σ.1 (xN p0) p1.toInt, psh σ.2.1 σ.1, σ.2.2) 2 w1)) := by
  exact c_set hC (fun e w1 kw okw => HQ_0 hM okw kw e) (fun e => Or.inl ⟨rfl, HQ_x (n := 1) hM hC kC.rf (by decide) e⟩) (fun e => Or.inr ⟨rfl, HQ_x (n := 2) hM hC kC.rf (by decide) e⟩)
theorem g_set {p0 p1 : Int32} {w : Wd} {σ : Ss} {k : Int32} (h : HQ (pSet p0 p1) (iI (st σ.1 (xN p0))) σ (setS σ.1 (xN p0) p1.toInt, psh σ.2.1 σ.1, σ.2.2) k w) : wp_X9_set p0 p1 w (GQ (pSet p0 p1) (iI (st σ.1 (xN p0))) σ (setS σ.1 (xN p0) p1.toInt, psh σ.2.1 σ.1, σ.2.2)) :=
  m_set h.2.1 (fun e w2 kw t ok => GQ_0 h e kw t ok) (fun e r w2 kw t ok => GQ_x h e kw t ok)
theorem h_append {p0 : Int32} {w : Wd} {σ : Ss} (hC : okC w σ) (hM : okM w σ) : wp_X8_append p0 w (fun r w1 => HQ (pAppend σ.2.2 p0) (nI (σ.2.2.1 + 1)) σ (σ.1, σ.2.1, putT σ.2.2 p0) 0 (sL w1 1 r.toInt64)) (fun E w1 => (E = "java/lang/IllegalArgumentException" ∧ HQ (pAppend σ.2.2 p0) (nI (σ.2.2.1 + 1)) σ (σ.1, σ.2.1, putT σ.2.2 p0) 1 w1) ∨ (E = "java/lang/IllegalStateException" ∧ HQ (pAppend σ.2.2 p0) (nI (σ.2.2.1 + 1)) σ (σ.1, σ.2.1, putT σ.2.2 p0) 2 w1)) := by
  exact c_append hC (fun e w1 kw okw => HQ_0 hM okw kw e) (fun e => Or.inl ⟨rfl, HQ_x (n := 1) hM hC kC.rf (by decide) e⟩) (fun e => Or.inr ⟨rfl, HQ_x (n := 2) hM hC kC.rf (by decide) e⟩)
theorem g_append {p0 : Int32} {w : Wd} {σ : Ss} {k : Int32} (h : HQ (pAppend σ.2.2 p0) (nI (σ.2.2.1 + 1)) σ (σ.1, σ.2.1, putT σ.2.2 p0) k w) : wp_X9_append p0 w (GQ (pAppend σ.2.2 p0) (nI (σ.2.2.1 + 1)) σ (σ.1, σ.2.1, putT σ.2.2 p0)) :=
  m_append h.2.1 (fun e w2 kw t ok => GQ_0 h e kw t ok) (fun e r w2 kw t ok => GQ_x h e kw t ok)
theorem h_book {w : Wd} {σ : Ss} (hC : okC w σ) (hM : okM w σ) : wp_X8_book  w (fun r w1 => HQ (pBook σ.2.2) (nI (bk σ.2.2 σ.1 σ.2.2.1).2.1) σ ((bk σ.2.2 σ.1 σ.2.2.1).1, psh σ.2.1 σ.1, (0, σ.2.2.2)) 0 (sL w1 1 r.toInt64)) (fun E w1 => (E = "java/lang/IllegalArgumentException" ∧ HQ (pBook σ.2.2) (nI (bk σ.2.2 σ.1 σ.2.2.1).2.1) σ ((bk σ.2.2 σ.1 σ.2.2.1).1, psh σ.2.1 σ.1, (0, σ.2.2.2)) 1 w1)) := by
  exact c_book hC (fun e w1 kw okw => HQ_0 hM okw kw e) (fun e w1 kw okw => ⟨rfl, HQ_x (n := 1) hM okw kw (by decide) e⟩)
theorem g_book {w : Wd} {σ : Ss} {k : Int32} (h : HQ (pBook σ.2.2) (nI (bk σ.2.2 σ.1 σ.2.2.1).2.1) σ ((bk σ.2.2 σ.1 σ.2.2.1).1, psh σ.2.1 σ.1, (0, σ.2.2.2)) k w) : wp_X9_book  w (GQ (pBook σ.2.2) (nI (bk σ.2.2 σ.1 σ.2.2.1).2.1) σ ((bk σ.2.2 σ.1 σ.2.2.1).1, psh σ.2.1 σ.1, (0, σ.2.2.2))) :=
  m_book h.2.1 (fun e w2 kw t ok => GQ_0 h e kw t ok) (fun e r w2 kw t ok => GQ_x h e kw t ok)
theorem h_undo {w : Wd} {σ : Ss} (hC : okC w σ) (hM : okM w σ) : wp_X8_undo  w (fun r w1 => HQ (pUndo σ.2.1) (nI (σ.2.1.1 - 1)) σ (σ.2.1.2 (σ.2.1.1 - 1), (σ.2.1.1 - 1, σ.2.1.2), σ.2.2) 0 (sL w1 1 r.toInt64)) (fun E w1 => (E = "java/lang/IllegalStateException" ∧ HQ (pUndo σ.2.1) (nI (σ.2.1.1 - 1)) σ (σ.2.1.2 (σ.2.1.1 - 1), (σ.2.1.1 - 1, σ.2.1.2), σ.2.2) 1 w1)) := by
  exact c_undo hC (fun e w1 kw okw => HQ_0 hM okw kw e) (fun e => ⟨rfl, HQ_x (n := 1) hM hC kC.rf (by decide) e⟩)
theorem g_undo {w : Wd} {σ : Ss} {k : Int32} (h : HQ (pUndo σ.2.1) (nI (σ.2.1.1 - 1)) σ (σ.2.1.2 (σ.2.1.1 - 1), (σ.2.1.1 - 1, σ.2.1.2), σ.2.2) k w) : wp_X9_undo  w (GQ (pUndo σ.2.1) (nI (σ.2.1.1 - 1)) σ (σ.2.1.2 (σ.2.1.1 - 1), (σ.2.1.1 - 1, σ.2.1.2), σ.2.2)) :=
  m_undo h.2.1 (fun e w2 kw t ok => GQ_0 h e kw t ok) (fun e r w2 kw t ok => GQ_x h e kw t ok)
theorem h_mark {p0 p1 : Int32} {w : Wd} {σ : Ss} (hC : okC w σ) (hM : okM w σ) : wp_X8_mark p0 p1 w (fun r => HQ (pMark σ.1 p0 p1) (oMk σ.1 (xN p0) p1) σ σ 0 (sL w 1 r.toInt64)) (fun E w1 => (E = "java/lang/IndexOutOfBoundsException" ∧ HQ (pMark σ.1 p0 p1) (oMk σ.1 (xN p0) p1) σ σ 1 w1) ∨ (E = "java/lang/IllegalArgumentException" ∧ HQ (pMark σ.1 p0 p1) (oMk σ.1 (xN p0) p1) σ σ 2 w1)) := by
  exact c_mark hC (fun e => HQ_0 hM hC kC.rf e) (fun e => Or.inl ⟨rfl, HQ_x (n := 1) hM hC kC.rf (by decide) e⟩) (fun e => Or.inr ⟨rfl, HQ_x (n := 2) hM hC kC.rf (by decide) e⟩)
theorem g_mark {p0 p1 : Int32} {w : Wd} {σ : Ss} {k : Int32} (h : HQ (pMark σ.1 p0 p1) (oMk σ.1 (xN p0) p1) σ σ k w) : wp_X9_mark p0 p1 w (GQ (pMark σ.1 p0 p1) (oMk σ.1 (xN p0) p1) σ σ) :=
  m_mark h.2.1 (fun e w2 kw t ok => GQ_0 h e kw t ok) (fun e r w2 kw t ok => GQ_x h e kw t ok)
theorem h_leg {p0 p1 : Int32} {w : Wd} {σ : Ss} (hC : okC w σ) (hM : okM w σ) : wp_X8_leg p0 p1 w (fun r => HQ (pLeg σ.1 p0 p1) (oLg σ.1 (xN p0) p1) σ σ 0 (sL w 1 r.toInt64)) (fun E w1 => (E = "java/lang/IndexOutOfBoundsException" ∧ HQ (pLeg σ.1 p0 p1) (oLg σ.1 (xN p0) p1) σ σ 1 w1) ∨ (E = "java/lang/IllegalArgumentException" ∧ HQ (pLeg σ.1 p0 p1) (oLg σ.1 (xN p0) p1) σ σ 2 w1)) := by
  exact c_leg hC (fun e => HQ_0 hM hC kC.rf e) (fun e => Or.inl ⟨rfl, HQ_x (n := 1) hM hC kC.rf (by decide) e⟩) (fun e => Or.inr ⟨rfl, HQ_x (n := 2) hM hC kC.rf (by decide) e⟩)
theorem g_leg {p0 p1 : Int32} {w : Wd} {σ : Ss} {k : Int32} (h : HQ (pLeg σ.1 p0 p1) (oLg σ.1 (xN p0) p1) σ σ k w) : wp_X9_leg p0 p1 w (GQ (pLeg σ.1 p0 p1) (oLg σ.1 (xN p0) p1) σ σ) :=
  m_leg h.2.1 (fun e w2 kw t ok => GQ_0 h e kw t ok) (fun e r w2 kw t ok => GQ_x h e kw t ok)
theorem h_loop {p0 p1 : Int32} {w : Wd} {σ : Ss} (hC : okC w σ) (hM : okM w σ) : wp_X8_loop p0 p1 w (fun r => HQ (pLoop σ.1 p0 p1) (oLp σ.1 (xN p0) p1) σ σ 0 (sL w 1 r.toInt64)) (fun E w1 => (E = "java/lang/IndexOutOfBoundsException" ∧ HQ (pLoop σ.1 p0 p1) (oLp σ.1 (xN p0) p1) σ σ 1 w1) ∨ (E = "java/lang/IllegalArgumentException" ∧ HQ (pLoop σ.1 p0 p1) (oLp σ.1 (xN p0) p1) σ σ 2 w1)) := by
  exact c_loop hC (fun e => HQ_0 hM hC kC.rf e) (fun e => Or.inl ⟨rfl, HQ_x (n := 1) hM hC kC.rf (by decide) e⟩) (fun e => Or.inr ⟨rfl, HQ_x (n := 2) hM hC kC.rf (by decide) e⟩)
theorem g_loop {p0 p1 : Int32} {w : Wd} {σ : Ss} {k : Int32} (h : HQ (pLoop σ.1 p0 p1) (oLp σ.1 (xN p0) p1) σ σ k w) : wp_X9_loop p0 p1 w (GQ (pLoop σ.1 p0 p1) (oLp σ.1 (xN p0) p1) σ σ) :=
  m_loop h.2.1 (fun e w2 kw t ok => GQ_0 h e kw t ok) (fun e r w2 kw t ok => GQ_x h e kw t ok)
theorem h_way {p0 p1 p2 : Int32} {w : Wd} {σ : Ss} (hC : okC w σ) (hM : okM w σ) : wp_X8_way p0 p1 p2 w (fun r => HQ (pWay σ.1 p0 p1 p2) (oWy σ.1 (xN p0) (xN p1) p2) σ σ 0 (sL w 1 r.toInt64)) (fun E w1 => (E = "java/lang/IndexOutOfBoundsException" ∧ HQ (pWay σ.1 p0 p1 p2) (oWy σ.1 (xN p0) (xN p1) p2) σ σ 1 w1) ∨ (E = "java/lang/IllegalArgumentException" ∧ HQ (pWay σ.1 p0 p1 p2) (oWy σ.1 (xN p0) (xN p1) p2) σ σ 2 w1)) := by
  exact c_way hC (fun e => HQ_0 hM hC kC.rf e) (fun e => Or.inl ⟨rfl, HQ_x (n := 1) hM hC kC.rf (by decide) e⟩) (fun e => Or.inr ⟨rfl, HQ_x (n := 2) hM hC kC.rf (by decide) e⟩)
theorem g_way {p0 p1 p2 : Int32} {w : Wd} {σ : Ss} {k : Int32} (h : HQ (pWay σ.1 p0 p1 p2) (oWy σ.1 (xN p0) (xN p1) p2) σ σ k w) : wp_X9_way p0 p1 p2 w (GQ (pWay σ.1 p0 p1 p2) (oWy σ.1 (xN p0) (xN p1) p2) σ σ) :=
  m_way h.2.1 (fun e w2 kw t ok => GQ_0 h e kw t ok) (fun e r w2 kw t ok => GQ_x h e kw t ok)
theorem h_count {p0 : Int32} {w : Wd} {σ : Ss} (hC : okC w σ) (hM : okM w σ) : wp_X8_count p0 w (fun r => HQ (pCount p0) (oCt σ p0) σ σ 0 (sL w 1 r.toInt64)) (fun E w1 => (E = "java/lang/IllegalArgumentException" ∧ HQ (pCount p0) (oCt σ p0) σ σ 1 w1)) := by
  exact c_count hC (fun e => HQ_0 hM hC kC.rf e) (fun e => ⟨rfl, HQ_x (n := 1) hM hC kC.rf (by decide) e⟩)
theorem g_count {p0 : Int32} {w : Wd} {σ : Ss} {k : Int32} (h : HQ (pCount p0) (oCt σ p0) σ σ k w) : wp_X9_count p0 w (GQ (pCount p0) (oCt σ p0) σ σ) :=
  m_count h.2.1 (fun e w2 kw t ok => GQ_0 h e kw t ok) (fun e r w2 kw t ok => GQ_x h e kw t ok)
theorem h_setting {p0 : Int32} {w : Wd} {σ : Ss} (hC : okC w σ) (hM : okM w σ) : wp_X8_setting p0 w (fun r => HQ (pSetting p0) (iI (st σ.1 (xN p0))) σ σ 0 (sL w 1 r.toInt64)) (fun E w1 => (E = "java/lang/IndexOutOfBoundsException" ∧ HQ (pSetting p0) (iI (st σ.1 (xN p0))) σ σ 1 w1)) := by
  exact c_setting hC (fun e => HQ_0 hM hC kC.rf e) (fun e => ⟨rfl, HQ_x (n := 1) hM hC kC.rf (by decide) e⟩)
theorem g_setting {p0 : Int32} {w : Wd} {σ : Ss} {k : Int32} (h : HQ (pSetting p0) (iI (st σ.1 (xN p0))) σ σ k w) : wp_X9_setting p0 w (GQ (pSetting p0) (iI (st σ.1 (xN p0))) σ σ) :=
  m_setting h.2.1 (fun e w2 kw t ok => GQ_0 h e kw t ok) (fun e r w2 kw t ok => GQ_x h e kw t ok)
theorem h_without {p0 p1 : Int32} {w : Wd} {σ : Ss} (hC : okC w σ) (hM : okM w σ) : wp_X8_without p0 p1 w (fun r w1 => HQ (pWithout σ.1 p0 p1) (oWb (drpL σ.1 (xN p0)) p1) σ σ 0 (sL w1 1 r.toInt64)) (fun E w1 => (E = "java/lang/IndexOutOfBoundsException" ∧ HQ (pWithout σ.1 p0 p1) (oWb (drpL σ.1 (xN p0)) p1) σ σ 1 w1) ∨ (E = "java/lang/IllegalArgumentException" ∧ HQ (pWithout σ.1 p0 p1) (oWb (drpL σ.1 (xN p0)) p1) σ σ 2 w1)) := by
  exact c_without hC (fun e w1 kw okw => HQ_0 hM okw kw e) (fun e => Or.inl ⟨rfl, HQ_x (n := 1) hM hC kC.rf (by decide) e⟩) (fun e => Or.inr ⟨rfl, HQ_x (n := 2) hM hC kC.rf (by decide) e⟩)
theorem g_without {p0 p1 : Int32} {w : Wd} {σ : Ss} {k : Int32} (h : HQ (pWithout σ.1 p0 p1) (oWb (drpL σ.1 (xN p0)) p1) σ σ k w) : wp_X9_without p0 p1 w (GQ (pWithout σ.1 p0 p1) (oWb (drpL σ.1 (xN p0)) p1) σ σ) :=
  m_without h.2.1 (fun e w2 kw t ok => GQ_0 h e kw t ok) (fun e r w2 kw t ok => GQ_x h e kw t ok)
theorem h_fitting {p0 : Int32} {w : Wd} {σ : Ss} (hC : okC w σ) (hM : okM w σ) : wp_X8_fitting p0 w (fun r w1 => HQ (pLeg1 σ.1 p0) (oFt σ.1 (xN p0)) σ σ 0 (sL w1 1 r.toInt64)) (fun E w1 => (E = "java/lang/IndexOutOfBoundsException" ∧ HQ (pLeg1 σ.1 p0) (oFt σ.1 (xN p0)) σ σ 1 w1)) := by
  exact c_fitting hC (fun e w1 kw okw => HQ_0 hM okw kw e) (fun e => ⟨rfl, HQ_x (n := 1) hM hC kC.rf (by decide) e⟩)
theorem g_fitting {p0 : Int32} {w : Wd} {σ : Ss} {k : Int32} (h : HQ (pLeg1 σ.1 p0) (oFt σ.1 (xN p0)) σ σ k w) : wp_X9_fitting p0 w (GQ (pLeg1 σ.1 p0) (oFt σ.1 (xN p0)) σ σ) :=
  m_fitting h.2.1 (fun e w2 kw t ok => GQ_0 h e kw t ok) (fun e r w2 kw t ok => GQ_x h e kw t ok)
