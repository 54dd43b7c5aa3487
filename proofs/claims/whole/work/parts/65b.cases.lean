theorem k_set {G : Gt} {M : Mx} {Qf : State → Prop} {b Ls i : Nat} {xs : Nat → Int32} {w : Wd} {σ : Ss} (hC : cx G D_L_law M) (hE : lawE G M b Ls xs) (hi : i + 5 ≤ Ls) (hc : M.2.2.2.2.2.2.2.2.2.1 + 1 ≤ M.2.2.1.cells) (hs : M.2.2.2.2.2.2.2.2.2.2 + 6 ≤ M.2.2.1.slots) (okc : okC w σ) (okm : okM w σ) (kk : ∀ (k n : Nat) (w2 : Wd) (σ2 : Ss), k ≤ M.2.2.2.2.2.2.2.2.2.1 + 1 → n ≤ M.2.2.2.2.2.2.2.2.2.2 + 6 → okC w2 σ2 → okM w2 σ2 → jq G D_L_law (M1 M k n) Qf 1443 (LL G b i) [] w2) : jq G D_L_law M Qf 604 (LL G b i) [] w := by
  have hC1 : cx G D_L_law (M1 M (M.2.2.2.2.2.2.2.2.2.1 + 1) (M.2.2.2.2.2.2.2.2.2.2 + 6)) := cx_M1 hC hc hs
  have hE1 : lawE G (M1 M (M.2.2.2.2.2.2.2.2.2.1 + 1) (M.2.2.2.2.2.2.2.2.2.2 + 6)) b Ls xs := hE
  refine jq_aload_n (k0 := 1) dL_law_604 hC rfl rfl ?_
  refine jq_arg (c := 1) (ci := 1) (k0 := 0) (k4 := 4) dL_law_605 dL_law_606 dL_law_608 dL_law_609 dL_law_610 (by decide) hC hE (by omega) rfl rfl ?_
  refine jq_arg (c := 2) (ci := 2) (k0 := 0) (k4 := 4) dL_law_611 dL_law_612 dL_law_614 dL_law_615 dL_law_616 (by decide) hC hE (by omega) rfl rfl ?_
  refine jq_aload_n (k0 := 3) dL_law_617 hC rfl rfl ?_
  refine jq_callH (As := [.ref (aD G 0 26), .int (xs (i + 1)), .int (xs (i + 2)), .ref (aD G 0 51)]) (rest := []) (D' := D_L_set) dL_law_618 hC hE.1 hE.2.1 hE.2.2.1 (mt_L_set (Q := HQ (pSet (xs (i + 1)) (xs (i + 2))) (iI (st σ.1 (xN (xs (i + 1))))) σ (setS σ.1 (xN (xs (i + 1))) (xs (i + 2)).toInt, psh σ.2.1 σ.1, σ.2.2)) (h_set okc okm)) gL_law_L_set rfl ⟨rfl, rfl, Nat.le_of_ble_eq_true rfl, Nat.le_of_ble_eq_true rfl⟩ nm_L_set rfl (Nat.le_of_ble_eq_true rfl) hc hs (kI fun k1 w1 h => ?_)
  refine jq_istore (L' := (5, Value.int k1) :: LL G b i) dL_law_621 hC1 (by decide) rfl ?_
  refine jq_aload_n (k0 := 3) dL_law_623 hC1 rfl rfl ?_
  refine jq_arg (c := 1) (ci := 1) (k0 := 1) (k4 := 5) dL_law_624 dL_law_625 dL_law_627 dL_law_628 dL_law_629 (by decide) hC1 hE1 (by omega) rfl rfl ?_
  refine jq_arg (c := 2) (ci := 2) (k0 := 1) (k4 := 5) dL_law_630 dL_law_631 dL_law_633 dL_law_634 dL_law_635 (by decide) hC1 hE1 (by omega) rfl rfl ?_
  refine jq_callV (As := [.int (xs (i + 1)), .int (xs (i + 2))]) (rest := []) (n := 0) (o := 32) (D' := D_X9_set) dL_law_636 hC1 (cl_0 (by decide)) rfl rfl rfl (mt_X9_set (g_set h)) gL_law_X9_set rfl ⟨rfl, rfl, Nat.le_of_ble_eq_true rfl, Nat.le_of_ble_eq_true rfl⟩ nm_X9_set rfl (Nat.le_of_ble_eq_true rfl) (kI fun r1 w2 h2 => ?_)
  refine jq_istore (L' := (6, Value.int r1) :: (5, Value.int k1) :: LL G b i) dL_law_639 hC1 (by decide) rfl ?_
  exact jq_tail dL_law_641 dL_law_642 dL_law_645 dL_law_647 dL_law_652 dL_law_654 dL_law_657 dL_law_658 dL_law_659 dL_law_660 dL_law_662 dL_law_663 dL_law_664 dL_law_669 (by decide) hC1 (by unfold pSet; exact il (il (by decide) (by decide)) (by decide)) h.1 h2 (fun σ2 oc om => jq_less [2, 3, 4, 5, 6] rfl (kk _ _ w2 σ2 (Nat.le_refl _) (Nat.le_refl _) oc om))
theorem k_append {G : Gt} {M : Mx} {Qf : State → Prop} {b Ls i : Nat} {xs : Nat → Int32} {w : Wd} {σ : Ss} (hC : cx G D_L_law M) (hE : lawE G M b Ls xs) (hi : i + 5 ≤ Ls) (hc : M.2.2.2.2.2.2.2.2.2.1 + 1 ≤ M.2.2.1.cells) (hs : M.2.2.2.2.2.2.2.2.2.2 + 6 ≤ M.2.2.1.slots) (okc : okC w σ) (okm : okM w σ) (kk : ∀ (k n : Nat) (w2 : Wd) (σ2 : Ss), k ≤ M.2.2.2.2.2.2.2.2.2.1 + 1 → n ≤ M.2.2.2.2.2.2.2.2.2.2 + 6 → okC w2 σ2 → okM w2 σ2 → jq G D_L_law (M1 M k n) Qf 1443 (LL G b i) [] w2) : jq G D_L_law M Qf 672 (LL G b i) [] w := by
  have hC1 : cx G D_L_law (M1 M (M.2.2.2.2.2.2.2.2.2.1 + 1) (M.2.2.2.2.2.2.2.2.2.2 + 6)) := cx_M1 hC hc hs
  have hE1 : lawE G (M1 M (M.2.2.2.2.2.2.2.2.2.1 + 1) (M.2.2.2.2.2.2.2.2.2.2 + 6)) b Ls xs := hE
  refine jq_aload_n (k0 := 1) dL_law_672 hC rfl rfl ?_
  refine jq_arg (c := 1) (ci := 1) (k0 := 0) (k4 := 4) dL_law_673 dL_law_674 dL_law_676 dL_law_677 dL_law_678 (by decide) hC hE (by omega) rfl rfl ?_
  refine jq_aload_n (k0 := 3) dL_law_679 hC rfl rfl ?_
  refine jq_callH (As := [.ref (aD G 0 26), .int (xs (i + 1)), .ref (aD G 0 51)]) (rest := []) (D' := D_L_append) dL_law_680 hC hE.1 hE.2.1 hE.2.2.1 (mt_L_append (Q := HQ (pAppend σ.2.2 (xs (i + 1))) (nI (σ.2.2.1 + 1)) σ (σ.1, σ.2.1, putT σ.2.2 (xs (i + 1)))) (h_append okc okm)) gL_law_L_append rfl ⟨rfl, rfl, Nat.le_of_ble_eq_true rfl, Nat.le_of_ble_eq_true rfl⟩ nm_L_append rfl (Nat.le_of_ble_eq_true rfl) hc hs (kI fun k1 w1 h => ?_)
  refine jq_istore (L' := (5, Value.int k1) :: LL G b i) dL_law_683 hC1 (by decide) rfl ?_
  refine jq_aload_n (k0 := 3) dL_law_685 hC1 rfl rfl ?_
  refine jq_arg (c := 1) (ci := 1) (k0 := 1) (k4 := 5) dL_law_686 dL_law_687 dL_law_689 dL_law_690 dL_law_691 (by decide) hC1 hE1 (by omega) rfl rfl ?_
  refine jq_callV (As := [.int (xs (i + 1))]) (rest := []) (n := 0) (o := 32) (D' := D_X9_append) dL_law_692 hC1 (cl_0 (by decide)) rfl rfl rfl (mt_X9_append (g_append h)) gL_law_X9_append rfl ⟨rfl, rfl, Nat.le_of_ble_eq_true rfl, Nat.le_of_ble_eq_true rfl⟩ nm_X9_append rfl (Nat.le_of_ble_eq_true rfl) (kI fun r1 w2 h2 => ?_)
  refine jq_istore (L' := (6, Value.int r1) :: (5, Value.int k1) :: LL G b i) dL_law_695 hC1 (by decide) rfl ?_
  exact jq_tail dL_law_697 dL_law_698 dL_law_701 dL_law_703 dL_law_708 dL_law_710 dL_law_713 dL_law_714 dL_law_715 dL_law_716 dL_law_718 dL_law_719 dL_law_720 dL_law_725 (by decide) hC1 (by unfold pAppend; exact il (il (by decide) (by decide)) (by decide)) h.1 h2 (fun σ2 oc om => jq_less [2, 3, 4, 5, 6] rfl (kk _ _ w2 σ2 (Nat.le_refl _) (Nat.le_refl _) oc om))
theorem k_clearBuffer {G : Gt} {M : Mx} {Qf : State → Prop} {b Ls i : Nat} {xs : Nat → Int32} {w : Wd} {σ : Ss} (hC : cx G D_L_law M) (hE : lawE G M b Ls xs) (hi : i + 5 ≤ Ls) (hc : M.2.2.2.2.2.2.2.2.2.1 + 1 ≤ M.2.2.1.cells) (hs : M.2.2.2.2.2.2.2.2.2.2 + 6 ≤ M.2.2.1.slots) (okc : okC w σ) (okm : okM w σ) (kk : ∀ (k n : Nat) (w2 : Wd) (σ2 : Ss), k ≤ M.2.2.2.2.2.2.2.2.2.1 + 1 → n ≤ M.2.2.2.2.2.2.2.2.2.2 + 6 → okC w2 σ2 → okM w2 σ2 → jq G D_L_law (M1 M k n) Qf 1443 (LL G b i) [] w2) : jq G D_L_law M Qf 728 (LL G b i) [] w := by
  refine jq_aload_n (k0 := 1) dL_law_728 hC rfl rfl ?_
  refine jq_callV (As := []) (rest := []) (n := 0) (o := 26) (D' := D_X8_clearBuffer) dL_law_729 hC (cl_0 (by decide)) rfl rfl rfl (mt_X8_clearBuffer (Q := fun r w1 => r = nI σ.2.2.1 ∧ kC w w1 ∧ okC w1 (σ.1, σ.2.1, (0, σ.2.2.2))) (c_clearBuffer okc (fun w1 a1 a2 => ⟨rfl, a1, a2⟩))) gL_law_X8_clearBuffer rfl ⟨rfl, rfl, Nat.le_of_ble_eq_true rfl, Nat.le_of_ble_eq_true rfl⟩ nm_X8_clearBuffer rfl (Nat.le_of_ble_eq_true rfl) (kI fun r1 w1 q1 => ?_)
  obtain ⟨e1, q11, q12⟩ := q1
  subst e1
  have okm1 : okM w1 σ := okM_ge okm q11.1
  refine jq_aload_n (k0 := 2) dL_law_732 hC rfl rfl ?_
  refine jq_callV (As := []) (rest := [.int (nI σ.2.2.1)]) (n := 0) (o := 32) (D' := D_X9_clearBuffer) dL_law_733 hC (cl_0 (by decide)) rfl rfl rfl (mt_X9_clearBuffer (Q := fun r w2 => r = nI σ.2.2.1 ∧ kM w1 w2 ∧ okM w2 (σ.1, σ.2.1, (0, σ.2.2.2))) (m_clearBuffer okm1 (fun w2 a1 a2 => ⟨rfl, a1, a2⟩))) gL_law_X9_clearBuffer rfl ⟨rfl, rfl, Nat.le_of_ble_eq_true rfl, Nat.le_of_ble_eq_true rfl⟩ nm_X9_clearBuffer rfl (Nat.le_of_ble_eq_true rfl) (kI fun r2 w2 q2 => ?_)
  have e2 := q2.1
  subst e2
  exact jq_icmp_eq (tgt := 1443) dL_law_736 hC (by decide) (fun _ => kk M.2.2.2.2.2.2.2.2.2.1 M.2.2.2.2.2.2.2.2.2.2 w2 (σ.1, σ.2.1, (0, σ.2.2.2)) (by omega) (by omega) (okC_kM q12 q2.2.1) q2.2.2) (fun z => absurd rfl z)
theorem k_firstError {G : Gt} {M : Mx} {Qf : State → Prop} {b Ls i : Nat} {xs : Nat → Int32} {w : Wd} {σ : Ss} (hC : cx G D_L_law M) (hE : lawE G M b Ls xs) (hi : i + 5 ≤ Ls) (hc : M.2.2.2.2.2.2.2.2.2.1 + 1 ≤ M.2.2.1.cells) (hs : M.2.2.2.2.2.2.2.2.2.2 + 6 ≤ M.2.2.1.slots) (okc : okC w σ) (okm : okM w σ) (kk : ∀ (k n : Nat) (w2 : Wd) (σ2 : Ss), k ≤ M.2.2.2.2.2.2.2.2.2.1 + 1 → n ≤ M.2.2.2.2.2.2.2.2.2.2 + 6 → okC w2 σ2 → okM w2 σ2 → jq G D_L_law (M1 M k n) Qf 1443 (LL G b i) [] w2) : jq G D_L_law M Qf 741 (LL G b i) [] w := by
  refine jq_aload_n (k0 := 1) dL_law_741 hC rfl rfl ?_
  refine jq_callV (As := []) (rest := []) (n := 0) (o := 26) (D' := D_X8_firstError) dL_law_742 hC (cl_0 (by decide)) rfl rfl rfl (mt_X8_firstError (Q := fun r w1 => r = nI (fe σ.2.2.2 σ.2.2.1) ∧ kC w w1 ∧ okC w1 σ) (c_firstError okc (fun w1 a1 a2 => ⟨rfl, a1, a2⟩))) gL_law_X8_firstError rfl ⟨rfl, rfl, Nat.le_of_ble_eq_true rfl, Nat.le_of_ble_eq_true rfl⟩ nm_X8_firstError rfl (Nat.le_of_ble_eq_true rfl) (kI fun r1 w1 q1 => ?_)
  obtain ⟨e1, q11, q12⟩ := q1
  subst e1
  have okm1 : okM w1 σ := okM_ge okm q11.1
  refine jq_aload_n (k0 := 2) dL_law_745 hC rfl rfl ?_
  refine jq_callV (As := []) (rest := [.int (nI (fe σ.2.2.2 σ.2.2.1))]) (n := 0) (o := 32) (D' := D_X9_firstError) dL_law_746 hC (cl_0 (by decide)) rfl rfl rfl (mt_X9_firstError (Q := fun r w2 => r = nI (fe σ.2.2.2 σ.2.2.1) ∧ kM w1 w2 ∧ okM w2 σ) (m_firstError okm1 (fun w2 a1 a2 => ⟨rfl, a1, a2⟩))) gL_law_X9_firstError rfl ⟨rfl, rfl, Nat.le_of_ble_eq_true rfl, Nat.le_of_ble_eq_true rfl⟩ nm_X9_firstError rfl (Nat.le_of_ble_eq_true rfl) (kI fun r2 w2 q2 => ?_)
  have e2 := q2.1
  subst e2
  exact jq_icmp_eq (tgt := 1443) dL_law_749 hC (by decide) (fun _ => kk M.2.2.2.2.2.2.2.2.2.1 M.2.2.2.2.2.2.2.2.2.2 w2 σ (by omega) (by omega) (okC_kM q12 q2.2.1) q2.2.2) (fun z => absurd rfl z)
theorem k_book {G : Gt} {M : Mx} {Qf : State → Prop} {b Ls i : Nat} {xs : Nat → Int32} {w : Wd} {σ : Ss} (hC : cx G D_L_law M) (hE : lawE G M b Ls xs) (hi : i + 5 ≤ Ls) (hc : M.2.2.2.2.2.2.2.2.2.1 + 1 ≤ M.2.2.1.cells) (hs : M.2.2.2.2.2.2.2.2.2.2 + 6 ≤ M.2.2.1.slots) (okc : okC w σ) (okm : okM w σ) (kk : ∀ (k n : Nat) (w2 : Wd) (σ2 : Ss), k ≤ M.2.2.2.2.2.2.2.2.2.1 + 1 → n ≤ M.2.2.2.2.2.2.2.2.2.2 + 6 → okC w2 σ2 → okM w2 σ2 → jq G D_L_law (M1 M k n) Qf 1443 (LL G b i) [] w2) : jq G D_L_law M Qf 754 (LL G b i) [] w := by
  have hC1 : cx G D_L_law (M1 M (M.2.2.2.2.2.2.2.2.2.1 + 1) (M.2.2.2.2.2.2.2.2.2.2 + 6)) := cx_M1 hC hc hs
  have hE1 : lawE G (M1 M (M.2.2.2.2.2.2.2.2.2.1 + 1) (M.2.2.2.2.2.2.2.2.2.2 + 6)) b Ls xs := hE
  refine jq_aload_n (k0 := 1) dL_law_754 hC rfl rfl ?_
  refine jq_aload_n (k0 := 3) dL_law_755 hC rfl rfl ?_
  refine jq_callH (As := [.ref (aD G 0 26), .ref (aD G 0 51)]) (rest := []) (D' := D_L_book) dL_law_756 hC hE.1 hE.2.1 hE.2.2.1 (mt_L_book (Q := HQ (pBook σ.2.2) (nI (bk σ.2.2 σ.1 σ.2.2.1).2.1) σ ((bk σ.2.2 σ.1 σ.2.2.1).1, psh σ.2.1 σ.1, (0, σ.2.2.2))) (h_book okc okm)) gL_law_L_book rfl ⟨rfl, rfl, Nat.le_of_ble_eq_true rfl, Nat.le_of_ble_eq_true rfl⟩ nm_L_book rfl (Nat.le_of_ble_eq_true rfl) hc hs (kI fun k1 w1 h => ?_)
  refine jq_istore (L' := (5, Value.int k1) :: LL G b i) dL_law_759 hC1 (by decide) rfl ?_
  refine jq_aload_n (k0 := 3) dL_law_761 hC1 rfl rfl ?_
  refine jq_callV (As := []) (rest := []) (n := 0) (o := 32) (D' := D_X9_book) dL_law_762 hC1 (cl_0 (by decide)) rfl rfl rfl (mt_X9_book (g_book h)) gL_law_X9_book rfl ⟨rfl, rfl, Nat.le_of_ble_eq_true rfl, Nat.le_of_ble_eq_true rfl⟩ nm_X9_book rfl (Nat.le_of_ble_eq_true rfl) (kI fun r1 w2 h2 => ?_)
  refine jq_istore (L' := (6, Value.int r1) :: (5, Value.int k1) :: LL G b i) dL_law_765 hC1 (by decide) rfl ?_
  exact jq_tail dL_law_767 dL_law_768 dL_law_771 dL_law_773 dL_law_778 dL_law_780 dL_law_783 dL_law_784 dL_law_785 dL_law_786 dL_law_788 dL_law_789 dL_law_790 dL_law_795 (by decide) hC1 (by unfold pBook; exact il (by decide) (by decide)) h.1 h2 (fun σ2 oc om => jq_less [2, 3, 4, 5, 6] rfl (kk _ _ w2 σ2 (Nat.le_refl _) (Nat.le_refl _) oc om))
theorem k_undo {G : Gt} {M : Mx} {Qf : State → Prop} {b Ls i : Nat} {xs : Nat → Int32} {w : Wd} {σ : Ss} (hC : cx G D_L_law M) (hE : lawE G M b Ls xs) (hi : i + 5 ≤ Ls) (hc : M.2.2.2.2.2.2.2.2.2.1 + 1 ≤ M.2.2.1.cells) (hs : M.2.2.2.2.2.2.2.2.2.2 + 6 ≤ M.2.2.1.slots) (okc : okC w σ) (okm : okM w σ) (kk : ∀ (k n : Nat) (w2 : Wd) (σ2 : Ss), k ≤ M.2.2.2.2.2.2.2.2.2.1 + 1 → n ≤ M.2.2.2.2.2.2.2.2.2.2 + 6 → okC w2 σ2 → okM w2 σ2 → jq G D_L_law (M1 M k n) Qf 1443 (LL G b i) [] w2) : jq G D_L_law M Qf 798 (LL G b i) [] w := by
  have hC1 : cx G D_L_law (M1 M (M.2.2.2.2.2.2.2.2.2.1 + 1) (M.2.2.2.2.2.2.2.2.2.2 + 6)) := cx_M1 hC hc hs
  have hE1 : lawE G (M1 M (M.2.2.2.2.2.2.2.2.2.1 + 1) (M.2.2.2.2.2.2.2.2.2.2 + 6)) b Ls xs := hE
  refine jq_aload_n (k0 := 1) dL_law_798 hC rfl rfl ?_
  refine jq_aload_n (k0 := 3) dL_law_799 hC rfl rfl ?_
  refine jq_callH (As := [.ref (aD G 0 26), .ref (aD G 0 51)]) (rest := []) (D' := D_L_undo) dL_law_800 hC hE.1 hE.2.1 hE.2.2.1 (mt_L_undo (Q := HQ (pUndo σ.2.1) (nI (σ.2.1.1 - 1)) σ (σ.2.1.2 (σ.2.1.1 - 1), (σ.2.1.1 - 1, σ.2.1.2), σ.2.2)) (h_undo okc okm)) gL_law_L_undo rfl ⟨rfl, rfl, Nat.le_of_ble_eq_true rfl, Nat.le_of_ble_eq_true rfl⟩ nm_L_undo rfl (Nat.le_of_ble_eq_true rfl) hc hs (kI fun k1 w1 h => ?_)
  refine jq_istore (L' := (5, Value.int k1) :: LL G b i) dL_law_803 hC1 (by decide) rfl ?_
  refine jq_aload_n (k0 := 3) dL_law_805 hC1 rfl rfl ?_
  refine jq_callV (As := []) (rest := []) (n := 0) (o := 32) (D' := D_X9_undo) dL_law_806 hC1 (cl_0 (by decide)) rfl rfl rfl (mt_X9_undo (g_undo h)) gL_law_X9_undo rfl ⟨rfl, rfl, Nat.le_of_ble_eq_true rfl, Nat.le_of_ble_eq_true rfl⟩ nm_X9_undo rfl (Nat.le_of_ble_eq_true rfl) (kI fun r1 w2 h2 => ?_)
  refine jq_istore (L' := (6, Value.int r1) :: (5, Value.int k1) :: LL G b i) dL_law_809 hC1 (by decide) rfl ?_
  exact jq_tail dL_law_811 dL_law_812 dL_law_815 dL_law_817 dL_law_822 dL_law_824 dL_law_827 dL_law_828 dL_law_829 dL_law_830 dL_law_832 dL_law_833 dL_law_834 dL_law_839 (by decide) hC1 (by unfold pUndo; exact il (by decide) (by decide)) h.1 h2 (fun σ2 oc om => jq_less [2, 3, 4, 5, 6] rfl (kk _ _ w2 σ2 (Nat.le_refl _) (Nat.le_refl _) oc om))
theorem k_mark {G : Gt} {M : Mx} {Qf : State → Prop} {b Ls i : Nat} {xs : Nat → Int32} {w : Wd} {σ : Ss} (hC : cx G D_L_law M) (hE : lawE G M b Ls xs) (hi : i + 5 ≤ Ls) (hc : M.2.2.2.2.2.2.2.2.2.1 + 1 ≤ M.2.2.1.cells) (hs : M.2.2.2.2.2.2.2.2.2.2 + 6 ≤ M.2.2.1.slots) (okc : okC w σ) (okm : okM w σ) (kk : ∀ (k n : Nat) (w2 : Wd) (σ2 : Ss), k ≤ M.2.2.2.2.2.2.2.2.2.1 + 1 → n ≤ M.2.2.2.2.2.2.2.2.2.2 + 6 → okC w2 σ2 → okM w2 σ2 → jq G D_L_law (M1 M k n) Qf 1443 (LL G b i) [] w2) : jq G D_L_law M Qf 842 (LL G b i) [] w := by
  have hC1 : cx G D_L_law (M1 M (M.2.2.2.2.2.2.2.2.2.1 + 1) (M.2.2.2.2.2.2.2.2.2.2 + 6)) := cx_M1 hC hc hs
  have hE1 : lawE G (M1 M (M.2.2.2.2.2.2.2.2.2.1 + 1) (M.2.2.2.2.2.2.2.2.2.2 + 6)) b Ls xs := hE
  refine jq_aload_n (k0 := 1) dL_law_842 hC rfl rfl ?_
  refine jq_arg (c := 1) (ci := 1) (k0 := 0) (k4 := 4) dL_law_843 dL_law_844 dL_law_846 dL_law_847 dL_law_848 (by decide) hC hE (by omega) rfl rfl ?_
  refine jq_arg (c := 2) (ci := 2) (k0 := 0) (k4 := 4) dL_law_849 dL_law_850 dL_law_852 dL_law_853 dL_law_854 (by decide) hC hE (by omega) rfl rfl ?_
  refine jq_aload_n (k0 := 3) dL_law_855 hC rfl rfl ?_
  refine jq_callH (As := [.ref (aD G 0 26), .int (xs (i + 1)), .int (xs (i + 2)), .ref (aD G 0 51)]) (rest := []) (D' := D_L_mark) dL_law_856 hC hE.1 hE.2.1 hE.2.2.1 (mt_L_mark (Q := HQ (pMark σ.1 (xs (i + 1)) (xs (i + 2))) (oMk σ.1 (xN (xs (i + 1))) (xs (i + 2))) σ σ) (h_mark okc okm)) gL_law_L_mark rfl ⟨rfl, rfl, Nat.le_of_ble_eq_true rfl, Nat.le_of_ble_eq_true rfl⟩ nm_L_mark rfl (Nat.le_of_ble_eq_true rfl) hc hs (kI fun k1 w1 h => ?_)
  refine jq_istore (L' := (5, Value.int k1) :: LL G b i) dL_law_859 hC1 (by decide) rfl ?_
  refine jq_aload_n (k0 := 3) dL_law_861 hC1 rfl rfl ?_
  refine jq_arg (c := 1) (ci := 1) (k0 := 1) (k4 := 5) dL_law_862 dL_law_863 dL_law_865 dL_law_866 dL_law_867 (by decide) hC1 hE1 (by omega) rfl rfl ?_
  refine jq_arg (c := 2) (ci := 2) (k0 := 1) (k4 := 5) dL_law_868 dL_law_869 dL_law_871 dL_law_872 dL_law_873 (by decide) hC1 hE1 (by omega) rfl rfl ?_
  refine jq_callV (As := [.int (xs (i + 1)), .int (xs (i + 2))]) (rest := []) (n := 0) (o := 32) (D' := D_X9_mark) dL_law_874 hC1 (cl_0 (by decide)) rfl rfl rfl (mt_X9_mark (g_mark h)) gL_law_X9_mark rfl ⟨rfl, rfl, Nat.le_of_ble_eq_true rfl, Nat.le_of_ble_eq_true rfl⟩ nm_X9_mark rfl (Nat.le_of_ble_eq_true rfl) (kI fun r1 w2 h2 => ?_)
  refine jq_istore (L' := (6, Value.int r1) :: (5, Value.int k1) :: LL G b i) dL_law_877 hC1 (by decide) rfl ?_
  exact jq_tail dL_law_879 dL_law_880 dL_law_883 dL_law_885 dL_law_890 dL_law_892 dL_law_895 dL_law_896 dL_law_897 dL_law_898 dL_law_900 dL_law_901 dL_law_902 dL_law_907 (by decide) hC1 (by unfold pMark; exact il (il (by decide) (by decide)) (by decide)) h.1 h2 (fun σ2 oc om => jq_less [2, 3, 4, 5, 6] rfl (kk _ _ w2 σ2 (Nat.le_refl _) (Nat.le_refl _) oc om))
