/-! THE LAW: its loop over the script -/
section LawL
variable {G : Gt} {M : Mx} {Qf : State → Prop} {b Ls : Nat} {xs : Nat → Int32} {w : Wd}
theorem jq_slen {pc : Nat} {L : List (Nat × Value)} {rest : List Value} (hdg : decode D_L_law.2.1 pc = .ok (.arraylength, 1)) (hC : cx G D_L_law M) (hE : lawE G M b Ls xs) (k : jq G D_L_law M Qf (pc + 1) L (.int (nI Ls) :: rest) w) : jq G D_L_law M Qf pc L (.ref b :: rest) w := fun H locs ls h1 h2 h3 => va_slen hC.x hC.b hE.2.2.2.1 hE.2.2.2.2.1 hE.2.2.2.2.2.1 h2 hdg (k H locs ls h1 h2 h3)
theorem and31 (x : Int32) : ∃ t : Nat, t < 32 ∧ x &&& 31 = nI t := by
  refine ⟨(x.toBitVec &&& 31#32).toNat, ?_, ?_⟩
  · rw [BitVec.toNat_and]
    exact Nat.lt_of_le_of_lt Nat.and_le_right (by decide)
  · refine Int32.toBitVec_inj.mp ?_
    show x.toBitVec &&& 31#32 = BitVec.ofNat 32 _
    rw [BitVec.ofNat_toNat]
    exact (BitVec.setWidth_eq _).symm
theorem k_head {i : Nat} (hC : cx G D_L_law M) (hE : lawE G M b Ls xs) (h2 : i ≤ Ls) (kt : i + 5 ≤ Ls → jq G D_L_law M Qf 32 (LL G b i) [] w) (kf : ¬ i + 5 ≤ Ls → jq G D_L_law M Qf 1449 (LL G b i) [] w) : jq G D_L_law M Qf 23 (LL G b i) [] w := by
  have hL := hE.2.2.2.2.2.2
  have e : nI Ls - 5 = iI ((Ls : Int) - 5) := by rw [nI_iI, show (5 : Int32) = iI 5 from rfl, iI_sub]
  have e2 : nI Ls - 5 < nI i ↔ (Ls : Int) - 5 < i := by rw [e, nI_iI, iI_lt ⟨by omega, by omega⟩ ⟨by omega, by omega⟩]
  refine jq_iload (k0 := 4) dL_law_23 hC rfl ?_
  refine jq_aload_n (k0 := 0) dL_law_25 hC rfl rfl ?_
  refine jq_slen dL_law_26 hC hE ?_
  refine jq_iconst (v := 5) dL_law_27 hC (by decide) ?_
  refine jq_isub dL_law_28 hC ?_
  exact jq_icmp_gt (tgt := 1449) dL_law_29 hC (by decide) (fun z => kf (fun y => by have := e2.mp z; omega)) (fun z => kt (by have q : ¬ (Ls : Int) - 5 < i := fun y => z (e2.mpr y); omega))
theorem k_next {i : Nat} (hC : cx G D_L_law M) (k : jq G D_L_law M Qf 23 (LL G b (i + 5)) [] w) : jq G D_L_law M Qf 1443 (LL G b i) [] w := by
  refine jq_iinc (k0 := 4) (v := nI (i + 5)) (L' := [(4, Value.int (nI (i + 5))), (0, .ref b), (1, .ref (aD G 0 26)), (2, .ref (aD G 0 32)), (3, .ref (aD G 0 51))]) dL_law_1443 hC rfl (by rw [show Int32.ofInt 5 = nI 5 from rfl, nI_add]) (by decide) rfl ?_
  exact jq_goto (tgt := 23) dL_law_1446 hC (by decide) (jq_less [1, 2, 3, 4, 0] rfl k)
theorem k_all {i : Nat} {σ : Ss} (hC : cx G D_L_law M) (hE : lawE G M b Ls xs) (hi : i + 5 ≤ Ls) (hc : M.2.2.2.2.2.2.2.2.2.1 + 1 ≤ M.2.2.1.cells) (hs : M.2.2.2.2.2.2.2.2.2.2 + 6 ≤ M.2.2.1.slots) (okc : okC w σ) (okm : okM w σ) (kk : ∀ (k n : Nat) (w2 : Wd) (σ2 : Ss), k ≤ M.2.2.2.2.2.2.2.2.2.1 + 1 → n ≤ M.2.2.2.2.2.2.2.2.2.2 + 6 → okC w2 σ2 → okM w2 σ2 → jq G D_L_law (M1 M k n) Qf 1443 (LL G b i) [] w2) : jq G D_L_law M Qf 32 (LL G b i) [] w := by
  have hL := hE.2.2.2.2.2.2
  refine jq_aload_n (k0 := 0) dL_law_32 hC rfl rfl ?_
  refine jq_iload (k0 := 4) dL_law_33 hC rfl ?_
  refine jq_sld dL_law_35 hC hE (n_in (by omega) (by omega)) ?_
  refine jq_bipush (v := 31) dL_law_36 hC (by decide) ?_
  refine jq_iand dL_law_38 hC ?_
  obtain ⟨t, ht, et⟩ := and31 (xs (nI i).toNatClampNeg)
  rw [et]
  by_cases h25 : t < 25
  · have hor : t = 0 ∨ t = 1 ∨ t = 2 ∨ t = 3 ∨ t = 4 ∨ t = 5 ∨ t = 6 ∨ t = 7 ∨ t = 8 ∨ t = 9 ∨ t = 10 ∨ t = 11 ∨ t = 12 ∨ t = 13 ∨ t = 14 ∨ t = 15 ∨ t = 16 ∨ t = 17 ∨ t = 18 ∨ t = 19 ∨ t = 20 ∨ t = 21 ∨ t = 22 ∨ t = 23 ∨ t = 24 := by omega
    rcases hor with rfl | rfl | rfl | rfl | rfl | rfl | rfl | rfl | rfl | rfl | rfl | rfl | rfl | rfl | rfl | rfl | rfl | rfl | rfl | rfl | rfl | rfl | rfl | rfl | rfl
    · exact jq_tin (tgt := 152) dL_law_39 hC (by decide) (by decide) rfl (by decide) (k_addMark hC hE hi hc hs okc okm kk)
    · exact jq_tin (tgt := 208) dL_law_39 hC (by decide) (by decide) rfl (by decide) (k_know hC hE hi hc hs okc okm kk)
    · exact jq_tin (tgt := 276) dL_law_39 hC (by decide) (by decide) rfl (by decide) (k_accept hC hE hi hc hs okc okm kk)
    · exact jq_tin (tgt := 332) dL_law_39 hC (by decide) (by decide) rfl (by decide) (k_addLeg hC hE hi hc hs okc okm kk)
    · exact jq_tin (tgt := 424) dL_law_39 hC (by decide) (by decide) rfl (by decide) (k_measure hC hE hi hc hs okc okm kk)
    · exact jq_tin (tgt := 492) dL_law_39 hC (by decide) (by decide) rfl (by decide) (k_turn hC hE hi hc hs okc okm kk)
    · exact jq_tin (tgt := 548) dL_law_39 hC (by decide) (by decide) rfl (by decide) (k_removeLeg hC hE hi hc hs okc okm kk)
    · exact jq_tin (tgt := 604) dL_law_39 hC (by decide) (by decide) rfl (by decide) (k_set hC hE hi hc hs okc okm kk)
    · exact jq_tin (tgt := 672) dL_law_39 hC (by decide) (by decide) rfl (by decide) (k_append hC hE hi hc hs okc okm kk)
    · exact jq_tin (tgt := 728) dL_law_39 hC (by decide) (by decide) rfl (by decide) (k_clearBuffer hC hE hi hc hs okc okm kk)
    · exact jq_tin (tgt := 741) dL_law_39 hC (by decide) (by decide) rfl (by decide) (k_firstError hC hE hi hc hs okc okm kk)
    · exact jq_tin (tgt := 754) dL_law_39 hC (by decide) (by decide) rfl (by decide) (k_book hC hE hi hc hs okc okm kk)
    · exact jq_tin (tgt := 798) dL_law_39 hC (by decide) (by decide) rfl (by decide) (k_undo hC hE hi hc hs okc okm kk)
    · exact jq_tin (tgt := 842) dL_law_39 hC (by decide) (by decide) rfl (by decide) (k_mark hC hE hi hc hs okc okm kk)
    · exact jq_tin (tgt := 910) dL_law_39 hC (by decide) (by decide) rfl (by decide) (k_leg hC hE hi hc hs okc okm kk)
    · exact jq_tin (tgt := 978) dL_law_39 hC (by decide) (by decide) rfl (by decide) (k_loop hC hE hi hc hs okc okm kk)
    · exact jq_tin (tgt := 1046) dL_law_39 hC (by decide) (by decide) rfl (by decide) (k_way hC hE hi hc hs okc okm kk)
    · exact jq_tin (tgt := 1126) dL_law_39 hC (by decide) (by decide) rfl (by decide) (k_count hC hE hi hc hs okc okm kk)
    · exact jq_tin (tgt := 1182) dL_law_39 hC (by decide) (by decide) rfl (by decide) (k_setting hC hE hi hc hs okc okm kk)
    · exact jq_tin (tgt := 1238) dL_law_39 hC (by decide) (by decide) rfl (by decide) (k_worst hC hE hi hc hs okc okm kk)
    · exact jq_tin (tgt := 1251) dL_law_39 hC (by decide) (by decide) rfl (by decide) (k_suspect hC hE hi hc hs okc okm kk)
    · exact jq_tin (tgt := 1264) dL_law_39 hC (by decide) (by decide) rfl (by decide) (k_without hC hE hi hc hs okc okm kk)
    · exact jq_tin (tgt := 1332) dL_law_39 hC (by decide) (by decide) rfl (by decide) (k_fitting hC hE hi hc hs okc okm kk)
    · exact jq_tin (tgt := 1388) dL_law_39 hC (by decide) (by decide) rfl (by decide) (k_goodShare hC hE hi hc hs okc okm kk)
    · exact jq_tin (tgt := 1429) dL_law_39 hC (by decide) (by decide) rfl (by decide) (k_digest hC hE hi hc hs okc okm kk)
  · exact jq_tout (tgt := 1443) dL_law_39 hC (Or.inr (by rw [nI_iI, iI_toInt (fit_nat (by omega))]; omega)) (by decide) (kk M.2.2.2.2.2.2.2.2.2.1 M.2.2.2.2.2.2.2.2.2.2 w σ (Nat.le_add_right _ _) (Nat.le_add_right _ _) okc okm)
end LawL
theorem law_loop {G : Gt} {M : Mx} {Qf : State → Prop} {b Ls : Nat} {xs : Nat → Int32} (hC : cx G D_L_law M) (hE : lawE G M b Ls xs) (hcl : 700 ≤ M.2.2.1.cells) (hsl : 7000 ≤ M.2.2.1.slots) (kE : ∀ (k n : Nat) (w : Wd), k ≤ 700 → n ≤ 7000 → jq G D_L_law (M1 M k n) Qf 1449 [] [] w) :
    ∀ (r i k n : Nat) (w : Wd) (σ : Ss), Ls < i + 5 * r + 5 → i ≤ Ls → k + r ≤ 700 → n + 6 * r ≤ 7000 → okC w σ → okM w σ → jq G D_L_law (M1 M k n) Qf 23 (LL G b i) [] w := by
  intro r
  induction r with
  | zero =>
    intro i k n w σ h1 h2 h3 h4 oc om
    exact k_head (cx_M1 hC (by omega) (by omega)) (lawE_M1 hE) h2 (fun h => absurd h (by omega)) (fun _ => jq_less [] rfl (kE k n w (by omega) (by omega)))
  | succ r ih =>
    intro i k n w σ h1 h2 h3 h4 oc om
    refine k_head (cx_M1 hC (by omega) (by omega)) (lawE_M1 hE) h2 (fun h => ?_) (fun _ => jq_less [] rfl (kE k n w (by omega) (by omega)))
    have hc1 : k + 1 ≤ M.2.2.1.cells := by omega
    have hs1 : n + 6 ≤ M.2.2.1.slots := by omega
    refine k_all (cx_M1 hC (by omega) (by omega)) (lawE_M1 hE) h hc1 hs1 oc om (fun k' n' w2 σ2 hk hn oc2 om2 => ?_)
    have hk2 : k' ≤ k + 1 := hk
    have hn2 : n' ≤ n + 6 := hn
    exact k_next (cx_M1 (M := M) hC (by omega) (by omega)) (ih (i + 5) k' n' w2 σ2 (by omega) (by omega) (by omega) (by omega) oc2 om2)
