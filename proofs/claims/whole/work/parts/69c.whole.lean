/-! THE LAW, from its entry -/
theorem nws_in : ∀ q ∈ nws, Cond.methodLinkNest q.1 q.2.1 q.2.2.1 q.2.2.2 ∈ lw_tbl := by decide +kernel
theorem nwx_in : ∀ w ∈ nwx, w ∈ lw_tbl := by decide +kernel
theorem ncs_in : ∀ q ∈ ncs, Cond.not (Cond.castable q.1 q.2) ∈ flatC (Jvm.Cond.and given_1 narrow_1) := by decide +kernel
set_option maxHeartbeats 4000000 in
set_option maxRecDepth 100000 in
theorem whole_start {p : Program} {e : Env} {s : State} {m : MethodId} {below : List Frame} {meth : Method} {c : Code} (l : Launch) (hflags : l.flags = flags0) {b L : Nat} {xs : Nat → Int32} (hL : L ≤ 2560) (C0 : lw_At p s m meth c b L xs) : W p l e room_1 s m #[Value.ref b] below meth c s.heap [] 0 0 (lw_Z below #[Value.ref b] s) (entryFrame m ([Value.ref b] : List Value).toArray 9) := by
  obtain ⟨hx, hb, hr, hml, hown, hts0, hX, hbl, hlk, hgv⟩ := C0
  have hs := flat_of_before _ hgv
  have hts : ∀ w ∈ wsL_law, w.before #[Value.ref b] s = true := fun w h => hts0 w (wsL_law_in w h)
  have h8 : ∀ w ∈ wsX8_init, w.before #[Value.ref b] s = true := fun w h => hts w (ggL_law_X8_init w h).1
  have h9 : ∀ w ∈ wsX9_init, w.before #[Value.ref b] s = true := fun w h => hts w (ggL_law_X9_init w h).1
  obtain ⟨d0, i0, n0⟩ := u_known (C := RX0) (T := TX0) (N := 6) (n := 6) h8 (by decide +kernel) (h8 (.instantiable RX0 6) (by decide +kernel))
  obtain ⟨d1, i1, n1⟩ := u_known (C := RX1) (T := TX1) (N := 2) (n := 2) h8 (by decide +kernel) (h8 (.instantiable RX1 2) (by decide +kernel))
  obtain ⟨d2, i2, n2⟩ := u_known (C := RX2) (T := TX2) (N := 13) (n := 13) h8 (by decide +kernel) (h8 (.instantiable RX2 13) (by decide +kernel))
  obtain ⟨d3, i3, n3⟩ := u_known (C := RX3) (T := TX3) (N := 6) (n := 6) h8 (by decide +kernel) (h8 (.instantiable RX3 6) (by decide +kernel))
  obtain ⟨d4, i4, n4⟩ := u_known (C := RX4) (T := TX4) (N := 4) (n := 4) h8 (by decide +kernel) (h8 (.instantiable RX4 4) (by decide +kernel))
  obtain ⟨d5, i5, n5⟩ := u_known (C := RX5) (T := TX5) (N := 8) (n := 8) h8 (by decide +kernel) (h8 (.instantiable RX5 8) (by decide +kernel))
  obtain ⟨d6, i6, n6⟩ := u_known (C := RX6) (T := TX6) (N := 2) (n := 2) h8 (by decide +kernel) (h8 (.instantiable RX6 2) (by decide +kernel))
  obtain ⟨d7, i7, n7⟩ := u_known (C := RX7) (T := TX7) (N := 6) (n := 6) h8 (by decide +kernel) (h8 (.instantiable RX7 6) (by decide +kernel))
  obtain ⟨d8, i8, n8⟩ := u_known (C := RX8) (T := TX8) (N := 7) (n := 7) h8 (by decide +kernel) (hts (.instantiable RX8 7) (by decide +kernel))
  obtain ⟨d9, i9, n9⟩ := u_known (C := RX9) (T := TX9) (N := 25) (n := 25) h9 (by decide +kernel) (hts (.instantiable RX9 25) (by decide +kernel))
  obtain ⟨dC, dI, hKc⟩ : ∃ (dC : Nat → ClassId) (dI : Nat → Nat → Nat), ∀ (k : Nat) (q : vw_C), vwCl[k]? = some q → u_Kn s q.1 q.2.1 q.2.2 (dC k) (dI k) := by
    refine ⟨fun k => match k with | 0 => d0 | 1 => d1 | 2 => d2 | 3 => d3 | 4 => d4 | 5 => d5 | 6 => d6 | 7 => d7 | 8 => d8 | _ => d9, fun k => match k with | 0 => i0 | 1 => i1 | 2 => i2 | 3 => i3 | 4 => i4 | 5 => i5 | 6 => i6 | 7 => i7 | 8 => i8 | _ => i9, ?_⟩
    intro k q hq
    match k, hq with
    | 0, hq => cases hq; exact n0
    | 1, hq => cases hq; exact n1
    | 2, hq => cases hq; exact n2
    | 3, hq => cases hq; exact n3
    | 4, hq => cases hq; exact n4
    | 5, hq => cases hq; exact n5
    | 6, hq => cases hq; exact n6
    | 7, hq => cases hq; exact n7
    | 8, hq => cases hq; exact n8
    | 9, hq => cases hq; exact n9
    | k + 10, hq => simp [vwCl] at hq
  obtain ⟨jI, a1, a2⟩ := k_aI (hts0 (.arrayClass .int) (by decide +kernel))
  obtain ⟨jZ, a3, a4⟩ := k_aZ (hts0 (.arrayClass .boolean) (by decide +kernel))
  obtain ⟨jL, a5, a6⟩ := k_aL (hts0 (.arrayClass .long) (by decide +kernel))
  have hO : va_AO RX5 s := va_AO.of (hts0 (.arrayOver (.object RX5)) (by decide +kernel))
  obtain ⟨jQ, a7, a8⟩ := k_aQ hO
  have hK : va_K (dC, dI) vwCl [(jI, .int), (jZ, .boolean), (jL, .long), (jQ, .object "LevelLoops$Survey")] s := by
    refine ⟨hKc, fun k q hq => ?_⟩
    match k, hq with
    | 0, hq => cases hq; exact ⟨a1, a2⟩
    | 1, hq => cases hq; exact ⟨a3, a4⟩
    | 2, hq => cases hq; exact ⟨a5, a6⟩
    | 3, hq => cases hq; exact ⟨a7, a8⟩
    | k + 4, hq => simp at hq
  have hnw : nw s := fun q hq => va_Nw.of rfl (hts0 _ (nws_in q hq))
  have hxw : xw s := fun w hw => va_Nw.of (nwx_ot w hw) (hts0 w (nwx_in w hw))
  have hnc : ncU s := fun q hq => va_Nc.of (hs (.not (.castable q.1 q.2)) (ncs_in q hq))
  have hz : ∀ A : Nat → Prop, (∀ a : Nat, a < s.heap.size → ¬ A a) → vx_Zq Bundle.tN "UNASSIGNED_STACK" Bundle.steD A s s.heap ∧ vx_Zq Bundle.tN "SUPPRESSED_SENTINEL" Bundle.listD A s s.heap := fun A hA => ⟨vx_Zqof (hts0 (.laysStatic Bundle.tN "UNASSIGNED_STACK" Bundle.steD) (by decide +kernel)) (hts0 (.initialized Bundle.tN) (by decide +kernel)) (hs (.isRef (.static Bundle.tN "UNASSIGNED_STACK" Bundle.steD)) (by decide +kernel)) hA, vx_Zqof (hts0 (.laysStatic Bundle.tN "SUPPRESSED_SENTINEL" Bundle.listD) (by decide +kernel)) (hts0 (.initialized Bundle.tN) (by decide +kernel)) (hs (.isRef (.static Bundle.tN "SUPPRESSED_SENTINEL" Bundle.listD)) (by decide +kernel)) hA⟩
  have htr : l.stackTraces = false := by
    unfold Launch.stackTraces
    rw [hflags]
    decide +kernel
  exact law_start (l, dC, dI, (fun _ _ => 0), jI, jZ, jL, jQ) htr hL hx hb hr hml hown hts hX hbl hlk ⟨hK, hnw⟩ hO hz hxw hnc
