theorem k_leg {G : Gt} {M : Mx} {Qf : State → Prop} {b Ls i : Nat} {xs : Nat → Int32} {w : Wd} {σ : Ss} (hC : cx G D_L_law M) (hE : lawE G M b Ls xs) (hi : i + 5 ≤ Ls) (hc : M.2.2.2.2.2.2.2.2.2.1 + 1 ≤ M.2.2.1.cells) (hs : M.2.2.2.2.2.2.2.2.2.2 + 6 ≤ M.2.2.1.slots) (okc : okC w σ) (okm : okM w σ) (kk : ∀ (k n : Nat) (w2 : Wd) (σ2 : Ss), k ≤ M.2.2.2.2.2.2.2.2.2.1 + 1 → n ≤ M.2.2.2.2.2.2.2.2.2.2 + 6 → okC w2 σ2 → okM w2 σ2 → jq G D_L_law (M1 M k n) Qf 1443 (LL G b i) [] w2) : jq G D_L_law M Qf 910 (LL G b i) [] w := by
  have hC1 : cx G D_L_law (M1 M (M.2.2.2.2.2.2.2.2.2.1 + 1) (M.2.2.2.2.2.2.2.2.2.2 + 6)) := cx_M1 hC hc hs
  have hE1 : lawE G (M1 M (M.2.2.2.2.2.2.2.2.2.1 + 1) (M.2.2.2.2.2.2.2.2.2.2 + 6)) b Ls xs := hE
  refine jq_aload_n (k0 := 1) dL_law_910 hC rfl rfl ?_
  refine jq_arg (c := 1) (ci := 1) (k0 := 0) (k4 := 4) dL_law_911 dL_law_912 dL_law_914 dL_law_915 dL_law_916 (by decide) hC hE (by omega) rfl rfl ?_
  refine jq_arg (c := 2) (ci := 2) (k0 := 0) (k4 := 4) dL_law_917 dL_law_918 dL_law_920 dL_law_921 dL_law_922 (by decide) hC hE (by omega) rfl rfl ?_
  refine jq_aload_n (k0 := 3) dL_law_923 hC rfl rfl ?_
  refine jq_callH (As := [.ref (aD G 0 26), .int (xs (i + 1)), .int (xs (i + 2)), .ref (aD G 0 51)]) (rest := []) (D' := D_L_leg) dL_law_924 hC hE.1 hE.2.1 hE.2.2.1 (mt_L_leg (Q := HQ (pLeg σ.1 (xs (i + 1)) (xs (i + 2))) (oLg σ.1 (xN (xs (i + 1))) (xs (i + 2))) σ σ) (h_leg okc okm)) gL_law_L_leg rfl ⟨rfl, rfl, Nat.le_of_ble_eq_true rfl, Nat.le_of_ble_eq_true rfl⟩ nm_L_leg rfl (Nat.le_of_ble_eq_true rfl) hc hs (kI fun k1 w1 h => ?_)
  refine jq_istore (L' := (5, Value.int k1) :: LL G b i) dL_law_927 hC1 (by decide) rfl ?_
  refine jq_aload_n (k0 := 3) dL_law_929 hC1 rfl rfl ?_
  refine jq_arg (c := 1) (ci := 1) (k0 := 1) (k4 := 5) dL_law_930 dL_law_931 dL_law_933 dL_law_934 dL_law_935 (by decide) hC1 hE1 (by omega) rfl rfl ?_
  refine jq_arg (c := 2) (ci := 2) (k0 := 1) (k4 := 5) dL_law_936 dL_law_937 dL_law_939 dL_law_940 dL_law_941 (by decide) hC1 hE1 (by omega) rfl rfl ?_
  refine jq_callV (As := [.int (xs (i + 1)), .int (xs (i + 2))]) (rest := []) (n := 0) (o := 32) (D' := D_X9_leg) dL_law_942 hC1 (cl_0 (by decide)) rfl rfl rfl (mt_X9_leg (g_leg h)) gL_law_X9_leg rfl ⟨rfl, rfl, Nat.le_of_ble_eq_true rfl, Nat.le_of_ble_eq_true rfl⟩ nm_X9_leg rfl (Nat.le_of_ble_eq_true rfl) (kI fun r1 w2 h2 => ?_)
  refine jq_istore (L' := (6, Value.int r1) :: (5, Value.int k1) :: LL G b i) dL_law_945 hC1 (by decide) rfl ?_
  exact jq_tail dL_law_947 dL_law_948 dL_law_951 dL_law_953 dL_law_958 dL_law_960 dL_law_963 dL_law_964 dL_law_965 dL_law_966 dL_law_968 dL_law_969 dL_law_970 dL_law_975 (by decide) hC1 (by unfold pLeg; exact il (il (by decide) (by decide)) (by decide)) h.1 h2 (fun σ2 oc om => jq_less [2, 3, 4, 5, 6] rfl (kk _ _ w2 σ2 (Nat.le_refl _) (Nat.le_refl _) oc om))
theorem k_loop {G : Gt} {M : Mx} {Qf : State → Prop} {b Ls i : Nat} {xs : Nat → Int32} {w : Wd} {σ : Ss} (hC : cx G D_L_law M) (hE : lawE G M b Ls xs) (hi : i + 5 ≤ Ls) (hc : M.2.2.2.2.2.2.2.2.2.1 + 1 ≤ M.2.2.1.cells) (hs : M.2.2.2.2.2.2.2.2.2.2 + 6 ≤ M.2.2.1.slots) (okc : okC w σ) (okm : okM w σ) (kk : ∀ (k n : Nat) (w2 : Wd) (σ2 : Ss), k ≤ M.2.2.2.2.2.2.2.2.2.1 + 1 → n ≤ M.2.2.2.2.2.2.2.2.2.2 + 6 → okC w2 σ2 → okM w2 σ2 → jq G D_L_law (M1 M k n) Qf 1443 (LL G b i) [] w2) : jq G D_L_law M Qf 978 (LL G b i) [] w := by
  have hC1 : cx G D_L_law (M1 M (M.2.2.2.2.2.2.2.2.2.1 + 1) (M.2.2.2.2.2.2.2.2.2.2 + 6)) := cx_M1 hC hc hs
  have hE1 : lawE G (M1 M (M.2.2.2.2.2.2.2.2.2.1 + 1) (M.2.2.2.2.2.2.2.2.2.2 + 6)) b Ls xs := hE
  refine jq_aload_n (k0 := 1) dL_law_978 hC rfl rfl ?_
  refine jq_arg (c := 1) (ci := 1) (k0 := 0) (k4 := 4) dL_law_979 dL_law_980 dL_law_982 dL_law_983 dL_law_984 (by decide) hC hE (by omega) rfl rfl ?_
  refine jq_arg (c := 2) (ci := 2) (k0 := 0) (k4 := 4) dL_law_985 dL_law_986 dL_law_988 dL_law_989 dL_law_990 (by decide) hC hE (by omega) rfl rfl ?_
  refine jq_aload_n (k0 := 3) dL_law_991 hC rfl rfl ?_
  refine jq_callH (As := [.ref (aD G 0 26), .int (xs (i + 1)), .int (xs (i + 2)), .ref (aD G 0 51)]) (rest := []) (D' := D_L_loop) dL_law_992 hC hE.1 hE.2.1 hE.2.2.1 (mt_L_loop (Q := HQ (pLoop σ.1 (xs (i + 1)) (xs (i + 2))) (oLp σ.1 (xN (xs (i + 1))) (xs (i + 2))) σ σ) (h_loop okc okm)) gL_law_L_loop rfl ⟨rfl, rfl, Nat.le_of_ble_eq_true rfl, Nat.le_of_ble_eq_true rfl⟩ nm_L_loop rfl (Nat.le_of_ble_eq_true rfl) hc hs (kI fun k1 w1 h => ?_)
  refine jq_istore (L' := (5, Value.int k1) :: LL G b i) dL_law_995 hC1 (by decide) rfl ?_
  refine jq_aload_n (k0 := 3) dL_law_997 hC1 rfl rfl ?_
  refine jq_arg (c := 1) (ci := 1) (k0 := 1) (k4 := 5) dL_law_998 dL_law_999 dL_law_1001 dL_law_1002 dL_law_1003 (by decide) hC1 hE1 (by omega) rfl rfl ?_
  refine jq_arg (c := 2) (ci := 2) (k0 := 1) (k4 := 5) dL_law_1004 dL_law_1005 dL_law_1007 dL_law_1008 dL_law_1009 (by decide) hC1 hE1 (by omega) rfl rfl ?_
  refine jq_callV (As := [.int (xs (i + 1)), .int (xs (i + 2))]) (rest := []) (n := 0) (o := 32) (D' := D_X9_loop) dL_law_1010 hC1 (cl_0 (by decide)) rfl rfl rfl (mt_X9_loop (g_loop h)) gL_law_X9_loop rfl ⟨rfl, rfl, Nat.le_of_ble_eq_true rfl, Nat.le_of_ble_eq_true rfl⟩ nm_X9_loop rfl (Nat.le_of_ble_eq_true rfl) (kI fun r1 w2 h2 => ?_)
  refine jq_istore (L' := (6, Value.int r1) :: (5, Value.int k1) :: LL G b i) dL_law_1013 hC1 (by decide) rfl ?_
  exact jq_tail dL_law_1015 dL_law_1016 dL_law_1019 dL_law_1021 dL_law_1026 dL_law_1028 dL_law_1031 dL_law_1032 dL_law_1033 dL_law_1034 dL_law_1036 dL_law_1037 dL_law_1038 dL_law_1043 (by decide) hC1 (by unfold pLoop; exact il (il (by decide) (by decide)) (by decide)) h.1 h2 (fun σ2 oc om => jq_less [2, 3, 4, 5, 6] rfl (kk _ _ w2 σ2 (Nat.le_refl _) (Nat.le_refl _) oc om))
theorem k_way {G : Gt} {M : Mx} {Qf : State → Prop} {b Ls i : Nat} {xs : Nat → Int32} {w : Wd} {σ : Ss} (hC : cx G D_L_law M) (hE : lawE G M b Ls xs) (hi : i + 5 ≤ Ls) (hc : M.2.2.2.2.2.2.2.2.2.1 + 1 ≤ M.2.2.1.cells) (hs : M.2.2.2.2.2.2.2.2.2.2 + 6 ≤ M.2.2.1.slots) (okc : okC w σ) (okm : okM w σ) (kk : ∀ (k n : Nat) (w2 : Wd) (σ2 : Ss), k ≤ M.2.2.2.2.2.2.2.2.2.1 + 1 → n ≤ M.2.2.2.2.2.2.2.2.2.2 + 6 → okC w2 σ2 → okM w2 σ2 → jq G D_L_law (M1 M k n) Qf 1443 (LL G b i) [] w2) : jq G D_L_law M Qf 1046 (LL G b i) [] w := by
  have hC1 : cx G D_L_law (M1 M (M.2.2.2.2.2.2.2.2.2.1 + 1) (M.2.2.2.2.2.2.2.2.2.2 + 6)) := cx_M1 hC hc hs
  have hE1 : lawE G (M1 M (M.2.2.2.2.2.2.2.2.2.1 + 1) (M.2.2.2.2.2.2.2.2.2.2 + 6)) b Ls xs := hE
  refine jq_aload_n (k0 := 1) dL_law_1046 hC rfl rfl ?_
  refine jq_arg (c := 1) (ci := 1) (k0 := 0) (k4 := 4) dL_law_1047 dL_law_1048 dL_law_1050 dL_law_1051 dL_law_1052 (by decide) hC hE (by omega) rfl rfl ?_
  refine jq_arg (c := 2) (ci := 2) (k0 := 0) (k4 := 4) dL_law_1053 dL_law_1054 dL_law_1056 dL_law_1057 dL_law_1058 (by decide) hC hE (by omega) rfl rfl ?_
  refine jq_arg (c := 3) (ci := 3) (k0 := 0) (k4 := 4) dL_law_1059 dL_law_1060 dL_law_1062 dL_law_1063 dL_law_1064 (by decide) hC hE (by omega) rfl rfl ?_
  refine jq_aload_n (k0 := 3) dL_law_1065 hC rfl rfl ?_
  refine jq_callH (As := [.ref (aD G 0 26), .int (xs (i + 1)), .int (xs (i + 2)), .int (xs (i + 3)), .ref (aD G 0 51)]) (rest := []) (D' := D_L_way) dL_law_1066 hC hE.1 hE.2.1 hE.2.2.1 (mt_L_way (Q := HQ (pWay σ.1 (xs (i + 1)) (xs (i + 2)) (xs (i + 3))) (oWy σ.1 (xN (xs (i + 1))) (xN (xs (i + 2))) (xs (i + 3))) σ σ) (h_way okc okm)) gL_law_L_way rfl ⟨rfl, rfl, Nat.le_of_ble_eq_true rfl, Nat.le_of_ble_eq_true rfl⟩ nm_L_way rfl (Nat.le_of_ble_eq_true rfl) hc hs (kI fun k1 w1 h => ?_)
  refine jq_istore (L' := (5, Value.int k1) :: LL G b i) dL_law_1069 hC1 (by decide) rfl ?_
  refine jq_aload_n (k0 := 3) dL_law_1071 hC1 rfl rfl ?_
  refine jq_arg (c := 1) (ci := 1) (k0 := 1) (k4 := 5) dL_law_1072 dL_law_1073 dL_law_1075 dL_law_1076 dL_law_1077 (by decide) hC1 hE1 (by omega) rfl rfl ?_
  refine jq_arg (c := 2) (ci := 2) (k0 := 1) (k4 := 5) dL_law_1078 dL_law_1079 dL_law_1081 dL_law_1082 dL_law_1083 (by decide) hC1 hE1 (by omega) rfl rfl ?_
  refine jq_arg (c := 3) (ci := 3) (k0 := 1) (k4 := 5) dL_law_1084 dL_law_1085 dL_law_1087 dL_law_1088 dL_law_1089 (by decide) hC1 hE1 (by omega) rfl rfl ?_
  refine jq_callV (As := [.int (xs (i + 1)), .int (xs (i + 2)), .int (xs (i + 3))]) (rest := []) (n := 0) (o := 32) (D' := D_X9_way) dL_law_1090 hC1 (cl_0 (by decide)) rfl rfl rfl (mt_X9_way (g_way h)) gL_law_X9_way rfl ⟨rfl, rfl, Nat.le_of_ble_eq_true rfl, Nat.le_of_ble_eq_true rfl⟩ nm_X9_way rfl (Nat.le_of_ble_eq_true rfl) (kI fun r1 w2 h2 => ?_)
  refine jq_istore (L' := (6, Value.int r1) :: (5, Value.int k1) :: LL G b i) dL_law_1093 hC1 (by decide) rfl ?_
  exact jq_tail dL_law_1095 dL_law_1096 dL_law_1099 dL_law_1101 dL_law_1106 dL_law_1108 dL_law_1111 dL_law_1112 dL_law_1113 dL_law_1114 dL_law_1116 dL_law_1117 dL_law_1118 dL_law_1123 (by decide) hC1 (by unfold pWay; exact il (il (by decide) (by decide)) (by decide)) h.1 h2 (fun σ2 oc om => jq_less [2, 3, 4, 5, 6] rfl (kk _ _ w2 σ2 (Nat.le_refl _) (Nat.le_refl _) oc om))
theorem k_count {G : Gt} {M : Mx} {Qf : State → Prop} {b Ls i : Nat} {xs : Nat → Int32} {w : Wd} {σ : Ss} (hC : cx G D_L_law M) (hE : lawE G M b Ls xs) (hi : i + 5 ≤ Ls) (hc : M.2.2.2.2.2.2.2.2.2.1 + 1 ≤ M.2.2.1.cells) (hs : M.2.2.2.2.2.2.2.2.2.2 + 6 ≤ M.2.2.1.slots) (okc : okC w σ) (okm : okM w σ) (kk : ∀ (k n : Nat) (w2 : Wd) (σ2 : Ss), k ≤ M.2.2.2.2.2.2.2.2.2.1 + 1 → n ≤ M.2.2.2.2.2.2.2.2.2.2 + 6 → okC w2 σ2 → okM w2 σ2 → jq G D_L_law (M1 M k n) Qf 1443 (LL G b i) [] w2) : jq G D_L_law M Qf 1126 (LL G b i) [] w := by
  have hC1 : cx G D_L_law (M1 M (M.2.2.2.2.2.2.2.2.2.1 + 1) (M.2.2.2.2.2.2.2.2.2.2 + 6)) := cx_M1 hC hc hs
  have hE1 : lawE G (M1 M (M.2.2.2.2.2.2.2.2.2.1 + 1) (M.2.2.2.2.2.2.2.2.2.2 + 6)) b Ls xs := hE
  refine jq_aload_n (k0 := 1) dL_law_1126 hC rfl rfl ?_
  refine jq_arg (c := 1) (ci := 1) (k0 := 0) (k4 := 4) dL_law_1127 dL_law_1128 dL_law_1130 dL_law_1131 dL_law_1132 (by decide) hC hE (by omega) rfl rfl ?_
  refine jq_aload_n (k0 := 3) dL_law_1133 hC rfl rfl ?_
  refine jq_callH (As := [.ref (aD G 0 26), .int (xs (i + 1)), .ref (aD G 0 51)]) (rest := []) (D' := D_L_count) dL_law_1134 hC hE.1 hE.2.1 hE.2.2.1 (mt_L_count (Q := HQ (pCount (xs (i + 1))) (oCt σ (xs (i + 1))) σ σ) (h_count okc okm)) gL_law_L_count rfl ⟨rfl, rfl, Nat.le_of_ble_eq_true rfl, Nat.le_of_ble_eq_true rfl⟩ nm_L_count rfl (Nat.le_of_ble_eq_true rfl) hc hs (kI fun k1 w1 h => ?_)
  refine jq_istore (L' := (5, Value.int k1) :: LL G b i) dL_law_1137 hC1 (by decide) rfl ?_
  refine jq_aload_n (k0 := 3) dL_law_1139 hC1 rfl rfl ?_
  refine jq_arg (c := 1) (ci := 1) (k0 := 1) (k4 := 5) dL_law_1140 dL_law_1141 dL_law_1143 dL_law_1144 dL_law_1145 (by decide) hC1 hE1 (by omega) rfl rfl ?_
  refine jq_callV (As := [.int (xs (i + 1))]) (rest := []) (n := 0) (o := 32) (D' := D_X9_count) dL_law_1146 hC1 (cl_0 (by decide)) rfl rfl rfl (mt_X9_count (g_count h)) gL_law_X9_count rfl ⟨rfl, rfl, Nat.le_of_ble_eq_true rfl, Nat.le_of_ble_eq_true rfl⟩ nm_X9_count rfl (Nat.le_of_ble_eq_true rfl) (kI fun r1 w2 h2 => ?_)
  refine jq_istore (L' := (6, Value.int r1) :: (5, Value.int k1) :: LL G b i) dL_law_1149 hC1 (by decide) rfl ?_
  exact jq_tail dL_law_1151 dL_law_1152 dL_law_1155 dL_law_1157 dL_law_1162 dL_law_1164 dL_law_1167 dL_law_1168 dL_law_1169 dL_law_1170 dL_law_1172 dL_law_1173 dL_law_1174 dL_law_1179 (by decide) hC1 (by unfold pCount; exact il (by decide) (by decide)) h.1 h2 (fun σ2 oc om => jq_less [2, 3, 4, 5, 6] rfl (kk _ _ w2 σ2 (Nat.le_refl _) (Nat.le_refl _) oc om))
theorem k_setting {G : Gt} {M : Mx} {Qf : State → Prop} {b Ls i : Nat} {xs : Nat → Int32} {w : Wd} {σ : Ss} (hC : cx G D_L_law M) (hE : lawE G M b Ls xs) (hi : i + 5 ≤ Ls) (hc : M.2.2.2.2.2.2.2.2.2.1 + 1 ≤ M.2.2.1.cells) (hs : M.2.2.2.2.2.2.2.2.2.2 + 6 ≤ M.2.2.1.slots) (okc : okC w σ) (okm : okM w σ) (kk : ∀ (k n : Nat) (w2 : Wd) (σ2 : Ss), k ≤ M.2.2.2.2.2.2.2.2.2.1 + 1 → n ≤ M.2.2.2.2.2.2.2.2.2.2 + 6 → okC w2 σ2 → okM w2 σ2 → jq G D_L_law (M1 M k n) Qf 1443 (LL G b i) [] w2) : jq G D_L_law M Qf 1182 (LL G b i) [] w := by
  have hC1 : cx G D_L_law (M1 M (M.2.2.2.2.2.2.2.2.2.1 + 1) (M.2.2.2.2.2.2.2.2.2.2 + 6)) := cx_M1 hC hc hs
  have hE1 : lawE G (M1 M (M.2.2.2.2.2.2.2.2.2.1 + 1) (M.2.2.2.2.2.2.2.2.2.2 + 6)) b Ls xs := hE
  refine jq_aload_n (k0 := 1) dL_law_1182 hC rfl rfl ?_
  refine jq_arg (c := 1) (ci := 1) (k0 := 0) (k4 := 4) dL_law_1183 dL_law_1184 dL_law_1186 dL_law_1187 dL_law_1188 (by decide) hC hE (by omega) rfl rfl ?_
  refine jq_aload_n (k0 := 3) dL_law_1189 hC rfl rfl ?_
  refine jq_callH (As := [.ref (aD G 0 26), .int (xs (i + 1)), .ref (aD G 0 51)]) (rest := []) (D' := D_L_setting) dL_law_1190 hC hE.1 hE.2.1 hE.2.2.1 (mt_L_setting (Q := HQ (pSetting (xs (i + 1))) (iI (st σ.1 (xN (xs (i + 1))))) σ σ) (h_setting okc okm)) gL_law_L_setting rfl ⟨rfl, rfl, Nat.le_of_ble_eq_true rfl, Nat.le_of_ble_eq_true rfl⟩ nm_L_setting rfl (Nat.le_of_ble_eq_true rfl) hc hs (kI fun k1 w1 h => ?_)
  refine jq_istore (L' := (5, Value.int k1) :: LL G b i) dL_law_1193 hC1 (by decide) rfl ?_
  refine jq_aload_n (k0 := 3) dL_law_1195 hC1 rfl rfl ?_
  refine jq_arg (c := 1) (ci := 1) (k0 := 1) (k4 := 5) dL_law_1196 dL_law_1197 dL_law_1199 dL_law_1200 dL_law_1201 (by decide) hC1 hE1 (by omega) rfl rfl ?_
  refine jq_callV (As := [.int (xs (i + 1))]) (rest := []) (n := 0) (o := 32) (D' := D_X9_setting) dL_law_1202 hC1 (cl_0 (by decide)) rfl rfl rfl (mt_X9_setting (g_setting h)) gL_law_X9_setting rfl ⟨rfl, rfl, Nat.le_of_ble_eq_true rfl, Nat.le_of_ble_eq_true rfl⟩ nm_X9_setting rfl (Nat.le_of_ble_eq_true rfl) (kI fun r1 w2 h2 => ?_)
  refine jq_istore (L' := (6, Value.int r1) :: (5, Value.int k1) :: LL G b i) dL_law_1205 hC1 (by decide) rfl ?_
  exact jq_tail dL_law_1207 dL_law_1208 dL_law_1211 dL_law_1213 dL_law_1218 dL_law_1220 dL_law_1223 dL_law_1224 dL_law_1225 dL_law_1226 dL_law_1228 dL_law_1229 dL_law_1230 dL_law_1235 (by decide) hC1 (by unfold pSetting; exact il (by decide) (by decide)) h.1 h2 (fun σ2 oc om => jq_less [2, 3, 4, 5, 6] rfl (kk _ _ w2 σ2 (Nat.le_refl _) (Nat.le_refl _) oc om))
theorem k_worst {G : Gt} {M : Mx} {Qf : State → Prop} {b Ls i : Nat} {xs : Nat → Int32} {w : Wd} {σ : Ss} (hC : cx G D_L_law M) (hE : lawE G M b Ls xs) (hi : i + 5 ≤ Ls) (hc : M.2.2.2.2.2.2.2.2.2.1 + 1 ≤ M.2.2.1.cells) (hs : M.2.2.2.2.2.2.2.2.2.2 + 6 ≤ M.2.2.1.slots) (okc : okC w σ) (okm : okM w σ) (kk : ∀ (k n : Nat) (w2 : Wd) (σ2 : Ss), k ≤ M.2.2.2.2.2.2.2.2.2.1 + 1 → n ≤ M.2.2.2.2.2.2.2.2.2.2 + 6 → okC w2 σ2 → okM w2 σ2 → jq G D_L_law (M1 M k n) Qf 1443 (LL G b i) [] w2) : jq G D_L_law M Qf 1238 (LL G b i) [] w := by
  refine jq_aload_n (k0 := 1) dL_law_1238 hC rfl rfl ?_
  refine jq_callV (As := []) (rest := []) (n := 0) (o := 26) (D' := D_X8_worst) dL_law_1239 hC (cl_0 (by decide)) rfl rfl rfl (mt_X8_worst (Q := fun r => r = iI (wsK σ.1 (nlp σ.1))) (c_worst okc rfl)) gL_law_X8_worst rfl ⟨rfl, rfl, Nat.le_of_ble_eq_true rfl, Nat.le_of_ble_eq_true rfl⟩ nm_X8_worst rfl (Nat.le_of_ble_eq_true rfl) (kIp fun r1 e1 => ?_)
  subst e1
  refine jq_aload_n (k0 := 2) dL_law_1242 hC rfl rfl ?_
  refine jq_callV (As := []) (rest := [.int (iI (wsK σ.1 (nlp σ.1)))]) (n := 0) (o := 32) (D' := D_X9_worst) dL_law_1243 hC (cl_0 (by decide)) rfl rfl rfl (mt_X9_worst (Q := fun r w2 => r = iI (wsK σ.1 (nlp σ.1)) ∧ kM w w2 ∧ okM w2 σ) (m_worst okm (fun w2 a1 a2 => ⟨rfl, a1, a2⟩))) gL_law_X9_worst rfl ⟨rfl, rfl, Nat.le_of_ble_eq_true rfl, Nat.le_of_ble_eq_true rfl⟩ nm_X9_worst rfl (Nat.le_of_ble_eq_true rfl) (kI fun r2 w2 q2 => ?_)
  have e2 := q2.1
  subst e2
  exact jq_icmp_eq (tgt := 1443) dL_law_1246 hC (by decide) (fun _ => kk M.2.2.2.2.2.2.2.2.2.1 M.2.2.2.2.2.2.2.2.2.2 w2 σ (by omega) (by omega) (okC_kM okc q2.2.1) q2.2.2) (fun z => absurd rfl z)
theorem k_suspect {G : Gt} {M : Mx} {Qf : State → Prop} {b Ls i : Nat} {xs : Nat → Int32} {w : Wd} {σ : Ss} (hC : cx G D_L_law M) (hE : lawE G M b Ls xs) (hi : i + 5 ≤ Ls) (hc : M.2.2.2.2.2.2.2.2.2.1 + 1 ≤ M.2.2.1.cells) (hs : M.2.2.2.2.2.2.2.2.2.2 + 6 ≤ M.2.2.1.slots) (okc : okC w σ) (okm : okM w σ) (kk : ∀ (k n : Nat) (w2 : Wd) (σ2 : Ss), k ≤ M.2.2.2.2.2.2.2.2.2.1 + 1 → n ≤ M.2.2.2.2.2.2.2.2.2.2 + 6 → okC w2 σ2 → okM w2 σ2 → jq G D_L_law (M1 M k n) Qf 1443 (LL G b i) [] w2) : jq G D_L_law M Qf 1251 (LL G b i) [] w := by
  refine jq_aload_n (k0 := 1) dL_law_1251 hC rfl rfl ?_
  refine jq_callV (As := []) (rest := []) (n := 0) (o := 26) (D' := D_X8_suspect) dL_law_1252 hC (cl_0 (by decide)) rfl rfl rfl (mt_X8_suspect (Q := fun r => r = iI (suK σ.1 (nL σ.1))) (c_suspect okc rfl)) gL_law_X8_suspect rfl ⟨rfl, rfl, Nat.le_of_ble_eq_true rfl, Nat.le_of_ble_eq_true rfl⟩ nm_X8_suspect rfl (Nat.le_of_ble_eq_true rfl) (kIp fun r1 e1 => ?_)
  subst e1
  refine jq_aload_n (k0 := 2) dL_law_1255 hC rfl rfl ?_
  refine jq_callV (As := []) (rest := [.int (iI (suK σ.1 (nL σ.1)))]) (n := 0) (o := 32) (D' := D_X9_suspect) dL_law_1256 hC (cl_0 (by decide)) rfl rfl rfl (mt_X9_suspect (Q := fun r w2 => r = iI (suK σ.1 (nL σ.1)) ∧ kM w w2 ∧ okM w2 σ) (m_suspect okm (fun w2 a1 a2 => ⟨rfl, a1, a2⟩))) gL_law_X9_suspect rfl ⟨rfl, rfl, Nat.le_of_ble_eq_true rfl, Nat.le_of_ble_eq_true rfl⟩ nm_X9_suspect rfl (Nat.le_of_ble_eq_true rfl) (kI fun r2 w2 q2 => ?_)
  have e2 := q2.1
  subst e2
  exact jq_icmp_eq (tgt := 1443) dL_law_1259 hC (by decide) (fun _ => kk M.2.2.2.2.2.2.2.2.2.1 M.2.2.2.2.2.2.2.2.2.2 w2 σ (by omega) (by omega) (okC_kM okc q2.2.1) q2.2.2) (fun z => absurd rfl z)
