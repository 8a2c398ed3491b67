/-! the law, call by call, on -/
section LC
variable {p : Program} {l : Launch} {e : Env} {s : State} {m : MethodId} {below : List Frame} {meth : Method} {c : Code} {b L : Nat} {xs : Nat → Int32} {E : En} {X : Wd} {H : Heap} {locs : List Loc} {Q : State → Prop} {ls : Array Slot} {i : Nat}
theorem lc_luck (S : CallFix p m c cL_law 4 s #[Value.ref b] wsL_law RL) (hB : BS E s s.heap) (hE : Inj E) (hX : va_X b L xs s s.heap) (hbl : b < s.heap.size) (hbA : ¬ GA E b) (hi : i + 5 ≤ L) (hL : L ≤ 2560) (hC : Cpl X (X 22)) (hP : va_P E.1 vwCl (GW E X) H) (hS : va_S (GA E) s.heap H locs) (hl : lv_has ls 4 [(0, .ref b), (1, .ref (E.ad 0 0)), (2, .ref (E.ad 22 0)), (3, .int (nI i))]) (next : ∀ (X2 : Wd) (H : Heap) (locs : List Loc), Cpl X2 (X2 22) → va_P E.1 vwCl (GW E X2) H → va_S (GA E) s.heap H locs → W p l e room_1 s m #[Value.ref b] below meth c H locs 600000 7302250 Q (F0 m 1605 ls [])) : W p l e room_1 s m #[Value.ref b] below meth c H locs 600000 7302250 Q (F0 m 1098 ls []) := by
  have hx := S.1
  have hb := S.2.1
  obtain ⟨r, X1, M1, f6, f7, e22, hC1⟩ := T_luck hC (xs (nI i + 1).toNatClampNeg) (xs (nI i + 2).toNatClampNeg) (xs (nI i + 3).toNatClampNeg) (xs (nI i + 4).toNatClampNeg)
  rw [← e22] at f7
  have hC2 : Cpl (va_up X1 22 M1) ((va_up X1 22 M1) 22) := by rw [va_up_self]; exact hC1.in22
  refine lv_aload_n hx hb dL_law_1098 rfl (lv_at hl 1 rfl) ?_
  refine lv_aload_n hx hb dL_law_1099 rfl (lv_at hl 0 rfl) ?_
  refine lv_iload_n hx hb dL_law_1100 rfl (lv_at hl 3 rfl) ?_
  refine lv_iconst (v := 1) hx hb dL_law_1101 (by decide) ?_
  refine lv_iadd hx hb dL_law_1102 ?_
  refine va_sld hx hb hX hbl hbA hS (sc_in (j := 1) hi hL (by omega)) dL_law_1103 ?_
  refine lv_aload_n hx hb dL_law_1104 rfl (lv_at hl 0 rfl) ?_
  refine lv_iload_n hx hb dL_law_1105 rfl (lv_at hl 3 rfl) ?_
  refine lv_iconst (v := 2) hx hb dL_law_1106 (by decide) ?_
  refine lv_iadd hx hb dL_law_1107 ?_
  refine va_sld hx hb hX hbl hbA hS (sc_in (j := 2) hi hL (by omega)) dL_law_1108 ?_
  refine lv_aload_n hx hb dL_law_1109 rfl (lv_at hl 0 rfl) ?_
  refine lv_iload_n hx hb dL_law_1110 rfl (lv_at hl 3 rfl) ?_
  refine lv_iconst (v := 3) hx hb dL_law_1111 (by decide) ?_
  refine lv_iadd hx hb dL_law_1112 ?_
  refine va_sld hx hb hX hbl hbA hS (sc_in (j := 3) hi hL (by omega)) dL_law_1113 ?_
  refine lv_aload_n hx hb dL_law_1114 rfl (lv_at hl 0 rfl) ?_
  refine lv_iload_n hx hb dL_law_1115 rfl (lv_at hl 3 rfl) ?_
  refine lv_iconst (v := 4) hx hb dL_law_1116 (by decide) ?_
  refine lv_iadd hx hb dL_law_1117 ?_
  refine va_sld hx hb hX hbl hbA hS (sc_in (j := 4) hi hL (by omega)) dL_law_1118 ?_
  refine callV_l (As := [.int (xs (nI i + 1).toNatClampNeg), .int (xs (nI i + 2).toNatClampNeg), .int (xs (nI i + 3).toNatClampNeg), .int (xs (nI i + 4).toNatClampNeg)]) (rest := []) S hB hP hS (C := RX6) (b := E.ad 0 0) (g_recv (o := 0) (d := 0) hB hP m_0_0 rfl rfl) (K_X6_luck l hE X (xs (nI i + 1).toNatClampNeg) (xs (nI i + 2).toNatClampNeg) (xs (nI i + 3).toNatClampNeg) (xs (nI i + 4).toNatClampNeg) f6) (cwV 4 S.2.2.2.2 gL_law_X6_luck rfl rfl rfl (by decide +kernel) ⟨Nat.le_of_ble_eq_true rfl, Nat.le_of_ble_eq_true rfl⟩) rfl hl.1 rfl (Nat.le_of_ble_eq_true rfl) dL_law_1119 ⟨Nat.le_of_ble_eq_true rfl, Nat.le_of_ble_eq_true rfl⟩ (fun H locs hP hS => ?_)
  refine lv_aload_n hx hb dL_law_1122 rfl (lv_at hl 2 rfl) ?_
  refine lv_aload_n hx hb dL_law_1123 rfl (lv_at hl 0 rfl) ?_
  refine lv_iload_n hx hb dL_law_1124 rfl (lv_at hl 3 rfl) ?_
  refine lv_iconst (v := 1) hx hb dL_law_1125 (by decide) ?_
  refine lv_iadd hx hb dL_law_1126 ?_
  refine va_sld hx hb hX hbl hbA hS (sc_in (j := 1) hi hL (by omega)) dL_law_1127 ?_
  refine lv_aload_n hx hb dL_law_1128 rfl (lv_at hl 0 rfl) ?_
  refine lv_iload_n hx hb dL_law_1129 rfl (lv_at hl 3 rfl) ?_
  refine lv_iconst (v := 2) hx hb dL_law_1130 (by decide) ?_
  refine lv_iadd hx hb dL_law_1131 ?_
  refine va_sld hx hb hX hbl hbA hS (sc_in (j := 2) hi hL (by omega)) dL_law_1132 ?_
  refine lv_aload_n hx hb dL_law_1133 rfl (lv_at hl 0 rfl) ?_
  refine lv_iload_n hx hb dL_law_1134 rfl (lv_at hl 3 rfl) ?_
  refine lv_iconst (v := 3) hx hb dL_law_1135 (by decide) ?_
  refine lv_iadd hx hb dL_law_1136 ?_
  refine va_sld hx hb hX hbl hbA hS (sc_in (j := 3) hi hL (by omega)) dL_law_1137 ?_
  refine lv_aload_n hx hb dL_law_1138 rfl (lv_at hl 0 rfl) ?_
  refine lv_iload_n hx hb dL_law_1139 rfl (lv_at hl 3 rfl) ?_
  refine lv_iconst (v := 4) hx hb dL_law_1140 (by decide) ?_
  refine lv_iadd hx hb dL_law_1141 ?_
  refine va_sld hx hb hX hbl hbA hS (sc_in (j := 4) hi hL (by omega)) dL_law_1142 ?_
  refine callV_l (As := [.int (xs (nI i + 1).toNatClampNeg), .int (xs (nI i + 2).toNatClampNeg), .int (xs (nI i + 3).toNatClampNeg), .int (xs (nI i + 4).toNatClampNeg)]) (rest := [.long r]) S hB hP hS (C := RX7) (b := E.ad 22 0) (g_recv (o := 22) (d := 0) hB hP m_22_0 rfl rfl) (KW_X7_luck l hE X1 (xs (nI i + 1).toNatClampNeg) (xs (nI i + 2).toNatClampNeg) (xs (nI i + 3).toNatClampNeg) (xs (nI i + 4).toNatClampNeg) f7) (cwV 4 S.2.2.2.2 gL_law_X7_luck rfl rfl rfl (by decide +kernel) ⟨Nat.le_of_ble_eq_true rfl, Nat.le_of_ble_eq_true rfl⟩) rfl hl.1 rfl (Nat.le_of_ble_eq_true rfl) dL_law_1143 ⟨Nat.le_of_ble_eq_true rfl, Nat.le_of_ble_eq_true rfl⟩ (fun H locs hP hS => ?_)
  refine W.lcmp hx hb dL_law_1146 ?_
  exact lv_if_eq (tgt := 1605) hx hb dL_law_1147 (by decide) (fun _ => next _ _ _ hC2 hP hS) (fun q => absurd ((cmp_eq r r).mpr rfl) q)
theorem lc_mean (S : CallFix p m c cL_law 4 s #[Value.ref b] wsL_law RL) (hB : BS E s s.heap) (hE : Inj E) (hX : va_X b L xs s s.heap) (hbl : b < s.heap.size) (hbA : ¬ GA E b) (hi : i + 5 ≤ L) (hL : L ≤ 2560) (hC : Cpl X (X 22)) (hP : va_P E.1 vwCl (GW E X) H) (hS : va_S (GA E) s.heap H locs) (hl : lv_has ls 4 [(0, .ref b), (1, .ref (E.ad 0 0)), (2, .ref (E.ad 22 0)), (3, .int (nI i))]) (next : ∀ (X2 : Wd) (H : Heap) (locs : List Loc), Cpl X2 (X2 22) → va_P E.1 vwCl (GW E X2) H → va_S (GA E) s.heap H locs → W p l e room_1 s m #[Value.ref b] below meth c H locs 600000 7302250 Q (F0 m 1605 ls [])) : W p l e room_1 s m #[Value.ref b] below meth c H locs 600000 7302250 Q (F0 m 1152 ls []) := by
  have hx := S.1
  have hb := S.2.1
  obtain ⟨r, X1, M1, f6, f7, e22, hC1⟩ := T_mean hC (xs (nI i + 1).toNatClampNeg) (xs (nI i + 2).toNatClampNeg) (xs (nI i + 3).toNatClampNeg)
  rw [← e22] at f7
  have hC2 : Cpl (va_up X1 22 M1) ((va_up X1 22 M1) 22) := by rw [va_up_self]; exact hC1.in22
  refine lv_aload_n hx hb dL_law_1152 rfl (lv_at hl 1 rfl) ?_
  refine lv_aload_n hx hb dL_law_1153 rfl (lv_at hl 0 rfl) ?_
  refine lv_iload_n hx hb dL_law_1154 rfl (lv_at hl 3 rfl) ?_
  refine lv_iconst (v := 1) hx hb dL_law_1155 (by decide) ?_
  refine lv_iadd hx hb dL_law_1156 ?_
  refine va_sld hx hb hX hbl hbA hS (sc_in (j := 1) hi hL (by omega)) dL_law_1157 ?_
  refine lv_aload_n hx hb dL_law_1158 rfl (lv_at hl 0 rfl) ?_
  refine lv_iload_n hx hb dL_law_1159 rfl (lv_at hl 3 rfl) ?_
  refine lv_iconst (v := 2) hx hb dL_law_1160 (by decide) ?_
  refine lv_iadd hx hb dL_law_1161 ?_
  refine va_sld hx hb hX hbl hbA hS (sc_in (j := 2) hi hL (by omega)) dL_law_1162 ?_
  refine lv_aload_n hx hb dL_law_1163 rfl (lv_at hl 0 rfl) ?_
  refine lv_iload_n hx hb dL_law_1164 rfl (lv_at hl 3 rfl) ?_
  refine lv_iconst (v := 3) hx hb dL_law_1165 (by decide) ?_
  refine lv_iadd hx hb dL_law_1166 ?_
  refine va_sld hx hb hX hbl hbA hS (sc_in (j := 3) hi hL (by omega)) dL_law_1167 ?_
  refine callV_l (As := [.int (xs (nI i + 1).toNatClampNeg), .int (xs (nI i + 2).toNatClampNeg), .int (xs (nI i + 3).toNatClampNeg)]) (rest := []) S hB hP hS (C := RX6) (b := E.ad 0 0) (g_recv (o := 0) (d := 0) hB hP m_0_0 rfl rfl) (K_X6_mean l hE X (xs (nI i + 1).toNatClampNeg) (xs (nI i + 2).toNatClampNeg) (xs (nI i + 3).toNatClampNeg) f6) (cwV 3 S.2.2.2.2 gL_law_X6_mean rfl rfl rfl (by decide +kernel) ⟨Nat.le_of_ble_eq_true rfl, Nat.le_of_ble_eq_true rfl⟩) rfl hl.1 rfl (Nat.le_of_ble_eq_true rfl) dL_law_1168 ⟨Nat.le_of_ble_eq_true rfl, Nat.le_of_ble_eq_true rfl⟩ (fun H locs hP hS => ?_)
  refine lv_aload_n hx hb dL_law_1171 rfl (lv_at hl 2 rfl) ?_
  refine lv_aload_n hx hb dL_law_1172 rfl (lv_at hl 0 rfl) ?_
  refine lv_iload_n hx hb dL_law_1173 rfl (lv_at hl 3 rfl) ?_
  refine lv_iconst (v := 1) hx hb dL_law_1174 (by decide) ?_
  refine lv_iadd hx hb dL_law_1175 ?_
  refine va_sld hx hb hX hbl hbA hS (sc_in (j := 1) hi hL (by omega)) dL_law_1176 ?_
  refine lv_aload_n hx hb dL_law_1177 rfl (lv_at hl 0 rfl) ?_
  refine lv_iload_n hx hb dL_law_1178 rfl (lv_at hl 3 rfl) ?_
  refine lv_iconst (v := 2) hx hb dL_law_1179 (by decide) ?_
  refine lv_iadd hx hb dL_law_1180 ?_
  refine va_sld hx hb hX hbl hbA hS (sc_in (j := 2) hi hL (by omega)) dL_law_1181 ?_
  refine lv_aload_n hx hb dL_law_1182 rfl (lv_at hl 0 rfl) ?_
  refine lv_iload_n hx hb dL_law_1183 rfl (lv_at hl 3 rfl) ?_
  refine lv_iconst (v := 3) hx hb dL_law_1184 (by decide) ?_
  refine lv_iadd hx hb dL_law_1185 ?_
  refine va_sld hx hb hX hbl hbA hS (sc_in (j := 3) hi hL (by omega)) dL_law_1186 ?_
  refine callV_l (As := [.int (xs (nI i + 1).toNatClampNeg), .int (xs (nI i + 2).toNatClampNeg), .int (xs (nI i + 3).toNatClampNeg)]) (rest := [.long r]) S hB hP hS (C := RX7) (b := E.ad 22 0) (g_recv (o := 22) (d := 0) hB hP m_22_0 rfl rfl) (KW_X7_mean l hE X1 (xs (nI i + 1).toNatClampNeg) (xs (nI i + 2).toNatClampNeg) (xs (nI i + 3).toNatClampNeg) f7) (cwV 3 S.2.2.2.2 gL_law_X7_mean rfl rfl rfl (by decide +kernel) ⟨Nat.le_of_ble_eq_true rfl, Nat.le_of_ble_eq_true rfl⟩) rfl hl.1 rfl (Nat.le_of_ble_eq_true rfl) dL_law_1187 ⟨Nat.le_of_ble_eq_true rfl, Nat.le_of_ble_eq_true rfl⟩ (fun H locs hP hS => ?_)
  refine W.lcmp hx hb dL_law_1190 ?_
  exact lv_if_eq (tgt := 1605) hx hb dL_law_1191 (by decide) (fun _ => next _ _ _ hC2 hP hS) (fun q => absurd ((cmp_eq r r).mpr rfl) q)
theorem lc_see (S : CallFix p m c cL_law 4 s #[Value.ref b] wsL_law RL) (hB : BS E s s.heap) (hE : Inj E) (hX : va_X b L xs s s.heap) (hbl : b < s.heap.size) (hbA : ¬ GA E b) (hi : i + 5 ≤ L) (hL : L ≤ 2560) (hC : Cpl X (X 22)) (hP : va_P E.1 vwCl (GW E X) H) (hS : va_S (GA E) s.heap H locs) (hl : lv_has ls 4 [(0, .ref b), (1, .ref (E.ad 0 0)), (2, .ref (E.ad 22 0)), (3, .int (nI i))]) (next : ∀ (X2 : Wd) (H : Heap) (locs : List Loc), Cpl X2 (X2 22) → va_P E.1 vwCl (GW E X2) H → va_S (GA E) s.heap H locs → W p l e room_1 s m #[Value.ref b] below meth c H locs 600000 7302250 Q (F0 m 1605 ls [])) : W p l e room_1 s m #[Value.ref b] below meth c H locs 600000 7302250 Q (F0 m 1196 ls []) := by
  have hx := S.1
  have hb := S.2.1
  obtain ⟨r, X1, M1, f6, f7, e22, hC1⟩ := T_see hC (xs (nI i + 1).toNatClampNeg) (xs (nI i + 2).toNatClampNeg) (xs (nI i + 3).toNatClampNeg)
  rw [← e22] at f7
  have hC2 : Cpl (va_up X1 22 M1) ((va_up X1 22 M1) 22) := by rw [va_up_self]; exact hC1.in22
  refine lv_aload_n hx hb dL_law_1196 rfl (lv_at hl 1 rfl) ?_
  refine lv_aload_n hx hb dL_law_1197 rfl (lv_at hl 0 rfl) ?_
  refine lv_iload_n hx hb dL_law_1198 rfl (lv_at hl 3 rfl) ?_
  refine lv_iconst (v := 1) hx hb dL_law_1199 (by decide) ?_
  refine lv_iadd hx hb dL_law_1200 ?_
  refine va_sld hx hb hX hbl hbA hS (sc_in (j := 1) hi hL (by omega)) dL_law_1201 ?_
  refine lv_aload_n hx hb dL_law_1202 rfl (lv_at hl 0 rfl) ?_
  refine lv_iload_n hx hb dL_law_1203 rfl (lv_at hl 3 rfl) ?_
  refine lv_iconst (v := 2) hx hb dL_law_1204 (by decide) ?_
  refine lv_iadd hx hb dL_law_1205 ?_
  refine va_sld hx hb hX hbl hbA hS (sc_in (j := 2) hi hL (by omega)) dL_law_1206 ?_
  refine lv_aload_n hx hb dL_law_1207 rfl (lv_at hl 0 rfl) ?_
  refine lv_iload_n hx hb dL_law_1208 rfl (lv_at hl 3 rfl) ?_
  refine lv_iconst (v := 3) hx hb dL_law_1209 (by decide) ?_
  refine lv_iadd hx hb dL_law_1210 ?_
  refine va_sld hx hb hX hbl hbA hS (sc_in (j := 3) hi hL (by omega)) dL_law_1211 ?_
  refine callV_i (As := [.int (xs (nI i + 1).toNatClampNeg), .int (xs (nI i + 2).toNatClampNeg), .int (xs (nI i + 3).toNatClampNeg)]) (rest := []) S hB hP hS (C := RX6) (b := E.ad 0 0) (g_recv (o := 0) (d := 0) hB hP m_0_0 rfl rfl) (K_X6_see l hE X (xs (nI i + 1).toNatClampNeg) (xs (nI i + 2).toNatClampNeg) (xs (nI i + 3).toNatClampNeg) f6) (cwV 3 S.2.2.2.2 gL_law_X6_see rfl rfl rfl (by decide +kernel) ⟨Nat.le_of_ble_eq_true rfl, Nat.le_of_ble_eq_true rfl⟩) rfl hl.1 rfl (Nat.le_of_ble_eq_true rfl) dL_law_1212 ⟨Nat.le_of_ble_eq_true rfl, Nat.le_of_ble_eq_true rfl⟩ (fun H locs hP hS => ?_)
  refine lv_aload_n hx hb dL_law_1215 rfl (lv_at hl 2 rfl) ?_
  refine lv_aload_n hx hb dL_law_1216 rfl (lv_at hl 0 rfl) ?_
  refine lv_iload_n hx hb dL_law_1217 rfl (lv_at hl 3 rfl) ?_
  refine lv_iconst (v := 1) hx hb dL_law_1218 (by decide) ?_
  refine lv_iadd hx hb dL_law_1219 ?_
  refine va_sld hx hb hX hbl hbA hS (sc_in (j := 1) hi hL (by omega)) dL_law_1220 ?_
  refine lv_aload_n hx hb dL_law_1221 rfl (lv_at hl 0 rfl) ?_
  refine lv_iload_n hx hb dL_law_1222 rfl (lv_at hl 3 rfl) ?_
  refine lv_iconst (v := 2) hx hb dL_law_1223 (by decide) ?_
  refine lv_iadd hx hb dL_law_1224 ?_
  refine va_sld hx hb hX hbl hbA hS (sc_in (j := 2) hi hL (by omega)) dL_law_1225 ?_
  refine lv_aload_n hx hb dL_law_1226 rfl (lv_at hl 0 rfl) ?_
  refine lv_iload_n hx hb dL_law_1227 rfl (lv_at hl 3 rfl) ?_
  refine lv_iconst (v := 3) hx hb dL_law_1228 (by decide) ?_
  refine lv_iadd hx hb dL_law_1229 ?_
  refine va_sld hx hb hX hbl hbA hS (sc_in (j := 3) hi hL (by omega)) dL_law_1230 ?_
  refine callV_i (As := [.int (xs (nI i + 1).toNatClampNeg), .int (xs (nI i + 2).toNatClampNeg), .int (xs (nI i + 3).toNatClampNeg)]) (rest := [.int r]) S hB hP hS (C := RX7) (b := E.ad 22 0) (g_recv (o := 22) (d := 0) hB hP m_22_0 rfl rfl) (KW_X7_see l hE X1 (xs (nI i + 1).toNatClampNeg) (xs (nI i + 2).toNatClampNeg) (xs (nI i + 3).toNatClampNeg) f7) (cwV 3 S.2.2.2.2 gL_law_X7_see rfl rfl rfl (by decide +kernel) ⟨Nat.le_of_ble_eq_true rfl, Nat.le_of_ble_eq_true rfl⟩) rfl hl.1 rfl (Nat.le_of_ble_eq_true rfl) dL_law_1231 ⟨Nat.le_of_ble_eq_true rfl, Nat.le_of_ble_eq_true rfl⟩ (fun H locs hP hS => ?_)
  exact lv_icmp_eq (tgt := 1605) hx hb dL_law_1234 (by decide) (fun _ => next _ _ _ hC2 hP hS) (fun q => absurd rfl q)
theorem lc_forget (S : CallFix p m c cL_law 4 s #[Value.ref b] wsL_law RL) (hB : BS E s s.heap) (hE : Inj E) (hX : va_X b L xs s s.heap) (hbl : b < s.heap.size) (hbA : ¬ GA E b) (hi : i + 5 ≤ L) (hL : L ≤ 2560) (hC : Cpl X (X 22)) (hP : va_P E.1 vwCl (GW E X) H) (hS : va_S (GA E) s.heap H locs) (hl : lv_has ls 4 [(0, .ref b), (1, .ref (E.ad 0 0)), (2, .ref (E.ad 22 0)), (3, .int (nI i))]) (next : ∀ (X2 : Wd) (H : Heap) (locs : List Loc), Cpl X2 (X2 22) → va_P E.1 vwCl (GW E X2) H → va_S (GA E) s.heap H locs → W p l e room_1 s m #[Value.ref b] below meth c H locs 600000 7302250 Q (F0 m 1605 ls [])) : W p l e room_1 s m #[Value.ref b] below meth c H locs 600000 7302250 Q (F0 m 1239 ls []) := by
  have hx := S.1
  have hb := S.2.1
  obtain ⟨r, X1, M1, f6, f7, e22, hC1⟩ := T_forget hC (xs (nI i + 1).toNatClampNeg)
  rw [← e22] at f7
  have hC2 : Cpl (va_up X1 22 M1) ((va_up X1 22 M1) 22) := by rw [va_up_self]; exact hC1.in22
  refine lv_aload_n hx hb dL_law_1239 rfl (lv_at hl 1 rfl) ?_
  refine lv_aload_n hx hb dL_law_1240 rfl (lv_at hl 0 rfl) ?_
  refine lv_iload_n hx hb dL_law_1241 rfl (lv_at hl 3 rfl) ?_
  refine lv_iconst (v := 1) hx hb dL_law_1242 (by decide) ?_
  refine lv_iadd hx hb dL_law_1243 ?_
  refine va_sld hx hb hX hbl hbA hS (sc_in (j := 1) hi hL (by omega)) dL_law_1244 ?_
  refine callV_i (As := [.int (xs (nI i + 1).toNatClampNeg)]) (rest := []) S hB hP hS (C := RX6) (b := E.ad 0 0) (g_recv (o := 0) (d := 0) hB hP m_0_0 rfl rfl) (K_X6_forget l hE X (xs (nI i + 1).toNatClampNeg) f6) (cwV 1 S.2.2.2.2 gL_law_X6_forget rfl rfl rfl (by decide +kernel) ⟨Nat.le_of_ble_eq_true rfl, Nat.le_of_ble_eq_true rfl⟩) rfl hl.1 rfl (Nat.le_of_ble_eq_true rfl) dL_law_1245 ⟨Nat.le_of_ble_eq_true rfl, Nat.le_of_ble_eq_true rfl⟩ (fun H locs hP hS => ?_)
  refine lv_aload_n hx hb dL_law_1248 rfl (lv_at hl 2 rfl) ?_
  refine lv_aload_n hx hb dL_law_1249 rfl (lv_at hl 0 rfl) ?_
  refine lv_iload_n hx hb dL_law_1250 rfl (lv_at hl 3 rfl) ?_
  refine lv_iconst (v := 1) hx hb dL_law_1251 (by decide) ?_
  refine lv_iadd hx hb dL_law_1252 ?_
  refine va_sld hx hb hX hbl hbA hS (sc_in (j := 1) hi hL (by omega)) dL_law_1253 ?_
  refine callV_i (As := [.int (xs (nI i + 1).toNatClampNeg)]) (rest := [.int r]) S hB hP hS (C := RX7) (b := E.ad 22 0) (g_recv (o := 22) (d := 0) hB hP m_22_0 rfl rfl) (KW_X7_forget l hE X1 (xs (nI i + 1).toNatClampNeg) f7) (cwV 1 S.2.2.2.2 gL_law_X7_forget rfl rfl rfl (by decide +kernel) ⟨Nat.le_of_ble_eq_true rfl, Nat.le_of_ble_eq_true rfl⟩) rfl hl.1 rfl (Nat.le_of_ble_eq_true rfl) dL_law_1254 ⟨Nat.le_of_ble_eq_true rfl, Nat.le_of_ble_eq_true rfl⟩ (fun H locs hP hS => ?_)
  exact lv_icmp_eq (tgt := 1605) hx hb dL_law_1257 (by decide) (fun _ => next _ _ _ hC2 hP hS) (fun q => absurd rfl q)
theorem lc_kinds (S : CallFix p m c cL_law 4 s #[Value.ref b] wsL_law RL) (hB : BS E s s.heap) (hE : Inj E) (hX : va_X b L xs s s.heap) (hbl : b < s.heap.size) (hbA : ¬ GA E b) (hi : i + 5 ≤ L) (hL : L ≤ 2560) (hC : Cpl X (X 22)) (hP : va_P E.1 vwCl (GW E X) H) (hS : va_S (GA E) s.heap H locs) (hl : lv_has ls 4 [(0, .ref b), (1, .ref (E.ad 0 0)), (2, .ref (E.ad 22 0)), (3, .int (nI i))]) (next : ∀ (X2 : Wd) (H : Heap) (locs : List Loc), Cpl X2 (X2 22) → va_P E.1 vwCl (GW E X2) H → va_S (GA E) s.heap H locs → W p l e room_1 s m #[Value.ref b] below meth c H locs 600000 7302250 Q (F0 m 1605 ls [])) : W p l e room_1 s m #[Value.ref b] below meth c H locs 600000 7302250 Q (F0 m 1262 ls []) := by
  have hx := S.1
  have hb := S.2.1
  obtain ⟨r, X1, M1, f6, f7, e22, hC1⟩ := T_kinds hC (xs (nI i + 1).toNatClampNeg)
  rw [← e22] at f7
  have hC2 : Cpl (va_up X1 22 M1) ((va_up X1 22 M1) 22) := by rw [va_up_self]; exact hC1.in22
  refine lv_aload_n hx hb dL_law_1262 rfl (lv_at hl 1 rfl) ?_
  refine lv_aload_n hx hb dL_law_1263 rfl (lv_at hl 0 rfl) ?_
  refine lv_iload_n hx hb dL_law_1264 rfl (lv_at hl 3 rfl) ?_
  refine lv_iconst (v := 1) hx hb dL_law_1265 (by decide) ?_
  refine lv_iadd hx hb dL_law_1266 ?_
  refine va_sld hx hb hX hbl hbA hS (sc_in (j := 1) hi hL (by omega)) dL_law_1267 ?_
  refine callV_i (As := [.int (xs (nI i + 1).toNatClampNeg)]) (rest := []) S hB hP hS (C := RX6) (b := E.ad 0 0) (g_recv (o := 0) (d := 0) hB hP m_0_0 rfl rfl) (K_X6_kinds l hE X (xs (nI i + 1).toNatClampNeg) f6) (cwV 1 S.2.2.2.2 gL_law_X6_kinds rfl rfl rfl (by decide +kernel) ⟨Nat.le_of_ble_eq_true rfl, Nat.le_of_ble_eq_true rfl⟩) rfl hl.1 rfl (Nat.le_of_ble_eq_true rfl) dL_law_1268 ⟨Nat.le_of_ble_eq_true rfl, Nat.le_of_ble_eq_true rfl⟩ (fun H locs hP hS => ?_)
  refine lv_aload_n hx hb dL_law_1271 rfl (lv_at hl 2 rfl) ?_
  refine lv_aload_n hx hb dL_law_1272 rfl (lv_at hl 0 rfl) ?_
  refine lv_iload_n hx hb dL_law_1273 rfl (lv_at hl 3 rfl) ?_
  refine lv_iconst (v := 1) hx hb dL_law_1274 (by decide) ?_
  refine lv_iadd hx hb dL_law_1275 ?_
  refine va_sld hx hb hX hbl hbA hS (sc_in (j := 1) hi hL (by omega)) dL_law_1276 ?_
  refine callV_i (As := [.int (xs (nI i + 1).toNatClampNeg)]) (rest := [.int r]) S hB hP hS (C := RX7) (b := E.ad 22 0) (g_recv (o := 22) (d := 0) hB hP m_22_0 rfl rfl) (KW_X7_kinds l hE X1 (xs (nI i + 1).toNatClampNeg) f7) (cwV 1 S.2.2.2.2 gL_law_X7_kinds rfl rfl rfl (by decide +kernel) ⟨Nat.le_of_ble_eq_true rfl, Nat.le_of_ble_eq_true rfl⟩) rfl hl.1 rfl (Nat.le_of_ble_eq_true rfl) dL_law_1277 ⟨Nat.le_of_ble_eq_true rfl, Nat.le_of_ble_eq_true rfl⟩ (fun H locs hP hS => ?_)
  exact lv_icmp_eq (tgt := 1605) hx hb dL_law_1280 (by decide) (fun _ => next _ _ _ hC2 hP hS) (fun q => absurd rfl q)
theorem lc_tastes (S : CallFix p m c cL_law 4 s #[Value.ref b] wsL_law RL) (hB : BS E s s.heap) (hE : Inj E) (hX : va_X b L xs s s.heap) (hbl : b < s.heap.size) (hbA : ¬ GA E b) (hi : i + 5 ≤ L) (hL : L ≤ 2560) (hC : Cpl X (X 22)) (hP : va_P E.1 vwCl (GW E X) H) (hS : va_S (GA E) s.heap H locs) (hl : lv_has ls 4 [(0, .ref b), (1, .ref (E.ad 0 0)), (2, .ref (E.ad 22 0)), (3, .int (nI i))]) (next : ∀ (X2 : Wd) (H : Heap) (locs : List Loc), Cpl X2 (X2 22) → va_P E.1 vwCl (GW E X2) H → va_S (GA E) s.heap H locs → W p l e room_1 s m #[Value.ref b] below meth c H locs 600000 7302250 Q (F0 m 1605 ls [])) : W p l e room_1 s m #[Value.ref b] below meth c H locs 600000 7302250 Q (F0 m 1285 ls []) := by
  have hx := S.1
  have hb := S.2.1
  obtain ⟨r, X1, M1, f6, f7, e22, hC1⟩ := T_tastes hC (xs (nI i + 1).toNatClampNeg)
  rw [← e22] at f7
  have hC2 : Cpl (va_up X1 22 M1) ((va_up X1 22 M1) 22) := by rw [va_up_self]; exact hC1.in22
  refine lv_aload_n hx hb dL_law_1285 rfl (lv_at hl 1 rfl) ?_
  refine lv_aload_n hx hb dL_law_1286 rfl (lv_at hl 0 rfl) ?_
  refine lv_iload_n hx hb dL_law_1287 rfl (lv_at hl 3 rfl) ?_
  refine lv_iconst (v := 1) hx hb dL_law_1288 (by decide) ?_
  refine lv_iadd hx hb dL_law_1289 ?_
  refine va_sld hx hb hX hbl hbA hS (sc_in (j := 1) hi hL (by omega)) dL_law_1290 ?_
  refine callV_i (As := [.int (xs (nI i + 1).toNatClampNeg)]) (rest := []) S hB hP hS (C := RX6) (b := E.ad 0 0) (g_recv (o := 0) (d := 0) hB hP m_0_0 rfl rfl) (K_X6_tastes l hE X (xs (nI i + 1).toNatClampNeg) f6) (cwV 1 S.2.2.2.2 gL_law_X6_tastes rfl rfl rfl (by decide +kernel) ⟨Nat.le_of_ble_eq_true rfl, Nat.le_of_ble_eq_true rfl⟩) rfl hl.1 rfl (Nat.le_of_ble_eq_true rfl) dL_law_1291 ⟨Nat.le_of_ble_eq_true rfl, Nat.le_of_ble_eq_true rfl⟩ (fun H locs hP hS => ?_)
  refine lv_aload_n hx hb dL_law_1294 rfl (lv_at hl 2 rfl) ?_
  refine lv_aload_n hx hb dL_law_1295 rfl (lv_at hl 0 rfl) ?_
  refine lv_iload_n hx hb dL_law_1296 rfl (lv_at hl 3 rfl) ?_
  refine lv_iconst (v := 1) hx hb dL_law_1297 (by decide) ?_
  refine lv_iadd hx hb dL_law_1298 ?_
  refine va_sld hx hb hX hbl hbA hS (sc_in (j := 1) hi hL (by omega)) dL_law_1299 ?_
  refine callV_i (As := [.int (xs (nI i + 1).toNatClampNeg)]) (rest := [.int r]) S hB hP hS (C := RX7) (b := E.ad 22 0) (g_recv (o := 22) (d := 0) hB hP m_22_0 rfl rfl) (KW_X7_tastes l hE X1 (xs (nI i + 1).toNatClampNeg) f7) (cwV 1 S.2.2.2.2 gL_law_X7_tastes rfl rfl rfl (by decide +kernel) ⟨Nat.le_of_ble_eq_true rfl, Nat.le_of_ble_eq_true rfl⟩) rfl hl.1 rfl (Nat.le_of_ble_eq_true rfl) dL_law_1300 ⟨Nat.le_of_ble_eq_true rfl, Nat.le_of_ble_eq_true rfl⟩ (fun H locs hP hS => ?_)
  exact lv_icmp_eq (tgt := 1605) hx hb dL_law_1303 (by decide) (fun _ => next _ _ _ hC2 hP hS) (fun q => absurd rfl q)
theorem lc_ask (S : CallFix p m c cL_law 4 s #[Value.ref b] wsL_law RL) (hB : BS E s s.heap) (hE : Inj E) (hX : va_X b L xs s s.heap) (hbl : b < s.heap.size) (hbA : ¬ GA E b) (hi : i + 5 ≤ L) (hL : L ≤ 2560) (hC : Cpl X (X 22)) (hP : va_P E.1 vwCl (GW E X) H) (hS : va_S (GA E) s.heap H locs) (hl : lv_has ls 4 [(0, .ref b), (1, .ref (E.ad 0 0)), (2, .ref (E.ad 22 0)), (3, .int (nI i))]) (next : ∀ (X2 : Wd) (H : Heap) (locs : List Loc), Cpl X2 (X2 22) → va_P E.1 vwCl (GW E X2) H → va_S (GA E) s.heap H locs → W p l e room_1 s m #[Value.ref b] below meth c H locs 600000 7302250 Q (F0 m 1605 ls [])) : W p l e room_1 s m #[Value.ref b] below meth c H locs 600000 7302250 Q (F0 m 1308 ls []) := by
  have hx := S.1
  have hb := S.2.1
  obtain ⟨r, X1, M1, f6, f7, e22, hC1⟩ := T_ask hC (xs (nI i + 1).toNatClampNeg) (xs (nI i + 2).toNatClampNeg)
  rw [← e22] at f7
  have hC2 : Cpl (va_up X1 22 M1) ((va_up X1 22 M1) 22) := by rw [va_up_self]; exact hC1.in22
  refine lv_aload_n hx hb dL_law_1308 rfl (lv_at hl 1 rfl) ?_
  refine lv_aload_n hx hb dL_law_1309 rfl (lv_at hl 0 rfl) ?_
  refine lv_iload_n hx hb dL_law_1310 rfl (lv_at hl 3 rfl) ?_
  refine lv_iconst (v := 1) hx hb dL_law_1311 (by decide) ?_
  refine lv_iadd hx hb dL_law_1312 ?_
  refine va_sld hx hb hX hbl hbA hS (sc_in (j := 1) hi hL (by omega)) dL_law_1313 ?_
  refine lv_aload_n hx hb dL_law_1314 rfl (lv_at hl 0 rfl) ?_
  refine lv_iload_n hx hb dL_law_1315 rfl (lv_at hl 3 rfl) ?_
  refine lv_iconst (v := 2) hx hb dL_law_1316 (by decide) ?_
  refine lv_iadd hx hb dL_law_1317 ?_
  refine va_sld hx hb hX hbl hbA hS (sc_in (j := 2) hi hL (by omega)) dL_law_1318 ?_
  refine callV_i (As := [.int (xs (nI i + 1).toNatClampNeg), .int (xs (nI i + 2).toNatClampNeg)]) (rest := []) S hB hP hS (C := RX6) (b := E.ad 0 0) (g_recv (o := 0) (d := 0) hB hP m_0_0 rfl rfl) (K_X6_ask l hE X (xs (nI i + 1).toNatClampNeg) (xs (nI i + 2).toNatClampNeg) f6) (cwV 2 S.2.2.2.2 gL_law_X6_ask rfl rfl rfl (by decide +kernel) ⟨Nat.le_of_ble_eq_true rfl, Nat.le_of_ble_eq_true rfl⟩) rfl hl.1 rfl (Nat.le_of_ble_eq_true rfl) dL_law_1319 ⟨Nat.le_of_ble_eq_true rfl, Nat.le_of_ble_eq_true rfl⟩ (fun H locs hP hS => ?_)
  refine lv_aload_n hx hb dL_law_1322 rfl (lv_at hl 2 rfl) ?_
  refine lv_aload_n hx hb dL_law_1323 rfl (lv_at hl 0 rfl) ?_
  refine lv_iload_n hx hb dL_law_1324 rfl (lv_at hl 3 rfl) ?_
  refine lv_iconst (v := 1) hx hb dL_law_1325 (by decide) ?_
  refine lv_iadd hx hb dL_law_1326 ?_
  refine va_sld hx hb hX hbl hbA hS (sc_in (j := 1) hi hL (by omega)) dL_law_1327 ?_
  refine lv_aload_n hx hb dL_law_1328 rfl (lv_at hl 0 rfl) ?_
  refine lv_iload_n hx hb dL_law_1329 rfl (lv_at hl 3 rfl) ?_
  refine lv_iconst (v := 2) hx hb dL_law_1330 (by decide) ?_
  refine lv_iadd hx hb dL_law_1331 ?_
  refine va_sld hx hb hX hbl hbA hS (sc_in (j := 2) hi hL (by omega)) dL_law_1332 ?_
  refine callV_i (As := [.int (xs (nI i + 1).toNatClampNeg), .int (xs (nI i + 2).toNatClampNeg)]) (rest := [.int r]) S hB hP hS (C := RX7) (b := E.ad 22 0) (g_recv (o := 22) (d := 0) hB hP m_22_0 rfl rfl) (KW_X7_ask l hE X1 (xs (nI i + 1).toNatClampNeg) (xs (nI i + 2).toNatClampNeg) f7) (cwV 2 S.2.2.2.2 gL_law_X7_ask rfl rfl rfl (by decide +kernel) ⟨Nat.le_of_ble_eq_true rfl, Nat.le_of_ble_eq_true rfl⟩) rfl hl.1 rfl (Nat.le_of_ble_eq_true rfl) dL_law_1333 ⟨Nat.le_of_ble_eq_true rfl, Nat.le_of_ble_eq_true rfl⟩ (fun H locs hP hS => ?_)
  exact lv_icmp_eq (tgt := 1605) hx hb dL_law_1336 (by decide) (fun _ => next _ _ _ hC2 hP hS) (fun q => absurd rfl q)
theorem lc_drift (S : CallFix p m c cL_law 4 s #[Value.ref b] wsL_law RL) (hB : BS E s s.heap) (hE : Inj E) (hX : va_X b L xs s s.heap) (hbl : b < s.heap.size) (hbA : ¬ GA E b) (hi : i + 5 ≤ L) (hL : L ≤ 2560) (hC : Cpl X (X 22)) (hP : va_P E.1 vwCl (GW E X) H) (hS : va_S (GA E) s.heap H locs) (hl : lv_has ls 4 [(0, .ref b), (1, .ref (E.ad 0 0)), (2, .ref (E.ad 22 0)), (3, .int (nI i))]) (next : ∀ (X2 : Wd) (H : Heap) (locs : List Loc), Cpl X2 (X2 22) → va_P E.1 vwCl (GW E X2) H → va_S (GA E) s.heap H locs → W p l e room_1 s m #[Value.ref b] below meth c H locs 600000 7302250 Q (F0 m 1605 ls [])) : W p l e room_1 s m #[Value.ref b] below meth c H locs 600000 7302250 Q (F0 m 1341 ls []) := by
  have hx := S.1
  have hb := S.2.1
  obtain ⟨r, X1, M1, f6, f7, e22, hC1⟩ := T_drift hC (xs (nI i + 1).toNatClampNeg) (xs (nI i + 2).toNatClampNeg) (xs (nI i + 3).toNatClampNeg)
  rw [← e22] at f7
  have hC2 : Cpl (va_up X1 22 M1) ((va_up X1 22 M1) 22) := by rw [va_up_self]; exact hC1.in22
  refine lv_aload_n hx hb dL_law_1341 rfl (lv_at hl 1 rfl) ?_
  refine lv_aload_n hx hb dL_law_1342 rfl (lv_at hl 0 rfl) ?_
  refine lv_iload_n hx hb dL_law_1343 rfl (lv_at hl 3 rfl) ?_
  refine lv_iconst (v := 1) hx hb dL_law_1344 (by decide) ?_
  refine lv_iadd hx hb dL_law_1345 ?_
  refine va_sld hx hb hX hbl hbA hS (sc_in (j := 1) hi hL (by omega)) dL_law_1346 ?_
  refine lv_aload_n hx hb dL_law_1347 rfl (lv_at hl 0 rfl) ?_
  refine lv_iload_n hx hb dL_law_1348 rfl (lv_at hl 3 rfl) ?_
  refine lv_iconst (v := 2) hx hb dL_law_1349 (by decide) ?_
  refine lv_iadd hx hb dL_law_1350 ?_
  refine va_sld hx hb hX hbl hbA hS (sc_in (j := 2) hi hL (by omega)) dL_law_1351 ?_
  refine lv_aload_n hx hb dL_law_1352 rfl (lv_at hl 0 rfl) ?_
  refine lv_iload_n hx hb dL_law_1353 rfl (lv_at hl 3 rfl) ?_
  refine lv_iconst (v := 3) hx hb dL_law_1354 (by decide) ?_
  refine lv_iadd hx hb dL_law_1355 ?_
  refine va_sld hx hb hX hbl hbA hS (sc_in (j := 3) hi hL (by omega)) dL_law_1356 ?_
  refine callV_i (As := [.int (xs (nI i + 1).toNatClampNeg), .int (xs (nI i + 2).toNatClampNeg), .int (xs (nI i + 3).toNatClampNeg)]) (rest := []) S hB hP hS (C := RX6) (b := E.ad 0 0) (g_recv (o := 0) (d := 0) hB hP m_0_0 rfl rfl) (K_X6_drift l hE X (xs (nI i + 1).toNatClampNeg) (xs (nI i + 2).toNatClampNeg) (xs (nI i + 3).toNatClampNeg) f6) (cwV 3 S.2.2.2.2 gL_law_X6_drift rfl rfl rfl (by decide +kernel) ⟨Nat.le_of_ble_eq_true rfl, Nat.le_of_ble_eq_true rfl⟩) rfl hl.1 rfl (Nat.le_of_ble_eq_true rfl) dL_law_1357 ⟨Nat.le_of_ble_eq_true rfl, Nat.le_of_ble_eq_true rfl⟩ (fun H locs hP hS => ?_)
  refine lv_aload_n hx hb dL_law_1360 rfl (lv_at hl 2 rfl) ?_
  refine lv_aload_n hx hb dL_law_1361 rfl (lv_at hl 0 rfl) ?_
  refine lv_iload_n hx hb dL_law_1362 rfl (lv_at hl 3 rfl) ?_
  refine lv_iconst (v := 1) hx hb dL_law_1363 (by decide) ?_
  refine lv_iadd hx hb dL_law_1364 ?_
  refine va_sld hx hb hX hbl hbA hS (sc_in (j := 1) hi hL (by omega)) dL_law_1365 ?_
  refine lv_aload_n hx hb dL_law_1366 rfl (lv_at hl 0 rfl) ?_
  refine lv_iload_n hx hb dL_law_1367 rfl (lv_at hl 3 rfl) ?_
  refine lv_iconst (v := 2) hx hb dL_law_1368 (by decide) ?_
  refine lv_iadd hx hb dL_law_1369 ?_
  refine va_sld hx hb hX hbl hbA hS (sc_in (j := 2) hi hL (by omega)) dL_law_1370 ?_
  refine lv_aload_n hx hb dL_law_1371 rfl (lv_at hl 0 rfl) ?_
  refine lv_iload_n hx hb dL_law_1372 rfl (lv_at hl 3 rfl) ?_
  refine lv_iconst (v := 3) hx hb dL_law_1373 (by decide) ?_
  refine lv_iadd hx hb dL_law_1374 ?_
  refine va_sld hx hb hX hbl hbA hS (sc_in (j := 3) hi hL (by omega)) dL_law_1375 ?_
  refine callV_i (As := [.int (xs (nI i + 1).toNatClampNeg), .int (xs (nI i + 2).toNatClampNeg), .int (xs (nI i + 3).toNatClampNeg)]) (rest := [.int r]) S hB hP hS (C := RX7) (b := E.ad 22 0) (g_recv (o := 22) (d := 0) hB hP m_22_0 rfl rfl) (KW_X7_drift l hE X1 (xs (nI i + 1).toNatClampNeg) (xs (nI i + 2).toNatClampNeg) (xs (nI i + 3).toNatClampNeg) f7) (cwV 3 S.2.2.2.2 gL_law_X7_drift rfl rfl rfl (by decide +kernel) ⟨Nat.le_of_ble_eq_true rfl, Nat.le_of_ble_eq_true rfl⟩) rfl hl.1 rfl (Nat.le_of_ble_eq_true rfl) dL_law_1376 ⟨Nat.le_of_ble_eq_true rfl, Nat.le_of_ble_eq_true rfl⟩ (fun H locs hP hS => ?_)
  exact lv_icmp_eq (tgt := 1605) hx hb dL_law_1379 (by decide) (fun _ => next _ _ _ hC2 hP hS) (fun q => absurd rfl q)
theorem lc_keep (S : CallFix p m c cL_law 4 s #[Value.ref b] wsL_law RL) (hB : BS E s s.heap) (hE : Inj E) (hX : va_X b L xs s s.heap) (hbl : b < s.heap.size) (hbA : ¬ GA E b) (hi : i + 5 ≤ L) (hL : L ≤ 2560) (hC : Cpl X (X 22)) (hP : va_P E.1 vwCl (GW E X) H) (hS : va_S (GA E) s.heap H locs) (hl : lv_has ls 4 [(0, .ref b), (1, .ref (E.ad 0 0)), (2, .ref (E.ad 22 0)), (3, .int (nI i))]) (next : ∀ (X2 : Wd) (H : Heap) (locs : List Loc), Cpl X2 (X2 22) → va_P E.1 vwCl (GW E X2) H → va_S (GA E) s.heap H locs → W p l e room_1 s m #[Value.ref b] below meth c H locs 600000 7302250 Q (F0 m 1605 ls [])) : W p l e room_1 s m #[Value.ref b] below meth c H locs 600000 7302250 Q (F0 m 1384 ls []) := by
  have hx := S.1
  have hb := S.2.1
  obtain ⟨r, X1, M1, f6, f7, e22, hC1⟩ := T_keep hC (xs (nI i + 1).toNatClampNeg)
  rw [← e22] at f7
  have hC2 : Cpl (va_up X1 22 M1) ((va_up X1 22 M1) 22) := by rw [va_up_self]; exact hC1.in22
  refine lv_aload_n hx hb dL_law_1384 rfl (lv_at hl 1 rfl) ?_
  refine lv_aload_n hx hb dL_law_1385 rfl (lv_at hl 0 rfl) ?_
  refine lv_iload_n hx hb dL_law_1386 rfl (lv_at hl 3 rfl) ?_
  refine lv_iconst (v := 1) hx hb dL_law_1387 (by decide) ?_
  refine lv_iadd hx hb dL_law_1388 ?_
  refine va_sld hx hb hX hbl hbA hS (sc_in (j := 1) hi hL (by omega)) dL_law_1389 ?_
  refine callV_i (As := [.int (xs (nI i + 1).toNatClampNeg)]) (rest := []) S hB hP hS (C := RX6) (b := E.ad 0 0) (g_recv (o := 0) (d := 0) hB hP m_0_0 rfl rfl) (K_X6_keep l hE X (xs (nI i + 1).toNatClampNeg) f6) (cwV 1 S.2.2.2.2 gL_law_X6_keep rfl rfl rfl (by decide +kernel) ⟨Nat.le_of_ble_eq_true rfl, Nat.le_of_ble_eq_true rfl⟩) rfl hl.1 rfl (Nat.le_of_ble_eq_true rfl) dL_law_1390 ⟨Nat.le_of_ble_eq_true rfl, Nat.le_of_ble_eq_true rfl⟩ (fun H locs hP hS => ?_)
  refine lv_aload_n hx hb dL_law_1393 rfl (lv_at hl 2 rfl) ?_
  refine lv_aload_n hx hb dL_law_1394 rfl (lv_at hl 0 rfl) ?_
  refine lv_iload_n hx hb dL_law_1395 rfl (lv_at hl 3 rfl) ?_
  refine lv_iconst (v := 1) hx hb dL_law_1396 (by decide) ?_
  refine lv_iadd hx hb dL_law_1397 ?_
  refine va_sld hx hb hX hbl hbA hS (sc_in (j := 1) hi hL (by omega)) dL_law_1398 ?_
  refine callV_i (As := [.int (xs (nI i + 1).toNatClampNeg)]) (rest := [.int r]) S hB hP hS (C := RX7) (b := E.ad 22 0) (g_recv (o := 22) (d := 0) hB hP m_22_0 rfl rfl) (KW_X7_keep l hE X1 (xs (nI i + 1).toNatClampNeg) f7) (cwV 1 S.2.2.2.2 gL_law_X7_keep rfl rfl rfl (by decide +kernel) ⟨Nat.le_of_ble_eq_true rfl, Nat.le_of_ble_eq_true rfl⟩) rfl hl.1 rfl (Nat.le_of_ble_eq_true rfl) dL_law_1399 ⟨Nat.le_of_ble_eq_true rfl, Nat.le_of_ble_eq_true rfl⟩ (fun H locs hP hS => ?_)
  exact lv_icmp_eq (tgt := 1605) hx hb dL_law_1402 (by decide) (fun _ => next _ _ _ hC2 hP hS) (fun q => absurd rfl q)
theorem lc_back (S : CallFix p m c cL_law 4 s #[Value.ref b] wsL_law RL) (hB : BS E s s.heap) (hE : Inj E) (hX : va_X b L xs s s.heap) (hbl : b < s.heap.size) (hbA : ¬ GA E b) (hi : i + 5 ≤ L) (hL : L ≤ 2560) (hC : Cpl X (X 22)) (hP : va_P E.1 vwCl (GW E X) H) (hS : va_S (GA E) s.heap H locs) (hl : lv_has ls 4 [(0, .ref b), (1, .ref (E.ad 0 0)), (2, .ref (E.ad 22 0)), (3, .int (nI i))]) (next : ∀ (X2 : Wd) (H : Heap) (locs : List Loc), Cpl X2 (X2 22) → va_P E.1 vwCl (GW E X2) H → va_S (GA E) s.heap H locs → W p l e room_1 s m #[Value.ref b] below meth c H locs 600000 7302250 Q (F0 m 1605 ls [])) : W p l e room_1 s m #[Value.ref b] below meth c H locs 600000 7302250 Q (F0 m 1407 ls []) := by
  have hx := S.1
  have hb := S.2.1
  obtain ⟨r, X1, M1, f6, f7, e22, hC1⟩ := T_back hC (xs (nI i + 1).toNatClampNeg)
  rw [← e22] at f7
  have hC2 : Cpl (va_up X1 22 M1) ((va_up X1 22 M1) 22) := by rw [va_up_self]; exact hC1.in22
  refine lv_aload_n hx hb dL_law_1407 rfl (lv_at hl 1 rfl) ?_
  refine lv_aload_n hx hb dL_law_1408 rfl (lv_at hl 0 rfl) ?_
  refine lv_iload_n hx hb dL_law_1409 rfl (lv_at hl 3 rfl) ?_
  refine lv_iconst (v := 1) hx hb dL_law_1410 (by decide) ?_
  refine lv_iadd hx hb dL_law_1411 ?_
  refine va_sld hx hb hX hbl hbA hS (sc_in (j := 1) hi hL (by omega)) dL_law_1412 ?_
  refine callV_i (As := [.int (xs (nI i + 1).toNatClampNeg)]) (rest := []) S hB hP hS (C := RX6) (b := E.ad 0 0) (g_recv (o := 0) (d := 0) hB hP m_0_0 rfl rfl) (K_X6_back l hE X (xs (nI i + 1).toNatClampNeg) f6) (cwV 1 S.2.2.2.2 gL_law_X6_back rfl rfl rfl (by decide +kernel) ⟨Nat.le_of_ble_eq_true rfl, Nat.le_of_ble_eq_true rfl⟩) rfl hl.1 rfl (Nat.le_of_ble_eq_true rfl) dL_law_1413 ⟨Nat.le_of_ble_eq_true rfl, Nat.le_of_ble_eq_true rfl⟩ (fun H locs hP hS => ?_)
  refine lv_aload_n hx hb dL_law_1416 rfl (lv_at hl 2 rfl) ?_
  refine lv_aload_n hx hb dL_law_1417 rfl (lv_at hl 0 rfl) ?_
  refine lv_iload_n hx hb dL_law_1418 rfl (lv_at hl 3 rfl) ?_
  refine lv_iconst (v := 1) hx hb dL_law_1419 (by decide) ?_
  refine lv_iadd hx hb dL_law_1420 ?_
  refine va_sld hx hb hX hbl hbA hS (sc_in (j := 1) hi hL (by omega)) dL_law_1421 ?_
  refine callV_i (As := [.int (xs (nI i + 1).toNatClampNeg)]) (rest := [.int r]) S hB hP hS (C := RX7) (b := E.ad 22 0) (g_recv (o := 22) (d := 0) hB hP m_22_0 rfl rfl) (KW_X7_back l hE X1 (xs (nI i + 1).toNatClampNeg) f7) (cwV 1 S.2.2.2.2 gL_law_X7_back rfl rfl rfl (by decide +kernel) ⟨Nat.le_of_ble_eq_true rfl, Nat.le_of_ble_eq_true rfl⟩) rfl hl.1 rfl (Nat.le_of_ble_eq_true rfl) dL_law_1422 ⟨Nat.le_of_ble_eq_true rfl, Nat.le_of_ble_eq_true rfl⟩ (fun H locs hP hS => ?_)
  exact lv_icmp_eq (tgt := 1605) hx hb dL_law_1425 (by decide) (fun _ => next _ _ _ hC2 hP hS) (fun q => absurd rfl q)
theorem lc_sheet (S : CallFix p m c cL_law 4 s #[Value.ref b] wsL_law RL) (hB : BS E s s.heap) (hE : Inj E) (hX : va_X b L xs s s.heap) (hbl : b < s.heap.size) (hbA : ¬ GA E b) (hi : i + 5 ≤ L) (hL : L ≤ 2560) (hC : Cpl X (X 22)) (hP : va_P E.1 vwCl (GW E X) H) (hS : va_S (GA E) s.heap H locs) (hl : lv_has ls 4 [(0, .ref b), (1, .ref (E.ad 0 0)), (2, .ref (E.ad 22 0)), (3, .int (nI i))]) (next : ∀ (X2 : Wd) (H : Heap) (locs : List Loc), Cpl X2 (X2 22) → va_P E.1 vwCl (GW E X2) H → va_S (GA E) s.heap H locs → W p l e room_1 s m #[Value.ref b] below meth c H locs 600000 7302250 Q (F0 m 1605 ls [])) : W p l e room_1 s m #[Value.ref b] below meth c H locs 600000 7302250 Q (F0 m 1430 ls []) := by
  have hx := S.1
  have hb := S.2.1
  obtain ⟨r, X1, M1, f6, f7, e22, hC1⟩ := T_sheet hC (xs (nI i + 1).toNatClampNeg) (xs (nI i + 2).toNatClampNeg) (xs (nI i + 3).toNatClampNeg)
  rw [← e22] at f7
  have hC2 : Cpl (va_up X1 22 M1) ((va_up X1 22 M1) 22) := by rw [va_up_self]; exact hC1.in22
  refine lv_aload_n hx hb dL_law_1430 rfl (lv_at hl 1 rfl) ?_
  refine lv_aload_n hx hb dL_law_1431 rfl (lv_at hl 0 rfl) ?_
  refine lv_iload_n hx hb dL_law_1432 rfl (lv_at hl 3 rfl) ?_
  refine lv_iconst (v := 1) hx hb dL_law_1433 (by decide) ?_
  refine lv_iadd hx hb dL_law_1434 ?_
  refine va_sld hx hb hX hbl hbA hS (sc_in (j := 1) hi hL (by omega)) dL_law_1435 ?_
  refine lv_aload_n hx hb dL_law_1436 rfl (lv_at hl 0 rfl) ?_
  refine lv_iload_n hx hb dL_law_1437 rfl (lv_at hl 3 rfl) ?_
  refine lv_iconst (v := 2) hx hb dL_law_1438 (by decide) ?_
  refine lv_iadd hx hb dL_law_1439 ?_
  refine va_sld hx hb hX hbl hbA hS (sc_in (j := 2) hi hL (by omega)) dL_law_1440 ?_
  refine lv_aload_n hx hb dL_law_1441 rfl (lv_at hl 0 rfl) ?_
  refine lv_iload_n hx hb dL_law_1442 rfl (lv_at hl 3 rfl) ?_
  refine lv_iconst (v := 3) hx hb dL_law_1443 (by decide) ?_
  refine lv_iadd hx hb dL_law_1444 ?_
  refine va_sld hx hb hX hbl hbA hS (sc_in (j := 3) hi hL (by omega)) dL_law_1445 ?_
  refine callV_i (As := [.int (xs (nI i + 1).toNatClampNeg), .int (xs (nI i + 2).toNatClampNeg), .int (xs (nI i + 3).toNatClampNeg)]) (rest := []) S hB hP hS (C := RX6) (b := E.ad 0 0) (g_recv (o := 0) (d := 0) hB hP m_0_0 rfl rfl) (K_X6_sheet l hE X (xs (nI i + 1).toNatClampNeg) (xs (nI i + 2).toNatClampNeg) (xs (nI i + 3).toNatClampNeg) f6) (cwV 3 S.2.2.2.2 gL_law_X6_sheet rfl rfl rfl (by decide +kernel) ⟨Nat.le_of_ble_eq_true rfl, Nat.le_of_ble_eq_true rfl⟩) rfl hl.1 rfl (Nat.le_of_ble_eq_true rfl) dL_law_1446 ⟨Nat.le_of_ble_eq_true rfl, Nat.le_of_ble_eq_true rfl⟩ (fun H locs hP hS => ?_)
  refine lv_aload_n hx hb dL_law_1449 rfl (lv_at hl 2 rfl) ?_
  refine lv_aload_n hx hb dL_law_1450 rfl (lv_at hl 0 rfl) ?_
  refine lv_iload_n hx hb dL_law_1451 rfl (lv_at hl 3 rfl) ?_
  refine lv_iconst (v := 1) hx hb dL_law_1452 (by decide) ?_
  refine lv_iadd hx hb dL_law_1453 ?_
  refine va_sld hx hb hX hbl hbA hS (sc_in (j := 1) hi hL (by omega)) dL_law_1454 ?_
  refine lv_aload_n hx hb dL_law_1455 rfl (lv_at hl 0 rfl) ?_
  refine lv_iload_n hx hb dL_law_1456 rfl (lv_at hl 3 rfl) ?_
  refine lv_iconst (v := 2) hx hb dL_law_1457 (by decide) ?_
  refine lv_iadd hx hb dL_law_1458 ?_
  refine va_sld hx hb hX hbl hbA hS (sc_in (j := 2) hi hL (by omega)) dL_law_1459 ?_
  refine lv_aload_n hx hb dL_law_1460 rfl (lv_at hl 0 rfl) ?_
  refine lv_iload_n hx hb dL_law_1461 rfl (lv_at hl 3 rfl) ?_
  refine lv_iconst (v := 3) hx hb dL_law_1462 (by decide) ?_
  refine lv_iadd hx hb dL_law_1463 ?_
  refine va_sld hx hb hX hbl hbA hS (sc_in (j := 3) hi hL (by omega)) dL_law_1464 ?_
  refine callV_i (As := [.int (xs (nI i + 1).toNatClampNeg), .int (xs (nI i + 2).toNatClampNeg), .int (xs (nI i + 3).toNatClampNeg)]) (rest := [.int r]) S hB hP hS (C := RX7) (b := E.ad 22 0) (g_recv (o := 22) (d := 0) hB hP m_22_0 rfl rfl) (KW_X7_sheet l hE X1 (xs (nI i + 1).toNatClampNeg) (xs (nI i + 2).toNatClampNeg) (xs (nI i + 3).toNatClampNeg) f7) (cwV 3 S.2.2.2.2 gL_law_X7_sheet rfl rfl rfl (by decide +kernel) ⟨Nat.le_of_ble_eq_true rfl, Nat.le_of_ble_eq_true rfl⟩) rfl hl.1 rfl (Nat.le_of_ble_eq_true rfl) dL_law_1465 ⟨Nat.le_of_ble_eq_true rfl, Nat.le_of_ble_eq_true rfl⟩ (fun H locs hP hS => ?_)
  exact lv_icmp_eq (tgt := 1605) hx hb dL_law_1468 (by decide) (fun _ => next _ _ _ hC2 hP hS) (fun q => absurd rfl q)
theorem lc_lay (S : CallFix p m c cL_law 4 s #[Value.ref b] wsL_law RL) (hB : BS E s s.heap) (hE : Inj E) (hX : va_X b L xs s s.heap) (hbl : b < s.heap.size) (hbA : ¬ GA E b) (hi : i + 5 ≤ L) (hL : L ≤ 2560) (hC : Cpl X (X 22)) (hP : va_P E.1 vwCl (GW E X) H) (hS : va_S (GA E) s.heap H locs) (hl : lv_has ls 4 [(0, .ref b), (1, .ref (E.ad 0 0)), (2, .ref (E.ad 22 0)), (3, .int (nI i))]) (next : ∀ (X2 : Wd) (H : Heap) (locs : List Loc), Cpl X2 (X2 22) → va_P E.1 vwCl (GW E X2) H → va_S (GA E) s.heap H locs → W p l e room_1 s m #[Value.ref b] below meth c H locs 600000 7302250 Q (F0 m 1605 ls [])) : W p l e room_1 s m #[Value.ref b] below meth c H locs 600000 7302250 Q (F0 m 1473 ls []) := by
  have hx := S.1
  have hb := S.2.1
  obtain ⟨r, X1, M1, f6, f7, e22, hC1⟩ := T_lay hC (xs (nI i + 1).toNatClampNeg) (xs (nI i + 2).toNatClampNeg) (xs (nI i + 3).toNatClampNeg)
  rw [← e22] at f7
  have hC2 : Cpl (va_up X1 22 M1) ((va_up X1 22 M1) 22) := by rw [va_up_self]; exact hC1.in22
  refine lv_aload_n hx hb dL_law_1473 rfl (lv_at hl 1 rfl) ?_
  refine lv_aload_n hx hb dL_law_1474 rfl (lv_at hl 0 rfl) ?_
  refine lv_iload_n hx hb dL_law_1475 rfl (lv_at hl 3 rfl) ?_
  refine lv_iconst (v := 1) hx hb dL_law_1476 (by decide) ?_
  refine lv_iadd hx hb dL_law_1477 ?_
  refine va_sld hx hb hX hbl hbA hS (sc_in (j := 1) hi hL (by omega)) dL_law_1478 ?_
  refine lv_aload_n hx hb dL_law_1479 rfl (lv_at hl 0 rfl) ?_
  refine lv_iload_n hx hb dL_law_1480 rfl (lv_at hl 3 rfl) ?_
  refine lv_iconst (v := 2) hx hb dL_law_1481 (by decide) ?_
  refine lv_iadd hx hb dL_law_1482 ?_
  refine va_sld hx hb hX hbl hbA hS (sc_in (j := 2) hi hL (by omega)) dL_law_1483 ?_
  refine lv_aload_n hx hb dL_law_1484 rfl (lv_at hl 0 rfl) ?_
  refine lv_iload_n hx hb dL_law_1485 rfl (lv_at hl 3 rfl) ?_
  refine lv_iconst (v := 3) hx hb dL_law_1486 (by decide) ?_
  refine lv_iadd hx hb dL_law_1487 ?_
  refine va_sld hx hb hX hbl hbA hS (sc_in (j := 3) hi hL (by omega)) dL_law_1488 ?_
  refine callV_i (As := [.int (xs (nI i + 1).toNatClampNeg), .int (xs (nI i + 2).toNatClampNeg), .int (xs (nI i + 3).toNatClampNeg)]) (rest := []) S hB hP hS (C := RX6) (b := E.ad 0 0) (g_recv (o := 0) (d := 0) hB hP m_0_0 rfl rfl) (K_X6_lay l hE X (xs (nI i + 1).toNatClampNeg) (xs (nI i + 2).toNatClampNeg) (xs (nI i + 3).toNatClampNeg) f6) (cwV 3 S.2.2.2.2 gL_law_X6_lay rfl rfl rfl (by decide +kernel) ⟨Nat.le_of_ble_eq_true rfl, Nat.le_of_ble_eq_true rfl⟩) rfl hl.1 rfl (Nat.le_of_ble_eq_true rfl) dL_law_1489 ⟨Nat.le_of_ble_eq_true rfl, Nat.le_of_ble_eq_true rfl⟩ (fun H locs hP hS => ?_)
  refine lv_aload_n hx hb dL_law_1492 rfl (lv_at hl 2 rfl) ?_
  refine lv_aload_n hx hb dL_law_1493 rfl (lv_at hl 0 rfl) ?_
  refine lv_iload_n hx hb dL_law_1494 rfl (lv_at hl 3 rfl) ?_
  refine lv_iconst (v := 1) hx hb dL_law_1495 (by decide) ?_
  refine lv_iadd hx hb dL_law_1496 ?_
  refine va_sld hx hb hX hbl hbA hS (sc_in (j := 1) hi hL (by omega)) dL_law_1497 ?_
  refine lv_aload_n hx hb dL_law_1498 rfl (lv_at hl 0 rfl) ?_
  refine lv_iload_n hx hb dL_law_1499 rfl (lv_at hl 3 rfl) ?_
  refine lv_iconst (v := 2) hx hb dL_law_1500 (by decide) ?_
  refine lv_iadd hx hb dL_law_1501 ?_
  refine va_sld hx hb hX hbl hbA hS (sc_in (j := 2) hi hL (by omega)) dL_law_1502 ?_
  refine lv_aload_n hx hb dL_law_1503 rfl (lv_at hl 0 rfl) ?_
  refine lv_iload_n hx hb dL_law_1504 rfl (lv_at hl 3 rfl) ?_
  refine lv_iconst (v := 3) hx hb dL_law_1505 (by decide) ?_
  refine lv_iadd hx hb dL_law_1506 ?_
  refine va_sld hx hb hX hbl hbA hS (sc_in (j := 3) hi hL (by omega)) dL_law_1507 ?_
  refine callV_i (As := [.int (xs (nI i + 1).toNatClampNeg), .int (xs (nI i + 2).toNatClampNeg), .int (xs (nI i + 3).toNatClampNeg)]) (rest := [.int r]) S hB hP hS (C := RX7) (b := E.ad 22 0) (g_recv (o := 22) (d := 0) hB hP m_22_0 rfl rfl) (KW_X7_lay l hE X1 (xs (nI i + 1).toNatClampNeg) (xs (nI i + 2).toNatClampNeg) (xs (nI i + 3).toNatClampNeg) f7) (cwV 3 S.2.2.2.2 gL_law_X7_lay rfl rfl rfl (by decide +kernel) ⟨Nat.le_of_ble_eq_true rfl, Nat.le_of_ble_eq_true rfl⟩) rfl hl.1 rfl (Nat.le_of_ble_eq_true rfl) dL_law_1508 ⟨Nat.le_of_ble_eq_true rfl, Nat.le_of_ble_eq_true rfl⟩ (fun H locs hP hS => ?_)
  exact lv_icmp_eq (tgt := 1605) hx hb dL_law_1511 (by decide) (fun _ => next _ _ _ hC2 hP hS) (fun q => absurd rfl q)
theorem lc_read (S : CallFix p m c cL_law 4 s #[Value.ref b] wsL_law RL) (hB : BS E s s.heap) (hE : Inj E) (hX : va_X b L xs s s.heap) (hbl : b < s.heap.size) (hbA : ¬ GA E b) (hi : i + 5 ≤ L) (hL : L ≤ 2560) (hC : Cpl X (X 22)) (hP : va_P E.1 vwCl (GW E X) H) (hS : va_S (GA E) s.heap H locs) (hl : lv_has ls 4 [(0, .ref b), (1, .ref (E.ad 0 0)), (2, .ref (E.ad 22 0)), (3, .int (nI i))]) (next : ∀ (X2 : Wd) (H : Heap) (locs : List Loc), Cpl X2 (X2 22) → va_P E.1 vwCl (GW E X2) H → va_S (GA E) s.heap H locs → W p l e room_1 s m #[Value.ref b] below meth c H locs 600000 7302250 Q (F0 m 1605 ls [])) : W p l e room_1 s m #[Value.ref b] below meth c H locs 600000 7302250 Q (F0 m 1516 ls []) := by
  have hx := S.1
  have hb := S.2.1
  obtain ⟨r, X1, M1, f6, f7, e22, hC1⟩ := T_read hC (xs (nI i + 1).toNatClampNeg) (xs (nI i + 2).toNatClampNeg) (xs (nI i + 3).toNatClampNeg) (xs (nI i + 4).toNatClampNeg)
  rw [← e22] at f7
  have hC2 : Cpl (va_up X1 22 M1) ((va_up X1 22 M1) 22) := by rw [va_up_self]; exact hC1.in22
  refine lv_aload_n hx hb dL_law_1516 rfl (lv_at hl 1 rfl) ?_
  refine lv_aload_n hx hb dL_law_1517 rfl (lv_at hl 0 rfl) ?_
  refine lv_iload_n hx hb dL_law_1518 rfl (lv_at hl 3 rfl) ?_
  refine lv_iconst (v := 1) hx hb dL_law_1519 (by decide) ?_
  refine lv_iadd hx hb dL_law_1520 ?_
  refine va_sld hx hb hX hbl hbA hS (sc_in (j := 1) hi hL (by omega)) dL_law_1521 ?_
  refine lv_aload_n hx hb dL_law_1522 rfl (lv_at hl 0 rfl) ?_
  refine lv_iload_n hx hb dL_law_1523 rfl (lv_at hl 3 rfl) ?_
  refine lv_iconst (v := 2) hx hb dL_law_1524 (by decide) ?_
  refine lv_iadd hx hb dL_law_1525 ?_
  refine va_sld hx hb hX hbl hbA hS (sc_in (j := 2) hi hL (by omega)) dL_law_1526 ?_
  refine lv_aload_n hx hb dL_law_1527 rfl (lv_at hl 0 rfl) ?_
  refine lv_iload_n hx hb dL_law_1528 rfl (lv_at hl 3 rfl) ?_
  refine lv_iconst (v := 3) hx hb dL_law_1529 (by decide) ?_
  refine lv_iadd hx hb dL_law_1530 ?_
  refine va_sld hx hb hX hbl hbA hS (sc_in (j := 3) hi hL (by omega)) dL_law_1531 ?_
  refine lv_aload_n hx hb dL_law_1532 rfl (lv_at hl 0 rfl) ?_
  refine lv_iload_n hx hb dL_law_1533 rfl (lv_at hl 3 rfl) ?_
  refine lv_iconst (v := 4) hx hb dL_law_1534 (by decide) ?_
  refine lv_iadd hx hb dL_law_1535 ?_
  refine va_sld hx hb hX hbl hbA hS (sc_in (j := 4) hi hL (by omega)) dL_law_1536 ?_
  refine callV_i (As := [.int (xs (nI i + 1).toNatClampNeg), .int (xs (nI i + 2).toNatClampNeg), .int (xs (nI i + 3).toNatClampNeg), .int (xs (nI i + 4).toNatClampNeg)]) (rest := []) S hB hP hS (C := RX6) (b := E.ad 0 0) (g_recv (o := 0) (d := 0) hB hP m_0_0 rfl rfl) (K_X6_read l hE X (xs (nI i + 1).toNatClampNeg) (xs (nI i + 2).toNatClampNeg) (xs (nI i + 3).toNatClampNeg) (xs (nI i + 4).toNatClampNeg) f6) (cwV 4 S.2.2.2.2 gL_law_X6_read rfl rfl rfl (by decide +kernel) ⟨Nat.le_of_ble_eq_true rfl, Nat.le_of_ble_eq_true rfl⟩) rfl hl.1 rfl (Nat.le_of_ble_eq_true rfl) dL_law_1537 ⟨Nat.le_of_ble_eq_true rfl, Nat.le_of_ble_eq_true rfl⟩ (fun H locs hP hS => ?_)
  refine lv_aload_n hx hb dL_law_1540 rfl (lv_at hl 2 rfl) ?_
  refine lv_aload_n hx hb dL_law_1541 rfl (lv_at hl 0 rfl) ?_
  refine lv_iload_n hx hb dL_law_1542 rfl (lv_at hl 3 rfl) ?_
  refine lv_iconst (v := 1) hx hb dL_law_1543 (by decide) ?_
  refine lv_iadd hx hb dL_law_1544 ?_
  refine va_sld hx hb hX hbl hbA hS (sc_in (j := 1) hi hL (by omega)) dL_law_1545 ?_
  refine lv_aload_n hx hb dL_law_1546 rfl (lv_at hl 0 rfl) ?_
  refine lv_iload_n hx hb dL_law_1547 rfl (lv_at hl 3 rfl) ?_
  refine lv_iconst (v := 2) hx hb dL_law_1548 (by decide) ?_
  refine lv_iadd hx hb dL_law_1549 ?_
  refine va_sld hx hb hX hbl hbA hS (sc_in (j := 2) hi hL (by omega)) dL_law_1550 ?_
  refine lv_aload_n hx hb dL_law_1551 rfl (lv_at hl 0 rfl) ?_
  refine lv_iload_n hx hb dL_law_1552 rfl (lv_at hl 3 rfl) ?_
  refine lv_iconst (v := 3) hx hb dL_law_1553 (by decide) ?_
  refine lv_iadd hx hb dL_law_1554 ?_
  refine va_sld hx hb hX hbl hbA hS (sc_in (j := 3) hi hL (by omega)) dL_law_1555 ?_
  refine lv_aload_n hx hb dL_law_1556 rfl (lv_at hl 0 rfl) ?_
  refine lv_iload_n hx hb dL_law_1557 rfl (lv_at hl 3 rfl) ?_
  refine lv_iconst (v := 4) hx hb dL_law_1558 (by decide) ?_
  refine lv_iadd hx hb dL_law_1559 ?_
  refine va_sld hx hb hX hbl hbA hS (sc_in (j := 4) hi hL (by omega)) dL_law_1560 ?_
  refine callV_i (As := [.int (xs (nI i + 1).toNatClampNeg), .int (xs (nI i + 2).toNatClampNeg), .int (xs (nI i + 3).toNatClampNeg), .int (xs (nI i + 4).toNatClampNeg)]) (rest := [.int r]) S hB hP hS (C := RX7) (b := E.ad 22 0) (g_recv (o := 22) (d := 0) hB hP m_22_0 rfl rfl) (KW_X7_read l hE X1 (xs (nI i + 1).toNatClampNeg) (xs (nI i + 2).toNatClampNeg) (xs (nI i + 3).toNatClampNeg) (xs (nI i + 4).toNatClampNeg) f7) (cwV 4 S.2.2.2.2 gL_law_X7_read rfl rfl rfl (by decide +kernel) ⟨Nat.le_of_ble_eq_true rfl, Nat.le_of_ble_eq_true rfl⟩) rfl hl.1 rfl (Nat.le_of_ble_eq_true rfl) dL_law_1561 ⟨Nat.le_of_ble_eq_true rfl, Nat.le_of_ble_eq_true rfl⟩ (fun H locs hP hS => ?_)
  exact lv_icmp_eq (tgt := 1605) hx hb dL_law_1564 (by decide) (fun _ => next _ _ _ hC2 hP hS) (fun q => absurd rfl q)
theorem lc_torn (S : CallFix p m c cL_law 4 s #[Value.ref b] wsL_law RL) (hB : BS E s s.heap) (hE : Inj E) (hX : va_X b L xs s s.heap) (hbl : b < s.heap.size) (hbA : ¬ GA E b) (hi : i + 5 ≤ L) (hL : L ≤ 2560) (hC : Cpl X (X 22)) (hP : va_P E.1 vwCl (GW E X) H) (hS : va_S (GA E) s.heap H locs) (hl : lv_has ls 4 [(0, .ref b), (1, .ref (E.ad 0 0)), (2, .ref (E.ad 22 0)), (3, .int (nI i))]) (next : ∀ (X2 : Wd) (H : Heap) (locs : List Loc), Cpl X2 (X2 22) → va_P E.1 vwCl (GW E X2) H → va_S (GA E) s.heap H locs → W p l e room_1 s m #[Value.ref b] below meth c H locs 600000 7302250 Q (F0 m 1605 ls [])) : W p l e room_1 s m #[Value.ref b] below meth c H locs 600000 7302250 Q (F0 m 1569 ls []) := by
  have hx := S.1
  have hb := S.2.1
  obtain ⟨r, f6, f7⟩ := T_torn hC 
  have hC2 := hC
  refine lv_aload_n hx hb dL_law_1569 rfl (lv_at hl 1 rfl) ?_
  refine callV_i (As := []) (rest := []) S hB hP hS (C := RX6) (b := E.ad 0 0) (g_recv (o := 0) (d := 0) hB hP m_0_0 rfl rfl) (K_X6_torn l hE X  f6) (cwV 0 S.2.2.2.2 gL_law_X6_torn rfl rfl rfl (by decide +kernel) ⟨Nat.le_of_ble_eq_true rfl, Nat.le_of_ble_eq_true rfl⟩) rfl hl.1 rfl (Nat.le_of_ble_eq_true rfl) dL_law_1570 ⟨Nat.le_of_ble_eq_true rfl, Nat.le_of_ble_eq_true rfl⟩ (fun H locs hP hS => ?_)
  refine lv_aload_n hx hb dL_law_1573 rfl (lv_at hl 2 rfl) ?_
  refine callV_i (As := []) (rest := [.int r]) S hB hP hS (C := RX7) (b := E.ad 22 0) (g_recv (o := 22) (d := 0) hB hP m_22_0 rfl rfl) (KW_X7_torn l hE X  f7) (cwV 0 S.2.2.2.2 gL_law_X7_torn rfl rfl rfl (by decide +kernel) ⟨Nat.le_of_ble_eq_true rfl, Nat.le_of_ble_eq_true rfl⟩) rfl hl.1 rfl (Nat.le_of_ble_eq_true rfl) dL_law_1574 ⟨Nat.le_of_ble_eq_true rfl, Nat.le_of_ble_eq_true rfl⟩ (fun H locs hP hS => ?_)
  exact lv_icmp_eq (tgt := 1605) hx hb dL_law_1577 (by decide) (fun _ => next _ _ _ hC2 hP hS) (fun q => absurd rfl q)
theorem lc_count (S : CallFix p m c cL_law 4 s #[Value.ref b] wsL_law RL) (hB : BS E s s.heap) (hE : Inj E) (hX : va_X b L xs s s.heap) (hbl : b < s.heap.size) (hbA : ¬ GA E b) (hi : i + 5 ≤ L) (hL : L ≤ 2560) (hC : Cpl X (X 22)) (hP : va_P E.1 vwCl (GW E X) H) (hS : va_S (GA E) s.heap H locs) (hl : lv_has ls 4 [(0, .ref b), (1, .ref (E.ad 0 0)), (2, .ref (E.ad 22 0)), (3, .int (nI i))]) (next : ∀ (X2 : Wd) (H : Heap) (locs : List Loc), Cpl X2 (X2 22) → va_P E.1 vwCl (GW E X2) H → va_S (GA E) s.heap H locs → W p l e room_1 s m #[Value.ref b] below meth c H locs 600000 7302250 Q (F0 m 1605 ls [])) : W p l e room_1 s m #[Value.ref b] below meth c H locs 600000 7302250 Q (F0 m 1582 ls []) := by
  have hx := S.1
  have hb := S.2.1
  obtain ⟨r, f6, f7⟩ := T_count hC (xs (nI i + 1).toNatClampNeg)
  have hC2 := hC
  refine lv_aload_n hx hb dL_law_1582 rfl (lv_at hl 1 rfl) ?_
  refine lv_aload_n hx hb dL_law_1583 rfl (lv_at hl 0 rfl) ?_
  refine lv_iload_n hx hb dL_law_1584 rfl (lv_at hl 3 rfl) ?_
  refine lv_iconst (v := 1) hx hb dL_law_1585 (by decide) ?_
  refine lv_iadd hx hb dL_law_1586 ?_
  refine va_sld hx hb hX hbl hbA hS (sc_in (j := 1) hi hL (by omega)) dL_law_1587 ?_
  refine callV_i (As := [.int (xs (nI i + 1).toNatClampNeg)]) (rest := []) S hB hP hS (C := RX6) (b := E.ad 0 0) (g_recv (o := 0) (d := 0) hB hP m_0_0 rfl rfl) (K_X6_count l hE X (xs (nI i + 1).toNatClampNeg) f6) (cwV 1 S.2.2.2.2 gL_law_X6_count rfl rfl rfl (by decide +kernel) ⟨Nat.le_of_ble_eq_true rfl, Nat.le_of_ble_eq_true rfl⟩) rfl hl.1 rfl (Nat.le_of_ble_eq_true rfl) dL_law_1588 ⟨Nat.le_of_ble_eq_true rfl, Nat.le_of_ble_eq_true rfl⟩ (fun H locs hP hS => ?_)
  refine lv_aload_n hx hb dL_law_1591 rfl (lv_at hl 2 rfl) ?_
  refine lv_aload_n hx hb dL_law_1592 rfl (lv_at hl 0 rfl) ?_
  refine lv_iload_n hx hb dL_law_1593 rfl (lv_at hl 3 rfl) ?_
  refine lv_iconst (v := 1) hx hb dL_law_1594 (by decide) ?_
  refine lv_iadd hx hb dL_law_1595 ?_
  refine va_sld hx hb hX hbl hbA hS (sc_in (j := 1) hi hL (by omega)) dL_law_1596 ?_
  refine callV_i (As := [.int (xs (nI i + 1).toNatClampNeg)]) (rest := [.int r]) S hB hP hS (C := RX7) (b := E.ad 22 0) (g_recv (o := 22) (d := 0) hB hP m_22_0 rfl rfl) (KW_X7_count l hE X (xs (nI i + 1).toNatClampNeg) f7) (cwV 1 S.2.2.2.2 gL_law_X7_count rfl rfl rfl (by decide +kernel) ⟨Nat.le_of_ble_eq_true rfl, Nat.le_of_ble_eq_true rfl⟩) rfl hl.1 rfl (Nat.le_of_ble_eq_true rfl) dL_law_1597 ⟨Nat.le_of_ble_eq_true rfl, Nat.le_of_ble_eq_true rfl⟩ (fun H locs hP hS => ?_)
  exact lv_icmp_eq (tgt := 1605) hx hb dL_law_1600 (by decide) (fun _ => next _ _ _ hC2 hP hS) (fun q => absurd rfl q)
end LC
