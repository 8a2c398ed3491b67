/-! the law, call by call -/
theorem sc_in {i L j : Nat} (hi : i + 5 ≤ L) (hL : L ≤ 2560) (hj : j ≤ 4) : vp_in (nI i + nI j) L := by
  rw [nI_add]; exact vp_in_nI (by omega) (by omega)
section LC
variable {p : Program} {l : Launch} {e : Env} {s : State} {m : MethodId} {below : List Frame} {meth : Method} {c : Code} {b L : Nat} {xs : Nat → Int32} {E : En} {X : Wd} {H : Heap} {locs : List Loc} {Q : State → Prop} {ls : Array Slot} {i : Nat}
theorem lc_feed (S : CallFix p m c cL_law 4 s #[Value.ref b] wsL_law RL) (hB : BS E s s.heap) (hE : Inj E) (hX : va_X b L xs s s.heap) (hbl : b < s.heap.size) (hbA : ¬ GA E b) (hi : i + 5 ≤ L) (hL : L ≤ 2560) (hC : Cpl X (X 22)) (hP : va_P E.1 vwCl (GW E X) H) (hS : va_S (GA E) s.heap H locs) (hl : lv_has ls 4 [(0, .ref b), (1, .ref (E.ad 0 0)), (2, .ref (E.ad 22 0)), (3, .int (nI i))]) (next : ∀ (X2 : Wd) (H : Heap) (locs : List Loc), Cpl X2 (X2 22) → va_P E.1 vwCl (GW E X2) H → va_S (GA E) s.heap H locs → W p l e room_1 s m #[Value.ref b] below meth c H locs 600000 7302250 Q (F0 m 1605 ls [])) : W p l e room_1 s m #[Value.ref b] below meth c H locs 600000 7302250 Q (F0 m 228 ls []) := by
  have hx := S.1
  have hb := S.2.1
  obtain ⟨r, X1, M1, f6, f7, e22, hC1⟩ := T_feed hC (xs (nI i + 1).toNatClampNeg)
  rw [← e22] at f7
  have hC2 : Cpl (va_up X1 22 M1) ((va_up X1 22 M1) 22) := by rw [va_up_self]; exact hC1.in22
  refine lv_aload_n hx hb dL_law_228 rfl (lv_at hl 1 rfl) ?_
  refine lv_aload_n hx hb dL_law_229 rfl (lv_at hl 0 rfl) ?_
  refine lv_iload_n hx hb dL_law_230 rfl (lv_at hl 3 rfl) ?_
  refine lv_iconst (v := 1) hx hb dL_law_231 (by decide) ?_
  refine lv_iadd hx hb dL_law_232 ?_
  refine va_sld hx hb hX hbl hbA hS (sc_in (j := 1) hi hL (by omega)) dL_law_233 ?_
  refine callV_i (As := [.int (xs (nI i + 1).toNatClampNeg)]) (rest := []) S hB hP hS (C := RX6) (b := E.ad 0 0) (g_recv (o := 0) (d := 0) hB hP m_0_0 rfl rfl) (K_X6_feed l hE X (xs (nI i + 1).toNatClampNeg) f6) (cwV 1 S.2.2.2.2 gL_law_X6_feed rfl rfl rfl (by decide +kernel) ⟨Nat.le_of_ble_eq_true rfl, Nat.le_of_ble_eq_true rfl⟩) rfl hl.1 rfl (Nat.le_of_ble_eq_true rfl) dL_law_234 ⟨Nat.le_of_ble_eq_true rfl, Nat.le_of_ble_eq_true rfl⟩ (fun H locs hP hS => ?_)
  refine lv_aload_n hx hb dL_law_237 rfl (lv_at hl 2 rfl) ?_
  refine lv_aload_n hx hb dL_law_238 rfl (lv_at hl 0 rfl) ?_
  refine lv_iload_n hx hb dL_law_239 rfl (lv_at hl 3 rfl) ?_
  refine lv_iconst (v := 1) hx hb dL_law_240 (by decide) ?_
  refine lv_iadd hx hb dL_law_241 ?_
  refine va_sld hx hb hX hbl hbA hS (sc_in (j := 1) hi hL (by omega)) dL_law_242 ?_
  refine callV_i (As := [.int (xs (nI i + 1).toNatClampNeg)]) (rest := [.int r]) S hB hP hS (C := RX7) (b := E.ad 22 0) (g_recv (o := 22) (d := 0) hB hP m_22_0 rfl rfl) (KW_X7_feed l hE X1 (xs (nI i + 1).toNatClampNeg) f7) (cwV 1 S.2.2.2.2 gL_law_X7_feed rfl rfl rfl (by decide +kernel) ⟨Nat.le_of_ble_eq_true rfl, Nat.le_of_ble_eq_true rfl⟩) rfl hl.1 rfl (Nat.le_of_ble_eq_true rfl) dL_law_243 ⟨Nat.le_of_ble_eq_true rfl, Nat.le_of_ble_eq_true rfl⟩ (fun H locs hP hS => ?_)
  exact lv_icmp_eq (tgt := 1605) hx hb dL_law_246 (by decide) (fun _ => next _ _ _ hC2 hP hS) (fun q => absurd rfl q)
theorem lc_end (S : CallFix p m c cL_law 4 s #[Value.ref b] wsL_law RL) (hB : BS E s s.heap) (hE : Inj E) (hX : va_X b L xs s s.heap) (hbl : b < s.heap.size) (hbA : ¬ GA E b) (hi : i + 5 ≤ L) (hL : L ≤ 2560) (hC : Cpl X (X 22)) (hP : va_P E.1 vwCl (GW E X) H) (hS : va_S (GA E) s.heap H locs) (hl : lv_has ls 4 [(0, .ref b), (1, .ref (E.ad 0 0)), (2, .ref (E.ad 22 0)), (3, .int (nI i))]) (next : ∀ (X2 : Wd) (H : Heap) (locs : List Loc), Cpl X2 (X2 22) → va_P E.1 vwCl (GW E X2) H → va_S (GA E) s.heap H locs → W p l e room_1 s m #[Value.ref b] below meth c H locs 600000 7302250 Q (F0 m 1605 ls [])) : W p l e room_1 s m #[Value.ref b] below meth c H locs 600000 7302250 Q (F0 m 251 ls []) := by
  have hx := S.1
  have hb := S.2.1
  obtain ⟨r, X1, M1, f6, f7, e22, hC1⟩ := T_end hC (xs (nI i + 1).toNatClampNeg)
  rw [← e22] at f7
  have hC2 : Cpl (va_up X1 22 M1) ((va_up X1 22 M1) 22) := by rw [va_up_self]; exact hC1.in22
  refine lv_aload_n hx hb dL_law_251 rfl (lv_at hl 1 rfl) ?_
  refine lv_aload_n hx hb dL_law_252 rfl (lv_at hl 0 rfl) ?_
  refine lv_iload_n hx hb dL_law_253 rfl (lv_at hl 3 rfl) ?_
  refine lv_iconst (v := 1) hx hb dL_law_254 (by decide) ?_
  refine lv_iadd hx hb dL_law_255 ?_
  refine va_sld hx hb hX hbl hbA hS (sc_in (j := 1) hi hL (by omega)) dL_law_256 ?_
  refine callV_i (As := [.int (xs (nI i + 1).toNatClampNeg)]) (rest := []) S hB hP hS (C := RX6) (b := E.ad 0 0) (g_recv (o := 0) (d := 0) hB hP m_0_0 rfl rfl) (K_X6_end l hE X (xs (nI i + 1).toNatClampNeg) f6) (cwV 1 S.2.2.2.2 gL_law_X6_end rfl rfl rfl (by decide +kernel) ⟨Nat.le_of_ble_eq_true rfl, Nat.le_of_ble_eq_true rfl⟩) rfl hl.1 rfl (Nat.le_of_ble_eq_true rfl) dL_law_257 ⟨Nat.le_of_ble_eq_true rfl, Nat.le_of_ble_eq_true rfl⟩ (fun H locs hP hS => ?_)
  refine lv_aload_n hx hb dL_law_260 rfl (lv_at hl 2 rfl) ?_
  refine lv_aload_n hx hb dL_law_261 rfl (lv_at hl 0 rfl) ?_
  refine lv_iload_n hx hb dL_law_262 rfl (lv_at hl 3 rfl) ?_
  refine lv_iconst (v := 1) hx hb dL_law_263 (by decide) ?_
  refine lv_iadd hx hb dL_law_264 ?_
  refine va_sld hx hb hX hbl hbA hS (sc_in (j := 1) hi hL (by omega)) dL_law_265 ?_
  refine callV_i (As := [.int (xs (nI i + 1).toNatClampNeg)]) (rest := [.int r]) S hB hP hS (C := RX7) (b := E.ad 22 0) (g_recv (o := 22) (d := 0) hB hP m_22_0 rfl rfl) (KW_X7_end l hE X1 (xs (nI i + 1).toNatClampNeg) f7) (cwV 1 S.2.2.2.2 gL_law_X7_end rfl rfl rfl (by decide +kernel) ⟨Nat.le_of_ble_eq_true rfl, Nat.le_of_ble_eq_true rfl⟩) rfl hl.1 rfl (Nat.le_of_ble_eq_true rfl) dL_law_266 ⟨Nat.le_of_ble_eq_true rfl, Nat.le_of_ble_eq_true rfl⟩ (fun H locs hP hS => ?_)
  exact lv_icmp_eq (tgt := 1605) hx hb dL_law_269 (by decide) (fun _ => next _ _ _ hC2 hP hS) (fun q => absurd rfl q)
theorem lc_text (S : CallFix p m c cL_law 4 s #[Value.ref b] wsL_law RL) (hB : BS E s s.heap) (hE : Inj E) (hX : va_X b L xs s s.heap) (hbl : b < s.heap.size) (hbA : ¬ GA E b) (hi : i + 5 ≤ L) (hL : L ≤ 2560) (hC : Cpl X (X 22)) (hP : va_P E.1 vwCl (GW E X) H) (hS : va_S (GA E) s.heap H locs) (hl : lv_has ls 4 [(0, .ref b), (1, .ref (E.ad 0 0)), (2, .ref (E.ad 22 0)), (3, .int (nI i))]) (next : ∀ (X2 : Wd) (H : Heap) (locs : List Loc), Cpl X2 (X2 22) → va_P E.1 vwCl (GW E X2) H → va_S (GA E) s.heap H locs → W p l e room_1 s m #[Value.ref b] below meth c H locs 600000 7302250 Q (F0 m 1605 ls [])) : W p l e room_1 s m #[Value.ref b] below meth c H locs 600000 7302250 Q (F0 m 274 ls []) := by
  have hx := S.1
  have hb := S.2.1
  obtain ⟨r, X1, M1, f6, f7, e22, hC1⟩ := T_text hC 
  rw [← e22] at f7
  have hC2 : Cpl (va_up X1 22 M1) ((va_up X1 22 M1) 22) := by rw [va_up_self]; exact hC1.in22
  refine lv_aload_n hx hb dL_law_274 rfl (lv_at hl 1 rfl) ?_
  refine callV_i (As := []) (rest := []) S hB hP hS (C := RX6) (b := E.ad 0 0) (g_recv (o := 0) (d := 0) hB hP m_0_0 rfl rfl) (K_X6_text l hE X  f6) (cwV 0 S.2.2.2.2 gL_law_X6_text rfl rfl rfl (by decide +kernel) ⟨Nat.le_of_ble_eq_true rfl, Nat.le_of_ble_eq_true rfl⟩) rfl hl.1 rfl (Nat.le_of_ble_eq_true rfl) dL_law_275 ⟨Nat.le_of_ble_eq_true rfl, Nat.le_of_ble_eq_true rfl⟩ (fun H locs hP hS => ?_)
  refine lv_aload_n hx hb dL_law_278 rfl (lv_at hl 2 rfl) ?_
  refine callV_i (As := []) (rest := [.int r]) S hB hP hS (C := RX7) (b := E.ad 22 0) (g_recv (o := 22) (d := 0) hB hP m_22_0 rfl rfl) (KW_X7_text l hE X1  f7) (cwV 0 S.2.2.2.2 gL_law_X7_text rfl rfl rfl (by decide +kernel) ⟨Nat.le_of_ble_eq_true rfl, Nat.le_of_ble_eq_true rfl⟩) rfl hl.1 rfl (Nat.le_of_ble_eq_true rfl) dL_law_279 ⟨Nat.le_of_ble_eq_true rfl, Nat.le_of_ble_eq_true rfl⟩ (fun H locs hP hS => ?_)
  exact lv_icmp_eq (tgt := 1605) hx hb dL_law_282 (by decide) (fun _ => next _ _ _ hC2 hP hS) (fun q => absurd rfl q)
theorem lc_fault (S : CallFix p m c cL_law 4 s #[Value.ref b] wsL_law RL) (hB : BS E s s.heap) (hE : Inj E) (hX : va_X b L xs s s.heap) (hbl : b < s.heap.size) (hbA : ¬ GA E b) (hi : i + 5 ≤ L) (hL : L ≤ 2560) (hC : Cpl X (X 22)) (hP : va_P E.1 vwCl (GW E X) H) (hS : va_S (GA E) s.heap H locs) (hl : lv_has ls 4 [(0, .ref b), (1, .ref (E.ad 0 0)), (2, .ref (E.ad 22 0)), (3, .int (nI i))]) (next : ∀ (X2 : Wd) (H : Heap) (locs : List Loc), Cpl X2 (X2 22) → va_P E.1 vwCl (GW E X2) H → va_S (GA E) s.heap H locs → W p l e room_1 s m #[Value.ref b] below meth c H locs 600000 7302250 Q (F0 m 1605 ls [])) : W p l e room_1 s m #[Value.ref b] below meth c H locs 600000 7302250 Q (F0 m 287 ls []) := by
  have hx := S.1
  have hb := S.2.1
  obtain ⟨r, f6, f7⟩ := T_fault hC 
  have hC2 := hC
  refine lv_aload_n hx hb dL_law_287 rfl (lv_at hl 1 rfl) ?_
  refine callV_i (As := []) (rest := []) S hB hP hS (C := RX6) (b := E.ad 0 0) (g_recv (o := 0) (d := 0) hB hP m_0_0 rfl rfl) (K_X6_fault l hE X  f6) (cwV 0 S.2.2.2.2 gL_law_X6_fault rfl rfl rfl (by decide +kernel) ⟨Nat.le_of_ble_eq_true rfl, Nat.le_of_ble_eq_true rfl⟩) rfl hl.1 rfl (Nat.le_of_ble_eq_true rfl) dL_law_288 ⟨Nat.le_of_ble_eq_true rfl, Nat.le_of_ble_eq_true rfl⟩ (fun H locs hP hS => ?_)
  refine lv_aload_n hx hb dL_law_291 rfl (lv_at hl 2 rfl) ?_
  refine callV_i (As := []) (rest := [.int r]) S hB hP hS (C := RX7) (b := E.ad 22 0) (g_recv (o := 22) (d := 0) hB hP m_22_0 rfl rfl) (KW_X7_fault l hE X  f7) (cwV 0 S.2.2.2.2 gL_law_X7_fault rfl rfl rfl (by decide +kernel) ⟨Nat.le_of_ble_eq_true rfl, Nat.le_of_ble_eq_true rfl⟩) rfl hl.1 rfl (Nat.le_of_ble_eq_true rfl) dL_law_292 ⟨Nat.le_of_ble_eq_true rfl, Nat.le_of_ble_eq_true rfl⟩ (fun H locs hP hS => ?_)
  exact lv_icmp_eq (tgt := 1605) hx hb dL_law_295 (by decide) (fun _ => next _ _ _ hC2 hP hS) (fun q => absurd rfl q)
theorem lc_rule (S : CallFix p m c cL_law 4 s #[Value.ref b] wsL_law RL) (hB : BS E s s.heap) (hE : Inj E) (hX : va_X b L xs s s.heap) (hbl : b < s.heap.size) (hbA : ¬ GA E b) (hi : i + 5 ≤ L) (hL : L ≤ 2560) (hC : Cpl X (X 22)) (hP : va_P E.1 vwCl (GW E X) H) (hS : va_S (GA E) s.heap H locs) (hl : lv_has ls 4 [(0, .ref b), (1, .ref (E.ad 0 0)), (2, .ref (E.ad 22 0)), (3, .int (nI i))]) (next : ∀ (X2 : Wd) (H : Heap) (locs : List Loc), Cpl X2 (X2 22) → va_P E.1 vwCl (GW E X2) H → va_S (GA E) s.heap H locs → W p l e room_1 s m #[Value.ref b] below meth c H locs 600000 7302250 Q (F0 m 1605 ls [])) : W p l e room_1 s m #[Value.ref b] below meth c H locs 600000 7302250 Q (F0 m 300 ls []) := by
  have hx := S.1
  have hb := S.2.1
  obtain ⟨r, f6, f7⟩ := T_rule hC (xs (nI i + 1).toNatClampNeg)
  have hC2 := hC
  refine lv_aload_n hx hb dL_law_300 rfl (lv_at hl 1 rfl) ?_
  refine lv_aload_n hx hb dL_law_301 rfl (lv_at hl 0 rfl) ?_
  refine lv_iload_n hx hb dL_law_302 rfl (lv_at hl 3 rfl) ?_
  refine lv_iconst (v := 1) hx hb dL_law_303 (by decide) ?_
  refine lv_iadd hx hb dL_law_304 ?_
  refine va_sld hx hb hX hbl hbA hS (sc_in (j := 1) hi hL (by omega)) dL_law_305 ?_
  refine callV_i (As := [.int (xs (nI i + 1).toNatClampNeg)]) (rest := []) S hB hP hS (C := RX6) (b := E.ad 0 0) (g_recv (o := 0) (d := 0) hB hP m_0_0 rfl rfl) (K_X6_rule l hE X (xs (nI i + 1).toNatClampNeg) f6) (cwV 1 S.2.2.2.2 gL_law_X6_rule rfl rfl rfl (by decide +kernel) ⟨Nat.le_of_ble_eq_true rfl, Nat.le_of_ble_eq_true rfl⟩) rfl hl.1 rfl (Nat.le_of_ble_eq_true rfl) dL_law_306 ⟨Nat.le_of_ble_eq_true rfl, Nat.le_of_ble_eq_true rfl⟩ (fun H locs hP hS => ?_)
  refine lv_aload_n hx hb dL_law_309 rfl (lv_at hl 2 rfl) ?_
  refine lv_aload_n hx hb dL_law_310 rfl (lv_at hl 0 rfl) ?_
  refine lv_iload_n hx hb dL_law_311 rfl (lv_at hl 3 rfl) ?_
  refine lv_iconst (v := 1) hx hb dL_law_312 (by decide) ?_
  refine lv_iadd hx hb dL_law_313 ?_
  refine va_sld hx hb hX hbl hbA hS (sc_in (j := 1) hi hL (by omega)) dL_law_314 ?_
  refine callV_i (As := [.int (xs (nI i + 1).toNatClampNeg)]) (rest := [.int r]) S hB hP hS (C := RX7) (b := E.ad 22 0) (g_recv (o := 22) (d := 0) hB hP m_22_0 rfl rfl) (KW_X7_rule l hE X (xs (nI i + 1).toNatClampNeg) f7) (cwV 1 S.2.2.2.2 gL_law_X7_rule rfl rfl rfl (by decide +kernel) ⟨Nat.le_of_ble_eq_true rfl, Nat.le_of_ble_eq_true rfl⟩) rfl hl.1 rfl (Nat.le_of_ble_eq_true rfl) dL_law_315 ⟨Nat.le_of_ble_eq_true rfl, Nat.le_of_ble_eq_true rfl⟩ (fun H locs hP hS => ?_)
  exact lv_icmp_eq (tgt := 1605) hx hb dL_law_318 (by decide) (fun _ => next _ _ _ hC2 hP hS) (fun q => absurd rfl q)
theorem lc_hedge (S : CallFix p m c cL_law 4 s #[Value.ref b] wsL_law RL) (hB : BS E s s.heap) (hE : Inj E) (hX : va_X b L xs s s.heap) (hbl : b < s.heap.size) (hbA : ¬ GA E b) (hi : i + 5 ≤ L) (hL : L ≤ 2560) (hC : Cpl X (X 22)) (hP : va_P E.1 vwCl (GW E X) H) (hS : va_S (GA E) s.heap H locs) (hl : lv_has ls 4 [(0, .ref b), (1, .ref (E.ad 0 0)), (2, .ref (E.ad 22 0)), (3, .int (nI i))]) (next : ∀ (X2 : Wd) (H : Heap) (locs : List Loc), Cpl X2 (X2 22) → va_P E.1 vwCl (GW E X2) H → va_S (GA E) s.heap H locs → W p l e room_1 s m #[Value.ref b] below meth c H locs 600000 7302250 Q (F0 m 1605 ls [])) : W p l e room_1 s m #[Value.ref b] below meth c H locs 600000 7302250 Q (F0 m 323 ls []) := by
  have hx := S.1
  have hb := S.2.1
  obtain ⟨r, f6, f7⟩ := T_hedge hC (xs (nI i + 1).toNatClampNeg)
  have hC2 := hC
  refine lv_aload_n hx hb dL_law_323 rfl (lv_at hl 1 rfl) ?_
  refine lv_aload_n hx hb dL_law_324 rfl (lv_at hl 0 rfl) ?_
  refine lv_iload_n hx hb dL_law_325 rfl (lv_at hl 3 rfl) ?_
  refine lv_iconst (v := 1) hx hb dL_law_326 (by decide) ?_
  refine lv_iadd hx hb dL_law_327 ?_
  refine va_sld hx hb hX hbl hbA hS (sc_in (j := 1) hi hL (by omega)) dL_law_328 ?_
  refine callV_i (As := [.int (xs (nI i + 1).toNatClampNeg)]) (rest := []) S hB hP hS (C := RX6) (b := E.ad 0 0) (g_recv (o := 0) (d := 0) hB hP m_0_0 rfl rfl) (K_X6_hedge l hE X (xs (nI i + 1).toNatClampNeg) f6) (cwV 1 S.2.2.2.2 gL_law_X6_hedge rfl rfl rfl (by decide +kernel) ⟨Nat.le_of_ble_eq_true rfl, Nat.le_of_ble_eq_true rfl⟩) rfl hl.1 rfl (Nat.le_of_ble_eq_true rfl) dL_law_329 ⟨Nat.le_of_ble_eq_true rfl, Nat.le_of_ble_eq_true rfl⟩ (fun H locs hP hS => ?_)
  refine lv_aload_n hx hb dL_law_332 rfl (lv_at hl 2 rfl) ?_
  refine lv_aload_n hx hb dL_law_333 rfl (lv_at hl 0 rfl) ?_
  refine lv_iload_n hx hb dL_law_334 rfl (lv_at hl 3 rfl) ?_
  refine lv_iconst (v := 1) hx hb dL_law_335 (by decide) ?_
  refine lv_iadd hx hb dL_law_336 ?_
  refine va_sld hx hb hX hbl hbA hS (sc_in (j := 1) hi hL (by omega)) dL_law_337 ?_
  refine callV_i (As := [.int (xs (nI i + 1).toNatClampNeg)]) (rest := [.int r]) S hB hP hS (C := RX7) (b := E.ad 22 0) (g_recv (o := 22) (d := 0) hB hP m_22_0 rfl rfl) (KW_X7_hedge l hE X (xs (nI i + 1).toNatClampNeg) f7) (cwV 1 S.2.2.2.2 gL_law_X7_hedge rfl rfl rfl (by decide +kernel) ⟨Nat.le_of_ble_eq_true rfl, Nat.le_of_ble_eq_true rfl⟩) rfl hl.1 rfl (Nat.le_of_ble_eq_true rfl) dL_law_338 ⟨Nat.le_of_ble_eq_true rfl, Nat.le_of_ble_eq_true rfl⟩ (fun H locs hP hS => ?_)
  exact lv_icmp_eq (tgt := 1605) hx hb dL_law_341 (by decide) (fun _ => next _ _ _ hC2 hP hS) (fun q => absurd rfl q)
theorem lc_gardener (S : CallFix p m c cL_law 4 s #[Value.ref b] wsL_law RL) (hB : BS E s s.heap) (hE : Inj E) (hX : va_X b L xs s s.heap) (hbl : b < s.heap.size) (hbA : ¬ GA E b) (hi : i + 5 ≤ L) (hL : L ≤ 2560) (hC : Cpl X (X 22)) (hP : va_P E.1 vwCl (GW E X) H) (hS : va_S (GA E) s.heap H locs) (hl : lv_has ls 4 [(0, .ref b), (1, .ref (E.ad 0 0)), (2, .ref (E.ad 22 0)), (3, .int (nI i))]) (next : ∀ (X2 : Wd) (H : Heap) (locs : List Loc), Cpl X2 (X2 22) → va_P E.1 vwCl (GW E X2) H → va_S (GA E) s.heap H locs → W p l e room_1 s m #[Value.ref b] below meth c H locs 600000 7302250 Q (F0 m 1605 ls [])) : W p l e room_1 s m #[Value.ref b] below meth c H locs 600000 7302250 Q (F0 m 346 ls []) := by
  have hx := S.1
  have hb := S.2.1
  obtain ⟨r, f6, f7⟩ := T_gardener hC (xs (nI i + 1).toNatClampNeg) (xs (nI i + 2).toNatClampNeg)
  have hC2 := hC
  refine lv_aload_n hx hb dL_law_346 rfl (lv_at hl 1 rfl) ?_
  refine lv_aload_n hx hb dL_law_347 rfl (lv_at hl 0 rfl) ?_
  refine lv_iload_n hx hb dL_law_348 rfl (lv_at hl 3 rfl) ?_
  refine lv_iconst (v := 1) hx hb dL_law_349 (by decide) ?_
  refine lv_iadd hx hb dL_law_350 ?_
  refine va_sld hx hb hX hbl hbA hS (sc_in (j := 1) hi hL (by omega)) dL_law_351 ?_
  refine lv_aload_n hx hb dL_law_352 rfl (lv_at hl 0 rfl) ?_
  refine lv_iload_n hx hb dL_law_353 rfl (lv_at hl 3 rfl) ?_
  refine lv_iconst (v := 2) hx hb dL_law_354 (by decide) ?_
  refine lv_iadd hx hb dL_law_355 ?_
  refine va_sld hx hb hX hbl hbA hS (sc_in (j := 2) hi hL (by omega)) dL_law_356 ?_
  refine callV_i (As := [.int (xs (nI i + 1).toNatClampNeg), .int (xs (nI i + 2).toNatClampNeg)]) (rest := []) S hB hP hS (C := RX6) (b := E.ad 0 0) (g_recv (o := 0) (d := 0) hB hP m_0_0 rfl rfl) (K_X6_gardener l hE X (xs (nI i + 1).toNatClampNeg) (xs (nI i + 2).toNatClampNeg) f6) (cwV 2 S.2.2.2.2 gL_law_X6_gardener rfl rfl rfl (by decide +kernel) ⟨Nat.le_of_ble_eq_true rfl, Nat.le_of_ble_eq_true rfl⟩) rfl hl.1 rfl (Nat.le_of_ble_eq_true rfl) dL_law_357 ⟨Nat.le_of_ble_eq_true rfl, Nat.le_of_ble_eq_true rfl⟩ (fun H locs hP hS => ?_)
  refine lv_aload_n hx hb dL_law_360 rfl (lv_at hl 2 rfl) ?_
  refine lv_aload_n hx hb dL_law_361 rfl (lv_at hl 0 rfl) ?_
  refine lv_iload_n hx hb dL_law_362 rfl (lv_at hl 3 rfl) ?_
  refine lv_iconst (v := 1) hx hb dL_law_363 (by decide) ?_
  refine lv_iadd hx hb dL_law_364 ?_
  refine va_sld hx hb hX hbl hbA hS (sc_in (j := 1) hi hL (by omega)) dL_law_365 ?_
  refine lv_aload_n hx hb dL_law_366 rfl (lv_at hl 0 rfl) ?_
  refine lv_iload_n hx hb dL_law_367 rfl (lv_at hl 3 rfl) ?_
  refine lv_iconst (v := 2) hx hb dL_law_368 (by decide) ?_
  refine lv_iadd hx hb dL_law_369 ?_
  refine va_sld hx hb hX hbl hbA hS (sc_in (j := 2) hi hL (by omega)) dL_law_370 ?_
  refine callV_i (As := [.int (xs (nI i + 1).toNatClampNeg), .int (xs (nI i + 2).toNatClampNeg)]) (rest := [.int r]) S hB hP hS (C := RX7) (b := E.ad 22 0) (g_recv (o := 22) (d := 0) hB hP m_22_0 rfl rfl) (KW_X7_gardener l hE X (xs (nI i + 1).toNatClampNeg) (xs (nI i + 2).toNatClampNeg) f7) (cwV 2 S.2.2.2.2 gL_law_X7_gardener rfl rfl rfl (by decide +kernel) ⟨Nat.le_of_ble_eq_true rfl, Nat.le_of_ble_eq_true rfl⟩) rfl hl.1 rfl (Nat.le_of_ble_eq_true rfl) dL_law_371 ⟨Nat.le_of_ble_eq_true rfl, Nat.le_of_ble_eq_true rfl⟩ (fun H locs hP hS => ?_)
  exact lv_icmp_eq (tgt := 1605) hx hb dL_law_374 (by decide) (fun _ => next _ _ _ hC2 hP hS) (fun q => absurd rfl q)
theorem lc_guest (S : CallFix p m c cL_law 4 s #[Value.ref b] wsL_law RL) (hB : BS E s s.heap) (hE : Inj E) (hX : va_X b L xs s s.heap) (hbl : b < s.heap.size) (hbA : ¬ GA E b) (hi : i + 5 ≤ L) (hL : L ≤ 2560) (hC : Cpl X (X 22)) (hP : va_P E.1 vwCl (GW E X) H) (hS : va_S (GA E) s.heap H locs) (hl : lv_has ls 4 [(0, .ref b), (1, .ref (E.ad 0 0)), (2, .ref (E.ad 22 0)), (3, .int (nI i))]) (next : ∀ (X2 : Wd) (H : Heap) (locs : List Loc), Cpl X2 (X2 22) → va_P E.1 vwCl (GW E X2) H → va_S (GA E) s.heap H locs → W p l e room_1 s m #[Value.ref b] below meth c H locs 600000 7302250 Q (F0 m 1605 ls [])) : W p l e room_1 s m #[Value.ref b] below meth c H locs 600000 7302250 Q (F0 m 379 ls []) := by
  have hx := S.1
  have hb := S.2.1
  obtain ⟨r, f6, f7⟩ := T_guest hC (xs (nI i + 1).toNatClampNeg) (xs (nI i + 2).toNatClampNeg)
  have hC2 := hC
  refine lv_aload_n hx hb dL_law_379 rfl (lv_at hl 1 rfl) ?_
  refine lv_aload_n hx hb dL_law_380 rfl (lv_at hl 0 rfl) ?_
  refine lv_iload_n hx hb dL_law_381 rfl (lv_at hl 3 rfl) ?_
  refine lv_iconst (v := 1) hx hb dL_law_382 (by decide) ?_
  refine lv_iadd hx hb dL_law_383 ?_
  refine va_sld hx hb hX hbl hbA hS (sc_in (j := 1) hi hL (by omega)) dL_law_384 ?_
  refine lv_aload_n hx hb dL_law_385 rfl (lv_at hl 0 rfl) ?_
  refine lv_iload_n hx hb dL_law_386 rfl (lv_at hl 3 rfl) ?_
  refine lv_iconst (v := 2) hx hb dL_law_387 (by decide) ?_
  refine lv_iadd hx hb dL_law_388 ?_
  refine va_sld hx hb hX hbl hbA hS (sc_in (j := 2) hi hL (by omega)) dL_law_389 ?_
  refine callV_i (As := [.int (xs (nI i + 1).toNatClampNeg), .int (xs (nI i + 2).toNatClampNeg)]) (rest := []) S hB hP hS (C := RX6) (b := E.ad 0 0) (g_recv (o := 0) (d := 0) hB hP m_0_0 rfl rfl) (K_X6_guest l hE X (xs (nI i + 1).toNatClampNeg) (xs (nI i + 2).toNatClampNeg) f6) (cwV 2 S.2.2.2.2 gL_law_X6_guest rfl rfl rfl (by decide +kernel) ⟨Nat.le_of_ble_eq_true rfl, Nat.le_of_ble_eq_true rfl⟩) rfl hl.1 rfl (Nat.le_of_ble_eq_true rfl) dL_law_390 ⟨Nat.le_of_ble_eq_true rfl, Nat.le_of_ble_eq_true rfl⟩ (fun H locs hP hS => ?_)
  refine lv_aload_n hx hb dL_law_393 rfl (lv_at hl 2 rfl) ?_
  refine lv_aload_n hx hb dL_law_394 rfl (lv_at hl 0 rfl) ?_
  refine lv_iload_n hx hb dL_law_395 rfl (lv_at hl 3 rfl) ?_
  refine lv_iconst (v := 1) hx hb dL_law_396 (by decide) ?_
  refine lv_iadd hx hb dL_law_397 ?_
  refine va_sld hx hb hX hbl hbA hS (sc_in (j := 1) hi hL (by omega)) dL_law_398 ?_
  refine lv_aload_n hx hb dL_law_399 rfl (lv_at hl 0 rfl) ?_
  refine lv_iload_n hx hb dL_law_400 rfl (lv_at hl 3 rfl) ?_
  refine lv_iconst (v := 2) hx hb dL_law_401 (by decide) ?_
  refine lv_iadd hx hb dL_law_402 ?_
  refine va_sld hx hb hX hbl hbA hS (sc_in (j := 2) hi hL (by omega)) dL_law_403 ?_
  refine callV_i (As := [.int (xs (nI i + 1).toNatClampNeg), .int (xs (nI i + 2).toNatClampNeg)]) (rest := [.int r]) S hB hP hS (C := RX7) (b := E.ad 22 0) (g_recv (o := 22) (d := 0) hB hP m_22_0 rfl rfl) (KW_X7_guest l hE X (xs (nI i + 1).toNatClampNeg) (xs (nI i + 2).toNatClampNeg) f7) (cwV 2 S.2.2.2.2 gL_law_X7_guest rfl rfl rfl (by decide +kernel) ⟨Nat.le_of_ble_eq_true rfl, Nat.le_of_ble_eq_true rfl⟩) rfl hl.1 rfl (Nat.le_of_ble_eq_true rfl) dL_law_404 ⟨Nat.le_of_ble_eq_true rfl, Nat.le_of_ble_eq_true rfl⟩ (fun H locs hP hS => ?_)
  exact lv_icmp_eq (tgt := 1605) hx hb dL_law_407 (by decide) (fun _ => next _ _ _ hC2 hP hS) (fun q => absurd rfl q)
theorem lc_way (S : CallFix p m c cL_law 4 s #[Value.ref b] wsL_law RL) (hB : BS E s s.heap) (hE : Inj E) (hX : va_X b L xs s s.heap) (hbl : b < s.heap.size) (hbA : ¬ GA E b) (hi : i + 5 ≤ L) (hL : L ≤ 2560) (hC : Cpl X (X 22)) (hP : va_P E.1 vwCl (GW E X) H) (hS : va_S (GA E) s.heap H locs) (hl : lv_has ls 4 [(0, .ref b), (1, .ref (E.ad 0 0)), (2, .ref (E.ad 22 0)), (3, .int (nI i))]) (next : ∀ (X2 : Wd) (H : Heap) (locs : List Loc), Cpl X2 (X2 22) → va_P E.1 vwCl (GW E X2) H → va_S (GA E) s.heap H locs → W p l e room_1 s m #[Value.ref b] below meth c H locs 600000 7302250 Q (F0 m 1605 ls [])) : W p l e room_1 s m #[Value.ref b] below meth c H locs 600000 7302250 Q (F0 m 412 ls []) := by
  have hx := S.1
  have hb := S.2.1
  obtain ⟨r, M1, f6, f7, hC1⟩ := T_way hC (xs (nI i + 1).toNatClampNeg) (xs (nI i + 2).toNatClampNeg)
  have hC2 : Cpl (va_up X 22 M1) ((va_up X 22 M1) 22) := by rw [va_up_self]; exact hC1.in22
  refine lv_aload_n hx hb dL_law_412 rfl (lv_at hl 1 rfl) ?_
  refine lv_aload_n hx hb dL_law_413 rfl (lv_at hl 0 rfl) ?_
  refine lv_iload_n hx hb dL_law_414 rfl (lv_at hl 3 rfl) ?_
  refine lv_iconst (v := 1) hx hb dL_law_415 (by decide) ?_
  refine lv_iadd hx hb dL_law_416 ?_
  refine va_sld hx hb hX hbl hbA hS (sc_in (j := 1) hi hL (by omega)) dL_law_417 ?_
  refine lv_aload_n hx hb dL_law_418 rfl (lv_at hl 0 rfl) ?_
  refine lv_iload_n hx hb dL_law_419 rfl (lv_at hl 3 rfl) ?_
  refine lv_iconst (v := 2) hx hb dL_law_420 (by decide) ?_
  refine lv_iadd hx hb dL_law_421 ?_
  refine va_sld hx hb hX hbl hbA hS (sc_in (j := 2) hi hL (by omega)) dL_law_422 ?_
  refine callV_i (As := [.int (xs (nI i + 1).toNatClampNeg), .int (xs (nI i + 2).toNatClampNeg)]) (rest := []) S hB hP hS (C := RX6) (b := E.ad 0 0) (g_recv (o := 0) (d := 0) hB hP m_0_0 rfl rfl) (K_X6_way l hE X (xs (nI i + 1).toNatClampNeg) (xs (nI i + 2).toNatClampNeg) f6) (cwV 2 S.2.2.2.2 gL_law_X6_way rfl rfl rfl (by decide +kernel) ⟨Nat.le_of_ble_eq_true rfl, Nat.le_of_ble_eq_true rfl⟩) rfl hl.1 rfl (Nat.le_of_ble_eq_true rfl) dL_law_423 ⟨Nat.le_of_ble_eq_true rfl, Nat.le_of_ble_eq_true rfl⟩ (fun H locs hP hS => ?_)
  refine lv_aload_n hx hb dL_law_426 rfl (lv_at hl 2 rfl) ?_
  refine lv_aload_n hx hb dL_law_427 rfl (lv_at hl 0 rfl) ?_
  refine lv_iload_n hx hb dL_law_428 rfl (lv_at hl 3 rfl) ?_
  refine lv_iconst (v := 1) hx hb dL_law_429 (by decide) ?_
  refine lv_iadd hx hb dL_law_430 ?_
  refine va_sld hx hb hX hbl hbA hS (sc_in (j := 1) hi hL (by omega)) dL_law_431 ?_
  refine lv_aload_n hx hb dL_law_432 rfl (lv_at hl 0 rfl) ?_
  refine lv_iload_n hx hb dL_law_433 rfl (lv_at hl 3 rfl) ?_
  refine lv_iconst (v := 2) hx hb dL_law_434 (by decide) ?_
  refine lv_iadd hx hb dL_law_435 ?_
  refine va_sld hx hb hX hbl hbA hS (sc_in (j := 2) hi hL (by omega)) dL_law_436 ?_
  refine callV_i (As := [.int (xs (nI i + 1).toNatClampNeg), .int (xs (nI i + 2).toNatClampNeg)]) (rest := [.int r]) S hB hP hS (C := RX7) (b := E.ad 22 0) (g_recv (o := 22) (d := 0) hB hP m_22_0 rfl rfl) (KW_X7_way l hE X (xs (nI i + 1).toNatClampNeg) (xs (nI i + 2).toNatClampNeg) f7) (cwV 2 S.2.2.2.2 gL_law_X7_way rfl rfl rfl (by decide +kernel) ⟨Nat.le_of_ble_eq_true rfl, Nat.le_of_ble_eq_true rfl⟩) rfl hl.1 rfl (Nat.le_of_ble_eq_true rfl) dL_law_437 ⟨Nat.le_of_ble_eq_true rfl, Nat.le_of_ble_eq_true rfl⟩ (fun H locs hP hS => ?_)
  exact lv_icmp_eq (tgt := 1605) hx hb dL_law_440 (by decide) (fun _ => next _ _ _ hC2 hP hS) (fun q => absurd rfl q)
theorem lc_turn (S : CallFix p m c cL_law 4 s #[Value.ref b] wsL_law RL) (hB : BS E s s.heap) (hE : Inj E) (hX : va_X b L xs s s.heap) (hbl : b < s.heap.size) (hbA : ¬ GA E b) (hi : i + 5 ≤ L) (hL : L ≤ 2560) (hC : Cpl X (X 22)) (hP : va_P E.1 vwCl (GW E X) H) (hS : va_S (GA E) s.heap H locs) (hl : lv_has ls 4 [(0, .ref b), (1, .ref (E.ad 0 0)), (2, .ref (E.ad 22 0)), (3, .int (nI i))]) (next : ∀ (X2 : Wd) (H : Heap) (locs : List Loc), Cpl X2 (X2 22) → va_P E.1 vwCl (GW E X2) H → va_S (GA E) s.heap H locs → W p l e room_1 s m #[Value.ref b] below meth c H locs 600000 7302250 Q (F0 m 1605 ls [])) : W p l e room_1 s m #[Value.ref b] below meth c H locs 600000 7302250 Q (F0 m 445 ls []) := by
  have hx := S.1
  have hb := S.2.1
  obtain ⟨r, M1, f6, f7, hC1⟩ := T_turn hC (xs (nI i + 1).toNatClampNeg)
  have hC2 : Cpl (va_up X 22 M1) ((va_up X 22 M1) 22) := by rw [va_up_self]; exact hC1.in22
  refine lv_aload_n hx hb dL_law_445 rfl (lv_at hl 1 rfl) ?_
  refine lv_aload_n hx hb dL_law_446 rfl (lv_at hl 0 rfl) ?_
  refine lv_iload_n hx hb dL_law_447 rfl (lv_at hl 3 rfl) ?_
  refine lv_iconst (v := 1) hx hb dL_law_448 (by decide) ?_
  refine lv_iadd hx hb dL_law_449 ?_
  refine va_sld hx hb hX hbl hbA hS (sc_in (j := 1) hi hL (by omega)) dL_law_450 ?_
  refine callV_i (As := [.int (xs (nI i + 1).toNatClampNeg)]) (rest := []) S hB hP hS (C := RX6) (b := E.ad 0 0) (g_recv (o := 0) (d := 0) hB hP m_0_0 rfl rfl) (K_X6_turn l hE X (xs (nI i + 1).toNatClampNeg) f6) (cwV 1 S.2.2.2.2 gL_law_X6_turn rfl rfl rfl (by decide +kernel) ⟨Nat.le_of_ble_eq_true rfl, Nat.le_of_ble_eq_true rfl⟩) rfl hl.1 rfl (Nat.le_of_ble_eq_true rfl) dL_law_451 ⟨Nat.le_of_ble_eq_true rfl, Nat.le_of_ble_eq_true rfl⟩ (fun H locs hP hS => ?_)
  refine lv_aload_n hx hb dL_law_454 rfl (lv_at hl 2 rfl) ?_
  refine lv_aload_n hx hb dL_law_455 rfl (lv_at hl 0 rfl) ?_
  refine lv_iload_n hx hb dL_law_456 rfl (lv_at hl 3 rfl) ?_
  refine lv_iconst (v := 1) hx hb dL_law_457 (by decide) ?_
  refine lv_iadd hx hb dL_law_458 ?_
  refine va_sld hx hb hX hbl hbA hS (sc_in (j := 1) hi hL (by omega)) dL_law_459 ?_
  refine callV_i (As := [.int (xs (nI i + 1).toNatClampNeg)]) (rest := [.int r]) S hB hP hS (C := RX7) (b := E.ad 22 0) (g_recv (o := 22) (d := 0) hB hP m_22_0 rfl rfl) (KW_X7_turn l hE X (xs (nI i + 1).toNatClampNeg) f7) (cwV 1 S.2.2.2.2 gL_law_X7_turn rfl rfl rfl (by decide +kernel) ⟨Nat.le_of_ble_eq_true rfl, Nat.le_of_ble_eq_true rfl⟩) rfl hl.1 rfl (Nat.le_of_ble_eq_true rfl) dL_law_460 ⟨Nat.le_of_ble_eq_true rfl, Nat.le_of_ble_eq_true rfl⟩ (fun H locs hP hS => ?_)
  exact lv_icmp_eq (tgt := 1605) hx hb dL_law_463 (by decide) (fun _ => next _ _ _ hC2 hP hS) (fun q => absurd rfl q)
theorem lc_grow (S : CallFix p m c cL_law 4 s #[Value.ref b] wsL_law RL) (hB : BS E s s.heap) (hE : Inj E) (hX : va_X b L xs s s.heap) (hbl : b < s.heap.size) (hbA : ¬ GA E b) (hi : i + 5 ≤ L) (hL : L ≤ 2560) (hC : Cpl X (X 22)) (hP : va_P E.1 vwCl (GW E X) H) (hS : va_S (GA E) s.heap H locs) (hl : lv_has ls 4 [(0, .ref b), (1, .ref (E.ad 0 0)), (2, .ref (E.ad 22 0)), (3, .int (nI i))]) (next : ∀ (X2 : Wd) (H : Heap) (locs : List Loc), Cpl X2 (X2 22) → va_P E.1 vwCl (GW E X2) H → va_S (GA E) s.heap H locs → W p l e room_1 s m #[Value.ref b] below meth c H locs 600000 7302250 Q (F0 m 1605 ls [])) : W p l e room_1 s m #[Value.ref b] below meth c H locs 600000 7302250 Q (F0 m 468 ls []) := by
  have hx := S.1
  have hb := S.2.1
  obtain ⟨r, X1, M1, f6, f7, e22, hC1⟩ := T_grow hC (xs (nI i + 1).toNatClampNeg) (xs (nI i + 2).toNatClampNeg)
  rw [← e22] at f7
  have hC2 : Cpl (va_up X1 22 M1) ((va_up X1 22 M1) 22) := by rw [va_up_self]; exact hC1.in22
  refine lv_aload_n hx hb dL_law_468 rfl (lv_at hl 1 rfl) ?_
  refine lv_aload_n hx hb dL_law_469 rfl (lv_at hl 0 rfl) ?_
  refine lv_iload_n hx hb dL_law_470 rfl (lv_at hl 3 rfl) ?_
  refine lv_iconst (v := 1) hx hb dL_law_471 (by decide) ?_
  refine lv_iadd hx hb dL_law_472 ?_
  refine va_sld hx hb hX hbl hbA hS (sc_in (j := 1) hi hL (by omega)) dL_law_473 ?_
  refine lv_aload_n hx hb dL_law_474 rfl (lv_at hl 0 rfl) ?_
  refine lv_iload_n hx hb dL_law_475 rfl (lv_at hl 3 rfl) ?_
  refine lv_iconst (v := 2) hx hb dL_law_476 (by decide) ?_
  refine lv_iadd hx hb dL_law_477 ?_
  refine va_sld hx hb hX hbl hbA hS (sc_in (j := 2) hi hL (by omega)) dL_law_478 ?_
  refine callV_i (As := [.int (xs (nI i + 1).toNatClampNeg), .int (xs (nI i + 2).toNatClampNeg)]) (rest := []) S hB hP hS (C := RX6) (b := E.ad 0 0) (g_recv (o := 0) (d := 0) hB hP m_0_0 rfl rfl) (K_X6_grow l hE X (xs (nI i + 1).toNatClampNeg) (xs (nI i + 2).toNatClampNeg) f6) (cwV 2 S.2.2.2.2 gL_law_X6_grow rfl rfl rfl (by decide +kernel) ⟨Nat.le_of_ble_eq_true rfl, Nat.le_of_ble_eq_true rfl⟩) rfl hl.1 rfl (Nat.le_of_ble_eq_true rfl) dL_law_479 ⟨Nat.le_of_ble_eq_true rfl, Nat.le_of_ble_eq_true rfl⟩ (fun H locs hP hS => ?_)
  refine lv_aload_n hx hb dL_law_482 rfl (lv_at hl 2 rfl) ?_
  refine lv_aload_n hx hb dL_law_483 rfl (lv_at hl 0 rfl) ?_
  refine lv_iload_n hx hb dL_law_484 rfl (lv_at hl 3 rfl) ?_
  refine lv_iconst (v := 1) hx hb dL_law_485 (by decide) ?_
  refine lv_iadd hx hb dL_law_486 ?_
  refine va_sld hx hb hX hbl hbA hS (sc_in (j := 1) hi hL (by omega)) dL_law_487 ?_
  refine lv_aload_n hx hb dL_law_488 rfl (lv_at hl 0 rfl) ?_
  refine lv_iload_n hx hb dL_law_489 rfl (lv_at hl 3 rfl) ?_
  refine lv_iconst (v := 2) hx hb dL_law_490 (by decide) ?_
  refine lv_iadd hx hb dL_law_491 ?_
  refine va_sld hx hb hX hbl hbA hS (sc_in (j := 2) hi hL (by omega)) dL_law_492 ?_
  refine callV_i (As := [.int (xs (nI i + 1).toNatClampNeg), .int (xs (nI i + 2).toNatClampNeg)]) (rest := [.int r]) S hB hP hS (C := RX7) (b := E.ad 22 0) (g_recv (o := 22) (d := 0) hB hP m_22_0 rfl rfl) (KW_X7_grow l hE X1 (xs (nI i + 1).toNatClampNeg) (xs (nI i + 2).toNatClampNeg) f7) (cwV 2 S.2.2.2.2 gL_law_X7_grow rfl rfl rfl (by decide +kernel) ⟨Nat.le_of_ble_eq_true rfl, Nat.le_of_ble_eq_true rfl⟩) rfl hl.1 rfl (Nat.le_of_ble_eq_true rfl) dL_law_493 ⟨Nat.le_of_ble_eq_true rfl, Nat.le_of_ble_eq_true rfl⟩ (fun H locs hP hS => ?_)
  exact lv_icmp_eq (tgt := 1605) hx hb dL_law_496 (by decide) (fun _ => next _ _ _ hC2 hP hS) (fun q => absurd rfl q)
theorem lc_alter (S : CallFix p m c cL_law 4 s #[Value.ref b] wsL_law RL) (hB : BS E s s.heap) (hE : Inj E) (hX : va_X b L xs s s.heap) (hbl : b < s.heap.size) (hbA : ¬ GA E b) (hi : i + 5 ≤ L) (hL : L ≤ 2560) (hC : Cpl X (X 22)) (hP : va_P E.1 vwCl (GW E X) H) (hS : va_S (GA E) s.heap H locs) (hl : lv_has ls 4 [(0, .ref b), (1, .ref (E.ad 0 0)), (2, .ref (E.ad 22 0)), (3, .int (nI i))]) (next : ∀ (X2 : Wd) (H : Heap) (locs : List Loc), Cpl X2 (X2 22) → va_P E.1 vwCl (GW E X2) H → va_S (GA E) s.heap H locs → W p l e room_1 s m #[Value.ref b] below meth c H locs 600000 7302250 Q (F0 m 1605 ls [])) : W p l e room_1 s m #[Value.ref b] below meth c H locs 600000 7302250 Q (F0 m 501 ls []) := by
  have hx := S.1
  have hb := S.2.1
  obtain ⟨r, X1, M1, f6, f7, e22, hC1⟩ := T_alter hC (xs (nI i + 1).toNatClampNeg) (xs (nI i + 2).toNatClampNeg) (xs (nI i + 3).toNatClampNeg)
  rw [← e22] at f7
  have hC2 : Cpl (va_up X1 22 M1) ((va_up X1 22 M1) 22) := by rw [va_up_self]; exact hC1.in22
  refine lv_aload_n hx hb dL_law_501 rfl (lv_at hl 1 rfl) ?_
  refine lv_aload_n hx hb dL_law_502 rfl (lv_at hl 0 rfl) ?_
  refine lv_iload_n hx hb dL_law_503 rfl (lv_at hl 3 rfl) ?_
  refine lv_iconst (v := 1) hx hb dL_law_504 (by decide) ?_
  refine lv_iadd hx hb dL_law_505 ?_
  refine va_sld hx hb hX hbl hbA hS (sc_in (j := 1) hi hL (by omega)) dL_law_506 ?_
  refine lv_aload_n hx hb dL_law_507 rfl (lv_at hl 0 rfl) ?_
  refine lv_iload_n hx hb dL_law_508 rfl (lv_at hl 3 rfl) ?_
  refine lv_iconst (v := 2) hx hb dL_law_509 (by decide) ?_
  refine lv_iadd hx hb dL_law_510 ?_
  refine va_sld hx hb hX hbl hbA hS (sc_in (j := 2) hi hL (by omega)) dL_law_511 ?_
  refine lv_aload_n hx hb dL_law_512 rfl (lv_at hl 0 rfl) ?_
  refine lv_iload_n hx hb dL_law_513 rfl (lv_at hl 3 rfl) ?_
  refine lv_iconst (v := 3) hx hb dL_law_514 (by decide) ?_
  refine lv_iadd hx hb dL_law_515 ?_
  refine va_sld hx hb hX hbl hbA hS (sc_in (j := 3) hi hL (by omega)) dL_law_516 ?_
  refine callV_i (As := [.int (xs (nI i + 1).toNatClampNeg), .int (xs (nI i + 2).toNatClampNeg), .int (xs (nI i + 3).toNatClampNeg)]) (rest := []) S hB hP hS (C := RX6) (b := E.ad 0 0) (g_recv (o := 0) (d := 0) hB hP m_0_0 rfl rfl) (K_X6_alter l hE X (xs (nI i + 1).toNatClampNeg) (xs (nI i + 2).toNatClampNeg) (xs (nI i + 3).toNatClampNeg) f6) (cwV 3 S.2.2.2.2 gL_law_X6_alter rfl rfl rfl (by decide +kernel) ⟨Nat.le_of_ble_eq_true rfl, Nat.le_of_ble_eq_true rfl⟩) rfl hl.1 rfl (Nat.le_of_ble_eq_true rfl) dL_law_517 ⟨Nat.le_of_ble_eq_true rfl, Nat.le_of_ble_eq_true rfl⟩ (fun H locs hP hS => ?_)
  refine lv_aload_n hx hb dL_law_520 rfl (lv_at hl 2 rfl) ?_
  refine lv_aload_n hx hb dL_law_521 rfl (lv_at hl 0 rfl) ?_
  refine lv_iload_n hx hb dL_law_522 rfl (lv_at hl 3 rfl) ?_
  refine lv_iconst (v := 1) hx hb dL_law_523 (by decide) ?_
  refine lv_iadd hx hb dL_law_524 ?_
  refine va_sld hx hb hX hbl hbA hS (sc_in (j := 1) hi hL (by omega)) dL_law_525 ?_
  refine lv_aload_n hx hb dL_law_526 rfl (lv_at hl 0 rfl) ?_
  refine lv_iload_n hx hb dL_law_527 rfl (lv_at hl 3 rfl) ?_
  refine lv_iconst (v := 2) hx hb dL_law_528 (by decide) ?_
  refine lv_iadd hx hb dL_law_529 ?_
  refine va_sld hx hb hX hbl hbA hS (sc_in (j := 2) hi hL (by omega)) dL_law_530 ?_
  refine lv_aload_n hx hb dL_law_531 rfl (lv_at hl 0 rfl) ?_
  refine lv_iload_n hx hb dL_law_532 rfl (lv_at hl 3 rfl) ?_
  refine lv_iconst (v := 3) hx hb dL_law_533 (by decide) ?_
  refine lv_iadd hx hb dL_law_534 ?_
  refine va_sld hx hb hX hbl hbA hS (sc_in (j := 3) hi hL (by omega)) dL_law_535 ?_
  refine callV_i (As := [.int (xs (nI i + 1).toNatClampNeg), .int (xs (nI i + 2).toNatClampNeg), .int (xs (nI i + 3).toNatClampNeg)]) (rest := [.int r]) S hB hP hS (C := RX7) (b := E.ad 22 0) (g_recv (o := 22) (d := 0) hB hP m_22_0 rfl rfl) (KW_X7_alter l hE X1 (xs (nI i + 1).toNatClampNeg) (xs (nI i + 2).toNatClampNeg) (xs (nI i + 3).toNatClampNeg) f7) (cwV 3 S.2.2.2.2 gL_law_X7_alter rfl rfl rfl (by decide +kernel) ⟨Nat.le_of_ble_eq_true rfl, Nat.le_of_ble_eq_true rfl⟩) rfl hl.1 rfl (Nat.le_of_ble_eq_true rfl) dL_law_536 ⟨Nat.le_of_ble_eq_true rfl, Nat.le_of_ble_eq_true rfl⟩ (fun H locs hP hS => ?_)
  exact lv_icmp_eq (tgt := 1605) hx hb dL_law_539 (by decide) (fun _ => next _ _ _ hC2 hP hS) (fun q => absurd rfl q)
theorem lc_hire (S : CallFix p m c cL_law 4 s #[Value.ref b] wsL_law RL) (hB : BS E s s.heap) (hE : Inj E) (hX : va_X b L xs s s.heap) (hbl : b < s.heap.size) (hbA : ¬ GA E b) (hi : i + 5 ≤ L) (hL : L ≤ 2560) (hC : Cpl X (X 22)) (hP : va_P E.1 vwCl (GW E X) H) (hS : va_S (GA E) s.heap H locs) (hl : lv_has ls 4 [(0, .ref b), (1, .ref (E.ad 0 0)), (2, .ref (E.ad 22 0)), (3, .int (nI i))]) (next : ∀ (X2 : Wd) (H : Heap) (locs : List Loc), Cpl X2 (X2 22) → va_P E.1 vwCl (GW E X2) H → va_S (GA E) s.heap H locs → W p l e room_1 s m #[Value.ref b] below meth c H locs 600000 7302250 Q (F0 m 1605 ls [])) : W p l e room_1 s m #[Value.ref b] below meth c H locs 600000 7302250 Q (F0 m 544 ls []) := by
  have hx := S.1
  have hb := S.2.1
  obtain ⟨r, X1, M1, f6, f7, e22, hC1⟩ := T_hire hC (xs (nI i + 1).toNatClampNeg) (xs (nI i + 2).toNatClampNeg) (xs (nI i + 3).toNatClampNeg)
  rw [← e22] at f7
  have hC2 : Cpl (va_up X1 22 M1) ((va_up X1 22 M1) 22) := by rw [va_up_self]; exact hC1.in22
  refine lv_aload_n hx hb dL_law_544 rfl (lv_at hl 1 rfl) ?_
  refine lv_aload_n hx hb dL_law_545 rfl (lv_at hl 0 rfl) ?_
  refine lv_iload_n hx hb dL_law_546 rfl (lv_at hl 3 rfl) ?_
  refine lv_iconst (v := 1) hx hb dL_law_547 (by decide) ?_
  refine lv_iadd hx hb dL_law_548 ?_
  refine va_sld hx hb hX hbl hbA hS (sc_in (j := 1) hi hL (by omega)) dL_law_549 ?_
  refine lv_aload_n hx hb dL_law_550 rfl (lv_at hl 0 rfl) ?_
  refine lv_iload_n hx hb dL_law_551 rfl (lv_at hl 3 rfl) ?_
  refine lv_iconst (v := 2) hx hb dL_law_552 (by decide) ?_
  refine lv_iadd hx hb dL_law_553 ?_
  refine va_sld hx hb hX hbl hbA hS (sc_in (j := 2) hi hL (by omega)) dL_law_554 ?_
  refine lv_aload_n hx hb dL_law_555 rfl (lv_at hl 0 rfl) ?_
  refine lv_iload_n hx hb dL_law_556 rfl (lv_at hl 3 rfl) ?_
  refine lv_iconst (v := 3) hx hb dL_law_557 (by decide) ?_
  refine lv_iadd hx hb dL_law_558 ?_
  refine va_sld hx hb hX hbl hbA hS (sc_in (j := 3) hi hL (by omega)) dL_law_559 ?_
  refine callV_i (As := [.int (xs (nI i + 1).toNatClampNeg), .int (xs (nI i + 2).toNatClampNeg), .int (xs (nI i + 3).toNatClampNeg)]) (rest := []) S hB hP hS (C := RX6) (b := E.ad 0 0) (g_recv (o := 0) (d := 0) hB hP m_0_0 rfl rfl) (K_X6_hire l hE X (xs (nI i + 1).toNatClampNeg) (xs (nI i + 2).toNatClampNeg) (xs (nI i + 3).toNatClampNeg) f6) (cwV 3 S.2.2.2.2 gL_law_X6_hire rfl rfl rfl (by decide +kernel) ⟨Nat.le_of_ble_eq_true rfl, Nat.le_of_ble_eq_true rfl⟩) rfl hl.1 rfl (Nat.le_of_ble_eq_true rfl) dL_law_560 ⟨Nat.le_of_ble_eq_true rfl, Nat.le_of_ble_eq_true rfl⟩ (fun H locs hP hS => ?_)
  refine lv_aload_n hx hb dL_law_563 rfl (lv_at hl 2 rfl) ?_
  refine lv_aload_n hx hb dL_law_564 rfl (lv_at hl 0 rfl) ?_
  refine lv_iload_n hx hb dL_law_565 rfl (lv_at hl 3 rfl) ?_
  refine lv_iconst (v := 1) hx hb dL_law_566 (by decide) ?_
  refine lv_iadd hx hb dL_law_567 ?_
  refine va_sld hx hb hX hbl hbA hS (sc_in (j := 1) hi hL (by omega)) dL_law_568 ?_
  refine lv_aload_n hx hb dL_law_569 rfl (lv_at hl 0 rfl) ?_
  refine lv_iload_n hx hb dL_law_570 rfl (lv_at hl 3 rfl) ?_
  refine lv_iconst (v := 2) hx hb dL_law_571 (by decide) ?_
  refine lv_iadd hx hb dL_law_572 ?_
  refine va_sld hx hb hX hbl hbA hS (sc_in (j := 2) hi hL (by omega)) dL_law_573 ?_
  refine lv_aload_n hx hb dL_law_574 rfl (lv_at hl 0 rfl) ?_
  refine lv_iload_n hx hb dL_law_575 rfl (lv_at hl 3 rfl) ?_
  refine lv_iconst (v := 3) hx hb dL_law_576 (by decide) ?_
  refine lv_iadd hx hb dL_law_577 ?_
  refine va_sld hx hb hX hbl hbA hS (sc_in (j := 3) hi hL (by omega)) dL_law_578 ?_
  refine callV_i (As := [.int (xs (nI i + 1).toNatClampNeg), .int (xs (nI i + 2).toNatClampNeg), .int (xs (nI i + 3).toNatClampNeg)]) (rest := [.int r]) S hB hP hS (C := RX7) (b := E.ad 22 0) (g_recv (o := 22) (d := 0) hB hP m_22_0 rfl rfl) (KW_X7_hire l hE X1 (xs (nI i + 1).toNatClampNeg) (xs (nI i + 2).toNatClampNeg) (xs (nI i + 3).toNatClampNeg) f7) (cwV 3 S.2.2.2.2 gL_law_X7_hire rfl rfl rfl (by decide +kernel) ⟨Nat.le_of_ble_eq_true rfl, Nat.le_of_ble_eq_true rfl⟩) rfl hl.1 rfl (Nat.le_of_ble_eq_true rfl) dL_law_579 ⟨Nat.le_of_ble_eq_true rfl, Nat.le_of_ble_eq_true rfl⟩ (fun H locs hP hS => ?_)
  exact lv_icmp_eq (tgt := 1605) hx hb dL_law_582 (by decide) (fun _ => next _ _ _ hC2 hP hS) (fun q => absurd rfl q)
theorem lc_leave (S : CallFix p m c cL_law 4 s #[Value.ref b] wsL_law RL) (hB : BS E s s.heap) (hE : Inj E) (hX : va_X b L xs s s.heap) (hbl : b < s.heap.size) (hbA : ¬ GA E b) (hi : i + 5 ≤ L) (hL : L ≤ 2560) (hC : Cpl X (X 22)) (hP : va_P E.1 vwCl (GW E X) H) (hS : va_S (GA E) s.heap H locs) (hl : lv_has ls 4 [(0, .ref b), (1, .ref (E.ad 0 0)), (2, .ref (E.ad 22 0)), (3, .int (nI i))]) (next : ∀ (X2 : Wd) (H : Heap) (locs : List Loc), Cpl X2 (X2 22) → va_P E.1 vwCl (GW E X2) H → va_S (GA E) s.heap H locs → W p l e room_1 s m #[Value.ref b] below meth c H locs 600000 7302250 Q (F0 m 1605 ls [])) : W p l e room_1 s m #[Value.ref b] below meth c H locs 600000 7302250 Q (F0 m 587 ls []) := by
  have hx := S.1
  have hb := S.2.1
  obtain ⟨r, X1, M1, f6, f7, e22, hC1⟩ := T_leave hC (xs (nI i + 1).toNatClampNeg)
  rw [← e22] at f7
  have hC2 : Cpl (va_up X1 22 M1) ((va_up X1 22 M1) 22) := by rw [va_up_self]; exact hC1.in22
  refine lv_aload_n hx hb dL_law_587 rfl (lv_at hl 1 rfl) ?_
  refine lv_aload_n hx hb dL_law_588 rfl (lv_at hl 0 rfl) ?_
  refine lv_iload_n hx hb dL_law_589 rfl (lv_at hl 3 rfl) ?_
  refine lv_iconst (v := 1) hx hb dL_law_590 (by decide) ?_
  refine lv_iadd hx hb dL_law_591 ?_
  refine va_sld hx hb hX hbl hbA hS (sc_in (j := 1) hi hL (by omega)) dL_law_592 ?_
  refine callV_i (As := [.int (xs (nI i + 1).toNatClampNeg)]) (rest := []) S hB hP hS (C := RX6) (b := E.ad 0 0) (g_recv (o := 0) (d := 0) hB hP m_0_0 rfl rfl) (K_X6_leave l hE X (xs (nI i + 1).toNatClampNeg) f6) (cwV 1 S.2.2.2.2 gL_law_X6_leave rfl rfl rfl (by decide +kernel) ⟨Nat.le_of_ble_eq_true rfl, Nat.le_of_ble_eq_true rfl⟩) rfl hl.1 rfl (Nat.le_of_ble_eq_true rfl) dL_law_593 ⟨Nat.le_of_ble_eq_true rfl, Nat.le_of_ble_eq_true rfl⟩ (fun H locs hP hS => ?_)
  refine lv_aload_n hx hb dL_law_596 rfl (lv_at hl 2 rfl) ?_
  refine lv_aload_n hx hb dL_law_597 rfl (lv_at hl 0 rfl) ?_
  refine lv_iload_n hx hb dL_law_598 rfl (lv_at hl 3 rfl) ?_
  refine lv_iconst (v := 1) hx hb dL_law_599 (by decide) ?_
  refine lv_iadd hx hb dL_law_600 ?_
  refine va_sld hx hb hX hbl hbA hS (sc_in (j := 1) hi hL (by omega)) dL_law_601 ?_
  refine callV_i (As := [.int (xs (nI i + 1).toNatClampNeg)]) (rest := [.int r]) S hB hP hS (C := RX7) (b := E.ad 22 0) (g_recv (o := 22) (d := 0) hB hP m_22_0 rfl rfl) (KW_X7_leave l hE X1 (xs (nI i + 1).toNatClampNeg) f7) (cwV 1 S.2.2.2.2 gL_law_X7_leave rfl rfl rfl (by decide +kernel) ⟨Nat.le_of_ble_eq_true rfl, Nat.le_of_ble_eq_true rfl⟩) rfl hl.1 rfl (Nat.le_of_ble_eq_true rfl) dL_law_602 ⟨Nat.le_of_ble_eq_true rfl, Nat.le_of_ble_eq_true rfl⟩ (fun H locs hP hS => ?_)
  exact lv_icmp_eq (tgt := 1605) hx hb dL_law_605 (by decide) (fun _ => next _ _ _ hC2 hP hS) (fun q => absurd rfl q)
theorem lc_come (S : CallFix p m c cL_law 4 s #[Value.ref b] wsL_law RL) (hB : BS E s s.heap) (hE : Inj E) (hX : va_X b L xs s s.heap) (hbl : b < s.heap.size) (hbA : ¬ GA E b) (hi : i + 5 ≤ L) (hL : L ≤ 2560) (hC : Cpl X (X 22)) (hP : va_P E.1 vwCl (GW E X) H) (hS : va_S (GA E) s.heap H locs) (hl : lv_has ls 4 [(0, .ref b), (1, .ref (E.ad 0 0)), (2, .ref (E.ad 22 0)), (3, .int (nI i))]) (next : ∀ (X2 : Wd) (H : Heap) (locs : List Loc), Cpl X2 (X2 22) → va_P E.1 vwCl (GW E X2) H → va_S (GA E) s.heap H locs → W p l e room_1 s m #[Value.ref b] below meth c H locs 600000 7302250 Q (F0 m 1605 ls [])) : W p l e room_1 s m #[Value.ref b] below meth c H locs 600000 7302250 Q (F0 m 610 ls []) := by
  have hx := S.1
  have hb := S.2.1
  obtain ⟨r, X1, M1, f6, f7, e22, hC1⟩ := T_come hC (xs (nI i + 1).toNatClampNeg) (xs (nI i + 2).toNatClampNeg)
  rw [← e22] at f7
  have hC2 : Cpl (va_up X1 22 M1) ((va_up X1 22 M1) 22) := by rw [va_up_self]; exact hC1.in22
  refine lv_aload_n hx hb dL_law_610 rfl (lv_at hl 1 rfl) ?_
  refine lv_aload_n hx hb dL_law_611 rfl (lv_at hl 0 rfl) ?_
  refine lv_iload_n hx hb dL_law_612 rfl (lv_at hl 3 rfl) ?_
  refine lv_iconst (v := 1) hx hb dL_law_613 (by decide) ?_
  refine lv_iadd hx hb dL_law_614 ?_
  refine va_sld hx hb hX hbl hbA hS (sc_in (j := 1) hi hL (by omega)) dL_law_615 ?_
  refine lv_aload_n hx hb dL_law_616 rfl (lv_at hl 0 rfl) ?_
  refine lv_iload_n hx hb dL_law_617 rfl (lv_at hl 3 rfl) ?_
  refine lv_iconst (v := 2) hx hb dL_law_618 (by decide) ?_
  refine lv_iadd hx hb dL_law_619 ?_
  refine va_sld hx hb hX hbl hbA hS (sc_in (j := 2) hi hL (by omega)) dL_law_620 ?_
  refine callV_i (As := [.int (xs (nI i + 1).toNatClampNeg), .int (xs (nI i + 2).toNatClampNeg)]) (rest := []) S hB hP hS (C := RX6) (b := E.ad 0 0) (g_recv (o := 0) (d := 0) hB hP m_0_0 rfl rfl) (K_X6_come l hE X (xs (nI i + 1).toNatClampNeg) (xs (nI i + 2).toNatClampNeg) f6) (cwV 2 S.2.2.2.2 gL_law_X6_come rfl rfl rfl (by decide +kernel) ⟨Nat.le_of_ble_eq_true rfl, Nat.le_of_ble_eq_true rfl⟩) rfl hl.1 rfl (Nat.le_of_ble_eq_true rfl) dL_law_621 ⟨Nat.le_of_ble_eq_true rfl, Nat.le_of_ble_eq_true rfl⟩ (fun H locs hP hS => ?_)
  refine lv_aload_n hx hb dL_law_624 rfl (lv_at hl 2 rfl) ?_
  refine lv_aload_n hx hb dL_law_625 rfl (lv_at hl 0 rfl) ?_
  refine lv_iload_n hx hb dL_law_626 rfl (lv_at hl 3 rfl) ?_
  refine lv_iconst (v := 1) hx hb dL_law_627 (by decide) ?_
  refine lv_iadd hx hb dL_law_628 ?_
  refine va_sld hx hb hX hbl hbA hS (sc_in (j := 1) hi hL (by omega)) dL_law_629 ?_
  refine lv_aload_n hx hb dL_law_630 rfl (lv_at hl 0 rfl) ?_
  refine lv_iload_n hx hb dL_law_631 rfl (lv_at hl 3 rfl) ?_
  refine lv_iconst (v := 2) hx hb dL_law_632 (by decide) ?_
  refine lv_iadd hx hb dL_law_633 ?_
  refine va_sld hx hb hX hbl hbA hS (sc_in (j := 2) hi hL (by omega)) dL_law_634 ?_
  refine callV_i (As := [.int (xs (nI i + 1).toNatClampNeg), .int (xs (nI i + 2).toNatClampNeg)]) (rest := [.int r]) S hB hP hS (C := RX7) (b := E.ad 22 0) (g_recv (o := 22) (d := 0) hB hP m_22_0 rfl rfl) (KW_X7_come l hE X1 (xs (nI i + 1).toNatClampNeg) (xs (nI i + 2).toNatClampNeg) f7) (cwV 2 S.2.2.2.2 gL_law_X7_come rfl rfl rfl (by decide +kernel) ⟨Nat.le_of_ble_eq_true rfl, Nat.le_of_ble_eq_true rfl⟩) rfl hl.1 rfl (Nat.le_of_ble_eq_true rfl) dL_law_635 ⟨Nat.le_of_ble_eq_true rfl, Nat.le_of_ble_eq_true rfl⟩ (fun H locs hP hS => ?_)
  exact lv_icmp_eq (tgt := 1605) hx hb dL_law_638 (by decide) (fun _ => next _ _ _ hC2 hP hS) (fun q => absurd rfl q)
end LC
