/-! the law, call by call, on -/
section LC
variable {p : Program} {l : Launch} {e : Env} {s : State} {m : MethodId} {below : List Frame} {meth : Method} {c : Code} {b L : Nat} {xs : Nat → Int32} {E : En} {X : Wd} {H : Heap} {locs : List Loc} {Q : State → Prop} {ls : Array Slot} {i : Nat}
theorem lc_move (S : CallFix p m c cL_law 4 s #[Value.ref b] wsL_law RL) (hB : BS E s s.heap) (hE : Inj E) (hX : va_X b L xs s s.heap) (hbl : b < s.heap.size) (hbA : ¬ GA E b) (hi : i + 5 ≤ L) (hL : L ≤ 2560) (hC : Cpl X (X 22)) (hP : va_P E.1 vwCl (GW E X) H) (hS : va_S (GA E) s.heap H locs) (hl : lv_has ls 4 [(0, .ref b), (1, .ref (E.ad 0 0)), (2, .ref (E.ad 22 0)), (3, .int (nI i))]) (next : ∀ (X2 : Wd) (H : Heap) (locs : List Loc), Cpl X2 (X2 22) → va_P E.1 vwCl (GW E X2) H → va_S (GA E) s.heap H locs → W p l e room_1 s m #[Value.ref b] below meth c H locs 600000 7302250 Q (F0 m 1605 ls [])) : W p l e room_1 s m #[Value.ref b] below meth c H locs 600000 7302250 Q (F0 m 643 ls []) := by
  have hx := S.1
  have hb := S.2.1
  obtain ⟨r, X1, M1, f6, f7, e22, hC1⟩ := T_move hC (xs (nI i + 1).toNatClampNeg) (xs (nI i + 2).toNatClampNeg)
  rw [← e22] at f7
  have hC2 : Cpl (va_up X1 22 M1) ((va_up X1 22 M1) 22) := by rw [va_up_self]; exact hC1.in22
  refine lv_aload_n hx hb dL_law_643 rfl (lv_at hl 1 rfl) ?_
  refine lv_aload_n hx hb dL_law_644 rfl (lv_at hl 0 rfl) ?_
  refine lv_iload_n hx hb dL_law_645 rfl (lv_at hl 3 rfl) ?_
  refine lv_iconst (v := 1) hx hb dL_law_646 (by decide) ?_
  refine lv_iadd hx hb dL_law_647 ?_
  refine va_sld hx hb hX hbl hbA hS (sc_in (j := 1) hi hL (by omega)) dL_law_648 ?_
  refine lv_aload_n hx hb dL_law_649 rfl (lv_at hl 0 rfl) ?_
  refine lv_iload_n hx hb dL_law_650 rfl (lv_at hl 3 rfl) ?_
  refine lv_iconst (v := 2) hx hb dL_law_651 (by decide) ?_
  refine lv_iadd hx hb dL_law_652 ?_
  refine va_sld hx hb hX hbl hbA hS (sc_in (j := 2) hi hL (by omega)) dL_law_653 ?_
  refine callV_i (As := [.int (xs (nI i + 1).toNatClampNeg), .int (xs (nI i + 2).toNatClampNeg)]) (rest := []) S hB hP hS (C := RX6) (b := E.ad 0 0) (g_recv (o := 0) (d := 0) hB hP m_0_0 rfl rfl) (K_X6_move l hE X (xs (nI i + 1).toNatClampNeg) (xs (nI i + 2).toNatClampNeg) f6) (cwV 2 S.2.2.2.2 gL_law_X6_move rfl rfl rfl (by decide +kernel) ⟨Nat.le_of_ble_eq_true rfl, Nat.le_of_ble_eq_true rfl⟩) rfl hl.1 rfl (Nat.le_of_ble_eq_true rfl) dL_law_654 ⟨Nat.le_of_ble_eq_true rfl, Nat.le_of_ble_eq_true rfl⟩ (fun H locs hP hS => ?_)
  refine lv_aload_n hx hb dL_law_657 rfl (lv_at hl 2 rfl) ?_
  refine lv_aload_n hx hb dL_law_658 rfl (lv_at hl 0 rfl) ?_
  refine lv_iload_n hx hb dL_law_659 rfl (lv_at hl 3 rfl) ?_
  refine lv_iconst (v := 1) hx hb dL_law_660 (by decide) ?_
  refine lv_iadd hx hb dL_law_661 ?_
  refine va_sld hx hb hX hbl hbA hS (sc_in (j := 1) hi hL (by omega)) dL_law_662 ?_
  refine lv_aload_n hx hb dL_law_663 rfl (lv_at hl 0 rfl) ?_
  refine lv_iload_n hx hb dL_law_664 rfl (lv_at hl 3 rfl) ?_
  refine lv_iconst (v := 2) hx hb dL_law_665 (by decide) ?_
  refine lv_iadd hx hb dL_law_666 ?_
  refine va_sld hx hb hX hbl hbA hS (sc_in (j := 2) hi hL (by omega)) dL_law_667 ?_
  refine callV_i (As := [.int (xs (nI i + 1).toNatClampNeg), .int (xs (nI i + 2).toNatClampNeg)]) (rest := [.int r]) S hB hP hS (C := RX7) (b := E.ad 22 0) (g_recv (o := 22) (d := 0) hB hP m_22_0 rfl rfl) (KW_X7_move l hE X1 (xs (nI i + 1).toNatClampNeg) (xs (nI i + 2).toNatClampNeg) f7) (cwV 2 S.2.2.2.2 gL_law_X7_move rfl rfl rfl (by decide +kernel) ⟨Nat.le_of_ble_eq_true rfl, Nat.le_of_ble_eq_true rfl⟩) rfl hl.1 rfl (Nat.le_of_ble_eq_true rfl) dL_law_668 ⟨Nat.le_of_ble_eq_true rfl, Nat.le_of_ble_eq_true rfl⟩ (fun H locs hP hS => ?_)
  exact lv_icmp_eq (tgt := 1605) hx hb dL_law_671 (by decide) (fun _ => next _ _ _ hC2 hP hS) (fun q => absurd rfl q)
theorem lc_bread (S : CallFix p m c cL_law 4 s #[Value.ref b] wsL_law RL) (hB : BS E s s.heap) (hE : Inj E) (hX : va_X b L xs s s.heap) (hbl : b < s.heap.size) (hbA : ¬ GA E b) (hi : i + 5 ≤ L) (hL : L ≤ 2560) (hC : Cpl X (X 22)) (hP : va_P E.1 vwCl (GW E X) H) (hS : va_S (GA E) s.heap H locs) (hl : lv_has ls 4 [(0, .ref b), (1, .ref (E.ad 0 0)), (2, .ref (E.ad 22 0)), (3, .int (nI i))]) (next : ∀ (X2 : Wd) (H : Heap) (locs : List Loc), Cpl X2 (X2 22) → va_P E.1 vwCl (GW E X2) H → va_S (GA E) s.heap H locs → W p l e room_1 s m #[Value.ref b] below meth c H locs 600000 7302250 Q (F0 m 1605 ls [])) : W p l e room_1 s m #[Value.ref b] below meth c H locs 600000 7302250 Q (F0 m 676 ls []) := by
  have hx := S.1
  have hb := S.2.1
  obtain ⟨r, X1, M1, f6, f7, e22, hC1⟩ := T_bread hC (xs (nI i + 1).toNatClampNeg) (xs (nI i + 2).toNatClampNeg)
  rw [← e22] at f7
  have hC2 : Cpl (va_up X1 22 M1) ((va_up X1 22 M1) 22) := by rw [va_up_self]; exact hC1.in22
  refine lv_aload_n hx hb dL_law_676 rfl (lv_at hl 1 rfl) ?_
  refine lv_aload_n hx hb dL_law_677 rfl (lv_at hl 0 rfl) ?_
  refine lv_iload_n hx hb dL_law_678 rfl (lv_at hl 3 rfl) ?_
  refine lv_iconst (v := 1) hx hb dL_law_679 (by decide) ?_
  refine lv_iadd hx hb dL_law_680 ?_
  refine va_sld hx hb hX hbl hbA hS (sc_in (j := 1) hi hL (by omega)) dL_law_681 ?_
  refine lv_aload_n hx hb dL_law_682 rfl (lv_at hl 0 rfl) ?_
  refine lv_iload_n hx hb dL_law_683 rfl (lv_at hl 3 rfl) ?_
  refine lv_iconst (v := 2) hx hb dL_law_684 (by decide) ?_
  refine lv_iadd hx hb dL_law_685 ?_
  refine va_sld hx hb hX hbl hbA hS (sc_in (j := 2) hi hL (by omega)) dL_law_686 ?_
  refine callV_i (As := [.int (xs (nI i + 1).toNatClampNeg), .int (xs (nI i + 2).toNatClampNeg)]) (rest := []) S hB hP hS (C := RX6) (b := E.ad 0 0) (g_recv (o := 0) (d := 0) hB hP m_0_0 rfl rfl) (K_X6_bread l hE X (xs (nI i + 1).toNatClampNeg) (xs (nI i + 2).toNatClampNeg) f6) (cwV 2 S.2.2.2.2 gL_law_X6_bread rfl rfl rfl (by decide +kernel) ⟨Nat.le_of_ble_eq_true rfl, Nat.le_of_ble_eq_true rfl⟩) rfl hl.1 rfl (Nat.le_of_ble_eq_true rfl) dL_law_687 ⟨Nat.le_of_ble_eq_true rfl, Nat.le_of_ble_eq_true rfl⟩ (fun H locs hP hS => ?_)
  refine lv_aload_n hx hb dL_law_690 rfl (lv_at hl 2 rfl) ?_
  refine lv_aload_n hx hb dL_law_691 rfl (lv_at hl 0 rfl) ?_
  refine lv_iload_n hx hb dL_law_692 rfl (lv_at hl 3 rfl) ?_
  refine lv_iconst (v := 1) hx hb dL_law_693 (by decide) ?_
  refine lv_iadd hx hb dL_law_694 ?_
  refine va_sld hx hb hX hbl hbA hS (sc_in (j := 1) hi hL (by omega)) dL_law_695 ?_
  refine lv_aload_n hx hb dL_law_696 rfl (lv_at hl 0 rfl) ?_
  refine lv_iload_n hx hb dL_law_697 rfl (lv_at hl 3 rfl) ?_
  refine lv_iconst (v := 2) hx hb dL_law_698 (by decide) ?_
  refine lv_iadd hx hb dL_law_699 ?_
  refine va_sld hx hb hX hbl hbA hS (sc_in (j := 2) hi hL (by omega)) dL_law_700 ?_
  refine callV_i (As := [.int (xs (nI i + 1).toNatClampNeg), .int (xs (nI i + 2).toNatClampNeg)]) (rest := [.int r]) S hB hP hS (C := RX7) (b := E.ad 22 0) (g_recv (o := 22) (d := 0) hB hP m_22_0 rfl rfl) (KW_X7_bread l hE X1 (xs (nI i + 1).toNatClampNeg) (xs (nI i + 2).toNatClampNeg) f7) (cwV 2 S.2.2.2.2 gL_law_X7_bread rfl rfl rfl (by decide +kernel) ⟨Nat.le_of_ble_eq_true rfl, Nat.le_of_ble_eq_true rfl⟩) rfl hl.1 rfl (Nat.le_of_ble_eq_true rfl) dL_law_701 ⟨Nat.le_of_ble_eq_true rfl, Nat.le_of_ble_eq_true rfl⟩ (fun H locs hP hS => ?_)
  exact lv_icmp_eq (tgt := 1605) hx hb dL_law_704 (by decide) (fun _ => next _ _ _ hC2 hP hS) (fun q => absurd rfl q)
theorem lc_open (S : CallFix p m c cL_law 4 s #[Value.ref b] wsL_law RL) (hB : BS E s s.heap) (hE : Inj E) (hX : va_X b L xs s s.heap) (hbl : b < s.heap.size) (hbA : ¬ GA E b) (hi : i + 5 ≤ L) (hL : L ≤ 2560) (hC : Cpl X (X 22)) (hP : va_P E.1 vwCl (GW E X) H) (hS : va_S (GA E) s.heap H locs) (hl : lv_has ls 4 [(0, .ref b), (1, .ref (E.ad 0 0)), (2, .ref (E.ad 22 0)), (3, .int (nI i))]) (next : ∀ (X2 : Wd) (H : Heap) (locs : List Loc), Cpl X2 (X2 22) → va_P E.1 vwCl (GW E X2) H → va_S (GA E) s.heap H locs → W p l e room_1 s m #[Value.ref b] below meth c H locs 600000 7302250 Q (F0 m 1605 ls [])) : W p l e room_1 s m #[Value.ref b] below meth c H locs 600000 7302250 Q (F0 m 709 ls []) := by
  have hx := S.1
  have hb := S.2.1
  obtain ⟨r, X1, M1, f6, f7, e22, hC1⟩ := T_open hC (xs (nI i + 1).toNatClampNeg)
  rw [← e22] at f7
  have hC2 : Cpl (va_up X1 22 M1) ((va_up X1 22 M1) 22) := by rw [va_up_self]; exact hC1.in22
  refine lv_aload_n hx hb dL_law_709 rfl (lv_at hl 1 rfl) ?_
  refine lv_aload_n hx hb dL_law_710 rfl (lv_at hl 0 rfl) ?_
  refine lv_iload_n hx hb dL_law_711 rfl (lv_at hl 3 rfl) ?_
  refine lv_iconst (v := 1) hx hb dL_law_712 (by decide) ?_
  refine lv_iadd hx hb dL_law_713 ?_
  refine va_sld hx hb hX hbl hbA hS (sc_in (j := 1) hi hL (by omega)) dL_law_714 ?_
  refine callV_i (As := [.int (xs (nI i + 1).toNatClampNeg)]) (rest := []) S hB hP hS (C := RX6) (b := E.ad 0 0) (g_recv (o := 0) (d := 0) hB hP m_0_0 rfl rfl) (K_X6_open l hE X (xs (nI i + 1).toNatClampNeg) f6) (cwV 1 S.2.2.2.2 gL_law_X6_open rfl rfl rfl (by decide +kernel) ⟨Nat.le_of_ble_eq_true rfl, Nat.le_of_ble_eq_true rfl⟩) rfl hl.1 rfl (Nat.le_of_ble_eq_true rfl) dL_law_715 ⟨Nat.le_of_ble_eq_true rfl, Nat.le_of_ble_eq_true rfl⟩ (fun H locs hP hS => ?_)
  refine lv_aload_n hx hb dL_law_718 rfl (lv_at hl 2 rfl) ?_
  refine lv_aload_n hx hb dL_law_719 rfl (lv_at hl 0 rfl) ?_
  refine lv_iload_n hx hb dL_law_720 rfl (lv_at hl 3 rfl) ?_
  refine lv_iconst (v := 1) hx hb dL_law_721 (by decide) ?_
  refine lv_iadd hx hb dL_law_722 ?_
  refine va_sld hx hb hX hbl hbA hS (sc_in (j := 1) hi hL (by omega)) dL_law_723 ?_
  refine callV_i (As := [.int (xs (nI i + 1).toNatClampNeg)]) (rest := [.int r]) S hB hP hS (C := RX7) (b := E.ad 22 0) (g_recv (o := 22) (d := 0) hB hP m_22_0 rfl rfl) (KW_X7_open l hE X1 (xs (nI i + 1).toNatClampNeg) f7) (cwV 1 S.2.2.2.2 gL_law_X7_open rfl rfl rfl (by decide +kernel) ⟨Nat.le_of_ble_eq_true rfl, Nat.le_of_ble_eq_true rfl⟩) rfl hl.1 rfl (Nat.le_of_ble_eq_true rfl) dL_law_724 ⟨Nat.le_of_ble_eq_true rfl, Nat.le_of_ble_eq_true rfl⟩ (fun H locs hP hS => ?_)
  exact lv_icmp_eq (tgt := 1605) hx hb dL_law_727 (by decide) (fun _ => next _ _ _ hC2 hP hS) (fun q => absurd rfl q)
theorem lc_days (S : CallFix p m c cL_law 4 s #[Value.ref b] wsL_law RL) (hB : BS E s s.heap) (hE : Inj E) (hX : va_X b L xs s s.heap) (hbl : b < s.heap.size) (hbA : ¬ GA E b) (hi : i + 5 ≤ L) (hL : L ≤ 2560) (hC : Cpl X (X 22)) (hP : va_P E.1 vwCl (GW E X) H) (hS : va_S (GA E) s.heap H locs) (hl : lv_has ls 4 [(0, .ref b), (1, .ref (E.ad 0 0)), (2, .ref (E.ad 22 0)), (3, .int (nI i))]) (next : ∀ (X2 : Wd) (H : Heap) (locs : List Loc), Cpl X2 (X2 22) → va_P E.1 vwCl (GW E X2) H → va_S (GA E) s.heap H locs → W p l e room_1 s m #[Value.ref b] below meth c H locs 600000 7302250 Q (F0 m 1605 ls [])) : W p l e room_1 s m #[Value.ref b] below meth c H locs 600000 7302250 Q (F0 m 732 ls []) := by
  have hx := S.1
  have hb := S.2.1
  obtain ⟨r, X1, M1, f6, f7, e22, hC1⟩ := T_days hC (xs (nI i + 1).toNatClampNeg)
  rw [← e22] at f7
  have hC2 : Cpl (va_up X1 22 M1) ((va_up X1 22 M1) 22) := by rw [va_up_self]; exact hC1.in22
  refine lv_aload_n hx hb dL_law_732 rfl (lv_at hl 1 rfl) ?_
  refine lv_aload_n hx hb dL_law_733 rfl (lv_at hl 0 rfl) ?_
  refine lv_iload_n hx hb dL_law_734 rfl (lv_at hl 3 rfl) ?_
  refine lv_iconst (v := 1) hx hb dL_law_735 (by decide) ?_
  refine lv_iadd hx hb dL_law_736 ?_
  refine va_sld hx hb hX hbl hbA hS (sc_in (j := 1) hi hL (by omega)) dL_law_737 ?_
  refine callV_i (As := [.int (xs (nI i + 1).toNatClampNeg)]) (rest := []) S hB hP hS (C := RX6) (b := E.ad 0 0) (g_recv (o := 0) (d := 0) hB hP m_0_0 rfl rfl) (K_X6_days l hE X (xs (nI i + 1).toNatClampNeg) f6) (cwV 1 S.2.2.2.2 gL_law_X6_days rfl rfl rfl (by decide +kernel) ⟨Nat.le_of_ble_eq_true rfl, Nat.le_of_ble_eq_true rfl⟩) rfl hl.1 rfl (Nat.le_of_ble_eq_true rfl) dL_law_738 ⟨Nat.le_of_ble_eq_true rfl, Nat.le_of_ble_eq_true rfl⟩ (fun H locs hP hS => ?_)
  refine lv_aload_n hx hb dL_law_741 rfl (lv_at hl 2 rfl) ?_
  refine lv_aload_n hx hb dL_law_742 rfl (lv_at hl 0 rfl) ?_
  refine lv_iload_n hx hb dL_law_743 rfl (lv_at hl 3 rfl) ?_
  refine lv_iconst (v := 1) hx hb dL_law_744 (by decide) ?_
  refine lv_iadd hx hb dL_law_745 ?_
  refine va_sld hx hb hX hbl hbA hS (sc_in (j := 1) hi hL (by omega)) dL_law_746 ?_
  refine callV_i (As := [.int (xs (nI i + 1).toNatClampNeg)]) (rest := [.int r]) S hB hP hS (C := RX7) (b := E.ad 22 0) (g_recv (o := 22) (d := 0) hB hP m_22_0 rfl rfl) (KW_X7_days l hE X1 (xs (nI i + 1).toNatClampNeg) f7) (cwV 1 S.2.2.2.2 gL_law_X7_days rfl rfl rfl (by decide +kernel) ⟨Nat.le_of_ble_eq_true rfl, Nat.le_of_ble_eq_true rfl⟩) rfl hl.1 rfl (Nat.le_of_ble_eq_true rfl) dL_law_747 ⟨Nat.le_of_ble_eq_true rfl, Nat.le_of_ble_eq_true rfl⟩ (fun H locs hP hS => ?_)
  exact lv_icmp_eq (tgt := 1605) hx hb dL_law_750 (by decide) (fun _ => next _ _ _ hC2 hP hS) (fun q => absurd rfl q)
theorem lc_runs (S : CallFix p m c cL_law 4 s #[Value.ref b] wsL_law RL) (hB : BS E s s.heap) (hE : Inj E) (hX : va_X b L xs s s.heap) (hbl : b < s.heap.size) (hbA : ¬ GA E b) (hi : i + 5 ≤ L) (hL : L ≤ 2560) (hC : Cpl X (X 22)) (hP : va_P E.1 vwCl (GW E X) H) (hS : va_S (GA E) s.heap H locs) (hl : lv_has ls 4 [(0, .ref b), (1, .ref (E.ad 0 0)), (2, .ref (E.ad 22 0)), (3, .int (nI i))]) (next : ∀ (X2 : Wd) (H : Heap) (locs : List Loc), Cpl X2 (X2 22) → va_P E.1 vwCl (GW E X2) H → va_S (GA E) s.heap H locs → W p l e room_1 s m #[Value.ref b] below meth c H locs 600000 7302250 Q (F0 m 1605 ls [])) : W p l e room_1 s m #[Value.ref b] below meth c H locs 600000 7302250 Q (F0 m 755 ls []) := by
  have hx := S.1
  have hb := S.2.1
  obtain ⟨r, X1, M1, f6, f7, e22, hC1⟩ := T_runs hC (xs (nI i + 1).toNatClampNeg) (xs (nI i + 2).toNatClampNeg)
  rw [← e22] at f7
  have hC2 : Cpl (va_up X1 22 M1) ((va_up X1 22 M1) 22) := by rw [va_up_self]; exact hC1.in22
  refine lv_aload_n hx hb dL_law_755 rfl (lv_at hl 1 rfl) ?_
  refine lv_aload_n hx hb dL_law_756 rfl (lv_at hl 0 rfl) ?_
  refine lv_iload_n hx hb dL_law_757 rfl (lv_at hl 3 rfl) ?_
  refine lv_iconst (v := 1) hx hb dL_law_758 (by decide) ?_
  refine lv_iadd hx hb dL_law_759 ?_
  refine va_sld hx hb hX hbl hbA hS (sc_in (j := 1) hi hL (by omega)) dL_law_760 ?_
  refine lv_aload_n hx hb dL_law_761 rfl (lv_at hl 0 rfl) ?_
  refine lv_iload_n hx hb dL_law_762 rfl (lv_at hl 3 rfl) ?_
  refine lv_iconst (v := 2) hx hb dL_law_763 (by decide) ?_
  refine lv_iadd hx hb dL_law_764 ?_
  refine va_sld hx hb hX hbl hbA hS (sc_in (j := 2) hi hL (by omega)) dL_law_765 ?_
  refine callV_i (As := [.int (xs (nI i + 1).toNatClampNeg), .int (xs (nI i + 2).toNatClampNeg)]) (rest := []) S hB hP hS (C := RX6) (b := E.ad 0 0) (g_recv (o := 0) (d := 0) hB hP m_0_0 rfl rfl) (K_X6_runs l hE X (xs (nI i + 1).toNatClampNeg) (xs (nI i + 2).toNatClampNeg) f6) (cwV 2 S.2.2.2.2 gL_law_X6_runs rfl rfl rfl (by decide +kernel) ⟨Nat.le_of_ble_eq_true rfl, Nat.le_of_ble_eq_true rfl⟩) rfl hl.1 rfl (Nat.le_of_ble_eq_true rfl) dL_law_766 ⟨Nat.le_of_ble_eq_true rfl, Nat.le_of_ble_eq_true rfl⟩ (fun H locs hP hS => ?_)
  refine lv_aload_n hx hb dL_law_769 rfl (lv_at hl 2 rfl) ?_
  refine lv_aload_n hx hb dL_law_770 rfl (lv_at hl 0 rfl) ?_
  refine lv_iload_n hx hb dL_law_771 rfl (lv_at hl 3 rfl) ?_
  refine lv_iconst (v := 1) hx hb dL_law_772 (by decide) ?_
  refine lv_iadd hx hb dL_law_773 ?_
  refine va_sld hx hb hX hbl hbA hS (sc_in (j := 1) hi hL (by omega)) dL_law_774 ?_
  refine lv_aload_n hx hb dL_law_775 rfl (lv_at hl 0 rfl) ?_
  refine lv_iload_n hx hb dL_law_776 rfl (lv_at hl 3 rfl) ?_
  refine lv_iconst (v := 2) hx hb dL_law_777 (by decide) ?_
  refine lv_iadd hx hb dL_law_778 ?_
  refine va_sld hx hb hX hbl hbA hS (sc_in (j := 2) hi hL (by omega)) dL_law_779 ?_
  refine callV_i (As := [.int (xs (nI i + 1).toNatClampNeg), .int (xs (nI i + 2).toNatClampNeg)]) (rest := [.int r]) S hB hP hS (C := RX7) (b := E.ad 22 0) (g_recv (o := 22) (d := 0) hB hP m_22_0 rfl rfl) (KW_X7_runs l hE X1 (xs (nI i + 1).toNatClampNeg) (xs (nI i + 2).toNatClampNeg) f7) (cwV 2 S.2.2.2.2 gL_law_X7_runs rfl rfl rfl (by decide +kernel) ⟨Nat.le_of_ble_eq_true rfl, Nat.le_of_ble_eq_true rfl⟩) rfl hl.1 rfl (Nat.le_of_ble_eq_true rfl) dL_law_780 ⟨Nat.le_of_ble_eq_true rfl, Nat.le_of_ble_eq_true rfl⟩ (fun H locs hP hS => ?_)
  exact lv_icmp_eq (tgt := 1605) hx hb dL_law_783 (by decide) (fun _ => next _ _ _ hC2 hP hS) (fun q => absurd rfl q)
theorem lc_ahead (S : CallFix p m c cL_law 4 s #[Value.ref b] wsL_law RL) (hB : BS E s s.heap) (hE : Inj E) (hX : va_X b L xs s s.heap) (hbl : b < s.heap.size) (hbA : ¬ GA E b) (hi : i + 5 ≤ L) (hL : L ≤ 2560) (hC : Cpl X (X 22)) (hP : va_P E.1 vwCl (GW E X) H) (hS : va_S (GA E) s.heap H locs) (hl : lv_has ls 4 [(0, .ref b), (1, .ref (E.ad 0 0)), (2, .ref (E.ad 22 0)), (3, .int (nI i))]) (next : ∀ (X2 : Wd) (H : Heap) (locs : List Loc), Cpl X2 (X2 22) → va_P E.1 vwCl (GW E X2) H → va_S (GA E) s.heap H locs → W p l e room_1 s m #[Value.ref b] below meth c H locs 600000 7302250 Q (F0 m 1605 ls [])) : W p l e room_1 s m #[Value.ref b] below meth c H locs 600000 7302250 Q (F0 m 788 ls []) := by
  have hx := S.1
  have hb := S.2.1
  obtain ⟨r, X1, M1, f6, f7, e22, hC1⟩ := T_ahead hC (xs (nI i + 1).toNatClampNeg) (xs (nI i + 2).toNatClampNeg) (xs (nI i + 3).toNatClampNeg)
  rw [← e22] at f7
  have hC2 : Cpl (va_up X1 22 M1) ((va_up X1 22 M1) 22) := by rw [va_up_self]; exact hC1.in22
  refine lv_aload_n hx hb dL_law_788 rfl (lv_at hl 1 rfl) ?_
  refine lv_aload_n hx hb dL_law_789 rfl (lv_at hl 0 rfl) ?_
  refine lv_iload_n hx hb dL_law_790 rfl (lv_at hl 3 rfl) ?_
  refine lv_iconst (v := 1) hx hb dL_law_791 (by decide) ?_
  refine lv_iadd hx hb dL_law_792 ?_
  refine va_sld hx hb hX hbl hbA hS (sc_in (j := 1) hi hL (by omega)) dL_law_793 ?_
  refine lv_aload_n hx hb dL_law_794 rfl (lv_at hl 0 rfl) ?_
  refine lv_iload_n hx hb dL_law_795 rfl (lv_at hl 3 rfl) ?_
  refine lv_iconst (v := 2) hx hb dL_law_796 (by decide) ?_
  refine lv_iadd hx hb dL_law_797 ?_
  refine va_sld hx hb hX hbl hbA hS (sc_in (j := 2) hi hL (by omega)) dL_law_798 ?_
  refine lv_aload_n hx hb dL_law_799 rfl (lv_at hl 0 rfl) ?_
  refine lv_iload_n hx hb dL_law_800 rfl (lv_at hl 3 rfl) ?_
  refine lv_iconst (v := 3) hx hb dL_law_801 (by decide) ?_
  refine lv_iadd hx hb dL_law_802 ?_
  refine va_sld hx hb hX hbl hbA hS (sc_in (j := 3) hi hL (by omega)) dL_law_803 ?_
  refine callV_i (As := [.int (xs (nI i + 1).toNatClampNeg), .int (xs (nI i + 2).toNatClampNeg), .int (xs (nI i + 3).toNatClampNeg)]) (rest := []) S hB hP hS (C := RX6) (b := E.ad 0 0) (g_recv (o := 0) (d := 0) hB hP m_0_0 rfl rfl) (K_X6_ahead l hE X (xs (nI i + 1).toNatClampNeg) (xs (nI i + 2).toNatClampNeg) (xs (nI i + 3).toNatClampNeg) f6) (cwV 3 S.2.2.2.2 gL_law_X6_ahead rfl rfl rfl (by decide +kernel) ⟨Nat.le_of_ble_eq_true rfl, Nat.le_of_ble_eq_true rfl⟩) rfl hl.1 rfl (Nat.le_of_ble_eq_true rfl) dL_law_804 ⟨Nat.le_of_ble_eq_true rfl, Nat.le_of_ble_eq_true rfl⟩ (fun H locs hP hS => ?_)
  refine lv_aload_n hx hb dL_law_807 rfl (lv_at hl 2 rfl) ?_
  refine lv_aload_n hx hb dL_law_808 rfl (lv_at hl 0 rfl) ?_
  refine lv_iload_n hx hb dL_law_809 rfl (lv_at hl 3 rfl) ?_
  refine lv_iconst (v := 1) hx hb dL_law_810 (by decide) ?_
  refine lv_iadd hx hb dL_law_811 ?_
  refine va_sld hx hb hX hbl hbA hS (sc_in (j := 1) hi hL (by omega)) dL_law_812 ?_
  refine lv_aload_n hx hb dL_law_813 rfl (lv_at hl 0 rfl) ?_
  refine lv_iload_n hx hb dL_law_814 rfl (lv_at hl 3 rfl) ?_
  refine lv_iconst (v := 2) hx hb dL_law_815 (by decide) ?_
  refine lv_iadd hx hb dL_law_816 ?_
  refine va_sld hx hb hX hbl hbA hS (sc_in (j := 2) hi hL (by omega)) dL_law_817 ?_
  refine lv_aload_n hx hb dL_law_818 rfl (lv_at hl 0 rfl) ?_
  refine lv_iload_n hx hb dL_law_819 rfl (lv_at hl 3 rfl) ?_
  refine lv_iconst (v := 3) hx hb dL_law_820 (by decide) ?_
  refine lv_iadd hx hb dL_law_821 ?_
  refine va_sld hx hb hX hbl hbA hS (sc_in (j := 3) hi hL (by omega)) dL_law_822 ?_
  refine callV_i (As := [.int (xs (nI i + 1).toNatClampNeg), .int (xs (nI i + 2).toNatClampNeg), .int (xs (nI i + 3).toNatClampNeg)]) (rest := [.int r]) S hB hP hS (C := RX7) (b := E.ad 22 0) (g_recv (o := 22) (d := 0) hB hP m_22_0 rfl rfl) (KW_X7_ahead l hE X1 (xs (nI i + 1).toNatClampNeg) (xs (nI i + 2).toNatClampNeg) (xs (nI i + 3).toNatClampNeg) f7) (cwV 3 S.2.2.2.2 gL_law_X7_ahead rfl rfl rfl (by decide +kernel) ⟨Nat.le_of_ble_eq_true rfl, Nat.le_of_ble_eq_true rfl⟩) rfl hl.1 rfl (Nat.le_of_ble_eq_true rfl) dL_law_823 ⟨Nat.le_of_ble_eq_true rfl, Nat.le_of_ble_eq_true rfl⟩ (fun H locs hP hS => ?_)
  exact lv_icmp_eq (tgt := 1605) hx hb dL_law_826 (by decide) (fun _ => next _ _ _ hC2 hP hS) (fun q => absurd rfl q)
theorem lc_stands (S : CallFix p m c cL_law 4 s #[Value.ref b] wsL_law RL) (hB : BS E s s.heap) (hE : Inj E) (hX : va_X b L xs s s.heap) (hbl : b < s.heap.size) (hbA : ¬ GA E b) (hi : i + 5 ≤ L) (hL : L ≤ 2560) (hC : Cpl X (X 22)) (hP : va_P E.1 vwCl (GW E X) H) (hS : va_S (GA E) s.heap H locs) (hl : lv_has ls 4 [(0, .ref b), (1, .ref (E.ad 0 0)), (2, .ref (E.ad 22 0)), (3, .int (nI i))]) (next : ∀ (X2 : Wd) (H : Heap) (locs : List Loc), Cpl X2 (X2 22) → va_P E.1 vwCl (GW E X2) H → va_S (GA E) s.heap H locs → W p l e room_1 s m #[Value.ref b] below meth c H locs 600000 7302250 Q (F0 m 1605 ls [])) : W p l e room_1 s m #[Value.ref b] below meth c H locs 600000 7302250 Q (F0 m 831 ls []) := by
  have hx := S.1
  have hb := S.2.1
  obtain ⟨r, X1, M1, f6, f7, e22, hC1⟩ := T_stands hC (xs (nI i + 1).toNatClampNeg) (xs (nI i + 2).toNatClampNeg)
  rw [← e22] at f7
  have hC2 : Cpl (va_up X1 22 M1) ((va_up X1 22 M1) 22) := by rw [va_up_self]; exact hC1.in22
  refine lv_aload_n hx hb dL_law_831 rfl (lv_at hl 1 rfl) ?_
  refine lv_aload_n hx hb dL_law_832 rfl (lv_at hl 0 rfl) ?_
  refine lv_iload_n hx hb dL_law_833 rfl (lv_at hl 3 rfl) ?_
  refine lv_iconst (v := 1) hx hb dL_law_834 (by decide) ?_
  refine lv_iadd hx hb dL_law_835 ?_
  refine va_sld hx hb hX hbl hbA hS (sc_in (j := 1) hi hL (by omega)) dL_law_836 ?_
  refine lv_aload_n hx hb dL_law_837 rfl (lv_at hl 0 rfl) ?_
  refine lv_iload_n hx hb dL_law_838 rfl (lv_at hl 3 rfl) ?_
  refine lv_iconst (v := 2) hx hb dL_law_839 (by decide) ?_
  refine lv_iadd hx hb dL_law_840 ?_
  refine va_sld hx hb hX hbl hbA hS (sc_in (j := 2) hi hL (by omega)) dL_law_841 ?_
  refine callV_i (As := [.int (xs (nI i + 1).toNatClampNeg), .int (xs (nI i + 2).toNatClampNeg)]) (rest := []) S hB hP hS (C := RX6) (b := E.ad 0 0) (g_recv (o := 0) (d := 0) hB hP m_0_0 rfl rfl) (K_X6_stands l hE X (xs (nI i + 1).toNatClampNeg) (xs (nI i + 2).toNatClampNeg) f6) (cwV 2 S.2.2.2.2 gL_law_X6_stands rfl rfl rfl (by decide +kernel) ⟨Nat.le_of_ble_eq_true rfl, Nat.le_of_ble_eq_true rfl⟩) rfl hl.1 rfl (Nat.le_of_ble_eq_true rfl) dL_law_842 ⟨Nat.le_of_ble_eq_true rfl, Nat.le_of_ble_eq_true rfl⟩ (fun H locs hP hS => ?_)
  refine lv_aload_n hx hb dL_law_845 rfl (lv_at hl 2 rfl) ?_
  refine lv_aload_n hx hb dL_law_846 rfl (lv_at hl 0 rfl) ?_
  refine lv_iload_n hx hb dL_law_847 rfl (lv_at hl 3 rfl) ?_
  refine lv_iconst (v := 1) hx hb dL_law_848 (by decide) ?_
  refine lv_iadd hx hb dL_law_849 ?_
  refine va_sld hx hb hX hbl hbA hS (sc_in (j := 1) hi hL (by omega)) dL_law_850 ?_
  refine lv_aload_n hx hb dL_law_851 rfl (lv_at hl 0 rfl) ?_
  refine lv_iload_n hx hb dL_law_852 rfl (lv_at hl 3 rfl) ?_
  refine lv_iconst (v := 2) hx hb dL_law_853 (by decide) ?_
  refine lv_iadd hx hb dL_law_854 ?_
  refine va_sld hx hb hX hbl hbA hS (sc_in (j := 2) hi hL (by omega)) dL_law_855 ?_
  refine callV_i (As := [.int (xs (nI i + 1).toNatClampNeg), .int (xs (nI i + 2).toNatClampNeg)]) (rest := [.int r]) S hB hP hS (C := RX7) (b := E.ad 22 0) (g_recv (o := 22) (d := 0) hB hP m_22_0 rfl rfl) (KW_X7_stands l hE X1 (xs (nI i + 1).toNatClampNeg) (xs (nI i + 2).toNatClampNeg) f7) (cwV 2 S.2.2.2.2 gL_law_X7_stands rfl rfl rfl (by decide +kernel) ⟨Nat.le_of_ble_eq_true rfl, Nat.le_of_ble_eq_true rfl⟩) rfl hl.1 rfl (Nat.le_of_ble_eq_true rfl) dL_law_856 ⟨Nat.le_of_ble_eq_true rfl, Nat.le_of_ble_eq_true rfl⟩ (fun H locs hP hS => ?_)
  exact lv_icmp_eq (tgt := 1605) hx hb dL_law_859 (by decide) (fun _ => next _ _ _ hC2 hP hS) (fun q => absurd rfl q)
theorem lc_out (S : CallFix p m c cL_law 4 s #[Value.ref b] wsL_law RL) (hB : BS E s s.heap) (hE : Inj E) (hX : va_X b L xs s s.heap) (hbl : b < s.heap.size) (hbA : ¬ GA E b) (hi : i + 5 ≤ L) (hL : L ≤ 2560) (hC : Cpl X (X 22)) (hP : va_P E.1 vwCl (GW E X) H) (hS : va_S (GA E) s.heap H locs) (hl : lv_has ls 4 [(0, .ref b), (1, .ref (E.ad 0 0)), (2, .ref (E.ad 22 0)), (3, .int (nI i))]) (next : ∀ (X2 : Wd) (H : Heap) (locs : List Loc), Cpl X2 (X2 22) → va_P E.1 vwCl (GW E X2) H → va_S (GA E) s.heap H locs → W p l e room_1 s m #[Value.ref b] below meth c H locs 600000 7302250 Q (F0 m 1605 ls [])) : W p l e room_1 s m #[Value.ref b] below meth c H locs 600000 7302250 Q (F0 m 864 ls []) := by
  have hx := S.1
  have hb := S.2.1
  obtain ⟨r, X1, M1, f6, f7, e22, hC1⟩ := T_out hC (xs (nI i + 1).toNatClampNeg)
  rw [← e22] at f7
  have hC2 : Cpl (va_up X1 22 M1) ((va_up X1 22 M1) 22) := by rw [va_up_self]; exact hC1.in22
  refine lv_aload_n hx hb dL_law_864 rfl (lv_at hl 1 rfl) ?_
  refine lv_aload_n hx hb dL_law_865 rfl (lv_at hl 0 rfl) ?_
  refine lv_iload_n hx hb dL_law_866 rfl (lv_at hl 3 rfl) ?_
  refine lv_iconst (v := 1) hx hb dL_law_867 (by decide) ?_
  refine lv_iadd hx hb dL_law_868 ?_
  refine va_sld hx hb hX hbl hbA hS (sc_in (j := 1) hi hL (by omega)) dL_law_869 ?_
  refine callV_i (As := [.int (xs (nI i + 1).toNatClampNeg)]) (rest := []) S hB hP hS (C := RX6) (b := E.ad 0 0) (g_recv (o := 0) (d := 0) hB hP m_0_0 rfl rfl) (K_X6_out l hE X (xs (nI i + 1).toNatClampNeg) f6) (cwV 1 S.2.2.2.2 gL_law_X6_out rfl rfl rfl (by decide +kernel) ⟨Nat.le_of_ble_eq_true rfl, Nat.le_of_ble_eq_true rfl⟩) rfl hl.1 rfl (Nat.le_of_ble_eq_true rfl) dL_law_870 ⟨Nat.le_of_ble_eq_true rfl, Nat.le_of_ble_eq_true rfl⟩ (fun H locs hP hS => ?_)
  refine lv_aload_n hx hb dL_law_873 rfl (lv_at hl 2 rfl) ?_
  refine lv_aload_n hx hb dL_law_874 rfl (lv_at hl 0 rfl) ?_
  refine lv_iload_n hx hb dL_law_875 rfl (lv_at hl 3 rfl) ?_
  refine lv_iconst (v := 1) hx hb dL_law_876 (by decide) ?_
  refine lv_iadd hx hb dL_law_877 ?_
  refine va_sld hx hb hX hbl hbA hS (sc_in (j := 1) hi hL (by omega)) dL_law_878 ?_
  refine callV_i (As := [.int (xs (nI i + 1).toNatClampNeg)]) (rest := [.int r]) S hB hP hS (C := RX7) (b := E.ad 22 0) (g_recv (o := 22) (d := 0) hB hP m_22_0 rfl rfl) (KW_X7_out l hE X1 (xs (nI i + 1).toNatClampNeg) f7) (cwV 1 S.2.2.2.2 gL_law_X7_out rfl rfl rfl (by decide +kernel) ⟨Nat.le_of_ble_eq_true rfl, Nat.le_of_ble_eq_true rfl⟩) rfl hl.1 rfl (Nat.le_of_ble_eq_true rfl) dL_law_879 ⟨Nat.le_of_ble_eq_true rfl, Nat.le_of_ble_eq_true rfl⟩ (fun H locs hP hS => ?_)
  exact lv_icmp_eq (tgt := 1605) hx hb dL_law_882 (by decide) (fun _ => next _ _ _ hC2 hP hS) (fun q => absurd rfl q)
theorem lc_again (S : CallFix p m c cL_law 4 s #[Value.ref b] wsL_law RL) (hB : BS E s s.heap) (hE : Inj E) (hX : va_X b L xs s s.heap) (hbl : b < s.heap.size) (hbA : ¬ GA E b) (hi : i + 5 ≤ L) (hL : L ≤ 2560) (hC : Cpl X (X 22)) (hP : va_P E.1 vwCl (GW E X) H) (hS : va_S (GA E) s.heap H locs) (hl : lv_has ls 4 [(0, .ref b), (1, .ref (E.ad 0 0)), (2, .ref (E.ad 22 0)), (3, .int (nI i))]) (next : ∀ (X2 : Wd) (H : Heap) (locs : List Loc), Cpl X2 (X2 22) → va_P E.1 vwCl (GW E X2) H → va_S (GA E) s.heap H locs → W p l e room_1 s m #[Value.ref b] below meth c H locs 600000 7302250 Q (F0 m 1605 ls [])) : W p l e room_1 s m #[Value.ref b] below meth c H locs 600000 7302250 Q (F0 m 887 ls []) := by
  have hx := S.1
  have hb := S.2.1
  obtain ⟨r, X1, M1, f6, f7, e22, hC1⟩ := T_again hC 
  rw [← e22] at f7
  have hC2 : Cpl (va_up X1 22 M1) ((va_up X1 22 M1) 22) := by rw [va_up_self]; exact hC1.in22
  refine lv_aload_n hx hb dL_law_887 rfl (lv_at hl 1 rfl) ?_
  refine callV_i (As := []) (rest := []) S hB hP hS (C := RX6) (b := E.ad 0 0) (g_recv (o := 0) (d := 0) hB hP m_0_0 rfl rfl) (K_X6_again l hE X  f6) (cwV 0 S.2.2.2.2 gL_law_X6_again rfl rfl rfl (by decide +kernel) ⟨Nat.le_of_ble_eq_true rfl, Nat.le_of_ble_eq_true rfl⟩) rfl hl.1 rfl (Nat.le_of_ble_eq_true rfl) dL_law_888 ⟨Nat.le_of_ble_eq_true rfl, Nat.le_of_ble_eq_true rfl⟩ (fun H locs hP hS => ?_)
  refine lv_aload_n hx hb dL_law_891 rfl (lv_at hl 2 rfl) ?_
  refine callV_i (As := []) (rest := [.int r]) S hB hP hS (C := RX7) (b := E.ad 22 0) (g_recv (o := 22) (d := 0) hB hP m_22_0 rfl rfl) (KW_X7_again l hE X1  f7) (cwV 0 S.2.2.2.2 gL_law_X7_again rfl rfl rfl (by decide +kernel) ⟨Nat.le_of_ble_eq_true rfl, Nat.le_of_ble_eq_true rfl⟩) rfl hl.1 rfl (Nat.le_of_ble_eq_true rfl) dL_law_892 ⟨Nat.le_of_ble_eq_true rfl, Nat.le_of_ble_eq_true rfl⟩ (fun H locs hP hS => ?_)
  exact lv_icmp_eq (tgt := 1605) hx hb dL_law_895 (by decide) (fun _ => next _ _ _ hC2 hP hS) (fun q => absurd rfl q)
theorem lc_cut (S : CallFix p m c cL_law 4 s #[Value.ref b] wsL_law RL) (hB : BS E s s.heap) (hE : Inj E) (hX : va_X b L xs s s.heap) (hbl : b < s.heap.size) (hbA : ¬ GA E b) (hi : i + 5 ≤ L) (hL : L ≤ 2560) (hC : Cpl X (X 22)) (hP : va_P E.1 vwCl (GW E X) H) (hS : va_S (GA E) s.heap H locs) (hl : lv_has ls 4 [(0, .ref b), (1, .ref (E.ad 0 0)), (2, .ref (E.ad 22 0)), (3, .int (nI i))]) (next : ∀ (X2 : Wd) (H : Heap) (locs : List Loc), Cpl X2 (X2 22) → va_P E.1 vwCl (GW E X2) H → va_S (GA E) s.heap H locs → W p l e room_1 s m #[Value.ref b] below meth c H locs 600000 7302250 Q (F0 m 1605 ls [])) : W p l e room_1 s m #[Value.ref b] below meth c H locs 600000 7302250 Q (F0 m 900 ls []) := by
  have hx := S.1
  have hb := S.2.1
  obtain ⟨r, X1, M1, f6, f7, e22, hC1⟩ := T_cut hC (xs (nI i + 1).toNatClampNeg) (xs (nI i + 2).toNatClampNeg)
  rw [← e22] at f7
  have hC2 : Cpl (va_up X1 22 M1) ((va_up X1 22 M1) 22) := by rw [va_up_self]; exact hC1.in22
  refine lv_aload_n hx hb dL_law_900 rfl (lv_at hl 1 rfl) ?_
  refine lv_aload_n hx hb dL_law_901 rfl (lv_at hl 0 rfl) ?_
  refine lv_iload_n hx hb dL_law_902 rfl (lv_at hl 3 rfl) ?_
  refine lv_iconst (v := 1) hx hb dL_law_903 (by decide) ?_
  refine lv_iadd hx hb dL_law_904 ?_
  refine va_sld hx hb hX hbl hbA hS (sc_in (j := 1) hi hL (by omega)) dL_law_905 ?_
  refine lv_aload_n hx hb dL_law_906 rfl (lv_at hl 0 rfl) ?_
  refine lv_iload_n hx hb dL_law_907 rfl (lv_at hl 3 rfl) ?_
  refine lv_iconst (v := 2) hx hb dL_law_908 (by decide) ?_
  refine lv_iadd hx hb dL_law_909 ?_
  refine va_sld hx hb hX hbl hbA hS (sc_in (j := 2) hi hL (by omega)) dL_law_910 ?_
  refine callV_i (As := [.int (xs (nI i + 1).toNatClampNeg), .int (xs (nI i + 2).toNatClampNeg)]) (rest := []) S hB hP hS (C := RX6) (b := E.ad 0 0) (g_recv (o := 0) (d := 0) hB hP m_0_0 rfl rfl) (K_X6_cut l hE X (xs (nI i + 1).toNatClampNeg) (xs (nI i + 2).toNatClampNeg) f6) (cwV 2 S.2.2.2.2 gL_law_X6_cut rfl rfl rfl (by decide +kernel) ⟨Nat.le_of_ble_eq_true rfl, Nat.le_of_ble_eq_true rfl⟩) rfl hl.1 rfl (Nat.le_of_ble_eq_true rfl) dL_law_911 ⟨Nat.le_of_ble_eq_true rfl, Nat.le_of_ble_eq_true rfl⟩ (fun H locs hP hS => ?_)
  refine lv_aload_n hx hb dL_law_914 rfl (lv_at hl 2 rfl) ?_
  refine lv_aload_n hx hb dL_law_915 rfl (lv_at hl 0 rfl) ?_
  refine lv_iload_n hx hb dL_law_916 rfl (lv_at hl 3 rfl) ?_
  refine lv_iconst (v := 1) hx hb dL_law_917 (by decide) ?_
  refine lv_iadd hx hb dL_law_918 ?_
  refine va_sld hx hb hX hbl hbA hS (sc_in (j := 1) hi hL (by omega)) dL_law_919 ?_
  refine lv_aload_n hx hb dL_law_920 rfl (lv_at hl 0 rfl) ?_
  refine lv_iload_n hx hb dL_law_921 rfl (lv_at hl 3 rfl) ?_
  refine lv_iconst (v := 2) hx hb dL_law_922 (by decide) ?_
  refine lv_iadd hx hb dL_law_923 ?_
  refine va_sld hx hb hX hbl hbA hS (sc_in (j := 2) hi hL (by omega)) dL_law_924 ?_
  refine callV_i (As := [.int (xs (nI i + 1).toNatClampNeg), .int (xs (nI i + 2).toNatClampNeg)]) (rest := [.int r]) S hB hP hS (C := RX7) (b := E.ad 22 0) (g_recv (o := 22) (d := 0) hB hP m_22_0 rfl rfl) (KW_X7_cut l hE X1 (xs (nI i + 1).toNatClampNeg) (xs (nI i + 2).toNatClampNeg) f7) (cwV 2 S.2.2.2.2 gL_law_X7_cut rfl rfl rfl (by decide +kernel) ⟨Nat.le_of_ble_eq_true rfl, Nat.le_of_ble_eq_true rfl⟩) rfl hl.1 rfl (Nat.le_of_ble_eq_true rfl) dL_law_925 ⟨Nat.le_of_ble_eq_true rfl, Nat.le_of_ble_eq_true rfl⟩ (fun H locs hP hS => ?_)
  exact lv_icmp_eq (tgt := 1605) hx hb dL_law_928 (by decide) (fun _ => next _ _ _ hC2 hP hS) (fun q => absurd rfl q)
theorem lc_door (S : CallFix p m c cL_law 4 s #[Value.ref b] wsL_law RL) (hB : BS E s s.heap) (hE : Inj E) (hX : va_X b L xs s s.heap) (hbl : b < s.heap.size) (hbA : ¬ GA E b) (hi : i + 5 ≤ L) (hL : L ≤ 2560) (hC : Cpl X (X 22)) (hP : va_P E.1 vwCl (GW E X) H) (hS : va_S (GA E) s.heap H locs) (hl : lv_has ls 4 [(0, .ref b), (1, .ref (E.ad 0 0)), (2, .ref (E.ad 22 0)), (3, .int (nI i))]) (next : ∀ (X2 : Wd) (H : Heap) (locs : List Loc), Cpl X2 (X2 22) → va_P E.1 vwCl (GW E X2) H → va_S (GA E) s.heap H locs → W p l e room_1 s m #[Value.ref b] below meth c H locs 600000 7302250 Q (F0 m 1605 ls [])) : W p l e room_1 s m #[Value.ref b] below meth c H locs 600000 7302250 Q (F0 m 933 ls []) := by
  have hx := S.1
  have hb := S.2.1
  obtain ⟨r, X1, M1, f6, f7, e22, hC1⟩ := T_door hC (xs (nI i + 1).toNatClampNeg) (xs (nI i + 2).toNatClampNeg)
  rw [← e22] at f7
  have hC2 : Cpl (va_up X1 22 M1) ((va_up X1 22 M1) 22) := by rw [va_up_self]; exact hC1.in22
  refine lv_aload_n hx hb dL_law_933 rfl (lv_at hl 1 rfl) ?_
  refine lv_aload_n hx hb dL_law_934 rfl (lv_at hl 0 rfl) ?_
  refine lv_iload_n hx hb dL_law_935 rfl (lv_at hl 3 rfl) ?_
  refine lv_iconst (v := 1) hx hb dL_law_936 (by decide) ?_
  refine lv_iadd hx hb dL_law_937 ?_
  refine va_sld hx hb hX hbl hbA hS (sc_in (j := 1) hi hL (by omega)) dL_law_938 ?_
  refine lv_aload_n hx hb dL_law_939 rfl (lv_at hl 0 rfl) ?_
  refine lv_iload_n hx hb dL_law_940 rfl (lv_at hl 3 rfl) ?_
  refine lv_iconst (v := 2) hx hb dL_law_941 (by decide) ?_
  refine lv_iadd hx hb dL_law_942 ?_
  refine va_sld hx hb hX hbl hbA hS (sc_in (j := 2) hi hL (by omega)) dL_law_943 ?_
  refine callV_i (As := [.int (xs (nI i + 1).toNatClampNeg), .int (xs (nI i + 2).toNatClampNeg)]) (rest := []) S hB hP hS (C := RX6) (b := E.ad 0 0) (g_recv (o := 0) (d := 0) hB hP m_0_0 rfl rfl) (K_X6_door l hE X (xs (nI i + 1).toNatClampNeg) (xs (nI i + 2).toNatClampNeg) f6) (cwV 2 S.2.2.2.2 gL_law_X6_door rfl rfl rfl (by decide +kernel) ⟨Nat.le_of_ble_eq_true rfl, Nat.le_of_ble_eq_true rfl⟩) rfl hl.1 rfl (Nat.le_of_ble_eq_true rfl) dL_law_944 ⟨Nat.le_of_ble_eq_true rfl, Nat.le_of_ble_eq_true rfl⟩ (fun H locs hP hS => ?_)
  refine lv_aload_n hx hb dL_law_947 rfl (lv_at hl 2 rfl) ?_
  refine lv_aload_n hx hb dL_law_948 rfl (lv_at hl 0 rfl) ?_
  refine lv_iload_n hx hb dL_law_949 rfl (lv_at hl 3 rfl) ?_
  refine lv_iconst (v := 1) hx hb dL_law_950 (by decide) ?_
  refine lv_iadd hx hb dL_law_951 ?_
  refine va_sld hx hb hX hbl hbA hS (sc_in (j := 1) hi hL (by omega)) dL_law_952 ?_
  refine lv_aload_n hx hb dL_law_953 rfl (lv_at hl 0 rfl) ?_
  refine lv_iload_n hx hb dL_law_954 rfl (lv_at hl 3 rfl) ?_
  refine lv_iconst (v := 2) hx hb dL_law_955 (by decide) ?_
  refine lv_iadd hx hb dL_law_956 ?_
  refine va_sld hx hb hX hbl hbA hS (sc_in (j := 2) hi hL (by omega)) dL_law_957 ?_
  refine callV_i (As := [.int (xs (nI i + 1).toNatClampNeg), .int (xs (nI i + 2).toNatClampNeg)]) (rest := [.int r]) S hB hP hS (C := RX7) (b := E.ad 22 0) (g_recv (o := 22) (d := 0) hB hP m_22_0 rfl rfl) (KW_X7_door l hE X1 (xs (nI i + 1).toNatClampNeg) (xs (nI i + 2).toNatClampNeg) f7) (cwV 2 S.2.2.2.2 gL_law_X7_door rfl rfl rfl (by decide +kernel) ⟨Nat.le_of_ble_eq_true rfl, Nat.le_of_ble_eq_true rfl⟩) rfl hl.1 rfl (Nat.le_of_ble_eq_true rfl) dL_law_958 ⟨Nat.le_of_ble_eq_true rfl, Nat.le_of_ble_eq_true rfl⟩ (fun H locs hP hS => ?_)
  exact lv_icmp_eq (tgt := 1605) hx hb dL_law_961 (by decide) (fun _ => next _ _ _ hC2 hP hS) (fun q => absurd rfl q)
theorem lc_food (S : CallFix p m c cL_law 4 s #[Value.ref b] wsL_law RL) (hB : BS E s s.heap) (hE : Inj E) (hX : va_X b L xs s s.heap) (hbl : b < s.heap.size) (hbA : ¬ GA E b) (hi : i + 5 ≤ L) (hL : L ≤ 2560) (hC : Cpl X (X 22)) (hP : va_P E.1 vwCl (GW E X) H) (hS : va_S (GA E) s.heap H locs) (hl : lv_has ls 4 [(0, .ref b), (1, .ref (E.ad 0 0)), (2, .ref (E.ad 22 0)), (3, .int (nI i))]) (next : ∀ (X2 : Wd) (H : Heap) (locs : List Loc), Cpl X2 (X2 22) → va_P E.1 vwCl (GW E X2) H → va_S (GA E) s.heap H locs → W p l e room_1 s m #[Value.ref b] below meth c H locs 600000 7302250 Q (F0 m 1605 ls [])) : W p l e room_1 s m #[Value.ref b] below meth c H locs 600000 7302250 Q (F0 m 966 ls []) := by
  have hx := S.1
  have hb := S.2.1
  obtain ⟨r, X1, M1, f6, f7, e22, hC1⟩ := T_food hC (xs (nI i + 1).toNatClampNeg)
  rw [← e22] at f7
  have hC2 : Cpl (va_up X1 22 M1) ((va_up X1 22 M1) 22) := by rw [va_up_self]; exact hC1.in22
  refine lv_aload_n hx hb dL_law_966 rfl (lv_at hl 1 rfl) ?_
  refine lv_aload_n hx hb dL_law_967 rfl (lv_at hl 0 rfl) ?_
  refine lv_iload_n hx hb dL_law_968 rfl (lv_at hl 3 rfl) ?_
  refine lv_iconst (v := 1) hx hb dL_law_969 (by decide) ?_
  refine lv_iadd hx hb dL_law_970 ?_
  refine va_sld hx hb hX hbl hbA hS (sc_in (j := 1) hi hL (by omega)) dL_law_971 ?_
  refine callV_i (As := [.int (xs (nI i + 1).toNatClampNeg)]) (rest := []) S hB hP hS (C := RX6) (b := E.ad 0 0) (g_recv (o := 0) (d := 0) hB hP m_0_0 rfl rfl) (K_X6_food l hE X (xs (nI i + 1).toNatClampNeg) f6) (cwV 1 S.2.2.2.2 gL_law_X6_food rfl rfl rfl (by decide +kernel) ⟨Nat.le_of_ble_eq_true rfl, Nat.le_of_ble_eq_true rfl⟩) rfl hl.1 rfl (Nat.le_of_ble_eq_true rfl) dL_law_972 ⟨Nat.le_of_ble_eq_true rfl, Nat.le_of_ble_eq_true rfl⟩ (fun H locs hP hS => ?_)
  refine lv_aload_n hx hb dL_law_975 rfl (lv_at hl 2 rfl) ?_
  refine lv_aload_n hx hb dL_law_976 rfl (lv_at hl 0 rfl) ?_
  refine lv_iload_n hx hb dL_law_977 rfl (lv_at hl 3 rfl) ?_
  refine lv_iconst (v := 1) hx hb dL_law_978 (by decide) ?_
  refine lv_iadd hx hb dL_law_979 ?_
  refine va_sld hx hb hX hbl hbA hS (sc_in (j := 1) hi hL (by omega)) dL_law_980 ?_
  refine callV_i (As := [.int (xs (nI i + 1).toNatClampNeg)]) (rest := [.int r]) S hB hP hS (C := RX7) (b := E.ad 22 0) (g_recv (o := 22) (d := 0) hB hP m_22_0 rfl rfl) (KW_X7_food l hE X1 (xs (nI i + 1).toNatClampNeg) f7) (cwV 1 S.2.2.2.2 gL_law_X7_food rfl rfl rfl (by decide +kernel) ⟨Nat.le_of_ble_eq_true rfl, Nat.le_of_ble_eq_true rfl⟩) rfl hl.1 rfl (Nat.le_of_ble_eq_true rfl) dL_law_981 ⟨Nat.le_of_ble_eq_true rfl, Nat.le_of_ble_eq_true rfl⟩ (fun H locs hP hS => ?_)
  exact lv_icmp_eq (tgt := 1605) hx hb dL_law_984 (by decide) (fun _ => next _ _ _ hC2 hP hS) (fun q => absurd rfl q)
theorem lc_sack (S : CallFix p m c cL_law 4 s #[Value.ref b] wsL_law RL) (hB : BS E s s.heap) (hE : Inj E) (hX : va_X b L xs s s.heap) (hbl : b < s.heap.size) (hbA : ¬ GA E b) (hi : i + 5 ≤ L) (hL : L ≤ 2560) (hC : Cpl X (X 22)) (hP : va_P E.1 vwCl (GW E X) H) (hS : va_S (GA E) s.heap H locs) (hl : lv_has ls 4 [(0, .ref b), (1, .ref (E.ad 0 0)), (2, .ref (E.ad 22 0)), (3, .int (nI i))]) (next : ∀ (X2 : Wd) (H : Heap) (locs : List Loc), Cpl X2 (X2 22) → va_P E.1 vwCl (GW E X2) H → va_S (GA E) s.heap H locs → W p l e room_1 s m #[Value.ref b] below meth c H locs 600000 7302250 Q (F0 m 1605 ls [])) : W p l e room_1 s m #[Value.ref b] below meth c H locs 600000 7302250 Q (F0 m 989 ls []) := by
  have hx := S.1
  have hb := S.2.1
  obtain ⟨r, X1, M1, f6, f7, e22, hC1⟩ := T_sack hC (xs (nI i + 1).toNatClampNeg) (xs (nI i + 2).toNatClampNeg)
  rw [← e22] at f7
  have hC2 : Cpl (va_up X1 22 M1) ((va_up X1 22 M1) 22) := by rw [va_up_self]; exact hC1.in22
  refine lv_aload_n hx hb dL_law_989 rfl (lv_at hl 1 rfl) ?_
  refine lv_aload_n hx hb dL_law_990 rfl (lv_at hl 0 rfl) ?_
  refine lv_iload_n hx hb dL_law_991 rfl (lv_at hl 3 rfl) ?_
  refine lv_iconst (v := 1) hx hb dL_law_992 (by decide) ?_
  refine lv_iadd hx hb dL_law_993 ?_
  refine va_sld hx hb hX hbl hbA hS (sc_in (j := 1) hi hL (by omega)) dL_law_994 ?_
  refine lv_aload_n hx hb dL_law_995 rfl (lv_at hl 0 rfl) ?_
  refine lv_iload_n hx hb dL_law_996 rfl (lv_at hl 3 rfl) ?_
  refine lv_iconst (v := 2) hx hb dL_law_997 (by decide) ?_
  refine lv_iadd hx hb dL_law_998 ?_
  refine va_sld hx hb hX hbl hbA hS (sc_in (j := 2) hi hL (by omega)) dL_law_999 ?_
  refine callV_i (As := [.int (xs (nI i + 1).toNatClampNeg), .int (xs (nI i + 2).toNatClampNeg)]) (rest := []) S hB hP hS (C := RX6) (b := E.ad 0 0) (g_recv (o := 0) (d := 0) hB hP m_0_0 rfl rfl) (K_X6_sack l hE X (xs (nI i + 1).toNatClampNeg) (xs (nI i + 2).toNatClampNeg) f6) (cwV 2 S.2.2.2.2 gL_law_X6_sack rfl rfl rfl (by decide +kernel) ⟨Nat.le_of_ble_eq_true rfl, Nat.le_of_ble_eq_true rfl⟩) rfl hl.1 rfl (Nat.le_of_ble_eq_true rfl) dL_law_1000 ⟨Nat.le_of_ble_eq_true rfl, Nat.le_of_ble_eq_true rfl⟩ (fun H locs hP hS => ?_)
  refine lv_aload_n hx hb dL_law_1003 rfl (lv_at hl 2 rfl) ?_
  refine lv_aload_n hx hb dL_law_1004 rfl (lv_at hl 0 rfl) ?_
  refine lv_iload_n hx hb dL_law_1005 rfl (lv_at hl 3 rfl) ?_
  refine lv_iconst (v := 1) hx hb dL_law_1006 (by decide) ?_
  refine lv_iadd hx hb dL_law_1007 ?_
  refine va_sld hx hb hX hbl hbA hS (sc_in (j := 1) hi hL (by omega)) dL_law_1008 ?_
  refine lv_aload_n hx hb dL_law_1009 rfl (lv_at hl 0 rfl) ?_
  refine lv_iload_n hx hb dL_law_1010 rfl (lv_at hl 3 rfl) ?_
  refine lv_iconst (v := 2) hx hb dL_law_1011 (by decide) ?_
  refine lv_iadd hx hb dL_law_1012 ?_
  refine va_sld hx hb hX hbl hbA hS (sc_in (j := 2) hi hL (by omega)) dL_law_1013 ?_
  refine callV_i (As := [.int (xs (nI i + 1).toNatClampNeg), .int (xs (nI i + 2).toNatClampNeg)]) (rest := [.int r]) S hB hP hS (C := RX7) (b := E.ad 22 0) (g_recv (o := 22) (d := 0) hB hP m_22_0 rfl rfl) (KW_X7_sack l hE X1 (xs (nI i + 1).toNatClampNeg) (xs (nI i + 2).toNatClampNeg) f7) (cwV 2 S.2.2.2.2 gL_law_X7_sack rfl rfl rfl (by decide +kernel) ⟨Nat.le_of_ble_eq_true rfl, Nat.le_of_ble_eq_true rfl⟩) rfl hl.1 rfl (Nat.le_of_ble_eq_true rfl) dL_law_1014 ⟨Nat.le_of_ble_eq_true rfl, Nat.le_of_ble_eq_true rfl⟩ (fun H locs hP hS => ?_)
  exact lv_icmp_eq (tgt := 1605) hx hb dL_law_1017 (by decide) (fun _ => next _ _ _ hC2 hP hS) (fun q => absurd rfl q)
theorem lc_swap (S : CallFix p m c cL_law 4 s #[Value.ref b] wsL_law RL) (hB : BS E s s.heap) (hE : Inj E) (hX : va_X b L xs s s.heap) (hbl : b < s.heap.size) (hbA : ¬ GA E b) (hi : i + 5 ≤ L) (hL : L ≤ 2560) (hC : Cpl X (X 22)) (hP : va_P E.1 vwCl (GW E X) H) (hS : va_S (GA E) s.heap H locs) (hl : lv_has ls 4 [(0, .ref b), (1, .ref (E.ad 0 0)), (2, .ref (E.ad 22 0)), (3, .int (nI i))]) (next : ∀ (X2 : Wd) (H : Heap) (locs : List Loc), Cpl X2 (X2 22) → va_P E.1 vwCl (GW E X2) H → va_S (GA E) s.heap H locs → W p l e room_1 s m #[Value.ref b] below meth c H locs 600000 7302250 Q (F0 m 1605 ls [])) : W p l e room_1 s m #[Value.ref b] below meth c H locs 600000 7302250 Q (F0 m 1022 ls []) := by
  have hx := S.1
  have hb := S.2.1
  obtain ⟨r, X1, M1, f6, f7, e22, hC1⟩ := T_swap hC (xs (nI i + 1).toNatClampNeg) (xs (nI i + 2).toNatClampNeg)
  rw [← e22] at f7
  have hC2 : Cpl (va_up X1 22 M1) ((va_up X1 22 M1) 22) := by rw [va_up_self]; exact hC1.in22
  refine lv_aload_n hx hb dL_law_1022 rfl (lv_at hl 1 rfl) ?_
  refine lv_aload_n hx hb dL_law_1023 rfl (lv_at hl 0 rfl) ?_
  refine lv_iload_n hx hb dL_law_1024 rfl (lv_at hl 3 rfl) ?_
  refine lv_iconst (v := 1) hx hb dL_law_1025 (by decide) ?_
  refine lv_iadd hx hb dL_law_1026 ?_
  refine va_sld hx hb hX hbl hbA hS (sc_in (j := 1) hi hL (by omega)) dL_law_1027 ?_
  refine lv_aload_n hx hb dL_law_1028 rfl (lv_at hl 0 rfl) ?_
  refine lv_iload_n hx hb dL_law_1029 rfl (lv_at hl 3 rfl) ?_
  refine lv_iconst (v := 2) hx hb dL_law_1030 (by decide) ?_
  refine lv_iadd hx hb dL_law_1031 ?_
  refine va_sld hx hb hX hbl hbA hS (sc_in (j := 2) hi hL (by omega)) dL_law_1032 ?_
  refine callV_i (As := [.int (xs (nI i + 1).toNatClampNeg), .int (xs (nI i + 2).toNatClampNeg)]) (rest := []) S hB hP hS (C := RX6) (b := E.ad 0 0) (g_recv (o := 0) (d := 0) hB hP m_0_0 rfl rfl) (K_X6_swap l hE X (xs (nI i + 1).toNatClampNeg) (xs (nI i + 2).toNatClampNeg) f6) (cwV 2 S.2.2.2.2 gL_law_X6_swap rfl rfl rfl (by decide +kernel) ⟨Nat.le_of_ble_eq_true rfl, Nat.le_of_ble_eq_true rfl⟩) rfl hl.1 rfl (Nat.le_of_ble_eq_true rfl) dL_law_1033 ⟨Nat.le_of_ble_eq_true rfl, Nat.le_of_ble_eq_true rfl⟩ (fun H locs hP hS => ?_)
  refine lv_aload_n hx hb dL_law_1036 rfl (lv_at hl 2 rfl) ?_
  refine lv_aload_n hx hb dL_law_1037 rfl (lv_at hl 0 rfl) ?_
  refine lv_iload_n hx hb dL_law_1038 rfl (lv_at hl 3 rfl) ?_
  refine lv_iconst (v := 1) hx hb dL_law_1039 (by decide) ?_
  refine lv_iadd hx hb dL_law_1040 ?_
  refine va_sld hx hb hX hbl hbA hS (sc_in (j := 1) hi hL (by omega)) dL_law_1041 ?_
  refine lv_aload_n hx hb dL_law_1042 rfl (lv_at hl 0 rfl) ?_
  refine lv_iload_n hx hb dL_law_1043 rfl (lv_at hl 3 rfl) ?_
  refine lv_iconst (v := 2) hx hb dL_law_1044 (by decide) ?_
  refine lv_iadd hx hb dL_law_1045 ?_
  refine va_sld hx hb hX hbl hbA hS (sc_in (j := 2) hi hL (by omega)) dL_law_1046 ?_
  refine callV_i (As := [.int (xs (nI i + 1).toNatClampNeg), .int (xs (nI i + 2).toNatClampNeg)]) (rest := [.int r]) S hB hP hS (C := RX7) (b := E.ad 22 0) (g_recv (o := 22) (d := 0) hB hP m_22_0 rfl rfl) (KW_X7_swap l hE X1 (xs (nI i + 1).toNatClampNeg) (xs (nI i + 2).toNatClampNeg) f7) (cwV 2 S.2.2.2.2 gL_law_X7_swap rfl rfl rfl (by decide +kernel) ⟨Nat.le_of_ble_eq_true rfl, Nat.le_of_ble_eq_true rfl⟩) rfl hl.1 rfl (Nat.le_of_ble_eq_true rfl) dL_law_1047 ⟨Nat.le_of_ble_eq_true rfl, Nat.le_of_ble_eq_true rfl⟩ (fun H locs hP hS => ?_)
  exact lv_icmp_eq (tgt := 1605) hx hb dL_law_1050 (by decide) (fun _ => next _ _ _ hC2 hP hS) (fun q => absurd rfl q)
theorem lc_kind (S : CallFix p m c cL_law 4 s #[Value.ref b] wsL_law RL) (hB : BS E s s.heap) (hE : Inj E) (hX : va_X b L xs s s.heap) (hbl : b < s.heap.size) (hbA : ¬ GA E b) (hi : i + 5 ≤ L) (hL : L ≤ 2560) (hC : Cpl X (X 22)) (hP : va_P E.1 vwCl (GW E X) H) (hS : va_S (GA E) s.heap H locs) (hl : lv_has ls 4 [(0, .ref b), (1, .ref (E.ad 0 0)), (2, .ref (E.ad 22 0)), (3, .int (nI i))]) (next : ∀ (X2 : Wd) (H : Heap) (locs : List Loc), Cpl X2 (X2 22) → va_P E.1 vwCl (GW E X2) H → va_S (GA E) s.heap H locs → W p l e room_1 s m #[Value.ref b] below meth c H locs 600000 7302250 Q (F0 m 1605 ls [])) : W p l e room_1 s m #[Value.ref b] below meth c H locs 600000 7302250 Q (F0 m 1055 ls []) := by
  have hx := S.1
  have hb := S.2.1
  obtain ⟨r, X1, M1, f6, f7, e22, hC1⟩ := T_kind hC (xs (nI i + 1).toNatClampNeg) (xs (nI i + 2).toNatClampNeg) (xs (nI i + 3).toNatClampNeg)
  rw [← e22] at f7
  have hC2 : Cpl (va_up X1 22 M1) ((va_up X1 22 M1) 22) := by rw [va_up_self]; exact hC1.in22
  refine lv_aload_n hx hb dL_law_1055 rfl (lv_at hl 1 rfl) ?_
  refine lv_aload_n hx hb dL_law_1056 rfl (lv_at hl 0 rfl) ?_
  refine lv_iload_n hx hb dL_law_1057 rfl (lv_at hl 3 rfl) ?_
  refine lv_iconst (v := 1) hx hb dL_law_1058 (by decide) ?_
  refine lv_iadd hx hb dL_law_1059 ?_
  refine va_sld hx hb hX hbl hbA hS (sc_in (j := 1) hi hL (by omega)) dL_law_1060 ?_
  refine lv_aload_n hx hb dL_law_1061 rfl (lv_at hl 0 rfl) ?_
  refine lv_iload_n hx hb dL_law_1062 rfl (lv_at hl 3 rfl) ?_
  refine lv_iconst (v := 2) hx hb dL_law_1063 (by decide) ?_
  refine lv_iadd hx hb dL_law_1064 ?_
  refine va_sld hx hb hX hbl hbA hS (sc_in (j := 2) hi hL (by omega)) dL_law_1065 ?_
  refine lv_aload_n hx hb dL_law_1066 rfl (lv_at hl 0 rfl) ?_
  refine lv_iload_n hx hb dL_law_1067 rfl (lv_at hl 3 rfl) ?_
  refine lv_iconst (v := 3) hx hb dL_law_1068 (by decide) ?_
  refine lv_iadd hx hb dL_law_1069 ?_
  refine va_sld hx hb hX hbl hbA hS (sc_in (j := 3) hi hL (by omega)) dL_law_1070 ?_
  refine callV_i (As := [.int (xs (nI i + 1).toNatClampNeg), .int (xs (nI i + 2).toNatClampNeg), .int (xs (nI i + 3).toNatClampNeg)]) (rest := []) S hB hP hS (C := RX6) (b := E.ad 0 0) (g_recv (o := 0) (d := 0) hB hP m_0_0 rfl rfl) (K_X6_kind l hE X (xs (nI i + 1).toNatClampNeg) (xs (nI i + 2).toNatClampNeg) (xs (nI i + 3).toNatClampNeg) f6) (cwV 3 S.2.2.2.2 gL_law_X6_kind rfl rfl rfl (by decide +kernel) ⟨Nat.le_of_ble_eq_true rfl, Nat.le_of_ble_eq_true rfl⟩) rfl hl.1 rfl (Nat.le_of_ble_eq_true rfl) dL_law_1071 ⟨Nat.le_of_ble_eq_true rfl, Nat.le_of_ble_eq_true rfl⟩ (fun H locs hP hS => ?_)
  refine lv_aload_n hx hb dL_law_1074 rfl (lv_at hl 2 rfl) ?_
  refine lv_aload_n hx hb dL_law_1075 rfl (lv_at hl 0 rfl) ?_
  refine lv_iload_n hx hb dL_law_1076 rfl (lv_at hl 3 rfl) ?_
  refine lv_iconst (v := 1) hx hb dL_law_1077 (by decide) ?_
  refine lv_iadd hx hb dL_law_1078 ?_
  refine va_sld hx hb hX hbl hbA hS (sc_in (j := 1) hi hL (by omega)) dL_law_1079 ?_
  refine lv_aload_n hx hb dL_law_1080 rfl (lv_at hl 0 rfl) ?_
  refine lv_iload_n hx hb dL_law_1081 rfl (lv_at hl 3 rfl) ?_
  refine lv_iconst (v := 2) hx hb dL_law_1082 (by decide) ?_
  refine lv_iadd hx hb dL_law_1083 ?_
  refine va_sld hx hb hX hbl hbA hS (sc_in (j := 2) hi hL (by omega)) dL_law_1084 ?_
  refine lv_aload_n hx hb dL_law_1085 rfl (lv_at hl 0 rfl) ?_
  refine lv_iload_n hx hb dL_law_1086 rfl (lv_at hl 3 rfl) ?_
  refine lv_iconst (v := 3) hx hb dL_law_1087 (by decide) ?_
  refine lv_iadd hx hb dL_law_1088 ?_
  refine va_sld hx hb hX hbl hbA hS (sc_in (j := 3) hi hL (by omega)) dL_law_1089 ?_
  refine callV_i (As := [.int (xs (nI i + 1).toNatClampNeg), .int (xs (nI i + 2).toNatClampNeg), .int (xs (nI i + 3).toNatClampNeg)]) (rest := [.int r]) S hB hP hS (C := RX7) (b := E.ad 22 0) (g_recv (o := 22) (d := 0) hB hP m_22_0 rfl rfl) (KW_X7_kind l hE X1 (xs (nI i + 1).toNatClampNeg) (xs (nI i + 2).toNatClampNeg) (xs (nI i + 3).toNatClampNeg) f7) (cwV 3 S.2.2.2.2 gL_law_X7_kind rfl rfl rfl (by decide +kernel) ⟨Nat.le_of_ble_eq_true rfl, Nat.le_of_ble_eq_true rfl⟩) rfl hl.1 rfl (Nat.le_of_ble_eq_true rfl) dL_law_1090 ⟨Nat.le_of_ble_eq_true rfl, Nat.le_of_ble_eq_true rfl⟩ (fun H locs hP hS => ?_)
  exact lv_icmp_eq (tgt := 1605) hx hb dL_law_1093 (by decide) (fun _ => next _ _ _ hC2 hP hS) (fun q => absurd rfl q)
end LC
