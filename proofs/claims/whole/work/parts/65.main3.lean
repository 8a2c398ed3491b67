/-! X6_weightOfOuts -/
abbrev rm_X6_weightOfOuts (k : Nat) : Room := { frames := 4 + k, cells := 0, slots := 0, locals := 93 + k * 27 }
set_option maxHeartbeats 4000000 in
set_option maxRecDepth 100000 in
theorem K_X6_weightOfOuts (l : Launch) {E : En} (hE : Inj E) : ∀ (k0 : Nat) (X : Wd) (a1 : Int32) (a2 : Int32) (a3 : Int32) (a4 : Int32) {r : Int64} {X' : Wd} (hf : f_X6_weightOfOuts k0 X a1 a2 a3 a4 = some (r, X')), Ctl l E yX6_weightOfOuts wsX6_weightOfOuts (rm_X6_weightOfOuts k0) [.ref (E.ad 0 2), .int a1, .int a2, .int a3, .int a4] X r X' := by
  intro k0
  induction k0 with
  | zero =>
    intro X a1 a2 a3 a4 _ _ hf
    cases (show (none : Option _) = some _ from hf)
  | succ k0 ihd =>
  intro X a1 a2 a3 a4 r X' hf
  refine meet_l (cc := cX6_weightOfOuts) (maxL := 8) (own := RX6) (by decide) rfl rfl (Nat.le_of_ble_eq_true rfl) ?_
  intro p e s m below meth c Z S hB fin hP hS ls hl
  have hx := S.1
  have hb := S.2.1
  have hl : lv_has ls 8 [(0, .ref (E.ad 0 2)), (1, .int a1), (2, .int a2), (3, .int a3), (4, .int a4)] := hl
  have hB74 : ∀ (X : Wd) (x1 : Int32) (x2 : Int32) (x3 : Int32) (x4 : Int32) (x6 : Int64) (g5lo : 4 ≤ (7 + (a1 + (1 : Int32)).toNatClampNeg)) (g5hi : (7 + (a1 + (1 : Int32)).toNatClampNeg) < 18) (H : Heap) (locs : List Loc) (ls : Array Slot), f_X6_weightOfOuts_b74 (f_X6_weightOfOuts k0) X x1 x2 x3 x4 x6 a1 = some (r, X') → va_P E.1 vwCl (GW E X) H → va_S (GA E) s.heap H locs → lv_has ls 8 [(0, .ref (E.ad 0 2)), (1, .int x1), (2, .int x2), (3, .int x3), (4, .int x4), (5, .ref (E.ad (7 + (a1 + (1 : Int32)).toNatClampNeg) 0)), (6, .long x6)] → W p l e (rm_X6_weightOfOuts (k0 + 1)) s m ([.ref (E.ad 0 2), .int a1, .int a2, .int a3, .int a4] : List Value).toArray below meth c H locs 0 0 Z (F0 m 74 ls []) := by
    intro X x1 x2 x3 x4 x6 g5lo g5hi H locs ls hf hP hS hl
    unfold f_X6_weightOfOuts_b74 at hf
    refine lv_iload_n hx hb dX6_weightOfOuts_74 rfl (lv_at hl 3 rfl) ?_
    refine lv_bipush (v := 10) hx hb dX6_weightOfOuts_75 (by decide) ?_
    refine lv_icmp_ge (tgt := 116) hx hb dX6_weightOfOuts_77 (by decide) (fun c10 => ?_) (fun c10 => ?_)
    · have hf := if_t c10 hf
      refine lv_lload hx hb dX6_weightOfOuts_116 (lv_at hl 6 rfl) ?_
      exact fin dX6_weightOfOuts_118 (s1 hf) (s2 hf) hP hS
    · have hf := if_f c10 hf
      refine lv_aload hx hb dX6_weightOfOuts_80 (lv_at hl 5 rfl) ?_
      refine lv_aload_n hx hb dX6_weightOfOuts_82 rfl (lv_at hl 0 rfl) ?_
      refine lv_iload_n hx hb dX6_weightOfOuts_83 rfl (lv_at hl 1 rfl) ?_
      obtain ⟨hv11, hf⟩ := ck_some hf
      refine g_aald (f := fun j => E.ad (7 + j) 0) S hB hP m_0_2 3 rfl rfl hv11 dX6_weightOfOuts_84 ?_
      refine W.eq (g2 := F0 m 85 ls [.ref (E.ad (7 + x1.toNatClampNeg) 0), .ref (E.ad (7 + (a1 + (1 : Int32)).toNatClampNeg) 0)]) rfl ?_
      obtain ⟨hv13, hf⟩ := ckq_some hf
      obtain ⟨q12, hq12, hf⟩ := bind_some hf
      refine callV_v (As := [.ref (E.ad (7 + x1.toNatClampNeg) 0)]) (rest := []) S hB hP hS (C := RX1) (b := E.ad (7 + (a1 + (1 : Int32)).toNatClampNeg) 0) (g_recv (o := (7 + (a1 + (1 : Int32)).toNatClampNeg)) (d := 0) hB hP (mem_mz g5lo g5hi (by decide)) ((cell_mz E g5lo g5hi) _) rfl) (KW_X1_become l hE X g5lo g5hi (Nat.le_trans (by decide : 4 ≤ 7) (Nat.le_add_right _ _)) (Nat.lt_of_lt_of_le (Nat.add_lt_add_left (vp_lt hv11) 7) (by decide)) hv13 hq12) (cwV 1 S.2.2.2.2 gX6_weightOfOuts_X1_become rfl rfl rfl (by decide +kernel) ⟨Nat.le_trans (Nat.le_of_ble_eq_true rfl : _ ≤ 4) (Nat.le_add_right _ _), Nat.le_trans (Nat.le_of_ble_eq_true rfl : _ ≤ 93) (Nat.le_add_right _ _)⟩) rfl hl.1 rfl (Nat.le_of_ble_eq_true rfl) dX6_weightOfOuts_85 ⟨Nat.zero_le _, Nat.zero_le _⟩ (fun H locs hP hS => ?_)
      refine lv_aload hx hb dX6_weightOfOuts_88 (lv_at hl 5 rfl) ?_
      refine lv_iconst (v := 1) hx hb dX6_weightOfOuts_90 (by decide) ?_
      obtain ⟨q14, hq14, hf⟩ := bind_some hf
      refine callV_v (As := [.int (1 : Int32)]) (rest := []) S hB hP hS (C := RX1) (b := E.ad (7 + (a1 + (1 : Int32)).toNatClampNeg) 0) (g_recv (o := (7 + (a1 + (1 : Int32)).toNatClampNeg)) (d := 0) hB hP (mem_mz g5lo g5hi (by decide)) ((cell_mz E g5lo g5hi) _) rfl) (KW_X1_passDays l hE (va_up X (7 + (a1 + (1 : Int32)).toNatClampNeg) q12) g5lo g5hi (1 : Int32) (by rw [va_up_self]; exact hq14)) (cwV 1 S.2.2.2.2 gX6_weightOfOuts_X1_passDays rfl rfl rfl (by decide +kernel) ⟨Nat.le_trans (Nat.le_of_ble_eq_true rfl : _ ≤ 4) (Nat.le_add_right _ _), Nat.le_trans (Nat.le_of_ble_eq_true rfl : _ ≤ 93) (Nat.le_add_right _ _)⟩) rfl hl.1 rfl (Nat.le_of_ble_eq_true rfl) dX6_weightOfOuts_91 ⟨Nat.zero_le _, Nat.zero_le _⟩ (fun H locs hP hS => ?_)
      refine lv_lload hx hb dX6_weightOfOuts_94 (lv_at hl 6 rfl) ?_
      refine lv_bipush (v := 10) hx hb dX6_weightOfOuts_96 (by decide) ?_
      refine lv_iload_n hx hb dX6_weightOfOuts_98 rfl (lv_at hl 3 rfl) ?_
      refine lv_isub hx hb dX6_weightOfOuts_99 ?_
      refine lv_i2l hx hb dX6_weightOfOuts_100 (v := ((10 : Int32) - x3).toInt64) rfl ?_
      refine lv_aload_n hx hb dX6_weightOfOuts_101 rfl (lv_at hl 0 rfl) ?_
      refine lv_iload_n hx hb dX6_weightOfOuts_102 rfl (lv_at hl 1 rfl) ?_
      refine lv_iconst (v := 1) hx hb dX6_weightOfOuts_103 (by decide) ?_
      refine lv_iadd hx hb dX6_weightOfOuts_104 ?_
      refine lv_iload_n hx hb dX6_weightOfOuts_105 rfl (lv_at hl 2 rfl) ?_
      refine lv_iload_n hx hb dX6_weightOfOuts_106 rfl (lv_at hl 3 rfl) ?_
      refine lv_iload hx hb dX6_weightOfOuts_107 (lv_at hl 4 rfl) ?_
      obtain ⟨q15, hq15, hf⟩ := bind_some hf
      refine callS_l (As := [.ref (E.ad 0 2), .int (x1 + (1 : Int32)), .int x2, .int x3, .int x4]) (rest := [.long (((10 : Int32) - x3).toInt64), .long x6]) S hB hP hS (ihd (va_up (va_up X (7 + (a1 + (1 : Int32)).toNatClampNeg) q12) (7 + (a1 + (1 : Int32)).toNatClampNeg) q14) (x1 + (1 : Int32)) x2 x3 x4 hq15) (va_cwS 5 S.2.2.2.2 gX6_weightOfOuts_X6_weightOfOuts rfl rfl rfl (by decide +kernel) ⟨Nat.le_refl _, rec_room 27 93 8 k0⟩) rfl hl.1 rfl (Nat.le_of_ble_eq_true rfl) dX6_weightOfOuts_109 ⟨Nat.zero_le _, Nat.zero_le _⟩ (fun H locs hP hS => ?_)
      refine lv_lmul hx hb dX6_weightOfOuts_112 ?_
      refine lv_ladd hx hb dX6_weightOfOuts_113 ?_
      refine lv_lstore (lv' := [(6, .long (x6 + ((((10 : Int32) - x3).toInt64) * q15.1))), (0, .ref (E.ad 0 2)), (1, .int x1), (2, .int x2), (3, .int x3), (4, .int x4), (5, .ref (E.ad (7 + (a1 + (1 : Int32)).toNatClampNeg) 0))]) hx hb dX6_weightOfOuts_114 hl (by decide) rfl (fun ls hl => ?_)
      refine lv_lload hx hb dX6_weightOfOuts_116 (lv_at hl 0 rfl) ?_
      exact fin dX6_weightOfOuts_118 (s1 hf) (s2 hf) hP hS
  have hB13 : ∀ (X : Wd) (x1 : Int32) (x4 : Int32) (H : Heap) (locs : List Loc) (ls : Array Slot), f_X6_weightOfOuts_b13 (f_X6_weightOfOuts k0) X x1 x4 = some (r, X') → va_P E.1 vwCl (GW E X) H → va_S (GA E) s.heap H locs → lv_has ls 8 [(0, .ref (E.ad 0 2)), (1, .int x1), (4, .int x4)] → W p l e (rm_X6_weightOfOuts (k0 + 1)) s m ([.ref (E.ad 0 2), .int a1, .int a2, .int a3, .int a4] : List Value).toArray below meth c H locs 0 0 Z (F0 m 13 ls []) := by
    intro X x1 x4 H locs ls hf hP hS hl
    unfold f_X6_weightOfOuts_b13 at hf
    refine lv_aload_n hx hb dX6_weightOfOuts_13 rfl (lv_at hl 0 rfl) ?_
    refine lv_iload_n hx hb dX6_weightOfOuts_14 rfl (lv_at hl 1 rfl) ?_
    obtain ⟨hv16, hf⟩ := ck_some hf
    refine g_aald (f := fun j => E.ad (7 + j) 0) S hB hP m_0_2 3 rfl rfl hv16 dX6_weightOfOuts_15 ?_
    refine W.eq (g2 := F0 m 16 ls [.ref (E.ad (7 + x1.toNatClampNeg) 0)]) rfl ?_
    refine lv_iconst (v := 1) hx hb dX6_weightOfOuts_16 (by decide) ?_
    obtain ⟨q17, hq17, hf⟩ := bind_some hf
    refine callV_i (As := [.int (1 : Int32)]) (rest := []) S hB hP hS (C := RX1) (b := E.ad (7 + x1.toNatClampNeg) 0) (g_recv (o := (7 + x1.toNatClampNeg)) (d := 0) hB hP (mem_mz (Nat.le_trans (by decide : 4 ≤ 7) (Nat.le_add_right _ _)) (Nat.lt_of_lt_of_le (Nat.add_lt_add_left (vp_lt hv16) 7) (by decide)) (by decide)) ((cell_mz E (Nat.le_trans (by decide : 4 ≤ 7) (Nat.le_add_right _ _)) (Nat.lt_of_lt_of_le (Nat.add_lt_add_left (vp_lt hv16) 7) (by decide))) _) rfl) (KW_X1_whoIs l hE X (Nat.le_trans (by decide : 4 ≤ 7) (Nat.le_add_right _ _)) (Nat.lt_of_lt_of_le (Nat.add_lt_add_left (vp_lt hv16) 7) (by decide)) (1 : Int32) hq17) (cwV 1 S.2.2.2.2 gX6_weightOfOuts_X1_whoIs rfl rfl rfl (by decide +kernel) ⟨Nat.le_trans (Nat.le_of_ble_eq_true rfl : _ ≤ 4) (Nat.le_add_right _ _), Nat.le_trans (Nat.le_of_ble_eq_true rfl : _ ≤ 93) (Nat.le_add_right _ _)⟩) rfl hl.1 rfl (Nat.le_of_ble_eq_true rfl) dX6_weightOfOuts_17 ⟨Nat.zero_le _, Nat.zero_le _⟩ (fun H locs hP hS => ?_)
    refine lv_iload hx hb dX6_weightOfOuts_20 (lv_at hl 2 rfl) ?_
    refine lv_iand hx hb dX6_weightOfOuts_22 ?_
    obtain ⟨q18, hq18, hf⟩ := bind_some hf
    refine callS_i (As := [.int (q17 &&& x4)]) (rest := []) S hB hP hS (K_J6_bitCount_0f7a4 l hE X (q17 &&& x4) hq18) (va_cwS 1 S.2.2.2.2 gX6_weightOfOuts_J6_bitCount_0f7a4 rfl rfl rfl (by decide +kernel) ⟨Nat.le_trans (Nat.le_of_ble_eq_true rfl : _ ≤ 4) (Nat.le_add_right _ _), Nat.le_trans (Nat.le_of_ble_eq_true rfl : _ ≤ 93) (Nat.le_add_right _ _)⟩) rfl hl.1 rfl (Nat.le_of_ble_eq_true rfl) dX6_weightOfOuts_23 ⟨Nat.zero_le _, Nat.zero_le _⟩ (fun H locs hP hS => ?_)
    refine lv_i2l hx hb dX6_weightOfOuts_26 (v := q18.toInt64) rfl ?_
    exact fin dX6_weightOfOuts_27 (s1 hf) (s2 hf) hP hS
  unfold f_X6_weightOfOuts at hf
  refine lv_iload_n hx hb dX6_weightOfOuts_0 rfl (lv_at hl 1 rfl) ?_
  refine lv_iload_n hx hb dX6_weightOfOuts_1 rfl (lv_at hl 2 rfl) ?_
  refine lv_icmp_ge (tgt := 13) hx hb dX6_weightOfOuts_2 (by decide) (fun c1 => ?_) (fun c1 => ?_)
  · have hf := if_t c1 hf
    exact hB13 X a1 a4 _ _ _ hf hP hS (lv_sub hl [0, 1, 4] rfl)
  · have hf := if_f c1 hf
    refine lv_iload_n hx hb dX6_weightOfOuts_5 rfl (lv_at hl 1 rfl) ?_
    refine lv_iconst (v := 1) hx hb dX6_weightOfOuts_6 (by decide) ?_
    refine lv_iadd hx hb dX6_weightOfOuts_7 ?_
    refine lv_aload_n hx hb dX6_weightOfOuts_8 rfl (lv_at hl 0 rfl) ?_
    refine g_alen (v := (9 : Int32)) S hB hP m_0_2 3 rfl rfl rfl dX6_weightOfOuts_9 ?_
    refine lv_icmp_lt (tgt := 28) hx hb dX6_weightOfOuts_10 (by decide) (fun c2 => ?_) (fun c2 => ?_)
    · have hf := if_t c2 hf
      refine lv_aload_n hx hb dX6_weightOfOuts_28 rfl (lv_at hl 0 rfl) ?_
      refine lv_iload_n hx hb dX6_weightOfOuts_29 rfl (lv_at hl 1 rfl) ?_
      refine lv_iconst (v := 1) hx hb dX6_weightOfOuts_30 (by decide) ?_
      refine lv_iadd hx hb dX6_weightOfOuts_31 ?_
      obtain ⟨hv3, hf⟩ := ck_some hf
      refine g_aald (f := fun j => E.ad (7 + j) 0) S hB hP m_0_2 3 rfl rfl hv3 dX6_weightOfOuts_32 ?_
      refine W.eq (g2 := F0 m 33 ls [.ref (E.ad (7 + (a1 + (1 : Int32)).toNatClampNeg) 0)]) rfl ?_
      refine lv_astore (lv' := [(5, .ref (E.ad (7 + (a1 + (1 : Int32)).toNatClampNeg) 0)), (0, .ref (E.ad 0 2)), (1, .int a1), (2, .int a2), (3, .int a3), (4, .int a4)]) hx hb dX6_weightOfOuts_33 hl (by decide) rfl (fun ls hl => ?_)
      refine lv_lconst (v := 0) hx hb dX6_weightOfOuts_35 (by decide) ?_
      refine lv_lstore (lv' := [(6, .long (0 : Int64)), (5, .ref (E.ad (7 + (a1 + (1 : Int32)).toNatClampNeg) 0)), (0, .ref (E.ad 0 2)), (1, .int a1), (2, .int a2), (3, .int a3), (4, .int a4)]) hx hb dX6_weightOfOuts_36 hl (by decide) rfl (fun ls hl => ?_)
      refine lv_iload_n hx hb dX6_weightOfOuts_38 rfl (lv_at hl 5 rfl) ?_
      refine lv_if_le (tgt := 74) hx hb dX6_weightOfOuts_39 (by decide) (fun c4 => ?_) (fun c4 => ?_)
      · have hf := if_t c4 hf
        exact hB74 X a1 a2 a3 a4 (0 : Int64) (Nat.le_trans (by decide : 4 ≤ 7) (Nat.le_add_right _ _)) (Nat.lt_of_lt_of_le (Nat.add_lt_add_left (vp_lt hv3) 7) (by decide)) _ _ _ hf hP hS (lv_sub hl [2, 3, 4, 5, 6, 1, 0] rfl)
      · have hf := if_f c4 hf
        refine lv_aload hx hb dX6_weightOfOuts_42 (lv_at hl 1 rfl) ?_
        refine lv_aload_n hx hb dX6_weightOfOuts_44 rfl (lv_at hl 2 rfl) ?_
        refine lv_iload_n hx hb dX6_weightOfOuts_45 rfl (lv_at hl 3 rfl) ?_
        obtain ⟨hv5, hf⟩ := ck_some hf
        refine g_aald (f := fun j => E.ad (7 + j) 0) S hB hP m_0_2 3 rfl rfl hv5 dX6_weightOfOuts_46 ?_
        refine W.eq (g2 := F0 m 47 ls [.ref (E.ad (7 + a1.toNatClampNeg) 0), .ref (E.ad (7 + (a1 + (1 : Int32)).toNatClampNeg) 0)]) rfl ?_
        obtain ⟨hv7, hf⟩ := ckq_some hf
        obtain ⟨q6, hq6, hf⟩ := bind_some hf
        refine callV_v (As := [.ref (E.ad (7 + a1.toNatClampNeg) 0)]) (rest := []) S hB hP hS (C := RX1) (b := E.ad (7 + (a1 + (1 : Int32)).toNatClampNeg) 0) (g_recv (o := (7 + (a1 + (1 : Int32)).toNatClampNeg)) (d := 0) hB hP (mem_mz (Nat.le_trans (by decide : 4 ≤ 7) (Nat.le_add_right _ _)) (Nat.lt_of_lt_of_le (Nat.add_lt_add_left (vp_lt hv3) 7) (by decide)) (by decide)) ((cell_mz E (Nat.le_trans (by decide : 4 ≤ 7) (Nat.le_add_right _ _)) (Nat.lt_of_lt_of_le (Nat.add_lt_add_left (vp_lt hv3) 7) (by decide))) _) rfl) (KW_X1_become l hE X (Nat.le_trans (by decide : 4 ≤ 7) (Nat.le_add_right _ _)) (Nat.lt_of_lt_of_le (Nat.add_lt_add_left (vp_lt hv3) 7) (by decide)) (Nat.le_trans (by decide : 4 ≤ 7) (Nat.le_add_right _ _)) (Nat.lt_of_lt_of_le (Nat.add_lt_add_left (vp_lt hv5) 7) (by decide)) hv7 hq6) (cwV 1 S.2.2.2.2 gX6_weightOfOuts_X1_become rfl rfl rfl (by decide +kernel) ⟨Nat.le_trans (Nat.le_of_ble_eq_true rfl : _ ≤ 4) (Nat.le_add_right _ _), Nat.le_trans (Nat.le_of_ble_eq_true rfl : _ ≤ 93) (Nat.le_add_right _ _)⟩) rfl hl.1 rfl (Nat.le_of_ble_eq_true rfl) dX6_weightOfOuts_47 ⟨Nat.zero_le _, Nat.zero_le _⟩ (fun H locs hP hS => ?_)
        refine lv_aload hx hb dX6_weightOfOuts_50 (lv_at hl 1 rfl) ?_
        obtain ⟨q8, hq8, hf⟩ := bind_some hf
        refine callV_v (As := []) (rest := []) S hB hP hS (C := RX1) (b := E.ad (7 + (a1 + (1 : Int32)).toNatClampNeg) 0) (g_recv (o := (7 + (a1 + (1 : Int32)).toNatClampNeg)) (d := 0) hB hP (mem_mz (Nat.le_trans (by decide : 4 ≤ 7) (Nat.le_add_right _ _)) (Nat.lt_of_lt_of_le (Nat.add_lt_add_left (vp_lt hv3) 7) (by decide)) (by decide)) ((cell_mz E (Nat.le_trans (by decide : 4 ≤ 7) (Nat.le_add_right _ _)) (Nat.lt_of_lt_of_le (Nat.add_lt_add_left (vp_lt hv3) 7) (by decide))) _) rfl) (KW_X1_passDayOfGuests l hE (va_up X (7 + (a1 + (1 : Int32)).toNatClampNeg) q6) (Nat.le_trans (by decide : 4 ≤ 7) (Nat.le_add_right _ _)) (Nat.lt_of_lt_of_le (Nat.add_lt_add_left (vp_lt hv3) 7) (by decide)) (by rw [va_up_self]; exact hq8)) (cwV 0 S.2.2.2.2 gX6_weightOfOuts_X1_passDayOfGuests rfl rfl rfl (by decide +kernel) ⟨Nat.le_trans (Nat.le_of_ble_eq_true rfl : _ ≤ 4) (Nat.le_add_right _ _), Nat.le_trans (Nat.le_of_ble_eq_true rfl : _ ≤ 93) (Nat.le_add_right _ _)⟩) rfl hl.1 rfl (Nat.le_of_ble_eq_true rfl) dX6_weightOfOuts_52 ⟨Nat.zero_le _, Nat.zero_le _⟩ (fun H locs hP hS => ?_)
        refine lv_lload hx hb dX6_weightOfOuts_55 (lv_at hl 0 rfl) ?_
        refine lv_iload_n hx hb dX6_weightOfOuts_57 rfl (lv_at hl 5 rfl) ?_
        refine lv_i2l hx hb dX6_weightOfOuts_58 (v := a3.toInt64) rfl ?_
        refine lv_aload_n hx hb dX6_weightOfOuts_59 rfl (lv_at hl 2 rfl) ?_
        refine lv_iload_n hx hb dX6_weightOfOuts_60 rfl (lv_at hl 3 rfl) ?_
        refine lv_iconst (v := 1) hx hb dX6_weightOfOuts_61 (by decide) ?_
        refine lv_iadd hx hb dX6_weightOfOuts_62 ?_
        refine lv_iload_n hx hb dX6_weightOfOuts_63 rfl (lv_at hl 4 rfl) ?_
        refine lv_iload_n hx hb dX6_weightOfOuts_64 rfl (lv_at hl 5 rfl) ?_
        refine lv_iload hx hb dX6_weightOfOuts_65 (lv_at hl 6 rfl) ?_
        obtain ⟨q9, hq9, hf⟩ := bind_some hf
        refine callS_l (As := [.ref (E.ad 0 2), .int (a1 + (1 : Int32)), .int a2, .int a3, .int a4]) (rest := [.long a3.toInt64, .long (0 : Int64)]) S hB hP hS (ihd (va_up (va_up X (7 + (a1 + (1 : Int32)).toNatClampNeg) q6) (7 + (a1 + (1 : Int32)).toNatClampNeg) q8) (a1 + (1 : Int32)) a2 a3 a4 hq9) (va_cwS 5 S.2.2.2.2 gX6_weightOfOuts_X6_weightOfOuts rfl rfl rfl (by decide +kernel) ⟨Nat.le_refl _, rec_room 27 93 8 k0⟩) rfl hl.1 rfl (Nat.le_of_ble_eq_true rfl) dX6_weightOfOuts_67 ⟨Nat.zero_le _, Nat.zero_le _⟩ (fun H locs hP hS => ?_)
        refine lv_lmul hx hb dX6_weightOfOuts_70 ?_
        refine lv_ladd hx hb dX6_weightOfOuts_71 ?_
        refine lv_lstore (lv' := [(6, .long ((0 : Int64) + (a3.toInt64 * q9.1))), (5, .ref (E.ad (7 + (a1 + (1 : Int32)).toNatClampNeg) 0)), (0, .ref (E.ad 0 2)), (1, .int a1), (2, .int a2), (3, .int a3), (4, .int a4)]) hx hb dX6_weightOfOuts_72 hl (by decide) rfl (fun ls hl => ?_)
        exact hB74 q9.2 a1 a2 a3 a4 ((0 : Int64) + (a3.toInt64 * q9.1)) (Nat.le_trans (by decide : 4 ≤ 7) (Nat.le_add_right _ _)) (Nat.lt_of_lt_of_le (Nat.add_lt_add_left (vp_lt hv3) 7) (by decide)) _ _ _ hf hP hS (lv_sub hl [2, 3, 4, 5, 6, 1, 0] rfl)
    · have hf := if_f c2 hf
      exact hB13 X a1 a4 _ _ _ hf hP hS (lv_sub hl [0, 1, 4] rfl)
/-! X6_commonDivisor -/
abbrev rm_X6_commonDivisor : Room := { frames := 0, cells := 0, slots := 0, locals := 0 }
set_option maxHeartbeats 4000000 in
set_option maxRecDepth 100000 in
theorem K_X6_commonDivisor (l : Launch) {E : En} (hE : Inj E) (X : Wd) (a0 : Int64) (a2 : Int64) {r : Int64} (hf : f_X6_commonDivisor a0 a2 = some r) : Ctl l E yX6_commonDivisor wsX6_commonDivisor rm_X6_commonDivisor [.long a0, .long a2] X r X := by
  refine meet_l (cc := cX6_commonDivisor) (maxL := 11) (own := RX6) (by decide) rfl rfl (Nat.le_of_ble_eq_true rfl) ?_
  intro p e s m below meth c Z S hB fin hP hS ls hl
  have hx := S.1
  have hb := S.2.1
  have hl : lv_has ls 11 [(0, .long a0), (2, .long a2)] := hl
  have hL9 : ∀ (n9 : Nat) (x4 : Int64) (x6 : Int64) (x8 : Int32) (H : Heap) (locs : List Loc) (ls : Array Slot), f_X6_commonDivisor_l9 n9 x4 x6 x8 = some r → va_P E.1 vwCl (GW E X) H → va_S (GA E) s.heap H locs → lv_has ls 11 [(4, .long x4), (6, .long x6), (8, .int x8)] → W p l e rm_X6_commonDivisor s m ([.long a0, .long a2] : List Value).toArray below meth c H locs 0 0 Z (F0 m 9 ls []) := by
    intro n9
    induction n9 with
    | zero =>
      intro x4 x6 x8 H locs ls hf
      cases (show (none : Option _) = some _ from hf)
    | succ n9 ih9 =>
      intro x4 x6 x8 H locs ls hf hP hS hl
      unfold f_X6_commonDivisor_l9 at hf
      refine lv_iload hx hb dX6_commonDivisor_9 (lv_at hl 2 rfl) ?_
      refine lv_bipush (v := 100) hx hb dX6_commonDivisor_11 (by decide) ?_
      refine lv_icmp_ge (tgt := 44) hx hb dX6_commonDivisor_13 (by decide) (fun c1 => ?_) (fun c1 => ?_)
      · have hf := if_t c1 hf
        refine lv_lload hx hb dX6_commonDivisor_44 (lv_at hl 0 rfl) ?_
        exact fin dX6_commonDivisor_46 (s0 hf) rfl hP hS
      · have hf := if_f c1 hf
        refine lv_lload hx hb dX6_commonDivisor_16 (lv_at hl 1 rfl) ?_
        refine lv_lconst (v := 0) hx hb dX6_commonDivisor_18 (by decide) ?_
        refine W.lcmp hx hb dX6_commonDivisor_19 ?_
        refine lv_if_eq (tgt := 44) hx hb dX6_commonDivisor_20 (by decide) (fun c2 => ?_) (fun c2 => ?_)
        · have hf := if_t c2 hf
          refine lv_lload hx hb dX6_commonDivisor_44 (lv_at hl 0 rfl) ?_
          exact fin dX6_commonDivisor_46 (s0 hf) rfl hP hS
        · have hf := if_f c2 hf
          refine lv_lload hx hb dX6_commonDivisor_23 (lv_at hl 0 rfl) ?_
          refine lv_lload hx hb dX6_commonDivisor_25 (lv_at hl 1 rfl) ?_
          obtain ⟨hv3, hf⟩ := cknl_some hf
          refine lv_lrem hx hb dX6_commonDivisor_27 hv3 ?_
          refine lv_lstore (lv' := [(9, .long (x4 - x4 / x6 * x6)), (4, .long x4), (6, .long x6), (8, .int x8)]) hx hb dX6_commonDivisor_28 hl (by decide) rfl (fun ls hl => ?_)
          refine lv_lload hx hb dX6_commonDivisor_30 (lv_at hl 2 rfl) ?_
          refine lv_lstore (lv' := [(4, .long x6), (9, .long (x4 - x4 / x6 * x6)), (6, .long x6), (8, .int x8)]) hx hb dX6_commonDivisor_32 hl (by decide) rfl (fun ls hl => ?_)
          refine lv_lload hx hb dX6_commonDivisor_34 (lv_at hl 1 rfl) ?_
          refine lv_lstore (lv' := [(6, .long (x4 - x4 / x6 * x6)), (4, .long x6), (9, .long (x4 - x4 / x6 * x6)), (8, .int x8)]) hx hb dX6_commonDivisor_36 hl (by decide) rfl (fun ls hl => ?_)
          refine lv_iinc (v := x8 + (1 : Int32)) (lv' := [(8, .int (x8 + (1 : Int32))), (6, .long (x4 - x4 / x6 * x6)), (4, .long x6), (9, .long (x4 - x4 / x6 * x6))]) hx hb dX6_commonDivisor_38 hl (k := 3) rfl rfl (by decide) rfl (fun ls hl => ?_)
          refine lv_goto (tgt := 9) hx hb dX6_commonDivisor_41 (by decide) ?_
          exact ih9 x6 (x4 - x4 / x6 * x6) (x8 + (1 : Int32)) _ _ _ hf hP hS (lv_sub hl [2, 1, 0] rfl)
  unfold f_X6_commonDivisor at hf
  refine lv_lload_n hx hb dX6_commonDivisor_0 rfl (lv_at hl 0 rfl) ?_
  refine lv_lstore (lv' := [(4, .long a0), (0, .long a0), (2, .long a2)]) hx hb dX6_commonDivisor_1 hl (by decide) rfl (fun ls hl => ?_)
  refine lv_lload_n hx hb dX6_commonDivisor_3 rfl (lv_at hl 2 rfl) ?_
  refine lv_lstore (lv' := [(6, .long a2), (4, .long a0), (0, .long a0), (2, .long a2)]) hx hb dX6_commonDivisor_4 hl (by decide) rfl (fun ls hl => ?_)
  refine lv_iconst (v := 0) hx hb dX6_commonDivisor_6 (by decide) ?_
  refine lv_istore (lv' := [(8, .int (0 : Int32)), (6, .long a2), (4, .long a0), (0, .long a0), (2, .long a2)]) hx hb dX6_commonDivisor_7 hl (by decide) rfl (fun ls hl => ?_)
  exact hL9 FUEL a0 a2 (0 : Int32) _ _ _ hf hP hS (lv_sub hl [2, 1, 0] rfl)
/-! X6_chance -/
abbrev rm_X6_chance : Room := { frames := 15, cells := 0, slots := 0, locals := 390 }
set_option maxHeartbeats 4000000 in
set_option maxRecDepth 100000 in
theorem K_X6_chance (l : Launch) {E : En} (hE : Inj E) (X : Wd) (a1 : Int32) (a2 : Int32) (a3 : Int32) (a4 : Int32) {r : Int64} {X' : Wd} (hf : f_X6_chance X a1 a2 a3 a4 = some (r, X')) : Ctl l E yX6_chance wsX6_chance rm_X6_chance [.ref (E.ad 0 0), .int a1, .int a2, .int a3, .int a4] X r X' := by
  refine meet_l (cc := cX6_chance) (maxL := 11) (own := RX6) (by decide) rfl rfl (Nat.le_of_ble_eq_true rfl) ?_
  intro p e s m below meth c Z S hB fin hP hS ls hl
  have hx := S.1
  have hb := S.2.1
  have hl : lv_has ls 11 [(0, .ref (E.ad 0 0)), (1, .int a1), (2, .int a2), (3, .int a3), (4, .int a4)] := hl
  have hinX6 : ∀ w ∈ u_ws RX6 TX6 12, w ∈ wsX6_chance := by decide +kernel
  have fl19 := S.2.2.2.2 (.fieldLink RX6 19 "MownMaze" "maze" "LMownMaze$Maze;") (by decide +kernel)
  have fl29 := S.2.2.2.2 (.fieldLink RX6 29 "MownMaze" "rainy" "[LMownMaze$Maze;") (by decide +kernel)
  have hL32 : ∀ (n32 : Nat) (X : Wd) (x3 : Int32) (x4 : Int32) (x5 : Int64) (x7 : Int64) (x9 : Int32) (H : Heap) (locs : List Loc) (ls : Array Slot), f_X6_chance_l32 n32 X x3 x4 x5 x7 x9 = some (r, X') → va_P E.1 vwCl (GW E X) H → va_S (GA E) s.heap H locs → lv_has ls 11 [(3, .int x3), (4, .int x4), (5, .long x5), (7, .long x7), (9, .int x9)] → W p l e rm_X6_chance s m ([.ref (E.ad 0 0), .int a1, .int a2, .int a3, .int a4] : List Value).toArray below meth c H locs 0 0 Z (F0 m 32 ls []) := by
    intro n32
    induction n32 with
    | zero =>
      intro X x3 x4 x5 x7 x9 H locs ls hf
      cases (show (none : Option _) = some _ from hf)
    | succ n32 ih32 =>
      intro X x3 x4 x5 x7 x9 H locs ls hf hP hS hl
      unfold f_X6_chance_l32 at hf
      refine lv_iload hx hb dX6_chance_32 (lv_at hl 4 rfl) ?_
      refine lv_iload_n hx hb dX6_chance_34 rfl (lv_at hl 0 rfl) ?_
      refine lv_icmp_ge (tgt := 52) hx hb dX6_chance_35 (by decide) (fun c3 => ?_) (fun c3 => ?_)
      · have hf := if_t c3 hf
        refine lv_lload hx hb dX6_chance_52 (lv_at hl 2 rfl) ?_
        refine lv_lload hx hb dX6_chance_54 (lv_at hl 3 rfl) ?_
        obtain ⟨q4, hq4, hf⟩ := bind_some hf
        refine callS_l (As := [.long x5, .long x7]) (rest := []) S hB hP hS (K_X6_commonDivisor l hE X x5 x7 hq4) (va_cwS 2 S.2.2.2.2 gX6_chance_X6_commonDivisor rfl rfl rfl (by decide +kernel) ⟨Nat.le_of_ble_eq_true rfl, Nat.le_of_ble_eq_true rfl⟩) rfl hl.1 rfl (Nat.le_of_ble_eq_true rfl) dX6_chance_56 ⟨Nat.zero_le _, Nat.zero_le _⟩ (fun H locs hP hS => ?_)
        refine lv_lstore (lv' := [(9, .long q4), (3, .int x3), (4, .int x4), (5, .long x5), (7, .long x7)]) hx hb dX6_chance_59 hl (by decide) rfl (fun ls hl => ?_)
        refine lv_lload hx hb dX6_chance_61 (lv_at hl 0 rfl) ?_
        refine lv_lconst (v := 0) hx hb dX6_chance_63 (by decide) ?_
        refine W.lcmp hx hb dX6_chance_64 ?_
        refine lv_if_gt (tgt := 72) hx hb dX6_chance_65 (by decide) (fun c5 => ?_) (fun c5 => ?_)
        · have hf := if_t c5 hf
          refine lv_iload hx hb dX6_chance_72 (lv_at hl 2 rfl) ?_
          refine lv_if_ne (tgt := 82) hx hb dX6_chance_74 (by decide) (fun c6 => ?_) (fun c6 => ?_)
          · have hf := if_f c6 hf
            refine lv_lload hx hb dX6_chance_82 (lv_at hl 4 rfl) ?_
            refine lv_lload hx hb dX6_chance_84 (lv_at hl 0 rfl) ?_
            obtain ⟨hv7, hf⟩ := cknl_some hf
            refine lv_ldiv hx hb dX6_chance_86 hv7 ?_
            exact fin dX6_chance_87 (s1 hf) (s2 hf) hP hS
          · have hf := if_t c6 hf
            refine lv_lload hx hb dX6_chance_77 (lv_at hl 3 rfl) ?_
            refine lv_goto (tgt := 84) hx hb dX6_chance_79 (by decide) ?_
            refine lv_lload hx hb dX6_chance_84 (lv_at hl 0 rfl) ?_
            obtain ⟨hv8, hf⟩ := cknl_some hf
            refine lv_ldiv hx hb dX6_chance_86 hv8 ?_
            exact fin dX6_chance_87 (s1 hf) (s2 hf) hP hS
        · have hf := if_f c5 hf
          refine lv_ldc2 hx hb S.2.2.2.1 (S.2.2.2.2 (.constantLong RX6 239 (-1)) (by decide +kernel)) dX6_chance_68 ?_
          exact fin dX6_chance_71 (s1 hf) (s2 hf) hP hS
      · have hf := if_f c3 hf
        refine lv_lload hx hb dX6_chance_38 (lv_at hl 3 rfl) ?_
        refine lv_ldc2 hx hb S.2.2.2.1 (S.2.2.2.2 (.constantLong RX6 315 (10)) (by decide +kernel)) dX6_chance_40 ?_
        refine lv_lmul hx hb dX6_chance_43 ?_
        refine lv_lstore (lv' := [(7, .long (x7 * (10 : Int64))), (3, .int x3), (4, .int x4), (5, .long x5), (9, .int x9)]) hx hb dX6_chance_44 hl (by decide) rfl (fun ls hl => ?_)
        refine lv_iinc (v := x9 + (1 : Int32)) (lv' := [(9, .int (x9 + (1 : Int32))), (7, .long (x7 * (10 : Int64))), (3, .int x3), (4, .int x4), (5, .long x5)]) hx hb dX6_chance_46 hl (k := 4) rfl rfl (by decide) rfl (fun ls hl => ?_)
        refine lv_goto (tgt := 32) hx hb dX6_chance_49 (by decide) ?_
        exact ih32 X x3 x4 x5 (x7 * (10 : Int64)) (x9 + (1 : Int32)) _ _ _ hf hP hS (lv_sub hl [2, 3, 4, 1, 0] rfl)
  unfold f_X6_chance at hf
  refine lv_aload_n hx hb dX6_chance_0 rfl (lv_at hl 0 rfl) ?_
  refine g_get (v := .ref (E.ad 0 2)) S hB hinX6 hP m_0_0 rfl rfl 4 (by decide) fl29 rfl rfl dX6_chance_1 ?_
  refine lv_iconst (v := 0) hx hb dX6_chance_4 (by decide) ?_
  refine g_aald (f := fun j => E.ad (7 + j) 0) S hB hP m_0_2 3 rfl rfl (by unfold vp_in; decide) dX6_chance_5 ?_
  refine W.eq (g2 := F0 m 6 ls [.ref (E.ad 7 0)]) rfl ?_
  refine lv_aload_n hx hb dX6_chance_6 rfl (lv_at hl 0 rfl) ?_
  refine g_get (v := .ref (E.ad 4 0)) S hB hinX6 hP m_0_0 rfl rfl 1 (by decide) fl19 rfl rfl dX6_chance_7 ?_
  obtain ⟨q1, hq1, hf⟩ := bind_some hf
  refine callV_v (As := [.ref (E.ad 4 0)]) (rest := []) S hB hP hS (C := RX1) (b := E.ad 7 0) (g_recv (o := 7) (d := 0) hB hP m_7_0 rfl rfl) (KW_X1_become l hE X (by decide) (by decide) (by decide) (by decide) (by decide) hq1) (cwV 1 S.2.2.2.2 gX6_chance_X1_become rfl rfl rfl (by decide +kernel) ⟨Nat.le_of_ble_eq_true rfl, Nat.le_of_ble_eq_true rfl⟩) rfl hl.1 rfl (Nat.le_of_ble_eq_true rfl) dX6_chance_10 ⟨Nat.zero_le _, Nat.zero_le _⟩ (fun H locs hP hS => ?_)
  refine lv_aload_n hx hb dX6_chance_13 rfl (lv_at hl 0 rfl) ?_
  refine g_get (v := .ref (E.ad 0 2)) S hB hinX6 hP m_0_0 rfl rfl 4 (by decide) fl29 rfl rfl dX6_chance_14 ?_
  refine lv_iconst (v := 0) hx hb dX6_chance_17 (by decide) ?_
  refine lv_iload_n hx hb dX6_chance_18 rfl (lv_at hl 3 rfl) ?_
  refine lv_iload_n hx hb dX6_chance_19 rfl (lv_at hl 1 rfl) ?_
  refine lv_iload_n hx hb dX6_chance_20 rfl (lv_at hl 2 rfl) ?_
  obtain ⟨q2, hq2, hf⟩ := bind_some hf
  refine callS_l (As := [.ref (E.ad 0 2), .int (0 : Int32), .int a3, .int a1, .int a2]) (rest := []) S hB hP hS (K_X6_weightOfOuts l hE 10 (va_up X 7 q1) (0 : Int32) a3 a1 a2 hq2) (va_cwS 5 S.2.2.2.2 gX6_chance_X6_weightOfOuts rfl rfl rfl (by decide +kernel) ⟨Nat.le_of_ble_eq_true rfl, Nat.le_of_ble_eq_true rfl⟩) rfl hl.1 rfl (Nat.le_of_ble_eq_true rfl) dX6_chance_21 ⟨Nat.zero_le _, Nat.zero_le _⟩ (fun H locs hP hS => ?_)
  refine lv_lstore (lv' := [(5, .long q2.1), (0, .ref (E.ad 0 0)), (1, .int a1), (2, .int a2), (3, .int a3), (4, .int a4)]) hx hb dX6_chance_24 hl (by decide) rfl (fun ls hl => ?_)
  refine lv_lconst (v := 1) hx hb dX6_chance_26 (by decide) ?_
  refine lv_lstore (lv' := [(7, .long (1 : Int64)), (5, .long q2.1), (0, .ref (E.ad 0 0)), (1, .int a1), (2, .int a2), (3, .int a3), (4, .int a4)]) hx hb dX6_chance_27 hl (by decide) rfl (fun ls hl => ?_)
  refine lv_iconst (v := 0) hx hb dX6_chance_29 (by decide) ?_
  refine lv_istore (lv' := [(9, .int (0 : Int32)), (7, .long (1 : Int64)), (5, .long q2.1), (0, .ref (E.ad 0 0)), (1, .int a1), (2, .int a2), (3, .int a3), (4, .int a4)]) hx hb dX6_chance_30 hl (by decide) rfl (fun ls hl => ?_)
  exact hL32 FUEL q2.2 a3 a4 q2.1 (1 : Int64) (0 : Int32) _ _ _ hf hP hS (lv_sub hl [6, 7, 2, 1, 0] rfl)
/-! X6_luck -/
abbrev rm_X6_luck : Room := { frames := 16, cells := 0, slots := 0, locals := 420 }
set_option maxHeartbeats 4000000 in
set_option maxRecDepth 100000 in
theorem K_X6_luck (l : Launch) {E : En} (hE : Inj E) (X : Wd) (a1 : Int32) (a2 : Int32) (a3 : Int32) (a4 : Int32) {r : Int64} {X' : Wd} (hf : f_X6_luck X a1 a2 a3 a4 = some (r, X')) : Ctl l E yX6_luck wsX6_luck rm_X6_luck [.ref (E.ad 0 0), .int a1, .int a2, .int a3, .int a4] X r X' := by
  refine meet_l (cc := cX6_luck) (maxL := 5) (own := RX6) (by decide) rfl rfl (Nat.le_of_ble_eq_true rfl) ?_
  intro p e s m below meth c Z S hB fin hP hS ls hl
  have hx := S.1
  have hb := S.2.1
  have hl : lv_has ls 5 [(0, .ref (E.ad 0 0)), (1, .int a1), (2, .int a2), (3, .int a3), (4, .int a4)] := hl
  unfold f_X6_luck at hf
  refine lv_iload_n hx hb dX6_luck_0 rfl (lv_at hl 1 rfl) ?_
  obtain ⟨q1, hq1, hf⟩ := bind_some hf
  refine callS_i (As := [.int a1]) (rest := []) S hB hP hS (K_X6_isTenths l hE X a1 hq1) (va_cwS 1 S.2.2.2.2 gX6_luck_X6_isTenths rfl rfl rfl (by decide +kernel) ⟨Nat.le_of_ble_eq_true rfl, Nat.le_of_ble_eq_true rfl⟩) rfl hl.1 rfl (Nat.le_of_ble_eq_true rfl) dX6_luck_1 ⟨Nat.zero_le _, Nat.zero_le _⟩ (fun H locs hP hS => ?_)
  refine lv_if_eq (tgt := 30) hx hb dX6_luck_4 (by decide) (fun c2 => ?_) (fun c2 => ?_)
  · have hf := if_t c2 hf
    refine lv_ldc2 hx hb S.2.2.2.1 (S.2.2.2.2 (.constantLong RX6 239 (-1)) (by decide +kernel)) dX6_luck_30 ?_
    exact fin dX6_luck_33 (s1 hf) (s2 hf) hP hS
  · have hf := if_f c2 hf
    refine lv_aload_n hx hb dX6_luck_7 rfl (lv_at hl 0 rfl) ?_
    refine lv_iload_n hx hb dX6_luck_8 rfl (lv_at hl 2 rfl) ?_
    obtain ⟨q3, hq3, hf⟩ := bind_some hf
    refine callV_i (As := [.int a2]) (rest := []) S hB hP hS (C := RX6) (b := E.ad 0 0) (g_recv (o := 0) (d := 0) hB hP m_0_0 rfl rfl) (K_X6_isGuest l hE X a2 hq3) (cwV 1 S.2.2.2.2 gX6_luck_X6_isGuest rfl rfl rfl (by decide +kernel) ⟨Nat.le_of_ble_eq_true rfl, Nat.le_of_ble_eq_true rfl⟩) rfl hl.1 rfl (Nat.le_of_ble_eq_true rfl) dX6_luck_9 ⟨Nat.zero_le _, Nat.zero_le _⟩ (fun H locs hP hS => ?_)
    refine lv_if_eq (tgt := 30) hx hb dX6_luck_12 (by decide) (fun c4 => ?_) (fun c4 => ?_)
    · have hf := if_t c4 hf
      refine lv_ldc2 hx hb S.2.2.2.1 (S.2.2.2.2 (.constantLong RX6 239 (-1)) (by decide +kernel)) dX6_luck_30 ?_
      exact fin dX6_luck_33 (s1 hf) (s2 hf) hP hS
    · have hf := if_f c4 hf
      refine lv_iload_n hx hb dX6_luck_15 rfl (lv_at hl 3 rfl) ?_
      obtain ⟨q5, hq5, hf⟩ := bind_some hf
      refine callS_i (As := [.int a3]) (rest := []) S hB hP hS (K_X6_isRainy l hE X a3 hq5) (va_cwS 1 S.2.2.2.2 gX6_luck_X6_isRainy rfl rfl rfl (by decide +kernel) ⟨Nat.le_of_ble_eq_true rfl, Nat.le_of_ble_eq_true rfl⟩) rfl hl.1 rfl (Nat.le_of_ble_eq_true rfl) dX6_luck_16 ⟨Nat.zero_le _, Nat.zero_le _⟩ (fun H locs hP hS => ?_)
      refine lv_if_eq (tgt := 30) hx hb dX6_luck_19 (by decide) (fun c6 => ?_) (fun c6 => ?_)
      · have hf := if_t c6 hf
        refine lv_ldc2 hx hb S.2.2.2.1 (S.2.2.2.2 (.constantLong RX6 239 (-1)) (by decide +kernel)) dX6_luck_30 ?_
        exact fin dX6_luck_33 (s1 hf) (s2 hf) hP hS
      · have hf := if_f c6 hf
        refine lv_iload hx hb dX6_luck_22 (lv_at hl 4 rfl) ?_
        obtain ⟨q7, hq7, hf⟩ := bind_some hf
        refine callS_i (As := [.int a4]) (rest := []) S hB hP hS (K_X6_isBit l hE X a4 hq7) (va_cwS 1 S.2.2.2.2 gX6_luck_X6_isBit rfl rfl rfl (by decide +kernel) ⟨Nat.le_of_ble_eq_true rfl, Nat.le_of_ble_eq_true rfl⟩) rfl hl.1 rfl (Nat.le_of_ble_eq_true rfl) dX6_luck_24 ⟨Nat.zero_le _, Nat.zero_le _⟩ (fun H locs hP hS => ?_)
        refine lv_if_ne (tgt := 34) hx hb dX6_luck_27 (by decide) (fun c8 => ?_) (fun c8 => ?_)
        · have hf := if_f c8 hf
          refine lv_aload_n hx hb dX6_luck_34 rfl (lv_at hl 0 rfl) ?_
          refine lv_iload_n hx hb dX6_luck_35 rfl (lv_at hl 1 rfl) ?_
          refine lv_iconst (v := 1) hx hb dX6_luck_36 (by decide) ?_
          refine lv_iload_n hx hb dX6_luck_37 rfl (lv_at hl 2 rfl) ?_
          refine lv_ishl hx hb dX6_luck_38 ?_
          refine lv_iload_n hx hb dX6_luck_39 rfl (lv_at hl 3 rfl) ?_
          refine lv_iload hx hb dX6_luck_40 (lv_at hl 4 rfl) ?_
          obtain ⟨q9, hq9, hf⟩ := bind_some hf
          refine callV_l (As := [.int a1, .int ((1 : Int32) <<< (a2 &&& 31)), .int a3, .int a4]) (rest := []) S hB hP hS (C := RX6) (b := E.ad 0 0) (g_recv (o := 0) (d := 0) hB hP m_0_0 rfl rfl) (K_X6_chance l hE X a1 ((1 : Int32) <<< (a2 &&& 31)) a3 a4 hq9) (cwV 4 S.2.2.2.2 gX6_luck_X6_chance rfl rfl rfl (by decide +kernel) ⟨Nat.le_of_ble_eq_true rfl, Nat.le_of_ble_eq_true rfl⟩) rfl hl.1 rfl (Nat.le_of_ble_eq_true rfl) dX6_luck_42 ⟨Nat.zero_le _, Nat.zero_le _⟩ (fun H locs hP hS => ?_)
          exact fin dX6_luck_45 (s1 hf) (s2 hf) hP hS
        · have hf := if_t c8 hf
          refine lv_ldc2 hx hb S.2.2.2.1 (S.2.2.2.2 (.constantLong RX6 239 (-1)) (by decide +kernel)) dX6_luck_30 ?_
          exact fin dX6_luck_33 (s1 hf) (s2 hf) hP hS
/-! X6_mean -/
abbrev rm_X6_mean : Room := { frames := 16, cells := 0, slots := 0, locals := 420 }
set_option maxHeartbeats 4000000 in
set_option maxRecDepth 100000 in
theorem K_X6_mean (l : Launch) {E : En} (hE : Inj E) (X : Wd) (a1 : Int32) (a2 : Int32) (a3 : Int32) {r : Int64} {X' : Wd} (hf : f_X6_mean X a1 a2 a3 = some (r, X')) : Ctl l E yX6_mean wsX6_mean rm_X6_mean [.ref (E.ad 0 0), .int a1, .int a2, .int a3] X r X' := by
  refine meet_l (cc := cX6_mean) (maxL := 4) (own := RX6) (by decide) rfl rfl (Nat.le_of_ble_eq_true rfl) ?_
  intro p e s m below meth c Z S hB fin hP hS ls hl
  have hx := S.1
  have hb := S.2.1
  have hl : lv_has ls 4 [(0, .ref (E.ad 0 0)), (1, .int a1), (2, .int a2), (3, .int a3)] := hl
  unfold f_X6_mean at hf
  refine lv_iload_n hx hb dX6_mean_0 rfl (lv_at hl 1 rfl) ?_
  obtain ⟨q1, hq1, hf⟩ := bind_some hf
  refine callS_i (As := [.int a1]) (rest := []) S hB hP hS (K_X6_isTenths l hE X a1 hq1) (va_cwS 1 S.2.2.2.2 gX6_mean_X6_isTenths rfl rfl rfl (by decide +kernel) ⟨Nat.le_of_ble_eq_true rfl, Nat.le_of_ble_eq_true rfl⟩) rfl hl.1 rfl (Nat.le_of_ble_eq_true rfl) dX6_mean_1 ⟨Nat.zero_le _, Nat.zero_le _⟩ (fun H locs hP hS => ?_)
  refine lv_if_eq (tgt := 21) hx hb dX6_mean_4 (by decide) (fun c2 => ?_) (fun c2 => ?_)
  · have hf := if_t c2 hf
    refine lv_ldc2 hx hb S.2.2.2.1 (S.2.2.2.2 (.constantLong RX6 239 (-1)) (by decide +kernel)) dX6_mean_21 ?_
    exact fin dX6_mean_24 (s1 hf) (s2 hf) hP hS
  · have hf := if_f c2 hf
    refine lv_iload_n hx hb dX6_mean_7 rfl (lv_at hl 2 rfl) ?_
    obtain ⟨q3, hq3, hf⟩ := bind_some hf
    refine callS_i (As := [.int a2]) (rest := []) S hB hP hS (K_X6_isRainy l hE X a2 hq3) (va_cwS 1 S.2.2.2.2 gX6_mean_X6_isRainy rfl rfl rfl (by decide +kernel) ⟨Nat.le_of_ble_eq_true rfl, Nat.le_of_ble_eq_true rfl⟩) rfl hl.1 rfl (Nat.le_of_ble_eq_true rfl) dX6_mean_8 ⟨Nat.zero_le _, Nat.zero_le _⟩ (fun H locs hP hS => ?_)
    refine lv_if_eq (tgt := 21) hx hb dX6_mean_11 (by decide) (fun c4 => ?_) (fun c4 => ?_)
    · have hf := if_t c4 hf
      refine lv_ldc2 hx hb S.2.2.2.1 (S.2.2.2.2 (.constantLong RX6 239 (-1)) (by decide +kernel)) dX6_mean_21 ?_
      exact fin dX6_mean_24 (s1 hf) (s2 hf) hP hS
    · have hf := if_f c4 hf
      refine lv_iload_n hx hb dX6_mean_14 rfl (lv_at hl 3 rfl) ?_
      obtain ⟨q5, hq5, hf⟩ := bind_some hf
      refine callS_i (As := [.int a3]) (rest := []) S hB hP hS (K_X6_isBit l hE X a3 hq5) (va_cwS 1 S.2.2.2.2 gX6_mean_X6_isBit rfl rfl rfl (by decide +kernel) ⟨Nat.le_of_ble_eq_true rfl, Nat.le_of_ble_eq_true rfl⟩) rfl hl.1 rfl (Nat.le_of_ble_eq_true rfl) dX6_mean_15 ⟨Nat.zero_le _, Nat.zero_le _⟩ (fun H locs hP hS => ?_)
      refine lv_if_ne (tgt := 25) hx hb dX6_mean_18 (by decide) (fun c6 => ?_) (fun c6 => ?_)
      · have hf := if_f c6 hf
        refine lv_aload_n hx hb dX6_mean_25 rfl (lv_at hl 0 rfl) ?_
        refine lv_iload_n hx hb dX6_mean_26 rfl (lv_at hl 1 rfl) ?_
        refine lv_bipush (v := 15) hx hb dX6_mean_27 (by decide) ?_
        refine lv_iload_n hx hb dX6_mean_29 rfl (lv_at hl 2 rfl) ?_
        refine lv_iload_n hx hb dX6_mean_30 rfl (lv_at hl 3 rfl) ?_
        obtain ⟨q7, hq7, hf⟩ := bind_some hf
        refine callV_l (As := [.int a1, .int (15 : Int32), .int a2, .int a3]) (rest := []) S hB hP hS (C := RX6) (b := E.ad 0 0) (g_recv (o := 0) (d := 0) hB hP m_0_0 rfl rfl) (K_X6_chance l hE X a1 (15 : Int32) a2 a3 hq7) (cwV 4 S.2.2.2.2 gX6_mean_X6_chance rfl rfl rfl (by decide +kernel) ⟨Nat.le_of_ble_eq_true rfl, Nat.le_of_ble_eq_true rfl⟩) rfl hl.1 rfl (Nat.le_of_ble_eq_true rfl) dX6_mean_31 ⟨Nat.zero_le _, Nat.zero_le _⟩ (fun H locs hP hS => ?_)
        exact fin dX6_mean_34 (s1 hf) (s2 hf) hP hS
      · have hf := if_t c6 hf
        refine lv_ldc2 hx hb S.2.2.2.1 (S.2.2.2.2 (.constantLong RX6 239 (-1)) (by decide +kernel)) dX6_mean_21 ?_
        exact fin dX6_mean_24 (s1 hf) (s2 hf) hP hS
/-! X6_see -/
abbrev rm_X6_see : Room := { frames := 1, cells := 0, slots := 0, locals := 23 }
set_option maxHeartbeats 4000000 in
set_option maxRecDepth 100000 in
theorem K_X6_see (l : Launch) {E : En} (hE : Inj E) (X : Wd) (a1 : Int32) (a2 : Int32) (a3 : Int32) {r : Int32} {X' : Wd} (hf : f_X6_see X a1 a2 a3 = some (r, X')) : Cti l E yX6_see wsX6_see rm_X6_see [.ref (E.ad 0 0), .int a1, .int a2, .int a3] X r X' := by
  refine meet_i (cc := cX6_see) (maxL := 4) (own := RX6) (by decide) rfl rfl (Nat.le_of_ble_eq_true rfl) ?_
  intro p e s m below meth c Z S hB fin hP hS ls hl
  have hx := S.1
  have hb := S.2.1
  have hl : lv_has ls 4 [(0, .ref (E.ad 0 0)), (1, .int a1), (2, .int a2), (3, .int a3)] := hl
  have hinX4 : ∀ w ∈ u_ws RX4 TX4 6, w ∈ wsX6_see := by decide +kernel
  have hinX6 : ∀ w ∈ u_ws RX6 TX6 12, w ∈ wsX6_see := by decide +kernel
  have fl49 := S.2.2.2.2 (.fieldLink RX6 49 "MownMaze" "seen" "LMownMaze$Seen;") (by decide +kernel)
  have fl90 := S.2.2.2.2 (.fieldLink RX6 90 "MownMaze$Seen" "size" "I") (by decide +kernel)
  unfold f_X6_see at hf
  refine lv_iload_n hx hb dX6_see_0 rfl (lv_at hl 1 rfl) ?_
  refine lv_if_lt (tgt := 24) hx hb dX6_see_1 (by decide) (fun c1 => ?_) (fun c1 => ?_)
  · have hf := if_t c1 hf
    refine lv_iconst (v := -1) hx hb dX6_see_24 (by decide) ?_
    exact fin dX6_see_25 (s1 hf) (s2 hf) hP hS
  · have hf := if_f c1 hf
    refine lv_iload_n hx hb dX6_see_4 rfl (lv_at hl 1 rfl) ?_
    refine lv_bipush (v := 20) hx hb dX6_see_5 (by decide) ?_
    refine lv_icmp_gt (tgt := 24) hx hb dX6_see_7 (by decide) (fun c2 => ?_) (fun c2 => ?_)
    · have hf := if_t c2 hf
      refine lv_iconst (v := -1) hx hb dX6_see_24 (by decide) ?_
      exact fin dX6_see_25 (s1 hf) (s2 hf) hP hS
    · have hf := if_f c2 hf
      refine lv_iload_n hx hb dX6_see_10 rfl (lv_at hl 2 rfl) ?_
      obtain ⟨q3, hq3, hf⟩ := bind_some hf
      refine callS_i (As := [.int a2]) (rest := []) S hB hP hS (K_X6_isHedge l hE X a2 hq3) (va_cwS 1 S.2.2.2.2 gX6_see_X6_isHedge rfl rfl rfl (by decide +kernel) ⟨Nat.le_of_ble_eq_true rfl, Nat.le_of_ble_eq_true rfl⟩) rfl hl.1 rfl (Nat.le_of_ble_eq_true rfl) dX6_see_11 ⟨Nat.zero_le _, Nat.zero_le _⟩ (fun H locs hP hS => ?_)
      refine lv_if_eq (tgt := 24) hx hb dX6_see_14 (by decide) (fun c4 => ?_) (fun c4 => ?_)
      · have hf := if_t c4 hf
        refine lv_iconst (v := -1) hx hb dX6_see_24 (by decide) ?_
        exact fin dX6_see_25 (s1 hf) (s2 hf) hP hS
      · have hf := if_f c4 hf
        refine lv_iload_n hx hb dX6_see_17 rfl (lv_at hl 3 rfl) ?_
        obtain ⟨q5, hq5, hf⟩ := bind_some hf
        refine callS_i (As := [.int a3]) (rest := []) S hB hP hS (K_X6_isBit l hE X a3 hq5) (va_cwS 1 S.2.2.2.2 gX6_see_X6_isBit rfl rfl rfl (by decide +kernel) ⟨Nat.le_of_ble_eq_true rfl, Nat.le_of_ble_eq_true rfl⟩) rfl hl.1 rfl (Nat.le_of_ble_eq_true rfl) dX6_see_18 ⟨Nat.zero_le _, Nat.zero_le _⟩ (fun H locs hP hS => ?_)
        refine lv_if_ne (tgt := 26) hx hb dX6_see_21 (by decide) (fun c6 => ?_) (fun c6 => ?_)
        · have hf := if_f c6 hf
          refine lv_aload_n hx hb dX6_see_26 rfl (lv_at hl 0 rfl) ?_
          refine g_get (v := .ref (E.ad 2 0)) S hB hinX6 hP m_0_0 rfl rfl 8 (by decide) fl49 rfl rfl dX6_see_27 ?_
          refine lv_iload_n hx hb dX6_see_30 rfl (lv_at hl 1 rfl) ?_
          refine lv_iload_n hx hb dX6_see_31 rfl (lv_at hl 2 rfl) ?_
          refine lv_iload_n hx hb dX6_see_32 rfl (lv_at hl 3 rfl) ?_
          obtain ⟨q7, hq7, hf⟩ := bind_some hf
          refine callV_i (As := [.int a1, .int a2, .int a3]) (rest := []) S hB hP hS (C := RX4) (b := E.ad 2 0) (g_recv (o := 2) (d := 0) hB hP m_2_0 rfl rfl) (KW_X4_note l hE X a1 a2 a3 hq7) (cwV 3 S.2.2.2.2 gX6_see_X4_note rfl rfl rfl (by decide +kernel) ⟨Nat.le_of_ble_eq_true rfl, Nat.le_of_ble_eq_true rfl⟩) rfl hl.1 rfl (Nat.le_of_ble_eq_true rfl) dX6_see_33 ⟨Nat.zero_le _, Nat.zero_le _⟩ (fun H locs hP hS => ?_)
          refine lv_if_eq (tgt := 49) hx hb dX6_see_36 (by decide) (fun c8 => ?_) (fun c8 => ?_)
          · have hf := if_t c8 hf
            refine lv_bipush (v := -3) hx hb dX6_see_49 (by decide) ?_
            exact fin dX6_see_51 (s1 hf) (s2 hf) hP hS
          · have hf := if_f c8 hf
            refine lv_aload_n hx hb dX6_see_39 rfl (lv_at hl 0 rfl) ?_
            refine g_get (v := .ref (E.ad 2 0)) S hB hinX6 hP m_0_0 rfl rfl 8 (by decide) fl49 rfl rfl dX6_see_40 ?_
            refine g_get (v := .int (q7.2 0 0)) S hB hinX4 hP m_2_0 rfl rfl 0 (by decide) fl90 rfl rfl dX6_see_43 ?_
            refine lv_goto (tgt := 51) hx hb dX6_see_46 (by decide) ?_
            exact fin dX6_see_51 (s1 hf) (s2 hf) hP hS
        · have hf := if_t c6 hf
          refine lv_iconst (v := -1) hx hb dX6_see_24 (by decide) ?_
          exact fin dX6_see_25 (s1 hf) (s2 hf) hP hS
/-! X6_forget -/
abbrev rm_X6_forget : Room := { frames := 0, cells := 0, slots := 0, locals := 0 }
set_option maxHeartbeats 4000000 in
set_option maxRecDepth 100000 in
theorem K_X6_forget (l : Launch) {E : En} (hE : Inj E) (X : Wd) (a1 : Int32) {r : Int32} {X' : Wd} (hf : f_X6_forget X a1 = some (r, X')) : Cti l E yX6_forget wsX6_forget rm_X6_forget [.ref (E.ad 0 0), .int a1] X r X' := by
  refine meet_i (cc := cX6_forget) (maxL := 3) (own := RX6) (by decide) rfl rfl (Nat.le_of_ble_eq_true rfl) ?_
  intro p e s m below meth c Z S hB fin hP hS ls hl
  have hx := S.1
  have hb := S.2.1
  have hl : lv_has ls 3 [(0, .ref (E.ad 0 0)), (1, .int a1)] := hl
  have hinX4 : ∀ w ∈ u_ws RX4 TX4 6, w ∈ wsX6_forget := by decide +kernel
  have hinX6 : ∀ w ∈ u_ws RX6 TX6 12, w ∈ wsX6_forget := by decide +kernel
  have fl49 := S.2.2.2.2 (.fieldLink RX6 49 "MownMaze" "seen" "LMownMaze$Seen;") (by decide +kernel)
  have fl90 := S.2.2.2.2 (.fieldLink RX6 90 "MownMaze$Seen" "size" "I") (by decide +kernel)
  unfold f_X6_forget at hf
  refine lv_iload_n hx hb dX6_forget_0 rfl (lv_at hl 1 rfl) ?_
  refine lv_if_lt (tgt := 15) hx hb dX6_forget_1 (by decide) (fun c1 => ?_) (fun c1 => ?_)
  · have hf := if_t c1 hf
    refine lv_iconst (v := -1) hx hb dX6_forget_15 (by decide) ?_
    exact fin dX6_forget_16 (s1 hf) (s2 hf) hP hS
  · have hf := if_f c1 hf
    refine lv_iload_n hx hb dX6_forget_4 rfl (lv_at hl 1 rfl) ?_
    refine lv_aload_n hx hb dX6_forget_5 rfl (lv_at hl 0 rfl) ?_
    refine g_get (v := .ref (E.ad 2 0)) S hB hinX6 hP m_0_0 rfl rfl 8 (by decide) fl49 rfl rfl dX6_forget_6 ?_
    refine g_get (v := .int ((X 2) 0 0)) S hB hinX4 hP m_2_0 rfl rfl 0 (by decide) fl90 rfl rfl dX6_forget_9 ?_
    refine lv_icmp_le (tgt := 17) hx hb dX6_forget_12 (by decide) (fun c2 => ?_) (fun c2 => ?_)
    · have hf := if_t c2 hf
      refine lv_aload_n hx hb dX6_forget_17 rfl (lv_at hl 0 rfl) ?_
      refine g_get (v := .ref (E.ad 2 0)) S hB hinX6 hP m_0_0 rfl rfl 8 (by decide) fl49 rfl rfl dX6_forget_18 ?_
      refine g_get (v := .int ((X 2) 0 0)) S hB hinX4 hP m_2_0 rfl rfl 0 (by decide) fl90 rfl rfl dX6_forget_21 ?_
      refine lv_istore_n (lv' := [(2, .int ((X 2) 0 0)), (0, .ref (E.ad 0 0)), (1, .int a1)]) hx hb dX6_forget_24 rfl hl (by decide) rfl (fun ls hl => ?_)
      refine lv_aload_n hx hb dX6_forget_25 rfl (lv_at hl 1 rfl) ?_
      refine g_get (v := .ref (E.ad 2 0)) S hB hinX6 hP m_0_0 rfl rfl 8 (by decide) fl49 rfl rfl dX6_forget_26 ?_
      refine lv_iload_n hx hb dX6_forget_29 rfl (lv_at hl 2 rfl) ?_
      refine g_put S hB hE hinX4 tyX4 tyX4_ok nmX4 hP hS m_2_0 rfl rfl 0 (by decide) fl90 rfl rfl rfl rfl (Nat.le_of_ble_eq_true rfl) (by exact (fun _ => rfl) _) (X' := (wo X 2 0 0 a1)) rfl dX6_forget_30 (fun H locs hP hS => ?_)
      refine lv_iload_n hx hb dX6_forget_33 rfl (lv_at hl 0 rfl) ?_
      exact fin dX6_forget_34 (s1 hf) (s2 hf) hP hS
    · have hf := if_f c2 hf
      refine lv_iconst (v := -1) hx hb dX6_forget_15 (by decide) ?_
      exact fin dX6_forget_16 (s1 hf) (s2 hf) hP hS
/-! X6_kinds -/
abbrev rm_X6_kinds : Room := { frames := 5, cells := 0, slots := 0, locals := 107 }
set_option maxHeartbeats 4000000 in
set_option maxRecDepth 100000 in
theorem K_X6_kinds (l : Launch) {E : En} (hE : Inj E) (X : Wd) (a1 : Int32) {r : Int32} {X' : Wd} (hf : f_X6_kinds X a1 = some (r, X')) : Cti l E yX6_kinds wsX6_kinds rm_X6_kinds [.ref (E.ad 0 0), .int a1] X r X' := by
  refine meet_i (cc := cX6_kinds) (maxL := 4) (own := RX6) (by decide) rfl rfl (Nat.le_of_ble_eq_true rfl) ?_
  intro p e s m below meth c Z S hB fin hP hS ls hl
  have hx := S.1
  have hb := S.2.1
  have hl : lv_has ls 4 [(0, .ref (E.ad 0 0)), (1, .int a1)] := hl
  have hinX1 : ∀ w ∈ u_ws RX1 TX1 12, w ∈ wsX6_kinds := by decide +kernel
  have hinX6 : ∀ w ∈ u_ws RX6 TX6 12, w ∈ wsX6_kinds := by decide +kernel
  have fl19 := S.2.2.2.2 (.fieldLink RX6 19 "MownMaze" "maze" "LMownMaze$Maze;") (by decide +kernel)
  have fl23 := S.2.2.2.2 (.fieldLink RX6 23 "MownMaze" "trial" "LMownMaze$Maze;") (by decide +kernel)
  have fl49 := S.2.2.2.2 (.fieldLink RX6 49 "MownMaze" "seen" "LMownMaze$Seen;") (by decide +kernel)
  have fl230 := S.2.2.2.2 (.fieldLink RX6 230 "MownMaze$Maze" "kind" "[I") (by decide +kernel)
  have hL14 : ∀ (n14 : Nat) (X : Wd) (x1 : Int32) (x2 : Int32) (x3 : Int32) (H : Heap) (locs : List Loc) (ls : Array Slot), f_X6_kinds_l14 n14 X x1 x2 x3 = some (r, X') → va_P E.1 vwCl (GW E X) H → va_S (GA E) s.heap H locs → lv_has ls 4 [(0, .ref (E.ad 0 0)), (1, .int x1), (2, .int x2), (3, .int x3)] → W p l e rm_X6_kinds s m ([.ref (E.ad 0 0), .int a1] : List Value).toArray below meth c H locs 0 0 Z (F0 m 14 ls []) := by
    intro n14
    induction n14 with
    | zero =>
      intro X x1 x2 x3 H locs ls hf
      cases (show (none : Option _) = some _ from hf)
    | succ n14 ih14 =>
      have hB60 : ∀ (X : Wd) (x1 : Int32) (x2 : Int32) (x3 : Int32) (H : Heap) (locs : List Loc) (ls : Array Slot), f_X6_kinds_b60 (f_X6_kinds_l14 n14) X x1 x2 x3 = some (r, X') → va_P E.1 vwCl (GW E X) H → va_S (GA E) s.heap H locs → lv_has ls 4 [(0, .ref (E.ad 0 0)), (1, .int x1), (2, .int x2), (3, .int x3)] → W p l e rm_X6_kinds s m ([.ref (E.ad 0 0), .int a1] : List Value).toArray below meth c H locs 0 0 Z (F0 m 60 ls []) := by
        intro X x1 x2 x3 H locs ls hf hP hS hl
        unfold f_X6_kinds_b60 at hf
        refine lv_iinc (v := x3 + (1 : Int32)) (lv' := [(3, .int (x3 + (1 : Int32))), (0, .ref (E.ad 0 0)), (1, .int x1), (2, .int x2)]) hx hb dX6_kinds_60 hl (k := 3) rfl rfl (by decide) rfl (fun ls hl => ?_)
        refine lv_goto (tgt := 14) hx hb dX6_kinds_63 (by decide) ?_
        exact ih14 X x1 x2 (x3 + (1 : Int32)) _ _ _ hf hP hS (lv_sub hl [1, 2, 3, 0] rfl)
      intro X x1 x2 x3 H locs ls hf hP hS hl
      unfold f_X6_kinds_l14 at hf
      refine lv_iload_n hx hb dX6_kinds_14 rfl (lv_at hl 3 rfl) ?_
      refine lv_iconst (v := 4) hx hb dX6_kinds_15 (by decide) ?_
      refine lv_icmp_ge (tgt := 66) hx hb dX6_kinds_16 (by decide) (fun c3 => ?_) (fun c3 => ?_)
      · have hf := if_t c3 hf
        refine lv_iload_n hx hb dX6_kinds_66 rfl (lv_at hl 2 rfl) ?_
        exact fin dX6_kinds_67 (s1 hf) (s2 hf) hP hS
      · have hf := if_f c3 hf
        refine lv_aload_n hx hb dX6_kinds_19 rfl (lv_at hl 0 rfl) ?_
        refine g_get (v := .ref (E.ad 5 0)) S hB hinX6 hP m_0_0 rfl rfl 2 (by decide) fl23 rfl rfl dX6_kinds_20 ?_
        refine lv_aload_n hx hb dX6_kinds_23 rfl (lv_at hl 0 rfl) ?_
        refine g_get (v := .ref (E.ad 4 0)) S hB hinX6 hP m_0_0 rfl rfl 1 (by decide) fl19 rfl rfl dX6_kinds_24 ?_
        obtain ⟨q4, hq4, hf⟩ := bind_some hf
        refine callV_v (As := [.ref (E.ad 4 0)]) (rest := []) S hB hP hS (C := RX1) (b := E.ad 5 0) (g_recv (o := 5) (d := 0) hB hP m_5_0 rfl rfl) (KW_X1_become l hE X (by decide) (by decide) (by decide) (by decide) (by decide) hq4) (cwV 1 S.2.2.2.2 gX6_kinds_X1_become rfl rfl rfl (by decide +kernel) ⟨Nat.le_of_ble_eq_true rfl, Nat.le_of_ble_eq_true rfl⟩) rfl hl.1 rfl (Nat.le_of_ble_eq_true rfl) dX6_kinds_27 ⟨Nat.zero_le _, Nat.zero_le _⟩ (fun H locs hP hS => ?_)
        refine lv_aload_n hx hb dX6_kinds_30 rfl (lv_at hl 0 rfl) ?_
        refine g_get (v := .ref (E.ad 5 0)) S hB hinX6 hP m_0_0 rfl rfl 2 (by decide) fl23 rfl rfl dX6_kinds_31 ?_
        refine g_get (v := .ref (E.ad 5 1)) S hB hinX1 hP m_5_0 rfl rfl 5 (by decide) fl230 rfl rfl dX6_kinds_34 ?_
        refine lv_iload_n hx hb dX6_kinds_37 rfl (lv_at hl 1 rfl) ?_
        refine lv_iload_n hx hb dX6_kinds_38 rfl (lv_at hl 3 rfl) ?_
        obtain ⟨hv5, hf⟩ := ck_some hf
        refine g_iast (r := (va_up X 5 q4) 5 1) S hB hE hP hS m_5_1 rfl rfl (fun _ => rfl) hv5 (X' := (wo (va_up X 5 q4) 5 1 x1.toNatClampNeg x3)) rfl dX6_kinds_39 (fun H locs hP hS => ?_)
        refine lv_aload_n hx hb dX6_kinds_40 rfl (lv_at hl 0 rfl) ?_
        refine g_get (v := .ref (E.ad 2 0)) S hB hinX6 hP m_0_0 rfl rfl 8 (by decide) fl49 rfl rfl dX6_kinds_41 ?_
        refine lv_aload_n hx hb dX6_kinds_44 rfl (lv_at hl 0 rfl) ?_
        refine g_get (v := .ref (E.ad 5 0)) S hB hinX6 hP m_0_0 rfl rfl 2 (by decide) fl23 rfl rfl dX6_kinds_45 ?_
        obtain ⟨q6, hq6, hf⟩ := bind_some hf
        refine callV_i (As := [.ref (E.ad 5 0)]) (rest := []) S hB hP hS (C := RX4) (b := E.ad 2 0) (g_recv (o := 2) (d := 0) hB hP m_2_0 rfl rfl) (KW_X4_fits l hE (wo (va_up X 5 q4) 5 1 x1.toNatClampNeg x3) hq6) (cwV 1 S.2.2.2.2 gX6_kinds_X4_fits rfl rfl rfl (by decide +kernel) ⟨Nat.le_of_ble_eq_true rfl, Nat.le_of_ble_eq_true rfl⟩) rfl hl.1 rfl (Nat.le_of_ble_eq_true rfl) dX6_kinds_48 ⟨Nat.zero_le _, Nat.zero_le _⟩ (fun H locs hP hS => ?_)
        refine lv_if_eq (tgt := 60) hx hb dX6_kinds_51 (by decide) (fun c7 => ?_) (fun c7 => ?_)
        · have hf := if_t c7 hf
          exact hB60 (va_up (va_up (wo (va_up X 5 q4) 5 1 x1.toNatClampNeg x3) 2 q6.2.1) 5 q6.2.2) x1 x2 x3 _ _ _ hf hP hS (lv_sub hl [0, 1, 2, 3] rfl)
        · have hf := if_f c7 hf
          refine lv_iload_n hx hb dX6_kinds_54 rfl (lv_at hl 2 rfl) ?_
          refine lv_iconst (v := 1) hx hb dX6_kinds_55 (by decide) ?_
          refine lv_iload_n hx hb dX6_kinds_56 rfl (lv_at hl 3 rfl) ?_
          refine lv_ishl hx hb dX6_kinds_57 ?_
          refine lv_ior hx hb dX6_kinds_58 ?_
          refine lv_istore_n (lv' := [(2, .int (x2 ||| ((1 : Int32) <<< (x3 &&& 31)))), (0, .ref (E.ad 0 0)), (1, .int x1), (3, .int x3)]) hx hb dX6_kinds_59 rfl hl (by decide) rfl (fun ls hl => ?_)
          exact hB60 (va_up (va_up (wo (va_up X 5 q4) 5 1 x1.toNatClampNeg x3) 2 q6.2.1) 5 q6.2.2) x1 (x2 ||| ((1 : Int32) <<< (x3 &&& 31))) x3 _ _ _ hf hP hS (lv_sub hl [1, 2, 0, 3] rfl)
  unfold f_X6_kinds at hf
  refine lv_aload_n hx hb dX6_kinds_0 rfl (lv_at hl 0 rfl) ?_
  refine lv_iload_n hx hb dX6_kinds_1 rfl (lv_at hl 1 rfl) ?_
  obtain ⟨q1, hq1, hf⟩ := bind_some hf
  refine callV_i (As := [.int a1]) (rest := []) S hB hP hS (C := RX6) (b := E.ad 0 0) (g_recv (o := 0) (d := 0) hB hP m_0_0 rfl rfl) (K_X6_isGardener l hE X a1 hq1) (cwV 1 S.2.2.2.2 gX6_kinds_X6_isGardener rfl rfl rfl (by decide +kernel) ⟨Nat.le_of_ble_eq_true rfl, Nat.le_of_ble_eq_true rfl⟩) rfl hl.1 rfl (Nat.le_of_ble_eq_true rfl) dX6_kinds_2 ⟨Nat.zero_le _, Nat.zero_le _⟩ (fun H locs hP hS => ?_)
  refine lv_if_ne (tgt := 10) hx hb dX6_kinds_5 (by decide) (fun c2 => ?_) (fun c2 => ?_)
  · have hf := if_f c2 hf
    refine lv_iconst (v := 0) hx hb dX6_kinds_10 (by decide) ?_
    refine lv_istore_n (lv' := [(2, .int (0 : Int32)), (0, .ref (E.ad 0 0)), (1, .int a1)]) hx hb dX6_kinds_11 rfl hl (by decide) rfl (fun ls hl => ?_)
    refine lv_iconst (v := 0) hx hb dX6_kinds_12 (by decide) ?_
    refine lv_istore_n (lv' := [(3, .int (0 : Int32)), (2, .int (0 : Int32)), (0, .ref (E.ad 0 0)), (1, .int a1)]) hx hb dX6_kinds_13 rfl hl (by decide) rfl (fun ls hl => ?_)
    exact hL14 FUEL X a1 (0 : Int32) (0 : Int32) _ _ _ hf hP hS (lv_sub hl [2, 3, 1, 0] rfl)
  · have hf := if_t c2 hf
    refine lv_iconst (v := -1) hx hb dX6_kinds_8 (by decide) ?_
    exact fin dX6_kinds_9 (s1 hf) (s2 hf) hP hS
/-! X6_isTasteAsSeen -/
abbrev rm_X6_isTasteAsSeen : Room := { frames := 5, cells := 0, slots := 0, locals := 107 }
set_option maxHeartbeats 4000000 in
set_option maxRecDepth 100000 in
theorem K_X6_isTasteAsSeen (l : Launch) {E : En} (hE : Inj E) (X : Wd) (a1 : Int32) (a2 : Int32) {r : Int32} {X' : Wd} (hf : f_X6_isTasteAsSeen X a1 a2 = some (r, X')) : Cti l E yX6_isTasteAsSeen wsX6_isTasteAsSeen rm_X6_isTasteAsSeen [.ref (E.ad 0 0), .int a1, .int a2] X r X' := by
  refine meet_z (cc := cX6_isTasteAsSeen) (maxL := 3) (own := RX6) (by decide) rfl rfl (Nat.le_of_ble_eq_true rfl) ?_
  intro p e s m below meth c Z S hB fin hP hS ls hl
  have hx := S.1
  have hb := S.2.1
  have hl : lv_has ls 3 [(0, .ref (E.ad 0 0)), (1, .int a1), (2, .int a2)] := hl
  have hinX1 : ∀ w ∈ u_ws RX1 TX1 12, w ∈ wsX6_isTasteAsSeen := by decide +kernel
  have hinX6 : ∀ w ∈ u_ws RX6 TX6 12, w ∈ wsX6_isTasteAsSeen := by decide +kernel
  have fl19 := S.2.2.2.2 (.fieldLink RX6 19 "MownMaze" "maze" "LMownMaze$Maze;") (by decide +kernel)
  have fl23 := S.2.2.2.2 (.fieldLink RX6 23 "MownMaze" "trial" "LMownMaze$Maze;") (by decide +kernel)
  have fl49 := S.2.2.2.2 (.fieldLink RX6 49 "MownMaze" "seen" "LMownMaze$Seen;") (by decide +kernel)
  have fl308 := S.2.2.2.2 (.fieldLink RX6 308 "MownMaze$Maze" "taste" "[I") (by decide +kernel)
  unfold f_X6_isTasteAsSeen at hf
  refine lv_aload_n hx hb dX6_isTasteAsSeen_0 rfl (lv_at hl 0 rfl) ?_
  refine g_get (v := .ref (E.ad 5 0)) S hB hinX6 hP m_0_0 rfl rfl 2 (by decide) fl23 rfl rfl dX6_isTasteAsSeen_1 ?_
  refine lv_aload_n hx hb dX6_isTasteAsSeen_4 rfl (lv_at hl 0 rfl) ?_
  refine g_get (v := .ref (E.ad 4 0)) S hB hinX6 hP m_0_0 rfl rfl 1 (by decide) fl19 rfl rfl dX6_isTasteAsSeen_5 ?_
  obtain ⟨q1, hq1, hf⟩ := bind_some hf
  refine callV_v (As := [.ref (E.ad 4 0)]) (rest := []) S hB hP hS (C := RX1) (b := E.ad 5 0) (g_recv (o := 5) (d := 0) hB hP m_5_0 rfl rfl) (KW_X1_become l hE X (by decide) (by decide) (by decide) (by decide) (by decide) hq1) (cwV 1 S.2.2.2.2 gX6_isTasteAsSeen_X1_become rfl rfl rfl (by decide +kernel) ⟨Nat.le_of_ble_eq_true rfl, Nat.le_of_ble_eq_true rfl⟩) rfl hl.1 rfl (Nat.le_of_ble_eq_true rfl) dX6_isTasteAsSeen_8 ⟨Nat.zero_le _, Nat.zero_le _⟩ (fun H locs hP hS => ?_)
  refine lv_aload_n hx hb dX6_isTasteAsSeen_11 rfl (lv_at hl 0 rfl) ?_
  refine g_get (v := .ref (E.ad 5 0)) S hB hinX6 hP m_0_0 rfl rfl 2 (by decide) fl23 rfl rfl dX6_isTasteAsSeen_12 ?_
  refine g_get (v := .ref (E.ad 5 2)) S hB hinX1 hP m_5_0 rfl rfl 6 (by decide) fl308 rfl rfl dX6_isTasteAsSeen_15 ?_
  refine lv_iload_n hx hb dX6_isTasteAsSeen_18 rfl (lv_at hl 1 rfl) ?_
  refine lv_iload_n hx hb dX6_isTasteAsSeen_19 rfl (lv_at hl 2 rfl) ?_
  obtain ⟨hv2, hf⟩ := ck_some hf
  refine g_iast (r := (va_up X 5 q1) 5 2) S hB hE hP hS m_5_2 rfl rfl (fun _ => rfl) hv2 (X' := (wo (va_up X 5 q1) 5 2 a1.toNatClampNeg a2)) rfl dX6_isTasteAsSeen_20 (fun H locs hP hS => ?_)
  refine lv_aload_n hx hb dX6_isTasteAsSeen_21 rfl (lv_at hl 0 rfl) ?_
  refine g_get (v := .ref (E.ad 2 0)) S hB hinX6 hP m_0_0 rfl rfl 8 (by decide) fl49 rfl rfl dX6_isTasteAsSeen_22 ?_
  refine lv_aload_n hx hb dX6_isTasteAsSeen_25 rfl (lv_at hl 0 rfl) ?_
  refine g_get (v := .ref (E.ad 5 0)) S hB hinX6 hP m_0_0 rfl rfl 2 (by decide) fl23 rfl rfl dX6_isTasteAsSeen_26 ?_
  obtain ⟨q3, hq3, hf⟩ := bind_some hf
  refine callV_i (As := [.ref (E.ad 5 0)]) (rest := []) S hB hP hS (C := RX4) (b := E.ad 2 0) (g_recv (o := 2) (d := 0) hB hP m_2_0 rfl rfl) (KW_X4_fits l hE (wo (va_up X 5 q1) 5 2 a1.toNatClampNeg a2) hq3) (cwV 1 S.2.2.2.2 gX6_isTasteAsSeen_X4_fits rfl rfl rfl (by decide +kernel) ⟨Nat.le_of_ble_eq_true rfl, Nat.le_of_ble_eq_true rfl⟩) rfl hl.1 rfl (Nat.le_of_ble_eq_true rfl) dX6_isTasteAsSeen_29 ⟨Nat.zero_le _, Nat.zero_le _⟩ (fun H locs hP hS => ?_)
  obtain ⟨hv4, hf⟩ := ckb_some hf
  exact fin dX6_isTasteAsSeen_32 (nz01 hv4) (s1 hf) (s2 hf) hP hS
/-! X6_tastes -/
abbrev rm_X6_tastes : Room := { frames := 6, cells := 0, slots := 0, locals := 129 }
set_option maxHeartbeats 4000000 in
set_option maxRecDepth 100000 in
theorem K_X6_tastes (l : Launch) {E : En} (hE : Inj E) (X : Wd) (a1 : Int32) {r : Int32} {X' : Wd} (hf : f_X6_tastes X a1 = some (r, X')) : Cti l E yX6_tastes wsX6_tastes rm_X6_tastes [.ref (E.ad 0 0), .int a1] X r X' := by
  refine meet_i (cc := cX6_tastes) (maxL := 4) (own := RX6) (by decide) rfl rfl (Nat.le_of_ble_eq_true rfl) ?_
  intro p e s m below meth c Z S hB fin hP hS ls hl
  have hx := S.1
  have hb := S.2.1
  have hl : lv_has ls 4 [(0, .ref (E.ad 0 0)), (1, .int a1)] := hl
  have hL14 : ∀ (n14 : Nat) (X : Wd) (x1 : Int32) (x2 : Int32) (x3 : Int32) (H : Heap) (locs : List Loc) (ls : Array Slot), f_X6_tastes_l14 n14 X x1 x2 x3 = some (r, X') → va_P E.1 vwCl (GW E X) H → va_S (GA E) s.heap H locs → lv_has ls 4 [(0, .ref (E.ad 0 0)), (1, .int x1), (2, .int x2), (3, .int x3)] → W p l e rm_X6_tastes s m ([.ref (E.ad 0 0), .int a1] : List Value).toArray below meth c H locs 0 0 Z (F0 m 14 ls []) := by
    intro n14
    induction n14 with
    | zero =>
      intro X x1 x2 x3 H locs ls hf
      cases (show (none : Option _) = some _ from hf)
    | succ n14 ih14 =>
      have hB35 : ∀ (X : Wd) (x1 : Int32) (x2 : Int32) (x3 : Int32) (H : Heap) (locs : List Loc) (ls : Array Slot), f_X6_tastes_b35 (f_X6_tastes_l14 n14) X x1 x2 x3 = some (r, X') → va_P E.1 vwCl (GW E X) H → va_S (GA E) s.heap H locs → lv_has ls 4 [(0, .ref (E.ad 0 0)), (1, .int x1), (2, .int x2), (3, .int x3)] → W p l e rm_X6_tastes s m ([.ref (E.ad 0 0), .int a1] : List Value).toArray below meth c H locs 0 0 Z (F0 m 35 ls []) := by
        intro X x1 x2 x3 H locs ls hf hP hS hl
        unfold f_X6_tastes_b35 at hf
        refine lv_iinc (v := x3 + (1 : Int32)) (lv' := [(3, .int (x3 + (1 : Int32))), (0, .ref (E.ad 0 0)), (1, .int x1), (2, .int x2)]) hx hb dX6_tastes_35 hl (k := 3) rfl rfl (by decide) rfl (fun ls hl => ?_)
        refine lv_goto (tgt := 14) hx hb dX6_tastes_38 (by decide) ?_
        exact ih14 X x1 x2 (x3 + (1 : Int32)) _ _ _ hf hP hS (lv_sub hl [1, 2, 3, 0] rfl)
      intro X x1 x2 x3 H locs ls hf hP hS hl
      unfold f_X6_tastes_l14 at hf
      refine lv_iload_n hx hb dX6_tastes_14 rfl (lv_at hl 3 rfl) ?_
      refine lv_bipush (v := 24) hx hb dX6_tastes_15 (by decide) ?_
      refine lv_icmp_ge (tgt := 41) hx hb dX6_tastes_17 (by decide) (fun c3 => ?_) (fun c3 => ?_)
      · have hf := if_t c3 hf
        refine lv_iload_n hx hb dX6_tastes_41 rfl (lv_at hl 2 rfl) ?_
        exact fin dX6_tastes_42 (s1 hf) (s2 hf) hP hS
      · have hf := if_f c3 hf
        refine lv_aload_n hx hb dX6_tastes_20 rfl (lv_at hl 0 rfl) ?_
        refine lv_iload_n hx hb dX6_tastes_21 rfl (lv_at hl 1 rfl) ?_
        refine lv_iload_n hx hb dX6_tastes_22 rfl (lv_at hl 3 rfl) ?_
        obtain ⟨q4, hq4, hf⟩ := bind_some hf
        refine callV_i (As := [.int x1, .int x3]) (rest := []) S hB hP hS (C := RX6) (b := E.ad 0 0) (g_recv (o := 0) (d := 0) hB hP m_0_0 rfl rfl) (K_X6_isTasteAsSeen l hE X x1 x3 hq4) (cwV 2 S.2.2.2.2 gX6_tastes_X6_isTasteAsSeen rfl rfl rfl (by decide +kernel) ⟨Nat.le_of_ble_eq_true rfl, Nat.le_of_ble_eq_true rfl⟩) rfl hl.1 rfl (Nat.le_of_ble_eq_true rfl) dX6_tastes_23 ⟨Nat.zero_le _, Nat.zero_le _⟩ (fun H locs hP hS => ?_)
        refine lv_if_eq (tgt := 35) hx hb dX6_tastes_26 (by decide) (fun c5 => ?_) (fun c5 => ?_)
        · have hf := if_t c5 hf
          exact hB35 q4.2 x1 x2 x3 _ _ _ hf hP hS (lv_sub hl [0, 1, 2, 3] rfl)
        · have hf := if_f c5 hf
          refine lv_iload_n hx hb dX6_tastes_29 rfl (lv_at hl 2 rfl) ?_
          refine lv_iconst (v := 1) hx hb dX6_tastes_30 (by decide) ?_
          refine lv_iload_n hx hb dX6_tastes_31 rfl (lv_at hl 3 rfl) ?_
          refine lv_ishl hx hb dX6_tastes_32 ?_
          refine lv_ior hx hb dX6_tastes_33 ?_
          refine lv_istore_n (lv' := [(2, .int (x2 ||| ((1 : Int32) <<< (x3 &&& 31)))), (0, .ref (E.ad 0 0)), (1, .int x1), (3, .int x3)]) hx hb dX6_tastes_34 rfl hl (by decide) rfl (fun ls hl => ?_)
          exact hB35 q4.2 x1 (x2 ||| ((1 : Int32) <<< (x3 &&& 31))) x3 _ _ _ hf hP hS (lv_sub hl [1, 2, 0, 3] rfl)
  unfold f_X6_tastes at hf
  refine lv_aload_n hx hb dX6_tastes_0 rfl (lv_at hl 0 rfl) ?_
  refine lv_iload_n hx hb dX6_tastes_1 rfl (lv_at hl 1 rfl) ?_
  obtain ⟨q1, hq1, hf⟩ := bind_some hf
  refine callV_i (As := [.int a1]) (rest := []) S hB hP hS (C := RX6) (b := E.ad 0 0) (g_recv (o := 0) (d := 0) hB hP m_0_0 rfl rfl) (K_X6_isGardener l hE X a1 hq1) (cwV 1 S.2.2.2.2 gX6_tastes_X6_isGardener rfl rfl rfl (by decide +kernel) ⟨Nat.le_of_ble_eq_true rfl, Nat.le_of_ble_eq_true rfl⟩) rfl hl.1 rfl (Nat.le_of_ble_eq_true rfl) dX6_tastes_2 ⟨Nat.zero_le _, Nat.zero_le _⟩ (fun H locs hP hS => ?_)
  refine lv_if_ne (tgt := 10) hx hb dX6_tastes_5 (by decide) (fun c2 => ?_) (fun c2 => ?_)
  · have hf := if_f c2 hf
    refine lv_iconst (v := 0) hx hb dX6_tastes_10 (by decide) ?_
    refine lv_istore_n (lv' := [(2, .int (0 : Int32)), (0, .ref (E.ad 0 0)), (1, .int a1)]) hx hb dX6_tastes_11 rfl hl (by decide) rfl (fun ls hl => ?_)
    refine lv_iconst (v := 0) hx hb dX6_tastes_12 (by decide) ?_
    refine lv_istore_n (lv' := [(3, .int (0 : Int32)), (2, .int (0 : Int32)), (0, .ref (E.ad 0 0)), (1, .int a1)]) hx hb dX6_tastes_13 rfl hl (by decide) rfl (fun ls hl => ?_)
    exact hL14 FUEL X a1 (0 : Int32) (0 : Int32) _ _ _ hf hP hS (lv_sub hl [2, 3, 1, 0] rfl)
  · have hf := if_t c2 hf
    refine lv_iconst (v := -1) hx hb dX6_tastes_8 (by decide) ?_
    exact fin dX6_tastes_9 (s1 hf) (s2 hf) hP hS
/-! X6_ask -/
abbrev rm_X6_ask : Room := { frames := 6, cells := 0, slots := 0, locals := 129 }
set_option maxHeartbeats 4000000 in
set_option maxRecDepth 100000 in
theorem K_X6_ask (l : Launch) {E : En} (hE : Inj E) (X : Wd) (a1 : Int32) (a2 : Int32) {r : Int32} {X' : Wd} (hf : f_X6_ask X a1 a2 = some (r, X')) : Cti l E yX6_ask wsX6_ask rm_X6_ask [.ref (E.ad 0 0), .int a1, .int a2] X r X' := by
  refine meet_i (cc := cX6_ask) (maxL := 10) (own := RX6) (by decide) rfl rfl (Nat.le_of_ble_eq_true rfl) ?_
  intro p e s m below meth c Z S hB fin hP hS ls hl
  have hx := S.1
  have hb := S.2.1
  have hl : lv_has ls 10 [(0, .ref (E.ad 0 0)), (1, .int a1), (2, .int a2)] := hl
  have hinX4 : ∀ w ∈ u_ws RX4 TX4 6, w ∈ wsX6_ask := by decide +kernel
  have hinX6 : ∀ w ∈ u_ws RX6 TX6 12, w ∈ wsX6_ask := by decide +kernel
  have fl49 := S.2.2.2.2 (.fieldLink RX6 49 "MownMaze" "seen" "LMownMaze$Seen;") (by decide +kernel)
  have fl260 := S.2.2.2.2 (.fieldLink RX6 260 "MownMaze$Seen" "votes" "[I") (by decide +kernel)
  have hB162 : ∀ (X : Wd) (x5 : Int32) (H : Heap) (locs : List Loc) (ls : Array Slot), f_X6_ask_b162 X x5 = some (r, X') → va_P E.1 vwCl (GW E X) H → va_S (GA E) s.heap H locs → lv_has ls 10 [(5, .int x5)] → W p l e rm_X6_ask s m ([.ref (E.ad 0 0), .int a1, .int a2] : List Value).toArray below meth c H locs 0 0 Z (F0 m 162 ls []) := by
    intro X x5 H locs ls hf hP hS hl
    unfold f_X6_ask_b162 at hf
    refine lv_iload hx hb dX6_ask_162 (lv_at hl 0 rfl) ?_
    refine lv_goto (tgt := 169) hx hb dX6_ask_164 (by decide) ?_
    exact fin dX6_ask_169 (s1 hf) (s2 hf) hP hS
  have hL72 : ∀ (n72 : Nat) (X : Wd) (x2 : Int32) (x3 : Int32) (x4 : Int32) (x5 : Int32) (x6 : Int32) (H : Heap) (locs : List Loc) (ls : Array Slot), f_X6_ask_l72 n72 X x2 x3 x4 x5 x6 = some (r, X') → va_P E.1 vwCl (GW E X) H → va_S (GA E) s.heap H locs → lv_has ls 10 [(0, .ref (E.ad 0 0)), (2, .int x2), (3, .int x3), (4, .int x4), (5, .int x5), (6, .int x6)] → W p l e rm_X6_ask s m ([.ref (E.ad 0 0), .int a1, .int a2] : List Value).toArray below meth c H locs 0 0 Z (F0 m 72 ls []) := by
    intro n72
    induction n72 with
    | zero =>
      intro X x2 x3 x4 x5 x6 H locs ls hf
      cases (show (none : Option _) = some _ from hf)
    | succ n72 ih72 =>
      have hL82 : ∀ (n82 : Nat) (X : Wd) (x2 : Int32) (x3 : Int32) (x4 : Int32) (x5 : Int32) (x6 : Int32) (x7 : Int32) (H : Heap) (locs : List Loc) (ls : Array Slot), f_X6_ask_l82 (f_X6_ask_l72 n72) n82 X x2 x3 x4 x5 x6 x7 = some (r, X') → va_P E.1 vwCl (GW E X) H → va_S (GA E) s.heap H locs → lv_has ls 10 [(0, .ref (E.ad 0 0)), (2, .int x2), (3, .int x3), (4, .int x4), (5, .int x5), (6, .int x6), (7, .int x7)] → W p l e rm_X6_ask s m ([.ref (E.ad 0 0), .int a1, .int a2] : List Value).toArray below meth c H locs 0 0 Z (F0 m 82 ls []) := by
        intro n82
        induction n82 with
        | zero =>
          intro X x2 x3 x4 x5 x6 x7 H locs ls hf
          cases (show (none : Option _) = some _ from hf)
        | succ n82 ih82 =>
          have hB139 : ∀ (X : Wd) (x2 : Int32) (x3 : Int32) (x4 : Int32) (x5 : Int32) (x6 : Int32) (x7 : Int32) (H : Heap) (locs : List Loc) (ls : Array Slot), f_X6_ask_b139 (f_X6_ask_l72 n72) (f_X6_ask_l82 (f_X6_ask_l72 n72) n82) X x2 x3 x4 x5 x6 x7 = some (r, X') → va_P E.1 vwCl (GW E X) H → va_S (GA E) s.heap H locs → lv_has ls 10 [(0, .ref (E.ad 0 0)), (2, .int x2), (3, .int x3), (4, .int x4), (5, .int x5), (6, .int x6), (7, .int x7)] → W p l e rm_X6_ask s m ([.ref (E.ad 0 0), .int a1, .int a2] : List Value).toArray below meth c H locs 0 0 Z (F0 m 139 ls []) := by
            intro X x2 x3 x4 x5 x6 x7 H locs ls hf hP hS hl
            unfold f_X6_ask_b139 at hf
            refine lv_iinc (v := x7 + (1 : Int32)) (lv' := [(7, .int (x7 + (1 : Int32))), (0, .ref (E.ad 0 0)), (2, .int x2), (3, .int x3), (4, .int x4), (5, .int x5), (6, .int x6)]) hx hb dX6_ask_139 hl (k := 6) rfl rfl (by decide) rfl (fun ls hl => ?_)
            refine lv_goto (tgt := 82) hx hb dX6_ask_142 (by decide) ?_
            exact ih82 X x2 x3 x4 x5 x6 (x7 + (1 : Int32)) _ _ _ hf hP hS (lv_sub hl [1, 2, 3, 4, 5, 6, 0] rfl)
          intro X x2 x3 x4 x5 x6 x7 H locs ls hf hP hS hl
          unfold f_X6_ask_l82 at hf
          refine lv_iload hx hb dX6_ask_82 (lv_at hl 6 rfl) ?_
          refine lv_bipush (v := 24) hx hb dX6_ask_84 (by decide) ?_
          refine lv_icmp_ge (tgt := 145) hx hb dX6_ask_86 (by decide) (fun c6 => ?_) (fun c6 => ?_)
          · have hf := if_t c6 hf
            refine lv_iinc (v := x6 + (1 : Int32)) (lv' := [(6, .int (x6 + (1 : Int32))), (0, .ref (E.ad 0 0)), (2, .int x2), (3, .int x3), (4, .int x4), (5, .int x5), (7, .int x7)]) hx hb dX6_ask_145 hl (k := 5) rfl rfl (by decide) rfl (fun ls hl => ?_)
            refine lv_goto (tgt := 72) hx hb dX6_ask_148 (by decide) ?_
            exact ih72 X x2 x3 x4 x5 (x6 + (1 : Int32)) _ _ _ hf hP hS (lv_sub hl [1, 2, 3, 4, 5, 0] rfl)
          · have hf := if_f c6 hf
            refine lv_aload_n hx hb dX6_ask_89 rfl (lv_at hl 0 rfl) ?_
            refine g_get (v := .ref (E.ad 2 0)) S hB hinX6 hP m_0_0 rfl rfl 8 (by decide) fl49 rfl rfl dX6_ask_90 ?_
            refine g_get (v := .ref (E.ad 2 5)) S hB hinX4 hP m_2_0 rfl rfl 5 (by decide) fl260 rfl rfl dX6_ask_93 ?_
            refine lv_iload hx hb dX6_ask_96 (lv_at hl 5 rfl) ?_
            refine lv_bipush (v := 24) hx hb dX6_ask_98 (by decide) ?_
            refine lv_imul hx hb dX6_ask_100 ?_
            refine lv_iload hx hb dX6_ask_101 (lv_at hl 6 rfl) ?_
            refine lv_iadd hx hb dX6_ask_103 ?_
            obtain ⟨hv7, hf⟩ := ck_some hf
            refine g_iald (r := X 2 5) S hB hP m_2_5 rfl hv7 dX6_ask_104 ?_
            refine W.eq (g2 := F0 m 105 ls [.int ((X 2) 5 (((x6 * (24 : Int32)) + x7).toNatClampNeg))]) rfl ?_
            refine lv_istore (lv' := [(8, .int ((X 2) 5 (((x6 * (24 : Int32)) + x7).toNatClampNeg))), (0, .ref (E.ad 0 0)), (2, .int x2), (3, .int x3), (4, .int x4), (5, .int x5), (6, .int x6), (7, .int x7)]) hx hb dX6_ask_105 hl (by decide) rfl (fun ls hl => ?_)
            refine lv_iload hx hb dX6_ask_107 (lv_at hl 0 rfl) ?_
            refine lv_iload_n hx hb dX6_ask_109 rfl (lv_at hl 3 rfl) ?_
            refine lv_iload hx hb dX6_ask_110 (lv_at hl 0 rfl) ?_
            refine lv_isub hx hb dX6_ask_112 ?_
            refine va_mmax hx hb (S.2.2.1.trans hl.1.symm) S.2.2.2.1 (S.2.2.2.2 (.methodLink RX6 263 Lib.Math.max.name) (by decide +kernel)) (S.2.2.2.2 (.static Lib.Math.max.name) (by decide +kernel)) (S.2.2.2.2 (.initialized "java/lang/Math") (by decide +kernel)) (S.2.2.2.2 (.code Lib.Math.max.name Lib.Math.max.code 2 (some .int)) (by decide +kernel)) (Nat.le_of_ble_eq_true rfl) (Nat.le_of_ble_eq_true rfl) (Nat.zero_le _) (Nat.zero_le _) dX6_ask_113 ?_
            refine lv_istore (lv' := [(9, .int (if ((X 2) 5 (((x6 * (24 : Int32)) + x7).toNatClampNeg)) < (x3 - ((X 2) 5 (((x6 * (24 : Int32)) + x7).toNatClampNeg))) then (x3 - ((X 2) 5 (((x6 * (24 : Int32)) + x7).toNatClampNeg))) else ((X 2) 5 (((x6 * (24 : Int32)) + x7).toNatClampNeg)))), (8, .int ((X 2) 5 (((x6 * (24 : Int32)) + x7).toNatClampNeg))), (0, .ref (E.ad 0 0)), (2, .int x2), (3, .int x3), (4, .int x4), (5, .int x5), (6, .int x6), (7, .int x7)]) hx hb dX6_ask_116 hl (by decide) rfl (fun ls hl => ?_)
            refine lv_iload hx hb dX6_ask_118 (lv_at hl 0 rfl) ?_
            refine lv_iload hx hb dX6_ask_120 (lv_at hl 5 rfl) ?_
            refine lv_icmp_ge (tgt := 139) hx hb dX6_ask_122 (by decide) (fun c8 => ?_) (fun c8 => ?_)
            · have hf := if_t c8 hf
              exact hB139 X x2 x3 x4 x5 x6 x7 _ _ _ hf hP hS (lv_sub hl [2, 3, 4, 5, 6, 7, 8] rfl)
            · have hf := if_f c8 hf
              refine lv_iload hx hb dX6_ask_125 (lv_at hl 0 rfl) ?_
              refine lv_istore (lv' := [(4, .int (if ((X 2) 5 (((x6 * (24 : Int32)) + x7).toNatClampNeg)) < (x3 - ((X 2) 5 (((x6 * (24 : Int32)) + x7).toNatClampNeg))) then (x3 - ((X 2) 5 (((x6 * (24 : Int32)) + x7).toNatClampNeg))) else ((X 2) 5 (((x6 * (24 : Int32)) + x7).toNatClampNeg)))), (9, .int (if ((X 2) 5 (((x6 * (24 : Int32)) + x7).toNatClampNeg)) < (x3 - ((X 2) 5 (((x6 * (24 : Int32)) + x7).toNatClampNeg))) then (x3 - ((X 2) 5 (((x6 * (24 : Int32)) + x7).toNatClampNeg))) else ((X 2) 5 (((x6 * (24 : Int32)) + x7).toNatClampNeg)))), (8, .int ((X 2) 5 (((x6 * (24 : Int32)) + x7).toNatClampNeg))), (0, .ref (E.ad 0 0)), (2, .int x2), (3, .int x3), (5, .int x5), (6, .int x6), (7, .int x7)]) hx hb dX6_ask_127 hl (by decide) rfl (fun ls hl => ?_)
              refine lv_bipush (v := 100) hx hb dX6_ask_129 (by decide) ?_
              refine lv_iload hx hb dX6_ask_131 (lv_at hl 7 rfl) ?_
              refine lv_imul hx hb dX6_ask_133 ?_
              refine lv_iload hx hb dX6_ask_134 (lv_at hl 8 rfl) ?_
              refine lv_iadd hx hb dX6_ask_136 ?_
              refine lv_istore (lv' := [(5, .int (((100 : Int32) * x6) + x7)), (4, .int (if ((X 2) 5 (((x6 * (24 : Int32)) + x7).toNatClampNeg)) < (x3 - ((X 2) 5 (((x6 * (24 : Int32)) + x7).toNatClampNeg))) then (x3 - ((X 2) 5 (((x6 * (24 : Int32)) + x7).toNatClampNeg))) else ((X 2) 5 (((x6 * (24 : Int32)) + x7).toNatClampNeg)))), (9, .int (if ((X 2) 5 (((x6 * (24 : Int32)) + x7).toNatClampNeg)) < (x3 - ((X 2) 5 (((x6 * (24 : Int32)) + x7).toNatClampNeg))) then (x3 - ((X 2) 5 (((x6 * (24 : Int32)) + x7).toNatClampNeg))) else ((X 2) 5 (((x6 * (24 : Int32)) + x7).toNatClampNeg)))), (8, .int ((X 2) 5 (((x6 * (24 : Int32)) + x7).toNatClampNeg))), (0, .ref (E.ad 0 0)), (2, .int x2), (3, .int x3), (6, .int x6), (7, .int x7)]) hx hb dX6_ask_137 hl (by decide) rfl (fun ls hl => ?_)
              exact hB139 X x2 x3 (if ((X 2) 5 (((x6 * (24 : Int32)) + x7).toNatClampNeg)) < (x3 - ((X 2) 5 (((x6 * (24 : Int32)) + x7).toNatClampNeg))) then (x3 - ((X 2) 5 (((x6 * (24 : Int32)) + x7).toNatClampNeg))) else ((X 2) 5 (((x6 * (24 : Int32)) + x7).toNatClampNeg))) (((100 : Int32) * x6) + x7) x6 x7 _ _ _ hf hP hS (lv_sub hl [4, 5, 6, 1, 0, 7, 8] rfl)
      intro X x2 x3 x4 x5 x6 H locs ls hf hP hS hl
      unfold f_X6_ask_l72 at hf
      refine lv_iload hx hb dX6_ask_72 (lv_at hl 5 rfl) ?_
      refine lv_bipush (v := 20) hx hb dX6_ask_74 (by decide) ?_
      refine lv_icmp_gt (tgt := 151) hx hb dX6_ask_76 (by decide) (fun c9 => ?_) (fun c9 => ?_)
      · have hf := if_t c9 hf
        refine lv_iload hx hb dX6_ask_151 (lv_at hl 4 rfl) ?_
        refine lv_bipush (v := -4) hx hb dX6_ask_153 (by decide) ?_
        refine lv_icmp_eq (tgt := 162) hx hb dX6_ask_155 (by decide) (fun c10 => ?_) (fun c10 => ?_)
        · have hf := if_t c10 hf
          exact hB162 X x5 _ _ _ hf hP hS (lv_sub hl [4] rfl)
        · have hf := if_f c10 hf
          refine lv_iload_n hx hb dX6_ask_158 rfl (lv_at hl 1 rfl) ?_
          refine lv_if_ne (tgt := 167) hx hb dX6_ask_159 (by decide) (fun c11 => ?_) (fun c11 => ?_)
          · have hf := if_f c11 hf
            refine lv_iload hx hb dX6_ask_167 (lv_at hl 3 rfl) ?_
            exact fin dX6_ask_169 (s1 hf) (s2 hf) hP hS
          · have hf := if_t c11 hf
            exact hB162 X x5 _ _ _ hf hP hS (lv_sub hl [4] rfl)
      · have hf := if_f c9 hf
        refine lv_iconst (v := 0) hx hb dX6_ask_79 (by decide) ?_
        refine lv_istore (lv' := [(7, .int (0 : Int32)), (0, .ref (E.ad 0 0)), (2, .int x2), (3, .int x3), (4, .int x4), (5, .int x5), (6, .int x6)]) hx hb dX6_ask_80 hl (by decide) rfl (fun ls hl => ?_)
        exact hL82 FUEL X x2 x3 x4 x5 x6 (0 : Int32) _ _ _ hf hP hS (lv_sub hl [1, 2, 3, 4, 5, 6, 0] rfl)
  have hL29 : ∀ (n29 : Nat) (X : Wd) (x1 : Int32) (x2 : Int32) (x3 : Int32) (x4 : Int32) (H : Heap) (locs : List Loc) (ls : Array Slot), f_X6_ask_l29 n29 X x1 x2 x3 x4 = some (r, X') → va_P E.1 vwCl (GW E X) H → va_S (GA E) s.heap H locs → lv_has ls 10 [(0, .ref (E.ad 0 0)), (1, .int x1), (2, .int x2), (3, .int x3), (4, .int x4)] → W p l e rm_X6_ask s m ([.ref (E.ad 0 0), .int a1, .int a2] : List Value).toArray below meth c H locs 0 0 Z (F0 m 29 ls []) := by
    intro n29
    induction n29 with
    | zero =>
      intro X x1 x2 x3 x4 H locs ls hf
      cases (show (none : Option _) = some _ from hf)
    | succ n29 ih29 =>
      have hB56 : ∀ (X : Wd) (x1 : Int32) (x2 : Int32) (x3 : Int32) (x4 : Int32) (H : Heap) (locs : List Loc) (ls : Array Slot), f_X6_ask_b56 (f_X6_ask_l29 n29) X x1 x2 x3 x4 = some (r, X') → va_P E.1 vwCl (GW E X) H → va_S (GA E) s.heap H locs → lv_has ls 10 [(0, .ref (E.ad 0 0)), (1, .int x1), (2, .int x2), (3, .int x3), (4, .int x4)] → W p l e rm_X6_ask s m ([.ref (E.ad 0 0), .int a1, .int a2] : List Value).toArray below meth c H locs 0 0 Z (F0 m 56 ls []) := by
        intro X x1 x2 x3 x4 H locs ls hf hP hS hl
        unfold f_X6_ask_b56 at hf
        refine lv_iinc (v := x4 + (1 : Int32)) (lv' := [(4, .int (x4 + (1 : Int32))), (0, .ref (E.ad 0 0)), (1, .int x1), (2, .int x2), (3, .int x3)]) hx hb dX6_ask_56 hl (k := 4) rfl rfl (by decide) rfl (fun ls hl => ?_)
        refine lv_goto (tgt := 29) hx hb dX6_ask_59 (by decide) ?_
        exact ih29 X x1 x2 x3 (x4 + (1 : Int32)) _ _ _ hf hP hS (lv_sub hl [1, 2, 3, 4, 0] rfl)
      intro X x1 x2 x3 x4 H locs ls hf hP hS hl
      unfold f_X6_ask_l29 at hf
      refine lv_iload hx hb dX6_ask_29 (lv_at hl 4 rfl) ?_
      refine lv_bipush (v := 24) hx hb dX6_ask_31 (by decide) ?_
      refine lv_icmp_ge (tgt := 62) hx hb dX6_ask_33 (by decide) (fun c12 => ?_) (fun c12 => ?_)
      · have hf := if_t c12 hf
        refine lv_iload_n hx hb dX6_ask_62 rfl (lv_at hl 3 rfl) ?_
        refine lv_istore (lv' := [(4, .int x3), (0, .ref (E.ad 0 0)), (1, .int x1), (2, .int x2), (3, .int x3)]) hx hb dX6_ask_63 hl (by decide) rfl (fun ls hl => ?_)
        refine lv_bipush (v := -4) hx hb dX6_ask_65 (by decide) ?_
        refine lv_istore (lv' := [(5, .int (-4 : Int32)), (4, .int x3), (0, .ref (E.ad 0 0)), (1, .int x1), (2, .int x2), (3, .int x3)]) hx hb dX6_ask_67 hl (by decide) rfl (fun ls hl => ?_)
        refine lv_iconst (v := 0) hx hb dX6_ask_69 (by decide) ?_
        refine lv_istore (lv' := [(6, .int (0 : Int32)), (5, .int (-4 : Int32)), (4, .int x3), (0, .ref (E.ad 0 0)), (1, .int x1), (2, .int x2), (3, .int x3)]) hx hb dX6_ask_70 hl (by decide) rfl (fun ls hl => ?_)
        exact hL72 FUEL X x2 x3 x3 (-4 : Int32) (0 : Int32) _ _ _ hf hP hS (lv_sub hl [3, 5, 6, 2, 1, 0] rfl)
      · have hf := if_f c12 hf
        refine lv_aload_n hx hb dX6_ask_36 rfl (lv_at hl 0 rfl) ?_
        refine lv_iload_n hx hb dX6_ask_37 rfl (lv_at hl 1 rfl) ?_
        refine lv_iload hx hb dX6_ask_38 (lv_at hl 4 rfl) ?_
        obtain ⟨q13, hq13, hf⟩ := bind_some hf
        refine callV_i (As := [.int x1, .int x4]) (rest := []) S hB hP hS (C := RX6) (b := E.ad 0 0) (g_recv (o := 0) (d := 0) hB hP m_0_0 rfl rfl) (K_X6_isTasteAsSeen l hE X x1 x4 hq13) (cwV 2 S.2.2.2.2 gX6_ask_X6_isTasteAsSeen rfl rfl rfl (by decide +kernel) ⟨Nat.le_of_ble_eq_true rfl, Nat.le_of_ble_eq_true rfl⟩) rfl hl.1 rfl (Nat.le_of_ble_eq_true rfl) dX6_ask_40 ⟨Nat.zero_le _, Nat.zero_le _⟩ (fun H locs hP hS => ?_)
        refine lv_if_eq (tgt := 56) hx hb dX6_ask_43 (by decide) (fun c14 => ?_) (fun c14 => ?_)
        · have hf := if_t c14 hf
          exact hB56 q13.2 x1 x2 x3 x4 _ _ _ hf hP hS (lv_sub hl [0, 1, 2, 3, 4] rfl)
        · have hf := if_f c14 hf
          refine lv_aload_n hx hb dX6_ask_46 rfl (lv_at hl 0 rfl) ?_
          refine g_get (v := .ref (E.ad 2 0)) S hB hinX6 hP m_0_0 rfl rfl 8 (by decide) fl49 rfl rfl dX6_ask_47 ?_
          obtain ⟨q15, hq15, hf⟩ := bind_some hf
          refine callV_v (As := []) (rest := []) S hB hP hS (C := RX4) (b := E.ad 2 0) (g_recv (o := 2) (d := 0) hB hP m_2_0 rfl rfl) (KW_X4_vote l hE q13.2 hq15) (cwV 0 S.2.2.2.2 gX6_ask_X4_vote rfl rfl rfl (by decide +kernel) ⟨Nat.le_of_ble_eq_true rfl, Nat.le_of_ble_eq_true rfl⟩) rfl hl.1 rfl (Nat.le_of_ble_eq_true rfl) dX6_ask_50 ⟨Nat.zero_le _, Nat.zero_le _⟩ (fun H locs hP hS => ?_)
          refine lv_iinc (v := x3 + (1 : Int32)) (lv' := [(3, .int (x3 + (1 : Int32))), (0, .ref (E.ad 0 0)), (1, .int x1), (2, .int x2), (4, .int x4)]) hx hb dX6_ask_53 hl (k := 3) rfl rfl (by decide) rfl (fun ls hl => ?_)
          exact hB56 (va_up q13.2 2 q15) x1 x2 (x3 + (1 : Int32)) x4 _ _ _ hf hP hS (lv_sub hl [1, 2, 3, 0, 4] rfl)
  unfold f_X6_ask at hf
  refine lv_aload_n hx hb dX6_ask_0 rfl (lv_at hl 0 rfl) ?_
  refine lv_iload_n hx hb dX6_ask_1 rfl (lv_at hl 1 rfl) ?_
  obtain ⟨q1, hq1, hf⟩ := bind_some hf
  refine callV_i (As := [.int a1]) (rest := []) S hB hP hS (C := RX6) (b := E.ad 0 0) (g_recv (o := 0) (d := 0) hB hP m_0_0 rfl rfl) (K_X6_isGardener l hE X a1 hq1) (cwV 1 S.2.2.2.2 gX6_ask_X6_isGardener rfl rfl rfl (by decide +kernel) ⟨Nat.le_of_ble_eq_true rfl, Nat.le_of_ble_eq_true rfl⟩) rfl hl.1 rfl (Nat.le_of_ble_eq_true rfl) dX6_ask_2 ⟨Nat.zero_le _, Nat.zero_le _⟩ (fun H locs hP hS => ?_)
  refine lv_if_eq (tgt := 15) hx hb dX6_ask_5 (by decide) (fun c2 => ?_) (fun c2 => ?_)
  · have hf := if_t c2 hf
    refine lv_iconst (v := -1) hx hb dX6_ask_15 (by decide) ?_
    exact fin dX6_ask_16 (s1 hf) (s2 hf) hP hS
  · have hf := if_f c2 hf
    refine lv_iload_n hx hb dX6_ask_8 rfl (lv_at hl 2 rfl) ?_
    obtain ⟨q3, hq3, hf⟩ := bind_some hf
    refine callS_i (As := [.int a2]) (rest := []) S hB hP hS (K_X6_isBit l hE X a2 hq3) (va_cwS 1 S.2.2.2.2 gX6_ask_X6_isBit rfl rfl rfl (by decide +kernel) ⟨Nat.le_of_ble_eq_true rfl, Nat.le_of_ble_eq_true rfl⟩) rfl hl.1 rfl (Nat.le_of_ble_eq_true rfl) dX6_ask_9 ⟨Nat.zero_le _, Nat.zero_le _⟩ (fun H locs hP hS => ?_)
    refine lv_if_ne (tgt := 17) hx hb dX6_ask_12 (by decide) (fun c4 => ?_) (fun c4 => ?_)
    · have hf := if_f c4 hf
      refine lv_aload_n hx hb dX6_ask_17 rfl (lv_at hl 0 rfl) ?_
      refine g_get (v := .ref (E.ad 2 0)) S hB hinX6 hP m_0_0 rfl rfl 8 (by decide) fl49 rfl rfl dX6_ask_18 ?_
      obtain ⟨q5, hq5, hf⟩ := bind_some hf
      refine callV_v (As := []) (rest := []) S hB hP hS (C := RX4) (b := E.ad 2 0) (g_recv (o := 2) (d := 0) hB hP m_2_0 rfl rfl) (KW_X4_clearVotes l hE X hq5) (cwV 0 S.2.2.2.2 gX6_ask_X4_clearVotes rfl rfl rfl (by decide +kernel) ⟨Nat.le_of_ble_eq_true rfl, Nat.le_of_ble_eq_true rfl⟩) rfl hl.1 rfl (Nat.le_of_ble_eq_true rfl) dX6_ask_21 ⟨Nat.zero_le _, Nat.zero_le _⟩ (fun H locs hP hS => ?_)
      refine lv_iconst (v := 0) hx hb dX6_ask_24 (by decide) ?_
      refine lv_istore_n (lv' := [(3, .int (0 : Int32)), (0, .ref (E.ad 0 0)), (1, .int a1), (2, .int a2)]) hx hb dX6_ask_25 rfl hl (by decide) rfl (fun ls hl => ?_)
      refine lv_iconst (v := 0) hx hb dX6_ask_26 (by decide) ?_
      refine lv_istore (lv' := [(4, .int (0 : Int32)), (3, .int (0 : Int32)), (0, .ref (E.ad 0 0)), (1, .int a1), (2, .int a2)]) hx hb dX6_ask_27 hl (by decide) rfl (fun ls hl => ?_)
      exact hL29 FUEL (va_up X 2 q5) a1 a2 (0 : Int32) (0 : Int32) _ _ _ hf hP hS (lv_sub hl [2, 3, 4, 1, 0] rfl)
    · have hf := if_t c4 hf
      refine lv_iconst (v := -1) hx hb dX6_ask_15 (by decide) ?_
      exact fin dX6_ask_16 (s1 hf) (s2 hf) hP hS
/-! X6_drift -/
abbrev rm_X6_drift : Room := { frames := 4, cells := 0, slots := 0, locals := 93 }
set_option maxHeartbeats 4000000 in
set_option maxRecDepth 100000 in
theorem K_X6_drift (l : Launch) {E : En} (hE : Inj E) (X : Wd) (a1 : Int32) (a2 : Int32) (a3 : Int32) {r : Int32} {X' : Wd} (hf : f_X6_drift X a1 a2 a3 = some (r, X')) : Cti l E yX6_drift wsX6_drift rm_X6_drift [.ref (E.ad 0 0), .int a1, .int a2, .int a3] X r X' := by
  refine meet_i (cc := cX6_drift) (maxL := 7) (own := RX6) (by decide) rfl rfl (Nat.le_of_ble_eq_true rfl) ?_
  intro p e s m below meth c Z S hB fin hP hS ls hl
  have hx := S.1
  have hb := S.2.1
  have hl : lv_has ls 7 [(0, .ref (E.ad 0 0)), (1, .int a1), (2, .int a2), (3, .int a3)] := hl
  have hinX1 : ∀ w ∈ u_ws RX1 TX1 12, w ∈ wsX6_drift := by decide +kernel
  have hinX6 : ∀ w ∈ u_ws RX6 TX6 12, w ∈ wsX6_drift := by decide +kernel
  have fl19 := S.2.2.2.2 (.fieldLink RX6 19 "MownMaze" "maze" "LMownMaze$Maze;") (by decide +kernel)
  have fl23 := S.2.2.2.2 (.fieldLink RX6 23 "MownMaze" "trial" "LMownMaze$Maze;") (by decide +kernel)
  have fl96 := S.2.2.2.2 (.fieldLink RX6 96 "MownMaze$Maze" "guests" "I") (by decide +kernel)
  have fl105 := S.2.2.2.2 (.fieldLink RX6 105 "MownMaze$Maze" "hedges" "I") (by decide +kernel)
  have hL50 : ∀ (n50 : Nat) (X : Wd) (x2 : Int32) (x3 : Int32) (x4 : Int32) (x5 : Int32) (H : Heap) (locs : List Loc) (ls : Array Slot), f_X6_drift_l50 n50 X x2 x3 x4 x5 = some (r, X') → va_P E.1 vwCl (GW E X) H → va_S (GA E) s.heap H locs → lv_has ls 7 [(0, .ref (E.ad 0 0)), (2, .int x2), (3, .int x3), (4, .int x4), (5, .int x5)] → W p l e rm_X6_drift s m ([.ref (E.ad 0 0), .int a1, .int a2, .int a3] : List Value).toArray below meth c H locs 0 0 Z (F0 m 50 ls []) := by
    intro n50
    induction n50 with
    | zero =>
      intro X x2 x3 x4 x5 H locs ls hf
      cases (show (none : Option _) = some _ from hf)
    | succ n50 ih50 =>
      intro X x2 x3 x4 x5 H locs ls hf hP hS hl
      unfold f_X6_drift_l50 at hf
      refine lv_iload hx hb dX6_drift_50 (lv_at hl 4 rfl) ?_
      refine lv_iload_n hx hb dX6_drift_52 rfl (lv_at hl 1 rfl) ?_
      refine lv_icmp_ge (tgt := 115) hx hb dX6_drift_53 (by decide) (fun c7 => ?_) (fun c7 => ?_)
      · have hf := if_t c7 hf
        refine lv_iload_n hx hb dX6_drift_115 rfl (lv_at hl 2 rfl) ?_
        refine lv_if_ne (tgt := 129) hx hb dX6_drift_116 (by decide) (fun c8 => ?_) (fun c8 => ?_)
        · have hf := if_f c8 hf
          refine lv_aload_n hx hb dX6_drift_129 rfl (lv_at hl 0 rfl) ?_
          refine g_get (v := .ref (E.ad 5 0)) S hB hinX6 hP m_0_0 rfl rfl 2 (by decide) fl23 rfl rfl dX6_drift_130 ?_
          refine g_get (v := .int ((X 5) 0 0)) S hB hinX1 hP m_5_0 rfl rfl 0 (by decide) fl105 rfl rfl dX6_drift_133 ?_
          obtain ⟨q9, hq9, hf⟩ := bind_some hf
          refine callS_i (As := [.int ((X 5) 0 0)]) (rest := []) S hB hP hS (K_J6_bitCount_0f7a4 l hE X ((X 5) 0 0) hq9) (va_cwS 1 S.2.2.2.2 gX6_drift_J6_bitCount_0f7a4 rfl rfl rfl (by decide +kernel) ⟨Nat.le_of_ble_eq_true rfl, Nat.le_of_ble_eq_true rfl⟩) rfl hl.1 rfl (Nat.le_of_ble_eq_true rfl) dX6_drift_136 ⟨Nat.zero_le _, Nat.zero_le _⟩ (fun H locs hP hS => ?_)
          exact fin dX6_drift_139 (s1 hf) (s2 hf) hP hS
        · have hf := if_t c8 hf
          refine lv_aload_n hx hb dX6_drift_119 rfl (lv_at hl 0 rfl) ?_
          refine g_get (v := .ref (E.ad 5 0)) S hB hinX6 hP m_0_0 rfl rfl 2 (by decide) fl23 rfl rfl dX6_drift_120 ?_
          obtain ⟨q10, hq10, hf⟩ := bind_some hf
          refine callV_i (As := []) (rest := []) S hB hP hS (C := RX1) (b := E.ad 5 0) (g_recv (o := 5) (d := 0) hB hP m_5_0 rfl rfl) (KW_X1_outs l hE X (by decide) (by decide) hq10) (cwV 0 S.2.2.2.2 gX6_drift_X1_outs rfl rfl rfl (by decide +kernel) ⟨Nat.le_of_ble_eq_true rfl, Nat.le_of_ble_eq_true rfl⟩) rfl hl.1 rfl (Nat.le_of_ble_eq_true rfl) dX6_drift_123 ⟨Nat.zero_le _, Nat.zero_le _⟩ (fun H locs hP hS => ?_)
          refine lv_goto (tgt := 139) hx hb dX6_drift_126 (by decide) ?_
          exact fin dX6_drift_139 (s1 hf) (s2 hf) hP hS
      · have hf := if_f c7 hf
        refine lv_iload hx hb dX6_drift_56 (lv_at hl 3 rfl) ?_
        refine lv_ldcw hx hb S.2.2.2.1 (S.2.2.2.2 (.constant RX6 268 (1103515245)) (by decide +kernel)) dX6_drift_58 ?_
        refine lv_imul hx hb dX6_drift_61 ?_
        refine lv_sipush (v := 12345) hx hb dX6_drift_62 (by decide) ?_
        refine lv_iadd hx hb dX6_drift_65 ?_
        refine lv_istore (lv' := [(4, .int ((x4 * (1103515245 : Int32)) + (12345 : Int32))), (0, .ref (E.ad 0 0)), (2, .int x2), (3, .int x3), (5, .int x5)]) hx hb dX6_drift_66 hl (by decide) rfl (fun ls hl => ?_)
        refine lv_iload hx hb dX6_drift_68 (lv_at hl 0 rfl) ?_
        refine lv_bipush (v := 16) hx hb dX6_drift_70 (by decide) ?_
        refine lv_iushr hx hb dX6_drift_72 (v := (((x4 * (1103515245 : Int32)) + (12345 : Int32)).toUInt32 >>> ((16 : Int32).toUInt32 &&& Int32.toUInt32 31)).toInt32) rfl ?_
        refine lv_sipush (v := 32767) hx hb dX6_drift_73 (by decide) ?_
        refine lv_iand hx hb dX6_drift_76 ?_
        refine lv_istore (lv' := [(6, .int (((((x4 * (1103515245 : Int32)) + (12345 : Int32)).toUInt32 >>> ((16 : Int32).toUInt32 &&& Int32.toUInt32 31)).toInt32) &&& (32767 : Int32))), (4, .int ((x4 * (1103515245 : Int32)) + (12345 : Int32))), (0, .ref (E.ad 0 0)), (2, .int x2), (3, .int x3), (5, .int x5)]) hx hb dX6_drift_77 hl (by decide) rfl (fun ls hl => ?_)
        refine lv_aload_n hx hb dX6_drift_79 rfl (lv_at hl 2 rfl) ?_
        refine g_get (v := .ref (E.ad 5 0)) S hB hinX6 hP m_0_0 rfl rfl 2 (by decide) fl23 rfl rfl dX6_drift_80 ?_
        refine lv_aload_n hx hb dX6_drift_83 rfl (lv_at hl 2 rfl) ?_
        refine g_get (v := .ref (E.ad 5 0)) S hB hinX6 hP m_0_0 rfl rfl 2 (by decide) fl23 rfl rfl dX6_drift_84 ?_
        refine g_get (v := .int ((X 5) 0 0)) S hB hinX1 hP m_5_0 rfl rfl 0 (by decide) fl105 rfl rfl dX6_drift_87 ?_
        refine lv_iload hx hb dX6_drift_90 (lv_at hl 0 rfl) ?_
        refine lv_bipush (v := 24) hx hb dX6_drift_92 (by decide) ?_
        refine lv_irem hx hb dX6_drift_94 (by decide) ?_
        obtain ⟨q11, hq11, hf⟩ := bind_some hf
        refine callS_i (As := [.int ((X 5) 0 0), .int ((((((x4 * (1103515245 : Int32)) + (12345 : Int32)).toUInt32 >>> ((16 : Int32).toUInt32 &&& Int32.toUInt32 31)).toInt32) &&& (32767 : Int32)) - (((((x4 * (1103515245 : Int32)) + (12345 : Int32)).toUInt32 >>> ((16 : Int32).toUInt32 &&& Int32.toUInt32 31)).toInt32) &&& (32767 : Int32)) / (24 : Int32) * (24 : Int32))]) (rest := [.ref (E.ad 5 0)]) S hB hP hS (K_X2_changed l hE X ((X 5) 0 0) ((((((x4 * (1103515245 : Int32)) + (12345 : Int32)).toUInt32 >>> ((16 : Int32).toUInt32 &&& Int32.toUInt32 31)).toInt32) &&& (32767 : Int32)) - (((((x4 * (1103515245 : Int32)) + (12345 : Int32)).toUInt32 >>> ((16 : Int32).toUInt32 &&& Int32.toUInt32 31)).toInt32) &&& (32767 : Int32)) / (24 : Int32) * (24 : Int32)) hq11) (va_cwS 2 S.2.2.2.2 gX6_drift_X2_changed rfl rfl rfl (by decide +kernel) ⟨Nat.le_of_ble_eq_true rfl, Nat.le_of_ble_eq_true rfl⟩) rfl hl.1 rfl (Nat.le_of_ble_eq_true rfl) dX6_drift_95 ⟨Nat.zero_le _, Nat.zero_le _⟩ (fun H locs hP hS => ?_)
        refine g_put S hB hE hinX1 tyX1 tyX1_ok nmX1 hP hS m_5_0 rfl rfl 0 (by decide) fl105 rfl rfl rfl rfl (Nat.le_of_ble_eq_true rfl) (by exact (fun _ => rfl) _) (X' := (wo X 5 0 0 q11)) rfl dX6_drift_98 (fun H locs hP hS => ?_)
        refine lv_aload_n hx hb dX6_drift_101 rfl (lv_at hl 2 rfl) ?_
        refine g_get (v := .ref (E.ad 5 0)) S hB hinX6 hP m_0_0 rfl rfl 2 (by decide) fl23 rfl rfl dX6_drift_102 ?_
        refine lv_iconst (v := 1) hx hb dX6_drift_105 (by decide) ?_
        obtain ⟨q12, hq12, hf⟩ := bind_some hf
        refine callV_v (As := [.int (1 : Int32)]) (rest := []) S hB hP hS (C := RX1) (b := E.ad 5 0) (g_recv (o := 5) (d := 0) hB hP m_5_0 rfl rfl) (KW_X1_passDays l hE (wo X 5 0 0 q11) (by decide) (by decide) (1 : Int32) hq12) (cwV 1 S.2.2.2.2 gX6_drift_X1_passDays rfl rfl rfl (by decide +kernel) ⟨Nat.le_of_ble_eq_true rfl, Nat.le_of_ble_eq_true rfl⟩) rfl hl.1 rfl (Nat.le_of_ble_eq_true rfl) dX6_drift_106 ⟨Nat.zero_le _, Nat.zero_le _⟩ (fun H locs hP hS => ?_)
        refine lv_iinc (v := x5 + (1 : Int32)) (lv' := [(5, .int (x5 + (1 : Int32))), (6, .int (((((x4 * (1103515245 : Int32)) + (12345 : Int32)).toUInt32 >>> ((16 : Int32).toUInt32 &&& Int32.toUInt32 31)).toInt32) &&& (32767 : Int32))), (4, .int ((x4 * (1103515245 : Int32)) + (12345 : Int32))), (0, .ref (E.ad 0 0)), (2, .int x2), (3, .int x3)]) hx hb dX6_drift_109 hl (k := 5) rfl rfl (by decide) rfl (fun ls hl => ?_)
        refine lv_goto (tgt := 50) hx hb dX6_drift_112 (by decide) ?_
        exact ih50 (va_up (wo X 5 0 0 q11) 5 q12) x2 x3 ((x4 * (1103515245 : Int32)) + (12345 : Int32)) (x5 + (1 : Int32)) _ _ _ hf hP hS (lv_sub hl [3, 4, 5, 2, 0] rfl)
  unfold f_X6_drift at hf
  refine lv_iload_n hx hb dX6_drift_0 rfl (lv_at hl 2 rfl) ?_
  refine lv_iconst (v := 1) hx hb dX6_drift_1 (by decide) ?_
  refine lv_icmp_lt (tgt := 18) hx hb dX6_drift_2 (by decide) (fun c1 => ?_) (fun c1 => ?_)
  · have hf := if_t c1 hf
    refine lv_iconst (v := -1) hx hb dX6_drift_18 (by decide) ?_
    exact fin dX6_drift_19 (s1 hf) (s2 hf) hP hS
  · have hf := if_f c1 hf
    refine lv_iload_n hx hb dX6_drift_5 rfl (lv_at hl 2 rfl) ?_
    refine lv_bipush (v := 60) hx hb dX6_drift_6 (by decide) ?_
    refine lv_icmp_gt (tgt := 18) hx hb dX6_drift_8 (by decide) (fun c2 => ?_) (fun c2 => ?_)
    · have hf := if_t c2 hf
      refine lv_iconst (v := -1) hx hb dX6_drift_18 (by decide) ?_
      exact fin dX6_drift_19 (s1 hf) (s2 hf) hP hS
    · have hf := if_f c2 hf
      refine lv_iload_n hx hb dX6_drift_11 rfl (lv_at hl 3 rfl) ?_
      obtain ⟨q3, hq3, hf⟩ := bind_some hf
      refine callS_i (As := [.int a3]) (rest := []) S hB hP hS (K_X6_isBit l hE X a3 hq3) (va_cwS 1 S.2.2.2.2 gX6_drift_X6_isBit rfl rfl rfl (by decide +kernel) ⟨Nat.le_of_ble_eq_true rfl, Nat.le_of_ble_eq_true rfl⟩) rfl hl.1 rfl (Nat.le_of_ble_eq_true rfl) dX6_drift_12 ⟨Nat.zero_le _, Nat.zero_le _⟩ (fun H locs hP hS => ?_)
      refine lv_if_ne (tgt := 20) hx hb dX6_drift_15 (by decide) (fun c4 => ?_) (fun c4 => ?_)
      · have hf := if_f c4 hf
        refine lv_aload_n hx hb dX6_drift_20 rfl (lv_at hl 0 rfl) ?_
        refine g_get (v := .ref (E.ad 4 0)) S hB hinX6 hP m_0_0 rfl rfl 1 (by decide) fl19 rfl rfl dX6_drift_21 ?_
        refine g_get (v := .int ((X 4) 0 8)) S hB hinX1 hP m_4_0 rfl rfl 8 (by decide) fl96 rfl rfl dX6_drift_24 ?_
        refine lv_if_ne (tgt := 33) hx hb dX6_drift_27 (by decide) (fun c5 => ?_) (fun c5 => ?_)
        · have hf := if_f c5 hf
          refine lv_aload_n hx hb dX6_drift_33 rfl (lv_at hl 0 rfl) ?_
          refine g_get (v := .ref (E.ad 5 0)) S hB hinX6 hP m_0_0 rfl rfl 2 (by decide) fl23 rfl rfl dX6_drift_34 ?_
          refine lv_aload_n hx hb dX6_drift_37 rfl (lv_at hl 0 rfl) ?_
          refine g_get (v := .ref (E.ad 4 0)) S hB hinX6 hP m_0_0 rfl rfl 1 (by decide) fl19 rfl rfl dX6_drift_38 ?_
          obtain ⟨q6, hq6, hf⟩ := bind_some hf
          refine callV_v (As := [.ref (E.ad 4 0)]) (rest := []) S hB hP hS (C := RX1) (b := E.ad 5 0) (g_recv (o := 5) (d := 0) hB hP m_5_0 rfl rfl) (KW_X1_become l hE X (by decide) (by decide) (by decide) (by decide) (by decide) hq6) (cwV 1 S.2.2.2.2 gX6_drift_X1_become rfl rfl rfl (by decide +kernel) ⟨Nat.le_of_ble_eq_true rfl, Nat.le_of_ble_eq_true rfl⟩) rfl hl.1 rfl (Nat.le_of_ble_eq_true rfl) dX6_drift_41 ⟨Nat.zero_le _, Nat.zero_le _⟩ (fun H locs hP hS => ?_)
          refine lv_iload_n hx hb dX6_drift_44 rfl (lv_at hl 1 rfl) ?_
          refine lv_istore (lv' := [(4, .int a1), (0, .ref (E.ad 0 0)), (1, .int a1), (2, .int a2), (3, .int a3)]) hx hb dX6_drift_45 hl (by decide) rfl (fun ls hl => ?_)
          refine lv_iconst (v := 0) hx hb dX6_drift_47 (by decide) ?_
          refine lv_istore (lv' := [(5, .int (0 : Int32)), (4, .int a1), (0, .ref (E.ad 0 0)), (1, .int a1), (2, .int a2), (3, .int a3)]) hx hb dX6_drift_48 hl (by decide) rfl (fun ls hl => ?_)
          exact hL50 FUEL (va_up X 5 q6) a2 a3 a1 (0 : Int32) _ _ _ hf hP hS (lv_sub hl [2, 4, 5, 1, 0] rfl)
        · have hf := if_t c5 hf
          refine lv_bipush (v := -2) hx hb dX6_drift_30 (by decide) ?_
          exact fin dX6_drift_32 (s1 hf) (s2 hf) hP hS
      · have hf := if_t c4 hf
        refine lv_iconst (v := -1) hx hb dX6_drift_18 (by decide) ?_
        exact fin dX6_drift_19 (s1 hf) (s2 hf) hP hS
/-! X6_isImage -/
abbrev rm_X6_isImage : Room := { frames := 0, cells := 0, slots := 0, locals := 0 }
set_option maxHeartbeats 4000000 in
set_option maxRecDepth 100000 in
theorem K_X6_isImage (l : Launch) {E : En} (hE : Inj E) (X : Wd) (a0 : Int32) {r : Int32} (hf : f_X6_isImage a0 = some r) : Cti l E yX6_isImage wsX6_isImage rm_X6_isImage [.int a0] X r X := by
  refine meet_z (cc := cX6_isImage) (maxL := 1) (own := RX6) (by decide) rfl rfl (Nat.le_of_ble_eq_true rfl) ?_
  intro p e s m below meth c Z S hB fin hP hS ls hl
  have hx := S.1
  have hb := S.2.1
  have hl : lv_has ls 1 [(0, .int a0)] := hl
  unfold f_X6_isImage at hf
  refine lv_iload_n hx hb dX6_isImage_0 rfl (lv_at hl 0 rfl) ?_
  refine lv_if_lt (tgt := 13) hx hb dX6_isImage_1 (by decide) (fun c1 => ?_) (fun c1 => ?_)
  · have hf := if_t c1 hf
    refine lv_iconst (v := 0) hx hb dX6_isImage_13 (by decide) ?_
    exact fin dX6_isImage_14 (nz01 (by decide)) (s0 hf) rfl hP hS
  · have hf := if_f c1 hf
    refine lv_iload_n hx hb dX6_isImage_4 rfl (lv_at hl 0 rfl) ?_
    refine lv_iconst (v := 2) hx hb dX6_isImage_5 (by decide) ?_
    refine lv_icmp_ge (tgt := 13) hx hb dX6_isImage_6 (by decide) (fun c2 => ?_) (fun c2 => ?_)
    · have hf := if_t c2 hf
      refine lv_iconst (v := 0) hx hb dX6_isImage_13 (by decide) ?_
      exact fin dX6_isImage_14 (nz01 (by decide)) (s0 hf) rfl hP hS
    · have hf := if_f c2 hf
      refine lv_iconst (v := 1) hx hb dX6_isImage_9 (by decide) ?_
      refine lv_goto (tgt := 14) hx hb dX6_isImage_10 (by decide) ?_
      exact fin dX6_isImage_14 (nz01 (by decide)) (s0 hf) rfl hP hS
