/-! X7_cutsOn -/
abbrev rm_X7_cutsOn : Room := { frames := 1, cells := 0, slots := 0, locals := 24 }
set_option maxHeartbeats 4000000 in
set_option maxRecDepth 100000 in
theorem K_X7_cutsOn (l : Launch) {E : En} (hE : Inj E) (σ : Wd) (z : Ob) (a1 : Int32) (a2 : Int32) {z' : Ob} (hf : f_X7_cutsOn z a1 a2 = some z') : Ctv l E yX7_cutsOn wsX7_cutsOn rm_X7_cutsOn [.ref (E.ad 22 0), .int a1, .int a2] (va_up σ 22 z)  (va_up σ 22 z') := by
  refine meet_v (cc := cX7_cutsOn) (maxL := 5) (own := RX7) (by decide) rfl rfl (Nat.le_of_ble_eq_true rfl) ?_
  intro p e s m below meth c Z S hB fin hP hS ls hl
  have hx := S.1
  have hb := S.2.1
  have hl : lv_has ls 5 [(0, .ref (E.ad 22 0)), (1, .int a1), (2, .int a2)] := hl
  have hinX7 : ∀ w ∈ u_ws RX7 TX7 25, w ∈ wsX7_cutsOn := by decide +kernel
  have fl7 := S.2.2.2.2 (.fieldLink RX7 7 "MownMazeModel" "state" "[I") (by decide +kernel)
  have hB57 : ∀ (z : Ob) (x1 : Int32) (x2 : Int32) (x4 : Int32) (y0 : Int32) (y1 : Int32) (H : Heap) (locs : List Loc) (ls : Array Slot), f_X7_cutsOn_b57 z x1 x2 x4 y0 y1 = some z' → va_P E.1 vwCl (GW E (va_up σ 22 z)) H → va_S (GA E) s.heap H locs → lv_has ls 5 [(0, .ref (E.ad 22 0)), (1, .int x1), (2, .int x2), (4, .int x4)] → W p l e rm_X7_cutsOn s m ([.ref (E.ad 22 0), .int a1, .int a2] : List Value).toArray below meth c H locs 0 0 Z (F0 m 57 ls [.int y0, .int y1, .ref (E.ad 22 1)]) := by
    intro z x1 x2 x4 y0 y1 H locs ls hf hP hS hl
    unfold f_X7_cutsOn_b57 at hf
    obtain ⟨hv6, hf⟩ := ck_some hf
    refine g_iast (r := z 1) S hB hE hP hS m_22_1 rfl rfl (fun _ => rfl) hv6 (X' := (va_up σ 22 (ob z 1 y1.toNatClampNeg y0))) (lens_put σ 22 _ _ _ _) dX7_cutsOn_57 (fun H locs hP hS => ?_)
    refine lv_aload_n hx hb dX7_cutsOn_58 rfl (lv_at hl 0 rfl) ?_
    refine g_get (v := .ref (E.ad 22 1)) S hB hinX7 hP m_22_0 rfl rfl 0 (by decide) fl7 rfl rfl dX7_cutsOn_59 ?_
    refine lv_iload_n hx hb dX7_cutsOn_62 rfl (lv_at hl 1 rfl) ?_
    refine lv_bipush (v := 38) hx hb dX7_cutsOn_63 (by decide) ?_
    refine lv_iadd hx hb dX7_cutsOn_65 ?_
    refine lv_iload hx hb dX7_cutsOn_66 (lv_at hl 3 rfl) ?_
    refine lv_iconst (v := 1) hx hb dX7_cutsOn_68 (by decide) ?_
    refine lv_iadd hx hb dX7_cutsOn_69 ?_
    obtain ⟨hv7, hf⟩ := ck_some hf
    refine g_iast (r := (ob z 1 y1.toNatClampNeg y0) 1) S hB hE hP hS m_22_1 rfl rfl (fun _ => rfl) hv7 (X' := (va_up σ 22 (ob (ob z 1 y1.toNatClampNeg y0) 1 ((x1 + (38 : Int32)).toNatClampNeg) (x4 + (1 : Int32))))) (lens_put σ 22 _ _ _ _) dX7_cutsOn_70 (fun H locs hP hS => ?_)
    refine lv_aload_n hx hb dX7_cutsOn_71 rfl (lv_at hl 0 rfl) ?_
    refine g_get (v := .ref (E.ad 22 1)) S hB hinX7 hP m_22_0 rfl rfl 0 (by decide) fl7 rfl rfl dX7_cutsOn_72 ?_
    refine lv_iload_n hx hb dX7_cutsOn_75 rfl (lv_at hl 1 rfl) ?_
    refine lv_bipush (v := 29) hx hb dX7_cutsOn_76 (by decide) ?_
    refine lv_iadd hx hb dX7_cutsOn_78 ?_
    refine lv_iload_n hx hb dX7_cutsOn_79 rfl (lv_at hl 2 rfl) ?_
    refine lv_iadd hx hb dX7_cutsOn_80 ?_
    refine lv_aload_n hx hb dX7_cutsOn_81 rfl (lv_at hl 0 rfl) ?_
    refine g_get (v := .ref (E.ad 22 1)) S hB hinX7 hP m_22_0 rfl rfl 0 (by decide) fl7 rfl rfl dX7_cutsOn_82 ?_
    refine lv_iload_n hx hb dX7_cutsOn_85 rfl (lv_at hl 1 rfl) ?_
    refine lv_bipush (v := 29) hx hb dX7_cutsOn_86 (by decide) ?_
    refine lv_iadd hx hb dX7_cutsOn_88 ?_
    refine lv_iload_n hx hb dX7_cutsOn_89 rfl (lv_at hl 2 rfl) ?_
    refine lv_iadd hx hb dX7_cutsOn_90 ?_
    obtain ⟨hv8, hf⟩ := ck_some hf
    refine g_iald (r := (ob (ob z 1 y1.toNatClampNeg y0) 1 ((x1 + (38 : Int32)).toNatClampNeg) (x4 + (1 : Int32))) 1) S hB hP m_22_1 rfl hv8 dX7_cutsOn_91 ?_
    refine W.eq (g2 := F0 m 92 ls [.int ((ob (ob z 1 y1.toNatClampNeg y0) 1 ((x1 + (38 : Int32)).toNatClampNeg) (x4 + (1 : Int32))) 1 (((x1 + (29 : Int32)) + x2).toNatClampNeg)), .int ((x1 + (29 : Int32)) + x2), .ref (E.ad 22 1)]) rfl ?_
    refine lv_aload_n hx hb dX7_cutsOn_92 rfl (lv_at hl 0 rfl) ?_
    refine g_get (v := .ref (E.ad 22 1)) S hB hinX7 hP m_22_0 rfl rfl 0 (by decide) fl7 rfl rfl dX7_cutsOn_93 ?_
    refine lv_iload_n hx hb dX7_cutsOn_96 rfl (lv_at hl 1 rfl) ?_
    refine lv_bipush (v := 33) hx hb dX7_cutsOn_97 (by decide) ?_
    refine lv_iadd hx hb dX7_cutsOn_99 ?_
    refine lv_iload_n hx hb dX7_cutsOn_100 rfl (lv_at hl 2 rfl) ?_
    refine lv_iadd hx hb dX7_cutsOn_101 ?_
    obtain ⟨hv9, hf⟩ := ck_some hf
    refine g_iald (r := (ob (ob z 1 y1.toNatClampNeg y0) 1 ((x1 + (38 : Int32)).toNatClampNeg) (x4 + (1 : Int32))) 1) S hB hP m_22_1 rfl hv9 dX7_cutsOn_102 ?_
    refine W.eq (g2 := F0 m 103 ls [.int ((ob (ob z 1 y1.toNatClampNeg y0) 1 ((x1 + (38 : Int32)).toNatClampNeg) (x4 + (1 : Int32))) 1 (((x1 + (33 : Int32)) + x2).toNatClampNeg)), .int ((ob (ob z 1 y1.toNatClampNeg y0) 1 ((x1 + (38 : Int32)).toNatClampNeg) (x4 + (1 : Int32))) 1 (((x1 + (29 : Int32)) + x2).toNatClampNeg)), .int ((x1 + (29 : Int32)) + x2), .ref (E.ad 22 1)]) rfl ?_
    refine lv_iadd hx hb dX7_cutsOn_103 ?_
    refine lv_bipush (v := 24) hx hb dX7_cutsOn_104 (by decide) ?_
    refine lv_irem hx hb dX7_cutsOn_106 (by decide) ?_
    obtain ⟨hv10, hf⟩ := ck_some hf
    refine g_iast (r := (ob (ob z 1 y1.toNatClampNeg y0) 1 ((x1 + (38 : Int32)).toNatClampNeg) (x4 + (1 : Int32))) 1) S hB hE hP hS m_22_1 rfl rfl (fun _ => rfl) hv10 (X' := (va_up σ 22 (ob (ob (ob z 1 y1.toNatClampNeg y0) 1 ((x1 + (38 : Int32)).toNatClampNeg) (x4 + (1 : Int32))) 1 (((x1 + (29 : Int32)) + x2).toNatClampNeg) ((((ob (ob z 1 y1.toNatClampNeg y0) 1 ((x1 + (38 : Int32)).toNatClampNeg) (x4 + (1 : Int32))) 1 (((x1 + (29 : Int32)) + x2).toNatClampNeg)) + ((ob (ob z 1 y1.toNatClampNeg y0) 1 ((x1 + (38 : Int32)).toNatClampNeg) (x4 + (1 : Int32))) 1 (((x1 + (33 : Int32)) + x2).toNatClampNeg))) - (((ob (ob z 1 y1.toNatClampNeg y0) 1 ((x1 + (38 : Int32)).toNatClampNeg) (x4 + (1 : Int32))) 1 (((x1 + (29 : Int32)) + x2).toNatClampNeg)) + ((ob (ob z 1 y1.toNatClampNeg y0) 1 ((x1 + (38 : Int32)).toNatClampNeg) (x4 + (1 : Int32))) 1 (((x1 + (33 : Int32)) + x2).toNatClampNeg))) / (24 : Int32) * (24 : Int32))))) (lens_put σ 22 _ _ _ _) dX7_cutsOn_107 (fun H locs hP hS => ?_)
    exact fin dX7_cutsOn_108  (by rw [(s0 hf)]) hP hS
  unfold f_X7_cutsOn at hf
  refine lv_aload_n hx hb dX7_cutsOn_0 rfl (lv_at hl 0 rfl) ?_
  refine g_get (v := .ref (E.ad 22 1)) S hB hinX7 hP m_22_0 rfl rfl 0 (by decide) fl7 rfl rfl dX7_cutsOn_1 ?_
  refine lv_iload_n hx hb dX7_cutsOn_4 rfl (lv_at hl 1 rfl) ?_
  refine lv_bipush (v := 25) hx hb dX7_cutsOn_5 (by decide) ?_
  refine lv_iadd hx hb dX7_cutsOn_7 ?_
  refine lv_iload_n hx hb dX7_cutsOn_8 rfl (lv_at hl 2 rfl) ?_
  refine lv_iadd hx hb dX7_cutsOn_9 ?_
  obtain ⟨hv1, hf⟩ := ck_some hf
  refine g_iald (r := z 1) S hB hP m_22_1 rfl hv1 dX7_cutsOn_10 ?_
  refine W.eq (g2 := F0 m 11 ls [.int (z 1 (((a1 + (25 : Int32)) + a2).toNatClampNeg))]) rfl ?_
  refine lv_istore_n (lv' := [(3, .int (z 1 (((a1 + (25 : Int32)) + a2).toNatClampNeg))), (0, .ref (E.ad 22 0)), (1, .int a1), (2, .int a2)]) hx hb dX7_cutsOn_11 rfl hl (by decide) rfl (fun ls hl => ?_)
  refine lv_aload_n hx hb dX7_cutsOn_12 rfl (lv_at hl 1 rfl) ?_
  refine lv_iload_n hx hb dX7_cutsOn_13 rfl (lv_at hl 2 rfl) ?_
  refine lv_iload_n hx hb dX7_cutsOn_14 rfl (lv_at hl 3 rfl) ?_
  obtain ⟨q2, hq2, hf⟩ := bind_some hf
  refine callV_i (As := [.int a1, .int a2]) (rest := []) S hB hP hS (C := RX7) (b := E.ad 22 0) (g_recv (o := 22) (d := 0) hB hP m_22_0 rfl rfl) (K_X7_goalOn l hE σ z a1 a2 hq2) (cwV 2 S.2.2.2.2 gX7_cutsOn_X7_goalOn rfl rfl rfl (by decide +kernel) ⟨Nat.le_of_ble_eq_true rfl, Nat.le_of_ble_eq_true rfl⟩) rfl hl.1 rfl (Nat.le_of_ble_eq_true rfl) dX7_cutsOn_15 ⟨Nat.zero_le _, Nat.zero_le _⟩ (fun H locs hP hS => ?_)
  refine lv_istore (lv' := [(4, .int q2), (3, .int (z 1 (((a1 + (25 : Int32)) + a2).toNatClampNeg))), (0, .ref (E.ad 22 0)), (1, .int a1), (2, .int a2)]) hx hb dX7_cutsOn_18 hl (by decide) rfl (fun ls hl => ?_)
  refine lv_aload_n hx hb dX7_cutsOn_20 rfl (lv_at hl 2 rfl) ?_
  refine g_get (v := .ref (E.ad 22 1)) S hB hinX7 hP m_22_0 rfl rfl 0 (by decide) fl7 rfl rfl dX7_cutsOn_21 ?_
  refine lv_iload_n hx hb dX7_cutsOn_24 rfl (lv_at hl 3 rfl) ?_
  refine lv_iload hx hb dX7_cutsOn_25 (lv_at hl 0 rfl) ?_
  refine lv_iadd hx hb dX7_cutsOn_27 ?_
  refine lv_iload_n hx hb dX7_cutsOn_28 rfl (lv_at hl 1 rfl) ?_
  refine lv_iconst (v := 2) hx hb dX7_cutsOn_29 (by decide) ?_
  refine lv_icmp_ge (tgt := 47) hx hb dX7_cutsOn_30 (by decide) (fun c3 => ?_) (fun c3 => ?_)
  · have hf := if_t c3 hf
    refine lv_iload_n hx hb dX7_cutsOn_47 rfl (lv_at hl 1 rfl) ?_
    refine lv_iconst (v := 2) hx hb dX7_cutsOn_48 (by decide) ?_
    refine lv_icmp_ne (tgt := 56) hx hb dX7_cutsOn_49 (by decide) (fun c4 => ?_) (fun c4 => ?_)
    · have hf := if_f c4 hf
      refine lv_iconst (v := 0) hx hb dX7_cutsOn_56 (by decide) ?_
      exact hB57 z a1 a2 q2 (0 : Int32) (a1 + q2) _ _ _ hf hP hS (lv_sub hl [2, 3, 4, 0] rfl)
    · have hf := if_t c4 hf
      refine lv_iconst (v := 1) hx hb dX7_cutsOn_52 (by decide) ?_
      refine lv_goto (tgt := 57) hx hb dX7_cutsOn_53 (by decide) ?_
      exact hB57 z a1 a2 q2 (1 : Int32) (a1 + q2) _ _ _ hf hP hS (lv_sub hl [2, 3, 4, 0] rfl)
  · have hf := if_f c3 hf
    refine lv_iconst (v := 1) hx hb dX7_cutsOn_33 (by decide) ?_
    refine lv_aload_n hx hb dX7_cutsOn_34 rfl (lv_at hl 2 rfl) ?_
    refine g_get (v := .ref (E.ad 22 1)) S hB hinX7 hP m_22_0 rfl rfl 0 (by decide) fl7 rfl rfl dX7_cutsOn_35 ?_
    refine lv_iload_n hx hb dX7_cutsOn_38 rfl (lv_at hl 3 rfl) ?_
    refine lv_iload hx hb dX7_cutsOn_39 (lv_at hl 0 rfl) ?_
    refine lv_iadd hx hb dX7_cutsOn_41 ?_
    obtain ⟨hv5, hf⟩ := ck_some hf
    refine g_iald (r := z 1) S hB hP m_22_1 rfl hv5 dX7_cutsOn_42 ?_
    refine W.eq (g2 := F0 m 43 ls [.int (z 1 ((a1 + q2).toNatClampNeg)), .int (1 : Int32), .int (a1 + q2), .ref (E.ad 22 1)]) rfl ?_
    refine lv_isub hx hb dX7_cutsOn_43 ?_
    refine lv_goto (tgt := 57) hx hb dX7_cutsOn_44 (by decide) ?_
    exact hB57 z a1 a2 q2 ((1 : Int32) - (z 1 ((a1 + q2).toNatClampNeg))) (a1 + q2) _ _ _ hf hP hS (lv_sub hl [2, 3, 4, 0] rfl)
theorem KW_X7_cutsOn (l : Launch) {E : En} (hE : Inj E) (X : Wd) (a1 : Int32) (a2 : Int32) {z' : Ob} (hf : f_X7_cutsOn (X 22) a1 a2 = some z') : Ctv l E yX7_cutsOn wsX7_cutsOn rm_X7_cutsOn [.ref (E.ad 22 0), .int a1, .int a2] X  (va_up X 22 z') := by
  have h := K_X7_cutsOn l hE X (X 22) a1 a2 hf
  rw [lens_all] at h
  exact h
/-! X7_guestOn -/
abbrev rm_X7_guestOn : Room := { frames := 2, cells := 0, slots := 0, locals := 48 }
set_option maxHeartbeats 4000000 in
set_option maxRecDepth 100000 in
theorem K_X7_guestOn (l : Launch) {E : En} (hE : Inj E) (σ : Wd) (z : Ob) (a1 : Int32) (a2 : Int32) {z' : Ob} (hf : f_X7_guestOn z a1 a2 = some z') : Ctv l E yX7_guestOn wsX7_guestOn rm_X7_guestOn [.ref (E.ad 22 0), .int a1, .int a2] (va_up σ 22 z)  (va_up σ 22 z') := by
  refine meet_v (cc := cX7_guestOn) (maxL := 3) (own := RX7) (by decide) rfl rfl (Nat.le_of_ble_eq_true rfl) ?_
  intro p e s m below meth c Z S hB fin hP hS ls hl
  have hx := S.1
  have hb := S.2.1
  have hl : lv_has ls 3 [(0, .ref (E.ad 22 0)), (1, .int a1), (2, .int a2)] := hl
  have hinX7 : ∀ w ∈ u_ws RX7 TX7 25, w ∈ wsX7_guestOn := by decide +kernel
  have fl7 := S.2.2.2.2 (.fieldLink RX7 7 "MownMazeModel" "state" "[I") (by decide +kernel)
  have hB107 : ∀ (z : Ob) (y0 : Int32) (y1 : Int32) (H : Heap) (locs : List Loc) (ls : Array Slot), f_X7_guestOn_b107 z y0 y1 = some z' → va_P E.1 vwCl (GW E (va_up σ 22 z)) H → va_S (GA E) s.heap H locs → lv_has ls 3 [] → W p l e rm_X7_guestOn s m ([.ref (E.ad 22 0), .int a1, .int a2] : List Value).toArray below meth c H locs 0 0 Z (F0 m 107 ls [.int y0, .int y1, .ref (E.ad 22 1)]) := by
    intro z y0 y1 H locs ls hf hP hS hl
    unfold f_X7_guestOn_b107 at hf
    obtain ⟨hv12, hf⟩ := ck_some hf
    refine g_iast (r := z 1) S hB hE hP hS m_22_1 rfl rfl (fun _ => rfl) hv12 (X' := (va_up σ 22 (ob z 1 y1.toNatClampNeg y0))) (lens_put σ 22 _ _ _ _) dX7_guestOn_107 (fun H locs hP hS => ?_)
    exact fin dX7_guestOn_108  (by rw [(s0 hf)]) hP hS
  unfold f_X7_guestOn at hf
  refine lv_aload_n hx hb dX7_guestOn_0 rfl (lv_at hl 0 rfl) ?_
  refine g_get (v := .ref (E.ad 22 1)) S hB hinX7 hP m_22_0 rfl rfl 0 (by decide) fl7 rfl rfl dX7_guestOn_1 ?_
  refine lv_iload_n hx hb dX7_guestOn_4 rfl (lv_at hl 1 rfl) ?_
  refine lv_bipush (v := 43) hx hb dX7_guestOn_5 (by decide) ?_
  refine lv_iadd hx hb dX7_guestOn_7 ?_
  refine lv_iload_n hx hb dX7_guestOn_8 rfl (lv_at hl 2 rfl) ?_
  refine lv_iadd hx hb dX7_guestOn_9 ?_
  obtain ⟨hv1, hf⟩ := ck_some hf
  refine g_iald (r := z 1) S hB hP m_22_1 rfl hv1 dX7_guestOn_10 ?_
  refine W.eq (g2 := F0 m 11 ls [.int (z 1 (((a1 + (43 : Int32)) + a2).toNatClampNeg))]) rfl ?_
  refine lv_if_ne (tgt := 27) hx hb dX7_guestOn_11 (by decide) (fun c2 => ?_) (fun c2 => ?_)
  · have hf := if_f c2 hf
    refine lv_aload_n hx hb dX7_guestOn_27 rfl (lv_at hl 0 rfl) ?_
    refine g_get (v := .ref (E.ad 22 1)) S hB hinX7 hP m_22_0 rfl rfl 0 (by decide) fl7 rfl rfl dX7_guestOn_28 ?_
    refine lv_iload_n hx hb dX7_guestOn_31 rfl (lv_at hl 1 rfl) ?_
    refine lv_bipush (v := 39) hx hb dX7_guestOn_32 (by decide) ?_
    refine lv_iadd hx hb dX7_guestOn_34 ?_
    refine lv_iload_n hx hb dX7_guestOn_35 rfl (lv_at hl 2 rfl) ?_
    refine lv_iadd hx hb dX7_guestOn_36 ?_
    refine lv_aload_n hx hb dX7_guestOn_37 rfl (lv_at hl 0 rfl) ?_
    refine lv_iload_n hx hb dX7_guestOn_38 rfl (lv_at hl 1 rfl) ?_
    refine lv_aload_n hx hb dX7_guestOn_39 rfl (lv_at hl 0 rfl) ?_
    refine g_get (v := .ref (E.ad 22 1)) S hB hinX7 hP m_22_0 rfl rfl 0 (by decide) fl7 rfl rfl dX7_guestOn_40 ?_
    refine lv_iload_n hx hb dX7_guestOn_43 rfl (lv_at hl 1 rfl) ?_
    refine lv_bipush (v := 39) hx hb dX7_guestOn_44 (by decide) ?_
    refine lv_iadd hx hb dX7_guestOn_46 ?_
    refine lv_iload_n hx hb dX7_guestOn_47 rfl (lv_at hl 2 rfl) ?_
    refine lv_iadd hx hb dX7_guestOn_48 ?_
    obtain ⟨hv3, hf⟩ := ck_some hf
    refine g_iald (r := z 1) S hB hP m_22_1 rfl hv3 dX7_guestOn_49 ?_
    refine W.eq (g2 := F0 m 50 ls [.int (z 1 (((a1 + (39 : Int32)) + a2).toNatClampNeg)), .int a1, .ref (E.ad 22 0), .int ((a1 + (39 : Int32)) + a2), .ref (E.ad 22 1)]) rfl ?_
    obtain ⟨q4, hq4, hf⟩ := bind_some hf
    refine callV_i (As := [.int a1, .int (z 1 (((a1 + (39 : Int32)) + a2).toNatClampNeg))]) (rest := [.int ((a1 + (39 : Int32)) + a2), .ref (E.ad 22 1)]) S hB hP hS (C := RX7) (b := E.ad 22 0) (g_recv (o := 22) (d := 0) hB hP m_22_0 rfl rfl) (K_X7_turnOn l hE σ z a1 (z 1 (((a1 + (39 : Int32)) + a2).toNatClampNeg)) hq4) (cwV 2 S.2.2.2.2 gX7_guestOn_X7_turnOn rfl rfl rfl (by decide +kernel) ⟨Nat.le_of_ble_eq_true rfl, Nat.le_of_ble_eq_true rfl⟩) rfl hl.1 rfl (Nat.le_of_ble_eq_true rfl) dX7_guestOn_50 ⟨Nat.zero_le _, Nat.zero_le _⟩ (fun H locs hP hS => ?_)
    obtain ⟨hv5, hf⟩ := ck_some hf
    refine g_iast (r := z 1) S hB hE hP hS m_22_1 rfl rfl (fun _ => rfl) hv5 (X' := (va_up σ 22 (ob z 1 (((a1 + (39 : Int32)) + a2).toNatClampNeg) q4))) (lens_put σ 22 _ _ _ _) dX7_guestOn_53 (fun H locs hP hS => ?_)
    refine lv_aload_n hx hb dX7_guestOn_54 rfl (lv_at hl 0 rfl) ?_
    refine g_get (v := .ref (E.ad 22 1)) S hB hinX7 hP m_22_0 rfl rfl 0 (by decide) fl7 rfl rfl dX7_guestOn_55 ?_
    refine lv_iload_n hx hb dX7_guestOn_58 rfl (lv_at hl 1 rfl) ?_
    refine lv_bipush (v := 43) hx hb dX7_guestOn_59 (by decide) ?_
    refine lv_iadd hx hb dX7_guestOn_61 ?_
    refine lv_iload_n hx hb dX7_guestOn_62 rfl (lv_at hl 2 rfl) ?_
    refine lv_iadd hx hb dX7_guestOn_63 ?_
    refine lv_dup2_11 hx hb dX7_guestOn_64 rfl rfl ?_
    obtain ⟨hv6, hf⟩ := ck_some hf
    refine g_iald (r := (ob z 1 (((a1 + (39 : Int32)) + a2).toNatClampNeg) q4) 1) S hB hP m_22_1 rfl hv6 dX7_guestOn_65 ?_
    refine W.eq (g2 := F0 m 66 ls [.int ((ob z 1 (((a1 + (39 : Int32)) + a2).toNatClampNeg) q4) 1 (((a1 + (43 : Int32)) + a2).toNatClampNeg)), .int ((a1 + (43 : Int32)) + a2), .ref (E.ad 22 1)]) rfl ?_
    refine lv_iconst (v := 1) hx hb dX7_guestOn_66 (by decide) ?_
    refine lv_isub hx hb dX7_guestOn_67 ?_
    obtain ⟨hv7, hf⟩ := ck_some hf
    refine g_iast (r := (ob z 1 (((a1 + (39 : Int32)) + a2).toNatClampNeg) q4) 1) S hB hE hP hS m_22_1 rfl rfl (fun _ => rfl) hv7 (X' := (va_up σ 22 (ob (ob z 1 (((a1 + (39 : Int32)) + a2).toNatClampNeg) q4) 1 (((a1 + (43 : Int32)) + a2).toNatClampNeg) (((ob z 1 (((a1 + (39 : Int32)) + a2).toNatClampNeg) q4) 1 (((a1 + (43 : Int32)) + a2).toNatClampNeg)) - (1 : Int32))))) (lens_put σ 22 _ _ _ _) dX7_guestOn_68 (fun H locs hP hS => ?_)
    refine lv_aload_n hx hb dX7_guestOn_69 rfl (lv_at hl 0 rfl) ?_
    refine g_get (v := .ref (E.ad 22 1)) S hB hinX7 hP m_22_0 rfl rfl 0 (by decide) fl7 rfl rfl dX7_guestOn_70 ?_
    refine lv_iload_n hx hb dX7_guestOn_73 rfl (lv_at hl 1 rfl) ?_
    refine lv_bipush (v := 47) hx hb dX7_guestOn_74 (by decide) ?_
    refine lv_iadd hx hb dX7_guestOn_76 ?_
    refine lv_iload_n hx hb dX7_guestOn_77 rfl (lv_at hl 2 rfl) ?_
    refine lv_iadd hx hb dX7_guestOn_78 ?_
    refine lv_aload_n hx hb dX7_guestOn_79 rfl (lv_at hl 0 rfl) ?_
    refine g_get (v := .ref (E.ad 22 1)) S hB hinX7 hP m_22_0 rfl rfl 0 (by decide) fl7 rfl rfl dX7_guestOn_80 ?_
    refine lv_iload_n hx hb dX7_guestOn_83 rfl (lv_at hl 1 rfl) ?_
    refine lv_bipush (v := 39) hx hb dX7_guestOn_84 (by decide) ?_
    refine lv_iadd hx hb dX7_guestOn_86 ?_
    refine lv_iload_n hx hb dX7_guestOn_87 rfl (lv_at hl 2 rfl) ?_
    refine lv_iadd hx hb dX7_guestOn_88 ?_
    obtain ⟨hv8, hf⟩ := ck_some hf
    refine g_iald (r := (ob (ob z 1 (((a1 + (39 : Int32)) + a2).toNatClampNeg) q4) 1 (((a1 + (43 : Int32)) + a2).toNatClampNeg) (((ob z 1 (((a1 + (39 : Int32)) + a2).toNatClampNeg) q4) 1 (((a1 + (43 : Int32)) + a2).toNatClampNeg)) - (1 : Int32))) 1) S hB hP m_22_1 rfl hv8 dX7_guestOn_89 ?_
    refine W.eq (g2 := F0 m 90 ls [.int ((ob (ob z 1 (((a1 + (39 : Int32)) + a2).toNatClampNeg) q4) 1 (((a1 + (43 : Int32)) + a2).toNatClampNeg) (((ob z 1 (((a1 + (39 : Int32)) + a2).toNatClampNeg) q4) 1 (((a1 + (43 : Int32)) + a2).toNatClampNeg)) - (1 : Int32))) 1 (((a1 + (39 : Int32)) + a2).toNatClampNeg)), .int ((a1 + (47 : Int32)) + a2), .ref (E.ad 22 1)]) rfl ?_
    refine lv_aload_n hx hb dX7_guestOn_90 rfl (lv_at hl 0 rfl) ?_
    refine g_get (v := .ref (E.ad 22 1)) S hB hinX7 hP m_22_0 rfl rfl 0 (by decide) fl7 rfl rfl dX7_guestOn_91 ?_
    refine lv_iload_n hx hb dX7_guestOn_94 rfl (lv_at hl 1 rfl) ?_
    refine lv_bipush (v := 24) hx hb dX7_guestOn_95 (by decide) ?_
    refine lv_iadd hx hb dX7_guestOn_97 ?_
    obtain ⟨hv9, hf⟩ := ck_some hf
    refine g_iald (r := (ob (ob z 1 (((a1 + (39 : Int32)) + a2).toNatClampNeg) q4) 1 (((a1 + (43 : Int32)) + a2).toNatClampNeg) (((ob z 1 (((a1 + (39 : Int32)) + a2).toNatClampNeg) q4) 1 (((a1 + (43 : Int32)) + a2).toNatClampNeg)) - (1 : Int32))) 1) S hB hP m_22_1 rfl hv9 dX7_guestOn_98 ?_
    refine W.eq (g2 := F0 m 99 ls [.int ((ob (ob z 1 (((a1 + (39 : Int32)) + a2).toNatClampNeg) q4) 1 (((a1 + (43 : Int32)) + a2).toNatClampNeg) (((ob z 1 (((a1 + (39 : Int32)) + a2).toNatClampNeg) q4) 1 (((a1 + (43 : Int32)) + a2).toNatClampNeg)) - (1 : Int32))) 1 ((a1 + (24 : Int32)).toNatClampNeg)), .int ((ob (ob z 1 (((a1 + (39 : Int32)) + a2).toNatClampNeg) q4) 1 (((a1 + (43 : Int32)) + a2).toNatClampNeg) (((ob z 1 (((a1 + (39 : Int32)) + a2).toNatClampNeg) q4) 1 (((a1 + (43 : Int32)) + a2).toNatClampNeg)) - (1 : Int32))) 1 (((a1 + (39 : Int32)) + a2).toNatClampNeg)), .int ((a1 + (47 : Int32)) + a2), .ref (E.ad 22 1)]) rfl ?_
    refine lv_icmp_ne (tgt := 106) hx hb dX7_guestOn_99 (by decide) (fun c10 => ?_) (fun c10 => ?_)
    · have hf := if_f c10 hf
      refine lv_iconst (v := 0) hx hb dX7_guestOn_106 (by decide) ?_
      exact hB107 (ob (ob z 1 (((a1 + (39 : Int32)) + a2).toNatClampNeg) q4) 1 (((a1 + (43 : Int32)) + a2).toNatClampNeg) (((ob z 1 (((a1 + (39 : Int32)) + a2).toNatClampNeg) q4) 1 (((a1 + (43 : Int32)) + a2).toNatClampNeg)) - (1 : Int32))) (0 : Int32) ((a1 + (47 : Int32)) + a2) _ _ _ hf hP hS (lv_sub hl [] rfl)
    · have hf := if_t c10 hf
      refine lv_iconst (v := 1) hx hb dX7_guestOn_102 (by decide) ?_
      refine lv_goto (tgt := 107) hx hb dX7_guestOn_103 (by decide) ?_
      exact hB107 (ob (ob z 1 (((a1 + (39 : Int32)) + a2).toNatClampNeg) q4) 1 (((a1 + (43 : Int32)) + a2).toNatClampNeg) (((ob z 1 (((a1 + (39 : Int32)) + a2).toNatClampNeg) q4) 1 (((a1 + (43 : Int32)) + a2).toNatClampNeg)) - (1 : Int32))) (1 : Int32) ((a1 + (47 : Int32)) + a2) _ _ _ hf hP hS (lv_sub hl [] rfl)
  · have hf := if_t c2 hf
    refine lv_aload_n hx hb dX7_guestOn_14 rfl (lv_at hl 0 rfl) ?_
    refine g_get (v := .ref (E.ad 22 1)) S hB hinX7 hP m_22_0 rfl rfl 0 (by decide) fl7 rfl rfl dX7_guestOn_15 ?_
    refine lv_iload_n hx hb dX7_guestOn_18 rfl (lv_at hl 1 rfl) ?_
    refine lv_bipush (v := 47) hx hb dX7_guestOn_19 (by decide) ?_
    refine lv_iadd hx hb dX7_guestOn_21 ?_
    refine lv_iload_n hx hb dX7_guestOn_22 rfl (lv_at hl 2 rfl) ?_
    refine lv_iadd hx hb dX7_guestOn_23 ?_
    refine lv_iconst (v := 2) hx hb dX7_guestOn_24 (by decide) ?_
    obtain ⟨hv11, hf⟩ := ck_some hf
    refine g_iast (r := z 1) S hB hE hP hS m_22_1 rfl rfl (fun _ => rfl) hv11 (X' := (va_up σ 22 (ob z 1 (((a1 + (47 : Int32)) + a2).toNatClampNeg) (2 : Int32)))) (lens_put σ 22 _ _ _ _) dX7_guestOn_25 (fun H locs hP hS => ?_)
    exact fin dX7_guestOn_26  (by rw [(s0 hf)]) hP hS
theorem KW_X7_guestOn (l : Launch) {E : En} (hE : Inj E) (X : Wd) (a1 : Int32) (a2 : Int32) {z' : Ob} (hf : f_X7_guestOn (X 22) a1 a2 = some z') : Ctv l E yX7_guestOn wsX7_guestOn rm_X7_guestOn [.ref (E.ad 22 0), .int a1, .int a2] X  (va_up X 22 z') := by
  have h := K_X7_guestOn l hE X (X 22) a1 a2 hf
  rw [lens_all] at h
  exact h
/-! X7_dayOn -/
abbrev rm_X7_dayOn : Room := { frames := 3, cells := 0, slots := 0, locals := 70 }
set_option maxHeartbeats 4000000 in
set_option maxRecDepth 100000 in
theorem K_X7_dayOn (l : Launch) {E : En} (hE : Inj E) (σ : Wd) (z : Ob) (a1 : Int32) (a2 : Int32) {z' : Ob} (hf : f_X7_dayOn z a1 a2 = some z') : Ctv l E yX7_dayOn wsX7_dayOn rm_X7_dayOn [.ref (E.ad 22 0), .int a1, .int a2] (va_up σ 22 z)  (va_up σ 22 z') := by
  refine meet_v (cc := cX7_dayOn) (maxL := 6) (own := RX7) (by decide) rfl rfl (Nat.le_of_ble_eq_true rfl) ?_
  intro p e s m below meth c Z S hB fin hP hS ls hl
  have hx := S.1
  have hb := S.2.1
  have hl : lv_has ls 6 [(0, .ref (E.ad 22 0)), (1, .int a1), (2, .int a2)] := hl
  have hinX7 : ∀ w ∈ u_ws RX7 TX7 25, w ∈ wsX7_dayOn := by decide +kernel
  have fl7 := S.2.2.2.2 (.fieldLink RX7 7 "MownMazeModel" "state" "[I") (by decide +kernel)
  have fl28 := S.2.2.2.2 (.fieldLink RX7 28 "MownMazeModel" "away" "I") (by decide +kernel)
  have hL76 : ∀ (n76 : Nat) (z : Ob) (x1 : Int32) (x5 : Int32) (H : Heap) (locs : List Loc) (ls : Array Slot), f_X7_dayOn_l76 n76 z x1 x5 = some z' → va_P E.1 vwCl (GW E (va_up σ 22 z)) H → va_S (GA E) s.heap H locs → lv_has ls 6 [(0, .ref (E.ad 22 0)), (1, .int x1), (5, .int x5)] → W p l e rm_X7_dayOn s m ([.ref (E.ad 22 0), .int a1, .int a2] : List Value).toArray below meth c H locs 0 0 Z (F0 m 76 ls []) := by
    intro n76
    induction n76 with
    | zero =>
      intro z x1 x5 H locs ls hf
      cases (show (none : Option _) = some _ from hf)
    | succ n76 ih76 =>
      have hB112 : ∀ (z : Ob) (x1 : Int32) (x5 : Int32) (H : Heap) (locs : List Loc) (ls : Array Slot), f_X7_dayOn_b112 (f_X7_dayOn_l76 n76) z x1 x5 = some z' → va_P E.1 vwCl (GW E (va_up σ 22 z)) H → va_S (GA E) s.heap H locs → lv_has ls 6 [(0, .ref (E.ad 22 0)), (1, .int x1), (5, .int x5)] → W p l e rm_X7_dayOn s m ([.ref (E.ad 22 0), .int a1, .int a2] : List Value).toArray below meth c H locs 0 0 Z (F0 m 112 ls []) := by
        intro z x1 x5 H locs ls hf hP hS hl
        unfold f_X7_dayOn_b112 at hf
        refine lv_iinc (v := x5 + (1 : Int32)) (lv' := [(5, .int (x5 + (1 : Int32))), (0, .ref (E.ad 22 0)), (1, .int x1)]) hx hb dX7_dayOn_112 hl (k := 2) rfl rfl (by decide) rfl (fun ls hl => ?_)
        refine lv_goto (tgt := 76) hx hb dX7_dayOn_115 (by decide) ?_
        exact ih76 z x1 (x5 + (1 : Int32)) _ _ _ hf hP hS (lv_sub hl [1, 2, 0] rfl)
      intro z x1 x5 H locs ls hf hP hS hl
      unfold f_X7_dayOn_l76 at hf
      refine lv_iload hx hb dX7_dayOn_76 (lv_at hl 2 rfl) ?_
      refine lv_aload_n hx hb dX7_dayOn_78 rfl (lv_at hl 0 rfl) ?_
      refine g_get (v := .ref (E.ad 22 1)) S hB hinX7 hP m_22_0 rfl rfl 0 (by decide) fl7 rfl rfl dX7_dayOn_79 ?_
      refine lv_iload_n hx hb dX7_dayOn_82 rfl (lv_at hl 1 rfl) ?_
      refine lv_bipush (v := 51) hx hb dX7_dayOn_83 (by decide) ?_
      refine lv_iadd hx hb dX7_dayOn_85 ?_
      obtain ⟨hv6, hf⟩ := ck_some hf
      refine g_iald (r := z 1) S hB hP m_22_1 rfl hv6 dX7_dayOn_86 ?_
      refine W.eq (g2 := F0 m 87 ls [.int (z 1 ((x1 + (51 : Int32)).toNatClampNeg)), .int x5]) rfl ?_
      refine lv_icmp_ge (tgt := 118) hx hb dX7_dayOn_87 (by decide) (fun c7 => ?_) (fun c7 => ?_)
      · have hf := if_t c7 hf
        refine lv_aload_n hx hb dX7_dayOn_118 rfl (lv_at hl 0 rfl) ?_
        refine g_get (v := .ref (E.ad 22 1)) S hB hinX7 hP m_22_0 rfl rfl 0 (by decide) fl7 rfl rfl dX7_dayOn_119 ?_
        refine lv_iload_n hx hb dX7_dayOn_122 rfl (lv_at hl 1 rfl) ?_
        refine lv_bipush (v := 52) hx hb dX7_dayOn_123 (by decide) ?_
        refine lv_iadd hx hb dX7_dayOn_125 ?_
        refine lv_dup2_11 hx hb dX7_dayOn_126 rfl rfl ?_
        obtain ⟨hv8, hf⟩ := ck_some hf
        refine g_iald (r := z 1) S hB hP m_22_1 rfl hv8 dX7_dayOn_127 ?_
        refine W.eq (g2 := F0 m 128 ls [.int (z 1 ((x1 + (52 : Int32)).toNatClampNeg)), .int (x1 + (52 : Int32)), .ref (E.ad 22 1)]) rfl ?_
        refine lv_iconst (v := 1) hx hb dX7_dayOn_128 (by decide) ?_
        refine lv_iadd hx hb dX7_dayOn_129 ?_
        obtain ⟨hv9, hf⟩ := ck_some hf
        refine g_iast (r := z 1) S hB hE hP hS m_22_1 rfl rfl (fun _ => rfl) hv9 (X' := (va_up σ 22 (ob z 1 ((x1 + (52 : Int32)).toNatClampNeg) ((z 1 ((x1 + (52 : Int32)).toNatClampNeg)) + (1 : Int32))))) (lens_put σ 22 _ _ _ _) dX7_dayOn_130 (fun H locs hP hS => ?_)
        exact fin dX7_dayOn_131  (by rw [(s0 hf)]) hP hS
      · have hf := if_f c7 hf
        refine lv_aload_n hx hb dX7_dayOn_90 rfl (lv_at hl 0 rfl) ?_
        refine g_get (v := .ref (E.ad 22 1)) S hB hinX7 hP m_22_0 rfl rfl 0 (by decide) fl7 rfl rfl dX7_dayOn_91 ?_
        refine lv_iload_n hx hb dX7_dayOn_94 rfl (lv_at hl 1 rfl) ?_
        refine lv_bipush (v := 47) hx hb dX7_dayOn_95 (by decide) ?_
        refine lv_iadd hx hb dX7_dayOn_97 ?_
        refine lv_iload hx hb dX7_dayOn_98 (lv_at hl 2 rfl) ?_
        refine lv_iadd hx hb dX7_dayOn_100 ?_
        obtain ⟨hv10, hf⟩ := ck_some hf
        refine g_iald (r := z 1) S hB hP m_22_1 rfl hv10 dX7_dayOn_101 ?_
        refine W.eq (g2 := F0 m 102 ls [.int (z 1 (((x1 + (47 : Int32)) + x5).toNatClampNeg))]) rfl ?_
        refine lv_if_ne (tgt := 112) hx hb dX7_dayOn_102 (by decide) (fun c11 => ?_) (fun c11 => ?_)
        · have hf := if_f c11 hf
          exact hB112 z x1 x5 _ _ _ hf hP hS (lv_sub hl [0, 1, 2] rfl)
        · have hf := if_t c11 hf
          refine lv_aload_n hx hb dX7_dayOn_105 rfl (lv_at hl 0 rfl) ?_
          refine lv_iload_n hx hb dX7_dayOn_106 rfl (lv_at hl 1 rfl) ?_
          refine lv_iload hx hb dX7_dayOn_107 (lv_at hl 2 rfl) ?_
          obtain ⟨q12, hq12, hf⟩ := bind_some hf
          refine callV_v (As := [.int x1, .int x5]) (rest := []) S hB hP hS (C := RX7) (b := E.ad 22 0) (g_recv (o := 22) (d := 0) hB hP m_22_0 rfl rfl) (K_X7_guestOn l hE σ z x1 x5 hq12) (cwV 2 S.2.2.2.2 gX7_dayOn_X7_guestOn rfl rfl rfl (by decide +kernel) ⟨Nat.le_of_ble_eq_true rfl, Nat.le_of_ble_eq_true rfl⟩) rfl hl.1 rfl (Nat.le_of_ble_eq_true rfl) dX7_dayOn_109 ⟨Nat.zero_le _, Nat.zero_le _⟩ (fun H locs hP hS => ?_)
          exact hB112 q12 x1 x5 _ _ _ hf hP hS (lv_sub hl [0, 1, 2] rfl)
  have hB59 : ∀ (z : Ob) (x1 : Int32) (H : Heap) (locs : List Loc) (ls : Array Slot), f_X7_dayOn_b59 z x1 = some z' → va_P E.1 vwCl (GW E (va_up σ 22 z)) H → va_S (GA E) s.heap H locs → lv_has ls 6 [(0, .ref (E.ad 22 0)), (1, .int x1)] → W p l e rm_X7_dayOn s m ([.ref (E.ad 22 0), .int a1, .int a2] : List Value).toArray below meth c H locs 0 0 Z (F0 m 59 ls []) := by
    intro z x1 H locs ls hf hP hS hl
    unfold f_X7_dayOn_b59 at hf
    refine lv_aload_n hx hb dX7_dayOn_59 rfl (lv_at hl 0 rfl) ?_
    refine lv_iload_n hx hb dX7_dayOn_60 rfl (lv_at hl 1 rfl) ?_
    refine lv_aload_n hx hb dX7_dayOn_61 rfl (lv_at hl 0 rfl) ?_
    refine g_get (v := .ref (E.ad 22 1)) S hB hinX7 hP m_22_0 rfl rfl 0 (by decide) fl7 rfl rfl dX7_dayOn_62 ?_
    refine lv_iload_n hx hb dX7_dayOn_65 rfl (lv_at hl 1 rfl) ?_
    refine lv_bipush (v := 24) hx hb dX7_dayOn_66 (by decide) ?_
    refine lv_iadd hx hb dX7_dayOn_68 ?_
    obtain ⟨hv13, hf⟩ := ck_some hf
    refine g_iald (r := z 1) S hB hP m_22_1 rfl hv13 dX7_dayOn_69 ?_
    refine W.eq (g2 := F0 m 70 ls [.int (z 1 ((x1 + (24 : Int32)).toNatClampNeg)), .int x1, .ref (E.ad 22 0)]) rfl ?_
    obtain ⟨q14, hq14, hf⟩ := bind_some hf
    refine callV_v (As := [.int x1, .int (z 1 ((x1 + (24 : Int32)).toNatClampNeg))]) (rest := []) S hB hP hS (C := RX7) (b := E.ad 22 0) (g_recv (o := 22) (d := 0) hB hP m_22_0 rfl rfl) (K_X7_stepsOn l hE σ z x1 (z 1 ((x1 + (24 : Int32)).toNatClampNeg)) hq14) (cwV 2 S.2.2.2.2 gX7_dayOn_X7_stepsOn rfl rfl rfl (by decide +kernel) ⟨Nat.le_of_ble_eq_true rfl, Nat.le_of_ble_eq_true rfl⟩) rfl hl.1 rfl (Nat.le_of_ble_eq_true rfl) dX7_dayOn_70 ⟨Nat.zero_le _, Nat.zero_le _⟩ (fun H locs hP hS => ?_)
    refine lv_iconst (v := 0) hx hb dX7_dayOn_73 (by decide) ?_
    refine lv_istore (lv' := [(5, .int (0 : Int32)), (0, .ref (E.ad 22 0)), (1, .int x1)]) hx hb dX7_dayOn_74 hl (by decide) rfl (fun ls hl => ?_)
    exact hL76 FUEL q14 x1 (0 : Int32) _ _ _ hf hP hS (lv_sub hl [1, 2, 0] rfl)
  have hB34 : ∀ (z : Ob) (x1 : Int32) (y0 : Int32) (H : Heap) (locs : List Loc) (ls : Array Slot), f_X7_dayOn_b34 z x1 y0 = some z' → va_P E.1 vwCl (GW E (va_up σ 22 z)) H → va_S (GA E) s.heap H locs → lv_has ls 6 [(0, .ref (E.ad 22 0)), (1, .int x1)] → W p l e rm_X7_dayOn s m ([.ref (E.ad 22 0), .int a1, .int a2] : List Value).toArray below meth c H locs 0 0 Z (F0 m 34 ls [.int y0]) := by
    intro z x1 y0 H locs ls hf hP hS hl
    unfold f_X7_dayOn_b34 at hf
    refine lv_istore (lv' := [(4, .int y0), (0, .ref (E.ad 22 0)), (1, .int x1)]) hx hb dX7_dayOn_34 hl (by decide) rfl (fun ls hl => ?_)
    refine lv_iload hx hb dX7_dayOn_36 (lv_at hl 0 rfl) ?_
    refine lv_bipush (v := -4) hx hb dX7_dayOn_38 (by decide) ?_
    refine lv_icmp_eq (tgt := 59) hx hb dX7_dayOn_40 (by decide) (fun c15 => ?_) (fun c15 => ?_)
    · have hf := if_t c15 hf
      exact hB59 z x1 _ _ _ hf hP hS (lv_sub hl [1, 2] rfl)
    · have hf := if_f c15 hf
      refine lv_iload hx hb dX7_dayOn_43 (lv_at hl 0 rfl) ?_
      refine lv_aload_n hx hb dX7_dayOn_45 rfl (lv_at hl 1 rfl) ?_
      refine g_get (v := .int (z 0 16)) S hB hinX7 hP m_22_0 rfl rfl 16 (by decide) fl28 rfl rfl dX7_dayOn_46 ?_
      refine lv_icmp_eq (tgt := 59) hx hb dX7_dayOn_49 (by decide) (fun c16 => ?_) (fun c16 => ?_)
      · have hf := if_t c16 hf
        exact hB59 z x1 _ _ _ hf hP hS (lv_sub hl [1, 2] rfl)
      · have hf := if_f c16 hf
        refine lv_aload_n hx hb dX7_dayOn_52 rfl (lv_at hl 1 rfl) ?_
        refine lv_iload_n hx hb dX7_dayOn_53 rfl (lv_at hl 2 rfl) ?_
        refine lv_iload hx hb dX7_dayOn_54 (lv_at hl 0 rfl) ?_
        obtain ⟨q17, hq17, hf⟩ := bind_some hf
        refine callV_v (As := [.int x1, .int y0]) (rest := []) S hB hP hS (C := RX7) (b := E.ad 22 0) (g_recv (o := 22) (d := 0) hB hP m_22_0 rfl rfl) (K_X7_cutsOn l hE σ z x1 y0 hq17) (cwV 2 S.2.2.2.2 gX7_dayOn_X7_cutsOn rfl rfl rfl (by decide +kernel) ⟨Nat.le_of_ble_eq_true rfl, Nat.le_of_ble_eq_true rfl⟩) rfl hl.1 rfl (Nat.le_of_ble_eq_true rfl) dX7_dayOn_56 ⟨Nat.zero_le _, Nat.zero_le _⟩ (fun H locs hP hS => ?_)
        exact hB59 q17 x1 _ _ _ hf hP hS (lv_sub hl [1, 2] rfl)
  have hB18 : ∀ (z : Ob) (x1 : Int32) (H : Heap) (locs : List Loc) (ls : Array Slot), f_X7_dayOn_b18 z x1 = some z' → va_P E.1 vwCl (GW E (va_up σ 22 z)) H → va_S (GA E) s.heap H locs → lv_has ls 6 [(0, .ref (E.ad 22 0)), (1, .int x1)] → W p l e rm_X7_dayOn s m ([.ref (E.ad 22 0), .int a1, .int a2] : List Value).toArray below meth c H locs 0 0 Z (F0 m 18 ls []) := by
    intro z x1 H locs ls hf hP hS hl
    unfold f_X7_dayOn_b18 at hf
    refine lv_bipush (v := -4) hx hb dX7_dayOn_18 (by decide) ?_
    refine lv_goto (tgt := 34) hx hb dX7_dayOn_20 (by decide) ?_
    exact hB34 z x1 (-4 : Int32) _ _ _ hf hP hS (lv_sub hl [0, 1] rfl)
  unfold f_X7_dayOn at hf
  refine lv_aload_n hx hb dX7_dayOn_0 rfl (lv_at hl 0 rfl) ?_
  refine g_get (v := .ref (E.ad 22 1)) S hB hinX7 hP m_22_0 rfl rfl 0 (by decide) fl7 rfl rfl dX7_dayOn_1 ?_
  refine lv_iload_n hx hb dX7_dayOn_4 rfl (lv_at hl 1 rfl) ?_
  refine lv_bipush (v := 37) hx hb dX7_dayOn_5 (by decide) ?_
  refine lv_iadd hx hb dX7_dayOn_7 ?_
  obtain ⟨hv1, hf⟩ := ck_some hf
  refine g_iald (r := z 1) S hB hP m_22_1 rfl hv1 dX7_dayOn_8 ?_
  refine W.eq (g2 := F0 m 9 ls [.int (z 1 ((a1 + (37 : Int32)).toNatClampNeg))]) rfl ?_
  refine lv_istore_n (lv' := [(3, .int (z 1 ((a1 + (37 : Int32)).toNatClampNeg))), (0, .ref (E.ad 22 0)), (1, .int a1), (2, .int a2)]) hx hb dX7_dayOn_9 rfl hl (by decide) rfl (fun ls hl => ?_)
  refine lv_iload_n hx hb dX7_dayOn_10 rfl (lv_at hl 0 rfl) ?_
  refine lv_if_eq (tgt := 18) hx hb dX7_dayOn_11 (by decide) (fun c2 => ?_) (fun c2 => ?_)
  · have hf := if_t c2 hf
    exact hB18 z a1 _ _ _ hf hP hS (lv_sub hl [1, 2] rfl)
  · have hf := if_f c2 hf
    refine lv_iload_n hx hb dX7_dayOn_14 rfl (lv_at hl 3 rfl) ?_
    refine lv_if_eq (tgt := 23) hx hb dX7_dayOn_15 (by decide) (fun c3 => ?_) (fun c3 => ?_)
    · have hf := if_t c3 hf
      refine lv_aload_n hx hb dX7_dayOn_23 rfl (lv_at hl 1 rfl) ?_
      refine g_get (v := .ref (E.ad 22 1)) S hB hinX7 hP m_22_0 rfl rfl 0 (by decide) fl7 rfl rfl dX7_dayOn_24 ?_
      refine lv_iload_n hx hb dX7_dayOn_27 rfl (lv_at hl 2 rfl) ?_
      refine lv_bipush (v := 52) hx hb dX7_dayOn_28 (by decide) ?_
      refine lv_iadd hx hb dX7_dayOn_30 ?_
      obtain ⟨hv4, hf⟩ := ck_some hf
      refine g_iald (r := z 1) S hB hP m_22_1 rfl hv4 dX7_dayOn_31 ?_
      refine W.eq (g2 := F0 m 32 ls [.int (z 1 ((a1 + (52 : Int32)).toNatClampNeg))]) rfl ?_
      refine lv_iload_n hx hb dX7_dayOn_32 rfl (lv_at hl 0 rfl) ?_
      obtain ⟨hv5, hf⟩ := ckn_some hf
      refine lv_irem hx hb dX7_dayOn_33 hv5 ?_
      exact hB34 z a1 ((z 1 ((a1 + (52 : Int32)).toNatClampNeg)) - (z 1 ((a1 + (52 : Int32)).toNatClampNeg)) / (z 1 ((a1 + (37 : Int32)).toNatClampNeg)) * (z 1 ((a1 + (37 : Int32)).toNatClampNeg))) _ _ _ hf hP hS (lv_sub hl [1, 2] rfl)
    · have hf := if_f c3 hf
      exact hB18 z a1 _ _ _ hf hP hS (lv_sub hl [1, 2] rfl)
theorem KW_X7_dayOn (l : Launch) {E : En} (hE : Inj E) (X : Wd) (a1 : Int32) (a2 : Int32) {z' : Ob} (hf : f_X7_dayOn (X 22) a1 a2 = some z') : Ctv l E yX7_dayOn wsX7_dayOn rm_X7_dayOn [.ref (E.ad 22 0), .int a1, .int a2] X  (va_up X 22 z') := by
  have h := K_X7_dayOn l hE X (X 22) a1 a2 hf
  rw [lens_all] at h
  exact h
/-! X7_standOn -/
abbrev rm_X7_standOn : Room := { frames := 0, cells := 0, slots := 0, locals := 0 }
set_option maxHeartbeats 4000000 in
set_option maxRecDepth 100000 in
theorem K_X7_standOn (l : Launch) {E : En} (hE : Inj E) (σ : Wd) (z : Ob) (a1 : Int32) {r : Int32} (hf : f_X7_standOn z a1 = some r) : Cti l E yX7_standOn wsX7_standOn rm_X7_standOn [.ref (E.ad 22 0), .int a1] (va_up σ 22 z) r (va_up σ 22 z) := by
  refine meet_i (cc := cX7_standOn) (maxL := 4) (own := RX7) (by decide) rfl rfl (Nat.le_of_ble_eq_true rfl) ?_
  intro p e s m below meth c Z S hB fin hP hS ls hl
  have hx := S.1
  have hb := S.2.1
  have hl : lv_has ls 4 [(0, .ref (E.ad 22 0)), (1, .int a1)] := hl
  have hinX7 : ∀ w ∈ u_ws RX7 TX7 25, w ∈ wsX7_standOn := by decide +kernel
  have fl7 := S.2.2.2.2 (.fieldLink RX7 7 "MownMazeModel" "state" "[I") (by decide +kernel)
  have hL4 : ∀ (n4 : Nat) (x1 : Int32) (x2 : Int32) (x3 : Int32) (H : Heap) (locs : List Loc) (ls : Array Slot), f_X7_standOn_l4 n4 z x1 x2 x3 = some r → va_P E.1 vwCl (GW E (va_up σ 22 z)) H → va_S (GA E) s.heap H locs → lv_has ls 4 [(0, .ref (E.ad 22 0)), (1, .int x1), (2, .int x2), (3, .int x3)] → W p l e rm_X7_standOn s m ([.ref (E.ad 22 0), .int a1] : List Value).toArray below meth c H locs 0 0 Z (F0 m 4 ls []) := by
    intro n4
    induction n4 with
    | zero =>
      intro x1 x2 x3 H locs ls hf
      cases (show (none : Option _) = some _ from hf)
    | succ n4 ih4 =>
      intro x1 x2 x3 H locs ls hf hP hS hl
      unfold f_X7_standOn_l4 at hf
      refine lv_iload_n hx hb dX7_standOn_4 rfl (lv_at hl 3 rfl) ?_
      refine lv_bipush (v := 24) hx hb dX7_standOn_5 (by decide) ?_
      refine lv_icmp_ge (tgt := 29) hx hb dX7_standOn_7 (by decide) (fun c1 => ?_) (fun c1 => ?_)
      · have hf := if_t c1 hf
        refine lv_iload_n hx hb dX7_standOn_29 rfl (lv_at hl 2 rfl) ?_
        exact fin dX7_standOn_30 (s0 hf) rfl hP hS
      · have hf := if_f c1 hf
        refine lv_iload_n hx hb dX7_standOn_10 rfl (lv_at hl 2 rfl) ?_
        refine lv_aload_n hx hb dX7_standOn_11 rfl (lv_at hl 0 rfl) ?_
        refine g_get (v := .ref (E.ad 22 1)) S hB hinX7 hP m_22_0 rfl rfl 0 (by decide) fl7 rfl rfl dX7_standOn_12 ?_
        refine lv_iload_n hx hb dX7_standOn_15 rfl (lv_at hl 1 rfl) ?_
        refine lv_iload_n hx hb dX7_standOn_16 rfl (lv_at hl 3 rfl) ?_
        refine lv_iadd hx hb dX7_standOn_17 ?_
        obtain ⟨hv2, hf⟩ := ck_some hf
        refine g_iald (r := z 1) S hB hP m_22_1 rfl hv2 dX7_standOn_18 ?_
        refine W.eq (g2 := F0 m 19 ls [.int (z 1 ((x1 + x3).toNatClampNeg)), .int x2]) rfl ?_
        refine lv_iload_n hx hb dX7_standOn_19 rfl (lv_at hl 3 rfl) ?_
        refine lv_ishl hx hb dX7_standOn_20 ?_
        refine lv_ior hx hb dX7_standOn_21 ?_
        refine lv_istore_n (lv' := [(2, .int (x2 ||| ((z 1 ((x1 + x3).toNatClampNeg)) <<< (x3 &&& 31)))), (0, .ref (E.ad 22 0)), (1, .int x1), (3, .int x3)]) hx hb dX7_standOn_22 rfl hl (by decide) rfl (fun ls hl => ?_)
        refine lv_iinc (v := x3 + (1 : Int32)) (lv' := [(3, .int (x3 + (1 : Int32))), (2, .int (x2 ||| ((z 1 ((x1 + x3).toNatClampNeg)) <<< (x3 &&& 31)))), (0, .ref (E.ad 22 0)), (1, .int x1)]) hx hb dX7_standOn_23 hl (k := 3) rfl rfl (by decide) rfl (fun ls hl => ?_)
        refine lv_goto (tgt := 4) hx hb dX7_standOn_26 (by decide) ?_
        exact ih4 x1 (x2 ||| ((z 1 ((x1 + x3).toNatClampNeg)) <<< (x3 &&& 31))) (x3 + (1 : Int32)) _ _ _ hf hP hS (lv_sub hl [2, 3, 1, 0] rfl)
  unfold f_X7_standOn at hf
  refine lv_iconst (v := 0) hx hb dX7_standOn_0 (by decide) ?_
  refine lv_istore_n (lv' := [(2, .int (0 : Int32)), (0, .ref (E.ad 22 0)), (1, .int a1)]) hx hb dX7_standOn_1 rfl hl (by decide) rfl (fun ls hl => ?_)
  refine lv_iconst (v := 0) hx hb dX7_standOn_2 (by decide) ?_
  refine lv_istore_n (lv' := [(3, .int (0 : Int32)), (2, .int (0 : Int32)), (0, .ref (E.ad 22 0)), (1, .int a1)]) hx hb dX7_standOn_3 rfl hl (by decide) rfl (fun ls hl => ?_)
  exact hL4 FUEL a1 (0 : Int32) (0 : Int32) _ _ _ hf hP hS (lv_sub hl [2, 3, 1, 0] rfl)
theorem KW_X7_standOn (l : Launch) {E : En} (hE : Inj E) (X : Wd) (a1 : Int32) {r : Int32} (hf : f_X7_standOn (X 22) a1 = some r) : Cti l E yX7_standOn wsX7_standOn rm_X7_standOn [.ref (E.ad 22 0), .int a1] X r X := by
  have h := K_X7_standOn l hE X (X 22) a1 hf
  rw [lens_all] at h
  exact h
/-! X7_guestsOn -/
abbrev rm_X7_guestsOn : Room := { frames := 0, cells := 0, slots := 0, locals := 0 }
set_option maxHeartbeats 4000000 in
set_option maxRecDepth 100000 in
theorem K_X7_guestsOn (l : Launch) {E : En} (hE : Inj E) (σ : Wd) (z : Ob) (a1 : Int32) (a2 : Int32) {r : Int32} (hf : f_X7_guestsOn z a1 a2 = some r) : Cti l E yX7_guestsOn wsX7_guestsOn rm_X7_guestsOn [.ref (E.ad 22 0), .int a1, .int a2] (va_up σ 22 z) r (va_up σ 22 z) := by
  refine meet_i (cc := cX7_guestsOn) (maxL := 5) (own := RX7) (by decide) rfl rfl (Nat.le_of_ble_eq_true rfl) ?_
  intro p e s m below meth c Z S hB fin hP hS ls hl
  have hx := S.1
  have hb := S.2.1
  have hl : lv_has ls 5 [(0, .ref (E.ad 22 0)), (1, .int a1), (2, .int a2)] := hl
  have hinX7 : ∀ w ∈ u_ws RX7 TX7 25, w ∈ wsX7_guestsOn := by decide +kernel
  have fl7 := S.2.2.2.2 (.fieldLink RX7 7 "MownMazeModel" "state" "[I") (by decide +kernel)
  have hL5 : ∀ (n5 : Nat) (x1 : Int32) (x2 : Int32) (x3 : Int32) (x4 : Int32) (H : Heap) (locs : List Loc) (ls : Array Slot), f_X7_guestsOn_l5 n5 z x1 x2 x3 x4 = some r → va_P E.1 vwCl (GW E (va_up σ 22 z)) H → va_S (GA E) s.heap H locs → lv_has ls 5 [(0, .ref (E.ad 22 0)), (1, .int x1), (2, .int x2), (3, .int x3), (4, .int x4)] → W p l e rm_X7_guestsOn s m ([.ref (E.ad 22 0), .int a1, .int a2] : List Value).toArray below meth c H locs 0 0 Z (F0 m 5 ls []) := by
    intro n5
    induction n5 with
    | zero =>
      intro x1 x2 x3 x4 H locs ls hf
      cases (show (none : Option _) = some _ from hf)
    | succ n5 ih5 =>
      have hB44 : ∀ (x1 : Int32) (x2 : Int32) (x4 : Int32) (y0 : Int32) (y1 : Int32) (H : Heap) (locs : List Loc) (ls : Array Slot), f_X7_guestsOn_b44 (f_X7_guestsOn_l5 n5) z x1 x2 x4 y0 y1 = some r → va_P E.1 vwCl (GW E (va_up σ 22 z)) H → va_S (GA E) s.heap H locs → lv_has ls 5 [(0, .ref (E.ad 22 0)), (1, .int x1), (2, .int x2), (4, .int x4)] → W p l e rm_X7_guestsOn s m ([.ref (E.ad 22 0), .int a1, .int a2] : List Value).toArray below meth c H locs 0 0 Z (F0 m 44 ls [.int y0, .int y1]) := by
        intro x1 x2 x4 y0 y1 H locs ls hf hP hS hl
        unfold f_X7_guestsOn_b44 at hf
        refine lv_ior hx hb dX7_guestsOn_44 ?_
        refine lv_istore_n (lv' := [(3, .int (y1 ||| y0)), (0, .ref (E.ad 22 0)), (1, .int x1), (2, .int x2), (4, .int x4)]) hx hb dX7_guestsOn_45 rfl hl (by decide) rfl (fun ls hl => ?_)
        refine lv_iinc (v := x4 + (1 : Int32)) (lv' := [(4, .int (x4 + (1 : Int32))), (3, .int (y1 ||| y0)), (0, .ref (E.ad 22 0)), (1, .int x1), (2, .int x2)]) hx hb dX7_guestsOn_46 hl (k := 4) rfl rfl (by decide) rfl (fun ls hl => ?_)
        refine lv_goto (tgt := 5) hx hb dX7_guestsOn_49 (by decide) ?_
        exact ih5 x1 x2 (y1 ||| y0) (x4 + (1 : Int32)) _ _ _ hf hP hS (lv_sub hl [2, 3, 4, 1, 0] rfl)
      intro x1 x2 x3 x4 H locs ls hf hP hS hl
      unfold f_X7_guestsOn_l5 at hf
      refine lv_iload hx hb dX7_guestsOn_5 (lv_at hl 4 rfl) ?_
      refine lv_aload_n hx hb dX7_guestsOn_7 rfl (lv_at hl 0 rfl) ?_
      refine g_get (v := .ref (E.ad 22 1)) S hB hinX7 hP m_22_0 rfl rfl 0 (by decide) fl7 rfl rfl dX7_guestsOn_8 ?_
      refine lv_iload_n hx hb dX7_guestsOn_11 rfl (lv_at hl 1 rfl) ?_
      refine lv_bipush (v := 51) hx hb dX7_guestsOn_12 (by decide) ?_
      refine lv_iadd hx hb dX7_guestsOn_14 ?_
      obtain ⟨hv1, hf⟩ := ck_some hf
      refine g_iald (r := z 1) S hB hP m_22_1 rfl hv1 dX7_guestsOn_15 ?_
      refine W.eq (g2 := F0 m 16 ls [.int (z 1 ((x1 + (51 : Int32)).toNatClampNeg)), .int x4]) rfl ?_
      refine lv_icmp_ge (tgt := 52) hx hb dX7_guestsOn_16 (by decide) (fun c2 => ?_) (fun c2 => ?_)
      · have hf := if_t c2 hf
        refine lv_iload_n hx hb dX7_guestsOn_52 rfl (lv_at hl 3 rfl) ?_
        exact fin dX7_guestsOn_53 (s0 hf) rfl hP hS
      · have hf := if_f c2 hf
        refine lv_iload_n hx hb dX7_guestsOn_19 rfl (lv_at hl 3 rfl) ?_
        refine lv_aload_n hx hb dX7_guestsOn_20 rfl (lv_at hl 0 rfl) ?_
        refine g_get (v := .ref (E.ad 22 1)) S hB hinX7 hP m_22_0 rfl rfl 0 (by decide) fl7 rfl rfl dX7_guestsOn_21 ?_
        refine lv_iload_n hx hb dX7_guestsOn_24 rfl (lv_at hl 1 rfl) ?_
        refine lv_bipush (v := 47) hx hb dX7_guestsOn_25 (by decide) ?_
        refine lv_iadd hx hb dX7_guestsOn_27 ?_
        refine lv_iload hx hb dX7_guestsOn_28 (lv_at hl 4 rfl) ?_
        refine lv_iadd hx hb dX7_guestsOn_30 ?_
        obtain ⟨hv3, hf⟩ := ck_some hf
        refine g_iald (r := z 1) S hB hP m_22_1 rfl hv3 dX7_guestsOn_31 ?_
        refine W.eq (g2 := F0 m 32 ls [.int (z 1 (((x1 + (47 : Int32)) + x4).toNatClampNeg)), .int x3]) rfl ?_
        refine lv_iload_n hx hb dX7_guestsOn_32 rfl (lv_at hl 2 rfl) ?_
        refine lv_icmp_ne (tgt := 43) hx hb dX7_guestsOn_33 (by decide) (fun c4 => ?_) (fun c4 => ?_)
        · have hf := if_f c4 hf
          refine lv_iconst (v := 0) hx hb dX7_guestsOn_43 (by decide) ?_
          exact hB44 x1 x2 x4 (0 : Int32) x3 _ _ _ hf hP hS (lv_sub hl [0, 1, 2, 4] rfl)
        · have hf := if_t c4 hf
          refine lv_iconst (v := 1) hx hb dX7_guestsOn_36 (by decide) ?_
          refine lv_iload hx hb dX7_guestsOn_37 (lv_at hl 4 rfl) ?_
          refine lv_ishl hx hb dX7_guestsOn_39 ?_
          refine lv_goto (tgt := 44) hx hb dX7_guestsOn_40 (by decide) ?_
          exact hB44 x1 x2 x4 ((1 : Int32) <<< (x4 &&& 31)) x3 _ _ _ hf hP hS (lv_sub hl [0, 1, 2, 4] rfl)
  unfold f_X7_guestsOn at hf
  refine lv_iconst (v := 0) hx hb dX7_guestsOn_0 (by decide) ?_
  refine lv_istore_n (lv' := [(3, .int (0 : Int32)), (0, .ref (E.ad 22 0)), (1, .int a1), (2, .int a2)]) hx hb dX7_guestsOn_1 rfl hl (by decide) rfl (fun ls hl => ?_)
  refine lv_iconst (v := 0) hx hb dX7_guestsOn_2 (by decide) ?_
  refine lv_istore (lv' := [(4, .int (0 : Int32)), (3, .int (0 : Int32)), (0, .ref (E.ad 22 0)), (1, .int a1), (2, .int a2)]) hx hb dX7_guestsOn_3 hl (by decide) rfl (fun ls hl => ?_)
  exact hL5 FUEL a1 a2 (0 : Int32) (0 : Int32) _ _ _ hf hP hS (lv_sub hl [2, 3, 4, 1, 0] rfl)
theorem KW_X7_guestsOn (l : Launch) {E : En} (hE : Inj E) (X : Wd) (a1 : Int32) (a2 : Int32) {r : Int32} (hf : f_X7_guestsOn (X 22) a1 a2 = some r) : Cti l E yX7_guestsOn wsX7_guestsOn rm_X7_guestsOn [.ref (E.ad 22 0), .int a1, .int a2] X r X := by
  have h := K_X7_guestsOn l hE X (X 22) a1 a2 hf
  rw [lens_all] at h
  exact h
/-! X7_bitsOf -/
abbrev rm_X7_bitsOf : Room := { frames := 0, cells := 0, slots := 0, locals := 0 }
set_option maxHeartbeats 4000000 in
set_option maxRecDepth 100000 in
theorem K_X7_bitsOf (l : Launch) {E : En} (hE : Inj E) (X : Wd) (a0 : Int32) {r : Int32} (hf : f_X7_bitsOf a0 = some r) : Cti l E yX7_bitsOf wsX7_bitsOf rm_X7_bitsOf [.int a0] X r X := by
  refine meet_i (cc := cX7_bitsOf) (maxL := 3) (own := RX7) (by decide) rfl rfl (Nat.le_of_ble_eq_true rfl) ?_
  intro p e s m below meth c Z S hB fin hP hS ls hl
  have hx := S.1
  have hb := S.2.1
  have hl : lv_has ls 3 [(0, .int a0)] := hl
  have hL4 : ∀ (n4 : Nat) (x1 : Int32) (x2 : Int32) (H : Heap) (locs : List Loc) (ls : Array Slot), f_X7_bitsOf_l4 n4 x1 x2 = some r → va_P E.1 vwCl (GW E X) H → va_S (GA E) s.heap H locs → lv_has ls 3 [(1, .int x1), (2, .int x2)] → W p l e rm_X7_bitsOf s m ([.int a0] : List Value).toArray below meth c H locs 0 0 Z (F0 m 4 ls []) := by
    intro n4
    induction n4 with
    | zero =>
      intro x1 x2 H locs ls hf
      cases (show (none : Option _) = some _ from hf)
    | succ n4 ih4 =>
      intro x1 x2 H locs ls hf hP hS hl
      unfold f_X7_bitsOf_l4 at hf
      refine lv_iload_n hx hb dX7_bitsOf_4 rfl (lv_at hl 1 rfl) ?_
      refine lv_if_le (tgt := 21) hx hb dX7_bitsOf_5 (by decide) (fun c1 => ?_) (fun c1 => ?_)
      · have hf := if_t c1 hf
        refine lv_iload_n hx hb dX7_bitsOf_21 rfl (lv_at hl 0 rfl) ?_
        exact fin dX7_bitsOf_22 (s0 hf) rfl hP hS
      · have hf := if_f c1 hf
        refine lv_iload_n hx hb dX7_bitsOf_8 rfl (lv_at hl 0 rfl) ?_
        refine lv_iload_n hx hb dX7_bitsOf_9 rfl (lv_at hl 1 rfl) ?_
        refine lv_iconst (v := 1) hx hb dX7_bitsOf_10 (by decide) ?_
        refine lv_iand hx hb dX7_bitsOf_11 ?_
        refine lv_iadd hx hb dX7_bitsOf_12 ?_
        refine lv_istore_n (lv' := [(1, .int (x1 + (x2 &&& (1 : Int32)))), (2, .int x2)]) hx hb dX7_bitsOf_13 rfl hl (by decide) rfl (fun ls hl => ?_)
        refine lv_iload_n hx hb dX7_bitsOf_14 rfl (lv_at hl 1 rfl) ?_
        refine lv_iconst (v := 1) hx hb dX7_bitsOf_15 (by decide) ?_
        refine lv_ishr hx hb dX7_bitsOf_16 ?_
        refine lv_istore_n (lv' := [(2, .int (x2 >>> ((1 : Int32) &&& 31))), (1, .int (x1 + (x2 &&& (1 : Int32))))]) hx hb dX7_bitsOf_17 rfl hl (by decide) rfl (fun ls hl => ?_)
        refine lv_goto (tgt := 4) hx hb dX7_bitsOf_18 (by decide) ?_
        exact ih4 (x1 + (x2 &&& (1 : Int32))) (x2 >>> ((1 : Int32) &&& 31)) _ _ _ hf hP hS (lv_sub hl [1, 0] rfl)
  unfold f_X7_bitsOf at hf
  refine lv_iconst (v := 0) hx hb dX7_bitsOf_0 (by decide) ?_
  refine lv_istore_n (lv' := [(1, .int (0 : Int32)), (0, .int a0)]) hx hb dX7_bitsOf_1 rfl hl (by decide) rfl (fun ls hl => ?_)
  refine lv_iload_n hx hb dX7_bitsOf_2 rfl (lv_at hl 1 rfl) ?_
  refine lv_istore_n (lv' := [(2, .int a0), (1, .int (0 : Int32)), (0, .int a0)]) hx hb dX7_bitsOf_3 rfl hl (by decide) rfl (fun ls hl => ?_)
  exact hL4 FUEL (0 : Int32) a0 _ _ _ hf hP hS (lv_sub hl [1, 0] rfl)
/-! X7_lastOn -/
abbrev rm_X7_lastOn : Room := { frames := 0, cells := 0, slots := 0, locals := 0 }
set_option maxHeartbeats 4000000 in
set_option maxRecDepth 100000 in
theorem K_X7_lastOn (l : Launch) {E : En} (hE : Inj E) (σ : Wd) (z : Ob) (a1 : Int32) {r : Int32} (hf : f_X7_lastOn z a1 = some r) : Cti l E yX7_lastOn wsX7_lastOn rm_X7_lastOn [.ref (E.ad 22 0), .int a1] (va_up σ 22 z) r (va_up σ 22 z) := by
  refine meet_i (cc := cX7_lastOn) (maxL := 2) (own := RX7) (by decide) rfl rfl (Nat.le_of_ble_eq_true rfl) ?_
  intro p e s m below meth c Z S hB fin hP hS ls hl
  have hx := S.1
  have hb := S.2.1
  have hl : lv_has ls 2 [(0, .ref (E.ad 22 0)), (1, .int a1)] := hl
  have hinX7 : ∀ w ∈ u_ws RX7 TX7 25, w ∈ wsX7_lastOn := by decide +kernel
  have fl7 := S.2.2.2.2 (.fieldLink RX7 7 "MownMazeModel" "state" "[I") (by decide +kernel)
  unfold f_X7_lastOn at hf
  refine lv_aload_n hx hb dX7_lastOn_0 rfl (lv_at hl 0 rfl) ?_
  refine g_get (v := .ref (E.ad 22 1)) S hB hinX7 hP m_22_0 rfl rfl 0 (by decide) fl7 rfl rfl dX7_lastOn_1 ?_
  refine lv_iload_n hx hb dX7_lastOn_4 rfl (lv_at hl 1 rfl) ?_
  refine lv_bipush (v := 38) hx hb dX7_lastOn_5 (by decide) ?_
  refine lv_iadd hx hb dX7_lastOn_7 ?_
  obtain ⟨hv1, hf⟩ := ck_some hf
  refine g_iald (r := z 1) S hB hP m_22_1 rfl hv1 dX7_lastOn_8 ?_
  refine W.eq (g2 := F0 m 9 ls [.int (z 1 ((a1 + (38 : Int32)).toNatClampNeg))]) rfl ?_
  refine lv_if_ne (tgt := 17) hx hb dX7_lastOn_9 (by decide) (fun c2 => ?_) (fun c2 => ?_)
  · have hf := if_f c2 hf
    refine lv_aload_n hx hb dX7_lastOn_17 rfl (lv_at hl 0 rfl) ?_
    refine g_get (v := .ref (E.ad 22 1)) S hB hinX7 hP m_22_0 rfl rfl 0 (by decide) fl7 rfl rfl dX7_lastOn_18 ?_
    refine lv_iload_n hx hb dX7_lastOn_21 rfl (lv_at hl 1 rfl) ?_
    refine lv_bipush (v := 38) hx hb dX7_lastOn_22 (by decide) ?_
    refine lv_iadd hx hb dX7_lastOn_24 ?_
    obtain ⟨hv3, hf⟩ := ck_some hf
    refine g_iald (r := z 1) S hB hP m_22_1 rfl hv3 dX7_lastOn_25 ?_
    refine W.eq (g2 := F0 m 26 ls [.int (z 1 ((a1 + (38 : Int32)).toNatClampNeg))]) rfl ?_
    refine lv_iconst (v := 1) hx hb dX7_lastOn_26 (by decide) ?_
    refine lv_isub hx hb dX7_lastOn_27 ?_
    exact fin dX7_lastOn_28 (s0 hf) rfl hP hS
  · have hf := if_t c2 hf
    refine lv_bipush (v := -4) hx hb dX7_lastOn_12 (by decide) ?_
    refine lv_goto (tgt := 28) hx hb dX7_lastOn_14 (by decide) ?_
    exact fin dX7_lastOn_28 (s0 hf) rfl hP hS
theorem KW_X7_lastOn (l : Launch) {E : En} (hE : Inj E) (X : Wd) (a1 : Int32) {r : Int32} (hf : f_X7_lastOn (X 22) a1 = some r) : Cti l E yX7_lastOn wsX7_lastOn rm_X7_lastOn [.ref (E.ad 22 0), .int a1] X r X := by
  have h := K_X7_lastOn l hE X (X 22) a1 hf
  rw [lens_all] at h
  exact h
/-! X7_rule -/
abbrev rm_X7_rule : Room := { frames := 1, cells := 0, slots := 0, locals := 24 }
set_option maxHeartbeats 4000000 in
set_option maxRecDepth 100000 in
theorem K_X7_rule (l : Launch) {E : En} (hE : Inj E) (σ : Wd) (z : Ob) (a1 : Int32) {r : Int32} (hf : f_X7_rule z a1 = some r) : Cti l E yX7_rule wsX7_rule rm_X7_rule [.ref (E.ad 22 0), .int a1] (va_up σ 22 z) r (va_up σ 22 z) := by
  refine meet_i (cc := cX7_rule) (maxL := 2) (own := RX7) (by decide) rfl rfl (Nat.le_of_ble_eq_true rfl) ?_
  intro p e s m below meth c Z S hB fin hP hS ls hl
  have hx := S.1
  have hb := S.2.1
  have hl : lv_has ls 2 [(0, .ref (E.ad 22 0)), (1, .int a1)] := hl
  have hinX7 : ∀ w ∈ u_ws RX7 TX7 25, w ∈ wsX7_rule := by decide +kernel
  have fl7 := S.2.2.2.2 (.fieldLink RX7 7 "MownMazeModel" "state" "[I") (by decide +kernel)
  unfold f_X7_rule at hf
  refine lv_iload_n hx hb dX7_rule_0 rfl (lv_at hl 1 rfl) ?_
  by_cases c1 : a1 = (0 : Int32)
  · have hf := if_t c1 hf
    refine lv_tableIn (off := 47) (tgt := 48) hx hb dX7_rule_1 (by rw [c1]; decide) (by rw [c1]; decide) (by rw [c1]; rfl) (by decide) ?_
    refine lv_aload_n hx hb dX7_rule_48 rfl (lv_at hl 0 rfl) ?_
    refine g_get (v := .ref (E.ad 22 1)) S hB hinX7 hP m_22_0 rfl rfl 0 (by decide) fl7 rfl rfl dX7_rule_49 ?_
    refine lv_bipush (v := 37) hx hb dX7_rule_52 (by decide) ?_
    refine g_iald (r := z 1) S hB hP m_22_1 rfl (by unfold vp_in; decide) dX7_rule_54 ?_
    exact fin dX7_rule_55 (s0 hf) rfl hP hS
  · have hf := if_f c1 hf
    by_cases c2 : a1 = (1 : Int32)
    · have hf := if_t c2 hf
      refine lv_tableIn (off := 55) (tgt := 56) hx hb dX7_rule_1 (by rw [c2]; decide) (by rw [c2]; decide) (by rw [c2]; rfl) (by decide) ?_
      refine lv_aload_n hx hb dX7_rule_56 rfl (lv_at hl 0 rfl) ?_
      refine g_get (v := .ref (E.ad 22 1)) S hB hinX7 hP m_22_0 rfl rfl 0 (by decide) fl7 rfl rfl dX7_rule_57 ?_
      refine lv_bipush (v := 51) hx hb dX7_rule_60 (by decide) ?_
      refine g_iald (r := z 1) S hB hP m_22_1 rfl (by unfold vp_in; decide) dX7_rule_62 ?_
      exact fin dX7_rule_63 (s0 hf) rfl hP hS
    · have hf := if_f c2 hf
      by_cases c3 : a1 = (2 : Int32)
      · have hf := if_t c3 hf
        refine lv_tableIn (off := 63) (tgt := 64) hx hb dX7_rule_1 (by rw [c3]; decide) (by rw [c3]; decide) (by rw [c3]; rfl) (by decide) ?_
        refine lv_aload_n hx hb dX7_rule_64 rfl (lv_at hl 0 rfl) ?_
        refine g_get (v := .ref (E.ad 22 1)) S hB hinX7 hP m_22_0 rfl rfl 0 (by decide) fl7 rfl rfl dX7_rule_65 ?_
        refine lv_bipush (v := 52) hx hb dX7_rule_68 (by decide) ?_
        refine g_iald (r := z 1) S hB hP m_22_1 rfl (by unfold vp_in; decide) dX7_rule_70 ?_
        exact fin dX7_rule_71 (s0 hf) rfl hP hS
      · have hf := if_f c3 hf
        by_cases c4 : a1 = (3 : Int32)
        · have hf := if_t c4 hf
          refine lv_tableIn (off := 71) (tgt := 72) hx hb dX7_rule_1 (by rw [c4]; decide) (by rw [c4]; decide) (by rw [c4]; rfl) (by decide) ?_
          refine lv_aload_n hx hb dX7_rule_72 rfl (lv_at hl 0 rfl) ?_
          refine g_get (v := .ref (E.ad 22 1)) S hB hinX7 hP m_22_0 rfl rfl 0 (by decide) fl7 rfl rfl dX7_rule_73 ?_
          refine lv_bipush (v := 24) hx hb dX7_rule_76 (by decide) ?_
          refine g_iald (r := z 1) S hB hP m_22_1 rfl (by unfold vp_in; decide) dX7_rule_78 ?_
          exact fin dX7_rule_79 (s0 hf) rfl hP hS
        · have hf := if_f c4 hf
          by_cases c5 : a1 = (4 : Int32)
          · have hf := if_t c5 hf
            refine lv_tableIn (off := 79) (tgt := 80) hx hb dX7_rule_1 (by rw [c5]; decide) (by rw [c5]; decide) (by rw [c5]; rfl) (by decide) ?_
            refine lv_aload_n hx hb dX7_rule_80 rfl (lv_at hl 0 rfl) ?_
            refine lv_iconst (v := 0) hx hb dX7_rule_81 (by decide) ?_
            obtain ⟨q6, hq6, hf⟩ := bind_some hf
            refine callV_i (As := [.int (0 : Int32)]) (rest := []) S hB hP hS (C := RX7) (b := E.ad 22 0) (g_recv (o := 22) (d := 0) hB hP m_22_0 rfl rfl) (K_X7_standOn l hE σ z (0 : Int32) hq6) (cwV 1 S.2.2.2.2 gX7_rule_X7_standOn rfl rfl rfl (by decide +kernel) ⟨Nat.le_of_ble_eq_true rfl, Nat.le_of_ble_eq_true rfl⟩) rfl hl.1 rfl (Nat.le_of_ble_eq_true rfl) dX7_rule_82 ⟨Nat.zero_le _, Nat.zero_le _⟩ (fun H locs hP hS => ?_)
            obtain ⟨q7, hq7, hf⟩ := bind_some hf
            refine callS_i (As := [.int q6]) (rest := []) S hB hP hS (K_X7_bitsOf l hE (va_up σ 22 z) q6 hq7) (va_cwS 1 S.2.2.2.2 gX7_rule_X7_bitsOf rfl rfl rfl (by decide +kernel) ⟨Nat.le_of_ble_eq_true rfl, Nat.le_of_ble_eq_true rfl⟩) rfl hl.1 rfl (Nat.le_of_ble_eq_true rfl) dX7_rule_85 ⟨Nat.zero_le _, Nat.zero_le _⟩ (fun H locs hP hS => ?_)
            exact fin dX7_rule_88 (s0 hf) rfl hP hS
          · have hf := if_f c5 hf
            by_cases c8 : a1 = (5 : Int32)
            · have hf := if_t c8 hf
              refine lv_tableIn (off := 88) (tgt := 89) hx hb dX7_rule_1 (by rw [c8]; decide) (by rw [c8]; decide) (by rw [c8]; rfl) (by decide) ?_
              refine lv_aload_n hx hb dX7_rule_89 rfl (lv_at hl 0 rfl) ?_
              refine lv_iconst (v := 0) hx hb dX7_rule_90 (by decide) ?_
              refine lv_iconst (v := 1) hx hb dX7_rule_91 (by decide) ?_
              obtain ⟨q9, hq9, hf⟩ := bind_some hf
              refine callV_i (As := [.int (0 : Int32), .int (1 : Int32)]) (rest := []) S hB hP hS (C := RX7) (b := E.ad 22 0) (g_recv (o := 22) (d := 0) hB hP m_22_0 rfl rfl) (K_X7_guestsOn l hE σ z (0 : Int32) (1 : Int32) hq9) (cwV 2 S.2.2.2.2 gX7_rule_X7_guestsOn rfl rfl rfl (by decide +kernel) ⟨Nat.le_of_ble_eq_true rfl, Nat.le_of_ble_eq_true rfl⟩) rfl hl.1 rfl (Nat.le_of_ble_eq_true rfl) dX7_rule_92 ⟨Nat.zero_le _, Nat.zero_le _⟩ (fun H locs hP hS => ?_)
              exact fin dX7_rule_95 (s0 hf) rfl hP hS
            · have hf := if_f c8 hf
              by_cases c10 : a1 = (6 : Int32)
              · have hf := if_t c10 hf
                refine lv_tableIn (off := 95) (tgt := 96) hx hb dX7_rule_1 (by rw [c10]; decide) (by rw [c10]; decide) (by rw [c10]; rfl) (by decide) ?_
                refine lv_aload_n hx hb dX7_rule_96 rfl (lv_at hl 0 rfl) ?_
                refine lv_iconst (v := 0) hx hb dX7_rule_97 (by decide) ?_
                refine lv_iconst (v := 2) hx hb dX7_rule_98 (by decide) ?_
                obtain ⟨q11, hq11, hf⟩ := bind_some hf
                refine callV_i (As := [.int (0 : Int32), .int (2 : Int32)]) (rest := []) S hB hP hS (C := RX7) (b := E.ad 22 0) (g_recv (o := 22) (d := 0) hB hP m_22_0 rfl rfl) (K_X7_guestsOn l hE σ z (0 : Int32) (2 : Int32) hq11) (cwV 2 S.2.2.2.2 gX7_rule_X7_guestsOn rfl rfl rfl (by decide +kernel) ⟨Nat.le_of_ble_eq_true rfl, Nat.le_of_ble_eq_true rfl⟩) rfl hl.1 rfl (Nat.le_of_ble_eq_true rfl) dX7_rule_99 ⟨Nat.zero_le _, Nat.zero_le _⟩ (fun H locs hP hS => ?_)
                exact fin dX7_rule_102 (s0 hf) rfl hP hS
              · have hf := if_f c10 hf
                by_cases c12 : a1 = (7 : Int32)
                · have hf := if_t c12 hf
                  refine lv_tableIn (off := 102) (tgt := 103) hx hb dX7_rule_1 (by rw [c12]; decide) (by rw [c12]; decide) (by rw [c12]; rfl) (by decide) ?_
                  refine lv_aload_n hx hb dX7_rule_103 rfl (lv_at hl 0 rfl) ?_
                  refine lv_iconst (v := 0) hx hb dX7_rule_104 (by decide) ?_
                  obtain ⟨q13, hq13, hf⟩ := bind_some hf
                  refine callV_i (As := [.int (0 : Int32)]) (rest := []) S hB hP hS (C := RX7) (b := E.ad 22 0) (g_recv (o := 22) (d := 0) hB hP m_22_0 rfl rfl) (K_X7_lastOn l hE σ z (0 : Int32) hq13) (cwV 1 S.2.2.2.2 gX7_rule_X7_lastOn rfl rfl rfl (by decide +kernel) ⟨Nat.le_of_ble_eq_true rfl, Nat.le_of_ble_eq_true rfl⟩) rfl hl.1 rfl (Nat.le_of_ble_eq_true rfl) dX7_rule_105 ⟨Nat.zero_le _, Nat.zero_le _⟩ (fun H locs hP hS => ?_)
                  exact fin dX7_rule_108 (s0 hf) rfl hP hS
                · have hf := if_f c12 hf
                  have tc1 := lv_neT c1 (a := 0) (by decide)
                  have tc2 := lv_neT c2 (a := 1) (by decide)
                  have tc3 := lv_neT c3 (a := 2) (by decide)
                  have tc4 := lv_neT c4 (a := 3) (by decide)
                  have tc5 := lv_neT c5 (a := 4) (by decide)
                  have tc8 := lv_neT c8 (a := 5) (by decide)
                  have tc10 := lv_neT c10 (a := 6) (by decide)
                  have tc12 := lv_neT c12 (a := 7) (by decide)
                  refine lv_tableOut (tgt := 109) hx hb dX7_rule_1 (by omega) (by decide) ?_
                  refine lv_iconst (v := -1) hx hb dX7_rule_109 (by decide) ?_
                  exact fin dX7_rule_110 (s0 hf) rfl hP hS
theorem KW_X7_rule (l : Launch) {E : En} (hE : Inj E) (X : Wd) (a1 : Int32) {r : Int32} (hf : f_X7_rule (X 22) a1 = some r) : Cti l E yX7_rule wsX7_rule rm_X7_rule [.ref (E.ad 22 0), .int a1] X r X := by
  have h := K_X7_rule l hE X (X 22) a1 hf
  rw [lens_all] at h
  exact h
/-! X7_hedge -/
abbrev rm_X7_hedge : Room := { frames := 2, cells := 0, slots := 0, locals := 45 }
set_option maxHeartbeats 4000000 in
set_option maxRecDepth 100000 in
theorem K_X7_hedge (l : Launch) {E : En} (hE : Inj E) (σ : Wd) (z : Ob) (a1 : Int32) {r : Int32} (hf : f_X7_hedge z a1 = some r) : Cti l E yX7_hedge wsX7_hedge rm_X7_hedge [.ref (E.ad 22 0), .int a1] (va_up σ 22 z) r (va_up σ 22 z) := by
  refine meet_i (cc := cX7_hedge) (maxL := 2) (own := RX7) (by decide) rfl rfl (Nat.le_of_ble_eq_true rfl) ?_
  intro p e s m below meth c Z S hB fin hP hS ls hl
  have hx := S.1
  have hb := S.2.1
  have hl : lv_has ls 2 [(0, .ref (E.ad 22 0)), (1, .int a1)] := hl
  have hinX7 : ∀ w ∈ u_ws RX7 TX7 25, w ∈ wsX7_hedge := by decide +kernel
  have fl7 := S.2.2.2.2 (.fieldLink RX7 7 "MownMazeModel" "state" "[I") (by decide +kernel)
  unfold f_X7_hedge at hf
  refine lv_iload_n hx hb dX7_hedge_0 rfl (lv_at hl 1 rfl) ?_
  obtain ⟨q1, hq1, hf⟩ := bind_some hf
  refine callS_i (As := [.int a1]) (rest := []) S hB hP hS (K_X7_isHedge l hE (va_up σ 22 z) a1 hq1) (va_cwS 1 S.2.2.2.2 gX7_hedge_X7_isHedge rfl rfl rfl (by decide +kernel) ⟨Nat.le_of_ble_eq_true rfl, Nat.le_of_ble_eq_true rfl⟩) rfl hl.1 rfl (Nat.le_of_ble_eq_true rfl) dX7_hedge_1 ⟨Nat.zero_le _, Nat.zero_le _⟩ (fun H locs hP hS => ?_)
  refine lv_if_eq (tgt := 16) hx hb dX7_hedge_4 (by decide) (fun c2 => ?_) (fun c2 => ?_)
  · have hf := if_t c2 hf
    refine lv_iconst (v := -1) hx hb dX7_hedge_16 (by decide) ?_
    exact fin dX7_hedge_17 (s0 hf) rfl hP hS
  · have hf := if_f c2 hf
    refine lv_aload_n hx hb dX7_hedge_7 rfl (lv_at hl 0 rfl) ?_
    refine g_get (v := .ref (E.ad 22 1)) S hB hinX7 hP m_22_0 rfl rfl 0 (by decide) fl7 rfl rfl dX7_hedge_8 ?_
    refine lv_iload_n hx hb dX7_hedge_11 rfl (lv_at hl 1 rfl) ?_
    obtain ⟨hv3, hf⟩ := ck_some hf
    refine g_iald (r := z 1) S hB hP m_22_1 rfl hv3 dX7_hedge_12 ?_
    refine lv_goto (tgt := 17) hx hb dX7_hedge_13 (by decide) ?_
    exact fin dX7_hedge_17 (s0 hf) rfl hP hS
theorem KW_X7_hedge (l : Launch) {E : En} (hE : Inj E) (X : Wd) (a1 : Int32) {r : Int32} (hf : f_X7_hedge (X 22) a1 = some r) : Cti l E yX7_hedge wsX7_hedge rm_X7_hedge [.ref (E.ad 22 0), .int a1] X r X := by
  have h := K_X7_hedge l hE X (X 22) a1 hf
  rw [lens_all] at h
  exact h
/-! X7_gardener -/
abbrev rm_X7_gardener : Room := { frames := 2, cells := 0, slots := 0, locals := 46 }
set_option maxHeartbeats 4000000 in
set_option maxRecDepth 100000 in
theorem K_X7_gardener (l : Launch) {E : En} (hE : Inj E) (σ : Wd) (z : Ob) (a1 : Int32) (a2 : Int32) {r : Int32} (hf : f_X7_gardener z a1 a2 = some r) : Cti l E yX7_gardener wsX7_gardener rm_X7_gardener [.ref (E.ad 22 0), .int a1, .int a2] (va_up σ 22 z) r (va_up σ 22 z) := by
  refine meet_i (cc := cX7_gardener) (maxL := 3) (own := RX7) (by decide) rfl rfl (Nat.le_of_ble_eq_true rfl) ?_
  intro p e s m below meth c Z S hB fin hP hS ls hl
  have hx := S.1
  have hb := S.2.1
  have hl : lv_has ls 3 [(0, .ref (E.ad 22 0)), (1, .int a1), (2, .int a2)] := hl
  have hinX7 : ∀ w ∈ u_ws RX7 TX7 25, w ∈ wsX7_gardener := by decide +kernel
  have fl7 := S.2.2.2.2 (.fieldLink RX7 7 "MownMazeModel" "state" "[I") (by decide +kernel)
  unfold f_X7_gardener at hf
  refine lv_aload_n hx hb dX7_gardener_0 rfl (lv_at hl 0 rfl) ?_
  refine lv_iload_n hx hb dX7_gardener_1 rfl (lv_at hl 1 rfl) ?_
  obtain ⟨q1, hq1, hf⟩ := bind_some hf
  refine callV_i (As := [.int a1]) (rest := []) S hB hP hS (C := RX7) (b := E.ad 22 0) (g_recv (o := 22) (d := 0) hB hP m_22_0 rfl rfl) (K_X7_isGardener l hE σ z a1 hq1) (cwV 1 S.2.2.2.2 gX7_gardener_X7_isGardener rfl rfl rfl (by decide +kernel) ⟨Nat.le_of_ble_eq_true rfl, Nat.le_of_ble_eq_true rfl⟩) rfl hl.1 rfl (Nat.le_of_ble_eq_true rfl) dX7_gardener_2 ⟨Nat.zero_le _, Nat.zero_le _⟩ (fun H locs hP hS => ?_)
  refine lv_if_eq (tgt := 20) hx hb dX7_gardener_5 (by decide) (fun c2 => ?_) (fun c2 => ?_)
  · have hf := if_t c2 hf
    refine lv_iconst (v := -1) hx hb dX7_gardener_20 (by decide) ?_
    exact fin dX7_gardener_21 (s0 hf) rfl hP hS
  · have hf := if_f c2 hf
    refine lv_iload_n hx hb dX7_gardener_8 rfl (lv_at hl 2 rfl) ?_
    refine lv_i2l hx hb dX7_gardener_9 (v := a2.toInt64) rfl ?_
    refine lv_lconst (v := 0) hx hb dX7_gardener_10 (by decide) ?_
    refine lv_ldc2 hx hb S.2.2.2.1 (S.2.2.2.2 (.constantLong RX7 175 (3)) (by decide +kernel)) dX7_gardener_11 ?_
    obtain ⟨q3, hq3, hf⟩ := bind_some hf
    refine callS_i (As := [.long a2.toInt64, .long (0 : Int64), .long (3 : Int64)]) (rest := []) S hB hP hS (K_X7_in l hE (va_up σ 22 z) a2.toInt64 (0 : Int64) (3 : Int64) hq3) (va_cwS 3 S.2.2.2.2 gX7_gardener_X7_in rfl rfl rfl (by decide +kernel) ⟨Nat.le_of_ble_eq_true rfl, Nat.le_of_ble_eq_true rfl⟩) rfl hl.1 rfl (Nat.le_of_ble_eq_true rfl) dX7_gardener_14 ⟨Nat.zero_le _, Nat.zero_le _⟩ (fun H locs hP hS => ?_)
    refine lv_if_ne (tgt := 22) hx hb dX7_gardener_17 (by decide) (fun c4 => ?_) (fun c4 => ?_)
    · have hf := if_f c4 hf
      refine lv_iload_n hx hb dX7_gardener_22 rfl (lv_at hl 2 rfl) ?_
      refine lv_iconst (v := 3) hx hb dX7_gardener_23 (by decide) ?_
      refine lv_icmp_ge (tgt := 43) hx hb dX7_gardener_24 (by decide) (fun c5 => ?_) (fun c5 => ?_)
      · have hf := if_t c5 hf
        refine lv_aload_n hx hb dX7_gardener_43 rfl (lv_at hl 0 rfl) ?_
        refine lv_iconst (v := 0) hx hb dX7_gardener_44 (by decide) ?_
        refine lv_iload_n hx hb dX7_gardener_45 rfl (lv_at hl 1 rfl) ?_
        obtain ⟨q6, hq6, hf⟩ := bind_some hf
        refine callV_i (As := [.int (0 : Int32), .int a1]) (rest := []) S hB hP hS (C := RX7) (b := E.ad 22 0) (g_recv (o := 22) (d := 0) hB hP m_22_0 rfl rfl) (K_X7_goalOn l hE σ z (0 : Int32) a1 hq6) (cwV 2 S.2.2.2.2 gX7_gardener_X7_goalOn rfl rfl rfl (by decide +kernel) ⟨Nat.le_of_ble_eq_true rfl, Nat.le_of_ble_eq_true rfl⟩) rfl hl.1 rfl (Nat.le_of_ble_eq_true rfl) dX7_gardener_46 ⟨Nat.zero_le _, Nat.zero_le _⟩ (fun H locs hP hS => ?_)
        exact fin dX7_gardener_49 (s0 hf) rfl hP hS
      · have hf := if_f c5 hf
        refine lv_aload_n hx hb dX7_gardener_27 rfl (lv_at hl 0 rfl) ?_
        refine g_get (v := .ref (E.ad 22 1)) S hB hinX7 hP m_22_0 rfl rfl 0 (by decide) fl7 rfl rfl dX7_gardener_28 ?_
        refine lv_bipush (v := 25) hx hb dX7_gardener_31 (by decide) ?_
        refine lv_iconst (v := 4) hx hb dX7_gardener_33 (by decide) ?_
        refine lv_iload_n hx hb dX7_gardener_34 rfl (lv_at hl 2 rfl) ?_
        refine lv_imul hx hb dX7_gardener_35 ?_
        refine lv_iadd hx hb dX7_gardener_36 ?_
        refine lv_iload_n hx hb dX7_gardener_37 rfl (lv_at hl 1 rfl) ?_
        refine lv_iadd hx hb dX7_gardener_38 ?_
        obtain ⟨hv7, hf⟩ := ck_some hf
        refine g_iald (r := z 1) S hB hP m_22_1 rfl hv7 dX7_gardener_39 ?_
        refine W.eq (g2 := F0 m 40 ls [.int (z 1 ((((25 : Int32) + ((4 : Int32) * a2)) + a1).toNatClampNeg))]) rfl ?_
        refine lv_goto (tgt := 49) hx hb dX7_gardener_40 (by decide) ?_
        exact fin dX7_gardener_49 (s0 hf) rfl hP hS
    · have hf := if_t c4 hf
      refine lv_iconst (v := -1) hx hb dX7_gardener_20 (by decide) ?_
      exact fin dX7_gardener_21 (s0 hf) rfl hP hS
theorem KW_X7_gardener (l : Launch) {E : En} (hE : Inj E) (X : Wd) (a1 : Int32) (a2 : Int32) {r : Int32} (hf : f_X7_gardener (X 22) a1 a2 = some r) : Cti l E yX7_gardener wsX7_gardener rm_X7_gardener [.ref (E.ad 22 0), .int a1, .int a2] X r X := by
  have h := K_X7_gardener l hE X (X 22) a1 a2 hf
  rw [lens_all] at h
  exact h
/-! X7_guest -/
abbrev rm_X7_guest : Room := { frames := 2, cells := 0, slots := 0, locals := 46 }
set_option maxHeartbeats 4000000 in
set_option maxRecDepth 100000 in
theorem K_X7_guest (l : Launch) {E : En} (hE : Inj E) (σ : Wd) (z : Ob) (a1 : Int32) (a2 : Int32) {r : Int32} (hf : f_X7_guest z a1 a2 = some r) : Cti l E yX7_guest wsX7_guest rm_X7_guest [.ref (E.ad 22 0), .int a1, .int a2] (va_up σ 22 z) r (va_up σ 22 z) := by
  refine meet_i (cc := cX7_guest) (maxL := 3) (own := RX7) (by decide) rfl rfl (Nat.le_of_ble_eq_true rfl) ?_
  intro p e s m below meth c Z S hB fin hP hS ls hl
  have hx := S.1
  have hb := S.2.1
  have hl : lv_has ls 3 [(0, .ref (E.ad 22 0)), (1, .int a1), (2, .int a2)] := hl
  have hinX7 : ∀ w ∈ u_ws RX7 TX7 25, w ∈ wsX7_guest := by decide +kernel
  have fl7 := S.2.2.2.2 (.fieldLink RX7 7 "MownMazeModel" "state" "[I") (by decide +kernel)
  unfold f_X7_guest at hf
  refine lv_aload_n hx hb dX7_guest_0 rfl (lv_at hl 0 rfl) ?_
  refine lv_iload_n hx hb dX7_guest_1 rfl (lv_at hl 1 rfl) ?_
  obtain ⟨q1, hq1, hf⟩ := bind_some hf
  refine callV_i (As := [.int a1]) (rest := []) S hB hP hS (C := RX7) (b := E.ad 22 0) (g_recv (o := 22) (d := 0) hB hP m_22_0 rfl rfl) (K_X7_isGuest l hE σ z a1 hq1) (cwV 1 S.2.2.2.2 gX7_guest_X7_isGuest rfl rfl rfl (by decide +kernel) ⟨Nat.le_of_ble_eq_true rfl, Nat.le_of_ble_eq_true rfl⟩) rfl hl.1 rfl (Nat.le_of_ble_eq_true rfl) dX7_guest_2 ⟨Nat.zero_le _, Nat.zero_le _⟩ (fun H locs hP hS => ?_)
  refine lv_if_eq (tgt := 36) hx hb dX7_guest_5 (by decide) (fun c2 => ?_) (fun c2 => ?_)
  · have hf := if_t c2 hf
    refine lv_iconst (v := -1) hx hb dX7_guest_36 (by decide) ?_
    exact fin dX7_guest_37 (s0 hf) rfl hP hS
  · have hf := if_f c2 hf
    refine lv_iload_n hx hb dX7_guest_8 rfl (lv_at hl 2 rfl) ?_
    refine lv_i2l hx hb dX7_guest_9 (v := a2.toInt64) rfl ?_
    refine lv_lconst (v := 0) hx hb dX7_guest_10 (by decide) ?_
    refine lv_ldc2 hx hb S.2.2.2.1 (S.2.2.2.2 (.constantLong RX7 180 (2)) (by decide +kernel)) dX7_guest_11 ?_
    obtain ⟨q3, hq3, hf⟩ := bind_some hf
    refine callS_i (As := [.long a2.toInt64, .long (0 : Int64), .long (2 : Int64)]) (rest := []) S hB hP hS (K_X7_in l hE (va_up σ 22 z) a2.toInt64 (0 : Int64) (2 : Int64) hq3) (va_cwS 3 S.2.2.2.2 gX7_guest_X7_in rfl rfl rfl (by decide +kernel) ⟨Nat.le_of_ble_eq_true rfl, Nat.le_of_ble_eq_true rfl⟩) rfl hl.1 rfl (Nat.le_of_ble_eq_true rfl) dX7_guest_14 ⟨Nat.zero_le _, Nat.zero_le _⟩ (fun H locs hP hS => ?_)
    refine lv_if_eq (tgt := 36) hx hb dX7_guest_17 (by decide) (fun c4 => ?_) (fun c4 => ?_)
    · have hf := if_t c4 hf
      refine lv_iconst (v := -1) hx hb dX7_guest_36 (by decide) ?_
      exact fin dX7_guest_37 (s0 hf) rfl hP hS
    · have hf := if_f c4 hf
      refine lv_aload_n hx hb dX7_guest_20 rfl (lv_at hl 0 rfl) ?_
      refine g_get (v := .ref (E.ad 22 1)) S hB hinX7 hP m_22_0 rfl rfl 0 (by decide) fl7 rfl rfl dX7_guest_21 ?_
      refine lv_bipush (v := 39) hx hb dX7_guest_24 (by decide) ?_
      refine lv_iconst (v := 4) hx hb dX7_guest_26 (by decide) ?_
      refine lv_iload_n hx hb dX7_guest_27 rfl (lv_at hl 2 rfl) ?_
      refine lv_imul hx hb dX7_guest_28 ?_
      refine lv_iadd hx hb dX7_guest_29 ?_
      refine lv_iload_n hx hb dX7_guest_30 rfl (lv_at hl 1 rfl) ?_
      refine lv_iadd hx hb dX7_guest_31 ?_
      obtain ⟨hv5, hf⟩ := ck_some hf
      refine g_iald (r := z 1) S hB hP m_22_1 rfl hv5 dX7_guest_32 ?_
      refine W.eq (g2 := F0 m 33 ls [.int (z 1 ((((39 : Int32) + ((4 : Int32) * a2)) + a1).toNatClampNeg))]) rfl ?_
      refine lv_goto (tgt := 37) hx hb dX7_guest_33 (by decide) ?_
      exact fin dX7_guest_37 (s0 hf) rfl hP hS
theorem KW_X7_guest (l : Launch) {E : En} (hE : Inj E) (X : Wd) (a1 : Int32) (a2 : Int32) {r : Int32} (hf : f_X7_guest (X 22) a1 a2 = some r) : Cti l E yX7_guest wsX7_guest rm_X7_guest [.ref (E.ad 22 0), .int a1, .int a2] X r X := by
  have h := K_X7_guest l hE X (X 22) a1 a2 hf
  rw [lens_all] at h
  exact h
/-! X7_way -/
abbrev rm_X7_way : Room := { frames := 2, cells := 0, slots := 0, locals := 51 }
set_option maxHeartbeats 4000000 in
set_option maxRecDepth 100000 in
theorem K_X7_way (l : Launch) {E : En} (hE : Inj E) (σ : Wd) (z : Ob) (a1 : Int32) (a2 : Int32) {r : Int32} {z' : Ob} (hf : f_X7_way z a1 a2 = some (r, z')) : Cti l E yX7_way wsX7_way rm_X7_way [.ref (E.ad 22 0), .int a1, .int a2] (va_up σ 22 z) r (va_up σ 22 z') := by
  refine meet_i (cc := cX7_way) (maxL := 3) (own := RX7) (by decide) rfl rfl (Nat.le_of_ble_eq_true rfl) ?_
  intro p e s m below meth c Z S hB fin hP hS ls hl
  have hx := S.1
  have hb := S.2.1
  have hl : lv_has ls 3 [(0, .ref (E.ad 22 0)), (1, .int a1), (2, .int a2)] := hl
  have hinX7 : ∀ w ∈ u_ws RX7 TX7 25, w ∈ wsX7_way := by decide +kernel
  have fl25 := S.2.2.2.2 (.fieldLink RX7 25 "MownMazeModel" "steps" "[I") (by decide +kernel)
  unfold f_X7_way at hf
  refine lv_iload_n hx hb dX7_way_0 rfl (lv_at hl 1 rfl) ?_
  obtain ⟨q1, hq1, hf⟩ := bind_some hf
  refine callS_i (As := [.int a1]) (rest := []) S hB hP hS (K_X7_isPlot l hE (va_up σ 22 z) a1 hq1) (va_cwS 1 S.2.2.2.2 gX7_way_X7_isPlot rfl rfl rfl (by decide +kernel) ⟨Nat.le_of_ble_eq_true rfl, Nat.le_of_ble_eq_true rfl⟩) rfl hl.1 rfl (Nat.le_of_ble_eq_true rfl) dX7_way_1 ⟨Nat.zero_le _, Nat.zero_le _⟩ (fun H locs hP hS => ?_)
  refine lv_if_eq (tgt := 14) hx hb dX7_way_4 (by decide) (fun c2 => ?_) (fun c2 => ?_)
  · have hf := if_t c2 hf
    refine lv_iconst (v := -1) hx hb dX7_way_14 (by decide) ?_
    exact fin dX7_way_15 (s1 hf) (by rw [(s2 hf)]) hP hS
  · have hf := if_f c2 hf
    refine lv_iload_n hx hb dX7_way_7 rfl (lv_at hl 2 rfl) ?_
    obtain ⟨q3, hq3, hf⟩ := bind_some hf
    refine callS_i (As := [.int a2]) (rest := []) S hB hP hS (K_X7_isPlot l hE (va_up σ 22 z) a2 hq3) (va_cwS 1 S.2.2.2.2 gX7_way_X7_isPlot rfl rfl rfl (by decide +kernel) ⟨Nat.le_of_ble_eq_true rfl, Nat.le_of_ble_eq_true rfl⟩) rfl hl.1 rfl (Nat.le_of_ble_eq_true rfl) dX7_way_8 ⟨Nat.zero_le _, Nat.zero_le _⟩ (fun H locs hP hS => ?_)
    refine lv_if_ne (tgt := 16) hx hb dX7_way_11 (by decide) (fun c4 => ?_) (fun c4 => ?_)
    · have hf := if_f c4 hf
      refine lv_aload_n hx hb dX7_way_16 rfl (lv_at hl 0 rfl) ?_
      refine lv_iconst (v := 0) hx hb dX7_way_17 (by decide) ?_
      refine lv_iload_n hx hb dX7_way_18 rfl (lv_at hl 2 rfl) ?_
      obtain ⟨q5, hq5, hf⟩ := bind_some hf
      refine callV_v (As := [.int (0 : Int32), .int a2]) (rest := []) S hB hP hS (C := RX7) (b := E.ad 22 0) (g_recv (o := 22) (d := 0) hB hP m_22_0 rfl rfl) (K_X7_stepsOn l hE σ z (0 : Int32) a2 hq5) (cwV 2 S.2.2.2.2 gX7_way_X7_stepsOn rfl rfl rfl (by decide +kernel) ⟨Nat.le_of_ble_eq_true rfl, Nat.le_of_ble_eq_true rfl⟩) rfl hl.1 rfl (Nat.le_of_ble_eq_true rfl) dX7_way_19 ⟨Nat.zero_le _, Nat.zero_le _⟩ (fun H locs hP hS => ?_)
      refine lv_aload_n hx hb dX7_way_22 rfl (lv_at hl 0 rfl) ?_
      refine g_get (v := .ref (E.ad 22 6)) S hB hinX7 hP m_22_0 rfl rfl 15 (by decide) fl25 rfl rfl dX7_way_23 ?_
      refine lv_iload_n hx hb dX7_way_26 rfl (lv_at hl 1 rfl) ?_
      obtain ⟨hv6, hf⟩ := ck_some hf
      refine g_iald (r := q5 6) S hB hP m_22_6 rfl hv6 dX7_way_27 ?_
      refine lv_bipush (v := 99) hx hb dX7_way_28 (by decide) ?_
      refine lv_icmp_ge (tgt := 42) hx hb dX7_way_30 (by decide) (fun c7 => ?_) (fun c7 => ?_)
      · have hf := if_t c7 hf
        refine lv_bipush (v := -4) hx hb dX7_way_42 (by decide) ?_
        exact fin dX7_way_44 (s1 hf) (by rw [(s2 hf)]) hP hS
      · have hf := if_f c7 hf
        refine lv_aload_n hx hb dX7_way_33 rfl (lv_at hl 0 rfl) ?_
        refine g_get (v := .ref (E.ad 22 6)) S hB hinX7 hP m_22_0 rfl rfl 15 (by decide) fl25 rfl rfl dX7_way_34 ?_
        refine lv_iload_n hx hb dX7_way_37 rfl (lv_at hl 1 rfl) ?_
        obtain ⟨hv8, hf⟩ := ck_some hf
        refine g_iald (r := q5 6) S hB hP m_22_6 rfl hv8 dX7_way_38 ?_
        refine lv_goto (tgt := 44) hx hb dX7_way_39 (by decide) ?_
        exact fin dX7_way_44 (s1 hf) (by rw [(s2 hf)]) hP hS
    · have hf := if_t c4 hf
      refine lv_iconst (v := -1) hx hb dX7_way_14 (by decide) ?_
      exact fin dX7_way_15 (s1 hf) (by rw [(s2 hf)]) hP hS
theorem KW_X7_way (l : Launch) {E : En} (hE : Inj E) (X : Wd) (a1 : Int32) (a2 : Int32) {r : Int32} {z' : Ob} (hf : f_X7_way (X 22) a1 a2 = some (r, z')) : Cti l E yX7_way wsX7_way rm_X7_way [.ref (E.ad 22 0), .int a1, .int a2] X r (va_up X 22 z') := by
  have h := K_X7_way l hE X (X 22) a1 a2 hf
  rw [lens_all] at h
  exact h
/-! X7_turn -/
abbrev rm_X7_turn : Room := { frames := 2, cells := 0, slots := 0, locals := 51 }
set_option maxHeartbeats 4000000 in
set_option maxRecDepth 100000 in
theorem K_X7_turn (l : Launch) {E : En} (hE : Inj E) (σ : Wd) (z : Ob) (a1 : Int32) {r : Int32} {z' : Ob} (hf : f_X7_turn z a1 = some (r, z')) : Cti l E yX7_turn wsX7_turn rm_X7_turn [.ref (E.ad 22 0), .int a1] (va_up σ 22 z) r (va_up σ 22 z') := by
  refine meet_i (cc := cX7_turn) (maxL := 2) (own := RX7) (by decide) rfl rfl (Nat.le_of_ble_eq_true rfl) ?_
  intro p e s m below meth c Z S hB fin hP hS ls hl
  have hx := S.1
  have hb := S.2.1
  have hl : lv_has ls 2 [(0, .ref (E.ad 22 0)), (1, .int a1)] := hl
  have hinX7 : ∀ w ∈ u_ws RX7 TX7 25, w ∈ wsX7_turn := by decide +kernel
  have fl7 := S.2.2.2.2 (.fieldLink RX7 7 "MownMazeModel" "state" "[I") (by decide +kernel)
  unfold f_X7_turn at hf
  refine lv_iload_n hx hb dX7_turn_0 rfl (lv_at hl 1 rfl) ?_
  obtain ⟨q1, hq1, hf⟩ := bind_some hf
  refine callS_i (As := [.int a1]) (rest := []) S hB hP hS (K_X7_isPlot l hE (va_up σ 22 z) a1 hq1) (va_cwS 1 S.2.2.2.2 gX7_turn_X7_isPlot rfl rfl rfl (by decide +kernel) ⟨Nat.le_of_ble_eq_true rfl, Nat.le_of_ble_eq_true rfl⟩) rfl hl.1 rfl (Nat.le_of_ble_eq_true rfl) dX7_turn_1 ⟨Nat.zero_le _, Nat.zero_le _⟩ (fun H locs hP hS => ?_)
  refine lv_if_ne (tgt := 9) hx hb dX7_turn_4 (by decide) (fun c2 => ?_) (fun c2 => ?_)
  · have hf := if_f c2 hf
    refine lv_aload_n hx hb dX7_turn_9 rfl (lv_at hl 0 rfl) ?_
    refine lv_iconst (v := 0) hx hb dX7_turn_10 (by decide) ?_
    refine lv_aload_n hx hb dX7_turn_11 rfl (lv_at hl 0 rfl) ?_
    refine g_get (v := .ref (E.ad 22 1)) S hB hinX7 hP m_22_0 rfl rfl 0 (by decide) fl7 rfl rfl dX7_turn_12 ?_
    refine lv_bipush (v := 24) hx hb dX7_turn_15 (by decide) ?_
    refine g_iald (r := z 1) S hB hP m_22_1 rfl (by unfold vp_in; decide) dX7_turn_17 ?_
    obtain ⟨q3, hq3, hf⟩ := bind_some hf
    refine callV_v (As := [.int (0 : Int32), .int (z 1 24)]) (rest := []) S hB hP hS (C := RX7) (b := E.ad 22 0) (g_recv (o := 22) (d := 0) hB hP m_22_0 rfl rfl) (K_X7_stepsOn l hE σ z (0 : Int32) (z 1 24) hq3) (cwV 2 S.2.2.2.2 gX7_turn_X7_stepsOn rfl rfl rfl (by decide +kernel) ⟨Nat.le_of_ble_eq_true rfl, Nat.le_of_ble_eq_true rfl⟩) rfl hl.1 rfl (Nat.le_of_ble_eq_true rfl) dX7_turn_18 ⟨Nat.zero_le _, Nat.zero_le _⟩ (fun H locs hP hS => ?_)
    refine lv_aload_n hx hb dX7_turn_21 rfl (lv_at hl 0 rfl) ?_
    refine lv_iconst (v := 0) hx hb dX7_turn_22 (by decide) ?_
    refine lv_iload_n hx hb dX7_turn_23 rfl (lv_at hl 1 rfl) ?_
    obtain ⟨q4, hq4, hf⟩ := bind_some hf
    refine callV_i (As := [.int (0 : Int32), .int a1]) (rest := []) S hB hP hS (C := RX7) (b := E.ad 22 0) (g_recv (o := 22) (d := 0) hB hP m_22_0 rfl rfl) (K_X7_turnOn l hE σ q3 (0 : Int32) a1 hq4) (cwV 2 S.2.2.2.2 gX7_turn_X7_turnOn rfl rfl rfl (by decide +kernel) ⟨Nat.le_of_ble_eq_true rfl, Nat.le_of_ble_eq_true rfl⟩) rfl hl.1 rfl (Nat.le_of_ble_eq_true rfl) dX7_turn_24 ⟨Nat.zero_le _, Nat.zero_le _⟩ (fun H locs hP hS => ?_)
    exact fin dX7_turn_27 (s1 hf) (by rw [(s2 hf)]) hP hS
  · have hf := if_t c2 hf
    refine lv_iconst (v := -1) hx hb dX7_turn_7 (by decide) ?_
    exact fin dX7_turn_8 (s1 hf) (by rw [(s2 hf)]) hP hS
theorem KW_X7_turn (l : Launch) {E : En} (hE : Inj E) (X : Wd) (a1 : Int32) {r : Int32} {z' : Ob} (hf : f_X7_turn (X 22) a1 = some (r, z')) : Cti l E yX7_turn wsX7_turn rm_X7_turn [.ref (E.ad 22 0), .int a1] X r (va_up X 22 z') := by
  have h := K_X7_turn l hE X (X 22) a1 hf
  rw [lens_all] at h
  exact h
/-! X7_puts -/
abbrev rm_X7_puts : Room := { frames := 0, cells := 0, slots := 0, locals := 0 }
set_option maxHeartbeats 4000000 in
set_option maxRecDepth 100000 in
theorem K_X7_puts (l : Launch) {E : En} (hE : Inj E) (σ : Wd) (z : Ob) (a1 : Int32) (a2 : Int32) (a3 : Int32) {r : Int32} {z' : Ob} (hf : f_X7_puts z a1 a2 a3 = some (r, z')) : Cti l E yX7_puts wsX7_puts rm_X7_puts [.ref (E.ad 22 0), .int a1, .int a2, .int a3] (va_up σ 22 z) r (va_up σ 22 z') := by
  refine meet_i (cc := cX7_puts) (maxL := 5) (own := RX7) (by decide) rfl rfl (Nat.le_of_ble_eq_true rfl) ?_
  intro p e s m below meth c Z S hB fin hP hS ls hl
  have hx := S.1
  have hb := S.2.1
  have hl : lv_has ls 5 [(0, .ref (E.ad 22 0)), (1, .int a1), (2, .int a2), (3, .int a3)] := hl
  have hinX7 : ∀ w ∈ u_ws RX7 TX7 25, w ∈ wsX7_puts := by decide +kernel
  have fl7 := S.2.2.2.2 (.fieldLink RX7 7 "MownMazeModel" "state" "[I") (by decide +kernel)
  unfold f_X7_puts at hf
  refine lv_iload_n hx hb dX7_puts_0 rfl (lv_at hl 1 rfl) ?_
  refine lv_if_ne (tgt := 6) hx hb dX7_puts_1 (by decide) (fun c1 => ?_) (fun c1 => ?_)
  · have hf := if_f c1 hf
    refine lv_aload_n hx hb dX7_puts_6 rfl (lv_at hl 0 rfl) ?_
    refine g_get (v := .ref (E.ad 22 1)) S hB hinX7 hP m_22_0 rfl rfl 0 (by decide) fl7 rfl rfl dX7_puts_7 ?_
    refine lv_iload_n hx hb dX7_puts_10 rfl (lv_at hl 2 rfl) ?_
    obtain ⟨hv2, hf⟩ := ck_some hf
    refine g_iald (r := z 1) S hB hP m_22_1 rfl hv2 dX7_puts_11 ?_
    refine lv_istore (lv' := [(4, .int (z 1 a2.toNatClampNeg)), (0, .ref (E.ad 22 0)), (1, .int a1), (2, .int a2), (3, .int a3)]) hx hb dX7_puts_12 hl (by decide) rfl (fun ls hl => ?_)
    refine lv_aload_n hx hb dX7_puts_14 rfl (lv_at hl 1 rfl) ?_
    refine g_get (v := .ref (E.ad 22 1)) S hB hinX7 hP m_22_0 rfl rfl 0 (by decide) fl7 rfl rfl dX7_puts_15 ?_
    refine lv_iload_n hx hb dX7_puts_18 rfl (lv_at hl 3 rfl) ?_
    refine lv_iload_n hx hb dX7_puts_19 rfl (lv_at hl 4 rfl) ?_
    obtain ⟨hv3, hf⟩ := ck_some hf
    refine g_iast (r := z 1) S hB hE hP hS m_22_1 rfl rfl (fun _ => rfl) hv3 (X' := (va_up σ 22 (ob z 1 a2.toNatClampNeg a3))) (lens_put σ 22 _ _ _ _) dX7_puts_20 (fun H locs hP hS => ?_)
    refine lv_iload hx hb dX7_puts_21 (lv_at hl 0 rfl) ?_
    exact fin dX7_puts_23 (s1 hf) (by rw [(s2 hf)]) hP hS
  · have hf := if_t c1 hf
    refine lv_iconst (v := -1) hx hb dX7_puts_4 (by decide) ?_
    exact fin dX7_puts_5 (s1 hf) (by rw [(s2 hf)]) hP hS
theorem KW_X7_puts (l : Launch) {E : En} (hE : Inj E) (X : Wd) (a1 : Int32) (a2 : Int32) (a3 : Int32) {r : Int32} {z' : Ob} (hf : f_X7_puts (X 22) a1 a2 a3 = some (r, z')) : Cti l E yX7_puts wsX7_puts rm_X7_puts [.ref (E.ad 22 0), .int a1, .int a2, .int a3] X r (va_up X 22 z') := by
  have h := K_X7_puts l hE X (X 22) a1 a2 a3 hf
  rw [lens_all] at h
  exact h
