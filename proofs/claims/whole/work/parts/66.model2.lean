/-! X7_readLine -/
abbrev rm_X7_readLine : Room := { frames := 5, cells := 0, slots := 0, locals := 112 }
set_option maxHeartbeats 4000000 in
set_option maxRecDepth 100000 in
theorem K_X7_readLine (l : Launch) {E : En} (hE : Inj E) (σ : Wd) (z : Ob) {z' : Ob} (hf : f_X7_readLine z = some z') : Ctv l E yX7_readLine wsX7_readLine rm_X7_readLine [.ref (E.ad 22 0)] (va_up σ 22 z)  (va_up σ 22 z') := by
  refine meet_v (cc := cX7_readLine) (maxL := 2) (own := RX7) (by decide) rfl rfl (Nat.le_of_ble_eq_true rfl) ?_
  intro p e s m below meth c Z S hB fin hP hS ls hl
  have hx := S.1
  have hb := S.2.1
  have hl : lv_has ls 2 [(0, .ref (E.ad 22 0))] := hl
  have hinX7 : ∀ w ∈ u_ws RX7 TX7 25, w ∈ wsX7_readLine := by decide +kernel
  have fl13 := S.2.2.2.2 (.fieldLink RX7 13 "MownMazeModel" "readPage" "[I") (by decide +kernel)
  have fl60 := S.2.2.2.2 (.fieldLink RX7 60 "MownMazeModel" "broken" "I") (by decide +kernel)
  have fl69 := S.2.2.2.2 (.fieldLink RX7 69 "MownMazeModel" "token" "I") (by decide +kernel)
  have fl115 := S.2.2.2.2 (.fieldLink RX7 115 "MownMazeModel" "isGateTold" "Z") (by decide +kernel)
  have hB137 : ∀ (z : Ob) (H : Heap) (locs : List Loc) (ls : Array Slot), f_X7_readLine_b137 z = some z' → va_P E.1 vwCl (GW E (va_up σ 22 z)) H → va_S (GA E) s.heap H locs → lv_has ls 2 [(0, .ref (E.ad 22 0))] → W p l e rm_X7_readLine s m ([.ref (E.ad 22 0)] : List Value).toArray below meth c H locs 0 0 Z (F0 m 137 ls []) := by
    intro z H locs ls hf hP hS hl
    unfold f_X7_readLine_b137 at hf
    refine lv_aload_n hx hb dX7_readLine_137 rfl (lv_at hl 0 rfl) ?_
    obtain ⟨q7, hq7, hf⟩ := bind_some hf
    refine callV_v (As := []) (rest := []) S hB hP hS (C := RX7) (b := E.ad 22 0) (g_recv (o := 22) (d := 0) hB hP m_22_0 rfl rfl) (K_X7_step l hE σ z hq7) (cwV 0 S.2.2.2.2 gX7_readLine_X7_step rfl rfl rfl (by decide +kernel) ⟨Nat.le_of_ble_eq_true rfl, Nat.le_of_ble_eq_true rfl⟩) rfl hl.1 rfl (Nat.le_of_ble_eq_true rfl) dX7_readLine_138 ⟨Nat.zero_le _, Nat.zero_le _⟩ (fun H locs hP hS => ?_)
    exact fin dX7_readLine_141  (by rw [(s0 hf)]) hP hS
  have hB97 : ∀ (z : Ob) (x1 : Int32) (y0 : Int32) (H : Heap) (locs : List Loc) (ls : Array Slot), f_X7_readLine_b97 z x1 y0 = some z' → va_P E.1 vwCl (GW E (va_up σ 22 z)) H → va_S (GA E) s.heap H locs → lv_has ls 2 [(0, .ref (E.ad 22 0)), (1, .int x1)] → W p l e rm_X7_readLine s m ([.ref (E.ad 22 0)] : List Value).toArray below meth c H locs 0 0 Z (F0 m 97 ls [.int y0, .ref (E.ad 22 0)]) := by
    intro z x1 y0 H locs ls hf hP hS hl
    unfold f_X7_readLine_b97 at hf
    obtain ⟨hv8, hf⟩ := ckb_some hf
    refine g_put S hB hE hinX7 tyX7 tyX7_ok nmX7 hP hS m_22_0 rfl rfl 3 (by decide) fl115 rfl rfl (nz01 hv8) (fz01 hv8) (Nat.le_of_ble_eq_true rfl) (by exact (fun _ => rfl) _) (X' := (va_up σ 22 (ob z 0 3 y0))) (lens_put σ 22 _ _ _ _) dX7_readLine_97 (fun H locs hP hS => ?_)
    refine lv_aload_n hx hb dX7_readLine_100 rfl (lv_at hl 0 rfl) ?_
    obtain ⟨q9, hq9, hf⟩ := bind_some hf
    refine callV_v (As := []) (rest := []) S hB hP hS (C := RX7) (b := E.ad 22 0) (g_recv (o := 22) (d := 0) hB hP m_22_0 rfl rfl) (K_X7_step l hE σ (ob z 0 3 y0) hq9) (cwV 0 S.2.2.2.2 gX7_readLine_X7_step rfl rfl rfl (by decide +kernel) ⟨Nat.le_of_ble_eq_true rfl, Nat.le_of_ble_eq_true rfl⟩) rfl hl.1 rfl (Nat.le_of_ble_eq_true rfl) dX7_readLine_101 ⟨Nat.zero_le _, Nat.zero_le _⟩ (fun H locs hP hS => ?_)
    refine lv_aload_n hx hb dX7_readLine_104 rfl (lv_at hl 0 rfl) ?_
    refine g_get (v := .int (q9 0 7)) S hB hinX7 hP m_22_0 rfl rfl 7 (by decide) fl60 rfl rfl dX7_readLine_105 ?_
    refine lv_if_le (tgt := 112) hx hb dX7_readLine_108 (by decide) (fun c10 => ?_) (fun c10 => ?_)
    · have hf := if_t c10 hf
      refine lv_aload_n hx hb dX7_readLine_112 rfl (lv_at hl 0 rfl) ?_
      refine lv_iload_n hx hb dX7_readLine_113 rfl (lv_at hl 1 rfl) ?_
      obtain ⟨q11, hq11, hf⟩ := bind_some hf
      refine callV_v (As := [.int x1]) (rest := []) S hB hP hS (C := RX7) (b := E.ad 22 0) (g_recv (o := 22) (d := 0) hB hP m_22_0 rfl rfl) (K_X7_readMore l hE σ q9 x1 hq11) (cwV 1 S.2.2.2.2 gX7_readLine_X7_readMore rfl rfl rfl (by decide +kernel) ⟨Nat.le_of_ble_eq_true rfl, Nat.le_of_ble_eq_true rfl⟩) rfl hl.1 rfl (Nat.le_of_ble_eq_true rfl) dX7_readLine_114 ⟨Nat.zero_le _, Nat.zero_le _⟩ (fun H locs hP hS => ?_)
      refine lv_aload_n hx hb dX7_readLine_117 rfl (lv_at hl 0 rfl) ?_
      refine g_get (v := .int (q11 0 7)) S hB hinX7 hP m_22_0 rfl rfl 7 (by decide) fl60 rfl rfl dX7_readLine_118 ?_
      refine lv_if_ne (tgt := 137) hx hb dX7_readLine_121 (by decide) (fun c12 => ?_) (fun c12 => ?_)
      · have hf := if_f c12 hf
        exact hB137 q11 _ _ _ hf hP hS (lv_sub hl [0] rfl)
      · have hf := if_t c12 hf
        refine lv_aload_n hx hb dX7_readLine_124 rfl (lv_at hl 0 rfl) ?_
        refine g_get (v := .int (q11 0 11)) S hB hinX7 hP m_22_0 rfl rfl 11 (by decide) fl69 rfl rfl dX7_readLine_125 ?_
        refine lv_iconst (v := 3) hx hb dX7_readLine_128 (by decide) ?_
        refine lv_icmp_eq (tgt := 137) hx hb dX7_readLine_129 (by decide) (fun c13 => ?_) (fun c13 => ?_)
        · have hf := if_t c13 hf
          exact hB137 q11 _ _ _ hf hP hS (lv_sub hl [0] rfl)
        · have hf := if_f c13 hf
          refine lv_aload_n hx hb dX7_readLine_132 rfl (lv_at hl 0 rfl) ?_
          refine lv_iconst (v := 2) hx hb dX7_readLine_133 (by decide) ?_
          obtain ⟨q14, hq14, hf⟩ := bind_some hf
          refine callV_v (As := [.int (2 : Int32)]) (rest := []) S hB hP hS (C := RX7) (b := E.ad 22 0) (g_recv (o := 22) (d := 0) hB hP m_22_0 rfl rfl) (K_X7_fails l hE σ q11 (2 : Int32) hq14) (cwV 1 S.2.2.2.2 gX7_readLine_X7_fails rfl rfl rfl (by decide +kernel) ⟨Nat.le_of_ble_eq_true rfl, Nat.le_of_ble_eq_true rfl⟩) rfl hl.1 rfl (Nat.le_of_ble_eq_true rfl) dX7_readLine_134 ⟨Nat.zero_le _, Nat.zero_le _⟩ (fun H locs hP hS => ?_)
          exact hB137 q14 _ _ _ hf hP hS (lv_sub hl [0] rfl)
    · have hf := if_f c10 hf
      exact fin dX7_readLine_111  (by rw [(s0 hf)]) hP hS
  have hB92 : ∀ (z : Ob) (x1 : Int32) (H : Heap) (locs : List Loc) (ls : Array Slot), f_X7_readLine_b92 z x1 = some z' → va_P E.1 vwCl (GW E (va_up σ 22 z)) H → va_S (GA E) s.heap H locs → lv_has ls 2 [(0, .ref (E.ad 22 0)), (1, .int x1)] → W p l e rm_X7_readLine s m ([.ref (E.ad 22 0)] : List Value).toArray below meth c H locs 0 0 Z (F0 m 92 ls [.ref (E.ad 22 0)]) := by
    intro z x1 H locs ls hf hP hS hl
    unfold f_X7_readLine_b92 at hf
    refine lv_iconst (v := 1) hx hb dX7_readLine_92 (by decide) ?_
    refine lv_goto (tgt := 97) hx hb dX7_readLine_93 (by decide) ?_
    exact hB97 z x1 (1 : Int32) _ _ _ hf hP hS (lv_sub hl [0, 1] rfl)
  have hB78 : ∀ (z : Ob) (x1 : Int32) (H : Heap) (locs : List Loc) (ls : Array Slot), f_X7_readLine_b78 z x1 = some z' → va_P E.1 vwCl (GW E (va_up σ 22 z)) H → va_S (GA E) s.heap H locs → lv_has ls 2 [(0, .ref (E.ad 22 0)), (1, .int x1)] → W p l e rm_X7_readLine s m ([.ref (E.ad 22 0)] : List Value).toArray below meth c H locs 0 0 Z (F0 m 78 ls []) := by
    intro z x1 H locs ls hf hP hS hl
    unfold f_X7_readLine_b78 at hf
    refine lv_aload_n hx hb dX7_readLine_78 rfl (lv_at hl 0 rfl) ?_
    refine lv_aload_n hx hb dX7_readLine_79 rfl (lv_at hl 0 rfl) ?_
    refine g_get (v := .int (z 0 3)) S hB hinX7 hP m_22_0 rfl rfl 3 (by decide) fl115 rfl rfl dX7_readLine_80 ?_
    refine lv_if_ne (tgt := 92) hx hb dX7_readLine_83 (by decide) (fun c15 => ?_) (fun c15 => ?_)
    · have hf := if_f c15 hf
      exact hB92 z x1 _ _ _ hf hP hS (lv_sub hl [0, 1] rfl)
    · have hf := if_t c15 hf
      refine lv_iload_n hx hb dX7_readLine_86 rfl (lv_at hl 1 rfl) ?_
      refine lv_bipush (v := 6) hx hb dX7_readLine_87 (by decide) ?_
      refine lv_icmp_ne (tgt := 96) hx hb dX7_readLine_89 (by decide) (fun c16 => ?_) (fun c16 => ?_)
      · have hf := if_f c16 hf
        refine lv_iconst (v := 0) hx hb dX7_readLine_96 (by decide) ?_
        exact hB97 z x1 (0 : Int32) _ _ _ hf hP hS (lv_sub hl [0, 1] rfl)
      · have hf := if_t c16 hf
        exact hB92 z x1 _ _ _ hf hP hS (lv_sub hl [0, 1] rfl)
  have hB60 : ∀ (z : Ob) (x1 : Int32) (H : Heap) (locs : List Loc) (ls : Array Slot), f_X7_readLine_b60 z x1 = some z' → va_P E.1 vwCl (GW E (va_up σ 22 z)) H → va_S (GA E) s.heap H locs → lv_has ls 2 [(0, .ref (E.ad 22 0)), (1, .int x1)] → W p l e rm_X7_readLine s m ([.ref (E.ad 22 0)] : List Value).toArray below meth c H locs 0 0 Z (F0 m 60 ls []) := by
    intro z x1 H locs ls hf hP hS hl
    unfold f_X7_readLine_b60 at hf
    refine lv_iload_n hx hb dX7_readLine_60 rfl (lv_at hl 1 rfl) ?_
    refine lv_bipush (v := 6) hx hb dX7_readLine_61 (by decide) ?_
    refine lv_icmp_ne (tgt := 78) hx hb dX7_readLine_63 (by decide) (fun c17 => ?_) (fun c17 => ?_)
    · have hf := if_f c17 hf
      exact hB78 z x1 _ _ _ hf hP hS (lv_sub hl [0, 1] rfl)
    · have hf := if_t c17 hf
      refine lv_aload_n hx hb dX7_readLine_66 rfl (lv_at hl 0 rfl) ?_
      refine g_get (v := .int (z 0 3)) S hB hinX7 hP m_22_0 rfl rfl 3 (by decide) fl115 rfl rfl dX7_readLine_67 ?_
      refine lv_if_eq (tgt := 78) hx hb dX7_readLine_70 (by decide) (fun c18 => ?_) (fun c18 => ?_)
      · have hf := if_t c18 hf
        exact hB78 z x1 _ _ _ hf hP hS (lv_sub hl [0, 1] rfl)
      · have hf := if_f c18 hf
        refine lv_aload_n hx hb dX7_readLine_73 rfl (lv_at hl 0 rfl) ?_
        refine lv_iconst (v := 4) hx hb dX7_readLine_74 (by decide) ?_
        obtain ⟨q19, hq19, hf⟩ := bind_some hf
        refine callV_v (As := [.int (4 : Int32)]) (rest := []) S hB hP hS (C := RX7) (b := E.ad 22 0) (g_recv (o := 22) (d := 0) hB hP m_22_0 rfl rfl) (K_X7_fails l hE σ z (4 : Int32) hq19) (cwV 1 S.2.2.2.2 gX7_readLine_X7_fails rfl rfl rfl (by decide +kernel) ⟨Nat.le_of_ble_eq_true rfl, Nat.le_of_ble_eq_true rfl⟩) rfl hl.1 rfl (Nat.le_of_ble_eq_true rfl) dX7_readLine_75 ⟨Nat.zero_le _, Nat.zero_le _⟩ (fun H locs hP hS => ?_)
        exact hB78 q19 x1 _ _ _ hf hP hS (lv_sub hl [0, 1] rfl)
  have hB55 : ∀ (z : Ob) (x1 : Int32) (H : Heap) (locs : List Loc) (ls : Array Slot), f_X7_readLine_b55 z x1 = some z' → va_P E.1 vwCl (GW E (va_up σ 22 z)) H → va_S (GA E) s.heap H locs → lv_has ls 2 [(0, .ref (E.ad 22 0)), (1, .int x1)] → W p l e rm_X7_readLine s m ([.ref (E.ad 22 0)] : List Value).toArray below meth c H locs 0 0 Z (F0 m 55 ls []) := by
    intro z x1 H locs ls hf hP hS hl
    unfold f_X7_readLine_b55 at hf
    refine lv_aload_n hx hb dX7_readLine_55 rfl (lv_at hl 0 rfl) ?_
    refine lv_iconst (v := 5) hx hb dX7_readLine_56 (by decide) ?_
    obtain ⟨q20, hq20, hf⟩ := bind_some hf
    refine callV_v (As := [.int (5 : Int32)]) (rest := []) S hB hP hS (C := RX7) (b := E.ad 22 0) (g_recv (o := 22) (d := 0) hB hP m_22_0 rfl rfl) (K_X7_fails l hE σ z (5 : Int32) hq20) (cwV 1 S.2.2.2.2 gX7_readLine_X7_fails rfl rfl rfl (by decide +kernel) ⟨Nat.le_of_ble_eq_true rfl, Nat.le_of_ble_eq_true rfl⟩) rfl hl.1 rfl (Nat.le_of_ble_eq_true rfl) dX7_readLine_57 ⟨Nat.zero_le _, Nat.zero_le _⟩ (fun H locs hP hS => ?_)
    exact hB60 q20 x1 _ _ _ hf hP hS (lv_sub hl [0, 1] rfl)
  have hB39 : ∀ (z : Ob) (x1 : Int32) (H : Heap) (locs : List Loc) (ls : Array Slot), f_X7_readLine_b39 z x1 = some z' → va_P E.1 vwCl (GW E (va_up σ 22 z)) H → va_S (GA E) s.heap H locs → lv_has ls 2 [(0, .ref (E.ad 22 0)), (1, .int x1)] → W p l e rm_X7_readLine s m ([.ref (E.ad 22 0)] : List Value).toArray below meth c H locs 0 0 Z (F0 m 39 ls []) := by
    intro z x1 H locs ls hf hP hS hl
    unfold f_X7_readLine_b39 at hf
    refine lv_iload_n hx hb dX7_readLine_39 rfl (lv_at hl 1 rfl) ?_
    refine lv_iconst (v := 4) hx hb dX7_readLine_40 (by decide) ?_
    refine lv_icmp_ne (tgt := 60) hx hb dX7_readLine_41 (by decide) (fun c21 => ?_) (fun c21 => ?_)
    · have hf := if_f c21 hf
      exact hB60 z x1 _ _ _ hf hP hS (lv_sub hl [0, 1] rfl)
    · have hf := if_t c21 hf
      refine lv_aload_n hx hb dX7_readLine_44 rfl (lv_at hl 0 rfl) ?_
      refine g_get (v := .ref (E.ad 22 2)) S hB hinX7 hP m_22_0 rfl rfl 1 (by decide) fl13 rfl rfl dX7_readLine_45 ?_
      refine lv_bipush (v := 51) hx hb dX7_readLine_48 (by decide) ?_
      refine g_iald (r := z 2) S hB hP m_22_2 rfl (by unfold vp_in; decide) dX7_readLine_50 ?_
      refine lv_iconst (v := 4) hx hb dX7_readLine_51 (by decide) ?_
      refine lv_icmp_ne (tgt := 60) hx hb dX7_readLine_52 (by decide) (fun c22 => ?_) (fun c22 => ?_)
      · have hf := if_f c22 hf
        exact hB60 z x1 _ _ _ hf hP hS (lv_sub hl [0, 1] rfl)
      · have hf := if_t c22 hf
        exact hB55 z x1 _ _ _ hf hP hS (lv_sub hl [0, 1] rfl)
  unfold f_X7_readLine at hf
  refine lv_aload_n hx hb dX7_readLine_0 rfl (lv_at hl 0 rfl) ?_
  obtain ⟨q1, hq1, hf⟩ := bind_some hf
  refine callV_i (As := []) (rest := []) S hB hP hS (C := RX7) (b := E.ad 22 0) (g_recv (o := 22) (d := 0) hB hP m_22_0 rfl rfl) (K_X7_nameHere l hE σ z hq1) (cwV 0 S.2.2.2.2 gX7_readLine_X7_nameHere rfl rfl rfl (by decide +kernel) ⟨Nat.le_of_ble_eq_true rfl, Nat.le_of_ble_eq_true rfl⟩) rfl hl.1 rfl (Nat.le_of_ble_eq_true rfl) dX7_readLine_1 ⟨Nat.zero_le _, Nat.zero_le _⟩ (fun H locs hP hS => ?_)
  refine lv_istore_n (lv' := [(1, .int q1), (0, .ref (E.ad 22 0))]) hx hb dX7_readLine_4 rfl hl (by decide) rfl (fun ls hl => ?_)
  refine lv_iload_n hx hb dX7_readLine_5 rfl (lv_at hl 0 rfl) ?_
  refine lv_i2l hx hb dX7_readLine_6 (v := q1.toInt64) rfl ?_
  refine lv_lconst (v := 0) hx hb dX7_readLine_7 (by decide) ?_
  refine lv_ldc2 hx hb S.2.2.2.1 (S.2.2.2.2 (.constantLong RX7 113 (6)) (by decide +kernel)) dX7_readLine_8 ?_
  obtain ⟨q2, hq2, hf⟩ := bind_some hf
  refine callS_i (As := [.long q1.toInt64, .long (0 : Int64), .long (6 : Int64)]) (rest := []) S hB hP hS (K_X7_in l hE (va_up σ 22 z) q1.toInt64 (0 : Int64) (6 : Int64) hq2) (va_cwS 3 S.2.2.2.2 gX7_readLine_X7_in rfl rfl rfl (by decide +kernel) ⟨Nat.le_of_ble_eq_true rfl, Nat.le_of_ble_eq_true rfl⟩) rfl hl.1 rfl (Nat.le_of_ble_eq_true rfl) dX7_readLine_11 ⟨Nat.zero_le _, Nat.zero_le _⟩ (fun H locs hP hS => ?_)
  refine lv_if_ne (tgt := 23) hx hb dX7_readLine_14 (by decide) (fun c3 => ?_) (fun c3 => ?_)
  · have hf := if_f c3 hf
    refine lv_iload_n hx hb dX7_readLine_23 rfl (lv_at hl 0 rfl) ?_
    refine lv_iconst (v := 3) hx hb dX7_readLine_24 (by decide) ?_
    refine lv_icmp_gt (tgt := 39) hx hb dX7_readLine_25 (by decide) (fun c4 => ?_) (fun c4 => ?_)
    · have hf := if_t c4 hf
      exact hB39 z q1 _ _ _ hf hP hS (lv_sub hl [1, 0] rfl)
    · have hf := if_f c4 hf
      refine lv_aload_n hx hb dX7_readLine_28 rfl (lv_at hl 1 rfl) ?_
      refine g_get (v := .ref (E.ad 22 2)) S hB hinX7 hP m_22_0 rfl rfl 1 (by decide) fl13 rfl rfl dX7_readLine_29 ?_
      refine lv_bipush (v := 37) hx hb dX7_readLine_32 (by decide) ?_
      refine g_iald (r := z 2) S hB hP m_22_2 rfl (by unfold vp_in; decide) dX7_readLine_34 ?_
      refine lv_iconst (v := 4) hx hb dX7_readLine_35 (by decide) ?_
      refine lv_icmp_eq (tgt := 55) hx hb dX7_readLine_36 (by decide) (fun c5 => ?_) (fun c5 => ?_)
      · have hf := if_t c5 hf
        exact hB55 z q1 _ _ _ hf hP hS (lv_sub hl [1, 0] rfl)
      · have hf := if_f c5 hf
        exact hB39 z q1 _ _ _ hf hP hS (lv_sub hl [1, 0] rfl)
  · have hf := if_t c3 hf
    refine lv_aload_n hx hb dX7_readLine_17 rfl (lv_at hl 1 rfl) ?_
    refine lv_iconst (v := 2) hx hb dX7_readLine_18 (by decide) ?_
    obtain ⟨q6, hq6, hf⟩ := bind_some hf
    refine callV_v (As := [.int (2 : Int32)]) (rest := []) S hB hP hS (C := RX7) (b := E.ad 22 0) (g_recv (o := 22) (d := 0) hB hP m_22_0 rfl rfl) (K_X7_fails l hE σ z (2 : Int32) hq6) (cwV 1 S.2.2.2.2 gX7_readLine_X7_fails rfl rfl rfl (by decide +kernel) ⟨Nat.le_of_ble_eq_true rfl, Nat.le_of_ble_eq_true rfl⟩) rfl hl.1 rfl (Nat.le_of_ble_eq_true rfl) dX7_readLine_19 ⟨Nat.zero_le _, Nat.zero_le _⟩ (fun H locs hP hS => ?_)
    exact fin dX7_readLine_22  (by rw [(s0 hf)]) hP hS
theorem KW_X7_readLine (l : Launch) {E : En} (hE : Inj E) (X : Wd) {z' : Ob} (hf : f_X7_readLine (X 22) = some z') : Ctv l E yX7_readLine wsX7_readLine rm_X7_readLine [.ref (E.ad 22 0)] X  (va_up X 22 z') := by
  have h := K_X7_readLine l hE X (X 22)  hf
  rw [lens_all] at h
  exact h
/-! X7_text -/
abbrev rm_X7_text : Room := { frames := 6, cells := 0, slots := 0, locals := 133 }
set_option maxHeartbeats 4000000 in
set_option maxRecDepth 100000 in
theorem K_X7_text (l : Launch) {E : En} (hE : Inj E) (σ : Wd) (z : Ob) {r : Int32} {z' : Ob} (hf : f_X7_text z = some (r, z')) : Cti l E yX7_text wsX7_text rm_X7_text [.ref (E.ad 22 0)] (va_up σ 22 z) r (va_up σ 22 z') := by
  refine meet_i (cc := cX7_text) (maxL := 3) (own := RX7) (by decide) rfl rfl (Nat.le_of_ble_eq_true rfl) ?_
  intro p e s m below meth c Z S hB fin hP hS ls hl
  have hx := S.1
  have hb := S.2.1
  have hl : lv_has ls 3 [(0, .ref (E.ad 22 0))] := hl
  have hinX7 : ∀ w ∈ u_ws RX7 TX7 25, w ∈ wsX7_text := by decide +kernel
  have fl7 := S.2.2.2.2 (.fieldLink RX7 7 "MownMazeModel" "state" "[I") (by decide +kernel)
  have fl13 := S.2.2.2.2 (.fieldLink RX7 13 "MownMazeModel" "readPage" "[I") (by decide +kernel)
  have fl38 := S.2.2.2.2 (.fieldLink RX7 38 "MownMazeModel" "isKept" "[Z") (by decide +kernel)
  have fl57 := S.2.2.2.2 (.fieldLink RX7 57 "MownMazeModel" "taped" "I") (by decide +kernel)
  have fl60 := S.2.2.2.2 (.fieldLink RX7 60 "MownMazeModel" "broken" "I") (by decide +kernel)
  have fl66 := S.2.2.2.2 (.fieldLink RX7 66 "MownMazeModel" "brokenAt" "I") (by decide +kernel)
  have fl69 := S.2.2.2.2 (.fieldLink RX7 69 "MownMazeModel" "token" "I") (by decide +kernel)
  have fl72 := S.2.2.2.2 (.fieldLink RX7 72 "MownMazeModel" "spot" "I") (by decide +kernel)
  have fl99 := S.2.2.2.2 (.fieldLink RX7 99 "MownMazeModel" "toldHedges" "I") (by decide +kernel)
  have fl115 := S.2.2.2.2 (.fieldLink RX7 115 "MownMazeModel" "isGateTold" "Z") (by decide +kernel)
  have fl125 := S.2.2.2.2 (.fieldLink RX7 125 "MownMazeModel" "fault" "I") (by decide +kernel)
  have fl128 := S.2.2.2.2 (.fieldLink RX7 128 "MownMazeModel" "seenMany" "I") (by decide +kernel)
  have hL101 : ∀ (n101 : Nat) (z : Ob) (x1 : Int32) (x2 : Int32) (H : Heap) (locs : List Loc) (ls : Array Slot), f_X7_text_l101 n101 z x1 x2 = some (r, z') → va_P E.1 vwCl (GW E (va_up σ 22 z)) H → va_S (GA E) s.heap H locs → lv_has ls 3 [(0, .ref (E.ad 22 0)), (1, .int x1), (2, .int x2)] → W p l e rm_X7_text s m ([.ref (E.ad 22 0)] : List Value).toArray below meth c H locs 0 0 Z (F0 m 101 ls []) := by
    intro n101
    induction n101 with
    | zero =>
      intro z x1 x2 H locs ls hf
      cases (show (none : Option _) = some _ from hf)
    | succ n101 ih101 =>
      intro z x1 x2 H locs ls hf hP hS hl
      unfold f_X7_text_l101 at hf
      refine lv_iload_n hx hb dX7_text_101 rfl (lv_at hl 2 rfl) ?_
      refine lv_bipush (v := 53) hx hb dX7_text_102 (by decide) ?_
      refine lv_icmp_ge (tgt := 125) hx hb dX7_text_104 (by decide) (fun c1 => ?_) (fun c1 => ?_)
      · have hf := if_t c1 hf
        refine lv_aload_n hx hb dX7_text_125 rfl (lv_at hl 0 rfl) ?_
        refine lv_iconst (v := 0) hx hb dX7_text_126 (by decide) ?_
        refine g_put S hB hE hinX7 tyX7 tyX7_ok nmX7 hP hS m_22_0 rfl rfl 18 (by decide) fl128 rfl rfl rfl rfl (Nat.le_of_ble_eq_true rfl) (by exact (fun _ => rfl) _) (X' := (va_up σ 22 (ob z 0 18 (0 : Int32)))) (lens_put σ 22 _ _ _ _) dX7_text_127 (fun H locs hP hS => ?_)
        refine lv_aload_n hx hb dX7_text_130 rfl (lv_at hl 0 rfl) ?_
        refine g_get (v := .ref (E.ad 22 9)) S hB hinX7 hP m_22_0 rfl rfl 20 (by decide) fl38 rfl rfl dX7_text_131 ?_
        refine lv_iconst (v := 0) hx hb dX7_text_134 (by decide) ?_
        refine lv_iconst (v := 0) hx hb dX7_text_135 (by decide) ?_
        refine g_zast (r := (ob z 0 18 (0 : Int32)) 9) S hB hE hP hS m_22_9 rfl rfl (fun _ => rfl) (by unfold vp_in; decide) (X' := (va_up σ 22 (ob (ob z 0 18 (0 : Int32)) 9 0 (vp_nar .boolean (0 : Int32))))) (lens_put σ 22 _ _ _ _) dX7_text_136 (fun H locs hP hS => ?_)
        refine lv_aload_n hx hb dX7_text_137 rfl (lv_at hl 0 rfl) ?_
        refine g_get (v := .ref (E.ad 22 9)) S hB hinX7 hP m_22_0 rfl rfl 20 (by decide) fl38 rfl rfl dX7_text_138 ?_
        refine lv_iconst (v := 1) hx hb dX7_text_141 (by decide) ?_
        refine lv_iconst (v := 0) hx hb dX7_text_142 (by decide) ?_
        refine g_zast (r := (ob (ob z 0 18 (0 : Int32)) 9 0 (vp_nar .boolean (0 : Int32))) 9) S hB hE hP hS m_22_9 rfl rfl (fun _ => rfl) (by unfold vp_in; decide) (X' := (va_up σ 22 (ob (ob (ob z 0 18 (0 : Int32)) 9 0 (vp_nar .boolean (0 : Int32))) 9 1 (vp_nar .boolean (0 : Int32))))) (lens_put σ 22 _ _ _ _) dX7_text_143 (fun H locs hP hS => ?_)
        refine lv_iload_n hx hb dX7_text_144 rfl (lv_at hl 1 rfl) ?_
        exact fin dX7_text_145 (s1 hf) (by rw [(s2 hf)]) hP hS
      · have hf := if_f c1 hf
        refine lv_aload_n hx hb dX7_text_107 rfl (lv_at hl 0 rfl) ?_
        refine g_get (v := .ref (E.ad 22 1)) S hB hinX7 hP m_22_0 rfl rfl 0 (by decide) fl7 rfl rfl dX7_text_108 ?_
        refine lv_iload_n hx hb dX7_text_111 rfl (lv_at hl 2 rfl) ?_
        refine lv_aload_n hx hb dX7_text_112 rfl (lv_at hl 0 rfl) ?_
        refine g_get (v := .ref (E.ad 22 2)) S hB hinX7 hP m_22_0 rfl rfl 1 (by decide) fl13 rfl rfl dX7_text_113 ?_
        refine lv_iload_n hx hb dX7_text_116 rfl (lv_at hl 2 rfl) ?_
        obtain ⟨hv2, hf⟩ := ck_some hf
        refine g_iald (r := z 2) S hB hP m_22_2 rfl hv2 dX7_text_117 ?_
        obtain ⟨hv3, hf⟩ := ck_some hf
        refine g_iast (r := z 1) S hB hE hP hS m_22_1 rfl rfl (fun _ => rfl) hv3 (X' := (va_up σ 22 (ob z 1 x2.toNatClampNeg (z 2 x2.toNatClampNeg)))) (lens_put σ 22 _ _ _ _) dX7_text_118 (fun H locs hP hS => ?_)
        refine lv_iinc (v := x2 + (1 : Int32)) (lv' := [(2, .int (x2 + (1 : Int32))), (0, .ref (E.ad 22 0)), (1, .int x1)]) hx hb dX7_text_119 hl (k := 2) rfl rfl (by decide) rfl (fun ls hl => ?_)
        refine lv_goto (tgt := 101) hx hb dX7_text_122 (by decide) ?_
        exact ih101 (ob z 1 x2.toNatClampNeg (z 2 x2.toNatClampNeg)) x1 (x2 + (1 : Int32)) _ _ _ hf hP hS (lv_sub hl [1, 2, 0] rfl)
  have hB71 : ∀ (z : Ob) (x1 : Int32) (H : Heap) (locs : List Loc) (ls : Array Slot), f_X7_text_b71 z x1 = some (r, z') → va_P E.1 vwCl (GW E (va_up σ 22 z)) H → va_S (GA E) s.heap H locs → lv_has ls 3 [(0, .ref (E.ad 22 0)), (1, .int x1)] → W p l e rm_X7_text s m ([.ref (E.ad 22 0)] : List Value).toArray below meth c H locs 0 0 Z (F0 m 71 ls []) := by
    intro z x1 H locs ls hf hP hS hl
    unfold f_X7_text_b71 at hf
    refine lv_aload_n hx hb dX7_text_71 rfl (lv_at hl 0 rfl) ?_
    refine lv_iconst (v := 0) hx hb dX7_text_72 (by decide) ?_
    refine g_put S hB hE hinX7 tyX7 tyX7_ok nmX7 hP hS m_22_0 rfl rfl 5 (by decide) fl57 rfl rfl rfl rfl (Nat.le_of_ble_eq_true rfl) (by exact (fun _ => rfl) _) (X' := (va_up σ 22 (ob z 0 5 (0 : Int32)))) (lens_put σ 22 _ _ _ _) dX7_text_73 (fun H locs hP hS => ?_)
    refine lv_aload_n hx hb dX7_text_76 rfl (lv_at hl 0 rfl) ?_
    refine lv_aload_n hx hb dX7_text_77 rfl (lv_at hl 0 rfl) ?_
    refine g_get (v := .int (z 0 7)) S hB hinX7 hP m_22_0 rfl rfl 7 (by decide) fl60 rfl rfl dX7_text_78 ?_
    refine g_put S hB hE hinX7 tyX7 tyX7_ok nmX7 hP hS m_22_0 rfl rfl 6 (by decide) fl125 rfl rfl rfl rfl (Nat.le_of_ble_eq_true rfl) (by exact (fun _ => rfl) _) (X' := (va_up σ 22 (ob (ob z 0 5 (0 : Int32)) 0 6 (z 0 7)))) (lens_put σ 22 _ _ _ _) dX7_text_81 (fun H locs hP hS => ?_)
    refine lv_aload_n hx hb dX7_text_84 rfl (lv_at hl 0 rfl) ?_
    refine g_get (v := .int (z 0 7)) S hB hinX7 hP m_22_0 rfl rfl 7 (by decide) fl60 rfl rfl dX7_text_85 ?_
    refine lv_if_le (tgt := 99) hx hb dX7_text_88 (by decide) (fun c4 => ?_) (fun c4 => ?_)
    · have hf := if_t c4 hf
      refine lv_iconst (v := 0) hx hb dX7_text_99 (by decide) ?_
      refine lv_istore_n (lv' := [(2, .int (0 : Int32)), (0, .ref (E.ad 22 0)), (1, .int x1)]) hx hb dX7_text_100 rfl hl (by decide) rfl (fun ls hl => ?_)
      exact hL101 FUEL (ob (ob z 0 5 (0 : Int32)) 0 6 (z 0 7)) x1 (0 : Int32) _ _ _ hf hP hS (lv_sub hl [1, 2, 0] rfl)
    · have hf := if_f c4 hf
      refine lv_bipush (v := -10) hx hb dX7_text_91 (by decide) ?_
      refine lv_aload_n hx hb dX7_text_93 rfl (lv_at hl 0 rfl) ?_
      refine g_get (v := .int (z 0 8)) S hB hinX7 hP m_22_0 rfl rfl 8 (by decide) fl66 rfl rfl dX7_text_94 ?_
      refine lv_isub hx hb dX7_text_97 ?_
      exact fin dX7_text_98 (s1 hf) (by rw [(s2 hf)]) hP hS
  have hL47 : ∀ (n47 : Nat) (z : Ob) (x1 : Int32) (H : Heap) (locs : List Loc) (ls : Array Slot), f_X7_text_l47 n47 z x1 = some (r, z') → va_P E.1 vwCl (GW E (va_up σ 22 z)) H → va_S (GA E) s.heap H locs → lv_has ls 3 [(0, .ref (E.ad 22 0)), (1, .int x1)] → W p l e rm_X7_text s m ([.ref (E.ad 22 0)] : List Value).toArray below meth c H locs 0 0 Z (F0 m 47 ls []) := by
    intro n47
    induction n47 with
    | zero =>
      intro z x1 H locs ls hf
      cases (show (none : Option _) = some _ from hf)
    | succ n47 ih47 =>
      intro z x1 H locs ls hf hP hS hl
      unfold f_X7_text_l47 at hf
      refine lv_aload_n hx hb dX7_text_47 rfl (lv_at hl 0 rfl) ?_
      refine g_get (v := .int (z 0 7)) S hB hinX7 hP m_22_0 rfl rfl 7 (by decide) fl60 rfl rfl dX7_text_48 ?_
      refine lv_if_ne (tgt := 71) hx hb dX7_text_51 (by decide) (fun c5 => ?_) (fun c5 => ?_)
      · have hf := if_f c5 hf
        exact hB71 z x1 _ _ _ hf hP hS (lv_sub hl [0, 1] rfl)
      · have hf := if_t c5 hf
        refine lv_aload_n hx hb dX7_text_54 rfl (lv_at hl 0 rfl) ?_
        refine g_get (v := .int (z 0 11)) S hB hinX7 hP m_22_0 rfl rfl 11 (by decide) fl69 rfl rfl dX7_text_55 ?_
        refine lv_if_eq (tgt := 71) hx hb dX7_text_58 (by decide) (fun c6 => ?_) (fun c6 => ?_)
        · have hf := if_t c6 hf
          exact hB71 z x1 _ _ _ hf hP hS (lv_sub hl [0, 1] rfl)
        · have hf := if_f c6 hf
          refine lv_aload_n hx hb dX7_text_61 rfl (lv_at hl 0 rfl) ?_
          obtain ⟨q7, hq7, hf⟩ := bind_some hf
          refine callV_v (As := []) (rest := []) S hB hP hS (C := RX7) (b := E.ad 22 0) (g_recv (o := 22) (d := 0) hB hP m_22_0 rfl rfl) (K_X7_readLine l hE σ z hq7) (cwV 0 S.2.2.2.2 gX7_text_X7_readLine rfl rfl rfl (by decide +kernel) ⟨Nat.le_of_ble_eq_true rfl, Nat.le_of_ble_eq_true rfl⟩) rfl hl.1 rfl (Nat.le_of_ble_eq_true rfl) dX7_text_62 ⟨Nat.zero_le _, Nat.zero_le _⟩ (fun H locs hP hS => ?_)
          refine lv_iinc (v := x1 + (1 : Int32)) (lv' := [(1, .int (x1 + (1 : Int32))), (0, .ref (E.ad 22 0))]) hx hb dX7_text_65 hl (k := 1) rfl rfl (by decide) rfl (fun ls hl => ?_)
          refine lv_goto (tgt := 47) hx hb dX7_text_68 (by decide) ?_
          exact ih47 q7 (x1 + (1 : Int32)) _ _ _ hf hP hS (lv_sub hl [1, 0] rfl)
  have hL24 : ∀ (n24 : Nat) (z : Ob) (x1 : Int32) (x2 : Int32) (H : Heap) (locs : List Loc) (ls : Array Slot), f_X7_text_l24 n24 z x1 x2 = some (r, z') → va_P E.1 vwCl (GW E (va_up σ 22 z)) H → va_S (GA E) s.heap H locs → lv_has ls 3 [(0, .ref (E.ad 22 0)), (1, .int x1), (2, .int x2)] → W p l e rm_X7_text s m ([.ref (E.ad 22 0)] : List Value).toArray below meth c H locs 0 0 Z (F0 m 24 ls []) := by
    intro n24
    induction n24 with
    | zero =>
      intro z x1 x2 H locs ls hf
      cases (show (none : Option _) = some _ from hf)
    | succ n24 ih24 =>
      intro z x1 x2 H locs ls hf hP hS hl
      unfold f_X7_text_l24 at hf
      refine lv_iload_n hx hb dX7_text_24 rfl (lv_at hl 2 rfl) ?_
      refine lv_bipush (v := 53) hx hb dX7_text_25 (by decide) ?_
      refine lv_icmp_ge (tgt := 43) hx hb dX7_text_27 (by decide) (fun c8 => ?_) (fun c8 => ?_)
      · have hf := if_t c8 hf
        refine lv_aload_n hx hb dX7_text_43 rfl (lv_at hl 0 rfl) ?_
        obtain ⟨q9, hq9, hf⟩ := bind_some hf
        refine callV_v (As := []) (rest := []) S hB hP hS (C := RX7) (b := E.ad 22 0) (g_recv (o := 22) (d := 0) hB hP m_22_0 rfl rfl) (K_X7_step l hE σ z hq9) (cwV 0 S.2.2.2.2 gX7_text_X7_step rfl rfl rfl (by decide +kernel) ⟨Nat.le_of_ble_eq_true rfl, Nat.le_of_ble_eq_true rfl⟩) rfl hl.1 rfl (Nat.le_of_ble_eq_true rfl) dX7_text_44 ⟨Nat.zero_le _, Nat.zero_le _⟩ (fun H locs hP hS => ?_)
        exact hL47 FUEL q9 x1 _ _ _ hf hP hS (lv_sub hl [0, 1] rfl)
      · have hf := if_f c8 hf
        refine lv_aload_n hx hb dX7_text_30 rfl (lv_at hl 0 rfl) ?_
        refine g_get (v := .ref (E.ad 22 2)) S hB hinX7 hP m_22_0 rfl rfl 1 (by decide) fl13 rfl rfl dX7_text_31 ?_
        refine lv_iload_n hx hb dX7_text_34 rfl (lv_at hl 2 rfl) ?_
        refine lv_iconst (v := 0) hx hb dX7_text_35 (by decide) ?_
        obtain ⟨hv10, hf⟩ := ck_some hf
        refine g_iast (r := z 2) S hB hE hP hS m_22_2 rfl rfl (fun _ => rfl) hv10 (X' := (va_up σ 22 (ob z 2 x2.toNatClampNeg (0 : Int32)))) (lens_put σ 22 _ _ _ _) dX7_text_36 (fun H locs hP hS => ?_)
        refine lv_iinc (v := x2 + (1 : Int32)) (lv' := [(2, .int (x2 + (1 : Int32))), (0, .ref (E.ad 22 0)), (1, .int x1)]) hx hb dX7_text_37 hl (k := 2) rfl rfl (by decide) rfl (fun ls hl => ?_)
        refine lv_goto (tgt := 24) hx hb dX7_text_40 (by decide) ?_
        exact ih24 (ob z 2 x2.toNatClampNeg (0 : Int32)) x1 (x2 + (1 : Int32)) _ _ _ hf hP hS (lv_sub hl [1, 2, 0] rfl)
  unfold f_X7_text at hf
  refine lv_aload_n hx hb dX7_text_0 rfl (lv_at hl 0 rfl) ?_
  refine lv_iconst (v := 0) hx hb dX7_text_1 (by decide) ?_
  refine g_put S hB hE hinX7 tyX7 tyX7_ok nmX7 hP hS m_22_0 rfl rfl 7 (by decide) fl60 rfl rfl rfl rfl (Nat.le_of_ble_eq_true rfl) (by exact (fun _ => rfl) _) (X' := (va_up σ 22 (ob z 0 7 (0 : Int32)))) (lens_put σ 22 _ _ _ _) dX7_text_2 (fun H locs hP hS => ?_)
  refine lv_aload_n hx hb dX7_text_5 rfl (lv_at hl 0 rfl) ?_
  refine lv_iconst (v := 0) hx hb dX7_text_6 (by decide) ?_
  refine g_put S hB hE hinX7 tyX7 tyX7_ok nmX7 hP hS m_22_0 rfl rfl 9 (by decide) fl72 rfl rfl rfl rfl (Nat.le_of_ble_eq_true rfl) (by exact (fun _ => rfl) _) (X' := (va_up σ 22 (ob (ob z 0 7 (0 : Int32)) 0 9 (0 : Int32)))) (lens_put σ 22 _ _ _ _) dX7_text_7 (fun H locs hP hS => ?_)
  refine lv_aload_n hx hb dX7_text_10 rfl (lv_at hl 0 rfl) ?_
  refine lv_iconst (v := 0) hx hb dX7_text_11 (by decide) ?_
  refine g_put S hB hE hinX7 tyX7 tyX7_ok nmX7 hP hS m_22_0 rfl rfl 2 (by decide) fl99 rfl rfl rfl rfl (Nat.le_of_ble_eq_true rfl) (by exact (fun _ => rfl) _) (X' := (va_up σ 22 (ob (ob (ob z 0 7 (0 : Int32)) 0 9 (0 : Int32)) 0 2 (0 : Int32)))) (lens_put σ 22 _ _ _ _) dX7_text_12 (fun H locs hP hS => ?_)
  refine lv_aload_n hx hb dX7_text_15 rfl (lv_at hl 0 rfl) ?_
  refine lv_iconst (v := 0) hx hb dX7_text_16 (by decide) ?_
  refine g_put S hB hE hinX7 tyX7 tyX7_ok nmX7 hP hS m_22_0 rfl rfl 3 (by decide) fl115 rfl rfl (nz01 (by decide)) (fz01 (by decide)) (Nat.le_of_ble_eq_true rfl) (by exact (fun _ => rfl) _) (X' := (va_up σ 22 (ob (ob (ob (ob z 0 7 (0 : Int32)) 0 9 (0 : Int32)) 0 2 (0 : Int32)) 0 3 (0 : Int32)))) (lens_put σ 22 _ _ _ _) dX7_text_17 (fun H locs hP hS => ?_)
  refine lv_iconst (v := 0) hx hb dX7_text_20 (by decide) ?_
  refine lv_istore_n (lv' := [(1, .int (0 : Int32)), (0, .ref (E.ad 22 0))]) hx hb dX7_text_21 rfl hl (by decide) rfl (fun ls hl => ?_)
  refine lv_iconst (v := 0) hx hb dX7_text_22 (by decide) ?_
  refine lv_istore_n (lv' := [(2, .int (0 : Int32)), (1, .int (0 : Int32)), (0, .ref (E.ad 22 0))]) hx hb dX7_text_23 rfl hl (by decide) rfl (fun ls hl => ?_)
  exact hL24 FUEL (ob (ob (ob (ob z 0 7 (0 : Int32)) 0 9 (0 : Int32)) 0 2 (0 : Int32)) 0 3 (0 : Int32)) (0 : Int32) (0 : Int32) _ _ _ hf hP hS (lv_sub hl [2, 1, 0] rfl)
theorem KW_X7_text (l : Launch) {E : En} (hE : Inj E) (X : Wd) {r : Int32} {z' : Ob} (hf : f_X7_text (X 22) = some (r, z')) : Cti l E yX7_text wsX7_text rm_X7_text [.ref (E.ad 22 0)] X r (va_up X 22 z') := by
  have h := K_X7_text l hE X (X 22)  hf
  rw [lens_all] at h
  exact h
/-! X7_fault -/
abbrev rm_X7_fault : Room := { frames := 0, cells := 0, slots := 0, locals := 0 }
set_option maxHeartbeats 4000000 in
set_option maxRecDepth 100000 in
theorem K_X7_fault (l : Launch) {E : En} (hE : Inj E) (σ : Wd) (z : Ob) {r : Int32} (hf : f_X7_fault z = some r) : Cti l E yX7_fault wsX7_fault rm_X7_fault [.ref (E.ad 22 0)] (va_up σ 22 z) r (va_up σ 22 z) := by
  refine meet_i (cc := cX7_fault) (maxL := 1) (own := RX7) (by decide) rfl rfl (Nat.le_of_ble_eq_true rfl) ?_
  intro p e s m below meth c Z S hB fin hP hS ls hl
  have hx := S.1
  have hb := S.2.1
  have hl : lv_has ls 1 [(0, .ref (E.ad 22 0))] := hl
  have hinX7 : ∀ w ∈ u_ws RX7 TX7 25, w ∈ wsX7_fault := by decide +kernel
  have fl125 := S.2.2.2.2 (.fieldLink RX7 125 "MownMazeModel" "fault" "I") (by decide +kernel)
  unfold f_X7_fault at hf
  refine lv_aload_n hx hb dX7_fault_0 rfl (lv_at hl 0 rfl) ?_
  refine g_get (v := .int (z 0 6)) S hB hinX7 hP m_22_0 rfl rfl 6 (by decide) fl125 rfl rfl dX7_fault_1 ?_
  exact fin dX7_fault_4 (s0 hf) rfl hP hS
theorem KW_X7_fault (l : Launch) {E : En} (hE : Inj E) (X : Wd) {r : Int32} (hf : f_X7_fault (X 22) = some r) : Cti l E yX7_fault wsX7_fault rm_X7_fault [.ref (E.ad 22 0)] X r X := by
  have h := K_X7_fault l hE X (X 22)  hf
  rw [lens_all] at h
  exact h
/-! X7_isPlot -/
abbrev rm_X7_isPlot : Room := { frames := 1, cells := 0, slots := 0, locals := 25 }
set_option maxHeartbeats 4000000 in
set_option maxRecDepth 100000 in
theorem K_X7_isPlot (l : Launch) {E : En} (hE : Inj E) (X : Wd) (a0 : Int32) {r : Int32} (hf : f_X7_isPlot a0 = some r) : Cti l E yX7_isPlot wsX7_isPlot rm_X7_isPlot [.int a0] X r X := by
  refine meet_z (cc := cX7_isPlot) (maxL := 1) (own := RX7) (by decide) rfl rfl (Nat.le_of_ble_eq_true rfl) ?_
  intro p e s m below meth c Z S hB fin hP hS ls hl
  have hx := S.1
  have hb := S.2.1
  have hl : lv_has ls 1 [(0, .int a0)] := hl
  unfold f_X7_isPlot at hf
  refine lv_iload_n hx hb dX7_isPlot_0 rfl (lv_at hl 0 rfl) ?_
  refine lv_i2l hx hb dX7_isPlot_1 (v := a0.toInt64) rfl ?_
  refine lv_lconst (v := 0) hx hb dX7_isPlot_2 (by decide) ?_
  refine lv_ldc2 hx hb S.2.2.2.1 (S.2.2.2.2 (.constantLong RX7 131 (15)) (by decide +kernel)) dX7_isPlot_3 ?_
  obtain ⟨q1, hq1, hf⟩ := bind_some hf
  refine callS_i (As := [.long a0.toInt64, .long (0 : Int64), .long (15 : Int64)]) (rest := []) S hB hP hS (K_X7_in l hE X a0.toInt64 (0 : Int64) (15 : Int64) hq1) (va_cwS 3 S.2.2.2.2 gX7_isPlot_X7_in rfl rfl rfl (by decide +kernel) ⟨Nat.le_of_ble_eq_true rfl, Nat.le_of_ble_eq_true rfl⟩) rfl hl.1 rfl (Nat.le_of_ble_eq_true rfl) dX7_isPlot_6 ⟨Nat.zero_le _, Nat.zero_le _⟩ (fun H locs hP hS => ?_)
  obtain ⟨hv2, hf⟩ := ckb_some hf
  exact fin dX7_isPlot_9 (nz01 hv2) (s0 hf) rfl hP hS
/-! X7_isHedge -/
abbrev rm_X7_isHedge : Room := { frames := 1, cells := 0, slots := 0, locals := 25 }
set_option maxHeartbeats 4000000 in
set_option maxRecDepth 100000 in
theorem K_X7_isHedge (l : Launch) {E : En} (hE : Inj E) (X : Wd) (a0 : Int32) {r : Int32} (hf : f_X7_isHedge a0 = some r) : Cti l E yX7_isHedge wsX7_isHedge rm_X7_isHedge [.int a0] X r X := by
  refine meet_z (cc := cX7_isHedge) (maxL := 1) (own := RX7) (by decide) rfl rfl (Nat.le_of_ble_eq_true rfl) ?_
  intro p e s m below meth c Z S hB fin hP hS ls hl
  have hx := S.1
  have hb := S.2.1
  have hl : lv_has ls 1 [(0, .int a0)] := hl
  unfold f_X7_isHedge at hf
  refine lv_iload_n hx hb dX7_isHedge_0 rfl (lv_at hl 0 rfl) ?_
  refine lv_i2l hx hb dX7_isHedge_1 (v := a0.toInt64) rfl ?_
  refine lv_lconst (v := 0) hx hb dX7_isHedge_2 (by decide) ?_
  refine lv_ldc2 hx hb S.2.2.2.1 (S.2.2.2.2 (.constantLong RX7 97 (23)) (by decide +kernel)) dX7_isHedge_3 ?_
  obtain ⟨q1, hq1, hf⟩ := bind_some hf
  refine callS_i (As := [.long a0.toInt64, .long (0 : Int64), .long (23 : Int64)]) (rest := []) S hB hP hS (K_X7_in l hE X a0.toInt64 (0 : Int64) (23 : Int64) hq1) (va_cwS 3 S.2.2.2.2 gX7_isHedge_X7_in rfl rfl rfl (by decide +kernel) ⟨Nat.le_of_ble_eq_true rfl, Nat.le_of_ble_eq_true rfl⟩) rfl hl.1 rfl (Nat.le_of_ble_eq_true rfl) dX7_isHedge_6 ⟨Nat.zero_le _, Nat.zero_le _⟩ (fun H locs hP hS => ?_)
  obtain ⟨hv2, hf⟩ := ckb_some hf
  exact fin dX7_isHedge_9 (nz01 hv2) (s0 hf) rfl hP hS
/-! X7_isGardener -/
abbrev rm_X7_isGardener : Room := { frames := 1, cells := 0, slots := 0, locals := 25 }
set_option maxHeartbeats 4000000 in
set_option maxRecDepth 100000 in
theorem K_X7_isGardener (l : Launch) {E : En} (hE : Inj E) (σ : Wd) (z : Ob) (a1 : Int32) {r : Int32} (hf : f_X7_isGardener z a1 = some r) : Cti l E yX7_isGardener wsX7_isGardener rm_X7_isGardener [.ref (E.ad 22 0), .int a1] (va_up σ 22 z) r (va_up σ 22 z) := by
  refine meet_z (cc := cX7_isGardener) (maxL := 2) (own := RX7) (by decide) rfl rfl (Nat.le_of_ble_eq_true rfl) ?_
  intro p e s m below meth c Z S hB fin hP hS ls hl
  have hx := S.1
  have hb := S.2.1
  have hl : lv_has ls 2 [(0, .ref (E.ad 22 0)), (1, .int a1)] := hl
  have hinX7 : ∀ w ∈ u_ws RX7 TX7 25, w ∈ wsX7_isGardener := by decide +kernel
  have fl7 := S.2.2.2.2 (.fieldLink RX7 7 "MownMazeModel" "state" "[I") (by decide +kernel)
  unfold f_X7_isGardener at hf
  refine lv_iload_n hx hb dX7_isGardener_0 rfl (lv_at hl 1 rfl) ?_
  refine lv_i2l hx hb dX7_isGardener_1 (v := a1.toInt64) rfl ?_
  refine lv_lconst (v := 0) hx hb dX7_isGardener_2 (by decide) ?_
  refine lv_aload_n hx hb dX7_isGardener_3 rfl (lv_at hl 0 rfl) ?_
  refine g_get (v := .ref (E.ad 22 1)) S hB hinX7 hP m_22_0 rfl rfl 0 (by decide) fl7 rfl rfl dX7_isGardener_4 ?_
  refine lv_bipush (v := 37) hx hb dX7_isGardener_7 (by decide) ?_
  refine g_iald (r := z 1) S hB hP m_22_1 rfl (by unfold vp_in; decide) dX7_isGardener_9 ?_
  refine lv_iconst (v := 1) hx hb dX7_isGardener_10 (by decide) ?_
  refine lv_isub hx hb dX7_isGardener_11 ?_
  refine lv_i2l hx hb dX7_isGardener_12 (v := ((z 1 37) - (1 : Int32)).toInt64) rfl ?_
  obtain ⟨q1, hq1, hf⟩ := bind_some hf
  refine callS_i (As := [.long a1.toInt64, .long (0 : Int64), .long (((z 1 37) - (1 : Int32)).toInt64)]) (rest := []) S hB hP hS (K_X7_in l hE (va_up σ 22 z) a1.toInt64 (0 : Int64) (((z 1 37) - (1 : Int32)).toInt64) hq1) (va_cwS 3 S.2.2.2.2 gX7_isGardener_X7_in rfl rfl rfl (by decide +kernel) ⟨Nat.le_of_ble_eq_true rfl, Nat.le_of_ble_eq_true rfl⟩) rfl hl.1 rfl (Nat.le_of_ble_eq_true rfl) dX7_isGardener_13 ⟨Nat.zero_le _, Nat.zero_le _⟩ (fun H locs hP hS => ?_)
  obtain ⟨hv2, hf⟩ := ckb_some hf
  exact fin dX7_isGardener_16 (nz01 hv2) (s0 hf) rfl hP hS
theorem KW_X7_isGardener (l : Launch) {E : En} (hE : Inj E) (X : Wd) (a1 : Int32) {r : Int32} (hf : f_X7_isGardener (X 22) a1 = some r) : Cti l E yX7_isGardener wsX7_isGardener rm_X7_isGardener [.ref (E.ad 22 0), .int a1] X r X := by
  have h := K_X7_isGardener l hE X (X 22) a1 hf
  rw [lens_all] at h
  exact h
/-! X7_isGuest -/
abbrev rm_X7_isGuest : Room := { frames := 1, cells := 0, slots := 0, locals := 25 }
set_option maxHeartbeats 4000000 in
set_option maxRecDepth 100000 in
theorem K_X7_isGuest (l : Launch) {E : En} (hE : Inj E) (σ : Wd) (z : Ob) (a1 : Int32) {r : Int32} (hf : f_X7_isGuest z a1 = some r) : Cti l E yX7_isGuest wsX7_isGuest rm_X7_isGuest [.ref (E.ad 22 0), .int a1] (va_up σ 22 z) r (va_up σ 22 z) := by
  refine meet_z (cc := cX7_isGuest) (maxL := 2) (own := RX7) (by decide) rfl rfl (Nat.le_of_ble_eq_true rfl) ?_
  intro p e s m below meth c Z S hB fin hP hS ls hl
  have hx := S.1
  have hb := S.2.1
  have hl : lv_has ls 2 [(0, .ref (E.ad 22 0)), (1, .int a1)] := hl
  have hinX7 : ∀ w ∈ u_ws RX7 TX7 25, w ∈ wsX7_isGuest := by decide +kernel
  have fl7 := S.2.2.2.2 (.fieldLink RX7 7 "MownMazeModel" "state" "[I") (by decide +kernel)
  unfold f_X7_isGuest at hf
  refine lv_iload_n hx hb dX7_isGuest_0 rfl (lv_at hl 1 rfl) ?_
  refine lv_i2l hx hb dX7_isGuest_1 (v := a1.toInt64) rfl ?_
  refine lv_lconst (v := 0) hx hb dX7_isGuest_2 (by decide) ?_
  refine lv_aload_n hx hb dX7_isGuest_3 rfl (lv_at hl 0 rfl) ?_
  refine g_get (v := .ref (E.ad 22 1)) S hB hinX7 hP m_22_0 rfl rfl 0 (by decide) fl7 rfl rfl dX7_isGuest_4 ?_
  refine lv_bipush (v := 51) hx hb dX7_isGuest_7 (by decide) ?_
  refine g_iald (r := z 1) S hB hP m_22_1 rfl (by unfold vp_in; decide) dX7_isGuest_9 ?_
  refine lv_iconst (v := 1) hx hb dX7_isGuest_10 (by decide) ?_
  refine lv_isub hx hb dX7_isGuest_11 ?_
  refine lv_i2l hx hb dX7_isGuest_12 (v := ((z 1 51) - (1 : Int32)).toInt64) rfl ?_
  obtain ⟨q1, hq1, hf⟩ := bind_some hf
  refine callS_i (As := [.long a1.toInt64, .long (0 : Int64), .long (((z 1 51) - (1 : Int32)).toInt64)]) (rest := []) S hB hP hS (K_X7_in l hE (va_up σ 22 z) a1.toInt64 (0 : Int64) (((z 1 51) - (1 : Int32)).toInt64) hq1) (va_cwS 3 S.2.2.2.2 gX7_isGuest_X7_in rfl rfl rfl (by decide +kernel) ⟨Nat.le_of_ble_eq_true rfl, Nat.le_of_ble_eq_true rfl⟩) rfl hl.1 rfl (Nat.le_of_ble_eq_true rfl) dX7_isGuest_13 ⟨Nat.zero_le _, Nat.zero_le _⟩ (fun H locs hP hS => ?_)
  obtain ⟨hv2, hf⟩ := ckb_some hf
  exact fin dX7_isGuest_16 (nz01 hv2) (s0 hf) rfl hP hS
theorem KW_X7_isGuest (l : Launch) {E : En} (hE : Inj E) (X : Wd) (a1 : Int32) {r : Int32} (hf : f_X7_isGuest (X 22) a1 = some r) : Cti l E yX7_isGuest wsX7_isGuest rm_X7_isGuest [.ref (E.ad 22 0), .int a1] X r X := by
  have h := K_X7_isGuest l hE X (X 22) a1 hf
  rw [lens_all] at h
  exact h
/-! X7_isOpen -/
abbrev rm_X7_isOpen : Room := { frames := 0, cells := 0, slots := 0, locals := 0 }
set_option maxHeartbeats 4000000 in
set_option maxRecDepth 100000 in
theorem K_X7_isOpen (l : Launch) {E : En} (hE : Inj E) (σ : Wd) (z : Ob) (a1 : Int32) (a2 : Int32) (a3 : Int32) {r : Int32} (hf : f_X7_isOpen z a1 a2 a3 = some r) : Cti l E yX7_isOpen wsX7_isOpen rm_X7_isOpen [.ref (E.ad 22 0), .int a1, .int a2, .int a3] (va_up σ 22 z) r (va_up σ 22 z) := by
  refine meet_z (cc := cX7_isOpen) (maxL := 6) (own := RX7) (by decide) rfl rfl (Nat.le_of_ble_eq_true rfl) ?_
  intro p e s m below meth c Z S hB fin hP hS ls hl
  have hx := S.1
  have hb := S.2.1
  have hl : lv_has ls 6 [(0, .ref (E.ad 22 0)), (1, .int a1), (2, .int a2), (3, .int a3)] := hl
  have hinX7 : ∀ w ∈ u_ws RX7 TX7 25, w ∈ wsX7_isOpen := by decide +kernel
  have fl7 := S.2.2.2.2 (.fieldLink RX7 7 "MownMazeModel" "state" "[I") (by decide +kernel)
  unfold f_X7_isOpen at hf
  refine lv_iload_n hx hb dX7_isOpen_0 rfl (lv_at hl 2 rfl) ?_
  refine lv_iconst (v := 4) hx hb dX7_isOpen_1 (by decide) ?_
  refine lv_idiv hx hb dX7_isOpen_2 (by decide) ?_
  refine lv_istore (lv' := [(4, .int (a2 / (4 : Int32))), (0, .ref (E.ad 22 0)), (1, .int a1), (2, .int a2), (3, .int a3)]) hx hb dX7_isOpen_3 hl (by decide) rfl (fun ls hl => ?_)
  refine lv_iload_n hx hb dX7_isOpen_5 rfl (lv_at hl 3 rfl) ?_
  refine lv_iconst (v := 4) hx hb dX7_isOpen_6 (by decide) ?_
  refine lv_irem hx hb dX7_isOpen_7 (by decide) ?_
  refine lv_istore (lv' := [(5, .int (a2 - a2 / (4 : Int32) * (4 : Int32))), (4, .int (a2 / (4 : Int32))), (0, .ref (E.ad 22 0)), (1, .int a1), (2, .int a2), (3, .int a3)]) hx hb dX7_isOpen_8 hl (by decide) rfl (fun ls hl => ?_)
  refine lv_iload_n hx hb dX7_isOpen_10 rfl (lv_at hl 5 rfl) ?_
  by_cases c1 : a3 = (0 : Int32)
  · have hf := if_t c1 hf
    refine lv_tableIn (off := 25) (tgt := 36) hx hb dX7_isOpen_11 (by rw [c1]; decide) (by rw [c1]; decide) (by rw [c1]; rfl) (by decide) ?_
    refine lv_iload hx hb dX7_isOpen_36 (lv_at hl 1 rfl) ?_
    refine lv_if_le (tgt := 59) hx hb dX7_isOpen_38 (by decide) (fun c2 => ?_) (fun c2 => ?_)
    · have hf := if_t c2 hf
      refine lv_iconst (v := 0) hx hb dX7_isOpen_59 (by decide) ?_
      exact fin dX7_isOpen_60 (nz01 (by decide)) (s0 hf) rfl hP hS
    · have hf := if_f c2 hf
      refine lv_aload_n hx hb dX7_isOpen_41 rfl (lv_at hl 2 rfl) ?_
      refine g_get (v := .ref (E.ad 22 1)) S hB hinX7 hP m_22_0 rfl rfl 0 (by decide) fl7 rfl rfl dX7_isOpen_42 ?_
      refine lv_iload_n hx hb dX7_isOpen_45 rfl (lv_at hl 3 rfl) ?_
      refine lv_bipush (v := 8) hx hb dX7_isOpen_46 (by decide) ?_
      refine lv_iadd hx hb dX7_isOpen_48 ?_
      refine lv_iload_n hx hb dX7_isOpen_49 rfl (lv_at hl 4 rfl) ?_
      refine lv_iadd hx hb dX7_isOpen_50 ?_
      obtain ⟨hv3, hf⟩ := ck_some hf
      refine g_iald (r := z 1) S hB hP m_22_1 rfl hv3 dX7_isOpen_51 ?_
      refine W.eq (g2 := F0 m 52 ls [.int (z 1 (((a1 + (8 : Int32)) + a2).toNatClampNeg))]) rfl ?_
      refine lv_if_ne (tgt := 59) hx hb dX7_isOpen_52 (by decide) (fun c4 => ?_) (fun c4 => ?_)
      · have hf := if_f c4 hf
        refine lv_iconst (v := 0) hx hb dX7_isOpen_59 (by decide) ?_
        exact fin dX7_isOpen_60 (nz01 (by decide)) (s0 hf) rfl hP hS
      · have hf := if_t c4 hf
        refine lv_iconst (v := 1) hx hb dX7_isOpen_55 (by decide) ?_
        refine lv_goto (tgt := 60) hx hb dX7_isOpen_56 (by decide) ?_
        exact fin dX7_isOpen_60 (nz01 (by decide)) (s0 hf) rfl hP hS
  · have hf := if_f c1 hf
    by_cases c5 : a3 = (1 : Int32)
    · have hf := if_t c5 hf
      refine lv_tableIn (off := 50) (tgt := 61) hx hb dX7_isOpen_11 (by rw [c5]; decide) (by rw [c5]; decide) (by rw [c5]; rfl) (by decide) ?_
      refine lv_iload hx hb dX7_isOpen_61 (lv_at hl 0 rfl) ?_
      refine lv_if_le (tgt := 89) hx hb dX7_isOpen_63 (by decide) (fun c6 => ?_) (fun c6 => ?_)
      · have hf := if_t c6 hf
        refine lv_iconst (v := 0) hx hb dX7_isOpen_89 (by decide) ?_
        exact fin dX7_isOpen_90 (nz01 (by decide)) (s0 hf) rfl hP hS
      · have hf := if_f c6 hf
        refine lv_aload_n hx hb dX7_isOpen_66 rfl (lv_at hl 2 rfl) ?_
        refine g_get (v := .ref (E.ad 22 1)) S hB hinX7 hP m_22_0 rfl rfl 0 (by decide) fl7 rfl rfl dX7_isOpen_67 ?_
        refine lv_iload_n hx hb dX7_isOpen_70 rfl (lv_at hl 3 rfl) ?_
        refine lv_iconst (v := 3) hx hb dX7_isOpen_71 (by decide) ?_
        refine lv_iload hx hb dX7_isOpen_72 (lv_at hl 1 rfl) ?_
        refine lv_imul hx hb dX7_isOpen_74 ?_
        refine lv_iadd hx hb dX7_isOpen_75 ?_
        refine lv_iload hx hb dX7_isOpen_76 (lv_at hl 0 rfl) ?_
        refine lv_iadd hx hb dX7_isOpen_78 ?_
        refine lv_iconst (v := 1) hx hb dX7_isOpen_79 (by decide) ?_
        refine lv_isub hx hb dX7_isOpen_80 ?_
        obtain ⟨hv7, hf⟩ := ck_some hf
        refine g_iald (r := z 1) S hB hP m_22_1 rfl hv7 dX7_isOpen_81 ?_
        refine W.eq (g2 := F0 m 82 ls [.int (z 1 ((((a1 + ((3 : Int32) * (a2 / (4 : Int32)))) + (a2 - a2 / (4 : Int32) * (4 : Int32))) - (1 : Int32)).toNatClampNeg))]) rfl ?_
        refine lv_if_ne (tgt := 89) hx hb dX7_isOpen_82 (by decide) (fun c8 => ?_) (fun c8 => ?_)
        · have hf := if_f c8 hf
          refine lv_iconst (v := 0) hx hb dX7_isOpen_89 (by decide) ?_
          exact fin dX7_isOpen_90 (nz01 (by decide)) (s0 hf) rfl hP hS
        · have hf := if_t c8 hf
          refine lv_iconst (v := 1) hx hb dX7_isOpen_85 (by decide) ?_
          refine lv_goto (tgt := 90) hx hb dX7_isOpen_86 (by decide) ?_
          exact fin dX7_isOpen_90 (nz01 (by decide)) (s0 hf) rfl hP hS
    · have hf := if_f c5 hf
      by_cases c9 : a3 = (2 : Int32)
      · have hf := if_t c9 hf
        refine lv_tableIn (off := 80) (tgt := 91) hx hb dX7_isOpen_11 (by rw [c9]; decide) (by rw [c9]; decide) (by rw [c9]; rfl) (by decide) ?_
        refine lv_iload hx hb dX7_isOpen_91 (lv_at hl 0 rfl) ?_
        refine lv_iconst (v := 3) hx hb dX7_isOpen_93 (by decide) ?_
        refine lv_icmp_ge (tgt := 118) hx hb dX7_isOpen_94 (by decide) (fun c10 => ?_) (fun c10 => ?_)
        · have hf := if_t c10 hf
          refine lv_iconst (v := 0) hx hb dX7_isOpen_118 (by decide) ?_
          exact fin dX7_isOpen_119 (nz01 (by decide)) (s0 hf) rfl hP hS
        · have hf := if_f c10 hf
          refine lv_aload_n hx hb dX7_isOpen_97 rfl (lv_at hl 2 rfl) ?_
          refine g_get (v := .ref (E.ad 22 1)) S hB hinX7 hP m_22_0 rfl rfl 0 (by decide) fl7 rfl rfl dX7_isOpen_98 ?_
          refine lv_iload_n hx hb dX7_isOpen_101 rfl (lv_at hl 3 rfl) ?_
          refine lv_iconst (v := 3) hx hb dX7_isOpen_102 (by decide) ?_
          refine lv_iload hx hb dX7_isOpen_103 (lv_at hl 1 rfl) ?_
          refine lv_imul hx hb dX7_isOpen_105 ?_
          refine lv_iadd hx hb dX7_isOpen_106 ?_
          refine lv_iload hx hb dX7_isOpen_107 (lv_at hl 0 rfl) ?_
          refine lv_iadd hx hb dX7_isOpen_109 ?_
          obtain ⟨hv11, hf⟩ := ck_some hf
          refine g_iald (r := z 1) S hB hP m_22_1 rfl hv11 dX7_isOpen_110 ?_
          refine W.eq (g2 := F0 m 111 ls [.int (z 1 (((a1 + ((3 : Int32) * (a2 / (4 : Int32)))) + (a2 - a2 / (4 : Int32) * (4 : Int32))).toNatClampNeg))]) rfl ?_
          refine lv_if_ne (tgt := 118) hx hb dX7_isOpen_111 (by decide) (fun c12 => ?_) (fun c12 => ?_)
          · have hf := if_f c12 hf
            refine lv_iconst (v := 0) hx hb dX7_isOpen_118 (by decide) ?_
            exact fin dX7_isOpen_119 (nz01 (by decide)) (s0 hf) rfl hP hS
          · have hf := if_t c12 hf
            refine lv_iconst (v := 1) hx hb dX7_isOpen_114 (by decide) ?_
            refine lv_goto (tgt := 119) hx hb dX7_isOpen_115 (by decide) ?_
            exact fin dX7_isOpen_119 (nz01 (by decide)) (s0 hf) rfl hP hS
      · have hf := if_f c9 hf
        have tc1 := lv_neT c1 (a := 0) (by decide)
        have tc5 := lv_neT c5 (a := 1) (by decide)
        have tc9 := lv_neT c9 (a := 2) (by decide)
        refine lv_tableOut (tgt := 120) hx hb dX7_isOpen_11 (by omega) (by decide) ?_
        refine lv_iload hx hb dX7_isOpen_120 (lv_at hl 1 rfl) ?_
        refine lv_iconst (v := 3) hx hb dX7_isOpen_122 (by decide) ?_
        refine lv_icmp_ge (tgt := 144) hx hb dX7_isOpen_123 (by decide) (fun c13 => ?_) (fun c13 => ?_)
        · have hf := if_t c13 hf
          refine lv_iconst (v := 0) hx hb dX7_isOpen_144 (by decide) ?_
          exact fin dX7_isOpen_145 (nz01 (by decide)) (s0 hf) rfl hP hS
        · have hf := if_f c13 hf
          refine lv_aload_n hx hb dX7_isOpen_126 rfl (lv_at hl 2 rfl) ?_
          refine g_get (v := .ref (E.ad 22 1)) S hB hinX7 hP m_22_0 rfl rfl 0 (by decide) fl7 rfl rfl dX7_isOpen_127 ?_
          refine lv_iload_n hx hb dX7_isOpen_130 rfl (lv_at hl 3 rfl) ?_
          refine lv_bipush (v := 12) hx hb dX7_isOpen_131 (by decide) ?_
          refine lv_iadd hx hb dX7_isOpen_133 ?_
          refine lv_iload_n hx hb dX7_isOpen_134 rfl (lv_at hl 4 rfl) ?_
          refine lv_iadd hx hb dX7_isOpen_135 ?_
          obtain ⟨hv14, hf⟩ := ck_some hf
          refine g_iald (r := z 1) S hB hP m_22_1 rfl hv14 dX7_isOpen_136 ?_
          refine W.eq (g2 := F0 m 137 ls [.int (z 1 (((a1 + (12 : Int32)) + a2).toNatClampNeg))]) rfl ?_
          refine lv_if_ne (tgt := 144) hx hb dX7_isOpen_137 (by decide) (fun c15 => ?_) (fun c15 => ?_)
          · have hf := if_f c15 hf
            refine lv_iconst (v := 0) hx hb dX7_isOpen_144 (by decide) ?_
            exact fin dX7_isOpen_145 (nz01 (by decide)) (s0 hf) rfl hP hS
          · have hf := if_t c15 hf
            refine lv_iconst (v := 1) hx hb dX7_isOpen_140 (by decide) ?_
            refine lv_goto (tgt := 145) hx hb dX7_isOpen_141 (by decide) ?_
            exact fin dX7_isOpen_145 (nz01 (by decide)) (s0 hf) rfl hP hS
theorem KW_X7_isOpen (l : Launch) {E : En} (hE : Inj E) (X : Wd) (a1 : Int32) (a2 : Int32) (a3 : Int32) {r : Int32} (hf : f_X7_isOpen (X 22) a1 a2 a3 = some r) : Cti l E yX7_isOpen wsX7_isOpen rm_X7_isOpen [.ref (E.ad 22 0), .int a1, .int a2, .int a3] X r X := by
  have h := K_X7_isOpen l hE X (X 22) a1 a2 a3 hf
  rw [lens_all] at h
  exact h
/-! X7_beside -/
abbrev rm_X7_beside : Room := { frames := 0, cells := 0, slots := 0, locals := 0 }
set_option maxHeartbeats 4000000 in
set_option maxRecDepth 100000 in
theorem K_X7_beside (l : Launch) {E : En} (hE : Inj E) (X : Wd) (a0 : Int32) (a1 : Int32) {r : Int32} (hf : f_X7_beside a0 a1 = some r) : Cti l E yX7_beside wsX7_beside rm_X7_beside [.int a0, .int a1] X r X := by
  refine meet_i (cc := cX7_beside) (maxL := 2) (own := RX7) (by decide) rfl rfl (Nat.le_of_ble_eq_true rfl) ?_
  intro p e s m below meth c Z S hB fin hP hS ls hl
  have hx := S.1
  have hb := S.2.1
  have hl : lv_has ls 2 [(0, .int a0), (1, .int a1)] := hl
  unfold f_X7_beside at hf
  refine lv_iload_n hx hb dX7_beside_0 rfl (lv_at hl 1 rfl) ?_
  refine lv_if_ne (tgt := 10) hx hb dX7_beside_1 (by decide) (fun c1 => ?_) (fun c1 => ?_)
  · have hf := if_f c1 hf
    refine lv_iload_n hx hb dX7_beside_10 rfl (lv_at hl 1 rfl) ?_
    refine lv_iconst (v := 1) hx hb dX7_beside_11 (by decide) ?_
    refine lv_icmp_ne (tgt := 21) hx hb dX7_beside_12 (by decide) (fun c2 => ?_) (fun c2 => ?_)
    · have hf := if_f c2 hf
      refine lv_iload_n hx hb dX7_beside_21 rfl (lv_at hl 1 rfl) ?_
      refine lv_iconst (v := 2) hx hb dX7_beside_22 (by decide) ?_
      refine lv_icmp_ne (tgt := 32) hx hb dX7_beside_23 (by decide) (fun c3 => ?_) (fun c3 => ?_)
      · have hf := if_f c3 hf
        refine lv_iload_n hx hb dX7_beside_32 rfl (lv_at hl 0 rfl) ?_
        refine lv_iconst (v := 4) hx hb dX7_beside_33 (by decide) ?_
        refine lv_iadd hx hb dX7_beside_34 ?_
        exact fin dX7_beside_35 (s0 hf) rfl hP hS
      · have hf := if_t c3 hf
        refine lv_iload_n hx hb dX7_beside_26 rfl (lv_at hl 0 rfl) ?_
        refine lv_iconst (v := 1) hx hb dX7_beside_27 (by decide) ?_
        refine lv_iadd hx hb dX7_beside_28 ?_
        refine lv_goto (tgt := 35) hx hb dX7_beside_29 (by decide) ?_
        exact fin dX7_beside_35 (s0 hf) rfl hP hS
    · have hf := if_t c2 hf
      refine lv_iload_n hx hb dX7_beside_15 rfl (lv_at hl 0 rfl) ?_
      refine lv_iconst (v := 1) hx hb dX7_beside_16 (by decide) ?_
      refine lv_isub hx hb dX7_beside_17 ?_
      refine lv_goto (tgt := 35) hx hb dX7_beside_18 (by decide) ?_
      exact fin dX7_beside_35 (s0 hf) rfl hP hS
  · have hf := if_t c1 hf
    refine lv_iload_n hx hb dX7_beside_4 rfl (lv_at hl 0 rfl) ?_
    refine lv_iconst (v := 4) hx hb dX7_beside_5 (by decide) ?_
    refine lv_isub hx hb dX7_beside_6 ?_
    refine lv_goto (tgt := 35) hx hb dX7_beside_7 (by decide) ?_
    exact fin dX7_beside_35 (s0 hf) rfl hP hS
/-! X7_stepsOn -/
abbrev rm_X7_stepsOn : Room := { frames := 1, cells := 0, slots := 0, locals := 25 }
set_option maxHeartbeats 4000000 in
set_option maxRecDepth 100000 in
theorem K_X7_stepsOn (l : Launch) {E : En} (hE : Inj E) (σ : Wd) (z : Ob) (a1 : Int32) (a2 : Int32) {z' : Ob} (hf : f_X7_stepsOn z a1 a2 = some z') : Ctv l E yX7_stepsOn wsX7_stepsOn rm_X7_stepsOn [.ref (E.ad 22 0), .int a1, .int a2] (va_up σ 22 z)  (va_up σ 22 z') := by
  refine meet_v (cc := cX7_stepsOn) (maxL := 7) (own := RX7) (by decide) rfl rfl (Nat.le_of_ble_eq_true rfl) ?_
  intro p e s m below meth c Z S hB fin hP hS ls hl
  have hx := S.1
  have hb := S.2.1
  have hl : lv_has ls 7 [(0, .ref (E.ad 22 0)), (1, .int a1), (2, .int a2)] := hl
  have hinX7 : ∀ w ∈ u_ws RX7 TX7 25, w ∈ wsX7_stepsOn := by decide +kernel
  have fl25 := S.2.2.2.2 (.fieldLink RX7 25 "MownMazeModel" "steps" "[I") (by decide +kernel)
  have hL36 : ∀ (n36 : Nat) (z : Ob) (x1 : Int32) (x3 : Int32) (x4 : Int32) (H : Heap) (locs : List Loc) (ls : Array Slot), f_X7_stepsOn_l36 n36 z x1 x3 x4 = some z' → va_P E.1 vwCl (GW E (va_up σ 22 z)) H → va_S (GA E) s.heap H locs → lv_has ls 7 [(0, .ref (E.ad 22 0)), (1, .int x1), (3, .int x3), (4, .int x4)] → W p l e rm_X7_stepsOn s m ([.ref (E.ad 22 0), .int a1, .int a2] : List Value).toArray below meth c H locs 0 0 Z (F0 m 36 ls []) := by
    intro n36
    induction n36 with
    | zero =>
      intro z x1 x3 x4 H locs ls hf
      cases (show (none : Option _) = some _ from hf)
    | succ n36 ih36 =>
      have hL52 : ∀ (n52 : Nat) (z : Ob) (x1 : Int32) (x3 : Int32) (x4 : Int32) (x5 : Int32) (H : Heap) (locs : List Loc) (ls : Array Slot), f_X7_stepsOn_l52 (f_X7_stepsOn_l36 n36) n52 z x1 x3 x4 x5 = some z' → va_P E.1 vwCl (GW E (va_up σ 22 z)) H → va_S (GA E) s.heap H locs → lv_has ls 7 [(0, .ref (E.ad 22 0)), (1, .int x1), (3, .int x3), (4, .int x4), (5, .int x5)] → W p l e rm_X7_stepsOn s m ([.ref (E.ad 22 0), .int a1, .int a2] : List Value).toArray below meth c H locs 0 0 Z (F0 m 52 ls []) := by
        intro n52
        induction n52 with
        | zero =>
          intro z x1 x3 x4 x5 H locs ls hf
          cases (show (none : Option _) = some _ from hf)
        | succ n52 ih52 =>
          have hL62 : ∀ (n62 : Nat) (z : Ob) (x1 : Int32) (x3 : Int32) (x4 : Int32) (x5 : Int32) (x6 : Int32) (H : Heap) (locs : List Loc) (ls : Array Slot), f_X7_stepsOn_l62 (f_X7_stepsOn_l36 n36) (f_X7_stepsOn_l52 (f_X7_stepsOn_l36 n36) n52) n62 z x1 x3 x4 x5 x6 = some z' → va_P E.1 vwCl (GW E (va_up σ 22 z)) H → va_S (GA E) s.heap H locs → lv_has ls 7 [(0, .ref (E.ad 22 0)), (1, .int x1), (3, .int x3), (4, .int x4), (5, .int x5), (6, .int x6)] → W p l e rm_X7_stepsOn s m ([.ref (E.ad 22 0), .int a1, .int a2] : List Value).toArray below meth c H locs 0 0 Z (F0 m 62 ls []) := by
            intro n62
            induction n62 with
            | zero =>
              intro z x1 x3 x4 x5 x6 H locs ls hf
              cases (show (none : Option _) = some _ from hf)
            | succ n62 ih62 =>
              have hB127 : ∀ (z : Ob) (x1 : Int32) (x3 : Int32) (x4 : Int32) (x5 : Int32) (x6 : Int32) (H : Heap) (locs : List Loc) (ls : Array Slot), f_X7_stepsOn_b127 (f_X7_stepsOn_l36 n36) (f_X7_stepsOn_l52 (f_X7_stepsOn_l36 n36) n52) (f_X7_stepsOn_l62 (f_X7_stepsOn_l36 n36) (f_X7_stepsOn_l52 (f_X7_stepsOn_l36 n36) n52) n62) z x1 x3 x4 x5 x6 = some z' → va_P E.1 vwCl (GW E (va_up σ 22 z)) H → va_S (GA E) s.heap H locs → lv_has ls 7 [(0, .ref (E.ad 22 0)), (1, .int x1), (3, .int x3), (4, .int x4), (5, .int x5), (6, .int x6)] → W p l e rm_X7_stepsOn s m ([.ref (E.ad 22 0), .int a1, .int a2] : List Value).toArray below meth c H locs 0 0 Z (F0 m 127 ls []) := by
                intro z x1 x3 x4 x5 x6 H locs ls hf hP hS hl
                unfold f_X7_stepsOn_b127 at hf
                refine lv_iinc (v := x6 + (1 : Int32)) (lv' := [(6, .int (x6 + (1 : Int32))), (0, .ref (E.ad 22 0)), (1, .int x1), (3, .int x3), (4, .int x4), (5, .int x5)]) hx hb dX7_stepsOn_127 hl (k := 5) rfl rfl (by decide) rfl (fun ls hl => ?_)
                refine lv_goto (tgt := 62) hx hb dX7_stepsOn_130 (by decide) ?_
                exact ih62 z x1 x3 x4 x5 (x6 + (1 : Int32)) _ _ _ hf hP hS (lv_sub hl [1, 2, 3, 4, 5, 0] rfl)
              intro z x1 x3 x4 x5 x6 H locs ls hf hP hS hl
              unfold f_X7_stepsOn_l62 at hf
              refine lv_iload hx hb dX7_stepsOn_62 (lv_at hl 5 rfl) ?_
              refine lv_iconst (v := 4) hx hb dX7_stepsOn_64 (by decide) ?_
              refine lv_icmp_ge (tgt := 133) hx hb dX7_stepsOn_65 (by decide) (fun c1 => ?_) (fun c1 => ?_)
              · have hf := if_t c1 hf
                refine lv_iinc (v := x5 + (1 : Int32)) (lv' := [(5, .int (x5 + (1 : Int32))), (0, .ref (E.ad 22 0)), (1, .int x1), (3, .int x3), (4, .int x4), (6, .int x6)]) hx hb dX7_stepsOn_133 hl (k := 4) rfl rfl (by decide) rfl (fun ls hl => ?_)
                refine lv_goto (tgt := 52) hx hb dX7_stepsOn_136 (by decide) ?_
                exact ih52 z x1 x3 x4 (x5 + (1 : Int32)) _ _ _ hf hP hS (lv_sub hl [1, 2, 3, 4, 0] rfl)
              · have hf := if_f c1 hf
                refine lv_aload_n hx hb dX7_stepsOn_68 rfl (lv_at hl 0 rfl) ?_
                refine lv_iload_n hx hb dX7_stepsOn_69 rfl (lv_at hl 1 rfl) ?_
                refine lv_iload hx hb dX7_stepsOn_70 (lv_at hl 4 rfl) ?_
                refine lv_iload hx hb dX7_stepsOn_72 (lv_at hl 5 rfl) ?_
                obtain ⟨q2, hq2, hf⟩ := bind_some hf
                refine callV_i (As := [.int x1, .int x5, .int x6]) (rest := []) S hB hP hS (C := RX7) (b := E.ad 22 0) (g_recv (o := 22) (d := 0) hB hP m_22_0 rfl rfl) (K_X7_isOpen l hE σ z x1 x5 x6 hq2) (cwV 3 S.2.2.2.2 gX7_stepsOn_X7_isOpen rfl rfl rfl (by decide +kernel) ⟨Nat.le_of_ble_eq_true rfl, Nat.le_of_ble_eq_true rfl⟩) rfl hl.1 rfl (Nat.le_of_ble_eq_true rfl) dX7_stepsOn_74 ⟨Nat.zero_le _, Nat.zero_le _⟩ (fun H locs hP hS => ?_)
                refine lv_if_eq (tgt := 127) hx hb dX7_stepsOn_77 (by decide) (fun c3 => ?_) (fun c3 => ?_)
                · have hf := if_t c3 hf
                  exact hB127 z x1 x3 x4 x5 x6 _ _ _ hf hP hS (lv_sub hl [0, 1, 2, 3, 4, 5] rfl)
                · have hf := if_f c3 hf
                  refine lv_aload_n hx hb dX7_stepsOn_80 rfl (lv_at hl 0 rfl) ?_
                  refine g_get (v := .ref (E.ad 22 6)) S hB hinX7 hP m_22_0 rfl rfl 15 (by decide) fl25 rfl rfl dX7_stepsOn_81 ?_
                  refine lv_iload hx hb dX7_stepsOn_84 (lv_at hl 4 rfl) ?_
                  refine lv_iload hx hb dX7_stepsOn_86 (lv_at hl 5 rfl) ?_
                  obtain ⟨q4, hq4, hf⟩ := bind_some hf
                  refine callS_i (As := [.int x5, .int x6]) (rest := [.ref (E.ad 22 6)]) S hB hP hS (K_X7_beside l hE (va_up σ 22 z) x5 x6 hq4) (va_cwS 2 S.2.2.2.2 gX7_stepsOn_X7_beside rfl rfl rfl (by decide +kernel) ⟨Nat.le_of_ble_eq_true rfl, Nat.le_of_ble_eq_true rfl⟩) rfl hl.1 rfl (Nat.le_of_ble_eq_true rfl) dX7_stepsOn_88 ⟨Nat.zero_le _, Nat.zero_le _⟩ (fun H locs hP hS => ?_)
                  obtain ⟨hv5, hf⟩ := ck_some hf
                  refine g_iald (r := z 6) S hB hP m_22_6 rfl hv5 dX7_stepsOn_91 ?_
                  refine lv_iconst (v := 1) hx hb dX7_stepsOn_92 (by decide) ?_
                  refine lv_iadd hx hb dX7_stepsOn_93 ?_
                  refine lv_aload_n hx hb dX7_stepsOn_94 rfl (lv_at hl 0 rfl) ?_
                  refine g_get (v := .ref (E.ad 22 6)) S hB hinX7 hP m_22_0 rfl rfl 15 (by decide) fl25 rfl rfl dX7_stepsOn_95 ?_
                  refine lv_iload hx hb dX7_stepsOn_98 (lv_at hl 4 rfl) ?_
                  obtain ⟨hv6, hf⟩ := ck_some hf
                  refine g_iald (r := z 6) S hB hP m_22_6 rfl hv6 dX7_stepsOn_100 ?_
                  refine lv_icmp_ge (tgt := 127) hx hb dX7_stepsOn_101 (by decide) (fun c7 => ?_) (fun c7 => ?_)
                  · have hf := if_t c7 hf
                    exact hB127 z x1 x3 x4 x5 x6 _ _ _ hf hP hS (lv_sub hl [0, 1, 2, 3, 4, 5] rfl)
                  · have hf := if_f c7 hf
                    refine lv_aload_n hx hb dX7_stepsOn_104 rfl (lv_at hl 0 rfl) ?_
                    refine g_get (v := .ref (E.ad 22 6)) S hB hinX7 hP m_22_0 rfl rfl 15 (by decide) fl25 rfl rfl dX7_stepsOn_105 ?_
                    refine lv_iload hx hb dX7_stepsOn_108 (lv_at hl 4 rfl) ?_
                    refine lv_aload_n hx hb dX7_stepsOn_110 rfl (lv_at hl 0 rfl) ?_
                    refine g_get (v := .ref (E.ad 22 6)) S hB hinX7 hP m_22_0 rfl rfl 15 (by decide) fl25 rfl rfl dX7_stepsOn_111 ?_
                    refine lv_iload hx hb dX7_stepsOn_114 (lv_at hl 4 rfl) ?_
                    refine lv_iload hx hb dX7_stepsOn_116 (lv_at hl 5 rfl) ?_
                    obtain ⟨q8, hq8, hf⟩ := bind_some hf
                    refine callS_i (As := [.int x5, .int x6]) (rest := [.ref (E.ad 22 6), .int x5, .ref (E.ad 22 6)]) S hB hP hS (K_X7_beside l hE (va_up σ 22 z) x5 x6 hq8) (va_cwS 2 S.2.2.2.2 gX7_stepsOn_X7_beside rfl rfl rfl (by decide +kernel) ⟨Nat.le_of_ble_eq_true rfl, Nat.le_of_ble_eq_true rfl⟩) rfl hl.1 rfl (Nat.le_of_ble_eq_true rfl) dX7_stepsOn_118 ⟨Nat.zero_le _, Nat.zero_le _⟩ (fun H locs hP hS => ?_)
                    obtain ⟨hv9, hf⟩ := ck_some hf
                    refine g_iald (r := z 6) S hB hP m_22_6 rfl hv9 dX7_stepsOn_121 ?_
                    refine lv_iconst (v := 1) hx hb dX7_stepsOn_122 (by decide) ?_
                    refine lv_iadd hx hb dX7_stepsOn_123 ?_
                    obtain ⟨hv10, hf⟩ := ck_some hf
                    refine g_iast (r := z 6) S hB hE hP hS m_22_6 rfl rfl (fun _ => rfl) hv10 (X' := (va_up σ 22 (ob z 6 x5.toNatClampNeg ((z 6 q8.toNatClampNeg) + (1 : Int32))))) (lens_put σ 22 _ _ _ _) dX7_stepsOn_124 (fun H locs hP hS => ?_)
                    refine lv_iconst (v := 1) hx hb dX7_stepsOn_125 (by decide) ?_
                    refine lv_istore_n (lv' := [(3, .int (1 : Int32)), (0, .ref (E.ad 22 0)), (1, .int x1), (4, .int x4), (5, .int x5), (6, .int x6)]) hx hb dX7_stepsOn_126 rfl hl (by decide) rfl (fun ls hl => ?_)
                    exact hB127 (ob z 6 x5.toNatClampNeg ((z 6 q8.toNatClampNeg) + (1 : Int32))) x1 (1 : Int32) x4 x5 x6 _ _ _ hf hP hS (lv_sub hl [1, 2, 0, 3, 4, 5] rfl)
          intro z x1 x3 x4 x5 H locs ls hf hP hS hl
          unfold f_X7_stepsOn_l52 at hf
          refine lv_iload hx hb dX7_stepsOn_52 (lv_at hl 4 rfl) ?_
          refine lv_bipush (v := 16) hx hb dX7_stepsOn_54 (by decide) ?_
          refine lv_icmp_ge (tgt := 139) hx hb dX7_stepsOn_56 (by decide) (fun c11 => ?_) (fun c11 => ?_)
          · have hf := if_t c11 hf
            refine lv_iinc (v := x4 + (1 : Int32)) (lv' := [(4, .int (x4 + (1 : Int32))), (0, .ref (E.ad 22 0)), (1, .int x1), (3, .int x3), (5, .int x5)]) hx hb dX7_stepsOn_139 hl (k := 3) rfl rfl (by decide) rfl (fun ls hl => ?_)
            refine lv_goto (tgt := 36) hx hb dX7_stepsOn_142 (by decide) ?_
            exact ih36 z x1 x3 (x4 + (1 : Int32)) _ _ _ hf hP hS (lv_sub hl [1, 2, 3, 0] rfl)
          · have hf := if_f c11 hf
            refine lv_iconst (v := 0) hx hb dX7_stepsOn_59 (by decide) ?_
            refine lv_istore (lv' := [(6, .int (0 : Int32)), (0, .ref (E.ad 22 0)), (1, .int x1), (3, .int x3), (4, .int x4), (5, .int x5)]) hx hb dX7_stepsOn_60 hl (by decide) rfl (fun ls hl => ?_)
            exact hL62 FUEL z x1 x3 x4 x5 (0 : Int32) _ _ _ hf hP hS (lv_sub hl [1, 2, 3, 4, 5, 0] rfl)
      intro z x1 x3 x4 H locs ls hf hP hS hl
      unfold f_X7_stepsOn_l36 at hf
      refine lv_iload hx hb dX7_stepsOn_36 (lv_at hl 3 rfl) ?_
      refine lv_bipush (v := 16) hx hb dX7_stepsOn_38 (by decide) ?_
      refine lv_icmp_ge (tgt := 145) hx hb dX7_stepsOn_40 (by decide) (fun c12 => ?_) (fun c12 => ?_)
      · have hf := if_t c12 hf
        exact fin dX7_stepsOn_145  (by rw [(s0 hf)]) hP hS
      · have hf := if_f c12 hf
        refine lv_iload_n hx hb dX7_stepsOn_43 rfl (lv_at hl 2 rfl) ?_
        refine lv_if_eq (tgt := 145) hx hb dX7_stepsOn_44 (by decide) (fun c13 => ?_) (fun c13 => ?_)
        · have hf := if_t c13 hf
          exact fin dX7_stepsOn_145  (by rw [(s0 hf)]) hP hS
        · have hf := if_f c13 hf
          refine lv_iconst (v := 0) hx hb dX7_stepsOn_47 (by decide) ?_
          refine lv_istore_n (lv' := [(3, .int (0 : Int32)), (0, .ref (E.ad 22 0)), (1, .int x1), (4, .int x4)]) hx hb dX7_stepsOn_48 rfl hl (by decide) rfl (fun ls hl => ?_)
          refine lv_iconst (v := 0) hx hb dX7_stepsOn_49 (by decide) ?_
          refine lv_istore (lv' := [(5, .int (0 : Int32)), (3, .int (0 : Int32)), (0, .ref (E.ad 22 0)), (1, .int x1), (4, .int x4)]) hx hb dX7_stepsOn_50 hl (by decide) rfl (fun ls hl => ?_)
          exact hL52 FUEL z x1 (0 : Int32) x4 (0 : Int32) _ _ _ hf hP hS (lv_sub hl [2, 3, 1, 4, 0] rfl)
  have hL2 : ∀ (n2 : Nat) (z : Ob) (x1 : Int32) (x2 : Int32) (x3 : Int32) (H : Heap) (locs : List Loc) (ls : Array Slot), f_X7_stepsOn_l2 n2 z x1 x2 x3 = some z' → va_P E.1 vwCl (GW E (va_up σ 22 z)) H → va_S (GA E) s.heap H locs → lv_has ls 7 [(0, .ref (E.ad 22 0)), (1, .int x1), (2, .int x2), (3, .int x3)] → W p l e rm_X7_stepsOn s m ([.ref (E.ad 22 0), .int a1, .int a2] : List Value).toArray below meth c H locs 0 0 Z (F0 m 2 ls []) := by
    intro n2
    induction n2 with
    | zero =>
      intro z x1 x2 x3 H locs ls hf
      cases (show (none : Option _) = some _ from hf)
    | succ n2 ih2 =>
      have hB24 : ∀ (z : Ob) (x1 : Int32) (x2 : Int32) (x3 : Int32) (y0 : Int32) (y1 : Int32) (H : Heap) (locs : List Loc) (ls : Array Slot), f_X7_stepsOn_b24 (f_X7_stepsOn_l2 n2) z x1 x2 x3 y0 y1 = some z' → va_P E.1 vwCl (GW E (va_up σ 22 z)) H → va_S (GA E) s.heap H locs → lv_has ls 7 [(0, .ref (E.ad 22 0)), (1, .int x1), (2, .int x2), (3, .int x3)] → W p l e rm_X7_stepsOn s m ([.ref (E.ad 22 0), .int a1, .int a2] : List Value).toArray below meth c H locs 0 0 Z (F0 m 24 ls [.int y0, .int y1, .ref (E.ad 22 6)]) := by
        intro z x1 x2 x3 y0 y1 H locs ls hf hP hS hl
        unfold f_X7_stepsOn_b24 at hf
        obtain ⟨hv14, hf⟩ := ck_some hf
        refine g_iast (r := z 6) S hB hE hP hS m_22_6 rfl rfl (fun _ => rfl) hv14 (X' := (va_up σ 22 (ob z 6 y1.toNatClampNeg y0))) (lens_put σ 22 _ _ _ _) dX7_stepsOn_24 (fun H locs hP hS => ?_)
        refine lv_iinc (v := x3 + (1 : Int32)) (lv' := [(3, .int (x3 + (1 : Int32))), (0, .ref (E.ad 22 0)), (1, .int x1), (2, .int x2)]) hx hb dX7_stepsOn_25 hl (k := 3) rfl rfl (by decide) rfl (fun ls hl => ?_)
        refine lv_goto (tgt := 2) hx hb dX7_stepsOn_28 (by decide) ?_
        exact ih2 (ob z 6 y1.toNatClampNeg y0) x1 x2 (x3 + (1 : Int32)) _ _ _ hf hP hS (lv_sub hl [1, 2, 3, 0] rfl)
      intro z x1 x2 x3 H locs ls hf hP hS hl
      unfold f_X7_stepsOn_l2 at hf
      refine lv_iload_n hx hb dX7_stepsOn_2 rfl (lv_at hl 3 rfl) ?_
      refine lv_bipush (v := 16) hx hb dX7_stepsOn_3 (by decide) ?_
      refine lv_icmp_ge (tgt := 31) hx hb dX7_stepsOn_5 (by decide) (fun c15 => ?_) (fun c15 => ?_)
      · have hf := if_t c15 hf
        refine lv_iconst (v := 1) hx hb dX7_stepsOn_31 (by decide) ?_
        refine lv_istore_n (lv' := [(3, .int (1 : Int32)), (0, .ref (E.ad 22 0)), (1, .int x1), (2, .int x2)]) hx hb dX7_stepsOn_32 rfl hl (by decide) rfl (fun ls hl => ?_)
        refine lv_iconst (v := 0) hx hb dX7_stepsOn_33 (by decide) ?_
        refine lv_istore (lv' := [(4, .int (0 : Int32)), (3, .int (1 : Int32)), (0, .ref (E.ad 22 0)), (1, .int x1), (2, .int x2)]) hx hb dX7_stepsOn_34 hl (by decide) rfl (fun ls hl => ?_)
        exact hL36 FUEL z x1 (1 : Int32) (0 : Int32) _ _ _ hf hP hS (lv_sub hl [2, 3, 1, 0] rfl)
      · have hf := if_f c15 hf
        refine lv_aload_n hx hb dX7_stepsOn_8 rfl (lv_at hl 0 rfl) ?_
        refine g_get (v := .ref (E.ad 22 6)) S hB hinX7 hP m_22_0 rfl rfl 15 (by decide) fl25 rfl rfl dX7_stepsOn_9 ?_
        refine lv_iload_n hx hb dX7_stepsOn_12 rfl (lv_at hl 3 rfl) ?_
        refine lv_iload_n hx hb dX7_stepsOn_13 rfl (lv_at hl 3 rfl) ?_
        refine lv_iload_n hx hb dX7_stepsOn_14 rfl (lv_at hl 2 rfl) ?_
        refine lv_icmp_ne (tgt := 22) hx hb dX7_stepsOn_15 (by decide) (fun c16 => ?_) (fun c16 => ?_)
        · have hf := if_f c16 hf
          refine lv_bipush (v := 99) hx hb dX7_stepsOn_22 (by decide) ?_
          exact hB24 z x1 x2 x3 (99 : Int32) x3 _ _ _ hf hP hS (lv_sub hl [0, 1, 2, 3] rfl)
        · have hf := if_t c16 hf
          refine lv_iconst (v := 0) hx hb dX7_stepsOn_18 (by decide) ?_
          refine lv_goto (tgt := 24) hx hb dX7_stepsOn_19 (by decide) ?_
          exact hB24 z x1 x2 x3 (0 : Int32) x3 _ _ _ hf hP hS (lv_sub hl [0, 1, 2, 3] rfl)
  unfold f_X7_stepsOn at hf
  refine lv_iconst (v := 0) hx hb dX7_stepsOn_0 (by decide) ?_
  refine lv_istore_n (lv' := [(3, .int (0 : Int32)), (0, .ref (E.ad 22 0)), (1, .int a1), (2, .int a2)]) hx hb dX7_stepsOn_1 rfl hl (by decide) rfl (fun ls hl => ?_)
  exact hL2 FUEL z a1 a2 (0 : Int32) _ _ _ hf hP hS (lv_sub hl [1, 2, 3, 0] rfl)
theorem KW_X7_stepsOn (l : Launch) {E : En} (hE : Inj E) (X : Wd) (a1 : Int32) (a2 : Int32) {z' : Ob} (hf : f_X7_stepsOn (X 22) a1 a2 = some z') : Ctv l E yX7_stepsOn wsX7_stepsOn rm_X7_stepsOn [.ref (E.ad 22 0), .int a1, .int a2] X  (va_up X 22 z') := by
  have h := K_X7_stepsOn l hE X (X 22) a1 a2 hf
  rw [lens_all] at h
  exact h
/-! X7_turnOn -/
abbrev rm_X7_turnOn : Room := { frames := 1, cells := 0, slots := 0, locals := 25 }
set_option maxHeartbeats 4000000 in
set_option maxRecDepth 100000 in
theorem K_X7_turnOn (l : Launch) {E : En} (hE : Inj E) (σ : Wd) (z : Ob) (a1 : Int32) (a2 : Int32) {r : Int32} (hf : f_X7_turnOn z a1 a2 = some r) : Cti l E yX7_turnOn wsX7_turnOn rm_X7_turnOn [.ref (E.ad 22 0), .int a1, .int a2] (va_up σ 22 z) r (va_up σ 22 z) := by
  refine meet_i (cc := cX7_turnOn) (maxL := 4) (own := RX7) (by decide) rfl rfl (Nat.le_of_ble_eq_true rfl) ?_
  intro p e s m below meth c Z S hB fin hP hS ls hl
  have hx := S.1
  have hb := S.2.1
  have hl : lv_has ls 4 [(0, .ref (E.ad 22 0)), (1, .int a1), (2, .int a2)] := hl
  have hinX7 : ∀ w ∈ u_ws RX7 TX7 25, w ∈ wsX7_turnOn := by decide +kernel
  have fl25 := S.2.2.2.2 (.fieldLink RX7 25 "MownMazeModel" "steps" "[I") (by decide +kernel)
  have hL2 : ∀ (n2 : Nat) (x1 : Int32) (x2 : Int32) (x3 : Int32) (H : Heap) (locs : List Loc) (ls : Array Slot), f_X7_turnOn_l2 n2 z x1 x2 x3 = some r → va_P E.1 vwCl (GW E (va_up σ 22 z)) H → va_S (GA E) s.heap H locs → lv_has ls 4 [(0, .ref (E.ad 22 0)), (1, .int x1), (2, .int x2), (3, .int x3)] → W p l e rm_X7_turnOn s m ([.ref (E.ad 22 0), .int a1, .int a2] : List Value).toArray below meth c H locs 0 0 Z (F0 m 2 ls []) := by
    intro n2
    induction n2 with
    | zero =>
      intro x1 x2 x3 H locs ls hf
      cases (show (none : Option _) = some _ from hf)
    | succ n2 ih2 =>
      have hB42 : ∀ (x1 : Int32) (x2 : Int32) (x3 : Int32) (H : Heap) (locs : List Loc) (ls : Array Slot), f_X7_turnOn_b42 (f_X7_turnOn_l2 n2) z x1 x2 x3 = some r → va_P E.1 vwCl (GW E (va_up σ 22 z)) H → va_S (GA E) s.heap H locs → lv_has ls 4 [(0, .ref (E.ad 22 0)), (1, .int x1), (2, .int x2), (3, .int x3)] → W p l e rm_X7_turnOn s m ([.ref (E.ad 22 0), .int a1, .int a2] : List Value).toArray below meth c H locs 0 0 Z (F0 m 42 ls []) := by
        intro x1 x2 x3 H locs ls hf hP hS hl
        unfold f_X7_turnOn_b42 at hf
        refine lv_iinc (v := x3 + (1 : Int32)) (lv' := [(3, .int (x3 + (1 : Int32))), (0, .ref (E.ad 22 0)), (1, .int x1), (2, .int x2)]) hx hb dX7_turnOn_42 hl (k := 3) rfl rfl (by decide) rfl (fun ls hl => ?_)
        refine lv_goto (tgt := 2) hx hb dX7_turnOn_45 (by decide) ?_
        exact ih2 x1 x2 (x3 + (1 : Int32)) _ _ _ hf hP hS (lv_sub hl [1, 2, 3, 0] rfl)
      intro x1 x2 x3 H locs ls hf hP hS hl
      unfold f_X7_turnOn_l2 at hf
      refine lv_iload_n hx hb dX7_turnOn_2 rfl (lv_at hl 3 rfl) ?_
      refine lv_iconst (v := 4) hx hb dX7_turnOn_3 (by decide) ?_
      refine lv_icmp_ge (tgt := 48) hx hb dX7_turnOn_4 (by decide) (fun c1 => ?_) (fun c1 => ?_)
      · have hf := if_t c1 hf
        refine lv_iload_n hx hb dX7_turnOn_48 rfl (lv_at hl 2 rfl) ?_
        exact fin dX7_turnOn_49 (s0 hf) rfl hP hS
      · have hf := if_f c1 hf
        refine lv_aload_n hx hb dX7_turnOn_7 rfl (lv_at hl 0 rfl) ?_
        refine lv_iload_n hx hb dX7_turnOn_8 rfl (lv_at hl 1 rfl) ?_
        refine lv_iload_n hx hb dX7_turnOn_9 rfl (lv_at hl 2 rfl) ?_
        refine lv_iload_n hx hb dX7_turnOn_10 rfl (lv_at hl 3 rfl) ?_
        obtain ⟨q2, hq2, hf⟩ := bind_some hf
        refine callV_i (As := [.int x1, .int x2, .int x3]) (rest := []) S hB hP hS (C := RX7) (b := E.ad 22 0) (g_recv (o := 22) (d := 0) hB hP m_22_0 rfl rfl) (K_X7_isOpen l hE σ z x1 x2 x3 hq2) (cwV 3 S.2.2.2.2 gX7_turnOn_X7_isOpen rfl rfl rfl (by decide +kernel) ⟨Nat.le_of_ble_eq_true rfl, Nat.le_of_ble_eq_true rfl⟩) rfl hl.1 rfl (Nat.le_of_ble_eq_true rfl) dX7_turnOn_11 ⟨Nat.zero_le _, Nat.zero_le _⟩ (fun H locs hP hS => ?_)
        refine lv_if_eq (tgt := 42) hx hb dX7_turnOn_14 (by decide) (fun c3 => ?_) (fun c3 => ?_)
        · have hf := if_t c3 hf
          exact hB42 x1 x2 x3 _ _ _ hf hP hS (lv_sub hl [0, 1, 2, 3] rfl)
        · have hf := if_f c3 hf
          refine lv_aload_n hx hb dX7_turnOn_17 rfl (lv_at hl 0 rfl) ?_
          refine g_get (v := .ref (E.ad 22 6)) S hB hinX7 hP m_22_0 rfl rfl 15 (by decide) fl25 rfl rfl dX7_turnOn_18 ?_
          refine lv_iload_n hx hb dX7_turnOn_21 rfl (lv_at hl 2 rfl) ?_
          refine lv_iload_n hx hb dX7_turnOn_22 rfl (lv_at hl 3 rfl) ?_
          obtain ⟨q4, hq4, hf⟩ := bind_some hf
          refine callS_i (As := [.int x2, .int x3]) (rest := [.ref (E.ad 22 6)]) S hB hP hS (K_X7_beside l hE (va_up σ 22 z) x2 x3 hq4) (va_cwS 2 S.2.2.2.2 gX7_turnOn_X7_beside rfl rfl rfl (by decide +kernel) ⟨Nat.le_of_ble_eq_true rfl, Nat.le_of_ble_eq_true rfl⟩) rfl hl.1 rfl (Nat.le_of_ble_eq_true rfl) dX7_turnOn_23 ⟨Nat.zero_le _, Nat.zero_le _⟩ (fun H locs hP hS => ?_)
          obtain ⟨hv5, hf⟩ := ck_some hf
          refine g_iald (r := z 6) S hB hP m_22_6 rfl hv5 dX7_turnOn_26 ?_
          refine lv_aload_n hx hb dX7_turnOn_27 rfl (lv_at hl 0 rfl) ?_
          refine g_get (v := .ref (E.ad 22 6)) S hB hinX7 hP m_22_0 rfl rfl 15 (by decide) fl25 rfl rfl dX7_turnOn_28 ?_
          refine lv_iload_n hx hb dX7_turnOn_31 rfl (lv_at hl 2 rfl) ?_
          obtain ⟨hv6, hf⟩ := ck_some hf
          refine g_iald (r := z 6) S hB hP m_22_6 rfl hv6 dX7_turnOn_32 ?_
          refine lv_icmp_ge (tgt := 42) hx hb dX7_turnOn_33 (by decide) (fun c7 => ?_) (fun c7 => ?_)
          · have hf := if_t c7 hf
            exact hB42 x1 x2 x3 _ _ _ hf hP hS (lv_sub hl [0, 1, 2, 3] rfl)
          · have hf := if_f c7 hf
            refine lv_iload_n hx hb dX7_turnOn_36 rfl (lv_at hl 2 rfl) ?_
            refine lv_iload_n hx hb dX7_turnOn_37 rfl (lv_at hl 3 rfl) ?_
            obtain ⟨q8, hq8, hf⟩ := bind_some hf
            refine callS_i (As := [.int x2, .int x3]) (rest := []) S hB hP hS (K_X7_beside l hE (va_up σ 22 z) x2 x3 hq8) (va_cwS 2 S.2.2.2.2 gX7_turnOn_X7_beside rfl rfl rfl (by decide +kernel) ⟨Nat.le_of_ble_eq_true rfl, Nat.le_of_ble_eq_true rfl⟩) rfl hl.1 rfl (Nat.le_of_ble_eq_true rfl) dX7_turnOn_38 ⟨Nat.zero_le _, Nat.zero_le _⟩ (fun H locs hP hS => ?_)
            exact fin dX7_turnOn_41 (s0 hf) rfl hP hS
  unfold f_X7_turnOn at hf
  refine lv_iconst (v := 0) hx hb dX7_turnOn_0 (by decide) ?_
  refine lv_istore_n (lv' := [(3, .int (0 : Int32)), (0, .ref (E.ad 22 0)), (1, .int a1), (2, .int a2)]) hx hb dX7_turnOn_1 rfl hl (by decide) rfl (fun ls hl => ?_)
  exact hL2 FUEL a1 a2 (0 : Int32) _ _ _ hf hP hS (lv_sub hl [1, 2, 3, 0] rfl)
theorem KW_X7_turnOn (l : Launch) {E : En} (hE : Inj E) (X : Wd) (a1 : Int32) (a2 : Int32) {r : Int32} (hf : f_X7_turnOn (X 22) a1 a2 = some r) : Cti l E yX7_turnOn wsX7_turnOn rm_X7_turnOn [.ref (E.ad 22 0), .int a1, .int a2] X r X := by
  have h := K_X7_turnOn l hE X (X 22) a1 a2 hf
  rw [lens_all] at h
  exact h
/-! X7_goalOn -/
abbrev rm_X7_goalOn : Room := { frames := 0, cells := 0, slots := 0, locals := 0 }
set_option maxHeartbeats 4000000 in
set_option maxRecDepth 100000 in
theorem K_X7_goalOn (l : Launch) {E : En} (hE : Inj E) (σ : Wd) (z : Ob) (a1 : Int32) (a2 : Int32) {r : Int32} (hf : f_X7_goalOn z a1 a2 = some r) : Cti l E yX7_goalOn wsX7_goalOn rm_X7_goalOn [.ref (E.ad 22 0), .int a1, .int a2] (va_up σ 22 z) r (va_up σ 22 z) := by
  refine meet_i (cc := cX7_goalOn) (maxL := 5) (own := RX7) (by decide) rfl rfl (Nat.le_of_ble_eq_true rfl) ?_
  intro p e s m below meth c Z S hB fin hP hS ls hl
  have hx := S.1
  have hb := S.2.1
  have hl : lv_has ls 5 [(0, .ref (E.ad 22 0)), (1, .int a1), (2, .int a2)] := hl
  have hinX7 : ∀ w ∈ u_ws RX7 TX7 25, w ∈ wsX7_goalOn := by decide +kernel
  have fl7 := S.2.2.2.2 (.fieldLink RX7 7 "MownMazeModel" "state" "[I") (by decide +kernel)
  unfold f_X7_goalOn at hf
  refine lv_aload_n hx hb dX7_goalOn_0 rfl (lv_at hl 0 rfl) ?_
  refine g_get (v := .ref (E.ad 22 1)) S hB hinX7 hP m_22_0 rfl rfl 0 (by decide) fl7 rfl rfl dX7_goalOn_1 ?_
  refine lv_iload_n hx hb dX7_goalOn_4 rfl (lv_at hl 1 rfl) ?_
  refine lv_bipush (v := 25) hx hb dX7_goalOn_5 (by decide) ?_
  refine lv_iadd hx hb dX7_goalOn_7 ?_
  refine lv_iload_n hx hb dX7_goalOn_8 rfl (lv_at hl 2 rfl) ?_
  refine lv_iadd hx hb dX7_goalOn_9 ?_
  obtain ⟨hv1, hf⟩ := ck_some hf
  refine g_iald (r := z 1) S hB hP m_22_1 rfl hv1 dX7_goalOn_10 ?_
  refine W.eq (g2 := F0 m 11 ls [.int (z 1 (((a1 + (25 : Int32)) + a2).toNatClampNeg))]) rfl ?_
  refine lv_istore_n (lv' := [(3, .int (z 1 (((a1 + (25 : Int32)) + a2).toNatClampNeg))), (0, .ref (E.ad 22 0)), (1, .int a1), (2, .int a2)]) hx hb dX7_goalOn_11 rfl hl (by decide) rfl (fun ls hl => ?_)
  refine lv_aload_n hx hb dX7_goalOn_12 rfl (lv_at hl 1 rfl) ?_
  refine g_get (v := .ref (E.ad 22 1)) S hB hinX7 hP m_22_0 rfl rfl 0 (by decide) fl7 rfl rfl dX7_goalOn_13 ?_
  refine lv_iload_n hx hb dX7_goalOn_16 rfl (lv_at hl 2 rfl) ?_
  refine lv_bipush (v := 29) hx hb dX7_goalOn_17 (by decide) ?_
  refine lv_iadd hx hb dX7_goalOn_19 ?_
  refine lv_iload_n hx hb dX7_goalOn_20 rfl (lv_at hl 3 rfl) ?_
  refine lv_iadd hx hb dX7_goalOn_21 ?_
  obtain ⟨hv2, hf⟩ := ck_some hf
  refine g_iald (r := z 1) S hB hP m_22_1 rfl hv2 dX7_goalOn_22 ?_
  refine W.eq (g2 := F0 m 23 ls [.int (z 1 (((a1 + (29 : Int32)) + a2).toNatClampNeg))]) rfl ?_
  refine lv_istore (lv' := [(4, .int (z 1 (((a1 + (29 : Int32)) + a2).toNatClampNeg))), (3, .int (z 1 (((a1 + (25 : Int32)) + a2).toNatClampNeg))), (0, .ref (E.ad 22 0)), (1, .int a1), (2, .int a2)]) hx hb dX7_goalOn_23 hl (by decide) rfl (fun ls hl => ?_)
  refine lv_iload_n hx hb dX7_goalOn_25 rfl (lv_at hl 1 rfl) ?_
  refine lv_iconst (v := 3) hx hb dX7_goalOn_26 (by decide) ?_
  refine lv_icmp_ne (tgt := 38) hx hb dX7_goalOn_27 (by decide) (fun c3 => ?_) (fun c3 => ?_)
  · have hf := if_f c3 hf
    refine lv_iload_n hx hb dX7_goalOn_38 rfl (lv_at hl 1 rfl) ?_
    refine lv_iconst (v := 1) hx hb dX7_goalOn_39 (by decide) ?_
    refine lv_icmp_ne (tgt := 69) hx hb dX7_goalOn_40 (by decide) (fun c4 => ?_) (fun c4 => ?_)
    · have hf := if_f c4 hf
      refine lv_iload hx hb dX7_goalOn_69 (lv_at hl 0 rfl) ?_
      exact fin dX7_goalOn_71 (s0 hf) rfl hP hS
    · have hf := if_t c4 hf
      refine lv_aload_n hx hb dX7_goalOn_43 rfl (lv_at hl 2 rfl) ?_
      refine g_get (v := .ref (E.ad 22 1)) S hB hinX7 hP m_22_0 rfl rfl 0 (by decide) fl7 rfl rfl dX7_goalOn_44 ?_
      refine lv_iload_n hx hb dX7_goalOn_47 rfl (lv_at hl 3 rfl) ?_
      refine lv_bipush (v := 38) hx hb dX7_goalOn_48 (by decide) ?_
      refine lv_iadd hx hb dX7_goalOn_50 ?_
      obtain ⟨hv5, hf⟩ := ck_some hf
      refine g_iald (r := z 1) S hB hP m_22_1 rfl hv5 dX7_goalOn_51 ?_
      refine W.eq (g2 := F0 m 52 ls [.int (z 1 ((a1 + (38 : Int32)).toNatClampNeg))]) rfl ?_
      refine lv_if_le (tgt := 69) hx hb dX7_goalOn_52 (by decide) (fun c6 => ?_) (fun c6 => ?_)
      · have hf := if_t c6 hf
        refine lv_iload hx hb dX7_goalOn_69 (lv_at hl 0 rfl) ?_
        exact fin dX7_goalOn_71 (s0 hf) rfl hP hS
      · have hf := if_f c6 hf
        refine lv_aload_n hx hb dX7_goalOn_55 rfl (lv_at hl 2 rfl) ?_
        refine g_get (v := .ref (E.ad 22 1)) S hB hinX7 hP m_22_0 rfl rfl 0 (by decide) fl7 rfl rfl dX7_goalOn_56 ?_
        refine lv_iload_n hx hb dX7_goalOn_59 rfl (lv_at hl 3 rfl) ?_
        refine lv_bipush (v := 38) hx hb dX7_goalOn_60 (by decide) ?_
        refine lv_iadd hx hb dX7_goalOn_62 ?_
        obtain ⟨hv7, hf⟩ := ck_some hf
        refine g_iald (r := z 1) S hB hP m_22_1 rfl hv7 dX7_goalOn_63 ?_
        refine W.eq (g2 := F0 m 64 ls [.int (z 1 ((a1 + (38 : Int32)).toNatClampNeg))]) rfl ?_
        refine lv_iconst (v := 1) hx hb dX7_goalOn_64 (by decide) ?_
        refine lv_isub hx hb dX7_goalOn_65 ?_
        refine lv_goto (tgt := 71) hx hb dX7_goalOn_66 (by decide) ?_
        exact fin dX7_goalOn_71 (s0 hf) rfl hP hS
  · have hf := if_t c3 hf
    refine lv_bipush (v := 23) hx hb dX7_goalOn_30 (by decide) ?_
    refine lv_iload hx hb dX7_goalOn_32 (lv_at hl 0 rfl) ?_
    refine lv_isub hx hb dX7_goalOn_34 ?_
    refine lv_goto (tgt := 71) hx hb dX7_goalOn_35 (by decide) ?_
    exact fin dX7_goalOn_71 (s0 hf) rfl hP hS
theorem KW_X7_goalOn (l : Launch) {E : En} (hE : Inj E) (X : Wd) (a1 : Int32) (a2 : Int32) {r : Int32} (hf : f_X7_goalOn (X 22) a1 a2 = some r) : Cti l E yX7_goalOn wsX7_goalOn rm_X7_goalOn [.ref (E.ad 22 0), .int a1, .int a2] X r X := by
  have h := K_X7_goalOn l hE X (X 22) a1 a2 hf
  rw [lens_all] at h
  exact h
