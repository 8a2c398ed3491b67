/-! X6_keep -/
abbrev rm_X6_keep : Room := { frames := 1, cells := 0, slots := 0, locals := 22 }
set_option maxHeartbeats 4000000 in
set_option maxRecDepth 100000 in
theorem K_X6_keep (l : Launch) {E : En} (hE : Inj E) (X : Wd) (a1 : Int32) {r : Int32} {X' : Wd} (hf : f_X6_keep X a1 = some (r, X')) : Cti l E yX6_keep wsX6_keep rm_X6_keep [.ref (E.ad 0 0), .int a1] X r X' := by
  refine meet_i (cc := cX6_keep) (maxL := 3) (own := RX6) (by decide) rfl rfl (Nat.le_of_ble_eq_true rfl) ?_
  intro p e s m below meth c Z S hB fin hP hS ls hl
  have hx := S.1
  have hb := S.2.1
  have hl : lv_has ls 3 [(0, .ref (E.ad 0 0)), (1, .int a1)] := hl
  have hinX6 : ∀ w ∈ u_ws RX6 TX6 12, w ∈ wsX6_keep := by decide +kernel
  have fl19 := S.2.2.2.2 (.fieldLink RX6 19 "MownMaze" "maze" "LMownMaze$Maze;") (by decide +kernel)
  have fl33 := S.2.2.2.2 (.fieldLink RX6 33 "MownMaze" "images" "[LMownMaze$Maze;") (by decide +kernel)
  have fl36 := S.2.2.2.2 (.fieldLink RX6 36 "MownMaze" "kept" "[Z") (by decide +kernel)
  have hB23 : ∀ (X : Wd) (x1 : Int32) (y0 : Int32) (H : Heap) (locs : List Loc) (ls : Array Slot), f_X6_keep_b23 X x1 y0 = some (r, X') → va_P E.1 vwCl (GW E X) H → va_S (GA E) s.heap H locs → lv_has ls 3 [(0, .ref (E.ad 0 0)), (1, .int x1)] → W p l e rm_X6_keep s m ([.ref (E.ad 0 0), .int a1] : List Value).toArray below meth c H locs 0 0 Z (F0 m 23 ls [.int y0]) := by
    intro X x1 y0 H locs ls hf hP hS hl
    unfold f_X6_keep_b23 at hf
    refine lv_istore_n (lv' := [(2, .int y0), (0, .ref (E.ad 0 0)), (1, .int x1)]) hx hb dX6_keep_23 rfl hl (by decide) rfl (fun ls hl => ?_)
    refine lv_aload_n hx hb dX6_keep_24 rfl (lv_at hl 1 rfl) ?_
    refine g_get (v := .ref (E.ad 0 3)) S hB hinX6 hP m_0_0 rfl rfl 5 (by decide) fl33 rfl rfl dX6_keep_25 ?_
    refine lv_iload_n hx hb dX6_keep_28 rfl (lv_at hl 2 rfl) ?_
    obtain ⟨hv5, hf⟩ := ck_some hf
    refine g_aald (f := fun j => E.ad (16 + j) 0) S hB hP m_0_3 3 rfl rfl hv5 dX6_keep_29 ?_
    refine W.eq (g2 := F0 m 30 ls [.ref (E.ad (16 + x1.toNatClampNeg) 0)]) rfl ?_
    refine lv_aload_n hx hb dX6_keep_30 rfl (lv_at hl 1 rfl) ?_
    refine g_get (v := .ref (E.ad 4 0)) S hB hinX6 hP m_0_0 rfl rfl 1 (by decide) fl19 rfl rfl dX6_keep_31 ?_
    obtain ⟨hv7, hf⟩ := ckq_some hf
    obtain ⟨q6, hq6, hf⟩ := bind_some hf
    refine callV_v (As := [.ref (E.ad 4 0)]) (rest := []) S hB hP hS (C := RX1) (b := E.ad (16 + x1.toNatClampNeg) 0) (g_recv (o := (16 + x1.toNatClampNeg)) (d := 0) hB hP (mem_mz (Nat.le_trans (by decide : 4 ≤ 16) (Nat.le_add_right _ _)) (Nat.lt_of_lt_of_le (Nat.add_lt_add_left (vp_lt hv5) 16) (by decide)) (by decide)) ((cell_mz E (Nat.le_trans (by decide : 4 ≤ 16) (Nat.le_add_right _ _)) (Nat.lt_of_lt_of_le (Nat.add_lt_add_left (vp_lt hv5) 16) (by decide))) _) rfl) (KW_X1_become l hE X (Nat.le_trans (by decide : 4 ≤ 16) (Nat.le_add_right _ _)) (Nat.lt_of_lt_of_le (Nat.add_lt_add_left (vp_lt hv5) 16) (by decide)) (by decide) (by decide) hv7 hq6) (cwV 1 S.2.2.2.2 gX6_keep_X1_become rfl rfl rfl (by decide +kernel) ⟨Nat.le_of_ble_eq_true rfl, Nat.le_of_ble_eq_true rfl⟩) rfl hl.1 rfl (Nat.le_of_ble_eq_true rfl) dX6_keep_34 ⟨Nat.zero_le _, Nat.zero_le _⟩ (fun H locs hP hS => ?_)
    refine lv_aload_n hx hb dX6_keep_37 rfl (lv_at hl 1 rfl) ?_
    refine g_get (v := .ref (E.ad 0 1)) S hB hinX6 hP m_0_0 rfl rfl 6 (by decide) fl36 rfl rfl dX6_keep_38 ?_
    refine lv_iload_n hx hb dX6_keep_41 rfl (lv_at hl 2 rfl) ?_
    refine lv_iconst (v := 1) hx hb dX6_keep_42 (by decide) ?_
    obtain ⟨hv8, hf⟩ := ck_some hf
    refine g_zast (r := (va_up X (16 + x1.toNatClampNeg) q6) 0 1) S hB hE hP hS m_0_1 rfl rfl (fun _ => rfl) hv8 (X' := (wo (va_up X (16 + x1.toNatClampNeg) q6) 0 1 x1.toNatClampNeg (vp_nar .boolean (1 : Int32)))) rfl dX6_keep_43 (fun H locs hP hS => ?_)
    refine lv_iload_n hx hb dX6_keep_44 rfl (lv_at hl 0 rfl) ?_
    exact fin dX6_keep_45 (s1 hf) (s2 hf) hP hS
  unfold f_X6_keep at hf
  refine lv_iload_n hx hb dX6_keep_0 rfl (lv_at hl 1 rfl) ?_
  obtain ⟨q1, hq1, hf⟩ := bind_some hf
  refine callS_i (As := [.int a1]) (rest := []) S hB hP hS (K_X6_isImage l hE X a1 hq1) (va_cwS 1 S.2.2.2.2 gX6_keep_X6_isImage rfl rfl rfl (by decide +kernel) ⟨Nat.le_of_ble_eq_true rfl, Nat.le_of_ble_eq_true rfl⟩) rfl hl.1 rfl (Nat.le_of_ble_eq_true rfl) dX6_keep_1 ⟨Nat.zero_le _, Nat.zero_le _⟩ (fun H locs hP hS => ?_)
  refine lv_if_ne (tgt := 9) hx hb dX6_keep_4 (by decide) (fun c2 => ?_) (fun c2 => ?_)
  · have hf := if_f c2 hf
    refine lv_aload_n hx hb dX6_keep_9 rfl (lv_at hl 0 rfl) ?_
    refine g_get (v := .ref (E.ad 0 1)) S hB hinX6 hP m_0_0 rfl rfl 6 (by decide) fl36 rfl rfl dX6_keep_10 ?_
    refine lv_iload_n hx hb dX6_keep_13 rfl (lv_at hl 1 rfl) ?_
    obtain ⟨hv3, hf⟩ := ck_some hf
    refine g_zald (r := X 0 1) S hB hP m_0_1 rfl hv3 dX6_keep_14 ?_
    refine W.eq (g2 := F0 m 15 ls [.int ((X 0) 1 a1.toNatClampNeg)]) rfl ?_
    refine lv_if_eq (tgt := 22) hx hb dX6_keep_15 (by decide) (fun c4 => ?_) (fun c4 => ?_)
    · have hf := if_t c4 hf
      refine lv_iconst (v := 0) hx hb dX6_keep_22 (by decide) ?_
      exact hB23 X a1 (0 : Int32) _ _ _ hf hP hS (lv_sub hl [0, 1] rfl)
    · have hf := if_f c4 hf
      refine lv_iconst (v := 1) hx hb dX6_keep_18 (by decide) ?_
      refine lv_goto (tgt := 23) hx hb dX6_keep_19 (by decide) ?_
      exact hB23 X a1 (1 : Int32) _ _ _ hf hP hS (lv_sub hl [0, 1] rfl)
  · have hf := if_t c2 hf
    refine lv_iconst (v := -1) hx hb dX6_keep_7 (by decide) ?_
    exact fin dX6_keep_8 (s1 hf) (s2 hf) hP hS
/-! X6_back -/
abbrev rm_X6_back : Room := { frames := 1, cells := 0, slots := 0, locals := 22 }
set_option maxHeartbeats 4000000 in
set_option maxRecDepth 100000 in
theorem K_X6_back (l : Launch) {E : En} (hE : Inj E) (X : Wd) (a1 : Int32) {r : Int32} {X' : Wd} (hf : f_X6_back X a1 = some (r, X')) : Cti l E yX6_back wsX6_back rm_X6_back [.ref (E.ad 0 0), .int a1] X r X' := by
  refine meet_i (cc := cX6_back) (maxL := 2) (own := RX6) (by decide) rfl rfl (Nat.le_of_ble_eq_true rfl) ?_
  intro p e s m below meth c Z S hB fin hP hS ls hl
  have hx := S.1
  have hb := S.2.1
  have hl : lv_has ls 2 [(0, .ref (E.ad 0 0)), (1, .int a1)] := hl
  have hinX1 : ∀ w ∈ u_ws RX1 TX1 12, w ∈ wsX6_back := by decide +kernel
  have hinX6 : ∀ w ∈ u_ws RX6 TX6 12, w ∈ wsX6_back := by decide +kernel
  have fl19 := S.2.2.2.2 (.fieldLink RX6 19 "MownMaze" "maze" "LMownMaze$Maze;") (by decide +kernel)
  have fl33 := S.2.2.2.2 (.fieldLink RX6 33 "MownMaze" "images" "[LMownMaze$Maze;") (by decide +kernel)
  have fl36 := S.2.2.2.2 (.fieldLink RX6 36 "MownMaze" "kept" "[Z") (by decide +kernel)
  have fl99 := S.2.2.2.2 (.fieldLink RX6 99 "MownMaze$Maze" "day" "I") (by decide +kernel)
  unfold f_X6_back at hf
  refine lv_iload_n hx hb dX6_back_0 rfl (lv_at hl 1 rfl) ?_
  obtain ⟨q1, hq1, hf⟩ := bind_some hf
  refine callS_i (As := [.int a1]) (rest := []) S hB hP hS (K_X6_isImage l hE X a1 hq1) (va_cwS 1 S.2.2.2.2 gX6_back_X6_isImage rfl rfl rfl (by decide +kernel) ⟨Nat.le_of_ble_eq_true rfl, Nat.le_of_ble_eq_true rfl⟩) rfl hl.1 rfl (Nat.le_of_ble_eq_true rfl) dX6_back_1 ⟨Nat.zero_le _, Nat.zero_le _⟩ (fun H locs hP hS => ?_)
  refine lv_if_ne (tgt := 9) hx hb dX6_back_4 (by decide) (fun c2 => ?_) (fun c2 => ?_)
  · have hf := if_f c2 hf
    refine lv_aload_n hx hb dX6_back_9 rfl (lv_at hl 0 rfl) ?_
    refine g_get (v := .ref (E.ad 0 1)) S hB hinX6 hP m_0_0 rfl rfl 6 (by decide) fl36 rfl rfl dX6_back_10 ?_
    refine lv_iload_n hx hb dX6_back_13 rfl (lv_at hl 1 rfl) ?_
    obtain ⟨hv3, hf⟩ := ck_some hf
    refine g_zald (r := X 0 1) S hB hP m_0_1 rfl hv3 dX6_back_14 ?_
    refine W.eq (g2 := F0 m 15 ls [.int ((X 0) 1 a1.toNatClampNeg)]) rfl ?_
    refine lv_if_ne (tgt := 21) hx hb dX6_back_15 (by decide) (fun c4 => ?_) (fun c4 => ?_)
    · have hf := if_f c4 hf
      refine lv_aload_n hx hb dX6_back_21 rfl (lv_at hl 0 rfl) ?_
      refine g_get (v := .ref (E.ad 4 0)) S hB hinX6 hP m_0_0 rfl rfl 1 (by decide) fl19 rfl rfl dX6_back_22 ?_
      refine lv_aload_n hx hb dX6_back_25 rfl (lv_at hl 0 rfl) ?_
      refine g_get (v := .ref (E.ad 0 3)) S hB hinX6 hP m_0_0 rfl rfl 5 (by decide) fl33 rfl rfl dX6_back_26 ?_
      refine lv_iload_n hx hb dX6_back_29 rfl (lv_at hl 1 rfl) ?_
      obtain ⟨hv5, hf⟩ := ck_some hf
      refine g_aald (f := fun j => E.ad (16 + j) 0) S hB hP m_0_3 3 rfl rfl hv5 dX6_back_30 ?_
      refine W.eq (g2 := F0 m 31 ls [.ref (E.ad (16 + a1.toNatClampNeg) 0), .ref (E.ad 4 0)]) rfl ?_
      obtain ⟨hv7, hf⟩ := ckq_some hf
      obtain ⟨q6, hq6, hf⟩ := bind_some hf
      refine callV_v (As := [.ref (E.ad (16 + a1.toNatClampNeg) 0)]) (rest := []) S hB hP hS (C := RX1) (b := E.ad 4 0) (g_recv (o := 4) (d := 0) hB hP m_4_0 rfl rfl) (KW_X1_become l hE X (by decide) (by decide) (Nat.le_trans (by decide : 4 ≤ 16) (Nat.le_add_right _ _)) (Nat.lt_of_lt_of_le (Nat.add_lt_add_left (vp_lt hv5) 16) (by decide)) hv7 hq6) (cwV 1 S.2.2.2.2 gX6_back_X1_become rfl rfl rfl (by decide +kernel) ⟨Nat.le_of_ble_eq_true rfl, Nat.le_of_ble_eq_true rfl⟩) rfl hl.1 rfl (Nat.le_of_ble_eq_true rfl) dX6_back_31 ⟨Nat.zero_le _, Nat.zero_le _⟩ (fun H locs hP hS => ?_)
      refine lv_aload_n hx hb dX6_back_34 rfl (lv_at hl 0 rfl) ?_
      refine g_get (v := .ref (E.ad 4 0)) S hB hinX6 hP m_0_0 rfl rfl 1 (by decide) fl19 rfl rfl dX6_back_35 ?_
      refine g_get (v := .int (q6 0 3)) S hB hinX1 hP m_4_0 rfl rfl 3 (by decide) fl99 rfl rfl dX6_back_38 ?_
      exact fin dX6_back_41 (s1 hf) (s2 hf) hP hS
    · have hf := if_t c4 hf
      refine lv_bipush (v := -2) hx hb dX6_back_18 (by decide) ?_
      exact fin dX6_back_20 (s1 hf) (s2 hf) hP hS
  · have hf := if_t c2 hf
    refine lv_iconst (v := -1) hx hb dX6_back_7 (by decide) ?_
    exact fin dX6_back_8 (s1 hf) (s2 hf) hP hS
/-! X6_isSheet -/
abbrev rm_X6_isSheet : Room := { frames := 0, cells := 0, slots := 0, locals := 0 }
set_option maxHeartbeats 4000000 in
set_option maxRecDepth 100000 in
theorem K_X6_isSheet (l : Launch) {E : En} (hE : Inj E) (X : Wd) (a0 : Int32) {r : Int32} (hf : f_X6_isSheet a0 = some r) : Cti l E yX6_isSheet wsX6_isSheet rm_X6_isSheet [.int a0] X r X := by
  refine meet_z (cc := cX6_isSheet) (maxL := 1) (own := RX6) (by decide) rfl rfl (Nat.le_of_ble_eq_true rfl) ?_
  intro p e s m below meth c Z S hB fin hP hS ls hl
  have hx := S.1
  have hb := S.2.1
  have hl : lv_has ls 1 [(0, .int a0)] := hl
  unfold f_X6_isSheet at hf
  refine lv_iload_n hx hb dX6_isSheet_0 rfl (lv_at hl 0 rfl) ?_
  refine lv_if_lt (tgt := 13) hx hb dX6_isSheet_1 (by decide) (fun c1 => ?_) (fun c1 => ?_)
  · have hf := if_t c1 hf
    refine lv_iconst (v := 0) hx hb dX6_isSheet_13 (by decide) ?_
    exact fin dX6_isSheet_14 (nz01 (by decide)) (s0 hf) rfl hP hS
  · have hf := if_f c1 hf
    refine lv_iload_n hx hb dX6_isSheet_4 rfl (lv_at hl 0 rfl) ?_
    refine lv_iconst (v := 4) hx hb dX6_isSheet_5 (by decide) ?_
    refine lv_icmp_ge (tgt := 13) hx hb dX6_isSheet_6 (by decide) (fun c2 => ?_) (fun c2 => ?_)
    · have hf := if_t c2 hf
      refine lv_iconst (v := 0) hx hb dX6_isSheet_13 (by decide) ?_
      exact fin dX6_isSheet_14 (nz01 (by decide)) (s0 hf) rfl hP hS
    · have hf := if_f c2 hf
      refine lv_iconst (v := 1) hx hb dX6_isSheet_9 (by decide) ?_
      refine lv_goto (tgt := 14) hx hb dX6_isSheet_10 (by decide) ?_
      exact fin dX6_isSheet_14 (nz01 (by decide)) (s0 hf) rfl hP hS
/-! X6_isLane -/
abbrev rm_X6_isLane : Room := { frames := 0, cells := 0, slots := 0, locals := 0 }
set_option maxHeartbeats 4000000 in
set_option maxRecDepth 100000 in
theorem K_X6_isLane (l : Launch) {E : En} (hE : Inj E) (X : Wd) (a0 : Int32) {r : Int32} (hf : f_X6_isLane a0 = some r) : Cti l E yX6_isLane wsX6_isLane rm_X6_isLane [.int a0] X r X := by
  refine meet_z (cc := cX6_isLane) (maxL := 1) (own := RX6) (by decide) rfl rfl (Nat.le_of_ble_eq_true rfl) ?_
  intro p e s m below meth c Z S hB fin hP hS ls hl
  have hx := S.1
  have hb := S.2.1
  have hl : lv_has ls 1 [(0, .int a0)] := hl
  unfold f_X6_isLane at hf
  refine lv_iload_n hx hb dX6_isLane_0 rfl (lv_at hl 0 rfl) ?_
  refine lv_if_lt (tgt := 13) hx hb dX6_isLane_1 (by decide) (fun c1 => ?_) (fun c1 => ?_)
  · have hf := if_t c1 hf
    refine lv_iconst (v := 0) hx hb dX6_isLane_13 (by decide) ?_
    exact fin dX6_isLane_14 (nz01 (by decide)) (s0 hf) rfl hP hS
  · have hf := if_f c1 hf
    refine lv_iload_n hx hb dX6_isLane_4 rfl (lv_at hl 0 rfl) ?_
    refine lv_iconst (v := 2) hx hb dX6_isLane_5 (by decide) ?_
    refine lv_icmp_gt (tgt := 13) hx hb dX6_isLane_6 (by decide) (fun c2 => ?_) (fun c2 => ?_)
    · have hf := if_t c2 hf
      refine lv_iconst (v := 0) hx hb dX6_isLane_13 (by decide) ?_
      exact fin dX6_isLane_14 (nz01 (by decide)) (s0 hf) rfl hP hS
    · have hf := if_f c2 hf
      refine lv_iconst (v := 1) hx hb dX6_isLane_9 (by decide) ?_
      refine lv_goto (tgt := 14) hx hb dX6_isLane_10 (by decide) ?_
      exact fin dX6_isLane_14 (nz01 (by decide)) (s0 hf) rfl hP hS
/-! X6_sheet -/
abbrev rm_X6_sheet : Room := { frames := 2, cells := 0, slots := 0, locals := 45 }
set_option maxHeartbeats 4000000 in
set_option maxRecDepth 100000 in
theorem K_X6_sheet (l : Launch) {E : En} (hE : Inj E) (X : Wd) (a1 : Int32) (a2 : Int32) (a3 : Int32) {r : Int32} {X' : Wd} (hf : f_X6_sheet X a1 a2 a3 = some (r, X')) : Cti l E yX6_sheet wsX6_sheet rm_X6_sheet [.ref (E.ad 0 0), .int a1, .int a2, .int a3] X r X' := by
  refine meet_i (cc := cX6_sheet) (maxL := 4) (own := RX6) (by decide) rfl rfl (Nat.le_of_ble_eq_true rfl) ?_
  intro p e s m below meth c Z S hB fin hP hS ls hl
  have hx := S.1
  have hb := S.2.1
  have hl : lv_has ls 4 [(0, .ref (E.ad 0 0)), (1, .int a1), (2, .int a2), (3, .int a3)] := hl
  have hinX6 : ∀ w ∈ u_ws RX6 TX6 12, w ∈ wsX6_sheet := by decide +kernel
  have fl42 := S.2.2.2.2 (.fieldLink RX6 42 "MownMaze" "sheets" "[LMownMaze$Sheet;") (by decide +kernel)
  unfold f_X6_sheet at hf
  refine lv_iload_n hx hb dX6_sheet_0 rfl (lv_at hl 1 rfl) ?_
  obtain ⟨q1, hq1, hf⟩ := bind_some hf
  refine callS_i (As := [.int a1]) (rest := []) S hB hP hS (K_X6_isSheet l hE X a1 hq1) (va_cwS 1 S.2.2.2.2 gX6_sheet_X6_isSheet rfl rfl rfl (by decide +kernel) ⟨Nat.le_of_ble_eq_true rfl, Nat.le_of_ble_eq_true rfl⟩) rfl hl.1 rfl (Nat.le_of_ble_eq_true rfl) dX6_sheet_1 ⟨Nat.zero_le _, Nat.zero_le _⟩ (fun H locs hP hS => ?_)
  refine lv_if_eq (tgt := 20) hx hb dX6_sheet_4 (by decide) (fun c2 => ?_) (fun c2 => ?_)
  · have hf := if_t c2 hf
    refine lv_iconst (v := -1) hx hb dX6_sheet_20 (by decide) ?_
    exact fin dX6_sheet_21 (s1 hf) (s2 hf) hP hS
  · have hf := if_f c2 hf
    refine lv_iload_n hx hb dX6_sheet_7 rfl (lv_at hl 2 rfl) ?_
    obtain ⟨q3, hq3, hf⟩ := bind_some hf
    refine callS_i (As := [.int a2]) (rest := []) S hB hP hS (K_X6_isLane l hE X a2 hq3) (va_cwS 1 S.2.2.2.2 gX6_sheet_X6_isLane rfl rfl rfl (by decide +kernel) ⟨Nat.le_of_ble_eq_true rfl, Nat.le_of_ble_eq_true rfl⟩) rfl hl.1 rfl (Nat.le_of_ble_eq_true rfl) dX6_sheet_8 ⟨Nat.zero_le _, Nat.zero_le _⟩ (fun H locs hP hS => ?_)
    refine lv_if_eq (tgt := 20) hx hb dX6_sheet_11 (by decide) (fun c4 => ?_) (fun c4 => ?_)
    · have hf := if_t c4 hf
      refine lv_iconst (v := -1) hx hb dX6_sheet_20 (by decide) ?_
      exact fin dX6_sheet_21 (s1 hf) (s2 hf) hP hS
    · have hf := if_f c4 hf
      refine lv_iload_n hx hb dX6_sheet_14 rfl (lv_at hl 3 rfl) ?_
      refine lv_bipush (v := 40) hx hb dX6_sheet_15 (by decide) ?_
      refine lv_icmp_le (tgt := 22) hx hb dX6_sheet_17 (by decide) (fun c5 => ?_) (fun c5 => ?_)
      · have hf := if_t c5 hf
        refine lv_iload_n hx hb dX6_sheet_22 rfl (lv_at hl 3 rfl) ?_
        refine lv_if_ge (tgt := 29) hx hb dX6_sheet_23 (by decide) (fun c6 => ?_) (fun c6 => ?_)
        · have hf := if_t c6 hf
          refine lv_aload_n hx hb dX6_sheet_29 rfl (lv_at hl 0 rfl) ?_
          refine g_get (v := .ref (E.ad 0 4)) S hB hinX6 hP m_0_0 rfl rfl 7 (by decide) fl42 rfl rfl dX6_sheet_30 ?_
          refine lv_iload_n hx hb dX6_sheet_33 rfl (lv_at hl 1 rfl) ?_
          obtain ⟨hv7, hf⟩ := ck_some hf
          refine g_aald (f := fun j => E.ad (18 + j) 0) S hB hP m_0_4 4 rfl rfl hv7 dX6_sheet_34 ?_
          refine W.eq (g2 := F0 m 35 ls [.ref (E.ad (18 + a1.toNatClampNeg) 0)]) rfl ?_
          refine lv_iload_n hx hb dX6_sheet_35 rfl (lv_at hl 2 rfl) ?_
          refine lv_iload_n hx hb dX6_sheet_36 rfl (lv_at hl 3 rfl) ?_
          obtain ⟨q8, hq8, hf⟩ := bind_some hf
          refine callV_v (As := [.int a2, .int a3]) (rest := []) S hB hP hS (C := RX5) (b := E.ad (18 + a1.toNatClampNeg) 0) (g_recv (o := (18 + a1.toNatClampNeg)) (d := 0) hB hP (mem_sh (Nat.le_trans (by decide : 18 ≤ 18) (Nat.le_add_right _ _)) (Nat.lt_of_lt_of_le (Nat.add_lt_add_left (vp_lt hv7) 18) (by decide)) (by decide)) ((cell_sh E (Nat.le_trans (by decide : 18 ≤ 18) (Nat.le_add_right _ _)) (Nat.lt_of_lt_of_le (Nat.add_lt_add_left (vp_lt hv7) 18) (by decide))) _) rfl) (KW_X5_renew l hE X (Nat.le_trans (by decide : 18 ≤ 18) (Nat.le_add_right _ _)) (Nat.lt_of_lt_of_le (Nat.add_lt_add_left (vp_lt hv7) 18) (by decide)) a2 a3 hq8) (cwV 2 S.2.2.2.2 gX6_sheet_X5_renew rfl rfl rfl (by decide +kernel) ⟨Nat.le_of_ble_eq_true rfl, Nat.le_of_ble_eq_true rfl⟩) rfl hl.1 rfl (Nat.le_of_ble_eq_true rfl) dX6_sheet_37 ⟨Nat.zero_le _, Nat.zero_le _⟩ (fun H locs hP hS => ?_)
          refine lv_iconst (v := 1) hx hb dX6_sheet_40 (by decide) ?_
          exact fin dX6_sheet_41 (s1 hf) (s2 hf) hP hS
        · have hf := if_f c6 hf
          refine lv_bipush (v := -14) hx hb dX6_sheet_26 (by decide) ?_
          exact fin dX6_sheet_28 (s1 hf) (s2 hf) hP hS
      · have hf := if_f c5 hf
        refine lv_iconst (v := -1) hx hb dX6_sheet_20 (by decide) ?_
        exact fin dX6_sheet_21 (s1 hf) (s2 hf) hP hS
/-! X6_lay -/
abbrev rm_X6_lay : Room := { frames := 1, cells := 0, slots := 0, locals := 22 }
set_option maxHeartbeats 4000000 in
set_option maxRecDepth 100000 in
theorem K_X6_lay (l : Launch) {E : En} (hE : Inj E) (X : Wd) (a1 : Int32) (a2 : Int32) (a3 : Int32) {r : Int32} {X' : Wd} (hf : f_X6_lay X a1 a2 a3 = some (r, X')) : Cti l E yX6_lay wsX6_lay rm_X6_lay [.ref (E.ad 0 0), .int a1, .int a2, .int a3] X r X' := by
  refine meet_i (cc := cX6_lay) (maxL := 6) (own := RX6) (by decide) rfl rfl (Nat.le_of_ble_eq_true rfl) ?_
  intro p e s m below meth c Z S hB fin hP hS ls hl
  have hx := S.1
  have hb := S.2.1
  have hl : lv_has ls 6 [(0, .ref (E.ad 0 0)), (1, .int a1), (2, .int a2), (3, .int a3)] := hl
  have hinX5 : ∀ w ∈ u_ws RX5 TX5 4, w ∈ wsX6_lay := by decide +kernel
  have hinX6 : ∀ w ∈ u_ws RX6 TX6 12, w ∈ wsX6_lay := by decide +kernel
  have fl42 := S.2.2.2.2 (.fieldLink RX6 42 "MownMaze" "sheets" "[LMownMaze$Sheet;") (by decide +kernel)
  have fl281 := S.2.2.2.2 (.fieldLink RX6 281 "MownMaze$Sheet" "lane" "I") (by decide +kernel)
  unfold f_X6_lay at hf
  refine lv_iload_n hx hb dX6_lay_0 rfl (lv_at hl 1 rfl) ?_
  obtain ⟨q1, hq1, hf⟩ := bind_some hf
  refine callS_i (As := [.int a1]) (rest := []) S hB hP hS (K_X6_isSheet l hE X a1 hq1) (va_cwS 1 S.2.2.2.2 gX6_lay_X6_isSheet rfl rfl rfl (by decide +kernel) ⟨Nat.le_of_ble_eq_true rfl, Nat.le_of_ble_eq_true rfl⟩) rfl hl.1 rfl (Nat.le_of_ble_eq_true rfl) dX6_lay_1 ⟨Nat.zero_le _, Nat.zero_le _⟩ (fun H locs hP hS => ?_)
  refine lv_if_ne (tgt := 9) hx hb dX6_lay_4 (by decide) (fun c2 => ?_) (fun c2 => ?_)
  · have hf := if_f c2 hf
    refine lv_aload_n hx hb dX6_lay_9 rfl (lv_at hl 0 rfl) ?_
    refine g_get (v := .ref (E.ad 0 4)) S hB hinX6 hP m_0_0 rfl rfl 7 (by decide) fl42 rfl rfl dX6_lay_10 ?_
    refine lv_iload_n hx hb dX6_lay_13 rfl (lv_at hl 1 rfl) ?_
    obtain ⟨hv3, hf⟩ := ck_some hf
    refine g_aald (f := fun j => E.ad (18 + j) 0) S hB hP m_0_4 4 rfl rfl hv3 dX6_lay_14 ?_
    refine W.eq (g2 := F0 m 15 ls [.ref (E.ad (18 + a1.toNatClampNeg) 0)]) rfl ?_
    refine lv_astore (lv' := [(4, .ref (E.ad (18 + a1.toNatClampNeg) 0)), (0, .ref (E.ad 0 0)), (1, .int a1), (2, .int a2), (3, .int a3)]) hx hb dX6_lay_15 hl (by decide) rfl (fun ls hl => ?_)
    refine lv_aload hx hb dX6_lay_17 (lv_at hl 0 rfl) ?_
    refine lv_aload hx hb dX6_lay_19 (lv_at hl 0 rfl) ?_
    refine g_get (v := .int ((X (18 + a1.toNatClampNeg)) 0 1)) S hB hinX5 hP (mem_sh (Nat.le_trans (by decide : 18 ≤ 18) (Nat.le_add_right _ _)) (Nat.lt_of_lt_of_le (Nat.add_lt_add_left (vp_lt hv3) 18) (by decide)) (by decide)) ((cell_sh E (Nat.le_trans (by decide : 18 ≤ 18) (Nat.le_add_right _ _)) (Nat.lt_of_lt_of_le (Nat.add_lt_add_left (vp_lt hv3) 18) (by decide))) _) rfl 1 (by decide) fl281 rfl rfl dX6_lay_21 ?_
    refine lv_iload_n hx hb dX6_lay_24 rfl (lv_at hl 3 rfl) ?_
    obtain ⟨q4, hq4, hf⟩ := bind_some hf
    refine callV_i (As := [.int ((X (18 + a1.toNatClampNeg)) 0 1), .int a2]) (rest := []) S hB hP hS (C := RX5) (b := E.ad (18 + a1.toNatClampNeg) 0) (g_recv (o := (18 + a1.toNatClampNeg)) (d := 0) hB hP (mem_sh (Nat.le_trans (by decide : 18 ≤ 18) (Nat.le_add_right _ _)) (Nat.lt_of_lt_of_le (Nat.add_lt_add_left (vp_lt hv3) 18) (by decide)) (by decide)) ((cell_sh E (Nat.le_trans (by decide : 18 ≤ 18) (Nat.le_add_right _ _)) (Nat.lt_of_lt_of_le (Nat.add_lt_add_left (vp_lt hv3) 18) (by decide))) _) rfl) (KW_X5_faultAt l hE X (Nat.le_trans (by decide : 18 ≤ 18) (Nat.le_add_right _ _)) (Nat.lt_of_lt_of_le (Nat.add_lt_add_left (vp_lt hv3) 18) (by decide)) ((X (18 + a1.toNatClampNeg)) 0 1) a2 hq4) (cwV 2 S.2.2.2.2 gX6_lay_X5_faultAt rfl rfl rfl (by decide +kernel) ⟨Nat.le_of_ble_eq_true rfl, Nat.le_of_ble_eq_true rfl⟩) rfl hl.1 rfl (Nat.le_of_ble_eq_true rfl) dX6_lay_25 ⟨Nat.zero_le _, Nat.zero_le _⟩ (fun H locs hP hS => ?_)
    refine lv_istore (lv' := [(5, .int q4), (4, .ref (E.ad (18 + a1.toNatClampNeg) 0)), (0, .ref (E.ad 0 0)), (1, .int a1), (2, .int a2), (3, .int a3)]) hx hb dX6_lay_28 hl (by decide) rfl (fun ls hl => ?_)
    refine lv_iload hx hb dX6_lay_30 (lv_at hl 0 rfl) ?_
    refine lv_if_eq (tgt := 41) hx hb dX6_lay_32 (by decide) (fun c5 => ?_) (fun c5 => ?_)
    · have hf := if_t c5 hf
      refine lv_aload hx hb dX6_lay_41 (lv_at hl 1 rfl) ?_
      refine lv_iload_n hx hb dX6_lay_43 rfl (lv_at hl 4 rfl) ?_
      refine lv_iload_n hx hb dX6_lay_44 rfl (lv_at hl 5 rfl) ?_
      obtain ⟨q6, hq6, hf⟩ := bind_some hf
      refine callV_v (As := [.int a2, .int a3]) (rest := []) S hB hP hS (C := RX5) (b := E.ad (18 + a1.toNatClampNeg) 0) (g_recv (o := (18 + a1.toNatClampNeg)) (d := 0) hB hP (mem_sh (Nat.le_trans (by decide : 18 ≤ 18) (Nat.le_add_right _ _)) (Nat.lt_of_lt_of_le (Nat.add_lt_add_left (vp_lt hv3) 18) (by decide)) (by decide)) ((cell_sh E (Nat.le_trans (by decide : 18 ≤ 18) (Nat.le_add_right _ _)) (Nat.lt_of_lt_of_le (Nat.add_lt_add_left (vp_lt hv3) 18) (by decide))) _) rfl) (KW_X5_put l hE X (Nat.le_trans (by decide : 18 ≤ 18) (Nat.le_add_right _ _)) (Nat.lt_of_lt_of_le (Nat.add_lt_add_left (vp_lt hv3) 18) (by decide)) a2 a3 hq6) (cwV 2 S.2.2.2.2 gX6_lay_X5_put rfl rfl rfl (by decide +kernel) ⟨Nat.le_of_ble_eq_true rfl, Nat.le_of_ble_eq_true rfl⟩) rfl hl.1 rfl (Nat.le_of_ble_eq_true rfl) dX6_lay_45 ⟨Nat.zero_le _, Nat.zero_le _⟩ (fun H locs hP hS => ?_)
      refine lv_iconst (v := 1) hx hb dX6_lay_48 (by decide) ?_
      exact fin dX6_lay_49 (s1 hf) (s2 hf) hP hS
    · have hf := if_f c5 hf
      refine lv_bipush (v := -10) hx hb dX6_lay_35 (by decide) ?_
      refine lv_iload hx hb dX6_lay_37 (lv_at hl 0 rfl) ?_
      refine lv_isub hx hb dX6_lay_39 ?_
      exact fin dX6_lay_40 (s1 hf) (s2 hf) hP hS
  · have hf := if_t c2 hf
    refine lv_iconst (v := -1) hx hb dX6_lay_7 (by decide) ?_
    exact fin dX6_lay_8 (s1 hf) (s2 hf) hP hS
/-! X6_read -/
abbrev rm_X6_read : Room := { frames := 2, cells := 0, slots := 0, locals := 45 }
set_option maxHeartbeats 4000000 in
set_option maxRecDepth 100000 in
theorem K_X6_read (l : Launch) {E : En} (hE : Inj E) (X : Wd) (a1 : Int32) (a2 : Int32) (a3 : Int32) (a4 : Int32) {r : Int32} {X' : Wd} (hf : f_X6_read X a1 a2 a3 a4 = some (r, X')) : Cti l E yX6_read wsX6_read rm_X6_read [.ref (E.ad 0 0), .int a1, .int a2, .int a3, .int a4] X r X' := by
  refine meet_i (cc := cX6_read) (maxL := 11) (own := RX6) (by decide) rfl rfl (Nat.le_of_ble_eq_true rfl) ?_
  intro p e s m below meth c Z S hB fin hP hS ls hl
  have hx := S.1
  have hb := S.2.1
  have hl : lv_has ls 11 [(0, .ref (E.ad 0 0)), (1, .int a1), (2, .int a2), (3, .int a3), (4, .int a4)] := hl
  have hinX1 : ∀ w ∈ u_ws RX1 TX1 12, w ∈ wsX6_read := by decide +kernel
  have hinX5 : ∀ w ∈ u_ws RX5 TX5 4, w ∈ wsX6_read := by decide +kernel
  have hinX6 : ∀ w ∈ u_ws RX6 TX6 12, w ∈ wsX6_read := by decide +kernel
  have fl19 := S.2.2.2.2 (.fieldLink RX6 19 "MownMaze" "maze" "LMownMaze$Maze;") (by decide +kernel)
  have fl42 := S.2.2.2.2 (.fieldLink RX6 42 "MownMaze" "sheets" "[LMownMaze$Sheet;") (by decide +kernel)
  have fl64 := S.2.2.2.2 (.fieldLink RX6 64 "MownMaze" "torn" "I") (by decide +kernel)
  have fl105 := S.2.2.2.2 (.fieldLink RX6 105 "MownMaze$Maze" "hedges" "I") (by decide +kernel)
  have fl293 := S.2.2.2.2 (.fieldLink RX6 293 "MownMaze$Sheet" "cells" "[I") (by decide +kernel)
  have hB149 : ∀ (X : Wd) (x6 : Int32) (x7 : Int32) (x8 : Int32) (H : Heap) (locs : List Loc) (ls : Array Slot), f_X6_read_b149 X x6 x7 x8 = some (r, X') → va_P E.1 vwCl (GW E X) H → va_S (GA E) s.heap H locs → lv_has ls 11 [(0, .ref (E.ad 0 0)), (6, .int x6), (7, .int x7), (8, .int x8)] → W p l e rm_X6_read s m ([.ref (E.ad 0 0), .int a1, .int a2, .int a3, .int a4] : List Value).toArray below meth c H locs 0 0 Z (F0 m 149 ls []) := by
    intro X x6 x7 x8 H locs ls hf hP hS hl
    unfold f_X6_read_b149 at hf
    refine lv_aload_n hx hb dX6_read_149 rfl (lv_at hl 0 rfl) ?_
    refine g_get (v := .ref (E.ad 4 0)) S hB hinX6 hP m_0_0 rfl rfl 1 (by decide) fl19 rfl rfl dX6_read_150 ?_
    refine lv_iload hx hb dX6_read_153 (lv_at hl 1 rfl) ?_
    refine g_put S hB hE hinX1 tyX1 tyX1_ok nmX1 hP hS m_4_0 rfl rfl 0 (by decide) fl105 rfl rfl rfl rfl (Nat.le_of_ble_eq_true rfl) (by exact (fun _ => rfl) _) (X' := (wo X 4 0 0 x6)) rfl dX6_read_155 (fun H locs hP hS => ?_)
    refine lv_aload_n hx hb dX6_read_158 rfl (lv_at hl 0 rfl) ?_
    refine lv_iload hx hb dX6_read_159 (lv_at hl 2 rfl) ?_
    refine g_put S hB hE hinX6 tyX6 tyX6_ok nmX6 hP hS m_0_0 rfl rfl 11 (by decide) fl64 rfl rfl rfl rfl (Nat.le_of_ble_eq_true rfl) (by exact (fun _ => rfl) _) (X' := (wo (wo X 4 0 0 x6) 0 0 11 x7)) rfl dX6_read_161 (fun H locs hP hS => ?_)
    refine lv_iload hx hb dX6_read_164 (lv_at hl 3 rfl) ?_
    exact fin dX6_read_166 (s1 hf) (s2 hf) hP hS
  have hL51 : ∀ (n51 : Nat) (X : Wd) (x2 : Int32) (x3 : Int32) (x4 : Int32) (x6 : Int32) (x7 : Int32) (x8 : Int32) (g5lo : 18 ≤ (18 + a1.toNatClampNeg)) (g5hi : (18 + a1.toNatClampNeg) < 22) (H : Heap) (locs : List Loc) (ls : Array Slot), f_X6_read_l51 n51 X x2 x3 x4 x6 x7 x8 a1 = some (r, X') → va_P E.1 vwCl (GW E X) H → va_S (GA E) s.heap H locs → lv_has ls 11 [(0, .ref (E.ad 0 0)), (2, .int x2), (3, .int x3), (4, .int x4), (5, .ref (E.ad (18 + a1.toNatClampNeg) 0)), (6, .int x6), (7, .int x7), (8, .int x8)] → W p l e rm_X6_read s m ([.ref (E.ad 0 0), .int a1, .int a2, .int a3, .int a4] : List Value).toArray below meth c H locs 0 0 Z (F0 m 51 ls []) := by
    intro n51
    induction n51 with
    | zero =>
      intro X x2 x3 x4 x6 x7 x8 g5lo g5hi H locs ls hf
      cases (show (none : Option _) = some _ from hf)
    | succ n51 ih51 =>
      intro X x2 x3 x4 x6 x7 x8 g5lo g5hi H locs ls hf hP hS hl
      unfold f_X6_read_l51 at hf
      refine lv_iload hx hb dX6_read_51 (lv_at hl 7 rfl) ?_
      refine lv_iload hx hb dX6_read_53 (lv_at hl 3 rfl) ?_
      refine lv_icmp_ge (tgt := 149) hx hb dX6_read_55 (by decide) (fun c8 => ?_) (fun c8 => ?_)
      · have hf := if_t c8 hf
        exact hB149 X x6 x7 x8 _ _ _ hf hP hS (lv_sub hl [0, 5, 6, 7] rfl)
      · have hf := if_f c8 hf
        refine lv_aload hx hb dX6_read_58 (lv_at hl 4 rfl) ?_
        refine lv_iload_n hx hb dX6_read_60 rfl (lv_at hl 1 rfl) ?_
        refine lv_iload_n hx hb dX6_read_61 rfl (lv_at hl 2 rfl) ?_
        refine lv_iconst (v := 2) hx hb dX6_read_62 (by decide) ?_
        refine lv_iload hx hb dX6_read_63 (lv_at hl 7 rfl) ?_
        refine lv_imul hx hb dX6_read_65 ?_
        refine lv_iadd hx hb dX6_read_66 ?_
        obtain ⟨q9, hq9, hf⟩ := bind_some hf
        refine callV_i (As := [.int x2, .int (x3 + ((2 : Int32) * x8))]) (rest := []) S hB hP hS (C := RX5) (b := E.ad (18 + a1.toNatClampNeg) 0) (g_recv (o := (18 + a1.toNatClampNeg)) (d := 0) hB hP (mem_sh g5lo g5hi (by decide)) ((cell_sh E g5lo g5hi) _) rfl) (KW_X5_faultOfPair l hE X g5lo g5hi x2 (x3 + ((2 : Int32) * x8)) hq9) (cwV 2 S.2.2.2.2 gX6_read_X5_faultOfPair rfl rfl rfl (by decide +kernel) ⟨Nat.le_of_ble_eq_true rfl, Nat.le_of_ble_eq_true rfl⟩) rfl hl.1 rfl (Nat.le_of_ble_eq_true rfl) dX6_read_67 ⟨Nat.zero_le _, Nat.zero_le _⟩ (fun H locs hP hS => ?_)
        refine lv_istore (lv' := [(7, .int q9), (0, .ref (E.ad 0 0)), (2, .int x2), (3, .int x3), (4, .int x4), (5, .ref (E.ad (18 + a1.toNatClampNeg) 0)), (6, .int x6), (8, .int x8)]) hx hb dX6_read_70 hl (by decide) rfl (fun ls hl => ?_)
        refine lv_iload hx hb dX6_read_72 (lv_at hl 0 rfl) ?_
        refine lv_if_eq (tgt := 80) hx hb dX6_read_74 (by decide) (fun c10 => ?_) (fun c10 => ?_)
        · have hf := if_t c10 hf
          refine lv_aload hx hb dX6_read_80 (lv_at hl 5 rfl) ?_
          refine g_get (v := .ref (E.ad (18 + a1.toNatClampNeg) 1)) S hB hinX5 hP (mem_sh g5lo g5hi (by decide)) ((cell_sh E g5lo g5hi) _) rfl 3 (by decide) fl293 rfl rfl dX6_read_82 ?_
          refine lv_iload_n hx hb dX6_read_85 rfl (lv_at hl 3 rfl) ?_
          refine lv_iconst (v := 2) hx hb dX6_read_86 (by decide) ?_
          refine lv_iload hx hb dX6_read_87 (lv_at hl 7 rfl) ?_
          refine lv_imul hx hb dX6_read_89 ?_
          refine lv_iadd hx hb dX6_read_90 ?_
          obtain ⟨hv11, hf⟩ := ck_some hf
          refine g_iald (r := X (18 + a1.toNatClampNeg) 1) S hB hP (mem_sh g5lo g5hi (by decide)) ((cell_sa E g5lo g5hi (by decide)) _) hv11 dX6_read_91 ?_
          refine W.eq (g2 := F0 m 92 ls [.int ((X (18 + a1.toNatClampNeg)) 1 ((x3 + ((2 : Int32) * x8)).toNatClampNeg))]) rfl ?_
          refine lv_istore (lv' := [(9, .int ((X (18 + a1.toNatClampNeg)) 1 ((x3 + ((2 : Int32) * x8)).toNatClampNeg))), (7, .int q9), (0, .ref (E.ad 0 0)), (2, .int x2), (3, .int x3), (4, .int x4), (5, .ref (E.ad (18 + a1.toNatClampNeg) 0)), (6, .int x6), (8, .int x8)]) hx hb dX6_read_92 hl (by decide) rfl (fun ls hl => ?_)
          refine lv_aload hx hb dX6_read_94 (lv_at hl 6 rfl) ?_
          refine g_get (v := .ref (E.ad (18 + a1.toNatClampNeg) 1)) S hB hinX5 hP (mem_sh g5lo g5hi (by decide)) ((cell_sh E g5lo g5hi) _) rfl 3 (by decide) fl293 rfl rfl dX6_read_96 ?_
          refine lv_iload_n hx hb dX6_read_99 rfl (lv_at hl 4 rfl) ?_
          refine lv_iconst (v := 2) hx hb dX6_read_100 (by decide) ?_
          refine lv_iload hx hb dX6_read_101 (lv_at hl 8 rfl) ?_
          refine lv_imul hx hb dX6_read_103 ?_
          refine lv_iadd hx hb dX6_read_104 ?_
          refine lv_iconst (v := 1) hx hb dX6_read_105 (by decide) ?_
          refine lv_iadd hx hb dX6_read_106 ?_
          obtain ⟨hv12, hf⟩ := ck_some hf
          refine g_iald (r := X (18 + a1.toNatClampNeg) 1) S hB hP (mem_sh g5lo g5hi (by decide)) ((cell_sa E g5lo g5hi (by decide)) _) hv12 dX6_read_107 ?_
          refine W.eq (g2 := F0 m 108 ls [.int ((X (18 + a1.toNatClampNeg)) 1 (((x3 + ((2 : Int32) * x8)) + (1 : Int32)).toNatClampNeg))]) rfl ?_
          refine lv_istore (lv' := [(10, .int ((X (18 + a1.toNatClampNeg)) 1 (((x3 + ((2 : Int32) * x8)) + (1 : Int32)).toNatClampNeg))), (9, .int ((X (18 + a1.toNatClampNeg)) 1 ((x3 + ((2 : Int32) * x8)).toNatClampNeg))), (7, .int q9), (0, .ref (E.ad 0 0)), (2, .int x2), (3, .int x3), (4, .int x4), (5, .ref (E.ad (18 + a1.toNatClampNeg) 0)), (6, .int x6), (8, .int x8)]) hx hb dX6_read_108 hl (by decide) rfl (fun ls hl => ?_)
          refine lv_iload hx hb dX6_read_110 (lv_at hl 1 rfl) ?_
          obtain ⟨q13, hq13, hf⟩ := bind_some hf
          refine callS_i (As := [.int ((X (18 + a1.toNatClampNeg)) 1 ((x3 + ((2 : Int32) * x8)).toNatClampNeg))]) (rest := []) S hB hP hS (K_X6_isHedge l hE X ((X (18 + a1.toNatClampNeg)) 1 ((x3 + ((2 : Int32) * x8)).toNatClampNeg)) hq13) (va_cwS 1 S.2.2.2.2 gX6_read_X6_isHedge rfl rfl rfl (by decide +kernel) ⟨Nat.le_of_ble_eq_true rfl, Nat.le_of_ble_eq_true rfl⟩) rfl hl.1 rfl (Nat.le_of_ble_eq_true rfl) dX6_read_112 ⟨Nat.zero_le _, Nat.zero_le _⟩ (fun H locs hP hS => ?_)
          refine lv_if_eq (tgt := 126) hx hb dX6_read_115 (by decide) (fun c14 => ?_) (fun c14 => ?_)
          · have hf := if_t c14 hf
            refine lv_bipush (v := -20) hx hb dX6_read_126 (by decide) ?_
            refine lv_iload hx hb dX6_read_128 (lv_at hl 9 rfl) ?_
            refine lv_isub hx hb dX6_read_130 ?_
            exact fin dX6_read_131 (s1 hf) (s2 hf) hP hS
          · have hf := if_f c14 hf
            refine lv_iload hx hb dX6_read_118 (lv_at hl 0 rfl) ?_
            obtain ⟨q15, hq15, hf⟩ := bind_some hf
            refine callS_i (As := [.int ((X (18 + a1.toNatClampNeg)) 1 (((x3 + ((2 : Int32) * x8)) + (1 : Int32)).toNatClampNeg))]) (rest := []) S hB hP hS (K_X6_isBit l hE X ((X (18 + a1.toNatClampNeg)) 1 (((x3 + ((2 : Int32) * x8)) + (1 : Int32)).toNatClampNeg)) hq15) (va_cwS 1 S.2.2.2.2 gX6_read_X6_isBit rfl rfl rfl (by decide +kernel) ⟨Nat.le_of_ble_eq_true rfl, Nat.le_of_ble_eq_true rfl⟩) rfl hl.1 rfl (Nat.le_of_ble_eq_true rfl) dX6_read_120 ⟨Nat.zero_le _, Nat.zero_le _⟩ (fun H locs hP hS => ?_)
            refine lv_if_ne (tgt := 132) hx hb dX6_read_123 (by decide) (fun c16 => ?_) (fun c16 => ?_)
            · have hf := if_f c16 hf
              refine lv_iload hx hb dX6_read_132 (lv_at hl 8 rfl) ?_
              refine lv_iload hx hb dX6_read_134 (lv_at hl 1 rfl) ?_
              refine lv_iload hx hb dX6_read_136 (lv_at hl 0 rfl) ?_
              obtain ⟨q17, hq17, hf⟩ := bind_some hf
              refine callS_i (As := [.int x6, .int ((X (18 + a1.toNatClampNeg)) 1 ((x3 + ((2 : Int32) * x8)).toNatClampNeg)), .int ((X (18 + a1.toNatClampNeg)) 1 (((x3 + ((2 : Int32) * x8)) + (1 : Int32)).toNatClampNeg))]) (rest := []) S hB hP hS (K_X2_with l hE X x6 ((X (18 + a1.toNatClampNeg)) 1 ((x3 + ((2 : Int32) * x8)).toNatClampNeg)) ((X (18 + a1.toNatClampNeg)) 1 (((x3 + ((2 : Int32) * x8)) + (1 : Int32)).toNatClampNeg)) hq17) (va_cwS 3 S.2.2.2.2 gX6_read_X2_with rfl rfl rfl (by decide +kernel) ⟨Nat.le_of_ble_eq_true rfl, Nat.le_of_ble_eq_true rfl⟩) rfl hl.1 rfl (Nat.le_of_ble_eq_true rfl) dX6_read_138 ⟨Nat.zero_le _, Nat.zero_le _⟩ (fun H locs hP hS => ?_)
              refine lv_istore (lv' := [(6, .int q17), (10, .int ((X (18 + a1.toNatClampNeg)) 1 (((x3 + ((2 : Int32) * x8)) + (1 : Int32)).toNatClampNeg))), (9, .int ((X (18 + a1.toNatClampNeg)) 1 ((x3 + ((2 : Int32) * x8)).toNatClampNeg))), (7, .int q9), (0, .ref (E.ad 0 0)), (2, .int x2), (3, .int x3), (4, .int x4), (5, .ref (E.ad (18 + a1.toNatClampNeg) 0)), (8, .int x8)]) hx hb dX6_read_141 hl (by decide) rfl (fun ls hl => ?_)
              refine lv_iinc (v := x8 + (1 : Int32)) (lv' := [(8, .int (x8 + (1 : Int32))), (6, .int q17), (10, .int ((X (18 + a1.toNatClampNeg)) 1 (((x3 + ((2 : Int32) * x8)) + (1 : Int32)).toNatClampNeg))), (9, .int ((X (18 + a1.toNatClampNeg)) 1 ((x3 + ((2 : Int32) * x8)).toNatClampNeg))), (7, .int q9), (0, .ref (E.ad 0 0)), (2, .int x2), (3, .int x3), (4, .int x4), (5, .ref (E.ad (18 + a1.toNatClampNeg) 0))]) hx hb dX6_read_143 hl (k := 9) rfl rfl (by decide) rfl (fun ls hl => ?_)
              refine lv_goto (tgt := 51) hx hb dX6_read_146 (by decide) ?_
              exact ih51 X x2 x3 x4 q17 q9 (x8 + (1 : Int32)) g5lo g5hi _ _ _ hf hP hS (lv_sub hl [5, 6, 7, 8, 9, 1, 4, 0] rfl)
            · have hf := if_t c16 hf
              refine lv_bipush (v := -20) hx hb dX6_read_126 (by decide) ?_
              refine lv_iload hx hb dX6_read_128 (lv_at hl 9 rfl) ?_
              refine lv_isub hx hb dX6_read_130 ?_
              exact fin dX6_read_131 (s1 hf) (s2 hf) hP hS
        · have hf := if_f c10 hf
          refine lv_goto (tgt := 149) hx hb dX6_read_77 (by decide) ?_
          exact hB149 X x6 q9 x8 _ _ _ hf hP hS (lv_sub hl [1, 6, 0, 7] rfl)
  unfold f_X6_read at hf
  refine lv_iload_n hx hb dX6_read_0 rfl (lv_at hl 1 rfl) ?_
  obtain ⟨q1, hq1, hf⟩ := bind_some hf
  refine callS_i (As := [.int a1]) (rest := []) S hB hP hS (K_X6_isSheet l hE X a1 hq1) (va_cwS 1 S.2.2.2.2 gX6_read_X6_isSheet rfl rfl rfl (by decide +kernel) ⟨Nat.le_of_ble_eq_true rfl, Nat.le_of_ble_eq_true rfl⟩) rfl hl.1 rfl (Nat.le_of_ble_eq_true rfl) dX6_read_1 ⟨Nat.zero_le _, Nat.zero_le _⟩ (fun H locs hP hS => ?_)
  refine lv_if_eq (tgt := 26) hx hb dX6_read_4 (by decide) (fun c2 => ?_) (fun c2 => ?_)
  · have hf := if_t c2 hf
    refine lv_iconst (v := -1) hx hb dX6_read_26 (by decide) ?_
    exact fin dX6_read_27 (s1 hf) (s2 hf) hP hS
  · have hf := if_f c2 hf
    refine lv_iload_n hx hb dX6_read_7 rfl (lv_at hl 2 rfl) ?_
    obtain ⟨q3, hq3, hf⟩ := bind_some hf
    refine callS_i (As := [.int a2]) (rest := []) S hB hP hS (K_X6_isLane l hE X a2 hq3) (va_cwS 1 S.2.2.2.2 gX6_read_X6_isLane rfl rfl rfl (by decide +kernel) ⟨Nat.le_of_ble_eq_true rfl, Nat.le_of_ble_eq_true rfl⟩) rfl hl.1 rfl (Nat.le_of_ble_eq_true rfl) dX6_read_8 ⟨Nat.zero_le _, Nat.zero_le _⟩ (fun H locs hP hS => ?_)
    refine lv_if_eq (tgt := 26) hx hb dX6_read_11 (by decide) (fun c4 => ?_) (fun c4 => ?_)
    · have hf := if_t c4 hf
      refine lv_iconst (v := -1) hx hb dX6_read_26 (by decide) ?_
      exact fin dX6_read_27 (s1 hf) (s2 hf) hP hS
    · have hf := if_f c4 hf
      refine lv_iload hx hb dX6_read_14 (lv_at hl 4 rfl) ?_
      refine lv_if_lt (tgt := 26) hx hb dX6_read_16 (by decide) (fun c5 => ?_) (fun c5 => ?_)
      · have hf := if_t c5 hf
        refine lv_iconst (v := -1) hx hb dX6_read_26 (by decide) ?_
        exact fin dX6_read_27 (s1 hf) (s2 hf) hP hS
      · have hf := if_f c5 hf
        refine lv_iload hx hb dX6_read_19 (lv_at hl 4 rfl) ?_
        refine lv_bipush (v := 20) hx hb dX6_read_21 (by decide) ?_
        refine lv_icmp_le (tgt := 28) hx hb dX6_read_23 (by decide) (fun c6 => ?_) (fun c6 => ?_)
        · have hf := if_t c6 hf
          refine lv_aload_n hx hb dX6_read_28 rfl (lv_at hl 0 rfl) ?_
          refine g_get (v := .ref (E.ad 0 4)) S hB hinX6 hP m_0_0 rfl rfl 7 (by decide) fl42 rfl rfl dX6_read_29 ?_
          refine lv_iload_n hx hb dX6_read_32 rfl (lv_at hl 1 rfl) ?_
          obtain ⟨hv7, hf⟩ := ck_some hf
          refine g_aald (f := fun j => E.ad (18 + j) 0) S hB hP m_0_4 4 rfl rfl hv7 dX6_read_33 ?_
          refine W.eq (g2 := F0 m 34 ls [.ref (E.ad (18 + a1.toNatClampNeg) 0)]) rfl ?_
          refine lv_astore (lv' := [(5, .ref (E.ad (18 + a1.toNatClampNeg) 0)), (0, .ref (E.ad 0 0)), (1, .int a1), (2, .int a2), (3, .int a3), (4, .int a4)]) hx hb dX6_read_34 hl (by decide) rfl (fun ls hl => ?_)
          refine lv_aload_n hx hb dX6_read_36 rfl (lv_at hl 1 rfl) ?_
          refine g_get (v := .ref (E.ad 4 0)) S hB hinX6 hP m_0_0 rfl rfl 1 (by decide) fl19 rfl rfl dX6_read_37 ?_
          refine g_get (v := .int ((X 4) 0 0)) S hB hinX1 hP m_4_0 rfl rfl 0 (by decide) fl105 rfl rfl dX6_read_40 ?_
          refine lv_istore (lv' := [(6, .int ((X 4) 0 0)), (5, .ref (E.ad (18 + a1.toNatClampNeg) 0)), (0, .ref (E.ad 0 0)), (1, .int a1), (2, .int a2), (3, .int a3), (4, .int a4)]) hx hb dX6_read_43 hl (by decide) rfl (fun ls hl => ?_)
          refine lv_iconst (v := 0) hx hb dX6_read_45 (by decide) ?_
          refine lv_istore (lv' := [(7, .int (0 : Int32)), (6, .int ((X 4) 0 0)), (5, .ref (E.ad (18 + a1.toNatClampNeg) 0)), (0, .ref (E.ad 0 0)), (1, .int a1), (2, .int a2), (3, .int a3), (4, .int a4)]) hx hb dX6_read_46 hl (by decide) rfl (fun ls hl => ?_)
          refine lv_iconst (v := 0) hx hb dX6_read_48 (by decide) ?_
          refine lv_istore (lv' := [(8, .int (0 : Int32)), (7, .int (0 : Int32)), (6, .int ((X 4) 0 0)), (5, .ref (E.ad (18 + a1.toNatClampNeg) 0)), (0, .ref (E.ad 0 0)), (1, .int a1), (2, .int a2), (3, .int a3), (4, .int a4)]) hx hb dX6_read_49 hl (by decide) rfl (fun ls hl => ?_)
          exact hL51 FUEL X a2 a3 a4 ((X 4) 0 0) (0 : Int32) (0 : Int32) (Nat.le_trans (by decide : 18 ≤ 18) (Nat.le_add_right _ _)) (Nat.lt_of_lt_of_le (Nat.add_lt_add_left (vp_lt hv7) 18) (by decide)) _ _ _ hf hP hS (lv_sub hl [4, 6, 7, 8, 3, 2, 1, 0] rfl)
        · have hf := if_f c6 hf
          refine lv_iconst (v := -1) hx hb dX6_read_26 (by decide) ?_
          exact fin dX6_read_27 (s1 hf) (s2 hf) hP hS
/-! X6_torn -/
abbrev rm_X6_torn : Room := { frames := 0, cells := 0, slots := 0, locals := 0 }
set_option maxHeartbeats 4000000 in
set_option maxRecDepth 100000 in
theorem K_X6_torn (l : Launch) {E : En} (hE : Inj E) (X : Wd) {r : Int32} (hf : f_X6_torn X = some r) : Cti l E yX6_torn wsX6_torn rm_X6_torn [.ref (E.ad 0 0)] X r X := by
  refine meet_i (cc := cX6_torn) (maxL := 1) (own := RX6) (by decide) rfl rfl (Nat.le_of_ble_eq_true rfl) ?_
  intro p e s m below meth c Z S hB fin hP hS ls hl
  have hx := S.1
  have hb := S.2.1
  have hl : lv_has ls 1 [(0, .ref (E.ad 0 0))] := hl
  have hinX6 : ∀ w ∈ u_ws RX6 TX6 12, w ∈ wsX6_torn := by decide +kernel
  have fl64 := S.2.2.2.2 (.fieldLink RX6 64 "MownMaze" "torn" "I") (by decide +kernel)
  unfold f_X6_torn at hf
  refine lv_aload_n hx hb dX6_torn_0 rfl (lv_at hl 0 rfl) ?_
  refine g_get (v := .int ((X 0) 0 11)) S hB hinX6 hP m_0_0 rfl rfl 11 (by decide) fl64 rfl rfl dX6_torn_1 ?_
  exact fin dX6_torn_4 (s0 hf) rfl hP hS
/-! X6_sumOf -/
abbrev rm_X6_sumOf : Room := { frames := 0, cells := 0, slots := 0, locals := 0 }
set_option maxHeartbeats 4000000 in
set_option maxRecDepth 100000 in
theorem K_X6_sumOf (l : Launch) {E : En} (hE : Inj E) (X : Wd) {o d n : Nat} (hm : (o, d) ∈ ids) (hcl : ∀ r, cell E o d r = .inl (E.cy 0, n, .inl r)) (a1 : Int32) {r : Int32} (hf : f_X6_sumOf n (X o d) a1 = some r) : Cti l E yX6_sumOf wsX6_sumOf rm_X6_sumOf [.ref (E.ad o d), .int a1] X r X := by
  refine meet_i (cc := cX6_sumOf) (maxL := 4) (own := RX6) (by decide) rfl rfl (Nat.le_of_ble_eq_true rfl) ?_
  intro p e s m below meth c Z S hB fin hP hS ls hl
  have hx := S.1
  have hb := S.2.1
  have hl : lv_has ls 4 [(0, .ref (E.ad o d)), (1, .int a1)] := hl
  generalize hr9 : X o d = r9 at hf
  have hL4 : ∀ (n4 : Nat) (x1 : Int32) (x2 : Int32) (x3 : Int32) (H : Heap) (locs : List Loc) (ls : Array Slot), f_X6_sumOf_l4 n4 r9 x1 x2 x3 n = some r → va_P E.1 vwCl (GW E X) H → va_S (GA E) s.heap H locs → lv_has ls 4 [(0, .ref (E.ad o d)), (1, .int x1), (2, .int x2), (3, .int x3)] → W p l e rm_X6_sumOf s m ([.ref (E.ad o d), .int a1] : List Value).toArray below meth c H locs 0 0 Z (F0 m 4 ls []) := by
    intro n4
    induction n4 with
    | zero =>
      intro x1 x2 x3 H locs ls hf
      cases (show (none : Option _) = some _ from hf)
    | succ n4 ih4 =>
      intro x1 x2 x3 H locs ls hf hP hS hl
      unfold f_X6_sumOf_l4 at hf
      refine lv_iload_n hx hb dX6_sumOf_4 rfl (lv_at hl 3 rfl) ?_
      refine lv_iload_n hx hb dX6_sumOf_5 rfl (lv_at hl 1 rfl) ?_
      refine lv_icmp_ge (tgt := 27) hx hb dX6_sumOf_6 (by decide) (fun c1 => ?_) (fun c1 => ?_)
      · have hf := if_t c1 hf
        refine lv_iload_n hx hb dX6_sumOf_27 rfl (lv_at hl 2 rfl) ?_
        exact fin dX6_sumOf_28 (s0 hf) rfl hP hS
      · have hf := if_f c1 hf
        refine lv_iload_n hx hb dX6_sumOf_9 rfl (lv_at hl 3 rfl) ?_
        refine lv_aload_n hx hb dX6_sumOf_10 rfl (lv_at hl 0 rfl) ?_
        refine g_alen (v := nI n) S hB hP hm 0 (by rw [hr9]; exact hcl _) rfl rfl dX6_sumOf_11 ?_
        refine lv_icmp_ge (tgt := 27) hx hb dX6_sumOf_12 (by decide) (fun c2 => ?_) (fun c2 => ?_)
        · have hf := if_t c2 hf
          refine lv_iload_n hx hb dX6_sumOf_27 rfl (lv_at hl 2 rfl) ?_
          exact fin dX6_sumOf_28 (s0 hf) rfl hP hS
        · have hf := if_f c2 hf
          refine lv_iload_n hx hb dX6_sumOf_15 rfl (lv_at hl 2 rfl) ?_
          refine lv_aload_n hx hb dX6_sumOf_16 rfl (lv_at hl 0 rfl) ?_
          refine lv_iload_n hx hb dX6_sumOf_17 rfl (lv_at hl 3 rfl) ?_
          obtain ⟨hv3, hf⟩ := ck_some hf
          refine g_iald (r := r9) S hB hP hm (by rw [hr9]; exact hcl _) hv3 dX6_sumOf_18 ?_
          refine lv_iadd hx hb dX6_sumOf_19 ?_
          refine lv_istore_n (lv' := [(2, .int (x2 + (r9 x3.toNatClampNeg))), (0, .ref (E.ad o d)), (1, .int x1), (3, .int x3)]) hx hb dX6_sumOf_20 rfl hl (by decide) rfl (fun ls hl => ?_)
          refine lv_iinc (v := x3 + (1 : Int32)) (lv' := [(3, .int (x3 + (1 : Int32))), (2, .int (x2 + (r9 x3.toNatClampNeg))), (0, .ref (E.ad o d)), (1, .int x1)]) hx hb dX6_sumOf_21 hl (k := 3) rfl rfl (by decide) rfl (fun ls hl => ?_)
          refine lv_goto (tgt := 4) hx hb dX6_sumOf_24 (by decide) ?_
          exact ih4 x1 (x2 + (r9 x3.toNatClampNeg)) (x3 + (1 : Int32)) _ _ _ hf hP hS (lv_sub hl [2, 3, 1, 0] rfl)
  unfold f_X6_sumOf at hf
  refine lv_iconst (v := 0) hx hb dX6_sumOf_0 (by decide) ?_
  refine lv_istore_n (lv' := [(2, .int (0 : Int32)), (0, .ref (E.ad o d)), (1, .int a1)]) hx hb dX6_sumOf_1 rfl hl (by decide) rfl (fun ls hl => ?_)
  refine lv_iconst (v := 0) hx hb dX6_sumOf_2 (by decide) ?_
  refine lv_istore_n (lv' := [(3, .int (0 : Int32)), (2, .int (0 : Int32)), (0, .ref (E.ad o d)), (1, .int a1)]) hx hb dX6_sumOf_3 rfl hl (by decide) rfl (fun ls hl => ?_)
  exact hL4 FUEL a1 (0 : Int32) (0 : Int32) _ _ _ hf hP hS (lv_sub hl [2, 3, 1, 0] rfl)
/-! X6_count -/
abbrev rm_X6_count : Room := { frames := 1, cells := 0, slots := 0, locals := 23 }
set_option maxHeartbeats 4000000 in
set_option maxRecDepth 100000 in
theorem K_X6_count (l : Launch) {E : En} (hE : Inj E) (X : Wd) (a1 : Int32) {r : Int32} (hf : f_X6_count X a1 = some r) : Cti l E yX6_count wsX6_count rm_X6_count [.ref (E.ad 0 0), .int a1] X r X := by
  refine meet_i (cc := cX6_count) (maxL := 2) (own := RX6) (by decide) rfl rfl (Nat.le_of_ble_eq_true rfl) ?_
  intro p e s m below meth c Z S hB fin hP hS ls hl
  have hx := S.1
  have hb := S.2.1
  have hl : lv_has ls 2 [(0, .ref (E.ad 0 0)), (1, .int a1)] := hl
  have hinX1 : ∀ w ∈ u_ws RX1 TX1 12, w ∈ wsX6_count := by decide +kernel
  have hinX3 : ∀ w ∈ u_ws RX3 TX3 8, w ∈ wsX6_count := by decide +kernel
  have hinX4 : ∀ w ∈ u_ws RX4 TX4 6, w ∈ wsX6_count := by decide +kernel
  have hinX5 : ∀ w ∈ u_ws RX5 TX5 4, w ∈ wsX6_count := by decide +kernel
  have hinX6 : ∀ w ∈ u_ws RX6 TX6 12, w ∈ wsX6_count := by decide +kernel
  have fl10 := S.2.2.2.2 (.fieldLink RX6 10 "MownMaze" "reader" "LMownMaze$Reader;") (by decide +kernel)
  have fl19 := S.2.2.2.2 (.fieldLink RX6 19 "MownMaze" "maze" "LMownMaze$Maze;") (by decide +kernel)
  have fl36 := S.2.2.2.2 (.fieldLink RX6 36 "MownMaze" "kept" "[Z") (by decide +kernel)
  have fl42 := S.2.2.2.2 (.fieldLink RX6 42 "MownMaze" "sheets" "[LMownMaze$Sheet;") (by decide +kernel)
  have fl49 := S.2.2.2.2 (.fieldLink RX6 49 "MownMaze" "seen" "LMownMaze$Seen;") (by decide +kernel)
  have fl72 := S.2.2.2.2 (.fieldLink RX6 72 "MownMaze$Reader" "length" "I") (by decide +kernel)
  have fl90 := S.2.2.2.2 (.fieldLink RX6 90 "MownMaze$Seen" "size" "I") (by decide +kernel)
  have fl93 := S.2.2.2.2 (.fieldLink RX6 93 "MownMaze$Maze" "gardeners" "I") (by decide +kernel)
  have fl96 := S.2.2.2.2 (.fieldLink RX6 96 "MownMaze$Maze" "guests" "I") (by decide +kernel)
  have fl181 := S.2.2.2.2 (.fieldLink RX6 181 "MownMaze$Maze" "food" "[I") (by decide +kernel)
  have fl296 := S.2.2.2.2 (.fieldLink RX6 296 "MownMaze$Sheet" "made" "Z") (by decide +kernel)
  have fl300 := S.2.2.2.2 (.fieldLink RX6 300 "MownMaze$Sheet" "size" "I") (by decide +kernel)
  have fl305 := S.2.2.2.2 (.fieldLink RX6 305 "MownMaze$Maze" "pace" "[I") (by decide +kernel)
  have hB62 : ∀ (y0 : Int32) (H : Heap) (locs : List Loc) (ls : Array Slot), f_X6_count_b62 X y0 = some r → va_P E.1 vwCl (GW E X) H → va_S (GA E) s.heap H locs → lv_has ls 2 [(0, .ref (E.ad 0 0))] → W p l e rm_X6_count s m ([.ref (E.ad 0 0), .int a1] : List Value).toArray below meth c H locs 0 0 Z (F0 m 62 ls [.int y0]) := by
    intro y0 H locs ls hf hP hS hl
    unfold f_X6_count_b62 at hf
    refine lv_aload_n hx hb dX6_count_62 rfl (lv_at hl 0 rfl) ?_
    refine g_get (v := .ref (E.ad 0 1)) S hB hinX6 hP m_0_0 rfl rfl 6 (by decide) fl36 rfl rfl dX6_count_63 ?_
    refine lv_iconst (v := 1) hx hb dX6_count_66 (by decide) ?_
    refine g_zald (r := X 0 1) S hB hP m_0_1 rfl (by unfold vp_in; decide) dX6_count_67 ?_
    refine W.eq (g2 := F0 m 68 ls [.int ((X 0) 1 1), .int y0]) rfl ?_
    refine lv_if_eq (tgt := 75) hx hb dX6_count_68 (by decide) (fun c11 => ?_) (fun c11 => ?_)
    · have hf := if_t c11 hf
      refine lv_iconst (v := 0) hx hb dX6_count_75 (by decide) ?_
      refine lv_iadd hx hb dX6_count_76 ?_
      exact fin dX6_count_77 (s0 hf) rfl hP hS
    · have hf := if_f c11 hf
      refine lv_iconst (v := 1) hx hb dX6_count_71 (by decide) ?_
      refine lv_goto (tgt := 76) hx hb dX6_count_72 (by decide) ?_
      refine lv_iadd hx hb dX6_count_76 ?_
      exact fin dX6_count_77 (s0 hf) rfl hP hS
  unfold f_X6_count at hf
  refine lv_iload_n hx hb dX6_count_0 rfl (lv_at hl 1 rfl) ?_
  by_cases c1 : a1 = (0 : Int32)
  · have hf := if_t c1 hf
    refine lv_tableIn (off := 39) (tgt := 40) hx hb dX6_count_1 (by rw [c1]; decide) (by rw [c1]; decide) (by rw [c1]; rfl) (by decide) ?_
    refine lv_aload_n hx hb dX6_count_40 rfl (lv_at hl 0 rfl) ?_
    refine g_get (v := .ref (E.ad 2 0)) S hB hinX6 hP m_0_0 rfl rfl 8 (by decide) fl49 rfl rfl dX6_count_41 ?_
    refine g_get (v := .int ((X 2) 0 0)) S hB hinX4 hP m_2_0 rfl rfl 0 (by decide) fl90 rfl rfl dX6_count_44 ?_
    exact fin dX6_count_47 (s0 hf) rfl hP hS
  · have hf := if_f c1 hf
    by_cases c2 : a1 = (1 : Int32)
    · have hf := if_t c2 hf
      refine lv_tableIn (off := 47) (tgt := 48) hx hb dX6_count_1 (by rw [c2]; decide) (by rw [c2]; decide) (by rw [c2]; rfl) (by decide) ?_
      refine lv_aload_n hx hb dX6_count_48 rfl (lv_at hl 0 rfl) ?_
      refine g_get (v := .ref (E.ad 0 1)) S hB hinX6 hP m_0_0 rfl rfl 6 (by decide) fl36 rfl rfl dX6_count_49 ?_
      refine lv_iconst (v := 0) hx hb dX6_count_52 (by decide) ?_
      refine g_zald (r := X 0 1) S hB hP m_0_1 rfl (by unfold vp_in; decide) dX6_count_53 ?_
      refine W.eq (g2 := F0 m 54 ls [.int ((X 0) 1 0)]) rfl ?_
      refine lv_if_eq (tgt := 61) hx hb dX6_count_54 (by decide) (fun c3 => ?_) (fun c3 => ?_)
      · have hf := if_t c3 hf
        refine lv_iconst (v := 0) hx hb dX6_count_61 (by decide) ?_
        exact hB62 (0 : Int32) _ _ _ hf hP hS (lv_sub hl [0] rfl)
      · have hf := if_f c3 hf
        refine lv_iconst (v := 1) hx hb dX6_count_57 (by decide) ?_
        refine lv_goto (tgt := 62) hx hb dX6_count_58 (by decide) ?_
        exact hB62 (1 : Int32) _ _ _ hf hP hS (lv_sub hl [0] rfl)
    · have hf := if_f c2 hf
      by_cases c4 : a1 = (2 : Int32)
      · have hf := if_t c4 hf
        refine lv_tableIn (off := 77) (tgt := 78) hx hb dX6_count_1 (by rw [c4]; decide) (by rw [c4]; decide) (by rw [c4]; rfl) (by decide) ?_
        refine lv_aload_n hx hb dX6_count_78 rfl (lv_at hl 0 rfl) ?_
        refine g_get (v := .ref (E.ad 1 0)) S hB hinX6 hP m_0_0 rfl rfl 0 (by decide) fl10 rfl rfl dX6_count_79 ?_
        refine g_get (v := .int ((X 1) 0 1)) S hB hinX3 hP m_1_0 rfl rfl 1 (by decide) fl72 rfl rfl dX6_count_82 ?_
        exact fin dX6_count_85 (s0 hf) rfl hP hS
      · have hf := if_f c4 hf
        by_cases c5 : a1 = (3 : Int32)
        · have hf := if_t c5 hf
          refine lv_tableIn (off := 85) (tgt := 86) hx hb dX6_count_1 (by rw [c5]; decide) (by rw [c5]; decide) (by rw [c5]; rfl) (by decide) ?_
          refine lv_aload_n hx hb dX6_count_86 rfl (lv_at hl 0 rfl) ?_
          refine g_get (v := .ref (E.ad 0 4)) S hB hinX6 hP m_0_0 rfl rfl 7 (by decide) fl42 rfl rfl dX6_count_87 ?_
          refine lv_iconst (v := 0) hx hb dX6_count_90 (by decide) ?_
          refine g_aald (f := fun j => E.ad (18 + j) 0) S hB hP m_0_4 4 rfl rfl (by unfold vp_in; decide) dX6_count_91 ?_
          refine W.eq (g2 := F0 m 92 ls [.ref (E.ad 18 0)]) rfl ?_
          refine g_get (v := .int ((X 18) 0 0)) S hB hinX5 hP m_18_0 rfl rfl 0 (by decide) fl296 rfl rfl dX6_count_92 ?_
          refine lv_if_eq (tgt := 110) hx hb dX6_count_95 (by decide) (fun c6 => ?_) (fun c6 => ?_)
          · have hf := if_t c6 hf
            refine lv_bipush (v := -4) hx hb dX6_count_110 (by decide) ?_
            exact fin dX6_count_112 (s0 hf) rfl hP hS
          · have hf := if_f c6 hf
            refine lv_aload_n hx hb dX6_count_98 rfl (lv_at hl 0 rfl) ?_
            refine g_get (v := .ref (E.ad 0 4)) S hB hinX6 hP m_0_0 rfl rfl 7 (by decide) fl42 rfl rfl dX6_count_99 ?_
            refine lv_iconst (v := 0) hx hb dX6_count_102 (by decide) ?_
            refine g_aald (f := fun j => E.ad (18 + j) 0) S hB hP m_0_4 4 rfl rfl (by unfold vp_in; decide) dX6_count_103 ?_
            refine W.eq (g2 := F0 m 104 ls [.ref (E.ad 18 0)]) rfl ?_
            refine g_get (v := .int ((X 18) 0 2)) S hB hinX5 hP m_18_0 rfl rfl 2 (by decide) fl300 rfl rfl dX6_count_104 ?_
            refine lv_goto (tgt := 112) hx hb dX6_count_107 (by decide) ?_
            exact fin dX6_count_112 (s0 hf) rfl hP hS
        · have hf := if_f c5 hf
          by_cases c7 : a1 = (4 : Int32)
          · have hf := if_t c7 hf
            refine lv_tableIn (off := 112) (tgt := 113) hx hb dX6_count_1 (by rw [c7]; decide) (by rw [c7]; decide) (by rw [c7]; rfl) (by decide) ?_
            refine lv_aload_n hx hb dX6_count_113 rfl (lv_at hl 0 rfl) ?_
            refine g_get (v := .ref (E.ad 4 0)) S hB hinX6 hP m_0_0 rfl rfl 1 (by decide) fl19 rfl rfl dX6_count_114 ?_
            refine g_get (v := .ref (E.ad 4 5)) S hB hinX1 hP m_4_0 rfl rfl 10 (by decide) fl181 rfl rfl dX6_count_117 ?_
            refine lv_aload_n hx hb dX6_count_120 rfl (lv_at hl 0 rfl) ?_
            refine g_get (v := .ref (E.ad 4 0)) S hB hinX6 hP m_0_0 rfl rfl 1 (by decide) fl19 rfl rfl dX6_count_121 ?_
            refine g_get (v := .int ((X 4) 0 8)) S hB hinX1 hP m_4_0 rfl rfl 8 (by decide) fl96 rfl rfl dX6_count_124 ?_
            obtain ⟨q8, hq8, hf⟩ := bind_some hf
            refine callS_i (As := [.ref (E.ad 4 5), .int ((X 4) 0 8)]) (rest := []) S hB hP hS (K_X6_sumOf l hE X m_4_5 (fun _ => rfl) ((X 4) 0 8) hq8) (va_cwS 2 S.2.2.2.2 gX6_count_X6_sumOf rfl rfl rfl (by decide +kernel) ⟨Nat.le_of_ble_eq_true rfl, Nat.le_of_ble_eq_true rfl⟩) rfl hl.1 rfl (Nat.le_of_ble_eq_true rfl) dX6_count_127 ⟨Nat.zero_le _, Nat.zero_le _⟩ (fun H locs hP hS => ?_)
            exact fin dX6_count_130 (s0 hf) rfl hP hS
          · have hf := if_f c7 hf
            by_cases c9 : a1 = (5 : Int32)
            · have hf := if_t c9 hf
              refine lv_tableIn (off := 130) (tgt := 131) hx hb dX6_count_1 (by rw [c9]; decide) (by rw [c9]; decide) (by rw [c9]; rfl) (by decide) ?_
              refine lv_aload_n hx hb dX6_count_131 rfl (lv_at hl 0 rfl) ?_
              refine g_get (v := .ref (E.ad 4 0)) S hB hinX6 hP m_0_0 rfl rfl 1 (by decide) fl19 rfl rfl dX6_count_132 ?_
              refine g_get (v := .ref (E.ad 4 3)) S hB hinX1 hP m_4_0 rfl rfl 7 (by decide) fl305 rfl rfl dX6_count_135 ?_
              refine lv_aload_n hx hb dX6_count_138 rfl (lv_at hl 0 rfl) ?_
              refine g_get (v := .ref (E.ad 4 0)) S hB hinX6 hP m_0_0 rfl rfl 1 (by decide) fl19 rfl rfl dX6_count_139 ?_
              refine g_get (v := .int ((X 4) 0 4)) S hB hinX1 hP m_4_0 rfl rfl 4 (by decide) fl93 rfl rfl dX6_count_142 ?_
              obtain ⟨q10, hq10, hf⟩ := bind_some hf
              refine callS_i (As := [.ref (E.ad 4 3), .int ((X 4) 0 4)]) (rest := []) S hB hP hS (K_X6_sumOf l hE X m_4_3 (fun _ => rfl) ((X 4) 0 4) hq10) (va_cwS 2 S.2.2.2.2 gX6_count_X6_sumOf rfl rfl rfl (by decide +kernel) ⟨Nat.le_of_ble_eq_true rfl, Nat.le_of_ble_eq_true rfl⟩) rfl hl.1 rfl (Nat.le_of_ble_eq_true rfl) dX6_count_145 ⟨Nat.zero_le _, Nat.zero_le _⟩ (fun H locs hP hS => ?_)
              exact fin dX6_count_148 (s0 hf) rfl hP hS
            · have hf := if_f c9 hf
              have tc1 := lv_neT c1 (a := 0) (by decide)
              have tc2 := lv_neT c2 (a := 1) (by decide)
              have tc4 := lv_neT c4 (a := 2) (by decide)
              have tc5 := lv_neT c5 (a := 3) (by decide)
              have tc7 := lv_neT c7 (a := 4) (by decide)
              have tc9 := lv_neT c9 (a := 5) (by decide)
              refine lv_tableOut (tgt := 149) hx hb dX6_count_1 (by omega) (by decide) ?_
              refine lv_iconst (v := -1) hx hb dX6_count_149 (by decide) ?_
              exact fin dX6_count_150 (s0 hf) rfl hP hS
