/-! X6_runs -/
abbrev rm_X6_runs : Room := { frames := 4, cells := 0, slots := 0, locals := 93 }
set_option maxHeartbeats 4000000 in
set_option maxRecDepth 100000 in
theorem K_X6_runs (l : Launch) {E : En} (hE : Inj E) (X : Wd) (a1 : Int32) (a2 : Int32) {r : Int32} {X' : Wd} (hf : f_X6_runs X a1 a2 = some (r, X')) : Cti l E yX6_runs wsX6_runs rm_X6_runs [.ref (E.ad 0 0), .int a1, .int a2] X r X' := by
  refine meet_i (cc := cX6_runs) (maxL := 3) (own := RX6) (by decide) rfl rfl (Nat.le_of_ble_eq_true rfl) ?_
  intro p e s m below meth c Z S hB fin hP hS ls hl
  have hx := S.1
  have hb := S.2.1
  have hl : lv_has ls 3 [(0, .ref (E.ad 0 0)), (1, .int a1), (2, .int a2)] := hl
  have hinX1 : ∀ w ∈ u_ws RX1 TX1 12, w ∈ wsX6_runs := by decide +kernel
  have hinX6 : ∀ w ∈ u_ws RX6 TX6 12, w ∈ wsX6_runs := by decide +kernel
  have fl19 := S.2.2.2.2 (.fieldLink RX6 19 "MownMaze" "maze" "LMownMaze$Maze;") (by decide +kernel)
  have fl23 := S.2.2.2.2 (.fieldLink RX6 23 "MownMaze" "trial" "LMownMaze$Maze;") (by decide +kernel)
  have fl105 := S.2.2.2.2 (.fieldLink RX6 105 "MownMaze$Maze" "hedges" "I") (by decide +kernel)
  have fl117 := S.2.2.2.2 (.fieldLink RX6 117 "MownMaze$Maze" "last" "I") (by decide +kernel)
  unfold f_X6_runs at hf
  refine lv_iload_n hx hb dX6_runs_0 rfl (lv_at hl 1 rfl) ?_
  obtain ⟨q1, hq1, hf⟩ := bind_some hf
  refine callS_i (As := [.int a1]) (rest := []) S hB hP hS (K_X6_isAhead l hE X a1 hq1) (va_cwS 1 S.2.2.2.2 gX6_runs_X6_isAhead rfl rfl rfl (by decide +kernel) ⟨Nat.le_of_ble_eq_true rfl, Nat.le_of_ble_eq_true rfl⟩) rfl hl.1 rfl (Nat.le_of_ble_eq_true rfl) dX6_runs_1 ⟨Nat.zero_le _, Nat.zero_le _⟩ (fun H locs hP hS => ?_)
  refine lv_if_eq (tgt := 16) hx hb dX6_runs_4 (by decide) (fun c2 => ?_) (fun c2 => ?_)
  · have hf := if_t c2 hf
    refine lv_iconst (v := -1) hx hb dX6_runs_16 (by decide) ?_
    exact fin dX6_runs_17 (s1 hf) (s2 hf) hP hS
  · have hf := if_f c2 hf
    refine lv_iload_n hx hb dX6_runs_7 rfl (lv_at hl 2 rfl) ?_
    refine lv_if_lt (tgt := 16) hx hb dX6_runs_8 (by decide) (fun c3 => ?_) (fun c3 => ?_)
    · have hf := if_t c3 hf
      refine lv_iconst (v := -1) hx hb dX6_runs_16 (by decide) ?_
      exact fin dX6_runs_17 (s1 hf) (s2 hf) hP hS
    · have hf := if_f c3 hf
      refine lv_iload_n hx hb dX6_runs_11 rfl (lv_at hl 2 rfl) ?_
      refine lv_iconst (v := 3) hx hb dX6_runs_12 (by decide) ?_
      refine lv_icmp_le (tgt := 18) hx hb dX6_runs_13 (by decide) (fun c4 => ?_) (fun c4 => ?_)
      · have hf := if_t c4 hf
        refine lv_aload_n hx hb dX6_runs_18 rfl (lv_at hl 0 rfl) ?_
        refine g_get (v := .ref (E.ad 5 0)) S hB hinX6 hP m_0_0 rfl rfl 2 (by decide) fl23 rfl rfl dX6_runs_19 ?_
        refine lv_aload_n hx hb dX6_runs_22 rfl (lv_at hl 0 rfl) ?_
        refine g_get (v := .ref (E.ad 4 0)) S hB hinX6 hP m_0_0 rfl rfl 1 (by decide) fl19 rfl rfl dX6_runs_23 ?_
        obtain ⟨q5, hq5, hf⟩ := bind_some hf
        refine callV_v (As := [.ref (E.ad 4 0)]) (rest := []) S hB hP hS (C := RX1) (b := E.ad 5 0) (g_recv (o := 5) (d := 0) hB hP m_5_0 rfl rfl) (KW_X1_become l hE X (by decide) (by decide) (by decide) (by decide) (by decide) hq5) (cwV 1 S.2.2.2.2 gX6_runs_X1_become rfl rfl rfl (by decide +kernel) ⟨Nat.le_of_ble_eq_true rfl, Nat.le_of_ble_eq_true rfl⟩) rfl hl.1 rfl (Nat.le_of_ble_eq_true rfl) dX6_runs_26 ⟨Nat.zero_le _, Nat.zero_le _⟩ (fun H locs hP hS => ?_)
        refine lv_aload_n hx hb dX6_runs_29 rfl (lv_at hl 0 rfl) ?_
        refine g_get (v := .ref (E.ad 5 0)) S hB hinX6 hP m_0_0 rfl rfl 2 (by decide) fl23 rfl rfl dX6_runs_30 ?_
        refine lv_iload_n hx hb dX6_runs_33 rfl (lv_at hl 1 rfl) ?_
        obtain ⟨q6, hq6, hf⟩ := bind_some hf
        refine callV_v (As := [.int a1]) (rest := []) S hB hP hS (C := RX1) (b := E.ad 5 0) (g_recv (o := 5) (d := 0) hB hP m_5_0 rfl rfl) (KW_X1_passDays l hE (va_up X 5 q5) (by decide) (by decide) a1 hq6) (cwV 1 S.2.2.2.2 gX6_runs_X1_passDays rfl rfl rfl (by decide +kernel) ⟨Nat.le_of_ble_eq_true rfl, Nat.le_of_ble_eq_true rfl⟩) rfl hl.1 rfl (Nat.le_of_ble_eq_true rfl) dX6_runs_34 ⟨Nat.zero_le _, Nat.zero_le _⟩ (fun H locs hP hS => ?_)
        refine lv_iload_n hx hb dX6_runs_37 rfl (lv_at hl 2 rfl) ?_
        by_cases c7 : a2 = (0 : Int32)
        · have hf := if_t c7 hf
          refine lv_tableIn (off := 26) (tgt := 64) hx hb dX6_runs_38 (by rw [c7]; decide) (by rw [c7]; decide) (by rw [c7]; rfl) (by decide) ?_
          refine lv_aload_n hx hb dX6_runs_64 rfl (lv_at hl 0 rfl) ?_
          refine g_get (v := .ref (E.ad 5 0)) S hB hinX6 hP m_0_0 rfl rfl 2 (by decide) fl23 rfl rfl dX6_runs_65 ?_
          obtain ⟨q8, hq8, hf⟩ := bind_some hf
          refine callV_i (As := []) (rest := []) S hB hP hS (C := RX1) (b := E.ad 5 0) (g_recv (o := 5) (d := 0) hB hP m_5_0 rfl rfl) (KW_X1_outs l hE (va_up (va_up X 5 q5) 5 q6) (by decide) (by decide) hq8) (cwV 0 S.2.2.2.2 gX6_runs_X1_outs rfl rfl rfl (by decide +kernel) ⟨Nat.le_of_ble_eq_true rfl, Nat.le_of_ble_eq_true rfl⟩) rfl hl.1 rfl (Nat.le_of_ble_eq_true rfl) dX6_runs_68 ⟨Nat.zero_le _, Nat.zero_le _⟩ (fun H locs hP hS => ?_)
          exact fin dX6_runs_71 (s1 hf) (s2 hf) hP hS
        · have hf := if_f c7 hf
          by_cases c9 : a2 = (1 : Int32)
          · have hf := if_t c9 hf
            refine lv_tableIn (off := 34) (tgt := 72) hx hb dX6_runs_38 (by rw [c9]; decide) (by rw [c9]; decide) (by rw [c9]; rfl) (by decide) ?_
            refine lv_aload_n hx hb dX6_runs_72 rfl (lv_at hl 0 rfl) ?_
            refine g_get (v := .ref (E.ad 5 0)) S hB hinX6 hP m_0_0 rfl rfl 2 (by decide) fl23 rfl rfl dX6_runs_73 ?_
            refine lv_iconst (v := 2) hx hb dX6_runs_76 (by decide) ?_
            obtain ⟨q10, hq10, hf⟩ := bind_some hf
            refine callV_i (As := [.int (2 : Int32)]) (rest := []) S hB hP hS (C := RX1) (b := E.ad 5 0) (g_recv (o := 5) (d := 0) hB hP m_5_0 rfl rfl) (KW_X1_whoIs l hE (va_up (va_up X 5 q5) 5 q6) (by decide) (by decide) (2 : Int32) hq10) (cwV 1 S.2.2.2.2 gX6_runs_X1_whoIs rfl rfl rfl (by decide +kernel) ⟨Nat.le_of_ble_eq_true rfl, Nat.le_of_ble_eq_true rfl⟩) rfl hl.1 rfl (Nat.le_of_ble_eq_true rfl) dX6_runs_77 ⟨Nat.zero_le _, Nat.zero_le _⟩ (fun H locs hP hS => ?_)
            exact fin dX6_runs_80 (s1 hf) (s2 hf) hP hS
          · have hf := if_f c9 hf
            by_cases c11 : a2 = (2 : Int32)
            · have hf := if_t c11 hf
              refine lv_tableIn (off := 43) (tgt := 81) hx hb dX6_runs_38 (by rw [c11]; decide) (by rw [c11]; decide) (by rw [c11]; rfl) (by decide) ?_
              refine lv_aload_n hx hb dX6_runs_81 rfl (lv_at hl 0 rfl) ?_
              refine g_get (v := .ref (E.ad 5 0)) S hB hinX6 hP m_0_0 rfl rfl 2 (by decide) fl23 rfl rfl dX6_runs_82 ?_
              refine g_get (v := .int (q6 0 0)) S hB hinX1 hP m_5_0 rfl rfl 0 (by decide) fl105 rfl rfl dX6_runs_85 ?_
              obtain ⟨q12, hq12, hf⟩ := bind_some hf
              refine callS_i (As := [.int (q6 0 0)]) (rest := []) S hB hP hS (K_J6_bitCount_0f7a4 l hE (va_up (va_up X 5 q5) 5 q6) (q6 0 0) hq12) (va_cwS 1 S.2.2.2.2 gX6_runs_J6_bitCount_0f7a4 rfl rfl rfl (by decide +kernel) ⟨Nat.le_of_ble_eq_true rfl, Nat.le_of_ble_eq_true rfl⟩) rfl hl.1 rfl (Nat.le_of_ble_eq_true rfl) dX6_runs_88 ⟨Nat.zero_le _, Nat.zero_le _⟩ (fun H locs hP hS => ?_)
              exact fin dX6_runs_91 (s1 hf) (s2 hf) hP hS
            · have hf := if_f c11 hf
              have tc7 := lv_neT c7 (a := 0) (by decide)
              have tc9 := lv_neT c9 (a := 1) (by decide)
              have tc11 := lv_neT c11 (a := 2) (by decide)
              refine lv_tableOut (tgt := 92) hx hb dX6_runs_38 (by omega) (by decide) ?_
              refine lv_aload_n hx hb dX6_runs_92 rfl (lv_at hl 0 rfl) ?_
              refine g_get (v := .ref (E.ad 5 0)) S hB hinX6 hP m_0_0 rfl rfl 2 (by decide) fl23 rfl rfl dX6_runs_93 ?_
              refine g_get (v := .int (q6 0 2)) S hB hinX1 hP m_5_0 rfl rfl 2 (by decide) fl117 rfl rfl dX6_runs_96 ?_
              exact fin dX6_runs_99 (s1 hf) (s2 hf) hP hS
      · have hf := if_f c4 hf
        refine lv_iconst (v := -1) hx hb dX6_runs_16 (by decide) ?_
        exact fin dX6_runs_17 (s1 hf) (s2 hf) hP hS
/-! X6_ahead -/
abbrev rm_X6_ahead : Room := { frames := 4, cells := 0, slots := 0, locals := 93 }
set_option maxHeartbeats 4000000 in
set_option maxRecDepth 100000 in
theorem K_X6_ahead (l : Launch) {E : En} (hE : Inj E) (X : Wd) (a1 : Int32) (a2 : Int32) (a3 : Int32) {r : Int32} {X' : Wd} (hf : f_X6_ahead X a1 a2 a3 = some (r, X')) : Cti l E yX6_ahead wsX6_ahead rm_X6_ahead [.ref (E.ad 0 0), .int a1, .int a2, .int a3] X r X' := by
  refine meet_i (cc := cX6_ahead) (maxL := 4) (own := RX6) (by decide) rfl rfl (Nat.le_of_ble_eq_true rfl) ?_
  intro p e s m below meth c Z S hB fin hP hS ls hl
  have hx := S.1
  have hb := S.2.1
  have hl : lv_has ls 4 [(0, .ref (E.ad 0 0)), (1, .int a1), (2, .int a2), (3, .int a3)] := hl
  have hinX6 : ∀ w ∈ u_ws RX6 TX6 12, w ∈ wsX6_ahead := by decide +kernel
  have fl19 := S.2.2.2.2 (.fieldLink RX6 19 "MownMaze" "maze" "LMownMaze$Maze;") (by decide +kernel)
  have fl23 := S.2.2.2.2 (.fieldLink RX6 23 "MownMaze" "trial" "LMownMaze$Maze;") (by decide +kernel)
  unfold f_X6_ahead at hf
  refine lv_aload_n hx hb dX6_ahead_0 rfl (lv_at hl 0 rfl) ?_
  refine lv_iload_n hx hb dX6_ahead_1 rfl (lv_at hl 1 rfl) ?_
  obtain ⟨q1, hq1, hf⟩ := bind_some hf
  refine callV_i (As := [.int a1]) (rest := []) S hB hP hS (C := RX6) (b := E.ad 0 0) (g_recv (o := 0) (d := 0) hB hP m_0_0 rfl rfl) (K_X6_isGuest l hE X a1 hq1) (cwV 1 S.2.2.2.2 gX6_ahead_X6_isGuest rfl rfl rfl (by decide +kernel) ⟨Nat.le_of_ble_eq_true rfl, Nat.le_of_ble_eq_true rfl⟩) rfl hl.1 rfl (Nat.le_of_ble_eq_true rfl) dX6_ahead_2 ⟨Nat.zero_le _, Nat.zero_le _⟩ (fun H locs hP hS => ?_)
  refine lv_if_eq (tgt := 24) hx hb dX6_ahead_5 (by decide) (fun c2 => ?_) (fun c2 => ?_)
  · have hf := if_t c2 hf
    refine lv_iconst (v := -1) hx hb dX6_ahead_24 (by decide) ?_
    exact fin dX6_ahead_25 (s1 hf) (s2 hf) hP hS
  · have hf := if_f c2 hf
    refine lv_iload_n hx hb dX6_ahead_8 rfl (lv_at hl 2 rfl) ?_
    obtain ⟨q3, hq3, hf⟩ := bind_some hf
    refine callS_i (As := [.int a2]) (rest := []) S hB hP hS (K_X6_isAhead l hE X a2 hq3) (va_cwS 1 S.2.2.2.2 gX6_ahead_X6_isAhead rfl rfl rfl (by decide +kernel) ⟨Nat.le_of_ble_eq_true rfl, Nat.le_of_ble_eq_true rfl⟩) rfl hl.1 rfl (Nat.le_of_ble_eq_true rfl) dX6_ahead_9 ⟨Nat.zero_le _, Nat.zero_le _⟩ (fun H locs hP hS => ?_)
    refine lv_if_eq (tgt := 24) hx hb dX6_ahead_12 (by decide) (fun c4 => ?_) (fun c4 => ?_)
    · have hf := if_t c4 hf
      refine lv_iconst (v := -1) hx hb dX6_ahead_24 (by decide) ?_
      exact fin dX6_ahead_25 (s1 hf) (s2 hf) hP hS
    · have hf := if_f c4 hf
      refine lv_iload_n hx hb dX6_ahead_15 rfl (lv_at hl 3 rfl) ?_
      refine lv_if_lt (tgt := 24) hx hb dX6_ahead_16 (by decide) (fun c5 => ?_) (fun c5 => ?_)
      · have hf := if_t c5 hf
        refine lv_iconst (v := -1) hx hb dX6_ahead_24 (by decide) ?_
        exact fin dX6_ahead_25 (s1 hf) (s2 hf) hP hS
      · have hf := if_f c5 hf
        refine lv_iload_n hx hb dX6_ahead_19 rfl (lv_at hl 3 rfl) ?_
        refine lv_iconst (v := 2) hx hb dX6_ahead_20 (by decide) ?_
        refine lv_icmp_le (tgt := 26) hx hb dX6_ahead_21 (by decide) (fun c6 => ?_) (fun c6 => ?_)
        · have hf := if_t c6 hf
          refine lv_aload_n hx hb dX6_ahead_26 rfl (lv_at hl 0 rfl) ?_
          refine g_get (v := .ref (E.ad 5 0)) S hB hinX6 hP m_0_0 rfl rfl 2 (by decide) fl23 rfl rfl dX6_ahead_27 ?_
          refine lv_aload_n hx hb dX6_ahead_30 rfl (lv_at hl 0 rfl) ?_
          refine g_get (v := .ref (E.ad 4 0)) S hB hinX6 hP m_0_0 rfl rfl 1 (by decide) fl19 rfl rfl dX6_ahead_31 ?_
          obtain ⟨q7, hq7, hf⟩ := bind_some hf
          refine callV_v (As := [.ref (E.ad 4 0)]) (rest := []) S hB hP hS (C := RX1) (b := E.ad 5 0) (g_recv (o := 5) (d := 0) hB hP m_5_0 rfl rfl) (KW_X1_become l hE X (by decide) (by decide) (by decide) (by decide) (by decide) hq7) (cwV 1 S.2.2.2.2 gX6_ahead_X1_become rfl rfl rfl (by decide +kernel) ⟨Nat.le_of_ble_eq_true rfl, Nat.le_of_ble_eq_true rfl⟩) rfl hl.1 rfl (Nat.le_of_ble_eq_true rfl) dX6_ahead_34 ⟨Nat.zero_le _, Nat.zero_le _⟩ (fun H locs hP hS => ?_)
          refine lv_aload_n hx hb dX6_ahead_37 rfl (lv_at hl 0 rfl) ?_
          refine g_get (v := .ref (E.ad 5 0)) S hB hinX6 hP m_0_0 rfl rfl 2 (by decide) fl23 rfl rfl dX6_ahead_38 ?_
          refine lv_iload_n hx hb dX6_ahead_41 rfl (lv_at hl 2 rfl) ?_
          obtain ⟨q8, hq8, hf⟩ := bind_some hf
          refine callV_v (As := [.int a2]) (rest := []) S hB hP hS (C := RX1) (b := E.ad 5 0) (g_recv (o := 5) (d := 0) hB hP m_5_0 rfl rfl) (KW_X1_passDays l hE (va_up X 5 q7) (by decide) (by decide) a2 hq8) (cwV 1 S.2.2.2.2 gX6_ahead_X1_passDays rfl rfl rfl (by decide +kernel) ⟨Nat.le_of_ble_eq_true rfl, Nat.le_of_ble_eq_true rfl⟩) rfl hl.1 rfl (Nat.le_of_ble_eq_true rfl) dX6_ahead_42 ⟨Nat.zero_le _, Nat.zero_le _⟩ (fun H locs hP hS => ?_)
          refine lv_aload_n hx hb dX6_ahead_45 rfl (lv_at hl 0 rfl) ?_
          refine g_get (v := .ref (E.ad 5 0)) S hB hinX6 hP m_0_0 rfl rfl 2 (by decide) fl23 rfl rfl dX6_ahead_46 ?_
          refine lv_iload_n hx hb dX6_ahead_49 rfl (lv_at hl 3 rfl) ?_
          obtain ⟨q9, hq9, hf⟩ := bind_some hf
          refine callV_r (As := [.int a3]) (rest := []) S hB hP hS (C := RX1) (b := E.ad 5 0) (g_recv (o := 5) (d := 0) hB hP m_5_0 rfl rfl) (KW_X1_lot l hE (va_up (va_up X 5 q7) 5 q8) (by decide) (by decide) a3 hq9) (cwV 1 S.2.2.2.2 gX6_ahead_X1_lot rfl rfl rfl (by decide +kernel) ⟨Nat.le_of_ble_eq_true rfl, Nat.le_of_ble_eq_true rfl⟩) rfl hl.1 rfl (Nat.le_of_ble_eq_true rfl) dX6_ahead_50 ⟨Nat.zero_le _, Nat.zero_le _⟩ (fun H locs hP hS => ?_)
          have hv10 := rng_X1_lot hq9
          refine lv_iload_n hx hb dX6_ahead_53 rfl (lv_at hl 1 rfl) ?_
          obtain ⟨hv11, hf⟩ := ck_some hf
          refine g_iald (r := (va_up (va_up X 5 q7) 5 q8) 5 q9) S hB hP (mem_mz (by decide) (by decide) (Nat.lt_of_le_of_lt hv10.2 (by decide))) ((cell_ma E (by decide) (by decide) (Nat.ne_of_gt hv10.1)) _) hv11 dX6_ahead_54 ?_
          refine W.eq (g2 := F0 m 55 ls [.int (q8 q9 a1.toNatClampNeg)]) rfl ?_
          exact fin dX6_ahead_55 (s1 hf) (s2 hf) hP hS
        · have hf := if_f c6 hf
          refine lv_iconst (v := -1) hx hb dX6_ahead_24 (by decide) ?_
          exact fin dX6_ahead_25 (s1 hf) (s2 hf) hP hS
/-! X6_stands -/
abbrev rm_X6_stands : Room := { frames := 4, cells := 0, slots := 0, locals := 93 }
set_option maxHeartbeats 4000000 in
set_option maxRecDepth 100000 in
theorem K_X6_stands (l : Launch) {E : En} (hE : Inj E) (X : Wd) (a1 : Int32) (a2 : Int32) {r : Int32} {X' : Wd} (hf : f_X6_stands X a1 a2 = some (r, X')) : Cti l E yX6_stands wsX6_stands rm_X6_stands [.ref (E.ad 0 0), .int a1, .int a2] X r X' := by
  refine meet_i (cc := cX6_stands) (maxL := 3) (own := RX6) (by decide) rfl rfl (Nat.le_of_ble_eq_true rfl) ?_
  intro p e s m below meth c Z S hB fin hP hS ls hl
  have hx := S.1
  have hb := S.2.1
  have hl : lv_has ls 3 [(0, .ref (E.ad 0 0)), (1, .int a1), (2, .int a2)] := hl
  have hinX6 : ∀ w ∈ u_ws RX6 TX6 12, w ∈ wsX6_stands := by decide +kernel
  have fl19 := S.2.2.2.2 (.fieldLink RX6 19 "MownMaze" "maze" "LMownMaze$Maze;") (by decide +kernel)
  have fl23 := S.2.2.2.2 (.fieldLink RX6 23 "MownMaze" "trial" "LMownMaze$Maze;") (by decide +kernel)
  unfold f_X6_stands at hf
  refine lv_iload_n hx hb dX6_stands_0 rfl (lv_at hl 1 rfl) ?_
  obtain ⟨q1, hq1, hf⟩ := bind_some hf
  refine callS_i (As := [.int a1]) (rest := []) S hB hP hS (K_X6_isHedge l hE X a1 hq1) (va_cwS 1 S.2.2.2.2 gX6_stands_X6_isHedge rfl rfl rfl (by decide +kernel) ⟨Nat.le_of_ble_eq_true rfl, Nat.le_of_ble_eq_true rfl⟩) rfl hl.1 rfl (Nat.le_of_ble_eq_true rfl) dX6_stands_1 ⟨Nat.zero_le _, Nat.zero_le _⟩ (fun H locs hP hS => ?_)
  refine lv_if_eq (tgt := 14) hx hb dX6_stands_4 (by decide) (fun c2 => ?_) (fun c2 => ?_)
  · have hf := if_t c2 hf
    refine lv_iconst (v := -1) hx hb dX6_stands_14 (by decide) ?_
    exact fin dX6_stands_15 (s1 hf) (s2 hf) hP hS
  · have hf := if_f c2 hf
    refine lv_iload_n hx hb dX6_stands_7 rfl (lv_at hl 2 rfl) ?_
    obtain ⟨q3, hq3, hf⟩ := bind_some hf
    refine callS_i (As := [.int a2]) (rest := []) S hB hP hS (K_X6_isAhead l hE X a2 hq3) (va_cwS 1 S.2.2.2.2 gX6_stands_X6_isAhead rfl rfl rfl (by decide +kernel) ⟨Nat.le_of_ble_eq_true rfl, Nat.le_of_ble_eq_true rfl⟩) rfl hl.1 rfl (Nat.le_of_ble_eq_true rfl) dX6_stands_8 ⟨Nat.zero_le _, Nat.zero_le _⟩ (fun H locs hP hS => ?_)
    refine lv_if_ne (tgt := 16) hx hb dX6_stands_11 (by decide) (fun c4 => ?_) (fun c4 => ?_)
    · have hf := if_f c4 hf
      refine lv_aload_n hx hb dX6_stands_16 rfl (lv_at hl 0 rfl) ?_
      refine g_get (v := .ref (E.ad 5 0)) S hB hinX6 hP m_0_0 rfl rfl 2 (by decide) fl23 rfl rfl dX6_stands_17 ?_
      refine lv_aload_n hx hb dX6_stands_20 rfl (lv_at hl 0 rfl) ?_
      refine g_get (v := .ref (E.ad 4 0)) S hB hinX6 hP m_0_0 rfl rfl 1 (by decide) fl19 rfl rfl dX6_stands_21 ?_
      obtain ⟨q5, hq5, hf⟩ := bind_some hf
      refine callV_v (As := [.ref (E.ad 4 0)]) (rest := []) S hB hP hS (C := RX1) (b := E.ad 5 0) (g_recv (o := 5) (d := 0) hB hP m_5_0 rfl rfl) (KW_X1_become l hE X (by decide) (by decide) (by decide) (by decide) (by decide) hq5) (cwV 1 S.2.2.2.2 gX6_stands_X1_become rfl rfl rfl (by decide +kernel) ⟨Nat.le_of_ble_eq_true rfl, Nat.le_of_ble_eq_true rfl⟩) rfl hl.1 rfl (Nat.le_of_ble_eq_true rfl) dX6_stands_24 ⟨Nat.zero_le _, Nat.zero_le _⟩ (fun H locs hP hS => ?_)
      refine lv_aload_n hx hb dX6_stands_27 rfl (lv_at hl 0 rfl) ?_
      refine g_get (v := .ref (E.ad 5 0)) S hB hinX6 hP m_0_0 rfl rfl 2 (by decide) fl23 rfl rfl dX6_stands_28 ?_
      refine lv_iload_n hx hb dX6_stands_31 rfl (lv_at hl 2 rfl) ?_
      obtain ⟨q6, hq6, hf⟩ := bind_some hf
      refine callV_v (As := [.int a2]) (rest := []) S hB hP hS (C := RX1) (b := E.ad 5 0) (g_recv (o := 5) (d := 0) hB hP m_5_0 rfl rfl) (KW_X1_passDays l hE (va_up X 5 q5) (by decide) (by decide) a2 hq6) (cwV 1 S.2.2.2.2 gX6_stands_X1_passDays rfl rfl rfl (by decide +kernel) ⟨Nat.le_of_ble_eq_true rfl, Nat.le_of_ble_eq_true rfl⟩) rfl hl.1 rfl (Nat.le_of_ble_eq_true rfl) dX6_stands_32 ⟨Nat.zero_le _, Nat.zero_le _⟩ (fun H locs hP hS => ?_)
      refine lv_aload_n hx hb dX6_stands_35 rfl (lv_at hl 0 rfl) ?_
      refine g_get (v := .ref (E.ad 5 0)) S hB hinX6 hP m_0_0 rfl rfl 2 (by decide) fl23 rfl rfl dX6_stands_36 ?_
      refine lv_iload_n hx hb dX6_stands_39 rfl (lv_at hl 1 rfl) ?_
      obtain ⟨q7, hq7, hf⟩ := bind_some hf
      refine callV_i (As := [.int a1]) (rest := []) S hB hP hS (C := RX1) (b := E.ad 5 0) (g_recv (o := 5) (d := 0) hB hP m_5_0 rfl rfl) (KW_X1_standing l hE (va_up (va_up X 5 q5) 5 q6) (by decide) (by decide) a1 hq7) (cwV 1 S.2.2.2.2 gX6_stands_X1_standing rfl rfl rfl (by decide +kernel) ⟨Nat.le_of_ble_eq_true rfl, Nat.le_of_ble_eq_true rfl⟩) rfl hl.1 rfl (Nat.le_of_ble_eq_true rfl) dX6_stands_40 ⟨Nat.zero_le _, Nat.zero_le _⟩ (fun H locs hP hS => ?_)
      exact fin dX6_stands_43 (s1 hf) (s2 hf) hP hS
    · have hf := if_t c4 hf
      refine lv_iconst (v := -1) hx hb dX6_stands_14 (by decide) ?_
      exact fin dX6_stands_15 (s1 hf) (s2 hf) hP hS
/-! X6_daysTillOut -/
abbrev rm_X6_daysTillOut : Room := { frames := 4, cells := 0, slots := 0, locals := 93 }
set_option maxHeartbeats 4000000 in
set_option maxRecDepth 100000 in
theorem K_X6_daysTillOut (l : Launch) {E : En} (hE : Inj E) (X : Wd) (a1 : Int32) {r : Int32} {X' : Wd} (hf : f_X6_daysTillOut X a1 = some (r, X')) : Cti l E yX6_daysTillOut wsX6_daysTillOut rm_X6_daysTillOut [.ref (E.ad 0 0), .int a1] X r X' := by
  refine meet_i (cc := cX6_daysTillOut) (maxL := 3) (own := RX6) (by decide) rfl rfl (Nat.le_of_ble_eq_true rfl) ?_
  intro p e s m below meth c Z S hB fin hP hS ls hl
  have hx := S.1
  have hb := S.2.1
  have hl : lv_has ls 3 [(0, .ref (E.ad 0 0)), (1, .int a1)] := hl
  have hinX1 : ∀ w ∈ u_ws RX1 TX1 12, w ∈ wsX6_daysTillOut := by decide +kernel
  have hinX6 : ∀ w ∈ u_ws RX6 TX6 12, w ∈ wsX6_daysTillOut := by decide +kernel
  have fl23 := S.2.2.2.2 (.fieldLink RX6 23 "MownMaze" "trial" "LMownMaze$Maze;") (by decide +kernel)
  have fl178 := S.2.2.2.2 (.fieldLink RX6 178 "MownMaze$Maze" "fate" "[I") (by decide +kernel)
  have hL2 : ∀ (n2 : Nat) (X : Wd) (x1 : Int32) (x2 : Int32) (H : Heap) (locs : List Loc) (ls : Array Slot), f_X6_daysTillOut_l2 n2 X x1 x2 = some (r, X') → va_P E.1 vwCl (GW E X) H → va_S (GA E) s.heap H locs → lv_has ls 3 [(0, .ref (E.ad 0 0)), (1, .int x1), (2, .int x2)] → W p l e rm_X6_daysTillOut s m ([.ref (E.ad 0 0), .int a1] : List Value).toArray below meth c H locs 0 0 Z (F0 m 2 ls []) := by
    intro n2
    induction n2 with
    | zero =>
      intro X x1 x2 H locs ls hf
      cases (show (none : Option _) = some _ from hf)
    | succ n2 ih2 =>
      intro X x1 x2 H locs ls hf hP hS hl
      unfold f_X6_daysTillOut_l2 at hf
      refine lv_iload_n hx hb dX6_daysTillOut_2 rfl (lv_at hl 2 rfl) ?_
      refine lv_bipush (v := 60) hx hb dX6_daysTillOut_3 (by decide) ?_
      refine lv_icmp_gt (tgt := 37) hx hb dX6_daysTillOut_5 (by decide) (fun c1 => ?_) (fun c1 => ?_)
      · have hf := if_t c1 hf
        refine lv_bipush (v := -4) hx hb dX6_daysTillOut_37 (by decide) ?_
        exact fin dX6_daysTillOut_39 (s1 hf) (s2 hf) hP hS
      · have hf := if_f c1 hf
        refine lv_aload_n hx hb dX6_daysTillOut_8 rfl (lv_at hl 0 rfl) ?_
        refine g_get (v := .ref (E.ad 5 0)) S hB hinX6 hP m_0_0 rfl rfl 2 (by decide) fl23 rfl rfl dX6_daysTillOut_9 ?_
        refine g_get (v := .ref (E.ad 5 6)) S hB hinX1 hP m_5_0 rfl rfl 11 (by decide) fl178 rfl rfl dX6_daysTillOut_12 ?_
        refine lv_iload_n hx hb dX6_daysTillOut_15 rfl (lv_at hl 1 rfl) ?_
        obtain ⟨hv2, hf⟩ := ck_some hf
        refine g_iald (r := X 5 6) S hB hP m_5_6 rfl hv2 dX6_daysTillOut_16 ?_
        refine W.eq (g2 := F0 m 17 ls [.int ((X 5) 6 x1.toNatClampNeg)]) rfl ?_
        refine lv_iconst (v := 1) hx hb dX6_daysTillOut_17 (by decide) ?_
        refine lv_icmp_ne (tgt := 23) hx hb dX6_daysTillOut_18 (by decide) (fun c3 => ?_) (fun c3 => ?_)
        · have hf := if_f c3 hf
          refine lv_aload_n hx hb dX6_daysTillOut_23 rfl (lv_at hl 0 rfl) ?_
          refine g_get (v := .ref (E.ad 5 0)) S hB hinX6 hP m_0_0 rfl rfl 2 (by decide) fl23 rfl rfl dX6_daysTillOut_24 ?_
          refine lv_iconst (v := 1) hx hb dX6_daysTillOut_27 (by decide) ?_
          obtain ⟨q4, hq4, hf⟩ := bind_some hf
          refine callV_v (As := [.int (1 : Int32)]) (rest := []) S hB hP hS (C := RX1) (b := E.ad 5 0) (g_recv (o := 5) (d := 0) hB hP m_5_0 rfl rfl) (KW_X1_passDays l hE X (by decide) (by decide) (1 : Int32) hq4) (cwV 1 S.2.2.2.2 gX6_daysTillOut_X1_passDays rfl rfl rfl (by decide +kernel) ⟨Nat.le_of_ble_eq_true rfl, Nat.le_of_ble_eq_true rfl⟩) rfl hl.1 rfl (Nat.le_of_ble_eq_true rfl) dX6_daysTillOut_28 ⟨Nat.zero_le _, Nat.zero_le _⟩ (fun H locs hP hS => ?_)
          refine lv_iinc (v := x2 + (1 : Int32)) (lv' := [(2, .int (x2 + (1 : Int32))), (0, .ref (E.ad 0 0)), (1, .int x1)]) hx hb dX6_daysTillOut_31 hl (k := 2) rfl rfl (by decide) rfl (fun ls hl => ?_)
          refine lv_goto (tgt := 2) hx hb dX6_daysTillOut_34 (by decide) ?_
          exact ih2 (va_up X 5 q4) x1 (x2 + (1 : Int32)) _ _ _ hf hP hS (lv_sub hl [1, 2, 0] rfl)
        · have hf := if_t c3 hf
          refine lv_iload_n hx hb dX6_daysTillOut_21 rfl (lv_at hl 2 rfl) ?_
          exact fin dX6_daysTillOut_22 (s1 hf) (s2 hf) hP hS
  unfold f_X6_daysTillOut at hf
  refine lv_iconst (v := 0) hx hb dX6_daysTillOut_0 (by decide) ?_
  refine lv_istore_n (lv' := [(2, .int (0 : Int32)), (0, .ref (E.ad 0 0)), (1, .int a1)]) hx hb dX6_daysTillOut_1 rfl hl (by decide) rfl (fun ls hl => ?_)
  exact hL2 FUEL X a1 (0 : Int32) _ _ _ hf hP hS (lv_sub hl [1, 2, 0] rfl)
/-! X6_out -/
abbrev rm_X6_out : Room := { frames := 5, cells := 0, slots := 0, locals := 115 }
set_option maxHeartbeats 4000000 in
set_option maxRecDepth 100000 in
theorem K_X6_out (l : Launch) {E : En} (hE : Inj E) (X : Wd) (a1 : Int32) {r : Int32} {X' : Wd} (hf : f_X6_out X a1 = some (r, X')) : Cti l E yX6_out wsX6_out rm_X6_out [.ref (E.ad 0 0), .int a1] X r X' := by
  refine meet_i (cc := cX6_out) (maxL := 2) (own := RX6) (by decide) rfl rfl (Nat.le_of_ble_eq_true rfl) ?_
  intro p e s m below meth c Z S hB fin hP hS ls hl
  have hx := S.1
  have hb := S.2.1
  have hl : lv_has ls 2 [(0, .ref (E.ad 0 0)), (1, .int a1)] := hl
  have hinX6 : ∀ w ∈ u_ws RX6 TX6 12, w ∈ wsX6_out := by decide +kernel
  have fl19 := S.2.2.2.2 (.fieldLink RX6 19 "MownMaze" "maze" "LMownMaze$Maze;") (by decide +kernel)
  have fl23 := S.2.2.2.2 (.fieldLink RX6 23 "MownMaze" "trial" "LMownMaze$Maze;") (by decide +kernel)
  unfold f_X6_out at hf
  refine lv_aload_n hx hb dX6_out_0 rfl (lv_at hl 0 rfl) ?_
  refine lv_iload_n hx hb dX6_out_1 rfl (lv_at hl 1 rfl) ?_
  obtain ⟨q1, hq1, hf⟩ := bind_some hf
  refine callV_i (As := [.int a1]) (rest := []) S hB hP hS (C := RX6) (b := E.ad 0 0) (g_recv (o := 0) (d := 0) hB hP m_0_0 rfl rfl) (K_X6_isGuest l hE X a1 hq1) (cwV 1 S.2.2.2.2 gX6_out_X6_isGuest rfl rfl rfl (by decide +kernel) ⟨Nat.le_of_ble_eq_true rfl, Nat.le_of_ble_eq_true rfl⟩) rfl hl.1 rfl (Nat.le_of_ble_eq_true rfl) dX6_out_2 ⟨Nat.zero_le _, Nat.zero_le _⟩ (fun H locs hP hS => ?_)
  refine lv_if_ne (tgt := 10) hx hb dX6_out_5 (by decide) (fun c2 => ?_) (fun c2 => ?_)
  · have hf := if_f c2 hf
    refine lv_aload_n hx hb dX6_out_10 rfl (lv_at hl 0 rfl) ?_
    refine g_get (v := .ref (E.ad 5 0)) S hB hinX6 hP m_0_0 rfl rfl 2 (by decide) fl23 rfl rfl dX6_out_11 ?_
    refine lv_aload_n hx hb dX6_out_14 rfl (lv_at hl 0 rfl) ?_
    refine g_get (v := .ref (E.ad 4 0)) S hB hinX6 hP m_0_0 rfl rfl 1 (by decide) fl19 rfl rfl dX6_out_15 ?_
    obtain ⟨q3, hq3, hf⟩ := bind_some hf
    refine callV_v (As := [.ref (E.ad 4 0)]) (rest := []) S hB hP hS (C := RX1) (b := E.ad 5 0) (g_recv (o := 5) (d := 0) hB hP m_5_0 rfl rfl) (KW_X1_become l hE X (by decide) (by decide) (by decide) (by decide) (by decide) hq3) (cwV 1 S.2.2.2.2 gX6_out_X1_become rfl rfl rfl (by decide +kernel) ⟨Nat.le_of_ble_eq_true rfl, Nat.le_of_ble_eq_true rfl⟩) rfl hl.1 rfl (Nat.le_of_ble_eq_true rfl) dX6_out_18 ⟨Nat.zero_le _, Nat.zero_le _⟩ (fun H locs hP hS => ?_)
    refine lv_aload_n hx hb dX6_out_21 rfl (lv_at hl 0 rfl) ?_
    refine lv_iload_n hx hb dX6_out_22 rfl (lv_at hl 1 rfl) ?_
    obtain ⟨q4, hq4, hf⟩ := bind_some hf
    refine callV_i (As := [.int a1]) (rest := []) S hB hP hS (C := RX6) (b := E.ad 0 0) (g_recv (o := 0) (d := 0) hB hP m_0_0 rfl rfl) (K_X6_daysTillOut l hE (va_up X 5 q3) a1 hq4) (cwV 1 S.2.2.2.2 gX6_out_X6_daysTillOut rfl rfl rfl (by decide +kernel) ⟨Nat.le_of_ble_eq_true rfl, Nat.le_of_ble_eq_true rfl⟩) rfl hl.1 rfl (Nat.le_of_ble_eq_true rfl) dX6_out_23 ⟨Nat.zero_le _, Nat.zero_le _⟩ (fun H locs hP hS => ?_)
    exact fin dX6_out_26 (s1 hf) (s2 hf) hP hS
  · have hf := if_t c2 hf
    refine lv_iconst (v := -1) hx hb dX6_out_8 (by decide) ?_
    exact fin dX6_out_9 (s1 hf) (s2 hf) hP hS
/-! X6_again -/
abbrev rm_X6_again : Room := { frames := 4, cells := 0, slots := 0, locals := 85 }
set_option maxHeartbeats 4000000 in
set_option maxRecDepth 100000 in
theorem K_X6_again (l : Launch) {E : En} (hE : Inj E) (X : Wd) {r : Int32} {X' : Wd} (hf : f_X6_again X = some (r, X')) : Cti l E yX6_again wsX6_again rm_X6_again [.ref (E.ad 0 0)] X r X' := by
  refine meet_i (cc := cX6_again) (maxL := 2) (own := RX6) (by decide) rfl rfl (Nat.le_of_ble_eq_true rfl) ?_
  intro p e s m below meth c Z S hB fin hP hS ls hl
  have hx := S.1
  have hb := S.2.1
  have hl : lv_has ls 2 [(0, .ref (E.ad 0 0))] := hl
  have hinX6 : ∀ w ∈ u_ws RX6 TX6 12, w ∈ wsX6_again := by decide +kernel
  have fl19 := S.2.2.2.2 (.fieldLink RX6 19 "MownMaze" "maze" "LMownMaze$Maze;") (by decide +kernel)
  have fl23 := S.2.2.2.2 (.fieldLink RX6 23 "MownMaze" "trial" "LMownMaze$Maze;") (by decide +kernel)
  have hL13 : ∀ (n13 : Nat) (X : Wd) (x1 : Int32) (H : Heap) (locs : List Loc) (ls : Array Slot), f_X6_again_l13 n13 X x1 = some (r, X') → va_P E.1 vwCl (GW E X) H → va_S (GA E) s.heap H locs → lv_has ls 2 [(0, .ref (E.ad 0 0)), (1, .int x1)] → W p l e rm_X6_again s m ([.ref (E.ad 0 0)] : List Value).toArray below meth c H locs 0 0 Z (F0 m 13 ls []) := by
    intro n13
    induction n13 with
    | zero =>
      intro X x1 H locs ls hf
      cases (show (none : Option _) = some _ from hf)
    | succ n13 ih13 =>
      intro X x1 H locs ls hf hP hS hl
      unfold f_X6_again_l13 at hf
      refine lv_iload_n hx hb dX6_again_13 rfl (lv_at hl 1 rfl) ?_
      refine lv_bipush (v := 60) hx hb dX6_again_14 (by decide) ?_
      refine lv_icmp_gt (tgt := 48) hx hb dX6_again_16 (by decide) (fun c2 => ?_) (fun c2 => ?_)
      · have hf := if_t c2 hf
        refine lv_bipush (v := -4) hx hb dX6_again_48 (by decide) ?_
        exact fin dX6_again_50 (s1 hf) (s2 hf) hP hS
      · have hf := if_f c2 hf
        refine lv_aload_n hx hb dX6_again_19 rfl (lv_at hl 0 rfl) ?_
        refine g_get (v := .ref (E.ad 5 0)) S hB hinX6 hP m_0_0 rfl rfl 2 (by decide) fl23 rfl rfl dX6_again_20 ?_
        obtain ⟨q3, hq3, hf⟩ := bind_some hf
        refine callV_v (As := []) (rest := []) S hB hP hS (C := RX1) (b := E.ad 5 0) (g_recv (o := 5) (d := 0) hB hP m_5_0 rfl rfl) (KW_X1_passDayOfGardeners l hE X (by decide) (by decide) hq3) (cwV 0 S.2.2.2.2 gX6_again_X1_passDayOfGardeners rfl rfl rfl (by decide +kernel) ⟨Nat.le_of_ble_eq_true rfl, Nat.le_of_ble_eq_true rfl⟩) rfl hl.1 rfl (Nat.le_of_ble_eq_true rfl) dX6_again_23 ⟨Nat.zero_le _, Nat.zero_le _⟩ (fun H locs hP hS => ?_)
        refine lv_aload_n hx hb dX6_again_26 rfl (lv_at hl 0 rfl) ?_
        refine g_get (v := .ref (E.ad 5 0)) S hB hinX6 hP m_0_0 rfl rfl 2 (by decide) fl23 rfl rfl dX6_again_27 ?_
        refine lv_aload_n hx hb dX6_again_30 rfl (lv_at hl 0 rfl) ?_
        refine g_get (v := .ref (E.ad 4 0)) S hB hinX6 hP m_0_0 rfl rfl 1 (by decide) fl19 rfl rfl dX6_again_31 ?_
        obtain ⟨q4, hq4, hf⟩ := bind_some hf
        refine callV_i (As := [.ref (E.ad 4 0)]) (rest := []) S hB hP hS (C := RX1) (b := E.ad 5 0) (g_recv (o := 5) (d := 0) hB hP m_5_0 rfl rfl) (KW_X1_isMownLike l hE (va_up X 5 q3) (by decide) (by decide) (by decide) (by decide) (by decide) hq4) (cwV 1 S.2.2.2.2 gX6_again_X1_isMownLike rfl rfl rfl (by decide +kernel) ⟨Nat.le_of_ble_eq_true rfl, Nat.le_of_ble_eq_true rfl⟩) rfl hl.1 rfl (Nat.le_of_ble_eq_true rfl) dX6_again_34 ⟨Nat.zero_le _, Nat.zero_le _⟩ (fun H locs hP hS => ?_)
        refine lv_if_eq (tgt := 42) hx hb dX6_again_37 (by decide) (fun c5 => ?_) (fun c5 => ?_)
        · have hf := if_t c5 hf
          refine lv_iinc (v := x1 + (1 : Int32)) (lv' := [(1, .int (x1 + (1 : Int32))), (0, .ref (E.ad 0 0))]) hx hb dX6_again_42 hl (k := 1) rfl rfl (by decide) rfl (fun ls hl => ?_)
          refine lv_goto (tgt := 13) hx hb dX6_again_45 (by decide) ?_
          exact ih13 (va_up X 5 q3) (x1 + (1 : Int32)) _ _ _ hf hP hS (lv_sub hl [1, 0] rfl)
        · have hf := if_f c5 hf
          refine lv_iload_n hx hb dX6_again_40 rfl (lv_at hl 1 rfl) ?_
          exact fin dX6_again_41 (s1 hf) (s2 hf) hP hS
  unfold f_X6_again at hf
  refine lv_aload_n hx hb dX6_again_0 rfl (lv_at hl 0 rfl) ?_
  refine g_get (v := .ref (E.ad 5 0)) S hB hinX6 hP m_0_0 rfl rfl 2 (by decide) fl23 rfl rfl dX6_again_1 ?_
  refine lv_aload_n hx hb dX6_again_4 rfl (lv_at hl 0 rfl) ?_
  refine g_get (v := .ref (E.ad 4 0)) S hB hinX6 hP m_0_0 rfl rfl 1 (by decide) fl19 rfl rfl dX6_again_5 ?_
  obtain ⟨q1, hq1, hf⟩ := bind_some hf
  refine callV_v (As := [.ref (E.ad 4 0)]) (rest := []) S hB hP hS (C := RX1) (b := E.ad 5 0) (g_recv (o := 5) (d := 0) hB hP m_5_0 rfl rfl) (KW_X1_become l hE X (by decide) (by decide) (by decide) (by decide) (by decide) hq1) (cwV 1 S.2.2.2.2 gX6_again_X1_become rfl rfl rfl (by decide +kernel) ⟨Nat.le_of_ble_eq_true rfl, Nat.le_of_ble_eq_true rfl⟩) rfl hl.1 rfl (Nat.le_of_ble_eq_true rfl) dX6_again_8 ⟨Nat.zero_le _, Nat.zero_le _⟩ (fun H locs hP hS => ?_)
  refine lv_iconst (v := 1) hx hb dX6_again_11 (by decide) ?_
  refine lv_istore_n (lv' := [(1, .int (1 : Int32)), (0, .ref (E.ad 0 0))]) hx hb dX6_again_12 rfl hl (by decide) rfl (fun ls hl => ?_)
  exact hL13 FUEL (va_up X 5 q1) (1 : Int32) _ _ _ hf hP hS (lv_sub hl [1, 0] rfl)
/-! X6_outsAsItIs -/
abbrev rm_X6_outsAsItIs : Room := { frames := 6, cells := 0, slots := 0, locals := 135 }
set_option maxHeartbeats 4000000 in
set_option maxRecDepth 100000 in
theorem K_X6_outsAsItIs (l : Launch) {E : En} (hE : Inj E) (X : Wd) (a1 : Int32) {r : Int32} {X' : Wd} (hf : f_X6_outsAsItIs X a1 = some (r, X')) : Cti l E yX6_outsAsItIs wsX6_outsAsItIs rm_X6_outsAsItIs [.ref (E.ad 0 0), .int a1] X r X' := by
  refine meet_i (cc := cX6_outsAsItIs) (maxL := 2) (own := RX6) (by decide) rfl rfl (Nat.le_of_ble_eq_true rfl) ?_
  intro p e s m below meth c Z S hB fin hP hS ls hl
  have hx := S.1
  have hb := S.2.1
  have hl : lv_has ls 2 [(0, .ref (E.ad 0 0)), (1, .int a1)] := hl
  have hinX6 : ∀ w ∈ u_ws RX6 TX6 12, w ∈ wsX6_outsAsItIs := by decide +kernel
  have fl19 := S.2.2.2.2 (.fieldLink RX6 19 "MownMaze" "maze" "LMownMaze$Maze;") (by decide +kernel)
  have fl23 := S.2.2.2.2 (.fieldLink RX6 23 "MownMaze" "trial" "LMownMaze$Maze;") (by decide +kernel)
  unfold f_X6_outsAsItIs at hf
  refine lv_aload_n hx hb dX6_outsAsItIs_0 rfl (lv_at hl 0 rfl) ?_
  refine g_get (v := .ref (E.ad 5 0)) S hB hinX6 hP m_0_0 rfl rfl 2 (by decide) fl23 rfl rfl dX6_outsAsItIs_1 ?_
  refine lv_aload_n hx hb dX6_outsAsItIs_4 rfl (lv_at hl 0 rfl) ?_
  refine g_get (v := .ref (E.ad 4 0)) S hB hinX6 hP m_0_0 rfl rfl 1 (by decide) fl19 rfl rfl dX6_outsAsItIs_5 ?_
  obtain ⟨q1, hq1, hf⟩ := bind_some hf
  refine callV_v (As := [.ref (E.ad 4 0)]) (rest := []) S hB hP hS (C := RX1) (b := E.ad 5 0) (g_recv (o := 5) (d := 0) hB hP m_5_0 rfl rfl) (KW_X1_become l hE X (by decide) (by decide) (by decide) (by decide) (by decide) hq1) (cwV 1 S.2.2.2.2 gX6_outsAsItIs_X1_become rfl rfl rfl (by decide +kernel) ⟨Nat.le_of_ble_eq_true rfl, Nat.le_of_ble_eq_true rfl⟩) rfl hl.1 rfl (Nat.le_of_ble_eq_true rfl) dX6_outsAsItIs_8 ⟨Nat.zero_le _, Nat.zero_le _⟩ (fun H locs hP hS => ?_)
  refine lv_aload_n hx hb dX6_outsAsItIs_11 rfl (lv_at hl 0 rfl) ?_
  refine g_get (v := .ref (E.ad 5 0)) S hB hinX6 hP m_0_0 rfl rfl 2 (by decide) fl23 rfl rfl dX6_outsAsItIs_12 ?_
  refine lv_iload_n hx hb dX6_outsAsItIs_15 rfl (lv_at hl 1 rfl) ?_
  obtain ⟨q2, hq2, hf⟩ := bind_some hf
  refine callV_i (As := [.int a1]) (rest := []) S hB hP hS (C := RX1) (b := E.ad 5 0) (g_recv (o := 5) (d := 0) hB hP m_5_0 rfl rfl) (KW_X1_outsBehind l hE (va_up X 5 q1) (by decide) (by decide) a1 hq2) (cwV 1 S.2.2.2.2 gX6_outsAsItIs_X1_outsBehind rfl rfl rfl (by decide +kernel) ⟨Nat.le_of_ble_eq_true rfl, Nat.le_of_ble_eq_true rfl⟩) rfl hl.1 rfl (Nat.le_of_ble_eq_true rfl) dX6_outsAsItIs_16 ⟨Nat.zero_le _, Nat.zero_le _⟩ (fun H locs hP hS => ?_)
  exact fin dX6_outsAsItIs_19 (s1 hf) (s2 hf) hP hS
/-! X6_cut -/
abbrev rm_X6_cut : Room := { frames := 7, cells := 0, slots := 0, locals := 156 }
set_option maxHeartbeats 4000000 in
set_option maxRecDepth 100000 in
theorem K_X6_cut (l : Launch) {E : En} (hE : Inj E) (X : Wd) (a1 : Int32) (a2 : Int32) {r : Int32} {X' : Wd} (hf : f_X6_cut X a1 a2 = some (r, X')) : Cti l E yX6_cut wsX6_cut rm_X6_cut [.ref (E.ad 0 0), .int a1, .int a2] X r X' := by
  refine meet_i (cc := cX6_cut) (maxL := 4) (own := RX6) (by decide) rfl rfl (Nat.le_of_ble_eq_true rfl) ?_
  intro p e s m below meth c Z S hB fin hP hS ls hl
  have hx := S.1
  have hb := S.2.1
  have hl : lv_has ls 4 [(0, .ref (E.ad 0 0)), (1, .int a1), (2, .int a2)] := hl
  have hinX1 : ∀ w ∈ u_ws RX1 TX1 12, w ∈ wsX6_cut := by decide +kernel
  have hinX6 : ∀ w ∈ u_ws RX6 TX6 12, w ∈ wsX6_cut := by decide +kernel
  have fl19 := S.2.2.2.2 (.fieldLink RX6 19 "MownMaze" "maze" "LMownMaze$Maze;") (by decide +kernel)
  have fl23 := S.2.2.2.2 (.fieldLink RX6 23 "MownMaze" "trial" "LMownMaze$Maze;") (by decide +kernel)
  have fl56 := S.2.2.2.2 (.fieldLink RX6 56 "MownMaze" "best" "LMownMaze$Best;") (by decide +kernel)
  have fl105 := S.2.2.2.2 (.fieldLink RX6 105 "MownMaze$Maze" "hedges" "I") (by decide +kernel)
  have hL30 : ∀ (n30 : Nat) (X : Wd) (x1 : Int32) (x2 : Int32) (x3 : Int32) (H : Heap) (locs : List Loc) (ls : Array Slot), f_X6_cut_l30 n30 X x1 x2 x3 = some (r, X') → va_P E.1 vwCl (GW E X) H → va_S (GA E) s.heap H locs → lv_has ls 4 [(0, .ref (E.ad 0 0)), (1, .int x1), (2, .int x2), (3, .int x3)] → W p l e rm_X6_cut s m ([.ref (E.ad 0 0), .int a1, .int a2] : List Value).toArray below meth c H locs 0 0 Z (F0 m 30 ls []) := by
    intro n30
    induction n30 with
    | zero =>
      intro X x1 x2 x3 H locs ls hf
      cases (show (none : Option _) = some _ from hf)
    | succ n30 ih30 =>
      intro X x1 x2 x3 H locs ls hf hP hS hl
      unfold f_X6_cut_l30 at hf
      refine lv_iload_n hx hb dX6_cut_30 rfl (lv_at hl 3 rfl) ?_
      refine lv_bipush (v := 24) hx hb dX6_cut_31 (by decide) ?_
      refine lv_icmp_ge (tgt := 87) hx hb dX6_cut_33 (by decide) (fun c7 => ?_) (fun c7 => ?_)
      · have hf := if_t c7 hf
        refine lv_aload_n hx hb dX6_cut_87 rfl (lv_at hl 0 rfl) ?_
        refine g_get (v := .ref (E.ad 3 0)) S hB hinX6 hP m_0_0 rfl rfl 9 (by decide) fl56 rfl rfl dX6_cut_88 ?_
        refine lv_iload_n hx hb dX6_cut_91 rfl (lv_at hl 2 rfl) ?_
        obtain ⟨q8, hq8, hf⟩ := bind_some hf
        refine callV_i (As := [.int x2]) (rest := []) S hB hP hS (C := RX0) (b := E.ad 3 0) (g_recv (o := 3) (d := 0) hB hP m_3_0 rfl rfl) (KW_X0_told l hE X x2 hq8) (cwV 1 S.2.2.2.2 gX6_cut_X0_told rfl rfl rfl (by decide +kernel) ⟨Nat.le_of_ble_eq_true rfl, Nat.le_of_ble_eq_true rfl⟩) rfl hl.1 rfl (Nat.le_of_ble_eq_true rfl) dX6_cut_92 ⟨Nat.zero_le _, Nat.zero_le _⟩ (fun H locs hP hS => ?_)
        exact fin dX6_cut_95 (s1 hf) (s2 hf) hP hS
      · have hf := if_f c7 hf
        refine lv_aload_n hx hb dX6_cut_36 rfl (lv_at hl 0 rfl) ?_
        refine g_get (v := .ref (E.ad 5 0)) S hB hinX6 hP m_0_0 rfl rfl 2 (by decide) fl23 rfl rfl dX6_cut_37 ?_
        refine lv_aload_n hx hb dX6_cut_40 rfl (lv_at hl 0 rfl) ?_
        refine g_get (v := .ref (E.ad 4 0)) S hB hinX6 hP m_0_0 rfl rfl 1 (by decide) fl19 rfl rfl dX6_cut_41 ?_
        obtain ⟨q9, hq9, hf⟩ := bind_some hf
        refine callV_v (As := [.ref (E.ad 4 0)]) (rest := []) S hB hP hS (C := RX1) (b := E.ad 5 0) (g_recv (o := 5) (d := 0) hB hP m_5_0 rfl rfl) (KW_X1_become l hE X (by decide) (by decide) (by decide) (by decide) (by decide) hq9) (cwV 1 S.2.2.2.2 gX6_cut_X1_become rfl rfl rfl (by decide +kernel) ⟨Nat.le_of_ble_eq_true rfl, Nat.le_of_ble_eq_true rfl⟩) rfl hl.1 rfl (Nat.le_of_ble_eq_true rfl) dX6_cut_44 ⟨Nat.zero_le _, Nat.zero_le _⟩ (fun H locs hP hS => ?_)
        refine lv_aload_n hx hb dX6_cut_47 rfl (lv_at hl 0 rfl) ?_
        refine g_get (v := .ref (E.ad 5 0)) S hB hinX6 hP m_0_0 rfl rfl 2 (by decide) fl23 rfl rfl dX6_cut_48 ?_
        refine lv_aload_n hx hb dX6_cut_51 rfl (lv_at hl 0 rfl) ?_
        refine g_get (v := .ref (E.ad 5 0)) S hB hinX6 hP m_0_0 rfl rfl 2 (by decide) fl23 rfl rfl dX6_cut_52 ?_
        refine g_get (v := .int (q9 0 0)) S hB hinX1 hP m_5_0 rfl rfl 0 (by decide) fl105 rfl rfl dX6_cut_55 ?_
        refine lv_iload_n hx hb dX6_cut_58 rfl (lv_at hl 3 rfl) ?_
        obtain ⟨q10, hq10, hf⟩ := bind_some hf
        refine callS_i (As := [.int (q9 0 0), .int x3]) (rest := [.ref (E.ad 5 0)]) S hB hP hS (K_X2_changed l hE (va_up X 5 q9) (q9 0 0) x3 hq10) (va_cwS 2 S.2.2.2.2 gX6_cut_X2_changed rfl rfl rfl (by decide +kernel) ⟨Nat.le_of_ble_eq_true rfl, Nat.le_of_ble_eq_true rfl⟩) rfl hl.1 rfl (Nat.le_of_ble_eq_true rfl) dX6_cut_59 ⟨Nat.zero_le _, Nat.zero_le _⟩ (fun H locs hP hS => ?_)
        refine g_put S hB hE hinX1 tyX1 tyX1_ok nmX1 hP hS m_5_0 rfl rfl 0 (by decide) fl105 rfl rfl rfl rfl (Nat.le_of_ble_eq_true rfl) (by exact (fun _ => rfl) _) (X' := (wo (va_up X 5 q9) 5 0 0 q10)) rfl dX6_cut_62 (fun H locs hP hS => ?_)
        refine lv_aload_n hx hb dX6_cut_65 rfl (lv_at hl 0 rfl) ?_
        refine g_get (v := .ref (E.ad 3 0)) S hB hinX6 hP m_0_0 rfl rfl 9 (by decide) fl56 rfl rfl dX6_cut_66 ?_
        refine lv_iload_n hx hb dX6_cut_69 rfl (lv_at hl 3 rfl) ?_
        refine lv_aload_n hx hb dX6_cut_70 rfl (lv_at hl 0 rfl) ?_
        refine g_get (v := .ref (E.ad 5 0)) S hB hinX6 hP m_0_0 rfl rfl 2 (by decide) fl23 rfl rfl dX6_cut_71 ?_
        refine lv_iload_n hx hb dX6_cut_74 rfl (lv_at hl 1 rfl) ?_
        obtain ⟨q11, hq11, hf⟩ := bind_some hf
        refine callV_i (As := [.int x1]) (rest := [.int x3, .ref (E.ad 3 0)]) S hB hP hS (C := RX1) (b := E.ad 5 0) (g_recv (o := 5) (d := 0) hB hP m_5_0 rfl rfl) (KW_X1_outsBehind l hE (wo (va_up X 5 q9) 5 0 0 q10) (by decide) (by decide) x1 hq11) (cwV 1 S.2.2.2.2 gX6_cut_X1_outsBehind rfl rfl rfl (by decide +kernel) ⟨Nat.le_of_ble_eq_true rfl, Nat.le_of_ble_eq_true rfl⟩) rfl hl.1 rfl (Nat.le_of_ble_eq_true rfl) dX6_cut_75 ⟨Nat.zero_le _, Nat.zero_le _⟩ (fun H locs hP hS => ?_)
        obtain ⟨q12, hq12, hf⟩ := bind_some hf
        refine callV_v (As := [.int x3, .int q11.1]) (rest := []) S hB hP hS (C := RX0) (b := E.ad 3 0) (g_recv (o := 3) (d := 0) hB hP m_3_0 rfl rfl) (KW_X0_offer l hE (va_up (wo (va_up X 5 q9) 5 0 0 q10) 5 q11.2) x3 q11.1 hq12) (cwV 2 S.2.2.2.2 gX6_cut_X0_offer rfl rfl rfl (by decide +kernel) ⟨Nat.le_of_ble_eq_true rfl, Nat.le_of_ble_eq_true rfl⟩) rfl hl.1 rfl (Nat.le_of_ble_eq_true rfl) dX6_cut_78 ⟨Nat.zero_le _, Nat.zero_le _⟩ (fun H locs hP hS => ?_)
        refine lv_iinc (v := x3 + (1 : Int32)) (lv' := [(3, .int (x3 + (1 : Int32))), (0, .ref (E.ad 0 0)), (1, .int x1), (2, .int x2)]) hx hb dX6_cut_81 hl (k := 3) rfl rfl (by decide) rfl (fun ls hl => ?_)
        refine lv_goto (tgt := 30) hx hb dX6_cut_84 (by decide) ?_
        exact ih30 (va_up (va_up (wo (va_up X 5 q9) 5 0 0 q10) 5 q11.2) 3 q12) x1 x2 (x3 + (1 : Int32)) _ _ _ hf hP hS (lv_sub hl [1, 2, 3, 0] rfl)
  unfold f_X6_cut at hf
  refine lv_iload_n hx hb dX6_cut_0 rfl (lv_at hl 1 rfl) ?_
  obtain ⟨q1, hq1, hf⟩ := bind_some hf
  refine callS_i (As := [.int a1]) (rest := []) S hB hP hS (K_X6_isAhead l hE X a1 hq1) (va_cwS 1 S.2.2.2.2 gX6_cut_X6_isAhead rfl rfl rfl (by decide +kernel) ⟨Nat.le_of_ble_eq_true rfl, Nat.le_of_ble_eq_true rfl⟩) rfl hl.1 rfl (Nat.le_of_ble_eq_true rfl) dX6_cut_1 ⟨Nat.zero_le _, Nat.zero_le _⟩ (fun H locs hP hS => ?_)
  refine lv_if_eq (tgt := 14) hx hb dX6_cut_4 (by decide) (fun c2 => ?_) (fun c2 => ?_)
  · have hf := if_t c2 hf
    refine lv_iconst (v := -1) hx hb dX6_cut_14 (by decide) ?_
    exact fin dX6_cut_15 (s1 hf) (s2 hf) hP hS
  · have hf := if_f c2 hf
    refine lv_iload_n hx hb dX6_cut_7 rfl (lv_at hl 2 rfl) ?_
    obtain ⟨q3, hq3, hf⟩ := bind_some hf
    refine callS_i (As := [.int a2]) (rest := []) S hB hP hS (K_X6_isBit l hE X a2 hq3) (va_cwS 1 S.2.2.2.2 gX6_cut_X6_isBit rfl rfl rfl (by decide +kernel) ⟨Nat.le_of_ble_eq_true rfl, Nat.le_of_ble_eq_true rfl⟩) rfl hl.1 rfl (Nat.le_of_ble_eq_true rfl) dX6_cut_8 ⟨Nat.zero_le _, Nat.zero_le _⟩ (fun H locs hP hS => ?_)
    refine lv_if_ne (tgt := 16) hx hb dX6_cut_11 (by decide) (fun c4 => ?_) (fun c4 => ?_)
    · have hf := if_f c4 hf
      refine lv_aload_n hx hb dX6_cut_16 rfl (lv_at hl 0 rfl) ?_
      refine g_get (v := .ref (E.ad 3 0)) S hB hinX6 hP m_0_0 rfl rfl 9 (by decide) fl56 rfl rfl dX6_cut_17 ?_
      refine lv_aload_n hx hb dX6_cut_20 rfl (lv_at hl 0 rfl) ?_
      refine lv_iload_n hx hb dX6_cut_21 rfl (lv_at hl 1 rfl) ?_
      obtain ⟨q5, hq5, hf⟩ := bind_some hf
      refine callV_i (As := [.int a1]) (rest := [.ref (E.ad 3 0)]) S hB hP hS (C := RX6) (b := E.ad 0 0) (g_recv (o := 0) (d := 0) hB hP m_0_0 rfl rfl) (K_X6_outsAsItIs l hE X a1 hq5) (cwV 1 S.2.2.2.2 gX6_cut_X6_outsAsItIs rfl rfl rfl (by decide +kernel) ⟨Nat.le_of_ble_eq_true rfl, Nat.le_of_ble_eq_true rfl⟩) rfl hl.1 rfl (Nat.le_of_ble_eq_true rfl) dX6_cut_22 ⟨Nat.zero_le _, Nat.zero_le _⟩ (fun H locs hP hS => ?_)
      obtain ⟨q6, hq6, hf⟩ := bind_some hf
      refine callV_v (As := [.int q5.1]) (rest := []) S hB hP hS (C := RX0) (b := E.ad 3 0) (g_recv (o := 3) (d := 0) hB hP m_3_0 rfl rfl) (KW_X0_above l hE q5.2 q5.1 hq6) (cwV 1 S.2.2.2.2 gX6_cut_X0_above rfl rfl rfl (by decide +kernel) ⟨Nat.le_of_ble_eq_true rfl, Nat.le_of_ble_eq_true rfl⟩) rfl hl.1 rfl (Nat.le_of_ble_eq_true rfl) dX6_cut_25 ⟨Nat.zero_le _, Nat.zero_le _⟩ (fun H locs hP hS => ?_)
      refine lv_iconst (v := 0) hx hb dX6_cut_28 (by decide) ?_
      refine lv_istore_n (lv' := [(3, .int (0 : Int32)), (0, .ref (E.ad 0 0)), (1, .int a1), (2, .int a2)]) hx hb dX6_cut_29 rfl hl (by decide) rfl (fun ls hl => ?_)
      exact hL30 FUEL (va_up q5.2 3 q6) a1 a2 (0 : Int32) _ _ _ hf hP hS (lv_sub hl [1, 2, 3, 0] rfl)
    · have hf := if_t c4 hf
      refine lv_iconst (v := -1) hx hb dX6_cut_14 (by decide) ?_
      exact fin dX6_cut_15 (s1 hf) (s2 hf) hP hS
/-! X6_door -/
abbrev rm_X6_door : Room := { frames := 6, cells := 0, slots := 0, locals := 135 }
set_option maxHeartbeats 4000000 in
set_option maxRecDepth 100000 in
theorem K_X6_door (l : Launch) {E : En} (hE : Inj E) (X : Wd) (a1 : Int32) (a2 : Int32) {r : Int32} {X' : Wd} (hf : f_X6_door X a1 a2 = some (r, X')) : Cti l E yX6_door wsX6_door rm_X6_door [.ref (E.ad 0 0), .int a1, .int a2] X r X' := by
  refine meet_i (cc := cX6_door) (maxL := 4) (own := RX6) (by decide) rfl rfl (Nat.le_of_ble_eq_true rfl) ?_
  intro p e s m below meth c Z S hB fin hP hS ls hl
  have hx := S.1
  have hb := S.2.1
  have hl : lv_has ls 4 [(0, .ref (E.ad 0 0)), (1, .int a1), (2, .int a2)] := hl
  have hinX1 : ∀ w ∈ u_ws RX1 TX1 12, w ∈ wsX6_door := by decide +kernel
  have hinX6 : ∀ w ∈ u_ws RX6 TX6 12, w ∈ wsX6_door := by decide +kernel
  have fl19 := S.2.2.2.2 (.fieldLink RX6 19 "MownMaze" "maze" "LMownMaze$Maze;") (by decide +kernel)
  have fl23 := S.2.2.2.2 (.fieldLink RX6 23 "MownMaze" "trial" "LMownMaze$Maze;") (by decide +kernel)
  have fl56 := S.2.2.2.2 (.fieldLink RX6 56 "MownMaze" "best" "LMownMaze$Best;") (by decide +kernel)
  have fl102 := S.2.2.2.2 (.fieldLink RX6 102 "MownMaze$Maze" "gate" "I") (by decide +kernel)
  have hL26 : ∀ (n26 : Nat) (X : Wd) (x1 : Int32) (x2 : Int32) (x3 : Int32) (H : Heap) (locs : List Loc) (ls : Array Slot), f_X6_door_l26 n26 X x1 x2 x3 = some (r, X') → va_P E.1 vwCl (GW E X) H → va_S (GA E) s.heap H locs → lv_has ls 4 [(0, .ref (E.ad 0 0)), (1, .int x1), (2, .int x2), (3, .int x3)] → W p l e rm_X6_door s m ([.ref (E.ad 0 0), .int a1, .int a2] : List Value).toArray below meth c H locs 0 0 Z (F0 m 26 ls []) := by
    intro n26
    induction n26 with
    | zero =>
      intro X x1 x2 x3 H locs ls hf
      cases (show (none : Option _) = some _ from hf)
    | succ n26 ih26 =>
      intro X x1 x2 x3 H locs ls hf hP hS hl
      unfold f_X6_door_l26 at hf
      refine lv_iload_n hx hb dX6_door_26 rfl (lv_at hl 3 rfl) ?_
      refine lv_bipush (v := 16) hx hb dX6_door_27 (by decide) ?_
      refine lv_icmp_ge (tgt := 73) hx hb dX6_door_29 (by decide) (fun c6 => ?_) (fun c6 => ?_)
      · have hf := if_t c6 hf
        refine lv_aload_n hx hb dX6_door_73 rfl (lv_at hl 0 rfl) ?_
        refine g_get (v := .ref (E.ad 3 0)) S hB hinX6 hP m_0_0 rfl rfl 9 (by decide) fl56 rfl rfl dX6_door_74 ?_
        refine lv_iload_n hx hb dX6_door_77 rfl (lv_at hl 2 rfl) ?_
        obtain ⟨q7, hq7, hf⟩ := bind_some hf
        refine callV_i (As := [.int x2]) (rest := []) S hB hP hS (C := RX0) (b := E.ad 3 0) (g_recv (o := 3) (d := 0) hB hP m_3_0 rfl rfl) (KW_X0_told l hE X x2 hq7) (cwV 1 S.2.2.2.2 gX6_door_X0_told rfl rfl rfl (by decide +kernel) ⟨Nat.le_of_ble_eq_true rfl, Nat.le_of_ble_eq_true rfl⟩) rfl hl.1 rfl (Nat.le_of_ble_eq_true rfl) dX6_door_78 ⟨Nat.zero_le _, Nat.zero_le _⟩ (fun H locs hP hS => ?_)
        exact fin dX6_door_81 (s1 hf) (s2 hf) hP hS
      · have hf := if_f c6 hf
        refine lv_aload_n hx hb dX6_door_32 rfl (lv_at hl 0 rfl) ?_
        refine g_get (v := .ref (E.ad 5 0)) S hB hinX6 hP m_0_0 rfl rfl 2 (by decide) fl23 rfl rfl dX6_door_33 ?_
        refine lv_aload_n hx hb dX6_door_36 rfl (lv_at hl 0 rfl) ?_
        refine g_get (v := .ref (E.ad 4 0)) S hB hinX6 hP m_0_0 rfl rfl 1 (by decide) fl19 rfl rfl dX6_door_37 ?_
        obtain ⟨q8, hq8, hf⟩ := bind_some hf
        refine callV_v (As := [.ref (E.ad 4 0)]) (rest := []) S hB hP hS (C := RX1) (b := E.ad 5 0) (g_recv (o := 5) (d := 0) hB hP m_5_0 rfl rfl) (KW_X1_become l hE X (by decide) (by decide) (by decide) (by decide) (by decide) hq8) (cwV 1 S.2.2.2.2 gX6_door_X1_become rfl rfl rfl (by decide +kernel) ⟨Nat.le_of_ble_eq_true rfl, Nat.le_of_ble_eq_true rfl⟩) rfl hl.1 rfl (Nat.le_of_ble_eq_true rfl) dX6_door_40 ⟨Nat.zero_le _, Nat.zero_le _⟩ (fun H locs hP hS => ?_)
        refine lv_aload_n hx hb dX6_door_43 rfl (lv_at hl 0 rfl) ?_
        refine g_get (v := .ref (E.ad 5 0)) S hB hinX6 hP m_0_0 rfl rfl 2 (by decide) fl23 rfl rfl dX6_door_44 ?_
        refine lv_iload_n hx hb dX6_door_47 rfl (lv_at hl 3 rfl) ?_
        refine g_put S hB hE hinX1 tyX1 tyX1_ok nmX1 hP hS m_5_0 rfl rfl 1 (by decide) fl102 rfl rfl rfl rfl (Nat.le_of_ble_eq_true rfl) (by exact (fun _ => rfl) _) (X' := (wo (va_up X 5 q8) 5 0 1 x3)) rfl dX6_door_48 (fun H locs hP hS => ?_)
        refine lv_aload_n hx hb dX6_door_51 rfl (lv_at hl 0 rfl) ?_
        refine g_get (v := .ref (E.ad 3 0)) S hB hinX6 hP m_0_0 rfl rfl 9 (by decide) fl56 rfl rfl dX6_door_52 ?_
        refine lv_iload_n hx hb dX6_door_55 rfl (lv_at hl 3 rfl) ?_
        refine lv_aload_n hx hb dX6_door_56 rfl (lv_at hl 0 rfl) ?_
        refine g_get (v := .ref (E.ad 5 0)) S hB hinX6 hP m_0_0 rfl rfl 2 (by decide) fl23 rfl rfl dX6_door_57 ?_
        refine lv_iload_n hx hb dX6_door_60 rfl (lv_at hl 1 rfl) ?_
        obtain ⟨q9, hq9, hf⟩ := bind_some hf
        refine callV_i (As := [.int x1]) (rest := [.int x3, .ref (E.ad 3 0)]) S hB hP hS (C := RX1) (b := E.ad 5 0) (g_recv (o := 5) (d := 0) hB hP m_5_0 rfl rfl) (KW_X1_outsBehind l hE (wo (va_up X 5 q8) 5 0 1 x3) (by decide) (by decide) x1 hq9) (cwV 1 S.2.2.2.2 gX6_door_X1_outsBehind rfl rfl rfl (by decide +kernel) ⟨Nat.le_of_ble_eq_true rfl, Nat.le_of_ble_eq_true rfl⟩) rfl hl.1 rfl (Nat.le_of_ble_eq_true rfl) dX6_door_61 ⟨Nat.zero_le _, Nat.zero_le _⟩ (fun H locs hP hS => ?_)
        obtain ⟨q10, hq10, hf⟩ := bind_some hf
        refine callV_v (As := [.int x3, .int q9.1]) (rest := []) S hB hP hS (C := RX0) (b := E.ad 3 0) (g_recv (o := 3) (d := 0) hB hP m_3_0 rfl rfl) (KW_X0_offer l hE (va_up (wo (va_up X 5 q8) 5 0 1 x3) 5 q9.2) x3 q9.1 hq10) (cwV 2 S.2.2.2.2 gX6_door_X0_offer rfl rfl rfl (by decide +kernel) ⟨Nat.le_of_ble_eq_true rfl, Nat.le_of_ble_eq_true rfl⟩) rfl hl.1 rfl (Nat.le_of_ble_eq_true rfl) dX6_door_64 ⟨Nat.zero_le _, Nat.zero_le _⟩ (fun H locs hP hS => ?_)
        refine lv_iinc (v := x3 + (1 : Int32)) (lv' := [(3, .int (x3 + (1 : Int32))), (0, .ref (E.ad 0 0)), (1, .int x1), (2, .int x2)]) hx hb dX6_door_67 hl (k := 3) rfl rfl (by decide) rfl (fun ls hl => ?_)
        refine lv_goto (tgt := 26) hx hb dX6_door_70 (by decide) ?_
        exact ih26 (va_up (va_up (wo (va_up X 5 q8) 5 0 1 x3) 5 q9.2) 3 q10) x1 x2 (x3 + (1 : Int32)) _ _ _ hf hP hS (lv_sub hl [1, 2, 3, 0] rfl)
  unfold f_X6_door at hf
  refine lv_iload_n hx hb dX6_door_0 rfl (lv_at hl 1 rfl) ?_
  obtain ⟨q1, hq1, hf⟩ := bind_some hf
  refine callS_i (As := [.int a1]) (rest := []) S hB hP hS (K_X6_isAhead l hE X a1 hq1) (va_cwS 1 S.2.2.2.2 gX6_door_X6_isAhead rfl rfl rfl (by decide +kernel) ⟨Nat.le_of_ble_eq_true rfl, Nat.le_of_ble_eq_true rfl⟩) rfl hl.1 rfl (Nat.le_of_ble_eq_true rfl) dX6_door_1 ⟨Nat.zero_le _, Nat.zero_le _⟩ (fun H locs hP hS => ?_)
  refine lv_if_eq (tgt := 14) hx hb dX6_door_4 (by decide) (fun c2 => ?_) (fun c2 => ?_)
  · have hf := if_t c2 hf
    refine lv_iconst (v := -1) hx hb dX6_door_14 (by decide) ?_
    exact fin dX6_door_15 (s1 hf) (s2 hf) hP hS
  · have hf := if_f c2 hf
    refine lv_iload_n hx hb dX6_door_7 rfl (lv_at hl 2 rfl) ?_
    obtain ⟨q3, hq3, hf⟩ := bind_some hf
    refine callS_i (As := [.int a2]) (rest := []) S hB hP hS (K_X6_isBit l hE X a2 hq3) (va_cwS 1 S.2.2.2.2 gX6_door_X6_isBit rfl rfl rfl (by decide +kernel) ⟨Nat.le_of_ble_eq_true rfl, Nat.le_of_ble_eq_true rfl⟩) rfl hl.1 rfl (Nat.le_of_ble_eq_true rfl) dX6_door_8 ⟨Nat.zero_le _, Nat.zero_le _⟩ (fun H locs hP hS => ?_)
    refine lv_if_ne (tgt := 16) hx hb dX6_door_11 (by decide) (fun c4 => ?_) (fun c4 => ?_)
    · have hf := if_f c4 hf
      refine lv_aload_n hx hb dX6_door_16 rfl (lv_at hl 0 rfl) ?_
      refine g_get (v := .ref (E.ad 3 0)) S hB hinX6 hP m_0_0 rfl rfl 9 (by decide) fl56 rfl rfl dX6_door_17 ?_
      refine lv_iconst (v := -1) hx hb dX6_door_20 (by decide) ?_
      obtain ⟨q5, hq5, hf⟩ := bind_some hf
      refine callV_v (As := [.int (-1 : Int32)]) (rest := []) S hB hP hS (C := RX0) (b := E.ad 3 0) (g_recv (o := 3) (d := 0) hB hP m_3_0 rfl rfl) (KW_X0_above l hE X (-1 : Int32) hq5) (cwV 1 S.2.2.2.2 gX6_door_X0_above rfl rfl rfl (by decide +kernel) ⟨Nat.le_of_ble_eq_true rfl, Nat.le_of_ble_eq_true rfl⟩) rfl hl.1 rfl (Nat.le_of_ble_eq_true rfl) dX6_door_21 ⟨Nat.zero_le _, Nat.zero_le _⟩ (fun H locs hP hS => ?_)
      refine lv_iconst (v := 0) hx hb dX6_door_24 (by decide) ?_
      refine lv_istore_n (lv' := [(3, .int (0 : Int32)), (0, .ref (E.ad 0 0)), (1, .int a1), (2, .int a2)]) hx hb dX6_door_25 rfl hl (by decide) rfl (fun ls hl => ?_)
      exact hL26 FUEL (va_up X 3 q5) a1 a2 (0 : Int32) _ _ _ hf hP hS (lv_sub hl [1, 2, 3, 0] rfl)
    · have hf := if_t c4 hf
      refine lv_iconst (v := -1) hx hb dX6_door_14 (by decide) ?_
      exact fin dX6_door_15 (s1 hf) (s2 hf) hP hS
/-! X6_food -/
abbrev rm_X6_food : Room := { frames := 5, cells := 0, slots := 0, locals := 115 }
set_option maxHeartbeats 4000000 in
set_option maxRecDepth 100000 in
theorem K_X6_food (l : Launch) {E : En} (hE : Inj E) (X : Wd) (a1 : Int32) {r : Int32} {X' : Wd} (hf : f_X6_food X a1 = some (r, X')) : Cti l E yX6_food wsX6_food rm_X6_food [.ref (E.ad 0 0), .int a1] X r X' := by
  refine meet_i (cc := cX6_food) (maxL := 2) (own := RX6) (by decide) rfl rfl (Nat.le_of_ble_eq_true rfl) ?_
  intro p e s m below meth c Z S hB fin hP hS ls hl
  have hx := S.1
  have hb := S.2.1
  have hl : lv_has ls 2 [(0, .ref (E.ad 0 0)), (1, .int a1)] := hl
  have hinX1 : ∀ w ∈ u_ws RX1 TX1 12, w ∈ wsX6_food := by decide +kernel
  have hinX6 : ∀ w ∈ u_ws RX6 TX6 12, w ∈ wsX6_food := by decide +kernel
  have fl19 := S.2.2.2.2 (.fieldLink RX6 19 "MownMaze" "maze" "LMownMaze$Maze;") (by decide +kernel)
  have fl23 := S.2.2.2.2 (.fieldLink RX6 23 "MownMaze" "trial" "LMownMaze$Maze;") (by decide +kernel)
  have fl178 := S.2.2.2.2 (.fieldLink RX6 178 "MownMaze$Maze" "fate" "[I") (by decide +kernel)
  have fl181 := S.2.2.2.2 (.fieldLink RX6 181 "MownMaze$Maze" "food" "[I") (by decide +kernel)
  unfold f_X6_food at hf
  refine lv_aload_n hx hb dX6_food_0 rfl (lv_at hl 0 rfl) ?_
  refine lv_iload_n hx hb dX6_food_1 rfl (lv_at hl 1 rfl) ?_
  obtain ⟨q1, hq1, hf⟩ := bind_some hf
  refine callV_i (As := [.int a1]) (rest := []) S hB hP hS (C := RX6) (b := E.ad 0 0) (g_recv (o := 0) (d := 0) hB hP m_0_0 rfl rfl) (K_X6_isGuest l hE X a1 hq1) (cwV 1 S.2.2.2.2 gX6_food_X6_isGuest rfl rfl rfl (by decide +kernel) ⟨Nat.le_of_ble_eq_true rfl, Nat.le_of_ble_eq_true rfl⟩) rfl hl.1 rfl (Nat.le_of_ble_eq_true rfl) dX6_food_2 ⟨Nat.zero_le _, Nat.zero_le _⟩ (fun H locs hP hS => ?_)
  refine lv_if_ne (tgt := 10) hx hb dX6_food_5 (by decide) (fun c2 => ?_) (fun c2 => ?_)
  · have hf := if_f c2 hf
    refine lv_aload_n hx hb dX6_food_10 rfl (lv_at hl 0 rfl) ?_
    refine g_get (v := .ref (E.ad 4 0)) S hB hinX6 hP m_0_0 rfl rfl 1 (by decide) fl19 rfl rfl dX6_food_11 ?_
    refine g_get (v := .ref (E.ad 4 6)) S hB hinX1 hP m_4_0 rfl rfl 11 (by decide) fl178 rfl rfl dX6_food_14 ?_
    refine lv_iload_n hx hb dX6_food_17 rfl (lv_at hl 1 rfl) ?_
    obtain ⟨hv3, hf⟩ := ck_some hf
    refine g_iald (r := X 4 6) S hB hP m_4_6 rfl hv3 dX6_food_18 ?_
    refine W.eq (g2 := F0 m 19 ls [.int ((X 4) 6 a1.toNatClampNeg)]) rfl ?_
    refine lv_if_eq (tgt := 25) hx hb dX6_food_19 (by decide) (fun c4 => ?_) (fun c4 => ?_)
    · have hf := if_t c4 hf
      refine lv_aload_n hx hb dX6_food_25 rfl (lv_at hl 0 rfl) ?_
      refine g_get (v := .ref (E.ad 5 0)) S hB hinX6 hP m_0_0 rfl rfl 2 (by decide) fl23 rfl rfl dX6_food_26 ?_
      refine lv_aload_n hx hb dX6_food_29 rfl (lv_at hl 0 rfl) ?_
      refine g_get (v := .ref (E.ad 4 0)) S hB hinX6 hP m_0_0 rfl rfl 1 (by decide) fl19 rfl rfl dX6_food_30 ?_
      obtain ⟨q5, hq5, hf⟩ := bind_some hf
      refine callV_v (As := [.ref (E.ad 4 0)]) (rest := []) S hB hP hS (C := RX1) (b := E.ad 5 0) (g_recv (o := 5) (d := 0) hB hP m_5_0 rfl rfl) (KW_X1_become l hE X (by decide) (by decide) (by decide) (by decide) (by decide) hq5) (cwV 1 S.2.2.2.2 gX6_food_X1_become rfl rfl rfl (by decide +kernel) ⟨Nat.le_of_ble_eq_true rfl, Nat.le_of_ble_eq_true rfl⟩) rfl hl.1 rfl (Nat.le_of_ble_eq_true rfl) dX6_food_33 ⟨Nat.zero_le _, Nat.zero_le _⟩ (fun H locs hP hS => ?_)
      refine lv_aload_n hx hb dX6_food_36 rfl (lv_at hl 0 rfl) ?_
      refine g_get (v := .ref (E.ad 5 0)) S hB hinX6 hP m_0_0 rfl rfl 2 (by decide) fl23 rfl rfl dX6_food_37 ?_
      refine g_get (v := .ref (E.ad 5 5)) S hB hinX1 hP m_5_0 rfl rfl 10 (by decide) fl181 rfl rfl dX6_food_40 ?_
      refine lv_iload_n hx hb dX6_food_43 rfl (lv_at hl 1 rfl) ?_
      refine lv_bipush (v := 60) hx hb dX6_food_44 (by decide) ?_
      obtain ⟨hv6, hf⟩ := ck_some hf
      refine g_iast (r := (va_up X 5 q5) 5 5) S hB hE hP hS m_5_5 rfl rfl (fun _ => rfl) hv6 (X' := (wo (va_up X 5 q5) 5 5 a1.toNatClampNeg (60 : Int32))) rfl dX6_food_46 (fun H locs hP hS => ?_)
      refine lv_aload_n hx hb dX6_food_47 rfl (lv_at hl 0 rfl) ?_
      refine lv_iload_n hx hb dX6_food_48 rfl (lv_at hl 1 rfl) ?_
      obtain ⟨q7, hq7, hf⟩ := bind_some hf
      refine callV_i (As := [.int a1]) (rest := []) S hB hP hS (C := RX6) (b := E.ad 0 0) (g_recv (o := 0) (d := 0) hB hP m_0_0 rfl rfl) (K_X6_daysTillOut l hE (wo (va_up X 5 q5) 5 5 a1.toNatClampNeg (60 : Int32)) a1 hq7) (cwV 1 S.2.2.2.2 gX6_food_X6_daysTillOut rfl rfl rfl (by decide +kernel) ⟨Nat.le_of_ble_eq_true rfl, Nat.le_of_ble_eq_true rfl⟩) rfl hl.1 rfl (Nat.le_of_ble_eq_true rfl) dX6_food_49 ⟨Nat.zero_le _, Nat.zero_le _⟩ (fun H locs hP hS => ?_)
      exact fin dX6_food_52 (s1 hf) (s2 hf) hP hS
    · have hf := if_f c4 hf
      refine lv_bipush (v := -2) hx hb dX6_food_22 (by decide) ?_
      exact fin dX6_food_24 (s1 hf) (s2 hf) hP hS
  · have hf := if_t c2 hf
    refine lv_iconst (v := -1) hx hb dX6_food_8 (by decide) ?_
    exact fin dX6_food_9 (s1 hf) (s2 hf) hP hS
/-! X6_sack -/
abbrev rm_X6_sack : Room := { frames := 7, cells := 0, slots := 0, locals := 156 }
set_option maxHeartbeats 4000000 in
set_option maxRecDepth 100000 in
theorem K_X6_sack (l : Launch) {E : En} (hE : Inj E) (X : Wd) (a1 : Int32) (a2 : Int32) {r : Int32} {X' : Wd} (hf : f_X6_sack X a1 a2 = some (r, X')) : Cti l E yX6_sack wsX6_sack rm_X6_sack [.ref (E.ad 0 0), .int a1, .int a2] X r X' := by
  refine meet_i (cc := cX6_sack) (maxL := 4) (own := RX6) (by decide) rfl rfl (Nat.le_of_ble_eq_true rfl) ?_
  intro p e s m below meth c Z S hB fin hP hS ls hl
  have hx := S.1
  have hb := S.2.1
  have hl : lv_has ls 4 [(0, .ref (E.ad 0 0)), (1, .int a1), (2, .int a2)] := hl
  have hinX1 : ∀ w ∈ u_ws RX1 TX1 12, w ∈ wsX6_sack := by decide +kernel
  have hinX6 : ∀ w ∈ u_ws RX6 TX6 12, w ∈ wsX6_sack := by decide +kernel
  have fl19 := S.2.2.2.2 (.fieldLink RX6 19 "MownMaze" "maze" "LMownMaze$Maze;") (by decide +kernel)
  have fl23 := S.2.2.2.2 (.fieldLink RX6 23 "MownMaze" "trial" "LMownMaze$Maze;") (by decide +kernel)
  have fl56 := S.2.2.2.2 (.fieldLink RX6 56 "MownMaze" "best" "LMownMaze$Best;") (by decide +kernel)
  have fl93 := S.2.2.2.2 (.fieldLink RX6 93 "MownMaze$Maze" "gardeners" "I") (by decide +kernel)
  have hL30 : ∀ (n30 : Nat) (X : Wd) (x1 : Int32) (x2 : Int32) (x3 : Int32) (H : Heap) (locs : List Loc) (ls : Array Slot), f_X6_sack_l30 n30 X x1 x2 x3 = some (r, X') → va_P E.1 vwCl (GW E X) H → va_S (GA E) s.heap H locs → lv_has ls 4 [(0, .ref (E.ad 0 0)), (1, .int x1), (2, .int x2), (3, .int x3)] → W p l e rm_X6_sack s m ([.ref (E.ad 0 0), .int a1, .int a2] : List Value).toArray below meth c H locs 0 0 Z (F0 m 30 ls []) := by
    intro n30
    induction n30 with
    | zero =>
      intro X x1 x2 x3 H locs ls hf
      cases (show (none : Option _) = some _ from hf)
    | succ n30 ih30 =>
      intro X x1 x2 x3 H locs ls hf hP hS hl
      unfold f_X6_sack_l30 at hf
      refine lv_iload_n hx hb dX6_sack_30 rfl (lv_at hl 3 rfl) ?_
      refine lv_aload_n hx hb dX6_sack_31 rfl (lv_at hl 0 rfl) ?_
      refine g_get (v := .ref (E.ad 4 0)) S hB hinX6 hP m_0_0 rfl rfl 1 (by decide) fl19 rfl rfl dX6_sack_32 ?_
      refine g_get (v := .int ((X 4) 0 4)) S hB hinX1 hP m_4_0 rfl rfl 4 (by decide) fl93 rfl rfl dX6_sack_35 ?_
      refine lv_icmp_ge (tgt := 75) hx hb dX6_sack_38 (by decide) (fun c7 => ?_) (fun c7 => ?_)
      · have hf := if_t c7 hf
        refine lv_aload_n hx hb dX6_sack_75 rfl (lv_at hl 0 rfl) ?_
        refine g_get (v := .ref (E.ad 3 0)) S hB hinX6 hP m_0_0 rfl rfl 9 (by decide) fl56 rfl rfl dX6_sack_76 ?_
        refine lv_iload_n hx hb dX6_sack_79 rfl (lv_at hl 2 rfl) ?_
        obtain ⟨q8, hq8, hf⟩ := bind_some hf
        refine callV_i (As := [.int x2]) (rest := []) S hB hP hS (C := RX0) (b := E.ad 3 0) (g_recv (o := 3) (d := 0) hB hP m_3_0 rfl rfl) (KW_X0_told l hE X x2 hq8) (cwV 1 S.2.2.2.2 gX6_sack_X0_told rfl rfl rfl (by decide +kernel) ⟨Nat.le_of_ble_eq_true rfl, Nat.le_of_ble_eq_true rfl⟩) rfl hl.1 rfl (Nat.le_of_ble_eq_true rfl) dX6_sack_80 ⟨Nat.zero_le _, Nat.zero_le _⟩ (fun H locs hP hS => ?_)
        exact fin dX6_sack_83 (s1 hf) (s2 hf) hP hS
      · have hf := if_f c7 hf
        refine lv_aload_n hx hb dX6_sack_41 rfl (lv_at hl 0 rfl) ?_
        refine g_get (v := .ref (E.ad 5 0)) S hB hinX6 hP m_0_0 rfl rfl 2 (by decide) fl23 rfl rfl dX6_sack_42 ?_
        refine lv_aload_n hx hb dX6_sack_45 rfl (lv_at hl 0 rfl) ?_
        refine g_get (v := .ref (E.ad 4 0)) S hB hinX6 hP m_0_0 rfl rfl 1 (by decide) fl19 rfl rfl dX6_sack_46 ?_
        obtain ⟨q9, hq9, hf⟩ := bind_some hf
        refine callV_v (As := [.ref (E.ad 4 0)]) (rest := []) S hB hP hS (C := RX1) (b := E.ad 5 0) (g_recv (o := 5) (d := 0) hB hP m_5_0 rfl rfl) (KW_X1_become l hE X (by decide) (by decide) (by decide) (by decide) (by decide) hq9) (cwV 1 S.2.2.2.2 gX6_sack_X1_become rfl rfl rfl (by decide +kernel) ⟨Nat.le_of_ble_eq_true rfl, Nat.le_of_ble_eq_true rfl⟩) rfl hl.1 rfl (Nat.le_of_ble_eq_true rfl) dX6_sack_49 ⟨Nat.zero_le _, Nat.zero_le _⟩ (fun H locs hP hS => ?_)
        refine lv_aload_n hx hb dX6_sack_52 rfl (lv_at hl 0 rfl) ?_
        refine g_get (v := .ref (E.ad 3 0)) S hB hinX6 hP m_0_0 rfl rfl 9 (by decide) fl56 rfl rfl dX6_sack_53 ?_
        refine lv_iload_n hx hb dX6_sack_56 rfl (lv_at hl 3 rfl) ?_
        refine lv_aload_n hx hb dX6_sack_57 rfl (lv_at hl 0 rfl) ?_
        refine g_get (v := .ref (E.ad 5 0)) S hB hinX6 hP m_0_0 rfl rfl 2 (by decide) fl23 rfl rfl dX6_sack_58 ?_
        refine lv_iload_n hx hb dX6_sack_61 rfl (lv_at hl 3 rfl) ?_
        refine lv_iload_n hx hb dX6_sack_62 rfl (lv_at hl 1 rfl) ?_
        obtain ⟨q10, hq10, hf⟩ := bind_some hf
        refine callV_i (As := [.int x3, .int x1]) (rest := [.int x3, .ref (E.ad 3 0)]) S hB hP hS (C := RX1) (b := E.ad 5 0) (g_recv (o := 5) (d := 0) hB hP m_5_0 rfl rfl) (KW_X1_outsWithout l hE (va_up X 5 q9) (by decide) (by decide) x3 x1 hq10) (cwV 2 S.2.2.2.2 gX6_sack_X1_outsWithout rfl rfl rfl (by decide +kernel) ⟨Nat.le_of_ble_eq_true rfl, Nat.le_of_ble_eq_true rfl⟩) rfl hl.1 rfl (Nat.le_of_ble_eq_true rfl) dX6_sack_63 ⟨Nat.zero_le _, Nat.zero_le _⟩ (fun H locs hP hS => ?_)
        obtain ⟨q11, hq11, hf⟩ := bind_some hf
        refine callV_v (As := [.int x3, .int q10.1]) (rest := []) S hB hP hS (C := RX0) (b := E.ad 3 0) (g_recv (o := 3) (d := 0) hB hP m_3_0 rfl rfl) (KW_X0_offer l hE (va_up (va_up X 5 q9) 5 q10.2) x3 q10.1 hq11) (cwV 2 S.2.2.2.2 gX6_sack_X0_offer rfl rfl rfl (by decide +kernel) ⟨Nat.le_of_ble_eq_true rfl, Nat.le_of_ble_eq_true rfl⟩) rfl hl.1 rfl (Nat.le_of_ble_eq_true rfl) dX6_sack_66 ⟨Nat.zero_le _, Nat.zero_le _⟩ (fun H locs hP hS => ?_)
        refine lv_iinc (v := x3 + (1 : Int32)) (lv' := [(3, .int (x3 + (1 : Int32))), (0, .ref (E.ad 0 0)), (1, .int x1), (2, .int x2)]) hx hb dX6_sack_69 hl (k := 3) rfl rfl (by decide) rfl (fun ls hl => ?_)
        refine lv_goto (tgt := 30) hx hb dX6_sack_72 (by decide) ?_
        exact ih30 (va_up (va_up (va_up X 5 q9) 5 q10.2) 3 q11) x1 x2 (x3 + (1 : Int32)) _ _ _ hf hP hS (lv_sub hl [1, 2, 3, 0] rfl)
  unfold f_X6_sack at hf
  refine lv_iload_n hx hb dX6_sack_0 rfl (lv_at hl 1 rfl) ?_
  obtain ⟨q1, hq1, hf⟩ := bind_some hf
  refine callS_i (As := [.int a1]) (rest := []) S hB hP hS (K_X6_isAhead l hE X a1 hq1) (va_cwS 1 S.2.2.2.2 gX6_sack_X6_isAhead rfl rfl rfl (by decide +kernel) ⟨Nat.le_of_ble_eq_true rfl, Nat.le_of_ble_eq_true rfl⟩) rfl hl.1 rfl (Nat.le_of_ble_eq_true rfl) dX6_sack_1 ⟨Nat.zero_le _, Nat.zero_le _⟩ (fun H locs hP hS => ?_)
  refine lv_if_eq (tgt := 14) hx hb dX6_sack_4 (by decide) (fun c2 => ?_) (fun c2 => ?_)
  · have hf := if_t c2 hf
    refine lv_iconst (v := -1) hx hb dX6_sack_14 (by decide) ?_
    exact fin dX6_sack_15 (s1 hf) (s2 hf) hP hS
  · have hf := if_f c2 hf
    refine lv_iload_n hx hb dX6_sack_7 rfl (lv_at hl 2 rfl) ?_
    obtain ⟨q3, hq3, hf⟩ := bind_some hf
    refine callS_i (As := [.int a2]) (rest := []) S hB hP hS (K_X6_isBit l hE X a2 hq3) (va_cwS 1 S.2.2.2.2 gX6_sack_X6_isBit rfl rfl rfl (by decide +kernel) ⟨Nat.le_of_ble_eq_true rfl, Nat.le_of_ble_eq_true rfl⟩) rfl hl.1 rfl (Nat.le_of_ble_eq_true rfl) dX6_sack_8 ⟨Nat.zero_le _, Nat.zero_le _⟩ (fun H locs hP hS => ?_)
    refine lv_if_ne (tgt := 16) hx hb dX6_sack_11 (by decide) (fun c4 => ?_) (fun c4 => ?_)
    · have hf := if_f c4 hf
      refine lv_aload_n hx hb dX6_sack_16 rfl (lv_at hl 0 rfl) ?_
      refine g_get (v := .ref (E.ad 3 0)) S hB hinX6 hP m_0_0 rfl rfl 9 (by decide) fl56 rfl rfl dX6_sack_17 ?_
      refine lv_aload_n hx hb dX6_sack_20 rfl (lv_at hl 0 rfl) ?_
      refine lv_iload_n hx hb dX6_sack_21 rfl (lv_at hl 1 rfl) ?_
      obtain ⟨q5, hq5, hf⟩ := bind_some hf
      refine callV_i (As := [.int a1]) (rest := [.ref (E.ad 3 0)]) S hB hP hS (C := RX6) (b := E.ad 0 0) (g_recv (o := 0) (d := 0) hB hP m_0_0 rfl rfl) (K_X6_outsAsItIs l hE X a1 hq5) (cwV 1 S.2.2.2.2 gX6_sack_X6_outsAsItIs rfl rfl rfl (by decide +kernel) ⟨Nat.le_of_ble_eq_true rfl, Nat.le_of_ble_eq_true rfl⟩) rfl hl.1 rfl (Nat.le_of_ble_eq_true rfl) dX6_sack_22 ⟨Nat.zero_le _, Nat.zero_le _⟩ (fun H locs hP hS => ?_)
      obtain ⟨q6, hq6, hf⟩ := bind_some hf
      refine callV_v (As := [.int q5.1]) (rest := []) S hB hP hS (C := RX0) (b := E.ad 3 0) (g_recv (o := 3) (d := 0) hB hP m_3_0 rfl rfl) (KW_X0_above l hE q5.2 q5.1 hq6) (cwV 1 S.2.2.2.2 gX6_sack_X0_above rfl rfl rfl (by decide +kernel) ⟨Nat.le_of_ble_eq_true rfl, Nat.le_of_ble_eq_true rfl⟩) rfl hl.1 rfl (Nat.le_of_ble_eq_true rfl) dX6_sack_25 ⟨Nat.zero_le _, Nat.zero_le _⟩ (fun H locs hP hS => ?_)
      refine lv_iconst (v := 0) hx hb dX6_sack_28 (by decide) ?_
      refine lv_istore_n (lv' := [(3, .int (0 : Int32)), (0, .ref (E.ad 0 0)), (1, .int a1), (2, .int a2)]) hx hb dX6_sack_29 rfl hl (by decide) rfl (fun ls hl => ?_)
      exact hL30 FUEL (va_up q5.2 3 q6) a1 a2 (0 : Int32) _ _ _ hf hP hS (lv_sub hl [1, 2, 3, 0] rfl)
    · have hf := if_t c4 hf
      refine lv_iconst (v := -1) hx hb dX6_sack_14 (by decide) ?_
      exact fin dX6_sack_15 (s1 hf) (s2 hf) hP hS
/-! X6_swap -/
abbrev rm_X6_swap : Room := { frames := 7, cells := 0, slots := 0, locals := 156 }
set_option maxHeartbeats 4000000 in
set_option maxRecDepth 100000 in
theorem K_X6_swap (l : Launch) {E : En} (hE : Inj E) (X : Wd) (a1 : Int32) (a2 : Int32) {r : Int32} {X' : Wd} (hf : f_X6_swap X a1 a2 = some (r, X')) : Cti l E yX6_swap wsX6_swap rm_X6_swap [.ref (E.ad 0 0), .int a1, .int a2] X r X' := by
  refine meet_i (cc := cX6_swap) (maxL := 5) (own := RX6) (by decide) rfl rfl (Nat.le_of_ble_eq_true rfl) ?_
  intro p e s m below meth c Z S hB fin hP hS ls hl
  have hx := S.1
  have hb := S.2.1
  have hl : lv_has ls 5 [(0, .ref (E.ad 0 0)), (1, .int a1), (2, .int a2)] := hl
  have hinX1 : ∀ w ∈ u_ws RX1 TX1 12, w ∈ wsX6_swap := by decide +kernel
  have hinX6 : ∀ w ∈ u_ws RX6 TX6 12, w ∈ wsX6_swap := by decide +kernel
  have fl19 := S.2.2.2.2 (.fieldLink RX6 19 "MownMaze" "maze" "LMownMaze$Maze;") (by decide +kernel)
  have fl23 := S.2.2.2.2 (.fieldLink RX6 23 "MownMaze" "trial" "LMownMaze$Maze;") (by decide +kernel)
  have fl56 := S.2.2.2.2 (.fieldLink RX6 56 "MownMaze" "best" "LMownMaze$Best;") (by decide +kernel)
  have fl93 := S.2.2.2.2 (.fieldLink RX6 93 "MownMaze$Maze" "gardeners" "I") (by decide +kernel)
  have hL30 : ∀ (n30 : Nat) (X : Wd) (x1 : Int32) (x2 : Int32) (x3 : Int32) (H : Heap) (locs : List Loc) (ls : Array Slot), f_X6_swap_l30 n30 X x1 x2 x3 = some (r, X') → va_P E.1 vwCl (GW E X) H → va_S (GA E) s.heap H locs → lv_has ls 5 [(0, .ref (E.ad 0 0)), (1, .int x1), (2, .int x2), (3, .int x3)] → W p l e rm_X6_swap s m ([.ref (E.ad 0 0), .int a1, .int a2] : List Value).toArray below meth c H locs 0 0 Z (F0 m 30 ls []) := by
    intro n30
    induction n30 with
    | zero =>
      intro X x1 x2 x3 H locs ls hf
      cases (show (none : Option _) = some _ from hf)
    | succ n30 ih30 =>
      have hL46 : ∀ (n46 : Nat) (X : Wd) (x1 : Int32) (x2 : Int32) (x3 : Int32) (x4 : Int32) (H : Heap) (locs : List Loc) (ls : Array Slot), f_X6_swap_l46 (f_X6_swap_l30 n30) n46 X x1 x2 x3 x4 = some (r, X') → va_P E.1 vwCl (GW E X) H → va_S (GA E) s.heap H locs → lv_has ls 5 [(0, .ref (E.ad 0 0)), (1, .int x1), (2, .int x2), (3, .int x3), (4, .int x4)] → W p l e rm_X6_swap s m ([.ref (E.ad 0 0), .int a1, .int a2] : List Value).toArray below meth c H locs 0 0 Z (F0 m 46 ls []) := by
        intro n46
        induction n46 with
        | zero =>
          intro X x1 x2 x3 x4 H locs ls hf
          cases (show (none : Option _) = some _ from hf)
        | succ n46 ih46 =>
          intro X x1 x2 x3 x4 H locs ls hf hP hS hl
          unfold f_X6_swap_l46 at hf
          refine lv_iload hx hb dX6_swap_46 (lv_at hl 4 rfl) ?_
          refine lv_aload_n hx hb dX6_swap_48 rfl (lv_at hl 0 rfl) ?_
          refine g_get (v := .ref (E.ad 4 0)) S hB hinX6 hP m_0_0 rfl rfl 1 (by decide) fl19 rfl rfl dX6_swap_49 ?_
          refine g_get (v := .int ((X 4) 0 4)) S hB hinX1 hP m_4_0 rfl rfl 4 (by decide) fl93 rfl rfl dX6_swap_52 ?_
          refine lv_icmp_ge (tgt := 107) hx hb dX6_swap_55 (by decide) (fun c7 => ?_) (fun c7 => ?_)
          · have hf := if_t c7 hf
            refine lv_iinc (v := x3 + (1 : Int32)) (lv' := [(3, .int (x3 + (1 : Int32))), (0, .ref (E.ad 0 0)), (1, .int x1), (2, .int x2), (4, .int x4)]) hx hb dX6_swap_107 hl (k := 3) rfl rfl (by decide) rfl (fun ls hl => ?_)
            refine lv_goto (tgt := 30) hx hb dX6_swap_110 (by decide) ?_
            exact ih30 X x1 x2 (x3 + (1 : Int32)) _ _ _ hf hP hS (lv_sub hl [1, 2, 3, 0] rfl)
          · have hf := if_f c7 hf
            refine lv_aload_n hx hb dX6_swap_58 rfl (lv_at hl 0 rfl) ?_
            refine g_get (v := .ref (E.ad 5 0)) S hB hinX6 hP m_0_0 rfl rfl 2 (by decide) fl23 rfl rfl dX6_swap_59 ?_
            refine lv_aload_n hx hb dX6_swap_62 rfl (lv_at hl 0 rfl) ?_
            refine g_get (v := .ref (E.ad 4 0)) S hB hinX6 hP m_0_0 rfl rfl 1 (by decide) fl19 rfl rfl dX6_swap_63 ?_
            obtain ⟨q8, hq8, hf⟩ := bind_some hf
            refine callV_v (As := [.ref (E.ad 4 0)]) (rest := []) S hB hP hS (C := RX1) (b := E.ad 5 0) (g_recv (o := 5) (d := 0) hB hP m_5_0 rfl rfl) (KW_X1_become l hE X (by decide) (by decide) (by decide) (by decide) (by decide) hq8) (cwV 1 S.2.2.2.2 gX6_swap_X1_become rfl rfl rfl (by decide +kernel) ⟨Nat.le_of_ble_eq_true rfl, Nat.le_of_ble_eq_true rfl⟩) rfl hl.1 rfl (Nat.le_of_ble_eq_true rfl) dX6_swap_66 ⟨Nat.zero_le _, Nat.zero_le _⟩ (fun H locs hP hS => ?_)
            refine lv_aload_n hx hb dX6_swap_69 rfl (lv_at hl 0 rfl) ?_
            refine g_get (v := .ref (E.ad 5 0)) S hB hinX6 hP m_0_0 rfl rfl 2 (by decide) fl23 rfl rfl dX6_swap_70 ?_
            refine lv_iload_n hx hb dX6_swap_73 rfl (lv_at hl 3 rfl) ?_
            refine lv_iload hx hb dX6_swap_74 (lv_at hl 4 rfl) ?_
            obtain ⟨q9, hq9, hf⟩ := bind_some hf
            refine callV_v (As := [.int x3, .int x4]) (rest := []) S hB hP hS (C := RX1) (b := E.ad 5 0) (g_recv (o := 5) (d := 0) hB hP m_5_0 rfl rfl) (KW_X1_exchange l hE (va_up X 5 q8) (by decide) (by decide) x3 x4 hq9) (cwV 2 S.2.2.2.2 gX6_swap_X1_exchange rfl rfl rfl (by decide +kernel) ⟨Nat.le_of_ble_eq_true rfl, Nat.le_of_ble_eq_true rfl⟩) rfl hl.1 rfl (Nat.le_of_ble_eq_true rfl) dX6_swap_76 ⟨Nat.zero_le _, Nat.zero_le _⟩ (fun H locs hP hS => ?_)
            refine lv_aload_n hx hb dX6_swap_79 rfl (lv_at hl 0 rfl) ?_
            refine g_get (v := .ref (E.ad 3 0)) S hB hinX6 hP m_0_0 rfl rfl 9 (by decide) fl56 rfl rfl dX6_swap_80 ?_
            refine lv_bipush (v := 10) hx hb dX6_swap_83 (by decide) ?_
            refine lv_iload_n hx hb dX6_swap_85 rfl (lv_at hl 3 rfl) ?_
            refine lv_imul hx hb dX6_swap_86 ?_
            refine lv_iload hx hb dX6_swap_87 (lv_at hl 4 rfl) ?_
            refine lv_iadd hx hb dX6_swap_89 ?_
            refine lv_aload_n hx hb dX6_swap_90 rfl (lv_at hl 0 rfl) ?_
            refine g_get (v := .ref (E.ad 5 0)) S hB hinX6 hP m_0_0 rfl rfl 2 (by decide) fl23 rfl rfl dX6_swap_91 ?_
            refine lv_iload_n hx hb dX6_swap_94 rfl (lv_at hl 1 rfl) ?_
            obtain ⟨q10, hq10, hf⟩ := bind_some hf
            refine callV_i (As := [.int x1]) (rest := [.int (((10 : Int32) * x3) + x4), .ref (E.ad 3 0)]) S hB hP hS (C := RX1) (b := E.ad 5 0) (g_recv (o := 5) (d := 0) hB hP m_5_0 rfl rfl) (KW_X1_outsBehind l hE (va_up (va_up X 5 q8) 5 q9) (by decide) (by decide) x1 hq10) (cwV 1 S.2.2.2.2 gX6_swap_X1_outsBehind rfl rfl rfl (by decide +kernel) ⟨Nat.le_of_ble_eq_true rfl, Nat.le_of_ble_eq_true rfl⟩) rfl hl.1 rfl (Nat.le_of_ble_eq_true rfl) dX6_swap_95 ⟨Nat.zero_le _, Nat.zero_le _⟩ (fun H locs hP hS => ?_)
            obtain ⟨q11, hq11, hf⟩ := bind_some hf
            refine callV_v (As := [.int (((10 : Int32) * x3) + x4), .int q10.1]) (rest := []) S hB hP hS (C := RX0) (b := E.ad 3 0) (g_recv (o := 3) (d := 0) hB hP m_3_0 rfl rfl) (KW_X0_offer l hE (va_up (va_up (va_up X 5 q8) 5 q9) 5 q10.2) (((10 : Int32) * x3) + x4) q10.1 hq11) (cwV 2 S.2.2.2.2 gX6_swap_X0_offer rfl rfl rfl (by decide +kernel) ⟨Nat.le_of_ble_eq_true rfl, Nat.le_of_ble_eq_true rfl⟩) rfl hl.1 rfl (Nat.le_of_ble_eq_true rfl) dX6_swap_98 ⟨Nat.zero_le _, Nat.zero_le _⟩ (fun H locs hP hS => ?_)
            refine lv_iinc (v := x4 + (1 : Int32)) (lv' := [(4, .int (x4 + (1 : Int32))), (0, .ref (E.ad 0 0)), (1, .int x1), (2, .int x2), (3, .int x3)]) hx hb dX6_swap_101 hl (k := 4) rfl rfl (by decide) rfl (fun ls hl => ?_)
            refine lv_goto (tgt := 46) hx hb dX6_swap_104 (by decide) ?_
            exact ih46 (va_up (va_up (va_up (va_up X 5 q8) 5 q9) 5 q10.2) 3 q11) x1 x2 x3 (x4 + (1 : Int32)) _ _ _ hf hP hS (lv_sub hl [1, 2, 3, 4, 0] rfl)
      intro X x1 x2 x3 H locs ls hf hP hS hl
      unfold f_X6_swap_l30 at hf
      refine lv_iload_n hx hb dX6_swap_30 rfl (lv_at hl 3 rfl) ?_
      refine lv_aload_n hx hb dX6_swap_31 rfl (lv_at hl 0 rfl) ?_
      refine g_get (v := .ref (E.ad 4 0)) S hB hinX6 hP m_0_0 rfl rfl 1 (by decide) fl19 rfl rfl dX6_swap_32 ?_
      refine g_get (v := .int ((X 4) 0 4)) S hB hinX1 hP m_4_0 rfl rfl 4 (by decide) fl93 rfl rfl dX6_swap_35 ?_
      refine lv_icmp_ge (tgt := 113) hx hb dX6_swap_38 (by decide) (fun c12 => ?_) (fun c12 => ?_)
      · have hf := if_t c12 hf
        refine lv_aload_n hx hb dX6_swap_113 rfl (lv_at hl 0 rfl) ?_
        refine g_get (v := .ref (E.ad 3 0)) S hB hinX6 hP m_0_0 rfl rfl 9 (by decide) fl56 rfl rfl dX6_swap_114 ?_
        refine lv_iload_n hx hb dX6_swap_117 rfl (lv_at hl 2 rfl) ?_
        obtain ⟨q13, hq13, hf⟩ := bind_some hf
        refine callV_i (As := [.int x2]) (rest := []) S hB hP hS (C := RX0) (b := E.ad 3 0) (g_recv (o := 3) (d := 0) hB hP m_3_0 rfl rfl) (KW_X0_told l hE X x2 hq13) (cwV 1 S.2.2.2.2 gX6_swap_X0_told rfl rfl rfl (by decide +kernel) ⟨Nat.le_of_ble_eq_true rfl, Nat.le_of_ble_eq_true rfl⟩) rfl hl.1 rfl (Nat.le_of_ble_eq_true rfl) dX6_swap_118 ⟨Nat.zero_le _, Nat.zero_le _⟩ (fun H locs hP hS => ?_)
        exact fin dX6_swap_121 (s1 hf) (s2 hf) hP hS
      · have hf := if_f c12 hf
        refine lv_iload_n hx hb dX6_swap_41 rfl (lv_at hl 3 rfl) ?_
        refine lv_iconst (v := 1) hx hb dX6_swap_42 (by decide) ?_
        refine lv_iadd hx hb dX6_swap_43 ?_
        refine lv_istore (lv' := [(4, .int (x3 + (1 : Int32))), (0, .ref (E.ad 0 0)), (1, .int x1), (2, .int x2), (3, .int x3)]) hx hb dX6_swap_44 hl (by decide) rfl (fun ls hl => ?_)
        exact hL46 FUEL X x1 x2 x3 (x3 + (1 : Int32)) _ _ _ hf hP hS (lv_sub hl [1, 2, 3, 4, 0] rfl)
  unfold f_X6_swap at hf
  refine lv_iload_n hx hb dX6_swap_0 rfl (lv_at hl 1 rfl) ?_
  obtain ⟨q1, hq1, hf⟩ := bind_some hf
  refine callS_i (As := [.int a1]) (rest := []) S hB hP hS (K_X6_isAhead l hE X a1 hq1) (va_cwS 1 S.2.2.2.2 gX6_swap_X6_isAhead rfl rfl rfl (by decide +kernel) ⟨Nat.le_of_ble_eq_true rfl, Nat.le_of_ble_eq_true rfl⟩) rfl hl.1 rfl (Nat.le_of_ble_eq_true rfl) dX6_swap_1 ⟨Nat.zero_le _, Nat.zero_le _⟩ (fun H locs hP hS => ?_)
  refine lv_if_eq (tgt := 14) hx hb dX6_swap_4 (by decide) (fun c2 => ?_) (fun c2 => ?_)
  · have hf := if_t c2 hf
    refine lv_iconst (v := -1) hx hb dX6_swap_14 (by decide) ?_
    exact fin dX6_swap_15 (s1 hf) (s2 hf) hP hS
  · have hf := if_f c2 hf
    refine lv_iload_n hx hb dX6_swap_7 rfl (lv_at hl 2 rfl) ?_
    obtain ⟨q3, hq3, hf⟩ := bind_some hf
    refine callS_i (As := [.int a2]) (rest := []) S hB hP hS (K_X6_isBit l hE X a2 hq3) (va_cwS 1 S.2.2.2.2 gX6_swap_X6_isBit rfl rfl rfl (by decide +kernel) ⟨Nat.le_of_ble_eq_true rfl, Nat.le_of_ble_eq_true rfl⟩) rfl hl.1 rfl (Nat.le_of_ble_eq_true rfl) dX6_swap_8 ⟨Nat.zero_le _, Nat.zero_le _⟩ (fun H locs hP hS => ?_)
    refine lv_if_ne (tgt := 16) hx hb dX6_swap_11 (by decide) (fun c4 => ?_) (fun c4 => ?_)
    · have hf := if_f c4 hf
      refine lv_aload_n hx hb dX6_swap_16 rfl (lv_at hl 0 rfl) ?_
      refine g_get (v := .ref (E.ad 3 0)) S hB hinX6 hP m_0_0 rfl rfl 9 (by decide) fl56 rfl rfl dX6_swap_17 ?_
      refine lv_aload_n hx hb dX6_swap_20 rfl (lv_at hl 0 rfl) ?_
      refine lv_iload_n hx hb dX6_swap_21 rfl (lv_at hl 1 rfl) ?_
      obtain ⟨q5, hq5, hf⟩ := bind_some hf
      refine callV_i (As := [.int a1]) (rest := [.ref (E.ad 3 0)]) S hB hP hS (C := RX6) (b := E.ad 0 0) (g_recv (o := 0) (d := 0) hB hP m_0_0 rfl rfl) (K_X6_outsAsItIs l hE X a1 hq5) (cwV 1 S.2.2.2.2 gX6_swap_X6_outsAsItIs rfl rfl rfl (by decide +kernel) ⟨Nat.le_of_ble_eq_true rfl, Nat.le_of_ble_eq_true rfl⟩) rfl hl.1 rfl (Nat.le_of_ble_eq_true rfl) dX6_swap_22 ⟨Nat.zero_le _, Nat.zero_le _⟩ (fun H locs hP hS => ?_)
      obtain ⟨q6, hq6, hf⟩ := bind_some hf
      refine callV_v (As := [.int q5.1]) (rest := []) S hB hP hS (C := RX0) (b := E.ad 3 0) (g_recv (o := 3) (d := 0) hB hP m_3_0 rfl rfl) (KW_X0_above l hE q5.2 q5.1 hq6) (cwV 1 S.2.2.2.2 gX6_swap_X0_above rfl rfl rfl (by decide +kernel) ⟨Nat.le_of_ble_eq_true rfl, Nat.le_of_ble_eq_true rfl⟩) rfl hl.1 rfl (Nat.le_of_ble_eq_true rfl) dX6_swap_25 ⟨Nat.zero_le _, Nat.zero_le _⟩ (fun H locs hP hS => ?_)
      refine lv_iconst (v := 0) hx hb dX6_swap_28 (by decide) ?_
      refine lv_istore_n (lv' := [(3, .int (0 : Int32)), (0, .ref (E.ad 0 0)), (1, .int a1), (2, .int a2)]) hx hb dX6_swap_29 rfl hl (by decide) rfl (fun ls hl => ?_)
      exact hL30 FUEL (va_up q5.2 3 q6) a1 a2 (0 : Int32) _ _ _ hf hP hS (lv_sub hl [1, 2, 3, 0] rfl)
    · have hf := if_t c4 hf
      refine lv_iconst (v := -1) hx hb dX6_swap_14 (by decide) ?_
      exact fin dX6_swap_15 (s1 hf) (s2 hf) hP hS
/-! X6_kind -/
abbrev rm_X6_kind : Room := { frames := 6, cells := 0, slots := 0, locals := 135 }
set_option maxHeartbeats 4000000 in
set_option maxRecDepth 100000 in
theorem K_X6_kind (l : Launch) {E : En} (hE : Inj E) (X : Wd) (a1 : Int32) (a2 : Int32) (a3 : Int32) {r : Int32} {X' : Wd} (hf : f_X6_kind X a1 a2 a3 = some (r, X')) : Cti l E yX6_kind wsX6_kind rm_X6_kind [.ref (E.ad 0 0), .int a1, .int a2, .int a3] X r X' := by
  refine meet_i (cc := cX6_kind) (maxL := 5) (own := RX6) (by decide) rfl rfl (Nat.le_of_ble_eq_true rfl) ?_
  intro p e s m below meth c Z S hB fin hP hS ls hl
  have hx := S.1
  have hb := S.2.1
  have hl : lv_has ls 5 [(0, .ref (E.ad 0 0)), (1, .int a1), (2, .int a2), (3, .int a3)] := hl
  have hinX1 : ∀ w ∈ u_ws RX1 TX1 12, w ∈ wsX6_kind := by decide +kernel
  have hinX6 : ∀ w ∈ u_ws RX6 TX6 12, w ∈ wsX6_kind := by decide +kernel
  have fl19 := S.2.2.2.2 (.fieldLink RX6 19 "MownMaze" "maze" "LMownMaze$Maze;") (by decide +kernel)
  have fl23 := S.2.2.2.2 (.fieldLink RX6 23 "MownMaze" "trial" "LMownMaze$Maze;") (by decide +kernel)
  have fl56 := S.2.2.2.2 (.fieldLink RX6 56 "MownMaze" "best" "LMownMaze$Best;") (by decide +kernel)
  have fl230 := S.2.2.2.2 (.fieldLink RX6 230 "MownMaze$Maze" "kind" "[I") (by decide +kernel)
  have hL35 : ∀ (n35 : Nat) (X : Wd) (x1 : Int32) (x2 : Int32) (x3 : Int32) (x4 : Int32) (H : Heap) (locs : List Loc) (ls : Array Slot), f_X6_kind_l35 n35 X x1 x2 x3 x4 = some (r, X') → va_P E.1 vwCl (GW E X) H → va_S (GA E) s.heap H locs → lv_has ls 5 [(0, .ref (E.ad 0 0)), (1, .int x1), (2, .int x2), (3, .int x3), (4, .int x4)] → W p l e rm_X6_kind s m ([.ref (E.ad 0 0), .int a1, .int a2, .int a3] : List Value).toArray below meth c H locs 0 0 Z (F0 m 35 ls []) := by
    intro n35
    induction n35 with
    | zero =>
      intro X x1 x2 x3 x4 H locs ls hf
      cases (show (none : Option _) = some _ from hf)
    | succ n35 ih35 =>
      intro X x1 x2 x3 x4 H locs ls hf hP hS hl
      unfold f_X6_kind_l35 at hf
      refine lv_iload hx hb dX6_kind_35 (lv_at hl 4 rfl) ?_
      refine lv_iconst (v := 4) hx hb dX6_kind_37 (by decide) ?_
      refine lv_icmp_ge (tgt := 86) hx hb dX6_kind_38 (by decide) (fun c8 => ?_) (fun c8 => ?_)
      · have hf := if_t c8 hf
        refine lv_aload_n hx hb dX6_kind_86 rfl (lv_at hl 0 rfl) ?_
        refine g_get (v := .ref (E.ad 3 0)) S hB hinX6 hP m_0_0 rfl rfl 9 (by decide) fl56 rfl rfl dX6_kind_87 ?_
        refine lv_iload_n hx hb dX6_kind_90 rfl (lv_at hl 3 rfl) ?_
        obtain ⟨q9, hq9, hf⟩ := bind_some hf
        refine callV_i (As := [.int x3]) (rest := []) S hB hP hS (C := RX0) (b := E.ad 3 0) (g_recv (o := 3) (d := 0) hB hP m_3_0 rfl rfl) (KW_X0_told l hE X x3 hq9) (cwV 1 S.2.2.2.2 gX6_kind_X0_told rfl rfl rfl (by decide +kernel) ⟨Nat.le_of_ble_eq_true rfl, Nat.le_of_ble_eq_true rfl⟩) rfl hl.1 rfl (Nat.le_of_ble_eq_true rfl) dX6_kind_91 ⟨Nat.zero_le _, Nat.zero_le _⟩ (fun H locs hP hS => ?_)
        exact fin dX6_kind_94 (s1 hf) (s2 hf) hP hS
      · have hf := if_f c8 hf
        refine lv_aload_n hx hb dX6_kind_41 rfl (lv_at hl 0 rfl) ?_
        refine g_get (v := .ref (E.ad 5 0)) S hB hinX6 hP m_0_0 rfl rfl 2 (by decide) fl23 rfl rfl dX6_kind_42 ?_
        refine lv_aload_n hx hb dX6_kind_45 rfl (lv_at hl 0 rfl) ?_
        refine g_get (v := .ref (E.ad 4 0)) S hB hinX6 hP m_0_0 rfl rfl 1 (by decide) fl19 rfl rfl dX6_kind_46 ?_
        obtain ⟨q10, hq10, hf⟩ := bind_some hf
        refine callV_v (As := [.ref (E.ad 4 0)]) (rest := []) S hB hP hS (C := RX1) (b := E.ad 5 0) (g_recv (o := 5) (d := 0) hB hP m_5_0 rfl rfl) (KW_X1_become l hE X (by decide) (by decide) (by decide) (by decide) (by decide) hq10) (cwV 1 S.2.2.2.2 gX6_kind_X1_become rfl rfl rfl (by decide +kernel) ⟨Nat.le_of_ble_eq_true rfl, Nat.le_of_ble_eq_true rfl⟩) rfl hl.1 rfl (Nat.le_of_ble_eq_true rfl) dX6_kind_49 ⟨Nat.zero_le _, Nat.zero_le _⟩ (fun H locs hP hS => ?_)
        refine lv_aload_n hx hb dX6_kind_52 rfl (lv_at hl 0 rfl) ?_
        refine g_get (v := .ref (E.ad 5 0)) S hB hinX6 hP m_0_0 rfl rfl 2 (by decide) fl23 rfl rfl dX6_kind_53 ?_
        refine g_get (v := .ref (E.ad 5 1)) S hB hinX1 hP m_5_0 rfl rfl 5 (by decide) fl230 rfl rfl dX6_kind_56 ?_
        refine lv_iload_n hx hb dX6_kind_59 rfl (lv_at hl 1 rfl) ?_
        refine lv_iload hx hb dX6_kind_60 (lv_at hl 4 rfl) ?_
        obtain ⟨hv11, hf⟩ := ck_some hf
        refine g_iast (r := (va_up X 5 q10) 5 1) S hB hE hP hS m_5_1 rfl rfl (fun _ => rfl) hv11 (X' := (wo (va_up X 5 q10) 5 1 x1.toNatClampNeg x4)) rfl dX6_kind_62 (fun H locs hP hS => ?_)
        refine lv_aload_n hx hb dX6_kind_63 rfl (lv_at hl 0 rfl) ?_
        refine g_get (v := .ref (E.ad 3 0)) S hB hinX6 hP m_0_0 rfl rfl 9 (by decide) fl56 rfl rfl dX6_kind_64 ?_
        refine lv_iload hx hb dX6_kind_67 (lv_at hl 4 rfl) ?_
        refine lv_aload_n hx hb dX6_kind_69 rfl (lv_at hl 0 rfl) ?_
        refine g_get (v := .ref (E.ad 5 0)) S hB hinX6 hP m_0_0 rfl rfl 2 (by decide) fl23 rfl rfl dX6_kind_70 ?_
        refine lv_iload_n hx hb dX6_kind_73 rfl (lv_at hl 2 rfl) ?_
        obtain ⟨q12, hq12, hf⟩ := bind_some hf
        refine callV_i (As := [.int x2]) (rest := [.int x4, .ref (E.ad 3 0)]) S hB hP hS (C := RX1) (b := E.ad 5 0) (g_recv (o := 5) (d := 0) hB hP m_5_0 rfl rfl) (KW_X1_outsBehind l hE (wo (va_up X 5 q10) 5 1 x1.toNatClampNeg x4) (by decide) (by decide) x2 hq12) (cwV 1 S.2.2.2.2 gX6_kind_X1_outsBehind rfl rfl rfl (by decide +kernel) ⟨Nat.le_of_ble_eq_true rfl, Nat.le_of_ble_eq_true rfl⟩) rfl hl.1 rfl (Nat.le_of_ble_eq_true rfl) dX6_kind_74 ⟨Nat.zero_le _, Nat.zero_le _⟩ (fun H locs hP hS => ?_)
        obtain ⟨q13, hq13, hf⟩ := bind_some hf
        refine callV_v (As := [.int x4, .int q12.1]) (rest := []) S hB hP hS (C := RX0) (b := E.ad 3 0) (g_recv (o := 3) (d := 0) hB hP m_3_0 rfl rfl) (KW_X0_offer l hE (va_up (wo (va_up X 5 q10) 5 1 x1.toNatClampNeg x4) 5 q12.2) x4 q12.1 hq13) (cwV 2 S.2.2.2.2 gX6_kind_X0_offer rfl rfl rfl (by decide +kernel) ⟨Nat.le_of_ble_eq_true rfl, Nat.le_of_ble_eq_true rfl⟩) rfl hl.1 rfl (Nat.le_of_ble_eq_true rfl) dX6_kind_77 ⟨Nat.zero_le _, Nat.zero_le _⟩ (fun H locs hP hS => ?_)
        refine lv_iinc (v := x4 + (1 : Int32)) (lv' := [(4, .int (x4 + (1 : Int32))), (0, .ref (E.ad 0 0)), (1, .int x1), (2, .int x2), (3, .int x3)]) hx hb dX6_kind_80 hl (k := 4) rfl rfl (by decide) rfl (fun ls hl => ?_)
        refine lv_goto (tgt := 35) hx hb dX6_kind_83 (by decide) ?_
        exact ih35 (va_up (va_up (wo (va_up X 5 q10) 5 1 x1.toNatClampNeg x4) 5 q12.2) 3 q13) x1 x2 x3 (x4 + (1 : Int32)) _ _ _ hf hP hS (lv_sub hl [1, 2, 3, 4, 0] rfl)
  unfold f_X6_kind at hf
  refine lv_aload_n hx hb dX6_kind_0 rfl (lv_at hl 0 rfl) ?_
  refine lv_iload_n hx hb dX6_kind_1 rfl (lv_at hl 1 rfl) ?_
  obtain ⟨q1, hq1, hf⟩ := bind_some hf
  refine callV_i (As := [.int a1]) (rest := []) S hB hP hS (C := RX6) (b := E.ad 0 0) (g_recv (o := 0) (d := 0) hB hP m_0_0 rfl rfl) (K_X6_isGardener l hE X a1 hq1) (cwV 1 S.2.2.2.2 gX6_kind_X6_isGardener rfl rfl rfl (by decide +kernel) ⟨Nat.le_of_ble_eq_true rfl, Nat.le_of_ble_eq_true rfl⟩) rfl hl.1 rfl (Nat.le_of_ble_eq_true rfl) dX6_kind_2 ⟨Nat.zero_le _, Nat.zero_le _⟩ (fun H locs hP hS => ?_)
  refine lv_if_eq (tgt := 22) hx hb dX6_kind_5 (by decide) (fun c2 => ?_) (fun c2 => ?_)
  · have hf := if_t c2 hf
    refine lv_iconst (v := -1) hx hb dX6_kind_22 (by decide) ?_
    exact fin dX6_kind_23 (s1 hf) (s2 hf) hP hS
  · have hf := if_f c2 hf
    refine lv_iload_n hx hb dX6_kind_8 rfl (lv_at hl 2 rfl) ?_
    obtain ⟨q3, hq3, hf⟩ := bind_some hf
    refine callS_i (As := [.int a2]) (rest := []) S hB hP hS (K_X6_isAhead l hE X a2 hq3) (va_cwS 1 S.2.2.2.2 gX6_kind_X6_isAhead rfl rfl rfl (by decide +kernel) ⟨Nat.le_of_ble_eq_true rfl, Nat.le_of_ble_eq_true rfl⟩) rfl hl.1 rfl (Nat.le_of_ble_eq_true rfl) dX6_kind_9 ⟨Nat.zero_le _, Nat.zero_le _⟩ (fun H locs hP hS => ?_)
    refine lv_if_eq (tgt := 22) hx hb dX6_kind_12 (by decide) (fun c4 => ?_) (fun c4 => ?_)
    · have hf := if_t c4 hf
      refine lv_iconst (v := -1) hx hb dX6_kind_22 (by decide) ?_
      exact fin dX6_kind_23 (s1 hf) (s2 hf) hP hS
    · have hf := if_f c4 hf
      refine lv_iload_n hx hb dX6_kind_15 rfl (lv_at hl 3 rfl) ?_
      obtain ⟨q5, hq5, hf⟩ := bind_some hf
      refine callS_i (As := [.int a3]) (rest := []) S hB hP hS (K_X6_isBit l hE X a3 hq5) (va_cwS 1 S.2.2.2.2 gX6_kind_X6_isBit rfl rfl rfl (by decide +kernel) ⟨Nat.le_of_ble_eq_true rfl, Nat.le_of_ble_eq_true rfl⟩) rfl hl.1 rfl (Nat.le_of_ble_eq_true rfl) dX6_kind_16 ⟨Nat.zero_le _, Nat.zero_le _⟩ (fun H locs hP hS => ?_)
      refine lv_if_ne (tgt := 24) hx hb dX6_kind_19 (by decide) (fun c6 => ?_) (fun c6 => ?_)
      · have hf := if_f c6 hf
        refine lv_aload_n hx hb dX6_kind_24 rfl (lv_at hl 0 rfl) ?_
        refine g_get (v := .ref (E.ad 3 0)) S hB hinX6 hP m_0_0 rfl rfl 9 (by decide) fl56 rfl rfl dX6_kind_25 ?_
        refine lv_iconst (v := -1) hx hb dX6_kind_28 (by decide) ?_
        obtain ⟨q7, hq7, hf⟩ := bind_some hf
        refine callV_v (As := [.int (-1 : Int32)]) (rest := []) S hB hP hS (C := RX0) (b := E.ad 3 0) (g_recv (o := 3) (d := 0) hB hP m_3_0 rfl rfl) (KW_X0_above l hE X (-1 : Int32) hq7) (cwV 1 S.2.2.2.2 gX6_kind_X0_above rfl rfl rfl (by decide +kernel) ⟨Nat.le_of_ble_eq_true rfl, Nat.le_of_ble_eq_true rfl⟩) rfl hl.1 rfl (Nat.le_of_ble_eq_true rfl) dX6_kind_29 ⟨Nat.zero_le _, Nat.zero_le _⟩ (fun H locs hP hS => ?_)
        refine lv_iconst (v := 0) hx hb dX6_kind_32 (by decide) ?_
        refine lv_istore (lv' := [(4, .int (0 : Int32)), (0, .ref (E.ad 0 0)), (1, .int a1), (2, .int a2), (3, .int a3)]) hx hb dX6_kind_33 hl (by decide) rfl (fun ls hl => ?_)
        exact hL35 FUEL (va_up X 3 q7) a1 a2 a3 (0 : Int32) _ _ _ hf hP hS (lv_sub hl [1, 2, 3, 4, 0] rfl)
      · have hf := if_t c6 hf
        refine lv_iconst (v := -1) hx hb dX6_kind_22 (by decide) ?_
        exact fin dX6_kind_23 (s1 hf) (s2 hf) hP hS
/-! X6_isTenths -/
abbrev rm_X6_isTenths : Room := { frames := 0, cells := 0, slots := 0, locals := 0 }
set_option maxHeartbeats 4000000 in
set_option maxRecDepth 100000 in
theorem K_X6_isTenths (l : Launch) {E : En} (hE : Inj E) (X : Wd) (a0 : Int32) {r : Int32} (hf : f_X6_isTenths a0 = some r) : Cti l E yX6_isTenths wsX6_isTenths rm_X6_isTenths [.int a0] X r X := by
  refine meet_z (cc := cX6_isTenths) (maxL := 1) (own := RX6) (by decide) rfl rfl (Nat.le_of_ble_eq_true rfl) ?_
  intro p e s m below meth c Z S hB fin hP hS ls hl
  have hx := S.1
  have hb := S.2.1
  have hl : lv_has ls 1 [(0, .int a0)] := hl
  unfold f_X6_isTenths at hf
  refine lv_iload_n hx hb dX6_isTenths_0 rfl (lv_at hl 0 rfl) ?_
  refine lv_if_lt (tgt := 14) hx hb dX6_isTenths_1 (by decide) (fun c1 => ?_) (fun c1 => ?_)
  · have hf := if_t c1 hf
    refine lv_iconst (v := 0) hx hb dX6_isTenths_14 (by decide) ?_
    exact fin dX6_isTenths_15 (nz01 (by decide)) (s0 hf) rfl hP hS
  · have hf := if_f c1 hf
    refine lv_iload_n hx hb dX6_isTenths_4 rfl (lv_at hl 0 rfl) ?_
    refine lv_bipush (v := 10) hx hb dX6_isTenths_5 (by decide) ?_
    refine lv_icmp_gt (tgt := 14) hx hb dX6_isTenths_7 (by decide) (fun c2 => ?_) (fun c2 => ?_)
    · have hf := if_t c2 hf
      refine lv_iconst (v := 0) hx hb dX6_isTenths_14 (by decide) ?_
      exact fin dX6_isTenths_15 (nz01 (by decide)) (s0 hf) rfl hP hS
    · have hf := if_f c2 hf
      refine lv_iconst (v := 1) hx hb dX6_isTenths_10 (by decide) ?_
      refine lv_goto (tgt := 15) hx hb dX6_isTenths_11 (by decide) ?_
      exact fin dX6_isTenths_15 (nz01 (by decide)) (s0 hf) rfl hP hS
/-! X6_isRainy -/
abbrev rm_X6_isRainy : Room := { frames := 0, cells := 0, slots := 0, locals := 0 }
set_option maxHeartbeats 4000000 in
set_option maxRecDepth 100000 in
theorem K_X6_isRainy (l : Launch) {E : En} (hE : Inj E) (X : Wd) (a0 : Int32) {r : Int32} (hf : f_X6_isRainy a0 = some r) : Cti l E yX6_isRainy wsX6_isRainy rm_X6_isRainy [.int a0] X r X := by
  refine meet_z (cc := cX6_isRainy) (maxL := 1) (own := RX6) (by decide) rfl rfl (Nat.le_of_ble_eq_true rfl) ?_
  intro p e s m below meth c Z S hB fin hP hS ls hl
  have hx := S.1
  have hb := S.2.1
  have hl : lv_has ls 1 [(0, .int a0)] := hl
  unfold f_X6_isRainy at hf
  refine lv_iload_n hx hb dX6_isRainy_0 rfl (lv_at hl 0 rfl) ?_
  refine lv_if_lt (tgt := 14) hx hb dX6_isRainy_1 (by decide) (fun c1 => ?_) (fun c1 => ?_)
  · have hf := if_t c1 hf
    refine lv_iconst (v := 0) hx hb dX6_isRainy_14 (by decide) ?_
    exact fin dX6_isRainy_15 (nz01 (by decide)) (s0 hf) rfl hP hS
  · have hf := if_f c1 hf
    refine lv_iload_n hx hb dX6_isRainy_4 rfl (lv_at hl 0 rfl) ?_
    refine lv_bipush (v := 8) hx hb dX6_isRainy_5 (by decide) ?_
    refine lv_icmp_gt (tgt := 14) hx hb dX6_isRainy_7 (by decide) (fun c2 => ?_) (fun c2 => ?_)
    · have hf := if_t c2 hf
      refine lv_iconst (v := 0) hx hb dX6_isRainy_14 (by decide) ?_
      exact fin dX6_isRainy_15 (nz01 (by decide)) (s0 hf) rfl hP hS
    · have hf := if_f c2 hf
      refine lv_iconst (v := 1) hx hb dX6_isRainy_10 (by decide) ?_
      refine lv_goto (tgt := 15) hx hb dX6_isRainy_11 (by decide) ?_
      exact fin dX6_isRainy_15 (nz01 (by decide)) (s0 hf) rfl hP hS
