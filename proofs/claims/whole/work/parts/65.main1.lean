/-! X6_feed -/
abbrev rm_X6_feed : Room := { frames := 1, cells := 0, slots := 0, locals := 21 }
set_option maxHeartbeats 4000000 in
set_option maxRecDepth 100000 in
theorem K_X6_feed (l : Launch) {E : En} (hE : Inj E) (X : Wd) (a1 : Int32) {r : Int32} {X' : Wd} (hf : f_X6_feed X a1 = some (r, X')) : Cti l E yX6_feed wsX6_feed rm_X6_feed [.ref (E.ad 0 0), .int a1] X r X' := by
  refine meet_i (cc := cX6_feed) (maxL := 2) (own := RX6) (by decide) rfl rfl (Nat.le_of_ble_eq_true rfl) ?_
  intro p e s m below meth c Z S hB fin hP hS ls hl
  have hx := S.1
  have hb := S.2.1
  have hl : lv_has ls 2 [(0, .ref (E.ad 0 0)), (1, .int a1)] := hl
  have hinX3 : ∀ w ∈ u_ws RX3 TX3 8, w ∈ wsX6_feed := by decide +kernel
  have hinX6 : ∀ w ∈ u_ws RX6 TX6 12, w ∈ wsX6_feed := by decide +kernel
  have fl10 := S.2.2.2.2 (.fieldLink RX6 10 "MownMaze" "reader" "LMownMaze$Reader;") (by decide +kernel)
  have fl72 := S.2.2.2.2 (.fieldLink RX6 72 "MownMaze$Reader" "length" "I") (by decide +kernel)
  unfold f_X6_feed at hf
  refine lv_iload_n hx hb dX6_feed_0 rfl (lv_at hl 1 rfl) ?_
  refine lv_if_lt (tgt := 10) hx hb dX6_feed_1 (by decide) (fun c1 => ?_) (fun c1 => ?_)
  · have hf := if_t c1 hf
    refine lv_iconst (v := -1) hx hb dX6_feed_10 (by decide) ?_
    exact fin dX6_feed_11 (s1 hf) (s2 hf) hP hS
  · have hf := if_f c1 hf
    refine lv_iload_n hx hb dX6_feed_4 rfl (lv_at hl 1 rfl) ?_
    refine lv_bipush (v := 127) hx hb dX6_feed_5 (by decide) ?_
    refine lv_icmp_le (tgt := 12) hx hb dX6_feed_7 (by decide) (fun c2 => ?_) (fun c2 => ?_)
    · have hf := if_t c2 hf
      refine lv_aload_n hx hb dX6_feed_12 rfl (lv_at hl 0 rfl) ?_
      refine g_get (v := .ref (E.ad 1 0)) S hB hinX6 hP m_0_0 rfl rfl 0 (by decide) fl10 rfl rfl dX6_feed_13 ?_
      refine lv_iload_n hx hb dX6_feed_16 rfl (lv_at hl 1 rfl) ?_
      obtain ⟨q3, hq3, hf⟩ := bind_some hf
      refine callV_i (As := [.int a1]) (rest := []) S hB hP hS (C := RX3) (b := E.ad 1 0) (g_recv (o := 1) (d := 0) hB hP m_1_0 rfl rfl) (KW_X3_append l hE X a1 hq3) (cwV 1 S.2.2.2.2 gX6_feed_X3_append rfl rfl rfl (by decide +kernel) ⟨Nat.le_of_ble_eq_true rfl, Nat.le_of_ble_eq_true rfl⟩) rfl hl.1 rfl (Nat.le_of_ble_eq_true rfl) dX6_feed_17 ⟨Nat.zero_le _, Nat.zero_le _⟩ (fun H locs hP hS => ?_)
      refine lv_if_eq (tgt := 33) hx hb dX6_feed_20 (by decide) (fun c4 => ?_) (fun c4 => ?_)
      · have hf := if_t c4 hf
        refine lv_bipush (v := -3) hx hb dX6_feed_33 (by decide) ?_
        exact fin dX6_feed_35 (s1 hf) (s2 hf) hP hS
      · have hf := if_f c4 hf
        refine lv_aload_n hx hb dX6_feed_23 rfl (lv_at hl 0 rfl) ?_
        refine g_get (v := .ref (E.ad 1 0)) S hB hinX6 hP m_0_0 rfl rfl 0 (by decide) fl10 rfl rfl dX6_feed_24 ?_
        refine g_get (v := .int (q3.2 0 1)) S hB hinX3 hP m_1_0 rfl rfl 1 (by decide) fl72 rfl rfl dX6_feed_27 ?_
        refine lv_goto (tgt := 35) hx hb dX6_feed_30 (by decide) ?_
        exact fin dX6_feed_35 (s1 hf) (s2 hf) hP hS
    · have hf := if_f c2 hf
      refine lv_iconst (v := -1) hx hb dX6_feed_10 (by decide) ?_
      exact fin dX6_feed_11 (s1 hf) (s2 hf) hP hS
/-! X6_end -/
abbrev rm_X6_end : Room := { frames := 0, cells := 0, slots := 0, locals := 0 }
set_option maxHeartbeats 4000000 in
set_option maxRecDepth 100000 in
theorem K_X6_end (l : Launch) {E : En} (hE : Inj E) (X : Wd) (a1 : Int32) {r : Int32} {X' : Wd} (hf : f_X6_end X a1 = some (r, X')) : Cti l E yX6_end wsX6_end rm_X6_end [.ref (E.ad 0 0), .int a1] X r X' := by
  refine meet_i (cc := cX6_end) (maxL := 3) (own := RX6) (by decide) rfl rfl (Nat.le_of_ble_eq_true rfl) ?_
  intro p e s m below meth c Z S hB fin hP hS ls hl
  have hx := S.1
  have hb := S.2.1
  have hl : lv_has ls 3 [(0, .ref (E.ad 0 0)), (1, .int a1)] := hl
  have hinX3 : ∀ w ∈ u_ws RX3 TX3 8, w ∈ wsX6_end := by decide +kernel
  have hinX6 : ∀ w ∈ u_ws RX6 TX6 12, w ∈ wsX6_end := by decide +kernel
  have fl10 := S.2.2.2.2 (.fieldLink RX6 10 "MownMaze" "reader" "LMownMaze$Reader;") (by decide +kernel)
  have fl72 := S.2.2.2.2 (.fieldLink RX6 72 "MownMaze$Reader" "length" "I") (by decide +kernel)
  unfold f_X6_end at hf
  refine lv_iload_n hx hb dX6_end_0 rfl (lv_at hl 1 rfl) ?_
  refine lv_if_lt (tgt := 15) hx hb dX6_end_1 (by decide) (fun c1 => ?_) (fun c1 => ?_)
  · have hf := if_t c1 hf
    refine lv_iconst (v := -1) hx hb dX6_end_15 (by decide) ?_
    exact fin dX6_end_16 (s1 hf) (s2 hf) hP hS
  · have hf := if_f c1 hf
    refine lv_iload_n hx hb dX6_end_4 rfl (lv_at hl 1 rfl) ?_
    refine lv_aload_n hx hb dX6_end_5 rfl (lv_at hl 0 rfl) ?_
    refine g_get (v := .ref (E.ad 1 0)) S hB hinX6 hP m_0_0 rfl rfl 0 (by decide) fl10 rfl rfl dX6_end_6 ?_
    refine g_get (v := .int ((X 1) 0 1)) S hB hinX3 hP m_1_0 rfl rfl 1 (by decide) fl72 rfl rfl dX6_end_9 ?_
    refine lv_icmp_le (tgt := 17) hx hb dX6_end_12 (by decide) (fun c2 => ?_) (fun c2 => ?_)
    · have hf := if_t c2 hf
      refine lv_aload_n hx hb dX6_end_17 rfl (lv_at hl 0 rfl) ?_
      refine g_get (v := .ref (E.ad 1 0)) S hB hinX6 hP m_0_0 rfl rfl 0 (by decide) fl10 rfl rfl dX6_end_18 ?_
      refine g_get (v := .int ((X 1) 0 1)) S hB hinX3 hP m_1_0 rfl rfl 1 (by decide) fl72 rfl rfl dX6_end_21 ?_
      refine lv_istore_n (lv' := [(2, .int ((X 1) 0 1)), (0, .ref (E.ad 0 0)), (1, .int a1)]) hx hb dX6_end_24 rfl hl (by decide) rfl (fun ls hl => ?_)
      refine lv_aload_n hx hb dX6_end_25 rfl (lv_at hl 1 rfl) ?_
      refine g_get (v := .ref (E.ad 1 0)) S hB hinX6 hP m_0_0 rfl rfl 0 (by decide) fl10 rfl rfl dX6_end_26 ?_
      refine lv_iload_n hx hb dX6_end_29 rfl (lv_at hl 2 rfl) ?_
      refine g_put S hB hE hinX3 tyX3 tyX3_ok nmX3 hP hS m_1_0 rfl rfl 1 (by decide) fl72 rfl rfl rfl rfl (Nat.le_of_ble_eq_true rfl) (by exact (fun _ => rfl) _) (X' := (wo X 1 0 1 a1)) rfl dX6_end_30 (fun H locs hP hS => ?_)
      refine lv_iload_n hx hb dX6_end_33 rfl (lv_at hl 0 rfl) ?_
      exact fin dX6_end_34 (s1 hf) (s2 hf) hP hS
    · have hf := if_f c2 hf
      refine lv_iconst (v := -1) hx hb dX6_end_15 (by decide) ?_
      exact fin dX6_end_16 (s1 hf) (s2 hf) hP hS
/-! X6_text -/
abbrev rm_X6_text : Room := { frames := 8, cells := 0, slots := 0, locals := 171 }
set_option maxHeartbeats 4000000 in
set_option maxRecDepth 100000 in
theorem K_X6_text (l : Launch) {E : En} (hE : Inj E) (X : Wd) {r : Int32} {X' : Wd} (hf : f_X6_text X = some (r, X')) : Cti l E yX6_text wsX6_text rm_X6_text [.ref (E.ad 0 0)] X r X' := by
  refine meet_i (cc := cX6_text) (maxL := 2) (own := RX6) (by decide) rfl rfl (Nat.le_of_ble_eq_true rfl) ?_
  intro p e s m below meth c Z S hB fin hP hS ls hl
  have hx := S.1
  have hb := S.2.1
  have hl : lv_has ls 2 [(0, .ref (E.ad 0 0))] := hl
  have hinX3 : ∀ w ∈ u_ws RX3 TX3 8, w ∈ wsX6_text := by decide +kernel
  have hinX4 : ∀ w ∈ u_ws RX4 TX4 6, w ∈ wsX6_text := by decide +kernel
  have hinX6 : ∀ w ∈ u_ws RX6 TX6 12, w ∈ wsX6_text := by decide +kernel
  have fl10 := S.2.2.2.2 (.fieldLink RX6 10 "MownMaze" "reader" "LMownMaze$Reader;") (by decide +kernel)
  have fl19 := S.2.2.2.2 (.fieldLink RX6 19 "MownMaze" "maze" "LMownMaze$Maze;") (by decide +kernel)
  have fl26 := S.2.2.2.2 (.fieldLink RX6 26 "MownMaze" "told" "LMownMaze$Maze;") (by decide +kernel)
  have fl36 := S.2.2.2.2 (.fieldLink RX6 36 "MownMaze" "kept" "[Z") (by decide +kernel)
  have fl49 := S.2.2.2.2 (.fieldLink RX6 49 "MownMaze" "seen" "LMownMaze$Seen;") (by decide +kernel)
  have fl60 := S.2.2.2.2 (.fieldLink RX6 60 "MownMaze" "fault" "I") (by decide +kernel)
  have fl72 := S.2.2.2.2 (.fieldLink RX6 72 "MownMaze$Reader" "length" "I") (by decide +kernel)
  have fl82 := S.2.2.2.2 (.fieldLink RX6 82 "MownMaze$Reader" "fault" "I") (by decide +kernel)
  have fl83 := S.2.2.2.2 (.fieldLink RX6 83 "MownMaze$Reader" "start" "I") (by decide +kernel)
  have fl90 := S.2.2.2.2 (.fieldLink RX6 90 "MownMaze$Seen" "size" "I") (by decide +kernel)
  unfold f_X6_text at hf
  refine lv_aload_n hx hb dX6_text_0 rfl (lv_at hl 0 rfl) ?_
  refine g_get (v := .ref (E.ad 6 0)) S hB hinX6 hP m_0_0 rfl rfl 3 (by decide) fl26 rfl rfl dX6_text_1 ?_
  obtain ⟨q1, hq1, hf⟩ := bind_some hf
  refine callV_v (As := []) (rest := []) S hB hP hS (C := RX1) (b := E.ad 6 0) (g_recv (o := 6) (d := 0) hB hP m_6_0 rfl rfl) (KW_X1_restart l hE X (by decide) (by decide) hq1) (cwV 0 S.2.2.2.2 gX6_text_X1_restart rfl rfl rfl (by decide +kernel) ⟨Nat.le_of_ble_eq_true rfl, Nat.le_of_ble_eq_true rfl⟩) rfl hl.1 rfl (Nat.le_of_ble_eq_true rfl) dX6_text_4 ⟨Nat.zero_le _, Nat.zero_le _⟩ (fun H locs hP hS => ?_)
  refine lv_aload_n hx hb dX6_text_7 rfl (lv_at hl 0 rfl) ?_
  refine g_get (v := .ref (E.ad 1 0)) S hB hinX6 hP m_0_0 rfl rfl 0 (by decide) fl10 rfl rfl dX6_text_8 ?_
  refine lv_aload_n hx hb dX6_text_11 rfl (lv_at hl 0 rfl) ?_
  refine g_get (v := .ref (E.ad 6 0)) S hB hinX6 hP m_0_0 rfl rfl 3 (by decide) fl26 rfl rfl dX6_text_12 ?_
  obtain ⟨q2, hq2, hf⟩ := bind_some hf
  refine callV_i (As := [.ref (E.ad 6 0)]) (rest := []) S hB hP hS (C := RX3) (b := E.ad 1 0) (g_recv (o := 1) (d := 0) hB hP m_1_0 rfl rfl) (KW_X3_readLines l hE (va_up X 6 q1) hq2) (cwV 1 S.2.2.2.2 gX6_text_X3_readLines rfl rfl rfl (by decide +kernel) ⟨Nat.le_of_ble_eq_true rfl, Nat.le_of_ble_eq_true rfl⟩) rfl hl.1 rfl (Nat.le_of_ble_eq_true rfl) dX6_text_15 ⟨Nat.zero_le _, Nat.zero_le _⟩ (fun H locs hP hS => ?_)
  refine lv_istore_n (lv' := [(1, .int q2.1), (0, .ref (E.ad 0 0))]) hx hb dX6_text_18 rfl hl (by decide) rfl (fun ls hl => ?_)
  refine lv_aload_n hx hb dX6_text_19 rfl (lv_at hl 1 rfl) ?_
  refine g_get (v := .ref (E.ad 1 0)) S hB hinX6 hP m_0_0 rfl rfl 0 (by decide) fl10 rfl rfl dX6_text_20 ?_
  refine lv_iconst (v := 0) hx hb dX6_text_23 (by decide) ?_
  refine g_put S hB hE hinX3 tyX3 tyX3_ok nmX3 hP hS m_1_0 rfl rfl 1 (by decide) fl72 rfl rfl rfl rfl (Nat.le_of_ble_eq_true rfl) (by exact (fun _ => rfl) _) (X' := (wo (va_up (va_up (va_up X 6 q1) 1 q2.2.1) 6 q2.2.2) 1 0 1 (0 : Int32))) rfl dX6_text_24 (fun H locs hP hS => ?_)
  refine lv_aload_n hx hb dX6_text_27 rfl (lv_at hl 1 rfl) ?_
  refine lv_aload_n hx hb dX6_text_28 rfl (lv_at hl 1 rfl) ?_
  refine g_get (v := .ref (E.ad 1 0)) S hB hinX6 hP m_0_0 rfl rfl 0 (by decide) fl10 rfl rfl dX6_text_29 ?_
  refine g_get (v := .int (q2.2.1 0 6)) S hB hinX3 hP m_1_0 rfl rfl 6 (by decide) fl82 rfl rfl dX6_text_32 ?_
  refine g_put S hB hE hinX6 tyX6 tyX6_ok nmX6 hP hS m_0_0 rfl rfl 10 (by decide) fl60 rfl rfl rfl rfl (Nat.le_of_ble_eq_true rfl) (by exact (fun _ => rfl) _) (X' := (wo (wo (va_up (va_up (va_up X 6 q1) 1 q2.2.1) 6 q2.2.2) 1 0 1 (0 : Int32)) 0 0 10 (q2.2.1 0 6))) rfl dX6_text_35 (fun H locs hP hS => ?_)
  refine lv_aload_n hx hb dX6_text_38 rfl (lv_at hl 1 rfl) ?_
  refine g_get (v := .int (q2.2.1 0 6)) S hB hinX6 hP m_0_0 rfl rfl 10 (by decide) fl60 rfl rfl dX6_text_39 ?_
  refine lv_if_eq (tgt := 56) hx hb dX6_text_42 (by decide) (fun c3 => ?_) (fun c3 => ?_)
  · have hf := if_t c3 hf
    refine lv_aload_n hx hb dX6_text_56 rfl (lv_at hl 1 rfl) ?_
    refine g_get (v := .ref (E.ad 4 0)) S hB hinX6 hP m_0_0 rfl rfl 1 (by decide) fl19 rfl rfl dX6_text_57 ?_
    refine lv_aload_n hx hb dX6_text_60 rfl (lv_at hl 1 rfl) ?_
    refine g_get (v := .ref (E.ad 6 0)) S hB hinX6 hP m_0_0 rfl rfl 3 (by decide) fl26 rfl rfl dX6_text_61 ?_
    obtain ⟨q4, hq4, hf⟩ := bind_some hf
    refine callV_v (As := [.ref (E.ad 6 0)]) (rest := []) S hB hP hS (C := RX1) (b := E.ad 4 0) (g_recv (o := 4) (d := 0) hB hP m_4_0 rfl rfl) (KW_X1_become l hE (wo (wo (va_up (va_up (va_up X 6 q1) 1 q2.2.1) 6 q2.2.2) 1 0 1 (0 : Int32)) 0 0 10 (q2.2.1 0 6)) (by decide) (by decide) (by decide) (by decide) (by decide) hq4) (cwV 1 S.2.2.2.2 gX6_text_X1_become rfl rfl rfl (by decide +kernel) ⟨Nat.le_of_ble_eq_true rfl, Nat.le_of_ble_eq_true rfl⟩) rfl hl.1 rfl (Nat.le_of_ble_eq_true rfl) dX6_text_64 ⟨Nat.zero_le _, Nat.zero_le _⟩ (fun H locs hP hS => ?_)
    refine lv_aload_n hx hb dX6_text_67 rfl (lv_at hl 1 rfl) ?_
    refine g_get (v := .ref (E.ad 2 0)) S hB hinX6 hP m_0_0 rfl rfl 8 (by decide) fl49 rfl rfl dX6_text_68 ?_
    refine lv_iconst (v := 0) hx hb dX6_text_71 (by decide) ?_
    refine g_put S hB hE hinX4 tyX4 tyX4_ok nmX4 hP hS m_2_0 rfl rfl 0 (by decide) fl90 rfl rfl rfl rfl (Nat.le_of_ble_eq_true rfl) (by exact (fun _ => rfl) _) (X' := (wo (va_up (wo (wo (va_up (va_up (va_up X 6 q1) 1 q2.2.1) 6 q2.2.2) 1 0 1 (0 : Int32)) 0 0 10 (q2.2.1 0 6)) 4 q4) 2 0 0 (0 : Int32))) rfl dX6_text_72 (fun H locs hP hS => ?_)
    refine lv_aload_n hx hb dX6_text_75 rfl (lv_at hl 1 rfl) ?_
    refine g_get (v := .ref (E.ad 0 1)) S hB hinX6 hP m_0_0 rfl rfl 6 (by decide) fl36 rfl rfl dX6_text_76 ?_
    refine lv_iconst (v := 0) hx hb dX6_text_79 (by decide) ?_
    refine lv_iconst (v := 0) hx hb dX6_text_80 (by decide) ?_
    refine g_zast (r := (wo (va_up (wo (wo (va_up (va_up (va_up X 6 q1) 1 q2.2.1) 6 q2.2.2) 1 0 1 (0 : Int32)) 0 0 10 (q2.2.1 0 6)) 4 q4) 2 0 0 (0 : Int32)) 0 1) S hB hE hP hS m_0_1 rfl rfl (fun _ => rfl) (by unfold vp_in; decide) (X' := (wo (wo (va_up (wo (wo (va_up (va_up (va_up X 6 q1) 1 q2.2.1) 6 q2.2.2) 1 0 1 (0 : Int32)) 0 0 10 (q2.2.1 0 6)) 4 q4) 2 0 0 (0 : Int32)) 0 1 0 (vp_nar .boolean (0 : Int32)))) rfl dX6_text_81 (fun H locs hP hS => ?_)
    refine lv_aload_n hx hb dX6_text_82 rfl (lv_at hl 1 rfl) ?_
    refine g_get (v := .ref (E.ad 0 1)) S hB hinX6 hP m_0_0 rfl rfl 6 (by decide) fl36 rfl rfl dX6_text_83 ?_
    refine lv_iconst (v := 1) hx hb dX6_text_86 (by decide) ?_
    refine lv_iconst (v := 0) hx hb dX6_text_87 (by decide) ?_
    refine g_zast (r := (wo (wo (va_up (wo (wo (va_up (va_up (va_up X 6 q1) 1 q2.2.1) 6 q2.2.2) 1 0 1 (0 : Int32)) 0 0 10 (q2.2.1 0 6)) 4 q4) 2 0 0 (0 : Int32)) 0 1 0 (vp_nar .boolean (0 : Int32))) 0 1) S hB hE hP hS m_0_1 rfl rfl (fun _ => rfl) (by unfold vp_in; decide) (X' := (wo (wo (wo (va_up (wo (wo (va_up (va_up (va_up X 6 q1) 1 q2.2.1) 6 q2.2.2) 1 0 1 (0 : Int32)) 0 0 10 (q2.2.1 0 6)) 4 q4) 2 0 0 (0 : Int32)) 0 1 0 (vp_nar .boolean (0 : Int32))) 0 1 1 (vp_nar .boolean (0 : Int32)))) rfl dX6_text_88 (fun H locs hP hS => ?_)
    refine lv_iload_n hx hb dX6_text_89 rfl (lv_at hl 0 rfl) ?_
    exact fin dX6_text_90 (s1 hf) (s2 hf) hP hS
  · have hf := if_f c3 hf
    refine lv_bipush (v := -10) hx hb dX6_text_45 (by decide) ?_
    refine lv_aload_n hx hb dX6_text_47 rfl (lv_at hl 1 rfl) ?_
    refine g_get (v := .ref (E.ad 1 0)) S hB hinX6 hP m_0_0 rfl rfl 0 (by decide) fl10 rfl rfl dX6_text_48 ?_
    refine g_get (v := .int (q2.2.1 0 3)) S hB hinX3 hP m_1_0 rfl rfl 3 (by decide) fl83 rfl rfl dX6_text_51 ?_
    refine lv_isub hx hb dX6_text_54 ?_
    exact fin dX6_text_55 (s1 hf) (s2 hf) hP hS
/-! X6_fault -/
abbrev rm_X6_fault : Room := { frames := 0, cells := 0, slots := 0, locals := 0 }
set_option maxHeartbeats 4000000 in
set_option maxRecDepth 100000 in
theorem K_X6_fault (l : Launch) {E : En} (hE : Inj E) (X : Wd) {r : Int32} (hf : f_X6_fault X = some r) : Cti l E yX6_fault wsX6_fault rm_X6_fault [.ref (E.ad 0 0)] X r X := by
  refine meet_i (cc := cX6_fault) (maxL := 1) (own := RX6) (by decide) rfl rfl (Nat.le_of_ble_eq_true rfl) ?_
  intro p e s m below meth c Z S hB fin hP hS ls hl
  have hx := S.1
  have hb := S.2.1
  have hl : lv_has ls 1 [(0, .ref (E.ad 0 0))] := hl
  have hinX6 : ∀ w ∈ u_ws RX6 TX6 12, w ∈ wsX6_fault := by decide +kernel
  have fl60 := S.2.2.2.2 (.fieldLink RX6 60 "MownMaze" "fault" "I") (by decide +kernel)
  unfold f_X6_fault at hf
  refine lv_aload_n hx hb dX6_fault_0 rfl (lv_at hl 0 rfl) ?_
  refine g_get (v := .int ((X 0) 0 10)) S hB hinX6 hP m_0_0 rfl rfl 10 (by decide) fl60 rfl rfl dX6_fault_1 ?_
  exact fin dX6_fault_4 (s0 hf) rfl hP hS
/-! X6_rule -/
abbrev rm_X6_rule : Room := { frames := 1, cells := 0, slots := 0, locals := 23 }
set_option maxHeartbeats 4000000 in
set_option maxRecDepth 100000 in
theorem K_X6_rule (l : Launch) {E : En} (hE : Inj E) (X : Wd) (a1 : Int32) {r : Int32} (hf : f_X6_rule X a1 = some r) : Cti l E yX6_rule wsX6_rule rm_X6_rule [.ref (E.ad 0 0), .int a1] X r X := by
  refine meet_i (cc := cX6_rule) (maxL := 2) (own := RX6) (by decide) rfl rfl (Nat.le_of_ble_eq_true rfl) ?_
  intro p e s m below meth c Z S hB fin hP hS ls hl
  have hx := S.1
  have hb := S.2.1
  have hl : lv_has ls 2 [(0, .ref (E.ad 0 0)), (1, .int a1)] := hl
  have hinX1 : ∀ w ∈ u_ws RX1 TX1 12, w ∈ wsX6_rule := by decide +kernel
  have hinX6 : ∀ w ∈ u_ws RX6 TX6 12, w ∈ wsX6_rule := by decide +kernel
  have fl19 := S.2.2.2.2 (.fieldLink RX6 19 "MownMaze" "maze" "LMownMaze$Maze;") (by decide +kernel)
  have fl93 := S.2.2.2.2 (.fieldLink RX6 93 "MownMaze$Maze" "gardeners" "I") (by decide +kernel)
  have fl96 := S.2.2.2.2 (.fieldLink RX6 96 "MownMaze$Maze" "guests" "I") (by decide +kernel)
  have fl99 := S.2.2.2.2 (.fieldLink RX6 99 "MownMaze$Maze" "day" "I") (by decide +kernel)
  have fl102 := S.2.2.2.2 (.fieldLink RX6 102 "MownMaze$Maze" "gate" "I") (by decide +kernel)
  have fl105 := S.2.2.2.2 (.fieldLink RX6 105 "MownMaze$Maze" "hedges" "I") (by decide +kernel)
  have fl117 := S.2.2.2.2 (.fieldLink RX6 117 "MownMaze$Maze" "last" "I") (by decide +kernel)
  unfold f_X6_rule at hf
  refine lv_iload_n hx hb dX6_rule_0 rfl (lv_at hl 1 rfl) ?_
  by_cases c1 : a1 = (0 : Int32)
  · have hf := if_t c1 hf
    refine lv_tableIn (off := 47) (tgt := 48) hx hb dX6_rule_1 (by rw [c1]; decide) (by rw [c1]; decide) (by rw [c1]; rfl) (by decide) ?_
    refine lv_aload_n hx hb dX6_rule_48 rfl (lv_at hl 0 rfl) ?_
    refine g_get (v := .ref (E.ad 4 0)) S hB hinX6 hP m_0_0 rfl rfl 1 (by decide) fl19 rfl rfl dX6_rule_49 ?_
    refine g_get (v := .int ((X 4) 0 4)) S hB hinX1 hP m_4_0 rfl rfl 4 (by decide) fl93 rfl rfl dX6_rule_52 ?_
    exact fin dX6_rule_55 (s0 hf) rfl hP hS
  · have hf := if_f c1 hf
    by_cases c2 : a1 = (1 : Int32)
    · have hf := if_t c2 hf
      refine lv_tableIn (off := 55) (tgt := 56) hx hb dX6_rule_1 (by rw [c2]; decide) (by rw [c2]; decide) (by rw [c2]; rfl) (by decide) ?_
      refine lv_aload_n hx hb dX6_rule_56 rfl (lv_at hl 0 rfl) ?_
      refine g_get (v := .ref (E.ad 4 0)) S hB hinX6 hP m_0_0 rfl rfl 1 (by decide) fl19 rfl rfl dX6_rule_57 ?_
      refine g_get (v := .int ((X 4) 0 8)) S hB hinX1 hP m_4_0 rfl rfl 8 (by decide) fl96 rfl rfl dX6_rule_60 ?_
      exact fin dX6_rule_63 (s0 hf) rfl hP hS
    · have hf := if_f c2 hf
      by_cases c3 : a1 = (2 : Int32)
      · have hf := if_t c3 hf
        refine lv_tableIn (off := 63) (tgt := 64) hx hb dX6_rule_1 (by rw [c3]; decide) (by rw [c3]; decide) (by rw [c3]; rfl) (by decide) ?_
        refine lv_aload_n hx hb dX6_rule_64 rfl (lv_at hl 0 rfl) ?_
        refine g_get (v := .ref (E.ad 4 0)) S hB hinX6 hP m_0_0 rfl rfl 1 (by decide) fl19 rfl rfl dX6_rule_65 ?_
        refine g_get (v := .int ((X 4) 0 3)) S hB hinX1 hP m_4_0 rfl rfl 3 (by decide) fl99 rfl rfl dX6_rule_68 ?_
        exact fin dX6_rule_71 (s0 hf) rfl hP hS
      · have hf := if_f c3 hf
        by_cases c4 : a1 = (3 : Int32)
        · have hf := if_t c4 hf
          refine lv_tableIn (off := 71) (tgt := 72) hx hb dX6_rule_1 (by rw [c4]; decide) (by rw [c4]; decide) (by rw [c4]; rfl) (by decide) ?_
          refine lv_aload_n hx hb dX6_rule_72 rfl (lv_at hl 0 rfl) ?_
          refine g_get (v := .ref (E.ad 4 0)) S hB hinX6 hP m_0_0 rfl rfl 1 (by decide) fl19 rfl rfl dX6_rule_73 ?_
          refine g_get (v := .int ((X 4) 0 1)) S hB hinX1 hP m_4_0 rfl rfl 1 (by decide) fl102 rfl rfl dX6_rule_76 ?_
          exact fin dX6_rule_79 (s0 hf) rfl hP hS
        · have hf := if_f c4 hf
          by_cases c5 : a1 = (4 : Int32)
          · have hf := if_t c5 hf
            refine lv_tableIn (off := 79) (tgt := 80) hx hb dX6_rule_1 (by rw [c5]; decide) (by rw [c5]; decide) (by rw [c5]; rfl) (by decide) ?_
            refine lv_aload_n hx hb dX6_rule_80 rfl (lv_at hl 0 rfl) ?_
            refine g_get (v := .ref (E.ad 4 0)) S hB hinX6 hP m_0_0 rfl rfl 1 (by decide) fl19 rfl rfl dX6_rule_81 ?_
            refine g_get (v := .int ((X 4) 0 0)) S hB hinX1 hP m_4_0 rfl rfl 0 (by decide) fl105 rfl rfl dX6_rule_84 ?_
            obtain ⟨q6, hq6, hf⟩ := bind_some hf
            refine callS_i (As := [.int ((X 4) 0 0)]) (rest := []) S hB hP hS (K_J6_bitCount_0f7a4 l hE X ((X 4) 0 0) hq6) (va_cwS 1 S.2.2.2.2 gX6_rule_J6_bitCount_0f7a4 rfl rfl rfl (by decide +kernel) ⟨Nat.le_of_ble_eq_true rfl, Nat.le_of_ble_eq_true rfl⟩) rfl hl.1 rfl (Nat.le_of_ble_eq_true rfl) dX6_rule_87 ⟨Nat.zero_le _, Nat.zero_le _⟩ (fun H locs hP hS => ?_)
            exact fin dX6_rule_90 (s0 hf) rfl hP hS
          · have hf := if_f c5 hf
            by_cases c7 : a1 = (5 : Int32)
            · have hf := if_t c7 hf
              refine lv_tableIn (off := 90) (tgt := 91) hx hb dX6_rule_1 (by rw [c7]; decide) (by rw [c7]; decide) (by rw [c7]; rfl) (by decide) ?_
              refine lv_aload_n hx hb dX6_rule_91 rfl (lv_at hl 0 rfl) ?_
              refine g_get (v := .ref (E.ad 4 0)) S hB hinX6 hP m_0_0 rfl rfl 1 (by decide) fl19 rfl rfl dX6_rule_92 ?_
              refine lv_iconst (v := 1) hx hb dX6_rule_95 (by decide) ?_
              obtain ⟨q8, hq8, hf⟩ := bind_some hf
              refine callV_i (As := [.int (1 : Int32)]) (rest := []) S hB hP hS (C := RX1) (b := E.ad 4 0) (g_recv (o := 4) (d := 0) hB hP m_4_0 rfl rfl) (KW_X1_whoIs l hE X (by decide) (by decide) (1 : Int32) hq8) (cwV 1 S.2.2.2.2 gX6_rule_X1_whoIs rfl rfl rfl (by decide +kernel) ⟨Nat.le_of_ble_eq_true rfl, Nat.le_of_ble_eq_true rfl⟩) rfl hl.1 rfl (Nat.le_of_ble_eq_true rfl) dX6_rule_96 ⟨Nat.zero_le _, Nat.zero_le _⟩ (fun H locs hP hS => ?_)
              exact fin dX6_rule_99 (s0 hf) rfl hP hS
            · have hf := if_f c7 hf
              by_cases c9 : a1 = (6 : Int32)
              · have hf := if_t c9 hf
                refine lv_tableIn (off := 99) (tgt := 100) hx hb dX6_rule_1 (by rw [c9]; decide) (by rw [c9]; decide) (by rw [c9]; rfl) (by decide) ?_
                refine lv_aload_n hx hb dX6_rule_100 rfl (lv_at hl 0 rfl) ?_
                refine g_get (v := .ref (E.ad 4 0)) S hB hinX6 hP m_0_0 rfl rfl 1 (by decide) fl19 rfl rfl dX6_rule_101 ?_
                refine lv_iconst (v := 2) hx hb dX6_rule_104 (by decide) ?_
                obtain ⟨q10, hq10, hf⟩ := bind_some hf
                refine callV_i (As := [.int (2 : Int32)]) (rest := []) S hB hP hS (C := RX1) (b := E.ad 4 0) (g_recv (o := 4) (d := 0) hB hP m_4_0 rfl rfl) (KW_X1_whoIs l hE X (by decide) (by decide) (2 : Int32) hq10) (cwV 1 S.2.2.2.2 gX6_rule_X1_whoIs rfl rfl rfl (by decide +kernel) ⟨Nat.le_of_ble_eq_true rfl, Nat.le_of_ble_eq_true rfl⟩) rfl hl.1 rfl (Nat.le_of_ble_eq_true rfl) dX6_rule_105 ⟨Nat.zero_le _, Nat.zero_le _⟩ (fun H locs hP hS => ?_)
                exact fin dX6_rule_108 (s0 hf) rfl hP hS
              · have hf := if_f c9 hf
                by_cases c11 : a1 = (7 : Int32)
                · have hf := if_t c11 hf
                  refine lv_tableIn (off := 108) (tgt := 109) hx hb dX6_rule_1 (by rw [c11]; decide) (by rw [c11]; decide) (by rw [c11]; rfl) (by decide) ?_
                  refine lv_aload_n hx hb dX6_rule_109 rfl (lv_at hl 0 rfl) ?_
                  refine g_get (v := .ref (E.ad 4 0)) S hB hinX6 hP m_0_0 rfl rfl 1 (by decide) fl19 rfl rfl dX6_rule_110 ?_
                  refine g_get (v := .int ((X 4) 0 2)) S hB hinX1 hP m_4_0 rfl rfl 2 (by decide) fl117 rfl rfl dX6_rule_113 ?_
                  exact fin dX6_rule_116 (s0 hf) rfl hP hS
                · have hf := if_f c11 hf
                  have tc1 := lv_neT c1 (a := 0) (by decide)
                  have tc2 := lv_neT c2 (a := 1) (by decide)
                  have tc3 := lv_neT c3 (a := 2) (by decide)
                  have tc4 := lv_neT c4 (a := 3) (by decide)
                  have tc5 := lv_neT c5 (a := 4) (by decide)
                  have tc7 := lv_neT c7 (a := 5) (by decide)
                  have tc9 := lv_neT c9 (a := 6) (by decide)
                  have tc11 := lv_neT c11 (a := 7) (by decide)
                  refine lv_tableOut (tgt := 117) hx hb dX6_rule_1 (by omega) (by decide) ?_
                  refine lv_iconst (v := -1) hx hb dX6_rule_117 (by decide) ?_
                  exact fin dX6_rule_118 (s0 hf) rfl hP hS
/-! X6_isHedge -/
abbrev rm_X6_isHedge : Room := { frames := 0, cells := 0, slots := 0, locals := 0 }
set_option maxHeartbeats 4000000 in
set_option maxRecDepth 100000 in
theorem K_X6_isHedge (l : Launch) {E : En} (hE : Inj E) (X : Wd) (a0 : Int32) {r : Int32} (hf : f_X6_isHedge a0 = some r) : Cti l E yX6_isHedge wsX6_isHedge rm_X6_isHedge [.int a0] X r X := by
  refine meet_z (cc := cX6_isHedge) (maxL := 1) (own := RX6) (by decide) rfl rfl (Nat.le_of_ble_eq_true rfl) ?_
  intro p e s m below meth c Z S hB fin hP hS ls hl
  have hx := S.1
  have hb := S.2.1
  have hl : lv_has ls 1 [(0, .int a0)] := hl
  unfold f_X6_isHedge at hf
  refine lv_iload_n hx hb dX6_isHedge_0 rfl (lv_at hl 0 rfl) ?_
  refine lv_if_lt (tgt := 14) hx hb dX6_isHedge_1 (by decide) (fun c1 => ?_) (fun c1 => ?_)
  · have hf := if_t c1 hf
    refine lv_iconst (v := 0) hx hb dX6_isHedge_14 (by decide) ?_
    exact fin dX6_isHedge_15 (nz01 (by decide)) (s0 hf) rfl hP hS
  · have hf := if_f c1 hf
    refine lv_iload_n hx hb dX6_isHedge_4 rfl (lv_at hl 0 rfl) ?_
    refine lv_bipush (v := 24) hx hb dX6_isHedge_5 (by decide) ?_
    refine lv_icmp_ge (tgt := 14) hx hb dX6_isHedge_7 (by decide) (fun c2 => ?_) (fun c2 => ?_)
    · have hf := if_t c2 hf
      refine lv_iconst (v := 0) hx hb dX6_isHedge_14 (by decide) ?_
      exact fin dX6_isHedge_15 (nz01 (by decide)) (s0 hf) rfl hP hS
    · have hf := if_f c2 hf
      refine lv_iconst (v := 1) hx hb dX6_isHedge_10 (by decide) ?_
      refine lv_goto (tgt := 15) hx hb dX6_isHedge_11 (by decide) ?_
      exact fin dX6_isHedge_15 (nz01 (by decide)) (s0 hf) rfl hP hS
/-! X6_hedge -/
abbrev rm_X6_hedge : Room := { frames := 1, cells := 0, slots := 0, locals := 21 }
set_option maxHeartbeats 4000000 in
set_option maxRecDepth 100000 in
theorem K_X6_hedge (l : Launch) {E : En} (hE : Inj E) (X : Wd) (a1 : Int32) {r : Int32} (hf : f_X6_hedge X a1 = some r) : Cti l E yX6_hedge wsX6_hedge rm_X6_hedge [.ref (E.ad 0 0), .int a1] X r X := by
  refine meet_i (cc := cX6_hedge) (maxL := 2) (own := RX6) (by decide) rfl rfl (Nat.le_of_ble_eq_true rfl) ?_
  intro p e s m below meth c Z S hB fin hP hS ls hl
  have hx := S.1
  have hb := S.2.1
  have hl : lv_has ls 2 [(0, .ref (E.ad 0 0)), (1, .int a1)] := hl
  have hinX6 : ∀ w ∈ u_ws RX6 TX6 12, w ∈ wsX6_hedge := by decide +kernel
  have fl19 := S.2.2.2.2 (.fieldLink RX6 19 "MownMaze" "maze" "LMownMaze$Maze;") (by decide +kernel)
  unfold f_X6_hedge at hf
  refine lv_iload_n hx hb dX6_hedge_0 rfl (lv_at hl 1 rfl) ?_
  obtain ⟨q1, hq1, hf⟩ := bind_some hf
  refine callS_i (As := [.int a1]) (rest := []) S hB hP hS (K_X6_isHedge l hE X a1 hq1) (va_cwS 1 S.2.2.2.2 gX6_hedge_X6_isHedge rfl rfl rfl (by decide +kernel) ⟨Nat.le_of_ble_eq_true rfl, Nat.le_of_ble_eq_true rfl⟩) rfl hl.1 rfl (Nat.le_of_ble_eq_true rfl) dX6_hedge_1 ⟨Nat.zero_le _, Nat.zero_le _⟩ (fun H locs hP hS => ?_)
  refine lv_if_eq (tgt := 18) hx hb dX6_hedge_4 (by decide) (fun c2 => ?_) (fun c2 => ?_)
  · have hf := if_t c2 hf
    refine lv_iconst (v := -1) hx hb dX6_hedge_18 (by decide) ?_
    exact fin dX6_hedge_19 (s0 hf) rfl hP hS
  · have hf := if_f c2 hf
    refine lv_aload_n hx hb dX6_hedge_7 rfl (lv_at hl 0 rfl) ?_
    refine g_get (v := .ref (E.ad 4 0)) S hB hinX6 hP m_0_0 rfl rfl 1 (by decide) fl19 rfl rfl dX6_hedge_8 ?_
    refine lv_iload_n hx hb dX6_hedge_11 rfl (lv_at hl 1 rfl) ?_
    obtain ⟨q3, hq3, hf⟩ := bind_some hf
    refine callV_i (As := [.int a1]) (rest := []) S hB hP hS (C := RX1) (b := E.ad 4 0) (g_recv (o := 4) (d := 0) hB hP m_4_0 rfl rfl) (KW_X1_standing l hE X (by decide) (by decide) a1 hq3) (cwV 1 S.2.2.2.2 gX6_hedge_X1_standing rfl rfl rfl (by decide +kernel) ⟨Nat.le_of_ble_eq_true rfl, Nat.le_of_ble_eq_true rfl⟩) rfl hl.1 rfl (Nat.le_of_ble_eq_true rfl) dX6_hedge_12 ⟨Nat.zero_le _, Nat.zero_le _⟩ (fun H locs hP hS => ?_)
    refine lv_goto (tgt := 19) hx hb dX6_hedge_15 (by decide) ?_
    exact fin dX6_hedge_19 (s0 hf) rfl hP hS
/-! X6_isGardener -/
abbrev rm_X6_isGardener : Room := { frames := 0, cells := 0, slots := 0, locals := 0 }
set_option maxHeartbeats 4000000 in
set_option maxRecDepth 100000 in
theorem K_X6_isGardener (l : Launch) {E : En} (hE : Inj E) (X : Wd) (a1 : Int32) {r : Int32} (hf : f_X6_isGardener X a1 = some r) : Cti l E yX6_isGardener wsX6_isGardener rm_X6_isGardener [.ref (E.ad 0 0), .int a1] X r X := by
  refine meet_z (cc := cX6_isGardener) (maxL := 2) (own := RX6) (by decide) rfl rfl (Nat.le_of_ble_eq_true rfl) ?_
  intro p e s m below meth c Z S hB fin hP hS ls hl
  have hx := S.1
  have hb := S.2.1
  have hl : lv_has ls 2 [(0, .ref (E.ad 0 0)), (1, .int a1)] := hl
  have hinX1 : ∀ w ∈ u_ws RX1 TX1 12, w ∈ wsX6_isGardener := by decide +kernel
  have hinX6 : ∀ w ∈ u_ws RX6 TX6 12, w ∈ wsX6_isGardener := by decide +kernel
  have fl19 := S.2.2.2.2 (.fieldLink RX6 19 "MownMaze" "maze" "LMownMaze$Maze;") (by decide +kernel)
  have fl93 := S.2.2.2.2 (.fieldLink RX6 93 "MownMaze$Maze" "gardeners" "I") (by decide +kernel)
  unfold f_X6_isGardener at hf
  refine lv_iload_n hx hb dX6_isGardener_0 rfl (lv_at hl 1 rfl) ?_
  refine lv_if_lt (tgt := 19) hx hb dX6_isGardener_1 (by decide) (fun c1 => ?_) (fun c1 => ?_)
  · have hf := if_t c1 hf
    refine lv_iconst (v := 0) hx hb dX6_isGardener_19 (by decide) ?_
    exact fin dX6_isGardener_20 (nz01 (by decide)) (s0 hf) rfl hP hS
  · have hf := if_f c1 hf
    refine lv_iload_n hx hb dX6_isGardener_4 rfl (lv_at hl 1 rfl) ?_
    refine lv_aload_n hx hb dX6_isGardener_5 rfl (lv_at hl 0 rfl) ?_
    refine g_get (v := .ref (E.ad 4 0)) S hB hinX6 hP m_0_0 rfl rfl 1 (by decide) fl19 rfl rfl dX6_isGardener_6 ?_
    refine g_get (v := .int ((X 4) 0 4)) S hB hinX1 hP m_4_0 rfl rfl 4 (by decide) fl93 rfl rfl dX6_isGardener_9 ?_
    refine lv_icmp_ge (tgt := 19) hx hb dX6_isGardener_12 (by decide) (fun c2 => ?_) (fun c2 => ?_)
    · have hf := if_t c2 hf
      refine lv_iconst (v := 0) hx hb dX6_isGardener_19 (by decide) ?_
      exact fin dX6_isGardener_20 (nz01 (by decide)) (s0 hf) rfl hP hS
    · have hf := if_f c2 hf
      refine lv_iconst (v := 1) hx hb dX6_isGardener_15 (by decide) ?_
      refine lv_goto (tgt := 20) hx hb dX6_isGardener_16 (by decide) ?_
      exact fin dX6_isGardener_20 (nz01 (by decide)) (s0 hf) rfl hP hS
/-! X6_gardener -/
abbrev rm_X6_gardener : Room := { frames := 1, cells := 0, slots := 0, locals := 21 }
set_option maxHeartbeats 4000000 in
set_option maxRecDepth 100000 in
theorem K_X6_gardener (l : Launch) {E : En} (hE : Inj E) (X : Wd) (a1 : Int32) (a2 : Int32) {r : Int32} (hf : f_X6_gardener X a1 a2 = some r) : Cti l E yX6_gardener wsX6_gardener rm_X6_gardener [.ref (E.ad 0 0), .int a1, .int a2] X r X := by
  refine meet_i (cc := cX6_gardener) (maxL := 3) (own := RX6) (by decide) rfl rfl (Nat.le_of_ble_eq_true rfl) ?_
  intro p e s m below meth c Z S hB fin hP hS ls hl
  have hx := S.1
  have hb := S.2.1
  have hl : lv_has ls 3 [(0, .ref (E.ad 0 0)), (1, .int a1), (2, .int a2)] := hl
  have hinX6 : ∀ w ∈ u_ws RX6 TX6 12, w ∈ wsX6_gardener := by decide +kernel
  have fl19 := S.2.2.2.2 (.fieldLink RX6 19 "MownMaze" "maze" "LMownMaze$Maze;") (by decide +kernel)
  unfold f_X6_gardener at hf
  refine lv_aload_n hx hb dX6_gardener_0 rfl (lv_at hl 0 rfl) ?_
  refine lv_iload_n hx hb dX6_gardener_1 rfl (lv_at hl 1 rfl) ?_
  obtain ⟨q1, hq1, hf⟩ := bind_some hf
  refine callV_i (As := [.int a1]) (rest := []) S hB hP hS (C := RX6) (b := E.ad 0 0) (g_recv (o := 0) (d := 0) hB hP m_0_0 rfl rfl) (K_X6_isGardener l hE X a1 hq1) (cwV 1 S.2.2.2.2 gX6_gardener_X6_isGardener rfl rfl rfl (by decide +kernel) ⟨Nat.le_of_ble_eq_true rfl, Nat.le_of_ble_eq_true rfl⟩) rfl hl.1 rfl (Nat.le_of_ble_eq_true rfl) dX6_gardener_2 ⟨Nat.zero_le _, Nat.zero_le _⟩ (fun H locs hP hS => ?_)
  refine lv_if_eq (tgt := 17) hx hb dX6_gardener_5 (by decide) (fun c2 => ?_) (fun c2 => ?_)
  · have hf := if_t c2 hf
    refine lv_iconst (v := -1) hx hb dX6_gardener_17 (by decide) ?_
    exact fin dX6_gardener_18 (s0 hf) rfl hP hS
  · have hf := if_f c2 hf
    refine lv_iload_n hx hb dX6_gardener_8 rfl (lv_at hl 2 rfl) ?_
    refine lv_if_lt (tgt := 17) hx hb dX6_gardener_9 (by decide) (fun c3 => ?_) (fun c3 => ?_)
    · have hf := if_t c3 hf
      refine lv_iconst (v := -1) hx hb dX6_gardener_17 (by decide) ?_
      exact fin dX6_gardener_18 (s0 hf) rfl hP hS
    · have hf := if_f c3 hf
      refine lv_iload_n hx hb dX6_gardener_12 rfl (lv_at hl 2 rfl) ?_
      refine lv_iconst (v := 3) hx hb dX6_gardener_13 (by decide) ?_
      refine lv_icmp_le (tgt := 19) hx hb dX6_gardener_14 (by decide) (fun c4 => ?_) (fun c4 => ?_)
      · have hf := if_t c4 hf
        refine lv_iload_n hx hb dX6_gardener_19 rfl (lv_at hl 2 rfl) ?_
        refine lv_iconst (v := 3) hx hb dX6_gardener_20 (by decide) ?_
        refine lv_icmp_ne (tgt := 35) hx hb dX6_gardener_21 (by decide) (fun c5 => ?_) (fun c5 => ?_)
        · have hf := if_f c5 hf
          refine lv_aload_n hx hb dX6_gardener_35 rfl (lv_at hl 0 rfl) ?_
          refine g_get (v := .ref (E.ad 4 0)) S hB hinX6 hP m_0_0 rfl rfl 1 (by decide) fl19 rfl rfl dX6_gardener_36 ?_
          refine lv_iload_n hx hb dX6_gardener_39 rfl (lv_at hl 2 rfl) ?_
          obtain ⟨q6, hq6, hf⟩ := bind_some hf
          refine callV_r (As := [.int a2]) (rest := []) S hB hP hS (C := RX1) (b := E.ad 4 0) (g_recv (o := 4) (d := 0) hB hP m_4_0 rfl rfl) (KW_X1_trait l hE X (by decide) (by decide) a2 hq6) (cwV 1 S.2.2.2.2 gX6_gardener_X1_trait rfl rfl rfl (by decide +kernel) ⟨Nat.le_of_ble_eq_true rfl, Nat.le_of_ble_eq_true rfl⟩) rfl hl.1 rfl (Nat.le_of_ble_eq_true rfl) dX6_gardener_40 ⟨Nat.zero_le _, Nat.zero_le _⟩ (fun H locs hP hS => ?_)
          have hv7 := rng_X1_trait hq6
          refine lv_iload_n hx hb dX6_gardener_43 rfl (lv_at hl 1 rfl) ?_
          obtain ⟨hv8, hf⟩ := ck_some hf
          refine g_iald (r := X 4 q6) S hB hP (mem_mz (by decide) (by decide) (Nat.lt_of_le_of_lt hv7.2 (by decide))) ((cell_ma E (by decide) (by decide) (Nat.ne_of_gt hv7.1)) _) hv8 dX6_gardener_44 ?_
          refine W.eq (g2 := F0 m 45 ls [.int ((X 4) q6 a1.toNatClampNeg)]) rfl ?_
          exact fin dX6_gardener_45 (s0 hf) rfl hP hS
        · have hf := if_t c5 hf
          refine lv_aload_n hx hb dX6_gardener_24 rfl (lv_at hl 0 rfl) ?_
          refine g_get (v := .ref (E.ad 4 0)) S hB hinX6 hP m_0_0 rfl rfl 1 (by decide) fl19 rfl rfl dX6_gardener_25 ?_
          refine lv_iload_n hx hb dX6_gardener_28 rfl (lv_at hl 1 rfl) ?_
          obtain ⟨q9, hq9, hf⟩ := bind_some hf
          refine callV_i (As := [.int a1]) (rest := []) S hB hP hS (C := RX1) (b := E.ad 4 0) (g_recv (o := 4) (d := 0) hB hP m_4_0 rfl rfl) (KW_X1_goal l hE X (by decide) (by decide) a1 hq9) (cwV 1 S.2.2.2.2 gX6_gardener_X1_goal rfl rfl rfl (by decide +kernel) ⟨Nat.le_of_ble_eq_true rfl, Nat.le_of_ble_eq_true rfl⟩) rfl hl.1 rfl (Nat.le_of_ble_eq_true rfl) dX6_gardener_29 ⟨Nat.zero_le _, Nat.zero_le _⟩ (fun H locs hP hS => ?_)
          refine lv_goto (tgt := 45) hx hb dX6_gardener_32 (by decide) ?_
          exact fin dX6_gardener_45 (s0 hf) rfl hP hS
      · have hf := if_f c4 hf
        refine lv_iconst (v := -1) hx hb dX6_gardener_17 (by decide) ?_
        exact fin dX6_gardener_18 (s0 hf) rfl hP hS
/-! X6_isGuest -/
abbrev rm_X6_isGuest : Room := { frames := 0, cells := 0, slots := 0, locals := 0 }
set_option maxHeartbeats 4000000 in
set_option maxRecDepth 100000 in
theorem K_X6_isGuest (l : Launch) {E : En} (hE : Inj E) (X : Wd) (a1 : Int32) {r : Int32} (hf : f_X6_isGuest X a1 = some r) : Cti l E yX6_isGuest wsX6_isGuest rm_X6_isGuest [.ref (E.ad 0 0), .int a1] X r X := by
  refine meet_z (cc := cX6_isGuest) (maxL := 2) (own := RX6) (by decide) rfl rfl (Nat.le_of_ble_eq_true rfl) ?_
  intro p e s m below meth c Z S hB fin hP hS ls hl
  have hx := S.1
  have hb := S.2.1
  have hl : lv_has ls 2 [(0, .ref (E.ad 0 0)), (1, .int a1)] := hl
  have hinX1 : ∀ w ∈ u_ws RX1 TX1 12, w ∈ wsX6_isGuest := by decide +kernel
  have hinX6 : ∀ w ∈ u_ws RX6 TX6 12, w ∈ wsX6_isGuest := by decide +kernel
  have fl19 := S.2.2.2.2 (.fieldLink RX6 19 "MownMaze" "maze" "LMownMaze$Maze;") (by decide +kernel)
  have fl96 := S.2.2.2.2 (.fieldLink RX6 96 "MownMaze$Maze" "guests" "I") (by decide +kernel)
  unfold f_X6_isGuest at hf
  refine lv_iload_n hx hb dX6_isGuest_0 rfl (lv_at hl 1 rfl) ?_
  refine lv_if_lt (tgt := 19) hx hb dX6_isGuest_1 (by decide) (fun c1 => ?_) (fun c1 => ?_)
  · have hf := if_t c1 hf
    refine lv_iconst (v := 0) hx hb dX6_isGuest_19 (by decide) ?_
    exact fin dX6_isGuest_20 (nz01 (by decide)) (s0 hf) rfl hP hS
  · have hf := if_f c1 hf
    refine lv_iload_n hx hb dX6_isGuest_4 rfl (lv_at hl 1 rfl) ?_
    refine lv_aload_n hx hb dX6_isGuest_5 rfl (lv_at hl 0 rfl) ?_
    refine g_get (v := .ref (E.ad 4 0)) S hB hinX6 hP m_0_0 rfl rfl 1 (by decide) fl19 rfl rfl dX6_isGuest_6 ?_
    refine g_get (v := .int ((X 4) 0 8)) S hB hinX1 hP m_4_0 rfl rfl 8 (by decide) fl96 rfl rfl dX6_isGuest_9 ?_
    refine lv_icmp_ge (tgt := 19) hx hb dX6_isGuest_12 (by decide) (fun c2 => ?_) (fun c2 => ?_)
    · have hf := if_t c2 hf
      refine lv_iconst (v := 0) hx hb dX6_isGuest_19 (by decide) ?_
      exact fin dX6_isGuest_20 (nz01 (by decide)) (s0 hf) rfl hP hS
    · have hf := if_f c2 hf
      refine lv_iconst (v := 1) hx hb dX6_isGuest_15 (by decide) ?_
      refine lv_goto (tgt := 20) hx hb dX6_isGuest_16 (by decide) ?_
      exact fin dX6_isGuest_20 (nz01 (by decide)) (s0 hf) rfl hP hS
/-! X6_guest -/
abbrev rm_X6_guest : Room := { frames := 1, cells := 0, slots := 0, locals := 21 }
set_option maxHeartbeats 4000000 in
set_option maxRecDepth 100000 in
theorem K_X6_guest (l : Launch) {E : En} (hE : Inj E) (X : Wd) (a1 : Int32) (a2 : Int32) {r : Int32} (hf : f_X6_guest X a1 a2 = some r) : Cti l E yX6_guest wsX6_guest rm_X6_guest [.ref (E.ad 0 0), .int a1, .int a2] X r X := by
  refine meet_i (cc := cX6_guest) (maxL := 3) (own := RX6) (by decide) rfl rfl (Nat.le_of_ble_eq_true rfl) ?_
  intro p e s m below meth c Z S hB fin hP hS ls hl
  have hx := S.1
  have hb := S.2.1
  have hl : lv_has ls 3 [(0, .ref (E.ad 0 0)), (1, .int a1), (2, .int a2)] := hl
  have hinX6 : ∀ w ∈ u_ws RX6 TX6 12, w ∈ wsX6_guest := by decide +kernel
  have fl19 := S.2.2.2.2 (.fieldLink RX6 19 "MownMaze" "maze" "LMownMaze$Maze;") (by decide +kernel)
  unfold f_X6_guest at hf
  refine lv_aload_n hx hb dX6_guest_0 rfl (lv_at hl 0 rfl) ?_
  refine lv_iload_n hx hb dX6_guest_1 rfl (lv_at hl 1 rfl) ?_
  obtain ⟨q1, hq1, hf⟩ := bind_some hf
  refine callV_i (As := [.int a1]) (rest := []) S hB hP hS (C := RX6) (b := E.ad 0 0) (g_recv (o := 0) (d := 0) hB hP m_0_0 rfl rfl) (K_X6_isGuest l hE X a1 hq1) (cwV 1 S.2.2.2.2 gX6_guest_X6_isGuest rfl rfl rfl (by decide +kernel) ⟨Nat.le_of_ble_eq_true rfl, Nat.le_of_ble_eq_true rfl⟩) rfl hl.1 rfl (Nat.le_of_ble_eq_true rfl) dX6_guest_2 ⟨Nat.zero_le _, Nat.zero_le _⟩ (fun H locs hP hS => ?_)
  refine lv_if_eq (tgt := 30) hx hb dX6_guest_5 (by decide) (fun c2 => ?_) (fun c2 => ?_)
  · have hf := if_t c2 hf
    refine lv_iconst (v := -1) hx hb dX6_guest_30 (by decide) ?_
    exact fin dX6_guest_31 (s0 hf) rfl hP hS
  · have hf := if_f c2 hf
    refine lv_iload_n hx hb dX6_guest_8 rfl (lv_at hl 2 rfl) ?_
    refine lv_if_lt (tgt := 30) hx hb dX6_guest_9 (by decide) (fun c3 => ?_) (fun c3 => ?_)
    · have hf := if_t c3 hf
      refine lv_iconst (v := -1) hx hb dX6_guest_30 (by decide) ?_
      exact fin dX6_guest_31 (s0 hf) rfl hP hS
    · have hf := if_f c3 hf
      refine lv_iload_n hx hb dX6_guest_12 rfl (lv_at hl 2 rfl) ?_
      refine lv_iconst (v := 2) hx hb dX6_guest_13 (by decide) ?_
      refine lv_icmp_gt (tgt := 30) hx hb dX6_guest_14 (by decide) (fun c4 => ?_) (fun c4 => ?_)
      · have hf := if_t c4 hf
        refine lv_iconst (v := -1) hx hb dX6_guest_30 (by decide) ?_
        exact fin dX6_guest_31 (s0 hf) rfl hP hS
      · have hf := if_f c4 hf
        refine lv_aload_n hx hb dX6_guest_17 rfl (lv_at hl 0 rfl) ?_
        refine g_get (v := .ref (E.ad 4 0)) S hB hinX6 hP m_0_0 rfl rfl 1 (by decide) fl19 rfl rfl dX6_guest_18 ?_
        refine lv_iload_n hx hb dX6_guest_21 rfl (lv_at hl 2 rfl) ?_
        obtain ⟨q5, hq5, hf⟩ := bind_some hf
        refine callV_r (As := [.int a2]) (rest := []) S hB hP hS (C := RX1) (b := E.ad 4 0) (g_recv (o := 4) (d := 0) hB hP m_4_0 rfl rfl) (KW_X1_lot l hE X (by decide) (by decide) a2 hq5) (cwV 1 S.2.2.2.2 gX6_guest_X1_lot rfl rfl rfl (by decide +kernel) ⟨Nat.le_of_ble_eq_true rfl, Nat.le_of_ble_eq_true rfl⟩) rfl hl.1 rfl (Nat.le_of_ble_eq_true rfl) dX6_guest_22 ⟨Nat.zero_le _, Nat.zero_le _⟩ (fun H locs hP hS => ?_)
        have hv6 := rng_X1_lot hq5
        refine lv_iload_n hx hb dX6_guest_25 rfl (lv_at hl 1 rfl) ?_
        obtain ⟨hv7, hf⟩ := ck_some hf
        refine g_iald (r := X 4 q5) S hB hP (mem_mz (by decide) (by decide) (Nat.lt_of_le_of_lt hv6.2 (by decide))) ((cell_ma E (by decide) (by decide) (Nat.ne_of_gt hv6.1)) _) hv7 dX6_guest_26 ?_
        refine W.eq (g2 := F0 m 27 ls [.int ((X 4) q5 a1.toNatClampNeg)]) rfl ?_
        refine lv_goto (tgt := 31) hx hb dX6_guest_27 (by decide) ?_
        exact fin dX6_guest_31 (s0 hf) rfl hP hS
/-! X6_isPlot -/
abbrev rm_X6_isPlot : Room := { frames := 0, cells := 0, slots := 0, locals := 0 }
set_option maxHeartbeats 4000000 in
set_option maxRecDepth 100000 in
theorem K_X6_isPlot (l : Launch) {E : En} (hE : Inj E) (X : Wd) (a0 : Int32) {r : Int32} (hf : f_X6_isPlot a0 = some r) : Cti l E yX6_isPlot wsX6_isPlot rm_X6_isPlot [.int a0] X r X := by
  refine meet_z (cc := cX6_isPlot) (maxL := 1) (own := RX6) (by decide) rfl rfl (Nat.le_of_ble_eq_true rfl) ?_
  intro p e s m below meth c Z S hB fin hP hS ls hl
  have hx := S.1
  have hb := S.2.1
  have hl : lv_has ls 1 [(0, .int a0)] := hl
  unfold f_X6_isPlot at hf
  refine lv_iload_n hx hb dX6_isPlot_0 rfl (lv_at hl 0 rfl) ?_
  refine lv_if_lt (tgt := 14) hx hb dX6_isPlot_1 (by decide) (fun c1 => ?_) (fun c1 => ?_)
  · have hf := if_t c1 hf
    refine lv_iconst (v := 0) hx hb dX6_isPlot_14 (by decide) ?_
    exact fin dX6_isPlot_15 (nz01 (by decide)) (s0 hf) rfl hP hS
  · have hf := if_f c1 hf
    refine lv_iload_n hx hb dX6_isPlot_4 rfl (lv_at hl 0 rfl) ?_
    refine lv_bipush (v := 16) hx hb dX6_isPlot_5 (by decide) ?_
    refine lv_icmp_ge (tgt := 14) hx hb dX6_isPlot_7 (by decide) (fun c2 => ?_) (fun c2 => ?_)
    · have hf := if_t c2 hf
      refine lv_iconst (v := 0) hx hb dX6_isPlot_14 (by decide) ?_
      exact fin dX6_isPlot_15 (nz01 (by decide)) (s0 hf) rfl hP hS
    · have hf := if_f c2 hf
      refine lv_iconst (v := 1) hx hb dX6_isPlot_10 (by decide) ?_
      refine lv_goto (tgt := 15) hx hb dX6_isPlot_11 (by decide) ?_
      exact fin dX6_isPlot_15 (nz01 (by decide)) (s0 hf) rfl hP hS
/-! X6_way -/
abbrev rm_X6_way : Room := { frames := 2, cells := 0, slots := 0, locals := 48 }
set_option maxHeartbeats 4000000 in
set_option maxRecDepth 100000 in
theorem K_X6_way (l : Launch) {E : En} (hE : Inj E) (X : Wd) (a1 : Int32) (a2 : Int32) {r : Int32} (hf : f_X6_way X a1 a2 = some r) : Cti l E yX6_way wsX6_way rm_X6_way [.ref (E.ad 0 0), .int a1, .int a2] X r X := by
  refine meet_i (cc := cX6_way) (maxL := 3) (own := RX6) (by decide) rfl rfl (Nat.le_of_ble_eq_true rfl) ?_
  intro p e s m below meth c Z S hB fin hP hS ls hl
  have hx := S.1
  have hb := S.2.1
  have hl : lv_has ls 3 [(0, .ref (E.ad 0 0)), (1, .int a1), (2, .int a2)] := hl
  have hinX1 : ∀ w ∈ u_ws RX1 TX1 12, w ∈ wsX6_way := by decide +kernel
  have hinX6 : ∀ w ∈ u_ws RX6 TX6 12, w ∈ wsX6_way := by decide +kernel
  have fl19 := S.2.2.2.2 (.fieldLink RX6 19 "MownMaze" "maze" "LMownMaze$Maze;") (by decide +kernel)
  have fl105 := S.2.2.2.2 (.fieldLink RX6 105 "MownMaze$Maze" "hedges" "I") (by decide +kernel)
  unfold f_X6_way at hf
  refine lv_iload_n hx hb dX6_way_0 rfl (lv_at hl 1 rfl) ?_
  obtain ⟨q1, hq1, hf⟩ := bind_some hf
  refine callS_i (As := [.int a1]) (rest := []) S hB hP hS (K_X6_isPlot l hE X a1 hq1) (va_cwS 1 S.2.2.2.2 gX6_way_X6_isPlot rfl rfl rfl (by decide +kernel) ⟨Nat.le_of_ble_eq_true rfl, Nat.le_of_ble_eq_true rfl⟩) rfl hl.1 rfl (Nat.le_of_ble_eq_true rfl) dX6_way_1 ⟨Nat.zero_le _, Nat.zero_le _⟩ (fun H locs hP hS => ?_)
  refine lv_if_eq (tgt := 29) hx hb dX6_way_4 (by decide) (fun c2 => ?_) (fun c2 => ?_)
  · have hf := if_t c2 hf
    refine lv_iconst (v := -1) hx hb dX6_way_29 (by decide) ?_
    exact fin dX6_way_30 (s0 hf) rfl hP hS
  · have hf := if_f c2 hf
    refine lv_iload_n hx hb dX6_way_7 rfl (lv_at hl 2 rfl) ?_
    obtain ⟨q3, hq3, hf⟩ := bind_some hf
    refine callS_i (As := [.int a2]) (rest := []) S hB hP hS (K_X6_isPlot l hE X a2 hq3) (va_cwS 1 S.2.2.2.2 gX6_way_X6_isPlot rfl rfl rfl (by decide +kernel) ⟨Nat.le_of_ble_eq_true rfl, Nat.le_of_ble_eq_true rfl⟩) rfl hl.1 rfl (Nat.le_of_ble_eq_true rfl) dX6_way_8 ⟨Nat.zero_le _, Nat.zero_le _⟩ (fun H locs hP hS => ?_)
    refine lv_if_eq (tgt := 29) hx hb dX6_way_11 (by decide) (fun c4 => ?_) (fun c4 => ?_)
    · have hf := if_t c4 hf
      refine lv_iconst (v := -1) hx hb dX6_way_29 (by decide) ?_
      exact fin dX6_way_30 (s0 hf) rfl hP hS
    · have hf := if_f c4 hf
      refine lv_aload_n hx hb dX6_way_14 rfl (lv_at hl 0 rfl) ?_
      refine g_get (v := .ref (E.ad 4 0)) S hB hinX6 hP m_0_0 rfl rfl 1 (by decide) fl19 rfl rfl dX6_way_15 ?_
      refine g_get (v := .int ((X 4) 0 0)) S hB hinX1 hP m_4_0 rfl rfl 0 (by decide) fl105 rfl rfl dX6_way_18 ?_
      refine lv_iload_n hx hb dX6_way_21 rfl (lv_at hl 1 rfl) ?_
      refine lv_iload_n hx hb dX6_way_22 rfl (lv_at hl 2 rfl) ?_
      obtain ⟨q5, hq5, hf⟩ := bind_some hf
      refine callS_i (As := [.int ((X 4) 0 0), .int a1, .int a2]) (rest := []) S hB hP hS (K_X2_steps l hE X ((X 4) 0 0) a1 a2 hq5) (va_cwS 3 S.2.2.2.2 gX6_way_X2_steps rfl rfl rfl (by decide +kernel) ⟨Nat.le_of_ble_eq_true rfl, Nat.le_of_ble_eq_true rfl⟩) rfl hl.1 rfl (Nat.le_of_ble_eq_true rfl) dX6_way_23 ⟨Nat.zero_le _, Nat.zero_le _⟩ (fun H locs hP hS => ?_)
      refine lv_goto (tgt := 30) hx hb dX6_way_26 (by decide) ?_
      exact fin dX6_way_30 (s0 hf) rfl hP hS
/-! X6_turn -/
abbrev rm_X6_turn : Room := { frames := 2, cells := 0, slots := 0, locals := 50 }
set_option maxHeartbeats 4000000 in
set_option maxRecDepth 100000 in
theorem K_X6_turn (l : Launch) {E : En} (hE : Inj E) (X : Wd) (a1 : Int32) {r : Int32} (hf : f_X6_turn X a1 = some r) : Cti l E yX6_turn wsX6_turn rm_X6_turn [.ref (E.ad 0 0), .int a1] X r X := by
  refine meet_i (cc := cX6_turn) (maxL := 2) (own := RX6) (by decide) rfl rfl (Nat.le_of_ble_eq_true rfl) ?_
  intro p e s m below meth c Z S hB fin hP hS ls hl
  have hx := S.1
  have hb := S.2.1
  have hl : lv_has ls 2 [(0, .ref (E.ad 0 0)), (1, .int a1)] := hl
  have hinX1 : ∀ w ∈ u_ws RX1 TX1 12, w ∈ wsX6_turn := by decide +kernel
  have hinX6 : ∀ w ∈ u_ws RX6 TX6 12, w ∈ wsX6_turn := by decide +kernel
  have fl19 := S.2.2.2.2 (.fieldLink RX6 19 "MownMaze" "maze" "LMownMaze$Maze;") (by decide +kernel)
  have fl102 := S.2.2.2.2 (.fieldLink RX6 102 "MownMaze$Maze" "gate" "I") (by decide +kernel)
  have fl105 := S.2.2.2.2 (.fieldLink RX6 105 "MownMaze$Maze" "hedges" "I") (by decide +kernel)
  unfold f_X6_turn at hf
  refine lv_iload_n hx hb dX6_turn_0 rfl (lv_at hl 1 rfl) ?_
  obtain ⟨q1, hq1, hf⟩ := bind_some hf
  refine callS_i (As := [.int a1]) (rest := []) S hB hP hS (K_X6_isPlot l hE X a1 hq1) (va_cwS 1 S.2.2.2.2 gX6_turn_X6_isPlot rfl rfl rfl (by decide +kernel) ⟨Nat.le_of_ble_eq_true rfl, Nat.le_of_ble_eq_true rfl⟩) rfl hl.1 rfl (Nat.le_of_ble_eq_true rfl) dX6_turn_1 ⟨Nat.zero_le _, Nat.zero_le _⟩ (fun H locs hP hS => ?_)
  refine lv_if_eq (tgt := 28) hx hb dX6_turn_4 (by decide) (fun c2 => ?_) (fun c2 => ?_)
  · have hf := if_t c2 hf
    refine lv_iconst (v := -1) hx hb dX6_turn_28 (by decide) ?_
    exact fin dX6_turn_29 (s0 hf) rfl hP hS
  · have hf := if_f c2 hf
    refine lv_aload_n hx hb dX6_turn_7 rfl (lv_at hl 0 rfl) ?_
    refine g_get (v := .ref (E.ad 4 0)) S hB hinX6 hP m_0_0 rfl rfl 1 (by decide) fl19 rfl rfl dX6_turn_8 ?_
    refine g_get (v := .int ((X 4) 0 0)) S hB hinX1 hP m_4_0 rfl rfl 0 (by decide) fl105 rfl rfl dX6_turn_11 ?_
    refine lv_iload_n hx hb dX6_turn_14 rfl (lv_at hl 1 rfl) ?_
    refine lv_aload_n hx hb dX6_turn_15 rfl (lv_at hl 0 rfl) ?_
    refine g_get (v := .ref (E.ad 4 0)) S hB hinX6 hP m_0_0 rfl rfl 1 (by decide) fl19 rfl rfl dX6_turn_16 ?_
    refine g_get (v := .int ((X 4) 0 1)) S hB hinX1 hP m_4_0 rfl rfl 1 (by decide) fl102 rfl rfl dX6_turn_19 ?_
    obtain ⟨q3, hq3, hf⟩ := bind_some hf
    refine callS_i (As := [.int ((X 4) 0 0), .int a1, .int ((X 4) 0 1)]) (rest := []) S hB hP hS (K_X2_toward l hE X ((X 4) 0 0) a1 ((X 4) 0 1) hq3) (va_cwS 3 S.2.2.2.2 gX6_turn_X2_toward rfl rfl rfl (by decide +kernel) ⟨Nat.le_of_ble_eq_true rfl, Nat.le_of_ble_eq_true rfl⟩) rfl hl.1 rfl (Nat.le_of_ble_eq_true rfl) dX6_turn_22 ⟨Nat.zero_le _, Nat.zero_le _⟩ (fun H locs hP hS => ?_)
    refine lv_goto (tgt := 29) hx hb dX6_turn_25 (by decide) ?_
    exact fin dX6_turn_29 (s0 hf) rfl hP hS
/-! X6_isBit -/
abbrev rm_X6_isBit : Room := { frames := 0, cells := 0, slots := 0, locals := 0 }
set_option maxHeartbeats 4000000 in
set_option maxRecDepth 100000 in
theorem K_X6_isBit (l : Launch) {E : En} (hE : Inj E) (X : Wd) (a0 : Int32) {r : Int32} (hf : f_X6_isBit a0 = some r) : Cti l E yX6_isBit wsX6_isBit rm_X6_isBit [.int a0] X r X := by
  refine meet_z (cc := cX6_isBit) (maxL := 1) (own := RX6) (by decide) rfl rfl (Nat.le_of_ble_eq_true rfl) ?_
  intro p e s m below meth c Z S hB fin hP hS ls hl
  have hx := S.1
  have hb := S.2.1
  have hl : lv_has ls 1 [(0, .int a0)] := hl
  have hB9 : ∀ (H : Heap) (locs : List Loc) (ls : Array Slot), f_X6_isBit_b9 = some r → va_P E.1 vwCl (GW E X) H → va_S (GA E) s.heap H locs → lv_has ls 1 [] → W p l e rm_X6_isBit s m ([.int a0] : List Value).toArray below meth c H locs 0 0 Z (F0 m 9 ls []) := by
    intro  H locs ls hf hP hS hl
    unfold f_X6_isBit_b9 at hf
    refine lv_iconst (v := 1) hx hb dX6_isBit_9 (by decide) ?_
    refine lv_goto (tgt := 14) hx hb dX6_isBit_10 (by decide) ?_
    exact fin dX6_isBit_14 (nz01 (by decide)) (s0 hf) rfl hP hS
  unfold f_X6_isBit at hf
  refine lv_iload_n hx hb dX6_isBit_0 rfl (lv_at hl 0 rfl) ?_
  refine lv_if_eq (tgt := 9) hx hb dX6_isBit_1 (by decide) (fun c1 => ?_) (fun c1 => ?_)
  · have hf := if_t c1 hf
    exact hB9 _ _ _ hf hP hS (lv_sub hl [] rfl)
  · have hf := if_f c1 hf
    refine lv_iload_n hx hb dX6_isBit_4 rfl (lv_at hl 0 rfl) ?_
    refine lv_iconst (v := 1) hx hb dX6_isBit_5 (by decide) ?_
    refine lv_icmp_ne (tgt := 13) hx hb dX6_isBit_6 (by decide) (fun c2 => ?_) (fun c2 => ?_)
    · have hf := if_f c2 hf
      refine lv_iconst (v := 0) hx hb dX6_isBit_13 (by decide) ?_
      exact fin dX6_isBit_14 (nz01 (by decide)) (s0 hf) rfl hP hS
    · have hf := if_t c2 hf
      exact hB9 _ _ _ hf hP hS (lv_sub hl [] rfl)
/-! X6_grow -/
abbrev rm_X6_grow : Room := { frames := 1, cells := 0, slots := 0, locals := 22 }
set_option maxHeartbeats 4000000 in
set_option maxRecDepth 100000 in
theorem K_X6_grow (l : Launch) {E : En} (hE : Inj E) (X : Wd) (a1 : Int32) (a2 : Int32) {r : Int32} {X' : Wd} (hf : f_X6_grow X a1 a2 = some (r, X')) : Cti l E yX6_grow wsX6_grow rm_X6_grow [.ref (E.ad 0 0), .int a1, .int a2] X r X' := by
  refine meet_i (cc := cX6_grow) (maxL := 4) (own := RX6) (by decide) rfl rfl (Nat.le_of_ble_eq_true rfl) ?_
  intro p e s m below meth c Z S hB fin hP hS ls hl
  have hx := S.1
  have hb := S.2.1
  have hl : lv_has ls 4 [(0, .ref (E.ad 0 0)), (1, .int a1), (2, .int a2)] := hl
  have hinX1 : ∀ w ∈ u_ws RX1 TX1 12, w ∈ wsX6_grow := by decide +kernel
  have hinX6 : ∀ w ∈ u_ws RX6 TX6 12, w ∈ wsX6_grow := by decide +kernel
  have fl19 := S.2.2.2.2 (.fieldLink RX6 19 "MownMaze" "maze" "LMownMaze$Maze;") (by decide +kernel)
  have fl105 := S.2.2.2.2 (.fieldLink RX6 105 "MownMaze$Maze" "hedges" "I") (by decide +kernel)
  unfold f_X6_grow at hf
  refine lv_iload_n hx hb dX6_grow_0 rfl (lv_at hl 1 rfl) ?_
  obtain ⟨q1, hq1, hf⟩ := bind_some hf
  refine callS_i (As := [.int a1]) (rest := []) S hB hP hS (K_X6_isHedge l hE X a1 hq1) (va_cwS 1 S.2.2.2.2 gX6_grow_X6_isHedge rfl rfl rfl (by decide +kernel) ⟨Nat.le_of_ble_eq_true rfl, Nat.le_of_ble_eq_true rfl⟩) rfl hl.1 rfl (Nat.le_of_ble_eq_true rfl) dX6_grow_1 ⟨Nat.zero_le _, Nat.zero_le _⟩ (fun H locs hP hS => ?_)
  refine lv_if_eq (tgt := 14) hx hb dX6_grow_4 (by decide) (fun c2 => ?_) (fun c2 => ?_)
  · have hf := if_t c2 hf
    refine lv_iconst (v := -1) hx hb dX6_grow_14 (by decide) ?_
    exact fin dX6_grow_15 (s1 hf) (s2 hf) hP hS
  · have hf := if_f c2 hf
    refine lv_iload_n hx hb dX6_grow_7 rfl (lv_at hl 2 rfl) ?_
    obtain ⟨q3, hq3, hf⟩ := bind_some hf
    refine callS_i (As := [.int a2]) (rest := []) S hB hP hS (K_X6_isBit l hE X a2 hq3) (va_cwS 1 S.2.2.2.2 gX6_grow_X6_isBit rfl rfl rfl (by decide +kernel) ⟨Nat.le_of_ble_eq_true rfl, Nat.le_of_ble_eq_true rfl⟩) rfl hl.1 rfl (Nat.le_of_ble_eq_true rfl) dX6_grow_8 ⟨Nat.zero_le _, Nat.zero_le _⟩ (fun H locs hP hS => ?_)
    refine lv_if_ne (tgt := 16) hx hb dX6_grow_11 (by decide) (fun c4 => ?_) (fun c4 => ?_)
    · have hf := if_f c4 hf
      refine lv_aload_n hx hb dX6_grow_16 rfl (lv_at hl 0 rfl) ?_
      refine g_get (v := .ref (E.ad 4 0)) S hB hinX6 hP m_0_0 rfl rfl 1 (by decide) fl19 rfl rfl dX6_grow_17 ?_
      refine lv_iload_n hx hb dX6_grow_20 rfl (lv_at hl 1 rfl) ?_
      obtain ⟨q5, hq5, hf⟩ := bind_some hf
      refine callV_i (As := [.int a1]) (rest := []) S hB hP hS (C := RX1) (b := E.ad 4 0) (g_recv (o := 4) (d := 0) hB hP m_4_0 rfl rfl) (KW_X1_standing l hE X (by decide) (by decide) a1 hq5) (cwV 1 S.2.2.2.2 gX6_grow_X1_standing rfl rfl rfl (by decide +kernel) ⟨Nat.le_of_ble_eq_true rfl, Nat.le_of_ble_eq_true rfl⟩) rfl hl.1 rfl (Nat.le_of_ble_eq_true rfl) dX6_grow_21 ⟨Nat.zero_le _, Nat.zero_le _⟩ (fun H locs hP hS => ?_)
      refine lv_istore_n (lv' := [(3, .int q5), (0, .ref (E.ad 0 0)), (1, .int a1), (2, .int a2)]) hx hb dX6_grow_24 rfl hl (by decide) rfl (fun ls hl => ?_)
      refine lv_aload_n hx hb dX6_grow_25 rfl (lv_at hl 1 rfl) ?_
      refine g_get (v := .ref (E.ad 4 0)) S hB hinX6 hP m_0_0 rfl rfl 1 (by decide) fl19 rfl rfl dX6_grow_26 ?_
      refine lv_aload_n hx hb dX6_grow_29 rfl (lv_at hl 1 rfl) ?_
      refine g_get (v := .ref (E.ad 4 0)) S hB hinX6 hP m_0_0 rfl rfl 1 (by decide) fl19 rfl rfl dX6_grow_30 ?_
      refine g_get (v := .int ((X 4) 0 0)) S hB hinX1 hP m_4_0 rfl rfl 0 (by decide) fl105 rfl rfl dX6_grow_33 ?_
      refine lv_iload_n hx hb dX6_grow_36 rfl (lv_at hl 2 rfl) ?_
      refine lv_iload_n hx hb dX6_grow_37 rfl (lv_at hl 3 rfl) ?_
      obtain ⟨q6, hq6, hf⟩ := bind_some hf
      refine callS_i (As := [.int ((X 4) 0 0), .int a1, .int a2]) (rest := [.ref (E.ad 4 0)]) S hB hP hS (K_X2_with l hE X ((X 4) 0 0) a1 a2 hq6) (va_cwS 3 S.2.2.2.2 gX6_grow_X2_with rfl rfl rfl (by decide +kernel) ⟨Nat.le_of_ble_eq_true rfl, Nat.le_of_ble_eq_true rfl⟩) rfl hl.1 rfl (Nat.le_of_ble_eq_true rfl) dX6_grow_38 ⟨Nat.zero_le _, Nat.zero_le _⟩ (fun H locs hP hS => ?_)
      refine g_put S hB hE hinX1 tyX1 tyX1_ok nmX1 hP hS m_4_0 rfl rfl 0 (by decide) fl105 rfl rfl rfl rfl (Nat.le_of_ble_eq_true rfl) (by exact (fun _ => rfl) _) (X' := (wo X 4 0 0 q6)) rfl dX6_grow_41 (fun H locs hP hS => ?_)
      refine lv_iload_n hx hb dX6_grow_44 rfl (lv_at hl 0 rfl) ?_
      exact fin dX6_grow_45 (s1 hf) (s2 hf) hP hS
    · have hf := if_t c4 hf
      refine lv_iconst (v := -1) hx hb dX6_grow_14 (by decide) ?_
      exact fin dX6_grow_15 (s1 hf) (s2 hf) hP hS
/-! X6_alter -/
abbrev rm_X6_alter : Room := { frames := 1, cells := 0, slots := 0, locals := 22 }
set_option maxHeartbeats 4000000 in
set_option maxRecDepth 100000 in
theorem K_X6_alter (l : Launch) {E : En} (hE : Inj E) (X : Wd) (a1 : Int32) (a2 : Int32) (a3 : Int32) {r : Int32} {X' : Wd} (hf : f_X6_alter X a1 a2 a3 = some (r, X')) : Cti l E yX6_alter wsX6_alter rm_X6_alter [.ref (E.ad 0 0), .int a1, .int a2, .int a3] X r X' := by
  refine meet_i (cc := cX6_alter) (maxL := 5) (own := RX6) (by decide) rfl rfl (Nat.le_of_ble_eq_true rfl) ?_
  intro p e s m below meth c Z S hB fin hP hS ls hl
  have hx := S.1
  have hb := S.2.1
  have hl : lv_has ls 5 [(0, .ref (E.ad 0 0)), (1, .int a1), (2, .int a2), (3, .int a3)] := hl
  have hinX6 : ∀ w ∈ u_ws RX6 TX6 12, w ∈ wsX6_alter := by decide +kernel
  have fl19 := S.2.2.2.2 (.fieldLink RX6 19 "MownMaze" "maze" "LMownMaze$Maze;") (by decide +kernel)
  unfold f_X6_alter at hf
  refine lv_aload_n hx hb dX6_alter_0 rfl (lv_at hl 0 rfl) ?_
  refine lv_iload_n hx hb dX6_alter_1 rfl (lv_at hl 1 rfl) ?_
  obtain ⟨q1, hq1, hf⟩ := bind_some hf
  refine callV_i (As := [.int a1]) (rest := []) S hB hP hS (C := RX6) (b := E.ad 0 0) (g_recv (o := 0) (d := 0) hB hP m_0_0 rfl rfl) (K_X6_isGardener l hE X a1 hq1) (cwV 1 S.2.2.2.2 gX6_alter_X6_isGardener rfl rfl rfl (by decide +kernel) ⟨Nat.le_of_ble_eq_true rfl, Nat.le_of_ble_eq_true rfl⟩) rfl hl.1 rfl (Nat.le_of_ble_eq_true rfl) dX6_alter_2 ⟨Nat.zero_le _, Nat.zero_le _⟩ (fun H locs hP hS => ?_)
  refine lv_if_eq (tgt := 25) hx hb dX6_alter_5 (by decide) (fun c2 => ?_) (fun c2 => ?_)
  · have hf := if_t c2 hf
    refine lv_iconst (v := -1) hx hb dX6_alter_25 (by decide) ?_
    exact fin dX6_alter_26 (s1 hf) (s2 hf) hP hS
  · have hf := if_f c2 hf
    refine lv_iload_n hx hb dX6_alter_8 rfl (lv_at hl 2 rfl) ?_
    refine lv_if_lt (tgt := 25) hx hb dX6_alter_9 (by decide) (fun c3 => ?_) (fun c3 => ?_)
    · have hf := if_t c3 hf
      refine lv_iconst (v := -1) hx hb dX6_alter_25 (by decide) ?_
      exact fin dX6_alter_26 (s1 hf) (s2 hf) hP hS
    · have hf := if_f c3 hf
      refine lv_iload_n hx hb dX6_alter_12 rfl (lv_at hl 2 rfl) ?_
      refine lv_iconst (v := 2) hx hb dX6_alter_13 (by decide) ?_
      refine lv_icmp_gt (tgt := 25) hx hb dX6_alter_14 (by decide) (fun c4 => ?_) (fun c4 => ?_)
      · have hf := if_t c4 hf
        refine lv_iconst (v := -1) hx hb dX6_alter_25 (by decide) ?_
        exact fin dX6_alter_26 (s1 hf) (s2 hf) hP hS
      · have hf := if_f c4 hf
        refine lv_iload_n hx hb dX6_alter_17 rfl (lv_at hl 2 rfl) ?_
        refine lv_iload_n hx hb dX6_alter_18 rfl (lv_at hl 3 rfl) ?_
        obtain ⟨q5, hq5, hf⟩ := bind_some hf
        refine callS_i (As := [.int a2, .int a3]) (rest := []) S hB hP hS (K_X1_isTrait l hE X a2 a3 hq5) (va_cwS 2 S.2.2.2.2 gX6_alter_X1_isTrait rfl rfl rfl (by decide +kernel) ⟨Nat.le_of_ble_eq_true rfl, Nat.le_of_ble_eq_true rfl⟩) rfl hl.1 rfl (Nat.le_of_ble_eq_true rfl) dX6_alter_19 ⟨Nat.zero_le _, Nat.zero_le _⟩ (fun H locs hP hS => ?_)
        refine lv_if_ne (tgt := 27) hx hb dX6_alter_22 (by decide) (fun c6 => ?_) (fun c6 => ?_)
        · have hf := if_f c6 hf
          refine lv_aload_n hx hb dX6_alter_27 rfl (lv_at hl 0 rfl) ?_
          refine g_get (v := .ref (E.ad 4 0)) S hB hinX6 hP m_0_0 rfl rfl 1 (by decide) fl19 rfl rfl dX6_alter_28 ?_
          refine lv_iload_n hx hb dX6_alter_31 rfl (lv_at hl 2 rfl) ?_
          obtain ⟨q7, hq7, hf⟩ := bind_some hf
          refine callV_r (As := [.int a2]) (rest := []) S hB hP hS (C := RX1) (b := E.ad 4 0) (g_recv (o := 4) (d := 0) hB hP m_4_0 rfl rfl) (KW_X1_trait l hE X (by decide) (by decide) a2 hq7) (cwV 1 S.2.2.2.2 gX6_alter_X1_trait rfl rfl rfl (by decide +kernel) ⟨Nat.le_of_ble_eq_true rfl, Nat.le_of_ble_eq_true rfl⟩) rfl hl.1 rfl (Nat.le_of_ble_eq_true rfl) dX6_alter_32 ⟨Nat.zero_le _, Nat.zero_le _⟩ (fun H locs hP hS => ?_)
          have hv8 := rng_X1_trait hq7
          refine lv_iload_n hx hb dX6_alter_35 rfl (lv_at hl 1 rfl) ?_
          obtain ⟨hv9, hf⟩ := ck_some hf
          refine g_iald (r := X 4 q7) S hB hP (mem_mz (by decide) (by decide) (Nat.lt_of_le_of_lt hv8.2 (by decide))) ((cell_ma E (by decide) (by decide) (Nat.ne_of_gt hv8.1)) _) hv9 dX6_alter_36 ?_
          refine W.eq (g2 := F0 m 37 ls [.int ((X 4) q7 a1.toNatClampNeg)]) rfl ?_
          refine lv_istore (lv' := [(4, .int ((X 4) q7 a1.toNatClampNeg)), (0, .ref (E.ad 0 0)), (1, .int a1), (2, .int a2), (3, .int a3)]) hx hb dX6_alter_37 hl (by decide) rfl (fun ls hl => ?_)
          refine lv_aload_n hx hb dX6_alter_39 rfl (lv_at hl 1 rfl) ?_
          refine g_get (v := .ref (E.ad 4 0)) S hB hinX6 hP m_0_0 rfl rfl 1 (by decide) fl19 rfl rfl dX6_alter_40 ?_
          refine lv_iload_n hx hb dX6_alter_43 rfl (lv_at hl 3 rfl) ?_
          obtain ⟨q10, hq10, hf⟩ := bind_some hf
          refine callV_r (As := [.int a2]) (rest := []) S hB hP hS (C := RX1) (b := E.ad 4 0) (g_recv (o := 4) (d := 0) hB hP m_4_0 rfl rfl) (KW_X1_trait l hE X (by decide) (by decide) a2 hq10) (cwV 1 S.2.2.2.2 gX6_alter_X1_trait rfl rfl rfl (by decide +kernel) ⟨Nat.le_of_ble_eq_true rfl, Nat.le_of_ble_eq_true rfl⟩) rfl hl.1 rfl (Nat.le_of_ble_eq_true rfl) dX6_alter_44 ⟨Nat.zero_le _, Nat.zero_le _⟩ (fun H locs hP hS => ?_)
          have hv11 := rng_X1_trait hq10
          refine lv_iload_n hx hb dX6_alter_47 rfl (lv_at hl 2 rfl) ?_
          refine lv_iload_n hx hb dX6_alter_48 rfl (lv_at hl 4 rfl) ?_
          obtain ⟨hv12, hf⟩ := ck_some hf
          refine g_iast (r := X 4 q10) S hB hE hP hS (mem_mz (by decide) (by decide) (Nat.lt_of_le_of_lt hv11.2 (by decide))) ((cell_ma E (by decide) (by decide) (Nat.ne_of_gt hv11.1)) _) rfl (cell_ma E (by decide) (by decide) (Nat.ne_of_gt hv11.1)) hv12 (X' := (wo X 4 q10 a1.toNatClampNeg a3)) rfl dX6_alter_49 (fun H locs hP hS => ?_)
          refine lv_iload hx hb dX6_alter_50 (lv_at hl 0 rfl) ?_
          exact fin dX6_alter_52 (s1 hf) (s2 hf) hP hS
        · have hf := if_t c6 hf
          refine lv_iconst (v := -1) hx hb dX6_alter_25 (by decide) ?_
          exact fin dX6_alter_26 (s1 hf) (s2 hf) hP hS
/-! X6_hire -/
abbrev rm_X6_hire : Room := { frames := 1, cells := 0, slots := 0, locals := 23 }
set_option maxHeartbeats 4000000 in
set_option maxRecDepth 100000 in
theorem K_X6_hire (l : Launch) {E : En} (hE : Inj E) (X : Wd) (a1 : Int32) (a2 : Int32) (a3 : Int32) {r : Int32} {X' : Wd} (hf : f_X6_hire X a1 a2 a3 = some (r, X')) : Cti l E yX6_hire wsX6_hire rm_X6_hire [.ref (E.ad 0 0), .int a1, .int a2, .int a3] X r X' := by
  refine meet_i (cc := cX6_hire) (maxL := 4) (own := RX6) (by decide) rfl rfl (Nat.le_of_ble_eq_true rfl) ?_
  intro p e s m below meth c Z S hB fin hP hS ls hl
  have hx := S.1
  have hb := S.2.1
  have hl : lv_has ls 4 [(0, .ref (E.ad 0 0)), (1, .int a1), (2, .int a2), (3, .int a3)] := hl
  have hinX1 : ∀ w ∈ u_ws RX1 TX1 12, w ∈ wsX6_hire := by decide +kernel
  have hinX6 : ∀ w ∈ u_ws RX6 TX6 12, w ∈ wsX6_hire := by decide +kernel
  have fl19 := S.2.2.2.2 (.fieldLink RX6 19 "MownMaze" "maze" "LMownMaze$Maze;") (by decide +kernel)
  have fl93 := S.2.2.2.2 (.fieldLink RX6 93 "MownMaze$Maze" "gardeners" "I") (by decide +kernel)
  unfold f_X6_hire at hf
  refine lv_iconst (v := 0) hx hb dX6_hire_0 (by decide) ?_
  refine lv_iload_n hx hb dX6_hire_1 rfl (lv_at hl 1 rfl) ?_
  obtain ⟨q1, hq1, hf⟩ := bind_some hf
  refine callS_i (As := [.int (0 : Int32), .int a1]) (rest := []) S hB hP hS (K_X1_isTrait l hE X (0 : Int32) a1 hq1) (va_cwS 2 S.2.2.2.2 gX6_hire_X1_isTrait rfl rfl rfl (by decide +kernel) ⟨Nat.le_of_ble_eq_true rfl, Nat.le_of_ble_eq_true rfl⟩) rfl hl.1 rfl (Nat.le_of_ble_eq_true rfl) dX6_hire_2 ⟨Nat.zero_le _, Nat.zero_le _⟩ (fun H locs hP hS => ?_)
  refine lv_if_eq (tgt := 24) hx hb dX6_hire_5 (by decide) (fun c2 => ?_) (fun c2 => ?_)
  · have hf := if_t c2 hf
    refine lv_iconst (v := -1) hx hb dX6_hire_24 (by decide) ?_
    exact fin dX6_hire_25 (s1 hf) (s2 hf) hP hS
  · have hf := if_f c2 hf
    refine lv_iconst (v := 1) hx hb dX6_hire_8 (by decide) ?_
    refine lv_iload_n hx hb dX6_hire_9 rfl (lv_at hl 2 rfl) ?_
    obtain ⟨q3, hq3, hf⟩ := bind_some hf
    refine callS_i (As := [.int (1 : Int32), .int a2]) (rest := []) S hB hP hS (K_X1_isTrait l hE X (1 : Int32) a2 hq3) (va_cwS 2 S.2.2.2.2 gX6_hire_X1_isTrait rfl rfl rfl (by decide +kernel) ⟨Nat.le_of_ble_eq_true rfl, Nat.le_of_ble_eq_true rfl⟩) rfl hl.1 rfl (Nat.le_of_ble_eq_true rfl) dX6_hire_10 ⟨Nat.zero_le _, Nat.zero_le _⟩ (fun H locs hP hS => ?_)
    refine lv_if_eq (tgt := 24) hx hb dX6_hire_13 (by decide) (fun c4 => ?_) (fun c4 => ?_)
    · have hf := if_t c4 hf
      refine lv_iconst (v := -1) hx hb dX6_hire_24 (by decide) ?_
      exact fin dX6_hire_25 (s1 hf) (s2 hf) hP hS
    · have hf := if_f c4 hf
      refine lv_iconst (v := 2) hx hb dX6_hire_16 (by decide) ?_
      refine lv_iload_n hx hb dX6_hire_17 rfl (lv_at hl 3 rfl) ?_
      obtain ⟨q5, hq5, hf⟩ := bind_some hf
      refine callS_i (As := [.int (2 : Int32), .int a3]) (rest := []) S hB hP hS (K_X1_isTrait l hE X (2 : Int32) a3 hq5) (va_cwS 2 S.2.2.2.2 gX6_hire_X1_isTrait rfl rfl rfl (by decide +kernel) ⟨Nat.le_of_ble_eq_true rfl, Nat.le_of_ble_eq_true rfl⟩) rfl hl.1 rfl (Nat.le_of_ble_eq_true rfl) dX6_hire_18 ⟨Nat.zero_le _, Nat.zero_le _⟩ (fun H locs hP hS => ?_)
      refine lv_if_ne (tgt := 26) hx hb dX6_hire_21 (by decide) (fun c6 => ?_) (fun c6 => ?_)
      · have hf := if_f c6 hf
        refine lv_aload_n hx hb dX6_hire_26 rfl (lv_at hl 0 rfl) ?_
        refine g_get (v := .ref (E.ad 4 0)) S hB hinX6 hP m_0_0 rfl rfl 1 (by decide) fl19 rfl rfl dX6_hire_27 ?_
        refine lv_iload_n hx hb dX6_hire_30 rfl (lv_at hl 1 rfl) ?_
        refine lv_iload_n hx hb dX6_hire_31 rfl (lv_at hl 2 rfl) ?_
        refine lv_iload_n hx hb dX6_hire_32 rfl (lv_at hl 3 rfl) ?_
        obtain ⟨q7, hq7, hf⟩ := bind_some hf
        refine callV_i (As := [.int a1, .int a2, .int a3]) (rest := []) S hB hP hS (C := RX1) (b := E.ad 4 0) (g_recv (o := 4) (d := 0) hB hP m_4_0 rfl rfl) (KW_X1_addGardener l hE X (by decide) (by decide) a1 a2 a3 hq7) (cwV 3 S.2.2.2.2 gX6_hire_X1_addGardener rfl rfl rfl (by decide +kernel) ⟨Nat.le_of_ble_eq_true rfl, Nat.le_of_ble_eq_true rfl⟩) rfl hl.1 rfl (Nat.le_of_ble_eq_true rfl) dX6_hire_33 ⟨Nat.zero_le _, Nat.zero_le _⟩ (fun H locs hP hS => ?_)
        refine lv_if_eq (tgt := 49) hx hb dX6_hire_36 (by decide) (fun c8 => ?_) (fun c8 => ?_)
        · have hf := if_t c8 hf
          refine lv_bipush (v := -3) hx hb dX6_hire_49 (by decide) ?_
          exact fin dX6_hire_51 (s1 hf) (s2 hf) hP hS
        · have hf := if_f c8 hf
          refine lv_aload_n hx hb dX6_hire_39 rfl (lv_at hl 0 rfl) ?_
          refine g_get (v := .ref (E.ad 4 0)) S hB hinX6 hP m_0_0 rfl rfl 1 (by decide) fl19 rfl rfl dX6_hire_40 ?_
          refine g_get (v := .int (q7.2 0 4)) S hB hinX1 hP m_4_0 rfl rfl 4 (by decide) fl93 rfl rfl dX6_hire_43 ?_
          refine lv_goto (tgt := 51) hx hb dX6_hire_46 (by decide) ?_
          exact fin dX6_hire_51 (s1 hf) (s2 hf) hP hS
      · have hf := if_t c6 hf
        refine lv_iconst (v := -1) hx hb dX6_hire_24 (by decide) ?_
        exact fin dX6_hire_25 (s1 hf) (s2 hf) hP hS
/-! X6_leave -/
abbrev rm_X6_leave : Room := { frames := 0, cells := 0, slots := 0, locals := 0 }
set_option maxHeartbeats 4000000 in
set_option maxRecDepth 100000 in
theorem K_X6_leave (l : Launch) {E : En} (hE : Inj E) (X : Wd) (a1 : Int32) {r : Int32} {X' : Wd} (hf : f_X6_leave X a1 = some (r, X')) : Cti l E yX6_leave wsX6_leave rm_X6_leave [.ref (E.ad 0 0), .int a1] X r X' := by
  refine meet_i (cc := cX6_leave) (maxL := 3) (own := RX6) (by decide) rfl rfl (Nat.le_of_ble_eq_true rfl) ?_
  intro p e s m below meth c Z S hB fin hP hS ls hl
  have hx := S.1
  have hb := S.2.1
  have hl : lv_has ls 3 [(0, .ref (E.ad 0 0)), (1, .int a1)] := hl
  have hinX1 : ∀ w ∈ u_ws RX1 TX1 12, w ∈ wsX6_leave := by decide +kernel
  have hinX6 : ∀ w ∈ u_ws RX6 TX6 12, w ∈ wsX6_leave := by decide +kernel
  have fl19 := S.2.2.2.2 (.fieldLink RX6 19 "MownMaze" "maze" "LMownMaze$Maze;") (by decide +kernel)
  have fl93 := S.2.2.2.2 (.fieldLink RX6 93 "MownMaze$Maze" "gardeners" "I") (by decide +kernel)
  unfold f_X6_leave at hf
  refine lv_iload_n hx hb dX6_leave_0 rfl (lv_at hl 1 rfl) ?_
  refine lv_if_lt (tgt := 15) hx hb dX6_leave_1 (by decide) (fun c1 => ?_) (fun c1 => ?_)
  · have hf := if_t c1 hf
    refine lv_iconst (v := -1) hx hb dX6_leave_15 (by decide) ?_
    exact fin dX6_leave_16 (s1 hf) (s2 hf) hP hS
  · have hf := if_f c1 hf
    refine lv_iload_n hx hb dX6_leave_4 rfl (lv_at hl 1 rfl) ?_
    refine lv_aload_n hx hb dX6_leave_5 rfl (lv_at hl 0 rfl) ?_
    refine g_get (v := .ref (E.ad 4 0)) S hB hinX6 hP m_0_0 rfl rfl 1 (by decide) fl19 rfl rfl dX6_leave_6 ?_
    refine g_get (v := .int ((X 4) 0 4)) S hB hinX1 hP m_4_0 rfl rfl 4 (by decide) fl93 rfl rfl dX6_leave_9 ?_
    refine lv_icmp_le (tgt := 17) hx hb dX6_leave_12 (by decide) (fun c2 => ?_) (fun c2 => ?_)
    · have hf := if_t c2 hf
      refine lv_aload_n hx hb dX6_leave_17 rfl (lv_at hl 0 rfl) ?_
      refine g_get (v := .ref (E.ad 4 0)) S hB hinX6 hP m_0_0 rfl rfl 1 (by decide) fl19 rfl rfl dX6_leave_18 ?_
      refine g_get (v := .int ((X 4) 0 4)) S hB hinX1 hP m_4_0 rfl rfl 4 (by decide) fl93 rfl rfl dX6_leave_21 ?_
      refine lv_istore_n (lv' := [(2, .int ((X 4) 0 4)), (0, .ref (E.ad 0 0)), (1, .int a1)]) hx hb dX6_leave_24 rfl hl (by decide) rfl (fun ls hl => ?_)
      refine lv_aload_n hx hb dX6_leave_25 rfl (lv_at hl 1 rfl) ?_
      refine g_get (v := .ref (E.ad 4 0)) S hB hinX6 hP m_0_0 rfl rfl 1 (by decide) fl19 rfl rfl dX6_leave_26 ?_
      refine lv_iload_n hx hb dX6_leave_29 rfl (lv_at hl 2 rfl) ?_
      refine g_put S hB hE hinX1 tyX1 tyX1_ok nmX1 hP hS m_4_0 rfl rfl 4 (by decide) fl93 rfl rfl rfl rfl (Nat.le_of_ble_eq_true rfl) (by exact (fun _ => rfl) _) (X' := (wo X 4 0 4 a1)) rfl dX6_leave_30 (fun H locs hP hS => ?_)
      refine lv_iload_n hx hb dX6_leave_33 rfl (lv_at hl 0 rfl) ?_
      exact fin dX6_leave_34 (s1 hf) (s2 hf) hP hS
    · have hf := if_f c2 hf
      refine lv_iconst (v := -1) hx hb dX6_leave_15 (by decide) ?_
      exact fin dX6_leave_16 (s1 hf) (s2 hf) hP hS
/-! X6_isFood -/
abbrev rm_X6_isFood : Room := { frames := 0, cells := 0, slots := 0, locals := 0 }
set_option maxHeartbeats 4000000 in
set_option maxRecDepth 100000 in
theorem K_X6_isFood (l : Launch) {E : En} (hE : Inj E) (X : Wd) (a0 : Int32) {r : Int32} (hf : f_X6_isFood a0 = some r) : Cti l E yX6_isFood wsX6_isFood rm_X6_isFood [.int a0] X r X := by
  refine meet_z (cc := cX6_isFood) (maxL := 1) (own := RX6) (by decide) rfl rfl (Nat.le_of_ble_eq_true rfl) ?_
  intro p e s m below meth c Z S hB fin hP hS ls hl
  have hx := S.1
  have hb := S.2.1
  have hl : lv_has ls 1 [(0, .int a0)] := hl
  unfold f_X6_isFood at hf
  refine lv_iload_n hx hb dX6_isFood_0 rfl (lv_at hl 0 rfl) ?_
  refine lv_if_lt (tgt := 14) hx hb dX6_isFood_1 (by decide) (fun c1 => ?_) (fun c1 => ?_)
  · have hf := if_t c1 hf
    refine lv_iconst (v := 0) hx hb dX6_isFood_14 (by decide) ?_
    exact fin dX6_isFood_15 (nz01 (by decide)) (s0 hf) rfl hP hS
  · have hf := if_f c1 hf
    refine lv_iload_n hx hb dX6_isFood_4 rfl (lv_at hl 0 rfl) ?_
    refine lv_bipush (v := 60) hx hb dX6_isFood_5 (by decide) ?_
    refine lv_icmp_gt (tgt := 14) hx hb dX6_isFood_7 (by decide) (fun c2 => ?_) (fun c2 => ?_)
    · have hf := if_t c2 hf
      refine lv_iconst (v := 0) hx hb dX6_isFood_14 (by decide) ?_
      exact fin dX6_isFood_15 (nz01 (by decide)) (s0 hf) rfl hP hS
    · have hf := if_f c2 hf
      refine lv_iconst (v := 1) hx hb dX6_isFood_10 (by decide) ?_
      refine lv_goto (tgt := 15) hx hb dX6_isFood_11 (by decide) ?_
      exact fin dX6_isFood_15 (nz01 (by decide)) (s0 hf) rfl hP hS
/-! X6_come -/
abbrev rm_X6_come : Room := { frames := 1, cells := 0, slots := 0, locals := 22 }
set_option maxHeartbeats 4000000 in
set_option maxRecDepth 100000 in
theorem K_X6_come (l : Launch) {E : En} (hE : Inj E) (X : Wd) (a1 : Int32) (a2 : Int32) {r : Int32} {X' : Wd} (hf : f_X6_come X a1 a2 = some (r, X')) : Cti l E yX6_come wsX6_come rm_X6_come [.ref (E.ad 0 0), .int a1, .int a2] X r X' := by
  refine meet_i (cc := cX6_come) (maxL := 3) (own := RX6) (by decide) rfl rfl (Nat.le_of_ble_eq_true rfl) ?_
  intro p e s m below meth c Z S hB fin hP hS ls hl
  have hx := S.1
  have hb := S.2.1
  have hl : lv_has ls 3 [(0, .ref (E.ad 0 0)), (1, .int a1), (2, .int a2)] := hl
  have hinX1 : ∀ w ∈ u_ws RX1 TX1 12, w ∈ wsX6_come := by decide +kernel
  have hinX6 : ∀ w ∈ u_ws RX6 TX6 12, w ∈ wsX6_come := by decide +kernel
  have fl19 := S.2.2.2.2 (.fieldLink RX6 19 "MownMaze" "maze" "LMownMaze$Maze;") (by decide +kernel)
  have fl96 := S.2.2.2.2 (.fieldLink RX6 96 "MownMaze$Maze" "guests" "I") (by decide +kernel)
  unfold f_X6_come at hf
  refine lv_iload_n hx hb dX6_come_0 rfl (lv_at hl 1 rfl) ?_
  obtain ⟨q1, hq1, hf⟩ := bind_some hf
  refine callS_i (As := [.int a1]) (rest := []) S hB hP hS (K_X6_isPlot l hE X a1 hq1) (va_cwS 1 S.2.2.2.2 gX6_come_X6_isPlot rfl rfl rfl (by decide +kernel) ⟨Nat.le_of_ble_eq_true rfl, Nat.le_of_ble_eq_true rfl⟩) rfl hl.1 rfl (Nat.le_of_ble_eq_true rfl) dX6_come_1 ⟨Nat.zero_le _, Nat.zero_le _⟩ (fun H locs hP hS => ?_)
  refine lv_if_eq (tgt := 14) hx hb dX6_come_4 (by decide) (fun c2 => ?_) (fun c2 => ?_)
  · have hf := if_t c2 hf
    refine lv_iconst (v := -1) hx hb dX6_come_14 (by decide) ?_
    exact fin dX6_come_15 (s1 hf) (s2 hf) hP hS
  · have hf := if_f c2 hf
    refine lv_iload_n hx hb dX6_come_7 rfl (lv_at hl 2 rfl) ?_
    obtain ⟨q3, hq3, hf⟩ := bind_some hf
    refine callS_i (As := [.int a2]) (rest := []) S hB hP hS (K_X6_isFood l hE X a2 hq3) (va_cwS 1 S.2.2.2.2 gX6_come_X6_isFood rfl rfl rfl (by decide +kernel) ⟨Nat.le_of_ble_eq_true rfl, Nat.le_of_ble_eq_true rfl⟩) rfl hl.1 rfl (Nat.le_of_ble_eq_true rfl) dX6_come_8 ⟨Nat.zero_le _, Nat.zero_le _⟩ (fun H locs hP hS => ?_)
    refine lv_if_ne (tgt := 16) hx hb dX6_come_11 (by decide) (fun c4 => ?_) (fun c4 => ?_)
    · have hf := if_f c4 hf
      refine lv_aload_n hx hb dX6_come_16 rfl (lv_at hl 0 rfl) ?_
      refine g_get (v := .ref (E.ad 4 0)) S hB hinX6 hP m_0_0 rfl rfl 1 (by decide) fl19 rfl rfl dX6_come_17 ?_
      refine lv_iload_n hx hb dX6_come_20 rfl (lv_at hl 1 rfl) ?_
      refine lv_iload_n hx hb dX6_come_21 rfl (lv_at hl 2 rfl) ?_
      obtain ⟨q5, hq5, hf⟩ := bind_some hf
      refine callV_i (As := [.int a1, .int a2]) (rest := []) S hB hP hS (C := RX1) (b := E.ad 4 0) (g_recv (o := 4) (d := 0) hB hP m_4_0 rfl rfl) (KW_X1_addGuest l hE X (by decide) (by decide) a1 a2 hq5) (cwV 2 S.2.2.2.2 gX6_come_X1_addGuest rfl rfl rfl (by decide +kernel) ⟨Nat.le_of_ble_eq_true rfl, Nat.le_of_ble_eq_true rfl⟩) rfl hl.1 rfl (Nat.le_of_ble_eq_true rfl) dX6_come_22 ⟨Nat.zero_le _, Nat.zero_le _⟩ (fun H locs hP hS => ?_)
      refine lv_if_eq (tgt := 38) hx hb dX6_come_25 (by decide) (fun c6 => ?_) (fun c6 => ?_)
      · have hf := if_t c6 hf
        refine lv_bipush (v := -3) hx hb dX6_come_38 (by decide) ?_
        exact fin dX6_come_40 (s1 hf) (s2 hf) hP hS
      · have hf := if_f c6 hf
        refine lv_aload_n hx hb dX6_come_28 rfl (lv_at hl 0 rfl) ?_
        refine g_get (v := .ref (E.ad 4 0)) S hB hinX6 hP m_0_0 rfl rfl 1 (by decide) fl19 rfl rfl dX6_come_29 ?_
        refine g_get (v := .int (q5.2 0 8)) S hB hinX1 hP m_4_0 rfl rfl 8 (by decide) fl96 rfl rfl dX6_come_32 ?_
        refine lv_goto (tgt := 40) hx hb dX6_come_35 (by decide) ?_
        exact fin dX6_come_40 (s1 hf) (s2 hf) hP hS
    · have hf := if_t c4 hf
      refine lv_iconst (v := -1) hx hb dX6_come_14 (by decide) ?_
      exact fin dX6_come_15 (s1 hf) (s2 hf) hP hS
/-! X6_move -/
abbrev rm_X6_move : Room := { frames := 1, cells := 0, slots := 0, locals := 21 }
set_option maxHeartbeats 4000000 in
set_option maxRecDepth 100000 in
theorem K_X6_move (l : Launch) {E : En} (hE : Inj E) (X : Wd) (a1 : Int32) (a2 : Int32) {r : Int32} {X' : Wd} (hf : f_X6_move X a1 a2 = some (r, X')) : Cti l E yX6_move wsX6_move rm_X6_move [.ref (E.ad 0 0), .int a1, .int a2] X r X' := by
  refine meet_i (cc := cX6_move) (maxL := 4) (own := RX6) (by decide) rfl rfl (Nat.le_of_ble_eq_true rfl) ?_
  intro p e s m below meth c Z S hB fin hP hS ls hl
  have hx := S.1
  have hb := S.2.1
  have hl : lv_has ls 4 [(0, .ref (E.ad 0 0)), (1, .int a1), (2, .int a2)] := hl
  have hinX1 : ∀ w ∈ u_ws RX1 TX1 12, w ∈ wsX6_move := by decide +kernel
  have hinX6 : ∀ w ∈ u_ws RX6 TX6 12, w ∈ wsX6_move := by decide +kernel
  have fl19 := S.2.2.2.2 (.fieldLink RX6 19 "MownMaze" "maze" "LMownMaze$Maze;") (by decide +kernel)
  have fl174 := S.2.2.2.2 (.fieldLink RX6 174 "MownMaze$Maze" "at" "[I") (by decide +kernel)
  have fl178 := S.2.2.2.2 (.fieldLink RX6 178 "MownMaze$Maze" "fate" "[I") (by decide +kernel)
  unfold f_X6_move at hf
  refine lv_aload_n hx hb dX6_move_0 rfl (lv_at hl 0 rfl) ?_
  refine lv_iload_n hx hb dX6_move_1 rfl (lv_at hl 1 rfl) ?_
  obtain ⟨q1, hq1, hf⟩ := bind_some hf
  refine callV_i (As := [.int a1]) (rest := []) S hB hP hS (C := RX6) (b := E.ad 0 0) (g_recv (o := 0) (d := 0) hB hP m_0_0 rfl rfl) (K_X6_isGuest l hE X a1 hq1) (cwV 1 S.2.2.2.2 gX6_move_X6_isGuest rfl rfl rfl (by decide +kernel) ⟨Nat.le_of_ble_eq_true rfl, Nat.le_of_ble_eq_true rfl⟩) rfl hl.1 rfl (Nat.le_of_ble_eq_true rfl) dX6_move_2 ⟨Nat.zero_le _, Nat.zero_le _⟩ (fun H locs hP hS => ?_)
  refine lv_if_eq (tgt := 15) hx hb dX6_move_5 (by decide) (fun c2 => ?_) (fun c2 => ?_)
  · have hf := if_t c2 hf
    refine lv_iconst (v := -1) hx hb dX6_move_15 (by decide) ?_
    exact fin dX6_move_16 (s1 hf) (s2 hf) hP hS
  · have hf := if_f c2 hf
    refine lv_iload_n hx hb dX6_move_8 rfl (lv_at hl 2 rfl) ?_
    obtain ⟨q3, hq3, hf⟩ := bind_some hf
    refine callS_i (As := [.int a2]) (rest := []) S hB hP hS (K_X6_isPlot l hE X a2 hq3) (va_cwS 1 S.2.2.2.2 gX6_move_X6_isPlot rfl rfl rfl (by decide +kernel) ⟨Nat.le_of_ble_eq_true rfl, Nat.le_of_ble_eq_true rfl⟩) rfl hl.1 rfl (Nat.le_of_ble_eq_true rfl) dX6_move_9 ⟨Nat.zero_le _, Nat.zero_le _⟩ (fun H locs hP hS => ?_)
    refine lv_if_ne (tgt := 17) hx hb dX6_move_12 (by decide) (fun c4 => ?_) (fun c4 => ?_)
    · have hf := if_f c4 hf
      refine lv_aload_n hx hb dX6_move_17 rfl (lv_at hl 0 rfl) ?_
      refine g_get (v := .ref (E.ad 4 0)) S hB hinX6 hP m_0_0 rfl rfl 1 (by decide) fl19 rfl rfl dX6_move_18 ?_
      refine g_get (v := .ref (E.ad 4 4)) S hB hinX1 hP m_4_0 rfl rfl 9 (by decide) fl174 rfl rfl dX6_move_21 ?_
      refine lv_iload_n hx hb dX6_move_24 rfl (lv_at hl 1 rfl) ?_
      obtain ⟨hv5, hf⟩ := ck_some hf
      refine g_iald (r := X 4 4) S hB hP m_4_4 rfl hv5 dX6_move_25 ?_
      refine W.eq (g2 := F0 m 26 ls [.int ((X 4) 4 a1.toNatClampNeg)]) rfl ?_
      refine lv_istore_n (lv' := [(3, .int ((X 4) 4 a1.toNatClampNeg)), (0, .ref (E.ad 0 0)), (1, .int a1), (2, .int a2)]) hx hb dX6_move_26 rfl hl (by decide) rfl (fun ls hl => ?_)
      refine lv_aload_n hx hb dX6_move_27 rfl (lv_at hl 1 rfl) ?_
      refine g_get (v := .ref (E.ad 4 0)) S hB hinX6 hP m_0_0 rfl rfl 1 (by decide) fl19 rfl rfl dX6_move_28 ?_
      refine g_get (v := .ref (E.ad 4 4)) S hB hinX1 hP m_4_0 rfl rfl 9 (by decide) fl174 rfl rfl dX6_move_31 ?_
      refine lv_iload_n hx hb dX6_move_34 rfl (lv_at hl 2 rfl) ?_
      refine lv_iload_n hx hb dX6_move_35 rfl (lv_at hl 3 rfl) ?_
      obtain ⟨hv6, hf⟩ := ck_some hf
      refine g_iast (r := X 4 4) S hB hE hP hS m_4_4 rfl rfl (fun _ => rfl) hv6 (X' := (wo X 4 4 a1.toNatClampNeg a2)) rfl dX6_move_36 (fun H locs hP hS => ?_)
      refine lv_aload_n hx hb dX6_move_37 rfl (lv_at hl 1 rfl) ?_
      refine g_get (v := .ref (E.ad 4 0)) S hB hinX6 hP m_0_0 rfl rfl 1 (by decide) fl19 rfl rfl dX6_move_38 ?_
      refine g_get (v := .ref (E.ad 4 6)) S hB hinX1 hP m_4_0 rfl rfl 11 (by decide) fl178 rfl rfl dX6_move_41 ?_
      refine lv_iload_n hx hb dX6_move_44 rfl (lv_at hl 2 rfl) ?_
      refine lv_iconst (v := 0) hx hb dX6_move_45 (by decide) ?_
      obtain ⟨hv7, hf⟩ := ck_some hf
      refine g_iast (r := (wo X 4 4 a1.toNatClampNeg a2) 4 6) S hB hE hP hS m_4_6 rfl rfl (fun _ => rfl) hv7 (X' := (wo (wo X 4 4 a1.toNatClampNeg a2) 4 6 a1.toNatClampNeg (0 : Int32))) rfl dX6_move_46 (fun H locs hP hS => ?_)
      refine lv_iload_n hx hb dX6_move_47 rfl (lv_at hl 0 rfl) ?_
      exact fin dX6_move_48 (s1 hf) (s2 hf) hP hS
    · have hf := if_t c4 hf
      refine lv_iconst (v := -1) hx hb dX6_move_15 (by decide) ?_
      exact fin dX6_move_16 (s1 hf) (s2 hf) hP hS
/-! X6_bread -/
abbrev rm_X6_bread : Room := { frames := 1, cells := 0, slots := 0, locals := 21 }
set_option maxHeartbeats 4000000 in
set_option maxRecDepth 100000 in
theorem K_X6_bread (l : Launch) {E : En} (hE : Inj E) (X : Wd) (a1 : Int32) (a2 : Int32) {r : Int32} {X' : Wd} (hf : f_X6_bread X a1 a2 = some (r, X')) : Cti l E yX6_bread wsX6_bread rm_X6_bread [.ref (E.ad 0 0), .int a1, .int a2] X r X' := by
  refine meet_i (cc := cX6_bread) (maxL := 4) (own := RX6) (by decide) rfl rfl (Nat.le_of_ble_eq_true rfl) ?_
  intro p e s m below meth c Z S hB fin hP hS ls hl
  have hx := S.1
  have hb := S.2.1
  have hl : lv_has ls 4 [(0, .ref (E.ad 0 0)), (1, .int a1), (2, .int a2)] := hl
  have hinX1 : ∀ w ∈ u_ws RX1 TX1 12, w ∈ wsX6_bread := by decide +kernel
  have hinX6 : ∀ w ∈ u_ws RX6 TX6 12, w ∈ wsX6_bread := by decide +kernel
  have fl19 := S.2.2.2.2 (.fieldLink RX6 19 "MownMaze" "maze" "LMownMaze$Maze;") (by decide +kernel)
  have fl181 := S.2.2.2.2 (.fieldLink RX6 181 "MownMaze$Maze" "food" "[I") (by decide +kernel)
  unfold f_X6_bread at hf
  refine lv_aload_n hx hb dX6_bread_0 rfl (lv_at hl 0 rfl) ?_
  refine lv_iload_n hx hb dX6_bread_1 rfl (lv_at hl 1 rfl) ?_
  obtain ⟨q1, hq1, hf⟩ := bind_some hf
  refine callV_i (As := [.int a1]) (rest := []) S hB hP hS (C := RX6) (b := E.ad 0 0) (g_recv (o := 0) (d := 0) hB hP m_0_0 rfl rfl) (K_X6_isGuest l hE X a1 hq1) (cwV 1 S.2.2.2.2 gX6_bread_X6_isGuest rfl rfl rfl (by decide +kernel) ⟨Nat.le_of_ble_eq_true rfl, Nat.le_of_ble_eq_true rfl⟩) rfl hl.1 rfl (Nat.le_of_ble_eq_true rfl) dX6_bread_2 ⟨Nat.zero_le _, Nat.zero_le _⟩ (fun H locs hP hS => ?_)
  refine lv_if_eq (tgt := 15) hx hb dX6_bread_5 (by decide) (fun c2 => ?_) (fun c2 => ?_)
  · have hf := if_t c2 hf
    refine lv_iconst (v := -1) hx hb dX6_bread_15 (by decide) ?_
    exact fin dX6_bread_16 (s1 hf) (s2 hf) hP hS
  · have hf := if_f c2 hf
    refine lv_iload_n hx hb dX6_bread_8 rfl (lv_at hl 2 rfl) ?_
    obtain ⟨q3, hq3, hf⟩ := bind_some hf
    refine callS_i (As := [.int a2]) (rest := []) S hB hP hS (K_X6_isFood l hE X a2 hq3) (va_cwS 1 S.2.2.2.2 gX6_bread_X6_isFood rfl rfl rfl (by decide +kernel) ⟨Nat.le_of_ble_eq_true rfl, Nat.le_of_ble_eq_true rfl⟩) rfl hl.1 rfl (Nat.le_of_ble_eq_true rfl) dX6_bread_9 ⟨Nat.zero_le _, Nat.zero_le _⟩ (fun H locs hP hS => ?_)
    refine lv_if_ne (tgt := 17) hx hb dX6_bread_12 (by decide) (fun c4 => ?_) (fun c4 => ?_)
    · have hf := if_f c4 hf
      refine lv_aload_n hx hb dX6_bread_17 rfl (lv_at hl 0 rfl) ?_
      refine g_get (v := .ref (E.ad 4 0)) S hB hinX6 hP m_0_0 rfl rfl 1 (by decide) fl19 rfl rfl dX6_bread_18 ?_
      refine g_get (v := .ref (E.ad 4 5)) S hB hinX1 hP m_4_0 rfl rfl 10 (by decide) fl181 rfl rfl dX6_bread_21 ?_
      refine lv_iload_n hx hb dX6_bread_24 rfl (lv_at hl 1 rfl) ?_
      obtain ⟨hv5, hf⟩ := ck_some hf
      refine g_iald (r := X 4 5) S hB hP m_4_5 rfl hv5 dX6_bread_25 ?_
      refine W.eq (g2 := F0 m 26 ls [.int ((X 4) 5 a1.toNatClampNeg)]) rfl ?_
      refine lv_istore_n (lv' := [(3, .int ((X 4) 5 a1.toNatClampNeg)), (0, .ref (E.ad 0 0)), (1, .int a1), (2, .int a2)]) hx hb dX6_bread_26 rfl hl (by decide) rfl (fun ls hl => ?_)
      refine lv_aload_n hx hb dX6_bread_27 rfl (lv_at hl 1 rfl) ?_
      refine g_get (v := .ref (E.ad 4 0)) S hB hinX6 hP m_0_0 rfl rfl 1 (by decide) fl19 rfl rfl dX6_bread_28 ?_
      refine g_get (v := .ref (E.ad 4 5)) S hB hinX1 hP m_4_0 rfl rfl 10 (by decide) fl181 rfl rfl dX6_bread_31 ?_
      refine lv_iload_n hx hb dX6_bread_34 rfl (lv_at hl 2 rfl) ?_
      refine lv_iload_n hx hb dX6_bread_35 rfl (lv_at hl 3 rfl) ?_
      obtain ⟨hv6, hf⟩ := ck_some hf
      refine g_iast (r := X 4 5) S hB hE hP hS m_4_5 rfl rfl (fun _ => rfl) hv6 (X' := (wo X 4 5 a1.toNatClampNeg a2)) rfl dX6_bread_36 (fun H locs hP hS => ?_)
      refine lv_iload_n hx hb dX6_bread_37 rfl (lv_at hl 0 rfl) ?_
      exact fin dX6_bread_38 (s1 hf) (s2 hf) hP hS
    · have hf := if_t c4 hf
      refine lv_iconst (v := -1) hx hb dX6_bread_15 (by decide) ?_
      exact fin dX6_bread_16 (s1 hf) (s2 hf) hP hS
/-! X6_open -/
abbrev rm_X6_open : Room := { frames := 1, cells := 0, slots := 0, locals := 20 }
set_option maxHeartbeats 4000000 in
set_option maxRecDepth 100000 in
theorem K_X6_open (l : Launch) {E : En} (hE : Inj E) (X : Wd) (a1 : Int32) {r : Int32} {X' : Wd} (hf : f_X6_open X a1 = some (r, X')) : Cti l E yX6_open wsX6_open rm_X6_open [.ref (E.ad 0 0), .int a1] X r X' := by
  refine meet_i (cc := cX6_open) (maxL := 3) (own := RX6) (by decide) rfl rfl (Nat.le_of_ble_eq_true rfl) ?_
  intro p e s m below meth c Z S hB fin hP hS ls hl
  have hx := S.1
  have hb := S.2.1
  have hl : lv_has ls 3 [(0, .ref (E.ad 0 0)), (1, .int a1)] := hl
  have hinX1 : ∀ w ∈ u_ws RX1 TX1 12, w ∈ wsX6_open := by decide +kernel
  have hinX6 : ∀ w ∈ u_ws RX6 TX6 12, w ∈ wsX6_open := by decide +kernel
  have fl19 := S.2.2.2.2 (.fieldLink RX6 19 "MownMaze" "maze" "LMownMaze$Maze;") (by decide +kernel)
  have fl102 := S.2.2.2.2 (.fieldLink RX6 102 "MownMaze$Maze" "gate" "I") (by decide +kernel)
  unfold f_X6_open at hf
  refine lv_iload_n hx hb dX6_open_0 rfl (lv_at hl 1 rfl) ?_
  obtain ⟨q1, hq1, hf⟩ := bind_some hf
  refine callS_i (As := [.int a1]) (rest := []) S hB hP hS (K_X6_isPlot l hE X a1 hq1) (va_cwS 1 S.2.2.2.2 gX6_open_X6_isPlot rfl rfl rfl (by decide +kernel) ⟨Nat.le_of_ble_eq_true rfl, Nat.le_of_ble_eq_true rfl⟩) rfl hl.1 rfl (Nat.le_of_ble_eq_true rfl) dX6_open_1 ⟨Nat.zero_le _, Nat.zero_le _⟩ (fun H locs hP hS => ?_)
  refine lv_if_ne (tgt := 9) hx hb dX6_open_4 (by decide) (fun c2 => ?_) (fun c2 => ?_)
  · have hf := if_f c2 hf
    refine lv_aload_n hx hb dX6_open_9 rfl (lv_at hl 0 rfl) ?_
    refine g_get (v := .ref (E.ad 4 0)) S hB hinX6 hP m_0_0 rfl rfl 1 (by decide) fl19 rfl rfl dX6_open_10 ?_
    refine g_get (v := .int ((X 4) 0 1)) S hB hinX1 hP m_4_0 rfl rfl 1 (by decide) fl102 rfl rfl dX6_open_13 ?_
    refine lv_istore_n (lv' := [(2, .int ((X 4) 0 1)), (0, .ref (E.ad 0 0)), (1, .int a1)]) hx hb dX6_open_16 rfl hl (by decide) rfl (fun ls hl => ?_)
    refine lv_aload_n hx hb dX6_open_17 rfl (lv_at hl 1 rfl) ?_
    refine g_get (v := .ref (E.ad 4 0)) S hB hinX6 hP m_0_0 rfl rfl 1 (by decide) fl19 rfl rfl dX6_open_18 ?_
    refine lv_iload_n hx hb dX6_open_21 rfl (lv_at hl 2 rfl) ?_
    refine g_put S hB hE hinX1 tyX1 tyX1_ok nmX1 hP hS m_4_0 rfl rfl 1 (by decide) fl102 rfl rfl rfl rfl (Nat.le_of_ble_eq_true rfl) (by exact (fun _ => rfl) _) (X' := (wo X 4 0 1 a1)) rfl dX6_open_22 (fun H locs hP hS => ?_)
    refine lv_iload_n hx hb dX6_open_25 rfl (lv_at hl 0 rfl) ?_
    exact fin dX6_open_26 (s1 hf) (s2 hf) hP hS
  · have hf := if_t c2 hf
    refine lv_iconst (v := -1) hx hb dX6_open_7 (by decide) ?_
    exact fin dX6_open_8 (s1 hf) (s2 hf) hP hS
/-! X6_days -/
abbrev rm_X6_days : Room := { frames := 4, cells := 0, slots := 0, locals := 93 }
set_option maxHeartbeats 4000000 in
set_option maxRecDepth 100000 in
theorem K_X6_days (l : Launch) {E : En} (hE : Inj E) (X : Wd) (a1 : Int32) {r : Int32} {X' : Wd} (hf : f_X6_days X a1 = some (r, X')) : Cti l E yX6_days wsX6_days rm_X6_days [.ref (E.ad 0 0), .int a1] X r X' := by
  refine meet_i (cc := cX6_days) (maxL := 3) (own := RX6) (by decide) rfl rfl (Nat.le_of_ble_eq_true rfl) ?_
  intro p e s m below meth c Z S hB fin hP hS ls hl
  have hx := S.1
  have hb := S.2.1
  have hl : lv_has ls 3 [(0, .ref (E.ad 0 0)), (1, .int a1)] := hl
  have hinX1 : ∀ w ∈ u_ws RX1 TX1 12, w ∈ wsX6_days := by decide +kernel
  have hinX6 : ∀ w ∈ u_ws RX6 TX6 12, w ∈ wsX6_days := by decide +kernel
  have fl19 := S.2.2.2.2 (.fieldLink RX6 19 "MownMaze" "maze" "LMownMaze$Maze;") (by decide +kernel)
  have fl99 := S.2.2.2.2 (.fieldLink RX6 99 "MownMaze$Maze" "day" "I") (by decide +kernel)
  unfold f_X6_days at hf
  refine lv_iload_n hx hb dX6_days_0 rfl (lv_at hl 1 rfl) ?_
  refine lv_if_lt (tgt := 10) hx hb dX6_days_1 (by decide) (fun c1 => ?_) (fun c1 => ?_)
  · have hf := if_t c1 hf
    refine lv_iconst (v := -1) hx hb dX6_days_10 (by decide) ?_
    exact fin dX6_days_11 (s1 hf) (s2 hf) hP hS
  · have hf := if_f c1 hf
    refine lv_iload_n hx hb dX6_days_4 rfl (lv_at hl 1 rfl) ?_
    refine lv_bipush (v := 30) hx hb dX6_days_5 (by decide) ?_
    refine lv_icmp_le (tgt := 12) hx hb dX6_days_7 (by decide) (fun c2 => ?_) (fun c2 => ?_)
    · have hf := if_t c2 hf
      refine lv_aload_n hx hb dX6_days_12 rfl (lv_at hl 0 rfl) ?_
      refine g_get (v := .ref (E.ad 4 0)) S hB hinX6 hP m_0_0 rfl rfl 1 (by decide) fl19 rfl rfl dX6_days_13 ?_
      refine g_get (v := .int ((X 4) 0 3)) S hB hinX1 hP m_4_0 rfl rfl 3 (by decide) fl99 rfl rfl dX6_days_16 ?_
      refine lv_iload_n hx hb dX6_days_19 rfl (lv_at hl 1 rfl) ?_
      refine lv_iadd hx hb dX6_days_20 ?_
      refine lv_sipush (v := 1000) hx hb dX6_days_21 (by decide) ?_
      refine lv_icmp_lt (tgt := 30) hx hb dX6_days_24 (by decide) (fun c3 => ?_) (fun c3 => ?_)
      · have hf := if_t c3 hf
        refine lv_aload_n hx hb dX6_days_30 rfl (lv_at hl 0 rfl) ?_
        refine g_get (v := .ref (E.ad 4 0)) S hB hinX6 hP m_0_0 rfl rfl 1 (by decide) fl19 rfl rfl dX6_days_31 ?_
        obtain ⟨q4, hq4, hf⟩ := bind_some hf
        refine callV_i (As := []) (rest := []) S hB hP hS (C := RX1) (b := E.ad 4 0) (g_recv (o := 4) (d := 0) hB hP m_4_0 rfl rfl) (KW_X1_outs l hE X (by decide) (by decide) hq4) (cwV 0 S.2.2.2.2 gX6_days_X1_outs rfl rfl rfl (by decide +kernel) ⟨Nat.le_of_ble_eq_true rfl, Nat.le_of_ble_eq_true rfl⟩) rfl hl.1 rfl (Nat.le_of_ble_eq_true rfl) dX6_days_34 ⟨Nat.zero_le _, Nat.zero_le _⟩ (fun H locs hP hS => ?_)
        refine lv_istore_n (lv' := [(2, .int q4), (0, .ref (E.ad 0 0)), (1, .int a1)]) hx hb dX6_days_37 rfl hl (by decide) rfl (fun ls hl => ?_)
        refine lv_aload_n hx hb dX6_days_38 rfl (lv_at hl 1 rfl) ?_
        refine g_get (v := .ref (E.ad 4 0)) S hB hinX6 hP m_0_0 rfl rfl 1 (by decide) fl19 rfl rfl dX6_days_39 ?_
        refine lv_iload_n hx hb dX6_days_42 rfl (lv_at hl 2 rfl) ?_
        obtain ⟨q5, hq5, hf⟩ := bind_some hf
        refine callV_v (As := [.int a1]) (rest := []) S hB hP hS (C := RX1) (b := E.ad 4 0) (g_recv (o := 4) (d := 0) hB hP m_4_0 rfl rfl) (KW_X1_passDays l hE X (by decide) (by decide) a1 hq5) (cwV 1 S.2.2.2.2 gX6_days_X1_passDays rfl rfl rfl (by decide +kernel) ⟨Nat.le_of_ble_eq_true rfl, Nat.le_of_ble_eq_true rfl⟩) rfl hl.1 rfl (Nat.le_of_ble_eq_true rfl) dX6_days_43 ⟨Nat.zero_le _, Nat.zero_le _⟩ (fun H locs hP hS => ?_)
        refine lv_aload_n hx hb dX6_days_46 rfl (lv_at hl 1 rfl) ?_
        refine g_get (v := .ref (E.ad 4 0)) S hB hinX6 hP m_0_0 rfl rfl 1 (by decide) fl19 rfl rfl dX6_days_47 ?_
        obtain ⟨q6, hq6, hf⟩ := bind_some hf
        refine callV_i (As := []) (rest := []) S hB hP hS (C := RX1) (b := E.ad 4 0) (g_recv (o := 4) (d := 0) hB hP m_4_0 rfl rfl) (KW_X1_outs l hE (va_up X 4 q5) (by decide) (by decide) hq6) (cwV 0 S.2.2.2.2 gX6_days_X1_outs rfl rfl rfl (by decide +kernel) ⟨Nat.le_of_ble_eq_true rfl, Nat.le_of_ble_eq_true rfl⟩) rfl hl.1 rfl (Nat.le_of_ble_eq_true rfl) dX6_days_50 ⟨Nat.zero_le _, Nat.zero_le _⟩ (fun H locs hP hS => ?_)
        refine lv_iload_n hx hb dX6_days_53 rfl (lv_at hl 0 rfl) ?_
        refine lv_isub hx hb dX6_days_54 ?_
        exact fin dX6_days_55 (s1 hf) (s2 hf) hP hS
      · have hf := if_f c3 hf
        refine lv_bipush (v := -3) hx hb dX6_days_27 (by decide) ?_
        exact fin dX6_days_29 (s1 hf) (s2 hf) hP hS
    · have hf := if_f c2 hf
      refine lv_iconst (v := -1) hx hb dX6_days_10 (by decide) ?_
      exact fin dX6_days_11 (s1 hf) (s2 hf) hP hS
/-! X6_isAhead -/
abbrev rm_X6_isAhead : Room := { frames := 0, cells := 0, slots := 0, locals := 0 }
set_option maxHeartbeats 4000000 in
set_option maxRecDepth 100000 in
theorem K_X6_isAhead (l : Launch) {E : En} (hE : Inj E) (X : Wd) (a0 : Int32) {r : Int32} (hf : f_X6_isAhead a0 = some r) : Cti l E yX6_isAhead wsX6_isAhead rm_X6_isAhead [.int a0] X r X := by
  refine meet_z (cc := cX6_isAhead) (maxL := 1) (own := RX6) (by decide) rfl rfl (Nat.le_of_ble_eq_true rfl) ?_
  intro p e s m below meth c Z S hB fin hP hS ls hl
  have hx := S.1
  have hb := S.2.1
  have hl : lv_has ls 1 [(0, .int a0)] := hl
  unfold f_X6_isAhead at hf
  refine lv_iload_n hx hb dX6_isAhead_0 rfl (lv_at hl 0 rfl) ?_
  refine lv_if_lt (tgt := 14) hx hb dX6_isAhead_1 (by decide) (fun c1 => ?_) (fun c1 => ?_)
  · have hf := if_t c1 hf
    refine lv_iconst (v := 0) hx hb dX6_isAhead_14 (by decide) ?_
    exact fin dX6_isAhead_15 (nz01 (by decide)) (s0 hf) rfl hP hS
  · have hf := if_f c1 hf
    refine lv_iload_n hx hb dX6_isAhead_4 rfl (lv_at hl 0 rfl) ?_
    refine lv_bipush (v := 60) hx hb dX6_isAhead_5 (by decide) ?_
    refine lv_icmp_gt (tgt := 14) hx hb dX6_isAhead_7 (by decide) (fun c2 => ?_) (fun c2 => ?_)
    · have hf := if_t c2 hf
      refine lv_iconst (v := 0) hx hb dX6_isAhead_14 (by decide) ?_
      exact fin dX6_isAhead_15 (nz01 (by decide)) (s0 hf) rfl hP hS
    · have hf := if_f c2 hf
      refine lv_iconst (v := 1) hx hb dX6_isAhead_10 (by decide) ?_
      refine lv_goto (tgt := 15) hx hb dX6_isAhead_11 (by decide) ?_
      exact fin dX6_isAhead_15 (nz01 (by decide)) (s0 hf) rfl hP hS
