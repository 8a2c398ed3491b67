/-! X7_in -/
abbrev rm_X7_in : Room := { frames := 0, cells := 0, slots := 0, locals := 0 }
set_option maxHeartbeats 4000000 in
set_option maxRecDepth 100000 in
theorem K_X7_in (l : Launch) {E : En} (hE : Inj E) (X : Wd) (a0 : Int64) (a2 : Int64) (a4 : Int64) {r : Int32} (hf : f_X7_in a0 a2 a4 = some r) : Cti l E yX7_in wsX7_in rm_X7_in [.long a0, .long a2, .long a4] X r X := by
  refine meet_z (cc := cX7_in) (maxL := 6) (own := RX7) (by decide) rfl rfl (Nat.le_of_ble_eq_true rfl) ?_
  intro p e s m below meth c Z S hB fin hP hS ls hl
  have hx := S.1
  have hb := S.2.1
  have hl : lv_has ls 6 [(0, .long a0), (2, .long a2), (4, .long a4)] := hl
  unfold f_X7_in at hf
  refine lv_lload_n hx hb dX7_in_0 rfl (lv_at hl 0 rfl) ?_
  refine lv_lload_n hx hb dX7_in_1 rfl (lv_at hl 1 rfl) ?_
  refine W.lcmp hx hb dX7_in_2 ?_
  refine lv_if_lt (tgt := 17) hx hb dX7_in_3 (by decide) (fun c1 => ?_) (fun c1 => ?_)
  · have hf := if_t c1 hf
    refine lv_iconst (v := 0) hx hb dX7_in_17 (by decide) ?_
    exact fin dX7_in_18 (nz01 (by decide)) (s0 hf) rfl hP hS
  · have hf := if_f c1 hf
    refine lv_lload_n hx hb dX7_in_6 rfl (lv_at hl 0 rfl) ?_
    refine lv_lload hx hb dX7_in_7 (lv_at hl 2 rfl) ?_
    refine W.lcmp hx hb dX7_in_9 ?_
    refine lv_if_gt (tgt := 17) hx hb dX7_in_10 (by decide) (fun c2 => ?_) (fun c2 => ?_)
    · have hf := if_t c2 hf
      refine lv_iconst (v := 0) hx hb dX7_in_17 (by decide) ?_
      exact fin dX7_in_18 (nz01 (by decide)) (s0 hf) rfl hP hS
    · have hf := if_f c2 hf
      refine lv_iconst (v := 1) hx hb dX7_in_13 (by decide) ?_
      refine lv_goto (tgt := 18) hx hb dX7_in_14 (by decide) ?_
      exact fin dX7_in_18 (nz01 (by decide)) (s0 hf) rfl hP hS
/-! X7_feed -/
abbrev rm_X7_feed : Room := { frames := 1, cells := 0, slots := 0, locals := 25 }
set_option maxHeartbeats 4000000 in
set_option maxRecDepth 100000 in
theorem K_X7_feed (l : Launch) {E : En} (hE : Inj E) (σ : Wd) (z : Ob) (a1 : Int32) {r : Int32} {z' : Ob} (hf : f_X7_feed z a1 = some (r, z')) : Cti l E yX7_feed wsX7_feed rm_X7_feed [.ref (E.ad 22 0), .int a1] (va_up σ 22 z) r (va_up σ 22 z') := by
  refine meet_i (cc := cX7_feed) (maxL := 2) (own := RX7) (by decide) rfl rfl (Nat.le_of_ble_eq_true rfl) ?_
  intro p e s m below meth c Z S hB fin hP hS ls hl
  have hx := S.1
  have hb := S.2.1
  have hl : lv_has ls 2 [(0, .ref (E.ad 22 0)), (1, .int a1)] := hl
  have hinX7 : ∀ w ∈ u_ws RX7 TX7 25, w ∈ wsX7_feed := by decide +kernel
  have fl16 := S.2.2.2.2 (.fieldLink RX7 16 "MownMazeModel" "tape" "[I") (by decide +kernel)
  have fl57 := S.2.2.2.2 (.fieldLink RX7 57 "MownMazeModel" "taped" "I") (by decide +kernel)
  unfold f_X7_feed at hf
  refine lv_iload_n hx hb dX7_feed_0 rfl (lv_at hl 1 rfl) ?_
  refine lv_i2l hx hb dX7_feed_1 (v := a1.toInt64) rfl ?_
  refine lv_lconst (v := 0) hx hb dX7_feed_2 (by decide) ?_
  refine lv_ldc2 hx hb S.2.2.2.1 (S.2.2.2.2 (.constantLong RX7 51 (127)) (by decide +kernel)) dX7_feed_3 ?_
  obtain ⟨q1, hq1, hf⟩ := bind_some hf
  refine callS_i (As := [.long a1.toInt64, .long (0 : Int64), .long (127 : Int64)]) (rest := []) S hB hP hS (K_X7_in l hE (va_up σ 22 z) a1.toInt64 (0 : Int64) (127 : Int64) hq1) (va_cwS 3 S.2.2.2.2 gX7_feed_X7_in rfl rfl rfl (by decide +kernel) ⟨Nat.le_of_ble_eq_true rfl, Nat.le_of_ble_eq_true rfl⟩) rfl hl.1 rfl (Nat.le_of_ble_eq_true rfl) dX7_feed_6 ⟨Nat.zero_le _, Nat.zero_le _⟩ (fun H locs hP hS => ?_)
  refine lv_if_ne (tgt := 14) hx hb dX7_feed_9 (by decide) (fun c2 => ?_) (fun c2 => ?_)
  · have hf := if_f c2 hf
    refine lv_aload_n hx hb dX7_feed_14 rfl (lv_at hl 0 rfl) ?_
    refine g_get (v := .int (z 0 5)) S hB hinX7 hP m_22_0 rfl rfl 5 (by decide) fl57 rfl rfl dX7_feed_15 ?_
    refine lv_sipush (v := 160) hx hb dX7_feed_18 (by decide) ?_
    refine lv_icmp_ne (tgt := 27) hx hb dX7_feed_21 (by decide) (fun c3 => ?_) (fun c3 => ?_)
    · have hf := if_f c3 hf
      refine lv_aload_n hx hb dX7_feed_27 rfl (lv_at hl 0 rfl) ?_
      refine g_get (v := .ref (E.ad 22 3)) S hB hinX7 hP m_22_0 rfl rfl 4 (by decide) fl16 rfl rfl dX7_feed_28 ?_
      refine lv_aload_n hx hb dX7_feed_31 rfl (lv_at hl 0 rfl) ?_
      refine g_get (v := .int (z 0 5)) S hB hinX7 hP m_22_0 rfl rfl 5 (by decide) fl57 rfl rfl dX7_feed_32 ?_
      refine lv_iload_n hx hb dX7_feed_35 rfl (lv_at hl 1 rfl) ?_
      obtain ⟨hv4, hf⟩ := ck_some hf
      refine g_iast (r := z 3) S hB hE hP hS m_22_3 rfl rfl (fun _ => rfl) hv4 (X' := (va_up σ 22 (ob z 3 ((z 0 5).toNatClampNeg) a1))) (lens_put σ 22 _ _ _ _) dX7_feed_36 (fun H locs hP hS => ?_)
      refine lv_aload_n hx hb dX7_feed_37 rfl (lv_at hl 0 rfl) ?_
      refine lv_dup hx hb dX7_feed_38 rfl ?_
      refine g_get (v := .int (z 0 5)) S hB hinX7 hP m_22_0 rfl rfl 5 (by decide) fl57 rfl rfl dX7_feed_39 ?_
      refine lv_iconst (v := 1) hx hb dX7_feed_42 (by decide) ?_
      refine lv_iadd hx hb dX7_feed_43 ?_
      refine g_put S hB hE hinX7 tyX7 tyX7_ok nmX7 hP hS m_22_0 rfl rfl 5 (by decide) fl57 rfl rfl rfl rfl (Nat.le_of_ble_eq_true rfl) (by exact (fun _ => rfl) _) (X' := (va_up σ 22 (ob (ob z 3 ((z 0 5).toNatClampNeg) a1) 0 5 ((z 0 5) + (1 : Int32))))) (lens_put σ 22 _ _ _ _) dX7_feed_44 (fun H locs hP hS => ?_)
      refine lv_aload_n hx hb dX7_feed_47 rfl (lv_at hl 0 rfl) ?_
      refine g_get (v := .int ((z 0 5) + (1 : Int32))) S hB hinX7 hP m_22_0 rfl rfl 5 (by decide) fl57 rfl rfl dX7_feed_48 ?_
      exact fin dX7_feed_51 (s1 hf) (by rw [(s2 hf)]) hP hS
    · have hf := if_t c3 hf
      refine lv_bipush (v := -3) hx hb dX7_feed_24 (by decide) ?_
      exact fin dX7_feed_26 (s1 hf) (by rw [(s2 hf)]) hP hS
  · have hf := if_t c2 hf
    refine lv_iconst (v := -1) hx hb dX7_feed_12 (by decide) ?_
    exact fin dX7_feed_13 (s1 hf) (by rw [(s2 hf)]) hP hS
theorem KW_X7_feed (l : Launch) {E : En} (hE : Inj E) (X : Wd) (a1 : Int32) {r : Int32} {z' : Ob} (hf : f_X7_feed (X 22) a1 = some (r, z')) : Cti l E yX7_feed wsX7_feed rm_X7_feed [.ref (E.ad 22 0), .int a1] X r (va_up X 22 z') := by
  have h := K_X7_feed l hE X (X 22) a1 hf
  rw [lens_all] at h
  exact h
/-! X7_end -/
abbrev rm_X7_end : Room := { frames := 1, cells := 0, slots := 0, locals := 25 }
set_option maxHeartbeats 4000000 in
set_option maxRecDepth 100000 in
theorem K_X7_end (l : Launch) {E : En} (hE : Inj E) (σ : Wd) (z : Ob) (a1 : Int32) {r : Int32} {z' : Ob} (hf : f_X7_end z a1 = some (r, z')) : Cti l E yX7_end wsX7_end rm_X7_end [.ref (E.ad 22 0), .int a1] (va_up σ 22 z) r (va_up σ 22 z') := by
  refine meet_i (cc := cX7_end) (maxL := 3) (own := RX7) (by decide) rfl rfl (Nat.le_of_ble_eq_true rfl) ?_
  intro p e s m below meth c Z S hB fin hP hS ls hl
  have hx := S.1
  have hb := S.2.1
  have hl : lv_has ls 3 [(0, .ref (E.ad 22 0)), (1, .int a1)] := hl
  have hinX7 : ∀ w ∈ u_ws RX7 TX7 25, w ∈ wsX7_end := by decide +kernel
  have fl57 := S.2.2.2.2 (.fieldLink RX7 57 "MownMazeModel" "taped" "I") (by decide +kernel)
  unfold f_X7_end at hf
  refine lv_iload_n hx hb dX7_end_0 rfl (lv_at hl 1 rfl) ?_
  refine lv_i2l hx hb dX7_end_1 (v := a1.toInt64) rfl ?_
  refine lv_lconst (v := 0) hx hb dX7_end_2 (by decide) ?_
  refine lv_aload_n hx hb dX7_end_3 rfl (lv_at hl 0 rfl) ?_
  refine g_get (v := .int (z 0 5)) S hB hinX7 hP m_22_0 rfl rfl 5 (by decide) fl57 rfl rfl dX7_end_4 ?_
  refine lv_i2l hx hb dX7_end_7 (v := (z 0 5).toInt64) rfl ?_
  obtain ⟨q1, hq1, hf⟩ := bind_some hf
  refine callS_i (As := [.long a1.toInt64, .long (0 : Int64), .long ((z 0 5).toInt64)]) (rest := []) S hB hP hS (K_X7_in l hE (va_up σ 22 z) a1.toInt64 (0 : Int64) ((z 0 5).toInt64) hq1) (va_cwS 3 S.2.2.2.2 gX7_end_X7_in rfl rfl rfl (by decide +kernel) ⟨Nat.le_of_ble_eq_true rfl, Nat.le_of_ble_eq_true rfl⟩) rfl hl.1 rfl (Nat.le_of_ble_eq_true rfl) dX7_end_8 ⟨Nat.zero_le _, Nat.zero_le _⟩ (fun H locs hP hS => ?_)
  refine lv_if_ne (tgt := 16) hx hb dX7_end_11 (by decide) (fun c2 => ?_) (fun c2 => ?_)
  · have hf := if_f c2 hf
    refine lv_aload_n hx hb dX7_end_16 rfl (lv_at hl 0 rfl) ?_
    refine g_get (v := .int (z 0 5)) S hB hinX7 hP m_22_0 rfl rfl 5 (by decide) fl57 rfl rfl dX7_end_17 ?_
    refine lv_istore_n (lv' := [(2, .int (z 0 5)), (0, .ref (E.ad 22 0)), (1, .int a1)]) hx hb dX7_end_20 rfl hl (by decide) rfl (fun ls hl => ?_)
    refine lv_aload_n hx hb dX7_end_21 rfl (lv_at hl 1 rfl) ?_
    refine lv_iload_n hx hb dX7_end_22 rfl (lv_at hl 2 rfl) ?_
    refine g_put S hB hE hinX7 tyX7 tyX7_ok nmX7 hP hS m_22_0 rfl rfl 5 (by decide) fl57 rfl rfl rfl rfl (Nat.le_of_ble_eq_true rfl) (by exact (fun _ => rfl) _) (X' := (va_up σ 22 (ob z 0 5 a1))) (lens_put σ 22 _ _ _ _) dX7_end_23 (fun H locs hP hS => ?_)
    refine lv_iload_n hx hb dX7_end_26 rfl (lv_at hl 0 rfl) ?_
    exact fin dX7_end_27 (s1 hf) (by rw [(s2 hf)]) hP hS
  · have hf := if_t c2 hf
    refine lv_iconst (v := -1) hx hb dX7_end_14 (by decide) ?_
    exact fin dX7_end_15 (s1 hf) (by rw [(s2 hf)]) hP hS
theorem KW_X7_end (l : Launch) {E : En} (hE : Inj E) (X : Wd) (a1 : Int32) {r : Int32} {z' : Ob} (hf : f_X7_end (X 22) a1 = some (r, z')) : Cti l E yX7_end wsX7_end rm_X7_end [.ref (E.ad 22 0), .int a1] X r (va_up X 22 z') := by
  have h := K_X7_end l hE X (X 22) a1 hf
  rw [lens_all] at h
  exact h
/-! X7_byteAt -/
abbrev rm_X7_byteAt : Room := { frames := 0, cells := 0, slots := 0, locals := 0 }
set_option maxHeartbeats 4000000 in
set_option maxRecDepth 100000 in
theorem K_X7_byteAt (l : Launch) {E : En} (hE : Inj E) (σ : Wd) (z : Ob) (a1 : Int32) {r : Int32} (hf : f_X7_byteAt z a1 = some r) : Cti l E yX7_byteAt wsX7_byteAt rm_X7_byteAt [.ref (E.ad 22 0), .int a1] (va_up σ 22 z) r (va_up σ 22 z) := by
  refine meet_i (cc := cX7_byteAt) (maxL := 2) (own := RX7) (by decide) rfl rfl (Nat.le_of_ble_eq_true rfl) ?_
  intro p e s m below meth c Z S hB fin hP hS ls hl
  have hx := S.1
  have hb := S.2.1
  have hl : lv_has ls 2 [(0, .ref (E.ad 22 0)), (1, .int a1)] := hl
  have hinX7 : ∀ w ∈ u_ws RX7 TX7 25, w ∈ wsX7_byteAt := by decide +kernel
  have fl16 := S.2.2.2.2 (.fieldLink RX7 16 "MownMazeModel" "tape" "[I") (by decide +kernel)
  have fl57 := S.2.2.2.2 (.fieldLink RX7 57 "MownMazeModel" "taped" "I") (by decide +kernel)
  unfold f_X7_byteAt at hf
  refine lv_iload_n hx hb dX7_byteAt_0 rfl (lv_at hl 1 rfl) ?_
  refine lv_aload_n hx hb dX7_byteAt_1 rfl (lv_at hl 0 rfl) ?_
  refine g_get (v := .int (z 0 5)) S hB hinX7 hP m_22_0 rfl rfl 5 (by decide) fl57 rfl rfl dX7_byteAt_2 ?_
  refine lv_icmp_ge (tgt := 17) hx hb dX7_byteAt_5 (by decide) (fun c1 => ?_) (fun c1 => ?_)
  · have hf := if_t c1 hf
    refine lv_bipush (v := -4) hx hb dX7_byteAt_17 (by decide) ?_
    exact fin dX7_byteAt_19 (s0 hf) rfl hP hS
  · have hf := if_f c1 hf
    refine lv_aload_n hx hb dX7_byteAt_8 rfl (lv_at hl 0 rfl) ?_
    refine g_get (v := .ref (E.ad 22 3)) S hB hinX7 hP m_22_0 rfl rfl 4 (by decide) fl16 rfl rfl dX7_byteAt_9 ?_
    refine lv_iload_n hx hb dX7_byteAt_12 rfl (lv_at hl 1 rfl) ?_
    obtain ⟨hv2, hf⟩ := ck_some hf
    refine g_iald (r := z 3) S hB hP m_22_3 rfl hv2 dX7_byteAt_13 ?_
    refine lv_goto (tgt := 19) hx hb dX7_byteAt_14 (by decide) ?_
    exact fin dX7_byteAt_19 (s0 hf) rfl hP hS
theorem KW_X7_byteAt (l : Launch) {E : En} (hE : Inj E) (X : Wd) (a1 : Int32) {r : Int32} (hf : f_X7_byteAt (X 22) a1 = some r) : Cti l E yX7_byteAt wsX7_byteAt rm_X7_byteAt [.ref (E.ad 22 0), .int a1] X r X := by
  have h := K_X7_byteAt l hE X (X 22) a1 hf
  rw [lens_all] at h
  exact h
/-! X7_fails -/
abbrev rm_X7_fails : Room := { frames := 0, cells := 0, slots := 0, locals := 0 }
set_option maxHeartbeats 4000000 in
set_option maxRecDepth 100000 in
theorem K_X7_fails (l : Launch) {E : En} (hE : Inj E) (σ : Wd) (z : Ob) (a1 : Int32) {z' : Ob} (hf : f_X7_fails z a1 = some z') : Ctv l E yX7_fails wsX7_fails rm_X7_fails [.ref (E.ad 22 0), .int a1] (va_up σ 22 z)  (va_up σ 22 z') := by
  refine meet_v (cc := cX7_fails) (maxL := 2) (own := RX7) (by decide) rfl rfl (Nat.le_of_ble_eq_true rfl) ?_
  intro p e s m below meth c Z S hB fin hP hS ls hl
  have hx := S.1
  have hb := S.2.1
  have hl : lv_has ls 2 [(0, .ref (E.ad 22 0)), (1, .int a1)] := hl
  have hinX7 : ∀ w ∈ u_ws RX7 TX7 25, w ∈ wsX7_fails := by decide +kernel
  have fl60 := S.2.2.2.2 (.fieldLink RX7 60 "MownMazeModel" "broken" "I") (by decide +kernel)
  have fl63 := S.2.2.2.2 (.fieldLink RX7 63 "MownMazeModel" "here" "I") (by decide +kernel)
  have fl66 := S.2.2.2.2 (.fieldLink RX7 66 "MownMazeModel" "brokenAt" "I") (by decide +kernel)
  unfold f_X7_fails at hf
  refine lv_aload_n hx hb dX7_fails_0 rfl (lv_at hl 0 rfl) ?_
  refine g_get (v := .int (z 0 7)) S hB hinX7 hP m_22_0 rfl rfl 7 (by decide) fl60 rfl rfl dX7_fails_1 ?_
  refine lv_if_ne (tgt := 20) hx hb dX7_fails_4 (by decide) (fun c1 => ?_) (fun c1 => ?_)
  · have hf := if_f c1 hf
    exact fin dX7_fails_20  (by rw [(s0 hf)]) hP hS
  · have hf := if_t c1 hf
    refine lv_aload_n hx hb dX7_fails_7 rfl (lv_at hl 0 rfl) ?_
    refine lv_iload_n hx hb dX7_fails_8 rfl (lv_at hl 1 rfl) ?_
    refine g_put S hB hE hinX7 tyX7 tyX7_ok nmX7 hP hS m_22_0 rfl rfl 7 (by decide) fl60 rfl rfl rfl rfl (Nat.le_of_ble_eq_true rfl) (by exact (fun _ => rfl) _) (X' := (va_up σ 22 (ob z 0 7 a1))) (lens_put σ 22 _ _ _ _) dX7_fails_9 (fun H locs hP hS => ?_)
    refine lv_aload_n hx hb dX7_fails_12 rfl (lv_at hl 0 rfl) ?_
    refine lv_aload_n hx hb dX7_fails_13 rfl (lv_at hl 0 rfl) ?_
    refine g_get (v := .int (z 0 10)) S hB hinX7 hP m_22_0 rfl rfl 10 (by decide) fl63 rfl rfl dX7_fails_14 ?_
    refine g_put S hB hE hinX7 tyX7 tyX7_ok nmX7 hP hS m_22_0 rfl rfl 8 (by decide) fl66 rfl rfl rfl rfl (Nat.le_of_ble_eq_true rfl) (by exact (fun _ => rfl) _) (X' := (va_up σ 22 (ob (ob z 0 7 a1) 0 8 (z 0 10)))) (lens_put σ 22 _ _ _ _) dX7_fails_17 (fun H locs hP hS => ?_)
    exact fin dX7_fails_20  (by rw [(s0 hf)]) hP hS
theorem KW_X7_fails (l : Launch) {E : En} (hE : Inj E) (X : Wd) (a1 : Int32) {z' : Ob} (hf : f_X7_fails (X 22) a1 = some z') : Ctv l E yX7_fails wsX7_fails rm_X7_fails [.ref (E.ad 22 0), .int a1] X  (va_up X 22 z') := by
  have h := K_X7_fails l hE X (X 22) a1 hf
  rw [lens_all] at h
  exact h
/-! X7_nameHere -/
abbrev rm_X7_nameHere : Room := { frames := 1, cells := 0, slots := 0, locals := 21 }
set_option maxHeartbeats 4000000 in
set_option maxRecDepth 100000 in
theorem K_X7_nameHere (l : Launch) {E : En} (hE : Inj E) (σ : Wd) (z : Ob) {r : Int32} (hf : f_X7_nameHere z = some r) : Cti l E yX7_nameHere wsX7_nameHere rm_X7_nameHere [.ref (E.ad 22 0)] (va_up σ 22 z) r (va_up σ 22 z) := by
  refine meet_i (cc := cX7_nameHere) (maxL := 4) (own := RX7) (by decide) rfl rfl (Nat.le_of_ble_eq_true rfl) ?_
  intro p e s m below meth c Z S hB fin hP hS ls hl
  have hx := S.1
  have hb := S.2.1
  have hl : lv_has ls 4 [(0, .ref (E.ad 22 0))] := hl
  have hinX7 : ∀ w ∈ u_ws RX7 TX7 25, w ∈ wsX7_nameHere := by decide +kernel
  have fl19 := S.2.2.2.2 (.fieldLink RX7 19 "MownMazeModel" "ends" "[I") (by decide +kernel)
  have fl22 := S.2.2.2.2 (.fieldLink RX7 22 "MownMazeModel" "letters" "[I") (by decide +kernel)
  have fl63 := S.2.2.2.2 (.fieldLink RX7 63 "MownMazeModel" "here" "I") (by decide +kernel)
  have fl69 := S.2.2.2.2 (.fieldLink RX7 69 "MownMazeModel" "token" "I") (by decide +kernel)
  have fl72 := S.2.2.2.2 (.fieldLink RX7 72 "MownMazeModel" "spot" "I") (by decide +kernel)
  have hL2 : ∀ (n2 : Nat) (x1 : Int32) (H : Heap) (locs : List Loc) (ls : Array Slot), f_X7_nameHere_l2 n2 z x1 = some r → va_P E.1 vwCl (GW E (va_up σ 22 z)) H → va_S (GA E) s.heap H locs → lv_has ls 4 [(0, .ref (E.ad 22 0)), (1, .int x1)] → W p l e rm_X7_nameHere s m ([.ref (E.ad 22 0)] : List Value).toArray below meth c H locs 0 0 Z (F0 m 2 ls []) := by
    intro n2
    induction n2 with
    | zero =>
      intro x1 H locs ls hf
      cases (show (none : Option _) = some _ from hf)
    | succ n2 ih2 =>
      have hB106 : ∀ (x1 : Int32) (x2 : Int32) (H : Heap) (locs : List Loc) (ls : Array Slot), f_X7_nameHere_b106 (f_X7_nameHere_l2 n2) z x1 x2 = some r → va_P E.1 vwCl (GW E (va_up σ 22 z)) H → va_S (GA E) s.heap H locs → lv_has ls 4 [(0, .ref (E.ad 22 0)), (1, .int x1), (2, .int x2)] → W p l e rm_X7_nameHere s m ([.ref (E.ad 22 0)] : List Value).toArray below meth c H locs 0 0 Z (F0 m 106 ls []) := by
        intro x1 x2 H locs ls hf hP hS hl
        unfold f_X7_nameHere_b106 at hf
        refine lv_iload_n hx hb dX7_nameHere_106 rfl (lv_at hl 2 rfl) ?_
        refine lv_if_eq (tgt := 112) hx hb dX7_nameHere_107 (by decide) (fun c1 => ?_) (fun c1 => ?_)
        · have hf := if_t c1 hf
          refine lv_iinc (v := x1 + (1 : Int32)) (lv' := [(1, .int (x1 + (1 : Int32))), (0, .ref (E.ad 22 0)), (2, .int x2)]) hx hb dX7_nameHere_112 hl (k := 1) rfl rfl (by decide) rfl (fun ls hl => ?_)
          refine lv_goto (tgt := 2) hx hb dX7_nameHere_115 (by decide) ?_
          exact ih2 (x1 + (1 : Int32)) _ _ _ hf hP hS (lv_sub hl [1, 0] rfl)
        · have hf := if_f c1 hf
          refine lv_iload_n hx hb dX7_nameHere_110 rfl (lv_at hl 1 rfl) ?_
          exact fin dX7_nameHere_111 (s0 hf) rfl hP hS
      have hL51 : ∀ (n51 : Nat) (x1 : Int32) (x2 : Int32) (x3 : Int32) (H : Heap) (locs : List Loc) (ls : Array Slot), f_X7_nameHere_l51 (f_X7_nameHere_l2 n2) n51 z x1 x2 x3 = some r → va_P E.1 vwCl (GW E (va_up σ 22 z)) H → va_S (GA E) s.heap H locs → lv_has ls 4 [(0, .ref (E.ad 22 0)), (1, .int x1), (2, .int x2), (3, .int x3)] → W p l e rm_X7_nameHere s m ([.ref (E.ad 22 0)] : List Value).toArray below meth c H locs 0 0 Z (F0 m 51 ls []) := by
        intro n51
        induction n51 with
        | zero =>
          intro x1 x2 x3 H locs ls hf
          cases (show (none : Option _) = some _ from hf)
        | succ n51 ih51 =>
          have hB99 : ∀ (x1 : Int32) (x3 : Int32) (y0 : Int32) (H : Heap) (locs : List Loc) (ls : Array Slot), f_X7_nameHere_b99 (f_X7_nameHere_l2 n2) (f_X7_nameHere_l51 (f_X7_nameHere_l2 n2) n51) z x1 x3 y0 = some r → va_P E.1 vwCl (GW E (va_up σ 22 z)) H → va_S (GA E) s.heap H locs → lv_has ls 4 [(0, .ref (E.ad 22 0)), (1, .int x1), (3, .int x3)] → W p l e rm_X7_nameHere s m ([.ref (E.ad 22 0)] : List Value).toArray below meth c H locs 0 0 Z (F0 m 99 ls [.int y0]) := by
            intro x1 x3 y0 H locs ls hf hP hS hl
            unfold f_X7_nameHere_b99 at hf
            refine lv_istore_n (lv' := [(2, .int y0), (0, .ref (E.ad 22 0)), (1, .int x1), (3, .int x3)]) hx hb dX7_nameHere_99 rfl hl (by decide) rfl (fun ls hl => ?_)
            refine lv_iinc (v := x3 + (1 : Int32)) (lv' := [(3, .int (x3 + (1 : Int32))), (2, .int y0), (0, .ref (E.ad 22 0)), (1, .int x1)]) hx hb dX7_nameHere_100 hl (k := 3) rfl rfl (by decide) rfl (fun ls hl => ?_)
            refine lv_goto (tgt := 51) hx hb dX7_nameHere_103 (by decide) ?_
            exact ih51 x1 y0 (x3 + (1 : Int32)) _ _ _ hf hP hS (lv_sub hl [2, 3, 1, 0] rfl)
          intro x1 x2 x3 H locs ls hf hP hS hl
          unfold f_X7_nameHere_l51 at hf
          refine lv_iload_n hx hb dX7_nameHere_51 rfl (lv_at hl 2 rfl) ?_
          refine lv_if_eq (tgt := 106) hx hb dX7_nameHere_52 (by decide) (fun c2 => ?_) (fun c2 => ?_)
          · have hf := if_t c2 hf
            exact hB106 x1 x2 _ _ _ hf hP hS (lv_sub hl [0, 1, 2] rfl)
          · have hf := if_f c2 hf
            refine lv_iload_n hx hb dX7_nameHere_55 rfl (lv_at hl 3 rfl) ?_
            refine lv_aload_n hx hb dX7_nameHere_56 rfl (lv_at hl 0 rfl) ?_
            refine g_get (v := .int (z 0 9)) S hB hinX7 hP m_22_0 rfl rfl 9 (by decide) fl72 rfl rfl dX7_nameHere_57 ?_
            refine lv_aload_n hx hb dX7_nameHere_60 rfl (lv_at hl 0 rfl) ?_
            refine g_get (v := .int (z 0 10)) S hB hinX7 hP m_22_0 rfl rfl 10 (by decide) fl63 rfl rfl dX7_nameHere_61 ?_
            refine lv_isub hx hb dX7_nameHere_64 ?_
            refine lv_icmp_ge (tgt := 106) hx hb dX7_nameHere_65 (by decide) (fun c3 => ?_) (fun c3 => ?_)
            · have hf := if_t c3 hf
              exact hB106 x1 x2 _ _ _ hf hP hS (lv_sub hl [0, 1, 2] rfl)
            · have hf := if_f c3 hf
              refine lv_aload_n hx hb dX7_nameHere_68 rfl (lv_at hl 0 rfl) ?_
              refine lv_aload_n hx hb dX7_nameHere_69 rfl (lv_at hl 0 rfl) ?_
              refine g_get (v := .int (z 0 10)) S hB hinX7 hP m_22_0 rfl rfl 10 (by decide) fl63 rfl rfl dX7_nameHere_70 ?_
              refine lv_iload_n hx hb dX7_nameHere_73 rfl (lv_at hl 3 rfl) ?_
              refine lv_iadd hx hb dX7_nameHere_74 ?_
              obtain ⟨q4, hq4, hf⟩ := bind_some hf
              refine callV_i (As := [.int ((z 0 10) + x3)]) (rest := []) S hB hP hS (C := RX7) (b := E.ad 22 0) (g_recv (o := 22) (d := 0) hB hP m_22_0 rfl rfl) (K_X7_byteAt l hE σ z ((z 0 10) + x3) hq4) (cwV 1 S.2.2.2.2 gX7_nameHere_X7_byteAt rfl rfl rfl (by decide +kernel) ⟨Nat.le_of_ble_eq_true rfl, Nat.le_of_ble_eq_true rfl⟩) rfl hl.1 rfl (Nat.le_of_ble_eq_true rfl) dX7_nameHere_75 ⟨Nat.zero_le _, Nat.zero_le _⟩ (fun H locs hP hS => ?_)
              refine lv_aload_n hx hb dX7_nameHere_78 rfl (lv_at hl 0 rfl) ?_
              refine g_get (v := .ref (E.ad 22 5)) S hB hinX7 hP m_22_0 rfl rfl 14 (by decide) fl22 rfl rfl dX7_nameHere_79 ?_
              refine lv_aload_n hx hb dX7_nameHere_82 rfl (lv_at hl 0 rfl) ?_
              refine g_get (v := .ref (E.ad 22 4)) S hB hinX7 hP m_22_0 rfl rfl 13 (by decide) fl19 rfl rfl dX7_nameHere_83 ?_
              refine lv_iload_n hx hb dX7_nameHere_86 rfl (lv_at hl 1 rfl) ?_
              obtain ⟨hv5, hf⟩ := ck_some hf
              refine g_iald (r := z 4) S hB hP m_22_4 rfl hv5 dX7_nameHere_87 ?_
              refine lv_iload_n hx hb dX7_nameHere_88 rfl (lv_at hl 3 rfl) ?_
              refine lv_iadd hx hb dX7_nameHere_89 ?_
              obtain ⟨hv6, hf⟩ := ck_some hf
              refine g_iald (r := z 5) S hB hP m_22_5 rfl hv6 dX7_nameHere_90 ?_
              refine W.eq (g2 := F0 m 91 ls [.int (z 5 (((z 4 x1.toNatClampNeg) + x3).toNatClampNeg)), .int q4]) rfl ?_
              refine lv_icmp_ne (tgt := 98) hx hb dX7_nameHere_91 (by decide) (fun c7 => ?_) (fun c7 => ?_)
              · have hf := if_f c7 hf
                refine lv_iconst (v := 0) hx hb dX7_nameHere_98 (by decide) ?_
                exact hB99 x1 x3 (0 : Int32) _ _ _ hf hP hS (lv_sub hl [0, 1, 3] rfl)
              · have hf := if_t c7 hf
                refine lv_iconst (v := 1) hx hb dX7_nameHere_94 (by decide) ?_
                refine lv_goto (tgt := 99) hx hb dX7_nameHere_95 (by decide) ?_
                exact hB99 x1 x3 (1 : Int32) _ _ _ hf hP hS (lv_sub hl [0, 1, 3] rfl)
      have hB48 : ∀ (x1 : Int32) (y0 : Int32) (H : Heap) (locs : List Loc) (ls : Array Slot), f_X7_nameHere_b48 (f_X7_nameHere_l2 n2) z x1 y0 = some r → va_P E.1 vwCl (GW E (va_up σ 22 z)) H → va_S (GA E) s.heap H locs → lv_has ls 4 [(0, .ref (E.ad 22 0)), (1, .int x1)] → W p l e rm_X7_nameHere s m ([.ref (E.ad 22 0)] : List Value).toArray below meth c H locs 0 0 Z (F0 m 48 ls [.int y0]) := by
        intro x1 y0 H locs ls hf hP hS hl
        unfold f_X7_nameHere_b48 at hf
        refine lv_istore_n (lv' := [(2, .int y0), (0, .ref (E.ad 22 0)), (1, .int x1)]) hx hb dX7_nameHere_48 rfl hl (by decide) rfl (fun ls hl => ?_)
        refine lv_iconst (v := 0) hx hb dX7_nameHere_49 (by decide) ?_
        refine lv_istore_n (lv' := [(3, .int (0 : Int32)), (2, .int y0), (0, .ref (E.ad 22 0)), (1, .int x1)]) hx hb dX7_nameHere_50 rfl hl (by decide) rfl (fun ls hl => ?_)
        exact hL51 FUEL x1 y0 (0 : Int32) _ _ _ hf hP hS (lv_sub hl [2, 3, 1, 0] rfl)
      intro x1 H locs ls hf hP hS hl
      unfold f_X7_nameHere_l2 at hf
      refine lv_iload_n hx hb dX7_nameHere_2 rfl (lv_at hl 1 rfl) ?_
      refine lv_bipush (v := 7) hx hb dX7_nameHere_3 (by decide) ?_
      refine lv_icmp_ge (tgt := 118) hx hb dX7_nameHere_5 (by decide) (fun c8 => ?_) (fun c8 => ?_)
      · have hf := if_t c8 hf
        refine lv_bipush (v := -4) hx hb dX7_nameHere_118 (by decide) ?_
        exact fin dX7_nameHere_120 (s0 hf) rfl hP hS
      · have hf := if_f c8 hf
        refine lv_aload_n hx hb dX7_nameHere_8 rfl (lv_at hl 0 rfl) ?_
        refine g_get (v := .int (z 0 11)) S hB hinX7 hP m_22_0 rfl rfl 11 (by decide) fl69 rfl rfl dX7_nameHere_9 ?_
        refine lv_iconst (v := 1) hx hb dX7_nameHere_12 (by decide) ?_
        refine lv_icmp_ne (tgt := 118) hx hb dX7_nameHere_13 (by decide) (fun c9 => ?_) (fun c9 => ?_)
        · have hf := if_f c9 hf
          refine lv_bipush (v := -4) hx hb dX7_nameHere_118 (by decide) ?_
          exact fin dX7_nameHere_120 (s0 hf) rfl hP hS
        · have hf := if_t c9 hf
          refine lv_aload_n hx hb dX7_nameHere_16 rfl (lv_at hl 0 rfl) ?_
          refine g_get (v := .int (z 0 9)) S hB hinX7 hP m_22_0 rfl rfl 9 (by decide) fl72 rfl rfl dX7_nameHere_17 ?_
          refine lv_aload_n hx hb dX7_nameHere_20 rfl (lv_at hl 0 rfl) ?_
          refine g_get (v := .int (z 0 10)) S hB hinX7 hP m_22_0 rfl rfl 10 (by decide) fl63 rfl rfl dX7_nameHere_21 ?_
          refine lv_isub hx hb dX7_nameHere_24 ?_
          refine lv_aload_n hx hb dX7_nameHere_25 rfl (lv_at hl 0 rfl) ?_
          refine g_get (v := .ref (E.ad 22 4)) S hB hinX7 hP m_22_0 rfl rfl 13 (by decide) fl19 rfl rfl dX7_nameHere_26 ?_
          refine lv_iload_n hx hb dX7_nameHere_29 rfl (lv_at hl 1 rfl) ?_
          refine lv_iconst (v := 1) hx hb dX7_nameHere_30 (by decide) ?_
          refine lv_iadd hx hb dX7_nameHere_31 ?_
          obtain ⟨hv10, hf⟩ := ck_some hf
          refine g_iald (r := z 4) S hB hP m_22_4 rfl hv10 dX7_nameHere_32 ?_
          refine W.eq (g2 := F0 m 33 ls [.int (z 4 ((x1 + (1 : Int32)).toNatClampNeg)), .int ((z 0 9) - (z 0 10))]) rfl ?_
          refine lv_aload_n hx hb dX7_nameHere_33 rfl (lv_at hl 0 rfl) ?_
          refine g_get (v := .ref (E.ad 22 4)) S hB hinX7 hP m_22_0 rfl rfl 13 (by decide) fl19 rfl rfl dX7_nameHere_34 ?_
          refine lv_iload_n hx hb dX7_nameHere_37 rfl (lv_at hl 1 rfl) ?_
          obtain ⟨hv11, hf⟩ := ck_some hf
          refine g_iald (r := z 4) S hB hP m_22_4 rfl hv11 dX7_nameHere_38 ?_
          refine lv_isub hx hb dX7_nameHere_39 ?_
          refine lv_icmp_ne (tgt := 47) hx hb dX7_nameHere_40 (by decide) (fun c12 => ?_) (fun c12 => ?_)
          · have hf := if_f c12 hf
            refine lv_iconst (v := 0) hx hb dX7_nameHere_47 (by decide) ?_
            exact hB48 x1 (0 : Int32) _ _ _ hf hP hS (lv_sub hl [0, 1] rfl)
          · have hf := if_t c12 hf
            refine lv_iconst (v := 1) hx hb dX7_nameHere_43 (by decide) ?_
            refine lv_goto (tgt := 48) hx hb dX7_nameHere_44 (by decide) ?_
            exact hB48 x1 (1 : Int32) _ _ _ hf hP hS (lv_sub hl [0, 1] rfl)
  unfold f_X7_nameHere at hf
  refine lv_iconst (v := 0) hx hb dX7_nameHere_0 (by decide) ?_
  refine lv_istore_n (lv' := [(1, .int (0 : Int32)), (0, .ref (E.ad 22 0))]) hx hb dX7_nameHere_1 rfl hl (by decide) rfl (fun ls hl => ?_)
  exact hL2 FUEL (0 : Int32) _ _ _ hf hP hS (lv_sub hl [1, 0] rfl)
theorem KW_X7_nameHere (l : Launch) {E : En} (hE : Inj E) (X : Wd) {r : Int32} (hf : f_X7_nameHere (X 22) = some r) : Cti l E yX7_nameHere wsX7_nameHere rm_X7_nameHere [.ref (E.ad 22 0)] X r X := by
  have h := K_X7_nameHere l hE X (X 22)  hf
  rw [lens_all] at h
  exact h
/-! X7_step -/
abbrev rm_X7_step : Room := { frames := 1, cells := 0, slots := 0, locals := 25 }
set_option maxHeartbeats 4000000 in
set_option maxRecDepth 100000 in
theorem K_X7_step (l : Launch) {E : En} (hE : Inj E) (σ : Wd) (z : Ob) {z' : Ob} (hf : f_X7_step z = some z') : Ctv l E yX7_step wsX7_step rm_X7_step [.ref (E.ad 22 0)] (va_up σ 22 z)  (va_up σ 22 z') := by
  refine meet_v (cc := cX7_step) (maxL := 2) (own := RX7) (by decide) rfl rfl (Nat.le_of_ble_eq_true rfl) ?_
  intro p e s m below meth c Z S hB fin hP hS ls hl
  have hx := S.1
  have hb := S.2.1
  have hl : lv_has ls 2 [(0, .ref (E.ad 22 0))] := hl
  have hinX7 : ∀ w ∈ u_ws RX7 TX7 25, w ∈ wsX7_step := by decide +kernel
  have fl60 := S.2.2.2.2 (.fieldLink RX7 60 "MownMazeModel" "broken" "I") (by decide +kernel)
  have fl63 := S.2.2.2.2 (.fieldLink RX7 63 "MownMazeModel" "here" "I") (by decide +kernel)
  have fl69 := S.2.2.2.2 (.fieldLink RX7 69 "MownMazeModel" "token" "I") (by decide +kernel)
  have fl72 := S.2.2.2.2 (.fieldLink RX7 72 "MownMazeModel" "spot" "I") (by decide +kernel)
  have fl79 := S.2.2.2.2 (.fieldLink RX7 79 "MownMazeModel" "value" "I") (by decide +kernel)
  have hL140 : ∀ (n140 : Nat) (z : Ob) (H : Heap) (locs : List Loc) (ls : Array Slot), f_X7_step_l140 n140 z = some z' → va_P E.1 vwCl (GW E (va_up σ 22 z)) H → va_S (GA E) s.heap H locs → lv_has ls 2 [(0, .ref (E.ad 22 0))] → W p l e rm_X7_step s m ([.ref (E.ad 22 0)] : List Value).toArray below meth c H locs 0 0 Z (F0 m 140 ls []) := by
    intro n140
    induction n140 with
    | zero =>
      intro z H locs ls hf
      cases (show (none : Option _) = some _ from hf)
    | succ n140 ih140 =>
      have hB201 : ∀ (z : Ob) (y0 : Int32) (H : Heap) (locs : List Loc) (ls : Array Slot), f_X7_step_b201 (f_X7_step_l140 n140) z y0 = some z' → va_P E.1 vwCl (GW E (va_up σ 22 z)) H → va_S (GA E) s.heap H locs → lv_has ls 2 [(0, .ref (E.ad 22 0))] → W p l e rm_X7_step s m ([.ref (E.ad 22 0)] : List Value).toArray below meth c H locs 0 0 Z (F0 m 201 ls [.int y0, .ref (E.ad 22 0)]) := by
        intro z y0 H locs ls hf hP hS hl
        unfold f_X7_step_b201 at hf
        refine g_put S hB hE hinX7 tyX7 tyX7_ok nmX7 hP hS m_22_0 rfl rfl 12 (by decide) fl79 rfl rfl rfl rfl (Nat.le_of_ble_eq_true rfl) (by exact (fun _ => rfl) _) (X' := (va_up σ 22 (ob z 0 12 y0))) (lens_put σ 22 _ _ _ _) dX7_step_201 (fun H locs hP hS => ?_)
        refine lv_aload_n hx hb dX7_step_204 rfl (lv_at hl 0 rfl) ?_
        refine lv_dup hx hb dX7_step_205 rfl ?_
        refine g_get (v := .int (z 0 9)) S hB hinX7 hP m_22_0 rfl rfl 9 (by decide) fl72 rfl rfl dX7_step_206 ?_
        refine lv_iconst (v := 1) hx hb dX7_step_209 (by decide) ?_
        refine lv_iadd hx hb dX7_step_210 ?_
        refine g_put S hB hE hinX7 tyX7 tyX7_ok nmX7 hP hS m_22_0 rfl rfl 9 (by decide) fl72 rfl rfl rfl rfl (Nat.le_of_ble_eq_true rfl) (by exact (fun _ => rfl) _) (X' := (va_up σ 22 (ob (ob z 0 12 y0) 0 9 ((z 0 9) + (1 : Int32))))) (lens_put σ 22 _ _ _ _) dX7_step_211 (fun H locs hP hS => ?_)
        refine lv_goto (tgt := 140) hx hb dX7_step_214 (by decide) ?_
        exact ih140 (ob (ob z 0 12 y0) 0 9 ((z 0 9) + (1 : Int32))) _ _ _ hf hP hS (lv_sub hl [0] rfl)
      intro z H locs ls hf hP hS hl
      unfold f_X7_step_l140 at hf
      refine lv_aload_n hx hb dX7_step_140 rfl (lv_at hl 0 rfl) ?_
      refine lv_aload_n hx hb dX7_step_141 rfl (lv_at hl 0 rfl) ?_
      refine g_get (v := .int (z 0 9)) S hB hinX7 hP m_22_0 rfl rfl 9 (by decide) fl72 rfl rfl dX7_step_142 ?_
      obtain ⟨q2, hq2, hf⟩ := bind_some hf
      refine callV_i (As := [.int (z 0 9)]) (rest := []) S hB hP hS (C := RX7) (b := E.ad 22 0) (g_recv (o := 22) (d := 0) hB hP m_22_0 rfl rfl) (K_X7_byteAt l hE σ z (z 0 9) hq2) (cwV 1 S.2.2.2.2 gX7_step_X7_byteAt rfl rfl rfl (by decide +kernel) ⟨Nat.le_of_ble_eq_true rfl, Nat.le_of_ble_eq_true rfl⟩) rfl hl.1 rfl (Nat.le_of_ble_eq_true rfl) dX7_step_145 ⟨Nat.zero_le _, Nat.zero_le _⟩ (fun H locs hP hS => ?_)
      refine lv_i2l hx hb dX7_step_148 (v := q2.toInt64) rfl ?_
      refine lv_ldc2 hx hb S.2.2.2.1 (S.2.2.2.2 (.constantLong RX7 86 (48)) (by decide +kernel)) dX7_step_149 ?_
      refine lv_ldc2 hx hb S.2.2.2.1 (S.2.2.2.2 (.constantLong RX7 88 (57)) (by decide +kernel)) dX7_step_152 ?_
      obtain ⟨q3, hq3, hf⟩ := bind_some hf
      refine callS_i (As := [.long q2.toInt64, .long (48 : Int64), .long (57 : Int64)]) (rest := []) S hB hP hS (K_X7_in l hE (va_up σ 22 z) q2.toInt64 (48 : Int64) (57 : Int64) hq3) (va_cwS 3 S.2.2.2.2 gX7_step_X7_in rfl rfl rfl (by decide +kernel) ⟨Nat.le_of_ble_eq_true rfl, Nat.le_of_ble_eq_true rfl⟩) rfl hl.1 rfl (Nat.le_of_ble_eq_true rfl) dX7_step_155 ⟨Nat.zero_le _, Nat.zero_le _⟩ (fun H locs hP hS => ?_)
      refine lv_if_eq (tgt := 217) hx hb dX7_step_158 (by decide) (fun c4 => ?_) (fun c4 => ?_)
      · have hf := if_t c4 hf
        refine lv_aload_n hx hb dX7_step_217 rfl (lv_at hl 0 rfl) ?_
        refine lv_iconst (v := 2) hx hb dX7_step_218 (by decide) ?_
        refine g_put S hB hE hinX7 tyX7 tyX7_ok nmX7 hP hS m_22_0 rfl rfl 11 (by decide) fl69 rfl rfl rfl rfl (Nat.le_of_ble_eq_true rfl) (by exact (fun _ => rfl) _) (X' := (va_up σ 22 (ob z 0 11 (2 : Int32)))) (lens_put σ 22 _ _ _ _) dX7_step_219 (fun H locs hP hS => ?_)
        refine lv_aload_n hx hb dX7_step_222 rfl (lv_at hl 0 rfl) ?_
        refine g_get (v := .int (z 0 9)) S hB hinX7 hP m_22_0 rfl rfl 9 (by decide) fl72 rfl rfl dX7_step_223 ?_
        refine lv_aload_n hx hb dX7_step_226 rfl (lv_at hl 0 rfl) ?_
        refine g_get (v := .int (z 0 10)) S hB hinX7 hP m_22_0 rfl rfl 10 (by decide) fl63 rfl rfl dX7_step_227 ?_
        refine lv_isub hx hb dX7_step_230 ?_
        refine lv_iconst (v := 2) hx hb dX7_step_231 (by decide) ?_
        refine lv_icmp_le (tgt := 269) hx hb dX7_step_232 (by decide) (fun c5 => ?_) (fun c5 => ?_)
        · have hf := if_t c5 hf
          exact fin dX7_step_269  (by rw [(s0 hf)]) hP hS
        · have hf := if_f c5 hf
          refine lv_aload_n hx hb dX7_step_235 rfl (lv_at hl 0 rfl) ?_
          refine lv_iconst (v := 1) hx hb dX7_step_236 (by decide) ?_
          obtain ⟨q6, hq6, hf⟩ := bind_some hf
          refine callV_v (As := [.int (1 : Int32)]) (rest := []) S hB hP hS (C := RX7) (b := E.ad 22 0) (g_recv (o := 22) (d := 0) hB hP m_22_0 rfl rfl) (K_X7_fails l hE σ (ob z 0 11 (2 : Int32)) (1 : Int32) hq6) (cwV 1 S.2.2.2.2 gX7_step_X7_fails rfl rfl rfl (by decide +kernel) ⟨Nat.le_of_ble_eq_true rfl, Nat.le_of_ble_eq_true rfl⟩) rfl hl.1 rfl (Nat.le_of_ble_eq_true rfl) dX7_step_237 ⟨Nat.zero_le _, Nat.zero_le _⟩ (fun H locs hP hS => ?_)
          refine lv_goto (tgt := 269) hx hb dX7_step_240 (by decide) ?_
          exact fin dX7_step_269  (by rw [(s0 hf)]) hP hS
      · have hf := if_f c4 hf
        refine lv_aload_n hx hb dX7_step_161 rfl (lv_at hl 0 rfl) ?_
        refine lv_aload_n hx hb dX7_step_162 rfl (lv_at hl 0 rfl) ?_
        refine g_get (v := .int (z 0 9)) S hB hinX7 hP m_22_0 rfl rfl 9 (by decide) fl72 rfl rfl dX7_step_163 ?_
        refine lv_aload_n hx hb dX7_step_166 rfl (lv_at hl 0 rfl) ?_
        refine g_get (v := .int (z 0 10)) S hB hinX7 hP m_22_0 rfl rfl 10 (by decide) fl63 rfl rfl dX7_step_167 ?_
        refine lv_isub hx hb dX7_step_170 ?_
        refine lv_iconst (v := 2) hx hb dX7_step_171 (by decide) ?_
        refine lv_icmp_ge (tgt := 197) hx hb dX7_step_172 (by decide) (fun c7 => ?_) (fun c7 => ?_)
        · have hf := if_t c7 hf
          refine lv_aload_n hx hb dX7_step_197 rfl (lv_at hl 0 rfl) ?_
          refine g_get (v := .int (z 0 12)) S hB hinX7 hP m_22_0 rfl rfl 12 (by decide) fl79 rfl rfl dX7_step_198 ?_
          exact hB201 z (z 0 12) _ _ _ hf hP hS (lv_sub hl [0] rfl)
        · have hf := if_f c7 hf
          refine lv_bipush (v := 10) hx hb dX7_step_175 (by decide) ?_
          refine lv_aload_n hx hb dX7_step_177 rfl (lv_at hl 0 rfl) ?_
          refine g_get (v := .int (z 0 12)) S hB hinX7 hP m_22_0 rfl rfl 12 (by decide) fl79 rfl rfl dX7_step_178 ?_
          refine lv_imul hx hb dX7_step_181 ?_
          refine lv_aload_n hx hb dX7_step_182 rfl (lv_at hl 0 rfl) ?_
          refine lv_aload_n hx hb dX7_step_183 rfl (lv_at hl 0 rfl) ?_
          refine g_get (v := .int (z 0 9)) S hB hinX7 hP m_22_0 rfl rfl 9 (by decide) fl72 rfl rfl dX7_step_184 ?_
          obtain ⟨q8, hq8, hf⟩ := bind_some hf
          refine callV_i (As := [.int (z 0 9)]) (rest := [.int ((10 : Int32) * (z 0 12)), .ref (E.ad 22 0)]) S hB hP hS (C := RX7) (b := E.ad 22 0) (g_recv (o := 22) (d := 0) hB hP m_22_0 rfl rfl) (K_X7_byteAt l hE σ z (z 0 9) hq8) (cwV 1 S.2.2.2.2 gX7_step_X7_byteAt rfl rfl rfl (by decide +kernel) ⟨Nat.le_of_ble_eq_true rfl, Nat.le_of_ble_eq_true rfl⟩) rfl hl.1 rfl (Nat.le_of_ble_eq_true rfl) dX7_step_187 ⟨Nat.zero_le _, Nat.zero_le _⟩ (fun H locs hP hS => ?_)
          refine lv_iadd hx hb dX7_step_190 ?_
          refine lv_bipush (v := 48) hx hb dX7_step_191 (by decide) ?_
          refine lv_isub hx hb dX7_step_193 ?_
          refine lv_goto (tgt := 201) hx hb dX7_step_194 (by decide) ?_
          exact hB201 z ((((10 : Int32) * (z 0 12)) + q8) - (48 : Int32)) _ _ _ hf hP hS (lv_sub hl [0] rfl)
  have hL84 : ∀ (n84 : Nat) (z : Ob) (H : Heap) (locs : List Loc) (ls : Array Slot), f_X7_step_l84 n84 z = some z' → va_P E.1 vwCl (GW E (va_up σ 22 z)) H → va_S (GA E) s.heap H locs → lv_has ls 2 [(0, .ref (E.ad 22 0))] → W p l e rm_X7_step s m ([.ref (E.ad 22 0)] : List Value).toArray below meth c H locs 0 0 Z (F0 m 84 ls []) := by
    intro n84
    induction n84 with
    | zero =>
      intro z H locs ls hf
      cases (show (none : Option _) = some _ from hf)
    | succ n84 ih84 =>
      intro z H locs ls hf hP hS hl
      unfold f_X7_step_l84 at hf
      refine lv_aload_n hx hb dX7_step_84 rfl (lv_at hl 0 rfl) ?_
      refine lv_aload_n hx hb dX7_step_85 rfl (lv_at hl 0 rfl) ?_
      refine g_get (v := .int (z 0 9)) S hB hinX7 hP m_22_0 rfl rfl 9 (by decide) fl72 rfl rfl dX7_step_86 ?_
      obtain ⟨q9, hq9, hf⟩ := bind_some hf
      refine callV_i (As := [.int (z 0 9)]) (rest := []) S hB hP hS (C := RX7) (b := E.ad 22 0) (g_recv (o := 22) (d := 0) hB hP m_22_0 rfl rfl) (K_X7_byteAt l hE σ z (z 0 9) hq9) (cwV 1 S.2.2.2.2 gX7_step_X7_byteAt rfl rfl rfl (by decide +kernel) ⟨Nat.le_of_ble_eq_true rfl, Nat.le_of_ble_eq_true rfl⟩) rfl hl.1 rfl (Nat.le_of_ble_eq_true rfl) dX7_step_89 ⟨Nat.zero_le _, Nat.zero_le _⟩ (fun H locs hP hS => ?_)
      refine lv_i2l hx hb dX7_step_92 (v := q9.toInt64) rfl ?_
      refine lv_ldc2 hx hb S.2.2.2.1 (S.2.2.2.2 (.constantLong RX7 82 (97)) (by decide +kernel)) dX7_step_93 ?_
      refine lv_ldc2 hx hb S.2.2.2.1 (S.2.2.2.2 (.constantLong RX7 84 (122)) (by decide +kernel)) dX7_step_96 ?_
      obtain ⟨q10, hq10, hf⟩ := bind_some hf
      refine callS_i (As := [.long q9.toInt64, .long (97 : Int64), .long (122 : Int64)]) (rest := []) S hB hP hS (K_X7_in l hE (va_up σ 22 z) q9.toInt64 (97 : Int64) (122 : Int64) hq10) (va_cwS 3 S.2.2.2.2 gX7_step_X7_in rfl rfl rfl (by decide +kernel) ⟨Nat.le_of_ble_eq_true rfl, Nat.le_of_ble_eq_true rfl⟩) rfl hl.1 rfl (Nat.le_of_ble_eq_true rfl) dX7_step_99 ⟨Nat.zero_le _, Nat.zero_le _⟩ (fun H locs hP hS => ?_)
      refine lv_if_eq (tgt := 118) hx hb dX7_step_102 (by decide) (fun c11 => ?_) (fun c11 => ?_)
      · have hf := if_t c11 hf
        refine lv_aload_n hx hb dX7_step_118 rfl (lv_at hl 0 rfl) ?_
        refine lv_iconst (v := 1) hx hb dX7_step_119 (by decide) ?_
        refine g_put S hB hE hinX7 tyX7 tyX7_ok nmX7 hP hS m_22_0 rfl rfl 11 (by decide) fl69 rfl rfl rfl rfl (Nat.le_of_ble_eq_true rfl) (by exact (fun _ => rfl) _) (X' := (va_up σ 22 (ob z 0 11 (1 : Int32)))) (lens_put σ 22 _ _ _ _) dX7_step_120 (fun H locs hP hS => ?_)
        refine lv_goto (tgt := 269) hx hb dX7_step_123 (by decide) ?_
        exact fin dX7_step_269  (by rw [(s0 hf)]) hP hS
      · have hf := if_f c11 hf
        refine lv_aload_n hx hb dX7_step_105 rfl (lv_at hl 0 rfl) ?_
        refine lv_dup hx hb dX7_step_106 rfl ?_
        refine g_get (v := .int (z 0 9)) S hB hinX7 hP m_22_0 rfl rfl 9 (by decide) fl72 rfl rfl dX7_step_107 ?_
        refine lv_iconst (v := 1) hx hb dX7_step_110 (by decide) ?_
        refine lv_iadd hx hb dX7_step_111 ?_
        refine g_put S hB hE hinX7 tyX7 tyX7_ok nmX7 hP hS m_22_0 rfl rfl 9 (by decide) fl72 rfl rfl rfl rfl (Nat.le_of_ble_eq_true rfl) (by exact (fun _ => rfl) _) (X' := (va_up σ 22 (ob z 0 9 ((z 0 9) + (1 : Int32))))) (lens_put σ 22 _ _ _ _) dX7_step_112 (fun H locs hP hS => ?_)
        refine lv_goto (tgt := 84) hx hb dX7_step_115 (by decide) ?_
        exact ih84 (ob z 0 9 ((z 0 9) + (1 : Int32))) _ _ _ hf hP hS (lv_sub hl [0] rfl)
  have hL8 : ∀ (n8 : Nat) (z : Ob) (H : Heap) (locs : List Loc) (ls : Array Slot), f_X7_step_l8 n8 z = some z' → va_P E.1 vwCl (GW E (va_up σ 22 z)) H → va_S (GA E) s.heap H locs → lv_has ls 2 [(0, .ref (E.ad 22 0))] → W p l e rm_X7_step s m ([.ref (E.ad 22 0)] : List Value).toArray below meth c H locs 0 0 Z (F0 m 8 ls []) := by
    intro n8
    induction n8 with
    | zero =>
      intro z H locs ls hf
      cases (show (none : Option _) = some _ from hf)
    | succ n8 ih8 =>
      intro z H locs ls hf hP hS hl
      unfold f_X7_step_l8 at hf
      refine lv_aload_n hx hb dX7_step_8 rfl (lv_at hl 0 rfl) ?_
      refine lv_aload_n hx hb dX7_step_9 rfl (lv_at hl 0 rfl) ?_
      refine g_get (v := .int (z 0 9)) S hB hinX7 hP m_22_0 rfl rfl 9 (by decide) fl72 rfl rfl dX7_step_10 ?_
      obtain ⟨q12, hq12, hf⟩ := bind_some hf
      refine callV_i (As := [.int (z 0 9)]) (rest := []) S hB hP hS (C := RX7) (b := E.ad 22 0) (g_recv (o := 22) (d := 0) hB hP m_22_0 rfl rfl) (K_X7_byteAt l hE σ z (z 0 9) hq12) (cwV 1 S.2.2.2.2 gX7_step_X7_byteAt rfl rfl rfl (by decide +kernel) ⟨Nat.le_of_ble_eq_true rfl, Nat.le_of_ble_eq_true rfl⟩) rfl hl.1 rfl (Nat.le_of_ble_eq_true rfl) dX7_step_13 ⟨Nat.zero_le _, Nat.zero_le _⟩ (fun H locs hP hS => ?_)
      refine lv_bipush (v := 32) hx hb dX7_step_16 (by decide) ?_
      refine lv_icmp_ne (tgt := 34) hx hb dX7_step_18 (by decide) (fun c13 => ?_) (fun c13 => ?_)
      · have hf := if_f c13 hf
        refine lv_aload_n hx hb dX7_step_34 rfl (lv_at hl 0 rfl) ?_
        refine lv_aload_n hx hb dX7_step_35 rfl (lv_at hl 0 rfl) ?_
        refine g_get (v := .int (z 0 9)) S hB hinX7 hP m_22_0 rfl rfl 9 (by decide) fl72 rfl rfl dX7_step_36 ?_
        refine g_put S hB hE hinX7 tyX7 tyX7_ok nmX7 hP hS m_22_0 rfl rfl 10 (by decide) fl63 rfl rfl rfl rfl (Nat.le_of_ble_eq_true rfl) (by exact (fun _ => rfl) _) (X' := (va_up σ 22 (ob z 0 10 (z 0 9)))) (lens_put σ 22 _ _ _ _) dX7_step_39 (fun H locs hP hS => ?_)
        refine lv_aload_n hx hb dX7_step_42 rfl (lv_at hl 0 rfl) ?_
        refine lv_aload_n hx hb dX7_step_43 rfl (lv_at hl 0 rfl) ?_
        refine g_get (v := .int (z 0 9)) S hB hinX7 hP m_22_0 rfl rfl 9 (by decide) fl72 rfl rfl dX7_step_44 ?_
        obtain ⟨q14, hq14, hf⟩ := bind_some hf
        refine callV_i (As := [.int (z 0 9)]) (rest := []) S hB hP hS (C := RX7) (b := E.ad 22 0) (g_recv (o := 22) (d := 0) hB hP m_22_0 rfl rfl) (K_X7_byteAt l hE σ (ob z 0 10 (z 0 9)) (z 0 9) hq14) (cwV 1 S.2.2.2.2 gX7_step_X7_byteAt rfl rfl rfl (by decide +kernel) ⟨Nat.le_of_ble_eq_true rfl, Nat.le_of_ble_eq_true rfl⟩) rfl hl.1 rfl (Nat.le_of_ble_eq_true rfl) dX7_step_47 ⟨Nat.zero_le _, Nat.zero_le _⟩ (fun H locs hP hS => ?_)
        refine lv_istore_n (lv' := [(1, .int q14), (0, .ref (E.ad 22 0))]) hx hb dX7_step_50 rfl hl (by decide) rfl (fun ls hl => ?_)
        refine lv_aload_n hx hb dX7_step_51 rfl (lv_at hl 1 rfl) ?_
        refine lv_iconst (v := 0) hx hb dX7_step_52 (by decide) ?_
        refine g_put S hB hE hinX7 tyX7 tyX7_ok nmX7 hP hS m_22_0 rfl rfl 12 (by decide) fl79 rfl rfl rfl rfl (Nat.le_of_ble_eq_true rfl) (by exact (fun _ => rfl) _) (X' := (va_up σ 22 (ob (ob z 0 10 (z 0 9)) 0 12 (0 : Int32)))) (lens_put σ 22 _ _ _ _) dX7_step_53 (fun H locs hP hS => ?_)
        refine lv_iload_n hx hb dX7_step_56 rfl (lv_at hl 0 rfl) ?_
        refine lv_bipush (v := -4) hx hb dX7_step_57 (by decide) ?_
        refine lv_icmp_ne (tgt := 70) hx hb dX7_step_59 (by decide) (fun c15 => ?_) (fun c15 => ?_)
        · have hf := if_f c15 hf
          refine lv_iload_n hx hb dX7_step_70 rfl (lv_at hl 0 rfl) ?_
          refine lv_i2l hx hb dX7_step_71 (v := q14.toInt64) rfl ?_
          refine lv_ldc2 hx hb S.2.2.2.1 (S.2.2.2.2 (.constantLong RX7 82 (97)) (by decide +kernel)) dX7_step_72 ?_
          refine lv_ldc2 hx hb S.2.2.2.1 (S.2.2.2.2 (.constantLong RX7 84 (122)) (by decide +kernel)) dX7_step_75 ?_
          obtain ⟨q16, hq16, hf⟩ := bind_some hf
          refine callS_i (As := [.long q14.toInt64, .long (97 : Int64), .long (122 : Int64)]) (rest := []) S hB hP hS (K_X7_in l hE (va_up σ 22 (ob (ob z 0 10 (z 0 9)) 0 12 (0 : Int32))) q14.toInt64 (97 : Int64) (122 : Int64) hq16) (va_cwS 3 S.2.2.2.2 gX7_step_X7_in rfl rfl rfl (by decide +kernel) ⟨Nat.le_of_ble_eq_true rfl, Nat.le_of_ble_eq_true rfl⟩) rfl hl.1 rfl (Nat.le_of_ble_eq_true rfl) dX7_step_78 ⟨Nat.zero_le _, Nat.zero_le _⟩ (fun H locs hP hS => ?_)
          refine lv_if_eq (tgt := 126) hx hb dX7_step_81 (by decide) (fun c17 => ?_) (fun c17 => ?_)
          · have hf := if_t c17 hf
            refine lv_iload_n hx hb dX7_step_126 rfl (lv_at hl 0 rfl) ?_
            refine lv_i2l hx hb dX7_step_127 (v := q14.toInt64) rfl ?_
            refine lv_ldc2 hx hb S.2.2.2.1 (S.2.2.2.2 (.constantLong RX7 86 (48)) (by decide +kernel)) dX7_step_128 ?_
            refine lv_ldc2 hx hb S.2.2.2.1 (S.2.2.2.2 (.constantLong RX7 88 (57)) (by decide +kernel)) dX7_step_131 ?_
            obtain ⟨q18, hq18, hf⟩ := bind_some hf
            refine callS_i (As := [.long q14.toInt64, .long (48 : Int64), .long (57 : Int64)]) (rest := []) S hB hP hS (K_X7_in l hE (va_up σ 22 (ob (ob z 0 10 (z 0 9)) 0 12 (0 : Int32))) q14.toInt64 (48 : Int64) (57 : Int64) hq18) (va_cwS 3 S.2.2.2.2 gX7_step_X7_in rfl rfl rfl (by decide +kernel) ⟨Nat.le_of_ble_eq_true rfl, Nat.le_of_ble_eq_true rfl⟩) rfl hl.1 rfl (Nat.le_of_ble_eq_true rfl) dX7_step_134 ⟨Nat.zero_le _, Nat.zero_le _⟩ (fun H locs hP hS => ?_)
            refine lv_if_eq (tgt := 243) hx hb dX7_step_137 (by decide) (fun c19 => ?_) (fun c19 => ?_)
            · have hf := if_t c19 hf
              refine lv_aload_n hx hb dX7_step_243 rfl (lv_at hl 1 rfl) ?_
              refine lv_iconst (v := 3) hx hb dX7_step_244 (by decide) ?_
              refine g_put S hB hE hinX7 tyX7 tyX7_ok nmX7 hP hS m_22_0 rfl rfl 11 (by decide) fl69 rfl rfl rfl rfl (Nat.le_of_ble_eq_true rfl) (by exact (fun _ => rfl) _) (X' := (va_up σ 22 (ob (ob (ob z 0 10 (z 0 9)) 0 12 (0 : Int32)) 0 11 (3 : Int32)))) (lens_put σ 22 _ _ _ _) dX7_step_245 (fun H locs hP hS => ?_)
              refine lv_aload_n hx hb dX7_step_248 rfl (lv_at hl 1 rfl) ?_
              refine lv_dup hx hb dX7_step_249 rfl ?_
              refine g_get (v := .int (z 0 9)) S hB hinX7 hP m_22_0 rfl rfl 9 (by decide) fl72 rfl rfl dX7_step_250 ?_
              refine lv_iconst (v := 1) hx hb dX7_step_253 (by decide) ?_
              refine lv_iadd hx hb dX7_step_254 ?_
              refine g_put S hB hE hinX7 tyX7 tyX7_ok nmX7 hP hS m_22_0 rfl rfl 9 (by decide) fl72 rfl rfl rfl rfl (Nat.le_of_ble_eq_true rfl) (by exact (fun _ => rfl) _) (X' := (va_up σ 22 (ob (ob (ob (ob z 0 10 (z 0 9)) 0 12 (0 : Int32)) 0 11 (3 : Int32)) 0 9 ((z 0 9) + (1 : Int32))))) (lens_put σ 22 _ _ _ _) dX7_step_255 (fun H locs hP hS => ?_)
              refine lv_iload_n hx hb dX7_step_258 rfl (lv_at hl 0 rfl) ?_
              refine lv_bipush (v := 59) hx hb dX7_step_259 (by decide) ?_
              refine lv_icmp_eq (tgt := 269) hx hb dX7_step_261 (by decide) (fun c20 => ?_) (fun c20 => ?_)
              · have hf := if_t c20 hf
                exact fin dX7_step_269  (by rw [(s0 hf)]) hP hS
              · have hf := if_f c20 hf
                refine lv_aload_n hx hb dX7_step_264 rfl (lv_at hl 1 rfl) ?_
                refine lv_iconst (v := 1) hx hb dX7_step_265 (by decide) ?_
                obtain ⟨q21, hq21, hf⟩ := bind_some hf
                refine callV_v (As := [.int (1 : Int32)]) (rest := []) S hB hP hS (C := RX7) (b := E.ad 22 0) (g_recv (o := 22) (d := 0) hB hP m_22_0 rfl rfl) (K_X7_fails l hE σ (ob (ob (ob (ob z 0 10 (z 0 9)) 0 12 (0 : Int32)) 0 11 (3 : Int32)) 0 9 ((z 0 9) + (1 : Int32))) (1 : Int32) hq21) (cwV 1 S.2.2.2.2 gX7_step_X7_fails rfl rfl rfl (by decide +kernel) ⟨Nat.le_of_ble_eq_true rfl, Nat.le_of_ble_eq_true rfl⟩) rfl hl.1 rfl (Nat.le_of_ble_eq_true rfl) dX7_step_266 ⟨Nat.zero_le _, Nat.zero_le _⟩ (fun H locs hP hS => ?_)
                exact fin dX7_step_269  (by rw [(s0 hf)]) hP hS
            · have hf := if_f c19 hf
              exact hL140 FUEL (ob (ob z 0 10 (z 0 9)) 0 12 (0 : Int32)) _ _ _ hf hP hS (lv_sub hl [1] rfl)
          · have hf := if_f c17 hf
            exact hL84 FUEL (ob (ob z 0 10 (z 0 9)) 0 12 (0 : Int32)) _ _ _ hf hP hS (lv_sub hl [1] rfl)
        · have hf := if_t c15 hf
          refine lv_aload_n hx hb dX7_step_62 rfl (lv_at hl 1 rfl) ?_
          refine lv_iconst (v := 0) hx hb dX7_step_63 (by decide) ?_
          refine g_put S hB hE hinX7 tyX7 tyX7_ok nmX7 hP hS m_22_0 rfl rfl 11 (by decide) fl69 rfl rfl rfl rfl (Nat.le_of_ble_eq_true rfl) (by exact (fun _ => rfl) _) (X' := (va_up σ 22 (ob (ob (ob z 0 10 (z 0 9)) 0 12 (0 : Int32)) 0 11 (0 : Int32)))) (lens_put σ 22 _ _ _ _) dX7_step_64 (fun H locs hP hS => ?_)
          refine lv_goto (tgt := 269) hx hb dX7_step_67 (by decide) ?_
          exact fin dX7_step_269  (by rw [(s0 hf)]) hP hS
      · have hf := if_t c13 hf
        refine lv_aload_n hx hb dX7_step_21 rfl (lv_at hl 0 rfl) ?_
        refine lv_dup hx hb dX7_step_22 rfl ?_
        refine g_get (v := .int (z 0 9)) S hB hinX7 hP m_22_0 rfl rfl 9 (by decide) fl72 rfl rfl dX7_step_23 ?_
        refine lv_iconst (v := 1) hx hb dX7_step_26 (by decide) ?_
        refine lv_iadd hx hb dX7_step_27 ?_
        refine g_put S hB hE hinX7 tyX7 tyX7_ok nmX7 hP hS m_22_0 rfl rfl 9 (by decide) fl72 rfl rfl rfl rfl (Nat.le_of_ble_eq_true rfl) (by exact (fun _ => rfl) _) (X' := (va_up σ 22 (ob z 0 9 ((z 0 9) + (1 : Int32))))) (lens_put σ 22 _ _ _ _) dX7_step_28 (fun H locs hP hS => ?_)
        refine lv_goto (tgt := 8) hx hb dX7_step_31 (by decide) ?_
        exact ih8 (ob z 0 9 ((z 0 9) + (1 : Int32))) _ _ _ hf hP hS (lv_sub hl [0] rfl)
  unfold f_X7_step at hf
  refine lv_aload_n hx hb dX7_step_0 rfl (lv_at hl 0 rfl) ?_
  refine g_get (v := .int (z 0 7)) S hB hinX7 hP m_22_0 rfl rfl 7 (by decide) fl60 rfl rfl dX7_step_1 ?_
  refine lv_if_le (tgt := 8) hx hb dX7_step_4 (by decide) (fun c1 => ?_) (fun c1 => ?_)
  · have hf := if_t c1 hf
    exact hL8 FUEL z _ _ _ hf hP hS (lv_sub hl [0] rfl)
  · have hf := if_f c1 hf
    exact fin dX7_step_7  (by rw [(s0 hf)]) hP hS
theorem KW_X7_step (l : Launch) {E : En} (hE : Inj E) (X : Wd) {z' : Ob} (hf : f_X7_step (X 22) = some z') : Ctv l E yX7_step wsX7_step rm_X7_step [.ref (E.ad 22 0)] X  (va_up X 22 z') := by
  have h := K_X7_step l hE X (X 22)  hf
  rw [lens_all] at h
  exact h
/-! X7_number -/
abbrev rm_X7_number : Room := { frames := 2, cells := 0, slots := 0, locals := 46 }
set_option maxHeartbeats 4000000 in
set_option maxRecDepth 100000 in
theorem K_X7_number (l : Launch) {E : En} (hE : Inj E) (σ : Wd) (z : Ob) (a1 : Int32) (a2 : Int32) {r : Int32} {z' : Ob} (hf : f_X7_number z a1 a2 = some (r, z')) : Cti l E yX7_number wsX7_number rm_X7_number [.ref (E.ad 22 0), .int a1, .int a2] (va_up σ 22 z) r (va_up σ 22 z') := by
  refine meet_i (cc := cX7_number) (maxL := 4) (own := RX7) (by decide) rfl rfl (Nat.le_of_ble_eq_true rfl) ?_
  intro p e s m below meth c Z S hB fin hP hS ls hl
  have hx := S.1
  have hb := S.2.1
  have hl : lv_has ls 4 [(0, .ref (E.ad 22 0)), (1, .int a1), (2, .int a2)] := hl
  have hinX7 : ∀ w ∈ u_ws RX7 TX7 25, w ∈ wsX7_number := by decide +kernel
  have fl60 := S.2.2.2.2 (.fieldLink RX7 60 "MownMazeModel" "broken" "I") (by decide +kernel)
  have fl69 := S.2.2.2.2 (.fieldLink RX7 69 "MownMazeModel" "token" "I") (by decide +kernel)
  have fl79 := S.2.2.2.2 (.fieldLink RX7 79 "MownMazeModel" "value" "I") (by decide +kernel)
  have hB62 : ∀ (z : Ob) (y0 : Int32) (H : Heap) (locs : List Loc) (ls : Array Slot), f_X7_number_b62 z y0 = some (r, z') → va_P E.1 vwCl (GW E (va_up σ 22 z)) H → va_S (GA E) s.heap H locs → lv_has ls 4 [(0, .ref (E.ad 22 0))] → W p l e rm_X7_number s m ([.ref (E.ad 22 0), .int a1, .int a2] : List Value).toArray below meth c H locs 0 0 Z (F0 m 62 ls [.int y0]) := by
    intro z y0 H locs ls hf hP hS hl
    unfold f_X7_number_b62 at hf
    refine lv_istore_n (lv' := [(3, .int y0), (0, .ref (E.ad 22 0))]) hx hb dX7_number_62 rfl hl (by decide) rfl (fun ls hl => ?_)
    refine lv_aload_n hx hb dX7_number_63 rfl (lv_at hl 1 rfl) ?_
    obtain ⟨q4, hq4, hf⟩ := bind_some hf
    refine callV_v (As := []) (rest := []) S hB hP hS (C := RX7) (b := E.ad 22 0) (g_recv (o := 22) (d := 0) hB hP m_22_0 rfl rfl) (K_X7_step l hE σ z hq4) (cwV 0 S.2.2.2.2 gX7_number_X7_step rfl rfl rfl (by decide +kernel) ⟨Nat.le_of_ble_eq_true rfl, Nat.le_of_ble_eq_true rfl⟩) rfl hl.1 rfl (Nat.le_of_ble_eq_true rfl) dX7_number_64 ⟨Nat.zero_le _, Nat.zero_le _⟩ (fun H locs hP hS => ?_)
    refine lv_iload_n hx hb dX7_number_67 rfl (lv_at hl 0 rfl) ?_
    exact fin dX7_number_68 (s1 hf) (by rw [(s2 hf)]) hP hS
  have hB47 : ∀ (z : Ob) (x1 : Int32) (H : Heap) (locs : List Loc) (ls : Array Slot), f_X7_number_b47 z x1 = some (r, z') → va_P E.1 vwCl (GW E (va_up σ 22 z)) H → va_S (GA E) s.heap H locs → lv_has ls 4 [(0, .ref (E.ad 22 0)), (1, .int x1)] → W p l e rm_X7_number s m ([.ref (E.ad 22 0), .int a1, .int a2] : List Value).toArray below meth c H locs 0 0 Z (F0 m 47 ls []) := by
    intro z x1 H locs ls hf hP hS hl
    unfold f_X7_number_b47 at hf
    refine lv_aload_n hx hb dX7_number_47 rfl (lv_at hl 0 rfl) ?_
    refine g_get (v := .int (z 0 7)) S hB hinX7 hP m_22_0 rfl rfl 7 (by decide) fl60 rfl rfl dX7_number_48 ?_
    refine lv_if_ne (tgt := 61) hx hb dX7_number_51 (by decide) (fun c5 => ?_) (fun c5 => ?_)
    · have hf := if_f c5 hf
      refine lv_iload_n hx hb dX7_number_61 rfl (lv_at hl 1 rfl) ?_
      exact hB62 z x1 _ _ _ hf hP hS (lv_sub hl [0] rfl)
    · have hf := if_t c5 hf
      refine lv_aload_n hx hb dX7_number_54 rfl (lv_at hl 0 rfl) ?_
      refine g_get (v := .int (z 0 12)) S hB hinX7 hP m_22_0 rfl rfl 12 (by decide) fl79 rfl rfl dX7_number_55 ?_
      refine lv_goto (tgt := 62) hx hb dX7_number_58 (by decide) ?_
      exact hB62 z (z 0 12) _ _ _ hf hP hS (lv_sub hl [0] rfl)
  have hB20 : ∀ (z : Ob) (x1 : Int32) (x2 : Int32) (H : Heap) (locs : List Loc) (ls : Array Slot), f_X7_number_b20 z x1 x2 = some (r, z') → va_P E.1 vwCl (GW E (va_up σ 22 z)) H → va_S (GA E) s.heap H locs → lv_has ls 4 [(0, .ref (E.ad 22 0)), (1, .int x1), (2, .int x2)] → W p l e rm_X7_number s m ([.ref (E.ad 22 0), .int a1, .int a2] : List Value).toArray below meth c H locs 0 0 Z (F0 m 20 ls []) := by
    intro z x1 x2 H locs ls hf hP hS hl
    unfold f_X7_number_b20 at hf
    refine lv_aload_n hx hb dX7_number_20 rfl (lv_at hl 0 rfl) ?_
    refine g_get (v := .int (z 0 7)) S hB hinX7 hP m_22_0 rfl rfl 7 (by decide) fl60 rfl rfl dX7_number_21 ?_
    refine lv_if_ne (tgt := 47) hx hb dX7_number_24 (by decide) (fun c6 => ?_) (fun c6 => ?_)
    · have hf := if_f c6 hf
      exact hB47 z x1 _ _ _ hf hP hS (lv_sub hl [0, 1] rfl)
    · have hf := if_t c6 hf
      refine lv_aload_n hx hb dX7_number_27 rfl (lv_at hl 0 rfl) ?_
      refine g_get (v := .int (z 0 12)) S hB hinX7 hP m_22_0 rfl rfl 12 (by decide) fl79 rfl rfl dX7_number_28 ?_
      refine lv_i2l hx hb dX7_number_31 (v := (z 0 12).toInt64) rfl ?_
      refine lv_iload_n hx hb dX7_number_32 rfl (lv_at hl 1 rfl) ?_
      refine lv_i2l hx hb dX7_number_33 (v := x1.toInt64) rfl ?_
      refine lv_iload_n hx hb dX7_number_34 rfl (lv_at hl 2 rfl) ?_
      refine lv_i2l hx hb dX7_number_35 (v := x2.toInt64) rfl ?_
      obtain ⟨q7, hq7, hf⟩ := bind_some hf
      refine callS_i (As := [.long ((z 0 12).toInt64), .long x1.toInt64, .long x2.toInt64]) (rest := []) S hB hP hS (K_X7_in l hE (va_up σ 22 z) ((z 0 12).toInt64) x1.toInt64 x2.toInt64 hq7) (va_cwS 3 S.2.2.2.2 gX7_number_X7_in rfl rfl rfl (by decide +kernel) ⟨Nat.le_of_ble_eq_true rfl, Nat.le_of_ble_eq_true rfl⟩) rfl hl.1 rfl (Nat.le_of_ble_eq_true rfl) dX7_number_36 ⟨Nat.zero_le _, Nat.zero_le _⟩ (fun H locs hP hS => ?_)
      refine lv_if_ne (tgt := 47) hx hb dX7_number_39 (by decide) (fun c8 => ?_) (fun c8 => ?_)
      · have hf := if_f c8 hf
        exact hB47 z x1 _ _ _ hf hP hS (lv_sub hl [0, 1] rfl)
      · have hf := if_t c8 hf
        refine lv_aload_n hx hb dX7_number_42 rfl (lv_at hl 0 rfl) ?_
        refine lv_iconst (v := 3) hx hb dX7_number_43 (by decide) ?_
        obtain ⟨q9, hq9, hf⟩ := bind_some hf
        refine callV_v (As := [.int (3 : Int32)]) (rest := []) S hB hP hS (C := RX7) (b := E.ad 22 0) (g_recv (o := 22) (d := 0) hB hP m_22_0 rfl rfl) (K_X7_fails l hE σ z (3 : Int32) hq9) (cwV 1 S.2.2.2.2 gX7_number_X7_fails rfl rfl rfl (by decide +kernel) ⟨Nat.le_of_ble_eq_true rfl, Nat.le_of_ble_eq_true rfl⟩) rfl hl.1 rfl (Nat.le_of_ble_eq_true rfl) dX7_number_44 ⟨Nat.zero_le _, Nat.zero_le _⟩ (fun H locs hP hS => ?_)
        exact hB47 q9 x1 _ _ _ hf hP hS (lv_sub hl [0, 1] rfl)
  unfold f_X7_number at hf
  refine lv_aload_n hx hb dX7_number_0 rfl (lv_at hl 0 rfl) ?_
  refine g_get (v := .int (z 0 7)) S hB hinX7 hP m_22_0 rfl rfl 7 (by decide) fl60 rfl rfl dX7_number_1 ?_
  refine lv_if_ne (tgt := 20) hx hb dX7_number_4 (by decide) (fun c1 => ?_) (fun c1 => ?_)
  · have hf := if_f c1 hf
    exact hB20 z a1 a2 _ _ _ hf hP hS (lv_sub hl [0, 1, 2] rfl)
  · have hf := if_t c1 hf
    refine lv_aload_n hx hb dX7_number_7 rfl (lv_at hl 0 rfl) ?_
    refine g_get (v := .int (z 0 11)) S hB hinX7 hP m_22_0 rfl rfl 11 (by decide) fl69 rfl rfl dX7_number_8 ?_
    refine lv_iconst (v := 2) hx hb dX7_number_11 (by decide) ?_
    refine lv_icmp_eq (tgt := 20) hx hb dX7_number_12 (by decide) (fun c2 => ?_) (fun c2 => ?_)
    · have hf := if_t c2 hf
      exact hB20 z a1 a2 _ _ _ hf hP hS (lv_sub hl [0, 1, 2] rfl)
    · have hf := if_f c2 hf
      refine lv_aload_n hx hb dX7_number_15 rfl (lv_at hl 0 rfl) ?_
      refine lv_iconst (v := 2) hx hb dX7_number_16 (by decide) ?_
      obtain ⟨q3, hq3, hf⟩ := bind_some hf
      refine callV_v (As := [.int (2 : Int32)]) (rest := []) S hB hP hS (C := RX7) (b := E.ad 22 0) (g_recv (o := 22) (d := 0) hB hP m_22_0 rfl rfl) (K_X7_fails l hE σ z (2 : Int32) hq3) (cwV 1 S.2.2.2.2 gX7_number_X7_fails rfl rfl rfl (by decide +kernel) ⟨Nat.le_of_ble_eq_true rfl, Nat.le_of_ble_eq_true rfl⟩) rfl hl.1 rfl (Nat.le_of_ble_eq_true rfl) dX7_number_17 ⟨Nat.zero_le _, Nat.zero_le _⟩ (fun H locs hP hS => ?_)
      exact hB20 q3 a1 a2 _ _ _ hf hP hS (lv_sub hl [0, 1, 2] rfl)
theorem KW_X7_number (l : Launch) {E : En} (hE : Inj E) (X : Wd) (a1 : Int32) (a2 : Int32) {r : Int32} {z' : Ob} (hf : f_X7_number (X 22) a1 a2 = some (r, z')) : Cti l E yX7_number wsX7_number rm_X7_number [.ref (E.ad 22 0), .int a1, .int a2] X r (va_up X 22 z') := by
  have h := K_X7_number l hE X (X 22) a1 a2 hf
  rw [lens_all] at h
  exact h
/-! X7_readHedges -/
abbrev rm_X7_readHedges : Room := { frames := 3, cells := 0, slots := 0, locals := 69 }
set_option maxHeartbeats 4000000 in
set_option maxRecDepth 100000 in
theorem K_X7_readHedges (l : Launch) {E : En} (hE : Inj E) (σ : Wd) (z : Ob) {z' : Ob} (hf : f_X7_readHedges z = some z') : Ctv l E yX7_readHedges wsX7_readHedges rm_X7_readHedges [.ref (E.ad 22 0)] (va_up σ 22 z)  (va_up σ 22 z') := by
  refine meet_v (cc := cX7_readHedges) (maxL := 2) (own := RX7) (by decide) rfl rfl (Nat.le_of_ble_eq_true rfl) ?_
  intro p e s m below meth c Z S hB fin hP hS ls hl
  have hx := S.1
  have hb := S.2.1
  have hl : lv_has ls 2 [(0, .ref (E.ad 22 0))] := hl
  have hinX7 : ∀ w ∈ u_ws RX7 TX7 25, w ∈ wsX7_readHedges := by decide +kernel
  have fl13 := S.2.2.2.2 (.fieldLink RX7 13 "MownMazeModel" "readPage" "[I") (by decide +kernel)
  have fl60 := S.2.2.2.2 (.fieldLink RX7 60 "MownMazeModel" "broken" "I") (by decide +kernel)
  have fl69 := S.2.2.2.2 (.fieldLink RX7 69 "MownMazeModel" "token" "I") (by decide +kernel)
  have fl79 := S.2.2.2.2 (.fieldLink RX7 79 "MownMazeModel" "value" "I") (by decide +kernel)
  have fl99 := S.2.2.2.2 (.fieldLink RX7 99 "MownMazeModel" "toldHedges" "I") (by decide +kernel)
  have hL0 : ∀ (n0 : Nat) (z : Ob) (H : Heap) (locs : List Loc) (ls : Array Slot), f_X7_readHedges_l0 n0 z = some z' → va_P E.1 vwCl (GW E (va_up σ 22 z)) H → va_S (GA E) s.heap H locs → lv_has ls 2 [(0, .ref (E.ad 22 0))] → W p l e rm_X7_readHedges s m ([.ref (E.ad 22 0)] : List Value).toArray below meth c H locs 0 0 Z (F0 m 0 ls []) := by
    intro n0
    induction n0 with
    | zero =>
      intro z H locs ls hf
      cases (show (none : Option _) = some _ from hf)
    | succ n0 ih0 =>
      have hB50 : ∀ (z : Ob) (H : Heap) (locs : List Loc) (ls : Array Slot), f_X7_readHedges_b50 (f_X7_readHedges_l0 n0) z = some z' → va_P E.1 vwCl (GW E (va_up σ 22 z)) H → va_S (GA E) s.heap H locs → lv_has ls 2 [(0, .ref (E.ad 22 0))] → W p l e rm_X7_readHedges s m ([.ref (E.ad 22 0)] : List Value).toArray below meth c H locs 0 0 Z (F0 m 50 ls []) := by
        intro z H locs ls hf hP hS hl
        unfold f_X7_readHedges_b50 at hf
        refine lv_aload_n hx hb dX7_readHedges_50 rfl (lv_at hl 0 rfl) ?_
        refine lv_iconst (v := 0) hx hb dX7_readHedges_51 (by decide) ?_
        refine lv_bipush (v := 23) hx hb dX7_readHedges_52 (by decide) ?_
        obtain ⟨q1, hq1, hf⟩ := bind_some hf
        refine callV_i (As := [.int (0 : Int32), .int (23 : Int32)]) (rest := []) S hB hP hS (C := RX7) (b := E.ad 22 0) (g_recv (o := 22) (d := 0) hB hP m_22_0 rfl rfl) (K_X7_number l hE σ z (0 : Int32) (23 : Int32) hq1) (cwV 2 S.2.2.2.2 gX7_readHedges_X7_number rfl rfl rfl (by decide +kernel) ⟨Nat.le_of_ble_eq_true rfl, Nat.le_of_ble_eq_true rfl⟩) rfl hl.1 rfl (Nat.le_of_ble_eq_true rfl) dX7_readHedges_54 ⟨Nat.zero_le _, Nat.zero_le _⟩ (fun H locs hP hS => ?_)
        refine lv_istore_n (lv' := [(1, .int q1.1), (0, .ref (E.ad 22 0))]) hx hb dX7_readHedges_57 rfl hl (by decide) rfl (fun ls hl => ?_)
        refine lv_aload_n hx hb dX7_readHedges_58 rfl (lv_at hl 1 rfl) ?_
        refine lv_dup hx hb dX7_readHedges_59 rfl ?_
        refine g_get (v := .int (q1.2 0 2)) S hB hinX7 hP m_22_0 rfl rfl 2 (by decide) fl99 rfl rfl dX7_readHedges_60 ?_
        refine lv_iconst (v := 1) hx hb dX7_readHedges_63 (by decide) ?_
        refine lv_iload_n hx hb dX7_readHedges_64 rfl (lv_at hl 0 rfl) ?_
        refine lv_ishl hx hb dX7_readHedges_65 ?_
        refine lv_ior hx hb dX7_readHedges_66 ?_
        refine g_put S hB hE hinX7 tyX7 tyX7_ok nmX7 hP hS m_22_0 rfl rfl 2 (by decide) fl99 rfl rfl rfl rfl (Nat.le_of_ble_eq_true rfl) (by exact (fun _ => rfl) _) (X' := (va_up σ 22 (ob q1.2 0 2 ((q1.2 0 2) ||| ((1 : Int32) <<< (q1.1 &&& 31)))))) (lens_put σ 22 _ _ _ _) dX7_readHedges_67 (fun H locs hP hS => ?_)
        refine lv_aload_n hx hb dX7_readHedges_70 rfl (lv_at hl 1 rfl) ?_
        refine g_get (v := .ref (E.ad 22 2)) S hB hinX7 hP m_22_0 rfl rfl 1 (by decide) fl13 rfl rfl dX7_readHedges_71 ?_
        refine lv_iload_n hx hb dX7_readHedges_74 rfl (lv_at hl 0 rfl) ?_
        refine lv_iconst (v := 1) hx hb dX7_readHedges_75 (by decide) ?_
        obtain ⟨hv2, hf⟩ := ck_some hf
        refine g_iast (r := (ob q1.2 0 2 ((q1.2 0 2) ||| ((1 : Int32) <<< (q1.1 &&& 31)))) 2) S hB hE hP hS m_22_2 rfl rfl (fun _ => rfl) hv2 (X' := (va_up σ 22 (ob (ob q1.2 0 2 ((q1.2 0 2) ||| ((1 : Int32) <<< (q1.1 &&& 31)))) 2 q1.1.toNatClampNeg (1 : Int32)))) (lens_put σ 22 _ _ _ _) dX7_readHedges_76 (fun H locs hP hS => ?_)
        refine lv_goto (tgt := 0) hx hb dX7_readHedges_77 (by decide) ?_
        exact ih0 (ob (ob q1.2 0 2 ((q1.2 0 2) ||| ((1 : Int32) <<< (q1.1 &&& 31)))) 2 q1.1.toNatClampNeg (1 : Int32)) _ _ _ hf hP hS (lv_sub hl [1] rfl)
      intro z H locs ls hf hP hS hl
      unfold f_X7_readHedges_l0 at hf
      refine lv_aload_n hx hb dX7_readHedges_0 rfl (lv_at hl 0 rfl) ?_
      refine g_get (v := .int (z 0 7)) S hB hinX7 hP m_22_0 rfl rfl 7 (by decide) fl60 rfl rfl dX7_readHedges_1 ?_
      refine lv_if_ne (tgt := 80) hx hb dX7_readHedges_4 (by decide) (fun c3 => ?_) (fun c3 => ?_)
      · have hf := if_f c3 hf
        exact fin dX7_readHedges_80  (by rw [(s0 hf)]) hP hS
      · have hf := if_t c3 hf
        refine lv_aload_n hx hb dX7_readHedges_7 rfl (lv_at hl 0 rfl) ?_
        refine g_get (v := .int (z 0 11)) S hB hinX7 hP m_22_0 rfl rfl 11 (by decide) fl69 rfl rfl dX7_readHedges_8 ?_
        refine lv_iconst (v := 2) hx hb dX7_readHedges_11 (by decide) ?_
        refine lv_icmp_ne (tgt := 80) hx hb dX7_readHedges_12 (by decide) (fun c4 => ?_) (fun c4 => ?_)
        · have hf := if_f c4 hf
          exact fin dX7_readHedges_80  (by rw [(s0 hf)]) hP hS
        · have hf := if_t c4 hf
          refine lv_aload_n hx hb dX7_readHedges_15 rfl (lv_at hl 0 rfl) ?_
          refine g_get (v := .int (z 0 12)) S hB hinX7 hP m_22_0 rfl rfl 12 (by decide) fl79 rfl rfl dX7_readHedges_16 ?_
          refine lv_i2l hx hb dX7_readHedges_19 (v := (z 0 12).toInt64) rfl ?_
          refine lv_lconst (v := 0) hx hb dX7_readHedges_20 (by decide) ?_
          refine lv_ldc2 hx hb S.2.2.2.1 (S.2.2.2.2 (.constantLong RX7 97 (23)) (by decide +kernel)) dX7_readHedges_21 ?_
          obtain ⟨q5, hq5, hf⟩ := bind_some hf
          refine callS_i (As := [.long ((z 0 12).toInt64), .long (0 : Int64), .long (23 : Int64)]) (rest := []) S hB hP hS (K_X7_in l hE (va_up σ 22 z) ((z 0 12).toInt64) (0 : Int64) (23 : Int64) hq5) (va_cwS 3 S.2.2.2.2 gX7_readHedges_X7_in rfl rfl rfl (by decide +kernel) ⟨Nat.le_of_ble_eq_true rfl, Nat.le_of_ble_eq_true rfl⟩) rfl hl.1 rfl (Nat.le_of_ble_eq_true rfl) dX7_readHedges_24 ⟨Nat.zero_le _, Nat.zero_le _⟩ (fun H locs hP hS => ?_)
          refine lv_if_eq (tgt := 50) hx hb dX7_readHedges_27 (by decide) (fun c6 => ?_) (fun c6 => ?_)
          · have hf := if_t c6 hf
            exact hB50 z _ _ _ hf hP hS (lv_sub hl [0] rfl)
          · have hf := if_f c6 hf
            refine lv_aload_n hx hb dX7_readHedges_30 rfl (lv_at hl 0 rfl) ?_
            refine g_get (v := .int (z 0 2)) S hB hinX7 hP m_22_0 rfl rfl 2 (by decide) fl99 rfl rfl dX7_readHedges_31 ?_
            refine lv_aload_n hx hb dX7_readHedges_34 rfl (lv_at hl 0 rfl) ?_
            refine g_get (v := .int (z 0 12)) S hB hinX7 hP m_22_0 rfl rfl 12 (by decide) fl79 rfl rfl dX7_readHedges_35 ?_
            refine lv_ishr hx hb dX7_readHedges_38 ?_
            refine lv_iconst (v := 1) hx hb dX7_readHedges_39 (by decide) ?_
            refine lv_iand hx hb dX7_readHedges_40 ?_
            refine lv_iconst (v := 1) hx hb dX7_readHedges_41 (by decide) ?_
            refine lv_icmp_ne (tgt := 50) hx hb dX7_readHedges_42 (by decide) (fun c7 => ?_) (fun c7 => ?_)
            · have hf := if_f c7 hf
              exact hB50 z _ _ _ hf hP hS (lv_sub hl [0] rfl)
            · have hf := if_t c7 hf
              refine lv_aload_n hx hb dX7_readHedges_45 rfl (lv_at hl 0 rfl) ?_
              refine lv_iconst (v := 4) hx hb dX7_readHedges_46 (by decide) ?_
              obtain ⟨q8, hq8, hf⟩ := bind_some hf
              refine callV_v (As := [.int (4 : Int32)]) (rest := []) S hB hP hS (C := RX7) (b := E.ad 22 0) (g_recv (o := 22) (d := 0) hB hP m_22_0 rfl rfl) (K_X7_fails l hE σ z (4 : Int32) hq8) (cwV 1 S.2.2.2.2 gX7_readHedges_X7_fails rfl rfl rfl (by decide +kernel) ⟨Nat.le_of_ble_eq_true rfl, Nat.le_of_ble_eq_true rfl⟩) rfl hl.1 rfl (Nat.le_of_ble_eq_true rfl) dX7_readHedges_47 ⟨Nat.zero_le _, Nat.zero_le _⟩ (fun H locs hP hS => ?_)
              exact hB50 q8 _ _ _ hf hP hS (lv_sub hl [0] rfl)
  unfold f_X7_readHedges at hf
  exact hL0 FUEL z _ _ _ hf hP hS (lv_sub hl [0] rfl)
theorem KW_X7_readHedges (l : Launch) {E : En} (hE : Inj E) (X : Wd) {z' : Ob} (hf : f_X7_readHedges (X 22) = some z') : Ctv l E yX7_readHedges wsX7_readHedges rm_X7_readHedges [.ref (E.ad 22 0)] X  (va_up X 22 z') := by
  have h := K_X7_readHedges l hE X (X 22)  hf
  rw [lens_all] at h
  exact h
/-! X7_readMore -/
abbrev rm_X7_readMore : Room := { frames := 4, cells := 0, slots := 0, locals := 90 }
set_option maxHeartbeats 4000000 in
set_option maxRecDepth 100000 in
theorem K_X7_readMore (l : Launch) {E : En} (hE : Inj E) (σ : Wd) (z : Ob) (a1 : Int32) {z' : Ob} (hf : f_X7_readMore z a1 = some z') : Ctv l E yX7_readMore wsX7_readMore rm_X7_readMore [.ref (E.ad 22 0), .int a1] (va_up σ 22 z)  (va_up σ 22 z') := by
  refine meet_v (cc := cX7_readMore) (maxL := 3) (own := RX7) (by decide) rfl rfl (Nat.le_of_ble_eq_true rfl) ?_
  intro p e s m below meth c Z S hB fin hP hS ls hl
  have hx := S.1
  have hb := S.2.1
  have hl : lv_has ls 3 [(0, .ref (E.ad 22 0)), (1, .int a1)] := hl
  have hinX7 : ∀ w ∈ u_ws RX7 TX7 25, w ∈ wsX7_readMore := by decide +kernel
  have fl13 := S.2.2.2.2 (.fieldLink RX7 13 "MownMazeModel" "readPage" "[I") (by decide +kernel)
  unfold f_X7_readMore at hf
  refine lv_iload_n hx hb dX7_readMore_0 rfl (lv_at hl 1 rfl) ?_
  refine lv_iconst (v := 3) hx hb dX7_readMore_1 (by decide) ?_
  refine lv_icmp_gt (tgt := 69) hx hb dX7_readMore_2 (by decide) (fun c1 => ?_) (fun c1 => ?_)
  · have hf := if_t c1 hf
    refine lv_iload_n hx hb dX7_readMore_69 rfl (lv_at hl 1 rfl) ?_
    refine lv_iconst (v := 4) hx hb dX7_readMore_70 (by decide) ?_
    refine lv_icmp_ne (tgt := 128) hx hb dX7_readMore_71 (by decide) (fun c2 => ?_) (fun c2 => ?_)
    · have hf := if_f c2 hf
      refine lv_iload_n hx hb dX7_readMore_128 rfl (lv_at hl 1 rfl) ?_
      refine lv_iconst (v := 5) hx hb dX7_readMore_129 (by decide) ?_
      refine lv_icmp_ne (tgt := 140) hx hb dX7_readMore_130 (by decide) (fun c3 => ?_) (fun c3 => ?_)
      · have hf := if_f c3 hf
        refine lv_aload_n hx hb dX7_readMore_140 rfl (lv_at hl 0 rfl) ?_
        refine g_get (v := .ref (E.ad 22 2)) S hB hinX7 hP m_22_0 rfl rfl 1 (by decide) fl13 rfl rfl dX7_readMore_141 ?_
        refine lv_bipush (v := 24) hx hb dX7_readMore_144 (by decide) ?_
        refine lv_aload_n hx hb dX7_readMore_146 rfl (lv_at hl 0 rfl) ?_
        refine lv_iconst (v := 0) hx hb dX7_readMore_147 (by decide) ?_
        refine lv_bipush (v := 15) hx hb dX7_readMore_148 (by decide) ?_
        obtain ⟨q4, hq4, hf⟩ := bind_some hf
        refine callV_i (As := [.int (0 : Int32), .int (15 : Int32)]) (rest := [.int (24 : Int32), .ref (E.ad 22 2)]) S hB hP hS (C := RX7) (b := E.ad 22 0) (g_recv (o := 22) (d := 0) hB hP m_22_0 rfl rfl) (K_X7_number l hE σ z (0 : Int32) (15 : Int32) hq4) (cwV 2 S.2.2.2.2 gX7_readMore_X7_number rfl rfl rfl (by decide +kernel) ⟨Nat.le_of_ble_eq_true rfl, Nat.le_of_ble_eq_true rfl⟩) rfl hl.1 rfl (Nat.le_of_ble_eq_true rfl) dX7_readMore_150 ⟨Nat.zero_le _, Nat.zero_le _⟩ (fun H locs hP hS => ?_)
        refine g_iast (r := q4.2 2) S hB hE hP hS m_22_2 rfl rfl (fun _ => rfl) (by unfold vp_in; decide) (X' := (va_up σ 22 (ob q4.2 2 24 q4.1))) (lens_put σ 22 _ _ _ _) dX7_readMore_153 (fun H locs hP hS => ?_)
        exact fin dX7_readMore_154  (by rw [(s0 hf)]) hP hS
      · have hf := if_t c3 hf
        refine lv_aload_n hx hb dX7_readMore_133 rfl (lv_at hl 0 rfl) ?_
        obtain ⟨q5, hq5, hf⟩ := bind_some hf
        refine callV_v (As := []) (rest := []) S hB hP hS (C := RX7) (b := E.ad 22 0) (g_recv (o := 22) (d := 0) hB hP m_22_0 rfl rfl) (K_X7_readHedges l hE σ z hq5) (cwV 0 S.2.2.2.2 gX7_readMore_X7_readHedges rfl rfl rfl (by decide +kernel) ⟨Nat.le_of_ble_eq_true rfl, Nat.le_of_ble_eq_true rfl⟩) rfl hl.1 rfl (Nat.le_of_ble_eq_true rfl) dX7_readMore_134 ⟨Nat.zero_le _, Nat.zero_le _⟩ (fun H locs hP hS => ?_)
        refine lv_goto (tgt := 154) hx hb dX7_readMore_137 (by decide) ?_
        exact fin dX7_readMore_154  (by rw [(s0 hf)]) hP hS
    · have hf := if_t c2 hf
      refine lv_aload_n hx hb dX7_readMore_74 rfl (lv_at hl 0 rfl) ?_
      refine g_get (v := .ref (E.ad 22 2)) S hB hinX7 hP m_22_0 rfl rfl 1 (by decide) fl13 rfl rfl dX7_readMore_75 ?_
      refine lv_bipush (v := 51) hx hb dX7_readMore_78 (by decide) ?_
      refine g_iald (r := z 2) S hB hP m_22_2 rfl (by unfold vp_in; decide) dX7_readMore_80 ?_
      refine lv_istore_n (lv' := [(2, .int (z 2 51)), (0, .ref (E.ad 22 0)), (1, .int a1)]) hx hb dX7_readMore_81 rfl hl (by decide) rfl (fun ls hl => ?_)
      refine lv_aload_n hx hb dX7_readMore_82 rfl (lv_at hl 1 rfl) ?_
      refine g_get (v := .ref (E.ad 22 2)) S hB hinX7 hP m_22_0 rfl rfl 1 (by decide) fl13 rfl rfl dX7_readMore_83 ?_
      refine lv_bipush (v := 39) hx hb dX7_readMore_86 (by decide) ?_
      refine lv_iload_n hx hb dX7_readMore_88 rfl (lv_at hl 0 rfl) ?_
      refine lv_iadd hx hb dX7_readMore_89 ?_
      refine lv_aload_n hx hb dX7_readMore_90 rfl (lv_at hl 1 rfl) ?_
      refine lv_iconst (v := 0) hx hb dX7_readMore_91 (by decide) ?_
      refine lv_bipush (v := 15) hx hb dX7_readMore_92 (by decide) ?_
      obtain ⟨q6, hq6, hf⟩ := bind_some hf
      refine callV_i (As := [.int (0 : Int32), .int (15 : Int32)]) (rest := [.int ((39 : Int32) + (z 2 51)), .ref (E.ad 22 2)]) S hB hP hS (C := RX7) (b := E.ad 22 0) (g_recv (o := 22) (d := 0) hB hP m_22_0 rfl rfl) (K_X7_number l hE σ z (0 : Int32) (15 : Int32) hq6) (cwV 2 S.2.2.2.2 gX7_readMore_X7_number rfl rfl rfl (by decide +kernel) ⟨Nat.le_of_ble_eq_true rfl, Nat.le_of_ble_eq_true rfl⟩) rfl hl.1 rfl (Nat.le_of_ble_eq_true rfl) dX7_readMore_94 ⟨Nat.zero_le _, Nat.zero_le _⟩ (fun H locs hP hS => ?_)
      obtain ⟨hv7, hf⟩ := ck_some hf
      refine g_iast (r := q6.2 2) S hB hE hP hS m_22_2 rfl rfl (fun _ => rfl) hv7 (X' := (va_up σ 22 (ob q6.2 2 (((39 : Int32) + (z 2 51)).toNatClampNeg) q6.1))) (lens_put σ 22 _ _ _ _) dX7_readMore_97 (fun H locs hP hS => ?_)
      refine lv_aload_n hx hb dX7_readMore_98 rfl (lv_at hl 1 rfl) ?_
      refine g_get (v := .ref (E.ad 22 2)) S hB hinX7 hP m_22_0 rfl rfl 1 (by decide) fl13 rfl rfl dX7_readMore_99 ?_
      refine lv_bipush (v := 43) hx hb dX7_readMore_102 (by decide) ?_
      refine lv_iload_n hx hb dX7_readMore_104 rfl (lv_at hl 0 rfl) ?_
      refine lv_iadd hx hb dX7_readMore_105 ?_
      refine lv_aload_n hx hb dX7_readMore_106 rfl (lv_at hl 1 rfl) ?_
      refine lv_iconst (v := 0) hx hb dX7_readMore_107 (by decide) ?_
      refine lv_bipush (v := 60) hx hb dX7_readMore_108 (by decide) ?_
      obtain ⟨q8, hq8, hf⟩ := bind_some hf
      refine callV_i (As := [.int (0 : Int32), .int (60 : Int32)]) (rest := [.int ((43 : Int32) + (z 2 51)), .ref (E.ad 22 2)]) S hB hP hS (C := RX7) (b := E.ad 22 0) (g_recv (o := 22) (d := 0) hB hP m_22_0 rfl rfl) (K_X7_number l hE σ (ob q6.2 2 (((39 : Int32) + (z 2 51)).toNatClampNeg) q6.1) (0 : Int32) (60 : Int32) hq8) (cwV 2 S.2.2.2.2 gX7_readMore_X7_number rfl rfl rfl (by decide +kernel) ⟨Nat.le_of_ble_eq_true rfl, Nat.le_of_ble_eq_true rfl⟩) rfl hl.1 rfl (Nat.le_of_ble_eq_true rfl) dX7_readMore_110 ⟨Nat.zero_le _, Nat.zero_le _⟩ (fun H locs hP hS => ?_)
      obtain ⟨hv9, hf⟩ := ck_some hf
      refine g_iast (r := q8.2 2) S hB hE hP hS m_22_2 rfl rfl (fun _ => rfl) hv9 (X' := (va_up σ 22 (ob q8.2 2 (((43 : Int32) + (z 2 51)).toNatClampNeg) q8.1))) (lens_put σ 22 _ _ _ _) dX7_readMore_113 (fun H locs hP hS => ?_)
      refine lv_aload_n hx hb dX7_readMore_114 rfl (lv_at hl 1 rfl) ?_
      refine g_get (v := .ref (E.ad 22 2)) S hB hinX7 hP m_22_0 rfl rfl 1 (by decide) fl13 rfl rfl dX7_readMore_115 ?_
      refine lv_bipush (v := 51) hx hb dX7_readMore_118 (by decide) ?_
      refine lv_dup2_11 hx hb dX7_readMore_120 rfl rfl ?_
      refine g_iald (r := (ob q8.2 2 (((43 : Int32) + (z 2 51)).toNatClampNeg) q8.1) 2) S hB hP m_22_2 rfl (by unfold vp_in; decide) dX7_readMore_121 ?_
      refine lv_iconst (v := 1) hx hb dX7_readMore_122 (by decide) ?_
      refine lv_iadd hx hb dX7_readMore_123 ?_
      refine g_iast (r := (ob q8.2 2 (((43 : Int32) + (z 2 51)).toNatClampNeg) q8.1) 2) S hB hE hP hS m_22_2 rfl rfl (fun _ => rfl) (by unfold vp_in; decide) (X' := (va_up σ 22 (ob (ob q8.2 2 (((43 : Int32) + (z 2 51)).toNatClampNeg) q8.1) 2 51 (((ob q8.2 2 (((43 : Int32) + (z 2 51)).toNatClampNeg) q8.1) 2 51) + (1 : Int32))))) (lens_put σ 22 _ _ _ _) dX7_readMore_124 (fun H locs hP hS => ?_)
      refine lv_goto (tgt := 154) hx hb dX7_readMore_125 (by decide) ?_
      exact fin dX7_readMore_154  (by rw [(s0 hf)]) hP hS
  · have hf := if_f c1 hf
    refine lv_aload_n hx hb dX7_readMore_5 rfl (lv_at hl 0 rfl) ?_
    refine g_get (v := .ref (E.ad 22 2)) S hB hinX7 hP m_22_0 rfl rfl 1 (by decide) fl13 rfl rfl dX7_readMore_6 ?_
    refine lv_bipush (v := 37) hx hb dX7_readMore_9 (by decide) ?_
    refine g_iald (r := z 2) S hB hP m_22_2 rfl (by unfold vp_in; decide) dX7_readMore_11 ?_
    refine lv_istore_n (lv' := [(2, .int (z 2 37)), (0, .ref (E.ad 22 0)), (1, .int a1)]) hx hb dX7_readMore_12 rfl hl (by decide) rfl (fun ls hl => ?_)
    refine lv_aload_n hx hb dX7_readMore_13 rfl (lv_at hl 1 rfl) ?_
    refine g_get (v := .ref (E.ad 22 2)) S hB hinX7 hP m_22_0 rfl rfl 1 (by decide) fl13 rfl rfl dX7_readMore_14 ?_
    refine lv_bipush (v := 25) hx hb dX7_readMore_17 (by decide) ?_
    refine lv_iload_n hx hb dX7_readMore_19 rfl (lv_at hl 0 rfl) ?_
    refine lv_iadd hx hb dX7_readMore_20 ?_
    refine lv_iload_n hx hb dX7_readMore_21 rfl (lv_at hl 2 rfl) ?_
    obtain ⟨hv10, hf⟩ := ck_some hf
    refine g_iast (r := z 2) S hB hE hP hS m_22_2 rfl rfl (fun _ => rfl) hv10 (X' := (va_up σ 22 (ob z 2 (((25 : Int32) + (z 2 37)).toNatClampNeg) a1))) (lens_put σ 22 _ _ _ _) dX7_readMore_22 (fun H locs hP hS => ?_)
    refine lv_aload_n hx hb dX7_readMore_23 rfl (lv_at hl 1 rfl) ?_
    refine g_get (v := .ref (E.ad 22 2)) S hB hinX7 hP m_22_0 rfl rfl 1 (by decide) fl13 rfl rfl dX7_readMore_24 ?_
    refine lv_bipush (v := 29) hx hb dX7_readMore_27 (by decide) ?_
    refine lv_iload_n hx hb dX7_readMore_29 rfl (lv_at hl 0 rfl) ?_
    refine lv_iadd hx hb dX7_readMore_30 ?_
    refine lv_aload_n hx hb dX7_readMore_31 rfl (lv_at hl 1 rfl) ?_
    refine lv_iconst (v := 0) hx hb dX7_readMore_32 (by decide) ?_
    refine lv_bipush (v := 23) hx hb dX7_readMore_33 (by decide) ?_
    obtain ⟨q11, hq11, hf⟩ := bind_some hf
    refine callV_i (As := [.int (0 : Int32), .int (23 : Int32)]) (rest := [.int ((29 : Int32) + (z 2 37)), .ref (E.ad 22 2)]) S hB hP hS (C := RX7) (b := E.ad 22 0) (g_recv (o := 22) (d := 0) hB hP m_22_0 rfl rfl) (K_X7_number l hE σ (ob z 2 (((25 : Int32) + (z 2 37)).toNatClampNeg) a1) (0 : Int32) (23 : Int32) hq11) (cwV 2 S.2.2.2.2 gX7_readMore_X7_number rfl rfl rfl (by decide +kernel) ⟨Nat.le_of_ble_eq_true rfl, Nat.le_of_ble_eq_true rfl⟩) rfl hl.1 rfl (Nat.le_of_ble_eq_true rfl) dX7_readMore_35 ⟨Nat.zero_le _, Nat.zero_le _⟩ (fun H locs hP hS => ?_)
    obtain ⟨hv12, hf⟩ := ck_some hf
    refine g_iast (r := q11.2 2) S hB hE hP hS m_22_2 rfl rfl (fun _ => rfl) hv12 (X' := (va_up σ 22 (ob q11.2 2 (((29 : Int32) + (z 2 37)).toNatClampNeg) q11.1))) (lens_put σ 22 _ _ _ _) dX7_readMore_38 (fun H locs hP hS => ?_)
    refine lv_aload_n hx hb dX7_readMore_39 rfl (lv_at hl 1 rfl) ?_
    refine g_get (v := .ref (E.ad 22 2)) S hB hinX7 hP m_22_0 rfl rfl 1 (by decide) fl13 rfl rfl dX7_readMore_40 ?_
    refine lv_bipush (v := 33) hx hb dX7_readMore_43 (by decide) ?_
    refine lv_iload_n hx hb dX7_readMore_45 rfl (lv_at hl 0 rfl) ?_
    refine lv_iadd hx hb dX7_readMore_46 ?_
    refine lv_aload_n hx hb dX7_readMore_47 rfl (lv_at hl 1 rfl) ?_
    refine lv_iconst (v := 0) hx hb dX7_readMore_48 (by decide) ?_
    refine lv_bipush (v := 9) hx hb dX7_readMore_49 (by decide) ?_
    obtain ⟨q13, hq13, hf⟩ := bind_some hf
    refine callV_i (As := [.int (0 : Int32), .int (9 : Int32)]) (rest := [.int ((33 : Int32) + (z 2 37)), .ref (E.ad 22 2)]) S hB hP hS (C := RX7) (b := E.ad 22 0) (g_recv (o := 22) (d := 0) hB hP m_22_0 rfl rfl) (K_X7_number l hE σ (ob q11.2 2 (((29 : Int32) + (z 2 37)).toNatClampNeg) q11.1) (0 : Int32) (9 : Int32) hq13) (cwV 2 S.2.2.2.2 gX7_readMore_X7_number rfl rfl rfl (by decide +kernel) ⟨Nat.le_of_ble_eq_true rfl, Nat.le_of_ble_eq_true rfl⟩) rfl hl.1 rfl (Nat.le_of_ble_eq_true rfl) dX7_readMore_51 ⟨Nat.zero_le _, Nat.zero_le _⟩ (fun H locs hP hS => ?_)
    obtain ⟨hv14, hf⟩ := ck_some hf
    refine g_iast (r := q13.2 2) S hB hE hP hS m_22_2 rfl rfl (fun _ => rfl) hv14 (X' := (va_up σ 22 (ob q13.2 2 (((33 : Int32) + (z 2 37)).toNatClampNeg) q13.1))) (lens_put σ 22 _ _ _ _) dX7_readMore_54 (fun H locs hP hS => ?_)
    refine lv_aload_n hx hb dX7_readMore_55 rfl (lv_at hl 1 rfl) ?_
    refine g_get (v := .ref (E.ad 22 2)) S hB hinX7 hP m_22_0 rfl rfl 1 (by decide) fl13 rfl rfl dX7_readMore_56 ?_
    refine lv_bipush (v := 37) hx hb dX7_readMore_59 (by decide) ?_
    refine lv_dup2_11 hx hb dX7_readMore_61 rfl rfl ?_
    refine g_iald (r := (ob q13.2 2 (((33 : Int32) + (z 2 37)).toNatClampNeg) q13.1) 2) S hB hP m_22_2 rfl (by unfold vp_in; decide) dX7_readMore_62 ?_
    refine lv_iconst (v := 1) hx hb dX7_readMore_63 (by decide) ?_
    refine lv_iadd hx hb dX7_readMore_64 ?_
    refine g_iast (r := (ob q13.2 2 (((33 : Int32) + (z 2 37)).toNatClampNeg) q13.1) 2) S hB hE hP hS m_22_2 rfl rfl (fun _ => rfl) (by unfold vp_in; decide) (X' := (va_up σ 22 (ob (ob q13.2 2 (((33 : Int32) + (z 2 37)).toNatClampNeg) q13.1) 2 37 (((ob q13.2 2 (((33 : Int32) + (z 2 37)).toNatClampNeg) q13.1) 2 37) + (1 : Int32))))) (lens_put σ 22 _ _ _ _) dX7_readMore_65 (fun H locs hP hS => ?_)
    refine lv_goto (tgt := 154) hx hb dX7_readMore_66 (by decide) ?_
    exact fin dX7_readMore_154  (by rw [(s0 hf)]) hP hS
theorem KW_X7_readMore (l : Launch) {E : En} (hE : Inj E) (X : Wd) (a1 : Int32) {z' : Ob} (hf : f_X7_readMore (X 22) a1 = some z') : Ctv l E yX7_readMore wsX7_readMore rm_X7_readMore [.ref (E.ad 22 0), .int a1] X  (va_up X 22 z') := by
  have h := K_X7_readMore l hE X (X 22) a1 hf
  rw [lens_all] at h
  exact h
