/-! X0_above -/
abbrev rm_X0_above : Room := { frames := 0, cells := 0, slots := 0, locals := 0 }
set_option maxHeartbeats 4000000 in
set_option maxRecDepth 100000 in
theorem K_X0_above (l : Launch) {E : En} (hE : Inj E) (σ : Wd) (z : Ob) (a1 : Int32) {z' : Ob} (hf : f_X0_above z a1 = some z') : Ctv l E yX0_above wsX0_above rm_X0_above [.ref (E.ad 3 0), .int a1] (va_up σ 3 z)  (va_up σ 3 z') := by
  refine meet_v (cc := cX0_above) (maxL := 2) (own := RX0) (by decide) rfl rfl (Nat.le_of_ble_eq_true rfl) ?_
  intro p e s m below meth c Z S hB fin hP hS ls hl
  have hx := S.1
  have hb := S.2.1
  have hl : lv_has ls 2 [(0, .ref (E.ad 3 0)), (1, .int a1)] := hl
  have hinX0 : ∀ w ∈ u_ws RX0 TX0 2, w ∈ wsX0_above := by decide +kernel
  have fl9 := S.2.2.2.2 (.fieldLink RX0 9 "MownMaze$Best" "which" "I") (by decide +kernel)
  have fl15 := S.2.2.2.2 (.fieldLink RX0 15 "MownMaze$Best" "outs" "I") (by decide +kernel)
  unfold f_X0_above at hf
  refine lv_aload_n hx hb dX0_above_0 rfl (lv_at hl 0 rfl) ?_
  refine lv_bipush (v := -4) hx hb dX0_above_1 (by decide) ?_
  refine g_put S hB hE hinX0 tyX0 tyX0_ok nmX0 hP hS m_3_0 rfl rfl 0 (by decide) fl9 rfl rfl rfl rfl (Nat.le_of_ble_eq_true rfl) (by exact (fun _ => rfl) _) (X' := (va_up σ 3 (ob z 0 0 (-4 : Int32)))) (lens_put σ 3 _ _ _ _) dX0_above_3 (fun H locs hP hS => ?_)
  refine lv_aload_n hx hb dX0_above_6 rfl (lv_at hl 0 rfl) ?_
  refine lv_iload_n hx hb dX0_above_7 rfl (lv_at hl 1 rfl) ?_
  refine g_put S hB hE hinX0 tyX0 tyX0_ok nmX0 hP hS m_3_0 rfl rfl 1 (by decide) fl15 rfl rfl rfl rfl (Nat.le_of_ble_eq_true rfl) (by exact (fun _ => rfl) _) (X' := (va_up σ 3 (ob (ob z 0 0 (-4 : Int32)) 0 1 a1))) (lens_put σ 3 _ _ _ _) dX0_above_8 (fun H locs hP hS => ?_)
  exact fin dX0_above_11  (by rw [(s0 hf)]) hP hS
theorem KW_X0_above (l : Launch) {E : En} (hE : Inj E) (X : Wd) (a1 : Int32) {z' : Ob} (hf : f_X0_above (X 3) a1 = some z') : Ctv l E yX0_above wsX0_above rm_X0_above [.ref (E.ad 3 0), .int a1] X  (va_up X 3 z') := by
  have h := K_X0_above l hE X (X 3) a1 hf
  rw [lens_all] at h
  exact h
/-! X0_offer -/
abbrev rm_X0_offer : Room := { frames := 0, cells := 0, slots := 0, locals := 0 }
set_option maxHeartbeats 4000000 in
set_option maxRecDepth 100000 in
theorem K_X0_offer (l : Launch) {E : En} (hE : Inj E) (σ : Wd) (z : Ob) (a1 : Int32) (a2 : Int32) {z' : Ob} (hf : f_X0_offer z a1 a2 = some z') : Ctv l E yX0_offer wsX0_offer rm_X0_offer [.ref (E.ad 3 0), .int a1, .int a2] (va_up σ 3 z)  (va_up σ 3 z') := by
  refine meet_v (cc := cX0_offer) (maxL := 3) (own := RX0) (by decide) rfl rfl (Nat.le_of_ble_eq_true rfl) ?_
  intro p e s m below meth c Z S hB fin hP hS ls hl
  have hx := S.1
  have hb := S.2.1
  have hl : lv_has ls 3 [(0, .ref (E.ad 3 0)), (1, .int a1), (2, .int a2)] := hl
  have hinX0 : ∀ w ∈ u_ws RX0 TX0 2, w ∈ wsX0_offer := by decide +kernel
  have fl9 := S.2.2.2.2 (.fieldLink RX0 9 "MownMaze$Best" "which" "I") (by decide +kernel)
  have fl15 := S.2.2.2.2 (.fieldLink RX0 15 "MownMaze$Best" "outs" "I") (by decide +kernel)
  unfold f_X0_offer at hf
  refine lv_iload_n hx hb dX0_offer_0 rfl (lv_at hl 2 rfl) ?_
  refine lv_aload_n hx hb dX0_offer_1 rfl (lv_at hl 0 rfl) ?_
  refine g_get (v := .int (z 0 1)) S hB hinX0 hP m_3_0 rfl rfl 1 (by decide) fl15 rfl rfl dX0_offer_2 ?_
  refine lv_icmp_le (tgt := 18) hx hb dX0_offer_5 (by decide) (fun c1 => ?_) (fun c1 => ?_)
  · have hf := if_t c1 hf
    exact fin dX0_offer_18  (by rw [(s0 hf)]) hP hS
  · have hf := if_f c1 hf
    refine lv_aload_n hx hb dX0_offer_8 rfl (lv_at hl 0 rfl) ?_
    refine lv_iload_n hx hb dX0_offer_9 rfl (lv_at hl 1 rfl) ?_
    refine g_put S hB hE hinX0 tyX0 tyX0_ok nmX0 hP hS m_3_0 rfl rfl 0 (by decide) fl9 rfl rfl rfl rfl (Nat.le_of_ble_eq_true rfl) (by exact (fun _ => rfl) _) (X' := (va_up σ 3 (ob z 0 0 a1))) (lens_put σ 3 _ _ _ _) dX0_offer_10 (fun H locs hP hS => ?_)
    refine lv_aload_n hx hb dX0_offer_13 rfl (lv_at hl 0 rfl) ?_
    refine lv_iload_n hx hb dX0_offer_14 rfl (lv_at hl 2 rfl) ?_
    refine g_put S hB hE hinX0 tyX0 tyX0_ok nmX0 hP hS m_3_0 rfl rfl 1 (by decide) fl15 rfl rfl rfl rfl (Nat.le_of_ble_eq_true rfl) (by exact (fun _ => rfl) _) (X' := (va_up σ 3 (ob (ob z 0 0 a1) 0 1 a2))) (lens_put σ 3 _ _ _ _) dX0_offer_15 (fun H locs hP hS => ?_)
    exact fin dX0_offer_18  (by rw [(s0 hf)]) hP hS
theorem KW_X0_offer (l : Launch) {E : En} (hE : Inj E) (X : Wd) (a1 : Int32) (a2 : Int32) {z' : Ob} (hf : f_X0_offer (X 3) a1 a2 = some z') : Ctv l E yX0_offer wsX0_offer rm_X0_offer [.ref (E.ad 3 0), .int a1, .int a2] X  (va_up X 3 z') := by
  have h := K_X0_offer l hE X (X 3) a1 a2 hf
  rw [lens_all] at h
  exact h
/-! X0_told -/
abbrev rm_X0_told : Room := { frames := 0, cells := 0, slots := 0, locals := 0 }
set_option maxHeartbeats 4000000 in
set_option maxRecDepth 100000 in
theorem K_X0_told (l : Launch) {E : En} (hE : Inj E) (σ : Wd) (z : Ob) (a1 : Int32) {r : Int32} (hf : f_X0_told z a1 = some r) : Cti l E yX0_told wsX0_told rm_X0_told [.ref (E.ad 3 0), .int a1] (va_up σ 3 z) r (va_up σ 3 z) := by
  refine meet_i (cc := cX0_told) (maxL := 2) (own := RX0) (by decide) rfl rfl (Nat.le_of_ble_eq_true rfl) ?_
  intro p e s m below meth c Z S hB fin hP hS ls hl
  have hx := S.1
  have hb := S.2.1
  have hl : lv_has ls 2 [(0, .ref (E.ad 3 0)), (1, .int a1)] := hl
  have hinX0 : ∀ w ∈ u_ws RX0 TX0 2, w ∈ wsX0_told := by decide +kernel
  have fl9 := S.2.2.2.2 (.fieldLink RX0 9 "MownMaze$Best" "which" "I") (by decide +kernel)
  have fl15 := S.2.2.2.2 (.fieldLink RX0 15 "MownMaze$Best" "outs" "I") (by decide +kernel)
  have hB13 : ∀ (H : Heap) (locs : List Loc) (ls : Array Slot), f_X0_told_b13 z = some r → va_P E.1 vwCl (GW E (va_up σ 3 z)) H → va_S (GA E) s.heap H locs → lv_has ls 2 [(0, .ref (E.ad 3 0))] → W p l e rm_X0_told s m ([.ref (E.ad 3 0), .int a1] : List Value).toArray below meth c H locs 0 0 Z (F0 m 13 ls []) := by
    intro  H locs ls hf hP hS hl
    unfold f_X0_told_b13 at hf
    refine lv_aload_n hx hb dX0_told_13 rfl (lv_at hl 0 rfl) ?_
    refine g_get (v := .int (z 0 0)) S hB hinX0 hP m_3_0 rfl rfl 0 (by decide) fl9 rfl rfl dX0_told_14 ?_
    refine lv_goto (tgt := 24) hx hb dX0_told_17 (by decide) ?_
    exact fin dX0_told_24 (s0 hf) rfl hP hS
  unfold f_X0_told at hf
  refine lv_aload_n hx hb dX0_told_0 rfl (lv_at hl 0 rfl) ?_
  refine g_get (v := .int (z 0 0)) S hB hinX0 hP m_3_0 rfl rfl 0 (by decide) fl9 rfl rfl dX0_told_1 ?_
  refine lv_bipush (v := -4) hx hb dX0_told_4 (by decide) ?_
  refine lv_icmp_eq (tgt := 13) hx hb dX0_told_6 (by decide) (fun c1 => ?_) (fun c1 => ?_)
  · have hf := if_t c1 hf
    exact hB13 _ _ _ hf hP hS (lv_sub hl [0] rfl)
  · have hf := if_f c1 hf
    refine lv_iload_n hx hb dX0_told_9 rfl (lv_at hl 1 rfl) ?_
    refine lv_if_ne (tgt := 20) hx hb dX0_told_10 (by decide) (fun c2 => ?_) (fun c2 => ?_)
    · have hf := if_f c2 hf
      refine lv_aload_n hx hb dX0_told_20 rfl (lv_at hl 0 rfl) ?_
      refine g_get (v := .int (z 0 1)) S hB hinX0 hP m_3_0 rfl rfl 1 (by decide) fl15 rfl rfl dX0_told_21 ?_
      exact fin dX0_told_24 (s0 hf) rfl hP hS
    · have hf := if_t c2 hf
      exact hB13 _ _ _ hf hP hS (lv_sub hl [0] rfl)
theorem KW_X0_told (l : Launch) {E : En} (hE : Inj E) (X : Wd) (a1 : Int32) {r : Int32} (hf : f_X0_told (X 3) a1 = some r) : Cti l E yX0_told wsX0_told rm_X0_told [.ref (E.ad 3 0), .int a1] X r X := by
  have h := K_X0_told l hE X (X 3) a1 hf
  rw [lens_all] at h
  exact h
/-! X4_note -/
abbrev rm_X4_note : Room := { frames := 0, cells := 0, slots := 0, locals := 0 }
set_option maxHeartbeats 4000000 in
set_option maxRecDepth 100000 in
theorem K_X4_note (l : Launch) {E : En} (hE : Inj E) (σ : Wd) (z : Ob) (a1 : Int32) (a2 : Int32) (a3 : Int32) {r : Int32} {z' : Ob} (hf : f_X4_note z a1 a2 a3 = some (r, z')) : Cti l E yX4_note wsX4_note rm_X4_note [.ref (E.ad 2 0), .int a1, .int a2, .int a3] (va_up σ 2 z) r (va_up σ 2 z') := by
  refine meet_z (cc := cX4_note) (maxL := 4) (own := RX4) (by decide) rfl rfl (Nat.le_of_ble_eq_true rfl) ?_
  intro p e s m below meth c Z S hB fin hP hS ls hl
  have hx := S.1
  have hb := S.2.1
  have hl : lv_has ls 4 [(0, .ref (E.ad 2 0)), (1, .int a1), (2, .int a2), (3, .int a3)] := hl
  have hinX4 : ∀ w ∈ u_ws RX4 TX4 6, w ∈ wsX4_note := by decide +kernel
  have fl9 := S.2.2.2.2 (.fieldLink RX4 9 "MownMaze$Seen" "size" "I") (by decide +kernel)
  have fl15 := S.2.2.2.2 (.fieldLink RX4 15 "MownMaze$Seen" "behind" "[I") (by decide +kernel)
  have fl19 := S.2.2.2.2 (.fieldLink RX4 19 "MownMaze$Seen" "where" "[I") (by decide +kernel)
  have fl22 := S.2.2.2.2 (.fieldLink RX4 22 "MownMaze$Seen" "stood" "[I") (by decide +kernel)
  unfold f_X4_note at hf
  refine lv_aload_n hx hb dX4_note_0 rfl (lv_at hl 0 rfl) ?_
  refine g_get (v := .int (z 0 0)) S hB hinX4 hP m_2_0 rfl rfl 0 (by decide) fl9 rfl rfl dX4_note_1 ?_
  refine lv_bipush (v := 6) hx hb dX4_note_4 (by decide) ?_
  refine lv_icmp_lt (tgt := 11) hx hb dX4_note_6 (by decide) (fun c1 => ?_) (fun c1 => ?_)
  · have hf := if_t c1 hf
    refine lv_aload_n hx hb dX4_note_11 rfl (lv_at hl 0 rfl) ?_
    refine g_get (v := .ref (E.ad 2 1)) S hB hinX4 hP m_2_0 rfl rfl 1 (by decide) fl15 rfl rfl dX4_note_12 ?_
    refine lv_aload_n hx hb dX4_note_15 rfl (lv_at hl 0 rfl) ?_
    refine g_get (v := .int (z 0 0)) S hB hinX4 hP m_2_0 rfl rfl 0 (by decide) fl9 rfl rfl dX4_note_16 ?_
    refine lv_iload_n hx hb dX4_note_19 rfl (lv_at hl 1 rfl) ?_
    obtain ⟨hv2, hf⟩ := ck_some hf
    refine g_iast (r := z 1) S hB hE hP hS m_2_1 rfl rfl (fun _ => rfl) hv2 (X' := (va_up σ 2 (ob z 1 ((z 0 0).toNatClampNeg) a1))) (lens_put σ 2 _ _ _ _) dX4_note_20 (fun H locs hP hS => ?_)
    refine lv_aload_n hx hb dX4_note_21 rfl (lv_at hl 0 rfl) ?_
    refine g_get (v := .ref (E.ad 2 2)) S hB hinX4 hP m_2_0 rfl rfl 2 (by decide) fl19 rfl rfl dX4_note_22 ?_
    refine lv_aload_n hx hb dX4_note_25 rfl (lv_at hl 0 rfl) ?_
    refine g_get (v := .int (z 0 0)) S hB hinX4 hP m_2_0 rfl rfl 0 (by decide) fl9 rfl rfl dX4_note_26 ?_
    refine lv_iload_n hx hb dX4_note_29 rfl (lv_at hl 2 rfl) ?_
    obtain ⟨hv3, hf⟩ := ck_some hf
    refine g_iast (r := (ob z 1 ((z 0 0).toNatClampNeg) a1) 2) S hB hE hP hS m_2_2 rfl rfl (fun _ => rfl) hv3 (X' := (va_up σ 2 (ob (ob z 1 ((z 0 0).toNatClampNeg) a1) 2 ((z 0 0).toNatClampNeg) a2))) (lens_put σ 2 _ _ _ _) dX4_note_30 (fun H locs hP hS => ?_)
    refine lv_aload_n hx hb dX4_note_31 rfl (lv_at hl 0 rfl) ?_
    refine g_get (v := .ref (E.ad 2 3)) S hB hinX4 hP m_2_0 rfl rfl 3 (by decide) fl22 rfl rfl dX4_note_32 ?_
    refine lv_aload_n hx hb dX4_note_35 rfl (lv_at hl 0 rfl) ?_
    refine g_get (v := .int (z 0 0)) S hB hinX4 hP m_2_0 rfl rfl 0 (by decide) fl9 rfl rfl dX4_note_36 ?_
    refine lv_iload_n hx hb dX4_note_39 rfl (lv_at hl 3 rfl) ?_
    obtain ⟨hv4, hf⟩ := ck_some hf
    refine g_iast (r := (ob (ob z 1 ((z 0 0).toNatClampNeg) a1) 2 ((z 0 0).toNatClampNeg) a2) 3) S hB hE hP hS m_2_3 rfl rfl (fun _ => rfl) hv4 (X' := (va_up σ 2 (ob (ob (ob z 1 ((z 0 0).toNatClampNeg) a1) 2 ((z 0 0).toNatClampNeg) a2) 3 ((z 0 0).toNatClampNeg) a3))) (lens_put σ 2 _ _ _ _) dX4_note_40 (fun H locs hP hS => ?_)
    refine lv_aload_n hx hb dX4_note_41 rfl (lv_at hl 0 rfl) ?_
    refine lv_dup hx hb dX4_note_42 rfl ?_
    refine g_get (v := .int (z 0 0)) S hB hinX4 hP m_2_0 rfl rfl 0 (by decide) fl9 rfl rfl dX4_note_43 ?_
    refine lv_iconst (v := 1) hx hb dX4_note_46 (by decide) ?_
    refine lv_iadd hx hb dX4_note_47 ?_
    refine g_put S hB hE hinX4 tyX4 tyX4_ok nmX4 hP hS m_2_0 rfl rfl 0 (by decide) fl9 rfl rfl rfl rfl (Nat.le_of_ble_eq_true rfl) (by exact (fun _ => rfl) _) (X' := (va_up σ 2 (ob (ob (ob (ob z 1 ((z 0 0).toNatClampNeg) a1) 2 ((z 0 0).toNatClampNeg) a2) 3 ((z 0 0).toNatClampNeg) a3) 0 0 ((z 0 0) + (1 : Int32))))) (lens_put σ 2 _ _ _ _) dX4_note_48 (fun H locs hP hS => ?_)
    refine lv_iconst (v := 1) hx hb dX4_note_51 (by decide) ?_
    exact fin dX4_note_52 (nz01 (by decide)) (s1 hf) (by rw [(s2 hf)]) hP hS
  · have hf := if_f c1 hf
    refine lv_iconst (v := 0) hx hb dX4_note_9 (by decide) ?_
    exact fin dX4_note_10 (nz01 (by decide)) (s1 hf) (by rw [(s2 hf)]) hP hS
theorem KW_X4_note (l : Launch) {E : En} (hE : Inj E) (X : Wd) (a1 : Int32) (a2 : Int32) (a3 : Int32) {r : Int32} {z' : Ob} (hf : f_X4_note (X 2) a1 a2 a3 = some (r, z')) : Cti l E yX4_note wsX4_note rm_X4_note [.ref (E.ad 2 0), .int a1, .int a2, .int a3] X r (va_up X 2 z') := by
  have h := K_X4_note l hE X (X 2) a1 a2 a3 hf
  rw [lens_all] at h
  exact h
/-! X4_fits -/
abbrev rm_X4_fits : Room := { frames := 4, cells := 0, slots := 0, locals := 85 }
set_option maxHeartbeats 4000000 in
set_option maxRecDepth 100000 in
theorem K_X4_fits (l : Launch) {E : En} (hE : Inj E) (σ : Wd) (z w : Ob) {r : Int32} {z' : Ob} {w' : Ob} (hf : f_X4_fits z w = some (r, z', w')) : Cti l E yX4_fits wsX4_fits rm_X4_fits [.ref (E.ad 2 0), .ref (E.ad 5 0)] (va_up (va_up σ 2 z) 5 w) r (va_up (va_up σ 2 z') 5 w') := by
  refine meet_z (cc := cX4_fits) (maxL := 3) (own := RX4) (by decide) rfl rfl (Nat.le_of_ble_eq_true rfl) ?_
  intro p e s m below meth c Z S hB fin hP hS ls hl
  have hx := S.1
  have hb := S.2.1
  have hl : lv_has ls 3 [(0, .ref (E.ad 2 0)), (1, .ref (E.ad 5 0))] := hl
  have hinX1 : ∀ w ∈ u_ws RX1 TX1 12, w ∈ wsX4_fits := by decide +kernel
  have hinX4 : ∀ w ∈ u_ws RX4 TX4 6, w ∈ wsX4_fits := by decide +kernel
  have fl9 := S.2.2.2.2 (.fieldLink RX4 9 "MownMaze$Seen" "size" "I") (by decide +kernel)
  have fl15 := S.2.2.2.2 (.fieldLink RX4 15 "MownMaze$Seen" "behind" "[I") (by decide +kernel)
  have fl19 := S.2.2.2.2 (.fieldLink RX4 19 "MownMaze$Seen" "where" "[I") (by decide +kernel)
  have fl22 := S.2.2.2.2 (.fieldLink RX4 22 "MownMaze$Seen" "stood" "[I") (by decide +kernel)
  have fl25 := S.2.2.2.2 (.fieldLink RX4 25 "MownMaze$Seen" "views" "[I") (by decide +kernel)
  have fl31 := S.2.2.2.2 (.fieldLink RX4 31 "MownMaze$Maze" "hedges" "I") (by decide +kernel)
  have hL30 : ∀ (n30 : Nat) (z : Ob) (w : Ob) (x2 : Int32) (H : Heap) (locs : List Loc) (ls : Array Slot), f_X4_fits_l30 n30 z w x2 = some (r, z', w') → va_P E.1 vwCl (GW E (va_up (va_up σ 2 z) 5 w)) H → va_S (GA E) s.heap H locs → lv_has ls 3 [(0, .ref (E.ad 2 0)), (2, .int x2)] → W p l e rm_X4_fits s m ([.ref (E.ad 2 0), .ref (E.ad 5 0)] : List Value).toArray below meth c H locs 0 0 Z (F0 m 30 ls []) := by
    intro n30
    induction n30 with
    | zero =>
      intro z w x2 H locs ls hf
      cases (show (none : Option _) = some _ from hf)
    | succ n30 ih30 =>
      intro z w x2 H locs ls hf hP hS hl
      unfold f_X4_fits_l30 at hf
      refine lv_iload_n hx hb dX4_fits_30 rfl (lv_at hl 1 rfl) ?_
      refine lv_aload_n hx hb dX4_fits_31 rfl (lv_at hl 0 rfl) ?_
      refine g_get (v := .int (z 0 0)) S hB hinX4 hP m_2_0 rfl rfl 0 (by decide) fl9 rfl rfl dX4_fits_32 ?_
      refine lv_icmp_ge (tgt := 75) hx hb dX4_fits_35 (by decide) (fun c1 => ?_) (fun c1 => ?_)
      · have hf := if_t c1 hf
        refine lv_iconst (v := 1) hx hb dX4_fits_75 (by decide) ?_
        exact fin dX4_fits_76 (nz01 (by decide)) (s1 hf) (by rw [(Prod.mk.inj (s2 hf)).1, (Prod.mk.inj (s2 hf)).2]) hP hS
      · have hf := if_f c1 hf
        refine lv_aload_n hx hb dX4_fits_38 rfl (lv_at hl 0 rfl) ?_
        refine g_get (v := .ref (E.ad 2 4)) S hB hinX4 hP m_2_0 rfl rfl 4 (by decide) fl25 rfl rfl dX4_fits_39 ?_
        refine lv_aload_n hx hb dX4_fits_42 rfl (lv_at hl 0 rfl) ?_
        refine g_get (v := .ref (E.ad 2 1)) S hB hinX4 hP m_2_0 rfl rfl 1 (by decide) fl15 rfl rfl dX4_fits_43 ?_
        refine lv_iload_n hx hb dX4_fits_46 rfl (lv_at hl 1 rfl) ?_
        obtain ⟨hv2, hf⟩ := ck_some hf
        refine g_iald (r := z 1) S hB hP m_2_1 rfl hv2 dX4_fits_47 ?_
        obtain ⟨hv3, hf⟩ := ck_some hf
        refine g_iald (r := z 4) S hB hP m_2_4 rfl hv3 dX4_fits_48 ?_
        refine W.eq (g2 := F0 m 49 ls [.int (z 4 ((z 1 x2.toNatClampNeg).toNatClampNeg))]) rfl ?_
        refine lv_aload_n hx hb dX4_fits_49 rfl (lv_at hl 0 rfl) ?_
        refine g_get (v := .ref (E.ad 2 2)) S hB hinX4 hP m_2_0 rfl rfl 2 (by decide) fl19 rfl rfl dX4_fits_50 ?_
        refine lv_iload_n hx hb dX4_fits_53 rfl (lv_at hl 1 rfl) ?_
        obtain ⟨hv4, hf⟩ := ck_some hf
        refine g_iald (r := z 2) S hB hP m_2_2 rfl hv4 dX4_fits_54 ?_
        refine lv_ishr hx hb dX4_fits_55 ?_
        refine lv_iconst (v := 1) hx hb dX4_fits_56 (by decide) ?_
        refine lv_iand hx hb dX4_fits_57 ?_
        refine lv_aload_n hx hb dX4_fits_58 rfl (lv_at hl 0 rfl) ?_
        refine g_get (v := .ref (E.ad 2 3)) S hB hinX4 hP m_2_0 rfl rfl 3 (by decide) fl22 rfl rfl dX4_fits_59 ?_
        refine lv_iload_n hx hb dX4_fits_62 rfl (lv_at hl 1 rfl) ?_
        obtain ⟨hv5, hf⟩ := ck_some hf
        refine g_iald (r := z 3) S hB hP m_2_3 rfl hv5 dX4_fits_63 ?_
        refine lv_icmp_eq (tgt := 69) hx hb dX4_fits_64 (by decide) (fun c6 => ?_) (fun c6 => ?_)
        · have hf := if_t c6 hf
          refine lv_iinc (v := x2 + (1 : Int32)) (lv' := [(2, .int (x2 + (1 : Int32))), (0, .ref (E.ad 2 0))]) hx hb dX4_fits_69 hl (k := 1) rfl rfl (by decide) rfl (fun ls hl => ?_)
          refine lv_goto (tgt := 30) hx hb dX4_fits_72 (by decide) ?_
          exact ih30 z w (x2 + (1 : Int32)) _ _ _ hf hP hS (lv_sub hl [1, 0] rfl)
        · have hf := if_f c6 hf
          refine lv_iconst (v := 0) hx hb dX4_fits_67 (by decide) ?_
          exact fin dX4_fits_68 (nz01 (by decide)) (s1 hf) (by rw [(Prod.mk.inj (s2 hf)).1, (Prod.mk.inj (s2 hf)).2]) hP hS
  have hL2 : ∀ (n2 : Nat) (z : Ob) (w : Ob) (x2 : Int32) (H : Heap) (locs : List Loc) (ls : Array Slot), f_X4_fits_l2 n2 z w x2 = some (r, z', w') → va_P E.1 vwCl (GW E (va_up (va_up σ 2 z) 5 w)) H → va_S (GA E) s.heap H locs → lv_has ls 3 [(0, .ref (E.ad 2 0)), (1, .ref (E.ad 5 0)), (2, .int x2)] → W p l e rm_X4_fits s m ([.ref (E.ad 2 0), .ref (E.ad 5 0)] : List Value).toArray below meth c H locs 0 0 Z (F0 m 2 ls []) := by
    intro n2
    induction n2 with
    | zero =>
      intro z w x2 H locs ls hf
      cases (show (none : Option _) = some _ from hf)
    | succ n2 ih2 =>
      intro z w x2 H locs ls hf hP hS hl
      unfold f_X4_fits_l2 at hf
      refine lv_iload_n hx hb dX4_fits_2 rfl (lv_at hl 2 rfl) ?_
      refine lv_bipush (v := 20) hx hb dX4_fits_3 (by decide) ?_
      refine lv_icmp_gt (tgt := 28) hx hb dX4_fits_5 (by decide) (fun c7 => ?_) (fun c7 => ?_)
      · have hf := if_t c7 hf
        refine lv_iconst (v := 0) hx hb dX4_fits_28 (by decide) ?_
        refine lv_istore_n (lv' := [(2, .int (0 : Int32)), (0, .ref (E.ad 2 0)), (1, .ref (E.ad 5 0))]) hx hb dX4_fits_29 rfl hl (by decide) rfl (fun ls hl => ?_)
        exact hL30 FUEL z w (0 : Int32) _ _ _ hf hP hS (lv_sub hl [1, 0] rfl)
      · have hf := if_f c7 hf
        refine lv_aload_n hx hb dX4_fits_8 rfl (lv_at hl 0 rfl) ?_
        refine g_get (v := .ref (E.ad 2 4)) S hB hinX4 hP m_2_0 rfl rfl 4 (by decide) fl25 rfl rfl dX4_fits_9 ?_
        refine lv_iload_n hx hb dX4_fits_12 rfl (lv_at hl 2 rfl) ?_
        refine lv_aload_n hx hb dX4_fits_13 rfl (lv_at hl 1 rfl) ?_
        refine g_get (v := .int (w 0 0)) S hB hinX1 hP m_5_0 rfl rfl 0 (by decide) fl31 rfl rfl dX4_fits_14 ?_
        obtain ⟨hv8, hf⟩ := ck_some hf
        refine g_iast (r := z 4) S hB hE hP hS m_2_4 rfl rfl (fun _ => rfl) hv8 (X' := (va_up (va_up σ 2 (ob z 4 x2.toNatClampNeg (w 0 0))) 5 w)) (lens_put1 σ (by decide) _ _ _ _ _) dX4_fits_17 (fun H locs hP hS => ?_)
        refine lv_aload_n hx hb dX4_fits_18 rfl (lv_at hl 1 rfl) ?_
        obtain ⟨q9, hq9, hf⟩ := bind_some hf
        refine callV_v (As := []) (rest := []) S hB hP hS (C := RX1) (b := E.ad 5 0) (g_recv (o := 5) (d := 0) hB hP m_5_0 rfl rfl) (K_X1_passDayOfGardeners l hE (va_up σ 2 (ob z 4 x2.toNatClampNeg (w 0 0))) (by decide) (by decide) w hq9) (cwV 0 S.2.2.2.2 gX4_fits_X1_passDayOfGardeners rfl rfl rfl (by decide +kernel) ⟨Nat.le_of_ble_eq_true rfl, Nat.le_of_ble_eq_true rfl⟩) rfl hl.1 rfl (Nat.le_of_ble_eq_true rfl) dX4_fits_19 ⟨Nat.zero_le _, Nat.zero_le _⟩ (fun H locs hP hS => ?_)
        refine lv_iinc (v := x2 + (1 : Int32)) (lv' := [(2, .int (x2 + (1 : Int32))), (0, .ref (E.ad 2 0)), (1, .ref (E.ad 5 0))]) hx hb dX4_fits_22 hl (k := 2) rfl rfl (by decide) rfl (fun ls hl => ?_)
        refine lv_goto (tgt := 2) hx hb dX4_fits_25 (by decide) ?_
        exact ih2 (ob z 4 x2.toNatClampNeg (w 0 0)) q9 (x2 + (1 : Int32)) _ _ _ hf hP hS (lv_sub hl [1, 2, 0] rfl)
  unfold f_X4_fits at hf
  refine lv_iconst (v := 0) hx hb dX4_fits_0 (by decide) ?_
  refine lv_istore_n (lv' := [(2, .int (0 : Int32)), (0, .ref (E.ad 2 0)), (1, .ref (E.ad 5 0))]) hx hb dX4_fits_1 rfl hl (by decide) rfl (fun ls hl => ?_)
  exact hL2 FUEL z w (0 : Int32) _ _ _ hf hP hS (lv_sub hl [1, 2, 0] rfl)
theorem KW_X4_fits (l : Launch) {E : En} (hE : Inj E) (X : Wd) {r : Int32} {z' : Ob} {w' : Ob} (hf : f_X4_fits (X 2) (X 5) = some (r, z', w')) : Cti l E yX4_fits wsX4_fits rm_X4_fits [.ref (E.ad 2 0), .ref (E.ad 5 0)] X r (va_up (va_up X 2 z') 5 w') := by
  have h := K_X4_fits l hE X (X 2) (X 5)  hf
  rw [lens_all2] at h
  exact h
/-! J7_fill_53178 -/
abbrev rm_J7_fill_53178 : Room := { frames := 0, cells := 0, slots := 0, locals := 0 }
set_option maxHeartbeats 4000000 in
set_option maxRecDepth 100000 in
theorem K_J7_fill_53178 (l : Launch) {E : En} (hE : Inj E) (X : Wd) {o d n : Nat} (hm : (o, d) ∈ ids) (hcl : ∀ r, cell E o d r = .inl (E.cy 0, n, .inl r)) (a1 : Int32) {r' : Nat → Int32} (hf : f_J7_fill_53178 n (X o d) a1 = some r') : Ctv l E yJ7_fill_53178 wsJ7_fill_53178 rm_J7_fill_53178 [.ref (E.ad o d), .int a1] X  (va_up X o (va_up (X o) d r')) := by
  refine meet_v (cc := cJ7_fill_53178) (maxL := 4) (own := RJ7) (by decide) rfl rfl (Nat.le_of_ble_eq_true rfl) ?_
  intro p e s m below meth c Z S hB fin hP hS ls hl
  have hx := S.1
  have hb := S.2.1
  have hl : lv_has ls 4 [(0, .ref (E.ad o d)), (1, .int a1)] := hl
  have hP : va_P E.1 vwCl (GW E (va_up X o (va_up (X o) d (X o d)))) s.heap := by rw [arr_all]; exact hP
  generalize X o d = r at hf hP
  have hL5 : ∀ (n5 : Nat) (r : Nat → Int32) (x1 : Int32) (x2 : Int32) (x3 : Int32) (H : Heap) (locs : List Loc) (ls : Array Slot), f_J7_fill_53178_l5 n5 r x1 x2 x3 n = some r' → va_P E.1 vwCl (GW E (va_up X o (va_up (X o) d r))) H → va_S (GA E) s.heap H locs → lv_has ls 4 [(0, .ref (E.ad o d)), (1, .int x1), (2, .int x2), (3, .int x3)] → W p l e rm_J7_fill_53178 s m ([.ref (E.ad o d), .int a1] : List Value).toArray below meth c H locs 0 0 Z (F0 m 5 ls []) := by
    intro n5
    induction n5 with
    | zero =>
      intro r x1 x2 x3 H locs ls hf
      cases (show (none : Option _) = some _ from hf)
    | succ n5 ih5 =>
      intro r x1 x2 x3 H locs ls hf hP hS hl
      unfold f_J7_fill_53178_l5 at hf
      refine lv_iload_n hx hb dJ7_fill_53178_5 rfl (lv_at hl 2 rfl) ?_
      refine lv_iload_n hx hb dJ7_fill_53178_6 rfl (lv_at hl 3 rfl) ?_
      refine lv_icmp_ge (tgt := 20) hx hb dJ7_fill_53178_7 (by decide) (fun c1 => ?_) (fun c1 => ?_)
      · have hf := if_t c1 hf
        exact fin dJ7_fill_53178_20  (by rw [(s0 hf)]) hP hS
      · have hf := if_f c1 hf
        refine lv_aload_n hx hb dJ7_fill_53178_10 rfl (lv_at hl 0 rfl) ?_
        refine lv_iload_n hx hb dJ7_fill_53178_11 rfl (lv_at hl 2 rfl) ?_
        refine lv_iload_n hx hb dJ7_fill_53178_12 rfl (lv_at hl 1 rfl) ?_
        obtain ⟨hv2, hf⟩ := ck_some hf
        refine g_iast (r := r) S hB hE hP hS hm (by rw [va_up_self, va_up_self]; exact hcl _) (by rw [va_up_self, va_up_self]) hcl hv2 (X' := (va_up X o (va_up (X o) d (upd r x2.toNatClampNeg x1)))) (arr_put _ _ _ _ _ _) dJ7_fill_53178_13 (fun H locs hP hS => ?_)
        refine lv_iinc (v := x2 + (1 : Int32)) (lv' := [(2, .int (x2 + (1 : Int32))), (0, .ref (E.ad o d)), (1, .int x1), (3, .int x3)]) hx hb dJ7_fill_53178_14 hl (k := 2) rfl rfl (by decide) rfl (fun ls hl => ?_)
        refine lv_goto (tgt := 5) hx hb dJ7_fill_53178_17 (by decide) ?_
        exact ih5 (upd r x2.toNatClampNeg x1) x1 (x2 + (1 : Int32)) x3 _ _ _ hf hP hS (lv_sub hl [1, 2, 0, 3] rfl)
  unfold f_J7_fill_53178 at hf
  refine lv_iconst (v := 0) hx hb dJ7_fill_53178_0 (by decide) ?_
  refine lv_istore_n (lv' := [(2, .int (0 : Int32)), (0, .ref (E.ad o d)), (1, .int a1)]) hx hb dJ7_fill_53178_1 rfl hl (by decide) rfl (fun ls hl => ?_)
  refine lv_aload_n hx hb dJ7_fill_53178_2 rfl (lv_at hl 1 rfl) ?_
  refine g_alen (v := nI n) S hB hP hm 0 (by rw [va_up_self, va_up_self]; exact hcl _) rfl rfl dJ7_fill_53178_3 ?_
  refine lv_istore_n (lv' := [(3, .int (nI n)), (2, .int (0 : Int32)), (0, .ref (E.ad o d)), (1, .int a1)]) hx hb dJ7_fill_53178_4 rfl hl (by decide) rfl (fun ls hl => ?_)
  exact hL5 FUEL r a1 (0 : Int32) (nI n) _ _ _ hf hP hS (lv_sub hl [2, 3, 1, 0] rfl)
/-! X4_clearVotes -/
abbrev rm_X4_clearVotes : Room := { frames := 1, cells := 0, slots := 0, locals := 23 }
set_option maxHeartbeats 4000000 in
set_option maxRecDepth 100000 in
theorem K_X4_clearVotes (l : Launch) {E : En} (hE : Inj E) (σ : Wd) (z : Ob) {z' : Ob} (hf : f_X4_clearVotes z = some z') : Ctv l E yX4_clearVotes wsX4_clearVotes rm_X4_clearVotes [.ref (E.ad 2 0)] (va_up σ 2 z)  (va_up σ 2 z') := by
  refine meet_v (cc := cX4_clearVotes) (maxL := 1) (own := RX4) (by decide) rfl rfl (Nat.le_of_ble_eq_true rfl) ?_
  intro p e s m below meth c Z S hB fin hP hS ls hl
  have hx := S.1
  have hb := S.2.1
  have hl : lv_has ls 1 [(0, .ref (E.ad 2 0))] := hl
  have hinX4 : ∀ w ∈ u_ws RX4 TX4 6, w ∈ wsX4_clearVotes := by decide +kernel
  have fl28 := S.2.2.2.2 (.fieldLink RX4 28 "MownMaze$Seen" "votes" "[I") (by decide +kernel)
  unfold f_X4_clearVotes at hf
  refine lv_aload_n hx hb dX4_clearVotes_0 rfl (lv_at hl 0 rfl) ?_
  refine g_get (v := .ref (E.ad 2 5)) S hB hinX4 hP m_2_0 rfl rfl 5 (by decide) fl28 rfl rfl dX4_clearVotes_1 ?_
  refine lv_iconst (v := 0) hx hb dX4_clearVotes_4 (by decide) ?_
  obtain ⟨q1, hq1, hf⟩ := bind_some hf
  refine callS_v (As := [.ref (E.ad 2 5), .int (0 : Int32)]) (rest := []) S hB hP hS (K_J7_fill_53178 l hE (va_up σ 2 z) m_2_5 (fun _ => rfl) (0 : Int32) hq1) (va_cwS 2 S.2.2.2.2 gX4_clearVotes_J7_fill_53178 rfl rfl rfl (by decide +kernel) ⟨Nat.le_of_ble_eq_true rfl, Nat.le_of_ble_eq_true rfl⟩) rfl hl.1 rfl (Nat.le_of_ble_eq_true rfl) dX4_clearVotes_5 ⟨Nat.zero_le _, Nat.zero_le _⟩ (fun H locs hP hS => ?_)
  have hP : va_P E.1 vwCl (GW E (va_up σ 2 (va_up z 5 q1))) H := (arr_lens _ _ _ _ _) ▸ hP
  exact fin dX4_clearVotes_8  (by rw [(s0 hf)]) hP hS
theorem KW_X4_clearVotes (l : Launch) {E : En} (hE : Inj E) (X : Wd) {z' : Ob} (hf : f_X4_clearVotes (X 2) = some z') : Ctv l E yX4_clearVotes wsX4_clearVotes rm_X4_clearVotes [.ref (E.ad 2 0)] X  (va_up X 2 z') := by
  have h := K_X4_clearVotes l hE X (X 2)  hf
  rw [lens_all] at h
  exact h
/-! X4_vote -/
abbrev rm_X4_vote : Room := { frames := 0, cells := 0, slots := 0, locals := 0 }
set_option maxHeartbeats 4000000 in
set_option maxRecDepth 100000 in
theorem K_X4_vote (l : Launch) {E : En} (hE : Inj E) (σ : Wd) (z : Ob) {z' : Ob} (hf : f_X4_vote z = some z') : Ctv l E yX4_vote wsX4_vote rm_X4_vote [.ref (E.ad 2 0)] (va_up σ 2 z)  (va_up σ 2 z') := by
  refine meet_v (cc := cX4_vote) (maxL := 3) (own := RX4) (by decide) rfl rfl (Nat.le_of_ble_eq_true rfl) ?_
  intro p e s m below meth c Z S hB fin hP hS ls hl
  have hx := S.1
  have hb := S.2.1
  have hl : lv_has ls 3 [(0, .ref (E.ad 2 0))] := hl
  have hinX4 : ∀ w ∈ u_ws RX4 TX4 6, w ∈ wsX4_vote := by decide +kernel
  have fl25 := S.2.2.2.2 (.fieldLink RX4 25 "MownMaze$Seen" "views" "[I") (by decide +kernel)
  have fl28 := S.2.2.2.2 (.fieldLink RX4 28 "MownMaze$Seen" "votes" "[I") (by decide +kernel)
  have hL2 : ∀ (n2 : Nat) (z : Ob) (x1 : Int32) (H : Heap) (locs : List Loc) (ls : Array Slot), f_X4_vote_l2 n2 z x1 = some z' → va_P E.1 vwCl (GW E (va_up σ 2 z)) H → va_S (GA E) s.heap H locs → lv_has ls 3 [(0, .ref (E.ad 2 0)), (1, .int x1)] → W p l e rm_X4_vote s m ([.ref (E.ad 2 0)] : List Value).toArray below meth c H locs 0 0 Z (F0 m 2 ls []) := by
    intro n2
    induction n2 with
    | zero =>
      intro z x1 H locs ls hf
      cases (show (none : Option _) = some _ from hf)
    | succ n2 ih2 =>
      have hL10 : ∀ (n10 : Nat) (z : Ob) (x1 : Int32) (x2 : Int32) (H : Heap) (locs : List Loc) (ls : Array Slot), f_X4_vote_l10 (f_X4_vote_l2 n2) n10 z x1 x2 = some z' → va_P E.1 vwCl (GW E (va_up σ 2 z)) H → va_S (GA E) s.heap H locs → lv_has ls 3 [(0, .ref (E.ad 2 0)), (1, .int x1), (2, .int x2)] → W p l e rm_X4_vote s m ([.ref (E.ad 2 0)] : List Value).toArray below meth c H locs 0 0 Z (F0 m 10 ls []) := by
        intro n10
        induction n10 with
        | zero =>
          intro z x1 x2 H locs ls hf
          cases (show (none : Option _) = some _ from hf)
        | succ n10 ih10 =>
          intro z x1 x2 H locs ls hf hP hS hl
          unfold f_X4_vote_l10 at hf
          refine lv_iload_n hx hb dX4_vote_10 rfl (lv_at hl 2 rfl) ?_
          refine lv_bipush (v := 24) hx hb dX4_vote_11 (by decide) ?_
          refine lv_icmp_ge (tgt := 46) hx hb dX4_vote_13 (by decide) (fun c1 => ?_) (fun c1 => ?_)
          · have hf := if_t c1 hf
            refine lv_iinc (v := x1 + (1 : Int32)) (lv' := [(1, .int (x1 + (1 : Int32))), (0, .ref (E.ad 2 0)), (2, .int x2)]) hx hb dX4_vote_46 hl (k := 1) rfl rfl (by decide) rfl (fun ls hl => ?_)
            refine lv_goto (tgt := 2) hx hb dX4_vote_49 (by decide) ?_
            exact ih2 z (x1 + (1 : Int32)) _ _ _ hf hP hS (lv_sub hl [1, 0] rfl)
          · have hf := if_f c1 hf
            refine lv_aload_n hx hb dX4_vote_16 rfl (lv_at hl 0 rfl) ?_
            refine g_get (v := .ref (E.ad 2 5)) S hB hinX4 hP m_2_0 rfl rfl 5 (by decide) fl28 rfl rfl dX4_vote_17 ?_
            refine lv_iload_n hx hb dX4_vote_20 rfl (lv_at hl 1 rfl) ?_
            refine lv_bipush (v := 24) hx hb dX4_vote_21 (by decide) ?_
            refine lv_imul hx hb dX4_vote_23 ?_
            refine lv_iload_n hx hb dX4_vote_24 rfl (lv_at hl 2 rfl) ?_
            refine lv_iadd hx hb dX4_vote_25 ?_
            refine lv_dup2_11 hx hb dX4_vote_26 rfl rfl ?_
            obtain ⟨hv2, hf⟩ := ck_some hf
            refine g_iald (r := z 5) S hB hP m_2_5 rfl hv2 dX4_vote_27 ?_
            refine W.eq (g2 := F0 m 28 ls [.int (z 5 (((x1 * (24 : Int32)) + x2).toNatClampNeg)), .int ((x1 * (24 : Int32)) + x2), .ref (E.ad 2 5)]) rfl ?_
            refine lv_aload_n hx hb dX4_vote_28 rfl (lv_at hl 0 rfl) ?_
            refine g_get (v := .ref (E.ad 2 4)) S hB hinX4 hP m_2_0 rfl rfl 4 (by decide) fl25 rfl rfl dX4_vote_29 ?_
            refine lv_iload_n hx hb dX4_vote_32 rfl (lv_at hl 1 rfl) ?_
            obtain ⟨hv3, hf⟩ := ck_some hf
            refine g_iald (r := z 4) S hB hP m_2_4 rfl hv3 dX4_vote_33 ?_
            refine lv_iload_n hx hb dX4_vote_34 rfl (lv_at hl 2 rfl) ?_
            refine lv_ishr hx hb dX4_vote_35 ?_
            refine lv_iconst (v := 1) hx hb dX4_vote_36 (by decide) ?_
            refine lv_iand hx hb dX4_vote_37 ?_
            refine lv_iadd hx hb dX4_vote_38 ?_
            obtain ⟨hv4, hf⟩ := ck_some hf
            refine g_iast (r := z 5) S hB hE hP hS m_2_5 rfl rfl (fun _ => rfl) hv4 (X' := (va_up σ 2 (ob z 5 (((x1 * (24 : Int32)) + x2).toNatClampNeg) ((z 5 (((x1 * (24 : Int32)) + x2).toNatClampNeg)) + (((z 4 x1.toNatClampNeg) >>> (x2 &&& 31)) &&& (1 : Int32)))))) (lens_put σ 2 _ _ _ _) dX4_vote_39 (fun H locs hP hS => ?_)
            refine lv_iinc (v := x2 + (1 : Int32)) (lv' := [(2, .int (x2 + (1 : Int32))), (0, .ref (E.ad 2 0)), (1, .int x1)]) hx hb dX4_vote_40 hl (k := 2) rfl rfl (by decide) rfl (fun ls hl => ?_)
            refine lv_goto (tgt := 10) hx hb dX4_vote_43 (by decide) ?_
            exact ih10 (ob z 5 (((x1 * (24 : Int32)) + x2).toNatClampNeg) ((z 5 (((x1 * (24 : Int32)) + x2).toNatClampNeg)) + (((z 4 x1.toNatClampNeg) >>> (x2 &&& 31)) &&& (1 : Int32)))) x1 (x2 + (1 : Int32)) _ _ _ hf hP hS (lv_sub hl [1, 2, 0] rfl)
      intro z x1 H locs ls hf hP hS hl
      unfold f_X4_vote_l2 at hf
      refine lv_iload_n hx hb dX4_vote_2 rfl (lv_at hl 1 rfl) ?_
      refine lv_bipush (v := 20) hx hb dX4_vote_3 (by decide) ?_
      refine lv_icmp_gt (tgt := 52) hx hb dX4_vote_5 (by decide) (fun c5 => ?_) (fun c5 => ?_)
      · have hf := if_t c5 hf
        exact fin dX4_vote_52  (by rw [(s0 hf)]) hP hS
      · have hf := if_f c5 hf
        refine lv_iconst (v := 0) hx hb dX4_vote_8 (by decide) ?_
        refine lv_istore_n (lv' := [(2, .int (0 : Int32)), (0, .ref (E.ad 2 0)), (1, .int x1)]) hx hb dX4_vote_9 rfl hl (by decide) rfl (fun ls hl => ?_)
        exact hL10 FUEL z x1 (0 : Int32) _ _ _ hf hP hS (lv_sub hl [1, 2, 0] rfl)
  unfold f_X4_vote at hf
  refine lv_iconst (v := 0) hx hb dX4_vote_0 (by decide) ?_
  refine lv_istore_n (lv' := [(1, .int (0 : Int32)), (0, .ref (E.ad 2 0))]) hx hb dX4_vote_1 rfl hl (by decide) rfl (fun ls hl => ?_)
  exact hL2 FUEL z (0 : Int32) _ _ _ hf hP hS (lv_sub hl [1, 0] rfl)
theorem KW_X4_vote (l : Launch) {E : En} (hE : Inj E) (X : Wd) {z' : Ob} (hf : f_X4_vote (X 2) = some z') : Ctv l E yX4_vote wsX4_vote rm_X4_vote [.ref (E.ad 2 0)] X  (va_up X 2 z') := by
  have h := K_X4_vote l hE X (X 2)  hf
  rw [lens_all] at h
  exact h
/-! X5_renew -/
abbrev rm_X5_renew : Room := { frames := 1, cells := 0, slots := 0, locals := 23 }
set_option maxHeartbeats 4000000 in
set_option maxRecDepth 100000 in
theorem K_X5_renew (l : Launch) {E : En} (hE : Inj E) (σ : Wd) {o : Nat} (h1 : 18 ≤ o) (h2 : o < 22) (z : Ob) (a1 : Int32) (a2 : Int32) {z' : Ob} (hf : f_X5_renew z a1 a2 = some z') : Ctv l E yX5_renew wsX5_renew rm_X5_renew [.ref (E.ad o 0), .int a1, .int a2] (va_up σ o z)  (va_up σ o z') := by
  refine meet_v (cc := cX5_renew) (maxL := 3) (own := RX5) (by decide) rfl rfl (Nat.le_of_ble_eq_true rfl) ?_
  intro p e s m below meth c Z S hB fin hP hS ls hl
  have hx := S.1
  have hb := S.2.1
  have hl : lv_has ls 3 [(0, .ref (E.ad o 0)), (1, .int a1), (2, .int a2)] := hl
  have hinX5 : ∀ w ∈ u_ws RX5 TX5 4, w ∈ wsX5_renew := by decide +kernel
  have fl9 := S.2.2.2.2 (.fieldLink RX5 9 "MownMaze$Sheet" "made" "Z") (by decide +kernel)
  have fl15 := S.2.2.2.2 (.fieldLink RX5 15 "MownMaze$Sheet" "lane" "I") (by decide +kernel)
  have fl19 := S.2.2.2.2 (.fieldLink RX5 19 "MownMaze$Sheet" "size" "I") (by decide +kernel)
  have fl22 := S.2.2.2.2 (.fieldLink RX5 22 "MownMaze$Sheet" "cells" "[I") (by decide +kernel)
  unfold f_X5_renew at hf
  refine lv_aload_n hx hb dX5_renew_0 rfl (lv_at hl 0 rfl) ?_
  refine lv_iconst (v := 1) hx hb dX5_renew_1 (by decide) ?_
  refine g_put S hB hE hinX5 tyX5 tyX5_ok nmX5 hP hS (mem_sh h1 h2 (by decide)) (by rw [va_up_self]; exact (cell_sh E h1 h2) _) rfl 0 (by decide) fl9 rfl rfl (nz01 (by decide)) (fz01 (by decide)) (Nat.le_of_ble_eq_true rfl) (by rw [va_up_self]; exact (cell_sh E h1 h2) _) (X' := (va_up σ o (ob z 0 0 (1 : Int32)))) (lens_put σ o _ _ _ _) dX5_renew_2 (fun H locs hP hS => ?_)
  refine lv_aload_n hx hb dX5_renew_5 rfl (lv_at hl 0 rfl) ?_
  refine lv_iload_n hx hb dX5_renew_6 rfl (lv_at hl 1 rfl) ?_
  refine g_put S hB hE hinX5 tyX5 tyX5_ok nmX5 hP hS (mem_sh h1 h2 (by decide)) (by rw [va_up_self]; exact (cell_sh E h1 h2) _) rfl 1 (by decide) fl15 rfl rfl rfl rfl (Nat.le_of_ble_eq_true rfl) (by rw [va_up_self]; exact (cell_sh E h1 h2) _) (X' := (va_up σ o (ob (ob z 0 0 (1 : Int32)) 0 1 a1))) (lens_put σ o _ _ _ _) dX5_renew_7 (fun H locs hP hS => ?_)
  refine lv_aload_n hx hb dX5_renew_10 rfl (lv_at hl 0 rfl) ?_
  refine lv_iload_n hx hb dX5_renew_11 rfl (lv_at hl 2 rfl) ?_
  refine g_put S hB hE hinX5 tyX5 tyX5_ok nmX5 hP hS (mem_sh h1 h2 (by decide)) (by rw [va_up_self]; exact (cell_sh E h1 h2) _) rfl 2 (by decide) fl19 rfl rfl rfl rfl (Nat.le_of_ble_eq_true rfl) (by rw [va_up_self]; exact (cell_sh E h1 h2) _) (X' := (va_up σ o (ob (ob (ob z 0 0 (1 : Int32)) 0 1 a1) 0 2 a2))) (lens_put σ o _ _ _ _) dX5_renew_12 (fun H locs hP hS => ?_)
  refine lv_aload_n hx hb dX5_renew_15 rfl (lv_at hl 0 rfl) ?_
  refine g_get (v := .ref (E.ad o 1)) S hB hinX5 hP (mem_sh h1 h2 (by decide)) (by rw [va_up_self]; exact (cell_sh E h1 h2) _) rfl 3 (by decide) fl22 rfl rfl dX5_renew_16 ?_
  refine lv_iconst (v := 0) hx hb dX5_renew_19 (by decide) ?_
  obtain ⟨q1, hq1, hf⟩ := bind_some hf
  refine callS_v (As := [.ref (E.ad o 1), .int (0 : Int32)]) (rest := []) S hB hP hS (K_J7_fill_53178 l hE (va_up σ o (ob (ob (ob z 0 0 (1 : Int32)) 0 1 a1) 0 2 a2)) (mem_sh h1 h2 (by decide)) (cell_sa E h1 h2 (by decide)) (0 : Int32) (by rw [va_up_self]; exact hq1)) (va_cwS 2 S.2.2.2.2 gX5_renew_J7_fill_53178 rfl rfl rfl (by decide +kernel) ⟨Nat.le_of_ble_eq_true rfl, Nat.le_of_ble_eq_true rfl⟩) rfl hl.1 rfl (Nat.le_of_ble_eq_true rfl) dX5_renew_20 ⟨Nat.zero_le _, Nat.zero_le _⟩ (fun H locs hP hS => ?_)
  have hP : va_P E.1 vwCl (GW E (va_up σ o (va_up (ob (ob (ob z 0 0 (1 : Int32)) 0 1 a1) 0 2 a2) 1 q1))) H := (arr_lens _ _ _ _ _) ▸ hP
  exact fin dX5_renew_23  (by rw [(s0 hf)]) hP hS
theorem KW_X5_renew (l : Launch) {E : En} (hE : Inj E) (X : Wd) {o : Nat} (h1 : 18 ≤ o) (h2 : o < 22) (a1 : Int32) (a2 : Int32) {z' : Ob} (hf : f_X5_renew (X o) a1 a2 = some z') : Ctv l E yX5_renew wsX5_renew rm_X5_renew [.ref (E.ad o 0), .int a1, .int a2] X  (va_up X o z') := by
  have h := K_X5_renew l hE X h1 h2 (X o) a1 a2 hf
  rw [lens_all] at h
  exact h
/-! X5_faultAt -/
abbrev rm_X5_faultAt : Room := { frames := 0, cells := 0, slots := 0, locals := 0 }
set_option maxHeartbeats 4000000 in
set_option maxRecDepth 100000 in
theorem K_X5_faultAt (l : Launch) {E : En} (hE : Inj E) (σ : Wd) {o : Nat} (h1 : 18 ≤ o) (h2 : o < 22) (z : Ob) (a1 : Int32) (a2 : Int32) {r : Int32} (hf : f_X5_faultAt z a1 a2 = some r) : Cti l E yX5_faultAt wsX5_faultAt rm_X5_faultAt [.ref (E.ad o 0), .int a1, .int a2] (va_up σ o z) r (va_up σ o z) := by
  refine meet_i (cc := cX5_faultAt) (maxL := 3) (own := RX5) (by decide) rfl rfl (Nat.le_of_ble_eq_true rfl) ?_
  intro p e s m below meth c Z S hB fin hP hS ls hl
  have hx := S.1
  have hb := S.2.1
  have hl : lv_has ls 3 [(0, .ref (E.ad o 0)), (1, .int a1), (2, .int a2)] := hl
  have hinX5 : ∀ w ∈ u_ws RX5 TX5 4, w ∈ wsX5_faultAt := by decide +kernel
  have fl9 := S.2.2.2.2 (.fieldLink RX5 9 "MownMaze$Sheet" "made" "Z") (by decide +kernel)
  have fl15 := S.2.2.2.2 (.fieldLink RX5 15 "MownMaze$Sheet" "lane" "I") (by decide +kernel)
  have fl19 := S.2.2.2.2 (.fieldLink RX5 19 "MownMaze$Sheet" "size" "I") (by decide +kernel)
  have hB31 : ∀ (H : Heap) (locs : List Loc) (ls : Array Slot), f_X5_faultAt_b31 z = some r → va_P E.1 vwCl (GW E (va_up σ o z)) H → va_S (GA E) s.heap H locs → lv_has ls 3 [] → W p l e rm_X5_faultAt s m ([.ref (E.ad o 0), .int a1, .int a2] : List Value).toArray below meth c H locs 0 0 Z (F0 m 31 ls []) := by
    intro  H locs ls hf hP hS hl
    unfold f_X5_faultAt_b31 at hf
    refine lv_iconst (v := 2) hx hb dX5_faultAt_31 (by decide) ?_
    refine lv_goto (tgt := 36) hx hb dX5_faultAt_32 (by decide) ?_
    exact fin dX5_faultAt_36 (s0 hf) rfl hP hS
  unfold f_X5_faultAt at hf
  refine lv_aload_n hx hb dX5_faultAt_0 rfl (lv_at hl 0 rfl) ?_
  refine g_get (v := .int (z 0 0)) S hB hinX5 hP (mem_sh h1 h2 (by decide)) (by rw [va_up_self]; exact (cell_sh E h1 h2) _) rfl 0 (by decide) fl9 rfl rfl dX5_faultAt_1 ?_
  refine lv_if_ne (tgt := 9) hx hb dX5_faultAt_4 (by decide) (fun c1 => ?_) (fun c1 => ?_)
  · have hf := if_f c1 hf
    refine lv_iload_n hx hb dX5_faultAt_9 rfl (lv_at hl 1 rfl) ?_
    refine lv_aload_n hx hb dX5_faultAt_10 rfl (lv_at hl 0 rfl) ?_
    refine g_get (v := .int (z 0 1)) S hB hinX5 hP (mem_sh h1 h2 (by decide)) (by rw [va_up_self]; exact (cell_sh E h1 h2) _) rfl 1 (by decide) fl15 rfl rfl dX5_faultAt_11 ?_
    refine lv_icmp_eq (tgt := 19) hx hb dX5_faultAt_14 (by decide) (fun c2 => ?_) (fun c2 => ?_)
    · have hf := if_t c2 hf
      refine lv_iload_n hx hb dX5_faultAt_19 rfl (lv_at hl 2 rfl) ?_
      refine lv_if_lt (tgt := 31) hx hb dX5_faultAt_20 (by decide) (fun c3 => ?_) (fun c3 => ?_)
      · have hf := if_t c3 hf
        exact hB31 _ _ _ hf hP hS (lv_sub hl [] rfl)
      · have hf := if_f c3 hf
        refine lv_iload_n hx hb dX5_faultAt_23 rfl (lv_at hl 2 rfl) ?_
        refine lv_aload_n hx hb dX5_faultAt_24 rfl (lv_at hl 0 rfl) ?_
        refine g_get (v := .int (z 0 2)) S hB hinX5 hP (mem_sh h1 h2 (by decide)) (by rw [va_up_self]; exact (cell_sh E h1 h2) _) rfl 2 (by decide) fl19 rfl rfl dX5_faultAt_25 ?_
        refine lv_icmp_lt (tgt := 35) hx hb dX5_faultAt_28 (by decide) (fun c4 => ?_) (fun c4 => ?_)
        · have hf := if_t c4 hf
          refine lv_iconst (v := 0) hx hb dX5_faultAt_35 (by decide) ?_
          exact fin dX5_faultAt_36 (s0 hf) rfl hP hS
        · have hf := if_f c4 hf
          exact hB31 _ _ _ hf hP hS (lv_sub hl [] rfl)
    · have hf := if_f c2 hf
      refine lv_iconst (v := 3) hx hb dX5_faultAt_17 (by decide) ?_
      exact fin dX5_faultAt_18 (s0 hf) rfl hP hS
  · have hf := if_t c1 hf
    refine lv_iconst (v := 1) hx hb dX5_faultAt_7 (by decide) ?_
    exact fin dX5_faultAt_8 (s0 hf) rfl hP hS
theorem KW_X5_faultAt (l : Launch) {E : En} (hE : Inj E) (X : Wd) {o : Nat} (h1 : 18 ≤ o) (h2 : o < 22) (a1 : Int32) (a2 : Int32) {r : Int32} (hf : f_X5_faultAt (X o) a1 a2 = some r) : Cti l E yX5_faultAt wsX5_faultAt rm_X5_faultAt [.ref (E.ad o 0), .int a1, .int a2] X r X := by
  have h := K_X5_faultAt l hE X h1 h2 (X o) a1 a2 hf
  rw [lens_all] at h
  exact h
/-! X5_faultOfPair -/
abbrev rm_X5_faultOfPair : Room := { frames := 1, cells := 0, slots := 0, locals := 22 }
set_option maxHeartbeats 4000000 in
set_option maxRecDepth 100000 in
theorem K_X5_faultOfPair (l : Launch) {E : En} (hE : Inj E) (σ : Wd) {o : Nat} (h1 : 18 ≤ o) (h2 : o < 22) (z : Ob) (a1 : Int32) (a2 : Int32) {r : Int32} (hf : f_X5_faultOfPair z a1 a2 = some r) : Cti l E yX5_faultOfPair wsX5_faultOfPair rm_X5_faultOfPair [.ref (E.ad o 0), .int a1, .int a2] (va_up σ o z) r (va_up σ o z) := by
  refine meet_i (cc := cX5_faultOfPair) (maxL := 4) (own := RX5) (by decide) rfl rfl (Nat.le_of_ble_eq_true rfl) ?_
  intro p e s m below meth c Z S hB fin hP hS ls hl
  have hx := S.1
  have hb := S.2.1
  have hl : lv_has ls 4 [(0, .ref (E.ad o 0)), (1, .int a1), (2, .int a2)] := hl
  unfold f_X5_faultOfPair at hf
  refine lv_aload_n hx hb dX5_faultOfPair_0 rfl (lv_at hl 0 rfl) ?_
  refine lv_iload_n hx hb dX5_faultOfPair_1 rfl (lv_at hl 1 rfl) ?_
  refine lv_iload_n hx hb dX5_faultOfPair_2 rfl (lv_at hl 2 rfl) ?_
  obtain ⟨q1, hq1, hf⟩ := bind_some hf
  refine callV_i (As := [.int a1, .int a2]) (rest := []) S hB hP hS (C := RX5) (b := E.ad o 0) (g_recv (o := o) (d := 0) hB hP (mem_sh h1 h2 (by decide)) (by rw [va_up_self]; exact (cell_sh E h1 h2) _) rfl) (K_X5_faultAt l hE σ h1 h2 z a1 a2 hq1) (cwV 2 S.2.2.2.2 gX5_faultOfPair_X5_faultAt rfl rfl rfl (by decide +kernel) ⟨Nat.le_of_ble_eq_true rfl, Nat.le_of_ble_eq_true rfl⟩) rfl hl.1 rfl (Nat.le_of_ble_eq_true rfl) dX5_faultOfPair_3 ⟨Nat.zero_le _, Nat.zero_le _⟩ (fun H locs hP hS => ?_)
  refine lv_istore_n (lv' := [(3, .int q1), (0, .ref (E.ad o 0)), (1, .int a1), (2, .int a2)]) hx hb dX5_faultOfPair_6 rfl hl (by decide) rfl (fun ls hl => ?_)
  refine lv_iload_n hx hb dX5_faultOfPair_7 rfl (lv_at hl 0 rfl) ?_
  refine lv_if_eq (tgt := 15) hx hb dX5_faultOfPair_8 (by decide) (fun c2 => ?_) (fun c2 => ?_)
  · have hf := if_t c2 hf
    refine lv_aload_n hx hb dX5_faultOfPair_15 rfl (lv_at hl 1 rfl) ?_
    refine lv_iload_n hx hb dX5_faultOfPair_16 rfl (lv_at hl 2 rfl) ?_
    refine lv_iload_n hx hb dX5_faultOfPair_17 rfl (lv_at hl 3 rfl) ?_
    refine lv_iconst (v := 1) hx hb dX5_faultOfPair_18 (by decide) ?_
    refine lv_iadd hx hb dX5_faultOfPair_19 ?_
    obtain ⟨q3, hq3, hf⟩ := bind_some hf
    refine callV_i (As := [.int a1, .int (a2 + (1 : Int32))]) (rest := []) S hB hP hS (C := RX5) (b := E.ad o 0) (g_recv (o := o) (d := 0) hB hP (mem_sh h1 h2 (by decide)) (by rw [va_up_self]; exact (cell_sh E h1 h2) _) rfl) (K_X5_faultAt l hE σ h1 h2 z a1 (a2 + (1 : Int32)) hq3) (cwV 2 S.2.2.2.2 gX5_faultOfPair_X5_faultAt rfl rfl rfl (by decide +kernel) ⟨Nat.le_of_ble_eq_true rfl, Nat.le_of_ble_eq_true rfl⟩) rfl hl.1 rfl (Nat.le_of_ble_eq_true rfl) dX5_faultOfPair_20 ⟨Nat.zero_le _, Nat.zero_le _⟩ (fun H locs hP hS => ?_)
    exact fin dX5_faultOfPair_23 (s0 hf) rfl hP hS
  · have hf := if_f c2 hf
    refine lv_iload_n hx hb dX5_faultOfPair_11 rfl (lv_at hl 0 rfl) ?_
    refine lv_goto (tgt := 23) hx hb dX5_faultOfPair_12 (by decide) ?_
    exact fin dX5_faultOfPair_23 (s0 hf) rfl hP hS
theorem KW_X5_faultOfPair (l : Launch) {E : En} (hE : Inj E) (X : Wd) {o : Nat} (h1 : 18 ≤ o) (h2 : o < 22) (a1 : Int32) (a2 : Int32) {r : Int32} (hf : f_X5_faultOfPair (X o) a1 a2 = some r) : Cti l E yX5_faultOfPair wsX5_faultOfPair rm_X5_faultOfPair [.ref (E.ad o 0), .int a1, .int a2] X r X := by
  have h := K_X5_faultOfPair l hE X h1 h2 (X o) a1 a2 hf
  rw [lens_all] at h
  exact h
/-! X5_put -/
abbrev rm_X5_put : Room := { frames := 0, cells := 0, slots := 0, locals := 0 }
set_option maxHeartbeats 4000000 in
set_option maxRecDepth 100000 in
theorem K_X5_put (l : Launch) {E : En} (hE : Inj E) (σ : Wd) {o : Nat} (h1 : 18 ≤ o) (h2 : o < 22) (z : Ob) (a1 : Int32) (a2 : Int32) {z' : Ob} (hf : f_X5_put z a1 a2 = some z') : Ctv l E yX5_put wsX5_put rm_X5_put [.ref (E.ad o 0), .int a1, .int a2] (va_up σ o z)  (va_up σ o z') := by
  refine meet_v (cc := cX5_put) (maxL := 3) (own := RX5) (by decide) rfl rfl (Nat.le_of_ble_eq_true rfl) ?_
  intro p e s m below meth c Z S hB fin hP hS ls hl
  have hx := S.1
  have hb := S.2.1
  have hl : lv_has ls 3 [(0, .ref (E.ad o 0)), (1, .int a1), (2, .int a2)] := hl
  have hinX5 : ∀ w ∈ u_ws RX5 TX5 4, w ∈ wsX5_put := by decide +kernel
  have fl15 := S.2.2.2.2 (.fieldLink RX5 15 "MownMaze$Sheet" "lane" "I") (by decide +kernel)
  have fl22 := S.2.2.2.2 (.fieldLink RX5 22 "MownMaze$Sheet" "cells" "[I") (by decide +kernel)
  have hB31 : ∀ (z : Ob) (y0 : Int32) (y1 : Int32) (H : Heap) (locs : List Loc) (ls : Array Slot), f_X5_put_b31 z y0 y1 = some z' → va_P E.1 vwCl (GW E (va_up σ o z)) H → va_S (GA E) s.heap H locs → lv_has ls 3 [] → W p l e rm_X5_put s m ([.ref (E.ad o 0), .int a1, .int a2] : List Value).toArray below meth c H locs 0 0 Z (F0 m 31 ls [.int y0, .int y1, .ref (E.ad o 1)]) := by
    intro z y0 y1 H locs ls hf hP hS hl
    unfold f_X5_put_b31 at hf
    obtain ⟨hv3, hf⟩ := ck_some hf
    refine g_iast (r := z 1) S hB hE hP hS (mem_sh h1 h2 (by decide)) (by rw [va_up_self]; exact (cell_sa E h1 h2 (by decide)) _) (by rw [va_up_self]) (cell_sa E h1 h2 (by decide)) hv3 (X' := (va_up σ o (ob z 1 y1.toNatClampNeg y0))) (lens_put σ o _ _ _ _) dX5_put_31 (fun H locs hP hS => ?_)
    exact fin dX5_put_32  (by rw [(s0 hf)]) hP hS
  unfold f_X5_put at hf
  refine lv_aload_n hx hb dX5_put_0 rfl (lv_at hl 0 rfl) ?_
  refine g_get (v := .ref (E.ad o 1)) S hB hinX5 hP (mem_sh h1 h2 (by decide)) (by rw [va_up_self]; exact (cell_sh E h1 h2) _) rfl 3 (by decide) fl22 rfl rfl dX5_put_1 ?_
  refine lv_iload_n hx hb dX5_put_4 rfl (lv_at hl 1 rfl) ?_
  refine lv_aload_n hx hb dX5_put_5 rfl (lv_at hl 0 rfl) ?_
  refine g_get (v := .int (z 0 1)) S hB hinX5 hP (mem_sh h1 h2 (by decide)) (by rw [va_up_self]; exact (cell_sh E h1 h2) _) rfl 1 (by decide) fl15 rfl rfl dX5_put_6 ?_
  refine lv_if_ne (tgt := 17) hx hb dX5_put_9 (by decide) (fun c1 => ?_) (fun c1 => ?_)
  · have hf := if_f c1 hf
    refine lv_aload_n hx hb dX5_put_17 rfl (lv_at hl 0 rfl) ?_
    refine g_get (v := .int (z 0 1)) S hB hinX5 hP (mem_sh h1 h2 (by decide)) (by rw [va_up_self]; exact (cell_sh E h1 h2) _) rfl 1 (by decide) fl15 rfl rfl dX5_put_18 ?_
    refine lv_iconst (v := 1) hx hb dX5_put_21 (by decide) ?_
    refine lv_icmp_ne (tgt := 30) hx hb dX5_put_22 (by decide) (fun c2 => ?_) (fun c2 => ?_)
    · have hf := if_f c2 hf
      refine lv_iload_n hx hb dX5_put_30 rfl (lv_at hl 2 rfl) ?_
      exact hB31 z a2 a1 _ _ _ hf hP hS (lv_sub hl [] rfl)
    · have hf := if_t c2 hf
      refine lv_iload_n hx hb dX5_put_25 rfl (lv_at hl 2 rfl) ?_
      refine lv_i2s hx hb dX5_put_26 (v := a2.toInt16.toInt32) rfl ?_
      refine lv_goto (tgt := 31) hx hb dX5_put_27 (by decide) ?_
      exact hB31 z a2.toInt16.toInt32 a1 _ _ _ hf hP hS (lv_sub hl [] rfl)
  · have hf := if_t c1 hf
    refine lv_iload_n hx hb dX5_put_12 rfl (lv_at hl 2 rfl) ?_
    refine lv_i2b hx hb dX5_put_13 (v := a2.toInt8.toInt32) rfl ?_
    refine lv_goto (tgt := 31) hx hb dX5_put_14 (by decide) ?_
    exact hB31 z a2.toInt8.toInt32 a1 _ _ _ hf hP hS (lv_sub hl [] rfl)
theorem KW_X5_put (l : Launch) {E : En} (hE : Inj E) (X : Wd) {o : Nat} (h1 : 18 ≤ o) (h2 : o < 22) (a1 : Int32) (a2 : Int32) {z' : Ob} (hf : f_X5_put (X o) a1 a2 = some z') : Ctv l E yX5_put wsX5_put rm_X5_put [.ref (E.ad o 0), .int a1, .int a2] X  (va_up X o z') := by
  have h := K_X5_put l hE X h1 h2 (X o) a1 a2 hf
  rw [lens_all] at h
  exact h
