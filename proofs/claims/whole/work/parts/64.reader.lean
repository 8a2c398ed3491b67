/-! X3_append -/
abbrev rm_X3_append : Room := { frames := 0, cells := 0, slots := 0, locals := 0 }
set_option maxHeartbeats 4000000 in
set_option maxRecDepth 100000 in
theorem K_X3_append (l : Launch) {E : En} (hE : Inj E) (σ : Wd) (z : Ob) (a1 : Int32) {r : Int32} {z' : Ob} (hf : f_X3_append z a1 = some (r, z')) : Cti l E yX3_append wsX3_append rm_X3_append [.ref (E.ad 1 0), .int a1] (va_up σ 1 z) r (va_up σ 1 z') := by
  refine meet_z (cc := cX3_append) (maxL := 2) (own := RX3) (by decide) rfl rfl (Nat.le_of_ble_eq_true rfl) ?_
  intro p e s m below meth c Z S hB fin hP hS ls hl
  have hx := S.1
  have hb := S.2.1
  have hl : lv_has ls 2 [(0, .ref (E.ad 1 0)), (1, .int a1)] := hl
  have hinX3 : ∀ w ∈ u_ws RX3 TX3 8, w ∈ wsX3_append := by decide +kernel
  have fl9 := S.2.2.2.2 (.fieldLink RX3 9 "MownMaze$Reader" "tape" "[B") (by decide +kernel)
  have fl15 := S.2.2.2.2 (.fieldLink RX3 15 "MownMaze$Reader" "length" "I") (by decide +kernel)
  unfold f_X3_append at hf
  refine lv_aload_n hx hb dX3_append_0 rfl (lv_at hl 0 rfl) ?_
  refine g_get (v := .int (z 0 1)) S hB hinX3 hP m_1_0 rfl rfl 1 (by decide) fl15 rfl rfl dX3_append_1 ?_
  refine lv_sipush (v := 160) hx hb dX3_append_4 (by decide) ?_
  refine lv_icmp_lt (tgt := 12) hx hb dX3_append_7 (by decide) (fun c1 => ?_) (fun c1 => ?_)
  · have hf := if_t c1 hf
    refine lv_aload_n hx hb dX3_append_12 rfl (lv_at hl 0 rfl) ?_
    refine g_get (v := .ref (E.ad 1 1)) S hB hinX3 hP m_1_0 rfl rfl 0 (by decide) fl9 rfl rfl dX3_append_13 ?_
    refine lv_aload_n hx hb dX3_append_16 rfl (lv_at hl 0 rfl) ?_
    refine g_get (v := .int (z 0 1)) S hB hinX3 hP m_1_0 rfl rfl 1 (by decide) fl15 rfl rfl dX3_append_17 ?_
    refine lv_iload_n hx hb dX3_append_20 rfl (lv_at hl 1 rfl) ?_
    refine lv_i2b hx hb dX3_append_21 (v := a1.toInt8.toInt32) rfl ?_
    obtain ⟨hv2, hf⟩ := ck_some hf
    refine g_bast (r := z 1) S hB hE hP hS m_1_1 rfl rfl (fun _ => rfl) hv2 (X' := (va_up σ 1 (ob z 1 ((z 0 1).toNatClampNeg) (vp_nar .byte a1.toInt8.toInt32)))) (lens_put σ 1 _ _ _ _) dX3_append_22 (fun H locs hP hS => ?_)
    refine lv_aload_n hx hb dX3_append_23 rfl (lv_at hl 0 rfl) ?_
    refine lv_dup hx hb dX3_append_24 rfl ?_
    refine g_get (v := .int (z 0 1)) S hB hinX3 hP m_1_0 rfl rfl 1 (by decide) fl15 rfl rfl dX3_append_25 ?_
    refine lv_iconst (v := 1) hx hb dX3_append_28 (by decide) ?_
    refine lv_iadd hx hb dX3_append_29 ?_
    refine g_put S hB hE hinX3 tyX3 tyX3_ok nmX3 hP hS m_1_0 rfl rfl 1 (by decide) fl15 rfl rfl rfl rfl (Nat.le_of_ble_eq_true rfl) (by exact (fun _ => rfl) _) (X' := (va_up σ 1 (ob (ob z 1 ((z 0 1).toNatClampNeg) (vp_nar .byte a1.toInt8.toInt32)) 0 1 ((z 0 1) + (1 : Int32))))) (lens_put σ 1 _ _ _ _) dX3_append_30 (fun H locs hP hS => ?_)
    refine lv_iconst (v := 1) hx hb dX3_append_33 (by decide) ?_
    exact fin dX3_append_34 (nz01 (by decide)) (s1 hf) (by rw [(s2 hf)]) hP hS
  · have hf := if_f c1 hf
    refine lv_iconst (v := 0) hx hb dX3_append_10 (by decide) ?_
    exact fin dX3_append_11 (nz01 (by decide)) (s1 hf) (by rw [(s2 hf)]) hP hS
theorem KW_X3_append (l : Launch) {E : En} (hE : Inj E) (X : Wd) (a1 : Int32) {r : Int32} {z' : Ob} (hf : f_X3_append (X 1) a1 = some (r, z')) : Cti l E yX3_append wsX3_append rm_X3_append [.ref (E.ad 1 0), .int a1] X r (va_up X 1 z') := by
  have h := K_X3_append l hE X (X 1) a1 hf
  rw [lens_all] at h
  exact h
/-! X3_isLetter -/
abbrev rm_X3_isLetter : Room := { frames := 0, cells := 0, slots := 0, locals := 0 }
set_option maxHeartbeats 4000000 in
set_option maxRecDepth 100000 in
theorem K_X3_isLetter (l : Launch) {E : En} (hE : Inj E) (X : Wd) (a0 : Int32) {r : Int32} (hf : f_X3_isLetter a0 = some r) : Cti l E yX3_isLetter wsX3_isLetter rm_X3_isLetter [.int a0] X r X := by
  refine meet_z (cc := cX3_isLetter) (maxL := 1) (own := RX3) (by decide) rfl rfl (Nat.le_of_ble_eq_true rfl) ?_
  intro p e s m below meth c Z S hB fin hP hS ls hl
  have hx := S.1
  have hb := S.2.1
  have hl : lv_has ls 1 [(0, .int a0)] := hl
  unfold f_X3_isLetter at hf
  refine lv_iload_n hx hb dX3_isLetter_0 rfl (lv_at hl 0 rfl) ?_
  refine lv_bipush (v := 97) hx hb dX3_isLetter_1 (by decide) ?_
  refine lv_icmp_lt (tgt := 16) hx hb dX3_isLetter_3 (by decide) (fun c1 => ?_) (fun c1 => ?_)
  · have hf := if_t c1 hf
    refine lv_iconst (v := 0) hx hb dX3_isLetter_16 (by decide) ?_
    exact fin dX3_isLetter_17 (nz01 (by decide)) (s0 hf) rfl hP hS
  · have hf := if_f c1 hf
    refine lv_iload_n hx hb dX3_isLetter_6 rfl (lv_at hl 0 rfl) ?_
    refine lv_bipush (v := 122) hx hb dX3_isLetter_7 (by decide) ?_
    refine lv_icmp_gt (tgt := 16) hx hb dX3_isLetter_9 (by decide) (fun c2 => ?_) (fun c2 => ?_)
    · have hf := if_t c2 hf
      refine lv_iconst (v := 0) hx hb dX3_isLetter_16 (by decide) ?_
      exact fin dX3_isLetter_17 (nz01 (by decide)) (s0 hf) rfl hP hS
    · have hf := if_f c2 hf
      refine lv_iconst (v := 1) hx hb dX3_isLetter_12 (by decide) ?_
      refine lv_goto (tgt := 17) hx hb dX3_isLetter_13 (by decide) ?_
      exact fin dX3_isLetter_17 (nz01 (by decide)) (s0 hf) rfl hP hS
/-! X3_takeName -/
abbrev rm_X3_takeName : Room := { frames := 1, cells := 0, slots := 0, locals := 20 }
set_option maxHeartbeats 4000000 in
set_option maxRecDepth 100000 in
theorem K_X3_takeName (l : Launch) {E : En} (hE : Inj E) (σ : Wd) (z : Ob) {z' : Ob} (hf : f_X3_takeName z = some z') : Ctv l E yX3_takeName wsX3_takeName rm_X3_takeName [.ref (E.ad 1 0)] (va_up σ 1 z)  (va_up σ 1 z') := by
  refine meet_v (cc := cX3_takeName) (maxL := 1) (own := RX3) (by decide) rfl rfl (Nat.le_of_ble_eq_true rfl) ?_
  intro p e s m below meth c Z S hB fin hP hS ls hl
  have hx := S.1
  have hb := S.2.1
  have hl : lv_has ls 1 [(0, .ref (E.ad 1 0))] := hl
  have hinX3 : ∀ w ∈ u_ws RX3 TX3 8, w ∈ wsX3_takeName := by decide +kernel
  have fl9 := S.2.2.2.2 (.fieldLink RX3 9 "MownMaze$Reader" "tape" "[B") (by decide +kernel)
  have fl15 := S.2.2.2.2 (.fieldLink RX3 15 "MownMaze$Reader" "length" "I") (by decide +kernel)
  have fl19 := S.2.2.2.2 (.fieldLink RX3 19 "MownMaze$Reader" "place" "I") (by decide +kernel)
  have fl25 := S.2.2.2.2 (.fieldLink RX3 25 "MownMaze$Reader" "token" "I") (by decide +kernel)
  have hL5 : ∀ (n5 : Nat) (z : Ob) (H : Heap) (locs : List Loc) (ls : Array Slot), f_X3_takeName_l5 n5 z = some z' → va_P E.1 vwCl (GW E (va_up σ 1 z)) H → va_S (GA E) s.heap H locs → lv_has ls 1 [(0, .ref (E.ad 1 0))] → W p l e rm_X3_takeName s m ([.ref (E.ad 1 0)] : List Value).toArray below meth c H locs 0 0 Z (F0 m 5 ls []) := by
    intro n5
    induction n5 with
    | zero =>
      intro z H locs ls hf
      cases (show (none : Option _) = some _ from hf)
    | succ n5 ih5 =>
      intro z H locs ls hf hP hS hl
      unfold f_X3_takeName_l5 at hf
      refine lv_aload_n hx hb dX3_takeName_5 rfl (lv_at hl 0 rfl) ?_
      refine g_get (v := .int (z 0 2)) S hB hinX3 hP m_1_0 rfl rfl 2 (by decide) fl19 rfl rfl dX3_takeName_6 ?_
      refine lv_aload_n hx hb dX3_takeName_9 rfl (lv_at hl 0 rfl) ?_
      refine g_get (v := .int (z 0 1)) S hB hinX3 hP m_1_0 rfl rfl 1 (by decide) fl15 rfl rfl dX3_takeName_10 ?_
      refine lv_icmp_ge (tgt := 44) hx hb dX3_takeName_13 (by decide) (fun c1 => ?_) (fun c1 => ?_)
      · have hf := if_t c1 hf
        exact fin dX3_takeName_44  (by rw [(s0 hf)]) hP hS
      · have hf := if_f c1 hf
        refine lv_aload_n hx hb dX3_takeName_16 rfl (lv_at hl 0 rfl) ?_
        refine g_get (v := .ref (E.ad 1 1)) S hB hinX3 hP m_1_0 rfl rfl 0 (by decide) fl9 rfl rfl dX3_takeName_17 ?_
        refine lv_aload_n hx hb dX3_takeName_20 rfl (lv_at hl 0 rfl) ?_
        refine g_get (v := .int (z 0 2)) S hB hinX3 hP m_1_0 rfl rfl 2 (by decide) fl19 rfl rfl dX3_takeName_21 ?_
        obtain ⟨hv2, hf⟩ := ck_some hf
        refine g_bald (r := z 1) S hB hP m_1_1 rfl hv2 dX3_takeName_24 ?_
        refine W.eq (g2 := F0 m 25 ls [.int (z 1 ((z 0 2).toNatClampNeg))]) rfl ?_
        obtain ⟨q3, hq3, hf⟩ := bind_some hf
        refine callS_i (As := [.int (z 1 ((z 0 2).toNatClampNeg))]) (rest := []) S hB hP hS (K_X3_isLetter l hE (va_up σ 1 z) (z 1 ((z 0 2).toNatClampNeg)) hq3) (va_cwS 1 S.2.2.2.2 gX3_takeName_X3_isLetter rfl rfl rfl (by decide +kernel) ⟨Nat.le_of_ble_eq_true rfl, Nat.le_of_ble_eq_true rfl⟩) rfl hl.1 rfl (Nat.le_of_ble_eq_true rfl) dX3_takeName_25 ⟨Nat.zero_le _, Nat.zero_le _⟩ (fun H locs hP hS => ?_)
        refine lv_if_eq (tgt := 44) hx hb dX3_takeName_28 (by decide) (fun c4 => ?_) (fun c4 => ?_)
        · have hf := if_t c4 hf
          exact fin dX3_takeName_44  (by rw [(s0 hf)]) hP hS
        · have hf := if_f c4 hf
          refine lv_aload_n hx hb dX3_takeName_31 rfl (lv_at hl 0 rfl) ?_
          refine lv_dup hx hb dX3_takeName_32 rfl ?_
          refine g_get (v := .int (z 0 2)) S hB hinX3 hP m_1_0 rfl rfl 2 (by decide) fl19 rfl rfl dX3_takeName_33 ?_
          refine lv_iconst (v := 1) hx hb dX3_takeName_36 (by decide) ?_
          refine lv_iadd hx hb dX3_takeName_37 ?_
          refine g_put S hB hE hinX3 tyX3 tyX3_ok nmX3 hP hS m_1_0 rfl rfl 2 (by decide) fl19 rfl rfl rfl rfl (Nat.le_of_ble_eq_true rfl) (by exact (fun _ => rfl) _) (X' := (va_up σ 1 (ob z 0 2 ((z 0 2) + (1 : Int32))))) (lens_put σ 1 _ _ _ _) dX3_takeName_38 (fun H locs hP hS => ?_)
          refine lv_goto (tgt := 5) hx hb dX3_takeName_41 (by decide) ?_
          exact ih5 (ob z 0 2 ((z 0 2) + (1 : Int32))) _ _ _ hf hP hS (lv_sub hl [0] rfl)
  unfold f_X3_takeName at hf
  refine lv_aload_n hx hb dX3_takeName_0 rfl (lv_at hl 0 rfl) ?_
  refine lv_iconst (v := 1) hx hb dX3_takeName_1 (by decide) ?_
  refine g_put S hB hE hinX3 tyX3 tyX3_ok nmX3 hP hS m_1_0 rfl rfl 4 (by decide) fl25 rfl rfl rfl rfl (Nat.le_of_ble_eq_true rfl) (by exact (fun _ => rfl) _) (X' := (va_up σ 1 (ob z 0 4 (1 : Int32)))) (lens_put σ 1 _ _ _ _) dX3_takeName_2 (fun H locs hP hS => ?_)
  exact hL5 FUEL (ob z 0 4 (1 : Int32)) _ _ _ hf hP hS (lv_sub hl [0] rfl)
theorem KW_X3_takeName (l : Launch) {E : En} (hE : Inj E) (X : Wd) {z' : Ob} (hf : f_X3_takeName (X 1) = some z') : Ctv l E yX3_takeName wsX3_takeName rm_X3_takeName [.ref (E.ad 1 0)] X  (va_up X 1 z') := by
  have h := K_X3_takeName l hE X (X 1)  hf
  rw [lens_all] at h
  exact h
/-! X3_isFigure -/
abbrev rm_X3_isFigure : Room := { frames := 0, cells := 0, slots := 0, locals := 0 }
set_option maxHeartbeats 4000000 in
set_option maxRecDepth 100000 in
theorem K_X3_isFigure (l : Launch) {E : En} (hE : Inj E) (X : Wd) (a0 : Int32) {r : Int32} (hf : f_X3_isFigure a0 = some r) : Cti l E yX3_isFigure wsX3_isFigure rm_X3_isFigure [.int a0] X r X := by
  refine meet_z (cc := cX3_isFigure) (maxL := 1) (own := RX3) (by decide) rfl rfl (Nat.le_of_ble_eq_true rfl) ?_
  intro p e s m below meth c Z S hB fin hP hS ls hl
  have hx := S.1
  have hb := S.2.1
  have hl : lv_has ls 1 [(0, .int a0)] := hl
  unfold f_X3_isFigure at hf
  refine lv_iload_n hx hb dX3_isFigure_0 rfl (lv_at hl 0 rfl) ?_
  refine lv_bipush (v := 48) hx hb dX3_isFigure_1 (by decide) ?_
  refine lv_icmp_lt (tgt := 16) hx hb dX3_isFigure_3 (by decide) (fun c1 => ?_) (fun c1 => ?_)
  · have hf := if_t c1 hf
    refine lv_iconst (v := 0) hx hb dX3_isFigure_16 (by decide) ?_
    exact fin dX3_isFigure_17 (nz01 (by decide)) (s0 hf) rfl hP hS
  · have hf := if_f c1 hf
    refine lv_iload_n hx hb dX3_isFigure_6 rfl (lv_at hl 0 rfl) ?_
    refine lv_bipush (v := 57) hx hb dX3_isFigure_7 (by decide) ?_
    refine lv_icmp_gt (tgt := 16) hx hb dX3_isFigure_9 (by decide) (fun c2 => ?_) (fun c2 => ?_)
    · have hf := if_t c2 hf
      refine lv_iconst (v := 0) hx hb dX3_isFigure_16 (by decide) ?_
      exact fin dX3_isFigure_17 (nz01 (by decide)) (s0 hf) rfl hP hS
    · have hf := if_f c2 hf
      refine lv_iconst (v := 1) hx hb dX3_isFigure_12 (by decide) ?_
      refine lv_goto (tgt := 17) hx hb dX3_isFigure_13 (by decide) ?_
      exact fin dX3_isFigure_17 (nz01 (by decide)) (s0 hf) rfl hP hS
/-! X3_takeFigures -/
abbrev rm_X3_takeFigures : Room := { frames := 1, cells := 0, slots := 0, locals := 20 }
set_option maxHeartbeats 4000000 in
set_option maxRecDepth 100000 in
theorem K_X3_takeFigures (l : Launch) {E : En} (hE : Inj E) (σ : Wd) (z : Ob) {z' : Ob} (hf : f_X3_takeFigures z = some z') : Ctv l E yX3_takeFigures wsX3_takeFigures rm_X3_takeFigures [.ref (E.ad 1 0)] (va_up σ 1 z)  (va_up σ 1 z') := by
  refine meet_v (cc := cX3_takeFigures) (maxL := 1) (own := RX3) (by decide) rfl rfl (Nat.le_of_ble_eq_true rfl) ?_
  intro p e s m below meth c Z S hB fin hP hS ls hl
  have hx := S.1
  have hb := S.2.1
  have hl : lv_has ls 1 [(0, .ref (E.ad 1 0))] := hl
  have hinX3 : ∀ w ∈ u_ws RX3 TX3 8, w ∈ wsX3_takeFigures := by decide +kernel
  have fl9 := S.2.2.2.2 (.fieldLink RX3 9 "MownMaze$Reader" "tape" "[B") (by decide +kernel)
  have fl15 := S.2.2.2.2 (.fieldLink RX3 15 "MownMaze$Reader" "length" "I") (by decide +kernel)
  have fl19 := S.2.2.2.2 (.fieldLink RX3 19 "MownMaze$Reader" "place" "I") (by decide +kernel)
  have fl22 := S.2.2.2.2 (.fieldLink RX3 22 "MownMaze$Reader" "start" "I") (by decide +kernel)
  have fl25 := S.2.2.2.2 (.fieldLink RX3 25 "MownMaze$Reader" "token" "I") (by decide +kernel)
  have fl28 := S.2.2.2.2 (.fieldLink RX3 28 "MownMaze$Reader" "number" "I") (by decide +kernel)
  have hB87 : ∀ (z : Ob) (y0 : Int32) (H : Heap) (locs : List Loc) (ls : Array Slot), f_X3_takeFigures_b87 z y0 = some z' → va_P E.1 vwCl (GW E (va_up σ 1 z)) H → va_S (GA E) s.heap H locs → lv_has ls 1 [] → W p l e rm_X3_takeFigures s m ([.ref (E.ad 1 0)] : List Value).toArray below meth c H locs 0 0 Z (F0 m 87 ls [.int y0, .ref (E.ad 1 0)]) := by
    intro z y0 H locs ls hf hP hS hl
    unfold f_X3_takeFigures_b87 at hf
    refine g_put S hB hE hinX3 tyX3 tyX3_ok nmX3 hP hS m_1_0 rfl rfl 4 (by decide) fl25 rfl rfl rfl rfl (Nat.le_of_ble_eq_true rfl) (by exact (fun _ => rfl) _) (X' := (va_up σ 1 (ob z 0 4 y0))) (lens_put σ 1 _ _ _ _) dX3_takeFigures_87 (fun H locs hP hS => ?_)
    exact fin dX3_takeFigures_90  (by rw [(s0 hf)]) hP hS
  have hB68 : ∀ (z : Ob) (H : Heap) (locs : List Loc) (ls : Array Slot), f_X3_takeFigures_b68 z = some z' → va_P E.1 vwCl (GW E (va_up σ 1 z)) H → va_S (GA E) s.heap H locs → lv_has ls 1 [(0, .ref (E.ad 1 0))] → W p l e rm_X3_takeFigures s m ([.ref (E.ad 1 0)] : List Value).toArray below meth c H locs 0 0 Z (F0 m 68 ls []) := by
    intro z H locs ls hf hP hS hl
    unfold f_X3_takeFigures_b68 at hf
    refine lv_aload_n hx hb dX3_takeFigures_68 rfl (lv_at hl 0 rfl) ?_
    refine lv_aload_n hx hb dX3_takeFigures_69 rfl (lv_at hl 0 rfl) ?_
    refine g_get (v := .int (z 0 2)) S hB hinX3 hP m_1_0 rfl rfl 2 (by decide) fl19 rfl rfl dX3_takeFigures_70 ?_
    refine lv_aload_n hx hb dX3_takeFigures_73 rfl (lv_at hl 0 rfl) ?_
    refine g_get (v := .int (z 0 3)) S hB hinX3 hP m_1_0 rfl rfl 3 (by decide) fl22 rfl rfl dX3_takeFigures_74 ?_
    refine lv_isub hx hb dX3_takeFigures_77 ?_
    refine lv_iconst (v := 2) hx hb dX3_takeFigures_78 (by decide) ?_
    refine lv_icmp_le (tgt := 86) hx hb dX3_takeFigures_79 (by decide) (fun c1 => ?_) (fun c1 => ?_)
    · have hf := if_t c1 hf
      refine lv_iconst (v := 2) hx hb dX3_takeFigures_86 (by decide) ?_
      exact hB87 z (2 : Int32) _ _ _ hf hP hS (lv_sub hl [] rfl)
    · have hf := if_f c1 hf
      refine lv_iconst (v := 0) hx hb dX3_takeFigures_82 (by decide) ?_
      refine lv_goto (tgt := 87) hx hb dX3_takeFigures_83 (by decide) ?_
      exact hB87 z (0 : Int32) _ _ _ hf hP hS (lv_sub hl [] rfl)
  have hL5 : ∀ (n5 : Nat) (z : Ob) (H : Heap) (locs : List Loc) (ls : Array Slot), f_X3_takeFigures_l5 n5 z = some z' → va_P E.1 vwCl (GW E (va_up σ 1 z)) H → va_S (GA E) s.heap H locs → lv_has ls 1 [(0, .ref (E.ad 1 0))] → W p l e rm_X3_takeFigures s m ([.ref (E.ad 1 0)] : List Value).toArray below meth c H locs 0 0 Z (F0 m 5 ls []) := by
    intro n5
    induction n5 with
    | zero =>
      intro z H locs ls hf
      cases (show (none : Option _) = some _ from hf)
    | succ n5 ih5 =>
      intro z H locs ls hf hP hS hl
      unfold f_X3_takeFigures_l5 at hf
      refine lv_aload_n hx hb dX3_takeFigures_5 rfl (lv_at hl 0 rfl) ?_
      refine g_get (v := .int (z 0 2)) S hB hinX3 hP m_1_0 rfl rfl 2 (by decide) fl19 rfl rfl dX3_takeFigures_6 ?_
      refine lv_aload_n hx hb dX3_takeFigures_9 rfl (lv_at hl 0 rfl) ?_
      refine g_get (v := .int (z 0 1)) S hB hinX3 hP m_1_0 rfl rfl 1 (by decide) fl15 rfl rfl dX3_takeFigures_10 ?_
      refine lv_icmp_ge (tgt := 68) hx hb dX3_takeFigures_13 (by decide) (fun c2 => ?_) (fun c2 => ?_)
      · have hf := if_t c2 hf
        exact hB68 z _ _ _ hf hP hS (lv_sub hl [0] rfl)
      · have hf := if_f c2 hf
        refine lv_aload_n hx hb dX3_takeFigures_16 rfl (lv_at hl 0 rfl) ?_
        refine g_get (v := .ref (E.ad 1 1)) S hB hinX3 hP m_1_0 rfl rfl 0 (by decide) fl9 rfl rfl dX3_takeFigures_17 ?_
        refine lv_aload_n hx hb dX3_takeFigures_20 rfl (lv_at hl 0 rfl) ?_
        refine g_get (v := .int (z 0 2)) S hB hinX3 hP m_1_0 rfl rfl 2 (by decide) fl19 rfl rfl dX3_takeFigures_21 ?_
        obtain ⟨hv3, hf⟩ := ck_some hf
        refine g_bald (r := z 1) S hB hP m_1_1 rfl hv3 dX3_takeFigures_24 ?_
        refine W.eq (g2 := F0 m 25 ls [.int (z 1 ((z 0 2).toNatClampNeg))]) rfl ?_
        obtain ⟨q4, hq4, hf⟩ := bind_some hf
        refine callS_i (As := [.int (z 1 ((z 0 2).toNatClampNeg))]) (rest := []) S hB hP hS (K_X3_isFigure l hE (va_up σ 1 z) (z 1 ((z 0 2).toNatClampNeg)) hq4) (va_cwS 1 S.2.2.2.2 gX3_takeFigures_X3_isFigure rfl rfl rfl (by decide +kernel) ⟨Nat.le_of_ble_eq_true rfl, Nat.le_of_ble_eq_true rfl⟩) rfl hl.1 rfl (Nat.le_of_ble_eq_true rfl) dX3_takeFigures_25 ⟨Nat.zero_le _, Nat.zero_le _⟩ (fun H locs hP hS => ?_)
        refine lv_if_eq (tgt := 68) hx hb dX3_takeFigures_28 (by decide) (fun c5 => ?_) (fun c5 => ?_)
        · have hf := if_t c5 hf
          exact hB68 z _ _ _ hf hP hS (lv_sub hl [0] rfl)
        · have hf := if_f c5 hf
          refine lv_aload_n hx hb dX3_takeFigures_31 rfl (lv_at hl 0 rfl) ?_
          refine lv_aload_n hx hb dX3_takeFigures_32 rfl (lv_at hl 0 rfl) ?_
          refine g_get (v := .int (z 0 5)) S hB hinX3 hP m_1_0 rfl rfl 5 (by decide) fl28 rfl rfl dX3_takeFigures_33 ?_
          refine lv_bipush (v := 10) hx hb dX3_takeFigures_36 (by decide) ?_
          refine lv_imul hx hb dX3_takeFigures_38 ?_
          refine lv_aload_n hx hb dX3_takeFigures_39 rfl (lv_at hl 0 rfl) ?_
          refine g_get (v := .ref (E.ad 1 1)) S hB hinX3 hP m_1_0 rfl rfl 0 (by decide) fl9 rfl rfl dX3_takeFigures_40 ?_
          refine lv_aload_n hx hb dX3_takeFigures_43 rfl (lv_at hl 0 rfl) ?_
          refine g_get (v := .int (z 0 2)) S hB hinX3 hP m_1_0 rfl rfl 2 (by decide) fl19 rfl rfl dX3_takeFigures_44 ?_
          obtain ⟨hv6, hf⟩ := ck_some hf
          refine g_bald (r := z 1) S hB hP m_1_1 rfl hv6 dX3_takeFigures_47 ?_
          refine W.eq (g2 := F0 m 48 ls [.int (z 1 ((z 0 2).toNatClampNeg)), .int ((z 0 5) * (10 : Int32)), .ref (E.ad 1 0)]) rfl ?_
          refine lv_iadd hx hb dX3_takeFigures_48 ?_
          refine lv_bipush (v := 48) hx hb dX3_takeFigures_49 (by decide) ?_
          refine lv_isub hx hb dX3_takeFigures_51 ?_
          refine g_put S hB hE hinX3 tyX3 tyX3_ok nmX3 hP hS m_1_0 rfl rfl 5 (by decide) fl28 rfl rfl rfl rfl (Nat.le_of_ble_eq_true rfl) (by exact (fun _ => rfl) _) (X' := (va_up σ 1 (ob z 0 5 ((((z 0 5) * (10 : Int32)) + (z 1 ((z 0 2).toNatClampNeg))) - (48 : Int32))))) (lens_put σ 1 _ _ _ _) dX3_takeFigures_52 (fun H locs hP hS => ?_)
          refine lv_aload_n hx hb dX3_takeFigures_55 rfl (lv_at hl 0 rfl) ?_
          refine lv_dup hx hb dX3_takeFigures_56 rfl ?_
          refine g_get (v := .int (z 0 2)) S hB hinX3 hP m_1_0 rfl rfl 2 (by decide) fl19 rfl rfl dX3_takeFigures_57 ?_
          refine lv_iconst (v := 1) hx hb dX3_takeFigures_60 (by decide) ?_
          refine lv_iadd hx hb dX3_takeFigures_61 ?_
          refine g_put S hB hE hinX3 tyX3 tyX3_ok nmX3 hP hS m_1_0 rfl rfl 2 (by decide) fl19 rfl rfl rfl rfl (Nat.le_of_ble_eq_true rfl) (by exact (fun _ => rfl) _) (X' := (va_up σ 1 (ob (ob z 0 5 ((((z 0 5) * (10 : Int32)) + (z 1 ((z 0 2).toNatClampNeg))) - (48 : Int32))) 0 2 ((z 0 2) + (1 : Int32))))) (lens_put σ 1 _ _ _ _) dX3_takeFigures_62 (fun H locs hP hS => ?_)
          refine lv_goto (tgt := 5) hx hb dX3_takeFigures_65 (by decide) ?_
          exact ih5 (ob (ob z 0 5 ((((z 0 5) * (10 : Int32)) + (z 1 ((z 0 2).toNatClampNeg))) - (48 : Int32))) 0 2 ((z 0 2) + (1 : Int32))) _ _ _ hf hP hS (lv_sub hl [0] rfl)
  unfold f_X3_takeFigures at hf
  refine lv_aload_n hx hb dX3_takeFigures_0 rfl (lv_at hl 0 rfl) ?_
  refine lv_iconst (v := 0) hx hb dX3_takeFigures_1 (by decide) ?_
  refine g_put S hB hE hinX3 tyX3 tyX3_ok nmX3 hP hS m_1_0 rfl rfl 5 (by decide) fl28 rfl rfl rfl rfl (Nat.le_of_ble_eq_true rfl) (by exact (fun _ => rfl) _) (X' := (va_up σ 1 (ob z 0 5 (0 : Int32)))) (lens_put σ 1 _ _ _ _) dX3_takeFigures_2 (fun H locs hP hS => ?_)
  exact hL5 FUEL (ob z 0 5 (0 : Int32)) _ _ _ hf hP hS (lv_sub hl [0] rfl)
theorem KW_X3_takeFigures (l : Launch) {E : En} (hE : Inj E) (X : Wd) {z' : Ob} (hf : f_X3_takeFigures (X 1) = some z') : Ctv l E yX3_takeFigures wsX3_takeFigures rm_X3_takeFigures [.ref (E.ad 1 0)] X  (va_up X 1 z') := by
  have h := K_X3_takeFigures l hE X (X 1)  hf
  rw [lens_all] at h
  exact h
/-! X3_takeToken -/
abbrev rm_X3_takeToken : Room := { frames := 2, cells := 0, slots := 0, locals := 40 }
set_option maxHeartbeats 4000000 in
set_option maxRecDepth 100000 in
theorem K_X3_takeToken (l : Launch) {E : En} (hE : Inj E) (σ : Wd) (z : Ob) {z' : Ob} (hf : f_X3_takeToken z = some z') : Ctv l E yX3_takeToken wsX3_takeToken rm_X3_takeToken [.ref (E.ad 1 0)] (va_up σ 1 z)  (va_up σ 1 z') := by
  refine meet_v (cc := cX3_takeToken) (maxL := 1) (own := RX3) (by decide) rfl rfl (Nat.le_of_ble_eq_true rfl) ?_
  intro p e s m below meth c Z S hB fin hP hS ls hl
  have hx := S.1
  have hb := S.2.1
  have hl : lv_has ls 1 [(0, .ref (E.ad 1 0))] := hl
  have hinX3 : ∀ w ∈ u_ws RX3 TX3 8, w ∈ wsX3_takeToken := by decide +kernel
  have fl9 := S.2.2.2.2 (.fieldLink RX3 9 "MownMaze$Reader" "tape" "[B") (by decide +kernel)
  have fl15 := S.2.2.2.2 (.fieldLink RX3 15 "MownMaze$Reader" "length" "I") (by decide +kernel)
  have fl19 := S.2.2.2.2 (.fieldLink RX3 19 "MownMaze$Reader" "place" "I") (by decide +kernel)
  have fl22 := S.2.2.2.2 (.fieldLink RX3 22 "MownMaze$Reader" "start" "I") (by decide +kernel)
  have fl25 := S.2.2.2.2 (.fieldLink RX3 25 "MownMaze$Reader" "token" "I") (by decide +kernel)
  have hB129 : ∀ (z : Ob) (y0 : Int32) (H : Heap) (locs : List Loc) (ls : Array Slot), f_X3_takeToken_b129 z y0 = some z' → va_P E.1 vwCl (GW E (va_up σ 1 z)) H → va_S (GA E) s.heap H locs → lv_has ls 1 [(0, .ref (E.ad 1 0))] → W p l e rm_X3_takeToken s m ([.ref (E.ad 1 0)] : List Value).toArray below meth c H locs 0 0 Z (F0 m 129 ls [.int y0, .ref (E.ad 1 0)]) := by
    intro z y0 H locs ls hf hP hS hl
    unfold f_X3_takeToken_b129 at hf
    refine g_put S hB hE hinX3 tyX3 tyX3_ok nmX3 hP hS m_1_0 rfl rfl 4 (by decide) fl25 rfl rfl rfl rfl (Nat.le_of_ble_eq_true rfl) (by exact (fun _ => rfl) _) (X' := (va_up σ 1 (ob z 0 4 y0))) (lens_put σ 1 _ _ _ _) dX3_takeToken_129 (fun H locs hP hS => ?_)
    refine lv_aload_n hx hb dX3_takeToken_132 rfl (lv_at hl 0 rfl) ?_
    refine lv_dup hx hb dX3_takeToken_133 rfl ?_
    refine g_get (v := .int (z 0 2)) S hB hinX3 hP m_1_0 rfl rfl 2 (by decide) fl19 rfl rfl dX3_takeToken_134 ?_
    refine lv_iconst (v := 1) hx hb dX3_takeToken_137 (by decide) ?_
    refine lv_iadd hx hb dX3_takeToken_138 ?_
    refine g_put S hB hE hinX3 tyX3 tyX3_ok nmX3 hP hS m_1_0 rfl rfl 2 (by decide) fl19 rfl rfl rfl rfl (Nat.le_of_ble_eq_true rfl) (by exact (fun _ => rfl) _) (X' := (va_up σ 1 (ob (ob z 0 4 y0) 0 2 ((z 0 2) + (1 : Int32))))) (lens_put σ 1 _ _ _ _) dX3_takeToken_139 (fun H locs hP hS => ?_)
    exact fin dX3_takeToken_142  (by rw [(s0 hf)]) hP hS
  have hB38 : ∀ (z : Ob) (H : Heap) (locs : List Loc) (ls : Array Slot), f_X3_takeToken_b38 z = some z' → va_P E.1 vwCl (GW E (va_up σ 1 z)) H → va_S (GA E) s.heap H locs → lv_has ls 1 [(0, .ref (E.ad 1 0))] → W p l e rm_X3_takeToken s m ([.ref (E.ad 1 0)] : List Value).toArray below meth c H locs 0 0 Z (F0 m 38 ls []) := by
    intro z H locs ls hf hP hS hl
    unfold f_X3_takeToken_b38 at hf
    refine lv_aload_n hx hb dX3_takeToken_38 rfl (lv_at hl 0 rfl) ?_
    refine lv_aload_n hx hb dX3_takeToken_39 rfl (lv_at hl 0 rfl) ?_
    refine g_get (v := .int (z 0 2)) S hB hinX3 hP m_1_0 rfl rfl 2 (by decide) fl19 rfl rfl dX3_takeToken_40 ?_
    refine g_put S hB hE hinX3 tyX3 tyX3_ok nmX3 hP hS m_1_0 rfl rfl 3 (by decide) fl22 rfl rfl rfl rfl (Nat.le_of_ble_eq_true rfl) (by exact (fun _ => rfl) _) (X' := (va_up σ 1 (ob z 0 3 (z 0 2)))) (lens_put σ 1 _ _ _ _) dX3_takeToken_43 (fun H locs hP hS => ?_)
    refine lv_aload_n hx hb dX3_takeToken_46 rfl (lv_at hl 0 rfl) ?_
    refine g_get (v := .int (z 0 2)) S hB hinX3 hP m_1_0 rfl rfl 2 (by decide) fl19 rfl rfl dX3_takeToken_47 ?_
    refine lv_aload_n hx hb dX3_takeToken_50 rfl (lv_at hl 0 rfl) ?_
    refine g_get (v := .int (z 0 1)) S hB hinX3 hP m_1_0 rfl rfl 1 (by decide) fl15 rfl rfl dX3_takeToken_51 ?_
    refine lv_icmp_lt (tgt := 65) hx hb dX3_takeToken_54 (by decide) (fun c1 => ?_) (fun c1 => ?_)
    · have hf := if_t c1 hf
      refine lv_aload_n hx hb dX3_takeToken_65 rfl (lv_at hl 0 rfl) ?_
      refine g_get (v := .ref (E.ad 1 1)) S hB hinX3 hP m_1_0 rfl rfl 0 (by decide) fl9 rfl rfl dX3_takeToken_66 ?_
      refine lv_aload_n hx hb dX3_takeToken_69 rfl (lv_at hl 0 rfl) ?_
      refine g_get (v := .int (z 0 2)) S hB hinX3 hP m_1_0 rfl rfl 2 (by decide) fl19 rfl rfl dX3_takeToken_70 ?_
      obtain ⟨hv2, hf⟩ := ck_some hf
      refine g_bald (r := (ob z 0 3 (z 0 2)) 1) S hB hP m_1_1 rfl hv2 dX3_takeToken_73 ?_
      refine W.eq (g2 := F0 m 74 ls [.int (z 1 ((z 0 2).toNatClampNeg))]) rfl ?_
      obtain ⟨q3, hq3, hf⟩ := bind_some hf
      refine callS_i (As := [.int (z 1 ((z 0 2).toNatClampNeg))]) (rest := []) S hB hP hS (K_X3_isLetter l hE (va_up σ 1 (ob z 0 3 (z 0 2))) (z 1 ((z 0 2).toNatClampNeg)) hq3) (va_cwS 1 S.2.2.2.2 gX3_takeToken_X3_isLetter rfl rfl rfl (by decide +kernel) ⟨Nat.le_of_ble_eq_true rfl, Nat.le_of_ble_eq_true rfl⟩) rfl hl.1 rfl (Nat.le_of_ble_eq_true rfl) dX3_takeToken_74 ⟨Nat.zero_le _, Nat.zero_le _⟩ (fun H locs hP hS => ?_)
      refine lv_if_eq (tgt := 87) hx hb dX3_takeToken_77 (by decide) (fun c4 => ?_) (fun c4 => ?_)
      · have hf := if_t c4 hf
        refine lv_aload_n hx hb dX3_takeToken_87 rfl (lv_at hl 0 rfl) ?_
        refine g_get (v := .ref (E.ad 1 1)) S hB hinX3 hP m_1_0 rfl rfl 0 (by decide) fl9 rfl rfl dX3_takeToken_88 ?_
        refine lv_aload_n hx hb dX3_takeToken_91 rfl (lv_at hl 0 rfl) ?_
        refine g_get (v := .int (z 0 2)) S hB hinX3 hP m_1_0 rfl rfl 2 (by decide) fl19 rfl rfl dX3_takeToken_92 ?_
        obtain ⟨hv5, hf⟩ := ck_some hf
        refine g_bald (r := (ob z 0 3 (z 0 2)) 1) S hB hP m_1_1 rfl hv5 dX3_takeToken_95 ?_
        refine W.eq (g2 := F0 m 96 ls [.int (z 1 ((z 0 2).toNatClampNeg))]) rfl ?_
        obtain ⟨q6, hq6, hf⟩ := bind_some hf
        refine callS_i (As := [.int (z 1 ((z 0 2).toNatClampNeg))]) (rest := []) S hB hP hS (K_X3_isFigure l hE (va_up σ 1 (ob z 0 3 (z 0 2))) (z 1 ((z 0 2).toNatClampNeg)) hq6) (va_cwS 1 S.2.2.2.2 gX3_takeToken_X3_isFigure rfl rfl rfl (by decide +kernel) ⟨Nat.le_of_ble_eq_true rfl, Nat.le_of_ble_eq_true rfl⟩) rfl hl.1 rfl (Nat.le_of_ble_eq_true rfl) dX3_takeToken_96 ⟨Nat.zero_le _, Nat.zero_le _⟩ (fun H locs hP hS => ?_)
        refine lv_if_eq (tgt := 109) hx hb dX3_takeToken_99 (by decide) (fun c7 => ?_) (fun c7 => ?_)
        · have hf := if_t c7 hf
          refine lv_aload_n hx hb dX3_takeToken_109 rfl (lv_at hl 0 rfl) ?_
          refine lv_aload_n hx hb dX3_takeToken_110 rfl (lv_at hl 0 rfl) ?_
          refine g_get (v := .ref (E.ad 1 1)) S hB hinX3 hP m_1_0 rfl rfl 0 (by decide) fl9 rfl rfl dX3_takeToken_111 ?_
          refine lv_aload_n hx hb dX3_takeToken_114 rfl (lv_at hl 0 rfl) ?_
          refine g_get (v := .int (z 0 2)) S hB hinX3 hP m_1_0 rfl rfl 2 (by decide) fl19 rfl rfl dX3_takeToken_115 ?_
          obtain ⟨hv8, hf⟩ := ck_some hf
          refine g_bald (r := (ob z 0 3 (z 0 2)) 1) S hB hP m_1_1 rfl hv8 dX3_takeToken_118 ?_
          refine W.eq (g2 := F0 m 119 ls [.int (z 1 ((z 0 2).toNatClampNeg)), .ref (E.ad 1 0)]) rfl ?_
          refine lv_bipush (v := 59) hx hb dX3_takeToken_119 (by decide) ?_
          refine lv_icmp_ne (tgt := 128) hx hb dX3_takeToken_121 (by decide) (fun c9 => ?_) (fun c9 => ?_)
          · have hf := if_f c9 hf
            refine lv_iconst (v := 0) hx hb dX3_takeToken_128 (by decide) ?_
            exact hB129 (ob z 0 3 (z 0 2)) (0 : Int32) _ _ _ hf hP hS (lv_sub hl [0] rfl)
          · have hf := if_t c9 hf
            refine lv_iconst (v := 3) hx hb dX3_takeToken_124 (by decide) ?_
            refine lv_goto (tgt := 129) hx hb dX3_takeToken_125 (by decide) ?_
            exact hB129 (ob z 0 3 (z 0 2)) (3 : Int32) _ _ _ hf hP hS (lv_sub hl [0] rfl)
        · have hf := if_f c7 hf
          refine lv_aload_n hx hb dX3_takeToken_102 rfl (lv_at hl 0 rfl) ?_
          obtain ⟨q10, hq10, hf⟩ := bind_some hf
          refine callV_v (As := []) (rest := []) S hB hP hS (C := RX3) (b := E.ad 1 0) (g_recv (o := 1) (d := 0) hB hP m_1_0 rfl rfl) (K_X3_takeFigures l hE σ (ob z 0 3 (z 0 2)) hq10) (cwV 0 S.2.2.2.2 gX3_takeToken_X3_takeFigures rfl rfl rfl (by decide +kernel) ⟨Nat.le_of_ble_eq_true rfl, Nat.le_of_ble_eq_true rfl⟩) rfl hl.1 rfl (Nat.le_of_ble_eq_true rfl) dX3_takeToken_103 ⟨Nat.zero_le _, Nat.zero_le _⟩ (fun H locs hP hS => ?_)
          refine lv_goto (tgt := 142) hx hb dX3_takeToken_106 (by decide) ?_
          exact fin dX3_takeToken_142  (by rw [(s0 hf)]) hP hS
      · have hf := if_f c4 hf
        refine lv_aload_n hx hb dX3_takeToken_80 rfl (lv_at hl 0 rfl) ?_
        obtain ⟨q11, hq11, hf⟩ := bind_some hf
        refine callV_v (As := []) (rest := []) S hB hP hS (C := RX3) (b := E.ad 1 0) (g_recv (o := 1) (d := 0) hB hP m_1_0 rfl rfl) (K_X3_takeName l hE σ (ob z 0 3 (z 0 2)) hq11) (cwV 0 S.2.2.2.2 gX3_takeToken_X3_takeName rfl rfl rfl (by decide +kernel) ⟨Nat.le_of_ble_eq_true rfl, Nat.le_of_ble_eq_true rfl⟩) rfl hl.1 rfl (Nat.le_of_ble_eq_true rfl) dX3_takeToken_81 ⟨Nat.zero_le _, Nat.zero_le _⟩ (fun H locs hP hS => ?_)
        refine lv_goto (tgt := 142) hx hb dX3_takeToken_84 (by decide) ?_
        exact fin dX3_takeToken_142  (by rw [(s0 hf)]) hP hS
    · have hf := if_f c1 hf
      refine lv_aload_n hx hb dX3_takeToken_57 rfl (lv_at hl 0 rfl) ?_
      refine lv_iconst (v := 4) hx hb dX3_takeToken_58 (by decide) ?_
      refine g_put S hB hE hinX3 tyX3 tyX3_ok nmX3 hP hS m_1_0 rfl rfl 4 (by decide) fl25 rfl rfl rfl rfl (Nat.le_of_ble_eq_true rfl) (by exact (fun _ => rfl) _) (X' := (va_up σ 1 (ob (ob z 0 3 (z 0 2)) 0 4 (4 : Int32)))) (lens_put σ 1 _ _ _ _) dX3_takeToken_59 (fun H locs hP hS => ?_)
      refine lv_goto (tgt := 142) hx hb dX3_takeToken_62 (by decide) ?_
      exact fin dX3_takeToken_142  (by rw [(s0 hf)]) hP hS
  have hL0 : ∀ (n0 : Nat) (z : Ob) (H : Heap) (locs : List Loc) (ls : Array Slot), f_X3_takeToken_l0 n0 z = some z' → va_P E.1 vwCl (GW E (va_up σ 1 z)) H → va_S (GA E) s.heap H locs → lv_has ls 1 [(0, .ref (E.ad 1 0))] → W p l e rm_X3_takeToken s m ([.ref (E.ad 1 0)] : List Value).toArray below meth c H locs 0 0 Z (F0 m 0 ls []) := by
    intro n0
    induction n0 with
    | zero =>
      intro z H locs ls hf
      cases (show (none : Option _) = some _ from hf)
    | succ n0 ih0 =>
      intro z H locs ls hf hP hS hl
      unfold f_X3_takeToken_l0 at hf
      refine lv_aload_n hx hb dX3_takeToken_0 rfl (lv_at hl 0 rfl) ?_
      refine g_get (v := .int (z 0 2)) S hB hinX3 hP m_1_0 rfl rfl 2 (by decide) fl19 rfl rfl dX3_takeToken_1 ?_
      refine lv_aload_n hx hb dX3_takeToken_4 rfl (lv_at hl 0 rfl) ?_
      refine g_get (v := .int (z 0 1)) S hB hinX3 hP m_1_0 rfl rfl 1 (by decide) fl15 rfl rfl dX3_takeToken_5 ?_
      refine lv_icmp_ge (tgt := 38) hx hb dX3_takeToken_8 (by decide) (fun c12 => ?_) (fun c12 => ?_)
      · have hf := if_t c12 hf
        exact hB38 z _ _ _ hf hP hS (lv_sub hl [0] rfl)
      · have hf := if_f c12 hf
        refine lv_aload_n hx hb dX3_takeToken_11 rfl (lv_at hl 0 rfl) ?_
        refine g_get (v := .ref (E.ad 1 1)) S hB hinX3 hP m_1_0 rfl rfl 0 (by decide) fl9 rfl rfl dX3_takeToken_12 ?_
        refine lv_aload_n hx hb dX3_takeToken_15 rfl (lv_at hl 0 rfl) ?_
        refine g_get (v := .int (z 0 2)) S hB hinX3 hP m_1_0 rfl rfl 2 (by decide) fl19 rfl rfl dX3_takeToken_16 ?_
        obtain ⟨hv13, hf⟩ := ck_some hf
        refine g_bald (r := z 1) S hB hP m_1_1 rfl hv13 dX3_takeToken_19 ?_
        refine W.eq (g2 := F0 m 20 ls [.int (z 1 ((z 0 2).toNatClampNeg))]) rfl ?_
        refine lv_bipush (v := 32) hx hb dX3_takeToken_20 (by decide) ?_
        refine lv_icmp_ne (tgt := 38) hx hb dX3_takeToken_22 (by decide) (fun c14 => ?_) (fun c14 => ?_)
        · have hf := if_f c14 hf
          exact hB38 z _ _ _ hf hP hS (lv_sub hl [0] rfl)
        · have hf := if_t c14 hf
          refine lv_aload_n hx hb dX3_takeToken_25 rfl (lv_at hl 0 rfl) ?_
          refine lv_dup hx hb dX3_takeToken_26 rfl ?_
          refine g_get (v := .int (z 0 2)) S hB hinX3 hP m_1_0 rfl rfl 2 (by decide) fl19 rfl rfl dX3_takeToken_27 ?_
          refine lv_iconst (v := 1) hx hb dX3_takeToken_30 (by decide) ?_
          refine lv_iadd hx hb dX3_takeToken_31 ?_
          refine g_put S hB hE hinX3 tyX3 tyX3_ok nmX3 hP hS m_1_0 rfl rfl 2 (by decide) fl19 rfl rfl rfl rfl (Nat.le_of_ble_eq_true rfl) (by exact (fun _ => rfl) _) (X' := (va_up σ 1 (ob z 0 2 ((z 0 2) + (1 : Int32))))) (lens_put σ 1 _ _ _ _) dX3_takeToken_32 (fun H locs hP hS => ?_)
          refine lv_goto (tgt := 0) hx hb dX3_takeToken_35 (by decide) ?_
          exact ih0 (ob z 0 2 ((z 0 2) + (1 : Int32))) _ _ _ hf hP hS (lv_sub hl [0] rfl)
  unfold f_X3_takeToken at hf
  exact hL0 FUEL z _ _ _ hf hP hS (lv_sub hl [0] rfl)
theorem KW_X3_takeToken (l : Launch) {E : En} (hE : Inj E) (X : Wd) {z' : Ob} (hf : f_X3_takeToken (X 1) = some z') : Ctv l E yX3_takeToken wsX3_takeToken rm_X3_takeToken [.ref (E.ad 1 0)] X  (va_up X 1 z') := by
  have h := K_X3_takeToken l hE X (X 1)  hf
  rw [lens_all] at h
  exact h
/-! X3_fail -/
abbrev rm_X3_fail : Room := { frames := 0, cells := 0, slots := 0, locals := 0 }
set_option maxHeartbeats 4000000 in
set_option maxRecDepth 100000 in
theorem K_X3_fail (l : Launch) {E : En} (hE : Inj E) (σ : Wd) (z : Ob) (a1 : Int32) {r : Int32} {z' : Ob} (hf : f_X3_fail z a1 = some (r, z')) : Cti l E yX3_fail wsX3_fail rm_X3_fail [.ref (E.ad 1 0), .int a1] (va_up σ 1 z) r (va_up σ 1 z') := by
  refine meet_z (cc := cX3_fail) (maxL := 2) (own := RX3) (by decide) rfl rfl (Nat.le_of_ble_eq_true rfl) ?_
  intro p e s m below meth c Z S hB fin hP hS ls hl
  have hx := S.1
  have hb := S.2.1
  have hl : lv_has ls 2 [(0, .ref (E.ad 1 0)), (1, .int a1)] := hl
  have hinX3 : ∀ w ∈ u_ws RX3 TX3 8, w ∈ wsX3_fail := by decide +kernel
  have fl31 := S.2.2.2.2 (.fieldLink RX3 31 "MownMaze$Reader" "fault" "I") (by decide +kernel)
  unfold f_X3_fail at hf
  refine lv_aload_n hx hb dX3_fail_0 rfl (lv_at hl 0 rfl) ?_
  refine lv_iload_n hx hb dX3_fail_1 rfl (lv_at hl 1 rfl) ?_
  refine g_put S hB hE hinX3 tyX3 tyX3_ok nmX3 hP hS m_1_0 rfl rfl 6 (by decide) fl31 rfl rfl rfl rfl (Nat.le_of_ble_eq_true rfl) (by exact (fun _ => rfl) _) (X' := (va_up σ 1 (ob z 0 6 a1))) (lens_put σ 1 _ _ _ _) dX3_fail_2 (fun H locs hP hS => ?_)
  refine lv_iconst (v := 0) hx hb dX3_fail_5 (by decide) ?_
  exact fin dX3_fail_6 (nz01 (by decide)) (s1 hf) (by rw [(s2 hf)]) hP hS
theorem KW_X3_fail (l : Launch) {E : En} (hE : Inj E) (X : Wd) (a1 : Int32) {r : Int32} {z' : Ob} (hf : f_X3_fail (X 1) a1 = some (r, z')) : Cti l E yX3_fail wsX3_fail rm_X3_fail [.ref (E.ad 1 0), .int a1] X r (va_up X 1 z') := by
  have h := K_X3_fail l hE X (X 1) a1 hf
  rw [lens_all] at h
  exact h
/-! X3_failAtToken -/
abbrev rm_X3_failAtToken : Room := { frames := 1, cells := 0, slots := 0, locals := 21 }
set_option maxHeartbeats 4000000 in
set_option maxRecDepth 100000 in
theorem K_X3_failAtToken (l : Launch) {E : En} (hE : Inj E) (σ : Wd) (z : Ob) {r : Int32} {z' : Ob} (hf : f_X3_failAtToken z = some (r, z')) : Cti l E yX3_failAtToken wsX3_failAtToken rm_X3_failAtToken [.ref (E.ad 1 0)] (va_up σ 1 z) r (va_up σ 1 z') := by
  refine meet_z (cc := cX3_failAtToken) (maxL := 1) (own := RX3) (by decide) rfl rfl (Nat.le_of_ble_eq_true rfl) ?_
  intro p e s m below meth c Z S hB fin hP hS ls hl
  have hx := S.1
  have hb := S.2.1
  have hl : lv_has ls 1 [(0, .ref (E.ad 1 0))] := hl
  have hinX3 : ∀ w ∈ u_ws RX3 TX3 8, w ∈ wsX3_failAtToken := by decide +kernel
  have fl25 := S.2.2.2.2 (.fieldLink RX3 25 "MownMaze$Reader" "token" "I") (by decide +kernel)
  have hB13 : ∀ (z : Ob) (y0 : Int32) (H : Heap) (locs : List Loc) (ls : Array Slot), f_X3_failAtToken_b13 z y0 = some (r, z') → va_P E.1 vwCl (GW E (va_up σ 1 z)) H → va_S (GA E) s.heap H locs → lv_has ls 1 [] → W p l e rm_X3_failAtToken s m ([.ref (E.ad 1 0)] : List Value).toArray below meth c H locs 0 0 Z (F0 m 13 ls [.int y0, .ref (E.ad 1 0)]) := by
    intro z y0 H locs ls hf hP hS hl
    unfold f_X3_failAtToken_b13 at hf
    obtain ⟨q2, hq2, hf⟩ := bind_some hf
    refine callV_i (As := [.int y0]) (rest := []) S hB hP hS (C := RX3) (b := E.ad 1 0) (g_recv (o := 1) (d := 0) hB hP m_1_0 rfl rfl) (K_X3_fail l hE σ z y0 hq2) (cwV 1 S.2.2.2.2 gX3_failAtToken_X3_fail rfl rfl rfl (by decide +kernel) ⟨Nat.le_of_ble_eq_true rfl, Nat.le_of_ble_eq_true rfl⟩) rfl hl.1 rfl (Nat.le_of_ble_eq_true rfl) dX3_failAtToken_13 ⟨Nat.zero_le _, Nat.zero_le _⟩ (fun H locs hP hS => ?_)
    obtain ⟨hv3, hf⟩ := ckb_some hf
    exact fin dX3_failAtToken_16 (nz01 hv3) (s1 hf) (by rw [(s2 hf)]) hP hS
  unfold f_X3_failAtToken at hf
  refine lv_aload_n hx hb dX3_failAtToken_0 rfl (lv_at hl 0 rfl) ?_
  refine lv_aload_n hx hb dX3_failAtToken_1 rfl (lv_at hl 0 rfl) ?_
  refine g_get (v := .int (z 0 4)) S hB hinX3 hP m_1_0 rfl rfl 4 (by decide) fl25 rfl rfl dX3_failAtToken_2 ?_
  refine lv_if_ne (tgt := 12) hx hb dX3_failAtToken_5 (by decide) (fun c1 => ?_) (fun c1 => ?_)
  · have hf := if_f c1 hf
    refine lv_iconst (v := 2) hx hb dX3_failAtToken_12 (by decide) ?_
    exact hB13 z (2 : Int32) _ _ _ hf hP hS (lv_sub hl [] rfl)
  · have hf := if_t c1 hf
    refine lv_iconst (v := 1) hx hb dX3_failAtToken_8 (by decide) ?_
    refine lv_goto (tgt := 13) hx hb dX3_failAtToken_9 (by decide) ?_
    exact hB13 z (1 : Int32) _ _ _ hf hP hS (lv_sub hl [] rfl)
theorem KW_X3_failAtToken (l : Launch) {E : En} (hE : Inj E) (X : Wd) {r : Int32} {z' : Ob} (hf : f_X3_failAtToken (X 1) = some (r, z')) : Cti l E yX3_failAtToken wsX3_failAtToken rm_X3_failAtToken [.ref (E.ad 1 0)] X r (va_up X 1 z') := by
  have h := K_X3_failAtToken l hE X (X 1)  hf
  rw [lens_all] at h
  exact h
/-! X3_spells -/
abbrev rm_X3_spells : Room := { frames := 4, cells := 0, slots := 0, locals := 85 }
set_option maxHeartbeats 4000000 in
set_option maxRecDepth 100000 in
theorem K_X3_spells (l : Launch) {E : En} (hE : Inj E) (σ : Wd) (z : Ob) {i : Nat} (hi : i < 7) {r : Int32} (hf : f_X3_spells z i = some r) : Cti l E yX3_spells wsX3_spells rm_X3_spells [.ref (E.ad 1 0), .ref (E.kS i)] (va_up σ 1 z) r (va_up σ 1 z) := by
  refine meet_z (cc := cX3_spells) (maxL := 3) (own := RX3) (by decide) rfl rfl (Nat.le_of_ble_eq_true rfl) ?_
  intro p e s m below meth c Z S hB fin hP hS ls hl
  have hx := S.1
  have hb := S.2.1
  have hl : lv_has ls 3 [(0, .ref (E.ad 1 0)), (1, .ref (E.kS i))] := hl
  have hinX3 : ∀ w ∈ u_ws RX3 TX3 8, w ∈ wsX3_spells := by decide +kernel
  have fl9 := S.2.2.2.2 (.fieldLink RX3 9 "MownMaze$Reader" "tape" "[B") (by decide +kernel)
  have fl19 := S.2.2.2.2 (.fieldLink RX3 19 "MownMaze$Reader" "place" "I") (by decide +kernel)
  have fl22 := S.2.2.2.2 (.fieldLink RX3 22 "MownMaze$Reader" "start" "I") (by decide +kernel)
  have hL20 : ∀ (n20 : Nat) (x2 : Int32) (H : Heap) (locs : List Loc) (ls : Array Slot), f_X3_spells_l20 n20 z x2 i = some r → va_P E.1 vwCl (GW E (va_up σ 1 z)) H → va_S (GA E) s.heap H locs → lv_has ls 3 [(0, .ref (E.ad 1 0)), (1, .ref (E.kS i)), (2, .int x2)] → W p l e rm_X3_spells s m ([.ref (E.ad 1 0), .ref (E.kS i)] : List Value).toArray below meth c H locs 0 0 Z (F0 m 20 ls []) := by
    intro n20
    induction n20 with
    | zero =>
      intro x2 H locs ls hf
      cases (show (none : Option _) = some _ from hf)
    | succ n20 ih20 =>
      intro x2 H locs ls hf hP hS hl
      unfold f_X3_spells_l20 at hf
      refine lv_iload_n hx hb dX3_spells_20 rfl (lv_at hl 2 rfl) ?_
      refine lv_aload_n hx hb dX3_spells_21 rfl (lv_at hl 1 rfl) ?_
      refine callV_i (As := []) (rest := [.int x2]) S hB hP hS (C := RJ0) (b := E.kS i) (vk_recv hB.2.1 hi hS) (K_J0_length l hE (va_up σ 1 z) hi) (cwV 0 S.2.2.2.2 gX3_spells_J0_length_8abf5 rfl rfl rfl (by decide +kernel) ⟨Nat.le_of_ble_eq_true rfl, Nat.le_of_ble_eq_true rfl⟩) rfl hl.1 rfl (Nat.le_of_ble_eq_true rfl) dX3_spells_22 ⟨Nat.zero_le _, Nat.zero_le _⟩ (fun H locs hP hS => ?_)
      refine lv_icmp_ge (tgt := 55) hx hb dX3_spells_25 (by decide) (fun c4 => ?_) (fun c4 => ?_)
      · have hf := if_t c4 hf
        refine lv_iconst (v := 1) hx hb dX3_spells_55 (by decide) ?_
        exact fin dX3_spells_56 (nz01 (by decide)) (s0 hf) rfl hP hS
      · have hf := if_f c4 hf
        refine lv_aload_n hx hb dX3_spells_28 rfl (lv_at hl 0 rfl) ?_
        refine g_get (v := .ref (E.ad 1 1)) S hB hinX3 hP m_1_0 rfl rfl 0 (by decide) fl9 rfl rfl dX3_spells_29 ?_
        refine lv_aload_n hx hb dX3_spells_32 rfl (lv_at hl 0 rfl) ?_
        refine g_get (v := .int (z 0 3)) S hB hinX3 hP m_1_0 rfl rfl 3 (by decide) fl22 rfl rfl dX3_spells_33 ?_
        refine lv_iload_n hx hb dX3_spells_36 rfl (lv_at hl 2 rfl) ?_
        refine lv_iadd hx hb dX3_spells_37 ?_
        obtain ⟨hv5, hf⟩ := ck_some hf
        refine g_bald (r := z 1) S hB hP m_1_1 rfl hv5 dX3_spells_38 ?_
        refine W.eq (g2 := F0 m 39 ls [.int (z 1 (((z 0 3) + x2).toNatClampNeg))]) rfl ?_
        refine lv_aload_n hx hb dX3_spells_39 rfl (lv_at hl 1 rfl) ?_
        refine lv_iload_n hx hb dX3_spells_40 rfl (lv_at hl 2 rfl) ?_
        obtain ⟨hv7, hf⟩ := ck_some hf
        refine callV_i (As := [.int x2]) (rest := [.int (z 1 (((z 0 3) + x2).toNatClampNeg))]) S hB hP hS (C := RJ0) (b := E.kS i) (vk_recv hB.2.1 hi hS) (K_J0_charAt l hE (va_up σ 1 z) hi hv7) (cwV 1 S.2.2.2.2 gX3_spells_J0_charAt_5068e rfl rfl rfl (by decide +kernel) ⟨Nat.le_of_ble_eq_true rfl, Nat.le_of_ble_eq_true rfl⟩) rfl hl.1 rfl (Nat.le_of_ble_eq_true rfl) dX3_spells_41 ⟨Nat.zero_le _, Nat.zero_le _⟩ (fun H locs hP hS => ?_)
        refine lv_icmp_eq (tgt := 49) hx hb dX3_spells_44 (by decide) (fun c8 => ?_) (fun c8 => ?_)
        · have hf := if_t c8 hf
          refine lv_iinc (v := x2 + (1 : Int32)) (lv' := [(2, .int (x2 + (1 : Int32))), (0, .ref (E.ad 1 0)), (1, .ref (E.kS i))]) hx hb dX3_spells_49 hl (k := 2) rfl rfl (by decide) rfl (fun ls hl => ?_)
          refine lv_goto (tgt := 20) hx hb dX3_spells_52 (by decide) ?_
          exact ih20 (x2 + (1 : Int32)) _ _ _ hf hP hS (lv_sub hl [1, 2, 0] rfl)
        · have hf := if_f c8 hf
          refine lv_iconst (v := 0) hx hb dX3_spells_47 (by decide) ?_
          exact fin dX3_spells_48 (nz01 (by decide)) (s0 hf) rfl hP hS
  unfold f_X3_spells at hf
  refine lv_aload_n hx hb dX3_spells_0 rfl (lv_at hl 0 rfl) ?_
  refine g_get (v := .int (z 0 2)) S hB hinX3 hP m_1_0 rfl rfl 2 (by decide) fl19 rfl rfl dX3_spells_1 ?_
  refine lv_aload_n hx hb dX3_spells_4 rfl (lv_at hl 0 rfl) ?_
  refine g_get (v := .int (z 0 3)) S hB hinX3 hP m_1_0 rfl rfl 3 (by decide) fl22 rfl rfl dX3_spells_5 ?_
  refine lv_isub hx hb dX3_spells_8 ?_
  refine lv_aload_n hx hb dX3_spells_9 rfl (lv_at hl 1 rfl) ?_
  refine callV_i (As := []) (rest := [.int ((z 0 2) - (z 0 3))]) S hB hP hS (C := RJ0) (b := E.kS i) (vk_recv hB.2.1 hi hS) (K_J0_length l hE (va_up σ 1 z) hi) (cwV 0 S.2.2.2.2 gX3_spells_J0_length_8abf5 rfl rfl rfl (by decide +kernel) ⟨Nat.le_of_ble_eq_true rfl, Nat.le_of_ble_eq_true rfl⟩) rfl hl.1 rfl (Nat.le_of_ble_eq_true rfl) dX3_spells_10 ⟨Nat.zero_le _, Nat.zero_le _⟩ (fun H locs hP hS => ?_)
  refine lv_icmp_eq (tgt := 18) hx hb dX3_spells_13 (by decide) (fun c2 => ?_) (fun c2 => ?_)
  · have hf := if_t c2 hf
    refine lv_iconst (v := 0) hx hb dX3_spells_18 (by decide) ?_
    refine lv_istore_n (lv' := [(2, .int (0 : Int32)), (0, .ref (E.ad 1 0)), (1, .ref (E.kS i))]) hx hb dX3_spells_19 rfl hl (by decide) rfl (fun ls hl => ?_)
    exact hL20 FUEL (0 : Int32) _ _ _ hf hP hS (lv_sub hl [1, 2, 0] rfl)
  · have hf := if_f c2 hf
    refine lv_iconst (v := 0) hx hb dX3_spells_16 (by decide) ?_
    exact fin dX3_spells_17 (nz01 (by decide)) (s0 hf) rfl hP hS
theorem KW_X3_spells (l : Launch) {E : En} (hE : Inj E) (X : Wd) {i : Nat} (hi : i < 7) {r : Int32} (hf : f_X3_spells (X 1) i = some r) : Cti l E yX3_spells wsX3_spells rm_X3_spells [.ref (E.ad 1 0), .ref (E.kS i)] X r X := by
  have h := K_X3_spells l hE X (X 1) hi hf
  rw [lens_all] at h
  exact h
/-! X3_kindNamed -/
abbrev rm_X3_kindNamed : Room := { frames := 5, cells := 0, slots := 0, locals := 107 }
set_option maxHeartbeats 4000000 in
set_option maxRecDepth 100000 in
theorem K_X3_kindNamed (l : Launch) {E : En} (hE : Inj E) (σ : Wd) (z : Ob) {r : Int32} (hf : f_X3_kindNamed z = some r) : Cti l E yX3_kindNamed wsX3_kindNamed rm_X3_kindNamed [.ref (E.ad 1 0)] (va_up σ 1 z) r (va_up σ 1 z) := by
  refine meet_i (cc := cX3_kindNamed) (maxL := 1) (own := RX3) (by decide) rfl rfl (Nat.le_of_ble_eq_true rfl) ?_
  intro p e s m below meth c Z S hB fin hP hS ls hl
  have hx := S.1
  have hb := S.2.1
  have hl : lv_has ls 1 [(0, .ref (E.ad 1 0))] := hl
  unfold f_X3_kindNamed at hf
  refine lv_aload_n hx hb dX3_kindNamed_0 rfl (lv_at hl 0 rfl) ?_
  refine va_ldcS hx hb S.2.2.2.1 (hB.2.2.2.2.2.1) dX3_kindNamed_1 ?_
  obtain ⟨q1, hq1, hf⟩ := bind_some hf
  refine callV_i (As := [.ref (E.kS 3)]) (rest := []) S hB hP hS (C := RX3) (b := E.ad 1 0) (g_recv (o := 1) (d := 0) hB hP m_1_0 rfl rfl) (K_X3_spells l hE σ z (by decide : 3 < 7) hq1) (cwV 1 S.2.2.2.2 gX3_kindNamed_X3_spells rfl rfl rfl (by decide +kernel) ⟨Nat.le_of_ble_eq_true rfl, Nat.le_of_ble_eq_true rfl⟩) rfl hl.1 rfl (Nat.le_of_ble_eq_true rfl) dX3_kindNamed_3 ⟨Nat.zero_le _, Nat.zero_le _⟩ (fun H locs hP hS => ?_)
  refine lv_if_eq (tgt := 11) hx hb dX3_kindNamed_6 (by decide) (fun c2 => ?_) (fun c2 => ?_)
  · have hf := if_t c2 hf
    refine lv_aload_n hx hb dX3_kindNamed_11 rfl (lv_at hl 0 rfl) ?_
    refine va_ldcS hx hb S.2.2.2.1 (hB.2.2.2.2.2.2.1) dX3_kindNamed_12 ?_
    obtain ⟨q3, hq3, hf⟩ := bind_some hf
    refine callV_i (As := [.ref (E.kS 4)]) (rest := []) S hB hP hS (C := RX3) (b := E.ad 1 0) (g_recv (o := 1) (d := 0) hB hP m_1_0 rfl rfl) (K_X3_spells l hE σ z (by decide : 4 < 7) hq3) (cwV 1 S.2.2.2.2 gX3_kindNamed_X3_spells rfl rfl rfl (by decide +kernel) ⟨Nat.le_of_ble_eq_true rfl, Nat.le_of_ble_eq_true rfl⟩) rfl hl.1 rfl (Nat.le_of_ble_eq_true rfl) dX3_kindNamed_14 ⟨Nat.zero_le _, Nat.zero_le _⟩ (fun H locs hP hS => ?_)
    refine lv_if_eq (tgt := 22) hx hb dX3_kindNamed_17 (by decide) (fun c4 => ?_) (fun c4 => ?_)
    · have hf := if_t c4 hf
      refine lv_aload_n hx hb dX3_kindNamed_22 rfl (lv_at hl 0 rfl) ?_
      refine va_ldcS hx hb S.2.2.2.1 (hB.2.2.2.2.2.2.2.1) dX3_kindNamed_23 ?_
      obtain ⟨q5, hq5, hf⟩ := bind_some hf
      refine callV_i (As := [.ref (E.kS 5)]) (rest := []) S hB hP hS (C := RX3) (b := E.ad 1 0) (g_recv (o := 1) (d := 0) hB hP m_1_0 rfl rfl) (K_X3_spells l hE σ z (by decide : 5 < 7) hq5) (cwV 1 S.2.2.2.2 gX3_kindNamed_X3_spells rfl rfl rfl (by decide +kernel) ⟨Nat.le_of_ble_eq_true rfl, Nat.le_of_ble_eq_true rfl⟩) rfl hl.1 rfl (Nat.le_of_ble_eq_true rfl) dX3_kindNamed_25 ⟨Nat.zero_le _, Nat.zero_le _⟩ (fun H locs hP hS => ?_)
      refine lv_if_eq (tgt := 33) hx hb dX3_kindNamed_28 (by decide) (fun c6 => ?_) (fun c6 => ?_)
      · have hf := if_t c6 hf
        refine lv_aload_n hx hb dX3_kindNamed_33 rfl (lv_at hl 0 rfl) ?_
        refine va_ldcS hx hb S.2.2.2.1 (hB.2.2.2.2.2.2.2.2.1) dX3_kindNamed_34 ?_
        obtain ⟨q7, hq7, hf⟩ := bind_some hf
        refine callV_i (As := [.ref (E.kS 6)]) (rest := []) S hB hP hS (C := RX3) (b := E.ad 1 0) (g_recv (o := 1) (d := 0) hB hP m_1_0 rfl rfl) (K_X3_spells l hE σ z (by decide : 6 < 7) hq7) (cwV 1 S.2.2.2.2 gX3_kindNamed_X3_spells rfl rfl rfl (by decide +kernel) ⟨Nat.le_of_ble_eq_true rfl, Nat.le_of_ble_eq_true rfl⟩) rfl hl.1 rfl (Nat.le_of_ble_eq_true rfl) dX3_kindNamed_36 ⟨Nat.zero_le _, Nat.zero_le _⟩ (fun H locs hP hS => ?_)
        refine lv_if_eq (tgt := 46) hx hb dX3_kindNamed_39 (by decide) (fun c8 => ?_) (fun c8 => ?_)
        · have hf := if_t c8 hf
          refine lv_bipush (v := -4) hx hb dX3_kindNamed_46 (by decide) ?_
          exact fin dX3_kindNamed_48 (s0 hf) rfl hP hS
        · have hf := if_f c8 hf
          refine lv_iconst (v := 3) hx hb dX3_kindNamed_42 (by decide) ?_
          refine lv_goto (tgt := 48) hx hb dX3_kindNamed_43 (by decide) ?_
          exact fin dX3_kindNamed_48 (s0 hf) rfl hP hS
      · have hf := if_f c6 hf
        refine lv_iconst (v := 2) hx hb dX3_kindNamed_31 (by decide) ?_
        exact fin dX3_kindNamed_32 (s0 hf) rfl hP hS
    · have hf := if_f c4 hf
      refine lv_iconst (v := 1) hx hb dX3_kindNamed_20 (by decide) ?_
      exact fin dX3_kindNamed_21 (s0 hf) rfl hP hS
  · have hf := if_f c2 hf
    refine lv_iconst (v := 0) hx hb dX3_kindNamed_9 (by decide) ?_
    exact fin dX3_kindNamed_10 (s0 hf) rfl hP hS
theorem KW_X3_kindNamed (l : Launch) {E : En} (hE : Inj E) (X : Wd) {r : Int32} (hf : f_X3_kindNamed (X 1) = some r) : Cti l E yX3_kindNamed wsX3_kindNamed rm_X3_kindNamed [.ref (E.ad 1 0)] X r X := by
  have h := K_X3_kindNamed l hE X (X 1)  hf
  rw [lens_all] at h
  exact h
/-! X3_isNumberTo -/
abbrev rm_X3_isNumberTo : Room := { frames := 2, cells := 0, slots := 0, locals := 41 }
set_option maxHeartbeats 4000000 in
set_option maxRecDepth 100000 in
theorem K_X3_isNumberTo (l : Launch) {E : En} (hE : Inj E) (σ : Wd) (z : Ob) (a1 : Int32) {r : Int32} {z' : Ob} (hf : f_X3_isNumberTo z a1 = some (r, z')) : Cti l E yX3_isNumberTo wsX3_isNumberTo rm_X3_isNumberTo [.ref (E.ad 1 0), .int a1] (va_up σ 1 z) r (va_up σ 1 z') := by
  refine meet_z (cc := cX3_isNumberTo) (maxL := 2) (own := RX3) (by decide) rfl rfl (Nat.le_of_ble_eq_true rfl) ?_
  intro p e s m below meth c Z S hB fin hP hS ls hl
  have hx := S.1
  have hb := S.2.1
  have hl : lv_has ls 2 [(0, .ref (E.ad 1 0)), (1, .int a1)] := hl
  have hinX3 : ∀ w ∈ u_ws RX3 TX3 8, w ∈ wsX3_isNumberTo := by decide +kernel
  have fl25 := S.2.2.2.2 (.fieldLink RX3 25 "MownMaze$Reader" "token" "I") (by decide +kernel)
  have fl28 := S.2.2.2.2 (.fieldLink RX3 28 "MownMaze$Reader" "number" "I") (by decide +kernel)
  have hB29 : ∀ (z : Ob) (H : Heap) (locs : List Loc) (ls : Array Slot), f_X3_isNumberTo_b29 z = some (r, z') → va_P E.1 vwCl (GW E (va_up σ 1 z)) H → va_S (GA E) s.heap H locs → lv_has ls 2 [] → W p l e rm_X3_isNumberTo s m ([.ref (E.ad 1 0), .int a1] : List Value).toArray below meth c H locs 0 0 Z (F0 m 29 ls []) := by
    intro z H locs ls hf hP hS hl
    unfold f_X3_isNumberTo_b29 at hf
    refine lv_iconst (v := 1) hx hb dX3_isNumberTo_29 (by decide) ?_
    refine lv_goto (tgt := 34) hx hb dX3_isNumberTo_30 (by decide) ?_
    exact fin dX3_isNumberTo_34 (nz01 (by decide)) (s1 hf) (by rw [(s2 hf)]) hP hS
  unfold f_X3_isNumberTo at hf
  refine lv_aload_n hx hb dX3_isNumberTo_0 rfl (lv_at hl 0 rfl) ?_
  refine g_get (v := .int (z 0 4)) S hB hinX3 hP m_1_0 rfl rfl 4 (by decide) fl25 rfl rfl dX3_isNumberTo_1 ?_
  refine lv_iconst (v := 2) hx hb dX3_isNumberTo_4 (by decide) ?_
  refine lv_icmp_eq (tgt := 13) hx hb dX3_isNumberTo_5 (by decide) (fun c1 => ?_) (fun c1 => ?_)
  · have hf := if_t c1 hf
    refine lv_aload_n hx hb dX3_isNumberTo_13 rfl (lv_at hl 0 rfl) ?_
    refine g_get (v := .int (z 0 5)) S hB hinX3 hP m_1_0 rfl rfl 5 (by decide) fl28 rfl rfl dX3_isNumberTo_14 ?_
    refine lv_iload_n hx hb dX3_isNumberTo_17 rfl (lv_at hl 1 rfl) ?_
    refine lv_icmp_le (tgt := 29) hx hb dX3_isNumberTo_18 (by decide) (fun c2 => ?_) (fun c2 => ?_)
    · have hf := if_t c2 hf
      exact hB29 z _ _ _ hf hP hS (lv_sub hl [] rfl)
    · have hf := if_f c2 hf
      refine lv_aload_n hx hb dX3_isNumberTo_21 rfl (lv_at hl 0 rfl) ?_
      refine lv_iconst (v := 3) hx hb dX3_isNumberTo_22 (by decide) ?_
      obtain ⟨q3, hq3, hf⟩ := bind_some hf
      refine callV_i (As := [.int (3 : Int32)]) (rest := []) S hB hP hS (C := RX3) (b := E.ad 1 0) (g_recv (o := 1) (d := 0) hB hP m_1_0 rfl rfl) (K_X3_fail l hE σ z (3 : Int32) hq3) (cwV 1 S.2.2.2.2 gX3_isNumberTo_X3_fail rfl rfl rfl (by decide +kernel) ⟨Nat.le_of_ble_eq_true rfl, Nat.le_of_ble_eq_true rfl⟩) rfl hl.1 rfl (Nat.le_of_ble_eq_true rfl) dX3_isNumberTo_23 ⟨Nat.zero_le _, Nat.zero_le _⟩ (fun H locs hP hS => ?_)
      refine lv_if_eq (tgt := 33) hx hb dX3_isNumberTo_26 (by decide) (fun c4 => ?_) (fun c4 => ?_)
      · have hf := if_t c4 hf
        refine lv_iconst (v := 0) hx hb dX3_isNumberTo_33 (by decide) ?_
        exact fin dX3_isNumberTo_34 (nz01 (by decide)) (s1 hf) (by rw [(s2 hf)]) hP hS
      · have hf := if_f c4 hf
        exact hB29 q3.2 _ _ _ hf hP hS (lv_sub hl [] rfl)
  · have hf := if_f c1 hf
    refine lv_aload_n hx hb dX3_isNumberTo_8 rfl (lv_at hl 0 rfl) ?_
    obtain ⟨q5, hq5, hf⟩ := bind_some hf
    refine callV_i (As := []) (rest := []) S hB hP hS (C := RX3) (b := E.ad 1 0) (g_recv (o := 1) (d := 0) hB hP m_1_0 rfl rfl) (K_X3_failAtToken l hE σ z hq5) (cwV 0 S.2.2.2.2 gX3_isNumberTo_X3_failAtToken rfl rfl rfl (by decide +kernel) ⟨Nat.le_of_ble_eq_true rfl, Nat.le_of_ble_eq_true rfl⟩) rfl hl.1 rfl (Nat.le_of_ble_eq_true rfl) dX3_isNumberTo_9 ⟨Nat.zero_le _, Nat.zero_le _⟩ (fun H locs hP hS => ?_)
    obtain ⟨hv6, hf⟩ := ckb_some hf
    exact fin dX3_isNumberTo_12 (nz01 hv6) (s1 hf) (by rw [(s2 hf)]) hP hS
theorem KW_X3_isNumberTo (l : Launch) {E : En} (hE : Inj E) (X : Wd) (a1 : Int32) {r : Int32} {z' : Ob} (hf : f_X3_isNumberTo (X 1) a1 = some (r, z')) : Cti l E yX3_isNumberTo wsX3_isNumberTo rm_X3_isNumberTo [.ref (E.ad 1 0), .int a1] X r (va_up X 1 z') := by
  have h := K_X3_isNumberTo l hE X (X 1) a1 hf
  rw [lens_all] at h
  exact h
/-! X3_takeNumber -/
abbrev rm_X3_takeNumber : Room := { frames := 3, cells := 0, slots := 0, locals := 62 }
set_option maxHeartbeats 4000000 in
set_option maxRecDepth 100000 in
theorem K_X3_takeNumber (l : Launch) {E : En} (hE : Inj E) (σ : Wd) (z : Ob) (a1 : Int32) {r : Int32} {z' : Ob} (hf : f_X3_takeNumber z a1 = some (r, z')) : Cti l E yX3_takeNumber wsX3_takeNumber rm_X3_takeNumber [.ref (E.ad 1 0), .int a1] (va_up σ 1 z) r (va_up σ 1 z') := by
  refine meet_z (cc := cX3_takeNumber) (maxL := 2) (own := RX3) (by decide) rfl rfl (Nat.le_of_ble_eq_true rfl) ?_
  intro p e s m below meth c Z S hB fin hP hS ls hl
  have hx := S.1
  have hb := S.2.1
  have hl : lv_has ls 2 [(0, .ref (E.ad 1 0)), (1, .int a1)] := hl
  unfold f_X3_takeNumber at hf
  refine lv_aload_n hx hb dX3_takeNumber_0 rfl (lv_at hl 0 rfl) ?_
  obtain ⟨q1, hq1, hf⟩ := bind_some hf
  refine callV_v (As := []) (rest := []) S hB hP hS (C := RX3) (b := E.ad 1 0) (g_recv (o := 1) (d := 0) hB hP m_1_0 rfl rfl) (K_X3_takeToken l hE σ z hq1) (cwV 0 S.2.2.2.2 gX3_takeNumber_X3_takeToken rfl rfl rfl (by decide +kernel) ⟨Nat.le_of_ble_eq_true rfl, Nat.le_of_ble_eq_true rfl⟩) rfl hl.1 rfl (Nat.le_of_ble_eq_true rfl) dX3_takeNumber_1 ⟨Nat.zero_le _, Nat.zero_le _⟩ (fun H locs hP hS => ?_)
  refine lv_aload_n hx hb dX3_takeNumber_4 rfl (lv_at hl 0 rfl) ?_
  refine lv_iload_n hx hb dX3_takeNumber_5 rfl (lv_at hl 1 rfl) ?_
  obtain ⟨q2, hq2, hf⟩ := bind_some hf
  refine callV_i (As := [.int a1]) (rest := []) S hB hP hS (C := RX3) (b := E.ad 1 0) (g_recv (o := 1) (d := 0) hB hP m_1_0 rfl rfl) (K_X3_isNumberTo l hE σ q1 a1 hq2) (cwV 1 S.2.2.2.2 gX3_takeNumber_X3_isNumberTo rfl rfl rfl (by decide +kernel) ⟨Nat.le_of_ble_eq_true rfl, Nat.le_of_ble_eq_true rfl⟩) rfl hl.1 rfl (Nat.le_of_ble_eq_true rfl) dX3_takeNumber_6 ⟨Nat.zero_le _, Nat.zero_le _⟩ (fun H locs hP hS => ?_)
  obtain ⟨hv3, hf⟩ := ckb_some hf
  exact fin dX3_takeNumber_9 (nz01 hv3) (s1 hf) (by rw [(s2 hf)]) hP hS
theorem KW_X3_takeNumber (l : Launch) {E : En} (hE : Inj E) (X : Wd) (a1 : Int32) {r : Int32} {z' : Ob} (hf : f_X3_takeNumber (X 1) a1 = some (r, z')) : Cti l E yX3_takeNumber wsX3_takeNumber rm_X3_takeNumber [.ref (E.ad 1 0), .int a1] X r (va_up X 1 z') := by
  have h := K_X3_takeNumber l hE X (X 1) a1 hf
  rw [lens_all] at h
  exact h
/-! X3_takeSign -/
abbrev rm_X3_takeSign : Room := { frames := 3, cells := 0, slots := 0, locals := 60 }
set_option maxHeartbeats 4000000 in
set_option maxRecDepth 100000 in
theorem K_X3_takeSign (l : Launch) {E : En} (hE : Inj E) (σ : Wd) (z : Ob) {r : Int32} {z' : Ob} (hf : f_X3_takeSign z = some (r, z')) : Cti l E yX3_takeSign wsX3_takeSign rm_X3_takeSign [.ref (E.ad 1 0)] (va_up σ 1 z) r (va_up σ 1 z') := by
  refine meet_z (cc := cX3_takeSign) (maxL := 1) (own := RX3) (by decide) rfl rfl (Nat.le_of_ble_eq_true rfl) ?_
  intro p e s m below meth c Z S hB fin hP hS ls hl
  have hx := S.1
  have hb := S.2.1
  have hl : lv_has ls 1 [(0, .ref (E.ad 1 0))] := hl
  have hinX3 : ∀ w ∈ u_ws RX3 TX3 8, w ∈ wsX3_takeSign := by decide +kernel
  have fl25 := S.2.2.2.2 (.fieldLink RX3 25 "MownMaze$Reader" "token" "I") (by decide +kernel)
  have hB19 : ∀ (z : Ob) (H : Heap) (locs : List Loc) (ls : Array Slot), f_X3_takeSign_b19 z = some (r, z') → va_P E.1 vwCl (GW E (va_up σ 1 z)) H → va_S (GA E) s.heap H locs → lv_has ls 1 [] → W p l e rm_X3_takeSign s m ([.ref (E.ad 1 0)] : List Value).toArray below meth c H locs 0 0 Z (F0 m 19 ls []) := by
    intro z H locs ls hf hP hS hl
    unfold f_X3_takeSign_b19 at hf
    refine lv_iconst (v := 1) hx hb dX3_takeSign_19 (by decide) ?_
    refine lv_goto (tgt := 24) hx hb dX3_takeSign_20 (by decide) ?_
    exact fin dX3_takeSign_24 (nz01 (by decide)) (s1 hf) (by rw [(s2 hf)]) hP hS
  unfold f_X3_takeSign at hf
  refine lv_aload_n hx hb dX3_takeSign_0 rfl (lv_at hl 0 rfl) ?_
  obtain ⟨q1, hq1, hf⟩ := bind_some hf
  refine callV_v (As := []) (rest := []) S hB hP hS (C := RX3) (b := E.ad 1 0) (g_recv (o := 1) (d := 0) hB hP m_1_0 rfl rfl) (K_X3_takeToken l hE σ z hq1) (cwV 0 S.2.2.2.2 gX3_takeSign_X3_takeToken rfl rfl rfl (by decide +kernel) ⟨Nat.le_of_ble_eq_true rfl, Nat.le_of_ble_eq_true rfl⟩) rfl hl.1 rfl (Nat.le_of_ble_eq_true rfl) dX3_takeSign_1 ⟨Nat.zero_le _, Nat.zero_le _⟩ (fun H locs hP hS => ?_)
  refine lv_aload_n hx hb dX3_takeSign_4 rfl (lv_at hl 0 rfl) ?_
  refine g_get (v := .int (q1 0 4)) S hB hinX3 hP m_1_0 rfl rfl 4 (by decide) fl25 rfl rfl dX3_takeSign_5 ?_
  refine lv_iconst (v := 3) hx hb dX3_takeSign_8 (by decide) ?_
  refine lv_icmp_eq (tgt := 19) hx hb dX3_takeSign_9 (by decide) (fun c2 => ?_) (fun c2 => ?_)
  · have hf := if_t c2 hf
    exact hB19 q1 _ _ _ hf hP hS (lv_sub hl [] rfl)
  · have hf := if_f c2 hf
    refine lv_aload_n hx hb dX3_takeSign_12 rfl (lv_at hl 0 rfl) ?_
    obtain ⟨q3, hq3, hf⟩ := bind_some hf
    refine callV_i (As := []) (rest := []) S hB hP hS (C := RX3) (b := E.ad 1 0) (g_recv (o := 1) (d := 0) hB hP m_1_0 rfl rfl) (K_X3_failAtToken l hE σ q1 hq3) (cwV 0 S.2.2.2.2 gX3_takeSign_X3_failAtToken rfl rfl rfl (by decide +kernel) ⟨Nat.le_of_ble_eq_true rfl, Nat.le_of_ble_eq_true rfl⟩) rfl hl.1 rfl (Nat.le_of_ble_eq_true rfl) dX3_takeSign_13 ⟨Nat.zero_le _, Nat.zero_le _⟩ (fun H locs hP hS => ?_)
    refine lv_if_eq (tgt := 23) hx hb dX3_takeSign_16 (by decide) (fun c4 => ?_) (fun c4 => ?_)
    · have hf := if_t c4 hf
      refine lv_iconst (v := 0) hx hb dX3_takeSign_23 (by decide) ?_
      exact fin dX3_takeSign_24 (nz01 (by decide)) (s1 hf) (by rw [(s2 hf)]) hP hS
    · have hf := if_f c4 hf
      exact hB19 q3.2 _ _ _ hf hP hS (lv_sub hl [] rfl)
theorem KW_X3_takeSign (l : Launch) {E : En} (hE : Inj E) (X : Wd) {r : Int32} {z' : Ob} (hf : f_X3_takeSign (X 1) = some (r, z')) : Cti l E yX3_takeSign wsX3_takeSign rm_X3_takeSign [.ref (E.ad 1 0)] X r (va_up X 1 z') := by
  have h := K_X3_takeSign l hE X (X 1)  hf
  rw [lens_all] at h
  exact h
/-! X3_readGardener -/
abbrev rm_X3_readGardener : Room := { frames := 4, cells := 0, slots := 0, locals := 83 }
set_option maxHeartbeats 4000000 in
set_option maxRecDepth 100000 in
theorem K_X3_readGardener (l : Launch) {E : En} (hE : Inj E) (σ : Wd) (z w : Ob) (a2 : Int32) {r : Int32} {z' : Ob} {w' : Ob} (hf : f_X3_readGardener z w a2 = some (r, z', w')) : Cti l E yX3_readGardener wsX3_readGardener rm_X3_readGardener [.ref (E.ad 1 0), .ref (E.ad 6 0), .int a2] (va_up (va_up σ 1 z) 6 w) r (va_up (va_up σ 1 z') 6 w') := by
  refine meet_z (cc := cX3_readGardener) (maxL := 4) (own := RX3) (by decide) rfl rfl (Nat.le_of_ble_eq_true rfl) ?_
  intro p e s m below meth c Z S hB fin hP hS ls hl
  have hx := S.1
  have hb := S.2.1
  have hl : lv_has ls 4 [(0, .ref (E.ad 1 0)), (1, .ref (E.ad 6 0)), (2, .int a2)] := hl
  have hinX1 : ∀ w ∈ u_ws RX1 TX1 12, w ∈ wsX3_readGardener := by decide +kernel
  have hinX3 : ∀ w ∈ u_ws RX3 TX3 8, w ∈ wsX3_readGardener := by decide +kernel
  have fl28 := S.2.2.2.2 (.fieldLink RX3 28 "MownMaze$Reader" "number" "I") (by decide +kernel)
  have fl80 := S.2.2.2.2 (.fieldLink RX3 80 "MownMaze$Maze" "gardeners" "I") (by decide +kernel)
  unfold f_X3_readGardener at hf
  refine lv_aload_n hx hb dX3_readGardener_0 rfl (lv_at hl 1 rfl) ?_
  refine g_get (v := .int (w 0 4)) S hB hinX1 hP m_6_0 rfl rfl 4 (by decide) fl80 rfl rfl dX3_readGardener_1 ?_
  refine lv_iconst (v := 4) hx hb dX3_readGardener_4 (by decide) ?_
  refine lv_icmp_lt (tgt := 14) hx hb dX3_readGardener_5 (by decide) (fun c1 => ?_) (fun c1 => ?_)
  · have hf := if_t c1 hf
    refine lv_aload_n hx hb dX3_readGardener_14 rfl (lv_at hl 0 rfl) ?_
    refine lv_bipush (v := 23) hx hb dX3_readGardener_15 (by decide) ?_
    obtain ⟨q2, hq2, hf⟩ := bind_some hf
    refine callV_i (As := [.int (23 : Int32)]) (rest := []) S hB hP hS (C := RX3) (b := E.ad 1 0) (g_recv (o := 1) (d := 0) hB hP m_1_0 rfl rfl) (KW_X3_takeNumber l hE (va_up (va_up σ 1 z) 6 w) (23 : Int32) hq2) (cwV 1 S.2.2.2.2 gX3_readGardener_X3_takeNumber rfl rfl rfl (by decide +kernel) ⟨Nat.le_of_ble_eq_true rfl, Nat.le_of_ble_eq_true rfl⟩) rfl hl.1 rfl (Nat.le_of_ble_eq_true rfl) dX3_readGardener_17 ⟨Nat.zero_le _, Nat.zero_le _⟩ (fun H locs hP hS => ?_)
    rw [lens_swap σ (by decide)] at hP
    refine lv_if_ne (tgt := 25) hx hb dX3_readGardener_20 (by decide) (fun c3 => ?_) (fun c3 => ?_)
    · have hf := if_f c3 hf
      refine lv_aload_n hx hb dX3_readGardener_25 rfl (lv_at hl 0 rfl) ?_
      refine g_get (v := .int (q2.2 0 5)) S hB hinX3 hP m_1_0 rfl rfl 5 (by decide) fl28 rfl rfl dX3_readGardener_26 ?_
      refine lv_istore_n (lv' := [(3, .int (q2.2 0 5)), (0, .ref (E.ad 1 0)), (1, .ref (E.ad 6 0)), (2, .int a2)]) hx hb dX3_readGardener_29 rfl hl (by decide) rfl (fun ls hl => ?_)
      refine lv_aload_n hx hb dX3_readGardener_30 rfl (lv_at hl 1 rfl) ?_
      refine lv_bipush (v := 9) hx hb dX3_readGardener_31 (by decide) ?_
      obtain ⟨q4, hq4, hf⟩ := bind_some hf
      refine callV_i (As := [.int (9 : Int32)]) (rest := []) S hB hP hS (C := RX3) (b := E.ad 1 0) (g_recv (o := 1) (d := 0) hB hP m_1_0 rfl rfl) (KW_X3_takeNumber l hE (va_up (va_up σ 1 q2.2) 6 w) (9 : Int32) hq4) (cwV 1 S.2.2.2.2 gX3_readGardener_X3_takeNumber rfl rfl rfl (by decide +kernel) ⟨Nat.le_of_ble_eq_true rfl, Nat.le_of_ble_eq_true rfl⟩) rfl hl.1 rfl (Nat.le_of_ble_eq_true rfl) dX3_readGardener_33 ⟨Nat.zero_le _, Nat.zero_le _⟩ (fun H locs hP hS => ?_)
      rw [lens_swap σ (by decide)] at hP
      refine lv_if_eq (tgt := 63) hx hb dX3_readGardener_36 (by decide) (fun c5 => ?_) (fun c5 => ?_)
      · have hf := if_t c5 hf
        refine lv_iconst (v := 0) hx hb dX3_readGardener_63 (by decide) ?_
        exact fin dX3_readGardener_64 (nz01 (by decide)) (s1 hf) (by rw [(Prod.mk.inj (s2 hf)).1, (Prod.mk.inj (s2 hf)).2]) hP hS
      · have hf := if_f c5 hf
        refine lv_aload_n hx hb dX3_readGardener_39 rfl (lv_at hl 2 rfl) ?_
        refine lv_iload_n hx hb dX3_readGardener_40 rfl (lv_at hl 3 rfl) ?_
        refine lv_iload_n hx hb dX3_readGardener_41 rfl (lv_at hl 0 rfl) ?_
        refine lv_aload_n hx hb dX3_readGardener_42 rfl (lv_at hl 1 rfl) ?_
        refine g_get (v := .int (q4.2 0 5)) S hB hinX3 hP m_1_0 rfl rfl 5 (by decide) fl28 rfl rfl dX3_readGardener_43 ?_
        obtain ⟨q6, hq6, hf⟩ := bind_some hf
        refine callV_i (As := [.int a2, .int (q2.2 0 5), .int (q4.2 0 5)]) (rest := []) S hB hP hS (C := RX1) (b := E.ad 6 0) (g_recv (o := 6) (d := 0) hB hP m_6_0 rfl rfl) (K_X1_addGardener l hE (va_up σ 1 q4.2) (by decide) (by decide) w a2 (q2.2 0 5) (q4.2 0 5) hq6) (cwV 3 S.2.2.2.2 gX3_readGardener_X1_addGardener rfl rfl rfl (by decide +kernel) ⟨Nat.le_of_ble_eq_true rfl, Nat.le_of_ble_eq_true rfl⟩) rfl hl.1 rfl (Nat.le_of_ble_eq_true rfl) dX3_readGardener_46 ⟨Nat.zero_le _, Nat.zero_le _⟩ (fun H locs hP hS => ?_)
        refine lv_if_eq (tgt := 63) hx hb dX3_readGardener_49 (by decide) (fun c7 => ?_) (fun c7 => ?_)
        · have hf := if_t c7 hf
          refine lv_iconst (v := 0) hx hb dX3_readGardener_63 (by decide) ?_
          exact fin dX3_readGardener_64 (nz01 (by decide)) (s1 hf) (by rw [(Prod.mk.inj (s2 hf)).1, (Prod.mk.inj (s2 hf)).2]) hP hS
        · have hf := if_f c7 hf
          refine lv_aload_n hx hb dX3_readGardener_52 rfl (lv_at hl 1 rfl) ?_
          obtain ⟨q8, hq8, hf⟩ := bind_some hf
          refine callV_i (As := []) (rest := []) S hB hP hS (C := RX3) (b := E.ad 1 0) (g_recv (o := 1) (d := 0) hB hP m_1_0 rfl rfl) (KW_X3_takeSign l hE (va_up (va_up σ 1 q4.2) 6 q6.2) hq8) (cwV 0 S.2.2.2.2 gX3_readGardener_X3_takeSign rfl rfl rfl (by decide +kernel) ⟨Nat.le_of_ble_eq_true rfl, Nat.le_of_ble_eq_true rfl⟩) rfl hl.1 rfl (Nat.le_of_ble_eq_true rfl) dX3_readGardener_53 ⟨Nat.zero_le _, Nat.zero_le _⟩ (fun H locs hP hS => ?_)
          rw [lens_swap σ (by decide)] at hP
          refine lv_if_eq (tgt := 63) hx hb dX3_readGardener_56 (by decide) (fun c9 => ?_) (fun c9 => ?_)
          · have hf := if_t c9 hf
            refine lv_iconst (v := 0) hx hb dX3_readGardener_63 (by decide) ?_
            exact fin dX3_readGardener_64 (nz01 (by decide)) (s1 hf) (by rw [(Prod.mk.inj (s2 hf)).1, (Prod.mk.inj (s2 hf)).2]) hP hS
          · have hf := if_f c9 hf
            refine lv_iconst (v := 1) hx hb dX3_readGardener_59 (by decide) ?_
            refine lv_goto (tgt := 64) hx hb dX3_readGardener_60 (by decide) ?_
            exact fin dX3_readGardener_64 (nz01 (by decide)) (s1 hf) (by rw [(Prod.mk.inj (s2 hf)).1, (Prod.mk.inj (s2 hf)).2]) hP hS
    · have hf := if_t c3 hf
      refine lv_iconst (v := 0) hx hb dX3_readGardener_23 (by decide) ?_
      exact fin dX3_readGardener_24 (nz01 (by decide)) (s1 hf) (by rw [(Prod.mk.inj (s2 hf)).1, (Prod.mk.inj (s2 hf)).2]) hP hS
  · have hf := if_f c1 hf
    refine lv_aload_n hx hb dX3_readGardener_8 rfl (lv_at hl 0 rfl) ?_
    refine lv_iconst (v := 5) hx hb dX3_readGardener_9 (by decide) ?_
    obtain ⟨q10, hq10, hf⟩ := bind_some hf
    refine callV_i (As := [.int (5 : Int32)]) (rest := []) S hB hP hS (C := RX3) (b := E.ad 1 0) (g_recv (o := 1) (d := 0) hB hP m_1_0 rfl rfl) (KW_X3_fail l hE (va_up (va_up σ 1 z) 6 w) (5 : Int32) hq10) (cwV 1 S.2.2.2.2 gX3_readGardener_X3_fail rfl rfl rfl (by decide +kernel) ⟨Nat.le_of_ble_eq_true rfl, Nat.le_of_ble_eq_true rfl⟩) rfl hl.1 rfl (Nat.le_of_ble_eq_true rfl) dX3_readGardener_10 ⟨Nat.zero_le _, Nat.zero_le _⟩ (fun H locs hP hS => ?_)
    rw [lens_swap σ (by decide)] at hP
    obtain ⟨hv11, hf⟩ := ckb_some hf
    exact fin dX3_readGardener_13 (nz01 hv11) (s1 hf) (by rw [(Prod.mk.inj (s2 hf)).1, (Prod.mk.inj (s2 hf)).2]) hP hS
theorem KW_X3_readGardener (l : Launch) {E : En} (hE : Inj E) (X : Wd) (a2 : Int32) {r : Int32} {z' : Ob} {w' : Ob} (hf : f_X3_readGardener (X 1) (X 6) a2 = some (r, z', w')) : Cti l E yX3_readGardener wsX3_readGardener rm_X3_readGardener [.ref (E.ad 1 0), .ref (E.ad 6 0), .int a2] X r (va_up (va_up X 1 z') 6 w') := by
  have h := K_X3_readGardener l hE X (X 1) (X 6) a2 hf
  rw [lens_all2] at h
  exact h
/-! X3_readGuest -/
abbrev rm_X3_readGuest : Room := { frames := 4, cells := 0, slots := 0, locals := 83 }
set_option maxHeartbeats 4000000 in
set_option maxRecDepth 100000 in
theorem K_X3_readGuest (l : Launch) {E : En} (hE : Inj E) (σ : Wd) (z w : Ob) {r : Int32} {z' : Ob} {w' : Ob} (hf : f_X3_readGuest z w = some (r, z', w')) : Cti l E yX3_readGuest wsX3_readGuest rm_X3_readGuest [.ref (E.ad 1 0), .ref (E.ad 6 0)] (va_up (va_up σ 1 z) 6 w) r (va_up (va_up σ 1 z') 6 w') := by
  refine meet_z (cc := cX3_readGuest) (maxL := 3) (own := RX3) (by decide) rfl rfl (Nat.le_of_ble_eq_true rfl) ?_
  intro p e s m below meth c Z S hB fin hP hS ls hl
  have hx := S.1
  have hb := S.2.1
  have hl : lv_has ls 3 [(0, .ref (E.ad 1 0)), (1, .ref (E.ad 6 0))] := hl
  have hinX1 : ∀ w ∈ u_ws RX1 TX1 12, w ∈ wsX3_readGuest := by decide +kernel
  have hinX3 : ∀ w ∈ u_ws RX3 TX3 8, w ∈ wsX3_readGuest := by decide +kernel
  have fl28 := S.2.2.2.2 (.fieldLink RX3 28 "MownMaze$Reader" "number" "I") (by decide +kernel)
  have fl95 := S.2.2.2.2 (.fieldLink RX3 95 "MownMaze$Maze" "guests" "I") (by decide +kernel)
  unfold f_X3_readGuest at hf
  refine lv_aload_n hx hb dX3_readGuest_0 rfl (lv_at hl 1 rfl) ?_
  refine g_get (v := .int (w 0 8)) S hB hinX1 hP m_6_0 rfl rfl 8 (by decide) fl95 rfl rfl dX3_readGuest_1 ?_
  refine lv_iconst (v := 4) hx hb dX3_readGuest_4 (by decide) ?_
  refine lv_icmp_lt (tgt := 14) hx hb dX3_readGuest_5 (by decide) (fun c1 => ?_) (fun c1 => ?_)
  · have hf := if_t c1 hf
    refine lv_aload_n hx hb dX3_readGuest_14 rfl (lv_at hl 0 rfl) ?_
    refine lv_bipush (v := 15) hx hb dX3_readGuest_15 (by decide) ?_
    obtain ⟨q2, hq2, hf⟩ := bind_some hf
    refine callV_i (As := [.int (15 : Int32)]) (rest := []) S hB hP hS (C := RX3) (b := E.ad 1 0) (g_recv (o := 1) (d := 0) hB hP m_1_0 rfl rfl) (KW_X3_takeNumber l hE (va_up (va_up σ 1 z) 6 w) (15 : Int32) hq2) (cwV 1 S.2.2.2.2 gX3_readGuest_X3_takeNumber rfl rfl rfl (by decide +kernel) ⟨Nat.le_of_ble_eq_true rfl, Nat.le_of_ble_eq_true rfl⟩) rfl hl.1 rfl (Nat.le_of_ble_eq_true rfl) dX3_readGuest_17 ⟨Nat.zero_le _, Nat.zero_le _⟩ (fun H locs hP hS => ?_)
    rw [lens_swap σ (by decide)] at hP
    refine lv_if_ne (tgt := 25) hx hb dX3_readGuest_20 (by decide) (fun c3 => ?_) (fun c3 => ?_)
    · have hf := if_f c3 hf
      refine lv_aload_n hx hb dX3_readGuest_25 rfl (lv_at hl 0 rfl) ?_
      refine g_get (v := .int (q2.2 0 5)) S hB hinX3 hP m_1_0 rfl rfl 5 (by decide) fl28 rfl rfl dX3_readGuest_26 ?_
      refine lv_istore_n (lv' := [(2, .int (q2.2 0 5)), (0, .ref (E.ad 1 0)), (1, .ref (E.ad 6 0))]) hx hb dX3_readGuest_29 rfl hl (by decide) rfl (fun ls hl => ?_)
      refine lv_aload_n hx hb dX3_readGuest_30 rfl (lv_at hl 1 rfl) ?_
      refine lv_bipush (v := 60) hx hb dX3_readGuest_31 (by decide) ?_
      obtain ⟨q4, hq4, hf⟩ := bind_some hf
      refine callV_i (As := [.int (60 : Int32)]) (rest := []) S hB hP hS (C := RX3) (b := E.ad 1 0) (g_recv (o := 1) (d := 0) hB hP m_1_0 rfl rfl) (KW_X3_takeNumber l hE (va_up (va_up σ 1 q2.2) 6 w) (60 : Int32) hq4) (cwV 1 S.2.2.2.2 gX3_readGuest_X3_takeNumber rfl rfl rfl (by decide +kernel) ⟨Nat.le_of_ble_eq_true rfl, Nat.le_of_ble_eq_true rfl⟩) rfl hl.1 rfl (Nat.le_of_ble_eq_true rfl) dX3_readGuest_33 ⟨Nat.zero_le _, Nat.zero_le _⟩ (fun H locs hP hS => ?_)
      rw [lens_swap σ (by decide)] at hP
      refine lv_if_eq (tgt := 62) hx hb dX3_readGuest_36 (by decide) (fun c5 => ?_) (fun c5 => ?_)
      · have hf := if_t c5 hf
        refine lv_iconst (v := 0) hx hb dX3_readGuest_62 (by decide) ?_
        exact fin dX3_readGuest_63 (nz01 (by decide)) (s1 hf) (by rw [(Prod.mk.inj (s2 hf)).1, (Prod.mk.inj (s2 hf)).2]) hP hS
      · have hf := if_f c5 hf
        refine lv_aload_n hx hb dX3_readGuest_39 rfl (lv_at hl 2 rfl) ?_
        refine lv_iload_n hx hb dX3_readGuest_40 rfl (lv_at hl 0 rfl) ?_
        refine lv_aload_n hx hb dX3_readGuest_41 rfl (lv_at hl 1 rfl) ?_
        refine g_get (v := .int (q4.2 0 5)) S hB hinX3 hP m_1_0 rfl rfl 5 (by decide) fl28 rfl rfl dX3_readGuest_42 ?_
        obtain ⟨q6, hq6, hf⟩ := bind_some hf
        refine callV_i (As := [.int (q2.2 0 5), .int (q4.2 0 5)]) (rest := []) S hB hP hS (C := RX1) (b := E.ad 6 0) (g_recv (o := 6) (d := 0) hB hP m_6_0 rfl rfl) (K_X1_addGuest l hE (va_up σ 1 q4.2) (by decide) (by decide) w (q2.2 0 5) (q4.2 0 5) hq6) (cwV 2 S.2.2.2.2 gX3_readGuest_X1_addGuest rfl rfl rfl (by decide +kernel) ⟨Nat.le_of_ble_eq_true rfl, Nat.le_of_ble_eq_true rfl⟩) rfl hl.1 rfl (Nat.le_of_ble_eq_true rfl) dX3_readGuest_45 ⟨Nat.zero_le _, Nat.zero_le _⟩ (fun H locs hP hS => ?_)
        refine lv_if_eq (tgt := 62) hx hb dX3_readGuest_48 (by decide) (fun c7 => ?_) (fun c7 => ?_)
        · have hf := if_t c7 hf
          refine lv_iconst (v := 0) hx hb dX3_readGuest_62 (by decide) ?_
          exact fin dX3_readGuest_63 (nz01 (by decide)) (s1 hf) (by rw [(Prod.mk.inj (s2 hf)).1, (Prod.mk.inj (s2 hf)).2]) hP hS
        · have hf := if_f c7 hf
          refine lv_aload_n hx hb dX3_readGuest_51 rfl (lv_at hl 1 rfl) ?_
          obtain ⟨q8, hq8, hf⟩ := bind_some hf
          refine callV_i (As := []) (rest := []) S hB hP hS (C := RX3) (b := E.ad 1 0) (g_recv (o := 1) (d := 0) hB hP m_1_0 rfl rfl) (KW_X3_takeSign l hE (va_up (va_up σ 1 q4.2) 6 q6.2) hq8) (cwV 0 S.2.2.2.2 gX3_readGuest_X3_takeSign rfl rfl rfl (by decide +kernel) ⟨Nat.le_of_ble_eq_true rfl, Nat.le_of_ble_eq_true rfl⟩) rfl hl.1 rfl (Nat.le_of_ble_eq_true rfl) dX3_readGuest_52 ⟨Nat.zero_le _, Nat.zero_le _⟩ (fun H locs hP hS => ?_)
          rw [lens_swap σ (by decide)] at hP
          refine lv_if_eq (tgt := 62) hx hb dX3_readGuest_55 (by decide) (fun c9 => ?_) (fun c9 => ?_)
          · have hf := if_t c9 hf
            refine lv_iconst (v := 0) hx hb dX3_readGuest_62 (by decide) ?_
            exact fin dX3_readGuest_63 (nz01 (by decide)) (s1 hf) (by rw [(Prod.mk.inj (s2 hf)).1, (Prod.mk.inj (s2 hf)).2]) hP hS
          · have hf := if_f c9 hf
            refine lv_iconst (v := 1) hx hb dX3_readGuest_58 (by decide) ?_
            refine lv_goto (tgt := 63) hx hb dX3_readGuest_59 (by decide) ?_
            exact fin dX3_readGuest_63 (nz01 (by decide)) (s1 hf) (by rw [(Prod.mk.inj (s2 hf)).1, (Prod.mk.inj (s2 hf)).2]) hP hS
    · have hf := if_t c3 hf
      refine lv_iconst (v := 0) hx hb dX3_readGuest_23 (by decide) ?_
      exact fin dX3_readGuest_24 (nz01 (by decide)) (s1 hf) (by rw [(Prod.mk.inj (s2 hf)).1, (Prod.mk.inj (s2 hf)).2]) hP hS
  · have hf := if_f c1 hf
    refine lv_aload_n hx hb dX3_readGuest_8 rfl (lv_at hl 0 rfl) ?_
    refine lv_iconst (v := 5) hx hb dX3_readGuest_9 (by decide) ?_
    obtain ⟨q10, hq10, hf⟩ := bind_some hf
    refine callV_i (As := [.int (5 : Int32)]) (rest := []) S hB hP hS (C := RX3) (b := E.ad 1 0) (g_recv (o := 1) (d := 0) hB hP m_1_0 rfl rfl) (KW_X3_fail l hE (va_up (va_up σ 1 z) 6 w) (5 : Int32) hq10) (cwV 1 S.2.2.2.2 gX3_readGuest_X3_fail rfl rfl rfl (by decide +kernel) ⟨Nat.le_of_ble_eq_true rfl, Nat.le_of_ble_eq_true rfl⟩) rfl hl.1 rfl (Nat.le_of_ble_eq_true rfl) dX3_readGuest_10 ⟨Nat.zero_le _, Nat.zero_le _⟩ (fun H locs hP hS => ?_)
    rw [lens_swap σ (by decide)] at hP
    obtain ⟨hv11, hf⟩ := ckb_some hf
    exact fin dX3_readGuest_13 (nz01 hv11) (s1 hf) (by rw [(Prod.mk.inj (s2 hf)).1, (Prod.mk.inj (s2 hf)).2]) hP hS
theorem KW_X3_readGuest (l : Launch) {E : En} (hE : Inj E) (X : Wd) {r : Int32} {z' : Ob} {w' : Ob} (hf : f_X3_readGuest (X 1) (X 6) = some (r, z', w')) : Cti l E yX3_readGuest wsX3_readGuest rm_X3_readGuest [.ref (E.ad 1 0), .ref (E.ad 6 0)] X r (va_up (va_up X 1 z') 6 w') := by
  have h := K_X3_readGuest l hE X (X 1) (X 6)  hf
  rw [lens_all2] at h
  exact h
/-! X3_readHedges -/
abbrev rm_X3_readHedges : Room := { frames := 3, cells := 0, slots := 0, locals := 62 }
set_option maxHeartbeats 4000000 in
set_option maxRecDepth 100000 in
theorem K_X3_readHedges (l : Launch) {E : En} (hE : Inj E) (σ : Wd) (z w : Ob) {r : Int32} {z' : Ob} {w' : Ob} (hf : f_X3_readHedges z w = some (r, z', w')) : Cti l E yX3_readHedges wsX3_readHedges rm_X3_readHedges [.ref (E.ad 1 0), .ref (E.ad 6 0)] (va_up (va_up σ 1 z) 6 w) r (va_up (va_up σ 1 z') 6 w') := by
  refine meet_z (cc := cX3_readHedges) (maxL := 3) (own := RX3) (by decide) rfl rfl (Nat.le_of_ble_eq_true rfl) ?_
  intro p e s m below meth c Z S hB fin hP hS ls hl
  have hx := S.1
  have hb := S.2.1
  have hl : lv_has ls 3 [(0, .ref (E.ad 1 0)), (1, .ref (E.ad 6 0))] := hl
  have hinX1 : ∀ w ∈ u_ws RX1 TX1 12, w ∈ wsX3_readHedges := by decide +kernel
  have hinX3 : ∀ w ∈ u_ws RX3 TX3 8, w ∈ wsX3_readHedges := by decide +kernel
  have fl25 := S.2.2.2.2 (.fieldLink RX3 25 "MownMaze$Reader" "token" "I") (by decide +kernel)
  have fl28 := S.2.2.2.2 (.fieldLink RX3 28 "MownMaze$Reader" "number" "I") (by decide +kernel)
  have fl109 := S.2.2.2.2 (.fieldLink RX3 109 "MownMaze$Maze" "hedges" "I") (by decide +kernel)
  have hL2 : ∀ (n2 : Nat) (z : Ob) (w : Ob) (x2 : Int32) (H : Heap) (locs : List Loc) (ls : Array Slot), f_X3_readHedges_l2 n2 z w x2 = some (r, z', w') → va_P E.1 vwCl (GW E (va_up (va_up σ 1 z) 6 w)) H → va_S (GA E) s.heap H locs → lv_has ls 3 [(0, .ref (E.ad 1 0)), (1, .ref (E.ad 6 0)), (2, .int x2)] → W p l e rm_X3_readHedges s m ([.ref (E.ad 1 0), .ref (E.ad 6 0)] : List Value).toArray below meth c H locs 0 0 Z (F0 m 2 ls []) := by
    intro n2
    induction n2 with
    | zero =>
      intro z w x2 H locs ls hf
      cases (show (none : Option _) = some _ from hf)
    | succ n2 ih2 =>
      intro z w x2 H locs ls hf hP hS hl
      unfold f_X3_readHedges_l2 at hf
      refine lv_iload_n hx hb dX3_readHedges_2 rfl (lv_at hl 2 rfl) ?_
      refine lv_sipush (v := 160) hx hb dX3_readHedges_3 (by decide) ?_
      refine lv_icmp_gt (tgt := 74) hx hb dX3_readHedges_6 (by decide) (fun c1 => ?_) (fun c1 => ?_)
      · have hf := if_t c1 hf
        refine lv_aload_n hx hb dX3_readHedges_74 rfl (lv_at hl 0 rfl) ?_
        refine lv_iconst (v := 2) hx hb dX3_readHedges_75 (by decide) ?_
        obtain ⟨q2, hq2, hf⟩ := bind_some hf
        refine callV_i (As := [.int (2 : Int32)]) (rest := []) S hB hP hS (C := RX3) (b := E.ad 1 0) (g_recv (o := 1) (d := 0) hB hP m_1_0 rfl rfl) (KW_X3_fail l hE (va_up (va_up σ 1 z) 6 w) (2 : Int32) hq2) (cwV 1 S.2.2.2.2 gX3_readHedges_X3_fail rfl rfl rfl (by decide +kernel) ⟨Nat.le_of_ble_eq_true rfl, Nat.le_of_ble_eq_true rfl⟩) rfl hl.1 rfl (Nat.le_of_ble_eq_true rfl) dX3_readHedges_76 ⟨Nat.zero_le _, Nat.zero_le _⟩ (fun H locs hP hS => ?_)
        rw [lens_swap σ (by decide)] at hP
        obtain ⟨hv3, hf⟩ := ckb_some hf
        exact fin dX3_readHedges_79 (nz01 hv3) (s1 hf) (by rw [(Prod.mk.inj (s2 hf)).1, (Prod.mk.inj (s2 hf)).2]) hP hS
      · have hf := if_f c1 hf
        refine lv_aload_n hx hb dX3_readHedges_9 rfl (lv_at hl 0 rfl) ?_
        obtain ⟨q4, hq4, hf⟩ := bind_some hf
        refine callV_v (As := []) (rest := []) S hB hP hS (C := RX3) (b := E.ad 1 0) (g_recv (o := 1) (d := 0) hB hP m_1_0 rfl rfl) (KW_X3_takeToken l hE (va_up (va_up σ 1 z) 6 w) hq4) (cwV 0 S.2.2.2.2 gX3_readHedges_X3_takeToken rfl rfl rfl (by decide +kernel) ⟨Nat.le_of_ble_eq_true rfl, Nat.le_of_ble_eq_true rfl⟩) rfl hl.1 rfl (Nat.le_of_ble_eq_true rfl) dX3_readHedges_10 ⟨Nat.zero_le _, Nat.zero_le _⟩ (fun H locs hP hS => ?_)
        rw [lens_swap σ (by decide)] at hP
        refine lv_aload_n hx hb dX3_readHedges_13 rfl (lv_at hl 0 rfl) ?_
        refine g_get (v := .int (q4 0 4)) S hB hinX3 hP m_1_0 rfl rfl 4 (by decide) fl25 rfl rfl dX3_readHedges_14 ?_
        refine lv_iconst (v := 3) hx hb dX3_readHedges_17 (by decide) ?_
        refine lv_icmp_ne (tgt := 23) hx hb dX3_readHedges_18 (by decide) (fun c5 => ?_) (fun c5 => ?_)
        · have hf := if_f c5 hf
          refine lv_aload_n hx hb dX3_readHedges_23 rfl (lv_at hl 0 rfl) ?_
          refine lv_bipush (v := 23) hx hb dX3_readHedges_24 (by decide) ?_
          obtain ⟨q6, hq6, hf⟩ := bind_some hf
          refine callV_i (As := [.int (23 : Int32)]) (rest := []) S hB hP hS (C := RX3) (b := E.ad 1 0) (g_recv (o := 1) (d := 0) hB hP m_1_0 rfl rfl) (KW_X3_isNumberTo l hE (va_up (va_up σ 1 q4) 6 w) (23 : Int32) hq6) (cwV 1 S.2.2.2.2 gX3_readHedges_X3_isNumberTo rfl rfl rfl (by decide +kernel) ⟨Nat.le_of_ble_eq_true rfl, Nat.le_of_ble_eq_true rfl⟩) rfl hl.1 rfl (Nat.le_of_ble_eq_true rfl) dX3_readHedges_26 ⟨Nat.zero_le _, Nat.zero_le _⟩ (fun H locs hP hS => ?_)
          rw [lens_swap σ (by decide)] at hP
          refine lv_if_ne (tgt := 34) hx hb dX3_readHedges_29 (by decide) (fun c7 => ?_) (fun c7 => ?_)
          · have hf := if_f c7 hf
            refine lv_aload_n hx hb dX3_readHedges_34 rfl (lv_at hl 1 rfl) ?_
            refine lv_aload_n hx hb dX3_readHedges_35 rfl (lv_at hl 0 rfl) ?_
            refine g_get (v := .int (q6.2 0 5)) S hB hinX3 hP m_1_0 rfl rfl 5 (by decide) fl28 rfl rfl dX3_readHedges_36 ?_
            obtain ⟨q8, hq8, hf⟩ := bind_some hf
            refine callV_i (As := [.int (q6.2 0 5)]) (rest := []) S hB hP hS (C := RX1) (b := E.ad 6 0) (g_recv (o := 6) (d := 0) hB hP m_6_0 rfl rfl) (K_X1_standing l hE (va_up σ 1 q6.2) (by decide) (by decide) w (q6.2 0 5) hq8) (cwV 1 S.2.2.2.2 gX3_readHedges_X1_standing rfl rfl rfl (by decide +kernel) ⟨Nat.le_of_ble_eq_true rfl, Nat.le_of_ble_eq_true rfl⟩) rfl hl.1 rfl (Nat.le_of_ble_eq_true rfl) dX3_readHedges_39 ⟨Nat.zero_le _, Nat.zero_le _⟩ (fun H locs hP hS => ?_)
            refine lv_iconst (v := 1) hx hb dX3_readHedges_42 (by decide) ?_
            refine lv_icmp_ne (tgt := 52) hx hb dX3_readHedges_43 (by decide) (fun c9 => ?_) (fun c9 => ?_)
            · have hf := if_f c9 hf
              refine lv_aload_n hx hb dX3_readHedges_52 rfl (lv_at hl 1 rfl) ?_
              refine lv_aload_n hx hb dX3_readHedges_53 rfl (lv_at hl 1 rfl) ?_
              refine g_get (v := .int (w 0 0)) S hB hinX1 hP m_6_0 rfl rfl 0 (by decide) fl109 rfl rfl dX3_readHedges_54 ?_
              refine lv_aload_n hx hb dX3_readHedges_57 rfl (lv_at hl 0 rfl) ?_
              refine g_get (v := .int (q6.2 0 5)) S hB hinX3 hP m_1_0 rfl rfl 5 (by decide) fl28 rfl rfl dX3_readHedges_58 ?_
              refine lv_iconst (v := 1) hx hb dX3_readHedges_61 (by decide) ?_
              obtain ⟨q10, hq10, hf⟩ := bind_some hf
              refine callS_i (As := [.int (w 0 0), .int (q6.2 0 5), .int (1 : Int32)]) (rest := [.ref (E.ad 6 0)]) S hB hP hS (K_X2_with l hE (va_up (va_up σ 1 q6.2) 6 w) (w 0 0) (q6.2 0 5) (1 : Int32) hq10) (va_cwS 3 S.2.2.2.2 gX3_readHedges_X2_with rfl rfl rfl (by decide +kernel) ⟨Nat.le_of_ble_eq_true rfl, Nat.le_of_ble_eq_true rfl⟩) rfl hl.1 rfl (Nat.le_of_ble_eq_true rfl) dX3_readHedges_62 ⟨Nat.zero_le _, Nat.zero_le _⟩ (fun H locs hP hS => ?_)
              refine g_put S hB hE hinX1 tyX1 tyX1_ok nmX1 hP hS m_6_0 rfl rfl 0 (by decide) fl109 rfl rfl rfl rfl (Nat.le_of_ble_eq_true rfl) (by exact (fun _ => rfl) _) (X' := (va_up (va_up σ 1 q6.2) 6 (ob w 0 0 q10))) (lens_put _ 6 _ _ _ _) dX3_readHedges_65 (fun H locs hP hS => ?_)
              refine lv_iinc (v := x2 + (1 : Int32)) (lv' := [(2, .int (x2 + (1 : Int32))), (0, .ref (E.ad 1 0)), (1, .ref (E.ad 6 0))]) hx hb dX3_readHedges_68 hl (k := 2) rfl rfl (by decide) rfl (fun ls hl => ?_)
              refine lv_goto (tgt := 2) hx hb dX3_readHedges_71 (by decide) ?_
              exact ih2 q6.2 (ob w 0 0 q10) (x2 + (1 : Int32)) _ _ _ hf hP hS (lv_sub hl [1, 2, 0] rfl)
            · have hf := if_t c9 hf
              refine lv_aload_n hx hb dX3_readHedges_46 rfl (lv_at hl 0 rfl) ?_
              refine lv_iconst (v := 4) hx hb dX3_readHedges_47 (by decide) ?_
              obtain ⟨q11, hq11, hf⟩ := bind_some hf
              refine callV_i (As := [.int (4 : Int32)]) (rest := []) S hB hP hS (C := RX3) (b := E.ad 1 0) (g_recv (o := 1) (d := 0) hB hP m_1_0 rfl rfl) (KW_X3_fail l hE (va_up (va_up σ 1 q6.2) 6 w) (4 : Int32) hq11) (cwV 1 S.2.2.2.2 gX3_readHedges_X3_fail rfl rfl rfl (by decide +kernel) ⟨Nat.le_of_ble_eq_true rfl, Nat.le_of_ble_eq_true rfl⟩) rfl hl.1 rfl (Nat.le_of_ble_eq_true rfl) dX3_readHedges_48 ⟨Nat.zero_le _, Nat.zero_le _⟩ (fun H locs hP hS => ?_)
              rw [lens_swap σ (by decide)] at hP
              obtain ⟨hv12, hf⟩ := ckb_some hf
              exact fin dX3_readHedges_51 (nz01 hv12) (s1 hf) (by rw [(Prod.mk.inj (s2 hf)).1, (Prod.mk.inj (s2 hf)).2]) hP hS
          · have hf := if_t c7 hf
            refine lv_iconst (v := 0) hx hb dX3_readHedges_32 (by decide) ?_
            exact fin dX3_readHedges_33 (nz01 (by decide)) (s1 hf) (by rw [(Prod.mk.inj (s2 hf)).1, (Prod.mk.inj (s2 hf)).2]) hP hS
        · have hf := if_t c5 hf
          refine lv_iconst (v := 1) hx hb dX3_readHedges_21 (by decide) ?_
          exact fin dX3_readHedges_22 (nz01 (by decide)) (s1 hf) (by rw [(Prod.mk.inj (s2 hf)).1, (Prod.mk.inj (s2 hf)).2]) hP hS
  unfold f_X3_readHedges at hf
  refine lv_iconst (v := 0) hx hb dX3_readHedges_0 (by decide) ?_
  refine lv_istore_n (lv' := [(2, .int (0 : Int32)), (0, .ref (E.ad 1 0)), (1, .ref (E.ad 6 0))]) hx hb dX3_readHedges_1 rfl hl (by decide) rfl (fun ls hl => ?_)
  exact hL2 FUEL z w (0 : Int32) _ _ _ hf hP hS (lv_sub hl [1, 2, 0] rfl)
theorem KW_X3_readHedges (l : Launch) {E : En} (hE : Inj E) (X : Wd) {r : Int32} {z' : Ob} {w' : Ob} (hf : f_X3_readHedges (X 1) (X 6) = some (r, z', w')) : Cti l E yX3_readHedges wsX3_readHedges rm_X3_readHedges [.ref (E.ad 1 0), .ref (E.ad 6 0)] X r (va_up (va_up X 1 z') 6 w') := by
  have h := K_X3_readHedges l hE X (X 1) (X 6)  hf
  rw [lens_all2] at h
  exact h
/-! X3_readGate -/
abbrev rm_X3_readGate : Room := { frames := 4, cells := 0, slots := 0, locals := 83 }
set_option maxHeartbeats 4000000 in
set_option maxRecDepth 100000 in
theorem K_X3_readGate (l : Launch) {E : En} (hE : Inj E) (σ : Wd) (z w : Ob) {r : Int32} {z' : Ob} {w' : Ob} (hf : f_X3_readGate z w = some (r, z', w')) : Cti l E yX3_readGate wsX3_readGate rm_X3_readGate [.ref (E.ad 1 0), .ref (E.ad 6 0)] (va_up (va_up σ 1 z) 6 w) r (va_up (va_up σ 1 z') 6 w') := by
  refine meet_z (cc := cX3_readGate) (maxL := 2) (own := RX3) (by decide) rfl rfl (Nat.le_of_ble_eq_true rfl) ?_
  intro p e s m below meth c Z S hB fin hP hS ls hl
  have hx := S.1
  have hb := S.2.1
  have hl : lv_has ls 2 [(0, .ref (E.ad 1 0)), (1, .ref (E.ad 6 0))] := hl
  have hinX1 : ∀ w ∈ u_ws RX1 TX1 12, w ∈ wsX3_readGate := by decide +kernel
  have hinX3 : ∀ w ∈ u_ws RX3 TX3 8, w ∈ wsX3_readGate := by decide +kernel
  have fl28 := S.2.2.2.2 (.fieldLink RX3 28 "MownMaze$Reader" "number" "I") (by decide +kernel)
  have fl34 := S.2.2.2.2 (.fieldLink RX3 34 "MownMaze$Reader" "gateTold" "Z") (by decide +kernel)
  have fl118 := S.2.2.2.2 (.fieldLink RX3 118 "MownMaze$Maze" "gate" "I") (by decide +kernel)
  unfold f_X3_readGate at hf
  refine lv_aload_n hx hb dX3_readGate_0 rfl (lv_at hl 0 rfl) ?_
  refine g_get (v := .int (z 0 7)) S hB hinX3 hP m_1_0 rfl rfl 7 (by decide) fl34 rfl rfl dX3_readGate_1 ?_
  refine lv_if_eq (tgt := 13) hx hb dX3_readGate_4 (by decide) (fun c1 => ?_) (fun c1 => ?_)
  · have hf := if_t c1 hf
    refine lv_aload_n hx hb dX3_readGate_13 rfl (lv_at hl 0 rfl) ?_
    refine lv_bipush (v := 15) hx hb dX3_readGate_14 (by decide) ?_
    obtain ⟨q2, hq2, hf⟩ := bind_some hf
    refine callV_i (As := [.int (15 : Int32)]) (rest := []) S hB hP hS (C := RX3) (b := E.ad 1 0) (g_recv (o := 1) (d := 0) hB hP m_1_0 rfl rfl) (KW_X3_takeNumber l hE (va_up (va_up σ 1 z) 6 w) (15 : Int32) hq2) (cwV 1 S.2.2.2.2 gX3_readGate_X3_takeNumber rfl rfl rfl (by decide +kernel) ⟨Nat.le_of_ble_eq_true rfl, Nat.le_of_ble_eq_true rfl⟩) rfl hl.1 rfl (Nat.le_of_ble_eq_true rfl) dX3_readGate_16 ⟨Nat.zero_le _, Nat.zero_le _⟩ (fun H locs hP hS => ?_)
    rw [lens_swap σ (by decide)] at hP
    refine lv_if_ne (tgt := 24) hx hb dX3_readGate_19 (by decide) (fun c3 => ?_) (fun c3 => ?_)
    · have hf := if_f c3 hf
      refine lv_aload_n hx hb dX3_readGate_24 rfl (lv_at hl 0 rfl) ?_
      refine lv_iconst (v := 1) hx hb dX3_readGate_25 (by decide) ?_
      refine g_put S hB hE hinX3 tyX3 tyX3_ok nmX3 hP hS m_1_0 rfl rfl 7 (by decide) fl34 rfl rfl (nz01 (by decide)) (fz01 (by decide)) (Nat.le_of_ble_eq_true rfl) (by exact (fun _ => rfl) _) (X' := (va_up (va_up σ 1 (ob q2.2 0 7 (1 : Int32))) 6 w)) (lens_put1 σ (by decide) _ _ _ _ _) dX3_readGate_26 (fun H locs hP hS => ?_)
      refine lv_aload_n hx hb dX3_readGate_29 rfl (lv_at hl 1 rfl) ?_
      refine lv_aload_n hx hb dX3_readGate_30 rfl (lv_at hl 0 rfl) ?_
      refine g_get (v := .int (q2.2 0 5)) S hB hinX3 hP m_1_0 rfl rfl 5 (by decide) fl28 rfl rfl dX3_readGate_31 ?_
      refine g_put S hB hE hinX1 tyX1 tyX1_ok nmX1 hP hS m_6_0 rfl rfl 1 (by decide) fl118 rfl rfl rfl rfl (Nat.le_of_ble_eq_true rfl) (by exact (fun _ => rfl) _) (X' := (va_up (va_up σ 1 (ob q2.2 0 7 (1 : Int32))) 6 (ob w 0 1 (q2.2 0 5)))) (lens_put _ 6 _ _ _ _) dX3_readGate_34 (fun H locs hP hS => ?_)
      refine lv_aload_n hx hb dX3_readGate_37 rfl (lv_at hl 0 rfl) ?_
      obtain ⟨q4, hq4, hf⟩ := bind_some hf
      refine callV_i (As := []) (rest := []) S hB hP hS (C := RX3) (b := E.ad 1 0) (g_recv (o := 1) (d := 0) hB hP m_1_0 rfl rfl) (KW_X3_takeSign l hE (va_up (va_up σ 1 (ob q2.2 0 7 (1 : Int32))) 6 (ob w 0 1 (q2.2 0 5))) hq4) (cwV 0 S.2.2.2.2 gX3_readGate_X3_takeSign rfl rfl rfl (by decide +kernel) ⟨Nat.le_of_ble_eq_true rfl, Nat.le_of_ble_eq_true rfl⟩) rfl hl.1 rfl (Nat.le_of_ble_eq_true rfl) dX3_readGate_38 ⟨Nat.zero_le _, Nat.zero_le _⟩ (fun H locs hP hS => ?_)
      rw [lens_swap σ (by decide)] at hP
      obtain ⟨hv5, hf⟩ := ckb_some hf
      exact fin dX3_readGate_41 (nz01 hv5) (s1 hf) (by rw [(Prod.mk.inj (s2 hf)).1, (Prod.mk.inj (s2 hf)).2]) hP hS
    · have hf := if_t c3 hf
      refine lv_iconst (v := 0) hx hb dX3_readGate_22 (by decide) ?_
      exact fin dX3_readGate_23 (nz01 (by decide)) (s1 hf) (by rw [(Prod.mk.inj (s2 hf)).1, (Prod.mk.inj (s2 hf)).2]) hP hS
  · have hf := if_f c1 hf
    refine lv_aload_n hx hb dX3_readGate_7 rfl (lv_at hl 0 rfl) ?_
    refine lv_iconst (v := 4) hx hb dX3_readGate_8 (by decide) ?_
    obtain ⟨q6, hq6, hf⟩ := bind_some hf
    refine callV_i (As := [.int (4 : Int32)]) (rest := []) S hB hP hS (C := RX3) (b := E.ad 1 0) (g_recv (o := 1) (d := 0) hB hP m_1_0 rfl rfl) (KW_X3_fail l hE (va_up (va_up σ 1 z) 6 w) (4 : Int32) hq6) (cwV 1 S.2.2.2.2 gX3_readGate_X3_fail rfl rfl rfl (by decide +kernel) ⟨Nat.le_of_ble_eq_true rfl, Nat.le_of_ble_eq_true rfl⟩) rfl hl.1 rfl (Nat.le_of_ble_eq_true rfl) dX3_readGate_9 ⟨Nat.zero_le _, Nat.zero_le _⟩ (fun H locs hP hS => ?_)
    rw [lens_swap σ (by decide)] at hP
    obtain ⟨hv7, hf⟩ := ckb_some hf
    exact fin dX3_readGate_12 (nz01 hv7) (s1 hf) (by rw [(Prod.mk.inj (s2 hf)).1, (Prod.mk.inj (s2 hf)).2]) hP hS
theorem KW_X3_readGate (l : Launch) {E : En} (hE : Inj E) (X : Wd) {r : Int32} {z' : Ob} {w' : Ob} (hf : f_X3_readGate (X 1) (X 6) = some (r, z', w')) : Cti l E yX3_readGate wsX3_readGate rm_X3_readGate [.ref (E.ad 1 0), .ref (E.ad 6 0)] X r (va_up (va_up X 1 z') 6 w') := by
  have h := K_X3_readGate l hE X (X 1) (X 6)  hf
  rw [lens_all2] at h
  exact h
/-! X3_readLine -/
abbrev rm_X3_readLine : Room := { frames := 6, cells := 0, slots := 0, locals := 127 }
set_option maxHeartbeats 4000000 in
set_option maxRecDepth 100000 in
theorem K_X3_readLine (l : Launch) {E : En} (hE : Inj E) (σ : Wd) (z w : Ob) {r : Int32} {z' : Ob} {w' : Ob} (hf : f_X3_readLine z w = some (r, z', w')) : Cti l E yX3_readLine wsX3_readLine rm_X3_readLine [.ref (E.ad 1 0), .ref (E.ad 6 0)] (va_up (va_up σ 1 z) 6 w) r (va_up (va_up σ 1 z') 6 w') := by
  refine meet_z (cc := cX3_readLine) (maxL := 3) (own := RX3) (by decide) rfl rfl (Nat.le_of_ble_eq_true rfl) ?_
  intro p e s m below meth c Z S hB fin hP hS ls hl
  have hx := S.1
  have hb := S.2.1
  have hl : lv_has ls 3 [(0, .ref (E.ad 1 0)), (1, .ref (E.ad 6 0))] := hl
  have hinX3 : ∀ w ∈ u_ws RX3 TX3 8, w ∈ wsX3_readLine := by decide +kernel
  have fl25 := S.2.2.2.2 (.fieldLink RX3 25 "MownMaze$Reader" "token" "I") (by decide +kernel)
  unfold f_X3_readLine at hf
  refine lv_aload_n hx hb dX3_readLine_0 rfl (lv_at hl 0 rfl) ?_
  refine g_get (v := .int (z 0 4)) S hB hinX3 hP m_1_0 rfl rfl 4 (by decide) fl25 rfl rfl dX3_readLine_1 ?_
  refine lv_iconst (v := 1) hx hb dX3_readLine_4 (by decide) ?_
  refine lv_icmp_eq (tgt := 13) hx hb dX3_readLine_5 (by decide) (fun c1 => ?_) (fun c1 => ?_)
  · have hf := if_t c1 hf
    refine lv_aload_n hx hb dX3_readLine_13 rfl (lv_at hl 0 rfl) ?_
    obtain ⟨q2, hq2, hf⟩ := bind_some hf
    refine callV_i (As := []) (rest := []) S hB hP hS (C := RX3) (b := E.ad 1 0) (g_recv (o := 1) (d := 0) hB hP m_1_0 rfl rfl) (KW_X3_kindNamed l hE (va_up (va_up σ 1 z) 6 w) hq2) (cwV 0 S.2.2.2.2 gX3_readLine_X3_kindNamed rfl rfl rfl (by decide +kernel) ⟨Nat.le_of_ble_eq_true rfl, Nat.le_of_ble_eq_true rfl⟩) rfl hl.1 rfl (Nat.le_of_ble_eq_true rfl) dX3_readLine_14 ⟨Nat.zero_le _, Nat.zero_le _⟩ (fun H locs hP hS => ?_)
    refine lv_istore_n (lv' := [(2, .int q2), (0, .ref (E.ad 1 0)), (1, .ref (E.ad 6 0))]) hx hb dX3_readLine_17 rfl hl (by decide) rfl (fun ls hl => ?_)
    refine lv_iload_n hx hb dX3_readLine_18 rfl (lv_at hl 0 rfl) ?_
    refine lv_if_lt (tgt := 29) hx hb dX3_readLine_19 (by decide) (fun c3 => ?_) (fun c3 => ?_)
    · have hf := if_t c3 hf
      refine lv_aload_n hx hb dX3_readLine_29 rfl (lv_at hl 1 rfl) ?_
      refine va_ldcS hx hb S.2.2.2.1 (hB.2.2.1) dX3_readLine_30 ?_
      obtain ⟨q4, hq4, hf⟩ := bind_some hf
      refine callV_i (As := [.ref (E.kS 0)]) (rest := []) S hB hP hS (C := RX3) (b := E.ad 1 0) (g_recv (o := 1) (d := 0) hB hP m_1_0 rfl rfl) (KW_X3_spells l hE (va_up (va_up σ 1 z) 6 w) (by decide : 0 < 7) hq4) (cwV 1 S.2.2.2.2 gX3_readLine_X3_spells rfl rfl rfl (by decide +kernel) ⟨Nat.le_of_ble_eq_true rfl, Nat.le_of_ble_eq_true rfl⟩) rfl hl.1 rfl (Nat.le_of_ble_eq_true rfl) dX3_readLine_32 ⟨Nat.zero_le _, Nat.zero_le _⟩ (fun H locs hP hS => ?_)
      refine lv_if_eq (tgt := 44) hx hb dX3_readLine_35 (by decide) (fun c5 => ?_) (fun c5 => ?_)
      · have hf := if_t c5 hf
        refine lv_aload_n hx hb dX3_readLine_44 rfl (lv_at hl 1 rfl) ?_
        refine va_ldcS hx hb S.2.2.2.1 (hB.2.2.2.1) dX3_readLine_45 ?_
        obtain ⟨q6, hq6, hf⟩ := bind_some hf
        refine callV_i (As := [.ref (E.kS 1)]) (rest := []) S hB hP hS (C := RX3) (b := E.ad 1 0) (g_recv (o := 1) (d := 0) hB hP m_1_0 rfl rfl) (KW_X3_spells l hE (va_up (va_up σ 1 z) 6 w) (by decide : 1 < 7) hq6) (cwV 1 S.2.2.2.2 gX3_readLine_X3_spells rfl rfl rfl (by decide +kernel) ⟨Nat.le_of_ble_eq_true rfl, Nat.le_of_ble_eq_true rfl⟩) rfl hl.1 rfl (Nat.le_of_ble_eq_true rfl) dX3_readLine_47 ⟨Nat.zero_le _, Nat.zero_le _⟩ (fun H locs hP hS => ?_)
        refine lv_if_eq (tgt := 59) hx hb dX3_readLine_50 (by decide) (fun c7 => ?_) (fun c7 => ?_)
        · have hf := if_t c7 hf
          refine lv_aload_n hx hb dX3_readLine_59 rfl (lv_at hl 1 rfl) ?_
          refine va_ldcS hx hb S.2.2.2.1 (hB.2.2.2.2.1) dX3_readLine_60 ?_
          obtain ⟨q8, hq8, hf⟩ := bind_some hf
          refine callV_i (As := [.ref (E.kS 2)]) (rest := []) S hB hP hS (C := RX3) (b := E.ad 1 0) (g_recv (o := 1) (d := 0) hB hP m_1_0 rfl rfl) (KW_X3_spells l hE (va_up (va_up σ 1 z) 6 w) (by decide : 2 < 7) hq8) (cwV 1 S.2.2.2.2 gX3_readLine_X3_spells rfl rfl rfl (by decide +kernel) ⟨Nat.le_of_ble_eq_true rfl, Nat.le_of_ble_eq_true rfl⟩) rfl hl.1 rfl (Nat.le_of_ble_eq_true rfl) dX3_readLine_62 ⟨Nat.zero_le _, Nat.zero_le _⟩ (fun H locs hP hS => ?_)
          refine lv_if_eq (tgt := 76) hx hb dX3_readLine_65 (by decide) (fun c9 => ?_) (fun c9 => ?_)
          · have hf := if_t c9 hf
            refine lv_aload_n hx hb dX3_readLine_76 rfl (lv_at hl 1 rfl) ?_
            refine lv_iconst (v := 2) hx hb dX3_readLine_77 (by decide) ?_
            obtain ⟨q10, hq10, hf⟩ := bind_some hf
            refine callV_i (As := [.int (2 : Int32)]) (rest := []) S hB hP hS (C := RX3) (b := E.ad 1 0) (g_recv (o := 1) (d := 0) hB hP m_1_0 rfl rfl) (KW_X3_fail l hE (va_up (va_up σ 1 z) 6 w) (2 : Int32) hq10) (cwV 1 S.2.2.2.2 gX3_readLine_X3_fail rfl rfl rfl (by decide +kernel) ⟨Nat.le_of_ble_eq_true rfl, Nat.le_of_ble_eq_true rfl⟩) rfl hl.1 rfl (Nat.le_of_ble_eq_true rfl) dX3_readLine_78 ⟨Nat.zero_le _, Nat.zero_le _⟩ (fun H locs hP hS => ?_)
            rw [lens_swap σ (by decide)] at hP
            obtain ⟨hv11, hf⟩ := ckb_some hf
            exact fin dX3_readLine_81 (nz01 hv11) (s1 hf) (by rw [(Prod.mk.inj (s2 hf)).1, (Prod.mk.inj (s2 hf)).2]) hP hS
          · have hf := if_f c9 hf
            refine lv_aload_n hx hb dX3_readLine_68 rfl (lv_at hl 1 rfl) ?_
            refine lv_aload_n hx hb dX3_readLine_69 rfl (lv_at hl 2 rfl) ?_
            obtain ⟨q12, hq12, hf⟩ := bind_some hf
            refine callV_i (As := [.ref (E.ad 6 0)]) (rest := []) S hB hP hS (C := RX3) (b := E.ad 1 0) (g_recv (o := 1) (d := 0) hB hP m_1_0 rfl rfl) (K_X3_readGate l hE σ z w hq12) (cwV 1 S.2.2.2.2 gX3_readLine_X3_readGate rfl rfl rfl (by decide +kernel) ⟨Nat.le_of_ble_eq_true rfl, Nat.le_of_ble_eq_true rfl⟩) rfl hl.1 rfl (Nat.le_of_ble_eq_true rfl) dX3_readLine_70 ⟨Nat.zero_le _, Nat.zero_le _⟩ (fun H locs hP hS => ?_)
            refine lv_goto (tgt := 81) hx hb dX3_readLine_73 (by decide) ?_
            obtain ⟨hv13, hf⟩ := ckb_some hf
            exact fin dX3_readLine_81 (nz01 hv13) (s1 hf) (by rw [(Prod.mk.inj (s2 hf)).1, (Prod.mk.inj (s2 hf)).2]) hP hS
        · have hf := if_f c7 hf
          refine lv_aload_n hx hb dX3_readLine_53 rfl (lv_at hl 1 rfl) ?_
          refine lv_aload_n hx hb dX3_readLine_54 rfl (lv_at hl 2 rfl) ?_
          obtain ⟨q14, hq14, hf⟩ := bind_some hf
          refine callV_i (As := [.ref (E.ad 6 0)]) (rest := []) S hB hP hS (C := RX3) (b := E.ad 1 0) (g_recv (o := 1) (d := 0) hB hP m_1_0 rfl rfl) (K_X3_readHedges l hE σ z w hq14) (cwV 1 S.2.2.2.2 gX3_readLine_X3_readHedges rfl rfl rfl (by decide +kernel) ⟨Nat.le_of_ble_eq_true rfl, Nat.le_of_ble_eq_true rfl⟩) rfl hl.1 rfl (Nat.le_of_ble_eq_true rfl) dX3_readLine_55 ⟨Nat.zero_le _, Nat.zero_le _⟩ (fun H locs hP hS => ?_)
          obtain ⟨hv15, hf⟩ := ckb_some hf
          exact fin dX3_readLine_58 (nz01 hv15) (s1 hf) (by rw [(Prod.mk.inj (s2 hf)).1, (Prod.mk.inj (s2 hf)).2]) hP hS
      · have hf := if_f c5 hf
        refine lv_aload_n hx hb dX3_readLine_38 rfl (lv_at hl 1 rfl) ?_
        refine lv_aload_n hx hb dX3_readLine_39 rfl (lv_at hl 2 rfl) ?_
        obtain ⟨q16, hq16, hf⟩ := bind_some hf
        refine callV_i (As := [.ref (E.ad 6 0)]) (rest := []) S hB hP hS (C := RX3) (b := E.ad 1 0) (g_recv (o := 1) (d := 0) hB hP m_1_0 rfl rfl) (K_X3_readGuest l hE σ z w hq16) (cwV 1 S.2.2.2.2 gX3_readLine_X3_readGuest rfl rfl rfl (by decide +kernel) ⟨Nat.le_of_ble_eq_true rfl, Nat.le_of_ble_eq_true rfl⟩) rfl hl.1 rfl (Nat.le_of_ble_eq_true rfl) dX3_readLine_40 ⟨Nat.zero_le _, Nat.zero_le _⟩ (fun H locs hP hS => ?_)
        obtain ⟨hv17, hf⟩ := ckb_some hf
        exact fin dX3_readLine_43 (nz01 hv17) (s1 hf) (by rw [(Prod.mk.inj (s2 hf)).1, (Prod.mk.inj (s2 hf)).2]) hP hS
    · have hf := if_f c3 hf
      refine lv_aload_n hx hb dX3_readLine_22 rfl (lv_at hl 1 rfl) ?_
      refine lv_aload_n hx hb dX3_readLine_23 rfl (lv_at hl 2 rfl) ?_
      refine lv_iload_n hx hb dX3_readLine_24 rfl (lv_at hl 0 rfl) ?_
      obtain ⟨q18, hq18, hf⟩ := bind_some hf
      refine callV_i (As := [.ref (E.ad 6 0), .int q2]) (rest := []) S hB hP hS (C := RX3) (b := E.ad 1 0) (g_recv (o := 1) (d := 0) hB hP m_1_0 rfl rfl) (K_X3_readGardener l hE σ z w q2 hq18) (cwV 2 S.2.2.2.2 gX3_readLine_X3_readGardener rfl rfl rfl (by decide +kernel) ⟨Nat.le_of_ble_eq_true rfl, Nat.le_of_ble_eq_true rfl⟩) rfl hl.1 rfl (Nat.le_of_ble_eq_true rfl) dX3_readLine_25 ⟨Nat.zero_le _, Nat.zero_le _⟩ (fun H locs hP hS => ?_)
      obtain ⟨hv19, hf⟩ := ckb_some hf
      exact fin dX3_readLine_28 (nz01 hv19) (s1 hf) (by rw [(Prod.mk.inj (s2 hf)).1, (Prod.mk.inj (s2 hf)).2]) hP hS
  · have hf := if_f c1 hf
    refine lv_aload_n hx hb dX3_readLine_8 rfl (lv_at hl 0 rfl) ?_
    obtain ⟨q20, hq20, hf⟩ := bind_some hf
    refine callV_i (As := []) (rest := []) S hB hP hS (C := RX3) (b := E.ad 1 0) (g_recv (o := 1) (d := 0) hB hP m_1_0 rfl rfl) (KW_X3_failAtToken l hE (va_up (va_up σ 1 z) 6 w) hq20) (cwV 0 S.2.2.2.2 gX3_readLine_X3_failAtToken rfl rfl rfl (by decide +kernel) ⟨Nat.le_of_ble_eq_true rfl, Nat.le_of_ble_eq_true rfl⟩) rfl hl.1 rfl (Nat.le_of_ble_eq_true rfl) dX3_readLine_9 ⟨Nat.zero_le _, Nat.zero_le _⟩ (fun H locs hP hS => ?_)
    rw [lens_swap σ (by decide)] at hP
    obtain ⟨hv21, hf⟩ := ckb_some hf
    exact fin dX3_readLine_12 (nz01 hv21) (s1 hf) (by rw [(Prod.mk.inj (s2 hf)).1, (Prod.mk.inj (s2 hf)).2]) hP hS
theorem KW_X3_readLine (l : Launch) {E : En} (hE : Inj E) (X : Wd) {r : Int32} {z' : Ob} {w' : Ob} (hf : f_X3_readLine (X 1) (X 6) = some (r, z', w')) : Cti l E yX3_readLine wsX3_readLine rm_X3_readLine [.ref (E.ad 1 0), .ref (E.ad 6 0)] X r (va_up (va_up X 1 z') 6 w') := by
  have h := K_X3_readLine l hE X (X 1) (X 6)  hf
  rw [lens_all2] at h
  exact h
/-! X3_readLines -/
abbrev rm_X3_readLines : Room := { frames := 7, cells := 0, slots := 0, locals := 149 }
set_option maxHeartbeats 4000000 in
set_option maxRecDepth 100000 in
theorem K_X3_readLines (l : Launch) {E : En} (hE : Inj E) (σ : Wd) (z w : Ob) {r : Int32} {z' : Ob} {w' : Ob} (hf : f_X3_readLines z w = some (r, z', w')) : Cti l E yX3_readLines wsX3_readLines rm_X3_readLines [.ref (E.ad 1 0), .ref (E.ad 6 0)] (va_up (va_up σ 1 z) 6 w) r (va_up (va_up σ 1 z') 6 w') := by
  refine meet_i (cc := cX3_readLines) (maxL := 3) (own := RX3) (by decide) rfl rfl (Nat.le_of_ble_eq_true rfl) ?_
  intro p e s m below meth c Z S hB fin hP hS ls hl
  have hx := S.1
  have hb := S.2.1
  have hl : lv_has ls 3 [(0, .ref (E.ad 1 0)), (1, .ref (E.ad 6 0))] := hl
  have hinX3 : ∀ w ∈ u_ws RX3 TX3 8, w ∈ wsX3_readLines := by decide +kernel
  have fl19 := S.2.2.2.2 (.fieldLink RX3 19 "MownMaze$Reader" "place" "I") (by decide +kernel)
  have fl25 := S.2.2.2.2 (.fieldLink RX3 25 "MownMaze$Reader" "token" "I") (by decide +kernel)
  have fl31 := S.2.2.2.2 (.fieldLink RX3 31 "MownMaze$Reader" "fault" "I") (by decide +kernel)
  have fl34 := S.2.2.2.2 (.fieldLink RX3 34 "MownMaze$Reader" "gateTold" "Z") (by decide +kernel)
  have hL17 : ∀ (n17 : Nat) (z : Ob) (w : Ob) (x2 : Int32) (H : Heap) (locs : List Loc) (ls : Array Slot), f_X3_readLines_l17 n17 z w x2 = some (r, z', w') → va_P E.1 vwCl (GW E (va_up (va_up σ 1 z) 6 w)) H → va_S (GA E) s.heap H locs → lv_has ls 3 [(0, .ref (E.ad 1 0)), (1, .ref (E.ad 6 0)), (2, .int x2)] → W p l e rm_X3_readLines s m ([.ref (E.ad 1 0), .ref (E.ad 6 0)] : List Value).toArray below meth c H locs 0 0 Z (F0 m 17 ls []) := by
    intro n17
    induction n17 with
    | zero =>
      intro z w x2 H locs ls hf
      cases (show (none : Option _) = some _ from hf)
    | succ n17 ih17 =>
      intro z w x2 H locs ls hf hP hS hl
      unfold f_X3_readLines_l17 at hf
      refine lv_iload_n hx hb dX3_readLines_17 rfl (lv_at hl 2 rfl) ?_
      refine lv_sipush (v := 160) hx hb dX3_readLines_18 (by decide) ?_
      refine lv_icmp_gt (tgt := 52) hx hb dX3_readLines_21 (by decide) (fun c1 => ?_) (fun c1 => ?_)
      · have hf := if_t c1 hf
        refine lv_sipush (v := 160) hx hb dX3_readLines_52 (by decide) ?_
        exact fin dX3_readLines_55 (s1 hf) (by rw [(Prod.mk.inj (s2 hf)).1, (Prod.mk.inj (s2 hf)).2]) hP hS
      · have hf := if_f c1 hf
        refine lv_aload_n hx hb dX3_readLines_24 rfl (lv_at hl 0 rfl) ?_
        obtain ⟨q2, hq2, hf⟩ := bind_some hf
        refine callV_v (As := []) (rest := []) S hB hP hS (C := RX3) (b := E.ad 1 0) (g_recv (o := 1) (d := 0) hB hP m_1_0 rfl rfl) (KW_X3_takeToken l hE (va_up (va_up σ 1 z) 6 w) hq2) (cwV 0 S.2.2.2.2 gX3_readLines_X3_takeToken rfl rfl rfl (by decide +kernel) ⟨Nat.le_of_ble_eq_true rfl, Nat.le_of_ble_eq_true rfl⟩) rfl hl.1 rfl (Nat.le_of_ble_eq_true rfl) dX3_readLines_25 ⟨Nat.zero_le _, Nat.zero_le _⟩ (fun H locs hP hS => ?_)
        rw [lens_swap σ (by decide)] at hP
        refine lv_aload_n hx hb dX3_readLines_28 rfl (lv_at hl 0 rfl) ?_
        refine g_get (v := .int (q2 0 4)) S hB hinX3 hP m_1_0 rfl rfl 4 (by decide) fl25 rfl rfl dX3_readLines_29 ?_
        refine lv_iconst (v := 4) hx hb dX3_readLines_32 (by decide) ?_
        refine lv_icmp_eq (tgt := 44) hx hb dX3_readLines_33 (by decide) (fun c3 => ?_) (fun c3 => ?_)
        · have hf := if_t c3 hf
          refine lv_iload_n hx hb dX3_readLines_44 rfl (lv_at hl 2 rfl) ?_
          exact fin dX3_readLines_45 (s1 hf) (by rw [(Prod.mk.inj (s2 hf)).1, (Prod.mk.inj (s2 hf)).2]) hP hS
        · have hf := if_f c3 hf
          refine lv_aload_n hx hb dX3_readLines_36 rfl (lv_at hl 0 rfl) ?_
          refine lv_aload_n hx hb dX3_readLines_37 rfl (lv_at hl 1 rfl) ?_
          obtain ⟨q4, hq4, hf⟩ := bind_some hf
          refine callV_i (As := [.ref (E.ad 6 0)]) (rest := []) S hB hP hS (C := RX3) (b := E.ad 1 0) (g_recv (o := 1) (d := 0) hB hP m_1_0 rfl rfl) (K_X3_readLine l hE σ q2 w hq4) (cwV 1 S.2.2.2.2 gX3_readLines_X3_readLine rfl rfl rfl (by decide +kernel) ⟨Nat.le_of_ble_eq_true rfl, Nat.le_of_ble_eq_true rfl⟩) rfl hl.1 rfl (Nat.le_of_ble_eq_true rfl) dX3_readLines_38 ⟨Nat.zero_le _, Nat.zero_le _⟩ (fun H locs hP hS => ?_)
          refine lv_if_ne (tgt := 46) hx hb dX3_readLines_41 (by decide) (fun c5 => ?_) (fun c5 => ?_)
          · have hf := if_f c5 hf
            refine lv_iinc (v := x2 + (1 : Int32)) (lv' := [(2, .int (x2 + (1 : Int32))), (0, .ref (E.ad 1 0)), (1, .ref (E.ad 6 0))]) hx hb dX3_readLines_46 hl (k := 2) rfl rfl (by decide) rfl (fun ls hl => ?_)
            refine lv_goto (tgt := 17) hx hb dX3_readLines_49 (by decide) ?_
            exact ih17 q4.2.1 q4.2.2 (x2 + (1 : Int32)) _ _ _ hf hP hS (lv_sub hl [1, 2, 0] rfl)
          · have hf := if_t c5 hf
            refine lv_iload_n hx hb dX3_readLines_44 rfl (lv_at hl 2 rfl) ?_
            exact fin dX3_readLines_45 (s1 hf) (by rw [(Prod.mk.inj (s2 hf)).1, (Prod.mk.inj (s2 hf)).2]) hP hS
  unfold f_X3_readLines at hf
  refine lv_aload_n hx hb dX3_readLines_0 rfl (lv_at hl 0 rfl) ?_
  refine lv_iconst (v := 0) hx hb dX3_readLines_1 (by decide) ?_
  refine g_put S hB hE hinX3 tyX3 tyX3_ok nmX3 hP hS m_1_0 rfl rfl 2 (by decide) fl19 rfl rfl rfl rfl (Nat.le_of_ble_eq_true rfl) (by exact (fun _ => rfl) _) (X' := (va_up (va_up σ 1 (ob z 0 2 (0 : Int32))) 6 w)) (lens_put1 σ (by decide) _ _ _ _ _) dX3_readLines_2 (fun H locs hP hS => ?_)
  refine lv_aload_n hx hb dX3_readLines_5 rfl (lv_at hl 0 rfl) ?_
  refine lv_iconst (v := 0) hx hb dX3_readLines_6 (by decide) ?_
  refine g_put S hB hE hinX3 tyX3 tyX3_ok nmX3 hP hS m_1_0 rfl rfl 6 (by decide) fl31 rfl rfl rfl rfl (Nat.le_of_ble_eq_true rfl) (by exact (fun _ => rfl) _) (X' := (va_up (va_up σ 1 (ob (ob z 0 2 (0 : Int32)) 0 6 (0 : Int32))) 6 w)) (lens_put1 σ (by decide) _ _ _ _ _) dX3_readLines_7 (fun H locs hP hS => ?_)
  refine lv_aload_n hx hb dX3_readLines_10 rfl (lv_at hl 0 rfl) ?_
  refine lv_iconst (v := 0) hx hb dX3_readLines_11 (by decide) ?_
  refine g_put S hB hE hinX3 tyX3 tyX3_ok nmX3 hP hS m_1_0 rfl rfl 7 (by decide) fl34 rfl rfl (nz01 (by decide)) (fz01 (by decide)) (Nat.le_of_ble_eq_true rfl) (by exact (fun _ => rfl) _) (X' := (va_up (va_up σ 1 (ob (ob (ob z 0 2 (0 : Int32)) 0 6 (0 : Int32)) 0 7 (0 : Int32))) 6 w)) (lens_put1 σ (by decide) _ _ _ _ _) dX3_readLines_12 (fun H locs hP hS => ?_)
  refine lv_iconst (v := 0) hx hb dX3_readLines_15 (by decide) ?_
  refine lv_istore_n (lv' := [(2, .int (0 : Int32)), (0, .ref (E.ad 1 0)), (1, .ref (E.ad 6 0))]) hx hb dX3_readLines_16 rfl hl (by decide) rfl (fun ls hl => ?_)
  exact hL17 FUEL (ob (ob (ob z 0 2 (0 : Int32)) 0 6 (0 : Int32)) 0 7 (0 : Int32)) w (0 : Int32) _ _ _ hf hP hS (lv_sub hl [1, 2, 0] rfl)
theorem KW_X3_readLines (l : Launch) {E : En} (hE : Inj E) (X : Wd) {r : Int32} {z' : Ob} {w' : Ob} (hf : f_X3_readLines (X 1) (X 6) = some (r, z', w')) : Cti l E yX3_readLines wsX3_readLines rm_X3_readLines [.ref (E.ad 1 0), .ref (E.ad 6 0)] X r (va_up (va_up X 1 z') 6 w') := by
  have h := K_X3_readLines l hE X (X 1) (X 6)  hf
  rw [lens_all2] at h
  exact h
