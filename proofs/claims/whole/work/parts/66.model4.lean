/-! X7_grows -/
abbrev rm_X7_grows : Room := { frames := 2, cells := 0, slots := 0, locals := 45 }
set_option maxHeartbeats 4000000 in
set_option maxRecDepth 100000 in
theorem K_X7_grows (l : Launch) {E : En} (hE : Inj E) (σ : Wd) (z : Ob) (a1 : Int32) (a2 : Int32) {r : Int32} {z' : Ob} (hf : f_X7_grows z a1 a2 = some (r, z')) : Cti l E yX7_grows wsX7_grows rm_X7_grows [.ref (E.ad 22 0), .int a1, .int a2] (va_up σ 22 z) r (va_up σ 22 z') := by
  refine meet_i (cc := cX7_grows) (maxL := 3) (own := RX7) (by decide) rfl rfl (Nat.le_of_ble_eq_true rfl) ?_
  intro p e s m below meth c Z S hB fin hP hS ls hl
  have hx := S.1
  have hb := S.2.1
  have hl : lv_has ls 3 [(0, .ref (E.ad 22 0)), (1, .int a1), (2, .int a2)] := hl
  have hB23 : ∀ (z : Ob) (x1 : Int32) (x2 : Int32) (y0 : Int32) (H : Heap) (locs : List Loc) (ls : Array Slot), f_X7_grows_b23 z x1 x2 y0 = some (r, z') → va_P E.1 vwCl (GW E (va_up σ 22 z)) H → va_S (GA E) s.heap H locs → lv_has ls 3 [(1, .int x1), (2, .int x2)] → W p l e rm_X7_grows s m ([.ref (E.ad 22 0), .int a1, .int a2] : List Value).toArray below meth c H locs 0 0 Z (F0 m 23 ls [.int y0, .ref (E.ad 22 0)]) := by
    intro z x1 x2 y0 H locs ls hf hP hS hl
    unfold f_X7_grows_b23 at hf
    refine lv_iload_n hx hb dX7_grows_23 rfl (lv_at hl 0 rfl) ?_
    refine lv_iload_n hx hb dX7_grows_24 rfl (lv_at hl 1 rfl) ?_
    obtain ⟨q5, hq5, hf⟩ := bind_some hf
    refine callV_i (As := [.int y0, .int x1, .int x2]) (rest := []) S hB hP hS (C := RX7) (b := E.ad 22 0) (g_recv (o := 22) (d := 0) hB hP m_22_0 rfl rfl) (K_X7_puts l hE σ z y0 x1 x2 hq5) (cwV 3 S.2.2.2.2 gX7_grows_X7_puts rfl rfl rfl (by decide +kernel) ⟨Nat.le_of_ble_eq_true rfl, Nat.le_of_ble_eq_true rfl⟩) rfl hl.1 rfl (Nat.le_of_ble_eq_true rfl) dX7_grows_25 ⟨Nat.zero_le _, Nat.zero_le _⟩ (fun H locs hP hS => ?_)
    exact fin dX7_grows_28 (s1 hf) (by rw [(s2 hf)]) hP hS
  have hB22 : ∀ (z : Ob) (x1 : Int32) (x2 : Int32) (H : Heap) (locs : List Loc) (ls : Array Slot), f_X7_grows_b22 z x1 x2 = some (r, z') → va_P E.1 vwCl (GW E (va_up σ 22 z)) H → va_S (GA E) s.heap H locs → lv_has ls 3 [(1, .int x1), (2, .int x2)] → W p l e rm_X7_grows s m ([.ref (E.ad 22 0), .int a1, .int a2] : List Value).toArray below meth c H locs 0 0 Z (F0 m 22 ls [.ref (E.ad 22 0)]) := by
    intro z x1 x2 H locs ls hf hP hS hl
    unfold f_X7_grows_b22 at hf
    refine lv_iconst (v := 0) hx hb dX7_grows_22 (by decide) ?_
    exact hB23 z x1 x2 (0 : Int32) _ _ _ hf hP hS (lv_sub hl [0, 1] rfl)
  unfold f_X7_grows at hf
  refine lv_aload_n hx hb dX7_grows_0 rfl (lv_at hl 0 rfl) ?_
  refine lv_iload_n hx hb dX7_grows_1 rfl (lv_at hl 1 rfl) ?_
  obtain ⟨q1, hq1, hf⟩ := bind_some hf
  refine callS_i (As := [.int a1]) (rest := [.ref (E.ad 22 0)]) S hB hP hS (K_X7_isHedge l hE (va_up σ 22 z) a1 hq1) (va_cwS 1 S.2.2.2.2 gX7_grows_X7_isHedge rfl rfl rfl (by decide +kernel) ⟨Nat.le_of_ble_eq_true rfl, Nat.le_of_ble_eq_true rfl⟩) rfl hl.1 rfl (Nat.le_of_ble_eq_true rfl) dX7_grows_2 ⟨Nat.zero_le _, Nat.zero_le _⟩ (fun H locs hP hS => ?_)
  refine lv_if_eq (tgt := 22) hx hb dX7_grows_5 (by decide) (fun c2 => ?_) (fun c2 => ?_)
  · have hf := if_t c2 hf
    exact hB22 z a1 a2 _ _ _ hf hP hS (lv_sub hl [1, 2] rfl)
  · have hf := if_f c2 hf
    refine lv_iload_n hx hb dX7_grows_8 rfl (lv_at hl 2 rfl) ?_
    refine lv_i2l hx hb dX7_grows_9 (v := a2.toInt64) rfl ?_
    refine lv_lconst (v := 0) hx hb dX7_grows_10 (by decide) ?_
    refine lv_lconst (v := 1) hx hb dX7_grows_11 (by decide) ?_
    obtain ⟨q3, hq3, hf⟩ := bind_some hf
    refine callS_i (As := [.long a2.toInt64, .long (0 : Int64), .long (1 : Int64)]) (rest := [.ref (E.ad 22 0)]) S hB hP hS (K_X7_in l hE (va_up σ 22 z) a2.toInt64 (0 : Int64) (1 : Int64) hq3) (va_cwS 3 S.2.2.2.2 gX7_grows_X7_in rfl rfl rfl (by decide +kernel) ⟨Nat.le_of_ble_eq_true rfl, Nat.le_of_ble_eq_true rfl⟩) rfl hl.1 rfl (Nat.le_of_ble_eq_true rfl) dX7_grows_12 ⟨Nat.zero_le _, Nat.zero_le _⟩ (fun H locs hP hS => ?_)
    refine lv_if_eq (tgt := 22) hx hb dX7_grows_15 (by decide) (fun c4 => ?_) (fun c4 => ?_)
    · have hf := if_t c4 hf
      exact hB22 z a1 a2 _ _ _ hf hP hS (lv_sub hl [1, 2] rfl)
    · have hf := if_f c4 hf
      refine lv_iconst (v := 1) hx hb dX7_grows_18 (by decide) ?_
      refine lv_goto (tgt := 23) hx hb dX7_grows_19 (by decide) ?_
      exact hB23 z a1 a2 (1 : Int32) _ _ _ hf hP hS (lv_sub hl [1, 2] rfl)
theorem KW_X7_grows (l : Launch) {E : En} (hE : Inj E) (X : Wd) (a1 : Int32) (a2 : Int32) {r : Int32} {z' : Ob} (hf : f_X7_grows (X 22) a1 a2 = some (r, z')) : Cti l E yX7_grows wsX7_grows rm_X7_grows [.ref (E.ad 22 0), .int a1, .int a2] X r (va_up X 22 z') := by
  have h := K_X7_grows l hE X (X 22) a1 a2 hf
  rw [lens_all] at h
  exact h
/-! X7_grow -/
abbrev rm_X7_grow : Room := { frames := 3, cells := 0, slots := 0, locals := 67 }
set_option maxHeartbeats 4000000 in
set_option maxRecDepth 100000 in
theorem K_X7_grow (l : Launch) {E : En} (hE : Inj E) (σ : Wd) (z : Ob) (a1 : Int32) (a2 : Int32) {r : Int32} {z' : Ob} (hf : f_X7_grow z a1 a2 = some (r, z')) : Cti l E yX7_grow wsX7_grow rm_X7_grow [.ref (E.ad 22 0), .int a1, .int a2] (va_up σ 22 z) r (va_up σ 22 z') := by
  refine meet_i (cc := cX7_grow) (maxL := 3) (own := RX7) (by decide) rfl rfl (Nat.le_of_ble_eq_true rfl) ?_
  intro p e s m below meth c Z S hB fin hP hS ls hl
  have hx := S.1
  have hb := S.2.1
  have hl : lv_has ls 3 [(0, .ref (E.ad 22 0)), (1, .int a1), (2, .int a2)] := hl
  unfold f_X7_grow at hf
  refine lv_aload_n hx hb dX7_grow_0 rfl (lv_at hl 0 rfl) ?_
  refine lv_iload_n hx hb dX7_grow_1 rfl (lv_at hl 1 rfl) ?_
  refine lv_iload_n hx hb dX7_grow_2 rfl (lv_at hl 2 rfl) ?_
  obtain ⟨q1, hq1, hf⟩ := bind_some hf
  refine callV_i (As := [.int a1, .int a2]) (rest := []) S hB hP hS (C := RX7) (b := E.ad 22 0) (g_recv (o := 22) (d := 0) hB hP m_22_0 rfl rfl) (K_X7_grows l hE σ z a1 a2 hq1) (cwV 2 S.2.2.2.2 gX7_grow_X7_grows rfl rfl rfl (by decide +kernel) ⟨Nat.le_of_ble_eq_true rfl, Nat.le_of_ble_eq_true rfl⟩) rfl hl.1 rfl (Nat.le_of_ble_eq_true rfl) dX7_grow_3 ⟨Nat.zero_le _, Nat.zero_le _⟩ (fun H locs hP hS => ?_)
  exact fin dX7_grow_6 (s1 hf) (by rw [(s2 hf)]) hP hS
theorem KW_X7_grow (l : Launch) {E : En} (hE : Inj E) (X : Wd) (a1 : Int32) (a2 : Int32) {r : Int32} {z' : Ob} (hf : f_X7_grow (X 22) a1 a2 = some (r, z')) : Cti l E yX7_grow wsX7_grow rm_X7_grow [.ref (E.ad 22 0), .int a1, .int a2] X r (va_up X 22 z') := by
  have h := K_X7_grow l hE X (X 22) a1 a2 hf
  rw [lens_all] at h
  exact h
/-! X7_alter -/
abbrev rm_X7_alter : Room := { frames := 2, cells := 0, slots := 0, locals := 46 }
set_option maxHeartbeats 4000000 in
set_option maxRecDepth 100000 in
theorem K_X7_alter (l : Launch) {E : En} (hE : Inj E) (σ : Wd) (z : Ob) (a1 : Int32) (a2 : Int32) (a3 : Int32) {r : Int32} {z' : Ob} (hf : f_X7_alter z a1 a2 a3 = some (r, z')) : Cti l E yX7_alter wsX7_alter rm_X7_alter [.ref (E.ad 22 0), .int a1, .int a2, .int a3] (va_up σ 22 z) r (va_up σ 22 z') := by
  refine meet_i (cc := cX7_alter) (maxL := 5) (own := RX7) (by decide) rfl rfl (Nat.le_of_ble_eq_true rfl) ?_
  intro p e s m below meth c Z S hB fin hP hS ls hl
  have hx := S.1
  have hb := S.2.1
  have hl : lv_has ls 5 [(0, .ref (E.ad 22 0)), (1, .int a1), (2, .int a2), (3, .int a3)] := hl
  have hB60 : ∀ (z : Ob) (x1 : Int32) (x2 : Int32) (x3 : Int32) (y0 : Int32) (H : Heap) (locs : List Loc) (ls : Array Slot), f_X7_alter_b60 z x1 x2 x3 y0 = some (r, z') → va_P E.1 vwCl (GW E (va_up σ 22 z)) H → va_S (GA E) s.heap H locs → lv_has ls 5 [(1, .int x1), (2, .int x2), (3, .int x3)] → W p l e rm_X7_alter s m ([.ref (E.ad 22 0), .int a1, .int a2, .int a3] : List Value).toArray below meth c H locs 0 0 Z (F0 m 60 ls [.int y0, .ref (E.ad 22 0)]) := by
    intro z x1 x2 x3 y0 H locs ls hf hP hS hl
    unfold f_X7_alter_b60 at hf
    refine lv_bipush (v := 25) hx hb dX7_alter_60 (by decide) ?_
    refine lv_iconst (v := 4) hx hb dX7_alter_62 (by decide) ?_
    refine lv_iload_n hx hb dX7_alter_63 rfl (lv_at hl 1 rfl) ?_
    refine lv_imul hx hb dX7_alter_64 ?_
    refine lv_iadd hx hb dX7_alter_65 ?_
    refine lv_iload_n hx hb dX7_alter_66 rfl (lv_at hl 0 rfl) ?_
    refine lv_iadd hx hb dX7_alter_67 ?_
    refine lv_iload_n hx hb dX7_alter_68 rfl (lv_at hl 2 rfl) ?_
    obtain ⟨q3, hq3, hf⟩ := bind_some hf
    refine callV_i (As := [.int y0, .int (((25 : Int32) + ((4 : Int32) * x2)) + x1), .int x3]) (rest := []) S hB hP hS (C := RX7) (b := E.ad 22 0) (g_recv (o := 22) (d := 0) hB hP m_22_0 rfl rfl) (K_X7_puts l hE σ z y0 (((25 : Int32) + ((4 : Int32) * x2)) + x1) x3 hq3) (cwV 3 S.2.2.2.2 gX7_alter_X7_puts rfl rfl rfl (by decide +kernel) ⟨Nat.le_of_ble_eq_true rfl, Nat.le_of_ble_eq_true rfl⟩) rfl hl.1 rfl (Nat.le_of_ble_eq_true rfl) dX7_alter_69 ⟨Nat.zero_le _, Nat.zero_le _⟩ (fun H locs hP hS => ?_)
    exact fin dX7_alter_72 (s1 hf) (by rw [(s2 hf)]) hP hS
  have hB59 : ∀ (z : Ob) (x1 : Int32) (x2 : Int32) (x3 : Int32) (H : Heap) (locs : List Loc) (ls : Array Slot), f_X7_alter_b59 z x1 x2 x3 = some (r, z') → va_P E.1 vwCl (GW E (va_up σ 22 z)) H → va_S (GA E) s.heap H locs → lv_has ls 5 [(1, .int x1), (2, .int x2), (3, .int x3)] → W p l e rm_X7_alter s m ([.ref (E.ad 22 0), .int a1, .int a2, .int a3] : List Value).toArray below meth c H locs 0 0 Z (F0 m 59 ls [.ref (E.ad 22 0)]) := by
    intro z x1 x2 x3 H locs ls hf hP hS hl
    unfold f_X7_alter_b59 at hf
    refine lv_iconst (v := 0) hx hb dX7_alter_59 (by decide) ?_
    exact hB60 z x1 x2 x3 (0 : Int32) _ _ _ hf hP hS (lv_sub hl [0, 1, 2] rfl)
  have hB20 : ∀ (z : Ob) (x1 : Int32) (x2 : Int32) (x3 : Int32) (y0 : Int32) (H : Heap) (locs : List Loc) (ls : Array Slot), f_X7_alter_b20 z x1 x2 x3 y0 = some (r, z') → va_P E.1 vwCl (GW E (va_up σ 22 z)) H → va_S (GA E) s.heap H locs → lv_has ls 5 [(0, .ref (E.ad 22 0)), (1, .int x1), (2, .int x2), (3, .int x3)] → W p l e rm_X7_alter s m ([.ref (E.ad 22 0), .int a1, .int a2, .int a3] : List Value).toArray below meth c H locs 0 0 Z (F0 m 20 ls [.int y0]) := by
    intro z x1 x2 x3 y0 H locs ls hf hP hS hl
    unfold f_X7_alter_b20 at hf
    refine lv_istore (lv' := [(4, .int y0), (0, .ref (E.ad 22 0)), (1, .int x1), (2, .int x2), (3, .int x3)]) hx hb dX7_alter_20 hl (by decide) rfl (fun ls hl => ?_)
    refine lv_aload_n hx hb dX7_alter_22 rfl (lv_at hl 1 rfl) ?_
    refine lv_aload_n hx hb dX7_alter_23 rfl (lv_at hl 1 rfl) ?_
    refine lv_iload_n hx hb dX7_alter_24 rfl (lv_at hl 2 rfl) ?_
    obtain ⟨q4, hq4, hf⟩ := bind_some hf
    refine callV_i (As := [.int x1]) (rest := [.ref (E.ad 22 0)]) S hB hP hS (C := RX7) (b := E.ad 22 0) (g_recv (o := 22) (d := 0) hB hP m_22_0 rfl rfl) (K_X7_isGardener l hE σ z x1 hq4) (cwV 1 S.2.2.2.2 gX7_alter_X7_isGardener rfl rfl rfl (by decide +kernel) ⟨Nat.le_of_ble_eq_true rfl, Nat.le_of_ble_eq_true rfl⟩) rfl hl.1 rfl (Nat.le_of_ble_eq_true rfl) dX7_alter_25 ⟨Nat.zero_le _, Nat.zero_le _⟩ (fun H locs hP hS => ?_)
    refine lv_if_eq (tgt := 59) hx hb dX7_alter_28 (by decide) (fun c5 => ?_) (fun c5 => ?_)
    · have hf := if_t c5 hf
      exact hB59 z x1 x2 x3 _ _ _ hf hP hS (lv_sub hl [2, 3, 4] rfl)
    · have hf := if_f c5 hf
      refine lv_iload_n hx hb dX7_alter_31 rfl (lv_at hl 3 rfl) ?_
      refine lv_i2l hx hb dX7_alter_32 (v := x2.toInt64) rfl ?_
      refine lv_lconst (v := 0) hx hb dX7_alter_33 (by decide) ?_
      refine lv_ldc2 hx hb S.2.2.2.1 (S.2.2.2.2 (.constantLong RX7 180 (2)) (by decide +kernel)) dX7_alter_34 ?_
      obtain ⟨q6, hq6, hf⟩ := bind_some hf
      refine callS_i (As := [.long x2.toInt64, .long (0 : Int64), .long (2 : Int64)]) (rest := [.ref (E.ad 22 0)]) S hB hP hS (K_X7_in l hE (va_up σ 22 z) x2.toInt64 (0 : Int64) (2 : Int64) hq6) (va_cwS 3 S.2.2.2.2 gX7_alter_X7_in rfl rfl rfl (by decide +kernel) ⟨Nat.le_of_ble_eq_true rfl, Nat.le_of_ble_eq_true rfl⟩) rfl hl.1 rfl (Nat.le_of_ble_eq_true rfl) dX7_alter_37 ⟨Nat.zero_le _, Nat.zero_le _⟩ (fun H locs hP hS => ?_)
      refine lv_if_eq (tgt := 59) hx hb dX7_alter_40 (by decide) (fun c7 => ?_) (fun c7 => ?_)
      · have hf := if_t c7 hf
        exact hB59 z x1 x2 x3 _ _ _ hf hP hS (lv_sub hl [2, 3, 4] rfl)
      · have hf := if_f c7 hf
        refine lv_iload_n hx hb dX7_alter_43 rfl (lv_at hl 4 rfl) ?_
        refine lv_i2l hx hb dX7_alter_44 (v := x3.toInt64) rfl ?_
        refine lv_lconst (v := 0) hx hb dX7_alter_45 (by decide) ?_
        refine lv_iload hx hb dX7_alter_46 (lv_at hl 0 rfl) ?_
        refine lv_i2l hx hb dX7_alter_48 (v := y0.toInt64) rfl ?_
        obtain ⟨q8, hq8, hf⟩ := bind_some hf
        refine callS_i (As := [.long x3.toInt64, .long (0 : Int64), .long y0.toInt64]) (rest := [.ref (E.ad 22 0)]) S hB hP hS (K_X7_in l hE (va_up σ 22 z) x3.toInt64 (0 : Int64) y0.toInt64 hq8) (va_cwS 3 S.2.2.2.2 gX7_alter_X7_in rfl rfl rfl (by decide +kernel) ⟨Nat.le_of_ble_eq_true rfl, Nat.le_of_ble_eq_true rfl⟩) rfl hl.1 rfl (Nat.le_of_ble_eq_true rfl) dX7_alter_49 ⟨Nat.zero_le _, Nat.zero_le _⟩ (fun H locs hP hS => ?_)
        refine lv_if_eq (tgt := 59) hx hb dX7_alter_52 (by decide) (fun c9 => ?_) (fun c9 => ?_)
        · have hf := if_t c9 hf
          exact hB59 z x1 x2 x3 _ _ _ hf hP hS (lv_sub hl [2, 3, 4] rfl)
        · have hf := if_f c9 hf
          refine lv_iconst (v := 1) hx hb dX7_alter_55 (by decide) ?_
          refine lv_goto (tgt := 60) hx hb dX7_alter_56 (by decide) ?_
          exact hB60 z x1 x2 x3 (1 : Int32) _ _ _ hf hP hS (lv_sub hl [2, 3, 4] rfl)
  unfold f_X7_alter at hf
  refine lv_iload_n hx hb dX7_alter_0 rfl (lv_at hl 2 rfl) ?_
  refine lv_if_ne (tgt := 8) hx hb dX7_alter_1 (by decide) (fun c1 => ?_) (fun c1 => ?_)
  · have hf := if_f c1 hf
    refine lv_iload_n hx hb dX7_alter_8 rfl (lv_at hl 2 rfl) ?_
    refine lv_iconst (v := 1) hx hb dX7_alter_9 (by decide) ?_
    refine lv_icmp_ne (tgt := 18) hx hb dX7_alter_10 (by decide) (fun c2 => ?_) (fun c2 => ?_)
    · have hf := if_f c2 hf
      refine lv_bipush (v := 9) hx hb dX7_alter_18 (by decide) ?_
      exact hB20 z a1 a2 a3 (9 : Int32) _ _ _ hf hP hS (lv_sub hl [0, 1, 2, 3] rfl)
    · have hf := if_t c2 hf
      refine lv_bipush (v := 23) hx hb dX7_alter_13 (by decide) ?_
      refine lv_goto (tgt := 20) hx hb dX7_alter_15 (by decide) ?_
      exact hB20 z a1 a2 a3 (23 : Int32) _ _ _ hf hP hS (lv_sub hl [0, 1, 2, 3] rfl)
  · have hf := if_t c1 hf
    refine lv_iconst (v := 3) hx hb dX7_alter_4 (by decide) ?_
    refine lv_goto (tgt := 20) hx hb dX7_alter_5 (by decide) ?_
    exact hB20 z a1 a2 a3 (3 : Int32) _ _ _ hf hP hS (lv_sub hl [0, 1, 2, 3] rfl)
theorem KW_X7_alter (l : Launch) {E : En} (hE : Inj E) (X : Wd) (a1 : Int32) (a2 : Int32) (a3 : Int32) {r : Int32} {z' : Ob} (hf : f_X7_alter (X 22) a1 a2 a3 = some (r, z')) : Cti l E yX7_alter wsX7_alter rm_X7_alter [.ref (E.ad 22 0), .int a1, .int a2, .int a3] X r (va_up X 22 z') := by
  have h := K_X7_alter l hE X (X 22) a1 a2 a3 hf
  rw [lens_all] at h
  exact h
/-! X7_hire -/
abbrev rm_X7_hire : Room := { frames := 2, cells := 0, slots := 0, locals := 45 }
set_option maxHeartbeats 4000000 in
set_option maxRecDepth 100000 in
theorem K_X7_hire (l : Launch) {E : En} (hE : Inj E) (σ : Wd) (z : Ob) (a1 : Int32) (a2 : Int32) (a3 : Int32) {r : Int32} {z' : Ob} (hf : f_X7_hire z a1 a2 a3 = some (r, z')) : Cti l E yX7_hire wsX7_hire rm_X7_hire [.ref (E.ad 22 0), .int a1, .int a2, .int a3] (va_up σ 22 z) r (va_up σ 22 z') := by
  refine meet_i (cc := cX7_hire) (maxL := 5) (own := RX7) (by decide) rfl rfl (Nat.le_of_ble_eq_true rfl) ?_
  intro p e s m below meth c Z S hB fin hP hS ls hl
  have hx := S.1
  have hb := S.2.1
  have hl : lv_has ls 5 [(0, .ref (E.ad 22 0)), (1, .int a1), (2, .int a2), (3, .int a3)] := hl
  have hinX7 : ∀ w ∈ u_ws RX7 TX7 25, w ∈ wsX7_hire := by decide +kernel
  have fl7 := S.2.2.2.2 (.fieldLink RX7 7 "MownMazeModel" "state" "[I") (by decide +kernel)
  unfold f_X7_hire at hf
  refine lv_iload_n hx hb dX7_hire_0 rfl (lv_at hl 1 rfl) ?_
  refine lv_i2l hx hb dX7_hire_1 (v := a1.toInt64) rfl ?_
  refine lv_lconst (v := 0) hx hb dX7_hire_2 (by decide) ?_
  refine lv_ldc2 hx hb S.2.2.2.1 (S.2.2.2.2 (.constantLong RX7 175 (3)) (by decide +kernel)) dX7_hire_3 ?_
  obtain ⟨q1, hq1, hf⟩ := bind_some hf
  refine callS_i (As := [.long a1.toInt64, .long (0 : Int64), .long (3 : Int64)]) (rest := []) S hB hP hS (K_X7_in l hE (va_up σ 22 z) a1.toInt64 (0 : Int64) (3 : Int64) hq1) (va_cwS 3 S.2.2.2.2 gX7_hire_X7_in rfl rfl rfl (by decide +kernel) ⟨Nat.le_of_ble_eq_true rfl, Nat.le_of_ble_eq_true rfl⟩) rfl hl.1 rfl (Nat.le_of_ble_eq_true rfl) dX7_hire_6 ⟨Nat.zero_le _, Nat.zero_le _⟩ (fun H locs hP hS => ?_)
  refine lv_if_eq (tgt := 31) hx hb dX7_hire_9 (by decide) (fun c2 => ?_) (fun c2 => ?_)
  · have hf := if_t c2 hf
    refine lv_iconst (v := -1) hx hb dX7_hire_31 (by decide) ?_
    exact fin dX7_hire_32 (s1 hf) (by rw [(s2 hf)]) hP hS
  · have hf := if_f c2 hf
    refine lv_iload_n hx hb dX7_hire_12 rfl (lv_at hl 2 rfl) ?_
    obtain ⟨q3, hq3, hf⟩ := bind_some hf
    refine callS_i (As := [.int a2]) (rest := []) S hB hP hS (K_X7_isHedge l hE (va_up σ 22 z) a2 hq3) (va_cwS 1 S.2.2.2.2 gX7_hire_X7_isHedge rfl rfl rfl (by decide +kernel) ⟨Nat.le_of_ble_eq_true rfl, Nat.le_of_ble_eq_true rfl⟩) rfl hl.1 rfl (Nat.le_of_ble_eq_true rfl) dX7_hire_13 ⟨Nat.zero_le _, Nat.zero_le _⟩ (fun H locs hP hS => ?_)
    refine lv_if_eq (tgt := 31) hx hb dX7_hire_16 (by decide) (fun c4 => ?_) (fun c4 => ?_)
    · have hf := if_t c4 hf
      refine lv_iconst (v := -1) hx hb dX7_hire_31 (by decide) ?_
      exact fin dX7_hire_32 (s1 hf) (by rw [(s2 hf)]) hP hS
    · have hf := if_f c4 hf
      refine lv_iload_n hx hb dX7_hire_19 rfl (lv_at hl 3 rfl) ?_
      refine lv_i2l hx hb dX7_hire_20 (v := a3.toInt64) rfl ?_
      refine lv_lconst (v := 0) hx hb dX7_hire_21 (by decide) ?_
      refine lv_ldc2 hx hb S.2.2.2.1 (S.2.2.2.2 (.constantLong RX7 192 (9)) (by decide +kernel)) dX7_hire_22 ?_
      obtain ⟨q5, hq5, hf⟩ := bind_some hf
      refine callS_i (As := [.long a3.toInt64, .long (0 : Int64), .long (9 : Int64)]) (rest := []) S hB hP hS (K_X7_in l hE (va_up σ 22 z) a3.toInt64 (0 : Int64) (9 : Int64) hq5) (va_cwS 3 S.2.2.2.2 gX7_hire_X7_in rfl rfl rfl (by decide +kernel) ⟨Nat.le_of_ble_eq_true rfl, Nat.le_of_ble_eq_true rfl⟩) rfl hl.1 rfl (Nat.le_of_ble_eq_true rfl) dX7_hire_25 ⟨Nat.zero_le _, Nat.zero_le _⟩ (fun H locs hP hS => ?_)
      refine lv_if_ne (tgt := 33) hx hb dX7_hire_28 (by decide) (fun c6 => ?_) (fun c6 => ?_)
      · have hf := if_f c6 hf
        refine lv_aload_n hx hb dX7_hire_33 rfl (lv_at hl 0 rfl) ?_
        refine g_get (v := .ref (E.ad 22 1)) S hB hinX7 hP m_22_0 rfl rfl 0 (by decide) fl7 rfl rfl dX7_hire_34 ?_
        refine lv_bipush (v := 37) hx hb dX7_hire_37 (by decide) ?_
        refine g_iald (r := z 1) S hB hP m_22_1 rfl (by unfold vp_in; decide) dX7_hire_39 ?_
        refine lv_istore (lv' := [(4, .int (z 1 37)), (0, .ref (E.ad 22 0)), (1, .int a1), (2, .int a2), (3, .int a3)]) hx hb dX7_hire_40 hl (by decide) rfl (fun ls hl => ?_)
        refine lv_iload hx hb dX7_hire_42 (lv_at hl 0 rfl) ?_
        refine lv_iconst (v := 4) hx hb dX7_hire_44 (by decide) ?_
        refine lv_icmp_ne (tgt := 51) hx hb dX7_hire_45 (by decide) (fun c7 => ?_) (fun c7 => ?_)
        · have hf := if_f c7 hf
          refine lv_aload_n hx hb dX7_hire_51 rfl (lv_at hl 1 rfl) ?_
          refine g_get (v := .ref (E.ad 22 1)) S hB hinX7 hP m_22_0 rfl rfl 0 (by decide) fl7 rfl rfl dX7_hire_52 ?_
          refine lv_bipush (v := 25) hx hb dX7_hire_55 (by decide) ?_
          refine lv_iload hx hb dX7_hire_57 (lv_at hl 0 rfl) ?_
          refine lv_iadd hx hb dX7_hire_59 ?_
          refine lv_iload_n hx hb dX7_hire_60 rfl (lv_at hl 2 rfl) ?_
          obtain ⟨hv8, hf⟩ := ck_some hf
          refine g_iast (r := z 1) S hB hE hP hS m_22_1 rfl rfl (fun _ => rfl) hv8 (X' := (va_up σ 22 (ob z 1 (((25 : Int32) + (z 1 37)).toNatClampNeg) a1))) (lens_put σ 22 _ _ _ _) dX7_hire_61 (fun H locs hP hS => ?_)
          refine lv_aload_n hx hb dX7_hire_62 rfl (lv_at hl 1 rfl) ?_
          refine g_get (v := .ref (E.ad 22 1)) S hB hinX7 hP m_22_0 rfl rfl 0 (by decide) fl7 rfl rfl dX7_hire_63 ?_
          refine lv_bipush (v := 29) hx hb dX7_hire_66 (by decide) ?_
          refine lv_iload hx hb dX7_hire_68 (lv_at hl 0 rfl) ?_
          refine lv_iadd hx hb dX7_hire_70 ?_
          refine lv_iload_n hx hb dX7_hire_71 rfl (lv_at hl 3 rfl) ?_
          obtain ⟨hv9, hf⟩ := ck_some hf
          refine g_iast (r := (ob z 1 (((25 : Int32) + (z 1 37)).toNatClampNeg) a1) 1) S hB hE hP hS m_22_1 rfl rfl (fun _ => rfl) hv9 (X' := (va_up σ 22 (ob (ob z 1 (((25 : Int32) + (z 1 37)).toNatClampNeg) a1) 1 (((29 : Int32) + (z 1 37)).toNatClampNeg) a2))) (lens_put σ 22 _ _ _ _) dX7_hire_72 (fun H locs hP hS => ?_)
          refine lv_aload_n hx hb dX7_hire_73 rfl (lv_at hl 1 rfl) ?_
          refine g_get (v := .ref (E.ad 22 1)) S hB hinX7 hP m_22_0 rfl rfl 0 (by decide) fl7 rfl rfl dX7_hire_74 ?_
          refine lv_bipush (v := 33) hx hb dX7_hire_77 (by decide) ?_
          refine lv_iload hx hb dX7_hire_79 (lv_at hl 0 rfl) ?_
          refine lv_iadd hx hb dX7_hire_81 ?_
          refine lv_iload_n hx hb dX7_hire_82 rfl (lv_at hl 4 rfl) ?_
          obtain ⟨hv10, hf⟩ := ck_some hf
          refine g_iast (r := (ob (ob z 1 (((25 : Int32) + (z 1 37)).toNatClampNeg) a1) 1 (((29 : Int32) + (z 1 37)).toNatClampNeg) a2) 1) S hB hE hP hS m_22_1 rfl rfl (fun _ => rfl) hv10 (X' := (va_up σ 22 (ob (ob (ob z 1 (((25 : Int32) + (z 1 37)).toNatClampNeg) a1) 1 (((29 : Int32) + (z 1 37)).toNatClampNeg) a2) 1 (((33 : Int32) + (z 1 37)).toNatClampNeg) a3))) (lens_put σ 22 _ _ _ _) dX7_hire_83 (fun H locs hP hS => ?_)
          refine lv_aload_n hx hb dX7_hire_84 rfl (lv_at hl 1 rfl) ?_
          refine g_get (v := .ref (E.ad 22 1)) S hB hinX7 hP m_22_0 rfl rfl 0 (by decide) fl7 rfl rfl dX7_hire_85 ?_
          refine lv_bipush (v := 37) hx hb dX7_hire_88 (by decide) ?_
          refine lv_dup2_11 hx hb dX7_hire_90 rfl rfl ?_
          refine g_iald (r := (ob (ob (ob z 1 (((25 : Int32) + (z 1 37)).toNatClampNeg) a1) 1 (((29 : Int32) + (z 1 37)).toNatClampNeg) a2) 1 (((33 : Int32) + (z 1 37)).toNatClampNeg) a3) 1) S hB hP m_22_1 rfl (by unfold vp_in; decide) dX7_hire_91 ?_
          refine lv_iconst (v := 1) hx hb dX7_hire_92 (by decide) ?_
          refine lv_iadd hx hb dX7_hire_93 ?_
          refine g_iast (r := (ob (ob (ob z 1 (((25 : Int32) + (z 1 37)).toNatClampNeg) a1) 1 (((29 : Int32) + (z 1 37)).toNatClampNeg) a2) 1 (((33 : Int32) + (z 1 37)).toNatClampNeg) a3) 1) S hB hE hP hS m_22_1 rfl rfl (fun _ => rfl) (by unfold vp_in; decide) (X' := (va_up σ 22 (ob (ob (ob (ob z 1 (((25 : Int32) + (z 1 37)).toNatClampNeg) a1) 1 (((29 : Int32) + (z 1 37)).toNatClampNeg) a2) 1 (((33 : Int32) + (z 1 37)).toNatClampNeg) a3) 1 37 (((ob (ob (ob z 1 (((25 : Int32) + (z 1 37)).toNatClampNeg) a1) 1 (((29 : Int32) + (z 1 37)).toNatClampNeg) a2) 1 (((33 : Int32) + (z 1 37)).toNatClampNeg) a3) 1 37) + (1 : Int32))))) (lens_put σ 22 _ _ _ _) dX7_hire_94 (fun H locs hP hS => ?_)
          refine lv_aload_n hx hb dX7_hire_95 rfl (lv_at hl 1 rfl) ?_
          refine g_get (v := .ref (E.ad 22 1)) S hB hinX7 hP m_22_0 rfl rfl 0 (by decide) fl7 rfl rfl dX7_hire_96 ?_
          refine lv_bipush (v := 37) hx hb dX7_hire_99 (by decide) ?_
          refine g_iald (r := (ob (ob (ob (ob z 1 (((25 : Int32) + (z 1 37)).toNatClampNeg) a1) 1 (((29 : Int32) + (z 1 37)).toNatClampNeg) a2) 1 (((33 : Int32) + (z 1 37)).toNatClampNeg) a3) 1 37 (((ob (ob (ob z 1 (((25 : Int32) + (z 1 37)).toNatClampNeg) a1) 1 (((29 : Int32) + (z 1 37)).toNatClampNeg) a2) 1 (((33 : Int32) + (z 1 37)).toNatClampNeg) a3) 1 37) + (1 : Int32))) 1) S hB hP m_22_1 rfl (by unfold vp_in; decide) dX7_hire_101 ?_
          refine W.eq (g2 := F0 m 102 ls [.int (((ob (ob (ob z 1 (((25 : Int32) + (z 1 37)).toNatClampNeg) a1) 1 (((29 : Int32) + (z 1 37)).toNatClampNeg) a2) 1 (((33 : Int32) + (z 1 37)).toNatClampNeg) a3) 1 37) + (1 : Int32))]) rfl ?_
          exact fin dX7_hire_102 (s1 hf) (by rw [(s2 hf)]) hP hS
        · have hf := if_t c7 hf
          refine lv_bipush (v := -3) hx hb dX7_hire_48 (by decide) ?_
          exact fin dX7_hire_50 (s1 hf) (by rw [(s2 hf)]) hP hS
      · have hf := if_t c6 hf
        refine lv_iconst (v := -1) hx hb dX7_hire_31 (by decide) ?_
        exact fin dX7_hire_32 (s1 hf) (by rw [(s2 hf)]) hP hS
theorem KW_X7_hire (l : Launch) {E : En} (hE : Inj E) (X : Wd) (a1 : Int32) (a2 : Int32) (a3 : Int32) {r : Int32} {z' : Ob} (hf : f_X7_hire (X 22) a1 a2 a3 = some (r, z')) : Cti l E yX7_hire wsX7_hire rm_X7_hire [.ref (E.ad 22 0), .int a1, .int a2, .int a3] X r (va_up X 22 z') := by
  have h := K_X7_hire l hE X (X 22) a1 a2 a3 hf
  rw [lens_all] at h
  exact h
/-! X7_leave -/
abbrev rm_X7_leave : Room := { frames := 1, cells := 0, slots := 0, locals := 25 }
set_option maxHeartbeats 4000000 in
set_option maxRecDepth 100000 in
theorem K_X7_leave (l : Launch) {E : En} (hE : Inj E) (σ : Wd) (z : Ob) (a1 : Int32) {r : Int32} {z' : Ob} (hf : f_X7_leave z a1 = some (r, z')) : Cti l E yX7_leave wsX7_leave rm_X7_leave [.ref (E.ad 22 0), .int a1] (va_up σ 22 z) r (va_up σ 22 z') := by
  refine meet_i (cc := cX7_leave) (maxL := 2) (own := RX7) (by decide) rfl rfl (Nat.le_of_ble_eq_true rfl) ?_
  intro p e s m below meth c Z S hB fin hP hS ls hl
  have hx := S.1
  have hb := S.2.1
  have hl : lv_has ls 2 [(0, .ref (E.ad 22 0)), (1, .int a1)] := hl
  have hinX7 : ∀ w ∈ u_ws RX7 TX7 25, w ∈ wsX7_leave := by decide +kernel
  have fl7 := S.2.2.2.2 (.fieldLink RX7 7 "MownMazeModel" "state" "[I") (by decide +kernel)
  unfold f_X7_leave at hf
  refine lv_aload_n hx hb dX7_leave_0 rfl (lv_at hl 0 rfl) ?_
  refine lv_iload_n hx hb dX7_leave_1 rfl (lv_at hl 1 rfl) ?_
  refine lv_i2l hx hb dX7_leave_2 (v := a1.toInt64) rfl ?_
  refine lv_lconst (v := 0) hx hb dX7_leave_3 (by decide) ?_
  refine lv_aload_n hx hb dX7_leave_4 rfl (lv_at hl 0 rfl) ?_
  refine g_get (v := .ref (E.ad 22 1)) S hB hinX7 hP m_22_0 rfl rfl 0 (by decide) fl7 rfl rfl dX7_leave_5 ?_
  refine lv_bipush (v := 37) hx hb dX7_leave_8 (by decide) ?_
  refine g_iald (r := z 1) S hB hP m_22_1 rfl (by unfold vp_in; decide) dX7_leave_10 ?_
  refine lv_i2l hx hb dX7_leave_11 (v := (z 1 37).toInt64) rfl ?_
  obtain ⟨q1, hq1, hf⟩ := bind_some hf
  refine callS_i (As := [.long a1.toInt64, .long (0 : Int64), .long ((z 1 37).toInt64)]) (rest := [.ref (E.ad 22 0)]) S hB hP hS (K_X7_in l hE (va_up σ 22 z) a1.toInt64 (0 : Int64) ((z 1 37).toInt64) hq1) (va_cwS 3 S.2.2.2.2 gX7_leave_X7_in rfl rfl rfl (by decide +kernel) ⟨Nat.le_of_ble_eq_true rfl, Nat.le_of_ble_eq_true rfl⟩) rfl hl.1 rfl (Nat.le_of_ble_eq_true rfl) dX7_leave_12 ⟨Nat.zero_le _, Nat.zero_le _⟩ (fun H locs hP hS => ?_)
  refine lv_bipush (v := 37) hx hb dX7_leave_15 (by decide) ?_
  refine lv_iload_n hx hb dX7_leave_17 rfl (lv_at hl 1 rfl) ?_
  obtain ⟨q2, hq2, hf⟩ := bind_some hf
  refine callV_i (As := [.int q1, .int (37 : Int32), .int a1]) (rest := []) S hB hP hS (C := RX7) (b := E.ad 22 0) (g_recv (o := 22) (d := 0) hB hP m_22_0 rfl rfl) (K_X7_puts l hE σ z q1 (37 : Int32) a1 hq2) (cwV 3 S.2.2.2.2 gX7_leave_X7_puts rfl rfl rfl (by decide +kernel) ⟨Nat.le_of_ble_eq_true rfl, Nat.le_of_ble_eq_true rfl⟩) rfl hl.1 rfl (Nat.le_of_ble_eq_true rfl) dX7_leave_18 ⟨Nat.zero_le _, Nat.zero_le _⟩ (fun H locs hP hS => ?_)
  exact fin dX7_leave_21 (s1 hf) (by rw [(s2 hf)]) hP hS
theorem KW_X7_leave (l : Launch) {E : En} (hE : Inj E) (X : Wd) (a1 : Int32) {r : Int32} {z' : Ob} (hf : f_X7_leave (X 22) a1 = some (r, z')) : Cti l E yX7_leave wsX7_leave rm_X7_leave [.ref (E.ad 22 0), .int a1] X r (va_up X 22 z') := by
  have h := K_X7_leave l hE X (X 22) a1 hf
  rw [lens_all] at h
  exact h
/-! X7_come -/
abbrev rm_X7_come : Room := { frames := 2, cells := 0, slots := 0, locals := 45 }
set_option maxHeartbeats 4000000 in
set_option maxRecDepth 100000 in
theorem K_X7_come (l : Launch) {E : En} (hE : Inj E) (σ : Wd) (z : Ob) (a1 : Int32) (a2 : Int32) {r : Int32} {z' : Ob} (hf : f_X7_come z a1 a2 = some (r, z')) : Cti l E yX7_come wsX7_come rm_X7_come [.ref (E.ad 22 0), .int a1, .int a2] (va_up σ 22 z) r (va_up σ 22 z') := by
  refine meet_i (cc := cX7_come) (maxL := 4) (own := RX7) (by decide) rfl rfl (Nat.le_of_ble_eq_true rfl) ?_
  intro p e s m below meth c Z S hB fin hP hS ls hl
  have hx := S.1
  have hb := S.2.1
  have hl : lv_has ls 4 [(0, .ref (E.ad 22 0)), (1, .int a1), (2, .int a2)] := hl
  have hinX7 : ∀ w ∈ u_ws RX7 TX7 25, w ∈ wsX7_come := by decide +kernel
  have fl7 := S.2.2.2.2 (.fieldLink RX7 7 "MownMazeModel" "state" "[I") (by decide +kernel)
  unfold f_X7_come at hf
  refine lv_iload_n hx hb dX7_come_0 rfl (lv_at hl 1 rfl) ?_
  obtain ⟨q1, hq1, hf⟩ := bind_some hf
  refine callS_i (As := [.int a1]) (rest := []) S hB hP hS (K_X7_isPlot l hE (va_up σ 22 z) a1 hq1) (va_cwS 1 S.2.2.2.2 gX7_come_X7_isPlot rfl rfl rfl (by decide +kernel) ⟨Nat.le_of_ble_eq_true rfl, Nat.le_of_ble_eq_true rfl⟩) rfl hl.1 rfl (Nat.le_of_ble_eq_true rfl) dX7_come_1 ⟨Nat.zero_le _, Nat.zero_le _⟩ (fun H locs hP hS => ?_)
  refine lv_if_eq (tgt := 19) hx hb dX7_come_4 (by decide) (fun c2 => ?_) (fun c2 => ?_)
  · have hf := if_t c2 hf
    refine lv_iconst (v := -1) hx hb dX7_come_19 (by decide) ?_
    exact fin dX7_come_20 (s1 hf) (by rw [(s2 hf)]) hP hS
  · have hf := if_f c2 hf
    refine lv_iload_n hx hb dX7_come_7 rfl (lv_at hl 2 rfl) ?_
    refine lv_i2l hx hb dX7_come_8 (v := a2.toInt64) rfl ?_
    refine lv_lconst (v := 0) hx hb dX7_come_9 (by decide) ?_
    refine lv_ldc2 hx hb S.2.2.2.1 (S.2.2.2.2 (.constantLong RX7 194 (60)) (by decide +kernel)) dX7_come_10 ?_
    obtain ⟨q3, hq3, hf⟩ := bind_some hf
    refine callS_i (As := [.long a2.toInt64, .long (0 : Int64), .long (60 : Int64)]) (rest := []) S hB hP hS (K_X7_in l hE (va_up σ 22 z) a2.toInt64 (0 : Int64) (60 : Int64) hq3) (va_cwS 3 S.2.2.2.2 gX7_come_X7_in rfl rfl rfl (by decide +kernel) ⟨Nat.le_of_ble_eq_true rfl, Nat.le_of_ble_eq_true rfl⟩) rfl hl.1 rfl (Nat.le_of_ble_eq_true rfl) dX7_come_13 ⟨Nat.zero_le _, Nat.zero_le _⟩ (fun H locs hP hS => ?_)
    refine lv_if_ne (tgt := 21) hx hb dX7_come_16 (by decide) (fun c4 => ?_) (fun c4 => ?_)
    · have hf := if_f c4 hf
      refine lv_aload_n hx hb dX7_come_21 rfl (lv_at hl 0 rfl) ?_
      refine g_get (v := .ref (E.ad 22 1)) S hB hinX7 hP m_22_0 rfl rfl 0 (by decide) fl7 rfl rfl dX7_come_22 ?_
      refine lv_bipush (v := 51) hx hb dX7_come_25 (by decide) ?_
      refine g_iald (r := z 1) S hB hP m_22_1 rfl (by unfold vp_in; decide) dX7_come_27 ?_
      refine lv_istore_n (lv' := [(3, .int (z 1 51)), (0, .ref (E.ad 22 0)), (1, .int a1), (2, .int a2)]) hx hb dX7_come_28 rfl hl (by decide) rfl (fun ls hl => ?_)
      refine lv_iload_n hx hb dX7_come_29 rfl (lv_at hl 0 rfl) ?_
      refine lv_iconst (v := 4) hx hb dX7_come_30 (by decide) ?_
      refine lv_icmp_ne (tgt := 37) hx hb dX7_come_31 (by decide) (fun c5 => ?_) (fun c5 => ?_)
      · have hf := if_f c5 hf
        refine lv_aload_n hx hb dX7_come_37 rfl (lv_at hl 1 rfl) ?_
        refine g_get (v := .ref (E.ad 22 1)) S hB hinX7 hP m_22_0 rfl rfl 0 (by decide) fl7 rfl rfl dX7_come_38 ?_
        refine lv_bipush (v := 39) hx hb dX7_come_41 (by decide) ?_
        refine lv_iload_n hx hb dX7_come_43 rfl (lv_at hl 0 rfl) ?_
        refine lv_iadd hx hb dX7_come_44 ?_
        refine lv_iload_n hx hb dX7_come_45 rfl (lv_at hl 2 rfl) ?_
        obtain ⟨hv6, hf⟩ := ck_some hf
        refine g_iast (r := z 1) S hB hE hP hS m_22_1 rfl rfl (fun _ => rfl) hv6 (X' := (va_up σ 22 (ob z 1 (((39 : Int32) + (z 1 51)).toNatClampNeg) a1))) (lens_put σ 22 _ _ _ _) dX7_come_46 (fun H locs hP hS => ?_)
        refine lv_aload_n hx hb dX7_come_47 rfl (lv_at hl 1 rfl) ?_
        refine g_get (v := .ref (E.ad 22 1)) S hB hinX7 hP m_22_0 rfl rfl 0 (by decide) fl7 rfl rfl dX7_come_48 ?_
        refine lv_bipush (v := 43) hx hb dX7_come_51 (by decide) ?_
        refine lv_iload_n hx hb dX7_come_53 rfl (lv_at hl 0 rfl) ?_
        refine lv_iadd hx hb dX7_come_54 ?_
        refine lv_iload_n hx hb dX7_come_55 rfl (lv_at hl 3 rfl) ?_
        obtain ⟨hv7, hf⟩ := ck_some hf
        refine g_iast (r := (ob z 1 (((39 : Int32) + (z 1 51)).toNatClampNeg) a1) 1) S hB hE hP hS m_22_1 rfl rfl (fun _ => rfl) hv7 (X' := (va_up σ 22 (ob (ob z 1 (((39 : Int32) + (z 1 51)).toNatClampNeg) a1) 1 (((43 : Int32) + (z 1 51)).toNatClampNeg) a2))) (lens_put σ 22 _ _ _ _) dX7_come_56 (fun H locs hP hS => ?_)
        refine lv_aload_n hx hb dX7_come_57 rfl (lv_at hl 1 rfl) ?_
        refine g_get (v := .ref (E.ad 22 1)) S hB hinX7 hP m_22_0 rfl rfl 0 (by decide) fl7 rfl rfl dX7_come_58 ?_
        refine lv_bipush (v := 47) hx hb dX7_come_61 (by decide) ?_
        refine lv_iload_n hx hb dX7_come_63 rfl (lv_at hl 0 rfl) ?_
        refine lv_iadd hx hb dX7_come_64 ?_
        refine lv_iconst (v := 0) hx hb dX7_come_65 (by decide) ?_
        obtain ⟨hv8, hf⟩ := ck_some hf
        refine g_iast (r := (ob (ob z 1 (((39 : Int32) + (z 1 51)).toNatClampNeg) a1) 1 (((43 : Int32) + (z 1 51)).toNatClampNeg) a2) 1) S hB hE hP hS m_22_1 rfl rfl (fun _ => rfl) hv8 (X' := (va_up σ 22 (ob (ob (ob z 1 (((39 : Int32) + (z 1 51)).toNatClampNeg) a1) 1 (((43 : Int32) + (z 1 51)).toNatClampNeg) a2) 1 (((47 : Int32) + (z 1 51)).toNatClampNeg) (0 : Int32)))) (lens_put σ 22 _ _ _ _) dX7_come_66 (fun H locs hP hS => ?_)
        refine lv_aload_n hx hb dX7_come_67 rfl (lv_at hl 1 rfl) ?_
        refine g_get (v := .ref (E.ad 22 1)) S hB hinX7 hP m_22_0 rfl rfl 0 (by decide) fl7 rfl rfl dX7_come_68 ?_
        refine lv_bipush (v := 51) hx hb dX7_come_71 (by decide) ?_
        refine lv_dup2_11 hx hb dX7_come_73 rfl rfl ?_
        refine g_iald (r := (ob (ob (ob z 1 (((39 : Int32) + (z 1 51)).toNatClampNeg) a1) 1 (((43 : Int32) + (z 1 51)).toNatClampNeg) a2) 1 (((47 : Int32) + (z 1 51)).toNatClampNeg) (0 : Int32)) 1) S hB hP m_22_1 rfl (by unfold vp_in; decide) dX7_come_74 ?_
        refine lv_iconst (v := 1) hx hb dX7_come_75 (by decide) ?_
        refine lv_iadd hx hb dX7_come_76 ?_
        refine g_iast (r := (ob (ob (ob z 1 (((39 : Int32) + (z 1 51)).toNatClampNeg) a1) 1 (((43 : Int32) + (z 1 51)).toNatClampNeg) a2) 1 (((47 : Int32) + (z 1 51)).toNatClampNeg) (0 : Int32)) 1) S hB hE hP hS m_22_1 rfl rfl (fun _ => rfl) (by unfold vp_in; decide) (X' := (va_up σ 22 (ob (ob (ob (ob z 1 (((39 : Int32) + (z 1 51)).toNatClampNeg) a1) 1 (((43 : Int32) + (z 1 51)).toNatClampNeg) a2) 1 (((47 : Int32) + (z 1 51)).toNatClampNeg) (0 : Int32)) 1 51 (((ob (ob (ob z 1 (((39 : Int32) + (z 1 51)).toNatClampNeg) a1) 1 (((43 : Int32) + (z 1 51)).toNatClampNeg) a2) 1 (((47 : Int32) + (z 1 51)).toNatClampNeg) (0 : Int32)) 1 51) + (1 : Int32))))) (lens_put σ 22 _ _ _ _) dX7_come_77 (fun H locs hP hS => ?_)
        refine lv_aload_n hx hb dX7_come_78 rfl (lv_at hl 1 rfl) ?_
        refine g_get (v := .ref (E.ad 22 1)) S hB hinX7 hP m_22_0 rfl rfl 0 (by decide) fl7 rfl rfl dX7_come_79 ?_
        refine lv_bipush (v := 51) hx hb dX7_come_82 (by decide) ?_
        refine g_iald (r := (ob (ob (ob (ob z 1 (((39 : Int32) + (z 1 51)).toNatClampNeg) a1) 1 (((43 : Int32) + (z 1 51)).toNatClampNeg) a2) 1 (((47 : Int32) + (z 1 51)).toNatClampNeg) (0 : Int32)) 1 51 (((ob (ob (ob z 1 (((39 : Int32) + (z 1 51)).toNatClampNeg) a1) 1 (((43 : Int32) + (z 1 51)).toNatClampNeg) a2) 1 (((47 : Int32) + (z 1 51)).toNatClampNeg) (0 : Int32)) 1 51) + (1 : Int32))) 1) S hB hP m_22_1 rfl (by unfold vp_in; decide) dX7_come_84 ?_
        refine W.eq (g2 := F0 m 85 ls [.int (((ob (ob (ob z 1 (((39 : Int32) + (z 1 51)).toNatClampNeg) a1) 1 (((43 : Int32) + (z 1 51)).toNatClampNeg) a2) 1 (((47 : Int32) + (z 1 51)).toNatClampNeg) (0 : Int32)) 1 51) + (1 : Int32))]) rfl ?_
        exact fin dX7_come_85 (s1 hf) (by rw [(s2 hf)]) hP hS
      · have hf := if_t c5 hf
        refine lv_bipush (v := -3) hx hb dX7_come_34 (by decide) ?_
        exact fin dX7_come_36 (s1 hf) (by rw [(s2 hf)]) hP hS
    · have hf := if_t c4 hf
      refine lv_iconst (v := -1) hx hb dX7_come_19 (by decide) ?_
      exact fin dX7_come_20 (s1 hf) (by rw [(s2 hf)]) hP hS
theorem KW_X7_come (l : Launch) {E : En} (hE : Inj E) (X : Wd) (a1 : Int32) (a2 : Int32) {r : Int32} {z' : Ob} (hf : f_X7_come (X 22) a1 a2 = some (r, z')) : Cti l E yX7_come wsX7_come rm_X7_come [.ref (E.ad 22 0), .int a1, .int a2] X r (va_up X 22 z') := by
  have h := K_X7_come l hE X (X 22) a1 a2 hf
  rw [lens_all] at h
  exact h
/-! X7_move -/
abbrev rm_X7_move : Room := { frames := 2, cells := 0, slots := 0, locals := 46 }
set_option maxHeartbeats 4000000 in
set_option maxRecDepth 100000 in
theorem K_X7_move (l : Launch) {E : En} (hE : Inj E) (σ : Wd) (z : Ob) (a1 : Int32) (a2 : Int32) {r : Int32} {z' : Ob} (hf : f_X7_move z a1 a2 = some (r, z')) : Cti l E yX7_move wsX7_move rm_X7_move [.ref (E.ad 22 0), .int a1, .int a2] (va_up σ 22 z) r (va_up σ 22 z') := by
  refine meet_i (cc := cX7_move) (maxL := 3) (own := RX7) (by decide) rfl rfl (Nat.le_of_ble_eq_true rfl) ?_
  intro p e s m below meth c Z S hB fin hP hS ls hl
  have hx := S.1
  have hb := S.2.1
  have hl : lv_has ls 3 [(0, .ref (E.ad 22 0)), (1, .int a1), (2, .int a2)] := hl
  have hinX7 : ∀ w ∈ u_ws RX7 TX7 25, w ∈ wsX7_move := by decide +kernel
  have fl7 := S.2.2.2.2 (.fieldLink RX7 7 "MownMazeModel" "state" "[I") (by decide +kernel)
  unfold f_X7_move at hf
  refine lv_aload_n hx hb dX7_move_0 rfl (lv_at hl 0 rfl) ?_
  refine lv_iload_n hx hb dX7_move_1 rfl (lv_at hl 1 rfl) ?_
  obtain ⟨q1, hq1, hf⟩ := bind_some hf
  refine callV_i (As := [.int a1]) (rest := []) S hB hP hS (C := RX7) (b := E.ad 22 0) (g_recv (o := 22) (d := 0) hB hP m_22_0 rfl rfl) (K_X7_isGuest l hE σ z a1 hq1) (cwV 1 S.2.2.2.2 gX7_move_X7_isGuest rfl rfl rfl (by decide +kernel) ⟨Nat.le_of_ble_eq_true rfl, Nat.le_of_ble_eq_true rfl⟩) rfl hl.1 rfl (Nat.le_of_ble_eq_true rfl) dX7_move_2 ⟨Nat.zero_le _, Nat.zero_le _⟩ (fun H locs hP hS => ?_)
  refine lv_if_eq (tgt := 15) hx hb dX7_move_5 (by decide) (fun c2 => ?_) (fun c2 => ?_)
  · have hf := if_t c2 hf
    refine lv_iconst (v := -1) hx hb dX7_move_15 (by decide) ?_
    exact fin dX7_move_16 (s1 hf) (by rw [(s2 hf)]) hP hS
  · have hf := if_f c2 hf
    refine lv_iload_n hx hb dX7_move_8 rfl (lv_at hl 2 rfl) ?_
    obtain ⟨q3, hq3, hf⟩ := bind_some hf
    refine callS_i (As := [.int a2]) (rest := []) S hB hP hS (K_X7_isPlot l hE (va_up σ 22 z) a2 hq3) (va_cwS 1 S.2.2.2.2 gX7_move_X7_isPlot rfl rfl rfl (by decide +kernel) ⟨Nat.le_of_ble_eq_true rfl, Nat.le_of_ble_eq_true rfl⟩) rfl hl.1 rfl (Nat.le_of_ble_eq_true rfl) dX7_move_9 ⟨Nat.zero_le _, Nat.zero_le _⟩ (fun H locs hP hS => ?_)
    refine lv_if_ne (tgt := 17) hx hb dX7_move_12 (by decide) (fun c4 => ?_) (fun c4 => ?_)
    · have hf := if_f c4 hf
      refine lv_aload_n hx hb dX7_move_17 rfl (lv_at hl 0 rfl) ?_
      refine g_get (v := .ref (E.ad 22 1)) S hB hinX7 hP m_22_0 rfl rfl 0 (by decide) fl7 rfl rfl dX7_move_18 ?_
      refine lv_bipush (v := 47) hx hb dX7_move_21 (by decide) ?_
      refine lv_iload_n hx hb dX7_move_23 rfl (lv_at hl 1 rfl) ?_
      refine lv_iadd hx hb dX7_move_24 ?_
      refine lv_iconst (v := 0) hx hb dX7_move_25 (by decide) ?_
      obtain ⟨hv5, hf⟩ := ck_some hf
      refine g_iast (r := z 1) S hB hE hP hS m_22_1 rfl rfl (fun _ => rfl) hv5 (X' := (va_up σ 22 (ob z 1 (((47 : Int32) + a1).toNatClampNeg) (0 : Int32)))) (lens_put σ 22 _ _ _ _) dX7_move_26 (fun H locs hP hS => ?_)
      refine lv_aload_n hx hb dX7_move_27 rfl (lv_at hl 0 rfl) ?_
      refine lv_iconst (v := 1) hx hb dX7_move_28 (by decide) ?_
      refine lv_bipush (v := 39) hx hb dX7_move_29 (by decide) ?_
      refine lv_iload_n hx hb dX7_move_31 rfl (lv_at hl 1 rfl) ?_
      refine lv_iadd hx hb dX7_move_32 ?_
      refine lv_iload_n hx hb dX7_move_33 rfl (lv_at hl 2 rfl) ?_
      obtain ⟨q6, hq6, hf⟩ := bind_some hf
      refine callV_i (As := [.int (1 : Int32), .int ((39 : Int32) + a1), .int a2]) (rest := []) S hB hP hS (C := RX7) (b := E.ad 22 0) (g_recv (o := 22) (d := 0) hB hP m_22_0 rfl rfl) (K_X7_puts l hE σ (ob z 1 (((47 : Int32) + a1).toNatClampNeg) (0 : Int32)) (1 : Int32) ((39 : Int32) + a1) a2 hq6) (cwV 3 S.2.2.2.2 gX7_move_X7_puts rfl rfl rfl (by decide +kernel) ⟨Nat.le_of_ble_eq_true rfl, Nat.le_of_ble_eq_true rfl⟩) rfl hl.1 rfl (Nat.le_of_ble_eq_true rfl) dX7_move_34 ⟨Nat.zero_le _, Nat.zero_le _⟩ (fun H locs hP hS => ?_)
      exact fin dX7_move_37 (s1 hf) (by rw [(s2 hf)]) hP hS
    · have hf := if_t c4 hf
      refine lv_iconst (v := -1) hx hb dX7_move_15 (by decide) ?_
      exact fin dX7_move_16 (s1 hf) (by rw [(s2 hf)]) hP hS
theorem KW_X7_move (l : Launch) {E : En} (hE : Inj E) (X : Wd) (a1 : Int32) (a2 : Int32) {r : Int32} {z' : Ob} (hf : f_X7_move (X 22) a1 a2 = some (r, z')) : Cti l E yX7_move wsX7_move rm_X7_move [.ref (E.ad 22 0), .int a1, .int a2] X r (va_up X 22 z') := by
  have h := K_X7_move l hE X (X 22) a1 a2 hf
  rw [lens_all] at h
  exact h
/-! X7_bread -/
abbrev rm_X7_bread : Room := { frames := 2, cells := 0, slots := 0, locals := 46 }
set_option maxHeartbeats 4000000 in
set_option maxRecDepth 100000 in
theorem K_X7_bread (l : Launch) {E : En} (hE : Inj E) (σ : Wd) (z : Ob) (a1 : Int32) (a2 : Int32) {r : Int32} {z' : Ob} (hf : f_X7_bread z a1 a2 = some (r, z')) : Cti l E yX7_bread wsX7_bread rm_X7_bread [.ref (E.ad 22 0), .int a1, .int a2] (va_up σ 22 z) r (va_up σ 22 z') := by
  refine meet_i (cc := cX7_bread) (maxL := 3) (own := RX7) (by decide) rfl rfl (Nat.le_of_ble_eq_true rfl) ?_
  intro p e s m below meth c Z S hB fin hP hS ls hl
  have hx := S.1
  have hb := S.2.1
  have hl : lv_has ls 3 [(0, .ref (E.ad 22 0)), (1, .int a1), (2, .int a2)] := hl
  have hB26 : ∀ (z : Ob) (x1 : Int32) (x2 : Int32) (y0 : Int32) (H : Heap) (locs : List Loc) (ls : Array Slot), f_X7_bread_b26 z x1 x2 y0 = some (r, z') → va_P E.1 vwCl (GW E (va_up σ 22 z)) H → va_S (GA E) s.heap H locs → lv_has ls 3 [(1, .int x1), (2, .int x2)] → W p l e rm_X7_bread s m ([.ref (E.ad 22 0), .int a1, .int a2] : List Value).toArray below meth c H locs 0 0 Z (F0 m 26 ls [.int y0, .ref (E.ad 22 0)]) := by
    intro z x1 x2 y0 H locs ls hf hP hS hl
    unfold f_X7_bread_b26 at hf
    refine lv_bipush (v := 43) hx hb dX7_bread_26 (by decide) ?_
    refine lv_iload_n hx hb dX7_bread_28 rfl (lv_at hl 0 rfl) ?_
    refine lv_iadd hx hb dX7_bread_29 ?_
    refine lv_iload_n hx hb dX7_bread_30 rfl (lv_at hl 1 rfl) ?_
    obtain ⟨q5, hq5, hf⟩ := bind_some hf
    refine callV_i (As := [.int y0, .int ((43 : Int32) + x1), .int x2]) (rest := []) S hB hP hS (C := RX7) (b := E.ad 22 0) (g_recv (o := 22) (d := 0) hB hP m_22_0 rfl rfl) (K_X7_puts l hE σ z y0 ((43 : Int32) + x1) x2 hq5) (cwV 3 S.2.2.2.2 gX7_bread_X7_puts rfl rfl rfl (by decide +kernel) ⟨Nat.le_of_ble_eq_true rfl, Nat.le_of_ble_eq_true rfl⟩) rfl hl.1 rfl (Nat.le_of_ble_eq_true rfl) dX7_bread_31 ⟨Nat.zero_le _, Nat.zero_le _⟩ (fun H locs hP hS => ?_)
    exact fin dX7_bread_34 (s1 hf) (by rw [(s2 hf)]) hP hS
  have hB25 : ∀ (z : Ob) (x1 : Int32) (x2 : Int32) (H : Heap) (locs : List Loc) (ls : Array Slot), f_X7_bread_b25 z x1 x2 = some (r, z') → va_P E.1 vwCl (GW E (va_up σ 22 z)) H → va_S (GA E) s.heap H locs → lv_has ls 3 [(1, .int x1), (2, .int x2)] → W p l e rm_X7_bread s m ([.ref (E.ad 22 0), .int a1, .int a2] : List Value).toArray below meth c H locs 0 0 Z (F0 m 25 ls [.ref (E.ad 22 0)]) := by
    intro z x1 x2 H locs ls hf hP hS hl
    unfold f_X7_bread_b25 at hf
    refine lv_iconst (v := 0) hx hb dX7_bread_25 (by decide) ?_
    exact hB26 z x1 x2 (0 : Int32) _ _ _ hf hP hS (lv_sub hl [0, 1] rfl)
  unfold f_X7_bread at hf
  refine lv_aload_n hx hb dX7_bread_0 rfl (lv_at hl 0 rfl) ?_
  refine lv_aload_n hx hb dX7_bread_1 rfl (lv_at hl 0 rfl) ?_
  refine lv_iload_n hx hb dX7_bread_2 rfl (lv_at hl 1 rfl) ?_
  obtain ⟨q1, hq1, hf⟩ := bind_some hf
  refine callV_i (As := [.int a1]) (rest := [.ref (E.ad 22 0)]) S hB hP hS (C := RX7) (b := E.ad 22 0) (g_recv (o := 22) (d := 0) hB hP m_22_0 rfl rfl) (K_X7_isGuest l hE σ z a1 hq1) (cwV 1 S.2.2.2.2 gX7_bread_X7_isGuest rfl rfl rfl (by decide +kernel) ⟨Nat.le_of_ble_eq_true rfl, Nat.le_of_ble_eq_true rfl⟩) rfl hl.1 rfl (Nat.le_of_ble_eq_true rfl) dX7_bread_3 ⟨Nat.zero_le _, Nat.zero_le _⟩ (fun H locs hP hS => ?_)
  refine lv_if_eq (tgt := 25) hx hb dX7_bread_6 (by decide) (fun c2 => ?_) (fun c2 => ?_)
  · have hf := if_t c2 hf
    exact hB25 z a1 a2 _ _ _ hf hP hS (lv_sub hl [1, 2] rfl)
  · have hf := if_f c2 hf
    refine lv_iload_n hx hb dX7_bread_9 rfl (lv_at hl 2 rfl) ?_
    refine lv_i2l hx hb dX7_bread_10 (v := a2.toInt64) rfl ?_
    refine lv_lconst (v := 0) hx hb dX7_bread_11 (by decide) ?_
    refine lv_ldc2 hx hb S.2.2.2.1 (S.2.2.2.2 (.constantLong RX7 194 (60)) (by decide +kernel)) dX7_bread_12 ?_
    obtain ⟨q3, hq3, hf⟩ := bind_some hf
    refine callS_i (As := [.long a2.toInt64, .long (0 : Int64), .long (60 : Int64)]) (rest := [.ref (E.ad 22 0)]) S hB hP hS (K_X7_in l hE (va_up σ 22 z) a2.toInt64 (0 : Int64) (60 : Int64) hq3) (va_cwS 3 S.2.2.2.2 gX7_bread_X7_in rfl rfl rfl (by decide +kernel) ⟨Nat.le_of_ble_eq_true rfl, Nat.le_of_ble_eq_true rfl⟩) rfl hl.1 rfl (Nat.le_of_ble_eq_true rfl) dX7_bread_15 ⟨Nat.zero_le _, Nat.zero_le _⟩ (fun H locs hP hS => ?_)
    refine lv_if_eq (tgt := 25) hx hb dX7_bread_18 (by decide) (fun c4 => ?_) (fun c4 => ?_)
    · have hf := if_t c4 hf
      exact hB25 z a1 a2 _ _ _ hf hP hS (lv_sub hl [1, 2] rfl)
    · have hf := if_f c4 hf
      refine lv_iconst (v := 1) hx hb dX7_bread_21 (by decide) ?_
      refine lv_goto (tgt := 26) hx hb dX7_bread_22 (by decide) ?_
      exact hB26 z a1 a2 (1 : Int32) _ _ _ hf hP hS (lv_sub hl [1, 2] rfl)
theorem KW_X7_bread (l : Launch) {E : En} (hE : Inj E) (X : Wd) (a1 : Int32) (a2 : Int32) {r : Int32} {z' : Ob} (hf : f_X7_bread (X 22) a1 a2 = some (r, z')) : Cti l E yX7_bread wsX7_bread rm_X7_bread [.ref (E.ad 22 0), .int a1, .int a2] X r (va_up X 22 z') := by
  have h := K_X7_bread l hE X (X 22) a1 a2 hf
  rw [lens_all] at h
  exact h
/-! X7_open -/
abbrev rm_X7_open : Room := { frames := 2, cells := 0, slots := 0, locals := 45 }
set_option maxHeartbeats 4000000 in
set_option maxRecDepth 100000 in
theorem K_X7_open (l : Launch) {E : En} (hE : Inj E) (σ : Wd) (z : Ob) (a1 : Int32) {r : Int32} {z' : Ob} (hf : f_X7_open z a1 = some (r, z')) : Cti l E yX7_open wsX7_open rm_X7_open [.ref (E.ad 22 0), .int a1] (va_up σ 22 z) r (va_up σ 22 z') := by
  refine meet_i (cc := cX7_open) (maxL := 2) (own := RX7) (by decide) rfl rfl (Nat.le_of_ble_eq_true rfl) ?_
  intro p e s m below meth c Z S hB fin hP hS ls hl
  have hx := S.1
  have hb := S.2.1
  have hl : lv_has ls 2 [(0, .ref (E.ad 22 0)), (1, .int a1)] := hl
  unfold f_X7_open at hf
  refine lv_aload_n hx hb dX7_open_0 rfl (lv_at hl 0 rfl) ?_
  refine lv_iload_n hx hb dX7_open_1 rfl (lv_at hl 1 rfl) ?_
  obtain ⟨q1, hq1, hf⟩ := bind_some hf
  refine callS_i (As := [.int a1]) (rest := [.ref (E.ad 22 0)]) S hB hP hS (K_X7_isPlot l hE (va_up σ 22 z) a1 hq1) (va_cwS 1 S.2.2.2.2 gX7_open_X7_isPlot rfl rfl rfl (by decide +kernel) ⟨Nat.le_of_ble_eq_true rfl, Nat.le_of_ble_eq_true rfl⟩) rfl hl.1 rfl (Nat.le_of_ble_eq_true rfl) dX7_open_2 ⟨Nat.zero_le _, Nat.zero_le _⟩ (fun H locs hP hS => ?_)
  refine lv_bipush (v := 24) hx hb dX7_open_5 (by decide) ?_
  refine lv_iload_n hx hb dX7_open_7 rfl (lv_at hl 1 rfl) ?_
  obtain ⟨q2, hq2, hf⟩ := bind_some hf
  refine callV_i (As := [.int q1, .int (24 : Int32), .int a1]) (rest := []) S hB hP hS (C := RX7) (b := E.ad 22 0) (g_recv (o := 22) (d := 0) hB hP m_22_0 rfl rfl) (K_X7_puts l hE σ z q1 (24 : Int32) a1 hq2) (cwV 3 S.2.2.2.2 gX7_open_X7_puts rfl rfl rfl (by decide +kernel) ⟨Nat.le_of_ble_eq_true rfl, Nat.le_of_ble_eq_true rfl⟩) rfl hl.1 rfl (Nat.le_of_ble_eq_true rfl) dX7_open_8 ⟨Nat.zero_le _, Nat.zero_le _⟩ (fun H locs hP hS => ?_)
  exact fin dX7_open_11 (s1 hf) (by rw [(s2 hf)]) hP hS
theorem KW_X7_open (l : Launch) {E : En} (hE : Inj E) (X : Wd) (a1 : Int32) {r : Int32} {z' : Ob} (hf : f_X7_open (X 22) a1 = some (r, z')) : Cti l E yX7_open wsX7_open rm_X7_open [.ref (E.ad 22 0), .int a1] X r (va_up X 22 z') := by
  have h := K_X7_open l hE X (X 22) a1 hf
  rw [lens_all] at h
  exact h
/-! X7_days -/
abbrev rm_X7_days : Room := { frames := 4, cells := 0, slots := 0, locals := 95 }
set_option maxHeartbeats 4000000 in
set_option maxRecDepth 100000 in
theorem K_X7_days (l : Launch) {E : En} (hE : Inj E) (σ : Wd) (z : Ob) (a1 : Int32) {r : Int32} {z' : Ob} (hf : f_X7_days z a1 = some (r, z')) : Cti l E yX7_days wsX7_days rm_X7_days [.ref (E.ad 22 0), .int a1] (va_up σ 22 z) r (va_up σ 22 z') := by
  refine meet_i (cc := cX7_days) (maxL := 4) (own := RX7) (by decide) rfl rfl (Nat.le_of_ble_eq_true rfl) ?_
  intro p e s m below meth c Z S hB fin hP hS ls hl
  have hx := S.1
  have hb := S.2.1
  have hl : lv_has ls 4 [(0, .ref (E.ad 22 0)), (1, .int a1)] := hl
  have hinX7 : ∀ w ∈ u_ws RX7 TX7 25, w ∈ wsX7_days := by decide +kernel
  have fl7 := S.2.2.2.2 (.fieldLink RX7 7 "MownMazeModel" "state" "[I") (by decide +kernel)
  have hL44 : ∀ (n44 : Nat) (z : Ob) (x1 : Int32) (x2 : Int32) (x3 : Int32) (H : Heap) (locs : List Loc) (ls : Array Slot), f_X7_days_l44 n44 z x1 x2 x3 = some (r, z') → va_P E.1 vwCl (GW E (va_up σ 22 z)) H → va_S (GA E) s.heap H locs → lv_has ls 4 [(0, .ref (E.ad 22 0)), (1, .int x1), (2, .int x2), (3, .int x3)] → W p l e rm_X7_days s m ([.ref (E.ad 22 0), .int a1] : List Value).toArray below meth c H locs 0 0 Z (F0 m 44 ls []) := by
    intro n44
    induction n44 with
    | zero =>
      intro z x1 x2 x3 H locs ls hf
      cases (show (none : Option _) = some _ from hf)
    | succ n44 ih44 =>
      intro z x1 x2 x3 H locs ls hf hP hS hl
      unfold f_X7_days_l44 at hf
      refine lv_iload_n hx hb dX7_days_44 rfl (lv_at hl 3 rfl) ?_
      refine lv_iload_n hx hb dX7_days_45 rfl (lv_at hl 1 rfl) ?_
      refine lv_icmp_ge (tgt := 61) hx hb dX7_days_46 (by decide) (fun c6 => ?_) (fun c6 => ?_)
      · have hf := if_t c6 hf
        refine lv_aload_n hx hb dX7_days_61 rfl (lv_at hl 0 rfl) ?_
        refine lv_iconst (v := 0) hx hb dX7_days_62 (by decide) ?_
        refine lv_iconst (v := 1) hx hb dX7_days_63 (by decide) ?_
        obtain ⟨q7, hq7, hf⟩ := bind_some hf
        refine callV_i (As := [.int (0 : Int32), .int (1 : Int32)]) (rest := []) S hB hP hS (C := RX7) (b := E.ad 22 0) (g_recv (o := 22) (d := 0) hB hP m_22_0 rfl rfl) (K_X7_guestsOn l hE σ z (0 : Int32) (1 : Int32) hq7) (cwV 2 S.2.2.2.2 gX7_days_X7_guestsOn rfl rfl rfl (by decide +kernel) ⟨Nat.le_of_ble_eq_true rfl, Nat.le_of_ble_eq_true rfl⟩) rfl hl.1 rfl (Nat.le_of_ble_eq_true rfl) dX7_days_64 ⟨Nat.zero_le _, Nat.zero_le _⟩ (fun H locs hP hS => ?_)
        obtain ⟨q8, hq8, hf⟩ := bind_some hf
        refine callS_i (As := [.int q7]) (rest := []) S hB hP hS (K_X7_bitsOf l hE (va_up σ 22 z) q7 hq8) (va_cwS 1 S.2.2.2.2 gX7_days_X7_bitsOf rfl rfl rfl (by decide +kernel) ⟨Nat.le_of_ble_eq_true rfl, Nat.le_of_ble_eq_true rfl⟩) rfl hl.1 rfl (Nat.le_of_ble_eq_true rfl) dX7_days_67 ⟨Nat.zero_le _, Nat.zero_le _⟩ (fun H locs hP hS => ?_)
        refine lv_iload_n hx hb dX7_days_70 rfl (lv_at hl 2 rfl) ?_
        refine lv_isub hx hb dX7_days_71 ?_
        exact fin dX7_days_72 (s1 hf) (by rw [(s2 hf)]) hP hS
      · have hf := if_f c6 hf
        refine lv_aload_n hx hb dX7_days_49 rfl (lv_at hl 0 rfl) ?_
        refine lv_iconst (v := 0) hx hb dX7_days_50 (by decide) ?_
        refine lv_iconst (v := 0) hx hb dX7_days_51 (by decide) ?_
        obtain ⟨q9, hq9, hf⟩ := bind_some hf
        refine callV_v (As := [.int (0 : Int32), .int (0 : Int32)]) (rest := []) S hB hP hS (C := RX7) (b := E.ad 22 0) (g_recv (o := 22) (d := 0) hB hP m_22_0 rfl rfl) (K_X7_dayOn l hE σ z (0 : Int32) (0 : Int32) hq9) (cwV 2 S.2.2.2.2 gX7_days_X7_dayOn rfl rfl rfl (by decide +kernel) ⟨Nat.le_of_ble_eq_true rfl, Nat.le_of_ble_eq_true rfl⟩) rfl hl.1 rfl (Nat.le_of_ble_eq_true rfl) dX7_days_52 ⟨Nat.zero_le _, Nat.zero_le _⟩ (fun H locs hP hS => ?_)
        refine lv_iinc (v := x3 + (1 : Int32)) (lv' := [(3, .int (x3 + (1 : Int32))), (0, .ref (E.ad 22 0)), (1, .int x1), (2, .int x2)]) hx hb dX7_days_55 hl (k := 3) rfl rfl (by decide) rfl (fun ls hl => ?_)
        refine lv_goto (tgt := 44) hx hb dX7_days_58 (by decide) ?_
        exact ih44 q9 x1 x2 (x3 + (1 : Int32)) _ _ _ hf hP hS (lv_sub hl [1, 2, 3, 0] rfl)
  unfold f_X7_days at hf
  refine lv_iload_n hx hb dX7_days_0 rfl (lv_at hl 1 rfl) ?_
  refine lv_i2l hx hb dX7_days_1 (v := a1.toInt64) rfl ?_
  refine lv_lconst (v := 0) hx hb dX7_days_2 (by decide) ?_
  refine lv_ldc2 hx hb S.2.2.2.1 (S.2.2.2.2 (.constantLong RX7 196 (30)) (by decide +kernel)) dX7_days_3 ?_
  obtain ⟨q1, hq1, hf⟩ := bind_some hf
  refine callS_i (As := [.long a1.toInt64, .long (0 : Int64), .long (30 : Int64)]) (rest := []) S hB hP hS (K_X7_in l hE (va_up σ 22 z) a1.toInt64 (0 : Int64) (30 : Int64) hq1) (va_cwS 3 S.2.2.2.2 gX7_days_X7_in rfl rfl rfl (by decide +kernel) ⟨Nat.le_of_ble_eq_true rfl, Nat.le_of_ble_eq_true rfl⟩) rfl hl.1 rfl (Nat.le_of_ble_eq_true rfl) dX7_days_6 ⟨Nat.zero_le _, Nat.zero_le _⟩ (fun H locs hP hS => ?_)
  refine lv_if_ne (tgt := 14) hx hb dX7_days_9 (by decide) (fun c2 => ?_) (fun c2 => ?_)
  · have hf := if_f c2 hf
    refine lv_aload_n hx hb dX7_days_14 rfl (lv_at hl 0 rfl) ?_
    refine g_get (v := .ref (E.ad 22 1)) S hB hinX7 hP m_22_0 rfl rfl 0 (by decide) fl7 rfl rfl dX7_days_15 ?_
    refine lv_bipush (v := 52) hx hb dX7_days_18 (by decide) ?_
    refine g_iald (r := z 1) S hB hP m_22_1 rfl (by unfold vp_in; decide) dX7_days_20 ?_
    refine lv_iload_n hx hb dX7_days_21 rfl (lv_at hl 1 rfl) ?_
    refine lv_iadd hx hb dX7_days_22 ?_
    refine lv_sipush (v := 999) hx hb dX7_days_23 (by decide) ?_
    refine lv_icmp_le (tgt := 32) hx hb dX7_days_26 (by decide) (fun c3 => ?_) (fun c3 => ?_)
    · have hf := if_t c3 hf
      refine lv_aload_n hx hb dX7_days_32 rfl (lv_at hl 0 rfl) ?_
      refine lv_iconst (v := 0) hx hb dX7_days_33 (by decide) ?_
      refine lv_iconst (v := 1) hx hb dX7_days_34 (by decide) ?_
      obtain ⟨q4, hq4, hf⟩ := bind_some hf
      refine callV_i (As := [.int (0 : Int32), .int (1 : Int32)]) (rest := []) S hB hP hS (C := RX7) (b := E.ad 22 0) (g_recv (o := 22) (d := 0) hB hP m_22_0 rfl rfl) (K_X7_guestsOn l hE σ z (0 : Int32) (1 : Int32) hq4) (cwV 2 S.2.2.2.2 gX7_days_X7_guestsOn rfl rfl rfl (by decide +kernel) ⟨Nat.le_of_ble_eq_true rfl, Nat.le_of_ble_eq_true rfl⟩) rfl hl.1 rfl (Nat.le_of_ble_eq_true rfl) dX7_days_35 ⟨Nat.zero_le _, Nat.zero_le _⟩ (fun H locs hP hS => ?_)
      obtain ⟨q5, hq5, hf⟩ := bind_some hf
      refine callS_i (As := [.int q4]) (rest := []) S hB hP hS (K_X7_bitsOf l hE (va_up σ 22 z) q4 hq5) (va_cwS 1 S.2.2.2.2 gX7_days_X7_bitsOf rfl rfl rfl (by decide +kernel) ⟨Nat.le_of_ble_eq_true rfl, Nat.le_of_ble_eq_true rfl⟩) rfl hl.1 rfl (Nat.le_of_ble_eq_true rfl) dX7_days_38 ⟨Nat.zero_le _, Nat.zero_le _⟩ (fun H locs hP hS => ?_)
      refine lv_istore_n (lv' := [(2, .int q5), (0, .ref (E.ad 22 0)), (1, .int a1)]) hx hb dX7_days_41 rfl hl (by decide) rfl (fun ls hl => ?_)
      refine lv_iconst (v := 0) hx hb dX7_days_42 (by decide) ?_
      refine lv_istore_n (lv' := [(3, .int (0 : Int32)), (2, .int q5), (0, .ref (E.ad 22 0)), (1, .int a1)]) hx hb dX7_days_43 rfl hl (by decide) rfl (fun ls hl => ?_)
      exact hL44 FUEL z a1 q5 (0 : Int32) _ _ _ hf hP hS (lv_sub hl [2, 3, 1, 0] rfl)
    · have hf := if_f c3 hf
      refine lv_bipush (v := -3) hx hb dX7_days_29 (by decide) ?_
      exact fin dX7_days_31 (s1 hf) (by rw [(s2 hf)]) hP hS
  · have hf := if_t c2 hf
    refine lv_iconst (v := -1) hx hb dX7_days_12 (by decide) ?_
    exact fin dX7_days_13 (s1 hf) (by rw [(s2 hf)]) hP hS
theorem KW_X7_days (l : Launch) {E : En} (hE : Inj E) (X : Wd) (a1 : Int32) {r : Int32} {z' : Ob} (hf : f_X7_days (X 22) a1 = some (r, z')) : Cti l E yX7_days wsX7_days rm_X7_days [.ref (E.ad 22 0), .int a1] X r (va_up X 22 z') := by
  have h := K_X7_days l hE X (X 22) a1 hf
  rw [lens_all] at h
  exact h
/-! X7_copies -/
abbrev rm_X7_copies : Room := { frames := 0, cells := 0, slots := 0, locals := 0 }
set_option maxHeartbeats 4000000 in
set_option maxRecDepth 100000 in
theorem K_X7_copies (l : Launch) {E : En} (hE : Inj E) (σ : Wd) (z : Ob) (a1 : Int32) (a2 : Int32) {z' : Ob} (hf : f_X7_copies z a1 a2 = some z') : Ctv l E yX7_copies wsX7_copies rm_X7_copies [.ref (E.ad 22 0), .int a1, .int a2] (va_up σ 22 z)  (va_up σ 22 z') := by
  refine meet_v (cc := cX7_copies) (maxL := 4) (own := RX7) (by decide) rfl rfl (Nat.le_of_ble_eq_true rfl) ?_
  intro p e s m below meth c Z S hB fin hP hS ls hl
  have hx := S.1
  have hb := S.2.1
  have hl : lv_has ls 4 [(0, .ref (E.ad 22 0)), (1, .int a1), (2, .int a2)] := hl
  have hinX7 : ∀ w ∈ u_ws RX7 TX7 25, w ∈ wsX7_copies := by decide +kernel
  have fl7 := S.2.2.2.2 (.fieldLink RX7 7 "MownMazeModel" "state" "[I") (by decide +kernel)
  have hL2 : ∀ (n2 : Nat) (z : Ob) (x1 : Int32) (x2 : Int32) (x3 : Int32) (H : Heap) (locs : List Loc) (ls : Array Slot), f_X7_copies_l2 n2 z x1 x2 x3 = some z' → va_P E.1 vwCl (GW E (va_up σ 22 z)) H → va_S (GA E) s.heap H locs → lv_has ls 4 [(0, .ref (E.ad 22 0)), (1, .int x1), (2, .int x2), (3, .int x3)] → W p l e rm_X7_copies s m ([.ref (E.ad 22 0), .int a1, .int a2] : List Value).toArray below meth c H locs 0 0 Z (F0 m 2 ls []) := by
    intro n2
    induction n2 with
    | zero =>
      intro z x1 x2 x3 H locs ls hf
      cases (show (none : Option _) = some _ from hf)
    | succ n2 ih2 =>
      intro z x1 x2 x3 H locs ls hf hP hS hl
      unfold f_X7_copies_l2 at hf
      refine lv_iload_n hx hb dX7_copies_2 rfl (lv_at hl 3 rfl) ?_
      refine lv_bipush (v := 53) hx hb dX7_copies_3 (by decide) ?_
      refine lv_icmp_ge (tgt := 30) hx hb dX7_copies_5 (by decide) (fun c1 => ?_) (fun c1 => ?_)
      · have hf := if_t c1 hf
        exact fin dX7_copies_30  (by rw [(s0 hf)]) hP hS
      · have hf := if_f c1 hf
        refine lv_aload_n hx hb dX7_copies_8 rfl (lv_at hl 0 rfl) ?_
        refine g_get (v := .ref (E.ad 22 1)) S hB hinX7 hP m_22_0 rfl rfl 0 (by decide) fl7 rfl rfl dX7_copies_9 ?_
        refine lv_iload_n hx hb dX7_copies_12 rfl (lv_at hl 2 rfl) ?_
        refine lv_iload_n hx hb dX7_copies_13 rfl (lv_at hl 3 rfl) ?_
        refine lv_iadd hx hb dX7_copies_14 ?_
        refine lv_aload_n hx hb dX7_copies_15 rfl (lv_at hl 0 rfl) ?_
        refine g_get (v := .ref (E.ad 22 1)) S hB hinX7 hP m_22_0 rfl rfl 0 (by decide) fl7 rfl rfl dX7_copies_16 ?_
        refine lv_iload_n hx hb dX7_copies_19 rfl (lv_at hl 1 rfl) ?_
        refine lv_iload_n hx hb dX7_copies_20 rfl (lv_at hl 3 rfl) ?_
        refine lv_iadd hx hb dX7_copies_21 ?_
        obtain ⟨hv2, hf⟩ := ck_some hf
        refine g_iald (r := z 1) S hB hP m_22_1 rfl hv2 dX7_copies_22 ?_
        refine W.eq (g2 := F0 m 23 ls [.int (z 1 ((x1 + x3).toNatClampNeg)), .int (x2 + x3), .ref (E.ad 22 1)]) rfl ?_
        obtain ⟨hv3, hf⟩ := ck_some hf
        refine g_iast (r := z 1) S hB hE hP hS m_22_1 rfl rfl (fun _ => rfl) hv3 (X' := (va_up σ 22 (ob z 1 ((x2 + x3).toNatClampNeg) (z 1 ((x1 + x3).toNatClampNeg))))) (lens_put σ 22 _ _ _ _) dX7_copies_23 (fun H locs hP hS => ?_)
        refine lv_iinc (v := x3 + (1 : Int32)) (lv' := [(3, .int (x3 + (1 : Int32))), (0, .ref (E.ad 22 0)), (1, .int x1), (2, .int x2)]) hx hb dX7_copies_24 hl (k := 3) rfl rfl (by decide) rfl (fun ls hl => ?_)
        refine lv_goto (tgt := 2) hx hb dX7_copies_27 (by decide) ?_
        exact ih2 (ob z 1 ((x2 + x3).toNatClampNeg) (z 1 ((x1 + x3).toNatClampNeg))) x1 x2 (x3 + (1 : Int32)) _ _ _ hf hP hS (lv_sub hl [1, 2, 3, 0] rfl)
  unfold f_X7_copies at hf
  refine lv_iconst (v := 0) hx hb dX7_copies_0 (by decide) ?_
  refine lv_istore_n (lv' := [(3, .int (0 : Int32)), (0, .ref (E.ad 22 0)), (1, .int a1), (2, .int a2)]) hx hb dX7_copies_1 rfl hl (by decide) rfl (fun ls hl => ?_)
  exact hL2 FUEL z a1 a2 (0 : Int32) _ _ _ hf hP hS (lv_sub hl [1, 2, 3, 0] rfl)
theorem KW_X7_copies (l : Launch) {E : En} (hE : Inj E) (X : Wd) (a1 : Int32) (a2 : Int32) {z' : Ob} (hf : f_X7_copies (X 22) a1 a2 = some z') : Ctv l E yX7_copies wsX7_copies rm_X7_copies [.ref (E.ad 22 0), .int a1, .int a2] X  (va_up X 22 z') := by
  have h := K_X7_copies l hE X (X 22) a1 a2 hf
  rw [lens_all] at h
  exact h
/-! X7_daysGo -/
abbrev rm_X7_daysGo : Room := { frames := 4, cells := 0, slots := 0, locals := 95 }
set_option maxHeartbeats 4000000 in
set_option maxRecDepth 100000 in
theorem K_X7_daysGo (l : Launch) {E : En} (hE : Inj E) (σ : Wd) (z : Ob) (a1 : Int32) (a2 : Int32) {r : Int32} {z' : Ob} (hf : f_X7_daysGo z a1 a2 = some (r, z')) : Cti l E yX7_daysGo wsX7_daysGo rm_X7_daysGo [.ref (E.ad 22 0), .int a1, .int a2] (va_up σ 22 z) r (va_up σ 22 z') := by
  refine meet_i (cc := cX7_daysGo) (maxL := 4) (own := RX7) (by decide) rfl rfl (Nat.le_of_ble_eq_true rfl) ?_
  intro p e s m below meth c Z S hB fin hP hS ls hl
  have hx := S.1
  have hb := S.2.1
  have hl : lv_has ls 4 [(0, .ref (E.ad 22 0)), (1, .int a1), (2, .int a2)] := hl
  have hL10 : ∀ (n10 : Nat) (z : Ob) (x2 : Int32) (x3 : Int32) (H : Heap) (locs : List Loc) (ls : Array Slot), f_X7_daysGo_l10 n10 z x2 x3 = some (r, z') → va_P E.1 vwCl (GW E (va_up σ 22 z)) H → va_S (GA E) s.heap H locs → lv_has ls 4 [(0, .ref (E.ad 22 0)), (2, .int x2), (3, .int x3)] → W p l e rm_X7_daysGo s m ([.ref (E.ad 22 0), .int a1, .int a2] : List Value).toArray below meth c H locs 0 0 Z (F0 m 10 ls []) := by
    intro n10
    induction n10 with
    | zero =>
      intro z x2 x3 H locs ls hf
      cases (show (none : Option _) = some _ from hf)
    | succ n10 ih10 =>
      intro z x2 x3 H locs ls hf hP hS hl
      unfold f_X7_daysGo_l10 at hf
      refine lv_iload_n hx hb dX7_daysGo_10 rfl (lv_at hl 2 rfl) ?_
      refine lv_iload_n hx hb dX7_daysGo_11 rfl (lv_at hl 1 rfl) ?_
      refine lv_icmp_ge (tgt := 29) hx hb dX7_daysGo_12 (by decide) (fun c2 => ?_) (fun c2 => ?_)
      · have hf := if_t c2 hf
        refine lv_aload_n hx hb dX7_daysGo_29 rfl (lv_at hl 0 rfl) ?_
        refine lv_sipush (v := 212) hx hb dX7_daysGo_30 (by decide) ?_
        refine lv_iconst (v := 1) hx hb dX7_daysGo_33 (by decide) ?_
        obtain ⟨q3, hq3, hf⟩ := bind_some hf
        refine callV_i (As := [.int (212 : Int32), .int (1 : Int32)]) (rest := []) S hB hP hS (C := RX7) (b := E.ad 22 0) (g_recv (o := 22) (d := 0) hB hP m_22_0 rfl rfl) (K_X7_guestsOn l hE σ z (212 : Int32) (1 : Int32) hq3) (cwV 2 S.2.2.2.2 gX7_daysGo_X7_guestsOn rfl rfl rfl (by decide +kernel) ⟨Nat.le_of_ble_eq_true rfl, Nat.le_of_ble_eq_true rfl⟩) rfl hl.1 rfl (Nat.le_of_ble_eq_true rfl) dX7_daysGo_34 ⟨Nat.zero_le _, Nat.zero_le _⟩ (fun H locs hP hS => ?_)
        obtain ⟨q4, hq4, hf⟩ := bind_some hf
        refine callS_i (As := [.int q3]) (rest := []) S hB hP hS (K_X7_bitsOf l hE (va_up σ 22 z) q3 hq4) (va_cwS 1 S.2.2.2.2 gX7_daysGo_X7_bitsOf rfl rfl rfl (by decide +kernel) ⟨Nat.le_of_ble_eq_true rfl, Nat.le_of_ble_eq_true rfl⟩) rfl hl.1 rfl (Nat.le_of_ble_eq_true rfl) dX7_daysGo_37 ⟨Nat.zero_le _, Nat.zero_le _⟩ (fun H locs hP hS => ?_)
        exact fin dX7_daysGo_40 (s1 hf) (by rw [(s2 hf)]) hP hS
      · have hf := if_f c2 hf
        refine lv_aload_n hx hb dX7_daysGo_15 rfl (lv_at hl 0 rfl) ?_
        refine lv_sipush (v := 212) hx hb dX7_daysGo_16 (by decide) ?_
        refine lv_iconst (v := 0) hx hb dX7_daysGo_19 (by decide) ?_
        obtain ⟨q5, hq5, hf⟩ := bind_some hf
        refine callV_v (As := [.int (212 : Int32), .int (0 : Int32)]) (rest := []) S hB hP hS (C := RX7) (b := E.ad 22 0) (g_recv (o := 22) (d := 0) hB hP m_22_0 rfl rfl) (K_X7_dayOn l hE σ z (212 : Int32) (0 : Int32) hq5) (cwV 2 S.2.2.2.2 gX7_daysGo_X7_dayOn rfl rfl rfl (by decide +kernel) ⟨Nat.le_of_ble_eq_true rfl, Nat.le_of_ble_eq_true rfl⟩) rfl hl.1 rfl (Nat.le_of_ble_eq_true rfl) dX7_daysGo_20 ⟨Nat.zero_le _, Nat.zero_le _⟩ (fun H locs hP hS => ?_)
        refine lv_iinc (v := x3 + (1 : Int32)) (lv' := [(3, .int (x3 + (1 : Int32))), (0, .ref (E.ad 22 0)), (2, .int x2)]) hx hb dX7_daysGo_23 hl (k := 2) rfl rfl (by decide) rfl (fun ls hl => ?_)
        refine lv_goto (tgt := 10) hx hb dX7_daysGo_26 (by decide) ?_
        exact ih10 q5 x2 (x3 + (1 : Int32)) _ _ _ hf hP hS (lv_sub hl [1, 2, 0] rfl)
  unfold f_X7_daysGo at hf
  refine lv_aload_n hx hb dX7_daysGo_0 rfl (lv_at hl 0 rfl) ?_
  refine lv_iload_n hx hb dX7_daysGo_1 rfl (lv_at hl 1 rfl) ?_
  refine lv_sipush (v := 212) hx hb dX7_daysGo_2 (by decide) ?_
  obtain ⟨q1, hq1, hf⟩ := bind_some hf
  refine callV_v (As := [.int a1, .int (212 : Int32)]) (rest := []) S hB hP hS (C := RX7) (b := E.ad 22 0) (g_recv (o := 22) (d := 0) hB hP m_22_0 rfl rfl) (K_X7_copies l hE σ z a1 (212 : Int32) hq1) (cwV 2 S.2.2.2.2 gX7_daysGo_X7_copies rfl rfl rfl (by decide +kernel) ⟨Nat.le_of_ble_eq_true rfl, Nat.le_of_ble_eq_true rfl⟩) rfl hl.1 rfl (Nat.le_of_ble_eq_true rfl) dX7_daysGo_5 ⟨Nat.zero_le _, Nat.zero_le _⟩ (fun H locs hP hS => ?_)
  refine lv_iconst (v := 0) hx hb dX7_daysGo_8 (by decide) ?_
  refine lv_istore_n (lv' := [(3, .int (0 : Int32)), (0, .ref (E.ad 22 0)), (1, .int a1), (2, .int a2)]) hx hb dX7_daysGo_9 rfl hl (by decide) rfl (fun ls hl => ?_)
  exact hL10 FUEL q1 a2 (0 : Int32) _ _ _ hf hP hS (lv_sub hl [1, 3, 0] rfl)
theorem KW_X7_daysGo (l : Launch) {E : En} (hE : Inj E) (X : Wd) (a1 : Int32) (a2 : Int32) {r : Int32} {z' : Ob} (hf : f_X7_daysGo (X 22) a1 a2 = some (r, z')) : Cti l E yX7_daysGo wsX7_daysGo rm_X7_daysGo [.ref (E.ad 22 0), .int a1, .int a2] X r (va_up X 22 z') := by
  have h := K_X7_daysGo l hE X (X 22) a1 a2 hf
  rw [lens_all] at h
  exact h
/-! X7_runs -/
abbrev rm_X7_runs : Room := { frames := 5, cells := 0, slots := 0, locals := 118 }
set_option maxHeartbeats 4000000 in
set_option maxRecDepth 100000 in
theorem K_X7_runs (l : Launch) {E : En} (hE : Inj E) (σ : Wd) (z : Ob) (a1 : Int32) (a2 : Int32) {r : Int32} {z' : Ob} (hf : f_X7_runs z a1 a2 = some (r, z')) : Cti l E yX7_runs wsX7_runs rm_X7_runs [.ref (E.ad 22 0), .int a1, .int a2] (va_up σ 22 z) r (va_up σ 22 z') := by
  refine meet_i (cc := cX7_runs) (maxL := 4) (own := RX7) (by decide) rfl rfl (Nat.le_of_ble_eq_true rfl) ?_
  intro p e s m below meth c Z S hB fin hP hS ls hl
  have hx := S.1
  have hb := S.2.1
  have hl : lv_has ls 4 [(0, .ref (E.ad 22 0)), (1, .int a1), (2, .int a2)] := hl
  unfold f_X7_runs at hf
  refine lv_iload_n hx hb dX7_runs_0 rfl (lv_at hl 1 rfl) ?_
  refine lv_i2l hx hb dX7_runs_1 (v := a1.toInt64) rfl ?_
  refine lv_lconst (v := 0) hx hb dX7_runs_2 (by decide) ?_
  refine lv_ldc2 hx hb S.2.2.2.1 (S.2.2.2.2 (.constantLong RX7 194 (60)) (by decide +kernel)) dX7_runs_3 ?_
  obtain ⟨q1, hq1, hf⟩ := bind_some hf
  refine callS_i (As := [.long a1.toInt64, .long (0 : Int64), .long (60 : Int64)]) (rest := []) S hB hP hS (K_X7_in l hE (va_up σ 22 z) a1.toInt64 (0 : Int64) (60 : Int64) hq1) (va_cwS 3 S.2.2.2.2 gX7_runs_X7_in rfl rfl rfl (by decide +kernel) ⟨Nat.le_of_ble_eq_true rfl, Nat.le_of_ble_eq_true rfl⟩) rfl hl.1 rfl (Nat.le_of_ble_eq_true rfl) dX7_runs_6 ⟨Nat.zero_le _, Nat.zero_le _⟩ (fun H locs hP hS => ?_)
  refine lv_if_eq (tgt := 24) hx hb dX7_runs_9 (by decide) (fun c2 => ?_) (fun c2 => ?_)
  · have hf := if_t c2 hf
    refine lv_iconst (v := -1) hx hb dX7_runs_24 (by decide) ?_
    exact fin dX7_runs_25 (s1 hf) (by rw [(s2 hf)]) hP hS
  · have hf := if_f c2 hf
    refine lv_iload_n hx hb dX7_runs_12 rfl (lv_at hl 2 rfl) ?_
    refine lv_i2l hx hb dX7_runs_13 (v := a2.toInt64) rfl ?_
    refine lv_lconst (v := 0) hx hb dX7_runs_14 (by decide) ?_
    refine lv_ldc2 hx hb S.2.2.2.1 (S.2.2.2.2 (.constantLong RX7 175 (3)) (by decide +kernel)) dX7_runs_15 ?_
    obtain ⟨q3, hq3, hf⟩ := bind_some hf
    refine callS_i (As := [.long a2.toInt64, .long (0 : Int64), .long (3 : Int64)]) (rest := []) S hB hP hS (K_X7_in l hE (va_up σ 22 z) a2.toInt64 (0 : Int64) (3 : Int64) hq3) (va_cwS 3 S.2.2.2.2 gX7_runs_X7_in rfl rfl rfl (by decide +kernel) ⟨Nat.le_of_ble_eq_true rfl, Nat.le_of_ble_eq_true rfl⟩) rfl hl.1 rfl (Nat.le_of_ble_eq_true rfl) dX7_runs_18 ⟨Nat.zero_le _, Nat.zero_le _⟩ (fun H locs hP hS => ?_)
    refine lv_if_ne (tgt := 26) hx hb dX7_runs_21 (by decide) (fun c4 => ?_) (fun c4 => ?_)
    · have hf := if_f c4 hf
      refine lv_aload_n hx hb dX7_runs_26 rfl (lv_at hl 0 rfl) ?_
      refine lv_iconst (v := 0) hx hb dX7_runs_27 (by decide) ?_
      refine lv_iload_n hx hb dX7_runs_28 rfl (lv_at hl 1 rfl) ?_
      obtain ⟨q5, hq5, hf⟩ := bind_some hf
      refine callV_i (As := [.int (0 : Int32), .int a1]) (rest := []) S hB hP hS (C := RX7) (b := E.ad 22 0) (g_recv (o := 22) (d := 0) hB hP m_22_0 rfl rfl) (K_X7_daysGo l hE σ z (0 : Int32) a1 hq5) (cwV 2 S.2.2.2.2 gX7_runs_X7_daysGo rfl rfl rfl (by decide +kernel) ⟨Nat.le_of_ble_eq_true rfl, Nat.le_of_ble_eq_true rfl⟩) rfl hl.1 rfl (Nat.le_of_ble_eq_true rfl) dX7_runs_29 ⟨Nat.zero_le _, Nat.zero_le _⟩ (fun H locs hP hS => ?_)
      refine lv_istore_n (lv' := [(3, .int q5.1), (0, .ref (E.ad 22 0)), (1, .int a1), (2, .int a2)]) hx hb dX7_runs_32 rfl hl (by decide) rfl (fun ls hl => ?_)
      refine lv_iload_n hx hb dX7_runs_33 rfl (lv_at hl 3 rfl) ?_
      refine lv_if_ne (tgt := 41) hx hb dX7_runs_34 (by decide) (fun c6 => ?_) (fun c6 => ?_)
      · have hf := if_f c6 hf
        refine lv_iload_n hx hb dX7_runs_41 rfl (lv_at hl 3 rfl) ?_
        refine lv_iconst (v := 1) hx hb dX7_runs_42 (by decide) ?_
        refine lv_icmp_ne (tgt := 57) hx hb dX7_runs_43 (by decide) (fun c7 => ?_) (fun c7 => ?_)
        · have hf := if_f c7 hf
          refine lv_iload_n hx hb dX7_runs_57 rfl (lv_at hl 3 rfl) ?_
          refine lv_iconst (v := 2) hx hb dX7_runs_58 (by decide) ?_
          refine lv_icmp_ne (tgt := 75) hx hb dX7_runs_59 (by decide) (fun c8 => ?_) (fun c8 => ?_)
          · have hf := if_f c8 hf
            refine lv_aload_n hx hb dX7_runs_75 rfl (lv_at hl 1 rfl) ?_
            refine lv_sipush (v := 212) hx hb dX7_runs_76 (by decide) ?_
            obtain ⟨q9, hq9, hf⟩ := bind_some hf
            refine callV_i (As := [.int (212 : Int32)]) (rest := []) S hB hP hS (C := RX7) (b := E.ad 22 0) (g_recv (o := 22) (d := 0) hB hP m_22_0 rfl rfl) (K_X7_lastOn l hE σ q5.2 (212 : Int32) hq9) (cwV 1 S.2.2.2.2 gX7_runs_X7_lastOn rfl rfl rfl (by decide +kernel) ⟨Nat.le_of_ble_eq_true rfl, Nat.le_of_ble_eq_true rfl⟩) rfl hl.1 rfl (Nat.le_of_ble_eq_true rfl) dX7_runs_79 ⟨Nat.zero_le _, Nat.zero_le _⟩ (fun H locs hP hS => ?_)
            exact fin dX7_runs_82 (s1 hf) (by rw [(s2 hf)]) hP hS
          · have hf := if_t c8 hf
            refine lv_aload_n hx hb dX7_runs_62 rfl (lv_at hl 1 rfl) ?_
            refine lv_sipush (v := 212) hx hb dX7_runs_63 (by decide) ?_
            obtain ⟨q10, hq10, hf⟩ := bind_some hf
            refine callV_i (As := [.int (212 : Int32)]) (rest := []) S hB hP hS (C := RX7) (b := E.ad 22 0) (g_recv (o := 22) (d := 0) hB hP m_22_0 rfl rfl) (K_X7_standOn l hE σ q5.2 (212 : Int32) hq10) (cwV 1 S.2.2.2.2 gX7_runs_X7_standOn rfl rfl rfl (by decide +kernel) ⟨Nat.le_of_ble_eq_true rfl, Nat.le_of_ble_eq_true rfl⟩) rfl hl.1 rfl (Nat.le_of_ble_eq_true rfl) dX7_runs_66 ⟨Nat.zero_le _, Nat.zero_le _⟩ (fun H locs hP hS => ?_)
            obtain ⟨q11, hq11, hf⟩ := bind_some hf
            refine callS_i (As := [.int q10]) (rest := []) S hB hP hS (K_X7_bitsOf l hE (va_up σ 22 q5.2) q10 hq11) (va_cwS 1 S.2.2.2.2 gX7_runs_X7_bitsOf rfl rfl rfl (by decide +kernel) ⟨Nat.le_of_ble_eq_true rfl, Nat.le_of_ble_eq_true rfl⟩) rfl hl.1 rfl (Nat.le_of_ble_eq_true rfl) dX7_runs_69 ⟨Nat.zero_le _, Nat.zero_le _⟩ (fun H locs hP hS => ?_)
            refine lv_goto (tgt := 82) hx hb dX7_runs_72 (by decide) ?_
            exact fin dX7_runs_82 (s1 hf) (by rw [(s2 hf)]) hP hS
        · have hf := if_t c7 hf
          refine lv_aload_n hx hb dX7_runs_46 rfl (lv_at hl 1 rfl) ?_
          refine lv_sipush (v := 212) hx hb dX7_runs_47 (by decide) ?_
          refine lv_iconst (v := 2) hx hb dX7_runs_50 (by decide) ?_
          obtain ⟨q12, hq12, hf⟩ := bind_some hf
          refine callV_i (As := [.int (212 : Int32), .int (2 : Int32)]) (rest := []) S hB hP hS (C := RX7) (b := E.ad 22 0) (g_recv (o := 22) (d := 0) hB hP m_22_0 rfl rfl) (K_X7_guestsOn l hE σ q5.2 (212 : Int32) (2 : Int32) hq12) (cwV 2 S.2.2.2.2 gX7_runs_X7_guestsOn rfl rfl rfl (by decide +kernel) ⟨Nat.le_of_ble_eq_true rfl, Nat.le_of_ble_eq_true rfl⟩) rfl hl.1 rfl (Nat.le_of_ble_eq_true rfl) dX7_runs_51 ⟨Nat.zero_le _, Nat.zero_le _⟩ (fun H locs hP hS => ?_)
          refine lv_goto (tgt := 82) hx hb dX7_runs_54 (by decide) ?_
          exact fin dX7_runs_82 (s1 hf) (by rw [(s2 hf)]) hP hS
      · have hf := if_t c6 hf
        refine lv_iload_n hx hb dX7_runs_37 rfl (lv_at hl 0 rfl) ?_
        refine lv_goto (tgt := 82) hx hb dX7_runs_38 (by decide) ?_
        exact fin dX7_runs_82 (s1 hf) (by rw [(s2 hf)]) hP hS
    · have hf := if_t c4 hf
      refine lv_iconst (v := -1) hx hb dX7_runs_24 (by decide) ?_
      exact fin dX7_runs_25 (s1 hf) (by rw [(s2 hf)]) hP hS
theorem KW_X7_runs (l : Launch) {E : En} (hE : Inj E) (X : Wd) (a1 : Int32) (a2 : Int32) {r : Int32} {z' : Ob} (hf : f_X7_runs (X 22) a1 a2 = some (r, z')) : Cti l E yX7_runs wsX7_runs rm_X7_runs [.ref (E.ad 22 0), .int a1, .int a2] X r (va_up X 22 z') := by
  have h := K_X7_runs l hE X (X 22) a1 a2 hf
  rw [lens_all] at h
  exact h
/-! X7_ahead -/
abbrev rm_X7_ahead : Room := { frames := 5, cells := 0, slots := 0, locals := 118 }
set_option maxHeartbeats 4000000 in
set_option maxRecDepth 100000 in
theorem K_X7_ahead (l : Launch) {E : En} (hE : Inj E) (σ : Wd) (z : Ob) (a1 : Int32) (a2 : Int32) (a3 : Int32) {r : Int32} {z' : Ob} (hf : f_X7_ahead z a1 a2 a3 = some (r, z')) : Cti l E yX7_ahead wsX7_ahead rm_X7_ahead [.ref (E.ad 22 0), .int a1, .int a2, .int a3] (va_up σ 22 z) r (va_up σ 22 z') := by
  refine meet_i (cc := cX7_ahead) (maxL := 4) (own := RX7) (by decide) rfl rfl (Nat.le_of_ble_eq_true rfl) ?_
  intro p e s m below meth c Z S hB fin hP hS ls hl
  have hx := S.1
  have hb := S.2.1
  have hl : lv_has ls 4 [(0, .ref (E.ad 22 0)), (1, .int a1), (2, .int a2), (3, .int a3)] := hl
  have hinX7 : ∀ w ∈ u_ws RX7 TX7 25, w ∈ wsX7_ahead := by decide +kernel
  have fl7 := S.2.2.2.2 (.fieldLink RX7 7 "MownMazeModel" "state" "[I") (by decide +kernel)
  unfold f_X7_ahead at hf
  refine lv_aload_n hx hb dX7_ahead_0 rfl (lv_at hl 0 rfl) ?_
  refine lv_iload_n hx hb dX7_ahead_1 rfl (lv_at hl 1 rfl) ?_
  obtain ⟨q1, hq1, hf⟩ := bind_some hf
  refine callV_i (As := [.int a1]) (rest := []) S hB hP hS (C := RX7) (b := E.ad 22 0) (g_recv (o := 22) (d := 0) hB hP m_22_0 rfl rfl) (K_X7_isGuest l hE σ z a1 hq1) (cwV 1 S.2.2.2.2 gX7_ahead_X7_isGuest rfl rfl rfl (by decide +kernel) ⟨Nat.le_of_ble_eq_true rfl, Nat.le_of_ble_eq_true rfl⟩) rfl hl.1 rfl (Nat.le_of_ble_eq_true rfl) dX7_ahead_2 ⟨Nat.zero_le _, Nat.zero_le _⟩ (fun H locs hP hS => ?_)
  refine lv_if_eq (tgt := 32) hx hb dX7_ahead_5 (by decide) (fun c2 => ?_) (fun c2 => ?_)
  · have hf := if_t c2 hf
    refine lv_iconst (v := -1) hx hb dX7_ahead_32 (by decide) ?_
    exact fin dX7_ahead_33 (s1 hf) (by rw [(s2 hf)]) hP hS
  · have hf := if_f c2 hf
    refine lv_iload_n hx hb dX7_ahead_8 rfl (lv_at hl 2 rfl) ?_
    refine lv_i2l hx hb dX7_ahead_9 (v := a2.toInt64) rfl ?_
    refine lv_lconst (v := 0) hx hb dX7_ahead_10 (by decide) ?_
    refine lv_ldc2 hx hb S.2.2.2.1 (S.2.2.2.2 (.constantLong RX7 194 (60)) (by decide +kernel)) dX7_ahead_11 ?_
    obtain ⟨q3, hq3, hf⟩ := bind_some hf
    refine callS_i (As := [.long a2.toInt64, .long (0 : Int64), .long (60 : Int64)]) (rest := []) S hB hP hS (K_X7_in l hE (va_up σ 22 z) a2.toInt64 (0 : Int64) (60 : Int64) hq3) (va_cwS 3 S.2.2.2.2 gX7_ahead_X7_in rfl rfl rfl (by decide +kernel) ⟨Nat.le_of_ble_eq_true rfl, Nat.le_of_ble_eq_true rfl⟩) rfl hl.1 rfl (Nat.le_of_ble_eq_true rfl) dX7_ahead_14 ⟨Nat.zero_le _, Nat.zero_le _⟩ (fun H locs hP hS => ?_)
    refine lv_if_eq (tgt := 32) hx hb dX7_ahead_17 (by decide) (fun c4 => ?_) (fun c4 => ?_)
    · have hf := if_t c4 hf
      refine lv_iconst (v := -1) hx hb dX7_ahead_32 (by decide) ?_
      exact fin dX7_ahead_33 (s1 hf) (by rw [(s2 hf)]) hP hS
    · have hf := if_f c4 hf
      refine lv_iload_n hx hb dX7_ahead_20 rfl (lv_at hl 3 rfl) ?_
      refine lv_i2l hx hb dX7_ahead_21 (v := a3.toInt64) rfl ?_
      refine lv_lconst (v := 0) hx hb dX7_ahead_22 (by decide) ?_
      refine lv_ldc2 hx hb S.2.2.2.1 (S.2.2.2.2 (.constantLong RX7 180 (2)) (by decide +kernel)) dX7_ahead_23 ?_
      obtain ⟨q5, hq5, hf⟩ := bind_some hf
      refine callS_i (As := [.long a3.toInt64, .long (0 : Int64), .long (2 : Int64)]) (rest := []) S hB hP hS (K_X7_in l hE (va_up σ 22 z) a3.toInt64 (0 : Int64) (2 : Int64) hq5) (va_cwS 3 S.2.2.2.2 gX7_ahead_X7_in rfl rfl rfl (by decide +kernel) ⟨Nat.le_of_ble_eq_true rfl, Nat.le_of_ble_eq_true rfl⟩) rfl hl.1 rfl (Nat.le_of_ble_eq_true rfl) dX7_ahead_26 ⟨Nat.zero_le _, Nat.zero_le _⟩ (fun H locs hP hS => ?_)
      refine lv_if_ne (tgt := 34) hx hb dX7_ahead_29 (by decide) (fun c6 => ?_) (fun c6 => ?_)
      · have hf := if_f c6 hf
        refine lv_aload_n hx hb dX7_ahead_34 rfl (lv_at hl 0 rfl) ?_
        refine lv_iconst (v := 0) hx hb dX7_ahead_35 (by decide) ?_
        refine lv_iload_n hx hb dX7_ahead_36 rfl (lv_at hl 2 rfl) ?_
        obtain ⟨q7, hq7, hf⟩ := bind_some hf
        refine callV_i (As := [.int (0 : Int32), .int a2]) (rest := []) S hB hP hS (C := RX7) (b := E.ad 22 0) (g_recv (o := 22) (d := 0) hB hP m_22_0 rfl rfl) (K_X7_daysGo l hE σ z (0 : Int32) a2 hq7) (cwV 2 S.2.2.2.2 gX7_ahead_X7_daysGo rfl rfl rfl (by decide +kernel) ⟨Nat.le_of_ble_eq_true rfl, Nat.le_of_ble_eq_true rfl⟩) rfl hl.1 rfl (Nat.le_of_ble_eq_true rfl) dX7_ahead_37 ⟨Nat.zero_le _, Nat.zero_le _⟩ (fun H locs hP hS => ?_)
        refine lv_pop hx hb dX7_ahead_40 rfl ?_
        refine lv_aload_n hx hb dX7_ahead_41 rfl (lv_at hl 0 rfl) ?_
        refine g_get (v := .ref (E.ad 22 1)) S hB hinX7 hP m_22_0 rfl rfl 0 (by decide) fl7 rfl rfl dX7_ahead_42 ?_
        refine lv_sipush (v := 251) hx hb dX7_ahead_45 (by decide) ?_
        refine lv_iconst (v := 4) hx hb dX7_ahead_48 (by decide) ?_
        refine lv_iload_n hx hb dX7_ahead_49 rfl (lv_at hl 3 rfl) ?_
        refine lv_imul hx hb dX7_ahead_50 ?_
        refine lv_iadd hx hb dX7_ahead_51 ?_
        refine lv_iload_n hx hb dX7_ahead_52 rfl (lv_at hl 1 rfl) ?_
        refine lv_iadd hx hb dX7_ahead_53 ?_
        obtain ⟨hv8, hf⟩ := ck_some hf
        refine g_iald (r := q7.2 1) S hB hP m_22_1 rfl hv8 dX7_ahead_54 ?_
        refine W.eq (g2 := F0 m 55 ls [.int (q7.2 1 ((((251 : Int32) + ((4 : Int32) * a3)) + a1).toNatClampNeg))]) rfl ?_
        exact fin dX7_ahead_55 (s1 hf) (by rw [(s2 hf)]) hP hS
      · have hf := if_t c6 hf
        refine lv_iconst (v := -1) hx hb dX7_ahead_32 (by decide) ?_
        exact fin dX7_ahead_33 (s1 hf) (by rw [(s2 hf)]) hP hS
theorem KW_X7_ahead (l : Launch) {E : En} (hE : Inj E) (X : Wd) (a1 : Int32) (a2 : Int32) (a3 : Int32) {r : Int32} {z' : Ob} (hf : f_X7_ahead (X 22) a1 a2 a3 = some (r, z')) : Cti l E yX7_ahead wsX7_ahead rm_X7_ahead [.ref (E.ad 22 0), .int a1, .int a2, .int a3] X r (va_up X 22 z') := by
  have h := K_X7_ahead l hE X (X 22) a1 a2 a3 hf
  rw [lens_all] at h
  exact h
/-! X7_stands -/
abbrev rm_X7_stands : Room := { frames := 5, cells := 0, slots := 0, locals := 118 }
set_option maxHeartbeats 4000000 in
set_option maxRecDepth 100000 in
theorem K_X7_stands (l : Launch) {E : En} (hE : Inj E) (σ : Wd) (z : Ob) (a1 : Int32) (a2 : Int32) {r : Int32} {z' : Ob} (hf : f_X7_stands z a1 a2 = some (r, z')) : Cti l E yX7_stands wsX7_stands rm_X7_stands [.ref (E.ad 22 0), .int a1, .int a2] (va_up σ 22 z) r (va_up σ 22 z') := by
  refine meet_i (cc := cX7_stands) (maxL := 3) (own := RX7) (by decide) rfl rfl (Nat.le_of_ble_eq_true rfl) ?_
  intro p e s m below meth c Z S hB fin hP hS ls hl
  have hx := S.1
  have hb := S.2.1
  have hl : lv_has ls 3 [(0, .ref (E.ad 22 0)), (1, .int a1), (2, .int a2)] := hl
  have hinX7 : ∀ w ∈ u_ws RX7 TX7 25, w ∈ wsX7_stands := by decide +kernel
  have fl7 := S.2.2.2.2 (.fieldLink RX7 7 "MownMazeModel" "state" "[I") (by decide +kernel)
  unfold f_X7_stands at hf
  refine lv_iload_n hx hb dX7_stands_0 rfl (lv_at hl 1 rfl) ?_
  obtain ⟨q1, hq1, hf⟩ := bind_some hf
  refine callS_i (As := [.int a1]) (rest := []) S hB hP hS (K_X7_isHedge l hE (va_up σ 22 z) a1 hq1) (va_cwS 1 S.2.2.2.2 gX7_stands_X7_isHedge rfl rfl rfl (by decide +kernel) ⟨Nat.le_of_ble_eq_true rfl, Nat.le_of_ble_eq_true rfl⟩) rfl hl.1 rfl (Nat.le_of_ble_eq_true rfl) dX7_stands_1 ⟨Nat.zero_le _, Nat.zero_le _⟩ (fun H locs hP hS => ?_)
  refine lv_if_eq (tgt := 19) hx hb dX7_stands_4 (by decide) (fun c2 => ?_) (fun c2 => ?_)
  · have hf := if_t c2 hf
    refine lv_iconst (v := -1) hx hb dX7_stands_19 (by decide) ?_
    exact fin dX7_stands_20 (s1 hf) (by rw [(s2 hf)]) hP hS
  · have hf := if_f c2 hf
    refine lv_iload_n hx hb dX7_stands_7 rfl (lv_at hl 2 rfl) ?_
    refine lv_i2l hx hb dX7_stands_8 (v := a2.toInt64) rfl ?_
    refine lv_lconst (v := 0) hx hb dX7_stands_9 (by decide) ?_
    refine lv_ldc2 hx hb S.2.2.2.1 (S.2.2.2.2 (.constantLong RX7 194 (60)) (by decide +kernel)) dX7_stands_10 ?_
    obtain ⟨q3, hq3, hf⟩ := bind_some hf
    refine callS_i (As := [.long a2.toInt64, .long (0 : Int64), .long (60 : Int64)]) (rest := []) S hB hP hS (K_X7_in l hE (va_up σ 22 z) a2.toInt64 (0 : Int64) (60 : Int64) hq3) (va_cwS 3 S.2.2.2.2 gX7_stands_X7_in rfl rfl rfl (by decide +kernel) ⟨Nat.le_of_ble_eq_true rfl, Nat.le_of_ble_eq_true rfl⟩) rfl hl.1 rfl (Nat.le_of_ble_eq_true rfl) dX7_stands_13 ⟨Nat.zero_le _, Nat.zero_le _⟩ (fun H locs hP hS => ?_)
    refine lv_if_ne (tgt := 21) hx hb dX7_stands_16 (by decide) (fun c4 => ?_) (fun c4 => ?_)
    · have hf := if_f c4 hf
      refine lv_aload_n hx hb dX7_stands_21 rfl (lv_at hl 0 rfl) ?_
      refine lv_iconst (v := 0) hx hb dX7_stands_22 (by decide) ?_
      refine lv_iload_n hx hb dX7_stands_23 rfl (lv_at hl 2 rfl) ?_
      obtain ⟨q5, hq5, hf⟩ := bind_some hf
      refine callV_i (As := [.int (0 : Int32), .int a2]) (rest := []) S hB hP hS (C := RX7) (b := E.ad 22 0) (g_recv (o := 22) (d := 0) hB hP m_22_0 rfl rfl) (K_X7_daysGo l hE σ z (0 : Int32) a2 hq5) (cwV 2 S.2.2.2.2 gX7_stands_X7_daysGo rfl rfl rfl (by decide +kernel) ⟨Nat.le_of_ble_eq_true rfl, Nat.le_of_ble_eq_true rfl⟩) rfl hl.1 rfl (Nat.le_of_ble_eq_true rfl) dX7_stands_24 ⟨Nat.zero_le _, Nat.zero_le _⟩ (fun H locs hP hS => ?_)
      refine lv_pop hx hb dX7_stands_27 rfl ?_
      refine lv_aload_n hx hb dX7_stands_28 rfl (lv_at hl 0 rfl) ?_
      refine g_get (v := .ref (E.ad 22 1)) S hB hinX7 hP m_22_0 rfl rfl 0 (by decide) fl7 rfl rfl dX7_stands_29 ?_
      refine lv_sipush (v := 212) hx hb dX7_stands_32 (by decide) ?_
      refine lv_iload_n hx hb dX7_stands_35 rfl (lv_at hl 1 rfl) ?_
      refine lv_iadd hx hb dX7_stands_36 ?_
      obtain ⟨hv6, hf⟩ := ck_some hf
      refine g_iald (r := q5.2 1) S hB hP m_22_1 rfl hv6 dX7_stands_37 ?_
      refine W.eq (g2 := F0 m 38 ls [.int (q5.2 1 (((212 : Int32) + a1).toNatClampNeg))]) rfl ?_
      exact fin dX7_stands_38 (s1 hf) (by rw [(s2 hf)]) hP hS
    · have hf := if_t c4 hf
      refine lv_iconst (v := -1) hx hb dX7_stands_19 (by decide) ?_
      exact fin dX7_stands_20 (s1 hf) (by rw [(s2 hf)]) hP hS
theorem KW_X7_stands (l : Launch) {E : En} (hE : Inj E) (X : Wd) (a1 : Int32) (a2 : Int32) {r : Int32} {z' : Ob} (hf : f_X7_stands (X 22) a1 a2 = some (r, z')) : Cti l E yX7_stands wsX7_stands rm_X7_stands [.ref (E.ad 22 0), .int a1, .int a2] X r (va_up X 22 z') := by
  have h := K_X7_stands l hE X (X 22) a1 a2 hf
  rw [lens_all] at h
  exact h
/-! X7_out -/
abbrev rm_X7_out : Room := { frames := 4, cells := 0, slots := 0, locals := 95 }
set_option maxHeartbeats 4000000 in
set_option maxRecDepth 100000 in
theorem K_X7_out (l : Launch) {E : En} (hE : Inj E) (σ : Wd) (z : Ob) (a1 : Int32) {r : Int32} {z' : Ob} (hf : f_X7_out z a1 = some (r, z')) : Cti l E yX7_out wsX7_out rm_X7_out [.ref (E.ad 22 0), .int a1] (va_up σ 22 z) r (va_up σ 22 z') := by
  refine meet_i (cc := cX7_out) (maxL := 3) (own := RX7) (by decide) rfl rfl (Nat.le_of_ble_eq_true rfl) ?_
  intro p e s m below meth c Z S hB fin hP hS ls hl
  have hx := S.1
  have hb := S.2.1
  have hl : lv_has ls 3 [(0, .ref (E.ad 22 0)), (1, .int a1)] := hl
  have hinX7 : ∀ w ∈ u_ws RX7 TX7 25, w ∈ wsX7_out := by decide +kernel
  have fl7 := S.2.2.2.2 (.fieldLink RX7 7 "MownMazeModel" "state" "[I") (by decide +kernel)
  have hL20 : ∀ (n20 : Nat) (z : Ob) (x1 : Int32) (x2 : Int32) (H : Heap) (locs : List Loc) (ls : Array Slot), f_X7_out_l20 n20 z x1 x2 = some (r, z') → va_P E.1 vwCl (GW E (va_up σ 22 z)) H → va_S (GA E) s.heap H locs → lv_has ls 3 [(0, .ref (E.ad 22 0)), (1, .int x1), (2, .int x2)] → W p l e rm_X7_out s m ([.ref (E.ad 22 0), .int a1] : List Value).toArray below meth c H locs 0 0 Z (F0 m 20 ls []) := by
    intro n20
    induction n20 with
    | zero =>
      intro z x1 x2 H locs ls hf
      cases (show (none : Option _) = some _ from hf)
    | succ n20 ih20 =>
      intro z x1 x2 H locs ls hf hP hS hl
      unfold f_X7_out_l20 at hf
      refine lv_iload_n hx hb dX7_out_20 rfl (lv_at hl 2 rfl) ?_
      refine lv_bipush (v := 60) hx hb dX7_out_21 (by decide) ?_
      refine lv_icmp_gt (tgt := 56) hx hb dX7_out_23 (by decide) (fun c4 => ?_) (fun c4 => ?_)
      · have hf := if_t c4 hf
        refine lv_bipush (v := -4) hx hb dX7_out_56 (by decide) ?_
        exact fin dX7_out_58 (s1 hf) (by rw [(s2 hf)]) hP hS
      · have hf := if_f c4 hf
        refine lv_aload_n hx hb dX7_out_26 rfl (lv_at hl 0 rfl) ?_
        refine g_get (v := .ref (E.ad 22 1)) S hB hinX7 hP m_22_0 rfl rfl 0 (by decide) fl7 rfl rfl dX7_out_27 ?_
        refine lv_sipush (v := 259) hx hb dX7_out_30 (by decide) ?_
        refine lv_iload_n hx hb dX7_out_33 rfl (lv_at hl 1 rfl) ?_
        refine lv_iadd hx hb dX7_out_34 ?_
        obtain ⟨hv5, hf⟩ := ck_some hf
        refine g_iald (r := z 1) S hB hP m_22_1 rfl hv5 dX7_out_35 ?_
        refine W.eq (g2 := F0 m 36 ls [.int (z 1 (((259 : Int32) + x1).toNatClampNeg))]) rfl ?_
        refine lv_iconst (v := 1) hx hb dX7_out_36 (by decide) ?_
        refine lv_icmp_ne (tgt := 42) hx hb dX7_out_37 (by decide) (fun c6 => ?_) (fun c6 => ?_)
        · have hf := if_f c6 hf
          refine lv_aload_n hx hb dX7_out_42 rfl (lv_at hl 0 rfl) ?_
          refine lv_sipush (v := 212) hx hb dX7_out_43 (by decide) ?_
          refine lv_iconst (v := 0) hx hb dX7_out_46 (by decide) ?_
          obtain ⟨q7, hq7, hf⟩ := bind_some hf
          refine callV_v (As := [.int (212 : Int32), .int (0 : Int32)]) (rest := []) S hB hP hS (C := RX7) (b := E.ad 22 0) (g_recv (o := 22) (d := 0) hB hP m_22_0 rfl rfl) (K_X7_dayOn l hE σ z (212 : Int32) (0 : Int32) hq7) (cwV 2 S.2.2.2.2 gX7_out_X7_dayOn rfl rfl rfl (by decide +kernel) ⟨Nat.le_of_ble_eq_true rfl, Nat.le_of_ble_eq_true rfl⟩) rfl hl.1 rfl (Nat.le_of_ble_eq_true rfl) dX7_out_47 ⟨Nat.zero_le _, Nat.zero_le _⟩ (fun H locs hP hS => ?_)
          refine lv_iinc (v := x2 + (1 : Int32)) (lv' := [(2, .int (x2 + (1 : Int32))), (0, .ref (E.ad 22 0)), (1, .int x1)]) hx hb dX7_out_50 hl (k := 2) rfl rfl (by decide) rfl (fun ls hl => ?_)
          refine lv_goto (tgt := 20) hx hb dX7_out_53 (by decide) ?_
          exact ih20 q7 x1 (x2 + (1 : Int32)) _ _ _ hf hP hS (lv_sub hl [1, 2, 0] rfl)
        · have hf := if_t c6 hf
          refine lv_iload_n hx hb dX7_out_40 rfl (lv_at hl 2 rfl) ?_
          exact fin dX7_out_41 (s1 hf) (by rw [(s2 hf)]) hP hS
  unfold f_X7_out at hf
  refine lv_aload_n hx hb dX7_out_0 rfl (lv_at hl 0 rfl) ?_
  refine lv_iload_n hx hb dX7_out_1 rfl (lv_at hl 1 rfl) ?_
  obtain ⟨q1, hq1, hf⟩ := bind_some hf
  refine callV_i (As := [.int a1]) (rest := []) S hB hP hS (C := RX7) (b := E.ad 22 0) (g_recv (o := 22) (d := 0) hB hP m_22_0 rfl rfl) (K_X7_isGuest l hE σ z a1 hq1) (cwV 1 S.2.2.2.2 gX7_out_X7_isGuest rfl rfl rfl (by decide +kernel) ⟨Nat.le_of_ble_eq_true rfl, Nat.le_of_ble_eq_true rfl⟩) rfl hl.1 rfl (Nat.le_of_ble_eq_true rfl) dX7_out_2 ⟨Nat.zero_le _, Nat.zero_le _⟩ (fun H locs hP hS => ?_)
  refine lv_if_ne (tgt := 10) hx hb dX7_out_5 (by decide) (fun c2 => ?_) (fun c2 => ?_)
  · have hf := if_f c2 hf
    refine lv_aload_n hx hb dX7_out_10 rfl (lv_at hl 0 rfl) ?_
    refine lv_iconst (v := 0) hx hb dX7_out_11 (by decide) ?_
    refine lv_sipush (v := 212) hx hb dX7_out_12 (by decide) ?_
    obtain ⟨q3, hq3, hf⟩ := bind_some hf
    refine callV_v (As := [.int (0 : Int32), .int (212 : Int32)]) (rest := []) S hB hP hS (C := RX7) (b := E.ad 22 0) (g_recv (o := 22) (d := 0) hB hP m_22_0 rfl rfl) (K_X7_copies l hE σ z (0 : Int32) (212 : Int32) hq3) (cwV 2 S.2.2.2.2 gX7_out_X7_copies rfl rfl rfl (by decide +kernel) ⟨Nat.le_of_ble_eq_true rfl, Nat.le_of_ble_eq_true rfl⟩) rfl hl.1 rfl (Nat.le_of_ble_eq_true rfl) dX7_out_15 ⟨Nat.zero_le _, Nat.zero_le _⟩ (fun H locs hP hS => ?_)
    refine lv_iconst (v := 0) hx hb dX7_out_18 (by decide) ?_
    refine lv_istore_n (lv' := [(2, .int (0 : Int32)), (0, .ref (E.ad 22 0)), (1, .int a1)]) hx hb dX7_out_19 rfl hl (by decide) rfl (fun ls hl => ?_)
    exact hL20 FUEL q3 a1 (0 : Int32) _ _ _ hf hP hS (lv_sub hl [1, 2, 0] rfl)
  · have hf := if_t c2 hf
    refine lv_iconst (v := -1) hx hb dX7_out_8 (by decide) ?_
    exact fin dX7_out_9 (s1 hf) (by rw [(s2 hf)]) hP hS
theorem KW_X7_out (l : Launch) {E : En} (hE : Inj E) (X : Wd) (a1 : Int32) {r : Int32} {z' : Ob} (hf : f_X7_out (X 22) a1 = some (r, z')) : Cti l E yX7_out wsX7_out rm_X7_out [.ref (E.ad 22 0), .int a1] X r (va_up X 22 z') := by
  have h := K_X7_out l hE X (X 22) a1 hf
  rw [lens_all] at h
  exact h
