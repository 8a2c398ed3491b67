/-! X7_kind -/
abbrev rm_X7_kind : Room := { frames := 5, cells := 0, slots := 0, locals := 118 }
set_option maxHeartbeats 4000000 in
set_option maxRecDepth 100000 in
theorem K_X7_kind (l : Launch) {E : En} (hE : Inj E) (σ : Wd) (z : Ob) (a1 : Int32) (a2 : Int32) (a3 : Int32) {r : Int32} {z' : Ob} (hf : f_X7_kind z a1 a2 a3 = some (r, z')) : Cti l E yX7_kind wsX7_kind rm_X7_kind [.ref (E.ad 22 0), .int a1, .int a2, .int a3] (va_up σ 22 z) r (va_up σ 22 z') := by
  refine meet_i (cc := cX7_kind) (maxL := 8) (own := RX7) (by decide) rfl rfl (Nat.le_of_ble_eq_true rfl) ?_
  intro p e s m below meth c Z S hB fin hP hS ls hl
  have hx := S.1
  have hb := S.2.1
  have hl : lv_has ls 8 [(0, .ref (E.ad 22 0)), (1, .int a1), (2, .int a2), (3, .int a3)] := hl
  have hinX7 : ∀ w ∈ u_ws RX7 TX7 25, w ∈ wsX7_kind := by decide +kernel
  have fl7 := S.2.2.2.2 (.fieldLink RX7 7 "MownMazeModel" "state" "[I") (by decide +kernel)
  have hL49 : ∀ (n49 : Nat) (z : Ob) (x1 : Int32) (x2 : Int32) (x3 : Int32) (x4 : Int32) (x5 : Int32) (x6 : Int32) (H : Heap) (locs : List Loc) (ls : Array Slot), f_X7_kind_l49 n49 z x1 x2 x3 x4 x5 x6 = some (r, z') → va_P E.1 vwCl (GW E (va_up σ 22 z)) H → va_S (GA E) s.heap H locs → lv_has ls 8 [(0, .ref (E.ad 22 0)), (1, .int x1), (2, .int x2), (3, .int x3), (4, .int x4), (5, .int x5), (6, .int x6)] → W p l e rm_X7_kind s m ([.ref (E.ad 22 0), .int a1, .int a2, .int a3] : List Value).toArray below meth c H locs 0 0 Z (F0 m 49 ls []) := by
    intro n49
    induction n49 with
    | zero =>
      intro z x1 x2 x3 x4 x5 x6 H locs ls hf
      cases (show (none : Option _) = some _ from hf)
    | succ n49 ih49 =>
      have hB107 : ∀ (z : Ob) (x1 : Int32) (x2 : Int32) (x3 : Int32) (x5 : Int32) (x6 : Int32) (y0 : Int32) (H : Heap) (locs : List Loc) (ls : Array Slot), f_X7_kind_b107 (f_X7_kind_l49 n49) z x1 x2 x3 x5 x6 y0 = some (r, z') → va_P E.1 vwCl (GW E (va_up σ 22 z)) H → va_S (GA E) s.heap H locs → lv_has ls 8 [(0, .ref (E.ad 22 0)), (1, .int x1), (2, .int x2), (3, .int x3), (5, .int x5), (6, .int x6)] → W p l e rm_X7_kind s m ([.ref (E.ad 22 0), .int a1, .int a2, .int a3] : List Value).toArray below meth c H locs 0 0 Z (F0 m 107 ls [.int y0]) := by
        intro z x1 x2 x3 x5 x6 y0 H locs ls hf hP hS hl
        unfold f_X7_kind_b107 at hf
        refine lv_istore (lv' := [(4, .int y0), (0, .ref (E.ad 22 0)), (1, .int x1), (2, .int x2), (3, .int x3), (5, .int x5), (6, .int x6)]) hx hb dX7_kind_107 hl (by decide) rfl (fun ls hl => ?_)
        refine lv_iinc (v := x6 + (1 : Int32)) (lv' := [(6, .int (x6 + (1 : Int32))), (4, .int y0), (0, .ref (E.ad 22 0)), (1, .int x1), (2, .int x2), (3, .int x3), (5, .int x5)]) hx hb dX7_kind_109 hl (k := 6) rfl rfl (by decide) rfl (fun ls hl => ?_)
        refine lv_goto (tgt := 49) hx hb dX7_kind_112 (by decide) ?_
        exact ih49 z x1 x2 x3 y0 x5 (x6 + (1 : Int32)) _ _ _ hf hP hS (lv_sub hl [2, 3, 4, 5, 1, 6, 0] rfl)
      have hB91 : ∀ (z : Ob) (x1 : Int32) (x2 : Int32) (x3 : Int32) (x4 : Int32) (x6 : Int32) (x7 : Int32) (y0 : Int32) (H : Heap) (locs : List Loc) (ls : Array Slot), f_X7_kind_b91 (f_X7_kind_l49 n49) z x1 x2 x3 x4 x6 x7 y0 = some (r, z') → va_P E.1 vwCl (GW E (va_up σ 22 z)) H → va_S (GA E) s.heap H locs → lv_has ls 8 [(0, .ref (E.ad 22 0)), (1, .int x1), (2, .int x2), (3, .int x3), (4, .int x4), (6, .int x6), (7, .int x7)] → W p l e rm_X7_kind s m ([.ref (E.ad 22 0), .int a1, .int a2, .int a3] : List Value).toArray below meth c H locs 0 0 Z (F0 m 91 ls [.int y0]) := by
        intro z x1 x2 x3 x4 x6 x7 y0 H locs ls hf hP hS hl
        unfold f_X7_kind_b91 at hf
        refine lv_istore (lv' := [(5, .int y0), (0, .ref (E.ad 22 0)), (1, .int x1), (2, .int x2), (3, .int x3), (4, .int x4), (6, .int x6), (7, .int x7)]) hx hb dX7_kind_91 hl (by decide) rfl (fun ls hl => ?_)
        refine lv_iload hx hb dX7_kind_93 (lv_at hl 7 rfl) ?_
        refine lv_iload hx hb dX7_kind_95 (lv_at hl 5 rfl) ?_
        refine lv_icmp_le (tgt := 105) hx hb dX7_kind_97 (by decide) (fun c8 => ?_) (fun c8 => ?_)
        · have hf := if_t c8 hf
          refine lv_iload hx hb dX7_kind_105 (lv_at hl 5 rfl) ?_
          exact hB107 z x1 x2 x3 y0 x6 x4 _ _ _ hf hP hS (lv_sub hl [1, 2, 3, 4, 0, 6] rfl)
        · have hf := if_f c8 hf
          refine lv_iload hx hb dX7_kind_100 (lv_at hl 7 rfl) ?_
          refine lv_goto (tgt := 107) hx hb dX7_kind_102 (by decide) ?_
          exact hB107 z x1 x2 x3 y0 x6 x7 _ _ _ hf hP hS (lv_sub hl [1, 2, 3, 4, 0, 6] rfl)
      intro z x1 x2 x3 x4 x5 x6 H locs ls hf hP hS hl
      unfold f_X7_kind_l49 at hf
      refine lv_iload hx hb dX7_kind_49 (lv_at hl 6 rfl) ?_
      refine lv_iconst (v := 4) hx hb dX7_kind_51 (by decide) ?_
      refine lv_icmp_ge (tgt := 115) hx hb dX7_kind_52 (by decide) (fun c9 => ?_) (fun c9 => ?_)
      · have hf := if_t c9 hf
        refine lv_iload_n hx hb dX7_kind_115 rfl (lv_at hl 3 rfl) ?_
        refine lv_if_ne (tgt := 124) hx hb dX7_kind_116 (by decide) (fun c10 => ?_) (fun c10 => ?_)
        · have hf := if_f c10 hf
          refine lv_iload hx hb dX7_kind_124 (lv_at hl 4 rfl) ?_
          exact fin dX7_kind_126 (s1 hf) (by rw [(s2 hf)]) hP hS
        · have hf := if_t c10 hf
          refine lv_iload hx hb dX7_kind_119 (lv_at hl 5 rfl) ?_
          refine lv_goto (tgt := 126) hx hb dX7_kind_121 (by decide) ?_
          exact fin dX7_kind_126 (s1 hf) (by rw [(s2 hf)]) hP hS
      · have hf := if_f c9 hf
        refine lv_aload_n hx hb dX7_kind_55 rfl (lv_at hl 0 rfl) ?_
        refine g_get (v := .ref (E.ad 22 1)) S hB hinX7 hP m_22_0 rfl rfl 0 (by decide) fl7 rfl rfl dX7_kind_56 ?_
        refine lv_sipush (v := 290) hx hb dX7_kind_59 (by decide) ?_
        refine lv_iload_n hx hb dX7_kind_62 rfl (lv_at hl 1 rfl) ?_
        refine lv_iadd hx hb dX7_kind_63 ?_
        refine lv_iload hx hb dX7_kind_64 (lv_at hl 6 rfl) ?_
        obtain ⟨hv11, hf⟩ := ck_some hf
        refine g_iast (r := z 1) S hB hE hP hS m_22_1 rfl rfl (fun _ => rfl) hv11 (X' := (va_up σ 22 (ob z 1 (((290 : Int32) + x1).toNatClampNeg) x6))) (lens_put σ 22 _ _ _ _) dX7_kind_66 (fun H locs hP hS => ?_)
        refine lv_aload_n hx hb dX7_kind_67 rfl (lv_at hl 0 rfl) ?_
        refine lv_sipush (v := 265) hx hb dX7_kind_68 (by decide) ?_
        refine lv_iload_n hx hb dX7_kind_71 rfl (lv_at hl 2 rfl) ?_
        obtain ⟨q12, hq12, hf⟩ := bind_some hf
        refine callV_i (As := [.int (265 : Int32), .int x2]) (rest := []) S hB hP hS (C := RX7) (b := E.ad 22 0) (g_recv (o := 22) (d := 0) hB hP m_22_0 rfl rfl) (K_X7_daysGo l hE σ (ob z 1 (((290 : Int32) + x1).toNatClampNeg) x6) (265 : Int32) x2 hq12) (cwV 2 S.2.2.2.2 gX7_kind_X7_daysGo rfl rfl rfl (by decide +kernel) ⟨Nat.le_of_ble_eq_true rfl, Nat.le_of_ble_eq_true rfl⟩) rfl hl.1 rfl (Nat.le_of_ble_eq_true rfl) dX7_kind_72 ⟨Nat.zero_le _, Nat.zero_le _⟩ (fun H locs hP hS => ?_)
        refine lv_istore (lv' := [(7, .int q12.1), (0, .ref (E.ad 22 0)), (1, .int x1), (2, .int x2), (3, .int x3), (4, .int x4), (5, .int x5), (6, .int x6)]) hx hb dX7_kind_75 hl (by decide) rfl (fun ls hl => ?_)
        refine lv_iload hx hb dX7_kind_77 (lv_at hl 0 rfl) ?_
        refine lv_iload hx hb dX7_kind_79 (lv_at hl 5 rfl) ?_
        refine lv_icmp_le (tgt := 89) hx hb dX7_kind_81 (by decide) (fun c13 => ?_) (fun c13 => ?_)
        · have hf := if_t c13 hf
          refine lv_iload hx hb dX7_kind_89 (lv_at hl 6 rfl) ?_
          exact hB91 q12.2 x1 x2 x3 x4 x6 q12.1 x5 _ _ _ hf hP hS (lv_sub hl [1, 2, 3, 4, 5, 7, 0] rfl)
        · have hf := if_f c13 hf
          refine lv_iload hx hb dX7_kind_84 (lv_at hl 7 rfl) ?_
          refine lv_goto (tgt := 91) hx hb dX7_kind_86 (by decide) ?_
          exact hB91 q12.2 x1 x2 x3 x4 x6 q12.1 x6 _ _ _ hf hP hS (lv_sub hl [1, 2, 3, 4, 5, 7, 0] rfl)
  unfold f_X7_kind at hf
  refine lv_aload_n hx hb dX7_kind_0 rfl (lv_at hl 0 rfl) ?_
  refine lv_iload_n hx hb dX7_kind_1 rfl (lv_at hl 1 rfl) ?_
  obtain ⟨q1, hq1, hf⟩ := bind_some hf
  refine callV_i (As := [.int a1]) (rest := []) S hB hP hS (C := RX7) (b := E.ad 22 0) (g_recv (o := 22) (d := 0) hB hP m_22_0 rfl rfl) (K_X7_isGardener l hE σ z a1 hq1) (cwV 1 S.2.2.2.2 gX7_kind_X7_isGardener rfl rfl rfl (by decide +kernel) ⟨Nat.le_of_ble_eq_true rfl, Nat.le_of_ble_eq_true rfl⟩) rfl hl.1 rfl (Nat.le_of_ble_eq_true rfl) dX7_kind_2 ⟨Nat.zero_le _, Nat.zero_le _⟩ (fun H locs hP hS => ?_)
  refine lv_if_eq (tgt := 30) hx hb dX7_kind_5 (by decide) (fun c2 => ?_) (fun c2 => ?_)
  · have hf := if_t c2 hf
    refine lv_iconst (v := -1) hx hb dX7_kind_30 (by decide) ?_
    exact fin dX7_kind_31 (s1 hf) (by rw [(s2 hf)]) hP hS
  · have hf := if_f c2 hf
    refine lv_iload_n hx hb dX7_kind_8 rfl (lv_at hl 2 rfl) ?_
    refine lv_i2l hx hb dX7_kind_9 (v := a2.toInt64) rfl ?_
    refine lv_lconst (v := 0) hx hb dX7_kind_10 (by decide) ?_
    refine lv_ldc2 hx hb S.2.2.2.1 (S.2.2.2.2 (.constantLong RX7 194 (60)) (by decide +kernel)) dX7_kind_11 ?_
    obtain ⟨q3, hq3, hf⟩ := bind_some hf
    refine callS_i (As := [.long a2.toInt64, .long (0 : Int64), .long (60 : Int64)]) (rest := []) S hB hP hS (K_X7_in l hE (va_up σ 22 z) a2.toInt64 (0 : Int64) (60 : Int64) hq3) (va_cwS 3 S.2.2.2.2 gX7_kind_X7_in rfl rfl rfl (by decide +kernel) ⟨Nat.le_of_ble_eq_true rfl, Nat.le_of_ble_eq_true rfl⟩) rfl hl.1 rfl (Nat.le_of_ble_eq_true rfl) dX7_kind_14 ⟨Nat.zero_le _, Nat.zero_le _⟩ (fun H locs hP hS => ?_)
    refine lv_if_eq (tgt := 30) hx hb dX7_kind_17 (by decide) (fun c4 => ?_) (fun c4 => ?_)
    · have hf := if_t c4 hf
      refine lv_iconst (v := -1) hx hb dX7_kind_30 (by decide) ?_
      exact fin dX7_kind_31 (s1 hf) (by rw [(s2 hf)]) hP hS
    · have hf := if_f c4 hf
      refine lv_iload_n hx hb dX7_kind_20 rfl (lv_at hl 3 rfl) ?_
      refine lv_i2l hx hb dX7_kind_21 (v := a3.toInt64) rfl ?_
      refine lv_lconst (v := 0) hx hb dX7_kind_22 (by decide) ?_
      refine lv_lconst (v := 1) hx hb dX7_kind_23 (by decide) ?_
      obtain ⟨q5, hq5, hf⟩ := bind_some hf
      refine callS_i (As := [.long a3.toInt64, .long (0 : Int64), .long (1 : Int64)]) (rest := []) S hB hP hS (K_X7_in l hE (va_up σ 22 z) a3.toInt64 (0 : Int64) (1 : Int64) hq5) (va_cwS 3 S.2.2.2.2 gX7_kind_X7_in rfl rfl rfl (by decide +kernel) ⟨Nat.le_of_ble_eq_true rfl, Nat.le_of_ble_eq_true rfl⟩) rfl hl.1 rfl (Nat.le_of_ble_eq_true rfl) dX7_kind_24 ⟨Nat.zero_le _, Nat.zero_le _⟩ (fun H locs hP hS => ?_)
      refine lv_if_ne (tgt := 32) hx hb dX7_kind_27 (by decide) (fun c6 => ?_) (fun c6 => ?_)
      · have hf := if_f c6 hf
        refine lv_iconst (v := -1) hx hb dX7_kind_32 (by decide) ?_
        refine lv_istore (lv' := [(4, .int (-1 : Int32)), (0, .ref (E.ad 22 0)), (1, .int a1), (2, .int a2), (3, .int a3)]) hx hb dX7_kind_33 hl (by decide) rfl (fun ls hl => ?_)
        refine lv_iconst (v := 0) hx hb dX7_kind_35 (by decide) ?_
        refine lv_istore (lv' := [(5, .int (0 : Int32)), (4, .int (-1 : Int32)), (0, .ref (E.ad 22 0)), (1, .int a1), (2, .int a2), (3, .int a3)]) hx hb dX7_kind_36 hl (by decide) rfl (fun ls hl => ?_)
        refine lv_aload_n hx hb dX7_kind_38 rfl (lv_at hl 2 rfl) ?_
        refine lv_iconst (v := 0) hx hb dX7_kind_39 (by decide) ?_
        refine lv_sipush (v := 265) hx hb dX7_kind_40 (by decide) ?_
        obtain ⟨q7, hq7, hf⟩ := bind_some hf
        refine callV_v (As := [.int (0 : Int32), .int (265 : Int32)]) (rest := []) S hB hP hS (C := RX7) (b := E.ad 22 0) (g_recv (o := 22) (d := 0) hB hP m_22_0 rfl rfl) (K_X7_copies l hE σ z (0 : Int32) (265 : Int32) hq7) (cwV 2 S.2.2.2.2 gX7_kind_X7_copies rfl rfl rfl (by decide +kernel) ⟨Nat.le_of_ble_eq_true rfl, Nat.le_of_ble_eq_true rfl⟩) rfl hl.1 rfl (Nat.le_of_ble_eq_true rfl) dX7_kind_43 ⟨Nat.zero_le _, Nat.zero_le _⟩ (fun H locs hP hS => ?_)
        refine lv_iconst (v := 0) hx hb dX7_kind_46 (by decide) ?_
        refine lv_istore (lv' := [(6, .int (0 : Int32)), (5, .int (0 : Int32)), (4, .int (-1 : Int32)), (0, .ref (E.ad 22 0)), (1, .int a1), (2, .int a2), (3, .int a3)]) hx hb dX7_kind_47 hl (by decide) rfl (fun ls hl => ?_)
        exact hL49 FUEL q7 a1 a2 a3 (-1 : Int32) (0 : Int32) (0 : Int32) _ _ _ hf hP hS (lv_sub hl [3, 4, 5, 6, 2, 1, 0] rfl)
      · have hf := if_t c6 hf
        refine lv_iconst (v := -1) hx hb dX7_kind_30 (by decide) ?_
        exact fin dX7_kind_31 (s1 hf) (by rw [(s2 hf)]) hP hS
theorem KW_X7_kind (l : Launch) {E : En} (hE : Inj E) (X : Wd) (a1 : Int32) (a2 : Int32) (a3 : Int32) {r : Int32} {z' : Ob} (hf : f_X7_kind (X 22) a1 a2 a3 = some (r, z')) : Cti l E yX7_kind wsX7_kind rm_X7_kind [.ref (E.ad 22 0), .int a1, .int a2, .int a3] X r (va_up X 22 z') := by
  have h := K_X7_kind l hE X (X 22) a1 a2 a3 hf
  rw [lens_all] at h
  exact h
/-! X7_lowest -/
abbrev rm_X7_lowest : Room := { frames := 0, cells := 0, slots := 0, locals := 0 }
set_option maxHeartbeats 4000000 in
set_option maxRecDepth 100000 in
theorem K_X7_lowest (l : Launch) {E : En} (hE : Inj E) (X : Wd) (a0 : Int64) (a2 : Int64) (a4 : Int32) {r : Int64} (hf : f_X7_lowest a0 a2 a4 = some r) : Ctl l E yX7_lowest wsX7_lowest rm_X7_lowest [.long a0, .long a2, .int a4] X r X := by
  refine meet_l (cc := cX7_lowest) (maxL := 11) (own := RX7) (by decide) rfl rfl (Nat.le_of_ble_eq_true rfl) ?_
  intro p e s m below meth c Z S hB fin hP hS ls hl
  have hx := S.1
  have hb := S.2.1
  have hl : lv_has ls 11 [(0, .long a0), (2, .long a2), (4, .int a4)] := hl
  have hL6 : ∀ (n6 : Nat) (x0 : Int64) (x2 : Int64) (x4 : Int32) (x5 : Int64) (x7 : Int64) (H : Heap) (locs : List Loc) (ls : Array Slot), f_X7_lowest_l6 n6 x0 x2 x4 x5 x7 = some r → va_P E.1 vwCl (GW E X) H → va_S (GA E) s.heap H locs → lv_has ls 11 [(0, .long x0), (2, .long x2), (4, .int x4), (5, .long x5), (7, .long x7)] → W p l e rm_X7_lowest s m ([.long a0, .long a2, .int a4] : List Value).toArray below meth c H locs 0 0 Z (F0 m 6 ls []) := by
    intro n6
    induction n6 with
    | zero =>
      intro x0 x2 x4 x5 x7 H locs ls hf
      cases (show (none : Option _) = some _ from hf)
    | succ n6 ih6 =>
      intro x0 x2 x4 x5 x7 H locs ls hf hP hS hl
      unfold f_X7_lowest_l6 at hf
      refine lv_lload hx hb dX7_lowest_6 (lv_at hl 4 rfl) ?_
      refine lv_lconst (v := 0) hx hb dX7_lowest_8 (by decide) ?_
      refine W.lcmp hx hb dX7_lowest_9 ?_
      refine lv_if_eq (tgt := 31) hx hb dX7_lowest_10 (by decide) (fun c1 => ?_) (fun c1 => ?_)
      · have hf := if_t c1 hf
        refine lv_iload hx hb dX7_lowest_31 (lv_at hl 2 rfl) ?_
        refine lv_if_ne (tgt := 40) hx hb dX7_lowest_33 (by decide) (fun c2 => ?_) (fun c2 => ?_)
        · have hf := if_f c2 hf
          refine lv_lload_n hx hb dX7_lowest_40 rfl (lv_at hl 1 rfl) ?_
          refine lv_lload hx hb dX7_lowest_41 (lv_at hl 3 rfl) ?_
          obtain ⟨hv3, hf⟩ := cknl_some hf
          refine lv_ldiv hx hb dX7_lowest_43 hv3 ?_
          exact fin dX7_lowest_44 (s0 hf) rfl hP hS
        · have hf := if_t c2 hf
          refine lv_lload_n hx hb dX7_lowest_36 rfl (lv_at hl 0 rfl) ?_
          refine lv_goto (tgt := 41) hx hb dX7_lowest_37 (by decide) ?_
          refine lv_lload hx hb dX7_lowest_41 (lv_at hl 3 rfl) ?_
          obtain ⟨hv4, hf⟩ := cknl_some hf
          refine lv_ldiv hx hb dX7_lowest_43 hv4 ?_
          exact fin dX7_lowest_44 (s0 hf) rfl hP hS
      · have hf := if_f c1 hf
        refine lv_lload hx hb dX7_lowest_13 (lv_at hl 3 rfl) ?_
        refine lv_lload hx hb dX7_lowest_15 (lv_at hl 4 rfl) ?_
        obtain ⟨hv5, hf⟩ := cknl_some hf
        refine lv_lrem hx hb dX7_lowest_17 hv5 ?_
        refine lv_lstore (lv' := [(9, .long (x5 - x5 / x7 * x7)), (0, .long x0), (2, .long x2), (4, .int x4), (5, .long x5), (7, .long x7)]) hx hb dX7_lowest_18 hl (by decide) rfl (fun ls hl => ?_)
        refine lv_lload hx hb dX7_lowest_20 (lv_at hl 5 rfl) ?_
        refine lv_lstore (lv' := [(5, .long x7), (9, .long (x5 - x5 / x7 * x7)), (0, .long x0), (2, .long x2), (4, .int x4), (7, .long x7)]) hx hb dX7_lowest_22 hl (by decide) rfl (fun ls hl => ?_)
        refine lv_lload hx hb dX7_lowest_24 (lv_at hl 1 rfl) ?_
        refine lv_lstore (lv' := [(7, .long (x5 - x5 / x7 * x7)), (5, .long x7), (9, .long (x5 - x5 / x7 * x7)), (0, .long x0), (2, .long x2), (4, .int x4)]) hx hb dX7_lowest_26 hl (by decide) rfl (fun ls hl => ?_)
        refine lv_goto (tgt := 6) hx hb dX7_lowest_28 (by decide) ?_
        exact ih6 x0 x2 x4 x7 (x5 - x5 / x7 * x7) _ _ _ hf hP hS (lv_sub hl [3, 4, 5, 1, 0] rfl)
  unfold f_X7_lowest at hf
  refine lv_lload_n hx hb dX7_lowest_0 rfl (lv_at hl 0 rfl) ?_
  refine lv_lstore (lv' := [(5, .long a0), (0, .long a0), (2, .long a2), (4, .int a4)]) hx hb dX7_lowest_1 hl (by decide) rfl (fun ls hl => ?_)
  refine lv_lload_n hx hb dX7_lowest_3 rfl (lv_at hl 2 rfl) ?_
  refine lv_lstore (lv' := [(7, .long a2), (5, .long a0), (0, .long a0), (2, .long a2), (4, .int a4)]) hx hb dX7_lowest_4 hl (by decide) rfl (fun ls hl => ?_)
  exact hL6 FUEL a0 a2 a4 a0 a2 _ _ _ hf hP hS (lv_sub hl [2, 3, 4, 1, 0] rfl)
/-! X7_byRain -/
abbrev rm_X7_byRain : Room := { frames := 4, cells := 0, slots := 0, locals := 95 }
set_option maxHeartbeats 4000000 in
set_option maxRecDepth 100000 in
theorem K_X7_byRain (l : Launch) {E : En} (hE : Inj E) (σ : Wd) (z : Ob) (a1 : Int32) (a2 : Int32) (a3 : Int32) (a4 : Int32) {r : Int64} {z' : Ob} (hf : f_X7_byRain z a1 a2 a3 a4 = some (r, z')) : Ctl l E yX7_byRain wsX7_byRain rm_X7_byRain [.ref (E.ad 22 0), .int a1, .int a2, .int a3, .int a4] (va_up σ 22 z) r (va_up σ 22 z') := by
  refine meet_l (cc := cX7_byRain) (maxL := 14) (own := RX7) (by decide) rfl rfl (Nat.le_of_ble_eq_true rfl) ?_
  intro p e s m below meth c Z S hB fin hP hS ls hl
  have hx := S.1
  have hb := S.2.1
  have hl : lv_has ls 14 [(0, .ref (E.ad 22 0)), (1, .int a1), (2, .int a2), (3, .int a3), (4, .int a4)] := hl
  have hL32 : ∀ (n32 : Nat) (z : Ob) (x1 : Int32) (x2 : Int32) (x3 : Int32) (x4 : Int32) (x5 : Int64) (x7 : Int64) (x9 : Int32) (H : Heap) (locs : List Loc) (ls : Array Slot), f_X7_byRain_l32 n32 z x1 x2 x3 x4 x5 x7 x9 = some (r, z') → va_P E.1 vwCl (GW E (va_up σ 22 z)) H → va_S (GA E) s.heap H locs → lv_has ls 14 [(0, .ref (E.ad 22 0)), (1, .int x1), (2, .int x2), (3, .int x3), (4, .int x4), (5, .long x5), (7, .long x7), (9, .int x9)] → W p l e rm_X7_byRain s m ([.ref (E.ad 22 0), .int a1, .int a2, .int a3, .int a4] : List Value).toArray below meth c H locs 0 0 Z (F0 m 32 ls []) := by
    intro n32
    induction n32 with
    | zero =>
      intro z x1 x2 x3 x4 x5 x7 x9 H locs ls hf
      cases (show (none : Option _) = some _ from hf)
    | succ n32 ih32 =>
      have hB147 : ∀ (z : Ob) (x1 : Int32) (x2 : Int32) (x3 : Int32) (x4 : Int32) (x7 : Int64) (x9 : Int32) (y0 : Int32) (y1 : Int64) (y2 : Int64) (H : Heap) (locs : List Loc) (ls : Array Slot), f_X7_byRain_b147 (f_X7_byRain_l32 n32) z x1 x2 x3 x4 x7 x9 y0 y1 y2 = some (r, z') → va_P E.1 vwCl (GW E (va_up σ 22 z)) H → va_S (GA E) s.heap H locs → lv_has ls 14 [(0, .ref (E.ad 22 0)), (1, .int x1), (2, .int x2), (3, .int x3), (4, .int x4), (7, .long x7), (9, .int x9)] → W p l e rm_X7_byRain s m ([.ref (E.ad 22 0), .int a1, .int a2, .int a3, .int a4] : List Value).toArray below meth c H locs 0 0 Z (F0 m 147 ls [.int y0, .long y1, .long y2]) := by
        intro z x1 x2 x3 x4 x7 x9 y0 y1 y2 H locs ls hf hP hS hl
        unfold f_X7_byRain_b147 at hf
        refine lv_i2l hx hb dX7_byRain_147 (v := y0.toInt64) rfl ?_
        refine lv_lmul hx hb dX7_byRain_148 ?_
        refine lv_ladd hx hb dX7_byRain_149 ?_
        refine lv_lstore (lv' := [(5, .long (y2 + (y1 * y0.toInt64))), (0, .ref (E.ad 22 0)), (1, .int x1), (2, .int x2), (3, .int x3), (4, .int x4), (7, .long x7), (9, .int x9)]) hx hb dX7_byRain_150 hl (by decide) rfl (fun ls hl => ?_)
        refine lv_iinc (v := x9 + (1 : Int32)) (lv' := [(9, .int (x9 + (1 : Int32))), (5, .long (y2 + (y1 * y0.toInt64))), (0, .ref (E.ad 22 0)), (1, .int x1), (2, .int x2), (3, .int x3), (4, .int x4), (7, .long x7)]) hx hb dX7_byRain_152 hl (k := 7) rfl rfl (by decide) rfl (fun ls hl => ?_)
        refine lv_goto (tgt := 32) hx hb dX7_byRain_155 (by decide) ?_
        exact ih32 z x1 x2 x3 x4 (y2 + (y1 * y0.toInt64)) x7 (x9 + (1 : Int32)) _ _ _ hf hP hS (lv_sub hl [2, 3, 4, 5, 6, 1, 7, 0] rfl)
      have hL54 : ∀ (n54 : Nat) (z : Ob) (x1 : Int32) (x2 : Int32) (x3 : Int32) (x4 : Int32) (x5 : Int64) (x7 : Int64) (x9 : Int32) (x10 : Int64) (x12 : Int32) (H : Heap) (locs : List Loc) (ls : Array Slot), f_X7_byRain_l54 (f_X7_byRain_l32 n32) n54 z x1 x2 x3 x4 x5 x7 x9 x10 x12 = some (r, z') → va_P E.1 vwCl (GW E (va_up σ 22 z)) H → va_S (GA E) s.heap H locs → lv_has ls 14 [(0, .ref (E.ad 22 0)), (1, .int x1), (2, .int x2), (3, .int x3), (4, .int x4), (5, .long x5), (7, .long x7), (9, .int x9), (10, .long x10), (12, .int x12)] → W p l e rm_X7_byRain s m ([.ref (E.ad 22 0), .int a1, .int a2, .int a3, .int a4] : List Value).toArray below meth c H locs 0 0 Z (F0 m 54 ls []) := by
        intro n54
        induction n54 with
        | zero =>
          intro z x1 x2 x3 x4 x5 x7 x9 x10 x12 H locs ls hf
          cases (show (none : Option _) = some _ from hf)
        | succ n54 ih54 =>
          have hB95 : ∀ (z : Ob) (x1 : Int32) (x2 : Int32) (x3 : Int32) (x4 : Int32) (x5 : Int64) (x7 : Int64) (x9 : Int32) (x12 : Int32) (x13 : Int32) (y0 : Int64) (y1 : Int64) (H : Heap) (locs : List Loc) (ls : Array Slot), f_X7_byRain_b95 (f_X7_byRain_l32 n32) (f_X7_byRain_l54 (f_X7_byRain_l32 n32) n54) z x1 x2 x3 x4 x5 x7 x9 x12 x13 y0 y1 = some (r, z') → va_P E.1 vwCl (GW E (va_up σ 22 z)) H → va_S (GA E) s.heap H locs → lv_has ls 14 [(0, .ref (E.ad 22 0)), (1, .int x1), (2, .int x2), (3, .int x3), (4, .int x4), (5, .long x5), (7, .long x7), (9, .int x9), (12, .int x12), (13, .int x13)] → W p l e rm_X7_byRain s m ([.ref (E.ad 22 0), .int a1, .int a2, .int a3, .int a4] : List Value).toArray below meth c H locs 0 0 Z (F0 m 95 ls [.long y0, .long y1]) := by
            intro z x1 x2 x3 x4 x5 x7 x9 x12 x13 y0 y1 H locs ls hf hP hS hl
            unfold f_X7_byRain_b95 at hf
            refine lv_lmul hx hb dX7_byRain_95 ?_
            refine lv_lstore (lv' := [(10, .long (y1 * y0)), (0, .ref (E.ad 22 0)), (1, .int x1), (2, .int x2), (3, .int x3), (4, .int x4), (5, .long x5), (7, .long x7), (9, .int x9), (12, .int x12), (13, .int x13)]) hx hb dX7_byRain_96 hl (by decide) rfl (fun ls hl => ?_)
            refine lv_aload_n hx hb dX7_byRain_98 rfl (lv_at hl 1 rfl) ?_
            refine lv_sipush (v := 212) hx hb dX7_byRain_99 (by decide) ?_
            refine lv_iload hx hb dX7_byRain_102 (lv_at hl 10 rfl) ?_
            obtain ⟨q1, hq1, hf⟩ := bind_some hf
            refine callV_v (As := [.int (212 : Int32), .int x13]) (rest := []) S hB hP hS (C := RX7) (b := E.ad 22 0) (g_recv (o := 22) (d := 0) hB hP m_22_0 rfl rfl) (K_X7_dayOn l hE σ z (212 : Int32) x13 hq1) (cwV 2 S.2.2.2.2 gX7_byRain_X7_dayOn rfl rfl rfl (by decide +kernel) ⟨Nat.le_of_ble_eq_true rfl, Nat.le_of_ble_eq_true rfl⟩) rfl hl.1 rfl (Nat.le_of_ble_eq_true rfl) dX7_byRain_104 ⟨Nat.zero_le _, Nat.zero_le _⟩ (fun H locs hP hS => ?_)
            refine lv_iinc (v := x12 + (1 : Int32)) (lv' := [(12, .int (x12 + (1 : Int32))), (10, .long (y1 * y0)), (0, .ref (E.ad 22 0)), (1, .int x1), (2, .int x2), (3, .int x3), (4, .int x4), (5, .long x5), (7, .long x7), (9, .int x9), (13, .int x13)]) hx hb dX7_byRain_107 hl (k := 9) rfl rfl (by decide) rfl (fun ls hl => ?_)
            refine lv_goto (tgt := 54) hx hb dX7_byRain_110 (by decide) ?_
            exact ih54 q1 x1 x2 x3 x4 x5 x7 x9 (y1 * y0) (x12 + (1 : Int32)) _ _ _ hf hP hS (lv_sub hl [2, 3, 4, 5, 6, 7, 8, 9, 1, 0] rfl)
          have hB76 : ∀ (z : Ob) (x1 : Int32) (x2 : Int32) (x3 : Int32) (x4 : Int32) (x5 : Int64) (x7 : Int64) (x9 : Int32) (x10 : Int64) (x12 : Int32) (y0 : Int32) (H : Heap) (locs : List Loc) (ls : Array Slot), f_X7_byRain_b76 (f_X7_byRain_l32 n32) (f_X7_byRain_l54 (f_X7_byRain_l32 n32) n54) z x1 x2 x3 x4 x5 x7 x9 x10 x12 y0 = some (r, z') → va_P E.1 vwCl (GW E (va_up σ 22 z)) H → va_S (GA E) s.heap H locs → lv_has ls 14 [(0, .ref (E.ad 22 0)), (1, .int x1), (2, .int x2), (3, .int x3), (4, .int x4), (5, .long x5), (7, .long x7), (9, .int x9), (10, .long x10), (12, .int x12)] → W p l e rm_X7_byRain s m ([.ref (E.ad 22 0), .int a1, .int a2, .int a3, .int a4] : List Value).toArray below meth c H locs 0 0 Z (F0 m 76 ls [.int y0]) := by
            intro z x1 x2 x3 x4 x5 x7 x9 x10 x12 y0 H locs ls hf hP hS hl
            unfold f_X7_byRain_b76 at hf
            refine lv_istore (lv' := [(13, .int y0), (0, .ref (E.ad 22 0)), (1, .int x1), (2, .int x2), (3, .int x3), (4, .int x4), (5, .long x5), (7, .long x7), (9, .int x9), (10, .long x10), (12, .int x12)]) hx hb dX7_byRain_76 hl (by decide) rfl (fun ls hl => ?_)
            refine lv_lload hx hb dX7_byRain_78 (lv_at hl 9 rfl) ?_
            refine lv_iload hx hb dX7_byRain_80 (lv_at hl 0 rfl) ?_
            refine lv_if_eq (tgt := 90) hx hb dX7_byRain_82 (by decide) (fun c2 => ?_) (fun c2 => ?_)
            · have hf := if_t c2 hf
              refine lv_bipush (v := 10) hx hb dX7_byRain_90 (by decide) ?_
              refine lv_iload_n hx hb dX7_byRain_92 rfl (lv_at hl 2 rfl) ?_
              refine lv_isub hx hb dX7_byRain_93 ?_
              refine lv_i2l hx hb dX7_byRain_94 (v := ((10 : Int32) - x1).toInt64) rfl ?_
              exact hB95 z x1 x2 x3 x4 x5 x7 x9 x12 y0 (((10 : Int32) - x1).toInt64) x10 _ _ _ hf hP hS (lv_sub hl [1, 2, 3, 4, 5, 6, 7, 8, 10, 0] rfl)
            · have hf := if_f c2 hf
              refine lv_iload_n hx hb dX7_byRain_85 rfl (lv_at hl 2 rfl) ?_
              refine lv_i2l hx hb dX7_byRain_86 (v := x1.toInt64) rfl ?_
              refine lv_goto (tgt := 95) hx hb dX7_byRain_87 (by decide) ?_
              exact hB95 z x1 x2 x3 x4 x5 x7 x9 x12 y0 x1.toInt64 x10 _ _ _ hf hP hS (lv_sub hl [1, 2, 3, 4, 5, 6, 7, 8, 10, 0] rfl)
          intro z x1 x2 x3 x4 x5 x7 x9 x10 x12 H locs ls hf hP hS hl
          unfold f_X7_byRain_l54 at hf
          refine lv_iload hx hb dX7_byRain_54 (lv_at hl 9 rfl) ?_
          refine lv_iload_n hx hb dX7_byRain_56 rfl (lv_at hl 3 rfl) ?_
          refine lv_icmp_ge (tgt := 113) hx hb dX7_byRain_57 (by decide) (fun c3 => ?_) (fun c3 => ?_)
          · have hf := if_t c3 hf
            refine lv_aload_n hx hb dX7_byRain_113 rfl (lv_at hl 0 rfl) ?_
            refine lv_sipush (v := 212) hx hb dX7_byRain_114 (by decide) ?_
            refine lv_iconst (v := 1) hx hb dX7_byRain_117 (by decide) ?_
            obtain ⟨q4, hq4, hf⟩ := bind_some hf
            refine callV_i (As := [.int (212 : Int32), .int (1 : Int32)]) (rest := []) S hB hP hS (C := RX7) (b := E.ad 22 0) (g_recv (o := 22) (d := 0) hB hP m_22_0 rfl rfl) (K_X7_guestsOn l hE σ z (212 : Int32) (1 : Int32) hq4) (cwV 2 S.2.2.2.2 gX7_byRain_X7_guestsOn rfl rfl rfl (by decide +kernel) ⟨Nat.le_of_ble_eq_true rfl, Nat.le_of_ble_eq_true rfl⟩) rfl hl.1 rfl (Nat.le_of_ble_eq_true rfl) dX7_byRain_118 ⟨Nat.zero_le _, Nat.zero_le _⟩ (fun H locs hP hS => ?_)
            refine lv_istore (lv' := [(12, .int q4), (0, .ref (E.ad 22 0)), (1, .int x1), (2, .int x2), (3, .int x3), (4, .int x4), (5, .long x5), (7, .long x7), (9, .int x9), (10, .long x10)]) hx hb dX7_byRain_121 hl (by decide) rfl (fun ls hl => ?_)
            refine lv_lload hx hb dX7_byRain_123 (lv_at hl 6 rfl) ?_
            refine lv_lload hx hb dX7_byRain_125 (lv_at hl 9 rfl) ?_
            refine lv_iload_n hx hb dX7_byRain_127 rfl (lv_at hl 3 rfl) ?_
            refine lv_bipush (v := -4) hx hb dX7_byRain_128 (by decide) ?_
            refine lv_icmp_ne (tgt := 141) hx hb dX7_byRain_130 (by decide) (fun c5 => ?_) (fun c5 => ?_)
            · have hf := if_f c5 hf
              refine lv_iload hx hb dX7_byRain_141 (lv_at hl 0 rfl) ?_
              refine lv_iload_n hx hb dX7_byRain_143 rfl (lv_at hl 3 rfl) ?_
              refine lv_ishr hx hb dX7_byRain_144 ?_
              refine lv_iconst (v := 1) hx hb dX7_byRain_145 (by decide) ?_
              refine lv_iand hx hb dX7_byRain_146 ?_
              exact hB147 z x1 x2 x3 x4 x7 x9 ((q4 >>> (x2 &&& 31)) &&& (1 : Int32)) x10 x5 _ _ _ hf hP hS (lv_sub hl [1, 2, 3, 4, 5, 7, 8] rfl)
            · have hf := if_t c5 hf
              refine lv_iload hx hb dX7_byRain_133 (lv_at hl 0 rfl) ?_
              obtain ⟨q6, hq6, hf⟩ := bind_some hf
              refine callS_i (As := [.int q4]) (rest := [.long x10, .long x5]) S hB hP hS (K_X7_bitsOf l hE (va_up σ 22 z) q4 hq6) (va_cwS 1 S.2.2.2.2 gX7_byRain_X7_bitsOf rfl rfl rfl (by decide +kernel) ⟨Nat.le_of_ble_eq_true rfl, Nat.le_of_ble_eq_true rfl⟩) rfl hl.1 rfl (Nat.le_of_ble_eq_true rfl) dX7_byRain_135 ⟨Nat.zero_le _, Nat.zero_le _⟩ (fun H locs hP hS => ?_)
              refine lv_goto (tgt := 147) hx hb dX7_byRain_138 (by decide) ?_
              exact hB147 z x1 x2 x3 x4 x7 x9 q6 x10 x5 _ _ _ hf hP hS (lv_sub hl [1, 2, 3, 4, 5, 7, 8] rfl)
          · have hf := if_f c3 hf
            refine lv_iload hx hb dX7_byRain_60 (lv_at hl 7 rfl) ?_
            refine lv_iload hx hb dX7_byRain_62 (lv_at hl 9 rfl) ?_
            refine lv_ishr hx hb dX7_byRain_64 ?_
            refine lv_iconst (v := 1) hx hb dX7_byRain_65 (by decide) ?_
            refine lv_iand hx hb dX7_byRain_66 ?_
            refine lv_iconst (v := 1) hx hb dX7_byRain_67 (by decide) ?_
            refine lv_icmp_ne (tgt := 75) hx hb dX7_byRain_68 (by decide) (fun c7 => ?_) (fun c7 => ?_)
            · have hf := if_f c7 hf
              refine lv_iconst (v := 0) hx hb dX7_byRain_75 (by decide) ?_
              exact hB76 z x1 x2 x3 x4 x5 x7 x9 x10 x12 (0 : Int32) _ _ _ hf hP hS (lv_sub hl [0, 1, 2, 3, 4, 5, 6, 7, 8, 9] rfl)
            · have hf := if_t c7 hf
              refine lv_iconst (v := 1) hx hb dX7_byRain_71 (by decide) ?_
              refine lv_goto (tgt := 76) hx hb dX7_byRain_72 (by decide) ?_
              exact hB76 z x1 x2 x3 x4 x5 x7 x9 x10 x12 (1 : Int32) _ _ _ hf hP hS (lv_sub hl [0, 1, 2, 3, 4, 5, 6, 7, 8, 9] rfl)
      intro z x1 x2 x3 x4 x5 x7 x9 H locs ls hf hP hS hl
      unfold f_X7_byRain_l32 at hf
      refine lv_iload hx hb dX7_byRain_32 (lv_at hl 7 rfl) ?_
      refine lv_iconst (v := 1) hx hb dX7_byRain_34 (by decide) ?_
      refine lv_iload_n hx hb dX7_byRain_35 rfl (lv_at hl 3 rfl) ?_
      refine lv_ishl hx hb dX7_byRain_36 ?_
      refine lv_icmp_ge (tgt := 158) hx hb dX7_byRain_37 (by decide) (fun c8 => ?_) (fun c8 => ?_)
      · have hf := if_t c8 hf
        refine lv_lload hx hb dX7_byRain_158 (lv_at hl 5 rfl) ?_
        refine lv_lload hx hb dX7_byRain_160 (lv_at hl 6 rfl) ?_
        refine lv_iload hx hb dX7_byRain_162 (lv_at hl 4 rfl) ?_
        obtain ⟨q9, hq9, hf⟩ := bind_some hf
        refine callS_l (As := [.long x5, .long x7, .int x4]) (rest := []) S hB hP hS (K_X7_lowest l hE (va_up σ 22 z) x5 x7 x4 hq9) (va_cwS 3 S.2.2.2.2 gX7_byRain_X7_lowest rfl rfl rfl (by decide +kernel) ⟨Nat.le_of_ble_eq_true rfl, Nat.le_of_ble_eq_true rfl⟩) rfl hl.1 rfl (Nat.le_of_ble_eq_true rfl) dX7_byRain_164 ⟨Nat.zero_le _, Nat.zero_le _⟩ (fun H locs hP hS => ?_)
        exact fin dX7_byRain_167 (s1 hf) (by rw [(s2 hf)]) hP hS
      · have hf := if_f c8 hf
        refine lv_lconst (v := 1) hx hb dX7_byRain_40 (by decide) ?_
        refine lv_lstore (lv' := [(10, .long (1 : Int64)), (0, .ref (E.ad 22 0)), (1, .int x1), (2, .int x2), (3, .int x3), (4, .int x4), (5, .long x5), (7, .long x7), (9, .int x9)]) hx hb dX7_byRain_41 hl (by decide) rfl (fun ls hl => ?_)
        refine lv_aload_n hx hb dX7_byRain_43 rfl (lv_at hl 1 rfl) ?_
        refine lv_iconst (v := 0) hx hb dX7_byRain_44 (by decide) ?_
        refine lv_sipush (v := 212) hx hb dX7_byRain_45 (by decide) ?_
        obtain ⟨q10, hq10, hf⟩ := bind_some hf
        refine callV_v (As := [.int (0 : Int32), .int (212 : Int32)]) (rest := []) S hB hP hS (C := RX7) (b := E.ad 22 0) (g_recv (o := 22) (d := 0) hB hP m_22_0 rfl rfl) (K_X7_copies l hE σ z (0 : Int32) (212 : Int32) hq10) (cwV 2 S.2.2.2.2 gX7_byRain_X7_copies rfl rfl rfl (by decide +kernel) ⟨Nat.le_of_ble_eq_true rfl, Nat.le_of_ble_eq_true rfl⟩) rfl hl.1 rfl (Nat.le_of_ble_eq_true rfl) dX7_byRain_48 ⟨Nat.zero_le _, Nat.zero_le _⟩ (fun H locs hP hS => ?_)
        refine lv_iconst (v := 0) hx hb dX7_byRain_51 (by decide) ?_
        refine lv_istore (lv' := [(12, .int (0 : Int32)), (10, .long (1 : Int64)), (0, .ref (E.ad 22 0)), (1, .int x1), (2, .int x2), (3, .int x3), (4, .int x4), (5, .long x5), (7, .long x7), (9, .int x9)]) hx hb dX7_byRain_52 hl (by decide) rfl (fun ls hl => ?_)
        exact hL54 FUEL q10 x1 x2 x3 x4 x5 x7 x9 (1 : Int64) (0 : Int32) _ _ _ hf hP hS (lv_sub hl [2, 3, 4, 5, 6, 7, 8, 9, 1, 0] rfl)
  have hL9 : ∀ (n9 : Nat) (z : Ob) (x1 : Int32) (x2 : Int32) (x3 : Int32) (x4 : Int32) (x5 : Int64) (x7 : Int64) (x9 : Int32) (H : Heap) (locs : List Loc) (ls : Array Slot), f_X7_byRain_l9 n9 z x1 x2 x3 x4 x5 x7 x9 = some (r, z') → va_P E.1 vwCl (GW E (va_up σ 22 z)) H → va_S (GA E) s.heap H locs → lv_has ls 14 [(0, .ref (E.ad 22 0)), (1, .int x1), (2, .int x2), (3, .int x3), (4, .int x4), (5, .long x5), (7, .long x7), (9, .int x9)] → W p l e rm_X7_byRain s m ([.ref (E.ad 22 0), .int a1, .int a2, .int a3, .int a4] : List Value).toArray below meth c H locs 0 0 Z (F0 m 9 ls []) := by
    intro n9
    induction n9 with
    | zero =>
      intro z x1 x2 x3 x4 x5 x7 x9 H locs ls hf
      cases (show (none : Option _) = some _ from hf)
    | succ n9 ih9 =>
      intro z x1 x2 x3 x4 x5 x7 x9 H locs ls hf hP hS hl
      unfold f_X7_byRain_l9 at hf
      refine lv_iload hx hb dX7_byRain_9 (lv_at hl 7 rfl) ?_
      refine lv_iload_n hx hb dX7_byRain_11 rfl (lv_at hl 3 rfl) ?_
      refine lv_icmp_ge (tgt := 29) hx hb dX7_byRain_12 (by decide) (fun c11 => ?_) (fun c11 => ?_)
      · have hf := if_t c11 hf
        refine lv_iconst (v := 0) hx hb dX7_byRain_29 (by decide) ?_
        refine lv_istore (lv' := [(9, .int (0 : Int32)), (0, .ref (E.ad 22 0)), (1, .int x1), (2, .int x2), (3, .int x3), (4, .int x4), (5, .long x5), (7, .long x7)]) hx hb dX7_byRain_30 hl (by decide) rfl (fun ls hl => ?_)
        exact hL32 FUEL z x1 x2 x3 x4 x5 x7 (0 : Int32) _ _ _ hf hP hS (lv_sub hl [1, 2, 3, 4, 5, 6, 7, 0] rfl)
      · have hf := if_f c11 hf
        refine lv_lload hx hb dX7_byRain_15 (lv_at hl 6 rfl) ?_
        refine lv_ldc2 hx hb S.2.2.2.1 (S.2.2.2.2 (.constantLong RX7 208 (10)) (by decide +kernel)) dX7_byRain_17 ?_
        refine lv_lmul hx hb dX7_byRain_20 ?_
        refine lv_lstore (lv' := [(7, .long (x7 * (10 : Int64))), (0, .ref (E.ad 22 0)), (1, .int x1), (2, .int x2), (3, .int x3), (4, .int x4), (5, .long x5), (9, .int x9)]) hx hb dX7_byRain_21 hl (by decide) rfl (fun ls hl => ?_)
        refine lv_iinc (v := x9 + (1 : Int32)) (lv' := [(9, .int (x9 + (1 : Int32))), (7, .long (x7 * (10 : Int64))), (0, .ref (E.ad 22 0)), (1, .int x1), (2, .int x2), (3, .int x3), (4, .int x4), (5, .long x5)]) hx hb dX7_byRain_23 hl (k := 7) rfl rfl (by decide) rfl (fun ls hl => ?_)
        refine lv_goto (tgt := 9) hx hb dX7_byRain_26 (by decide) ?_
        exact ih9 z x1 x2 x3 x4 x5 (x7 * (10 : Int64)) (x9 + (1 : Int32)) _ _ _ hf hP hS (lv_sub hl [2, 3, 4, 5, 6, 7, 1, 0] rfl)
  unfold f_X7_byRain at hf
  refine lv_lconst (v := 0) hx hb dX7_byRain_0 (by decide) ?_
  refine lv_lstore (lv' := [(5, .long (0 : Int64)), (0, .ref (E.ad 22 0)), (1, .int a1), (2, .int a2), (3, .int a3), (4, .int a4)]) hx hb dX7_byRain_1 hl (by decide) rfl (fun ls hl => ?_)
  refine lv_lconst (v := 1) hx hb dX7_byRain_3 (by decide) ?_
  refine lv_lstore (lv' := [(7, .long (1 : Int64)), (5, .long (0 : Int64)), (0, .ref (E.ad 22 0)), (1, .int a1), (2, .int a2), (3, .int a3), (4, .int a4)]) hx hb dX7_byRain_4 hl (by decide) rfl (fun ls hl => ?_)
  refine lv_iconst (v := 0) hx hb dX7_byRain_6 (by decide) ?_
  refine lv_istore (lv' := [(9, .int (0 : Int32)), (7, .long (1 : Int64)), (5, .long (0 : Int64)), (0, .ref (E.ad 22 0)), (1, .int a1), (2, .int a2), (3, .int a3), (4, .int a4)]) hx hb dX7_byRain_7 hl (by decide) rfl (fun ls hl => ?_)
  exact hL9 FUEL z a1 a2 a3 a4 (0 : Int64) (1 : Int64) (0 : Int32) _ _ _ hf hP hS (lv_sub hl [3, 4, 5, 6, 7, 2, 1, 0] rfl)
theorem KW_X7_byRain (l : Launch) {E : En} (hE : Inj E) (X : Wd) (a1 : Int32) (a2 : Int32) (a3 : Int32) (a4 : Int32) {r : Int64} {z' : Ob} (hf : f_X7_byRain (X 22) a1 a2 a3 a4 = some (r, z')) : Ctl l E yX7_byRain wsX7_byRain rm_X7_byRain [.ref (E.ad 22 0), .int a1, .int a2, .int a3, .int a4] X r (va_up X 22 z') := by
  have h := K_X7_byRain l hE X (X 22) a1 a2 a3 a4 hf
  rw [lens_all] at h
  exact h
/-! X7_luck -/
abbrev rm_X7_luck : Room := { frames := 5, cells := 0, slots := 0, locals := 128 }
set_option maxHeartbeats 4000000 in
set_option maxRecDepth 100000 in
theorem K_X7_luck (l : Launch) {E : En} (hE : Inj E) (σ : Wd) (z : Ob) (a1 : Int32) (a2 : Int32) (a3 : Int32) (a4 : Int32) {r : Int64} {z' : Ob} (hf : f_X7_luck z a1 a2 a3 a4 = some (r, z')) : Ctl l E yX7_luck wsX7_luck rm_X7_luck [.ref (E.ad 22 0), .int a1, .int a2, .int a3, .int a4] (va_up σ 22 z) r (va_up σ 22 z') := by
  refine meet_l (cc := cX7_luck) (maxL := 5) (own := RX7) (by decide) rfl rfl (Nat.le_of_ble_eq_true rfl) ?_
  intro p e s m below meth c Z S hB fin hP hS ls hl
  have hx := S.1
  have hb := S.2.1
  have hl : lv_has ls 5 [(0, .ref (E.ad 22 0)), (1, .int a1), (2, .int a2), (3, .int a3), (4, .int a4)] := hl
  unfold f_X7_luck at hf
  refine lv_iload_n hx hb dX7_luck_0 rfl (lv_at hl 1 rfl) ?_
  refine lv_i2l hx hb dX7_luck_1 (v := a1.toInt64) rfl ?_
  refine lv_lconst (v := 0) hx hb dX7_luck_2 (by decide) ?_
  refine lv_ldc2 hx hb S.2.2.2.1 (S.2.2.2.2 (.constantLong RX7 208 (10)) (by decide +kernel)) dX7_luck_3 ?_
  obtain ⟨q1, hq1, hf⟩ := bind_some hf
  refine callS_i (As := [.long a1.toInt64, .long (0 : Int64), .long (10 : Int64)]) (rest := []) S hB hP hS (K_X7_in l hE (va_up σ 22 z) a1.toInt64 (0 : Int64) (10 : Int64) hq1) (va_cwS 3 S.2.2.2.2 gX7_luck_X7_in rfl rfl rfl (by decide +kernel) ⟨Nat.le_of_ble_eq_true rfl, Nat.le_of_ble_eq_true rfl⟩) rfl hl.1 rfl (Nat.le_of_ble_eq_true rfl) dX7_luck_6 ⟨Nat.zero_le _, Nat.zero_le _⟩ (fun H locs hP hS => ?_)
  refine lv_if_eq (tgt := 55) hx hb dX7_luck_9 (by decide) (fun c2 => ?_) (fun c2 => ?_)
  · have hf := if_t c2 hf
    refine lv_ldc2 hx hb S.2.2.2.1 (S.2.2.2.2 (.constantLong RX7 220 (-1)) (by decide +kernel)) dX7_luck_55 ?_
    exact fin dX7_luck_58 (s1 hf) (by rw [(s2 hf)]) hP hS
  · have hf := if_f c2 hf
    refine lv_aload_n hx hb dX7_luck_12 rfl (lv_at hl 0 rfl) ?_
    refine lv_iload_n hx hb dX7_luck_13 rfl (lv_at hl 2 rfl) ?_
    obtain ⟨q3, hq3, hf⟩ := bind_some hf
    refine callV_i (As := [.int a2]) (rest := []) S hB hP hS (C := RX7) (b := E.ad 22 0) (g_recv (o := 22) (d := 0) hB hP m_22_0 rfl rfl) (K_X7_isGuest l hE σ z a2 hq3) (cwV 1 S.2.2.2.2 gX7_luck_X7_isGuest rfl rfl rfl (by decide +kernel) ⟨Nat.le_of_ble_eq_true rfl, Nat.le_of_ble_eq_true rfl⟩) rfl hl.1 rfl (Nat.le_of_ble_eq_true rfl) dX7_luck_14 ⟨Nat.zero_le _, Nat.zero_le _⟩ (fun H locs hP hS => ?_)
    refine lv_if_eq (tgt := 55) hx hb dX7_luck_17 (by decide) (fun c4 => ?_) (fun c4 => ?_)
    · have hf := if_t c4 hf
      refine lv_ldc2 hx hb S.2.2.2.1 (S.2.2.2.2 (.constantLong RX7 220 (-1)) (by decide +kernel)) dX7_luck_55 ?_
      exact fin dX7_luck_58 (s1 hf) (by rw [(s2 hf)]) hP hS
    · have hf := if_f c4 hf
      refine lv_iload_n hx hb dX7_luck_20 rfl (lv_at hl 3 rfl) ?_
      refine lv_i2l hx hb dX7_luck_21 (v := a3.toInt64) rfl ?_
      refine lv_lconst (v := 0) hx hb dX7_luck_22 (by decide) ?_
      refine lv_ldc2 hx hb S.2.2.2.1 (S.2.2.2.2 (.constantLong RX7 214 (8)) (by decide +kernel)) dX7_luck_23 ?_
      obtain ⟨q5, hq5, hf⟩ := bind_some hf
      refine callS_i (As := [.long a3.toInt64, .long (0 : Int64), .long (8 : Int64)]) (rest := []) S hB hP hS (K_X7_in l hE (va_up σ 22 z) a3.toInt64 (0 : Int64) (8 : Int64) hq5) (va_cwS 3 S.2.2.2.2 gX7_luck_X7_in rfl rfl rfl (by decide +kernel) ⟨Nat.le_of_ble_eq_true rfl, Nat.le_of_ble_eq_true rfl⟩) rfl hl.1 rfl (Nat.le_of_ble_eq_true rfl) dX7_luck_26 ⟨Nat.zero_le _, Nat.zero_le _⟩ (fun H locs hP hS => ?_)
      refine lv_if_eq (tgt := 55) hx hb dX7_luck_29 (by decide) (fun c6 => ?_) (fun c6 => ?_)
      · have hf := if_t c6 hf
        refine lv_ldc2 hx hb S.2.2.2.1 (S.2.2.2.2 (.constantLong RX7 220 (-1)) (by decide +kernel)) dX7_luck_55 ?_
        exact fin dX7_luck_58 (s1 hf) (by rw [(s2 hf)]) hP hS
      · have hf := if_f c6 hf
        refine lv_iload hx hb dX7_luck_32 (lv_at hl 4 rfl) ?_
        refine lv_i2l hx hb dX7_luck_34 (v := a4.toInt64) rfl ?_
        refine lv_lconst (v := 0) hx hb dX7_luck_35 (by decide) ?_
        refine lv_lconst (v := 1) hx hb dX7_luck_36 (by decide) ?_
        obtain ⟨q7, hq7, hf⟩ := bind_some hf
        refine callS_i (As := [.long a4.toInt64, .long (0 : Int64), .long (1 : Int64)]) (rest := []) S hB hP hS (K_X7_in l hE (va_up σ 22 z) a4.toInt64 (0 : Int64) (1 : Int64) hq7) (va_cwS 3 S.2.2.2.2 gX7_luck_X7_in rfl rfl rfl (by decide +kernel) ⟨Nat.le_of_ble_eq_true rfl, Nat.le_of_ble_eq_true rfl⟩) rfl hl.1 rfl (Nat.le_of_ble_eq_true rfl) dX7_luck_37 ⟨Nat.zero_le _, Nat.zero_le _⟩ (fun H locs hP hS => ?_)
        refine lv_if_eq (tgt := 55) hx hb dX7_luck_40 (by decide) (fun c8 => ?_) (fun c8 => ?_)
        · have hf := if_t c8 hf
          refine lv_ldc2 hx hb S.2.2.2.1 (S.2.2.2.2 (.constantLong RX7 220 (-1)) (by decide +kernel)) dX7_luck_55 ?_
          exact fin dX7_luck_58 (s1 hf) (by rw [(s2 hf)]) hP hS
        · have hf := if_f c8 hf
          refine lv_aload_n hx hb dX7_luck_43 rfl (lv_at hl 0 rfl) ?_
          refine lv_iload_n hx hb dX7_luck_44 rfl (lv_at hl 1 rfl) ?_
          refine lv_iload_n hx hb dX7_luck_45 rfl (lv_at hl 2 rfl) ?_
          refine lv_iload_n hx hb dX7_luck_46 rfl (lv_at hl 3 rfl) ?_
          refine lv_iload hx hb dX7_luck_47 (lv_at hl 4 rfl) ?_
          obtain ⟨q9, hq9, hf⟩ := bind_some hf
          refine callV_l (As := [.int a1, .int a2, .int a3, .int a4]) (rest := []) S hB hP hS (C := RX7) (b := E.ad 22 0) (g_recv (o := 22) (d := 0) hB hP m_22_0 rfl rfl) (K_X7_byRain l hE σ z a1 a2 a3 a4 hq9) (cwV 4 S.2.2.2.2 gX7_luck_X7_byRain rfl rfl rfl (by decide +kernel) ⟨Nat.le_of_ble_eq_true rfl, Nat.le_of_ble_eq_true rfl⟩) rfl hl.1 rfl (Nat.le_of_ble_eq_true rfl) dX7_luck_49 ⟨Nat.zero_le _, Nat.zero_le _⟩ (fun H locs hP hS => ?_)
          refine lv_goto (tgt := 58) hx hb dX7_luck_52 (by decide) ?_
          exact fin dX7_luck_58 (s1 hf) (by rw [(s2 hf)]) hP hS
theorem KW_X7_luck (l : Launch) {E : En} (hE : Inj E) (X : Wd) (a1 : Int32) (a2 : Int32) (a3 : Int32) (a4 : Int32) {r : Int64} {z' : Ob} (hf : f_X7_luck (X 22) a1 a2 a3 a4 = some (r, z')) : Ctl l E yX7_luck wsX7_luck rm_X7_luck [.ref (E.ad 22 0), .int a1, .int a2, .int a3, .int a4] X r (va_up X 22 z') := by
  have h := K_X7_luck l hE X (X 22) a1 a2 a3 a4 hf
  rw [lens_all] at h
  exact h
/-! X7_mean -/
abbrev rm_X7_mean : Room := { frames := 5, cells := 0, slots := 0, locals := 128 }
set_option maxHeartbeats 4000000 in
set_option maxRecDepth 100000 in
theorem K_X7_mean (l : Launch) {E : En} (hE : Inj E) (σ : Wd) (z : Ob) (a1 : Int32) (a2 : Int32) (a3 : Int32) {r : Int64} {z' : Ob} (hf : f_X7_mean z a1 a2 a3 = some (r, z')) : Ctl l E yX7_mean wsX7_mean rm_X7_mean [.ref (E.ad 22 0), .int a1, .int a2, .int a3] (va_up σ 22 z) r (va_up σ 22 z') := by
  refine meet_l (cc := cX7_mean) (maxL := 4) (own := RX7) (by decide) rfl rfl (Nat.le_of_ble_eq_true rfl) ?_
  intro p e s m below meth c Z S hB fin hP hS ls hl
  have hx := S.1
  have hb := S.2.1
  have hl : lv_has ls 4 [(0, .ref (E.ad 22 0)), (1, .int a1), (2, .int a2), (3, .int a3)] := hl
  unfold f_X7_mean at hf
  refine lv_iload_n hx hb dX7_mean_0 rfl (lv_at hl 1 rfl) ?_
  refine lv_i2l hx hb dX7_mean_1 (v := a1.toInt64) rfl ?_
  refine lv_lconst (v := 0) hx hb dX7_mean_2 (by decide) ?_
  refine lv_ldc2 hx hb S.2.2.2.1 (S.2.2.2.2 (.constantLong RX7 208 (10)) (by decide +kernel)) dX7_mean_3 ?_
  obtain ⟨q1, hq1, hf⟩ := bind_some hf
  refine callS_i (As := [.long a1.toInt64, .long (0 : Int64), .long (10 : Int64)]) (rest := []) S hB hP hS (K_X7_in l hE (va_up σ 22 z) a1.toInt64 (0 : Int64) (10 : Int64) hq1) (va_cwS 3 S.2.2.2.2 gX7_mean_X7_in rfl rfl rfl (by decide +kernel) ⟨Nat.le_of_ble_eq_true rfl, Nat.le_of_ble_eq_true rfl⟩) rfl hl.1 rfl (Nat.le_of_ble_eq_true rfl) dX7_mean_6 ⟨Nat.zero_le _, Nat.zero_le _⟩ (fun H locs hP hS => ?_)
  refine lv_if_eq (tgt := 46) hx hb dX7_mean_9 (by decide) (fun c2 => ?_) (fun c2 => ?_)
  · have hf := if_t c2 hf
    refine lv_ldc2 hx hb S.2.2.2.1 (S.2.2.2.2 (.constantLong RX7 220 (-1)) (by decide +kernel)) dX7_mean_46 ?_
    exact fin dX7_mean_49 (s1 hf) (by rw [(s2 hf)]) hP hS
  · have hf := if_f c2 hf
    refine lv_iload_n hx hb dX7_mean_12 rfl (lv_at hl 2 rfl) ?_
    refine lv_i2l hx hb dX7_mean_13 (v := a2.toInt64) rfl ?_
    refine lv_lconst (v := 0) hx hb dX7_mean_14 (by decide) ?_
    refine lv_ldc2 hx hb S.2.2.2.1 (S.2.2.2.2 (.constantLong RX7 214 (8)) (by decide +kernel)) dX7_mean_15 ?_
    obtain ⟨q3, hq3, hf⟩ := bind_some hf
    refine callS_i (As := [.long a2.toInt64, .long (0 : Int64), .long (8 : Int64)]) (rest := []) S hB hP hS (K_X7_in l hE (va_up σ 22 z) a2.toInt64 (0 : Int64) (8 : Int64) hq3) (va_cwS 3 S.2.2.2.2 gX7_mean_X7_in rfl rfl rfl (by decide +kernel) ⟨Nat.le_of_ble_eq_true rfl, Nat.le_of_ble_eq_true rfl⟩) rfl hl.1 rfl (Nat.le_of_ble_eq_true rfl) dX7_mean_18 ⟨Nat.zero_le _, Nat.zero_le _⟩ (fun H locs hP hS => ?_)
    refine lv_if_eq (tgt := 46) hx hb dX7_mean_21 (by decide) (fun c4 => ?_) (fun c4 => ?_)
    · have hf := if_t c4 hf
      refine lv_ldc2 hx hb S.2.2.2.1 (S.2.2.2.2 (.constantLong RX7 220 (-1)) (by decide +kernel)) dX7_mean_46 ?_
      exact fin dX7_mean_49 (s1 hf) (by rw [(s2 hf)]) hP hS
    · have hf := if_f c4 hf
      refine lv_iload_n hx hb dX7_mean_24 rfl (lv_at hl 3 rfl) ?_
      refine lv_i2l hx hb dX7_mean_25 (v := a3.toInt64) rfl ?_
      refine lv_lconst (v := 0) hx hb dX7_mean_26 (by decide) ?_
      refine lv_lconst (v := 1) hx hb dX7_mean_27 (by decide) ?_
      obtain ⟨q5, hq5, hf⟩ := bind_some hf
      refine callS_i (As := [.long a3.toInt64, .long (0 : Int64), .long (1 : Int64)]) (rest := []) S hB hP hS (K_X7_in l hE (va_up σ 22 z) a3.toInt64 (0 : Int64) (1 : Int64) hq5) (va_cwS 3 S.2.2.2.2 gX7_mean_X7_in rfl rfl rfl (by decide +kernel) ⟨Nat.le_of_ble_eq_true rfl, Nat.le_of_ble_eq_true rfl⟩) rfl hl.1 rfl (Nat.le_of_ble_eq_true rfl) dX7_mean_28 ⟨Nat.zero_le _, Nat.zero_le _⟩ (fun H locs hP hS => ?_)
      refine lv_if_eq (tgt := 46) hx hb dX7_mean_31 (by decide) (fun c6 => ?_) (fun c6 => ?_)
      · have hf := if_t c6 hf
        refine lv_ldc2 hx hb S.2.2.2.1 (S.2.2.2.2 (.constantLong RX7 220 (-1)) (by decide +kernel)) dX7_mean_46 ?_
        exact fin dX7_mean_49 (s1 hf) (by rw [(s2 hf)]) hP hS
      · have hf := if_f c6 hf
        refine lv_aload_n hx hb dX7_mean_34 rfl (lv_at hl 0 rfl) ?_
        refine lv_iload_n hx hb dX7_mean_35 rfl (lv_at hl 1 rfl) ?_
        refine lv_bipush (v := -4) hx hb dX7_mean_36 (by decide) ?_
        refine lv_iload_n hx hb dX7_mean_38 rfl (lv_at hl 2 rfl) ?_
        refine lv_iload_n hx hb dX7_mean_39 rfl (lv_at hl 3 rfl) ?_
        obtain ⟨q7, hq7, hf⟩ := bind_some hf
        refine callV_l (As := [.int a1, .int (-4 : Int32), .int a2, .int a3]) (rest := []) S hB hP hS (C := RX7) (b := E.ad 22 0) (g_recv (o := 22) (d := 0) hB hP m_22_0 rfl rfl) (K_X7_byRain l hE σ z a1 (-4 : Int32) a2 a3 hq7) (cwV 4 S.2.2.2.2 gX7_mean_X7_byRain rfl rfl rfl (by decide +kernel) ⟨Nat.le_of_ble_eq_true rfl, Nat.le_of_ble_eq_true rfl⟩) rfl hl.1 rfl (Nat.le_of_ble_eq_true rfl) dX7_mean_40 ⟨Nat.zero_le _, Nat.zero_le _⟩ (fun H locs hP hS => ?_)
        refine lv_goto (tgt := 49) hx hb dX7_mean_43 (by decide) ?_
        exact fin dX7_mean_49 (s1 hf) (by rw [(s2 hf)]) hP hS
theorem KW_X7_mean (l : Launch) {E : En} (hE : Inj E) (X : Wd) (a1 : Int32) (a2 : Int32) (a3 : Int32) {r : Int64} {z' : Ob} (hf : f_X7_mean (X 22) a1 a2 a3 = some (r, z')) : Ctl l E yX7_mean wsX7_mean rm_X7_mean [.ref (E.ad 22 0), .int a1, .int a2, .int a3] X r (va_up X 22 z') := by
  have h := K_X7_mean l hE X (X 22) a1 a2 a3 hf
  rw [lens_all] at h
  exact h
/-! X7_forget -/
abbrev rm_X7_forget : Room := { frames := 1, cells := 0, slots := 0, locals := 25 }
set_option maxHeartbeats 4000000 in
set_option maxRecDepth 100000 in
theorem K_X7_forget (l : Launch) {E : En} (hE : Inj E) (σ : Wd) (z : Ob) (a1 : Int32) {r : Int32} {z' : Ob} (hf : f_X7_forget z a1 = some (r, z')) : Cti l E yX7_forget wsX7_forget rm_X7_forget [.ref (E.ad 22 0), .int a1] (va_up σ 22 z) r (va_up σ 22 z') := by
  refine meet_i (cc := cX7_forget) (maxL := 3) (own := RX7) (by decide) rfl rfl (Nat.le_of_ble_eq_true rfl) ?_
  intro p e s m below meth c Z S hB fin hP hS ls hl
  have hx := S.1
  have hb := S.2.1
  have hl : lv_has ls 3 [(0, .ref (E.ad 22 0)), (1, .int a1)] := hl
  have hinX7 : ∀ w ∈ u_ws RX7 TX7 25, w ∈ wsX7_forget := by decide +kernel
  have fl128 := S.2.2.2.2 (.fieldLink RX7 128 "MownMazeModel" "seenMany" "I") (by decide +kernel)
  unfold f_X7_forget at hf
  refine lv_iload_n hx hb dX7_forget_0 rfl (lv_at hl 1 rfl) ?_
  refine lv_i2l hx hb dX7_forget_1 (v := a1.toInt64) rfl ?_
  refine lv_lconst (v := 0) hx hb dX7_forget_2 (by decide) ?_
  refine lv_aload_n hx hb dX7_forget_3 rfl (lv_at hl 0 rfl) ?_
  refine g_get (v := .int (z 0 18)) S hB hinX7 hP m_22_0 rfl rfl 18 (by decide) fl128 rfl rfl dX7_forget_4 ?_
  refine lv_i2l hx hb dX7_forget_7 (v := (z 0 18).toInt64) rfl ?_
  obtain ⟨q1, hq1, hf⟩ := bind_some hf
  refine callS_i (As := [.long a1.toInt64, .long (0 : Int64), .long ((z 0 18).toInt64)]) (rest := []) S hB hP hS (K_X7_in l hE (va_up σ 22 z) a1.toInt64 (0 : Int64) ((z 0 18).toInt64) hq1) (va_cwS 3 S.2.2.2.2 gX7_forget_X7_in rfl rfl rfl (by decide +kernel) ⟨Nat.le_of_ble_eq_true rfl, Nat.le_of_ble_eq_true rfl⟩) rfl hl.1 rfl (Nat.le_of_ble_eq_true rfl) dX7_forget_8 ⟨Nat.zero_le _, Nat.zero_le _⟩ (fun H locs hP hS => ?_)
  refine lv_if_ne (tgt := 16) hx hb dX7_forget_11 (by decide) (fun c2 => ?_) (fun c2 => ?_)
  · have hf := if_f c2 hf
    refine lv_aload_n hx hb dX7_forget_16 rfl (lv_at hl 0 rfl) ?_
    refine g_get (v := .int (z 0 18)) S hB hinX7 hP m_22_0 rfl rfl 18 (by decide) fl128 rfl rfl dX7_forget_17 ?_
    refine lv_istore_n (lv' := [(2, .int (z 0 18)), (0, .ref (E.ad 22 0)), (1, .int a1)]) hx hb dX7_forget_20 rfl hl (by decide) rfl (fun ls hl => ?_)
    refine lv_aload_n hx hb dX7_forget_21 rfl (lv_at hl 1 rfl) ?_
    refine lv_iload_n hx hb dX7_forget_22 rfl (lv_at hl 2 rfl) ?_
    refine g_put S hB hE hinX7 tyX7 tyX7_ok nmX7 hP hS m_22_0 rfl rfl 18 (by decide) fl128 rfl rfl rfl rfl (Nat.le_of_ble_eq_true rfl) (by exact (fun _ => rfl) _) (X' := (va_up σ 22 (ob z 0 18 a1))) (lens_put σ 22 _ _ _ _) dX7_forget_23 (fun H locs hP hS => ?_)
    refine lv_iload_n hx hb dX7_forget_26 rfl (lv_at hl 0 rfl) ?_
    exact fin dX7_forget_27 (s1 hf) (by rw [(s2 hf)]) hP hS
  · have hf := if_t c2 hf
    refine lv_iconst (v := -1) hx hb dX7_forget_14 (by decide) ?_
    exact fin dX7_forget_15 (s1 hf) (by rw [(s2 hf)]) hP hS
theorem KW_X7_forget (l : Launch) {E : En} (hE : Inj E) (X : Wd) (a1 : Int32) {r : Int32} {z' : Ob} (hf : f_X7_forget (X 22) a1 = some (r, z')) : Cti l E yX7_forget wsX7_forget rm_X7_forget [.ref (E.ad 22 0), .int a1] X r (va_up X 22 z') := by
  have h := K_X7_forget l hE X (X 22) a1 hf
  rw [lens_all] at h
  exact h
/-! X7_isAsSeen -/
abbrev rm_X7_isAsSeen : Room := { frames := 4, cells := 0, slots := 0, locals := 95 }
set_option maxHeartbeats 4000000 in
set_option maxRecDepth 100000 in
theorem K_X7_isAsSeen (l : Launch) {E : En} (hE : Inj E) (σ : Wd) (z : Ob) (a1 : Int32) {r : Int32} {z' : Ob} (hf : f_X7_isAsSeen z a1 = some (r, z')) : Cti l E yX7_isAsSeen wsX7_isAsSeen rm_X7_isAsSeen [.ref (E.ad 22 0), .int a1] (va_up σ 22 z) r (va_up σ 22 z') := by
  refine meet_z (cc := cX7_isAsSeen) (maxL := 5) (own := RX7) (by decide) rfl rfl (Nat.le_of_ble_eq_true rfl) ?_
  intro p e s m below meth c Z S hB fin hP hS ls hl
  have hx := S.1
  have hb := S.2.1
  have hl : lv_has ls 5 [(0, .ref (E.ad 22 0)), (1, .int a1)] := hl
  have hinX7 : ∀ w ∈ u_ws RX7 TX7 25, w ∈ wsX7_isAsSeen := by decide +kernel
  have fl7 := S.2.2.2.2 (.fieldLink RX7 7 "MownMazeModel" "state" "[I") (by decide +kernel)
  have fl32 := S.2.2.2.2 (.fieldLink RX7 32 "MownMazeModel" "seen" "[I") (by decide +kernel)
  have fl35 := S.2.2.2.2 (.fieldLink RX7 35 "MownMazeModel" "standBy" "[I") (by decide +kernel)
  have fl128 := S.2.2.2.2 (.fieldLink RX7 128 "MownMazeModel" "seenMany" "I") (by decide +kernel)
  have hL12 : ∀ (n12 : Nat) (z : Ob) (x1 : Int32) (x2 : Int32) (x3 : Int32) (H : Heap) (locs : List Loc) (ls : Array Slot), f_X7_isAsSeen_l12 n12 z x1 x2 x3 = some (r, z') → va_P E.1 vwCl (GW E (va_up σ 22 z)) H → va_S (GA E) s.heap H locs → lv_has ls 5 [(0, .ref (E.ad 22 0)), (1, .int x1), (2, .int x2), (3, .int x3)] → W p l e rm_X7_isAsSeen s m ([.ref (E.ad 22 0), .int a1] : List Value).toArray below meth c H locs 0 0 Z (F0 m 12 ls []) := by
    intro n12
    induction n12 with
    | zero =>
      intro z x1 x2 x3 H locs ls hf
      cases (show (none : Option _) = some _ from hf)
    | succ n12 ih12 =>
      have hL39 : ∀ (n39 : Nat) (z : Ob) (x1 : Int32) (x2 : Int32) (x3 : Int32) (x4 : Int32) (H : Heap) (locs : List Loc) (ls : Array Slot), f_X7_isAsSeen_l39 (f_X7_isAsSeen_l12 n12) n39 z x1 x2 x3 x4 = some (r, z') → va_P E.1 vwCl (GW E (va_up σ 22 z)) H → va_S (GA E) s.heap H locs → lv_has ls 5 [(0, .ref (E.ad 22 0)), (1, .int x1), (2, .int x2), (3, .int x3), (4, .int x4)] → W p l e rm_X7_isAsSeen s m ([.ref (E.ad 22 0), .int a1] : List Value).toArray below meth c H locs 0 0 Z (F0 m 39 ls []) := by
        intro n39
        induction n39 with
        | zero =>
          intro z x1 x2 x3 x4 H locs ls hf
          cases (show (none : Option _) = some _ from hf)
        | succ n39 ih39 =>
          have hB104 : ∀ (z : Ob) (x1 : Int32) (x3 : Int32) (x4 : Int32) (y0 : Int32) (H : Heap) (locs : List Loc) (ls : Array Slot), f_X7_isAsSeen_b104 (f_X7_isAsSeen_l12 n12) (f_X7_isAsSeen_l39 (f_X7_isAsSeen_l12 n12) n39) z x1 x3 x4 y0 = some (r, z') → va_P E.1 vwCl (GW E (va_up σ 22 z)) H → va_S (GA E) s.heap H locs → lv_has ls 5 [(0, .ref (E.ad 22 0)), (1, .int x1), (3, .int x3), (4, .int x4)] → W p l e rm_X7_isAsSeen s m ([.ref (E.ad 22 0), .int a1] : List Value).toArray below meth c H locs 0 0 Z (F0 m 104 ls [.int y0]) := by
            intro z x1 x3 x4 y0 H locs ls hf hP hS hl
            unfold f_X7_isAsSeen_b104 at hf
            refine lv_istore_n (lv' := [(2, .int y0), (0, .ref (E.ad 22 0)), (1, .int x1), (3, .int x3), (4, .int x4)]) hx hb dX7_isAsSeen_104 rfl hl (by decide) rfl (fun ls hl => ?_)
            refine lv_iinc (v := x4 + (1 : Int32)) (lv' := [(4, .int (x4 + (1 : Int32))), (2, .int y0), (0, .ref (E.ad 22 0)), (1, .int x1), (3, .int x3)]) hx hb dX7_isAsSeen_105 hl (k := 4) rfl rfl (by decide) rfl (fun ls hl => ?_)
            refine lv_goto (tgt := 39) hx hb dX7_isAsSeen_108 (by decide) ?_
            exact ih39 z x1 y0 x3 (x4 + (1 : Int32)) _ _ _ hf hP hS (lv_sub hl [2, 3, 1, 4, 0] rfl)
          have hB103 : ∀ (z : Ob) (x1 : Int32) (x3 : Int32) (x4 : Int32) (H : Heap) (locs : List Loc) (ls : Array Slot), f_X7_isAsSeen_b103 (f_X7_isAsSeen_l12 n12) (f_X7_isAsSeen_l39 (f_X7_isAsSeen_l12 n12) n39) z x1 x3 x4 = some (r, z') → va_P E.1 vwCl (GW E (va_up σ 22 z)) H → va_S (GA E) s.heap H locs → lv_has ls 5 [(0, .ref (E.ad 22 0)), (1, .int x1), (3, .int x3), (4, .int x4)] → W p l e rm_X7_isAsSeen s m ([.ref (E.ad 22 0), .int a1] : List Value).toArray below meth c H locs 0 0 Z (F0 m 103 ls []) := by
            intro z x1 x3 x4 H locs ls hf hP hS hl
            unfold f_X7_isAsSeen_b103 at hf
            refine lv_iconst (v := 0) hx hb dX7_isAsSeen_103 (by decide) ?_
            exact hB104 z x1 x3 x4 (0 : Int32) _ _ _ hf hP hS (lv_sub hl [0, 1, 2, 3] rfl)
          have hB99 : ∀ (z : Ob) (x1 : Int32) (x3 : Int32) (x4 : Int32) (H : Heap) (locs : List Loc) (ls : Array Slot), f_X7_isAsSeen_b99 (f_X7_isAsSeen_l12 n12) (f_X7_isAsSeen_l39 (f_X7_isAsSeen_l12 n12) n39) z x1 x3 x4 = some (r, z') → va_P E.1 vwCl (GW E (va_up σ 22 z)) H → va_S (GA E) s.heap H locs → lv_has ls 5 [(0, .ref (E.ad 22 0)), (1, .int x1), (3, .int x3), (4, .int x4)] → W p l e rm_X7_isAsSeen s m ([.ref (E.ad 22 0), .int a1] : List Value).toArray below meth c H locs 0 0 Z (F0 m 99 ls []) := by
            intro z x1 x3 x4 H locs ls hf hP hS hl
            unfold f_X7_isAsSeen_b99 at hf
            refine lv_iconst (v := 1) hx hb dX7_isAsSeen_99 (by decide) ?_
            refine lv_goto (tgt := 104) hx hb dX7_isAsSeen_100 (by decide) ?_
            exact hB104 z x1 x3 x4 (1 : Int32) _ _ _ hf hP hS (lv_sub hl [0, 1, 2, 3] rfl)
          intro z x1 x2 x3 x4 H locs ls hf hP hS hl
          unfold f_X7_isAsSeen_l39 at hf
          refine lv_iload hx hb dX7_isAsSeen_39 (lv_at hl 4 rfl) ?_
          refine lv_aload_n hx hb dX7_isAsSeen_41 rfl (lv_at hl 0 rfl) ?_
          refine g_get (v := .int (z 0 18)) S hB hinX7 hP m_22_0 rfl rfl 18 (by decide) fl128 rfl rfl dX7_isAsSeen_42 ?_
          refine lv_icmp_ge (tgt := 111) hx hb dX7_isAsSeen_45 (by decide) (fun c2 => ?_) (fun c2 => ?_)
          · have hf := if_t c2 hf
            refine lv_aload_n hx hb dX7_isAsSeen_111 rfl (lv_at hl 0 rfl) ?_
            refine lv_sipush (v := 212) hx hb dX7_isAsSeen_112 (by decide) ?_
            refine lv_iconst (v := 0) hx hb dX7_isAsSeen_115 (by decide) ?_
            obtain ⟨q3, hq3, hf⟩ := bind_some hf
            refine callV_v (As := [.int (212 : Int32), .int (0 : Int32)]) (rest := []) S hB hP hS (C := RX7) (b := E.ad 22 0) (g_recv (o := 22) (d := 0) hB hP m_22_0 rfl rfl) (K_X7_dayOn l hE σ z (212 : Int32) (0 : Int32) hq3) (cwV 2 S.2.2.2.2 gX7_isAsSeen_X7_dayOn rfl rfl rfl (by decide +kernel) ⟨Nat.le_of_ble_eq_true rfl, Nat.le_of_ble_eq_true rfl⟩) rfl hl.1 rfl (Nat.le_of_ble_eq_true rfl) dX7_isAsSeen_116 ⟨Nat.zero_le _, Nat.zero_le _⟩ (fun H locs hP hS => ?_)
            refine lv_iinc (v := x3 + (1 : Int32)) (lv' := [(3, .int (x3 + (1 : Int32))), (0, .ref (E.ad 22 0)), (1, .int x1), (2, .int x2), (4, .int x4)]) hx hb dX7_isAsSeen_119 hl (k := 3) rfl rfl (by decide) rfl (fun ls hl => ?_)
            refine lv_goto (tgt := 12) hx hb dX7_isAsSeen_122 (by decide) ?_
            exact ih12 q3 x1 x2 (x3 + (1 : Int32)) _ _ _ hf hP hS (lv_sub hl [1, 2, 3, 0] rfl)
          · have hf := if_f c2 hf
            refine lv_iload_n hx hb dX7_isAsSeen_48 rfl (lv_at hl 2 rfl) ?_
            refine lv_if_eq (tgt := 103) hx hb dX7_isAsSeen_49 (by decide) (fun c4 => ?_) (fun c4 => ?_)
            · have hf := if_t c4 hf
              exact hB103 z x1 x3 x4 _ _ _ hf hP hS (lv_sub hl [0, 1, 3, 4] rfl)
            · have hf := if_f c4 hf
              refine lv_aload_n hx hb dX7_isAsSeen_52 rfl (lv_at hl 0 rfl) ?_
              refine g_get (v := .ref (E.ad 22 7)) S hB hinX7 hP m_22_0 rfl rfl 17 (by decide) fl32 rfl rfl dX7_isAsSeen_53 ?_
              refine lv_iconst (v := 3) hx hb dX7_isAsSeen_56 (by decide) ?_
              refine lv_iload hx hb dX7_isAsSeen_57 (lv_at hl 4 rfl) ?_
              refine lv_imul hx hb dX7_isAsSeen_59 ?_
              obtain ⟨hv5, hf⟩ := ck_some hf
              refine g_iald (r := z 7) S hB hP m_22_7 rfl hv5 dX7_isAsSeen_60 ?_
              refine W.eq (g2 := F0 m 61 ls [.int (z 7 (((3 : Int32) * x4).toNatClampNeg))]) rfl ?_
              refine lv_iload_n hx hb dX7_isAsSeen_61 rfl (lv_at hl 3 rfl) ?_
              refine lv_icmp_ne (tgt := 99) hx hb dX7_isAsSeen_62 (by decide) (fun c6 => ?_) (fun c6 => ?_)
              · have hf := if_f c6 hf
                exact hB99 z x1 x3 x4 _ _ _ hf hP hS (lv_sub hl [0, 1, 3, 4] rfl)
              · have hf := if_t c6 hf
                refine lv_aload_n hx hb dX7_isAsSeen_65 rfl (lv_at hl 0 rfl) ?_
                refine g_get (v := .ref (E.ad 22 1)) S hB hinX7 hP m_22_0 rfl rfl 0 (by decide) fl7 rfl rfl dX7_isAsSeen_66 ?_
                refine lv_sipush (v := 212) hx hb dX7_isAsSeen_69 (by decide) ?_
                refine lv_aload_n hx hb dX7_isAsSeen_72 rfl (lv_at hl 0 rfl) ?_
                refine g_get (v := .ref (E.ad 22 7)) S hB hinX7 hP m_22_0 rfl rfl 17 (by decide) fl32 rfl rfl dX7_isAsSeen_73 ?_
                refine lv_iconst (v := 3) hx hb dX7_isAsSeen_76 (by decide) ?_
                refine lv_iload hx hb dX7_isAsSeen_77 (lv_at hl 4 rfl) ?_
                refine lv_imul hx hb dX7_isAsSeen_79 ?_
                refine lv_iconst (v := 1) hx hb dX7_isAsSeen_80 (by decide) ?_
                refine lv_iadd hx hb dX7_isAsSeen_81 ?_
                obtain ⟨hv7, hf⟩ := ck_some hf
                refine g_iald (r := z 7) S hB hP m_22_7 rfl hv7 dX7_isAsSeen_82 ?_
                refine W.eq (g2 := F0 m 83 ls [.int (z 7 ((((3 : Int32) * x4) + (1 : Int32)).toNatClampNeg)), .int (212 : Int32), .ref (E.ad 22 1)]) rfl ?_
                refine lv_iadd hx hb dX7_isAsSeen_83 ?_
                obtain ⟨hv8, hf⟩ := ck_some hf
                refine g_iald (r := z 1) S hB hP m_22_1 rfl hv8 dX7_isAsSeen_84 ?_
                refine W.eq (g2 := F0 m 85 ls [.int (z 1 (((212 : Int32) + (z 7 ((((3 : Int32) * x4) + (1 : Int32)).toNatClampNeg))).toNatClampNeg))]) rfl ?_
                refine lv_aload_n hx hb dX7_isAsSeen_85 rfl (lv_at hl 0 rfl) ?_
                refine g_get (v := .ref (E.ad 22 7)) S hB hinX7 hP m_22_0 rfl rfl 17 (by decide) fl32 rfl rfl dX7_isAsSeen_86 ?_
                refine lv_iconst (v := 3) hx hb dX7_isAsSeen_89 (by decide) ?_
                refine lv_iload hx hb dX7_isAsSeen_90 (lv_at hl 4 rfl) ?_
                refine lv_imul hx hb dX7_isAsSeen_92 ?_
                refine lv_iconst (v := 2) hx hb dX7_isAsSeen_93 (by decide) ?_
                refine lv_iadd hx hb dX7_isAsSeen_94 ?_
                obtain ⟨hv9, hf⟩ := ck_some hf
                refine g_iald (r := z 7) S hB hP m_22_7 rfl hv9 dX7_isAsSeen_95 ?_
                refine W.eq (g2 := F0 m 96 ls [.int (z 7 ((((3 : Int32) * x4) + (2 : Int32)).toNatClampNeg)), .int (z 1 (((212 : Int32) + (z 7 ((((3 : Int32) * x4) + (1 : Int32)).toNatClampNeg))).toNatClampNeg))]) rfl ?_
                refine lv_icmp_ne (tgt := 103) hx hb dX7_isAsSeen_96 (by decide) (fun c10 => ?_) (fun c10 => ?_)
                · have hf := if_f c10 hf
                  exact hB103 z x1 x3 x4 _ _ _ hf hP hS (lv_sub hl [0, 1, 3, 4] rfl)
                · have hf := if_t c10 hf
                  exact hB99 z x1 x3 x4 _ _ _ hf hP hS (lv_sub hl [0, 1, 3, 4] rfl)
      intro z x1 x2 x3 H locs ls hf hP hS hl
      unfold f_X7_isAsSeen_l12 at hf
      refine lv_iload_n hx hb dX7_isAsSeen_12 rfl (lv_at hl 3 rfl) ?_
      refine lv_bipush (v := 20) hx hb dX7_isAsSeen_13 (by decide) ?_
      refine lv_icmp_gt (tgt := 125) hx hb dX7_isAsSeen_15 (by decide) (fun c11 => ?_) (fun c11 => ?_)
      · have hf := if_t c11 hf
        refine lv_iload_n hx hb dX7_isAsSeen_125 rfl (lv_at hl 2 rfl) ?_
        obtain ⟨hv12, hf⟩ := ckb_some hf
        exact fin dX7_isAsSeen_126 (nz01 hv12) (s1 hf) (by rw [(s2 hf)]) hP hS
      · have hf := if_f c11 hf
        refine lv_aload_n hx hb dX7_isAsSeen_18 rfl (lv_at hl 0 rfl) ?_
        refine g_get (v := .ref (E.ad 22 8)) S hB hinX7 hP m_22_0 rfl rfl 19 (by decide) fl35 rfl rfl dX7_isAsSeen_19 ?_
        refine lv_bipush (v := 21) hx hb dX7_isAsSeen_22 (by decide) ?_
        refine lv_iload_n hx hb dX7_isAsSeen_24 rfl (lv_at hl 1 rfl) ?_
        refine lv_imul hx hb dX7_isAsSeen_25 ?_
        refine lv_iload_n hx hb dX7_isAsSeen_26 rfl (lv_at hl 3 rfl) ?_
        refine lv_iadd hx hb dX7_isAsSeen_27 ?_
        refine lv_aload_n hx hb dX7_isAsSeen_28 rfl (lv_at hl 0 rfl) ?_
        refine lv_sipush (v := 212) hx hb dX7_isAsSeen_29 (by decide) ?_
        obtain ⟨q13, hq13, hf⟩ := bind_some hf
        refine callV_i (As := [.int (212 : Int32)]) (rest := [.int (((21 : Int32) * x1) + x3), .ref (E.ad 22 8)]) S hB hP hS (C := RX7) (b := E.ad 22 0) (g_recv (o := 22) (d := 0) hB hP m_22_0 rfl rfl) (K_X7_standOn l hE σ z (212 : Int32) hq13) (cwV 1 S.2.2.2.2 gX7_isAsSeen_X7_standOn rfl rfl rfl (by decide +kernel) ⟨Nat.le_of_ble_eq_true rfl, Nat.le_of_ble_eq_true rfl⟩) rfl hl.1 rfl (Nat.le_of_ble_eq_true rfl) dX7_isAsSeen_32 ⟨Nat.zero_le _, Nat.zero_le _⟩ (fun H locs hP hS => ?_)
        obtain ⟨hv14, hf⟩ := ck_some hf
        refine g_iast (r := z 8) S hB hE hP hS m_22_8 rfl rfl (fun _ => rfl) hv14 (X' := (va_up σ 22 (ob z 8 ((((21 : Int32) * x1) + x3).toNatClampNeg) q13))) (lens_put σ 22 _ _ _ _) dX7_isAsSeen_35 (fun H locs hP hS => ?_)
        refine lv_iconst (v := 0) hx hb dX7_isAsSeen_36 (by decide) ?_
        refine lv_istore (lv' := [(4, .int (0 : Int32)), (0, .ref (E.ad 22 0)), (1, .int x1), (2, .int x2), (3, .int x3)]) hx hb dX7_isAsSeen_37 hl (by decide) rfl (fun ls hl => ?_)
        exact hL39 FUEL (ob z 8 ((((21 : Int32) * x1) + x3).toNatClampNeg) q13) x1 x2 x3 (0 : Int32) _ _ _ hf hP hS (lv_sub hl [1, 2, 3, 4, 0] rfl)
  unfold f_X7_isAsSeen at hf
  refine lv_aload_n hx hb dX7_isAsSeen_0 rfl (lv_at hl 0 rfl) ?_
  refine lv_iconst (v := 0) hx hb dX7_isAsSeen_1 (by decide) ?_
  refine lv_sipush (v := 212) hx hb dX7_isAsSeen_2 (by decide) ?_
  obtain ⟨q1, hq1, hf⟩ := bind_some hf
  refine callV_v (As := [.int (0 : Int32), .int (212 : Int32)]) (rest := []) S hB hP hS (C := RX7) (b := E.ad 22 0) (g_recv (o := 22) (d := 0) hB hP m_22_0 rfl rfl) (K_X7_copies l hE σ z (0 : Int32) (212 : Int32) hq1) (cwV 2 S.2.2.2.2 gX7_isAsSeen_X7_copies rfl rfl rfl (by decide +kernel) ⟨Nat.le_of_ble_eq_true rfl, Nat.le_of_ble_eq_true rfl⟩) rfl hl.1 rfl (Nat.le_of_ble_eq_true rfl) dX7_isAsSeen_5 ⟨Nat.zero_le _, Nat.zero_le _⟩ (fun H locs hP hS => ?_)
  refine lv_iconst (v := 1) hx hb dX7_isAsSeen_8 (by decide) ?_
  refine lv_istore_n (lv' := [(2, .int (1 : Int32)), (0, .ref (E.ad 22 0)), (1, .int a1)]) hx hb dX7_isAsSeen_9 rfl hl (by decide) rfl (fun ls hl => ?_)
  refine lv_iconst (v := 0) hx hb dX7_isAsSeen_10 (by decide) ?_
  refine lv_istore_n (lv' := [(3, .int (0 : Int32)), (2, .int (1 : Int32)), (0, .ref (E.ad 22 0)), (1, .int a1)]) hx hb dX7_isAsSeen_11 rfl hl (by decide) rfl (fun ls hl => ?_)
  exact hL12 FUEL q1 a1 (1 : Int32) (0 : Int32) _ _ _ hf hP hS (lv_sub hl [2, 3, 1, 0] rfl)
theorem KW_X7_isAsSeen (l : Launch) {E : En} (hE : Inj E) (X : Wd) (a1 : Int32) {r : Int32} {z' : Ob} (hf : f_X7_isAsSeen (X 22) a1 = some (r, z')) : Cti l E yX7_isAsSeen wsX7_isAsSeen rm_X7_isAsSeen [.ref (E.ad 22 0), .int a1] X r (va_up X 22 z') := by
  have h := K_X7_isAsSeen l hE X (X 22) a1 hf
  rw [lens_all] at h
  exact h
/-! X7_numbersAt -/
abbrev rm_X7_numbersAt : Room := { frames := 5, cells := 0, slots := 0, locals := 119 }
set_option maxHeartbeats 4000000 in
set_option maxRecDepth 100000 in
theorem K_X7_numbersAt (l : Launch) {E : En} (hE : Inj E) (σ : Wd) (z : Ob) (a1 : Int32) (a2 : Int32) {r : Int32} {z' : Ob} (hf : f_X7_numbersAt z a1 a2 = some (r, z')) : Cti l E yX7_numbersAt wsX7_numbersAt rm_X7_numbersAt [.ref (E.ad 22 0), .int a1, .int a2] (va_up σ 22 z) r (va_up σ 22 z') := by
  refine meet_i (cc := cX7_numbersAt) (maxL := 6) (own := RX7) (by decide) rfl rfl (Nat.le_of_ble_eq_true rfl) ?_
  intro p e s m below meth c Z S hB fin hP hS ls hl
  have hx := S.1
  have hb := S.2.1
  have hl : lv_has ls 6 [(0, .ref (E.ad 22 0)), (1, .int a1), (2, .int a2)] := hl
  have hinX7 : ∀ w ∈ u_ws RX7 TX7 25, w ∈ wsX7_numbersAt := by decide +kernel
  have fl7 := S.2.2.2.2 (.fieldLink RX7 7 "MownMazeModel" "state" "[I") (by decide +kernel)
  have hL13 : ∀ (n13 : Nat) (z : Ob) (x1 : Int32) (x2 : Int32) (x3 : Int32) (x4 : Int32) (x5 : Int32) (H : Heap) (locs : List Loc) (ls : Array Slot), f_X7_numbersAt_l13 n13 z x1 x2 x3 x4 x5 = some (r, z') → va_P E.1 vwCl (GW E (va_up σ 22 z)) H → va_S (GA E) s.heap H locs → lv_has ls 6 [(0, .ref (E.ad 22 0)), (1, .int x1), (2, .int x2), (3, .int x3), (4, .int x4), (5, .int x5)] → W p l e rm_X7_numbersAt s m ([.ref (E.ad 22 0), .int a1, .int a2] : List Value).toArray below meth c H locs 0 0 Z (F0 m 13 ls []) := by
    intro n13
    induction n13 with
    | zero =>
      intro z x1 x2 x3 x4 x5 H locs ls hf
      cases (show (none : Option _) = some _ from hf)
    | succ n13 ih13 =>
      have hB46 : ∀ (z : Ob) (x1 : Int32) (x2 : Int32) (x3 : Int32) (x5 : Int32) (y0 : Int32) (y1 : Int32) (H : Heap) (locs : List Loc) (ls : Array Slot), f_X7_numbersAt_b46 (f_X7_numbersAt_l13 n13) z x1 x2 x3 x5 y0 y1 = some (r, z') → va_P E.1 vwCl (GW E (va_up σ 22 z)) H → va_S (GA E) s.heap H locs → lv_has ls 6 [(0, .ref (E.ad 22 0)), (1, .int x1), (2, .int x2), (3, .int x3), (5, .int x5)] → W p l e rm_X7_numbersAt s m ([.ref (E.ad 22 0), .int a1, .int a2] : List Value).toArray below meth c H locs 0 0 Z (F0 m 46 ls [.int y0, .int y1]) := by
        intro z x1 x2 x3 x5 y0 y1 H locs ls hf hP hS hl
        unfold f_X7_numbersAt_b46 at hf
        refine lv_ior hx hb dX7_numbersAt_46 ?_
        refine lv_istore (lv' := [(4, .int (y1 ||| y0)), (0, .ref (E.ad 22 0)), (1, .int x1), (2, .int x2), (3, .int x3), (5, .int x5)]) hx hb dX7_numbersAt_47 hl (by decide) rfl (fun ls hl => ?_)
        refine lv_iinc (v := x5 + (1 : Int32)) (lv' := [(5, .int (x5 + (1 : Int32))), (4, .int (y1 ||| y0)), (0, .ref (E.ad 22 0)), (1, .int x1), (2, .int x2), (3, .int x3)]) hx hb dX7_numbersAt_49 hl (k := 5) rfl rfl (by decide) rfl (fun ls hl => ?_)
        refine lv_goto (tgt := 13) hx hb dX7_numbersAt_52 (by decide) ?_
        exact ih13 z x1 x2 x3 (y1 ||| y0) (x5 + (1 : Int32)) _ _ _ hf hP hS (lv_sub hl [2, 3, 4, 5, 1, 0] rfl)
      intro z x1 x2 x3 x4 x5 H locs ls hf hP hS hl
      unfold f_X7_numbersAt_l13 at hf
      refine lv_iload hx hb dX7_numbersAt_13 (lv_at hl 5 rfl) ?_
      refine lv_iload_n hx hb dX7_numbersAt_15 rfl (lv_at hl 2 rfl) ?_
      refine lv_icmp_gt (tgt := 55) hx hb dX7_numbersAt_16 (by decide) (fun c2 => ?_) (fun c2 => ?_)
      · have hf := if_t c2 hf
        refine lv_aload_n hx hb dX7_numbersAt_55 rfl (lv_at hl 0 rfl) ?_
        refine g_get (v := .ref (E.ad 22 1)) S hB hinX7 hP m_22_0 rfl rfl 0 (by decide) fl7 rfl rfl dX7_numbersAt_56 ?_
        refine lv_iload_n hx hb dX7_numbersAt_59 rfl (lv_at hl 1 rfl) ?_
        refine lv_iload_n hx hb dX7_numbersAt_60 rfl (lv_at hl 3 rfl) ?_
        obtain ⟨hv3, hf⟩ := ck_some hf
        refine g_iast (r := z 1) S hB hE hP hS m_22_1 rfl rfl (fun _ => rfl) hv3 (X' := (va_up σ 22 (ob z 1 x1.toNatClampNeg x3))) (lens_put σ 22 _ _ _ _) dX7_numbersAt_61 (fun H locs hP hS => ?_)
        refine lv_iload hx hb dX7_numbersAt_62 (lv_at hl 4 rfl) ?_
        exact fin dX7_numbersAt_64 (s1 hf) (by rw [(s2 hf)]) hP hS
      · have hf := if_f c2 hf
        refine lv_aload_n hx hb dX7_numbersAt_19 rfl (lv_at hl 0 rfl) ?_
        refine g_get (v := .ref (E.ad 22 1)) S hB hinX7 hP m_22_0 rfl rfl 0 (by decide) fl7 rfl rfl dX7_numbersAt_20 ?_
        refine lv_iload_n hx hb dX7_numbersAt_23 rfl (lv_at hl 1 rfl) ?_
        refine lv_iload hx hb dX7_numbersAt_24 (lv_at hl 5 rfl) ?_
        obtain ⟨hv4, hf⟩ := ck_some hf
        refine g_iast (r := z 1) S hB hE hP hS m_22_1 rfl rfl (fun _ => rfl) hv4 (X' := (va_up σ 22 (ob z 1 x1.toNatClampNeg x5))) (lens_put σ 22 _ _ _ _) dX7_numbersAt_26 (fun H locs hP hS => ?_)
        refine lv_iload hx hb dX7_numbersAt_27 (lv_at hl 4 rfl) ?_
        refine lv_aload_n hx hb dX7_numbersAt_29 rfl (lv_at hl 0 rfl) ?_
        refine lv_iload hx hb dX7_numbersAt_30 (lv_at hl 5 rfl) ?_
        obtain ⟨q5, hq5, hf⟩ := bind_some hf
        refine callV_i (As := [.int x5]) (rest := [.int x4]) S hB hP hS (C := RX7) (b := E.ad 22 0) (g_recv (o := 22) (d := 0) hB hP m_22_0 rfl rfl) (K_X7_isAsSeen l hE σ (ob z 1 x1.toNatClampNeg x5) x5 hq5) (cwV 1 S.2.2.2.2 gX7_numbersAt_X7_isAsSeen rfl rfl rfl (by decide +kernel) ⟨Nat.le_of_ble_eq_true rfl, Nat.le_of_ble_eq_true rfl⟩) rfl hl.1 rfl (Nat.le_of_ble_eq_true rfl) dX7_numbersAt_32 ⟨Nat.zero_le _, Nat.zero_le _⟩ (fun H locs hP hS => ?_)
        refine lv_if_eq (tgt := 45) hx hb dX7_numbersAt_35 (by decide) (fun c6 => ?_) (fun c6 => ?_)
        · have hf := if_t c6 hf
          refine lv_iconst (v := 0) hx hb dX7_numbersAt_45 (by decide) ?_
          exact hB46 q5.2 x1 x2 x3 x5 (0 : Int32) x4 _ _ _ hf hP hS (lv_sub hl [0, 1, 2, 3, 5] rfl)
        · have hf := if_f c6 hf
          refine lv_iconst (v := 1) hx hb dX7_numbersAt_38 (by decide) ?_
          refine lv_iload hx hb dX7_numbersAt_39 (lv_at hl 5 rfl) ?_
          refine lv_ishl hx hb dX7_numbersAt_41 ?_
          refine lv_goto (tgt := 46) hx hb dX7_numbersAt_42 (by decide) ?_
          exact hB46 q5.2 x1 x2 x3 x5 ((1 : Int32) <<< (x5 &&& 31)) x4 _ _ _ hf hP hS (lv_sub hl [0, 1, 2, 3, 5] rfl)
  unfold f_X7_numbersAt at hf
  refine lv_aload_n hx hb dX7_numbersAt_0 rfl (lv_at hl 0 rfl) ?_
  refine g_get (v := .ref (E.ad 22 1)) S hB hinX7 hP m_22_0 rfl rfl 0 (by decide) fl7 rfl rfl dX7_numbersAt_1 ?_
  refine lv_iload_n hx hb dX7_numbersAt_4 rfl (lv_at hl 1 rfl) ?_
  obtain ⟨hv1, hf⟩ := ck_some hf
  refine g_iald (r := z 1) S hB hP m_22_1 rfl hv1 dX7_numbersAt_5 ?_
  refine lv_istore_n (lv' := [(3, .int (z 1 a1.toNatClampNeg)), (0, .ref (E.ad 22 0)), (1, .int a1), (2, .int a2)]) hx hb dX7_numbersAt_6 rfl hl (by decide) rfl (fun ls hl => ?_)
  refine lv_iconst (v := 0) hx hb dX7_numbersAt_7 (by decide) ?_
  refine lv_istore (lv' := [(4, .int (0 : Int32)), (3, .int (z 1 a1.toNatClampNeg)), (0, .ref (E.ad 22 0)), (1, .int a1), (2, .int a2)]) hx hb dX7_numbersAt_8 hl (by decide) rfl (fun ls hl => ?_)
  refine lv_iconst (v := 0) hx hb dX7_numbersAt_10 (by decide) ?_
  refine lv_istore (lv' := [(5, .int (0 : Int32)), (4, .int (0 : Int32)), (3, .int (z 1 a1.toNatClampNeg)), (0, .ref (E.ad 22 0)), (1, .int a1), (2, .int a2)]) hx hb dX7_numbersAt_11 hl (by decide) rfl (fun ls hl => ?_)
  exact hL13 FUEL z a1 a2 (z 1 a1.toNatClampNeg) (0 : Int32) (0 : Int32) _ _ _ hf hP hS (lv_sub hl [3, 4, 5, 2, 1, 0] rfl)
theorem KW_X7_numbersAt (l : Launch) {E : En} (hE : Inj E) (X : Wd) (a1 : Int32) (a2 : Int32) {r : Int32} {z' : Ob} (hf : f_X7_numbersAt (X 22) a1 a2 = some (r, z')) : Cti l E yX7_numbersAt wsX7_numbersAt rm_X7_numbersAt [.ref (E.ad 22 0), .int a1, .int a2] X r (va_up X 22 z') := by
  have h := K_X7_numbersAt l hE X (X 22) a1 a2 hf
  rw [lens_all] at h
  exact h
/-! X7_kinds -/
abbrev rm_X7_kinds : Room := { frames := 6, cells := 0, slots := 0, locals := 144 }
set_option maxHeartbeats 4000000 in
set_option maxRecDepth 100000 in
theorem K_X7_kinds (l : Launch) {E : En} (hE : Inj E) (σ : Wd) (z : Ob) (a1 : Int32) {r : Int32} {z' : Ob} (hf : f_X7_kinds z a1 = some (r, z')) : Cti l E yX7_kinds wsX7_kinds rm_X7_kinds [.ref (E.ad 22 0), .int a1] (va_up σ 22 z) r (va_up σ 22 z') := by
  refine meet_i (cc := cX7_kinds) (maxL := 2) (own := RX7) (by decide) rfl rfl (Nat.le_of_ble_eq_true rfl) ?_
  intro p e s m below meth c Z S hB fin hP hS ls hl
  have hx := S.1
  have hb := S.2.1
  have hl : lv_has ls 2 [(0, .ref (E.ad 22 0)), (1, .int a1)] := hl
  unfold f_X7_kinds at hf
  refine lv_aload_n hx hb dX7_kinds_0 rfl (lv_at hl 0 rfl) ?_
  refine lv_iload_n hx hb dX7_kinds_1 rfl (lv_at hl 1 rfl) ?_
  obtain ⟨q1, hq1, hf⟩ := bind_some hf
  refine callV_i (As := [.int a1]) (rest := []) S hB hP hS (C := RX7) (b := E.ad 22 0) (g_recv (o := 22) (d := 0) hB hP m_22_0 rfl rfl) (K_X7_isGardener l hE σ z a1 hq1) (cwV 1 S.2.2.2.2 gX7_kinds_X7_isGardener rfl rfl rfl (by decide +kernel) ⟨Nat.le_of_ble_eq_true rfl, Nat.le_of_ble_eq_true rfl⟩) rfl hl.1 rfl (Nat.le_of_ble_eq_true rfl) dX7_kinds_2 ⟨Nat.zero_le _, Nat.zero_le _⟩ (fun H locs hP hS => ?_)
  refine lv_if_eq (tgt := 20) hx hb dX7_kinds_5 (by decide) (fun c2 => ?_) (fun c2 => ?_)
  · have hf := if_t c2 hf
    refine lv_iconst (v := -1) hx hb dX7_kinds_20 (by decide) ?_
    exact fin dX7_kinds_21 (s1 hf) (by rw [(s2 hf)]) hP hS
  · have hf := if_f c2 hf
    refine lv_aload_n hx hb dX7_kinds_8 rfl (lv_at hl 0 rfl) ?_
    refine lv_bipush (v := 25) hx hb dX7_kinds_9 (by decide) ?_
    refine lv_iload_n hx hb dX7_kinds_11 rfl (lv_at hl 1 rfl) ?_
    refine lv_iadd hx hb dX7_kinds_12 ?_
    refine lv_iconst (v := 3) hx hb dX7_kinds_13 (by decide) ?_
    obtain ⟨q3, hq3, hf⟩ := bind_some hf
    refine callV_i (As := [.int ((25 : Int32) + a1), .int (3 : Int32)]) (rest := []) S hB hP hS (C := RX7) (b := E.ad 22 0) (g_recv (o := 22) (d := 0) hB hP m_22_0 rfl rfl) (K_X7_numbersAt l hE σ z ((25 : Int32) + a1) (3 : Int32) hq3) (cwV 2 S.2.2.2.2 gX7_kinds_X7_numbersAt rfl rfl rfl (by decide +kernel) ⟨Nat.le_of_ble_eq_true rfl, Nat.le_of_ble_eq_true rfl⟩) rfl hl.1 rfl (Nat.le_of_ble_eq_true rfl) dX7_kinds_14 ⟨Nat.zero_le _, Nat.zero_le _⟩ (fun H locs hP hS => ?_)
    refine lv_goto (tgt := 21) hx hb dX7_kinds_17 (by decide) ?_
    exact fin dX7_kinds_21 (s1 hf) (by rw [(s2 hf)]) hP hS
theorem KW_X7_kinds (l : Launch) {E : En} (hE : Inj E) (X : Wd) (a1 : Int32) {r : Int32} {z' : Ob} (hf : f_X7_kinds (X 22) a1 = some (r, z')) : Cti l E yX7_kinds wsX7_kinds rm_X7_kinds [.ref (E.ad 22 0), .int a1] X r (va_up X 22 z') := by
  have h := K_X7_kinds l hE X (X 22) a1 hf
  rw [lens_all] at h
  exact h
/-! X7_tastes -/
abbrev rm_X7_tastes : Room := { frames := 6, cells := 0, slots := 0, locals := 144 }
set_option maxHeartbeats 4000000 in
set_option maxRecDepth 100000 in
theorem K_X7_tastes (l : Launch) {E : En} (hE : Inj E) (σ : Wd) (z : Ob) (a1 : Int32) {r : Int32} {z' : Ob} (hf : f_X7_tastes z a1 = some (r, z')) : Cti l E yX7_tastes wsX7_tastes rm_X7_tastes [.ref (E.ad 22 0), .int a1] (va_up σ 22 z) r (va_up σ 22 z') := by
  refine meet_i (cc := cX7_tastes) (maxL := 2) (own := RX7) (by decide) rfl rfl (Nat.le_of_ble_eq_true rfl) ?_
  intro p e s m below meth c Z S hB fin hP hS ls hl
  have hx := S.1
  have hb := S.2.1
  have hl : lv_has ls 2 [(0, .ref (E.ad 22 0)), (1, .int a1)] := hl
  unfold f_X7_tastes at hf
  refine lv_aload_n hx hb dX7_tastes_0 rfl (lv_at hl 0 rfl) ?_
  refine lv_iload_n hx hb dX7_tastes_1 rfl (lv_at hl 1 rfl) ?_
  obtain ⟨q1, hq1, hf⟩ := bind_some hf
  refine callV_i (As := [.int a1]) (rest := []) S hB hP hS (C := RX7) (b := E.ad 22 0) (g_recv (o := 22) (d := 0) hB hP m_22_0 rfl rfl) (K_X7_isGardener l hE σ z a1 hq1) (cwV 1 S.2.2.2.2 gX7_tastes_X7_isGardener rfl rfl rfl (by decide +kernel) ⟨Nat.le_of_ble_eq_true rfl, Nat.le_of_ble_eq_true rfl⟩) rfl hl.1 rfl (Nat.le_of_ble_eq_true rfl) dX7_tastes_2 ⟨Nat.zero_le _, Nat.zero_le _⟩ (fun H locs hP hS => ?_)
  refine lv_if_eq (tgt := 21) hx hb dX7_tastes_5 (by decide) (fun c2 => ?_) (fun c2 => ?_)
  · have hf := if_t c2 hf
    refine lv_iconst (v := -1) hx hb dX7_tastes_21 (by decide) ?_
    exact fin dX7_tastes_22 (s1 hf) (by rw [(s2 hf)]) hP hS
  · have hf := if_f c2 hf
    refine lv_aload_n hx hb dX7_tastes_8 rfl (lv_at hl 0 rfl) ?_
    refine lv_bipush (v := 29) hx hb dX7_tastes_9 (by decide) ?_
    refine lv_iload_n hx hb dX7_tastes_11 rfl (lv_at hl 1 rfl) ?_
    refine lv_iadd hx hb dX7_tastes_12 ?_
    refine lv_bipush (v := 23) hx hb dX7_tastes_13 (by decide) ?_
    obtain ⟨q3, hq3, hf⟩ := bind_some hf
    refine callV_i (As := [.int ((29 : Int32) + a1), .int (23 : Int32)]) (rest := []) S hB hP hS (C := RX7) (b := E.ad 22 0) (g_recv (o := 22) (d := 0) hB hP m_22_0 rfl rfl) (K_X7_numbersAt l hE σ z ((29 : Int32) + a1) (23 : Int32) hq3) (cwV 2 S.2.2.2.2 gX7_tastes_X7_numbersAt rfl rfl rfl (by decide +kernel) ⟨Nat.le_of_ble_eq_true rfl, Nat.le_of_ble_eq_true rfl⟩) rfl hl.1 rfl (Nat.le_of_ble_eq_true rfl) dX7_tastes_15 ⟨Nat.zero_le _, Nat.zero_le _⟩ (fun H locs hP hS => ?_)
    refine lv_goto (tgt := 22) hx hb dX7_tastes_18 (by decide) ?_
    exact fin dX7_tastes_22 (s1 hf) (by rw [(s2 hf)]) hP hS
theorem KW_X7_tastes (l : Launch) {E : En} (hE : Inj E) (X : Wd) (a1 : Int32) {r : Int32} {z' : Ob} (hf : f_X7_tastes (X 22) a1 = some (r, z')) : Cti l E yX7_tastes wsX7_tastes rm_X7_tastes [.ref (E.ad 22 0), .int a1] X r (va_up X 22 z') := by
  have h := K_X7_tastes l hE X (X 22) a1 hf
  rw [lens_all] at h
  exact h
