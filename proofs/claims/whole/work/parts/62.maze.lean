/-! X1_restart -/
abbrev rm_X1_restart : Room := { frames := 0, cells := 0, slots := 0, locals := 0 }
set_option maxHeartbeats 4000000 in
set_option maxRecDepth 100000 in
theorem K_X1_restart (l : Launch) {E : En} (hE : Inj E) (σ : Wd) {o : Nat} (h1 : 4 ≤ o) (h2 : o < 18) (z : Ob) {z' : Ob} (hf : f_X1_restart z = some z') : Ctv l E yX1_restart wsX1_restart rm_X1_restart [.ref (E.ad o 0)] (va_up σ o z)  (va_up σ o z') := by
  refine meet_v (cc := cX1_restart) (maxL := 1) (own := RX1) (by decide) rfl rfl (Nat.le_of_ble_eq_true rfl) ?_
  intro p e s m below meth c Z S hB fin hP hS ls hl
  have hx := S.1
  have hb := S.2.1
  have hl : lv_has ls 1 [(0, .ref (E.ad o 0))] := hl
  have hinX1 : ∀ w ∈ u_ws RX1 TX1 12, w ∈ wsX1_restart := by decide +kernel
  have fl9 := S.2.2.2.2 (.fieldLink RX1 9 "MownMaze$Maze" "hedges" "I") (by decide +kernel)
  have fl15 := S.2.2.2.2 (.fieldLink RX1 15 "MownMaze$Maze" "gate" "I") (by decide +kernel)
  have fl18 := S.2.2.2.2 (.fieldLink RX1 18 "MownMaze$Maze" "last" "I") (by decide +kernel)
  have fl21 := S.2.2.2.2 (.fieldLink RX1 21 "MownMaze$Maze" "day" "I") (by decide +kernel)
  have fl24 := S.2.2.2.2 (.fieldLink RX1 24 "MownMaze$Maze" "gardeners" "I") (by decide +kernel)
  have fl37 := S.2.2.2.2 (.fieldLink RX1 37 "MownMaze$Maze" "guests" "I") (by decide +kernel)
  unfold f_X1_restart at hf
  refine lv_aload_n hx hb dX1_restart_0 rfl (lv_at hl 0 rfl) ?_
  refine lv_iconst (v := 0) hx hb dX1_restart_1 (by decide) ?_
  refine g_put S hB hE hinX1 tyX1 tyX1_ok nmX1 hP hS (mem_mz h1 h2 (by decide)) (by rw [va_up_self]; exact (cell_mz E h1 h2) _) rfl 0 (by decide) fl9 rfl rfl rfl rfl (Nat.le_of_ble_eq_true rfl) (by rw [va_up_self]; exact (cell_mz E h1 h2) _) (X' := (va_up σ o (ob z 0 0 (0 : Int32)))) (lens_put σ o _ _ _ _) dX1_restart_2 (fun H locs hP hS => ?_)
  refine lv_aload_n hx hb dX1_restart_5 rfl (lv_at hl 0 rfl) ?_
  refine lv_iconst (v := 0) hx hb dX1_restart_6 (by decide) ?_
  refine g_put S hB hE hinX1 tyX1 tyX1_ok nmX1 hP hS (mem_mz h1 h2 (by decide)) (by rw [va_up_self]; exact (cell_mz E h1 h2) _) rfl 1 (by decide) fl15 rfl rfl rfl rfl (Nat.le_of_ble_eq_true rfl) (by rw [va_up_self]; exact (cell_mz E h1 h2) _) (X' := (va_up σ o (ob (ob z 0 0 (0 : Int32)) 0 1 (0 : Int32)))) (lens_put σ o _ _ _ _) dX1_restart_7 (fun H locs hP hS => ?_)
  refine lv_aload_n hx hb dX1_restart_10 rfl (lv_at hl 0 rfl) ?_
  refine lv_bipush (v := -4) hx hb dX1_restart_11 (by decide) ?_
  refine g_put S hB hE hinX1 tyX1 tyX1_ok nmX1 hP hS (mem_mz h1 h2 (by decide)) (by rw [va_up_self]; exact (cell_mz E h1 h2) _) rfl 2 (by decide) fl18 rfl rfl rfl rfl (Nat.le_of_ble_eq_true rfl) (by rw [va_up_self]; exact (cell_mz E h1 h2) _) (X' := (va_up σ o (ob (ob (ob z 0 0 (0 : Int32)) 0 1 (0 : Int32)) 0 2 (-4 : Int32)))) (lens_put σ o _ _ _ _) dX1_restart_13 (fun H locs hP hS => ?_)
  refine lv_aload_n hx hb dX1_restart_16 rfl (lv_at hl 0 rfl) ?_
  refine lv_iconst (v := 0) hx hb dX1_restart_17 (by decide) ?_
  refine g_put S hB hE hinX1 tyX1 tyX1_ok nmX1 hP hS (mem_mz h1 h2 (by decide)) (by rw [va_up_self]; exact (cell_mz E h1 h2) _) rfl 3 (by decide) fl21 rfl rfl rfl rfl (Nat.le_of_ble_eq_true rfl) (by rw [va_up_self]; exact (cell_mz E h1 h2) _) (X' := (va_up σ o (ob (ob (ob (ob z 0 0 (0 : Int32)) 0 1 (0 : Int32)) 0 2 (-4 : Int32)) 0 3 (0 : Int32)))) (lens_put σ o _ _ _ _) dX1_restart_18 (fun H locs hP hS => ?_)
  refine lv_aload_n hx hb dX1_restart_21 rfl (lv_at hl 0 rfl) ?_
  refine lv_iconst (v := 0) hx hb dX1_restart_22 (by decide) ?_
  refine g_put S hB hE hinX1 tyX1 tyX1_ok nmX1 hP hS (mem_mz h1 h2 (by decide)) (by rw [va_up_self]; exact (cell_mz E h1 h2) _) rfl 4 (by decide) fl24 rfl rfl rfl rfl (Nat.le_of_ble_eq_true rfl) (by rw [va_up_self]; exact (cell_mz E h1 h2) _) (X' := (va_up σ o (ob (ob (ob (ob (ob z 0 0 (0 : Int32)) 0 1 (0 : Int32)) 0 2 (-4 : Int32)) 0 3 (0 : Int32)) 0 4 (0 : Int32)))) (lens_put σ o _ _ _ _) dX1_restart_23 (fun H locs hP hS => ?_)
  refine lv_aload_n hx hb dX1_restart_26 rfl (lv_at hl 0 rfl) ?_
  refine lv_iconst (v := 0) hx hb dX1_restart_27 (by decide) ?_
  refine g_put S hB hE hinX1 tyX1 tyX1_ok nmX1 hP hS (mem_mz h1 h2 (by decide)) (by rw [va_up_self]; exact (cell_mz E h1 h2) _) rfl 8 (by decide) fl37 rfl rfl rfl rfl (Nat.le_of_ble_eq_true rfl) (by rw [va_up_self]; exact (cell_mz E h1 h2) _) (X' := (va_up σ o (ob (ob (ob (ob (ob (ob z 0 0 (0 : Int32)) 0 1 (0 : Int32)) 0 2 (-4 : Int32)) 0 3 (0 : Int32)) 0 4 (0 : Int32)) 0 8 (0 : Int32)))) (lens_put σ o _ _ _ _) dX1_restart_28 (fun H locs hP hS => ?_)
  exact fin dX1_restart_31  (by rw [(s0 hf)]) hP hS
theorem KW_X1_restart (l : Launch) {E : En} (hE : Inj E) (X : Wd) {o : Nat} (h1 : 4 ≤ o) (h2 : o < 18) {z' : Ob} (hf : f_X1_restart (X o) = some z') : Ctv l E yX1_restart wsX1_restart rm_X1_restart [.ref (E.ad o 0)] X  (va_up X o z') := by
  have h := K_X1_restart l hE X h1 h2 (X o)  hf
  rw [lens_all] at h
  exact h
/-! X1_become -/
abbrev rm_X1_become : Room := { frames := 0, cells := 0, slots := 0, locals := 0 }
set_option maxHeartbeats 4000000 in
set_option maxRecDepth 100000 in
theorem K_X1_become (l : Launch) {E : En} (hE : Inj E) (σ : Wd) {o : Nat} (h1 : 4 ≤ o) (h2 : o < 18) (z : Ob) {o2 : Nat} (h3 : 4 ≤ o2) (h4 : o2 < 18) (hne : o2 ≠ o) {z' : Ob} (hf : f_X1_become z (σ o2) = some z') : Ctv l E yX1_become wsX1_become rm_X1_become [.ref (E.ad o 0), .ref (E.ad o2 0)] (va_up σ o z)  (va_up σ o z') := by
  refine meet_v (cc := cX1_become) (maxL := 3) (own := RX1) (by decide) rfl rfl (Nat.le_of_ble_eq_true rfl) ?_
  intro p e s m below meth c Z S hB fin hP hS ls hl
  have hx := S.1
  have hb := S.2.1
  have hl : lv_has ls 3 [(0, .ref (E.ad o 0)), (1, .ref (E.ad o2 0))] := hl
  have hinX1 : ∀ w ∈ u_ws RX1 TX1 12, w ∈ wsX1_become := by decide +kernel
  have fl9 := S.2.2.2.2 (.fieldLink RX1 9 "MownMaze$Maze" "hedges" "I") (by decide +kernel)
  have fl15 := S.2.2.2.2 (.fieldLink RX1 15 "MownMaze$Maze" "gate" "I") (by decide +kernel)
  have fl18 := S.2.2.2.2 (.fieldLink RX1 18 "MownMaze$Maze" "last" "I") (by decide +kernel)
  have fl21 := S.2.2.2.2 (.fieldLink RX1 21 "MownMaze$Maze" "day" "I") (by decide +kernel)
  have fl24 := S.2.2.2.2 (.fieldLink RX1 24 "MownMaze$Maze" "gardeners" "I") (by decide +kernel)
  have fl27 := S.2.2.2.2 (.fieldLink RX1 27 "MownMaze$Maze" "kind" "[I") (by decide +kernel)
  have fl31 := S.2.2.2.2 (.fieldLink RX1 31 "MownMaze$Maze" "taste" "[I") (by decide +kernel)
  have fl34 := S.2.2.2.2 (.fieldLink RX1 34 "MownMaze$Maze" "pace" "[I") (by decide +kernel)
  have fl37 := S.2.2.2.2 (.fieldLink RX1 37 "MownMaze$Maze" "guests" "I") (by decide +kernel)
  have fl40 := S.2.2.2.2 (.fieldLink RX1 40 "MownMaze$Maze" "at" "[I") (by decide +kernel)
  have fl43 := S.2.2.2.2 (.fieldLink RX1 43 "MownMaze$Maze" "food" "[I") (by decide +kernel)
  have fl46 := S.2.2.2.2 (.fieldLink RX1 46 "MownMaze$Maze" "fate" "[I") (by decide +kernel)
  generalize hw9 : σ o2 = w at hf
  have hL99 : ∀ (n99 : Nat) (z : Ob) (x2 : Int32) (H : Heap) (locs : List Loc) (ls : Array Slot), f_X1_become_l99 n99 z w x2 = some z' → va_P E.1 vwCl (GW E (va_up σ o z)) H → va_S (GA E) s.heap H locs → lv_has ls 3 [(0, .ref (E.ad o 0)), (1, .ref (E.ad o2 0)), (2, .int x2)] → W p l e rm_X1_become s m ([.ref (E.ad o 0), .ref (E.ad o2 0)] : List Value).toArray below meth c H locs 0 0 Z (F0 m 99 ls []) := by
    intro n99
    induction n99 with
    | zero =>
      intro z x2 H locs ls hf
      cases (show (none : Option _) = some _ from hf)
    | succ n99 ih99 =>
      intro z x2 H locs ls hf hP hS hl
      unfold f_X1_become_l99 at hf
      refine lv_iload_n hx hb dX1_become_99 rfl (lv_at hl 2 rfl) ?_
      refine lv_iconst (v := 4) hx hb dX1_become_100 (by decide) ?_
      refine lv_icmp_ge (tgt := 146) hx hb dX1_become_101 (by decide) (fun c1 => ?_) (fun c1 => ?_)
      · have hf := if_t c1 hf
        exact fin dX1_become_146  (by rw [(s0 hf)]) hP hS
      · have hf := if_f c1 hf
        refine lv_aload_n hx hb dX1_become_104 rfl (lv_at hl 0 rfl) ?_
        refine g_get (v := .ref (E.ad o 4)) S hB hinX1 hP (mem_mz h1 h2 (by decide)) (by rw [va_up_self]; exact (cell_mz E h1 h2) _) rfl 9 (by decide) fl40 rfl rfl dX1_become_105 ?_
        refine lv_iload_n hx hb dX1_become_108 rfl (lv_at hl 2 rfl) ?_
        refine lv_aload_n hx hb dX1_become_109 rfl (lv_at hl 1 rfl) ?_
        refine g_get (v := .ref (E.ad o2 4)) S hB hinX1 hP (mem_mz h3 h4 (by decide)) (by rw [va_up_ne _ _ hne, hw9]; exact (cell_mz E h3 h4) _) rfl 9 (by decide) fl40 rfl rfl dX1_become_110 ?_
        refine lv_iload_n hx hb dX1_become_113 rfl (lv_at hl 2 rfl) ?_
        obtain ⟨hv2, hf⟩ := ck_some hf
        refine g_iald (r := w 4) S hB hP (mem_mz h3 h4 (by decide)) (by rw [va_up_ne _ _ hne, hw9]; exact (cell_ma E h3 h4 (by decide)) _) hv2 dX1_become_114 ?_
        obtain ⟨hv3, hf⟩ := ck_some hf
        refine g_iast (r := z 4) S hB hE hP hS (mem_mz h1 h2 (by decide)) (by rw [va_up_self]; exact (cell_ma E h1 h2 (by decide)) _) (by rw [va_up_self]) (cell_ma E h1 h2 (by decide)) hv3 (X' := (va_up σ o (ob z 4 x2.toNatClampNeg (w 4 x2.toNatClampNeg)))) (lens_put σ o _ _ _ _) dX1_become_115 (fun H locs hP hS => ?_)
        refine lv_aload_n hx hb dX1_become_116 rfl (lv_at hl 0 rfl) ?_
        refine g_get (v := .ref (E.ad o 5)) S hB hinX1 hP (mem_mz h1 h2 (by decide)) (by rw [va_up_self]; exact (cell_mz E h1 h2) _) rfl 10 (by decide) fl43 rfl rfl dX1_become_117 ?_
        refine lv_iload_n hx hb dX1_become_120 rfl (lv_at hl 2 rfl) ?_
        refine lv_aload_n hx hb dX1_become_121 rfl (lv_at hl 1 rfl) ?_
        refine g_get (v := .ref (E.ad o2 5)) S hB hinX1 hP (mem_mz h3 h4 (by decide)) (by rw [va_up_ne _ _ hne, hw9]; exact (cell_mz E h3 h4) _) rfl 10 (by decide) fl43 rfl rfl dX1_become_122 ?_
        refine lv_iload_n hx hb dX1_become_125 rfl (lv_at hl 2 rfl) ?_
        obtain ⟨hv4, hf⟩ := ck_some hf
        refine g_iald (r := w 5) S hB hP (mem_mz h3 h4 (by decide)) (by rw [va_up_ne _ _ hne, hw9]; exact (cell_ma E h3 h4 (by decide)) _) hv4 dX1_become_126 ?_
        obtain ⟨hv5, hf⟩ := ck_some hf
        refine g_iast (r := (ob z 4 x2.toNatClampNeg (w 4 x2.toNatClampNeg)) 5) S hB hE hP hS (mem_mz h1 h2 (by decide)) (by rw [va_up_self]; exact (cell_ma E h1 h2 (by decide)) _) (by rw [va_up_self]) (cell_ma E h1 h2 (by decide)) hv5 (X' := (va_up σ o (ob (ob z 4 x2.toNatClampNeg (w 4 x2.toNatClampNeg)) 5 x2.toNatClampNeg (w 5 x2.toNatClampNeg)))) (lens_put σ o _ _ _ _) dX1_become_127 (fun H locs hP hS => ?_)
        refine lv_aload_n hx hb dX1_become_128 rfl (lv_at hl 0 rfl) ?_
        refine g_get (v := .ref (E.ad o 6)) S hB hinX1 hP (mem_mz h1 h2 (by decide)) (by rw [va_up_self]; exact (cell_mz E h1 h2) _) rfl 11 (by decide) fl46 rfl rfl dX1_become_129 ?_
        refine lv_iload_n hx hb dX1_become_132 rfl (lv_at hl 2 rfl) ?_
        refine lv_aload_n hx hb dX1_become_133 rfl (lv_at hl 1 rfl) ?_
        refine g_get (v := .ref (E.ad o2 6)) S hB hinX1 hP (mem_mz h3 h4 (by decide)) (by rw [va_up_ne _ _ hne, hw9]; exact (cell_mz E h3 h4) _) rfl 11 (by decide) fl46 rfl rfl dX1_become_134 ?_
        refine lv_iload_n hx hb dX1_become_137 rfl (lv_at hl 2 rfl) ?_
        obtain ⟨hv6, hf⟩ := ck_some hf
        refine g_iald (r := w 6) S hB hP (mem_mz h3 h4 (by decide)) (by rw [va_up_ne _ _ hne, hw9]; exact (cell_ma E h3 h4 (by decide)) _) hv6 dX1_become_138 ?_
        obtain ⟨hv7, hf⟩ := ck_some hf
        refine g_iast (r := (ob (ob z 4 x2.toNatClampNeg (w 4 x2.toNatClampNeg)) 5 x2.toNatClampNeg (w 5 x2.toNatClampNeg)) 6) S hB hE hP hS (mem_mz h1 h2 (by decide)) (by rw [va_up_self]; exact (cell_ma E h1 h2 (by decide)) _) (by rw [va_up_self]) (cell_ma E h1 h2 (by decide)) hv7 (X' := (va_up σ o (ob (ob (ob z 4 x2.toNatClampNeg (w 4 x2.toNatClampNeg)) 5 x2.toNatClampNeg (w 5 x2.toNatClampNeg)) 6 x2.toNatClampNeg (w 6 x2.toNatClampNeg)))) (lens_put σ o _ _ _ _) dX1_become_139 (fun H locs hP hS => ?_)
        refine lv_iinc (v := x2 + (1 : Int32)) (lv' := [(2, .int (x2 + (1 : Int32))), (0, .ref (E.ad o 0)), (1, .ref (E.ad o2 0))]) hx hb dX1_become_140 hl (k := 2) rfl rfl (by decide) rfl (fun ls hl => ?_)
        refine lv_goto (tgt := 99) hx hb dX1_become_143 (by decide) ?_
        exact ih99 (ob (ob (ob z 4 x2.toNatClampNeg (w 4 x2.toNatClampNeg)) 5 x2.toNatClampNeg (w 5 x2.toNatClampNeg)) 6 x2.toNatClampNeg (w 6 x2.toNatClampNeg)) (x2 + (1 : Int32)) _ _ _ hf hP hS (lv_sub hl [1, 2, 0] rfl)
  have hL50 : ∀ (n50 : Nat) (z : Ob) (x2 : Int32) (H : Heap) (locs : List Loc) (ls : Array Slot), f_X1_become_l50 n50 z w x2 = some z' → va_P E.1 vwCl (GW E (va_up σ o z)) H → va_S (GA E) s.heap H locs → lv_has ls 3 [(0, .ref (E.ad o 0)), (1, .ref (E.ad o2 0)), (2, .int x2)] → W p l e rm_X1_become s m ([.ref (E.ad o 0), .ref (E.ad o2 0)] : List Value).toArray below meth c H locs 0 0 Z (F0 m 50 ls []) := by
    intro n50
    induction n50 with
    | zero =>
      intro z x2 H locs ls hf
      cases (show (none : Option _) = some _ from hf)
    | succ n50 ih50 =>
      intro z x2 H locs ls hf hP hS hl
      unfold f_X1_become_l50 at hf
      refine lv_iload_n hx hb dX1_become_50 rfl (lv_at hl 2 rfl) ?_
      refine lv_iconst (v := 4) hx hb dX1_become_51 (by decide) ?_
      refine lv_icmp_ge (tgt := 97) hx hb dX1_become_52 (by decide) (fun c8 => ?_) (fun c8 => ?_)
      · have hf := if_t c8 hf
        refine lv_iconst (v := 0) hx hb dX1_become_97 (by decide) ?_
        refine lv_istore_n (lv' := [(2, .int (0 : Int32)), (0, .ref (E.ad o 0)), (1, .ref (E.ad o2 0))]) hx hb dX1_become_98 rfl hl (by decide) rfl (fun ls hl => ?_)
        exact hL99 FUEL z (0 : Int32) _ _ _ hf hP hS (lv_sub hl [1, 2, 0] rfl)
      · have hf := if_f c8 hf
        refine lv_aload_n hx hb dX1_become_55 rfl (lv_at hl 0 rfl) ?_
        refine g_get (v := .ref (E.ad o 1)) S hB hinX1 hP (mem_mz h1 h2 (by decide)) (by rw [va_up_self]; exact (cell_mz E h1 h2) _) rfl 5 (by decide) fl27 rfl rfl dX1_become_56 ?_
        refine lv_iload_n hx hb dX1_become_59 rfl (lv_at hl 2 rfl) ?_
        refine lv_aload_n hx hb dX1_become_60 rfl (lv_at hl 1 rfl) ?_
        refine g_get (v := .ref (E.ad o2 1)) S hB hinX1 hP (mem_mz h3 h4 (by decide)) (by rw [va_up_ne _ _ hne, hw9]; exact (cell_mz E h3 h4) _) rfl 5 (by decide) fl27 rfl rfl dX1_become_61 ?_
        refine lv_iload_n hx hb dX1_become_64 rfl (lv_at hl 2 rfl) ?_
        obtain ⟨hv9, hf⟩ := ck_some hf
        refine g_iald (r := w 1) S hB hP (mem_mz h3 h4 (by decide)) (by rw [va_up_ne _ _ hne, hw9]; exact (cell_ma E h3 h4 (by decide)) _) hv9 dX1_become_65 ?_
        obtain ⟨hv10, hf⟩ := ck_some hf
        refine g_iast (r := z 1) S hB hE hP hS (mem_mz h1 h2 (by decide)) (by rw [va_up_self]; exact (cell_ma E h1 h2 (by decide)) _) (by rw [va_up_self]) (cell_ma E h1 h2 (by decide)) hv10 (X' := (va_up σ o (ob z 1 x2.toNatClampNeg (w 1 x2.toNatClampNeg)))) (lens_put σ o _ _ _ _) dX1_become_66 (fun H locs hP hS => ?_)
        refine lv_aload_n hx hb dX1_become_67 rfl (lv_at hl 0 rfl) ?_
        refine g_get (v := .ref (E.ad o 2)) S hB hinX1 hP (mem_mz h1 h2 (by decide)) (by rw [va_up_self]; exact (cell_mz E h1 h2) _) rfl 6 (by decide) fl31 rfl rfl dX1_become_68 ?_
        refine lv_iload_n hx hb dX1_become_71 rfl (lv_at hl 2 rfl) ?_
        refine lv_aload_n hx hb dX1_become_72 rfl (lv_at hl 1 rfl) ?_
        refine g_get (v := .ref (E.ad o2 2)) S hB hinX1 hP (mem_mz h3 h4 (by decide)) (by rw [va_up_ne _ _ hne, hw9]; exact (cell_mz E h3 h4) _) rfl 6 (by decide) fl31 rfl rfl dX1_become_73 ?_
        refine lv_iload_n hx hb dX1_become_76 rfl (lv_at hl 2 rfl) ?_
        obtain ⟨hv11, hf⟩ := ck_some hf
        refine g_iald (r := w 2) S hB hP (mem_mz h3 h4 (by decide)) (by rw [va_up_ne _ _ hne, hw9]; exact (cell_ma E h3 h4 (by decide)) _) hv11 dX1_become_77 ?_
        obtain ⟨hv12, hf⟩ := ck_some hf
        refine g_iast (r := (ob z 1 x2.toNatClampNeg (w 1 x2.toNatClampNeg)) 2) S hB hE hP hS (mem_mz h1 h2 (by decide)) (by rw [va_up_self]; exact (cell_ma E h1 h2 (by decide)) _) (by rw [va_up_self]) (cell_ma E h1 h2 (by decide)) hv12 (X' := (va_up σ o (ob (ob z 1 x2.toNatClampNeg (w 1 x2.toNatClampNeg)) 2 x2.toNatClampNeg (w 2 x2.toNatClampNeg)))) (lens_put σ o _ _ _ _) dX1_become_78 (fun H locs hP hS => ?_)
        refine lv_aload_n hx hb dX1_become_79 rfl (lv_at hl 0 rfl) ?_
        refine g_get (v := .ref (E.ad o 3)) S hB hinX1 hP (mem_mz h1 h2 (by decide)) (by rw [va_up_self]; exact (cell_mz E h1 h2) _) rfl 7 (by decide) fl34 rfl rfl dX1_become_80 ?_
        refine lv_iload_n hx hb dX1_become_83 rfl (lv_at hl 2 rfl) ?_
        refine lv_aload_n hx hb dX1_become_84 rfl (lv_at hl 1 rfl) ?_
        refine g_get (v := .ref (E.ad o2 3)) S hB hinX1 hP (mem_mz h3 h4 (by decide)) (by rw [va_up_ne _ _ hne, hw9]; exact (cell_mz E h3 h4) _) rfl 7 (by decide) fl34 rfl rfl dX1_become_85 ?_
        refine lv_iload_n hx hb dX1_become_88 rfl (lv_at hl 2 rfl) ?_
        obtain ⟨hv13, hf⟩ := ck_some hf
        refine g_iald (r := w 3) S hB hP (mem_mz h3 h4 (by decide)) (by rw [va_up_ne _ _ hne, hw9]; exact (cell_ma E h3 h4 (by decide)) _) hv13 dX1_become_89 ?_
        obtain ⟨hv14, hf⟩ := ck_some hf
        refine g_iast (r := (ob (ob z 1 x2.toNatClampNeg (w 1 x2.toNatClampNeg)) 2 x2.toNatClampNeg (w 2 x2.toNatClampNeg)) 3) S hB hE hP hS (mem_mz h1 h2 (by decide)) (by rw [va_up_self]; exact (cell_ma E h1 h2 (by decide)) _) (by rw [va_up_self]) (cell_ma E h1 h2 (by decide)) hv14 (X' := (va_up σ o (ob (ob (ob z 1 x2.toNatClampNeg (w 1 x2.toNatClampNeg)) 2 x2.toNatClampNeg (w 2 x2.toNatClampNeg)) 3 x2.toNatClampNeg (w 3 x2.toNatClampNeg)))) (lens_put σ o _ _ _ _) dX1_become_90 (fun H locs hP hS => ?_)
        refine lv_iinc (v := x2 + (1 : Int32)) (lv' := [(2, .int (x2 + (1 : Int32))), (0, .ref (E.ad o 0)), (1, .ref (E.ad o2 0))]) hx hb dX1_become_91 hl (k := 2) rfl rfl (by decide) rfl (fun ls hl => ?_)
        refine lv_goto (tgt := 50) hx hb dX1_become_94 (by decide) ?_
        exact ih50 (ob (ob (ob z 1 x2.toNatClampNeg (w 1 x2.toNatClampNeg)) 2 x2.toNatClampNeg (w 2 x2.toNatClampNeg)) 3 x2.toNatClampNeg (w 3 x2.toNatClampNeg)) (x2 + (1 : Int32)) _ _ _ hf hP hS (lv_sub hl [1, 2, 0] rfl)
  unfold f_X1_become at hf
  refine lv_aload_n hx hb dX1_become_0 rfl (lv_at hl 0 rfl) ?_
  refine lv_aload_n hx hb dX1_become_1 rfl (lv_at hl 1 rfl) ?_
  refine g_get (v := .int (w 0 0)) S hB hinX1 hP (mem_mz h3 h4 (by decide)) (by rw [va_up_ne _ _ hne, hw9]; exact (cell_mz E h3 h4) _) rfl 0 (by decide) fl9 rfl rfl dX1_become_2 ?_
  refine g_put S hB hE hinX1 tyX1 tyX1_ok nmX1 hP hS (mem_mz h1 h2 (by decide)) (by rw [va_up_self]; exact (cell_mz E h1 h2) _) rfl 0 (by decide) fl9 rfl rfl rfl rfl (Nat.le_of_ble_eq_true rfl) (by rw [va_up_self]; exact (cell_mz E h1 h2) _) (X' := (va_up σ o (ob z 0 0 (w 0 0)))) (lens_put σ o _ _ _ _) dX1_become_5 (fun H locs hP hS => ?_)
  refine lv_aload_n hx hb dX1_become_8 rfl (lv_at hl 0 rfl) ?_
  refine lv_aload_n hx hb dX1_become_9 rfl (lv_at hl 1 rfl) ?_
  refine g_get (v := .int (w 0 1)) S hB hinX1 hP (mem_mz h3 h4 (by decide)) (by rw [va_up_ne _ _ hne, hw9]; exact (cell_mz E h3 h4) _) rfl 1 (by decide) fl15 rfl rfl dX1_become_10 ?_
  refine g_put S hB hE hinX1 tyX1 tyX1_ok nmX1 hP hS (mem_mz h1 h2 (by decide)) (by rw [va_up_self]; exact (cell_mz E h1 h2) _) rfl 1 (by decide) fl15 rfl rfl rfl rfl (Nat.le_of_ble_eq_true rfl) (by rw [va_up_self]; exact (cell_mz E h1 h2) _) (X' := (va_up σ o (ob (ob z 0 0 (w 0 0)) 0 1 (w 0 1)))) (lens_put σ o _ _ _ _) dX1_become_13 (fun H locs hP hS => ?_)
  refine lv_aload_n hx hb dX1_become_16 rfl (lv_at hl 0 rfl) ?_
  refine lv_aload_n hx hb dX1_become_17 rfl (lv_at hl 1 rfl) ?_
  refine g_get (v := .int (w 0 2)) S hB hinX1 hP (mem_mz h3 h4 (by decide)) (by rw [va_up_ne _ _ hne, hw9]; exact (cell_mz E h3 h4) _) rfl 2 (by decide) fl18 rfl rfl dX1_become_18 ?_
  refine g_put S hB hE hinX1 tyX1 tyX1_ok nmX1 hP hS (mem_mz h1 h2 (by decide)) (by rw [va_up_self]; exact (cell_mz E h1 h2) _) rfl 2 (by decide) fl18 rfl rfl rfl rfl (Nat.le_of_ble_eq_true rfl) (by rw [va_up_self]; exact (cell_mz E h1 h2) _) (X' := (va_up σ o (ob (ob (ob z 0 0 (w 0 0)) 0 1 (w 0 1)) 0 2 (w 0 2)))) (lens_put σ o _ _ _ _) dX1_become_21 (fun H locs hP hS => ?_)
  refine lv_aload_n hx hb dX1_become_24 rfl (lv_at hl 0 rfl) ?_
  refine lv_aload_n hx hb dX1_become_25 rfl (lv_at hl 1 rfl) ?_
  refine g_get (v := .int (w 0 3)) S hB hinX1 hP (mem_mz h3 h4 (by decide)) (by rw [va_up_ne _ _ hne, hw9]; exact (cell_mz E h3 h4) _) rfl 3 (by decide) fl21 rfl rfl dX1_become_26 ?_
  refine g_put S hB hE hinX1 tyX1 tyX1_ok nmX1 hP hS (mem_mz h1 h2 (by decide)) (by rw [va_up_self]; exact (cell_mz E h1 h2) _) rfl 3 (by decide) fl21 rfl rfl rfl rfl (Nat.le_of_ble_eq_true rfl) (by rw [va_up_self]; exact (cell_mz E h1 h2) _) (X' := (va_up σ o (ob (ob (ob (ob z 0 0 (w 0 0)) 0 1 (w 0 1)) 0 2 (w 0 2)) 0 3 (w 0 3)))) (lens_put σ o _ _ _ _) dX1_become_29 (fun H locs hP hS => ?_)
  refine lv_aload_n hx hb dX1_become_32 rfl (lv_at hl 0 rfl) ?_
  refine lv_aload_n hx hb dX1_become_33 rfl (lv_at hl 1 rfl) ?_
  refine g_get (v := .int (w 0 4)) S hB hinX1 hP (mem_mz h3 h4 (by decide)) (by rw [va_up_ne _ _ hne, hw9]; exact (cell_mz E h3 h4) _) rfl 4 (by decide) fl24 rfl rfl dX1_become_34 ?_
  refine g_put S hB hE hinX1 tyX1 tyX1_ok nmX1 hP hS (mem_mz h1 h2 (by decide)) (by rw [va_up_self]; exact (cell_mz E h1 h2) _) rfl 4 (by decide) fl24 rfl rfl rfl rfl (Nat.le_of_ble_eq_true rfl) (by rw [va_up_self]; exact (cell_mz E h1 h2) _) (X' := (va_up σ o (ob (ob (ob (ob (ob z 0 0 (w 0 0)) 0 1 (w 0 1)) 0 2 (w 0 2)) 0 3 (w 0 3)) 0 4 (w 0 4)))) (lens_put σ o _ _ _ _) dX1_become_37 (fun H locs hP hS => ?_)
  refine lv_aload_n hx hb dX1_become_40 rfl (lv_at hl 0 rfl) ?_
  refine lv_aload_n hx hb dX1_become_41 rfl (lv_at hl 1 rfl) ?_
  refine g_get (v := .int (w 0 8)) S hB hinX1 hP (mem_mz h3 h4 (by decide)) (by rw [va_up_ne _ _ hne, hw9]; exact (cell_mz E h3 h4) _) rfl 8 (by decide) fl37 rfl rfl dX1_become_42 ?_
  refine g_put S hB hE hinX1 tyX1 tyX1_ok nmX1 hP hS (mem_mz h1 h2 (by decide)) (by rw [va_up_self]; exact (cell_mz E h1 h2) _) rfl 8 (by decide) fl37 rfl rfl rfl rfl (Nat.le_of_ble_eq_true rfl) (by rw [va_up_self]; exact (cell_mz E h1 h2) _) (X' := (va_up σ o (ob (ob (ob (ob (ob (ob z 0 0 (w 0 0)) 0 1 (w 0 1)) 0 2 (w 0 2)) 0 3 (w 0 3)) 0 4 (w 0 4)) 0 8 (w 0 8)))) (lens_put σ o _ _ _ _) dX1_become_45 (fun H locs hP hS => ?_)
  refine lv_iconst (v := 0) hx hb dX1_become_48 (by decide) ?_
  refine lv_istore_n (lv' := [(2, .int (0 : Int32)), (0, .ref (E.ad o 0)), (1, .ref (E.ad o2 0))]) hx hb dX1_become_49 rfl hl (by decide) rfl (fun ls hl => ?_)
  exact hL50 FUEL (ob (ob (ob (ob (ob (ob z 0 0 (w 0 0)) 0 1 (w 0 1)) 0 2 (w 0 2)) 0 3 (w 0 3)) 0 4 (w 0 4)) 0 8 (w 0 8)) (0 : Int32) _ _ _ hf hP hS (lv_sub hl [1, 2, 0] rfl)
theorem KW_X1_become (l : Launch) {E : En} (hE : Inj E) (X : Wd) {o : Nat} (h1 : 4 ≤ o) (h2 : o < 18) {o2 : Nat} (h3 : 4 ≤ o2) (h4 : o2 < 18) (hne : o2 ≠ o) {z' : Ob} (hf : f_X1_become (X o) (X o2) = some z') : Ctv l E yX1_become wsX1_become rm_X1_become [.ref (E.ad o 0), .ref (E.ad o2 0)] X  (va_up X o z') := by
  have h := K_X1_become l hE X h1 h2 (X o) h3 h4 hne  hf
  rw [lens_all] at h
  exact h
/-! X1_isTrait -/
abbrev rm_X1_isTrait : Room := { frames := 0, cells := 0, slots := 0, locals := 0 }
set_option maxHeartbeats 4000000 in
set_option maxRecDepth 100000 in
theorem K_X1_isTrait (l : Launch) {E : En} (hE : Inj E) (X : Wd) (a0 : Int32) (a1 : Int32) {r : Int32} (hf : f_X1_isTrait a0 a1 = some r) : Cti l E yX1_isTrait wsX1_isTrait rm_X1_isTrait [.int a0, .int a1] X r X := by
  refine meet_z (cc := cX1_isTrait) (maxL := 3) (own := RX1) (by decide) rfl rfl (Nat.le_of_ble_eq_true rfl) ?_
  intro p e s m below meth c Z S hB fin hP hS ls hl
  have hx := S.1
  have hb := S.2.1
  have hl : lv_has ls 3 [(0, .int a0), (1, .int a1)] := hl
  have hB20 : ∀ (x1 : Int32) (y0 : Int32) (H : Heap) (locs : List Loc) (ls : Array Slot), f_X1_isTrait_b20 x1 y0 = some r → va_P E.1 vwCl (GW E X) H → va_S (GA E) s.heap H locs → lv_has ls 3 [(1, .int x1)] → W p l e rm_X1_isTrait s m ([.int a0, .int a1] : List Value).toArray below meth c H locs 0 0 Z (F0 m 20 ls [.int y0]) := by
    intro x1 y0 H locs ls hf hP hS hl
    unfold f_X1_isTrait_b20 at hf
    refine lv_istore_n (lv' := [(2, .int y0), (1, .int x1)]) hx hb dX1_isTrait_20 rfl hl (by decide) rfl (fun ls hl => ?_)
    refine lv_iload_n hx hb dX1_isTrait_21 rfl (lv_at hl 1 rfl) ?_
    refine lv_if_lt (tgt := 34) hx hb dX1_isTrait_22 (by decide) (fun c3 => ?_) (fun c3 => ?_)
    · have hf := if_t c3 hf
      refine lv_iconst (v := 0) hx hb dX1_isTrait_34 (by decide) ?_
      exact fin dX1_isTrait_35 (nz01 (by decide)) (s0 hf) rfl hP hS
    · have hf := if_f c3 hf
      refine lv_iload_n hx hb dX1_isTrait_25 rfl (lv_at hl 1 rfl) ?_
      refine lv_iload_n hx hb dX1_isTrait_26 rfl (lv_at hl 0 rfl) ?_
      refine lv_icmp_ge (tgt := 34) hx hb dX1_isTrait_27 (by decide) (fun c4 => ?_) (fun c4 => ?_)
      · have hf := if_t c4 hf
        refine lv_iconst (v := 0) hx hb dX1_isTrait_34 (by decide) ?_
        exact fin dX1_isTrait_35 (nz01 (by decide)) (s0 hf) rfl hP hS
      · have hf := if_f c4 hf
        refine lv_iconst (v := 1) hx hb dX1_isTrait_30 (by decide) ?_
        refine lv_goto (tgt := 35) hx hb dX1_isTrait_31 (by decide) ?_
        exact fin dX1_isTrait_35 (nz01 (by decide)) (s0 hf) rfl hP hS
  unfold f_X1_isTrait at hf
  refine lv_iload_n hx hb dX1_isTrait_0 rfl (lv_at hl 0 rfl) ?_
  refine lv_if_ne (tgt := 8) hx hb dX1_isTrait_1 (by decide) (fun c1 => ?_) (fun c1 => ?_)
  · have hf := if_f c1 hf
    refine lv_iload_n hx hb dX1_isTrait_8 rfl (lv_at hl 0 rfl) ?_
    refine lv_iconst (v := 1) hx hb dX1_isTrait_9 (by decide) ?_
    refine lv_icmp_ne (tgt := 18) hx hb dX1_isTrait_10 (by decide) (fun c2 => ?_) (fun c2 => ?_)
    · have hf := if_f c2 hf
      refine lv_bipush (v := 10) hx hb dX1_isTrait_18 (by decide) ?_
      exact hB20 a1 (10 : Int32) _ _ _ hf hP hS (lv_sub hl [1] rfl)
    · have hf := if_t c2 hf
      refine lv_bipush (v := 24) hx hb dX1_isTrait_13 (by decide) ?_
      refine lv_goto (tgt := 20) hx hb dX1_isTrait_15 (by decide) ?_
      exact hB20 a1 (24 : Int32) _ _ _ hf hP hS (lv_sub hl [1] rfl)
  · have hf := if_t c1 hf
    refine lv_iconst (v := 4) hx hb dX1_isTrait_4 (by decide) ?_
    refine lv_goto (tgt := 20) hx hb dX1_isTrait_5 (by decide) ?_
    exact hB20 a1 (4 : Int32) _ _ _ hf hP hS (lv_sub hl [1] rfl)
/-! X1_trait -/
abbrev rm_X1_trait : Room := { frames := 0, cells := 0, slots := 0, locals := 0 }
set_option maxHeartbeats 4000000 in
set_option maxRecDepth 100000 in
theorem K_X1_trait (l : Launch) {E : En} (hE : Inj E) (σ : Wd) {o : Nat} (h1 : 4 ≤ o) (h2 : o < 18) (z : Ob) (a1 : Int32) {r : Nat} (hf : f_X1_trait z a1 = some r) : Ctr l E yX1_trait wsX1_trait rm_X1_trait [.ref (E.ad o 0), .int a1] (va_up σ o z) (E.ad o r) (va_up σ o z) := by
  refine meet_r (cc := cX1_trait) (maxL := 2) (own := RX1) (by decide) rfl rfl (Nat.le_of_ble_eq_true rfl) ?_
  intro p e s m below meth c Z S hB fin hP hS ls hl
  have hx := S.1
  have hb := S.2.1
  have hl : lv_has ls 2 [(0, .ref (E.ad o 0)), (1, .int a1)] := hl
  have hinX1 : ∀ w ∈ u_ws RX1 TX1 12, w ∈ wsX1_trait := by decide +kernel
  have fl27 := S.2.2.2.2 (.fieldLink RX1 27 "MownMaze$Maze" "kind" "[I") (by decide +kernel)
  have fl31 := S.2.2.2.2 (.fieldLink RX1 31 "MownMaze$Maze" "taste" "[I") (by decide +kernel)
  have fl34 := S.2.2.2.2 (.fieldLink RX1 34 "MownMaze$Maze" "pace" "[I") (by decide +kernel)
  unfold f_X1_trait at hf
  refine lv_iload_n hx hb dX1_trait_0 rfl (lv_at hl 1 rfl) ?_
  refine lv_if_ne (tgt := 11) hx hb dX1_trait_1 (by decide) (fun c1 => ?_) (fun c1 => ?_)
  · have hf := if_f c1 hf
    refine lv_iload_n hx hb dX1_trait_11 rfl (lv_at hl 1 rfl) ?_
    refine lv_iconst (v := 1) hx hb dX1_trait_12 (by decide) ?_
    refine lv_icmp_ne (tgt := 23) hx hb dX1_trait_13 (by decide) (fun c2 => ?_) (fun c2 => ?_)
    · have hf := if_f c2 hf
      refine lv_aload_n hx hb dX1_trait_23 rfl (lv_at hl 0 rfl) ?_
      refine g_get (v := .ref (E.ad o 3)) S hB hinX1 hP (mem_mz h1 h2 (by decide)) (by rw [va_up_self]; exact (cell_mz E h1 h2) _) rfl 7 (by decide) fl34 rfl rfl dX1_trait_24 ?_
      exact fin dX1_trait_27 (congrArg (E.ad o) (s0 hf)) rfl hP hS
    · have hf := if_t c2 hf
      refine lv_aload_n hx hb dX1_trait_16 rfl (lv_at hl 0 rfl) ?_
      refine g_get (v := .ref (E.ad o 2)) S hB hinX1 hP (mem_mz h1 h2 (by decide)) (by rw [va_up_self]; exact (cell_mz E h1 h2) _) rfl 6 (by decide) fl31 rfl rfl dX1_trait_17 ?_
      refine lv_goto (tgt := 27) hx hb dX1_trait_20 (by decide) ?_
      exact fin dX1_trait_27 (congrArg (E.ad o) (s0 hf)) rfl hP hS
  · have hf := if_t c1 hf
    refine lv_aload_n hx hb dX1_trait_4 rfl (lv_at hl 0 rfl) ?_
    refine g_get (v := .ref (E.ad o 1)) S hB hinX1 hP (mem_mz h1 h2 (by decide)) (by rw [va_up_self]; exact (cell_mz E h1 h2) _) rfl 5 (by decide) fl27 rfl rfl dX1_trait_5 ?_
    refine lv_goto (tgt := 27) hx hb dX1_trait_8 (by decide) ?_
    exact fin dX1_trait_27 (congrArg (E.ad o) (s0 hf)) rfl hP hS
theorem KW_X1_trait (l : Launch) {E : En} (hE : Inj E) (X : Wd) {o : Nat} (h1 : 4 ≤ o) (h2 : o < 18) (a1 : Int32) {r : Nat} (hf : f_X1_trait (X o) a1 = some r) : Ctr l E yX1_trait wsX1_trait rm_X1_trait [.ref (E.ad o 0), .int a1] X (E.ad o r) X := by
  have h := K_X1_trait l hE X h1 h2 (X o) a1 hf
  rw [lens_all] at h
  exact h
/-! X1_lot -/
abbrev rm_X1_lot : Room := { frames := 0, cells := 0, slots := 0, locals := 0 }
set_option maxHeartbeats 4000000 in
set_option maxRecDepth 100000 in
theorem K_X1_lot (l : Launch) {E : En} (hE : Inj E) (σ : Wd) {o : Nat} (h1 : 4 ≤ o) (h2 : o < 18) (z : Ob) (a1 : Int32) {r : Nat} (hf : f_X1_lot z a1 = some r) : Ctr l E yX1_lot wsX1_lot rm_X1_lot [.ref (E.ad o 0), .int a1] (va_up σ o z) (E.ad o r) (va_up σ o z) := by
  refine meet_r (cc := cX1_lot) (maxL := 2) (own := RX1) (by decide) rfl rfl (Nat.le_of_ble_eq_true rfl) ?_
  intro p e s m below meth c Z S hB fin hP hS ls hl
  have hx := S.1
  have hb := S.2.1
  have hl : lv_has ls 2 [(0, .ref (E.ad o 0)), (1, .int a1)] := hl
  have hinX1 : ∀ w ∈ u_ws RX1 TX1 12, w ∈ wsX1_lot := by decide +kernel
  have fl40 := S.2.2.2.2 (.fieldLink RX1 40 "MownMaze$Maze" "at" "[I") (by decide +kernel)
  have fl43 := S.2.2.2.2 (.fieldLink RX1 43 "MownMaze$Maze" "food" "[I") (by decide +kernel)
  have fl46 := S.2.2.2.2 (.fieldLink RX1 46 "MownMaze$Maze" "fate" "[I") (by decide +kernel)
  unfold f_X1_lot at hf
  refine lv_iload_n hx hb dX1_lot_0 rfl (lv_at hl 1 rfl) ?_
  refine lv_if_ne (tgt := 11) hx hb dX1_lot_1 (by decide) (fun c1 => ?_) (fun c1 => ?_)
  · have hf := if_f c1 hf
    refine lv_iload_n hx hb dX1_lot_11 rfl (lv_at hl 1 rfl) ?_
    refine lv_iconst (v := 1) hx hb dX1_lot_12 (by decide) ?_
    refine lv_icmp_ne (tgt := 23) hx hb dX1_lot_13 (by decide) (fun c2 => ?_) (fun c2 => ?_)
    · have hf := if_f c2 hf
      refine lv_aload_n hx hb dX1_lot_23 rfl (lv_at hl 0 rfl) ?_
      refine g_get (v := .ref (E.ad o 6)) S hB hinX1 hP (mem_mz h1 h2 (by decide)) (by rw [va_up_self]; exact (cell_mz E h1 h2) _) rfl 11 (by decide) fl46 rfl rfl dX1_lot_24 ?_
      exact fin dX1_lot_27 (congrArg (E.ad o) (s0 hf)) rfl hP hS
    · have hf := if_t c2 hf
      refine lv_aload_n hx hb dX1_lot_16 rfl (lv_at hl 0 rfl) ?_
      refine g_get (v := .ref (E.ad o 5)) S hB hinX1 hP (mem_mz h1 h2 (by decide)) (by rw [va_up_self]; exact (cell_mz E h1 h2) _) rfl 10 (by decide) fl43 rfl rfl dX1_lot_17 ?_
      refine lv_goto (tgt := 27) hx hb dX1_lot_20 (by decide) ?_
      exact fin dX1_lot_27 (congrArg (E.ad o) (s0 hf)) rfl hP hS
  · have hf := if_t c1 hf
    refine lv_aload_n hx hb dX1_lot_4 rfl (lv_at hl 0 rfl) ?_
    refine g_get (v := .ref (E.ad o 4)) S hB hinX1 hP (mem_mz h1 h2 (by decide)) (by rw [va_up_self]; exact (cell_mz E h1 h2) _) rfl 9 (by decide) fl40 rfl rfl dX1_lot_5 ?_
    refine lv_goto (tgt := 27) hx hb dX1_lot_8 (by decide) ?_
    exact fin dX1_lot_27 (congrArg (E.ad o) (s0 hf)) rfl hP hS
theorem KW_X1_lot (l : Launch) {E : En} (hE : Inj E) (X : Wd) {o : Nat} (h1 : 4 ≤ o) (h2 : o < 18) (a1 : Int32) {r : Nat} (hf : f_X1_lot (X o) a1 = some r) : Ctr l E yX1_lot wsX1_lot rm_X1_lot [.ref (E.ad o 0), .int a1] X (E.ad o r) X := by
  have h := K_X1_lot l hE X h1 h2 (X o) a1 hf
  rw [lens_all] at h
  exact h
/-! X1_addGardener -/
abbrev rm_X1_addGardener : Room := { frames := 0, cells := 0, slots := 0, locals := 0 }
set_option maxHeartbeats 4000000 in
set_option maxRecDepth 100000 in
theorem K_X1_addGardener (l : Launch) {E : En} (hE : Inj E) (σ : Wd) {o : Nat} (h1 : 4 ≤ o) (h2 : o < 18) (z : Ob) (a1 : Int32) (a2 : Int32) (a3 : Int32) {r : Int32} {z' : Ob} (hf : f_X1_addGardener z a1 a2 a3 = some (r, z')) : Cti l E yX1_addGardener wsX1_addGardener rm_X1_addGardener [.ref (E.ad o 0), .int a1, .int a2, .int a3] (va_up σ o z) r (va_up σ o z') := by
  refine meet_z (cc := cX1_addGardener) (maxL := 4) (own := RX1) (by decide) rfl rfl (Nat.le_of_ble_eq_true rfl) ?_
  intro p e s m below meth c Z S hB fin hP hS ls hl
  have hx := S.1
  have hb := S.2.1
  have hl : lv_has ls 4 [(0, .ref (E.ad o 0)), (1, .int a1), (2, .int a2), (3, .int a3)] := hl
  have hinX1 : ∀ w ∈ u_ws RX1 TX1 12, w ∈ wsX1_addGardener := by decide +kernel
  have fl24 := S.2.2.2.2 (.fieldLink RX1 24 "MownMaze$Maze" "gardeners" "I") (by decide +kernel)
  have fl27 := S.2.2.2.2 (.fieldLink RX1 27 "MownMaze$Maze" "kind" "[I") (by decide +kernel)
  have fl31 := S.2.2.2.2 (.fieldLink RX1 31 "MownMaze$Maze" "taste" "[I") (by decide +kernel)
  have fl34 := S.2.2.2.2 (.fieldLink RX1 34 "MownMaze$Maze" "pace" "[I") (by decide +kernel)
  unfold f_X1_addGardener at hf
  refine lv_aload_n hx hb dX1_addGardener_0 rfl (lv_at hl 0 rfl) ?_
  refine g_get (v := .int (z 0 4)) S hB hinX1 hP (mem_mz h1 h2 (by decide)) (by rw [va_up_self]; exact (cell_mz E h1 h2) _) rfl 4 (by decide) fl24 rfl rfl dX1_addGardener_1 ?_
  refine lv_iconst (v := 4) hx hb dX1_addGardener_4 (by decide) ?_
  refine lv_icmp_lt (tgt := 10) hx hb dX1_addGardener_5 (by decide) (fun c1 => ?_) (fun c1 => ?_)
  · have hf := if_t c1 hf
    refine lv_aload_n hx hb dX1_addGardener_10 rfl (lv_at hl 0 rfl) ?_
    refine g_get (v := .ref (E.ad o 1)) S hB hinX1 hP (mem_mz h1 h2 (by decide)) (by rw [va_up_self]; exact (cell_mz E h1 h2) _) rfl 5 (by decide) fl27 rfl rfl dX1_addGardener_11 ?_
    refine lv_aload_n hx hb dX1_addGardener_14 rfl (lv_at hl 0 rfl) ?_
    refine g_get (v := .int (z 0 4)) S hB hinX1 hP (mem_mz h1 h2 (by decide)) (by rw [va_up_self]; exact (cell_mz E h1 h2) _) rfl 4 (by decide) fl24 rfl rfl dX1_addGardener_15 ?_
    refine lv_iload_n hx hb dX1_addGardener_18 rfl (lv_at hl 1 rfl) ?_
    obtain ⟨hv2, hf⟩ := ck_some hf
    refine g_iast (r := z 1) S hB hE hP hS (mem_mz h1 h2 (by decide)) (by rw [va_up_self]; exact (cell_ma E h1 h2 (by decide)) _) (by rw [va_up_self]) (cell_ma E h1 h2 (by decide)) hv2 (X' := (va_up σ o (ob z 1 ((z 0 4).toNatClampNeg) a1))) (lens_put σ o _ _ _ _) dX1_addGardener_19 (fun H locs hP hS => ?_)
    refine lv_aload_n hx hb dX1_addGardener_20 rfl (lv_at hl 0 rfl) ?_
    refine g_get (v := .ref (E.ad o 2)) S hB hinX1 hP (mem_mz h1 h2 (by decide)) (by rw [va_up_self]; exact (cell_mz E h1 h2) _) rfl 6 (by decide) fl31 rfl rfl dX1_addGardener_21 ?_
    refine lv_aload_n hx hb dX1_addGardener_24 rfl (lv_at hl 0 rfl) ?_
    refine g_get (v := .int (z 0 4)) S hB hinX1 hP (mem_mz h1 h2 (by decide)) (by rw [va_up_self]; exact (cell_mz E h1 h2) _) rfl 4 (by decide) fl24 rfl rfl dX1_addGardener_25 ?_
    refine lv_iload_n hx hb dX1_addGardener_28 rfl (lv_at hl 2 rfl) ?_
    obtain ⟨hv3, hf⟩ := ck_some hf
    refine g_iast (r := (ob z 1 ((z 0 4).toNatClampNeg) a1) 2) S hB hE hP hS (mem_mz h1 h2 (by decide)) (by rw [va_up_self]; exact (cell_ma E h1 h2 (by decide)) _) (by rw [va_up_self]) (cell_ma E h1 h2 (by decide)) hv3 (X' := (va_up σ o (ob (ob z 1 ((z 0 4).toNatClampNeg) a1) 2 ((z 0 4).toNatClampNeg) a2))) (lens_put σ o _ _ _ _) dX1_addGardener_29 (fun H locs hP hS => ?_)
    refine lv_aload_n hx hb dX1_addGardener_30 rfl (lv_at hl 0 rfl) ?_
    refine g_get (v := .ref (E.ad o 3)) S hB hinX1 hP (mem_mz h1 h2 (by decide)) (by rw [va_up_self]; exact (cell_mz E h1 h2) _) rfl 7 (by decide) fl34 rfl rfl dX1_addGardener_31 ?_
    refine lv_aload_n hx hb dX1_addGardener_34 rfl (lv_at hl 0 rfl) ?_
    refine g_get (v := .int (z 0 4)) S hB hinX1 hP (mem_mz h1 h2 (by decide)) (by rw [va_up_self]; exact (cell_mz E h1 h2) _) rfl 4 (by decide) fl24 rfl rfl dX1_addGardener_35 ?_
    refine lv_iload_n hx hb dX1_addGardener_38 rfl (lv_at hl 3 rfl) ?_
    obtain ⟨hv4, hf⟩ := ck_some hf
    refine g_iast (r := (ob (ob z 1 ((z 0 4).toNatClampNeg) a1) 2 ((z 0 4).toNatClampNeg) a2) 3) S hB hE hP hS (mem_mz h1 h2 (by decide)) (by rw [va_up_self]; exact (cell_ma E h1 h2 (by decide)) _) (by rw [va_up_self]) (cell_ma E h1 h2 (by decide)) hv4 (X' := (va_up σ o (ob (ob (ob z 1 ((z 0 4).toNatClampNeg) a1) 2 ((z 0 4).toNatClampNeg) a2) 3 ((z 0 4).toNatClampNeg) a3))) (lens_put σ o _ _ _ _) dX1_addGardener_39 (fun H locs hP hS => ?_)
    refine lv_aload_n hx hb dX1_addGardener_40 rfl (lv_at hl 0 rfl) ?_
    refine lv_dup hx hb dX1_addGardener_41 rfl ?_
    refine g_get (v := .int (z 0 4)) S hB hinX1 hP (mem_mz h1 h2 (by decide)) (by rw [va_up_self]; exact (cell_mz E h1 h2) _) rfl 4 (by decide) fl24 rfl rfl dX1_addGardener_42 ?_
    refine lv_iconst (v := 1) hx hb dX1_addGardener_45 (by decide) ?_
    refine lv_iadd hx hb dX1_addGardener_46 ?_
    refine g_put S hB hE hinX1 tyX1 tyX1_ok nmX1 hP hS (mem_mz h1 h2 (by decide)) (by rw [va_up_self]; exact (cell_mz E h1 h2) _) rfl 4 (by decide) fl24 rfl rfl rfl rfl (Nat.le_of_ble_eq_true rfl) (by rw [va_up_self]; exact (cell_mz E h1 h2) _) (X' := (va_up σ o (ob (ob (ob (ob z 1 ((z 0 4).toNatClampNeg) a1) 2 ((z 0 4).toNatClampNeg) a2) 3 ((z 0 4).toNatClampNeg) a3) 0 4 ((z 0 4) + (1 : Int32))))) (lens_put σ o _ _ _ _) dX1_addGardener_47 (fun H locs hP hS => ?_)
    refine lv_iconst (v := 1) hx hb dX1_addGardener_50 (by decide) ?_
    exact fin dX1_addGardener_51 (nz01 (by decide)) (s1 hf) (by rw [(s2 hf)]) hP hS
  · have hf := if_f c1 hf
    refine lv_iconst (v := 0) hx hb dX1_addGardener_8 (by decide) ?_
    exact fin dX1_addGardener_9 (nz01 (by decide)) (s1 hf) (by rw [(s2 hf)]) hP hS
theorem KW_X1_addGardener (l : Launch) {E : En} (hE : Inj E) (X : Wd) {o : Nat} (h1 : 4 ≤ o) (h2 : o < 18) (a1 : Int32) (a2 : Int32) (a3 : Int32) {r : Int32} {z' : Ob} (hf : f_X1_addGardener (X o) a1 a2 a3 = some (r, z')) : Cti l E yX1_addGardener wsX1_addGardener rm_X1_addGardener [.ref (E.ad o 0), .int a1, .int a2, .int a3] X r (va_up X o z') := by
  have h := K_X1_addGardener l hE X h1 h2 (X o) a1 a2 a3 hf
  rw [lens_all] at h
  exact h
/-! X1_addGuest -/
abbrev rm_X1_addGuest : Room := { frames := 0, cells := 0, slots := 0, locals := 0 }
set_option maxHeartbeats 4000000 in
set_option maxRecDepth 100000 in
theorem K_X1_addGuest (l : Launch) {E : En} (hE : Inj E) (σ : Wd) {o : Nat} (h1 : 4 ≤ o) (h2 : o < 18) (z : Ob) (a1 : Int32) (a2 : Int32) {r : Int32} {z' : Ob} (hf : f_X1_addGuest z a1 a2 = some (r, z')) : Cti l E yX1_addGuest wsX1_addGuest rm_X1_addGuest [.ref (E.ad o 0), .int a1, .int a2] (va_up σ o z) r (va_up σ o z') := by
  refine meet_z (cc := cX1_addGuest) (maxL := 3) (own := RX1) (by decide) rfl rfl (Nat.le_of_ble_eq_true rfl) ?_
  intro p e s m below meth c Z S hB fin hP hS ls hl
  have hx := S.1
  have hb := S.2.1
  have hl : lv_has ls 3 [(0, .ref (E.ad o 0)), (1, .int a1), (2, .int a2)] := hl
  have hinX1 : ∀ w ∈ u_ws RX1 TX1 12, w ∈ wsX1_addGuest := by decide +kernel
  have fl37 := S.2.2.2.2 (.fieldLink RX1 37 "MownMaze$Maze" "guests" "I") (by decide +kernel)
  have fl40 := S.2.2.2.2 (.fieldLink RX1 40 "MownMaze$Maze" "at" "[I") (by decide +kernel)
  have fl43 := S.2.2.2.2 (.fieldLink RX1 43 "MownMaze$Maze" "food" "[I") (by decide +kernel)
  have fl46 := S.2.2.2.2 (.fieldLink RX1 46 "MownMaze$Maze" "fate" "[I") (by decide +kernel)
  unfold f_X1_addGuest at hf
  refine lv_aload_n hx hb dX1_addGuest_0 rfl (lv_at hl 0 rfl) ?_
  refine g_get (v := .int (z 0 8)) S hB hinX1 hP (mem_mz h1 h2 (by decide)) (by rw [va_up_self]; exact (cell_mz E h1 h2) _) rfl 8 (by decide) fl37 rfl rfl dX1_addGuest_1 ?_
  refine lv_iconst (v := 4) hx hb dX1_addGuest_4 (by decide) ?_
  refine lv_icmp_lt (tgt := 10) hx hb dX1_addGuest_5 (by decide) (fun c1 => ?_) (fun c1 => ?_)
  · have hf := if_t c1 hf
    refine lv_aload_n hx hb dX1_addGuest_10 rfl (lv_at hl 0 rfl) ?_
    refine g_get (v := .ref (E.ad o 4)) S hB hinX1 hP (mem_mz h1 h2 (by decide)) (by rw [va_up_self]; exact (cell_mz E h1 h2) _) rfl 9 (by decide) fl40 rfl rfl dX1_addGuest_11 ?_
    refine lv_aload_n hx hb dX1_addGuest_14 rfl (lv_at hl 0 rfl) ?_
    refine g_get (v := .int (z 0 8)) S hB hinX1 hP (mem_mz h1 h2 (by decide)) (by rw [va_up_self]; exact (cell_mz E h1 h2) _) rfl 8 (by decide) fl37 rfl rfl dX1_addGuest_15 ?_
    refine lv_iload_n hx hb dX1_addGuest_18 rfl (lv_at hl 1 rfl) ?_
    obtain ⟨hv2, hf⟩ := ck_some hf
    refine g_iast (r := z 4) S hB hE hP hS (mem_mz h1 h2 (by decide)) (by rw [va_up_self]; exact (cell_ma E h1 h2 (by decide)) _) (by rw [va_up_self]) (cell_ma E h1 h2 (by decide)) hv2 (X' := (va_up σ o (ob z 4 ((z 0 8).toNatClampNeg) a1))) (lens_put σ o _ _ _ _) dX1_addGuest_19 (fun H locs hP hS => ?_)
    refine lv_aload_n hx hb dX1_addGuest_20 rfl (lv_at hl 0 rfl) ?_
    refine g_get (v := .ref (E.ad o 5)) S hB hinX1 hP (mem_mz h1 h2 (by decide)) (by rw [va_up_self]; exact (cell_mz E h1 h2) _) rfl 10 (by decide) fl43 rfl rfl dX1_addGuest_21 ?_
    refine lv_aload_n hx hb dX1_addGuest_24 rfl (lv_at hl 0 rfl) ?_
    refine g_get (v := .int (z 0 8)) S hB hinX1 hP (mem_mz h1 h2 (by decide)) (by rw [va_up_self]; exact (cell_mz E h1 h2) _) rfl 8 (by decide) fl37 rfl rfl dX1_addGuest_25 ?_
    refine lv_iload_n hx hb dX1_addGuest_28 rfl (lv_at hl 2 rfl) ?_
    obtain ⟨hv3, hf⟩ := ck_some hf
    refine g_iast (r := (ob z 4 ((z 0 8).toNatClampNeg) a1) 5) S hB hE hP hS (mem_mz h1 h2 (by decide)) (by rw [va_up_self]; exact (cell_ma E h1 h2 (by decide)) _) (by rw [va_up_self]) (cell_ma E h1 h2 (by decide)) hv3 (X' := (va_up σ o (ob (ob z 4 ((z 0 8).toNatClampNeg) a1) 5 ((z 0 8).toNatClampNeg) a2))) (lens_put σ o _ _ _ _) dX1_addGuest_29 (fun H locs hP hS => ?_)
    refine lv_aload_n hx hb dX1_addGuest_30 rfl (lv_at hl 0 rfl) ?_
    refine g_get (v := .ref (E.ad o 6)) S hB hinX1 hP (mem_mz h1 h2 (by decide)) (by rw [va_up_self]; exact (cell_mz E h1 h2) _) rfl 11 (by decide) fl46 rfl rfl dX1_addGuest_31 ?_
    refine lv_aload_n hx hb dX1_addGuest_34 rfl (lv_at hl 0 rfl) ?_
    refine g_get (v := .int (z 0 8)) S hB hinX1 hP (mem_mz h1 h2 (by decide)) (by rw [va_up_self]; exact (cell_mz E h1 h2) _) rfl 8 (by decide) fl37 rfl rfl dX1_addGuest_35 ?_
    refine lv_iconst (v := 0) hx hb dX1_addGuest_38 (by decide) ?_
    obtain ⟨hv4, hf⟩ := ck_some hf
    refine g_iast (r := (ob (ob z 4 ((z 0 8).toNatClampNeg) a1) 5 ((z 0 8).toNatClampNeg) a2) 6) S hB hE hP hS (mem_mz h1 h2 (by decide)) (by rw [va_up_self]; exact (cell_ma E h1 h2 (by decide)) _) (by rw [va_up_self]) (cell_ma E h1 h2 (by decide)) hv4 (X' := (va_up σ o (ob (ob (ob z 4 ((z 0 8).toNatClampNeg) a1) 5 ((z 0 8).toNatClampNeg) a2) 6 ((z 0 8).toNatClampNeg) (0 : Int32)))) (lens_put σ o _ _ _ _) dX1_addGuest_39 (fun H locs hP hS => ?_)
    refine lv_aload_n hx hb dX1_addGuest_40 rfl (lv_at hl 0 rfl) ?_
    refine lv_dup hx hb dX1_addGuest_41 rfl ?_
    refine g_get (v := .int (z 0 8)) S hB hinX1 hP (mem_mz h1 h2 (by decide)) (by rw [va_up_self]; exact (cell_mz E h1 h2) _) rfl 8 (by decide) fl37 rfl rfl dX1_addGuest_42 ?_
    refine lv_iconst (v := 1) hx hb dX1_addGuest_45 (by decide) ?_
    refine lv_iadd hx hb dX1_addGuest_46 ?_
    refine g_put S hB hE hinX1 tyX1 tyX1_ok nmX1 hP hS (mem_mz h1 h2 (by decide)) (by rw [va_up_self]; exact (cell_mz E h1 h2) _) rfl 8 (by decide) fl37 rfl rfl rfl rfl (Nat.le_of_ble_eq_true rfl) (by rw [va_up_self]; exact (cell_mz E h1 h2) _) (X' := (va_up σ o (ob (ob (ob (ob z 4 ((z 0 8).toNatClampNeg) a1) 5 ((z 0 8).toNatClampNeg) a2) 6 ((z 0 8).toNatClampNeg) (0 : Int32)) 0 8 ((z 0 8) + (1 : Int32))))) (lens_put σ o _ _ _ _) dX1_addGuest_47 (fun H locs hP hS => ?_)
    refine lv_iconst (v := 1) hx hb dX1_addGuest_50 (by decide) ?_
    exact fin dX1_addGuest_51 (nz01 (by decide)) (s1 hf) (by rw [(s2 hf)]) hP hS
  · have hf := if_f c1 hf
    refine lv_iconst (v := 0) hx hb dX1_addGuest_8 (by decide) ?_
    exact fin dX1_addGuest_9 (nz01 (by decide)) (s1 hf) (by rw [(s2 hf)]) hP hS
theorem KW_X1_addGuest (l : Launch) {E : En} (hE : Inj E) (X : Wd) {o : Nat} (h1 : 4 ≤ o) (h2 : o < 18) (a1 : Int32) (a2 : Int32) {r : Int32} {z' : Ob} (hf : f_X1_addGuest (X o) a1 a2 = some (r, z')) : Cti l E yX1_addGuest wsX1_addGuest rm_X1_addGuest [.ref (E.ad o 0), .int a1, .int a2] X r (va_up X o z') := by
  have h := K_X1_addGuest l hE X h1 h2 (X o) a1 a2 hf
  rw [lens_all] at h
  exact h
/-! X1_standing -/
abbrev rm_X1_standing : Room := { frames := 0, cells := 0, slots := 0, locals := 0 }
set_option maxHeartbeats 4000000 in
set_option maxRecDepth 100000 in
theorem K_X1_standing (l : Launch) {E : En} (hE : Inj E) (σ : Wd) {o : Nat} (h1 : 4 ≤ o) (h2 : o < 18) (z : Ob) (a1 : Int32) {r : Int32} (hf : f_X1_standing z a1 = some r) : Cti l E yX1_standing wsX1_standing rm_X1_standing [.ref (E.ad o 0), .int a1] (va_up σ o z) r (va_up σ o z) := by
  refine meet_i (cc := cX1_standing) (maxL := 2) (own := RX1) (by decide) rfl rfl (Nat.le_of_ble_eq_true rfl) ?_
  intro p e s m below meth c Z S hB fin hP hS ls hl
  have hx := S.1
  have hb := S.2.1
  have hl : lv_has ls 2 [(0, .ref (E.ad o 0)), (1, .int a1)] := hl
  have hinX1 : ∀ w ∈ u_ws RX1 TX1 12, w ∈ wsX1_standing := by decide +kernel
  have fl9 := S.2.2.2.2 (.fieldLink RX1 9 "MownMaze$Maze" "hedges" "I") (by decide +kernel)
  unfold f_X1_standing at hf
  refine lv_aload_n hx hb dX1_standing_0 rfl (lv_at hl 0 rfl) ?_
  refine g_get (v := .int (z 0 0)) S hB hinX1 hP (mem_mz h1 h2 (by decide)) (by rw [va_up_self]; exact (cell_mz E h1 h2) _) rfl 0 (by decide) fl9 rfl rfl dX1_standing_1 ?_
  refine lv_iload_n hx hb dX1_standing_4 rfl (lv_at hl 1 rfl) ?_
  refine lv_ishr hx hb dX1_standing_5 ?_
  refine lv_iconst (v := 1) hx hb dX1_standing_6 (by decide) ?_
  refine lv_iand hx hb dX1_standing_7 ?_
  exact fin dX1_standing_8 (s0 hf) rfl hP hS
theorem KW_X1_standing (l : Launch) {E : En} (hE : Inj E) (X : Wd) {o : Nat} (h1 : 4 ≤ o) (h2 : o < 18) (a1 : Int32) {r : Int32} (hf : f_X1_standing (X o) a1 = some r) : Cti l E yX1_standing wsX1_standing rm_X1_standing [.ref (E.ad o 0), .int a1] X r X := by
  have h := K_X1_standing l hE X h1 h2 (X o) a1 hf
  rw [lens_all] at h
  exact h
/-! X1_whoIs -/
abbrev rm_X1_whoIs : Room := { frames := 0, cells := 0, slots := 0, locals := 0 }
set_option maxHeartbeats 4000000 in
set_option maxRecDepth 100000 in
theorem K_X1_whoIs (l : Launch) {E : En} (hE : Inj E) (σ : Wd) {o : Nat} (h1 : 4 ≤ o) (h2 : o < 18) (z : Ob) (a1 : Int32) {r : Int32} (hf : f_X1_whoIs z a1 = some r) : Cti l E yX1_whoIs wsX1_whoIs rm_X1_whoIs [.ref (E.ad o 0), .int a1] (va_up σ o z) r (va_up σ o z) := by
  refine meet_i (cc := cX1_whoIs) (maxL := 4) (own := RX1) (by decide) rfl rfl (Nat.le_of_ble_eq_true rfl) ?_
  intro p e s m below meth c Z S hB fin hP hS ls hl
  have hx := S.1
  have hb := S.2.1
  have hl : lv_has ls 4 [(0, .ref (E.ad o 0)), (1, .int a1)] := hl
  have hinX1 : ∀ w ∈ u_ws RX1 TX1 12, w ∈ wsX1_whoIs := by decide +kernel
  have fl37 := S.2.2.2.2 (.fieldLink RX1 37 "MownMaze$Maze" "guests" "I") (by decide +kernel)
  have fl46 := S.2.2.2.2 (.fieldLink RX1 46 "MownMaze$Maze" "fate" "[I") (by decide +kernel)
  have hL4 : ∀ (n4 : Nat) (x1 : Int32) (x2 : Int32) (x3 : Int32) (H : Heap) (locs : List Loc) (ls : Array Slot), f_X1_whoIs_l4 n4 z x1 x2 x3 = some r → va_P E.1 vwCl (GW E (va_up σ o z)) H → va_S (GA E) s.heap H locs → lv_has ls 4 [(0, .ref (E.ad o 0)), (1, .int x1), (2, .int x2), (3, .int x3)] → W p l e rm_X1_whoIs s m ([.ref (E.ad o 0), .int a1] : List Value).toArray below meth c H locs 0 0 Z (F0 m 4 ls []) := by
    intro n4
    induction n4 with
    | zero =>
      intro x1 x2 x3 H locs ls hf
      cases (show (none : Option _) = some _ from hf)
    | succ n4 ih4 =>
      have hB28 : ∀ (x1 : Int32) (x2 : Int32) (x3 : Int32) (H : Heap) (locs : List Loc) (ls : Array Slot), f_X1_whoIs_b28 (f_X1_whoIs_l4 n4) z x1 x2 x3 = some r → va_P E.1 vwCl (GW E (va_up σ o z)) H → va_S (GA E) s.heap H locs → lv_has ls 4 [(0, .ref (E.ad o 0)), (1, .int x1), (2, .int x2), (3, .int x3)] → W p l e rm_X1_whoIs s m ([.ref (E.ad o 0), .int a1] : List Value).toArray below meth c H locs 0 0 Z (F0 m 28 ls []) := by
        intro x1 x2 x3 H locs ls hf hP hS hl
        unfold f_X1_whoIs_b28 at hf
        refine lv_iinc (v := x3 + (1 : Int32)) (lv' := [(3, .int (x3 + (1 : Int32))), (0, .ref (E.ad o 0)), (1, .int x1), (2, .int x2)]) hx hb dX1_whoIs_28 hl (k := 3) rfl rfl (by decide) rfl (fun ls hl => ?_)
        refine lv_goto (tgt := 4) hx hb dX1_whoIs_31 (by decide) ?_
        exact ih4 x1 x2 (x3 + (1 : Int32)) _ _ _ hf hP hS (lv_sub hl [1, 2, 3, 0] rfl)
      intro x1 x2 x3 H locs ls hf hP hS hl
      unfold f_X1_whoIs_l4 at hf
      refine lv_iload_n hx hb dX1_whoIs_4 rfl (lv_at hl 3 rfl) ?_
      refine lv_aload_n hx hb dX1_whoIs_5 rfl (lv_at hl 0 rfl) ?_
      refine g_get (v := .int (z 0 8)) S hB hinX1 hP (mem_mz h1 h2 (by decide)) (by rw [va_up_self]; exact (cell_mz E h1 h2) _) rfl 8 (by decide) fl37 rfl rfl dX1_whoIs_6 ?_
      refine lv_icmp_ge (tgt := 34) hx hb dX1_whoIs_9 (by decide) (fun c1 => ?_) (fun c1 => ?_)
      · have hf := if_t c1 hf
        refine lv_iload_n hx hb dX1_whoIs_34 rfl (lv_at hl 2 rfl) ?_
        exact fin dX1_whoIs_35 (s0 hf) rfl hP hS
      · have hf := if_f c1 hf
        refine lv_aload_n hx hb dX1_whoIs_12 rfl (lv_at hl 0 rfl) ?_
        refine g_get (v := .ref (E.ad o 6)) S hB hinX1 hP (mem_mz h1 h2 (by decide)) (by rw [va_up_self]; exact (cell_mz E h1 h2) _) rfl 11 (by decide) fl46 rfl rfl dX1_whoIs_13 ?_
        refine lv_iload_n hx hb dX1_whoIs_16 rfl (lv_at hl 3 rfl) ?_
        obtain ⟨hv2, hf⟩ := ck_some hf
        refine g_iald (r := z 6) S hB hP (mem_mz h1 h2 (by decide)) (by rw [va_up_self]; exact (cell_ma E h1 h2 (by decide)) _) hv2 dX1_whoIs_17 ?_
        refine lv_iload_n hx hb dX1_whoIs_18 rfl (lv_at hl 1 rfl) ?_
        refine lv_icmp_ne (tgt := 28) hx hb dX1_whoIs_19 (by decide) (fun c3 => ?_) (fun c3 => ?_)
        · have hf := if_f c3 hf
          exact hB28 x1 x2 x3 _ _ _ hf hP hS (lv_sub hl [0, 1, 2, 3] rfl)
        · have hf := if_t c3 hf
          refine lv_iload_n hx hb dX1_whoIs_22 rfl (lv_at hl 2 rfl) ?_
          refine lv_iconst (v := 1) hx hb dX1_whoIs_23 (by decide) ?_
          refine lv_iload_n hx hb dX1_whoIs_24 rfl (lv_at hl 3 rfl) ?_
          refine lv_ishl hx hb dX1_whoIs_25 ?_
          refine lv_ior hx hb dX1_whoIs_26 ?_
          refine lv_istore_n (lv' := [(2, .int (x2 ||| ((1 : Int32) <<< (x3 &&& 31)))), (0, .ref (E.ad o 0)), (1, .int x1), (3, .int x3)]) hx hb dX1_whoIs_27 rfl hl (by decide) rfl (fun ls hl => ?_)
          exact hB28 x1 (x2 ||| ((1 : Int32) <<< (x3 &&& 31))) x3 _ _ _ hf hP hS (lv_sub hl [1, 2, 0, 3] rfl)
  unfold f_X1_whoIs at hf
  refine lv_iconst (v := 0) hx hb dX1_whoIs_0 (by decide) ?_
  refine lv_istore_n (lv' := [(2, .int (0 : Int32)), (0, .ref (E.ad o 0)), (1, .int a1)]) hx hb dX1_whoIs_1 rfl hl (by decide) rfl (fun ls hl => ?_)
  refine lv_iconst (v := 0) hx hb dX1_whoIs_2 (by decide) ?_
  refine lv_istore_n (lv' := [(3, .int (0 : Int32)), (2, .int (0 : Int32)), (0, .ref (E.ad o 0)), (1, .int a1)]) hx hb dX1_whoIs_3 rfl hl (by decide) rfl (fun ls hl => ?_)
  exact hL4 FUEL a1 (0 : Int32) (0 : Int32) _ _ _ hf hP hS (lv_sub hl [2, 3, 1, 0] rfl)
theorem KW_X1_whoIs (l : Launch) {E : En} (hE : Inj E) (X : Wd) {o : Nat} (h1 : 4 ≤ o) (h2 : o < 18) (a1 : Int32) {r : Int32} (hf : f_X1_whoIs (X o) a1 = some r) : Cti l E yX1_whoIs wsX1_whoIs rm_X1_whoIs [.ref (E.ad o 0), .int a1] X r X := by
  have h := K_X1_whoIs l hE X h1 h2 (X o) a1 hf
  rw [lens_all] at h
  exact h
/-! X1_outs -/
abbrev rm_X1_outs : Room := { frames := 1, cells := 0, slots := 0, locals := 23 }
set_option maxHeartbeats 4000000 in
set_option maxRecDepth 100000 in
theorem K_X1_outs (l : Launch) {E : En} (hE : Inj E) (σ : Wd) {o : Nat} (h1 : 4 ≤ o) (h2 : o < 18) (z : Ob) {r : Int32} (hf : f_X1_outs z = some r) : Cti l E yX1_outs wsX1_outs rm_X1_outs [.ref (E.ad o 0)] (va_up σ o z) r (va_up σ o z) := by
  refine meet_i (cc := cX1_outs) (maxL := 1) (own := RX1) (by decide) rfl rfl (Nat.le_of_ble_eq_true rfl) ?_
  intro p e s m below meth c Z S hB fin hP hS ls hl
  have hx := S.1
  have hb := S.2.1
  have hl : lv_has ls 1 [(0, .ref (E.ad o 0))] := hl
  unfold f_X1_outs at hf
  refine lv_aload_n hx hb dX1_outs_0 rfl (lv_at hl 0 rfl) ?_
  refine lv_iconst (v := 1) hx hb dX1_outs_1 (by decide) ?_
  obtain ⟨q1, hq1, hf⟩ := bind_some hf
  refine callV_i (As := [.int (1 : Int32)]) (rest := []) S hB hP hS (C := RX1) (b := E.ad o 0) (g_recv (o := o) (d := 0) hB hP (mem_mz h1 h2 (by decide)) (by rw [va_up_self]; exact (cell_mz E h1 h2) _) rfl) (K_X1_whoIs l hE σ h1 h2 z (1 : Int32) hq1) (cwV 1 S.2.2.2.2 gX1_outs_X1_whoIs rfl rfl rfl (by decide +kernel) ⟨Nat.le_of_ble_eq_true rfl, Nat.le_of_ble_eq_true rfl⟩) rfl hl.1 rfl (Nat.le_of_ble_eq_true rfl) dX1_outs_2 ⟨Nat.zero_le _, Nat.zero_le _⟩ (fun H locs hP hS => ?_)
  obtain ⟨q2, hq2, hf⟩ := bind_some hf
  refine callS_i (As := [.int q1]) (rest := []) S hB hP hS (K_J6_bitCount_0f7a4 l hE (va_up σ o z) q1 hq2) (va_cwS 1 S.2.2.2.2 gX1_outs_J6_bitCount_0f7a4 rfl rfl rfl (by decide +kernel) ⟨Nat.le_of_ble_eq_true rfl, Nat.le_of_ble_eq_true rfl⟩) rfl hl.1 rfl (Nat.le_of_ble_eq_true rfl) dX1_outs_5 ⟨Nat.zero_le _, Nat.zero_le _⟩ (fun H locs hP hS => ?_)
  exact fin dX1_outs_8 (s0 hf) rfl hP hS
theorem KW_X1_outs (l : Launch) {E : En} (hE : Inj E) (X : Wd) {o : Nat} (h1 : 4 ≤ o) (h2 : o < 18) {r : Int32} (hf : f_X1_outs (X o) = some r) : Cti l E yX1_outs wsX1_outs rm_X1_outs [.ref (E.ad o 0)] X r X := by
  have h := K_X1_outs l hE X h1 h2 (X o)  hf
  rw [lens_all] at h
  exact h
/-! X1_goal -/
abbrev rm_X1_goal : Room := { frames := 0, cells := 0, slots := 0, locals := 0 }
set_option maxHeartbeats 4000000 in
set_option maxRecDepth 100000 in
theorem K_X1_goal (l : Launch) {E : En} (hE : Inj E) (σ : Wd) {o : Nat} (h1 : 4 ≤ o) (h2 : o < 18) (z : Ob) (a1 : Int32) {r : Int32} (hf : f_X1_goal z a1 = some r) : Cti l E yX1_goal wsX1_goal rm_X1_goal [.ref (E.ad o 0), .int a1] (va_up σ o z) r (va_up σ o z) := by
  refine meet_i (cc := cX1_goal) (maxL := 2) (own := RX1) (by decide) rfl rfl (Nat.le_of_ble_eq_true rfl) ?_
  intro p e s m below meth c Z S hB fin hP hS ls hl
  have hx := S.1
  have hb := S.2.1
  have hl : lv_has ls 2 [(0, .ref (E.ad o 0)), (1, .int a1)] := hl
  have hinX1 : ∀ w ∈ u_ws RX1 TX1 12, w ∈ wsX1_goal := by decide +kernel
  have fl18 := S.2.2.2.2 (.fieldLink RX1 18 "MownMaze$Maze" "last" "I") (by decide +kernel)
  have fl27 := S.2.2.2.2 (.fieldLink RX1 27 "MownMaze$Maze" "kind" "[I") (by decide +kernel)
  have fl31 := S.2.2.2.2 (.fieldLink RX1 31 "MownMaze$Maze" "taste" "[I") (by decide +kernel)
  unfold f_X1_goal at hf
  refine lv_aload_n hx hb dX1_goal_0 rfl (lv_at hl 0 rfl) ?_
  refine g_get (v := .ref (E.ad o 1)) S hB hinX1 hP (mem_mz h1 h2 (by decide)) (by rw [va_up_self]; exact (cell_mz E h1 h2) _) rfl 5 (by decide) fl27 rfl rfl dX1_goal_1 ?_
  refine lv_iload_n hx hb dX1_goal_4 rfl (lv_at hl 1 rfl) ?_
  obtain ⟨hv1, hf⟩ := ck_some hf
  refine g_iald (r := z 1) S hB hP (mem_mz h1 h2 (by decide)) (by rw [va_up_self]; exact (cell_ma E h1 h2 (by decide)) _) hv1 dX1_goal_5 ?_
  by_cases c2 : (z 1 a1.toNatClampNeg) = (1 : Int32)
  · have hf := if_t c2 hf
    refine lv_lookup (off := 26) (tgt := 32) hx hb dX1_goal_6 (by decide) (by rw [c2]; decide) (by decide) ?_
    refine lv_aload_n hx hb dX1_goal_32 rfl (lv_at hl 0 rfl) ?_
    refine g_get (v := .int (z 0 2)) S hB hinX1 hP (mem_mz h1 h2 (by decide)) (by rw [va_up_self]; exact (cell_mz E h1 h2) _) rfl 2 (by decide) fl18 rfl rfl dX1_goal_33 ?_
    refine lv_bipush (v := -4) hx hb dX1_goal_36 (by decide) ?_
    refine lv_icmp_ne (tgt := 50) hx hb dX1_goal_38 (by decide) (fun c3 => ?_) (fun c3 => ?_)
    · have hf := if_f c3 hf
      refine lv_aload_n hx hb dX1_goal_50 rfl (lv_at hl 0 rfl) ?_
      refine g_get (v := .int (z 0 2)) S hB hinX1 hP (mem_mz h1 h2 (by decide)) (by rw [va_up_self]; exact (cell_mz E h1 h2) _) rfl 2 (by decide) fl18 rfl rfl dX1_goal_51 ?_
      exact fin dX1_goal_54 (s0 hf) rfl hP hS
    · have hf := if_t c3 hf
      refine lv_aload_n hx hb dX1_goal_41 rfl (lv_at hl 0 rfl) ?_
      refine g_get (v := .ref (E.ad o 2)) S hB hinX1 hP (mem_mz h1 h2 (by decide)) (by rw [va_up_self]; exact (cell_mz E h1 h2) _) rfl 6 (by decide) fl31 rfl rfl dX1_goal_42 ?_
      refine lv_iload_n hx hb dX1_goal_45 rfl (lv_at hl 1 rfl) ?_
      obtain ⟨hv4, hf⟩ := ck_some hf
      refine g_iald (r := z 2) S hB hP (mem_mz h1 h2 (by decide)) (by rw [va_up_self]; exact (cell_ma E h1 h2 (by decide)) _) hv4 dX1_goal_46 ?_
      refine lv_goto (tgt := 54) hx hb dX1_goal_47 (by decide) ?_
      exact fin dX1_goal_54 (s0 hf) rfl hP hS
  · have hf := if_f c2 hf
    by_cases c5 : (z 1 a1.toNatClampNeg) = (3 : Int32)
    · have hf := if_t c5 hf
      refine lv_lookup (off := 49) (tgt := 55) hx hb dX1_goal_6 (by decide) (by rw [c5]; decide) (by decide) ?_
      refine lv_bipush (v := 23) hx hb dX1_goal_55 (by decide) ?_
      refine lv_aload_n hx hb dX1_goal_57 rfl (lv_at hl 0 rfl) ?_
      refine g_get (v := .ref (E.ad o 2)) S hB hinX1 hP (mem_mz h1 h2 (by decide)) (by rw [va_up_self]; exact (cell_mz E h1 h2) _) rfl 6 (by decide) fl31 rfl rfl dX1_goal_58 ?_
      refine lv_iload_n hx hb dX1_goal_61 rfl (lv_at hl 1 rfl) ?_
      obtain ⟨hv6, hf⟩ := ck_some hf
      refine g_iald (r := z 2) S hB hP (mem_mz h1 h2 (by decide)) (by rw [va_up_self]; exact (cell_ma E h1 h2 (by decide)) _) hv6 dX1_goal_62 ?_
      refine lv_isub hx hb dX1_goal_63 ?_
      exact fin dX1_goal_64 (s0 hf) rfl hP hS
    · have hf := if_f c5 hf
      refine lv_lookup (off := 59) (tgt := 65) hx hb dX1_goal_6 (by decide) (by show Op.lookupswitch.offset [(1, 26), (3, 49)] _ _ = _; rw [lv_osw c2 (by decide), lv_osw c5 (by decide)]; rfl) (by decide) ?_
      refine lv_aload_n hx hb dX1_goal_65 rfl (lv_at hl 0 rfl) ?_
      refine g_get (v := .ref (E.ad o 2)) S hB hinX1 hP (mem_mz h1 h2 (by decide)) (by rw [va_up_self]; exact (cell_mz E h1 h2) _) rfl 6 (by decide) fl31 rfl rfl dX1_goal_66 ?_
      refine lv_iload_n hx hb dX1_goal_69 rfl (lv_at hl 1 rfl) ?_
      obtain ⟨hv7, hf⟩ := ck_some hf
      refine g_iald (r := z 2) S hB hP (mem_mz h1 h2 (by decide)) (by rw [va_up_self]; exact (cell_ma E h1 h2 (by decide)) _) hv7 dX1_goal_70 ?_
      exact fin dX1_goal_71 (s0 hf) rfl hP hS
theorem KW_X1_goal (l : Launch) {E : En} (hE : Inj E) (X : Wd) {o : Nat} (h1 : 4 ≤ o) (h2 : o < 18) (a1 : Int32) {r : Int32} (hf : f_X1_goal (X o) a1 = some r) : Cti l E yX1_goal wsX1_goal rm_X1_goal [.ref (E.ad o 0), .int a1] X r X := by
  have h := K_X1_goal l hE X h1 h2 (X o) a1 hf
  rw [lens_all] at h
  exact h
/-! X1_made -/
abbrev rm_X1_made : Room := { frames := 1, cells := 0, slots := 0, locals := 21 }
set_option maxHeartbeats 4000000 in
set_option maxRecDepth 100000 in
theorem K_X1_made (l : Launch) {E : En} (hE : Inj E) (σ : Wd) {o : Nat} (h1 : 4 ≤ o) (h2 : o < 18) (z : Ob) (a1 : Int32) (a2 : Int32) {r : Int32} (hf : f_X1_made z a1 a2 = some r) : Cti l E yX1_made wsX1_made rm_X1_made [.ref (E.ad o 0), .int a1, .int a2] (va_up σ o z) r (va_up σ o z) := by
  refine meet_i (cc := cX1_made) (maxL := 3) (own := RX1) (by decide) rfl rfl (Nat.le_of_ble_eq_true rfl) ?_
  intro p e s m below meth c Z S hB fin hP hS ls hl
  have hx := S.1
  have hb := S.2.1
  have hl : lv_has ls 3 [(0, .ref (E.ad o 0)), (1, .int a1), (2, .int a2)] := hl
  have hinX1 : ∀ w ∈ u_ws RX1 TX1 12, w ∈ wsX1_made := by decide +kernel
  have fl27 := S.2.2.2.2 (.fieldLink RX1 27 "MownMaze$Maze" "kind" "[I") (by decide +kernel)
  unfold f_X1_made at hf
  refine lv_aload_n hx hb dX1_made_0 rfl (lv_at hl 0 rfl) ?_
  refine g_get (v := .ref (E.ad o 1)) S hB hinX1 hP (mem_mz h1 h2 (by decide)) (by rw [va_up_self]; exact (cell_mz E h1 h2) _) rfl 5 (by decide) fl27 rfl rfl dX1_made_1 ?_
  refine lv_iload_n hx hb dX1_made_4 rfl (lv_at hl 1 rfl) ?_
  obtain ⟨hv1, hf⟩ := ck_some hf
  refine g_iald (r := z 1) S hB hP (mem_mz h1 h2 (by decide)) (by rw [va_up_self]; exact (cell_ma E h1 h2 (by decide)) _) hv1 dX1_made_5 ?_
  by_cases c2 : (z 1 a1.toNatClampNeg) = (2 : Int32)
  · have hf := if_t c2 hf
    refine lv_lookup (off := 26) (tgt := 32) hx hb dX1_made_6 (by decide) (by rw [c2]; decide) (by decide) ?_
    refine lv_iconst (v := 1) hx hb dX1_made_32 (by decide) ?_
    exact fin dX1_made_33 (s0 hf) rfl hP hS
  · have hf := if_f c2 hf
    by_cases c3 : (z 1 a1.toNatClampNeg) = (3 : Int32)
    · have hf := if_t c3 hf
      refine lv_lookup (off := 28) (tgt := 34) hx hb dX1_made_6 (by decide) (by rw [c3]; decide) (by decide) ?_
      refine lv_iconst (v := 0) hx hb dX1_made_34 (by decide) ?_
      exact fin dX1_made_35 (s0 hf) rfl hP hS
    · have hf := if_f c3 hf
      refine lv_lookup (off := 30) (tgt := 36) hx hb dX1_made_6 (by decide) (by show Op.lookupswitch.offset [(2, 26), (3, 28)] _ _ = _; rw [lv_osw c2 (by decide), lv_osw c3 (by decide)]; rfl) (by decide) ?_
      refine lv_iconst (v := 1) hx hb dX1_made_36 (by decide) ?_
      refine lv_aload_n hx hb dX1_made_37 rfl (lv_at hl 0 rfl) ?_
      refine lv_iload_n hx hb dX1_made_38 rfl (lv_at hl 2 rfl) ?_
      obtain ⟨q4, hq4, hf⟩ := bind_some hf
      refine callV_i (As := [.int a2]) (rest := [.int (1 : Int32)]) S hB hP hS (C := RX1) (b := E.ad o 0) (g_recv (o := o) (d := 0) hB hP (mem_mz h1 h2 (by decide)) (by rw [va_up_self]; exact (cell_mz E h1 h2) _) rfl) (K_X1_standing l hE σ h1 h2 z a2 hq4) (cwV 1 S.2.2.2.2 gX1_made_X1_standing rfl rfl rfl (by decide +kernel) ⟨Nat.le_of_ble_eq_true rfl, Nat.le_of_ble_eq_true rfl⟩) rfl hl.1 rfl (Nat.le_of_ble_eq_true rfl) dX1_made_39 ⟨Nat.zero_le _, Nat.zero_le _⟩ (fun H locs hP hS => ?_)
      refine lv_isub hx hb dX1_made_42 ?_
      exact fin dX1_made_43 (s0 hf) rfl hP hS
theorem KW_X1_made (l : Launch) {E : En} (hE : Inj E) (X : Wd) {o : Nat} (h1 : 4 ≤ o) (h2 : o < 18) (a1 : Int32) (a2 : Int32) {r : Int32} (hf : f_X1_made (X o) a1 a2 = some r) : Cti l E yX1_made wsX1_made rm_X1_made [.ref (E.ad o 0), .int a1, .int a2] X r X := by
  have h := K_X1_made l hE X h1 h2 (X o) a1 a2 hf
  rw [lens_all] at h
  exact h
/-! X1_todays -/
abbrev rm_X1_todays : Room := { frames := 0, cells := 0, slots := 0, locals := 0 }
set_option maxHeartbeats 4000000 in
set_option maxRecDepth 100000 in
theorem K_X1_todays (l : Launch) {E : En} (hE : Inj E) (σ : Wd) {o : Nat} (h1 : 4 ≤ o) (h2 : o < 18) (z : Ob) {r : Int32} (hf : f_X1_todays z = some r) : Cti l E yX1_todays wsX1_todays rm_X1_todays [.ref (E.ad o 0)] (va_up σ o z) r (va_up σ o z) := by
  refine meet_i (cc := cX1_todays) (maxL := 1) (own := RX1) (by decide) rfl rfl (Nat.le_of_ble_eq_true rfl) ?_
  intro p e s m below meth c Z S hB fin hP hS ls hl
  have hx := S.1
  have hb := S.2.1
  have hl : lv_has ls 1 [(0, .ref (E.ad o 0))] := hl
  have hinX1 : ∀ w ∈ u_ws RX1 TX1 12, w ∈ wsX1_todays := by decide +kernel
  have fl21 := S.2.2.2.2 (.fieldLink RX1 21 "MownMaze$Maze" "day" "I") (by decide +kernel)
  have fl24 := S.2.2.2.2 (.fieldLink RX1 24 "MownMaze$Maze" "gardeners" "I") (by decide +kernel)
  unfold f_X1_todays at hf
  refine lv_aload_n hx hb dX1_todays_0 rfl (lv_at hl 0 rfl) ?_
  refine g_get (v := .int (z 0 4)) S hB hinX1 hP (mem_mz h1 h2 (by decide)) (by rw [va_up_self]; exact (cell_mz E h1 h2) _) rfl 4 (by decide) fl24 rfl rfl dX1_todays_1 ?_
  refine lv_if_le (tgt := 19) hx hb dX1_todays_4 (by decide) (fun c1 => ?_) (fun c1 => ?_)
  · have hf := if_t c1 hf
    refine lv_bipush (v := -4) hx hb dX1_todays_19 (by decide) ?_
    exact fin dX1_todays_21 (s0 hf) rfl hP hS
  · have hf := if_f c1 hf
    refine lv_aload_n hx hb dX1_todays_7 rfl (lv_at hl 0 rfl) ?_
    refine g_get (v := .int (z 0 3)) S hB hinX1 hP (mem_mz h1 h2 (by decide)) (by rw [va_up_self]; exact (cell_mz E h1 h2) _) rfl 3 (by decide) fl21 rfl rfl dX1_todays_8 ?_
    refine lv_aload_n hx hb dX1_todays_11 rfl (lv_at hl 0 rfl) ?_
    refine g_get (v := .int (z 0 4)) S hB hinX1 hP (mem_mz h1 h2 (by decide)) (by rw [va_up_self]; exact (cell_mz E h1 h2) _) rfl 4 (by decide) fl24 rfl rfl dX1_todays_12 ?_
    obtain ⟨hv2, hf⟩ := ckn_some hf
    refine lv_irem hx hb dX1_todays_15 hv2 ?_
    refine lv_goto (tgt := 21) hx hb dX1_todays_16 (by decide) ?_
    exact fin dX1_todays_21 (s0 hf) rfl hP hS
theorem KW_X1_todays (l : Launch) {E : En} (hE : Inj E) (X : Wd) {o : Nat} (h1 : 4 ≤ o) (h2 : o < 18) {r : Int32} (hf : f_X1_todays (X o) = some r) : Cti l E yX1_todays wsX1_todays rm_X1_todays [.ref (E.ad o 0)] X r X := by
  have h := K_X1_todays l hE X h1 h2 (X o)  hf
  rw [lens_all] at h
  exact h
/-! X1_mow -/
abbrev rm_X1_mow : Room := { frames := 2, cells := 0, slots := 0, locals := 43 }
set_option maxHeartbeats 4000000 in
set_option maxRecDepth 100000 in
theorem K_X1_mow (l : Launch) {E : En} (hE : Inj E) (σ : Wd) {o : Nat} (h1 : 4 ≤ o) (h2 : o < 18) (z : Ob) {z' : Ob} (hf : f_X1_mow z = some z') : Ctv l E yX1_mow wsX1_mow rm_X1_mow [.ref (E.ad o 0)] (va_up σ o z)  (va_up σ o z') := by
  refine meet_v (cc := cX1_mow) (maxL := 3) (own := RX1) (by decide) rfl rfl (Nat.le_of_ble_eq_true rfl) ?_
  intro p e s m below meth c Z S hB fin hP hS ls hl
  have hx := S.1
  have hb := S.2.1
  have hl : lv_has ls 3 [(0, .ref (E.ad o 0))] := hl
  have hinX1 : ∀ w ∈ u_ws RX1 TX1 12, w ∈ wsX1_mow := by decide +kernel
  have fl9 := S.2.2.2.2 (.fieldLink RX1 9 "MownMaze$Maze" "hedges" "I") (by decide +kernel)
  have fl18 := S.2.2.2.2 (.fieldLink RX1 18 "MownMaze$Maze" "last" "I") (by decide +kernel)
  have fl31 := S.2.2.2.2 (.fieldLink RX1 31 "MownMaze$Maze" "taste" "[I") (by decide +kernel)
  have fl34 := S.2.2.2.2 (.fieldLink RX1 34 "MownMaze$Maze" "pace" "[I") (by decide +kernel)
  unfold f_X1_mow at hf
  refine lv_aload_n hx hb dX1_mow_0 rfl (lv_at hl 0 rfl) ?_
  obtain ⟨q1, hq1, hf⟩ := bind_some hf
  refine callV_i (As := []) (rest := []) S hB hP hS (C := RX1) (b := E.ad o 0) (g_recv (o := o) (d := 0) hB hP (mem_mz h1 h2 (by decide)) (by rw [va_up_self]; exact (cell_mz E h1 h2) _) rfl) (K_X1_todays l hE σ h1 h2 z hq1) (cwV 0 S.2.2.2.2 gX1_mow_X1_todays rfl rfl rfl (by decide +kernel) ⟨Nat.le_of_ble_eq_true rfl, Nat.le_of_ble_eq_true rfl⟩) rfl hl.1 rfl (Nat.le_of_ble_eq_true rfl) dX1_mow_1 ⟨Nat.zero_le _, Nat.zero_le _⟩ (fun H locs hP hS => ?_)
  refine lv_istore_n (lv' := [(1, .int q1), (0, .ref (E.ad o 0))]) hx hb dX1_mow_4 rfl hl (by decide) rfl (fun ls hl => ?_)
  refine lv_iload_n hx hb dX1_mow_5 rfl (lv_at hl 0 rfl) ?_
  refine lv_if_ge (tgt := 10) hx hb dX1_mow_6 (by decide) (fun c2 => ?_) (fun c2 => ?_)
  · have hf := if_t c2 hf
    refine lv_aload_n hx hb dX1_mow_10 rfl (lv_at hl 1 rfl) ?_
    refine lv_iload_n hx hb dX1_mow_11 rfl (lv_at hl 0 rfl) ?_
    obtain ⟨q3, hq3, hf⟩ := bind_some hf
    refine callV_i (As := [.int q1]) (rest := []) S hB hP hS (C := RX1) (b := E.ad o 0) (g_recv (o := o) (d := 0) hB hP (mem_mz h1 h2 (by decide)) (by rw [va_up_self]; exact (cell_mz E h1 h2) _) rfl) (K_X1_goal l hE σ h1 h2 z q1 hq3) (cwV 1 S.2.2.2.2 gX1_mow_X1_goal rfl rfl rfl (by decide +kernel) ⟨Nat.le_of_ble_eq_true rfl, Nat.le_of_ble_eq_true rfl⟩) rfl hl.1 rfl (Nat.le_of_ble_eq_true rfl) dX1_mow_12 ⟨Nat.zero_le _, Nat.zero_le _⟩ (fun H locs hP hS => ?_)
    refine lv_istore_n (lv' := [(2, .int q3), (1, .int q1), (0, .ref (E.ad o 0))]) hx hb dX1_mow_15 rfl hl (by decide) rfl (fun ls hl => ?_)
    refine lv_aload_n hx hb dX1_mow_16 rfl (lv_at hl 2 rfl) ?_
    refine lv_aload_n hx hb dX1_mow_17 rfl (lv_at hl 2 rfl) ?_
    refine g_get (v := .int (z 0 0)) S hB hinX1 hP (mem_mz h1 h2 (by decide)) (by rw [va_up_self]; exact (cell_mz E h1 h2) _) rfl 0 (by decide) fl9 rfl rfl dX1_mow_18 ?_
    refine lv_iload_n hx hb dX1_mow_21 rfl (lv_at hl 0 rfl) ?_
    refine lv_aload_n hx hb dX1_mow_22 rfl (lv_at hl 2 rfl) ?_
    refine lv_iload_n hx hb dX1_mow_23 rfl (lv_at hl 1 rfl) ?_
    refine lv_iload_n hx hb dX1_mow_24 rfl (lv_at hl 0 rfl) ?_
    obtain ⟨q4, hq4, hf⟩ := bind_some hf
    refine callV_i (As := [.int q1, .int q3]) (rest := [.int q3, .int (z 0 0), .ref (E.ad o 0)]) S hB hP hS (C := RX1) (b := E.ad o 0) (g_recv (o := o) (d := 0) hB hP (mem_mz h1 h2 (by decide)) (by rw [va_up_self]; exact (cell_mz E h1 h2) _) rfl) (K_X1_made l hE σ h1 h2 z q1 q3 hq4) (cwV 2 S.2.2.2.2 gX1_mow_X1_made rfl rfl rfl (by decide +kernel) ⟨Nat.le_of_ble_eq_true rfl, Nat.le_of_ble_eq_true rfl⟩) rfl hl.1 rfl (Nat.le_of_ble_eq_true rfl) dX1_mow_25 ⟨Nat.zero_le _, Nat.zero_le _⟩ (fun H locs hP hS => ?_)
    obtain ⟨q5, hq5, hf⟩ := bind_some hf
    refine callS_i (As := [.int (z 0 0), .int q3, .int q4]) (rest := [.ref (E.ad o 0)]) S hB hP hS (K_X2_with l hE (va_up σ o z) (z 0 0) q3 q4 hq5) (va_cwS 3 S.2.2.2.2 gX1_mow_X2_with rfl rfl rfl (by decide +kernel) ⟨Nat.le_of_ble_eq_true rfl, Nat.le_of_ble_eq_true rfl⟩) rfl hl.1 rfl (Nat.le_of_ble_eq_true rfl) dX1_mow_28 ⟨Nat.zero_le _, Nat.zero_le _⟩ (fun H locs hP hS => ?_)
    refine g_put S hB hE hinX1 tyX1 tyX1_ok nmX1 hP hS (mem_mz h1 h2 (by decide)) (by rw [va_up_self]; exact (cell_mz E h1 h2) _) rfl 0 (by decide) fl9 rfl rfl rfl rfl (Nat.le_of_ble_eq_true rfl) (by rw [va_up_self]; exact (cell_mz E h1 h2) _) (X' := (va_up σ o (ob z 0 0 q5))) (lens_put σ o _ _ _ _) dX1_mow_31 (fun H locs hP hS => ?_)
    refine lv_aload_n hx hb dX1_mow_34 rfl (lv_at hl 2 rfl) ?_
    refine lv_iload_n hx hb dX1_mow_35 rfl (lv_at hl 0 rfl) ?_
    refine g_put S hB hE hinX1 tyX1 tyX1_ok nmX1 hP hS (mem_mz h1 h2 (by decide)) (by rw [va_up_self]; exact (cell_mz E h1 h2) _) rfl 2 (by decide) fl18 rfl rfl rfl rfl (Nat.le_of_ble_eq_true rfl) (by rw [va_up_self]; exact (cell_mz E h1 h2) _) (X' := (va_up σ o (ob (ob z 0 0 q5) 0 2 q3))) (lens_put σ o _ _ _ _) dX1_mow_36 (fun H locs hP hS => ?_)
    refine lv_aload_n hx hb dX1_mow_39 rfl (lv_at hl 2 rfl) ?_
    refine g_get (v := .ref (E.ad o 2)) S hB hinX1 hP (mem_mz h1 h2 (by decide)) (by rw [va_up_self]; exact (cell_mz E h1 h2) _) rfl 6 (by decide) fl31 rfl rfl dX1_mow_40 ?_
    refine lv_iload_n hx hb dX1_mow_43 rfl (lv_at hl 1 rfl) ?_
    refine lv_aload_n hx hb dX1_mow_44 rfl (lv_at hl 2 rfl) ?_
    refine g_get (v := .ref (E.ad o 2)) S hB hinX1 hP (mem_mz h1 h2 (by decide)) (by rw [va_up_self]; exact (cell_mz E h1 h2) _) rfl 6 (by decide) fl31 rfl rfl dX1_mow_45 ?_
    refine lv_iload_n hx hb dX1_mow_48 rfl (lv_at hl 1 rfl) ?_
    obtain ⟨hv6, hf⟩ := ck_some hf
    refine g_iald (r := (ob (ob z 0 0 q5) 0 2 q3) 2) S hB hP (mem_mz h1 h2 (by decide)) (by rw [va_up_self]; exact (cell_ma E h1 h2 (by decide)) _) hv6 dX1_mow_49 ?_
    refine W.eq (g2 := F0 m 50 ls [.int (z 2 q1.toNatClampNeg), .int q1, .ref (E.ad o 2)]) rfl ?_
    refine lv_aload_n hx hb dX1_mow_50 rfl (lv_at hl 2 rfl) ?_
    refine g_get (v := .ref (E.ad o 3)) S hB hinX1 hP (mem_mz h1 h2 (by decide)) (by rw [va_up_self]; exact (cell_mz E h1 h2) _) rfl 7 (by decide) fl34 rfl rfl dX1_mow_51 ?_
    refine lv_iload_n hx hb dX1_mow_54 rfl (lv_at hl 1 rfl) ?_
    obtain ⟨hv7, hf⟩ := ck_some hf
    refine g_iald (r := (ob (ob z 0 0 q5) 0 2 q3) 3) S hB hP (mem_mz h1 h2 (by decide)) (by rw [va_up_self]; exact (cell_ma E h1 h2 (by decide)) _) hv7 dX1_mow_55 ?_
    refine W.eq (g2 := F0 m 56 ls [.int (z 3 q1.toNatClampNeg), .int (z 2 q1.toNatClampNeg), .int q1, .ref (E.ad o 2)]) rfl ?_
    refine lv_iadd hx hb dX1_mow_56 ?_
    refine lv_bipush (v := 24) hx hb dX1_mow_57 (by decide) ?_
    refine lv_irem hx hb dX1_mow_59 (by decide) ?_
    obtain ⟨hv8, hf⟩ := ck_some hf
    refine g_iast (r := (ob (ob z 0 0 q5) 0 2 q3) 2) S hB hE hP hS (mem_mz h1 h2 (by decide)) (by rw [va_up_self]; exact (cell_ma E h1 h2 (by decide)) _) (by rw [va_up_self]) (cell_ma E h1 h2 (by decide)) hv8 (X' := (va_up σ o (ob (ob (ob z 0 0 q5) 0 2 q3) 2 q1.toNatClampNeg (((z 2 q1.toNatClampNeg) + (z 3 q1.toNatClampNeg)) - ((z 2 q1.toNatClampNeg) + (z 3 q1.toNatClampNeg)) / (24 : Int32) * (24 : Int32))))) (lens_put σ o _ _ _ _) dX1_mow_60 (fun H locs hP hS => ?_)
    exact fin dX1_mow_61  (by rw [(s0 hf)]) hP hS
  · have hf := if_f c2 hf
    exact fin dX1_mow_9  (by rw [(s0 hf)]) hP hS
theorem KW_X1_mow (l : Launch) {E : En} (hE : Inj E) (X : Wd) {o : Nat} (h1 : 4 ≤ o) (h2 : o < 18) {z' : Ob} (hf : f_X1_mow (X o) = some z') : Ctv l E yX1_mow wsX1_mow rm_X1_mow [.ref (E.ad o 0)] X  (va_up X o z') := by
  have h := K_X1_mow l hE X h1 h2 (X o)  hf
  rw [lens_all] at h
  exact h
/-! X1_walk -/
abbrev rm_X1_walk : Room := { frames := 2, cells := 0, slots := 0, locals := 50 }
set_option maxHeartbeats 4000000 in
set_option maxRecDepth 100000 in
theorem K_X1_walk (l : Launch) {E : En} (hE : Inj E) (σ : Wd) {o : Nat} (h1 : 4 ≤ o) (h2 : o < 18) (z : Ob) {z' : Ob} (hf : f_X1_walk z = some z') : Ctv l E yX1_walk wsX1_walk rm_X1_walk [.ref (E.ad o 0)] (va_up σ o z)  (va_up σ o z') := by
  refine meet_v (cc := cX1_walk) (maxL := 2) (own := RX1) (by decide) rfl rfl (Nat.le_of_ble_eq_true rfl) ?_
  intro p e s m below meth c Z S hB fin hP hS ls hl
  have hx := S.1
  have hb := S.2.1
  have hl : lv_has ls 2 [(0, .ref (E.ad o 0))] := hl
  have hinX1 : ∀ w ∈ u_ws RX1 TX1 12, w ∈ wsX1_walk := by decide +kernel
  have fl9 := S.2.2.2.2 (.fieldLink RX1 9 "MownMaze$Maze" "hedges" "I") (by decide +kernel)
  have fl15 := S.2.2.2.2 (.fieldLink RX1 15 "MownMaze$Maze" "gate" "I") (by decide +kernel)
  have fl37 := S.2.2.2.2 (.fieldLink RX1 37 "MownMaze$Maze" "guests" "I") (by decide +kernel)
  have fl40 := S.2.2.2.2 (.fieldLink RX1 40 "MownMaze$Maze" "at" "[I") (by decide +kernel)
  have fl43 := S.2.2.2.2 (.fieldLink RX1 43 "MownMaze$Maze" "food" "[I") (by decide +kernel)
  have fl46 := S.2.2.2.2 (.fieldLink RX1 46 "MownMaze$Maze" "fate" "[I") (by decide +kernel)
  have hL2 : ∀ (n2 : Nat) (z : Ob) (x1 : Int32) (H : Heap) (locs : List Loc) (ls : Array Slot), f_X1_walk_l2 n2 z x1 = some z' → va_P E.1 vwCl (GW E (va_up σ o z)) H → va_S (GA E) s.heap H locs → lv_has ls 2 [(0, .ref (E.ad o 0)), (1, .int x1)] → W p l e rm_X1_walk s m ([.ref (E.ad o 0)] : List Value).toArray below meth c H locs 0 0 Z (F0 m 2 ls []) := by
    intro n2
    induction n2 with
    | zero =>
      intro z x1 H locs ls hf
      cases (show (none : Option _) = some _ from hf)
    | succ n2 ih2 =>
      have hB94 : ∀ (z : Ob) (x1 : Int32) (H : Heap) (locs : List Loc) (ls : Array Slot), f_X1_walk_b94 (f_X1_walk_l2 n2) z x1 = some z' → va_P E.1 vwCl (GW E (va_up σ o z)) H → va_S (GA E) s.heap H locs → lv_has ls 2 [(0, .ref (E.ad o 0)), (1, .int x1)] → W p l e rm_X1_walk s m ([.ref (E.ad o 0)] : List Value).toArray below meth c H locs 0 0 Z (F0 m 94 ls []) := by
        intro z x1 H locs ls hf hP hS hl
        unfold f_X1_walk_b94 at hf
        refine lv_iinc (v := x1 + (1 : Int32)) (lv' := [(1, .int (x1 + (1 : Int32))), (0, .ref (E.ad o 0))]) hx hb dX1_walk_94 hl (k := 1) rfl rfl (by decide) rfl (fun ls hl => ?_)
        refine lv_goto (tgt := 2) hx hb dX1_walk_97 (by decide) ?_
        exact ih2 z (x1 + (1 : Int32)) _ _ _ hf hP hS (lv_sub hl [1, 0] rfl)
      intro z x1 H locs ls hf hP hS hl
      unfold f_X1_walk_l2 at hf
      refine lv_iload_n hx hb dX1_walk_2 rfl (lv_at hl 1 rfl) ?_
      refine lv_aload_n hx hb dX1_walk_3 rfl (lv_at hl 0 rfl) ?_
      refine g_get (v := .int (z 0 8)) S hB hinX1 hP (mem_mz h1 h2 (by decide)) (by rw [va_up_self]; exact (cell_mz E h1 h2) _) rfl 8 (by decide) fl37 rfl rfl dX1_walk_4 ?_
      refine lv_icmp_ge (tgt := 100) hx hb dX1_walk_7 (by decide) (fun c1 => ?_) (fun c1 => ?_)
      · have hf := if_t c1 hf
        exact fin dX1_walk_100  (by rw [(s0 hf)]) hP hS
      · have hf := if_f c1 hf
        refine lv_aload_n hx hb dX1_walk_10 rfl (lv_at hl 0 rfl) ?_
        refine g_get (v := .ref (E.ad o 6)) S hB hinX1 hP (mem_mz h1 h2 (by decide)) (by rw [va_up_self]; exact (cell_mz E h1 h2) _) rfl 11 (by decide) fl46 rfl rfl dX1_walk_11 ?_
        refine lv_iload_n hx hb dX1_walk_14 rfl (lv_at hl 1 rfl) ?_
        obtain ⟨hv2, hf⟩ := ck_some hf
        refine g_iald (r := z 6) S hB hP (mem_mz h1 h2 (by decide)) (by rw [va_up_self]; exact (cell_ma E h1 h2 (by decide)) _) hv2 dX1_walk_15 ?_
        refine lv_if_eq (tgt := 22) hx hb dX1_walk_16 (by decide) (fun c3 => ?_) (fun c3 => ?_)
        · have hf := if_t c3 hf
          refine lv_aload_n hx hb dX1_walk_22 rfl (lv_at hl 0 rfl) ?_
          refine g_get (v := .ref (E.ad o 5)) S hB hinX1 hP (mem_mz h1 h2 (by decide)) (by rw [va_up_self]; exact (cell_mz E h1 h2) _) rfl 10 (by decide) fl43 rfl rfl dX1_walk_23 ?_
          refine lv_iload_n hx hb dX1_walk_26 rfl (lv_at hl 1 rfl) ?_
          obtain ⟨hv4, hf⟩ := ck_some hf
          refine g_iald (r := z 5) S hB hP (mem_mz h1 h2 (by decide)) (by rw [va_up_self]; exact (cell_ma E h1 h2 (by decide)) _) hv4 dX1_walk_27 ?_
          refine lv_if_ne (tgt := 41) hx hb dX1_walk_28 (by decide) (fun c5 => ?_) (fun c5 => ?_)
          · have hf := if_f c5 hf
            refine lv_aload_n hx hb dX1_walk_41 rfl (lv_at hl 0 rfl) ?_
            refine g_get (v := .ref (E.ad o 4)) S hB hinX1 hP (mem_mz h1 h2 (by decide)) (by rw [va_up_self]; exact (cell_mz E h1 h2) _) rfl 9 (by decide) fl40 rfl rfl dX1_walk_42 ?_
            refine lv_iload_n hx hb dX1_walk_45 rfl (lv_at hl 1 rfl) ?_
            refine lv_aload_n hx hb dX1_walk_46 rfl (lv_at hl 0 rfl) ?_
            refine g_get (v := .int (z 0 0)) S hB hinX1 hP (mem_mz h1 h2 (by decide)) (by rw [va_up_self]; exact (cell_mz E h1 h2) _) rfl 0 (by decide) fl9 rfl rfl dX1_walk_47 ?_
            refine lv_aload_n hx hb dX1_walk_50 rfl (lv_at hl 0 rfl) ?_
            refine g_get (v := .ref (E.ad o 4)) S hB hinX1 hP (mem_mz h1 h2 (by decide)) (by rw [va_up_self]; exact (cell_mz E h1 h2) _) rfl 9 (by decide) fl40 rfl rfl dX1_walk_51 ?_
            refine lv_iload_n hx hb dX1_walk_54 rfl (lv_at hl 1 rfl) ?_
            obtain ⟨hv6, hf⟩ := ck_some hf
            refine g_iald (r := z 4) S hB hP (mem_mz h1 h2 (by decide)) (by rw [va_up_self]; exact (cell_ma E h1 h2 (by decide)) _) hv6 dX1_walk_55 ?_
            refine lv_aload_n hx hb dX1_walk_56 rfl (lv_at hl 0 rfl) ?_
            refine g_get (v := .int (z 0 1)) S hB hinX1 hP (mem_mz h1 h2 (by decide)) (by rw [va_up_self]; exact (cell_mz E h1 h2) _) rfl 1 (by decide) fl15 rfl rfl dX1_walk_57 ?_
            obtain ⟨q7, hq7, hf⟩ := bind_some hf
            refine callS_i (As := [.int (z 0 0), .int (z 4 x1.toNatClampNeg), .int (z 0 1)]) (rest := [.int x1, .ref (E.ad o 4)]) S hB hP hS (K_X2_toward l hE (va_up σ o z) (z 0 0) (z 4 x1.toNatClampNeg) (z 0 1) hq7) (va_cwS 3 S.2.2.2.2 gX1_walk_X2_toward rfl rfl rfl (by decide +kernel) ⟨Nat.le_of_ble_eq_true rfl, Nat.le_of_ble_eq_true rfl⟩) rfl hl.1 rfl (Nat.le_of_ble_eq_true rfl) dX1_walk_60 ⟨Nat.zero_le _, Nat.zero_le _⟩ (fun H locs hP hS => ?_)
            obtain ⟨hv8, hf⟩ := ck_some hf
            refine g_iast (r := z 4) S hB hE hP hS (mem_mz h1 h2 (by decide)) (by rw [va_up_self]; exact (cell_ma E h1 h2 (by decide)) _) (by rw [va_up_self]) (cell_ma E h1 h2 (by decide)) hv8 (X' := (va_up σ o (ob z 4 x1.toNatClampNeg q7))) (lens_put σ o _ _ _ _) dX1_walk_63 (fun H locs hP hS => ?_)
            refine lv_aload_n hx hb dX1_walk_64 rfl (lv_at hl 0 rfl) ?_
            refine g_get (v := .ref (E.ad o 5)) S hB hinX1 hP (mem_mz h1 h2 (by decide)) (by rw [va_up_self]; exact (cell_mz E h1 h2) _) rfl 10 (by decide) fl43 rfl rfl dX1_walk_65 ?_
            refine lv_iload_n hx hb dX1_walk_68 rfl (lv_at hl 1 rfl) ?_
            refine lv_dup2_11 hx hb dX1_walk_69 rfl rfl ?_
            obtain ⟨hv9, hf⟩ := ck_some hf
            refine g_iald (r := (ob z 4 x1.toNatClampNeg q7) 5) S hB hP (mem_mz h1 h2 (by decide)) (by rw [va_up_self]; exact (cell_ma E h1 h2 (by decide)) _) hv9 dX1_walk_70 ?_
            refine W.eq (g2 := F0 m 71 ls [.int (z 5 x1.toNatClampNeg), .int x1, .ref (E.ad o 5)]) rfl ?_
            refine lv_iconst (v := 1) hx hb dX1_walk_71 (by decide) ?_
            refine lv_isub hx hb dX1_walk_72 ?_
            obtain ⟨hv10, hf⟩ := ck_some hf
            refine g_iast (r := (ob z 4 x1.toNatClampNeg q7) 5) S hB hE hP hS (mem_mz h1 h2 (by decide)) (by rw [va_up_self]; exact (cell_ma E h1 h2 (by decide)) _) (by rw [va_up_self]) (cell_ma E h1 h2 (by decide)) hv10 (X' := (va_up σ o (ob (ob z 4 x1.toNatClampNeg q7) 5 x1.toNatClampNeg ((z 5 x1.toNatClampNeg) - (1 : Int32))))) (lens_put σ o _ _ _ _) dX1_walk_73 (fun H locs hP hS => ?_)
            refine lv_aload_n hx hb dX1_walk_74 rfl (lv_at hl 0 rfl) ?_
            refine g_get (v := .ref (E.ad o 4)) S hB hinX1 hP (mem_mz h1 h2 (by decide)) (by rw [va_up_self]; exact (cell_mz E h1 h2) _) rfl 9 (by decide) fl40 rfl rfl dX1_walk_75 ?_
            refine lv_iload_n hx hb dX1_walk_78 rfl (lv_at hl 1 rfl) ?_
            obtain ⟨hv11, hf⟩ := ck_some hf
            refine g_iald (r := (ob (ob z 4 x1.toNatClampNeg q7) 5 x1.toNatClampNeg ((z 5 x1.toNatClampNeg) - (1 : Int32))) 4) S hB hP (mem_mz h1 h2 (by decide)) (by rw [va_up_self]; exact (cell_ma E h1 h2 (by decide)) _) hv11 dX1_walk_79 ?_
            refine W.eq (g2 := F0 m 80 ls [.int q7]) (by simp [wo, ob, va_up, upd]) ?_
            refine lv_aload_n hx hb dX1_walk_80 rfl (lv_at hl 0 rfl) ?_
            refine g_get (v := .int (z 0 1)) S hB hinX1 hP (mem_mz h1 h2 (by decide)) (by rw [va_up_self]; exact (cell_mz E h1 h2) _) rfl 1 (by decide) fl15 rfl rfl dX1_walk_81 ?_
            refine lv_icmp_ne (tgt := 94) hx hb dX1_walk_84 (by decide) (fun c12 => ?_) (fun c12 => ?_)
            · have hf := if_f c12 hf
              exact hB94 (ob (ob z 4 x1.toNatClampNeg q7) 5 x1.toNatClampNeg ((z 5 x1.toNatClampNeg) - (1 : Int32))) x1 _ _ _ hf hP hS (lv_sub hl [0, 1] rfl)
            · have hf := if_t c12 hf
              refine lv_aload_n hx hb dX1_walk_87 rfl (lv_at hl 0 rfl) ?_
              refine g_get (v := .ref (E.ad o 6)) S hB hinX1 hP (mem_mz h1 h2 (by decide)) (by rw [va_up_self]; exact (cell_mz E h1 h2) _) rfl 11 (by decide) fl46 rfl rfl dX1_walk_88 ?_
              refine lv_iload_n hx hb dX1_walk_91 rfl (lv_at hl 1 rfl) ?_
              refine lv_iconst (v := 1) hx hb dX1_walk_92 (by decide) ?_
              obtain ⟨hv13, hf⟩ := ck_some hf
              refine g_iast (r := (ob (ob z 4 x1.toNatClampNeg q7) 5 x1.toNatClampNeg ((z 5 x1.toNatClampNeg) - (1 : Int32))) 6) S hB hE hP hS (mem_mz h1 h2 (by decide)) (by rw [va_up_self]; exact (cell_ma E h1 h2 (by decide)) _) (by rw [va_up_self]) (cell_ma E h1 h2 (by decide)) hv13 (X' := (va_up σ o (ob (ob (ob z 4 x1.toNatClampNeg q7) 5 x1.toNatClampNeg ((z 5 x1.toNatClampNeg) - (1 : Int32))) 6 x1.toNatClampNeg (1 : Int32)))) (lens_put σ o _ _ _ _) dX1_walk_93 (fun H locs hP hS => ?_)
              exact hB94 (ob (ob (ob z 4 x1.toNatClampNeg q7) 5 x1.toNatClampNeg ((z 5 x1.toNatClampNeg) - (1 : Int32))) 6 x1.toNatClampNeg (1 : Int32)) x1 _ _ _ hf hP hS (lv_sub hl [0, 1] rfl)
          · have hf := if_t c5 hf
            refine lv_aload_n hx hb dX1_walk_31 rfl (lv_at hl 0 rfl) ?_
            refine g_get (v := .ref (E.ad o 6)) S hB hinX1 hP (mem_mz h1 h2 (by decide)) (by rw [va_up_self]; exact (cell_mz E h1 h2) _) rfl 11 (by decide) fl46 rfl rfl dX1_walk_32 ?_
            refine lv_iload_n hx hb dX1_walk_35 rfl (lv_at hl 1 rfl) ?_
            refine lv_iconst (v := 2) hx hb dX1_walk_36 (by decide) ?_
            obtain ⟨hv14, hf⟩ := ck_some hf
            refine g_iast (r := z 6) S hB hE hP hS (mem_mz h1 h2 (by decide)) (by rw [va_up_self]; exact (cell_ma E h1 h2 (by decide)) _) (by rw [va_up_self]) (cell_ma E h1 h2 (by decide)) hv14 (X' := (va_up σ o (ob z 6 x1.toNatClampNeg (2 : Int32)))) (lens_put σ o _ _ _ _) dX1_walk_37 (fun H locs hP hS => ?_)
            refine lv_goto (tgt := 94) hx hb dX1_walk_38 (by decide) ?_
            exact hB94 (ob z 6 x1.toNatClampNeg (2 : Int32)) x1 _ _ _ hf hP hS (lv_sub hl [0, 1] rfl)
        · have hf := if_f c3 hf
          refine lv_goto (tgt := 94) hx hb dX1_walk_19 (by decide) ?_
          exact hB94 z x1 _ _ _ hf hP hS (lv_sub hl [0, 1] rfl)
  unfold f_X1_walk at hf
  refine lv_iconst (v := 0) hx hb dX1_walk_0 (by decide) ?_
  refine lv_istore_n (lv' := [(1, .int (0 : Int32)), (0, .ref (E.ad o 0))]) hx hb dX1_walk_1 rfl hl (by decide) rfl (fun ls hl => ?_)
  exact hL2 FUEL z (0 : Int32) _ _ _ hf hP hS (lv_sub hl [1, 0] rfl)
theorem KW_X1_walk (l : Launch) {E : En} (hE : Inj E) (X : Wd) {o : Nat} (h1 : 4 ≤ o) (h2 : o < 18) {z' : Ob} (hf : f_X1_walk (X o) = some z') : Ctv l E yX1_walk wsX1_walk rm_X1_walk [.ref (E.ad o 0)] X  (va_up X o z') := by
  have h := K_X1_walk l hE X h1 h2 (X o)  hf
  rw [lens_all] at h
  exact h
/-! X1_passDays -/
abbrev rm_X1_passDays : Room := { frames := 3, cells := 0, slots := 0, locals := 71 }
set_option maxHeartbeats 4000000 in
set_option maxRecDepth 100000 in
theorem K_X1_passDays (l : Launch) {E : En} (hE : Inj E) (σ : Wd) {o : Nat} (h1 : 4 ≤ o) (h2 : o < 18) (z : Ob) (a1 : Int32) {z' : Ob} (hf : f_X1_passDays z a1 = some z') : Ctv l E yX1_passDays wsX1_passDays rm_X1_passDays [.ref (E.ad o 0), .int a1] (va_up σ o z)  (va_up σ o z') := by
  refine meet_v (cc := cX1_passDays) (maxL := 3) (own := RX1) (by decide) rfl rfl (Nat.le_of_ble_eq_true rfl) ?_
  intro p e s m below meth c Z S hB fin hP hS ls hl
  have hx := S.1
  have hb := S.2.1
  have hl : lv_has ls 3 [(0, .ref (E.ad o 0)), (1, .int a1)] := hl
  have hinX1 : ∀ w ∈ u_ws RX1 TX1 12, w ∈ wsX1_passDays := by decide +kernel
  have fl21 := S.2.2.2.2 (.fieldLink RX1 21 "MownMaze$Maze" "day" "I") (by decide +kernel)
  have hL2 : ∀ (n2 : Nat) (z : Ob) (x1 : Int32) (x2 : Int32) (H : Heap) (locs : List Loc) (ls : Array Slot), f_X1_passDays_l2 n2 z x1 x2 = some z' → va_P E.1 vwCl (GW E (va_up σ o z)) H → va_S (GA E) s.heap H locs → lv_has ls 3 [(0, .ref (E.ad o 0)), (1, .int x1), (2, .int x2)] → W p l e rm_X1_passDays s m ([.ref (E.ad o 0), .int a1] : List Value).toArray below meth c H locs 0 0 Z (F0 m 2 ls []) := by
    intro n2
    induction n2 with
    | zero =>
      intro z x1 x2 H locs ls hf
      cases (show (none : Option _) = some _ from hf)
    | succ n2 ih2 =>
      intro z x1 x2 H locs ls hf hP hS hl
      unfold f_X1_passDays_l2 at hf
      refine lv_iload_n hx hb dX1_passDays_2 rfl (lv_at hl 2 rfl) ?_
      refine lv_iload_n hx hb dX1_passDays_3 rfl (lv_at hl 1 rfl) ?_
      refine lv_icmp_ge (tgt := 31) hx hb dX1_passDays_4 (by decide) (fun c1 => ?_) (fun c1 => ?_)
      · have hf := if_t c1 hf
        exact fin dX1_passDays_31  (by rw [(s0 hf)]) hP hS
      · have hf := if_f c1 hf
        refine lv_aload_n hx hb dX1_passDays_7 rfl (lv_at hl 0 rfl) ?_
        obtain ⟨q2, hq2, hf⟩ := bind_some hf
        refine callV_v (As := []) (rest := []) S hB hP hS (C := RX1) (b := E.ad o 0) (g_recv (o := o) (d := 0) hB hP (mem_mz h1 h2 (by decide)) (by rw [va_up_self]; exact (cell_mz E h1 h2) _) rfl) (K_X1_mow l hE σ h1 h2 z hq2) (cwV 0 S.2.2.2.2 gX1_passDays_X1_mow rfl rfl rfl (by decide +kernel) ⟨Nat.le_of_ble_eq_true rfl, Nat.le_of_ble_eq_true rfl⟩) rfl hl.1 rfl (Nat.le_of_ble_eq_true rfl) dX1_passDays_8 ⟨Nat.zero_le _, Nat.zero_le _⟩ (fun H locs hP hS => ?_)
        refine lv_aload_n hx hb dX1_passDays_11 rfl (lv_at hl 0 rfl) ?_
        obtain ⟨q3, hq3, hf⟩ := bind_some hf
        refine callV_v (As := []) (rest := []) S hB hP hS (C := RX1) (b := E.ad o 0) (g_recv (o := o) (d := 0) hB hP (mem_mz h1 h2 (by decide)) (by rw [va_up_self]; exact (cell_mz E h1 h2) _) rfl) (K_X1_walk l hE σ h1 h2 q2 hq3) (cwV 0 S.2.2.2.2 gX1_passDays_X1_walk rfl rfl rfl (by decide +kernel) ⟨Nat.le_of_ble_eq_true rfl, Nat.le_of_ble_eq_true rfl⟩) rfl hl.1 rfl (Nat.le_of_ble_eq_true rfl) dX1_passDays_12 ⟨Nat.zero_le _, Nat.zero_le _⟩ (fun H locs hP hS => ?_)
        refine lv_aload_n hx hb dX1_passDays_15 rfl (lv_at hl 0 rfl) ?_
        refine lv_dup hx hb dX1_passDays_16 rfl ?_
        refine g_get (v := .int (q3 0 3)) S hB hinX1 hP (mem_mz h1 h2 (by decide)) (by rw [va_up_self]; exact (cell_mz E h1 h2) _) rfl 3 (by decide) fl21 rfl rfl dX1_passDays_17 ?_
        refine lv_iconst (v := 1) hx hb dX1_passDays_20 (by decide) ?_
        refine lv_iadd hx hb dX1_passDays_21 ?_
        refine g_put S hB hE hinX1 tyX1 tyX1_ok nmX1 hP hS (mem_mz h1 h2 (by decide)) (by rw [va_up_self]; exact (cell_mz E h1 h2) _) rfl 3 (by decide) fl21 rfl rfl rfl rfl (Nat.le_of_ble_eq_true rfl) (by rw [va_up_self]; exact (cell_mz E h1 h2) _) (X' := (va_up σ o (ob q3 0 3 ((q3 0 3) + (1 : Int32))))) (lens_put σ o _ _ _ _) dX1_passDays_22 (fun H locs hP hS => ?_)
        refine lv_iinc (v := x2 + (1 : Int32)) (lv' := [(2, .int (x2 + (1 : Int32))), (0, .ref (E.ad o 0)), (1, .int x1)]) hx hb dX1_passDays_25 hl (k := 2) rfl rfl (by decide) rfl (fun ls hl => ?_)
        refine lv_goto (tgt := 2) hx hb dX1_passDays_28 (by decide) ?_
        exact ih2 (ob q3 0 3 ((q3 0 3) + (1 : Int32))) x1 (x2 + (1 : Int32)) _ _ _ hf hP hS (lv_sub hl [1, 2, 0] rfl)
  unfold f_X1_passDays at hf
  refine lv_iconst (v := 0) hx hb dX1_passDays_0 (by decide) ?_
  refine lv_istore_n (lv' := [(2, .int (0 : Int32)), (0, .ref (E.ad o 0)), (1, .int a1)]) hx hb dX1_passDays_1 rfl hl (by decide) rfl (fun ls hl => ?_)
  exact hL2 FUEL z a1 (0 : Int32) _ _ _ hf hP hS (lv_sub hl [1, 2, 0] rfl)
theorem KW_X1_passDays (l : Launch) {E : En} (hE : Inj E) (X : Wd) {o : Nat} (h1 : 4 ≤ o) (h2 : o < 18) (a1 : Int32) {z' : Ob} (hf : f_X1_passDays (X o) a1 = some z') : Ctv l E yX1_passDays wsX1_passDays rm_X1_passDays [.ref (E.ad o 0), .int a1] X  (va_up X o z') := by
  have h := K_X1_passDays l hE X h1 h2 (X o) a1 hf
  rw [lens_all] at h
  exact h
/-! X1_passDayOfGuests -/
abbrev rm_X1_passDayOfGuests : Room := { frames := 3, cells := 0, slots := 0, locals := 71 }
set_option maxHeartbeats 4000000 in
set_option maxRecDepth 100000 in
theorem K_X1_passDayOfGuests (l : Launch) {E : En} (hE : Inj E) (σ : Wd) {o : Nat} (h1 : 4 ≤ o) (h2 : o < 18) (z : Ob) {z' : Ob} (hf : f_X1_passDayOfGuests z = some z') : Ctv l E yX1_passDayOfGuests wsX1_passDayOfGuests rm_X1_passDayOfGuests [.ref (E.ad o 0)] (va_up σ o z)  (va_up σ o z') := by
  refine meet_v (cc := cX1_passDayOfGuests) (maxL := 1) (own := RX1) (by decide) rfl rfl (Nat.le_of_ble_eq_true rfl) ?_
  intro p e s m below meth c Z S hB fin hP hS ls hl
  have hx := S.1
  have hb := S.2.1
  have hl : lv_has ls 1 [(0, .ref (E.ad o 0))] := hl
  have hinX1 : ∀ w ∈ u_ws RX1 TX1 12, w ∈ wsX1_passDayOfGuests := by decide +kernel
  have fl21 := S.2.2.2.2 (.fieldLink RX1 21 "MownMaze$Maze" "day" "I") (by decide +kernel)
  unfold f_X1_passDayOfGuests at hf
  refine lv_aload_n hx hb dX1_passDayOfGuests_0 rfl (lv_at hl 0 rfl) ?_
  obtain ⟨q1, hq1, hf⟩ := bind_some hf
  refine callV_v (As := []) (rest := []) S hB hP hS (C := RX1) (b := E.ad o 0) (g_recv (o := o) (d := 0) hB hP (mem_mz h1 h2 (by decide)) (by rw [va_up_self]; exact (cell_mz E h1 h2) _) rfl) (K_X1_walk l hE σ h1 h2 z hq1) (cwV 0 S.2.2.2.2 gX1_passDayOfGuests_X1_walk rfl rfl rfl (by decide +kernel) ⟨Nat.le_of_ble_eq_true rfl, Nat.le_of_ble_eq_true rfl⟩) rfl hl.1 rfl (Nat.le_of_ble_eq_true rfl) dX1_passDayOfGuests_1 ⟨Nat.zero_le _, Nat.zero_le _⟩ (fun H locs hP hS => ?_)
  refine lv_aload_n hx hb dX1_passDayOfGuests_4 rfl (lv_at hl 0 rfl) ?_
  refine lv_dup hx hb dX1_passDayOfGuests_5 rfl ?_
  refine g_get (v := .int (q1 0 3)) S hB hinX1 hP (mem_mz h1 h2 (by decide)) (by rw [va_up_self]; exact (cell_mz E h1 h2) _) rfl 3 (by decide) fl21 rfl rfl dX1_passDayOfGuests_6 ?_
  refine lv_iconst (v := 1) hx hb dX1_passDayOfGuests_9 (by decide) ?_
  refine lv_iadd hx hb dX1_passDayOfGuests_10 ?_
  refine g_put S hB hE hinX1 tyX1 tyX1_ok nmX1 hP hS (mem_mz h1 h2 (by decide)) (by rw [va_up_self]; exact (cell_mz E h1 h2) _) rfl 3 (by decide) fl21 rfl rfl rfl rfl (Nat.le_of_ble_eq_true rfl) (by rw [va_up_self]; exact (cell_mz E h1 h2) _) (X' := (va_up σ o (ob q1 0 3 ((q1 0 3) + (1 : Int32))))) (lens_put σ o _ _ _ _) dX1_passDayOfGuests_11 (fun H locs hP hS => ?_)
  exact fin dX1_passDayOfGuests_14  (by rw [(s0 hf)]) hP hS
theorem KW_X1_passDayOfGuests (l : Launch) {E : En} (hE : Inj E) (X : Wd) {o : Nat} (h1 : 4 ≤ o) (h2 : o < 18) {z' : Ob} (hf : f_X1_passDayOfGuests (X o) = some z') : Ctv l E yX1_passDayOfGuests wsX1_passDayOfGuests rm_X1_passDayOfGuests [.ref (E.ad o 0)] X  (va_up X o z') := by
  have h := K_X1_passDayOfGuests l hE X h1 h2 (X o)  hf
  rw [lens_all] at h
  exact h
/-! X1_passDayOfGardeners -/
abbrev rm_X1_passDayOfGardeners : Room := { frames := 3, cells := 0, slots := 0, locals := 65 }
set_option maxHeartbeats 4000000 in
set_option maxRecDepth 100000 in
theorem K_X1_passDayOfGardeners (l : Launch) {E : En} (hE : Inj E) (σ : Wd) {o : Nat} (h1 : 4 ≤ o) (h2 : o < 18) (z : Ob) {z' : Ob} (hf : f_X1_passDayOfGardeners z = some z') : Ctv l E yX1_passDayOfGardeners wsX1_passDayOfGardeners rm_X1_passDayOfGardeners [.ref (E.ad o 0)] (va_up σ o z)  (va_up σ o z') := by
  refine meet_v (cc := cX1_passDayOfGardeners) (maxL := 1) (own := RX1) (by decide) rfl rfl (Nat.le_of_ble_eq_true rfl) ?_
  intro p e s m below meth c Z S hB fin hP hS ls hl
  have hx := S.1
  have hb := S.2.1
  have hl : lv_has ls 1 [(0, .ref (E.ad o 0))] := hl
  have hinX1 : ∀ w ∈ u_ws RX1 TX1 12, w ∈ wsX1_passDayOfGardeners := by decide +kernel
  have fl21 := S.2.2.2.2 (.fieldLink RX1 21 "MownMaze$Maze" "day" "I") (by decide +kernel)
  unfold f_X1_passDayOfGardeners at hf
  refine lv_aload_n hx hb dX1_passDayOfGardeners_0 rfl (lv_at hl 0 rfl) ?_
  obtain ⟨q1, hq1, hf⟩ := bind_some hf
  refine callV_v (As := []) (rest := []) S hB hP hS (C := RX1) (b := E.ad o 0) (g_recv (o := o) (d := 0) hB hP (mem_mz h1 h2 (by decide)) (by rw [va_up_self]; exact (cell_mz E h1 h2) _) rfl) (K_X1_mow l hE σ h1 h2 z hq1) (cwV 0 S.2.2.2.2 gX1_passDayOfGardeners_X1_mow rfl rfl rfl (by decide +kernel) ⟨Nat.le_of_ble_eq_true rfl, Nat.le_of_ble_eq_true rfl⟩) rfl hl.1 rfl (Nat.le_of_ble_eq_true rfl) dX1_passDayOfGardeners_1 ⟨Nat.zero_le _, Nat.zero_le _⟩ (fun H locs hP hS => ?_)
  refine lv_aload_n hx hb dX1_passDayOfGardeners_4 rfl (lv_at hl 0 rfl) ?_
  refine lv_dup hx hb dX1_passDayOfGardeners_5 rfl ?_
  refine g_get (v := .int (q1 0 3)) S hB hinX1 hP (mem_mz h1 h2 (by decide)) (by rw [va_up_self]; exact (cell_mz E h1 h2) _) rfl 3 (by decide) fl21 rfl rfl dX1_passDayOfGardeners_6 ?_
  refine lv_iconst (v := 1) hx hb dX1_passDayOfGardeners_9 (by decide) ?_
  refine lv_iadd hx hb dX1_passDayOfGardeners_10 ?_
  refine g_put S hB hE hinX1 tyX1 tyX1_ok nmX1 hP hS (mem_mz h1 h2 (by decide)) (by rw [va_up_self]; exact (cell_mz E h1 h2) _) rfl 3 (by decide) fl21 rfl rfl rfl rfl (Nat.le_of_ble_eq_true rfl) (by rw [va_up_self]; exact (cell_mz E h1 h2) _) (X' := (va_up σ o (ob q1 0 3 ((q1 0 3) + (1 : Int32))))) (lens_put σ o _ _ _ _) dX1_passDayOfGardeners_11 (fun H locs hP hS => ?_)
  exact fin dX1_passDayOfGardeners_14  (by rw [(s0 hf)]) hP hS
theorem KW_X1_passDayOfGardeners (l : Launch) {E : En} (hE : Inj E) (X : Wd) {o : Nat} (h1 : 4 ≤ o) (h2 : o < 18) {z' : Ob} (hf : f_X1_passDayOfGardeners (X o) = some z') : Ctv l E yX1_passDayOfGardeners wsX1_passDayOfGardeners rm_X1_passDayOfGardeners [.ref (E.ad o 0)] X  (va_up X o z') := by
  have h := K_X1_passDayOfGardeners l hE X h1 h2 (X o)  hf
  rw [lens_all] at h
  exact h
/-! X1_outsWithout -/
abbrev rm_X1_outsWithout : Room := { frames := 4, cells := 0, slots := 0, locals := 91 }
set_option maxHeartbeats 4000000 in
set_option maxRecDepth 100000 in
theorem K_X1_outsWithout (l : Launch) {E : En} (hE : Inj E) (σ : Wd) {o : Nat} (h1 : 4 ≤ o) (h2 : o < 18) (z : Ob) (a1 : Int32) (a2 : Int32) {r : Int32} {z' : Ob} (hf : f_X1_outsWithout z a1 a2 = some (r, z')) : Cti l E yX1_outsWithout wsX1_outsWithout rm_X1_outsWithout [.ref (E.ad o 0), .int a1, .int a2] (va_up σ o z) r (va_up σ o z') := by
  refine meet_i (cc := cX1_outsWithout) (maxL := 4) (own := RX1) (by decide) rfl rfl (Nat.le_of_ble_eq_true rfl) ?_
  intro p e s m below meth c Z S hB fin hP hS ls hl
  have hx := S.1
  have hb := S.2.1
  have hl : lv_has ls 4 [(0, .ref (E.ad o 0)), (1, .int a1), (2, .int a2)] := hl
  have hinX1 : ∀ w ∈ u_ws RX1 TX1 12, w ∈ wsX1_outsWithout := by decide +kernel
  have fl24 := S.2.2.2.2 (.fieldLink RX1 24 "MownMaze$Maze" "gardeners" "I") (by decide +kernel)
  have hB44 : ∀ (z : Ob) (H : Heap) (locs : List Loc) (ls : Array Slot), f_X1_outsWithout_b44 z = some (r, z') → va_P E.1 vwCl (GW E (va_up σ o z)) H → va_S (GA E) s.heap H locs → lv_has ls 4 [(0, .ref (E.ad o 0))] → W p l e rm_X1_outsWithout s m ([.ref (E.ad o 0), .int a1, .int a2] : List Value).toArray below meth c H locs 0 0 Z (F0 m 44 ls []) := by
    intro z H locs ls hf hP hS hl
    unfold f_X1_outsWithout_b44 at hf
    refine lv_aload_n hx hb dX1_outsWithout_44 rfl (lv_at hl 0 rfl) ?_
    obtain ⟨q1, hq1, hf⟩ := bind_some hf
    refine callV_i (As := []) (rest := []) S hB hP hS (C := RX1) (b := E.ad o 0) (g_recv (o := o) (d := 0) hB hP (mem_mz h1 h2 (by decide)) (by rw [va_up_self]; exact (cell_mz E h1 h2) _) rfl) (K_X1_outs l hE σ h1 h2 z hq1) (cwV 0 S.2.2.2.2 gX1_outsWithout_X1_outs rfl rfl rfl (by decide +kernel) ⟨Nat.le_of_ble_eq_true rfl, Nat.le_of_ble_eq_true rfl⟩) rfl hl.1 rfl (Nat.le_of_ble_eq_true rfl) dX1_outsWithout_45 ⟨Nat.zero_le _, Nat.zero_le _⟩ (fun H locs hP hS => ?_)
    exact fin dX1_outsWithout_48 (s1 hf) (by rw [(s2 hf)]) hP hS
  have hL2 : ∀ (n2 : Nat) (z : Ob) (x1 : Int32) (x2 : Int32) (x3 : Int32) (H : Heap) (locs : List Loc) (ls : Array Slot), f_X1_outsWithout_l2 n2 z x1 x2 x3 = some (r, z') → va_P E.1 vwCl (GW E (va_up σ o z)) H → va_S (GA E) s.heap H locs → lv_has ls 4 [(0, .ref (E.ad o 0)), (1, .int x1), (2, .int x2), (3, .int x3)] → W p l e rm_X1_outsWithout s m ([.ref (E.ad o 0), .int a1, .int a2] : List Value).toArray below meth c H locs 0 0 Z (F0 m 2 ls []) := by
    intro n2
    induction n2 with
    | zero =>
      intro z x1 x2 x3 H locs ls hf
      cases (show (none : Option _) = some _ from hf)
    | succ n2 ih2 =>
      have hB34 : ∀ (z : Ob) (x1 : Int32) (x2 : Int32) (x3 : Int32) (H : Heap) (locs : List Loc) (ls : Array Slot), f_X1_outsWithout_b34 (f_X1_outsWithout_l2 n2) z x1 x2 x3 = some (r, z') → va_P E.1 vwCl (GW E (va_up σ o z)) H → va_S (GA E) s.heap H locs → lv_has ls 4 [(0, .ref (E.ad o 0)), (1, .int x1), (2, .int x2), (3, .int x3)] → W p l e rm_X1_outsWithout s m ([.ref (E.ad o 0), .int a1, .int a2] : List Value).toArray below meth c H locs 0 0 Z (F0 m 34 ls []) := by
        intro z x1 x2 x3 H locs ls hf hP hS hl
        unfold f_X1_outsWithout_b34 at hf
        refine lv_aload_n hx hb dX1_outsWithout_34 rfl (lv_at hl 0 rfl) ?_
        obtain ⟨q2, hq2, hf⟩ := bind_some hf
        refine callV_v (As := []) (rest := []) S hB hP hS (C := RX1) (b := E.ad o 0) (g_recv (o := o) (d := 0) hB hP (mem_mz h1 h2 (by decide)) (by rw [va_up_self]; exact (cell_mz E h1 h2) _) rfl) (K_X1_passDayOfGuests l hE σ h1 h2 z hq2) (cwV 0 S.2.2.2.2 gX1_outsWithout_X1_passDayOfGuests rfl rfl rfl (by decide +kernel) ⟨Nat.le_of_ble_eq_true rfl, Nat.le_of_ble_eq_true rfl⟩) rfl hl.1 rfl (Nat.le_of_ble_eq_true rfl) dX1_outsWithout_35 ⟨Nat.zero_le _, Nat.zero_le _⟩ (fun H locs hP hS => ?_)
        refine lv_iinc (v := x3 + (1 : Int32)) (lv' := [(3, .int (x3 + (1 : Int32))), (0, .ref (E.ad o 0)), (1, .int x1), (2, .int x2)]) hx hb dX1_outsWithout_38 hl (k := 3) rfl rfl (by decide) rfl (fun ls hl => ?_)
        refine lv_goto (tgt := 2) hx hb dX1_outsWithout_41 (by decide) ?_
        exact ih2 q2 x1 x2 (x3 + (1 : Int32)) _ _ _ hf hP hS (lv_sub hl [1, 2, 3, 0] rfl)
      intro z x1 x2 x3 H locs ls hf hP hS hl
      unfold f_X1_outsWithout_l2 at hf
      refine lv_iload_n hx hb dX1_outsWithout_2 rfl (lv_at hl 3 rfl) ?_
      refine lv_iload_n hx hb dX1_outsWithout_3 rfl (lv_at hl 2 rfl) ?_
      refine lv_icmp_ge (tgt := 44) hx hb dX1_outsWithout_4 (by decide) (fun c3 => ?_) (fun c3 => ?_)
      · have hf := if_t c3 hf
        exact hB44 z _ _ _ hf hP hS (lv_sub hl [0] rfl)
      · have hf := if_f c3 hf
        refine lv_aload_n hx hb dX1_outsWithout_7 rfl (lv_at hl 0 rfl) ?_
        refine lv_iconst (v := 0) hx hb dX1_outsWithout_8 (by decide) ?_
        obtain ⟨q4, hq4, hf⟩ := bind_some hf
        refine callV_i (As := [.int (0 : Int32)]) (rest := []) S hB hP hS (C := RX1) (b := E.ad o 0) (g_recv (o := o) (d := 0) hB hP (mem_mz h1 h2 (by decide)) (by rw [va_up_self]; exact (cell_mz E h1 h2) _) rfl) (K_X1_whoIs l hE σ h1 h2 z (0 : Int32) hq4) (cwV 1 S.2.2.2.2 gX1_outsWithout_X1_whoIs rfl rfl rfl (by decide +kernel) ⟨Nat.le_of_ble_eq_true rfl, Nat.le_of_ble_eq_true rfl⟩) rfl hl.1 rfl (Nat.le_of_ble_eq_true rfl) dX1_outsWithout_9 ⟨Nat.zero_le _, Nat.zero_le _⟩ (fun H locs hP hS => ?_)
        refine lv_if_eq (tgt := 44) hx hb dX1_outsWithout_12 (by decide) (fun c5 => ?_) (fun c5 => ?_)
        · have hf := if_t c5 hf
          exact hB44 z _ _ _ hf hP hS (lv_sub hl [0] rfl)
        · have hf := if_f c5 hf
          refine lv_aload_n hx hb dX1_outsWithout_15 rfl (lv_at hl 0 rfl) ?_
          refine g_get (v := .int (z 0 4)) S hB hinX1 hP (mem_mz h1 h2 (by decide)) (by rw [va_up_self]; exact (cell_mz E h1 h2) _) rfl 4 (by decide) fl24 rfl rfl dX1_outsWithout_16 ?_
          refine lv_if_le (tgt := 34) hx hb dX1_outsWithout_19 (by decide) (fun c6 => ?_) (fun c6 => ?_)
          · have hf := if_t c6 hf
            exact hB34 z x1 x2 x3 _ _ _ hf hP hS (lv_sub hl [0, 1, 2, 3] rfl)
          · have hf := if_f c6 hf
            refine lv_aload_n hx hb dX1_outsWithout_22 rfl (lv_at hl 0 rfl) ?_
            obtain ⟨q7, hq7, hf⟩ := bind_some hf
            refine callV_i (As := []) (rest := []) S hB hP hS (C := RX1) (b := E.ad o 0) (g_recv (o := o) (d := 0) hB hP (mem_mz h1 h2 (by decide)) (by rw [va_up_self]; exact (cell_mz E h1 h2) _) rfl) (K_X1_todays l hE σ h1 h2 z hq7) (cwV 0 S.2.2.2.2 gX1_outsWithout_X1_todays rfl rfl rfl (by decide +kernel) ⟨Nat.le_of_ble_eq_true rfl, Nat.le_of_ble_eq_true rfl⟩) rfl hl.1 rfl (Nat.le_of_ble_eq_true rfl) dX1_outsWithout_23 ⟨Nat.zero_le _, Nat.zero_le _⟩ (fun H locs hP hS => ?_)
            refine lv_iload_n hx hb dX1_outsWithout_26 rfl (lv_at hl 1 rfl) ?_
            refine lv_icmp_eq (tgt := 34) hx hb dX1_outsWithout_27 (by decide) (fun c8 => ?_) (fun c8 => ?_)
            · have hf := if_t c8 hf
              exact hB34 z x1 x2 x3 _ _ _ hf hP hS (lv_sub hl [0, 1, 2, 3] rfl)
            · have hf := if_f c8 hf
              refine lv_aload_n hx hb dX1_outsWithout_30 rfl (lv_at hl 0 rfl) ?_
              obtain ⟨q9, hq9, hf⟩ := bind_some hf
              refine callV_v (As := []) (rest := []) S hB hP hS (C := RX1) (b := E.ad o 0) (g_recv (o := o) (d := 0) hB hP (mem_mz h1 h2 (by decide)) (by rw [va_up_self]; exact (cell_mz E h1 h2) _) rfl) (K_X1_mow l hE σ h1 h2 z hq9) (cwV 0 S.2.2.2.2 gX1_outsWithout_X1_mow rfl rfl rfl (by decide +kernel) ⟨Nat.le_of_ble_eq_true rfl, Nat.le_of_ble_eq_true rfl⟩) rfl hl.1 rfl (Nat.le_of_ble_eq_true rfl) dX1_outsWithout_31 ⟨Nat.zero_le _, Nat.zero_le _⟩ (fun H locs hP hS => ?_)
              exact hB34 q9 x1 x2 x3 _ _ _ hf hP hS (lv_sub hl [0, 1, 2, 3] rfl)
  unfold f_X1_outsWithout at hf
  refine lv_iconst (v := 0) hx hb dX1_outsWithout_0 (by decide) ?_
  refine lv_istore_n (lv' := [(3, .int (0 : Int32)), (0, .ref (E.ad o 0)), (1, .int a1), (2, .int a2)]) hx hb dX1_outsWithout_1 rfl hl (by decide) rfl (fun ls hl => ?_)
  exact hL2 FUEL z a1 a2 (0 : Int32) _ _ _ hf hP hS (lv_sub hl [1, 2, 3, 0] rfl)
theorem KW_X1_outsWithout (l : Launch) {E : En} (hE : Inj E) (X : Wd) {o : Nat} (h1 : 4 ≤ o) (h2 : o < 18) (a1 : Int32) (a2 : Int32) {r : Int32} {z' : Ob} (hf : f_X1_outsWithout (X o) a1 a2 = some (r, z')) : Cti l E yX1_outsWithout wsX1_outsWithout rm_X1_outsWithout [.ref (E.ad o 0), .int a1, .int a2] X r (va_up X o z') := by
  have h := K_X1_outsWithout l hE X h1 h2 (X o) a1 a2 hf
  rw [lens_all] at h
  exact h
/-! X1_outsBehind -/
abbrev rm_X1_outsBehind : Room := { frames := 5, cells := 0, slots := 0, locals := 114 }
set_option maxHeartbeats 4000000 in
set_option maxRecDepth 100000 in
theorem K_X1_outsBehind (l : Launch) {E : En} (hE : Inj E) (σ : Wd) {o : Nat} (h1 : 4 ≤ o) (h2 : o < 18) (z : Ob) (a1 : Int32) {r : Int32} {z' : Ob} (hf : f_X1_outsBehind z a1 = some (r, z')) : Cti l E yX1_outsBehind wsX1_outsBehind rm_X1_outsBehind [.ref (E.ad o 0), .int a1] (va_up σ o z) r (va_up σ o z') := by
  refine meet_i (cc := cX1_outsBehind) (maxL := 2) (own := RX1) (by decide) rfl rfl (Nat.le_of_ble_eq_true rfl) ?_
  intro p e s m below meth c Z S hB fin hP hS ls hl
  have hx := S.1
  have hb := S.2.1
  have hl : lv_has ls 2 [(0, .ref (E.ad o 0)), (1, .int a1)] := hl
  unfold f_X1_outsBehind at hf
  refine lv_aload_n hx hb dX1_outsBehind_0 rfl (lv_at hl 0 rfl) ?_
  refine lv_bipush (v := -4) hx hb dX1_outsBehind_1 (by decide) ?_
  refine lv_iload_n hx hb dX1_outsBehind_3 rfl (lv_at hl 1 rfl) ?_
  obtain ⟨q1, hq1, hf⟩ := bind_some hf
  refine callV_i (As := [.int (-4 : Int32), .int a1]) (rest := []) S hB hP hS (C := RX1) (b := E.ad o 0) (g_recv (o := o) (d := 0) hB hP (mem_mz h1 h2 (by decide)) (by rw [va_up_self]; exact (cell_mz E h1 h2) _) rfl) (K_X1_outsWithout l hE σ h1 h2 z (-4 : Int32) a1 hq1) (cwV 2 S.2.2.2.2 gX1_outsBehind_X1_outsWithout rfl rfl rfl (by decide +kernel) ⟨Nat.le_of_ble_eq_true rfl, Nat.le_of_ble_eq_true rfl⟩) rfl hl.1 rfl (Nat.le_of_ble_eq_true rfl) dX1_outsBehind_4 ⟨Nat.zero_le _, Nat.zero_le _⟩ (fun H locs hP hS => ?_)
  exact fin dX1_outsBehind_7 (s1 hf) (by rw [(s2 hf)]) hP hS
theorem KW_X1_outsBehind (l : Launch) {E : En} (hE : Inj E) (X : Wd) {o : Nat} (h1 : 4 ≤ o) (h2 : o < 18) (a1 : Int32) {r : Int32} {z' : Ob} (hf : f_X1_outsBehind (X o) a1 = some (r, z')) : Cti l E yX1_outsBehind wsX1_outsBehind rm_X1_outsBehind [.ref (E.ad o 0), .int a1] X r (va_up X o z') := by
  have h := K_X1_outsBehind l hE X h1 h2 (X o) a1 hf
  rw [lens_all] at h
  exact h
/-! X1_exchange -/
abbrev rm_X1_exchange : Room := { frames := 1, cells := 0, slots := 0, locals := 21 }
set_option maxHeartbeats 4000000 in
set_option maxRecDepth 100000 in
theorem K_X1_exchange (l : Launch) {E : En} (hE : Inj E) (σ : Wd) {o : Nat} (h1 : 4 ≤ o) (h2 : o < 18) (z : Ob) (a1 : Int32) (a2 : Int32) {z' : Ob} (hf : f_X1_exchange z a1 a2 = some z') : Ctv l E yX1_exchange wsX1_exchange rm_X1_exchange [.ref (E.ad o 0), .int a1, .int a2] (va_up σ o z)  (va_up σ o z') := by
  refine meet_v (cc := cX1_exchange) (maxL := 6) (own := RX1) (by decide) rfl rfl (Nat.le_of_ble_eq_true rfl) ?_
  intro p e s m below meth c Z S hB fin hP hS ls hl
  have hx := S.1
  have hb := S.2.1
  have hl : lv_has ls 6 [(0, .ref (E.ad o 0)), (1, .int a1), (2, .int a2)] := hl
  have hL2 : ∀ (n2 : Nat) (z : Ob) (x1 : Int32) (x2 : Int32) (x3 : Int32) (H : Heap) (locs : List Loc) (ls : Array Slot), f_X1_exchange_l2 n2 z x1 x2 x3 = some z' → va_P E.1 vwCl (GW E (va_up σ o z)) H → va_S (GA E) s.heap H locs → lv_has ls 6 [(0, .ref (E.ad o 0)), (1, .int x1), (2, .int x2), (3, .int x3)] → W p l e rm_X1_exchange s m ([.ref (E.ad o 0), .int a1, .int a2] : List Value).toArray below meth c H locs 0 0 Z (F0 m 2 ls []) := by
    intro n2
    induction n2 with
    | zero =>
      intro z x1 x2 x3 H locs ls hf
      cases (show (none : Option _) = some _ from hf)
    | succ n2 ih2 =>
      intro z x1 x2 x3 H locs ls hf hP hS hl
      unfold f_X1_exchange_l2 at hf
      refine lv_iload_n hx hb dX1_exchange_2 rfl (lv_at hl 3 rfl) ?_
      refine lv_iconst (v := 3) hx hb dX1_exchange_3 (by decide) ?_
      refine lv_icmp_ge (tgt := 40) hx hb dX1_exchange_4 (by decide) (fun c1 => ?_) (fun c1 => ?_)
      · have hf := if_t c1 hf
        exact fin dX1_exchange_40  (by rw [(s0 hf)]) hP hS
      · have hf := if_f c1 hf
        refine lv_aload_n hx hb dX1_exchange_7 rfl (lv_at hl 0 rfl) ?_
        refine lv_iload_n hx hb dX1_exchange_8 rfl (lv_at hl 3 rfl) ?_
        obtain ⟨q2, hq2, hf⟩ := bind_some hf
        refine callV_r (As := [.int x3]) (rest := []) S hB hP hS (C := RX1) (b := E.ad o 0) (g_recv (o := o) (d := 0) hB hP (mem_mz h1 h2 (by decide)) (by rw [va_up_self]; exact (cell_mz E h1 h2) _) rfl) (K_X1_trait l hE σ h1 h2 z x3 hq2) (cwV 1 S.2.2.2.2 gX1_exchange_X1_trait rfl rfl rfl (by decide +kernel) ⟨Nat.le_of_ble_eq_true rfl, Nat.le_of_ble_eq_true rfl⟩) rfl hl.1 rfl (Nat.le_of_ble_eq_true rfl) dX1_exchange_9 ⟨Nat.zero_le _, Nat.zero_le _⟩ (fun H locs hP hS => ?_)
        have hv3 := rng_X1_trait hq2
        refine lv_astore (lv' := [(4, .ref (E.ad o q2)), (0, .ref (E.ad o 0)), (1, .int x1), (2, .int x2), (3, .int x3)]) hx hb dX1_exchange_12 hl (by decide) rfl (fun ls hl => ?_)
        refine lv_aload hx hb dX1_exchange_14 (lv_at hl 0 rfl) ?_
        refine lv_iload_n hx hb dX1_exchange_16 rfl (lv_at hl 2 rfl) ?_
        obtain ⟨hv4, hf⟩ := ck_some hf
        refine g_iald (r := z q2) S hB hP (mem_mz h1 h2 (Nat.lt_of_le_of_lt hv3.2 (by decide))) (by rw [va_up_self]; exact (cell_ma E h1 h2 (Nat.ne_of_gt hv3.1)) _) hv4 dX1_exchange_17 ?_
        refine lv_istore (lv' := [(5, .int (z q2 x1.toNatClampNeg)), (4, .ref (E.ad o q2)), (0, .ref (E.ad o 0)), (1, .int x1), (2, .int x2), (3, .int x3)]) hx hb dX1_exchange_18 hl (by decide) rfl (fun ls hl => ?_)
        refine lv_aload hx hb dX1_exchange_20 (lv_at hl 1 rfl) ?_
        refine lv_iload_n hx hb dX1_exchange_22 rfl (lv_at hl 3 rfl) ?_
        refine lv_aload hx hb dX1_exchange_23 (lv_at hl 1 rfl) ?_
        refine lv_iload_n hx hb dX1_exchange_25 rfl (lv_at hl 4 rfl) ?_
        obtain ⟨hv5, hf⟩ := ck_some hf
        refine g_iald (r := z q2) S hB hP (mem_mz h1 h2 (Nat.lt_of_le_of_lt hv3.2 (by decide))) (by rw [va_up_self]; exact (cell_ma E h1 h2 (Nat.ne_of_gt hv3.1)) _) hv5 dX1_exchange_26 ?_
        obtain ⟨hv6, hf⟩ := ck_some hf
        refine g_iast (r := z q2) S hB hE hP hS (mem_mz h1 h2 (Nat.lt_of_le_of_lt hv3.2 (by decide))) (by rw [va_up_self]; exact (cell_ma E h1 h2 (Nat.ne_of_gt hv3.1)) _) (by rw [va_up_self]) (cell_ma E h1 h2 (Nat.ne_of_gt hv3.1)) hv6 (X' := (va_up σ o (ob z q2 x1.toNatClampNeg (z q2 x2.toNatClampNeg)))) (lens_put σ o _ _ _ _) dX1_exchange_27 (fun H locs hP hS => ?_)
        refine lv_aload hx hb dX1_exchange_28 (lv_at hl 1 rfl) ?_
        refine lv_iload_n hx hb dX1_exchange_30 rfl (lv_at hl 4 rfl) ?_
        refine lv_iload hx hb dX1_exchange_31 (lv_at hl 0 rfl) ?_
        obtain ⟨hv7, hf⟩ := ck_some hf
        refine g_iast (r := (ob z q2 x1.toNatClampNeg (z q2 x2.toNatClampNeg)) q2) S hB hE hP hS (mem_mz h1 h2 (Nat.lt_of_le_of_lt hv3.2 (by decide))) (by rw [va_up_self]; exact (cell_ma E h1 h2 (Nat.ne_of_gt hv3.1)) _) (by rw [va_up_self]) (cell_ma E h1 h2 (Nat.ne_of_gt hv3.1)) hv7 (X' := (va_up σ o (ob (ob z q2 x1.toNatClampNeg (z q2 x2.toNatClampNeg)) q2 x2.toNatClampNeg (z q2 x1.toNatClampNeg)))) (lens_put σ o _ _ _ _) dX1_exchange_33 (fun H locs hP hS => ?_)
        refine lv_iinc (v := x3 + (1 : Int32)) (lv' := [(3, .int (x3 + (1 : Int32))), (5, .int (z q2 x1.toNatClampNeg)), (4, .ref (E.ad o q2)), (0, .ref (E.ad o 0)), (1, .int x1), (2, .int x2)]) hx hb dX1_exchange_34 hl (k := 5) rfl rfl (by decide) rfl (fun ls hl => ?_)
        refine lv_goto (tgt := 2) hx hb dX1_exchange_37 (by decide) ?_
        exact ih2 (ob (ob z q2 x1.toNatClampNeg (z q2 x2.toNatClampNeg)) q2 x2.toNatClampNeg (z q2 x1.toNatClampNeg)) x1 x2 (x3 + (1 : Int32)) _ _ _ hf hP hS (lv_sub hl [3, 4, 5, 0] rfl)
  unfold f_X1_exchange at hf
  refine lv_iconst (v := 0) hx hb dX1_exchange_0 (by decide) ?_
  refine lv_istore_n (lv' := [(3, .int (0 : Int32)), (0, .ref (E.ad o 0)), (1, .int a1), (2, .int a2)]) hx hb dX1_exchange_1 rfl hl (by decide) rfl (fun ls hl => ?_)
  exact hL2 FUEL z a1 a2 (0 : Int32) _ _ _ hf hP hS (lv_sub hl [1, 2, 3, 0] rfl)
theorem KW_X1_exchange (l : Launch) {E : En} (hE : Inj E) (X : Wd) {o : Nat} (h1 : 4 ≤ o) (h2 : o < 18) (a1 : Int32) (a2 : Int32) {z' : Ob} (hf : f_X1_exchange (X o) a1 a2 = some z') : Ctv l E yX1_exchange wsX1_exchange rm_X1_exchange [.ref (E.ad o 0), .int a1, .int a2] X  (va_up X o z') := by
  have h := K_X1_exchange l hE X h1 h2 (X o) a1 a2 hf
  rw [lens_all] at h
  exact h
/-! X1_isMownLike -/
abbrev rm_X1_isMownLike : Room := { frames := 1, cells := 0, slots := 0, locals := 20 }
set_option maxHeartbeats 4000000 in
set_option maxRecDepth 100000 in
theorem K_X1_isMownLike (l : Launch) {E : En} (hE : Inj E) (σ : Wd) {o : Nat} (h1 : 4 ≤ o) (h2 : o < 18) (z : Ob) {o2 : Nat} (h3 : 4 ≤ o2) (h4 : o2 < 18) (hne : o2 ≠ o) {r : Int32} (hf : f_X1_isMownLike z (σ o2) = some r) : Cti l E yX1_isMownLike wsX1_isMownLike rm_X1_isMownLike [.ref (E.ad o 0), .ref (E.ad o2 0)] (va_up σ o z) r (va_up σ o z) := by
  refine meet_z (cc := cX1_isMownLike) (maxL := 3) (own := RX1) (by decide) rfl rfl (Nat.le_of_ble_eq_true rfl) ?_
  intro p e s m below meth c Z S hB fin hP hS ls hl
  have hx := S.1
  have hb := S.2.1
  have hl : lv_has ls 3 [(0, .ref (E.ad o 0)), (1, .ref (E.ad o2 0))] := hl
  have hinX1 : ∀ w ∈ u_ws RX1 TX1 12, w ∈ wsX1_isMownLike := by decide +kernel
  have fl9 := S.2.2.2.2 (.fieldLink RX1 9 "MownMaze$Maze" "hedges" "I") (by decide +kernel)
  have fl18 := S.2.2.2.2 (.fieldLink RX1 18 "MownMaze$Maze" "last" "I") (by decide +kernel)
  have fl24 := S.2.2.2.2 (.fieldLink RX1 24 "MownMaze$Maze" "gardeners" "I") (by decide +kernel)
  have fl31 := S.2.2.2.2 (.fieldLink RX1 31 "MownMaze$Maze" "taste" "[I") (by decide +kernel)
  generalize hw9 : σ o2 = w at hf
  have hL37 : ∀ (n37 : Nat) (x2 : Int32) (H : Heap) (locs : List Loc) (ls : Array Slot), f_X1_isMownLike_l37 n37 z w x2 = some r → va_P E.1 vwCl (GW E (va_up σ o z)) H → va_S (GA E) s.heap H locs → lv_has ls 3 [(0, .ref (E.ad o 0)), (1, .ref (E.ad o2 0)), (2, .int x2)] → W p l e rm_X1_isMownLike s m ([.ref (E.ad o 0), .ref (E.ad o2 0)] : List Value).toArray below meth c H locs 0 0 Z (F0 m 37 ls []) := by
    intro n37
    induction n37 with
    | zero =>
      intro x2 H locs ls hf
      cases (show (none : Option _) = some _ from hf)
    | succ n37 ih37 =>
      intro x2 H locs ls hf hP hS hl
      unfold f_X1_isMownLike_l37 at hf
      refine lv_iload_n hx hb dX1_isMownLike_37 rfl (lv_at hl 2 rfl) ?_
      refine lv_aload_n hx hb dX1_isMownLike_38 rfl (lv_at hl 0 rfl) ?_
      refine g_get (v := .int (z 0 4)) S hB hinX1 hP (mem_mz h1 h2 (by decide)) (by rw [va_up_self]; exact (cell_mz E h1 h2) _) rfl 4 (by decide) fl24 rfl rfl dX1_isMownLike_39 ?_
      refine lv_icmp_ge (tgt := 68) hx hb dX1_isMownLike_42 (by decide) (fun c6 => ?_) (fun c6 => ?_)
      · have hf := if_t c6 hf
        refine lv_iconst (v := 1) hx hb dX1_isMownLike_68 (by decide) ?_
        exact fin dX1_isMownLike_69 (nz01 (by decide)) (s0 hf) rfl hP hS
      · have hf := if_f c6 hf
        refine lv_aload_n hx hb dX1_isMownLike_45 rfl (lv_at hl 0 rfl) ?_
        refine g_get (v := .ref (E.ad o 2)) S hB hinX1 hP (mem_mz h1 h2 (by decide)) (by rw [va_up_self]; exact (cell_mz E h1 h2) _) rfl 6 (by decide) fl31 rfl rfl dX1_isMownLike_46 ?_
        refine lv_iload_n hx hb dX1_isMownLike_49 rfl (lv_at hl 2 rfl) ?_
        obtain ⟨hv7, hf⟩ := ck_some hf
        refine g_iald (r := z 2) S hB hP (mem_mz h1 h2 (by decide)) (by rw [va_up_self]; exact (cell_ma E h1 h2 (by decide)) _) hv7 dX1_isMownLike_50 ?_
        refine lv_aload_n hx hb dX1_isMownLike_51 rfl (lv_at hl 1 rfl) ?_
        refine g_get (v := .ref (E.ad o2 2)) S hB hinX1 hP (mem_mz h3 h4 (by decide)) (by rw [va_up_ne _ _ hne, hw9]; exact (cell_mz E h3 h4) _) rfl 6 (by decide) fl31 rfl rfl dX1_isMownLike_52 ?_
        refine lv_iload_n hx hb dX1_isMownLike_55 rfl (lv_at hl 2 rfl) ?_
        obtain ⟨hv8, hf⟩ := ck_some hf
        refine g_iald (r := w 2) S hB hP (mem_mz h3 h4 (by decide)) (by rw [va_up_ne _ _ hne, hw9]; exact (cell_ma E h3 h4 (by decide)) _) hv8 dX1_isMownLike_56 ?_
        refine lv_icmp_eq (tgt := 62) hx hb dX1_isMownLike_57 (by decide) (fun c9 => ?_) (fun c9 => ?_)
        · have hf := if_t c9 hf
          refine lv_iinc (v := x2 + (1 : Int32)) (lv' := [(2, .int (x2 + (1 : Int32))), (0, .ref (E.ad o 0)), (1, .ref (E.ad o2 0))]) hx hb dX1_isMownLike_62 hl (k := 2) rfl rfl (by decide) rfl (fun ls hl => ?_)
          refine lv_goto (tgt := 37) hx hb dX1_isMownLike_65 (by decide) ?_
          exact ih37 (x2 + (1 : Int32)) _ _ _ hf hP hS (lv_sub hl [1, 2, 0] rfl)
        · have hf := if_f c9 hf
          refine lv_iconst (v := 0) hx hb dX1_isMownLike_60 (by decide) ?_
          exact fin dX1_isMownLike_61 (nz01 (by decide)) (s0 hf) rfl hP hS
  unfold f_X1_isMownLike at hf
  refine lv_aload_n hx hb dX1_isMownLike_0 rfl (lv_at hl 0 rfl) ?_
  refine g_get (v := .int (z 0 0)) S hB hinX1 hP (mem_mz h1 h2 (by decide)) (by rw [va_up_self]; exact (cell_mz E h1 h2) _) rfl 0 (by decide) fl9 rfl rfl dX1_isMownLike_1 ?_
  refine lv_aload_n hx hb dX1_isMownLike_4 rfl (lv_at hl 1 rfl) ?_
  refine g_get (v := .int (w 0 0)) S hB hinX1 hP (mem_mz h3 h4 (by decide)) (by rw [va_up_ne _ _ hne, hw9]; exact (cell_mz E h3 h4) _) rfl 0 (by decide) fl9 rfl rfl dX1_isMownLike_5 ?_
  refine lv_icmp_ne (tgt := 33) hx hb dX1_isMownLike_8 (by decide) (fun c1 => ?_) (fun c1 => ?_)
  · have hf := if_f c1 hf
    refine lv_iconst (v := 0) hx hb dX1_isMownLike_33 (by decide) ?_
    exact fin dX1_isMownLike_34 (nz01 (by decide)) (s0 hf) rfl hP hS
  · have hf := if_t c1 hf
    refine lv_aload_n hx hb dX1_isMownLike_11 rfl (lv_at hl 0 rfl) ?_
    refine g_get (v := .int (z 0 2)) S hB hinX1 hP (mem_mz h1 h2 (by decide)) (by rw [va_up_self]; exact (cell_mz E h1 h2) _) rfl 2 (by decide) fl18 rfl rfl dX1_isMownLike_12 ?_
    refine lv_aload_n hx hb dX1_isMownLike_15 rfl (lv_at hl 1 rfl) ?_
    refine g_get (v := .int (w 0 2)) S hB hinX1 hP (mem_mz h3 h4 (by decide)) (by rw [va_up_ne _ _ hne, hw9]; exact (cell_mz E h3 h4) _) rfl 2 (by decide) fl18 rfl rfl dX1_isMownLike_16 ?_
    refine lv_icmp_ne (tgt := 33) hx hb dX1_isMownLike_19 (by decide) (fun c2 => ?_) (fun c2 => ?_)
    · have hf := if_f c2 hf
      refine lv_iconst (v := 0) hx hb dX1_isMownLike_33 (by decide) ?_
      exact fin dX1_isMownLike_34 (nz01 (by decide)) (s0 hf) rfl hP hS
    · have hf := if_t c2 hf
      refine lv_aload_n hx hb dX1_isMownLike_22 rfl (lv_at hl 0 rfl) ?_
      obtain ⟨q3, hq3, hf⟩ := bind_some hf
      refine callV_i (As := []) (rest := []) S hB hP hS (C := RX1) (b := E.ad o 0) (g_recv (o := o) (d := 0) hB hP (mem_mz h1 h2 (by decide)) (by rw [va_up_self]; exact (cell_mz E h1 h2) _) rfl) (K_X1_todays l hE σ h1 h2 z hq3) (cwV 0 S.2.2.2.2 gX1_isMownLike_X1_todays rfl rfl rfl (by decide +kernel) ⟨Nat.le_of_ble_eq_true rfl, Nat.le_of_ble_eq_true rfl⟩) rfl hl.1 rfl (Nat.le_of_ble_eq_true rfl) dX1_isMownLike_23 ⟨Nat.zero_le _, Nat.zero_le _⟩ (fun H locs hP hS => ?_)
      refine lv_aload_n hx hb dX1_isMownLike_26 rfl (lv_at hl 1 rfl) ?_
      obtain ⟨q4, hq4, hf⟩ := bind_some hf
      refine callV_i (As := []) (rest := [.int q3]) S hB hP hS (C := RX1) (b := E.ad o2 0) (g_recv (o := o2) (d := 0) hB hP (mem_mz h3 h4 (by decide)) (by rw [va_up_ne _ _ hne, hw9]; exact (cell_mz E h3 h4) _) rfl) (KW_X1_todays l hE (va_up σ o z) h3 h4 (by rw [va_up_ne _ _ hne, hw9]; exact hq4)) (cwV 0 S.2.2.2.2 gX1_isMownLike_X1_todays rfl rfl rfl (by decide +kernel) ⟨Nat.le_of_ble_eq_true rfl, Nat.le_of_ble_eq_true rfl⟩) rfl hl.1 rfl (Nat.le_of_ble_eq_true rfl) dX1_isMownLike_27 ⟨Nat.zero_le _, Nat.zero_le _⟩ (fun H locs hP hS => ?_)
      refine lv_icmp_eq (tgt := 35) hx hb dX1_isMownLike_30 (by decide) (fun c5 => ?_) (fun c5 => ?_)
      · have hf := if_t c5 hf
        refine lv_iconst (v := 0) hx hb dX1_isMownLike_35 (by decide) ?_
        refine lv_istore_n (lv' := [(2, .int (0 : Int32)), (0, .ref (E.ad o 0)), (1, .ref (E.ad o2 0))]) hx hb dX1_isMownLike_36 rfl hl (by decide) rfl (fun ls hl => ?_)
        exact hL37 FUEL (0 : Int32) _ _ _ hf hP hS (lv_sub hl [1, 2, 0] rfl)
      · have hf := if_f c5 hf
        refine lv_iconst (v := 0) hx hb dX1_isMownLike_33 (by decide) ?_
        exact fin dX1_isMownLike_34 (nz01 (by decide)) (s0 hf) rfl hP hS
theorem KW_X1_isMownLike (l : Launch) {E : En} (hE : Inj E) (X : Wd) {o : Nat} (h1 : 4 ≤ o) (h2 : o < 18) {o2 : Nat} (h3 : 4 ≤ o2) (h4 : o2 < 18) (hne : o2 ≠ o) {r : Int32} (hf : f_X1_isMownLike (X o) (X o2) = some r) : Cti l E yX1_isMownLike wsX1_isMownLike rm_X1_isMownLike [.ref (E.ad o 0), .ref (E.ad o2 0)] X r X := by
  have h := K_X1_isMownLike l hE X h1 h2 (X o) h3 h4 hne  hf
  rw [lens_all] at h
  exact h
