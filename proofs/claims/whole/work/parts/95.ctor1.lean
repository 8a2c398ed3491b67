abbrev rm_X0_init : Room := { frames := 1, cells := 0, slots := 0, locals := 20 }
abbrev zX0 (h0 : Nat) : va_W := [(h0, .inr (0, [.int 0, .int 0]))]
def nX0 (E : En) (h0 : Nat) (u : Nat → Nat) : va_W := [(h0, .inr (0, [.int (-4 : Int32), .int (0 : Int32)]))]
set_option maxHeartbeats 4000000 in
set_option maxRecDepth 100000 in
theorem k_X0_init (l : Launch) (E : En) (N0 h0 : Nat) (w : va_W) : Kon l E N0 yX0_init wsX0_init rm_X0_init (fun _ => True) h0 w (zX0 h0) (nX0 E h0) := by
  refine meet_c (cc := cX0_init) (maxL := 1) (own := RX0) (by decide) rfl rfl rfl (by decide) ?_
  intro p e s m below meth c Zq S hnm hN0 hK hZ fin hG hS ls hl
  have hx := S.1
  have hb := S.2.1
  have hts := S.2.2.2.2
  have hinX0 : ∀ w ∈ u_ws RX0 TX0 2, w ∈ wsX0_init := by decide +kernel
  refine lv_aload_n hx hb dX0_init_0 rfl (lv_at hl 0 rfl) ?_
  refine W.objInit hx hb S.2.2.2.1 (hts (.methodLink RX0 3 objectInit) (by decide +kernel)) (hts (.instanceMethod objectInit) (by decide +kernel)) (hts _ (List.mem_cons_of_mem _ (List.mem_append_left _ (List.mem_of_getElem? (i := 2) rfl)))) rfl (by rw [S.2.2.1]; exact hl.1) rfl dX0_init_1 (Nat.le_of_ble_eq_true rfl) (Nat.le_of_ble_eq_true rfl) ?_
  refine W.eq (g2 := F0 m 4 ls []) rfl ?_
  refine lv_aload_n hx hb dX0_init_4 rfl (lv_at hl 0 rfl) ?_
  refine lv_bipush (v := (-4 : Int32)) hx hb dX0_init_5 (by decide) ?_
  refine c_put (ref := "MownMaze$Best") (ws' := w ++ [(h0, .inr (0, [.int (-4 : Int32), .int 0]))]) S hK hG hS hinX0 tyX0 tyX0_ok nmX0 w.length (c_at (k := 0) rfl) rfl 0 (by decide) (hts (.fieldLink RX0 9 "MownMaze$Best" "which" "I") (by decide +kernel)) rfl rfl rfl rfl (Nat.le_of_ble_eq_true rfl) (c_st (k := 0) rfl) dX0_init_7 (fun H locs hG hS => ?_)
  refine lv_aload_n hx hb dX0_init_10 rfl (lv_at hl 0 rfl) ?_
  refine lv_iconst (v := (0 : Int32)) hx hb dX0_init_11 (by decide) ?_
  refine c_put (ref := "MownMaze$Best") (ws' := w ++ [(h0, .inr (0, [.int (-4 : Int32), .int (0 : Int32)]))]) S hK hG hS hinX0 tyX0 tyX0_ok nmX0 w.length (c_at (k := 0) rfl) rfl 1 (by decide) (hts (.fieldLink RX0 15 "MownMaze$Best" "outs" "I") (by decide +kernel)) rfl rfl rfl rfl (Nat.le_of_ble_eq_true rfl) (c_st (k := 0) rfl) dX0_init_12 (fun H locs hG hS => ?_)
  exact fin (fun _ => 0) dX0_init_15 hG hS
abbrev rm_X1_init : Room := { frames := 1, cells := 6, slots := 24, locals := 20 }
abbrev zX1 (h0 : Nat) : va_W := [(h0, .inr (1, [.int 0, .int 0, .int 0, .int 0, .int 0, .null, .null, .null, .int 0, .null, .null, .null]))]
def nX1 (E : En) (h0 : Nat) (u : Nat → Nat) : va_W := [(h0, .inr (1, [.int (0 : Int32), .int (0 : Int32), .int (-4 : Int32), .int (0 : Int32), .int (0 : Int32), .ref (u 0), .ref (u 1), .ref (u 2), .int (0 : Int32), .ref (u 3), .ref (u 4), .ref (u 5)])), ((u 0), .inl (E.cy 0, 4, .inl (fun _ => 0))), ((u 1), .inl (E.cy 0, 4, .inl (fun _ => 0))), ((u 2), .inl (E.cy 0, 4, .inl (fun _ => 0))), ((u 3), .inl (E.cy 0, 4, .inl (fun _ => 0))), ((u 4), .inl (E.cy 0, 4, .inl (fun _ => 0))), ((u 5), .inl (E.cy 0, 4, .inl (fun _ => 0)))]
set_option maxHeartbeats 4000000 in
set_option maxRecDepth 100000 in
theorem k_X1_init (l : Launch) (E : En) (N0 h0 : Nat) (w : va_W) : Kon l E N0 yX1_init wsX1_init rm_X1_init (fun _ => True) h0 w (zX1 h0) (nX1 E h0) := by
  refine meet_c (cc := cX1_init) (maxL := 1) (own := RX1) (by decide) rfl rfl rfl (by decide) ?_
  intro p e s m below meth c Zq S hnm hN0 hK hZ fin hG hS ls hl
  have hx := S.1
  have hb := S.2.1
  have hts := S.2.2.2.2
  have hinX1 : ∀ w ∈ u_ws RX1 TX1 12, w ∈ wsX1_init := by decide +kernel
  refine lv_aload_n hx hb dX1_init_0 rfl (lv_at hl 0 rfl) ?_
  refine W.objInit hx hb S.2.2.2.1 (hts (.methodLink RX1 3 objectInit) (by decide +kernel)) (hts (.instanceMethod objectInit) (by decide +kernel)) (hts _ (List.mem_cons_of_mem _ (List.mem_append_left _ (List.mem_of_getElem? (i := 2) rfl)))) rfl (by rw [S.2.2.1]; exact hl.1) rfl dX1_init_1 (Nat.le_of_ble_eq_true rfl) (Nat.le_of_ble_eq_true rfl) ?_
  refine W.eq (g2 := F0 m 4 ls []) rfl ?_
  refine lv_aload_n hx hb dX1_init_4 rfl (lv_at hl 0 rfl) ?_
  refine lv_iconst (v := (0 : Int32)) hx hb dX1_init_5 (by decide) ?_
  refine c_put (ref := "MownMaze$Maze") (ws' := w ++ [(h0, .inr (1, [.int (0 : Int32), .int 0, .int 0, .int 0, .int 0, .null, .null, .null, .int 0, .null, .null, .null]))]) S hK hG hS hinX1 tyX1 tyX1_ok nmX1 w.length (c_at (k := 0) rfl) rfl 0 (by decide) (hts (.fieldLink RX1 9 "MownMaze$Maze" "hedges" "I") (by decide +kernel)) rfl rfl rfl rfl (Nat.le_of_ble_eq_true rfl) (c_st (k := 0) rfl) dX1_init_6 (fun H locs hG hS => ?_)
  refine lv_aload_n hx hb dX1_init_9 rfl (lv_at hl 0 rfl) ?_
  refine lv_iconst (v := (0 : Int32)) hx hb dX1_init_10 (by decide) ?_
  refine c_put (ref := "MownMaze$Maze") (ws' := w ++ [(h0, .inr (1, [.int (0 : Int32), .int (0 : Int32), .int 0, .int 0, .int 0, .null, .null, .null, .int 0, .null, .null, .null]))]) S hK hG hS hinX1 tyX1 tyX1_ok nmX1 w.length (c_at (k := 0) rfl) rfl 1 (by decide) (hts (.fieldLink RX1 15 "MownMaze$Maze" "gate" "I") (by decide +kernel)) rfl rfl rfl rfl (Nat.le_of_ble_eq_true rfl) (c_st (k := 0) rfl) dX1_init_11 (fun H locs hG hS => ?_)
  refine lv_aload_n hx hb dX1_init_14 rfl (lv_at hl 0 rfl) ?_
  refine lv_bipush (v := (-4 : Int32)) hx hb dX1_init_15 (by decide) ?_
  refine c_put (ref := "MownMaze$Maze") (ws' := w ++ [(h0, .inr (1, [.int (0 : Int32), .int (0 : Int32), .int (-4 : Int32), .int 0, .int 0, .null, .null, .null, .int 0, .null, .null, .null]))]) S hK hG hS hinX1 tyX1 tyX1_ok nmX1 w.length (c_at (k := 0) rfl) rfl 2 (by decide) (hts (.fieldLink RX1 18 "MownMaze$Maze" "last" "I") (by decide +kernel)) rfl rfl rfl rfl (Nat.le_of_ble_eq_true rfl) (c_st (k := 0) rfl) dX1_init_17 (fun H locs hG hS => ?_)
  refine lv_aload_n hx hb dX1_init_20 rfl (lv_at hl 0 rfl) ?_
  refine lv_iconst (v := (0 : Int32)) hx hb dX1_init_21 (by decide) ?_
  refine c_put (ref := "MownMaze$Maze") (ws' := w ++ [(h0, .inr (1, [.int (0 : Int32), .int (0 : Int32), .int (-4 : Int32), .int (0 : Int32), .int 0, .null, .null, .null, .int 0, .null, .null, .null]))]) S hK hG hS hinX1 tyX1 tyX1_ok nmX1 w.length (c_at (k := 0) rfl) rfl 3 (by decide) (hts (.fieldLink RX1 21 "MownMaze$Maze" "day" "I") (by decide +kernel)) rfl rfl rfl rfl (Nat.le_of_ble_eq_true rfl) (c_st (k := 0) rfl) dX1_init_22 (fun H locs hG hS => ?_)
  refine lv_aload_n hx hb dX1_init_25 rfl (lv_at hl 0 rfl) ?_
  refine lv_iconst (v := (0 : Int32)) hx hb dX1_init_26 (by decide) ?_
  refine c_put (ref := "MownMaze$Maze") (ws' := w ++ [(h0, .inr (1, [.int (0 : Int32), .int (0 : Int32), .int (-4 : Int32), .int (0 : Int32), .int (0 : Int32), .null, .null, .null, .int 0, .null, .null, .null]))]) S hK hG hS hinX1 tyX1 tyX1_ok nmX1 w.length (c_at (k := 0) rfl) rfl 4 (by decide) (hts (.fieldLink RX1 24 "MownMaze$Maze" "gardeners" "I") (by decide +kernel)) rfl rfl rfl rfl (Nat.le_of_ble_eq_true rfl) (c_st (k := 0) rfl) dX1_init_27 (fun H locs hG hS => ?_)
  refine lv_aload_n hx hb dX1_init_30 rfl (lv_at hl 0 rfl) ?_
  refine lv_iconst (v := (4 : Int32)) hx hb dX1_init_31 (by decide) ?_
  refine c_newa (a0 := (4, .inl (fun _ => 0))) (N' := 4) S hK hN0 hG hS 0 rfl rfl (hts (.arrayClass .int) (by decide +kernel)) (fun _ => rfl) (by decide) (by decide) (by decide) (Nat.le_of_ble_eq_true rfl) (Nat.le_of_ble_eq_true rfl) dX1_init_32 (fun q32 H hG hS => ?_)
  have hG : GH E N0 (w ++ [(h0, .inr (1, [.int (0 : Int32), .int (0 : Int32), .int (-4 : Int32), .int (0 : Int32), .int (0 : Int32), .null, .null, .null, .int 0, .null, .null, .null])), (q32, .inl (E.cy 0, 4, .inl (fun _ => 0)))]) H := by rw [List.append_assoc] at hG; exact hG
  refine W.widen (k := 1) (n := 4) (Nat.le_of_ble_eq_true rfl) (Nat.le_of_ble_eq_true rfl) ?_
  refine c_putF (ws' := w ++ [(h0, .inr (1, [.int (0 : Int32), .int (0 : Int32), .int (-4 : Int32), .int (0 : Int32), .int (0 : Int32), .ref q32, .null, .null, .int 0, .null, .null, .null])), (q32, .inl (E.cy 0, 4, .inl (fun _ => 0)))]) S hK hG hS hinX1 tyX1 tyX1_ok nmX1 hnm w.length (c_at (k := 0) rfl) rfl 5 (by decide) (hts (.fieldLink RX1 27 RX1 "kind" "[I") (by decide +kernel)) rfl rfl rfl rfl (Nat.le_of_ble_eq_true rfl) (c_st (k := 0) rfl) dX1_init_34 (fun H locs hG hS => ?_)
  refine lv_aload_n hx hb dX1_init_37 rfl (lv_at hl 0 rfl) ?_
  refine lv_iconst (v := (4 : Int32)) hx hb dX1_init_38 (by decide) ?_
  refine c_newa (a0 := (4, .inl (fun _ => 0))) (N' := 4) S hK hN0 hG hS 0 rfl rfl (hts (.arrayClass .int) (by decide +kernel)) (fun _ => rfl) (by decide) (by decide) (by decide) (Nat.le_of_ble_eq_true rfl) (Nat.le_of_ble_eq_true rfl) dX1_init_39 (fun q39 H hG hS => ?_)
  have hG : GH E N0 (w ++ [(h0, .inr (1, [.int (0 : Int32), .int (0 : Int32), .int (-4 : Int32), .int (0 : Int32), .int (0 : Int32), .ref q32, .null, .null, .int 0, .null, .null, .null])), (q32, .inl (E.cy 0, 4, .inl (fun _ => 0))), (q39, .inl (E.cy 0, 4, .inl (fun _ => 0)))]) H := by rw [List.append_assoc] at hG; exact hG
  refine W.widen (k := 2) (n := 8) (Nat.le_of_ble_eq_true rfl) (Nat.le_of_ble_eq_true rfl) ?_
  refine c_putF (ws' := w ++ [(h0, .inr (1, [.int (0 : Int32), .int (0 : Int32), .int (-4 : Int32), .int (0 : Int32), .int (0 : Int32), .ref q32, .ref q39, .null, .int 0, .null, .null, .null])), (q32, .inl (E.cy 0, 4, .inl (fun _ => 0))), (q39, .inl (E.cy 0, 4, .inl (fun _ => 0)))]) S hK hG hS hinX1 tyX1 tyX1_ok nmX1 hnm w.length (c_at (k := 0) rfl) rfl 6 (by decide) (hts (.fieldLink RX1 31 RX1 "taste" "[I") (by decide +kernel)) rfl rfl rfl rfl (Nat.le_of_ble_eq_true rfl) (c_st (k := 0) rfl) dX1_init_41 (fun H locs hG hS => ?_)
  refine lv_aload_n hx hb dX1_init_44 rfl (lv_at hl 0 rfl) ?_
  refine lv_iconst (v := (4 : Int32)) hx hb dX1_init_45 (by decide) ?_
  refine c_newa (a0 := (4, .inl (fun _ => 0))) (N' := 4) S hK hN0 hG hS 0 rfl rfl (hts (.arrayClass .int) (by decide +kernel)) (fun _ => rfl) (by decide) (by decide) (by decide) (Nat.le_of_ble_eq_true rfl) (Nat.le_of_ble_eq_true rfl) dX1_init_46 (fun q46 H hG hS => ?_)
  have hG : GH E N0 (w ++ [(h0, .inr (1, [.int (0 : Int32), .int (0 : Int32), .int (-4 : Int32), .int (0 : Int32), .int (0 : Int32), .ref q32, .ref q39, .null, .int 0, .null, .null, .null])), (q32, .inl (E.cy 0, 4, .inl (fun _ => 0))), (q39, .inl (E.cy 0, 4, .inl (fun _ => 0))), (q46, .inl (E.cy 0, 4, .inl (fun _ => 0)))]) H := by rw [List.append_assoc] at hG; exact hG
  refine W.widen (k := 3) (n := 12) (Nat.le_of_ble_eq_true rfl) (Nat.le_of_ble_eq_true rfl) ?_
  refine c_putF (ws' := w ++ [(h0, .inr (1, [.int (0 : Int32), .int (0 : Int32), .int (-4 : Int32), .int (0 : Int32), .int (0 : Int32), .ref q32, .ref q39, .ref q46, .int 0, .null, .null, .null])), (q32, .inl (E.cy 0, 4, .inl (fun _ => 0))), (q39, .inl (E.cy 0, 4, .inl (fun _ => 0))), (q46, .inl (E.cy 0, 4, .inl (fun _ => 0)))]) S hK hG hS hinX1 tyX1 tyX1_ok nmX1 hnm w.length (c_at (k := 0) rfl) rfl 7 (by decide) (hts (.fieldLink RX1 34 RX1 "pace" "[I") (by decide +kernel)) rfl rfl rfl rfl (Nat.le_of_ble_eq_true rfl) (c_st (k := 0) rfl) dX1_init_48 (fun H locs hG hS => ?_)
  refine lv_aload_n hx hb dX1_init_51 rfl (lv_at hl 0 rfl) ?_
  refine lv_iconst (v := (0 : Int32)) hx hb dX1_init_52 (by decide) ?_
  refine c_put (ref := "MownMaze$Maze") (ws' := w ++ [(h0, .inr (1, [.int (0 : Int32), .int (0 : Int32), .int (-4 : Int32), .int (0 : Int32), .int (0 : Int32), .ref q32, .ref q39, .ref q46, .int (0 : Int32), .null, .null, .null])), (q32, .inl (E.cy 0, 4, .inl (fun _ => 0))), (q39, .inl (E.cy 0, 4, .inl (fun _ => 0))), (q46, .inl (E.cy 0, 4, .inl (fun _ => 0)))]) S hK hG hS hinX1 tyX1 tyX1_ok nmX1 w.length (c_at (k := 0) rfl) rfl 8 (by decide) (hts (.fieldLink RX1 37 "MownMaze$Maze" "guests" "I") (by decide +kernel)) rfl rfl rfl rfl (Nat.le_of_ble_eq_true rfl) (c_st (k := 0) rfl) dX1_init_53 (fun H locs hG hS => ?_)
  refine lv_aload_n hx hb dX1_init_56 rfl (lv_at hl 0 rfl) ?_
  refine lv_iconst (v := (4 : Int32)) hx hb dX1_init_57 (by decide) ?_
  refine c_newa (a0 := (4, .inl (fun _ => 0))) (N' := 4) S hK hN0 hG hS 0 rfl rfl (hts (.arrayClass .int) (by decide +kernel)) (fun _ => rfl) (by decide) (by decide) (by decide) (Nat.le_of_ble_eq_true rfl) (Nat.le_of_ble_eq_true rfl) dX1_init_58 (fun q58 H hG hS => ?_)
  have hG : GH E N0 (w ++ [(h0, .inr (1, [.int (0 : Int32), .int (0 : Int32), .int (-4 : Int32), .int (0 : Int32), .int (0 : Int32), .ref q32, .ref q39, .ref q46, .int (0 : Int32), .null, .null, .null])), (q32, .inl (E.cy 0, 4, .inl (fun _ => 0))), (q39, .inl (E.cy 0, 4, .inl (fun _ => 0))), (q46, .inl (E.cy 0, 4, .inl (fun _ => 0))), (q58, .inl (E.cy 0, 4, .inl (fun _ => 0)))]) H := by rw [List.append_assoc] at hG; exact hG
  refine W.widen (k := 4) (n := 16) (Nat.le_of_ble_eq_true rfl) (Nat.le_of_ble_eq_true rfl) ?_
  refine c_putF (ws' := w ++ [(h0, .inr (1, [.int (0 : Int32), .int (0 : Int32), .int (-4 : Int32), .int (0 : Int32), .int (0 : Int32), .ref q32, .ref q39, .ref q46, .int (0 : Int32), .ref q58, .null, .null])), (q32, .inl (E.cy 0, 4, .inl (fun _ => 0))), (q39, .inl (E.cy 0, 4, .inl (fun _ => 0))), (q46, .inl (E.cy 0, 4, .inl (fun _ => 0))), (q58, .inl (E.cy 0, 4, .inl (fun _ => 0)))]) S hK hG hS hinX1 tyX1 tyX1_ok nmX1 hnm w.length (c_at (k := 0) rfl) rfl 9 (by decide) (hts (.fieldLink RX1 40 RX1 "at" "[I") (by decide +kernel)) rfl rfl rfl rfl (Nat.le_of_ble_eq_true rfl) (c_st (k := 0) rfl) dX1_init_60 (fun H locs hG hS => ?_)
  refine lv_aload_n hx hb dX1_init_63 rfl (lv_at hl 0 rfl) ?_
  refine lv_iconst (v := (4 : Int32)) hx hb dX1_init_64 (by decide) ?_
  refine c_newa (a0 := (4, .inl (fun _ => 0))) (N' := 4) S hK hN0 hG hS 0 rfl rfl (hts (.arrayClass .int) (by decide +kernel)) (fun _ => rfl) (by decide) (by decide) (by decide) (Nat.le_of_ble_eq_true rfl) (Nat.le_of_ble_eq_true rfl) dX1_init_65 (fun q65 H hG hS => ?_)
  have hG : GH E N0 (w ++ [(h0, .inr (1, [.int (0 : Int32), .int (0 : Int32), .int (-4 : Int32), .int (0 : Int32), .int (0 : Int32), .ref q32, .ref q39, .ref q46, .int (0 : Int32), .ref q58, .null, .null])), (q32, .inl (E.cy 0, 4, .inl (fun _ => 0))), (q39, .inl (E.cy 0, 4, .inl (fun _ => 0))), (q46, .inl (E.cy 0, 4, .inl (fun _ => 0))), (q58, .inl (E.cy 0, 4, .inl (fun _ => 0))), (q65, .inl (E.cy 0, 4, .inl (fun _ => 0)))]) H := by rw [List.append_assoc] at hG; exact hG
  refine W.widen (k := 5) (n := 20) (Nat.le_of_ble_eq_true rfl) (Nat.le_of_ble_eq_true rfl) ?_
  refine c_putF (ws' := w ++ [(h0, .inr (1, [.int (0 : Int32), .int (0 : Int32), .int (-4 : Int32), .int (0 : Int32), .int (0 : Int32), .ref q32, .ref q39, .ref q46, .int (0 : Int32), .ref q58, .ref q65, .null])), (q32, .inl (E.cy 0, 4, .inl (fun _ => 0))), (q39, .inl (E.cy 0, 4, .inl (fun _ => 0))), (q46, .inl (E.cy 0, 4, .inl (fun _ => 0))), (q58, .inl (E.cy 0, 4, .inl (fun _ => 0))), (q65, .inl (E.cy 0, 4, .inl (fun _ => 0)))]) S hK hG hS hinX1 tyX1 tyX1_ok nmX1 hnm w.length (c_at (k := 0) rfl) rfl 10 (by decide) (hts (.fieldLink RX1 43 RX1 "food" "[I") (by decide +kernel)) rfl rfl rfl rfl (Nat.le_of_ble_eq_true rfl) (c_st (k := 0) rfl) dX1_init_67 (fun H locs hG hS => ?_)
  refine lv_aload_n hx hb dX1_init_70 rfl (lv_at hl 0 rfl) ?_
  refine lv_iconst (v := (4 : Int32)) hx hb dX1_init_71 (by decide) ?_
  refine c_newa (a0 := (4, .inl (fun _ => 0))) (N' := 4) S hK hN0 hG hS 0 rfl rfl (hts (.arrayClass .int) (by decide +kernel)) (fun _ => rfl) (by decide) (by decide) (by decide) (Nat.le_of_ble_eq_true rfl) (Nat.le_of_ble_eq_true rfl) dX1_init_72 (fun q72 H hG hS => ?_)
  have hG : GH E N0 (w ++ [(h0, .inr (1, [.int (0 : Int32), .int (0 : Int32), .int (-4 : Int32), .int (0 : Int32), .int (0 : Int32), .ref q32, .ref q39, .ref q46, .int (0 : Int32), .ref q58, .ref q65, .null])), (q32, .inl (E.cy 0, 4, .inl (fun _ => 0))), (q39, .inl (E.cy 0, 4, .inl (fun _ => 0))), (q46, .inl (E.cy 0, 4, .inl (fun _ => 0))), (q58, .inl (E.cy 0, 4, .inl (fun _ => 0))), (q65, .inl (E.cy 0, 4, .inl (fun _ => 0))), (q72, .inl (E.cy 0, 4, .inl (fun _ => 0)))]) H := by rw [List.append_assoc] at hG; exact hG
  refine W.widen (k := 6) (n := 24) (Nat.le_of_ble_eq_true rfl) (Nat.le_of_ble_eq_true rfl) ?_
  refine c_putF (ws' := w ++ [(h0, .inr (1, [.int (0 : Int32), .int (0 : Int32), .int (-4 : Int32), .int (0 : Int32), .int (0 : Int32), .ref q32, .ref q39, .ref q46, .int (0 : Int32), .ref q58, .ref q65, .ref q72])), (q32, .inl (E.cy 0, 4, .inl (fun _ => 0))), (q39, .inl (E.cy 0, 4, .inl (fun _ => 0))), (q46, .inl (E.cy 0, 4, .inl (fun _ => 0))), (q58, .inl (E.cy 0, 4, .inl (fun _ => 0))), (q65, .inl (E.cy 0, 4, .inl (fun _ => 0))), (q72, .inl (E.cy 0, 4, .inl (fun _ => 0)))]) S hK hG hS hinX1 tyX1 tyX1_ok nmX1 hnm w.length (c_at (k := 0) rfl) rfl 11 (by decide) (hts (.fieldLink RX1 46 RX1 "fate" "[I") (by decide +kernel)) rfl rfl rfl rfl (Nat.le_of_ble_eq_true rfl) (c_st (k := 0) rfl) dX1_init_74 (fun H locs hG hS => ?_)
  exact fin (fun i => [q32, q39, q46, q58, q65, q72].getD i 0) dX1_init_77 hG hS
abbrev rm_X3_init : Room := { frames := 1, cells := 1, slots := 160, locals := 20 }
abbrev zX3 (h0 : Nat) : va_W := [(h0, .inr (2, [.null, .int 0, .int 0, .int 0, .int 0, .int 0, .int 0, .int 0]))]
def nX3 (E : En) (h0 : Nat) (u : Nat → Nat) : va_W := [(h0, .inr (2, [.ref (u 0), .int (0 : Int32), .int (0 : Int32), .int (0 : Int32), .int (4 : Int32), .int (0 : Int32), .int (0 : Int32), .int (0 : Int32)])), ((u 0), .inl (E.cy 1, 160, .inl (fun _ => 0)))]
set_option maxHeartbeats 4000000 in
set_option maxRecDepth 100000 in
theorem k_X3_init (l : Launch) (E : En) (N0 h0 : Nat) (w : va_W) : Kon l E N0 yX3_init wsX3_init rm_X3_init (fun _ => True) h0 w (zX3 h0) (nX3 E h0) := by
  refine meet_c (cc := cX3_init) (maxL := 1) (own := RX3) (by decide) rfl rfl rfl (by decide) ?_
  intro p e s m below meth c Zq S hnm hN0 hK hZ fin hG hS ls hl
  have hx := S.1
  have hb := S.2.1
  have hts := S.2.2.2.2
  have hinX3 : ∀ w ∈ u_ws RX3 TX3 8, w ∈ wsX3_init := by decide +kernel
  refine lv_aload_n hx hb dX3_init_0 rfl (lv_at hl 0 rfl) ?_
  refine W.objInit hx hb S.2.2.2.1 (hts (.methodLink RX3 3 objectInit) (by decide +kernel)) (hts (.instanceMethod objectInit) (by decide +kernel)) (hts _ (List.mem_cons_of_mem _ (List.mem_append_left _ (List.mem_of_getElem? (i := 2) rfl)))) rfl (by rw [S.2.2.1]; exact hl.1) rfl dX3_init_1 (Nat.le_of_ble_eq_true rfl) (Nat.le_of_ble_eq_true rfl) ?_
  refine W.eq (g2 := F0 m 4 ls []) rfl ?_
  refine lv_aload_n hx hb dX3_init_4 rfl (lv_at hl 0 rfl) ?_
  refine lv_sipush (v := (160 : Int32)) hx hb dX3_init_5 (by decide) ?_
  refine c_newa (a0 := (160, .inl (fun _ => 0))) (N' := 160) S hK hN0 hG hS 1 rfl rfl (hts (.arrayClass .byte) (by decide +kernel)) (fun _ => rfl) (by decide) (by decide) (by decide) (Nat.le_of_ble_eq_true rfl) (Nat.le_of_ble_eq_true rfl) dX3_init_8 (fun q8 H hG hS => ?_)
  have hG : GH E N0 (w ++ [(h0, .inr (2, [.null, .int 0, .int 0, .int 0, .int 0, .int 0, .int 0, .int 0])), (q8, .inl (E.cy 1, 160, .inl (fun _ => 0)))]) H := by rw [List.append_assoc] at hG; exact hG
  refine W.widen (k := 1) (n := 160) (Nat.le_of_ble_eq_true rfl) (Nat.le_of_ble_eq_true rfl) ?_
  refine c_putF (ws' := w ++ [(h0, .inr (2, [.ref q8, .int 0, .int 0, .int 0, .int 0, .int 0, .int 0, .int 0])), (q8, .inl (E.cy 1, 160, .inl (fun _ => 0)))]) S hK hG hS hinX3 tyX3 tyX3_ok nmX3 hnm w.length (c_at (k := 0) rfl) rfl 0 (by decide) (hts (.fieldLink RX3 9 RX3 "tape" "[B") (by decide +kernel)) rfl rfl rfl rfl (Nat.le_of_ble_eq_true rfl) (c_st (k := 0) rfl) dX3_init_10 (fun H locs hG hS => ?_)
  refine lv_aload_n hx hb dX3_init_13 rfl (lv_at hl 0 rfl) ?_
  refine lv_iconst (v := (0 : Int32)) hx hb dX3_init_14 (by decide) ?_
  refine c_put (ref := "MownMaze$Reader") (ws' := w ++ [(h0, .inr (2, [.ref q8, .int (0 : Int32), .int 0, .int 0, .int 0, .int 0, .int 0, .int 0])), (q8, .inl (E.cy 1, 160, .inl (fun _ => 0)))]) S hK hG hS hinX3 tyX3 tyX3_ok nmX3 w.length (c_at (k := 0) rfl) rfl 1 (by decide) (hts (.fieldLink RX3 15 "MownMaze$Reader" "length" "I") (by decide +kernel)) rfl rfl rfl rfl (Nat.le_of_ble_eq_true rfl) (c_st (k := 0) rfl) dX3_init_15 (fun H locs hG hS => ?_)
  refine lv_aload_n hx hb dX3_init_18 rfl (lv_at hl 0 rfl) ?_
  refine lv_iconst (v := (0 : Int32)) hx hb dX3_init_19 (by decide) ?_
  refine c_put (ref := "MownMaze$Reader") (ws' := w ++ [(h0, .inr (2, [.ref q8, .int (0 : Int32), .int (0 : Int32), .int 0, .int 0, .int 0, .int 0, .int 0])), (q8, .inl (E.cy 1, 160, .inl (fun _ => 0)))]) S hK hG hS hinX3 tyX3 tyX3_ok nmX3 w.length (c_at (k := 0) rfl) rfl 2 (by decide) (hts (.fieldLink RX3 19 "MownMaze$Reader" "place" "I") (by decide +kernel)) rfl rfl rfl rfl (Nat.le_of_ble_eq_true rfl) (c_st (k := 0) rfl) dX3_init_20 (fun H locs hG hS => ?_)
  refine lv_aload_n hx hb dX3_init_23 rfl (lv_at hl 0 rfl) ?_
  refine lv_iconst (v := (0 : Int32)) hx hb dX3_init_24 (by decide) ?_
  refine c_put (ref := "MownMaze$Reader") (ws' := w ++ [(h0, .inr (2, [.ref q8, .int (0 : Int32), .int (0 : Int32), .int (0 : Int32), .int 0, .int 0, .int 0, .int 0])), (q8, .inl (E.cy 1, 160, .inl (fun _ => 0)))]) S hK hG hS hinX3 tyX3 tyX3_ok nmX3 w.length (c_at (k := 0) rfl) rfl 3 (by decide) (hts (.fieldLink RX3 22 "MownMaze$Reader" "start" "I") (by decide +kernel)) rfl rfl rfl rfl (Nat.le_of_ble_eq_true rfl) (c_st (k := 0) rfl) dX3_init_25 (fun H locs hG hS => ?_)
  refine lv_aload_n hx hb dX3_init_28 rfl (lv_at hl 0 rfl) ?_
  refine lv_iconst (v := (4 : Int32)) hx hb dX3_init_29 (by decide) ?_
  refine c_put (ref := "MownMaze$Reader") (ws' := w ++ [(h0, .inr (2, [.ref q8, .int (0 : Int32), .int (0 : Int32), .int (0 : Int32), .int (4 : Int32), .int 0, .int 0, .int 0])), (q8, .inl (E.cy 1, 160, .inl (fun _ => 0)))]) S hK hG hS hinX3 tyX3 tyX3_ok nmX3 w.length (c_at (k := 0) rfl) rfl 4 (by decide) (hts (.fieldLink RX3 25 "MownMaze$Reader" "token" "I") (by decide +kernel)) rfl rfl rfl rfl (Nat.le_of_ble_eq_true rfl) (c_st (k := 0) rfl) dX3_init_30 (fun H locs hG hS => ?_)
  refine lv_aload_n hx hb dX3_init_33 rfl (lv_at hl 0 rfl) ?_
  refine lv_iconst (v := (0 : Int32)) hx hb dX3_init_34 (by decide) ?_
  refine c_put (ref := "MownMaze$Reader") (ws' := w ++ [(h0, .inr (2, [.ref q8, .int (0 : Int32), .int (0 : Int32), .int (0 : Int32), .int (4 : Int32), .int (0 : Int32), .int 0, .int 0])), (q8, .inl (E.cy 1, 160, .inl (fun _ => 0)))]) S hK hG hS hinX3 tyX3 tyX3_ok nmX3 w.length (c_at (k := 0) rfl) rfl 5 (by decide) (hts (.fieldLink RX3 28 "MownMaze$Reader" "number" "I") (by decide +kernel)) rfl rfl rfl rfl (Nat.le_of_ble_eq_true rfl) (c_st (k := 0) rfl) dX3_init_35 (fun H locs hG hS => ?_)
  refine lv_aload_n hx hb dX3_init_38 rfl (lv_at hl 0 rfl) ?_
  refine lv_iconst (v := (0 : Int32)) hx hb dX3_init_39 (by decide) ?_
  refine c_put (ref := "MownMaze$Reader") (ws' := w ++ [(h0, .inr (2, [.ref q8, .int (0 : Int32), .int (0 : Int32), .int (0 : Int32), .int (4 : Int32), .int (0 : Int32), .int (0 : Int32), .int 0])), (q8, .inl (E.cy 1, 160, .inl (fun _ => 0)))]) S hK hG hS hinX3 tyX3 tyX3_ok nmX3 w.length (c_at (k := 0) rfl) rfl 6 (by decide) (hts (.fieldLink RX3 31 "MownMaze$Reader" "fault" "I") (by decide +kernel)) rfl rfl rfl rfl (Nat.le_of_ble_eq_true rfl) (c_st (k := 0) rfl) dX3_init_40 (fun H locs hG hS => ?_)
  refine lv_aload_n hx hb dX3_init_43 rfl (lv_at hl 0 rfl) ?_
  refine lv_iconst (v := (0 : Int32)) hx hb dX3_init_44 (by decide) ?_
  refine c_put (ref := "MownMaze$Reader") (ws' := w ++ [(h0, .inr (2, [.ref q8, .int (0 : Int32), .int (0 : Int32), .int (0 : Int32), .int (4 : Int32), .int (0 : Int32), .int (0 : Int32), .int (0 : Int32)])), (q8, .inl (E.cy 1, 160, .inl (fun _ => 0)))]) S hK hG hS hinX3 tyX3 tyX3_ok nmX3 w.length (c_at (k := 0) rfl) rfl 7 (by decide) (hts (.fieldLink RX3 34 "MownMaze$Reader" "gateTold" "Z") (by decide +kernel)) rfl rfl rfl rfl (Nat.le_of_ble_eq_true rfl) (c_st (k := 0) rfl) dX3_init_45 (fun H locs hG hS => ?_)
  exact fin (fun i => [q8].getD i 0) dX3_init_48 hG hS
abbrev rm_X4_init : Room := { frames := 1, cells := 5, slots := 543, locals := 20 }
abbrev zX4 (h0 : Nat) : va_W := [(h0, .inr (3, [.int 0, .null, .null, .null, .null, .null]))]
def nX4 (E : En) (h0 : Nat) (u : Nat → Nat) : va_W := [(h0, .inr (3, [.int (0 : Int32), .ref (u 0), .ref (u 1), .ref (u 2), .ref (u 3), .ref (u 4)])), ((u 0), .inl (E.cy 0, 6, .inl (fun _ => 0))), ((u 1), .inl (E.cy 0, 6, .inl (fun _ => 0))), ((u 2), .inl (E.cy 0, 6, .inl (fun _ => 0))), ((u 3), .inl (E.cy 0, 21, .inl (fun _ => 0))), ((u 4), .inl (E.cy 0, 504, .inl (fun _ => 0)))]
set_option maxHeartbeats 4000000 in
set_option maxRecDepth 100000 in
theorem k_X4_init (l : Launch) (E : En) (N0 h0 : Nat) (w : va_W) : Kon l E N0 yX4_init wsX4_init rm_X4_init (fun _ => True) h0 w (zX4 h0) (nX4 E h0) := by
  refine meet_c (cc := cX4_init) (maxL := 1) (own := RX4) (by decide) rfl rfl rfl (by decide) ?_
  intro p e s m below meth c Zq S hnm hN0 hK hZ fin hG hS ls hl
  have hx := S.1
  have hb := S.2.1
  have hts := S.2.2.2.2
  have hinX4 : ∀ w ∈ u_ws RX4 TX4 6, w ∈ wsX4_init := by decide +kernel
  refine lv_aload_n hx hb dX4_init_0 rfl (lv_at hl 0 rfl) ?_
  refine W.objInit hx hb S.2.2.2.1 (hts (.methodLink RX4 3 objectInit) (by decide +kernel)) (hts (.instanceMethod objectInit) (by decide +kernel)) (hts _ (List.mem_cons_of_mem _ (List.mem_append_left _ (List.mem_of_getElem? (i := 2) rfl)))) rfl (by rw [S.2.2.1]; exact hl.1) rfl dX4_init_1 (Nat.le_of_ble_eq_true rfl) (Nat.le_of_ble_eq_true rfl) ?_
  refine W.eq (g2 := F0 m 4 ls []) rfl ?_
  refine lv_aload_n hx hb dX4_init_4 rfl (lv_at hl 0 rfl) ?_
  refine lv_iconst (v := (0 : Int32)) hx hb dX4_init_5 (by decide) ?_
  refine c_put (ref := "MownMaze$Seen") (ws' := w ++ [(h0, .inr (3, [.int (0 : Int32), .null, .null, .null, .null, .null]))]) S hK hG hS hinX4 tyX4 tyX4_ok nmX4 w.length (c_at (k := 0) rfl) rfl 0 (by decide) (hts (.fieldLink RX4 9 "MownMaze$Seen" "size" "I") (by decide +kernel)) rfl rfl rfl rfl (Nat.le_of_ble_eq_true rfl) (c_st (k := 0) rfl) dX4_init_6 (fun H locs hG hS => ?_)
  refine lv_aload_n hx hb dX4_init_9 rfl (lv_at hl 0 rfl) ?_
  refine lv_bipush (v := (6 : Int32)) hx hb dX4_init_10 (by decide) ?_
  refine c_newa (a0 := (6, .inl (fun _ => 0))) (N' := 6) S hK hN0 hG hS 0 rfl rfl (hts (.arrayClass .int) (by decide +kernel)) (fun _ => rfl) (by decide) (by decide) (by decide) (Nat.le_of_ble_eq_true rfl) (Nat.le_of_ble_eq_true rfl) dX4_init_12 (fun q12 H hG hS => ?_)
  have hG : GH E N0 (w ++ [(h0, .inr (3, [.int (0 : Int32), .null, .null, .null, .null, .null])), (q12, .inl (E.cy 0, 6, .inl (fun _ => 0)))]) H := by rw [List.append_assoc] at hG; exact hG
  refine W.widen (k := 1) (n := 6) (Nat.le_of_ble_eq_true rfl) (Nat.le_of_ble_eq_true rfl) ?_
  refine c_putF (ws' := w ++ [(h0, .inr (3, [.int (0 : Int32), .ref q12, .null, .null, .null, .null])), (q12, .inl (E.cy 0, 6, .inl (fun _ => 0)))]) S hK hG hS hinX4 tyX4 tyX4_ok nmX4 hnm w.length (c_at (k := 0) rfl) rfl 1 (by decide) (hts (.fieldLink RX4 15 RX4 "behind" "[I") (by decide +kernel)) rfl rfl rfl rfl (Nat.le_of_ble_eq_true rfl) (c_st (k := 0) rfl) dX4_init_14 (fun H locs hG hS => ?_)
  refine lv_aload_n hx hb dX4_init_17 rfl (lv_at hl 0 rfl) ?_
  refine lv_bipush (v := (6 : Int32)) hx hb dX4_init_18 (by decide) ?_
  refine c_newa (a0 := (6, .inl (fun _ => 0))) (N' := 6) S hK hN0 hG hS 0 rfl rfl (hts (.arrayClass .int) (by decide +kernel)) (fun _ => rfl) (by decide) (by decide) (by decide) (Nat.le_of_ble_eq_true rfl) (Nat.le_of_ble_eq_true rfl) dX4_init_20 (fun q20 H hG hS => ?_)
  have hG : GH E N0 (w ++ [(h0, .inr (3, [.int (0 : Int32), .ref q12, .null, .null, .null, .null])), (q12, .inl (E.cy 0, 6, .inl (fun _ => 0))), (q20, .inl (E.cy 0, 6, .inl (fun _ => 0)))]) H := by rw [List.append_assoc] at hG; exact hG
  refine W.widen (k := 2) (n := 12) (Nat.le_of_ble_eq_true rfl) (Nat.le_of_ble_eq_true rfl) ?_
  refine c_putF (ws' := w ++ [(h0, .inr (3, [.int (0 : Int32), .ref q12, .ref q20, .null, .null, .null])), (q12, .inl (E.cy 0, 6, .inl (fun _ => 0))), (q20, .inl (E.cy 0, 6, .inl (fun _ => 0)))]) S hK hG hS hinX4 tyX4 tyX4_ok nmX4 hnm w.length (c_at (k := 0) rfl) rfl 2 (by decide) (hts (.fieldLink RX4 19 RX4 "where" "[I") (by decide +kernel)) rfl rfl rfl rfl (Nat.le_of_ble_eq_true rfl) (c_st (k := 0) rfl) dX4_init_22 (fun H locs hG hS => ?_)
  refine lv_aload_n hx hb dX4_init_25 rfl (lv_at hl 0 rfl) ?_
  refine lv_bipush (v := (6 : Int32)) hx hb dX4_init_26 (by decide) ?_
  refine c_newa (a0 := (6, .inl (fun _ => 0))) (N' := 6) S hK hN0 hG hS 0 rfl rfl (hts (.arrayClass .int) (by decide +kernel)) (fun _ => rfl) (by decide) (by decide) (by decide) (Nat.le_of_ble_eq_true rfl) (Nat.le_of_ble_eq_true rfl) dX4_init_28 (fun q28 H hG hS => ?_)
  have hG : GH E N0 (w ++ [(h0, .inr (3, [.int (0 : Int32), .ref q12, .ref q20, .null, .null, .null])), (q12, .inl (E.cy 0, 6, .inl (fun _ => 0))), (q20, .inl (E.cy 0, 6, .inl (fun _ => 0))), (q28, .inl (E.cy 0, 6, .inl (fun _ => 0)))]) H := by rw [List.append_assoc] at hG; exact hG
  refine W.widen (k := 3) (n := 18) (Nat.le_of_ble_eq_true rfl) (Nat.le_of_ble_eq_true rfl) ?_
  refine c_putF (ws' := w ++ [(h0, .inr (3, [.int (0 : Int32), .ref q12, .ref q20, .ref q28, .null, .null])), (q12, .inl (E.cy 0, 6, .inl (fun _ => 0))), (q20, .inl (E.cy 0, 6, .inl (fun _ => 0))), (q28, .inl (E.cy 0, 6, .inl (fun _ => 0)))]) S hK hG hS hinX4 tyX4 tyX4_ok nmX4 hnm w.length (c_at (k := 0) rfl) rfl 3 (by decide) (hts (.fieldLink RX4 22 RX4 "stood" "[I") (by decide +kernel)) rfl rfl rfl rfl (Nat.le_of_ble_eq_true rfl) (c_st (k := 0) rfl) dX4_init_30 (fun H locs hG hS => ?_)
  refine lv_aload_n hx hb dX4_init_33 rfl (lv_at hl 0 rfl) ?_
  refine lv_bipush (v := (21 : Int32)) hx hb dX4_init_34 (by decide) ?_
  refine c_newa (a0 := (21, .inl (fun _ => 0))) (N' := 21) S hK hN0 hG hS 0 rfl rfl (hts (.arrayClass .int) (by decide +kernel)) (fun _ => rfl) (by decide) (by decide) (by decide) (Nat.le_of_ble_eq_true rfl) (Nat.le_of_ble_eq_true rfl) dX4_init_36 (fun q36 H hG hS => ?_)
  have hG : GH E N0 (w ++ [(h0, .inr (3, [.int (0 : Int32), .ref q12, .ref q20, .ref q28, .null, .null])), (q12, .inl (E.cy 0, 6, .inl (fun _ => 0))), (q20, .inl (E.cy 0, 6, .inl (fun _ => 0))), (q28, .inl (E.cy 0, 6, .inl (fun _ => 0))), (q36, .inl (E.cy 0, 21, .inl (fun _ => 0)))]) H := by rw [List.append_assoc] at hG; exact hG
  refine W.widen (k := 4) (n := 39) (Nat.le_of_ble_eq_true rfl) (Nat.le_of_ble_eq_true rfl) ?_
  refine c_putF (ws' := w ++ [(h0, .inr (3, [.int (0 : Int32), .ref q12, .ref q20, .ref q28, .ref q36, .null])), (q12, .inl (E.cy 0, 6, .inl (fun _ => 0))), (q20, .inl (E.cy 0, 6, .inl (fun _ => 0))), (q28, .inl (E.cy 0, 6, .inl (fun _ => 0))), (q36, .inl (E.cy 0, 21, .inl (fun _ => 0)))]) S hK hG hS hinX4 tyX4 tyX4_ok nmX4 hnm w.length (c_at (k := 0) rfl) rfl 4 (by decide) (hts (.fieldLink RX4 25 RX4 "views" "[I") (by decide +kernel)) rfl rfl rfl rfl (Nat.le_of_ble_eq_true rfl) (c_st (k := 0) rfl) dX4_init_38 (fun H locs hG hS => ?_)
  refine lv_aload_n hx hb dX4_init_41 rfl (lv_at hl 0 rfl) ?_
  refine lv_sipush (v := (504 : Int32)) hx hb dX4_init_42 (by decide) ?_
  refine c_newa (a0 := (504, .inl (fun _ => 0))) (N' := 504) S hK hN0 hG hS 0 rfl rfl (hts (.arrayClass .int) (by decide +kernel)) (fun _ => rfl) (by decide) (by decide) (by decide) (Nat.le_of_ble_eq_true rfl) (Nat.le_of_ble_eq_true rfl) dX4_init_45 (fun q45 H hG hS => ?_)
  have hG : GH E N0 (w ++ [(h0, .inr (3, [.int (0 : Int32), .ref q12, .ref q20, .ref q28, .ref q36, .null])), (q12, .inl (E.cy 0, 6, .inl (fun _ => 0))), (q20, .inl (E.cy 0, 6, .inl (fun _ => 0))), (q28, .inl (E.cy 0, 6, .inl (fun _ => 0))), (q36, .inl (E.cy 0, 21, .inl (fun _ => 0))), (q45, .inl (E.cy 0, 504, .inl (fun _ => 0)))]) H := by rw [List.append_assoc] at hG; exact hG
  refine W.widen (k := 5) (n := 543) (Nat.le_of_ble_eq_true rfl) (Nat.le_of_ble_eq_true rfl) ?_
  refine c_putF (ws' := w ++ [(h0, .inr (3, [.int (0 : Int32), .ref q12, .ref q20, .ref q28, .ref q36, .ref q45])), (q12, .inl (E.cy 0, 6, .inl (fun _ => 0))), (q20, .inl (E.cy 0, 6, .inl (fun _ => 0))), (q28, .inl (E.cy 0, 6, .inl (fun _ => 0))), (q36, .inl (E.cy 0, 21, .inl (fun _ => 0))), (q45, .inl (E.cy 0, 504, .inl (fun _ => 0)))]) S hK hG hS hinX4 tyX4 tyX4_ok nmX4 hnm w.length (c_at (k := 0) rfl) rfl 5 (by decide) (hts (.fieldLink RX4 28 RX4 "votes" "[I") (by decide +kernel)) rfl rfl rfl rfl (Nat.le_of_ble_eq_true rfl) (c_st (k := 0) rfl) dX4_init_47 (fun H locs hG hS => ?_)
  exact fin (fun i => [q12, q20, q28, q36, q45].getD i 0) dX4_init_50 hG hS
abbrev rm_X5_init : Room := { frames := 1, cells := 1, slots := 40, locals := 20 }
abbrev zX5 (h0 : Nat) : va_W := [(h0, .inr (4, [.int 0, .int 0, .int 0, .null]))]
def nX5 (E : En) (h0 : Nat) (u : Nat → Nat) : va_W := [(h0, .inr (4, [.int (0 : Int32), .int (0 : Int32), .int (0 : Int32), .ref (u 0)])), ((u 0), .inl (E.cy 0, 40, .inl (fun _ => 0)))]
set_option maxHeartbeats 4000000 in
set_option maxRecDepth 100000 in
theorem k_X5_init (l : Launch) (E : En) (N0 h0 : Nat) (w : va_W) : Kon l E N0 yX5_init wsX5_init rm_X5_init (fun _ => True) h0 w (zX5 h0) (nX5 E h0) := by
  refine meet_c (cc := cX5_init) (maxL := 1) (own := RX5) (by decide) rfl rfl rfl (by decide) ?_
  intro p e s m below meth c Zq S hnm hN0 hK hZ fin hG hS ls hl
  have hx := S.1
  have hb := S.2.1
  have hts := S.2.2.2.2
  have hinX5 : ∀ w ∈ u_ws RX5 TX5 4, w ∈ wsX5_init := by decide +kernel
  refine lv_aload_n hx hb dX5_init_0 rfl (lv_at hl 0 rfl) ?_
  refine W.objInit hx hb S.2.2.2.1 (hts (.methodLink RX5 3 objectInit) (by decide +kernel)) (hts (.instanceMethod objectInit) (by decide +kernel)) (hts _ (List.mem_cons_of_mem _ (List.mem_append_left _ (List.mem_of_getElem? (i := 2) rfl)))) rfl (by rw [S.2.2.1]; exact hl.1) rfl dX5_init_1 (Nat.le_of_ble_eq_true rfl) (Nat.le_of_ble_eq_true rfl) ?_
  refine W.eq (g2 := F0 m 4 ls []) rfl ?_
  refine lv_aload_n hx hb dX5_init_4 rfl (lv_at hl 0 rfl) ?_
  refine lv_iconst (v := (0 : Int32)) hx hb dX5_init_5 (by decide) ?_
  refine c_put (ref := "MownMaze$Sheet") (ws' := w ++ [(h0, .inr (4, [.int (0 : Int32), .int 0, .int 0, .null]))]) S hK hG hS hinX5 tyX5 tyX5_ok nmX5 w.length (c_at (k := 0) rfl) rfl 0 (by decide) (hts (.fieldLink RX5 9 "MownMaze$Sheet" "made" "Z") (by decide +kernel)) rfl rfl rfl rfl (Nat.le_of_ble_eq_true rfl) (c_st (k := 0) rfl) dX5_init_6 (fun H locs hG hS => ?_)
  refine lv_aload_n hx hb dX5_init_9 rfl (lv_at hl 0 rfl) ?_
  refine lv_iconst (v := (0 : Int32)) hx hb dX5_init_10 (by decide) ?_
  refine c_put (ref := "MownMaze$Sheet") (ws' := w ++ [(h0, .inr (4, [.int (0 : Int32), .int (0 : Int32), .int 0, .null]))]) S hK hG hS hinX5 tyX5 tyX5_ok nmX5 w.length (c_at (k := 0) rfl) rfl 1 (by decide) (hts (.fieldLink RX5 15 "MownMaze$Sheet" "lane" "I") (by decide +kernel)) rfl rfl rfl rfl (Nat.le_of_ble_eq_true rfl) (c_st (k := 0) rfl) dX5_init_11 (fun H locs hG hS => ?_)
  refine lv_aload_n hx hb dX5_init_14 rfl (lv_at hl 0 rfl) ?_
  refine lv_iconst (v := (0 : Int32)) hx hb dX5_init_15 (by decide) ?_
  refine c_put (ref := "MownMaze$Sheet") (ws' := w ++ [(h0, .inr (4, [.int (0 : Int32), .int (0 : Int32), .int (0 : Int32), .null]))]) S hK hG hS hinX5 tyX5 tyX5_ok nmX5 w.length (c_at (k := 0) rfl) rfl 2 (by decide) (hts (.fieldLink RX5 19 "MownMaze$Sheet" "size" "I") (by decide +kernel)) rfl rfl rfl rfl (Nat.le_of_ble_eq_true rfl) (c_st (k := 0) rfl) dX5_init_16 (fun H locs hG hS => ?_)
  refine lv_aload_n hx hb dX5_init_19 rfl (lv_at hl 0 rfl) ?_
  refine lv_bipush (v := (40 : Int32)) hx hb dX5_init_20 (by decide) ?_
  refine c_newa (a0 := (40, .inl (fun _ => 0))) (N' := 40) S hK hN0 hG hS 0 rfl rfl (hts (.arrayClass .int) (by decide +kernel)) (fun _ => rfl) (by decide) (by decide) (by decide) (Nat.le_of_ble_eq_true rfl) (Nat.le_of_ble_eq_true rfl) dX5_init_22 (fun q22 H hG hS => ?_)
  have hG : GH E N0 (w ++ [(h0, .inr (4, [.int (0 : Int32), .int (0 : Int32), .int (0 : Int32), .null])), (q22, .inl (E.cy 0, 40, .inl (fun _ => 0)))]) H := by rw [List.append_assoc] at hG; exact hG
  refine W.widen (k := 1) (n := 40) (Nat.le_of_ble_eq_true rfl) (Nat.le_of_ble_eq_true rfl) ?_
  refine c_putF (ws' := w ++ [(h0, .inr (4, [.int (0 : Int32), .int (0 : Int32), .int (0 : Int32), .ref q22])), (q22, .inl (E.cy 0, 40, .inl (fun _ => 0)))]) S hK hG hS hinX5 tyX5 tyX5_ok nmX5 hnm w.length (c_at (k := 0) rfl) rfl 3 (by decide) (hts (.fieldLink RX5 22 RX5 "cells" "[I") (by decide +kernel)) rfl rfl rfl rfl (Nat.le_of_ble_eq_true rfl) (c_st (k := 0) rfl) dX5_init_24 (fun H locs hG hS => ?_)
  exact fin (fun i => [q22].getD i 0) dX5_init_27 hG hS
