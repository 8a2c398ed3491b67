/-! J6_bitCount_0f7a4 -/
abbrev rm_J6_bitCount_0f7a4 : Room := { frames := 0, cells := 0, slots := 0, locals := 0 }
set_option maxHeartbeats 4000000 in
set_option maxRecDepth 100000 in
theorem K_J6_bitCount_0f7a4 (l : Launch) {E : En} (hE : Inj E) (X : Wd) (a0 : Int32) {r : Int32} (hf : f_J6_bitCount_0f7a4 a0 = some r) : Cti l E yJ6_bitCount_0f7a4 wsJ6_bitCount_0f7a4 rm_J6_bitCount_0f7a4 [.int a0] X r X := by
  refine meet_i (cc := cJ6_bitCount_0f7a4) (maxL := 1) (own := RJ6) (by decide) rfl rfl (Nat.le_of_ble_eq_true rfl) ?_
  intro p e s m below meth c Z S hB fin hP hS ls hl
  have hx := S.1
  have hb := S.2.1
  have hl : lv_has ls 1 [(0, .int a0)] := hl
  unfold f_J6_bitCount_0f7a4 at hf
  refine lv_iload_n hx hb dJ6_bitCount_0f7a4_0 rfl (lv_at hl 0 rfl) ?_
  refine lv_iload_n hx hb dJ6_bitCount_0f7a4_1 rfl (lv_at hl 0 rfl) ?_
  refine lv_iconst (v := 1) hx hb dJ6_bitCount_0f7a4_2 (by decide) ?_
  refine lv_iushr hx hb dJ6_bitCount_0f7a4_3 (v := (a0.toUInt32 >>> ((1 : Int32).toUInt32 &&& Int32.toUInt32 31)).toInt32) rfl ?_
  refine lv_ldcw hx hb S.2.2.2.1 (S.2.2.2.2 (.constant RJ6 265 (1431655765)) (by decide +kernel)) dJ6_bitCount_0f7a4_4 ?_
  refine lv_iand hx hb dJ6_bitCount_0f7a4_7 ?_
  refine lv_isub hx hb dJ6_bitCount_0f7a4_8 ?_
  refine lv_istore_n (lv' := [(0, .int (a0 - (((a0.toUInt32 >>> ((1 : Int32).toUInt32 &&& Int32.toUInt32 31)).toInt32) &&& (1431655765 : Int32))))]) hx hb dJ6_bitCount_0f7a4_9 rfl hl (by decide) rfl (fun ls hl => ?_)
  refine lv_iload_n hx hb dJ6_bitCount_0f7a4_10 rfl (lv_at hl 0 rfl) ?_
  refine lv_ldcw hx hb S.2.2.2.1 (S.2.2.2.2 (.constant RJ6 266 (858993459)) (by decide +kernel)) dJ6_bitCount_0f7a4_11 ?_
  refine lv_iand hx hb dJ6_bitCount_0f7a4_14 ?_
  refine lv_iload_n hx hb dJ6_bitCount_0f7a4_15 rfl (lv_at hl 0 rfl) ?_
  refine lv_iconst (v := 2) hx hb dJ6_bitCount_0f7a4_16 (by decide) ?_
  refine lv_iushr hx hb dJ6_bitCount_0f7a4_17 (v := ((a0 - (((a0.toUInt32 >>> ((1 : Int32).toUInt32 &&& Int32.toUInt32 31)).toInt32) &&& (1431655765 : Int32))).toUInt32 >>> ((2 : Int32).toUInt32 &&& Int32.toUInt32 31)).toInt32) rfl ?_
  refine lv_ldcw hx hb S.2.2.2.1 (S.2.2.2.2 (.constant RJ6 266 (858993459)) (by decide +kernel)) dJ6_bitCount_0f7a4_18 ?_
  refine lv_iand hx hb dJ6_bitCount_0f7a4_21 ?_
  refine lv_iadd hx hb dJ6_bitCount_0f7a4_22 ?_
  refine lv_istore_n (lv' := [(0, .int (((a0 - (((a0.toUInt32 >>> ((1 : Int32).toUInt32 &&& Int32.toUInt32 31)).toInt32) &&& (1431655765 : Int32))) &&& (858993459 : Int32)) + ((((a0 - (((a0.toUInt32 >>> ((1 : Int32).toUInt32 &&& Int32.toUInt32 31)).toInt32) &&& (1431655765 : Int32))).toUInt32 >>> ((2 : Int32).toUInt32 &&& Int32.toUInt32 31)).toInt32) &&& (858993459 : Int32))))]) hx hb dJ6_bitCount_0f7a4_23 rfl hl (by decide) rfl (fun ls hl => ?_)
  refine lv_iload_n hx hb dJ6_bitCount_0f7a4_24 rfl (lv_at hl 0 rfl) ?_
  refine lv_iload_n hx hb dJ6_bitCount_0f7a4_25 rfl (lv_at hl 0 rfl) ?_
  refine lv_iconst (v := 4) hx hb dJ6_bitCount_0f7a4_26 (by decide) ?_
  refine lv_iushr hx hb dJ6_bitCount_0f7a4_27 (v := ((((a0 - (((a0.toUInt32 >>> ((1 : Int32).toUInt32 &&& Int32.toUInt32 31)).toInt32) &&& (1431655765 : Int32))) &&& (858993459 : Int32)) + ((((a0 - (((a0.toUInt32 >>> ((1 : Int32).toUInt32 &&& Int32.toUInt32 31)).toInt32) &&& (1431655765 : Int32))).toUInt32 >>> ((2 : Int32).toUInt32 &&& Int32.toUInt32 31)).toInt32) &&& (858993459 : Int32))).toUInt32 >>> ((4 : Int32).toUInt32 &&& Int32.toUInt32 31)).toInt32) rfl ?_
  refine lv_iadd hx hb dJ6_bitCount_0f7a4_28 ?_
  refine lv_ldcw hx hb S.2.2.2.1 (S.2.2.2.2 (.constant RJ6 267 (252645135)) (by decide +kernel)) dJ6_bitCount_0f7a4_29 ?_
  refine lv_iand hx hb dJ6_bitCount_0f7a4_32 ?_
  refine lv_istore_n (lv' := [(0, .int (((((a0 - (((a0.toUInt32 >>> ((1 : Int32).toUInt32 &&& Int32.toUInt32 31)).toInt32) &&& (1431655765 : Int32))) &&& (858993459 : Int32)) + ((((a0 - (((a0.toUInt32 >>> ((1 : Int32).toUInt32 &&& Int32.toUInt32 31)).toInt32) &&& (1431655765 : Int32))).toUInt32 >>> ((2 : Int32).toUInt32 &&& Int32.toUInt32 31)).toInt32) &&& (858993459 : Int32))) + (((((a0 - (((a0.toUInt32 >>> ((1 : Int32).toUInt32 &&& Int32.toUInt32 31)).toInt32) &&& (1431655765 : Int32))) &&& (858993459 : Int32)) + ((((a0 - (((a0.toUInt32 >>> ((1 : Int32).toUInt32 &&& Int32.toUInt32 31)).toInt32) &&& (1431655765 : Int32))).toUInt32 >>> ((2 : Int32).toUInt32 &&& Int32.toUInt32 31)).toInt32) &&& (858993459 : Int32))).toUInt32 >>> ((4 : Int32).toUInt32 &&& Int32.toUInt32 31)).toInt32)) &&& (252645135 : Int32)))]) hx hb dJ6_bitCount_0f7a4_33 rfl hl (by decide) rfl (fun ls hl => ?_)
  refine lv_iload_n hx hb dJ6_bitCount_0f7a4_34 rfl (lv_at hl 0 rfl) ?_
  refine lv_iload_n hx hb dJ6_bitCount_0f7a4_35 rfl (lv_at hl 0 rfl) ?_
  refine lv_bipush (v := 8) hx hb dJ6_bitCount_0f7a4_36 (by decide) ?_
  refine lv_iushr hx hb dJ6_bitCount_0f7a4_38 (v := ((((((a0 - (((a0.toUInt32 >>> ((1 : Int32).toUInt32 &&& Int32.toUInt32 31)).toInt32) &&& (1431655765 : Int32))) &&& (858993459 : Int32)) + ((((a0 - (((a0.toUInt32 >>> ((1 : Int32).toUInt32 &&& Int32.toUInt32 31)).toInt32) &&& (1431655765 : Int32))).toUInt32 >>> ((2 : Int32).toUInt32 &&& Int32.toUInt32 31)).toInt32) &&& (858993459 : Int32))) + (((((a0 - (((a0.toUInt32 >>> ((1 : Int32).toUInt32 &&& Int32.toUInt32 31)).toInt32) &&& (1431655765 : Int32))) &&& (858993459 : Int32)) + ((((a0 - (((a0.toUInt32 >>> ((1 : Int32).toUInt32 &&& Int32.toUInt32 31)).toInt32) &&& (1431655765 : Int32))).toUInt32 >>> ((2 : Int32).toUInt32 &&& Int32.toUInt32 31)).toInt32) &&& (858993459 : Int32))).toUInt32 >>> ((4 : Int32).toUInt32 &&& Int32.toUInt32 31)).toInt32)) &&& (252645135 : Int32)).toUInt32 >>> ((8 : Int32).toUInt32 &&& Int32.toUInt32 31)).toInt32) rfl ?_
  refine lv_iadd hx hb dJ6_bitCount_0f7a4_39 ?_
  refine lv_istore_n (lv' := [(0, .int ((((((a0 - (((a0.toUInt32 >>> ((1 : Int32).toUInt32 &&& Int32.toUInt32 31)).toInt32) &&& (1431655765 : Int32))) &&& (858993459 : Int32)) + ((((a0 - (((a0.toUInt32 >>> ((1 : Int32).toUInt32 &&& Int32.toUInt32 31)).toInt32) &&& (1431655765 : Int32))).toUInt32 >>> ((2 : Int32).toUInt32 &&& Int32.toUInt32 31)).toInt32) &&& (858993459 : Int32))) + (((((a0 - (((a0.toUInt32 >>> ((1 : Int32).toUInt32 &&& Int32.toUInt32 31)).toInt32) &&& (1431655765 : Int32))) &&& (858993459 : Int32)) + ((((a0 - (((a0.toUInt32 >>> ((1 : Int32).toUInt32 &&& Int32.toUInt32 31)).toInt32) &&& (1431655765 : Int32))).toUInt32 >>> ((2 : Int32).toUInt32 &&& Int32.toUInt32 31)).toInt32) &&& (858993459 : Int32))).toUInt32 >>> ((4 : Int32).toUInt32 &&& Int32.toUInt32 31)).toInt32)) &&& (252645135 : Int32)) + (((((((a0 - (((a0.toUInt32 >>> ((1 : Int32).toUInt32 &&& Int32.toUInt32 31)).toInt32) &&& (1431655765 : Int32))) &&& (858993459 : Int32)) + ((((a0 - (((a0.toUInt32 >>> ((1 : Int32).toUInt32 &&& Int32.toUInt32 31)).toInt32) &&& (1431655765 : Int32))).toUInt32 >>> ((2 : Int32).toUInt32 &&& Int32.toUInt32 31)).toInt32) &&& (858993459 : Int32))) + (((((a0 - (((a0.toUInt32 >>> ((1 : Int32).toUInt32 &&& Int32.toUInt32 31)).toInt32) &&& (1431655765 : Int32))) &&& (858993459 : Int32)) + ((((a0 - (((a0.toUInt32 >>> ((1 : Int32).toUInt32 &&& Int32.toUInt32 31)).toInt32) &&& (1431655765 : Int32))).toUInt32 >>> ((2 : Int32).toUInt32 &&& Int32.toUInt32 31)).toInt32) &&& (858993459 : Int32))).toUInt32 >>> ((4 : Int32).toUInt32 &&& Int32.toUInt32 31)).toInt32)) &&& (252645135 : Int32)).toUInt32 >>> ((8 : Int32).toUInt32 &&& Int32.toUInt32 31)).toInt32)))]) hx hb dJ6_bitCount_0f7a4_40 rfl hl (by decide) rfl (fun ls hl => ?_)
  refine lv_iload_n hx hb dJ6_bitCount_0f7a4_41 rfl (lv_at hl 0 rfl) ?_
  refine lv_iload_n hx hb dJ6_bitCount_0f7a4_42 rfl (lv_at hl 0 rfl) ?_
  refine lv_bipush (v := 16) hx hb dJ6_bitCount_0f7a4_43 (by decide) ?_
  refine lv_iushr hx hb dJ6_bitCount_0f7a4_45 (v := (((((((a0 - (((a0.toUInt32 >>> ((1 : Int32).toUInt32 &&& Int32.toUInt32 31)).toInt32) &&& (1431655765 : Int32))) &&& (858993459 : Int32)) + ((((a0 - (((a0.toUInt32 >>> ((1 : Int32).toUInt32 &&& Int32.toUInt32 31)).toInt32) &&& (1431655765 : Int32))).toUInt32 >>> ((2 : Int32).toUInt32 &&& Int32.toUInt32 31)).toInt32) &&& (858993459 : Int32))) + (((((a0 - (((a0.toUInt32 >>> ((1 : Int32).toUInt32 &&& Int32.toUInt32 31)).toInt32) &&& (1431655765 : Int32))) &&& (858993459 : Int32)) + ((((a0 - (((a0.toUInt32 >>> ((1 : Int32).toUInt32 &&& Int32.toUInt32 31)).toInt32) &&& (1431655765 : Int32))).toUInt32 >>> ((2 : Int32).toUInt32 &&& Int32.toUInt32 31)).toInt32) &&& (858993459 : Int32))).toUInt32 >>> ((4 : Int32).toUInt32 &&& Int32.toUInt32 31)).toInt32)) &&& (252645135 : Int32)) + (((((((a0 - (((a0.toUInt32 >>> ((1 : Int32).toUInt32 &&& Int32.toUInt32 31)).toInt32) &&& (1431655765 : Int32))) &&& (858993459 : Int32)) + ((((a0 - (((a0.toUInt32 >>> ((1 : Int32).toUInt32 &&& Int32.toUInt32 31)).toInt32) &&& (1431655765 : Int32))).toUInt32 >>> ((2 : Int32).toUInt32 &&& Int32.toUInt32 31)).toInt32) &&& (858993459 : Int32))) + (((((a0 - (((a0.toUInt32 >>> ((1 : Int32).toUInt32 &&& Int32.toUInt32 31)).toInt32) &&& (1431655765 : Int32))) &&& (858993459 : Int32)) + ((((a0 - (((a0.toUInt32 >>> ((1 : Int32).toUInt32 &&& Int32.toUInt32 31)).toInt32) &&& (1431655765 : Int32))).toUInt32 >>> ((2 : Int32).toUInt32 &&& Int32.toUInt32 31)).toInt32) &&& (858993459 : Int32))).toUInt32 >>> ((4 : Int32).toUInt32 &&& Int32.toUInt32 31)).toInt32)) &&& (252645135 : Int32)).toUInt32 >>> ((8 : Int32).toUInt32 &&& Int32.toUInt32 31)).toInt32)).toUInt32 >>> ((16 : Int32).toUInt32 &&& Int32.toUInt32 31)).toInt32) rfl ?_
  refine lv_iadd hx hb dJ6_bitCount_0f7a4_46 ?_
  refine lv_istore_n (lv' := [(0, .int (((((((a0 - (((a0.toUInt32 >>> ((1 : Int32).toUInt32 &&& Int32.toUInt32 31)).toInt32) &&& (1431655765 : Int32))) &&& (858993459 : Int32)) + ((((a0 - (((a0.toUInt32 >>> ((1 : Int32).toUInt32 &&& Int32.toUInt32 31)).toInt32) &&& (1431655765 : Int32))).toUInt32 >>> ((2 : Int32).toUInt32 &&& Int32.toUInt32 31)).toInt32) &&& (858993459 : Int32))) + (((((a0 - (((a0.toUInt32 >>> ((1 : Int32).toUInt32 &&& Int32.toUInt32 31)).toInt32) &&& (1431655765 : Int32))) &&& (858993459 : Int32)) + ((((a0 - (((a0.toUInt32 >>> ((1 : Int32).toUInt32 &&& Int32.toUInt32 31)).toInt32) &&& (1431655765 : Int32))).toUInt32 >>> ((2 : Int32).toUInt32 &&& Int32.toUInt32 31)).toInt32) &&& (858993459 : Int32))).toUInt32 >>> ((4 : Int32).toUInt32 &&& Int32.toUInt32 31)).toInt32)) &&& (252645135 : Int32)) + (((((((a0 - (((a0.toUInt32 >>> ((1 : Int32).toUInt32 &&& Int32.toUInt32 31)).toInt32) &&& (1431655765 : Int32))) &&& (858993459 : Int32)) + ((((a0 - (((a0.toUInt32 >>> ((1 : Int32).toUInt32 &&& Int32.toUInt32 31)).toInt32) &&& (1431655765 : Int32))).toUInt32 >>> ((2 : Int32).toUInt32 &&& Int32.toUInt32 31)).toInt32) &&& (858993459 : Int32))) + (((((a0 - (((a0.toUInt32 >>> ((1 : Int32).toUInt32 &&& Int32.toUInt32 31)).toInt32) &&& (1431655765 : Int32))) &&& (858993459 : Int32)) + ((((a0 - (((a0.toUInt32 >>> ((1 : Int32).toUInt32 &&& Int32.toUInt32 31)).toInt32) &&& (1431655765 : Int32))).toUInt32 >>> ((2 : Int32).toUInt32 &&& Int32.toUInt32 31)).toInt32) &&& (858993459 : Int32))).toUInt32 >>> ((4 : Int32).toUInt32 &&& Int32.toUInt32 31)).toInt32)) &&& (252645135 : Int32)).toUInt32 >>> ((8 : Int32).toUInt32 &&& Int32.toUInt32 31)).toInt32)) + ((((((((a0 - (((a0.toUInt32 >>> ((1 : Int32).toUInt32 &&& Int32.toUInt32 31)).toInt32) &&& (1431655765 : Int32))) &&& (858993459 : Int32)) + ((((a0 - (((a0.toUInt32 >>> ((1 : Int32).toUInt32 &&& Int32.toUInt32 31)).toInt32) &&& (1431655765 : Int32))).toUInt32 >>> ((2 : Int32).toUInt32 &&& Int32.toUInt32 31)).toInt32) &&& (858993459 : Int32))) + (((((a0 - (((a0.toUInt32 >>> ((1 : Int32).toUInt32 &&& Int32.toUInt32 31)).toInt32) &&& (1431655765 : Int32))) &&& (858993459 : Int32)) + ((((a0 - (((a0.toUInt32 >>> ((1 : Int32).toUInt32 &&& Int32.toUInt32 31)).toInt32) &&& (1431655765 : Int32))).toUInt32 >>> ((2 : Int32).toUInt32 &&& Int32.toUInt32 31)).toInt32) &&& (858993459 : Int32))).toUInt32 >>> ((4 : Int32).toUInt32 &&& Int32.toUInt32 31)).toInt32)) &&& (252645135 : Int32)) + (((((((a0 - (((a0.toUInt32 >>> ((1 : Int32).toUInt32 &&& Int32.toUInt32 31)).toInt32) &&& (1431655765 : Int32))) &&& (858993459 : Int32)) + ((((a0 - (((a0.toUInt32 >>> ((1 : Int32).toUInt32 &&& Int32.toUInt32 31)).toInt32) &&& (1431655765 : Int32))).toUInt32 >>> ((2 : Int32).toUInt32 &&& Int32.toUInt32 31)).toInt32) &&& (858993459 : Int32))) + (((((a0 - (((a0.toUInt32 >>> ((1 : Int32).toUInt32 &&& Int32.toUInt32 31)).toInt32) &&& (1431655765 : Int32))) &&& (858993459 : Int32)) + ((((a0 - (((a0.toUInt32 >>> ((1 : Int32).toUInt32 &&& Int32.toUInt32 31)).toInt32) &&& (1431655765 : Int32))).toUInt32 >>> ((2 : Int32).toUInt32 &&& Int32.toUInt32 31)).toInt32) &&& (858993459 : Int32))).toUInt32 >>> ((4 : Int32).toUInt32 &&& Int32.toUInt32 31)).toInt32)) &&& (252645135 : Int32)).toUInt32 >>> ((8 : Int32).toUInt32 &&& Int32.toUInt32 31)).toInt32)).toUInt32 >>> ((16 : Int32).toUInt32 &&& Int32.toUInt32 31)).toInt32)))]) hx hb dJ6_bitCount_0f7a4_47 rfl hl (by decide) rfl (fun ls hl => ?_)
  refine lv_iload_n hx hb dJ6_bitCount_0f7a4_48 rfl (lv_at hl 0 rfl) ?_
  refine lv_bipush (v := 63) hx hb dJ6_bitCount_0f7a4_49 (by decide) ?_
  refine lv_iand hx hb dJ6_bitCount_0f7a4_51 ?_
  exact fin dJ6_bitCount_0f7a4_52 (s0 hf) rfl hP hS
/-! X2_with -/
abbrev rm_X2_with : Room := { frames := 0, cells := 0, slots := 0, locals := 0 }
set_option maxHeartbeats 4000000 in
set_option maxRecDepth 100000 in
theorem K_X2_with (l : Launch) {E : En} (hE : Inj E) (X : Wd) (a0 : Int32) (a1 : Int32) (a2 : Int32) {r : Int32} (hf : f_X2_with a0 a1 a2 = some r) : Cti l E yX2_with wsX2_with rm_X2_with [.int a0, .int a1, .int a2] X r X := by
  refine meet_i (cc := cX2_with) (maxL := 3) (own := RX2) (by decide) rfl rfl (Nat.le_of_ble_eq_true rfl) ?_
  intro p e s m below meth c Z S hB fin hP hS ls hl
  have hx := S.1
  have hb := S.2.1
  have hl : lv_has ls 3 [(0, .int a0), (1, .int a1), (2, .int a2)] := hl
  unfold f_X2_with at hf
  refine lv_iload_n hx hb dX2_with_0 rfl (lv_at hl 2 rfl) ?_
  refine lv_iconst (v := 1) hx hb dX2_with_1 (by decide) ?_
  refine lv_icmp_ne (tgt := 13) hx hb dX2_with_2 (by decide) (fun c1 => ?_) (fun c1 => ?_)
  · have hf := if_f c1 hf
    refine lv_iload_n hx hb dX2_with_13 rfl (lv_at hl 0 rfl) ?_
    refine lv_iconst (v := 1) hx hb dX2_with_14 (by decide) ?_
    refine lv_iload_n hx hb dX2_with_15 rfl (lv_at hl 1 rfl) ?_
    refine lv_ishl hx hb dX2_with_16 ?_
    refine lv_iconst (v := -1) hx hb dX2_with_17 (by decide) ?_
    refine lv_ixor hx hb dX2_with_18 ?_
    refine lv_iand hx hb dX2_with_19 ?_
    exact fin dX2_with_20 (s0 hf) rfl hP hS
  · have hf := if_t c1 hf
    refine lv_iload_n hx hb dX2_with_5 rfl (lv_at hl 0 rfl) ?_
    refine lv_iconst (v := 1) hx hb dX2_with_6 (by decide) ?_
    refine lv_iload_n hx hb dX2_with_7 rfl (lv_at hl 1 rfl) ?_
    refine lv_ishl hx hb dX2_with_8 ?_
    refine lv_ior hx hb dX2_with_9 ?_
    refine lv_goto (tgt := 20) hx hb dX2_with_10 (by decide) ?_
    exact fin dX2_with_20 (s0 hf) rfl hP hS
/-! X2_beside -/
abbrev rm_X2_beside : Room := { frames := 0, cells := 0, slots := 0, locals := 0 }
set_option maxHeartbeats 4000000 in
set_option maxRecDepth 100000 in
theorem K_X2_beside (l : Launch) {E : En} (hE : Inj E) (X : Wd) (a0 : Int32) (a1 : Int32) {r : Int32} (hf : f_X2_beside a0 a1 = some r) : Cti l E yX2_beside wsX2_beside rm_X2_beside [.int a0, .int a1] X r X := by
  refine meet_i (cc := cX2_beside) (maxL := 5) (own := RX2) (by decide) rfl rfl (Nat.le_of_ble_eq_true rfl) ?_
  intro p e s m below meth c Z S hB fin hP hS ls hl
  have hx := S.1
  have hb := S.2.1
  have hl : lv_has ls 5 [(0, .int a0), (1, .int a1)] := hl
  unfold f_X2_beside at hf
  refine lv_iload_n hx hb dX2_beside_0 rfl (lv_at hl 0 rfl) ?_
  refine lv_bipush (v := 7) hx hb dX2_beside_1 (by decide) ?_
  refine lv_iand hx hb dX2_beside_3 ?_
  refine lv_iload_n hx hb dX2_beside_4 rfl (lv_at hl 0 rfl) ?_
  refine lv_bipush (v := 56) hx hb dX2_beside_5 (by decide) ?_
  refine lv_iand hx hb dX2_beside_7 ?_
  refine lv_iconst (v := 1) hx hb dX2_beside_8 (by decide) ?_
  refine lv_ishl hx hb dX2_beside_9 ?_
  refine lv_ior hx hb dX2_beside_10 ?_
  refine lv_iload_n hx hb dX2_beside_11 rfl (lv_at hl 0 rfl) ?_
  refine lv_sipush (v := 448) hx hb dX2_beside_12 (by decide) ?_
  refine lv_iand hx hb dX2_beside_15 ?_
  refine lv_iconst (v := 2) hx hb dX2_beside_16 (by decide) ?_
  refine lv_ishl hx hb dX2_beside_17 ?_
  refine lv_ior hx hb dX2_beside_18 ?_
  refine lv_iload_n hx hb dX2_beside_19 rfl (lv_at hl 0 rfl) ?_
  refine lv_sipush (v := 3584) hx hb dX2_beside_20 (by decide) ?_
  refine lv_iand hx hb dX2_beside_23 ?_
  refine lv_iconst (v := 3) hx hb dX2_beside_24 (by decide) ?_
  refine lv_ishl hx hb dX2_beside_25 ?_
  refine lv_ior hx hb dX2_beside_26 ?_
  refine lv_istore_n (lv' := [(2, .int ((((a0 &&& (7 : Int32)) ||| ((a0 &&& (56 : Int32)) <<< ((1 : Int32) &&& 31))) ||| ((a0 &&& (448 : Int32)) <<< ((2 : Int32) &&& 31))) ||| ((a0 &&& (3584 : Int32)) <<< ((3 : Int32) &&& 31)))), (0, .int a0), (1, .int a1)]) hx hb dX2_beside_27 rfl hl (by decide) rfl (fun ls hl => ?_)
  refine lv_iload_n hx hb dX2_beside_28 rfl (lv_at hl 0 rfl) ?_
  refine lv_iconst (v := -1) hx hb dX2_beside_29 (by decide) ?_
  refine lv_ixor hx hb dX2_beside_30 ?_
  refine lv_sipush (v := 30583) hx hb dX2_beside_31 (by decide) ?_
  refine lv_iand hx hb dX2_beside_34 ?_
  refine lv_istore_n (lv' := [(3, .int ((((((a0 &&& (7 : Int32)) ||| ((a0 &&& (56 : Int32)) <<< ((1 : Int32) &&& 31))) ||| ((a0 &&& (448 : Int32)) <<< ((2 : Int32) &&& 31))) ||| ((a0 &&& (3584 : Int32)) <<< ((3 : Int32) &&& 31))) ^^^ (-1 : Int32)) &&& (30583 : Int32))), (2, .int ((((a0 &&& (7 : Int32)) ||| ((a0 &&& (56 : Int32)) <<< ((1 : Int32) &&& 31))) ||| ((a0 &&& (448 : Int32)) <<< ((2 : Int32) &&& 31))) ||| ((a0 &&& (3584 : Int32)) <<< ((3 : Int32) &&& 31)))), (0, .int a0), (1, .int a1)]) hx hb dX2_beside_35 rfl hl (by decide) rfl (fun ls hl => ?_)
  refine lv_iload_n hx hb dX2_beside_36 rfl (lv_at hl 2 rfl) ?_
  refine lv_bipush (v := 12) hx hb dX2_beside_37 (by decide) ?_
  refine lv_ishr hx hb dX2_beside_39 ?_
  refine lv_iconst (v := -1) hx hb dX2_beside_40 (by decide) ?_
  refine lv_ixor hx hb dX2_beside_41 ?_
  refine lv_sipush (v := 4095) hx hb dX2_beside_42 (by decide) ?_
  refine lv_iand hx hb dX2_beside_45 ?_
  refine lv_istore (lv' := [(4, .int (((a0 >>> ((12 : Int32) &&& 31)) ^^^ (-1 : Int32)) &&& (4095 : Int32))), (3, .int ((((((a0 &&& (7 : Int32)) ||| ((a0 &&& (56 : Int32)) <<< ((1 : Int32) &&& 31))) ||| ((a0 &&& (448 : Int32)) <<< ((2 : Int32) &&& 31))) ||| ((a0 &&& (3584 : Int32)) <<< ((3 : Int32) &&& 31))) ^^^ (-1 : Int32)) &&& (30583 : Int32))), (2, .int ((((a0 &&& (7 : Int32)) ||| ((a0 &&& (56 : Int32)) <<< ((1 : Int32) &&& 31))) ||| ((a0 &&& (448 : Int32)) <<< ((2 : Int32) &&& 31))) ||| ((a0 &&& (3584 : Int32)) <<< ((3 : Int32) &&& 31)))), (0, .int a0), (1, .int a1)]) hx hb dX2_beside_46 hl (by decide) rfl (fun ls hl => ?_)
  refine lv_iload_n hx hb dX2_beside_48 rfl (lv_at hl 4 rfl) ?_
  refine lv_iload_n hx hb dX2_beside_49 rfl (lv_at hl 1 rfl) ?_
  refine lv_iand hx hb dX2_beside_50 ?_
  refine lv_iconst (v := 1) hx hb dX2_beside_51 (by decide) ?_
  refine lv_ishl hx hb dX2_beside_52 ?_
  refine lv_iload_n hx hb dX2_beside_53 rfl (lv_at hl 4 rfl) ?_
  refine lv_iconst (v := 1) hx hb dX2_beside_54 (by decide) ?_
  refine lv_ishr hx hb dX2_beside_55 ?_
  refine lv_iload_n hx hb dX2_beside_56 rfl (lv_at hl 1 rfl) ?_
  refine lv_iand hx hb dX2_beside_57 ?_
  refine lv_ior hx hb dX2_beside_58 ?_
  refine lv_iload_n hx hb dX2_beside_59 rfl (lv_at hl 4 rfl) ?_
  refine lv_iload hx hb dX2_beside_60 (lv_at hl 0 rfl) ?_
  refine lv_iand hx hb dX2_beside_62 ?_
  refine lv_iconst (v := 4) hx hb dX2_beside_63 (by decide) ?_
  refine lv_ishl hx hb dX2_beside_64 ?_
  refine lv_ior hx hb dX2_beside_65 ?_
  refine lv_iload_n hx hb dX2_beside_66 rfl (lv_at hl 4 rfl) ?_
  refine lv_iconst (v := 4) hx hb dX2_beside_67 (by decide) ?_
  refine lv_ishr hx hb dX2_beside_68 ?_
  refine lv_iload hx hb dX2_beside_69 (lv_at hl 0 rfl) ?_
  refine lv_iand hx hb dX2_beside_71 ?_
  refine lv_ior hx hb dX2_beside_72 ?_
  exact fin dX2_beside_73 (s0 hf) rfl hP hS
/-! J6_numberOfTrailingZeros_0f7a4 -/
abbrev rm_J6_numberOfTrailingZeros_0f7a4 : Room := { frames := 0, cells := 0, slots := 0, locals := 0 }
set_option maxHeartbeats 4000000 in
set_option maxRecDepth 100000 in
theorem K_J6_numberOfTrailingZeros_0f7a4 (l : Launch) {E : En} (hE : Inj E) (X : Wd) (a0 : Int32) {r : Int32} (hf : f_J6_numberOfTrailingZeros_0f7a4 a0 = some r) : Cti l E yJ6_numberOfTrailingZeros_0f7a4 wsJ6_numberOfTrailingZeros_0f7a4 rm_J6_numberOfTrailingZeros_0f7a4 [.int a0] X r X := by
  refine meet_i (cc := cJ6_numberOfTrailingZeros_0f7a4) (maxL := 2) (own := RJ6) (by decide) rfl rfl (Nat.le_of_ble_eq_true rfl) ?_
  intro p e s m below meth c Z S hB fin hP hS ls hl
  have hx := S.1
  have hb := S.2.1
  have hl : lv_has ls 2 [(0, .int a0)] := hl
  have hB62 : ∀ (x0 : Int32) (x1 : Int32) (H : Heap) (locs : List Loc) (ls : Array Slot), f_J6_numberOfTrailingZeros_0f7a4_b62 x0 x1 = some r → va_P E.1 vwCl (GW E X) H → va_S (GA E) s.heap H locs → lv_has ls 2 [(0, .int x0), (1, .int x1)] → W p l e rm_J6_numberOfTrailingZeros_0f7a4 s m ([.int a0] : List Value).toArray below meth c H locs 0 0 Z (F0 m 62 ls []) := by
    intro x0 x1 H locs ls hf hP hS hl
    unfold f_J6_numberOfTrailingZeros_0f7a4_b62 at hf
    refine lv_iload_n hx hb dJ6_numberOfTrailingZeros_0f7a4_62 rfl (lv_at hl 0 rfl) ?_
    refine lv_iconst (v := 4) hx hb dJ6_numberOfTrailingZeros_0f7a4_63 (by decide) ?_
    refine lv_icmp_le (tgt := 74) hx hb dJ6_numberOfTrailingZeros_0f7a4_64 (by decide) (fun c3 => ?_) (fun c3 => ?_)
    · have hf := if_t c3 hf
      refine lv_iload_n hx hb dJ6_numberOfTrailingZeros_0f7a4_74 rfl (lv_at hl 1 rfl) ?_
      refine lv_iload_n hx hb dJ6_numberOfTrailingZeros_0f7a4_75 rfl (lv_at hl 0 rfl) ?_
      refine lv_iconst (v := 1) hx hb dJ6_numberOfTrailingZeros_0f7a4_76 (by decide) ?_
      refine lv_iushr hx hb dJ6_numberOfTrailingZeros_0f7a4_77 (v := (x0.toUInt32 >>> ((1 : Int32).toUInt32 &&& Int32.toUInt32 31)).toInt32) rfl ?_
      refine lv_iadd hx hb dJ6_numberOfTrailingZeros_0f7a4_78 ?_
      exact fin dJ6_numberOfTrailingZeros_0f7a4_79 (s0 hf) rfl hP hS
    · have hf := if_f c3 hf
      refine lv_iinc (v := x1 + (2 : Int32)) (lv' := [(1, .int (x1 + (2 : Int32))), (0, .int x0)]) hx hb dJ6_numberOfTrailingZeros_0f7a4_67 hl (k := 1) rfl rfl (by decide) rfl (fun ls hl => ?_)
      refine lv_iload_n hx hb dJ6_numberOfTrailingZeros_0f7a4_70 rfl (lv_at hl 1 rfl) ?_
      refine lv_iconst (v := 2) hx hb dJ6_numberOfTrailingZeros_0f7a4_71 (by decide) ?_
      refine lv_iushr hx hb dJ6_numberOfTrailingZeros_0f7a4_72 (v := (x0.toUInt32 >>> ((2 : Int32).toUInt32 &&& Int32.toUInt32 31)).toInt32) rfl ?_
      refine lv_istore_n (lv' := [(0, .int ((x0.toUInt32 >>> ((2 : Int32).toUInt32 &&& Int32.toUInt32 31)).toInt32)), (1, .int (x1 + (2 : Int32)))]) hx hb dJ6_numberOfTrailingZeros_0f7a4_73 rfl hl (by decide) rfl (fun ls hl => ?_)
      refine lv_iload_n hx hb dJ6_numberOfTrailingZeros_0f7a4_74 rfl (lv_at hl 1 rfl) ?_
      refine lv_iload_n hx hb dJ6_numberOfTrailingZeros_0f7a4_75 rfl (lv_at hl 0 rfl) ?_
      refine lv_iconst (v := 1) hx hb dJ6_numberOfTrailingZeros_0f7a4_76 (by decide) ?_
      refine lv_iushr hx hb dJ6_numberOfTrailingZeros_0f7a4_77 (v := (((x0.toUInt32 >>> ((2 : Int32).toUInt32 &&& Int32.toUInt32 31)).toInt32).toUInt32 >>> ((1 : Int32).toUInt32 &&& Int32.toUInt32 31)).toInt32) rfl ?_
      refine lv_iadd hx hb dJ6_numberOfTrailingZeros_0f7a4_78 ?_
      exact fin dJ6_numberOfTrailingZeros_0f7a4_79 (s0 hf) rfl hP hS
  have hB49 : ∀ (x0 : Int32) (x1 : Int32) (H : Heap) (locs : List Loc) (ls : Array Slot), f_J6_numberOfTrailingZeros_0f7a4_b49 x0 x1 = some r → va_P E.1 vwCl (GW E X) H → va_S (GA E) s.heap H locs → lv_has ls 2 [(0, .int x0), (1, .int x1)] → W p l e rm_J6_numberOfTrailingZeros_0f7a4 s m ([.int a0] : List Value).toArray below meth c H locs 0 0 Z (F0 m 49 ls []) := by
    intro x0 x1 H locs ls hf hP hS hl
    unfold f_J6_numberOfTrailingZeros_0f7a4_b49 at hf
    refine lv_iload_n hx hb dJ6_numberOfTrailingZeros_0f7a4_49 rfl (lv_at hl 0 rfl) ?_
    refine lv_bipush (v := 16) hx hb dJ6_numberOfTrailingZeros_0f7a4_50 (by decide) ?_
    refine lv_icmp_le (tgt := 62) hx hb dJ6_numberOfTrailingZeros_0f7a4_52 (by decide) (fun c4 => ?_) (fun c4 => ?_)
    · have hf := if_t c4 hf
      exact hB62 x0 x1 _ _ _ hf hP hS (lv_sub hl [0, 1] rfl)
    · have hf := if_f c4 hf
      refine lv_iinc (v := x1 + (4 : Int32)) (lv' := [(1, .int (x1 + (4 : Int32))), (0, .int x0)]) hx hb dJ6_numberOfTrailingZeros_0f7a4_55 hl (k := 1) rfl rfl (by decide) rfl (fun ls hl => ?_)
      refine lv_iload_n hx hb dJ6_numberOfTrailingZeros_0f7a4_58 rfl (lv_at hl 1 rfl) ?_
      refine lv_iconst (v := 4) hx hb dJ6_numberOfTrailingZeros_0f7a4_59 (by decide) ?_
      refine lv_iushr hx hb dJ6_numberOfTrailingZeros_0f7a4_60 (v := (x0.toUInt32 >>> ((4 : Int32).toUInt32 &&& Int32.toUInt32 31)).toInt32) rfl ?_
      refine lv_istore_n (lv' := [(0, .int ((x0.toUInt32 >>> ((4 : Int32).toUInt32 &&& Int32.toUInt32 31)).toInt32)), (1, .int (x1 + (4 : Int32)))]) hx hb dJ6_numberOfTrailingZeros_0f7a4_61 rfl hl (by decide) rfl (fun ls hl => ?_)
      exact hB62 ((x0.toUInt32 >>> ((4 : Int32).toUInt32 &&& Int32.toUInt32 31)).toInt32) (x1 + (4 : Int32)) _ _ _ hf hP hS (lv_sub hl [0, 1] rfl)
  have hB34 : ∀ (x0 : Int32) (x1 : Int32) (H : Heap) (locs : List Loc) (ls : Array Slot), f_J6_numberOfTrailingZeros_0f7a4_b34 x0 x1 = some r → va_P E.1 vwCl (GW E X) H → va_S (GA E) s.heap H locs → lv_has ls 2 [(0, .int x0), (1, .int x1)] → W p l e rm_J6_numberOfTrailingZeros_0f7a4 s m ([.int a0] : List Value).toArray below meth c H locs 0 0 Z (F0 m 34 ls []) := by
    intro x0 x1 H locs ls hf hP hS hl
    unfold f_J6_numberOfTrailingZeros_0f7a4_b34 at hf
    refine lv_iload_n hx hb dJ6_numberOfTrailingZeros_0f7a4_34 rfl (lv_at hl 0 rfl) ?_
    refine lv_sipush (v := 256) hx hb dJ6_numberOfTrailingZeros_0f7a4_35 (by decide) ?_
    refine lv_icmp_le (tgt := 49) hx hb dJ6_numberOfTrailingZeros_0f7a4_38 (by decide) (fun c5 => ?_) (fun c5 => ?_)
    · have hf := if_t c5 hf
      exact hB49 x0 x1 _ _ _ hf hP hS (lv_sub hl [0, 1] rfl)
    · have hf := if_f c5 hf
      refine lv_iinc (v := x1 + (8 : Int32)) (lv' := [(1, .int (x1 + (8 : Int32))), (0, .int x0)]) hx hb dJ6_numberOfTrailingZeros_0f7a4_41 hl (k := 1) rfl rfl (by decide) rfl (fun ls hl => ?_)
      refine lv_iload_n hx hb dJ6_numberOfTrailingZeros_0f7a4_44 rfl (lv_at hl 1 rfl) ?_
      refine lv_bipush (v := 8) hx hb dJ6_numberOfTrailingZeros_0f7a4_45 (by decide) ?_
      refine lv_iushr hx hb dJ6_numberOfTrailingZeros_0f7a4_47 (v := (x0.toUInt32 >>> ((8 : Int32).toUInt32 &&& Int32.toUInt32 31)).toInt32) rfl ?_
      refine lv_istore_n (lv' := [(0, .int ((x0.toUInt32 >>> ((8 : Int32).toUInt32 &&& Int32.toUInt32 31)).toInt32)), (1, .int (x1 + (8 : Int32)))]) hx hb dJ6_numberOfTrailingZeros_0f7a4_48 rfl hl (by decide) rfl (fun ls hl => ?_)
      exact hB49 ((x0.toUInt32 >>> ((8 : Int32).toUInt32 &&& Int32.toUInt32 31)).toInt32) (x1 + (8 : Int32)) _ _ _ hf hP hS (lv_sub hl [0, 1] rfl)
  unfold f_J6_numberOfTrailingZeros_0f7a4 at hf
  refine lv_iload_n hx hb dJ6_numberOfTrailingZeros_0f7a4_0 rfl (lv_at hl 0 rfl) ?_
  refine lv_iconst (v := -1) hx hb dJ6_numberOfTrailingZeros_0f7a4_1 (by decide) ?_
  refine lv_ixor hx hb dJ6_numberOfTrailingZeros_0f7a4_2 ?_
  refine lv_iload_n hx hb dJ6_numberOfTrailingZeros_0f7a4_3 rfl (lv_at hl 0 rfl) ?_
  refine lv_iconst (v := 1) hx hb dJ6_numberOfTrailingZeros_0f7a4_4 (by decide) ?_
  refine lv_isub hx hb dJ6_numberOfTrailingZeros_0f7a4_5 ?_
  refine lv_iand hx hb dJ6_numberOfTrailingZeros_0f7a4_6 ?_
  refine lv_istore_n (lv' := [(0, .int ((a0 ^^^ (-1 : Int32)) &&& (a0 - (1 : Int32))))]) hx hb dJ6_numberOfTrailingZeros_0f7a4_7 rfl hl (by decide) rfl (fun ls hl => ?_)
  refine lv_iload_n hx hb dJ6_numberOfTrailingZeros_0f7a4_8 rfl (lv_at hl 0 rfl) ?_
  refine lv_if_gt (tgt := 17) hx hb dJ6_numberOfTrailingZeros_0f7a4_9 (by decide) (fun c1 => ?_) (fun c1 => ?_)
  · have hf := if_t c1 hf
    refine lv_iconst (v := 1) hx hb dJ6_numberOfTrailingZeros_0f7a4_17 (by decide) ?_
    refine lv_istore_n (lv' := [(1, .int (1 : Int32)), (0, .int ((a0 ^^^ (-1 : Int32)) &&& (a0 - (1 : Int32))))]) hx hb dJ6_numberOfTrailingZeros_0f7a4_18 rfl hl (by decide) rfl (fun ls hl => ?_)
    refine lv_iload_n hx hb dJ6_numberOfTrailingZeros_0f7a4_19 rfl (lv_at hl 1 rfl) ?_
    refine lv_ldcw hx hb S.2.2.2.1 (S.2.2.2.2 (.constant RJ6 264 (65536)) (by decide +kernel)) dJ6_numberOfTrailingZeros_0f7a4_20 ?_
    refine lv_icmp_le (tgt := 34) hx hb dJ6_numberOfTrailingZeros_0f7a4_23 (by decide) (fun c2 => ?_) (fun c2 => ?_)
    · have hf := if_t c2 hf
      exact hB34 ((a0 ^^^ (-1 : Int32)) &&& (a0 - (1 : Int32))) (1 : Int32) _ _ _ hf hP hS (lv_sub hl [1, 0] rfl)
    · have hf := if_f c2 hf
      refine lv_iinc (v := (1 : Int32) + (16 : Int32)) (lv' := [(1, .int ((1 : Int32) + (16 : Int32))), (0, .int ((a0 ^^^ (-1 : Int32)) &&& (a0 - (1 : Int32))))]) hx hb dJ6_numberOfTrailingZeros_0f7a4_26 hl (k := 0) rfl rfl (by decide) rfl (fun ls hl => ?_)
      refine lv_iload_n hx hb dJ6_numberOfTrailingZeros_0f7a4_29 rfl (lv_at hl 1 rfl) ?_
      refine lv_bipush (v := 16) hx hb dJ6_numberOfTrailingZeros_0f7a4_30 (by decide) ?_
      refine lv_iushr hx hb dJ6_numberOfTrailingZeros_0f7a4_32 (v := (((a0 ^^^ (-1 : Int32)) &&& (a0 - (1 : Int32))).toUInt32 >>> ((16 : Int32).toUInt32 &&& Int32.toUInt32 31)).toInt32) rfl ?_
      refine lv_istore_n (lv' := [(0, .int ((((a0 ^^^ (-1 : Int32)) &&& (a0 - (1 : Int32))).toUInt32 >>> ((16 : Int32).toUInt32 &&& Int32.toUInt32 31)).toInt32)), (1, .int ((1 : Int32) + (16 : Int32)))]) hx hb dJ6_numberOfTrailingZeros_0f7a4_33 rfl hl (by decide) rfl (fun ls hl => ?_)
      exact hB34 ((((a0 ^^^ (-1 : Int32)) &&& (a0 - (1 : Int32))).toUInt32 >>> ((16 : Int32).toUInt32 &&& Int32.toUInt32 31)).toInt32) ((1 : Int32) + (16 : Int32)) _ _ _ hf hP hS (lv_sub hl [0, 1] rfl)
  · have hf := if_f c1 hf
    refine lv_iload_n hx hb dJ6_numberOfTrailingZeros_0f7a4_12 rfl (lv_at hl 0 rfl) ?_
    refine lv_bipush (v := 32) hx hb dJ6_numberOfTrailingZeros_0f7a4_13 (by decide) ?_
    refine lv_iand hx hb dJ6_numberOfTrailingZeros_0f7a4_15 ?_
    exact fin dJ6_numberOfTrailingZeros_0f7a4_16 (s0 hf) rfl hP hS
/-! X2_toward -/
abbrev rm_X2_toward : Room := { frames := 1, cells := 0, slots := 0, locals := 24 }
set_option maxHeartbeats 4000000 in
set_option maxRecDepth 100000 in
theorem K_X2_toward (l : Launch) {E : En} (hE : Inj E) (X : Wd) (a0 : Int32) (a1 : Int32) (a2 : Int32) {r : Int32} (hf : f_X2_toward a0 a1 a2 = some r) : Cti l E yX2_toward wsX2_toward rm_X2_toward [.int a0, .int a1, .int a2] X r X := by
  refine meet_i (cc := cX2_toward) (maxL := 7) (own := RX2) (by decide) rfl rfl (Nat.le_of_ble_eq_true rfl) ?_
  intro p e s m below meth c Z S hB fin hP hS ls hl
  have hx := S.1
  have hb := S.2.1
  have hl : lv_has ls 7 [(0, .int a0), (1, .int a1), (2, .int a2)] := hl
  have hL7 : ∀ (n7 : Nat) (x0 : Int32) (x1 : Int32) (x3 : Int32) (x4 : Int32) (H : Heap) (locs : List Loc) (ls : Array Slot), f_X2_toward_l7 n7 x0 x1 x3 x4 = some r → va_P E.1 vwCl (GW E X) H → va_S (GA E) s.heap H locs → lv_has ls 7 [(0, .int x0), (1, .int x1), (3, .int x3), (4, .int x4)] → W p l e rm_X2_toward s m ([.int a0, .int a1, .int a2] : List Value).toArray below meth c H locs 0 0 Z (F0 m 7 ls []) := by
    intro n7
    induction n7 with
    | zero =>
      intro x0 x1 x3 x4 H locs ls hf
      cases (show (none : Option _) = some _ from hf)
    | succ n7 ih7 =>
      intro x0 x1 x3 x4 H locs ls hf hP hS hl
      unfold f_X2_toward_l7 at hf
      refine lv_iload hx hb dX2_toward_7 (lv_at hl 3 rfl) ?_
      refine lv_bipush (v := 16) hx hb dX2_toward_9 (by decide) ?_
      refine lv_icmp_ge (tgt := 70) hx hb dX2_toward_11 (by decide) (fun c1 => ?_) (fun c1 => ?_)
      · have hf := if_t c1 hf
        refine lv_iload_n hx hb dX2_toward_70 rfl (lv_at hl 1 rfl) ?_
        exact fin dX2_toward_71 (s0 hf) rfl hP hS
      · have hf := if_f c1 hf
        refine lv_iload_n hx hb dX2_toward_14 rfl (lv_at hl 2 rfl) ?_
        refine lv_iconst (v := 1) hx hb dX2_toward_15 (by decide) ?_
        refine lv_iload_n hx hb dX2_toward_16 rfl (lv_at hl 1 rfl) ?_
        refine lv_ishl hx hb dX2_toward_17 ?_
        refine lv_iand hx hb dX2_toward_18 ?_
        refine lv_if_ne (tgt := 70) hx hb dX2_toward_19 (by decide) (fun c2 => ?_) (fun c2 => ?_)
        · have hf := if_f c2 hf
          refine lv_iload_n hx hb dX2_toward_70 rfl (lv_at hl 1 rfl) ?_
          exact fin dX2_toward_71 (s0 hf) rfl hP hS
        · have hf := if_t c2 hf
          refine lv_iload_n hx hb dX2_toward_22 rfl (lv_at hl 2 rfl) ?_
          refine lv_iload_n hx hb dX2_toward_23 rfl (lv_at hl 0 rfl) ?_
          refine lv_iconst (v := 1) hx hb dX2_toward_24 (by decide) ?_
          refine lv_iload_n hx hb dX2_toward_25 rfl (lv_at hl 1 rfl) ?_
          refine lv_ishl hx hb dX2_toward_26 ?_
          obtain ⟨q3, hq3, hf⟩ := bind_some hf
          refine callS_i (As := [.int x0, .int ((1 : Int32) <<< (x1 &&& 31))]) (rest := [.int x3]) S hB hP hS (K_X2_beside l hE X x0 ((1 : Int32) <<< (x1 &&& 31)) hq3) (va_cwS 2 S.2.2.2.2 gX2_toward_X2_beside rfl rfl rfl (by decide +kernel) ⟨Nat.le_of_ble_eq_true rfl, Nat.le_of_ble_eq_true rfl⟩) rfl hl.1 rfl (Nat.le_of_ble_eq_true rfl) dX2_toward_27 ⟨Nat.zero_le _, Nat.zero_le _⟩ (fun H locs hP hS => ?_)
          refine lv_iand hx hb dX2_toward_30 ?_
          refine lv_istore (lv' := [(5, .int (x3 &&& q3)), (0, .int x0), (1, .int x1), (3, .int x3), (4, .int x4)]) hx hb dX2_toward_31 hl (by decide) rfl (fun ls hl => ?_)
          refine lv_iload hx hb dX2_toward_33 (lv_at hl 0 rfl) ?_
          refine lv_if_eq (tgt := 44) hx hb dX2_toward_35 (by decide) (fun c4 => ?_) (fun c4 => ?_)
          · have hf := if_t c4 hf
            refine lv_iload_n hx hb dX2_toward_44 rfl (lv_at hl 3 rfl) ?_
            refine lv_iload_n hx hb dX2_toward_45 rfl (lv_at hl 1 rfl) ?_
            refine lv_iload_n hx hb dX2_toward_46 rfl (lv_at hl 3 rfl) ?_
            obtain ⟨q5, hq5, hf⟩ := bind_some hf
            refine callS_i (As := [.int x0, .int x3]) (rest := [.int x3]) S hB hP hS (K_X2_beside l hE X x0 x3 hq5) (va_cwS 2 S.2.2.2.2 gX2_toward_X2_beside rfl rfl rfl (by decide +kernel) ⟨Nat.le_of_ble_eq_true rfl, Nat.le_of_ble_eq_true rfl⟩) rfl hl.1 rfl (Nat.le_of_ble_eq_true rfl) dX2_toward_47 ⟨Nat.zero_le _, Nat.zero_le _⟩ (fun H locs hP hS => ?_)
            refine lv_ior hx hb dX2_toward_50 ?_
            refine lv_istore (lv' := [(6, .int (x3 ||| q5)), (5, .int (x3 &&& q3)), (0, .int x0), (1, .int x1), (3, .int x3), (4, .int x4)]) hx hb dX2_toward_51 hl (by decide) rfl (fun ls hl => ?_)
            refine lv_iload hx hb dX2_toward_53 (lv_at hl 0 rfl) ?_
            refine lv_iload_n hx hb dX2_toward_55 rfl (lv_at hl 4 rfl) ?_
            refine lv_icmp_ne (tgt := 61) hx hb dX2_toward_56 (by decide) (fun c6 => ?_) (fun c6 => ?_)
            · have hf := if_f c6 hf
              refine lv_iload hx hb dX2_toward_61 (lv_at hl 0 rfl) ?_
              refine lv_istore_n (lv' := [(3, .int (x3 ||| q5)), (6, .int (x3 ||| q5)), (5, .int (x3 &&& q3)), (0, .int x0), (1, .int x1), (4, .int x4)]) hx hb dX2_toward_63 rfl hl (by decide) rfl (fun ls hl => ?_)
              refine lv_iinc (v := x4 + (1 : Int32)) (lv' := [(4, .int (x4 + (1 : Int32))), (3, .int (x3 ||| q5)), (6, .int (x3 ||| q5)), (5, .int (x3 &&& q3)), (0, .int x0), (1, .int x1)]) hx hb dX2_toward_64 hl (k := 5) rfl rfl (by decide) rfl (fun ls hl => ?_)
              refine lv_goto (tgt := 7) hx hb dX2_toward_67 (by decide) ?_
              exact ih7 x0 x1 (x3 ||| q5) (x4 + (1 : Int32)) _ _ _ hf hP hS (lv_sub hl [4, 5, 1, 0] rfl)
            · have hf := if_t c6 hf
              refine lv_iload_n hx hb dX2_toward_59 rfl (lv_at hl 3 rfl) ?_
              exact fin dX2_toward_60 (s0 hf) rfl hP hS
          · have hf := if_f c4 hf
            refine lv_iload hx hb dX2_toward_38 (lv_at hl 0 rfl) ?_
            obtain ⟨q7, hq7, hf⟩ := bind_some hf
            refine callS_i (As := [.int (x3 &&& q3)]) (rest := []) S hB hP hS (K_J6_numberOfTrailingZeros_0f7a4 l hE X (x3 &&& q3) hq7) (va_cwS 1 S.2.2.2.2 gX2_toward_J6_numberOfTrailingZeros_0f7a4 rfl rfl rfl (by decide +kernel) ⟨Nat.le_of_ble_eq_true rfl, Nat.le_of_ble_eq_true rfl⟩) rfl hl.1 rfl (Nat.le_of_ble_eq_true rfl) dX2_toward_40 ⟨Nat.zero_le _, Nat.zero_le _⟩ (fun H locs hP hS => ?_)
            exact fin dX2_toward_43 (s0 hf) rfl hP hS
  unfold f_X2_toward at hf
  refine lv_iconst (v := 1) hx hb dX2_toward_0 (by decide) ?_
  refine lv_iload_n hx hb dX2_toward_1 rfl (lv_at hl 2 rfl) ?_
  refine lv_ishl hx hb dX2_toward_2 ?_
  refine lv_istore_n (lv' := [(3, .int ((1 : Int32) <<< (a2 &&& 31))), (0, .int a0), (1, .int a1), (2, .int a2)]) hx hb dX2_toward_3 rfl hl (by decide) rfl (fun ls hl => ?_)
  refine lv_iconst (v := 0) hx hb dX2_toward_4 (by decide) ?_
  refine lv_istore (lv' := [(4, .int (0 : Int32)), (3, .int ((1 : Int32) <<< (a2 &&& 31))), (0, .int a0), (1, .int a1), (2, .int a2)]) hx hb dX2_toward_5 hl (by decide) rfl (fun ls hl => ?_)
  exact hL7 FUEL a0 a1 ((1 : Int32) <<< (a2 &&& 31)) (0 : Int32) _ _ _ hf hP hS (lv_sub hl [2, 3, 1, 0] rfl)
/-! X2_changed -/
abbrev rm_X2_changed : Room := { frames := 0, cells := 0, slots := 0, locals := 0 }
set_option maxHeartbeats 4000000 in
set_option maxRecDepth 100000 in
theorem K_X2_changed (l : Launch) {E : En} (hE : Inj E) (X : Wd) (a0 : Int32) (a1 : Int32) {r : Int32} (hf : f_X2_changed a0 a1 = some r) : Cti l E yX2_changed wsX2_changed rm_X2_changed [.int a0, .int a1] X r X := by
  refine meet_i (cc := cX2_changed) (maxL := 2) (own := RX2) (by decide) rfl rfl (Nat.le_of_ble_eq_true rfl) ?_
  intro p e s m below meth c Z S hB fin hP hS ls hl
  have hx := S.1
  have hb := S.2.1
  have hl : lv_has ls 2 [(0, .int a0), (1, .int a1)] := hl
  unfold f_X2_changed at hf
  refine lv_iload_n hx hb dX2_changed_0 rfl (lv_at hl 0 rfl) ?_
  refine lv_iconst (v := 1) hx hb dX2_changed_1 (by decide) ?_
  refine lv_iload_n hx hb dX2_changed_2 rfl (lv_at hl 1 rfl) ?_
  refine lv_ishl hx hb dX2_changed_3 ?_
  refine lv_ixor hx hb dX2_changed_4 ?_
  exact fin dX2_changed_5 (s0 hf) rfl hP hS
/-! X2_steps -/
abbrev rm_X2_steps : Room := { frames := 1, cells := 0, slots := 0, locals := 24 }
set_option maxHeartbeats 4000000 in
set_option maxRecDepth 100000 in
theorem K_X2_steps (l : Launch) {E : En} (hE : Inj E) (X : Wd) (a0 : Int32) (a1 : Int32) (a2 : Int32) {r : Int32} (hf : f_X2_steps a0 a1 a2 = some r) : Cti l E yX2_steps wsX2_steps rm_X2_steps [.int a0, .int a1, .int a2] X r X := by
  refine meet_i (cc := cX2_steps) (maxL := 5) (own := RX2) (by decide) rfl rfl (Nat.le_of_ble_eq_true rfl) ?_
  intro p e s m below meth c Z S hB fin hP hS ls hl
  have hx := S.1
  have hb := S.2.1
  have hl : lv_has ls 5 [(0, .int a0), (1, .int a1), (2, .int a2)] := hl
  have hL7 : ∀ (n7 : Nat) (x0 : Int32) (x2 : Int32) (x3 : Int32) (x4 : Int32) (H : Heap) (locs : List Loc) (ls : Array Slot), f_X2_steps_l7 n7 x0 x2 x3 x4 = some r → va_P E.1 vwCl (GW E X) H → va_S (GA E) s.heap H locs → lv_has ls 5 [(0, .int x0), (2, .int x2), (3, .int x3), (4, .int x4)] → W p l e rm_X2_steps s m ([.int a0, .int a1, .int a2] : List Value).toArray below meth c H locs 0 0 Z (F0 m 7 ls []) := by
    intro n7
    induction n7 with
    | zero =>
      intro x0 x2 x3 x4 H locs ls hf
      cases (show (none : Option _) = some _ from hf)
    | succ n7 ih7 =>
      intro x0 x2 x3 x4 H locs ls hf hP hS hl
      unfold f_X2_steps_l7 at hf
      refine lv_iload hx hb dX2_steps_7 (lv_at hl 3 rfl) ?_
      refine lv_bipush (v := 16) hx hb dX2_steps_9 (by decide) ?_
      refine lv_icmp_ge (tgt := 39) hx hb dX2_steps_11 (by decide) (fun c1 => ?_) (fun c1 => ?_)
      · have hf := if_t c1 hf
        refine lv_bipush (v := -4) hx hb dX2_steps_39 (by decide) ?_
        exact fin dX2_steps_41 (s0 hf) rfl hP hS
      · have hf := if_f c1 hf
        refine lv_iload_n hx hb dX2_steps_14 rfl (lv_at hl 2 rfl) ?_
        refine lv_iconst (v := 1) hx hb dX2_steps_15 (by decide) ?_
        refine lv_iload_n hx hb dX2_steps_16 rfl (lv_at hl 1 rfl) ?_
        refine lv_ishl hx hb dX2_steps_17 ?_
        refine lv_iand hx hb dX2_steps_18 ?_
        refine lv_if_eq (tgt := 25) hx hb dX2_steps_19 (by decide) (fun c2 => ?_) (fun c2 => ?_)
        · have hf := if_t c2 hf
          refine lv_iload_n hx hb dX2_steps_25 rfl (lv_at hl 2 rfl) ?_
          refine lv_iload_n hx hb dX2_steps_26 rfl (lv_at hl 0 rfl) ?_
          refine lv_iload_n hx hb dX2_steps_27 rfl (lv_at hl 2 rfl) ?_
          obtain ⟨q3, hq3, hf⟩ := bind_some hf
          refine callS_i (As := [.int x0, .int x3]) (rest := [.int x3]) S hB hP hS (K_X2_beside l hE X x0 x3 hq3) (va_cwS 2 S.2.2.2.2 gX2_steps_X2_beside rfl rfl rfl (by decide +kernel) ⟨Nat.le_of_ble_eq_true rfl, Nat.le_of_ble_eq_true rfl⟩) rfl hl.1 rfl (Nat.le_of_ble_eq_true rfl) dX2_steps_28 ⟨Nat.zero_le _, Nat.zero_le _⟩ (fun H locs hP hS => ?_)
          refine lv_ior hx hb dX2_steps_31 ?_
          refine lv_istore_n (lv' := [(3, .int (x3 ||| q3)), (0, .int x0), (2, .int x2), (4, .int x4)]) hx hb dX2_steps_32 rfl hl (by decide) rfl (fun ls hl => ?_)
          refine lv_iinc (v := x4 + (1 : Int32)) (lv' := [(4, .int (x4 + (1 : Int32))), (3, .int (x3 ||| q3)), (0, .int x0), (2, .int x2)]) hx hb dX2_steps_33 hl (k := 3) rfl rfl (by decide) rfl (fun ls hl => ?_)
          refine lv_goto (tgt := 7) hx hb dX2_steps_36 (by decide) ?_
          exact ih7 x0 x2 (x3 ||| q3) (x4 + (1 : Int32)) _ _ _ hf hP hS (lv_sub hl [2, 3, 1, 0] rfl)
        · have hf := if_f c2 hf
          refine lv_iload hx hb dX2_steps_22 (lv_at hl 3 rfl) ?_
          exact fin dX2_steps_24 (s0 hf) rfl hP hS
  unfold f_X2_steps at hf
  refine lv_iconst (v := 1) hx hb dX2_steps_0 (by decide) ?_
  refine lv_iload_n hx hb dX2_steps_1 rfl (lv_at hl 1 rfl) ?_
  refine lv_ishl hx hb dX2_steps_2 ?_
  refine lv_istore_n (lv' := [(3, .int ((1 : Int32) <<< (a1 &&& 31))), (0, .int a0), (1, .int a1), (2, .int a2)]) hx hb dX2_steps_3 rfl hl (by decide) rfl (fun ls hl => ?_)
  refine lv_iconst (v := 0) hx hb dX2_steps_4 (by decide) ?_
  refine lv_istore (lv' := [(4, .int (0 : Int32)), (3, .int ((1 : Int32) <<< (a1 &&& 31))), (0, .int a0), (1, .int a1), (2, .int a2)]) hx hb dX2_steps_5 hl (by decide) rfl (fun ls hl => ?_)
  exact hL7 FUEL a0 a2 ((1 : Int32) <<< (a1 &&& 31)) (0 : Int32) _ _ _ hf hP hS (lv_sub hl [2, 4, 1, 0] rfl)
