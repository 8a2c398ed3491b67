/-! X7_see -/
abbrev rm_X7_see : Room := { frames := 2, cells := 0, slots := 0, locals := 45 }
set_option maxHeartbeats 4000000 in
set_option maxRecDepth 100000 in
theorem K_X7_see (l : Launch) {E : En} (hE : Inj E) (σ : Wd) (z : Ob) (a1 : Int32) (a2 : Int32) (a3 : Int32) {r : Int32} {z' : Ob} (hf : f_X7_see z a1 a2 a3 = some (r, z')) : Cti l E yX7_see wsX7_see rm_X7_see [.ref (E.ad 22 0), .int a1, .int a2, .int a3] (va_up σ 22 z) r (va_up σ 22 z') := by
  refine meet_i (cc := cX7_see) (maxL := 4) (own := RX7) (by decide) rfl rfl (Nat.le_of_ble_eq_true rfl) ?_
  intro p e s m below meth c Z S hB fin hP hS ls hl
  have hx := S.1
  have hb := S.2.1
  have hl : lv_has ls 4 [(0, .ref (E.ad 22 0)), (1, .int a1), (2, .int a2), (3, .int a3)] := hl
  have hinX7 : ∀ w ∈ u_ws RX7 TX7 25, w ∈ wsX7_see := by decide +kernel
  have fl32 := S.2.2.2.2 (.fieldLink RX7 32 "MownMazeModel" "seen" "[I") (by decide +kernel)
  have fl128 := S.2.2.2.2 (.fieldLink RX7 128 "MownMazeModel" "seenMany" "I") (by decide +kernel)
  unfold f_X7_see at hf
  refine lv_iload_n hx hb dX7_see_0 rfl (lv_at hl 1 rfl) ?_
  refine lv_i2l hx hb dX7_see_1 (v := a1.toInt64) rfl ?_
  refine lv_lconst (v := 0) hx hb dX7_see_2 (by decide) ?_
  refine lv_ldc2 hx hb S.2.2.2.1 (S.2.2.2.2 (.constantLong RX7 222 (20)) (by decide +kernel)) dX7_see_3 ?_
  obtain ⟨q1, hq1, hf⟩ := bind_some hf
  refine callS_i (As := [.long a1.toInt64, .long (0 : Int64), .long (20 : Int64)]) (rest := []) S hB hP hS (K_X7_in l hE (va_up σ 22 z) a1.toInt64 (0 : Int64) (20 : Int64) hq1) (va_cwS 3 S.2.2.2.2 gX7_see_X7_in rfl rfl rfl (by decide +kernel) ⟨Nat.le_of_ble_eq_true rfl, Nat.le_of_ble_eq_true rfl⟩) rfl hl.1 rfl (Nat.le_of_ble_eq_true rfl) dX7_see_6 ⟨Nat.zero_le _, Nat.zero_le _⟩ (fun H locs hP hS => ?_)
  refine lv_if_eq (tgt := 29) hx hb dX7_see_9 (by decide) (fun c2 => ?_) (fun c2 => ?_)
  · have hf := if_t c2 hf
    refine lv_iconst (v := -1) hx hb dX7_see_29 (by decide) ?_
    exact fin dX7_see_30 (s1 hf) (by rw [(s2 hf)]) hP hS
  · have hf := if_f c2 hf
    refine lv_iload_n hx hb dX7_see_12 rfl (lv_at hl 2 rfl) ?_
    obtain ⟨q3, hq3, hf⟩ := bind_some hf
    refine callS_i (As := [.int a2]) (rest := []) S hB hP hS (K_X7_isHedge l hE (va_up σ 22 z) a2 hq3) (va_cwS 1 S.2.2.2.2 gX7_see_X7_isHedge rfl rfl rfl (by decide +kernel) ⟨Nat.le_of_ble_eq_true rfl, Nat.le_of_ble_eq_true rfl⟩) rfl hl.1 rfl (Nat.le_of_ble_eq_true rfl) dX7_see_13 ⟨Nat.zero_le _, Nat.zero_le _⟩ (fun H locs hP hS => ?_)
    refine lv_if_eq (tgt := 29) hx hb dX7_see_16 (by decide) (fun c4 => ?_) (fun c4 => ?_)
    · have hf := if_t c4 hf
      refine lv_iconst (v := -1) hx hb dX7_see_29 (by decide) ?_
      exact fin dX7_see_30 (s1 hf) (by rw [(s2 hf)]) hP hS
    · have hf := if_f c4 hf
      refine lv_iload_n hx hb dX7_see_19 rfl (lv_at hl 3 rfl) ?_
      refine lv_i2l hx hb dX7_see_20 (v := a3.toInt64) rfl ?_
      refine lv_lconst (v := 0) hx hb dX7_see_21 (by decide) ?_
      refine lv_lconst (v := 1) hx hb dX7_see_22 (by decide) ?_
      obtain ⟨q5, hq5, hf⟩ := bind_some hf
      refine callS_i (As := [.long a3.toInt64, .long (0 : Int64), .long (1 : Int64)]) (rest := []) S hB hP hS (K_X7_in l hE (va_up σ 22 z) a3.toInt64 (0 : Int64) (1 : Int64) hq5) (va_cwS 3 S.2.2.2.2 gX7_see_X7_in rfl rfl rfl (by decide +kernel) ⟨Nat.le_of_ble_eq_true rfl, Nat.le_of_ble_eq_true rfl⟩) rfl hl.1 rfl (Nat.le_of_ble_eq_true rfl) dX7_see_23 ⟨Nat.zero_le _, Nat.zero_le _⟩ (fun H locs hP hS => ?_)
      refine lv_if_ne (tgt := 31) hx hb dX7_see_26 (by decide) (fun c6 => ?_) (fun c6 => ?_)
      · have hf := if_f c6 hf
        refine lv_aload_n hx hb dX7_see_31 rfl (lv_at hl 0 rfl) ?_
        refine g_get (v := .int (z 0 18)) S hB hinX7 hP m_22_0 rfl rfl 18 (by decide) fl128 rfl rfl dX7_see_32 ?_
        refine lv_bipush (v := 6) hx hb dX7_see_35 (by decide) ?_
        refine lv_icmp_ne (tgt := 43) hx hb dX7_see_37 (by decide) (fun c7 => ?_) (fun c7 => ?_)
        · have hf := if_f c7 hf
          refine lv_aload_n hx hb dX7_see_43 rfl (lv_at hl 0 rfl) ?_
          refine g_get (v := .ref (E.ad 22 7)) S hB hinX7 hP m_22_0 rfl rfl 17 (by decide) fl32 rfl rfl dX7_see_44 ?_
          refine lv_iconst (v := 3) hx hb dX7_see_47 (by decide) ?_
          refine lv_aload_n hx hb dX7_see_48 rfl (lv_at hl 0 rfl) ?_
          refine g_get (v := .int (z 0 18)) S hB hinX7 hP m_22_0 rfl rfl 18 (by decide) fl128 rfl rfl dX7_see_49 ?_
          refine lv_imul hx hb dX7_see_52 ?_
          refine lv_iload_n hx hb dX7_see_53 rfl (lv_at hl 1 rfl) ?_
          obtain ⟨hv8, hf⟩ := ck_some hf
          refine g_iast (r := z 7) S hB hE hP hS m_22_7 rfl rfl (fun _ => rfl) hv8 (X' := (va_up σ 22 (ob z 7 (((3 : Int32) * (z 0 18)).toNatClampNeg) a1))) (lens_put σ 22 _ _ _ _) dX7_see_54 (fun H locs hP hS => ?_)
          refine lv_aload_n hx hb dX7_see_55 rfl (lv_at hl 0 rfl) ?_
          refine g_get (v := .ref (E.ad 22 7)) S hB hinX7 hP m_22_0 rfl rfl 17 (by decide) fl32 rfl rfl dX7_see_56 ?_
          refine lv_iconst (v := 3) hx hb dX7_see_59 (by decide) ?_
          refine lv_aload_n hx hb dX7_see_60 rfl (lv_at hl 0 rfl) ?_
          refine g_get (v := .int (z 0 18)) S hB hinX7 hP m_22_0 rfl rfl 18 (by decide) fl128 rfl rfl dX7_see_61 ?_
          refine lv_imul hx hb dX7_see_64 ?_
          refine lv_iconst (v := 1) hx hb dX7_see_65 (by decide) ?_
          refine lv_iadd hx hb dX7_see_66 ?_
          refine lv_iload_n hx hb dX7_see_67 rfl (lv_at hl 2 rfl) ?_
          obtain ⟨hv9, hf⟩ := ck_some hf
          refine g_iast (r := (ob z 7 (((3 : Int32) * (z 0 18)).toNatClampNeg) a1) 7) S hB hE hP hS m_22_7 rfl rfl (fun _ => rfl) hv9 (X' := (va_up σ 22 (ob (ob z 7 (((3 : Int32) * (z 0 18)).toNatClampNeg) a1) 7 ((((3 : Int32) * (z 0 18)) + (1 : Int32)).toNatClampNeg) a2))) (lens_put σ 22 _ _ _ _) dX7_see_68 (fun H locs hP hS => ?_)
          refine lv_aload_n hx hb dX7_see_69 rfl (lv_at hl 0 rfl) ?_
          refine g_get (v := .ref (E.ad 22 7)) S hB hinX7 hP m_22_0 rfl rfl 17 (by decide) fl32 rfl rfl dX7_see_70 ?_
          refine lv_iconst (v := 3) hx hb dX7_see_73 (by decide) ?_
          refine lv_aload_n hx hb dX7_see_74 rfl (lv_at hl 0 rfl) ?_
          refine g_get (v := .int (z 0 18)) S hB hinX7 hP m_22_0 rfl rfl 18 (by decide) fl128 rfl rfl dX7_see_75 ?_
          refine lv_imul hx hb dX7_see_78 ?_
          refine lv_iconst (v := 2) hx hb dX7_see_79 (by decide) ?_
          refine lv_iadd hx hb dX7_see_80 ?_
          refine lv_iload_n hx hb dX7_see_81 rfl (lv_at hl 3 rfl) ?_
          obtain ⟨hv10, hf⟩ := ck_some hf
          refine g_iast (r := (ob (ob z 7 (((3 : Int32) * (z 0 18)).toNatClampNeg) a1) 7 ((((3 : Int32) * (z 0 18)) + (1 : Int32)).toNatClampNeg) a2) 7) S hB hE hP hS m_22_7 rfl rfl (fun _ => rfl) hv10 (X' := (va_up σ 22 (ob (ob (ob z 7 (((3 : Int32) * (z 0 18)).toNatClampNeg) a1) 7 ((((3 : Int32) * (z 0 18)) + (1 : Int32)).toNatClampNeg) a2) 7 ((((3 : Int32) * (z 0 18)) + (2 : Int32)).toNatClampNeg) a3))) (lens_put σ 22 _ _ _ _) dX7_see_82 (fun H locs hP hS => ?_)
          refine lv_aload_n hx hb dX7_see_83 rfl (lv_at hl 0 rfl) ?_
          refine lv_dup hx hb dX7_see_84 rfl ?_
          refine g_get (v := .int (z 0 18)) S hB hinX7 hP m_22_0 rfl rfl 18 (by decide) fl128 rfl rfl dX7_see_85 ?_
          refine lv_iconst (v := 1) hx hb dX7_see_88 (by decide) ?_
          refine lv_iadd hx hb dX7_see_89 ?_
          refine g_put (fs := fMo E (z 0)) S hB hE hinX7 tyX7 tyX7_ok nmX7 hP hS m_22_0 rfl rfl 18 (by decide) fl128 rfl rfl rfl rfl (Nat.le_of_ble_eq_true rfl) (cell_mo E (upd (z 0) 18 ((z 0 18) + (1 : Int32)))) (X' := (va_up σ 22 (ob (ob (ob (ob z 7 (((3 : Int32) * (z 0 18)).toNatClampNeg) a1) 7 ((((3 : Int32) * (z 0 18)) + (1 : Int32)).toNatClampNeg) a2) 7 ((((3 : Int32) * (z 0 18)) + (2 : Int32)).toNatClampNeg) a3) 0 18 ((z 0 18) + (1 : Int32))))) (lens_put σ 22 _ _ _ _) dX7_see_90 (fun H locs hP hS => ?_)
          refine lv_aload_n hx hb dX7_see_93 rfl (lv_at hl 0 rfl) ?_
          refine g_get (v := .int ((z 0 18) + (1 : Int32))) S hB hinX7 hP m_22_0 rfl rfl 18 (by decide) fl128 rfl rfl dX7_see_94 ?_
          exact fin dX7_see_97 (s1 hf) (by rw [(s2 hf)]) hP hS
        · have hf := if_t c7 hf
          refine lv_bipush (v := -3) hx hb dX7_see_40 (by decide) ?_
          exact fin dX7_see_42 (s1 hf) (by rw [(s2 hf)]) hP hS
      · have hf := if_t c6 hf
        refine lv_iconst (v := -1) hx hb dX7_see_29 (by decide) ?_
        exact fin dX7_see_30 (s1 hf) (by rw [(s2 hf)]) hP hS
theorem KW_X7_see (l : Launch) {E : En} (hE : Inj E) (X : Wd) (a1 : Int32) (a2 : Int32) (a3 : Int32) {r : Int32} {z' : Ob} (hf : f_X7_see (X 22) a1 a2 a3 = some (r, z')) : Cti l E yX7_see wsX7_see rm_X7_see [.ref (E.ad 22 0), .int a1, .int a2, .int a3] X r (va_up X 22 z') := by
  have h := K_X7_see l hE X (X 22) a1 a2 a3 hf
  rw [lens_all] at h
  exact h
