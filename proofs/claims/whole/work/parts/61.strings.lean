/-! the JDK's own methods that a text constant goes through -/
abbrev rm_J3 : Room := { frames := 0, cells := 0, slots := 0, locals := 0 }
set_option maxHeartbeats 4000000 in
set_option maxRecDepth 100000 in
theorem K_J3_checkIndex (l : Launch) {E : En} (hE : Inj E) (X : Wd) {j n : Int32} {v : Value} (hv : v = .null ∨ ∃ t, v = .ref t) (h0 : ¬ j < 0) (h1 : j < n) : Cti l E yJ3_checkIndex_8e157 wsJ3_checkIndex_8e157 rm_J3 [.int j, .int n, v] X j X := by
  rcases hv with rfl | ⟨t, rfl⟩ <;>
  (refine meet_i (cc := cJ3_checkIndex_8e157) (maxL := 3) (own := RJ3) (by decide) rfl rfl (Nat.le_of_ble_eq_true rfl) ?_
   intro p e s m below meth c Z S hB fin hP hS ls hl
   have hx := S.1
   have hb := S.2.1
   refine lv_iload_n hx hb dJ3_checkIndex_8e157_0 rfl (lv_at hl 0 rfl) ?_
   refine lv_if_lt (tgt := 9) hx hb dJ3_checkIndex_8e157_1 (by decide) (fun q => absurd q h0) (fun _ => ?_)
   refine lv_iload_n hx hb dJ3_checkIndex_8e157_4 rfl (lv_at hl 0 rfl) ?_
   refine lv_iload_n hx hb dJ3_checkIndex_8e157_5 rfl (lv_at hl 1 rfl) ?_
   refine lv_icmp_lt (tgt := 16) hx hb dJ3_checkIndex_8e157_6 (by decide) (fun _ => ?_) (fun q => absurd h1 q)
   refine lv_iload_n hx hb dJ3_checkIndex_8e157_16 rfl (lv_at hl 0 rfl) ?_
   exact fin dJ3_checkIndex_8e157_17 rfl rfl hP hS)
abbrev rm_J0c : Room := { frames := 1, cells := 0, slots := 0, locals := 22 }
set_option maxHeartbeats 4000000 in
set_option maxRecDepth 100000 in
theorem K_J0_checkIndex (l : Launch) {E : En} (hE : Inj E) (X : Wd) {j n : Int32} (h0 : ¬ j < 0) (h1 : j < n) : Ctv l E yJ0_checkIndex_df160 wsJ0_checkIndex_df160 rm_J0c [.int j, .int n] X X := by
  refine meet_v (cc := cJ0_checkIndex_df160) (maxL := 2) (own := RJ0) (by decide) rfl rfl (Nat.le_of_ble_eq_true rfl) ?_
  intro p e s m below meth c Z S hB fin hP hS ls hl
  have hx := S.1
  have hb := S.2.1
  have hl : lv_has ls 2 [(0, .int j), (1, .int n)] := hl
  refine lv_iload_n hx hb dJ0_checkIndex_df160_0 rfl (lv_at hl 0 rfl) ?_
  refine lv_iload_n hx hb dJ0_checkIndex_df160_1 rfl (lv_at hl 1 rfl) ?_
  have hz := hB.2.2.2.2.2.2.2.2.2.2
  have go : ∀ v : Value, (v = .null ∨ ∃ t, v = .ref t) → va_Z "jdk/internal/util/Preconditions" "SIOOBE_FORMATTER" "Ljava/util/function/BiFunction;" v (GA E) s s.heap → W p l e rm_J0c s m ([.int j, .int n] : List Value).toArray below meth c s.heap [] 0 0 Z (F0 m 2 ls [.int n, .int j]) := by
    intro v hv hzv
    refine va_gets hx hb hzv hS S.2.2.2.1 (S.2.2.2.2 (.fieldLink RJ0 1053 "jdk/internal/util/Preconditions" "SIOOBE_FORMATTER" "Ljava/util/function/BiFunction;") (by decide +kernel)) (fun _ h => h) dJ0_checkIndex_df160_2 ?_
    refine callS_i (As := [.int j, .int n, v]) (rest := []) S hB hP hS (K_J3_checkIndex l hE X hv h0 h1) (va_cwS 3 S.2.2.2.2 gJ0_checkIndex_df160_J3_checkIndex_8e157 rfl rfl rfl (by decide +kernel) ⟨Nat.le_of_ble_eq_true rfl, Nat.le_of_ble_eq_true rfl⟩) rfl hl.1 rfl (Nat.le_of_ble_eq_true rfl) dJ0_checkIndex_df160_5 ⟨Nat.zero_le _, Nat.zero_le _⟩ (fun H locs hP hS => ?_)
    refine lv_pop hx hb dJ0_checkIndex_df160_8 rfl ?_
    exact fin dJ0_checkIndex_df160_9 rfl hP hS
  rcases hz with hz | ⟨t, hz⟩
  · exact go .null (Or.inl rfl) hz
  · exact go (.ref t) (Or.inr ⟨t, rfl⟩) hz
set_option maxHeartbeats 4000000 in
set_option maxRecDepth 100000 in
theorem K_J0_coder (l : Launch) {E : En} (hE : Inj E) (X : Wd) {i : Nat} (hi : i < 7) : Cti l E yJ0_coder_7d493 wsJ0_coder_7d493 rm_J3 [.ref (E.kS i)] X 0 X := by
  refine meet_z (cc := cJ0_coder_7d493) (maxL := 1) (own := RJ0) (ty := .byte) (by decide) rfl rfl (Nat.le_of_ble_eq_true rfl) ?_
  intro p e s m below meth c Z S hB fin hP hS ls hl
  have hx := S.1
  have hb := S.2.1
  have hl : lv_has ls 1 [(0, .ref (E.kS i))] := hl
  refine va_gets hx hb hB.2.2.2.2.2.2.2.2.2.1 hS S.2.2.2.1 (S.2.2.2.2 (.fieldLink RJ0 38 "java/lang/String" "COMPACT_STRINGS" "Z") (by decide +kernel)) (fun _ h => h) dJ0_coder_7d493_0 ?_
  refine lv_if_eq (tgt := 13) hx hb dJ0_coder_7d493_3 (by decide) (fun q => absurd q (by decide)) (fun _ => ?_)
  refine lv_aload_n hx hb dJ0_coder_7d493_6 rfl (lv_at hl 0 rfl) ?_
  refine vk_getf hx hb (hB.2.1.1 i hi).2.1 hS S.2.2.2.1 (S.2.2.2.2 (.fieldLink RJ0 15 "java/lang/String" "coder" "B") (by decide +kernel)) (fun _ h => h) dJ0_coder_7d493_7 ?_
  refine lv_goto (tgt := 14) hx hb dJ0_coder_7d493_10 (by decide) ?_
  exact fin dJ0_coder_7d493_14 rfl rfl rfl hP hS
set_option maxHeartbeats 4000000 in
set_option maxRecDepth 100000 in
theorem K_J0_isLatin1 (l : Launch) {E : En} (hE : Inj E) (X : Wd) {i : Nat} (hi : i < 7) : Cti l E yJ0_isLatin1_aae02 wsJ0_isLatin1_aae02 rm_J3 [.ref (E.kS i)] X 1 X := by
  refine meet_z (cc := cJ0_isLatin1_aae02) (maxL := 1) (own := RJ0) (ty := .boolean) (by decide) rfl rfl (Nat.le_of_ble_eq_true rfl) ?_
  intro p e s m below meth c Z S hB fin hP hS ls hl
  have hx := S.1
  have hb := S.2.1
  have hl : lv_has ls 1 [(0, .ref (E.kS i))] := hl
  refine va_gets hx hb hB.2.2.2.2.2.2.2.2.2.1 hS S.2.2.2.1 (S.2.2.2.2 (.fieldLink RJ0 38 "java/lang/String" "COMPACT_STRINGS" "Z") (by decide +kernel)) (fun _ h => h) dJ0_isLatin1_aae02_0 ?_
  refine lv_if_eq (tgt := 17) hx hb dJ0_isLatin1_aae02_3 (by decide) (fun q => absurd q (by decide)) (fun _ => ?_)
  refine lv_aload_n hx hb dJ0_isLatin1_aae02_6 rfl (lv_at hl 0 rfl) ?_
  refine vk_getf hx hb (hB.2.1.1 i hi).2.1 hS S.2.2.2.1 (S.2.2.2.2 (.fieldLink RJ0 15 "java/lang/String" "coder" "B") (by decide +kernel)) (fun _ h => h) dJ0_isLatin1_aae02_7 ?_
  refine lv_if_ne (tgt := 17) hx hb dJ0_isLatin1_aae02_10 (by decide) (fun q => absurd rfl q) (fun _ => ?_)
  refine lv_iconst (v := 1) hx hb dJ0_isLatin1_aae02_13 (by decide) ?_
  refine lv_goto (tgt := 18) hx hb dJ0_isLatin1_aae02_14 (by decide) ?_
  exact fin dJ0_isLatin1_aae02_18 (nz01 (by decide)) rfl rfl hP hS
abbrev rm_J0l : Room := { frames := 1, cells := 0, slots := 0, locals := 20 }
theorem sh0 (x : Int32) : x >>> ((0 : Int32) &&& 31) = x := by
  rw [show (0 : Int32) &&& 31 = 0 from by decide]
  apply Int32.toBitVec_inj.mp
  simp
set_option maxHeartbeats 4000000 in
set_option maxRecDepth 100000 in
theorem K_J0_length (l : Launch) {E : En} (hE : Inj E) (X : Wd) {i : Nat} (hi : i < 7) : Cti l E yJ0_length_8abf5 wsJ0_length_8abf5 rm_J0l [.ref (E.kS i)] X (nI (slen.getD i 0)) X := by
  refine meet_i (cc := cJ0_length_8abf5) (maxL := 1) (own := RJ0) (by decide) rfl rfl (Nat.le_of_ble_eq_true rfl) ?_
  intro p e s m below meth c Z S hB fin hP hS ls hl
  have hx := S.1
  have hb := S.2.1
  have hl : lv_has ls 1 [(0, .ref (E.kS i))] := hl
  refine lv_aload_n hx hb dJ0_length_8abf5_0 rfl (lv_at hl 0 rfl) ?_
  refine vk_getf hx hb (hB.2.1.1 i hi).2.2.1 hS S.2.2.2.1 (S.2.2.2.2 (.fieldLink RJ0 9 "java/lang/String" "value" "[B") (by decide +kernel)) (fun _ h => h) dJ0_length_8abf5_1 ?_
  refine va_tlen hx hb (hB.2.1.1 i hi).2.2.2 hS (v := nI (slen.getD i 0)) rfl dJ0_length_8abf5_4 ?_
  refine lv_aload_n hx hb dJ0_length_8abf5_5 rfl (lv_at hl 0 rfl) ?_
  refine callV_i (As := []) (rest := [.int (nI (slen.getD i 0))]) S hB hP hS (C := RJ0) (b := E.kS i) (vk_recv hB.2.1 hi hS) (K_J0_coder l hE X hi) (cwV 0 S.2.2.2.2 gJ0_length_8abf5_J0_coder_7d493 rfl rfl rfl (by decide +kernel) ⟨Nat.le_of_ble_eq_true rfl, Nat.le_of_ble_eq_true rfl⟩) rfl hl.1 rfl (Nat.le_of_ble_eq_true rfl) dJ0_length_8abf5_6 ⟨Nat.zero_le _, Nat.zero_le _⟩ (fun H locs hP hS => ?_)
  refine lv_ishr hx hb dJ0_length_8abf5_9 ?_
  exact fin dJ0_length_8abf5_10 (sh0 _) rfl hP hS
theorem sch_ok : ∀ i, i < 7 → ∀ j, j < slen.getD i 0 → narrow .char (.int (sch i j)) = .int (sch i j) := by decide +kernel
abbrev rm_J1 : Room := { frames := 2, cells := 0, slots := 0, locals := 43 }
theorem nI_lt' {j n : Int32} {m : Nat} (hm : m < 2 ^ 31) (h : vp_in j m) : ¬ j < 0 ∧ j < nI m := by
  have h1 : ¬ j < 0 := fun q => h (Or.inl q)
  have h2 := vp_lt h
  refine ⟨h1, ?_⟩
  rw [Int32.lt_iff_toInt_lt, nI_toInt hm]
  have h3 : (0 : Int) ≤ j.toInt := by
    have := Int32.not_lt.mp h1
    simpa using Int32.le_iff_toInt_le.mp this
  have h4 : j.toNatClampNeg = j.toInt.toNat := rfl
  omega
set_option maxHeartbeats 4000000 in
set_option maxRecDepth 100000 in
theorem K_J1_charAt (l : Launch) {E : En} (hE : Inj E) (X : Wd) {i : Nat} (hi : i < 7) {j : Int32} (hj : vp_in j (slen.getD i 0)) : Cti l E yJ1_charAt_3b067 wsJ1_charAt_3b067 rm_J1 [.ref (E.vS i), .int j] X (sch i j.toNatClampNeg) X := by
  refine meet_z (cc := cJ1_charAt_3b067) (maxL := 2) (own := RJ1) (ty := .char) (by decide) rfl rfl (Nat.le_of_ble_eq_true rfl) ?_
  intro p e s m below meth c Z S hB fin hP hS ls hl
  have hx := S.1
  have hb := S.2.1
  have hl : lv_has ls 2 [(0, .ref (E.vS i)), (1, .int j)] := hl
  have hb31 : slen.getD i 0 < 2 ^ 31 := (by decide +kernel : ∀ i, i < 7 → slen.getD i 0 < 2 ^ 31) i hi
  refine lv_iload_n hx hb dJ1_charAt_3b067_0 rfl (lv_at hl 1 rfl) ?_
  refine lv_aload_n hx hb dJ1_charAt_3b067_1 rfl (lv_at hl 0 rfl) ?_
  refine va_tlen hx hb (hB.2.1.1 i hi).2.2.2 hS (v := nI (slen.getD i 0)) rfl dJ1_charAt_3b067_2 ?_
  refine callS_v (As := [.int j, .int (nI (slen.getD i 0))]) (rest := []) S hB hP hS (K_J0_checkIndex l hE X (nI_lt' (n := 0) hb31 hj).1 (nI_lt' (n := 0) hb31 hj).2) (va_cwS 2 S.2.2.2.2 gJ1_charAt_3b067_J0_checkIndex_df160 rfl rfl rfl (by decide +kernel) ⟨Nat.le_of_ble_eq_true rfl, Nat.le_of_ble_eq_true rfl⟩) rfl hl.1 rfl (Nat.le_of_ble_eq_true rfl) dJ1_charAt_3b067_3 ⟨Nat.zero_le _, Nat.zero_le _⟩ (fun H locs hP hS => ?_)
  refine lv_aload_n hx hb dJ1_charAt_3b067_6 rfl (lv_at hl 0 rfl) ?_
  refine lv_iload_n hx hb dJ1_charAt_3b067_7 rfl (lv_at hl 1 rfl) ?_
  refine va_tb hx hb (hB.2.1.1 i hi).2.2.2 hS hj (v := .int ((sbyt.getD i []).getD j.toNatClampNeg 0)) rfl dJ1_charAt_3b067_8 ?_
  refine lv_sipush (v := 255) hx hb dJ1_charAt_3b067_9 (by decide) ?_
  refine lv_iand hx hb dJ1_charAt_3b067_12 ?_
  refine lv_i2c hx hb dJ1_charAt_3b067_13 (v := sch i j.toNatClampNeg) rfl ?_
  exact fin dJ1_charAt_3b067_14 (sch_ok i hi _ (vp_lt hj)) rfl rfl hP hS
abbrev rm_J0a : Room := { frames := 3, cells := 0, slots := 0, locals := 64 }
set_option maxHeartbeats 4000000 in
set_option maxRecDepth 100000 in
theorem K_J0_charAt (l : Launch) {E : En} (hE : Inj E) (X : Wd) {i : Nat} (hi : i < 7) {j : Int32} (hj : vp_in j (slen.getD i 0)) : Cti l E yJ0_charAt_5068e wsJ0_charAt_5068e rm_J0a [.ref (E.kS i), .int j] X (sch i j.toNatClampNeg) X := by
  refine meet_z (cc := cJ0_charAt_5068e) (maxL := 2) (own := RJ0) (ty := .char) (by decide) rfl rfl (Nat.le_of_ble_eq_true rfl) ?_
  intro p e s m below meth c Z S hB fin hP hS ls hl
  have hx := S.1
  have hb := S.2.1
  have hl : lv_has ls 2 [(0, .ref (E.kS i)), (1, .int j)] := hl
  refine lv_aload_n hx hb dJ0_charAt_5068e_0 rfl (lv_at hl 0 rfl) ?_
  refine callV_i (As := []) (rest := []) S hB hP hS (C := RJ0) (b := E.kS i) (vk_recv hB.2.1 hi hS) (K_J0_isLatin1 l hE X hi) (cwV 0 S.2.2.2.2 gJ0_charAt_5068e_J0_isLatin1_aae02 rfl rfl rfl (by decide +kernel) ⟨Nat.le_of_ble_eq_true rfl, Nat.le_of_ble_eq_true rfl⟩) rfl hl.1 rfl (Nat.le_of_ble_eq_true rfl) dJ0_charAt_5068e_1 ⟨Nat.zero_le _, Nat.zero_le _⟩ (fun H locs hP hS => ?_)
  refine lv_if_eq (tgt := 16) hx hb dJ0_charAt_5068e_4 (by decide) (fun q => absurd q (by decide)) (fun _ => ?_)
  refine lv_aload_n hx hb dJ0_charAt_5068e_7 rfl (lv_at hl 0 rfl) ?_
  refine vk_getf hx hb (hB.2.1.1 i hi).2.2.1 hS S.2.2.2.1 (S.2.2.2.2 (.fieldLink RJ0 9 "java/lang/String" "value" "[B") (by decide +kernel)) (fun _ h => h) dJ0_charAt_5068e_8 ?_
  refine lv_iload_n hx hb dJ0_charAt_5068e_11 rfl (lv_at hl 1 rfl) ?_
  refine callS_i (As := [.ref (E.vS i), .int j]) (rest := []) S hB hP hS (K_J1_charAt l hE X hi hj) (va_cwS 2 S.2.2.2.2 gJ0_charAt_5068e_J1_charAt_3b067 rfl rfl rfl (by decide +kernel) ⟨Nat.le_of_ble_eq_true rfl, Nat.le_of_ble_eq_true rfl⟩) rfl hl.1 rfl (Nat.le_of_ble_eq_true rfl) dJ0_charAt_5068e_12 ⟨Nat.zero_le _, Nat.zero_le _⟩ (fun H locs hP hS => ?_)
  exact fin dJ0_charAt_5068e_15 (sch_ok i hi _ (vp_lt hj)) rfl rfl hP hS
