/-! the law's loop -/
theorem lt_end {i L : Nat} (h : L < i + 5) (hL : L ≤ 2560) (hi : i ≤ 2600) : Int32.ofNat L - 5 < nI i := by
  show nI L - 5 < nI i
  rw [fa_lt, nI_toInt (by omega), fb_subI, nI_toInt (by omega), show (5 : Int32).toInt = 5 from by decide]
  · omega
  · rw [nI_toInt (by omega), show (5 : Int32).toInt = 5 from by decide]; omega
  · rw [nI_toInt (by omega), show (5 : Int32).toInt = 5 from by decide]; omega
theorem m6 : ∀ i, i < 32 → bt (63 : Int32) i = decide (i < 6) := by decide +kernel
theorem and63 (y : Int32) : ∃ k, k < 64 ∧ y &&& 63 = nI k := by
  refine ⟨y.toBitVec.toNat % 2 ^ 6, Nat.mod_lt _ (by decide), ?_⟩
  apply b_ext
  intro i hi
  rw [b_and, m6 i hi, bt_nI, Nat.testBit_mod_two_pow, BitVec.testBit_toNat]
  unfold bt
  by_cases c : i < 6
  · simp [c, hi]
  · simp [c]
set_option maxHeartbeats 4000000 in
set_option maxRecDepth 100000 in
theorem law_loop {p : Program} {l : Launch} {e : Env} {s : State} {m : MethodId} {below : List Frame} {meth : Method} {c : Code} {b L : Nat} {xs : Nat → Int32} {E : En} (hL : L ≤ 2560) (S : CallFix p m c cL_law 4 s #[Value.ref b] wsL_law RL) (hB : BS E s s.heap) (hE : Inj E) (hX : va_X b L xs s s.heap) (hbl : b < s.heap.size) (hG : ∀ q : Nat, GA E q → s.heap.size ≤ q) (hr : meth.sig.returnType = ret) (hlocks : meth.locks = false) :
    ∀ (n i : Nat), L < i + n → i ≤ L + 5 → ∀ (X : Wd) (H : Heap) (locs : List Loc), Cpl X (X 22) → va_P E.1 vwCl (GW E X) H → va_S (GA E) s.heap H locs → ∀ (ls : Array Slot), lv_has ls 4 [(0, .ref b), (1, .ref (E.ad 0 0)), (2, .ref (E.ad 22 0)), (3, .int (nI i))] → W p l e room_1 s m #[Value.ref b] below meth c H locs 600000 7302250 (lw_Z below #[Value.ref b] s) (F0 m 18 ls []) := by
  have hx := S.1
  have hb := S.2.1
  have hbA : ¬ GA E b := fun q => absurd (hG b q) (Nat.not_le.mpr hbl)
  have dn : ∀ (H : Heap) (locs : List Loc) (ls : Array Slot), va_S (GA E) s.heap H locs → W p l e room_1 s m #[Value.ref b] below meth c H locs 600000 7302250 (lw_Z below #[Value.ref b] s) (F0 m 1611 ls []) := by
    intro H locs ls hS
    refine lv_iconst (v := 1) hx hb dL_law_1611 (by decide) ?_
    refine va_forget (fun q hq => hG _ (hS.2.2 q hq)) ?_
    exact lw_ret hx hb hr hlocks dL_law_1612
  intro n
  induction n with
  | zero =>
    intro i h1 h2 X H locs hC hP hS ls hl
    refine lv_iload_n hx hb dL_law_18 rfl (lv_at hl 3 rfl) ?_
    refine lv_aload_n hx hb dL_law_19 rfl (lv_at hl 0 rfl) ?_
    refine va_slen hx hb hX hbl hbA hS dL_law_20 ?_
    refine lv_iconst (v := 5) hx hb dL_law_21 (by decide) ?_
    refine lv_isub hx hb dL_law_22 ?_
    refine lv_icmp_gt (tgt := 1611) hx hb dL_law_23 (by decide) (fun _ => dn H locs ls hS) (fun q => absurd ?_ q)
    exact lt_end (by omega) (by omega) (by omega)
  | succ n ih =>
    intro i h1 h2 X H locs hC hP hS ls hl
    refine lv_iload_n hx hb dL_law_18 rfl (lv_at hl 3 rfl) ?_
    refine lv_aload_n hx hb dL_law_19 rfl (lv_at hl 0 rfl) ?_
    refine va_slen hx hb hX hbl hbA hS dL_law_20 ?_
    refine lv_iconst (v := 5) hx hb dL_law_21 (by decide) ?_
    refine lv_isub hx hb dL_law_22 ?_
    refine lv_icmp_gt (tgt := 1611) hx hb dL_law_23 (by decide) (fun _ => dn H locs ls hS) (fun q => ?_)
    have hi : i + 5 ≤ L := by
      rcases Nat.lt_or_ge L (i + 5) with w | w
      · exact absurd (lt_end w (by omega) (by omega)) q
      · exact w
    have next : ∀ (X2 : Wd) (H : Heap) (locs : List Loc), Cpl X2 (X2 22) → va_P E.1 vwCl (GW E X2) H → va_S (GA E) s.heap H locs → W p l e room_1 s m #[Value.ref b] below meth c H locs 600000 7302250 (lw_Z below #[Value.ref b] s) (F0 m 1605 ls []) := by
      intro X2 H locs hC2 hP2 hS2
      refine lv_iinc (v := nI (i + 5)) (lv' := [(3, .int (nI (i + 5))), (0, .ref b), (1, .ref (E.ad 0 0)), (2, .ref (E.ad 22 0))]) hx hb dL_law_1605 hl (k := 3) rfl (by rw [← nI_add]; rfl) (by decide) rfl (fun ls hl => ?_)
      refine lv_goto (tgt := 18) hx hb dL_law_1608 (by decide) ?_
      exact ih (i + 5) (by omega) (by omega) X2 H locs hC2 hP2 hS2 ls (lv_sub hl [1, 2, 3, 0] rfl)
    refine lv_aload_n hx hb dL_law_26 rfl (lv_at hl 0 rfl) ?_
    refine lv_iload_n hx hb dL_law_27 rfl (lv_at hl 3 rfl) ?_
    refine va_sld hx hb hX hbl hbA hS (vp_in_nI (show i < L by omega) (by omega)) dL_law_28 ?_
    refine lv_bipush (v := 63) hx hb dL_law_29 (by decide) ?_
    refine lv_iand hx hb dL_law_31 ?_
    obtain ⟨k, hk, ek⟩ := and63 (xs (nI i).toNatClampNeg)
    rw [ek]
    by_cases out : 45 ≤ k
    · exact lv_tableOut (tgt := 1605) hx hb dL_law_32 (Or.inr (by rw [nI_toInt (by omega)]; omega)) (by decide) (next X H locs hC hP hS)
    · have hk2 : k = 0 ∨ k = 1 ∨ k = 2 ∨ k = 3 ∨ k = 4 ∨ k = 5 ∨ k = 6 ∨ k = 7 ∨ k = 8 ∨ k = 9 ∨ k = 10 ∨ k = 11 ∨ k = 12 ∨ k = 13 ∨ k = 14 ∨ k = 15 ∨ k = 16 ∨ k = 17 ∨ k = 18 ∨ k = 19 ∨ k = 20 ∨ k = 21 ∨ k = 22 ∨ k = 23 ∨ k = 24 ∨ k = 25 ∨ k = 26 ∨ k = 27 ∨ k = 28 ∨ k = 29 ∨ k = 30 ∨ k = 31 ∨ k = 32 ∨ k = 33 ∨ k = 34 ∨ k = 35 ∨ k = 36 ∨ k = 37 ∨ k = 38 ∨ k = 39 ∨ k = 40 ∨ k = 41 ∨ k = 42 ∨ k = 43 ∨ k = 44 := by omega
      rcases hk2 with rfl | rfl | rfl | rfl | rfl | rfl | rfl | rfl | rfl | rfl | rfl | rfl | rfl | rfl | rfl | rfl | rfl | rfl | rfl | rfl | rfl | rfl | rfl | rfl | rfl | rfl | rfl | rfl | rfl | rfl | rfl | rfl | rfl | rfl | rfl | rfl | rfl | rfl | rfl | rfl | rfl | rfl | rfl | rfl | rfl
      · exact lv_tableIn (off := 196) (tgt := 228) hx hb dL_law_32 (by decide) (by decide) rfl (by decide) (lc_feed S hB hE hX hbl hbA hi hL hC hP hS hl next)
      · exact lv_tableIn (off := 219) (tgt := 251) hx hb dL_law_32 (by decide) (by decide) rfl (by decide) (lc_end S hB hE hX hbl hbA hi hL hC hP hS hl next)
      · exact lv_tableIn (off := 242) (tgt := 274) hx hb dL_law_32 (by decide) (by decide) rfl (by decide) (lc_text S hB hE hX hbl hbA hi hL hC hP hS hl next)
      · exact lv_tableIn (off := 255) (tgt := 287) hx hb dL_law_32 (by decide) (by decide) rfl (by decide) (lc_fault S hB hE hX hbl hbA hi hL hC hP hS hl next)
      · exact lv_tableIn (off := 268) (tgt := 300) hx hb dL_law_32 (by decide) (by decide) rfl (by decide) (lc_rule S hB hE hX hbl hbA hi hL hC hP hS hl next)
      · exact lv_tableIn (off := 291) (tgt := 323) hx hb dL_law_32 (by decide) (by decide) rfl (by decide) (lc_hedge S hB hE hX hbl hbA hi hL hC hP hS hl next)
      · exact lv_tableIn (off := 314) (tgt := 346) hx hb dL_law_32 (by decide) (by decide) rfl (by decide) (lc_gardener S hB hE hX hbl hbA hi hL hC hP hS hl next)
      · exact lv_tableIn (off := 347) (tgt := 379) hx hb dL_law_32 (by decide) (by decide) rfl (by decide) (lc_guest S hB hE hX hbl hbA hi hL hC hP hS hl next)
      · exact lv_tableIn (off := 380) (tgt := 412) hx hb dL_law_32 (by decide) (by decide) rfl (by decide) (lc_way S hB hE hX hbl hbA hi hL hC hP hS hl next)
      · exact lv_tableIn (off := 413) (tgt := 445) hx hb dL_law_32 (by decide) (by decide) rfl (by decide) (lc_turn S hB hE hX hbl hbA hi hL hC hP hS hl next)
      · exact lv_tableIn (off := 436) (tgt := 468) hx hb dL_law_32 (by decide) (by decide) rfl (by decide) (lc_grow S hB hE hX hbl hbA hi hL hC hP hS hl next)
      · exact lv_tableIn (off := 469) (tgt := 501) hx hb dL_law_32 (by decide) (by decide) rfl (by decide) (lc_alter S hB hE hX hbl hbA hi hL hC hP hS hl next)
      · exact lv_tableIn (off := 512) (tgt := 544) hx hb dL_law_32 (by decide) (by decide) rfl (by decide) (lc_hire S hB hE hX hbl hbA hi hL hC hP hS hl next)
      · exact lv_tableIn (off := 555) (tgt := 587) hx hb dL_law_32 (by decide) (by decide) rfl (by decide) (lc_leave S hB hE hX hbl hbA hi hL hC hP hS hl next)
      · exact lv_tableIn (off := 578) (tgt := 610) hx hb dL_law_32 (by decide) (by decide) rfl (by decide) (lc_come S hB hE hX hbl hbA hi hL hC hP hS hl next)
      · exact lv_tableIn (off := 611) (tgt := 643) hx hb dL_law_32 (by decide) (by decide) rfl (by decide) (lc_move S hB hE hX hbl hbA hi hL hC hP hS hl next)
      · exact lv_tableIn (off := 644) (tgt := 676) hx hb dL_law_32 (by decide) (by decide) rfl (by decide) (lc_bread S hB hE hX hbl hbA hi hL hC hP hS hl next)
      · exact lv_tableIn (off := 677) (tgt := 709) hx hb dL_law_32 (by decide) (by decide) rfl (by decide) (lc_open S hB hE hX hbl hbA hi hL hC hP hS hl next)
      · exact lv_tableIn (off := 700) (tgt := 732) hx hb dL_law_32 (by decide) (by decide) rfl (by decide) (lc_days S hB hE hX hbl hbA hi hL hC hP hS hl next)
      · exact lv_tableIn (off := 723) (tgt := 755) hx hb dL_law_32 (by decide) (by decide) rfl (by decide) (lc_runs S hB hE hX hbl hbA hi hL hC hP hS hl next)
      · exact lv_tableIn (off := 756) (tgt := 788) hx hb dL_law_32 (by decide) (by decide) rfl (by decide) (lc_ahead S hB hE hX hbl hbA hi hL hC hP hS hl next)
      · exact lv_tableIn (off := 799) (tgt := 831) hx hb dL_law_32 (by decide) (by decide) rfl (by decide) (lc_stands S hB hE hX hbl hbA hi hL hC hP hS hl next)
      · exact lv_tableIn (off := 832) (tgt := 864) hx hb dL_law_32 (by decide) (by decide) rfl (by decide) (lc_out S hB hE hX hbl hbA hi hL hC hP hS hl next)
      · exact lv_tableIn (off := 855) (tgt := 887) hx hb dL_law_32 (by decide) (by decide) rfl (by decide) (lc_again S hB hE hX hbl hbA hi hL hC hP hS hl next)
      · exact lv_tableIn (off := 868) (tgt := 900) hx hb dL_law_32 (by decide) (by decide) rfl (by decide) (lc_cut S hB hE hX hbl hbA hi hL hC hP hS hl next)
      · exact lv_tableIn (off := 901) (tgt := 933) hx hb dL_law_32 (by decide) (by decide) rfl (by decide) (lc_door S hB hE hX hbl hbA hi hL hC hP hS hl next)
      · exact lv_tableIn (off := 934) (tgt := 966) hx hb dL_law_32 (by decide) (by decide) rfl (by decide) (lc_food S hB hE hX hbl hbA hi hL hC hP hS hl next)
      · exact lv_tableIn (off := 957) (tgt := 989) hx hb dL_law_32 (by decide) (by decide) rfl (by decide) (lc_sack S hB hE hX hbl hbA hi hL hC hP hS hl next)
      · exact lv_tableIn (off := 990) (tgt := 1022) hx hb dL_law_32 (by decide) (by decide) rfl (by decide) (lc_swap S hB hE hX hbl hbA hi hL hC hP hS hl next)
      · exact lv_tableIn (off := 1023) (tgt := 1055) hx hb dL_law_32 (by decide) (by decide) rfl (by decide) (lc_kind S hB hE hX hbl hbA hi hL hC hP hS hl next)
      · exact lv_tableIn (off := 1066) (tgt := 1098) hx hb dL_law_32 (by decide) (by decide) rfl (by decide) (lc_luck S hB hE hX hbl hbA hi hL hC hP hS hl next)
      · exact lv_tableIn (off := 1120) (tgt := 1152) hx hb dL_law_32 (by decide) (by decide) rfl (by decide) (lc_mean S hB hE hX hbl hbA hi hL hC hP hS hl next)
      · exact lv_tableIn (off := 1164) (tgt := 1196) hx hb dL_law_32 (by decide) (by decide) rfl (by decide) (lc_see S hB hE hX hbl hbA hi hL hC hP hS hl next)
      · exact lv_tableIn (off := 1207) (tgt := 1239) hx hb dL_law_32 (by decide) (by decide) rfl (by decide) (lc_forget S hB hE hX hbl hbA hi hL hC hP hS hl next)
      · exact lv_tableIn (off := 1230) (tgt := 1262) hx hb dL_law_32 (by decide) (by decide) rfl (by decide) (lc_kinds S hB hE hX hbl hbA hi hL hC hP hS hl next)
      · exact lv_tableIn (off := 1253) (tgt := 1285) hx hb dL_law_32 (by decide) (by decide) rfl (by decide) (lc_tastes S hB hE hX hbl hbA hi hL hC hP hS hl next)
      · exact lv_tableIn (off := 1276) (tgt := 1308) hx hb dL_law_32 (by decide) (by decide) rfl (by decide) (lc_ask S hB hE hX hbl hbA hi hL hC hP hS hl next)
      · exact lv_tableIn (off := 1309) (tgt := 1341) hx hb dL_law_32 (by decide) (by decide) rfl (by decide) (lc_drift S hB hE hX hbl hbA hi hL hC hP hS hl next)
      · exact lv_tableIn (off := 1352) (tgt := 1384) hx hb dL_law_32 (by decide) (by decide) rfl (by decide) (lc_keep S hB hE hX hbl hbA hi hL hC hP hS hl next)
      · exact lv_tableIn (off := 1375) (tgt := 1407) hx hb dL_law_32 (by decide) (by decide) rfl (by decide) (lc_back S hB hE hX hbl hbA hi hL hC hP hS hl next)
      · exact lv_tableIn (off := 1398) (tgt := 1430) hx hb dL_law_32 (by decide) (by decide) rfl (by decide) (lc_sheet S hB hE hX hbl hbA hi hL hC hP hS hl next)
      · exact lv_tableIn (off := 1441) (tgt := 1473) hx hb dL_law_32 (by decide) (by decide) rfl (by decide) (lc_lay S hB hE hX hbl hbA hi hL hC hP hS hl next)
      · exact lv_tableIn (off := 1484) (tgt := 1516) hx hb dL_law_32 (by decide) (by decide) rfl (by decide) (lc_read S hB hE hX hbl hbA hi hL hC hP hS hl next)
      · exact lv_tableIn (off := 1537) (tgt := 1569) hx hb dL_law_32 (by decide) (by decide) rfl (by decide) (lc_torn S hB hE hX hbl hbA hi hL hC hP hS hl next)
      · exact lv_tableIn (off := 1550) (tgt := 1582) hx hb dL_law_32 (by decide) (by decide) rfl (by decide) (lc_count S hB hE hX hbl hbA hi hL hC hP hS hl next)
