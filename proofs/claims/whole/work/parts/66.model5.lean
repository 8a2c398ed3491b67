/-! X7_again -/
abbrev rm_X7_again : Room := { frames := 4, cells := 0, slots := 0, locals := 95 }
set_option maxHeartbeats 4000000 in
set_option maxRecDepth 100000 in
theorem K_X7_again (l : Launch) {E : En} (hE : Inj E) (σ : Wd) (z : Ob) {r : Int32} {z' : Ob} (hf : f_X7_again z = some (r, z')) : Cti l E yX7_again wsX7_again rm_X7_again [.ref (E.ad 22 0)] (va_up σ 22 z) r (va_up σ 22 z') := by
  refine meet_i (cc := cX7_again) (maxL := 5) (own := RX7) (by decide) rfl rfl (Nat.le_of_ble_eq_true rfl) ?_
  intro p e s m below meth c Z S hB fin hP hS ls hl
  have hx := S.1
  have hb := S.2.1
  have hl : lv_has ls 5 [(0, .ref (E.ad 22 0))] := hl
  have hinX7 : ∀ w ∈ u_ws RX7 TX7 25, w ∈ wsX7_again := by decide +kernel
  have fl7 := S.2.2.2.2 (.fieldLink RX7 7 "MownMazeModel" "state" "[I") (by decide +kernel)
  have hL18 : ∀ (n18 : Nat) (z : Ob) (x1 : Int32) (x2 : Int32) (H : Heap) (locs : List Loc) (ls : Array Slot), f_X7_again_l18 n18 z x1 x2 = some (r, z') → va_P E.1 vwCl (GW E (va_up σ 22 z)) H → va_S (GA E) s.heap H locs → lv_has ls 5 [(0, .ref (E.ad 22 0)), (1, .int x1), (2, .int x2)] → W p l e rm_X7_again s m ([.ref (E.ad 22 0)] : List Value).toArray below meth c H locs 0 0 Z (F0 m 18 ls []) := by
    intro n18
    induction n18 with
    | zero =>
      intro z x1 x2 H locs ls hf
      cases (show (none : Option _) = some _ from hf)
    | succ n18 ih18 =>
      have hL84 : ∀ (n84 : Nat) (z : Ob) (x1 : Int32) (x2 : Int32) (x3 : Int32) (x4 : Int32) (H : Heap) (locs : List Loc) (ls : Array Slot), f_X7_again_l84 (f_X7_again_l18 n18) n84 z x1 x2 x3 x4 = some (r, z') → va_P E.1 vwCl (GW E (va_up σ 22 z)) H → va_S (GA E) s.heap H locs → lv_has ls 5 [(0, .ref (E.ad 22 0)), (1, .int x1), (2, .int x2), (3, .int x3), (4, .int x4)] → W p l e rm_X7_again s m ([.ref (E.ad 22 0)] : List Value).toArray below meth c H locs 0 0 Z (F0 m 84 ls []) := by
        intro n84
        induction n84 with
        | zero =>
          intro z x1 x2 x3 x4 H locs ls hf
          cases (show (none : Option _) = some _ from hf)
        | succ n84 ih84 =>
          have hB123 : ∀ (z : Ob) (x1 : Int32) (x2 : Int32) (x4 : Int32) (y0 : Int32) (H : Heap) (locs : List Loc) (ls : Array Slot), f_X7_again_b123 (f_X7_again_l18 n18) (f_X7_again_l84 (f_X7_again_l18 n18) n84) z x1 x2 x4 y0 = some (r, z') → va_P E.1 vwCl (GW E (va_up σ 22 z)) H → va_S (GA E) s.heap H locs → lv_has ls 5 [(0, .ref (E.ad 22 0)), (1, .int x1), (2, .int x2), (4, .int x4)] → W p l e rm_X7_again s m ([.ref (E.ad 22 0)] : List Value).toArray below meth c H locs 0 0 Z (F0 m 123 ls [.int y0]) := by
            intro z x1 x2 x4 y0 H locs ls hf hP hS hl
            unfold f_X7_again_b123 at hf
            refine lv_istore_n (lv' := [(3, .int y0), (0, .ref (E.ad 22 0)), (1, .int x1), (2, .int x2), (4, .int x4)]) hx hb dX7_again_123 rfl hl (by decide) rfl (fun ls hl => ?_)
            refine lv_iinc (v := x4 + (1 : Int32)) (lv' := [(4, .int (x4 + (1 : Int32))), (3, .int y0), (0, .ref (E.ad 22 0)), (1, .int x1), (2, .int x2)]) hx hb dX7_again_124 hl (k := 4) rfl rfl (by decide) rfl (fun ls hl => ?_)
            refine lv_goto (tgt := 84) hx hb dX7_again_127 (by decide) ?_
            exact ih84 z x1 x2 y0 (x4 + (1 : Int32)) _ _ _ hf hP hS (lv_sub hl [2, 3, 4, 1, 0] rfl)
          have hB122 : ∀ (z : Ob) (x1 : Int32) (x2 : Int32) (x4 : Int32) (H : Heap) (locs : List Loc) (ls : Array Slot), f_X7_again_b122 (f_X7_again_l18 n18) (f_X7_again_l84 (f_X7_again_l18 n18) n84) z x1 x2 x4 = some (r, z') → va_P E.1 vwCl (GW E (va_up σ 22 z)) H → va_S (GA E) s.heap H locs → lv_has ls 5 [(0, .ref (E.ad 22 0)), (1, .int x1), (2, .int x2), (4, .int x4)] → W p l e rm_X7_again s m ([.ref (E.ad 22 0)] : List Value).toArray below meth c H locs 0 0 Z (F0 m 122 ls []) := by
            intro z x1 x2 x4 H locs ls hf hP hS hl
            unfold f_X7_again_b122 at hf
            refine lv_iconst (v := 0) hx hb dX7_again_122 (by decide) ?_
            exact hB123 z x1 x2 x4 (0 : Int32) _ _ _ hf hP hS (lv_sub hl [0, 1, 2, 3] rfl)
          intro z x1 x2 x3 x4 H locs ls hf hP hS hl
          unfold f_X7_again_l84 at hf
          refine lv_iload hx hb dX7_again_84 (lv_at hl 4 rfl) ?_
          refine lv_iload_n hx hb dX7_again_86 rfl (lv_at hl 1 rfl) ?_
          refine lv_icmp_ge (tgt := 130) hx hb dX7_again_87 (by decide) (fun c2 => ?_) (fun c2 => ?_)
          · have hf := if_t c2 hf
            refine lv_iload_n hx hb dX7_again_130 rfl (lv_at hl 3 rfl) ?_
            refine lv_if_eq (tgt := 136) hx hb dX7_again_131 (by decide) (fun c3 => ?_) (fun c3 => ?_)
            · have hf := if_t c3 hf
              refine lv_iinc (v := x2 + (1 : Int32)) (lv' := [(2, .int (x2 + (1 : Int32))), (0, .ref (E.ad 22 0)), (1, .int x1), (3, .int x3), (4, .int x4)]) hx hb dX7_again_136 hl (k := 2) rfl rfl (by decide) rfl (fun ls hl => ?_)
              refine lv_goto (tgt := 18) hx hb dX7_again_139 (by decide) ?_
              exact ih18 z x1 (x2 + (1 : Int32)) _ _ _ hf hP hS (lv_sub hl [1, 2, 0] rfl)
            · have hf := if_f c3 hf
              refine lv_iload_n hx hb dX7_again_134 rfl (lv_at hl 2 rfl) ?_
              exact fin dX7_again_135 (s1 hf) (by rw [(s2 hf)]) hP hS
          · have hf := if_f c2 hf
            refine lv_iload_n hx hb dX7_again_90 rfl (lv_at hl 3 rfl) ?_
            refine lv_if_eq (tgt := 122) hx hb dX7_again_91 (by decide) (fun c4 => ?_) (fun c4 => ?_)
            · have hf := if_t c4 hf
              exact hB122 z x1 x2 x4 _ _ _ hf hP hS (lv_sub hl [0, 1, 2, 4] rfl)
            · have hf := if_f c4 hf
              refine lv_aload_n hx hb dX7_again_94 rfl (lv_at hl 0 rfl) ?_
              refine g_get (v := .ref (E.ad 22 1)) S hB hinX7 hP m_22_0 rfl rfl 0 (by decide) fl7 rfl rfl dX7_again_95 ?_
              refine lv_sipush (v := 241) hx hb dX7_again_98 (by decide) ?_
              refine lv_iload hx hb dX7_again_101 (lv_at hl 4 rfl) ?_
              refine lv_iadd hx hb dX7_again_103 ?_
              obtain ⟨hv5, hf⟩ := ck_some hf
              refine g_iald (r := z 1) S hB hP m_22_1 rfl hv5 dX7_again_104 ?_
              refine W.eq (g2 := F0 m 105 ls [.int (z 1 (((241 : Int32) + x4).toNatClampNeg))]) rfl ?_
              refine lv_aload_n hx hb dX7_again_105 rfl (lv_at hl 0 rfl) ?_
              refine g_get (v := .ref (E.ad 22 1)) S hB hinX7 hP m_22_0 rfl rfl 0 (by decide) fl7 rfl rfl dX7_again_106 ?_
              refine lv_bipush (v := 29) hx hb dX7_again_109 (by decide) ?_
              refine lv_iload hx hb dX7_again_111 (lv_at hl 4 rfl) ?_
              refine lv_iadd hx hb dX7_again_113 ?_
              obtain ⟨hv6, hf⟩ := ck_some hf
              refine g_iald (r := z 1) S hB hP m_22_1 rfl hv6 dX7_again_114 ?_
              refine W.eq (g2 := F0 m 115 ls [.int (z 1 (((29 : Int32) + x4).toNatClampNeg)), .int (z 1 (((241 : Int32) + x4).toNatClampNeg))]) rfl ?_
              refine lv_icmp_ne (tgt := 122) hx hb dX7_again_115 (by decide) (fun c7 => ?_) (fun c7 => ?_)
              · have hf := if_f c7 hf
                exact hB122 z x1 x2 x4 _ _ _ hf hP hS (lv_sub hl [0, 1, 2, 4] rfl)
              · have hf := if_t c7 hf
                refine lv_iconst (v := 1) hx hb dX7_again_118 (by decide) ?_
                refine lv_goto (tgt := 123) hx hb dX7_again_119 (by decide) ?_
                exact hB123 z x1 x2 x4 (1 : Int32) _ _ _ hf hP hS (lv_sub hl [0, 1, 2, 4] rfl)
      have hB80 : ∀ (z : Ob) (x1 : Int32) (x2 : Int32) (y0 : Int32) (H : Heap) (locs : List Loc) (ls : Array Slot), f_X7_again_b80 (f_X7_again_l18 n18) z x1 x2 y0 = some (r, z') → va_P E.1 vwCl (GW E (va_up σ 22 z)) H → va_S (GA E) s.heap H locs → lv_has ls 5 [(0, .ref (E.ad 22 0)), (1, .int x1), (2, .int x2)] → W p l e rm_X7_again s m ([.ref (E.ad 22 0)] : List Value).toArray below meth c H locs 0 0 Z (F0 m 80 ls [.int y0]) := by
        intro z x1 x2 y0 H locs ls hf hP hS hl
        unfold f_X7_again_b80 at hf
        refine lv_istore_n (lv' := [(3, .int y0), (0, .ref (E.ad 22 0)), (1, .int x1), (2, .int x2)]) hx hb dX7_again_80 rfl hl (by decide) rfl (fun ls hl => ?_)
        refine lv_iconst (v := 0) hx hb dX7_again_81 (by decide) ?_
        refine lv_istore (lv' := [(4, .int (0 : Int32)), (3, .int y0), (0, .ref (E.ad 22 0)), (1, .int x1), (2, .int x2)]) hx hb dX7_again_82 hl (by decide) rfl (fun ls hl => ?_)
        exact hL84 FUEL z x1 x2 y0 (0 : Int32) _ _ _ hf hP hS (lv_sub hl [2, 3, 4, 1, 0] rfl)
      have hB79 : ∀ (z : Ob) (x1 : Int32) (x2 : Int32) (H : Heap) (locs : List Loc) (ls : Array Slot), f_X7_again_b79 (f_X7_again_l18 n18) z x1 x2 = some (r, z') → va_P E.1 vwCl (GW E (va_up σ 22 z)) H → va_S (GA E) s.heap H locs → lv_has ls 5 [(0, .ref (E.ad 22 0)), (1, .int x1), (2, .int x2)] → W p l e rm_X7_again s m ([.ref (E.ad 22 0)] : List Value).toArray below meth c H locs 0 0 Z (F0 m 79 ls []) := by
        intro z x1 x2 H locs ls hf hP hS hl
        unfold f_X7_again_b79 at hf
        refine lv_iconst (v := 0) hx hb dX7_again_79 (by decide) ?_
        exact hB80 z x1 x2 (0 : Int32) _ _ _ hf hP hS (lv_sub hl [0, 1, 2] rfl)
      have hB75 : ∀ (z : Ob) (x1 : Int32) (x2 : Int32) (H : Heap) (locs : List Loc) (ls : Array Slot), f_X7_again_b75 (f_X7_again_l18 n18) z x1 x2 = some (r, z') → va_P E.1 vwCl (GW E (va_up σ 22 z)) H → va_S (GA E) s.heap H locs → lv_has ls 5 [(0, .ref (E.ad 22 0)), (1, .int x1), (2, .int x2)] → W p l e rm_X7_again s m ([.ref (E.ad 22 0)] : List Value).toArray below meth c H locs 0 0 Z (F0 m 75 ls []) := by
        intro z x1 x2 H locs ls hf hP hS hl
        unfold f_X7_again_b75 at hf
        refine lv_iconst (v := 1) hx hb dX7_again_75 (by decide) ?_
        refine lv_goto (tgt := 80) hx hb dX7_again_76 (by decide) ?_
        exact hB80 z x1 x2 (1 : Int32) _ _ _ hf hP hS (lv_sub hl [0, 1, 2] rfl)
      intro z x1 x2 H locs ls hf hP hS hl
      unfold f_X7_again_l18 at hf
      refine lv_iload_n hx hb dX7_again_18 rfl (lv_at hl 2 rfl) ?_
      refine lv_bipush (v := 60) hx hb dX7_again_19 (by decide) ?_
      refine lv_icmp_gt (tgt := 142) hx hb dX7_again_21 (by decide) (fun c8 => ?_) (fun c8 => ?_)
      · have hf := if_t c8 hf
        refine lv_bipush (v := -4) hx hb dX7_again_142 (by decide) ?_
        exact fin dX7_again_144 (s1 hf) (by rw [(s2 hf)]) hP hS
      · have hf := if_f c8 hf
        refine lv_aload_n hx hb dX7_again_24 rfl (lv_at hl 0 rfl) ?_
        refine lv_sipush (v := 212) hx hb dX7_again_25 (by decide) ?_
        refine lv_iconst (v := 0) hx hb dX7_again_28 (by decide) ?_
        obtain ⟨q9, hq9, hf⟩ := bind_some hf
        refine callV_v (As := [.int (212 : Int32), .int (0 : Int32)]) (rest := []) S hB hP hS (C := RX7) (b := E.ad 22 0) (g_recv (o := 22) (d := 0) hB hP m_22_0 rfl rfl) (K_X7_dayOn l hE σ z (212 : Int32) (0 : Int32) hq9) (cwV 2 S.2.2.2.2 gX7_again_X7_dayOn rfl rfl rfl (by decide +kernel) ⟨Nat.le_of_ble_eq_true rfl, Nat.le_of_ble_eq_true rfl⟩) rfl hl.1 rfl (Nat.le_of_ble_eq_true rfl) dX7_again_29 ⟨Nat.zero_le _, Nat.zero_le _⟩ (fun H locs hP hS => ?_)
        refine lv_aload_n hx hb dX7_again_32 rfl (lv_at hl 0 rfl) ?_
        refine lv_sipush (v := 212) hx hb dX7_again_33 (by decide) ?_
        obtain ⟨q10, hq10, hf⟩ := bind_some hf
        refine callV_i (As := [.int (212 : Int32)]) (rest := []) S hB hP hS (C := RX7) (b := E.ad 22 0) (g_recv (o := 22) (d := 0) hB hP m_22_0 rfl rfl) (K_X7_standOn l hE σ q9 (212 : Int32) hq10) (cwV 1 S.2.2.2.2 gX7_again_X7_standOn rfl rfl rfl (by decide +kernel) ⟨Nat.le_of_ble_eq_true rfl, Nat.le_of_ble_eq_true rfl⟩) rfl hl.1 rfl (Nat.le_of_ble_eq_true rfl) dX7_again_36 ⟨Nat.zero_le _, Nat.zero_le _⟩ (fun H locs hP hS => ?_)
        refine lv_aload_n hx hb dX7_again_39 rfl (lv_at hl 0 rfl) ?_
        refine lv_iconst (v := 0) hx hb dX7_again_40 (by decide) ?_
        obtain ⟨q11, hq11, hf⟩ := bind_some hf
        refine callV_i (As := [.int (0 : Int32)]) (rest := [.int q10]) S hB hP hS (C := RX7) (b := E.ad 22 0) (g_recv (o := 22) (d := 0) hB hP m_22_0 rfl rfl) (K_X7_standOn l hE σ q9 (0 : Int32) hq11) (cwV 1 S.2.2.2.2 gX7_again_X7_standOn rfl rfl rfl (by decide +kernel) ⟨Nat.le_of_ble_eq_true rfl, Nat.le_of_ble_eq_true rfl⟩) rfl hl.1 rfl (Nat.le_of_ble_eq_true rfl) dX7_again_41 ⟨Nat.zero_le _, Nat.zero_le _⟩ (fun H locs hP hS => ?_)
        refine lv_icmp_ne (tgt := 79) hx hb dX7_again_44 (by decide) (fun c12 => ?_) (fun c12 => ?_)
        · have hf := if_f c12 hf
          exact hB79 q9 x1 x2 _ _ _ hf hP hS (lv_sub hl [0, 1, 2] rfl)
        · have hf := if_t c12 hf
          refine lv_aload_n hx hb dX7_again_47 rfl (lv_at hl 0 rfl) ?_
          refine g_get (v := .ref (E.ad 22 1)) S hB hinX7 hP m_22_0 rfl rfl 0 (by decide) fl7 rfl rfl dX7_again_48 ?_
          refine lv_sipush (v := 250) hx hb dX7_again_51 (by decide) ?_
          refine g_iald (r := q9 1) S hB hP m_22_1 rfl (by unfold vp_in; decide) dX7_again_54 ?_
          refine lv_aload_n hx hb dX7_again_55 rfl (lv_at hl 0 rfl) ?_
          refine g_get (v := .ref (E.ad 22 1)) S hB hinX7 hP m_22_0 rfl rfl 0 (by decide) fl7 rfl rfl dX7_again_56 ?_
          refine lv_bipush (v := 38) hx hb dX7_again_59 (by decide) ?_
          refine g_iald (r := q9 1) S hB hP m_22_1 rfl (by unfold vp_in; decide) dX7_again_61 ?_
          refine lv_icmp_ne (tgt := 79) hx hb dX7_again_62 (by decide) (fun c13 => ?_) (fun c13 => ?_)
          · have hf := if_f c13 hf
            exact hB79 q9 x1 x2 _ _ _ hf hP hS (lv_sub hl [0, 1, 2] rfl)
          · have hf := if_t c13 hf
            refine lv_iload_n hx hb dX7_again_65 rfl (lv_at hl 1 rfl) ?_
            refine lv_if_eq (tgt := 75) hx hb dX7_again_66 (by decide) (fun c14 => ?_) (fun c14 => ?_)
            · have hf := if_t c14 hf
              exact hB75 q9 x1 x2 _ _ _ hf hP hS (lv_sub hl [0, 1, 2] rfl)
            · have hf := if_f c14 hf
              refine lv_iload_n hx hb dX7_again_69 rfl (lv_at hl 2 rfl) ?_
              refine lv_iload_n hx hb dX7_again_70 rfl (lv_at hl 1 rfl) ?_
              obtain ⟨hv15, hf⟩ := ckn_some hf
              refine lv_irem hx hb dX7_again_71 hv15 ?_
              refine lv_if_ne (tgt := 79) hx hb dX7_again_72 (by decide) (fun c16 => ?_) (fun c16 => ?_)
              · have hf := if_f c16 hf
                exact hB79 q9 x1 x2 _ _ _ hf hP hS (lv_sub hl [0, 1, 2] rfl)
              · have hf := if_t c16 hf
                exact hB75 q9 x1 x2 _ _ _ hf hP hS (lv_sub hl [0, 1, 2] rfl)
  unfold f_X7_again at hf
  refine lv_aload_n hx hb dX7_again_0 rfl (lv_at hl 0 rfl) ?_
  refine lv_iconst (v := 0) hx hb dX7_again_1 (by decide) ?_
  refine lv_sipush (v := 212) hx hb dX7_again_2 (by decide) ?_
  obtain ⟨q1, hq1, hf⟩ := bind_some hf
  refine callV_v (As := [.int (0 : Int32), .int (212 : Int32)]) (rest := []) S hB hP hS (C := RX7) (b := E.ad 22 0) (g_recv (o := 22) (d := 0) hB hP m_22_0 rfl rfl) (K_X7_copies l hE σ z (0 : Int32) (212 : Int32) hq1) (cwV 2 S.2.2.2.2 gX7_again_X7_copies rfl rfl rfl (by decide +kernel) ⟨Nat.le_of_ble_eq_true rfl, Nat.le_of_ble_eq_true rfl⟩) rfl hl.1 rfl (Nat.le_of_ble_eq_true rfl) dX7_again_5 ⟨Nat.zero_le _, Nat.zero_le _⟩ (fun H locs hP hS => ?_)
  refine lv_aload_n hx hb dX7_again_8 rfl (lv_at hl 0 rfl) ?_
  refine g_get (v := .ref (E.ad 22 1)) S hB hinX7 hP m_22_0 rfl rfl 0 (by decide) fl7 rfl rfl dX7_again_9 ?_
  refine lv_bipush (v := 37) hx hb dX7_again_12 (by decide) ?_
  refine g_iald (r := q1 1) S hB hP m_22_1 rfl (by unfold vp_in; decide) dX7_again_14 ?_
  refine lv_istore_n (lv' := [(1, .int (q1 1 37)), (0, .ref (E.ad 22 0))]) hx hb dX7_again_15 rfl hl (by decide) rfl (fun ls hl => ?_)
  refine lv_iconst (v := 1) hx hb dX7_again_16 (by decide) ?_
  refine lv_istore_n (lv' := [(2, .int (1 : Int32)), (1, .int (q1 1 37)), (0, .ref (E.ad 22 0))]) hx hb dX7_again_17 rfl hl (by decide) rfl (fun ls hl => ?_)
  exact hL18 FUEL q1 (q1 1 37) (1 : Int32) _ _ _ hf hP hS (lv_sub hl [2, 1, 0] rfl)
theorem KW_X7_again (l : Launch) {E : En} (hE : Inj E) (X : Wd) {r : Int32} {z' : Ob} (hf : f_X7_again (X 22) = some (r, z')) : Cti l E yX7_again wsX7_again rm_X7_again [.ref (E.ad 22 0)] X r (va_up X 22 z') := by
  have h := K_X7_again l hE X (X 22)  hf
  rw [lens_all] at h
  exact h
/-! X7_cut -/
abbrev rm_X7_cut : Room := { frames := 5, cells := 0, slots := 0, locals := 118 }
set_option maxHeartbeats 4000000 in
set_option maxRecDepth 100000 in
theorem K_X7_cut (l : Launch) {E : En} (hE : Inj E) (σ : Wd) (z : Ob) (a1 : Int32) (a2 : Int32) {r : Int32} {z' : Ob} (hf : f_X7_cut z a1 a2 = some (r, z')) : Cti l E yX7_cut wsX7_cut rm_X7_cut [.ref (E.ad 22 0), .int a1, .int a2] (va_up σ 22 z) r (va_up σ 22 z') := by
  refine meet_i (cc := cX7_cut) (maxL := 7) (own := RX7) (by decide) rfl rfl (Nat.le_of_ble_eq_true rfl) ?_
  intro p e s m below meth c Z S hB fin hP hS ls hl
  have hx := S.1
  have hb := S.2.1
  have hl : lv_has ls 7 [(0, .ref (E.ad 22 0)), (1, .int a1), (2, .int a2)] := hl
  have hinX7 : ∀ w ∈ u_ws RX7 TX7 25, w ∈ wsX7_cut := by decide +kernel
  have fl7 := S.2.2.2.2 (.fieldLink RX7 7 "MownMazeModel" "state" "[I") (by decide +kernel)
  have hB128 : ∀ (z : Ob) (x4 : Int32) (H : Heap) (locs : List Loc) (ls : Array Slot), f_X7_cut_b128 z x4 = some (r, z') → va_P E.1 vwCl (GW E (va_up σ 22 z)) H → va_S (GA E) s.heap H locs → lv_has ls 7 [(4, .int x4)] → W p l e rm_X7_cut s m ([.ref (E.ad 22 0), .int a1, .int a2] : List Value).toArray below meth c H locs 0 0 Z (F0 m 128 ls []) := by
    intro z x4 H locs ls hf hP hS hl
    unfold f_X7_cut_b128 at hf
    refine lv_iload hx hb dX7_cut_128 (lv_at hl 0 rfl) ?_
    refine lv_goto (tgt := 134) hx hb dX7_cut_130 (by decide) ?_
    exact fin dX7_cut_134 (s1 hf) (by rw [(s2 hf)]) hP hS
  have hL38 : ∀ (n38 : Nat) (z : Ob) (x1 : Int32) (x2 : Int32) (x3 : Int32) (x4 : Int32) (x5 : Int32) (H : Heap) (locs : List Loc) (ls : Array Slot), f_X7_cut_l38 n38 z x1 x2 x3 x4 x5 = some (r, z') → va_P E.1 vwCl (GW E (va_up σ 22 z)) H → va_S (GA E) s.heap H locs → lv_has ls 7 [(0, .ref (E.ad 22 0)), (1, .int x1), (2, .int x2), (3, .int x3), (4, .int x4), (5, .int x5)] → W p l e rm_X7_cut s m ([.ref (E.ad 22 0), .int a1, .int a2] : List Value).toArray below meth c H locs 0 0 Z (F0 m 38 ls []) := by
    intro n38
    induction n38 with
    | zero =>
      intro z x1 x2 x3 x4 x5 H locs ls hf
      cases (show (none : Option _) = some _ from hf)
    | succ n38 ih38 =>
      have hB110 : ∀ (z : Ob) (x1 : Int32) (x2 : Int32) (x4 : Int32) (x5 : Int32) (y0 : Int32) (H : Heap) (locs : List Loc) (ls : Array Slot), f_X7_cut_b110 (f_X7_cut_l38 n38) z x1 x2 x4 x5 y0 = some (r, z') → va_P E.1 vwCl (GW E (va_up σ 22 z)) H → va_S (GA E) s.heap H locs → lv_has ls 7 [(0, .ref (E.ad 22 0)), (1, .int x1), (2, .int x2), (4, .int x4), (5, .int x5)] → W p l e rm_X7_cut s m ([.ref (E.ad 22 0), .int a1, .int a2] : List Value).toArray below meth c H locs 0 0 Z (F0 m 110 ls [.int y0]) := by
        intro z x1 x2 x4 x5 y0 H locs ls hf hP hS hl
        unfold f_X7_cut_b110 at hf
        refine lv_istore_n (lv' := [(3, .int y0), (0, .ref (E.ad 22 0)), (1, .int x1), (2, .int x2), (4, .int x4), (5, .int x5)]) hx hb dX7_cut_110 rfl hl (by decide) rfl (fun ls hl => ?_)
        refine lv_iinc (v := x5 + (1 : Int32)) (lv' := [(5, .int (x5 + (1 : Int32))), (3, .int y0), (0, .ref (E.ad 22 0)), (1, .int x1), (2, .int x2), (4, .int x4)]) hx hb dX7_cut_111 hl (k := 5) rfl rfl (by decide) rfl (fun ls hl => ?_)
        refine lv_goto (tgt := 38) hx hb dX7_cut_114 (by decide) ?_
        exact ih38 z x1 x2 y0 x4 (x5 + (1 : Int32)) _ _ _ hf hP hS (lv_sub hl [2, 3, 4, 1, 5, 0] rfl)
      have hB96 : ∀ (z : Ob) (x1 : Int32) (x2 : Int32) (x3 : Int32) (x5 : Int32) (x6 : Int32) (y0 : Int32) (H : Heap) (locs : List Loc) (ls : Array Slot), f_X7_cut_b96 (f_X7_cut_l38 n38) z x1 x2 x3 x5 x6 y0 = some (r, z') → va_P E.1 vwCl (GW E (va_up σ 22 z)) H → va_S (GA E) s.heap H locs → lv_has ls 7 [(0, .ref (E.ad 22 0)), (1, .int x1), (2, .int x2), (3, .int x3), (5, .int x5), (6, .int x6)] → W p l e rm_X7_cut s m ([.ref (E.ad 22 0), .int a1, .int a2] : List Value).toArray below meth c H locs 0 0 Z (F0 m 96 ls [.int y0]) := by
        intro z x1 x2 x3 x5 x6 y0 H locs ls hf hP hS hl
        unfold f_X7_cut_b96 at hf
        refine lv_istore (lv' := [(4, .int y0), (0, .ref (E.ad 22 0)), (1, .int x1), (2, .int x2), (3, .int x3), (5, .int x5), (6, .int x6)]) hx hb dX7_cut_96 hl (by decide) rfl (fun ls hl => ?_)
        refine lv_iload hx hb dX7_cut_98 (lv_at hl 6 rfl) ?_
        refine lv_iload_n hx hb dX7_cut_100 rfl (lv_at hl 4 rfl) ?_
        refine lv_icmp_le (tgt := 109) hx hb dX7_cut_101 (by decide) (fun c6 => ?_) (fun c6 => ?_)
        · have hf := if_t c6 hf
          refine lv_iload_n hx hb dX7_cut_109 rfl (lv_at hl 4 rfl) ?_
          exact hB110 z x1 x2 y0 x5 x3 _ _ _ hf hP hS (lv_sub hl [1, 2, 3, 0, 5] rfl)
        · have hf := if_f c6 hf
          refine lv_iload hx hb dX7_cut_104 (lv_at hl 6 rfl) ?_
          refine lv_goto (tgt := 110) hx hb dX7_cut_106 (by decide) ?_
          exact hB110 z x1 x2 y0 x5 x6 _ _ _ hf hP hS (lv_sub hl [1, 2, 3, 0, 5] rfl)
      intro z x1 x2 x3 x4 x5 H locs ls hf hP hS hl
      unfold f_X7_cut_l38 at hf
      refine lv_iload hx hb dX7_cut_38 (lv_at hl 5 rfl) ?_
      refine lv_bipush (v := 24) hx hb dX7_cut_40 (by decide) ?_
      refine lv_icmp_ge (tgt := 117) hx hb dX7_cut_42 (by decide) (fun c7 => ?_) (fun c7 => ?_)
      · have hf := if_t c7 hf
        refine lv_iload hx hb dX7_cut_117 (lv_at hl 4 rfl) ?_
        refine lv_bipush (v := -4) hx hb dX7_cut_119 (by decide) ?_
        refine lv_icmp_eq (tgt := 128) hx hb dX7_cut_121 (by decide) (fun c8 => ?_) (fun c8 => ?_)
        · have hf := if_t c8 hf
          exact hB128 z x4 _ _ _ hf hP hS (lv_sub hl [4] rfl)
        · have hf := if_f c8 hf
          refine lv_iload_n hx hb dX7_cut_124 rfl (lv_at hl 2 rfl) ?_
          refine lv_if_ne (tgt := 133) hx hb dX7_cut_125 (by decide) (fun c9 => ?_) (fun c9 => ?_)
          · have hf := if_f c9 hf
            refine lv_iload_n hx hb dX7_cut_133 rfl (lv_at hl 3 rfl) ?_
            exact fin dX7_cut_134 (s1 hf) (by rw [(s2 hf)]) hP hS
          · have hf := if_t c9 hf
            exact hB128 z x4 _ _ _ hf hP hS (lv_sub hl [4] rfl)
      · have hf := if_f c7 hf
        refine lv_aload_n hx hb dX7_cut_45 rfl (lv_at hl 0 rfl) ?_
        refine lv_iconst (v := 0) hx hb dX7_cut_46 (by decide) ?_
        refine lv_sipush (v := 265) hx hb dX7_cut_47 (by decide) ?_
        obtain ⟨q10, hq10, hf⟩ := bind_some hf
        refine callV_v (As := [.int (0 : Int32), .int (265 : Int32)]) (rest := []) S hB hP hS (C := RX7) (b := E.ad 22 0) (g_recv (o := 22) (d := 0) hB hP m_22_0 rfl rfl) (K_X7_copies l hE σ z (0 : Int32) (265 : Int32) hq10) (cwV 2 S.2.2.2.2 gX7_cut_X7_copies rfl rfl rfl (by decide +kernel) ⟨Nat.le_of_ble_eq_true rfl, Nat.le_of_ble_eq_true rfl⟩) rfl hl.1 rfl (Nat.le_of_ble_eq_true rfl) dX7_cut_50 ⟨Nat.zero_le _, Nat.zero_le _⟩ (fun H locs hP hS => ?_)
        refine lv_aload_n hx hb dX7_cut_53 rfl (lv_at hl 0 rfl) ?_
        refine g_get (v := .ref (E.ad 22 1)) S hB hinX7 hP m_22_0 rfl rfl 0 (by decide) fl7 rfl rfl dX7_cut_54 ?_
        refine lv_sipush (v := 265) hx hb dX7_cut_57 (by decide) ?_
        refine lv_iload hx hb dX7_cut_60 (lv_at hl 5 rfl) ?_
        refine lv_iadd hx hb dX7_cut_62 ?_
        refine lv_iconst (v := 1) hx hb dX7_cut_63 (by decide) ?_
        refine lv_aload_n hx hb dX7_cut_64 rfl (lv_at hl 0 rfl) ?_
        refine g_get (v := .ref (E.ad 22 1)) S hB hinX7 hP m_22_0 rfl rfl 0 (by decide) fl7 rfl rfl dX7_cut_65 ?_
        refine lv_iload hx hb dX7_cut_68 (lv_at hl 5 rfl) ?_
        obtain ⟨hv11, hf⟩ := ck_some hf
        refine g_iald (r := q10 1) S hB hP m_22_1 rfl hv11 dX7_cut_70 ?_
        refine lv_isub hx hb dX7_cut_71 ?_
        obtain ⟨hv12, hf⟩ := ck_some hf
        refine g_iast (r := q10 1) S hB hE hP hS m_22_1 rfl rfl (fun _ => rfl) hv12 (X' := (va_up σ 22 (ob q10 1 (((265 : Int32) + x5).toNatClampNeg) ((1 : Int32) - (q10 1 x5.toNatClampNeg))))) (lens_put σ 22 _ _ _ _) dX7_cut_72 (fun H locs hP hS => ?_)
        refine lv_aload_n hx hb dX7_cut_73 rfl (lv_at hl 0 rfl) ?_
        refine lv_sipush (v := 265) hx hb dX7_cut_74 (by decide) ?_
        refine lv_iload_n hx hb dX7_cut_77 rfl (lv_at hl 1 rfl) ?_
        obtain ⟨q13, hq13, hf⟩ := bind_some hf
        refine callV_i (As := [.int (265 : Int32), .int x1]) (rest := []) S hB hP hS (C := RX7) (b := E.ad 22 0) (g_recv (o := 22) (d := 0) hB hP m_22_0 rfl rfl) (K_X7_daysGo l hE σ (ob q10 1 (((265 : Int32) + x5).toNatClampNeg) ((1 : Int32) - (q10 1 x5.toNatClampNeg))) (265 : Int32) x1 hq13) (cwV 2 S.2.2.2.2 gX7_cut_X7_daysGo rfl rfl rfl (by decide +kernel) ⟨Nat.le_of_ble_eq_true rfl, Nat.le_of_ble_eq_true rfl⟩) rfl hl.1 rfl (Nat.le_of_ble_eq_true rfl) dX7_cut_78 ⟨Nat.zero_le _, Nat.zero_le _⟩ (fun H locs hP hS => ?_)
        refine lv_istore (lv' := [(6, .int q13.1), (0, .ref (E.ad 22 0)), (1, .int x1), (2, .int x2), (3, .int x3), (4, .int x4), (5, .int x5)]) hx hb dX7_cut_81 hl (by decide) rfl (fun ls hl => ?_)
        refine lv_iload hx hb dX7_cut_83 (lv_at hl 0 rfl) ?_
        refine lv_iload_n hx hb dX7_cut_85 rfl (lv_at hl 4 rfl) ?_
        refine lv_icmp_le (tgt := 94) hx hb dX7_cut_86 (by decide) (fun c14 => ?_) (fun c14 => ?_)
        · have hf := if_t c14 hf
          refine lv_iload hx hb dX7_cut_94 (lv_at hl 5 rfl) ?_
          exact hB96 q13.2 x1 x2 x3 x5 q13.1 x4 _ _ _ hf hP hS (lv_sub hl [1, 2, 3, 4, 6, 0] rfl)
        · have hf := if_f c14 hf
          refine lv_iload hx hb dX7_cut_89 (lv_at hl 6 rfl) ?_
          refine lv_goto (tgt := 96) hx hb dX7_cut_91 (by decide) ?_
          exact hB96 q13.2 x1 x2 x3 x5 q13.1 x5 _ _ _ hf hP hS (lv_sub hl [1, 2, 3, 4, 6, 0] rfl)
  unfold f_X7_cut at hf
  refine lv_iload_n hx hb dX7_cut_0 rfl (lv_at hl 1 rfl) ?_
  refine lv_i2l hx hb dX7_cut_1 (v := a1.toInt64) rfl ?_
  refine lv_lconst (v := 0) hx hb dX7_cut_2 (by decide) ?_
  refine lv_ldc2 hx hb S.2.2.2.1 (S.2.2.2.2 (.constantLong RX7 194 (60)) (by decide +kernel)) dX7_cut_3 ?_
  obtain ⟨q1, hq1, hf⟩ := bind_some hf
  refine callS_i (As := [.long a1.toInt64, .long (0 : Int64), .long (60 : Int64)]) (rest := []) S hB hP hS (K_X7_in l hE (va_up σ 22 z) a1.toInt64 (0 : Int64) (60 : Int64) hq1) (va_cwS 3 S.2.2.2.2 gX7_cut_X7_in rfl rfl rfl (by decide +kernel) ⟨Nat.le_of_ble_eq_true rfl, Nat.le_of_ble_eq_true rfl⟩) rfl hl.1 rfl (Nat.le_of_ble_eq_true rfl) dX7_cut_6 ⟨Nat.zero_le _, Nat.zero_le _⟩ (fun H locs hP hS => ?_)
  refine lv_if_eq (tgt := 22) hx hb dX7_cut_9 (by decide) (fun c2 => ?_) (fun c2 => ?_)
  · have hf := if_t c2 hf
    refine lv_iconst (v := -1) hx hb dX7_cut_22 (by decide) ?_
    exact fin dX7_cut_23 (s1 hf) (by rw [(s2 hf)]) hP hS
  · have hf := if_f c2 hf
    refine lv_iload_n hx hb dX7_cut_12 rfl (lv_at hl 2 rfl) ?_
    refine lv_i2l hx hb dX7_cut_13 (v := a2.toInt64) rfl ?_
    refine lv_lconst (v := 0) hx hb dX7_cut_14 (by decide) ?_
    refine lv_lconst (v := 1) hx hb dX7_cut_15 (by decide) ?_
    obtain ⟨q3, hq3, hf⟩ := bind_some hf
    refine callS_i (As := [.long a2.toInt64, .long (0 : Int64), .long (1 : Int64)]) (rest := []) S hB hP hS (K_X7_in l hE (va_up σ 22 z) a2.toInt64 (0 : Int64) (1 : Int64) hq3) (va_cwS 3 S.2.2.2.2 gX7_cut_X7_in rfl rfl rfl (by decide +kernel) ⟨Nat.le_of_ble_eq_true rfl, Nat.le_of_ble_eq_true rfl⟩) rfl hl.1 rfl (Nat.le_of_ble_eq_true rfl) dX7_cut_16 ⟨Nat.zero_le _, Nat.zero_le _⟩ (fun H locs hP hS => ?_)
    refine lv_if_ne (tgt := 24) hx hb dX7_cut_19 (by decide) (fun c4 => ?_) (fun c4 => ?_)
    · have hf := if_f c4 hf
      refine lv_aload_n hx hb dX7_cut_24 rfl (lv_at hl 0 rfl) ?_
      refine lv_iconst (v := 0) hx hb dX7_cut_25 (by decide) ?_
      refine lv_iload_n hx hb dX7_cut_26 rfl (lv_at hl 1 rfl) ?_
      obtain ⟨q5, hq5, hf⟩ := bind_some hf
      refine callV_i (As := [.int (0 : Int32), .int a1]) (rest := []) S hB hP hS (C := RX7) (b := E.ad 22 0) (g_recv (o := 22) (d := 0) hB hP m_22_0 rfl rfl) (K_X7_daysGo l hE σ z (0 : Int32) a1 hq5) (cwV 2 S.2.2.2.2 gX7_cut_X7_daysGo rfl rfl rfl (by decide +kernel) ⟨Nat.le_of_ble_eq_true rfl, Nat.le_of_ble_eq_true rfl⟩) rfl hl.1 rfl (Nat.le_of_ble_eq_true rfl) dX7_cut_27 ⟨Nat.zero_le _, Nat.zero_le _⟩ (fun H locs hP hS => ?_)
      refine lv_istore_n (lv' := [(3, .int q5.1), (0, .ref (E.ad 22 0)), (1, .int a1), (2, .int a2)]) hx hb dX7_cut_30 rfl hl (by decide) rfl (fun ls hl => ?_)
      refine lv_bipush (v := -4) hx hb dX7_cut_31 (by decide) ?_
      refine lv_istore (lv' := [(4, .int (-4 : Int32)), (3, .int q5.1), (0, .ref (E.ad 22 0)), (1, .int a1), (2, .int a2)]) hx hb dX7_cut_33 hl (by decide) rfl (fun ls hl => ?_)
      refine lv_iconst (v := 0) hx hb dX7_cut_35 (by decide) ?_
      refine lv_istore (lv' := [(5, .int (0 : Int32)), (4, .int (-4 : Int32)), (3, .int q5.1), (0, .ref (E.ad 22 0)), (1, .int a1), (2, .int a2)]) hx hb dX7_cut_36 hl (by decide) rfl (fun ls hl => ?_)
      exact hL38 FUEL q5.2 a1 a2 q5.1 (-4 : Int32) (0 : Int32) _ _ _ hf hP hS (lv_sub hl [3, 4, 5, 2, 1, 0] rfl)
    · have hf := if_t c4 hf
      refine lv_iconst (v := -1) hx hb dX7_cut_22 (by decide) ?_
      exact fin dX7_cut_23 (s1 hf) (by rw [(s2 hf)]) hP hS
theorem KW_X7_cut (l : Launch) {E : En} (hE : Inj E) (X : Wd) (a1 : Int32) (a2 : Int32) {r : Int32} {z' : Ob} (hf : f_X7_cut (X 22) a1 a2 = some (r, z')) : Cti l E yX7_cut wsX7_cut rm_X7_cut [.ref (E.ad 22 0), .int a1, .int a2] X r (va_up X 22 z') := by
  have h := K_X7_cut l hE X (X 22) a1 a2 hf
  rw [lens_all] at h
  exact h
/-! X7_door -/
abbrev rm_X7_door : Room := { frames := 5, cells := 0, slots := 0, locals := 118 }
set_option maxHeartbeats 4000000 in
set_option maxRecDepth 100000 in
theorem K_X7_door (l : Launch) {E : En} (hE : Inj E) (σ : Wd) (z : Ob) (a1 : Int32) (a2 : Int32) {r : Int32} {z' : Ob} (hf : f_X7_door z a1 a2 = some (r, z')) : Cti l E yX7_door wsX7_door rm_X7_door [.ref (E.ad 22 0), .int a1, .int a2] (va_up σ 22 z) r (va_up σ 22 z') := by
  refine meet_i (cc := cX7_door) (maxL := 7) (own := RX7) (by decide) rfl rfl (Nat.le_of_ble_eq_true rfl) ?_
  intro p e s m below meth c Z S hB fin hP hS ls hl
  have hx := S.1
  have hb := S.2.1
  have hl : lv_has ls 7 [(0, .ref (E.ad 22 0)), (1, .int a1), (2, .int a2)] := hl
  have hinX7 : ∀ w ∈ u_ws RX7 TX7 25, w ∈ wsX7_door := by decide +kernel
  have fl7 := S.2.2.2.2 (.fieldLink RX7 7 "MownMazeModel" "state" "[I") (by decide +kernel)
  have hL40 : ∀ (n40 : Nat) (z : Ob) (x1 : Int32) (x2 : Int32) (x3 : Int32) (x4 : Int32) (x5 : Int32) (H : Heap) (locs : List Loc) (ls : Array Slot), f_X7_door_l40 n40 z x1 x2 x3 x4 x5 = some (r, z') → va_P E.1 vwCl (GW E (va_up σ 22 z)) H → va_S (GA E) s.heap H locs → lv_has ls 7 [(0, .ref (E.ad 22 0)), (1, .int x1), (2, .int x2), (3, .int x3), (4, .int x4), (5, .int x5)] → W p l e rm_X7_door s m ([.ref (E.ad 22 0), .int a1, .int a2] : List Value).toArray below meth c H locs 0 0 Z (F0 m 40 ls []) := by
    intro n40
    induction n40 with
    | zero =>
      intro z x1 x2 x3 x4 x5 H locs ls hf
      cases (show (none : Option _) = some _ from hf)
    | succ n40 ih40 =>
      have hB94 : ∀ (z : Ob) (x1 : Int32) (x2 : Int32) (x4 : Int32) (x5 : Int32) (y0 : Int32) (H : Heap) (locs : List Loc) (ls : Array Slot), f_X7_door_b94 (f_X7_door_l40 n40) z x1 x2 x4 x5 y0 = some (r, z') → va_P E.1 vwCl (GW E (va_up σ 22 z)) H → va_S (GA E) s.heap H locs → lv_has ls 7 [(0, .ref (E.ad 22 0)), (1, .int x1), (2, .int x2), (4, .int x4), (5, .int x5)] → W p l e rm_X7_door s m ([.ref (E.ad 22 0), .int a1, .int a2] : List Value).toArray below meth c H locs 0 0 Z (F0 m 94 ls [.int y0]) := by
        intro z x1 x2 x4 x5 y0 H locs ls hf hP hS hl
        unfold f_X7_door_b94 at hf
        refine lv_istore_n (lv' := [(3, .int y0), (0, .ref (E.ad 22 0)), (1, .int x1), (2, .int x2), (4, .int x4), (5, .int x5)]) hx hb dX7_door_94 rfl hl (by decide) rfl (fun ls hl => ?_)
        refine lv_iinc (v := x5 + (1 : Int32)) (lv' := [(5, .int (x5 + (1 : Int32))), (3, .int y0), (0, .ref (E.ad 22 0)), (1, .int x1), (2, .int x2), (4, .int x4)]) hx hb dX7_door_95 hl (k := 5) rfl rfl (by decide) rfl (fun ls hl => ?_)
        refine lv_goto (tgt := 40) hx hb dX7_door_98 (by decide) ?_
        exact ih40 z x1 x2 y0 x4 (x5 + (1 : Int32)) _ _ _ hf hP hS (lv_sub hl [2, 3, 4, 1, 5, 0] rfl)
      have hB80 : ∀ (z : Ob) (x1 : Int32) (x2 : Int32) (x3 : Int32) (x5 : Int32) (x6 : Int32) (y0 : Int32) (H : Heap) (locs : List Loc) (ls : Array Slot), f_X7_door_b80 (f_X7_door_l40 n40) z x1 x2 x3 x5 x6 y0 = some (r, z') → va_P E.1 vwCl (GW E (va_up σ 22 z)) H → va_S (GA E) s.heap H locs → lv_has ls 7 [(0, .ref (E.ad 22 0)), (1, .int x1), (2, .int x2), (3, .int x3), (5, .int x5), (6, .int x6)] → W p l e rm_X7_door s m ([.ref (E.ad 22 0), .int a1, .int a2] : List Value).toArray below meth c H locs 0 0 Z (F0 m 80 ls [.int y0]) := by
        intro z x1 x2 x3 x5 x6 y0 H locs ls hf hP hS hl
        unfold f_X7_door_b80 at hf
        refine lv_istore (lv' := [(4, .int y0), (0, .ref (E.ad 22 0)), (1, .int x1), (2, .int x2), (3, .int x3), (5, .int x5), (6, .int x6)]) hx hb dX7_door_80 hl (by decide) rfl (fun ls hl => ?_)
        refine lv_iload hx hb dX7_door_82 (lv_at hl 6 rfl) ?_
        refine lv_iload_n hx hb dX7_door_84 rfl (lv_at hl 4 rfl) ?_
        refine lv_icmp_le (tgt := 93) hx hb dX7_door_85 (by decide) (fun c6 => ?_) (fun c6 => ?_)
        · have hf := if_t c6 hf
          refine lv_iload_n hx hb dX7_door_93 rfl (lv_at hl 4 rfl) ?_
          exact hB94 z x1 x2 y0 x5 x3 _ _ _ hf hP hS (lv_sub hl [1, 2, 3, 0, 5] rfl)
        · have hf := if_f c6 hf
          refine lv_iload hx hb dX7_door_88 (lv_at hl 6 rfl) ?_
          refine lv_goto (tgt := 94) hx hb dX7_door_90 (by decide) ?_
          exact hB94 z x1 x2 y0 x5 x6 _ _ _ hf hP hS (lv_sub hl [1, 2, 3, 0, 5] rfl)
      intro z x1 x2 x3 x4 x5 H locs ls hf hP hS hl
      unfold f_X7_door_l40 at hf
      refine lv_iload hx hb dX7_door_40 (lv_at hl 5 rfl) ?_
      refine lv_bipush (v := 16) hx hb dX7_door_42 (by decide) ?_
      refine lv_icmp_ge (tgt := 101) hx hb dX7_door_44 (by decide) (fun c7 => ?_) (fun c7 => ?_)
      · have hf := if_t c7 hf
        refine lv_iload_n hx hb dX7_door_101 rfl (lv_at hl 2 rfl) ?_
        refine lv_if_ne (tgt := 110) hx hb dX7_door_102 (by decide) (fun c8 => ?_) (fun c8 => ?_)
        · have hf := if_f c8 hf
          refine lv_iload_n hx hb dX7_door_110 rfl (lv_at hl 3 rfl) ?_
          exact fin dX7_door_111 (s1 hf) (by rw [(s2 hf)]) hP hS
        · have hf := if_t c8 hf
          refine lv_iload hx hb dX7_door_105 (lv_at hl 4 rfl) ?_
          refine lv_goto (tgt := 111) hx hb dX7_door_107 (by decide) ?_
          exact fin dX7_door_111 (s1 hf) (by rw [(s2 hf)]) hP hS
      · have hf := if_f c7 hf
        refine lv_aload_n hx hb dX7_door_47 rfl (lv_at hl 0 rfl) ?_
        refine g_get (v := .ref (E.ad 22 1)) S hB hinX7 hP m_22_0 rfl rfl 0 (by decide) fl7 rfl rfl dX7_door_48 ?_
        refine lv_sipush (v := 289) hx hb dX7_door_51 (by decide) ?_
        refine lv_iload hx hb dX7_door_54 (lv_at hl 5 rfl) ?_
        refine g_iast (r := z 1) S hB hE hP hS m_22_1 rfl rfl (fun _ => rfl) (by unfold vp_in; decide) (X' := (va_up σ 22 (ob z 1 289 x5))) (lens_put σ 22 _ _ _ _) dX7_door_56 (fun H locs hP hS => ?_)
        refine lv_aload_n hx hb dX7_door_57 rfl (lv_at hl 0 rfl) ?_
        refine lv_sipush (v := 265) hx hb dX7_door_58 (by decide) ?_
        refine lv_iload_n hx hb dX7_door_61 rfl (lv_at hl 1 rfl) ?_
        obtain ⟨q9, hq9, hf⟩ := bind_some hf
        refine callV_i (As := [.int (265 : Int32), .int x1]) (rest := []) S hB hP hS (C := RX7) (b := E.ad 22 0) (g_recv (o := 22) (d := 0) hB hP m_22_0 rfl rfl) (K_X7_daysGo l hE σ (ob z 1 289 x5) (265 : Int32) x1 hq9) (cwV 2 S.2.2.2.2 gX7_door_X7_daysGo rfl rfl rfl (by decide +kernel) ⟨Nat.le_of_ble_eq_true rfl, Nat.le_of_ble_eq_true rfl⟩) rfl hl.1 rfl (Nat.le_of_ble_eq_true rfl) dX7_door_62 ⟨Nat.zero_le _, Nat.zero_le _⟩ (fun H locs hP hS => ?_)
        refine lv_istore (lv' := [(6, .int q9.1), (0, .ref (E.ad 22 0)), (1, .int x1), (2, .int x2), (3, .int x3), (4, .int x4), (5, .int x5)]) hx hb dX7_door_65 hl (by decide) rfl (fun ls hl => ?_)
        refine lv_iload hx hb dX7_door_67 (lv_at hl 0 rfl) ?_
        refine lv_iload_n hx hb dX7_door_69 rfl (lv_at hl 4 rfl) ?_
        refine lv_icmp_le (tgt := 78) hx hb dX7_door_70 (by decide) (fun c10 => ?_) (fun c10 => ?_)
        · have hf := if_t c10 hf
          refine lv_iload hx hb dX7_door_78 (lv_at hl 5 rfl) ?_
          exact hB80 q9.2 x1 x2 x3 x5 q9.1 x4 _ _ _ hf hP hS (lv_sub hl [1, 2, 3, 4, 6, 0] rfl)
        · have hf := if_f c10 hf
          refine lv_iload hx hb dX7_door_73 (lv_at hl 6 rfl) ?_
          refine lv_goto (tgt := 80) hx hb dX7_door_75 (by decide) ?_
          exact hB80 q9.2 x1 x2 x3 x5 q9.1 x5 _ _ _ hf hP hS (lv_sub hl [1, 2, 3, 4, 6, 0] rfl)
  unfold f_X7_door at hf
  refine lv_iload_n hx hb dX7_door_0 rfl (lv_at hl 1 rfl) ?_
  refine lv_i2l hx hb dX7_door_1 (v := a1.toInt64) rfl ?_
  refine lv_lconst (v := 0) hx hb dX7_door_2 (by decide) ?_
  refine lv_ldc2 hx hb S.2.2.2.1 (S.2.2.2.2 (.constantLong RX7 194 (60)) (by decide +kernel)) dX7_door_3 ?_
  obtain ⟨q1, hq1, hf⟩ := bind_some hf
  refine callS_i (As := [.long a1.toInt64, .long (0 : Int64), .long (60 : Int64)]) (rest := []) S hB hP hS (K_X7_in l hE (va_up σ 22 z) a1.toInt64 (0 : Int64) (60 : Int64) hq1) (va_cwS 3 S.2.2.2.2 gX7_door_X7_in rfl rfl rfl (by decide +kernel) ⟨Nat.le_of_ble_eq_true rfl, Nat.le_of_ble_eq_true rfl⟩) rfl hl.1 rfl (Nat.le_of_ble_eq_true rfl) dX7_door_6 ⟨Nat.zero_le _, Nat.zero_le _⟩ (fun H locs hP hS => ?_)
  refine lv_if_eq (tgt := 22) hx hb dX7_door_9 (by decide) (fun c2 => ?_) (fun c2 => ?_)
  · have hf := if_t c2 hf
    refine lv_iconst (v := -1) hx hb dX7_door_22 (by decide) ?_
    exact fin dX7_door_23 (s1 hf) (by rw [(s2 hf)]) hP hS
  · have hf := if_f c2 hf
    refine lv_iload_n hx hb dX7_door_12 rfl (lv_at hl 2 rfl) ?_
    refine lv_i2l hx hb dX7_door_13 (v := a2.toInt64) rfl ?_
    refine lv_lconst (v := 0) hx hb dX7_door_14 (by decide) ?_
    refine lv_lconst (v := 1) hx hb dX7_door_15 (by decide) ?_
    obtain ⟨q3, hq3, hf⟩ := bind_some hf
    refine callS_i (As := [.long a2.toInt64, .long (0 : Int64), .long (1 : Int64)]) (rest := []) S hB hP hS (K_X7_in l hE (va_up σ 22 z) a2.toInt64 (0 : Int64) (1 : Int64) hq3) (va_cwS 3 S.2.2.2.2 gX7_door_X7_in rfl rfl rfl (by decide +kernel) ⟨Nat.le_of_ble_eq_true rfl, Nat.le_of_ble_eq_true rfl⟩) rfl hl.1 rfl (Nat.le_of_ble_eq_true rfl) dX7_door_16 ⟨Nat.zero_le _, Nat.zero_le _⟩ (fun H locs hP hS => ?_)
    refine lv_if_ne (tgt := 24) hx hb dX7_door_19 (by decide) (fun c4 => ?_) (fun c4 => ?_)
    · have hf := if_f c4 hf
      refine lv_iconst (v := -1) hx hb dX7_door_24 (by decide) ?_
      refine lv_istore_n (lv' := [(3, .int (-1 : Int32)), (0, .ref (E.ad 22 0)), (1, .int a1), (2, .int a2)]) hx hb dX7_door_25 rfl hl (by decide) rfl (fun ls hl => ?_)
      refine lv_iconst (v := 0) hx hb dX7_door_26 (by decide) ?_
      refine lv_istore (lv' := [(4, .int (0 : Int32)), (3, .int (-1 : Int32)), (0, .ref (E.ad 22 0)), (1, .int a1), (2, .int a2)]) hx hb dX7_door_27 hl (by decide) rfl (fun ls hl => ?_)
      refine lv_aload_n hx hb dX7_door_29 rfl (lv_at hl 2 rfl) ?_
      refine lv_iconst (v := 0) hx hb dX7_door_30 (by decide) ?_
      refine lv_sipush (v := 265) hx hb dX7_door_31 (by decide) ?_
      obtain ⟨q5, hq5, hf⟩ := bind_some hf
      refine callV_v (As := [.int (0 : Int32), .int (265 : Int32)]) (rest := []) S hB hP hS (C := RX7) (b := E.ad 22 0) (g_recv (o := 22) (d := 0) hB hP m_22_0 rfl rfl) (K_X7_copies l hE σ z (0 : Int32) (265 : Int32) hq5) (cwV 2 S.2.2.2.2 gX7_door_X7_copies rfl rfl rfl (by decide +kernel) ⟨Nat.le_of_ble_eq_true rfl, Nat.le_of_ble_eq_true rfl⟩) rfl hl.1 rfl (Nat.le_of_ble_eq_true rfl) dX7_door_34 ⟨Nat.zero_le _, Nat.zero_le _⟩ (fun H locs hP hS => ?_)
      refine lv_iconst (v := 0) hx hb dX7_door_37 (by decide) ?_
      refine lv_istore (lv' := [(5, .int (0 : Int32)), (4, .int (0 : Int32)), (3, .int (-1 : Int32)), (0, .ref (E.ad 22 0)), (1, .int a1), (2, .int a2)]) hx hb dX7_door_38 hl (by decide) rfl (fun ls hl => ?_)
      exact hL40 FUEL q5 a1 a2 (-1 : Int32) (0 : Int32) (0 : Int32) _ _ _ hf hP hS (lv_sub hl [3, 4, 5, 2, 1, 0] rfl)
    · have hf := if_t c4 hf
      refine lv_iconst (v := -1) hx hb dX7_door_22 (by decide) ?_
      exact fin dX7_door_23 (s1 hf) (by rw [(s2 hf)]) hP hS
theorem KW_X7_door (l : Launch) {E : En} (hE : Inj E) (X : Wd) (a1 : Int32) (a2 : Int32) {r : Int32} {z' : Ob} (hf : f_X7_door (X 22) a1 a2 = some (r, z')) : Cti l E yX7_door wsX7_door rm_X7_door [.ref (E.ad 22 0), .int a1, .int a2] X r (va_up X 22 z') := by
  have h := K_X7_door l hE X (X 22) a1 a2 hf
  rw [lens_all] at h
  exact h
/-! X7_food -/
abbrev rm_X7_food : Room := { frames := 5, cells := 0, slots := 0, locals := 118 }
set_option maxHeartbeats 4000000 in
set_option maxRecDepth 100000 in
theorem K_X7_food (l : Launch) {E : En} (hE : Inj E) (σ : Wd) (z : Ob) (a1 : Int32) {r : Int32} {z' : Ob} (hf : f_X7_food z a1 = some (r, z')) : Cti l E yX7_food wsX7_food rm_X7_food [.ref (E.ad 22 0), .int a1] (va_up σ 22 z) r (va_up σ 22 z') := by
  refine meet_i (cc := cX7_food) (maxL := 3) (own := RX7) (by decide) rfl rfl (Nat.le_of_ble_eq_true rfl) ?_
  intro p e s m below meth c Z S hB fin hP hS ls hl
  have hx := S.1
  have hb := S.2.1
  have hl : lv_has ls 3 [(0, .ref (E.ad 22 0)), (1, .int a1)] := hl
  have hinX7 : ∀ w ∈ u_ws RX7 TX7 25, w ∈ wsX7_food := by decide +kernel
  have fl7 := S.2.2.2.2 (.fieldLink RX7 7 "MownMazeModel" "state" "[I") (by decide +kernel)
  have hL35 : ∀ (n35 : Nat) (z : Ob) (x1 : Int32) (x2 : Int32) (H : Heap) (locs : List Loc) (ls : Array Slot), f_X7_food_l35 n35 z x1 x2 = some (r, z') → va_P E.1 vwCl (GW E (va_up σ 22 z)) H → va_S (GA E) s.heap H locs → lv_has ls 3 [(0, .ref (E.ad 22 0)), (1, .int x1), (2, .int x2)] → W p l e rm_X7_food s m ([.ref (E.ad 22 0), .int a1] : List Value).toArray below meth c H locs 0 0 Z (F0 m 35 ls []) := by
    intro n35
    induction n35 with
    | zero =>
      intro z x1 x2 H locs ls hf
      cases (show (none : Option _) = some _ from hf)
    | succ n35 ih35 =>
      intro z x1 x2 H locs ls hf hP hS hl
      unfold f_X7_food_l35 at hf
      refine lv_iload_n hx hb dX7_food_35 rfl (lv_at hl 2 rfl) ?_
      refine lv_bipush (v := 60) hx hb dX7_food_36 (by decide) ?_
      refine lv_icmp_gt (tgt := 84) hx hb dX7_food_38 (by decide) (fun c6 => ?_) (fun c6 => ?_)
      · have hf := if_t c6 hf
        refine lv_bipush (v := -4) hx hb dX7_food_84 (by decide) ?_
        exact fin dX7_food_86 (s1 hf) (by rw [(s2 hf)]) hP hS
      · have hf := if_f c6 hf
        refine lv_aload_n hx hb dX7_food_41 rfl (lv_at hl 0 rfl) ?_
        refine g_get (v := .ref (E.ad 22 1)) S hB hinX7 hP m_22_0 rfl rfl 0 (by decide) fl7 rfl rfl dX7_food_42 ?_
        refine lv_sipush (v := 308) hx hb dX7_food_45 (by decide) ?_
        refine lv_iload_n hx hb dX7_food_48 rfl (lv_at hl 1 rfl) ?_
        refine lv_iadd hx hb dX7_food_49 ?_
        refine lv_iload_n hx hb dX7_food_50 rfl (lv_at hl 2 rfl) ?_
        obtain ⟨hv7, hf⟩ := ck_some hf
        refine g_iast (r := z 1) S hB hE hP hS m_22_1 rfl rfl (fun _ => rfl) hv7 (X' := (va_up σ 22 (ob z 1 (((308 : Int32) + x1).toNatClampNeg) x2))) (lens_put σ 22 _ _ _ _) dX7_food_51 (fun H locs hP hS => ?_)
        refine lv_aload_n hx hb dX7_food_52 rfl (lv_at hl 0 rfl) ?_
        refine lv_sipush (v := 265) hx hb dX7_food_53 (by decide) ?_
        refine lv_bipush (v := 60) hx hb dX7_food_56 (by decide) ?_
        obtain ⟨q8, hq8, hf⟩ := bind_some hf
        refine callV_i (As := [.int (265 : Int32), .int (60 : Int32)]) (rest := []) S hB hP hS (C := RX7) (b := E.ad 22 0) (g_recv (o := 22) (d := 0) hB hP m_22_0 rfl rfl) (K_X7_daysGo l hE σ (ob z 1 (((308 : Int32) + x1).toNatClampNeg) x2) (265 : Int32) (60 : Int32) hq8) (cwV 2 S.2.2.2.2 gX7_food_X7_daysGo rfl rfl rfl (by decide +kernel) ⟨Nat.le_of_ble_eq_true rfl, Nat.le_of_ble_eq_true rfl⟩) rfl hl.1 rfl (Nat.le_of_ble_eq_true rfl) dX7_food_58 ⟨Nat.zero_le _, Nat.zero_le _⟩ (fun H locs hP hS => ?_)
        refine lv_pop hx hb dX7_food_61 rfl ?_
        refine lv_aload_n hx hb dX7_food_62 rfl (lv_at hl 0 rfl) ?_
        refine g_get (v := .ref (E.ad 22 1)) S hB hinX7 hP m_22_0 rfl rfl 0 (by decide) fl7 rfl rfl dX7_food_63 ?_
        refine lv_sipush (v := 259) hx hb dX7_food_66 (by decide) ?_
        refine lv_iload_n hx hb dX7_food_69 rfl (lv_at hl 1 rfl) ?_
        refine lv_iadd hx hb dX7_food_70 ?_
        obtain ⟨hv9, hf⟩ := ck_some hf
        refine g_iald (r := q8.2 1) S hB hP m_22_1 rfl hv9 dX7_food_71 ?_
        refine W.eq (g2 := F0 m 72 ls [.int (q8.2 1 (((259 : Int32) + x1).toNatClampNeg))]) rfl ?_
        refine lv_iconst (v := 1) hx hb dX7_food_72 (by decide) ?_
        refine lv_icmp_ne (tgt := 78) hx hb dX7_food_73 (by decide) (fun c10 => ?_) (fun c10 => ?_)
        · have hf := if_f c10 hf
          refine lv_iinc (v := x2 + (1 : Int32)) (lv' := [(2, .int (x2 + (1 : Int32))), (0, .ref (E.ad 22 0)), (1, .int x1)]) hx hb dX7_food_78 hl (k := 2) rfl rfl (by decide) rfl (fun ls hl => ?_)
          refine lv_goto (tgt := 35) hx hb dX7_food_81 (by decide) ?_
          exact ih35 q8.2 x1 (x2 + (1 : Int32)) _ _ _ hf hP hS (lv_sub hl [1, 2, 0] rfl)
        · have hf := if_t c10 hf
          refine lv_iload_n hx hb dX7_food_76 rfl (lv_at hl 2 rfl) ?_
          exact fin dX7_food_77 (s1 hf) (by rw [(s2 hf)]) hP hS
  unfold f_X7_food at hf
  refine lv_aload_n hx hb dX7_food_0 rfl (lv_at hl 0 rfl) ?_
  refine lv_iload_n hx hb dX7_food_1 rfl (lv_at hl 1 rfl) ?_
  obtain ⟨q1, hq1, hf⟩ := bind_some hf
  refine callV_i (As := [.int a1]) (rest := []) S hB hP hS (C := RX7) (b := E.ad 22 0) (g_recv (o := 22) (d := 0) hB hP m_22_0 rfl rfl) (K_X7_isGuest l hE σ z a1 hq1) (cwV 1 S.2.2.2.2 gX7_food_X7_isGuest rfl rfl rfl (by decide +kernel) ⟨Nat.le_of_ble_eq_true rfl, Nat.le_of_ble_eq_true rfl⟩) rfl hl.1 rfl (Nat.le_of_ble_eq_true rfl) dX7_food_2 ⟨Nat.zero_le _, Nat.zero_le _⟩ (fun H locs hP hS => ?_)
  refine lv_if_ne (tgt := 10) hx hb dX7_food_5 (by decide) (fun c2 => ?_) (fun c2 => ?_)
  · have hf := if_f c2 hf
    refine lv_aload_n hx hb dX7_food_10 rfl (lv_at hl 0 rfl) ?_
    refine g_get (v := .ref (E.ad 22 1)) S hB hinX7 hP m_22_0 rfl rfl 0 (by decide) fl7 rfl rfl dX7_food_11 ?_
    refine lv_bipush (v := 47) hx hb dX7_food_14 (by decide) ?_
    refine lv_iload_n hx hb dX7_food_16 rfl (lv_at hl 1 rfl) ?_
    refine lv_iadd hx hb dX7_food_17 ?_
    obtain ⟨hv3, hf⟩ := ck_some hf
    refine g_iald (r := z 1) S hB hP m_22_1 rfl hv3 dX7_food_18 ?_
    refine W.eq (g2 := F0 m 19 ls [.int (z 1 (((47 : Int32) + a1).toNatClampNeg))]) rfl ?_
    refine lv_if_eq (tgt := 25) hx hb dX7_food_19 (by decide) (fun c4 => ?_) (fun c4 => ?_)
    · have hf := if_t c4 hf
      refine lv_aload_n hx hb dX7_food_25 rfl (lv_at hl 0 rfl) ?_
      refine lv_iconst (v := 0) hx hb dX7_food_26 (by decide) ?_
      refine lv_sipush (v := 265) hx hb dX7_food_27 (by decide) ?_
      obtain ⟨q5, hq5, hf⟩ := bind_some hf
      refine callV_v (As := [.int (0 : Int32), .int (265 : Int32)]) (rest := []) S hB hP hS (C := RX7) (b := E.ad 22 0) (g_recv (o := 22) (d := 0) hB hP m_22_0 rfl rfl) (K_X7_copies l hE σ z (0 : Int32) (265 : Int32) hq5) (cwV 2 S.2.2.2.2 gX7_food_X7_copies rfl rfl rfl (by decide +kernel) ⟨Nat.le_of_ble_eq_true rfl, Nat.le_of_ble_eq_true rfl⟩) rfl hl.1 rfl (Nat.le_of_ble_eq_true rfl) dX7_food_30 ⟨Nat.zero_le _, Nat.zero_le _⟩ (fun H locs hP hS => ?_)
      refine lv_iconst (v := 0) hx hb dX7_food_33 (by decide) ?_
      refine lv_istore_n (lv' := [(2, .int (0 : Int32)), (0, .ref (E.ad 22 0)), (1, .int a1)]) hx hb dX7_food_34 rfl hl (by decide) rfl (fun ls hl => ?_)
      exact hL35 FUEL q5 a1 (0 : Int32) _ _ _ hf hP hS (lv_sub hl [1, 2, 0] rfl)
    · have hf := if_f c4 hf
      refine lv_bipush (v := -2) hx hb dX7_food_22 (by decide) ?_
      exact fin dX7_food_24 (s1 hf) (by rw [(s2 hf)]) hP hS
  · have hf := if_t c2 hf
    refine lv_iconst (v := -1) hx hb dX7_food_8 (by decide) ?_
    exact fin dX7_food_9 (s1 hf) (by rw [(s2 hf)]) hP hS
theorem KW_X7_food (l : Launch) {E : En} (hE : Inj E) (X : Wd) (a1 : Int32) {r : Int32} {z' : Ob} (hf : f_X7_food (X 22) a1 = some (r, z')) : Cti l E yX7_food wsX7_food rm_X7_food [.ref (E.ad 22 0), .int a1] X r (va_up X 22 z') := by
  have h := K_X7_food l hE X (X 22) a1 hf
  rw [lens_all] at h
  exact h
/-! X7_sack -/
abbrev rm_X7_sack : Room := { frames := 5, cells := 0, slots := 0, locals := 118 }
set_option maxHeartbeats 4000000 in
set_option maxRecDepth 100000 in
theorem K_X7_sack (l : Launch) {E : En} (hE : Inj E) (σ : Wd) (z : Ob) (a1 : Int32) (a2 : Int32) {r : Int32} {z' : Ob} (hf : f_X7_sack z a1 a2 = some (r, z')) : Cti l E yX7_sack wsX7_sack rm_X7_sack [.ref (E.ad 22 0), .int a1, .int a2] (va_up σ 22 z) r (va_up σ 22 z') := by
  refine meet_i (cc := cX7_sack) (maxL := 7) (own := RX7) (by decide) rfl rfl (Nat.le_of_ble_eq_true rfl) ?_
  intro p e s m below meth c Z S hB fin hP hS ls hl
  have hx := S.1
  have hb := S.2.1
  have hl : lv_has ls 7 [(0, .ref (E.ad 22 0)), (1, .int a1), (2, .int a2)] := hl
  have hinX7 : ∀ w ∈ u_ws RX7 TX7 25, w ∈ wsX7_sack := by decide +kernel
  have fl7 := S.2.2.2.2 (.fieldLink RX7 7 "MownMazeModel" "state" "[I") (by decide +kernel)
  have fl28 := S.2.2.2.2 (.fieldLink RX7 28 "MownMazeModel" "away" "I") (by decide +kernel)
  have hB115 : ∀ (z : Ob) (x4 : Int32) (H : Heap) (locs : List Loc) (ls : Array Slot), f_X7_sack_b115 z x4 = some (r, z') → va_P E.1 vwCl (GW E (va_up σ 22 z)) H → va_S (GA E) s.heap H locs → lv_has ls 7 [(4, .int x4)] → W p l e rm_X7_sack s m ([.ref (E.ad 22 0), .int a1, .int a2] : List Value).toArray below meth c H locs 0 0 Z (F0 m 115 ls []) := by
    intro z x4 H locs ls hf hP hS hl
    unfold f_X7_sack_b115 at hf
    refine lv_iload hx hb dX7_sack_115 (lv_at hl 0 rfl) ?_
    refine lv_goto (tgt := 121) hx hb dX7_sack_117 (by decide) ?_
    exact fin dX7_sack_121 (s1 hf) (by rw [(s2 hf)]) hP hS
  have hL38 : ∀ (n38 : Nat) (z : Ob) (x1 : Int32) (x2 : Int32) (x3 : Int32) (x4 : Int32) (x5 : Int32) (H : Heap) (locs : List Loc) (ls : Array Slot), f_X7_sack_l38 n38 z x1 x2 x3 x4 x5 = some (r, z') → va_P E.1 vwCl (GW E (va_up σ 22 z)) H → va_S (GA E) s.heap H locs → lv_has ls 7 [(0, .ref (E.ad 22 0)), (1, .int x1), (2, .int x2), (3, .int x3), (4, .int x4), (5, .int x5)] → W p l e rm_X7_sack s m ([.ref (E.ad 22 0), .int a1, .int a2] : List Value).toArray below meth c H locs 0 0 Z (F0 m 38 ls []) := by
    intro n38
    induction n38 with
    | zero =>
      intro z x1 x2 x3 x4 x5 H locs ls hf
      cases (show (none : Option _) = some _ from hf)
    | succ n38 ih38 =>
      have hB97 : ∀ (z : Ob) (x1 : Int32) (x2 : Int32) (x4 : Int32) (x5 : Int32) (y0 : Int32) (H : Heap) (locs : List Loc) (ls : Array Slot), f_X7_sack_b97 (f_X7_sack_l38 n38) z x1 x2 x4 x5 y0 = some (r, z') → va_P E.1 vwCl (GW E (va_up σ 22 z)) H → va_S (GA E) s.heap H locs → lv_has ls 7 [(0, .ref (E.ad 22 0)), (1, .int x1), (2, .int x2), (4, .int x4), (5, .int x5)] → W p l e rm_X7_sack s m ([.ref (E.ad 22 0), .int a1, .int a2] : List Value).toArray below meth c H locs 0 0 Z (F0 m 97 ls [.int y0]) := by
        intro z x1 x2 x4 x5 y0 H locs ls hf hP hS hl
        unfold f_X7_sack_b97 at hf
        refine lv_istore_n (lv' := [(3, .int y0), (0, .ref (E.ad 22 0)), (1, .int x1), (2, .int x2), (4, .int x4), (5, .int x5)]) hx hb dX7_sack_97 rfl hl (by decide) rfl (fun ls hl => ?_)
        refine lv_iinc (v := x5 + (1 : Int32)) (lv' := [(5, .int (x5 + (1 : Int32))), (3, .int y0), (0, .ref (E.ad 22 0)), (1, .int x1), (2, .int x2), (4, .int x4)]) hx hb dX7_sack_98 hl (k := 5) rfl rfl (by decide) rfl (fun ls hl => ?_)
        refine lv_goto (tgt := 38) hx hb dX7_sack_101 (by decide) ?_
        exact ih38 z x1 x2 y0 x4 (x5 + (1 : Int32)) _ _ _ hf hP hS (lv_sub hl [2, 3, 4, 1, 5, 0] rfl)
      have hB83 : ∀ (z : Ob) (x1 : Int32) (x2 : Int32) (x3 : Int32) (x5 : Int32) (x6 : Int32) (y0 : Int32) (H : Heap) (locs : List Loc) (ls : Array Slot), f_X7_sack_b83 (f_X7_sack_l38 n38) z x1 x2 x3 x5 x6 y0 = some (r, z') → va_P E.1 vwCl (GW E (va_up σ 22 z)) H → va_S (GA E) s.heap H locs → lv_has ls 7 [(0, .ref (E.ad 22 0)), (1, .int x1), (2, .int x2), (3, .int x3), (5, .int x5), (6, .int x6)] → W p l e rm_X7_sack s m ([.ref (E.ad 22 0), .int a1, .int a2] : List Value).toArray below meth c H locs 0 0 Z (F0 m 83 ls [.int y0]) := by
        intro z x1 x2 x3 x5 x6 y0 H locs ls hf hP hS hl
        unfold f_X7_sack_b83 at hf
        refine lv_istore (lv' := [(4, .int y0), (0, .ref (E.ad 22 0)), (1, .int x1), (2, .int x2), (3, .int x3), (5, .int x5), (6, .int x6)]) hx hb dX7_sack_83 hl (by decide) rfl (fun ls hl => ?_)
        refine lv_iload hx hb dX7_sack_85 (lv_at hl 6 rfl) ?_
        refine lv_iload_n hx hb dX7_sack_87 rfl (lv_at hl 4 rfl) ?_
        refine lv_icmp_le (tgt := 96) hx hb dX7_sack_88 (by decide) (fun c6 => ?_) (fun c6 => ?_)
        · have hf := if_t c6 hf
          refine lv_iload_n hx hb dX7_sack_96 rfl (lv_at hl 4 rfl) ?_
          exact hB97 z x1 x2 y0 x5 x3 _ _ _ hf hP hS (lv_sub hl [1, 2, 3, 0, 5] rfl)
        · have hf := if_f c6 hf
          refine lv_iload hx hb dX7_sack_91 (lv_at hl 6 rfl) ?_
          refine lv_goto (tgt := 97) hx hb dX7_sack_93 (by decide) ?_
          exact hB97 z x1 x2 y0 x5 x6 _ _ _ hf hP hS (lv_sub hl [1, 2, 3, 0, 5] rfl)
      intro z x1 x2 x3 x4 x5 H locs ls hf hP hS hl
      unfold f_X7_sack_l38 at hf
      refine lv_iload hx hb dX7_sack_38 (lv_at hl 5 rfl) ?_
      refine lv_aload_n hx hb dX7_sack_40 rfl (lv_at hl 0 rfl) ?_
      refine g_get (v := .ref (E.ad 22 1)) S hB hinX7 hP m_22_0 rfl rfl 0 (by decide) fl7 rfl rfl dX7_sack_41 ?_
      refine lv_bipush (v := 37) hx hb dX7_sack_44 (by decide) ?_
      refine g_iald (r := z 1) S hB hP m_22_1 rfl (by unfold vp_in; decide) dX7_sack_46 ?_
      refine lv_icmp_ge (tgt := 104) hx hb dX7_sack_47 (by decide) (fun c7 => ?_) (fun c7 => ?_)
      · have hf := if_t c7 hf
        refine lv_iload hx hb dX7_sack_104 (lv_at hl 4 rfl) ?_
        refine lv_bipush (v := -4) hx hb dX7_sack_106 (by decide) ?_
        refine lv_icmp_eq (tgt := 115) hx hb dX7_sack_108 (by decide) (fun c8 => ?_) (fun c8 => ?_)
        · have hf := if_t c8 hf
          exact hB115 z x4 _ _ _ hf hP hS (lv_sub hl [4] rfl)
        · have hf := if_f c8 hf
          refine lv_iload_n hx hb dX7_sack_111 rfl (lv_at hl 2 rfl) ?_
          refine lv_if_ne (tgt := 120) hx hb dX7_sack_112 (by decide) (fun c9 => ?_) (fun c9 => ?_)
          · have hf := if_f c9 hf
            refine lv_iload_n hx hb dX7_sack_120 rfl (lv_at hl 3 rfl) ?_
            exact fin dX7_sack_121 (s1 hf) (by rw [(s2 hf)]) hP hS
          · have hf := if_t c9 hf
            exact hB115 z x4 _ _ _ hf hP hS (lv_sub hl [4] rfl)
      · have hf := if_f c7 hf
        refine lv_aload_n hx hb dX7_sack_50 rfl (lv_at hl 0 rfl) ?_
        refine lv_iload hx hb dX7_sack_51 (lv_at hl 5 rfl) ?_
        refine g_put S hB hE hinX7 tyX7 tyX7_ok nmX7 hP hS m_22_0 rfl rfl 16 (by decide) fl28 rfl rfl rfl rfl (Nat.le_of_ble_eq_true rfl) (by exact (fun _ => rfl) _) (X' := (va_up σ 22 (ob z 0 16 x5))) (lens_put σ 22 _ _ _ _) dX7_sack_53 (fun H locs hP hS => ?_)
        refine lv_aload_n hx hb dX7_sack_56 rfl (lv_at hl 0 rfl) ?_
        refine lv_iconst (v := 0) hx hb dX7_sack_57 (by decide) ?_
        refine lv_iload_n hx hb dX7_sack_58 rfl (lv_at hl 1 rfl) ?_
        obtain ⟨q10, hq10, hf⟩ := bind_some hf
        refine callV_i (As := [.int (0 : Int32), .int x1]) (rest := []) S hB hP hS (C := RX7) (b := E.ad 22 0) (g_recv (o := 22) (d := 0) hB hP m_22_0 rfl rfl) (K_X7_daysGo l hE σ (ob z 0 16 x5) (0 : Int32) x1 hq10) (cwV 2 S.2.2.2.2 gX7_sack_X7_daysGo rfl rfl rfl (by decide +kernel) ⟨Nat.le_of_ble_eq_true rfl, Nat.le_of_ble_eq_true rfl⟩) rfl hl.1 rfl (Nat.le_of_ble_eq_true rfl) dX7_sack_59 ⟨Nat.zero_le _, Nat.zero_le _⟩ (fun H locs hP hS => ?_)
        refine lv_istore (lv' := [(6, .int q10.1), (0, .ref (E.ad 22 0)), (1, .int x1), (2, .int x2), (3, .int x3), (4, .int x4), (5, .int x5)]) hx hb dX7_sack_62 hl (by decide) rfl (fun ls hl => ?_)
        refine lv_aload_n hx hb dX7_sack_64 rfl (lv_at hl 1 rfl) ?_
        refine lv_bipush (v := -4) hx hb dX7_sack_65 (by decide) ?_
        refine g_put S hB hE hinX7 tyX7 tyX7_ok nmX7 hP hS m_22_0 rfl rfl 16 (by decide) fl28 rfl rfl rfl rfl (Nat.le_of_ble_eq_true rfl) (by exact (fun _ => rfl) _) (X' := (va_up σ 22 (ob q10.2 0 16 (-4 : Int32)))) (lens_put σ 22 _ _ _ _) dX7_sack_67 (fun H locs hP hS => ?_)
        refine lv_iload hx hb dX7_sack_70 (lv_at hl 0 rfl) ?_
        refine lv_iload_n hx hb dX7_sack_72 rfl (lv_at hl 4 rfl) ?_
        refine lv_icmp_le (tgt := 81) hx hb dX7_sack_73 (by decide) (fun c11 => ?_) (fun c11 => ?_)
        · have hf := if_t c11 hf
          refine lv_iload hx hb dX7_sack_81 (lv_at hl 5 rfl) ?_
          exact hB83 (ob q10.2 0 16 (-4 : Int32)) x1 x2 x3 x5 q10.1 x4 _ _ _ hf hP hS (lv_sub hl [1, 2, 3, 4, 6, 0] rfl)
        · have hf := if_f c11 hf
          refine lv_iload hx hb dX7_sack_76 (lv_at hl 6 rfl) ?_
          refine lv_goto (tgt := 83) hx hb dX7_sack_78 (by decide) ?_
          exact hB83 (ob q10.2 0 16 (-4 : Int32)) x1 x2 x3 x5 q10.1 x5 _ _ _ hf hP hS (lv_sub hl [1, 2, 3, 4, 6, 0] rfl)
  unfold f_X7_sack at hf
  refine lv_iload_n hx hb dX7_sack_0 rfl (lv_at hl 1 rfl) ?_
  refine lv_i2l hx hb dX7_sack_1 (v := a1.toInt64) rfl ?_
  refine lv_lconst (v := 0) hx hb dX7_sack_2 (by decide) ?_
  refine lv_ldc2 hx hb S.2.2.2.1 (S.2.2.2.2 (.constantLong RX7 194 (60)) (by decide +kernel)) dX7_sack_3 ?_
  obtain ⟨q1, hq1, hf⟩ := bind_some hf
  refine callS_i (As := [.long a1.toInt64, .long (0 : Int64), .long (60 : Int64)]) (rest := []) S hB hP hS (K_X7_in l hE (va_up σ 22 z) a1.toInt64 (0 : Int64) (60 : Int64) hq1) (va_cwS 3 S.2.2.2.2 gX7_sack_X7_in rfl rfl rfl (by decide +kernel) ⟨Nat.le_of_ble_eq_true rfl, Nat.le_of_ble_eq_true rfl⟩) rfl hl.1 rfl (Nat.le_of_ble_eq_true rfl) dX7_sack_6 ⟨Nat.zero_le _, Nat.zero_le _⟩ (fun H locs hP hS => ?_)
  refine lv_if_eq (tgt := 22) hx hb dX7_sack_9 (by decide) (fun c2 => ?_) (fun c2 => ?_)
  · have hf := if_t c2 hf
    refine lv_iconst (v := -1) hx hb dX7_sack_22 (by decide) ?_
    exact fin dX7_sack_23 (s1 hf) (by rw [(s2 hf)]) hP hS
  · have hf := if_f c2 hf
    refine lv_iload_n hx hb dX7_sack_12 rfl (lv_at hl 2 rfl) ?_
    refine lv_i2l hx hb dX7_sack_13 (v := a2.toInt64) rfl ?_
    refine lv_lconst (v := 0) hx hb dX7_sack_14 (by decide) ?_
    refine lv_lconst (v := 1) hx hb dX7_sack_15 (by decide) ?_
    obtain ⟨q3, hq3, hf⟩ := bind_some hf
    refine callS_i (As := [.long a2.toInt64, .long (0 : Int64), .long (1 : Int64)]) (rest := []) S hB hP hS (K_X7_in l hE (va_up σ 22 z) a2.toInt64 (0 : Int64) (1 : Int64) hq3) (va_cwS 3 S.2.2.2.2 gX7_sack_X7_in rfl rfl rfl (by decide +kernel) ⟨Nat.le_of_ble_eq_true rfl, Nat.le_of_ble_eq_true rfl⟩) rfl hl.1 rfl (Nat.le_of_ble_eq_true rfl) dX7_sack_16 ⟨Nat.zero_le _, Nat.zero_le _⟩ (fun H locs hP hS => ?_)
    refine lv_if_ne (tgt := 24) hx hb dX7_sack_19 (by decide) (fun c4 => ?_) (fun c4 => ?_)
    · have hf := if_f c4 hf
      refine lv_aload_n hx hb dX7_sack_24 rfl (lv_at hl 0 rfl) ?_
      refine lv_iconst (v := 0) hx hb dX7_sack_25 (by decide) ?_
      refine lv_iload_n hx hb dX7_sack_26 rfl (lv_at hl 1 rfl) ?_
      obtain ⟨q5, hq5, hf⟩ := bind_some hf
      refine callV_i (As := [.int (0 : Int32), .int a1]) (rest := []) S hB hP hS (C := RX7) (b := E.ad 22 0) (g_recv (o := 22) (d := 0) hB hP m_22_0 rfl rfl) (K_X7_daysGo l hE σ z (0 : Int32) a1 hq5) (cwV 2 S.2.2.2.2 gX7_sack_X7_daysGo rfl rfl rfl (by decide +kernel) ⟨Nat.le_of_ble_eq_true rfl, Nat.le_of_ble_eq_true rfl⟩) rfl hl.1 rfl (Nat.le_of_ble_eq_true rfl) dX7_sack_27 ⟨Nat.zero_le _, Nat.zero_le _⟩ (fun H locs hP hS => ?_)
      refine lv_istore_n (lv' := [(3, .int q5.1), (0, .ref (E.ad 22 0)), (1, .int a1), (2, .int a2)]) hx hb dX7_sack_30 rfl hl (by decide) rfl (fun ls hl => ?_)
      refine lv_bipush (v := -4) hx hb dX7_sack_31 (by decide) ?_
      refine lv_istore (lv' := [(4, .int (-4 : Int32)), (3, .int q5.1), (0, .ref (E.ad 22 0)), (1, .int a1), (2, .int a2)]) hx hb dX7_sack_33 hl (by decide) rfl (fun ls hl => ?_)
      refine lv_iconst (v := 0) hx hb dX7_sack_35 (by decide) ?_
      refine lv_istore (lv' := [(5, .int (0 : Int32)), (4, .int (-4 : Int32)), (3, .int q5.1), (0, .ref (E.ad 22 0)), (1, .int a1), (2, .int a2)]) hx hb dX7_sack_36 hl (by decide) rfl (fun ls hl => ?_)
      exact hL38 FUEL q5.2 a1 a2 q5.1 (-4 : Int32) (0 : Int32) _ _ _ hf hP hS (lv_sub hl [3, 4, 5, 2, 1, 0] rfl)
    · have hf := if_t c4 hf
      refine lv_iconst (v := -1) hx hb dX7_sack_22 (by decide) ?_
      exact fin dX7_sack_23 (s1 hf) (by rw [(s2 hf)]) hP hS
theorem KW_X7_sack (l : Launch) {E : En} (hE : Inj E) (X : Wd) (a1 : Int32) (a2 : Int32) {r : Int32} {z' : Ob} (hf : f_X7_sack (X 22) a1 a2 = some (r, z')) : Cti l E yX7_sack wsX7_sack rm_X7_sack [.ref (E.ad 22 0), .int a1, .int a2] X r (va_up X 22 z') := by
  have h := K_X7_sack l hE X (X 22) a1 a2 hf
  rw [lens_all] at h
  exact h
/-! X7_swap -/
abbrev rm_X7_swap : Room := { frames := 5, cells := 0, slots := 0, locals := 118 }
set_option maxHeartbeats 4000000 in
set_option maxRecDepth 100000 in
theorem K_X7_swap (l : Launch) {E : En} (hE : Inj E) (σ : Wd) (z : Ob) (a1 : Int32) (a2 : Int32) {r : Int32} {z' : Ob} (hf : f_X7_swap z a1 a2 = some (r, z')) : Cti l E yX7_swap wsX7_swap rm_X7_swap [.ref (E.ad 22 0), .int a1, .int a2] (va_up σ 22 z) r (va_up σ 22 z') := by
  refine meet_i (cc := cX7_swap) (maxL := 8) (own := RX7) (by decide) rfl rfl (Nat.le_of_ble_eq_true rfl) ?_
  intro p e s m below meth c Z S hB fin hP hS ls hl
  have hx := S.1
  have hb := S.2.1
  have hl : lv_has ls 8 [(0, .ref (E.ad 22 0)), (1, .int a1), (2, .int a2)] := hl
  have hinX7 : ∀ w ∈ u_ws RX7 TX7 25, w ∈ wsX7_swap := by decide +kernel
  have fl7 := S.2.2.2.2 (.fieldLink RX7 7 "MownMazeModel" "state" "[I") (by decide +kernel)
  have hB208 : ∀ (z : Ob) (x4 : Int32) (H : Heap) (locs : List Loc) (ls : Array Slot), f_X7_swap_b208 z x4 = some (r, z') → va_P E.1 vwCl (GW E (va_up σ 22 z)) H → va_S (GA E) s.heap H locs → lv_has ls 8 [(4, .int x4)] → W p l e rm_X7_swap s m ([.ref (E.ad 22 0), .int a1, .int a2] : List Value).toArray below meth c H locs 0 0 Z (F0 m 208 ls []) := by
    intro z x4 H locs ls hf hP hS hl
    unfold f_X7_swap_b208 at hf
    refine lv_iload hx hb dX7_swap_208 (lv_at hl 0 rfl) ?_
    refine lv_goto (tgt := 214) hx hb dX7_swap_210 (by decide) ?_
    exact fin dX7_swap_214 (s1 hf) (by rw [(s2 hf)]) hP hS
  have hL38 : ∀ (n38 : Nat) (z : Ob) (x1 : Int32) (x2 : Int32) (x3 : Int32) (x4 : Int32) (x5 : Int32) (H : Heap) (locs : List Loc) (ls : Array Slot), f_X7_swap_l38 n38 z x1 x2 x3 x4 x5 = some (r, z') → va_P E.1 vwCl (GW E (va_up σ 22 z)) H → va_S (GA E) s.heap H locs → lv_has ls 8 [(0, .ref (E.ad 22 0)), (1, .int x1), (2, .int x2), (3, .int x3), (4, .int x4), (5, .int x5)] → W p l e rm_X7_swap s m ([.ref (E.ad 22 0), .int a1, .int a2] : List Value).toArray below meth c H locs 0 0 Z (F0 m 38 ls []) := by
    intro n38
    induction n38 with
    | zero =>
      intro z x1 x2 x3 x4 x5 H locs ls hf
      cases (show (none : Option _) = some _ from hf)
    | succ n38 ih38 =>
      have hL56 : ∀ (n56 : Nat) (z : Ob) (x1 : Int32) (x2 : Int32) (x3 : Int32) (x4 : Int32) (x5 : Int32) (x6 : Int32) (H : Heap) (locs : List Loc) (ls : Array Slot), f_X7_swap_l56 (f_X7_swap_l38 n38) n56 z x1 x2 x3 x4 x5 x6 = some (r, z') → va_P E.1 vwCl (GW E (va_up σ 22 z)) H → va_S (GA E) s.heap H locs → lv_has ls 8 [(0, .ref (E.ad 22 0)), (1, .int x1), (2, .int x2), (3, .int x3), (4, .int x4), (5, .int x5), (6, .int x6)] → W p l e rm_X7_swap s m ([.ref (E.ad 22 0), .int a1, .int a2] : List Value).toArray below meth c H locs 0 0 Z (F0 m 56 ls []) := by
        intro n56
        induction n56 with
        | zero =>
          intro z x1 x2 x3 x4 x5 x6 H locs ls hf
          cases (show (none : Option _) = some _ from hf)
        | succ n56 ih56 =>
          have hB184 : ∀ (z : Ob) (x1 : Int32) (x2 : Int32) (x4 : Int32) (x5 : Int32) (x6 : Int32) (y0 : Int32) (H : Heap) (locs : List Loc) (ls : Array Slot), f_X7_swap_b184 (f_X7_swap_l38 n38) (f_X7_swap_l56 (f_X7_swap_l38 n38) n56) z x1 x2 x4 x5 x6 y0 = some (r, z') → va_P E.1 vwCl (GW E (va_up σ 22 z)) H → va_S (GA E) s.heap H locs → lv_has ls 8 [(0, .ref (E.ad 22 0)), (1, .int x1), (2, .int x2), (4, .int x4), (5, .int x5), (6, .int x6)] → W p l e rm_X7_swap s m ([.ref (E.ad 22 0), .int a1, .int a2] : List Value).toArray below meth c H locs 0 0 Z (F0 m 184 ls [.int y0]) := by
            intro z x1 x2 x4 x5 x6 y0 H locs ls hf hP hS hl
            unfold f_X7_swap_b184 at hf
            refine lv_istore_n (lv' := [(3, .int y0), (0, .ref (E.ad 22 0)), (1, .int x1), (2, .int x2), (4, .int x4), (5, .int x5), (6, .int x6)]) hx hb dX7_swap_184 rfl hl (by decide) rfl (fun ls hl => ?_)
            refine lv_iinc (v := x6 + (1 : Int32)) (lv' := [(6, .int (x6 + (1 : Int32))), (3, .int y0), (0, .ref (E.ad 22 0)), (1, .int x1), (2, .int x2), (4, .int x4), (5, .int x5)]) hx hb dX7_swap_185 hl (k := 6) rfl rfl (by decide) rfl (fun ls hl => ?_)
            refine lv_goto (tgt := 56) hx hb dX7_swap_188 (by decide) ?_
            exact ih56 z x1 x2 y0 x4 x5 (x6 + (1 : Int32)) _ _ _ hf hP hS (lv_sub hl [2, 3, 4, 1, 5, 6, 0] rfl)
          have hB170 : ∀ (z : Ob) (x1 : Int32) (x2 : Int32) (x3 : Int32) (x5 : Int32) (x6 : Int32) (x7 : Int32) (y0 : Int32) (H : Heap) (locs : List Loc) (ls : Array Slot), f_X7_swap_b170 (f_X7_swap_l38 n38) (f_X7_swap_l56 (f_X7_swap_l38 n38) n56) z x1 x2 x3 x5 x6 x7 y0 = some (r, z') → va_P E.1 vwCl (GW E (va_up σ 22 z)) H → va_S (GA E) s.heap H locs → lv_has ls 8 [(0, .ref (E.ad 22 0)), (1, .int x1), (2, .int x2), (3, .int x3), (5, .int x5), (6, .int x6), (7, .int x7)] → W p l e rm_X7_swap s m ([.ref (E.ad 22 0), .int a1, .int a2] : List Value).toArray below meth c H locs 0 0 Z (F0 m 170 ls [.int y0]) := by
            intro z x1 x2 x3 x5 x6 x7 y0 H locs ls hf hP hS hl
            unfold f_X7_swap_b170 at hf
            refine lv_istore (lv' := [(4, .int y0), (0, .ref (E.ad 22 0)), (1, .int x1), (2, .int x2), (3, .int x3), (5, .int x5), (6, .int x6), (7, .int x7)]) hx hb dX7_swap_170 hl (by decide) rfl (fun ls hl => ?_)
            refine lv_iload hx hb dX7_swap_172 (lv_at hl 7 rfl) ?_
            refine lv_iload_n hx hb dX7_swap_174 rfl (lv_at hl 4 rfl) ?_
            refine lv_icmp_le (tgt := 183) hx hb dX7_swap_175 (by decide) (fun c6 => ?_) (fun c6 => ?_)
            · have hf := if_t c6 hf
              refine lv_iload_n hx hb dX7_swap_183 rfl (lv_at hl 4 rfl) ?_
              exact hB184 z x1 x2 y0 x5 x6 x3 _ _ _ hf hP hS (lv_sub hl [1, 2, 3, 0, 5, 6] rfl)
            · have hf := if_f c6 hf
              refine lv_iload hx hb dX7_swap_178 (lv_at hl 7 rfl) ?_
              refine lv_goto (tgt := 184) hx hb dX7_swap_180 (by decide) ?_
              exact hB184 z x1 x2 y0 x5 x6 x7 _ _ _ hf hP hS (lv_sub hl [1, 2, 3, 0, 5, 6] rfl)
          have hL80 : ∀ (n80 : Nat) (z : Ob) (x1 : Int32) (x2 : Int32) (x3 : Int32) (x4 : Int32) (x5 : Int32) (x6 : Int32) (x7 : Int32) (H : Heap) (locs : List Loc) (ls : Array Slot), f_X7_swap_l80 (f_X7_swap_l38 n38) (f_X7_swap_l56 (f_X7_swap_l38 n38) n56) n80 z x1 x2 x3 x4 x5 x6 x7 = some (r, z') → va_P E.1 vwCl (GW E (va_up σ 22 z)) H → va_S (GA E) s.heap H locs → lv_has ls 8 [(0, .ref (E.ad 22 0)), (1, .int x1), (2, .int x2), (3, .int x3), (4, .int x4), (5, .int x5), (6, .int x6), (7, .int x7)] → W p l e rm_X7_swap s m ([.ref (E.ad 22 0), .int a1, .int a2] : List Value).toArray below meth c H locs 0 0 Z (F0 m 80 ls []) := by
            intro n80
            induction n80 with
            | zero =>
              intro z x1 x2 x3 x4 x5 x6 x7 H locs ls hf
              cases (show (none : Option _) = some _ from hf)
            | succ n80 ih80 =>
              intro z x1 x2 x3 x4 x5 x6 x7 H locs ls hf hP hS hl
              unfold f_X7_swap_l80 at hf
              refine lv_iload hx hb dX7_swap_80 (lv_at hl 7 rfl) ?_
              refine lv_bipush (v := 37) hx hb dX7_swap_82 (by decide) ?_
              refine lv_icmp_ge (tgt := 141) hx hb dX7_swap_84 (by decide) (fun c7 => ?_) (fun c7 => ?_)
              · have hf := if_t c7 hf
                refine lv_aload_n hx hb dX7_swap_141 rfl (lv_at hl 0 rfl) ?_
                refine lv_sipush (v := 265) hx hb dX7_swap_142 (by decide) ?_
                refine lv_iload_n hx hb dX7_swap_145 rfl (lv_at hl 1 rfl) ?_
                obtain ⟨q8, hq8, hf⟩ := bind_some hf
                refine callV_i (As := [.int (265 : Int32), .int x1]) (rest := []) S hB hP hS (C := RX7) (b := E.ad 22 0) (g_recv (o := 22) (d := 0) hB hP m_22_0 rfl rfl) (K_X7_daysGo l hE σ z (265 : Int32) x1 hq8) (cwV 2 S.2.2.2.2 gX7_swap_X7_daysGo rfl rfl rfl (by decide +kernel) ⟨Nat.le_of_ble_eq_true rfl, Nat.le_of_ble_eq_true rfl⟩) rfl hl.1 rfl (Nat.le_of_ble_eq_true rfl) dX7_swap_146 ⟨Nat.zero_le _, Nat.zero_le _⟩ (fun H locs hP hS => ?_)
                refine lv_istore (lv' := [(7, .int q8.1), (0, .ref (E.ad 22 0)), (1, .int x1), (2, .int x2), (3, .int x3), (4, .int x4), (5, .int x5), (6, .int x6)]) hx hb dX7_swap_149 hl (by decide) rfl (fun ls hl => ?_)
                refine lv_iload hx hb dX7_swap_151 (lv_at hl 0 rfl) ?_
                refine lv_iload_n hx hb dX7_swap_153 rfl (lv_at hl 4 rfl) ?_
                refine lv_icmp_le (tgt := 168) hx hb dX7_swap_154 (by decide) (fun c9 => ?_) (fun c9 => ?_)
                · have hf := if_t c9 hf
                  refine lv_iload hx hb dX7_swap_168 (lv_at hl 5 rfl) ?_
                  exact hB170 q8.2 x1 x2 x3 x5 x6 q8.1 x4 _ _ _ hf hP hS (lv_sub hl [1, 2, 3, 4, 6, 7, 0] rfl)
                · have hf := if_f c9 hf
                  refine lv_bipush (v := 10) hx hb dX7_swap_157 (by decide) ?_
                  refine lv_iload hx hb dX7_swap_159 (lv_at hl 6 rfl) ?_
                  refine lv_imul hx hb dX7_swap_161 ?_
                  refine lv_iload hx hb dX7_swap_162 (lv_at hl 7 rfl) ?_
                  refine lv_iadd hx hb dX7_swap_164 ?_
                  refine lv_goto (tgt := 170) hx hb dX7_swap_165 (by decide) ?_
                  exact hB170 q8.2 x1 x2 x3 x5 x6 q8.1 (((10 : Int32) * x5) + x6) _ _ _ hf hP hS (lv_sub hl [1, 2, 3, 4, 6, 7, 0] rfl)
              · have hf := if_f c7 hf
                refine lv_aload_n hx hb dX7_swap_87 rfl (lv_at hl 0 rfl) ?_
                refine g_get (v := .ref (E.ad 22 1)) S hB hinX7 hP m_22_0 rfl rfl 0 (by decide) fl7 rfl rfl dX7_swap_88 ?_
                refine lv_sipush (v := 265) hx hb dX7_swap_91 (by decide) ?_
                refine lv_iload hx hb dX7_swap_94 (lv_at hl 7 rfl) ?_
                refine lv_iadd hx hb dX7_swap_96 ?_
                refine lv_iload hx hb dX7_swap_97 (lv_at hl 5 rfl) ?_
                refine lv_iadd hx hb dX7_swap_99 ?_
                refine lv_aload_n hx hb dX7_swap_100 rfl (lv_at hl 0 rfl) ?_
                refine g_get (v := .ref (E.ad 22 1)) S hB hinX7 hP m_22_0 rfl rfl 0 (by decide) fl7 rfl rfl dX7_swap_101 ?_
                refine lv_iload hx hb dX7_swap_104 (lv_at hl 7 rfl) ?_
                refine lv_iload hx hb dX7_swap_106 (lv_at hl 6 rfl) ?_
                refine lv_iadd hx hb dX7_swap_108 ?_
                obtain ⟨hv10, hf⟩ := ck_some hf
                refine g_iald (r := z 1) S hB hP m_22_1 rfl hv10 dX7_swap_109 ?_
                refine W.eq (g2 := F0 m 110 ls [.int (z 1 ((x7 + x6).toNatClampNeg)), .int (((265 : Int32) + x7) + x5), .ref (E.ad 22 1)]) rfl ?_
                obtain ⟨hv11, hf⟩ := ck_some hf
                refine g_iast (r := z 1) S hB hE hP hS m_22_1 rfl rfl (fun _ => rfl) hv11 (X' := (va_up σ 22 (ob z 1 ((((265 : Int32) + x7) + x5).toNatClampNeg) (z 1 ((x7 + x6).toNatClampNeg))))) (lens_put σ 22 _ _ _ _) dX7_swap_110 (fun H locs hP hS => ?_)
                refine lv_aload_n hx hb dX7_swap_111 rfl (lv_at hl 0 rfl) ?_
                refine g_get (v := .ref (E.ad 22 1)) S hB hinX7 hP m_22_0 rfl rfl 0 (by decide) fl7 rfl rfl dX7_swap_112 ?_
                refine lv_sipush (v := 265) hx hb dX7_swap_115 (by decide) ?_
                refine lv_iload hx hb dX7_swap_118 (lv_at hl 7 rfl) ?_
                refine lv_iadd hx hb dX7_swap_120 ?_
                refine lv_iload hx hb dX7_swap_121 (lv_at hl 6 rfl) ?_
                refine lv_iadd hx hb dX7_swap_123 ?_
                refine lv_aload_n hx hb dX7_swap_124 rfl (lv_at hl 0 rfl) ?_
                refine g_get (v := .ref (E.ad 22 1)) S hB hinX7 hP m_22_0 rfl rfl 0 (by decide) fl7 rfl rfl dX7_swap_125 ?_
                refine lv_iload hx hb dX7_swap_128 (lv_at hl 7 rfl) ?_
                refine lv_iload hx hb dX7_swap_130 (lv_at hl 5 rfl) ?_
                refine lv_iadd hx hb dX7_swap_132 ?_
                obtain ⟨hv12, hf⟩ := ck_some hf
                refine g_iald (r := (ob z 1 ((((265 : Int32) + x7) + x5).toNatClampNeg) (z 1 ((x7 + x6).toNatClampNeg))) 1) S hB hP m_22_1 rfl hv12 dX7_swap_133 ?_
                refine W.eq (g2 := F0 m 134 ls [.int ((ob z 1 ((((265 : Int32) + x7) + x5).toNatClampNeg) (z 1 ((x7 + x6).toNatClampNeg))) 1 ((x7 + x5).toNatClampNeg)), .int (((265 : Int32) + x7) + x6), .ref (E.ad 22 1)]) rfl ?_
                obtain ⟨hv13, hf⟩ := ck_some hf
                refine g_iast (r := (ob z 1 ((((265 : Int32) + x7) + x5).toNatClampNeg) (z 1 ((x7 + x6).toNatClampNeg))) 1) S hB hE hP hS m_22_1 rfl rfl (fun _ => rfl) hv13 (X' := (va_up σ 22 (ob (ob z 1 ((((265 : Int32) + x7) + x5).toNatClampNeg) (z 1 ((x7 + x6).toNatClampNeg))) 1 ((((265 : Int32) + x7) + x6).toNatClampNeg) ((ob z 1 ((((265 : Int32) + x7) + x5).toNatClampNeg) (z 1 ((x7 + x6).toNatClampNeg))) 1 ((x7 + x5).toNatClampNeg))))) (lens_put σ 22 _ _ _ _) dX7_swap_134 (fun H locs hP hS => ?_)
                refine lv_iinc (v := x7 + (4 : Int32)) (lv' := [(7, .int (x7 + (4 : Int32))), (0, .ref (E.ad 22 0)), (1, .int x1), (2, .int x2), (3, .int x3), (4, .int x4), (5, .int x5), (6, .int x6)]) hx hb dX7_swap_135 hl (k := 7) rfl rfl (by decide) rfl (fun ls hl => ?_)
                refine lv_goto (tgt := 80) hx hb dX7_swap_138 (by decide) ?_
                exact ih80 (ob (ob z 1 ((((265 : Int32) + x7) + x5).toNatClampNeg) (z 1 ((x7 + x6).toNatClampNeg))) 1 ((((265 : Int32) + x7) + x6).toNatClampNeg) ((ob z 1 ((((265 : Int32) + x7) + x5).toNatClampNeg) (z 1 ((x7 + x6).toNatClampNeg))) 1 ((x7 + x5).toNatClampNeg))) x1 x2 x3 x4 x5 x6 (x7 + (4 : Int32)) _ _ _ hf hP hS (lv_sub hl [1, 2, 3, 4, 5, 6, 7, 0] rfl)
          intro z x1 x2 x3 x4 x5 x6 H locs ls hf hP hS hl
          unfold f_X7_swap_l56 at hf
          refine lv_iload hx hb dX7_swap_56 (lv_at hl 6 rfl) ?_
          refine lv_aload_n hx hb dX7_swap_58 rfl (lv_at hl 0 rfl) ?_
          refine g_get (v := .ref (E.ad 22 1)) S hB hinX7 hP m_22_0 rfl rfl 0 (by decide) fl7 rfl rfl dX7_swap_59 ?_
          refine lv_bipush (v := 37) hx hb dX7_swap_62 (by decide) ?_
          refine g_iald (r := z 1) S hB hP m_22_1 rfl (by unfold vp_in; decide) dX7_swap_64 ?_
          refine lv_icmp_ge (tgt := 191) hx hb dX7_swap_65 (by decide) (fun c14 => ?_) (fun c14 => ?_)
          · have hf := if_t c14 hf
            refine lv_iinc (v := x5 + (1 : Int32)) (lv' := [(5, .int (x5 + (1 : Int32))), (0, .ref (E.ad 22 0)), (1, .int x1), (2, .int x2), (3, .int x3), (4, .int x4), (6, .int x6)]) hx hb dX7_swap_191 hl (k := 5) rfl rfl (by decide) rfl (fun ls hl => ?_)
            refine lv_goto (tgt := 38) hx hb dX7_swap_194 (by decide) ?_
            exact ih38 z x1 x2 x3 x4 (x5 + (1 : Int32)) _ _ _ hf hP hS (lv_sub hl [1, 2, 3, 4, 5, 0] rfl)
          · have hf := if_f c14 hf
            refine lv_aload_n hx hb dX7_swap_68 rfl (lv_at hl 0 rfl) ?_
            refine lv_iconst (v := 0) hx hb dX7_swap_69 (by decide) ?_
            refine lv_sipush (v := 265) hx hb dX7_swap_70 (by decide) ?_
            obtain ⟨q15, hq15, hf⟩ := bind_some hf
            refine callV_v (As := [.int (0 : Int32), .int (265 : Int32)]) (rest := []) S hB hP hS (C := RX7) (b := E.ad 22 0) (g_recv (o := 22) (d := 0) hB hP m_22_0 rfl rfl) (K_X7_copies l hE σ z (0 : Int32) (265 : Int32) hq15) (cwV 2 S.2.2.2.2 gX7_swap_X7_copies rfl rfl rfl (by decide +kernel) ⟨Nat.le_of_ble_eq_true rfl, Nat.le_of_ble_eq_true rfl⟩) rfl hl.1 rfl (Nat.le_of_ble_eq_true rfl) dX7_swap_73 ⟨Nat.zero_le _, Nat.zero_le _⟩ (fun H locs hP hS => ?_)
            refine lv_bipush (v := 25) hx hb dX7_swap_76 (by decide) ?_
            refine lv_istore (lv' := [(7, .int (25 : Int32)), (0, .ref (E.ad 22 0)), (1, .int x1), (2, .int x2), (3, .int x3), (4, .int x4), (5, .int x5), (6, .int x6)]) hx hb dX7_swap_78 hl (by decide) rfl (fun ls hl => ?_)
            exact hL80 FUEL q15 x1 x2 x3 x4 x5 x6 (25 : Int32) _ _ _ hf hP hS (lv_sub hl [1, 2, 3, 4, 5, 6, 7, 0] rfl)
      intro z x1 x2 x3 x4 x5 H locs ls hf hP hS hl
      unfold f_X7_swap_l38 at hf
      refine lv_iload hx hb dX7_swap_38 (lv_at hl 5 rfl) ?_
      refine lv_aload_n hx hb dX7_swap_40 rfl (lv_at hl 0 rfl) ?_
      refine g_get (v := .ref (E.ad 22 1)) S hB hinX7 hP m_22_0 rfl rfl 0 (by decide) fl7 rfl rfl dX7_swap_41 ?_
      refine lv_bipush (v := 37) hx hb dX7_swap_44 (by decide) ?_
      refine g_iald (r := z 1) S hB hP m_22_1 rfl (by unfold vp_in; decide) dX7_swap_46 ?_
      refine lv_icmp_ge (tgt := 197) hx hb dX7_swap_47 (by decide) (fun c16 => ?_) (fun c16 => ?_)
      · have hf := if_t c16 hf
        refine lv_iload hx hb dX7_swap_197 (lv_at hl 4 rfl) ?_
        refine lv_bipush (v := -4) hx hb dX7_swap_199 (by decide) ?_
        refine lv_icmp_eq (tgt := 208) hx hb dX7_swap_201 (by decide) (fun c17 => ?_) (fun c17 => ?_)
        · have hf := if_t c17 hf
          exact hB208 z x4 _ _ _ hf hP hS (lv_sub hl [4] rfl)
        · have hf := if_f c17 hf
          refine lv_iload_n hx hb dX7_swap_204 rfl (lv_at hl 2 rfl) ?_
          refine lv_if_ne (tgt := 213) hx hb dX7_swap_205 (by decide) (fun c18 => ?_) (fun c18 => ?_)
          · have hf := if_f c18 hf
            refine lv_iload_n hx hb dX7_swap_213 rfl (lv_at hl 3 rfl) ?_
            exact fin dX7_swap_214 (s1 hf) (by rw [(s2 hf)]) hP hS
          · have hf := if_t c18 hf
            exact hB208 z x4 _ _ _ hf hP hS (lv_sub hl [4] rfl)
      · have hf := if_f c16 hf
        refine lv_iload hx hb dX7_swap_50 (lv_at hl 5 rfl) ?_
        refine lv_iconst (v := 1) hx hb dX7_swap_52 (by decide) ?_
        refine lv_iadd hx hb dX7_swap_53 ?_
        refine lv_istore (lv' := [(6, .int (x5 + (1 : Int32))), (0, .ref (E.ad 22 0)), (1, .int x1), (2, .int x2), (3, .int x3), (4, .int x4), (5, .int x5)]) hx hb dX7_swap_54 hl (by decide) rfl (fun ls hl => ?_)
        exact hL56 FUEL z x1 x2 x3 x4 x5 (x5 + (1 : Int32)) _ _ _ hf hP hS (lv_sub hl [1, 2, 3, 4, 5, 6, 0] rfl)
  unfold f_X7_swap at hf
  refine lv_iload_n hx hb dX7_swap_0 rfl (lv_at hl 1 rfl) ?_
  refine lv_i2l hx hb dX7_swap_1 (v := a1.toInt64) rfl ?_
  refine lv_lconst (v := 0) hx hb dX7_swap_2 (by decide) ?_
  refine lv_ldc2 hx hb S.2.2.2.1 (S.2.2.2.2 (.constantLong RX7 194 (60)) (by decide +kernel)) dX7_swap_3 ?_
  obtain ⟨q1, hq1, hf⟩ := bind_some hf
  refine callS_i (As := [.long a1.toInt64, .long (0 : Int64), .long (60 : Int64)]) (rest := []) S hB hP hS (K_X7_in l hE (va_up σ 22 z) a1.toInt64 (0 : Int64) (60 : Int64) hq1) (va_cwS 3 S.2.2.2.2 gX7_swap_X7_in rfl rfl rfl (by decide +kernel) ⟨Nat.le_of_ble_eq_true rfl, Nat.le_of_ble_eq_true rfl⟩) rfl hl.1 rfl (Nat.le_of_ble_eq_true rfl) dX7_swap_6 ⟨Nat.zero_le _, Nat.zero_le _⟩ (fun H locs hP hS => ?_)
  refine lv_if_eq (tgt := 22) hx hb dX7_swap_9 (by decide) (fun c2 => ?_) (fun c2 => ?_)
  · have hf := if_t c2 hf
    refine lv_iconst (v := -1) hx hb dX7_swap_22 (by decide) ?_
    exact fin dX7_swap_23 (s1 hf) (by rw [(s2 hf)]) hP hS
  · have hf := if_f c2 hf
    refine lv_iload_n hx hb dX7_swap_12 rfl (lv_at hl 2 rfl) ?_
    refine lv_i2l hx hb dX7_swap_13 (v := a2.toInt64) rfl ?_
    refine lv_lconst (v := 0) hx hb dX7_swap_14 (by decide) ?_
    refine lv_lconst (v := 1) hx hb dX7_swap_15 (by decide) ?_
    obtain ⟨q3, hq3, hf⟩ := bind_some hf
    refine callS_i (As := [.long a2.toInt64, .long (0 : Int64), .long (1 : Int64)]) (rest := []) S hB hP hS (K_X7_in l hE (va_up σ 22 z) a2.toInt64 (0 : Int64) (1 : Int64) hq3) (va_cwS 3 S.2.2.2.2 gX7_swap_X7_in rfl rfl rfl (by decide +kernel) ⟨Nat.le_of_ble_eq_true rfl, Nat.le_of_ble_eq_true rfl⟩) rfl hl.1 rfl (Nat.le_of_ble_eq_true rfl) dX7_swap_16 ⟨Nat.zero_le _, Nat.zero_le _⟩ (fun H locs hP hS => ?_)
    refine lv_if_ne (tgt := 24) hx hb dX7_swap_19 (by decide) (fun c4 => ?_) (fun c4 => ?_)
    · have hf := if_f c4 hf
      refine lv_aload_n hx hb dX7_swap_24 rfl (lv_at hl 0 rfl) ?_
      refine lv_iconst (v := 0) hx hb dX7_swap_25 (by decide) ?_
      refine lv_iload_n hx hb dX7_swap_26 rfl (lv_at hl 1 rfl) ?_
      obtain ⟨q5, hq5, hf⟩ := bind_some hf
      refine callV_i (As := [.int (0 : Int32), .int a1]) (rest := []) S hB hP hS (C := RX7) (b := E.ad 22 0) (g_recv (o := 22) (d := 0) hB hP m_22_0 rfl rfl) (K_X7_daysGo l hE σ z (0 : Int32) a1 hq5) (cwV 2 S.2.2.2.2 gX7_swap_X7_daysGo rfl rfl rfl (by decide +kernel) ⟨Nat.le_of_ble_eq_true rfl, Nat.le_of_ble_eq_true rfl⟩) rfl hl.1 rfl (Nat.le_of_ble_eq_true rfl) dX7_swap_27 ⟨Nat.zero_le _, Nat.zero_le _⟩ (fun H locs hP hS => ?_)
      refine lv_istore_n (lv' := [(3, .int q5.1), (0, .ref (E.ad 22 0)), (1, .int a1), (2, .int a2)]) hx hb dX7_swap_30 rfl hl (by decide) rfl (fun ls hl => ?_)
      refine lv_bipush (v := -4) hx hb dX7_swap_31 (by decide) ?_
      refine lv_istore (lv' := [(4, .int (-4 : Int32)), (3, .int q5.1), (0, .ref (E.ad 22 0)), (1, .int a1), (2, .int a2)]) hx hb dX7_swap_33 hl (by decide) rfl (fun ls hl => ?_)
      refine lv_iconst (v := 0) hx hb dX7_swap_35 (by decide) ?_
      refine lv_istore (lv' := [(5, .int (0 : Int32)), (4, .int (-4 : Int32)), (3, .int q5.1), (0, .ref (E.ad 22 0)), (1, .int a1), (2, .int a2)]) hx hb dX7_swap_36 hl (by decide) rfl (fun ls hl => ?_)
      exact hL38 FUEL q5.2 a1 a2 q5.1 (-4 : Int32) (0 : Int32) _ _ _ hf hP hS (lv_sub hl [3, 4, 5, 2, 1, 0] rfl)
    · have hf := if_t c4 hf
      refine lv_iconst (v := -1) hx hb dX7_swap_22 (by decide) ?_
      exact fin dX7_swap_23 (s1 hf) (by rw [(s2 hf)]) hP hS
theorem KW_X7_swap (l : Launch) {E : En} (hE : Inj E) (X : Wd) (a1 : Int32) (a2 : Int32) {r : Int32} {z' : Ob} (hf : f_X7_swap (X 22) a1 a2 = some (r, z')) : Cti l E yX7_swap wsX7_swap rm_X7_swap [.ref (E.ad 22 0), .int a1, .int a2] X r (va_up X 22 z') := by
  have h := K_X7_swap l hE X (X 22) a1 a2 hf
  rw [lens_all] at h
  exact h
