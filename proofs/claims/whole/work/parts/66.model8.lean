/-! X7_count -/
abbrev rm_X7_count : Room := { frames := 0, cells := 0, slots := 0, locals := 0 }
set_option maxHeartbeats 4000000 in
set_option maxRecDepth 100000 in
theorem K_X7_count (l : Launch) {E : En} (hE : Inj E) (σ : Wd) (z : Ob) (a1 : Int32) {r : Int32} (hf : f_X7_count z a1 = some r) : Cti l E yX7_count wsX7_count rm_X7_count [.ref (E.ad 22 0), .int a1] (va_up σ 22 z) r (va_up σ 22 z) := by
  refine meet_i (cc := cX7_count) (maxL := 5) (own := RX7) (by decide) rfl rfl (Nat.le_of_ble_eq_true rfl) ?_
  intro p e s m below meth c Z S hB fin hP hS ls hl
  have hx := S.1
  have hb := S.2.1
  have hl : lv_has ls 5 [(0, .ref (E.ad 22 0)), (1, .int a1)] := hl
  have hinX7 : ∀ w ∈ u_ws RX7 TX7 25, w ∈ wsX7_count := by decide +kernel
  have fl7 := S.2.2.2.2 (.fieldLink RX7 7 "MownMazeModel" "state" "[I") (by decide +kernel)
  have fl38 := S.2.2.2.2 (.fieldLink RX7 38 "MownMazeModel" "isKept" "[Z") (by decide +kernel)
  have fl42 := S.2.2.2.2 (.fieldLink RX7 42 "MownMazeModel" "lanes" "[I") (by decide +kernel)
  have fl45 := S.2.2.2.2 (.fieldLink RX7 45 "MownMazeModel" "lengths" "[I") (by decide +kernel)
  have fl57 := S.2.2.2.2 (.fieldLink RX7 57 "MownMazeModel" "taped" "I") (by decide +kernel)
  have fl128 := S.2.2.2.2 (.fieldLink RX7 128 "MownMazeModel" "seenMany" "I") (by decide +kernel)
  have hB131 : ∀ (y0 : Int32) (H : Heap) (locs : List Loc) (ls : Array Slot), f_X7_count_b131 z y0 = some r → va_P E.1 vwCl (GW E (va_up σ 22 z)) H → va_S (GA E) s.heap H locs → lv_has ls 5 [(0, .ref (E.ad 22 0))] → W p l e rm_X7_count s m ([.ref (E.ad 22 0), .int a1] : List Value).toArray below meth c H locs 0 0 Z (F0 m 131 ls [.int y0]) := by
    intro y0 H locs ls hf hP hS hl
    unfold f_X7_count_b131 at hf
    refine lv_aload_n hx hb dX7_count_131 rfl (lv_at hl 0 rfl) ?_
    refine g_get (v := .ref (E.ad 22 9)) S hB hinX7 hP m_22_0 rfl rfl 20 (by decide) fl38 rfl rfl dX7_count_132 ?_
    refine lv_iconst (v := 1) hx hb dX7_count_135 (by decide) ?_
    refine g_zald (r := z 9) S hB hP m_22_9 rfl (by unfold vp_in; decide) dX7_count_136 ?_
    refine lv_if_eq (tgt := 144) hx hb dX7_count_137 (by decide) (fun c1 => ?_) (fun c1 => ?_)
    · have hf := if_t c1 hf
      refine lv_iconst (v := 0) hx hb dX7_count_144 (by decide) ?_
      refine lv_iadd hx hb dX7_count_145 ?_
      exact fin dX7_count_146 (s0 hf) rfl hP hS
    · have hf := if_f c1 hf
      refine lv_iconst (v := 1) hx hb dX7_count_140 (by decide) ?_
      refine lv_goto (tgt := 145) hx hb dX7_count_141 (by decide) ?_
      refine lv_iadd hx hb dX7_count_145 ?_
      exact fin dX7_count_146 (s0 hf) rfl hP hS
  have hL41 : ∀ (n41 : Nat) (x1 : Int32) (x2 : Int32) (x3 : Int32) (x4 : Int32) (H : Heap) (locs : List Loc) (ls : Array Slot), f_X7_count_l41 n41 z x1 x2 x3 x4 = some r → va_P E.1 vwCl (GW E (va_up σ 22 z)) H → va_S (GA E) s.heap H locs → lv_has ls 5 [(0, .ref (E.ad 22 0)), (1, .int x1), (2, .int x2), (3, .int x3), (4, .int x4)] → W p l e rm_X7_count s m ([.ref (E.ad 22 0), .int a1] : List Value).toArray below meth c H locs 0 0 Z (F0 m 41 ls []) := by
    intro n41
    induction n41 with
    | zero =>
      intro x1 x2 x3 x4 H locs ls hf
      cases (show (none : Option _) = some _ from hf)
    | succ n41 ih41 =>
      intro x1 x2 x3 x4 H locs ls hf hP hS hl
      unfold f_X7_count_l41 at hf
      refine lv_iload hx hb dX7_count_41 (lv_at hl 4 rfl) ?_
      refine lv_aload_n hx hb dX7_count_43 rfl (lv_at hl 0 rfl) ?_
      refine g_get (v := .ref (E.ad 22 1)) S hB hinX7 hP m_22_0 rfl rfl 0 (by decide) fl7 rfl rfl dX7_count_44 ?_
      refine lv_bipush (v := 37) hx hb dX7_count_47 (by decide) ?_
      refine g_iald (r := z 1) S hB hP m_22_1 rfl (by unfold vp_in; decide) dX7_count_49 ?_
      refine lv_icmp_ge (tgt := 72) hx hb dX7_count_50 (by decide) (fun c2 => ?_) (fun c2 => ?_)
      · have hf := if_t c2 hf
        refine lv_iload_n hx hb dX7_count_72 rfl (lv_at hl 1 rfl) ?_
        by_cases c3 : x1 = (0 : Int32)
        · have hf := if_t c3 hf
          refine lv_tableIn (off := 39) (tgt := 112) hx hb dX7_count_73 (by rw [c3]; decide) (by rw [c3]; decide) (by rw [c3]; rfl) (by decide) ?_
          refine lv_aload_n hx hb dX7_count_112 rfl (lv_at hl 0 rfl) ?_
          refine g_get (v := .int (z 0 18)) S hB hinX7 hP m_22_0 rfl rfl 18 (by decide) fl128 rfl rfl dX7_count_113 ?_
          exact fin dX7_count_116 (s0 hf) rfl hP hS
        · have hf := if_f c3 hf
          by_cases c4 : x1 = (1 : Int32)
          · have hf := if_t c4 hf
            refine lv_tableIn (off := 44) (tgt := 117) hx hb dX7_count_73 (by rw [c4]; decide) (by rw [c4]; decide) (by rw [c4]; rfl) (by decide) ?_
            refine lv_aload_n hx hb dX7_count_117 rfl (lv_at hl 0 rfl) ?_
            refine g_get (v := .ref (E.ad 22 9)) S hB hinX7 hP m_22_0 rfl rfl 20 (by decide) fl38 rfl rfl dX7_count_118 ?_
            refine lv_iconst (v := 0) hx hb dX7_count_121 (by decide) ?_
            refine g_zald (r := z 9) S hB hP m_22_9 rfl (by unfold vp_in; decide) dX7_count_122 ?_
            refine lv_if_eq (tgt := 130) hx hb dX7_count_123 (by decide) (fun c5 => ?_) (fun c5 => ?_)
            · have hf := if_t c5 hf
              refine lv_iconst (v := 0) hx hb dX7_count_130 (by decide) ?_
              exact hB131 (0 : Int32) _ _ _ hf hP hS (lv_sub hl [0] rfl)
            · have hf := if_f c5 hf
              refine lv_iconst (v := 1) hx hb dX7_count_126 (by decide) ?_
              refine lv_goto (tgt := 131) hx hb dX7_count_127 (by decide) ?_
              exact hB131 (1 : Int32) _ _ _ hf hP hS (lv_sub hl [0] rfl)
          · have hf := if_f c4 hf
            by_cases c6 : x1 = (2 : Int32)
            · have hf := if_t c6 hf
              refine lv_tableIn (off := 74) (tgt := 147) hx hb dX7_count_73 (by rw [c6]; decide) (by rw [c6]; decide) (by rw [c6]; rfl) (by decide) ?_
              refine lv_aload_n hx hb dX7_count_147 rfl (lv_at hl 0 rfl) ?_
              refine g_get (v := .int (z 0 5)) S hB hinX7 hP m_22_0 rfl rfl 5 (by decide) fl57 rfl rfl dX7_count_148 ?_
              exact fin dX7_count_151 (s0 hf) rfl hP hS
            · have hf := if_f c6 hf
              by_cases c7 : x1 = (3 : Int32)
              · have hf := if_t c7 hf
                refine lv_tableIn (off := 79) (tgt := 152) hx hb dX7_count_73 (by rw [c7]; decide) (by rw [c7]; decide) (by rw [c7]; rfl) (by decide) ?_
                refine lv_aload_n hx hb dX7_count_152 rfl (lv_at hl 0 rfl) ?_
                refine g_get (v := .ref (E.ad 22 10)) S hB hinX7 hP m_22_0 rfl rfl 21 (by decide) fl42 rfl rfl dX7_count_153 ?_
                refine lv_iconst (v := 0) hx hb dX7_count_156 (by decide) ?_
                refine g_iald (r := z 10) S hB hP m_22_10 rfl (by unfold vp_in; decide) dX7_count_157 ?_
                refine lv_bipush (v := -4) hx hb dX7_count_158 (by decide) ?_
                refine lv_icmp_ne (tgt := 168) hx hb dX7_count_160 (by decide) (fun c8 => ?_) (fun c8 => ?_)
                · have hf := if_f c8 hf
                  refine lv_aload_n hx hb dX7_count_168 rfl (lv_at hl 0 rfl) ?_
                  refine g_get (v := .ref (E.ad 22 11)) S hB hinX7 hP m_22_0 rfl rfl 22 (by decide) fl45 rfl rfl dX7_count_169 ?_
                  refine lv_iconst (v := 0) hx hb dX7_count_172 (by decide) ?_
                  refine g_iald (r := z 11) S hB hP m_22_11 rfl (by unfold vp_in; decide) dX7_count_173 ?_
                  exact fin dX7_count_174 (s0 hf) rfl hP hS
                · have hf := if_t c8 hf
                  refine lv_bipush (v := -4) hx hb dX7_count_163 (by decide) ?_
                  refine lv_goto (tgt := 174) hx hb dX7_count_165 (by decide) ?_
                  exact fin dX7_count_174 (s0 hf) rfl hP hS
              · have hf := if_f c7 hf
                by_cases c9 : x1 = (4 : Int32)
                · have hf := if_t c9 hf
                  refine lv_tableIn (off := 102) (tgt := 175) hx hb dX7_count_73 (by rw [c9]; decide) (by rw [c9]; decide) (by rw [c9]; rfl) (by decide) ?_
                  refine lv_iload_n hx hb dX7_count_175 rfl (lv_at hl 2 rfl) ?_
                  exact fin dX7_count_176 (s0 hf) rfl hP hS
                · have hf := if_f c9 hf
                  by_cases c10 : x1 = (5 : Int32)
                  · have hf := if_t c10 hf
                    refine lv_tableIn (off := 104) (tgt := 177) hx hb dX7_count_73 (by rw [c10]; decide) (by rw [c10]; decide) (by rw [c10]; rfl) (by decide) ?_
                    refine lv_iload_n hx hb dX7_count_177 rfl (lv_at hl 3 rfl) ?_
                    exact fin dX7_count_178 (s0 hf) rfl hP hS
                  · have hf := if_f c10 hf
                    have tc3 := lv_neT c3 (a := 0) (by decide)
                    have tc4 := lv_neT c4 (a := 1) (by decide)
                    have tc6 := lv_neT c6 (a := 2) (by decide)
                    have tc7 := lv_neT c7 (a := 3) (by decide)
                    have tc9 := lv_neT c9 (a := 4) (by decide)
                    have tc10 := lv_neT c10 (a := 5) (by decide)
                    refine lv_tableOut (tgt := 179) hx hb dX7_count_73 (by omega) (by decide) ?_
                    refine lv_iconst (v := -1) hx hb dX7_count_179 (by decide) ?_
                    exact fin dX7_count_180 (s0 hf) rfl hP hS
      · have hf := if_f c2 hf
        refine lv_iload_n hx hb dX7_count_53 rfl (lv_at hl 3 rfl) ?_
        refine lv_aload_n hx hb dX7_count_54 rfl (lv_at hl 0 rfl) ?_
        refine g_get (v := .ref (E.ad 22 1)) S hB hinX7 hP m_22_0 rfl rfl 0 (by decide) fl7 rfl rfl dX7_count_55 ?_
        refine lv_bipush (v := 33) hx hb dX7_count_58 (by decide) ?_
        refine lv_iload hx hb dX7_count_60 (lv_at hl 4 rfl) ?_
        refine lv_iadd hx hb dX7_count_62 ?_
        obtain ⟨hv11, hf⟩ := ck_some hf
        refine g_iald (r := z 1) S hB hP m_22_1 rfl hv11 dX7_count_63 ?_
        refine W.eq (g2 := F0 m 64 ls [.int (z 1 (((33 : Int32) + x4).toNatClampNeg)), .int x3]) rfl ?_
        refine lv_iadd hx hb dX7_count_64 ?_
        refine lv_istore_n (lv' := [(3, .int (x3 + (z 1 (((33 : Int32) + x4).toNatClampNeg)))), (0, .ref (E.ad 22 0)), (1, .int x1), (2, .int x2), (4, .int x4)]) hx hb dX7_count_65 rfl hl (by decide) rfl (fun ls hl => ?_)
        refine lv_iinc (v := x4 + (1 : Int32)) (lv' := [(4, .int (x4 + (1 : Int32))), (3, .int (x3 + (z 1 (((33 : Int32) + x4).toNatClampNeg)))), (0, .ref (E.ad 22 0)), (1, .int x1), (2, .int x2)]) hx hb dX7_count_66 hl (k := 4) rfl rfl (by decide) rfl (fun ls hl => ?_)
        refine lv_goto (tgt := 41) hx hb dX7_count_69 (by decide) ?_
        exact ih41 x1 x2 (x3 + (z 1 (((33 : Int32) + x4).toNatClampNeg))) (x4 + (1 : Int32)) _ _ _ hf hP hS (lv_sub hl [2, 3, 4, 1, 0] rfl)
  have hL7 : ∀ (n7 : Nat) (x1 : Int32) (x2 : Int32) (x3 : Int32) (x4 : Int32) (H : Heap) (locs : List Loc) (ls : Array Slot), f_X7_count_l7 n7 z x1 x2 x3 x4 = some r → va_P E.1 vwCl (GW E (va_up σ 22 z)) H → va_S (GA E) s.heap H locs → lv_has ls 5 [(0, .ref (E.ad 22 0)), (1, .int x1), (2, .int x2), (3, .int x3), (4, .int x4)] → W p l e rm_X7_count s m ([.ref (E.ad 22 0), .int a1] : List Value).toArray below meth c H locs 0 0 Z (F0 m 7 ls []) := by
    intro n7
    induction n7 with
    | zero =>
      intro x1 x2 x3 x4 H locs ls hf
      cases (show (none : Option _) = some _ from hf)
    | succ n7 ih7 =>
      intro x1 x2 x3 x4 H locs ls hf hP hS hl
      unfold f_X7_count_l7 at hf
      refine lv_iload hx hb dX7_count_7 (lv_at hl 4 rfl) ?_
      refine lv_aload_n hx hb dX7_count_9 rfl (lv_at hl 0 rfl) ?_
      refine g_get (v := .ref (E.ad 22 1)) S hB hinX7 hP m_22_0 rfl rfl 0 (by decide) fl7 rfl rfl dX7_count_10 ?_
      refine lv_bipush (v := 51) hx hb dX7_count_13 (by decide) ?_
      refine g_iald (r := z 1) S hB hP m_22_1 rfl (by unfold vp_in; decide) dX7_count_15 ?_
      refine lv_icmp_ge (tgt := 38) hx hb dX7_count_16 (by decide) (fun c12 => ?_) (fun c12 => ?_)
      · have hf := if_t c12 hf
        refine lv_iconst (v := 0) hx hb dX7_count_38 (by decide) ?_
        refine lv_istore (lv' := [(4, .int (0 : Int32)), (0, .ref (E.ad 22 0)), (1, .int x1), (2, .int x2), (3, .int x3)]) hx hb dX7_count_39 hl (by decide) rfl (fun ls hl => ?_)
        exact hL41 FUEL x1 x2 x3 (0 : Int32) _ _ _ hf hP hS (lv_sub hl [1, 2, 3, 4, 0] rfl)
      · have hf := if_f c12 hf
        refine lv_iload_n hx hb dX7_count_19 rfl (lv_at hl 2 rfl) ?_
        refine lv_aload_n hx hb dX7_count_20 rfl (lv_at hl 0 rfl) ?_
        refine g_get (v := .ref (E.ad 22 1)) S hB hinX7 hP m_22_0 rfl rfl 0 (by decide) fl7 rfl rfl dX7_count_21 ?_
        refine lv_bipush (v := 43) hx hb dX7_count_24 (by decide) ?_
        refine lv_iload hx hb dX7_count_26 (lv_at hl 4 rfl) ?_
        refine lv_iadd hx hb dX7_count_28 ?_
        obtain ⟨hv13, hf⟩ := ck_some hf
        refine g_iald (r := z 1) S hB hP m_22_1 rfl hv13 dX7_count_29 ?_
        refine W.eq (g2 := F0 m 30 ls [.int (z 1 (((43 : Int32) + x4).toNatClampNeg)), .int x2]) rfl ?_
        refine lv_iadd hx hb dX7_count_30 ?_
        refine lv_istore_n (lv' := [(2, .int (x2 + (z 1 (((43 : Int32) + x4).toNatClampNeg)))), (0, .ref (E.ad 22 0)), (1, .int x1), (3, .int x3), (4, .int x4)]) hx hb dX7_count_31 rfl hl (by decide) rfl (fun ls hl => ?_)
        refine lv_iinc (v := x4 + (1 : Int32)) (lv' := [(4, .int (x4 + (1 : Int32))), (2, .int (x2 + (z 1 (((43 : Int32) + x4).toNatClampNeg)))), (0, .ref (E.ad 22 0)), (1, .int x1), (3, .int x3)]) hx hb dX7_count_32 hl (k := 4) rfl rfl (by decide) rfl (fun ls hl => ?_)
        refine lv_goto (tgt := 7) hx hb dX7_count_35 (by decide) ?_
        exact ih7 x1 (x2 + (z 1 (((43 : Int32) + x4).toNatClampNeg))) x3 (x4 + (1 : Int32)) _ _ _ hf hP hS (lv_sub hl [2, 3, 1, 4, 0] rfl)
  unfold f_X7_count at hf
  refine lv_iconst (v := 0) hx hb dX7_count_0 (by decide) ?_
  refine lv_istore_n (lv' := [(2, .int (0 : Int32)), (0, .ref (E.ad 22 0)), (1, .int a1)]) hx hb dX7_count_1 rfl hl (by decide) rfl (fun ls hl => ?_)
  refine lv_iconst (v := 0) hx hb dX7_count_2 (by decide) ?_
  refine lv_istore_n (lv' := [(3, .int (0 : Int32)), (2, .int (0 : Int32)), (0, .ref (E.ad 22 0)), (1, .int a1)]) hx hb dX7_count_3 rfl hl (by decide) rfl (fun ls hl => ?_)
  refine lv_iconst (v := 0) hx hb dX7_count_4 (by decide) ?_
  refine lv_istore (lv' := [(4, .int (0 : Int32)), (3, .int (0 : Int32)), (2, .int (0 : Int32)), (0, .ref (E.ad 22 0)), (1, .int a1)]) hx hb dX7_count_5 hl (by decide) rfl (fun ls hl => ?_)
  exact hL7 FUEL a1 (0 : Int32) (0 : Int32) (0 : Int32) _ _ _ hf hP hS (lv_sub hl [3, 4, 2, 1, 0] rfl)
theorem KW_X7_count (l : Launch) {E : En} (hE : Inj E) (X : Wd) (a1 : Int32) {r : Int32} (hf : f_X7_count (X 22) a1 = some r) : Cti l E yX7_count wsX7_count rm_X7_count [.ref (E.ad 22 0), .int a1] X r X := by
  have h := K_X7_count l hE X (X 22) a1 hf
  rw [lens_all] at h
  exact h
