/-! X7_ask -/
abbrev rm_X7_ask : Room := { frames := 6, cells := 0, slots := 0, locals := 144 }
set_option maxHeartbeats 4000000 in
set_option maxRecDepth 100000 in
theorem K_X7_ask (l : Launch) {E : En} (hE : Inj E) (σ : Wd) (z : Ob) (a1 : Int32) (a2 : Int32) {r : Int32} {z' : Ob} (hf : f_X7_ask z a1 a2 = some (r, z')) : Cti l E yX7_ask wsX7_ask rm_X7_ask [.ref (E.ad 22 0), .int a1, .int a2] (va_up σ 22 z) r (va_up σ 22 z') := by
  refine meet_i (cc := cX7_ask) (maxL := 11) (own := RX7) (by decide) rfl rfl (Nat.le_of_ble_eq_true rfl) ?_
  intro p e s m below meth c Z S hB fin hP hS ls hl
  have hx := S.1
  have hb := S.2.1
  have hl : lv_has ls 11 [(0, .ref (E.ad 22 0)), (1, .int a1), (2, .int a2)] := hl
  have hinX7 : ∀ w ∈ u_ws RX7 TX7 25, w ∈ wsX7_ask := by decide +kernel
  have fl35 := S.2.2.2.2 (.fieldLink RX7 35 "MownMazeModel" "standBy" "[I") (by decide +kernel)
  have hB204 : ∀ (z : Ob) (x6 : Int32) (H : Heap) (locs : List Loc) (ls : Array Slot), f_X7_ask_b204 z x6 = some (r, z') → va_P E.1 vwCl (GW E (va_up σ 22 z)) H → va_S (GA E) s.heap H locs → lv_has ls 11 [(6, .int x6)] → W p l e rm_X7_ask s m ([.ref (E.ad 22 0), .int a1, .int a2] : List Value).toArray below meth c H locs 0 0 Z (F0 m 204 ls []) := by
    intro z x6 H locs ls hf hP hS hl
    unfold f_X7_ask_b204 at hf
    refine lv_iload hx hb dX7_ask_204 (lv_at hl 0 rfl) ?_
    refine lv_goto (tgt := 211) hx hb dX7_ask_206 (by decide) ?_
    exact fin dX7_ask_211 (s1 hf) (by rw [(s2 hf)]) hP hS
  have hL48 : ∀ (n48 : Nat) (z : Ob) (x2 : Int32) (x3 : Int32) (x4 : Int32) (x5 : Int32) (x6 : Int32) (x7 : Int32) (H : Heap) (locs : List Loc) (ls : Array Slot), f_X7_ask_l48 n48 z x2 x3 x4 x5 x6 x7 = some (r, z') → va_P E.1 vwCl (GW E (va_up σ 22 z)) H → va_S (GA E) s.heap H locs → lv_has ls 11 [(0, .ref (E.ad 22 0)), (2, .int x2), (3, .int x3), (4, .int x4), (5, .int x5), (6, .int x6), (7, .int x7)] → W p l e rm_X7_ask s m ([.ref (E.ad 22 0), .int a1, .int a2] : List Value).toArray below meth c H locs 0 0 Z (F0 m 48 ls []) := by
    intro n48
    induction n48 with
    | zero =>
      intro z x2 x3 x4 x5 x6 x7 H locs ls hf
      cases (show (none : Option _) = some _ from hf)
    | succ n48 ih48 =>
      have hL58 : ∀ (n58 : Nat) (z : Ob) (x2 : Int32) (x3 : Int32) (x4 : Int32) (x5 : Int32) (x6 : Int32) (x7 : Int32) (x8 : Int32) (H : Heap) (locs : List Loc) (ls : Array Slot), f_X7_ask_l58 (f_X7_ask_l48 n48) n58 z x2 x3 x4 x5 x6 x7 x8 = some (r, z') → va_P E.1 vwCl (GW E (va_up σ 22 z)) H → va_S (GA E) s.heap H locs → lv_has ls 11 [(0, .ref (E.ad 22 0)), (2, .int x2), (3, .int x3), (4, .int x4), (5, .int x5), (6, .int x6), (7, .int x7), (8, .int x8)] → W p l e rm_X7_ask s m ([.ref (E.ad 22 0), .int a1, .int a2] : List Value).toArray below meth c H locs 0 0 Z (F0 m 58 ls []) := by
        intro n58
        induction n58 with
        | zero =>
          intro z x2 x3 x4 x5 x6 x7 x8 H locs ls hf
          cases (show (none : Option _) = some _ from hf)
        | succ n58 ih58 =>
          have hB179 : ∀ (z : Ob) (x2 : Int32) (x3 : Int32) (x4 : Int32) (x6 : Int32) (x7 : Int32) (x8 : Int32) (y0 : Int32) (H : Heap) (locs : List Loc) (ls : Array Slot), f_X7_ask_b179 (f_X7_ask_l48 n48) (f_X7_ask_l58 (f_X7_ask_l48 n48) n58) z x2 x3 x4 x6 x7 x8 y0 = some (r, z') → va_P E.1 vwCl (GW E (va_up σ 22 z)) H → va_S (GA E) s.heap H locs → lv_has ls 11 [(0, .ref (E.ad 22 0)), (2, .int x2), (3, .int x3), (4, .int x4), (6, .int x6), (7, .int x7), (8, .int x8)] → W p l e rm_X7_ask s m ([.ref (E.ad 22 0), .int a1, .int a2] : List Value).toArray below meth c H locs 0 0 Z (F0 m 179 ls [.int y0]) := by
            intro z x2 x3 x4 x6 x7 x8 y0 H locs ls hf hP hS hl
            unfold f_X7_ask_b179 at hf
            refine lv_istore (lv' := [(5, .int y0), (0, .ref (E.ad 22 0)), (2, .int x2), (3, .int x3), (4, .int x4), (6, .int x6), (7, .int x7), (8, .int x8)]) hx hb dX7_ask_179 hl (by decide) rfl (fun ls hl => ?_)
            refine lv_iinc (v := x8 + (1 : Int32)) (lv' := [(8, .int (x8 + (1 : Int32))), (5, .int y0), (0, .ref (E.ad 22 0)), (2, .int x2), (3, .int x3), (4, .int x4), (6, .int x6), (7, .int x7)]) hx hb dX7_ask_181 hl (k := 7) rfl rfl (by decide) rfl (fun ls hl => ?_)
            refine lv_goto (tgt := 58) hx hb dX7_ask_184 (by decide) ?_
            exact ih58 z x2 x3 x4 y0 x6 x7 (x8 + (1 : Int32)) _ _ _ hf hP hS (lv_sub hl [2, 3, 4, 5, 1, 6, 7, 0] rfl)
          have hB163 : ∀ (z : Ob) (x2 : Int32) (x3 : Int32) (x4 : Int32) (x5 : Int32) (x7 : Int32) (x8 : Int32) (x10 : Int32) (y0 : Int32) (H : Heap) (locs : List Loc) (ls : Array Slot), f_X7_ask_b163 (f_X7_ask_l48 n48) (f_X7_ask_l58 (f_X7_ask_l48 n48) n58) z x2 x3 x4 x5 x7 x8 x10 y0 = some (r, z') → va_P E.1 vwCl (GW E (va_up σ 22 z)) H → va_S (GA E) s.heap H locs → lv_has ls 11 [(0, .ref (E.ad 22 0)), (2, .int x2), (3, .int x3), (4, .int x4), (5, .int x5), (7, .int x7), (8, .int x8), (10, .int x10)] → W p l e rm_X7_ask s m ([.ref (E.ad 22 0), .int a1, .int a2] : List Value).toArray below meth c H locs 0 0 Z (F0 m 163 ls [.int y0]) := by
            intro z x2 x3 x4 x5 x7 x8 x10 y0 H locs ls hf hP hS hl
            unfold f_X7_ask_b163 at hf
            refine lv_istore (lv' := [(6, .int y0), (0, .ref (E.ad 22 0)), (2, .int x2), (3, .int x3), (4, .int x4), (5, .int x5), (7, .int x7), (8, .int x8), (10, .int x10)]) hx hb dX7_ask_163 hl (by decide) rfl (fun ls hl => ?_)
            refine lv_iload hx hb dX7_ask_165 (lv_at hl 8 rfl) ?_
            refine lv_iload hx hb dX7_ask_167 (lv_at hl 5 rfl) ?_
            refine lv_icmp_ge (tgt := 177) hx hb dX7_ask_169 (by decide) (fun c7 => ?_) (fun c7 => ?_)
            · have hf := if_t c7 hf
              refine lv_iload hx hb dX7_ask_177 (lv_at hl 5 rfl) ?_
              exact hB179 z x2 x3 x4 y0 x7 x8 x5 _ _ _ hf hP hS (lv_sub hl [1, 2, 3, 4, 0, 6, 7] rfl)
            · have hf := if_f c7 hf
              refine lv_iload hx hb dX7_ask_172 (lv_at hl 8 rfl) ?_
              refine lv_goto (tgt := 179) hx hb dX7_ask_174 (by decide) ?_
              exact hB179 z x2 x3 x4 y0 x7 x8 x10 _ _ _ hf hP hS (lv_sub hl [1, 2, 3, 4, 0, 6, 7] rfl)
          have hB141 : ∀ (z : Ob) (x2 : Int32) (x3 : Int32) (x4 : Int32) (x5 : Int32) (x6 : Int32) (x7 : Int32) (x8 : Int32) (y0 : Int32) (H : Heap) (locs : List Loc) (ls : Array Slot), f_X7_ask_b141 (f_X7_ask_l48 n48) (f_X7_ask_l58 (f_X7_ask_l48 n48) n58) z x2 x3 x4 x5 x6 x7 x8 y0 = some (r, z') → va_P E.1 vwCl (GW E (va_up σ 22 z)) H → va_S (GA E) s.heap H locs → lv_has ls 11 [(0, .ref (E.ad 22 0)), (2, .int x2), (3, .int x3), (4, .int x4), (5, .int x5), (6, .int x6), (7, .int x7), (8, .int x8)] → W p l e rm_X7_ask s m ([.ref (E.ad 22 0), .int a1, .int a2] : List Value).toArray below meth c H locs 0 0 Z (F0 m 141 ls [.int y0]) := by
            intro z x2 x3 x4 x5 x6 x7 x8 y0 H locs ls hf hP hS hl
            unfold f_X7_ask_b141 at hf
            refine lv_istore (lv' := [(10, .int y0), (0, .ref (E.ad 22 0)), (2, .int x2), (3, .int x3), (4, .int x4), (5, .int x5), (6, .int x6), (7, .int x7), (8, .int x8)]) hx hb dX7_ask_141 hl (by decide) rfl (fun ls hl => ?_)
            refine lv_iload hx hb dX7_ask_143 (lv_at hl 0 rfl) ?_
            refine lv_iload hx hb dX7_ask_145 (lv_at hl 5 rfl) ?_
            refine lv_icmp_ge (tgt := 161) hx hb dX7_ask_147 (by decide) (fun c8 => ?_) (fun c8 => ?_)
            · have hf := if_t c8 hf
              refine lv_iload hx hb dX7_ask_161 (lv_at hl 6 rfl) ?_
              exact hB163 z x2 x3 x4 x5 x7 x8 y0 x6 _ _ _ hf hP hS (lv_sub hl [1, 2, 3, 4, 5, 7, 8, 0] rfl)
            · have hf := if_f c8 hf
              refine lv_bipush (v := 100) hx hb dX7_ask_150 (by decide) ?_
              refine lv_iload hx hb dX7_ask_152 (lv_at hl 7 rfl) ?_
              refine lv_imul hx hb dX7_ask_154 ?_
              refine lv_iload hx hb dX7_ask_155 (lv_at hl 8 rfl) ?_
              refine lv_iadd hx hb dX7_ask_157 ?_
              refine lv_goto (tgt := 163) hx hb dX7_ask_158 (by decide) ?_
              exact hB163 z x2 x3 x4 x5 x7 x8 y0 (((100 : Int32) * x7) + x8) _ _ _ hf hP hS (lv_sub hl [1, 2, 3, 4, 5, 7, 8, 0] rfl)
          have hL71 : ∀ (n71 : Nat) (z : Ob) (x2 : Int32) (x3 : Int32) (x4 : Int32) (x5 : Int32) (x6 : Int32) (x7 : Int32) (x8 : Int32) (x9 : Int32) (x10 : Int32) (H : Heap) (locs : List Loc) (ls : Array Slot), f_X7_ask_l71 (f_X7_ask_l48 n48) (f_X7_ask_l58 (f_X7_ask_l48 n48) n58) n71 z x2 x3 x4 x5 x6 x7 x8 x9 x10 = some (r, z') → va_P E.1 vwCl (GW E (va_up σ 22 z)) H → va_S (GA E) s.heap H locs → lv_has ls 11 [(0, .ref (E.ad 22 0)), (2, .int x2), (3, .int x3), (4, .int x4), (5, .int x5), (6, .int x6), (7, .int x7), (8, .int x8), (9, .int x9), (10, .int x10)] → W p l e rm_X7_ask s m ([.ref (E.ad 22 0), .int a1, .int a2] : List Value).toArray below meth c H locs 0 0 Z (F0 m 71 ls []) := by
            intro n71
            induction n71 with
            | zero =>
              intro z x2 x3 x4 x5 x6 x7 x8 x9 x10 H locs ls hf
              cases (show (none : Option _) = some _ from hf)
            | succ n71 ih71 =>
              have hB112 : ∀ (z : Ob) (x2 : Int32) (x3 : Int32) (x4 : Int32) (x5 : Int32) (x6 : Int32) (x7 : Int32) (x8 : Int32) (x10 : Int32) (y0 : Int32) (y1 : Int32) (H : Heap) (locs : List Loc) (ls : Array Slot), f_X7_ask_b112 (f_X7_ask_l48 n48) (f_X7_ask_l58 (f_X7_ask_l48 n48) n58) (f_X7_ask_l71 (f_X7_ask_l48 n48) (f_X7_ask_l58 (f_X7_ask_l48 n48) n58) n71) z x2 x3 x4 x5 x6 x7 x8 x10 y0 y1 = some (r, z') → va_P E.1 vwCl (GW E (va_up σ 22 z)) H → va_S (GA E) s.heap H locs → lv_has ls 11 [(0, .ref (E.ad 22 0)), (2, .int x2), (3, .int x3), (4, .int x4), (5, .int x5), (6, .int x6), (7, .int x7), (8, .int x8), (10, .int x10)] → W p l e rm_X7_ask s m ([.ref (E.ad 22 0), .int a1, .int a2] : List Value).toArray below meth c H locs 0 0 Z (F0 m 112 ls [.int y0, .int y1]) := by
                intro z x2 x3 x4 x5 x6 x7 x8 x10 y0 y1 H locs ls hf hP hS hl
                unfold f_X7_ask_b112 at hf
                refine lv_iadd hx hb dX7_ask_112 ?_
                refine lv_istore (lv' := [(9, .int (y1 + y0)), (0, .ref (E.ad 22 0)), (2, .int x2), (3, .int x3), (4, .int x4), (5, .int x5), (6, .int x6), (7, .int x7), (8, .int x8), (10, .int x10)]) hx hb dX7_ask_113 hl (by decide) rfl (fun ls hl => ?_)
                refine lv_iinc (v := x10 + (1 : Int32)) (lv' := [(10, .int (x10 + (1 : Int32))), (9, .int (y1 + y0)), (0, .ref (E.ad 22 0)), (2, .int x2), (3, .int x3), (4, .int x4), (5, .int x5), (6, .int x6), (7, .int x7), (8, .int x8)]) hx hb dX7_ask_115 hl (k := 9) rfl rfl (by decide) rfl (fun ls hl => ?_)
                refine lv_goto (tgt := 71) hx hb dX7_ask_118 (by decide) ?_
                exact ih71 z x2 x3 x4 x5 x6 x7 x8 (y1 + y0) (x10 + (1 : Int32)) _ _ _ hf hP hS (lv_sub hl [2, 3, 4, 5, 6, 7, 8, 9, 1, 0] rfl)
              intro z x2 x3 x4 x5 x6 x7 x8 x9 x10 H locs ls hf hP hS hl
              unfold f_X7_ask_l71 at hf
              refine lv_iload hx hb dX7_ask_71 (lv_at hl 9 rfl) ?_
              refine lv_bipush (v := 24) hx hb dX7_ask_73 (by decide) ?_
              refine lv_icmp_ge (tgt := 121) hx hb dX7_ask_75 (by decide) (fun c9 => ?_) (fun c9 => ?_)
              · have hf := if_t c9 hf
                refine lv_iload hx hb dX7_ask_121 (lv_at hl 8 rfl) ?_
                refine lv_iload hx hb dX7_ask_123 (lv_at hl 3 rfl) ?_
                refine lv_iload hx hb dX7_ask_125 (lv_at hl 8 rfl) ?_
                refine lv_isub hx hb dX7_ask_127 ?_
                refine lv_icmp_le (tgt := 136) hx hb dX7_ask_128 (by decide) (fun c10 => ?_) (fun c10 => ?_)
                · have hf := if_t c10 hf
                  refine lv_iload hx hb dX7_ask_136 (lv_at hl 3 rfl) ?_
                  refine lv_iload hx hb dX7_ask_138 (lv_at hl 8 rfl) ?_
                  refine lv_isub hx hb dX7_ask_140 ?_
                  exact hB141 z x2 x3 x4 x5 x6 x7 x8 (x4 - x9) _ _ _ hf hP hS (lv_sub hl [0, 1, 2, 3, 4, 5, 6, 7] rfl)
                · have hf := if_f c10 hf
                  refine lv_iload hx hb dX7_ask_131 (lv_at hl 8 rfl) ?_
                  refine lv_goto (tgt := 141) hx hb dX7_ask_133 (by decide) ?_
                  exact hB141 z x2 x3 x4 x5 x6 x7 x8 x9 _ _ _ hf hP hS (lv_sub hl [0, 1, 2, 3, 4, 5, 6, 7] rfl)
              · have hf := if_f c9 hf
                refine lv_iload hx hb dX7_ask_78 (lv_at hl 8 rfl) ?_
                refine lv_iload_n hx hb dX7_ask_80 rfl (lv_at hl 2 rfl) ?_
                refine lv_iload hx hb dX7_ask_81 (lv_at hl 9 rfl) ?_
                refine lv_ishr hx hb dX7_ask_83 ?_
                refine lv_iconst (v := 1) hx hb dX7_ask_84 (by decide) ?_
                refine lv_iand hx hb dX7_ask_85 ?_
                refine lv_iconst (v := 1) hx hb dX7_ask_86 (by decide) ?_
                refine lv_icmp_ne (tgt := 111) hx hb dX7_ask_87 (by decide) (fun c11 => ?_) (fun c11 => ?_)
                · have hf := if_f c11 hf
                  refine lv_iconst (v := 0) hx hb dX7_ask_111 (by decide) ?_
                  exact hB112 z x2 x3 x4 x5 x6 x7 x8 x10 (0 : Int32) x9 _ _ _ hf hP hS (lv_sub hl [0, 1, 2, 3, 4, 5, 6, 7, 9] rfl)
                · have hf := if_t c11 hf
                  refine lv_aload_n hx hb dX7_ask_90 rfl (lv_at hl 0 rfl) ?_
                  refine g_get (v := .ref (E.ad 22 8)) S hB hinX7 hP m_22_0 rfl rfl 19 (by decide) fl35 rfl rfl dX7_ask_91 ?_
                  refine lv_bipush (v := 21) hx hb dX7_ask_94 (by decide) ?_
                  refine lv_iload hx hb dX7_ask_96 (lv_at hl 9 rfl) ?_
                  refine lv_imul hx hb dX7_ask_98 ?_
                  refine lv_iload hx hb dX7_ask_99 (lv_at hl 6 rfl) ?_
                  refine lv_iadd hx hb dX7_ask_101 ?_
                  obtain ⟨hv12, hf⟩ := ck_some hf
                  refine g_iald (r := z 8) S hB hP m_22_8 rfl hv12 dX7_ask_102 ?_
                  refine W.eq (g2 := F0 m 103 ls [.int (z 8 ((((21 : Int32) * x10) + x7).toNatClampNeg)), .int x9]) rfl ?_
                  refine lv_iload hx hb dX7_ask_103 (lv_at hl 7 rfl) ?_
                  refine lv_ishr hx hb dX7_ask_105 ?_
                  refine lv_iconst (v := 1) hx hb dX7_ask_106 (by decide) ?_
                  refine lv_iand hx hb dX7_ask_107 ?_
                  refine lv_goto (tgt := 112) hx hb dX7_ask_108 (by decide) ?_
                  exact hB112 z x2 x3 x4 x5 x6 x7 x8 x10 (((z 8 ((((21 : Int32) * x10) + x7).toNatClampNeg)) >>> (x8 &&& 31)) &&& (1 : Int32)) x9 _ _ _ hf hP hS (lv_sub hl [0, 1, 2, 3, 4, 5, 6, 7, 9] rfl)
          intro z x2 x3 x4 x5 x6 x7 x8 H locs ls hf hP hS hl
          unfold f_X7_ask_l58 at hf
          refine lv_iload hx hb dX7_ask_58 (lv_at hl 7 rfl) ?_
          refine lv_bipush (v := 24) hx hb dX7_ask_60 (by decide) ?_
          refine lv_icmp_ge (tgt := 187) hx hb dX7_ask_62 (by decide) (fun c13 => ?_) (fun c13 => ?_)
          · have hf := if_t c13 hf
            refine lv_iinc (v := x7 + (1 : Int32)) (lv' := [(7, .int (x7 + (1 : Int32))), (0, .ref (E.ad 22 0)), (2, .int x2), (3, .int x3), (4, .int x4), (5, .int x5), (6, .int x6), (8, .int x8)]) hx hb dX7_ask_187 hl (k := 6) rfl rfl (by decide) rfl (fun ls hl => ?_)
            refine lv_goto (tgt := 48) hx hb dX7_ask_190 (by decide) ?_
            exact ih48 z x2 x3 x4 x5 x6 (x7 + (1 : Int32)) _ _ _ hf hP hS (lv_sub hl [1, 2, 3, 4, 5, 6, 0] rfl)
          · have hf := if_f c13 hf
            refine lv_iconst (v := 0) hx hb dX7_ask_65 (by decide) ?_
            refine lv_istore (lv' := [(9, .int (0 : Int32)), (0, .ref (E.ad 22 0)), (2, .int x2), (3, .int x3), (4, .int x4), (5, .int x5), (6, .int x6), (7, .int x7), (8, .int x8)]) hx hb dX7_ask_66 hl (by decide) rfl (fun ls hl => ?_)
            refine lv_iconst (v := 0) hx hb dX7_ask_68 (by decide) ?_
            refine lv_istore (lv' := [(10, .int (0 : Int32)), (9, .int (0 : Int32)), (0, .ref (E.ad 22 0)), (2, .int x2), (3, .int x3), (4, .int x4), (5, .int x5), (6, .int x6), (7, .int x7), (8, .int x8)]) hx hb dX7_ask_69 hl (by decide) rfl (fun ls hl => ?_)
            exact hL71 FUEL z x2 x3 x4 x5 x6 x7 x8 (0 : Int32) (0 : Int32) _ _ _ hf hP hS (lv_sub hl [2, 3, 4, 5, 6, 7, 8, 9, 1, 0] rfl)
      intro z x2 x3 x4 x5 x6 x7 H locs ls hf hP hS hl
      unfold f_X7_ask_l48 at hf
      refine lv_iload hx hb dX7_ask_48 (lv_at hl 6 rfl) ?_
      refine lv_bipush (v := 20) hx hb dX7_ask_50 (by decide) ?_
      refine lv_icmp_gt (tgt := 193) hx hb dX7_ask_52 (by decide) (fun c14 => ?_) (fun c14 => ?_)
      · have hf := if_t c14 hf
        refine lv_iload hx hb dX7_ask_193 (lv_at hl 5 rfl) ?_
        refine lv_bipush (v := -4) hx hb dX7_ask_195 (by decide) ?_
        refine lv_icmp_eq (tgt := 204) hx hb dX7_ask_197 (by decide) (fun c15 => ?_) (fun c15 => ?_)
        · have hf := if_t c15 hf
          exact hB204 z x6 _ _ _ hf hP hS (lv_sub hl [5] rfl)
        · have hf := if_f c15 hf
          refine lv_iload_n hx hb dX7_ask_200 rfl (lv_at hl 1 rfl) ?_
          refine lv_if_ne (tgt := 209) hx hb dX7_ask_201 (by decide) (fun c16 => ?_) (fun c16 => ?_)
          · have hf := if_f c16 hf
            refine lv_iload hx hb dX7_ask_209 (lv_at hl 4 rfl) ?_
            exact fin dX7_ask_211 (s1 hf) (by rw [(s2 hf)]) hP hS
          · have hf := if_t c16 hf
            exact hB204 z x6 _ _ _ hf hP hS (lv_sub hl [5] rfl)
      · have hf := if_f c14 hf
        refine lv_iconst (v := 0) hx hb dX7_ask_55 (by decide) ?_
        refine lv_istore (lv' := [(8, .int (0 : Int32)), (0, .ref (E.ad 22 0)), (2, .int x2), (3, .int x3), (4, .int x4), (5, .int x5), (6, .int x6), (7, .int x7)]) hx hb dX7_ask_56 hl (by decide) rfl (fun ls hl => ?_)
        exact hL58 FUEL z x2 x3 x4 x5 x6 x7 (0 : Int32) _ _ _ hf hP hS (lv_sub hl [1, 2, 3, 4, 5, 6, 7, 0] rfl)
  unfold f_X7_ask at hf
  refine lv_aload_n hx hb dX7_ask_0 rfl (lv_at hl 0 rfl) ?_
  refine lv_iload_n hx hb dX7_ask_1 rfl (lv_at hl 1 rfl) ?_
  obtain ⟨q1, hq1, hf⟩ := bind_some hf
  refine callV_i (As := [.int a1]) (rest := []) S hB hP hS (C := RX7) (b := E.ad 22 0) (g_recv (o := 22) (d := 0) hB hP m_22_0 rfl rfl) (K_X7_isGardener l hE σ z a1 hq1) (cwV 1 S.2.2.2.2 gX7_ask_X7_isGardener rfl rfl rfl (by decide +kernel) ⟨Nat.le_of_ble_eq_true rfl, Nat.le_of_ble_eq_true rfl⟩) rfl hl.1 rfl (Nat.le_of_ble_eq_true rfl) dX7_ask_2 ⟨Nat.zero_le _, Nat.zero_le _⟩ (fun H locs hP hS => ?_)
  refine lv_if_eq (tgt := 18) hx hb dX7_ask_5 (by decide) (fun c2 => ?_) (fun c2 => ?_)
  · have hf := if_t c2 hf
    refine lv_iconst (v := -1) hx hb dX7_ask_18 (by decide) ?_
    exact fin dX7_ask_19 (s1 hf) (by rw [(s2 hf)]) hP hS
  · have hf := if_f c2 hf
    refine lv_iload_n hx hb dX7_ask_8 rfl (lv_at hl 2 rfl) ?_
    refine lv_i2l hx hb dX7_ask_9 (v := a2.toInt64) rfl ?_
    refine lv_lconst (v := 0) hx hb dX7_ask_10 (by decide) ?_
    refine lv_lconst (v := 1) hx hb dX7_ask_11 (by decide) ?_
    obtain ⟨q3, hq3, hf⟩ := bind_some hf
    refine callS_i (As := [.long a2.toInt64, .long (0 : Int64), .long (1 : Int64)]) (rest := []) S hB hP hS (K_X7_in l hE (va_up σ 22 z) a2.toInt64 (0 : Int64) (1 : Int64) hq3) (va_cwS 3 S.2.2.2.2 gX7_ask_X7_in rfl rfl rfl (by decide +kernel) ⟨Nat.le_of_ble_eq_true rfl, Nat.le_of_ble_eq_true rfl⟩) rfl hl.1 rfl (Nat.le_of_ble_eq_true rfl) dX7_ask_12 ⟨Nat.zero_le _, Nat.zero_le _⟩ (fun H locs hP hS => ?_)
    refine lv_if_ne (tgt := 20) hx hb dX7_ask_15 (by decide) (fun c4 => ?_) (fun c4 => ?_)
    · have hf := if_f c4 hf
      refine lv_aload_n hx hb dX7_ask_20 rfl (lv_at hl 0 rfl) ?_
      refine lv_bipush (v := 29) hx hb dX7_ask_21 (by decide) ?_
      refine lv_iload_n hx hb dX7_ask_23 rfl (lv_at hl 1 rfl) ?_
      refine lv_iadd hx hb dX7_ask_24 ?_
      refine lv_bipush (v := 23) hx hb dX7_ask_25 (by decide) ?_
      obtain ⟨q5, hq5, hf⟩ := bind_some hf
      refine callV_i (As := [.int ((29 : Int32) + a1), .int (23 : Int32)]) (rest := []) S hB hP hS (C := RX7) (b := E.ad 22 0) (g_recv (o := 22) (d := 0) hB hP m_22_0 rfl rfl) (K_X7_numbersAt l hE σ z ((29 : Int32) + a1) (23 : Int32) hq5) (cwV 2 S.2.2.2.2 gX7_ask_X7_numbersAt rfl rfl rfl (by decide +kernel) ⟨Nat.le_of_ble_eq_true rfl, Nat.le_of_ble_eq_true rfl⟩) rfl hl.1 rfl (Nat.le_of_ble_eq_true rfl) dX7_ask_27 ⟨Nat.zero_le _, Nat.zero_le _⟩ (fun H locs hP hS => ?_)
      refine lv_istore_n (lv' := [(3, .int q5.1), (0, .ref (E.ad 22 0)), (1, .int a1), (2, .int a2)]) hx hb dX7_ask_30 rfl hl (by decide) rfl (fun ls hl => ?_)
      refine lv_iload_n hx hb dX7_ask_31 rfl (lv_at hl 0 rfl) ?_
      obtain ⟨q6, hq6, hf⟩ := bind_some hf
      refine callS_i (As := [.int q5.1]) (rest := []) S hB hP hS (K_X7_bitsOf l hE (va_up σ 22 q5.2) q5.1 hq6) (va_cwS 1 S.2.2.2.2 gX7_ask_X7_bitsOf rfl rfl rfl (by decide +kernel) ⟨Nat.le_of_ble_eq_true rfl, Nat.le_of_ble_eq_true rfl⟩) rfl hl.1 rfl (Nat.le_of_ble_eq_true rfl) dX7_ask_32 ⟨Nat.zero_le _, Nat.zero_le _⟩ (fun H locs hP hS => ?_)
      refine lv_istore (lv' := [(4, .int q6), (3, .int q5.1), (0, .ref (E.ad 22 0)), (1, .int a1), (2, .int a2)]) hx hb dX7_ask_35 hl (by decide) rfl (fun ls hl => ?_)
      refine lv_iload hx hb dX7_ask_37 (lv_at hl 0 rfl) ?_
      refine lv_istore (lv' := [(5, .int q6), (4, .int q6), (3, .int q5.1), (0, .ref (E.ad 22 0)), (1, .int a1), (2, .int a2)]) hx hb dX7_ask_39 hl (by decide) rfl (fun ls hl => ?_)
      refine lv_bipush (v := -4) hx hb dX7_ask_41 (by decide) ?_
      refine lv_istore (lv' := [(6, .int (-4 : Int32)), (5, .int q6), (4, .int q6), (3, .int q5.1), (0, .ref (E.ad 22 0)), (1, .int a1), (2, .int a2)]) hx hb dX7_ask_43 hl (by decide) rfl (fun ls hl => ?_)
      refine lv_iconst (v := 0) hx hb dX7_ask_45 (by decide) ?_
      refine lv_istore (lv' := [(7, .int (0 : Int32)), (6, .int (-4 : Int32)), (5, .int q6), (4, .int q6), (3, .int q5.1), (0, .ref (E.ad 22 0)), (1, .int a1), (2, .int a2)]) hx hb dX7_ask_46 hl (by decide) rfl (fun ls hl => ?_)
      exact hL48 FUEL q5.2 a2 q5.1 q6 q6 (-4 : Int32) (0 : Int32) _ _ _ hf hP hS (lv_sub hl [5, 7, 4, 3, 2, 1, 0] rfl)
    · have hf := if_t c4 hf
      refine lv_iconst (v := -1) hx hb dX7_ask_18 (by decide) ?_
      exact fin dX7_ask_19 (s1 hf) (by rw [(s2 hf)]) hP hS
theorem KW_X7_ask (l : Launch) {E : En} (hE : Inj E) (X : Wd) (a1 : Int32) (a2 : Int32) {r : Int32} {z' : Ob} (hf : f_X7_ask (X 22) a1 a2 = some (r, z')) : Cti l E yX7_ask wsX7_ask rm_X7_ask [.ref (E.ad 22 0), .int a1, .int a2] X r (va_up X 22 z') := by
  have h := K_X7_ask l hE X (X 22) a1 a2 hf
  rw [lens_all] at h
  exact h
/-! X7_drift -/
abbrev rm_X7_drift : Room := { frames := 4, cells := 0, slots := 0, locals := 95 }
set_option maxHeartbeats 4000000 in
set_option maxRecDepth 100000 in
theorem K_X7_drift (l : Launch) {E : En} (hE : Inj E) (σ : Wd) (z : Ob) (a1 : Int32) (a2 : Int32) (a3 : Int32) {r : Int32} {z' : Ob} (hf : f_X7_drift z a1 a2 a3 = some (r, z')) : Cti l E yX7_drift wsX7_drift rm_X7_drift [.ref (E.ad 22 0), .int a1, .int a2, .int a3] (va_up σ 22 z) r (va_up σ 22 z') := by
  refine meet_i (cc := cX7_drift) (maxL := 7) (own := RX7) (by decide) rfl rfl (Nat.le_of_ble_eq_true rfl) ?_
  intro p e s m below meth c Z S hB fin hP hS ls hl
  have hx := S.1
  have hb := S.2.1
  have hl : lv_has ls 7 [(0, .ref (E.ad 22 0)), (1, .int a1), (2, .int a2), (3, .int a3)] := hl
  have hinX7 : ∀ w ∈ u_ws RX7 TX7 25, w ∈ wsX7_drift := by decide +kernel
  have fl7 := S.2.2.2.2 (.fieldLink RX7 7 "MownMazeModel" "state" "[I") (by decide +kernel)
  have hL51 : ∀ (n51 : Nat) (z : Ob) (x2 : Int32) (x3 : Int32) (x4 : Int32) (x5 : Int32) (H : Heap) (locs : List Loc) (ls : Array Slot), f_X7_drift_l51 n51 z x2 x3 x4 x5 = some (r, z') → va_P E.1 vwCl (GW E (va_up σ 22 z)) H → va_S (GA E) s.heap H locs → lv_has ls 7 [(0, .ref (E.ad 22 0)), (2, .int x2), (3, .int x3), (4, .int x4), (5, .int x5)] → W p l e rm_X7_drift s m ([.ref (E.ad 22 0), .int a1, .int a2, .int a3] : List Value).toArray below meth c H locs 0 0 Z (F0 m 51 ls []) := by
    intro n51
    induction n51 with
    | zero =>
      intro z x2 x3 x4 x5 H locs ls hf
      cases (show (none : Option _) = some _ from hf)
    | succ n51 ih51 =>
      intro z x2 x3 x4 x5 H locs ls hf hP hS hl
      unfold f_X7_drift_l51 at hf
      refine lv_iload hx hb dX7_drift_51 (lv_at hl 4 rfl) ?_
      refine lv_iload_n hx hb dX7_drift_53 rfl (lv_at hl 1 rfl) ?_
      refine lv_icmp_ge (tgt := 120) hx hb dX7_drift_54 (by decide) (fun c7 => ?_) (fun c7 => ?_)
      · have hf := if_t c7 hf
        refine lv_iload_n hx hb dX7_drift_120 rfl (lv_at hl 2 rfl) ?_
        refine lv_if_ne (tgt := 138) hx hb dX7_drift_121 (by decide) (fun c8 => ?_) (fun c8 => ?_)
        · have hf := if_f c8 hf
          refine lv_aload_n hx hb dX7_drift_138 rfl (lv_at hl 0 rfl) ?_
          refine lv_sipush (v := 212) hx hb dX7_drift_139 (by decide) ?_
          obtain ⟨q9, hq9, hf⟩ := bind_some hf
          refine callV_i (As := [.int (212 : Int32)]) (rest := []) S hB hP hS (C := RX7) (b := E.ad 22 0) (g_recv (o := 22) (d := 0) hB hP m_22_0 rfl rfl) (K_X7_standOn l hE σ z (212 : Int32) hq9) (cwV 1 S.2.2.2.2 gX7_drift_X7_standOn rfl rfl rfl (by decide +kernel) ⟨Nat.le_of_ble_eq_true rfl, Nat.le_of_ble_eq_true rfl⟩) rfl hl.1 rfl (Nat.le_of_ble_eq_true rfl) dX7_drift_142 ⟨Nat.zero_le _, Nat.zero_le _⟩ (fun H locs hP hS => ?_)
          obtain ⟨q10, hq10, hf⟩ := bind_some hf
          refine callS_i (As := [.int q9]) (rest := []) S hB hP hS (K_X7_bitsOf l hE (va_up σ 22 z) q9 hq10) (va_cwS 1 S.2.2.2.2 gX7_drift_X7_bitsOf rfl rfl rfl (by decide +kernel) ⟨Nat.le_of_ble_eq_true rfl, Nat.le_of_ble_eq_true rfl⟩) rfl hl.1 rfl (Nat.le_of_ble_eq_true rfl) dX7_drift_145 ⟨Nat.zero_le _, Nat.zero_le _⟩ (fun H locs hP hS => ?_)
          exact fin dX7_drift_148 (s1 hf) (by rw [(s2 hf)]) hP hS
        · have hf := if_t c8 hf
          refine lv_aload_n hx hb dX7_drift_124 rfl (lv_at hl 0 rfl) ?_
          refine lv_sipush (v := 212) hx hb dX7_drift_125 (by decide) ?_
          refine lv_iconst (v := 1) hx hb dX7_drift_128 (by decide) ?_
          obtain ⟨q11, hq11, hf⟩ := bind_some hf
          refine callV_i (As := [.int (212 : Int32), .int (1 : Int32)]) (rest := []) S hB hP hS (C := RX7) (b := E.ad 22 0) (g_recv (o := 22) (d := 0) hB hP m_22_0 rfl rfl) (K_X7_guestsOn l hE σ z (212 : Int32) (1 : Int32) hq11) (cwV 2 S.2.2.2.2 gX7_drift_X7_guestsOn rfl rfl rfl (by decide +kernel) ⟨Nat.le_of_ble_eq_true rfl, Nat.le_of_ble_eq_true rfl⟩) rfl hl.1 rfl (Nat.le_of_ble_eq_true rfl) dX7_drift_129 ⟨Nat.zero_le _, Nat.zero_le _⟩ (fun H locs hP hS => ?_)
          obtain ⟨q12, hq12, hf⟩ := bind_some hf
          refine callS_i (As := [.int q11]) (rest := []) S hB hP hS (K_X7_bitsOf l hE (va_up σ 22 z) q11 hq12) (va_cwS 1 S.2.2.2.2 gX7_drift_X7_bitsOf rfl rfl rfl (by decide +kernel) ⟨Nat.le_of_ble_eq_true rfl, Nat.le_of_ble_eq_true rfl⟩) rfl hl.1 rfl (Nat.le_of_ble_eq_true rfl) dX7_drift_132 ⟨Nat.zero_le _, Nat.zero_le _⟩ (fun H locs hP hS => ?_)
          refine lv_goto (tgt := 148) hx hb dX7_drift_135 (by decide) ?_
          exact fin dX7_drift_148 (s1 hf) (by rw [(s2 hf)]) hP hS
      · have hf := if_f c7 hf
        refine lv_iload hx hb dX7_drift_57 (lv_at hl 3 rfl) ?_
        refine lv_ldc hx hb S.2.2.2.1 (S.2.2.2.2 (.constant RX7 230 (1103515245)) (by decide +kernel)) dX7_drift_59 ?_
        refine lv_imul hx hb dX7_drift_61 ?_
        refine lv_sipush (v := 12345) hx hb dX7_drift_62 (by decide) ?_
        refine lv_iadd hx hb dX7_drift_65 ?_
        refine lv_istore (lv' := [(4, .int ((x4 * (1103515245 : Int32)) + (12345 : Int32))), (0, .ref (E.ad 22 0)), (2, .int x2), (3, .int x3), (5, .int x5)]) hx hb dX7_drift_66 hl (by decide) rfl (fun ls hl => ?_)
        refine lv_iload hx hb dX7_drift_68 (lv_at hl 0 rfl) ?_
        refine lv_bipush (v := 16) hx hb dX7_drift_70 (by decide) ?_
        refine lv_ishr hx hb dX7_drift_72 ?_
        refine lv_sipush (v := 32767) hx hb dX7_drift_73 (by decide) ?_
        refine lv_iand hx hb dX7_drift_76 ?_
        refine lv_bipush (v := 24) hx hb dX7_drift_77 (by decide) ?_
        refine lv_irem hx hb dX7_drift_79 (by decide) ?_
        refine lv_istore (lv' := [(6, .int (((((x4 * (1103515245 : Int32)) + (12345 : Int32)) >>> ((16 : Int32) &&& 31)) &&& (32767 : Int32)) - ((((x4 * (1103515245 : Int32)) + (12345 : Int32)) >>> ((16 : Int32) &&& 31)) &&& (32767 : Int32)) / (24 : Int32) * (24 : Int32))), (4, .int ((x4 * (1103515245 : Int32)) + (12345 : Int32))), (0, .ref (E.ad 22 0)), (2, .int x2), (3, .int x3), (5, .int x5)]) hx hb dX7_drift_80 hl (by decide) rfl (fun ls hl => ?_)
        refine lv_aload_n hx hb dX7_drift_82 rfl (lv_at hl 2 rfl) ?_
        refine g_get (v := .ref (E.ad 22 1)) S hB hinX7 hP m_22_0 rfl rfl 0 (by decide) fl7 rfl rfl dX7_drift_83 ?_
        refine lv_sipush (v := 212) hx hb dX7_drift_86 (by decide) ?_
        refine lv_iload hx hb dX7_drift_89 (lv_at hl 0 rfl) ?_
        refine lv_iadd hx hb dX7_drift_91 ?_
        refine lv_iconst (v := 1) hx hb dX7_drift_92 (by decide) ?_
        refine lv_aload_n hx hb dX7_drift_93 rfl (lv_at hl 2 rfl) ?_
        refine g_get (v := .ref (E.ad 22 1)) S hB hinX7 hP m_22_0 rfl rfl 0 (by decide) fl7 rfl rfl dX7_drift_94 ?_
        refine lv_sipush (v := 212) hx hb dX7_drift_97 (by decide) ?_
        refine lv_iload hx hb dX7_drift_100 (lv_at hl 0 rfl) ?_
        refine lv_iadd hx hb dX7_drift_102 ?_
        obtain ⟨hv13, hf⟩ := ck_some hf
        refine g_iald (r := z 1) S hB hP m_22_1 rfl hv13 dX7_drift_103 ?_
        refine W.eq (g2 := F0 m 104 ls [.int (z 1 (((212 : Int32) + (((((x4 * (1103515245 : Int32)) + (12345 : Int32)) >>> ((16 : Int32) &&& 31)) &&& (32767 : Int32)) - ((((x4 * (1103515245 : Int32)) + (12345 : Int32)) >>> ((16 : Int32) &&& 31)) &&& (32767 : Int32)) / (24 : Int32) * (24 : Int32))).toNatClampNeg)), .int (1 : Int32), .int ((212 : Int32) + (((((x4 * (1103515245 : Int32)) + (12345 : Int32)) >>> ((16 : Int32) &&& 31)) &&& (32767 : Int32)) - ((((x4 * (1103515245 : Int32)) + (12345 : Int32)) >>> ((16 : Int32) &&& 31)) &&& (32767 : Int32)) / (24 : Int32) * (24 : Int32))), .ref (E.ad 22 1)]) rfl ?_
        refine lv_isub hx hb dX7_drift_104 ?_
        obtain ⟨hv14, hf⟩ := ck_some hf
        refine g_iast (r := z 1) S hB hE hP hS m_22_1 rfl rfl (fun _ => rfl) hv14 (X' := (va_up σ 22 (ob z 1 (((212 : Int32) + (((((x4 * (1103515245 : Int32)) + (12345 : Int32)) >>> ((16 : Int32) &&& 31)) &&& (32767 : Int32)) - ((((x4 * (1103515245 : Int32)) + (12345 : Int32)) >>> ((16 : Int32) &&& 31)) &&& (32767 : Int32)) / (24 : Int32) * (24 : Int32))).toNatClampNeg) ((1 : Int32) - (z 1 (((212 : Int32) + (((((x4 * (1103515245 : Int32)) + (12345 : Int32)) >>> ((16 : Int32) &&& 31)) &&& (32767 : Int32)) - ((((x4 * (1103515245 : Int32)) + (12345 : Int32)) >>> ((16 : Int32) &&& 31)) &&& (32767 : Int32)) / (24 : Int32) * (24 : Int32))).toNatClampNeg)))))) (lens_put σ 22 _ _ _ _) dX7_drift_105 (fun H locs hP hS => ?_)
        refine lv_aload_n hx hb dX7_drift_106 rfl (lv_at hl 2 rfl) ?_
        refine lv_sipush (v := 212) hx hb dX7_drift_107 (by decide) ?_
        refine lv_iconst (v := 0) hx hb dX7_drift_110 (by decide) ?_
        obtain ⟨q15, hq15, hf⟩ := bind_some hf
        refine callV_v (As := [.int (212 : Int32), .int (0 : Int32)]) (rest := []) S hB hP hS (C := RX7) (b := E.ad 22 0) (g_recv (o := 22) (d := 0) hB hP m_22_0 rfl rfl) (K_X7_dayOn l hE σ (ob z 1 (((212 : Int32) + (((((x4 * (1103515245 : Int32)) + (12345 : Int32)) >>> ((16 : Int32) &&& 31)) &&& (32767 : Int32)) - ((((x4 * (1103515245 : Int32)) + (12345 : Int32)) >>> ((16 : Int32) &&& 31)) &&& (32767 : Int32)) / (24 : Int32) * (24 : Int32))).toNatClampNeg) ((1 : Int32) - (z 1 (((212 : Int32) + (((((x4 * (1103515245 : Int32)) + (12345 : Int32)) >>> ((16 : Int32) &&& 31)) &&& (32767 : Int32)) - ((((x4 * (1103515245 : Int32)) + (12345 : Int32)) >>> ((16 : Int32) &&& 31)) &&& (32767 : Int32)) / (24 : Int32) * (24 : Int32))).toNatClampNeg)))) (212 : Int32) (0 : Int32) hq15) (cwV 2 S.2.2.2.2 gX7_drift_X7_dayOn rfl rfl rfl (by decide +kernel) ⟨Nat.le_of_ble_eq_true rfl, Nat.le_of_ble_eq_true rfl⟩) rfl hl.1 rfl (Nat.le_of_ble_eq_true rfl) dX7_drift_111 ⟨Nat.zero_le _, Nat.zero_le _⟩ (fun H locs hP hS => ?_)
        refine lv_iinc (v := x5 + (1 : Int32)) (lv' := [(5, .int (x5 + (1 : Int32))), (6, .int (((((x4 * (1103515245 : Int32)) + (12345 : Int32)) >>> ((16 : Int32) &&& 31)) &&& (32767 : Int32)) - ((((x4 * (1103515245 : Int32)) + (12345 : Int32)) >>> ((16 : Int32) &&& 31)) &&& (32767 : Int32)) / (24 : Int32) * (24 : Int32))), (4, .int ((x4 * (1103515245 : Int32)) + (12345 : Int32))), (0, .ref (E.ad 22 0)), (2, .int x2), (3, .int x3)]) hx hb dX7_drift_114 hl (k := 5) rfl rfl (by decide) rfl (fun ls hl => ?_)
        refine lv_goto (tgt := 51) hx hb dX7_drift_117 (by decide) ?_
        exact ih51 q15 x2 x3 ((x4 * (1103515245 : Int32)) + (12345 : Int32)) (x5 + (1 : Int32)) _ _ _ hf hP hS (lv_sub hl [3, 4, 5, 2, 0] rfl)
  unfold f_X7_drift at hf
  refine lv_iload_n hx hb dX7_drift_0 rfl (lv_at hl 2 rfl) ?_
  refine lv_i2l hx hb dX7_drift_1 (v := a2.toInt64) rfl ?_
  refine lv_lconst (v := 1) hx hb dX7_drift_2 (by decide) ?_
  refine lv_ldc2 hx hb S.2.2.2.1 (S.2.2.2.2 (.constantLong RX7 194 (60)) (by decide +kernel)) dX7_drift_3 ?_
  obtain ⟨q1, hq1, hf⟩ := bind_some hf
  refine callS_i (As := [.long a2.toInt64, .long (1 : Int64), .long (60 : Int64)]) (rest := []) S hB hP hS (K_X7_in l hE (va_up σ 22 z) a2.toInt64 (1 : Int64) (60 : Int64) hq1) (va_cwS 3 S.2.2.2.2 gX7_drift_X7_in rfl rfl rfl (by decide +kernel) ⟨Nat.le_of_ble_eq_true rfl, Nat.le_of_ble_eq_true rfl⟩) rfl hl.1 rfl (Nat.le_of_ble_eq_true rfl) dX7_drift_6 ⟨Nat.zero_le _, Nat.zero_le _⟩ (fun H locs hP hS => ?_)
  refine lv_if_eq (tgt := 22) hx hb dX7_drift_9 (by decide) (fun c2 => ?_) (fun c2 => ?_)
  · have hf := if_t c2 hf
    refine lv_iconst (v := -1) hx hb dX7_drift_22 (by decide) ?_
    exact fin dX7_drift_23 (s1 hf) (by rw [(s2 hf)]) hP hS
  · have hf := if_f c2 hf
    refine lv_iload_n hx hb dX7_drift_12 rfl (lv_at hl 3 rfl) ?_
    refine lv_i2l hx hb dX7_drift_13 (v := a3.toInt64) rfl ?_
    refine lv_lconst (v := 0) hx hb dX7_drift_14 (by decide) ?_
    refine lv_lconst (v := 1) hx hb dX7_drift_15 (by decide) ?_
    obtain ⟨q3, hq3, hf⟩ := bind_some hf
    refine callS_i (As := [.long a3.toInt64, .long (0 : Int64), .long (1 : Int64)]) (rest := []) S hB hP hS (K_X7_in l hE (va_up σ 22 z) a3.toInt64 (0 : Int64) (1 : Int64) hq3) (va_cwS 3 S.2.2.2.2 gX7_drift_X7_in rfl rfl rfl (by decide +kernel) ⟨Nat.le_of_ble_eq_true rfl, Nat.le_of_ble_eq_true rfl⟩) rfl hl.1 rfl (Nat.le_of_ble_eq_true rfl) dX7_drift_16 ⟨Nat.zero_le _, Nat.zero_le _⟩ (fun H locs hP hS => ?_)
    refine lv_if_ne (tgt := 24) hx hb dX7_drift_19 (by decide) (fun c4 => ?_) (fun c4 => ?_)
    · have hf := if_f c4 hf
      refine lv_aload_n hx hb dX7_drift_24 rfl (lv_at hl 0 rfl) ?_
      refine g_get (v := .ref (E.ad 22 1)) S hB hinX7 hP m_22_0 rfl rfl 0 (by decide) fl7 rfl rfl dX7_drift_25 ?_
      refine lv_bipush (v := 51) hx hb dX7_drift_28 (by decide) ?_
      refine g_iald (r := z 1) S hB hP m_22_1 rfl (by unfold vp_in; decide) dX7_drift_30 ?_
      refine lv_if_ne (tgt := 37) hx hb dX7_drift_31 (by decide) (fun c5 => ?_) (fun c5 => ?_)
      · have hf := if_f c5 hf
        refine lv_aload_n hx hb dX7_drift_37 rfl (lv_at hl 0 rfl) ?_
        refine lv_iconst (v := 0) hx hb dX7_drift_38 (by decide) ?_
        refine lv_sipush (v := 212) hx hb dX7_drift_39 (by decide) ?_
        obtain ⟨q6, hq6, hf⟩ := bind_some hf
        refine callV_v (As := [.int (0 : Int32), .int (212 : Int32)]) (rest := []) S hB hP hS (C := RX7) (b := E.ad 22 0) (g_recv (o := 22) (d := 0) hB hP m_22_0 rfl rfl) (K_X7_copies l hE σ z (0 : Int32) (212 : Int32) hq6) (cwV 2 S.2.2.2.2 gX7_drift_X7_copies rfl rfl rfl (by decide +kernel) ⟨Nat.le_of_ble_eq_true rfl, Nat.le_of_ble_eq_true rfl⟩) rfl hl.1 rfl (Nat.le_of_ble_eq_true rfl) dX7_drift_42 ⟨Nat.zero_le _, Nat.zero_le _⟩ (fun H locs hP hS => ?_)
        refine lv_iload_n hx hb dX7_drift_45 rfl (lv_at hl 1 rfl) ?_
        refine lv_istore (lv' := [(4, .int a1), (0, .ref (E.ad 22 0)), (1, .int a1), (2, .int a2), (3, .int a3)]) hx hb dX7_drift_46 hl (by decide) rfl (fun ls hl => ?_)
        refine lv_iconst (v := 0) hx hb dX7_drift_48 (by decide) ?_
        refine lv_istore (lv' := [(5, .int (0 : Int32)), (4, .int a1), (0, .ref (E.ad 22 0)), (1, .int a1), (2, .int a2), (3, .int a3)]) hx hb dX7_drift_49 hl (by decide) rfl (fun ls hl => ?_)
        exact hL51 FUEL q6 a2 a3 a1 (0 : Int32) _ _ _ hf hP hS (lv_sub hl [2, 4, 5, 1, 0] rfl)
      · have hf := if_t c5 hf
        refine lv_bipush (v := -2) hx hb dX7_drift_34 (by decide) ?_
        exact fin dX7_drift_36 (s1 hf) (by rw [(s2 hf)]) hP hS
    · have hf := if_t c4 hf
      refine lv_iconst (v := -1) hx hb dX7_drift_22 (by decide) ?_
      exact fin dX7_drift_23 (s1 hf) (by rw [(s2 hf)]) hP hS
theorem KW_X7_drift (l : Launch) {E : En} (hE : Inj E) (X : Wd) (a1 : Int32) (a2 : Int32) (a3 : Int32) {r : Int32} {z' : Ob} (hf : f_X7_drift (X 22) a1 a2 a3 = some (r, z')) : Cti l E yX7_drift wsX7_drift rm_X7_drift [.ref (E.ad 22 0), .int a1, .int a2, .int a3] X r (va_up X 22 z') := by
  have h := K_X7_drift l hE X (X 22) a1 a2 a3 hf
  rw [lens_all] at h
  exact h
/-! X7_keep -/
abbrev rm_X7_keep : Room := { frames := 1, cells := 0, slots := 0, locals := 25 }
set_option maxHeartbeats 4000000 in
set_option maxRecDepth 100000 in
theorem K_X7_keep (l : Launch) {E : En} (hE : Inj E) (σ : Wd) (z : Ob) (a1 : Int32) {r : Int32} {z' : Ob} (hf : f_X7_keep z a1 = some (r, z')) : Cti l E yX7_keep wsX7_keep rm_X7_keep [.ref (E.ad 22 0), .int a1] (va_up σ 22 z) r (va_up σ 22 z') := by
  refine meet_i (cc := cX7_keep) (maxL := 3) (own := RX7) (by decide) rfl rfl (Nat.le_of_ble_eq_true rfl) ?_
  intro p e s m below meth c Z S hB fin hP hS ls hl
  have hx := S.1
  have hb := S.2.1
  have hl : lv_has ls 3 [(0, .ref (E.ad 22 0)), (1, .int a1)] := hl
  have hinX7 : ∀ w ∈ u_ws RX7 TX7 25, w ∈ wsX7_keep := by decide +kernel
  have fl38 := S.2.2.2.2 (.fieldLink RX7 38 "MownMazeModel" "isKept" "[Z") (by decide +kernel)
  have hB37 : ∀ (z : Ob) (x1 : Int32) (y0 : Int32) (H : Heap) (locs : List Loc) (ls : Array Slot), f_X7_keep_b37 z x1 y0 = some (r, z') → va_P E.1 vwCl (GW E (va_up σ 22 z)) H → va_S (GA E) s.heap H locs → lv_has ls 3 [(0, .ref (E.ad 22 0)), (1, .int x1)] → W p l e rm_X7_keep s m ([.ref (E.ad 22 0), .int a1] : List Value).toArray below meth c H locs 0 0 Z (F0 m 37 ls [.int y0]) := by
    intro z x1 y0 H locs ls hf hP hS hl
    unfold f_X7_keep_b37 at hf
    refine lv_istore_n (lv' := [(2, .int y0), (0, .ref (E.ad 22 0)), (1, .int x1)]) hx hb dX7_keep_37 rfl hl (by decide) rfl (fun ls hl => ?_)
    refine lv_aload_n hx hb dX7_keep_38 rfl (lv_at hl 1 rfl) ?_
    refine g_get (v := .ref (E.ad 22 9)) S hB hinX7 hP m_22_0 rfl rfl 20 (by decide) fl38 rfl rfl dX7_keep_39 ?_
    refine lv_iload_n hx hb dX7_keep_42 rfl (lv_at hl 2 rfl) ?_
    refine lv_iconst (v := 1) hx hb dX7_keep_43 (by decide) ?_
    obtain ⟨hv6, hf⟩ := ck_some hf
    refine g_zast (r := z 9) S hB hE hP hS m_22_9 rfl rfl (fun _ => rfl) hv6 (X' := (va_up σ 22 (ob z 9 x1.toNatClampNeg (vp_nar .boolean (1 : Int32))))) (lens_put σ 22 _ _ _ _) dX7_keep_44 (fun H locs hP hS => ?_)
    refine lv_iload_n hx hb dX7_keep_45 rfl (lv_at hl 0 rfl) ?_
    exact fin dX7_keep_46 (s1 hf) (by rw [(s2 hf)]) hP hS
  unfold f_X7_keep at hf
  refine lv_iload_n hx hb dX7_keep_0 rfl (lv_at hl 1 rfl) ?_
  refine lv_i2l hx hb dX7_keep_1 (v := a1.toInt64) rfl ?_
  refine lv_lconst (v := 0) hx hb dX7_keep_2 (by decide) ?_
  refine lv_lconst (v := 1) hx hb dX7_keep_3 (by decide) ?_
  obtain ⟨q1, hq1, hf⟩ := bind_some hf
  refine callS_i (As := [.long a1.toInt64, .long (0 : Int64), .long (1 : Int64)]) (rest := []) S hB hP hS (K_X7_in l hE (va_up σ 22 z) a1.toInt64 (0 : Int64) (1 : Int64) hq1) (va_cwS 3 S.2.2.2.2 gX7_keep_X7_in rfl rfl rfl (by decide +kernel) ⟨Nat.le_of_ble_eq_true rfl, Nat.le_of_ble_eq_true rfl⟩) rfl hl.1 rfl (Nat.le_of_ble_eq_true rfl) dX7_keep_4 ⟨Nat.zero_le _, Nat.zero_le _⟩ (fun H locs hP hS => ?_)
  refine lv_if_ne (tgt := 12) hx hb dX7_keep_7 (by decide) (fun c2 => ?_) (fun c2 => ?_)
  · have hf := if_f c2 hf
    refine lv_aload_n hx hb dX7_keep_12 rfl (lv_at hl 0 rfl) ?_
    refine lv_iconst (v := 0) hx hb dX7_keep_13 (by decide) ?_
    refine lv_bipush (v := 53) hx hb dX7_keep_14 (by decide) ?_
    refine lv_iload_n hx hb dX7_keep_16 rfl (lv_at hl 1 rfl) ?_
    refine lv_iconst (v := 1) hx hb dX7_keep_17 (by decide) ?_
    refine lv_iadd hx hb dX7_keep_18 ?_
    refine lv_imul hx hb dX7_keep_19 ?_
    obtain ⟨q3, hq3, hf⟩ := bind_some hf
    refine callV_v (As := [.int (0 : Int32), .int ((53 : Int32) * (a1 + (1 : Int32)))]) (rest := []) S hB hP hS (C := RX7) (b := E.ad 22 0) (g_recv (o := 22) (d := 0) hB hP m_22_0 rfl rfl) (K_X7_copies l hE σ z (0 : Int32) ((53 : Int32) * (a1 + (1 : Int32))) hq3) (cwV 2 S.2.2.2.2 gX7_keep_X7_copies rfl rfl rfl (by decide +kernel) ⟨Nat.le_of_ble_eq_true rfl, Nat.le_of_ble_eq_true rfl⟩) rfl hl.1 rfl (Nat.le_of_ble_eq_true rfl) dX7_keep_20 ⟨Nat.zero_le _, Nat.zero_le _⟩ (fun H locs hP hS => ?_)
    refine lv_aload_n hx hb dX7_keep_23 rfl (lv_at hl 0 rfl) ?_
    refine g_get (v := .ref (E.ad 22 9)) S hB hinX7 hP m_22_0 rfl rfl 20 (by decide) fl38 rfl rfl dX7_keep_24 ?_
    refine lv_iload_n hx hb dX7_keep_27 rfl (lv_at hl 1 rfl) ?_
    obtain ⟨hv4, hf⟩ := ck_some hf
    refine g_zald (r := q3 9) S hB hP m_22_9 rfl hv4 dX7_keep_28 ?_
    refine lv_if_eq (tgt := 36) hx hb dX7_keep_29 (by decide) (fun c5 => ?_) (fun c5 => ?_)
    · have hf := if_t c5 hf
      refine lv_iconst (v := 0) hx hb dX7_keep_36 (by decide) ?_
      exact hB37 q3 a1 (0 : Int32) _ _ _ hf hP hS (lv_sub hl [0, 1] rfl)
    · have hf := if_f c5 hf
      refine lv_iconst (v := 1) hx hb dX7_keep_32 (by decide) ?_
      refine lv_goto (tgt := 37) hx hb dX7_keep_33 (by decide) ?_
      exact hB37 q3 a1 (1 : Int32) _ _ _ hf hP hS (lv_sub hl [0, 1] rfl)
  · have hf := if_t c2 hf
    refine lv_iconst (v := -1) hx hb dX7_keep_10 (by decide) ?_
    exact fin dX7_keep_11 (s1 hf) (by rw [(s2 hf)]) hP hS
theorem KW_X7_keep (l : Launch) {E : En} (hE : Inj E) (X : Wd) (a1 : Int32) {r : Int32} {z' : Ob} (hf : f_X7_keep (X 22) a1 = some (r, z')) : Cti l E yX7_keep wsX7_keep rm_X7_keep [.ref (E.ad 22 0), .int a1] X r (va_up X 22 z') := by
  have h := K_X7_keep l hE X (X 22) a1 hf
  rw [lens_all] at h
  exact h
/-! X7_back -/
abbrev rm_X7_back : Room := { frames := 1, cells := 0, slots := 0, locals := 25 }
set_option maxHeartbeats 4000000 in
set_option maxRecDepth 100000 in
theorem K_X7_back (l : Launch) {E : En} (hE : Inj E) (σ : Wd) (z : Ob) (a1 : Int32) {r : Int32} {z' : Ob} (hf : f_X7_back z a1 = some (r, z')) : Cti l E yX7_back wsX7_back rm_X7_back [.ref (E.ad 22 0), .int a1] (va_up σ 22 z) r (va_up σ 22 z') := by
  refine meet_i (cc := cX7_back) (maxL := 2) (own := RX7) (by decide) rfl rfl (Nat.le_of_ble_eq_true rfl) ?_
  intro p e s m below meth c Z S hB fin hP hS ls hl
  have hx := S.1
  have hb := S.2.1
  have hl : lv_has ls 2 [(0, .ref (E.ad 22 0)), (1, .int a1)] := hl
  have hinX7 : ∀ w ∈ u_ws RX7 TX7 25, w ∈ wsX7_back := by decide +kernel
  have fl7 := S.2.2.2.2 (.fieldLink RX7 7 "MownMazeModel" "state" "[I") (by decide +kernel)
  have fl38 := S.2.2.2.2 (.fieldLink RX7 38 "MownMazeModel" "isKept" "[Z") (by decide +kernel)
  unfold f_X7_back at hf
  refine lv_iload_n hx hb dX7_back_0 rfl (lv_at hl 1 rfl) ?_
  refine lv_i2l hx hb dX7_back_1 (v := a1.toInt64) rfl ?_
  refine lv_lconst (v := 0) hx hb dX7_back_2 (by decide) ?_
  refine lv_lconst (v := 1) hx hb dX7_back_3 (by decide) ?_
  obtain ⟨q1, hq1, hf⟩ := bind_some hf
  refine callS_i (As := [.long a1.toInt64, .long (0 : Int64), .long (1 : Int64)]) (rest := []) S hB hP hS (K_X7_in l hE (va_up σ 22 z) a1.toInt64 (0 : Int64) (1 : Int64) hq1) (va_cwS 3 S.2.2.2.2 gX7_back_X7_in rfl rfl rfl (by decide +kernel) ⟨Nat.le_of_ble_eq_true rfl, Nat.le_of_ble_eq_true rfl⟩) rfl hl.1 rfl (Nat.le_of_ble_eq_true rfl) dX7_back_4 ⟨Nat.zero_le _, Nat.zero_le _⟩ (fun H locs hP hS => ?_)
  refine lv_if_ne (tgt := 12) hx hb dX7_back_7 (by decide) (fun c2 => ?_) (fun c2 => ?_)
  · have hf := if_f c2 hf
    refine lv_aload_n hx hb dX7_back_12 rfl (lv_at hl 0 rfl) ?_
    refine g_get (v := .ref (E.ad 22 9)) S hB hinX7 hP m_22_0 rfl rfl 20 (by decide) fl38 rfl rfl dX7_back_13 ?_
    refine lv_iload_n hx hb dX7_back_16 rfl (lv_at hl 1 rfl) ?_
    obtain ⟨hv3, hf⟩ := ck_some hf
    refine g_zald (r := z 9) S hB hP m_22_9 rfl hv3 dX7_back_17 ?_
    refine lv_if_ne (tgt := 24) hx hb dX7_back_18 (by decide) (fun c4 => ?_) (fun c4 => ?_)
    · have hf := if_f c4 hf
      refine lv_aload_n hx hb dX7_back_24 rfl (lv_at hl 0 rfl) ?_
      refine lv_bipush (v := 53) hx hb dX7_back_25 (by decide) ?_
      refine lv_iload_n hx hb dX7_back_27 rfl (lv_at hl 1 rfl) ?_
      refine lv_iconst (v := 1) hx hb dX7_back_28 (by decide) ?_
      refine lv_iadd hx hb dX7_back_29 ?_
      refine lv_imul hx hb dX7_back_30 ?_
      refine lv_iconst (v := 0) hx hb dX7_back_31 (by decide) ?_
      obtain ⟨q5, hq5, hf⟩ := bind_some hf
      refine callV_v (As := [.int ((53 : Int32) * (a1 + (1 : Int32))), .int (0 : Int32)]) (rest := []) S hB hP hS (C := RX7) (b := E.ad 22 0) (g_recv (o := 22) (d := 0) hB hP m_22_0 rfl rfl) (K_X7_copies l hE σ z ((53 : Int32) * (a1 + (1 : Int32))) (0 : Int32) hq5) (cwV 2 S.2.2.2.2 gX7_back_X7_copies rfl rfl rfl (by decide +kernel) ⟨Nat.le_of_ble_eq_true rfl, Nat.le_of_ble_eq_true rfl⟩) rfl hl.1 rfl (Nat.le_of_ble_eq_true rfl) dX7_back_32 ⟨Nat.zero_le _, Nat.zero_le _⟩ (fun H locs hP hS => ?_)
      refine lv_aload_n hx hb dX7_back_35 rfl (lv_at hl 0 rfl) ?_
      refine g_get (v := .ref (E.ad 22 1)) S hB hinX7 hP m_22_0 rfl rfl 0 (by decide) fl7 rfl rfl dX7_back_36 ?_
      refine lv_bipush (v := 52) hx hb dX7_back_39 (by decide) ?_
      refine g_iald (r := q5 1) S hB hP m_22_1 rfl (by unfold vp_in; decide) dX7_back_41 ?_
      exact fin dX7_back_42 (s1 hf) (by rw [(s2 hf)]) hP hS
    · have hf := if_t c4 hf
      refine lv_bipush (v := -2) hx hb dX7_back_21 (by decide) ?_
      exact fin dX7_back_23 (s1 hf) (by rw [(s2 hf)]) hP hS
  · have hf := if_t c2 hf
    refine lv_iconst (v := -1) hx hb dX7_back_10 (by decide) ?_
    exact fin dX7_back_11 (s1 hf) (by rw [(s2 hf)]) hP hS
theorem KW_X7_back (l : Launch) {E : En} (hE : Inj E) (X : Wd) (a1 : Int32) {r : Int32} {z' : Ob} (hf : f_X7_back (X 22) a1 = some (r, z')) : Cti l E yX7_back wsX7_back rm_X7_back [.ref (E.ad 22 0), .int a1] X r (va_up X 22 z') := by
  have h := K_X7_back l hE X (X 22) a1 hf
  rw [lens_all] at h
  exact h
/-! X7_sheet -/
abbrev rm_X7_sheet : Room := { frames := 1, cells := 0, slots := 0, locals := 25 }
set_option maxHeartbeats 4000000 in
set_option maxRecDepth 100000 in
theorem K_X7_sheet (l : Launch) {E : En} (hE : Inj E) (σ : Wd) (z : Ob) (a1 : Int32) (a2 : Int32) (a3 : Int32) {r : Int32} {z' : Ob} (hf : f_X7_sheet z a1 a2 a3 = some (r, z')) : Cti l E yX7_sheet wsX7_sheet rm_X7_sheet [.ref (E.ad 22 0), .int a1, .int a2, .int a3] (va_up σ 22 z) r (va_up σ 22 z') := by
  refine meet_i (cc := cX7_sheet) (maxL := 5) (own := RX7) (by decide) rfl rfl (Nat.le_of_ble_eq_true rfl) ?_
  intro p e s m below meth c Z S hB fin hP hS ls hl
  have hx := S.1
  have hb := S.2.1
  have hl : lv_has ls 5 [(0, .ref (E.ad 22 0)), (1, .int a1), (2, .int a2), (3, .int a3)] := hl
  have hinX7 : ∀ w ∈ u_ws RX7 TX7 25, w ∈ wsX7_sheet := by decide +kernel
  have fl42 := S.2.2.2.2 (.fieldLink RX7 42 "MownMazeModel" "lanes" "[I") (by decide +kernel)
  have fl45 := S.2.2.2.2 (.fieldLink RX7 45 "MownMazeModel" "lengths" "[I") (by decide +kernel)
  have fl48 := S.2.2.2.2 (.fieldLink RX7 48 "MownMazeModel" "cells" "[I") (by decide +kernel)
  have hL56 : ∀ (n56 : Nat) (z : Ob) (x1 : Int32) (x4 : Int32) (H : Heap) (locs : List Loc) (ls : Array Slot), f_X7_sheet_l56 n56 z x1 x4 = some (r, z') → va_P E.1 vwCl (GW E (va_up σ 22 z)) H → va_S (GA E) s.heap H locs → lv_has ls 5 [(0, .ref (E.ad 22 0)), (1, .int x1), (4, .int x4)] → W p l e rm_X7_sheet s m ([.ref (E.ad 22 0), .int a1, .int a2, .int a3] : List Value).toArray below meth c H locs 0 0 Z (F0 m 56 ls []) := by
    intro n56
    induction n56 with
    | zero =>
      intro z x1 x4 H locs ls hf
      cases (show (none : Option _) = some _ from hf)
    | succ n56 ih56 =>
      intro z x1 x4 H locs ls hf hP hS hl
      unfold f_X7_sheet_l56 at hf
      refine lv_iload hx hb dX7_sheet_56 (lv_at hl 2 rfl) ?_
      refine lv_bipush (v := 40) hx hb dX7_sheet_58 (by decide) ?_
      refine lv_icmp_ge (tgt := 82) hx hb dX7_sheet_60 (by decide) (fun c9 => ?_) (fun c9 => ?_)
      · have hf := if_t c9 hf
        refine lv_iconst (v := 1) hx hb dX7_sheet_82 (by decide) ?_
        exact fin dX7_sheet_83 (s1 hf) (by rw [(s2 hf)]) hP hS
      · have hf := if_f c9 hf
        refine lv_aload_n hx hb dX7_sheet_63 rfl (lv_at hl 0 rfl) ?_
        refine g_get (v := .ref (E.ad 22 12)) S hB hinX7 hP m_22_0 rfl rfl 23 (by decide) fl48 rfl rfl dX7_sheet_64 ?_
        refine lv_bipush (v := 40) hx hb dX7_sheet_67 (by decide) ?_
        refine lv_iload_n hx hb dX7_sheet_69 rfl (lv_at hl 1 rfl) ?_
        refine lv_imul hx hb dX7_sheet_70 ?_
        refine lv_iload hx hb dX7_sheet_71 (lv_at hl 2 rfl) ?_
        refine lv_iadd hx hb dX7_sheet_73 ?_
        refine lv_iconst (v := 0) hx hb dX7_sheet_74 (by decide) ?_
        obtain ⟨hv10, hf⟩ := ck_some hf
        refine g_iast (r := z 12) S hB hE hP hS m_22_12 rfl rfl (fun _ => rfl) hv10 (X' := (va_up σ 22 (ob z 12 ((((40 : Int32) * x1) + x4).toNatClampNeg) (0 : Int32)))) (lens_put σ 22 _ _ _ _) dX7_sheet_75 (fun H locs hP hS => ?_)
        refine lv_iinc (v := x4 + (1 : Int32)) (lv' := [(4, .int (x4 + (1 : Int32))), (0, .ref (E.ad 22 0)), (1, .int x1)]) hx hb dX7_sheet_76 hl (k := 2) rfl rfl (by decide) rfl (fun ls hl => ?_)
        refine lv_goto (tgt := 56) hx hb dX7_sheet_79 (by decide) ?_
        exact ih56 (ob z 12 ((((40 : Int32) * x1) + x4).toNatClampNeg) (0 : Int32)) x1 (x4 + (1 : Int32)) _ _ _ hf hP hS (lv_sub hl [1, 2, 0] rfl)
  unfold f_X7_sheet at hf
  refine lv_iload_n hx hb dX7_sheet_0 rfl (lv_at hl 1 rfl) ?_
  refine lv_i2l hx hb dX7_sheet_1 (v := a1.toInt64) rfl ?_
  refine lv_lconst (v := 0) hx hb dX7_sheet_2 (by decide) ?_
  refine lv_ldc2 hx hb S.2.2.2.1 (S.2.2.2.2 (.constantLong RX7 175 (3)) (by decide +kernel)) dX7_sheet_3 ?_
  obtain ⟨q1, hq1, hf⟩ := bind_some hf
  refine callS_i (As := [.long a1.toInt64, .long (0 : Int64), .long (3 : Int64)]) (rest := []) S hB hP hS (K_X7_in l hE (va_up σ 22 z) a1.toInt64 (0 : Int64) (3 : Int64) hq1) (va_cwS 3 S.2.2.2.2 gX7_sheet_X7_in rfl rfl rfl (by decide +kernel) ⟨Nat.le_of_ble_eq_true rfl, Nat.le_of_ble_eq_true rfl⟩) rfl hl.1 rfl (Nat.le_of_ble_eq_true rfl) dX7_sheet_6 ⟨Nat.zero_le _, Nat.zero_le _⟩ (fun H locs hP hS => ?_)
  refine lv_if_eq (tgt := 30) hx hb dX7_sheet_9 (by decide) (fun c2 => ?_) (fun c2 => ?_)
  · have hf := if_t c2 hf
    refine lv_iconst (v := -1) hx hb dX7_sheet_30 (by decide) ?_
    exact fin dX7_sheet_31 (s1 hf) (by rw [(s2 hf)]) hP hS
  · have hf := if_f c2 hf
    refine lv_iload_n hx hb dX7_sheet_12 rfl (lv_at hl 2 rfl) ?_
    refine lv_i2l hx hb dX7_sheet_13 (v := a2.toInt64) rfl ?_
    refine lv_lconst (v := 0) hx hb dX7_sheet_14 (by decide) ?_
    refine lv_ldc2 hx hb S.2.2.2.1 (S.2.2.2.2 (.constantLong RX7 180 (2)) (by decide +kernel)) dX7_sheet_15 ?_
    obtain ⟨q3, hq3, hf⟩ := bind_some hf
    refine callS_i (As := [.long a2.toInt64, .long (0 : Int64), .long (2 : Int64)]) (rest := []) S hB hP hS (K_X7_in l hE (va_up σ 22 z) a2.toInt64 (0 : Int64) (2 : Int64) hq3) (va_cwS 3 S.2.2.2.2 gX7_sheet_X7_in rfl rfl rfl (by decide +kernel) ⟨Nat.le_of_ble_eq_true rfl, Nat.le_of_ble_eq_true rfl⟩) rfl hl.1 rfl (Nat.le_of_ble_eq_true rfl) dX7_sheet_18 ⟨Nat.zero_le _, Nat.zero_le _⟩ (fun H locs hP hS => ?_)
    refine lv_if_eq (tgt := 30) hx hb dX7_sheet_21 (by decide) (fun c4 => ?_) (fun c4 => ?_)
    · have hf := if_t c4 hf
      refine lv_iconst (v := -1) hx hb dX7_sheet_30 (by decide) ?_
      exact fin dX7_sheet_31 (s1 hf) (by rw [(s2 hf)]) hP hS
    · have hf := if_f c4 hf
      refine lv_iload_n hx hb dX7_sheet_24 rfl (lv_at hl 3 rfl) ?_
      refine lv_bipush (v := 40) hx hb dX7_sheet_25 (by decide) ?_
      refine lv_icmp_le (tgt := 32) hx hb dX7_sheet_27 (by decide) (fun c5 => ?_) (fun c5 => ?_)
      · have hf := if_t c5 hf
        refine lv_iload_n hx hb dX7_sheet_32 rfl (lv_at hl 3 rfl) ?_
        refine lv_if_ge (tgt := 39) hx hb dX7_sheet_33 (by decide) (fun c6 => ?_) (fun c6 => ?_)
        · have hf := if_t c6 hf
          refine lv_aload_n hx hb dX7_sheet_39 rfl (lv_at hl 0 rfl) ?_
          refine g_get (v := .ref (E.ad 22 10)) S hB hinX7 hP m_22_0 rfl rfl 21 (by decide) fl42 rfl rfl dX7_sheet_40 ?_
          refine lv_iload_n hx hb dX7_sheet_43 rfl (lv_at hl 1 rfl) ?_
          refine lv_iload_n hx hb dX7_sheet_44 rfl (lv_at hl 2 rfl) ?_
          obtain ⟨hv7, hf⟩ := ck_some hf
          refine g_iast (r := z 10) S hB hE hP hS m_22_10 rfl rfl (fun _ => rfl) hv7 (X' := (va_up σ 22 (ob z 10 a1.toNatClampNeg a2))) (lens_put σ 22 _ _ _ _) dX7_sheet_45 (fun H locs hP hS => ?_)
          refine lv_aload_n hx hb dX7_sheet_46 rfl (lv_at hl 0 rfl) ?_
          refine g_get (v := .ref (E.ad 22 11)) S hB hinX7 hP m_22_0 rfl rfl 22 (by decide) fl45 rfl rfl dX7_sheet_47 ?_
          refine lv_iload_n hx hb dX7_sheet_50 rfl (lv_at hl 1 rfl) ?_
          refine lv_iload_n hx hb dX7_sheet_51 rfl (lv_at hl 3 rfl) ?_
          obtain ⟨hv8, hf⟩ := ck_some hf
          refine g_iast (r := (ob z 10 a1.toNatClampNeg a2) 11) S hB hE hP hS m_22_11 rfl rfl (fun _ => rfl) hv8 (X' := (va_up σ 22 (ob (ob z 10 a1.toNatClampNeg a2) 11 a1.toNatClampNeg a3))) (lens_put σ 22 _ _ _ _) dX7_sheet_52 (fun H locs hP hS => ?_)
          refine lv_iconst (v := 0) hx hb dX7_sheet_53 (by decide) ?_
          refine lv_istore (lv' := [(4, .int (0 : Int32)), (0, .ref (E.ad 22 0)), (1, .int a1), (2, .int a2), (3, .int a3)]) hx hb dX7_sheet_54 hl (by decide) rfl (fun ls hl => ?_)
          exact hL56 FUEL (ob (ob z 10 a1.toNatClampNeg a2) 11 a1.toNatClampNeg a3) a1 (0 : Int32) _ _ _ hf hP hS (lv_sub hl [1, 2, 0] rfl)
        · have hf := if_f c6 hf
          refine lv_bipush (v := -14) hx hb dX7_sheet_36 (by decide) ?_
          exact fin dX7_sheet_38 (s1 hf) (by rw [(s2 hf)]) hP hS
      · have hf := if_f c5 hf
        refine lv_iconst (v := -1) hx hb dX7_sheet_30 (by decide) ?_
        exact fin dX7_sheet_31 (s1 hf) (by rw [(s2 hf)]) hP hS
theorem KW_X7_sheet (l : Launch) {E : En} (hE : Inj E) (X : Wd) (a1 : Int32) (a2 : Int32) (a3 : Int32) {r : Int32} {z' : Ob} (hf : f_X7_sheet (X 22) a1 a2 a3 = some (r, z')) : Cti l E yX7_sheet wsX7_sheet rm_X7_sheet [.ref (E.ad 22 0), .int a1, .int a2, .int a3] X r (va_up X 22 z') := by
  have h := K_X7_sheet l hE X (X 22) a1 a2 a3 hf
  rw [lens_all] at h
  exact h
/-! X7_lay -/
abbrev rm_X7_lay : Room := { frames := 1, cells := 0, slots := 0, locals := 25 }
set_option maxHeartbeats 4000000 in
set_option maxRecDepth 100000 in
theorem K_X7_lay (l : Launch) {E : En} (hE : Inj E) (σ : Wd) (z : Ob) (a1 : Int32) (a2 : Int32) (a3 : Int32) {r : Int32} {z' : Ob} (hf : f_X7_lay z a1 a2 a3 = some (r, z')) : Cti l E yX7_lay wsX7_lay rm_X7_lay [.ref (E.ad 22 0), .int a1, .int a2, .int a3] (va_up σ 22 z) r (va_up σ 22 z') := by
  refine meet_i (cc := cX7_lay) (maxL := 4) (own := RX7) (by decide) rfl rfl (Nat.le_of_ble_eq_true rfl) ?_
  intro p e s m below meth c Z S hB fin hP hS ls hl
  have hx := S.1
  have hb := S.2.1
  have hl : lv_has ls 4 [(0, .ref (E.ad 22 0)), (1, .int a1), (2, .int a2), (3, .int a3)] := hl
  have hinX7 : ∀ w ∈ u_ws RX7 TX7 25, w ∈ wsX7_lay := by decide +kernel
  have fl42 := S.2.2.2.2 (.fieldLink RX7 42 "MownMazeModel" "lanes" "[I") (by decide +kernel)
  have fl45 := S.2.2.2.2 (.fieldLink RX7 45 "MownMazeModel" "lengths" "[I") (by decide +kernel)
  have fl48 := S.2.2.2.2 (.fieldLink RX7 48 "MownMazeModel" "cells" "[I") (by decide +kernel)
  have hB99 : ∀ (z : Ob) (y0 : Int32) (y1 : Int32) (H : Heap) (locs : List Loc) (ls : Array Slot), f_X7_lay_b99 z y0 y1 = some (r, z') → va_P E.1 vwCl (GW E (va_up σ 22 z)) H → va_S (GA E) s.heap H locs → lv_has ls 4 [] → W p l e rm_X7_lay s m ([.ref (E.ad 22 0), .int a1, .int a2, .int a3] : List Value).toArray below meth c H locs 0 0 Z (F0 m 99 ls [.int y0, .int y1, .ref (E.ad 22 12)]) := by
    intro z y0 y1 H locs ls hf hP hS hl
    unfold f_X7_lay_b99 at hf
    obtain ⟨hv12, hf⟩ := ck_some hf
    refine g_iast (r := z 12) S hB hE hP hS m_22_12 rfl rfl (fun _ => rfl) hv12 (X' := (va_up σ 22 (ob z 12 y1.toNatClampNeg y0))) (lens_put σ 22 _ _ _ _) dX7_lay_99 (fun H locs hP hS => ?_)
    refine lv_iconst (v := 1) hx hb dX7_lay_100 (by decide) ?_
    exact fin dX7_lay_101 (s1 hf) (by rw [(s2 hf)]) hP hS
  unfold f_X7_lay at hf
  refine lv_iload_n hx hb dX7_lay_0 rfl (lv_at hl 1 rfl) ?_
  refine lv_i2l hx hb dX7_lay_1 (v := a1.toInt64) rfl ?_
  refine lv_lconst (v := 0) hx hb dX7_lay_2 (by decide) ?_
  refine lv_ldc2 hx hb S.2.2.2.1 (S.2.2.2.2 (.constantLong RX7 175 (3)) (by decide +kernel)) dX7_lay_3 ?_
  obtain ⟨q1, hq1, hf⟩ := bind_some hf
  refine callS_i (As := [.long a1.toInt64, .long (0 : Int64), .long (3 : Int64)]) (rest := []) S hB hP hS (K_X7_in l hE (va_up σ 22 z) a1.toInt64 (0 : Int64) (3 : Int64) hq1) (va_cwS 3 S.2.2.2.2 gX7_lay_X7_in rfl rfl rfl (by decide +kernel) ⟨Nat.le_of_ble_eq_true rfl, Nat.le_of_ble_eq_true rfl⟩) rfl hl.1 rfl (Nat.le_of_ble_eq_true rfl) dX7_lay_6 ⟨Nat.zero_le _, Nat.zero_le _⟩ (fun H locs hP hS => ?_)
  refine lv_if_ne (tgt := 14) hx hb dX7_lay_9 (by decide) (fun c2 => ?_) (fun c2 => ?_)
  · have hf := if_f c2 hf
    refine lv_aload_n hx hb dX7_lay_14 rfl (lv_at hl 0 rfl) ?_
    refine g_get (v := .ref (E.ad 22 10)) S hB hinX7 hP m_22_0 rfl rfl 21 (by decide) fl42 rfl rfl dX7_lay_15 ?_
    refine lv_iload_n hx hb dX7_lay_18 rfl (lv_at hl 1 rfl) ?_
    obtain ⟨hv3, hf⟩ := ck_some hf
    refine g_iald (r := z 10) S hB hP m_22_10 rfl hv3 dX7_lay_19 ?_
    refine lv_bipush (v := -4) hx hb dX7_lay_20 (by decide) ?_
    refine lv_icmp_ne (tgt := 28) hx hb dX7_lay_22 (by decide) (fun c4 => ?_) (fun c4 => ?_)
    · have hf := if_f c4 hf
      refine lv_iload_n hx hb dX7_lay_28 rfl (lv_at hl 2 rfl) ?_
      refine lv_i2l hx hb dX7_lay_29 (v := a2.toInt64) rfl ?_
      refine lv_lconst (v := 0) hx hb dX7_lay_30 (by decide) ?_
      refine lv_aload_n hx hb dX7_lay_31 rfl (lv_at hl 0 rfl) ?_
      refine g_get (v := .ref (E.ad 22 11)) S hB hinX7 hP m_22_0 rfl rfl 22 (by decide) fl45 rfl rfl dX7_lay_32 ?_
      refine lv_iload_n hx hb dX7_lay_35 rfl (lv_at hl 1 rfl) ?_
      obtain ⟨hv5, hf⟩ := ck_some hf
      refine g_iald (r := z 11) S hB hP m_22_11 rfl hv5 dX7_lay_36 ?_
      refine lv_iconst (v := 1) hx hb dX7_lay_37 (by decide) ?_
      refine lv_isub hx hb dX7_lay_38 ?_
      refine lv_i2l hx hb dX7_lay_39 (v := ((z 11 a1.toNatClampNeg) - (1 : Int32)).toInt64) rfl ?_
      obtain ⟨q6, hq6, hf⟩ := bind_some hf
      refine callS_i (As := [.long a2.toInt64, .long (0 : Int64), .long (((z 11 a1.toNatClampNeg) - (1 : Int32)).toInt64)]) (rest := []) S hB hP hS (K_X7_in l hE (va_up σ 22 z) a2.toInt64 (0 : Int64) (((z 11 a1.toNatClampNeg) - (1 : Int32)).toInt64) hq6) (va_cwS 3 S.2.2.2.2 gX7_lay_X7_in rfl rfl rfl (by decide +kernel) ⟨Nat.le_of_ble_eq_true rfl, Nat.le_of_ble_eq_true rfl⟩) rfl hl.1 rfl (Nat.le_of_ble_eq_true rfl) dX7_lay_40 ⟨Nat.zero_le _, Nat.zero_le _⟩ (fun H locs hP hS => ?_)
      refine lv_if_ne (tgt := 49) hx hb dX7_lay_43 (by decide) (fun c7 => ?_) (fun c7 => ?_)
      · have hf := if_f c7 hf
        refine lv_aload_n hx hb dX7_lay_49 rfl (lv_at hl 0 rfl) ?_
        refine g_get (v := .ref (E.ad 22 12)) S hB hinX7 hP m_22_0 rfl rfl 23 (by decide) fl48 rfl rfl dX7_lay_50 ?_
        refine lv_bipush (v := 40) hx hb dX7_lay_53 (by decide) ?_
        refine lv_iload_n hx hb dX7_lay_55 rfl (lv_at hl 1 rfl) ?_
        refine lv_imul hx hb dX7_lay_56 ?_
        refine lv_iload_n hx hb dX7_lay_57 rfl (lv_at hl 2 rfl) ?_
        refine lv_iadd hx hb dX7_lay_58 ?_
        refine lv_aload_n hx hb dX7_lay_59 rfl (lv_at hl 0 rfl) ?_
        refine g_get (v := .ref (E.ad 22 10)) S hB hinX7 hP m_22_0 rfl rfl 21 (by decide) fl42 rfl rfl dX7_lay_60 ?_
        refine lv_iload_n hx hb dX7_lay_63 rfl (lv_at hl 1 rfl) ?_
        obtain ⟨hv8, hf⟩ := ck_some hf
        refine g_iald (r := z 10) S hB hP m_22_10 rfl hv8 dX7_lay_64 ?_
        refine lv_if_ne (tgt := 78) hx hb dX7_lay_65 (by decide) (fun c9 => ?_) (fun c9 => ?_)
        · have hf := if_f c9 hf
          refine lv_aload_n hx hb dX7_lay_78 rfl (lv_at hl 0 rfl) ?_
          refine g_get (v := .ref (E.ad 22 10)) S hB hinX7 hP m_22_0 rfl rfl 21 (by decide) fl42 rfl rfl dX7_lay_79 ?_
          refine lv_iload_n hx hb dX7_lay_82 rfl (lv_at hl 1 rfl) ?_
          obtain ⟨hv10, hf⟩ := ck_some hf
          refine g_iald (r := z 10) S hB hP m_22_10 rfl hv10 dX7_lay_83 ?_
          refine lv_iconst (v := 1) hx hb dX7_lay_84 (by decide) ?_
          refine lv_icmp_ne (tgt := 98) hx hb dX7_lay_85 (by decide) (fun c11 => ?_) (fun c11 => ?_)
          · have hf := if_f c11 hf
            refine lv_iload_n hx hb dX7_lay_98 rfl (lv_at hl 3 rfl) ?_
            exact hB99 z a3 (((40 : Int32) * a1) + a2) _ _ _ hf hP hS (lv_sub hl [] rfl)
          · have hf := if_t c11 hf
            refine lv_iload_n hx hb dX7_lay_88 rfl (lv_at hl 3 rfl) ?_
            refine lv_bipush (v := 16) hx hb dX7_lay_89 (by decide) ?_
            refine lv_ishl hx hb dX7_lay_91 ?_
            refine lv_bipush (v := 16) hx hb dX7_lay_92 (by decide) ?_
            refine lv_ishr hx hb dX7_lay_94 ?_
            refine lv_goto (tgt := 99) hx hb dX7_lay_95 (by decide) ?_
            exact hB99 z ((a3 <<< ((16 : Int32) &&& 31)) >>> ((16 : Int32) &&& 31)) (((40 : Int32) * a1) + a2) _ _ _ hf hP hS (lv_sub hl [] rfl)
        · have hf := if_t c9 hf
          refine lv_iload_n hx hb dX7_lay_68 rfl (lv_at hl 3 rfl) ?_
          refine lv_bipush (v := 24) hx hb dX7_lay_69 (by decide) ?_
          refine lv_ishl hx hb dX7_lay_71 ?_
          refine lv_bipush (v := 24) hx hb dX7_lay_72 (by decide) ?_
          refine lv_ishr hx hb dX7_lay_74 ?_
          refine lv_goto (tgt := 99) hx hb dX7_lay_75 (by decide) ?_
          exact hB99 z ((a3 <<< ((24 : Int32) &&& 31)) >>> ((24 : Int32) &&& 31)) (((40 : Int32) * a1) + a2) _ _ _ hf hP hS (lv_sub hl [] rfl)
      · have hf := if_t c7 hf
        refine lv_bipush (v := -12) hx hb dX7_lay_46 (by decide) ?_
        exact fin dX7_lay_48 (s1 hf) (by rw [(s2 hf)]) hP hS
    · have hf := if_t c4 hf
      refine lv_bipush (v := -11) hx hb dX7_lay_25 (by decide) ?_
      exact fin dX7_lay_27 (s1 hf) (by rw [(s2 hf)]) hP hS
  · have hf := if_t c2 hf
    refine lv_iconst (v := -1) hx hb dX7_lay_12 (by decide) ?_
    exact fin dX7_lay_13 (s1 hf) (by rw [(s2 hf)]) hP hS
theorem KW_X7_lay (l : Launch) {E : En} (hE : Inj E) (X : Wd) (a1 : Int32) (a2 : Int32) (a3 : Int32) {r : Int32} {z' : Ob} (hf : f_X7_lay (X 22) a1 a2 a3 = some (r, z')) : Cti l E yX7_lay wsX7_lay rm_X7_lay [.ref (E.ad 22 0), .int a1, .int a2, .int a3] X r (va_up X 22 z') := by
  have h := K_X7_lay l hE X (X 22) a1 a2 a3 hf
  rw [lens_all] at h
  exact h
/-! X7_read -/
abbrev rm_X7_read : Room := { frames := 3, cells := 0, slots := 0, locals := 67 }
set_option maxHeartbeats 4000000 in
set_option maxRecDepth 100000 in
theorem K_X7_read (l : Launch) {E : En} (hE : Inj E) (σ : Wd) (z : Ob) (a1 : Int32) (a2 : Int32) (a3 : Int32) (a4 : Int32) {r : Int32} {z' : Ob} (hf : f_X7_read z a1 a2 a3 a4 = some (r, z')) : Cti l E yX7_read wsX7_read rm_X7_read [.ref (E.ad 22 0), .int a1, .int a2, .int a3, .int a4] (va_up σ 22 z) r (va_up σ 22 z') := by
  refine meet_i (cc := cX7_read) (maxL := 9) (own := RX7) (by decide) rfl rfl (Nat.le_of_ble_eq_true rfl) ?_
  intro p e s m below meth c Z S hB fin hP hS ls hl
  have hx := S.1
  have hb := S.2.1
  have hl : lv_has ls 9 [(0, .ref (E.ad 22 0)), (1, .int a1), (2, .int a2), (3, .int a3), (4, .int a4)] := hl
  have hinX7 : ∀ w ∈ u_ws RX7 TX7 25, w ∈ wsX7_read := by decide +kernel
  have fl42 := S.2.2.2.2 (.fieldLink RX7 42 "MownMazeModel" "lanes" "[I") (by decide +kernel)
  have fl45 := S.2.2.2.2 (.fieldLink RX7 45 "MownMazeModel" "lengths" "[I") (by decide +kernel)
  have fl48 := S.2.2.2.2 (.fieldLink RX7 48 "MownMazeModel" "cells" "[I") (by decide +kernel)
  have fl231 := S.2.2.2.2 (.fieldLink RX7 231 "MownMazeModel" "torn" "I") (by decide +kernel)
  have hB198 : ∀ (z : Ob) (x5 : Int32) (x6 : Int32) (H : Heap) (locs : List Loc) (ls : Array Slot), f_X7_read_b198 z x5 x6 = some (r, z') → va_P E.1 vwCl (GW E (va_up σ 22 z)) H → va_S (GA E) s.heap H locs → lv_has ls 9 [(0, .ref (E.ad 22 0)), (5, .int x5), (6, .int x6)] → W p l e rm_X7_read s m ([.ref (E.ad 22 0), .int a1, .int a2, .int a3, .int a4] : List Value).toArray below meth c H locs 0 0 Z (F0 m 198 ls []) := by
    intro z x5 x6 H locs ls hf hP hS hl
    unfold f_X7_read_b198 at hf
    refine lv_aload_n hx hb dX7_read_198 rfl (lv_at hl 0 rfl) ?_
    refine lv_iload hx hb dX7_read_199 (lv_at hl 1 rfl) ?_
    refine g_put S hB hE hinX7 tyX7 tyX7_ok nmX7 hP hS m_22_0 rfl rfl 24 (by decide) fl231 rfl rfl rfl rfl (Nat.le_of_ble_eq_true rfl) (by exact (fun _ => rfl) _) (X' := (va_up σ 22 (ob z 0 24 x5))) (lens_put σ 22 _ _ _ _) dX7_read_201 (fun H locs hP hS => ?_)
    refine lv_iload hx hb dX7_read_204 (lv_at hl 2 rfl) ?_
    exact fin dX7_read_206 (s1 hf) (by rw [(s2 hf)]) hP hS
  have hL56 : ∀ (n56 : Nat) (z : Ob) (x1 : Int32) (x2 : Int32) (x3 : Int32) (x4 : Int32) (x5 : Int32) (x6 : Int32) (x7 : Int32) (H : Heap) (locs : List Loc) (ls : Array Slot), f_X7_read_l56 n56 z x1 x2 x3 x4 x5 x6 x7 = some (r, z') → va_P E.1 vwCl (GW E (va_up σ 22 z)) H → va_S (GA E) s.heap H locs → lv_has ls 9 [(0, .ref (E.ad 22 0)), (1, .int x1), (2, .int x2), (3, .int x3), (4, .int x4), (5, .int x5), (6, .int x6), (7, .int x7)] → W p l e rm_X7_read s m ([.ref (E.ad 22 0), .int a1, .int a2, .int a3, .int a4] : List Value).toArray below meth c H locs 0 0 Z (F0 m 56 ls []) := by
    intro n56
    induction n56 with
    | zero =>
      intro z x1 x2 x3 x4 x5 x6 x7 H locs ls hf
      cases (show (none : Option _) = some _ from hf)
    | succ n56 ih56 =>
      have hB192 : ∀ (z : Ob) (x1 : Int32) (x2 : Int32) (x3 : Int32) (x4 : Int32) (x5 : Int32) (x6 : Int32) (x7 : Int32) (H : Heap) (locs : List Loc) (ls : Array Slot), f_X7_read_b192 (f_X7_read_l56 n56) z x1 x2 x3 x4 x5 x6 x7 = some (r, z') → va_P E.1 vwCl (GW E (va_up σ 22 z)) H → va_S (GA E) s.heap H locs → lv_has ls 9 [(0, .ref (E.ad 22 0)), (1, .int x1), (2, .int x2), (3, .int x3), (4, .int x4), (5, .int x5), (6, .int x6), (7, .int x7)] → W p l e rm_X7_read s m ([.ref (E.ad 22 0), .int a1, .int a2, .int a3, .int a4] : List Value).toArray below meth c H locs 0 0 Z (F0 m 192 ls []) := by
        intro z x1 x2 x3 x4 x5 x6 x7 H locs ls hf hP hS hl
        unfold f_X7_read_b192 at hf
        refine lv_iinc (v := x7 + (1 : Int32)) (lv' := [(7, .int (x7 + (1 : Int32))), (0, .ref (E.ad 22 0)), (1, .int x1), (2, .int x2), (3, .int x3), (4, .int x4), (5, .int x5), (6, .int x6)]) hx hb dX7_read_192 hl (k := 7) rfl rfl (by decide) rfl (fun ls hl => ?_)
        refine lv_goto (tgt := 56) hx hb dX7_read_195 (by decide) ?_
        exact ih56 z x1 x2 x3 x4 x5 x6 (x7 + (1 : Int32)) _ _ _ hf hP hS (lv_sub hl [1, 2, 3, 4, 5, 6, 7, 0] rfl)
      have hB126 : ∀ (z : Ob) (x1 : Int32) (x2 : Int32) (x3 : Int32) (x4 : Int32) (x6 : Int32) (x7 : Int32) (y0 : Int32) (H : Heap) (locs : List Loc) (ls : Array Slot), f_X7_read_b126 (f_X7_read_l56 n56) z x1 x2 x3 x4 x6 x7 y0 = some (r, z') → va_P E.1 vwCl (GW E (va_up σ 22 z)) H → va_S (GA E) s.heap H locs → lv_has ls 9 [(0, .ref (E.ad 22 0)), (1, .int x1), (2, .int x2), (3, .int x3), (4, .int x4), (6, .int x6), (7, .int x7)] → W p l e rm_X7_read s m ([.ref (E.ad 22 0), .int a1, .int a2, .int a3, .int a4] : List Value).toArray below meth c H locs 0 0 Z (F0 m 126 ls [.int y0]) := by
        intro z x1 x2 x3 x4 x6 x7 y0 H locs ls hf hP hS hl
        unfold f_X7_read_b126 at hf
        refine lv_istore (lv' := [(5, .int y0), (0, .ref (E.ad 22 0)), (1, .int x1), (2, .int x2), (3, .int x3), (4, .int x4), (6, .int x6), (7, .int x7)]) hx hb dX7_read_126 hl (by decide) rfl (fun ls hl => ?_)
        refine lv_iload hx hb dX7_read_128 (lv_at hl 0 rfl) ?_
        refine lv_if_ne (tgt := 192) hx hb dX7_read_130 (by decide) (fun c8 => ?_) (fun c8 => ?_)
        · have hf := if_f c8 hf
          exact hB192 z x1 x2 x3 x4 y0 x6 x7 _ _ _ hf hP hS (lv_sub hl [1, 2, 3, 4, 5, 0, 6, 7] rfl)
        · have hf := if_t c8 hf
          refine lv_iload hx hb dX7_read_133 (lv_at hl 7 rfl) ?_
          refine lv_iconst (v := 2) hx hb dX7_read_135 (by decide) ?_
          refine lv_irem hx hb dX7_read_136 (by decide) ?_
          refine lv_iconst (v := 1) hx hb dX7_read_137 (by decide) ?_
          refine lv_icmp_ne (tgt := 192) hx hb dX7_read_138 (by decide) (fun c9 => ?_) (fun c9 => ?_)
          · have hf := if_f c9 hf
            exact hB192 z x1 x2 x3 x4 y0 x6 x7 _ _ _ hf hP hS (lv_sub hl [1, 2, 3, 4, 5, 0, 6, 7] rfl)
          · have hf := if_t c9 hf
            refine lv_bipush (v := 40) hx hb dX7_read_141 (by decide) ?_
            refine lv_iload_n hx hb dX7_read_143 rfl (lv_at hl 2 rfl) ?_
            refine lv_imul hx hb dX7_read_144 ?_
            refine lv_iload_n hx hb dX7_read_145 rfl (lv_at hl 4 rfl) ?_
            refine lv_iadd hx hb dX7_read_146 ?_
            refine lv_iload hx hb dX7_read_147 (lv_at hl 7 rfl) ?_
            refine lv_iadd hx hb dX7_read_149 ?_
            refine lv_istore (lv' := [(8, .int ((((40 : Int32) * x1) + x3) + x7)), (5, .int y0), (0, .ref (E.ad 22 0)), (1, .int x1), (2, .int x2), (3, .int x3), (4, .int x4), (6, .int x6), (7, .int x7)]) hx hb dX7_read_150 hl (by decide) rfl (fun ls hl => ?_)
            refine lv_aload_n hx hb dX7_read_152 rfl (lv_at hl 2 rfl) ?_
            refine lv_aload_n hx hb dX7_read_153 rfl (lv_at hl 2 rfl) ?_
            refine g_get (v := .ref (E.ad 22 12)) S hB hinX7 hP m_22_0 rfl rfl 23 (by decide) fl48 rfl rfl dX7_read_154 ?_
            refine lv_iload hx hb dX7_read_157 (lv_at hl 0 rfl) ?_
            refine lv_iconst (v := 1) hx hb dX7_read_159 (by decide) ?_
            refine lv_isub hx hb dX7_read_160 ?_
            obtain ⟨hv10, hf⟩ := ck_some hf
            refine g_iald (r := z 12) S hB hP m_22_12 rfl hv10 dX7_read_161 ?_
            refine W.eq (g2 := F0 m 162 ls [.int (z 12 ((((((40 : Int32) * x1) + x3) + x7) - (1 : Int32)).toNatClampNeg)), .ref (E.ad 22 0)]) rfl ?_
            refine lv_aload_n hx hb dX7_read_162 rfl (lv_at hl 2 rfl) ?_
            refine g_get (v := .ref (E.ad 22 12)) S hB hinX7 hP m_22_0 rfl rfl 23 (by decide) fl48 rfl rfl dX7_read_163 ?_
            refine lv_iload hx hb dX7_read_166 (lv_at hl 0 rfl) ?_
            obtain ⟨hv11, hf⟩ := ck_some hf
            refine g_iald (r := z 12) S hB hP m_22_12 rfl hv11 dX7_read_168 ?_
            refine W.eq (g2 := F0 m 169 ls [.int (z 12 (((((40 : Int32) * x1) + x3) + x7).toNatClampNeg)), .int (z 12 ((((((40 : Int32) * x1) + x3) + x7) - (1 : Int32)).toNatClampNeg)), .ref (E.ad 22 0)]) rfl ?_
            obtain ⟨q12, hq12, hf⟩ := bind_some hf
            refine callV_i (As := [.int (z 12 ((((((40 : Int32) * x1) + x3) + x7) - (1 : Int32)).toNatClampNeg)), .int (z 12 (((((40 : Int32) * x1) + x3) + x7).toNatClampNeg))]) (rest := []) S hB hP hS (C := RX7) (b := E.ad 22 0) (g_recv (o := 22) (d := 0) hB hP m_22_0 rfl rfl) (K_X7_grows l hE σ z (z 12 ((((((40 : Int32) * x1) + x3) + x7) - (1 : Int32)).toNatClampNeg)) (z 12 (((((40 : Int32) * x1) + x3) + x7).toNatClampNeg)) hq12) (cwV 2 S.2.2.2.2 gX7_read_X7_grows rfl rfl rfl (by decide +kernel) ⟨Nat.le_of_ble_eq_true rfl, Nat.le_of_ble_eq_true rfl⟩) rfl hl.1 rfl (Nat.le_of_ble_eq_true rfl) dX7_read_169 ⟨Nat.zero_le _, Nat.zero_le _⟩ (fun H locs hP hS => ?_)
            refine lv_if_ge (tgt := 189) hx hb dX7_read_172 (by decide) (fun c13 => ?_) (fun c13 => ?_)
            · have hf := if_t c13 hf
              refine lv_iinc (v := x6 + (1 : Int32)) (lv' := [(6, .int (x6 + (1 : Int32))), (8, .int ((((40 : Int32) * x1) + x3) + x7)), (5, .int y0), (0, .ref (E.ad 22 0)), (1, .int x1), (2, .int x2), (3, .int x3), (4, .int x4), (7, .int x7)]) hx hb dX7_read_189 hl (k := 7) rfl rfl (by decide) rfl (fun ls hl => ?_)
              exact hB192 q12.2 x1 x2 x3 x4 y0 (x6 + (1 : Int32)) x7 _ _ _ hf hP hS (lv_sub hl [3, 4, 5, 6, 7, 2, 0, 8] rfl)
            · have hf := if_f c13 hf
              refine lv_aload_n hx hb dX7_read_175 rfl (lv_at hl 2 rfl) ?_
              refine lv_sipush (v := 159) hx hb dX7_read_176 (by decide) ?_
              refine lv_iconst (v := 0) hx hb dX7_read_179 (by decide) ?_
              obtain ⟨q14, hq14, hf⟩ := bind_some hf
              refine callV_v (As := [.int (159 : Int32), .int (0 : Int32)]) (rest := []) S hB hP hS (C := RX7) (b := E.ad 22 0) (g_recv (o := 22) (d := 0) hB hP m_22_0 rfl rfl) (K_X7_copies l hE σ q12.2 (159 : Int32) (0 : Int32) hq14) (cwV 2 S.2.2.2.2 gX7_read_X7_copies rfl rfl rfl (by decide +kernel) ⟨Nat.le_of_ble_eq_true rfl, Nat.le_of_ble_eq_true rfl⟩) rfl hl.1 rfl (Nat.le_of_ble_eq_true rfl) dX7_read_180 ⟨Nat.zero_le _, Nat.zero_le _⟩ (fun H locs hP hS => ?_)
              refine lv_bipush (v := -20) hx hb dX7_read_183 (by decide) ?_
              refine lv_iload hx hb dX7_read_185 (lv_at hl 7 rfl) ?_
              refine lv_isub hx hb dX7_read_187 ?_
              exact fin dX7_read_188 (s1 hf) (by rw [(s2 hf)]) hP hS
      intro z x1 x2 x3 x4 x5 x6 x7 H locs ls hf hP hS hl
      unfold f_X7_read_l56 at hf
      refine lv_iload hx hb dX7_read_56 (lv_at hl 7 rfl) ?_
      refine lv_iconst (v := 2) hx hb dX7_read_58 (by decide) ?_
      refine lv_iload hx hb dX7_read_59 (lv_at hl 4 rfl) ?_
      refine lv_imul hx hb dX7_read_61 ?_
      refine lv_icmp_ge (tgt := 198) hx hb dX7_read_62 (by decide) (fun c15 => ?_) (fun c15 => ?_)
      · have hf := if_t c15 hf
        exact hB198 z x5 x6 _ _ _ hf hP hS (lv_sub hl [0, 5, 6] rfl)
      · have hf := if_f c15 hf
        refine lv_iload hx hb dX7_read_65 (lv_at hl 5 rfl) ?_
        refine lv_if_ne (tgt := 198) hx hb dX7_read_67 (by decide) (fun c16 => ?_) (fun c16 => ?_)
        · have hf := if_f c16 hf
          exact hB198 z x5 x6 _ _ _ hf hP hS (lv_sub hl [0, 5, 6] rfl)
        · have hf := if_t c16 hf
          refine lv_aload_n hx hb dX7_read_70 rfl (lv_at hl 0 rfl) ?_
          refine g_get (v := .ref (E.ad 22 10)) S hB hinX7 hP m_22_0 rfl rfl 21 (by decide) fl42 rfl rfl dX7_read_71 ?_
          refine lv_iload_n hx hb dX7_read_74 rfl (lv_at hl 1 rfl) ?_
          obtain ⟨hv17, hf⟩ := ck_some hf
          refine g_iald (r := z 10) S hB hP m_22_10 rfl hv17 dX7_read_75 ?_
          refine lv_bipush (v := -4) hx hb dX7_read_76 (by decide) ?_
          refine lv_icmp_ne (tgt := 85) hx hb dX7_read_78 (by decide) (fun c18 => ?_) (fun c18 => ?_)
          · have hf := if_f c18 hf
            refine lv_aload_n hx hb dX7_read_85 rfl (lv_at hl 0 rfl) ?_
            refine g_get (v := .ref (E.ad 22 10)) S hB hinX7 hP m_22_0 rfl rfl 21 (by decide) fl42 rfl rfl dX7_read_86 ?_
            refine lv_iload_n hx hb dX7_read_89 rfl (lv_at hl 1 rfl) ?_
            obtain ⟨hv19, hf⟩ := ck_some hf
            refine g_iald (r := z 10) S hB hP m_22_10 rfl hv19 dX7_read_90 ?_
            refine lv_iload_n hx hb dX7_read_91 rfl (lv_at hl 2 rfl) ?_
            refine lv_icmp_eq (tgt := 99) hx hb dX7_read_92 (by decide) (fun c20 => ?_) (fun c20 => ?_)
            · have hf := if_t c20 hf
              refine lv_iload_n hx hb dX7_read_99 rfl (lv_at hl 3 rfl) ?_
              refine lv_i2l hx hb dX7_read_100 (v := x3.toInt64) rfl ?_
              refine lv_iload hx hb dX7_read_101 (lv_at hl 7 rfl) ?_
              refine lv_i2l hx hb dX7_read_103 (v := x7.toInt64) rfl ?_
              refine lv_ladd hx hb dX7_read_104 ?_
              refine lv_lconst (v := 0) hx hb dX7_read_105 (by decide) ?_
              refine lv_aload_n hx hb dX7_read_106 rfl (lv_at hl 0 rfl) ?_
              refine g_get (v := .ref (E.ad 22 11)) S hB hinX7 hP m_22_0 rfl rfl 22 (by decide) fl45 rfl rfl dX7_read_107 ?_
              refine lv_iload_n hx hb dX7_read_110 rfl (lv_at hl 1 rfl) ?_
              obtain ⟨hv21, hf⟩ := ck_some hf
              refine g_iald (r := z 11) S hB hP m_22_11 rfl hv21 dX7_read_111 ?_
              refine lv_iconst (v := 1) hx hb dX7_read_112 (by decide) ?_
              refine lv_isub hx hb dX7_read_113 ?_
              refine lv_i2l hx hb dX7_read_114 (v := ((z 11 x1.toNatClampNeg) - (1 : Int32)).toInt64) rfl ?_
              obtain ⟨q22, hq22, hf⟩ := bind_some hf
              refine callS_i (As := [.long (x3.toInt64 + x7.toInt64), .long (0 : Int64), .long (((z 11 x1.toNatClampNeg) - (1 : Int32)).toInt64)]) (rest := []) S hB hP hS (K_X7_in l hE (va_up σ 22 z) (x3.toInt64 + x7.toInt64) (0 : Int64) (((z 11 x1.toNatClampNeg) - (1 : Int32)).toInt64) hq22) (va_cwS 3 S.2.2.2.2 gX7_read_X7_in rfl rfl rfl (by decide +kernel) ⟨Nat.le_of_ble_eq_true rfl, Nat.le_of_ble_eq_true rfl⟩) rfl hl.1 rfl (Nat.le_of_ble_eq_true rfl) dX7_read_115 ⟨Nat.zero_le _, Nat.zero_le _⟩ (fun H locs hP hS => ?_)
              refine lv_if_ne (tgt := 125) hx hb dX7_read_118 (by decide) (fun c23 => ?_) (fun c23 => ?_)
              · have hf := if_f c23 hf
                refine lv_iconst (v := 0) hx hb dX7_read_125 (by decide) ?_
                exact hB126 z x1 x2 x3 x4 x6 x7 (0 : Int32) _ _ _ hf hP hS (lv_sub hl [0, 1, 2, 3, 4, 6, 7] rfl)
              · have hf := if_t c23 hf
                refine lv_iconst (v := 2) hx hb dX7_read_121 (by decide) ?_
                refine lv_goto (tgt := 126) hx hb dX7_read_122 (by decide) ?_
                exact hB126 z x1 x2 x3 x4 x6 x7 (2 : Int32) _ _ _ hf hP hS (lv_sub hl [0, 1, 2, 3, 4, 6, 7] rfl)
            · have hf := if_f c20 hf
              refine lv_iconst (v := 3) hx hb dX7_read_95 (by decide) ?_
              refine lv_goto (tgt := 126) hx hb dX7_read_96 (by decide) ?_
              exact hB126 z x1 x2 x3 x4 x6 x7 (3 : Int32) _ _ _ hf hP hS (lv_sub hl [0, 1, 2, 3, 4, 6, 7] rfl)
          · have hf := if_t c18 hf
            refine lv_iconst (v := 1) hx hb dX7_read_81 (by decide) ?_
            refine lv_goto (tgt := 126) hx hb dX7_read_82 (by decide) ?_
            exact hB126 z x1 x2 x3 x4 x6 x7 (1 : Int32) _ _ _ hf hP hS (lv_sub hl [0, 1, 2, 3, 4, 6, 7] rfl)
  unfold f_X7_read at hf
  refine lv_iload_n hx hb dX7_read_0 rfl (lv_at hl 1 rfl) ?_
  refine lv_i2l hx hb dX7_read_1 (v := a1.toInt64) rfl ?_
  refine lv_lconst (v := 0) hx hb dX7_read_2 (by decide) ?_
  refine lv_ldc2 hx hb S.2.2.2.1 (S.2.2.2.2 (.constantLong RX7 175 (3)) (by decide +kernel)) dX7_read_3 ?_
  obtain ⟨q1, hq1, hf⟩ := bind_some hf
  refine callS_i (As := [.long a1.toInt64, .long (0 : Int64), .long (3 : Int64)]) (rest := []) S hB hP hS (K_X7_in l hE (va_up σ 22 z) a1.toInt64 (0 : Int64) (3 : Int64) hq1) (va_cwS 3 S.2.2.2.2 gX7_read_X7_in rfl rfl rfl (by decide +kernel) ⟨Nat.le_of_ble_eq_true rfl, Nat.le_of_ble_eq_true rfl⟩) rfl hl.1 rfl (Nat.le_of_ble_eq_true rfl) dX7_read_6 ⟨Nat.zero_le _, Nat.zero_le _⟩ (fun H locs hP hS => ?_)
  refine lv_if_eq (tgt := 37) hx hb dX7_read_9 (by decide) (fun c2 => ?_) (fun c2 => ?_)
  · have hf := if_t c2 hf
    refine lv_iconst (v := -1) hx hb dX7_read_37 (by decide) ?_
    exact fin dX7_read_38 (s1 hf) (by rw [(s2 hf)]) hP hS
  · have hf := if_f c2 hf
    refine lv_iload_n hx hb dX7_read_12 rfl (lv_at hl 2 rfl) ?_
    refine lv_i2l hx hb dX7_read_13 (v := a2.toInt64) rfl ?_
    refine lv_lconst (v := 0) hx hb dX7_read_14 (by decide) ?_
    refine lv_ldc2 hx hb S.2.2.2.1 (S.2.2.2.2 (.constantLong RX7 180 (2)) (by decide +kernel)) dX7_read_15 ?_
    obtain ⟨q3, hq3, hf⟩ := bind_some hf
    refine callS_i (As := [.long a2.toInt64, .long (0 : Int64), .long (2 : Int64)]) (rest := []) S hB hP hS (K_X7_in l hE (va_up σ 22 z) a2.toInt64 (0 : Int64) (2 : Int64) hq3) (va_cwS 3 S.2.2.2.2 gX7_read_X7_in rfl rfl rfl (by decide +kernel) ⟨Nat.le_of_ble_eq_true rfl, Nat.le_of_ble_eq_true rfl⟩) rfl hl.1 rfl (Nat.le_of_ble_eq_true rfl) dX7_read_18 ⟨Nat.zero_le _, Nat.zero_le _⟩ (fun H locs hP hS => ?_)
    refine lv_if_eq (tgt := 37) hx hb dX7_read_21 (by decide) (fun c4 => ?_) (fun c4 => ?_)
    · have hf := if_t c4 hf
      refine lv_iconst (v := -1) hx hb dX7_read_37 (by decide) ?_
      exact fin dX7_read_38 (s1 hf) (by rw [(s2 hf)]) hP hS
    · have hf := if_f c4 hf
      refine lv_iload hx hb dX7_read_24 (lv_at hl 4 rfl) ?_
      refine lv_i2l hx hb dX7_read_26 (v := a4.toInt64) rfl ?_
      refine lv_lconst (v := 0) hx hb dX7_read_27 (by decide) ?_
      refine lv_ldc2 hx hb S.2.2.2.1 (S.2.2.2.2 (.constantLong RX7 222 (20)) (by decide +kernel)) dX7_read_28 ?_
      obtain ⟨q5, hq5, hf⟩ := bind_some hf
      refine callS_i (As := [.long a4.toInt64, .long (0 : Int64), .long (20 : Int64)]) (rest := []) S hB hP hS (K_X7_in l hE (va_up σ 22 z) a4.toInt64 (0 : Int64) (20 : Int64) hq5) (va_cwS 3 S.2.2.2.2 gX7_read_X7_in rfl rfl rfl (by decide +kernel) ⟨Nat.le_of_ble_eq_true rfl, Nat.le_of_ble_eq_true rfl⟩) rfl hl.1 rfl (Nat.le_of_ble_eq_true rfl) dX7_read_31 ⟨Nat.zero_le _, Nat.zero_le _⟩ (fun H locs hP hS => ?_)
      refine lv_if_ne (tgt := 39) hx hb dX7_read_34 (by decide) (fun c6 => ?_) (fun c6 => ?_)
      · have hf := if_f c6 hf
        refine lv_aload_n hx hb dX7_read_39 rfl (lv_at hl 0 rfl) ?_
        refine lv_iconst (v := 0) hx hb dX7_read_40 (by decide) ?_
        refine lv_sipush (v := 159) hx hb dX7_read_41 (by decide) ?_
        obtain ⟨q7, hq7, hf⟩ := bind_some hf
        refine callV_v (As := [.int (0 : Int32), .int (159 : Int32)]) (rest := []) S hB hP hS (C := RX7) (b := E.ad 22 0) (g_recv (o := 22) (d := 0) hB hP m_22_0 rfl rfl) (K_X7_copies l hE σ z (0 : Int32) (159 : Int32) hq7) (cwV 2 S.2.2.2.2 gX7_read_X7_copies rfl rfl rfl (by decide +kernel) ⟨Nat.le_of_ble_eq_true rfl, Nat.le_of_ble_eq_true rfl⟩) rfl hl.1 rfl (Nat.le_of_ble_eq_true rfl) dX7_read_44 ⟨Nat.zero_le _, Nat.zero_le _⟩ (fun H locs hP hS => ?_)
        refine lv_iconst (v := 0) hx hb dX7_read_47 (by decide) ?_
        refine lv_istore (lv' := [(5, .int (0 : Int32)), (0, .ref (E.ad 22 0)), (1, .int a1), (2, .int a2), (3, .int a3), (4, .int a4)]) hx hb dX7_read_48 hl (by decide) rfl (fun ls hl => ?_)
        refine lv_iconst (v := 0) hx hb dX7_read_50 (by decide) ?_
        refine lv_istore (lv' := [(6, .int (0 : Int32)), (5, .int (0 : Int32)), (0, .ref (E.ad 22 0)), (1, .int a1), (2, .int a2), (3, .int a3), (4, .int a4)]) hx hb dX7_read_51 hl (by decide) rfl (fun ls hl => ?_)
        refine lv_iconst (v := 0) hx hb dX7_read_53 (by decide) ?_
        refine lv_istore (lv' := [(7, .int (0 : Int32)), (6, .int (0 : Int32)), (5, .int (0 : Int32)), (0, .ref (E.ad 22 0)), (1, .int a1), (2, .int a2), (3, .int a3), (4, .int a4)]) hx hb dX7_read_54 hl (by decide) rfl (fun ls hl => ?_)
        exact hL56 FUEL q7 a1 a2 a3 a4 (0 : Int32) (0 : Int32) (0 : Int32) _ _ _ hf hP hS (lv_sub hl [3, 4, 5, 6, 7, 2, 1, 0] rfl)
      · have hf := if_t c6 hf
        refine lv_iconst (v := -1) hx hb dX7_read_37 (by decide) ?_
        exact fin dX7_read_38 (s1 hf) (by rw [(s2 hf)]) hP hS
theorem KW_X7_read (l : Launch) {E : En} (hE : Inj E) (X : Wd) (a1 : Int32) (a2 : Int32) (a3 : Int32) (a4 : Int32) {r : Int32} {z' : Ob} (hf : f_X7_read (X 22) a1 a2 a3 a4 = some (r, z')) : Cti l E yX7_read wsX7_read rm_X7_read [.ref (E.ad 22 0), .int a1, .int a2, .int a3, .int a4] X r (va_up X 22 z') := by
  have h := K_X7_read l hE X (X 22) a1 a2 a3 a4 hf
  rw [lens_all] at h
  exact h
/-! X7_torn -/
abbrev rm_X7_torn : Room := { frames := 0, cells := 0, slots := 0, locals := 0 }
set_option maxHeartbeats 4000000 in
set_option maxRecDepth 100000 in
theorem K_X7_torn (l : Launch) {E : En} (hE : Inj E) (σ : Wd) (z : Ob) {r : Int32} (hf : f_X7_torn z = some r) : Cti l E yX7_torn wsX7_torn rm_X7_torn [.ref (E.ad 22 0)] (va_up σ 22 z) r (va_up σ 22 z) := by
  refine meet_i (cc := cX7_torn) (maxL := 1) (own := RX7) (by decide) rfl rfl (Nat.le_of_ble_eq_true rfl) ?_
  intro p e s m below meth c Z S hB fin hP hS ls hl
  have hx := S.1
  have hb := S.2.1
  have hl : lv_has ls 1 [(0, .ref (E.ad 22 0))] := hl
  have hinX7 : ∀ w ∈ u_ws RX7 TX7 25, w ∈ wsX7_torn := by decide +kernel
  have fl231 := S.2.2.2.2 (.fieldLink RX7 231 "MownMazeModel" "torn" "I") (by decide +kernel)
  unfold f_X7_torn at hf
  refine lv_aload_n hx hb dX7_torn_0 rfl (lv_at hl 0 rfl) ?_
  refine g_get (v := .int (z 0 24)) S hB hinX7 hP m_22_0 rfl rfl 24 (by decide) fl231 rfl rfl dX7_torn_1 ?_
  exact fin dX7_torn_4 (s0 hf) rfl hP hS
theorem KW_X7_torn (l : Launch) {E : En} (hE : Inj E) (X : Wd) {r : Int32} (hf : f_X7_torn (X 22) = some r) : Cti l E yX7_torn wsX7_torn rm_X7_torn [.ref (E.ad 22 0)] X r X := by
  have h := K_X7_torn l hE X (X 22)  hf
  rw [lens_all] at h
  exact h
