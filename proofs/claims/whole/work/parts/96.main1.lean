/-- MownMaze's own cells, and those of reader, maze, trial, told, seen, best; q their addresses -/
def mnW (E : En) (h0 : Nat) (q a b c d e f : Nat → Nat) (f1 f2 f3 : Nat → Option Nat) : va_W := (h0, .inr (5, [.ref (q 0), .ref (q 1), .ref (q 2), .ref (q 3), .ref (q 4), .ref (q 5), .ref (q 6), .ref (q 7), .ref (q 8), .ref (q 9), .int 0, .int 0])) :: (nX3 E (q 0) a ++ nX1 E (q 1) b ++ nX1 E (q 2) c ++ nX1 E (q 3) d ++ [(q 4, .inl (E.cy 3, 9, .inr (.inr (.inr (.inr f1)))))] ++ [(q 5, .inl (E.cy 3, 2, .inr (.inr (.inr (.inr f2)))))] ++ [(q 6, .inl (E.cy 2, 2, .inl (fun _ => 0)))] ++ [(q 7, .inl (E.cy 4, 4, .inr (.inr (.inr (.inr f3)))))] ++ nX4 E (q 8) e ++ nX0 E (q 9) f)
def Z6 (U : State) : Prop := va_AO RX1 U ∧ va_AO RX5 U ∧ va_Nw (.methodLinkNest RX6 9 yX3_init RX6) U ∧ va_Nw (.methodLinkNest RX6 18 yX1_init RX6) U ∧ va_Nw (.methodLinkNest RX6 48 yX4_init RX6) U ∧ va_Nw (.methodLinkNest RX6 55 yX0_init RX6) U ∧ va_Nw (.methodLinkNest RX6 67 yX5_init RX6) U
theorem Z6_call {U : State} {g : JFrame} {mk : MethodId} {a : Array Value} (h : Z6 U) : Z6 (U.calling g mk a) := ⟨va_AO.moved (u := U) (U := U.calling g mk a) (Vm.Alike.refl U.vm) h.1, va_AO.moved (u := U) (U := U.calling g mk a) (Vm.Alike.refl U.vm) h.2.1, va_Nw.same (u := U) rfl rfl h.2.2.1, va_Nw.same (u := U) rfl rfl h.2.2.2.1, va_Nw.same (u := U) rfl rfl h.2.2.2.2.1, va_Nw.same (u := U) rfl rfl h.2.2.2.2.2.1, va_Nw.same (u := U) rfl rfl h.2.2.2.2.2.2⟩
theorem Z6_warm {s U : State} (hW : s.WarmedH U.vm) (h : Z6 s) : Z6 U := ⟨va_AO.moved hW.alike h.1, va_AO.moved hW.alike h.2.1, va_Nw.warmM hW h.2.2.1, va_Nw.warmM hW h.2.2.2.1, va_Nw.warmM hW h.2.2.2.2.1, va_Nw.warmM hW h.2.2.2.2.2.1, va_Nw.warmM hW h.2.2.2.2.2.2⟩
abbrev rm_X6_init : Room := { frames := 2, cells := 119, slots := 1416, locals := 40 }
set_option maxHeartbeats 4000000 in
set_option maxRecDepth 100000 in
theorem it_rainy {p : Program} {l : Launch} {e : Env} {s : State} {m : MethodId} {args : Array Value} {below : List Frame} {meth : Method} {c : Code} {H : Heap} {locs : List Loc} {cells slots : Nat} {Q : State → Prop} {ls : Array Slot} {E : En} {N0 h0 : Nat} {q a b c0 d e0 f : Nat → Nat} {f1 f2 f3 : Nat → Option Nat} {tail : va_W} (S : CallFix p m c cX6_init 2 s args wsX6_init RX6) (hK : va_K E.1 vwCl (TY E) s) (hN0 : N0 ≤ s.heap.size) (hZ : Z6 s) (i i2 : Int32) (j : Nat) (hj : i.toNatClampNeg = j) (hi : vp_in i 9) (hc : ¬ (9 : Int32) ≤ i) (h2 : i + Int32.ofInt 1 = i2) (hcc : cells + 7 ≤ 119) (hss : slots + 36 ≤ 1416) (hl : lv_has ls 2 [(1, .int i), (0, .ref h0)]) (hG : GH E N0 (mnW E h0 q a b c0 d e0 f f1 f2 f3 ++ tail) H) (hS : va_S (fun q : Nat => N0 ≤ q) s.heap H locs)
    (kk : ∀ (x : Nat) (u : Nat → Nat) (H : Heap) (locs : List Loc) (ls : Array Slot), lv_has ls 2 [(1, .int i2), (0, .ref h0)] → GH E N0 (mnW E h0 q a b c0 d e0 f (va_up f1 j (some x)) f2 f3 ++ (tail ++ nX1 E x u)) H → va_S (fun q : Nat => N0 ≤ q) s.heap H locs → W p l e rm_X6_init s m args below meth c H locs (cells + 7) (slots + 36) Q (F0 m 114 ls [])) : W p l e rm_X6_init s m args below meth c H locs cells slots Q (F0 m 114 ls []) := by
  have hx := S.1
  have hb := S.2.1
  have hown := S.2.2.2.1
  have hts := S.2.2.2.2
  have hinX6 : ∀ w ∈ u_ws RX6 TX6 12, w ∈ wsX6_init := by decide +kernel
  have hinX1 : ∀ w ∈ u_ws RX1 TX1 12, w ∈ wsX6_init := by decide +kernel
  refine lv_iload_n hx hb dX6_init_114 rfl (lv_at hl 0 rfl) ?_
  refine lv_aload_n hx hb dX6_init_115 rfl (lv_at hl 1 rfl) ?_
  refine va_get (v := .ref (q 4)) hx hb hts hinX6 hown hK hG.1 0 rfl rfl 4 (by decide) (hts (.fieldLink RX6 29 "MownMaze" "rainy" "[LMownMaze$Maze;") (by decide +kernel)) (fun _ h => h) rfl dX6_init_116 ?_
  refine va_alen (v := 9) hx hb hK hG.1 24 3 rfl rfl rfl dX6_init_119 ?_
  refine lv_icmp_ge (tgt := 142) hx hb dX6_init_120 (by decide) (fun h => absurd h hc) (fun _ => ?_)
  refine lv_aload_n hx hb dX6_init_123 rfl (lv_at hl 1 rfl) ?_
  refine va_get (v := .ref (q 4)) hx hb hts hinX6 hown hK hG.1 0 rfl rfl 4 (by decide) (hts (.fieldLink RX6 29 "MownMaze" "rainy" "[LMownMaze$Maze;") (by decide +kernel)) (fun _ h => h) rfl dX6_init_124 ?_
  refine lv_iload_n hx hb dX6_init_127 rfl (lv_at hl 0 rfl) ?_
  refine c_new (ci := 1) (fs := [.int 0, .int 0, .int 0, .int 0, .int 0, .null, .null, .null, .int 0, .null, .null, .null]) (C := RX1) (T := TX1) (N := 12) S hK hN0 hG hS hinX1 tyX1 tyX1_ok (hts (.classLink RX6 16 RX1) (by decide +kernel)) (hts (.instantiable RX1 12) (by decide +kernel)) (hts (.initialized RX1) (by decide +kernel)) rfl (fun j hj => by rcases (show j = 0 ∨ j = 1 ∨ j = 2 ∨ j = 3 ∨ j = 4 ∨ j = 5 ∨ j = 6 ∨ j = 7 ∨ j = 8 ∨ j = 9 ∨ j = 10 ∨ j = 11 by omega) with rfl | rfl | rfl | rfl | rfl | rfl | rfl | rfl | rfl | rfl | rfl | rfl <;> rfl) (by show cells + 1 ≤ 119; omega) (by show slots + 12 ≤ 1416; omega) dX6_init_128 (fun x H hG hS => ?_)
  refine lv_dup hx hb dX6_init_131 rfl ?_
  refine c_callN (rest := [.ref x, .int i, .ref (q 4)]) S (k_X1_init l E N0 x (mnW E h0 q a b c0 d e0 f f1 f2 f3 ++ tail)) ⟨va_cnB 0 hts gX6_init_X1_init_n18 rfl rfl rfl hZ.2.2.2.1 (hts (.initialized RX1) (by decide +kernel)) (by decide +kernel) ⟨Nat.le_of_ble_eq_true rfl, Nat.le_of_ble_eq_true rfl⟩, rfl, hts (.instanceMethod yX1_init) (by decide +kernel)⟩ hK hN0 hG hS hl.1 (Nat.le_of_ble_eq_true rfl) ⟨by show cells + 1 + 6 ≤ 119; omega, by show slots + 12 + 24 ≤ 1416; omega⟩ dX6_init_132 (fun u H locs hG hS => ?_)
  refine c_ast (ws' := mnW E h0 q a b c0 d e0 f (va_up f1 i.toNatClampNeg (some x)) f2 f3 ++ (tail ++ nX1 E x u)) S hK hG hS 24 3 _ 1 rfl rfl (c_at (k := 0) rfl) rfl hi rfl dX6_init_135 (fun H locs hG hS => ?_)
  refine lv_iinc (v := i2) (lv' := [(1, .int i2), (0, .ref h0)]) hx hb dX6_init_136 hl (k := 0) rfl h2 (by decide) rfl (fun ls hl => ?_)
  refine lv_goto (tgt := 114) hx hb dX6_init_139 (by decide) ?_
  subst hj
  exact W.widen (by show cells + 1 + 6 ≤ cells + 7; omega) (by show slots + 12 + 24 ≤ slots + 36; omega) (kk x u H locs ls hl hG hS)
set_option maxHeartbeats 4000000 in
set_option maxRecDepth 100000 in
theorem it_image {p : Program} {l : Launch} {e : Env} {s : State} {m : MethodId} {args : Array Value} {below : List Frame} {meth : Method} {c : Code} {H : Heap} {locs : List Loc} {cells slots : Nat} {Q : State → Prop} {ls : Array Slot} {E : En} {N0 h0 : Nat} {q a b c0 d e0 f : Nat → Nat} {f1 f2 f3 : Nat → Option Nat} {tail : va_W} (S : CallFix p m c cX6_init 2 s args wsX6_init RX6) (hK : va_K E.1 vwCl (TY E) s) (hN0 : N0 ≤ s.heap.size) (hZ : Z6 s) (i i2 : Int32) (j : Nat) (hj : i.toNatClampNeg = j) (hi : vp_in i 2) (hc : ¬ (2 : Int32) ≤ i) (h2 : i + Int32.ofInt 1 = i2) (hcc : cells + 7 ≤ 119) (hss : slots + 36 ≤ 1416) (hl : lv_has ls 2 [(1, .int i), (0, .ref h0)]) (hG : GH E N0 (mnW E h0 q a b c0 d e0 f f1 f2 f3 ++ tail) H) (hS : va_S (fun q : Nat => N0 ≤ q) s.heap H locs)
    (kk : ∀ (x : Nat) (u : Nat → Nat) (H : Heap) (locs : List Loc) (ls : Array Slot), lv_has ls 2 [(1, .int i2), (0, .ref h0)] → GH E N0 (mnW E h0 q a b c0 d e0 f f1 (va_up f2 j (some x)) f3 ++ (tail ++ nX1 E x u)) H → va_S (fun q : Nat => N0 ≤ q) s.heap H locs → W p l e rm_X6_init s m args below meth c H locs (cells + 7) (slots + 36) Q (F0 m 144 ls [])) : W p l e rm_X6_init s m args below meth c H locs cells slots Q (F0 m 144 ls []) := by
  have hx := S.1
  have hb := S.2.1
  have hown := S.2.2.2.1
  have hts := S.2.2.2.2
  have hinX6 : ∀ w ∈ u_ws RX6 TX6 12, w ∈ wsX6_init := by decide +kernel
  have hinX1 : ∀ w ∈ u_ws RX1 TX1 12, w ∈ wsX6_init := by decide +kernel
  refine lv_iload_n hx hb dX6_init_144 rfl (lv_at hl 0 rfl) ?_
  refine lv_iconst (v := 2) hx hb dX6_init_145 (by decide) ?_
  refine lv_icmp_ge (tgt := 168) hx hb dX6_init_146 (by decide) (fun h => absurd h hc) (fun _ => ?_)
  refine lv_aload_n hx hb dX6_init_149 rfl (lv_at hl 1 rfl) ?_
  refine va_get (v := .ref (q 5)) hx hb hts hinX6 hown hK hG.1 0 rfl rfl 5 (by decide) (hts (.fieldLink RX6 33 "MownMaze" "images" "[LMownMaze$Maze;") (by decide +kernel)) (fun _ h => h) rfl dX6_init_150 ?_
  refine lv_iload_n hx hb dX6_init_153 rfl (lv_at hl 0 rfl) ?_
  refine c_new (ci := 1) (fs := [.int 0, .int 0, .int 0, .int 0, .int 0, .null, .null, .null, .int 0, .null, .null, .null]) (C := RX1) (T := TX1) (N := 12) S hK hN0 hG hS hinX1 tyX1 tyX1_ok (hts (.classLink RX6 16 RX1) (by decide +kernel)) (hts (.instantiable RX1 12) (by decide +kernel)) (hts (.initialized RX1) (by decide +kernel)) rfl (fun j hj => by rcases (show j = 0 ∨ j = 1 ∨ j = 2 ∨ j = 3 ∨ j = 4 ∨ j = 5 ∨ j = 6 ∨ j = 7 ∨ j = 8 ∨ j = 9 ∨ j = 10 ∨ j = 11 by omega) with rfl | rfl | rfl | rfl | rfl | rfl | rfl | rfl | rfl | rfl | rfl | rfl <;> rfl) (by show cells + 1 ≤ 119; omega) (by show slots + 12 ≤ 1416; omega) dX6_init_154 (fun x H hG hS => ?_)
  refine lv_dup hx hb dX6_init_157 rfl ?_
  refine c_callN (rest := [.ref x, .int i, .ref (q 5)]) S (k_X1_init l E N0 x (mnW E h0 q a b c0 d e0 f f1 f2 f3 ++ tail)) ⟨va_cnB 0 hts gX6_init_X1_init_n18 rfl rfl rfl hZ.2.2.2.1 (hts (.initialized RX1) (by decide +kernel)) (by decide +kernel) ⟨Nat.le_of_ble_eq_true rfl, Nat.le_of_ble_eq_true rfl⟩, rfl, hts (.instanceMethod yX1_init) (by decide +kernel)⟩ hK hN0 hG hS hl.1 (Nat.le_of_ble_eq_true rfl) ⟨by show cells + 1 + 6 ≤ 119; omega, by show slots + 12 + 24 ≤ 1416; omega⟩ dX6_init_158 (fun u H locs hG hS => ?_)
  refine c_ast (ws' := mnW E h0 q a b c0 d e0 f f1 (va_up f2 i.toNatClampNeg (some x)) f3 ++ (tail ++ nX1 E x u)) S hK hG hS 25 3 _ 1 rfl rfl (c_at (k := 0) rfl) rfl hi rfl dX6_init_161 (fun H locs hG hS => ?_)
  refine lv_iinc (v := i2) (lv' := [(1, .int i2), (0, .ref h0)]) hx hb dX6_init_162 hl (k := 0) rfl h2 (by decide) rfl (fun ls hl => ?_)
  refine lv_goto (tgt := 144) hx hb dX6_init_165 (by decide) ?_
  subst hj
  exact W.widen (by show cells + 1 + 6 ≤ cells + 7; omega) (by show slots + 12 + 24 ≤ slots + 36; omega) (kk x u H locs ls hl hG hS)
set_option maxHeartbeats 4000000 in
set_option maxRecDepth 100000 in
theorem it_sheet {p : Program} {l : Launch} {e : Env} {s : State} {m : MethodId} {args : Array Value} {below : List Frame} {meth : Method} {c : Code} {H : Heap} {locs : List Loc} {cells slots : Nat} {Q : State → Prop} {ls : Array Slot} {E : En} {N0 h0 : Nat} {q a b c0 d e0 f : Nat → Nat} {f1 f2 f3 : Nat → Option Nat} {tail : va_W} (S : CallFix p m c cX6_init 2 s args wsX6_init RX6) (hK : va_K E.1 vwCl (TY E) s) (hN0 : N0 ≤ s.heap.size) (hZ : Z6 s) (i i2 : Int32) (j : Nat) (hj : i.toNatClampNeg = j) (hi : vp_in i 4) (hc : ¬ (4 : Int32) ≤ i) (h2 : i + Int32.ofInt 1 = i2) (hcc : cells + 2 ≤ 119) (hss : slots + 44 ≤ 1416) (hl : lv_has ls 2 [(1, .int i), (0, .ref h0)]) (hG : GH E N0 (mnW E h0 q a b c0 d e0 f f1 f2 f3 ++ tail) H) (hS : va_S (fun q : Nat => N0 ≤ q) s.heap H locs)
    (kk : ∀ (x : Nat) (u : Nat → Nat) (H : Heap) (locs : List Loc) (ls : Array Slot), lv_has ls 2 [(1, .int i2), (0, .ref h0)] → GH E N0 (mnW E h0 q a b c0 d e0 f f1 f2 (va_up f3 j (some x)) ++ (tail ++ nX5 E x u)) H → va_S (fun q : Nat => N0 ≤ q) s.heap H locs → W p l e rm_X6_init s m args below meth c H locs (cells + 2) (slots + 44) Q (F0 m 170 ls [])) : W p l e rm_X6_init s m args below meth c H locs cells slots Q (F0 m 170 ls []) := by
  have hx := S.1
  have hb := S.2.1
  have hown := S.2.2.2.1
  have hts := S.2.2.2.2
  have hinX6 : ∀ w ∈ u_ws RX6 TX6 12, w ∈ wsX6_init := by decide +kernel
  have hinX5 : ∀ w ∈ u_ws RX5 TX5 4, w ∈ wsX6_init := by decide +kernel
  refine lv_iload_n hx hb dX6_init_170 rfl (lv_at hl 0 rfl) ?_
  refine lv_iconst (v := 4) hx hb dX6_init_171 (by decide) ?_
  refine lv_icmp_ge (tgt := 194) hx hb dX6_init_172 (by decide) (fun h => absurd h hc) (fun _ => ?_)
  refine lv_aload_n hx hb dX6_init_175 rfl (lv_at hl 1 rfl) ?_
  refine va_get (v := .ref (q 7)) hx hb hts hinX6 hown hK hG.1 0 rfl rfl 7 (by decide) (hts (.fieldLink RX6 42 "MownMaze" "sheets" "[LMownMaze$Sheet;") (by decide +kernel)) (fun _ h => h) rfl dX6_init_176 ?_
  refine lv_iload_n hx hb dX6_init_179 rfl (lv_at hl 0 rfl) ?_
  refine c_new (ci := 4) (fs := [.int 0, .int 0, .int 0, .null]) (C := RX5) (T := TX5) (N := 4) S hK hN0 hG hS hinX5 tyX5 tyX5_ok (hts (.classLink RX6 40 RX5) (by decide +kernel)) (hts (.instantiable RX5 4) (by decide +kernel)) (hts (.initialized RX5) (by decide +kernel)) rfl (fun j hj => by rcases (show j = 0 ∨ j = 1 ∨ j = 2 ∨ j = 3 by omega) with rfl | rfl | rfl | rfl <;> rfl) (by show cells + 1 ≤ 119; omega) (by show slots + 4 ≤ 1416; omega) dX6_init_180 (fun x H hG hS => ?_)
  refine lv_dup hx hb dX6_init_183 rfl ?_
  refine c_callN (rest := [.ref x, .int i, .ref (q 7)]) S (k_X5_init l E N0 x (mnW E h0 q a b c0 d e0 f f1 f2 f3 ++ tail)) ⟨va_cnB 0 hts gX6_init_X5_init_n67 rfl rfl rfl hZ.2.2.2.2.2.2 (hts (.initialized RX5) (by decide +kernel)) (by decide +kernel) ⟨Nat.le_of_ble_eq_true rfl, Nat.le_of_ble_eq_true rfl⟩, rfl, hts (.instanceMethod yX5_init) (by decide +kernel)⟩ hK hN0 hG hS hl.1 (Nat.le_of_ble_eq_true rfl) ⟨by show cells + 1 + 1 ≤ 119; omega, by show slots + 4 + 40 ≤ 1416; omega⟩ dX6_init_184 (fun u H locs hG hS => ?_)
  refine c_ast (ws' := mnW E h0 q a b c0 d e0 f f1 f2 (va_up f3 i.toNatClampNeg (some x)) ++ (tail ++ nX5 E x u)) S hK hG hS 27 4 _ 4 rfl rfl (c_at (k := 0) rfl) rfl hi rfl dX6_init_187 (fun H locs hG hS => ?_)
  refine lv_iinc (v := i2) (lv' := [(1, .int i2), (0, .ref h0)]) hx hb dX6_init_188 hl (k := 0) rfl h2 (by decide) rfl (fun ls hl => ?_)
  refine lv_goto (tgt := 170) hx hb dX6_init_191 (by decide) ?_
  subst hj
  exact W.widen (by show cells + 1 + 1 ≤ cells + 2; omega) (by show slots + 4 + 40 ≤ slots + 44; omega) (kk x u H locs ls hl hG hS)
