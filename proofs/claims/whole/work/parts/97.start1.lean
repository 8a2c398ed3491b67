/-! the law's start: what the tables and the start's words give -/
def tmS (i : Nat) : Term := .string RX3 ([57, 66, 71, 132, 134, 136, 138].getD i 0)
set_option maxRecDepth 100000 in
theorem st_ex : ∀ i : Nat, i < 7 → Cond.exactly (tmS i) "java/lang/String" ∈ flatC (Jvm.Cond.and given_1 narrow_1) := by decide +kernel
set_option maxRecDepth 100000 in
theorem st_co : ∀ i : Nat, i < 7 → Cond.eq (.field (tmS i) "java/lang/String" "coder" "B") (.int 0) ∈ flatC (Jvm.Cond.and given_1 narrow_1) := by decide +kernel
set_option maxRecDepth 100000 in
theorem st_ar : ∀ i : Nat, i < 7 → Cond.arrayOf (.field (tmS i) "java/lang/String" "value" "[B") .byte ∈ flatC (Jvm.Cond.and given_1 narrow_1) := by decide +kernel
set_option maxRecDepth 100000 in
theorem st_le : ∀ i : Nat, i < 7 → Cond.eq (.length (.field (tmS i) "java/lang/String" "value" "[B")) (.int (Int32.ofNat (slen.getD i 0))) ∈ flatC (Jvm.Cond.and given_1 narrow_1) := by decide +kernel
set_option maxRecDepth 100000 in
theorem st_el : ∀ i : Nat, i < 7 → ∀ j : Nat, j < slen.getD i 0 → Cond.eq (.elem (.field (tmS i) "java/lang/String" "value" "[B") (.int (Int32.ofNat j))) (.int ((sbyt.getD i []).getD j 0)) ∈ flatC (Jvm.Cond.and given_1 narrow_1) := by decide +kernel
set_option maxRecDepth 100000 in
theorem st_ne : ∀ i : Nat, i < 7 → ∀ j : Nat, j < 7 → i ≠ j → (Cond.not (Cond.eq (tmS i) (tmS j)) ∈ flatC (Jvm.Cond.and given_1 narrow_1) ∨ Cond.not (Cond.eq (tmS j) (tmS i)) ∈ flatC (Jvm.Cond.and given_1 narrow_1)) := by decide +kernel
set_option maxRecDepth 100000 in
theorem start_S {args : Array Value} {s : State} {A : Nat → Prop} (hts : ∀ w ∈ lw_tbl, w.before args s = true) (hgv : (Jvm.Cond.and given_1 narrow_1).before args s = true) (hA : ∀ a : Nat, a < s.heap.size → ¬ A a) :
    ∃ kS vS : Nat → Nat, vk_S 7 slen sbyt kS vS A s s.heap ∧ vk_R RX3 57 "guest" (kS 0) s ∧ vk_R RX3 66 "hedge" (kS 1) s ∧ vk_R RX3 71 "gate" (kS 2) s ∧ vk_R RX3 132 "plain" (kS 3) s ∧ vk_R RX3 134 "spite" (kS 4) s ∧ vk_R RX3 136 "close" (kS 5) s ∧ vk_R RX3 138 "wide" (kS 6) s ∧ va_Z "java/lang/String" "COMPACT_STRINGS" "Z" (.int 1) A s s.heap ∧ va_Zq "jdk/internal/util/Preconditions" "SIOOBE_FORMATTER" "Ljava/util/function/BiFunction;" A s s.heap := by
  have hs := flat_of_before _ hgv
  obtain ⟨kS, vS, h1, h2⟩ := vk_Sof (args := args) (s := s) (N := 7) (tm := tmS) (len := slen) (byt := sbyt) (A := A) (by decide) (fun i hi => hs _ (st_ex i hi)) (fun i hi => hs _ (st_co i hi)) (fun i hi => hs _ (st_ar i hi)) (fun i hi => hs _ (st_le i hi)) (fun i hi j hj => hs _ (st_el i hi j hj)) (fun i j hi hj hn => (st_ne i hi j hj hn).imp (fun z => hs _ z) (fun z => hs _ z)) hA
  exact ⟨kS, vS, h1, vk_R.of (hts (.stringRef RX3 57 "guest") (by decide +kernel)) (h2 0 (by decide)), vk_R.of (hts (.stringRef RX3 66 "hedge") (by decide +kernel)) (h2 1 (by decide)), vk_R.of (hts (.stringRef RX3 71 "gate") (by decide +kernel)) (h2 2 (by decide)), vk_R.of (hts (.stringRef RX3 132 "plain") (by decide +kernel)) (h2 3 (by decide)), vk_R.of (hts (.stringRef RX3 134 "spite") (by decide +kernel)) (h2 4 (by decide)), vk_R.of (hts (.stringRef RX3 136 "close") (by decide +kernel)) (h2 5 (by decide)), vk_R.of (hts (.stringRef RX3 138 "wide") (by decide +kernel)) (h2 6 (by decide)),
    va_Zof (hts (.laysStatic "java/lang/String" "COMPACT_STRINGS" "Z") (by decide +kernel)) (hts (.initialized "java/lang/String") (by decide +kernel)) (va_eqt (hs (Cond.eq (.static "java/lang/String" "COMPACT_STRINGS" "Z") (.int 1)) (by decide +kernel))) hA,
    va_Zqof (hts (.laysStatic "jdk/internal/util/Preconditions" "SIOOBE_FORMATTER" "Ljava/util/function/BiFunction;") (by decide +kernel)) (hts (.initialized "jdk/internal/util/Preconditions") (by decide +kernel)) (hs (Cond.isRef (.static "jdk/internal/util/Preconditions" "SIOOBE_FORMATTER" "Ljava/util/function/BiFunction;")) (by decide +kernel)) hA⟩
theorem ar_p {args : Array Value} {s : State} {ty : FieldType} (h : (Cond.arrayClass ty).before args s = true) : ∃ cA : ClassId, ArrOfT s cA ty ∧ s.vm.findClass ("[" ++ ty.toString) = some cA := by
  obtain ⟨cA, kA, comp, h1, h2, h3⟩ := Cond.arrayClass_spec h
  exact ⟨cA, fun n z => ⟨fun k h => (by cases h), kA, h2, comp, h3⟩, h1⟩
theorem ar_o {args : Array Value} {s : State} {C : String} (h : (Cond.arrayOver (.object C)).before args s = true) : ∃ cA : ClassId, ArrOfT s cA (.object C) ∧ va_RA s cA (.object C) := by
  obtain ⟨comp, c, k, h1, h2, h3, h4, h5⟩ := Cond.arrayOver_spec h
  exact ⟨c, fun n z => ⟨fun k h => (by cases h), k, h3, comp, h4⟩, k, comp, h3, h4, h1, h5⟩
set_option maxHeartbeats 4000000 in
set_option maxRecDepth 100000 in
theorem start_K {args : Array Value} {s : State} (hts : ∀ w ∈ lw_tbl, w.before args s = true) : ∃ (D : va_G) (cy : Nat → ClassId), ∀ (ad : Nat → Nat → Nat) (kS vS : Nat → Nat), va_K D vwCl (TY (D, cy, ad, kS, vS)) s := by
  obtain ⟨c0, i0, k0⟩ := u_known (C := RX0) (T := TX0) (N := 2) (n := 2) hts inX0 (hts (.instantiable RX0 2) (by decide +kernel))
  obtain ⟨c1, i1, k1⟩ := u_known (C := RX1) (T := TX1) (N := 12) (n := 12) hts inX1 (hts (.instantiable RX1 12) (by decide +kernel))
  obtain ⟨c2, i2, k2⟩ := u_known (C := RX3) (T := TX3) (N := 8) (n := 8) hts inX3 (hts (.instantiable RX3 8) (by decide +kernel))
  obtain ⟨c3, i3, k3⟩ := u_known (C := RX4) (T := TX4) (N := 6) (n := 6) hts inX4 (hts (.instantiable RX4 6) (by decide +kernel))
  obtain ⟨c4, i4, k4⟩ := u_known (C := RX5) (T := TX5) (N := 4) (n := 4) hts inX5 (hts (.instantiable RX5 4) (by decide +kernel))
  obtain ⟨c5, i5, k5⟩ := u_known (C := RX6) (T := TX6) (N := 12) (n := 12) hts inX6 (hts (.instantiable RX6 12) (by decide +kernel))
  obtain ⟨c6, i6, k6⟩ := u_known (C := RX7) (T := TX7) (N := 25) (n := 25) hts inX7 (hts (.instantiable RX7 25) (by decide +kernel))
  obtain ⟨a0, p0, r0⟩ := ar_p (hts (.arrayClass .int) (by decide +kernel))
  obtain ⟨a1, p1, r1⟩ := ar_p (hts (.arrayClass .byte) (by decide +kernel))
  obtain ⟨a2, p2, r2⟩ := ar_p (hts (.arrayClass .boolean) (by decide +kernel))
  obtain ⟨a3, p3, r3⟩ := ar_o (hts (.arrayOver (.object RX1)) (by decide +kernel))
  obtain ⟨a4, p4, r4⟩ := ar_o (hts (.arrayOver (.object RX5)) (by decide +kernel))
  refine ⟨(fun k => if k = 0 then c0 else if k = 1 then c1 else if k = 2 then c2 else if k = 3 then c3 else if k = 4 then c4 else if k = 5 then c5 else c6, fun k => if k = 0 then i0 else if k = 1 then i1 else if k = 2 then i2 else if k = 3 then i3 else if k = 4 then i4 else if k = 5 then i5 else i6), fun k => if k = 0 then a0 else if k = 1 then a1 else if k = 2 then a2 else if k = 3 then a3 else a4, fun ad kS vS => ⟨?_, ?_⟩⟩
  · intro k q hq
    match k, hq with
    | 0, hq => cases hq; exact k0
    | 1, hq => cases hq; exact k1
    | 2, hq => cases hq; exact k2
    | 3, hq => cases hq; exact k3
    | 4, hq => cases hq; exact k4
    | 5, hq => cases hq; exact k5
    | 6, hq => cases hq; exact k6
    | k + 7, hq => simp [vwCl] at hq
  · intro k q hq
    match k, hq with
    | 0, hq => cases hq; exact ⟨p0, r0⟩
    | 1, hq => cases hq; exact ⟨p1, r1⟩
    | 2, hq => cases hq; exact ⟨p2, r2⟩
    | 3, hq => cases hq; exact ⟨p3, r3⟩
    | 4, hq => cases hq; exact ⟨p4, r4⟩
    | k + 5, hq => simp [TY] at hq
set_option maxRecDepth 100000 in
theorem start_Z {args : Array Value} {s : State} (hts : ∀ w ∈ lw_tbl, w.before args s = true) : Z6 s :=
  ⟨va_AO.of (hts (.arrayOver (.object RX1)) (by decide +kernel)), va_AO.of (hts (.arrayOver (.object RX5)) (by decide +kernel)), va_Nw.of rfl (hts (.methodLinkNest RX6 9 yX3_init RX6) (by decide +kernel)), va_Nw.of rfl (hts (.methodLinkNest RX6 18 yX1_init RX6) (by decide +kernel)), va_Nw.of rfl (hts (.methodLinkNest RX6 48 yX4_init RX6) (by decide +kernel)), va_Nw.of rfl (hts (.methodLinkNest RX6 55 yX0_init RX6) (by decide +kernel)), va_Nw.of rfl (hts (.methodLinkNest RX6 67 yX5_init RX6) (by decide +kernel))⟩
