/-! which two had better change places -/
def swR (c x y : Nat) (a : Nat → Nat) : Nat → Nat := va_up (va_up a (c + x) (a (c + y))) (c + y) (a (c + x))
def swP (a : Nat → Nat) (x y : Nat) : Nat → Nat := swR 33 x y (swR 29 x y (swR 25 x y a))
theorem swR_ne {c x y : Nat} {a : Nat → Nat} {j : Nat} (h1 : j ≠ c + x) (h2 : j ≠ c + y) : swR c x y a j = a j := by unfold swR; rw [va_up_ne _ _ h2, va_up_ne _ _ h1]
theorem swR_wf {a : Nat → Nat} (h : WF a) {c x y : Nat} (hc : c = 25 ∨ c = 29 ∨ c = 33) (hx : x < 4) (hy : y < 4) : WF (swR c x y a) := by
  have b1 := h.2.2.2.2.2.1 x hx
  have b2 := h.2.2.2.2.2.1 y hy
  unfold swR
  rcases hc with rfl | rfl | rfl
  · exact (h.up (by unfold bnd; omega)).up (by unfold bnd; omega)
  · exact (h.up (by unfold bnd; omega)).up (by unfold bnd; omega)
  · exact (h.up (by unfold bnd; omega)).up (by unfold bnd; omega)
theorem swP_wf {a : Nat → Nat} (h : WF a) {x y : Nat} (hx : x < 4) (hy : y < 4) : WF (swP a x y) := swR_wf (swR_wf (swR_wf h (by omega) hx hy) (by omega) hx hy) (by omega) hx hy
theorem swP_ne {a : Nat → Nat} {x y j : Nat} (hx : x < 4) (hy : y < 4) (hj : j < 25 ∨ 37 ≤ j) : swP a x y j = a j := by
  unfold swP
  rw [swR_ne (by omega) (by omega), swR_ne (by omega) (by omega), swR_ne (by omega) (by omega)]
theorem ex_step {z : Ob} {a : Nat → Nat} (hz : RZ z a) (h : WF a) {c x y : Nat} (hc : 1 ≤ c ∧ c ≤ 3) (hx : x < a 37) (hy : y < a 37) : RZ (ob (ob z c x (z c y)) c y (z c x)) (swR (21 + 4 * c) x y a) := by
  have h37 := h.2.2.1
  have h51 := h.2.2.2.2.1
  have e : ∀ j, j < a 37 → z c j = nI (a (21 + 4 * c + j)) := fun j hj => by
    obtain ⟨g1, g2, g3⟩ := hz.2.2.2.2.2.2.1 j hj
    rcases (show c = 1 ∨ c = 2 ∨ c = 3 by omega) with rfl | rfl | rfl
    · exact g1
    · exact g2
    · exact g3
  rw [e x hx, e y hy]
  have t1 := hz.cellv h37 h51 (c := c) (g := x) (k := 21 + 4 * c + x) (a (21 + 4 * c + y)) (by omega) (by omega)
  exact t1.cellv (by rw [va_up_ne _ _ (by omega)]; exact h37) (by rw [va_up_ne _ _ (by omega)]; exact h51) (c := c) (g := y) (k := 21 + 4 * c + y) (a (21 + 4 * c + x)) (by omega) (by omega)
theorem exchange_ok {z : Ob} {a : Nat → Nat} (hz : RZ z a) (h : WF a) {x y : Nat} (hx : x < a 37) (hy : y < a 37) : ∃ z', f_X1_exchange z (nI x) (nI y) = some z' ∧ RZ z' (swP a x y) := by
  have h37 := h.2.2.1
  have s1 := ex_step hz h (c := 1) (by omega) hx hy
  have w1 : WF (swR 25 x y a) := swR_wf h (by omega) (by omega) (by omega)
  have n1 : swR 25 x y a 37 = a 37 := swR_ne (by omega) (by omega)
  have s2 := ex_step s1 w1 (c := 2) (x := x) (y := y) (by omega) (by show x < swR 25 x y a 37; omega) (by show y < swR 25 x y a 37; omega)
  have w2 : WF (swR 29 x y (swR 25 x y a)) := swR_wf w1 (by omega) (by omega) (by omega)
  have n2 : swR 29 x y (swR 25 x y a) 37 = a 37 := by rw [swR_ne (by omega) (by omega)]; exact n1
  have s3 := ex_step s2 w2 (c := 3) (x := x) (y := y) (by omega) (by show x < swR 29 x y (swR 25 x y a) 37; omega) (by show y < swR 29 x y (swR 25 x y a) 37; omega)
  refine ⟨_, ?_, s3⟩
  have go : ∀ (f : Nat) (w : Ob) (i c : Nat), i < 3 → c = i + 1 → f_X1_exchange_l2 (f + 1) w (nI x) (nI y) (nI i) = f_X1_exchange_l2 f (ob (ob w c x (w c y)) c y (w c x)) (nI x) (nI y) (nI (i + 1)) := by
    intro f w i c hi hc
    rw [f_X1_exchange_l2, if_neg (show ¬ (3 : Int32) ≤ nI i from fun q => absurd ((nI_le_iff (a := 3) (by omega) (by omega)).mp q) (by omega))]
    have et : f_X1_trait w (nI i) = some c := by
      unfold f_X1_trait
      rcases (show i = 0 ∨ i = 1 ∨ i = 2 by omega) with rfl | rfl | rfl
      · rw [if_pos (by decide), hc]
      · rw [if_neg (by decide), if_pos (by decide), hc]
      · rw [if_neg (by decide), if_neg (by decide), hc]
    rw [et, Option.bind_some, ck_nI (by omega) (by omega), ck_nI (by omega) (by omega), ck_nI (by omega) (by omega), ck_nI (by omega) (by omega), nI_cl (by omega), nI_cl (by omega), nI_1]
  unfold f_X1_exchange
  show f_X1_exchange_l2 (996 + 1 + 1 + 1 + 1) z (nI x) (nI y) (nI 0) = _
  rw [go _ _ 0 1 (by omega) rfl, go _ _ 1 2 (by omega) rfl, go _ _ 2 3 (by omega) rfl, f_X1_exchange_l2, if_pos (show (3 : Int32) ≤ nI 3 by decide)]
def swI (a : Nat → Nat) (n x m : Nat) : Nat → Int32 × Int32 → Int32 × Int32
  | 0, s => s
  | k + 1, s => swI a n x m k (bstep s (nI (10 * x + (m - (k + 1)))) (goP 9 n (swP a x (m - (k + 1)))))
def swO (a : Nat → Nat) (n m : Nat) : Nat → Int32 × Int32 → Int32 × Int32
  | 0, s => s
  | k + 1, s => swO a n m k (swI a n (m - (k + 1)) m k s)
theorem swap6_i {a : Nat → Nat} {n x : Nat} {w : Int32} (w1 : WF a) (w2 : a 52 ≤ 999) (hn : n ≤ 60) (hx : x < a 37) {k30 : Wd → Int32 → Int32 → Int32 → Option (Int32 × Wd)} : ∀ (k fuel : Nat) (X : Wd) (s : Int32 × Int32), RZ (X 4) a → X 3 0 0 = s.1 → X 3 0 1 = s.2 → k < a 37 - x → k < fuel → ∃ X1, f_X6_swap_l46 k30 fuel X (nI n) w (nI x) (nI (a 37 - k)) = k30 X1 (nI n) w (nI (x + 1)) ∧ QX X X1 ∧ X1 3 0 0 = (swI a n x (a 37) k s).1 ∧ X1 3 0 1 = (swI a n x (a 37) k s).2 := by
  have h37 := w1.2.2.1
  intro k
  induction k with
  | zero =>
    intro fuel X s hz h1 h2 hk hf
    obtain ⟨fuel, rfl⟩ : ∃ f, fuel = f + 1 := ⟨fuel - 1, by omega⟩
    rw [f_X6_swap_l46, hz.2.2.2.2.1, if_pos (show nI (a 37) ≤ nI (a 37 - 0) from (nI_le_iff (by omega) (by omega)).mpr (by omega)), nI_1]
    exact ⟨X, rfl, QX.rf X, h1, h2⟩
  | succ k ih =>
    intro fuel X s hz h1 h2 hk hf
    obtain ⟨fuel, rfl⟩ : ∃ f, fuel = f + 1 := ⟨fuel - 1, by omega⟩
    obtain ⟨z0, b1, b2⟩ := become_ok (X 5) hz w1
    have ei : a 37 - (k + 1) + 1 = a 37 - k := by omega
    rw [f_X6_swap_l46, hz.2.2.2.2.1, if_neg (show ¬ nI (a 37) ≤ nI (a 37 - (k + 1)) by rw [nI_le_iff (by omega) (by omega)]; omega), b1, Option.bind_some]
    show ∃ X1, _ = _ ∧ QX X X1 ∧ X1 3 0 0 = (swI a n x (a 37) k (bstep s (nI (10 * x + (a 37 - (k + 1)))) (goP 9 n (swP a x (a 37 - (k + 1)))))).1 ∧ X1 3 0 1 = (swI a n x (a 37) k (bstep s (nI (10 * x + (a 37 - (k + 1)))) (goP 9 n (swP a x (a 37 - (k + 1)))))).2
    generalize hi0 : a 37 - (k + 1) = i at *
    obtain ⟨z1, e1, e2⟩ := exchange_ok b2 w1 hx (show i < a 37 by omega)
    obtain ⟨z2, p1⟩ := outsB hn e2 (swP_wf w1 (by omega) (by omega)) (by rw [swP_ne (by omega) (by omega) (by omega)]; omega)
    obtain ⟨z3, o1, o2, o3⟩ := offer_ok h1 h2 (nI (10 * x + i)) (goP 9 n (swP a x i))
    rw [e1, Option.bind_some, p1, Option.bind_some]
    dsimp only
    rw [show (10 : Int32) = nI 10 from rfl, nI_mul, nI_add, o1, Option.bind_some, nI_1]
    have qx : QX X (va_up (va_up (va_up (va_up X 5 z0) 5 z1) 5 z2) 3 z3) := (((QX.up z0 (by omega)).tr (QX.up z1 (by omega))).tr (QX.up z2 (by omega))).tr (QX.up z3 (by omega))
    have q4 : RZ ((va_up (va_up (va_up (va_up X 5 z0) 5 z1) 5 z2) 3 z3) 4) a := by rw [qx.1 4 (by omega)]; exact hz
    obtain ⟨X1, u1, u2, u3⟩ := ih fuel (va_up (va_up (va_up (va_up X 5 z0) 5 z1) 5 z2) 3 z3) _ q4 (by rw [va_up_self]; exact o2) (by rw [va_up_self]; exact o3) (by omega) (by omega)
    rw [← ei] at u1
    exact ⟨X1, u1, qx.tr u2, u3⟩
theorem swap6_l {a : Nat → Nat} {n : Nat} {w : Int32} (w1 : WF a) (w2 : a 52 ≤ 999) (hn : n ≤ 60) : ∀ (k fuel : Nat) (X : Wd) (s : Int32 × Int32), RZ (X 4) a → X 3 0 0 = s.1 → X 3 0 1 = s.2 → k ≤ a 37 → k < fuel → ∃ X1, f_X6_swap_l30 fuel X (nI n) w (nI (a 37 - k)) = some (tellP (swO a n (a 37) k s) w, X1) ∧ QX X X1 := by
  have h37 := w1.2.2.1
  intro k
  induction k with
  | zero =>
    intro fuel X s hz h1 h2 hk hf
    obtain ⟨fuel, rfl⟩ : ∃ f, fuel = f + 1 := ⟨fuel - 1, by omega⟩
    rw [f_X6_swap_l30, hz.2.2.2.2.1, if_pos (show nI (a 37) ≤ nI (a 37 - 0) from (nI_le_iff (by omega) (by omega)).mpr (by omega)), told_ok h1 h2, Option.bind_some]
    exact ⟨X, rfl, QX.rf X⟩
  | succ k ih =>
    intro fuel X s hz h1 h2 hk hf
    obtain ⟨fuel, rfl⟩ : ∃ f, fuel = f + 1 := ⟨fuel - 1, by omega⟩
    have ei : a 37 - (k + 1) + 1 = a 37 - k := by omega
    rw [f_X6_swap_l30, hz.2.2.2.2.1, if_neg (show ¬ nI (a 37) ≤ nI (a 37 - (k + 1)) by rw [nI_le_iff (by omega) (by omega)]; omega), nI_1, ei]
    obtain ⟨X1, u1, u2, u3, u4⟩ := swap6_i (w := w) w1 w2 hn (show a 37 - (k + 1) < a 37 by omega) (k30 := f_X6_swap_l30 fuel) k FUEL X s hz h1 h2 (by omega) (by unfold FUEL; omega)
    rw [u1, ei]
    obtain ⟨X2, v1, v2⟩ := ih fuel X1 (swI a n (a 37 - (k + 1)) (a 37) k s) (by rw [u2.1 4 (by omega)]; exact hz) u3 u4 (by omega) (by omega)
    exact ⟨X2, v1, u2.tr v2⟩
/-- the model's page with two changed -/
theorem mex_step {M : Ob} {a b : Nat → Nat} (hm0 : RM M 0 a) (hm : RM M 265 b) {c x y : Nat} (hc : c = 25 ∨ c = 29 ∨ c = 33) (hx : x < 4) (hy : y < 4) (e1 : b (c + x) = a (c + x)) (e2 : b (c + y) = a (c + y)) : RM (ob (ob M 1 (265 + c + x) (M 1 (c + y))) 1 (265 + c + y) ((ob M 1 (265 + c + x) (M 1 (c + y))) 1 (c + x))) 265 (swR c x y b) ∧ QM M (ob (ob M 1 (265 + c + x) (M 1 (c + y))) 1 (265 + c + y) ((ob M 1 (265 + c + x) (M 1 (c + y))) 1 (c + x))) := by
  have k1 : M 1 (c + y) = nI (a (c + y)) := by
    have := hm0.2 (c + y) (by omega) (by omega)
    rwa [Nat.zero_add] at this
  have k2 : (ob M 1 (265 + c + x) (M 1 (c + y))) 1 (c + x) = nI (a (c + x)) := by
    rw [ob_at, if_pos rfl, if_neg (by omega)]
    have := hm0.2 (c + x) (by omega) (by omega)
    rwa [Nat.zero_add] at this
  refine ⟨?_, (QM.ob1 M _ (by omega)).tr (QM.ob1 _ _ (by omega))⟩
  rw [k2, k1]
  have t1 := hm.up (a (c + y)) (k := c + x) (by omega) (by omega)
  have t2 := t1.up (a (c + x)) (k := c + y) (by omega) (by omega)
  unfold swR
  rw [e1, e2, show 265 + c + x = 265 + (c + x) from by omega, show 265 + c + y = 265 + (c + y) from by omega]
  exact t2
theorem swap7_x {a : Nat → Nat} {n x y : Nat} {w : Int32} (w1 : WF a) (w2 : a 52 ≤ 999) (hn : n ≤ 60) (hx : x < 4) (hy : y < 4) {k38 : Ob → Int32 → Int32 → Int32 → Int32 → Int32 → Option (Int32 × Ob)} {k56 : Ob → Int32 → Int32 → Int32 → Int32 → Int32 → Int32 → Option (Int32 × Ob)} {M : Ob} (s : Int32 × Int32) (hm0 : RM M 0 a) (hm : RM M 265 a) (haw : AW (M 0 16) 9) : ∃ M1, f_X7_swap_l80 k38 k56 FUEL M (nI n) w s.2 s.1 (nI x) (nI y) 25 = k56 M1 (nI n) w (bstep s (nI (10 * x + y)) (goP 9 n (swP a x y))).2 (bstep s (nI (10 * x + y)) (goP 9 n (swP a x y))).1 (nI x) (nI (y + 1)) ∧ QM M M1 := by
  have go : ∀ (f : Nat) (N : Ob) (c : Nat), c = 25 ∨ c = 29 ∨ c = 33 → f_X7_swap_l80 k38 k56 (f + 1) N (nI n) w s.2 s.1 (nI x) (nI y) (nI c) = f_X7_swap_l80 k38 k56 f (ob (ob N 1 (265 + c + x) (N 1 (c + y))) 1 (265 + c + y) ((ob N 1 (265 + c + x) (N 1 (c + y))) 1 (c + x))) (nI n) w s.2 s.1 (nI x) (nI y) (nI (c + 4)) := by
    intro f N c hc
    rw [f_X7_swap_l80, if_neg (show ¬ (37 : Int32) ≤ nI c from fun q => absurd ((nI_le_iff (a := 37) (by omega) (by omega)).mp q) (by omega))]
    simp (disch := omega) only [show (265 : Int32) = nI 265 from rfl, show (4 : Int32) = nI 4 from rfl, nI_add, ck_nI, nI_cl]
  obtain ⟨r1, q1⟩ := mex_step hm0 hm (c := 25) (by omega) hx hy rfl rfl
  generalize hN1 : ob (ob M 1 (265 + 25 + x) (M 1 (25 + y))) 1 (265 + 25 + y) ((ob M 1 (265 + 25 + x) (M 1 (25 + y))) 1 (25 + x)) = N1 at r1 q1
  have m1 : RM N1 0 a := hm0.copy (fun i hi => q1.2.2 _ (by omega))
  obtain ⟨r2, q2⟩ := mex_step m1 r1 (c := 29) (by omega) hx hy (swR_ne (by omega) (by omega)) (swR_ne (by omega) (by omega))
  generalize hN2 : ob (ob N1 1 (265 + 29 + x) (N1 1 (29 + y))) 1 (265 + 29 + y) ((ob N1 1 (265 + 29 + x) (N1 1 (29 + y))) 1 (29 + x)) = N2 at r2 q2
  have m2 : RM N2 0 a := m1.copy (fun i hi => q2.2.2 _ (by omega))
  obtain ⟨r3, q3⟩ := mex_step m2 r2 (c := 33) (by omega) hx hy (by rw [swR_ne (by omega) (by omega), swR_ne (by omega) (by omega)]) (by rw [swR_ne (by omega) (by omega), swR_ne (by omega) (by omega)])
  generalize hN3 : ob (ob N2 1 (265 + 33 + x) (N2 1 (33 + y))) 1 (265 + 33 + y) ((ob N2 1 (265 + 33 + x) (N2 1 (33 + y))) 1 (33 + x)) = N3 at r3 q3
  have qq := (q1.tr q2).tr q3
  obtain ⟨M1, d1, d2, d3⟩ := daysGo_ok (aw := 9) (n := n) (p := 265) hn (by omega) r3 (swP_wf w1 hx hy) (by show swP a x y 52 ≤ 2000; rw [swP_ne hx hy (by omega)]; omega) (by rw [qq.1 16 (by omega)]; exact haw)
  have d1' : f_X7_daysGo N3 265 (nI n) = some (goP 9 n (swP a x y), M1) := d1
  refine ⟨M1, ?_, qq.tr (d3.q (by omega))⟩
  show f_X7_swap_l80 k38 k56 (996 + 1 + 1 + 1 + 1) M (nI n) w s.2 s.1 (nI x) (nI y) (nI 25) = _
  rw [go _ _ 25 (by omega), hN1, go _ _ 29 (by omega), hN2, go _ _ 33 (by omega), hN3, f_X7_swap_l80, if_pos (show (37 : Int32) ≤ nI (33 + 4) by decide), d1', Option.bind_some]
  dsimp only
  unfold bstep f_X7_swap_b170 f_X7_swap_b184
  by_cases e : goP 9 n (swP a x y) ≤ s.2
  · rw [if_pos e, if_pos e, if_pos e, nI_1]
  · rw [if_neg e, if_neg e, if_neg e, nI_1, show (10 : Int32) = nI 10 from rfl, nI_mul, nI_add]
theorem swap7_i {a : Nat → Nat} {n x : Nat} {w : Int32} (w1 : WF a) (w2 : a 52 ≤ 999) (hn : n ≤ 60) (hx : x < a 37) {k38 : Ob → Int32 → Int32 → Int32 → Int32 → Int32 → Option (Int32 × Ob)} : ∀ (k fuel : Nat) (M : Ob) (s : Int32 × Int32), RM M 0 a → AW (M 0 16) 9 → k < a 37 - x → k < fuel → ∃ M1, f_X7_swap_l56 k38 fuel M (nI n) w s.2 s.1 (nI x) (nI (a 37 - k)) = k38 M1 (nI n) w (swI a n x (a 37) k s).2 (swI a n x (a 37) k s).1 (nI (x + 1)) ∧ QM M M1 := by
  have h37 := w1.2.2.1
  intro k
  induction k with
  | zero =>
    intro fuel M s hm haw hk hf
    obtain ⟨fuel, rfl⟩ : ∃ f, fuel = f + 1 := ⟨fuel - 1, by omega⟩
    have e37 : M 1 37 = nI (a 37) := by
      have := hm.2 37 (by omega) (by omega)
      rwa [Nat.zero_add] at this
    rw [f_X7_swap_l56, e37, if_pos (show nI (a 37) ≤ nI (a 37 - 0) from (nI_le_iff (by omega) (by omega)).mpr (by omega)), nI_1]
    exact ⟨M, rfl, QM.rf M⟩
  | succ k ih =>
    intro fuel M s hm haw hk hf
    obtain ⟨fuel, rfl⟩ : ∃ f, fuel = f + 1 := ⟨fuel - 1, by omega⟩
    have ei : a 37 - (k + 1) + 1 = a 37 - k := by omega
    have e37 : M 1 37 = nI (a 37) := by
      have := hm.2 37 (by omega) (by omega)
      rwa [Nat.zero_add] at this
    obtain ⟨M0, r0, r1, r2⟩ := copies_ok (p := 0) (q := 265) (by omega) (by omega) (by omega) M
    have r0' : f_X7_copies M 0 265 = some M0 := r0
    have qc := r1.q (by omega)
    obtain ⟨M1, s0, s1⟩ := swap7_x (w := w) w1 w2 hn (x := x) (y := a 37 - (k + 1)) (by omega) (by omega) (k38 := k38) (k56 := f_X7_swap_l56 k38 fuel) s (hm.copy (fun i hi => qc.2.2 _ (by omega))) (hm.copy r2) (by rw [qc.1 16 (by omega)]; exact haw)
    have qq := qc.tr s1
    rw [f_X7_swap_l56, e37, if_neg (show ¬ nI (a 37) ≤ nI (a 37 - (k + 1)) by rw [nI_le_iff (by omega) (by omega)]; omega), r0', Option.bind_some, s0, ei]
    obtain ⟨M2, u1, u2⟩ := ih fuel M1 (bstep s (nI (10 * x + (a 37 - (k + 1)))) (goP 9 n (swP a x (a 37 - (k + 1))))) (hm.copy (fun i hi => qq.2.2 _ (by omega))) (by rw [qq.1 16 (by omega)]; exact haw) (by omega) (by omega)
    exact ⟨M2, u1, qq.tr u2⟩
theorem swap7_l {a : Nat → Nat} {n : Nat} {w : Int32} (w1 : WF a) (w2 : a 52 ≤ 999) (hn : n ≤ 60) : ∀ (k fuel : Nat) (M : Ob) (s : Int32 × Int32), RM M 0 a → AW (M 0 16) 9 → k ≤ a 37 → k < fuel → ∃ M1, f_X7_swap_l38 fuel M (nI n) w s.2 s.1 (nI (a 37 - k)) = some (tellP (swO a n (a 37) k s) w, M1) ∧ QM M M1 := by
  have h37 := w1.2.2.1
  intro k
  induction k with
  | zero =>
    intro fuel M s hm haw hk hf
    obtain ⟨fuel, rfl⟩ : ∃ f, fuel = f + 1 := ⟨fuel - 1, by omega⟩
    have e37 : M 1 37 = nI (a 37) := by
      have := hm.2 37 (by omega) (by omega)
      rwa [Nat.zero_add] at this
    rw [f_X7_swap_l38, e37, if_pos (show nI (a 37) ≤ nI (a 37 - 0) from (nI_le_iff (by omega) (by omega)).mpr (by omega))]
    refine ⟨M, ?_, QM.rf M⟩
    unfold tellP swO f_X7_swap_b208
    by_cases e1 : s.1 = -4
    · rw [if_pos e1, if_pos e1]
    · rw [if_neg e1, if_neg e1]
      by_cases e2 : w = 0
      · rw [if_pos e2, if_pos e2]
      · rw [if_neg e2, if_neg e2]
  | succ k ih =>
    intro fuel M s hm haw hk hf
    obtain ⟨fuel, rfl⟩ : ∃ f, fuel = f + 1 := ⟨fuel - 1, by omega⟩
    have ei : a 37 - (k + 1) + 1 = a 37 - k := by omega
    have e37 : M 1 37 = nI (a 37) := by
      have := hm.2 37 (by omega) (by omega)
      rwa [Nat.zero_add] at this
    rw [f_X7_swap_l38, e37, if_neg (show ¬ nI (a 37) ≤ nI (a 37 - (k + 1)) by rw [nI_le_iff (by omega) (by omega)]; omega), nI_1, ei]
    obtain ⟨M1, u1, u2⟩ := swap7_i (w := w) w1 w2 hn (show a 37 - (k + 1) < a 37 by omega) (k38 := f_X7_swap_l38 fuel) k FUEL M s hm haw (by omega) (by unfold FUEL; omega)
    rw [u1, ei]
    obtain ⟨M2, v1, v2⟩ := ih fuel M1 (swI a n (a 37 - (k + 1)) (a 37) k s) (hm.copy (fun i hi => u2.2.2 _ (by omega))) (by rw [u2.1 16 (by omega)]; exact haw) (by omega) (by omega)
    exact ⟨M2, v1, u2.tr v2⟩
theorem T_swap {X : Wd} {M : Ob} (h : Cpl X M) (a1 a2 : Int32) : OK X M (f_X6_swap X a1 a2) (f_X7_swap M a1 a2) := by
  obtain ⟨⟨a, hp⟩, -, -, -, -, -, -, hc⟩ := id h
  have ⟨w1, w2, w3, w4⟩ := hp
  have h37 := w1.2.2.1
  unfold f_X6_swap f_X7_swap
  by_cases c : Rg a1 61
  · obtain ⟨n, hn, rfl⟩ := c
    rw [isAhead_y hn, bd1, in_y hn (by omega) (by decide), bd1]
    by_cases c2 : Rg a2 2
    · obtain ⟨k, hk, rfl⟩ := c2
      rw [isBit_y hk, bd1, in_y hk (by omega) (by decide), bd1]
      obtain ⟨X1, p1, p2⟩ := asItIs_ok w3 w1 w2 (n := n) (by omega)
      obtain ⟨z1, o1, o2, o3⟩ := above_ok (X1 3) (goP 9 n a)
      have q4 : RZ ((va_up X1 3 z1) 4) a := by rw [va_up_ne _ _ (by omega), p2.1 4 (by omega)]; exact w3
      obtain ⟨X2, u1, u2⟩ := swap6_l (w := nI k) w1 w2 (n := n) (by omega) (a 37) FUEL (va_up X1 3 z1) (-4, goP 9 n a) q4 (by rw [va_up_self]; exact o2) (by rw [va_up_self]; exact o3) (Nat.le_refl _) (by unfold FUEL; omega)
      obtain ⟨M1, d1, d2, d3⟩ := daysGo_ok (aw := 9) (n := n) (p := 0) (by omega) (by omega) w4 w1 (by omega) (Or.inl ⟨rfl, hc.1⟩)
      have qm := d3.q (by omega)
      obtain ⟨M2, v1, v2⟩ := swap7_l (w := nI k) w1 w2 (n := n) (by omega) (a 37) FUEL M1 (-4, goP 9 n a) (w4.copy (fun j hj => qm.2.2 _ (by omega))) (by rw [qm.1 16 (by omega)]; exact Or.inl ⟨rfl, hc.1⟩) (Nat.le_refl _) (by unfold FUEL; omega)
      have d1' : f_X7_daysGo M 0 (nI n) = some (goP 9 n a, M1) := d1
      rw [p1, Option.bind_some, o1, Option.bind_some, d1', Option.bind_some]
      rw [Nat.sub_self] at u1 v1
      exact OK.q h u1 v1 ((p2.tr (QX.up z1 (by omega))).tr u2) (qm.tr v2)
    · rw [isBit_n c2, bd0, in_n c2 (by omega) (by decide), bd0]
      exact OK.same h _ rfl rfl
  · rw [isAhead_n c, bd0, in_n c (by omega) (by decide), bd0]
    exact OK.same h _ rfl rfl
