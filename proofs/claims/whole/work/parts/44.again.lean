/-! days of gardeners alone; when the maze comes again -/
def mdP (c : Nat → Nat) : Nat → Nat := va_up (mowP c) 52 (c 52 + 1)
def Ag (b c : Nat → Nat) : Prop := ∀ j, (j < 39 ∨ 51 ≤ j) → b j = c j
theorem mdP_wf {a : Nat → Nat} (h : WF a) : WF (mdP a) := (mowP_wf h).day _
theorem mdP_52 (a : Nat → Nat) : mdP a 52 = a 52 + 1 := va_up_self _ _ _
theorem mowP_ne {a : Nat → Nat} (h : WF a) {j : Nat} (h1 : j < 29 ∨ 33 ≤ j) (h2 : j ≠ 38) (h3 : j ≠ 0) : mowP a j = a j := by
  rw [← mowP_cuts h]
  exact cutsP_ne h h1 h2 h3
theorem mdP_37 {a : Nat → Nat} (h : WF a) : mdP a 37 = a 37 := by
  unfold mdP
  rw [va_up_ne _ _ (by omega), mowP_ne h (by omega) (by omega) (by omega)]
theorem gard_day {z : Ob} {a : Nat → Nat} (hz : RZ z a) (h : WF a) (hd : a 52 < 2147483648) : ∃ z', f_X1_passDayOfGardeners z = some z' ∧ RZ z' (mdP a) := by
  obtain ⟨z1, q1, q2⟩ := mow_ok hz h hd
  unfold f_X1_passDayOfGardeners
  rw [q1, Option.bind_some, q2.2.2.2.1, mowP_52 h, nI_1]
  exact ⟨_, rfl, q2.day (mowP_wf h) _⟩
theorem Ag.mow {b c : Nat → Nat} (h : Ag b c) (hb : WF b) : Ag (mowP b) (mowP c) := by
  have h37 := hb.2.2.1
  intro j hj
  unfold mowP
  rw [← h 37 (by omega), ← h 52 (by omega)]
  by_cases e : b 37 = 0
  · rw [if_pos e, if_pos e]; exact h j hj
  · rw [if_neg e, if_neg e]
    have hlt := Nat.mod_lt (b 52) (show 0 < b 37 by omega)
    generalize b 52 % b 37 = g at hlt
    have eg : goalP b g = goalP c g := by
      unfold goalP
      rw [h (25 + g) (by omega), h (29 + g) (by omega), h 38 (by omega)]
    have em : madeP b g (goalP b g) = madeP c g (goalP c g) := by
      unfold madeP
      rw [eg, h (25 + g) (by omega), h 0 (by omega)]
    rw [cutP_at, cutP_at, em, eg, h (29 + g) (by omega), h (33 + g) (by omega), h 0 (by omega), h j hj]
theorem Ag.day {b c : Nat → Nat} (h : Ag b c) (hb : WF b) : Ag (dayP 9 false b) (mdP c) := by
  intro j hj
  unfold dayP mdP
  rw [vn_at, vn_at]
  by_cases e : j = 52
  · rw [if_pos e, if_pos e, h 52 (by omega)]
  · rw [if_neg e, if_neg e, walkP_ne (cutsP_wf hb 9 false) hj, mowP_cuts hb]
    exact h.mow hb j hj
def b2i (b : Bool) : Int32 := if b then 1 else 0
def tsP (c a : Nat → Nat) (n : Nat) : Nat → Bool
  | 0 => true
  | k + 1 => decide (c (29 + (n - (k + 1))) = a (29 + (n - (k + 1)))) && tsP c a n k
def lkP (c a : Nat → Nat) : Bool := (decide (c 0 = a 0) && decide (c 38 = a 38) && (decide (a 37 = 0) || decide (c 52 % a 37 = a 52 % a 37))) && tsP c a (a 37) (a 37)
theorem lastI_eq {x y : Nat} (hx : x ≤ 24) (hy : y ≤ 24) : lastI x = lastI y ↔ x = y := by
  refine ⟨fun h => ?_, fun h => by rw [h]⟩
  unfold lastI at h
  by_cases cx : x = 0
  · by_cases cy : y = 0
    · omega
    · rw [if_pos cx, if_neg cy] at h
      exact absurd h.symm (nI_ne_neg (k := 4) (by omega) (by omega) (by omega))
  · by_cases cy : y = 0
    · rw [if_neg cx, if_pos cy] at h
      exact absurd h (nI_ne_neg (k := 4) (by omega) (by omega) (by omega))
    · rw [if_neg cx, if_neg cy, nI_eq_iff (by omega) (by omega)] at h
      omega
theorem like_l {z w : Ob} {c a : Nat → Nat} (hz : RZ z c) (hw : RZ w a) (hc : WF c) (ha : WF a) (e37 : c 37 = a 37) : ∀ (k fuel : Nat), k ≤ a 37 → k < fuel → f_X1_isMownLike_l37 fuel z w (nI (a 37 - k)) = some (b2i (tsP c a (a 37) k)) := by
  have h37 := ha.2.2.1
  intro k
  induction k with
  | zero =>
    intro fuel hk hf
    obtain ⟨fuel, rfl⟩ : ∃ f, fuel = f + 1 := ⟨fuel - 1, by omega⟩
    unfold f_X1_isMownLike_l37
    rw [hz.2.2.2.2.1, e37, if_pos (show nI (a 37) ≤ nI (a 37 - 0) from (nI_le_iff (by omega) (by omega)).mpr (by omega))]
    rfl
  | succ k ih =>
    intro fuel hk hf
    obtain ⟨fuel, rfl⟩ : ∃ f, fuel = f + 1 := ⟨fuel - 1, by omega⟩
    have b1 := (hc.2.2.2.2.2.1 (a 37 - (k + 1)) (by omega)).2.1
    have b2 := (ha.2.2.2.2.2.1 (a 37 - (k + 1)) (by omega)).2.1
    unfold f_X1_isMownLike_l37 tsP
    rw [hz.2.2.2.2.1, e37, if_neg (show ¬ nI (a 37) ≤ nI (a 37 - (k + 1)) by rw [nI_le_iff (by omega) (by omega)]; omega), ck_nI (by omega) (by omega), ck_nI (by omega) (by omega), nI_cl (by omega), (hz.2.2.2.2.2.2.1 _ (by omega)).2.1, (hw.2.2.2.2.2.2.1 _ (by omega)).2.1]
    by_cases e : c (29 + (a 37 - (k + 1))) = a (29 + (a 37 - (k + 1)))
    · rw [if_pos (by rw [e]), nI_1, show a 37 - (k + 1) + 1 = a 37 - k from by omega, ih fuel (by omega) (by omega)]
      simp [e]
    · rw [if_neg (by rw [nI_eq_iff (by omega) (by omega)]; exact e)]
      simp [e, b2i]
theorem like_ok {z w : Ob} {c a : Nat → Nat} (hz : RZ z c) (hw : RZ w a) (hc : WF c) (ha : WF a) (e37 : c 37 = a 37) (d1 : c 52 < 2147483648) (d2 : a 52 < 2147483648) : f_X1_isMownLike z w = some (b2i (lkP c a)) := by
  have h37 := ha.2.2.1
  have l1 := hc.1
  have l2 := ha.1
  unfold f_X1_isMownLike lkP
  rw [hz.1, hw.1, hz.2.2.1, hw.2.2.1, todays_ok hz hc d1, todays_ok hw ha d2, Option.bind_some, Option.bind_some, e37]
  by_cases c0 : c 0 = a 0
  · rw [if_pos (by rw [c0])]
    by_cases c1 : c 38 = a 38
    · rw [if_pos (by rw [c1])]
      have hl := like_l hz hw hc ha e37 (a 37) FUEL (Nat.le_refl _) (by unfold FUEL; omega)
      rw [Nat.sub_self] at hl
      have hl' : f_X1_isMownLike_l37 FUEL z w 0 = some (b2i (tsP c a (a 37) (a 37))) := hl
      by_cases c2 : a 37 = 0
      · rw [if_pos c2, if_pos c2, if_pos rfl, hl']
        simp [c0, c1, c2]
      · rw [if_neg c2, if_neg c2]
        have m1 := Nat.mod_lt (c 52) (show 0 < a 37 by omega)
        have m2 := Nat.mod_lt (a 52) (show 0 < a 37 by omega)
        by_cases c3 : c 52 % a 37 = a 52 % a 37
        · rw [if_pos (by rw [c3]), hl']
          simp [c0, c1, c3]
        · rw [if_neg (by rw [nI_eq_iff (by omega) (by omega)]; exact c3)]
          simp [c2, c3, b2i]
    · rw [if_neg (by rw [lastI_eq hc.2.2.2.1 ha.2.2.2.1]; exact c1)]
      simp [c1, b2i]
  · rw [if_neg (by rw [nI_eq_iff (by omega) (by omega)]; exact c0)]
    simp [c0, b2i]
def agP (a : Nat → Nat) : Nat → (Nat → Nat) → Option Nat
  | 0, _ => none
  | k + 1, c => if lkP (mdP c) a = true then some (61 - (k + 1)) else agP a k (mdP c)
theorem again6_l {a : Nat → Nat} (ha : WF a) (d2 : a 52 < 2147483648) : ∀ (k fuel : Nat) (X : Wd) (c : Nat → Nat), RZ (X 5) c → WF c → RZ (X 4) a → c 37 = a 37 → c 52 + k ≤ 2000 → k ≤ 60 → k < fuel → ∃ z, f_X6_again_l13 fuel X (nI (61 - k)) = some (noI (agP a k c), va_up X 5 z) := by
  intro k
  induction k with
  | zero =>
    intro fuel X c hz h hw e37 hd hk hf
    obtain ⟨fuel, rfl⟩ : ∃ f, fuel = f + 1 := ⟨fuel - 1, by omega⟩
    unfold f_X6_again_l13
    rw [if_pos (show (60 : Int32) < nI (61 - 0) from (nI_lt_iff (a := 60) (by omega) (by omega)).mpr (by omega))]
    exact ⟨X 5, by rw [lens_all]; rfl⟩
  | succ k ih =>
    intro fuel X c hz h hw e37 hd hk hf
    obtain ⟨fuel, rfl⟩ : ∃ f, fuel = f + 1 := ⟨fuel - 1, by omega⟩
    obtain ⟨z1, q1, q2⟩ := gard_day hz h (by omega)
    have em : mdP c 37 = a 37 := by rw [mdP_37 h]; exact e37
    unfold f_X6_again_l13 agP
    rw [if_neg (show ¬ (60 : Int32) < nI (61 - (k + 1)) from fun q => absurd ((nI_lt_iff (a := 60) (by omega) (by omega)).mp q) (by omega)), q1, Option.bind_some, like_ok q2 hw (mdP_wf h) ha em (by rw [mdP_52]; omega) d2, Option.bind_some]
    by_cases e : lkP (mdP c) a = true
    · rw [if_pos e, e, if_neg (show ¬ b2i true = 0 by decide)]
      exact ⟨z1, rfl⟩
    · have e' : lkP (mdP c) a = false := by simpa using e
      rw [if_neg e, e', if_pos (show b2i false = 0 by decide), nI_1, show 61 - (k + 1) + 1 = 61 - k from by omega]
      obtain ⟨z, r⟩ := ih fuel (va_up X 5 z1) (mdP c) (by rw [va_up_self]; exact q2) (mdP_wf h) (by rw [va_up_ne _ _ (by omega)]; exact hw) em (by rw [mdP_52]; omega) (by omega) (by omega)
      exact ⟨z, by rw [r, lens_up]⟩
theorem mlike_l {M : Ob} {b a : Nat → Nat} (hm : RM M 212 b) (hm0 : RM M 0 a) (hb : WF b) (ha : WF a) {k18 : Ob → Int32 → Int32 → Option (Int32 × Ob)} {x2 : Int32} : ∀ (k fuel : Nat) (s : Bool), k ≤ a 37 → k < fuel → f_X7_again_l84 k18 fuel M (nI (a 37)) x2 (b2i s) (nI (a 37 - k)) = if (s && tsP b a (a 37) k) = true then some (x2, M) else k18 M (nI (a 37)) (x2 + 1) := by
  have h37 := ha.2.2.1
  intro k
  induction k with
  | zero =>
    intro fuel s hk hf
    obtain ⟨fuel, rfl⟩ : ∃ f, fuel = f + 1 := ⟨fuel - 1, by omega⟩
    unfold f_X7_again_l84 tsP
    rw [if_pos (show nI (a 37) ≤ nI (a 37 - 0) from (nI_le_iff (by omega) (by omega)).mpr (by omega))]
    cases s
    · rw [if_pos (show b2i false = 0 by decide)]; rfl
    · rw [if_neg (show ¬ b2i true = 0 by decide)]; rfl
  | succ k ih =>
    intro fuel s hk hf
    obtain ⟨fuel, rfl⟩ : ∃ f, fuel = f + 1 := ⟨fuel - 1, by omega⟩
    have b1 := (hb.2.2.2.2.2.1 (a 37 - (k + 1)) (by omega)).2.1
    have b2 := (ha.2.2.2.2.2.1 (a 37 - (k + 1)) (by omega)).2.1
    have e1 : M 1 (241 + (a 37 - (k + 1))) = nI (b (29 + (a 37 - (k + 1)))) := by
      rw [show 241 + (a 37 - (k + 1)) = 212 + (29 + (a 37 - (k + 1))) from by omega]; exact hm.2 _ (by omega) (by omega)
    have e2 : M 1 (29 + (a 37 - (k + 1))) = nI (a (29 + (a 37 - (k + 1)))) := by
      have := hm0.2 (29 + (a 37 - (k + 1))) (by omega) (by omega)
      rwa [Nat.zero_add] at this
    unfold f_X7_again_l84 tsP
    rw [if_neg (show ¬ nI (a 37) ≤ nI (a 37 - (k + 1)) by rw [nI_le_iff (by omega) (by omega)]; omega)]
    have i0 := ih fuel false (by omega) (by omega)
    have i1 := ih fuel true (by omega) (by omega)
    rw [show b2i false = (0 : Int32) from rfl] at i0
    rw [show b2i true = (1 : Int32) from rfl] at i1
    unfold f_X7_again_b122 f_X7_again_b123
    rw [nI_1, show a 37 - (k + 1) + 1 = a 37 - k from by omega, i0, i1, show (241 : Int32) = nI 241 from rfl, show (29 : Int32) = nI 29 from rfl, nI_add, nI_add, ck_nI (by omega) (by omega), ck_nI (by omega) (by omega), nI_cl (by omega), nI_cl (by omega), e1, e2]
    cases s
    · rw [if_pos (show b2i false = 0 by decide)]; rfl
    · rw [if_neg (show ¬ b2i true = 0 by decide)]
      by_cases e : b (29 + (a 37 - (k + 1))) = a (29 + (a 37 - (k + 1)))
      · rw [if_pos (by rw [e])]; simp [e]
      · rw [if_neg (by rw [nI_eq_iff (by omega) (by omega)]; exact e)]; simp [e]
theorem modk {m x d : Nat} (hm : 0 < m) (hm4 : m ≤ 4) : (x + d) % m = x % m ↔ d % m = 0 := by
  rcases (show m = 1 ∨ m = 2 ∨ m = 3 ∨ m = 4 by omega) with rfl | rfl | rfl | rfl <;> omega
theorem tsP_cong {b c a : Nat → Nat} {n : Nat} (hn : n ≤ 4) (h : Ag b c) : ∀ k, k ≤ n → tsP b a n k = tsP c a n k
  | 0, _ => rfl
  | k + 1, hk => by
    unfold tsP
    rw [h (29 + (n - (k + 1))) (by omega), tsP_cong hn h k (by omega)]
theorem again7_l {a : Nat → Nat} (ha : WF a) (hd : a 52 ≤ 999) : ∀ (k fuel : Nat) (M : Ob) (b c : Nat → Nat), Ag b c → RM M 212 b → RM M 0 a → WF b → b 37 = a 37 → b 52 = a 52 + (60 - k) → AW (M 0 16) 9 → k ≤ 60 → k < fuel → ∃ M1, f_X7_again_l18 fuel M (nI (a 37)) (nI (61 - k)) = some (noI (agP a k c), M1) ∧ QM M M1 := by
  have h37 := ha.2.2.1
  intro k
  induction k with
  | zero =>
    intro fuel M b c hA hm hm0 h e37 e52 haw hk hf
    obtain ⟨fuel, rfl⟩ : ∃ f, fuel = f + 1 := ⟨fuel - 1, by omega⟩
    unfold f_X7_again_l18
    rw [if_pos (show (60 : Int32) < nI (61 - 0) from (nI_lt_iff (a := 60) (by omega) (by omega)).mpr (by omega))]
    exact ⟨M, rfl, QM.rf M⟩
  | succ k ih =>
    intro fuel M b c hA hm hm0 h e37 e52 haw hk hf
    obtain ⟨fuel, rfl⟩ : ∃ f, fuel = f + 1 := ⟨fuel - 1, by omega⟩
    obtain ⟨M1, q1, q2, q3⟩ := dayOn_ok (p := 212) (by omega) hm h (by omega) haw false
    have q1' : f_X7_dayOn M 212 0 = some M1 := q1
    have qm := q3.q (by omega)
    have hA2 := hA.day h
    have hm2 : RM M1 0 a := hm0.copy (fun i hi => qm.2.2 _ (by omega))
    have hw2 := dayP_wf h 9 false
    have n37 : dayP 9 false b 37 = a 37 := by rw [dayP_ne h (by omega) (by omega) (by omega) (by omega) (by omega)]; exact e37
    have n52 : dayP 9 false b 52 = a 52 + (60 - k) := by rw [dayP_52]; omega
    generalize dayP 9 false b = b2 at *
    have hi : ∃ M2, f_X7_again_l18 fuel M1 (nI (a 37)) (nI (61 - (k + 1)) + 1) = some (noI (agP a k (mdP c)), M2) ∧ QM M M2 := by
      obtain ⟨M2, r1, r2⟩ := ih fuel M1 b2 (mdP c) hA2 q2 hm2 hw2 n37 n52 (by rw [qm.1 16 (by omega)]; exact haw) (by omega) (by omega)
      exact ⟨M2, by rw [nI_1, show 61 - (k + 1) + 1 = 61 - k from by omega]; exact r1, qm.tr r2⟩
    have fin : ∀ s : Bool, s = (decide (b2 0 = a 0) && decide (b2 38 = a 38) && (decide (a 37 = 0) || decide (b2 52 % a 37 = a 52 % a 37))) → ∃ M2, f_X7_again_l84 (f_X7_again_l18 fuel) FUEL M1 (nI (a 37)) (nI (61 - (k + 1))) (b2i s) 0 = some (noI (agP a (k + 1) c), M2) ∧ QM M M2 := by
      intro s hs
      have hl := mlike_l (k18 := f_X7_again_l18 fuel) (x2 := nI (61 - (k + 1))) q2 hm2 hw2 ha (a 37) FUEL s (Nat.le_refl _) (by unfold FUEL; omega)
      rw [Nat.sub_self] at hl
      have hl' : f_X7_again_l84 (f_X7_again_l18 fuel) FUEL M1 (nI (a 37)) (nI (61 - (k + 1))) (b2i s) 0 = _ := hl
      rw [hl']
      have el : (s && tsP b2 a (a 37) (a 37)) = lkP (mdP c) a := by
        unfold lkP
        rw [hs, tsP_cong h37 hA2 _ (Nat.le_refl _), hA2 0 (by omega), hA2 38 (by omega), hA2 52 (by omega)]
      rw [el]
      unfold agP
      by_cases e : lkP (mdP c) a = true
      · rw [if_pos e, if_pos e]
        exact ⟨M1, rfl, qm⟩
      · rw [if_neg e, if_neg e]
        exact hi
    have l1 := hw2.1
    have l2 := ha.1
    have l3 := hw2.2.2.2.1
    have l4 := ha.2.2.2.1
    have e250 : M1 1 250 = nI (b2 38) := q2.2 38 (by omega) (by omega)
    have e38 : M1 1 38 = nI (a 38) := by
      have := hm2.2 38 (by omega) (by omega)
      rwa [Nat.zero_add] at this
    unfold f_X7_again_l18 f_X7_again_b75 f_X7_again_b79 f_X7_again_b80
    rw [if_neg (show ¬ (60 : Int32) < nI (61 - (k + 1)) from fun q => absurd ((nI_lt_iff (a := 60) (by omega) (by omega)).mp q) (by omega)), q1', Option.bind_some]
    have s1 : f_X7_standOn M1 212 = some (nI (b2 0)) := standOn_ok (p := 212) q2.1 (by omega) l1
    have s2 : f_X7_standOn M1 0 = some (nI (a 0)) := standOn_ok (p := 0) hm2.1 (by omega) l2
    rw [s1, Option.bind_some, s2, Option.bind_some, e250, e38]
    by_cases c0 : b2 0 = a 0
    · rw [if_pos (by rw [c0])]
      by_cases c1 : b2 38 = a 38
      · rw [if_pos (by rw [c1])]
        by_cases c2 : a 37 = 0
        · rw [if_pos (show nI (a 37) = 0 by rw [c2]; rfl)]
          exact fin true (by simp [c0, c1, c2])
        · rw [if_neg (show ¬ nI (a 37) = 0 from nI_ne0 (by omega) (by omega)), ckn_nI (by omega) (by omega), nI_rem (by omega) (by omega)]
          have mk := modk (x := a 52) (d := 60 - k) (show 0 < a 37 by omega) h37
          have e60 : 61 - (k + 1) = 60 - k := by omega
          rw [e60] at fin ⊢
          have ml := Nat.mod_lt (60 - k) (show 0 < a 37 by omega)
          by_cases c3 : (60 - k) % a 37 = 0
          · rw [if_pos (show nI ((60 - k) % a 37) = 0 by rw [c3]; rfl)]
            exact fin true (by rw [n52]; simp [c0, c1, mk.mpr c3])
          · rw [if_neg (show ¬ nI ((60 - k) % a 37) = 0 from nI_ne0 (by omega) (by omega))]
            exact fin false (by rw [n52]; simp [c2]; intro _ _ q; exact absurd (mk.mp q) c3)
      · rw [if_neg (show ¬ nI (b2 38) = nI (a 38) by rw [nI_eq_iff (by omega) (by omega)]; exact c1)]
        exact fin false (by simp [c1])
    · rw [if_neg (show ¬ nI (b2 0) = nI (a 0) by rw [nI_eq_iff (by omega) (by omega)]; exact c0)]
      exact fin false (by simp [c0])
theorem T_again {X : Wd} {M : Ob} (h : Cpl X M) : OK X M (f_X6_again X) (f_X7_again M) := by
  obtain ⟨⟨a, hp⟩, -, -, -, -, -, -, hc⟩ := id h
  have ⟨w1, w2, w3, w4⟩ := hp
  unfold f_X6_again f_X7_again
  obtain ⟨z0, b1, b2⟩ := become_ok (X 5) w3 w1
  obtain ⟨z1, t1⟩ := again6_l w1 (by omega) 60 FUEL (va_up X 5 z0) a (by rw [va_up_self]; exact b2) w1 (by rw [va_up_ne _ _ (by omega)]; exact w3) rfl (by omega) (by omega) (by unfold FUEL; omega)
  obtain ⟨M0, r0, r1, r2⟩ := copies_ok (p := 0) (q := 212) (by omega) (by omega) (by omega) M
  have hm0 : RM M0 0 a := w4.copy (fun i hi => r1.2 _ (by omega))
  obtain ⟨M1, s0, s1⟩ := again7_l w1 w2 60 FUEL M0 a a (fun _ _ => rfl) (w4.copy r2) hm0 w1 rfl rfl (by rw [r1.1 0 (by decide)]; exact Or.inl ⟨rfl, hc.1⟩) (by omega) (by unfold FUEL; omega)
  have r0' : f_X7_copies M 0 212 = some M0 := r0
  have e37 : M0 1 37 = nI (a 37) := by
    have := hm0.2 37 (by omega) (by omega)
    rwa [Nat.zero_add] at this
  rw [b1, Option.bind_some, r0', Option.bind_some, e37]
  exact OK.q h t1 s0 ((QX.up z0 (by omega)).tr (QX.up z1 (by omega))) ((r1.q (by omega)).tr s1)
