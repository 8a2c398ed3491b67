/-! days, runs, ahead, stands, out -/
theorem it_ne {aw : Nat} {rain : Bool} {j : Nat} (h1 : j < 29 ∨ 33 ≤ j) (h2 : j ≠ 38) (h3 : j ≠ 0) (h4 : j < 39 ∨ 51 ≤ j) (h5 : j ≠ 52) : ∀ (n : Nat) (a : Nat → Nat), WF a → itP (dayP aw rain) n a j = a j
  | 0, _, _ => rfl
  | n + 1, a, h => by
    show itP (dayP aw rain) n (dayP aw rain a) j = a j
    rw [it_ne h1 h2 h3 h4 h5 n _ (dayP_wf h aw rain), dayP_ne h h1 h2 h3 h4 h5]
theorem it_52 {aw : Nat} {rain : Bool} : ∀ (n : Nat) (a : Nat → Nat), itP (dayP aw rain) n a 52 = a 52 + n
  | 0, _ => rfl
  | n + 1, a => by
    show itP (dayP aw rain) n (dayP aw rain a) 52 = _
    rw [it_52 n, dayP_52]
    omega
theorem it_succ {f : (Nat → Nat) → Nat → Nat} : ∀ (n : Nat) (a : Nat → Nat), itP f (n + 1) a = f (itP f n a)
  | 0, _ => rfl
  | n + 1, a => by
    show itP f (n + 1) (f a) = _
    rw [it_succ n (f a)]
    rfl
theorem mouts {M : Ob} {p : Nat} {a : Nat → Nat} (hm : RM M p a) (hp : p ≤ 265) (h : WF a) {α : Type} {k : Int32 → Option α} : ((f_X7_guestsOn M (nI p) (nI 1)).bind fun q => (f_X7_bitsOf q).bind k) = k (nI (outP a)) := by
  rw [guestsOn_ok hm hp h (by omega), Option.bind_some, bitsOf4 (whP_lt h.2.2.2.2.1 _ _ (Nat.le_refl _) (by omega)), Option.bind_some]
  rfl
theorem days_l {n : Nat} (hn : n ≤ 30) {x : Int32} : ∀ (k fuel : Nat) (M : Ob) (a : Nat → Nat), RM M 0 a → WF a → a 52 + k < 2147483647 → AW (M 0 16) 9 → k ≤ n → k < fuel → ∃ M', f_X7_days_l44 fuel M (nI n) x (nI (n - k)) = some (nI (outP (itP (dayP 9 false) k a)) - x, M') ∧ RM M' 0 (itP (dayP 9 false) k a) ∧ FrM M M' 0 := by
  intro k
  induction k with
  | zero =>
    intro fuel M a hm h hd haw hk hf
    obtain ⟨fuel, rfl⟩ : ∃ f, fuel = f + 1 := ⟨fuel - 1, by omega⟩
    unfold f_X7_days_l44
    rw [if_pos (by rw [nI_le_iff (by omega) (by omega)]; omega), fa_lit 0, fa_lit 1, mouts hm (by omega) h]
    exact ⟨M, rfl, hm, FrM.rf M 0⟩
  | succ k ih =>
    intro fuel M a hm h hd haw hk hf
    obtain ⟨fuel, rfl⟩ : ∃ f, fuel = f + 1 := ⟨fuel - 1, by omega⟩
    obtain ⟨M1, q1, q2, q3⟩ := dayOn_ok (p := 0) (by omega) hm h (by omega) haw false
    unfold f_X7_days_l44
    rw [if_neg (by rw [nI_le_iff (by omega) (by omega)]; omega), fa_lit 0]
    have q1' : f_X7_dayOn M (nI 0) (nI 0) = some M1 := q1
    rw [q1', Option.bind_some, nI_1, show n - (k + 1) + 1 = n - k from by omega]
    obtain ⟨M2, r1, r2, r3⟩ := ih fuel M1 (dayP 9 false a) q2 (dayP_wf h 9 false) (by rw [dayP_52]; omega) (by rw [q3.1 0 (by decide) (by decide)]; exact haw) (by omega) (by omega)
    exact ⟨M2, r1, r2, q3.tr r3⟩
theorem T_days {X : Wd} {M : Ob} (h : Cpl X M) (a1 : Int32) : OK X M (f_X6_days X a1) (f_X7_days M a1) := by
  obtain ⟨⟨a, hp⟩, -, -, -, -, -, -, hc⟩ := id h
  have ⟨w1, w2, w3, w4⟩ := hp
  unfold f_X6_days f_X7_days
  by_cases c : Rg a1 31
  · obtain ⟨n, hn, rfl⟩ := c
    rw [show (30 : Int32) = nI 30 from rfl, gC_y hn (by omega), in_y hn (by omega) (by decide), bd1, w3.2.2.2.1, hp.m (by omega) (by omega), nI_add, show (1000 : Int32) = nI 1000 from rfl, show (999 : Int32) = nI 999 from rfl]
    by_cases c2 : a 52 + n < 1000
    · rw [if_pos (by rw [nI_lt_iff (by omega) (by omega)]; omega), if_pos (by rw [nI_le_iff (by omega) (by omega)]; omega)]
      obtain ⟨z1, p1, p2, p3⟩ := passDays_ok (n := n) (by omega) w3 w1 (by omega)
      rw [outs_ok w3 w1, Option.bind_some, p1, Option.bind_some, outs_ok p2 p3, Option.bind_some, fa_lit 0, fa_lit 1, mouts w4 (by omega) w1]
      obtain ⟨M1, r1, r2, r3⟩ := days_l (n := n) (x := nI (outP a)) (by omega) n FUEL M a w4 w1 (by omega) (Or.inl ⟨rfl, hc.1⟩) (Nat.le_refl _) (by unfold FUEL; omega)
      rw [Nat.sub_self] at r1
      exact OK.page h rfl r1 p3 (by rw [it_52]; omega) p2 r2 r3
    · rw [if_neg (by rw [nI_lt_iff (by omega) (by omega)]; omega), if_neg (by rw [nI_le_iff (by omega) (by omega)]; omega)]
      exact OK.same h _ rfl rfl
  · rw [show (30 : Int32) = nI 30 from rfl, gC_n c (by omega), in_n c (by omega) (by decide), bd0]
    exact OK.same h _ rfl rfl
theorem T_runs {X : Wd} {M : Ob} (h : Cpl X M) (a1 a2 : Int32) : OK X M (f_X6_runs X a1 a2) (f_X7_runs M a1 a2) := by
  obtain ⟨⟨a, hp⟩, -, -, -, -, -, -, hc⟩ := id h
  have ⟨w1, w2, w3, w4⟩ := hp
  unfold f_X6_runs f_X7_runs
  by_cases c : Rg a1 61
  · obtain ⟨n, hn, rfl⟩ := c
    rw [isAhead_y hn, bd1, in_y hn (by omega) (by decide), bd1]
    by_cases c2 : Rg a2 4
    · obtain ⟨k, hk, rfl⟩ := c2
      rw [show (3 : Int32) = nI 3 from rfl, gC_y hk (by omega), in_y hk (by omega) (by decide), bd1]
      obtain ⟨z0, b1, b2⟩ := become_ok (X 5) w3 w1
      obtain ⟨z1, p1, p2, p3⟩ := passDays_ok (n := n) (by omega) b2 w1 (by omega)
      obtain ⟨M1, r1, r2, r3⟩ := daysGo_ok (n := n) (p := 0) (by omega) (by omega) w4 w1 (by omega) (Or.inl ⟨rfl, hc.1⟩)
      have qx : QX X (va_up (va_up X 5 z0) 5 z1) := (QX.up z0 (by omega)).tr (QX.up z1 (by omega))
      have qm := r3.q (by omega)
      have l1 : (0 : Int32) = nI 0 := rfl
      have l2 : (1 : Int32) = nI 1 := rfl
      have l3 : (2 : Int32) = nI 2 := rfl
      have l4 : (212 : Int32) = nI 212 := rfl
      rw [b1, Option.bind_some, p1, Option.bind_some, l1, r1, Option.bind_some, l2, l3, l4]
      dsimp only
      rcases (show k = 0 ∨ k = 1 ∨ k = 2 ∨ k = 3 by omega) with rfl | rfl | rfl | rfl
      · rw [if_pos rfl, if_pos rfl, outs_ok p2 p3, Option.bind_some]
        exact OK.q h rfl rfl qx qm
      · have e0 : ¬ nI 1 = nI 0 := by decide
        rw [if_neg e0, if_neg e0, if_pos rfl, if_pos rfl, whoIs_ok p2 p3 (by omega), guestsOn_ok r2 (by omega) p3 (by omega), Option.bind_some, Option.bind_some]
        exact OK.q h rfl rfl qx qm
      · have e0 : ¬ nI 2 = nI 0 := by decide
        have e1 : ¬ nI 2 = nI 1 := by decide
        rw [if_neg e0, if_neg e0, if_neg e1, if_neg e1, if_pos rfl, if_pos rfl, p2.1, bitCount_ok p3.1, standOn_ok r2.1 (by omega) p3.1, Option.bind_some, Option.bind_some, bitsOf_ok p3.1, Option.bind_some]
        exact OK.q h rfl rfl qx qm
      · have e0 : ¬ nI 3 = nI 0 := by decide
        have e1 : ¬ nI 3 = nI 1 := by decide
        have e2 : ¬ nI 3 = nI 2 := by decide
        rw [if_neg e0, if_neg e0, if_neg e1, if_neg e1, if_neg e2, if_neg e2, p2.2.2.1, lastOn_ok r2 (by omega) p3, Option.bind_some]
        exact OK.q h rfl rfl qx qm
    · rw [show (3 : Int32) = nI 3 from rfl, gC_n c2 (by omega), in_n c2 (by omega) (by decide), bd0]
      exact OK.same h _ rfl rfl
  · rw [isAhead_n c, bd0, in_n c (by omega) (by decide), bd0]
    exact OK.same h _ rfl rfl
theorem T_ahead {X : Wd} {M : Ob} (h : Cpl X M) (a1 a2 a3 : Int32) : OK X M (f_X6_ahead X a1 a2 a3) (f_X7_ahead M a1 a2 a3) := by
  obtain ⟨⟨a, hp⟩, -, -, -, -, -, -, hc⟩ := id h
  have ⟨w1, w2, w3, w4⟩ := hp
  have h51 := w1.2.2.2.2.1
  have z8 := w3.2.2.2.2.2.1
  have e51 := hp.m (k := 51) (by omega) (by omega)
  unfold f_X6_ahead f_X7_ahead
  by_cases c0 : Rg a1 (a 51)
  · obtain ⟨i, hi, rfl⟩ := c0
    rw [isGuest_y z8 hi h51, bd1, mGuest_y e51 hi h51, bd1]
    by_cases c : Rg a2 61
    · obtain ⟨n, hn, rfl⟩ := c
      rw [isAhead_y hn, bd1, in_y hn (by omega) (by decide), bd1]
      by_cases c2 : Rg a3 3
      · obtain ⟨k, hk, rfl⟩ := c2
        rw [show (2 : Int32) = nI 2 from rfl, gC_y hk (by omega), in_y hk (by omega) (by decide), bd1]
        obtain ⟨z0, b1, b2⟩ := become_ok (X 5) w3 w1
        obtain ⟨z1, p1, p2, p3⟩ := passDays_ok (n := n) (by omega) b2 w1 (by omega)
        obtain ⟨M1, r1, r2, r3⟩ := daysGo_ok (n := n) (p := 0) (by omega) (by omega) w4 w1 (by omega) (Or.inl ⟨rfl, hc.1⟩)
        have qx : QX X (va_up (va_up X 5 z0) 5 z1) := (QX.up z0 (by omega)).tr (QX.up z1 (by omega))
        have qm := r3.q (by omega)
        have hi2 : i < itP (dayP 9 false) n a 51 := by rw [it_ne (by omega) (by omega) (by omega) (by omega) (by omega) n a w1]; exact hi
        obtain ⟨g1, g2, g3⟩ := p2.2.2.2.2.2.2.2 i hi2
        rw [b1, Option.bind_some, p1, Option.bind_some, show (0 : Int32) = nI 0 from rfl, r1, Option.bind_some]
        dsimp only
        rw [show (251 : Int32) = nI 251 from rfl, show (4 : Int32) = nI 4 from rfl, nI_mul, nI_add, nI_add, ck_nI (by omega) (by omega), nI_cl (by omega)]
        have hr : ∀ j, 24 ≤ j → j < 53 → M1 1 (212 + j) = nI (itP (dayP 9 false) n a j) := r2.2
        rcases (show k = 0 ∨ k = 1 ∨ k = 2 by omega) with rfl | rfl | rfl
        · unfold f_X1_lot
          rw [if_pos (by decide), Option.bind_some, ck_nI (by omega) (by omega), nI_cl (by omega), g1, show 251 + 4 * 0 + i = 212 + (39 + i) from by omega, hr _ (by omega) (by omega)]
          exact OK.q h rfl rfl qx qm
        · unfold f_X1_lot
          rw [if_neg (by decide), if_pos (by decide), Option.bind_some, ck_nI (by omega) (by omega), nI_cl (by omega), g2, show 251 + 4 * 1 + i = 212 + (43 + i) from by omega, hr _ (by omega) (by omega)]
          exact OK.q h rfl rfl qx qm
        · unfold f_X1_lot
          rw [if_neg (by decide), if_neg (by decide), Option.bind_some, ck_nI (by omega) (by omega), nI_cl (by omega), g3, show 251 + 4 * 2 + i = 212 + (47 + i) from by omega, hr _ (by omega) (by omega)]
          exact OK.q h rfl rfl qx qm
      · rw [show (2 : Int32) = nI 2 from rfl, gC_n c2 (by omega), in_n c2 (by omega) (by decide), bd0]
        exact OK.same h _ rfl rfl
    · rw [isAhead_n c, bd0, in_n c (by omega) (by decide), bd0]
      exact OK.same h _ rfl rfl
  · rw [isGuest_n z8 c0 h51, bd0, mGuest_n e51 c0 h51, bd0]
    exact OK.same h _ rfl rfl
theorem T_stands {X : Wd} {M : Ob} (h : Cpl X M) (a1 a2 : Int32) : OK X M (f_X6_stands X a1 a2) (f_X7_stands M a1 a2) := by
  obtain ⟨⟨a, hp⟩, -, -, -, -, -, -, hc⟩ := id h
  have ⟨w1, w2, w3, w4⟩ := hp
  unfold f_X6_stands f_X7_stands
  by_cases c0 : Rg a1 24
  · obtain ⟨i, hi, rfl⟩ := c0
    rw [isHedge_y hi, bd1, mHedge_y hi, bd1]
    by_cases c : Rg a2 61
    · obtain ⟨n, hn, rfl⟩ := c
      rw [isAhead_y hn, bd1, in_y hn (by omega) (by decide), bd1]
      obtain ⟨z0, b1, b2⟩ := become_ok (X 5) w3 w1
      obtain ⟨z1, p1, p2, p3⟩ := passDays_ok (n := n) (by omega) b2 w1 (by omega)
      obtain ⟨M1, r1, r2, r3⟩ := daysGo_ok (n := n) (p := 0) (by omega) (by omega) w4 w1 (by omega) (Or.inl ⟨rfl, hc.1⟩)
      have qx : QX X (va_up (va_up X 5 z0) 5 z1) := (QX.up z0 (by omega)).tr (QX.up z1 (by omega))
      have qm := r3.q (by omega)
      rw [b1, Option.bind_some, p1, Option.bind_some, show (0 : Int32) = nI 0 from rfl, r1, Option.bind_some, standing_ok p2.1 p3.1 hi, Option.bind_some]
      dsimp only
      rw [show (212 : Int32) = nI 212 from rfl, nI_add, ck_nI (by omega) (by omega), nI_cl (by omega), r2.1 i hi]
      exact OK.q h rfl rfl qx qm
    · rw [isAhead_n c, bd0, in_n c (by omega) (by decide), bd0]
      exact OK.same h _ rfl rfl
  · rw [isHedge_n c0, bd0, mHedge_n c0, bd0]
    exact OK.same h _ rfl rfl
/-- behind how many days one is OUT first, at most up to k more; none: 61 -/
def tillP (i : Nat) : Nat → (Nat → Nat) → Option Nat
  | 0, _ => none
  | k + 1, a => if a (47 + i) = 1 then some (61 - (k + 1)) else tillP i k (dayP 9 false a)
def noI (o : Option Nat) : Int32 := match o with
  | none => -4
  | some k => nI k
theorem till_l {i : Nat} : ∀ (k fuel : Nat) (X : Wd) (a : Nat → Nat), RZ (X 5) a → WF a → i < a 51 → a 52 + k ≤ 2000 → k ≤ 61 → k < fuel → ∃ z, f_X6_daysTillOut_l2 fuel X (nI i) (nI (61 - k)) = some (noI (tillP i k a), va_up X 5 z) := by
  intro k
  induction k with
  | zero =>
    intro fuel X a hz h hi hd hk hf
    obtain ⟨fuel, rfl⟩ : ∃ f, fuel = f + 1 := ⟨fuel - 1, by omega⟩
    unfold f_X6_daysTillOut_l2
    rw [if_pos (by rw [show (60 : Int32) = nI 60 from rfl, nI_lt_iff (by omega) (by omega)]; omega)]
    exact ⟨X 5, by rw [lens_all]; rfl⟩
  | succ k ih =>
    intro fuel X a hz h hi hd hk hf
    obtain ⟨fuel, rfl⟩ : ∃ f, fuel = f + 1 := ⟨fuel - 1, by omega⟩
    have h51 := h.2.2.2.2.1
    have hb := (h.2.2.2.2.2.2 i (by omega)).2.2
    unfold f_X6_daysTillOut_l2
    rw [if_neg (by rw [show (60 : Int32) = nI 60 from rfl, nI_lt_iff (by omega) (by omega)]; omega), ck_nI (by omega) (by omega), nI_cl (by omega), (hz.2.2.2.2.2.2.2 i hi).2.2]
    unfold tillP
    by_cases c : a (47 + i) = 1
    · rw [if_pos (by rw [c]; rfl), if_pos c]
      exact ⟨X 5, by rw [lens_all]; rfl⟩
    · rw [if_neg (by rw [show (1 : Int32) = nI 1 from rfl, nI_eq_iff (by omega) (by omega)]; exact c), if_neg c]
      obtain ⟨z1, p1, p2, p3⟩ := passDays_ok (n := 1) (by omega) hz h (by omega)
      have p1' : f_X1_passDays (X 5) 1 = some z1 := p1
      rw [p1', Option.bind_some, nI_1, show 61 - (k + 1) + 1 = 61 - k from by omega]
      obtain ⟨z, q⟩ := ih fuel (va_up X 5 z1) (dayP 9 false a) (by rw [va_up_self]; exact p2) p3 (by rw [dayP_ne h (by omega) (by omega) (by omega) (by omega) (by omega)]; exact hi) (by rw [dayP_52]; omega) (by omega) (by omega)
      exact ⟨z, by rw [q, lens_up]⟩
theorem mout_l {i : Nat} : ∀ (k fuel : Nat) (M : Ob) (a : Nat → Nat), RM M 212 a → WF a → i < a 51 → a 52 + k ≤ 2000 → AW (M 0 16) 9 → k ≤ 61 → k < fuel → ∃ M1, f_X7_out_l20 fuel M (nI i) (nI (61 - k)) = some (noI (tillP i k a), M1) ∧ FrM M M1 212 := by
  intro k
  induction k with
  | zero =>
    intro fuel M a hm h hi hd haw hk hf
    obtain ⟨fuel, rfl⟩ : ∃ f, fuel = f + 1 := ⟨fuel - 1, by omega⟩
    unfold f_X7_out_l20
    rw [if_pos (by rw [show (60 : Int32) = nI 60 from rfl, nI_lt_iff (by omega) (by omega)]; omega)]
    exact ⟨M, rfl, FrM.rf M _⟩
  | succ k ih =>
    intro fuel M a hm h hi hd haw hk hf
    obtain ⟨fuel, rfl⟩ : ∃ f, fuel = f + 1 := ⟨fuel - 1, by omega⟩
    have h51 := h.2.2.2.2.1
    have hb := (h.2.2.2.2.2.2 i (by omega)).2.2
    unfold f_X7_out_l20
    rw [if_neg (by rw [show (60 : Int32) = nI 60 from rfl, nI_lt_iff (by omega) (by omega)]; omega), show (259 : Int32) = nI 259 from rfl, nI_add, ck_nI (by omega) (by omega), nI_cl (by omega), show 259 + i = 212 + (47 + i) from by omega, hm.2 _ (by omega) (by omega)]
    unfold tillP
    by_cases c : a (47 + i) = 1
    · rw [if_pos (by rw [c]; rfl), if_pos c]
      exact ⟨M, rfl, FrM.rf M _⟩
    · rw [if_neg (by rw [show (1 : Int32) = nI 1 from rfl, nI_eq_iff (by omega) (by omega)]; exact c), if_neg c]
      obtain ⟨M1, q1, q2, q3⟩ := dayOn_ok (p := 212) (by omega) hm h (by omega) haw false
      have q1' : f_X7_dayOn M 212 0 = some M1 := q1
      rw [q1', Option.bind_some, nI_1, show 61 - (k + 1) + 1 = 61 - k from by omega]
      obtain ⟨M2, r1, r2⟩ := ih fuel M1 (dayP 9 false a) q2 (dayP_wf h 9 false) (by rw [dayP_ne h (by omega) (by omega) (by omega) (by omega) (by omega)]; exact hi) (by rw [dayP_52]; omega) (by rw [q3.1 0 (by decide) (by decide)]; exact haw) (by omega) (by omega)
      exact ⟨M2, r1, q3.tr r2⟩
theorem T_out {X : Wd} {M : Ob} (h : Cpl X M) (a1 : Int32) : OK X M (f_X6_out X a1) (f_X7_out M a1) := by
  obtain ⟨⟨a, hp⟩, -, -, -, -, -, -, hc⟩ := id h
  have ⟨w1, w2, w3, w4⟩ := hp
  have h51 := w1.2.2.2.2.1
  have z8 := w3.2.2.2.2.2.1
  have e51 := hp.m (k := 51) (by omega) (by omega)
  unfold f_X6_out f_X7_out
  by_cases c0 : Rg a1 (a 51)
  · obtain ⟨i, hi, rfl⟩ := c0
    rw [isGuest_y z8 hi h51, bd1, mGuest_y e51 hi h51, bd1]
    obtain ⟨z0, b1, b2⟩ := become_ok (X 5) w3 w1
    obtain ⟨z1, t1⟩ := till_l (i := i) 61 FUEL (va_up X 5 z0) a (by rw [va_up_self]; exact b2) w1 hi (by omega) (by omega) (by unfold FUEL; omega)
    obtain ⟨M0, r0, r1, r2⟩ := copies_ok (p := 0) (q := 212) (by omega) (by omega) (by omega) M
    obtain ⟨M1, s0, s1⟩ := mout_l (i := i) 61 FUEL M0 a (w4.copy r2) w1 hi (by omega) (by rw [r1.1 0 (by decide)]; exact Or.inl ⟨rfl, hc.1⟩) (by omega) (by unfold FUEL; omega)
    have t1' : f_X6_daysTillOut (va_up X 5 z0) (nI i) = some (noI (tillP i 61 a), va_up (va_up X 5 z0) 5 z1) := t1
    have r0' : f_X7_copies M 0 212 = some M0 := r0
    have s0' : f_X7_out_l20 FUEL M0 (nI i) 0 = some (noI (tillP i 61 a), M1) := s0
    rw [b1, Option.bind_some, t1', Option.bind_some, r0', Option.bind_some, s0']
    exact OK.q h rfl rfl ((QX.up z0 (by omega)).tr (QX.up z1 (by omega))) ((r1.q (by omega)).tr (s1.q (by omega)))
  · rw [isGuest_n z8 c0 h51, bd0, mGuest_n e51 c0 h51, bd0]
    exact OK.same h _ rfl rfl
