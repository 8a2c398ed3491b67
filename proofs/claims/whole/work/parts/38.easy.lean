/-! the calls that look, or change a number -/
theorem bd0 {α : Type} {A : Option α} {B : Int32 → Option α} : (some (0 : Int32)).bind (fun q => if q = 0 then A else B q) = A := by
  rw [Option.bind_some, if_pos rfl]
theorem bd1 {α : Type} {A : Option α} {B : Int32 → Option α} : (some (1 : Int32)).bind (fun q => if q = 0 then A else B q) = B 1 := by
  rw [Option.bind_some, if_neg (by decide)]
theorem up52 {a : Nat → Nat} {k v : Nat} (h : a 52 ≤ 999) (hk : k ≠ 52) : va_up a k v 52 ≤ 999 := by rw [va_up_ne _ _ (Ne.symm hk)]; exact h
theorem puts_0 (M : Ob) (k v : Int32) : f_X7_puts M 0 k v = some (-1, M) := by unfold f_X7_puts; rw [if_pos rfl]
theorem puts_1 (M : Ob) {k : Nat} (v : Int32) (hk : k < 318) : f_X7_puts M 1 (nI k) v = some (M 1 k, ob M 1 k v) := by
  unfold f_X7_puts
  rw [if_neg (by decide), ck_nI hk (by omega), ck_nI hk (by omega), nI_cl (by omega)]
theorem T_fault {X : Wd} {M : Ob} (h : Cpl X M) : ∃ r, f_X6_fault X = some r ∧ f_X7_fault M = some r := ⟨_, rfl, by rw [h.2.2.2.2.1.1]; rfl⟩
theorem T_torn {X : Wd} {M : Ob} (h : Cpl X M) : ∃ r, f_X6_torn X = some r ∧ f_X7_torn M = some r := ⟨_, rfl, by rw [h.2.2.2.2.1.2]; rfl⟩
theorem T_rule {X : Wd} {M : Ob} (h : Cpl X M) (a1 : Int32) : ∃ r, f_X6_rule X a1 = some r ∧ f_X7_rule M a1 = some r := by
  obtain ⟨⟨a, hp⟩, -⟩ := h
  have ⟨w1, w2, w3, w4⟩ := hp
  have m0 : (0 : Int32) = nI 0 := rfl
  have m1 : (1 : Int32) = nI 1 := rfl
  have m2 : (2 : Int32) = nI 2 := rfl
  unfold f_X6_rule f_X7_rule
  by_cases c0 : a1 = 0
  · rw [if_pos c0, if_pos c0]; exact ⟨_, rfl, by rw [hp.m (by omega) (by omega), w3.2.2.2.2.1]⟩
  by_cases c1 : a1 = 1
  · rw [if_neg c0, if_neg c0, if_pos c1, if_pos c1]; exact ⟨_, rfl, by rw [hp.m (by omega) (by omega), w3.2.2.2.2.2.1]⟩
  by_cases c2 : a1 = 2
  · rw [if_neg c0, if_neg c0, if_neg c1, if_neg c1, if_pos c2, if_pos c2]; exact ⟨_, rfl, by rw [hp.m (by omega) (by omega), w3.2.2.2.1]⟩
  by_cases c3 : a1 = 3
  · rw [if_neg c0, if_neg c0, if_neg c1, if_neg c1, if_neg c2, if_neg c2, if_pos c3, if_pos c3]; exact ⟨_, rfl, by rw [hp.m (by omega) (by omega), w3.2.1]⟩
  rw [if_neg c0, if_neg c0, if_neg c1, if_neg c1, if_neg c2, if_neg c2, if_neg c3, if_neg c3]
  by_cases c4 : a1 = 4
  · rw [if_pos c4, if_pos c4, w3.1, bitCount_ok w1.1, m0, standOn_ok w4.1 (by omega) w1.1, Option.bind_some, Option.bind_some, bitsOf_ok w1.1]; exact ⟨_, rfl, rfl⟩
  by_cases c5 : a1 = 5
  · rw [if_neg c4, if_neg c4, if_pos c5, if_pos c5, m1, m0, whoIs_ok w3 w1 (by omega), guestsOn_ok w4 (by omega) w1 (by omega)]; exact ⟨_, rfl, rfl⟩
  by_cases c6 : a1 = 6
  · rw [if_neg c4, if_neg c4, if_neg c5, if_neg c5, if_pos c6, if_pos c6, m2, m0, whoIs_ok w3 w1 (by omega), guestsOn_ok w4 (by omega) w1 (by omega)]; exact ⟨_, rfl, rfl⟩
  rw [if_neg c4, if_neg c4, if_neg c5, if_neg c5, if_neg c6, if_neg c6]
  by_cases c7 : a1 = 7
  · rw [if_pos c7, if_pos c7, m0, lastOn_ok w4 (by omega) w1]; exact ⟨_, rfl, by rw [w3.2.2.1]; rfl⟩
  · rw [if_neg c7, if_neg c7]; exact ⟨_, rfl, rfl⟩
theorem T_hedge {X : Wd} {M : Ob} (h : Cpl X M) (a1 : Int32) : ∃ r, f_X6_hedge X a1 = some r ∧ f_X7_hedge M a1 = some r := by
  obtain ⟨⟨a, hp⟩, -⟩ := h
  have ⟨w1, w2, w3, w4⟩ := hp
  unfold f_X6_hedge f_X7_hedge
  by_cases c : Rg a1 24
  · obtain ⟨k, hk, rfl⟩ := c
    rw [isHedge_y hk, mHedge_y hk, bd1, bd1, standing_ok w3.1 w1.1 hk, ck_nI (by omega) (by omega), nI_cl (by omega), hp.h hk]
    exact ⟨_, rfl, rfl⟩
  · rw [isHedge_n c, mHedge_n c, bd0, bd0]
    exact ⟨_, rfl, rfl⟩
theorem T_gardener {X : Wd} {M : Ob} (h : Cpl X M) (a1 a2 : Int32) : ∃ r, f_X6_gardener X a1 a2 = some r ∧ f_X7_gardener M a1 a2 = some r := by
  obtain ⟨⟨a, hp⟩, -⟩ := h
  have ⟨w1, w2, w3, w4⟩ := hp
  have h37 := w1.2.2.1
  have z4 := w3.2.2.2.2.1
  have e37 := hp.m (k := 37) (by omega) (by omega)
  have m0 : (0 : Int32) = nI 0 := rfl
  have m3 : (3 : Int32) = nI 3 := rfl
  unfold f_X6_gardener f_X7_gardener
  by_cases c : Rg a1 (a 37)
  · obtain ⟨g, hg, rfl⟩ := c
    rw [isGardener_y z4 hg h37, mGardener_y e37 hg h37, bd1, bd1]
    by_cases c2 : Rg a2 4
    · obtain ⟨k, hk, rfl⟩ := c2
      rw [m3, gC_y (n := 3) hk (by omega), in_y hk (by omega) (by decide), bd1]
      obtain ⟨g1, g2, g3⟩ := w3.2.2.2.2.2.2.1 g hg
      rcases (show k = 0 ∨ k = 1 ∨ k = 2 ∨ k = 3 by omega) with rfl | rfl | rfl | rfl
      · refine ⟨nI (a (25 + g)), ?_, ?_⟩
        · rw [if_neg (by decide)]; unfold f_X1_trait; rw [if_pos (by decide), Option.bind_some, ck_nI (by omega) (by omega), nI_cl (by omega), g1]
        · rw [if_neg (by decide)]; simp (disch := omega) only [fa_lit, nI_mul, nI_add, ck_nI, nI_cl]; rw [hp.m (by omega) (by omega)]
      · refine ⟨nI (a (29 + g)), ?_, ?_⟩
        · rw [if_neg (by decide)]; unfold f_X1_trait; rw [if_neg (by decide), if_pos (by decide), Option.bind_some, ck_nI (by omega) (by omega), nI_cl (by omega), g2]
        · rw [if_neg (by decide)]; simp (disch := omega) only [fa_lit, nI_mul, nI_add, ck_nI, nI_cl]; rw [hp.m (by omega) (by omega)]
      · refine ⟨nI (a (33 + g)), ?_, ?_⟩
        · rw [if_neg (by decide)]; unfold f_X1_trait; rw [if_neg (by decide), if_neg (by decide), Option.bind_some, ck_nI (by omega) (by omega), nI_cl (by omega), g3]
        · rw [if_neg (by decide)]; simp (disch := omega) only [fa_lit, nI_mul, nI_add, ck_nI, nI_cl]; rw [hp.m (by omega) (by omega)]
      · refine ⟨nI (goalP a g), ?_, ?_⟩
        · rw [if_pos rfl, goal_ok w3 w1 hg, Option.bind_some]
        · rw [if_pos (by decide), m0, goalOn_ok w4 (by omega) w1 (by omega), Option.bind_some]
    · rw [m3, gC_n c2 (by omega), in_n c2 (by omega) (by decide), bd0]
      exact ⟨_, rfl, rfl⟩
  · rw [isGardener_n z4 c h37, mGardener_n e37 c h37, bd0, bd0]
    exact ⟨_, rfl, rfl⟩
theorem T_guest {X : Wd} {M : Ob} (h : Cpl X M) (a1 a2 : Int32) : ∃ r, f_X6_guest X a1 a2 = some r ∧ f_X7_guest M a1 a2 = some r := by
  obtain ⟨⟨a, hp⟩, -⟩ := h
  have ⟨w1, w2, w3, w4⟩ := hp
  have h51 := w1.2.2.2.2.1
  have z8 := w3.2.2.2.2.2.1
  have e51 := hp.m (k := 51) (by omega) (by omega)
  have m2 : (2 : Int32) = nI 2 := rfl
  unfold f_X6_guest f_X7_guest
  by_cases c : Rg a1 (a 51)
  · obtain ⟨g, hg, rfl⟩ := c
    rw [isGuest_y z8 hg h51, mGuest_y e51 hg h51, bd1, bd1]
    by_cases c2 : Rg a2 3
    · obtain ⟨k, hk, rfl⟩ := c2
      rw [m2, gB_y (n := 2) hk (by omega), in_y hk (by omega) (by decide), bd1]
      obtain ⟨g1, g2, g3⟩ := w3.2.2.2.2.2.2.2 g hg
      rcases (show k = 0 ∨ k = 1 ∨ k = 2 by omega) with rfl | rfl | rfl
      · refine ⟨nI (a (39 + g)), ?_, ?_⟩
        · unfold f_X1_lot; rw [if_pos (by decide), Option.bind_some, ck_nI (by omega) (by omega), nI_cl (by omega), g1]
        · simp (disch := omega) only [fa_lit, nI_mul, nI_add, ck_nI, nI_cl]; rw [hp.m (by omega) (by omega)]
      · refine ⟨nI (a (43 + g)), ?_, ?_⟩
        · unfold f_X1_lot; rw [if_neg (by decide), if_pos (by decide), Option.bind_some, ck_nI (by omega) (by omega), nI_cl (by omega), g2]
        · simp (disch := omega) only [fa_lit, nI_mul, nI_add, ck_nI, nI_cl]; rw [hp.m (by omega) (by omega)]
      · refine ⟨nI (a (47 + g)), ?_, ?_⟩
        · unfold f_X1_lot; rw [if_neg (by decide), if_neg (by decide), Option.bind_some, ck_nI (by omega) (by omega), nI_cl (by omega), g3]
        · simp (disch := omega) only [fa_lit, nI_mul, nI_add, ck_nI, nI_cl]; rw [hp.m (by omega) (by omega)]
    · rw [m2, gB_n c2 (by omega), in_n c2 (by omega) (by decide), bd0]
      exact ⟨_, rfl, rfl⟩
  · rw [isGuest_n z8 c h51, mGuest_n e51 c h51, bd0, bd0]
    exact ⟨_, rfl, rfl⟩
theorem T_way {X : Wd} {M : Ob} (h : Cpl X M) (a1 a2 : Int32) : ∃ r M1, f_X6_way X a1 a2 = some r ∧ f_X7_way M a1 a2 = some (r, M1) ∧ Cpl X M1 := by
  obtain ⟨⟨a, hp⟩, -⟩ := id h
  have ⟨w1, w2, w3, w4⟩ := hp
  unfold f_X6_way f_X7_way
  by_cases c : Rg a1 16
  · obtain ⟨g, hg, rfl⟩ := c
    rw [isPlot_y hg, mPlot_y hg, bd1, bd1]
    by_cases c2 : Rg a2 16
    · obtain ⟨k, hk, rfl⟩ := c2
      rw [isPlot_y hk, mPlot_y hk, bd1, bd1, w3.1, steps_ok w1.1 hg hk]
      obtain ⟨M1, q1, q2, q3⟩ := stepsOn_ok (p := 0) (by omega) hk w4.1
      rw [show (0 : Int32) = nI 0 from rfl, q3, Option.bind_some, Option.bind_some, ck_nI hg (by omega), nI_cl (by omega), q2.1 g hg, rlT_dist hk hg, Dn_turn hk hg]
      have hC : Cpl X M1 := h.q (QX.rf X) ((FrM.six (p := 159) q1).q (by omega))
      have hl := Dn_le (a 0) g k
      by_cases e : Dn (a 0) g k = 16
      · rw [if_pos e, if_pos e, if_pos (by decide)]
        exact ⟨_, M1, rfl, rfl, hC⟩
      · rw [if_neg e, if_neg e, if_neg, ck_nI hg (by omega)]
        · exact ⟨_, M1, rfl, rfl, hC⟩
        · rw [show (99 : Int32) = nI 99 from rfl, nI_le_iff (by omega) (by omega)]; omega
    · rw [isPlot_n c2, mPlot_n c2, bd0, bd0]
      exact ⟨_, M, rfl, rfl, h⟩
  · rw [isPlot_n c, mPlot_n c, bd0, bd0]
    exact ⟨_, M, rfl, rfl, h⟩
theorem T_turn {X : Wd} {M : Ob} (h : Cpl X M) (a1 : Int32) : ∃ r M1, f_X6_turn X a1 = some r ∧ f_X7_turn M a1 = some (r, M1) ∧ Cpl X M1 := by
  obtain ⟨⟨a, hp⟩, -⟩ := id h
  have ⟨w1, w2, w3, w4⟩ := hp
  unfold f_X6_turn f_X7_turn
  by_cases c : Rg a1 16
  · obtain ⟨g, hg, rfl⟩ := c
    rw [isPlot_y hg, mPlot_y hg, bd1, bd1, w3.1, w3.2.1, toward_ok w1.1 w1.2.1 hg, hp.m (by omega) (by omega)]
    obtain ⟨M1, q1, q2, q3⟩ := stepsOn_ok (p := 0) (by omega) w1.2.1 w4.1
    have h6 : ∀ x, x < 16 → M1 6 x = nI (dd (a 0) (a 24) x) := fun x hx => by rw [q2.1 x hx, rlT_dist w1.2.1 hx]; rfl
    rw [show (0 : Int32) = nI 0 from rfl, q3, Option.bind_some, Option.bind_some, turnOn_ok (w4.1.same q1) (by omega) w1.2.1 hg h6]
    exact ⟨_, M1, rfl, rfl, h.q (QX.rf X) ((FrM.six (p := 159) q1).q (by omega))⟩
  · rw [isPlot_n c, mPlot_n c, bd0, bd0]
    exact ⟨_, M, rfl, rfl, h⟩
theorem T_grow {X : Wd} {M : Ob} (h : Cpl X M) (a1 a2 : Int32) : OK X M (f_X6_grow X a1 a2) (f_X7_grow M a1 a2) := by
  obtain ⟨⟨a, hp⟩, -⟩ := id h
  have ⟨w1, w2, w3, w4⟩ := hp
  by_cases c1 : Rg a1 24
  · obtain ⟨k, hk, rfl⟩ := c1
    by_cases c2 : Rg a2 2
    · obtain ⟨v, hv, rfl⟩ := c2
      have hs := setb_lt (v := v) w1.1 hk
      refine OK.page h (r := nI (hbt (a 0) k)) (z := ob (X 4) 0 0 (nI (setb (a 0) k v))) (b := va_up a 0 (setb (a 0) k v)) (M1 := ob M 1 k (nI v)) ?_ ?_ (w1.up (by unfold bnd; omega)) (up52 w2 (by omega)) (w3.hedges _) (w4.hedge0 hk hv) (FrM_ob0 M _ (by omega))
      · unfold f_X6_grow
        rw [isHedge_y hk, bd1, isBit_y hv, bd1, standing_ok w3.1 w1.1 hk, Option.bind_some, w3.1, with_ok hv hk, Option.bind_some]
        rfl
      · unfold f_X7_grow f_X7_grows
        rw [mHedge_y hk, bd1, in_y hv (by omega) (by decide), bd1]
        unfold f_X7_grows_b23
        rw [puts_1 M _ (by omega), hp.h hk]
        rfl
    · refine OK.same h (-1) ?_ ?_
      · unfold f_X6_grow
        rw [isHedge_y hk, bd1, isBit_n c2, bd0]
      · unfold f_X7_grow f_X7_grows f_X7_grows_b22 f_X7_grows_b23
        rw [mHedge_y hk, bd1, in_n c2 (by omega) (by decide), bd0, puts_0]
        rfl
  · refine OK.same h (-1) ?_ ?_
    · unfold f_X6_grow
      rw [isHedge_n c1, bd0]
    · unfold f_X7_grow f_X7_grows f_X7_grows_b22 f_X7_grows_b23
      rw [mHedge_n c1, bd0, puts_0]
      rfl
theorem alter7 {M : Ob} {a1 a2 a3 : Int32} {r : Option (Int32 × Ob)} (h : ∀ y, f_X7_alter_b20 M a1 a2 a3 y = r) : f_X7_alter M a1 a2 a3 = r := by
  unfold f_X7_alter
  rw [h, h, h]
  split
  · rfl
  · split <;> rfl
theorem alter59 (M : Ob) (a1 a2 a3 : Int32) : f_X7_alter_b59 M a1 a2 a3 = some (-1, M) := by
  unfold f_X7_alter_b59 f_X7_alter_b60
  rw [puts_0]
  rfl
theorem T_alter {X : Wd} {M : Ob} (h : Cpl X M) (a1 a2 a3 : Int32) : OK X M (f_X6_alter X a1 a2 a3) (f_X7_alter M a1 a2 a3) := by
  obtain ⟨⟨a, hp⟩, -⟩ := id h
  have ⟨w1, w2, w3, w4⟩ := hp
  have h37 := w1.2.2.1
  have h51 := w1.2.2.2.2.1
  have z4 := w3.2.2.2.2.1
  have e37 := hp.m (k := 37) (by omega) (by omega)
  have m2 : (2 : Int32) = nI 2 := rfl
  by_cases c1 : Rg a1 (a 37)
  · obtain ⟨g, hg, rfl⟩ := c1
    by_cases c2 : Rg a2 3
    · obtain ⟨k, hk, rfl⟩ := c2
      obtain ⟨g1, g2, g3⟩ := w3.2.2.2.2.2.2.1 g hg
      -- one place
      have good : ∀ (c v n : Nat) (y : Int32), c = k + 1 → v < n → n < 100 → y.toInt64.toInt + 1 = n → (∀ b, f_X1_trait b (nI k) = some c) → f_X1_isTrait (nI k) (nI v) = some 1 → bnd (25 + 4 * k + g) v → X 4 c g = nI (a (25 + 4 * k + g)) → f_X7_alter M (nI g) (nI k) (nI v) = f_X7_alter_b20 M (nI g) (nI k) (nI v) y → OK X M (f_X6_alter X (nI g) (nI k) (nI v)) (f_X7_alter M (nI g) (nI k) (nI v)) := by
        intro c v n y hc hv hn hy ht hi hb e hm
        refine OK.page h (r := nI (a (25 + 4 * k + g))) (z := ob (X 4) c g (nI v)) (b := va_up a (25 + 4 * k + g) v) (M1 := ob M 1 (25 + 4 * k + g) (nI v)) ?_ ?_ (w1.up hb) (up52 w2 (by omega)) (w3.cellv h37 h51 v (by omega) (by omega)) (w4.up0 v (by omega) (by omega)) (FrM_ob0 M _ (by omega))
        · unfold f_X6_alter
          rw [isGardener_y z4 hg h37, bd1, m2, gB_y (n := 2) hk (by omega), hi, bd1, ht, Option.bind_some, ck_nI (by omega) (by omega), Option.bind_some, ck_nI (by omega) (by omega), nI_cl (by omega), e]
          rfl
        · rw [hm]
          unfold f_X7_alter_b20
          rw [mGardener_y e37 hg h37, bd1, in_y hk (by omega) (by decide), bd1, in_y hv (by omega) hy, bd1]
          unfold f_X7_alter_b60
          simp (disch := omega) only [fa_lit 25, fa_lit 4, nI_mul, nI_add]
          rw [puts_1 M _ (by omega), hp.m (by omega) (by omega)]
          rfl
      have bad : ∀ (n : Nat) (y : Int32), ¬ Rg a3 n → n < 100 → y.toInt64.toInt + 1 = n → f_X1_isTrait (nI k) a3 = some 0 → f_X7_alter M (nI g) (nI k) a3 = f_X7_alter_b20 M (nI g) (nI k) a3 y → OK X M (f_X6_alter X (nI g) (nI k) a3) (f_X7_alter M (nI g) (nI k) a3) := by
        intro n y hv hn hy hi hm
        refine OK.same h (-1) ?_ ?_
        · unfold f_X6_alter
          rw [isGardener_y z4 hg h37, bd1, m2, gB_y (n := 2) hk (by omega), hi, bd0]
        · rw [hm]
          unfold f_X7_alter_b20
          rw [mGardener_y e37 hg h37, bd1, in_y hk (by omega) (by decide), bd1, in_n hv (by omega) hy, bd0, alter59]
      rcases (show k = 0 ∨ k = 1 ∨ k = 2 by omega) with rfl | rfl | rfl
      · have hm : ∀ v, f_X7_alter M (nI g) (nI 0) v = f_X7_alter_b20 M (nI g) (nI 0) v 3 := fun v => by unfold f_X7_alter; rw [if_pos (by decide)]
        by_cases c3 : Rg a3 4
        · obtain ⟨v, hv, rfl⟩ := c3
          exact good 1 v 4 3 rfl hv (by omega) (by decide) (fun b => by unfold f_X1_trait; rw [if_pos (by decide)]) (isTrait0_y hv) (by unfold bnd; omega) g1 (hm _)
        · exact bad 4 3 c3 (by omega) (by decide) (isTrait0_n c3) (hm _)
      · have hm : ∀ v, f_X7_alter M (nI g) (nI 1) v = f_X7_alter_b20 M (nI g) (nI 1) v 23 := fun v => by unfold f_X7_alter; rw [if_neg (by decide), if_pos (by decide)]
        by_cases c3 : Rg a3 24
        · obtain ⟨v, hv, rfl⟩ := c3
          exact good 2 v 24 23 rfl hv (by omega) (by decide) (fun b => by unfold f_X1_trait; rw [if_neg (by decide), if_pos (by decide)]) (isTrait1_y hv) (by unfold bnd; omega) g2 (hm _)
        · exact bad 24 23 c3 (by omega) (by decide) (isTrait1_n c3) (hm _)
      · have hm : ∀ v, f_X7_alter M (nI g) (nI 2) v = f_X7_alter_b20 M (nI g) (nI 2) v 9 := fun v => by unfold f_X7_alter; rw [if_neg (by decide), if_neg (by decide)]
        by_cases c3 : Rg a3 10
        · obtain ⟨v, hv, rfl⟩ := c3
          exact good 3 v 10 9 rfl hv (by omega) (by decide) (fun b => by unfold f_X1_trait; rw [if_neg (by decide), if_neg (by decide)]) (isTrait2_y hv) (by unfold bnd; omega) g3 (hm _)
        · exact bad 10 9 c3 (by omega) (by decide) (isTrait2_n c3) (hm _)
    · refine OK.same h (-1) ?_ (alter7 fun y => ?_)
      · unfold f_X6_alter
        rw [isGardener_y z4 hg h37, bd1, m2, gB_n c2 (by omega)]
      · unfold f_X7_alter_b20
        rw [mGardener_y e37 hg h37, bd1, in_n c2 (by omega) (by decide), bd0, alter59]
  · refine OK.same h (-1) ?_ (alter7 fun y => ?_)
    · unfold f_X6_alter
      rw [isGardener_n z4 c1 h37, bd0]
    · unfold f_X7_alter_b20
      rw [mGardener_n e37 c1 h37, bd0, alter59]
