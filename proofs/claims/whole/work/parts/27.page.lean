/-! a page of numbers, as the model has it, but place 0 holds all hedges as bits; how it lies in the class' Maze -/
def lastI (l : Nat) : Int32 := if l = 0 then -4 else nI (l - 1)
def WF (a : Nat → Nat) : Prop := a 0 < 16777216 ∧ a 24 < 16 ∧ a 37 ≤ 4 ∧ a 38 ≤ 24 ∧ a 51 ≤ 4 ∧ (∀ g, g < 4 → a (25 + g) < 4 ∧ a (29 + g) < 24 ∧ a (33 + g) < 10) ∧ ∀ i, i < 4 → a (39 + i) < 16 ∧ a (43 + i) ≤ 60 ∧ a (47 + i) ≤ 2
def RZ (z : Ob) (a : Nat → Nat) : Prop := z 0 0 = nI (a 0) ∧ z 0 1 = nI (a 24) ∧ z 0 2 = lastI (a 38) ∧ z 0 3 = nI (a 52) ∧ z 0 4 = nI (a 37) ∧ z 0 8 = nI (a 51) ∧ (∀ g, g < a 37 → z 1 g = nI (a (25 + g)) ∧ z 2 g = nI (a (29 + g)) ∧ z 3 g = nI (a (33 + g))) ∧ ∀ i, i < a 51 → z 4 i = nI (a (39 + i)) ∧ z 5 i = nI (a (43 + i)) ∧ z 6 i = nI (a (47 + i))
def goalP (a : Nat → Nat) (g : Nat) : Nat := if a (25 + g) = 3 then 23 - a (29 + g) else if a (25 + g) = 1 ∧ a 38 ≠ 0 then a 38 - 1 else a (29 + g)
def setb (H h v : Nat) : Nat := if v = 1 then H ||| 1 <<< h else H &&& ((1 <<< h) ^^^ 4294967295)
def madeP (a : Nat → Nat) (g h : Nat) : Nat := if a (25 + g) < 2 then 1 - hbt (a 0) h else if a (25 + g) = 2 then 1 else 0
def cutP (a : Nat → Nat) (g : Nat) : Nat → Nat := va_up (va_up (va_up a 0 (setb (a 0) (goalP a g) (madeP a g (goalP a g)))) 38 (goalP a g + 1)) (29 + g) ((a (29 + g) + a (33 + g)) % 24)
theorem goalP_lt {a : Nat → Nat} (h : WF a) {g : Nat} (hg : g < 4) : goalP a g < 24 := by
  obtain ⟨-, -, -, h38, -, hgg, -⟩ := h
  have := hgg g hg
  unfold goalP
  split
  · omega
  · split <;> omega
theorem madeP_lt (a : Nat → Nat) (g h : Nat) : madeP a g h < 2 := by
  unfold madeP
  split
  · omega
  · split <;> omega
theorem setb_bit {H h v j : Nat} (hj : j < 32) : (setb H h v).testBit j = if j = h then decide (v = 1) else H.testBit j := by
  have one : (1 <<< h).testBit j = decide (h = j) := by rw [show 1 <<< h = 2 ^ h from by rw [Nat.shiftLeft_eq, Nat.one_mul], Nat.testBit_two_pow]
  unfold setb
  by_cases c : v = 1
  · rw [if_pos c, Nat.testBit_or, one]
    by_cases e : j = h
    · subst e; simp [c]
    · simp [e, Ne.symm e]
  · rw [if_neg c, Nat.testBit_and, Nat.testBit_xor, one, tball hj]
    by_cases e : j = h
    · subst e; simp [c]
    · simp [e, Ne.symm e]
theorem setb_lt {H h v : Nat} (hH : H < 16777216) (hh : h < 24) : setb H h v < 16777216 := by
  unfold setb
  split
  · refine Nat.or_lt_two_pow (n := 24) hH ?_
    rw [Nat.shiftLeft_eq, Nat.one_mul]
    exact Nat.pow_lt_pow_right (by decide) hh
  · exact Nat.lt_of_le_of_lt Nat.and_le_left hH
theorem hbt_shr {H h : Nat} : (H >>> h) &&& 1 = hbt H h := by
  apply Nat.eq_of_testBit_eq
  intro j
  unfold hbt
  rw [Nat.testBit_and, Nat.testBit_shiftRight, show (1 : Nat) = 2 ^ 0 from rfl, Nat.testBit_two_pow]
  cases b : H.testBit h with
  | true =>
    by_cases e : j = 0
    · subst e; simp [b]
    · simp [Ne.symm e, show (1 : Nat).testBit j = false from by rw [show (1 : Nat) = 2 ^ 0 from rfl, Nat.testBit_two_pow]; simp; omega]
  | false =>
    by_cases e : j = 0
    · subst e; simp [b]
    · simp [Ne.symm e]
theorem standing_ok {z : Ob} {H h : Nat} (hz : z 0 0 = nI H) (hH : H < 16777216) (hh : h < 24) : f_X1_standing z (nI h) = some (nI (hbt H h)) := by
  unfold f_X1_standing
  rw [hz]
  simp (disch := omega) only [fa_lit, fa_and, and31, nI_shr', hbt_shr]
theorem with_ok {H h v : Nat} (hv : v < 2) (hh : h < 24) : f_X2_with (nI H) (nI h) (nI v) = some (nI (setb H h v)) := by
  unfold f_X2_with setb
  simp (disch := omega) only [fa_lit, m1_nI', fa_and, fa_or, fb_xorI, and31, nI_shl', nI_eq_iff]
  split <;> rfl
theorem goal_ok {z : Ob} {a : Nat → Nat} (hz : RZ z a) (h : WF a) {g : Nat} (hg : g < a 37) : f_X1_goal z (nI g) = some (nI (goalP a g)) := by
  obtain ⟨-, -, z2, -, -, -, zg, -⟩ := hz
  obtain ⟨-, -, h37, h38, -, hgg, -⟩ := h
  obtain ⟨w1, w2, w3⟩ := zg g hg
  obtain ⟨b1, b2, b3⟩ := hgg g (by omega)
  unfold f_X1_goal goalP
  simp (disch := omega) only [ck_nI, nI_cl, w1, w2, z2, fa_lit, nI_eq_iff]
  by_cases c1 : a (25 + g) = 1
  · rw [if_pos c1, if_neg (by omega : ¬ a (25 + g) = 3)]
    unfold lastI
    by_cases c2 : a 38 = 0
    · rw [if_pos c2, if_pos (show (-4 : Int32) = -nI 4 from rfl), if_neg (by omega : ¬ (a (25 + g) = 1 ∧ a 38 ≠ 0))]
    · rw [if_neg c2, if_neg (nI_ne_neg (by omega) (by omega) (by omega)), if_pos ⟨c1, c2⟩]
  · rw [if_neg c1]
    by_cases c3 : a (25 + g) = 3
    · rw [if_pos c3, if_pos c3, nI_sub (by omega)]
    · rw [if_neg c3, if_neg c3, if_neg (fun w => c1 w.1)]
theorem made_ok {z : Ob} {a : Nat → Nat} (hz : RZ z a) (h : WF a) {g k : Nat} (hg : g < a 37) (hk : k < 24) : f_X1_made z (nI g) (nI k) = some (nI (madeP a g k)) := by
  obtain ⟨z0, -, z2, -, -, -, zg, -⟩ := hz
  obtain ⟨h0, -, h37, h38, -, hgg, -⟩ := h
  obtain ⟨w1, w2, w3⟩ := zg g hg
  obtain ⟨b1, b2, b3⟩ := hgg g (by omega)
  have hb := hbt_lt (a 0) k
  unfold f_X1_made madeP
  rw [standing_ok z0 h0 hk]
  simp (disch := omega) only [ck_nI, nI_cl, w1, fa_lit, nI_eq_iff, Option.bind_some, nI_sub]
  by_cases c2 : a (25 + g) = 2
  · rw [if_pos c2, if_neg (by omega : ¬ a (25 + g) < 2), if_pos c2]
  · rw [if_neg c2]
    by_cases c3 : a (25 + g) = 3
    · rw [if_pos c3, if_neg (by omega : ¬ a (25 + g) < 2), if_neg c2]
    · rw [if_neg c3, if_pos (by omega : a (25 + g) < 2)]
theorem cutP_at (a : Nat → Nat) (g k : Nat) : cutP a g k = if k = 29 + g then (a (29 + g) + a (33 + g)) % 24 else if k = 38 then goalP a g + 1 else if k = 0 then setb (a 0) (goalP a g) (madeP a g (goalP a g)) else a k := rfl
theorem cutP_ne {a : Nat → Nat} {g k : Nat} (h1 : k ≠ 29 + g) (h2 : k ≠ 38) (h3 : k ≠ 0) : cutP a g k = a k := by rw [cutP_at, if_neg h1, if_neg h2, if_neg h3]
theorem ob_at (z : Ob) (c k : Nat) (v : Int32) (c' k' : Nat) : ob z c k v c' k' = if c' = c then (if k' = k then v else z c' k') else z c' k' := by
  unfold ob va_up upd
  by_cases h : c' = c
  · subst h; rw [if_pos rfl, if_pos rfl]
  · rw [if_neg h, if_neg h]
theorem cutP_wf {a : Nat → Nat} (h : WF a) {g : Nat} (hg : g < 4) : WF (cutP a g) := by
  have hgo := goalP_lt h hg
  obtain ⟨h0, h24, h37, h38, h51, hgg, hii⟩ := h
  refine ⟨?_, ?_, ?_, ?_, ?_, fun j hj => ⟨?_, ?_, ?_⟩, fun i hi => ⟨?_, ?_, ?_⟩⟩
  · rw [cutP_at, if_neg (by omega), if_neg (by omega), if_pos rfl]; exact setb_lt h0 hgo
  · rw [cutP_ne (by omega) (by omega) (by omega)]; exact h24
  · rw [cutP_ne (by omega) (by omega) (by omega)]; exact h37
  · rw [cutP_at, if_neg (by omega), if_pos rfl]; omega
  · rw [cutP_ne (by omega) (by omega) (by omega)]; exact h51
  · rw [cutP_ne (by omega) (by omega) (by omega)]; exact (hgg j hj).1
  · rw [cutP_at]
    split
    · omega
    · rw [if_neg (by omega), if_neg (by omega)]; exact (hgg j hj).2.1
  · rw [cutP_ne (by omega) (by omega) (by omega)]; exact (hgg j hj).2.2
  · rw [cutP_ne (by omega) (by omega) (by omega)]; exact (hii i hi).1
  · rw [cutP_ne (by omega) (by omega) (by omega)]; exact (hii i hi).2.1
  · rw [cutP_ne (by omega) (by omega) (by omega)]; exact (hii i hi).2.2
/-- the gardener's part of a day -/
def mowP (a : Nat → Nat) : Nat → Nat := if a 37 = 0 then a else cutP a (a 52 % a 37)
theorem mowP_wf {a : Nat → Nat} (h : WF a) : WF (mowP a) := by
  unfold mowP
  split
  · exact h
  · have := Nat.mod_lt (a 52) (show 0 < a 37 by omega)
    exact cutP_wf h (by have := h.2.2.1; omega)
theorem todays_ok {z : Ob} {a : Nat → Nat} (hz : RZ z a) (h : WF a) (hd : a 52 < 2147483648) : f_X1_todays z = some (if a 37 = 0 then -4 else nI (a 52 % a 37)) := by
  obtain ⟨-, -, -, z3, z4, -⟩ := hz
  have h37 := h.2.2.1
  unfold f_X1_todays
  rw [z3, z4]
  simp (disch := omega) only [fa_lit, nI_le_iff]
  by_cases c : a 37 = 0
  · rw [if_pos (by omega), if_pos c]
  · rw [if_neg (by omega), if_neg c, ckn_nI (by omega) (by omega), nI_rem hd (by omega)]
theorem mow_ok {z : Ob} {a : Nat → Nat} (hz : RZ z a) (h : WF a) (hd : a 52 < 2147483648) : ∃ z', f_X1_mow z = some z' ∧ RZ z' (mowP a) := by
  unfold f_X1_mow mowP
  rw [todays_ok hz h hd, Option.bind_some]
  by_cases c : a 37 = 0
  · rw [if_pos c, if_pos c, if_neg (by decide)]
    exact ⟨z, rfl, hz⟩
  · have hlt := Nat.mod_lt (a 52) (show 0 < a 37 by omega)
    have h37 := h.2.2.1
    rw [if_neg c, if_neg c]
    generalize a 52 % a 37 = g at hlt
    have hgo := goalP_lt h (show g < 4 by omega)
    have hmd := madeP_lt a g (goalP a g)
    rw [if_pos (nI_pos' (by omega)), goal_ok hz h hlt, Option.bind_some, made_ok hz h hlt hgo, Option.bind_some]
    obtain ⟨z0, z1, z2, z3, z4, z8, zg, zi⟩ := hz
    rw [z0, with_ok hmd hgo, Option.bind_some, ck_nI (by omega) (by omega), ck_nI (by omega) (by omega), ck_nI (by omega) (by omega)]
    refine ⟨_, rfl, ?_⟩
    have b := h.2.2.2.2.2.1 g (by omega)
    rw [nI_cl (by omega), (zg g hlt).2.1, (zg g hlt).2.2, nI_add, fa_lit 24, nI_rem (by omega) (by omega)]
    refine ⟨?_, ?_, ?_, ?_, ?_, ?_, fun j hj => ⟨?_, ?_, ?_⟩, fun i hi => ⟨?_, ?_, ?_⟩⟩
    · simp only [ob_at]; rw [cutP_at, if_neg (by omega : ¬ 0 = 29 + g)]; rfl
    · simp only [ob_at]; rw [cutP_ne (by omega) (by omega) (by omega)]; exact z1
    · simp only [ob_at]; rw [cutP_at, if_neg (by omega : ¬ 38 = 29 + g)]; rfl
    · simp only [ob_at]; rw [cutP_ne (by omega) (by omega) (by omega)]; exact z3
    · simp only [ob_at]; rw [cutP_ne (by omega) (by omega) (by omega)]; exact z4
    · simp only [ob_at]; rw [cutP_ne (by omega) (by omega) (by omega)]; exact z8
    · rw [cutP_ne (by omega) (by omega) (by omega)] at hj
      simp only [ob_at]; rw [cutP_ne (by omega) (by omega) (by omega)]; exact (zg j hj).1
    · rw [cutP_ne (by omega) (by omega) (by omega)] at hj
      by_cases e : j = g
      · subst e; rw [cutP_at, if_pos rfl]; simp [ob_at]
      · rw [cutP_ne (by omega) (by omega) (by omega), ← (zg j hj).2.1]; simp [ob_at, e]
    · rw [cutP_ne (by omega) (by omega) (by omega)] at hj
      simp only [ob_at]; rw [cutP_ne (by omega) (by omega) (by omega)]; exact (zg j hj).2.2
    · rw [cutP_ne (by omega) (by omega) (by omega)] at hi
      simp only [ob_at]; rw [cutP_ne (by omega) (by omega) (by omega)]; exact (zi i hi).1
    · rw [cutP_ne (by omega) (by omega) (by omega)] at hi
      simp only [ob_at]; rw [cutP_ne (by omega) (by omega) (by omega)]; exact (zi i hi).2.1
    · rw [cutP_ne (by omega) (by omega) (by omega)] at hi
      simp only [ob_at]; rw [cutP_ne (by omega) (by omega) (by omega)]; exact (zi i hi).2.2
