/-! a day of the model, and of the class -/
theorem wkP_ne {n : Nat} (hn : n ≤ 4) : ∀ (k : Nat) (a : Nat → Nat) (j : Nat), k ≤ n → (j < 39 ∨ 51 ≤ j) → wkP n k a j = a j
  | 0, _, _, _, _ => rfl
  | k + 1, a, j, hk, hj => by
    show wkP n k (gstP a (n - (k + 1))) j = _
    rw [wkP_ne hn k _ j (by omega) hj, gstP_ne (by omega) (by omega) (by omega)]
theorem wkP_wf {n : Nat} (hn : n ≤ 4) : ∀ (k : Nat) (a : Nat → Nat), k ≤ n → WF a → WF (wkP n k a)
  | 0, _, _, h => h
  | k + 1, a, hk, h => wkP_wf hn k _ (by omega) (gstP_wf h (by omega))
theorem walkP_wf {a : Nat → Nat} (h : WF a) : WF (walkP a) := wkP_wf h.2.2.2.2.1 _ a (Nat.le_refl _) h
theorem walkP_ne {a : Nat → Nat} (h : WF a) {j : Nat} (hj : j < 39 ∨ 51 ≤ j) : walkP a j = a j := wkP_ne h.2.2.2.2.1 _ a j (Nat.le_refl _) hj
theorem WF.day {a : Nat → Nat} (h : WF a) (v : Nat) : WF (va_up a 52 v) := by
  obtain ⟨h0, h24, h37, h38, h51, hgg, hii⟩ := h
  refine ⟨?_, ?_, ?_, ?_, ?_, fun j hj => ?_, fun i hi => ?_⟩
  · rw [va_up_ne _ _ (by omega)]; exact h0
  · rw [va_up_ne _ _ (by omega)]; exact h24
  · rw [va_up_ne _ _ (by omega)]; exact h37
  · rw [va_up_ne _ _ (by omega)]; exact h38
  · rw [va_up_ne _ _ (by omega)]; exact h51
  · rw [va_up_ne _ _ (by omega), va_up_ne _ _ (by omega), va_up_ne _ _ (by omega)]; exact hgg j hj
  · rw [va_up_ne _ _ (by omega), va_up_ne _ _ (by omega), va_up_ne _ _ (by omega)]; exact hii i hi
/-- who stays at home: 9 nobody -/
def cutsP (aw : Nat) (rain : Bool) (a : Nat → Nat) : Nat → Nat := if a 37 = 0 ∨ rain = true ∨ a 52 % a 37 = aw then a else cutP a (a 52 % a 37)
def dayP (aw : Nat) (rain : Bool) (a : Nat → Nat) : Nat → Nat := va_up (walkP (cutsP aw rain a)) 52 (a 52 + 1)
theorem cutsP_wf {a : Nat → Nat} (h : WF a) (aw : Nat) (rain : Bool) : WF (cutsP aw rain a) := by
  unfold cutsP
  split
  · exact h
  · rename_i c
    have h37 := h.2.2.1
    have := Nat.mod_lt (a 52) (show 0 < a 37 by omega)
    exact cutP_wf h (by omega)
theorem cutsP_ne {a : Nat → Nat} (h : WF a) {aw : Nat} {rain : Bool} {j : Nat} (h1 : j < 29 ∨ 33 ≤ j) (h2 : j ≠ 38) (h3 : j ≠ 0) : cutsP aw rain a j = a j := by
  unfold cutsP
  split
  · rfl
  · have h37 := h.2.2.1
    have := Nat.mod_lt (a 52) (show 0 < a 37 by omega)
    exact cutP_ne (by omega) h2 h3
theorem dayP_wf {a : Nat → Nat} (h : WF a) (aw : Nat) (rain : Bool) : WF (dayP aw rain a) := (walkP_wf (cutsP_wf h aw rain)).day _
theorem dayP_52 (a : Nat → Nat) (aw : Nat) (rain : Bool) : dayP aw rain a 52 = a 52 + 1 := va_up_self _ _ _
theorem dayP_ne {a : Nat → Nat} (h : WF a) {aw : Nat} {rain : Bool} {j : Nat} (h1 : j < 29 ∨ 33 ≤ j) (h2 : j ≠ 38) (h3 : j ≠ 0) (h4 : j < 39 ∨ 51 ≤ j) (h5 : j ≠ 52) : dayP aw rain a j = a j := by
  unfold dayP
  rw [va_up_ne _ _ h5, walkP_ne (cutsP_wf h aw rain) h4, cutsP_ne h h1 h2 h3]
def AW (x : Int32) (aw : Nat) : Prop := (aw = 9 ∧ x = -4) ∨ (aw < 4 ∧ x = nI aw)
theorem ml76 {p : Nat} (hp : p ≤ 265) : ∀ (k fuel : Nat) (M : Ob) (a : Nat → Nat), RM M p a → WF a → a 52 < 2147483647 → (∀ x, x < 16 → M 6 x = nI (dd (a 0) (a 24) x)) → k ≤ a 51 → k < fuel → ∃ M', f_X7_dayOn_l76 fuel M (nI p) (nI (a 51 - k)) = some M' ∧ RM M' p (va_up (wkP (a 51) k a) 52 (a 52 + 1)) ∧ FrM M M' p := by
  intro k
  induction k with
  | zero =>
    intro fuel M a hm h hd h6 hk hf
    obtain ⟨fuel, rfl⟩ : ∃ f, fuel = f + 1 := ⟨fuel - 1, by omega⟩
    have h51 := h.2.2.2.2.1
    have k51 : M 1 (p + 51) = nI (a 51) := hm.2 _ (by omega) (by omega)
    have k52 : M 1 (p + 52) = nI (a 52) := hm.2 _ (by omega) (by omega)
    unfold f_X7_dayOn_l76
    simp (disch := omega) only [fa_lit, nI_add, ck_nI, nI_cl, k51, k52, nI_le_iff]
    rw [if_pos (by omega)]
    exact ⟨_, rfl, hm.up _ (by omega) (by omega), FrM.ob M _ (by omega)⟩
  | succ k ih =>
    intro fuel M a hm h hd h6 hk hf
    obtain ⟨fuel, rfl⟩ : ∃ f, fuel = f + 1 := ⟨fuel - 1, by omega⟩
    have h51 := h.2.2.2.2.1
    have k51 : M 1 (p + 51) = nI (a 51) := hm.2 _ (by omega) (by omega)
    have e1 : a 51 - (k + 1) + 1 = a 51 - k := by omega
    generalize hi0 : a 51 - (k + 1) = i at *
    have hi : i < 4 := by omega
    have k47 : M 1 (p + 47 + i) = nI (a (47 + i)) := by rw [show p + 47 + i = p + (47 + i) from by omega]; exact hm.2 _ (by omega) (by omega)
    have b47 := (h.2.2.2.2.2.2 i hi).2.2
    have next : ∀ M1 : Ob, RM M1 p (gstP a i) → FrM M M1 p → M1 6 = M 6 → ∃ M', f_X7_dayOn_b112 (f_X7_dayOn_l76 fuel) M1 (nI p) (nI i) = some M' ∧ RM M' p (va_up (wkP (a 51) (k + 1) a) 52 (a 52 + 1)) ∧ FrM M M' p := by
      intro M1 r1 r2 r3
      unfold f_X7_dayOn_b112
      rw [fa_lit 1, nI_add, e1]
      have g51 : gstP a i 51 = a 51 := gstP_ne (by omega) (by omega) (by omega)
      have g52 : gstP a i 52 = a 52 := gstP_ne (by omega) (by omega) (by omega)
      have g0 : gstP a i 0 = a 0 := gstP_ne (by omega) (by omega) (by omega)
      have g24 : gstP a i 24 = a 24 := gstP_ne (by omega) (by omega) (by omega)
      have := ih fuel M1 (gstP a i) r1 (gstP_wf h hi) (by rw [g52]; exact hd) (fun x hx => by rw [r3, g0, g24]; exact h6 x hx) (by omega) (by omega)
      rw [g51, g52] at this
      obtain ⟨M', s1, s2, s3⟩ := this
      refine ⟨M', s1, ?_, r2.tr s3⟩
      show RM M' p (va_up (wkP (a 51) k (gstP a (a 51 - (k + 1)))) 52 (a 52 + 1))
      rw [hi0]
      exact s2
    unfold f_X7_dayOn_l76
    simp (disch := omega) only [fa_lit, nI_add, ck_nI, nI_cl, k51, k47, nI_le_iff, nI_eq_iff]
    rw [if_neg (by omega)]
    by_cases c : a (47 + i) = 0
    · rw [if_pos c]
      obtain ⟨M1, r0, r1, r2, r3⟩ := guestOn_ok hm hp h hi c h6
      rw [r0, Option.bind_some]
      exact next M1 r1 r2 r3
    · rw [if_neg c]
      have e : gstP a i = a := by unfold gstP; rw [if_pos c]
      exact next M (by rw [e]; exact hm) (FrM.rf M p) rfl
theorem mb59 {p : Nat} (hp : p ≤ 265) {M : Ob} {a : Nat → Nat} (hm : RM M p a) (h : WF a) (hd : a 52 < 2147483647) : ∃ M', f_X7_dayOn_b59 M (nI p) = some M' ∧ RM M' p (va_up (walkP a) 52 (a 52 + 1)) ∧ FrM M M' p := by
  have k24 : M 1 (p + 24) = nI (a 24) := hm.2 _ (by omega) (by omega)
  have h24 := h.2.1
  unfold f_X7_dayOn_b59
  simp (disch := omega) only [fa_lit, nI_add, ck_nI, nI_cl, k24]
  obtain ⟨M1, s1, s2, s3⟩ := stepsOn_ok hp h24 hm.1
  rw [s3, Option.bind_some]
  obtain ⟨M2, t1, t2, t3⟩ := ml76 hp (a 51) FUEL M1 a (hm.six s1) h hd (fun x hx => by rw [s2.1 x hx, rlT_dist h24 hx]; rfl) (Nat.le_refl _) (by have := h.2.2.2.2.1; unfold FUEL; omega)
  rw [Nat.sub_self] at t1
  exact ⟨M2, t1, t2, (FrM.six s1).tr t3⟩
theorem dayOn_ok {p : Nat} (hp : p ≤ 265) {M : Ob} {a : Nat → Nat} (hm : RM M p a) (h : WF a) (hd : a 52 < 2147483647) {aw : Nat} (haw : AW (M 0 16) aw) (rain : Bool) : ∃ M', f_X7_dayOn M (nI p) (if rain then 1 else 0) = some M' ∧ RM M' p (dayP aw rain a) ∧ FrM M M' p := by
  have h37 := h.2.2.1
  have k37 : M 1 (p + 37) = nI (a 37) := hm.2 _ (by omega) (by omega)
  have k52 : M 1 (p + 52) = nI (a 52) := hm.2 _ (by omega) (by omega)
  have b18 : (a 37 = 0 ∨ rain = true ∨ a 52 % a 37 = aw) → ∃ M', f_X7_dayOn_b59 M (nI p) = some M' ∧ RM M' p (dayP aw rain a) ∧ FrM M M' p := by
    intro c
    unfold dayP cutsP
    rw [if_pos c]
    exact mb59 hp hm h hd
  unfold f_X7_dayOn f_X7_dayOn_b18 f_X7_dayOn_b34
  simp (disch := omega) only [fa_lit, nI_add, ck_nI, nI_cl, k37, k52, nI_eq_iff]
  by_cases c1 : a 37 = 0
  · rw [if_pos c1, if_pos trivial]
    exact b18 (Or.inl c1)
  · rw [if_neg c1]
    have hlt := Nat.mod_lt (a 52) (show 0 < a 37 by omega)
    cases rain with
    | true =>
      rw [if_neg (show ¬ (if true = true then nI 1 else nI 0) = nI 0 from by decide)]
      exact b18 (Or.inr (Or.inl rfl))
    | false =>
      rw [if_pos (show (if false = true then nI 1 else nI 0) = nI 0 from rfl), ckn_nI (by omega) (by omega), nI_rem (by omega) (by omega), if_neg (nI_ne_neg (by omega) (by omega) (by omega))]
      have cut : a 52 % a 37 ≠ aw → ∃ M', ((f_X7_cutsOn M (nI p) (nI (a 52 % a 37))).bind fun q17 => f_X7_dayOn_b59 q17 (nI p)) = some M' ∧ RM M' p (dayP aw false a) ∧ FrM M M' p := by
        intro ne
        obtain ⟨M1, r0, r1, r2, r3⟩ := cutsOn_ok hm hp h (show a 52 % a 37 < 4 by omega)
        rw [r0, Option.bind_some]
        have e52 : cutP a (a 52 % a 37) 52 = a 52 := cutP_ne (by omega) (by omega) (by omega)
        obtain ⟨M2, t1, t2, t3⟩ := mb59 hp r1 (cutP_wf h (by omega)) (by rw [e52]; exact hd)
        refine ⟨M2, t1, ?_, r2.tr t3⟩
        unfold dayP cutsP
        rw [if_neg (by simp [c1, ne])]
        rw [e52] at t2
        exact t2
      rcases haw with ⟨w1, w2⟩ | ⟨w1, w2⟩
      · rw [w2, if_neg (show ¬ nI (a 52 % a 37) = -4 from nI_ne_neg (a := a 52 % a 37) (k := 4) (by omega) (by omega) (by omega))]
        exact cut (by omega)
      · rw [w2]
        by_cases e : a 52 % a 37 = aw
        · rw [if_pos (by rw [e])]
          exact b18 (Or.inr (Or.inr e))
        · rw [if_neg (fun q => e ((nI_eq_iff (by omega) (by omega)).mp q))]
          exact cut e
/-- a day of the class' Maze -/
theorem RZ.day {z : Ob} {a : Nat → Nat} (hz : RZ z a) (h : WF a) (v : Nat) : RZ (ob z 0 3 (nI v)) (va_up a 52 v) := by
  obtain ⟨z0, z1, z2, z3, z4, z8, zg, zi⟩ := hz
  have h37 := h.2.2.1
  have h51 := h.2.2.2.2.1
  refine ⟨?_, ?_, ?_, ?_, ?_, ?_, fun j hj => ?_, fun i hi => ?_⟩
  · rw [ob_at, if_pos rfl, if_neg (by decide), va_up_ne _ _ (by omega)]; exact z0
  · rw [ob_at, if_pos rfl, if_neg (by decide), va_up_ne _ _ (by omega)]; exact z1
  · rw [ob_at, if_pos rfl, if_neg (by decide), va_up_ne _ _ (by omega)]; exact z2
  · rw [ob_at, if_pos rfl, if_pos rfl, va_up_self]
  · rw [ob_at, if_pos rfl, if_neg (by decide), va_up_ne _ _ (by omega)]; exact z4
  · rw [ob_at, if_pos rfl, if_neg (by decide), va_up_ne _ _ (by omega)]; exact z8
  · rw [va_up_ne _ _ (by omega)] at hj
    rw [ob_at, if_neg (by decide), ob_at, if_neg (by decide), ob_at, if_neg (by decide), va_up_ne _ _ (by omega), va_up_ne _ _ (by omega), va_up_ne _ _ (by omega)]
    exact zg j hj
  · rw [va_up_ne _ _ (by omega)] at hi
    rw [ob_at, if_neg (by decide), ob_at, if_neg (by decide), ob_at, if_neg (by decide), va_up_ne _ _ (by omega), va_up_ne _ _ (by omega), va_up_ne _ _ (by omega)]
    exact zi i hi
theorem mowP_52 {a : Nat → Nat} (h : WF a) : mowP a 52 = a 52 := by
  unfold mowP
  split
  · rfl
  · have h37 := h.2.2.1
    have := Nat.mod_lt (a 52) (show 0 < a 37 by omega)
    exact cutP_ne (by omega) (by omega) (by omega)
theorem mowP_cuts {a : Nat → Nat} (h : WF a) : cutsP 9 false a = mowP a := by
  unfold cutsP mowP
  by_cases c : a 37 = 0
  · rw [if_pos (Or.inl c), if_pos c]
  · have h37 := h.2.2.1
    have := Nat.mod_lt (a 52) (show 0 < a 37 by omega)
    rw [if_neg (by simp [c]; omega), if_neg c]
theorem guests_day {z : Ob} {a : Nat → Nat} (hz : RZ z a) (h : WF a) : ∃ z', f_X1_passDayOfGuests z = some z' ∧ RZ z' (va_up (walkP a) 52 (a 52 + 1)) := by
  obtain ⟨z1, w1, w2⟩ := walk_ok hz h
  unfold f_X1_passDayOfGuests
  rw [w1, Option.bind_some]
  refine ⟨_, rfl, ?_⟩
  rw [w2.2.2.2.1, fa_lit 1, nI_add, walkP_ne h (by omega)]
  exact w2.day (walkP_wf h) _
/-- days of the class -/
def itP (f : (Nat → Nat) → Nat → Nat) : Nat → (Nat → Nat) → Nat → Nat
  | 0, a => a
  | n + 1, a => itP f n (f a)
theorem passDays_l {n : Nat} (hn : n ≤ 60) : ∀ (k fuel : Nat) (z : Ob) (a : Nat → Nat), RZ z a → WF a → a 52 + k < 2147483647 → k ≤ n → k < fuel → ∃ z', f_X1_passDays_l2 fuel z (nI n) (nI (n - k)) = some z' ∧ RZ z' (itP (dayP 9 false) k a) ∧ WF (itP (dayP 9 false) k a) := by
  intro k
  induction k with
  | zero =>
    intro fuel z a hz h hd hk hf
    obtain ⟨fuel, rfl⟩ : ∃ f, fuel = f + 1 := ⟨fuel - 1, by omega⟩
    unfold f_X1_passDays_l2
    simp (disch := omega) only [nI_le_iff]
    rw [if_pos (by omega)]
    exact ⟨z, rfl, hz, h⟩
  | succ k ih =>
    intro fuel z a hz h hd hk hf
    obtain ⟨fuel, rfl⟩ : ∃ f, fuel = f + 1 := ⟨fuel - 1, by omega⟩
    unfold f_X1_passDays_l2
    simp (disch := omega) only [nI_le_iff]
    rw [if_neg (by omega)]
    obtain ⟨z1, w1, w2⟩ := mow_ok hz h (by omega)
    rw [w1, Option.bind_some]
    obtain ⟨z2, v1, v2⟩ := walk_ok w2 (mowP_wf h)
    rw [v1, Option.bind_some, v2.2.2.2.1, fa_lit 1, nI_add, nI_add, show n - (k + 1) + 1 = n - k from by omega, walkP_ne (mowP_wf h) (by omega), mowP_52 h]
    have e : va_up (walkP (mowP a)) 52 (a 52 + 1) = dayP 9 false a := by unfold dayP; rw [mowP_cuts h]
    have r := v2.day (walkP_wf (mowP_wf h)) (a 52 + 1)
    rw [e] at r
    exact ih fuel _ (dayP 9 false a) r (dayP_wf h 9 false) (by rw [dayP_52]; omega) (by omega) (by omega)
theorem passDays_ok {n : Nat} (hn : n ≤ 60) {z : Ob} {a : Nat → Nat} (hz : RZ z a) (h : WF a) (hd : a 52 ≤ 2000) : ∃ z', f_X1_passDays z (nI n) = some z' ∧ RZ z' (itP (dayP 9 false) n a) ∧ WF (itP (dayP 9 false) n a) := by
  have := passDays_l hn n FUEL z a hz h (by omega) (Nat.le_refl _) (by unfold FUEL; omega)
  rw [Nat.sub_self] at this
  exact this
