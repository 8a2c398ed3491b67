/-! the model's steps: isOpen, beside, stepsOn, turnOn -/
def hbt (H h : Nat) : Nat := if H.testBit h then 1 else 0
theorem hbt_lt (H h : Nat) : hbt H h < 2 := by unfold hbt; split <;> omega
theorem hbt_0 (H h : Nat) : hbt H h = 0 ↔ H.testBit h = false := by unfold hbt; cases H.testBit h <;> simp
def RH (z : Ob) (p H : Nat) : Prop := ∀ h, h < 24 → z 1 (p + h) = nI (hbt H h)
theorem isOpen_ok {z : Ob} {p H x s : Nat} (hz : RH z p H) (hp : p ≤ 265) (hx : x < 16) (hs : s < 4) : f_X7_isOpen z (nI p) (nI x) (nI s) = some (if opn H x s then 1 else 0) := by
  unfold f_X7_isOpen
  rcases (show s = 0 ∨ s = 1 ∨ s = 2 ∨ s = 3 by omega) with rfl | rfl | rfl | rfl
  · simp (disch := omega) only [fa_lit, nI_eq_iff, nI_div, nI_le_iff, nI_add, nI_cl]
    rw [if_pos trivial]
    by_cases c : x / 4 ≤ 0
    · rw [if_pos c, if_neg]
      simp [opn]; omega
    · rw [if_neg c, ck_nI (by omega) (by omega), show p + 8 + x = p + (8 + x) from by omega, hz (8 + x) (by omega)]
      have := hbt_lt H (8 + x)
      simp (disch := omega) only [nI_eq_iff]
      by_cases b : H.testBit (8 + x) = true
      · rw [if_neg (by rw [hbt_0]; simp [b]), if_neg (by simp [opn, b])]
      · rw [if_pos (by rw [hbt_0]; simpa using b), if_pos (by simp [opn]; exact ⟨by omega, by simpa using b⟩)]
  · simp (disch := omega) only [fa_lit, nI_eq_iff]
    rw [if_neg (by omega), if_pos trivial]
    simp (disch := omega) only [nI_rem', nI_div, nI_le_iff]
    by_cases c : x % 4 ≤ 0
    · rw [if_pos c, if_neg]
      simp [opn]; omega
    · rw [if_neg c]
      simp (disch := omega) only [nI_mul, nI_add, nI_sub, nI_cl]
      rw [ck_nI (by omega) (by omega), show p + 3 * (x / 4) + x % 4 - 1 = p + (3 * (x / 4) + x % 4 - 1) from by omega, hz _ (by omega)]
      have := hbt_lt H (3 * (x / 4) + x % 4 - 1)
      simp (disch := omega) only [nI_eq_iff]
      by_cases b : H.testBit (3 * (x / 4) + x % 4 - 1) = true
      · rw [if_neg (by rw [hbt_0]; simp [b]), if_neg (by simp [opn, b])]
      · rw [if_pos (by rw [hbt_0]; simpa using b), if_pos (by simp [opn]; exact ⟨by omega, by simpa using b⟩)]
  · simp (disch := omega) only [fa_lit, nI_eq_iff]
    rw [if_neg (by omega), if_neg (by omega), if_pos trivial]
    simp (disch := omega) only [nI_rem', nI_div, nI_le_iff]
    by_cases c : 3 ≤ x % 4
    · rw [if_pos c, if_neg]
      simp [opn]; omega
    · rw [if_neg c]
      simp (disch := omega) only [nI_mul, nI_add, nI_sub, nI_cl]
      rw [ck_nI (by omega) (by omega), show p + 3 * (x / 4) + x % 4 = p + (3 * (x / 4) + x % 4) from by omega, hz _ (by omega)]
      have := hbt_lt H (3 * (x / 4) + x % 4)
      simp (disch := omega) only [nI_eq_iff]
      by_cases b : H.testBit (3 * (x / 4) + x % 4) = true
      · rw [if_neg (by rw [hbt_0]; simp [b]), if_neg (by simp [opn, b])]
      · rw [if_pos (by rw [hbt_0]; simpa using b), if_pos (by simp [opn]; exact ⟨by omega, by simpa using b⟩)]
  · simp (disch := omega) only [fa_lit, nI_eq_iff]
    rw [if_neg (by omega), if_neg (by omega), if_neg (by omega)]
    simp (disch := omega) only [nI_div, nI_le_iff, nI_add, nI_cl]
    by_cases c : 3 ≤ x / 4
    · rw [if_pos c, if_neg]
      simp [opn]; omega
    · rw [if_neg c, ck_nI (by omega) (by omega), show p + 12 + x = p + (12 + x) from by omega, hz (12 + x) (by omega)]
      have := hbt_lt H (12 + x)
      simp (disch := omega) only [nI_eq_iff]
      by_cases b : H.testBit (12 + x) = true
      · rw [if_neg (by rw [hbt_0]; simp [b]), if_neg (by simp [opn, b])]
      · rw [if_pos (by rw [hbt_0]; simpa using b), if_pos (by simp [opn]; exact ⟨by omega, by simpa using b⟩)]
theorem mbeside_ok {H x s : Nat} (hx : x < 16) (hs : s < 4) (ho : opn H x s = true) : f_X7_beside (nI x) (nI s) = some (nI (nbr x s)) := by
  unfold f_X7_beside
  rcases (show s = 0 ∨ s = 1 ∨ s = 2 ∨ s = 3 by omega) with rfl | rfl | rfl | rfl
  · have : 4 ≤ x := by simp [opn] at ho; omega
    simp (disch := omega) only [fa_lit, nI_eq_iff, nI_sub]
    rfl
  · have : x % 4 ≠ 0 := by simp [opn] at ho; omega
    simp (disch := omega) only [fa_lit, nI_eq_iff, nI_sub]
    rfl
  · simp (disch := omega) only [fa_lit, nI_eq_iff, nI_add]
    rfl
  · simp (disch := omega) only [fa_lit, nI_eq_iff, nI_add]
    rfl
/-- one look at a side; all sides of a plot; all plots -/
def rl1 (H x : Nat) (s : Nat) (q : (Nat → Nat) × Nat) : (Nat → Nat) × Nat := if opn H x s = true ∧ q.1 (nbr x s) + 1 < q.1 x then (va_up q.1 x (q.1 (nbr x s) + 1), 1) else q
/-- sides s .. 3, by how many are left -/
def rl4 (H x : Nat) : Nat → (Nat → Nat) × Nat → (Nat → Nat) × Nat
  | 0, q => q
  | k + 1, q => rl4 H x k (rl1 H x (3 - k) q)
/-- plots x .. 15, by how many are left -/
def rl16 (H : Nat) : Nat → (Nat → Nat) × Nat → (Nat → Nat) × Nat
  | 0, q => q
  | k + 1, q => rl16 H k (rl4 H (15 - k) 4 q)
/-- turns, by how many are left -/
def rlT (H : Nat) : Nat → (Nat → Nat) × Nat → (Nat → Nat)
  | 0, q => q.1
  | k + 1, q => if q.2 = 0 then q.1 else rlT H k (rl16 H 16 (q.1, 0))
def R6 (z : Ob) (s : Nat → Nat) : Prop := (∀ x, x < 16 → z 6 x = nI (s x)) ∧ ∀ x, x < 16 → s x ≤ 99
def Same6 (z z' : Ob) : Prop := ∀ c, c ≠ 6 → z' c = z c
theorem Same6.rf (z : Ob) : Same6 z z := fun _ _ => rfl
theorem Same6.tr {a b c : Ob} (h : Same6 a b) (h2 : Same6 b c) : Same6 a c := fun k hk => (h2 k hk).trans (h k hk)
theorem Same6.ob (z : Ob) (k : Nat) (v : Int32) : Same6 z (ob z 6 k v) := fun c hc => va_up_ne _ _ hc
theorem RH.same {z z' : Ob} {p H : Nat} (h : RH z p H) (hs : Same6 z z') : RH z' p H := fun k hk => by rw [hs 1 (by decide)]; exact h k hk
theorem R6.up {z : Ob} {s : Nat → Nat} (h : R6 z s) {x v : Nat} (hv : v ≤ 99) : R6 (ob z 6 x (nI v)) (va_up s x v) := by
  refine ⟨fun y hy => ?_, fun y hy => ?_⟩
  · show (va_up z 6 (upd (z 6) x (nI v))) 6 y = _
    rw [va_up_self]
    unfold upd
    by_cases e : y = x
    · subst e; rw [if_pos rfl, va_up_self]
    · rw [if_neg e, va_up_ne _ _ e]; exact h.1 y hy
  · by_cases e : y = x
    · subst e; rw [va_up_self]; exact hv
    · rw [va_up_ne _ _ e]; exact h.2 y hy
theorem sl62 {H p : Nat} (hp : p ≤ 265) (k36 : Ob → Int32 → Int32 → Int32 → Option Ob) (k52 : Ob → Int32 → Int32 → Int32 → Int32 → Option Ob) (x4 : Int32) {x : Nat} (hx : x < 16) : ∀ (k fuel : Nat) (z : Ob) (q : (Nat → Nat) × Nat), k ≤ 4 → k < fuel → RH z p H → R6 z q.1 → q.2 < 2 → ∃ z', Same6 z z' ∧ R6 z' (rl4 H x k q).1 ∧ (rl4 H x k q).2 < 2 ∧ f_X7_stepsOn_l62 k36 k52 fuel z (nI p) (nI q.2) x4 (nI x) (nI (4 - k)) = k52 z' (nI p) (nI (rl4 H x k q).2) x4 (nI (x + 1)) := by
  intro k
  induction k with
  | zero =>
    intro fuel z q hk hf hz h6 hq
    obtain ⟨fuel, rfl⟩ : ∃ f, fuel = f + 1 := ⟨fuel - 1, by omega⟩
    refine ⟨z, Same6.rf z, h6, hq, ?_⟩
    unfold f_X7_stepsOn_l62
    simp (disch := omega) only [fa_lit, nI_le_iff, nI_add]
    rw [if_pos (by omega)]
    rfl
  | succ k ih =>
    intro fuel z q hk hf hz h6 hq
    obtain ⟨fuel, rfl⟩ : ∃ f, fuel = f + 1 := ⟨fuel - 1, by omega⟩
    have e3 : 4 - (k + 1) = 3 - k := by omega
    have e4 : 3 - k + 1 = 4 - k := by omega
    have hop := isOpen_ok (s := 3 - k) hz hp hx (by omega)
    unfold f_X7_stepsOn_l62
    by_cases ho : opn H x (3 - k) = true
    · rw [if_pos ho] at hop
      rw [e3, hop]
      simp (disch := omega) only [fa_lit, nI_le_iff, nI_eq_iff, Option.bind_some]
      rw [if_neg (by omega), if_neg (by omega), mbeside_ok hx (by omega) ho, Option.bind_some]
      have hn := nbr_lt hx ho
      rw [ck_nI hn (by omega), ck_nI hx (by omega), nI_cl (by omega), nI_cl (by omega), h6.1 _ hn, h6.1 _ hx]
      have b1 := h6.2 _ hn
      have b2 := h6.2 _ hx
      simp (disch := omega) only [nI_add, nI_le_iff]
      by_cases hc : q.1 x ≤ q.1 (nbr x (3 - k)) + 1
      · rw [if_pos hc]
        have hr : rl1 H x (3 - k) q = q := by unfold rl1; rw [if_neg (by omega)]
        unfold f_X7_stepsOn_b127
        have := ih fuel z q (by omega) (by omega) hz h6 hq
        rw [fa_lit 1, nI_add, e4]
        show ∃ z', Same6 z z' ∧ R6 z' (rl4 H x k (rl1 H x (3 - k) q)).1 ∧ _
        rw [show rl4 H x (k + 1) q = rl4 H x k (rl1 H x (3 - k) q) from rfl, hr]
        exact this
      · rw [if_neg hc, Option.bind_some, ck_nI hn (by omega), ck_nI hx (by omega), nI_cl (by omega), h6.1 _ hn, nI_add]
        have hr : rl1 H x (3 - k) q = (va_up q.1 x (q.1 (nbr x (3 - k)) + 1), 1) := by unfold rl1; rw [if_pos ⟨ho, by omega⟩]
        unfold f_X7_stepsOn_b127
        obtain ⟨z', s1, s2, s3, s4⟩ := ih fuel (ob z 6 x (nI (q.1 (nbr x (3 - k)) + 1))) (va_up q.1 x (q.1 (nbr x (3 - k)) + 1), 1) (by omega) (by omega) (hz.same (Same6.ob _ _ _)) (h6.up (by omega)) (show 1 < 2 by decide)
        refine ⟨z', (Same6.ob _ _ _).tr s1, ?_⟩
        rw [fa_lit 1, nI_add, e4, show rl4 H x (k + 1) q = rl4 H x k (rl1 H x (3 - k) q) from rfl, hr]
        exact ⟨s2, s3, s4⟩
    · rw [if_neg ho] at hop
      rw [e3, hop]
      simp (disch := omega) only [fa_lit, nI_le_iff, nI_eq_iff, Option.bind_some]
      rw [if_neg (by omega), if_pos trivial]
      have hr : rl1 H x (3 - k) q = q := by unfold rl1; rw [if_neg (fun c => ho c.1)]
      unfold f_X7_stepsOn_b127
      rw [fa_lit 1, nI_add, e4, show rl4 H x (k + 1) q = rl4 H x k (rl1 H x (3 - k) q) from rfl, hr]
      exact ih fuel z q (by omega) (by omega) hz h6 hq
theorem sl52 {H p : Nat} (hp : p ≤ 265) (k36 : Ob → Int32 → Int32 → Int32 → Option Ob) {t : Nat} (ht : t < 16) : ∀ (k fuel : Nat) (z : Ob) (q : (Nat → Nat) × Nat), k ≤ 16 → k < fuel → RH z p H → R6 z q.1 → q.2 < 2 → ∃ z', Same6 z z' ∧ R6 z' (rl16 H k q).1 ∧ (rl16 H k q).2 < 2 ∧ f_X7_stepsOn_l52 k36 fuel z (nI p) (nI q.2) (nI t) (nI (16 - k)) = k36 z' (nI p) (nI (rl16 H k q).2) (nI (t + 1)) := by
  intro k
  induction k with
  | zero =>
    intro fuel z q hk hf hz h6 hq
    obtain ⟨fuel, rfl⟩ : ∃ f, fuel = f + 1 := ⟨fuel - 1, by omega⟩
    refine ⟨z, Same6.rf z, h6, hq, ?_⟩
    unfold f_X7_stepsOn_l52
    simp (disch := omega) only [fa_lit, nI_le_iff, nI_add]
    rw [if_pos (by omega)]
    rfl
  | succ k ih =>
    intro fuel z q hk hf hz h6 hq
    obtain ⟨fuel, rfl⟩ : ∃ f, fuel = f + 1 := ⟨fuel - 1, by omega⟩
    have e3 : 16 - (k + 1) = 15 - k := by omega
    have e4 : 15 - k + 1 = 16 - k := by omega
    unfold f_X7_stepsOn_l52
    rw [e3]
    simp (disch := omega) only [fa_lit, nI_le_iff]
    rw [if_neg (by omega)]
    obtain ⟨z1, a1, a2, a3, a4⟩ := sl62 hp k36 (f_X7_stepsOn_l52 k36 fuel) (nI t) (x := 15 - k) (by omega) 4 FUEL z q (by omega) (by unfold FUEL; omega) hz h6 hq
    rw [show (4 : Nat) - 4 = 0 from rfl] at a4
    rw [a4, e4]
    obtain ⟨z2, b1, b2, b3, b4⟩ := ih fuel z1 (rl4 H (15 - k) 4 q) (by omega) (by omega) (hz.same a1) a2 a3
    exact ⟨z2, a1.tr b1, b2, b3, b4⟩
theorem sl36 {H p : Nat} (hp : p ≤ 265) : ∀ (k fuel : Nat) (z : Ob) (q : (Nat → Nat) × Nat), k ≤ 16 → k < fuel → RH z p H → R6 z q.1 → q.2 < 2 → ∃ z', Same6 z z' ∧ R6 z' (rlT H k q) ∧ f_X7_stepsOn_l36 fuel z (nI p) (nI q.2) (nI (16 - k)) = some z' := by
  intro k
  induction k with
  | zero =>
    intro fuel z q hk hf hz h6 hq
    obtain ⟨fuel, rfl⟩ : ∃ f, fuel = f + 1 := ⟨fuel - 1, by omega⟩
    refine ⟨z, Same6.rf z, h6, ?_⟩
    unfold f_X7_stepsOn_l36
    simp (disch := omega) only [fa_lit, nI_le_iff]
    rw [if_pos (by omega)]
  | succ k ih =>
    intro fuel z q hk hf hz h6 hq
    obtain ⟨fuel, rfl⟩ : ∃ f, fuel = f + 1 := ⟨fuel - 1, by omega⟩
    unfold f_X7_stepsOn_l36
    simp (disch := omega) only [fa_lit, nI_le_iff, nI_eq_iff]
    rw [if_neg (by omega)]
    by_cases h0 : q.2 = 0
    · rw [if_pos h0]
      refine ⟨z, Same6.rf z, ?_, rfl⟩
      unfold rlT
      rw [if_pos h0]
      exact h6
    · rw [if_neg h0]
      obtain ⟨z1, a1, a2, a3, a4⟩ := sl52 hp (f_X7_stepsOn_l36 fuel) (t := 16 - (k + 1)) (by omega) 16 FUEL z (q.1, 0) (by omega) (by unfold FUEL; omega) hz h6 (show 0 < 2 by decide)
      rw [show (16 : Nat) - 16 = 0 from rfl, show 16 - (k + 1) + 1 = 16 - k from by omega] at a4
      rw [a4]
      obtain ⟨z2, b1, b2, b3⟩ := ih fuel z1 (rl16 H 16 (q.1, 0)) (by omega) (by omega) (hz.same a1) a2 a3
      refine ⟨z2, a1.tr b1, ?_, b3⟩
      unfold rlT
      rw [if_neg h0]
      exact b2
def st0 (g : Nat) : Nat → Nat := fun x => if x = g then 0 else 99
theorem sl2 {H p g : Nat} (hp : p ≤ 265) (hg : g < 16) : ∀ (k fuel : Nat) (z : Ob), k ≤ 16 → k < fuel → RH z p H → (∀ x, x < 16 - k → z 6 x = nI (st0 g x)) → ∃ z', Same6 z z' ∧ R6 z' (rlT H 16 (st0 g, 1)) ∧ f_X7_stepsOn_l2 fuel z (nI p) (nI g) (nI (16 - k)) = some z' := by
  intro k
  induction k with
  | zero =>
    intro fuel z hk hf hz h6
    obtain ⟨fuel, rfl⟩ : ∃ f, fuel = f + 1 := ⟨fuel - 1, by omega⟩
    unfold f_X7_stepsOn_l2
    simp (disch := omega) only [fa_lit, nI_le_iff]
    rw [if_pos (by omega)]
    exact sl36 hp 16 FUEL z (st0 g, 1) (by omega) (by unfold FUEL; omega) hz ⟨fun x hx => h6 x (by omega), fun x _ => by show st0 g x ≤ 99; unfold st0; split <;> omega⟩ (show 1 < 2 by decide)
  | succ k ih =>
    intro fuel z hk hf hz h6
    obtain ⟨fuel, rfl⟩ : ∃ f, fuel = f + 1 := ⟨fuel - 1, by omega⟩
    have e4 : 16 - (k + 1) + 1 = 16 - k := by omega
    have go : ∀ v : Nat, v = st0 g (16 - (k + 1)) → ∃ z', Same6 z z' ∧ R6 z' (rlT H 16 (st0 g, 1)) ∧ f_X7_stepsOn_b24 (f_X7_stepsOn_l2 fuel) z (nI p) (nI g) (nI (16 - (k + 1))) (nI v) (nI (16 - (k + 1))) = some z' := by
      intro v hv
      unfold f_X7_stepsOn_b24
      rw [ck_nI (by omega) (by omega), nI_cl (by omega), fa_lit 1, nI_add, e4]
      obtain ⟨z', a1, a2, a3⟩ := ih fuel (ob z 6 (16 - (k + 1)) (nI v)) (by omega) (by omega) (hz.same (Same6.ob _ _ _)) (fun x hx => by
        show (va_up z 6 (upd (z 6) (16 - (k + 1)) (nI v))) 6 x = _
        rw [va_up_self]
        unfold upd
        by_cases e : x = 16 - (k + 1)
        · rw [if_pos e, hv, e]
        · rw [if_neg e]; exact h6 x (by omega))
      exact ⟨z', (Same6.ob _ _ _).tr a1, a2, a3⟩
    unfold f_X7_stepsOn_l2
    simp (disch := omega) only [fa_lit, nI_le_iff, nI_eq_iff]
    rw [if_neg (by omega)]
    by_cases hx : 16 - (k + 1) = g
    · rw [if_pos hx]; exact go 0 (by unfold st0; rw [if_pos hx])
    · rw [if_neg hx]; exact go 99 (by unfold st0; rw [if_neg hx])
theorem stepsOn_ok {z : Ob} {H p g : Nat} (hp : p ≤ 265) (hg : g < 16) (hz : RH z p H) : ∃ z', Same6 z z' ∧ R6 z' (rlT H 16 (st0 g, 1)) ∧ f_X7_stepsOn z (nI p) (nI g) = some z' := by
  unfold f_X7_stepsOn
  exact sl2 hp hg 16 FUEL z (by omega) (by unfold FUEL; omega) hz (fun x hx => absurd hx (by omega))
