/-! the model's standOn, lastOn, bitsOf -/
theorem mod_or_bit (H j : Nat) : H % 2 ^ j ||| hbt H j <<< j = H % 2 ^ (j + 1) := by
  apply Nat.eq_of_testBit_eq
  intro i
  rw [Nat.testBit_or, Nat.testBit_mod_two_pow, Nat.testBit_mod_two_pow, Nat.testBit_shiftLeft]
  unfold hbt
  by_cases e : i = j
  · subst e
    cases b : H.testBit i <;> simp
  · by_cases l : i < j
    · simp [l, show i < j + 1 from by omega, show ¬ j ≤ i from by omega]
    · have h1 : (1 : Nat).testBit (i - j) = false := by rw [show (1 : Nat) = 2 ^ 0 from rfl, Nat.testBit_two_pow]; simp; omega
      cases b : H.testBit j <;> simp [l, show ¬ i < j + 1 from by omega, h1]
theorem standOn_l {M : Ob} {p H : Nat} (hz : RH M p H) (hp : p ≤ 265) : ∀ (k fuel : Nat), k ≤ 24 → k < fuel → f_X7_standOn_l4 fuel M (nI p) (nI (H % 2 ^ (24 - k))) (nI (24 - k)) = some (nI (H % 2 ^ 24)) := by
  intro k
  induction k with
  | zero =>
    intro fuel hk hf
    obtain ⟨fuel, rfl⟩ : ∃ f, fuel = f + 1 := ⟨fuel - 1, by omega⟩
    unfold f_X7_standOn_l4
    simp (disch := omega) only [fa_lit, nI_le_iff]
    rw [if_pos (by omega)]
  | succ k ih =>
    intro fuel hk hf
    obtain ⟨fuel, rfl⟩ : ∃ f, fuel = f + 1 := ⟨fuel - 1, by omega⟩
    have e1 : 24 - (k + 1) + 1 = 24 - k := by omega
    unfold f_X7_standOn_l4
    generalize hj : 24 - (k + 1) = j at *
    have kj := hz j (by omega)
    simp (disch := omega) only [fa_lit, nI_le_iff, nI_add, ck_nI, nI_cl, kj, fa_and, and31, nI_shl', fa_or, mod_or_bit, e1]
    rw [if_neg (by omega)]
    exact ih fuel (by omega) (by omega)
theorem standOn_ok {M : Ob} {p H : Nat} (hz : RH M p H) (hp : p ≤ 265) (hH : H < 16777216) : f_X7_standOn M (nI p) = some (nI H) := by
  unfold f_X7_standOn
  have := standOn_l hz hp 24 FUEL (by omega) (by unfold FUEL; omega)
  rw [Nat.sub_self, Nat.pow_zero, Nat.mod_one, Nat.mod_eq_of_lt (show H < 2 ^ 24 from hH)] at this
  exact this
theorem lastOn_ok {M : Ob} {p : Nat} {a : Nat → Nat} (hm : RM M p a) (hp : p ≤ 265) (h : WF a) : f_X7_lastOn M (nI p) = some (lastI (a 38)) := by
  have k38 : M 1 (p + 38) = nI (a 38) := hm.2 _ (by omega) (by omega)
  have h38 := h.2.2.2.1
  unfold f_X7_lastOn lastI
  simp (disch := omega) only [fa_lit, nI_add, ck_nI, nI_cl, k38, nI_eq_iff]
  by_cases c : a 38 = 0
  · rw [if_pos c, if_pos c]
  · rw [if_neg c, if_neg c, nI_sub (by omega)]
/-- how many bits -/
def pcb : Nat → Nat → Nat
  | 0, _ => 0
  | k + 1, m => m % 2 + pcb k (m / 2)
theorem pcb_le : ∀ k m, pcb k m ≤ k
  | 0, _ => Nat.le_refl _
  | k + 1, m => by
    have := pcb_le k (m / 2)
    show m % 2 + pcb k (m / 2) ≤ _
    omega
theorem pcb_0 : ∀ k, pcb k 0 = 0
  | 0 => rfl
  | k + 1 => by show 0 % 2 + pcb k (0 / 2) = 0; rw [Nat.zero_div, pcb_0 k]
theorem bitsOf_l : ∀ (k fuel c m : Nat), m < 2 ^ k → k ≤ 31 → c + k < 1000 → k < fuel → f_X7_bitsOf_l4 fuel (nI c) (nI m) = some (nI (c + pcb k m)) := by
  intro k
  induction k with
  | zero =>
    intro fuel c m hm hk hc hf
    obtain ⟨fuel, rfl⟩ : ∃ f, fuel = f + 1 := ⟨fuel - 1, by omega⟩
    have : m = 0 := by omega
    subst this
    unfold f_X7_bitsOf_l4
    simp (disch := omega) only [fa_lit, nI_le_iff]
    rw [if_pos (by omega)]
    rfl
  | succ k ih =>
    intro fuel c m hm hk hc hf
    obtain ⟨fuel, rfl⟩ : ∃ f, fuel = f + 1 := ⟨fuel - 1, by omega⟩
    have hp : (2 : Nat) ^ (k + 1) ≤ 2 ^ 31 := Nat.pow_le_pow_right (by decide) hk
    have hm2 : m < 2147483648 := by omega
    unfold f_X7_bitsOf_l4
    simp (disch := omega) only [fa_lit, nI_le_iff, fa_and, and31, nI_shr', nI_add]
    by_cases z : m = 0
    · subst z
      rw [if_pos (by omega), pcb_0]
      rfl
    · rw [if_neg (by omega), show m &&& 1 = m % 2 from by rw [show (1 : Nat) = 2 ^ 1 - 1 from rfl, Nat.and_two_pow_sub_one_eq_mod], show m >>> 1 = m / 2 from by rw [Nat.shiftRight_eq_div_pow]]
      rw [ih fuel (c + m % 2) (m / 2) (by rw [Nat.pow_succ] at hm; omega) (by omega) (by omega) (by omega)]
      show _ = some (nI (c + (m % 2 + pcb k (m / 2))))
      rw [Nat.add_assoc]
theorem bitsOf_ok {m : Nat} (h : m < 16777216) : f_X7_bitsOf (nI m) = some (nI (pcb 24 m)) := by
  unfold f_X7_bitsOf
  rw [fa_lit 0, bitsOf_l 24 FUEL 0 m h (by omega) (by omega) (by unfold FUEL; omega), Nat.zero_add]
