/-! Plots.beside, steps, toward, over numbers -/
def hdg (h : Nat) : Nat := (((h &&& 7) ||| ((h &&& 56) <<< 1)) ||| ((h &&& 448) <<< 2)) ||| ((h &&& 3584) <<< 3)
def acr (h : Nat) : Nat := (hdg h ^^^ 4294967295) &&& 30583
def dwn (h : Nat) : Nat := ((h >>> 12) ^^^ 4294967295) &&& 4095
def bsd (h p : Nat) : Nat := ((((p &&& acr h) <<< 1) ||| ((p >>> 1) &&& acr h)) ||| ((p &&& dwn h) <<< 4)) ||| ((p >>> 4) &&& dwn h)
theorem beside_ok {h p : Nat} (hh : h < 16777216) (hp : p < 2147483648) : f_X2_beside (nI h) (nI p) = some (nI (bsd h p)) := by
  unfold f_X2_beside bsd acr dwn hdg
  simp (disch := omega) only [fa_lit, m1_nI', fa_and, fa_or, fb_xorI, and31, nI_shl', nI_shr']
theorem tb7 (k : Nat) : (7 : Nat).testBit k = decide (k < 3) := by rw [show (7 : Nat) = 2 ^ 3 - 1 from rfl, Nat.testBit_two_pow_sub_one]
theorem tball {k : Nat} (h : k < 32) : (4294967295 : Nat).testBit k = true := by rw [show (4294967295 : Nat) = 2 ^ 32 - 1 from rfl, Nat.testBit_two_pow_sub_one]; simp [h]
theorem tb56 : ∀ k, k < 32 → (56 : Nat).testBit k = decide (3 ≤ k ∧ k < 6) := by decide +kernel
theorem tb448 : ∀ k, k < 32 → (448 : Nat).testBit k = decide (6 ≤ k ∧ k < 9) := by decide +kernel
theorem tb3584 : ∀ k, k < 32 → (3584 : Nat).testBit k = decide (9 ≤ k ∧ k < 12) := by decide +kernel
theorem tb30583 : ∀ k, k < 32 → (30583 : Nat).testBit k = decide (k < 16 ∧ k % 4 ≠ 3) := by decide +kernel
theorem tb4095 : ∀ k, k < 32 → (4095 : Nat).testBit k = decide (k < 12) := by decide +kernel
theorem acr_bit (h : Nat) : ∀ k, k < 16 → (acr h).testBit k = (decide (k % 4 ≠ 3) && !h.testBit (3 * (k / 4) + k % 4)) := by
  intro k hk
  unfold acr hdg
  rcases (show k = 0 ∨ k = 1 ∨ k = 2 ∨ k = 3 ∨ k = 4 ∨ k = 5 ∨ k = 6 ∨ k = 7 ∨ k = 8 ∨ k = 9 ∨ k = 10 ∨ k = 11 ∨ k = 12 ∨ k = 13 ∨ k = 14 ∨ k = 15 by omega) with rfl | rfl | rfl | rfl | rfl | rfl | rfl | rfl | rfl | rfl | rfl | rfl | rfl | rfl | rfl | rfl <;>
    simp [Nat.testBit_and, Nat.testBit_or, Nat.testBit_xor, Nat.testBit_shiftLeft, tb7, tball, tb56, tb448, tb3584, tb30583] <;> (try (rcases Nat.mod_two_eq_zero_or_one h with q | q <;> simp [q]))
theorem dwn_bit (h : Nat) : ∀ k, k < 16 → (dwn h).testBit k = (decide (k < 12) && !h.testBit (12 + k)) := by
  intro k hk
  unfold dwn
  simp [Nat.testBit_and, Nat.testBit_xor, Nat.testBit_shiftRight, tball (show k < 32 by omega), tb4095 k (by omega), Bool.and_comm]
theorem bsd_bit (h p : Nat) : ∀ y, y < 16 → (bsd h p).testBit y = (nsd h p.testBit y 0 || nsd h p.testBit y 1 || nsd h p.testBit y 2 || nsd h p.testBit y 3) := by
  intro y hy
  unfold bsd
  simp only [Nat.testBit_or, Nat.testBit_and, Nat.testBit_shiftLeft, Nat.testBit_shiftRight]
  rw [acr_bit h y hy, dwn_bit h y hy]
  have a1 : 1 ≤ y → (acr h).testBit (y - 1) = (decide ((y - 1) % 4 ≠ 3) && !h.testBit (3 * ((y - 1) / 4) + (y - 1) % 4)) := fun q => acr_bit h (y - 1) (by omega)
  have a4 : 4 ≤ y → (dwn h).testBit (y - 4) = (decide (y - 4 < 12) && !h.testBit (12 + (y - 4))) := fun q => dwn_bit h (y - 4) (by omega)
  rcases (show y = 0 ∨ y = 1 ∨ y = 2 ∨ y = 3 ∨ y = 4 ∨ y = 5 ∨ y = 6 ∨ y = 7 ∨ y = 8 ∨ y = 9 ∨ y = 10 ∨ y = 11 ∨ y = 12 ∨ y = 13 ∨ y = 14 ∨ y = 15 by omega) with rfl | rfl | rfl | rfl | rfl | rfl | rfl | rfl | rfl | rfl | rfl | rfl | rfl | rfl | rfl | rfl <;>
    simp [nsd, opn, nbr, a1, a4, Bool.and_comm, Bool.or_comm, Bool.or_assoc, Bool.or_left_comm]
theorem acr_lt (h : Nat) : acr h < 32768 := Nat.lt_of_le_of_lt (Nat.and_le_right) (by decide)
theorem dwn_lt (h : Nat) : dwn h < 4096 := Nat.lt_of_le_of_lt (Nat.and_le_right) (by decide)
theorem bsd_lt (h p : Nat) : bsd h p < 65536 := by
  unfold bsd
  have e1 : (p &&& acr h) <<< 1 < 2 ^ 16 := by
    have := Nat.lt_of_le_of_lt (Nat.and_le_right (n := p)) (acr_lt h)
    rw [Nat.shiftLeft_eq]; omega
  have e2 : (p >>> 1) &&& acr h < 2 ^ 16 := Nat.lt_of_lt_of_le (Nat.lt_of_le_of_lt Nat.and_le_right (acr_lt h)) (by decide)
  have e3 : (p &&& dwn h) <<< 4 < 2 ^ 16 := by
    have := Nat.lt_of_le_of_lt (Nat.and_le_right (n := p)) (dwn_lt h)
    rw [Nat.shiftLeft_eq]; omega
  have e4 : (p >>> 4) &&& dwn h < 2 ^ 16 := Nat.lt_of_lt_of_le (Nat.lt_of_le_of_lt Nat.and_le_right (dwn_lt h)) (by decide)
  exact Nat.or_lt_two_pow (Nat.or_lt_two_pow (Nat.or_lt_two_pow e1 e2) e3) e4
theorem opn_back {H x s : Nat} (hx : x < 16) (hs : s < 4) (h : opn H x s = true) : opn H (nbr x s) (3 - s) = true ∧ nbr (nbr x s) (3 - s) = x := by
  rcases (show s = 0 ∨ s = 1 ∨ s = 2 ∨ s = 3 by omega) with rfl | rfl | rfl | rfl
  · simp only [opn, nbr, Bool.and_eq_true, decide_eq_true_eq] at h ⊢
    simp at h ⊢
    refine ⟨⟨by omega, ?_⟩, by omega⟩
    rw [show 12 + (x - 4) = 8 + x from by omega]; exact h.2
  · simp only [opn, nbr, Bool.and_eq_true, decide_eq_true_eq] at h ⊢
    simp at h ⊢
    refine ⟨⟨by omega, ?_⟩, by omega⟩
    rw [show 3 * ((x - 1) / 4) + (x - 1) % 4 = 3 * (x / 4) + x % 4 - 1 from by omega]; exact h.2
  · simp only [opn, nbr, Bool.and_eq_true, decide_eq_true_eq] at h ⊢
    simp at h ⊢
    refine ⟨by omega, ?_⟩
    rw [show 3 * ((x + 1) / 4) + (x + 1) % 4 - 1 = 3 * (x / 4) + x % 4 from by omega]; exact h.2
  · simp only [opn, nbr, Bool.and_eq_true, decide_eq_true_eq] at h ⊢
    simp at h ⊢
    rw [show 8 + (x + 4) = 12 + x from by omega]; exact h.2
/-- the plots reached, as bits -/
def msk (H g : Nat) : Nat → Nat
  | 0 => 1 <<< g
  | n + 1 => msk H g n ||| bsd H (msk H g n)
theorem msk_lt {H g : Nat} (hg : g < 16) : ∀ n, msk H g n < 65536
  | 0 => by
    show 1 <<< g < 65536
    rw [Nat.shiftLeft_eq, Nat.one_mul]
    exact Nat.lt_of_le_of_lt (Nat.pow_le_pow_right (by decide) (show g ≤ 15 by omega)) (by decide)
  | n + 1 => Nat.or_lt_two_pow (n := 16) (msk_lt hg n) (bsd_lt _ _)
theorem nsd_congr {H : Nat} {R Q : Nat → Bool} {x : Nat} (hx : x < 16) (h : ∀ y, y < 16 → R y = Q y) (s : Nat) : nsd H R x s = nsd H Q x s := by
  unfold nsd
  cases q : opn H x s with
  | false => rfl
  | true => rw [h _ (nbr_lt hx q)]
theorem msk_bit {H g : Nat} : ∀ n x, x < 16 → (msk H g n).testBit x = rch H g n x
  | 0, x, _ => by
    show (1 <<< g).testBit x = decide (x = g)
    rw [show 1 <<< g = 2 ^ g from by rw [Nat.shiftLeft_eq, Nat.one_mul], Nat.testBit_two_pow]
    by_cases h : x = g
    · subst h; simp
    · simp [h, Ne.symm h]
  | n + 1, x, hx => by
    show (msk H g n ||| bsd H (msk H g n)).testBit x = _
    rw [Nat.testBit_or, msk_bit n x hx, bsd_bit _ _ x hx, rch_succ]
    unfold nrs
    rw [nsd_congr hx (msk_bit n) 0, nsd_congr hx (msk_bit n) 1, nsd_congr hx (msk_bit n) 2, nsd_congr hx (msk_bit n) 3]
/-- the four sides, as bits of the plots there -/
def vv (a : Nat) (b0 b1 b2 b3 : Bool) : Nat := ((if b0 then 2 ^ (a - 4) else 0) ||| (if b1 then 2 ^ (a - 1) else 0)) ||| ((if b2 then 2 ^ (a + 1) else 0) ||| (if b3 then 2 ^ (a + 4) else 0))
def fs4 (b0 b1 b2 : Bool) : Nat := if b0 then 0 else if b1 then 1 else if b2 then 2 else 3
def vok (a : Nat) (b0 b1 b2 b3 : Bool) : Bool := (!b0 || decide (4 ≤ a)) && (!b1 || decide (a % 4 ≠ 0)) && (!b2 || decide (a % 4 ≠ 3)) && (!b3 || decide (a < 12)) && (b0 || b1 || b2 || b3)
def isS (o : Option Int32) (v : Int32) : Bool := match o with
  | some w => decide (w = v)
  | none => false
theorem isS_eq {o : Option Int32} {v : Int32} (h : isS o v = true) : o = some v := by
  unfold isS at h
  cases o with
  | none => cases h
  | some w => simp at h; rw [h]
theorem ntz_ok0 : ∀ a, a < 16 → ∀ c, c < 16 → (!vok a (c.testBit 0) (c.testBit 1) (c.testBit 2) (c.testBit 3) || isS (f_J6_numberOfTrailingZeros_0f7a4 (nI (vv a (c.testBit 0) (c.testBit 1) (c.testBit 2) (c.testBit 3)))) (nI (nbr a (fs4 (c.testBit 0) (c.testBit 1) (c.testBit 2))))) = true := by decide +kernel
theorem ntz_ok (b0 b1 b2 b3 : Bool) (a : Nat) (ha : a < 16) (h : vok a b0 b1 b2 b3 = true) : f_J6_numberOfTrailingZeros_0f7a4 (nI (vv a b0 b1 b2 b3)) = some (nI (nbr a (fs4 b0 b1 b2))) := by
  apply isS_eq
  have go : ∀ c, c < 16 → c.testBit 0 = b0 → c.testBit 1 = b1 → c.testBit 2 = b2 → c.testBit 3 = b3 → isS (f_J6_numberOfTrailingZeros_0f7a4 (nI (vv a b0 b1 b2 b3))) (nI (nbr a (fs4 b0 b1 b2))) = true := by
    intro c hc e0 e1 e2 e3
    have q := ntz_ok0 a ha c hc
    rw [e0, e1, e2, e3, h] at q
    simpa using q
  cases b0 <;> cases b1 <;> cases b2 <;> cases b3
  · exact go 0 (by decide) (by decide) (by decide) (by decide) (by decide)
  · exact go 8 (by decide) (by decide) (by decide) (by decide) (by decide)
  · exact go 4 (by decide) (by decide) (by decide) (by decide) (by decide)
  · exact go 12 (by decide) (by decide) (by decide) (by decide) (by decide)
  · exact go 2 (by decide) (by decide) (by decide) (by decide) (by decide)
  · exact go 10 (by decide) (by decide) (by decide) (by decide) (by decide)
  · exact go 6 (by decide) (by decide) (by decide) (by decide) (by decide)
  · exact go 14 (by decide) (by decide) (by decide) (by decide) (by decide)
  · exact go 1 (by decide) (by decide) (by decide) (by decide) (by decide)
  · exact go 9 (by decide) (by decide) (by decide) (by decide) (by decide)
  · exact go 5 (by decide) (by decide) (by decide) (by decide) (by decide)
  · exact go 13 (by decide) (by decide) (by decide) (by decide) (by decide)
  · exact go 3 (by decide) (by decide) (by decide) (by decide) (by decide)
  · exact go 11 (by decide) (by decide) (by decide) (by decide) (by decide)
  · exact go 7 (by decide) (by decide) (by decide) (by decide) (by decide)
  · exact go 15 (by decide) (by decide) (by decide) (by decide) (by decide)
theorem vv_bit (a : Nat) (b0 b1 b2 b3 : Bool) (y : Nat) : (vv a b0 b1 b2 b3).testBit y = ((b0 && decide (a - 4 = y)) || (b1 && decide (a - 1 = y)) || (b2 && decide (a + 1 = y)) || (b3 && decide (a + 4 = y))) := by
  have h : ∀ (b : Bool) (k : Nat), (if b then 2 ^ k else 0 : Nat).testBit y = (b && decide (k = y)) := by
    intro b k
    cases b
    · simp
    · simp [Nat.testBit_two_pow]
  unfold vv
  rw [Nat.testBit_or, Nat.testBit_or, Nat.testBit_or, h, h, h, h, Bool.or_assoc, Bool.or_assoc, Bool.or_assoc]
theorem near_vv {H g n a : Nat} (ha : a < 16) (hg : g < 16) : msk H g n &&& bsd H (1 <<< a) = vv a (nsd H (rch H g n) a 0) (nsd H (rch H g n) a 1) (nsd H (rch H g n) a 2) (nsd H (rch H g n) a 3) := by
  apply Nat.eq_of_testBit_eq
  intro y
  rw [vv_bit, Nat.testBit_and]
  by_cases hy : y < 16
  · rw [msk_bit n y hy, bsd_bit _ _ y hy]
    have one : ∀ x, (1 <<< a).testBit x = decide (a = x) := fun x => by rw [show 1 <<< a = 2 ^ a from by rw [Nat.shiftLeft_eq, Nat.one_mul], Nat.testBit_two_pow]
    rw [Bool.eq_iff_iff]
    simp only [Bool.and_eq_true, Bool.or_eq_true, nsd, one, decide_eq_true_eq]
    constructor
    · rintro ⟨hr, (((⟨h1, h2⟩ | ⟨h1, h2⟩) | ⟨h1, h2⟩) | ⟨h1, h2⟩)⟩
      · have q := opn_back hy (by decide) h1
        rw [← h2] at q
        exact Or.inr ⟨⟨q.1, by rw [q.2]; exact hr⟩, q.2⟩
      · have q := opn_back hy (by decide) h1
        rw [← h2] at q
        exact Or.inl (Or.inr ⟨⟨q.1, by rw [q.2]; exact hr⟩, q.2⟩)
      · have q := opn_back hy (by decide) h1
        rw [← h2] at q
        exact Or.inl (Or.inl (Or.inr ⟨⟨q.1, by rw [q.2]; exact hr⟩, q.2⟩))
      · have q := opn_back hy (by decide) h1
        rw [← h2] at q
        exact Or.inl (Or.inl (Or.inl ⟨⟨q.1, by rw [q.2]; exact hr⟩, q.2⟩))
    · rintro (((⟨⟨h1, h2⟩, h3⟩ | ⟨⟨h1, h2⟩, h3⟩) | ⟨⟨h1, h2⟩, h3⟩) | ⟨⟨h1, h2⟩, h3⟩)
      · have q := opn_back ha (by decide) h1
        have e : nbr a 0 = y := h3
        rw [e] at q h2
        exact ⟨h2, Or.inr ⟨q.1, q.2.symm⟩⟩
      · have q := opn_back ha (by decide) h1
        have e : nbr a 1 = y := h3
        rw [e] at q h2
        exact ⟨h2, Or.inl (Or.inr ⟨q.1, q.2.symm⟩)⟩
      · have q := opn_back ha (by decide) h1
        have e : nbr a 2 = y := h3
        rw [e] at q h2
        exact ⟨h2, Or.inl (Or.inl (Or.inr ⟨q.1, q.2.symm⟩))⟩
      · have q := opn_back ha (by decide) h1
        have e : nbr a 3 = y := h3
        rw [e] at q h2
        exact ⟨h2, Or.inl (Or.inl (Or.inl ⟨q.1, q.2.symm⟩))⟩
  · have hm : (msk H g n).testBit y = false := Nat.testBit_lt_two_pow (Nat.lt_of_lt_of_le (msk_lt hg n) (Nat.le_trans (by decide : 65536 ≤ 2 ^ 16) (Nat.pow_le_pow_right (by decide) (by omega))))
    rw [hm, Bool.false_and]
    have no : ∀ s, (nsd H (rch H g n) a s && decide (nbr a s = y)) = false := by
      intro s
      cases q : opn H a s with
      | false => simp [nsd, q]
      | true =>
        have := nbr_lt ha q
        simp [show nbr a s ≠ y from by omega]
    have e0 := no 0
    have e1 := no 1
    have e2 := no 2
    have e3 := no 3
    simp only [nbr] at e0 e1 e2 e3
    simp at e0 e1 e2 e3 ⊢
    exact ⟨⟨⟨e0, e1⟩, e2⟩, e3⟩
theorem fa_first_is {p : Nat → Bool} {n k : Nat} (hk : k < n) (h : p k = true) (h2 : ∀ j, j < k → p j = false) : fa_first p n = k := by
  have e : fa_first p n ≤ k := by
    rcases Nat.lt_or_ge k (fa_first p n) with q | q
    · rw [fa_first_no p n k q] at h; cases h
    · exact q
  rcases Nat.lt_or_ge (fa_first p n) k with q | q
  · have := fa_first_yes p n (by omega)
    rw [h2 _ q] at this; cases this
  · omega
theorem fa_first_none {p : Nat → Bool} {n : Nat} (h : ∀ j, j < n → p j = false) : fa_first p n = n := by
  have := fa_first_le p n
  rcases Nat.lt_or_ge (fa_first p n) n with q | q
  · have h1 := fa_first_yes p n q
    rw [h _ q] at h1; cases h1
  · omega
theorem fs4_first {p : Nat → Bool} (h : (p 0 || p 1 || p 2 || p 3) = true) : fa_first p 4 = fs4 (p 0) (p 1) (p 2) := by
  unfold fs4
  cases h0 : p 0 with
  | true => exact fa_first_is (k := 0) (by decide) h0 (fun j q => absurd q (Nat.not_lt_zero j))
  | false =>
    cases h1 : p 1 with
    | true => exact fa_first_is (k := 1) (by decide) h1 (fun j q => by rw [show j = 0 from by omega]; exact h0)
    | false =>
      cases h2 : p 2 with
      | true => exact fa_first_is (k := 2) (by decide) h2 (fun j q => by rcases (show j = 0 ∨ j = 1 by omega) with rfl | rfl <;> assumption)
      | false =>
        rw [h0, h1, h2] at h
        exact fa_first_is (k := 3) (by decide) (by simpa using h) (fun j q => by rcases (show j = 0 ∨ j = 1 ∨ j = 2 by omega) with rfl | rfl | rfl <;> assumption)
theorem rch_why {H g x : Nat} : ∀ n, rch H g n x = true → x = g ∨ ∃ m, m < n ∧ nrs H g m x = true := by
  intro n
  induction n with
  | zero => intro h; left; simpa [rch] using h
  | succ n ih =>
    intro h
    rw [rch_succ, Bool.or_eq_true] at h
    rcases h with h | h
    · rcases ih h with q | ⟨m, h1, h2⟩
      · exact Or.inl q
      · exact Or.inr ⟨m, by omega, h2⟩
    · exact Or.inr ⟨n, by omega, h⟩
theorem and_shl_bit {v a : Nat} : v &&& (1 <<< a) = 0 ↔ v.testBit a = false := by
  rw [show 1 <<< a = 2 ^ a from by rw [Nat.shiftLeft_eq, Nat.one_mul]]
  exact fb_bit_nat v a
theorem shl_lt {a : Nat} (ha : a < 16) : 1 <<< a < 65536 := msk_lt (H := 0) (g := a) ha 0
theorem toward_l {H g a : Nat} (hH : H < 16777216) (hg : g < 16) (ha : a < 16) : ∀ (k n fuel : Nat), n + k = 16 → k < fuel → (0 < n → a ≠ g) → (∀ m, m < n → nrs H g m a = false) → f_X2_toward_l7 fuel (nI H) (nI a) (nI (msk H g n)) (nI n) = some (nI (Tn H g a)) := by
  intro k
  induction k with
  | zero =>
    intro n fuel hn hf hng hno
    obtain ⟨fuel, rfl⟩ : ∃ f, fuel = f + 1 := ⟨fuel - 1, by omega⟩
    unfold f_X2_toward_l7
    rw [fa_lit 16, if_pos ((nI_le_iff (by omega) (by omega)).mpr (by omega))]
    unfold Tn
    rw [if_pos (Or.inr (fa_first_none (fun j hj => hno j (by omega))))]
  | succ k ih =>
    intro n fuel hn hf hng hno
    obtain ⟨fuel, rfl⟩ : ∃ f, fuel = f + 1 := ⟨fuel - 1, by omega⟩
    have hm := msk_lt (H := H) hg n
    have hs := shl_lt ha
    have hml : msk H g n &&& 1 <<< a < 65536 := Nat.lt_of_le_of_lt Nat.and_le_left hm
    have hb1 := bsd_lt H (1 <<< a)
    have hb2 := bsd_lt H (msk H g n)
    have hnl : msk H g n &&& bsd H (1 <<< a) < 65536 := Nat.lt_of_le_of_lt Nat.and_le_left hm
    have hor : msk H g n ||| bsd H (msk H g n) < 65536 := Nat.or_lt_two_pow (n := 16) hm hb2
    unfold f_X2_toward_l7
    simp (disch := omega) only [fa_lit, fa_and, and31, nI_shl', nI_le_iff, nI_eq_iff, beside_ok, Option.bind_some, fa_or, nI_add]
    rw [if_neg (by omega)]
    by_cases hr : rch H g n a = true
    · have hag : a = g := by
        rcases rch_why n hr with q | ⟨m, h1, h2⟩
        · exact q
        · rw [hno m h1] at h2; cases h2
      rw [if_neg (fun q => by rw [and_shl_bit, msk_bit n a ha, hr] at q; cases q)]
      unfold Tn
      rw [if_pos (Or.inl hag)]
    · have hr0 : rch H g n a = false := by simpa using hr
      rw [if_pos (by rw [and_shl_bit, msk_bit n a ha]; exact hr0)]
      have hag : a ≠ g := by
        intro q
        exact hr (rch_mono (Nat.zero_le n) (by simp [rch, q]))
      have hnear := near_vv (H := H) (n := n) ha hg
      by_cases hne : nrs H g n a = true
      · have hz : ¬ (msk H g n &&& bsd H (1 <<< a)) = 0 := by
          intro q
          obtain ⟨s, hs4, hn4⟩ := nrs_iff.mp hne
          rw [hnear] at q
          have hb := vv_bit a (nsd H (rch H g n) a 0) (nsd H (rch H g n) a 1) (nsd H (rch H g n) a 2) (nsd H (rch H g n) a 3) (nbr a s)
          rw [q, Nat.zero_testBit] at hb
          rcases (show s = 0 ∨ s = 1 ∨ s = 2 ∨ s = 3 by omega) with rfl | rfl | rfl | rfl <;> rw [hn4] at hb <;> simp [nbr] at hb
        rw [if_neg hz, hnear]
        have so : ∀ s, nsd H (rch H g n) a s = true → opn H a s = true := fun s q => by unfold nsd at q; rw [Bool.and_eq_true] at q; exact q.1
        have hvok : vok a (nsd H (rch H g n) a 0) (nsd H (rch H g n) a 1) (nsd H (rch H g n) a 2) (nsd H (rch H g n) a 3) = true := by
          have i0 : nsd H (rch H g n) a 0 = true → 4 ≤ a := fun q => by have := so 0 q; simp [opn] at this; exact this.1
          have i1 : nsd H (rch H g n) a 1 = true → a % 4 ≠ 0 := fun q => by have := so 1 q; simp [opn] at this; exact this.1
          have i2 : nsd H (rch H g n) a 2 = true → a % 4 ≠ 3 := fun q => by have := so 2 q; simp [opn] at this; exact this.1
          have i3 : nsd H (rch H g n) a 3 = true → a < 12 := fun q => by have := so 3 q; simp [opn] at this; exact this.1
          unfold nrs at hne
          unfold vok
          generalize nsd H (rch H g n) a 0 = b0 at *
          generalize nsd H (rch H g n) a 1 = b1 at *
          generalize nsd H (rch H g n) a 2 = b2 at *
          generalize nsd H (rch H g n) a 3 = b3 at *
          rw [hne]
          cases b0 <;> cases b1 <;> cases b2 <;> cases b3 <;> simp at i0 i1 i2 i3 ⊢ <;> simp [*]
        rw [ntz_ok _ _ _ _ a ha hvok, Option.bind_some]
        unfold Tn
        have hfn : fa_first (fun n => nrs H g n a) 16 = n := fa_first_is (by omega) hne hno
        rw [hfn, if_neg (by omega), fs4_first (p := fun s => nsd H (rch H g n) a s) hne]
      · have hne0 : nrs H g n a = false := by simpa using hne
        have hz : (msk H g n &&& bsd H (1 <<< a)) = 0 := by
          rw [hnear]
          have hall : ∀ s, s < 4 → nsd H (rch H g n) a s = false := fun s hs4 => by
            cases q : nsd H (rch H g n) a s with
            | false => rfl
            | true => exact absurd (nrs_iff.mpr ⟨s, hs4, q⟩) hne
          rw [hall 0 (by omega), hall 1 (by omega), hall 2 (by omega), hall 3 (by omega)]
          simp [vv]
        rw [if_pos hz]
        by_cases hst : (msk H g n ||| bsd H (msk H g n)) = msk H g n
        · rw [if_pos hst]
          unfold Tn
          rw [if_pos (Or.inr (fa_first_none (fun j hj => ?_)))]
          rcases Nat.lt_or_ge j n with q | q
          · exact hno j q
          · have stop : ∀ x, x < 16 → rch H g (n + 1) x = true → rch H g n x = true := by
              intro x hx h1
              rw [← msk_bit (n + 1) x hx] at h1
              rw [← msk_bit n x hx]
              have e : msk H g (n + 1) = msk H g n := hst
              rw [e] at h1; exact h1
            cases qj : nrs H g j a with
            | false => rfl
            | true =>
              obtain ⟨s, hs4, hn4⟩ := nrs_iff.mp qj
              unfold nsd at hn4
              rw [Bool.and_eq_true] at hn4
              have h5 := rch_stop stop (j - n) _ (nbr_lt ha hn4.1) (by rw [show n + (j - n) = j from by omega]; exact hn4.2)
              exact absurd (nrs_iff.mpr ⟨s, hs4, by unfold nsd; rw [Bool.and_eq_true]; exact ⟨hn4.1, h5⟩⟩) hne
        · rw [if_neg hst]
          exact ih (n + 1) fuel (by omega) (by omega) (fun _ => hag) (fun m hm => by
            rcases Nat.lt_or_ge m n with q | q
            · exact hno m q
            · rw [show m = n from by omega]; exact hne0)
theorem toward_ok {H g a : Nat} (hH : H < 16777216) (hg : g < 16) (ha : a < 16) : f_X2_toward (nI H) (nI a) (nI g) = some (nI (Tn H g a)) := by
  unfold f_X2_toward
  simp (disch := omega) only [fa_lit, fa_and, and31, nI_shl']
  exact toward_l hH hg ha 16 0 FUEL (by omega) (by unfold FUEL; omega) (fun q => absurd q (by omega)) (fun m q => absurd q (by omega))
theorem steps_l {H g a : Nat} (hH : H < 16777216) (hg : g < 16) (ha : a < 16) : ∀ (k n fuel : Nat), n + k = 16 → k < fuel → (∀ m, m < n → rch H g m a = false) → f_X2_steps_l7 fuel (nI H) (nI a) (nI (msk H g n)) (nI n) = some (if Dn H g a = 16 then -4 else nI (Dn H g a)) := by
  intro k
  induction k with
  | zero =>
    intro n fuel hn hf hno
    obtain ⟨fuel, rfl⟩ : ∃ f, fuel = f + 1 := ⟨fuel - 1, by omega⟩
    unfold f_X2_steps_l7
    rw [fa_lit 16, if_pos ((nI_le_iff (by omega) (by omega)).mpr (by omega)), if_pos]
    exact fa_first_none (fun j hj => hno j (by omega))
  | succ k ih =>
    intro n fuel hn hf hno
    obtain ⟨fuel, rfl⟩ : ∃ f, fuel = f + 1 := ⟨fuel - 1, by omega⟩
    have hm := msk_lt (H := H) hg n
    have hs := shl_lt ha
    have hml : msk H g n &&& 1 <<< a < 65536 := Nat.lt_of_le_of_lt Nat.and_le_left hm
    have hb2 := bsd_lt H (msk H g n)
    unfold f_X2_steps_l7
    simp (disch := omega) only [fa_lit, fa_and, and31, nI_shl', nI_le_iff, nI_eq_iff, beside_ok, Option.bind_some, fa_or, nI_add]
    rw [if_neg (by omega)]
    by_cases hr : rch H g n a = true
    · rw [if_neg (fun q => by rw [and_shl_bit, msk_bit n a ha, hr] at q; cases q)]
      have e : Dn H g a = n := fa_first_is (by omega) hr hno
      rw [e, if_neg (by omega)]
    · have hr0 : rch H g n a = false := by simpa using hr
      rw [if_pos (by rw [and_shl_bit, msk_bit n a ha]; exact hr0)]
      exact ih (n + 1) fuel (by omega) (by omega) (fun m hm => by
        rcases Nat.lt_or_ge m n with q | q
        · exact hno m q
        · rw [show m = n from by omega]; exact hr0)
theorem steps_ok {H a b : Nat} (hH : H < 16777216) (ha : a < 16) (hb : b < 16) : f_X2_steps (nI H) (nI a) (nI b) = some (if Dn H a b = 16 then -4 else nI (Dn H a b)) := by
  unfold f_X2_steps
  simp (disch := omega) only [fa_lit, fa_and, and31, nI_shl']
  exact steps_l hH ha hb 16 0 FUEL (by omega) (by unfold FUEL; omega) (fun m q => absurd q (by omega))
