/-! Integer.bitCount up to 24 bits -/
theorem and_split (x y k : Nat) : x &&& y = (x % 2 ^ k &&& y % 2 ^ k) + 2 ^ k * (x / 2 ^ k &&& y / 2 ^ k) := by
  rw [← Nat.and_mod_two_pow, ← Nat.and_div_two_pow]
  have := Nat.div_add_mod (x &&& y) (2 ^ k)
  omega
theorem and_b3 (x y : Nat) : x &&& y = (x % 256 &&& y % 256) + 256 * ((x / 256 % 256 &&& y / 256 % 256) + 256 * (x / 256 / 256 &&& y / 256 / 256)) := by
  have h1 := and_split x y 8
  have h2 := and_split (x / 256) (y / 256) 8
  rw [show (2 : Nat) ^ 8 = 256 from rfl] at h1 h2
  rw [h1, h2]
theorem cu1 : ∀ a, a < 256 → ∀ e, e < 2 → (a / 2 + 128 * e) &&& 85 = a / 2 &&& 85 := by decide +kernel
theorem cu1c : ∀ a, a < 256 → a / 2 &&& 21845 = a / 2 &&& 85 := by decide +kernel
theorem cu1l : ∀ a, a < 256 → (a / 2 &&& 85) ≤ a := by decide +kernel
def cb1 (a : Nat) : Nat := a - (a / 2 &&& 85)
theorem st1 {a b c : Nat} (ha : a < 256) (hb : b < 256) (hc : c < 256) : (a + 256 * (b + 256 * c)) - ((a + 256 * (b + 256 * c)) / 2 &&& 1431655765) = cb1 a + 256 * (cb1 b + 256 * cb1 c) := by
  rw [and_b3]
  rw [show (a + 256 * (b + 256 * c)) / 2 % 256 = a / 2 + 128 * (b % 2) from by omega, show (a + 256 * (b + 256 * c)) / 2 / 256 % 256 = b / 2 + 128 * (c % 2) from by omega, show (a + 256 * (b + 256 * c)) / 2 / 256 / 256 = c / 2 from by omega]
  rw [show 1431655765 % 256 = 85 from rfl, show 1431655765 / 256 / 256 = 21845 from rfl]
  rw [cu1 a ha _ (by omega), cu1 b hb _ (by omega), cu1c c hc]
  have l1 := cu1l a ha
  have l2 := cu1l b hb
  have l3 := cu1l c hc
  unfold cb1
  omega
def cb2 (a : Nat) : Nat := (a &&& 51) + (a / 4 &&& 51)
theorem cu2 : ∀ a, a < 256 → ∀ e, e < 4 → (a / 4 + 64 * e) &&& 51 = a / 4 &&& 51 := by decide +kernel
theorem cu2c : ∀ a, a < 256 → (a &&& 13107) = (a &&& 51) ∧ (a / 4 &&& 13107) = (a / 4 &&& 51) := by decide +kernel
theorem st2 {a b c : Nat} (ha : a < 256) (hb : b < 256) (hc : c < 256) : ((a + 256 * (b + 256 * c)) &&& 858993459) + ((a + 256 * (b + 256 * c)) / 4 &&& 858993459) = cb2 a + 256 * (cb2 b + 256 * cb2 c) := by
  rw [and_b3, and_b3 ((a + 256 * (b + 256 * c)) / 4)]
  rw [show (a + 256 * (b + 256 * c)) % 256 = a from by omega, show (a + 256 * (b + 256 * c)) / 256 % 256 = b from by omega, show (a + 256 * (b + 256 * c)) / 256 / 256 = c from by omega, show (a + 256 * (b + 256 * c)) / 4 % 256 = a / 4 + 64 * (b % 4) from by omega, show (a + 256 * (b + 256 * c)) / 4 / 256 % 256 = b / 4 + 64 * (c % 4) from by omega, show (a + 256 * (b + 256 * c)) / 4 / 256 / 256 = c / 4 from by omega]
  rw [show 858993459 % 256 = 51 from rfl, show 858993459 / 256 / 256 = 13107 from rfl]
  rw [cu2 a ha _ (by omega), cu2 b hb _ (by omega), (cu2c c hc).1, (cu2c c hc).2]
  unfold cb2
  omega
def cb3 (a : Nat) : Nat := (a + a / 16) &&& 15
theorem cu3 : ∀ a, a < 69 → ∀ e, e < 5 → (a + a / 16 + 16 * e) &&& 15 = (a + a / 16) &&& 15 := by decide +kernel
theorem cu3c : ∀ a, a < 69 → (a + a / 16) &&& 3855 = (a + a / 16) &&& 15 := by decide +kernel
theorem st3 {a b c : Nat} (ha : a < 69) (hb : b < 69) (hc : c < 69) (hb2 : b % 16 < 5) (hc2 : c % 16 < 5) : ((a + 256 * (b + 256 * c)) + (a + 256 * (b + 256 * c)) / 16 &&& 252645135) = cb3 a + 256 * (cb3 b + 256 * cb3 c) := by
  have e : (a + 256 * (b + 256 * c)) + (a + 256 * (b + 256 * c)) / 16 = (a + a / 16 + 16 * (b % 16)) + 256 * ((b + b / 16 + 16 * (c % 16)) + 256 * (c + c / 16)) := by omega
  rw [e, and_b3]
  have l1 : a + a / 16 + 16 * (b % 16) < 256 := by omega
  have l2 : b + b / 16 + 16 * (c % 16) < 256 := by omega
  have u1 := cu3 a ha _ hb2
  have u2 := cu3 b hb _ hc2
  have u3 := cu3c c hc
  unfold cb3
  rw [← u1, ← u2, ← u3]
  generalize a + a / 16 + 16 * (b % 16) = A at l1 ⊢
  generalize b + b / 16 + 16 * (c % 16) = B at l2 ⊢
  generalize c + c / 16 = C
  rw [show (A + 256 * (B + 256 * C)) % 256 = A from by omega, show (A + 256 * (B + 256 * C)) / 256 % 256 = B from by omega, show (A + 256 * (B + 256 * C)) / 256 / 256 = C from by omega]
theorem cbB : ∀ a, a < 256 → cb1 a < 256 ∧ cb2 (cb1 a) < 69 ∧ cb2 (cb1 a) % 16 < 5 ∧ cb3 (cb2 (cb1 a)) = pcb 8 a := by decide +kernel
theorem pcb_b3 {a b c : Nat} (ha : a < 256) (hb : b < 256) (hc : c < 256) : pcb 24 (a + 256 * (b + 256 * c)) = pcb 8 a + (pcb 8 b + pcb 8 c) := by
  have sp : ∀ (j : Nat) (k x y : Nat), x < 2 ^ j → pcb (j + k) (x + 2 ^ j * y) = pcb j x + pcb k y := by
    intro j
    induction j with
    | zero => intro k x y hx; rw [show x = 0 from by omega, Nat.zero_add, Nat.zero_add, Nat.pow_zero, Nat.one_mul]; show _ = 0 + _; rw [Nat.zero_add]
    | succ j ih =>
      intro k x y hx
      rw [show j + 1 + k = (j + k) + 1 from by omega]
      show (x + 2 ^ (j + 1) * y) % 2 + pcb (j + k) ((x + 2 ^ (j + 1) * y) / 2) = x % 2 + pcb j (x / 2) + pcb k y
      have e : 2 ^ (j + 1) * y = 2 * (2 ^ j * y) := by rw [Nat.pow_succ]; rw [Nat.mul_comm (2 ^ j) 2, Nat.mul_assoc]
      rw [e, show (x + 2 * (2 ^ j * y)) % 2 = x % 2 from by omega, show (x + 2 * (2 ^ j * y)) / 2 = x / 2 + 2 ^ j * y from by omega, ih k (x / 2) y (by rw [Nat.pow_succ] at hx; omega)]
      omega
  have h1 := sp 8 16 a (b + 256 * c) ha
  have h2 := sp 8 8 b c hb
  rw [show (2 : Nat) ^ 8 = 256 from rfl] at h1 h2
  rw [h1, h2]
theorem bc_all {x0 x1 x2 x3 x4 x5 : Int32} (h1 : x0 - (((x0.toUInt32 >>> ((1 : Int32).toUInt32 &&& Int32.toUInt32 31)).toInt32) &&& (1431655765 : Int32)) = x1) (h2 : (x1 &&& (858993459 : Int32)) + (((x1.toUInt32 >>> ((2 : Int32).toUInt32 &&& Int32.toUInt32 31)).toInt32) &&& (858993459 : Int32)) = x2) (h3 : (x2 + ((x2.toUInt32 >>> ((4 : Int32).toUInt32 &&& Int32.toUInt32 31)).toInt32)) &&& (252645135 : Int32) = x3) (h4 : x3 + ((x3.toUInt32 >>> ((8 : Int32).toUInt32 &&& Int32.toUInt32 31)).toInt32) = x4) (h5 : x4 + ((x4.toUInt32 >>> ((16 : Int32).toUInt32 &&& Int32.toUInt32 31)).toInt32) = x5) : f_J6_bitCount_0f7a4 x0 = some (x5 &&& (63 : Int32)) := by
  subst h1 h2 h3 h4 h5
  rfl
theorem ush {x k y : Nat} (hx : x < 4294967296) (hk : k < 32) (h : x >>> k = y) : ((nI x).toUInt32 >>> ((nI k).toUInt32 &&& Int32.toUInt32 31)).toInt32 = nI y := by
  rw [fa_lit 31, nI_ushr hx hk, h]
theorem shr_div (x k y : Nat) (h : 2 ^ k = y) : x >>> k = x / y := by rw [Nat.shiftRight_eq_div_pow, h]
theorem bc_sum {A B C : Nat} (ha : A ≤ 8) (hb : B ≤ 8) (hc : C ≤ 8) : (A + 256 * (B + 256 * C) + (A + 256 * (B + 256 * C)) / 256 + (A + 256 * (B + 256 * C) + (A + 256 * (B + 256 * C)) / 256) / 65536) % 64 = A + (B + C) := by
  have e1 : (A + 256 * (B + 256 * C)) / 256 = B + 256 * C := by omega
  rw [e1]
  have e2 : (A + 256 * (B + 256 * C) + (B + 256 * C)) / 65536 = C := by omega
  rw [e2]
  omega
theorem bitCount_ok {m : Nat} (h : m < 16777216) : f_J6_bitCount_0f7a4 (nI m) = some (nI (pcb 24 m)) := by
  obtain ⟨a, b, c, ha, hb, hc, rfl⟩ : ∃ a b c, a < 256 ∧ b < 256 ∧ c < 256 ∧ m = a + 256 * (b + 256 * c) := ⟨m % 256, m / 256 % 256, m / 65536, by omega, by omega, by omega, by omega⟩
  have hp := pcb_b3 ha hb hc
  have pa := pcb_le 8 a
  have pb := pcb_le 8 b
  have pc := pcb_le 8 c
  obtain ⟨a1, a2, a3, a4⟩ := cbB a ha
  obtain ⟨b1, b2, b3, b4⟩ := cbB b hb
  obtain ⟨c1, c2, c3, c4⟩ := cbB c hc
  have s1 := st1 ha hb hc
  have s2 := st2 a1 b1 c1
  have s3 := st3 a2 b2 c2 b3 c3
  rw [a4, b4, c4] at s3
  have hle : (a + 256 * (b + 256 * c)) / 2 &&& 1431655765 ≤ a + 256 * (b + 256 * c) := Nat.le_trans Nat.and_le_left (by omega)
  generalize hm0 : a + 256 * (b + 256 * c) = m0 at *
  generalize hm1 : cb1 a + 256 * (cb1 b + 256 * cb1 c) = m1 at *
  have l1 : m1 < 16777216 := by omega
  generalize hm2 : cb2 (cb1 a) + 256 * (cb2 (cb1 b) + 256 * cb2 (cb1 c)) = m2 at *
  have l2 : m2 < 16777216 := by omega
  generalize pcb 8 a = A at *
  generalize pcb 8 b = B at *
  generalize pcb 8 c = C at *
  rw [bc_all (x1 := nI m1) (x2 := nI m2) (x3 := nI (A + 256 * (B + 256 * C))) (x4 := nI (A + 256 * (B + 256 * C) + (A + 256 * (B + 256 * C)) / 256)) (x5 := nI (A + 256 * (B + 256 * C) + (A + 256 * (B + 256 * C)) / 256 + (A + 256 * (B + 256 * C) + (A + 256 * (B + 256 * C)) / 256) / 65536)) ?_ ?_ ?_ ?_ ?_]
  · have e := bc_sum pa pb pc
    rw [fa_lit 63, fa_and, hp, show ((63 : Nat) = 2 ^ 6 - 1) from rfl, Nat.and_two_pow_sub_one_eq_mod, show (2 : Nat) ^ 6 = 64 from rfl, e]
  · rw [fa_lit 1, ush (by omega) (by omega) (shr_div _ 1 2 rfl), fa_lit 1431655765, fa_and, nI_sub hle, s1]
  · rw [fa_lit 2, ush (by omega) (by omega) (shr_div _ 2 4 rfl), fa_lit 858993459, fa_and, fa_and, nI_add, s2]
  · rw [fa_lit 4, ush (by omega) (by omega) (shr_div _ 4 16 rfl), fa_lit 252645135, nI_add, fa_and, s3]
  · rw [fa_lit 8, ush (by omega) (by omega) (shr_div _ 8 256 rfl), nI_add]
  · rw [fa_lit 16, ush (by omega) (by omega) (shr_div _ 16 65536 rfl), nI_add]
