/-! numbers: nI under all operations, by simp -/
theorem nI_sub {a b : Nat} (h : b ≤ a) : nI a - nI b = nI (a - b) := by
  obtain ⟨k, rfl⟩ : ∃ k, a = b + k := ⟨a - b, by omega⟩
  rw [← nI_add, show b + k - b = k from by omega]
  apply Int32.toInt_inj.mp
  rw [Int32.toInt_sub, Int32.toInt_add]
  have := fb_rng (nI k)
  rw [Int.sub_eq_add_neg]
  simp only [Int.bmod_add_bmod]
  rw [show (nI b).toInt + (nI k).toInt + -(nI b).toInt = (nI k).toInt from by omega]
  exact fb_bmod this.1 this.2
theorem nI_mul (a b : Nat) : nI a * nI b = nI (a * b) := by
  unfold nI
  rw [Int32.ofNat_mul]
theorem nI_div {a b : Nat} (ha : a < 2147483648) (hb : b < 2147483648) : nI a / nI b = nI (a / b) := by
  apply Int32.toInt_inj.mp
  have h1 : a / b ≤ a := Nat.div_le_self a b
  rw [Int32.toInt_div, nI_toInt (by omega), nI_toInt (by omega), nI_toInt (by omega), ← Int.ofNat_tdiv]
  generalize a / b = q at h1 ⊢
  exact fb_bmod (by omega) (by omega)
theorem nI_rem {a b : Nat} (ha : a < 2147483648) (hb : b < 2147483648) : nI a - nI a / nI b * nI b = nI (a % b) := by
  rw [nI_div ha hb, nI_mul, nI_sub (Nat.div_mul_le_self a b)]
  congr 1
  have := Nat.div_add_mod a b
  rw [Nat.mul_comm] at this
  omega
theorem nI_le_iff {a b : Nat} (ha : a < 2147483648) (hb : b < 2147483648) : nI a ≤ nI b ↔ a ≤ b := nI_leI (by omega) (by omega)
theorem nI_lt_iff {a b : Nat} (ha : a < 2147483648) (hb : b < 2147483648) : nI a < nI b ↔ a < b := nI_ltI (by omega) (by omega)
theorem nI_eq_iff {a b : Nat} (ha : a < 2147483648) (hb : b < 2147483648) : nI a = nI b ↔ a = b := nI_eq (by omega) (by omega)
theorem nI_cl {a : Nat} (ha : a < 2147483648) : (nI a).toNatClampNeg = a := nI_clamp (by omega)
theorem ck_nI {α : Type} {i n : Nat} {k : Option α} (h : i < n) (hn : n ≤ 2147483648) : ck (nI i) n k = k := by
  unfold ck
  rw [if_neg]
  rintro (q | q)
  · exact nI_pos (by omega) q
  · rw [nI_cl (by omega)] at q; omega
theorem ckn_nI {α : Type} {i : Nat} {k : Option α} (h : 0 < i) (hn : i < 2147483648) : ckn (nI i) k = k := by
  unfold ckn
  rw [if_neg (nI_ne0 h (by omega))]
theorem ck_bad {α : Type} {i : Int32} {n : Nat} {k : Option α} (h : i < 0 ∨ n ≤ i.toNatClampNeg) : ck i n k = none := by unfold ck; rw [if_pos h]
theorem bt_nI (n i : Nat) : bt (nI n) i = (decide (i < 32) && n.testBit i) := by
  unfold bt nI
  show (BitVec.ofNat 32 n).getLsbD i = _
  rw [BitVec.getLsbD_ofNat]
theorem nI_shl (a : Nat) {k : Nat} (hk : k < 32) : nI a <<< (nI k &&& nI 31) = nI (a <<< k) := by
  apply b_ext
  intro i hi
  rw [show nI 31 = (31 : Int32) from rfl, b_shl k hk _ hi, bt_nI, bt_nI, Nat.testBit_shiftLeft]
  by_cases h : k ≤ i
  · simp [h, hi, show i - k < 32 from by omega]
  · simp [h]
theorem nI_shr {a k : Nat} (ha : a < 2147483648) (hk : k < 32) : nI a >>> (nI k &&& nI 31) = nI (a >>> k) := by
  apply b_ext
  intro i hi
  rw [show nI 31 = (31 : Int32) from rfl, b_sshr k hk _ hi, bt_nI, bt_nI, bt_nI, Nat.testBit_shiftRight]
  have hb : ∀ j, 31 ≤ j → a.testBit j = false := fun j hj => Nat.testBit_lt_two_pow (Nat.lt_of_lt_of_le ha (Nat.le_trans (by decide : 2147483648 ≤ 2 ^ 31) (Nat.pow_le_pow_right (by decide) hj)))
  by_cases h : k + i < 32
  · simp [h, hi]
  · rw [if_neg h, hb 31 (by omega), hb (k + i) (by omega)]; simp
theorem nI_ushr {a k : Nat} (ha : a < 4294967296) (hk : k < 32) : ((nI a).toUInt32 >>> ((nI k).toUInt32 &&& Int32.toUInt32 (nI 31))).toInt32 = nI (a >>> k) := by
  apply b_ext
  intro i hi
  rw [show nI 31 = (31 : Int32) from rfl, b_ushr k hk, bt_nI, bt_nI, Nat.testBit_shiftRight]
  by_cases h : k + i < 32
  · simp [h, hi]
  · have : a.testBit (k + i) = false := Nat.testBit_lt_two_pow (Nat.lt_of_lt_of_le ha (Nat.le_trans (by decide : 4294967296 ≤ 2 ^ 32) (Nat.pow_le_pow_right (by decide) (by omega))))
    simp [h, this]
theorem m1_nI : (-1 : Int32) = nI 4294967295 := by decide
theorem m1_nI' : -(nI 1) = nI 4294967295 := by decide
theorem nI_ne_neg {a k : Nat} (ha : a < 2147483648) (hk : 0 < k) (hk2 : k < 2147483648) : ¬ nI a = -(nI k) := by
  intro h
  have h1 := congrArg Int32.toInt h
  rw [fb_negI (by rw [nI_toInt (by omega)]; omega), nI_toInt (by omega), nI_toInt (by omega)] at h1
  omega
theorem neg_lt_nI {a k : Nat} (ha : a < 2147483648) (hk : 0 < k) (hk2 : k < 2147483648) : -(nI k) < nI a := by
  rw [fa_lt, fb_negI (by rw [nI_toInt (by omega)]; omega), nI_toInt (by omega), nI_toInt (by omega)]
  omega
theorem and31 {k : Nat} (h : k < 32) : k &&& 31 = k := by rw [show (31 : Nat) = 2 ^ 5 - 1 from rfl, Nat.and_two_pow_sub_one_eq_mod]; omega
theorem nI_shl' (a : Nat) {k : Nat} (hk : k < 32) : nI a <<< nI k = nI (a <<< k) := by
  have h := nI_shl a hk
  rw [fa_and, and31 hk] at h
  exact h
theorem nI_shr' {a k : Nat} (ha : a < 2147483648) (hk : k < 32) : nI a >>> nI k = nI (a >>> k) := by
  have h := nI_shr ha hk
  rw [fa_and, and31 hk] at h
  exact h
theorem nI_rem' (a b : Nat) : nI a - nI (a / b) * nI b = nI (a % b) := by
  rw [nI_mul, nI_sub (Nat.div_mul_le_self a b)]
  congr 1
  have := Nat.div_add_mod a b
  rw [Nat.mul_comm] at this
  omega
