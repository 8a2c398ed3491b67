/-! names, on both sides -/
def lenW (m : Nat) : Nat := endL.getD (m + 1) 0 - endL.getD m 0
def chW (b : Nat → Nat) (q m L : Nat) : Nat → Bool
  | 0 => true
  | k + 1 => decide (b (q + (L - (k + 1))) = letL.getD (endL.getD m 0 + (L - (k + 1))) 0) && chW b q m L k
def spB (b : Nat → Nat) (q r m : Nat) : Bool := decide (r - q = lenW m) && chW b q m (lenW m) (lenW m)
def nmP (b : Nat → Nat) (q r : Nat) : Nat → Option Nat
  | 0 => none
  | k + 1 => if spB b q r (7 - (k + 1)) = true then some (7 - (k + 1)) else nmP b q r k
def mpI (i : Nat) : Nat := [4, 5, 6, 0, 1, 2, 3].getD i 0
theorem wd_len : ∀ i, i < 7 → slen.getD i 0 = lenW (mpI i) ∧ lenW (mpI i) ≤ 5 ∧ 4 ≤ lenW (mpI i) := by decide +kernel
theorem wd_let : ∀ i, i < 7 → ∀ j, j < 5 → (j < lenW (mpI i) → sch i j = nI (letL.getD (endL.getD (mpI i) 0 + j) 0)) := by decide +kernel
theorem lt_lt : ∀ j, j < 40 → letL.getD j 0 < 128 := by decide +kernel
theorem wd_m : ∀ m, m < 7 → lenW m ≤ 5 ∧ endL.getD m 0 + lenW m = endL.getD (m + 1) 0 ∧ endL.getD (m + 1) 0 ≤ 33 := by decide +kernel
theorem sp6_l {b : Nat → Nat} {t q r i : Nat} {z : Ob} (hi : i < 7) (hz : ZT z b t) (h3 : z 0 3 = nI q) (hr : q + lenW (mpI i) = r) (hrt : r ≤ t) : ∀ (k fuel : Nat), k ≤ lenW (mpI i) → k < fuel → f_X3_spells_l20 fuel z (nI (lenW (mpI i) - k)) i = some (b2i (chW b q (mpI i) (lenW (mpI i)) k)) := by
  obtain ⟨e1, e2, e3⟩ := wd_len i hi
  have ht := hz.1
  intro k
  induction k with
  | zero =>
    intro fuel hk hf
    obtain ⟨fuel, rfl⟩ : ∃ f, fuel = f + 1 := ⟨fuel - 1, by omega⟩
    rw [f_X3_spells_l20, e1, if_pos (show nI (lenW (mpI i)) ≤ nI (lenW (mpI i) - 0) from (nI_le_iff (by omega) (by omega)).mpr (by omega))]
    rfl
  | succ k ih =>
    intro fuel hk hf
    obtain ⟨fuel, rfl⟩ : ∃ f, fuel = f + 1 := ⟨fuel - 1, by omega⟩
    have hb := hz.2.2.2 (q + (lenW (mpI i) - (k + 1)))
    have hm := wd_m (mpI i) (by unfold mpI; rcases (show i = 0 ∨ i = 1 ∨ i = 2 ∨ i = 3 ∨ i = 4 ∨ i = 5 ∨ i = 6 by omega) with rfl | rfl | rfl | rfl | rfl | rfl | rfl <;> decide)
    have hl := lt_lt (endL.getD (mpI i) 0 + (lenW (mpI i) - (k + 1))) (by omega)
    rw [f_X3_spells_l20, e1, if_neg (show ¬ nI (lenW (mpI i)) ≤ nI (lenW (mpI i) - (k + 1)) by rw [nI_le_iff (by omega) (by omega)]; omega), h3, nI_add, ck_nI (by omega) (by omega), ck_nI (by omega) (by omega), nI_cl (by omega), nI_cl (by omega), hz.2.2.1 _ (by omega), wd_let i hi _ (by omega) (by omega)]
    unfold chW
    by_cases c : b (q + (lenW (mpI i) - (k + 1))) = letL.getD (endL.getD (mpI i) 0 + (lenW (mpI i) - (k + 1))) 0
    · rw [if_pos (by rw [c]), nI_1, show lenW (mpI i) - (k + 1) + 1 = lenW (mpI i) - k from by omega, ih fuel (by omega) (by omega), show decide (b (q + (lenW (mpI i) - (k + 1))) = letL.getD (endL.getD (mpI i) 0 + (lenW (mpI i) - (k + 1))) 0) = true from decide_eq_true c, Bool.true_and]
    · rw [if_neg (fun x => c ((nI_eq_iff (by omega) (by omega)).mp x)), show decide (b (q + (lenW (mpI i) - (k + 1))) = letL.getD (endL.getD (mpI i) 0 + (lenW (mpI i) - (k + 1))) 0) = false from decide_eq_false c, Bool.false_and]
      rfl
theorem spells_ok {b : Nat → Nat} {t q r i : Nat} {z : Ob} (hi : i < 7) (hz : ZT z b t) (h2 : z 0 2 = nI r) (h3 : z 0 3 = nI q) (hq : q ≤ r) (hrt : r ≤ t) : f_X3_spells z i = some (b2i (spB b q r (mpI i))) := by
  obtain ⟨e1, e2, e3⟩ := wd_len i hi
  have ht := hz.1
  unfold f_X3_spells spB
  rw [h2, h3, e1, nI_sub hq]
  by_cases c : r - q = lenW (mpI i)
  · have h := sp6_l hi hz h3 (r := r) (by omega) hrt (lenW (mpI i)) FUEL (Nat.le_refl _) (by unfold FUEL; omega)
    rw [Nat.sub_self] at h
    have h' : f_X3_spells_l20 FUEL z 0 i = some (b2i (chW b q (mpI i) (lenW (mpI i)) (lenW (mpI i)))) := h
    rw [if_pos (by rw [c]), h', show decide (r - q = lenW (mpI i)) = true from decide_eq_true c, Bool.true_and]
  · rw [if_neg (fun x => c ((nI_eq_iff (by omega) (by omega)).mp x)), show decide (r - q = lenW (mpI i)) = false from decide_eq_false c, Bool.false_and]
    rfl
theorem nh7_w {b : Nat → Nat} {t q r m : Nat} {M : Ob} (hm : m < 7) (hz : MT M b t) (hc : Cn M) (h9 : M 0 9 = nI r) (h10 : M 0 10 = nI q) (hr : q + lenW m = r) (hrt : r ≤ t) {k2 : Ob → Int32 → Option Int32} : ∀ (k fuel : Nat), k ≤ lenW m → k + 1 < fuel → f_X7_nameHere_l51 k2 fuel M (nI m) 1 (nI (lenW m - k)) = if chW b q m (lenW m) k = true then some (nI m) else k2 M (nI (m + 1)) := by
  obtain ⟨e1, e2, e3⟩ := wd_m m hm
  have ht := hz.1
  intro k
  induction k with
  | zero =>
    intro fuel hk hf
    obtain ⟨fuel, rfl⟩ : ∃ f, fuel = f + 1 := ⟨fuel - 1, by omega⟩
    rw [f_X7_nameHere_l51, if_neg (show ¬ (1 : Int32) = 0 by decide), h9, h10, nI_sub (by omega), if_pos (show nI (r - q) ≤ nI (lenW m - 0) from (nI_le_iff (by omega) (by omega)).mpr (by omega))]
    unfold f_X7_nameHere_b106
    rw [if_neg (show ¬ (1 : Int32) = 0 by decide)]
    rfl
  | succ k ih =>
    intro fuel hk hf
    obtain ⟨fuel, rfl⟩ : ∃ f, fuel = f + 1 + 1 := ⟨fuel - 2, by omega⟩
    have hb := hz.2.2.2 (q + (lenW m - (k + 1)))
    have hl := lt_lt (endL.getD m 0 + (lenW m - (k + 1))) (by omega)
    rw [f_X7_nameHere_l51, if_neg (show ¬ (1 : Int32) = 0 by decide), h9, h10, nI_sub (by omega), if_neg (show ¬ nI (r - q) ≤ nI (lenW m - (k + 1)) by rw [nI_le_iff (by omega) (by omega)]; omega), nI_add, byteAt_in hz (by omega), Option.bind_some, ck_nI (by omega) (by omega), nI_cl (by omega), hc.2.1 m (by omega), nI_add, ck_nI (by omega) (by omega), nI_cl (by omega), hc.2.2 _ (by omega)]
    unfold f_X7_nameHere_b99 chW
    by_cases c : b (q + (lenW m - (k + 1))) = letL.getD (endL.getD m 0 + (lenW m - (k + 1))) 0
    · rw [if_pos (by rw [c]), nI_1, show lenW m - (k + 1) + 1 = lenW m - k from by omega, ih (fuel + 1) (by omega) (by omega), show decide (b (q + (lenW m - (k + 1))) = letL.getD (endL.getD m 0 + (lenW m - (k + 1))) 0) = true from decide_eq_true c, Bool.true_and]
    · rw [if_neg (fun x => c ((nI_eq_iff (by omega) (by omega)).mp x)), show decide (b (q + (lenW m - (k + 1))) = letL.getD (endL.getD m 0 + (lenW m - (k + 1))) 0) = false from decide_eq_false c, Bool.false_and, if_neg (show ¬ false = true by decide), f_X7_nameHere_l51, if_pos rfl]
      unfold f_X7_nameHere_b106
      rw [if_pos rfl, nI_1]
theorem nh7_l {b : Nat → Nat} {t q r : Nat} {M : Ob} (hz : MT M b t) (hc : Cn M) (h9 : M 0 9 = nI r) (h10 : M 0 10 = nI q) (h11 : M 0 11 = 1) (hqr : q ≤ r) (hrt : r ≤ t) : ∀ (k fuel : Nat), k ≤ 7 → k < fuel → f_X7_nameHere_l2 fuel M (nI (7 - k)) = some (noI (nmP b q r k)) := by
  have ht := hz.1
  intro k
  induction k with
  | zero =>
    intro fuel hk hf
    obtain ⟨fuel, rfl⟩ : ∃ f, fuel = f + 1 := ⟨fuel - 1, by omega⟩
    rw [f_X7_nameHere_l2, if_pos (show (7 : Int32) ≤ nI (7 - 0) by decide)]
    rfl
  | succ k ih =>
    intro fuel hk hf
    obtain ⟨fuel, rfl⟩ : ∃ f, fuel = f + 1 := ⟨fuel - 1, by omega⟩
    obtain ⟨e1, e2, e3⟩ := wd_m (7 - (k + 1)) (by omega)
    rw [f_X7_nameHere_l2, if_neg (show ¬ (7 : Int32) ≤ nI (7 - (k + 1)) from fun x => absurd ((nI_le_iff (a := 7) (by omega) (by omega)).mp x) (by omega)), h11, if_pos rfl, nI_1, ck_nI (by omega) (by omega), ck_nI (by omega) (by omega), nI_cl (by omega), nI_cl (by omega), hc.2.1 _ (by omega), hc.2.1 _ (by omega), h9, h10, nI_sub hqr, nI_sub (by omega)]
    unfold f_X7_nameHere_b48 nmP spB
    have el : endL.getD (7 - (k + 1) + 1) 0 - endL.getD (7 - (k + 1)) 0 = lenW (7 - (k + 1)) := rfl
    rw [el]
    by_cases c : r - q = lenW (7 - (k + 1))
    · have h := nh7_w (m := 7 - (k + 1)) (by omega) hz hc h9 h10 (by omega) hrt (k2 := f_X7_nameHere_l2 fuel) (lenW (7 - (k + 1))) FUEL (Nat.le_refl _) (by unfold FUEL; omega)
      rw [Nat.sub_self] at h
      have h' : f_X7_nameHere_l51 (f_X7_nameHere_l2 fuel) FUEL M (nI (7 - (k + 1))) 1 0 = _ := h
      rw [if_pos (by rw [c]), h', show decide (r - q = lenW (7 - (k + 1))) = true from decide_eq_true c, Bool.true_and, show 7 - (k + 1) + 1 = 7 - k from by omega, ih fuel (by omega) (by omega)]
      split <;> rfl
    · rw [if_neg (fun x => c ((nI_eq_iff (by omega) (by omega)).mp x)), show decide (r - q = lenW (7 - (k + 1))) = false from decide_eq_false c, Bool.false_and, if_neg (show ¬ false = true by decide)]
      show f_X7_nameHere_l51 (f_X7_nameHere_l2 fuel) (999 + 1) M (nI (7 - (k + 1))) 0 0 = _
      rw [f_X7_nameHere_l51, if_pos rfl]
      unfold f_X7_nameHere_b106
      rw [if_pos rfl, nI_1, show 7 - (k + 1) + 1 = 7 - k from by omega, ih fuel (by omega) (by omega)]
theorem nameHere_ok {b : Nat → Nat} {t q r : Nat} {M : Ob} (hz : MT M b t) (hc : Cn M) (h9 : M 0 9 = nI r) (h10 : M 0 10 = nI q) (h11 : M 0 11 = 1) (hqr : q ≤ r) (hrt : r ≤ t) : f_X7_nameHere M = some (noI (nmP b q r 7)) := nh7_l hz hc h9 h10 h11 hqr hrt 7 FUEL (Nat.le_refl _) (by unfold FUEL; omega)
theorem nameHere_no {M : Ob} (h11 : ¬ M 0 11 = 1) : f_X7_nameHere M = some (-4) := by
  unfold f_X7_nameHere
  show f_X7_nameHere_l2 (999 + 1) M (nI 0) = _
  rw [f_X7_nameHere_l2, if_neg (show ¬ (7 : Int32) ≤ nI 0 by decide), if_neg h11]
/-- the class asks name by name -/
def nmC (b : Nat → Nat) (q r : Nat) : Option Nat := if spB b q r 0 = true then some 0 else if spB b q r 1 = true then some 1 else if spB b q r 2 = true then some 2 else if spB b q r 3 = true then some 3 else if spB b q r 4 = true then some 4 else if spB b q r 5 = true then some 5 else if spB b q r 6 = true then some 6 else none
theorem nmP_C (b : Nat → Nat) (q r : Nat) : nmP b q r 7 = nmC b q r := rfl
theorem kindNamed_ok {b : Nat → Nat} {t q r : Nat} {z : Ob} (hz : ZT z b t) (h2 : z 0 2 = nI r) (h3 : z 0 3 = nI q) (hq : q ≤ r) (hrt : r ≤ t) : f_X3_kindNamed z = some (noI (if spB b q r 0 = true then some 0 else if spB b q r 1 = true then some 1 else if spB b q r 2 = true then some 2 else if spB b q r 3 = true then some 3 else none)) := by
  unfold f_X3_kindNamed
  rw [spells_ok (i := 3) (by omega) hz h2 h3 hq hrt, spells_ok (i := 4) (by omega) hz h2 h3 hq hrt, spells_ok (i := 5) (by omega) hz h2 h3 hq hrt, spells_ok (i := 6) (by omega) hz h2 h3 hq hrt]
  show ((some (b2i (spB b q r 0))).bind fun q1 => if q1 = 0 then ((some (b2i (spB b q r 1))).bind fun q3 => if q3 = 0 then ((some (b2i (spB b q r 2))).bind fun q5 => if q5 = 0 then ((some (b2i (spB b q r 3))).bind fun q7 => if q7 = 0 then (some (-4 : Int32)) else (some (3 : Int32))) else (some (2 : Int32))) else (some (1 : Int32))) else (some (0 : Int32))) = _
  cases spB b q r 0 <;> cases spB b q r 1 <;> cases spB b q r 2 <;> cases spB b q r 3 <;> rfl
