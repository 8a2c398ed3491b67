/-! tokens, on both sides -/
def isL (c : Nat) : Bool := decide (97 ≤ c ∧ c ≤ 122)
def isF (c : Nat) : Bool := decide (48 ≤ c ∧ c ≤ 57)
def isB (c : Nat) : Bool := decide (c = 32)
def runP (P : Nat → Bool) (b : Nat → Nat) : Nat → Nat → Nat
  | 0, p => p
  | k + 1, p => if P (b p) then runP P b k (p + 1) else p
theorem runP_ge (P : Nat → Bool) (b : Nat → Nat) : ∀ k p, p ≤ runP P b k p ∧ runP P b k p ≤ p + k
  | 0, p => ⟨Nat.le_refl _, Nat.le_refl _⟩
  | k + 1, p => by
    have := runP_ge P b k (p + 1)
    unfold runP
    split <;> omega
theorem runP_stop {P : Nat → Bool} {b : Nat → Nat} : ∀ {k p : Nat}, runP P b k p < p + k → P (b (runP P b k p)) = false
  | 0, p, h => absurd h (by unfold runP; omega)
  | k + 1, p, h => by
    unfold runP at h ⊢
    by_cases c : P (b p) = true
    · rw [if_pos c] at h ⊢
      exact runP_stop (by omega)
    · rw [if_neg c]
      simpa using c
theorem runP_first {P : Nat → Bool} {b : Nat → Nat} {k p : Nat} (hk : 0 < k) (h : P (b p) = true) : p + 1 ≤ runP P b k p := by
  obtain ⟨k, rfl⟩ : ∃ m, k = m + 1 := ⟨k - 1, by omega⟩
  unfold runP
  rw [if_pos h]
  exact (runP_ge P b k (p + 1)).1
def tkS (b : Nat → Nat) (t p : Nat) : Nat := runP isB b (t - p) p
def tkR (b : Nat → Nat) (t q : Nat) : Nat := if t ≤ q then q else if isL (b q) then runP isL b (t - q) q else if isF (b q) then runP isF b (t - q) q else q + 1
def tkK (b : Nat → Nat) (t q : Nat) : Nat := if t ≤ q then 4 else if isL (b q) then 1 else if isF (b q) then (if runP isF b (t - q) q - q ≤ 2 then 2 else 0) else if b q = 59 then 3 else 0
def tkV (b : Nat → Nat) (t q : Nat) : Nat := if runP isF b (t - q) q - q ≤ 1 then b q - 48 else 10 * (b q - 48) + (b (q + 1) - 48)
def tkE (b : Nat → Nat) (t p : Nat) : Nat := tkR b t (tkS b t p)
def tkC (b : Nat → Nat) (t p : Nat) : Nat := tkK b t (tkS b t p)
theorem tkS_le {b : Nat → Nat} {t p : Nat} (h : p ≤ t) : p ≤ tkS b t p ∧ tkS b t p ≤ t := by
  have := runP_ge isB b (t - p) p
  unfold tkS
  omega
theorem tkE_le {b : Nat → Nat} {t p : Nat} (h : p ≤ t) : tkS b t p ≤ tkE b t p ∧ tkE b t p ≤ t := by
  have h1 := tkS_le (b := b) h
  unfold tkE tkR
  generalize tkS b t p = q at h1
  by_cases c : t ≤ q
  · rw [if_pos c]; omega
  · rw [if_neg c]
    have h2 := runP_ge isL b (t - q) q
    have h3 := runP_ge isF b (t - q) q
    split
    · omega
    · split <;> omega
theorem tkE_gt {b : Nat → Nat} {t p : Nat} (h : p ≤ t) (hc : tkC b t p ≠ 4) : tkS b t p < t ∧ p < tkE b t p := by
  have h1 := tkS_le (b := b) h
  unfold tkC tkK at hc
  unfold tkE tkR
  generalize tkS b t p = q at h1 hc
  by_cases c : t ≤ q
  · rw [if_pos c] at hc; exact absurd rfl hc
  · rw [if_neg c]
    refine ⟨by omega, ?_⟩
    by_cases c1 : isL (b q) = true
    · rw [if_pos c1]
      have := runP_first (P := isL) (b := b) (k := t - q) (p := q) (by omega) c1
      omega
    · rw [if_neg c1]
      by_cases c2 : isF (b q) = true
      · rw [if_pos c2]
        have := runP_first (P := isF) (b := b) (k := t - q) (p := q) (by omega) c2
        omega
      · rw [if_neg c2]; omega
theorem tkC_lt (b : Nat → Nat) (t p : Nat) : tkC b t p ≤ 4 := by
  unfold tkC tkK
  repeat (first | omega | split)
theorem tkV_lt {b : Nat → Nat} {t q : Nat} (hb : b q < 128) (hb2 : b (q + 1) < 128) : tkV b t q < 1000 := by
  unfold tkV
  split <;> omega
theorem ob_same {z : Ob} {c k : Nat} {v : Int32} (h : z c k = v) : ob z c k v = z := by
  funext c' k'
  rw [ob_at]
  by_cases e : c' = c
  · subst e
    rw [if_pos rfl]
    by_cases e2 : k' = k
    · subst e2; rw [if_pos rfl]; exact h.symm
    · rw [if_neg e2]
  · rw [if_neg e]
theorem ob_two (z : Ob) (c k : Nat) (u v : Int32) : ob (ob z c k u) c k v = ob z c k v := by
  funext c' k'
  rw [ob_at, ob_at, ob_at]
  by_cases e : c' = c
  · rw [if_pos e, if_pos e, if_pos e]
    split <;> rfl
  · rw [if_neg e, if_neg e, if_neg e]
theorem ob_1 (z : Ob) (k : Nat) (v : Int32) : (ob z 0 k v) 1 = z 1 := by funext j; rw [ob_at, if_neg (by decide)]
theorem ob_0 (z : Ob) {k j : Nat} (v : Int32) (h : j ≠ k) : (ob z 0 k v) 0 j = z 0 j := by rw [ob_at, if_pos rfl, if_neg h]
theorem ob_00 (z : Ob) (k : Nat) (v : Int32) : (ob z 0 k v) 0 k = v := by rw [ob_at, if_pos rfl, if_pos rfl]
/-- the class' tape -/
def ZT (z : Ob) (b : Nat → Nat) (t : Nat) : Prop := t ≤ 160 ∧ z 0 1 = nI t ∧ (∀ i, i < t → z 1 i = nI (b i)) ∧ ∀ i, b i < 128
def RF (z z' : Ob) : Prop := z' 1 = z 1 ∧ z' 0 1 = z 0 1 ∧ z' 0 6 = z 0 6 ∧ z' 0 7 = z 0 7
theorem RF.rf (z : Ob) : RF z z := ⟨rfl, rfl, rfl, rfl⟩
theorem RF.tr {a b c : Ob} (h : RF a b) (h2 : RF b c) : RF a c := ⟨h2.1.trans h.1, h2.2.1.trans h.2.1, h2.2.2.1.trans h.2.2.1, h2.2.2.2.trans h.2.2.2⟩
theorem RF_ob (z : Ob) {k : Nat} (v : Int32) (h : 2 ≤ k ∧ k ≤ 5) : RF z (ob z 0 k v) := ⟨ob_1 _ _ _, ob_0 _ _ (by omega), ob_0 _ _ (by omega), ob_0 _ _ (by omega)⟩
theorem ZT.rf {z z' : Ob} {b : Nat → Nat} {t : Nat} (h : ZT z b t) (r : RF z z') : ZT z' b t := ⟨h.1, by rw [r.2.1]; exact h.2.1, fun i hi => by rw [r.1]; exact h.2.2.1 i hi, h.2.2.2⟩
theorem let6 {c : Nat} (hc : c < 128) : f_X3_isLetter (nI c) = some (b2i (isL c)) := by
  have : ∀ j : Fin 128, isS (f_X3_isLetter (nI j.val)) (b2i (isL j.val)) = true := by decide +kernel
  exact isS_eq (this ⟨c, hc⟩)
theorem fig6 {c : Nat} (hc : c < 128) : f_X3_isFigure (nI c) = some (b2i (isF c)) := by
  have : ∀ j : Fin 128, isS (f_X3_isFigure (nI j.val)) (b2i (isF j.val)) = true := by decide +kernel
  exact isS_eq (this ⟨c, hc⟩)
theorem nm6_l {b : Nat → Nat} {t : Nat} : ∀ (k fuel : Nat) (z : Ob) (p : Nat), ZT z b t → z 0 2 = nI p → p + k = t → k < fuel → ∃ z', f_X3_takeName_l5 fuel z = some z' ∧ z' 0 2 = nI (runP isL b k p) ∧ z' 0 3 = z 0 3 ∧ z' 0 4 = z 0 4 ∧ z' 0 5 = z 0 5 ∧ RF z z' := by
  intro k
  induction k with
  | zero =>
    intro fuel z p hz h2 hk hf
    obtain ⟨fuel, rfl⟩ : ∃ f, fuel = f + 1 := ⟨fuel - 1, by omega⟩
    have ht := hz.1
    rw [f_X3_takeName_l5, hz.2.1, h2, if_pos ((nI_le_iff (by omega) (by omega)).mpr (by omega))]
    exact ⟨z, rfl, h2, rfl, rfl, rfl, RF.rf z⟩
  | succ k ih =>
    intro fuel z p hz h2 hk hf
    obtain ⟨fuel, rfl⟩ : ∃ f, fuel = f + 1 := ⟨fuel - 1, by omega⟩
    have ht := hz.1
    rw [f_X3_takeName_l5, hz.2.1, h2, if_neg (by rw [nI_le_iff (by omega) (by omega)]; omega), ck_nI (by omega) (by omega), nI_cl (by omega), hz.2.2.1 p (by omega), let6 (hz.2.2.2 p)]
    unfold runP
    cases hL : isL (b p) with
    | false =>
      rw [show b2i false = (0 : Int32) from rfl, bd0]
      exact ⟨z, rfl, by rw [if_neg (by decide)]; exact h2, rfl, rfl, rfl, RF.rf z⟩
    | true =>
      rw [show b2i true = (1 : Int32) from rfl, bd1, nI_1]
      have r := RF_ob z (k := 2) (nI (p + 1)) (by omega)
      obtain ⟨z', q1, q2, q3, q4, q5, q6⟩ := ih fuel (ob z 0 2 (nI (p + 1))) (p + 1) (hz.rf r) (ob_00 _ _ _) (by omega) (by omega)
      exact ⟨z', q1, by rw [if_pos rfl]; exact q2, by rw [q3, ob_0 _ _ (by omega)], by rw [q4, ob_0 _ _ (by omega)], by rw [q5, ob_0 _ _ (by omega)], r.tr q6⟩
def numI (b : Nat → Nat) : Nat → Nat → Int32 → Int32
  | 0, _, x => x
  | k + 1, p, x => if isF (b p) then numI b k (p + 1) (((x * 10) + nI (b p)) - 48) else x
theorem fg6_l {b : Nat → Nat} {t : Nat} : ∀ (k fuel : Nat) (z : Ob) (p : Nat), ZT z b t → z 0 2 = nI p → p + k = t → k < fuel → ∃ z', f_X3_takeFigures_l5 fuel z = f_X3_takeFigures_b68 z' ∧ z' 0 2 = nI (runP isF b k p) ∧ z' 0 3 = z 0 3 ∧ z' 0 5 = numI b k p (z 0 5) ∧ RF z z' := by
  intro k
  induction k with
  | zero =>
    intro fuel z p hz h2 hk hf
    obtain ⟨fuel, rfl⟩ : ∃ f, fuel = f + 1 := ⟨fuel - 1, by omega⟩
    have ht := hz.1
    rw [f_X3_takeFigures_l5, hz.2.1, h2, if_pos ((nI_le_iff (by omega) (by omega)).mpr (by omega))]
    exact ⟨z, rfl, h2, rfl, rfl, RF.rf z⟩
  | succ k ih =>
    intro fuel z p hz h2 hk hf
    obtain ⟨fuel, rfl⟩ : ∃ f, fuel = f + 1 := ⟨fuel - 1, by omega⟩
    have ht := hz.1
    rw [f_X3_takeFigures_l5, hz.2.1, h2, if_neg (by rw [nI_le_iff (by omega) (by omega)]; omega), ck_nI (by omega) (by omega), nI_cl (by omega), hz.2.2.1 p (by omega), fig6 (hz.2.2.2 p)]
    unfold runP numI
    cases hL : isF (b p) with
    | false =>
      rw [show b2i false = (0 : Int32) from rfl, bd0]
      exact ⟨z, rfl, by rw [if_neg (by decide)]; exact h2, rfl, by rw [if_neg (by decide)], RF.rf z⟩
    | true =>
      rw [show b2i true = (1 : Int32) from rfl, bd1, ck_nI (by omega) (by omega), nI_1]
      have r := (RF_ob z (k := 5) (((z 0 5 * 10) + nI (b p)) - 48) (by omega)).tr (RF_ob _ (k := 2) (nI (p + 1)) (by omega))
      obtain ⟨z', q1, q2, q3, q4, q5⟩ := ih fuel (ob (ob z 0 5 (((z 0 5 * 10) + nI (b p)) - 48)) 0 2 (nI (p + 1))) (p + 1) (hz.rf r) (ob_00 _ _ _) (by omega) (by omega)
      exact ⟨z', q1, by rw [if_pos rfl]; exact q2, by rw [q3, ob_0 _ _ (by omega), ob_0 _ _ (by omega)], by rw [q4, ob_0 _ _ (by omega), ob_00, if_pos rfl], r.tr q5⟩
theorem isF_iff {c : Nat} : isF c = true ↔ 48 ≤ c ∧ c ≤ 57 := by unfold isF; exact decide_eq_true_iff
theorem numI_v {b : Nat → Nat} {t q : Nat} (hq : q < t) (hF : isF (b q) = true) (h2 : runP isF b (t - q) q - q ≤ 2) : numI b (t - q) q 0 = nI (tkV b t q) := by
  obtain ⟨k, hk⟩ : ∃ k, t - q = k + 1 := ⟨t - q - 1, by omega⟩
  have f1 := isF_iff.mp hF
  unfold tkV
  rw [hk] at h2 ⊢
  unfold numI runP at *
  rw [if_pos hF] at h2 ⊢
  rw [if_pos hF]
  have e0 : ((0 : Int32) * 10 + nI (b q)) - 48 = nI (b q - 48) := by
    rw [show (0 : Int32) = nI 0 from rfl, show (10 : Int32) = nI 10 from rfl, show (48 : Int32) = nI 48 from rfl, nI_mul, nI_add, Nat.zero_mul, Nat.zero_add, nI_sub (by omega)]
  rw [e0]
  cases k with
  | zero =>
    unfold numI runP
    rw [if_pos (by omega)]
  | succ k =>
    unfold numI runP at *
    by_cases c : isF (b (q + 1)) = true
    · have f2 := isF_iff.mp c
      rw [if_pos c] at h2 ⊢
      rw [if_pos c]
      have h3 := runP_ge isF b k (q + 1 + 1)
      have h4 : runP isF b k (q + 1 + 1) = q + 1 + 1 := by omega
      rw [h4, if_neg (by omega)]
      have e1 : ((nI (b q - 48) * 10) + nI (b (q + 1))) - 48 = nI (10 * (b q - 48) + (b (q + 1) - 48)) := by
        rw [show (10 : Int32) = nI 10 from rfl, show (48 : Int32) = nI 48 from rfl, nI_mul, nI_add, nI_sub (by omega)]
        congr 1
        omega
      rw [e1]
      cases k with
      | zero => rfl
      | succ k =>
        unfold numI
        unfold runP at h4
        by_cases c2 : isF (b (q + 1 + 1)) = true
        · rw [if_pos c2] at h4
          have := runP_ge isF b k (q + 1 + 1 + 1)
          omega
        · rw [if_neg c2]
    · rw [if_neg c, if_neg c, if_pos (by omega)]
/-- the class takes a token -/
theorem tok6_b {b : Nat → Nat} {t q : Nat} {z : Ob} (hz : ZT z b t) (h2 : z 0 2 = nI q) (hq : q ≤ t) : ∃ z', f_X3_takeToken_b38 z = some z' ∧ z' 0 2 = nI (tkR b t q) ∧ z' 0 3 = nI q ∧ z' 0 4 = nI (tkK b t q) ∧ (tkK b t q = 2 → z' 0 5 = nI (tkV b t q)) ∧ RF z z' := by
  have ht := hz.1
  unfold f_X3_takeToken_b38
  rw [h2, hz.2.1]
  have r3 := RF_ob z (k := 3) (nI q) (by omega)
  by_cases c0 : t ≤ q
  · rw [if_neg (by rw [nI_lt_iff (by omega) (by omega)]; omega)]
    unfold tkR tkK
    rw [if_pos c0, if_pos c0]
    exact ⟨_, rfl, by rw [ob_0 _ _ (by omega), ob_0 _ _ (by omega)]; exact h2, by rw [ob_0 _ _ (by omega), ob_00], by rw [ob_00]; rfl, fun h => absurd h (by omega), r3.tr (RF_ob _ _ (by omega))⟩
  · rw [if_pos ((nI_lt_iff (by omega) (by omega)).mpr (by omega)), ck_nI (by omega) (by omega), nI_cl (by omega), hz.2.2.1 q (by omega), let6 (hz.2.2.2 q)]
    cases hL : isL (b q) with
    | true =>
      rw [show b2i true = (1 : Int32) from rfl, bd1]
      have r4 := r3.tr (RF_ob _ (k := 4) 1 (by omega))
      obtain ⟨z', q1, q2, q3, q4, q5, q6⟩ := nm6_l (b := b) (t := t) (t - q) FUEL (ob (ob z 0 3 (nI q)) 0 4 1) q (hz.rf r4) (by rw [ob_0 _ _ (by omega), ob_0 _ _ (by omega)]; exact h2) (by omega) (by unfold FUEL; omega)
      have q1' : f_X3_takeName (ob z 0 3 (nI q)) = some z' := q1
      rw [q1', Option.bind_some]
      unfold tkR tkK
      rw [if_neg c0, if_neg c0, hL, if_pos rfl, if_pos rfl]
      exact ⟨z', rfl, q2, by rw [q3, ob_0 _ _ (by omega), ob_00], by rw [q4, ob_00]; rfl, fun h => absurd h (by omega), r4.tr q6⟩
    | false =>
      rw [show b2i false = (0 : Int32) from rfl, bd0, ck_nI (by omega) (by omega), fig6 (hz.2.2.2 q)]
      unfold tkR tkK
      rw [if_neg c0, if_neg c0, hL, if_neg (show ¬ false = true by decide), if_neg (show ¬ false = true by decide)]
      cases hF : isF (b q) with
      | true =>
        rw [show b2i true = (1 : Int32) from rfl, bd1, if_pos rfl, if_pos rfl]
        have r4 := r3.tr (RF_ob _ (k := 5) 0 (by omega))
        obtain ⟨z', q1, q2, q3, q4, q5⟩ := fg6_l (b := b) (t := t) (t - q) FUEL (ob (ob z 0 3 (nI q)) 0 5 0) q (hz.rf r4) (by rw [ob_0 _ _ (by omega), ob_0 _ _ (by omega)]; exact h2) (by omega) (by unfold FUEL; omega)
        have q1' : f_X3_takeFigures (ob z 0 3 (nI q)) = f_X3_takeFigures_b68 z' := q1
        rw [ob_0 _ _ (by omega), ob_00] at q3
        rw [ob_00] at q4
        have hr := runP_ge isF b (t - q) q
        rw [q1']
        unfold f_X3_takeFigures_b68 f_X3_takeFigures_b87
        rw [q2, q3, nI_sub hr.1, show (2 : Int32) = nI 2 from rfl]
        by_cases c2 : runP isF b (t - q) q - q ≤ 2
        · rw [if_pos ((nI_le_iff (by omega) (by omega)).mpr c2), Option.bind_some, if_pos c2]
          exact ⟨_, rfl, by rw [ob_0 _ _ (by omega)]; exact q2, by rw [ob_0 _ _ (by omega)]; exact q3, by rw [ob_00], fun _ => by rw [ob_0 _ _ (by omega), q4]; exact numI_v (by omega) hF c2, (r4.tr q5).tr (RF_ob _ _ (by omega))⟩
        · rw [if_neg (fun x => c2 ((nI_le_iff (by omega) (by omega)).mp x)), Option.bind_some, if_neg c2]
          exact ⟨_, rfl, by rw [ob_0 _ _ (by omega)]; exact q2, by rw [ob_0 _ _ (by omega)]; exact q3, by rw [ob_00]; rfl, fun h => absurd h (by omega), (r4.tr q5).tr (RF_ob _ _ (by omega))⟩
      | false =>
        have hb := hz.2.2.2 q
        rw [show b2i false = (0 : Int32) from rfl, bd0, ck_nI (by omega) (by omega), if_neg (show ¬ false = true by decide), if_neg (show ¬ false = true by decide)]
        unfold f_X3_takeToken_b129
        rw [ob_0 _ _ (show (2 : Nat) ≠ 3 by omega), h2, nI_1]
        by_cases c2 : b q = 59
        · rw [if_pos (by rw [c2]; rfl), if_pos c2]
          exact ⟨_, rfl, ob_00 _ _ _, by rw [ob_0 _ _ (by omega), ob_0 _ _ (by omega), ob_00], by rw [ob_0 _ _ (by omega), ob_00]; rfl, fun h => absurd h (by omega), (r3.tr (RF_ob _ _ (by omega))).tr (RF_ob _ _ (by omega))⟩
        · rw [if_neg (show ¬ nI (b q) = (59 : Int32) by rw [show (59 : Int32) = nI 59 from rfl, nI_eq_iff (by omega) (by omega)]; exact c2), if_neg c2]
          exact ⟨_, rfl, ob_00 _ _ _, by rw [ob_0 _ _ (by omega), ob_0 _ _ (by omega), ob_00], by rw [ob_0 _ _ (by omega), ob_00]; rfl, fun h => absurd h (by omega), (r3.tr (RF_ob _ _ (by omega))).tr (RF_ob _ _ (by omega))⟩
theorem tok6_l {b : Nat → Nat} {t : Nat} : ∀ (k fuel : Nat) (z : Ob) (p : Nat), ZT z b t → z 0 2 = nI p → p + k = t → k < fuel → ∃ z', f_X3_takeToken_l0 fuel z = f_X3_takeToken_b38 z' ∧ z' 0 2 = nI (runP isB b k p) ∧ RF z z' := by
  intro k
  induction k with
  | zero =>
    intro fuel z p hz h2 hk hf
    obtain ⟨fuel, rfl⟩ : ∃ f, fuel = f + 1 := ⟨fuel - 1, by omega⟩
    have ht := hz.1
    rw [f_X3_takeToken_l0, hz.2.1, h2, if_pos ((nI_le_iff (by omega) (by omega)).mpr (by omega))]
    exact ⟨z, rfl, h2, RF.rf z⟩
  | succ k ih =>
    intro fuel z p hz h2 hk hf
    obtain ⟨fuel, rfl⟩ : ∃ f, fuel = f + 1 := ⟨fuel - 1, by omega⟩
    have ht := hz.1
    have hb := hz.2.2.2 p
    rw [f_X3_takeToken_l0, hz.2.1, h2, if_neg (by rw [nI_le_iff (by omega) (by omega)]; omega), ck_nI (by omega) (by omega), nI_cl (by omega), hz.2.2.1 p (by omega)]
    unfold runP
    by_cases c : b p = 32
    · rw [if_pos (by rw [c]; rfl), if_pos (show isB (b p) = true by unfold isB; rw [c]; rfl), nI_1]
      have r := RF_ob z (k := 2) (nI (p + 1)) (by omega)
      obtain ⟨z', q1, q2, q3⟩ := ih fuel (ob z 0 2 (nI (p + 1))) (p + 1) (hz.rf r) (ob_00 _ _ _) (by omega) (by omega)
      exact ⟨z', q1, q2, r.tr q3⟩
    · rw [if_neg (show ¬ nI (b p) = (32 : Int32) by rw [show (32 : Int32) = nI 32 from rfl, nI_eq_iff (by omega) (by omega)]; exact c), if_neg (show ¬ isB (b p) = true by unfold isB; rw [decide_eq_true_iff]; exact c)]
      exact ⟨z, rfl, h2, RF.rf z⟩
theorem tok6 {b : Nat → Nat} {t p : Nat} {z : Ob} (hz : ZT z b t) (h2 : z 0 2 = nI p) (hp : p ≤ t) : ∃ z', f_X3_takeToken z = some z' ∧ z' 0 2 = nI (tkE b t p) ∧ z' 0 3 = nI (tkS b t p) ∧ z' 0 4 = nI (tkC b t p) ∧ (tkC b t p = 2 → z' 0 5 = nI (tkV b t (tkS b t p))) ∧ RF z z' := by
  have ht := hz.1
  obtain ⟨z1, q1, q2, q3⟩ := tok6_l (b := b) (t := t) (t - p) FUEL z p hz h2 (by omega) (by unfold FUEL; omega)
  obtain ⟨z2, r1, r2, r3, r4, r5, r6⟩ := tok6_b (hz.rf q3) q2 (tkS_le hp).2
  exact ⟨z2, q1.trans r1, r2, r3, r4, r5, q3.tr r6⟩
/-! the model's -/
def MT (M : Ob) (b : Nat → Nat) (t : Nat) : Prop := t ≤ 160 ∧ M 0 5 = nI t ∧ (∀ i, i < t → M 3 i = nI (b i)) ∧ ∀ i, b i < 128
/-- what a step leaves -/
def MF (M M' : Ob) : Prop := (∀ c, c ≠ 0 → M' c = M c) ∧ ∀ k, (k < 7 ∨ 12 < k) → M' 0 k = M 0 k
theorem MF.rf (M : Ob) : MF M M := ⟨fun _ _ => rfl, fun _ _ => rfl⟩
theorem MF.tr {A B C : Ob} (h : MF A B) (h2 : MF B C) : MF A C := ⟨fun c q => (h2.1 c q).trans (h.1 c q), fun k q => (h2.2 k q).trans (h.2 k q)⟩
theorem MF_ob (M : Ob) {k : Nat} (v : Int32) (h : 7 ≤ k ∧ k ≤ 12) : MF M (ob M 0 k v) := ⟨fun c q => by funext j; rw [ob_at, if_neg q], fun j q => ob_0 _ _ (by omega)⟩
theorem MT.mf {M M' : Ob} {b : Nat → Nat} {t : Nat} (h : MT M b t) (r : MF M M') : MT M' b t := ⟨h.1, by rw [r.2 5 (by omega)]; exact h.2.1, fun i hi => by rw [r.1 3 (by omega)]; exact h.2.2.1 i hi, h.2.2.2⟩
theorem byteAt_in {M : Ob} {b : Nat → Nat} {t p : Nat} (h : MT M b t) (hp : p < t) : f_X7_byteAt M (nI p) = some (nI (b p)) := by
  have ht := h.1
  unfold f_X7_byteAt
  rw [h.2.1, if_neg (by rw [nI_le_iff (by omega) (by omega)]; omega), ck_nI (by omega) (by omega), nI_cl (by omega), h.2.2.1 p hp]
theorem byteAt_out {M : Ob} {b : Nat → Nat} {t p : Nat} (h : MT M b t) (hp : t ≤ p) (hp2 : p < 1000) : f_X7_byteAt M (nI p) = some (-4) := by
  have ht := h.1
  unfold f_X7_byteAt
  rw [h.2.1, if_pos ((nI_le_iff (by omega) (by omega)).mpr hp)]
theorem let7 {c : Nat} (hc : c < 128) : f_X7_in (nI c).toInt64 97 122 = some (b2i (isL c)) := by
  have : ∀ j : Fin 128, isS (f_X7_in (nI j.val).toInt64 97 122) (b2i (isL j.val)) = true := by decide +kernel
  exact isS_eq (this ⟨c, hc⟩)
theorem fig7 {c : Nat} (hc : c < 128) : f_X7_in (nI c).toInt64 48 57 = some (b2i (isF c)) := by
  have : ∀ j : Fin 128, isS (f_X7_in (nI j.val).toInt64 48 57) (b2i (isF j.val)) = true := by decide +kernel
  exact isS_eq (this ⟨c, hc⟩)
theorem let7_n : f_X7_in (-4 : Int32).toInt64 97 122 = some 0 := isS_eq (by decide +kernel)
theorem fig7_n : f_X7_in (-4 : Int32).toInt64 48 57 = some 0 := isS_eq (by decide +kernel)
theorem nm7_l {b : Nat → Nat} {t : Nat} : ∀ (k fuel : Nat) (M : Ob) (p : Nat), MT M b t → M 0 9 = nI p → p + k = t → k < fuel → ∃ M', f_X7_step_l84 fuel M = some M' ∧ M' 0 9 = nI (runP isL b k p) ∧ M' 0 10 = M 0 10 ∧ M' 0 11 = 1 ∧ M' 0 7 = M 0 7 ∧ M' 0 8 = M 0 8 ∧ MF M M' := by
  intro k
  induction k with
  | zero =>
    intro fuel M p hz h2 hk hf
    obtain ⟨fuel, rfl⟩ : ∃ f, fuel = f + 1 := ⟨fuel - 1, by omega⟩
    have ht := hz.1
    rw [f_X7_step_l84, h2, byteAt_out hz (by omega) (by omega), Option.bind_some, let7_n, bd0]
    exact ⟨_, rfl, by rw [ob_0 _ _ (by omega)]; exact h2, ob_0 _ _ (by omega), ob_00 _ _ _, ob_0 _ _ (by omega), ob_0 _ _ (by omega), MF_ob M _ (by omega)⟩
  | succ k ih =>
    intro fuel M p hz h2 hk hf
    obtain ⟨fuel, rfl⟩ : ∃ f, fuel = f + 1 := ⟨fuel - 1, by omega⟩
    have ht := hz.1
    rw [f_X7_step_l84, h2, byteAt_in hz (by omega), Option.bind_some, let7 (hz.2.2.2 p)]
    unfold runP
    cases hL : isL (b p) with
    | false =>
      rw [show b2i false = (0 : Int32) from rfl, bd0, if_neg (by decide)]
      exact ⟨_, rfl, by rw [ob_0 _ _ (by omega)]; exact h2, ob_0 _ _ (by omega), ob_00 _ _ _, ob_0 _ _ (by omega), ob_0 _ _ (by omega), MF_ob M _ (by omega)⟩
    | true =>
      rw [show b2i true = (1 : Int32) from rfl, bd1, nI_1, if_pos rfl]
      have r := MF_ob M (k := 9) (nI (p + 1)) (by omega)
      obtain ⟨M', q1, q2, q3, q4, q5, q6, q7⟩ := ih fuel (ob M 0 9 (nI (p + 1))) (p + 1) (hz.mf r) (ob_00 _ _ _) (by omega) (by omega)
      exact ⟨M', q1, q2, by rw [q3, ob_0 _ _ (by omega)], q4, by rw [q5, ob_0 _ _ (by omega)], by rw [q6, ob_0 _ _ (by omega)], r.tr q7⟩
def mvI (b : Nat → Nat) (q : Nat) : Nat → Nat → Int32 → Int32
  | 0, _, x => x
  | k + 1, p, x => if isF (b p) then mvI b q k (p + 1) (if p - q < 2 then (((10 : Int32) * x) + nI (b p)) - 48 else x) else x
/-- behind the figures -/
theorem fg7_l {b : Nat → Nat} {t q : Nat} : ∀ (k fuel : Nat) (M : Ob) (p : Nat), MT M b t → M 0 9 = nI p → M 0 10 = nI q → M 0 7 = 0 → q ≤ p → p + k = t → k < fuel → ∃ M', f_X7_step_l140 fuel M = some M' ∧ M' 0 9 = nI (runP isF b k p) ∧ M' 0 10 = nI q ∧ M' 0 11 = 2 ∧ M' 0 12 = mvI b q k p (M 0 12) ∧ MF M M' ∧ (runP isF b k p - q ≤ 2 → M' 0 7 = 0) ∧ (¬ runP isF b k p - q ≤ 2 → M' 0 7 = 1 ∧ M' 0 8 = nI q) := by
  have fin : ∀ (M : Ob) (p : Nat), p ≤ 160 → M 0 9 = nI p → M 0 10 = nI q → M 0 7 = 0 → q ≤ p → ∃ M', (if ((M 0 9) - (M 0 10)) ≤ (2 : Int32) then (some (ob M 0 11 (2 : Int32))) else ((f_X7_fails (ob M 0 11 (2 : Int32)) (1 : Int32)).bind fun q6 => some q6)) = some M' ∧ M' 0 9 = nI p ∧ M' 0 10 = nI q ∧ M' 0 11 = 2 ∧ M' 0 12 = M 0 12 ∧ MF M M' ∧ (p - q ≤ 2 → M' 0 7 = 0) ∧ (¬ p - q ≤ 2 → M' 0 7 = 1 ∧ M' 0 8 = nI q) := by
    intro M p hp h9 h10 h7 hq
    rw [h9, h10, nI_sub hq, show (2 : Int32) = nI 2 from rfl]
    by_cases c : p - q ≤ 2
    · rw [if_pos ((nI_le_iff (by omega) (by omega)).mpr c)]
      exact ⟨_, rfl, by rw [ob_0 _ _ (by omega)]; exact h9, by rw [ob_0 _ _ (by omega)]; exact h10, ob_00 _ _ _, ob_0 _ _ (by omega), MF_ob M _ (by omega), fun _ => by rw [ob_0 _ _ (by omega)]; exact h7, fun x => absurd c x⟩
    · rw [if_neg (fun x => c ((nI_le_iff (by omega) (by omega)).mp x))]
      unfold f_X7_fails
      rw [ob_0 _ _ (show (7 : Nat) ≠ 11 by omega), h7, if_pos rfl, Option.bind_some, ob_0 _ _ (show (10 : Nat) ≠ 11 by omega), h10]
      refine ⟨_, rfl, ?_, ?_, ?_, ?_, ((MF_ob M _ (by omega)).tr (MF_ob _ _ (by omega))).tr (MF_ob _ _ (by omega)), fun x => absurd x c, fun _ => ⟨?_, ob_00 _ _ _⟩⟩
      · rw [ob_0 _ _ (by omega), ob_0 _ _ (by omega), ob_0 _ _ (by omega)]; exact h9
      · rw [ob_0 _ _ (by omega), ob_0 _ _ (by omega), ob_0 _ _ (by omega)]; exact h10
      · rw [ob_0 _ _ (by omega), ob_0 _ _ (by omega), ob_00]
      · rw [ob_0 _ _ (by omega), ob_0 _ _ (by omega), ob_0 _ _ (by omega)]
      · rw [ob_0 _ _ (by omega), ob_00]
  intro k
  induction k with
  | zero =>
    intro fuel M p hz h9 h10 h7 hq hk hf
    obtain ⟨fuel, rfl⟩ : ∃ f, fuel = f + 1 := ⟨fuel - 1, by omega⟩
    have ht := hz.1
    have e : f_X7_byteAt M (M 0 9) = some (-4) := by rw [h9]; exact byteAt_out hz (by omega) (by omega)
    rw [f_X7_step_l140, e, Option.bind_some, fig7_n, bd0]
    exact fin M p (by omega) h9 h10 h7 hq
  | succ k ih =>
    intro fuel M p hz h9 h10 h7 hq hk hf
    obtain ⟨fuel, rfl⟩ : ∃ f, fuel = f + 1 := ⟨fuel - 1, by omega⟩
    have ht := hz.1
    have hb := hz.2.2.2 p
    have e : f_X7_byteAt M (M 0 9) = some (nI (b p)) := by rw [h9]; exact byteAt_in hz (by omega)
    rw [f_X7_step_l140, e, Option.bind_some, fig7 hb]
    unfold runP mvI
    cases hF : isF (b p) with
    | false =>
      rw [show b2i false = (0 : Int32) from rfl, bd0, if_neg (show ¬ false = true by decide), if_neg (show ¬ false = true by decide)]
      exact fin M p (by omega) h9 h10 h7 hq
    | true =>
      rw [show b2i true = (1 : Int32) from rfl, bd1, if_pos rfl, if_pos rfl, Option.bind_some]
      unfold f_X7_step_b201
      have go : ∀ y : Int32, y = (if p - q < 2 then (((10 : Int32) * M 0 12) + nI (b p)) - 48 else M 0 12) → ∃ M', f_X7_step_l140 fuel (ob (ob M 0 12 y) 0 9 (M 0 9 + 1)) = some M' ∧ M' 0 9 = nI (runP isF b k (p + 1)) ∧ M' 0 10 = nI q ∧ M' 0 11 = 2 ∧ M' 0 12 = mvI b q k (p + 1) (if p - q < 2 then (((10 : Int32) * M 0 12) + nI (b p)) - 48 else M 0 12) ∧ MF M M' ∧ (runP isF b k (p + 1) - q ≤ 2 → M' 0 7 = 0) ∧ (¬ runP isF b k (p + 1) - q ≤ 2 → M' 0 7 = 1 ∧ M' 0 8 = nI q) := by
        intro y hy
        have r := (MF_ob M (k := 12) y (by omega)).tr (MF_ob _ (k := 9) (M 0 9 + 1) (by omega))
        obtain ⟨M', q1, q2, q3, q4, q5, q6, q7, q8⟩ := ih fuel (ob (ob M 0 12 y) 0 9 (M 0 9 + 1)) (p + 1) (hz.mf r) (by rw [ob_00, h9, nI_1]) (by rw [ob_0 _ _ (by omega), ob_0 _ _ (by omega)]; exact h10) (by rw [ob_0 _ _ (by omega), ob_0 _ _ (by omega)]; exact h7) (by omega) (by omega) (by omega)
        exact ⟨M', q1, q2, q3, q4, by rw [q5, ob_0 _ _ (by omega), ob_00, hy], r.tr q6, q7, q8⟩
      have e3 : (2 : Int32) ≤ M 0 9 - M 0 10 ↔ ¬ p - q < 2 := by
        rw [h9, h10, nI_sub hq, show (2 : Int32) = nI 2 from rfl, nI_le_iff (by omega) (by omega)]
        omega
      by_cases c : p - q < 2
      · rw [if_neg (fun x => (e3.mp x) c)]
        exact go _ (by rw [if_pos c])
      · rw [if_pos (e3.mpr c)]
        exact go _ (by rw [if_neg c])
theorem mvI_v {b : Nat → Nat} {t q : Nat} (hq : q < t) (hF : isF (b q) = true) (h2 : runP isF b (t - q) q - q ≤ 2) : mvI b q (t - q) q 0 = nI (tkV b t q) := by
  obtain ⟨k, hk⟩ : ∃ k, t - q = k + 1 := ⟨t - q - 1, by omega⟩
  have f1 := isF_iff.mp hF
  unfold tkV
  rw [hk] at h2 ⊢
  unfold mvI runP at *
  rw [if_pos hF] at h2 ⊢
  rw [if_pos hF, if_pos (show q - q < 2 by omega)]
  have e0 : ((10 : Int32) * 0 + nI (b q)) - 48 = nI (b q - 48) := by
    rw [show (0 : Int32) = nI 0 from rfl, show (10 : Int32) = nI 10 from rfl, show (48 : Int32) = nI 48 from rfl, nI_mul, nI_add, Nat.mul_zero, Nat.zero_add, nI_sub (by omega)]
  rw [e0]
  cases k with
  | zero =>
    unfold mvI runP
    rw [if_pos (by omega)]
  | succ k =>
    unfold mvI runP at *
    by_cases c : isF (b (q + 1)) = true
    · have f2 := isF_iff.mp c
      rw [if_pos c] at h2 ⊢
      rw [if_pos c, if_pos (show q + 1 - q < 2 by omega)]
      have h3 := runP_ge isF b k (q + 1 + 1)
      have h4 : runP isF b k (q + 1 + 1) = q + 1 + 1 := by omega
      rw [h4, if_neg (by omega)]
      have e1 : (((10 : Int32) * nI (b q - 48)) + nI (b (q + 1))) - 48 = nI (10 * (b q - 48) + (b (q + 1) - 48)) := by
        rw [show (10 : Int32) = nI 10 from rfl, show (48 : Int32) = nI 48 from rfl, nI_mul, nI_add, nI_sub (by omega)]
        congr 1
        omega
      rw [e1]
      cases k with
      | zero => rfl
      | succ k =>
        unfold mvI
        unfold runP at h4
        by_cases c2 : isF (b (q + 1 + 1)) = true
        · rw [if_pos c2] at h4
          have := runP_ge isF b k (q + 1 + 1 + 1)
          omega
        · rw [if_neg c2]
    · rw [if_neg c, if_neg c, if_pos (by omega)]
/-- the model stands behind a token that begins at q -/
def mco (c : Nat) : Nat := if c = 4 then 0 else c
def TK (M : Ob) (b : Nat → Nat) (t q : Nat) : Prop := M 0 9 = nI (tkR b t q) ∧ M 0 10 = nI q ∧ (tkK b t q ≠ 0 → M 0 7 = 0 ∧ M 0 11 = nI (mco (tkK b t q))) ∧ (tkK b t q = 0 → M 0 7 = 1 ∧ M 0 8 = nI q) ∧ (tkK b t q = 2 → M 0 12 = nI (tkV b t q))
theorem tok7_l {b : Nat → Nat} {t : Nat} : ∀ (k fuel : Nat) (M : Ob) (p : Nat), MT M b t → M 0 9 = nI p → M 0 7 = 0 → p + k = t → k < fuel → ∃ M', f_X7_step_l8 fuel M = some M' ∧ TK M' b t (runP isB b k p) ∧ MF M M' := by
  -- behind the blanks
  have fin : ∀ (M : Ob) (p fuel : Nat), MT M b t → M 0 9 = nI p → M 0 7 = 0 → p ≤ t → (p < t → b p ≠ 32) → ∃ M', f_X7_step_l8 (fuel + 1) M = some M' ∧ TK M' b t p ∧ MF M M' := by
    intro M q fuel hz h9 h7 hq hnb
    have ht := hz.1
    have r1 := MF_ob M (k := 10) (nI q) (by omega)
    unfold TK tkR tkK mco
    by_cases c0 : t ≤ q
    · rw [f_X7_step_l8, h9, byteAt_out hz c0 (by omega), Option.bind_some, if_neg (show ¬ (-4 : Int32) = 32 by decide), byteAt_out (hz.mf r1) c0 (by omega), Option.bind_some, if_pos rfl, if_pos c0, if_pos c0]
      refine ⟨_, rfl, ⟨?_, ?_, fun _ => ⟨?_, ?_⟩, fun x => absurd x (by omega), fun x => absurd x (by omega)⟩, (r1.tr (MF_ob _ _ (by omega))).tr (MF_ob _ _ (by omega))⟩
      · rw [ob_0 _ _ (by omega), ob_0 _ _ (by omega), ob_0 _ _ (by omega)]; exact h9
      · rw [ob_0 _ _ (by omega), ob_0 _ _ (by omega), ob_00]
      · rw [ob_0 _ _ (by omega), ob_0 _ _ (by omega), ob_0 _ _ (by omega)]; exact h7
      · rw [ob_00]; rfl
    · have hb := hz.2.2.2 q
      have n4 : ¬ nI (b q) = (-4 : Int32) := nI_ne_neg (k := 4) (by omega) (by omega) (by omega)
      rw [f_X7_step_l8, h9, byteAt_in hz (by omega), Option.bind_some, if_neg (show ¬ nI (b q) = (32 : Int32) by rw [show (32 : Int32) = nI 32 from rfl, nI_eq_iff (by omega) (by omega)]; exact hnb (by omega)), byteAt_in (hz.mf r1) (by omega), Option.bind_some, if_neg n4, let7 hb, if_neg c0, if_neg c0]
      have r2 := r1.tr (MF_ob _ (k := 12) 0 (by omega))
      cases hL : isL (b q) with
      | true =>
        rw [show b2i true = (1 : Int32) from rfl, bd1, if_pos rfl, if_pos rfl]
        obtain ⟨M', q1, q2, q3, q4, q5, q6, q7⟩ := nm7_l (b := b) (t := t) (t - q) FUEL (ob (ob M 0 10 (nI q)) 0 12 0) q (hz.mf r2) (by rw [ob_0 _ _ (by omega), ob_0 _ _ (by omega)]; exact h9) (by omega) (by unfold FUEL; omega)
        refine ⟨M', q1, ⟨q2, by rw [q3, ob_0 _ _ (by omega), ob_00], fun _ => ⟨by rw [q5, ob_0 _ _ (by omega), ob_0 _ _ (by omega)]; exact h7, by rw [q4]; rfl⟩, fun x => absurd x (by omega), fun x => absurd x (by omega)⟩, r2.tr q7⟩
      | false =>
        rw [show b2i false = (0 : Int32) from rfl, bd0, fig7 hb, if_neg (show ¬ false = true by decide), if_neg (show ¬ false = true by decide)]
        cases hF : isF (b q) with
        | true =>
          rw [show b2i true = (1 : Int32) from rfl, bd1, if_pos rfl, if_pos rfl]
          obtain ⟨M', q1, q2, q3, q4, q5, q6, q7, q8⟩ := fg7_l (b := b) (t := t) (q := q) (t - q) FUEL (ob (ob M 0 10 (nI q)) 0 12 0) q (hz.mf r2) (by rw [ob_0 _ _ (by omega), ob_0 _ _ (by omega)]; exact h9) (by rw [ob_0 _ _ (by omega), ob_00]) (by rw [ob_0 _ _ (by omega), ob_0 _ _ (by omega)]; exact h7) (Nat.le_refl _) (by omega) (by unfold FUEL; omega)
          rw [ob_00] at q5
          by_cases c2 : runP isF b (t - q) q - q ≤ 2
          · rw [if_pos c2]
            exact ⟨M', q1, ⟨q2, q3, fun _ => ⟨q7 c2, by rw [q4]; rfl⟩, fun x => absurd x (by omega), fun _ => by rw [q5]; exact mvI_v (by omega) hF c2⟩, r2.tr q6⟩
          · rw [if_neg c2]
            exact ⟨M', q1, ⟨q2, q3, fun x => absurd rfl x, fun _ => q8 c2, fun x => absurd x (by omega)⟩, r2.tr q6⟩
        | false =>
          rw [show b2i false = (0 : Int32) from rfl, bd0, if_neg (show ¬ false = true by decide), if_neg (show ¬ false = true by decide), nI_1]
          have r4 := (r2.tr (MF_ob _ (k := 11) 3 (by omega))).tr (MF_ob _ (k := 9) (nI (q + 1)) (by omega))
          by_cases c2 : b q = 59
          · rw [if_pos (by rw [c2]; rfl), if_pos c2]
            refine ⟨_, rfl, ⟨ob_00 _ _ _, ?_, fun _ => ⟨?_, ?_⟩, fun x => absurd x (by omega), fun x => absurd x (by omega)⟩, r4⟩
            · rw [ob_0 _ _ (by omega), ob_0 _ _ (by omega), ob_0 _ _ (by omega), ob_00]
            · rw [ob_0 _ _ (by omega), ob_0 _ _ (by omega), ob_0 _ _ (by omega), ob_0 _ _ (by omega)]; exact h7
            · rw [ob_0 _ _ (by omega), ob_00]; rfl
          · rw [if_neg (show ¬ nI (b q) = (59 : Int32) by rw [show (59 : Int32) = nI 59 from rfl, nI_eq_iff (by omega) (by omega)]; exact c2), if_neg c2]
            unfold f_X7_fails
            rw [ob_0 _ _ (show (7 : Nat) ≠ 9 by omega), ob_0 _ _ (show (7 : Nat) ≠ 11 by omega), ob_0 _ _ (show (7 : Nat) ≠ 12 by omega), ob_0 _ _ (show (7 : Nat) ≠ 10 by omega), h7, if_pos rfl, Option.bind_some, ob_0 _ _ (show (10 : Nat) ≠ 9 by omega), ob_0 _ _ (show (10 : Nat) ≠ 11 by omega), ob_0 _ _ (show (10 : Nat) ≠ 12 by omega), ob_00]
            refine ⟨_, rfl, ⟨?_, ?_, fun x => absurd rfl x, fun _ => ⟨?_, ob_00 _ _ _⟩, fun x => absurd x (by omega)⟩, (r4.tr (MF_ob _ _ (by omega))).tr (MF_ob _ _ (by omega))⟩
            · rw [ob_0 _ _ (by omega), ob_0 _ _ (by omega), ob_00]
            · rw [ob_0 _ _ (by omega), ob_0 _ _ (by omega), ob_0 _ _ (by omega), ob_0 _ _ (by omega), ob_0 _ _ (by omega), ob_00]
            · rw [ob_0 _ _ (by omega), ob_00]
  intro k
  induction k with
  | zero =>
    intro fuel M p hz h9 h7 hk hf
    obtain ⟨fuel, rfl⟩ : ∃ f, fuel = f + 1 := ⟨fuel - 1, by omega⟩
    exact fin M p fuel hz h9 h7 (by omega) (fun x => absurd x (by omega))
  | succ k ih =>
    intro fuel M p hz h9 h7 hk hf
    obtain ⟨fuel, rfl⟩ : ∃ f, fuel = f + 1 := ⟨fuel - 1, by omega⟩
    unfold runP
    by_cases c : b p = 32
    · rw [if_pos (show isB (b p) = true by unfold isB; rw [c]; rfl), f_X7_step_l8, h9, byteAt_in hz (by omega), Option.bind_some, if_pos (by rw [c]; rfl), nI_1]
      have r := MF_ob M (k := 9) (nI (p + 1)) (by omega)
      obtain ⟨M', q1, q2, q3⟩ := ih fuel (ob M 0 9 (nI (p + 1))) (p + 1) (hz.mf r) (ob_00 _ _ _) (by rw [ob_0 _ _ (by omega)]; exact h7) (by omega) (by omega)
      exact ⟨M', q1, q2, r.tr q3⟩
    · rw [if_neg (show ¬ isB (b p) = true by unfold isB; rw [decide_eq_true_iff]; exact c)]
      exact fin M p fuel hz h9 h7 (by omega) (fun _ => c)
theorem tok7 {b : Nat → Nat} {t p : Nat} {M : Ob} (hz : MT M b t) (h9 : M 0 9 = nI p) (h7 : M 0 7 = 0) (hp : p ≤ t) : ∃ M', f_X7_step M = some M' ∧ TK M' b t (tkS b t p) ∧ MF M M' := by
  have ht := hz.1
  obtain ⟨M1, q1, q2, q3⟩ := tok7_l (b := b) (t := t) (t - p) FUEL M p hz h9 h7 (by omega) (by unfold FUEL; omega)
  unfold f_X7_step
  rw [h7, if_pos (by decide)]
  exact ⟨M1, q1, q2, q3⟩
/-- broken: nothing more happens -/
def Brk (M : Ob) (f s : Nat) : Prop := M 0 7 = nI f ∧ M 0 8 = nI s ∧ 0 < f ∧ f ≤ 5
theorem Brk.step {M : Ob} {f s : Nat} (h : Brk M f s) : f_X7_step M = some M := by
  obtain ⟨h1, h2, h3, h4⟩ := h
  unfold f_X7_step
  rw [h1, if_neg (nI_nle h3 (by omega))]
theorem Brk.ne {M : Ob} {f s : Nat} (h : Brk M f s) : ¬ M 0 7 = 0 := by rw [h.1]; exact nI_ne0 h.2.2.1 (by have := h.2.2.2; omega)
theorem Brk.fails {M : Ob} {f s : Nat} (h : Brk M f s) (c : Int32) : f_X7_fails M c = some M := by
  unfold f_X7_fails
  rw [if_neg h.ne]
