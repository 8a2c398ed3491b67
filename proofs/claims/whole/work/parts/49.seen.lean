/-! what is seen -/
def vwP (c : Nat → Nat) (d : Nat) : Nat := itP mdP d c 0
theorem itm_wf : ∀ (n : Nat) (c : Nat → Nat), WF c → WF (itP mdP n c)
  | 0, _, h => h
  | n + 1, c, h => itm_wf n (mdP c) (mdP_wf h)
theorem vwP_lt {c : Nat → Nat} (h : WF c) (d : Nat) : vwP c d < 16777216 := (itm_wf d c h).1
/-- as seen, told one by one -/
def ftP (s : Nat) (n e v : Nat → Nat) (c : Nat → Nat) : Nat → Bool
  | 0 => true
  | k + 1 => decide (hbt (vwP c (n (s - (k + 1)))) (e (s - (k + 1))) = v (s - (k + 1))) && ftP s n e v c k
def SZ (z : Ob) (s : Nat) (n e v : Nat → Nat) : Prop := z 0 0 = nI s ∧ s ≤ 6 ∧ ∀ i, i < s → z 1 i = nI (n i) ∧ z 2 i = nI (e i) ∧ z 3 i = nI (v i) ∧ n i ≤ 20 ∧ e i < 24 ∧ v i < 2
def SM (M : Ob) (s : Nat) (n e v : Nat → Nat) : Prop := M 0 18 = nI s ∧ s ≤ 6 ∧ ∀ i, i < s → M 7 (3 * i) = nI (n i) ∧ M 7 (3 * i + 1) = nI (e i) ∧ M 7 (3 * i + 2) = nI (v i) ∧ n i ≤ 20 ∧ e i < 24 ∧ v i < 2
theorem SM.keep {M M1 : Ob} {s : Nat} {n e v : Nat → Nat} (h : SM M s n e v) (h1 : M1 0 18 = M 0 18) (h2 : M1 7 = M 7) : SM M1 s n e v := ⟨by rw [h1]; exact h.1, h.2.1, fun i hi => by rw [h2]; exact h.2.2 i hi⟩
theorem SZ.keep {z z1 : Ob} {s : Nat} {n e v : Nat → Nat} (h : SZ z s n e v) (h1 : ∀ c, c < 4 → z1 c = z c) : SZ z1 s n e v := ⟨by rw [h1 0 (by omega)]; exact h.1, h.2.1, fun i hi => by rw [h1 1 (by omega), h1 2 (by omega), h1 3 (by omega)]; exact h.2.2 i hi⟩
theorem bit_at {H j : Nat} (hH : H < 16777216) (hj : j < 24) : ((nI H >>> (nI j &&& 31)) &&& (1 : Int32)) = nI (hbt H j) := by
  rw [show (31 : Int32) = nI 31 from rfl, nI_shr (by omega) (by omega), show (1 : Int32) = nI 1 from rfl, fa_and, hbt_shr]
theorem fits_l30 {z w : Ob} {s : Nat} {n e v : Nat → Nat} {c : Nat → Nat} (hs : SZ z s n e v) (hc : WF c) (hv : ∀ j, j < 21 → z 4 j = nI (vwP c j)) : ∀ (k fuel : Nat), k ≤ s → k < fuel → f_X4_fits_l30 fuel z w (nI (s - k)) = some (b2i (ftP s n e v c k), z, w) := by
  obtain ⟨s1, s2, s3⟩ := hs
  intro k
  induction k with
  | zero =>
    intro fuel hk hf
    obtain ⟨fuel, rfl⟩ : ∃ f, fuel = f + 1 := ⟨fuel - 1, by omega⟩
    rw [f_X4_fits_l30, s1, if_pos (show nI s ≤ nI (s - 0) from (nI_le_iff (by omega) (by omega)).mpr (by omega))]
    rfl
  | succ k ih =>
    intro fuel hk hf
    obtain ⟨fuel, rfl⟩ : ∃ f, fuel = f + 1 := ⟨fuel - 1, by omega⟩
    obtain ⟨e1, e2, e3, l1, l2, l3⟩ := s3 (s - (k + 1)) (by omega)
    have hb := hbt_lt (vwP c (n (s - (k + 1)))) (e (s - (k + 1)))
    rw [f_X4_fits_l30, s1, if_neg (show ¬ nI s ≤ nI (s - (k + 1)) by rw [nI_le_iff (by omega) (by omega)]; omega), ck_nI (by omega) (by omega), nI_cl (by omega), e1, ck_nI (by omega) (by omega), nI_cl (by omega), ck_nI (by omega) (by omega), ck_nI (by omega) (by omega), hv _ (by omega), e2, e3, bit_at (vwP_lt hc _) l2]
    unfold ftP
    by_cases q : hbt (vwP c (n (s - (k + 1)))) (e (s - (k + 1))) = v (s - (k + 1))
    · rw [if_pos (by rw [q]), nI_1, show s - (k + 1) + 1 = s - k from by omega, ih fuel (by omega) (by omega)]
      simp [q]
    · rw [if_neg (by rw [nI_eq_iff (by omega) (by omega)]; exact q)]
      simp [q, b2i]
theorem fits_l2 : ∀ (k fuel : Nat) (z w : Ob) (c : Nat → Nat), RZ w c → WF c → c 52 + k ≤ 3000 → k ≤ 21 → k < fuel → ∃ z' w', f_X4_fits_l2 fuel z w (nI (21 - k)) = f_X4_fits_l30 FUEL z' w' 0 ∧ (∀ q, q ≠ 4 → z' q = z q) ∧ (∀ j, j < 21 - k → z' 4 j = z 4 j) ∧ ∀ j, j < k → z' 4 (21 - k + j) = nI (vwP c j) := by
  intro k
  induction k with
  | zero =>
    intro fuel z w c hw h hd hk hf
    obtain ⟨fuel, rfl⟩ : ∃ f, fuel = f + 1 := ⟨fuel - 1, by omega⟩
    rw [f_X4_fits_l2, if_pos (show (20 : Int32) < nI (21 - 0) from (nI_lt_iff (a := 20) (by omega) (by omega)).mpr (by omega))]
    exact ⟨z, w, rfl, fun _ _ => rfl, fun _ _ => rfl, fun j hj => absurd hj (by omega)⟩
  | succ k ih =>
    intro fuel z w c hw h hd hk hf
    obtain ⟨fuel, rfl⟩ : ∃ f, fuel = f + 1 := ⟨fuel - 1, by omega⟩
    obtain ⟨w1, q1, q2⟩ := gard_day hw h (by omega)
    rw [f_X4_fits_l2, if_neg (show ¬ (20 : Int32) < nI (21 - (k + 1)) from fun q => absurd ((nI_lt_iff (a := 20) (by omega) (by omega)).mp q) (by omega)), ck_nI (by omega) (by omega), nI_cl (by omega), q1, Option.bind_some, nI_1, show 21 - (k + 1) + 1 = 21 - k from by omega, hw.1]
    obtain ⟨z', w', r1, r2, r3, r4⟩ := ih fuel (ob z 4 (21 - (k + 1)) (nI (c 0))) w1 (mdP c) q2 (mdP_wf h) (by rw [mdP_52]; omega) (by omega) (by omega)
    refine ⟨z', w', r1, fun q hq => ?_, fun j hj => ?_, fun j hj => ?_⟩
    · rw [r2 q hq]; funext i; rw [ob_at, if_neg hq]
    · rw [r3 j (by omega), ob_at, if_pos rfl, if_neg (by omega)]
    · by_cases e : j = 0
      · subst e
        rw [Nat.add_zero, r3 _ (by omega), ob_at, if_pos rfl, if_pos rfl]
        rfl
      · obtain ⟨j, rfl⟩ : ∃ i, j = i + 1 := ⟨j - 1, by omega⟩
        rw [show 21 - (k + 1) + (j + 1) = 21 - k + j from by omega, r4 j (by omega)]
        rfl
theorem fits_ok {z w : Ob} {s : Nat} {n e v : Nat → Nat} {c : Nat → Nat} (hs : SZ z s n e v) (hw : RZ w c) (hc : WF c) (hd : c 52 ≤ 2000) : ∃ z' w', f_X4_fits z w = some (b2i (ftP s n e v c s), z', w') ∧ (∀ q, q ≠ 4 → z' q = z q) ∧ ∀ j, j < 21 → z' 4 j = nI (vwP c j) := by
  obtain ⟨z', w', r1, r2, r3, r4⟩ := fits_l2 21 FUEL z w c hw hc (by omega) (by omega) (by unfold FUEL; omega)
  have hv : ∀ j, j < 21 → z' 4 j = nI (vwP c j) := fun j hj => by
    have := r4 j hj
    rwa [Nat.sub_self, Nat.zero_add] at this
  have := fits_l30 (w := w') (hs.keep (fun c hc => r2 c (by omega))) hc hv s FUEL (Nat.le_refl _) (by have := hs.2.1; unfold FUEL; omega)
  rw [Nat.sub_self] at this
  refine ⟨z', w', ?_, r2, hv⟩
  unfold f_X4_fits
  exact r1.trans this
/-! the model's way: day by day -/
def chP (s : Nat) (n e v : Nat → Nat) (d H : Nat) : Nat → Bool
  | 0 => true
  | j + 1 => (decide (n (s - (j + 1)) ≠ d) || decide (hbt H (e (s - (j + 1))) = v (s - (j + 1)))) && chP s n e v d H j
def alP (s : Nat) (n e v : Nat → Nat) : Nat → (Nat → Nat) → Bool
  | 0, _ => true
  | k + 1, c => chP s n e v (21 - (k + 1)) (c 0) s && alP s n e v k (mdP c)
theorem chP_iff {s : Nat} {n e v : Nat → Nat} {d H : Nat} : ∀ j, j ≤ s → (chP s n e v d H j = true ↔ ∀ i, s - j ≤ i → i < s → (n i = d → hbt H (e i) = v i))
  | 0, _ => ⟨fun _ i h1 h2 => absurd h2 (by omega), fun _ => rfl⟩
  | j + 1, hj => by
    unfold chP
    rw [Bool.and_eq_true, chP_iff j (by omega), Bool.or_eq_true, decide_eq_true_iff, decide_eq_true_iff]
    refine ⟨fun ⟨h1, h2⟩ i i1 i2 q => ?_, fun h => ⟨?_, fun i i1 i2 => h i (by omega) i2⟩⟩
    · by_cases x : i = s - (j + 1)
      · subst x
        rcases h1 with h1 | h1
        · exact absurd q h1
        · exact h1
      · exact h2 i (by omega) i2 q
    · by_cases x : n (s - (j + 1)) = d
      · exact Or.inr (h _ (Nat.le_refl _) (by omega) x)
      · exact Or.inl x
theorem alP_iff {s : Nat} {n e v : Nat → Nat} : ∀ (k : Nat) (c : Nat → Nat), k ≤ 21 → (alP s n e v k c = true ↔ ∀ i, i < s → ∀ d, d < k → n i = 21 - k + d → hbt (vwP c d) (e i) = v i)
  | 0, _, _ => ⟨fun _ i h1 d h2 => absurd h2 (by omega), fun _ => rfl⟩
  | k + 1, c, hk => by
    unfold alP
    rw [Bool.and_eq_true, chP_iff s (Nat.le_refl _), alP_iff k (mdP c) (by omega)]
    refine ⟨fun ⟨h1, h2⟩ i i1 d d1 q => ?_, fun h => ⟨fun i _ i2 q => h i i2 0 (by omega) (by omega), fun i i1 d d1 q => h i i1 (d + 1) (by omega) (by omega)⟩⟩
    cases d with
    | zero => exact h1 i (by omega) i1 (by omega)
    | succ d => exact h2 i i1 d (by omega) (by omega)
theorem ftP_iff {s : Nat} {n e v : Nat → Nat} {c : Nat → Nat} : ∀ j, j ≤ s → (ftP s n e v c j = true ↔ ∀ i, s - j ≤ i → i < s → hbt (vwP c (n i)) (e i) = v i)
  | 0, _ => ⟨fun _ i h1 h2 => absurd h2 (by omega), fun _ => rfl⟩
  | j + 1, hj => by
    unfold ftP
    rw [Bool.and_eq_true, ftP_iff j (by omega), decide_eq_true_iff]
    refine ⟨fun ⟨h1, h2⟩ i i1 i2 => ?_, fun h => ⟨h _ (Nat.le_refl _) (by omega), fun i i1 i2 => h i (by omega) i2⟩⟩
    by_cases x : i = s - (j + 1)
    · subst x; exact h1
    · exact h2 i (by omega) i2
theorem al_ft {s : Nat} {n e v : Nat → Nat} {c : Nat → Nat} (hn : ∀ i, i < s → n i ≤ 20) : alP s n e v 21 c = ftP s n e v c s := by
  apply Bool.eq_iff_iff.mpr
  rw [alP_iff 21 c (Nat.le_refl _), ftP_iff s (Nat.le_refl _)]
  refine ⟨fun h i _ i2 => h i i2 (n i) (by have := hn i i2; omega) (by omega), fun h i i1 d d1 q => ?_⟩
  have := h i (by omega) i1
  rw [q, show 21 - 21 + d = d from by omega] at this
  exact this
theorem seen_l39 {M : Ob} {s : Nat} {n e v : Nat → Nat} {b : Nat → Nat} (hs : SM M s n e v) (hm : RM M 212 b) {row : Int32} {d : Nat} (hd : d < 1000) {k12 : Ob → Int32 → Int32 → Int32 → Option (Int32 × Ob)} : ∀ (j fuel : Nat) (f0 : Bool), j ≤ s → j < fuel → f_X7_isAsSeen_l39 k12 fuel M row (b2i f0) (nI d) (nI (s - j)) = ((f_X7_dayOn M 212 0).bind fun q3 => k12 q3 row (b2i (f0 && chP s n e v d (b 0) j)) (nI d + 1)) := by
  obtain ⟨s1, s2, s3⟩ := hs
  intro j
  induction j with
  | zero =>
    intro fuel f0 hk hf
    obtain ⟨fuel, rfl⟩ : ∃ f, fuel = f + 1 := ⟨fuel - 1, by omega⟩
    rw [f_X7_isAsSeen_l39, s1, if_pos (show nI s ≤ nI (s - 0) from (nI_le_iff (by omega) (by omega)).mpr (by omega))]
    unfold chP
    rw [Bool.and_true]
  | succ j ih =>
    intro fuel f0 hk hf
    obtain ⟨fuel, rfl⟩ : ∃ f, fuel = f + 1 := ⟨fuel - 1, by omega⟩
    obtain ⟨e1, e2, e3, l1, l2, l3⟩ := s3 (s - (j + 1)) (by omega)
    have hb := hbt_lt (b 0) (e (s - (j + 1)))
    have i0 := ih fuel false (by omega) (by omega)
    have i1 := ih fuel true (by omega) (by omega)
    rw [show b2i false = (0 : Int32) from rfl] at i0
    rw [show b2i true = (1 : Int32) from rfl] at i1
    rw [f_X7_isAsSeen_l39, s1, if_neg (show ¬ nI s ≤ nI (s - (j + 1)) by rw [nI_le_iff (by omega) (by omega)]; omega)]
    unfold f_X7_isAsSeen_b99 f_X7_isAsSeen_b103 f_X7_isAsSeen_b104 chP
    rw [show nI (s - (j + 1)) + (1 : Int32) = nI (s - j) from by rw [nI_1, show s - (j + 1) + 1 = s - j from by omega], i0, i1]
    cases f0 with
    | false =>
      rw [if_pos (show b2i false = 0 by decide), Bool.false_and, Bool.false_and]
    | true =>
      rw [if_neg (show ¬ b2i true = 0 by decide), show (3 : Int32) = nI 3 from rfl, nI_mul, nI_1, show (2 : Int32) = nI 2 from rfl, nI_add, ck_nI (by omega) (by omega), ck_nI (by omega) (by omega), ck_nI (by omega) (by omega), nI_cl (by omega), nI_cl (by omega), nI_cl (by omega), e1, e2, e3, show (212 : Int32) = nI 212 from rfl, nI_add, ck_nI (by omega) (by omega), nI_cl (by omega), hm.1 _ l2, Bool.true_and, Bool.true_and, Bool.false_and]
      by_cases q : n (s - (j + 1)) = d
      · rw [if_pos (by rw [q])]
        by_cases q2 : hbt (b 0) (e (s - (j + 1))) = v (s - (j + 1))
        · rw [if_pos (by rw [q2])]
          simp [q2]
        · rw [if_neg (by rw [nI_eq_iff (by omega) (by omega)]; exact q2)]
          simp [q, q2]
      · rw [if_neg (by rw [nI_eq_iff (by omega) (by omega)]; exact q)]
        simp [q]
theorem seen_l12 {s : Nat} {n e v : Nat → Nat} {row : Nat} (hrow : row < 24) : ∀ (k fuel : Nat) (M : Ob) (b c : Nat → Nat) (f0 : Bool), Ag b c → RM M 212 b → WF b → SM M s n e v → b 52 + k ≤ 2000 → AW (M 0 16) 9 → k ≤ 21 → k < fuel → ∃ M1, f_X7_isAsSeen_l12 fuel M (nI row) (b2i f0) (nI (21 - k)) = some (b2i (f0 && alP s n e v k c), M1) ∧ QM M M1 ∧ (∀ j, (j < 21 * row + (21 - k) ∨ 21 * row + 21 ≤ j) → M1 8 j = M 8 j) ∧ ∀ j, j < k → M1 8 (21 * row + (21 - k) + j) = nI (vwP c j) := by
  intro k
  induction k with
  | zero =>
    intro fuel M b c f0 hA hm h hs hd haw hk hf
    obtain ⟨fuel, rfl⟩ : ∃ f, fuel = f + 1 := ⟨fuel - 1, by omega⟩
    rw [f_X7_isAsSeen_l12, if_pos (show (20 : Int32) < nI (21 - 0) from (nI_lt_iff (a := 20) (by omega) (by omega)).mpr (by omega))]
    refine ⟨M, ?_, QM.rf M, fun _ _ => rfl, fun j hj => absurd hj (by omega)⟩
    unfold alP
    rw [Bool.and_true]
    cases f0 <;> rfl
  | succ k ih =>
    intro fuel M b c f0 hA hm h hs hd haw hk hf
    obtain ⟨fuel, rfl⟩ : ∃ f, fuel = f + 1 := ⟨fuel - 1, by omega⟩
    have hs2 := hs.2.1
    have st : f_X7_standOn M 212 = some (nI (b 0)) := standOn_ok (p := 212) hm.1 (by omega) h.1
    rw [f_X7_isAsSeen_l12, if_neg (show ¬ (20 : Int32) < nI (21 - (k + 1)) from fun q => absurd ((nI_lt_iff (a := 20) (by omega) (by omega)).mp q) (by omega)), st, Option.bind_some, show (21 : Int32) = nI 21 from rfl, nI_mul, nI_add, ck_nI (by omega) (by omega), nI_cl (by omega)]
    have qa := QM.ob8 M (21 * row + (21 - (k + 1))) (nI (b 0))
    have hm2 : RM (ob M 8 (21 * row + (21 - (k + 1))) (nI (b 0))) 212 b := hm.copy (fun i _ => by rw [ob_at, if_neg (by decide)])
    have hs3 : SM (ob M 8 (21 * row + (21 - (k + 1))) (nI (b 0))) s n e v := hs.keep (qa.1 18 (by omega)) (qa.2.1 7 (by omega) (by omega) (by omega))
    have l39 := seen_l39 hs3 hm2 (row := nI row) (d := 21 - (k + 1)) (by omega) (k12 := f_X7_isAsSeen_l12 fuel) s FUEL f0 (Nat.le_refl _) (by unfold FUEL; omega)
    rw [Nat.sub_self] at l39
    have l39' : f_X7_isAsSeen_l39 (f_X7_isAsSeen_l12 fuel) FUEL (ob M 8 (21 * row + (21 - (k + 1))) (nI (b 0))) (nI row) (b2i f0) (nI (21 - (k + 1))) 0 = _ := l39
    have haw2 : AW ((ob M 8 (21 * row + (21 - (k + 1))) (nI (b 0))) 0 16) 9 := by rw [qa.1 16 (by omega)]; exact haw
    obtain ⟨M1, q1, q2, q3⟩ := dayOn_ok (p := 212) (by omega) hm2 h (by omega) haw2 false
    have q1' : f_X7_dayOn (ob M 8 (21 * row + (21 - (k + 1))) (nI (b 0))) 212 0 = some M1 := q1
    have qb := q3.q (by omega)
    rw [l39', q1', Option.bind_some, nI_1, show 21 - (k + 1) + 1 = 21 - k from by omega]
    have q8 : M1 8 = (ob M 8 (21 * row + (21 - (k + 1))) (nI (b 0))) 8 := q3.1 8 (by omega) (by omega)
    obtain ⟨M2, r1, r2, r3, r4⟩ := ih fuel M1 (dayP 9 false b) (mdP c) (f0 && chP s n e v (21 - (k + 1)) (b 0) s) (hA.day h) q2 (dayP_wf h 9 false) (hs3.keep (qb.1 18 (by omega)) (qb.2.1 7 (by omega) (by omega) (by omega))) (by rw [dayP_52]; omega) (by rw [qb.1 16 (by omega)]; exact haw2) (by omega) (by omega)
    refine ⟨M2, ?_, (qa.tr qb).tr r2, fun j hj => ?_, fun j hj => ?_⟩
    · rw [r1, hA 0 (by omega), Bool.and_assoc]
      rfl
    · rw [r3 j (by omega), q8, ob_at, if_pos rfl, if_neg (by omega)]
    · cases j with
      | zero =>
        rw [Nat.add_zero, r3 _ (by omega), q8, ob_at, if_pos rfl, if_pos rfl, hA 0 (by omega)]
        rfl
      | succ j =>
        rw [show 21 * row + (21 - (k + 1)) + (j + 1) = 21 * row + (21 - k) + j from by omega, r4 j (by omega)]
        rfl
theorem isAsSeen_ok {M : Ob} {a : Nat → Nat} {s : Nat} {n e v : Nat → Nat} (hm : RM M 0 a) (h : WF a) (hd : a 52 ≤ 999) (hs : SM M s n e v) (haw : AW (M 0 16) 9) {row : Nat} (hrow : row < 24) : ∃ M1, f_X7_isAsSeen M (nI row) = some (b2i (ftP s n e v a s), M1) ∧ QM M M1 ∧ (∀ j, (j < 21 * row ∨ 21 * row + 21 ≤ j) → M1 8 j = M 8 j) ∧ ∀ j, j < 21 → M1 8 (21 * row + j) = nI (vwP a j) := by
  obtain ⟨M0, r0, r1, r2⟩ := copies_ok (p := 0) (q := 212) (by omega) (by omega) (by omega) M
  have r0' : f_X7_copies M 0 212 = some M0 := r0
  have qc := r1.q (by omega)
  obtain ⟨M1, u1, u2, u3, u4⟩ := seen_l12 hrow (s := s) (n := n) (e := e) (v := v) 21 FUEL M0 a a true (fun _ _ => rfl) (hm.copy r2) h (hs.keep (qc.1 18 (by omega)) (qc.2.1 7 (by omega) (by omega) (by omega))) (by omega) (by rw [qc.1 16 (by omega)]; exact haw) (Nat.le_refl _) (by unfold FUEL; omega)
  unfold f_X7_isAsSeen
  rw [r0', Option.bind_some]
  refine ⟨M1, ?_, qc.tr u2, fun j hj => ?_, fun j hj => ?_⟩
  · rw [Bool.true_and, al_ft (fun i hi => (hs.2.2 i hi).2.2.2.1)] at u1
    exact u1
  · rw [u3 j (by omega), r1.1 8 (by omega)]
  · have := u4 j hj
    rwa [Nat.sub_self, Nat.add_zero] at this
/-! numbers that a place may hold -/
def nbP (f : Nat → Bool) (m : Nat) : Nat → Nat → Nat
  | 0, x => x
  | k + 1, x => nbP f m k (x ||| (if f (m - (k + 1)) then 1 <<< (m - (k + 1)) else 0))
def QN (at_ : Nat) (M M1 : Ob) : Prop := (∀ k, (k = 5 ∨ k = 6 ∨ k = 16 ∨ k = 18 ∨ k = 24) → M1 0 k = M 0 k) ∧ (∀ c, 3 ≤ c → c ≠ 6 → c ≠ 8 → M1 c = M c) ∧ ∀ k, k < 159 → k ≠ at_ → M1 1 k = M 1 k
theorem QM.n {M M1 : Ob} (h : QM M M1) (at_ : Nat) : QN at_ M M1 := ⟨h.1, h.2.1, fun k hk _ => h.2.2 k hk⟩
theorem QN.tr {at_ : Nat} {A B C : Ob} (h : QN at_ A B) (h2 : QN at_ B C) : QN at_ A C := ⟨fun k q => (h2.1 k q).trans (h.1 k q), fun c q1 q2 q3 => (h2.2.1 c q1 q2 q3).trans (h.2.1 c q1 q2 q3), fun k q q2 => (h2.2.2 k q q2).trans (h.2.2 k q q2)⟩
theorem QN_ob (M : Ob) (at_ : Nat) (v : Int32) : QN at_ M (ob M 1 at_ v) := ⟨fun k _ => by rw [ob_at, if_neg (by decide)], fun c q1 q2 _ => by funext j; rw [ob_at, if_neg (by omega)], fun j hj hn => by rw [ob_at, if_pos rfl, if_neg hn]⟩
theorem numbers_l {a : Nat → Nat} {s : Nat} {n e v : Nat → Nat} {at_ m : Nat} (h : WF a) (hd : a 52 ≤ 999) (ha : 25 ≤ at_ ∧ at_ < 33) (hm24 : m ≤ 24) (hb : ∀ x, x < m → bnd at_ x) : ∀ (k fuel : Nat) (M : Ob) (x : Nat), (∃ u, RM M 0 (va_up a at_ u)) → SM M s n e v → AW (M 0 16) 9 → k ≤ m → k < fuel → ∃ M1, f_X7_numbersAt_l13 fuel M (nI at_) (nI m - 1) (nI (a at_)) (nI x) (nI (m - k)) = some (nI (nbP (fun i => ftP s n e v (va_up a at_ i) s) m k x), M1) ∧ QN at_ M M1 ∧ M1 1 at_ = nI (a at_) ∧ (∀ j, j < 21 * (m - k) → M1 8 j = M 8 j) ∧ ∀ i, i < k → ∀ j, j < 21 → M1 8 (21 * (m - k + i) + j) = nI (vwP (va_up a at_ (m - k + i)) j) := by
  intro k
  induction k with
  | zero =>
    intro fuel M x hm hs haw hk hf
    obtain ⟨fuel, rfl⟩ : ∃ f, fuel = f + 1 := ⟨fuel - 1, by omega⟩
    have lt : nI m - 1 < nI (m - 0) := by
      rw [fa_lt, nI_toInt (by omega), fb_subI, nI_toInt (by omega), show (1 : Int32).toInt = 1 from by decide]
      · omega
      · rw [nI_toInt (by omega), show (1 : Int32).toInt = 1 from by decide]; omega
      · rw [nI_toInt (by omega), show (1 : Int32).toInt = 1 from by decide]; omega
    rw [f_X7_numbersAt_l13, if_pos lt, ck_nI (by omega) (by omega), nI_cl (by omega)]
    exact ⟨_, rfl, QN_ob M at_ _, by rw [ob_at, if_pos rfl, if_pos rfl], fun j _ => by rw [ob_at, if_neg (by decide)], fun i hi => absurd hi (by omega)⟩
  | succ k ih =>
    intro fuel M x hm hs haw hk hf
    obtain ⟨fuel, rfl⟩ : ∃ f, fuel = f + 1 := ⟨fuel - 1, by omega⟩
    obtain ⟨u, hm⟩ := hm
    have nlt : ¬ nI m - 1 < nI (m - (k + 1)) := by
      rw [fa_lt, nI_toInt (by omega), fb_subI, nI_toInt (by omega), show (1 : Int32).toInt = 1 from by decide]
      · omega
      · rw [nI_toInt (by omega), show (1 : Int32).toInt = 1 from by decide]; omega
      · rw [nI_toInt (by omega), show (1 : Int32).toInt = 1 from by decide]; omega
    have hm2 := hm.up0 (k := at_) (m - (k + 1)) (by omega) (by omega)
    rw [va_two] at hm2
    have q0 := QN_ob M at_ (nI (m - (k + 1)))
    have hs2 : SM (ob M 1 at_ (nI (m - (k + 1)))) s n e v := hs.keep (q0.1 18 (by omega)) (q0.2.1 7 (by omega) (by omega) (by omega))
    obtain ⟨M1, r1, r2, r3, r4⟩ := isAsSeen_ok hm2 (h.up (hb _ (by omega))) (up52 hd (by omega)) hs2 (by rw [q0.1 16 (by omega)]; exact haw) (row := m - (k + 1)) (by omega)
    have qq := q0.tr (r2.n at_)
    obtain ⟨M2, u1, u2, u3, u4, u5⟩ := ih fuel M1 (x ||| (if ftP s n e v (va_up a at_ (m - (k + 1))) s then 1 <<< (m - (k + 1)) else 0)) ⟨_, hm2.copy (fun i hi => r2.2.2 _ (by omega))⟩ (hs.keep (qq.1 18 (by omega)) (qq.2.1 7 (by omega) (by omega) (by omega))) (by rw [qq.1 16 (by omega)]; exact haw) (by omega) (by omega)
    rw [f_X7_numbersAt_l13, if_neg nlt, ck_nI (by omega) (by omega), nI_cl (by omega), r1, Option.bind_some]
    unfold f_X7_numbersAt_b46
    dsimp only
    have e1 : (if b2i (ftP s n e v (va_up a at_ (m - (k + 1))) s) = 0 then f_X7_numbersAt_l13 fuel M1 (nI at_) (nI m - 1) (nI (a at_)) (nI x ||| 0) (nI (m - (k + 1)) + 1) else f_X7_numbersAt_l13 fuel M1 (nI at_) (nI m - 1) (nI (a at_)) (nI x ||| (1 : Int32) <<< (nI (m - (k + 1)) &&& 31)) (nI (m - (k + 1)) + 1)) = f_X7_numbersAt_l13 fuel M1 (nI at_) (nI m - 1) (nI (a at_)) (nI (x ||| (if ftP s n e v (va_up a at_ (m - (k + 1))) s then 1 <<< (m - (k + 1)) else 0))) (nI (m - k)) := by
      rw [nI_1, show m - (k + 1) + 1 = m - k from by omega, show (31 : Int32) = nI 31 from rfl, show (1 : Int32) = nI 1 from rfl, nI_shl 1 (by omega), fa_or, show nI x ||| (0 : Int32) = nI (x ||| 0) from fa_or x 0]
      cases ftP s n e v (va_up a at_ (m - (k + 1))) s with
      | false => rfl
      | true => rfl
    rw [e1, u1]
    refine ⟨M2, rfl, qq.tr u2, u3, fun j hj => ?_, fun i hi j hj => ?_⟩
    · rw [u4 j (by omega), r3 j (by omega), ob_at, if_neg (by decide)]
    · cases i with
      | zero => rw [Nat.add_zero, u4 _ (by omega), r4 j hj]
      | succ i => rw [show m - (k + 1) + (i + 1) = m - k + i from by omega, u5 i (by omega) j hj]
theorem numbers_ok {M : Ob} {a : Nat → Nat} {s : Nat} {n e v : Nat → Nat} {at_ m : Nat} (hm : RM M 0 a) (h : WF a) (hd : a 52 ≤ 999) (hs : SM M s n e v) (haw : AW (M 0 16) 9) (ha : 25 ≤ at_ ∧ at_ < 33) (hm24 : m ≤ 24) (hb : ∀ x, x < m → bnd at_ x) : ∃ M1, f_X7_numbersAt M (nI at_) (nI m - 1) = some (nI (nbP (fun i => ftP s n e v (va_up a at_ i) s) m m 0), M1) ∧ QM M M1 ∧ ∀ i, i < m → ∀ j, j < 21 → M1 8 (21 * i + j) = nI (vwP (va_up a at_ i) j) := by
  have em : M 1 at_ = nI (a at_) := by
    have := hm.2 at_ (by omega) (by omega)
    rwa [Nat.zero_add] at this
  have e0 : va_up a at_ (a at_) = a := by funext j; rw [vn_at]; split <;> simp_all
  obtain ⟨M1, u1, u2, u3, u4, u5⟩ := numbers_l h hd ha hm24 hb m FUEL M 0 ⟨a at_, by rw [e0]; exact hm⟩ hs haw (Nat.le_refl _) (by unfold FUEL; omega)
  rw [Nat.sub_self] at u1
  unfold f_X7_numbersAt
  rw [ck_nI (by omega) (by omega), nI_cl (by omega), em]
  refine ⟨M1, u1, ⟨u2.1, u2.2.1, fun k hk => ?_⟩, fun i hi j hj => ?_⟩
  · by_cases x : k = at_
    · subst x; rw [u3, em]
    · exact u2.2.2 k hk x
  · have := u5 i hi j hj
    rwa [Nat.sub_self, Nat.zero_add] at this
theorem Sn.zm {X : Wd} {M : Ob} (h : Sn X M) : ∃ s n e v, SZ (X 2) s n e v ∧ SM M s n e v := by
  obtain ⟨s, n, e, v, h1, h2, h3, h4⟩ := h
  refine ⟨s, n, e, v, ⟨h2, h1, fun i hi => ?_⟩, h3, h1, fun i hi => ?_⟩
  · obtain ⟨r1, r2, r3, r4, r5, r6, r7⟩ := h4 i hi
    exact ⟨r1, r2, r3, r7⟩
  · obtain ⟨r1, r2, r3, r4, r5, r6, r7⟩ := h4 i hi
    exact ⟨r4, r5, r6, r7⟩
/-- the class' look at one number -/
theorem look6 {X : Wd} {a : Nat → Nat} {s : Nat} {n e v : Nat → Nat} (w1 : WF a) (w2 : a 52 ≤ 999) (w3 : RZ (X 4) a) (hs : SZ (X 2) s n e v) {c g i : Nat} (hg : g < a 37) (hc : c = 1 ∨ c = 2) (hb : bnd (21 + 4 * c + g) i) : ∃ z0 z2 z5, f_X1_become (X 5) (X 4) = some z0 ∧ f_X4_fits (X 2) (ob z0 c g (nI i)) = some (b2i (ftP s n e v (va_up a (21 + 4 * c + g) i) s), z2, z5) ∧ QX X (va_up (va_up (wo (va_up X 5 z0) 5 c g (nI i)) 2 z2) 5 z5) ∧ (∀ q, q ≠ 4 → z2 q = X 2 q) ∧ ∀ j, j < 21 → z2 4 j = nI (vwP (va_up a (21 + 4 * c + g) i) j) := by
  have h37 := w1.2.2.1
  have h51 := w1.2.2.2.2.1
  obtain ⟨z0, b1, b2⟩ := become_ok (X 5) w3 w1
  obtain ⟨z2, z5, f1, f2, f3⟩ := fits_ok hs (b2.cellv h37 h51 (c := c) (g := g) (k := 21 + 4 * c + g) i (by omega) (by omega)) (w1.up hb) (by rw [va_up_ne _ _ (by omega)]; omega)
  refine ⟨z0, z2, z5, b1, f1, ?_, f2, f3⟩
  refine (((QX.up z0 (by omega)).tr (QX.up _ (by omega))).tr (QX.up2 (fun q hq => ?_))).tr (QX.up z5 (by omega))
  rw [f2 q (by omega)]
  show X 2 q = va_up (va_up X 5 z0) 5 (ob (va_up X 5 z0 5) c g (nI i)) 2 q
  rw [va_up_ne _ _ (by omega), va_up_ne _ _ (by omega)]
theorem kinds6_l {a : Nat → Nat} {s : Nat} {n e v : Nat → Nat} (w1 : WF a) (w2 : a 52 ≤ 999) {g : Nat} (hg : g < a 37) : ∀ (k fuel : Nat) (X : Wd) (x : Nat), RZ (X 4) a → SZ (X 2) s n e v → k ≤ 4 → k < fuel → ∃ X1, f_X6_kinds_l14 fuel X (nI g) (nI x) (nI (4 - k)) = some (nI (nbP (fun i => ftP s n e v (va_up a (25 + g) i) s) 4 k x), X1) ∧ QX X X1 := by
  have h37 := w1.2.2.1
  intro k
  induction k with
  | zero =>
    intro fuel X x w3 hs hk hf
    obtain ⟨fuel, rfl⟩ : ∃ f, fuel = f + 1 := ⟨fuel - 1, by omega⟩
    rw [f_X6_kinds_l14, if_pos (show (4 : Int32) ≤ nI (4 - 0) by decide)]
    exact ⟨X, rfl, QX.rf X⟩
  | succ k ih =>
    intro fuel X x w3 hs hk hf
    obtain ⟨fuel, rfl⟩ : ∃ f, fuel = f + 1 := ⟨fuel - 1, by omega⟩
    obtain ⟨z0, z2, z5, b1, f1, qx, f2, f3⟩ := look6 w1 w2 w3 hs (c := 1) (i := 4 - (k + 1)) hg (by omega) (by unfold bnd; omega)
    have f1' : f_X4_fits (X 2) (ob z0 1 g (nI (4 - (k + 1)))) = some (b2i (ftP s n e v (va_up a (25 + g) (4 - (k + 1))) s), z2, z5) := f1
    rw [f_X6_kinds_l14, if_neg (show ¬ (4 : Int32) ≤ nI (4 - (k + 1)) from fun q => absurd ((nI_le_iff (a := 4) (by omega) (by omega)).mp q) (by omega)), b1, Option.bind_some, ck_nI (by omega) (by omega), nI_cl (by omega), f1', Option.bind_some]
    unfold f_X6_kinds_b60
    dsimp only
    generalize hX2 : va_up (va_up (wo (va_up X 5 z0) 5 1 g (nI (4 - (k + 1)))) 2 z2) 5 z5 = X2 at qx
    obtain ⟨X3, u1, u2⟩ := ih fuel X2 (x ||| (if ftP s n e v (va_up a (25 + g) (4 - (k + 1))) s then 1 <<< (4 - (k + 1)) else 0)) (by rw [qx.1 4 (by omega)]; exact w3) (hs.keep qx.2) (by omega) (by omega)
    refine ⟨X3, ?_, qx.tr u2⟩
    rw [show (31 : Int32) = nI 31 from rfl, show nI (4 - (k + 1)) + (1 : Int32) = nI (4 - k) from by rw [nI_1, show 4 - (k + 1) + 1 = 4 - k from by omega], show (1 : Int32) = nI 1 from rfl, nI_shl 1 (by omega), fa_or]
    have u1' : f_X6_kinds_l14 fuel X2 (nI g) (nI (x ||| (if ftP s n e v (va_up a (25 + g) (4 - (k + 1))) s then 1 <<< (4 - (k + 1)) else 0))) (nI (4 - k)) = some (nI (nbP (fun i => ftP s n e v (va_up a (25 + g) i) s) 4 (k + 1) x), X3) := u1
    rw [← u1']
    cases ftP s n e v (va_up a (25 + g) (4 - (k + 1))) s with
    | false => rw [if_pos (show b2i false = 0 by decide), if_neg (by decide), Nat.or_zero]
    | true => rw [if_neg (show ¬ b2i true = 0 by decide), if_pos rfl]
theorem tastes6_l {a : Nat → Nat} {s : Nat} {n e v : Nat → Nat} (w1 : WF a) (w2 : a 52 ≤ 999) {g : Nat} (hg : g < a 37) : ∀ (k fuel : Nat) (X : Wd) (x : Nat), RZ (X 4) a → SZ (X 2) s n e v → k ≤ 24 → k < fuel → ∃ X1, f_X6_tastes_l14 fuel X (nI g) (nI x) (nI (24 - k)) = some (nI (nbP (fun i => ftP s n e v (va_up a (29 + g) i) s) 24 k x), X1) ∧ QX X X1 := by
  have h37 := w1.2.2.1
  intro k
  induction k with
  | zero =>
    intro fuel X x w3 hs hk hf
    obtain ⟨fuel, rfl⟩ : ∃ f, fuel = f + 1 := ⟨fuel - 1, by omega⟩
    rw [f_X6_tastes_l14, if_pos (show (24 : Int32) ≤ nI (24 - 0) by decide)]
    exact ⟨X, rfl, QX.rf X⟩
  | succ k ih =>
    intro fuel X x w3 hs hk hf
    obtain ⟨fuel, rfl⟩ : ∃ f, fuel = f + 1 := ⟨fuel - 1, by omega⟩
    obtain ⟨z0, z2, z5, b1, f1, qx, f2, f3⟩ := look6 w1 w2 w3 hs (c := 2) (i := 24 - (k + 1)) hg (by omega) (by unfold bnd; omega)
    have f1' : f_X4_fits (X 2) (ob z0 2 g (nI (24 - (k + 1)))) = some (b2i (ftP s n e v (va_up a (29 + g) (24 - (k + 1))) s), z2, z5) := f1
    have hck : ∀ (f : Bool) (K : Option (Int32 × Wd)), ckb (b2i f) K = K := fun f K => by cases f <;> rfl
    rw [f_X6_tastes_l14, if_neg (show ¬ (24 : Int32) ≤ nI (24 - (k + 1)) from fun q => absurd ((nI_le_iff (a := 24) (by omega) (by omega)).mp q) (by omega))]
    unfold f_X6_isTasteAsSeen
    rw [b1, Option.bind_some, ck_nI (by omega) (by omega), nI_cl (by omega), f1', Option.bind_some]
    unfold f_X6_tastes_b35
    dsimp only
    rw [hck, Option.bind_some]
    dsimp only
    generalize hX2 : va_up (va_up (wo (va_up X 5 z0) 5 2 g (nI (24 - (k + 1)))) 2 z2) 5 z5 = X2 at qx
    obtain ⟨X3, u1, u2⟩ := ih fuel X2 (x ||| (if ftP s n e v (va_up a (29 + g) (24 - (k + 1))) s then 1 <<< (24 - (k + 1)) else 0)) (by rw [qx.1 4 (by omega)]; exact w3) (hs.keep qx.2) (by omega) (by omega)
    refine ⟨X3, ?_, qx.tr u2⟩
    rw [show (31 : Int32) = nI 31 from rfl, show nI (24 - (k + 1)) + (1 : Int32) = nI (24 - k) from by rw [nI_1, show 24 - (k + 1) + 1 = 24 - k from by omega], show (1 : Int32) = nI 1 from rfl, nI_shl 1 (by omega), fa_or]
    have u1' : f_X6_tastes_l14 fuel X2 (nI g) (nI (x ||| (if ftP s n e v (va_up a (29 + g) (24 - (k + 1))) s then 1 <<< (24 - (k + 1)) else 0))) (nI (24 - k)) = some (nI (nbP (fun i => ftP s n e v (va_up a (29 + g) i) s) 24 (k + 1) x), X3) := u1
    rw [← u1']
    cases ftP s n e v (va_up a (29 + g) (24 - (k + 1))) s with
    | false => rw [if_pos (show b2i false = 0 by decide), if_neg (by decide), Nat.or_zero]
    | true => rw [if_neg (show ¬ b2i true = 0 by decide), if_pos rfl]
theorem T_kinds {X : Wd} {M : Ob} (h : Cpl X M) (a1 : Int32) : OK X M (f_X6_kinds X a1) (f_X7_kinds M a1) := by
  obtain ⟨⟨a, hp⟩, -, -, -, -, hsn, -, hc⟩ := id h
  have ⟨w1, w2, w3, w4⟩ := hp
  have h37 := w1.2.2.1
  have z4 := w3.2.2.2.2.1
  have e37 := hp.m (k := 37) (by omega) (by omega)
  obtain ⟨s, n, e, v, hz, hm⟩ := hsn.zm
  unfold f_X6_kinds f_X7_kinds
  by_cases c0 : Rg a1 (a 37)
  · obtain ⟨g, hg, rfl⟩ := c0
    rw [isGardener_y z4 hg h37, bd1, mGardener_y e37 hg h37, bd1]
    obtain ⟨X1, u1, u2⟩ := kinds6_l w1 w2 hg 4 FUEL X 0 w3 hz (by omega) (by unfold FUEL; omega)
    obtain ⟨M1, v1, v2, v3⟩ := numbers_ok (m := 4) (at_ := 25 + g) w4 w1 w2 hm (Or.inl ⟨rfl, hc.1⟩) (by omega) (by omega) (fun x hx => by unfold bnd; omega)
    have v1' : f_X7_numbersAt M ((25 : Int32) + nI g) 3 = some (nI (nbP (fun i => ftP s n e v (va_up a (25 + g) i) s) 4 4 0), M1) := by
      rw [show (25 : Int32) = nI 25 from rfl, nI_add]; exact v1
    rw [v1', Option.bind_some]
    exact OK.q h u1 rfl u2 v2
  · rw [isGardener_n z4 c0 h37, bd0, mGardener_n e37 c0 h37, bd0]
    exact OK.same h _ rfl rfl
theorem T_tastes {X : Wd} {M : Ob} (h : Cpl X M) (a1 : Int32) : OK X M (f_X6_tastes X a1) (f_X7_tastes M a1) := by
  obtain ⟨⟨a, hp⟩, -, -, -, -, hsn, -, hc⟩ := id h
  have ⟨w1, w2, w3, w4⟩ := hp
  have h37 := w1.2.2.1
  have z4 := w3.2.2.2.2.1
  have e37 := hp.m (k := 37) (by omega) (by omega)
  obtain ⟨s, n, e, v, hz, hm⟩ := hsn.zm
  unfold f_X6_tastes f_X7_tastes
  by_cases c0 : Rg a1 (a 37)
  · obtain ⟨g, hg, rfl⟩ := c0
    rw [isGardener_y z4 hg h37, bd1, mGardener_y e37 hg h37, bd1]
    obtain ⟨X1, u1, u2⟩ := tastes6_l w1 w2 hg 24 FUEL X 0 w3 hz (by omega) (by unfold FUEL; omega)
    obtain ⟨M1, v1, v2, v3⟩ := numbers_ok (m := 24) (at_ := 29 + g) w4 w1 w2 hm (Or.inl ⟨rfl, hc.1⟩) (by omega) (by omega) (fun x hx => by unfold bnd; omega)
    have v1' : f_X7_numbersAt M ((29 : Int32) + nI g) 23 = some (nI (nbP (fun i => ftP s n e v (va_up a (29 + g) i) s) 24 24 0), M1) := by
      rw [show (29 : Int32) = nI 29 from rfl, nI_add]; exact v1
    rw [v1', Option.bind_some]
    exact OK.q h u1 rfl u2 v2
  · rw [isGardener_n z4 c0 h37, bd0, mGardener_n e37 c0 h37, bd0]
    exact OK.same h _ rfl rfl
