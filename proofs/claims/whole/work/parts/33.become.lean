/-! become: one Maze as another -/
theorem bec99 {w : Ob} : ∀ (k fuel : Nat) (z : Ob), k ≤ 4 → k < fuel → (∀ c, 4 ≤ c → c ≤ 6 → ∀ i, i < 4 - k → z c i = w c i) → ∃ z', f_X1_become_l99 fuel z w (nI (4 - k)) = some z' ∧ (∀ c, c < 4 → z' c = z c) ∧ ∀ c, 4 ≤ c → c ≤ 6 → ∀ i, i < 4 → z' c i = w c i := by
  intro k
  induction k with
  | zero =>
    intro fuel z hk hf h
    obtain ⟨fuel, rfl⟩ : ∃ f, fuel = f + 1 := ⟨fuel - 1, by omega⟩
    unfold f_X1_become_l99
    simp (disch := omega) only [fa_lit, nI_le_iff]
    rw [if_pos (by omega)]
    exact ⟨z, rfl, fun _ _ => rfl, h⟩
  | succ k ih =>
    intro fuel z hk hf h
    obtain ⟨fuel, rfl⟩ : ∃ f, fuel = f + 1 := ⟨fuel - 1, by omega⟩
    have e1 : 4 - (k + 1) + 1 = 4 - k := by omega
    unfold f_X1_become_l99
    generalize hj : 4 - (k + 1) = j at *
    simp (disch := omega) only [fa_lit, nI_le_iff, nI_add, ck_nI, nI_cl]
    rw [if_neg (by omega), e1]
    obtain ⟨z', q1, q2, q3⟩ := ih fuel (ob (ob (ob z 4 j (w 4 j)) 5 j (w 5 j)) 6 j (w 6 j)) (by omega) (by omega) (fun c c1 c2 i hi => by
      by_cases e : i = j
      · subst e
        rcases (show c = 4 ∨ c = 5 ∨ c = 6 by omega) with rfl | rfl | rfl <;> simp [ob_at]
      · rcases (show c = 4 ∨ c = 5 ∨ c = 6 by omega) with rfl | rfl | rfl <;> simp [ob_at, e] <;> exact h _ (by omega) (by omega) i (by omega))
    refine ⟨z', q1, fun c hc => ?_, q3⟩
    rw [q2 c hc]
    funext i
    rw [ob_at, if_neg (by omega), ob_at, if_neg (by omega), ob_at, if_neg (by omega)]
theorem bec50 {w : Ob} : ∀ (k fuel : Nat) (z : Ob), k ≤ 4 → k < fuel → (∀ c, 1 ≤ c → c ≤ 3 → ∀ i, i < 4 - k → z c i = w c i) → ∃ z', f_X1_become_l50 fuel z w (nI (4 - k)) = some z' ∧ z' 0 = z 0 ∧ ∀ c, 1 ≤ c → c ≤ 6 → ∀ i, i < 4 → z' c i = w c i := by
  intro k
  induction k with
  | zero =>
    intro fuel z hk hf h
    obtain ⟨fuel, rfl⟩ : ∃ f, fuel = f + 1 := ⟨fuel - 1, by omega⟩
    unfold f_X1_become_l50
    simp (disch := omega) only [fa_lit, nI_le_iff]
    rw [if_pos (by omega)]
    obtain ⟨z', q1, q2, q3⟩ := bec99 (w := w) 4 FUEL z (by omega) (by unfold FUEL; omega) (fun c _ _ i hi => absurd hi (by omega))
    refine ⟨z', q1, q2 0 (by omega), fun c c1 c2 i hi => ?_⟩
    by_cases e : c < 4
    · rw [q2 c e]; exact h c c1 (by omega) i (by omega)
    · exact q3 c (by omega) c2 i hi
  | succ k ih =>
    intro fuel z hk hf h
    obtain ⟨fuel, rfl⟩ : ∃ f, fuel = f + 1 := ⟨fuel - 1, by omega⟩
    have e1 : 4 - (k + 1) + 1 = 4 - k := by omega
    unfold f_X1_become_l50
    generalize hj : 4 - (k + 1) = j at *
    simp (disch := omega) only [fa_lit, nI_le_iff, nI_add, ck_nI, nI_cl]
    rw [if_neg (by omega), e1]
    obtain ⟨z', q1, q2, q3⟩ := ih fuel (ob (ob (ob z 1 j (w 1 j)) 2 j (w 2 j)) 3 j (w 3 j)) (by omega) (by omega) (fun c c1 c2 i hi => by
      by_cases e : i = j
      · subst e
        rcases (show c = 1 ∨ c = 2 ∨ c = 3 by omega) with rfl | rfl | rfl <;> simp [ob_at]
      · rcases (show c = 1 ∨ c = 2 ∨ c = 3 by omega) with rfl | rfl | rfl <;> simp [ob_at, e] <;> exact h _ (by omega) (by omega) i (by omega))
    refine ⟨z', q1, ?_, q3⟩
    rw [q2]
    funext i
    rw [ob_at, if_neg (by omega), ob_at, if_neg (by omega), ob_at, if_neg (by omega)]
theorem become_ok (z : Ob) {w : Ob} {a : Nat → Nat} (hw : RZ w a) (h : WF a) : ∃ z', f_X1_become z w = some z' ∧ RZ z' a := by
  unfold f_X1_become
  obtain ⟨z', q1, q2, q3⟩ := bec50 (w := w) 4 FUEL (ob (ob (ob (ob (ob (ob z 0 0 (w 0 0)) 0 1 (w 0 1)) 0 2 (w 0 2)) 0 3 (w 0 3)) 0 4 (w 0 4)) 0 8 (w 0 8)) (by omega) (by unfold FUEL; omega) (fun c _ _ i hi => absurd hi (by omega))
  refine ⟨z', q1, ?_⟩
  obtain ⟨z0, z1, z2, z3, z4, z8, zg, zi⟩ := hw
  have h37 := h.2.2.1
  have h51 := h.2.2.2.2.1
  refine ⟨?_, ?_, ?_, ?_, ?_, ?_, fun g hg => ?_, fun i hi => ?_⟩
  · rw [q2, ← z0]; simp [ob_at]
  · rw [q2, ← z1]; simp [ob_at]
  · rw [q2, ← z2]; simp [ob_at]
  · rw [q2, ← z3]; simp [ob_at]
  · rw [q2, ← z4]; simp [ob_at]
  · rw [q2, ← z8]; simp [ob_at]
  · rw [q3 1 (by omega) (by omega) g (by omega), q3 2 (by omega) (by omega) g (by omega), q3 3 (by omega) (by omega) g (by omega)]
    exact zg g hg
  · rw [q3 4 (by omega) (by omega) i (by omega), q3 5 (by omega) (by omega) i (by omega), q3 6 (by omega) (by omega) i (by omega)]
    exact zi i hi
