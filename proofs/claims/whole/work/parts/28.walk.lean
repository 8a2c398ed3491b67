/-! the guests' part of a day -/
def gstP (a : Nat → Nat) (i : Nat) : Nat → Nat :=
  if a (47 + i) ≠ 0 then a else if a (43 + i) = 0 then va_up a (47 + i) 2
  else va_up (va_up (va_up a (39 + i) (Tn (a 0) (a 24) (a (39 + i)))) (43 + i) (a (43 + i) - 1)) (47 + i) (if Tn (a 0) (a 24) (a (39 + i)) = a 24 then 1 else 0)
def wkP (n : Nat) : Nat → (Nat → Nat) → Nat → Nat
  | 0, a => a
  | k + 1, a => wkP n k (gstP a (n - (k + 1)))
def walkP (a : Nat → Nat) : Nat → Nat := wkP (a 51) (a 51) a
theorem gstP_ne {a : Nat → Nat} {i k : Nat} (h1 : k ≠ 39 + i) (h2 : k ≠ 43 + i) (h3 : k ≠ 47 + i) : gstP a i k = a k := by
  unfold gstP
  split
  · rfl
  · split
    · rw [va_up_ne _ _ h3]
    · rw [va_up_ne _ _ h3, va_up_ne _ _ h2, va_up_ne _ _ h1]
theorem gstP_wf {a : Nat → Nat} (h : WF a) {i : Nat} (hi : i < 4) : WF (gstP a i) := by
  obtain ⟨h0, h24, h37, h38, h51, hgg, hii⟩ := h
  refine ⟨?_, ?_, ?_, ?_, ?_, fun j hj => ⟨?_, ?_, ?_⟩, fun j hj => ?_⟩
  · rw [gstP_ne (by omega) (by omega) (by omega)]; exact h0
  · rw [gstP_ne (by omega) (by omega) (by omega)]; exact h24
  · rw [gstP_ne (by omega) (by omega) (by omega)]; exact h37
  · rw [gstP_ne (by omega) (by omega) (by omega)]; exact h38
  · rw [gstP_ne (by omega) (by omega) (by omega)]; exact h51
  · rw [gstP_ne (by omega) (by omega) (by omega)]; exact (hgg j hj).1
  · rw [gstP_ne (by omega) (by omega) (by omega)]; exact (hgg j hj).2.1
  · rw [gstP_ne (by omega) (by omega) (by omega)]; exact (hgg j hj).2.2
  · by_cases e : j = i
    · subst e
      obtain ⟨b1, b2, b3⟩ := hii j hj
      have ht := Tn_lt (H := a 0) (g := a 24) b1
      unfold gstP
      split
      · exact ⟨b1, b2, b3⟩
      · split
        · rw [va_up_ne _ _ (by omega), va_up_ne _ _ (by omega), va_up_self]; exact ⟨b1, b2, by omega⟩
        · rw [va_up_ne _ _ (by omega), va_up_ne _ _ (by omega), va_up_self, va_up_ne _ _ (by omega), va_up_self, va_up_self]
          refine ⟨ht, by omega, ?_⟩
          split <;> omega
    · rw [gstP_ne (by omega) (by omega) (by omega), gstP_ne (by omega) (by omega) (by omega), gstP_ne (by omega) (by omega) (by omega)]; exact hii j hj
theorem RZ.of_ne {z z' : Ob} {a b : Nat → Nat} {i : Nat} (hz : RZ z a) (h37 : a 37 ≤ 4) (h51 : a 51 ≤ 4) (hi : i < a 51) (hb : ∀ k, k ≠ 39 + i → k ≠ 43 + i → k ≠ 47 + i → b k = a k) (hz' : ∀ c k, (c < 4 ∨ k ≠ i) → z' c k = z c k) (h4 : z' 4 i = nI (b (39 + i))) (h5 : z' 5 i = nI (b (43 + i))) (h6 : z' 6 i = nI (b (47 + i))) : RZ z' b := by
  obtain ⟨z0, z1, z2, z3, z4, z8, zg, zi⟩ := hz
  refine ⟨?_, ?_, ?_, ?_, ?_, ?_, fun j hj => ⟨?_, ?_, ?_⟩, fun j hj => ?_⟩
  · rw [hz' 0 0 (by omega), hb 0 (by omega) (by omega) (by omega)]; exact z0
  · rw [hz' 0 1 (by omega), hb 24 (by omega) (by omega) (by omega)]; exact z1
  · rw [hz' 0 2 (by omega), hb 38 (by omega) (by omega) (by omega)]; exact z2
  · rw [hz' 0 3 (by omega), hb 52 (by omega) (by omega) (by omega)]; exact z3
  · rw [hz' 0 4 (by omega), hb 37 (by omega) (by omega) (by omega)]; exact z4
  · rw [hz' 0 8 (by omega), hb 51 (by omega) (by omega) (by omega)]; exact z8
  · rw [hb 37 (by omega) (by omega) (by omega)] at hj
    rw [hz' 1 j (by omega), hb (25 + j) (by omega) (by omega) (by omega)]; exact (zg j hj).1
  · rw [hb 37 (by omega) (by omega) (by omega)] at hj
    rw [hz' 2 j (by omega), hb (29 + j) (by omega) (by omega) (by omega)]; exact (zg j hj).2.1
  · rw [hb 37 (by omega) (by omega) (by omega)] at hj
    rw [hz' 3 j (by omega), hb (33 + j) (by omega) (by omega) (by omega)]; exact (zg j hj).2.2
  · rw [hb 51 (by omega) (by omega) (by omega)] at hj
    by_cases e : j = i
    · subst e; exact ⟨h4, h5, h6⟩
    · rw [hz' 4 j (by omega), hz' 5 j (by omega), hz' 6 j (by omega), hb (39 + j) (by omega) (by omega) (by omega), hb (43 + j) (by omega) (by omega) (by omega), hb (47 + j) (by omega) (by omega) (by omega)]
      exact zi j hj
theorem walk_l {fuel0 : Nat} : ∀ (k fuel : Nat) (z : Ob) (a : Nat → Nat), RZ z a → WF a → k ≤ a 51 → k < fuel → ∃ z', f_X1_walk_l2 fuel z (nI (a 51 - k)) = some z' ∧ RZ z' (wkP (a 51) k a) := by
  intro k
  induction k with
  | zero =>
    intro fuel z a hz h hk hf
    obtain ⟨fuel, rfl⟩ : ∃ f, fuel = f + 1 := ⟨fuel - 1, by omega⟩
    have h51 := h.2.2.2.2.1
    unfold f_X1_walk_l2
    rw [hz.2.2.2.2.2.1]
    simp (disch := omega) only [nI_le_iff]
    rw [if_pos (by omega)]
    exact ⟨z, rfl, hz⟩
  | succ k ih =>
    intro fuel z a hz h hk hf
    obtain ⟨fuel, rfl⟩ : ∃ f, fuel = f + 1 := ⟨fuel - 1, by omega⟩
    have hz0 := hz
    obtain ⟨h0, h24, h37, h38, h51, hgg, hii⟩ := id h
    obtain ⟨z0, z1, z2, z3, z4, z8, zg, zi⟩ := hz
    have e1 : a 51 - (k + 1) + 1 = a 51 - k := by omega
    generalize hi0 : a 51 - (k + 1) = i at *
    have hi : i < a 51 := by omega
    obtain ⟨w4, w5, w6⟩ := zi i hi
    obtain ⟨b1, b2, b3⟩ := hii i (by omega)
    have ht := Tn_lt (H := a 0) (g := a 24) b1
    have hg51 : gstP a i 51 = a 51 := gstP_ne (by omega) (by omega) (by omega)
    -- what follows behind a guest
    have next : ∀ z1 : Ob, RZ z1 (gstP a i) → ∃ z', f_X1_walk_b94 (f_X1_walk_l2 fuel) z1 (nI i) = some z' ∧ RZ z' (wkP (a 51) (k + 1) a) := by
      intro z1 hz1
      unfold f_X1_walk_b94
      rw [fa_lit 1, nI_add, e1]
      have := ih fuel z1 (gstP a i) hz1 (gstP_wf h (by omega)) (by omega) (by omega)
      rw [hg51] at this
      show ∃ z', _ ∧ RZ z' (wkP (a 51) k (gstP a (a 51 - (k + 1))))
      rw [hi0]
      exact this
    unfold f_X1_walk_l2
    rw [z8]
    simp (disch := omega) only [fa_lit, nI_le_iff, ck_nI, nI_cl, w4, w5, w6, nI_eq_iff, z0, z1]
    rw [if_neg (by omega)]
    by_cases c1 : a (47 + i) = 0
    · rw [if_pos c1]
      by_cases c2 : a (43 + i) = 0
      · rw [if_pos c2]
        refine next _ (RZ.of_ne hz0 h37 h51 hi (fun k q1 q2 q3 => gstP_ne q1 q2 q3) (fun c k q => by rw [ob_at]; split; (· rw [if_neg (by omega)]); rfl) ?_ ?_ ?_)
        · rw [ob_at, if_neg (by decide), w4]; unfold gstP; rw [if_neg (by omega), if_pos c2, va_up_ne _ _ (by omega)]
        · rw [ob_at, if_neg (by decide), w5]; unfold gstP; rw [if_neg (by omega), if_pos c2, va_up_ne _ _ (by omega)]
        · rw [ob_at, if_pos rfl, if_pos rfl]; unfold gstP; rw [if_neg (by omega), if_pos c2, va_up_self]
      · rw [if_neg c2, toward_ok h0 h24 b1, Option.bind_some]
        simp (disch := omega) only [nI_eq_iff, nI_sub]
        have gP : gstP a i = va_up (va_up (va_up a (39 + i) (Tn (a 0) (a 24) (a (39 + i)))) (43 + i) (a (43 + i) - 1)) (47 + i) (if Tn (a 0) (a 24) (a (39 + i)) = a 24 then 1 else 0) := by unfold gstP; rw [if_neg (by omega), if_neg c2]
        generalize Tn (a 0) (a 24) (a (39 + i)) = t at *
        by_cases c3 : t = a 24
        · rw [if_pos c3]
          refine next _ (RZ.of_ne hz0 h37 h51 hi (fun k q1 q2 q3 => gstP_ne q1 q2 q3) (fun c k q => ?_) ?_ ?_ ?_)
          · simp only [ob_at]
            rcases q with q | q
            · rw [if_neg (by omega), if_neg (by omega), if_neg (by omega)]
            · simp [q]
          · simp [ob_at]; rw [gP, va_up_ne _ _ (by omega), va_up_ne _ _ (by omega), va_up_self]
          · simp [ob_at]; rw [gP, va_up_ne _ _ (by omega), va_up_self]
          · simp [ob_at]; rw [gP, va_up_self, if_pos c3]
        · rw [if_neg c3]
          refine next _ (RZ.of_ne hz0 h37 h51 hi (fun k q1 q2 q3 => gstP_ne q1 q2 q3) (fun c k q => ?_) ?_ ?_ ?_)
          · simp only [ob_at]
            rcases q with q | q
            · rw [if_neg (by omega), if_neg (by omega)]
            · simp [q]
          · simp [ob_at]; rw [gP, va_up_ne _ _ (by omega), va_up_ne _ _ (by omega), va_up_self]
          · simp [ob_at]; rw [gP, va_up_ne _ _ (by omega), va_up_self]
          · simp [ob_at]; rw [gP, va_up_self, if_neg c3, w6, c1]
    · rw [if_neg c1]
      have e : gstP a i = a := by unfold gstP; rw [if_pos c1]
      exact next z (by rw [e]; exact hz0)
theorem walk_ok {z : Ob} {a : Nat → Nat} (hz : RZ z a) (h : WF a) : ∃ z', f_X1_walk z = some z' ∧ RZ z' (walkP a) := by
  unfold f_X1_walk
  have := walk_l (fuel0 := 0) (a 51) FUEL z a hz h (Nat.le_refl _) (by have := h.2.2.2.2.1; unfold FUEL; omega)
  rw [Nat.sub_self] at this
  exact this
