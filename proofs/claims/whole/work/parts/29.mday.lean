/-! the model's day on a page -/
def RM (M : Ob) (p : Nat) (a : Nat → Nat) : Prop := RH M p (a 0) ∧ ∀ k, 24 ≤ k → k < 53 → M 1 (p + k) = nI (a k)
/-- nothing but the page p, and the row of steps -/
def FrM (M M' : Ob) (p : Nat) : Prop := (∀ c, c ≠ 1 → c ≠ 6 → M' c = M c) ∧ ∀ k, k < p ∨ p + 53 ≤ k → M' 1 k = M 1 k
theorem FrM.rf (M : Ob) (p : Nat) : FrM M M p := ⟨fun _ _ _ => rfl, fun _ _ => rfl⟩
theorem FrM.tr {A B C : Ob} {p : Nat} (h : FrM A B p) (h2 : FrM B C p) : FrM A C p := ⟨fun c q1 q2 => (h2.1 c q1 q2).trans (h.1 c q1 q2), fun k q => (h2.2 k q).trans (h.2 k q)⟩
theorem FrM.ob (M : Ob) {p k : Nat} (v : Int32) (hk : k < 53) : FrM M (ob M 1 (p + k) v) p := by
  refine ⟨fun c q1 _ => ?_, fun j q => ?_⟩
  · funext j; rw [ob_at, if_neg q1]
  · rw [ob_at, if_pos rfl, if_neg (by omega)]
theorem FrM.six {M M' : Ob} {p : Nat} (h : Same6 M M') : FrM M M' p := ⟨fun c _ q => h c q, fun k _ => by rw [h 1 (by decide)]⟩
theorem RM.six {M M' : Ob} {p : Nat} {a : Nat → Nat} (h : Same6 M M') (hm : RM M p a) : RM M' p a := ⟨hm.1.same h, fun k q1 q2 => by rw [h 1 (by decide)]; exact hm.2 k q1 q2⟩
theorem ob6 (M : Ob) (k : Nat) (v : Int32) : (ob M 1 k v) 6 = M 6 := by funext j; rw [ob_at, if_neg (by decide)]
theorem RM.up {M : Ob} {p : Nat} {a : Nat → Nat} (h : RM M p a) {k : Nat} (v : Nat) (h1 : 24 ≤ k) (h2 : k < 53) : RM (ob M 1 (p + k) (nI v)) p (va_up a k v) := by
  refine ⟨fun j hj => ?_, fun j q1 q2 => ?_⟩
  · rw [ob_at, if_pos rfl, if_neg (by omega), va_up_ne _ _ (by omega)]; exact h.1 j hj
  · rw [ob_at, if_pos rfl]
    by_cases e : j = k
    · subst e; rw [if_pos rfl, va_up_self]
    · rw [if_neg (by omega), va_up_ne _ _ e]; exact h.2 j q1 q2
theorem RM.hedge {M : Ob} {p : Nat} {a : Nat → Nat} (h : RM M p a) {k v : Nat} (hk : k < 24) (hv : v < 2) : RM (ob M 1 (p + k) (nI v)) p (va_up a 0 (setb (a 0) k v)) := by
  refine ⟨fun j hj => ?_, fun j q1 q2 => ?_⟩
  · rw [ob_at, if_pos rfl, va_up_self]
    have hb := setb_bit (H := a 0) (h := k) (v := v) (show j < 32 by omega)
    by_cases e : j = k
    · subst e
      rw [if_pos rfl] at hb ⊢
      unfold hbt
      rw [hb]
      rcases (show v = 0 ∨ v = 1 by omega) with rfl | rfl <;> rfl
    · rw [if_neg e] at hb
      rw [if_neg (by omega), h.1 j hj]
      unfold hbt
      rw [hb]
  · rw [ob_at, if_pos rfl, if_neg (by omega), va_up_ne _ _ (by omega)]; exact h.2 j q1 q2
theorem goalOn_ok {M : Ob} {p : Nat} {a : Nat → Nat} (hm : RM M p a) (hp : p ≤ 265) (h : WF a) {g : Nat} (hg : g < 4) : f_X7_goalOn M (nI p) (nI g) = some (nI (goalP a g)) := by
  obtain ⟨-, -, -, h38, -, hgg, -⟩ := h
  obtain ⟨b1, b2, b3⟩ := hgg g hg
  have k1 : M 1 (p + 25 + g) = nI (a (25 + g)) := by rw [show p + 25 + g = p + (25 + g) from by omega]; exact hm.2 _ (by omega) (by omega)
  have k2 : M 1 (p + 29 + g) = nI (a (29 + g)) := by rw [show p + 29 + g = p + (29 + g) from by omega]; exact hm.2 _ (by omega) (by omega)
  have k3 : M 1 (p + 38) = nI (a 38) := hm.2 _ (by omega) (by omega)
  unfold f_X7_goalOn goalP
  simp (disch := omega) only [fa_lit, nI_add, ck_nI, nI_cl, k1, k2, k3, nI_eq_iff, nI_le_iff]
  by_cases c3 : a (25 + g) = 3
  · rw [if_pos c3, if_pos c3, nI_sub (by omega)]
  · rw [if_neg c3, if_neg c3]
    by_cases c1 : a (25 + g) = 1
    · rw [if_pos c1]
      by_cases c2 : a 38 ≤ 0
      · rw [if_pos c2, if_neg (by omega)]
      · rw [if_neg c2, if_pos (by omega), nI_sub (by omega)]
    · rw [if_neg c1, if_neg (by omega)]
theorem cutsOn_b {M : Ob} {p : Nat} {a : Nat → Nat} (hm : RM M p a) (hp : p ≤ 265) (h : WF a) {g v : Nat} (hg : g < 4) (hv : v < 2) (hv2 : v = madeP a g (goalP a g)) : ∃ M', f_X7_cutsOn_b57 M (nI p) (nI g) (nI (goalP a g)) (nI v) (nI (p + goalP a g)) = some M' ∧ RM M' p (cutP a g) ∧ FrM M M' p ∧ M' 6 = M 6 := by
  have hgo := goalP_lt h hg
  obtain ⟨-, -, -, h38, -, hgg, -⟩ := h
  obtain ⟨b1, b2, b3⟩ := hgg g hg
  have k2 : M 1 (p + 29 + g) = nI (a (29 + g)) := by rw [show p + 29 + g = p + (29 + g) from by omega]; exact hm.2 _ (by omega) (by omega)
  have k3 : M 1 (p + 33 + g) = nI (a (33 + g)) := by rw [show p + 33 + g = p + (33 + g) from by omega]; exact hm.2 _ (by omega) (by omega)
  have e2 : ∀ u w : Int32, ob (ob M 1 (p + goalP a g) u) 1 (p + 38) w 1 (p + 29 + g) = nI (a (29 + g)) := fun u w => by rw [ob_at, if_pos rfl, if_neg (by omega), ob_at, if_pos rfl, if_neg (by omega)]; exact k2
  have e3 : ∀ u w : Int32, ob (ob M 1 (p + goalP a g) u) 1 (p + 38) w 1 (p + 33 + g) = nI (a (33 + g)) := fun u w => by rw [ob_at, if_pos rfl, if_neg (by omega), ob_at, if_pos rfl, if_neg (by omega)]; exact k3
  unfold f_X7_cutsOn_b57
  simp (disch := omega) only [fa_lit, nI_add, ck_nI, nI_cl, e2, e3, nI_rem', nI_div]
  refine ⟨_, rfl, ?_, ?_, ?_⟩
  · rw [show p + 29 + g = p + (29 + g) from by omega]
    have r1 := hm.hedge hgo hv
    have r2 := r1.up (k := 38) (goalP a g + 1) (by omega) (by omega)
    have r3 := r2.up (k := 29 + g) ((a (29 + g) + a (33 + g)) % 24) (by omega) (by omega)
    rw [hv2] at r3
    rw [hv2]
    exact r3
  · rw [show p + 29 + g = p + (29 + g) from by omega]
    exact ((FrM.ob M _ (by omega)).tr (FrM.ob _ _ (by omega))).tr (FrM.ob _ _ (by omega))
  · rw [ob6, ob6, ob6]
theorem cutsOn_ok {M : Ob} {p : Nat} {a : Nat → Nat} (hm : RM M p a) (hp : p ≤ 265) (h : WF a) {g : Nat} (hg : g < 4) : ∃ M', f_X7_cutsOn M (nI p) (nI g) = some M' ∧ RM M' p (cutP a g) ∧ FrM M M' p ∧ M' 6 = M 6 := by
  have hgo := goalP_lt h hg
  obtain ⟨b1, b2, b3⟩ := h.2.2.2.2.2.1 g hg
  have k1 : M 1 (p + 25 + g) = nI (a (25 + g)) := by rw [show p + 25 + g = p + (25 + g) from by omega]; exact hm.2 _ (by omega) (by omega)
  have k0 : M 1 (p + goalP a g) = nI (hbt (a 0) (goalP a g)) := hm.1 _ hgo
  have hb := hbt_lt (a 0) (goalP a g)
  unfold f_X7_cutsOn
  rw [goalOn_ok hm hp h hg]
  simp (disch := omega) only [fa_lit, nI_add, ck_nI, nI_cl, k1, k0, nI_eq_iff, nI_le_iff, Option.bind_some, nI_sub]
  by_cases c1 : 2 ≤ a (25 + g)
  · rw [if_pos c1]
    by_cases c2 : a (25 + g) = 2
    · rw [if_pos c2]
      exact cutsOn_b hm hp h hg (by omega) (by unfold madeP; rw [if_neg (by omega), if_pos c2])
    · rw [if_neg c2]
      exact cutsOn_b hm hp h hg (by omega) (by unfold madeP; rw [if_neg (by omega), if_neg c2])
  · rw [if_neg c1]
    exact cutsOn_b hm hp h hg (by omega) (by unfold madeP; rw [if_pos (by omega)])
theorem guestOn_ok {M : Ob} {p : Nat} {a : Nat → Nat} (hm : RM M p a) (hp : p ≤ 265) (h : WF a) {i : Nat} (hi : i < 4) (hin : a (47 + i) = 0) (h6 : ∀ x, x < 16 → M 6 x = nI (dd (a 0) (a 24) x)) : ∃ M', f_X7_guestOn M (nI p) (nI i) = some M' ∧ RM M' p (gstP a i) ∧ FrM M M' p ∧ M' 6 = M 6 := by
  obtain ⟨h0, h24, -, -, -, -, hii⟩ := h
  obtain ⟨b1, b2, b3⟩ := hii i hi
  have ht := Tn_lt (H := a 0) (g := a 24) b1
  have k39 : M 1 (p + 39 + i) = nI (a (39 + i)) := by rw [show p + 39 + i = p + (39 + i) from by omega]; exact hm.2 _ (by omega) (by omega)
  have k43 : M 1 (p + 43 + i) = nI (a (43 + i)) := by rw [show p + 43 + i = p + (43 + i) from by omega]; exact hm.2 _ (by omega) (by omega)
  have k24 : M 1 (p + 24) = nI (a 24) := hm.2 _ (by omega) (by omega)
  have e39 : ∀ u w : Int32, ob (ob M 1 (p + 39 + i) u) 1 (p + 43 + i) w 1 (p + 39 + i) = u := fun u w => by rw [ob_at, if_pos rfl, if_neg (by omega), ob_at, if_pos rfl, if_pos rfl]
  have e24 : ∀ u w : Int32, ob (ob M 1 (p + 39 + i) u) 1 (p + 43 + i) w 1 (p + 24) = nI (a 24) := fun u w => by rw [ob_at, if_pos rfl, if_neg (by omega), ob_at, if_pos rfl, if_neg (by omega)]; exact k24
  have e43 : ∀ u : Int32, ob M 1 (p + 39 + i) u 1 (p + 43 + i) = nI (a (43 + i)) := fun u => by rw [ob_at, if_pos rfl, if_neg (by omega)]; exact k43
  have q39 : p + 39 + i = p + (39 + i) := by omega
  have q43 : p + 43 + i = p + (43 + i) := by omega
  have q47 : p + 47 + i = p + (47 + i) := by omega
  unfold f_X7_guestOn
  simp (disch := omega) only [fa_lit, nI_add, ck_nI, nI_cl, k43, k39, nI_eq_iff]
  by_cases c2 : a (43 + i) = 0
  · rw [if_pos c2]
    refine ⟨_, rfl, ?_, ?_, ?_⟩
    · rw [q47]
      have := hm.up (k := 47 + i) 2 (by omega) (by omega)
      unfold gstP
      rw [if_neg (by omega), if_pos c2]
      exact this
    · rw [q47]; exact FrM.ob M _ (by omega)
    · rw [ob6]
  · rw [if_neg c2, turnOn_ok hm.1 hp h24 b1 h6, Option.bind_some]
    have gP : gstP a i = va_up (va_up (va_up a (39 + i) (Tn (a 0) (a 24) (a (39 + i)))) (43 + i) (a (43 + i) - 1)) (47 + i) (if Tn (a 0) (a 24) (a (39 + i)) = a 24 then 1 else 0) := by unfold gstP; rw [if_neg (by omega), if_neg c2]
    generalize Tn (a 0) (a 24) (a (39 + i)) = t at *
    simp (disch := omega) only [e43, nI_sub, e39, e24, nI_eq_iff]
    have fin : ∀ v : Nat, v = (if t = a 24 then 1 else 0) → ∃ M', f_X7_guestOn_b107 (ob (ob M 1 (p + 39 + i) (nI t)) 1 (p + 43 + i) (nI (a (43 + i) - 1))) (nI v) (nI (p + 47 + i)) = some M' ∧ RM M' p (gstP a i) ∧ FrM M M' p ∧ M' 6 = M 6 := by
      intro v hv
      unfold f_X7_guestOn_b107
      rw [ck_nI (by omega) (by omega), nI_cl (by omega)]
      refine ⟨_, rfl, ?_, ?_, ?_⟩
      · rw [q39, q43, q47, gP, ← hv]
        exact ((hm.up t (by omega) (by omega)).up (a (43 + i) - 1) (by omega) (by omega)).up v (by omega) (by omega)
      · rw [q39, q43, q47]
        exact ((FrM.ob M _ (by omega)).tr (FrM.ob _ _ (by omega))).tr (FrM.ob _ _ (by omega))
      · rw [ob6, ob6, ob6]
    by_cases c3 : t = a 24
    · rw [if_pos c3]; exact fin 1 (by rw [if_pos c3])
    · rw [if_neg c3]; exact fin 0 (by rw [if_neg c3])
