/-! copies; who is out, lost, in; how many -/
def FrC (M M' : Ob) (q : Nat) : Prop := (∀ c, c ≠ 1 → M' c = M c) ∧ ∀ k, k < q ∨ q + 53 ≤ k → M' 1 k = M 1 k
theorem copies_l {p q : Nat} (hp : p ≤ 265) (hq : q ≤ 265) (hd : p + 53 ≤ q ∨ q + 53 ≤ p) {M0 : Ob} : ∀ (k fuel : Nat) (M : Ob), k ≤ 53 → k < fuel → FrC M0 M q → (∀ i, i < 53 - k → M 1 (q + i) = M0 1 (p + i)) → ∃ M', f_X7_copies_l2 fuel M (nI p) (nI q) (nI (53 - k)) = some M' ∧ FrC M0 M' q ∧ ∀ i, i < 53 → M' 1 (q + i) = M0 1 (p + i) := by
  intro k
  induction k with
  | zero =>
    intro fuel M hk hf h1 h2
    obtain ⟨fuel, rfl⟩ : ∃ f, fuel = f + 1 := ⟨fuel - 1, by omega⟩
    unfold f_X7_copies_l2
    simp (disch := omega) only [fa_lit, nI_le_iff]
    rw [if_pos (by omega)]
    exact ⟨M, rfl, h1, h2⟩
  | succ k ih =>
    intro fuel M hk hf h1 h2
    obtain ⟨fuel, rfl⟩ : ∃ f, fuel = f + 1 := ⟨fuel - 1, by omega⟩
    have e1 : 53 - (k + 1) + 1 = 53 - k := by omega
    unfold f_X7_copies_l2
    generalize hj : 53 - (k + 1) = j at *
    simp (disch := omega) only [fa_lit, nI_le_iff, nI_add, ck_nI, nI_cl]
    rw [if_neg (by omega), e1]
    refine ih fuel _ (by omega) (by omega) ⟨fun c hc => ?_, fun i hi => ?_⟩ (fun i hi => ?_)
    · rw [← h1.1 c hc]; funext i; rw [ob_at, if_neg hc]
    · rw [ob_at, if_pos rfl, if_neg (by omega)]; exact h1.2 i hi
    · rw [ob_at, if_pos rfl]
      by_cases e : i = j
      · subst e; rw [if_pos rfl]; exact h1.2 _ (by omega)
      · rw [if_neg (by omega)]; exact h2 i (by omega)
theorem copies_ok {p q : Nat} (hp : p ≤ 265) (hq : q ≤ 265) (hd : p + 53 ≤ q ∨ q + 53 ≤ p) (M : Ob) : ∃ M', f_X7_copies M (nI p) (nI q) = some M' ∧ FrC M M' q ∧ ∀ i, i < 53 → M' 1 (q + i) = M 1 (p + i) := by
  unfold f_X7_copies
  exact copies_l hp hq hd 53 FUEL M (by omega) (by unfold FUEL; omega) ⟨fun _ _ => rfl, fun _ _ => rfl⟩ (fun i hi => absurd hi (by omega))
theorem RM.copy {M M' : Ob} {p q : Nat} {a : Nat → Nat} (hm : RM M p a) (h : ∀ i, i < 53 → M' 1 (q + i) = M 1 (p + i)) : RM M' q a := ⟨fun i hi => by rw [h i (by omega)]; exact hm.1 i hi, fun k h1 h2 => by rw [h k h2]; exact hm.2 k h1 h2⟩
theorem FrC.to {M M' : Ob} {q : Nat} (h : FrC M M' q) : FrM M M' q := ⟨fun c h1 _ => h.1 c h1, h.2⟩
/-- who is v, as bits: guests from n - k on -/
def whP (n v : Nat) (a : Nat → Nat) : Nat → Nat → Nat
  | 0, m => m
  | k + 1, m => whP n v a k (if a (47 + (n - (k + 1))) = v then m ||| 1 <<< (n - (k + 1)) else m)
theorem whP_lt {n v : Nat} {a : Nat → Nat} (hn : n ≤ 4) : ∀ k m, k ≤ n → m < 16 → whP n v a k m < 16
  | 0, _, _, h => h
  | k + 1, m, hk, h => by
    refine whP_lt hn k _ (by omega) ?_
    split
    · refine Nat.or_lt_two_pow (n := 4) h ?_
      rw [Nat.shiftLeft_eq, Nat.one_mul]
      exact Nat.pow_lt_pow_right (by decide) (by omega)
    · exact h
theorem whoIs_l {z : Ob} {a : Nat → Nat} (hz : RZ z a) (h : WF a) {v : Nat} (hv : v ≤ 2) : ∀ (k fuel m : Nat), k ≤ a 51 → k < fuel → f_X1_whoIs_l4 fuel z (nI v) (nI m) (nI (a 51 - k)) = some (nI (whP (a 51) v a k m)) := by
  obtain ⟨z0, z1, z2, z3, z4, z8, zg, zi⟩ := hz
  have h51 := h.2.2.2.2.1
  intro k
  induction k with
  | zero =>
    intro fuel m hk hf
    obtain ⟨fuel, rfl⟩ : ∃ f, fuel = f + 1 := ⟨fuel - 1, by omega⟩
    unfold f_X1_whoIs_l4
    rw [z8]
    simp (disch := omega) only [nI_le_iff]
    rw [if_pos (by omega)]
    rfl
  | succ k ih =>
    intro fuel m hk hf
    obtain ⟨fuel, rfl⟩ : ∃ f, fuel = f + 1 := ⟨fuel - 1, by omega⟩
    have e1 : a 51 - (k + 1) + 1 = a 51 - k := by omega
    have w6 := (zi (a 51 - (k + 1)) (by omega)).2.2
    have b47 := (h.2.2.2.2.2.2 (a 51 - (k + 1)) (by omega)).2.2
    unfold f_X1_whoIs_l4 f_X1_whoIs_b28
    rw [z8]
    simp (disch := omega) only [fa_lit, nI_le_iff, nI_add, ck_nI, nI_cl, w6, nI_eq_iff, fa_and, and31, nI_shl', fa_or, e1]
    rw [if_neg (by omega)]
    show _ = some (nI (whP (a 51) v a k (if a (47 + (a 51 - (k + 1))) = v then m ||| 1 <<< (a 51 - (k + 1)) else m)))
    split
    · exact ih fuel _ (by omega) (by omega)
    · exact ih fuel _ (by omega) (by omega)
theorem whoIs_ok {z : Ob} {a : Nat → Nat} (hz : RZ z a) (h : WF a) {v : Nat} (hv : v ≤ 2) : f_X1_whoIs z (nI v) = some (nI (whP (a 51) v a (a 51) 0)) := by
  unfold f_X1_whoIs
  have := whoIs_l hz h hv (a 51) FUEL 0 (Nat.le_refl _) (by have := h.2.2.2.2.1; unfold FUEL; omega)
  rw [Nat.sub_self] at this
  exact this
theorem guestsOn_l {M : Ob} {p : Nat} {a : Nat → Nat} (hm : RM M p a) (hp : p ≤ 265) (h : WF a) {v : Nat} (hv : v ≤ 2) : ∀ (k fuel m : Nat), k ≤ a 51 → k < fuel → f_X7_guestsOn_l5 fuel M (nI p) (nI v) (nI m) (nI (a 51 - k)) = some (nI (whP (a 51) v a k m)) := by
  have h51 := h.2.2.2.2.1
  have k51 : M 1 (p + 51) = nI (a 51) := hm.2 _ (by omega) (by omega)
  intro k
  induction k with
  | zero =>
    intro fuel m hk hf
    obtain ⟨fuel, rfl⟩ : ∃ f, fuel = f + 1 := ⟨fuel - 1, by omega⟩
    unfold f_X7_guestsOn_l5
    simp (disch := omega) only [fa_lit, nI_add, ck_nI, nI_cl, k51, nI_le_iff]
    rw [if_pos (by omega)]
    rfl
  | succ k ih =>
    intro fuel m hk hf
    obtain ⟨fuel, rfl⟩ : ∃ f, fuel = f + 1 := ⟨fuel - 1, by omega⟩
    have e1 : a 51 - (k + 1) + 1 = a 51 - k := by omega
    have k47 : M 1 (p + 47 + (a 51 - (k + 1))) = nI (a (47 + (a 51 - (k + 1)))) := by rw [show p + 47 + (a 51 - (k + 1)) = p + (47 + (a 51 - (k + 1))) from by omega]; exact hm.2 _ (by omega) (by omega)
    have b47 := (h.2.2.2.2.2.2 (a 51 - (k + 1)) (by omega)).2.2
    unfold f_X7_guestsOn_l5 f_X7_guestsOn_b44
    simp (disch := omega) only [fa_lit, nI_le_iff, nI_add, ck_nI, nI_cl, k51, k47, nI_eq_iff, fa_and, and31, nI_shl', fa_or, e1]
    rw [if_neg (by omega)]
    show _ = some (nI (whP (a 51) v a k (if a (47 + (a 51 - (k + 1))) = v then m ||| 1 <<< (a 51 - (k + 1)) else m)))
    split
    · exact ih fuel _ (by omega) (by omega)
    · rw [Nat.or_zero]; exact ih fuel _ (by omega) (by omega)
theorem guestsOn_ok {M : Ob} {p : Nat} {a : Nat → Nat} (hm : RM M p a) (hp : p ≤ 265) (h : WF a) {v : Nat} (hv : v ≤ 2) : f_X7_guestsOn M (nI p) (nI v) = some (nI (whP (a 51) v a (a 51) 0)) := by
  unfold f_X7_guestsOn
  have := guestsOn_l hm hp h hv (a 51) FUEL 0 (Nat.le_refl _) (by have := h.2.2.2.2.1; unfold FUEL; omega)
  rw [Nat.sub_self] at this
  exact this
def pc4 (m : Nat) : Nat := m % 2 + m / 2 % 2 + m / 4 % 2 + m / 8 % 2
theorem bitCount4_0 : ∀ m, m < 16 → isS (f_J6_bitCount_0f7a4 (nI m)) (nI (pc4 m)) = true := by decide +kernel
theorem bitsOf4_0 : ∀ m, m < 16 → isS (f_X7_bitsOf (nI m)) (nI (pc4 m)) = true := by decide +kernel
theorem bitCount4 {m : Nat} (h : m < 16) : f_J6_bitCount_0f7a4 (nI m) = some (nI (pc4 m)) := isS_eq (bitCount4_0 m h)
theorem bitsOf4 {m : Nat} (h : m < 16) : f_X7_bitsOf (nI m) = some (nI (pc4 m)) := isS_eq (bitsOf4_0 m h)
/-- how many are OUT -/
def outP (a : Nat → Nat) : Nat := pc4 (whP (a 51) 1 a (a 51) 0)
theorem outs_ok {z : Ob} {a : Nat → Nat} (hz : RZ z a) (h : WF a) : f_X1_outs z = some (nI (outP a)) := by
  unfold f_X1_outs outP
  rw [fa_lit 1, whoIs_ok hz h (by omega), Option.bind_some, bitCount4 (whP_lt h.2.2.2.2.1 _ _ (Nat.le_refl _) (by omega)), Option.bind_some]
