/-! days tried: the model's daysGo, the class' outsWithout -/
theorem itP_wf {aw : Nat} {rain : Bool} : ∀ (n : Nat) (a : Nat → Nat), WF a → WF (itP (dayP aw rain) n a)
  | 0, _, h => h
  | n + 1, a, h => itP_wf n _ (dayP_wf h aw rain)
theorem daysGo_l {aw n : Nat} (hn : n ≤ 60) : ∀ (k fuel : Nat) (M : Ob) (a : Nat → Nat), RM M 212 a → WF a → a 52 + k < 2147483647 → AW (M 0 16) aw → k ≤ n → k < fuel → ∃ M', f_X7_daysGo_l10 fuel M (nI n) (nI (n - k)) = some (nI (outP (itP (dayP aw false) k a)), M') ∧ RM M' 212 (itP (dayP aw false) k a) ∧ FrM M M' 212 := by
  intro k
  induction k with
  | zero =>
    intro fuel M a hm h hd haw hk hf
    obtain ⟨fuel, rfl⟩ : ∃ f, fuel = f + 1 := ⟨fuel - 1, by omega⟩
    unfold f_X7_daysGo_l10
    simp (disch := omega) only [fa_lit, nI_le_iff]
    rw [if_pos (by omega), guestsOn_ok hm (by omega) h (by omega), Option.bind_some, bitsOf4 (whP_lt h.2.2.2.2.1 _ _ (Nat.le_refl _) (by omega)), Option.bind_some]
    exact ⟨M, rfl, hm, FrM.rf M 212⟩
  | succ k ih =>
    intro fuel M a hm h hd haw hk hf
    obtain ⟨fuel, rfl⟩ : ∃ f, fuel = f + 1 := ⟨fuel - 1, by omega⟩
    unfold f_X7_daysGo_l10
    simp (disch := omega) only [fa_lit, nI_le_iff, nI_add]
    rw [if_neg (by omega), show n - (k + 1) + 1 = n - k from by omega]
    obtain ⟨M1, r0, r1, r2⟩ := dayOn_ok (p := 212) (by omega) hm h (by omega) haw false
    have r0 : f_X7_dayOn M (nI 212) (nI 0) = some M1 := r0
    rw [r0, Option.bind_some]
    obtain ⟨M2, s0, s1, s2⟩ := ih fuel M1 (dayP aw false a) r1 (dayP_wf h aw false) (by rw [dayP_52]; omega) (by rw [r2.1 0 (by decide) (by decide)]; exact haw) (by omega) (by omega)
    exact ⟨M2, s0, s1, r2.tr s2⟩
theorem daysGo_ok {aw n p : Nat} (hn : n ≤ 60) (hp : p + 53 ≤ 212 ∨ p = 265) {M : Ob} {a : Nat → Nat} (hm : RM M p a) (h : WF a) (hd : a 52 ≤ 2000) (haw : AW (M 0 16) aw) : ∃ M', f_X7_daysGo M (nI p) (nI n) = some (nI (outP (itP (dayP aw false) n a)), M') ∧ RM M' 212 (itP (dayP aw false) n a) ∧ FrM M M' 212 := by
  unfold f_X7_daysGo
  obtain ⟨M1, r0, r1, r2⟩ := copies_ok (p := p) (q := 212) (by omega) (by omega) (by omega) M
  rw [fa_lit 212, r0, Option.bind_some]
  have := daysGo_l hn n FUEL M1 a (hm.copy r2) h (by omega) (by rw [r1.1 0 (by decide)]; exact haw) (Nat.le_refl _) (by unfold FUEL; omega)
  rw [Nat.sub_self] at this
  obtain ⟨M2, s0, s1, s2⟩ := this
  exact ⟨M2, s0, s1, r1.to.tr s2⟩
/-- nobody IN: nothing more happens to guests -/
def NoIn (a : Nat → Nat) : Prop := ∀ i, i < a 51 → a (47 + i) ≠ 0
theorem whP_ge {n v : Nat} {a : Nat → Nat} : ∀ k m j, m.testBit j = true → (whP n v a k m).testBit j = true
  | 0, _, _, h => h
  | k + 1, m, j, h => by
    refine whP_ge k _ j ?_
    split
    · rw [Nat.testBit_or, h]; rfl
    · exact h
theorem whP_0 {n v : Nat} {a : Nat → Nat} : ∀ k m, k ≤ n → whP n v a k m = 0 → ∀ i, n - k ≤ i → i < n → a (47 + i) ≠ v
  | 0, _, _, _, i, h1, h2 => by omega
  | k + 1, m, hk, h, i, h1, h2 => by
    by_cases e : i = n - (k + 1)
    · intro q
      have h3 : whP n v a k (if a (47 + (n - (k + 1))) = v then m ||| 1 <<< (n - (k + 1)) else m) = 0 := h
      rw [if_pos (by rw [← e]; exact q)] at h3
      have := whP_ge (n := n) (v := v) (a := a) k (m ||| 1 <<< (n - (k + 1))) (n - (k + 1)) (by
        rw [Nat.testBit_or, show 1 <<< (n - (k + 1)) = 2 ^ (n - (k + 1)) from by rw [Nat.shiftLeft_eq, Nat.one_mul], Nat.testBit_two_pow]; simp)
      rw [h3, Nat.zero_testBit] at this
      cases this
    · exact whP_0 k _ (by omega) h i (by omega) h2
theorem noIn_of {a : Nat → Nat} (h : whP (a 51) 0 a (a 51) 0 = 0) : NoIn a := fun i hi => whP_0 (a 51) 0 (Nat.le_refl _) h i (by omega) hi
theorem wkP_noIn {n : Nat} : ∀ (k : Nat) (a : Nat → Nat), k ≤ n → (∀ i, i < n → a (47 + i) ≠ 0) → wkP n k a = a
  | 0, _, _, _ => rfl
  | k + 1, a, hk, h => by
    show wkP n k (gstP a (n - (k + 1))) = a
    have e : gstP a (n - (k + 1)) = a := by unfold gstP; rw [if_pos (h _ (by omega))]
    rw [e]
    exact wkP_noIn k a (by omega) h
theorem dayP_noIn {a : Nat → Nat} (h : WF a) (hn : NoIn a) (aw : Nat) (rain : Bool) : (∀ i, i < 4 → dayP aw rain a (47 + i) = a (47 + i)) ∧ dayP aw rain a 51 = a 51 := by
  have c51 : cutsP aw rain a 51 = a 51 := cutsP_ne h (by omega) (by omega) (by omega)
  have c47 : ∀ i, i < 4 → cutsP aw rain a (47 + i) = a (47 + i) := fun i hi => cutsP_ne h (by omega) (by omega) (by omega)
  have h51 := h.2.2.2.2.1
  have e : walkP (cutsP aw rain a) = cutsP aw rain a := wkP_noIn _ _ (Nat.le_refl _) (fun i hi => by rw [c51] at hi; rw [c47 i (by omega)]; exact hn i hi)
  unfold dayP
  rw [e]
  exact ⟨fun i hi => by rw [va_up_ne _ _ (by omega)]; exact c47 i hi, by rw [va_up_ne _ _ (by omega)]; exact c51⟩
theorem whP_cong {n v : Nat} {a b : Nat → Nat} (h : ∀ i, i < n → a (47 + i) = b (47 + i)) : ∀ k m, k ≤ n → whP n v a k m = whP n v b k m
  | 0, _, _ => rfl
  | k + 1, m, hk => by
    show whP n v a k _ = whP n v b k _
    rw [h (n - (k + 1)) (by omega)]
    exact whP_cong h k _ (by omega)
theorem it_noIn {aw : Nat} {rain : Bool} : ∀ (n : Nat) (a : Nat → Nat), WF a → NoIn a → outP (itP (dayP aw rain) n a) = outP a
  | 0, _, _, _ => rfl
  | n + 1, a, h, hn => by
    obtain ⟨q1, q2⟩ := dayP_noIn h hn aw rain
    have h51 := h.2.2.2.2.1
    show outP (itP (dayP aw rain) n (dayP aw rain a)) = _
    rw [it_noIn n _ (dayP_wf h aw rain) (fun i hi => by rw [q2] at hi; rw [q1 i (by omega)]; exact hn i hi)]
    unfold outP
    rw [q2, whP_cong (a := dayP aw rain a) (b := a) (fun i hi => q1 i (by omega)) _ _ (Nat.le_refl _)]
theorem outsWithout_l {aw n : Nat} (hn : n ≤ 60) {x1 : Int32} (haw : AW x1 aw) : ∀ (k fuel : Nat) (z : Ob) (a : Nat → Nat), RZ z a → WF a → a 52 + k < 2147483647 → k ≤ n → k < fuel → ∃ z', f_X1_outsWithout_l2 fuel z x1 (nI n) (nI (n - k)) = some (nI (outP (itP (dayP aw false) k a)), z') := by
  intro k
  induction k with
  | zero =>
    intro fuel z a hz h hd hk hf
    obtain ⟨fuel, rfl⟩ : ∃ f, fuel = f + 1 := ⟨fuel - 1, by omega⟩
    unfold f_X1_outsWithout_l2 f_X1_outsWithout_b44
    simp (disch := omega) only [nI_le_iff]
    rw [if_pos (by omega), outs_ok hz h, Option.bind_some]
    exact ⟨z, rfl⟩
  | succ k ih =>
    intro fuel z a hz h hd hk hf
    obtain ⟨fuel, rfl⟩ : ∃ f, fuel = f + 1 := ⟨fuel - 1, by omega⟩
    have h37 := h.2.2.1
    have hw := whP_lt (v := 0) (a := a) h.2.2.2.2.1 (a 51) 0 (Nat.le_refl _) (by omega)
    unfold f_X1_outsWithout_l2
    rw [fa_lit 0, whoIs_ok hz h (by omega), hz.2.2.2.2.1, todays_ok hz h (by omega)]
    simp (disch := omega) only [nI_le_iff, Option.bind_some, nI_eq_iff]
    rw [if_neg (by omega)]
    by_cases c : whP (a 51) 0 a (a 51) 0 = 0
    · rw [if_pos c]
      unfold f_X1_outsWithout_b44
      rw [outs_ok hz h, Option.bind_some, it_noIn (k + 1) a h (noIn_of c)]
      exact ⟨z, rfl⟩
    · rw [if_neg c]
      have next : ∀ z1 : Ob, RZ z1 (cutsP aw false a) → ∃ z', f_X1_outsWithout_b34 (f_X1_outsWithout_l2 fuel) z1 x1 (nI n) (nI (n - (k + 1))) = some (nI (outP (itP (dayP aw false) (k + 1) a)), z') := by
        intro z1 hz1
        unfold f_X1_outsWithout_b34
        obtain ⟨z2, w1, w2⟩ := guests_day hz1 (cutsP_wf h aw false)
        rw [w1, Option.bind_some, fa_lit 1, nI_add, show n - (k + 1) + 1 = n - k from by omega]
        have e52 : cutsP aw false a 52 = a 52 := cutsP_ne h (by omega) (by omega) (by omega)
        rw [e52] at w2
        exact ih fuel z2 (dayP aw false a) w2 (dayP_wf h aw false) (by rw [dayP_52]; omega) (by omega) (by omega)
      have stay : (a 37 = 0 ∨ a 52 % a 37 = aw) → cutsP aw false a = a := fun q => by unfold cutsP; rw [if_pos (by rcases q with q | q; exact Or.inl q; exact Or.inr (Or.inr q))]
      by_cases c0 : a 37 = 0
      · rw [if_pos (by omega)]
        exact next z (by rw [stay (Or.inl c0)]; exact hz)
      · rw [if_neg (by omega), if_neg c0]
        have hlt := Nat.mod_lt (a 52) (show 0 < a 37 by omega)
        have iff : nI (a 52 % a 37) = x1 ↔ a 52 % a 37 = aw := by
          rcases haw with ⟨w1, w2⟩ | ⟨w1, w2⟩
          · rw [w2]
            exact ⟨fun q => absurd q (nI_ne_neg (a := a 52 % a 37) (k := 4) (by omega) (by omega) (by omega)), fun q => by omega⟩
          · rw [w2]; exact nI_eq_iff (by omega) (by omega)
        by_cases e : a 52 % a 37 = aw
        · rw [if_pos (iff.mpr e)]
          exact next z (by rw [stay (Or.inr e)]; exact hz)
        · rw [if_neg (fun q => e (iff.mp q))]
          obtain ⟨z1, m1, m2⟩ := mow_ok hz h (by omega)
          rw [m1, Option.bind_some]
          have ec : cutsP aw false a = mowP a := by unfold cutsP mowP; rw [if_neg (by simp [c0, e]), if_neg c0]
          exact next z1 (by rw [ec]; exact m2)
theorem outsWithout_ok {aw n : Nat} (hn : n ≤ 60) {x1 : Int32} (haw : AW x1 aw) {z : Ob} {a : Nat → Nat} (hz : RZ z a) (h : WF a) (hd : a 52 ≤ 2000) : ∃ z', f_X1_outsWithout z x1 (nI n) = some (nI (outP (itP (dayP aw false) n a)), z') := by
  unfold f_X1_outsWithout
  have := outsWithout_l hn haw n FUEL z a hz h (by omega) (Nat.le_refl _) (by unfold FUEL; omega)
  rw [Nat.sub_self] at this
  exact this
theorem outsBehind_ok {n : Nat} (hn : n ≤ 60) {z : Ob} {a : Nat → Nat} (hz : RZ z a) (h : WF a) (hd : a 52 ≤ 2000) : ∃ z', f_X1_outsBehind z (nI n) = some (nI (outP (itP (dayP 9 false) n a)), z') := by
  obtain ⟨z', q⟩ := outsWithout_ok hn (x1 := -4) (aw := 9) (Or.inl ⟨rfl, rfl⟩) hz h hd
  unfold f_X1_outsBehind
  rw [q, Option.bind_some]
  exact ⟨z', rfl⟩
