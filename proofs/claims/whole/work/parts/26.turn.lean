/-! the model's turnOn; way by both ends -/
def dd (H g x : Nat) : Nat := if Dn H g x = 16 then 99 else Dn H g x
theorem dd_le (H g x : Nat) : dd H g x ≤ 99 := by unfold dd; have := Dn_le H g x; split <;> omega
/-- a side is nearer just if it is reached as early as any -/
theorem near_iff {H g a : Nat} (hg : g < 16) (ha : a < 16) (hag : a ≠ g) {d : Nat} (ho : opn H a d = true) (hd : d < 4) : dd H g (nbr a d) < dd H g a ↔ (fa_first (fun n => nrs H g n a) 16 < 16 ∧ nsd H (rch H g (fa_first (fun n => nrs H g n a) 16)) a d = true) := by
  have hn := nbr_lt ha ho
  generalize hN : fa_first (fun n => nrs H g n a) 16 = N
  -- how far a is
  have hDa : Dn H g a = if N < 15 then N + 1 else 16 := by
    have hle : N ≤ 16 := by rw [← hN]; exact fa_first_le _ 16
    by_cases c : N < 15
    · rw [if_pos c]
      have hy : nrs H g N a = true := by have := fa_first_yes (fun n => nrs H g n a) 16 (by rw [hN]; omega); rw [hN] at this; exact this
      have hno : ∀ j, j < N → nrs H g j a = false := fun j hj => fa_first_no (fun n => nrs H g n a) 16 j (by rw [hN]; exact hj)
      refine fa_first_is (by omega) (by rw [rch_succ, hy]; simp) (fun j hj => ?_)
      cases q : rch H g j a with
      | false => rfl
      | true =>
        rcases rch_why j q with w | ⟨m, w1, w2⟩
        · exact absurd w hag
        · rw [hno m (by omega)] at w2; cases w2
    · rw [if_neg c]
      refine fa_first_none (fun j hj => ?_)
      cases q : rch H g j a with
      | false => rfl
      | true =>
        rcases rch_why j q with w | ⟨m, w1, w2⟩
        · exact absurd w hag
        · have : nrs H g m a = false := fa_first_no (fun n => nrs H g n a) 16 m (by rw [hN]; omega)
          rw [this] at w2; cases w2
  constructor
  · intro h
    have hDn := Dn_le H g (nbr a d)
    have hb : Dn H g (nbr a d) < 16 := by
      unfold dd at h
      by_cases c : Dn H g (nbr a d) = 16
      · rw [if_pos c] at h
        have := dd_le H g a
        unfold dd at this
        omega
      · omega
    have hr := Dn_yes hb
    have hs : nsd H (rch H g (Dn H g (nbr a d))) a d = true := by unfold nsd; rw [Bool.and_eq_true]; exact ⟨ho, hr⟩
    have hNle : N ≤ Dn H g (nbr a d) := by
      rcases Nat.lt_or_ge (Dn H g (nbr a d)) N with q | q
      · have : nrs H g (Dn H g (nbr a d)) a = false := fa_first_no (fun n => nrs H g n a) 16 _ (by rw [hN]; exact q)
        rw [nrs_iff.mpr ⟨d, hd, hs⟩] at this; cases this
      · exact q
    refine ⟨by omega, ?_⟩
    unfold dd at h
    rw [if_neg (by omega), hDa] at h
    have he : Dn H g (nbr a d) ≤ N := by
      by_cases c : N < 15
      · rw [if_pos c, if_neg (by omega)] at h; omega
      · omega
    exact nsd_mono (Nat.le_refl N) (by rw [← show Dn H g (nbr a d) = N from by omega]; exact hs)
  · rintro ⟨h1, h2⟩
    unfold nsd at h2
    rw [Bool.and_eq_true] at h2
    have hD := Dn_some h1 h2.2
    have hN15 : N < 15 := by
      rcases Nat.lt_or_ge N 15 with q | q
      · exact q
      · -- then a is reached in 16 steps, so in 15
        have hN' : N = 15 := by omega
        have hr : rch H g 16 a = true := by
          rw [rch_succ, Bool.or_eq_true]
          refine Or.inr (nrs_iff.mpr ⟨d, hd, ?_⟩)
          unfold nsd; rw [Bool.and_eq_true, ← hN']; exact h2
        have h15 := rch_15 hg ha hr
        have := Dn_some (by omega : (15 : Nat) < 16) h15
        rw [hDa, if_neg (by omega)] at this
        omega
    unfold dd
    rw [if_neg (by omega), hDa, if_pos hN15, if_neg (by omega)]
    omega
def tpk (H g a d : Nat) : Bool := opn H a d && decide (dd H g (nbr a d) < dd H g a)
def tfr (H g a : Nat) : Nat → Nat
  | 0 => a
  | k + 1 => if tpk H g a (3 - k) then nbr a (3 - k) else tfr H g a k
theorem tl2 {z : Ob} {H p g a : Nat} (hz : RH z p H) (hp : p ≤ 265) (ha : a < 16) (h6 : ∀ x, x < 16 → z 6 x = nI (dd H g x)) : ∀ (k fuel : Nat), k ≤ 4 → k < fuel → f_X7_turnOn_l2 fuel z (nI p) (nI a) (nI (4 - k)) = some (nI (tfr H g a k)) := by
  intro k
  induction k with
  | zero =>
    intro fuel hk hf
    obtain ⟨fuel, rfl⟩ : ∃ f, fuel = f + 1 := ⟨fuel - 1, by omega⟩
    unfold f_X7_turnOn_l2
    simp (disch := omega) only [fa_lit, nI_le_iff]
    rw [if_pos (by omega)]
    rfl
  | succ k ih =>
    intro fuel hk hf
    obtain ⟨fuel, rfl⟩ : ∃ f, fuel = f + 1 := ⟨fuel - 1, by omega⟩
    have e3 : 4 - (k + 1) = 3 - k := by omega
    have e4 : 3 - k + 1 = 4 - k := by omega
    have hop := isOpen_ok (s := 3 - k) hz hp ha (by omega)
    unfold f_X7_turnOn_l2
    rw [e3]
    unfold tfr
    by_cases ho : opn H a (3 - k) = true
    · rw [if_pos ho] at hop
      rw [hop]
      have hn := nbr_lt ha ho
      have b1 := dd_le H g a
      have b2 := dd_le H g (nbr a (3 - k))
      simp (disch := omega) only [fa_lit, nI_le_iff, nI_eq_iff, Option.bind_some]
      rw [if_neg (by omega), if_neg (by omega), mbeside_ok ha (by omega) ho, Option.bind_some, ck_nI hn (by omega), ck_nI ha (by omega), nI_cl (by omega), nI_cl (by omega), h6 _ ha, h6 _ hn]
      simp (disch := omega) only [nI_le_iff]
      by_cases c : dd H g a ≤ dd H g (nbr a (3 - k))
      · rw [if_pos c, if_neg (by unfold tpk; simp [ho]; omega)]
        unfold f_X7_turnOn_b42
        rw [fa_lit 1, nI_add, e4]
        exact ih fuel (by omega) (by omega)
      · rw [if_neg c, if_pos (by unfold tpk; simp [ho]; omega), Option.bind_some]
    · rw [if_neg ho] at hop
      rw [hop]
      simp (disch := omega) only [fa_lit, nI_le_iff, nI_eq_iff, Option.bind_some]
      rw [if_neg (by omega), if_pos trivial, if_neg (by unfold tpk; simp [ho])]
      unfold f_X7_turnOn_b42
      rw [fa_lit 1, nI_add, e4]
      exact ih fuel (by omega) (by omega)
theorem tfr_T {H g a : Nat} (hg : g < 16) (ha : a < 16) : tfr H g a 4 = Tn H g a := by
  by_cases hag : a = g
  · have h0 : dd H g a = 0 := by
      have e : Dn H g a = 0 := fa_first_is (by omega) (by simp [rch, hag]) (fun j hj => by omega)
      unfold dd
      rw [e]; rfl
    have no : ∀ d, tpk H g a d = false := fun d => by unfold tpk; rw [h0]; simp
    unfold Tn
    rw [if_pos (Or.inl hag)]
    simp [tfr, no]
  · have key : ∀ d, d < 4 → tpk H g a d = (decide (fa_first (fun n => nrs H g n a) 16 < 16) && nsd H (rch H g (fa_first (fun n => nrs H g n a) 16)) a d) := by
      intro d hd
      rw [Bool.eq_iff_iff]
      unfold tpk
      simp only [Bool.and_eq_true, decide_eq_true_eq]
      constructor
      · rintro ⟨h1, h2⟩
        exact (near_iff hg ha hag h1 hd).mp h2
      · rintro ⟨h1, h2⟩
        have ho : opn H a d = true := by unfold nsd at h2; rw [Bool.and_eq_true] at h2; exact h2.1
        exact ⟨ho, (near_iff hg ha hag ho hd).mpr ⟨h1, h2⟩⟩
    have hle := fa_first_le (fun n => nrs H g n a) 16
    have hyes := fa_first_yes (fun n => nrs H g n a) 16
    unfold Tn
    generalize fa_first (fun n => nrs H g n a) 16 = N at *
    have k0 := key 0 (by omega)
    have k1 := key 1 (by omega)
    have k2 := key 2 (by omega)
    have k3 := key 3 (by omega)
    show (if tpk H g a 0 then nbr a 0 else if tpk H g a 1 then nbr a 1 else if tpk H g a 2 then nbr a 2 else if tpk H g a 3 then nbr a 3 else a) = _
    rw [k0, k1, k2, k3]
    by_cases hN : N = 16
    · rw [if_pos (Or.inr hN)]
      simp [hN]
    · rw [if_neg (show ¬ (a = g ∨ N = 16) by omega)]
      have hy : nrs H g N a = true := hyes (by omega)
      rw [fs4_first (p := fun s => nsd H (rch H g N) a s) hy]
      have e : decide (N < 16) = true := by simp; omega
      rw [e]
      simp only [Bool.true_and]
      unfold nrs at hy
      unfold fs4
      cases h0 : nsd H (rch H g N) a 0 with
      | true => rfl
      | false =>
        cases h1 : nsd H (rch H g N) a 1 with
        | true => rfl
        | false =>
          cases h2 : nsd H (rch H g N) a 2 with
          | true => rfl
          | false =>
            cases h3 : nsd H (rch H g N) a 3 with
            | true => rfl
            | false => rw [h0, h1, h2, h3] at hy; cases hy
theorem turnOn_ok {z : Ob} {H p g a : Nat} (hz : RH z p H) (hp : p ≤ 265) (hg : g < 16) (ha : a < 16) (h6 : ∀ x, x < 16 → z 6 x = nI (dd H g x)) : f_X7_turnOn z (nI p) (nI a) = some (nI (Tn H g a)) := by
  unfold f_X7_turnOn
  rw [← tfr_T hg ha]
  exact tl2 hz hp ha h6 4 FUEL (by omega) (by unfold FUEL; omega)
/-- a path from its other end -/
theorem rch_front {H x y : Nat} (hx : x < 16) {d : Nat} (hd : d < 4) (ho : opn H x d = true) (hy : nbr x d = y) : ∀ n g, g < 16 → rch H y n g = true → rch H x (n + 1) g = true := by
  intro n
  induction n with
  | zero =>
    intro g hg h
    have e : g = y := by simpa [rch] using h
    rw [rch_succ, Bool.or_eq_true]
    have hb := opn_back hx hd ho
    rw [hy] at hb
    refine Or.inr (nrs_iff.mpr ⟨3 - d, by omega, ?_⟩)
    unfold nsd
    rw [Bool.and_eq_true, e]
    exact ⟨hb.1, by rw [hb.2]; simp [rch]⟩
  | succ n ih =>
    intro g hg h
    rw [rch_succ, Bool.or_eq_true] at h
    rcases h with h | h
    · exact rch_mono1 (ih g hg h)
    · obtain ⟨s, hs, w⟩ := nrs_iff.mp h
      unfold nsd at w
      rw [Bool.and_eq_true] at w
      rw [rch_succ, Bool.or_eq_true]
      refine Or.inr (nrs_iff.mpr ⟨s, hs, ?_⟩)
      unfold nsd
      rw [Bool.and_eq_true]
      exact ⟨w.1, ih _ (nbr_lt hg w.1) w.2⟩
theorem rch_turn {H g : Nat} (hg : g < 16) : ∀ n x, x < 16 → rch H g n x = true → rch H x n g = true := by
  intro n
  induction n with
  | zero => intro x _ h; have e : x = g := by simpa [rch] using h
            simp [rch, e]
  | succ n ih =>
    intro x hx h
    rw [rch_succ, Bool.or_eq_true] at h
    rcases h with h | h
    · exact rch_mono1 (ih x hx h)
    · obtain ⟨s, hs, w⟩ := nrs_iff.mp h
      unfold nsd at w
      rw [Bool.and_eq_true] at w
      exact rch_front hx hs w.1 rfl n g hg (ih _ (nbr_lt hx w.1) w.2)
theorem Dn_turn {H a b : Nat} (ha : a < 16) (hb : b < 16) : Dn H a b = Dn H b a := by
  unfold Dn
  have e : (fun n => rch H a n b) = fun n => rch H b n a := by
    funext n
    rw [Bool.eq_iff_iff]
    exact ⟨rch_turn ha n b hb, rch_turn hb n a ha⟩
  rw [e]
