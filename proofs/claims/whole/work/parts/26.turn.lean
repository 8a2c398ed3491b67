/-! the model's turnOn; way by both ends -/
def dd (H g x : Nat) : Nat := if Dn H g x = 16 then 99 else Dn H g x
theorem dd_le (H g x : Nat) : dd H g x ≤ 99 := by unfold dd; have := Dn_le H g x; split <;> omega
/-- a side is nearer just if it is reached as early as any -/
theorem near_iff {H g a : Nat} (hg : g < 16) (ha : a < 16) (hag : a ≠ g) {d : Nat} (ho : opn H a d = true) (hd : d < 4) : dd H g (nbr a d) < dd H g a ↔ (fa_first (fun n => nrs H g n a) 16 < 16 ∧ nsd H (rch H g (fa_first (fun n => nrs H g n a) 16)) a d = true) := by
  have hn := nbr_lt ha ho
  generalize hN : fa_first (fun n => nrs H g n a) 16 = N
  -- how far a is
  have hDa : Dn H g a = if N < 15 then N + 1 else 16 := by
    have hle : N ≤ 16 := by rw [← hN]; exact fa_first_le _ 16
    by_cases c : N < 15
    · rw [if_pos c]
      have hy : nrs H g N a = true := by have := fa_first_yes (fun n => nrs H g n a) 16 (by rw [hN]; omega); rw [hN] at this; exact this
      have hno : ∀ j, j < N → nrs H g j a = false := fun j hj => fa_first_no (fun n => nrs H g n a) 16 j (by rw [hN]; exact hj)
      refine fa_first_is (by omega) (by rw [rch_succ, hy]; simp) (fun j hj => ?_)
      cases q : rch H g j a with
      | false => rfl
      | true =>
        rcases rch_why j q with w | ⟨m, w1, w2⟩
        · exact absurd w hag
        · rw [hno m (by omega)] at w2; cases w2
    · rw [if_neg c]
      refine fa_first_none (fun j hj => ?_)
      cases q : rch H g j a with
      | false => rfl
      | true =>
        rcases rch_why j q with w | ⟨m, w1, w2⟩
        · exact absurd w hag
        · have : nrs H g m a = false := fa_first_no (fun n => nrs H g n a) 16 m (by rw [hN]; omega)
          rw [this] at w2; cases w2
  constructor
  · intro h
    have hDn := Dn_le H g (nbr a d)
    have hb : Dn H g (nbr a d) < 16 := by
      unfold dd at h
      by_cases c : Dn H g (nbr a d) = 16
      · rw [if_pos c] at h
        have := dd_le H g a
        unfold dd at this
        omega
      · omega
    have hr := Dn_yes hb
    have hs : nsd H (rch H g (Dn H g (nbr a d))) a d = true := by unfold nsd; rw [Bool.and_eq_true]; exact ⟨ho, hr⟩
    have hNle : N ≤ Dn H g (nbr a d) := by
      rcases Nat.lt_or_ge (Dn H g (nbr a d)) N with q | q
      · have : nrs H g (Dn H g (nbr a d)) a = false := fa_first_no (fun n => nrs H g n a) 16 _ (by rw [hN]; exact q)
        rw [nrs_iff.mpr ⟨d, hd, hs⟩] at this; cases this
      · exact q
    refine ⟨by omega, ?_⟩
    unfold dd at h
    rw [if_neg (by omega), hDa] at h
    have he : Dn H g (nbr a d) ≤ N := by
      by_cases c : N < 15
      · rw [if_pos c, if_neg (by omega)] at h; omega
      · omega
    exact nsd_mono (Nat.le_refl N) (by rw [← show Dn H g (nbr a d) = N from by omega]; exact hs)
  · rintro ⟨h1, h2⟩
    unfold nsd at h2
    rw [Bool.and_eq_true] at h2
    have hD := Dn_some h1 h2.2
    have hN15 : N < 15 := by
      rcases Nat.lt_or_ge N 15 with q | q
      · exact q
      · -- then a is reached in 16 steps, so in 15
        have hN' : N = 15 := by omega
        have hr : rch H g 16 a = true := by
          rw [rch_succ, Bool.or_eq_true]
          refine Or.inr (nrs_iff.mpr ⟨d, hd, ?_⟩)
          unfold nsd; rw [Bool.and_eq_true, ← hN']; exact h2
        have h15 := rch_15 hg ha hr
        have := Dn_some (by omega : (15 : Nat) < 16) h15
        rw [hDa, if_neg (by omega)] at this
        omega
    unfold dd
    rw [if_neg (by omega), hDa, if_pos hN15, if_neg (by omega)]
    omega
