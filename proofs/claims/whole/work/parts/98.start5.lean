set_option maxRecDepth 100000 in
theorem rE_ok : ∀ i, i < 8 → rE i = nI (endL.getD i 0) := by decide +kernel
set_option maxRecDepth 100000 in
theorem rL_ok : ∀ i, i < 33 → rL i = nI (letL.getD i 0) := by decide +kernel
theorem rN_ok : ∀ i, i < 4 → rN i = -4 := by decide +kernel
theorem st_C : Cpl X00 (X00 22) := by
  refine ⟨⟨fun _ => 0, ?_, by decide, ?_, ?_⟩, ?_, ?_, ?_, ?_, ?_, ?_, ?_⟩
  · exact ⟨by decide, by decide, by decide, by decide, by decide, fun _ _ => ⟨show 0 < 4 by decide, show 0 < 24 by decide, show 0 < 10 by decide⟩, fun _ _ => ⟨show 0 < 16 by decide, show 0 ≤ 60 by decide, show 0 ≤ 2 by decide⟩⟩
  · exact ⟨rfl, rfl, rfl, rfl, rfl, rfl, fun g hg => absurd hg (Nat.not_lt_zero g), fun i hi => absurd hi (Nat.not_lt_zero i)⟩
  · refine ⟨fun h _ => ?_, fun k _ _ => rfl⟩
    unfold hbt
    rw [Nat.zero_testBit]
    rfl
  · exact ⟨rfl, fun q => absurd rfl q⟩
  · exact ⟨rfl, fun q => absurd rfl q⟩
  · exact ⟨0, fun _ => 0, Nat.zero_le _, rfl, rfl, fun i hi => absurd hi (Nat.not_lt_zero i)⟩
  · exact ⟨rfl, rfl⟩
  · exact ⟨0, fun _ => 0, fun _ => 0, fun _ => 0, Nat.zero_le _, rfl, rfl, fun i hi => absurd hi (Nat.not_lt_zero i)⟩
  · intro k hk
    refine Or.inl ⟨?_, rN_ok k hk⟩
    rcases (show k = 0 ∨ k = 1 ∨ k = 2 ∨ k = 3 by omega) with rfl | rfl | rfl | rfl <;> rfl
  · exact ⟨rfl, rE_ok, rL_ok⟩
