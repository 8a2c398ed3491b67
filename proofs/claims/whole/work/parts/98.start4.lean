set_option maxHeartbeats 8000000 in
set_option maxRecDepth 100000 in
theorem st_GW {D : va_G} {cy : Nat → ClassId} {kS vS : Nat → Nat} {ad0 : Nat → Nat → Nat} {h g N0 : Nat} {u : Nat → Nat → Nat} {v : Nat → Nat} {H : Heap} (hG : GH (D, cy, ad0, kS, vS) N0 (stW (D, cy, ad0, kS, vS) h g u v) H) : va_P D vwCl (GW (D, cy, adr h g u v, kS, vS) X00) H ∧ Inj (D, cy, adr h g u v, kS, vS) ∧ ∀ q : Nat, GA (D, cy, adr h g u v, kS, vS) q → N0 ≤ q := by
  have hi : ∀ p ∈ ids, ∃ (i : Nat) (x : va_E), aids[i]? = some p ∧ (stW (D, cy, ad0, kS, vS) h g u v)[i]? = some (adr h g u v p.1 p.2, x) := by
    intro p hp
    obtain ⟨i, hi⟩ := List.mem_iff_getElem?.mp (aids_in p hp)
    have e : ((stW (D, cy, ad0, kS, vS) h g u v).map Prod.fst)[i]? = some (adr h g u v p.1 p.2) := by
      rw [st_fst, List.getElem?_map, hi]
      rfl
    rw [List.getElem?_map] at e
    cases hx : (stW (D, cy, ad0, kS, vS) h g u v)[i]? with
    | none => rw [hx] at e; cases e
    | some y =>
      obtain ⟨y1, y2⟩ := y
      rw [hx] at e
      have e2 : y1 = adr h g u v p.1 p.2 := Option.some.inj e
      exact ⟨i, y2, hi, by rw [← e2]; exact hx⟩
  refine ⟨fun k q hk => ?_, fun p hp q hq e => ?_, fun a ha => ?_⟩
  · unfold GW at hk
    rw [List.getElem?_map] at hk
    cases hx : ids[k]? with
    | none => rw [hx] at hk; cases hk
    | some p =>
      rw [hx] at hk
      cases hk
      exact st_P hG.1 p (List.mem_of_getElem? hx)
  · obtain ⟨i, x, i1, i2⟩ := hi p hp
    obtain ⟨j, y, j1, j2⟩ := hi q hq
    have ij := hG.2.1 i j _ _ i2 j2 e
    subst ij
    exact Option.some.inj (i1.symm.trans j1)
  · obtain ⟨p, hp, rfl⟩ := ha
    obtain ⟨i, x, -, i2⟩ := hi p hp
    exact hG.2.2 i _ i2
