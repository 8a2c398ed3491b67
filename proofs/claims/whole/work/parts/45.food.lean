/-! how much food one needs -/
theorem gst_loc {a b : Nat → Nat} {i : Nat} (e0 : a 0 = b 0) (e24 : a 24 = b 24) (e1 : a (39 + i) = b (39 + i)) (e2 : a (43 + i) = b (43 + i)) (e3 : a (47 + i) = b (47 + i)) : gstP a i (39 + i) = gstP b i (39 + i) ∧ gstP a i (43 + i) = gstP b i (43 + i) ∧ gstP a i (47 + i) = gstP b i (47 + i) := by
  unfold gstP
  rw [e0, e24, e1, e2, e3]
  by_cases c1 : b (47 + i) ≠ 0
  · rw [if_pos c1, if_pos c1]; exact ⟨e1, e2, e3⟩
  · rw [if_neg c1, if_neg c1]
    by_cases c2 : b (43 + i) = 0
    · rw [if_pos c2, if_pos c2, va_up_ne _ _ (by omega), va_up_ne _ _ (by omega), va_up_ne _ _ (by omega), va_up_ne _ _ (by omega), va_up_self, va_up_self]; exact ⟨e1, e2, rfl⟩
    · rw [if_neg c2, if_neg c2, va_up_self, va_up_self, va_up_ne _ _ (by omega), va_up_ne _ _ (by omega), va_up_self, va_up_ne _ _ (by omega), va_up_ne _ _ (by omega), va_up_self, va_up_ne _ _ (by omega), va_up_self, va_up_ne _ _ (by omega), va_up_self]
      exact ⟨rfl, rfl, rfl⟩
theorem wk_g {n : Nat} (hn : n ≤ 4) : ∀ (k : Nat) (a : Nat → Nat) (i : Nat), k ≤ n → i < 4 → (n - k ≤ i ∧ i < n → wkP n k a (39 + i) = gstP a i (39 + i) ∧ wkP n k a (43 + i) = gstP a i (43 + i) ∧ wkP n k a (47 + i) = gstP a i (47 + i)) ∧ (¬ (n - k ≤ i ∧ i < n) → wkP n k a (39 + i) = a (39 + i) ∧ wkP n k a (43 + i) = a (43 + i) ∧ wkP n k a (47 + i) = a (47 + i))
  | 0, a, i, hk, hi => ⟨fun q => absurd q (by omega), fun _ => ⟨rfl, rfl, rfl⟩⟩
  | k + 1, a, i, hk, hi => by
    show (_ → wkP n k (gstP a (n - (k + 1))) (39 + i) = _ ∧ wkP n k (gstP a (n - (k + 1))) (43 + i) = _ ∧ wkP n k (gstP a (n - (k + 1))) (47 + i) = _) ∧ (_ → wkP n k (gstP a (n - (k + 1))) (39 + i) = _ ∧ wkP n k (gstP a (n - (k + 1))) (43 + i) = _ ∧ wkP n k (gstP a (n - (k + 1))) (47 + i) = _)
    obtain ⟨h1, h2⟩ := wk_g hn k (gstP a (n - (k + 1))) i (by omega) hi
    generalize hg : n - (k + 1) = g at *
    have loc : i ≠ g → gstP a g 0 = a 0 ∧ gstP a g 24 = a 24 ∧ gstP a g (39 + i) = a (39 + i) ∧ gstP a g (43 + i) = a (43 + i) ∧ gstP a g (47 + i) = a (47 + i) := fun q => ⟨gstP_ne (by omega) (by omega) (by omega), gstP_ne (by omega) (by omega) (by omega), gstP_ne (by omega) (by omega) (by omega), gstP_ne (by omega) (by omega) (by omega), gstP_ne (by omega) (by omega) (by omega)⟩
    refine ⟨fun q => ?_, fun q => ?_⟩
    · by_cases e : i = g
      · subst e
        exact h2 (by omega)
      · obtain ⟨l0, l1, l2, l3, l4⟩ := loc e
        obtain ⟨m1, m2, m3⟩ := gst_loc (a := gstP a g) (b := a) (i := i) l0 l1 l2 l3 l4
        obtain ⟨p1, p2, p3⟩ := h1 (by omega)
        exact ⟨p1.trans m1, p2.trans m2, p3.trans m3⟩
    · obtain ⟨l0, l1, l2, l3, l4⟩ := loc (by omega)
      obtain ⟨p1, p2, p3⟩ := h2 (by omega)
      exact ⟨p1.trans l2, p2.trans l3, p3.trans l4⟩
theorem day_g {b : Nat → Nat} (h : WF b) {i : Nat} (hi : i < b 51) : dayP 9 false b (39 + i) = gstP (cutsP 9 false b) i (39 + i) ∧ dayP 9 false b (43 + i) = gstP (cutsP 9 false b) i (43 + i) ∧ dayP 9 false b (47 + i) = gstP (cutsP 9 false b) i (47 + i) := by
  have h51 := h.2.2.2.2.1
  have e51 : cutsP 9 false b 51 = b 51 := cutsP_ne h (by omega) (by omega) (by omega)
  unfold dayP walkP
  rw [va_up_ne _ _ (by omega), va_up_ne _ _ (by omega), va_up_ne _ _ (by omega), e51]
  exact (wk_g h51 (b 51) (cutsP 9 false b) i (Nat.le_refl _) (by omega)).1 (by omega)
theorem day_far {b : Nat → Nat} (h : WF b) {i : Nat} (hi : b 51 ≤ i) (hi4 : i < 4) : dayP 9 false b (39 + i) = b (39 + i) ∧ dayP 9 false b (43 + i) = b (43 + i) ∧ dayP 9 false b (47 + i) = b (47 + i) := by
  have h51 := h.2.2.2.2.1
  have e51 : cutsP 9 false b 51 = b 51 := cutsP_ne h (by omega) (by omega) (by omega)
  unfold dayP walkP
  rw [va_up_ne _ _ (by omega), va_up_ne _ _ (by omega), va_up_ne _ _ (by omega), e51]
  obtain ⟨p1, p2, p3⟩ := (wk_g h51 (b 51) (cutsP 9 false b) i (Nat.le_refl _) (by omega)).2 (by omega)
  rw [p1, p2, p3, cutsP_ne h (by omega) (by omega) (by omega), cutsP_ne h (by omega) (by omega) (by omega), cutsP_ne h (by omega) (by omega) (by omega)]
  exact ⟨rfl, rfl, rfl⟩
theorem cuts_loc {b : Nat → Nat} (h : WF b) {i : Nat} (hi : i < 4) : cutsP 9 false b 24 = b 24 ∧ cutsP 9 false b (39 + i) = b (39 + i) ∧ cutsP 9 false b (43 + i) = b (43 + i) ∧ cutsP 9 false b (47 + i) = b (47 + i) := ⟨cutsP_ne h (by omega) (by omega) (by omega), cutsP_ne h (by omega) (by omega) (by omega), cutsP_ne h (by omega) (by omega) (by omega), cutsP_ne h (by omega) (by omega) (by omega)⟩
theorem day_not {b : Nat → Nat} (h : WF b) {i : Nat} (hi : i < b 51) (hn : b (47 + i) ≠ 0) : dayP 9 false b (39 + i) = b (39 + i) ∧ dayP 9 false b (43 + i) = b (43 + i) ∧ dayP 9 false b (47 + i) = b (47 + i) := by
  have h51 := h.2.2.2.2.1
  obtain ⟨c0, c1, c2, c3⟩ := cuts_loc h (show i < 4 by omega)
  obtain ⟨g1, g2, g3⟩ := day_g h hi
  rw [g1, g2, g3]
  unfold gstP
  rw [c3, if_pos hn]
  exact ⟨c1, c2, c3⟩
theorem day_lost {b : Nat → Nat} (h : WF b) {i : Nat} (hi : i < b 51) (hn : b (47 + i) = 0) (hf : b (43 + i) = 0) : dayP 9 false b (47 + i) = 2 := by
  have h51 := h.2.2.2.2.1
  obtain ⟨c0, c1, c2, c3⟩ := cuts_loc h (show i < 4 by omega)
  obtain ⟨g1, g2, g3⟩ := day_g h hi
  rw [g3]
  unfold gstP
  rw [c3, if_neg (by omega), c2, if_pos hf, va_up_self]
theorem day_in {b : Nat → Nat} (h : WF b) {i : Nat} (hi : i < b 51) (hn : b (47 + i) = 0) (hf : 0 < b (43 + i)) : dayP 9 false b (39 + i) = Tn (cutsP 9 false b 0) (b 24) (b (39 + i)) ∧ dayP 9 false b (43 + i) = b (43 + i) - 1 ∧ dayP 9 false b (47 + i) = if Tn (cutsP 9 false b 0) (b 24) (b (39 + i)) = b 24 then 1 else 0 := by
  have h51 := h.2.2.2.2.1
  obtain ⟨c0, c1, c2, c3⟩ := cuts_loc h (show i < 4 by omega)
  obtain ⟨g1, g2, g3⟩ := day_g h hi
  rw [g1, g2, g3]
  unfold gstP
  rw [c3, if_neg (by omega), c2, if_neg (by omega), c1, c0, va_up_self, va_up_ne _ _ (by omega), va_up_ne _ _ (by omega), va_up_self, va_up_ne _ _ (by omega), va_up_self]
  exact ⟨rfl, rfl, rfl⟩
/-- alike but for one's food -/
def Ex (i : Nat) (b c : Nat → Nat) : Prop := ∀ j, j ≠ 43 + i → b j = c j
theorem Ex.day {i : Nat} {b c : Nat → Nat} (h : Ex i b c) (hb : WF b) (hc : WF c) (hi : i < b 51) (hf : b (47 + i) = 0 → 0 < b (43 + i) ∧ 0 < c (43 + i)) : Ex i (dayP 9 false b) (dayP 9 false c) := by
  have h51 := hb.2.2.2.2.1
  have hA : Ag b c := fun j hj => h j (by omega)
  have hM : ∀ j, (j < 39 ∨ 51 ≤ j) → cutsP 9 false b j = cutsP 9 false c j := fun j hj => by rw [mowP_cuts hb, mowP_cuts hc]; exact hA.mow hb j hj
  have e51 : b 51 = c 51 := h 51 (by omega)
  -- the guests one by one
  have one : ∀ k, k < 4 → dayP 9 false b (39 + k) = dayP 9 false c (39 + k) ∧ (k ≠ i → dayP 9 false b (43 + k) = dayP 9 false c (43 + k)) ∧ dayP 9 false b (47 + k) = dayP 9 false c (47 + k) := by
    intro k hk
    by_cases far : b 51 ≤ k
    · obtain ⟨p1, p2, p3⟩ := day_far hb far hk
      obtain ⟨q1, q2, q3⟩ := day_far hc (by omega) hk
      rw [p1, p2, p3, q1, q2, q3]
      exact ⟨h _ (by omega), fun e => h _ (by omega), h _ (by omega)⟩
    · by_cases e : k = i
      · subst e
        refine (fun (w : dayP 9 false b (39 + k) = dayP 9 false c (39 + k) ∧ dayP 9 false b (47 + k) = dayP 9 false c (47 + k)) => ⟨w.1, fun q => absurd rfl q, w.2⟩) ?_
        by_cases z : b (47 + k) = 0
        · obtain ⟨f1, f2⟩ := hf z
          obtain ⟨p1, p2, p3⟩ := day_in hb (by omega) z f1
          obtain ⟨q1, q2, q3⟩ := day_in hc (i := k) (by omega) (by rw [← h _ (by omega)]; exact z) f2
          rw [p1, p3, q1, q3, hM 0 (by omega), h 24 (by omega), h (39 + k) (by omega)]
          exact ⟨rfl, rfl⟩
        · obtain ⟨p1, p2, p3⟩ := day_not hb (by omega) z
          obtain ⟨q1, q2, q3⟩ := day_not hc (i := k) (by omega) (by rw [← h _ (by omega)]; exact z)
          rw [p1, p3, q1, q3]
          exact ⟨h _ (by omega), h _ (by omega)⟩
      · obtain ⟨p1, p2, p3⟩ := day_g hb (i := k) (by omega)
        obtain ⟨q1, q2, q3⟩ := day_g hc (i := k) (by omega)
        obtain ⟨b0, b1, b2, b3⟩ := cuts_loc hb hk
        obtain ⟨c0, c1, c2, c3⟩ := cuts_loc hc hk
        obtain ⟨l1, l2, l3⟩ := gst_loc (a := cutsP 9 false b) (b := cutsP 9 false c) (i := k) (hM 0 (by omega)) (hM 24 (by omega)) (by rw [b1, c1]; exact h _ (by omega)) (by rw [b2, c2]; exact h _ (by omega)) (by rw [b3, c3]; exact h _ (by omega))
        exact ⟨by rw [p1, q1]; exact l1, fun _ => by rw [p2, q2]; exact l2, by rw [p3, q3]; exact l3⟩
  intro j hj
  by_cases j1 : j < 39 ∨ 51 ≤ j
  · have wb := cutsP_wf hb 9 false
    have wc := cutsP_wf hc 9 false
    unfold dayP
    rw [vn_at, vn_at, walkP_ne wb j1, walkP_ne wc j1, hM j j1, h 52 (by omega)]
  · by_cases j2 : j < 43
    · have := (one (j - 39) (by omega)).1
      rwa [show 39 + (j - 39) = j from by omega] at this
    · by_cases j3 : j < 47
      · have := (one (j - 43) (by omega)).2.1 (by omega)
        rwa [show 43 + (j - 43) = j from by omega] at this
      · have := (one (j - 47) (by omega)).2.2
        rwa [show 47 + (j - 47) = j from by omega] at this
theorem it_not {i : Nat} : ∀ (n : Nat) (b : Nat → Nat), WF b → i < b 51 → b (47 + i) ≠ 0 → itP (dayP 9 false) n b (47 + i) = b (47 + i)
  | 0, _, _, _, _ => rfl
  | n + 1, b, h, hi, hn => by
    obtain ⟨-, -, p3⟩ := day_not h hi hn
    show itP (dayP 9 false) n (dayP 9 false b) (47 + i) = _
    rw [it_not n _ (dayP_wf h 9 false) (by rw [dayP_ne h (by omega) (by omega) (by omega) (by omega) (by omega)]; exact hi) (by rw [p3]; exact hn), p3]
theorem till_ge {i D : Nat} : ∀ (k : Nat) (c : Nat → Nat), k ≤ 61 → tillP i k c = some D → 61 - k ≤ D ∧ D ≤ 60
  | 0, _, _, h => by cases h
  | k + 1, c, hk, h => by
    unfold tillP at h
    by_cases e : c (47 + i) = 1
    · rw [if_pos e] at h
      cases h
      omega
    · rw [if_neg e] at h
      have := till_ge k _ (by omega) h
      omega
theorem food_iff {i v : Nat} (hv : v ≤ 60) : ∀ (k d : Nat) (b c : Nat → Nat), d + k = 61 → d ≤ v → Ex i b c → WF b → WF c → i < b 51 → b (47 + i) = 0 → b (43 + i) + d = v → c (43 + i) + d = 60 → (itP (dayP 9 false) (60 - d) b (47 + i) = 1 ↔ ∃ D, tillP i k c = some D ∧ D ≤ v) := by
  intro k
  induction k with
  | zero => intro d b c hd hdv; omega
  | succ k ih =>
    intro d b c hd hdv hE hb hc hi hin f1 f2
    have h51 := hb.2.2.2.2.1
    have cin : c (47 + i) = 0 := by rw [← hE _ (by omega)]; exact hin
    have et : tillP i (k + 1) c = tillP i k (dayP 9 false c) := by
      show (if c (47 + i) = 1 then _ else _) = _
      rw [if_neg (by omega)]
    rw [et]
    by_cases dv : d = v
    · have no : ¬ ∃ D, tillP i k (dayP 9 false c) = some D ∧ D ≤ v := by
        rintro ⟨D, q1, q2⟩
        have := till_ge k _ (by omega) q1
        omega
      refine ⟨fun q => ?_, fun q => absurd q no⟩
      by_cases d60 : d = 60
      · rw [d60, Nat.sub_self] at q
        have q' : b (47 + i) = 1 := q
        omega
      · rw [show 60 - d = (59 - d) + 1 from by omega] at q
        have q' : itP (dayP 9 false) (59 - d) (dayP 9 false b) (47 + i) = 1 := q
        have l := day_lost hb hi hin (by omega)
        rw [it_not _ _ (dayP_wf hb 9 false) (by rw [dayP_ne hb (by omega) (by omega) (by omega) (by omega) (by omega)]; exact hi) (by omega), l] at q'
        omega
    · obtain ⟨p1, p2, p3⟩ := day_in hb hi hin (by omega)
      obtain ⟨r1, r2, r3⟩ := day_in hc (i := i) (by rw [← hE 51 (by omega)]; exact hi) cin (by omega)
      have hE2 := hE.day hb hc hi (fun _ => by omega)
      have hi2 : i < dayP 9 false b 51 := by rw [dayP_ne hb (by omega) (by omega) (by omega) (by omega) (by omega)]; exact hi
      have st : itP (dayP 9 false) (60 - d) b = itP (dayP 9 false) (60 - (d + 1)) (dayP 9 false b) := by
        rw [show 60 - d = (60 - (d + 1)) + 1 from by omega]
        rfl
      rw [st]
      by_cases o : dayP 9 false b (47 + i) = 0
      · exact ih (d + 1) _ _ (by omega) (by omega) hE2 (dayP_wf hb 9 false) (dayP_wf hc 9 false) hi2 o (by omega) (by omega)
      · have o1 : dayP 9 false b (47 + i) = 1 := by
          rw [p3] at o ⊢
          split at o
          · rw [if_pos (by assumption)]
          · exact absurd rfl o
        have o2 : dayP 9 false c (47 + i) = 1 := by rw [← hE2 _ (by omega)]; exact o1
        refine ⟨fun _ => ?_, fun _ => ?_⟩
        · obtain ⟨k, rfl⟩ : ∃ m, k = m + 1 := ⟨k - 1, by omega⟩
          refine ⟨61 - (k + 1), ?_, by omega⟩
          show (if dayP 9 false c (47 + i) = 1 then _ else _) = _
          rw [if_pos o2]
        · rw [it_not _ _ (dayP_wf hb 9 false) hi2 o, o1]
theorem food7_l {a : Nat → Nat} {i : Nat} (w1 : WF a) (w2 : a 52 ≤ 999) (hi : i < a 51) (hin : a (47 + i) = 0) : ∀ (k fuel : Nat) (M : Ob), (∃ v, RM M 265 (va_up a (43 + i) v)) → AW (M 0 16) 9 → (∀ D, tillP i 61 (va_up a (43 + i) 60) = some D → 61 - k ≤ D) → k ≤ 61 → k < fuel → ∃ M1, f_X7_food_l35 fuel M (nI i) (nI (61 - k)) = some (noI (tillP i 61 (va_up a (43 + i) 60)), M1) ∧ QM M M1 := by
  have h51 := w1.2.2.2.2.1
  intro k
  induction k with
  | zero =>
    intro fuel M hm haw hD hk hf
    obtain ⟨fuel, rfl⟩ : ∃ f, fuel = f + 1 := ⟨fuel - 1, by omega⟩
    unfold f_X7_food_l35
    rw [if_pos (show (60 : Int32) < nI (61 - 0) from (nI_lt_iff (a := 60) (by omega) (by omega)).mpr (by omega))]
    refine ⟨M, ?_, QM.rf M⟩
    cases e : tillP i 61 (va_up a (43 + i) 60) with
    | none => rfl
    | some D =>
      have q1 := hD D e
      have q2 := till_ge 61 _ (by omega) e
      omega
  | succ k ih =>
    intro fuel M hm haw hD hk hf
    obtain ⟨fuel, rfl⟩ : ∃ f, fuel = f + 1 := ⟨fuel - 1, by omega⟩
    obtain ⟨v0, hm⟩ := hm
    have hm2 := hm.up (61 - (k + 1)) (k := 43 + i) (by omega) (by omega)
    rw [va_two, show 265 + (43 + i) = 308 + i from by omega] at hm2
    have wb : WF (va_up a (43 + i) (61 - (k + 1))) := w1.up (by unfold bnd; omega)
    have wc : WF (va_up a (43 + i) 60) := w1.up (by unfold bnd; omega)
    obtain ⟨M1, d1, d2, d3⟩ := daysGo_ok (aw := 9) (n := 60) (p := 265) (by omega) (by omega) hm2 wb (up52' w2 (by omega)) (by rw [ob_at, if_neg (by decide)]; exact haw)
    have qm : QM M M1 := (QM.ob1 M _ (by omega)).tr (d3.q (by omega))
    have d1' : f_X7_daysGo (ob M 1 (308 + i) (nI (61 - (k + 1)))) 265 60 = some (nI (outP (itP (dayP 9 false) 60 (va_up a (43 + i) (61 - (k + 1))))), M1) := d1
    have ex : Ex i (va_up a (43 + i) (61 - (k + 1))) (va_up a (43 + i) 60) := fun j hj => by rw [va_up_ne _ _ hj, va_up_ne _ _ hj]
    have iff := food_iff (v := 61 - (k + 1)) (by omega) 61 0 _ _ rfl (by omega) ex wb wc (by rw [va_up_ne _ _ (by omega)]; exact hi) (by rw [va_up_ne _ _ (by omega)]; exact hin) (by rw [va_up_self]; rfl) (by rw [va_up_self])
    have hb := (itP_wf (aw := 9) (rain := false) 60 _ wb).2.2.2.2.2.2 i (by omega)
    have e47 : M1 1 (259 + i) = nI (itP (dayP 9 false) 60 (va_up a (43 + i) (61 - (k + 1))) (47 + i)) := by
      rw [show 259 + i = 212 + (47 + i) from by omega]; exact d2.2 _ (by omega) (by omega)
    unfold f_X7_food_l35
    rw [if_neg (show ¬ (60 : Int32) < nI (61 - (k + 1)) from fun q => absurd ((nI_lt_iff (a := 60) (by omega) (by omega)).mp q) (by omega)), show (308 : Int32) = nI 308 from rfl, nI_add, ck_nI (by omega) (by omega), nI_cl (by omega), d1', Option.bind_some]
    dsimp only
    rw [show (259 : Int32) = nI 259 from rfl, nI_add, ck_nI (by omega) (by omega), nI_cl (by omega)]
    rw [Nat.sub_zero] at iff
    by_cases o : itP (dayP 9 false) 60 (va_up a (43 + i) (61 - (k + 1))) (47 + i) = 1
    · rw [if_pos (show M1 1 (259 + i) = 1 by rw [e47, o]; rfl)]
      obtain ⟨D, q1, q2⟩ := iff.mp o
      have q3 := hD D q1
      rw [q1, show D = 61 - (k + 1) from by omega]
      exact ⟨M1, rfl, qm⟩
    · rw [if_neg (show ¬ M1 1 (259 + i) = 1 by rw [e47, show (1 : Int32) = nI 1 from rfl, nI_eq_iff (by omega) (by omega)]; exact o), nI_1, show 61 - (k + 1) + 1 = 61 - k from by omega]
      obtain ⟨M2, r1, r2⟩ := ih fuel M1 ⟨_, hm2.copy (fun j hj => d3.2 _ (by omega))⟩ (by rw [qm.1 16 (by omega)]; exact haw) (fun D q => by
        have q3 := hD D q
        have : ¬ D ≤ 61 - (k + 1) := fun q4 => o (iff.mpr ⟨D, q, q4⟩)
        omega) (by omega) (by omega)
      exact ⟨M2, r1, qm.tr r2⟩
theorem T_food {X : Wd} {M : Ob} (h : Cpl X M) (a1 : Int32) : OK X M (f_X6_food X a1) (f_X7_food M a1) := by
  obtain ⟨⟨a, hp⟩, -, -, -, -, -, -, hc⟩ := id h
  have ⟨w1, w2, w3, w4⟩ := hp
  have h37 := w1.2.2.1
  have h51 := w1.2.2.2.2.1
  have z8 := w3.2.2.2.2.2.1
  have e51 := hp.m (k := 51) (by omega) (by omega)
  unfold f_X6_food f_X7_food
  by_cases c0 : Rg a1 (a 51)
  · obtain ⟨i, hi, rfl⟩ := c0
    have hb := (w1.2.2.2.2.2.2 i (by omega)).2.2
    rw [isGuest_y z8 hi h51, bd1, mGuest_y e51 hi h51, bd1, ck_nI (by omega) (by omega), nI_cl (by omega), (w3.2.2.2.2.2.2.2 i hi).2.2, show (47 : Int32) = nI 47 from rfl, nI_add, ck_nI (by omega) (by omega), nI_cl (by omega), hp.m (by omega) (by omega)]
    by_cases e : a (47 + i) = 0
    · have e' : nI (a (47 + i)) = 0 := by rw [e]; rfl
      rw [if_pos e', if_pos e']
      obtain ⟨z0, b1, b2⟩ := become_ok (X 5) w3 w1
      have t0 := b2.cellv h37 h51 (c := 5) (g := i) (k := 43 + i) 60 (by omega) (by omega)
      have wc : WF (va_up a (43 + i) 60) := w1.up (by unfold bnd; omega)
      obtain ⟨z1, t1⟩ := till_l (i := i) 61 FUEL (wo (va_up X 5 z0) 5 5 i (60 : Int32)) (va_up a (43 + i) 60) (by unfold wo; rw [va_up_self, va_up_self]; exact t0) wc (by rw [va_up_ne _ _ (by omega)]; exact hi) (by rw [va_up_ne _ _ (by omega)]; omega) (by omega) (by unfold FUEL; omega)
      obtain ⟨M0, r0, r1, r2⟩ := copies_ok (p := 0) (q := 265) (by omega) (by omega) (by omega) M
      have hm0 := w4.copy r2
      obtain ⟨M1, s0, s1⟩ := food7_l w1 w2 hi e 61 FUEL M0 ⟨a (43 + i), by rw [show va_up a (43 + i) (a (43 + i)) = a from by funext j; rw [vn_at]; split <;> simp_all]; exact hm0⟩ (by rw [r1.1 0 (by decide)]; exact Or.inl ⟨rfl, hc.1⟩) (fun D _ => by omega) (by omega) (by unfold FUEL; omega)
      have t1' : f_X6_daysTillOut (wo (va_up X 5 z0) 5 5 i (60 : Int32)) (nI i) = some (noI (tillP i 61 (va_up a (43 + i) 60)), va_up (wo (va_up X 5 z0) 5 5 i (60 : Int32)) 5 z1) := t1
      have r0' : f_X7_copies M 0 265 = some M0 := r0
      have s0' : f_X7_food_l35 FUEL M0 (nI i) 0 = some (noI (tillP i 61 (va_up a (43 + i) 60)), M1) := s0
      rw [b1, Option.bind_some, ck_nI (by omega) (by omega), t1', Option.bind_some, r0', Option.bind_some, s0']
      exact OK.q h rfl rfl (((QX.up z0 (by omega)).tr (QX.up _ (by omega))).tr (QX.up z1 (by omega))) ((r1.q (by omega)).tr s1)
    · have e' : ¬ nI (a (47 + i)) = 0 := nI_ne0 (by omega) (by omega)
      rw [if_neg e', if_neg e']
      exact OK.same h _ rfl rfl
  · rw [isGuest_n z8 c0 h51, bd0, mGuest_n e51 c0 h51, bd0]
    exact OK.same h _ rfl rfl
