/-! hire, leave, come, move, bread, open -/
theorem addGardener_ok {z : Ob} {g : Nat} (hz : z 0 4 = nI g) (hg : g < 4) (x y w : Int32) : f_X1_addGardener z x y w = some (1, ob (ob (ob (ob z 1 g x) 2 g y) 3 g w) 0 4 (nI (g + 1))) := by
  unfold f_X1_addGardener
  rw [hz, if_pos (by rw [show (4 : Int32) = nI 4 from rfl, nI_lt_iff (by omega) (by omega)]; exact hg), ck_nI hg (by omega), ck_nI hg (by omega), ck_nI hg (by omega), nI_cl (by omega), nI_1]
theorem addGuest_ok {z : Ob} {g : Nat} (hz : z 0 8 = nI g) (hg : g < 4) (x y : Int32) : f_X1_addGuest z x y = some (1, ob (ob (ob (ob z 4 g x) 5 g y) 6 g 0) 0 8 (nI (g + 1))) := by
  unfold f_X1_addGuest
  rw [hz, if_pos (by rw [show (4 : Int32) = nI 4 from rfl, nI_lt_iff (by omega) (by omega)]; exact hg), ck_nI hg (by omega), ck_nI hg (by omega), ck_nI hg (by omega), nI_cl (by omega), nI_1]
def addGP (a : Nat → Nat) (k t p : Nat) : Nat → Nat := va_up (va_up (va_up (va_up a (25 + a 37) k) (29 + a 37) t) (33 + a 37) p) 37 (a 37 + 1)
def addIP (a : Nat → Nat) (c f : Nat) : Nat → Nat := va_up (va_up (va_up (va_up a (39 + a 51) c) (43 + a 51) f) (47 + a 51) 0) 51 (a 51 + 1)
theorem addGP_wf {a : Nat → Nat} (h : WF a) (hg : a 37 < 4) {k t p : Nat} (hk : k < 4) (ht : t < 24) (hp : p < 10) : WF (addGP a k t p) := by
  unfold addGP
  generalize a 37 = g at hg ⊢
  exact (((h.up (by unfold bnd; omega)).up (by unfold bnd; omega)).up (by unfold bnd; omega)).up (by unfold bnd; omega)
theorem addIP_wf {a : Nat → Nat} (h : WF a) (hg : a 51 < 4) {c f : Nat} (hc : c < 16) (hf : f ≤ 60) : WF (addIP a c f) := by
  unfold addIP
  generalize a 51 = g at hg ⊢
  exact (((h.up (by unfold bnd; omega)).up (by unfold bnd; omega)).up (by unfold bnd; omega)).up (by unfold bnd; omega)
theorem addGP_rz {z : Ob} {a : Nat → Nat} (hz : RZ z a) (h : WF a) (hg : a 37 < 4) (k t p : Nat) : RZ (ob (ob (ob (ob z 1 (a 37) (nI k)) 2 (a 37) (nI t)) 3 (a 37) (nI p)) 0 4 (nI (a 37 + 1))) (addGP a k t p) := by
  have h37 := h.2.2.1
  have h51 := h.2.2.2.2.1
  have z1 := hz.cellv h37 h51 (c := 1) (g := a 37) (k := 25 + a 37) k hg (by omega)
  have z2 := z1.cellv (by rw [va_up_ne _ _ (by omega)]; exact h37) (by rw [va_up_ne _ _ (by omega)]; exact h51) (c := 2) (g := a 37) (k := 29 + a 37) t hg (by omega)
  have z3 := z2.cellv (by rw [va_up_ne _ _ (by omega), va_up_ne _ _ (by omega)]; exact h37) (by rw [va_up_ne _ _ (by omega), va_up_ne _ _ (by omega)]; exact h51) (c := 3) (g := a 37) (k := 33 + a 37) p hg (by omega)
  refine z3.many (by omega) (fun j hj => ?_)
  by_cases e : j = a 37
  · subst e
    refine ⟨?_, ?_, ?_⟩
    · simp only [ob_at]
      rw [va_up_ne _ _ (by omega), va_up_ne _ _ (by omega), va_up_self]
      simp
    · simp only [ob_at]
      rw [va_up_ne _ _ (by omega), va_up_self]
      simp
    · simp only [ob_at]
      rw [va_up_self]
      simp
  · exact z3.2.2.2.2.2.2.1 j (by rw [va_up_ne _ _ (by omega), va_up_ne _ _ (by omega), va_up_ne _ _ (by omega)]; omega)
theorem addIP_rz {z : Ob} {a : Nat → Nat} (hz : RZ z a) (h : WF a) (hg : a 51 < 4) (c f : Nat) : RZ (ob (ob (ob (ob z 4 (a 51) (nI c)) 5 (a 51) (nI f)) 6 (a 51) 0) 0 8 (nI (a 51 + 1))) (addIP a c f) := by
  have h37 := h.2.2.1
  have h51 := h.2.2.2.2.1
  have z1 := hz.cellv h37 h51 (c := 4) (g := a 51) (k := 39 + a 51) c hg (by omega)
  have z2 := z1.cellv (by rw [va_up_ne _ _ (by omega)]; exact h37) (by rw [va_up_ne _ _ (by omega)]; exact h51) (c := 5) (g := a 51) (k := 43 + a 51) f hg (by omega)
  have z3 := z2.cellv (by rw [va_up_ne _ _ (by omega), va_up_ne _ _ (by omega)]; exact h37) (by rw [va_up_ne _ _ (by omega), va_up_ne _ _ (by omega)]; exact h51) (c := 6) (g := a 51) (k := 47 + a 51) 0 hg (by omega)
  refine z3.guests (by rw [va_up_ne _ _ (by omega), va_up_ne _ _ (by omega), va_up_ne _ _ (by omega)]; exact h37) (by omega) (fun j hj => ?_)
  by_cases e : j = a 51
  · subst e
    refine ⟨?_, ?_, ?_⟩
    · simp only [ob_at]
      rw [va_up_ne _ _ (by omega), va_up_ne _ _ (by omega), va_up_self]
      simp
    · simp only [ob_at]
      rw [va_up_ne _ _ (by omega), va_up_self]
      simp
    · simp only [ob_at]
      rw [va_up_self]
      simp
  · exact z3.2.2.2.2.2.2.2 j (by rw [va_up_ne _ _ (by omega), va_up_ne _ _ (by omega), va_up_ne _ _ (by omega)]; omega)
theorem T_hire {X : Wd} {M : Ob} (h : Cpl X M) (a1 a2 a3 : Int32) : OK X M (f_X6_hire X a1 a2 a3) (f_X7_hire M a1 a2 a3) := by
  obtain ⟨⟨a, hp⟩, -⟩ := id h
  have ⟨w1, w2, w3, w4⟩ := hp
  have h37 := w1.2.2.1
  have z4 := w3.2.2.2.2.1
  have e37 := hp.m (k := 37) (by omega) (by omega)
  unfold f_X6_hire f_X7_hire
  by_cases c1 : Rg a1 4
  · obtain ⟨k, hk, rfl⟩ := c1
    rw [isTrait0_y hk, bd1, in_y hk (by omega) (by decide), bd1]
    by_cases c2 : Rg a2 24
    · obtain ⟨t, ht, rfl⟩ := c2
      rw [isTrait1_y ht, bd1, mHedge_y ht, bd1]
      by_cases c3 : Rg a3 10
      · obtain ⟨p, hq, rfl⟩ := c3
        rw [isTrait2_y hq, bd1, in_y hq (by omega) (by decide), bd1]
        by_cases c4 : a 37 = 4
        · refine OK.same h (-3) ?_ ?_
          · unfold f_X1_addGardener
            rw [z4, c4, if_neg (by decide), Option.bind_some, if_pos rfl, lens_all]
          · rw [e37, c4, if_pos (by decide)]
        · have hg : a 37 < 4 := by omega
          refine OK.page h (r := nI (a 37 + 1)) (z := ob (ob (ob (ob (X 4) 1 (a 37) (nI k)) 2 (a 37) (nI t)) 3 (a 37) (nI p)) 0 4 (nI (a 37 + 1))) (b := addGP a k t p) (M1 := ob (ob (ob (ob M 1 (25 + a 37) (nI k)) 1 (29 + a 37) (nI t)) 1 (33 + a 37) (nI p)) 1 37 (nI (a 37 + 1))) ?_ ?_ (addGP_wf w1 hg hk ht hq) ?_ (addGP_rz w3 w1 hg k t p) ?_ ?_
          · rw [addGardener_ok z4 hg, Option.bind_some, if_neg (show ¬ (1 : Int32) = 0 by decide)]
            rfl
          · rw [e37, if_neg (by rw [show (4 : Int32) = nI 4 from rfl, nI_eq_iff (by omega) (by omega)]; exact c4)]
            simp (disch := omega) only [fa_lit 25, fa_lit 29, fa_lit 33, nI_add, ck_nI, nI_cl]
            have e : ∀ u v w : Int32, ob (ob (ob M 1 (25 + a 37) u) 1 (29 + a 37) v) 1 (33 + a 37) w 1 37 = nI (a 37) := fun u v w => by
              rw [ob_at, if_pos rfl, if_neg (by omega), ob_at, if_pos rfl, if_neg (by omega), ob_at, if_pos rfl, if_neg (by omega)]; exact e37
            rw [e, nI_1]
          · unfold addGP
            rw [va_up_ne _ _ (by omega), va_up_ne _ _ (by omega), va_up_ne _ _ (by omega), va_up_ne _ _ (by omega)]; exact w2
          · exact (((w4.up0 k (by omega) (by omega)).up0 t (by omega) (by omega)).up0 p (by omega) (by omega)).up0 _ (by omega) (by omega)
          · exact (((FrM_ob0 M _ (by omega)).tr (FrM_ob0 _ _ (by omega))).tr (FrM_ob0 _ _ (by omega))).tr (FrM_ob0 _ _ (by omega))
      · rw [isTrait2_n c3, bd0, in_n c3 (by omega) (by decide), bd0]
        exact OK.same h _ rfl rfl
    · rw [isTrait1_n c2, bd0, mHedge_n c2, bd0]
      exact OK.same h _ rfl rfl
  · rw [isTrait0_n c1, bd0, in_n c1 (by omega) (by decide), bd0]
    exact OK.same h _ rfl rfl
theorem T_come {X : Wd} {M : Ob} (h : Cpl X M) (a1 a2 : Int32) : OK X M (f_X6_come X a1 a2) (f_X7_come M a1 a2) := by
  obtain ⟨⟨a, hp⟩, -⟩ := id h
  have ⟨w1, w2, w3, w4⟩ := hp
  have h51 := w1.2.2.2.2.1
  have z8 := w3.2.2.2.2.2.1
  have e51 := hp.m (k := 51) (by omega) (by omega)
  unfold f_X6_come f_X7_come
  by_cases c1 : Rg a1 16
  · obtain ⟨k, hk, rfl⟩ := c1
    rw [isPlot_y hk, bd1, mPlot_y hk, bd1]
    by_cases c3 : Rg a2 61
    · obtain ⟨p, hq, rfl⟩ := c3
      rw [isFood_y hq, bd1, in_y hq (by omega) (by decide), bd1]
      by_cases c4 : a 51 = 4
      · refine OK.same h (-3) ?_ ?_
        · unfold f_X1_addGuest
          rw [z8, c4, if_neg (by decide), Option.bind_some, if_pos rfl, lens_all]
        · rw [e51, c4, if_pos (by decide)]
      · have hg : a 51 < 4 := by omega
        refine OK.page h (r := nI (a 51 + 1)) (z := ob (ob (ob (ob (X 4) 4 (a 51) (nI k)) 5 (a 51) (nI p)) 6 (a 51) 0) 0 8 (nI (a 51 + 1))) (b := addIP a k p) (M1 := ob (ob (ob (ob M 1 (39 + a 51) (nI k)) 1 (43 + a 51) (nI p)) 1 (47 + a 51) (nI 0)) 1 51 (nI (a 51 + 1))) ?_ ?_ (addIP_wf w1 hg hk (by omega)) ?_ (addIP_rz w3 w1 hg k p) ?_ ?_
        · rw [addGuest_ok z8 hg, Option.bind_some, if_neg (show ¬ (1 : Int32) = 0 by decide)]
          rfl
        · rw [e51, if_neg (by rw [show (4 : Int32) = nI 4 from rfl, nI_eq_iff (by omega) (by omega)]; exact c4)]
          simp (disch := omega) only [fa_lit 39, fa_lit 43, fa_lit 47, nI_add, ck_nI, nI_cl]
          have e : ∀ u v w : Int32, ob (ob (ob M 1 (39 + a 51) u) 1 (43 + a 51) v) 1 (47 + a 51) w 1 51 = nI (a 51) := fun u v w => by
            rw [ob_at, if_pos rfl, if_neg (by omega), ob_at, if_pos rfl, if_neg (by omega), ob_at, if_pos rfl, if_neg (by omega)]; exact e51
          rw [e, nI_1]
          rfl
        · unfold addIP
          rw [va_up_ne _ _ (by omega), va_up_ne _ _ (by omega), va_up_ne _ _ (by omega), va_up_ne _ _ (by omega)]; exact w2
        · exact (((w4.up0 k (by omega) (by omega)).up0 p (by omega) (by omega)).up0 0 (by omega) (by omega)).up0 _ (by omega) (by omega)
        · exact (((FrM_ob0 M _ (by omega)).tr (FrM_ob0 _ _ (by omega))).tr (FrM_ob0 _ _ (by omega))).tr (FrM_ob0 _ _ (by omega))
    · rw [isFood_n c3, bd0, in_n c3 (by omega) (by decide), bd0]
      exact OK.same h _ rfl rfl
  · rw [isPlot_n c1, bd0, mPlot_n c1, bd0]
    exact OK.same h _ rfl rfl
theorem T_leave {X : Wd} {M : Ob} (h : Cpl X M) (a1 : Int32) : OK X M (f_X6_leave X a1) (f_X7_leave M a1) := by
  obtain ⟨⟨a, hp⟩, -⟩ := id h
  have ⟨w1, w2, w3, w4⟩ := hp
  have h37 := w1.2.2.1
  have z4 := w3.2.2.2.2.1
  have e37 := hp.m (k := 37) (by omega) (by omega)
  unfold f_X6_leave f_X7_leave
  rw [z4, e37]
  by_cases c1 : Rg a1 (a 37 + 1)
  · obtain ⟨n, hn, rfl⟩ := c1
    rw [gC_y hn (by omega), in_y hn (by omega) (wid (by omega)), Option.bind_some, show (37 : Int32) = nI 37 from rfl, puts_1 M _ (by omega), e37]
    exact OK.page h (z := ob (X 4) 0 4 (nI n)) rfl rfl (w1.up (k := 37) (v := n) (by unfold bnd; omega)) (up52 w2 (by omega)) (w3.many (by omega) (fun j hj => w3.2.2.2.2.2.2.1 j (by omega))) (w4.up0 n (by omega) (by omega)) (FrM_ob0 M _ (by omega))
  · rw [gC_n c1 (by omega), in_n c1 (by omega) (wid (by omega)), Option.bind_some, puts_0]
    exact OK.same h _ rfl rfl
theorem T_open {X : Wd} {M : Ob} (h : Cpl X M) (a1 : Int32) : OK X M (f_X6_open X a1) (f_X7_open M a1) := by
  obtain ⟨⟨a, hp⟩, -⟩ := id h
  have ⟨w1, w2, w3, w4⟩ := hp
  have h37 := w1.2.2.1
  unfold f_X6_open f_X7_open
  by_cases c1 : Rg a1 16
  · obtain ⟨n, hn, rfl⟩ := c1
    rw [isPlot_y hn, bd1, mPlot_y hn, Option.bind_some, show (24 : Int32) = nI 24 from rfl, puts_1 M _ (by omega), hp.m (by omega) (by omega), w3.2.1]
    exact OK.page h (z := ob (X 4) 0 1 (nI n)) rfl rfl (w1.up (k := 24) (v := n) (by unfold bnd; omega)) (up52 w2 (by omega)) (w3.gate h37 n) (w4.up0 n (by omega) (by omega)) (FrM_ob0 M _ (by omega))
  · rw [isPlot_n c1, bd0, mPlot_n c1, Option.bind_some, puts_0]
    exact OK.same h _ rfl rfl
theorem T_bread {X : Wd} {M : Ob} (h : Cpl X M) (a1 a2 : Int32) : OK X M (f_X6_bread X a1 a2) (f_X7_bread M a1 a2) := by
  obtain ⟨⟨a, hp⟩, -⟩ := id h
  have ⟨w1, w2, w3, w4⟩ := hp
  have h37 := w1.2.2.1
  have h51 := w1.2.2.2.2.1
  have z8 := w3.2.2.2.2.2.1
  have e51 := hp.m (k := 51) (by omega) (by omega)
  unfold f_X6_bread f_X7_bread f_X7_bread_b25 f_X7_bread_b26
  by_cases c1 : Rg a1 (a 51)
  · obtain ⟨i, hi, rfl⟩ := c1
    rw [isGuest_y z8 hi h51, bd1, mGuest_y e51 hi h51, bd1]
    by_cases c2 : Rg a2 61
    · obtain ⟨v, hv, rfl⟩ := c2
      rw [isFood_y hv, bd1, in_y hv (by omega) (by decide), bd1, ck_nI (by omega) (by omega), ck_nI (by omega) (by omega), nI_cl (by omega), (w3.2.2.2.2.2.2.2 i hi).2.1, show (43 : Int32) = nI 43 from rfl, nI_add, puts_1 M _ (by omega), hp.m (by omega) (by omega)]
      exact OK.page h (z := ob (X 4) 5 i (nI v)) rfl rfl (w1.up (k := 43 + i) (v := v) (by unfold bnd; omega)) (up52 w2 (by omega)) (w3.cellv h37 h51 v (by omega) (by omega)) (w4.up0 v (by omega) (by omega)) (FrM_ob0 M _ (by omega))
    · rw [isFood_n c2, bd0, in_n c2 (by omega) (by decide), bd0, puts_0]
      exact OK.same h _ rfl rfl
  · rw [isGuest_n z8 c1 h51, bd0, mGuest_n e51 c1 h51, bd0, puts_0]
    exact OK.same h _ rfl rfl
theorem T_move {X : Wd} {M : Ob} (h : Cpl X M) (a1 a2 : Int32) : OK X M (f_X6_move X a1 a2) (f_X7_move M a1 a2) := by
  obtain ⟨⟨a, hp⟩, -⟩ := id h
  have ⟨w1, w2, w3, w4⟩ := hp
  have h37 := w1.2.2.1
  have h51 := w1.2.2.2.2.1
  have z8 := w3.2.2.2.2.2.1
  have e51 := hp.m (k := 51) (by omega) (by omega)
  unfold f_X6_move f_X7_move
  by_cases c1 : Rg a1 (a 51)
  · obtain ⟨i, hi, rfl⟩ := c1
    rw [isGuest_y z8 hi h51, bd1, mGuest_y e51 hi h51, bd1]
    by_cases c2 : Rg a2 16
    · obtain ⟨v, hv, rfl⟩ := c2
      rw [isPlot_y hv, bd1, mPlot_y hv, bd1, ck_nI (by omega) (by omega), ck_nI (by omega) (by omega), ck_nI (by omega) (by omega), nI_cl (by omega), (w3.2.2.2.2.2.2.2 i hi).1]
      have t1 := w3.cellv h37 h51 (c := 4) (g := i) (k := 39 + i) v (by omega) (by omega)
      have t2 := t1.cellv (by rw [va_up_ne _ _ (by omega)]; exact h37) (by rw [va_up_ne _ _ (by omega)]; exact h51) (c := 6) (g := i) (k := 47 + i) 0 (by omega) (by omega)
      have m2 : RM (ob (ob M 1 (47 + i) (nI 0)) 1 (39 + i) (nI v)) 0 (va_up (va_up a (39 + i) v) (47 + i) 0) := by
        have := (w4.up0 (k := 47 + i) 0 (by omega) (by omega)).up0 (k := 39 + i) v (by omega) (by omega)
        rwa [show va_up (va_up a (47 + i) 0) (39 + i) v = va_up (va_up a (39 + i) v) (47 + i) 0 from by
          funext j
          simp only [vn_at]
          by_cases e1 : j = 39 + i
          · rw [if_pos e1, if_neg (by omega), if_pos e1]
          · rw [if_neg e1, if_neg e1]] at this
      refine OK.page h (r := nI (a (39 + i))) (z := ob (ob (X 4) 4 i (nI v)) 6 i (nI 0)) (b := va_up (va_up a (39 + i) v) (47 + i) 0) (M1 := ob (ob M 1 (47 + i) (nI 0)) 1 (39 + i) (nI v)) ?_ ?_ ((w1.up (by unfold bnd; omega)).up (by unfold bnd; omega)) (up52 (up52 w2 (by omega)) (by omega)) t2 m2 ((FrM_ob0 M _ (by omega)).tr (FrM_ob0 _ _ (by omega)))
      · show some (_, wo (va_up X 4 (ob (X 4) 4 i (nI v))) 4 6 i 0) = _
        rw [lens_put]
        rfl
      · rw [show (47 : Int32) = nI 47 from rfl, show (39 : Int32) = nI 39 from rfl, nI_add, nI_add, ck_nI (by omega) (by omega), nI_cl (by omega), puts_1 _ _ (by omega), ob_at, if_pos rfl, if_neg (by omega), hp.m (by omega) (by omega)]
        rfl
    · rw [isPlot_n c2, bd0, mPlot_n c2, bd0]
      exact OK.same h _ rfl rfl
  · rw [isGuest_n z8 c1 h51, bd0, mGuest_n e51 c1 h51, bd0]
    exact OK.same h _ rfl rfl
