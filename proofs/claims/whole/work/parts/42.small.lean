/-! tape, seen, images, sheets, counts -/
theorem nar_byte {n : Nat} (h : n < 128) : vp_nar .byte (nI n).toInt8.toInt32 = nI n := by
  have : ∀ j : Fin 128, vp_nar .byte (nI j.val).toInt8.toInt32 = nI j.val := by decide +kernel
  exact this ⟨n, h⟩
theorem Cpl.tape {X X1 : Wd} {M M1 : Ob} (h : Cpl X M) (h1 : ∀ o, o ≠ 1 → X1 o = X o) (h2 : ∀ c, c ≠ 0 → c ≠ 3 → M1 c = M c) (h3 : ∀ k, k ≠ 5 → M1 0 k = M 0 k) (ht : Tp X1 M1) : Cpl X1 M1 := by
  obtain ⟨⟨a, g1, g2, g3, g4⟩, i1, i2, -, fl, sn, sh, cn⟩ := h
  refine ⟨⟨a, g1, g2, by rw [h1 4 (by omega)]; exact g3, g4.copy (fun i _ => by rw [h2 1 (by omega) (by omega)])⟩, ?_, ?_, ht, ?_, ?_, ?_, ?_⟩
  · exact i1.keep (by rw [h1 0 (by omega)]) (by rw [h2 9 (by omega) (by omega)]) (h1 _ (by omega)) (fun i _ => by rw [h2 1 (by omega) (by omega)])
  · exact i2.keep (by rw [h1 0 (by omega)]) (by rw [h2 9 (by omega) (by omega)]) (h1 _ (by omega)) (fun i _ => by rw [h2 1 (by omega) (by omega)])
  · exact fl.keep (by rw [h1 0 (by omega)]) (by rw [h1 0 (by omega)]) (h3 _ (by omega)) (h3 _ (by omega))
  · exact sn.keep (fun c _ => by rw [h1 2 (by omega)]) (h3 _ (by omega)) (h2 7 (by omega) (by omega))
  · exact fun k hk => (sh k hk).keep (h1 _ (by omega)) (by rw [h2 10 (by omega) (by omega)]) (by rw [h2 11 (by omega) (by omega)]) (fun i _ => by rw [h2 12 (by omega) (by omega)])
  · exact cn.keep (h3 _ (by omega)) (h2 4 (by omega) (by omega)) (h2 5 (by omega) (by omega))
theorem Cpl.seen {X X1 : Wd} {M M1 : Ob} (h : Cpl X M) (h1 : ∀ o, o ≠ 2 → X1 o = X o) (h2 : ∀ c, c ≠ 0 → c ≠ 7 → M1 c = M c) (h3 : ∀ k, k ≠ 18 → M1 0 k = M 0 k) (ht : Sn X1 M1) : Cpl X1 M1 := by
  obtain ⟨⟨a, g1, g2, g3, g4⟩, i1, i2, tp, fl, -, sh, cn⟩ := h
  refine ⟨⟨a, g1, g2, by rw [h1 4 (by omega)]; exact g3, g4.copy (fun i _ => by rw [h2 1 (by omega) (by omega)])⟩, ?_, ?_, ?_, ?_, ht, ?_, ?_⟩
  · exact i1.keep (by rw [h1 0 (by omega)]) (by rw [h2 9 (by omega) (by omega)]) (h1 _ (by omega)) (fun i _ => by rw [h2 1 (by omega) (by omega)])
  · exact i2.keep (by rw [h1 0 (by omega)]) (by rw [h2 9 (by omega) (by omega)]) (h1 _ (by omega)) (fun i _ => by rw [h2 1 (by omega) (by omega)])
  · exact tp.keep (h1 _ (by omega)) (h3 _ (by omega)) (h2 3 (by omega) (by omega))
  · exact fl.keep (by rw [h1 0 (by omega)]) (by rw [h1 0 (by omega)]) (h3 _ (by omega)) (h3 _ (by omega))
  · exact fun k hk => (sh k hk).keep (h1 _ (by omega)) (by rw [h2 10 (by omega) (by omega)]) (by rw [h2 11 (by omega) (by omega)]) (fun i _ => by rw [h2 12 (by omega) (by omega)])
  · exact cn.keep (h3 _ (by omega)) (h2 4 (by omega) (by omega)) (h2 5 (by omega) (by omega))
theorem Cpl.sheet {X X1 : Wd} {M M1 : Ob} (h : Cpl X M) {k : Nat} (hk : k < 4) (h1 : ∀ o, o ≠ 18 + k → X1 o = X o) (h2 : ∀ c, c ≠ 10 → c ≠ 11 → c ≠ 12 → M1 c = M c) (h3 : ∀ j, j < 4 → j ≠ k → M1 10 j = M 10 j ∧ M1 11 j = M 11 j ∧ ∀ i, i < 40 → M1 12 (40 * j + i) = M 12 (40 * j + i)) (ht : Sh X1 M1 k) : Cpl X1 M1 := by
  obtain ⟨⟨a, g1, g2, g3, g4⟩, i1, i2, tp, fl, sn, sh, cn⟩ := h
  have m0 : M1 0 = M 0 := h2 0 (by omega) (by omega) (by omega)
  have m1 : M1 1 = M 1 := h2 1 (by omega) (by omega) (by omega)
  have m9 : M1 9 = M 9 := h2 9 (by omega) (by omega) (by omega)
  refine ⟨⟨a, g1, g2, by rw [h1 4 (by omega)]; exact g3, g4.copy (fun i _ => by rw [m1])⟩, ?_, ?_, ?_, ?_, ?_, ?_, ?_⟩
  · exact i1.keep (by rw [h1 0 (by omega)]) (by rw [m9]) (h1 _ (by omega)) (fun i _ => by rw [m1])
  · exact i2.keep (by rw [h1 0 (by omega)]) (by rw [m9]) (h1 _ (by omega)) (fun i _ => by rw [m1])
  · exact tp.keep (h1 _ (by omega)) (by rw [m0]) (h2 3 (by omega) (by omega) (by omega))
  · exact fl.keep (by rw [h1 0 (by omega)]) (by rw [h1 0 (by omega)]) (by rw [m0]) (by rw [m0])
  · exact sn.keep (fun c _ => by rw [h1 2 (by omega)]) (by rw [m0]) (h2 7 (by omega) (by omega) (by omega))
  · intro j hj
    by_cases e : j = k
    · subst e; exact ht
    · obtain ⟨q1, q2, q3⟩ := h3 j hj e
      exact (sh j hj).keep (h1 _ (by omega)) q1 q2 q3
  · exact cn.keep (by rw [m0]) (h2 4 (by omega) (by omega) (by omega)) (h2 5 (by omega) (by omega) (by omega))
theorem T_feed {X : Wd} {M : Ob} (h : Cpl X M) (a1 : Int32) : OK X M (f_X6_feed X a1) (f_X7_feed M a1) := by
  obtain ⟨t, b, t1, t2, t3, t4⟩ := id h.2.2.2.1
  unfold f_X6_feed f_X7_feed
  rw [show (127 : Int32) = nI 127 from rfl]
  by_cases c : Rg a1 128
  · obtain ⟨k, hk, rfl⟩ := c
    rw [gC_y hk (by omega), in_y hk (by omega) (by decide), bd1]
    unfold f_X3_append
    rw [t2, t3, show (160 : Int32) = nI 160 from rfl]
    by_cases e : t = 160
    · rw [if_neg (by rw [nI_lt_iff (by omega) (by omega)]; omega), if_pos (by rw [e]), Option.bind_some, if_pos rfl, lens_all]
      exact OK.same h _ rfl rfl
    · rw [if_pos (by rw [nI_lt_iff (by omega) (by omega)]; omega), if_neg (by rw [nI_eq_iff (by omega) (by omega)]; exact e), ck_nI (by omega) (by omega), ck_nI (by omega) (by omega), nI_cl (by omega), nar_byte hk, nI_1, Option.bind_some, if_neg (show ¬ (1 : Int32) = 0 by decide)]
      dsimp only
      refine ⟨nI (t + 1), _, _, rfl, rfl, va_up_ne _ _ (by omega), h.tape (fun o ho => va_up_ne _ _ ho) (fun c c1 c2 => ?_) (fun j hj => ?_) ⟨t + 1, fun i => if i = t then k else b i, by omega, ?_, ?_, fun i hi => ?_⟩⟩
      · funext j; rw [ob_at, if_neg c1, ob_at, if_neg c2]
      · rw [ob_at, if_pos rfl, if_neg hj, ob_at, if_neg (by omega)]
      · rw [va_up_self, ob_at, if_pos rfl, if_pos rfl]
      · rw [ob_at, if_pos rfl, if_pos rfl]
      · have e1 : ob (ob (X 1) 1 t (nI k)) 0 1 (nI (t + 1)) 1 i = if i = t then nI k else X 1 1 i := by rw [ob_at, if_neg (by decide), ob_at, if_pos rfl]
        have e2 : ob (ob M 3 t (nI k)) 0 5 (nI (t + 1)) 3 i = if i = t then nI k else M 3 i := by rw [ob_at, if_neg (by decide), ob_at, if_pos rfl]
        rw [va_up_self, e1, e2]
        by_cases q : i = t
        · rw [if_pos q, if_pos q]
          show _ = nI (if i = t then k else b i) ∧ _ = nI (if i = t then k else b i) ∧ (if i = t then k else b i) < 128
          rw [if_pos q]
          exact ⟨rfl, rfl, hk⟩
        · rw [if_neg q, if_neg q]
          show _ = nI (if i = t then k else b i) ∧ _ = nI (if i = t then k else b i) ∧ (if i = t then k else b i) < 128
          rw [if_neg q]
          exact t4 i (by omega)
  · rw [gC_n c (by omega), in_n c (by omega) (by decide), bd0]
    exact OK.same h _ rfl rfl
theorem T_end {X : Wd} {M : Ob} (h : Cpl X M) (a1 : Int32) : OK X M (f_X6_end X a1) (f_X7_end M a1) := by
  obtain ⟨t, b, t1, t2, t3, t4⟩ := id h.2.2.2.1
  unfold f_X6_end f_X7_end
  rw [t2, t3]
  by_cases c : Rg a1 (t + 1)
  · obtain ⟨k, hk, rfl⟩ := c
    rw [gC_y hk (by omega), in_y hk (by omega) (wid (by omega)), bd1]
    refine ⟨_, _, _, rfl, rfl, va_up_ne _ _ (by omega), h.tape (fun o ho => va_up_ne _ _ ho) (fun c c1 c2 => ?_) (fun j hj => ?_) ⟨k, b, by omega, ?_, ?_, fun i hi => ?_⟩⟩
    · funext j; rw [ob_at, if_neg c1]
    · rw [ob_at, if_pos rfl, if_neg hj]
    · unfold wo; rw [va_up_self, ob_at, if_pos rfl, if_pos rfl]
    · rw [ob_at, if_pos rfl, if_pos rfl]
    · unfold wo; rw [va_up_self, ob_at, if_neg (by omega), ob_at, if_neg (by omega)]; exact t4 i (by omega)
  · rw [gC_n c (by omega), in_n c (by omega) (wid (by omega)), bd0]
    exact OK.same h _ rfl rfl
theorem T_forget {X : Wd} {M : Ob} (h : Cpl X M) (a1 : Int32) : OK X M (f_X6_forget X a1) (f_X7_forget M a1) := by
  obtain ⟨s, n, e, v, s1, s2, s3, s4⟩ := id h.2.2.2.2.2.1
  unfold f_X6_forget f_X7_forget
  rw [s2, s3]
  by_cases c : Rg a1 (s + 1)
  · obtain ⟨k, hk, rfl⟩ := c
    rw [gC_y hk (by omega), in_y hk (by omega) (wid (by omega)), bd1]
    refine ⟨_, _, _, rfl, rfl, va_up_ne _ _ (by omega), h.seen (fun o ho => va_up_ne _ _ ho) (fun c c1 c2 => ?_) (fun j hj => ?_) ⟨k, n, e, v, by omega, ?_, ?_, fun i hi => ?_⟩⟩
    · funext j; rw [ob_at, if_neg c1]
    · rw [ob_at, if_pos rfl, if_neg hj]
    · unfold wo; rw [va_up_self, ob_at, if_pos rfl, if_pos rfl]
    · rw [ob_at, if_pos rfl, if_pos rfl]
    · have := s4 i (by omega)
      unfold SnAt at this ⊢
      unfold wo
      rw [va_up_self, ob_at, if_neg (by omega), ob_at, if_neg (by omega), ob_at, if_neg (by omega), ob_at, if_neg (by omega), ob_at, if_neg (by omega), ob_at, if_neg (by omega)]
      exact this
  · rw [gC_n c (by omega), in_n c (by omega) (wid (by omega)), bd0]
    exact OK.same h _ rfl rfl
theorem T_see {X : Wd} {M : Ob} (h : Cpl X M) (a1 a2 a3 : Int32) : OK X M (f_X6_see X a1 a2 a3) (f_X7_see M a1 a2 a3) := by
  obtain ⟨s, n, e, v, s1, s2, s3, s4⟩ := id h.2.2.2.2.2.1
  unfold f_X6_see f_X7_see
  rw [show (20 : Int32) = nI 20 from rfl]
  by_cases c1 : Rg a1 21
  · obtain ⟨k1, hk1, rfl⟩ := c1
    rw [gB_y hk1 (by omega), in_y hk1 (by omega) (by decide), bd1]
    by_cases c2 : Rg a2 24
    · obtain ⟨k2, hk2, rfl⟩ := c2
      rw [isHedge_y hk2, bd1, mHedge_y hk2, bd1]
      by_cases c3 : Rg a3 2
      · obtain ⟨k3, hk3, rfl⟩ := c3
        rw [isBit_y hk3, bd1, in_y hk3 (by omega) (by decide), bd1]
        unfold f_X4_note
        rw [s2, s3, show (6 : Int32) = nI 6 from rfl]
        by_cases q : s = 6
        · rw [if_neg (by rw [nI_lt_iff (by omega) (by omega)]; omega), if_pos (by rw [q]), Option.bind_some, if_pos rfl, lens_all]
          exact OK.same h _ rfl rfl
        · rw [if_pos (by rw [nI_lt_iff (by omega) (by omega)]; omega), if_neg (by rw [nI_eq_iff (by omega) (by omega)]; exact q), ck_nI (by omega) (by omega), ck_nI (by omega) (by omega), ck_nI (by omega) (by omega), nI_cl (by omega), nI_1, Option.bind_some, if_neg (show ¬ (1 : Int32) = 0 by decide), show (3 : Int32) = nI 3 from rfl, nI_mul, nI_1, show (2 : Int32) = nI 2 from rfl, nI_add, ck_nI (by omega) (by omega), ck_nI (by omega) (by omega), ck_nI (by omega) (by omega), nI_cl (by omega), nI_cl (by omega), nI_cl (by omega)]
          dsimp only
          refine ⟨nI (s + 1), _, _, rfl, rfl, va_up_ne _ _ (by omega), h.seen (fun o ho => va_up_ne _ _ ho) (fun c c1 c2 => ?_) (fun j hj => ?_) ⟨s + 1, fun i => if i = s then k1 else n i, fun i => if i = s then k2 else e i, fun i => if i = s then k3 else v i, by omega, ?_, ?_, fun i hi => ?_⟩⟩
          · funext j; rw [ob_at, if_neg c1, ob_at, if_neg c2, ob_at, if_neg c2, ob_at, if_neg c2]
          · rw [ob_at, if_pos rfl, if_neg hj, ob_at, if_neg (by omega), ob_at, if_neg (by omega), ob_at, if_neg (by omega)]
          · rw [va_up_self, ob_at, if_pos rfl, if_pos rfl]
          · rw [ob_at, if_pos rfl, if_pos rfl]
          · unfold SnAt
            rw [va_up_self]
            by_cases p : i = s
            · subst p
              simp only [ob_at, if_true]
              refine ⟨by simp, by simp, by simp, by simp, by simp, by simp, ?_⟩
              exact ⟨by omega, hk2, hk3⟩
            · have := s4 i (by omega)
              unfold SnAt at this
              show _ = nI (if i = s then k1 else n i) ∧ _ = nI (if i = s then k2 else e i) ∧ _ = nI (if i = s then k3 else v i) ∧ _ = nI (if i = s then k1 else n i) ∧ _ = nI (if i = s then k2 else e i) ∧ _ = nI (if i = s then k3 else v i) ∧ (if i = s then k1 else n i) ≤ 20 ∧ (if i = s then k2 else e i) < 24 ∧ (if i = s then k3 else v i) < 2
              rw [if_neg p, if_neg p, if_neg p]
              obtain ⟨r1, r2, r3, r4, r5, r6, r7⟩ := this
              refine ⟨?_, ?_, ?_, ?_, ?_, ?_, r7⟩
              · simp only [ob_at]; simp [p]; exact r1
              · simp only [ob_at]; simp [p]; exact r2
              · simp only [ob_at]; simp [p]; exact r3
              · rw [ob_at, if_neg (by decide), ob_at, if_pos rfl, if_neg (by omega), ob_at, if_pos rfl, if_neg (by omega), ob_at, if_pos rfl, if_neg (by omega)]; exact r4
              · rw [ob_at, if_neg (by decide), ob_at, if_pos rfl, if_neg (by omega), ob_at, if_pos rfl, if_neg (by omega), ob_at, if_pos rfl, if_neg (by omega)]; exact r5
              · rw [ob_at, if_neg (by decide), ob_at, if_pos rfl, if_neg (by omega), ob_at, if_pos rfl, if_neg (by omega), ob_at, if_pos rfl, if_neg (by omega)]; exact r6
      · rw [isBit_n c3, bd0, in_n c3 (by omega) (by decide), bd0]
        exact OK.same h _ rfl rfl
    · rw [isHedge_n c2, bd0, mHedge_n c2, bd0]
      exact OK.same h _ rfl rfl
  · rw [gB_n c1 (by omega), in_n c1 (by omega) (by decide), bd0]
    exact OK.same h _ rfl rfl
theorem ckq_ok {α : Type} {a b : Nat} {k : Option α} (h : a ≠ b) : ckq a b k = k := by unfold ckq; rw [if_neg h]
theorem T_back {X : Wd} {M : Ob} (h : Cpl X M) (a1 : Int32) : OK X M (f_X6_back X a1) (f_X7_back M a1) := by
  obtain ⟨⟨a, hp⟩, i0, i1, -⟩ := id h
  unfold f_X6_back f_X7_back
  by_cases c : Rg a1 2
  · obtain ⟨k, hk, rfl⟩ := c
    have hi : Im X M k := by
      rcases (show k = 0 ∨ k = 1 by omega) with rfl | rfl
      · exact i0
      · exact i1
    rw [isImage_y hk, bd1, in_y hk (by omega) (by decide), bd1, ck_nI hk (by omega), ck_nI hk (by omega), ck_nI hk (by omega), nI_cl (by omega), hi.1]
    by_cases e : M 9 k = 0
    · rw [if_pos e, if_pos e]
      exact OK.same h _ rfl rfl
    · obtain ⟨b, b1, b2, b3, b4⟩ := hi.2 e
      obtain ⟨z, q1, q2⟩ := become_ok (X 4) b3 b1
      obtain ⟨M1, r0, r1, r2⟩ := copies_ok (p := 53 * (k + 1)) (q := 0) (by omega) (by omega) (by omega) M
      have hm := b4.copy r2
      have r0' : f_X7_copies M (nI (53 * (k + 1))) 0 = some M1 := r0
      rw [if_neg e, if_neg e, ckq_ok (by omega), q1, Option.bind_some, nI_1, show (53 : Int32) = nI 53 from rfl, nI_mul, r0', Option.bind_some]
      refine OK.page h (r := nI (b 52)) (z := z) (M1 := M1) ?_ ?_ b1 b2 q2 hm r1.to
      · rw [q2.2.2.2.1]
      · have := hm.2 52 (by omega) (by omega)
        rw [Nat.zero_add] at this
        rw [this]
  · rw [isImage_n c, bd0, in_n c (by omega) (by decide), bd0]
    exact OK.same h _ rfl rfl
theorem T_keep {X : Wd} {M : Ob} (h : Cpl X M) (a1 : Int32) : OK X M (f_X6_keep X a1) (f_X7_keep M a1) := by
  obtain ⟨⟨a, g1, g2, g3, g4⟩, i0, i1, tp, fl, sn, sh, cn⟩ := id h
  unfold f_X6_keep f_X7_keep
  by_cases c : Rg a1 2
  · obtain ⟨k, hk, rfl⟩ := c
    have hi : X 0 1 k = M 9 k := by
      rcases (show k = 0 ∨ k = 1 by omega) with rfl | rfl
      · exact i0.1
      · exact i1.1
    obtain ⟨z, q1, q2⟩ := become_ok (X (16 + k)) g3 g1
    obtain ⟨M1, r0, r1, r2⟩ := copies_ok (p := 0) (q := 53 * (k + 1)) (by omega) (by omega) (by omega) M
    have hm := g4.copy r2
    have r0' : f_X7_copies M 0 (nI (53 * (k + 1))) = some M1 := r0
    have hb : vp_nar .boolean (1 : Int32) = 1 := by decide
    have fin : ∀ y : Int32, OK X M (f_X6_keep_b23 X (nI k) y) (f_X7_keep_b37 M1 (nI k) y) := by
      intro y
      unfold f_X6_keep_b23 f_X7_keep_b37
      rw [ck_nI hk (by omega), nI_cl (by omega), ckq_ok (by omega), q1, Option.bind_some, ck_nI hk (by omega), ck_nI hk (by omega), hb]
      have hne : ∀ o, o ≠ 0 → o ≠ 16 + k → (wo (va_up X (16 + k) z) 0 1 k 1) o = X o := fun o o1 o2 => by
        unfold wo; rw [va_up_ne _ _ o1, va_up_ne _ _ o2]
      have h0 : ∀ c j, ¬ (c = 1 ∧ j = k) → (wo (va_up X (16 + k) z) 0 1 k 1) 0 c j = X 0 c j := fun c j q => by
        unfold wo; rw [va_up_self, ob_at, va_up_ne _ _ (by omega)]
        split
        · rw [if_neg (by omega)]
        · rfl
      have hmne : ∀ c, c ≠ 1 → c ≠ 9 → (ob M1 9 k 1) c = M c := fun c c1 c2 => by
        funext j; rw [ob_at, if_neg c2, r1.1 c c1]
      have hm1 : ∀ j, j < 53 * (k + 1) ∨ 53 * (k + 1) + 53 ≤ j → (ob M1 9 k 1) 1 j = M 1 j := fun j q => by
        rw [ob_at, if_neg (by decide)]; exact r1.2 j q
      have hother : ∀ j, j < 2 → j ≠ k → Im X M j → Im (wo (va_up X (16 + k) z) 0 1 k 1) (ob M1 9 k 1) j := fun j j1 j2 q => q.keep (h0 _ _ (by omega)) (by rw [ob_at, if_pos rfl, if_neg j2, r1.1 9 (by omega)]) (hne _ (by omega) (by omega)) (fun i hi => hm1 _ (by omega))
      have hself : Im (wo (va_up X (16 + k) z) 0 1 k 1) (ob M1 9 k 1) k := by
        refine ⟨?_, fun _ => ⟨a, g1, g2, ?_, hm.copy (fun i _ => by rw [ob_at, if_neg (by decide)])⟩⟩
        · unfold wo; rw [va_up_self, ob_at, if_pos rfl, if_pos rfl, ob_at, if_pos rfl, if_pos rfl]
        · unfold wo; rw [va_up_ne _ _ (by omega), va_up_self]; exact q2
      refine ⟨y, _, _, rfl, rfl, hne 22 (by omega) (by omega), ⟨a, g1, g2, by rw [hne 4 (by omega) (by omega)]; exact g3, g4.copy (fun i hi => hm1 _ (by omega))⟩, ?_, ?_, ?_, ?_, ?_, ?_, ?_⟩
      · by_cases e : 0 = k
        · subst e; exact hself
        · exact hother 0 (by omega) e i0
      · by_cases e : 1 = k
        · subst e; exact hself
        · exact hother 1 (by omega) e i1
      · exact tp.keep (hne 1 (by omega) (by omega)) (by rw [hmne 0 (by omega) (by omega)]) (hmne 3 (by omega) (by omega))
      · exact fl.keep (h0 _ _ (by omega)) (h0 _ _ (by omega)) (by rw [hmne 0 (by omega) (by omega)]) (by rw [hmne 0 (by omega) (by omega)])
      · exact sn.keep (fun c _ => by rw [hne 2 (by omega) (by omega)]) (by rw [hmne 0 (by omega) (by omega)]) (hmne 7 (by omega) (by omega))
      · exact fun j hj => (sh j hj).keep (hne _ (by omega) (by omega)) (by rw [hmne 10 (by omega) (by omega)]) (by rw [hmne 11 (by omega) (by omega)]) (fun i _ => by rw [hmne 12 (by omega) (by omega)])
      · exact cn.keep (by rw [hmne 0 (by omega) (by omega)]) (hmne 4 (by omega) (by omega)) (hmne 5 (by omega) (by omega))
    rw [isImage_y hk, bd1, in_y hk (by omega) (by decide), bd1, ck_nI hk (by omega), nI_cl (by omega), hi, nI_1, show (53 : Int32) = nI 53 from rfl, nI_mul, r0', Option.bind_some, ck_nI hk (by omega), r1.1 9 (by omega)]
    by_cases e : M 9 k = 0
    · rw [if_pos e, if_pos e]; exact fin 0
    · rw [if_neg e, if_neg e]; exact fin 1
  · rw [isImage_n c, bd0, in_n c (by omega) (by decide), bd0]
    exact OK.same h _ rfl rfl
theorem fill_l {n : Nat} (hn : n < 1000) {x : Int32} : ∀ (k fuel : Nat) (r : Nat → Int32), k ≤ n → k < fuel → (∀ i, i < n - k → r i = x) → ∃ r', f_J7_fill_53178_l5 fuel r x (nI (n - k)) (nI n) n = some r' ∧ ∀ i, i < n → r' i = x := by
  intro k
  induction k with
  | zero =>
    intro fuel r hk hf hr
    obtain ⟨fuel, rfl⟩ : ∃ f, fuel = f + 1 := ⟨fuel - 1, by omega⟩
    unfold f_J7_fill_53178_l5
    rw [if_pos (by rw [nI_le_iff (by omega) (by omega)]; omega)]
    exact ⟨r, rfl, fun i hi => hr i (by omega)⟩
  | succ k ih =>
    intro fuel r hk hf hr
    obtain ⟨fuel, rfl⟩ : ∃ f, fuel = f + 1 := ⟨fuel - 1, by omega⟩
    unfold f_J7_fill_53178_l5
    rw [if_neg (by rw [nI_le_iff (by omega) (by omega)]; omega), ck_nI (by omega) (by omega), nI_cl (by omega), nI_1, show n - (k + 1) + 1 = n - k from by omega]
    refine ih fuel _ (by omega) (by omega) (fun i hi => ?_)
    show (if i = n - (k + 1) then x else r i) = x
    split
    · rfl
    · exact hr i (by omega)
theorem fill_ok {n : Nat} (hn : n < 1000) (r : Nat → Int32) (x : Int32) : ∃ r', f_J7_fill_53178 n r x = some r' ∧ ∀ i, i < n → r' i = x := by
  have := fill_l hn (x := x) n FUEL r (Nat.le_refl _) hn (fun i hi => absurd hi (by omega))
  rwa [Nat.sub_self] at this
theorem msheet_l {k : Nat} (hk : k < 4) : ∀ (j fuel : Nat) (M : Ob), j ≤ 40 → j < fuel → (∀ i, i < 40 - j → M 12 (40 * k + i) = 0) → ∃ M1, f_X7_sheet_l56 fuel M (nI k) (nI (40 - j)) = some (1, M1) ∧ (∀ c, c ≠ 12 → M1 c = M c) ∧ (∀ i, i < 40 → M1 12 (40 * k + i) = 0) ∧ ∀ i, (i < 40 * k ∨ 40 * k + 40 ≤ i) → M1 12 i = M 12 i := by
  intro j
  induction j with
  | zero =>
    intro fuel M hj hf hr
    obtain ⟨fuel, rfl⟩ : ∃ f, fuel = f + 1 := ⟨fuel - 1, by omega⟩
    unfold f_X7_sheet_l56
    rw [if_pos (by rw [show (40 : Int32) = nI 40 from rfl, nI_le_iff (by omega) (by omega)]; omega)]
    exact ⟨M, rfl, fun _ _ => rfl, fun i hi => hr i (by omega), fun _ _ => rfl⟩
  | succ j ih =>
    intro fuel M hj hf hr
    obtain ⟨fuel, rfl⟩ : ∃ f, fuel = f + 1 := ⟨fuel - 1, by omega⟩
    unfold f_X7_sheet_l56
    rw [if_neg (by rw [show (40 : Int32) = nI 40 from rfl, nI_le_iff (by omega) (by omega)]; omega), show (40 : Int32) = nI 40 from rfl, nI_mul, nI_add, ck_nI (by omega) (by omega), nI_cl (by omega), nI_1, show 40 - (j + 1) + 1 = 40 - j from by omega]
    obtain ⟨M1, q1, q2, q3, q4⟩ := ih fuel (ob M 12 (40 * k + (40 - (j + 1))) 0) (by omega) (by omega) (fun i hi => by
      rw [ob_at, if_pos rfl]
      split
      · rfl
      · exact hr i (by omega))
    refine ⟨M1, q1, fun c hc => ?_, q3, fun i hi => ?_⟩
    · rw [q2 c hc]; funext i; rw [ob_at, if_neg hc]
    · rw [q4 i hi, ob_at, if_pos rfl, if_neg (by omega)]
theorem T_sheet {X : Wd} {M : Ob} (h : Cpl X M) (a1 a2 a3 : Int32) : OK X M (f_X6_sheet X a1 a2 a3) (f_X7_sheet M a1 a2 a3) := by
  unfold f_X6_sheet f_X7_sheet
  by_cases c1 : Rg a1 4
  · obtain ⟨k, hk, rfl⟩ := c1
    rw [isSheet_y hk, bd1, in_y hk (by omega) (by decide), bd1]
    by_cases c2 : Rg a2 3
    · obtain ⟨l, hl, rfl⟩ := c2
      rw [isLane_y hl, bd1, in_y hl (by omega) (by decide), bd1]
      by_cases c3 : a3 ≤ 40
      · rw [if_pos c3, if_pos c3]
        by_cases c4 : 0 ≤ a3
        · obtain ⟨n, hn, rfl⟩ := nI_of (x := a3) (fun q => (fa_of_lt q).2.1 c4)
          have hn2 : n ≤ 40 := by
            rw [show (40 : Int32) = nI 40 from rfl, nI_le_iff (by omega) (by omega)] at c3
            exact c3
          rw [if_pos c4, if_pos c4, ck_nI hk (by omega), ck_nI hk (by omega), ck_nI hk (by omega), nI_cl (by omega)]
          unfold f_X5_renew
          obtain ⟨r, f1, f2⟩ := fill_ok (n := 40) (by omega) ((ob (ob (ob (X (18 + k)) 0 0 (1 : Int32)) 0 1 (nI l)) 0 2 (nI n)) 1) 0
          rw [f1, Option.bind_some, Option.bind_some]
          obtain ⟨M1, q1, q2, q3, q4⟩ := msheet_l hk 40 FUEL (ob (ob M 10 k (nI l)) 11 k (nI n)) (by omega) (by unfold FUEL; omega) (fun i hi => absurd hi (by omega))
          have q1' : f_X7_sheet_l56 FUEL (ob (ob M 10 k (nI l)) 11 k (nI n)) (nI k) 0 = some (1, M1) := q1
          rw [q1']
          refine ⟨1, _, M1, rfl, rfl, va_up_ne _ _ (by omega), h.sheet hk (fun o ho => va_up_ne _ _ ho) (fun c e1 e2 e3 => ?_) (fun j j1 j2 => ⟨?_, ?_, fun i hi => ?_⟩) (Or.inr ⟨?_, l, n, hl, hn2, ?_, ?_, ?_, ?_, fun i hi => ?_⟩)⟩
          · rw [q2 c e3]; funext i; rw [ob_at, if_neg e2, ob_at, if_neg e1]
          · rw [q2 10 (by omega), ob_at, if_neg (by omega), ob_at, if_pos rfl, if_neg j2]
          · rw [q2 11 (by omega), ob_at, if_pos rfl, if_neg j2, ob_at, if_neg (by omega)]
          · rw [q4 _ (by omega), ob_at, if_neg (by omega), ob_at, if_neg (by omega)]
          · rw [va_up_self, va_up_ne _ _ (by omega)]; simp [ob_at]
          · rw [va_up_self, va_up_ne _ _ (by omega)]; simp [ob_at]
          · rw [q2 10 (by omega)]; simp [ob_at]
          · rw [va_up_self, va_up_ne _ _ (by omega)]; simp [ob_at]
          · rw [q2 11 (by omega)]; simp [ob_at]
          · rw [va_up_self, va_up_self, f2 i (by omega), q3 i (by omega)]
        · rw [if_neg c4, if_neg c4]
          exact OK.same h _ rfl rfl
      · rw [if_neg c3, if_neg c3]
        exact OK.same h _ rfl rfl
    · rw [isLane_n c2, bd0, in_n c2 (by omega) (by decide), bd0]
      exact OK.same h _ rfl rfl
  · rw [isSheet_n c1, bd0, in_n c1 (by omega) (by decide), bd0]
    exact OK.same h _ rfl rfl
theorem byte_sh (x : Int32) : x.toInt8.toInt32 = (x <<< ((24 : Int32) &&& 31)) >>> ((24 : Int32) &&& 31) := by
  apply b_ext
  intro i hi
  rw [show ((24 : Int32) &&& 31) = (nI 24 &&& 31) from rfl, b_sshr 24 (by omega) _ hi, b_shl 24 (by omega) _ (show 31 < 32 by omega)]
  have e : bt (x.toInt8.toInt32) i = bt x (if i < 8 then i else 7) := by
    unfold bt
    show ((x.toBitVec.signExtend 8).signExtend 32).getLsbD i = _
    rw [BitVec.getLsbD_signExtend]
    by_cases c : i < 8
    · rw [if_pos c, BitVec.getLsbD_signExtend, if_pos (by omega), if_pos c]
      simp [hi, c]
    · rw [if_neg c, BitVec.msb_eq_getLsbD_last, BitVec.getLsbD_signExtend, if_pos (by omega), if_neg c]
      simp [hi]
  rw [e]
  by_cases c : 24 + i < 32
  · rw [if_pos c, b_shl 24 (by omega) _ c, if_pos (by omega)]
    simp [show 24 + i - 24 = i from by omega]
  · rw [if_neg c, if_neg (by omega)]
    simp
theorem short_sh (x : Int32) : x.toInt16.toInt32 = (x <<< ((16 : Int32) &&& 31)) >>> ((16 : Int32) &&& 31) := by
  apply b_ext
  intro i hi
  rw [show ((16 : Int32) &&& 31) = (nI 16 &&& 31) from rfl, b_sshr 16 (by omega) _ hi, b_shl 16 (by omega) _ (show 31 < 32 by omega)]
  have e : bt (x.toInt16.toInt32) i = bt x (if i < 16 then i else 15) := by
    unfold bt
    show ((x.toBitVec.signExtend 16).signExtend 32).getLsbD i = _
    rw [BitVec.getLsbD_signExtend]
    by_cases c : i < 16
    · rw [if_pos c, BitVec.getLsbD_signExtend, if_pos (by omega), if_pos c]
      simp [hi, c]
    · rw [if_neg c, BitVec.msb_eq_getLsbD_last, BitVec.getLsbD_signExtend, if_pos (by omega), if_neg c]
      simp [hi]
  rw [e]
  by_cases c : 16 + i < 32
  · rw [if_pos c, b_shl 16 (by omega) _ c, if_pos (by omega)]
    simp [show 16 + i - 16 = i from by omega]
  · rw [if_neg c, if_neg (by omega)]
    simp
theorem T_lay {X : Wd} {M : Ob} (h : Cpl X M) (a1 a2 a3 : Int32) : OK X M (f_X6_lay X a1 a2 a3) (f_X7_lay M a1 a2 a3) := by
  unfold f_X6_lay f_X7_lay
  by_cases c1 : Rg a1 4
  · obtain ⟨k, hk, rfl⟩ := c1
    rw [isSheet_y hk, bd1, in_y hk (by omega) (by decide), bd1, ck_nI hk (by omega), ck_nI hk (by omega), ck_nI hk (by omega), ck_nI hk (by omega), ck_nI hk (by omega), nI_cl (by omega)]
    rcases h.2.2.2.2.2.2.1 k hk with ⟨e1, e2⟩ | ⟨e1, l, n, l1, n1, x1, m1, x2, m2, eq⟩
    · unfold f_X5_faultAt
      rw [e1, if_pos rfl, Option.bind_some, if_neg (by decide), e2, if_pos rfl]
      exact OK.same h (-11) rfl rfl
    · unfold f_X5_faultAt f_X5_faultAt_b31
      rw [e1, if_neg (by decide), if_pos rfl, x2, m1, if_neg (show ¬ nI l = -4 from nI_ne_neg (k := 4) (by omega) (by omega) (by omega)), m2]
      by_cases c2 : Rg a2 n
      · obtain ⟨i, hi, rfl⟩ := c2
        rw [if_neg (nI_pos (by omega)), if_pos (by rw [nI_lt_iff (by omega) (by omega)]; exact hi), Option.bind_some, if_pos rfl, in_y hi (by omega) (prd (by omega)), bd1]
        have fin : ∀ y : Int32, OK X M ((f_X5_put_b31 (X (18 + k)) y (nI i)).bind fun q6 => some ((1 : Int32), (va_up X (18 + k) q6))) (f_X7_lay_b99 M y (((40 : Int32) * nI k) + nI i)) := by
          intro y
          unfold f_X5_put_b31 f_X7_lay_b99
          rw [show (40 : Int32) = nI 40 from rfl, nI_mul, nI_add, ck_nI (by omega) (by omega), ck_nI (by omega) (by omega), nI_cl (by omega), nI_cl (by omega), Option.bind_some]
          refine ⟨1, _, _, rfl, rfl, va_up_ne _ _ (by omega), h.sheet hk (fun o ho => va_up_ne _ _ ho) (fun c e1 e2 e3 => ?_) (fun j j1 j2 => ⟨?_, ?_, fun i hi => ?_⟩) (Or.inr ⟨?_, l, n, l1, n1, ?_, ?_, ?_, ?_, fun j hj => ?_⟩)⟩
          · funext i; rw [ob_at, if_neg e3]
          · rw [ob_at, if_neg (by omega)]
          · rw [ob_at, if_neg (by omega)]
          · rw [ob_at, if_pos rfl, if_neg (by omega)]
          · rw [va_up_self, ob_at, if_neg (by omega)]; exact e1
          · rw [va_up_self, ob_at, if_neg (by omega)]; exact x1
          · rw [ob_at, if_neg (by omega)]; exact m1
          · rw [va_up_self, ob_at, if_neg (by omega)]; exact x2
          · rw [ob_at, if_neg (by omega)]; exact m2
          · rw [va_up_self, ob_at, if_pos rfl, ob_at, if_pos rfl]
            by_cases q : j = i
            · rw [if_pos q, if_pos (by omega)]
            · rw [if_neg q, if_neg (by omega)]; exact eq j hj
        unfold f_X5_put
        rw [x1]
        rcases (show l = 0 ∨ l = 1 ∨ l = 2 by omega) with rfl | rfl | rfl
        · have d0 : nI 0 = (0 : Int32) := rfl
          rw [if_pos d0, if_pos d0, byte_sh]; exact fin _
        · have d0 : ¬ nI 1 = (0 : Int32) := by decide
          have d1 : nI 1 = (1 : Int32) := rfl
          rw [if_neg d0, if_pos d1, if_neg d0, if_pos d1, short_sh]; exact fin _
        · have d0 : ¬ nI 2 = (0 : Int32) := by decide
          have d1 : ¬ nI 2 = (1 : Int32) := by decide
          rw [if_neg d0, if_neg d0, if_neg d1, if_neg d1]; exact fin _
      · rw [in_n c2 (by omega) (prd (by omega)), bd0]
        have e : (if a2 < 0 then some (2 : Int32) else if a2 < nI n then some (0 : Int32) else some (2 : Int32)) = some 2 := by
          rcases Rg.no (by omega) c2 with q | q
          · rw [if_pos q]
          · split
            · rfl
            · rw [if_neg (fun q2 => (fa_of_lt q2).2.1 q)]
        rw [e, Option.bind_some, if_neg (by decide)]
        exact OK.same h (-12) rfl rfl
  · rw [isSheet_n c1, bd0, in_n c1 (by omega) (by decide), bd0]
    exact OK.same h _ rfl rfl
/-- a sum over a row -/
def smP (a : Nat → Nat) (b n : Nat) : Nat → Nat → Nat
  | 0, s => s
  | k + 1, s => smP a b n k (s + a (b + (n - (k + 1))))
theorem sumOf_l {r : Nat → Int32} {a : Nat → Nat} {b n : Nat} (hn : n ≤ 4) (hr : ∀ i, i < n → r i = nI (a (b + i))) : ∀ (k fuel s : Nat), k ≤ n → k < fuel → f_X6_sumOf_l4 fuel r (nI n) (nI s) (nI (n - k)) 4 = some (nI (smP a b n k s)) := by
  intro k
  induction k with
  | zero =>
    intro fuel s hk hf
    obtain ⟨fuel, rfl⟩ : ∃ f, fuel = f + 1 := ⟨fuel - 1, by omega⟩
    unfold f_X6_sumOf_l4
    rw [if_pos (by rw [nI_le_iff (by omega) (by omega)]; omega)]
    rfl
  | succ k ih =>
    intro fuel s hk hf
    obtain ⟨fuel, rfl⟩ : ∃ f, fuel = f + 1 := ⟨fuel - 1, by omega⟩
    unfold f_X6_sumOf_l4
    rw [if_neg (by rw [nI_le_iff (by omega) (by omega)]; omega), if_neg (by rw [nI_le_iff (by omega) (by omega)]; omega), ck_nI (by omega) (by omega), nI_cl (by omega), hr _ (by omega), nI_add, nI_1, show n - (k + 1) + 1 = n - k from by omega, ih fuel _ (by omega) (by omega)]
    rfl
theorem mcount_l41 {M : Ob} {a : Nat → Nat} {n : Nat} (hn : n ≤ 4) (h37 : M 1 37 = nI n) (hr : ∀ i, i < n → M 1 (33 + i) = nI (a (33 + i))) {w f : Int32} : ∀ (k fuel s : Nat), k ≤ n → k < fuel → f_X7_count_l41 fuel M w f (nI s) (nI (n - k)) = f_X7_count_l41 1 M w f (nI (smP a 33 n k s)) (nI n) := by
  intro k
  induction k with
  | zero =>
    intro fuel s hk hf
    obtain ⟨fuel, rfl⟩ : ∃ f, fuel = f + 1 := ⟨fuel - 1, by omega⟩
    have e : ∀ g x, f_X7_count_l41 (g + 1) M w f x (nI n) = f_X7_count_l41 1 M w f x (nI n) := fun g x => by
      have hle : nI n ≤ nI n := (nI_le_iff (by omega) (by omega)).mpr (Nat.le_refl _)
      unfold f_X7_count_l41
      rw [h37, if_pos hle, if_pos hle]
    rw [Nat.sub_zero, e]
    rfl
  | succ k ih =>
    intro fuel s hk hf
    obtain ⟨fuel, rfl⟩ : ∃ f, fuel = f + 1 := ⟨fuel - 1, by omega⟩
    rw [show f_X7_count_l41 1 M w f (nI (smP a 33 n (k + 1) s)) (nI n) = f_X7_count_l41 1 M w f (nI (smP a 33 n k (s + a (33 + (n - (k + 1)))))) (nI n) from rfl, ← ih fuel _ (by omega) (by omega)]
    rw [f_X7_count_l41, h37, if_neg (by rw [nI_le_iff (by omega) (by omega)]; omega), show (33 : Int32) = nI 33 from rfl, nI_add, ck_nI (by omega) (by omega), nI_cl (by omega), hr _ (by omega), nI_add, nI_1, show n - (k + 1) + 1 = n - k from by omega]
theorem mcount_l7 {M : Ob} {a : Nat → Nat} {n : Nat} (hn : n ≤ 4) (h51 : M 1 51 = nI n) (hr : ∀ i, i < n → M 1 (43 + i) = nI (a (43 + i))) {w f : Int32} : ∀ (k fuel s : Nat), k ≤ n → k < fuel → f_X7_count_l7 fuel M w (nI s) f (nI (n - k)) = f_X7_count_l41 FUEL M w (nI (smP a 43 n k s)) f 0 := by
  intro k
  induction k with
  | zero =>
    intro fuel s hk hf
    obtain ⟨fuel, rfl⟩ : ∃ f, fuel = f + 1 := ⟨fuel - 1, by omega⟩
    rw [f_X7_count_l7, h51, if_pos (by rw [nI_le_iff (by omega) (by omega)]; omega)]
    rfl
  | succ k ih =>
    intro fuel s hk hf
    obtain ⟨fuel, rfl⟩ : ∃ f, fuel = f + 1 := ⟨fuel - 1, by omega⟩
    rw [f_X7_count_l7, h51, if_neg (by rw [nI_le_iff (by omega) (by omega)]; omega), show (43 : Int32) = nI 43 from rfl, nI_add, ck_nI (by omega) (by omega), nI_cl (by omega), hr _ (by omega), nI_add, nI_1, show n - (k + 1) + 1 = n - k from by omega, ih fuel _ (by omega) (by omega)]
    rfl
theorem T_count {X : Wd} {M : Ob} (h : Cpl X M) (a1 : Int32) : ∃ r, f_X6_count X a1 = some r ∧ f_X7_count M a1 = some r := by
  obtain ⟨⟨a, hp⟩, i0, i1, ⟨t, b, t1, t2, t3, t4⟩, fl, ⟨s, sn, se, sv, s1, s2, s3, s4⟩, sh, cn⟩ := h
  have ⟨w1, w2, w3, w4⟩ := hp
  have h37 := w1.2.2.1
  have h51 := w1.2.2.2.2.1
  have e37 := hp.m (k := 37) (by omega) (by omega)
  have e51 := hp.m (k := 51) (by omega) (by omega)
  have hm : f_X7_count M a1 = f_X7_count_l41 1 M a1 (nI (smP a 43 (a 51) (a 51) 0)) (nI (smP a 33 (a 37) (a 37) 0)) (nI (a 37)) := by
    unfold f_X7_count
    have q1 := mcount_l7 (a := a) (w := a1) (f := 0) h51 e51 (fun i hi => hp.m (by omega) (by omega)) (a 51) FUEL 0 (Nat.le_refl _) (by unfold FUEL; omega)
    have q2 := mcount_l41 (a := a) (w := a1) (f := nI (smP a 43 (a 51) (a 51) 0)) h37 e37 (fun i hi => hp.m (by omega) (by omega)) (a 37) FUEL 0 (Nat.le_refl _) (by unfold FUEL; omega)
    rw [Nat.sub_self] at q1 q2
    rw [← q2]
    exact q1
  rw [hm]
  unfold f_X6_count f_X7_count_l41 f_X6_count_b62 f_X7_count_b131
  rw [e37, if_pos (show nI (a 37) ≤ nI (a 37) from (nI_le_iff (by omega) (by omega)).mpr (Nat.le_refl _))]
  by_cases c0 : a1 = 0
  · rw [if_pos c0, if_pos c0, s2, s3]; exact ⟨_, rfl, rfl⟩
  by_cases c1 : a1 = 1
  · rw [if_neg c0, if_neg c0, if_pos c1, if_pos c1, i0.1, i1.1]
    by_cases p0 : M 9 0 = 0
    · rw [if_pos p0]
      by_cases p1 : M 9 1 = 0
      · rw [if_pos p1]; exact ⟨_, rfl, rfl⟩
      · rw [if_neg p1]; exact ⟨_, rfl, rfl⟩
    · rw [if_neg p0]
      by_cases p1 : M 9 1 = 0
      · rw [if_pos p1]; exact ⟨_, rfl, rfl⟩
      · rw [if_neg p1]; exact ⟨_, rfl, rfl⟩
  rw [if_neg c0, if_neg c0, if_neg c1, if_neg c1]
  by_cases c2 : a1 = 2
  · rw [if_pos c2, if_pos c2, t2, t3]; exact ⟨_, rfl, rfl⟩
  by_cases c3 : a1 = 3
  · rw [if_neg c2, if_neg c2, if_pos c3, if_pos c3]
    rcases sh 0 (by omega) with ⟨e1, e2⟩ | ⟨e1, l, n, l1, n1, x1, m1, x2, m2, -⟩
    · have e1' : X 18 0 0 = 0 := e1
      rw [e1', if_pos rfl, e2, if_pos rfl]; exact ⟨_, rfl, rfl⟩
    · have e1' : X 18 0 0 = 1 := e1
      have x2' : X 18 0 2 = nI n := x2
      rw [e1', if_neg (by decide), m1, if_neg (show ¬ nI l = -4 from nI_ne_neg (k := 4) (by omega) (by omega) (by omega)), x2', m2]; exact ⟨_, rfl, rfl⟩
  rw [if_neg c2, if_neg c2, if_neg c3, if_neg c3]
  by_cases c4 : a1 = 4
  · rw [if_pos c4, if_pos c4, w3.2.2.2.2.2.1]
    unfold f_X6_sumOf
    have q := sumOf_l (r := X 4 5) (a := a) (b := 43) h51 (fun i hi => (w3.2.2.2.2.2.2.2 i hi).2.1) (a 51) FUEL 0 (Nat.le_refl _) (by unfold FUEL; omega)
    rw [Nat.sub_self] at q
    have q' : f_X6_sumOf_l4 FUEL (X 4 5) (nI (a 51)) 0 0 4 = some (nI (smP a 43 (a 51) (a 51) 0)) := q
    rw [q', Option.bind_some]; exact ⟨_, rfl, rfl⟩
  by_cases c5 : a1 = 5
  · rw [if_neg c4, if_neg c4, if_pos c5, if_pos c5, w3.2.2.2.2.1]
    unfold f_X6_sumOf
    have q := sumOf_l (r := X 4 3) (a := a) (b := 33) h37 (fun i hi => (w3.2.2.2.2.2.2.1 i hi).2.2) (a 37) FUEL 0 (Nat.le_refl _) (by unfold FUEL; omega)
    rw [Nat.sub_self] at q
    have q' : f_X6_sumOf_l4 FUEL (X 4 3) (nI (a 37)) 0 0 4 = some (nI (smP a 33 (a 37) (a 37) 0)) := q
    rw [q', Option.bind_some]; exact ⟨_, rfl, rfl⟩
  · rw [if_neg c4, if_neg c4, if_neg c5, if_neg c5]; exact ⟨_, rfl, rfl⟩
