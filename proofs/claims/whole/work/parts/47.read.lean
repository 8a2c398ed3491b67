/-! read: cuts out of a sheet -/
def RdI (M0 : Ob) (a : Nat → Nat) (M : Ob) (H : Nat) : Prop := (∀ c, c ≠ 1 → M c = M0 c) ∧ (∀ k, 53 ≤ k → k < 159 → M 1 k = M0 1 k) ∧ RM M 0 (va_up a 0 H) ∧ RM M 159 a ∧ H < 16777216
theorem read_done {X : Wd} {M0 M : Ob} {a : Nat → Nat} {H : Nat} (hC : Cpl X M0) (hp : Pg X M0 a) (hR : RdI M0 a M H) (by_ r : Int32) : OK X M0 (f_X6_read_b149 X (nI H) by_ r) (f_X7_read_b198 M by_ r) := by
  obtain ⟨m1, m2, m3, m4, m5⟩ := hR
  obtain ⟨g1, g2, g3, g4⟩ := hp
  obtain ⟨-, i0, i1, tp, fl, sn, sh, cn⟩ := hC
  unfold f_X6_read_b149 f_X7_read_b198
  have x0 : ∀ c j, ¬ (c = 0 ∧ j = 11) → (wo (wo X 4 0 0 (nI H)) 0 0 11 by_) 0 c j = X 0 c j := fun c j q => by
    unfold wo
    rw [va_up_self, ob_at, va_up_ne _ _ (by omega)]
    split
    · rw [if_neg (by omega)]
    · rfl
  have x4 : (wo (wo X 4 0 0 (nI H)) 0 0 11 by_) 4 = ob (X 4) 0 0 (nI H) := by
    unfold wo
    rw [va_up_ne _ _ (by omega), va_up_self]
  have xo : ∀ o, o ≠ 0 → o ≠ 4 → (wo (wo X 4 0 0 (nI H)) 0 0 11 by_) o = X o := fun o o1 o2 => by
    unfold wo
    rw [va_up_ne _ _ o1, va_up_ne _ _ o2]
  have n0 : ∀ j, j ≠ 24 → (ob M 0 24 by_) 0 j = M0 0 j := fun j hj => by rw [ob_at, if_pos rfl, if_neg hj, m1 0 (by omega)]
  have nc : ∀ c, c ≠ 0 → c ≠ 1 → (ob M 0 24 by_) c = M0 c := fun c c0 c1 => by funext j; rw [ob_at, if_neg c0, m1 c c1]
  have n1 : ∀ j, (ob M 0 24 by_) 1 j = M 1 j := fun j => by rw [ob_at, if_neg (by decide)]
  refine ⟨r, _, _, rfl, rfl, xo 22 (by omega) (by omega), ⟨va_up a 0 H, g1.up (by unfold bnd; omega), up52 g2 (by omega), by rw [x4]; exact g3.hedges H, m3.copy (fun i _ => n1 _)⟩, ?_, ?_, ?_, ?_, ?_, ?_, ?_⟩
  · exact i0.keep (x0 _ _ (by omega)) (by rw [nc 9 (by omega) (by omega)]) (xo _ (by omega) (by omega)) (fun i hi => by rw [n1]; exact m2 _ (by omega) (by omega))
  · exact i1.keep (x0 _ _ (by omega)) (by rw [nc 9 (by omega) (by omega)]) (xo _ (by omega) (by omega)) (fun i hi => by rw [n1]; exact m2 _ (by omega) (by omega))
  · exact tp.keep (xo _ (by omega) (by omega)) (n0 _ (by omega)) (nc 3 (by omega) (by omega))
  · refine ⟨by rw [x0 _ _ (by omega), n0 _ (by omega)]; exact fl.1, ?_⟩
    unfold wo
    rw [va_up_self, ob_at, if_pos rfl, if_pos rfl, ob_at, if_pos rfl, if_pos rfl]
  · exact sn.keep (fun c _ => by rw [xo 2 (by omega) (by omega)]) (n0 _ (by omega)) (nc 7 (by omega) (by omega))
  · exact fun k hk => (sh k hk).keep (xo _ (by omega) (by omega)) (by rw [nc 10 (by omega) (by omega)]) (by rw [nc 11 (by omega) (by omega)]) (fun i _ => by rw [nc 12 (by omega) (by omega)])
  · exact cn.keep (n0 _ (by omega)) (nc 4 (by omega) (by omega)) (nc 5 (by omega) (by omega))
theorem read_not {X : Wd} {M0 M : Ob} {a : Nat → Nat} {H : Nat} (hC : Cpl X M0) (hp : Pg X M0 a) (hR : RdI M0 a M H) (r : Int32) : OK X M0 (some (r, X)) ((f_X7_copies M 159 0).bind fun q14 => some (r, q14)) := by
  obtain ⟨m1, m2, m3, m4, m5⟩ := hR
  obtain ⟨M1, r0, r1, r2⟩ := copies_ok (p := 159) (q := 0) (by omega) (by omega) (by omega) M
  have r0' : f_X7_copies M 159 0 = some M1 := r0
  have hm := m4.copy r2
  obtain ⟨g1, g2, g3, g4⟩ := hp
  obtain ⟨-, i0, i1, tp, fl, sn, sh, cn⟩ := hC
  rw [r0', Option.bind_some]
  have nc : ∀ c, c ≠ 1 → M1 c = M0 c := fun c c1 => by rw [r1.1 c c1, m1 c c1]
  have nk : ∀ k, 53 ≤ k → k < 159 → M1 1 k = M0 1 k := fun k k1 k2 => by rw [r1.2 k (by omega), m2 k k1 k2]
  refine ⟨r, _, _, rfl, rfl, rfl, ⟨a, g1, g2, g3, hm⟩, ?_, ?_, ?_, ?_, ?_, ?_, ?_⟩
  · exact i0.keep rfl (by rw [nc 9 (by omega)]) rfl (fun i hi => nk _ (by omega) (by omega))
  · exact i1.keep rfl (by rw [nc 9 (by omega)]) rfl (fun i hi => nk _ (by omega) (by omega))
  · exact tp.keep rfl (by rw [nc 0 (by omega)]) (nc 3 (by omega))
  · exact fl.keep rfl rfl (by rw [nc 0 (by omega)]) (by rw [nc 0 (by omega)])
  · exact sn.keep (fun _ _ => rfl) (by rw [nc 0 (by omega)]) (nc 7 (by omega))
  · exact fun k hk => (sh k hk).keep rfl (by rw [nc 10 (by omega)]) (by rw [nc 11 (by omega)]) (fun i _ => by rw [nc 12 (by omega)])
  · exact cn.keep (by rw [nc 0 (by omega)]) (nc 4 (by omega)) (nc 5 (by omega))
theorem in_sum {x y : Int32} {n : Nat} (hn : n < 2147483648) : f_X7_in (x.toInt64 + y.toInt64) 0 ((nI n - 1).toInt64) = some (if 0 ≤ x.toInt + y.toInt ∧ x.toInt + y.toInt < n then 1 else 0) := by
  have r1 := fb_rng x
  have r2 := fb_rng y
  have e : (x.toInt64 + y.toInt64).toInt = x.toInt + y.toInt := by
    rw [fb_addL, Int32.toInt_toInt64, Int32.toInt_toInt64] <;> rw [Int32.toInt_toInt64, Int32.toInt_toInt64] <;> omega
  have p := prd hn
  rw [in_is, e, show (0 : Int64).toInt = 0 from by decide]
  congr 1
  by_cases c : 0 ≤ x.toInt + y.toInt ∧ x.toInt + y.toInt < n
  · rw [if_pos c, if_pos (by omega)]
  · rw [if_neg c, if_neg (by omega)]
/-- grows, on both sides -/
theorem grows_y {M : Ob} {h v : Nat} (hh : h < 24) (hv : v < 2) : f_X7_grows M (nI h) (nI v) = some (M 1 h, ob M 1 h (nI v)) := by
  unfold f_X7_grows f_X7_grows_b23
  rw [mHedge_y hh, bd1, in_y hv (by omega) (by decide), bd1, puts_1 M _ (by omega)]
  rfl
theorem grows_n {M : Ob} {h v : Int32} (q : ¬ (Rg h 24 ∧ Rg v 2)) : f_X7_grows M h v = some (-1, M) := by
  unfold f_X7_grows f_X7_grows_b22 f_X7_grows_b23
  by_cases c1 : Rg h 24
  · obtain ⟨k, hk, rfl⟩ := c1
    have c2 : ¬ Rg v 2 := fun c2 => q ⟨⟨k, hk, rfl⟩, c2⟩
    rw [mHedge_y hk, bd1, in_n c2 (by omega) (by decide), bd0, puts_0]
    rfl
  · rw [mHedge_n c1, bd0, puts_0]
    rfl
theorem fault_y {z : Ob} {l n i : Nat} (z0 : z 0 0 = 1) (z1 : z 0 1 = nI l) (z2 : z 0 2 = nI n) (hn : n ≤ 40) (hi : i < n) : f_X5_faultAt z (nI l) (nI i) = some 0 := by
  unfold f_X5_faultAt
  rw [z0, if_neg (by decide), z1, if_pos rfl, if_neg (nI_pos (by omega)), z2, if_pos ((nI_lt_iff (by omega) (by omega)).mpr hi)]
theorem fault_2 {z : Ob} {l n : Nat} {i : Int32} (z0 : z 0 0 = 1) (z1 : z 0 1 = nI l) (z2 : z 0 2 = nI n) (hn : n ≤ 40) (hi : ¬ Rg i n) : f_X5_faultAt z (nI l) i = some 2 := by
  unfold f_X5_faultAt f_X5_faultAt_b31
  rw [z0, if_neg (by decide), z1, if_pos rfl, z2]
  rcases Rg.no (by omega) hi with q | q
  · rw [if_pos q]
  · split
    · rfl
    · rw [if_neg (fun q2 => (fa_of_lt q2).2.1 q)]
theorem not_Rg {i n : Nat} (h : n ≤ i) (hi : i < 1000) : ¬ Rg (nI i) n := by
  rintro ⟨k, hk, e⟩
  rw [nI_eq_iff (by omega) (by omega)] at e
  omega
theorem read_l {X : Wd} {M0 : Ob} {a : Nat → Nat} (hC : Cpl X M0) (hp : Pg X M0 a) {k l len φ n : Nat} (hk : k < 4) (hl : l < 3) (hlen : len ≤ 40) (hφ : φ < len) (hn : n ≤ 20) (x0 : X (18 + k) 0 0 = 1) (x1 : X (18 + k) 0 1 = nI l) (m1 : M0 10 k = nI l) (x2 : X (18 + k) 0 2 = nI len) (m2 : M0 11 k = nI len) (eq : ∀ i, i < len → X (18 + k) 1 i = M0 12 (40 * k + i)) : ∀ (j fuel fuel' : Nat) (M : Ob) (H : Nat), j ≤ n → j < fuel → 2 * j + 2 < fuel' → RdI M0 a M H → OK X M0 (f_X6_read_l51 fuel X (nI l) (nI φ) (nI n) (nI H) 0 (nI (n - j)) (nI k)) (f_X7_read_l56 fuel' M (nI k) (nI l) (nI φ) (nI n) 0 (nI (n - j)) (nI (2 * (n - j)))) := by
  intro j
  induction j with
  | zero =>
    intro fuel fuel' M H hj hf hf' hR
    obtain ⟨fuel, rfl⟩ : ∃ f, fuel = f + 1 := ⟨fuel - 1, by omega⟩
    obtain ⟨fuel', rfl⟩ : ∃ f, fuel' = f + 1 := ⟨fuel' - 1, by omega⟩
    rw [f_X6_read_l51, f_X7_read_l56, show (2 : Int32) * nI n = nI (2 * n) from nI_mul 2 n, Nat.sub_zero, if_pos (show nI n ≤ nI n from (nI_le_iff (by omega) (by omega)).mpr (Nat.le_refl _)), if_pos (show nI (2 * n) ≤ nI (2 * n) from (nI_le_iff (by omega) (by omega)).mpr (Nat.le_refl _))]
    exact read_done hC hp hR 0 (nI n)
  | succ j ih =>
    intro fuel fuel' M H hj hf hf' hR
    obtain ⟨fuel, rfl⟩ : ∃ f, fuel = f + 1 := ⟨fuel - 1, by omega⟩
    obtain ⟨fuel', rfl⟩ : ∃ f, fuel' = f + 1 + 1 + 1 := ⟨fuel' - 3, by omega⟩
    have ec : n - (j + 1) + 1 = n - j := by omega
    have hcn : n - (j + 1) < n := by omega
    have e10 : M 10 k = nI l := by rw [hR.1 10 (by omega)]; exact m1
    have e11 : M 11 k = nI len := by rw [hR.1 11 (by omega)]; exact m2
    have e12 : M 12 = M0 12 := hR.1 12 (by omega)
    generalize hc0 : n - (j + 1) = c at *
    -- one look of the model
    have look : ∀ (f i : Nat), i < 2 * n → f_X7_read_l56 (f + 1) M (nI k) (nI l) (nI φ) (nI n) 0 (nI c) (nI i) = f_X7_read_b126 (f_X7_read_l56 f) M (nI k) (nI l) (nI φ) (nI n) (nI c) (nI i) (if φ + i < len then 0 else 2) := by
      intro f i hi
      rw [f_X7_read_l56, show (2 : Int32) * nI n = nI (2 * n) from nI_mul 2 n, if_neg (show ¬ nI (2 * n) ≤ nI i by rw [nI_le_iff (by omega) (by omega)]; omega), if_pos rfl, ck_nI hk (by omega), nI_cl (by omega), e10, if_neg (show ¬ nI l = -4 from nI_ne_neg (k := 4) (by omega) (by omega) (by omega)), ck_nI hk (by omega), if_pos rfl, ck_nI hk (by omega), e11, in_sum (by omega), nI_toInt (by omega), nI_toInt (by omega)]
      by_cases q : φ + i < len
      · rw [if_pos (by omega), if_pos q, bd1]
      · rw [if_neg (by omega), if_neg q, bd0]
    have stop : ∀ (f i : Nat), f_X7_read_l56 (f + 1) M (nI k) (nI l) (nI φ) (nI n) 2 (nI c) (nI i) = f_X7_read_b198 M 2 (nI c) := by
      intro f i
      rw [f_X7_read_l56, if_neg (show ¬ (2 : Int32) = 0 by decide)]
      split <;> rfl
    have ex : nI φ + (2 : Int32) * nI c = nI (φ + 2 * c) := by rw [show (2 : Int32) = nI 2 from rfl, nI_mul, nI_add]
    rw [f_X6_read_l51, if_neg (show ¬ nI n ≤ nI c by rw [nI_le_iff (by omega) (by omega)]; omega), nI_cl (show k < 2147483648 by omega), ex, look _ (2 * c) (by omega)]
    unfold f_X5_faultOfPair
    by_cases q0 : φ + 2 * c < len
    · rw [fault_y x0 x1 x2 hlen q0, Option.bind_some, if_pos rfl, if_pos q0]
      unfold f_X7_read_b126
      rw [if_pos rfl, show nI (2 * c) - nI (2 * c) / (2 : Int32) * (2 : Int32) = nI (2 * c % 2) from nI_rem (by omega) (by decide), if_neg (show ¬ nI (2 * c % 2) = (1 : Int32) by rw [show 2 * c % 2 = 0 from by omega]; decide)]
      unfold f_X7_read_b192
      rw [show nI (φ + 2 * c) + (1 : Int32) = nI (φ + 2 * c + 1) from nI_1 _, show nI (2 * c) + (1 : Int32) = nI (2 * c + 1) from nI_1 _, look _ (2 * c + 1) (by omega)]
      unfold f_X7_read_b126
      by_cases q1 : φ + (2 * c + 1) < len
      · rw [if_pos q1, if_pos rfl, fault_y x0 x1 x2 hlen (show φ + 2 * c + 1 < len by omega), Option.bind_some, Option.bind_some, if_pos rfl, ck_nI (by omega) (by omega), ck_nI (by omega) (by omega), nI_cl (by omega), nI_cl (by omega), show nI (2 * c + 1) - nI (2 * c + 1) / (2 : Int32) * (2 : Int32) = nI ((2 * c + 1) % 2) from nI_rem (by omega) (by decide), if_pos (show nI ((2 * c + 1) % 2) = (1 : Int32) by rw [show (2 * c + 1) % 2 = 1 from by omega]; rfl)]
        rw [show (40 : Int32) * nI k + nI φ + nI (2 * c + 1) = nI (40 * k + φ + (2 * c + 1)) from by rw [show (40 : Int32) = nI 40 from rfl, nI_mul, nI_add, nI_add], show nI (40 * k + φ + (2 * c + 1)) - (1 : Int32) = nI (40 * k + (φ + 2 * c)) from by rw [show 40 * k + φ + (2 * c + 1) = (40 * k + (φ + 2 * c)) + 1 from by omega]; exact nI_pred _, ck_nI (by omega) (by omega), ck_nI (by omega) (by omega), nI_cl (by omega), nI_cl (by omega), e12, ← eq _ q0, show 40 * k + φ + (2 * c + 1) = 40 * k + (φ + 2 * c + 1) from by omega, ← eq (φ + 2 * c + 1) (by omega)]
        by_cases q : Rg (X (18 + k) 1 (φ + 2 * c)) 24 ∧ Rg (X (18 + k) 1 (φ + 2 * c + 1)) 2
        · obtain ⟨⟨u, hu, eu⟩, v, hv, ev⟩ := q
          rw [eu, ev, isHedge_y hu, bd1, isBit_y hv, bd1, with_ok hv hu, Option.bind_some, grows_y hu hv, Option.bind_some]
          have em : M 1 u = nI (hbt H u) := by
            have := hR.2.2.1.1 u hu
            rwa [Nat.zero_add, va_up_self] at this
          have hb := hbt_lt H u
          rw [if_pos (show (0 : Int32) ≤ (M 1 u, ob M 1 u (nI v)).1 by show (0 : Int32) ≤ M 1 u; rw [em]; exact nI_pos' (by omega)), nI_1, f_X7_read_b192, nI_1, ec, show 2 * c + 1 + 1 = 2 * (n - j) from by omega]
          refine ih fuel (fuel' + 1) (ob M 1 u (nI v)) (setb H u v) (by omega) (by omega) (by omega) ⟨fun c c1 => ?_, fun k k1 k2 => ?_, ?_, ?_, setb_lt hR.2.2.2.2 hu⟩
          · funext i; rw [ob_at, if_neg c1]; exact congrFun (hR.1 c c1) i
          · rw [ob_at, if_pos rfl, if_neg (by omega)]; exact hR.2.1 k k1 k2
          · have := hR.2.2.1.hedge0 hu hv
            rwa [va_up_self, va_two] at this
          · exact hR.2.2.2.1.copy (fun i hi => by rw [ob_at, if_pos rfl, if_neg (by omega)])
        · rw [grows_n q, Option.bind_some, if_neg (show ¬ (0 : Int32) ≤ ((-1 : Int32), M).1 from by show ¬ (0 : Int32) ≤ -1; decide)]
          have bad : ((f_X6_isHedge (X (18 + k) 1 (φ + 2 * c))).bind fun q13 => if q13 = 0 then (some ((-20 : Int32) - nI c, X)) else ((f_X6_isBit (X (18 + k) 1 (φ + 2 * c + 1))).bind fun q15 => if q15 = 0 then (some ((-20 : Int32) - nI c, X)) else ((f_X2_with (nI H) (X (18 + k) 1 (φ + 2 * c)) (X (18 + k) 1 (φ + 2 * c + 1))).bind fun q17 => (f_X6_read_l51 fuel) X (nI l) (nI φ) (nI n) q17 0 (nI c + (1 : Int32)) (nI k)))) = some ((-20 : Int32) - nI c, X) := by
            by_cases p : Rg (X (18 + k) 1 (φ + 2 * c)) 24
            · have p2 : ¬ Rg (X (18 + k) 1 (φ + 2 * c + 1)) 2 := fun p2 => q ⟨p, p2⟩
              obtain ⟨u, hu, eu⟩ := p
              rw [eu, isHedge_y hu, bd1, isBit_n p2, bd0]
            · rw [isHedge_n p, bd0]
          rw [bad]
          exact read_not hC hp hR _
      · rw [if_neg q1, if_neg (show ¬ (2 : Int32) = 0 by decide), fault_2 x0 x1 x2 hlen (not_Rg (show len ≤ φ + 2 * c + 1 by omega) (by omega)), Option.bind_some, Option.bind_some, if_neg (show ¬ (2 : Int32) = 0 by decide)]
        unfold f_X7_read_b192
        rw [nI_1, stop]
        exact read_done hC hp hR 2 (nI c)
    · rw [fault_2 x0 x1 x2 hlen (not_Rg (show len ≤ φ + 2 * c by omega) (by omega)), Option.bind_some, if_neg (show ¬ (2 : Int32) = 0 by decide), Option.bind_some, if_neg (show ¬ (2 : Int32) = 0 by decide), if_neg q0]
      unfold f_X7_read_b126
      rw [if_neg (show ¬ (2 : Int32) = 0 by decide)]
      unfold f_X7_read_b192
      rw [nI_1, stop]
      exact read_done hC hp hR 2 (nI c)
theorem T_read {X : Wd} {M : Ob} (h : Cpl X M) (a1 a2 a3 a4 : Int32) : OK X M (f_X6_read X a1 a2 a3 a4) (f_X7_read M a1 a2 a3 a4) := by
  obtain ⟨⟨a, hp⟩, -⟩ := id h
  have ⟨w1, w2, w3, w4⟩ := hp
  unfold f_X6_read f_X7_read
  by_cases c1 : Rg a1 4
  · obtain ⟨k, hk, rfl⟩ := c1
    rw [isSheet_y hk, bd1, in_y hk (by omega) (by decide), bd1]
    by_cases c2 : Rg a2 3
    · obtain ⟨ln, hln, rfl⟩ := c2
      rw [isLane_y hln, bd1, in_y hln (by omega) (by decide), bd1]
      by_cases c4 : Rg a4 21
      · obtain ⟨n, hn, rfl⟩ := c4
        obtain ⟨M0, r0, r1, r2⟩ := copies_ok (p := 0) (q := 159) (by omega) (by omega) (by omega) M
        have r0' : f_X7_copies M 0 159 = some M0 := r0
        have e0 : va_up a 0 (a 0) = a := by funext j; rw [vn_at]; split <;> simp_all
        have hRd : RdI M a M0 (a 0) := ⟨r1.1, fun k k1 k2 => r1.2 k (by omega), by rw [e0]; exact w4.copy (fun i hi => r1.2 _ (by omega)), w4.copy r2, w1.1⟩
        rw [show (20 : Int32) = nI 20 from rfl, gC_y hn (by omega), in_y hn (by omega) (by decide), bd1, r0', Option.bind_some, ck_nI hk (by omega), w3.1]
        by_cases n0 : n = 0
        · subst n0
          show OK X M (f_X6_read_l51 (999 + 1) X (nI ln) a3 (nI 0) (nI (a 0)) 0 (nI 0) (nI k)) (f_X7_read_l56 (999 + 1) M0 (nI k) (nI ln) a3 (nI 0) 0 (nI 0) (nI 0))
          rw [f_X6_read_l51, f_X7_read_l56, if_pos (show nI 0 ≤ nI 0 by decide), if_pos (show (2 : Int32) * nI 0 ≤ nI 0 by decide)]
          exact read_done h hp hRd 0 (nI 0)
        · -- a fault at the first look
          have fst : ∀ by_ : Int32, by_ ≠ 0 → f_X5_faultAt (X (18 + k)) (nI ln) a3 = some by_ → (∀ f, f_X7_read_l56 (f + 1) M0 (nI k) (nI ln) a3 (nI n) 0 (nI 0) (nI 0) = f_X7_read_b126 (f_X7_read_l56 f) M0 (nI k) (nI ln) a3 (nI n) (nI 0) (nI 0) by_) → OK X M (f_X6_read_l51 FUEL X (nI ln) a3 (nI n) (nI (a 0)) 0 0 (nI k)) (f_X7_read_l56 FUEL M0 (nI k) (nI ln) a3 (nI n) 0 0 0) := by
            intro by_ hby e1 e2
            show OK X M (f_X6_read_l51 (999 + 1) X (nI ln) a3 (nI n) (nI (a 0)) 0 (nI 0) (nI k)) (f_X7_read_l56 (998 + 1 + 1) M0 (nI k) (nI ln) a3 (nI n) 0 (nI 0) (nI 0))
            rw [f_X6_read_l51, if_neg (show ¬ nI n ≤ nI 0 by rw [nI_le_iff (by omega) (by omega)]; omega), nI_cl (show k < 2147483648 by omega), show a3 + (2 : Int32) * nI 0 = a3 from by rw [show (2 : Int32) * nI 0 = 0 from by decide]; exact Int32.add_zero a3, e2]
            unfold f_X5_faultOfPair
            rw [e1, Option.bind_some, if_neg hby, Option.bind_some, if_neg hby]
            unfold f_X7_read_b126 f_X7_read_b192
            rw [if_neg hby, f_X7_read_l56, if_neg (show ¬ by_ = 0 from hby)]
            have : (if (2 : Int32) * nI n ≤ nI 0 + 1 then f_X7_read_b198 M0 by_ (nI 0) else f_X7_read_b198 M0 by_ (nI 0)) = f_X7_read_b198 M0 by_ (nI 0) := by split <;> rfl
            rw [this]
            exact read_done h hp hRd by_ (nI 0)
          have i2 : ¬ (2 : Int32) * nI n ≤ nI 0 := by
            rw [show (2 : Int32) * nI n = nI (2 * n) from nI_mul 2 n, nI_le_iff (by omega) (by omega)]; omega
          have e10 : M0 10 k = M 10 k := by rw [r1.1 10 (by omega)]
          have e11 : M0 11 k = M 11 k := by rw [r1.1 11 (by omega)]
          rcases h.2.2.2.2.2.2.1 k hk with ⟨e1, e2⟩ | ⟨e1, l, len, l1, n1, x1, m1, x2, m2, eq⟩
          · refine fst 1 (by decide) (by unfold f_X5_faultAt; rw [e1, if_pos rfl]) (fun f => ?_)
            rw [f_X7_read_l56, if_neg i2, if_pos rfl, ck_nI hk (by omega), nI_cl (by omega), e10, e2, if_pos rfl]
          · by_cases d : l = ln
            · subst d
              by_cases c3 : Rg a3 len
              · obtain ⟨φ, hφ, rfl⟩ := c3
                have := read_l h hp hk l1 n1 hφ (show n ≤ 20 by omega) e1 x1 m1 x2 m2 eq n FUEL FUEL M0 (a 0) (Nat.le_refl _) (by unfold FUEL; omega) (by unfold FUEL; omega) hRd
                rw [Nat.sub_self] at this
                exact this
              · refine fst 2 (by decide) (fault_2 e1 x1 x2 n1 c3) (fun f => ?_)
                rw [f_X7_read_l56, if_neg i2, if_pos rfl, ck_nI hk (by omega), nI_cl (by omega), e10, m1, if_neg (show ¬ nI l = -4 from nI_ne_neg (k := 4) (by omega) (by omega) (by omega)), ck_nI hk (by omega), if_pos rfl, ck_nI hk (by omega), e11, m2, in_sum (by omega), if_neg, bd0]
                rw [nI_toInt (by omega)]
                rcases Rg.no (by omega) c3 with p | p
                · rw [fa_lt, show (0 : Int32).toInt = 0 from by decide] at p; omega
                · rw [fa_le, nI_toInt (by omega)] at p; omega
            · have d2 : ¬ nI ln = nI l := by rw [nI_eq_iff (by omega) (by omega)]; omega
              have d3 : ¬ nI l = nI ln := by rw [nI_eq_iff (by omega) (by omega)]; omega
              refine fst 3 (by decide) (by unfold f_X5_faultAt; rw [e1, if_neg (by decide), x1, if_neg d2]) (fun f => ?_)
              rw [f_X7_read_l56, if_neg i2, if_pos rfl, ck_nI hk (by omega), nI_cl (by omega), e10, m1, if_neg (show ¬ nI l = -4 from nI_ne_neg (k := 4) (by omega) (by omega) (by omega)), ck_nI hk (by omega), if_neg d3]
      · rw [show (20 : Int32) = nI 20 from rfl, gC_n c4 (by omega), in_n c4 (by omega) (by decide), bd0]
        exact OK.same h _ rfl rfl
    · rw [isLane_n c2, bd0, in_n c2 (by omega) (by decide), bd0]
      exact OK.same h _ rfl rfl
  · rw [isSheet_n c1, bd0, in_n c1 (by omega) (by decide), bd0]
    exact OK.same h _ rfl rfl
