/-! drift -/
theorem m15 : ∀ i, i < 32 → bt (32767 : Int32) i = decide (i < 15) := by decide +kernel
theorem and15 (y : Int32) : y &&& 32767 = nI (y.toBitVec.toNat % 2 ^ 15) := by
  apply b_ext
  intro i hi
  rw [b_and, m15 i hi, bt_nI, Nat.testBit_mod_two_pow, BitVec.testBit_toNat]
  unfold bt
  by_cases c : i < 15
  · simp [c, hi]
  · simp [c]
def gotN (x : Int32) : Nat := (x >>> ((16 : Int32) &&& 31)).toBitVec.toNat % 2 ^ 15 % 24
theorem gotN_lt (x : Int32) : gotN x < 24 := Nat.mod_lt _ (by decide)
theorem rem24 {k : Nat} (h : k < 2147483648) : nI k - nI k / (24 : Int32) * (24 : Int32) = nI (k % 24) := nI_rem (b := 24) h (by decide)
theorem got7 (x : Int32) : ((x >>> ((16 : Int32) &&& 31)) &&& (32767 : Int32)) - ((x >>> ((16 : Int32) &&& 31)) &&& (32767 : Int32)) / (24 : Int32) * (24 : Int32) = nI (gotN x) := by
  rw [and15, rem24 (Nat.lt_of_lt_of_le (Nat.mod_lt _ (by decide)) (by decide))]
  rfl
theorem got67 (x : Int32) : ((x.toUInt32 >>> ((16 : Int32).toUInt32 &&& Int32.toUInt32 31)).toInt32) &&& (32767 : Int32) = (x >>> ((16 : Int32) &&& 31)) &&& (32767 : Int32) := by
  apply b_ext
  intro i hi
  rw [b_and, b_and, m15 i hi, show ((16 : Int32) &&& 31) = (nI 16 &&& 31) from rfl, b_sshr 16 (by omega) x hi, show (16 : Int32).toUInt32 = (nI 16).toUInt32 from rfl, b_ushr 16 (by omega)]
  by_cases c : i < 15
  · rw [if_pos (by omega)]
  · simp [c]
def drP : Nat → Int32 → (Nat → Nat) → Nat → Nat
  | 0, _, b => b
  | k + 1, x, b => drP k (x * 1103515245 + 12345) (dayP 9 false (va_up b 0 (setb (b 0) (gotN (x * 1103515245 + 12345)) (1 - hbt (b 0) (gotN (x * 1103515245 + 12345))))))
def drE (w : Int32) (b : Nat → Nat) : Int32 := if w = 0 then nI (outP b) else nI (pcb 24 (b 0))
theorem drift6_l {n : Nat} (hn : n ≤ 60) {w : Int32} : ∀ (k fuel : Nat) (X : Wd) (x : Int32) (b : Nat → Nat), RZ (X 5) b → WF b → b 52 + k ≤ 2000 → k ≤ n → k < fuel → ∃ z, f_X6_drift_l50 fuel X (nI n) w x (nI (n - k)) = some (drE w (drP k x b), va_up X 5 z) := by
  intro k
  induction k with
  | zero =>
    intro fuel X x b hz h hd hk hf
    obtain ⟨fuel, rfl⟩ : ∃ f, fuel = f + 1 := ⟨fuel - 1, by omega⟩
    unfold f_X6_drift_l50 drE drP
    rw [if_pos (show nI n ≤ nI (n - 0) from (nI_le_iff (by omega) (by omega)).mpr (by omega)), hz.1, bitCount_ok h.1, outs_ok hz h, Option.bind_some, Option.bind_some]
    refine ⟨X 5, ?_⟩
    rw [lens_all]
    split <;> rfl
  | succ k ih =>
    intro fuel X x b hz h hd hk hf
    obtain ⟨fuel, rfl⟩ : ∃ f, fuel = f + 1 := ⟨fuel - 1, by omega⟩
    have hg := gotN_lt (x * 1103515245 + 12345)
    have hs := setb_lt (v := 1 - hbt (b 0) (gotN (x * 1103515245 + 12345))) h.1 hg
    unfold f_X6_drift_l50
    rw [if_neg (show ¬ nI n ≤ nI (n - (k + 1)) by rw [nI_le_iff (by omega) (by omega)]; omega), got67, got7, hz.1, changed_ok h.1 hg, Option.bind_some]
    obtain ⟨z1, p1, p2, p3⟩ := passDays_ok (n := 1) (by omega) (hz.hedges (setb (b 0) (gotN (x * 1103515245 + 12345)) (1 - hbt (b 0) (gotN (x * 1103515245 + 12345))))) (h.up (by unfold bnd; omega)) (by rw [va_up_ne _ _ (by omega)]; omega)
    have p1' : f_X1_passDays (ob (X 5) 0 0 (nI (setb (b 0) (gotN (x * 1103515245 + 12345)) (1 - hbt (b 0) (gotN (x * 1103515245 + 12345)))))) 1 = some z1 := p1
    rw [p1', Option.bind_some, nI_1, show n - (k + 1) + 1 = n - k from by omega]
    obtain ⟨z, q⟩ := ih fuel (va_up (wo X 5 0 0 (nI (setb (b 0) (gotN (x * 1103515245 + 12345)) (1 - hbt (b 0) (gotN (x * 1103515245 + 12345)))))) 5 z1) (x * 1103515245 + 12345) _ (by rw [va_up_self]; exact p2) p3 (by show dayP 9 false _ 52 + k ≤ 2000; rw [dayP_52, va_up_ne _ _ (by omega)]; omega) (by omega) (by omega)
    refine ⟨z, ?_⟩
    rw [q]
    unfold wo
    rw [lens_up, lens_up]
    rfl
theorem drift7_l {n : Nat} (hn : n ≤ 60) {w : Int32} : ∀ (k fuel : Nat) (M : Ob) (x : Int32) (b : Nat → Nat), RM M 212 b → WF b → b 52 + k ≤ 2000 → AW (M 0 16) 9 → k ≤ n → k < fuel → ∃ M1, f_X7_drift_l51 fuel M (nI n) w x (nI (n - k)) = some (drE w (drP k x b), M1) ∧ QM M M1 := by
  intro k
  induction k with
  | zero =>
    intro fuel M x b hm h hd haw hk hf
    obtain ⟨fuel, rfl⟩ : ∃ f, fuel = f + 1 := ⟨fuel - 1, by omega⟩
    unfold f_X7_drift_l51 drE drP
    rw [if_pos (show nI n ≤ nI (n - 0) from (nI_le_iff (by omega) (by omega)).mpr (by omega))]
    refine ⟨M, ?_, QM.rf M⟩
    by_cases c : w = 0
    · rw [if_pos c, if_pos c, show (212 : Int32) = nI 212 from rfl, show (1 : Int32) = nI 1 from rfl, mouts hm (by omega) h]
    · rw [if_neg c, if_neg c, show (212 : Int32) = nI 212 from rfl, standOn_ok hm.1 (by omega) h.1, Option.bind_some, bitsOf_ok h.1, Option.bind_some]
  | succ k ih =>
    intro fuel M x b hm h hd haw hk hf
    obtain ⟨fuel, rfl⟩ : ∃ f, fuel = f + 1 := ⟨fuel - 1, by omega⟩
    have hg := gotN_lt (x * 1103515245 + 12345)
    have hs := setb_lt (v := 1 - hbt (b 0) (gotN (x * 1103515245 + 12345))) h.1 hg
    have hb := hbt_lt (b 0) (gotN (x * 1103515245 + 12345))
    have em : M 1 (212 + gotN (x * 1103515245 + 12345)) = nI (hbt (b 0) (gotN (x * 1103515245 + 12345))) := hm.1 _ hg
    unfold f_X7_drift_l51
    rw [if_neg (show ¬ nI n ≤ nI (n - (k + 1)) by rw [nI_le_iff (by omega) (by omega)]; omega), got7, show (212 : Int32) = nI 212 from rfl, nI_add, ck_nI (by omega) (by omega), ck_nI (by omega) (by omega), nI_cl (by omega), em, show (1 : Int32) - nI (hbt (b 0) (gotN (x * 1103515245 + 12345))) = nI (1 - hbt (b 0) (gotN (x * 1103515245 + 12345))) from nI_sub (a := 1) (by omega)]
    obtain ⟨M1, q1, q2, q3⟩ := dayOn_ok (p := 212) (aw := 9) (by omega) (hm.hedge (v := 1 - hbt (b 0) (gotN (x * 1103515245 + 12345))) hg (by omega)) (h.up (by unfold bnd; omega)) (by rw [va_up_ne _ _ (by omega)]; omega) (by rw [ob_at, if_neg (by decide)]; exact haw) false
    have q1' : f_X7_dayOn (ob M 1 (212 + gotN (x * 1103515245 + 12345)) (nI (1 - hbt (b 0) (gotN (x * 1103515245 + 12345))))) (nI 212) 0 = some M1 := q1
    have qm : QM M M1 := (QM.ob1 M _ (by omega)).tr (q3.q (by omega))
    rw [q1', Option.bind_some, nI_1, show n - (k + 1) + 1 = n - k from by omega]
    obtain ⟨M2, r1, r2⟩ := ih fuel M1 (x * 1103515245 + 12345) _ q2 (dayP_wf (h.up (by unfold bnd; omega)) 9 false) (by rw [dayP_52, va_up_ne _ _ (by omega)]; omega) (by rw [qm.1 16 (by omega)]; exact haw) (by omega) (by omega)
    exact ⟨M2, r1, qm.tr r2⟩
theorem in1_y {k : Nat} (h : k < 61) (h1 : 1 ≤ k) : f_X7_in (nI k).toInt64 1 60 = some 1 := by
  rw [in_is, if_pos]
  rw [Int32.toInt_toInt64, nI_toInt (by omega), show (1 : Int64).toInt = 1 from by decide, show (60 : Int64).toInt = 60 from by decide]
  omega
theorem in1_n {a : Int32} (h : ¬ Rg a 61 ∨ a = nI 0) : f_X7_in a.toInt64 1 60 = some 0 := by
  rw [in_is, if_neg]
  rw [Int32.toInt_toInt64, show (1 : Int64).toInt = 1 from by decide, show (60 : Int64).toInt = 60 from by decide]
  rcases h with h | h
  · rcases Rg.no (by omega) h with c | c
    · rw [fa_lt, show (0 : Int32).toInt = 0 from by decide] at c; omega
    · rw [fa_le, nI_toInt (by omega)] at c; omega
  · rw [h, nI_toInt (by omega)]; omega
theorem T_drift {X : Wd} {M : Ob} (h : Cpl X M) (a1 a2 a3 : Int32) : OK X M (f_X6_drift X a1 a2 a3) (f_X7_drift M a1 a2 a3) := by
  obtain ⟨⟨a, hp⟩, -, -, -, -, -, -, hc⟩ := id h
  have ⟨w1, w2, w3, w4⟩ := hp
  have h51 := w1.2.2.2.2.1
  have z8 := w3.2.2.2.2.2.1
  have e51 := hp.m (k := 51) (by omega) (by omega)
  unfold f_X6_drift f_X7_drift
  by_cases c : Rg a2 61 ∧ a2 ≠ nI 0
  · obtain ⟨⟨n, hn, rfl⟩, c0⟩ := c
    have h1 : 1 ≤ n := Nat.one_le_iff_ne_zero.mpr (fun e => c0 (by rw [e]))
    rw [if_neg (show ¬ nI n < (1 : Int32) by rw [show (1 : Int32) = nI 1 from rfl, nI_lt_iff (by omega) (by omega)]; omega), if_neg (show ¬ (60 : Int32) < nI n by rw [show (60 : Int32) = nI 60 from rfl, nI_lt_iff (by omega) (by omega)]; omega), in1_y hn h1, bd1]
    by_cases c2 : Rg a3 2
    · obtain ⟨k, hk, rfl⟩ := c2
      rw [isBit_y hk, bd1, in_y hk (by omega) (by decide), bd1, z8, e51]
      by_cases c3 : a 51 = 0
      · rw [c3, if_pos (show nI 0 = (0 : Int32) from rfl), if_pos (show nI 0 = (0 : Int32) from rfl)]
        exact OK.same h _ rfl rfl
      · have ne : ¬ nI (a 51) = (0 : Int32) := nI_ne0 (by omega) (by omega)
        rw [if_neg ne, if_neg ne]
        obtain ⟨z0, b1, b2⟩ := become_ok (X 5) w3 w1
        obtain ⟨z1, t1⟩ := drift6_l (n := n) (w := nI k) (by omega) n FUEL (va_up X 5 z0) a1 a (by rw [va_up_self]; exact b2) w1 (by omega) (Nat.le_refl _) (by unfold FUEL; omega)
        obtain ⟨M0, r0, r1, r2⟩ := copies_ok (p := 0) (q := 212) (by omega) (by omega) (by omega) M
        obtain ⟨M1, s0, s1⟩ := drift7_l (n := n) (w := nI k) (by omega) n FUEL M0 a1 a (w4.copy r2) w1 (by omega) (by rw [r1.1 0 (by decide)]; exact Or.inl ⟨rfl, hc.1⟩) (Nat.le_refl _) (by unfold FUEL; omega)
        rw [Nat.sub_self] at t1 s0
        have r0' : f_X7_copies M 0 212 = some M0 := r0
        rw [b1, Option.bind_some, r0', Option.bind_some]
        exact OK.q h t1 s0 ((QX.up z0 (by omega)).tr (QX.up z1 (by omega))) ((r1.q (by omega)).tr s1)
    · rw [isBit_n c2, bd0, in_n c2 (by omega) (by decide), bd0]
      exact OK.same h _ rfl rfl
  · have c' : ¬ Rg a2 61 ∨ a2 = nI 0 := by
      by_cases q : Rg a2 61
      · exact Or.inr (Classical.byContradiction fun q2 => c ⟨q, q2⟩)
      · exact Or.inl q
    rw [in1_n c', bd0]
    refine OK.same h (-1) ?_ rfl
    rcases c' with q | q
    · rcases Rg.no (by omega) q with p | p
      · rw [if_pos (show a2 < (1 : Int32) by rw [fa_lt, show (0 : Int32).toInt = 0 from by decide] at p; rw [fa_lt, show (1 : Int32).toInt = 1 from by decide]; omega)]
      · rw [if_neg (show ¬ a2 < (1 : Int32) by rw [fa_le, nI_toInt (by omega)] at p; rw [fa_lt, show (1 : Int32).toInt = 1 from by decide]; omega), if_pos (show (60 : Int32) < a2 from nI_sl (n := 60) (by omega) p)]
    · rw [if_pos (show a2 < (1 : Int32) by rw [q]; decide)]
