/-! rain by odds -/
theorem lN_ne0 {b : Nat} (h0 : 0 < b) (h : b < 2 ^ 63) : ¬ lN b = 0 := by
  intro e
  have := (pk_lEQ h (show 0 < 2 ^ 63 by decide)).mp e
  omega
theorem cknl_ok {α : Type} {b : Nat} {k : Option α} (h0 : 0 < b) (h : b < 2 ^ 63) : cknl (lN b) k = k := by unfold cknl; rw [if_neg (lN_ne0 h0 h)]
theorem gcd_st (a b : Nat) : Nat.gcd a b = Nat.gcd b (a % b) := by rw [Nat.gcd_comm a b, Nat.gcd_rec b a, Nat.gcd_comm]
theorem mod_half {b r : Nat} (h0 : 0 < r) (h : r < b) : 2 * (b % r) < b := by
  have h1 := Nat.mod_lt b h0
  have h2 := Nat.div_add_mod b r
  have h3 : 1 ≤ b / r := Nat.div_pos (by omega) h0
  have h4 : r * 1 ≤ r * (b / r) := Nat.mul_le_mul_left r h3
  omega
theorem gcd6_0 (fuel : Nat) (a : Int64) (i : Int32) : f_X6_commonDivisor_l9 (fuel + 1) a 0 i = some a := by
  rw [f_X6_commonDivisor_l9, if_pos (show lg_cmp (0 : Int64) 0 = 0 by decide)]
  split <;> rfl
theorem gcd6_1 {fuel i a b : Nat} (hi : i < 100) (h0 : 0 < b) (ha : a < 2 ^ 63) (hb : b < 2 ^ 63) : f_X6_commonDivisor_l9 (fuel + 1) (lN a) (lN b) (nI i) = f_X6_commonDivisor_l9 fuel (lN b) (lN (a % b)) (nI (i + 1)) := by
  rw [f_X6_commonDivisor_l9, if_neg (show ¬ (100 : Int32) ≤ nI i from fun q => absurd ((nI_le_iff (a := 100) (by omega) (by omega)).mp q) (by omega)), if_neg (by rw [cmp_eq]; exact lN_ne0 h0 hb), cknl_ok h0 hb, pk_lRem ha h0 hb, nI_1]
theorem gcd6 : ∀ (j fuel i a b : Nat), b < 2 ^ j → i + 2 * j ≤ 100 → 2 * j < fuel → a < 2 ^ 63 → b < 2 ^ 63 → f_X6_commonDivisor_l9 fuel (lN a) (lN b) (nI i) = some (lN (Nat.gcd a b)) := by
  intro j
  induction j with
  | zero =>
    intro fuel i a b h1 h2 h3 ha hb
    obtain ⟨fuel, rfl⟩ : ∃ f, fuel = f + 1 := ⟨fuel - 1, by omega⟩
    have : b = 0 := by omega
    subst this
    rw [Nat.gcd_zero_right]
    exact gcd6_0 fuel (lN a) (nI i)
  | succ j ih =>
    intro fuel i a b h1 h2 h3 ha hb
    obtain ⟨fuel, rfl⟩ : ∃ f, fuel = f + 1 + 1 := ⟨fuel - 2, by omega⟩
    by_cases z : b = 0
    · subst z
      rw [Nat.gcd_zero_right]
      exact gcd6_0 _ (lN a) (nI i)
    · have r1 := Nat.mod_lt a (show 0 < b by omega)
      rw [gcd6_1 (by omega) (by omega) ha hb, gcd_st a b]
      generalize a % b = r at r1
      by_cases z2 : r = 0
      · subst z2
        rw [Nat.gcd_zero_right]
        exact gcd6_0 _ (lN b) _
      · have r2 := mod_half (show 0 < r by omega) r1
        rw [gcd6_1 (by omega) (by omega) hb (by omega), gcd_st b r]
        exact ih fuel (i + 1 + 1) r (b % r) (by rw [Nat.pow_succ] at h1; omega) (by omega) (by omega) (by omega) (by omega)
def lwE (u d : Int64) (w : Int32) (g : Nat) : Int64 := if w = 0 then u / lN g else d / lN g
theorem gcd7_0 {fuel a : Nat} {u d : Int64} {w : Int32} (h0 : 0 < a) (ha : a < 2 ^ 63) : f_X7_lowest_l6 (fuel + 1) u d w (lN a) 0 = some (lwE u d w a) := by
  rw [f_X7_lowest_l6, if_pos (show lg_cmp (0 : Int64) 0 = 0 by decide), cknl_ok h0 ha, cknl_ok h0 ha]
  unfold lwE
  split <;> rfl
theorem gcd7_1 {fuel a b : Nat} {u d : Int64} {w : Int32} (h0 : 0 < b) (ha : a < 2 ^ 63) (hb : b < 2 ^ 63) : f_X7_lowest_l6 (fuel + 1) u d w (lN a) (lN b) = f_X7_lowest_l6 fuel u d w (lN b) (lN (a % b)) := by
  rw [f_X7_lowest_l6, if_neg (by rw [cmp_eq]; exact lN_ne0 h0 hb), cknl_ok h0 hb, pk_lRem ha h0 hb]
theorem gcd7 {u d : Int64} {w : Int32} : ∀ (j fuel a b : Nat), b < 2 ^ j → 2 * j < fuel → a < 2 ^ 63 → b < 2 ^ 63 → 0 < a + b → f_X7_lowest_l6 fuel u d w (lN a) (lN b) = some (lwE u d w (Nat.gcd a b)) := by
  intro j
  induction j with
  | zero =>
    intro fuel a b h1 h3 ha hb h0
    obtain ⟨fuel, rfl⟩ : ∃ f, fuel = f + 1 := ⟨fuel - 1, by omega⟩
    have : b = 0 := by omega
    subst this
    rw [Nat.gcd_zero_right]
    exact gcd7_0 (by omega) ha
  | succ j ih =>
    intro fuel a b h1 h3 ha hb h0
    obtain ⟨fuel, rfl⟩ : ∃ f, fuel = f + 1 + 1 := ⟨fuel - 2, by omega⟩
    by_cases z : b = 0
    · subst z
      rw [Nat.gcd_zero_right]
      exact gcd7_0 (by omega) ha
    · have r1 := Nat.mod_lt a (show 0 < b by omega)
      rw [gcd7_1 (by omega) ha hb, gcd_st a b]
      generalize a % b = r at r1
      by_cases z2 : r = 0
      · subst z2
        rw [Nat.gcd_zero_right]
        exact gcd7_0 (by omega) hb
      · have r2 := mod_half (show 0 < r by omega) r1
        rw [gcd7_1 (by omega) hb (by omega), gcd_st b r]
        exact ih fuel r (b % r) (by rw [Nat.pow_succ] at h1; omega) (by omega) (by omega) (by omega) (by omega)
/-- the weight of all weathers -/
def wOf (b : Nat → Nat) : Nat := whP (b 51) 1 b (b 51) 0
theorem wOf_lt {b : Nat → Nat} (h : WF b) : wOf b < 16 := whP_lt h.2.2.2.2.1 _ _ (Nat.le_refl _) (by omega)
def wP (v : Nat) (cn : Nat → Nat) : Nat → (Nat → Nat) → Nat
  | 0, b => cn (wOf b)
  | k + 1, b => v * wP v cn k (dayP 9 true b) + (10 - v) * wP v cn k (dayP 9 false b)
theorem wP_le {v : Nat} (hv : v ≤ 10) {cn : Nat → Nat} (hc : ∀ w, w < 16 → cn w ≤ 4) : ∀ (k : Nat) (b : Nat → Nat), WF b → wP v cn k b ≤ 4 * 10 ^ k
  | 0, b, h => by
    have := hc _ (wOf_lt h)
    show cn (wOf b) ≤ 4 * 1
    omega
  | k + 1, b, h => by
    have h1 := wP_le hv hc k (dayP 9 true b) (dayP_wf h 9 true)
    have h2 := wP_le hv hc k (dayP 9 false b) (dayP_wf h 9 false)
    show v * wP v cn k (dayP 9 true b) + (10 - v) * wP v cn k (dayP 9 false b) ≤ _
    have h3 := Nat.mul_le_mul_left v h1
    have h4 := Nat.mul_le_mul_left (10 - v) h2
    have h5 : v * (4 * 10 ^ k) + (10 - v) * (4 * 10 ^ k) = 10 * (4 * 10 ^ k) := by rw [← Nat.add_mul, show v + (10 - v) = 10 from by omega]
    rw [Nat.pow_succ]
    omega
/-- the class -/
theorem rainDay {z : Ob} {a : Nat → Nat} (hz : RZ z a) (h : WF a) : ∃ z', f_X1_passDayOfGuests z = some z' ∧ RZ z' (dayP 9 true a) := by
  have e : dayP 9 true a = va_up (walkP a) 52 (a 52 + 1) := by
    unfold dayP cutsP
    rw [if_pos (Or.inr (Or.inl rfl))]
  rw [e]
  exact guests_day hz h
def FrR (X X1 : Wd) (d : Nat) : Prop := ∀ o, (o ≤ 7 + d ∨ 16 ≤ o) → X1 o = X o
theorem weight_l {v n : Nat} (hv : v ≤ 10) (hn : n ≤ 8) {who : Int32} {cn : Nat → Nat} (hc : ∀ w, w < 16 → cn w ≤ 4) (hw : ∀ w, w < 16 → f_J6_bitCount_0f7a4 (nI w &&& who) = some (nI (cn w))) : ∀ (k fuel d : Nat) (X : Wd) (b : Nat → Nat), d + k = n → RZ (X (7 + d)) b → WF b → b 52 + k ≤ 2000 → k < fuel → ∃ X1, f_X6_weightOfOuts fuel X (nI d) (nI n) (nI v) who = some (lN (wP v cn k b), X1) ∧ FrR X X1 d := by
  intro k
  induction k with
  | zero =>
    intro fuel d X b hd hz h h52 hf
    obtain ⟨fuel, rfl⟩ : ∃ f, fuel = f + 1 := ⟨fuel - 1, by omega⟩
    have hc1 := hc _ (wOf_lt h)
    have hw1 := hw _ (wOf_lt h)
    unfold f_X6_weightOfOuts f_X6_weightOfOuts_b13
    rw [if_pos (show nI n ≤ nI d from (nI_le_iff (by omega) (by omega)).mpr (by omega)), ck_nI (by omega) (by omega), nI_cl (by omega), show (1 : Int32) = nI 1 from rfl, whoIs_ok hz h (by omega), Option.bind_some]
    have hw1' : f_J6_bitCount_0f7a4 (nI (whP (b 51) 1 b (b 51) 0) &&& who) = some (nI (cn (wOf b))) := hw1
    rw [hw1', Option.bind_some, nI_l (by omega)]
    exact ⟨X, rfl, fun _ _ => rfl⟩
  | succ k ih =>
    intro fuel d X b hd hz h h52 hf
    obtain ⟨fuel, rfl⟩ : ∃ f, fuel = f + 1 := ⟨fuel - 1, by omega⟩
    -- the dry day
    have dry : ∀ (Y : Wd) (s : Nat), RZ (Y (7 + d)) b → ∃ X1, f_X6_weightOfOuts_b74 (f_X6_weightOfOuts fuel) Y (nI d) (nI n) (nI v) who (lN s) (nI d) = some (lN (s + (10 - v) * wP v cn k (dayP 9 false b)), X1) ∧ FrR Y X1 d := by
      intro Y s hY
      unfold f_X6_weightOfOuts_b74
      by_cases c : v = 10
      · rw [if_pos (show (10 : Int32) ≤ nI v by rw [c]; decide), show 10 - v = 0 from by omega, Nat.zero_mul, Nat.add_zero]
        exact ⟨Y, rfl, fun _ _ => rfl⟩
      · obtain ⟨z0, b1, b2⟩ := become_ok (Y (7 + (d + 1))) hY h
        obtain ⟨z1, p1, p2, p3⟩ := passDays_ok (n := 1) (by omega) b2 h (by omega)
        have p1' : f_X1_passDays z0 1 = some z1 := p1
        rw [if_neg (show ¬ (10 : Int32) ≤ nI v from fun q => absurd ((nI_le_iff (a := 10) (by omega) (by omega)).mp q) (by omega)), ck_nI (by omega) (by omega), nI_1, nI_cl (by omega), nI_cl (by omega), ckq_ok (by omega), b1, Option.bind_some, p1', Option.bind_some]
        obtain ⟨X1, u1, u2⟩ := ih fuel (d + 1) (va_up (va_up Y (7 + (d + 1)) z0) (7 + (d + 1)) z1) (dayP 9 false b) (by omega) (by rw [va_up_self]; exact p2) p3 (by rw [dayP_52]; omega) (by omega)
        rw [u1, Option.bind_some]
        dsimp only
        rw [show (10 : Int32) - nI v = nI (10 - v) from nI_sub (a := 10) hv, nI_l (by omega), lN_mul, lN_add]
        exact ⟨X1, rfl, fun o ho => by rw [u2 o (by omega), va_up_ne _ _ (by omega), va_up_ne _ _ (by omega)]⟩
    unfold f_X6_weightOfOuts
    rw [if_neg (show ¬ nI n ≤ nI d by rw [nI_le_iff (by omega) (by omega)]; omega), nI_1, if_pos (show nI (d + 1) < (9 : Int32) from (nI_lt_iff (b := 9) (by omega) (by omega)).mpr (by omega)), ck_nI (by omega) (by omega)]
    by_cases c : v = 0
    · rw [if_pos (show nI v ≤ 0 by rw [c]; decide)]
      obtain ⟨X1, u1, u2⟩ := dry X 0 hz
      have u1' : f_X6_weightOfOuts_b74 (f_X6_weightOfOuts fuel) X (nI d) (nI n) (nI v) who 0 (nI d) = some (lN (0 + (10 - v) * wP v cn k (dayP 9 false b)), X1) := u1
      rw [u1']
      refine ⟨X1, ?_, u2⟩
      show _ = some (lN (v * wP v cn k (dayP 9 true b) + (10 - v) * wP v cn k (dayP 9 false b)), X1)
      rw [show v * wP v cn k (dayP 9 true b) = 0 from by rw [c, Nat.zero_mul]]
    · obtain ⟨z0, b1, b2⟩ := become_ok (X (7 + (d + 1))) hz h
      obtain ⟨z1, p1, p2⟩ := rainDay b2 h
      rw [if_neg (show ¬ nI v ≤ 0 from nI_nle (by omega) (by omega)), ck_nI (by omega) (by omega), nI_cl (by omega), nI_cl (by omega), ckq_ok (by omega), b1, Option.bind_some, p1, Option.bind_some]
      obtain ⟨X1, u1, u2⟩ := ih fuel (d + 1) (va_up (va_up X (7 + (d + 1)) z0) (7 + (d + 1)) z1) (dayP 9 true b) (by omega) (by rw [va_up_self]; exact p2) (dayP_wf h 9 true) (by rw [dayP_52]; omega) (by omega)
      rw [u1, Option.bind_some]
      dsimp only
      rw [nI_l (by omega), lN_mul, show (0 : Int64) + lN (v * wP v cn k (dayP 9 true b)) = lN (v * wP v cn k (dayP 9 true b)) from by rw [show (0 : Int64) = lN 0 from rfl, lN_add, Nat.zero_add]]
      have fr : ∀ o, (o ≤ 7 + d ∨ 16 ≤ o) → X1 o = X o := fun o ho => by rw [u2 o (by omega), va_up_ne _ _ (by omega), va_up_ne _ _ (by omega)]
      obtain ⟨X2, v1, v2⟩ := dry X1 (v * wP v cn k (dayP 9 true b)) (by rw [fr _ (by omega)]; exact hz)
      rw [v1]
      exact ⟨X2, rfl, fun o ho => by rw [v2 o ho, fr o ho]⟩
theorem chance_l {n : Nat} (hn : n ≤ 8) {w : Int32} {p : Nat} (hp : p < 2 ^ 63) {X : Wd} : ∀ (k fuel : Nat), k ≤ n → k < fuel → f_X6_chance_l32 fuel X (nI n) w (lN p) (lN (10 ^ (n - k))) (nI (n - k)) = some (lwE (lN p) (lN (10 ^ n)) w (Nat.gcd p (10 ^ n)), X) := by
  have h10 : (10 : Nat) ^ n ≤ 10 ^ 8 := Nat.pow_le_pow_right (by decide) hn
  have h0 : 0 < (10 : Nat) ^ n := Nat.pow_pos (by decide)
  intro k
  induction k with
  | zero =>
    intro fuel hk hf
    obtain ⟨fuel, rfl⟩ : ∃ f, fuel = f + 1 := ⟨fuel - 1, by omega⟩
    have hg : 0 < Nat.gcd p (10 ^ n) := Nat.gcd_pos_of_pos_right p h0
    have hg2 : Nat.gcd p (10 ^ n) ≤ 10 ^ n := Nat.gcd_le_right p h0
    unfold f_X6_chance_l32 f_X6_commonDivisor
    rw [Nat.sub_zero, if_pos (show nI n ≤ nI n from (nI_le_iff (by omega) (by omega)).mpr (Nat.le_refl _)), show (0 : Int32) = nI 0 from rfl, gcd6 27 FUEL 0 p (10 ^ n) (by omega) (by omega) (by unfold FUEL; omega) hp (by omega), Option.bind_some, if_pos (by rw [← show (0 : Int32) = nI 0 from rfl, cmp_gt]; exact (pk_lLT (show 0 < 2 ^ 63 by decide) (by omega)).mpr hg), cknl_ok hg (by omega), cknl_ok hg (by omega)]
    unfold lwE
    rw [← show (0 : Int32) = nI 0 from rfl]
    split <;> rfl
  | succ k ih =>
    intro fuel hk hf
    obtain ⟨fuel, rfl⟩ : ∃ f, fuel = f + 1 := ⟨fuel - 1, by omega⟩
    unfold f_X6_chance_l32
    rw [if_neg (show ¬ nI n ≤ nI (n - (k + 1)) by rw [nI_le_iff (by omega) (by omega)]; omega), show (10 : Int64) = lN 10 from rfl, lN_mul, ← Nat.pow_succ, nI_1, show (n - (k + 1)).succ = n - k from by omega, show n - (k + 1) + 1 = n - k from by omega]
    exact ih fuel (by omega) (by omega)
/-- the model: a weather's days and odds -/
def pgW : Nat → Nat → (Nat → Nat) → Nat → Nat
  | 0, _, b => b
  | j + 1, m, b => pgW j (m / 2) (dayP 9 (decide (m % 2 = 1)) b)
def odW (v : Nat) : Nat → Nat → Nat
  | 0, _ => 1
  | j + 1, m => (if m % 2 = 1 then v else 10 - v) * odW v j (m / 2)
theorem pgW_wf : ∀ (j m : Nat) (b : Nat → Nat), WF b → WF (pgW j m b)
  | 0, _, _, h => h
  | j + 1, m, b, h => pgW_wf j (m / 2) _ (dayP_wf h 9 _)
theorem sm_two (f : Nat → Nat) : ∀ n, fb_sm f (2 * n) = fb_sm (fun q => f (2 * q) + f (2 * q + 1)) n
  | 0 => rfl
  | n + 1 => by
    rw [show 2 * (n + 1) = 2 * n + 1 + 1 from by omega, fb_sm_succ, fb_sm_succ, fb_sm_succ, sm_two f n]
    omega
theorem sm_mul (c : Nat) (f : Nat → Nat) : ∀ n, fb_sm (fun k => c * f k) n = c * fb_sm f n
  | 0 => rfl
  | n + 1 => by rw [fb_sm_succ, fb_sm_succ, sm_mul c f n, Nat.mul_add]
theorem sum_W (v : Nat) (cn : Nat → Nat) : ∀ (n : Nat) (b : Nat → Nat), fb_sm (fun m => odW v n m * cn (wOf (pgW n m b))) (2 ^ n) = wP v cn n b
  | 0, b => by
    show 0 + 1 * cn (wOf b) = cn (wOf b)
    omega
  | n + 1, b => by
    rw [Nat.pow_succ, Nat.mul_comm, sm_two]
    have e : (fun q => odW v (n + 1) (2 * q) * cn (wOf (pgW (n + 1) (2 * q) b)) + odW v (n + 1) (2 * q + 1) * cn (wOf (pgW (n + 1) (2 * q + 1) b))) = (fun q => (10 - v) * (odW v n q * cn (wOf (pgW n q (dayP 9 false b)))) + v * (odW v n q * cn (wOf (pgW n q (dayP 9 true b))))) := by
      funext q
      show (if 2 * q % 2 = 1 then v else 10 - v) * odW v n (2 * q / 2) * cn (wOf (pgW n (2 * q / 2) (dayP 9 (decide (2 * q % 2 = 1)) b))) + (if (2 * q + 1) % 2 = 1 then v else 10 - v) * odW v n ((2 * q + 1) / 2) * cn (wOf (pgW n ((2 * q + 1) / 2) (dayP 9 (decide ((2 * q + 1) % 2 = 1)) b))) = _
      rw [show 2 * q % 2 = 0 from by omega, show 2 * q / 2 = q from by omega, show (2 * q + 1) % 2 = 1 from by omega, show (2 * q + 1) / 2 = q from by omega, if_neg (by omega), if_pos rfl, show decide ((0 : Nat) = 1) = false from rfl, show decide ((1 : Nat) = 1) = true from rfl, Nat.mul_assoc, Nat.mul_assoc]
    rw [e, fb_sm_add, sm_mul, sm_mul, sum_W v cn n, sum_W v cn n]
    show _ = v * wP v cn n (dayP 9 true b) + (10 - v) * wP v cn n (dayP 9 false b)
    omega
theorem rain7_i {v n so : Nat} (hv : v ≤ 10) (hn : n ≤ 8) (hso : so < 256) {x2 x4 : Int32} {cn : Nat → Nat} {up dn : Nat} (he : ∀ (w : Nat) (K : Int32 → Option (Int64 × Ob)), w < 16 → (if x2 = (-4 : Int32) then (f_X7_bitsOf (nI w)).bind K else K ((nI w >>> (x2 &&& 31)) &&& (1 : Int32))) = K (nI (cn w))) (hc : ∀ w, w < 16 → cn w ≤ 4) {k32 : Ob → Int32 → Int32 → Int32 → Int32 → Int64 → Int64 → Int32 → Option (Int64 × Ob)} : ∀ (j fuel : Nat) (M : Ob) (b : Nat → Nat) (o : Nat), RM M 212 b → WF b → b 52 + j ≤ 2000 → AW (M 0 16) 9 → j ≤ n → j < fuel → ∃ M1, f_X7_byRain_l54 k32 fuel M (nI v) x2 (nI n) x4 (lN up) (lN dn) (nI so) (lN o) (nI (n - j)) = k32 M1 (nI v) x2 (nI n) x4 (lN (up + o * odW v j (so >>> (n - j)) * cn (wOf (pgW j (so >>> (n - j)) b)))) (lN dn) (nI (so + 1)) ∧ QM M M1 := by
  intro j
  induction j with
  | zero =>
    intro fuel M b o hm h h52 haw hj hf
    obtain ⟨fuel, rfl⟩ : ∃ f, fuel = f + 1 := ⟨fuel - 1, by omega⟩
    have hc1 := hc _ (wOf_lt h)
    unfold f_X7_byRain_l54 f_X7_byRain_b147
    rw [Nat.sub_zero, if_pos (show nI n ≤ nI n from (nI_le_iff (by omega) (by omega)).mpr (Nat.le_refl _)), show f_X7_guestsOn M 212 1 = some (nI (whP (b 51) 1 b (b 51) 0)) from guestsOn_ok (p := 212) (v := 1) hm (by omega) h (by omega), Option.bind_some]
    have e1 := he (wOf b) (fun y => k32 M (nI v) x2 (nI n) x4 (lN up + lN o * y.toInt64) (lN dn) (nI so + 1)) (wOf_lt h)
    have e1' : (if x2 = (-4 : Int32) then (f_X7_bitsOf (nI (whP (b 51) 1 b (b 51) 0))).bind (fun y => k32 M (nI v) x2 (nI n) x4 (lN up + lN o * y.toInt64) (lN dn) (nI so + 1)) else k32 M (nI v) x2 (nI n) x4 (lN up + lN o * ((nI (whP (b 51) 1 b (b 51) 0) >>> (x2 &&& 31)) &&& (1 : Int32)).toInt64) (lN dn) (nI so + 1)) = k32 M (nI v) x2 (nI n) x4 (lN up + lN o * (nI (cn (wOf b))).toInt64) (lN dn) (nI so + 1) := e1
    rw [e1', nI_l (by omega), lN_mul, lN_add, nI_1]
    refine ⟨M, ?_, QM.rf M⟩
    show _ = k32 M (nI v) x2 (nI n) x4 (lN (up + o * 1 * cn (wOf b))) (lN dn) (nI (so + 1))
    rw [Nat.mul_one]
  | succ j ih =>
    intro fuel M b o hm h h52 haw hj hf
    obtain ⟨fuel, rfl⟩ : ∃ f, fuel = f + 1 := ⟨fuel - 1, by omega⟩
    have hs : so >>> (n - (j + 1)) ≤ so := by rw [Nat.shiftRight_eq_div_pow]; exact Nat.div_le_self _ _
    have e2 : so >>> (n - (j + 1)) / 2 = so >>> (n - j) := by
      rw [show n - j = n - (j + 1) + 1 from by omega, Nat.shiftRight_succ]
    have eb : ((nI so >>> (nI (n - (j + 1)) &&& 31)) &&& (1 : Int32)) = nI (so >>> (n - (j + 1)) % 2) := by
      rw [show (31 : Int32) = nI 31 from rfl, nI_shr (by omega) (by omega), show (1 : Int32) = nI 1 from rfl, fa_and, Nat.and_one_is_mod]
    have go : ∀ (rain : Bool), rain = decide (so >>> (n - (j + 1)) % 2 = 1) → ∃ M1, f_X7_byRain_b95 k32 (f_X7_byRain_l54 k32 fuel) M (nI v) x2 (nI n) x4 (lN up) (lN dn) (nI so) (nI (n - (j + 1))) (if rain then 1 else 0) (lN (if rain then v else 10 - v)) (lN o) = k32 M1 (nI v) x2 (nI n) x4 (lN (up + o * odW v (j + 1) (so >>> (n - (j + 1))) * cn (wOf (pgW (j + 1) (so >>> (n - (j + 1))) b)))) (lN dn) (nI (so + 1)) ∧ QM M M1 := by
      intro rain hr
      obtain ⟨M1, q1, q2, q3⟩ := dayOn_ok (p := 212) (by omega) hm h (by omega) haw rain
      have q1' : f_X7_dayOn M 212 (if rain then 1 else 0) = some M1 := q1
      have qm := q3.q (by omega)
      unfold f_X7_byRain_b95
      rw [q1', Option.bind_some, lN_mul, nI_1, show n - (j + 1) + 1 = n - j from by omega]
      obtain ⟨M2, r1, r2⟩ := ih fuel M1 (dayP 9 rain b) (o * (if rain then v else 10 - v)) q2 (dayP_wf h 9 rain) (by rw [dayP_52]; omega) (by rw [qm.1 16 (by omega)]; exact haw) (by omega) (by omega)
      rw [r1]
      refine ⟨M2, ?_, qm.tr r2⟩
      show _ = k32 M2 (nI v) x2 (nI n) x4 (lN (up + o * ((if so >>> (n - (j + 1)) % 2 = 1 then v else 10 - v) * odW v j (so >>> (n - (j + 1)) / 2)) * cn (wOf (pgW j (so >>> (n - (j + 1)) / 2) (dayP 9 (decide (so >>> (n - (j + 1)) % 2 = 1)) b))))) (lN dn) (nI (so + 1))
      rw [e2, ← hr, ← Nat.mul_assoc]
      have : (if rain = true then v else 10 - v) = (if so >>> (n - (j + 1)) % 2 = 1 then v else 10 - v) := by
        rw [hr]
        by_cases c : so >>> (n - (j + 1)) % 2 = 1
        · simp [c]
        · simp [c]
      rw [this]
    unfold f_X7_byRain_l54 f_X7_byRain_b76
    rw [if_neg (show ¬ nI n ≤ nI (n - (j + 1)) by rw [nI_le_iff (by omega) (by omega)]; omega), eb]
    by_cases c : so >>> (n - (j + 1)) % 2 = 1
    · rw [if_pos (show nI (so >>> (n - (j + 1)) % 2) = (1 : Int32) by rw [c]; rfl), if_neg (show ¬ (1 : Int32) = 0 by decide), nI_l (by omega)]
      exact go true (by simp [c])
    · rw [if_neg (show ¬ nI (so >>> (n - (j + 1)) % 2) = (1 : Int32) by rw [show so >>> (n - (j + 1)) % 2 = 0 from by omega]; decide), if_pos rfl, show (10 : Int32) - nI v = nI (10 - v) from nI_sub (a := 10) hv, nI_l (by omega)]
      exact go false (by simp [c])
theorem rain7_o {v n : Nat} (hv : v ≤ 10) (hn : n ≤ 8) {x2 x4 : Int32} {cn : Nat → Nat} {dn : Nat} {a : Nat → Nat} (w1 : WF a) (w2 : a 52 ≤ 999) (he : ∀ (w : Nat) (K : Int32 → Option (Int64 × Ob)), w < 16 → (if x2 = (-4 : Int32) then (f_X7_bitsOf (nI w)).bind K else K ((nI w >>> (x2 &&& 31)) &&& (1 : Int32))) = K (nI (cn w))) (hc : ∀ w, w < 16 → cn w ≤ 4) : ∀ (k fuel : Nat) (M : Ob), RM M 0 a → AW (M 0 16) 9 → k ≤ 2 ^ n → k < fuel → ∃ M1, f_X7_byRain_l32 fuel M (nI v) x2 (nI n) x4 (lN (fb_sm (fun m => odW v n m * cn (wOf (pgW n m a))) (2 ^ n - k))) (lN dn) (nI (2 ^ n - k)) = ((f_X7_lowest (lN (fb_sm (fun m => odW v n m * cn (wOf (pgW n m a))) (2 ^ n))) (lN dn) x4).bind fun q9 => some (q9, M1)) ∧ QM M M1 := by
  have h2 : (2 : Nat) ^ n ≤ 2 ^ 8 := Nat.pow_le_pow_right (by decide) hn
  have e2 : (1 : Int32) <<< (nI n &&& 31) = nI (2 ^ n) := by
    rw [show (31 : Int32) = nI 31 from rfl, show (1 : Int32) = nI 1 from rfl, nI_shl 1 (by omega), Nat.shiftLeft_eq, Nat.one_mul]
  intro k
  induction k with
  | zero =>
    intro fuel M hm haw hk hf
    obtain ⟨fuel, rfl⟩ : ∃ f, fuel = f + 1 := ⟨fuel - 1, by omega⟩
    rw [f_X7_byRain_l32, e2, Nat.sub_zero, if_pos (show nI (2 ^ n) ≤ nI (2 ^ n) from (nI_le_iff (by omega) (by omega)).mpr (Nat.le_refl _))]
    exact ⟨M, rfl, QM.rf M⟩
  | succ k ih =>
    intro fuel M hm haw hk hf
    obtain ⟨fuel, rfl⟩ : ∃ f, fuel = f + 1 := ⟨fuel - 1, by omega⟩
    obtain ⟨M0, r0, r1, r2⟩ := copies_ok (p := 0) (q := 212) (by omega) (by omega) (by omega) M
    have r0' : f_X7_copies M 0 212 = some M0 := r0
    have qc := r1.q (by omega)
    rw [f_X7_byRain_l32, e2, if_neg (show ¬ nI (2 ^ n) ≤ nI (2 ^ n - (k + 1)) by rw [nI_le_iff (by omega) (by omega)]; omega), r0', Option.bind_some]
    obtain ⟨M1, u1, u2⟩ := rain7_i (so := 2 ^ n - (k + 1)) (x4 := x4) (up := fb_sm (fun m => odW v n m * cn (wOf (pgW n m a))) (2 ^ n - (k + 1))) (dn := dn) hv hn (by omega) he hc (k32 := f_X7_byRain_l32 fuel) n FUEL M0 a 1 (hm.copy r2) w1 (by omega) (by rw [qc.1 16 (by omega)]; exact haw) (Nat.le_refl _) (by unfold FUEL; omega)
    rw [Nat.sub_self] at u1
    have u1' : f_X7_byRain_l54 (f_X7_byRain_l32 fuel) FUEL M0 (nI v) x2 (nI n) x4 (lN (fb_sm (fun m => odW v n m * cn (wOf (pgW n m a))) (2 ^ n - (k + 1)))) (lN dn) (nI (2 ^ n - (k + 1))) 1 0 = _ := u1
    rw [u1', show (2 ^ n - (k + 1)) >>> 0 = 2 ^ n - (k + 1) from rfl, Nat.one_mul]
    have es : fb_sm (fun m => odW v n m * cn (wOf (pgW n m a))) (2 ^ n - (k + 1)) + odW v n (2 ^ n - (k + 1)) * cn (wOf (pgW n (2 ^ n - (k + 1)) a)) = fb_sm (fun m => odW v n m * cn (wOf (pgW n m a))) (2 ^ n - k) := by
      rw [show 2 ^ n - k = (2 ^ n - (k + 1)) + 1 from by omega]
      rfl
    rw [es, show 2 ^ n - (k + 1) + 1 = 2 ^ n - k from by omega]
    have qq := qc.tr u2
    obtain ⟨M2, v1, v2⟩ := ih fuel M1 (hm.copy (fun i hi => qq.2.2 _ (by omega))) (by rw [qq.1 16 (by omega)]; exact haw) (by omega) (by omega)
    exact ⟨M2, v1, qq.tr v2⟩
theorem rain7_d {n : Nat} (hn : n ≤ 8) {v x2 x4 : Int32} {up : Int64} {M : Ob} : ∀ (k fuel : Nat), k ≤ n → k < fuel → f_X7_byRain_l9 fuel M v x2 (nI n) x4 up (lN (10 ^ (n - k))) (nI (n - k)) = f_X7_byRain_l32 FUEL M v x2 (nI n) x4 up (lN (10 ^ n)) 0 := by
  intro k
  induction k with
  | zero =>
    intro fuel hk hf
    obtain ⟨fuel, rfl⟩ : ∃ f, fuel = f + 1 := ⟨fuel - 1, by omega⟩
    rw [f_X7_byRain_l9, Nat.sub_zero, if_pos (show nI n ≤ nI n from (nI_le_iff (by omega) (by omega)).mpr (Nat.le_refl _))]
  | succ k ih =>
    intro fuel hk hf
    obtain ⟨fuel, rfl⟩ : ∃ f, fuel = f + 1 := ⟨fuel - 1, by omega⟩
    rw [f_X7_byRain_l9, if_neg (show ¬ nI n ≤ nI (n - (k + 1)) by rw [nI_le_iff (by omega) (by omega)]; omega), show (10 : Int64) = lN 10 from rfl, lN_mul, ← Nat.pow_succ, nI_1, show (n - (k + 1)).succ = n - k from by omega, show n - (k + 1) + 1 = n - k from by omega]
    exact ih fuel (by omega) (by omega)
theorem rain_ok {X : Wd} {M : Ob} (h : Cpl X M) {v n : Nat} (hv : v ≤ 10) (hn : n ≤ 8) {who x2 w : Int32} {cn : Nat → Nat} (hc : ∀ w, w < 16 → cn w ≤ 4) (hw : ∀ w, w < 16 → f_J6_bitCount_0f7a4 (nI w &&& who) = some (nI (cn w))) (he : ∀ (w : Nat) (K : Int32 → Option (Int64 × Ob)), w < 16 → (if x2 = (-4 : Int32) then (f_X7_bitsOf (nI w)).bind K else K ((nI w >>> (x2 &&& 31)) &&& (1 : Int32))) = K (nI (cn w))) : OKL X M (f_X6_chance X (nI v) who (nI n) w) (f_X7_byRain M (nI v) x2 (nI n) w) := by
  obtain ⟨⟨a, hp⟩, -, -, -, -, -, -, hcn⟩ := id h
  have ⟨w1, w2, w3, w4⟩ := hp
  have h10 : (10 : Nat) ^ n ≤ 10 ^ 8 := Nat.pow_le_pow_right (by decide) hn
  have h0 : 0 < (10 : Nat) ^ n := Nat.pow_pos (by decide)
  have hP := wP_le hv hc n a w1
  obtain ⟨z0, b1, b2⟩ := become_ok (X 7) w3 w1
  obtain ⟨X1, u1, u2⟩ := weight_l hv hn hc hw n 10 0 (va_up X 7 z0) a (by omega) (by rw [va_up_self]; exact b2) w1 (by omega) (by omega)
  have u1' : f_X6_weightOfOuts 10 (va_up X 7 z0) 0 (nI n) (nI v) who = some (lN (wP v cn n a), X1) := u1
  have cl := chance_l hn (w := w) (p := wP v cn n a) (X := X1) (by omega) n FUEL (Nat.le_refl _) (by unfold FUEL; omega)
  rw [Nat.sub_self] at cl
  have cl' : f_X6_chance_l32 FUEL X1 (nI n) w (lN (wP v cn n a)) 1 0 = some (lwE (lN (wP v cn n a)) (lN (10 ^ n)) w (Nat.gcd (wP v cn n a) (10 ^ n)), X1) := cl
  have dl := rain7_d hn (v := nI v) (x2 := x2) (x4 := w) (up := 0) (M := M) n FUEL (Nat.le_refl _) (by unfold FUEL; omega)
  rw [Nat.sub_self] at dl
  have dl' : f_X7_byRain_l9 FUEL M (nI v) x2 (nI n) w 0 1 0 = f_X7_byRain_l32 FUEL M (nI v) x2 (nI n) w 0 (lN (10 ^ n)) 0 := dl
  have h2 : (2 : Nat) ^ n ≤ 2 ^ 8 := Nat.pow_le_pow_right (by decide) hn
  obtain ⟨M1, m1, m2⟩ := rain7_o (x2 := x2) (x4 := w) (dn := 10 ^ n) hv hn w1 w2 he hc (2 ^ n) FUEL M w4 (Or.inl ⟨rfl, hcn.1⟩) (Nat.le_refl _) (by unfold FUEL; omega)
  rw [Nat.sub_self, sum_W] at m1
  have m1' : f_X7_byRain_l32 FUEL M (nI v) x2 (nI n) w 0 (lN (10 ^ n)) 0 = ((f_X7_lowest (lN (wP v cn n a)) (lN (10 ^ n)) w).bind fun q9 => some (q9, M1)) := m1
  have lw : f_X7_lowest (lN (wP v cn n a)) (lN (10 ^ n)) w = some (lwE (lN (wP v cn n a)) (lN (10 ^ n)) w (Nat.gcd (wP v cn n a) (10 ^ n))) := gcd7 27 FUEL _ _ (by omega) (by unfold FUEL; omega) (by omega) (by omega) (by omega)
  unfold f_X6_chance f_X7_byRain
  rw [b1, Option.bind_some, u1', Option.bind_some, dl', m1', lw, Option.bind_some]
  dsimp only
  rw [cl']
  refine OKL.q h rfl rfl ⟨fun o ho => ?_, fun c _ => ?_⟩ m2
  · rw [u2 o (by omega), va_up_ne _ _ (by omega)]
  · rw [u2 2 (by omega), va_up_ne _ _ (by omega)]
theorem luck_c : ∀ i, i < 4 → ∀ w, w < 16 → isS (f_J6_bitCount_0f7a4 (nI w &&& ((1 : Int32) <<< (nI i &&& 31)))) (nI ((w >>> i) % 2)) = true := by decide +kernel
theorem mean_c : ∀ w, w < 16 → isS (f_J6_bitCount_0f7a4 (nI w &&& 15)) (nI (pc4 w)) = true := by decide +kernel
theorem T_luck {X : Wd} {M : Ob} (h : Cpl X M) (a1 a2 a3 a4 : Int32) : OKL X M (f_X6_luck X a1 a2 a3 a4) (f_X7_luck M a1 a2 a3 a4) := by
  obtain ⟨⟨a, hp⟩, -⟩ := id h
  have ⟨w1, w2, w3, w4⟩ := hp
  have h51 := w1.2.2.2.2.1
  have z8 := w3.2.2.2.2.2.1
  have e51 := hp.m (k := 51) (by omega) (by omega)
  unfold f_X6_luck f_X7_luck
  by_cases c1 : Rg a1 11
  · obtain ⟨v, hv, rfl⟩ := c1
    rw [isTenths_y hv, bd1, in_y hv (by omega) (by decide), bd1]
    by_cases c2 : Rg a2 (a 51)
    · obtain ⟨i, hi, rfl⟩ := c2
      rw [isGuest_y z8 hi h51, bd1, mGuest_y e51 hi h51, bd1]
      by_cases c3 : Rg a3 9
      · obtain ⟨n, hn, rfl⟩ := c3
        rw [isRainy_y hn, bd1, in_y hn (by omega) (by decide), bd1]
        by_cases c4 : Rg a4 2
        · obtain ⟨k, hk, rfl⟩ := c4
          rw [isBit_y hk, bd1, in_y hk (by omega) (by decide), bd1]
          obtain ⟨r, X1, M1, q1, q2, q3, q4⟩ := rain_ok h (v := v) (n := n) (who := (1 : Int32) <<< (nI i &&& 31)) (x2 := nI i) (w := nI k) (cn := fun w => (w >>> i) % 2) (by omega) (by omega) (fun w _ => by show (w >>> i) % 2 ≤ 4; omega) (fun w hw => isS_eq (luck_c i (by omega) w hw)) (fun w K hw => by
            rw [if_neg (show ¬ nI i = -4 from nI_ne_neg (k := 4) (by omega) (by omega) (by omega)), show (31 : Int32) = nI 31 from rfl, nI_shr (by omega) (by omega), show (1 : Int32) = nI 1 from rfl, fa_and, Nat.and_one_is_mod])
          rw [q1, q2, Option.bind_some, Option.bind_some]
          exact ⟨r, X1, M1, rfl, rfl, q3, q4⟩
        · rw [isBit_n c4, bd0, in_n c4 (by omega) (by decide), bd0]
          exact OKL.same h _ rfl rfl
      · rw [isRainy_n c3, bd0, in_n c3 (by omega) (by decide), bd0]
        exact OKL.same h _ rfl rfl
    · rw [isGuest_n z8 c2 h51, bd0, mGuest_n e51 c2 h51, bd0]
      exact OKL.same h _ rfl rfl
  · rw [isTenths_n c1, bd0, in_n c1 (by omega) (by decide), bd0]
    exact OKL.same h _ rfl rfl
theorem T_mean {X : Wd} {M : Ob} (h : Cpl X M) (a1 a3 a4 : Int32) : OKL X M (f_X6_mean X a1 a3 a4) (f_X7_mean M a1 a3 a4) := by
  unfold f_X6_mean f_X7_mean
  by_cases c1 : Rg a1 11
  · obtain ⟨v, hv, rfl⟩ := c1
    rw [isTenths_y hv, bd1, in_y hv (by omega) (by decide), bd1]
    by_cases c3 : Rg a3 9
    · obtain ⟨n, hn, rfl⟩ := c3
      rw [isRainy_y hn, bd1, in_y hn (by omega) (by decide), bd1]
      by_cases c4 : Rg a4 2
      · obtain ⟨k, hk, rfl⟩ := c4
        rw [isBit_y hk, bd1, in_y hk (by omega) (by decide), bd1]
        obtain ⟨r, X1, M1, q1, q2, q3, q4⟩ := rain_ok h (v := v) (n := n) (who := 15) (x2 := -4) (w := nI k) (cn := pc4) (by omega) (by omega) (fun w _ => by unfold pc4; omega) (fun w hw => isS_eq (mean_c w hw)) (fun w K hw => by
          rw [if_pos rfl, bitsOf4 hw, Option.bind_some])
        rw [q1, q2, Option.bind_some, Option.bind_some]
        exact ⟨r, X1, M1, rfl, rfl, q3, q4⟩
      · rw [isBit_n c4, bd0, in_n c4 (by omega) (by decide), bd0]
        exact OKL.same h _ rfl rfl
    · rw [isRainy_n c3, bd0, in_n c3 (by omega) (by decide), bd0]
      exact OKL.same h _ rfl rfl
  · rw [isTenths_n c1, bd0, in_n c1 (by omega) (by decide), bd0]
    exact OKL.same h _ rfl rfl
