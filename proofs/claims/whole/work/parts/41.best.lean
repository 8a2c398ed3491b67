/-! what is best -/
def bstep (s : Int32 × Int32) (c v : Int32) : Int32 × Int32 := if v ≤ s.2 then s else (c, v)
def bsP (f : Nat → Int32) (n : Nat) : Nat → Int32 × Int32 → Int32 × Int32
  | 0, s => s
  | k + 1, s => bsP f n k (bstep s (nI (n - (k + 1))) (f (n - (k + 1))))
def tellP (s : Int32 × Int32) (w : Int32) : Int32 := if s.1 = -4 then s.1 else if w = 0 then s.1 else s.2
theorem offer_ok {z : Ob} {s : Int32 × Int32} (h1 : z 0 0 = s.1) (h2 : z 0 1 = s.2) (c v : Int32) : ∃ z', f_X0_offer z c v = some z' ∧ z' 0 0 = (bstep s c v).1 ∧ z' 0 1 = (bstep s c v).2 := by
  unfold f_X0_offer bstep
  rw [h2]
  by_cases e : v ≤ s.2
  · rw [if_pos e, if_pos e]; exact ⟨z, rfl, h1, h2⟩
  · rw [if_neg e, if_neg e]
    refine ⟨_, rfl, ?_, ?_⟩
    · rw [ob_at, if_pos rfl, if_neg (by decide), ob_at, if_pos rfl, if_pos rfl]
    · rw [ob_at, if_pos rfl, if_pos rfl]
theorem told_ok {z : Ob} {s : Int32 × Int32} (h1 : z 0 0 = s.1) (h2 : z 0 1 = s.2) (w : Int32) : f_X0_told z w = some (tellP s w) := by
  unfold f_X0_told f_X0_told_b13 tellP
  rw [h1, h2]
  split
  · rfl
  · split <;> rfl
theorem above_ok (z : Ob) (v : Int32) : ∃ z', f_X0_above z v = some z' ∧ z' 0 0 = ((-4, v) : Int32 × Int32).1 ∧ z' 0 1 = ((-4, v) : Int32 × Int32).2 := by
  refine ⟨_, rfl, ?_, ?_⟩
  · rw [ob_at, if_pos rfl, if_neg (by decide), ob_at, if_pos rfl, if_pos rfl]
  · rw [ob_at, if_pos rfl, if_pos rfl]
def goP (aw n : Nat) (a : Nat → Nat) : Int32 := nI (outP (itP (dayP aw false) n a))
theorem outsB {n : Nat} (hn : n ≤ 60) {z : Ob} {a : Nat → Nat} (hz : RZ z a) (h : WF a) (hd : a 52 ≤ 2000) : ∃ z', f_X1_outsBehind z (nI n) = some (goP 9 n a, z') := outsBehind_ok hn hz h hd
theorem outsW {aw n : Nat} (hn : n ≤ 60) {x1 : Int32} (haw : AW x1 aw) {z : Ob} {a : Nat → Nat} (hz : RZ z a) (h : WF a) (hd : a 52 ≤ 2000) : ∃ z', f_X1_outsWithout z x1 (nI n) = some (goP aw n a, z') := outsWithout_ok hn haw hz h hd
theorem asItIs_ok {X : Wd} {a : Nat → Nat} (w3 : RZ (X 4) a) (w1 : WF a) (w2 : a 52 ≤ 999) {n : Nat} (hn : n ≤ 60) : ∃ X1, f_X6_outsAsItIs X (nI n) = some (goP 9 n a, X1) ∧ QX X X1 := by
  obtain ⟨z0, b1, b2⟩ := become_ok (X 5) w3 w1
  obtain ⟨z1, p1⟩ := outsB hn b2 w1 (by omega)
  unfold f_X6_outsAsItIs
  rw [b1, Option.bind_some, p1, Option.bind_some]
  exact ⟨_, rfl, (QX.up z0 (by omega)).tr (QX.up z1 (by omega))⟩
theorem chg {H h : Nat} (hH : H < 16777216) (hh : h < 24) : H ^^^ 1 <<< h = setb H h (1 - hbt H h) := by
  have l2 := setb_lt (v := 1 - hbt H h) hH hh
  have l1 : H ^^^ 1 <<< h < 16777216 := by
    refine Nat.xor_lt_two_pow (n := 24) hH ?_
    rw [Nat.shiftLeft_eq, Nat.one_mul]
    exact Nat.pow_lt_pow_right (by decide) hh
  apply Nat.eq_of_testBit_eq
  intro j
  by_cases hj : j < 32
  · rw [setb_bit hj, Nat.testBit_xor, show (1 <<< h).testBit j = decide (h = j) from by rw [show 1 <<< h = 2 ^ h from by rw [Nat.shiftLeft_eq, Nat.one_mul], Nat.testBit_two_pow]]
    by_cases e : j = h
    · subst e
      rw [if_pos rfl]
      unfold hbt
      cases H.testBit j <;> simp
    · rw [if_neg e]
      simp [Ne.symm e]
  · have hb : ∀ x, x < 16777216 → x.testBit j = false := fun x hx => Nat.testBit_lt_two_pow (Nat.lt_of_lt_of_le hx (Nat.le_trans (by decide : 16777216 ≤ 2 ^ 32) (Nat.pow_le_pow_right (by decide) (by omega))))
    rw [hb _ l1, hb _ l2]
theorem changed_ok {H h : Nat} (hH : H < 16777216) (hh : h < 24) : f_X2_changed (nI H) (nI h) = some (nI (setb H h (1 - hbt H h))) := by
  unfold f_X2_changed
  simp (disch := omega) only [fa_lit, fa_and, and31, nI_shl', fb_xorI, chg]
theorem va_two (a : Nat → Nat) (k u v : Nat) : va_up (va_up a k u) k v = va_up a k v := by
  funext j
  simp only [vn_at]
  split <;> rfl
theorem up52' {a : Nat → Nat} {k v : Nat} (h : a 52 ≤ 999) (hk : k ≠ 52) : va_up a k v 52 ≤ 2000 := by rw [va_up_ne _ _ (Ne.symm hk)]; omega
theorem cut6_l {a : Nat → Nat} {n : Nat} {w : Int32}  (w1 : WF a) (w2 : a 52 ≤ 999) (hn : n ≤ 60) : ∀ (k fuel : Nat) (X : Wd) (s : Int32 × Int32), RZ (X 4) a → X 3 0 0 = s.1 → X 3 0 1 = s.2 → k ≤ 24 → k < fuel → ∃ X1, f_X6_cut_l30 fuel X (nI n) w (nI (24 - k)) = some (tellP (bsP (fun h => goP 9 n (va_up a 0 (setb (a 0) h (1 - hbt (a 0) h)))) (24) k s) w, X1) ∧ QX X X1 := by
  have h37 := w1.2.2.1
  have h51 := w1.2.2.2.2.1
  intro k
  induction k with
  | zero =>
    intro fuel X s hz h1 h2 hk hf
    obtain ⟨fuel, rfl⟩ : ∃ f, fuel = f + 1 := ⟨fuel - 1, by omega⟩
    unfold f_X6_cut_l30
    rw [if_pos (by rw [show (24 : Int32) = nI 24 from rfl, nI_le_iff (by omega) (by omega)]; omega), told_ok h1 h2, Option.bind_some]
    exact ⟨X, rfl, QX.rf X⟩
  | succ k ih =>
    intro fuel X s hz h1 h2 hk hf
    obtain ⟨fuel, rfl⟩ : ∃ f, fuel = f + 1 := ⟨fuel - 1, by omega⟩
    obtain ⟨z0, b1, b2⟩ := become_ok (X 5) hz w1
    have ei : 24 - (k + 1) + 1 = 24 - k := by omega
    unfold f_X6_cut_l30
    rw [if_neg (by rw [show (24 : Int32) = nI 24 from rfl, nI_le_iff (by omega) (by omega)]; omega), b1, Option.bind_some]
    show ∃ X1, _ = some (tellP (bsP (fun h => goP 9 n (va_up a 0 (setb (a 0) h (1 - hbt (a 0) h)))) (24) k (bstep s (nI (24 - (k + 1))) ((fun h => goP 9 n (va_up a 0 (setb (a 0) h (1 - hbt (a 0) h)))) (24 - (k + 1))))) w, X1) ∧ _
    generalize hi0 : 24 - (k + 1) = i at *
    have hi : i < 24 := by omega
    rw [b2.1, changed_ok w1.1 hi, Option.bind_some]
    have hs := setb_lt (v := 1 - hbt (a 0) i) w1.1 hi
    obtain ⟨z1, p1⟩ := outsB hn (b2.hedges (setb (a 0) i (1 - hbt (a 0) i))) (w1.up (by unfold bnd; omega)) (up52' w2 (by omega))
    rw [p1, Option.bind_some]
    obtain ⟨z2, o1, o2, o3⟩ := offer_ok h1 h2 (nI i) (goP 9 n (va_up a 0 (setb (a 0) i (1 - hbt (a 0) i))))
    dsimp only
    rw [o1, Option.bind_some, nI_1]
    have qx : QX X (va_up (va_up (wo (va_up X 5 z0) 5 0 0 (nI (setb (a 0) i (1 - hbt (a 0) i)))) 5 z1) 3 z2) := (((QX.up z0 (by omega)).tr (QX.up _ (by omega))).tr (QX.up z1 (by omega))).tr (QX.up z2 (by omega))
    have q4 : RZ ((va_up (va_up (wo (va_up X 5 z0) 5 0 0 (nI (setb (a 0) i (1 - hbt (a 0) i)))) 5 z1) 3 z2) 4) a := by rw [qx.1 4 (by omega)]; exact hz
    have q5 : (va_up (va_up (wo (va_up X 5 z0) 5 0 0 (nI (setb (a 0) i (1 - hbt (a 0) i)))) 5 z1) 3 z2) 3 = z2 := va_up_self _ _ _
    obtain ⟨X1, u1, u2⟩ := ih fuel (va_up (va_up (wo (va_up X 5 z0) 5 0 0 (nI (setb (a 0) i (1 - hbt (a 0) i)))) 5 z1) 3 z2) _ q4 (by rw [q5]; exact o2) (by rw [q5]; exact o3) (by omega) (by omega)
    rw [← ei] at u1
    exact ⟨X1, u1, qx.tr u2⟩
theorem door6_l {a : Nat → Nat} {n : Nat} {w : Int32}  (w1 : WF a) (w2 : a 52 ≤ 999) (hn : n ≤ 60) : ∀ (k fuel : Nat) (X : Wd) (s : Int32 × Int32), RZ (X 4) a → X 3 0 0 = s.1 → X 3 0 1 = s.2 → k ≤ 16 → k < fuel → ∃ X1, f_X6_door_l26 fuel X (nI n) w (nI (16 - k)) = some (tellP (bsP (fun c => goP 9 n (va_up a 24 c)) (16) k s) w, X1) ∧ QX X X1 := by
  have h37 := w1.2.2.1
  have h51 := w1.2.2.2.2.1
  intro k
  induction k with
  | zero =>
    intro fuel X s hz h1 h2 hk hf
    obtain ⟨fuel, rfl⟩ : ∃ f, fuel = f + 1 := ⟨fuel - 1, by omega⟩
    unfold f_X6_door_l26
    rw [if_pos (by rw [show (16 : Int32) = nI 16 from rfl, nI_le_iff (by omega) (by omega)]; omega), told_ok h1 h2, Option.bind_some]
    exact ⟨X, rfl, QX.rf X⟩
  | succ k ih =>
    intro fuel X s hz h1 h2 hk hf
    obtain ⟨fuel, rfl⟩ : ∃ f, fuel = f + 1 := ⟨fuel - 1, by omega⟩
    obtain ⟨z0, b1, b2⟩ := become_ok (X 5) hz w1
    have ei : 16 - (k + 1) + 1 = 16 - k := by omega
    unfold f_X6_door_l26
    rw [if_neg (by rw [show (16 : Int32) = nI 16 from rfl, nI_le_iff (by omega) (by omega)]; omega), b1, Option.bind_some]
    show ∃ X1, _ = some (tellP (bsP (fun c => goP 9 n (va_up a 24 c)) (16) k (bstep s (nI (16 - (k + 1))) ((fun c => goP 9 n (va_up a 24 c)) (16 - (k + 1))))) w, X1) ∧ _
    generalize hi0 : 16 - (k + 1) = i at *
    have hi : i < 16 := by omega
    obtain ⟨z1, p1⟩ := outsB hn (b2.gate h37 i) (w1.up (by unfold bnd; omega)) (up52' w2 (by omega))
    rw [p1, Option.bind_some]
    obtain ⟨z2, o1, o2, o3⟩ := offer_ok h1 h2 (nI i) (goP 9 n (va_up a 24 i))
    dsimp only
    rw [o1, Option.bind_some, nI_1]
    have qx : QX X (va_up (va_up (wo (va_up X 5 z0) 5 0 1 (nI i)) 5 z1) 3 z2) := (((QX.up z0 (by omega)).tr (QX.up _ (by omega))).tr (QX.up z1 (by omega))).tr (QX.up z2 (by omega))
    have q4 : RZ ((va_up (va_up (wo (va_up X 5 z0) 5 0 1 (nI i)) 5 z1) 3 z2) 4) a := by rw [qx.1 4 (by omega)]; exact hz
    have q5 : (va_up (va_up (wo (va_up X 5 z0) 5 0 1 (nI i)) 5 z1) 3 z2) 3 = z2 := va_up_self _ _ _
    obtain ⟨X1, u1, u2⟩ := ih fuel (va_up (va_up (wo (va_up X 5 z0) 5 0 1 (nI i)) 5 z1) 3 z2) _ q4 (by rw [q5]; exact o2) (by rw [q5]; exact o3) (by omega) (by omega)
    rw [← ei] at u1
    exact ⟨X1, u1, qx.tr u2⟩
theorem sack6_l {a : Nat → Nat} {n : Nat} {w : Int32}  (w1 : WF a) (w2 : a 52 ≤ 999) (hn : n ≤ 60) : ∀ (k fuel : Nat) (X : Wd) (s : Int32 × Int32), RZ (X 4) a → X 3 0 0 = s.1 → X 3 0 1 = s.2 → k ≤ a 37 → k < fuel → ∃ X1, f_X6_sack_l30 fuel X (nI n) w (nI (a 37 - k)) = some (tellP (bsP (fun g => goP g n a) (a 37) k s) w, X1) ∧ QX X X1 := by
  have h37 := w1.2.2.1
  have h51 := w1.2.2.2.2.1
  intro k
  induction k with
  | zero =>
    intro fuel X s hz h1 h2 hk hf
    obtain ⟨fuel, rfl⟩ : ∃ f, fuel = f + 1 := ⟨fuel - 1, by omega⟩
    unfold f_X6_sack_l30
    rw [hz.2.2.2.2.1, if_pos (by rw [nI_le_iff (by omega) (by omega)]; omega), told_ok h1 h2, Option.bind_some]
    exact ⟨X, rfl, QX.rf X⟩
  | succ k ih =>
    intro fuel X s hz h1 h2 hk hf
    obtain ⟨fuel, rfl⟩ : ∃ f, fuel = f + 1 := ⟨fuel - 1, by omega⟩
    obtain ⟨z0, b1, b2⟩ := become_ok (X 5) hz w1
    have ei : a 37 - (k + 1) + 1 = a 37 - k := by omega
    unfold f_X6_sack_l30
    rw [hz.2.2.2.2.1, if_neg (by rw [nI_le_iff (by omega) (by omega)]; omega), b1, Option.bind_some]
    show ∃ X1, _ = some (tellP (bsP (fun g => goP g n a) (a 37) k (bstep s (nI (a 37 - (k + 1))) ((fun g => goP g n a) (a 37 - (k + 1))))) w, X1) ∧ _
    generalize hi0 : a 37 - (k + 1) = i at *
    have hi : i < a 37 := by omega
    obtain ⟨z1, p1⟩ := outsW (aw := i) hn (x1 := nI i) (Or.inr ⟨by omega, rfl⟩) b2 w1 (by omega)
    rw [p1, Option.bind_some]
    obtain ⟨z2, o1, o2, o3⟩ := offer_ok h1 h2 (nI i) (goP i n a)
    dsimp only
    rw [o1, Option.bind_some, nI_1]
    have qx : QX X (va_up (va_up (va_up X 5 z0) 5 z1) 3 z2) := ((QX.up z0 (by omega)).tr (QX.up z1 (by omega))).tr (QX.up z2 (by omega))
    have q4 : RZ ((va_up (va_up (va_up X 5 z0) 5 z1) 3 z2) 4) a := by rw [qx.1 4 (by omega)]; exact hz
    have q5 : (va_up (va_up (va_up X 5 z0) 5 z1) 3 z2) 3 = z2 := va_up_self _ _ _
    obtain ⟨X1, u1, u2⟩ := ih fuel (va_up (va_up (va_up X 5 z0) 5 z1) 3 z2) _ q4 (by rw [q5]; exact o2) (by rw [q5]; exact o3) (by omega) (by omega)
    rw [← ei] at u1
    exact ⟨X1, u1, qx.tr u2⟩
theorem kind6_l {a : Nat → Nat} {n : Nat} {w : Int32} {g : Nat} (hg : g < a 37) (w1 : WF a) (w2 : a 52 ≤ 999) (hn : n ≤ 60) : ∀ (k fuel : Nat) (X : Wd) (s : Int32 × Int32), RZ (X 4) a → X 3 0 0 = s.1 → X 3 0 1 = s.2 → k ≤ 4 → k < fuel → ∃ X1, f_X6_kind_l35 fuel X (nI g) (nI n) w (nI (4 - k)) = some (tellP (bsP (fun c => goP 9 n (va_up a (25 + g) c)) (4) k s) w, X1) ∧ QX X X1 := by
  have h37 := w1.2.2.1
  have h51 := w1.2.2.2.2.1
  intro k
  induction k with
  | zero =>
    intro fuel X s hz h1 h2 hk hf
    obtain ⟨fuel, rfl⟩ : ∃ f, fuel = f + 1 := ⟨fuel - 1, by omega⟩
    unfold f_X6_kind_l35
    rw [if_pos (by rw [show (4 : Int32) = nI 4 from rfl, nI_le_iff (by omega) (by omega)]; omega), told_ok h1 h2, Option.bind_some]
    exact ⟨X, rfl, QX.rf X⟩
  | succ k ih =>
    intro fuel X s hz h1 h2 hk hf
    obtain ⟨fuel, rfl⟩ : ∃ f, fuel = f + 1 := ⟨fuel - 1, by omega⟩
    obtain ⟨z0, b1, b2⟩ := become_ok (X 5) hz w1
    have ei : 4 - (k + 1) + 1 = 4 - k := by omega
    unfold f_X6_kind_l35
    rw [if_neg (by rw [show (4 : Int32) = nI 4 from rfl, nI_le_iff (by omega) (by omega)]; omega), b1, Option.bind_some]
    show ∃ X1, _ = some (tellP (bsP (fun c => goP 9 n (va_up a (25 + g) c)) (4) k (bstep s (nI (4 - (k + 1))) ((fun c => goP 9 n (va_up a (25 + g) c)) (4 - (k + 1))))) w, X1) ∧ _
    generalize hi0 : 4 - (k + 1) = i at *
    have hi : i < 4 := by omega
    obtain ⟨z1, p1⟩ := outsB hn (b2.cellv h37 h51 (c := 1) (g := g) (k := 25 + g) i (by omega) (by omega)) (w1.up (by unfold bnd; omega)) (up52' w2 (by omega))
    rw [ck_nI (by omega) (by omega), nI_cl (by omega), p1, Option.bind_some]
    obtain ⟨z2, o1, o2, o3⟩ := offer_ok h1 h2 (nI i) (goP 9 n (va_up a (25 + g) i))
    dsimp only
    rw [o1, Option.bind_some, nI_1]
    have qx : QX X (va_up (va_up (wo (va_up X 5 z0) 5 1 g (nI i)) 5 z1) 3 z2) := (((QX.up z0 (by omega)).tr (QX.up _ (by omega))).tr (QX.up z1 (by omega))).tr (QX.up z2 (by omega))
    have q4 : RZ ((va_up (va_up (wo (va_up X 5 z0) 5 1 g (nI i)) 5 z1) 3 z2) 4) a := by rw [qx.1 4 (by omega)]; exact hz
    have q5 : (va_up (va_up (wo (va_up X 5 z0) 5 1 g (nI i)) 5 z1) 3 z2) 3 = z2 := va_up_self _ _ _
    obtain ⟨X1, u1, u2⟩ := ih fuel (va_up (va_up (wo (va_up X 5 z0) 5 1 g (nI i)) 5 z1) 3 z2) _ q4 (by rw [q5]; exact o2) (by rw [q5]; exact o3) (by omega) (by omega)
    rw [← ei] at u1
    exact ⟨X1, u1, qx.tr u2⟩
/-- as the model tells where there is always one -/
def tel2 (s : Int32 × Int32) (w : Int32) : Int32 := if w = 0 then s.1 else s.2
theorem cut7_l {a : Nat → Nat} {n : Nat} {w : Int32}  (w1 : WF a) (w2 : a 52 ≤ 999) (hn : n ≤ 60) : ∀ (k fuel : Nat) (M : Ob) (s : Int32 × Int32), RM M 0 a → AW (M 0 16) 9 → k ≤ 24 → k < fuel → ∃ M1, f_X7_cut_l38 fuel M (nI n) w s.2 s.1 (nI (24 - k)) = some (tellP (bsP (fun h => goP 9 n (va_up a 0 (setb (a 0) h (1 - hbt (a 0) h)))) (24) k s) w, M1) ∧ QM M M1 := by
  have h37 := w1.2.2.1
  have h51 := w1.2.2.2.2.1
  intro k
  induction k with
  | zero =>
    intro fuel M s hm haw hk hf
    obtain ⟨fuel, rfl⟩ : ∃ f, fuel = f + 1 := ⟨fuel - 1, by omega⟩

    unfold f_X7_cut_l38
    rw [if_pos (by rw [show (24 : Int32) = nI 24 from rfl, nI_le_iff (by omega) (by omega)]; omega)]
    refine ⟨M, ?_, QM.rf M⟩
    unfold tellP bsP f_X7_cut_b128
    by_cases e1 : s.1 = -4
    · rw [if_pos e1, if_pos e1]
    · rw [if_neg e1, if_neg e1]
      by_cases e2 : w = 0
      · rw [if_pos e2, if_pos e2]
      · rw [if_neg e2, if_neg e2]
  | succ k ih =>
    intro fuel M s hm haw hk hf
    obtain ⟨fuel, rfl⟩ : ∃ f, fuel = f + 1 := ⟨fuel - 1, by omega⟩
    have ei : 24 - (k + 1) + 1 = 24 - k := by omega

    unfold f_X7_cut_l38
    rw [if_neg (by rw [show (24 : Int32) = nI 24 from rfl, nI_le_iff (by omega) (by omega)]; omega)]
    show ∃ M1, _ = some (tellP (bsP (fun h => goP 9 n (va_up a 0 (setb (a 0) h (1 - hbt (a 0) h)))) (24) k (bstep s (nI (24 - (k + 1))) ((fun h => goP 9 n (va_up a 0 (setb (a 0) h (1 - hbt (a 0) h)))) (24 - (k + 1))))) w, M1) ∧ _
    generalize hi0 : 24 - (k + 1) = i at *
    have hi : i < 24 := by omega
    obtain ⟨M0, r0, r1, r2⟩ := copies_ok (p := 0) (q := 265) (by omega) (by omega) (by omega) M
    have r0' : f_X7_copies M 0 265 = some M0 := r0
    have ea : M0 1 i = nI (hbt (a 0) i) := by
      rw [r1.2 i (by omega)]
      have := hm.1 i hi
      rwa [Nat.zero_add] at this
    have hb := hbt_lt (a 0) i
    have hs := setb_lt (v := 1 - hbt (a 0) i) w1.1 hi
    rw [r0', Option.bind_some, ck_nI (by omega) (by omega), nI_cl (by omega), ea, show (265 : Int32) = nI 265 from rfl, nI_add, ck_nI (by omega) (by omega), nI_cl (by omega), show (1 : Int32) = nI 1 from rfl, nI_sub (by omega)]
    obtain ⟨M1, d1, d2, d3⟩ := daysGo_ok (aw := 9) (n := n) (p := 265) hn (by omega) ((hm.copy r2).hedge (v := 1 - hbt (a 0) i) hi (by omega)) (w1.up (by unfold bnd; omega)) (up52' w2 (by omega)) (by rw [ob_at, if_neg (by decide), r1.1 0 (by decide)]; exact haw)
    have qm : QM M M1 := ((r1.q (by omega)).tr (QM.ob1 M0 _ (by omega))).tr (d3.q (by omega))
    have d1' : f_X7_daysGo (ob M0 1 (265 + i) (nI (1 - hbt (a 0) i))) (nI 265) (nI n) = some (goP 9 n (va_up a 0 (setb (a 0) i (1 - hbt (a 0) i))), M1) := d1
    rw [d1', Option.bind_some]
    have u := ih fuel (M1) (bstep s (nI i) (goP 9 n (va_up a 0 (setb (a 0) i (1 - hbt (a 0) i))))) (hm.copy (fun j hj => qm.2.2 _ (by omega))) (by rw [qm.1 16 (by omega)]; exact haw) (by omega) (by omega)
    rw [← ei] at u
    obtain ⟨M3, u1, u2⟩ := u
    refine ⟨M3, ?_, qm.tr u2⟩
    rw [← u1]
    unfold bstep
    by_cases e : goP 9 n (va_up a 0 (setb (a 0) i (1 - hbt (a 0) i))) ≤ s.2
    · rw [if_pos e, if_pos e]
      unfold f_X7_cut_b96 f_X7_cut_b110
      rw [if_pos e, nI_1]
    · rw [if_neg e, if_neg e]
      unfold f_X7_cut_b96 f_X7_cut_b110
      rw [if_neg e, nI_1]
theorem sack7_l {a : Nat → Nat} {n : Nat} {w : Int32}  (w1 : WF a) (w2 : a 52 ≤ 999) (hn : n ≤ 60) : ∀ (k fuel : Nat) (M : Ob) (s : Int32 × Int32), RM M 0 a → AW (M 0 16) 9 → k ≤ a 37 → k < fuel → ∃ M1, f_X7_sack_l38 fuel M (nI n) w s.2 s.1 (nI (a 37 - k)) = some (tellP (bsP (fun g => goP g n a) (a 37) k s) w, M1) ∧ QM M M1 := by
  have h37 := w1.2.2.1
  have h51 := w1.2.2.2.2.1
  intro k
  induction k with
  | zero =>
    intro fuel M s hm haw hk hf
    obtain ⟨fuel, rfl⟩ : ∃ f, fuel = f + 1 := ⟨fuel - 1, by omega⟩
    have e37 : M 1 37 = nI (a 37) := by
      have := hm.2 37 (by omega) (by omega)
      rwa [Nat.zero_add] at this
    unfold f_X7_sack_l38
    rw [e37, if_pos (by rw [nI_le_iff (by omega) (by omega)]; omega)]
    refine ⟨M, ?_, QM.rf M⟩
    unfold tellP bsP f_X7_sack_b115
    by_cases e1 : s.1 = -4
    · rw [if_pos e1, if_pos e1]
    · rw [if_neg e1, if_neg e1]
      by_cases e2 : w = 0
      · rw [if_pos e2, if_pos e2]
      · rw [if_neg e2, if_neg e2]
  | succ k ih =>
    intro fuel M s hm haw hk hf
    obtain ⟨fuel, rfl⟩ : ∃ f, fuel = f + 1 := ⟨fuel - 1, by omega⟩
    have ei : a 37 - (k + 1) + 1 = a 37 - k := by omega
    have e37 : M 1 37 = nI (a 37) := by
      have := hm.2 37 (by omega) (by omega)
      rwa [Nat.zero_add] at this
    unfold f_X7_sack_l38
    rw [e37, if_neg (by rw [nI_le_iff (by omega) (by omega)]; omega)]
    show ∃ M1, _ = some (tellP (bsP (fun g => goP g n a) (a 37) k (bstep s (nI (a 37 - (k + 1))) ((fun g => goP g n a) (a 37 - (k + 1))))) w, M1) ∧ _
    generalize hi0 : a 37 - (k + 1) = i at *
    have hi : i < a 37 := by omega
    have q0 : ∀ (N : Ob) (v : Int32) (k : Nat), k ≠ 16 → ob N 0 16 v 0 k = N 0 k := fun N v k hk => by rw [ob_at, if_pos rfl, if_neg hk]
    have q1 : ∀ (N : Ob) (v : Int32) (c : Nat), c ≠ 0 → ob N 0 16 v c = N c := fun N v c hc => by funext j; rw [ob_at, if_neg hc]
    obtain ⟨M1, d1, d2, d3⟩ := daysGo_ok (aw := i) (n := n) (p := 0) hn (by omega) (M := ob M 0 16 (nI i)) (hm.copy (fun j hj => by rw [q1 _ _ 1 (by decide)])) w1 (by omega) (by rw [ob_at, if_pos rfl, if_pos rfl]; exact Or.inr ⟨by omega, rfl⟩)
    have qm : QM M (ob M1 0 16 (-4)) := by
      refine ⟨fun k hk => ?_, fun c c1 c2 c3 => ?_, fun k hk => ?_⟩
      · by_cases e : k = 16
        · subst e
          rw [ob_at, if_pos rfl, if_pos rfl]
          rcases haw with ⟨-, e⟩ | ⟨e, -⟩
          · exact e.symm
          · exact absurd e (by omega)
        · rw [q0 _ _ _ e, d3.1 0 (by decide) (by decide), q0 _ _ _ e]
      · rw [q1 _ _ c (by omega), d3.1 c (by omega) c2, q1 _ _ c (by omega)]
      · rw [q1 _ _ 1 (by decide), d3.2 k (by omega), q1 _ _ 1 (by decide)]
    have d1' : f_X7_daysGo (ob M 0 16 (nI i)) 0 (nI n) = some (goP i n a, M1) := d1
    rw [d1', Option.bind_some]
    have u := ih fuel (ob M1 0 16 (-4)) (bstep s (nI i) (goP i n a)) (hm.copy (fun j hj => qm.2.2 _ (by omega))) (by rw [qm.1 16 (by omega)]; exact haw) (by omega) (by omega)
    rw [← ei] at u
    obtain ⟨M3, u1, u2⟩ := u
    refine ⟨M3, ?_, qm.tr u2⟩
    rw [← u1]
    unfold bstep
    by_cases e : goP i n a ≤ s.2
    · rw [if_pos e, if_pos e]
      unfold f_X7_sack_b83 f_X7_sack_b97
      rw [if_pos e, nI_1]
    · rw [if_neg e, if_neg e]
      unfold f_X7_sack_b83 f_X7_sack_b97
      rw [if_neg e, nI_1]
theorem door7_l {a : Nat → Nat} {n : Nat} {w : Int32}  (w1 : WF a) (w2 : a 52 ≤ 999) (hn : n ≤ 60) : ∀ (k fuel : Nat) (M : Ob) (s : Int32 × Int32), (∃ v, RM M 265 (va_up a 24 v)) → AW (M 0 16) 9 → k ≤ 16 → k < fuel → ∃ M1, f_X7_door_l40 fuel M (nI n) w s.2 s.1 (nI (16 - k)) = some (tel2 (bsP (fun c => goP 9 n (va_up a 24 c)) (16) k s) w, M1) ∧ QM M M1 := by
  have h37 := w1.2.2.1
  have h51 := w1.2.2.2.2.1
  intro k
  induction k with
  | zero =>
    intro fuel M s hm haw hk hf
    obtain ⟨fuel, rfl⟩ : ∃ f, fuel = f + 1 := ⟨fuel - 1, by omega⟩
    obtain ⟨v0, hm⟩ := hm
    unfold f_X7_door_l40
    rw [if_pos (by rw [show (16 : Int32) = nI 16 from rfl, nI_le_iff (by omega) (by omega)]; omega)]
    refine ⟨M, ?_, QM.rf M⟩
    unfold tel2 bsP
    by_cases e2 : w = 0
    · rw [if_pos e2, if_pos e2]
    · rw [if_neg e2, if_neg e2]
  | succ k ih =>
    intro fuel M s hm haw hk hf
    obtain ⟨fuel, rfl⟩ : ∃ f, fuel = f + 1 := ⟨fuel - 1, by omega⟩
    have ei : 16 - (k + 1) + 1 = 16 - k := by omega
    obtain ⟨v0, hm⟩ := hm
    unfold f_X7_door_l40
    rw [if_neg (by rw [show (16 : Int32) = nI 16 from rfl, nI_le_iff (by omega) (by omega)]; omega)]
    show ∃ M1, _ = some (tel2 (bsP (fun c => goP 9 n (va_up a 24 c)) (16) k (bstep s (nI (16 - (k + 1))) ((fun c => goP 9 n (va_up a 24 c)) (16 - (k + 1))))) w, M1) ∧ _
    generalize hi0 : 16 - (k + 1) = i at *
    have hi : i < 16 := by omega
    have hm2 := hm.up i (k := 24) (by omega) (by omega)
    rw [va_two] at hm2
    obtain ⟨M1, d1, d2, d3⟩ := daysGo_ok (aw := 9) (n := n) (p := 265) hn (by omega) hm2 (w1.up (by unfold bnd; omega)) (up52' w2 (by omega)) (by rw [ob_at, if_neg (by decide)]; exact haw)
    have qm : QM M M1 := (QM.ob1 M _ (by omega)).tr (d3.q (by omega))
    have d1' : f_X7_daysGo (ob M 1 289 (nI i)) 265 (nI n) = some (goP 9 n (va_up a 24 i), M1) := d1
    rw [d1', Option.bind_some]
    have u := ih fuel (M1) (bstep s (nI i) (goP 9 n (va_up a 24 i))) ⟨i, hm2.copy (fun j hj => d3.2 _ (by omega))⟩ (by rw [qm.1 16 (by omega)]; exact haw) (by omega) (by omega)
    rw [← ei] at u
    obtain ⟨M3, u1, u2⟩ := u
    refine ⟨M3, ?_, qm.tr u2⟩
    rw [← u1]
    unfold bstep
    by_cases e : goP 9 n (va_up a 24 i) ≤ s.2
    · rw [if_pos e, if_pos e]
      unfold f_X7_door_b80 f_X7_door_b94
      rw [if_pos e, nI_1]
    · rw [if_neg e, if_neg e]
      unfold f_X7_door_b80 f_X7_door_b94
      rw [if_neg e, nI_1]
theorem kind7_l {a : Nat → Nat} {n : Nat} {w : Int32} {g : Nat} (hg : g < a 37) (w1 : WF a) (w2 : a 52 ≤ 999) (hn : n ≤ 60) : ∀ (k fuel : Nat) (M : Ob) (s : Int32 × Int32), (∃ v, RM M 265 (va_up a (25 + g) v)) → AW (M 0 16) 9 → k ≤ 4 → k < fuel → ∃ M1, f_X7_kind_l49 fuel M (nI g) (nI n) w s.2 s.1 (nI (4 - k)) = some (tel2 (bsP (fun c => goP 9 n (va_up a (25 + g) c)) (4) k s) w, M1) ∧ QM M M1 := by
  have h37 := w1.2.2.1
  have h51 := w1.2.2.2.2.1
  intro k
  induction k with
  | zero =>
    intro fuel M s hm haw hk hf
    obtain ⟨fuel, rfl⟩ : ∃ f, fuel = f + 1 := ⟨fuel - 1, by omega⟩
    obtain ⟨v0, hm⟩ := hm
    unfold f_X7_kind_l49
    rw [if_pos (by rw [show (4 : Int32) = nI 4 from rfl, nI_le_iff (by omega) (by omega)]; omega)]
    refine ⟨M, ?_, QM.rf M⟩
    unfold tel2 bsP
    by_cases e2 : w = 0
    · rw [if_pos e2, if_pos e2]
    · rw [if_neg e2, if_neg e2]
  | succ k ih =>
    intro fuel M s hm haw hk hf
    obtain ⟨fuel, rfl⟩ : ∃ f, fuel = f + 1 := ⟨fuel - 1, by omega⟩
    have ei : 4 - (k + 1) + 1 = 4 - k := by omega
    obtain ⟨v0, hm⟩ := hm
    unfold f_X7_kind_l49
    rw [if_neg (by rw [show (4 : Int32) = nI 4 from rfl, nI_le_iff (by omega) (by omega)]; omega)]
    show ∃ M1, _ = some (tel2 (bsP (fun c => goP 9 n (va_up a (25 + g) c)) (4) k (bstep s (nI (4 - (k + 1))) ((fun c => goP 9 n (va_up a (25 + g) c)) (4 - (k + 1))))) w, M1) ∧ _
    generalize hi0 : 4 - (k + 1) = i at *
    have hi : i < 4 := by omega
    have hm2 := hm.up i (k := 25 + g) (by omega) (by omega)
    rw [va_two, show 265 + (25 + g) = 290 + g from by omega] at hm2
    obtain ⟨M1, d1, d2, d3⟩ := daysGo_ok (aw := 9) (n := n) (p := 265) hn (by omega) hm2 (w1.up (by unfold bnd; omega)) (up52' w2 (by omega)) (by rw [ob_at, if_neg (by decide)]; exact haw)
    have qm : QM M M1 := (QM.ob1 M _ (by omega)).tr (d3.q (by omega))
    have d1' : f_X7_daysGo (ob M 1 (290 + g) (nI i)) 265 (nI n) = some (goP 9 n (va_up a (25 + g) i), M1) := d1
    rw [show (290 : Int32) = nI 290 from rfl, nI_add, ck_nI (by omega) (by omega), nI_cl (by omega), d1', Option.bind_some]
    have u := ih fuel (M1) (bstep s (nI i) (goP 9 n (va_up a (25 + g) i))) ⟨i, hm2.copy (fun j hj => d3.2 _ (by omega))⟩ (by rw [qm.1 16 (by omega)]; exact haw) (by omega) (by omega)
    rw [← ei] at u
    obtain ⟨M3, u1, u2⟩ := u
    refine ⟨M3, ?_, qm.tr u2⟩
    rw [← u1]
    unfold bstep
    by_cases e : goP 9 n (va_up a (25 + g) i) ≤ s.2
    · rw [if_pos e, if_pos e]
      unfold f_X7_kind_b91 f_X7_kind_b107
      rw [if_pos e, nI_1]
    · rw [if_neg e, if_neg e]
      unfold f_X7_kind_b91 f_X7_kind_b107
      rw [if_neg e, nI_1]
theorem bsP_some {f : Nat → Int32} {n : Nat} (hn : n < 1000) : ∀ (k : Nat) (s : Int32 × Int32), k ≤ n → s.1 ≠ -4 → (bsP f n k s).1 ≠ -4
  | 0, _, _, h => h
  | k + 1, s, hk, h => by
    show (bsP f n k (bstep s (nI (n - (k + 1))) (f (n - (k + 1))))).1 ≠ -4
    refine bsP_some hn k _ (by omega) ?_
    unfold bstep
    split
    · exact h
    · exact nI_ne_neg (k := 4) (by omega) (by omega) (by omega)
theorem goP_nn (aw n : Nat) (a : Nat → Nat) : ¬ goP aw n a ≤ -1 := by
  unfold goP outP
  have : pc4 (whP (itP (dayP aw false) n a 51) 1 (itP (dayP aw false) n a) (itP (dayP aw false) n a 51) 0) ≤ 4 := by unfold pc4; omega
  generalize pc4 _ = x at this
  rw [fa_le, nI_toInt (by omega), show (-1 : Int32).toInt = -1 from by decide]
  omega
/-- where there is always one, the first candidate sets out from it -/
theorem bs_first {f : Nat → Int32} {n : Nat} (hn : n + 1 < 1000) (h0 : ¬ f 0 ≤ -1) (w : Int32) : tellP (bsP f (n + 1) (n + 1) (-4, -1)) w = tel2 (bsP f (n + 1) (n + 1) (0, -1)) w := by
  have e : ∀ u, bsP f (n + 1) (n + 1) (u, -1) = bsP f (n + 1) n (nI 0, f 0) := fun u => by
    show bsP f (n + 1) n (bstep (u, -1) (nI (n + 1 - (n + 1))) (f (n + 1 - (n + 1)))) = _
    rw [Nat.sub_self]
    unfold bstep
    rw [if_neg h0]
  rw [e, e]
  have h1 := bsP_some (f := f) hn n (nI 0, f 0) (by omega) (show nI 0 ≠ -4 by decide)
  unfold tellP tel2
  rw [if_neg h1]
theorem T_cut {X : Wd} {M : Ob} (h : Cpl X M) (a1 a2 : Int32) : OK X M (f_X6_cut X a1 a2) (f_X7_cut M a1 a2) := by
  obtain ⟨⟨a, hp⟩, -, -, -, -, -, -, hc⟩ := id h
  have ⟨w1, w2, w3, w4⟩ := hp
  unfold f_X6_cut f_X7_cut
  by_cases c : Rg a1 61
  · obtain ⟨n, hn, rfl⟩ := c
    rw [isAhead_y hn, bd1, in_y hn (by omega) (by decide), bd1]
    by_cases c2 : Rg a2 2
    · obtain ⟨k, hk, rfl⟩ := c2
      rw [isBit_y hk, bd1, in_y hk (by omega) (by decide), bd1]
      obtain ⟨X1, p1, p2⟩ := asItIs_ok w3 w1 w2 (n := n) (by omega)
      obtain ⟨z1, o1, o2, o3⟩ := above_ok (X1 3) (goP 9 n a)
      have q4 : RZ ((va_up X1 3 z1) 4) a := by rw [va_up_ne _ _ (by omega), p2.1 4 (by omega)]; exact w3
      obtain ⟨X2, u1, u2⟩ := cut6_l (w := nI k) w1 w2 (n := n) (by omega) 24 FUEL (va_up X1 3 z1) (-4, goP 9 n a) q4 (by rw [va_up_self]; exact o2) (by rw [va_up_self]; exact o3) (by omega) (by unfold FUEL; omega)
      obtain ⟨M1, d1, d2, d3⟩ := daysGo_ok (aw := 9) (n := n) (p := 0) (by omega) (by omega) w4 w1 (by omega) (Or.inl ⟨rfl, hc.1⟩)
      have qm := d3.q (by omega)
      obtain ⟨M2, v1, v2⟩ := cut7_l (w := nI k) w1 w2 (n := n) (by omega) 24 FUEL M1 (-4, goP 9 n a) (w4.copy (fun j hj => qm.2.2 _ (by omega))) (by rw [qm.1 16 (by omega)]; exact Or.inl ⟨rfl, hc.1⟩) (by omega) (by unfold FUEL; omega)
      have d1' : f_X7_daysGo M 0 (nI n) = some (goP 9 n a, M1) := d1
      rw [p1, Option.bind_some, o1, Option.bind_some, d1', Option.bind_some]
      exact OK.q h u1 v1 ((p2.tr (QX.up z1 (by omega))).tr u2) (qm.tr v2)
    · rw [isBit_n c2, bd0, in_n c2 (by omega) (by decide), bd0]
      exact OK.same h _ rfl rfl
  · rw [isAhead_n c, bd0, in_n c (by omega) (by decide), bd0]
    exact OK.same h _ rfl rfl
theorem T_sack {X : Wd} {M : Ob} (h : Cpl X M) (a1 a2 : Int32) : OK X M (f_X6_sack X a1 a2) (f_X7_sack M a1 a2) := by
  obtain ⟨⟨a, hp⟩, -, -, -, -, -, -, hc⟩ := id h
  have ⟨w1, w2, w3, w4⟩ := hp
  have h37 := w1.2.2.1
  unfold f_X6_sack f_X7_sack
  by_cases c : Rg a1 61
  · obtain ⟨n, hn, rfl⟩ := c
    rw [isAhead_y hn, bd1, in_y hn (by omega) (by decide), bd1]
    by_cases c2 : Rg a2 2
    · obtain ⟨k, hk, rfl⟩ := c2
      rw [isBit_y hk, bd1, in_y hk (by omega) (by decide), bd1]
      obtain ⟨X1, p1, p2⟩ := asItIs_ok w3 w1 w2 (n := n) (by omega)
      obtain ⟨z1, o1, o2, o3⟩ := above_ok (X1 3) (goP 9 n a)
      have q4 : RZ ((va_up X1 3 z1) 4) a := by rw [va_up_ne _ _ (by omega), p2.1 4 (by omega)]; exact w3
      obtain ⟨X2, u1, u2⟩ := sack6_l (w := nI k) w1 w2 (n := n) (by omega) (a 37) FUEL (va_up X1 3 z1) (-4, goP 9 n a) q4 (by rw [va_up_self]; exact o2) (by rw [va_up_self]; exact o3) (Nat.le_refl _) (by unfold FUEL; omega)
      obtain ⟨M1, d1, d2, d3⟩ := daysGo_ok (aw := 9) (n := n) (p := 0) (by omega) (by omega) w4 w1 (by omega) (Or.inl ⟨rfl, hc.1⟩)
      have qm := d3.q (by omega)
      obtain ⟨M2, v1, v2⟩ := sack7_l (w := nI k) w1 w2 (n := n) (by omega) (a 37) FUEL M1 (-4, goP 9 n a) (w4.copy (fun j hj => qm.2.2 _ (by omega))) (by rw [qm.1 16 (by omega)]; exact Or.inl ⟨rfl, hc.1⟩) (Nat.le_refl _) (by unfold FUEL; omega)
      have d1' : f_X7_daysGo M 0 (nI n) = some (goP 9 n a, M1) := d1
      rw [p1, Option.bind_some, o1, Option.bind_some, d1', Option.bind_some]
      rw [Nat.sub_self] at u1 v1
      exact OK.q h u1 v1 ((p2.tr (QX.up z1 (by omega))).tr u2) (qm.tr v2)
    · rw [isBit_n c2, bd0, in_n c2 (by omega) (by decide), bd0]
      exact OK.same h _ rfl rfl
  · rw [isAhead_n c, bd0, in_n c (by omega) (by decide), bd0]
    exact OK.same h _ rfl rfl
theorem T_door {X : Wd} {M : Ob} (h : Cpl X M) (a1 a2 : Int32) : OK X M (f_X6_door X a1 a2) (f_X7_door M a1 a2) := by
  obtain ⟨⟨a, hp⟩, -, -, -, -, -, -, hc⟩ := id h
  have ⟨w1, w2, w3, w4⟩ := hp
  unfold f_X6_door f_X7_door
  by_cases c : Rg a1 61
  · obtain ⟨n, hn, rfl⟩ := c
    rw [isAhead_y hn, bd1, in_y hn (by omega) (by decide), bd1]
    by_cases c2 : Rg a2 2
    · obtain ⟨k, hk, rfl⟩ := c2
      rw [isBit_y hk, bd1, in_y hk (by omega) (by decide), bd1]
      obtain ⟨z1, o1, o2, o3⟩ := above_ok (X 3) (-1)
      have q4 : RZ ((va_up X 3 z1) 4) a := by rw [va_up_ne _ _ (by omega)]; exact w3
      obtain ⟨X2, u1, u2⟩ := door6_l (w := nI k) w1 w2 (n := n) (by omega) 16 FUEL (va_up X 3 z1) (-4, -1) q4 (by rw [va_up_self]; exact o2) (by rw [va_up_self]; exact o3) (by omega) (by unfold FUEL; omega)
      obtain ⟨M0, r0, r1, r2⟩ := copies_ok (p := 0) (q := 265) (by omega) (by omega) (by omega) M
      have hm0 := w4.copy r2
      obtain ⟨M2, v1, v2⟩ := door7_l (w := nI k) w1 w2 (n := n) (by omega) 16 FUEL M0 (0, -1) ⟨a 24, by rw [show va_up a 24 (a 24) = a from by funext j; rw [vn_at]; split <;> simp_all]; exact hm0⟩ (by rw [r1.1 0 (by decide)]; exact Or.inl ⟨rfl, hc.1⟩) (by omega) (by unfold FUEL; omega)
      rw [← bs_first (by omega) (goP_nn _ _ _)] at v1
      have r0' : f_X7_copies M 0 265 = some M0 := r0
      rw [o1, Option.bind_some, r0', Option.bind_some]
      exact OK.q h u1 v1 ((QX.up z1 (by omega)).tr u2) ((r1.q (by omega)).tr v2)
    · rw [isBit_n c2, bd0, in_n c2 (by omega) (by decide), bd0]
      exact OK.same h _ rfl rfl
  · rw [isAhead_n c, bd0, in_n c (by omega) (by decide), bd0]
    exact OK.same h _ rfl rfl
theorem T_kind {X : Wd} {M : Ob} (h : Cpl X M) (a1 a2 a3 : Int32) : OK X M (f_X6_kind X a1 a2 a3) (f_X7_kind M a1 a2 a3) := by
  obtain ⟨⟨a, hp⟩, -, -, -, -, -, -, hc⟩ := id h
  have ⟨w1, w2, w3, w4⟩ := hp
  have h37 := w1.2.2.1
  have z4 := w3.2.2.2.2.1
  have e37 := hp.m (k := 37) (by omega) (by omega)
  unfold f_X6_kind f_X7_kind
  by_cases c0 : Rg a1 (a 37)
  · obtain ⟨g, hg, rfl⟩ := c0
    rw [isGardener_y z4 hg h37, bd1, mGardener_y e37 hg h37, bd1]
    by_cases c : Rg a2 61
    · obtain ⟨n, hn, rfl⟩ := c
      rw [isAhead_y hn, bd1, in_y hn (by omega) (by decide), bd1]
      by_cases c2 : Rg a3 2
      · obtain ⟨k, hk, rfl⟩ := c2
        rw [isBit_y hk, bd1, in_y hk (by omega) (by decide), bd1]
        obtain ⟨z1, o1, o2, o3⟩ := above_ok (X 3) (-1)
        have q4 : RZ ((va_up X 3 z1) 4) a := by rw [va_up_ne _ _ (by omega)]; exact w3
        obtain ⟨X2, u1, u2⟩ := kind6_l (w := nI k) hg w1 w2 (n := n) (by omega) 4 FUEL (va_up X 3 z1) (-4, -1) q4 (by rw [va_up_self]; exact o2) (by rw [va_up_self]; exact o3) (by omega) (by unfold FUEL; omega)
        obtain ⟨M0, r0, r1, r2⟩ := copies_ok (p := 0) (q := 265) (by omega) (by omega) (by omega) M
        have hm0 := w4.copy r2
        obtain ⟨M2, v1, v2⟩ := kind7_l (w := nI k) hg w1 w2 (n := n) (by omega) 4 FUEL M0 (0, -1) ⟨a (25 + g), by rw [show va_up a (25 + g) (a (25 + g)) = a from by funext j; rw [vn_at]; split <;> simp_all]; exact hm0⟩ (by rw [r1.1 0 (by decide)]; exact Or.inl ⟨rfl, hc.1⟩) (by omega) (by unfold FUEL; omega)
        rw [← bs_first (by omega) (goP_nn _ _ _)] at v1
        have r0' : f_X7_copies M 0 265 = some M0 := r0
        rw [o1, Option.bind_some, r0', Option.bind_some]
        exact OK.q h u1 v1 ((QX.up z1 (by omega)).tr u2) ((r1.q (by omega)).tr v2)
      · rw [isBit_n c2, bd0, in_n c2 (by omega) (by decide), bd0]
        exact OK.same h _ rfl rfl
    · rw [isAhead_n c, bd0, in_n c (by omega) (by decide), bd0]
      exact OK.same h _ rfl rfl
  · rw [isGardener_n z4 c0 h37, bd0, mGardener_n e37 c0 h37, bd0]
    exact OK.same h _ rfl rfl
