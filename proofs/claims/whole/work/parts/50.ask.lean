/-! where to look when -/
theorem nb_bit {f : Nat → Bool} {m : Nat} : ∀ (k x j : Nat), k ≤ m → (nbP f m k x).testBit j = (x.testBit j || (decide (m - k ≤ j ∧ j < m) && f j))
  | 0, x, j, _ => by
    show x.testBit j = _
    rw [show decide (m - 0 ≤ j ∧ j < m) = false from decide_eq_false (by omega), Bool.false_and, Bool.or_false]
  | k + 1, x, j, hk => by
    show (nbP f m k (x ||| (if f (m - (k + 1)) then 1 <<< (m - (k + 1)) else 0))).testBit j = _
    rw [nb_bit k _ j (by omega), Nat.testBit_or]
    have e : (if f (m - (k + 1)) then 1 <<< (m - (k + 1)) else 0 : Nat).testBit j = (decide (m - (k + 1) = j) && f (m - (k + 1))) := by
      cases f (m - (k + 1)) with
      | true =>
        rw [if_pos rfl, show 1 <<< (m - (k + 1)) = 2 ^ (m - (k + 1)) from by rw [Nat.shiftLeft_eq, Nat.one_mul], Nat.testBit_two_pow, Bool.and_true]
      | false => rw [if_neg (by decide), Nat.zero_testBit, Bool.and_false]
    rw [e]
    by_cases c : j = m - (k + 1)
    · subst c
      rw [show decide (m - k ≤ m - (k + 1) ∧ m - (k + 1) < m) = false from decide_eq_false (by omega), show decide (m - (k + 1) = m - (k + 1)) = true from decide_eq_true rfl, show decide (m - (k + 1) ≤ m - (k + 1) ∧ m - (k + 1) < m) = true from decide_eq_true (by omega)]
      simp
    · rw [show decide (m - (k + 1) = j) = false from decide_eq_false (by omega)]
      by_cases c2 : m - k ≤ j ∧ j < m
      · rw [show decide (m - k ≤ j ∧ j < m) = true from decide_eq_true c2, show decide (m - (k + 1) ≤ j ∧ j < m) = true from decide_eq_true (by omega)]
        simp
      · rw [show decide (m - k ≤ j ∧ j < m) = false from decide_eq_false c2, show decide (m - (k + 1) ≤ j ∧ j < m) = false from decide_eq_false (by omega)]
        simp
theorem nb_lt {f : Nat → Bool} {m : Nat} (hm : m ≤ 24) : ∀ (k x : Nat), k ≤ m → x < 16777216 → nbP f m k x < 16777216
  | 0, _, _, h => h
  | k + 1, x, hk, h => by
    refine nb_lt hm k _ (by omega) (Nat.or_lt_two_pow (n := 24) h ?_)
    split
    · rw [Nat.shiftLeft_eq, Nat.one_mul]
      exact Nat.pow_lt_pow_right (by decide) (by omega)
    · decide
theorem pcb_ct : ∀ (k m : Nat), pcb k m = fb_ct (fun i => m.testBit i) k
  | 0, _ => rfl
  | k + 1, m => by
    have h := fb_ct_split (fun i => m.testBit i) 1 k
    rw [Nat.add_comm 1 k] at h
    show m % 2 + pcb k (m / 2) = _
    rw [pcb_ct k (m / 2), h]
    have e1 : fb_ct (fun i => m.testBit i) 1 = m % 2 := by
      show 0 + (if m.testBit 0 then 1 else 0) = m % 2
      rw [Nat.testBit_zero]
      by_cases c : m % 2 = 1
      · simp [c]
      · simp [c]; omega
    rw [e1]
    congr 1
    apply fb_ct_cong
    intro i _
    show (m / 2).testBit i = m.testBit (1 + i)
    rw [show 1 + i = i + 1 from by omega, Nat.testBit_add_one]
/-- votes -/
theorem vote10 {V : Nat → Nat} {d : Nat} (hd : d < 21) (hV : V d < 16777216) {k2 : Ob → Int32 → Option Ob} : ∀ (k fuel : Nat) (z : Ob), z 4 d = nI (V d) → k ≤ 24 → k < fuel → ∃ z', f_X4_vote_l10 k2 fuel z (nI d) (nI (24 - k)) = k2 z' (nI (d + 1)) ∧ (∀ q, q ≠ 5 → z' q = z q) ∧ ∀ j, z' 5 j = if d * 24 + (24 - k) ≤ j ∧ j < d * 24 + 24 then z 5 j + nI (hbt (V d) (j - d * 24)) else z 5 j := by
  intro k
  induction k with
  | zero =>
    intro fuel z hz hk hf
    obtain ⟨fuel, rfl⟩ : ∃ f, fuel = f + 1 := ⟨fuel - 1, by omega⟩
    rw [f_X4_vote_l10, if_pos (show (24 : Int32) ≤ nI (24 - 0) by decide), nI_1]
    exact ⟨z, rfl, fun _ _ => rfl, fun j => by rw [if_neg (by omega)]⟩
  | succ k ih =>
    intro fuel z hz hk hf
    obtain ⟨fuel, rfl⟩ : ∃ f, fuel = f + 1 := ⟨fuel - 1, by omega⟩
    rw [f_X4_vote_l10, if_neg (show ¬ (24 : Int32) ≤ nI (24 - (k + 1)) from fun q => absurd ((nI_le_iff (a := 24) (by omega) (by omega)).mp q) (by omega)), show (24 : Int32) = nI 24 from rfl, nI_mul, nI_add, ck_nI (by omega) (by omega), ck_nI (by omega) (by omega), ck_nI (by omega) (by omega), nI_cl (by omega), nI_cl (by omega), hz, bit_at hV (by omega), nI_1, show 24 - (k + 1) + 1 = 24 - k from by omega]
    obtain ⟨z', r1, r2, r3⟩ := ih fuel (ob z 5 (d * 24 + (24 - (k + 1))) (z 5 (d * 24 + (24 - (k + 1))) + nI (hbt (V d) (24 - (k + 1))))) (by rw [ob_at, if_neg (by decide)]; exact hz) (by omega) (by omega)
    refine ⟨z', r1, fun q hq => ?_, fun j => ?_⟩
    · rw [r2 q hq]; funext i; rw [ob_at, if_neg hq]
    · rw [r3 j, ob_at, if_pos rfl]
      by_cases e : j = d * 24 + (24 - (k + 1))
      · rw [if_neg (by omega), if_pos e, if_pos (by omega), e, show d * 24 + (24 - (k + 1)) - d * 24 = 24 - (k + 1) from by omega]
      · rw [if_neg e]
        by_cases c : d * 24 + (24 - k) ≤ j ∧ j < d * 24 + 24
        · rw [if_pos c, if_pos (by omega)]
        · rw [if_neg c, if_neg (by omega)]
theorem vote2 {V : Nat → Nat} (hV : ∀ d, d < 21 → V d < 16777216) : ∀ (k fuel : Nat) (z : Ob), (∀ d, d < 21 → z 4 d = nI (V d)) → k ≤ 21 → k < fuel → ∃ z', f_X4_vote_l2 fuel z (nI (21 - k)) = some z' ∧ (∀ q, q ≠ 5 → z' q = z q) ∧ ∀ j, z' 5 j = if (21 - k) * 24 ≤ j ∧ j < 504 then z 5 j + nI (hbt (V (j / 24)) (j % 24)) else z 5 j := by
  intro k
  induction k with
  | zero =>
    intro fuel z hz hk hf
    obtain ⟨fuel, rfl⟩ : ∃ f, fuel = f + 1 := ⟨fuel - 1, by omega⟩
    rw [f_X4_vote_l2, if_pos (show (20 : Int32) < nI (21 - 0) by decide)]
    exact ⟨z, rfl, fun _ _ => rfl, fun j => by rw [if_neg (by omega)]⟩
  | succ k ih =>
    intro fuel z hz hk hf
    obtain ⟨fuel, rfl⟩ : ∃ f, fuel = f + 1 := ⟨fuel - 1, by omega⟩
    have v10 := vote10 (V := V) (d := 21 - (k + 1)) (by omega) (hV _ (by omega)) (k2 := f_X4_vote_l2 fuel) 24 FUEL z (hz _ (by omega)) (by omega) (by unfold FUEL; omega)
    rw [Nat.sub_self] at v10
    obtain ⟨z1, r1, r2, r3⟩ := v10
    have r1' : f_X4_vote_l10 (f_X4_vote_l2 fuel) FUEL z (nI (21 - (k + 1))) 0 = f_X4_vote_l2 fuel z1 (nI (21 - (k + 1) + 1)) := r1
    rw [f_X4_vote_l2, if_neg (show ¬ (20 : Int32) < nI (21 - (k + 1)) from fun q => absurd ((nI_lt_iff (a := 20) (by omega) (by omega)).mp q) (by omega)), r1', show 21 - (k + 1) + 1 = 21 - k from by omega]
    obtain ⟨z2, u1, u2, u3⟩ := ih fuel z1 (fun d hd => by rw [r2 4 (by omega)]; exact hz d hd) (by omega) (by omega)
    refine ⟨z2, u1, fun q hq => by rw [u2 q hq, r2 q hq], fun j => ?_⟩
    rw [u3 j, r3 j]
    by_cases c : (21 - (k + 1)) * 24 + 0 ≤ j ∧ j < (21 - (k + 1)) * 24 + 24
    · rw [if_pos c, if_neg (by omega), if_pos (by omega), show j / 24 = 21 - (k + 1) from by omega, show j % 24 = j - (21 - (k + 1)) * 24 from by omega]
    · rw [if_neg c]
      by_cases c2 : (21 - k) * 24 ≤ j ∧ j < 504
      · rw [if_pos c2, if_pos (by omega)]
      · rw [if_neg c2, if_neg (by omega)]
theorem vote_ok {V : Nat → Nat} (hV : ∀ d, d < 21 → V d < 16777216) {z : Ob} (hz : ∀ d, d < 21 → z 4 d = nI (V d)) : ∃ z', f_X4_vote z = some z' ∧ (∀ q, q ≠ 5 → z' q = z q) ∧ ∀ j, j < 504 → z' 5 j = z 5 j + nI (hbt (V (j / 24)) (j % 24)) := by
  obtain ⟨z', r1, r2, r3⟩ := vote2 hV 21 FUEL z hz (by omega) (by unfold FUEL; omega)
  refine ⟨z', r1, r2, fun j hj => ?_⟩
  rw [r3 j, if_pos (by omega)]
def vtF (f : Nat → Bool) (U : Nat → Nat → Nat) (d h i : Nat) : Nat := if f i then hbt (U i d) h else 0
theorem vt_no {f : Nat → Bool} {U : Nat → Nat → Nat} {d h i : Nat} (hf : f i = false) : vtF f U d h i = 0 := by unfold vtF; rw [hf, if_neg (by decide)]
theorem vt_yes {f : Nat → Bool} {U : Nat → Nat → Nat} {d h i : Nat} (hf : f i = true) : vtF f U d h i = hbt (U i d) h := by unfold vtF; rw [hf, if_pos rfl]
def astep (s : Int32 × Int32) (c w : Int32) : Int32 × Int32 := if s.2 ≤ w then s else (c, w)
def mxA (u A : Nat) : Nat := if u < A - u then A - u else u
def akH (W : Nat → Int32) (d : Nat) : Nat → Int32 × Int32 → Int32 × Int32
  | 0, s => s
  | k + 1, s => akH W d k (astep s (nI (100 * d + (24 - (k + 1)))) (W (24 - (k + 1))))
def akD (W : Nat → Nat → Int32) : Nat → Int32 × Int32 → Int32 × Int32
  | 0, s => s
  | k + 1, s => akD W k (akH (W (21 - (k + 1))) (21 - (k + 1)) 24 s)
theorem vt_le (f : Nat → Bool) (U : Nat → Nat → Nat) (d h : Nat) : ∀ t, fb_sm (vtF f U d h) t ≤ fb_ct f t
  | 0 => Nat.le_refl _
  | t + 1 => by
    have h1 := vt_le f U d h t
    have h2 := hbt_lt (U t d) h
    rw [fb_sm_succ, fb_ct_succ]
    unfold vtF
    by_cases c : f t = true
    · rw [if_pos c, if_pos c]
      have : fb_sm (vtF f U d h) t ≤ fb_ct f t := h1
      unfold vtF at this
      omega
    · rw [if_neg c, if_neg c]
      exact h1
/-- the class: tastes one by one, with votes -/
theorem ask6_t {a : Nat → Nat} {s : Nat} {n e v : Nat → Nat} {w : Int32} (w1 : WF a) (w2 : a 52 ≤ 999) {g : Nat} (hg : g < a 37) : ∀ (k fuel : Nat) (X : Wd), RZ (X 4) a → SZ (X 2) s n e v → (∀ j, j < 504 → X 2 5 j = nI (fb_sm (vtF (fun i => ftP s n e v (va_up a (29 + g) i) s) (fun i => vwP (va_up a (29 + g) i)) (j / 24) (j % 24)) (24 - k))) → k ≤ 24 → k < fuel → ∃ X1, f_X6_ask_l29 fuel X (nI g) w (nI (fb_ct (fun i => ftP s n e v (va_up a (29 + g) i) s) (24 - k))) (nI (24 - k)) = f_X6_ask_l72 FUEL X1 w (nI (fb_ct (fun i => ftP s n e v (va_up a (29 + g) i) s) 24)) (nI (fb_ct (fun i => ftP s n e v (va_up a (29 + g) i) s) 24)) (-4) 0 ∧ QX X X1 ∧ ∀ j, j < 504 → X1 2 5 j = nI (fb_sm (vtF (fun i => ftP s n e v (va_up a (29 + g) i) s) (fun i => vwP (va_up a (29 + g) i)) (j / 24) (j % 24)) 24) := by
  have h37 := w1.2.2.1
  generalize hF : (fun i => ftP s n e v (va_up a (29 + g) i) s) = F
  intro k
  induction k with
  | zero =>
    intro fuel X w3 hs hv hk hf
    obtain ⟨fuel, rfl⟩ : ∃ f, fuel = f + 1 := ⟨fuel - 1, by omega⟩
    rw [f_X6_ask_l29, if_pos (show (24 : Int32) ≤ nI (24 - 0) by decide)]
    exact ⟨X, rfl, QX.rf X, hv⟩
  | succ k ih =>
    intro fuel X w3 hs hv hk hf
    obtain ⟨fuel, rfl⟩ : ∃ f, fuel = f + 1 := ⟨fuel - 1, by omega⟩
    have hb : bnd (29 + g) (24 - (k + 1)) := by unfold bnd; omega
    obtain ⟨z0, z2, z5, b1, f1, qx, f2, f3⟩ := look6 w1 w2 w3 hs (c := 2) (i := 24 - (k + 1)) hg (by omega) hb
    have f1' : f_X4_fits (X 2) (ob z0 2 g (nI (24 - (k + 1)))) = some (b2i (F (24 - (k + 1))), z2, z5) := by rw [← hF]; exact f1
    have hck : ∀ (f : Bool) (K : Option (Int32 × Wd)), ckb (b2i f) K = K := fun f K => by cases f <;> rfl
    have x2 : (va_up (va_up (wo (va_up X 5 z0) 5 2 g (nI (24 - (k + 1)))) 2 z2) 5 z5) 2 = z2 := by rw [va_up_ne _ _ (by omega), va_up_self]
    rw [f_X6_ask_l29, if_neg (show ¬ (24 : Int32) ≤ nI (24 - (k + 1)) from fun q => absurd ((nI_le_iff (a := 24) (by omega) (by omega)).mp q) (by omega))]
    unfold f_X6_isTasteAsSeen
    rw [b1, Option.bind_some, ck_nI (by omega) (by omega), nI_cl (by omega), f1', Option.bind_some]
    unfold f_X6_ask_b56
    dsimp only
    rw [hck, Option.bind_some]
    dsimp only
    generalize hX2 : va_up (va_up (wo (va_up X 5 z0) 5 2 g (nI (24 - (k + 1)))) 2 z2) 5 z5 = X2 at qx x2
    have e24 : 24 - (k + 1) + 1 = 24 - k := by omega
    rw [show nI (24 - (k + 1)) + (1 : Int32) = nI (24 - k) from by rw [nI_1, e24]]
    have v5 : ∀ j, j < 504 → X2 2 5 j = nI (fb_sm (vtF F (fun i => vwP (va_up a (29 + g) i)) (j / 24) (j % 24)) (24 - (k + 1))) := fun j hj => by rw [x2, f2 5 (by omega)]; exact hv j hj
    have st : ∀ j, fb_sm (vtF F (fun i => vwP (va_up a (29 + g) i)) (j / 24) (j % 24)) (24 - k) = fb_sm (vtF F (fun i => vwP (va_up a (29 + g) i)) (j / 24) (j % 24)) (24 - (k + 1)) + vtF F (fun i => vwP (va_up a (29 + g) i)) (j / 24) (j % 24) (24 - (k + 1)) := fun j => by rw [← e24, fb_sm_succ]
    have sc : fb_ct F (24 - k) = fb_ct F (24 - (k + 1)) + (if F (24 - (k + 1)) then 1 else 0) := by rw [← e24, fb_ct_succ]
    cases hFt : F (24 - (k + 1)) with
    | false =>
      rw [if_pos (show b2i false = 0 by decide)]
      rw [hFt, if_neg (by decide), Nat.add_zero] at sc
      rw [← sc]
      obtain ⟨X3, u1, u2, u3⟩ := ih fuel X2 (by rw [qx.1 4 (by omega)]; exact w3) (hs.keep qx.2) (fun j hj => by
        rw [v5 j hj, st j, vt_no hFt]
        rfl) (by omega) (by omega)
      exact ⟨X3, u1, qx.tr u2, u3⟩
    | true =>
      rw [if_neg (show ¬ b2i true = 0 by decide)]
      rw [hFt, if_pos rfl] at sc
      obtain ⟨z', r1, r2, r3⟩ := vote_ok (V := vwP (va_up a (29 + g) (24 - (k + 1)))) (fun d _ => vwP_lt (w1.up hb) d) (z := X2 2) (fun d hd => by rw [x2]; exact f3 d hd)
      have q2 : QX X2 (va_up X2 2 z') := QX.up2 (fun c hc => r2 c (by omega))
      rw [r1, Option.bind_some, nI_1, ← sc]
      obtain ⟨X3, u1, u2, u3⟩ := ih fuel (va_up X2 2 z') (by rw [q2.1 4 (by omega), qx.1 4 (by omega)]; exact w3) (hs.keep (qx.tr q2).2) (fun j hj => by
        rw [va_up_self, r3 j hj, v5 j hj, nI_add, st j, vt_yes hFt]) (by omega) (by omega)
      exact ⟨X3, u1, (qx.tr q2).tr u2, u3⟩
theorem ask6_h {U : Nat → Nat} {A d : Nat} (hA : A ≤ 24) (hU : ∀ h, h < 24 → U h ≤ A) (hd : d < 21) {w : Int32} {X : Wd} (hX : ∀ h, h < 24 → X 2 5 (d * 24 + h) = nI (U h)) {k72 : Wd → Int32 → Int32 → Int32 → Int32 → Int32 → Option (Int32 × Wd)} : ∀ (k fuel : Nat) (s : Int32 × Int32), k ≤ 24 → k < fuel → f_X6_ask_l82 k72 fuel X w (nI A) s.2 s.1 (nI d) (nI (24 - k)) = k72 X w (nI A) (akH (fun h => nI (mxA (U h) A)) d k s).2 (akH (fun h => nI (mxA (U h) A)) d k s).1 (nI (d + 1)) := by
  intro k
  induction k with
  | zero =>
    intro fuel s hk hf
    obtain ⟨fuel, rfl⟩ : ∃ f, fuel = f + 1 := ⟨fuel - 1, by omega⟩
    rw [f_X6_ask_l82, if_pos (show (24 : Int32) ≤ nI (24 - 0) by decide), nI_1]
    rfl
  | succ k ih =>
    intro fuel s hk hf
    obtain ⟨fuel, rfl⟩ : ∃ f, fuel = f + 1 := ⟨fuel - 1, by omega⟩
    have hu := hU (24 - (k + 1)) (by omega)
    have wm : (if nI (U (24 - (k + 1))) < nI A - nI (U (24 - (k + 1))) then nI A - nI (U (24 - (k + 1))) else nI (U (24 - (k + 1)))) = nI (mxA (U (24 - (k + 1))) A) := by
      unfold mxA
      rw [nI_sub hu]
      by_cases c : U (24 - (k + 1)) < A - U (24 - (k + 1))
      · rw [if_pos c, if_pos ((nI_lt_iff (by omega) (by omega)).mpr c)]
      · rw [if_neg c, if_neg (fun q => c ((nI_lt_iff (by omega) (by omega)).mp q))]
    rw [f_X6_ask_l82, if_neg (show ¬ (24 : Int32) ≤ nI (24 - (k + 1)) from fun q => absurd ((nI_le_iff (a := 24) (by omega) (by omega)).mp q) (by omega)), show (24 : Int32) = nI 24 from rfl, nI_mul, nI_add, ck_nI (by omega) (by omega), nI_cl (by omega), hX _ (by omega), wm]
    unfold f_X6_ask_b139
    rw [nI_1, show 24 - (k + 1) + 1 = 24 - k from by omega, show (100 : Int32) * nI d = nI (100 * d) from nI_mul 100 d, nI_add]
    show _ = k72 X w (nI A) (akH (fun h => nI (mxA (U h) A)) d k (astep s (nI (100 * d + (24 - (k + 1)))) (nI (mxA (U (24 - (k + 1))) A)))).2 (akH (fun h => nI (mxA (U h) A)) d k (astep s (nI (100 * d + (24 - (k + 1)))) (nI (mxA (U (24 - (k + 1))) A)))).1 (nI (d + 1))
    rw [← ih fuel _ (by omega) (by omega)]
    unfold astep
    by_cases c : s.2 ≤ nI (mxA (U (24 - (k + 1))) A)
    · rw [if_pos c, if_pos c]
    · rw [if_neg c, if_neg c]
theorem ask6_d {U : Nat → Nat → Nat} {A : Nat} (hA : A ≤ 24) (hU : ∀ d h, d < 21 → h < 24 → U d h ≤ A) {w : Int32} {X : Wd} (hX : ∀ d h, d < 21 → h < 24 → X 2 5 (d * 24 + h) = nI (U d h)) : ∀ (k fuel : Nat) (s : Int32 × Int32), k ≤ 21 → k < fuel → f_X6_ask_l72 fuel X w (nI A) s.2 s.1 (nI (21 - k)) = some (tellP (akD (fun d h => nI (mxA (U d h) A)) k s) w, X) := by
  intro k
  induction k with
  | zero =>
    intro fuel s hk hf
    obtain ⟨fuel, rfl⟩ : ∃ f, fuel = f + 1 := ⟨fuel - 1, by omega⟩
    rw [f_X6_ask_l72, if_pos (show (20 : Int32) < nI (21 - 0) by decide)]
    unfold f_X6_ask_b162 tellP akD
    by_cases e1 : s.1 = -4
    · rw [if_pos e1, if_pos e1]
    · rw [if_neg e1, if_neg e1]
      by_cases e2 : w = 0
      · rw [if_pos e2, if_pos e2]
      · rw [if_neg e2, if_neg e2]
  | succ k ih =>
    intro fuel s hk hf
    obtain ⟨fuel, rfl⟩ : ∃ f, fuel = f + 1 := ⟨fuel - 1, by omega⟩
    have l82 := ask6_h hA (fun h hh => hU (21 - (k + 1)) h (by omega) hh) (show 21 - (k + 1) < 21 by omega) (w := w) (X := X) (fun h hh => hX (21 - (k + 1)) h (by omega) hh) (k72 := f_X6_ask_l72 fuel) 24 FUEL s (by omega) (by unfold FUEL; omega)
    rw [Nat.sub_self] at l82
    have l82' : f_X6_ask_l82 (f_X6_ask_l72 fuel) FUEL X w (nI A) s.2 s.1 (nI (21 - (k + 1))) 0 = _ := l82
    rw [f_X6_ask_l72, if_neg (show ¬ (20 : Int32) < nI (21 - (k + 1)) from fun q => absurd ((nI_lt_iff (a := 20) (by omega) (by omega)).mp q) (by omega)), l82', show 21 - (k + 1) + 1 = 21 - k from by omega, ih fuel _ (by omega) (by omega)]
    rfl
/-- the model -/
theorem ask7_v {F : Nat → Bool} {U : Nat → Nat → Nat} {S A d h : Nat} (hA : A = fb_ct F 24) (hS : S < 16777216) (hb : ∀ i, i < 24 → S.testBit i = F i) (hU : ∀ i d, U i d < 16777216) (hd : d < 21) (hh : h < 24) {w : Int32} {M : Ob} (hM : ∀ i, i < 24 → M 8 (21 * i + d) = nI (U i d)) {k48 : Ob → Int32 → Int32 → Int32 → Int32 → Int32 → Int32 → Option (Int32 × Ob)} {k58 : Ob → Int32 → Int32 → Int32 → Int32 → Int32 → Int32 → Int32 → Option (Int32 × Ob)} (s : Int32 × Int32) : ∀ (k fuel : Nat), k ≤ 24 → k < fuel → f_X7_ask_l71 k48 k58 fuel M w (nI S) (nI A) s.2 s.1 (nI d) (nI h) (nI (fb_sm (vtF F U d h) (24 - k))) (nI (24 - k)) = k58 M w (nI S) (nI A) (astep s (nI (100 * d + h)) (nI (mxA (fb_sm (vtF F U d h) 24) A))).2 (astep s (nI (100 * d + h)) (nI (mxA (fb_sm (vtF F U d h) 24) A))).1 (nI d) (nI (h + 1)) := by
  have hA2 : A ≤ 24 := by rw [hA]; exact fb_ct_le F 24
  have hu : fb_sm (vtF F U d h) 24 ≤ A := by rw [hA]; exact vt_le F U d h 24
  intro k
  induction k with
  | zero =>
    intro fuel hk hf
    obtain ⟨fuel, rfl⟩ : ∃ f, fuel = f + 1 := ⟨fuel - 1, by omega⟩
    rw [f_X7_ask_l71, if_pos (show (24 : Int32) ≤ nI (24 - 0) by decide), Nat.sub_zero]
    generalize fb_sm (vtF F U d h) 24 = u at hu
    have wm : (if nI u ≤ nI A - nI u then f_X7_ask_b141 k48 k58 M w (nI S) (nI A) s.2 s.1 (nI d) (nI h) (nI A - nI u) else f_X7_ask_b141 k48 k58 M w (nI S) (nI A) s.2 s.1 (nI d) (nI h) (nI u)) = f_X7_ask_b141 k48 k58 M w (nI S) (nI A) s.2 s.1 (nI d) (nI h) (nI (mxA u A)) := by
      unfold mxA
      rw [nI_sub hu]
      by_cases c : u ≤ A - u
      · rw [if_pos ((nI_le_iff (by omega) (by omega)).mpr c)]
        by_cases c2 : u < A - u
        · rw [if_pos c2]
        · rw [if_neg c2, show A - u = u from by omega]
      · rw [if_neg (fun q => c ((nI_le_iff (by omega) (by omega)).mp q)), if_neg (show ¬ u < A - u by omega)]
    rw [wm]
    unfold f_X7_ask_b141 f_X7_ask_b163 f_X7_ask_b179 astep
    rw [show (100 : Int32) * nI d = nI (100 * d) from nI_mul 100 d, nI_add, nI_1]
    by_cases c : s.2 ≤ nI (mxA u A)
    · rw [if_pos c, if_pos c, if_pos c]
    · rw [if_neg c, if_neg c, if_neg c]
  | succ k ih =>
    intro fuel hk hf
    obtain ⟨fuel, rfl⟩ : ∃ f, fuel = f + 1 := ⟨fuel - 1, by omega⟩
    have e24 : 24 - (k + 1) + 1 = 24 - k := by omega
    have es : fb_sm (vtF F U d h) (24 - k) = fb_sm (vtF F U d h) (24 - (k + 1)) + vtF F U d h (24 - (k + 1)) := by rw [← e24, fb_sm_succ]
    have hbt1 : hbt S (24 - (k + 1)) = if F (24 - (k + 1)) then 1 else 0 := by unfold hbt; rw [hb _ (by omega)]
    rw [f_X7_ask_l71, if_neg (show ¬ (24 : Int32) ≤ nI (24 - (k + 1)) from fun q => absurd ((nI_le_iff (a := 24) (by omega) (by omega)).mp q) (by omega)), bit_at hS (by omega), hbt1]
    unfold f_X7_ask_b112
    rw [← ih fuel (by omega) (by omega), es]
    cases hF : F (24 - (k + 1)) with
    | true =>
      rw [if_pos rfl, if_pos (show nI 1 = (1 : Int32) from rfl), show (21 : Int32) = nI 21 from rfl, nI_mul, nI_add, ck_nI (by omega) (by omega), nI_cl (by omega), hM _ (by omega), bit_at (hU _ _) hh, nI_add, nI_1, e24, vt_yes hF]
    | false =>
      rw [if_neg (show ¬ false = true by decide), if_neg (show ¬ nI 0 = (1 : Int32) by decide), show nI (fb_sm (vtF F U d h) (24 - (k + 1))) + (0 : Int32) = nI (fb_sm (vtF F U d h) (24 - (k + 1)) + 0) from nI_add _ 0, nI_1, e24, vt_no hF]
theorem ask7_h {F : Nat → Bool} {U : Nat → Nat → Nat} {S A d : Nat} (hA : A = fb_ct F 24) (hS : S < 16777216) (hb : ∀ i, i < 24 → S.testBit i = F i) (hU : ∀ i d, U i d < 16777216) (hd : d < 21) {w : Int32} {M : Ob} (hM : ∀ i, i < 24 → M 8 (21 * i + d) = nI (U i d)) {k48 : Ob → Int32 → Int32 → Int32 → Int32 → Int32 → Int32 → Option (Int32 × Ob)} : ∀ (k fuel : Nat) (s : Int32 × Int32), k ≤ 24 → k < fuel → f_X7_ask_l58 k48 fuel M w (nI S) (nI A) s.2 s.1 (nI d) (nI (24 - k)) = k48 M w (nI S) (nI A) (akH (fun h => nI (mxA (fb_sm (vtF F U d h) 24) A)) d k s).2 (akH (fun h => nI (mxA (fb_sm (vtF F U d h) 24) A)) d k s).1 (nI (d + 1)) := by
  intro k
  induction k with
  | zero =>
    intro fuel s hk hf
    obtain ⟨fuel, rfl⟩ : ∃ f, fuel = f + 1 := ⟨fuel - 1, by omega⟩
    rw [f_X7_ask_l58, if_pos (show (24 : Int32) ≤ nI (24 - 0) by decide), nI_1]
    rfl
  | succ k ih =>
    intro fuel s hk hf
    obtain ⟨fuel, rfl⟩ : ∃ f, fuel = f + 1 := ⟨fuel - 1, by omega⟩
    have l71 := ask7_v hA hS hb hU hd (show 24 - (k + 1) < 24 by omega) (w := w) hM (k48 := k48) (k58 := f_X7_ask_l58 k48 fuel) s 24 FUEL (by omega) (by unfold FUEL; omega)
    rw [Nat.sub_self] at l71
    have l71' : f_X7_ask_l71 k48 (f_X7_ask_l58 k48 fuel) FUEL M w (nI S) (nI A) s.2 s.1 (nI d) (nI (24 - (k + 1))) 0 0 = _ := l71
    rw [f_X7_ask_l58, if_neg (show ¬ (24 : Int32) ≤ nI (24 - (k + 1)) from fun q => absurd ((nI_le_iff (a := 24) (by omega) (by omega)).mp q) (by omega)), l71', show 24 - (k + 1) + 1 = 24 - k from by omega, ih fuel _ (by omega) (by omega)]
    rfl
theorem ask7_d {F : Nat → Bool} {U : Nat → Nat → Nat} {S A : Nat} (hA : A = fb_ct F 24) (hS : S < 16777216) (hb : ∀ i, i < 24 → S.testBit i = F i) (hU : ∀ i d, U i d < 16777216) {w : Int32} {M : Ob} (hM : ∀ i, i < 24 → ∀ d, d < 21 → M 8 (21 * i + d) = nI (U i d)) : ∀ (k fuel : Nat) (s : Int32 × Int32), k ≤ 21 → k < fuel → f_X7_ask_l48 fuel M w (nI S) (nI A) s.2 s.1 (nI (21 - k)) = some (tellP (akD (fun d h => nI (mxA (fb_sm (vtF F U d h) 24) A)) k s) w, M) := by
  intro k
  induction k with
  | zero =>
    intro fuel s hk hf
    obtain ⟨fuel, rfl⟩ : ∃ f, fuel = f + 1 := ⟨fuel - 1, by omega⟩
    rw [f_X7_ask_l48, if_pos (show (20 : Int32) < nI (21 - 0) by decide)]
    unfold f_X7_ask_b204 tellP akD
    by_cases e1 : s.1 = -4
    · rw [if_pos e1, if_pos e1]
    · rw [if_neg e1, if_neg e1]
      by_cases e2 : w = 0
      · rw [if_pos e2, if_pos e2]
      · rw [if_neg e2, if_neg e2]
  | succ k ih =>
    intro fuel s hk hf
    obtain ⟨fuel, rfl⟩ : ∃ f, fuel = f + 1 := ⟨fuel - 1, by omega⟩
    have l58 := ask7_h hA hS hb hU (show 21 - (k + 1) < 21 by omega) (w := w) (fun i hi => hM i hi (21 - (k + 1)) (by omega)) (k48 := f_X7_ask_l48 fuel) 24 FUEL s (by omega) (by unfold FUEL; omega)
    rw [Nat.sub_self] at l58
    have l58' : f_X7_ask_l58 (f_X7_ask_l48 fuel) FUEL M w (nI S) (nI A) s.2 s.1 (nI (21 - (k + 1))) 0 = _ := l58
    rw [f_X7_ask_l48, if_neg (show ¬ (20 : Int32) < nI (21 - (k + 1)) from fun q => absurd ((nI_lt_iff (a := 20) (by omega) (by omega)).mp q) (by omega)), l58', show 21 - (k + 1) + 1 = 21 - k from by omega, ih fuel _ (by omega) (by omega)]
    rfl
theorem T_ask {X : Wd} {M : Ob} (h : Cpl X M) (a1 a2 : Int32) : OK X M (f_X6_ask X a1 a2) (f_X7_ask M a1 a2) := by
  obtain ⟨⟨a, hp⟩, -, -, -, -, hsn, -, hc⟩ := id h
  have ⟨w1, w2, w3, w4⟩ := hp
  have h37 := w1.2.2.1
  have z4 := w3.2.2.2.2.1
  have e37 := hp.m (k := 37) (by omega) (by omega)
  obtain ⟨s, n, e, v, hz, hm⟩ := hsn.zm
  unfold f_X6_ask f_X7_ask
  by_cases c0 : Rg a1 (a 37)
  · obtain ⟨g, hg, rfl⟩ := c0
    rw [isGardener_y z4 hg h37, bd1, mGardener_y e37 hg h37, bd1]
    by_cases c2 : Rg a2 2
    · obtain ⟨k, hk, rfl⟩ := c2
      rw [isBit_y hk, bd1, in_y hk (by omega) (by decide), bd1]
      unfold f_X4_clearVotes
      obtain ⟨r, f1, f2⟩ := fill_ok (n := 504) (by omega) (X 2 5) 0
      have q0 : QX X (va_up X 2 (va_up (X 2) 5 r)) := QX.up2 (fun c hc => va_up_ne _ _ (by omega))
      obtain ⟨X1, u1, u2, u3⟩ := ask6_t (s := s) (n := n) (e := e) (v := v) (w := nI k) w1 w2 hg 24 FUEL (va_up X 2 (va_up (X 2) 5 r)) (by rw [q0.1 4 (by omega)]; exact w3) (hz.keep q0.2) (fun j hj => by rw [va_up_self, va_up_self, f2 j hj]; rfl) (by omega) (by unfold FUEL; omega)
      obtain ⟨M1, v1, v2, v3⟩ := numbers_ok (m := 24) (at_ := 29 + g) w4 w1 w2 hm (Or.inl ⟨rfl, hc.1⟩) (by omega) (by omega) (fun x hx => by unfold bnd; omega)
      have v1' : f_X7_numbersAt M ((29 : Int32) + nI g) 23 = some (nI (nbP (fun i => ftP s n e v (va_up a (29 + g) i) s) 24 24 0), M1) := by
        rw [show (29 : Int32) = nI 29 from rfl, nI_add]; exact v1
      have u1' : f_X6_ask_l29 FUEL (va_up X 2 (va_up (X 2) 5 r)) (nI g) (nI k) 0 0 = f_X6_ask_l72 FUEL X1 (nI k) (nI (fb_ct (fun i => ftP s n e v (va_up a (29 + g) i) s) 24)) (nI (fb_ct (fun i => ftP s n e v (va_up a (29 + g) i) s) 24)) (-4) 0 := u1
      have wf : ∀ i, i < 24 → WF (va_up a (29 + g) i) := fun i hi => w1.up (by unfold bnd; omega)
      have hS := nb_lt (f := fun i => ftP s n e v (va_up a (29 + g) i) s) (m := 24) (by omega) 24 0 (by omega) (by decide)
      have hb : ∀ i, i < 24 → (nbP (fun i => ftP s n e v (va_up a (29 + g) i) s) 24 24 0).testBit i = ftP s n e v (va_up a (29 + g) i) s := fun i hi => by
        rw [nb_bit 24 0 i (by omega), Nat.zero_testBit, Bool.false_or, show decide (24 - 24 ≤ i ∧ i < 24) = true from decide_eq_true (by omega), Bool.true_and]
      have hA : pcb 24 (nbP (fun i => ftP s n e v (va_up a (29 + g) i) s) 24 24 0) = fb_ct (fun i => ftP s n e v (va_up a (29 + g) i) s) 24 := by
        rw [pcb_ct]
        exact fb_ct_cong (fun i hi => hb i hi)
      rw [f1, Option.bind_some, Option.bind_some, u1', v1', Option.bind_some]
      dsimp only
      rw [bitsOf_ok hS, Option.bind_some, hA]
      generalize hF : (fun i => ftP s n e v (va_up a (29 + g) i) s) = F at *
      -- rows beyond 24 are never looked at
      have l6 := ask6_d (U := fun d h => fb_sm (vtF F (fun i => vwP (va_up a (29 + g) i)) d h) 24) (A := fb_ct F 24) (fb_ct_le F 24) (fun d h _ _ => vt_le F _ d h 24) (w := nI k) (X := X1) (fun d h hd hh => by
        have := u3 (d * 24 + h) (by omega)
        rwa [show (d * 24 + h) / 24 = d from by omega, show (d * 24 + h) % 24 = h from by omega] at this) 21 FUEL (-4, nI (fb_ct F 24)) (by omega) (by unfold FUEL; omega)
      have cg : ∀ d h, fb_sm (vtF F (fun i => vwP (va_up a (29 + g) i)) d h) 24 = fb_sm (vtF F (fun i d => if i < 24 then vwP (va_up a (29 + g) i) d else 0) d h) 24 := fun d h => fb_sm_cong (fun i hi => by
        show (if F i = true then hbt (vwP (va_up a (29 + g) i) d) h else 0) = if F i = true then hbt (if i < 24 then vwP (va_up a (29 + g) i) d else 0) h else 0
        rw [if_pos hi])
      have l7 := ask7_d (F := F) (U := fun i d => if i < 24 then vwP (va_up a (29 + g) i) d else 0) (S := nbP F 24 24 0) (A := fb_ct F 24) rfl hS (fun i hi => by rw [hb i hi, ← hF]) (fun i d => by
        show (if i < 24 then vwP (va_up a (29 + g) i) d else 0) < 16777216
        split
        · exact vwP_lt (wf i (by assumption)) d
        · decide) (w := nI k) (M := M1) (fun i hi d hd => by rw [v3 i hi d hd]; show _ = nI (if i < 24 then vwP (va_up a (29 + g) i) d else 0); rw [if_pos hi]) 21 FUEL (-4, nI (fb_ct F 24)) (by omega) (by unfold FUEL; omega)
      rw [Nat.sub_self] at l6 l7
      have l6' : f_X6_ask_l72 FUEL X1 (nI k) (nI (fb_ct F 24)) (nI (fb_ct F 24)) (-4) 0 = _ := l6
      have l7' : f_X7_ask_l48 FUEL M1 (nI k) (nI (nbP F 24 24 0)) (nI (fb_ct F 24)) (nI (fb_ct F 24)) (-4) 0 = _ := l7
      rw [l6', l7']
      have ce : (fun d h => nI (mxA (fb_sm (vtF F (fun i => vwP (va_up a (29 + g) i)) d h) 24) (fb_ct F 24))) = (fun d h => nI (mxA (fb_sm (vtF F (fun i d => if i < 24 then vwP (va_up a (29 + g) i) d else 0) d h) 24) (fb_ct F 24))) := by
        funext d h
        rw [cg d h]
      rw [ce]
      exact OK.q h rfl rfl (q0.tr u2) v2
    · rw [isBit_n c2, bd0, in_n c2 (by omega) (by decide), bd0]
      exact OK.same h _ rfl rfl
  · rw [isGardener_n z4 c0 h37, bd0, mGardener_n e37 c0 h37, bd0]
    exact OK.same h _ rfl rfl
