/-! what numbers may be: on both sides -/
def Rg (a : Int32) (n : Nat) : Prop := ∃ k, k < n ∧ a = nI k
theorem Rg.no {a : Int32} {n : Nat} (hn : n < 2147483648) (h : ¬ Rg a n) : a < 0 ∨ nI n ≤ a := by
  by_cases c : a < 0
  · exact Or.inl c
  · obtain ⟨j, hj, rfl⟩ := nI_of c
    refine Or.inr ((nI_le_iff hn hj).mpr ?_)
    exact Nat.not_lt.mp fun q => h ⟨j, q, rfl⟩
theorem nI_sl {a : Int32} {n : Nat} (hn : n + 1 < 2147483648) (h : nI (n + 1) ≤ a) : nI n < a := by
  rw [fa_le, nI_toInt (by omega)] at h
  rw [fa_lt, nI_toInt (by omega)]
  omega
theorem gA_y {α : Type} {k n : Nat} (h : k < n) (hn : n < 2147483648) {u v w : α} : (if nI k < 0 then u else if nI n ≤ nI k then v else w) = w := by
  rw [if_neg (nI_pos (by omega)), if_neg]
  rw [nI_le_iff hn (by omega)]
  omega
theorem gA_n {α : Type} {a : Int32} {n : Nat} (h : ¬ Rg a n) (hn : n < 2147483648) {u w : α} : (if a < 0 then u else if nI n ≤ a then u else w) = u := by
  rcases Rg.no hn h with c | c
  · rw [if_pos c]
  · rw [if_pos c]; split <;> rfl
theorem gB_y {α : Type} {k n : Nat} (h : k < n + 1) (hn : n + 1 < 2147483648) {u v w : α} : (if nI k < 0 then u else if nI n < nI k then v else w) = w := by
  rw [if_neg (nI_pos (by omega)), if_neg]
  rw [nI_lt_iff (by omega) (by omega)]
  omega
theorem gB_n {α : Type} {a : Int32} {n : Nat} (h : ¬ Rg a (n + 1)) (hn : n + 1 < 2147483648) {u w : α} : (if a < 0 then u else if nI n < a then u else w) = u := by
  rcases Rg.no hn h with c | c
  · rw [if_pos c]
  · rw [if_pos (nI_sl hn c)]; split <;> rfl
/-- the other way about: at most, then on -/
theorem gC_y {α : Type} {k n : Nat} (h : k < n + 1) (hn : n + 1 < 2147483648) {u v w : α} : (if nI k < 0 then u else if nI k ≤ nI n then w else v) = w := by
  rw [if_neg (nI_pos (by omega)), if_pos]
  rw [nI_le_iff (by omega) (by omega)]
  omega
theorem gC_n {α : Type} {a : Int32} {n : Nat} (h : ¬ Rg a (n + 1)) (hn : n + 1 < 2147483648) {u w : α} : (if a < 0 then u else if a ≤ nI n then w else u) = u := by
  rcases Rg.no hn h with c | c
  · rw [if_pos c]
  · rw [if_neg (c := a ≤ nI n)]
    · split <;> rfl
    · have := nI_sl hn c
      exact (fa_of_lt this).2.1
theorem isHedge_y {k : Nat} (h : k < 24) : f_X6_isHedge (nI k) = some 1 := gA_y h (by omega)
theorem isHedge_n {a : Int32} (h : ¬ Rg a 24) : f_X6_isHedge a = some 0 := gA_n h (by omega)
theorem isPlot_y {k : Nat} (h : k < 16) : f_X6_isPlot (nI k) = some 1 := gA_y h (by omega)
theorem isPlot_n {a : Int32} (h : ¬ Rg a 16) : f_X6_isPlot a = some 0 := gA_n h (by omega)
theorem isImage_y {k : Nat} (h : k < 2) : f_X6_isImage (nI k) = some 1 := gA_y h (by omega)
theorem isImage_n {a : Int32} (h : ¬ Rg a 2) : f_X6_isImage a = some 0 := gA_n h (by omega)
theorem isSheet_y {k : Nat} (h : k < 4) : f_X6_isSheet (nI k) = some 1 := gA_y h (by omega)
theorem isSheet_n {a : Int32} (h : ¬ Rg a 4) : f_X6_isSheet a = some 0 := gA_n h (by omega)
theorem isFood_y {k : Nat} (h : k < 61) : f_X6_isFood (nI k) = some 1 := gB_y h (by omega)
theorem isFood_n {a : Int32} (h : ¬ Rg a 61) : f_X6_isFood a = some 0 := gB_n h (by omega)
theorem isAhead_y {k : Nat} (h : k < 61) : f_X6_isAhead (nI k) = some 1 := gB_y h (by omega)
theorem isAhead_n {a : Int32} (h : ¬ Rg a 61) : f_X6_isAhead a = some 0 := gB_n h (by omega)
theorem isTenths_y {k : Nat} (h : k < 11) : f_X6_isTenths (nI k) = some 1 := gB_y h (by omega)
theorem isTenths_n {a : Int32} (h : ¬ Rg a 11) : f_X6_isTenths a = some 0 := gB_n h (by omega)
theorem isRainy_y {k : Nat} (h : k < 9) : f_X6_isRainy (nI k) = some 1 := gB_y h (by omega)
theorem isRainy_n {a : Int32} (h : ¬ Rg a 9) : f_X6_isRainy a = some 0 := gB_n h (by omega)
theorem isLane_y {k : Nat} (h : k < 3) : f_X6_isLane (nI k) = some 1 := gB_y h (by omega)
theorem isLane_n {a : Int32} (h : ¬ Rg a 3) : f_X6_isLane a = some 0 := gB_n h (by omega)
theorem isBit_y {k : Nat} (h : k < 2) : f_X6_isBit (nI k) = some 1 := by
  rcases (show k = 0 ∨ k = 1 by omega) with rfl | rfl <;> rfl
theorem isBit_n {a : Int32} (h : ¬ Rg a 2) : f_X6_isBit a = some 0 := by
  unfold f_X6_isBit
  rw [if_neg (show ¬ a = (0 : Int32) from fun e => h ⟨0, by omega, e⟩), if_neg (show ¬ a = (1 : Int32) from fun e => h ⟨1, by omega, e⟩)]
theorem isGardener_y {X : Wd} {k m : Nat} (hm : X 4 0 4 = nI m) (h : k < m) (h2 : m ≤ 4) : f_X6_isGardener X (nI k) = some 1 := by unfold f_X6_isGardener; rw [hm]; exact gA_y h (by omega)
theorem isGardener_n {X : Wd} {a : Int32} {m : Nat} (hm : X 4 0 4 = nI m) (h : ¬ Rg a m) (h2 : m ≤ 4) : f_X6_isGardener X a = some 0 := by unfold f_X6_isGardener; rw [hm]; exact gA_n h (by omega)
theorem isGuest_y {X : Wd} {k m : Nat} (hm : X 4 0 8 = nI m) (h : k < m) (h2 : m ≤ 4) : f_X6_isGuest X (nI k) = some 1 := by unfold f_X6_isGuest; rw [hm]; exact gA_y h (by omega)
theorem isGuest_n {X : Wd} {a : Int32} {m : Nat} (hm : X 4 0 8 = nI m) (h : ¬ Rg a m) (h2 : m ≤ 4) : f_X6_isGuest X a = some 0 := by unfold f_X6_isGuest; rw [hm]; exact gA_n h (by omega)
theorem isTrait0_y {k : Nat} (h : k < 4) : f_X1_isTrait 0 (nI k) = some 1 := by unfold f_X1_isTrait; rw [if_pos rfl]; exact gA_y h (by omega)
theorem isTrait0_n {a : Int32} (h : ¬ Rg a 4) : f_X1_isTrait 0 a = some 0 := by unfold f_X1_isTrait; rw [if_pos rfl]; exact gA_n h (by omega)
theorem isTrait1_y {k : Nat} (h : k < 24) : f_X1_isTrait 1 (nI k) = some 1 := by unfold f_X1_isTrait; rw [if_neg (by decide), if_pos rfl]; exact gA_y h (by omega)
theorem isTrait1_n {a : Int32} (h : ¬ Rg a 24) : f_X1_isTrait 1 a = some 0 := by unfold f_X1_isTrait; rw [if_neg (by decide), if_pos rfl]; exact gA_n h (by omega)
theorem isTrait2_y {k : Nat} (h : k < 10) : f_X1_isTrait 2 (nI k) = some 1 := by unfold f_X1_isTrait; rw [if_neg (by decide), if_neg (by decide)]; exact gA_y h (by omega)
theorem isTrait2_n {a : Int32} (h : ¬ Rg a 10) : f_X1_isTrait 2 a = some 0 := by unfold f_X1_isTrait; rw [if_neg (by decide), if_neg (by decide)]; exact gA_n h (by omega)
/-! the model's -/
theorem cmp_lt (x y : Int64) : lg_cmp x y < 0 ↔ x < y := by
  unfold lg_cmp
  by_cases c1 : x > y
  · rw [if_pos c1]
    have : ¬ x < y := by rw [fa_lt64]; rw [gt_iff_lt, fa_lt64] at c1; omega
    exact ⟨fun q => absurd q (by decide), fun q => absurd q this⟩
  · rw [if_neg c1]
    by_cases c2 : x = y
    · subst c2
      rw [if_pos rfl]
      exact ⟨fun q => absurd q (by decide), fun q => absurd q c1⟩
    · rw [if_neg c2]
      refine ⟨fun _ => ?_, fun _ => by decide⟩
      rw [fa_lt64]; rw [gt_iff_lt, fa_lt64] at c1
      rw [fa_eq64] at c2
      omega
theorem cmp_gt (x y : Int64) : 0 < lg_cmp x y ↔ y < x := by
  unfold lg_cmp
  by_cases c1 : x > y
  · rw [if_pos c1]; exact ⟨fun _ => c1, fun _ => by decide⟩
  · rw [if_neg c1]
    refine ⟨fun q => ?_, fun q => absurd q c1⟩
    by_cases c2 : x = y
    · rw [if_pos c2] at q; exact absurd q (by decide)
    · rw [if_neg c2] at q; exact absurd q (by decide)
theorem cmp_eq (x y : Int64) : lg_cmp x y = 0 ↔ x = y := by
  unfold lg_cmp
  by_cases c1 : x > y
  · rw [if_pos c1]
    refine ⟨fun q => absurd q (by decide), fun q => ?_⟩
    subst q
    rw [gt_iff_lt, fa_lt64] at c1; omega
  · rw [if_neg c1]
    by_cases c2 : x = y
    · rw [if_pos c2]; exact ⟨fun _ => c2, fun _ => rfl⟩
    · rw [if_neg c2]; exact ⟨fun q => absurd q (by decide), fun q => absurd q c2⟩
theorem in_is (a b c : Int64) : f_X7_in a b c = some (if b.toInt ≤ a.toInt ∧ a.toInt ≤ c.toInt then 1 else 0) := by
  unfold f_X7_in
  simp only [cmp_lt, cmp_gt, fa_lt64]
  by_cases c1 : a.toInt < b.toInt
  · rw [if_pos c1, if_neg (by omega)]
  · rw [if_neg c1]
    by_cases c2 : c.toInt < a.toInt
    · rw [if_pos c2, if_neg (by omega)]
    · rw [if_neg c2, if_pos (by omega)]
theorem in_y {k n : Nat} {b : Int64} (h : k < n) (hn : n < 2147483648) (hb : b.toInt + 1 = n) : f_X7_in (nI k).toInt64 0 b = some 1 := by
  rw [in_is, if_pos]
  rw [Int32.toInt_toInt64, nI_toInt (by omega), show (0 : Int64).toInt = 0 from by decide]
  omega
theorem in_n {a : Int32} {n : Nat} {b : Int64} (h : ¬ Rg a n) (hn : n < 2147483648) (hb : b.toInt + 1 = n) : f_X7_in a.toInt64 0 b = some 0 := by
  rw [in_is, if_neg]
  rw [Int32.toInt_toInt64, show (0 : Int64).toInt = 0 from by decide]
  rcases Rg.no hn h with c | c
  · rw [fa_lt, show (0 : Int32).toInt = 0 from by decide] at c; omega
  · rw [fa_le, nI_toInt (by omega)] at c; omega
theorem prd {m : Nat} (h : m < 2147483648) : ((nI m - 1).toInt64).toInt + 1 = (m : Int) := by
  rw [Int32.toInt_toInt64, fb_subI, nI_toInt (by omega), show (1 : Int32).toInt = 1 from by decide]
  · omega
  · rw [nI_toInt (by omega), show (1 : Int32).toInt = 1 from by decide]; omega
  · rw [nI_toInt (by omega), show (1 : Int32).toInt = 1 from by decide]; omega
theorem wid {m : Nat} (h : m < 2147483648) : ((nI m).toInt64).toInt + 1 = ((m + 1 : Nat) : Int) := by
  rw [Int32.toInt_toInt64, nI_toInt (by omega)]; omega
theorem mPlot_y {k : Nat} (h : k < 16) : f_X7_isPlot (nI k) = some 1 := by unfold f_X7_isPlot; rw [in_y h (by omega) (by decide)]; rfl
theorem mPlot_n {a : Int32} (h : ¬ Rg a 16) : f_X7_isPlot a = some 0 := by unfold f_X7_isPlot; rw [in_n h (by omega) (by decide)]; rfl
theorem mHedge_y {k : Nat} (h : k < 24) : f_X7_isHedge (nI k) = some 1 := by unfold f_X7_isHedge; rw [in_y h (by omega) (by decide)]; rfl
theorem mHedge_n {a : Int32} (h : ¬ Rg a 24) : f_X7_isHedge a = some 0 := by unfold f_X7_isHedge; rw [in_n h (by omega) (by decide)]; rfl
theorem mGardener_y {z : Ob} {k m : Nat} (hm : z 1 37 = nI m) (h : k < m) (h2 : m ≤ 4) : f_X7_isGardener z (nI k) = some 1 := by unfold f_X7_isGardener; rw [hm, in_y h (by omega) (prd (by omega))]; rfl
theorem mGardener_n {z : Ob} {a : Int32} {m : Nat} (hm : z 1 37 = nI m) (h : ¬ Rg a m) (h2 : m ≤ 4) : f_X7_isGardener z a = some 0 := by unfold f_X7_isGardener; rw [hm, in_n h (by omega) (prd (by omega))]; rfl
theorem mGuest_y {z : Ob} {k m : Nat} (hm : z 1 51 = nI m) (h : k < m) (h2 : m ≤ 4) : f_X7_isGuest z (nI k) = some 1 := by unfold f_X7_isGuest; rw [hm, in_y h (by omega) (prd (by omega))]; rfl
theorem mGuest_n {z : Ob} {a : Int32} {m : Nat} (hm : z 1 51 = nI m) (h : ¬ Rg a m) (h2 : m ≤ 4) : f_X7_isGuest z a = some 0 := by unfold f_X7_isGuest; rw [hm, in_n h (by omega) (prd (by omega))]; rfl
