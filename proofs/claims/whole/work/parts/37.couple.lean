/-! how class and model lie side by side -/
def Pg (X : Wd) (M : Ob) (a : Nat → Nat) : Prop := WF a ∧ a 52 ≤ 999 ∧ RZ (X 4) a ∧ RM M 0 a
def Im (X : Wd) (M : Ob) (k : Nat) : Prop := X 0 1 k = M 9 k ∧ (M 9 k ≠ 0 → ∃ b, WF b ∧ b 52 ≤ 999 ∧ RZ (X (16 + k)) b ∧ RM M (53 * (k + 1)) b)
def Tp (X : Wd) (M : Ob) : Prop := ∃ (t : Nat) (b : Nat → Nat), t ≤ 160 ∧ X 1 0 1 = nI t ∧ M 0 5 = nI t ∧ ∀ i, i < t → X 1 1 i = nI (b i) ∧ M 3 i = nI (b i) ∧ b i < 128
def Fl (X : Wd) (M : Ob) : Prop := X 0 0 10 = M 0 6 ∧ X 0 0 11 = M 0 24
def SnAt (X : Wd) (M : Ob) (i n h v : Nat) : Prop := X 2 1 i = nI n ∧ X 2 2 i = nI h ∧ X 2 3 i = nI v ∧ M 7 (3 * i) = nI n ∧ M 7 (3 * i + 1) = nI h ∧ M 7 (3 * i + 2) = nI v ∧ n ≤ 20 ∧ h < 24 ∧ v < 2
def Sn (X : Wd) (M : Ob) : Prop := ∃ (s : Nat) (n h v : Nat → Nat), s ≤ 6 ∧ X 2 0 0 = nI s ∧ M 0 18 = nI s ∧ ∀ i, i < s → SnAt X M i (n i) (h i) (v i)
def Sh (X : Wd) (M : Ob) (k : Nat) : Prop := (X (18 + k) 0 0 = 0 ∧ M 10 k = -4) ∨ (X (18 + k) 0 0 = 1 ∧ ∃ l n, l < 3 ∧ n ≤ 40 ∧ X (18 + k) 0 1 = nI l ∧ M 10 k = nI l ∧ X (18 + k) 0 2 = nI n ∧ M 11 k = nI n ∧ ∀ i, i < n → X (18 + k) 1 i = M 12 (40 * k + i))
def endL : List Nat := [0, 5, 10, 15, 19, 24, 29, 33]
def letL : List Nat := [112, 108, 97, 105, 110, 115, 112, 105, 116, 101, 99, 108, 111, 115, 101, 119, 105, 100, 101, 103, 117, 101, 115, 116, 104, 101, 100, 103, 101, 103, 97, 116, 101]
def Cn (M : Ob) : Prop := M 0 16 = -4 ∧ (∀ i, i < 8 → M 4 i = nI (endL.getD i 0)) ∧ ∀ i, i < 33 → M 5 i = nI (letL.getD i 0)
def Cpl (X : Wd) (M : Ob) : Prop := (∃ a, Pg X M a) ∧ Im X M 0 ∧ Im X M 1 ∧ Tp X M ∧ Fl X M ∧ Sn X M ∧ (∀ k, k < 4 → Sh X M k) ∧ Cn M
/-- a call of both -/
def OK (X : Wd) (M : Ob) (p : Option (Int32 × Wd)) (q : Option (Int32 × Ob)) : Prop := ∃ r X1 M1, p = some (r, X1) ∧ q = some (r, M1) ∧ X1 22 = X 22 ∧ Cpl X1 M1
def OKL (X : Wd) (M : Ob) (p : Option (Int64 × Wd)) (q : Option (Int64 × Ob)) : Prop := ∃ r X1 M1, p = some (r, X1) ∧ q = some (r, M1) ∧ X1 22 = X 22 ∧ Cpl X1 M1
theorem OK.same {X : Wd} {M : Ob} {p : Option (Int32 × Wd)} {q : Option (Int32 × Ob)} (h : Cpl X M) (r : Int32) (hp : p = some (r, X)) (hq : q = some (r, M)) : OK X M p q := ⟨r, X, M, hp, hq, rfl, h⟩
theorem OKL.same {X : Wd} {M : Ob} {p : Option (Int64 × Wd)} {q : Option (Int64 × Ob)} (h : Cpl X M) (r : Int64) (hp : p = some (r, X)) (hq : q = some (r, M)) : OKL X M p q := ⟨r, X, M, hp, hq, rfl, h⟩
theorem Pg.m {X : Wd} {M : Ob} {a : Nat → Nat} (h : Pg X M a) {k : Nat} (h1 : 24 ≤ k) (h2 : k < 53) : M 1 k = nI (a k) := by
  have := h.2.2.2.2 k h1 h2
  rwa [Nat.zero_add] at this
theorem Pg.h {X : Wd} {M : Ob} {a : Nat → Nat} (h : Pg X M a) {k : Nat} (h1 : k < 24) : M 1 k = nI (hbt (a 0) k) := by
  have := h.2.2.2.1 k h1
  rwa [Nat.zero_add] at this
theorem RM.up0 {M : Ob} {a : Nat → Nat} (h : RM M 0 a) {k : Nat} (v : Nat) (h1 : 24 ≤ k) (h2 : k < 53) : RM (ob M 1 k (nI v)) 0 (va_up a k v) := by
  have := h.up v h1 h2
  rwa [Nat.zero_add] at this
theorem RM.hedge0 {M : Ob} {a : Nat → Nat} (h : RM M 0 a) {k v : Nat} (hk : k < 24) (hv : v < 2) : RM (ob M 1 k (nI v)) 0 (va_up a 0 (setb (a 0) k v)) := by
  have := h.hedge hk hv
  rwa [Nat.zero_add] at this
theorem FrM_ob0 (M : Ob) {k : Nat} (v : Int32) (hk : k < 53) : FrM M (ob M 1 k v) 0 := by
  have := FrM.ob M (p := 0) v hk
  rwa [Nat.zero_add] at this
theorem Im.keep {X X1 : Wd} {M M1 : Ob} {k : Nat} (h : Im X M k) (h1 : X1 0 1 k = X 0 1 k) (h2 : M1 9 k = M 9 k) (h3 : X1 (16 + k) = X (16 + k)) (h4 : ∀ i, i < 53 → M1 1 (53 * (k + 1) + i) = M 1 (53 * (k + 1) + i)) : Im X1 M1 k := by
  refine ⟨by rw [h1, h2]; exact h.1, fun q => ?_⟩
  rw [h2] at q
  obtain ⟨b, b1, b2, b3, b4⟩ := h.2 q
  exact ⟨b, b1, b2, by rw [h3]; exact b3, b4.copy h4⟩
theorem Tp.keep {X X1 : Wd} {M M1 : Ob} (h : Tp X M) (h1 : X1 1 = X 1) (h2 : M1 0 5 = M 0 5) (h3 : M1 3 = M 3) : Tp X1 M1 := by
  obtain ⟨t, b, q1, q2, q3, q4⟩ := h
  exact ⟨t, b, q1, by rw [h1]; exact q2, by rw [h2]; exact q3, fun i hi => by rw [h1, h3]; exact q4 i hi⟩
theorem Fl.keep {X X1 : Wd} {M M1 : Ob} (h : Fl X M) (h1 : X1 0 0 10 = X 0 0 10) (h2 : X1 0 0 11 = X 0 0 11) (h3 : M1 0 6 = M 0 6) (h4 : M1 0 24 = M 0 24) : Fl X1 M1 := ⟨by rw [h1, h3]; exact h.1, by rw [h2, h4]; exact h.2⟩
theorem Sn.keep {X X1 : Wd} {M M1 : Ob} (h : Sn X M) (h1 : ∀ c, c < 4 → X1 2 c = X 2 c) (h2 : M1 0 18 = M 0 18) (h3 : M1 7 = M 7) : Sn X1 M1 := by
  obtain ⟨s, n, e, v, q1, q2, q3, q4⟩ := h
  refine ⟨s, n, e, v, q1, by rw [h1 0 (by omega)]; exact q2, by rw [h2]; exact q3, fun i hi => ?_⟩
  have := q4 i hi
  unfold SnAt at this ⊢
  rw [h1 1 (by omega), h1 2 (by omega), h1 3 (by omega), h3]
  exact this
theorem Sh.keep {X X1 : Wd} {M M1 : Ob} {k : Nat} (h : Sh X M k) (h1 : X1 (18 + k) = X (18 + k)) (h2 : M1 10 k = M 10 k) (h3 : M1 11 k = M 11 k) (h4 : ∀ i, i < 40 → M1 12 (40 * k + i) = M 12 (40 * k + i)) : Sh X1 M1 k := by
  unfold Sh at h ⊢
  rw [h1, h2, h3]
  rcases h with h | ⟨h, l, n, q1, q2, q3, q4, q5, q6, q7⟩
  · exact Or.inl h
  · exact Or.inr ⟨h, l, n, q1, q2, q3, q4, q5, q6, fun i hi => by rw [h4 i (by omega)]; exact q7 i hi⟩
theorem Cn.keep {M M1 : Ob} (h : Cn M) (h1 : M1 0 16 = M 0 16) (h2 : M1 4 = M 4) (h3 : M1 5 = M 5) : Cn M1 := ⟨by rw [h1]; exact h.1, by rw [h2]; exact h.2.1, by rw [h3]; exact h.2.2⟩
/-- what a question may touch -/
def QX (X X1 : Wd) : Prop := (∀ o, (o = 0 ∨ o = 1 ∨ o = 4 ∨ 16 ≤ o) → X1 o = X o) ∧ ∀ c, c < 4 → X1 2 c = X 2 c
def QM (M M1 : Ob) : Prop := (∀ k, (k = 5 ∨ k = 6 ∨ k = 16 ∨ k = 18 ∨ k = 24) → M1 0 k = M 0 k) ∧ (∀ c, 3 ≤ c → c ≠ 6 → c ≠ 8 → M1 c = M c) ∧ ∀ k, k < 159 → M1 1 k = M 1 k
theorem QX.rf (X : Wd) : QX X X := ⟨fun _ _ => rfl, fun _ _ => rfl⟩
theorem QX.tr {A B C : Wd} (h : QX A B) (h2 : QX B C) : QX A C := ⟨fun o q => (h2.1 o q).trans (h.1 o q), fun c q => (h2.2 c q).trans (h.2 c q)⟩
theorem QX.up {X : Wd} {o : Nat} (z : Ob) (h : o = 3 ∨ o = 5 ∨ o = 6 ∨ (7 ≤ o ∧ o < 16)) : QX X (va_up X o z) := ⟨fun q hq => va_up_ne _ _ (by omega), fun c _ => by rw [va_up_ne _ _ (by omega)]⟩
theorem QX.up2 {X : Wd} {z : Ob} (h : ∀ c, c < 4 → z c = X 2 c) : QX X (va_up X 2 z) := ⟨fun q hq => va_up_ne _ _ (by omega), fun c hc => by rw [va_up_self]; exact h c hc⟩
theorem QM.rf (M : Ob) : QM M M := ⟨fun _ _ => rfl, fun _ _ _ _ => rfl, fun _ _ => rfl⟩
theorem QM.tr {A B C : Ob} (h : QM A B) (h2 : QM B C) : QM A C := ⟨fun k q => (h2.1 k q).trans (h.1 k q), fun c q1 q2 q3 => (h2.2.1 c q1 q2 q3).trans (h.2.1 c q1 q2 q3), fun k q => (h2.2.2 k q).trans (h.2.2 k q)⟩
theorem FrM.q {M M1 : Ob} {p : Nat} (h : FrM M M1 p) (hp : 159 ≤ p) : QM M M1 := ⟨fun k _ => by rw [h.1 0 (by decide) (by decide)], fun c q1 q2 _ => h.1 c (by omega) q2, fun k hk => h.2 k (by omega)⟩
theorem FrC.q {M M1 : Ob} {p : Nat} (h : FrC M M1 p) (hp : 159 ≤ p) : QM M M1 := h.to.q hp
theorem QM.ob1 (M : Ob) {k : Nat} (v : Int32) (hk : 159 ≤ k) : QM M (ob M 1 k v) := ⟨fun k _ => by rw [ob_at, if_neg (by decide)], fun c q1 q2 _ => by funext j; rw [ob_at, if_neg (by omega)], fun j hj => by rw [ob_at, if_pos rfl, if_neg (by omega)]⟩
theorem QM.ob8 (M : Ob) (k : Nat) (v : Int32) : QM M (ob M 8 k v) := ⟨fun k _ => by rw [ob_at, if_neg (by decide)], fun c q1 q2 q3 => by funext j; rw [ob_at, if_neg (by omega)], fun j hj => by rw [ob_at, if_neg (by decide)]⟩
/-- what Cpl looks at -/
def QY (X X1 : Wd) : Prop := (∀ o, (o = 0 ∨ o = 1 ∨ o = 4 ∨ (16 ≤ o ∧ o < 22)) → X1 o = X o) ∧ ∀ c, c < 4 → X1 2 c = X 2 c
theorem QX.y {X X1 : Wd} (h : QX X X1) : QY X X1 := ⟨fun o q => h.1 o (by omega), h.2⟩
theorem Pg.q {X X1 : Wd} {M M1 : Ob} {a : Nat → Nat} (h : Pg X M a) (hX : QY X X1) (hM : QM M M1) : Pg X1 M1 a := by
  obtain ⟨h1, h2, h3, h4⟩ := h
  exact ⟨h1, h2, by rw [hX.1 4 (by omega)]; exact h3, h4.copy (fun i hi => hM.2.2 _ (by omega))⟩
theorem Cpl.y {X X1 : Wd} {M M1 : Ob} (h : Cpl X M) (hX : QY X X1) (hM : QM M M1) : Cpl X1 M1 := by
  obtain ⟨⟨a, h1⟩, h2, h3, h4, h5, h6, h7, h8⟩ := h
  refine ⟨⟨a, h1.q hX hM⟩, ?_, ?_, ?_, ?_, ?_, ?_, ?_⟩
  · exact h2.keep (by rw [hX.1 0 (by omega)]) (by rw [hM.2.1 9 (by omega) (by omega) (by omega)]) (hX.1 _ (by omega)) (fun i hi => hM.2.2 _ (by omega))
  · exact h3.keep (by rw [hX.1 0 (by omega)]) (by rw [hM.2.1 9 (by omega) (by omega) (by omega)]) (hX.1 _ (by omega)) (fun i hi => hM.2.2 _ (by omega))
  · exact h4.keep (hX.1 1 (by omega)) (hM.1 5 (by omega)) (hM.2.1 3 (by omega) (by omega) (by omega))
  · exact h5.keep (by rw [hX.1 0 (by omega)]) (by rw [hX.1 0 (by omega)]) (hM.1 6 (by omega)) (hM.1 24 (by omega))
  · exact h6.keep hX.2 (hM.1 18 (by omega)) (hM.2.1 7 (by omega) (by omega) (by omega))
  · intro k hk
    exact (h7 k hk).keep (hX.1 _ (by omega)) (by rw [hM.2.1 10 (by omega) (by omega) (by omega)]) (by rw [hM.2.1 11 (by omega) (by omega) (by omega)]) (fun i _ => by rw [hM.2.1 12 (by omega) (by omega) (by omega)])
  · exact h8.keep (hM.1 16 (by omega)) (hM.2.1 4 (by omega) (by omega) (by omega)) (hM.2.1 5 (by omega) (by omega) (by omega))
theorem Cpl.q {X X1 : Wd} {M M1 : Ob} (h : Cpl X M) (hX : QX X X1) (hM : QM M M1) : Cpl X1 M1 := h.y hX.y hM
theorem OK.q {X X1 : Wd} {M M1 : Ob} {p : Option (Int32 × Wd)} {q : Option (Int32 × Ob)} (h : Cpl X M) {r : Int32} (hp : p = some (r, X1)) (hq : q = some (r, M1)) (hX : QX X X1) (hM : QM M M1) : OK X M p q := ⟨r, X1, M1, hp, hq, hX.1 22 (by omega), h.q hX hM⟩
theorem OKL.q {X X1 : Wd} {M M1 : Ob} {p : Option (Int64 × Wd)} {q : Option (Int64 × Ob)} (h : Cpl X M) {r : Int64} (hp : p = some (r, X1)) (hq : q = some (r, M1)) (hX : QX X X1) (hM : QM M M1) : OKL X M p q := ⟨r, X1, M1, hp, hq, hX.1 22 (by omega), h.q hX hM⟩
/-- the page alone changes -/
theorem OK.page {X : Wd} {M M1 : Ob} {p : Option (Int32 × Wd)} {q : Option (Int32 × Ob)} (h : Cpl X M) {r : Int32} {z : Ob} {b : Nat → Nat} (hp : p = some (r, va_up X 4 z)) (hq : q = some (r, M1)) (w1 : WF b) (w2 : b 52 ≤ 999) (w3 : RZ z b) (w4 : RM M1 0 b) (hM : FrM M M1 0) : OK X M p q := by
  refine ⟨r, va_up X 4 z, M1, hp, hq, va_up_ne _ _ (by omega), ?_⟩
  obtain ⟨-, h2, h3, h4, h5, h6, h7, h8⟩ := h
  refine ⟨⟨b, w1, w2, by rw [va_up_self]; exact w3, w4⟩, ?_, ?_, ?_, ?_, ?_, ?_, ?_⟩
  · exact h2.keep (by rw [va_up_ne _ _ (by omega)]) (by rw [hM.1 9 (by omega) (by omega)]) (va_up_ne _ _ (by omega)) (fun i hi => hM.2 _ (by omega))
  · exact h3.keep (by rw [va_up_ne _ _ (by omega)]) (by rw [hM.1 9 (by omega) (by omega)]) (va_up_ne _ _ (by omega)) (fun i hi => hM.2 _ (by omega))
  · exact h4.keep (va_up_ne _ _ (by omega)) (by rw [hM.1 0 (by omega) (by omega)]) (hM.1 3 (by omega) (by omega))
  · exact h5.keep (by rw [va_up_ne _ _ (by omega)]) (by rw [va_up_ne _ _ (by omega)]) (by rw [hM.1 0 (by omega) (by omega)]) (by rw [hM.1 0 (by omega) (by omega)])
  · exact h6.keep (fun c _ => by rw [va_up_ne _ _ (by omega)]) (by rw [hM.1 0 (by omega) (by omega)]) (hM.1 7 (by omega) (by omega))
  · intro k hk
    exact (h7 k hk).keep (va_up_ne _ _ (by omega)) (by rw [hM.1 10 (by omega) (by omega)]) (by rw [hM.1 11 (by omega) (by omega)]) (fun i _ => by rw [hM.1 12 (by omega) (by omega)])
  · exact h8.keep (by rw [hM.1 0 (by omega) (by omega)]) (hM.1 4 (by omega) (by omega)) (hM.1 5 (by omega) (by omega))
theorem Cpl.in22 {X : Wd} {M : Ob} (h : Cpl X M) : Cpl (va_up X 22 M) M := h.y ⟨fun o q => va_up_ne _ _ (by omega), fun c _ => by rw [va_up_ne _ _ (by omega)]⟩ (QM.rf M)
/-- places of a page -/
def bnd (k v : Nat) : Prop := (k = 0 → v < 16777216) ∧ (k = 24 → v < 16) ∧ (k = 37 → v ≤ 4) ∧ (k = 38 → v ≤ 24) ∧ (k = 51 → v ≤ 4) ∧ (25 ≤ k → k < 29 → v < 4) ∧ (29 ≤ k → k < 33 → v < 24) ∧ (33 ≤ k → k < 37 → v < 10) ∧ (39 ≤ k → k < 43 → v < 16) ∧ (43 ≤ k → k < 47 → v ≤ 60) ∧ (47 ≤ k → k < 51 → v ≤ 2)
theorem vn_at (a : Nat → Nat) (k v j : Nat) : va_up a k v j = if j = k then v else a j := rfl
theorem WF.up {a : Nat → Nat} (h : WF a) {k v : Nat} (hb : bnd k v) : WF (va_up a k v) := by
  obtain ⟨h0, h24, h37, h38, h51, hgg, hii⟩ := h
  obtain ⟨b0, b24, b37, b38, b51, c1, c2, c3, c4, c5, c6⟩ := hb
  refine ⟨?_, ?_, ?_, ?_, ?_, fun g hg => ?_, fun i hi => ?_⟩
  · rw [vn_at]; split <;> omega
  · rw [vn_at]; split <;> omega
  · rw [vn_at]; split <;> omega
  · rw [vn_at]; split <;> omega
  · rw [vn_at]; split <;> omega
  · obtain ⟨g1, g2, g3⟩ := hgg g hg
    refine ⟨?_, ?_, ?_⟩ <;> rw [vn_at] <;> split <;> omega
  · obtain ⟨g1, g2, g3⟩ := hii i hi
    refine ⟨?_, ?_, ?_⟩ <;> rw [vn_at] <;> split <;> omega
theorem RZ.hedges {z : Ob} {a : Nat → Nat} (hz : RZ z a) (v : Nat) : RZ (ob z 0 0 (nI v)) (va_up a 0 v) := by
  obtain ⟨z0, z1, z2, z3, z4, z8, zg, zi⟩ := hz
  refine ⟨?_, ?_, ?_, ?_, ?_, ?_, fun g hg => ?_, fun i hi => ?_⟩
  · rw [ob_at, if_pos rfl, if_pos rfl, va_up_self]
  · rw [ob_at, if_pos rfl, if_neg (by decide), va_up_ne _ _ (by omega)]; exact z1
  · rw [ob_at, if_pos rfl, if_neg (by decide), va_up_ne _ _ (by omega)]; exact z2
  · rw [ob_at, if_pos rfl, if_neg (by decide), va_up_ne _ _ (by omega)]; exact z3
  · rw [ob_at, if_pos rfl, if_neg (by decide), va_up_ne _ _ (by omega)]; exact z4
  · rw [ob_at, if_pos rfl, if_neg (by decide), va_up_ne _ _ (by omega)]; exact z8
  · rw [va_up_ne _ _ (by omega)] at hg
    simp only [ob_at, if_neg (show ¬ (1 : Nat) = 0 by decide), if_neg (show ¬ (2 : Nat) = 0 by decide), if_neg (show ¬ (3 : Nat) = 0 by decide)]
    rw [va_up_ne _ _ (by omega), va_up_ne _ _ (by omega), va_up_ne _ _ (by omega)]; exact zg g hg
  · rw [va_up_ne _ _ (by omega)] at hi
    simp only [ob_at, if_neg (show ¬ (4 : Nat) = 0 by decide), if_neg (show ¬ (5 : Nat) = 0 by decide), if_neg (show ¬ (6 : Nat) = 0 by decide)]
    rw [va_up_ne _ _ (by omega), va_up_ne _ _ (by omega), va_up_ne _ _ (by omega)]; exact zi i hi
theorem RZ.gate {z : Ob} {a : Nat → Nat} (hz : RZ z a) (h37 : a 37 ≤ 4) (v : Nat) : RZ (ob z 0 1 (nI v)) (va_up a 24 v) := by
  obtain ⟨z0, z1, z2, z3, z4, z8, zg, zi⟩ := hz
  refine ⟨?_, ?_, ?_, ?_, ?_, ?_, fun g hg => ?_, fun i hi => ?_⟩
  · rw [ob_at, if_pos rfl, if_neg (by decide), va_up_ne _ _ (by omega)]; exact z0
  · rw [ob_at, if_pos rfl, if_pos rfl, va_up_self]
  · rw [ob_at, if_pos rfl, if_neg (by decide), va_up_ne _ _ (by omega)]; exact z2
  · rw [ob_at, if_pos rfl, if_neg (by decide), va_up_ne _ _ (by omega)]; exact z3
  · rw [ob_at, if_pos rfl, if_neg (by decide), va_up_ne _ _ (by omega)]; exact z4
  · rw [ob_at, if_pos rfl, if_neg (by decide), va_up_ne _ _ (by omega)]; exact z8
  · rw [va_up_ne _ _ (by omega)] at hg
    simp only [ob_at, if_neg (show ¬ (1 : Nat) = 0 by decide), if_neg (show ¬ (2 : Nat) = 0 by decide), if_neg (show ¬ (3 : Nat) = 0 by decide)]
    rw [va_up_ne _ _ (by omega), va_up_ne _ _ (by omega), va_up_ne _ _ (by omega)]; exact zg g hg
  · rw [va_up_ne _ _ (by omega)] at hi
    simp only [ob_at, if_neg (show ¬ (4 : Nat) = 0 by decide), if_neg (show ¬ (5 : Nat) = 0 by decide), if_neg (show ¬ (6 : Nat) = 0 by decide)]
    rw [va_up_ne _ _ (by omega), va_up_ne _ _ (by omega), va_up_ne _ _ (by omega)]; exact zi i hi
theorem RZ.many {z : Ob} {a : Nat → Nat} (hz : RZ z a) {n : Nat} (hn : n ≤ 4) (hg0 : ∀ g, g < n → z 1 g = nI (a (25 + g)) ∧ z 2 g = nI (a (29 + g)) ∧ z 3 g = nI (a (33 + g))) : RZ (ob z 0 4 (nI n)) (va_up a 37 n) := by
  obtain ⟨z0, z1, z2, z3, z4, z8, zg, zi⟩ := hz
  refine ⟨?_, ?_, ?_, ?_, ?_, ?_, fun g hg => ?_, fun i hi => ?_⟩
  · rw [ob_at, if_pos rfl, if_neg (by decide), va_up_ne _ _ (by omega)]; exact z0
  · rw [ob_at, if_pos rfl, if_neg (by decide), va_up_ne _ _ (by omega)]; exact z1
  · rw [ob_at, if_pos rfl, if_neg (by decide), va_up_ne _ _ (by omega)]; exact z2
  · rw [ob_at, if_pos rfl, if_neg (by decide), va_up_ne _ _ (by omega)]; exact z3
  · rw [ob_at, if_pos rfl, if_pos rfl, va_up_self]
  · rw [ob_at, if_pos rfl, if_neg (by decide), va_up_ne _ _ (by omega)]; exact z8
  · rw [va_up_self] at hg
    simp only [ob_at, if_neg (show ¬ (1 : Nat) = 0 by decide), if_neg (show ¬ (2 : Nat) = 0 by decide), if_neg (show ¬ (3 : Nat) = 0 by decide)]
    rw [va_up_ne _ _ (by omega), va_up_ne _ _ (by omega), va_up_ne _ _ (by omega)]; exact hg0 g hg
  · rw [va_up_ne _ _ (by omega)] at hi
    simp only [ob_at, if_neg (show ¬ (4 : Nat) = 0 by decide), if_neg (show ¬ (5 : Nat) = 0 by decide), if_neg (show ¬ (6 : Nat) = 0 by decide)]
    rw [va_up_ne _ _ (by omega), va_up_ne _ _ (by omega), va_up_ne _ _ (by omega)]; exact zi i hi
theorem RZ.guests {z : Ob} {a : Nat → Nat} (hz : RZ z a) (h37 : a 37 ≤ 4) {n : Nat} (hn : n ≤ 4) (hg0 : ∀ g, g < n → z 4 g = nI (a (39 + g)) ∧ z 5 g = nI (a (43 + g)) ∧ z 6 g = nI (a (47 + g))) : RZ (ob z 0 8 (nI n)) (va_up a 51 n) := by
  obtain ⟨z0, z1, z2, z3, z4, z8, zg, zi⟩ := hz
  refine ⟨?_, ?_, ?_, ?_, ?_, ?_, fun g hg => ?_, fun i hi => ?_⟩
  · rw [ob_at, if_pos rfl, if_neg (by decide), va_up_ne _ _ (by omega)]; exact z0
  · rw [ob_at, if_pos rfl, if_neg (by decide), va_up_ne _ _ (by omega)]; exact z1
  · rw [ob_at, if_pos rfl, if_neg (by decide), va_up_ne _ _ (by omega)]; exact z2
  · rw [ob_at, if_pos rfl, if_neg (by decide), va_up_ne _ _ (by omega)]; exact z3
  · rw [ob_at, if_pos rfl, if_neg (by decide), va_up_ne _ _ (by omega)]; exact z4
  · rw [ob_at, if_pos rfl, if_pos rfl, va_up_self]
  · rw [va_up_ne _ _ (by omega)] at hg
    simp only [ob_at, if_neg (show ¬ (1 : Nat) = 0 by decide), if_neg (show ¬ (2 : Nat) = 0 by decide), if_neg (show ¬ (3 : Nat) = 0 by decide)]
    rw [va_up_ne _ _ (by omega), va_up_ne _ _ (by omega), va_up_ne _ _ (by omega)]; exact zg g hg
  · rw [va_up_self] at hi
    simp only [ob_at, if_neg (show ¬ (4 : Nat) = 0 by decide), if_neg (show ¬ (5 : Nat) = 0 by decide), if_neg (show ¬ (6 : Nat) = 0 by decide)]
    rw [va_up_ne _ _ (by omega), va_up_ne _ _ (by omega), va_up_ne _ _ (by omega)]; exact hg0 i hi
/-- a gardener's, a guest's number -/
theorem RZ.cellv {z : Ob} {a : Nat → Nat} (hz : RZ z a) (h37 : a 37 ≤ 4) (h51 : a 51 ≤ 4) {c g k : Nat} (v : Nat) (hg : g < 4) (hk : (1 ≤ c ∧ c ≤ 3 ∧ k = 21 + 4 * c + g) ∨ (4 ≤ c ∧ c ≤ 6 ∧ k = 23 + 4 * c + g)) : RZ (ob z c g (nI v)) (va_up a k v) := by
  obtain ⟨z0, z1, z2, z3, z4, z8, zg, zi⟩ := hz
  have key : ∀ c' j k' : Nat, j < 4 → ((1 ≤ c' ∧ c' ≤ 3 ∧ k' = 21 + 4 * c' + j) ∨ (4 ≤ c' ∧ c' ≤ 6 ∧ k' = 23 + 4 * c' + j)) → z c' j = nI (a k') → ob z c g (nI v) c' j = nI (va_up a k v k') := by
    intro c' j k' hj hk' e
    rw [ob_at, vn_at]
    by_cases q : k' = k
    · have q1 : c' = c := by omega
      have q2 : j = g := by omega
      rw [if_pos q1, if_pos q2, if_pos q]
    · rw [if_neg q]
      by_cases q1 : c' = c
      · rw [if_pos q1, if_neg (by omega)]; exact e
      · rw [if_neg q1]; exact e
  refine ⟨?_, ?_, ?_, ?_, ?_, ?_, fun j hj => ?_, fun i hi => ?_⟩
  · rw [ob_at, if_neg (by omega), va_up_ne _ _ (by omega)]; exact z0
  · rw [ob_at, if_neg (by omega), va_up_ne _ _ (by omega)]; exact z1
  · rw [ob_at, if_neg (by omega), va_up_ne _ _ (by omega)]; exact z2
  · rw [ob_at, if_neg (by omega), va_up_ne _ _ (by omega)]; exact z3
  · rw [ob_at, if_neg (by omega), va_up_ne _ _ (by omega)]; exact z4
  · rw [ob_at, if_neg (by omega), va_up_ne _ _ (by omega)]; exact z8
  · rw [va_up_ne _ _ (by omega)] at hj
    obtain ⟨e1, e2, e3⟩ := zg j hj
    exact ⟨key 1 j _ (by omega) (by omega) e1, key 2 j _ (by omega) (by omega) e2, key 3 j _ (by omega) (by omega) e3⟩
  · rw [va_up_ne _ _ (by omega)] at hi
    obtain ⟨e1, e2, e3⟩ := zi i hi
    exact ⟨key 4 i _ (by omega) (by omega) e1, key 5 i _ (by omega) (by omega) e2, key 6 i _ (by omega) (by omega) e3⟩
