/-! who can be reached in how many steps: pure -/
def nbr (x s : Nat) : Nat := if s = 0 then x - 4 else if s = 1 then x - 1 else if s = 2 then x + 1 else x + 4
def opn (H x s : Nat) : Bool :=
  if s = 0 then decide (4 ≤ x) && !H.testBit (8 + x)
  else if s = 1 then decide (x % 4 ≠ 0) && !H.testBit (3 * (x / 4) + x % 4 - 1)
  else if s = 2 then decide (x % 4 ≠ 3) && !H.testBit (3 * (x / 4) + x % 4)
  else decide (x < 12) && !H.testBit (12 + x)
theorem nbr_lt {H x s : Nat} (hx : x < 16) (h : opn H x s = true) : nbr x s < 16 := by
  unfold opn at h
  unfold nbr
  split at h
  · rw [if_pos ‹_›]; omega
  · rw [if_neg ‹_›]
    split at h
    · rw [if_pos ‹_›]; omega
    · rw [if_neg ‹_›]
      split at h
      · rw [if_pos ‹_›]
        simp only [Bool.and_eq_true, decide_eq_true_eq] at h
        omega
      · rw [if_neg ‹_›]
        simp only [Bool.and_eq_true, decide_eq_true_eq] at h
        omega
def nsd (H : Nat) (R : Nat → Bool) (x s : Nat) : Bool := opn H x s && R (nbr x s)
def rch (H g : Nat) : Nat → Nat → Bool
  | 0, x => decide (x = g)
  | n + 1, x => rch H g n x || (nsd H (rch H g n) x 0 || nsd H (rch H g n) x 1 || nsd H (rch H g n) x 2 || nsd H (rch H g n) x 3)
def nrs (H g n x : Nat) : Bool := nsd H (rch H g n) x 0 || nsd H (rch H g n) x 1 || nsd H (rch H g n) x 2 || nsd H (rch H g n) x 3
theorem rch_succ (H g n x : Nat) : rch H g (n + 1) x = (rch H g n x || nrs H g n x) := rfl
theorem nrs_iff {H g n x : Nat} : nrs H g n x = true ↔ ∃ s, s < 4 ∧ nsd H (rch H g n) x s = true := by
  unfold nrs
  simp only [Bool.or_eq_true]
  constructor
  · rintro (((h | h) | h) | h)
    · exact ⟨0, by omega, h⟩
    · exact ⟨1, by omega, h⟩
    · exact ⟨2, by omega, h⟩
    · exact ⟨3, by omega, h⟩
  · rintro ⟨s, hs, h⟩
    rcases (show s = 0 ∨ s = 1 ∨ s = 2 ∨ s = 3 by omega) with rfl | rfl | rfl | rfl
    · exact Or.inl (Or.inl (Or.inl h))
    · exact Or.inl (Or.inl (Or.inr h))
    · exact Or.inl (Or.inr h)
    · exact Or.inr h
theorem rch_mono1 {H g n x : Nat} (h : rch H g n x = true) : rch H g (n + 1) x = true := by rw [rch_succ, h]; rfl
theorem rch_mono {H g x : Nat} : ∀ {n m : Nat}, n ≤ m → rch H g n x = true → rch H g m x = true := by
  intro n m hnm
  induction m with
  | zero => intro h; rw [show n = 0 from by omega] at h; exact h
  | succ m ih =>
    intro h
    by_cases e : n = m + 1
    · rw [← e]; exact h
    · exact rch_mono1 (ih (by omega) h)
theorem nsd_mono {H g x s n m : Nat} (hnm : n ≤ m) (h : nsd H (rch H g n) x s = true) : nsd H (rch H g m) x s = true := by
  unfold nsd at h ⊢
  rw [Bool.and_eq_true] at h ⊢
  exact ⟨h.1, rch_mono hnm h.2⟩
/-- once nothing new is reached, nothing new will be -/
theorem rch_stop {H g n : Nat} (h : ∀ x, x < 16 → rch H g (n + 1) x = true → rch H g n x = true) : ∀ k x, x < 16 → rch H g (n + k) x = true → rch H g n x = true := by
  intro k
  induction k with
  | zero => intro x _ q; exact q
  | succ k ih =>
    intro x hx q
    rw [show n + (k + 1) = (n + k) + 1 from rfl, rch_succ, Bool.or_eq_true] at q
    rcases q with q | q
    · exact ih x hx q
    · obtain ⟨s, hs, q⟩ := nrs_iff.mp q
      unfold nsd at q
      rw [Bool.and_eq_true] at q
      have q2 := ih _ (nbr_lt hx q.1) q.2
      apply h x hx
      rw [rch_succ, Bool.or_eq_true]
      refine Or.inr (nrs_iff.mpr ⟨s, hs, ?_⟩)
      unfold nsd
      rw [Bool.and_eq_true]
      exact ⟨q.1, q2⟩
theorem rch_ct {H g : Nat} (hg : g < 16) : ∀ n, (∀ x, x < 16 → rch H g (n + 1) x = true → rch H g n x = true) ∨ n + 1 ≤ fb_ct (fun x => rch H g n x) 16 := by
  intro n
  induction n with
  | zero =>
    right
    have : 0 < fb_ct (fun x => rch H g 0 x) 16 := fb_ct_pos.mpr ⟨g, hg, by simp [rch]⟩
    omega
  | succ n ih =>
    rcases ih with ih | ih
    · left
      intro x hx q
      have := rch_stop ih 2 x hx q
      exact rch_mono1 this
    · by_cases st : ∀ x, x < 16 → rch H g (n + 1) x = true → rch H g n x = true
      · left
        intro x hx q
        exact rch_mono1 (rch_stop st 2 x hx q)
      · right
        have : ∃ x, x < 16 ∧ rch H g (n + 1) x = true ∧ ¬ rch H g n x = true := by
          apply Classical.byContradiction
          intro q
          apply st
          intro x hx h1
          apply Classical.byContradiction
          intro h2
          exact q ⟨x, hx, h1, h2⟩
        obtain ⟨y, hy, h1, h2⟩ := this
        have e : fb_ct (fun x => if x = y then false else rch H g (n + 1) x) 16 + (if rch H g (n + 1) y then 1 else 0) = fb_ct (fun x => rch H g (n + 1) x) 16 + (if false then 1 else 0) := fb_ct_upd (fun x => rch H g (n + 1) x) false hy
        rw [h1, if_pos rfl, if_neg (by decide)] at e
        have l : fb_ct (fun x => rch H g n x) 16 ≤ fb_ct (fun x => if x = y then false else rch H g (n + 1) x) 16 := by
          apply fb_ct_sub
          intro k hk hr
          by_cases ek : k = y
          · subst ek; exact absurd hr h2
          · simp only [ek, if_false]; exact rch_mono1 hr
        omega
theorem rch_15 {H g : Nat} (hg : g < 16) {n x : Nat} (hx : x < 16) (h : rch H g n x = true) : rch H g 15 x = true := by
  rcases Nat.lt_or_ge n 15 with hn | hn
  · exact rch_mono (by omega) h
  · have st : ∀ x, x < 16 → rch H g 16 x = true → rch H g 15 x = true := by
      rcases rch_ct hg 15 with q | q
      · exact q
      · intro y hy _
        have all : fb_ct (fun x => rch H g 15 x) 16 = 16 := by
          have := fb_ct_le (fun x => rch H g 15 x) 16
          omega
        exact fb_ct_all.mp all y hy
    have := rch_stop st (n - 15) x hx
    rw [show 15 + (n - 15) = n from by omega] at this
    exact this h
/-- the day's step -/
def Tn (H g a : Nat) : Nat :=
  if a = g ∨ fa_first (fun n => nrs H g n a) 16 = 16 then a
  else nbr a (fa_first (fun s => nsd H (rch H g (fa_first (fun n => nrs H g n a) 16)) a s) 4)
/-- how far -/
def Dn (H g x : Nat) : Nat := fa_first (fun n => rch H g n x) 16
theorem Dn_some {H g x n : Nat} (hn : n < 16) (h : rch H g n x = true) : Dn H g x ≤ n := by
  rcases Nat.lt_or_ge n (Dn H g x) with q | q
  · have : rch H g n x = false := fa_first_no (fun n => rch H g n x) 16 n q
    rw [h] at this
    cases this
  · exact q
theorem Dn_yes {H g x : Nat} (h : Dn H g x < 16) : rch H g (Dn H g x) x = true := fa_first_yes (fun n => rch H g n x) 16 h
theorem Dn_le (H g x : Nat) : Dn H g x ≤ 16 := fa_first_le _ 16
theorem Tn_lt {H g a : Nat} (ha : a < 16) : Tn H g a < 16 := by
  unfold Tn
  split
  · exact ha
  · rename_i h
    have hn : fa_first (fun n => nrs H g n a) 16 < 16 := by
      have := fa_first_le (fun n => nrs H g n a) 16
      omega
    have hy := fa_first_yes (fun n => nrs H g n a) 16 hn
    generalize fa_first (fun n => nrs H g n a) 16 = n at *
    obtain ⟨s, hs, q⟩ := nrs_iff.mp hy
    have hf : fa_first (fun s => nsd H (rch H g n) a s) 4 < 4 := by
      rcases Nat.lt_or_ge s (fa_first (fun s => nsd H (rch H g n) a s) 4) with w | w
      · have : nsd H (rch H g n) a s = false := fa_first_no (fun s => nsd H (rch H g n) a s) 4 s w
        rw [q] at this
        cases this
      · omega
    have hy2 := fa_first_yes (fun s => nsd H (rch H g n) a s) 4 hf
    simp only [nsd, Bool.and_eq_true] at hy2
    exact nbr_lt ha hy2.1
