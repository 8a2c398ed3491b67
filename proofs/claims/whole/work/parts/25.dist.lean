/-! what the turns come to: the distance -/
def Snd (H g : Nat) (s : Nat → Nat) : Prop := ∀ x, x < 16 → s x ≤ 99 ∧ (s x = 99 ∨ rch H g (s x) x = true)
def Cmp (H g t : Nat) (s : Nat → Nat) : Prop := ∀ x, x < 16 → ∀ n, n ≤ t → rch H g n x = true → s x ≤ n
def Fix (H : Nat) (s : Nat → Nat) : Prop := ∀ x, x < 16 → ∀ d, d < 4 → opn H x d = true → s x ≤ s (nbr x d) + 1
theorem rl1_le (H x d : Nat) (q : (Nat → Nat) × Nat) (y : Nat) : (rl1 H x d q).1 y ≤ q.1 y := by
  unfold rl1
  split
  · rename_i h
    show va_up q.1 x _ y ≤ _
    by_cases e : y = x
    · subst e; rw [va_up_self]; omega
    · rw [va_up_ne _ _ e]; exact Nat.le_refl _
  · exact Nat.le_refl _
theorem rl1_snd {H g x d : Nat} {q : (Nat → Nat) × Nat} (hx : x < 16) (hd : d < 4) (h : Snd H g q.1) : Snd H g (rl1 H x d q).1 := by
  unfold rl1
  split
  · rename_i c
    intro y hy
    show va_up q.1 x _ y ≤ 99 ∧ (va_up q.1 x _ y = 99 ∨ rch H g (va_up q.1 x _ y) y = true)
    by_cases e : y = x
    · subst e
      rw [va_up_self]
      have hn := nbr_lt hx c.1
      have h1 := h _ hn
      have h2 := h _ hy
      refine ⟨by omega, Or.inr ?_⟩
      rcases h1.2 with q1 | q1
      · omega
      · rw [rch_succ, Bool.or_eq_true]
        refine Or.inr (nrs_iff.mpr ⟨d, hd, ?_⟩)
        unfold nsd
        rw [Bool.and_eq_true]
        exact ⟨c.1, q1⟩
    · rw [va_up_ne _ _ e]; exact h y hy
  · exact h
theorem rl1_do {H x d : Nat} {q : (Nat → Nat) × Nat} (ho : opn H x d = true) : (rl1 H x d q).1 x ≤ q.1 (nbr x d) + 1 := by
  unfold rl1
  by_cases c : q.1 (nbr x d) + 1 < q.1 x
  · rw [if_pos ⟨ho, c⟩]
    show va_up q.1 x _ x ≤ _
    rw [va_up_self]; exact Nat.le_refl _
  · rw [if_neg (fun w => c w.2)]; omega
theorem rl1_no {H x d : Nat} {q : (Nat → Nat) × Nat} (h : (rl1 H x d q).2 = 0) : rl1 H x d q = q := by
  unfold rl1 at h ⊢
  split
  · rename_i c; rw [if_pos c] at h; cases h
  · rfl
theorem rl4_le (H x : Nat) : ∀ (k : Nat) (q : (Nat → Nat) × Nat) (y : Nat), (rl4 H x k q).1 y ≤ q.1 y
  | 0, _, _ => Nat.le_refl _
  | k + 1, q, y => Nat.le_trans (rl4_le H x k _ y) (rl1_le H x (3 - k) q y)
theorem rl4_snd {H g x : Nat} (hx : x < 16) : ∀ (k : Nat) (q : (Nat → Nat) × Nat), Snd H g q.1 → Snd H g (rl4 H x k q).1
  | 0, _, h => h
  | k + 1, q, h => rl4_snd hx k _ (rl1_snd hx (by omega) h)
theorem rl4_do {H x : Nat} : ∀ (k : Nat) (q : (Nat → Nat) × Nat) (d : Nat), k ≤ 4 → 4 - k ≤ d → d < 4 → opn H x d = true → (rl4 H x k q).1 x ≤ q.1 (nbr x d) + 1
  | 0, _, d, _, h1, h2, _ => by omega
  | k + 1, q, d, hk, h1, h2, ho => by
    by_cases e : d = 3 - k
    · subst e
      exact Nat.le_trans (rl4_le H x k _ x) (rl1_do ho)
    · have := rl4_do k (rl1 H x (3 - k) q) d (by omega) (by omega) h2 ho
      have h3 := rl1_le H x (3 - k) q (nbr x d)
      show (rl4 H x k (rl1 H x (3 - k) q)).1 x ≤ _
      omega
theorem rl4_no {H x : Nat} : ∀ (k : Nat) (q : (Nat → Nat) × Nat), (rl4 H x k q).2 = 0 → rl4 H x k q = q
  | 0, _, _ => rfl
  | k + 1, q, h => by
    have h1 := rl4_no k (rl1 H x (3 - k) q) h
    have h2 : (rl1 H x (3 - k) q).2 = 0 := by rw [← h1]; exact h
    show rl4 H x k (rl1 H x (3 - k) q) = q
    rw [h1, rl1_no h2]
theorem rl16_le (H : Nat) : ∀ (k : Nat) (q : (Nat → Nat) × Nat) (y : Nat), (rl16 H k q).1 y ≤ q.1 y
  | 0, _, _ => Nat.le_refl _
  | k + 1, q, y => Nat.le_trans (rl16_le H k _ y) (rl4_le H (15 - k) 4 q y)
theorem rl16_snd {H g : Nat} : ∀ (k : Nat) (q : (Nat → Nat) × Nat), Snd H g q.1 → Snd H g (rl16 H k q).1
  | 0, _, h => h
  | k + 1, q, h => rl16_snd k _ (rl4_snd (by omega) 4 q h)
theorem rl16_do {H : Nat} : ∀ (k : Nat) (q : (Nat → Nat) × Nat) (x d : Nat), k ≤ 16 → 16 - k ≤ x → x < 16 → d < 4 → opn H x d = true → (rl16 H k q).1 x ≤ q.1 (nbr x d) + 1
  | 0, _, x, d, _, h1, h2, _, _ => by omega
  | k + 1, q, x, d, hk, h1, h2, hd, ho => by
    by_cases e : x = 15 - k
    · subst e
      exact Nat.le_trans (rl16_le H k _ _) (rl4_do 4 q d (by omega) (by omega) hd ho)
    · have := rl16_do k (rl4 H (15 - k) 4 q) x d (by omega) (by omega) h2 hd ho
      have h3 := rl4_le H (15 - k) 4 q (nbr x d)
      show (rl16 H k (rl4 H (15 - k) 4 q)).1 x ≤ _
      omega
theorem rl16_no {H : Nat} : ∀ (k : Nat) (q : (Nat → Nat) × Nat), (rl16 H k q).2 = 0 → rl16 H k q = q
  | 0, _, _ => rfl
  | k + 1, q, h => by
    have h1 := rl16_no k (rl4 H (15 - k) 4 q) h
    have h2 : (rl4 H (15 - k) 4 q).2 = 0 := by rw [← h1]; exact h
    show rl16 H k (rl4 H (15 - k) 4 q) = q
    rw [h1, rl4_no 4 q h2]
theorem sweep_cmp {H g t : Nat} {q : (Nat → Nat) × Nat} (h : Cmp H g t q.1) : Cmp H g (t + 1) (rl16 H 16 q).1 := by
  intro x hx n hn hr
  by_cases e : n ≤ t
  · exact Nat.le_trans (rl16_le H 16 q x) (h x hx n e hr)
  · obtain rfl : n = t + 1 := by omega
    rw [rch_succ, Bool.or_eq_true] at hr
    rcases hr with hr | hr
    · have := rl16_le H 16 q x
      have := h x hx t (Nat.le_refl _) hr
      omega
    · obtain ⟨d, hd, w⟩ := nrs_iff.mp hr
      unfold nsd at w
      rw [Bool.and_eq_true] at w
      have h1 := rl16_do 16 q x d (by omega) (by omega) hx hd w.1
      have h2 := h _ (nbr_lt hx w.1) t (Nat.le_refl _) w.2
      omega
theorem sweep_fix {H : Nat} {s : Nat → Nat} (h : (rl16 H 16 (s, 0)).2 = 0) : Fix H (rl16 H 16 (s, 0)).1 := by
  intro x hx d hd ho
  have h1 := rl16_do 16 (s, 0) x d (by omega) (by omega) hx hd ho
  rw [rl16_no 16 (s, 0) h] at h1 ⊢
  exact h1
theorem fix_cmp {H g : Nat} {s : Nat → Nat} (h : Fix H s) (h0 : Cmp H g 0 s) : ∀ t, Cmp H g t s := by
  intro t
  induction t with
  | zero => exact h0
  | succ t ih =>
    intro x hx n hn hr
    by_cases e : n ≤ t
    · exact ih x hx n e hr
    · obtain rfl : n = t + 1 := by omega
      rw [rch_succ, Bool.or_eq_true] at hr
      rcases hr with hr | hr
      · have := ih x hx t (Nat.le_refl _) hr; omega
      · obtain ⟨d, hd, w⟩ := nrs_iff.mp hr
        unfold nsd at w
        rw [Bool.and_eq_true] at w
        have h1 := h x hx d hd w.1
        have h2 := ih _ (nbr_lt hx w.1) t (Nat.le_refl _) w.2
        omega
theorem Cmp.mono {H g t u : Nat} {s : Nat → Nat} (h : Cmp H g t s) (hu : u ≤ t) : Cmp H g u s := fun x hx n hn hr => h x hx n (by omega) hr
theorem rlT_ok {H g : Nat} : ∀ (k t : Nat) (q : (Nat → Nat) × Nat), 15 ≤ t + k → Snd H g q.1 → Cmp H g t q.1 → (q.2 = 0 → Fix H q.1) → Snd H g (rlT H k q) ∧ Cmp H g 15 (rlT H k q)
  | 0, t, q, ht, h1, h2, _ => ⟨h1, h2.mono (by omega)⟩
  | k + 1, t, q, ht, h1, h2, h3 => by
    unfold rlT
    by_cases e : q.2 = 0
    · rw [if_pos e]
      exact ⟨h1, fix_cmp (h3 e) (h2.mono (by omega)) 15⟩
    · rw [if_neg e]
      exact rlT_ok k (t + 1) (rl16 H 16 (q.1, 0)) (by omega) (rl16_snd 16 (q.1, 0) h1) (sweep_cmp (q := (q.1, 0)) h2) (fun w => sweep_fix w)
/-- what the model's row holds -/
theorem rlT_dist {H g : Nat} (hg : g < 16) {x : Nat} (hx : x < 16) : rlT H 16 (st0 g, 1) x = if Dn H g x = 16 then 99 else Dn H g x := by
  obtain ⟨h1, h2⟩ := rlT_ok (H := H) (g := g) 16 0 (st0 g, 1) (by omega) (fun y hy => by
      show st0 g y ≤ 99 ∧ (st0 g y = 99 ∨ rch H g (st0 g y) y = true)
      unfold st0
      by_cases e : y = g
      · rw [if_pos e]; exact ⟨by omega, Or.inr (by simp [rch, e])⟩
      · rw [if_neg e]; exact ⟨by omega, Or.inl rfl⟩) (fun y hy n hn hr => by
      obtain rfl : n = 0 := by omega
      have e : y = g := by simpa [rch] using hr
      show st0 g y ≤ 0
      unfold st0
      rw [if_pos e]; exact Nat.le_refl _) (fun w => by cases w)
  generalize rlT H 16 (st0 g, 1) = s at *
  have hD := Dn_le H g x
  by_cases e : Dn H g x = 16
  · rw [if_pos e]
    rcases (h1 x hx).2 with q | q
    · exact q
    · have := Dn_some (by omega : (15 : Nat) < 16) (rch_15 hg hx q)
      omega
  · rw [if_neg e]
    have hy := Dn_yes (H := H) (g := g) (x := x) (by omega)
    have l1 := h2 x hx (Dn H g x) (by omega) hy
    rcases (h1 x hx).2 with q | q
    · omega
    · have := Dn_some (by omega : s x < 16) q
      omega
