/-! numbers and signs; lines -/
theorem fail_ok (z : Ob) (c : Int32) : f_X3_fail z c = some (0, ob z 0 6 c) := rfl
theorem fat_0 {z : Ob} (h : z 0 4 = 0) : f_X3_failAtToken z = some (0, ob z 0 6 1) := by
  unfold f_X3_failAtToken f_X3_failAtToken_b13
  rw [if_pos h, fail_ok, Option.bind_some]
  rfl
theorem fat_n {z : Ob} (h : ¬ z 0 4 = 0) : f_X3_failAtToken z = some (0, ob z 0 6 2) := by
  unfold f_X3_failAtToken f_X3_failAtToken_b13
  rw [if_neg h, fail_ok, Option.bind_some]
  rfl
theorem fails_ok {M : Ob} {q : Nat} (h7 : M 0 7 = 0) (h10 : M 0 10 = nI q) {c : Nat} (hc : 0 < c ∧ c ≤ 5) : ∃ M1, f_X7_fails M (nI c) = some M1 ∧ Brk M1 c q ∧ MF M M1 := by
  unfold f_X7_fails
  rw [h7, if_pos rfl, h10]
  exact ⟨_, rfl, ⟨by rw [ob_0 _ _ (by omega), ob_00], ob_00 _ _ _, hc.1, hc.2⟩, (MF_ob M _ (by omega)).tr (MF_ob _ _ (by omega))⟩
theorem Brk.num {M : Ob} {f s : Nat} (h : Brk M f s) (y : Int32) : f_X7_number M 0 y = some (0, M) := by
  unfold f_X7_number f_X7_number_b20 f_X7_number_b47 f_X7_number_b62
  rw [if_neg h.ne, if_neg h.ne, if_neg h.ne, h.step, Option.bind_some]
theorem Brk_ob {M : Ob} {f s : Nat} (h : Brk M f s) (c k : Nat) (v : Int32) (hk : c ≠ 0 ∨ (k ≠ 7 ∧ k ≠ 8)) : Brk (ob M c k v) f s := by
  obtain ⟨h1, h2, h3⟩ := h
  refine ⟨?_, ?_, h3⟩
  · rw [ob_at]
    split
    · rw [if_neg (by omega)]; exact h1
    · exact h1
  · rw [ob_at]
    split
    · rw [if_neg (by omega)]; exact h2
    · exact h2
theorem TK.brk {M : Ob} {b : Nat → Nat} {t q : Nat} (h : TK M b t q) (hc : tkK b t q = 0) : Brk M 1 q := ⟨(h.2.2.2.1 hc).1, (h.2.2.2.1 hc).2, by omega, by omega⟩
/-- a number: taken on both sides, or a fault on both -/
theorem num_ok {b : Nat → Nat} {t p most : Nat} {z M : Ob} (hz : ZT z b t) (h2 : z 0 2 = nI p) (hp : p ≤ t) (hM : MT M b t) (hT : TK M b t (tkS b t p)) (hm : most < 100) :
    (tkC b t p = 2 ∧ tkV b t (tkS b t p) ≤ most ∧ ∃ z1 M1, f_X3_takeNumber z (nI most) = some (1, z1) ∧ ZT z1 b t ∧ z1 0 2 = nI (tkE b t p) ∧ z1 0 3 = nI (tkS b t p) ∧ z1 0 5 = nI (tkV b t (tkS b t p)) ∧ RF z z1 ∧ f_X7_number M 0 (nI most) = some (nI (tkV b t (tkS b t p)), M1) ∧ TK M1 b t (tkS b t (tkE b t p)) ∧ MF M M1) ∨
    (∃ f s z1 M1, f_X3_takeNumber z (nI most) = some (0, z1) ∧ z1 0 6 = nI f ∧ z1 0 3 = nI s ∧ f_X7_number M 0 (nI most) = some (0, M1) ∧ Brk M1 f s ∧ MF M M1) := by
  have ht := hz.1
  have hS := tkS_le (b := b) hp
  have hE := tkE_le (b := b) hp
  have hC := tkC_lt b t p
  obtain ⟨z1, q1, q2, q3, q4, q5, q6⟩ := tok6 hz h2 hp
  unfold f_X3_takeNumber f_X3_isNumberTo f_X3_isNumberTo_b29
  rw [q1, Option.bind_some, q4]
  have hT' := hT
  obtain ⟨t1, t2, t3, t4, t5⟩ := hT
  have eC : tkK b t (tkS b t p) = tkC b t p := rfl
  rw [eC] at t3 t4 t5
  by_cases c2 : tkC b t p = 2
  · have hv := tkV_lt (t := t) (hz.2.2.2 (tkS b t p)) (hz.2.2.2 (tkS b t p + 1))
    obtain ⟨b7, b11⟩ := t3 (by omega)
    have b12 := t5 c2
    rw [if_pos (show nI (tkC b t p) = (2 : Int32) by rw [c2]; rfl), q5 c2]
    unfold f_X7_number f_X7_number_b20
    rw [b7, if_pos rfl, if_pos rfl, b11, if_pos (show nI (mco (tkC b t p)) = (2 : Int32) by rw [c2]; rfl), b12]
    by_cases cm : tkV b t (tkS b t p) ≤ most
    · left
      refine ⟨c2, cm, ?_⟩
      rw [if_pos ((nI_le_iff (by omega) (by omega)).mpr cm), Option.bind_some, show (0 : Int32).toInt64 = 0 from rfl, in_y (n := most + 1) (by omega) (by omega) (wid (by omega)), bd1]
      unfold f_X7_number_b47 f_X7_number_b62
      rw [b7, if_pos rfl, b12]
      obtain ⟨M1, r1, r2, r3⟩ := tok7 hM t1 b7 hE.2
      rw [r1, Option.bind_some]
      exact ⟨z1, M1, rfl, hz.rf q6, q2, q3, q5 c2, q6, rfl, r2, r3⟩
    · right
      have nr : ¬ Rg (nI (tkV b t (tkS b t p))) (most + 1) := not_Rg (by omega) (by omega)
      obtain ⟨M1, r1, r2, r3⟩ := fails_ok b7 t2 (c := 3) (by omega)
      have r1' : f_X7_fails M 3 = some M1 := r1
      rw [if_neg (fun x => cm ((nI_le_iff (by omega) (by omega)).mp x)), fail_ok, Option.bind_some, show (0 : Int32).toInt64 = 0 from rfl, in_n nr (by omega) (wid (by omega)), bd0, r1', Option.bind_some]
      unfold f_X7_number_b47 f_X7_number_b62
      rw [if_neg r2.ne, r2.step, Option.bind_some]
      exact ⟨3, _, ob z1 0 6 3, M1, rfl, by rw [ob_00]; rfl, by rw [ob_0 _ _ (by omega)]; exact q3, rfl, r2, r3⟩
  · right
    rw [if_neg (show ¬ nI (tkC b t p) = (2 : Int32) from fun x => c2 ((nI_eq_iff (b := 2) (by omega) (by omega)).mp x))]
    by_cases c0 : tkC b t p = 0
    · have hB := hT'.brk c0
      rw [fat_0 (by rw [q4, c0]; rfl), Option.bind_some, hB.num]
      exact ⟨1, _, ob z1 0 6 1, M, rfl, by rw [ob_00]; rfl, by rw [ob_0 _ _ (by omega)]; exact q3, rfl, hB, MF.rf M⟩
    · obtain ⟨b7, b11⟩ := t3 c0
      obtain ⟨M1, r1, r2, r3⟩ := fails_ok b7 t2 (c := 2) (by omega)
      have r1' : f_X7_fails M 2 = some M1 := r1
      rw [fat_n (by rw [q4]; exact nI_ne0 (by omega) (by omega)), Option.bind_some]
      unfold f_X7_number
      have nm : ¬ nI (mco (tkC b t p)) = (2 : Int32) := by
        intro x
        have := (nI_eq_iff (b := 2) (by unfold mco; split <;> omega) (by omega)).mp x
        unfold mco at this
        split at this <;> omega
      rw [if_pos b7, b11, if_neg nm, r1', Option.bind_some]
      unfold f_X7_number_b20 f_X7_number_b47 f_X7_number_b62
      rw [if_neg r2.ne, if_neg r2.ne, r2.step, Option.bind_some]
      exact ⟨2, _, ob z1 0 6 2, M1, rfl, by rw [ob_00]; rfl, by rw [ob_0 _ _ (by omega)]; exact q3, rfl, r2, r3⟩
def sgn7 (M : Ob) : Option Ob := if (M 0 7) = 0 then (if (M 0 11) = (3 : Int32) then (f_X7_readLine_b137 M) else ((f_X7_fails M (2 : Int32)).bind fun q14 => f_X7_readLine_b137 q14)) else (f_X7_readLine_b137 M)
theorem Brk.sgn {M : Ob} {f s : Nat} (h : Brk M f s) : sgn7 M = some M := by
  unfold sgn7 f_X7_readLine_b137
  rw [if_neg h.ne, h.step, Option.bind_some]
theorem sgn_ok {b : Nat → Nat} {t p : Nat} {z M : Ob} (hz : ZT z b t) (h2 : z 0 2 = nI p) (hp : p ≤ t) (hM : MT M b t) (hT : TK M b t (tkS b t p)) :
    (∃ z1 M1, f_X3_takeSign z = some (1, z1) ∧ ZT z1 b t ∧ z1 0 2 = nI (tkE b t p) ∧ RF z z1 ∧ sgn7 M = some M1 ∧ TK M1 b t (tkS b t (tkE b t p)) ∧ MF M M1) ∨
    (∃ f s z1 M1, f_X3_takeSign z = some (0, z1) ∧ z1 0 6 = nI f ∧ z1 0 3 = nI s ∧ sgn7 M = some M1 ∧ Brk M1 f s ∧ MF M M1) := by
  have ht := hz.1
  have hS := tkS_le (b := b) hp
  have hE := tkE_le (b := b) hp
  have hC := tkC_lt b t p
  obtain ⟨z1, q1, q2, q3, q4, q5, q6⟩ := tok6 hz h2 hp
  unfold f_X3_takeSign f_X3_takeSign_b19
  rw [q1, Option.bind_some, q4]
  have hT' := hT
  obtain ⟨t1, t2, t3, t4, t5⟩ := hT
  have eC : tkK b t (tkS b t p) = tkC b t p := rfl
  rw [eC] at t3 t4 t5
  by_cases c2 : tkC b t p = 3
  · left
    obtain ⟨b7, b11⟩ := t3 (by omega)
    obtain ⟨M1, r1, r2, r3⟩ := tok7 hM t1 b7 hE.2
    rw [if_pos (show nI (tkC b t p) = (3 : Int32) by rw [c2]; rfl)]
    unfold sgn7 f_X7_readLine_b137
    rw [if_pos b7, b11, if_pos (show nI (mco (tkC b t p)) = (3 : Int32) by rw [c2]; rfl), r1, Option.bind_some]
    exact ⟨z1, M1, rfl, hz.rf q6, q2, q6, rfl, r2, r3⟩
  · right
    rw [if_neg (show ¬ nI (tkC b t p) = (3 : Int32) from fun x => c2 ((nI_eq_iff (b := 3) (by omega) (by omega)).mp x))]
    by_cases c0 : tkC b t p = 0
    · have hB := hT'.brk c0
      rw [fat_0 (by rw [q4, c0]; rfl), Option.bind_some, hB.sgn]
      exact ⟨1, _, ob z1 0 6 1, M, rfl, by rw [ob_00]; rfl, by rw [ob_0 _ _ (by omega)]; exact q3, rfl, hB, MF.rf M⟩
    · obtain ⟨b7, b11⟩ := t3 c0
      obtain ⟨M1, r1, r2, r3⟩ := fails_ok b7 t2 (c := 2) (by omega)
      have r1' : f_X7_fails M 2 = some M1 := r1
      rw [fat_n (by rw [q4]; exact nI_ne0 (by omega) (by omega)), Option.bind_some]
      have nm : ¬ nI (mco (tkC b t p)) = (3 : Int32) := by
        intro x
        have := (nI_eq_iff (b := 3) (by unfold mco; split <;> omega) (by omega)).mp x
        unfold mco at this
        split at this <;> omega
      unfold sgn7 f_X7_readLine_b137
      rw [if_pos b7, b11, if_neg nm, r1', Option.bind_some, r2.step, Option.bind_some]
      exact ⟨2, _, ob z1 0 6 2, M1, rfl, by rw [ob_00]; rfl, by rw [ob_0 _ _ (by omega)]; exact q3, rfl, r2, r3⟩
/-- the page that is read -/
def RP (M : Ob) (a : Nat → Nat) : Prop := (∀ h, h < 24 → M 2 h = nI (hbt (a 0) h)) ∧ ∀ k, 24 ≤ k → k < 53 → M 2 k = nI (a k)
theorem RP.two {M M1 : Ob} {a : Nat → Nat} (h : RP M a) (e : M1 2 = M 2) : RP M1 a := ⟨fun k hk => by rw [e]; exact h.1 k hk, fun k k1 k2 => by rw [e]; exact h.2 k k1 k2⟩
theorem RP.up {M : Ob} {a : Nat → Nat} (h : RP M a) {k : Nat} (v : Nat) (h1 : 24 ≤ k) (h2 : k < 53) : RP (ob M 2 k (nI v)) (va_up a k v) := by
  refine ⟨fun j hj => ?_, fun j q1 q2 => ?_⟩
  · rw [ob_at, if_pos rfl, if_neg (by omega), va_up_ne _ _ (by omega)]; exact h.1 j hj
  · rw [ob_at, if_pos rfl]
    by_cases e : j = k
    · subst e; rw [if_pos rfl, va_up_self]
    · rw [if_neg e, va_up_ne _ _ e]; exact h.2 j q1 q2
theorem RP.hedge {M : Ob} {a : Nat → Nat} (h : RP M a) {k : Nat} (hk : k < 24) : RP (ob M 2 k 1) (va_up a 0 (setb (a 0) k 1)) := by
  refine ⟨fun j hj => ?_, fun j q1 q2 => ?_⟩
  · rw [ob_at, if_pos rfl, va_up_self]
    have hb := setb_bit (H := a 0) (h := k) (v := 1) (show j < 32 by omega)
    by_cases e : j = k
    · subst e
      rw [if_pos rfl] at hb ⊢
      unfold hbt
      rw [hb]
      rfl
    · rw [if_neg e] at hb
      rw [if_neg e, h.1 j hj]
      unfold hbt
      rw [hb]
  · rw [ob_at, if_pos rfl, if_neg (by omega), va_up_ne _ _ (by omega)]; exact h.2 j q1 q2
def PI (a : Nat → Nat) : Prop := WF a ∧ (∀ i, i < 4 → a (47 + i) = 0) ∧ a 38 = 0 ∧ a 52 = 0
def FrT (M M' : Ob) : Prop := (∀ c, c ≠ 0 → c ≠ 2 → M' c = M c) ∧ ∀ k, (k = 5 ∨ k = 6 ∨ 12 < k) → M' 0 k = M 0 k
theorem FrT.rf (M : Ob) : FrT M M := ⟨fun _ _ _ => rfl, fun _ _ => rfl⟩
theorem FrT.tr {A B C : Ob} (h : FrT A B) (h2 : FrT B C) : FrT A C := ⟨fun c q1 q2 => (h2.1 c q1 q2).trans (h.1 c q1 q2), fun k q => (h2.2 k q).trans (h.2 k q)⟩
theorem MF.t {M M' : Ob} (h : MF M M') : FrT M M' := ⟨fun c q1 _ => h.1 c q1, fun k q => h.2 k (by omega)⟩
theorem FrT_ob2 (M : Ob) (k : Nat) (v : Int32) : FrT M (ob M 2 k v) := ⟨fun c q1 q2 => by funext j; rw [ob_at, if_neg q2], fun k q => by rw [ob_at, if_neg (by decide)]⟩
theorem FrT_ob0 (M : Ob) {k : Nat} (v : Int32) (hk : k = 2 ∨ k = 3) : FrT M (ob M 0 k v) := ⟨fun c q1 q2 => by funext j; rw [ob_at, if_neg q1], fun j q => ob_0 _ _ (by omega)⟩
theorem MT.t {M M' : Ob} {b : Nat → Nat} {t : Nat} (h : MT M b t) (r : FrT M M') : MT M' b t := ⟨h.1, by rw [r.2 5 (by omega)]; exact h.2.1, fun i hi => by rw [r.1 3 (by omega) (by omega)]; exact h.2.2.1 i hi, h.2.2.2⟩
theorem TK.o2 {M : Ob} {b : Nat → Nat} {t q : Nat} (h : TK M b t q) (k : Nat) (v : Int32) : TK (ob M 2 k v) b t q := by
  have e : ∀ j, (ob M 2 k v) 0 j = M 0 j := fun j => by rw [ob_at, if_neg (by decide)]
  unfold TK
  rw [e, e, e, e, e, e]
  exact h
/-- how a line comes out -/
def LO (b : Nat → Nat) (t p gt : Nat) (M : Ob) (cls : Option (Int32 × Ob × Ob)) (mdl : Option Ob) : Prop :=
  (∃ z2 w2 M2 p2 a2 gt2, cls = some (1, z2, w2) ∧ ZT z2 b t ∧ z2 0 2 = nI p2 ∧ p ≤ p2 ∧ p2 ≤ t ∧ z2 0 6 = 0 ∧ z2 0 7 = nI gt2 ∧ gt2 < 2 ∧ RZ w2 a2 ∧ PI a2 ∧ mdl = some M2 ∧ TK M2 b t (tkS b t p2) ∧ RP M2 a2 ∧ M2 0 2 = nI (a2 0) ∧ M2 0 3 = nI gt2 ∧ FrT M M2) ∨
  (∃ f s z2 w2 M2, cls = some (0, z2, w2) ∧ z2 0 6 = nI f ∧ z2 0 3 = nI s ∧ mdl = some M2 ∧ Brk M2 f s ∧ FrT M M2)
def mTail (M : Ob) (m : Int32) : Option Ob := if (M 0 7) ≤ 0 then ((f_X7_readMore M m).bind fun q11 => sgn7 q11) else (some M)
theorem tail_brk {M : Ob} {f s : Nat} (h : Brk M f s) (m : Int32) : mTail M m = some M := by
  unfold mTail
  rw [h.1, if_neg (nI_nle h.2.2.1 (by have := h.2.2.2; omega))]
theorem tail_0 {M : Ob} (h : M 0 7 = 0) (m : Int32) : mTail M m = ((f_X7_readMore M m).bind fun q11 => sgn7 q11) := by
  unfold mTail
  rw [h, if_pos (by decide)]
theorem ob_20 (M : Ob) (k j : Nat) (v : Int32) : (ob M 2 k v) 0 j = M 0 j := by rw [ob_at, if_neg (by decide)]
theorem line_g {b : Nat → Nat} {t p gt m : Nat} {z w M : Ob} {a : Nat → Nat} (hz : ZT z b t) (h2 : z 0 2 = nI p) (hp : p ≤ t) (h6 : z 0 6 = 0) (h7 : z 0 7 = nI gt) (hgt : gt < 2) (hw : RZ w a) (hP : PI a) (hg : a 37 < 4) (hm : m < 4) (hM : MT M b t) (hT : TK M b t (tkS b t p)) (hR : RP M a) (m2 : M 0 2 = nI (a 0)) (m3 : M 0 3 = nI gt) : LO b t p gt M (f_X3_readGardener z w (nI m)) (mTail M (nI m)) := by
  have hE := tkE_le (b := b) hp
  have hS := tkS_le (b := b) hp
  have z4 := hw.2.2.2.2.1
  have e37 : M 2 37 = nI (a 37) := hR.2 37 (by omega) (by omega)
  unfold f_X3_readGardener
  rw [z4, if_pos (show nI (a 37) < (4 : Int32) from (nI_lt_iff (b := 4) (by omega) (by omega)).mpr hg)]
  by_cases c0 : tkC b t p = 0
  · have hB := hT.brk c0
    rw [tail_brk hB]
    rcases num_ok hz h2 hp hM hT (most := 23) (by omega) with ⟨c2, -⟩ | ⟨f, s, z1, M1, q1, q2, q3, q4, q5, q6⟩
    · omega
    · have q1' : f_X3_takeNumber z 23 = some (0, z1) := q1
      have : M1 = M := by rw [hB.num] at q4; cases q4; rfl
      subst this
      rw [q1', Option.bind_some, if_pos rfl]
      exact Or.inr ⟨f, s, z1, w, M1, rfl, q2, q3, rfl, q5, FrT.rf _⟩
  · rw [tail_0 (hT.2.2.1 c0).1]
    unfold f_X7_readMore
    rw [if_neg (show ¬ (3 : Int32) < nI m from fun x => absurd ((nI_lt_iff (a := 3) (by omega) (by omega)).mp x) (by omega)), e37]
    simp (disch := omega) only [show (25 : Int32) = nI 25 from rfl, show (29 : Int32) = nI 29 from rfl, show (33 : Int32) = nI 33 from rfl, nI_add, ck_nI, nI_cl]
    rcases num_ok hz h2 hp (hM.t (FrT_ob2 M (25 + a 37) (nI m))) (hT.o2 (25 + a 37) (nI m)) (most := 23) (by omega) with ⟨c2, cv, z1, M1, q1, q2, q3, q4, q5, q6, q7, q8, q9⟩ | ⟨f, s, z1, M1, q1, q2, q3, q4, q5, q6⟩
    · have q1' : f_X3_takeNumber z 23 = some (1, z1) := q1
      have q7' : f_X7_number (ob M 2 (25 + a 37) (nI m)) 0 23 = some (nI (tkV b t (tkS b t p)), M1) := q7
      have fr1 : FrT M M1 := (FrT_ob2 M _ _).tr q9.t
      have hE2 := tkE_le (b := b) hE.2
      rw [q1', Option.bind_some, if_neg (show ¬ (1 : Int32) = 0 by decide), q7', Option.bind_some]
      dsimp only
      rcases num_ok q2 q3 hE.2 ((hM.t fr1).t (FrT_ob2 M1 (29 + a 37) (nI (tkV b t (tkS b t p))))) (q8.o2 (29 + a 37) (nI (tkV b t (tkS b t p)))) (most := 9) (by omega) with ⟨d2, dv, z2, M2, r1, r2, r3, r4, r5, r6, r7, r8, r9⟩ | ⟨f, s, z2, M2, r1, r2, r3, r4, r5, r6⟩
      · have r1' : f_X3_takeNumber z1 9 = some (1, z2) := r1
        have r7' : f_X7_number (ob M1 2 (29 + a 37) (nI (tkV b t (tkS b t p)))) 0 9 = some (nI (tkV b t (tkS b t (tkE b t p))), M2) := r7
        have fr2 : FrT M M2 := (fr1.tr (FrT_ob2 M1 _ _)).tr r9.t
        rw [r1', Option.bind_some, if_neg (show ¬ (1 : Int32) = 0 by decide), r7', Option.bind_some]
        dsimp only
        rw [q5, r5, addGardener_ok z4 hg, Option.bind_some, if_neg (show ¬ (1 : Int32) = 0 by decide)]
        -- the page
        have p1 : RP M1 (va_up a (25 + a 37) m) := (hR.up m (k := 25 + a 37) (by omega) (by omega)).two (q9.1 2 (by omega))
        have p2 : RP M2 (va_up (va_up a (25 + a 37) m) (29 + a 37) (tkV b t (tkS b t p))) := (p1.up _ (k := 29 + a 37) (by omega) (by omega)).two (r9.1 2 (by omega))
        have p3 := p2.up (tkV b t (tkS b t (tkE b t p))) (k := 33 + a 37) (by omega) (by omega)
        have n37 : (ob M2 2 (33 + a 37) (nI (tkV b t (tkS b t (tkE b t p))))) 2 37 = nI (a 37) := by
          rw [p3.2 37 (by omega) (by omega), va_up_ne _ _ (by omega), va_up_ne _ _ (by omega), va_up_ne _ _ (by omega)]
        have p4 := p3.up (a 37 + 1) (k := 37) (by omega) (by omega)
        rw [n37, nI_1]
        generalize hN : ob (ob M2 2 (33 + a 37) (nI (tkV b t (tkS b t (tkE b t p))))) 2 37 (nI (a 37 + 1)) = N at p4
        have frN : FrT M N := by rw [← hN]; exact (fr2.tr (FrT_ob2 M2 _ _)).tr (FrT_ob2 _ _ _)
        have tN : TK N b t (tkS b t (tkE b t (tkE b t p))) := by rw [← hN]; exact (r8.o2 _ _).o2 _ _
        have nN : ∀ j, N 0 j = M2 0 j := fun j => by rw [← hN, ob_20, ob_20]
        have e2 : M2 0 2 = nI (a 0) := by rw [r9.2 2 (by omega), ob_20, q9.2 2 (by omega), ob_20]; exact m2
        have e3 : M2 0 3 = nI gt := by rw [r9.2 3 (by omega), ob_20, q9.2 3 (by omega), ob_20]; exact m3
        have wz := addGP_rz hw hP.1 hg m (tkV b t (tkS b t p)) (tkV b t (tkS b t (tkE b t p)))
        have wp : PI (addGP a m (tkV b t (tkS b t p)) (tkV b t (tkS b t (tkE b t p)))) := by
          refine ⟨addGP_wf hP.1 hg hm (by omega) (by omega), fun i hi => ?_, ?_, ?_⟩
          · unfold addGP; rw [va_up_ne _ _ (by omega), va_up_ne _ _ (by omega), va_up_ne _ _ (by omega), va_up_ne _ _ (by omega)]; exact hP.2.1 i hi
          · unfold addGP; rw [va_up_ne _ _ (by omega), va_up_ne _ _ (by omega), va_up_ne _ _ (by omega), va_up_ne _ _ (by omega)]; exact hP.2.2.1
          · unfold addGP; rw [va_up_ne _ _ (by omega), va_up_ne _ _ (by omega), va_up_ne _ _ (by omega), va_up_ne _ _ (by omega)]; exact hP.2.2.2
        have a0 : addGP a m (tkV b t (tkS b t p)) (tkV b t (tkS b t (tkE b t p))) 0 = a 0 := by
          unfold addGP; rw [va_up_ne _ _ (by omega), va_up_ne _ _ (by omega), va_up_ne _ _ (by omega), va_up_ne _ _ (by omega)]
        rcases sgn_ok r2 r3 hE2.2 (hM.t frN) tN with ⟨z3, M3, s1, s2, s3, s4, s5, s6, s7⟩ | ⟨f, s, z3, M3, s1, s2, s3, s4, s5, s6⟩
        · rw [s1, Option.bind_some, if_neg (show ¬ (1 : Int32) = 0 by decide), Option.bind_some]
          have hE3 := tkE_le (b := b) hE2.2
          have hS3 := tkS_le (b := b) hE2.2
          have hS2 := tkS_le (b := b) hE.2
          left
          refine ⟨z3, _, M3, tkE b t (tkE b t (tkE b t p)), _, gt, rfl, s2, s3, by omega, hE3.2, ?_, ?_, hgt, wz, wp, s5, s6, p4.two (s7.1 2 (by omega)), ?_, ?_, frN.tr s7.t⟩
          · rw [s4.2.2.1, r6.2.2.1, q6.2.2.1]; exact h6
          · rw [s4.2.2.2, r6.2.2.2, q6.2.2.2]; exact h7
          · rw [s7.2 2 (by omega), nN, e2, a0]
          · rw [s7.2 3 (by omega), nN, e3]
        · rw [s1, Option.bind_some, if_pos rfl, Option.bind_some]
          exact Or.inr ⟨f, s, z3, _, M3, rfl, s2, s3, s4, s5, frN.tr s6.t⟩
      · have r1' : f_X3_takeNumber z1 9 = some (0, z2) := r1
        have r4' : f_X7_number (ob M1 2 (29 + a 37) (nI (tkV b t (tkS b t p)))) 0 9 = some (0, M2) := r4
        rw [r1', Option.bind_some, if_pos rfl, r4', Option.bind_some, Option.bind_some]
        dsimp only
        have hB := Brk_ob (Brk_ob r5 2 (33 + a 37) 0 (Or.inl (by omega))) 2 37 ((ob M2 2 (33 + a 37) 0) 2 37 + 1) (Or.inl (by omega))
        rw [hB.sgn]
        exact Or.inr ⟨f, s, z2, w, _, rfl, r2, r3, rfl, hB, (((fr1.tr (FrT_ob2 M1 _ _)).tr r6.t).tr (FrT_ob2 _ _ _)).tr (FrT_ob2 _ _ _)⟩
    · have q1' : f_X3_takeNumber z 23 = some (0, z1) := q1
      have q4' : f_X7_number (ob M 2 (25 + a 37) (nI m)) 0 23 = some (0, M1) := q4
      rw [q1', Option.bind_some, if_pos rfl, q4', Option.bind_some]
      dsimp only
      have b1 := Brk_ob q5 2 (29 + a 37) 0 (Or.inl (by omega))
      rw [b1.num, Option.bind_some, Option.bind_some]
      dsimp only
      have hB := Brk_ob (Brk_ob b1 2 (33 + a 37) 0 (Or.inl (by omega))) 2 37 ((ob (ob M1 2 (29 + a 37) 0) 2 (33 + a 37) 0) 2 37 + 1) (Or.inl (by omega))
      rw [hB.sgn]
      exact Or.inr ⟨f, s, z1, w, _, rfl, q2, q3, rfl, hB, ((((FrT_ob2 M _ _).tr q6.t).tr (FrT_ob2 _ _ _)).tr (FrT_ob2 _ _ _)).tr (FrT_ob2 _ _ _)⟩
