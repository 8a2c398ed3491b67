/-! guests, gate, hedges -/
theorem line_i {b : Nat → Nat} {t p gt : Nat} {z w M : Ob} {a : Nat → Nat} (hz : ZT z b t) (h2 : z 0 2 = nI p) (hp : p ≤ t) (h6 : z 0 6 = 0) (h7 : z 0 7 = nI gt) (hgt : gt < 2) (hw : RZ w a) (hP : PI a) (hg : a 51 < 4) (hM : MT M b t) (hT : TK M b t (tkS b t p)) (hR : RP M a) (m2 : M 0 2 = nI (a 0)) (m3 : M 0 3 = nI gt) : LO b t p gt M (f_X3_readGuest z w) (mTail M 4) := by
  have hE := tkE_le (b := b) hp
  have hS := tkS_le (b := b) hp
  have z4 := hw.2.2.2.2.2.1
  have e37 : M 2 51 = nI (a 51) := hR.2 51 (by omega) (by omega)
  unfold f_X3_readGuest
  rw [z4, if_pos (show nI (a 51) < (4 : Int32) from (nI_lt_iff (b := 4) (by omega) (by omega)).mpr hg)]
  by_cases c0 : tkC b t p = 0
  · have hB := hT.brk c0
    rw [tail_brk hB]
    rcases num_ok hz h2 hp hM hT (most := 15) (by omega) with ⟨c2, -⟩ | ⟨f, s, z1, M1, q1, q2, q3, q4, q5, q6⟩
    · omega
    · have q1' : f_X3_takeNumber z 15 = some (0, z1) := q1
      have : M1 = M := by rw [hB.num] at q4; cases q4; rfl
      subst this
      rw [q1', Option.bind_some, if_pos rfl]
      exact Or.inr ⟨f, s, z1, w, M1, rfl, q2, q3, rfl, q5, FrT.rf _⟩
  · rw [tail_0 (hT.2.2.1 c0).1]
    unfold f_X7_readMore
    rw [if_pos (show (3 : Int32) < 4 by decide), if_pos rfl, e37]
    simp (disch := omega) only [show (39 : Int32) = nI 39 from rfl, show (43 : Int32) = nI 43 from rfl, nI_add, ck_nI, nI_cl]
    rcases num_ok hz h2 hp hM hT (most := 15) (by omega) with ⟨c2, cv, z1, M1, q1, q2, q3, q4, q5, q6, q7, q8, q9⟩ | ⟨f, s, z1, M1, q1, q2, q3, q4, q5, q6⟩
    · have q1' : f_X3_takeNumber z 15 = some (1, z1) := q1
      have q7' : f_X7_number M 0 15 = some (nI (tkV b t (tkS b t p)), M1) := q7
      have fr1 : FrT M M1 := q9.t
      have hE2 := tkE_le (b := b) hE.2
      rw [q1', Option.bind_some, if_neg (show ¬ (1 : Int32) = 0 by decide), q7', Option.bind_some]
      dsimp only
      rcases num_ok q2 q3 hE.2 ((hM.t fr1).t (FrT_ob2 M1 (39 + a 51) (nI (tkV b t (tkS b t p))))) (q8.o2 (39 + a 51) (nI (tkV b t (tkS b t p)))) (most := 60) (by omega) with ⟨d2, dv, z2, M2, r1, r2, r3, r4, r5, r6, r7, r8, r9⟩ | ⟨f, s, z2, M2, r1, r2, r3, r4, r5, r6⟩
      · have r1' : f_X3_takeNumber z1 60 = some (1, z2) := r1
        have r7' : f_X7_number (ob M1 2 (39 + a 51) (nI (tkV b t (tkS b t p)))) 0 60 = some (nI (tkV b t (tkS b t (tkE b t p))), M2) := r7
        have fr2 : FrT M M2 := (fr1.tr (FrT_ob2 M1 _ _)).tr r9.t
        rw [r1', Option.bind_some, if_neg (show ¬ (1 : Int32) = 0 by decide), r7', Option.bind_some]
        dsimp only
        rw [q5, r5, addGuest_ok z4 hg, Option.bind_some, if_neg (show ¬ (1 : Int32) = 0 by decide)]
        -- the page
        have p1 : RP M1 a := hR.two (q9.1 2 (by omega))
        have p2 : RP M2 (va_up a (39 + a 51) (tkV b t (tkS b t p))) := (p1.up _ (k := 39 + a 51) (by omega) (by omega)).two (r9.1 2 (by omega))
        have p3 := p2.up (tkV b t (tkS b t (tkE b t p))) (k := 43 + a 51) (by omega) (by omega)
        have n37 : (ob M2 2 (43 + a 51) (nI (tkV b t (tkS b t (tkE b t p))))) 2 51 = nI (a 51) := by
          rw [p3.2 51 (by omega) (by omega), va_up_ne _ _ (by omega), va_up_ne _ _ (by omega)]
        have p4 := p3.up (a 51 + 1) (k := 51) (by omega) (by omega)
        have pe : va_up (va_up (va_up a (39 + a 51) (tkV b t (tkS b t p))) (43 + a 51) (tkV b t (tkS b t (tkE b t p)))) 51 (a 51 + 1) = addIP a (tkV b t (tkS b t p)) (tkV b t (tkS b t (tkE b t p))) := by
          have h0 := hP.2.1 (a 51) hg
          unfold addIP
          funext j
          simp only [vn_at]
          by_cases x : j = 51
          · rw [if_pos x, if_pos x]
          · rw [if_neg x, if_neg x]
            by_cases y : j = 47 + a 51
            · rw [if_pos y, if_neg (by omega), if_neg (by omega), y, h0]
            · rw [if_neg y]
        rw [pe] at p4
        rw [n37, nI_1]
        generalize hN : ob (ob M2 2 (43 + a 51) (nI (tkV b t (tkS b t (tkE b t p))))) 2 51 (nI (a 51 + 1)) = N at p4
        have frN : FrT M N := by rw [← hN]; exact (fr2.tr (FrT_ob2 M2 _ _)).tr (FrT_ob2 _ _ _)
        have tN : TK N b t (tkS b t (tkE b t (tkE b t p))) := by rw [← hN]; exact (r8.o2 _ _).o2 _ _
        have nN : ∀ j, N 0 j = M2 0 j := fun j => by rw [← hN, ob_20, ob_20]
        have e2 : M2 0 2 = nI (a 0) := by rw [r9.2 2 (by omega), ob_20, q9.2 2 (by omega)]; exact m2
        have e3 : M2 0 3 = nI gt := by rw [r9.2 3 (by omega), ob_20, q9.2 3 (by omega)]; exact m3
        have wz := addIP_rz hw hP.1 hg (tkV b t (tkS b t p)) (tkV b t (tkS b t (tkE b t p)))
        have wp : PI (addIP a (tkV b t (tkS b t p)) (tkV b t (tkS b t (tkE b t p)))) := by
          refine ⟨addIP_wf hP.1 hg (by omega) (by omega), fun i hi => ?_, ?_, ?_⟩
          · have := hP.2.1 i hi
            unfold addIP
            simp only [vn_at]
            rw [if_neg (by omega)]
            split
            · rfl
            · rw [if_neg (by omega), if_neg (by omega)]; exact this
          · unfold addIP; rw [va_up_ne _ _ (by omega), va_up_ne _ _ (by omega), va_up_ne _ _ (by omega), va_up_ne _ _ (by omega)]; exact hP.2.2.1
          · unfold addIP; rw [va_up_ne _ _ (by omega), va_up_ne _ _ (by omega), va_up_ne _ _ (by omega), va_up_ne _ _ (by omega)]; exact hP.2.2.2
        have a0 : addIP a (tkV b t (tkS b t p)) (tkV b t (tkS b t (tkE b t p))) 0 = a 0 := by
          unfold addIP; rw [va_up_ne _ _ (by omega), va_up_ne _ _ (by omega), va_up_ne _ _ (by omega), va_up_ne _ _ (by omega)]
        rcases sgn_ok r2 r3 hE2.2 (hM.t frN) tN with ⟨z3, M3, s1, s2, s3, s4, s5, s6, s7⟩ | ⟨f, s, z3, M3, s1, s2, s3, s4, s5, s6⟩
        · rw [s1, Option.bind_some, if_neg (show ¬ (1 : Int32) = 0 by decide), Option.bind_some]
          have hE3 := tkE_le (b := b) hE2.2
          have hS3 := tkS_le (b := b) hE2.2
          have hS2 := tkS_le (b := b) hE.2
          left
          refine ⟨z3, _, M3, tkE b t (tkE b t (tkE b t p)), _, gt, rfl, s2, s3, by omega, hE3.2, ?_, ?_, hgt, wz, wp, s5, s6, p4.two (s7.1 2 (by omega)), ?_, ?_, frN.tr s7.t⟩
          · rw [s4.2.2.1, r6.2.2.1, q6.2.2.1]; exact h6
          · rw [s4.2.2.2, r6.2.2.2, q6.2.2.2]; exact h7
          · rw [s7.2 2 (by omega), nN, e2, a0]
          · rw [s7.2 3 (by omega), nN, e3]
        · rw [s1, Option.bind_some, if_pos rfl, Option.bind_some]
          exact Or.inr ⟨f, s, z3, _, M3, rfl, s2, s3, s4, s5, frN.tr s6.t⟩
      · have r1' : f_X3_takeNumber z1 60 = some (0, z2) := r1
        have r4' : f_X7_number (ob M1 2 (39 + a 51) (nI (tkV b t (tkS b t p)))) 0 60 = some (0, M2) := r4
        rw [r1', Option.bind_some, if_pos rfl, r4', Option.bind_some, Option.bind_some]
        dsimp only
        have hB := Brk_ob (Brk_ob r5 2 (43 + a 51) 0 (Or.inl (by omega))) 2 51 ((ob M2 2 (43 + a 51) 0) 2 51 + 1) (Or.inl (by omega))
        rw [hB.sgn]
        exact Or.inr ⟨f, s, z2, w, _, rfl, r2, r3, rfl, hB, (((fr1.tr (FrT_ob2 M1 _ _)).tr r6.t).tr (FrT_ob2 _ _ _)).tr (FrT_ob2 _ _ _)⟩
    · have q1' : f_X3_takeNumber z 15 = some (0, z1) := q1
      have q4' : f_X7_number M 0 15 = some (0, M1) := q4
      rw [q1', Option.bind_some, if_pos rfl, q4', Option.bind_some]
      dsimp only
      have b1 := Brk_ob q5 2 (39 + a 51) 0 (Or.inl (by omega))
      rw [b1.num, Option.bind_some, Option.bind_some]
      dsimp only
      have hB := Brk_ob (Brk_ob b1 2 (43 + a 51) 0 (Or.inl (by omega))) 2 51 ((ob (ob M1 2 (39 + a 51) 0) 2 (43 + a 51) 0) 2 51 + 1) (Or.inl (by omega))
      rw [hB.sgn]
      exact Or.inr ⟨f, s, z1, w, _, rfl, q2, q3, rfl, hB, ((q6.t.tr (FrT_ob2 _ _ _)).tr (FrT_ob2 _ _ _)).tr (FrT_ob2 _ _ _)⟩
theorem line_t {b : Nat → Nat} {t p gt : Nat} {z w M : Ob} {a : Nat → Nat} (hz : ZT z b t) (h2 : z 0 2 = nI p) (hp : p ≤ t) (h6 : z 0 6 = 0) (h7 : z 0 7 = 0) (hw : RZ w a) (hP : PI a) (hM : MT M b t) (hT : TK M b t (tkS b t p)) (hR : RP M a) (m2 : M 0 2 = nI (a 0)) (m3 : M 0 3 = nI 1) : LO b t p gt M (f_X3_readGate z w) (mTail M 6) := by
  have hE := tkE_le (b := b) hp
  have hS := tkS_le (b := b) hp
  have h37 := hP.1.2.2.1
  unfold f_X3_readGate
  rw [if_pos h7]
  have ck0 : ∀ (r : Int32) (K : Option (Int32 × Ob × Ob)), (r = 0 ∨ r = 1) → ckb r K = K := fun r K h => by unfold ckb; rw [if_pos h]
  by_cases c0 : tkC b t p = 0
  · have hB := hT.brk c0
    rw [tail_brk hB]
    rcases num_ok hz h2 hp hM hT (most := 15) (by omega) with ⟨c2, -⟩ | ⟨f, s, z1, M1, q1, q2, q3, q4, q5, q6⟩
    · omega
    · have q1' : f_X3_takeNumber z 15 = some (0, z1) := q1
      have : M1 = M := by rw [hB.num] at q4; cases q4; rfl
      subst this
      rw [q1', Option.bind_some, if_pos rfl]
      exact Or.inr ⟨f, s, z1, w, M1, rfl, q2, q3, rfl, q5, FrT.rf _⟩
  · rw [tail_0 (hT.2.2.1 c0).1]
    unfold f_X7_readMore
    rw [if_pos (show (3 : Int32) < 6 by decide), if_neg (show ¬ (6 : Int32) = 4 by decide), if_neg (show ¬ (6 : Int32) = 5 by decide)]
    rcases num_ok hz h2 hp hM hT (most := 15) (by omega) with ⟨c2, cv, z1, M1, q1, q2, q3, q4, q5, q6, q7, q8, q9⟩ | ⟨f, s, z1, M1, q1, q2, q3, q4, q5, q6⟩
    · have q1' : f_X3_takeNumber z 15 = some (1, z1) := q1
      have q7' : f_X7_number M 0 15 = some (nI (tkV b t (tkS b t p)), M1) := q7
      rw [q1', Option.bind_some, if_neg (show ¬ (1 : Int32) = 0 by decide), q7', Option.bind_some, Option.bind_some]
      dsimp only
      rw [q5]
      have zt : ZT (ob z1 0 7 1) b t := ⟨q2.1, by rw [ob_0 _ _ (by omega)]; exact q2.2.1, fun i hi => by rw [ob_1]; exact q2.2.2.1 i hi, q2.2.2.2⟩
      have frN : FrT M (ob M1 2 24 (nI (tkV b t (tkS b t p)))) := q9.t.tr (FrT_ob2 M1 _ _)
      have p1 : RP M1 a := hR.two (q9.1 2 (by omega))
      have p4 := p1.up (tkV b t (tkS b t p)) (k := 24) (by omega) (by omega)
      have wz := hw.gate h37 (tkV b t (tkS b t p))
      have wp : PI (va_up a 24 (tkV b t (tkS b t p))) := ⟨hP.1.up (by unfold bnd; omega), fun i hi => by rw [va_up_ne _ _ (by omega)]; exact hP.2.1 i hi, by rw [va_up_ne _ _ (by omega)]; exact hP.2.2.1, by rw [va_up_ne _ _ (by omega)]; exact hP.2.2.2⟩
      rcases sgn_ok zt (by rw [ob_0 _ _ (by omega)]; exact q3) hE.2 (hM.t frN) (q8.o2 24 (nI (tkV b t (tkS b t p)))) with ⟨z3, M3, s1, s2, s3, s4, s5, s6, s7⟩ | ⟨f, s, z3, M3, s1, s2, s3, s4, s5, s6⟩
      · rw [s1, Option.bind_some, ck0 _ _ (Or.inr rfl)]
        have hE3 := tkE_le (b := b) hE.2
        have hS3 := tkS_le (b := b) hE.2
        left
        refine ⟨z3, _, M3, tkE b t (tkE b t p), _, 1, rfl, s2, s3, by omega, hE3.2, ?_, ?_, by omega, wz, wp, s5, s6, p4.two (s7.1 2 (by omega)), ?_, ?_, frN.tr s7.t⟩
        · rw [s4.2.2.1, ob_0 _ _ (by omega), q6.2.2.1]; exact h6
        · rw [s4.2.2.2, ob_00]; rfl
        · rw [s7.2 2 (by omega), ob_20, q9.2 2 (by omega), m2, va_up_ne _ _ (by omega)]
        · rw [s7.2 3 (by omega), ob_20, q9.2 3 (by omega), m3]
      · rw [s1, Option.bind_some, ck0 _ _ (Or.inl rfl)]
        exact Or.inr ⟨f, s, z3, _, M3, rfl, s2, s3, s4, s5, frN.tr s6.t⟩
    · have q1' : f_X3_takeNumber z 15 = some (0, z1) := q1
      have q4' : f_X7_number M 0 15 = some (0, M1) := q4
      rw [q1', Option.bind_some, if_pos rfl, q4', Option.bind_some, Option.bind_some]
      dsimp only
      have hB := Brk_ob q5 2 24 0 (Or.inl (by omega))
      rw [hB.sgn]
      exact Or.inr ⟨f, s, z1, w, _, rfl, q2, q3, rfl, hB, q6.t.tr (FrT_ob2 _ _ _)⟩
theorem Brk.hedges {M : Ob} {f s : Nat} (h : Brk M f s) (fuel : Nat) : f_X7_readHedges_l0 (fuel + 1) M = some M := by
  rw [f_X7_readHedges_l0, if_neg h.ne]
theorem line_h {b : Nat → Nat} {t gt : Nat} (hgt : gt < 2) : ∀ (k fuel fuel' : Nat) (z w M : Ob) (a : Nat → Nat) (p i : Nat), t < p + k → k < fuel → k + 1 < fuel' → ZT z b t → z 0 2 = nI p → p ≤ t → i ≤ p → z 0 6 = 0 → z 0 7 = nI gt → RZ w a → PI a → MT M b t → TK M b t (tkS b t p) → RP M a → M 0 2 = nI (a 0) → M 0 3 = nI gt → LO b t p gt M (f_X3_readHedges_l2 fuel z w (nI i)) ((f_X7_readHedges_l0 fuel' M).bind fun q11 => sgn7 q11) := by
  intro k
  induction k with
  | zero => intro fuel fuel' z w M a p i hk; intros; omega
  | succ k ih =>
    intro fuel fuel' z w M a p i hk hf hf' hz h2 hp hi h6 h7 hw hP hM hT hR m2 m3
    obtain ⟨fuel, rfl⟩ : ∃ f, fuel = f + 1 := ⟨fuel - 1, by omega⟩
    obtain ⟨fuel', rfl⟩ : ∃ f, fuel' = f + 1 := ⟨fuel' - 1, by omega⟩
    have ht := hz.1
    have hE := tkE_le (b := b) hp
    have hS := tkS_le (b := b) hp
    have hC := tkC_lt b t p
    have ck0 : ∀ (r : Int32) (K : Option (Int32 × Ob × Ob)), (r = 0 ∨ r = 1) → ckb r K = K := fun r K h => by unfold ckb; rw [if_pos h]
    have ck1 : ∀ (r : Int32) (K : Option (Int32 × Ob)), (r = 0 ∨ r = 1) → ckb r K = K := fun r K h => by unfold ckb; rw [if_pos h]
    obtain ⟨z1, q1, q2, q3, q4, q5, q6⟩ := tok6 hz h2 hp
    have hT' := hT
    obtain ⟨t1, t2, t3, t4, t5⟩ := hT'
    have eC : tkK b t (tkS b t p) = tkC b t p := rfl
    rw [eC] at t3 t4 t5
    rw [f_X3_readHedges_l2, if_neg (show ¬ (160 : Int32) < nI i from fun x => absurd ((nI_lt_iff (a := 160) (by omega) (by omega)).mp x) (by omega)), q1, Option.bind_some, q4]
    by_cases c3 : tkC b t p = 3
    · obtain ⟨b7, b11⟩ := t3 (by omega)
      rw [if_pos (show nI (tkC b t p) = (3 : Int32) by rw [c3]; rfl), f_X7_readHedges_l0, if_pos b7, b11, if_neg (show ¬ nI (mco (tkC b t p)) = (2 : Int32) by rw [c3]; decide), Option.bind_some]
      obtain ⟨M1, r1, r2, r3⟩ := tok7 hM t1 b7 hE.2
      unfold sgn7 f_X7_readLine_b137
      rw [if_pos b7, b11, if_pos (show nI (mco (tkC b t p)) = (3 : Int32) by rw [c3]; rfl), r1, Option.bind_some]
      left
      exact ⟨z1, w, M1, tkE b t p, a, gt, rfl, hz.rf q6, q2, by omega, hE.2, by rw [q6.2.2.1]; exact h6, by rw [q6.2.2.2]; exact h7, hgt, hw, hP, rfl, r2, hR.two (r3.1 2 (by omega)), by rw [r3.2 2 (by omega)]; exact m2, by rw [r3.2 3 (by omega)]; exact m3, r3.t⟩
    · rw [if_neg (show ¬ nI (tkC b t p) = (3 : Int32) from fun x => c3 ((nI_eq_iff (b := 3) (by omega) (by omega)).mp x))]
      unfold f_X3_isNumberTo f_X3_isNumberTo_b29
      rw [q4]
      by_cases c2 : tkC b t p = 2
      · have hv := tkV_lt (t := t) (hz.2.2.2 (tkS b t p)) (hz.2.2.2 (tkS b t p + 1))
        obtain ⟨b7, b11⟩ := t3 (by omega)
        have b12 := t5 c2
        rw [if_pos (show nI (tkC b t p) = (2 : Int32) by rw [c2]; rfl), q5 c2, f_X7_readHedges_l0, if_pos b7, b11, if_pos (show nI (mco (tkC b t p)) = (2 : Int32) by rw [c2]; rfl), b12]
        unfold f_X7_readHedges_b50
        by_cases cv : tkV b t (tkS b t p) ≤ 23
        · rw [if_pos (show nI (tkV b t (tkS b t p)) ≤ (23 : Int32) from (nI_le_iff (b := 23) (by omega) (by omega)).mpr cv), Option.bind_some, if_neg (show ¬ (1 : Int32) = 0 by decide), in_y (n := 24) (by omega) (by omega) (by decide), bd1, m2, bit_at hP.1.1 (by omega)]
          dsimp only
          rw [q5 c2, standing_ok hw.1 hP.1.1 (by omega), Option.bind_some]
          have hb := hbt_lt (a 0) (tkV b t (tkS b t p))
          by_cases cs : hbt (a 0) (tkV b t (tkS b t p)) = 1
          · obtain ⟨M1, r1, r2, r3⟩ := fails_ok b7 t2 (c := 4) (by omega)
            have r1' : f_X7_fails M 4 = some M1 := r1
            rw [if_pos (show nI (hbt (a 0) (tkV b t (tkS b t p))) = (1 : Int32) by rw [cs]; rfl), if_pos (show nI (hbt (a 0) (tkV b t (tkS b t p))) = (1 : Int32) by rw [cs]; rfl), fail_ok, Option.bind_some, ck0 _ _ (Or.inl rfl), r1', Option.bind_some, r2.num, Option.bind_some]
            dsimp only
            rw [show ck (0 : Int32) 53 = fun (K : Option Ob) => K from by funext K; exact ck_nI (i := 0) (by omega) (by omega)]
            have hB := Brk_ob (Brk_ob r2 0 2 ((M1 0 2) ||| ((1 : Int32) <<< ((0 : Int32) &&& 31))) (Or.inr (by omega))) 2 ((0 : Int32).toNatClampNeg) 1 (Or.inl (by omega))
            obtain ⟨fuel', rfl⟩ : ∃ f, fuel' = f + 1 := ⟨fuel' - 1, by omega⟩
            rw [hB.hedges, Option.bind_some, hB.sgn]
            exact Or.inr ⟨4, _, ob z1 0 6 4, w, _, rfl, by rw [ob_00]; rfl, by rw [ob_0 _ _ (by omega)]; exact q3, rfl, hB, (r3.t.tr (FrT_ob0 _ _ (by omega))).tr (FrT_ob2 _ _ _)⟩
          · have n1 : ¬ nI (hbt (a 0) (tkV b t (tkS b t p))) = (1 : Int32) := fun x => cs ((nI_eq_iff (b := 1) (by omega) (by omega)).mp x)
            rcases num_ok hz h2 hp hM hT (most := 23) (by omega) with ⟨-, -, zz, M1, -, -, -, -, -, -, r7, r8, r9⟩ | ⟨f, s, zz, M1, r1, -, -, r4, r5, r6⟩
            · have r7' : f_X7_number M 0 23 = some (nI (tkV b t (tkS b t p)), M1) := r7
              have gE := tkE_gt hp (show tkC b t p ≠ 4 by omega)
              rw [if_neg n1, if_neg n1, hw.1, show (1 : Int32) = nI 1 from rfl, with_ok (v := 1) (by omega) (by omega), Option.bind_some, r7', Option.bind_some, ck_nI (by omega) (by omega), nI_cl (by omega)]
              have hs := setb_lt (v := 1) hP.1.1 (show tkV b t (tkS b t p) < 24 by omega)
              have e2 : (M1 0 2) ||| (nI 1 <<< (nI (tkV b t (tkS b t p)) &&& 31)) = nI (setb (a 0) (tkV b t (tkS b t p)) 1) := by
                rw [r9.2 2 (by omega), m2, show (31 : Int32) = nI 31 from rfl, nI_shl 1 (by omega), fa_or]
                unfold setb
                rw [if_pos rfl]
              dsimp only
              rw [e2, nI_add]
              have p1 : RP M1 a := hR.two (r9.1 2 (by omega))
              have p2 : RP (ob M1 0 2 (nI (setb (a 0) (tkV b t (tkS b t p)) 1))) a := p1.two (by funext j; rw [ob_at, if_neg (by decide)])
              have p3 := p2.hedge (k := tkV b t (tkS b t p)) (by omega)
              have tk : TK (ob (ob M1 0 2 (nI (setb (a 0) (tkV b t (tkS b t p)) 1))) 2 (tkV b t (tkS b t p)) 1) b t (tkS b t (tkE b t p)) := by
                have e : ∀ j, j ≠ 2 → (ob M1 0 2 (nI (setb (a 0) (tkV b t (tkS b t p)) 1))) 0 j = M1 0 j := fun j hj => ob_0 _ _ hj
                refine TK.o2 ?_ _ _
                unfold TK
                rw [e _ (by omega), e _ (by omega), e _ (by omega), e _ (by omega), e _ (by omega), e _ (by omega)]
                exact r8
              have fr : FrT M (ob (ob M1 0 2 (nI (setb (a 0) (tkV b t (tkS b t p)) 1))) 2 (tkV b t (tkS b t p)) 1) := (r9.t.tr (FrT_ob0 _ _ (by omega))).tr (FrT_ob2 _ _ _)
              have wp : PI (va_up a 0 (setb (a 0) (tkV b t (tkS b t p)) 1)) := ⟨hP.1.up (by unfold bnd; omega), fun i hi => by rw [va_up_ne _ _ (by omega)]; exact hP.2.1 i hi, by rw [va_up_ne _ _ (by omega)]; exact hP.2.2.1, by rw [va_up_ne _ _ (by omega)]; exact hP.2.2.2⟩
              have := ih fuel fuel' z1 (ob w 0 0 (nI (setb (a 0) (tkV b t (tkS b t p)) 1))) (ob (ob M1 0 2 (nI (setb (a 0) (tkV b t (tkS b t p)) 1))) 2 (tkV b t (tkS b t p)) 1) (va_up a 0 (setb (a 0) (tkV b t (tkS b t p)) 1)) (tkE b t p) (i + 1) (by omega) (by omega) (by omega) (hz.rf q6) q2 hE.2 (by omega) (by rw [q6.2.2.1]; exact h6) (by rw [q6.2.2.2]; exact h7) (hw.hedges _) wp (hM.t fr) tk p3 (by rw [ob_20, ob_00, va_up_self]) (by rw [ob_20, ob_0 _ _ (by omega), r9.2 3 (by omega)]; exact m3)
              rcases this with ⟨z2, w2, M2, p2', a2, gt2, s1, s2, s3, s4, s5, s6, s7, s8, s9, s10, s11, s12, s13, s14, s15, s16⟩ | ⟨f, s, z2, w2, M2, s1, s2, s3, s4, s5, s6⟩
              · exact Or.inl ⟨z2, w2, M2, p2', a2, gt2, s1, s2, s3, by omega, s5, s6, s7, s8, s9, s10, s11, s12, s13, s14, s15, fr.tr s16⟩
              · exact Or.inr ⟨f, s, z2, w2, M2, s1, s2, s3, s4, s5, fr.tr s6⟩
            · -- not so: the number is good
              exfalso
              have r4' : f_X7_number M 0 23 = some (0, M1) := r4
              unfold f_X7_number f_X7_number_b20 f_X7_number_b47 f_X7_number_b62 at r4'
              obtain ⟨M9, y1, y2, y3⟩ := tok7 hM t1 b7 hE.2
              rw [if_pos b7, b11, if_pos (show nI (mco (tkC b t p)) = (2 : Int32) by rw [c2]; rfl), if_pos b7, b12, show (0 : Int32).toInt64 = 0 from rfl, in_y (n := 24) (by omega) (by omega) (by decide), bd1, if_pos b7, y1, Option.bind_some] at r4'
              have e9 : M9 = M1 := by
                have := congrArg (fun o => o.map Prod.snd) r4'
                simpa using this
              unfold f_X3_takeNumber f_X3_isNumberTo f_X3_isNumberTo_b29 at r1
              rw [q1, Option.bind_some, q4, if_pos (show nI (tkC b t p) = (2 : Int32) by rw [c2]; rfl), q5 c2, if_pos ((nI_le_iff (by omega) (by omega)).mpr cv), Option.bind_some] at r1
              have := congrArg (fun o => o.map Prod.fst) r1
              simp [ckb] at this
        · have nr : ¬ Rg (nI (tkV b t (tkS b t p))) 24 := not_Rg (by omega) (by omega)
          rcases num_ok hz h2 hp hM hT (most := 23) (by omega) with ⟨-, cv2, -⟩ | ⟨f, s, zz, M1, r1, r2, r3, r4, r5, r6⟩
          · exact absurd cv2 cv
          · have r4' : f_X7_number M 0 23 = some (0, M1) := r4
            unfold f_X3_takeNumber f_X3_isNumberTo f_X3_isNumberTo_b29 at r1
            rw [q1, Option.bind_some, q4, if_pos (show nI (tkC b t p) = (2 : Int32) by rw [c2]; rfl), q5 c2, if_neg (fun x => cv ((nI_le_iff (by omega) (by omega)).mp x)), fail_ok, Option.bind_some, if_pos rfl, Option.bind_some, ck1 _ _ (Or.inl rfl)] at r1
            have ez : ob z1 0 6 3 = zz := by
              have := congrArg (fun o => o.map Prod.snd) r1
              simpa using this
            rw [if_neg (show ¬ nI (tkV b t (tkS b t p)) ≤ (23 : Int32) from fun x => cv ((nI_le_iff (b := 23) (by omega) (by omega)).mp x)), fail_ok, Option.bind_some, if_pos rfl, Option.bind_some, if_pos rfl, in_n nr (by omega) (by decide), bd0, r4', Option.bind_some]
            dsimp only
            rw [show ck (0 : Int32) 53 = fun (K : Option Ob) => K from by funext K; exact ck_nI (i := 0) (by omega) (by omega)]
            have hB := Brk_ob (Brk_ob r5 0 2 ((M1 0 2) ||| ((1 : Int32) <<< ((0 : Int32) &&& 31))) (Or.inr (by omega))) 2 ((0 : Int32).toNatClampNeg) 1 (Or.inl (by omega))
            obtain ⟨fuel', rfl⟩ : ∃ f, fuel' = f + 1 := ⟨fuel' - 1, by omega⟩
            rw [hB.hedges, Option.bind_some, hB.sgn, ez]
            exact Or.inr ⟨f, s, zz, w, _, rfl, r2, r3, rfl, hB, (r6.t.tr (FrT_ob0 _ _ (by omega))).tr (FrT_ob2 _ _ _)⟩
      · rw [if_neg (show ¬ nI (tkC b t p) = (2 : Int32) from fun x => c2 ((nI_eq_iff (b := 2) (by omega) (by omega)).mp x))]
        by_cases c0 : tkC b t p = 0
        · have hB := hT.brk c0
          rw [fat_0 (by rw [q4, c0]; rfl), Option.bind_some, ck1 _ _ (Or.inl rfl), Option.bind_some, if_pos rfl, hB.hedges, Option.bind_some, hB.sgn]
          exact Or.inr ⟨1, _, ob z1 0 6 1, w, M, rfl, by rw [ob_00]; rfl, by rw [ob_0 _ _ (by omega)]; exact q3, rfl, hB, FrT.rf M⟩
        · obtain ⟨b7, b11⟩ := t3 c0
          obtain ⟨M1, r1, r2, r3⟩ := fails_ok b7 t2 (c := 2) (by omega)
          have r1' : f_X7_fails M 2 = some M1 := r1
          have nm : ∀ c : Nat, c = 2 ∨ c = 3 → ¬ nI (mco (tkC b t p)) = nI c := by
            intro c hc x
            have := (nI_eq_iff (by unfold mco; split <;> omega) (by omega)).mp x
            unfold mco at this
            split at this <;> omega
          rw [fat_n (by rw [q4]; exact nI_ne0 (by omega) (by omega)), Option.bind_some, ck1 _ _ (Or.inl rfl), Option.bind_some, if_pos rfl, f_X7_readHedges_l0, if_pos b7, b11, if_neg (show ¬ nI (mco (tkC b t p)) = (2 : Int32) from nm 2 (by omega)), Option.bind_some]
          unfold sgn7 f_X7_readLine_b137
          rw [if_pos b7, b11, if_neg (show ¬ nI (mco (tkC b t p)) = (3 : Int32) from nm 3 (by omega)), r1', Option.bind_some, r2.step, Option.bind_some]
          exact Or.inr ⟨2, _, ob z1 0 6 2, w, M1, rfl, by rw [ob_00]; rfl, by rw [ob_0 _ _ (by omega)]; exact q3, rfl, r2, r3.t⟩
