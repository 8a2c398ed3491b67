/-! a line, all lines, the text -/
theorem LO.ckb {b : Nat → Nat} {t p gt : Nat} {M : Ob} {cls : Option (Int32 × Ob × Ob)} {mdl : Option Ob} (h : LO b t p gt M cls mdl) : LO b t p gt M (cls.bind fun q => ckb q.1 (some (q.1, q.2.1, q.2.2))) mdl := by
  rcases h with ⟨z2, w2, M2, p2, a2, gt2, s1, s⟩ | ⟨f, s, z2, w2, M2, s1, s2⟩
  · exact Or.inl ⟨z2, w2, M2, p2, a2, gt2, by rw [s1, Option.bind_some]; rfl, s⟩
  · exact Or.inr ⟨f, s, z2, w2, M2, by rw [s1, Option.bind_some]; rfl, s2⟩
theorem LO.fr {b : Nat → Nat} {t p gt : Nat} {M0 M : Ob} {cls : Option (Int32 × Ob × Ob)} {mdl : Option Ob} (h : LO b t p gt M cls mdl) (hF : FrT M0 M) : LO b t p gt M0 cls mdl := by
  rcases h with ⟨z2, w2, M2, p2, a2, gt2, s1, s2, s3, s4, s5, s6, s7, s8, s9, s10, s11, s12, s13, s14, s15, s16⟩ | ⟨f, s, z2, w2, M2, s1, s2, s3, s4, s5, s6⟩
  · exact Or.inl ⟨z2, w2, M2, p2, a2, gt2, s1, s2, s3, s4, s5, s6, s7, s8, s9, s10, s11, s12, s13, s14, s15, hF.tr s16⟩
  · exact Or.inr ⟨f, s, z2, w2, M2, s1, s2, s3, s4, s5, hF.tr s6⟩
theorem b97_ok {b : Nat → Nat} {t r : Nat} {M : Ob} {x1 : Int32} {y : Nat} (hy : y < 2) (hM : MT M b t) (h7 : M 0 7 = 0) (h9 : M 0 9 = nI r) (hr : r ≤ t) : ∃ M1, f_X7_readLine_b97 M x1 (nI y) = mTail M1 x1 ∧ TK M1 b t (tkS b t r) ∧ FrT M M1 ∧ M1 2 = M 2 ∧ M1 0 2 = M 0 2 ∧ M1 0 3 = nI y := by
  have fr := FrT_ob0 M (k := 3) (nI y) (by omega)
  obtain ⟨M1, r1, r2, r3⟩ := tok7 (hM.t fr) (by rw [ob_0 _ _ (by omega)]; exact h9) (by rw [ob_0 _ _ (by omega)]; exact h7) hr
  refine ⟨M1, ?_, r2, fr.tr r3.t, ?_, ?_, ?_⟩
  · unfold f_X7_readLine_b97
    rw [r1, Option.bind_some]
    rcases (show y = 0 ∨ y = 1 by omega) with rfl | rfl <;> rfl
  · rw [r3.1 2 (by omega)]; funext j; rw [ob_at, if_neg (by decide)]
  · rw [r3.2 2 (by omega), ob_0 _ _ (by omega)]
  · rw [r3.2 3 (by omega), ob_00]
theorem b78_brk {M : Ob} {f s : Nat} (h : Brk M f s) (x : Int32) : ∃ M1, f_X7_readLine_b78 M x = some M1 ∧ Brk M1 f s ∧ FrT M M1 := by
  have one : ∀ y : Int32, (y = 0 ∨ y = 1) → f_X7_readLine_b97 M x y = some (ob M 0 3 y) := by
    intro y hy
    have hB := Brk_ob h 0 3 y (Or.inr (by omega))
    unfold f_X7_readLine_b97
    rw [hB.step, Option.bind_some, show ckb y = fun (K : Option Ob) => K from by funext K; unfold ckb; rw [if_pos hy]]
    exact tail_brk hB x
  unfold f_X7_readLine_b78 f_X7_readLine_b92
  rw [one 0 (Or.inl rfl), one 1 (Or.inr rfl)]
  have e : ∀ y : Int32, Brk (ob M 0 3 y) f s ∧ FrT M (ob M 0 3 y) := fun y => ⟨Brk_ob h 0 3 y (Or.inr (by omega)), FrT_ob0 M y (by omega)⟩
  split
  · split
    · exact ⟨_, rfl, e 1⟩
    · exact ⟨_, rfl, e 0⟩
  · exact ⟨_, rfl, e 1⟩
theorem b60_brk {M : Ob} {f s : Nat} (h : Brk M f s) (x : Int32) : ∃ M1, f_X7_readLine_b60 M x = some M1 ∧ Brk M1 f s ∧ FrT M M1 := by
  unfold f_X7_readLine_b60
  rw [h.fails, Option.bind_some]
  obtain ⟨M1, q⟩ := b78_brk h x
  split
  · split
    · exact ⟨M1, q⟩
    · exact ⟨M1, q⟩
  · exact ⟨M1, q⟩
theorem in06 {m : Nat} (hm : m < 7) : f_X7_in (nI m).toInt64 0 6 = some 1 := in_y hm (by omega) (by decide)
theorem in06_n : f_X7_in (-4 : Int32).toInt64 0 6 = some 0 := isS_eq (by decide +kernel)
/-- the model's line, when no fault is met before its name is taken -/
theorem b78_ok {b : Nat → Nat} {t r gt m : Nat} {M : Ob} (hgt : gt < 2) (hm : m < 7) (hM : MT M b t) (h7 : M 0 7 = 0) (h9 : M 0 9 = nI r) (hr : r ≤ t) (m3 : M 0 3 = nI gt) : ∃ M1, f_X7_readLine_b78 M (nI m) = mTail M1 (nI m) ∧ TK M1 b t (tkS b t r) ∧ FrT M M1 ∧ M1 2 = M 2 ∧ M1 0 2 = M 0 2 ∧ M1 0 3 = nI (if m = 6 then 1 else gt) := by
  unfold f_X7_readLine_b78 f_X7_readLine_b92
  rw [m3]
  by_cases c6 : m = 6
  · subst c6
    rw [if_pos (show nI 6 = (6 : Int32) from rfl), if_pos rfl]
    obtain ⟨M1, q⟩ := b97_ok (x1 := nI 6) (y := 1) (by omega) hM h7 h9 hr
    have q1 : f_X7_readLine_b97 M (nI 6) 1 = mTail M1 (nI 6) := q.1
    rw [q1]
    refine ⟨M1, ?_, q.2⟩
    split <;> rfl
  · rw [if_neg (show ¬ nI m = (6 : Int32) from fun x => c6 ((nI_eq_iff (b := 6) (by omega) (by omega)).mp x)), if_neg c6]
    obtain ⟨M1, q⟩ := b97_ok (x1 := nI m) (y := gt) hgt hM h7 h9 hr
    refine ⟨M1, ?_, q.2⟩
    rcases (show gt = 0 ∨ gt = 1 by omega) with rfl | rfl
    · rw [if_pos (show nI 0 = (0 : Int32) from rfl)]; exact q.1
    · rw [if_neg (show ¬ nI 1 = (0 : Int32) by decide)]; exact q.1
theorem line_ok {b : Nat → Nat} {t p gt : Nat} {z1 w M : Ob} {a : Nat → Nat} (hp : p ≤ t) (hz : ZT z1 b t) (q2 : z1 0 2 = nI (tkE b t p)) (q3 : z1 0 3 = nI (tkS b t p)) (q4 : z1 0 4 = nI (tkC b t p)) (h6 : z1 0 6 = 0) (h7 : z1 0 7 = nI gt) (hgt : gt < 2) (hw : RZ w a) (hP : PI a) (hM : MT M b t) (hT : TK M b t (tkS b t p)) (hR : RP M a) (m2 : M 0 2 = nI (a 0)) (m3 : M 0 3 = nI gt) (hc : Cn M) (c0 : tkC b t p ≠ 0) (c4 : tkC b t p ≠ 4) : LO b t (tkE b t p) gt M (f_X3_readLine z1 w) (f_X7_readLine M) := by
  have ht := hz.1
  have hE := tkE_le (b := b) hp
  have hS := tkS_le (b := b) hp
  have hC := tkC_lt b t p
  have h37 := hP.1.2.2.1
  have h51 := hP.1.2.2.2.2.1
  obtain ⟨t1, t2, t3, t4, t5⟩ := hT
  have eC : tkK b t (tkS b t p) = tkC b t p := rfl
  rw [eC] at t3 t4 t5
  obtain ⟨b7, b11⟩ := t3 c0
  have t1' : M 0 9 = nI (tkE b t p) := t1
  have ck2 : ∀ (r : Int32) (K : Option (Int32 × Ob × Ob)), (r = 0 ∨ r = 1) → ckb r K = K := fun r K h => by unfold ckb; rw [if_pos h]
  -- a fault of the name
  have flt : ∀ c : Nat, 0 < c ∧ c ≤ 5 → ∃ M1, f_X7_fails M (nI c) = some M1 ∧ Brk M1 c (tkS b t p) ∧ MF M M1 := fun c h => fails_ok b7 t2 h
  unfold f_X3_readLine f_X7_readLine
  rw [q4]
  by_cases c1 : tkC b t p = 1
  · rw [if_pos (show nI (tkC b t p) = (1 : Int32) by rw [c1]; rfl), kindNamed_ok hz q2 q3 hE.1 hE.2, Option.bind_some, spells_ok (i := 0) (by omega) hz q2 q3 hE.1 hE.2, spells_ok (i := 1) (by omega) hz q2 q3 hE.1 hE.2, spells_ok (i := 2) (by omega) hz q2 q3 hE.1 hE.2, nameHere_ok hM hc t1' t2 (by rw [b11, c1]; rfl) hE.1 hE.2, Option.bind_some, nmP_C]
    rw [show mpI 0 = 4 from rfl, show mpI 1 = 5 from rfl, show mpI 2 = 6 from rfl]
    have e37 : M 2 37 = nI (a 37) := hR.2 37 (by omega) (by omega)
    have e51 : M 2 51 = nI (a 51) := hR.2 51 (by omega) (by omega)
    -- gardeners
    have gard : ∀ m, m < 4 → LO b t (tkE b t p) gt M ((f_X3_readGardener z1 w (nI m)).bind fun q18 => ckb q18.1 (some (q18.1, q18.2.1, q18.2.2))) ((f_X7_in (nI m).toInt64 0 6).bind fun q2 => if q2 = 0 then ((f_X7_fails M (2 : Int32)).bind fun q6 => some q6) else (if (3 : Int32) < nI m then (f_X7_readLine_b39 M (nI m)) else (if (M 2 37) = (4 : Int32) then (f_X7_readLine_b55 M (nI m)) else (f_X7_readLine_b39 M (nI m))))) := by
      intro m hm
      rw [in06 (by omega), bd1, if_neg (show ¬ (3 : Int32) < nI m from fun x => absurd ((nI_lt_iff (a := 3) (by omega) (by omega)).mp x) (by omega)), e37]
      by_cases cg : a 37 = 4
      · obtain ⟨M1, r1, r2, r3⟩ := flt 5 (by omega)
        have r1' : f_X7_fails M 5 = some M1 := r1
        obtain ⟨M2, s1, s2, s3⟩ := b60_brk r2 (nI m)
        unfold f_X3_readGardener f_X7_readLine_b55
        rw [hw.2.2.2.2.1, cg, if_neg (show ¬ nI 4 < (4 : Int32) by decide), fail_ok, Option.bind_some, ck2 _ _ (Or.inl rfl), Option.bind_some, ck2 _ _ (Or.inl rfl), if_pos (show nI 4 = (4 : Int32) from rfl), r1', Option.bind_some, s1]
        exact Or.inr ⟨5, _, ob z1 0 6 5, w, M2, rfl, by rw [ob_00]; rfl, by rw [ob_0 _ _ (by omega)]; exact q3, rfl, s2, r3.t.tr s3⟩
      · rw [if_neg (show ¬ nI (a 37) = (4 : Int32) from fun x => cg ((nI_eq_iff (b := 4) (by omega) (by omega)).mp x))]
        unfold f_X7_readLine_b39 f_X7_readLine_b60
        rw [if_neg (show ¬ nI m = (4 : Int32) from fun x => absurd ((nI_eq_iff (b := 4) (by omega) (by omega)).mp x) (by omega)), if_neg (show ¬ nI m = (6 : Int32) from fun x => absurd ((nI_eq_iff (b := 6) (by omega) (by omega)).mp x) (by omega))]
        obtain ⟨M1, r1, r2, r3, r4, r5, r6⟩ := b78_ok hgt (show m < 7 by omega) hM b7 t1' hE.2 m3
        rw [if_neg (show ¬ m = 6 by omega)] at r6
        rw [r1]
        exact ((line_g hz q2 hE.2 h6 h7 hgt hw hP (by omega) hm (hM.t r3) r2 (hR.two r4) (by rw [r5]; exact m2) r6).ckb).fr r3
    have neg : ∀ m, m < 4 → ¬ nI m < (0 : Int32) := fun m hm => nI_pos (by omega)
    unfold nmC
    by_cases s0 : spB b (tkS b t p) (tkE b t p) 0 = true
    · rw [if_pos s0, if_pos s0]
      show LO b t (tkE b t p) gt M (if nI 0 < 0 then _ else _) _
      rw [if_neg (neg 0 (by omega))]
      exact gard 0 (by omega)
    · rw [if_neg s0, if_neg s0]
      by_cases s1 : spB b (tkS b t p) (tkE b t p) 1 = true
      · rw [if_pos s1, if_pos s1]
        show LO b t (tkE b t p) gt M (if nI 1 < 0 then _ else _) _
        rw [if_neg (neg 1 (by omega))]
        exact gard 1 (by omega)
      · rw [if_neg s1, if_neg s1]
        by_cases s2 : spB b (tkS b t p) (tkE b t p) 2 = true
        · rw [if_pos s2, if_pos s2]
          show LO b t (tkE b t p) gt M (if nI 2 < 0 then _ else _) _
          rw [if_neg (neg 2 (by omega))]
          exact gard 2 (by omega)
        · rw [if_neg s2, if_neg s2]
          by_cases s3 : spB b (tkS b t p) (tkE b t p) 3 = true
          · rw [if_pos s3, if_pos s3]
            show LO b t (tkE b t p) gt M (if nI 3 < 0 then _ else _) _
            rw [if_neg (neg 3 (by omega))]
            exact gard 3 (by omega)
          · rw [if_neg s3, if_neg s3]
            show LO b t (tkE b t p) gt M (if (-4 : Int32) < 0 then _ else _) _
            rw [if_pos (show (-4 : Int32) < 0 by decide)]
            cases s4 : spB b (tkS b t p) (tkE b t p) 4 with
            | true =>
              rw [if_pos rfl, show b2i true = (1 : Int32) from rfl, if_neg (show ¬ (1 : Int32) = 0 by decide)]
              show LO b t (tkE b t p) gt M _ ((f_X7_in (nI 4).toInt64 0 6).bind fun q2 => if q2 = 0 then ((f_X7_fails M (2 : Int32)).bind fun q6 => some q6) else (if (3 : Int32) < nI 4 then (f_X7_readLine_b39 M (nI 4)) else (if (M 2 37) = (4 : Int32) then (f_X7_readLine_b55 M (nI 4)) else (f_X7_readLine_b39 M (nI 4)))))
              rw [in06 (by omega), bd1, if_pos (show (3 : Int32) < nI 4 by decide)]
              unfold f_X7_readLine_b39
              rw [if_pos (show nI 4 = (4 : Int32) from rfl), e51]
              by_cases cg : a 51 = 4
              · obtain ⟨M1, r1, r2, r3⟩ := flt 5 (by omega)
                have r1' : f_X7_fails M 5 = some M1 := r1
                obtain ⟨M2, u1, u2, u3⟩ := b60_brk r2 (nI 4)
                unfold f_X3_readGuest f_X7_readLine_b55
                rw [hw.2.2.2.2.2.1, cg, if_neg (show ¬ nI 4 < (4 : Int32) by decide), fail_ok, Option.bind_some, ck2 _ _ (Or.inl rfl), Option.bind_some, ck2 _ _ (Or.inl rfl), if_pos (show nI 4 = (4 : Int32) from rfl), r1', Option.bind_some, u1]
                exact Or.inr ⟨5, _, ob z1 0 6 5, w, M2, rfl, by rw [ob_00]; rfl, by rw [ob_0 _ _ (by omega)]; exact q3, rfl, u2, r3.t.tr u3⟩
              · rw [if_neg (show ¬ nI (a 51) = (4 : Int32) from fun x => cg ((nI_eq_iff (b := 4) (by omega) (by omega)).mp x))]
                unfold f_X7_readLine_b60
                rw [if_neg (show ¬ nI 4 = (6 : Int32) by decide)]
                obtain ⟨M1, r1, r2, r3, r4, r5, r6⟩ := b78_ok hgt (show 4 < 7 by omega) hM b7 t1' hE.2 m3
                rw [if_neg (show ¬ 4 = 6 by omega)] at r6
                rw [r1]
                exact ((line_i hz q2 hE.2 h6 h7 hgt hw hP (by omega) (hM.t r3) r2 (hR.two r4) (by rw [r5]; exact m2) r6).ckb).fr r3
            | false =>
              rw [if_neg (show ¬ false = true by decide), show b2i false = (0 : Int32) from rfl, if_pos (show (0 : Int32) = 0 from rfl)]
              cases s5 : spB b (tkS b t p) (tkE b t p) 5 with
              | true =>
                rw [if_pos rfl, show b2i true = (1 : Int32) from rfl, bd1]
                show LO b t (tkE b t p) gt M _ ((f_X7_in (nI 5).toInt64 0 6).bind fun q2 => if q2 = 0 then ((f_X7_fails M (2 : Int32)).bind fun q6 => some q6) else (if (3 : Int32) < nI 5 then (f_X7_readLine_b39 M (nI 5)) else (if (M 2 37) = (4 : Int32) then (f_X7_readLine_b55 M (nI 5)) else (f_X7_readLine_b39 M (nI 5)))))
                rw [in06 (by omega), bd1, if_pos (show (3 : Int32) < nI 5 by decide)]
                unfold f_X7_readLine_b39 f_X7_readLine_b60
                rw [if_neg (show ¬ nI 5 = (4 : Int32) by decide), if_neg (show ¬ nI 5 = (6 : Int32) by decide)]
                obtain ⟨M1, r1, r2, r3, r4, r5, r6⟩ := b78_ok hgt (show 5 < 7 by omega) hM b7 t1' hE.2 m3
                rw [if_neg (show ¬ 5 = 6 by omega)] at r6
                have et : mTail M1 (nI 5) = ((f_X7_readHedges_l0 FUEL M1).bind fun q11 => sgn7 q11) := by
                  by_cases x0 : tkC b t (tkE b t p) = 0
                  · have hB := r2.brk x0
                    rw [tail_brk hB]
                    show _ = ((f_X7_readHedges_l0 (999 + 1) M1).bind fun q11 => sgn7 q11)
                    rw [hB.hedges, Option.bind_some, hB.sgn]
                  · rw [tail_0 (r2.2.2.1 x0).1]
                    unfold f_X7_readMore f_X7_readHedges
                    rw [if_pos (show (3 : Int32) < nI 5 by decide), if_neg (show ¬ nI 5 = (4 : Int32) by decide), if_pos (show nI 5 = (5 : Int32) from rfl)]
                    cases f_X7_readHedges_l0 FUEL M1 <;> rfl
                rw [r1, et]
                have := line_h hgt (t + 1) FUEL FUEL z1 w M1 a (tkE b t p) 0 (by omega) (by unfold FUEL; omega) (by unfold FUEL; omega) hz q2 hE.2 (by omega) h6 h7 hw hP (hM.t r3) r2 (hR.two r4) (by rw [r5]; exact m2) r6
                exact (this.ckb).fr r3
              | false =>
                rw [if_neg (show ¬ false = true by decide), show b2i false = (0 : Int32) from rfl, bd0]
                cases s6 : spB b (tkS b t p) (tkE b t p) 6 with
                | true =>
                  rw [if_pos rfl, show b2i true = (1 : Int32) from rfl, bd1]
                  show LO b t (tkE b t p) gt M _ ((f_X7_in (nI 6).toInt64 0 6).bind fun q2 => if q2 = 0 then ((f_X7_fails M (2 : Int32)).bind fun q6 => some q6) else (if (3 : Int32) < nI 6 then (f_X7_readLine_b39 M (nI 6)) else (if (M 2 37) = (4 : Int32) then (f_X7_readLine_b55 M (nI 6)) else (f_X7_readLine_b39 M (nI 6)))))
                  rw [in06 (by omega), bd1, if_pos (show (3 : Int32) < nI 6 by decide)]
                  unfold f_X7_readLine_b39 f_X7_readLine_b60
                  rw [if_neg (show ¬ nI 6 = (4 : Int32) by decide), if_pos (show nI 6 = (6 : Int32) from rfl), m3]
                  rcases (show gt = 0 ∨ gt = 1 by omega) with rfl | rfl
                  · rw [if_pos (show nI 0 = (0 : Int32) from rfl)]
                    obtain ⟨M1, r1, r2, r3, r4, r5, r6⟩ := b78_ok hgt (show 6 < 7 by omega) hM b7 t1' hE.2 m3
                    rw [if_pos rfl] at r6
                    rw [r1]
                    exact ((line_t hz q2 hE.2 h6 h7 hw hP (hM.t r3) r2 (hR.two r4) (by rw [r5]; exact m2) r6).ckb).fr r3
                  · rw [if_neg (show ¬ nI 1 = (0 : Int32) by decide)]
                    obtain ⟨M1, r1, r2, r3⟩ := flt 4 (by omega)
                    have r1' : f_X7_fails M 4 = some M1 := r1
                    obtain ⟨M2, u1, u2, u3⟩ := b78_brk r2 (nI 6)
                    unfold f_X3_readGate
                    rw [h7, if_neg (show ¬ nI 1 = (0 : Int32) by decide), fail_ok, Option.bind_some, ck2 _ _ (Or.inl rfl), Option.bind_some, ck2 _ _ (Or.inl rfl), r1', Option.bind_some, u1]
                    exact Or.inr ⟨4, _, ob z1 0 6 4, w, M2, rfl, by rw [ob_00]; rfl, by rw [ob_0 _ _ (by omega)]; exact q3, rfl, u2, r3.t.tr u3⟩
                | false =>
                  rw [if_neg (show ¬ false = true by decide), show b2i false = (0 : Int32) from rfl, bd0]
                  obtain ⟨M1, r1, r2, r3⟩ := flt 2 (by omega)
                  have r1' : f_X7_fails M 2 = some M1 := r1
                  rw [show noI none = (-4 : Int32) from rfl, fail_ok, Option.bind_some, ck2 _ _ (Or.inl rfl), Option.bind_some, in06_n, bd0, r1', Option.bind_some]
                  exact Or.inr ⟨2, _, ob z1 0 6 2, w, M1, rfl, by rw [ob_00]; rfl, by rw [ob_0 _ _ (by omega)]; exact q3, rfl, r2, r3.t⟩
  · obtain ⟨M1, r1, r2, r3⟩ := flt 2 (by omega)
    have r1' : f_X7_fails M 2 = some M1 := r1
    have nm : ¬ M 0 11 = 1 := by
      rw [b11]
      intro x
      have := (nI_eq_iff (b := 1) (by unfold mco; split <;> omega) (by omega)).mp x
      unfold mco at this
      split at this <;> omega
    rw [if_neg (show ¬ nI (tkC b t p) = (1 : Int32) from fun x => c1 ((nI_eq_iff (b := 1) (by omega) (by omega)).mp x)), fat_n (by rw [q4]; exact nI_ne0 (by omega) (by omega)), Option.bind_some, ck2 _ _ (Or.inl rfl), nameHere_no nm, Option.bind_some, in06_n, bd0, r1', Option.bind_some]
    exact Or.inr ⟨2, _, ob z1 0 6 2, w, M1, rfl, by rw [ob_00]; rfl, by rw [ob_0 _ _ (by omega)]; exact q3, rfl, r2, r3.t⟩
/-- how the text comes out -/
def TO (M : Ob) (cls : Option (Int32 × Ob × Ob)) (mdl : Option (Int32 × Ob)) : Prop :=
  (∃ L z2 w2 M2 a2, cls = some (L, z2, w2) ∧ z2 0 6 = 0 ∧ RZ w2 a2 ∧ PI a2 ∧ mdl = f_X7_text_b71 M2 L ∧ M2 0 7 = 0 ∧ RP M2 a2 ∧ FrT M M2) ∨
  (∃ f s x y z2 w2 M2, cls = some (x, z2, w2) ∧ z2 0 6 = nI f ∧ z2 0 3 = nI s ∧ mdl = f_X7_text_b71 M2 y ∧ Brk M2 f s ∧ FrT M M2)
theorem lines_ok {b : Nat → Nat} {t : Nat} : ∀ (k fuel fuel' : Nat) (z w M : Ob) (a : Nat → Nat) (p gt L : Nat), t < p + k → k < fuel → k + 1 < fuel' → ZT z b t → z 0 2 = nI p → p ≤ t → L ≤ p → z 0 6 = 0 → z 0 7 = nI gt → gt < 2 → RZ w a → PI a → MT M b t → TK M b t (tkS b t p) → RP M a → M 0 2 = nI (a 0) → M 0 3 = nI gt → Cn M → TO M (f_X3_readLines_l17 fuel z w (nI L)) (f_X7_text_l47 fuel' M (nI L)) := by
  intro k
  induction k with
  | zero => intro fuel fuel' z w M a p gt L hk; intros; omega
  | succ k ih =>
    intro fuel fuel' z w M a p gt L hk hf hf' hz h2 hp hL h6 h7 hgt hw hP hM hT hR m2 m3 hc
    obtain ⟨fuel, rfl⟩ : ∃ f, fuel = f + 1 := ⟨fuel - 1, by omega⟩
    obtain ⟨fuel', rfl⟩ : ∃ f, fuel' = f + 1 := ⟨fuel' - 1, by omega⟩
    have ht := hz.1
    have hE := tkE_le (b := b) hp
    have hS := tkS_le (b := b) hp
    have hC := tkC_lt b t p
    obtain ⟨z1, q1, q2, q3, q4, q5, q6⟩ := tok6 hz h2 hp
    have hT' := hT
    obtain ⟨t1, t2, t3, t4, t5⟩ := hT'
    have eC : tkK b t (tkS b t p) = tkC b t p := rfl
    rw [eC] at t3 t4 t5
    rw [f_X3_readLines_l17, if_neg (show ¬ (160 : Int32) < nI L from fun x => absurd ((nI_lt_iff (a := 160) (by omega) (by omega)).mp x) (by omega)), q1, Option.bind_some, q4]
    by_cases c4 : tkC b t p = 4
    · obtain ⟨b7, b11⟩ := t3 (by omega)
      rw [if_pos (show nI (tkC b t p) = (4 : Int32) by rw [c4]; rfl), f_X7_text_l47, if_pos b7, b11, if_pos (show nI (mco (tkC b t p)) = (0 : Int32) by rw [c4]; rfl)]
      exact Or.inl ⟨nI L, z1, w, M, a, rfl, by rw [q6.2.2.1]; exact h6, hw, hP, rfl, b7, hR, FrT.rf M⟩
    · rw [if_neg (show ¬ nI (tkC b t p) = (4 : Int32) from fun x => c4 ((nI_eq_iff (b := 4) (by omega) (by omega)).mp x))]
      by_cases c0 : tkC b t p = 0
      · have hB := hT.brk c0
        unfold f_X3_readLine
        rw [q4, if_neg (show ¬ nI (tkC b t p) = (1 : Int32) by rw [c0]; decide), fat_0 (by rw [q4, c0]; rfl), Option.bind_some, show ckb (0 : Int32) = fun (K : Option (Int32 × Ob × Ob)) => K from by funext K; unfold ckb; rw [if_pos (Or.inl rfl)], Option.bind_some, if_pos rfl, f_X7_text_l47, if_neg hB.ne]
        exact Or.inr ⟨1, _, nI L, nI L, ob z1 0 6 1, w, M, rfl, by rw [ob_00]; rfl, by rw [ob_0 _ _ (by omega)]; exact q3, rfl, hB, FrT.rf M⟩
      · obtain ⟨b7, b11⟩ := t3 c0
        have n0 : ¬ nI (mco (tkC b t p)) = (0 : Int32) := by
          unfold mco
          rw [if_neg c4]
          exact nI_ne0 (by omega) (by omega)
        have gE := tkE_gt hp c4
        rw [f_X7_text_l47, if_pos b7, b11, if_neg n0]
        rcases line_ok hp (hz.rf q6) q2 q3 q4 (by rw [q6.2.2.1]; exact h6) (by rw [q6.2.2.2]; exact h7) hgt hw hP hM hT hR m2 m3 hc c0 c4 with ⟨z2, w2, M2, p2, a2, gt2, s1, s2, s3, s4, s5, s6, s7, s8, s9, s10, s11, s12, s13, s14, s15, s16⟩ | ⟨f, s, z2, w2, M2, s1, s2, s3, s4, s5, s6⟩
        · rw [s1, Option.bind_some, if_neg (show ¬ (1 : Int32) = 0 by decide), s11, Option.bind_some, nI_1]
          have hc2 : Cn M2 := hc.keep (s16.2 16 (by omega)) (s16.1 4 (by omega) (by omega)) (s16.1 5 (by omega) (by omega))
          rcases ih fuel fuel' z2 w2 M2 a2 p2 gt2 (L + 1) (by omega) (by omega) (by omega) s2 s3 s5 (by omega) s6 s7 s8 s9 s10 (hM.t s16) s12 s13 s14 s15 hc2 with ⟨L2, z3, w3, M3, a3, u1, u2, u3, u4, u5, u6, u7, u8⟩ | ⟨f, s, x, y, z3, w3, M3, u1, u2, u3, u4, u5, u6⟩
          · exact Or.inl ⟨L2, z3, w3, M3, a3, u1, u2, u3, u4, u5, u6, u7, s16.tr u8⟩
          · exact Or.inr ⟨f, s, x, y, z3, w3, M3, u1, u2, u3, u4, u5, s16.tr u6⟩
        · obtain ⟨fuel', rfl⟩ : ∃ f, fuel' = f + 1 := ⟨fuel' - 1, by omega⟩
          rw [s1, Option.bind_some, if_pos rfl, s4, Option.bind_some, f_X7_text_l47, if_neg s5.ne]
          exact Or.inr ⟨f, s, nI L, nI L + 1, z2, w2, M2, rfl, s2, s3, rfl, s5, s6⟩
theorem text_l24 {x1 : Int32} : ∀ (k fuel : Nat) (M : Ob), k ≤ 53 → k < fuel → (∀ j, j < 53 - k → M 2 j = 0) → ∃ M1, f_X7_text_l24 fuel M x1 (nI (53 - k)) = ((f_X7_step M1).bind fun q9 => f_X7_text_l47 FUEL q9 x1) ∧ (∀ j, j < 53 → M1 2 j = 0) ∧ ∀ c, c ≠ 2 → M1 c = M c := by
  intro k
  induction k with
  | zero =>
    intro fuel M hk hf hz
    obtain ⟨fuel, rfl⟩ : ∃ f, fuel = f + 1 := ⟨fuel - 1, by omega⟩
    rw [f_X7_text_l24, if_pos (show (53 : Int32) ≤ nI (53 - 0) by decide)]
    exact ⟨M, rfl, hz, fun _ _ => rfl⟩
  | succ k ih =>
    intro fuel M hk hf hz
    obtain ⟨fuel, rfl⟩ : ∃ f, fuel = f + 1 := ⟨fuel - 1, by omega⟩
    rw [f_X7_text_l24, if_neg (show ¬ (53 : Int32) ≤ nI (53 - (k + 1)) from fun x => absurd ((nI_le_iff (a := 53) (by omega) (by omega)).mp x) (by omega)), ck_nI (by omega) (by omega), nI_cl (by omega), nI_1, show 53 - (k + 1) + 1 = 53 - k from by omega]
    obtain ⟨M1, q1, q2, q3⟩ := ih fuel (ob M 2 (53 - (k + 1)) 0) (by omega) (by omega) (fun j hj => by
      rw [ob_at, if_pos rfl]
      split
      · rfl
      · exact hz j (by omega))
    exact ⟨M1, q1, q2, fun c hc => by rw [q3 c hc]; funext j; rw [ob_at, if_neg hc]⟩
theorem text_l101 {x1 : Int32} : ∀ (k fuel : Nat) (M : Ob), k ≤ 53 → k < fuel → (∀ j, j < 53 - k → M 1 j = M 2 j) → ∃ M1, f_X7_text_l101 fuel M x1 (nI (53 - k)) = some (x1, (ob (ob (ob M1 0 18 (0 : Int32)) 9 0 (vp_nar .boolean (0 : Int32))) 9 1 (vp_nar .boolean (0 : Int32)))) ∧ (∀ j, j < 53 → M1 1 j = M 2 j) ∧ (∀ j, 53 ≤ j → M1 1 j = M 1 j) ∧ ∀ c, c ≠ 1 → M1 c = M c := by
  intro k
  induction k with
  | zero =>
    intro fuel M hk hf hz
    obtain ⟨fuel, rfl⟩ : ∃ f, fuel = f + 1 := ⟨fuel - 1, by omega⟩
    rw [f_X7_text_l101, if_pos (show (53 : Int32) ≤ nI (53 - 0) by decide)]
    exact ⟨M, rfl, hz, fun _ _ => rfl, fun _ _ => rfl⟩
  | succ k ih =>
    intro fuel M hk hf hz
    obtain ⟨fuel, rfl⟩ : ∃ f, fuel = f + 1 := ⟨fuel - 1, by omega⟩
    rw [f_X7_text_l101, if_neg (show ¬ (53 : Int32) ≤ nI (53 - (k + 1)) from fun x => absurd ((nI_le_iff (a := 53) (by omega) (by omega)).mp x) (by omega)), ck_nI (by omega) (by omega), ck_nI (by omega) (by omega), nI_cl (by omega), nI_1, show 53 - (k + 1) + 1 = 53 - k from by omega]
    have e2 : (ob M 1 (53 - (k + 1)) (M 2 (53 - (k + 1)))) 2 = M 2 := by funext j; rw [ob_at, if_neg (by decide)]
    obtain ⟨M1, q1, q2, q3, q4⟩ := ih fuel (ob M 1 (53 - (k + 1)) (M 2 (53 - (k + 1)))) (by omega) (by omega) (fun j hj => by
      rw [e2, ob_at, if_pos rfl]
      by_cases x : j = 53 - (k + 1)
      · rw [if_pos x, x]
      · rw [if_neg x]; exact hz j (by omega))
    exact ⟨M1, q1, fun j hj => by rw [q2 j hj, e2], fun j hj => by rw [q3 j hj, ob_at, if_pos rfl, if_neg (by omega)], fun c hc => by rw [q4 c hc]; funext j; rw [ob_at, if_neg hc]⟩
theorem T_text {X : Wd} {M : Ob} (h : Cpl X M) : OK X M (f_X6_text X) (f_X7_text M) := by
  obtain ⟨⟨a, hp⟩, i0, i1, ⟨t, b0, t1, t2, t3, t4⟩, fl, sn, sh, cn⟩ := id h
  -- the bytes, 0 beyond
  obtain ⟨b, hb, hbl⟩ : ∃ b : Nat → Nat, (∀ i, i < t → X 1 1 i = nI (b i) ∧ M 3 i = nI (b i)) ∧ ∀ i, b i < 128 := by
    refine ⟨fun i => if i < t then b0 i else 0, fun i hi => ?_, fun i => ?_⟩
    · show X 1 1 i = nI (if i < t then b0 i else 0) ∧ M 3 i = nI (if i < t then b0 i else 0)
      rw [if_pos hi]; exact ⟨(t4 i hi).1, (t4 i hi).2.1⟩
    · show (if i < t then b0 i else 0) < 128
      split
      · exact (t4 i (by assumption)).2.2
      · omega
  -- the class' start
  generalize hz0 : ob (ob (ob (X 1) 0 2 (0 : Int32)) 0 6 (0 : Int32)) 0 7 (0 : Int32) = z0
  have zt : ZT z0 b t := by
    rw [← hz0]
    exact ⟨t1, by rw [ob_0 _ _ (by omega), ob_0 _ _ (by omega), ob_0 _ _ (by omega)]; exact t2, fun i hi => by rw [ob_1, ob_1, ob_1]; exact (hb i hi).1, hbl⟩
  have z2 : z0 0 2 = nI 0 := by rw [← hz0, ob_0 _ _ (by omega), ob_0 _ _ (by omega), ob_00]; rfl
  have z6 : z0 0 6 = 0 := by rw [← hz0, ob_0 _ _ (by omega), ob_00]
  have z7 : z0 0 7 = nI 0 := by rw [← hz0, ob_00]; rfl
  obtain ⟨w0, hw0, rw0⟩ : ∃ w0, f_X1_restart (X 6) = some w0 ∧ RZ w0 (fun _ => 0) := by
    refine ⟨_, rfl, ?_, ?_, ?_, ?_, ?_, ?_, fun g hg => absurd hg (Nat.not_lt_zero g), fun i hi => absurd hi (Nat.not_lt_zero i)⟩
    · rw [ob_0 _ _ (by omega), ob_0 _ _ (by omega), ob_0 _ _ (by omega), ob_0 _ _ (by omega), ob_0 _ _ (by omega), ob_00]; rfl
    · rw [ob_0 _ _ (by omega), ob_0 _ _ (by omega), ob_0 _ _ (by omega), ob_0 _ _ (by omega), ob_00]; rfl
    · rw [ob_0 _ _ (by omega), ob_0 _ _ (by omega), ob_0 _ _ (by omega), ob_00]; rfl
    · rw [ob_0 _ _ (by omega), ob_0 _ _ (by omega), ob_00]; rfl
    · rw [ob_0 _ _ (by omega), ob_00]; rfl
    · rw [ob_00]; rfl
  have pi0 : PI (fun _ => 0) := by
    refine ⟨⟨by decide, by decide, by decide, by decide, by decide, fun _ _ => ⟨show 0 < 4 by decide, show 0 < 24 by decide, show 0 < 10 by decide⟩, fun _ _ => ⟨show 0 < 16 by decide, show 0 ≤ 60 by decide, show 0 ≤ 2 by decide⟩⟩, fun _ _ => rfl, rfl, rfl⟩
  -- the model's
  generalize hM0 : ob (ob (ob (ob M 0 7 (0 : Int32)) 0 9 (0 : Int32)) 0 2 (0 : Int32)) 0 3 (0 : Int32) = M0
  have fr0 : FrT M M0 := by
    rw [← hM0]
    exact (((MF_ob M _ (by omega)).t.tr (MF_ob _ _ (by omega)).t).tr (FrT_ob0 _ _ (by omega))).tr (FrT_ob0 _ _ (by omega))
  obtain ⟨M1, l1, l2, l3⟩ := text_l24 (x1 := 0) 53 FUEL M0 (by omega) (by unfold FUEL; omega) (fun j hj => absurd hj (by omega))
  have fr1 : FrT M M1 := fr0.tr ⟨fun c c1 c2 => l3 c c2, fun k _ => by rw [l3 0 (by omega)]⟩
  have e7 : M1 0 7 = 0 := by rw [l3 0 (by omega), ← hM0, ob_0 _ _ (by omega), ob_0 _ _ (by omega), ob_0 _ _ (by omega), ob_00]
  have e9 : M1 0 9 = nI 0 := by rw [l3 0 (by omega), ← hM0, ob_0 _ _ (by omega), ob_0 _ _ (by omega), ob_00]; rfl
  have mt0 : MT M b t := ⟨t1, t3, fun i hi => (hb i hi).2, hbl⟩
  obtain ⟨M2, s1, s2, s3⟩ := tok7 (mt0.t fr1) e9 e7 (Nat.zero_le t)
  have fr2 : FrT M M2 := fr1.tr s3.t
  have rp2 : RP M2 (fun _ => 0) := by
    have e : M2 2 = M1 2 := s3.1 2 (by omega)
    refine ⟨fun j hj => ?_, fun j j1 j2 => ?_⟩
    · rw [e, l2 j (by omega)]
      unfold hbt
      rw [Nat.zero_testBit]
      rfl
    · rw [e, l2 j j2]; rfl
  have e2 : M2 0 2 = nI 0 := by rw [s3.2 2 (by omega), l3 0 (by omega), ← hM0, ob_0 _ _ (by omega), ob_00]; rfl
  have e3 : M2 0 3 = nI 0 := by rw [s3.2 3 (by omega), l3 0 (by omega), ← hM0, ob_00]; rfl
  have cn2 : Cn M2 := cn.keep (fr2.2 16 (by omega)) (fr2.1 4 (by omega) (by omega)) (fr2.1 5 (by omega) (by omega))
  have l1' : f_X7_text M = ((f_X7_step M1).bind fun q9 => f_X7_text_l47 FUEL q9 0) := by
    unfold f_X7_text
    rw [hM0]
    exact l1
  unfold f_X6_text f_X3_readLines
  rw [hw0, Option.bind_some, hz0, l1', s1, Option.bind_some]
  have hl := lines_ok (b := b) (t := t) (t + 1) FUEL FUEL z0 w0 M2 (fun _ => 0) 0 0 0 (by omega) (by unfold FUEL; omega) (by unfold FUEL; omega) zt z2 (Nat.zero_le t) (Nat.le_refl _) z6 z7 (by omega) rw0 pi0 (mt0.t fr2) s2 rp2 e2 e3 cn2
  have hl' : TO M2 (f_X3_readLines_l17 FUEL z0 w0 0) (f_X7_text_l47 FUEL M2 0) := hl
  rcases hl' with ⟨L, z9, w9, M9, a9, u1, u2, u3, u4, u5, u6, u7, u8⟩ | ⟨f, s, x, y, z9, w9, M9, u1, u2, u3, u4, u5, u6⟩
  · have fr9 := fr2.tr u8
    obtain ⟨z4, g1, g2⟩ := become_ok (X 4) u3 u4.1
    rw [u1, Option.bind_some, u5]
    dsimp only
    rw [if_pos u2, g1, Option.bind_some, u2]
    unfold f_X7_text_b71
    rw [u6, if_pos (show (0 : Int32) ≤ 0 by decide)]
    obtain ⟨N, n1, n2, n3, n4⟩ := text_l101 (x1 := L) 53 FUEL (ob (ob M9 0 5 (0 : Int32)) 0 6 (0 : Int32)) (by omega) (by unfold FUEL; omega) (fun j hj => absurd hj (by omega))
    have n1' : f_X7_text_l101 FUEL (ob (ob M9 0 5 (0 : Int32)) 0 6 (0 : Int32)) L 0 = _ := n1
    rw [n1', show vp_nar .boolean (0 : Int32) = 0 from by decide]
    generalize hY : wo (wo (wo (va_up (wo (wo (va_up (va_up (va_up X 6 w0) 1 z9) 6 w9) 1 0 1 (0 : Int32)) 0 0 10 (0 : Int32)) 4 z4) 2 0 0 (0 : Int32)) 0 1 0 0) 0 1 1 0 = Y
    generalize hR : ob (ob (ob N 0 18 (0 : Int32)) 9 0 0) 9 1 0 = R
    -- the class' world behind it
    have y22 : ∀ o, o ≠ 0 → o ≠ 1 → o ≠ 2 → o ≠ 4 → o ≠ 6 → Y o = X o := fun o o0 o1 o2 o4 o6 => by
      rw [← hY]
      unfold wo
      simp only [va_up_ne _ _ o0, va_up_ne _ _ o1, va_up_ne _ _ o2, va_up_ne _ _ o4, va_up_ne _ _ o6]
    have y4 : Y 4 = z4 := by
      rw [← hY]
      unfold wo
      rw [va_up_ne _ _ (by omega), va_up_ne _ _ (by omega), va_up_ne _ _ (by omega), va_up_self]
    have y1 : Y 1 0 1 = 0 := by
      rw [← hY]
      unfold wo
      rw [va_up_ne _ _ (by omega), va_up_ne _ _ (by omega), va_up_ne _ _ (by omega), va_up_ne _ _ (by omega), va_up_ne _ _ (by omega), va_up_self, ob_00]
    have y2 : Y 2 0 0 = 0 := by
      rw [← hY]
      unfold wo
      rw [va_up_ne _ _ (by omega), va_up_ne _ _ (by omega), va_up_self, ob_00]
    have y0 : Y 0 = ob (ob (ob (X 0) 0 10 0) 1 0 0) 1 1 0 := by
      rw [← hY]
      unfold wo
      rw [va_up_self, va_up_self, va_up_ne _ _ (by omega), va_up_ne _ _ (by omega), va_up_self, va_up_ne _ _ (by omega), va_up_ne _ _ (by omega), va_up_ne _ _ (by omega), va_up_ne _ _ (by omega)]
    -- the model's
    have rc : ∀ c, c ≠ 0 → c ≠ 1 → c ≠ 2 → c ≠ 9 → R c = M c := fun c c0 c1 c2 c9 => by
      rw [← hR]
      funext j
      rw [ob_at, if_neg c9, ob_at, if_neg c9, ob_at, if_neg c0, n4 c c1, ob_at, if_neg c0, ob_at, if_neg c0, fr9.1 c c0 c2]
    have r0 : ∀ j, R 0 j = ob (ob (ob M9 0 5 0) 0 6 0) 0 18 0 0 j := fun j => by
      rw [← hR, ob_at, if_neg (by decide), ob_at, if_neg (by decide)]
      rw [ob_at, ob_at (ob (ob M9 0 5 0) 0 6 0), n4 0 (by omega)]
    have r1 : ∀ j, R 1 j = N 1 j := fun j => by
      rw [← hR, ob_at, if_neg (by decide), ob_at, if_neg (by decide), ob_at, if_neg (by decide)]
    have r2 : (ob (ob M9 0 5 (0 : Int32)) 0 6 (0 : Int32)) 2 = M9 2 := by funext j; rw [ob_at, if_neg (by decide), ob_at, if_neg (by decide)]
    have r1' : (ob (ob M9 0 5 (0 : Int32)) 0 6 (0 : Int32)) 1 = M9 1 := by funext j; rw [ob_at, if_neg (by decide), ob_at, if_neg (by decide)]
    have rm : RM R 0 a9 := by
      refine ⟨fun j hj => ?_, fun j j1 j2 => ?_⟩
      · rw [Nat.zero_add, r1, n2 j (by omega), r2]; exact u7.1 j hj
      · rw [Nat.zero_add, r1, n2 j (by omega), r2]; exact u7.2 j j1 j2
    have r9 : R 9 0 = 0 ∧ R 9 1 = 0 := by
      rw [← hR]
      refine ⟨?_, ?_⟩
      · rw [ob_at, if_pos rfl, if_neg (by decide), ob_at, if_pos rfl, if_pos rfl]
      · rw [ob_at, if_pos rfl, if_pos rfl]
    refine ⟨L, Y, R, rfl, rfl, y22 22 (by omega) (by omega) (by omega) (by omega) (by omega), ⟨a9, u4.1, by rw [u4.2.2.2]; omega, by rw [y4]; exact g2, rm⟩, ⟨?_, fun q => absurd r9.1 q⟩, ⟨?_, fun q => absurd r9.2 q⟩, ⟨0, fun _ => 0, by omega, y1, ?_, fun i hi => absurd hi (by omega)⟩, ⟨?_, ?_⟩, ⟨0, fun _ => 0, fun _ => 0, fun _ => 0, by omega, y2, ?_, fun i hi => absurd hi (by omega)⟩, fun k hk => ?_, ?_⟩
    · rw [y0, r9.1, ob_at, if_pos rfl, if_neg (by decide), ob_at, if_pos rfl, if_pos rfl]
    · rw [y0, r9.2, ob_at, if_pos rfl, if_pos rfl]
    · rw [r0, ob_0 _ _ (by omega), ob_0 _ _ (by omega), ob_00]; rfl
    · rw [y0, ob_at, if_neg (by decide), ob_at, if_neg (by decide), ob_00, r0, ob_0 _ _ (by omega), ob_00]
    · rw [y0, ob_at, if_neg (by decide), ob_at, if_neg (by decide), ob_0 _ _ (by omega), r0, ob_0 _ _ (by omega), ob_0 _ _ (by omega), ob_0 _ _ (by omega), fr9.2 24 (by omega)]
      exact fl.2
    · rw [r0, ob_00]; rfl
    · exact (sh k hk).keep (y22 _ (by omega) (by omega) (by omega) (by omega) (by omega)) (by rw [rc 10 (by omega) (by omega) (by omega) (by omega)]) (by rw [rc 11 (by omega) (by omega) (by omega) (by omega)]) (fun i _ => by rw [rc 12 (by omega) (by omega) (by omega) (by omega)])
    · exact cn.keep (by rw [r0, ob_0 _ _ (by omega), ob_0 _ _ (by omega), ob_0 _ _ (by omega), fr9.2 16 (by omega)]) (rc 4 (by omega) (by omega) (by omega) (by omega)) (rc 5 (by omega) (by omega) (by omega) (by omega))
  · have fr9 := fr2.tr u6
    obtain ⟨v1, v2, v3, v4⟩ := u5
    have nf : ¬ nI f = (0 : Int32) := nI_ne0 v3 (by omega)
    rw [u1, Option.bind_some, u4]
    dsimp only
    rw [if_neg (show ¬ z9 0 6 = 0 by rw [u2]; exact nf), u2, u3]
    unfold f_X7_text_b71
    rw [v1, if_neg (nI_nle v3 (by omega)), v2]
    generalize hY : wo (wo (va_up (va_up (va_up X 6 w0) 1 z9) 6 w9) 1 0 1 (0 : Int32)) 0 0 10 (nI f) = Y
    have y22 : ∀ o, o ≠ 0 → o ≠ 1 → o ≠ 6 → Y o = X o := fun o o0 o1 o6 => by
      rw [← hY]
      unfold wo
      simp only [va_up_ne _ _ o0, va_up_ne _ _ o1, va_up_ne _ _ o6]
    have y1 : Y 1 0 1 = 0 := by
      rw [← hY]
      unfold wo
      rw [va_up_ne _ _ (by omega), va_up_self, ob_00]
    have y0 : Y 0 = ob (X 0) 0 10 (nI f) := by
      rw [← hY]
      unfold wo
      rw [va_up_self, va_up_ne _ _ (by omega), va_up_ne _ _ (by omega), va_up_ne _ _ (by omega), va_up_ne _ _ (by omega)]
    have rc : ∀ c, c ≠ 0 → c ≠ 2 → (ob (ob M9 0 5 (0 : Int32)) 0 6 (nI f)) c = M c := fun c c0 c2 => by
      funext j
      rw [ob_at, if_neg c0, ob_at, if_neg c0, fr9.1 c c0 c2]
    refine ⟨-10 - nI s, Y, _, rfl, rfl, y22 22 (by omega) (by omega) (by omega), ⟨a, hp.1, hp.2.1, by rw [y22 4 (by omega) (by omega) (by omega)]; exact hp.2.2.1, hp.2.2.2.copy (fun i _ => by rw [rc 1 (by omega) (by omega)])⟩, ?_, ?_, ⟨0, fun _ => 0, by omega, y1, ?_, fun i hi => absurd hi (by omega)⟩, ⟨?_, ?_⟩, ?_, fun k hk => ?_, ?_⟩
    · exact i0.keep (by rw [y0, ob_at, if_neg (by decide)]) (by rw [rc 9 (by omega) (by omega)]) (y22 _ (by omega) (by omega) (by omega)) (fun i _ => by rw [rc 1 (by omega) (by omega)])
    · exact i1.keep (by rw [y0, ob_at, if_neg (by decide)]) (by rw [rc 9 (by omega) (by omega)]) (y22 _ (by omega) (by omega) (by omega)) (fun i _ => by rw [rc 1 (by omega) (by omega)])
    · rw [ob_0 _ _ (by omega), ob_00]; rfl
    · rw [y0, ob_00, ob_00]
    · rw [y0, ob_0 _ _ (by omega), ob_0 _ _ (by omega), ob_0 _ _ (by omega), fr9.2 24 (by omega)]; exact fl.2
    · exact sn.keep (fun c _ => by rw [y22 2 (by omega) (by omega) (by omega)]) (by rw [ob_0 _ _ (by omega), ob_0 _ _ (by omega), fr9.2 18 (by omega)]) (rc 7 (by omega) (by omega))
    · exact (sh k hk).keep (y22 _ (by omega) (by omega) (by omega)) (by rw [rc 10 (by omega) (by omega)]) (by rw [rc 11 (by omega) (by omega)]) (fun i _ => by rw [rc 12 (by omega) (by omega)])
    · exact cn.keep (by rw [ob_0 _ _ (by omega), ob_0 _ _ (by omega), fr9.2 16 (by omega)]) (rc 4 (by omega) (by omega)) (rc 5 (by omega) (by omega))
