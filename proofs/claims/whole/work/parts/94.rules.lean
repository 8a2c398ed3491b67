/-! the constructors: a world is what stood before, and the cells that come -/
def GH (E : En) (N0 : Nat) (w : va_W) (H : Heap) : Prop := va_P E.1 vwCl w H ∧ va_D (fun q : Nat => N0 ≤ q) w
theorem ra_one {U : State} {a b : ClassId} {ty : FieldType} (h1 : va_RA U a ty) (h2 : va_RA U b ty) : a = b := by
  cases ty with
  | object C =>
    obtain ⟨_, _, _, _, _, e1⟩ := h1
    obtain ⟨_, _, _, _, _, e2⟩ := h2
    exact Option.some.inj (e1.symm.trans e2)
  | _ => exact Option.some.inj (Eq.trans (Eq.symm h1) h2)
theorem c_at {w l : va_W} {k : Nat} {x : Nat × va_E} (h : l[k]? = some x) : (w ++ l)[w.length + k]? = some x := by
  rw [List.getElem?_append_right (Nat.le_add_right _ _), Nat.add_sub_cancel_left]; exact h
theorem c_st {w l l' : va_W} {k : Nat} {x : Nat × va_E} (h : l.set k x = l') : (w ++ l).set (w.length + k) x = w ++ l' := by
  rw [List.set_append_right _ _ (Nat.le_add_right _ _), Nat.add_sub_cancel_left, h]
section CON
variable {p : Program} {l : Launch} {e : Env} {R : Room} {s : State} {m : MethodId} {args : Array Value} {below : List Frame} {meth : Method} {c : Code} {H : Heap} {locs : List Loc} {cells slots : Nat} {Q : State → Prop}
variable {cc : ByteArray} {nL : Nat} {Ts : List Cond} {own : String} {pc : Nat} {ls : Array Slot} {rest : List Value} {E : En} {N0 : Nat} {ws ws' : va_W} {a : Nat}
theorem c_newa (S : CallFix p m c cc nL s args Ts own) (hK : va_K E.1 vwCl (TY E) s) (hN0 : N0 ≤ s.heap.size) (hG : GH E N0 ws H) (hS : va_S (fun q : Nat => N0 ≤ q) s.heap H locs) (t : Nat) {cy : ClassId} {ty : FieldType} (ht : (TY E)[t]? = some (cy, ty)) {atype : ArrayType} (hty : newarray.typeOf atype = ty) (harr : (Cond.arrayClass ty).before args s = true)
    {n : Int32} {N' : Nat} {a0 : vp_A} (ha : ∀ cA : ClassId, vp_cell cA a0 = arrV cA N' (fun _ => defaultValue ty)) (hn : ¬ n < 0) (hN : n.toNatClampNeg = N') (hbytes : N' * componentBytes ty ≤ 536870912) (hcells : cells + 1 ≤ R.cells) (hslots : slots + N' ≤ R.slots) (hdg : decode cc pc = .ok (.newarray atype, 2))
    (kk : ∀ (q : Nat) (H1 : Heap), GH E N0 (ws ++ [(q, .inl (cy, a0))]) H1 → va_S (fun q : Nat => N0 ≤ q) s.heap H1 locs → W p l e R s m args below meth c H1 locs (cells + 1) (slots + N') Q (F0 m (pc + 2) ls (.ref q :: rest))) : W p l e R s m args below meth c H locs cells slots Q (F0 m pc ls (.int n :: rest)) := by
  subst hty
  refine va_newa S.1 S.2.1 harr rfl hK hG.1 hG.2 hS (fun q h => Nat.le_trans hN0 h) ha hn hN hbytes hcells hslots hdg (fun q cA H1 hK1 hP hD hS => ?_)
  have e : cA = cy := ra_one (hK1.2 5 (cA, _) rfl).2 (hK.2 t (cy, _) ht).2
  subst e
  exact kk q H1 ⟨hP, hD⟩ hS
theorem c_newq (S : CallFix p m c cc nL s args Ts own) (hK : va_K E.1 vwCl (TY E) s) (hN0 : N0 ≤ s.heap.size) (hG : GH E N0 ws H) (hS : va_S (fun q : Nat => N0 ≤ q) s.heap H locs) (t : Nat) {cy : ClassId} {C : String} (ht : (TY E)[t]? = some (cy, .object C)) {index : Nat} (hclink : (Cond.classLink own index C).before args s = true) (hover : va_AO C s)
    {n : Int32} {N' : Nat} (hn : ¬ n < 0) (hN : n.toNatClampNeg = N') (hbytes : N' * 4 ≤ 536870912) (hcells : cells + 1 ≤ R.cells) (hslots : slots + N' ≤ R.slots) (hdg : decode cc pc = .ok (.anewarray index, 3))
    (kk : ∀ (q : Nat) (H1 : Heap), GH E N0 (ws ++ [(q, .inl (cy, N', .inr (.inr (.inr (.inr (fun _ => none))))))]) H1 → va_S (fun q : Nat => N0 ≤ q) s.heap H1 locs → W p l e R s m args below meth c H1 locs (cells + 1) (slots + N') Q (F0 m (pc + 3) ls (.ref q :: rest))) : W p l e R s m args below meth c H locs cells slots Q (F0 m pc ls (.int n :: rest)) := by
  refine va_newq S.1 S.2.1 S.2.2.2.1 hclink hover hK hG.1 hG.2 hS (fun q h => Nat.le_trans hN0 h) hn hN hbytes hcells hslots hdg (fun q cA H1 hK1 hP hD hS => ?_)
  have e : cA = cy := ra_one (hK1.2 5 (cA, _) rfl).2 (hK.2 t (cy, _) ht).2
  subst e
  exact kk q H1 ⟨hP, hD⟩ hS
theorem c_new (S : CallFix p m c cc nL s args Ts own) (hK : va_K E.1 vwCl (TY E) s) (hN0 : N0 ≤ s.heap.size) (hG : GH E N0 ws H) (hS : va_S (fun q : Nat => N0 ≤ q) s.heap H locs) {C : String} {T : u_T} {N ci index : Nat} (hin : ∀ w ∈ u_ws C T N, w ∈ Ts) (ty : Nat → FieldType) (hty : ∀ k, k < N → parseFieldDescriptor (T k).2.2.1 = some (ty k)) (hcl : (Cond.classLink own index C).before args s = true) (hinst : (Cond.instantiable C N).before args s = true) (hini : (Cond.initialized C).before args s = true)
    (hc : vwCl[ci]? = some (C, T, N)) {fs : List Value} (hfs : ∀ j, j < N → defaultValue (ty j) = vp_V fs j) (hcells : cells + 1 ≤ R.cells) (hslots : slots + N ≤ R.slots) (hdg : decode cc pc = .ok (.new index, 3))
    (kk : ∀ (q : Nat) (H1 : Heap), GH E N0 (ws ++ [(q, .inr (ci, fs))]) H1 → va_S (fun q : Nat => N0 ≤ q) s.heap H1 locs → W p l e R s m args below meth c H1 locs (cells + 1) (slots + N) Q (F0 m (pc + 3) ls (.ref q :: rest))) : W p l e R s m args below meth c H locs cells slots Q (F0 m pc ls rest) :=
  va_new S.1 S.2.1 S.2.2.2.2 hin ty hty S.2.2.2.1 hcl hinst hini hK hG.1 hG.2 hS (fun q h => Nat.le_trans hN0 h) hc hfs hcells hslots hdg (fun q H1 hP hD hS => kk q H1 ⟨hP, hD⟩ hS)
theorem c_put (S : CallFix p m c cc nL s args Ts own) (hK : va_K E.1 vwCl (TY E) s) (hG : GH E N0 ws H) (hS : va_S (fun q : Nat => N0 ≤ q) s.heap H locs) {ref C : String} {T : u_T} {N ci index : Nat} (hin : ∀ w ∈ u_ws C T N, w ∈ Ts) (ty0 : Nat → FieldType) (hty : ∀ k, k < N → parseFieldDescriptor (T k).2.2.1 = some (ty0 k)) (hnm : ∀ a, a < N → ∀ b, b < N → a ≠ b → (T a).2.1 ≠ (T b).2.1) (q0 : Nat) {fs : List Value} (he : ws[q0]? = some (a, .inr (ci, fs))) (hc : vwCl[ci]? = some (C, T, N)) (k : Nat) (hk : k < N) (hlink : (Cond.fieldLink own index ref (T k).2.1 (T k).2.2.1).before args s = true) (hsame : (T k).1 = ref) (hfin : (T k).2.2.2 = false) {v : Value} (hn : narrow (ty0 k) v = v) (hfit : fits (ty0 k) v = true) (hl : k < fs.length) (hws : ws.set q0 (a, .inr (ci, fs.set k v)) = ws') (hdg : decode cc pc = .ok (.putfield index, 3))
    (kk : ∀ (H1 : Heap) (locs1 : List Loc), GH E N0 ws' H1 → va_S (fun q : Nat => N0 ≤ q) s.heap H1 locs1 → W p l e R s m args below meth c H1 locs1 cells slots Q (F0 m (pc + 3) ls rest)) : W p l e R s m args below meth c H locs cells slots Q (F0 m pc ls (v :: .ref a :: rest)) := by
  subst hws
  exact va_put S.1 S.2.1 S.2.2.2.2 hin ty0 hty hnm S.2.2.2.1 hK hG.1 hG.2 hS q0 he hc k hk hlink (fun _ h => by rw [hsame] at h; exact h) hfin (hty k hk) hn hfit hl hdg (fun H1 locs1 hP hD hS => kk H1 locs1 ⟨hP, hD⟩ hS)
theorem c_putF (S : CallFix p m c cc nL s args Ts own) (hK : va_K E.1 vwCl (TY E) s) (hG : GH E N0 ws H) (hS : va_S (fun q : Nat => N0 ≤ q) s.heap H locs) {C : String} {T : u_T} {N ci index : Nat} (hin : ∀ w ∈ u_ws C T N, w ∈ Ts) (ty0 : Nat → FieldType) (hty : ∀ k, k < N → parseFieldDescriptor (T k).2.2.1 = some (ty0 k)) (hnm : ∀ a, a < N → ∀ b, b < N → a ≠ b → (T a).2.1 ≠ (T b).2.1) (hin2 : meth.name = "<init>") (q0 : Nat) {fs : List Value} (he : ws[q0]? = some (a, .inr (ci, fs))) (hc : vwCl[ci]? = some (C, T, N)) (k : Nat) (hk : k < N) (hlink : (Cond.fieldLink own index own (T k).2.1 (T k).2.2.1).before args s = true) (hsame : (T k).1 = own) (hfin : (T k).2.2.2 = true) {v : Value} (hn : narrow (ty0 k) v = v) (hfit : fits (ty0 k) v = true) (hl : k < fs.length) (hws : ws.set q0 (a, .inr (ci, fs.set k v)) = ws') (hdg : decode cc pc = .ok (.putfield index, 3))
    (kk : ∀ (H1 : Heap) (locs1 : List Loc), GH E N0 ws' H1 → va_S (fun q : Nat => N0 ≤ q) s.heap H1 locs1 → W p l e R s m args below meth c H1 locs1 cells slots Q (F0 m (pc + 3) ls rest)) : W p l e R s m args below meth c H locs cells slots Q (F0 m pc ls (v :: .ref a :: rest)) := by
  subst hws
  exact va_putF S.1 S.2.1 S.2.2.2.2 hin ty0 hty hnm S.2.2.2.1 hK hG.1 hG.2 hS q0 he hc k hk hlink (fun _ h => by rw [hsame] at h; exact h) hfin hin2 hsame (hty k hk) hn hfit hl hdg (fun H1 locs1 hP hD hS => kk H1 locs1 ⟨hP, hD⟩ hS)
theorem c_iast (S : CallFix p m c cc nL s args Ts own) (hK : va_K E.1 vwCl (TY E) s) (hG : GH E N0 ws H) (hS : va_S (fun q : Nat => N0 ≤ q) s.heap H locs) (q0 : Nat) {n : Nat} {f : Nat → Int32} (he : ws[q0]? = some (a, .inl (E.cy 0, n, .inl f))) {i x : Int32} (hi : vp_in i n) (hws : ws.set q0 (a, .inl (E.cy 0, n, .inl (upd f i.toNatClampNeg x))) = ws') (hdg : decode cc pc = .ok (.iastore, 1))
    (kk : ∀ (H1 : Heap) (locs1 : List Loc), GH E N0 ws' H1 → va_S (fun q : Nat => N0 ≤ q) s.heap H1 locs1 → W p l e R s m args below meth c H1 locs1 cells slots Q (F0 m (pc + 1) ls rest)) : W p l e R s m args below meth c H locs cells slots Q (F0 m pc ls (.int x :: .int i :: .ref a :: rest)) := by
  subst hws
  exact va_iast S.1 S.2.1 hK hG.1 hG.2 hS q0 0 he rfl hi hdg (fun H1 locs1 hP hD hS => kk H1 locs1 ⟨hP, hD⟩ hS)
theorem c_ast (S : CallFix p m c cc nL s args Ts own) (hK : va_K E.1 vwCl (TY E) s) (hG : GH E N0 ws H) (hS : va_S (fun q : Nat => N0 ≤ q) s.heap H locs) (q0 t0 qk ci : Nat) {cA : ClassId} {r : vw_C} {n v : Nat} {vs : List Value} {f : Nat → Option Nat} (ha : ws[q0]? = some (a, .inl (cA, n, .inr (.inr (.inr (.inr f)))))) (ht : (TY E)[t0]? = some (cA, .object r.1)) (hv : ws[qk]? = some (v, .inr (ci, vs))) (hc : vwCl[ci]? = some r) {i : Int32} (hi : vp_in i n) (hws : ws.set q0 (a, .inl (cA, n, .inr (.inr (.inr (.inr (va_up f i.toNatClampNeg (some v))))))) = ws') (hdg : decode cc pc = .ok (.aastore, 1))
    (kk : ∀ (H1 : Heap) (locs1 : List Loc), GH E N0 ws' H1 → va_S (fun q : Nat => N0 ≤ q) s.heap H1 locs1 → W p l e R s m args below meth c H1 locs1 cells slots Q (F0 m (pc + 1) ls rest)) : W p l e R s m args below meth c H locs cells slots Q (F0 m pc ls (.ref v :: .int i :: .ref a :: rest)) := by
  subst hws
  exact va_astq S.1 S.2.1 hK hG.1 hG.2 hS q0 t0 qk ci ha ht hv hc hi hdg (fun H1 locs1 hP hD hS => kk H1 locs1 ⟨hP, hD⟩ hS)
end CON
/-- a constructor's contract: at h0, behind the world w, its cells l0 become res u -/
def Kon (l : Launch) (E : En) (N0 : Nat) (y : MethodName) (wd : List Cond) (rm : Room) (Z : State → Prop) (h0 : Nat) (w l0 : va_W) {T : Type} (res : T → va_W) : Prop :=
  Met l y wd rm (va_Pc [.ref h0] (fun U => N0 ≤ U.heap.size ∧ va_K E.1 vwCl (TY E) U ∧ GH E N0 (w ++ l0) U.heap ∧ Z U)) (va_Qv (fun (_ : T) => True) (fun u t => GH E N0 (w ++ res u) t.heap) (fun q : Nat => N0 ≤ q)) rm.cells rm.slots (fun q : Nat => N0 ≤ q)
theorem meet_c {l : Launch} {E : En} {N0 : Nat} {y : MethodName} {wd ws' : List Cond} {rm : Room} {Z : State → Prop} {h0 : Nat} {w l0 : va_W} {T : Type} {res : T → va_W} {cc : ByteArray} {maxL : Nat} {own : String} (hy : plainName y.cls = true) (hw : wd = Cond.code y cc maxL none :: ws') (hown : y.cls = own) (hnm : y.name = "<init>") (hlen : 1 ≤ maxL)
    (body : ∀ (p : Program) (e : Env) (s : State) (m : MethodId) (below : List Frame) (meth : Method) (c : Code) (Zq : State → Prop), CallFix p m c cc maxL s ([.ref h0] : List Value).toArray wd own → meth.name = "<init>" → N0 ≤ s.heap.size → va_K E.1 vwCl (TY E) s → Z s →
      (∀ {pc : Nat} {ls : Array Slot} {H : Heap} {locs : List Loc} (u : T), decode cc pc = .ok (.return_, 1) → GH E N0 (w ++ res u) H → va_S (fun q : Nat => N0 ≤ q) s.heap H locs → W p l e rm s m ([.ref h0] : List Value).toArray below meth c H locs rm.cells rm.slots Zq (F0 m pc ls [])) →
      GH E N0 (w ++ l0) s.heap → va_S (fun q : Nat => N0 ≤ q) s.heap s.heap [] → ∀ ls : Array Slot, lv_has ls maxL [(0, .ref h0)] → W p l e rm s m ([.ref h0] : List Value).toArray below meth c s.heap [] 0 0 Zq (F0 m 0 ls [])) : Kon l E N0 y wd rm Z h0 w l0 res := by
  refine Met.ofW (cc := cc) (maxL := maxL) (ret := none) hy hw ?_
  intro p e s m args below meth c s₁ B hml hv
  obtain ⟨rfl, hN, hK, hG, hZ⟩ := hv
  have hr := B.returns
  have hlocks := B.notSynchronized
  have hin : meth.name = "<init>" := ((name_of_methodNamed B.named B.method).1).trans hnm
  have S : CallFix p m c cc maxL s ([.ref h0] : List Value).toArray wd own := ⟨B.exec, B.bytes, hml, hown ▸ findClass_of_methodNamed B.named, atoms_spec (ws := wd) B.pre⟩
  have hl := lv_entry ([.ref h0]) (n := maxL) hlen
  rw [lg_entry_eq]
  generalize (lg_sl ([.ref h0]) ++ List.replicate (maxL - (lg_sl ([.ref h0])).length) Slot.unset).toArray = ls at hl ⊢
  exact body p e s m below meth c _ S hin hN hK hZ (fun u hd hG hS => W.vret S.1 S.2.1 hr (fun t ht hW => ⟨⟨u, rfl, trivial, by show GH E N0 (w ++ res u) t.heap; rw [ht]; exact hG⟩, hS.F ht⟩) hS.2.2 hd) hG va_S.rf ls hl
section CON2
variable {p : Program} {l : Launch} {e : Env} {R : Room} {s : State} {m : MethodId} {args : Array Value} {below : List Frame} {meth : Method} {c : Code} {H : Heap} {locs : List Loc} {cells slots : Nat} {Q : State → Prop}
variable {cc : ByteArray} {nL : Nat} {Ts : List Cond} {own : String} {pc : Nat} {ls : Array Slot} {rest : List Value} {E : En} {N0 : Nat}
variable {y : MethodName} {wd : List Cond} {rm : Room} {h0 : Nat} {w l0 : va_W} {T : Type} {res : T → va_W} {index maxL : Nat} {bytes : ByteArray} {host : String}
theorem Kon_pre {Z : State → Prop} (hbl : ∀ (U : State) (g : JFrame) (mk : MethodId) (a : Array Value), Z U → Z (U.calling g mk a)) (hZ : ∀ U : State, s.WarmedH U.vm → Z U) (hK : va_K E.1 vwCl (TY E) s) (hN0 : N0 ≤ s.heap.size) (hG : GH E N0 (w ++ l0) H) (hS : va_S (fun q : Nat => N0 ≤ q) s.heap H locs) : PreS s H (va_Pc [.ref h0] (fun U => N0 ≤ U.heap.size ∧ va_K E.1 vwCl (TY E) U ∧ GH E N0 (w ++ l0) U.heap ∧ Z U)) [.ref h0] :=
  ⟨fun a U g mk q => by obtain ⟨q1, q2, q3, q4, q5⟩ := q; exact ⟨q1, q2, va_K.moved (u := U) (U := U.calling g mk a) (Vm.Alike.refl U.vm) q3, q4, hbl U g mk a q5⟩, fun U hU hW => ⟨rfl, by rw [hU]; exact Nat.le_trans hN0 hS.1, va_K.moved hW.alike hK, by rw [hU]; exact hG, hZ U hW⟩⟩
/-- a nest mate's private constructor -/
theorem c_callN (S : CallFix p m c cc nL s args Ts own) (hM : Kon l E N0 y wd rm (fun _ => True) h0 w l0 res) (cw : va_CN R s args own index y host bytes maxL none wd rm rm.cells rm.slots 0 ∧ y.name = "<init>" ∧ (Cond.instanceMethod y).before args s = true) (hK : va_K E.1 vwCl (TY E) s) (hN0 : N0 ≤ s.heap.size) (hG : GH E N0 (w ++ l0) H) (hS : va_S (fun q : Nat => N0 ≤ q) s.heap H locs) (hsize : ls.size = nL) (hW : (rest.map fun v => v.category).sum ≤ 8) (hf : cells + rm.cells ≤ R.cells ∧ slots + rm.slots ≤ R.slots) (hdg : decode cc pc = .ok (.invokespecial index, 3))
    (kk : ∀ (u : T) (H1 : Heap) (locs1 : List Loc), GH E N0 (w ++ res u) H1 → va_S (fun q : Nat => N0 ≤ q) s.heap H1 locs1 → W p l e R s m args below meth c H1 locs1 (cells + rm.cells) (slots + rm.slots) Q (F0 m (pc + 3) ls rest)) : W p l e R s m args below meth c H locs cells slots Q (F0 m pc ls (.ref h0 :: rest)) :=
  va_callv (va_runIN (As := []) (rest := rest) S hM cw (Kon_pre (fun _ _ _ _ _ => trivial) (fun _ _ => trivial) hK hN0 hG hS) rfl rfl hsize rfl (lv_room hW) hdg hf) hS (fun q _ h => h) (fun q h => h) (fun u t H1 locs1 ht _ _ hB _ _ hS => kk u H1 locs1 (ht ▸ hB) hS)
/-- another class's public constructor -/
theorem c_callI {Z : State → Prop} (S : CallFix p m c cc nL s args Ts own) (hM : Kon l E N0 y wd rm Z h0 w l0 res) (hbl : ∀ (U : State) (g : JFrame) (mk : MethodId) (a : Array Value), Z U → Z (U.calling g mk a)) (hZ : ∀ U : State, s.WarmedH U.vm → Z U) (cw : CallB R s args own index y bytes maxL none wd rm rm.cells rm.slots 0 ∧ y.name = "<init>" ∧ (Cond.instanceMethod y).before args s = true) (hK : va_K E.1 vwCl (TY E) s) (hN0 : N0 ≤ s.heap.size) (hG : GH E N0 (w ++ l0) H) (hS : va_S (fun q : Nat => N0 ≤ q) s.heap H locs) (hsize : ls.size = nL) (hW : (rest.map fun v => v.category).sum ≤ 8) (hf : cells + rm.cells ≤ R.cells ∧ slots + rm.slots ≤ R.slots) (hdg : decode cc pc = .ok (.invokespecial index, 3))
    (kk : ∀ (u : T) (H1 : Heap) (locs1 : List Loc), GH E N0 (w ++ res u) H1 → va_S (fun q : Nat => N0 ≤ q) s.heap H1 locs1 → W p l e R s m args below meth c H1 locs1 (cells + rm.cells) (slots + rm.slots) Q (F0 m (pc + 3) ls rest)) : W p l e R s m args below meth c H locs cells slots Q (F0 m pc ls (.ref h0 :: rest)) :=
  va_callv (va_runI (As := []) (rest := rest) S hM cw (Kon_pre hbl hZ hK hN0 hG hS) rfl rfl hsize rfl (lv_room hW) hdg hf) hS (fun q _ h => h) (fun q h => h) (fun u t H1 locs1 ht _ _ hB _ _ hS => kk u H1 locs1 (ht ▸ hB) hS)
end CON2
