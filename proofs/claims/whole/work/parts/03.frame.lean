/-- an object's numbers: by cell, by place; all objects' -/
abbrev Ob : Type := Nat → Nat → Int32
abbrev Wd : Type := Nat → Ob
def ob (z : Ob) (c k : Nat) (v : Int32) : Ob := va_up z c (upd (z c) k v)
def wo (X : Wd) (o c k : Nat) (v : Int32) : Wd := va_up X o (ob (X o) c k v)
/-- classes and slots; array classes; addresses; the Strings' addresses and their rows' -/
abbrev En : Type := va_G × (Nat → ClassId) × (Nat → Nat → Nat) × (Nat → Nat) × (Nat → Nat)
abbrev En.cy (E : En) : Nat → ClassId := E.2.1
abbrev En.ad (E : En) : Nat → Nat → Nat := E.2.2.1
abbrev En.kS (E : En) : Nat → Nat := E.2.2.2.1
abbrev En.vS (E : En) : Nat → Nat := E.2.2.2.2
abbrev TY (E : En) : List (ClassId × FieldType) := [(E.cy 0, .int), (E.cy 1, .byte), (E.cy 2, .boolean), (E.cy 3, .object RX1), (E.cy 4, .object RX5)]
def fMn (E : En) (r : Nat → Int32) : List Value := [.ref (E.ad 1 0), .ref (E.ad 4 0), .ref (E.ad 5 0), .ref (E.ad 6 0), .ref (E.ad 0 2), .ref (E.ad 0 3), .ref (E.ad 0 1), .ref (E.ad 0 4), .ref (E.ad 2 0), .ref (E.ad 3 0), .int (r 10), .int (r 11)]
def fRd (E : En) (r : Nat → Int32) : List Value := [.ref (E.ad 1 1), .int (r 1), .int (r 2), .int (r 3), .int (r 4), .int (r 5), .int (r 6), .int (r 7)]
def fSn (E : En) (r : Nat → Int32) : List Value := [.int (r 0), .ref (E.ad 2 1), .ref (E.ad 2 2), .ref (E.ad 2 3), .ref (E.ad 2 4), .ref (E.ad 2 5)]
def fBe (r : Nat → Int32) : List Value := [.int (r 0), .int (r 1)]
def fMz (E : En) (o : Nat) (r : Nat → Int32) : List Value := [.int (r 0), .int (r 1), .int (r 2), .int (r 3), .int (r 4), .ref (E.ad o 1), .ref (E.ad o 2), .ref (E.ad o 3), .int (r 8), .ref (E.ad o 4), .ref (E.ad o 5), .ref (E.ad o 6)]
def fSh (E : En) (o : Nat) (r : Nat → Int32) : List Value := [.int (r 0), .int (r 1), .int (r 2), .ref (E.ad o 1)]
def fMo (E : En) (r : Nat → Int32) : List Value := [.ref (E.ad 22 1), .ref (E.ad 22 2), .int (r 2), .int (r 3), .ref (E.ad 22 3), .int (r 5), .int (r 6), .int (r 7), .int (r 8), .int (r 9), .int (r 10), .int (r 11), .int (r 12), .ref (E.ad 22 4), .ref (E.ad 22 5), .ref (E.ad 22 6), .int (r 16), .ref (E.ad 22 7), .int (r 18), .ref (E.ad 22 8), .ref (E.ad 22 9), .ref (E.ad 22 10), .ref (E.ad 22 11), .ref (E.ad 22 12), .int (r 24)]
def aI (E : En) (n : Nat) (r : Nat → Int32) : va_E := .inl (E.cy 0, n, .inl r)
def aR (E : En) (t n : Nat) (f : Nat → Option Nat) : va_E := .inl (E.cy t, n, .inr (.inr (.inr (.inr f))))
def lnMo (c : Nat) : Nat := if c = 1 then 318 else if c = 2 then 53 else if c = 3 then 160 else if c = 4 then 8 else if c = 5 then 33 else if c = 6 then 16 else if c = 7 then 18 else if c = 8 then 504 else if c = 10 then 4 else if c = 11 then 4 else 160
def cell (E : En) (o c : Nat) (r : Nat → Int32) : va_E :=
  if o = 0 then (if c = 0 then .inr (5, fMn E r) else if c = 1 then .inl (E.cy 2, 2, .inl r) else if c = 2 then aR E 3 9 (fun j => some (E.ad (7 + j) 0)) else if c = 3 then aR E 3 2 (fun j => some (E.ad (16 + j) 0)) else aR E 4 4 (fun j => some (E.ad (18 + j) 0)))
  else if o = 1 then (if c = 0 then .inr (2, fRd E r) else .inl (E.cy 1, 160, .inl r))
  else if o = 2 then (if c = 0 then .inr (3, fSn E r) else if c = 4 then aI E 21 r else if c = 5 then aI E 504 r else aI E 6 r)
  else if o = 3 then .inr (0, fBe r)
  else if o < 18 then (if c = 0 then .inr (1, fMz E o r) else aI E 4 r)
  else if o < 22 then (if c = 0 then .inr (4, fSh E o r) else aI E 40 r)
  else (if c = 0 then .inr (6, fMo E r) else if c = 9 then .inl (E.cy 2, 2, .inl r) else aI E (lnMo c) r)
def ids : List (Nat × Nat) := [(0, 0), (0, 1), (0, 2), (0, 3), (0, 4), (1, 0), (1, 1), (2, 0), (2, 1), (2, 2), (2, 3), (2, 4), (2, 5), (3, 0), (4, 0), (4, 1), (4, 2), (4, 3), (4, 4), (4, 5), (4, 6), (5, 0), (5, 1), (5, 2), (5, 3), (5, 4), (5, 5), (5, 6), (6, 0), (6, 1), (6, 2), (6, 3), (6, 4), (6, 5), (6, 6), (7, 0), (7, 1), (7, 2), (7, 3), (7, 4), (7, 5), (7, 6), (8, 0), (8, 1), (8, 2), (8, 3), (8, 4), (8, 5), (8, 6), (9, 0), (9, 1), (9, 2), (9, 3), (9, 4), (9, 5), (9, 6), (10, 0), (10, 1), (10, 2), (10, 3), (10, 4), (10, 5), (10, 6), (11, 0), (11, 1), (11, 2), (11, 3), (11, 4), (11, 5), (11, 6), (12, 0), (12, 1), (12, 2), (12, 3), (12, 4), (12, 5), (12, 6), (13, 0), (13, 1), (13, 2), (13, 3), (13, 4), (13, 5), (13, 6), (14, 0), (14, 1), (14, 2), (14, 3), (14, 4), (14, 5), (14, 6), (15, 0), (15, 1), (15, 2), (15, 3), (15, 4), (15, 5), (15, 6), (16, 0), (16, 1), (16, 2), (16, 3), (16, 4), (16, 5), (16, 6), (17, 0), (17, 1), (17, 2), (17, 3), (17, 4), (17, 5), (17, 6), (18, 0), (18, 1), (19, 0), (19, 1), (20, 0), (20, 1), (21, 0), (21, 1), (22, 0), (22, 1), (22, 2), (22, 3), (22, 4), (22, 5), (22, 6), (22, 7), (22, 8), (22, 9), (22, 10), (22, 11), (22, 12)]
def GW (E : En) (X : Wd) : va_W := ids.map (fun q => (E.ad q.1 q.2, cell E q.1 q.2 (X q.1 q.2)))
def GA (E : En) : Nat → Prop := fun a => ∃ q ∈ ids, a = E.ad q.1 q.2
def Inj (E : En) : Prop := ∀ p ∈ ids, ∀ q ∈ ids, E.ad p.1 p.2 = E.ad q.1 q.2 → p = q
theorem ids_nd : ids.Nodup := by decide +kernel
theorem mem_mz {o c : Nat} (h1 : 4 ≤ o) (h2 : o < 18) (hc : c < 7) : (o, c) ∈ ids := by
  have h : ∀ a, a < 14 → ∀ b, b < 7 → (4 + a, b) ∈ ids := by decide +kernel
  have h3 := h (o - 4) (by omega) c hc
  rwa [show 4 + (o - 4) = o from by omega] at h3
theorem mem_sh {o c : Nat} (h1 : 18 ≤ o) (h2 : o < 22) (hc : c < 2) : (o, c) ∈ ids := by
  have h : ∀ a, a < 4 → ∀ b, b < 2 → (18 + a, b) ∈ ids := by decide +kernel
  have h3 := h (o - 18) (by omega) c hc
  rwa [show 18 + (o - 18) = o from by omega] at h3
theorem mem_mo {c : Nat} (hc : c < 13) : (22, c) ∈ ids := by
  have h : ∀ b, b < 13 → (22, b) ∈ ids := by decide +kernel
  exact h c hc
theorem cell_mz (E : En) {o : Nat} (h1 : 4 ≤ o) (h2 : o < 18) (r : Nat → Int32) : cell E o 0 r = .inr (1, fMz E o r) := by
  unfold cell
  rw [if_neg (by omega), if_neg (by omega), if_neg (by omega), if_neg (by omega), if_pos h2, if_pos rfl]
theorem cell_ma (E : En) {o c : Nat} (h1 : 4 ≤ o) (h2 : o < 18) (hc : c ≠ 0) (r : Nat → Int32) : cell E o c r = .inl (E.cy 0, 4, .inl r) := by
  unfold cell
  rw [if_neg (by omega), if_neg (by omega), if_neg (by omega), if_neg (by omega), if_pos h2, if_neg hc]
  rfl
theorem cell_sh (E : En) {o : Nat} (h1 : 18 ≤ o) (h2 : o < 22) (r : Nat → Int32) : cell E o 0 r = .inr (4, fSh E o r) := by
  unfold cell
  rw [if_neg (by omega), if_neg (by omega), if_neg (by omega), if_neg (by omega), if_neg (by omega), if_pos h2, if_pos rfl]
theorem cell_sa (E : En) {o c : Nat} (h1 : 18 ≤ o) (h2 : o < 22) (hc : c ≠ 0) (r : Nat → Int32) : cell E o c r = .inl (E.cy 0, 40, .inl r) := by
  unfold cell
  rw [if_neg (by omega), if_neg (by omega), if_neg (by omega), if_neg (by omega), if_neg (by omega), if_pos h2, if_neg hc]
  rfl
theorem cell_mo (E : En) (r : Nat → Int32) : cell E 22 0 r = .inr (6, fMo E r) := rfl
theorem lens_put (σ : Wd) (o : Nat) (z : Ob) (c k : Nat) (v : Int32) : wo (va_up σ o z) o c k v = va_up σ o (ob z c k v) := by
  unfold wo
  rw [va_up_self]
  funext j
  by_cases h : j = o
  · subst h; rw [va_up_self, va_up_self]
  · rw [va_up_ne _ _ h, va_up_ne _ _ h, va_up_ne _ _ h]
theorem lens_all (σ : Wd) (o : Nat) : va_up σ o (σ o) = σ := by
  funext j
  by_cases h : j = o
  · subst h; rw [va_up_self]
  · rw [va_up_ne _ _ h]
theorem lens_up (σ : Wd) (o : Nat) (z z' : Ob) : va_up (va_up σ o z) o z' = va_up σ o z' := by
  funext j
  by_cases h : j = o
  · subst h; rw [va_up_self, va_up_self]
  · rw [va_up_ne _ _ h, va_up_ne _ _ h, va_up_ne _ _ h]
theorem lens_swap (σ : Wd) {o q : Nat} (h : o ≠ q) (z z2 z' : Ob) : va_up (va_up (va_up σ o z) q z2) o z' = va_up (va_up σ o z') q z2 := by
  funext j
  by_cases h1 : j = o
  · subst h1; rw [va_up_self, va_up_ne _ _ h, va_up_self]
  · rw [va_up_ne _ _ h1]
    by_cases h2 : j = q
    · subst h2; rw [va_up_self, va_up_self]
    · rw [va_up_ne _ _ h2, va_up_ne _ _ h2, va_up_ne _ _ h1, va_up_ne _ _ h1]
theorem lens_put1 (σ : Wd) {o q : Nat} (h : o ≠ q) (z z2 : Ob) (c k : Nat) (v : Int32) : wo (va_up (va_up σ o z) q z2) o c k v = va_up (va_up σ o (ob z c k v)) q z2 := by
  unfold wo
  rw [va_up_ne _ _ h, va_up_self, lens_swap _ h]
theorem GW_D {E : En} (hE : Inj E) (X : Wd) : va_D (GA E) (GW E X) := by
  refine ⟨fun i j p q hp hq e => ?_, fun k q hk => ?_⟩
  · unfold GW at hp hq
    rw [List.getElem?_map] at hp hq
    cases h1 : ids[i]? with
    | none => rw [h1] at hp; cases hp
    | some a =>
      cases h2 : ids[j]? with
      | none => rw [h2] at hq; cases hq
      | some b =>
        rw [h1] at hp; rw [h2] at hq
        cases hp; cases hq
        have e2 := hE a (List.mem_of_getElem? h1) b (List.mem_of_getElem? h2) e
        subst e2
        have hi := (List.getElem?_eq_some_iff.mp h1).1
        exact (List.getElem?_inj hi ids_nd).mp (h1.trans h2.symm)
  · unfold GW at hk
    rw [List.getElem?_map] at hk
    cases h1 : ids[k]? with
    | none => rw [h1] at hk; cases hk
    | some a =>
      rw [h1] at hk; cases hk
      exact ⟨a, List.mem_of_getElem? h1, rfl⟩
theorem GW_at {E : En} (X : Wd) {o c : Nat} (h : (o, c) ∈ ids) : ∃ k : Nat, ids[k]? = some (o, c) ∧ (GW E X)[k]? = some (E.ad o c, cell E o c (X o c)) := by
  obtain ⟨k, hk⟩ := List.mem_iff_getElem?.mp h
  exact ⟨k, hk, by unfold GW; rw [List.getElem?_map, hk]; rfl⟩
theorem GW_set {E : En} (X : Wd) {o c k : Nat} (hk : ids[k]? = some (o, c)) (r : Nat → Int32) : (GW E X).set k (E.ad o c, cell E o c r) = GW E (va_up X o (va_up (X o) c r)) := by
  apply List.ext_getElem?
  intro i
  unfold GW
  by_cases h : k = i
  · subst h
    have hl := (List.getElem?_eq_some_iff.mp hk).1
    rw [List.getElem?_set_self (by rw [List.length_map]; exact hl), List.getElem?_map, hk]
    dsimp only [Option.map_some]
    rw [va_up_self, va_up_self]
  · rw [List.getElem?_set_ne h, List.getElem?_map, List.getElem?_map]
    cases h1 : ids[i]? with
    | none => rfl
    | some a =>
      obtain ⟨a1, a2⟩ := a
      dsimp only [Option.map_some]
      by_cases e1 : a1 = o
      · subst e1
        by_cases e2 : a2 = c
        · subst e2
          have hi := (List.getElem?_eq_some_iff.mp h1).1
          exact absurd ((List.getElem?_inj hi ids_nd).mp (h1.trans hk.symm)).symm h
        · rw [va_up_self, va_up_ne _ _ e2]
      · rw [va_up_ne _ _ e1]
def slen : List Nat := [5, 5, 4, 5, 5, 5, 4]
def sbyt : List (List Int32) := [[103, 117, 101, 115, 116], [104, 101, 100, 103, 101], [103, 97, 116, 101], [112, 108, 97, 105, 110], [115, 112, 105, 116, 101], [99, 108, 111, 115, 101], [119, 105, 100, 101]]
/-- the text constants -/
def SX (E : En) (U : State) (H : Heap) : Prop := vk_S 7 slen sbyt E.kS E.vS (GA E) U H ∧ vk_R RX3 57 "guest" (E.kS 0) U ∧ vk_R RX3 66 "hedge" (E.kS 1) U ∧ vk_R RX3 71 "gate" (E.kS 2) U ∧ vk_R RX3 132 "plain" (E.kS 3) U ∧ vk_R RX3 134 "spite" (E.kS 4) U ∧ vk_R RX3 136 "close" (E.kS 5) U ∧ vk_R RX3 138 "wide" (E.kS 6) U ∧ va_Z "java/lang/String" "COMPACT_STRINGS" "Z" (.int 1) (GA E) U H ∧ va_Zq "jdk/internal/util/Preconditions" "SIOOBE_FORMATTER" "Ljava/util/function/BiFunction;" (GA E) U H
def BS (E : En) (U : State) (H : Heap) : Prop := va_K E.1 vwCl (TY E) U ∧ SX E U H
theorem BS.at {E : En} {s U : State} {H0 H : Heap} (h : BS E s H0) (hW : s.WarmedH U.vm) (hq : ∀ a : Nat, a < H0.size → ¬ GA E a → H[a]? = H0[a]?) : BS E U H := by
  obtain ⟨h1, h2, r1, r2, r3, r4, r5, r6, r7, z1, z2⟩ := h
  exact ⟨va_K.moved hW.alike h1, (h2.kept hq).moved hW.alike, r1.warm hW, r2.warm hW, r3.warm hW, r4.warm hW, r5.warm hW, r6.warm hW, r7.warm hW, (z1.kept hq).moved hW.alike, (z2.kept hq).moved hW.alike⟩
theorem BS.call {E : En} {U : State} {H : Heap} {g : JFrame} {mk : MethodId} {a : Array Value} (h : BS E U H) : BS E (U.calling g mk a) H := by
  obtain ⟨h1, h2, r1, r2, r3, r4, r5, r6, r7, z1, z2⟩ := h
  exact ⟨va_K.moved (u := U) (U := U.calling g mk a) (Vm.Alike.refl U.vm) h1, vk_S.moved (u := U) (U := U.calling g mk a) (Vm.Alike.refl U.vm) h2, vk_R.same (u := U) rfl r1, vk_R.same (u := U) rfl r2, vk_R.same (u := U) rfl r3, vk_R.same (u := U) rfl r4, vk_R.same (u := U) rfl r5, vk_R.same (u := U) rfl r6, vk_R.same (u := U) rfl r7, va_Z.moved (u := U) (U := U.calling g mk a) (Vm.Alike.refl U.vm) z1, va_Zq.moved (u := U) (U := U.calling g mk a) (Vm.Alike.refl U.vm) z2⟩
def PC (E : En) (av : List Value) (X : Wd) : Array Value → State → Prop := va_Pc av (fun U => va_P E.1 vwCl (GW E X) U.heap ∧ BS E U U.heap)
theorem PC.blind {E : En} {av : List Value} {X : Wd} : FrameBlind (PC E av X) := fun _ _ _ _ q => ⟨q.1, q.2.1, BS.call q.2.2⟩
theorem PC.mk {E : En} {av : List Value} {X : Wd} {s : State} {H : Heap} {locs : List Loc} (hB : BS E s s.heap) (hP : va_P E.1 vwCl (GW E X) H) (hS : va_S (GA E) s.heap H locs) : ∀ U : State, U.heap = H → s.WarmedH U.vm → PC E av X av.toArray U := fun U hU hW => ⟨rfl, by rw [hU]; exact hP, by rw [hU]; exact hB.at hW hS.2.1⟩
/-- the contracts: from the world X to the world X', answer r -/
def Cti (l : Launch) (E : En) (y : MethodName) (ws : List Cond) (rm : Room) (av : List Value) (X : Wd) (r : Int32) (X' : Wd) : Prop := Met l y ws rm (PC E av X) (va_Qi (fun (r' : Int32) (_ : Unit) => r' = r) (fun _ t => va_P E.1 vwCl (GW E X') t.heap) (GA E)) 0 0 (GA E)
def Ctl (l : Launch) (E : En) (y : MethodName) (ws : List Cond) (rm : Room) (av : List Value) (X : Wd) (r : Int64) (X' : Wd) : Prop := Met l y ws rm (PC E av X) (va_Ql (fun (r' : Int64) (_ : Unit) => r' = r) (fun _ t => va_P E.1 vwCl (GW E X') t.heap) (GA E)) 0 0 (GA E)
def Ctv (l : Launch) (E : En) (y : MethodName) (ws : List Cond) (rm : Room) (av : List Value) (X : Wd) (X' : Wd) : Prop := Met l y ws rm (PC E av X) (va_Qv (fun (_ : Unit) => True) (fun _ t => va_P E.1 vwCl (GW E X') t.heap) (GA E)) 0 0 (GA E)
def Ctr (l : Launch) (E : En) (y : MethodName) (ws : List Cond) (rm : Room) (av : List Value) (X : Wd) (r : Nat) (X' : Wd) : Prop := Met l y ws rm (PC E av X) (va_Qr (fun (_ : Unit) => True) (fun _ a t => a = r ∧ va_P E.1 vwCl (GW E X') t.heap) (GA E)) 0 0 (GA E)
theorem meet_i {l : Launch} {y : MethodName} {ws ws' : List Cond} {rm : Room} {cc : ByteArray} {maxL : Nat} {own : String} {E : En} {av : List Value} {X X' : Wd} {r : Int32} (hy : plainName y.cls = true) (hw : ws = Cond.code y cc maxL (some .int) :: ws') (hown : y.cls = own) (hlen : (lg_sl av).length ≤ maxL)
    (body : ∀ (p : Program) (e : Env) (s : State) (m : MethodId) (below : List Frame) (meth : Method) (c : Code) (Z : State → Prop), CallFix p m c cc maxL s av.toArray ws own → BS E s s.heap →
      (∀ {pc : Nat} {ls : Array Slot} {H : Heap} {locs : List Loc} {v : Int32} {X1 : Wd}, decode cc pc = .ok (.ireturn, 1) → v = r → X1 = X' → va_P E.1 vwCl (GW E X1) H → va_S (GA E) s.heap H locs → W p l e rm s m av.toArray below meth c H locs 0 0 Z (F0 m pc ls [.int v])) →
      va_P E.1 vwCl (GW E X) s.heap → va_S (GA E) s.heap s.heap [] → ∀ ls : Array Slot, lv_has ls maxL (lv_args 0 av) → W p l e rm s m av.toArray below meth c s.heap [] 0 0 Z (F0 m 0 ls [])) : Cti l E y ws rm av X r X' := by
  refine Met.ofW (cc := cc) (maxL := maxL) (ret := some .int) hy hw ?_
  intro p e s m args below meth c s₁ B hml hv
  obtain ⟨rfl, hP, hB⟩ := hv
  have hr := B.returns
  have hlocks := B.notSynchronized
  have S : CallFix p m c cc maxL s av.toArray ws own := ⟨B.exec, B.bytes, hml, hown ▸ findClass_of_methodNamed B.named, atoms_spec (ws := ws) B.pre⟩
  have hl := lv_entry av (n := maxL) hlen
  rw [lg_entry_eq]
  generalize (lg_sl av ++ List.replicate (maxL - (lg_sl av).length) Slot.unset).toArray = ls at hl ⊢
  exact body p e s m below meth c _ S hB (fun hd e1 e2 hP hS => W.iret S.1 S.2.1 hr (fun t ht hW => ⟨⟨_, (), rfl, e1, by show va_P E.1 vwCl (GW E X') t.heap; rw [ht, ← e2]; exact hP⟩, hS.F ht⟩) hS.2.2 hd) hP va_S.rf ls hl
theorem meet_l {l : Launch} {y : MethodName} {ws ws' : List Cond} {rm : Room} {cc : ByteArray} {maxL : Nat} {own : String} {E : En} {av : List Value} {X X' : Wd} {r : Int64} (hy : plainName y.cls = true) (hw : ws = Cond.code y cc maxL (some .long) :: ws') (hown : y.cls = own) (hlen : (lg_sl av).length ≤ maxL)
    (body : ∀ (p : Program) (e : Env) (s : State) (m : MethodId) (below : List Frame) (meth : Method) (c : Code) (Z : State → Prop), CallFix p m c cc maxL s av.toArray ws own → BS E s s.heap →
      (∀ {pc : Nat} {ls : Array Slot} {H : Heap} {locs : List Loc} {v : Int64} {X1 : Wd}, decode cc pc = .ok (.lreturn, 1) → v = r → X1 = X' → va_P E.1 vwCl (GW E X1) H → va_S (GA E) s.heap H locs → W p l e rm s m av.toArray below meth c H locs 0 0 Z (F0 m pc ls [.long v])) →
      va_P E.1 vwCl (GW E X) s.heap → va_S (GA E) s.heap s.heap [] → ∀ ls : Array Slot, lv_has ls maxL (lv_args 0 av) → W p l e rm s m av.toArray below meth c s.heap [] 0 0 Z (F0 m 0 ls [])) : Ctl l E y ws rm av X r X' := by
  refine Met.ofW (cc := cc) (maxL := maxL) (ret := some .long) hy hw ?_
  intro p e s m args below meth c s₁ B hml hv
  obtain ⟨rfl, hP, hB⟩ := hv
  have hr := B.returns
  have hlocks := B.notSynchronized
  have S : CallFix p m c cc maxL s av.toArray ws own := ⟨B.exec, B.bytes, hml, hown ▸ findClass_of_methodNamed B.named, atoms_spec (ws := ws) B.pre⟩
  have hl := lv_entry av (n := maxL) hlen
  rw [lg_entry_eq]
  generalize (lg_sl av ++ List.replicate (maxL - (lg_sl av).length) Slot.unset).toArray = ls at hl ⊢
  exact body p e s m below meth c _ S hB (fun hd e1 e2 hP hS => W.lret S.1 S.2.1 hr (fun t ht hW => ⟨⟨_, (), rfl, e1, by show va_P E.1 vwCl (GW E X') t.heap; rw [ht, ← e2]; exact hP⟩, hS.F ht⟩) hS.2.2 hd) hP va_S.rf ls hl
theorem meet_v {l : Launch} {y : MethodName} {ws ws' : List Cond} {rm : Room} {cc : ByteArray} {maxL : Nat} {own : String} {E : En} {av : List Value} {X X' : Wd}  (hy : plainName y.cls = true) (hw : ws = Cond.code y cc maxL (none) :: ws') (hown : y.cls = own) (hlen : (lg_sl av).length ≤ maxL)
    (body : ∀ (p : Program) (e : Env) (s : State) (m : MethodId) (below : List Frame) (meth : Method) (c : Code) (Z : State → Prop), CallFix p m c cc maxL s av.toArray ws own → BS E s s.heap →
      (∀ {pc : Nat} {ls : Array Slot} {H : Heap} {locs : List Loc} {X1 : Wd}, decode cc pc = .ok (.return_, 1) → X1 = X' → va_P E.1 vwCl (GW E X1) H → va_S (GA E) s.heap H locs → W p l e rm s m av.toArray below meth c H locs 0 0 Z (F0 m pc ls [])) →
      va_P E.1 vwCl (GW E X) s.heap → va_S (GA E) s.heap s.heap [] → ∀ ls : Array Slot, lv_has ls maxL (lv_args 0 av) → W p l e rm s m av.toArray below meth c s.heap [] 0 0 Z (F0 m 0 ls [])) : Ctv l E y ws rm av X  X' := by
  refine Met.ofW (cc := cc) (maxL := maxL) (ret := none) hy hw ?_
  intro p e s m args below meth c s₁ B hml hv
  obtain ⟨rfl, hP, hB⟩ := hv
  have hr := B.returns
  have hlocks := B.notSynchronized
  have S : CallFix p m c cc maxL s av.toArray ws own := ⟨B.exec, B.bytes, hml, hown ▸ findClass_of_methodNamed B.named, atoms_spec (ws := ws) B.pre⟩
  have hl := lv_entry av (n := maxL) hlen
  rw [lg_entry_eq]
  generalize (lg_sl av ++ List.replicate (maxL - (lg_sl av).length) Slot.unset).toArray = ls at hl ⊢
  exact body p e s m below meth c _ S hB (fun hd e2 hP hS => W.vret S.1 S.2.1 hr (fun t ht hW => ⟨⟨(), rfl, trivial, by show va_P E.1 vwCl (GW E X') t.heap; rw [ht, ← e2]; exact hP⟩, hS.F ht⟩) hS.2.2 hd) hP va_S.rf ls hl
theorem meet_z {l : Launch} {y : MethodName} {ws ws' : List Cond} {rm : Room} {cc : ByteArray} {maxL : Nat} {own : String} {E : En} {av : List Value} {X X' : Wd} {r : Int32} {ty : FieldType} (hy : plainName y.cls = true) (hw : ws = Cond.code y cc maxL (some ty) :: ws') (hown : y.cls = own) (hlen : (lg_sl av).length ≤ maxL)
    (body : ∀ (p : Program) (e : Env) (s : State) (m : MethodId) (below : List Frame) (meth : Method) (c : Code) (Z : State → Prop), CallFix p m c cc maxL s av.toArray ws own → BS E s s.heap →
      (∀ {pc : Nat} {ls : Array Slot} {H : Heap} {locs : List Loc} {v : Int32} {X1 : Wd}, decode cc pc = .ok (.ireturn, 1) → narrow ty (.int v) = .int v → v = r → X1 = X' → va_P E.1 vwCl (GW E X1) H → va_S (GA E) s.heap H locs → W p l e rm s m av.toArray below meth c H locs 0 0 Z (F0 m pc ls [.int v])) →
      va_P E.1 vwCl (GW E X) s.heap → va_S (GA E) s.heap s.heap [] → ∀ ls : Array Slot, lv_has ls maxL (lv_args 0 av) → W p l e rm s m av.toArray below meth c s.heap [] 0 0 Z (F0 m 0 ls [])) : Cti l E y ws rm av X r X' := by
  refine Met.ofW (cc := cc) (maxL := maxL) (ret := some ty) hy hw ?_
  intro p e s m args below meth c s₁ B hml hv
  obtain ⟨rfl, hP, hB⟩ := hv
  have hr := B.returns
  have hlocks := B.notSynchronized
  have S : CallFix p m c cc maxL s av.toArray ws own := ⟨B.exec, B.bytes, hml, hown ▸ findClass_of_methodNamed B.named, atoms_spec (ws := ws) B.pre⟩
  have hl := lv_entry av (n := maxL) hlen
  rw [lg_entry_eq]
  generalize (lg_sl av ++ List.replicate (maxL - (lg_sl av).length) Slot.unset).toArray = ls at hl ⊢
  exact body p e s m below meth c _ S hB (fun hd hn e1 e2 hP hS => W.zret (v := _) S.1 S.2.1 hr hn (fun t ht hW => ⟨⟨_, (), rfl, e1, by show va_P E.1 vwCl (GW E X') t.heap; rw [ht, ← e2]; exact hP⟩, hS.F ht⟩) hS.2.2 hd) hP va_S.rf ls hl
theorem meet_r {l : Launch} {y : MethodName} {ws ws' : List Cond} {rm : Room} {cc : ByteArray} {maxL : Nat} {own : String} {E : En} {av : List Value} {X X' : Wd} {r : Nat} {ty : FieldType} (hy : plainName y.cls = true) (hw : ws = Cond.code y cc maxL (some (.array ty)) :: ws') (hown : y.cls = own) (hlen : (lg_sl av).length ≤ maxL)
    (body : ∀ (p : Program) (e : Env) (s : State) (m : MethodId) (below : List Frame) (meth : Method) (c : Code) (Z : State → Prop), CallFix p m c cc maxL s av.toArray ws own → BS E s s.heap →
      (∀ {pc : Nat} {ls : Array Slot} {H : Heap} {locs : List Loc} {v : Nat} {X1 : Wd}, decode cc pc = .ok (.areturn, 1) → v = r → X1 = X' → va_P E.1 vwCl (GW E X1) H → va_S (GA E) s.heap H locs → W p l e rm s m av.toArray below meth c H locs 0 0 Z (F0 m pc ls [.ref v])) →
      va_P E.1 vwCl (GW E X) s.heap → va_S (GA E) s.heap s.heap [] → ∀ ls : Array Slot, lv_has ls maxL (lv_args 0 av) → W p l e rm s m av.toArray below meth c s.heap [] 0 0 Z (F0 m 0 ls [])) : Ctr l E y ws rm av X r X' := by
  refine Met.ofW (cc := cc) (maxL := maxL) (ret := some (.array ty)) hy hw ?_
  intro p e s m args below meth c s₁ B hml hv
  obtain ⟨rfl, hP, hB⟩ := hv
  have hr := B.returns
  have hlocks := B.notSynchronized
  have S : CallFix p m c cc maxL s av.toArray ws own := ⟨B.exec, B.bytes, hml, hown ▸ findClass_of_methodNamed B.named, atoms_spec (ws := ws) B.pre⟩
  have hl := lv_entry av (n := maxL) hlen
  rw [lg_entry_eq]
  generalize (lg_sl av ++ List.replicate (maxL - (lg_sl av).length) Slot.unset).toArray = ls at hl ⊢
  exact body p e s m below meth c _ S hB (fun hd e1 e2 hP hS => W.aret (v := .ref _) S.1 S.2.1 hr (Or.inr ⟨_, rfl⟩) (Or.inr ⟨_, rfl⟩) (fun t ht hW => ⟨⟨(), _, rfl, trivial, e1, by show va_P E.1 vwCl (GW E X') t.heap; rw [ht, ← e2]; exact hP⟩, hS.F ht⟩) hS.2.2 hd) hP va_S.rf ls hl
section GR
variable {p : Program} {l : Launch} {e : Env} {R : Room} {s : State} {m : MethodId} {args : Array Value} {below : List Frame} {meth : Method} {c : Code} {H : Heap} {locs : List Loc} {cells slots : Nat} {Q : State → Prop}
variable {cc : ByteArray} {pc nL : Nat} {ls : Array Slot} {rest : List Value} {E : En} {X : Wd} {Ts : List Cond} {own : String} {o d : Nat}
theorem g_get (S : CallFix p m c cc nL s args Ts own) (hB : BS E s s.heap) {ref C : String} {T : u_T} {N ci index : Nat} (hin : ∀ w ∈ u_ws C T N, w ∈ Ts) (hP : va_P E.1 vwCl (GW E X) H) (hm : (o, d) ∈ ids) {fs : List Value} (he : cell E o d (X o d) = .inr (ci, fs)) (hc : vwCl[ci]? = some (C, T, N)) (k : Nat) (hk : k < N) (hlink : (Cond.fieldLink own index ref (T k).2.1 (T k).2.2.1).before args s = true) (hsame : (T k).1 = ref) {v : Value} (hv : fs[k]? = some v) (hdg : decode cc pc = .ok (.getfield index, 3))
    (kk : W p l e R s m args below meth c H locs cells slots Q (F0 m (pc + 3) ls (v :: rest))) : W p l e R s m args below meth c H locs cells slots Q (F0 m pc ls (.ref (E.ad o d) :: rest)) := by
  obtain ⟨q0, -, h1⟩ := GW_at (E := E) X hm
  rw [he] at h1
  exact va_get S.1 S.2.1 S.2.2.2.2 hin S.2.2.2.1 hB.1 hP q0 h1 hc k hk hlink (fun _ h => by rw [hsame] at h; exact h) hv hdg kk
theorem g_put (S : CallFix p m c cc nL s args Ts own) (hB : BS E s s.heap) (hE : Inj E) {ref C : String} {T : u_T} {N ci index : Nat} (hin : ∀ w ∈ u_ws C T N, w ∈ Ts) (ty0 : Nat → FieldType) (hty : ∀ k, k < N → parseFieldDescriptor (T k).2.2.1 = some (ty0 k)) (hnm : ∀ a, a < N → ∀ b, b < N → a ≠ b → (T a).2.1 ≠ (T b).2.1) (hP : va_P E.1 vwCl (GW E X) H) (hS : va_S (GA E) s.heap H locs) (hm : (o, d) ∈ ids) {fs : List Value} (he : cell E o d (X o d) = .inr (ci, fs)) (hc : vwCl[ci]? = some (C, T, N)) (k : Nat) (hk : k < N) (hlink : (Cond.fieldLink own index ref (T k).2.1 (T k).2.2.1).before args s = true) (hsame : (T k).1 = ref) (hfin : (T k).2.2.2 = false) {x : Int32} (hn : narrow (ty0 k) (.int x) = .int x) (hfit : fits (ty0 k) (.int x) = true) (hl : k < fs.length) (hrow : cell E o d (upd (X o d) k x) = .inr (ci, fs.set k (.int x))) {X' : Wd} (hX : wo X o d k x = X') (hdg : decode cc pc = .ok (.putfield index, 3))
    (kk : ∀ (H1 : Heap) (locs1 : List Loc), va_P E.1 vwCl (GW E X') H1 → va_S (GA E) s.heap H1 locs1 → W p l e R s m args below meth c H1 locs1 cells slots Q (F0 m (pc + 3) ls rest)) : W p l e R s m args below meth c H locs cells slots Q (F0 m pc ls (.int x :: .ref (E.ad o d) :: rest)) := by
  obtain ⟨q0, h0, h1⟩ := GW_at (E := E) X hm
  rw [he] at h1
  refine va_put S.1 S.2.1 S.2.2.2.2 hin ty0 hty hnm S.2.2.2.1 hB.1 hP (GW_D hE X) hS q0 h1 hc k hk hlink (fun _ h => by rw [hsame] at h; exact h) hfin (hty k hk) hn hfit hl hdg (fun H1 locs1 hP1 _ hS1 => kk H1 locs1 ?_ hS1)
  rw [← hrow, GW_set X h0] at hP1
  rw [← hX]
  exact hP1
theorem g_iald (S : CallFix p m c cc nL s args Ts own) (hB : BS E s s.heap) (hP : va_P E.1 vwCl (GW E X) H) (hm : (o, d) ∈ ids) {n : Nat} {r : Nat → Int32} (he : cell E o d (X o d) = .inl (E.cy 0, n, .inl r)) {i : Int32} (hi : vp_in i n) (hdg : decode cc pc = .ok (.iaload, 1))
    (kk : W p l e R s m args below meth c H locs cells slots Q (F0 m (pc + 1) ls (.int (r i.toNatClampNeg) :: rest))) : W p l e R s m args below meth c H locs cells slots Q (F0 m pc ls (.int i :: .ref (E.ad o d) :: rest)) := by
  obtain ⟨q0, -, h1⟩ := GW_at (E := E) X hm
  rw [he] at h1
  exact va_iald S.1 S.2.1 hB.1 hP q0 0 h1 rfl hi hdg kk
theorem g_bald (S : CallFix p m c cc nL s args Ts own) (hB : BS E s s.heap) (hP : va_P E.1 vwCl (GW E X) H) (hm : (o, d) ∈ ids) {n : Nat} {r : Nat → Int32} (he : cell E o d (X o d) = .inl (E.cy 1, n, .inl r)) {i : Int32} (hi : vp_in i n) (hdg : decode cc pc = .ok (.baload, 1))
    (kk : W p l e R s m args below meth c H locs cells slots Q (F0 m (pc + 1) ls (.int (r i.toNatClampNeg) :: rest))) : W p l e R s m args below meth c H locs cells slots Q (F0 m pc ls (.int i :: .ref (E.ad o d) :: rest)) := by
  obtain ⟨q0, -, h1⟩ := GW_at (E := E) X hm
  rw [he] at h1
  exact va_bald S.1 S.2.1 hB.1 hP q0 1 h1 rfl hi hdg kk
theorem g_zald (S : CallFix p m c cc nL s args Ts own) (hB : BS E s s.heap) (hP : va_P E.1 vwCl (GW E X) H) (hm : (o, d) ∈ ids) {n : Nat} {r : Nat → Int32} (he : cell E o d (X o d) = .inl (E.cy 2, n, .inl r)) {i : Int32} (hi : vp_in i n) (hdg : decode cc pc = .ok (.baload, 1))
    (kk : W p l e R s m args below meth c H locs cells slots Q (F0 m (pc + 1) ls (.int (r i.toNatClampNeg) :: rest))) : W p l e R s m args below meth c H locs cells slots Q (F0 m pc ls (.int i :: .ref (E.ad o d) :: rest)) := by
  obtain ⟨q0, -, h1⟩ := GW_at (E := E) X hm
  rw [he] at h1
  exact va_zald S.1 S.2.1 hB.1 hP q0 2 h1 rfl hi hdg kk
theorem g_iast (S : CallFix p m c cc nL s args Ts own) (hB : BS E s s.heap) (hE : Inj E) (hP : va_P E.1 vwCl (GW E X) H) (hS : va_S (GA E) s.heap H locs) (hm : (o, d) ∈ ids) {n : Nat} {r : Nat → Int32} (he : cell E o d (X o d) = .inl (E.cy 0, n, .inl r)) (hr : X o d = r) (hrow : ∀ r', cell E o d r' = .inl (E.cy 0, n, .inl r')) {i x : Int32} (hi : vp_in i n) {X' : Wd} (hX : wo X o d i.toNatClampNeg x = X') (hdg : decode cc pc = .ok (.iastore, 1))
    (kk : ∀ (H1 : Heap) (locs1 : List Loc), va_P E.1 vwCl (GW E X') H1 → va_S (GA E) s.heap H1 locs1 → W p l e R s m args below meth c H1 locs1 cells slots Q (F0 m (pc + 1) ls rest)) : W p l e R s m args below meth c H locs cells slots Q (F0 m pc ls (.int x :: .int i :: .ref (E.ad o d) :: rest)) := by
  obtain ⟨q0, h0, h1⟩ := GW_at (E := E) X hm
  rw [he] at h1
  refine va_iast S.1 S.2.1 hB.1 hP (GW_D hE X) hS q0 0 h1 rfl hi hdg (fun H1 locs1 hP1 _ hS1 => kk H1 locs1 ?_ hS1)
  rw [← hrow, GW_set X h0] at hP1
  rw [← hX]
  subst hr
  exact hP1
theorem g_bast (S : CallFix p m c cc nL s args Ts own) (hB : BS E s s.heap) (hE : Inj E) (hP : va_P E.1 vwCl (GW E X) H) (hS : va_S (GA E) s.heap H locs) (hm : (o, d) ∈ ids) {n : Nat} {r : Nat → Int32} (he : cell E o d (X o d) = .inl (E.cy 1, n, .inl r)) (hr : X o d = r) (hrow : ∀ r', cell E o d r' = .inl (E.cy 1, n, .inl r')) {i x : Int32} (hi : vp_in i n) {X' : Wd} (hX : wo X o d i.toNatClampNeg (vp_nar .byte x) = X') (hdg : decode cc pc = .ok (.bastore, 1))
    (kk : ∀ (H1 : Heap) (locs1 : List Loc), va_P E.1 vwCl (GW E X') H1 → va_S (GA E) s.heap H1 locs1 → W p l e R s m args below meth c H1 locs1 cells slots Q (F0 m (pc + 1) ls rest)) : W p l e R s m args below meth c H locs cells slots Q (F0 m pc ls (.int x :: .int i :: .ref (E.ad o d) :: rest)) := by
  obtain ⟨q0, h0, h1⟩ := GW_at (E := E) X hm
  rw [he] at h1
  refine va_bast S.1 S.2.1 hB.1 hP (GW_D hE X) hS q0 1 h1 rfl hi hdg (fun H1 locs1 hP1 _ hS1 => kk H1 locs1 ?_ hS1)
  rw [← hrow, GW_set X h0] at hP1
  rw [← hX]
  subst hr
  exact hP1
theorem g_zast (S : CallFix p m c cc nL s args Ts own) (hB : BS E s s.heap) (hE : Inj E) (hP : va_P E.1 vwCl (GW E X) H) (hS : va_S (GA E) s.heap H locs) (hm : (o, d) ∈ ids) {n : Nat} {r : Nat → Int32} (he : cell E o d (X o d) = .inl (E.cy 2, n, .inl r)) (hr : X o d = r) (hrow : ∀ r', cell E o d r' = .inl (E.cy 2, n, .inl r')) {i x : Int32} (hi : vp_in i n) {X' : Wd} (hX : wo X o d i.toNatClampNeg (vp_nar .boolean x) = X') (hdg : decode cc pc = .ok (.bastore, 1))
    (kk : ∀ (H1 : Heap) (locs1 : List Loc), va_P E.1 vwCl (GW E X') H1 → va_S (GA E) s.heap H1 locs1 → W p l e R s m args below meth c H1 locs1 cells slots Q (F0 m (pc + 1) ls rest)) : W p l e R s m args below meth c H locs cells slots Q (F0 m pc ls (.int x :: .int i :: .ref (E.ad o d) :: rest)) := by
  obtain ⟨q0, h0, h1⟩ := GW_at (E := E) X hm
  rw [he] at h1
  refine va_zast S.1 S.2.1 hB.1 hP (GW_D hE X) hS q0 2 h1 rfl hi hdg (fun H1 locs1 hP1 _ hS1 => kk H1 locs1 ?_ hS1)
  rw [← hrow, GW_set X h0] at hP1
  rw [← hX]
  subst hr
  exact hP1
theorem g_aald (S : CallFix p m c cc nL s args Ts own) (hB : BS E s s.heap) (hP : va_P E.1 vwCl (GW E X) H) (hm : (o, d) ∈ ids) (t : Nat) {n : Nat} {f : Nat → Nat} {C : String} (he : cell E o d (X o d) = aR E t n (fun j => some (f j))) (ht : (TY E)[t]? = some (E.cy t, .object C)) {i : Int32} (hi : vp_in i n) (hdg : decode cc pc = .ok (.aaload, 1))
    (kk : W p l e R s m args below meth c H locs cells slots Q (F0 m (pc + 1) ls (.ref (f i.toNatClampNeg) :: rest))) : W p l e R s m args below meth c H locs cells slots Q (F0 m pc ls (.int i :: .ref (E.ad o d) :: rest)) := by
  obtain ⟨q0, -, h1⟩ := GW_at (E := E) X hm
  rw [he] at h1
  exact va_aldq S.1 S.2.1 hB.1 hP q0 t h1 ht hi hdg kk
theorem g_alen (S : CallFix p m c cc nL s args Ts own) (hB : BS E s s.heap) (hP : va_P E.1 vwCl (GW E X) H) (hm : (o, d) ∈ ids) (t : Nat) {x : vp_A} (he : cell E o d (X o d) = .inl (E.cy t, x)) {ty : FieldType} (ht : (TY E)[t]? = some (E.cy t, ty)) {v : Int32} (hv : Int32.ofNat x.1 = v) (hdg : decode cc pc = .ok (.arraylength, 1))
    (kk : W p l e R s m args below meth c H locs cells slots Q (F0 m (pc + 1) ls (.int v :: rest))) : W p l e R s m args below meth c H locs cells slots Q (F0 m pc ls (.ref (E.ad o d) :: rest)) := by
  obtain ⟨q0, -, h1⟩ := GW_at (E := E) X hm
  rw [he] at h1
  exact va_alen S.1 S.2.1 hB.1 hP q0 t h1 ht hv hdg kk
theorem g_recv (hB : BS E s s.heap) (hP : va_P E.1 vwCl (GW E X) H) (hm : (o, d) ∈ ids) {fs : List Value} {ci : Nat} {q : vw_C} (he : cell E o d (X o d) = .inr (ci, fs)) (hc : vwCl[ci]? = some q) : ∃ cell : Cell, H[E.ad o d]? = some cell ∧ cell.vm.isStatics = false ∧ s.vm.findClass q.1 = some cell.cls := by
  obtain ⟨q0, -, h1⟩ := GW_at (E := E) X hm
  rw [he] at h1
  exact va_recv hB.1 hP hc h1
theorem callV_i (S : CallFix p m c cc nL s args Ts own) (hB : BS E s s.heap) (hP : va_P E.1 vwCl (GW E X) H) (hS : va_S (GA E) s.heap H locs) {y : MethodName} {ws : List Cond} {rm : Room} {bytes : ByteArray} {maxL index n : Nat} {ret : Option FieldType} {As : List Value} {X' : Wd} {r : Int32} {C : String} {b : Nat} (hrc : ∃ cell : Cell, H[b]? = some cell ∧ cell.vm.isStatics = false ∧ s.vm.findClass C = some cell.cls) (hM : Cti l E y ws rm (.ref b :: As) X r X') (cw : CallW R s args own C index y bytes maxL ret ws rm 0 0 n) (hn : As.length = n) (hsize : ls.size = nL) {st0 : List Value} (hst : st0 = As.reverse ++ .ref b :: rest) (hW : (rest.map fun v => v.category).sum ≤ 8) (hdg : decode cc pc = .ok (.invokevirtual index, 3)) (hf : cells ≤ R.cells ∧ slots ≤ R.slots)
    (kk : ∀ (H1 : Heap) (locs1 : List Loc), va_P E.1 vwCl (GW E X') H1 → va_S (GA E) s.heap H1 locs1 → W p l e R s m args below meth c H1 locs1 cells slots Q (F0 m (pc + 3) ls (.int r :: rest))) : W p l e R s m args below meth c H locs cells slots Q (F0 m pc ls st0) := by
  subst hst
  exact va_calli (va_runV (As := As) (rest := rest) S hM cw ⟨PC.blind, hrc, PC.mk hB hP hS⟩ rfl hn hsize rfl (lv_room hW) hdg hf) hS (fun _ _ h => h) (fun _ h => h) (fun r1 _ t H1 locs1 ht _ hw hb1 _ _ hS1 => by rw [ht] at hb1; rw [hw]; exact kk H1 locs1 hb1 hS1)
theorem callS_i (S : CallFix p m c cc nL s args Ts own) (hB : BS E s s.heap) (hP : va_P E.1 vwCl (GW E X) H) (hS : va_S (GA E) s.heap H locs) {y : MethodName} {ws : List Cond} {rm : Room} {bytes : ByteArray} {maxL index n : Nat} {ret : Option FieldType} {As : List Value} {X' : Wd} {r : Int32} (hM : Cti l E y ws rm (As) X r X') (cw : CallB R s args own index y bytes maxL ret ws rm 0 0 n ∧ (Cond.static y).before args s = true) (hn : As.length = n) (hsize : ls.size = nL) {st0 : List Value} (hst : st0 = As.reverse ++ rest) (hW : (rest.map fun v => v.category).sum ≤ 8) (hdg : decode cc pc = .ok (.invokestatic index, 3)) (hf : cells ≤ R.cells ∧ slots ≤ R.slots)
    (kk : ∀ (H1 : Heap) (locs1 : List Loc), va_P E.1 vwCl (GW E X') H1 → va_S (GA E) s.heap H1 locs1 → W p l e R s m args below meth c H1 locs1 cells slots Q (F0 m (pc + 3) ls (.int r :: rest))) : W p l e R s m args below meth c H locs cells slots Q (F0 m pc ls st0) := by
  subst hst
  exact va_calli (va_runS (As := As) (rest := rest) S hM cw ⟨PC.blind, PC.mk hB hP hS⟩ rfl hn hsize rfl (lv_room hW) hdg hf) hS (fun _ _ h => h) (fun _ h => h) (fun r1 _ t H1 locs1 ht _ hw hb1 _ _ hS1 => by rw [ht] at hb1; rw [hw]; exact kk H1 locs1 hb1 hS1)
theorem callV_l (S : CallFix p m c cc nL s args Ts own) (hB : BS E s s.heap) (hP : va_P E.1 vwCl (GW E X) H) (hS : va_S (GA E) s.heap H locs) {y : MethodName} {ws : List Cond} {rm : Room} {bytes : ByteArray} {maxL index n : Nat} {ret : Option FieldType} {As : List Value} {X' : Wd} {r : Int64} {C : String} {b : Nat} (hrc : ∃ cell : Cell, H[b]? = some cell ∧ cell.vm.isStatics = false ∧ s.vm.findClass C = some cell.cls) (hM : Ctl l E y ws rm (.ref b :: As) X r X') (cw : CallW R s args own C index y bytes maxL ret ws rm 0 0 n) (hn : As.length = n) (hsize : ls.size = nL) {st0 : List Value} (hst : st0 = As.reverse ++ .ref b :: rest) (hW : (rest.map fun v => v.category).sum ≤ 8) (hdg : decode cc pc = .ok (.invokevirtual index, 3)) (hf : cells ≤ R.cells ∧ slots ≤ R.slots)
    (kk : ∀ (H1 : Heap) (locs1 : List Loc), va_P E.1 vwCl (GW E X') H1 → va_S (GA E) s.heap H1 locs1 → W p l e R s m args below meth c H1 locs1 cells slots Q (F0 m (pc + 3) ls (.long r :: rest))) : W p l e R s m args below meth c H locs cells slots Q (F0 m pc ls st0) := by
  subst hst
  exact va_calll (va_runV (As := As) (rest := rest) S hM cw ⟨PC.blind, hrc, PC.mk hB hP hS⟩ rfl hn hsize rfl (lv_room hW) hdg hf) hS (fun _ _ h => h) (fun _ h => h) (fun r1 _ t H1 locs1 ht _ hw hb1 _ _ hS1 => by rw [ht] at hb1; rw [hw]; exact kk H1 locs1 hb1 hS1)
theorem callS_l (S : CallFix p m c cc nL s args Ts own) (hB : BS E s s.heap) (hP : va_P E.1 vwCl (GW E X) H) (hS : va_S (GA E) s.heap H locs) {y : MethodName} {ws : List Cond} {rm : Room} {bytes : ByteArray} {maxL index n : Nat} {ret : Option FieldType} {As : List Value} {X' : Wd} {r : Int64} (hM : Ctl l E y ws rm (As) X r X') (cw : CallB R s args own index y bytes maxL ret ws rm 0 0 n ∧ (Cond.static y).before args s = true) (hn : As.length = n) (hsize : ls.size = nL) {st0 : List Value} (hst : st0 = As.reverse ++ rest) (hW : (rest.map fun v => v.category).sum ≤ 8) (hdg : decode cc pc = .ok (.invokestatic index, 3)) (hf : cells ≤ R.cells ∧ slots ≤ R.slots)
    (kk : ∀ (H1 : Heap) (locs1 : List Loc), va_P E.1 vwCl (GW E X') H1 → va_S (GA E) s.heap H1 locs1 → W p l e R s m args below meth c H1 locs1 cells slots Q (F0 m (pc + 3) ls (.long r :: rest))) : W p l e R s m args below meth c H locs cells slots Q (F0 m pc ls st0) := by
  subst hst
  exact va_calll (va_runS (As := As) (rest := rest) S hM cw ⟨PC.blind, PC.mk hB hP hS⟩ rfl hn hsize rfl (lv_room hW) hdg hf) hS (fun _ _ h => h) (fun _ h => h) (fun r1 _ t H1 locs1 ht _ hw hb1 _ _ hS1 => by rw [ht] at hb1; rw [hw]; exact kk H1 locs1 hb1 hS1)
theorem callV_v (S : CallFix p m c cc nL s args Ts own) (hB : BS E s s.heap) (hP : va_P E.1 vwCl (GW E X) H) (hS : va_S (GA E) s.heap H locs) {y : MethodName} {ws : List Cond} {rm : Room} {bytes : ByteArray} {maxL index n : Nat} {ret : Option FieldType} {As : List Value} {X' : Wd} {C : String} {b : Nat} (hrc : ∃ cell : Cell, H[b]? = some cell ∧ cell.vm.isStatics = false ∧ s.vm.findClass C = some cell.cls) (hM : Ctv l E y ws rm (.ref b :: As) X  X') (cw : CallW R s args own C index y bytes maxL ret ws rm 0 0 n) (hn : As.length = n) (hsize : ls.size = nL) {st0 : List Value} (hst : st0 = As.reverse ++ .ref b :: rest) (hW : (rest.map fun v => v.category).sum ≤ 8) (hdg : decode cc pc = .ok (.invokevirtual index, 3)) (hf : cells ≤ R.cells ∧ slots ≤ R.slots)
    (kk : ∀ (H1 : Heap) (locs1 : List Loc), va_P E.1 vwCl (GW E X') H1 → va_S (GA E) s.heap H1 locs1 → W p l e R s m args below meth c H1 locs1 cells slots Q (F0 m (pc + 3) ls (rest))) : W p l e R s m args below meth c H locs cells slots Q (F0 m pc ls st0) := by
  subst hst
  exact va_callv (va_runV (As := As) (rest := rest) S hM cw ⟨PC.blind, hrc, PC.mk hB hP hS⟩ rfl hn hsize rfl (lv_room hW) hdg hf) hS (fun _ _ h => h) (fun _ h => h) (fun _ t H1 locs1 ht _ _ hb1 _ _ hS1 => by rw [ht] at hb1; exact kk H1 locs1 hb1 hS1)
theorem callS_v (S : CallFix p m c cc nL s args Ts own) (hB : BS E s s.heap) (hP : va_P E.1 vwCl (GW E X) H) (hS : va_S (GA E) s.heap H locs) {y : MethodName} {ws : List Cond} {rm : Room} {bytes : ByteArray} {maxL index n : Nat} {ret : Option FieldType} {As : List Value} {X' : Wd} (hM : Ctv l E y ws rm (As) X  X') (cw : CallB R s args own index y bytes maxL ret ws rm 0 0 n ∧ (Cond.static y).before args s = true) (hn : As.length = n) (hsize : ls.size = nL) {st0 : List Value} (hst : st0 = As.reverse ++ rest) (hW : (rest.map fun v => v.category).sum ≤ 8) (hdg : decode cc pc = .ok (.invokestatic index, 3)) (hf : cells ≤ R.cells ∧ slots ≤ R.slots)
    (kk : ∀ (H1 : Heap) (locs1 : List Loc), va_P E.1 vwCl (GW E X') H1 → va_S (GA E) s.heap H1 locs1 → W p l e R s m args below meth c H1 locs1 cells slots Q (F0 m (pc + 3) ls (rest))) : W p l e R s m args below meth c H locs cells slots Q (F0 m pc ls st0) := by
  subst hst
  exact va_callv (va_runS (As := As) (rest := rest) S hM cw ⟨PC.blind, PC.mk hB hP hS⟩ rfl hn hsize rfl (lv_room hW) hdg hf) hS (fun _ _ h => h) (fun _ h => h) (fun _ t H1 locs1 ht _ _ hb1 _ _ hS1 => by rw [ht] at hb1; exact kk H1 locs1 hb1 hS1)
theorem callV_r (S : CallFix p m c cc nL s args Ts own) (hB : BS E s s.heap) (hP : va_P E.1 vwCl (GW E X) H) (hS : va_S (GA E) s.heap H locs) {y : MethodName} {ws : List Cond} {rm : Room} {bytes : ByteArray} {maxL index n : Nat} {ret : Option FieldType} {As : List Value} {X' : Wd} {r : Nat} {C : String} {b : Nat} (hrc : ∃ cell : Cell, H[b]? = some cell ∧ cell.vm.isStatics = false ∧ s.vm.findClass C = some cell.cls) (hM : Ctr l E y ws rm (.ref b :: As) X r X') (cw : CallW R s args own C index y bytes maxL ret ws rm 0 0 n) (hn : As.length = n) (hsize : ls.size = nL) {st0 : List Value} (hst : st0 = As.reverse ++ .ref b :: rest) (hW : (rest.map fun v => v.category).sum ≤ 8) (hdg : decode cc pc = .ok (.invokevirtual index, 3)) (hf : cells ≤ R.cells ∧ slots ≤ R.slots)
    (kk : ∀ (H1 : Heap) (locs1 : List Loc), va_P E.1 vwCl (GW E X') H1 → va_S (GA E) s.heap H1 locs1 → W p l e R s m args below meth c H1 locs1 cells slots Q (F0 m (pc + 3) ls (.ref r :: rest))) : W p l e R s m args below meth c H locs cells slots Q (F0 m pc ls st0) := by
  subst hst
  exact va_callr (va_runV (As := As) (rest := rest) S hM cw ⟨PC.blind, hrc, PC.mk hB hP hS⟩ rfl hn hsize rfl (lv_room hW) hdg hf) hS (fun _ _ h => h) (fun _ h => h) (fun _ r1 t H1 locs1 ht _ _ hb1 _ _ hS1 => by rw [ht] at hb1; rw [hb1.1]; exact kk H1 locs1 hb1.2 hS1)
theorem callS_r (S : CallFix p m c cc nL s args Ts own) (hB : BS E s s.heap) (hP : va_P E.1 vwCl (GW E X) H) (hS : va_S (GA E) s.heap H locs) {y : MethodName} {ws : List Cond} {rm : Room} {bytes : ByteArray} {maxL index n : Nat} {ret : Option FieldType} {As : List Value} {X' : Wd} {r : Nat} (hM : Ctr l E y ws rm (As) X r X') (cw : CallB R s args own index y bytes maxL ret ws rm 0 0 n ∧ (Cond.static y).before args s = true) (hn : As.length = n) (hsize : ls.size = nL) {st0 : List Value} (hst : st0 = As.reverse ++ rest) (hW : (rest.map fun v => v.category).sum ≤ 8) (hdg : decode cc pc = .ok (.invokestatic index, 3)) (hf : cells ≤ R.cells ∧ slots ≤ R.slots)
    (kk : ∀ (H1 : Heap) (locs1 : List Loc), va_P E.1 vwCl (GW E X') H1 → va_S (GA E) s.heap H1 locs1 → W p l e R s m args below meth c H1 locs1 cells slots Q (F0 m (pc + 3) ls (.ref r :: rest))) : W p l e R s m args below meth c H locs cells slots Q (F0 m pc ls st0) := by
  subst hst
  exact va_callr (va_runS (As := As) (rest := rest) S hM cw ⟨PC.blind, PC.mk hB hP hS⟩ rfl hn hsize rfl (lv_room hW) hdg hf) hS (fun _ _ h => h) (fun _ h => h) (fun _ r1 t H1 locs1 ht _ _ hb1 _ _ hS1 => by rw [ht] at hb1; rw [hb1.1]; exact kk H1 locs1 hb1.2 hS1)
end GR
theorem bind_some {α β : Type} {a : Option α} {f : α → Option β} {b : β} (h : a.bind f = some b) : ∃ x, a = some x ∧ f x = some b := Option.bind_eq_some_iff.mp h
/-- a place is looked at; a divisor; a truth value -/
def ck {α : Type} (i : Int32) (n : Nat) (k : Option α) : Option α := if i < 0 ∨ n ≤ i.toNatClampNeg then none else k
def ckn {α : Type} (i : Int32) (k : Option α) : Option α := if i = 0 then none else k
def cknl {α : Type} (i : Int64) (k : Option α) : Option α := if i = 0 then none else k
def ckb {α : Type} (i : Int32) (k : Option α) : Option α := if i = 0 ∨ i = 1 then k else none
theorem ck_some {α : Type} {i : Int32} {n : Nat} {k : Option α} {b : α} (h : ck i n k = some b) : vp_in i n ∧ k = some b := by
  unfold ck at h
  split at h
  · cases h
  · rename_i q; exact ⟨q, h⟩
theorem ckn_some {α : Type} {i : Int32} {k : Option α} {b : α} (h : ckn i k = some b) : ¬ i = 0 ∧ k = some b := by
  unfold ckn at h
  split at h
  · cases h
  · rename_i q; exact ⟨q, h⟩
theorem cknl_some {α : Type} {i : Int64} {k : Option α} {b : α} (h : cknl i k = some b) : ¬ i = 0 ∧ k = some b := by
  unfold cknl at h
  split at h
  · cases h
  · rename_i q; exact ⟨q, h⟩
theorem ckb_some {α : Type} {i : Int32} {k : Option α} {b : α} (h : ckb i k = some b) : (i = 0 ∨ i = 1) ∧ k = some b := by
  unfold ckb at h
  split at h
  · rename_i q; exact ⟨q, h⟩
  · cases h
theorem nz01 {i : Int32} (h : i = 0 ∨ i = 1) : narrow .boolean (.int i) = .int i := by rcases h with rfl | rfl <;> rfl
theorem fz01 {i : Int32} (h : i = 0 ∨ i = 1) : fits .boolean (.int i) = true := by rcases h with rfl | rfl <;> rfl
theorem s1 {α β : Type} {a c : α} {b d : β} (h : some (a, b) = some (c, d)) : a = c := by cases h; rfl
theorem s2 {α β : Type} {a c : α} {b d : β} (h : some (a, b) = some (c, d)) : b = d := by cases h; rfl
theorem s0 {α : Type} {a c : α} (h : some a = some c) : a = c := by cases h; rfl
theorem if_t {α : Type} {c : Prop} [Decidable c] {a b : α} {o : α} (hc : c) (h : (if c then a else b) = o) : a = o := by rw [if_pos hc] at h; exact h
theorem if_f {α : Type} {c : Prop} [Decidable c] {a b : α} {o : α} (hc : ¬ c) (h : (if c then a else b) = o) : b = o := by rw [if_neg hc] at h; exact h
theorem m_0_0 : ((0, 0) : Nat × Nat) ∈ ids := by decide +kernel
theorem m_0_1 : ((0, 1) : Nat × Nat) ∈ ids := by decide +kernel
theorem m_0_2 : ((0, 2) : Nat × Nat) ∈ ids := by decide +kernel
theorem m_0_3 : ((0, 3) : Nat × Nat) ∈ ids := by decide +kernel
theorem m_0_4 : ((0, 4) : Nat × Nat) ∈ ids := by decide +kernel
theorem m_1_0 : ((1, 0) : Nat × Nat) ∈ ids := by decide +kernel
theorem m_1_1 : ((1, 1) : Nat × Nat) ∈ ids := by decide +kernel
theorem m_2_0 : ((2, 0) : Nat × Nat) ∈ ids := by decide +kernel
theorem m_2_1 : ((2, 1) : Nat × Nat) ∈ ids := by decide +kernel
theorem m_2_2 : ((2, 2) : Nat × Nat) ∈ ids := by decide +kernel
theorem m_2_3 : ((2, 3) : Nat × Nat) ∈ ids := by decide +kernel
theorem m_2_4 : ((2, 4) : Nat × Nat) ∈ ids := by decide +kernel
theorem m_2_5 : ((2, 5) : Nat × Nat) ∈ ids := by decide +kernel
theorem m_3_0 : ((3, 0) : Nat × Nat) ∈ ids := by decide +kernel
theorem m_4_0 : ((4, 0) : Nat × Nat) ∈ ids := by decide +kernel
theorem m_4_1 : ((4, 1) : Nat × Nat) ∈ ids := by decide +kernel
theorem m_4_2 : ((4, 2) : Nat × Nat) ∈ ids := by decide +kernel
theorem m_4_3 : ((4, 3) : Nat × Nat) ∈ ids := by decide +kernel
theorem m_4_4 : ((4, 4) : Nat × Nat) ∈ ids := by decide +kernel
theorem m_4_5 : ((4, 5) : Nat × Nat) ∈ ids := by decide +kernel
theorem m_4_6 : ((4, 6) : Nat × Nat) ∈ ids := by decide +kernel
theorem m_5_0 : ((5, 0) : Nat × Nat) ∈ ids := by decide +kernel
theorem m_5_1 : ((5, 1) : Nat × Nat) ∈ ids := by decide +kernel
theorem m_5_2 : ((5, 2) : Nat × Nat) ∈ ids := by decide +kernel
theorem m_5_3 : ((5, 3) : Nat × Nat) ∈ ids := by decide +kernel
theorem m_5_4 : ((5, 4) : Nat × Nat) ∈ ids := by decide +kernel
theorem m_5_5 : ((5, 5) : Nat × Nat) ∈ ids := by decide +kernel
theorem m_5_6 : ((5, 6) : Nat × Nat) ∈ ids := by decide +kernel
theorem m_6_0 : ((6, 0) : Nat × Nat) ∈ ids := by decide +kernel
theorem m_6_1 : ((6, 1) : Nat × Nat) ∈ ids := by decide +kernel
theorem m_6_2 : ((6, 2) : Nat × Nat) ∈ ids := by decide +kernel
theorem m_6_3 : ((6, 3) : Nat × Nat) ∈ ids := by decide +kernel
theorem m_6_4 : ((6, 4) : Nat × Nat) ∈ ids := by decide +kernel
theorem m_6_5 : ((6, 5) : Nat × Nat) ∈ ids := by decide +kernel
theorem m_6_6 : ((6, 6) : Nat × Nat) ∈ ids := by decide +kernel
theorem m_7_0 : ((7, 0) : Nat × Nat) ∈ ids := by decide +kernel
theorem m_7_1 : ((7, 1) : Nat × Nat) ∈ ids := by decide +kernel
theorem m_7_2 : ((7, 2) : Nat × Nat) ∈ ids := by decide +kernel
theorem m_7_3 : ((7, 3) : Nat × Nat) ∈ ids := by decide +kernel
theorem m_7_4 : ((7, 4) : Nat × Nat) ∈ ids := by decide +kernel
theorem m_7_5 : ((7, 5) : Nat × Nat) ∈ ids := by decide +kernel
theorem m_7_6 : ((7, 6) : Nat × Nat) ∈ ids := by decide +kernel
theorem m_8_0 : ((8, 0) : Nat × Nat) ∈ ids := by decide +kernel
theorem m_8_1 : ((8, 1) : Nat × Nat) ∈ ids := by decide +kernel
theorem m_8_2 : ((8, 2) : Nat × Nat) ∈ ids := by decide +kernel
theorem m_8_3 : ((8, 3) : Nat × Nat) ∈ ids := by decide +kernel
theorem m_8_4 : ((8, 4) : Nat × Nat) ∈ ids := by decide +kernel
theorem m_8_5 : ((8, 5) : Nat × Nat) ∈ ids := by decide +kernel
theorem m_8_6 : ((8, 6) : Nat × Nat) ∈ ids := by decide +kernel
theorem m_9_0 : ((9, 0) : Nat × Nat) ∈ ids := by decide +kernel
theorem m_9_1 : ((9, 1) : Nat × Nat) ∈ ids := by decide +kernel
theorem m_9_2 : ((9, 2) : Nat × Nat) ∈ ids := by decide +kernel
theorem m_9_3 : ((9, 3) : Nat × Nat) ∈ ids := by decide +kernel
theorem m_9_4 : ((9, 4) : Nat × Nat) ∈ ids := by decide +kernel
theorem m_9_5 : ((9, 5) : Nat × Nat) ∈ ids := by decide +kernel
theorem m_9_6 : ((9, 6) : Nat × Nat) ∈ ids := by decide +kernel
theorem m_10_0 : ((10, 0) : Nat × Nat) ∈ ids := by decide +kernel
theorem m_10_1 : ((10, 1) : Nat × Nat) ∈ ids := by decide +kernel
theorem m_10_2 : ((10, 2) : Nat × Nat) ∈ ids := by decide +kernel
theorem m_10_3 : ((10, 3) : Nat × Nat) ∈ ids := by decide +kernel
theorem m_10_4 : ((10, 4) : Nat × Nat) ∈ ids := by decide +kernel
theorem m_10_5 : ((10, 5) : Nat × Nat) ∈ ids := by decide +kernel
theorem m_10_6 : ((10, 6) : Nat × Nat) ∈ ids := by decide +kernel
theorem m_11_0 : ((11, 0) : Nat × Nat) ∈ ids := by decide +kernel
theorem m_11_1 : ((11, 1) : Nat × Nat) ∈ ids := by decide +kernel
theorem m_11_2 : ((11, 2) : Nat × Nat) ∈ ids := by decide +kernel
theorem m_11_3 : ((11, 3) : Nat × Nat) ∈ ids := by decide +kernel
theorem m_11_4 : ((11, 4) : Nat × Nat) ∈ ids := by decide +kernel
theorem m_11_5 : ((11, 5) : Nat × Nat) ∈ ids := by decide +kernel
theorem m_11_6 : ((11, 6) : Nat × Nat) ∈ ids := by decide +kernel
theorem m_12_0 : ((12, 0) : Nat × Nat) ∈ ids := by decide +kernel
theorem m_12_1 : ((12, 1) : Nat × Nat) ∈ ids := by decide +kernel
theorem m_12_2 : ((12, 2) : Nat × Nat) ∈ ids := by decide +kernel
theorem m_12_3 : ((12, 3) : Nat × Nat) ∈ ids := by decide +kernel
theorem m_12_4 : ((12, 4) : Nat × Nat) ∈ ids := by decide +kernel
theorem m_12_5 : ((12, 5) : Nat × Nat) ∈ ids := by decide +kernel
theorem m_12_6 : ((12, 6) : Nat × Nat) ∈ ids := by decide +kernel
theorem m_13_0 : ((13, 0) : Nat × Nat) ∈ ids := by decide +kernel
theorem m_13_1 : ((13, 1) : Nat × Nat) ∈ ids := by decide +kernel
theorem m_13_2 : ((13, 2) : Nat × Nat) ∈ ids := by decide +kernel
theorem m_13_3 : ((13, 3) : Nat × Nat) ∈ ids := by decide +kernel
theorem m_13_4 : ((13, 4) : Nat × Nat) ∈ ids := by decide +kernel
theorem m_13_5 : ((13, 5) : Nat × Nat) ∈ ids := by decide +kernel
theorem m_13_6 : ((13, 6) : Nat × Nat) ∈ ids := by decide +kernel
theorem m_14_0 : ((14, 0) : Nat × Nat) ∈ ids := by decide +kernel
theorem m_14_1 : ((14, 1) : Nat × Nat) ∈ ids := by decide +kernel
theorem m_14_2 : ((14, 2) : Nat × Nat) ∈ ids := by decide +kernel
theorem m_14_3 : ((14, 3) : Nat × Nat) ∈ ids := by decide +kernel
theorem m_14_4 : ((14, 4) : Nat × Nat) ∈ ids := by decide +kernel
theorem m_14_5 : ((14, 5) : Nat × Nat) ∈ ids := by decide +kernel
theorem m_14_6 : ((14, 6) : Nat × Nat) ∈ ids := by decide +kernel
theorem m_15_0 : ((15, 0) : Nat × Nat) ∈ ids := by decide +kernel
theorem m_15_1 : ((15, 1) : Nat × Nat) ∈ ids := by decide +kernel
theorem m_15_2 : ((15, 2) : Nat × Nat) ∈ ids := by decide +kernel
theorem m_15_3 : ((15, 3) : Nat × Nat) ∈ ids := by decide +kernel
theorem m_15_4 : ((15, 4) : Nat × Nat) ∈ ids := by decide +kernel
theorem m_15_5 : ((15, 5) : Nat × Nat) ∈ ids := by decide +kernel
theorem m_15_6 : ((15, 6) : Nat × Nat) ∈ ids := by decide +kernel
theorem m_16_0 : ((16, 0) : Nat × Nat) ∈ ids := by decide +kernel
theorem m_16_1 : ((16, 1) : Nat × Nat) ∈ ids := by decide +kernel
theorem m_16_2 : ((16, 2) : Nat × Nat) ∈ ids := by decide +kernel
theorem m_16_3 : ((16, 3) : Nat × Nat) ∈ ids := by decide +kernel
theorem m_16_4 : ((16, 4) : Nat × Nat) ∈ ids := by decide +kernel
theorem m_16_5 : ((16, 5) : Nat × Nat) ∈ ids := by decide +kernel
theorem m_16_6 : ((16, 6) : Nat × Nat) ∈ ids := by decide +kernel
theorem m_17_0 : ((17, 0) : Nat × Nat) ∈ ids := by decide +kernel
theorem m_17_1 : ((17, 1) : Nat × Nat) ∈ ids := by decide +kernel
theorem m_17_2 : ((17, 2) : Nat × Nat) ∈ ids := by decide +kernel
theorem m_17_3 : ((17, 3) : Nat × Nat) ∈ ids := by decide +kernel
theorem m_17_4 : ((17, 4) : Nat × Nat) ∈ ids := by decide +kernel
theorem m_17_5 : ((17, 5) : Nat × Nat) ∈ ids := by decide +kernel
theorem m_17_6 : ((17, 6) : Nat × Nat) ∈ ids := by decide +kernel
theorem m_18_0 : ((18, 0) : Nat × Nat) ∈ ids := by decide +kernel
theorem m_18_1 : ((18, 1) : Nat × Nat) ∈ ids := by decide +kernel
theorem m_19_0 : ((19, 0) : Nat × Nat) ∈ ids := by decide +kernel
theorem m_19_1 : ((19, 1) : Nat × Nat) ∈ ids := by decide +kernel
theorem m_20_0 : ((20, 0) : Nat × Nat) ∈ ids := by decide +kernel
theorem m_20_1 : ((20, 1) : Nat × Nat) ∈ ids := by decide +kernel
theorem m_21_0 : ((21, 0) : Nat × Nat) ∈ ids := by decide +kernel
theorem m_21_1 : ((21, 1) : Nat × Nat) ∈ ids := by decide +kernel
theorem m_22_0 : ((22, 0) : Nat × Nat) ∈ ids := by decide +kernel
theorem m_22_1 : ((22, 1) : Nat × Nat) ∈ ids := by decide +kernel
theorem m_22_2 : ((22, 2) : Nat × Nat) ∈ ids := by decide +kernel
theorem m_22_3 : ((22, 3) : Nat × Nat) ∈ ids := by decide +kernel
theorem m_22_4 : ((22, 4) : Nat × Nat) ∈ ids := by decide +kernel
theorem m_22_5 : ((22, 5) : Nat × Nat) ∈ ids := by decide +kernel
theorem m_22_6 : ((22, 6) : Nat × Nat) ∈ ids := by decide +kernel
theorem m_22_7 : ((22, 7) : Nat × Nat) ∈ ids := by decide +kernel
theorem m_22_8 : ((22, 8) : Nat × Nat) ∈ ids := by decide +kernel
theorem m_22_9 : ((22, 9) : Nat × Nat) ∈ ids := by decide +kernel
theorem m_22_10 : ((22, 10) : Nat × Nat) ∈ ids := by decide +kernel
theorem m_22_11 : ((22, 11) : Nat × Nat) ∈ ids := by decide +kernel
theorem m_22_12 : ((22, 12) : Nat × Nat) ∈ ids := by decide +kernel
def FUEL : Nat := 1000
def ckq {α : Type} (a b : Nat) (k : Option α) : Option α := if a = b then none else k
theorem ckq_some {α : Type} {a b : Nat} {k : Option α} {x : α} (h : ckq a b k = some x) : a ≠ b ∧ k = some x := by
  unfold ckq at h
  split at h
  · cases h
  · rename_i q; exact ⟨q, h⟩
theorem vp_lt {i : Int32} {n : Nat} (h : vp_in i n) : i.toNatClampNeg < n := Nat.not_le.mp fun q => h (Or.inr q)
theorem rec_room (c l m k : Nat) (h : 8 + (m + 11) = c := by rfl) : 8 + (m + 11) + (l + k * c) ≤ l + (k + 1) * c := by
  rw [h, Nat.succ_mul]; omega
theorem lens_all2 (X : Wd) (o q : Nat) : va_up (va_up X o (X o)) q (X q) = X := by rw [lens_all, lens_all]
theorem arr_put (X : Wd) (o d : Nat) (r : Nat → Int32) (k : Nat) (v : Int32) : wo (va_up X o (va_up (X o) d r)) o d k v = va_up X o (va_up (X o) d (upd r k v)) := by
  rw [lens_put]
  unfold ob
  rw [va_up_self]
  congr 1
  funext j
  by_cases h : j = d
  · subst h; rw [va_up_self, va_up_self]
  · rw [va_up_ne _ _ h, va_up_ne _ _ h, va_up_ne _ _ h]
theorem arr_all (X : Wd) (o d : Nat) : va_up X o (va_up (X o) d (X o d)) = X := by
  have h : va_up (X o) d (X o d) = X o := by
    funext j
    by_cases h : j = d
    · subst h; rw [va_up_self]
    · rw [va_up_ne _ _ h]
  rw [h, lens_all]
theorem arr_lens (σ : Wd) (o : Nat) (z : Ob) (c : Nat) (r : Nat → Int32) : va_up (va_up σ o z) o (va_up (va_up σ o z o) c r) = va_up σ o (va_up z c r) := by rw [va_up_self, lens_up]
