/-! the world that the law starts with -/
def rZ : Nat → Int32 := fun _ => 0
def rA : Nat → Int32 := fun k => if k = 16 then -4 else 0
def rB : Nat → Int32 := fun k => if k = 4 then 4 else 0
def rC : Nat → Int32 := fun k => if k = 2 then -4 else 0
def rD : Nat → Int32 := fun k => if k = 0 then -4 else 0
def rE : Nat → Int32 := (upd (upd (upd (upd (upd (upd (upd (upd (fun _ => 0) 0 (0 : Int32)) 1 (5 : Int32)) 2 (10 : Int32)) 3 (15 : Int32)) 4 (19 : Int32)) 5 (24 : Int32)) 6 (29 : Int32)) 7 (33 : Int32))
def rL : Nat → Int32 := (upd (upd (upd (upd (upd (upd (upd (upd (upd (upd (upd (upd (upd (upd (upd (upd (upd (upd (upd (upd (upd (upd (upd (upd (upd (upd (upd (upd (upd (upd (upd (upd (upd (fun _ => 0) 0 (112 : Int32)) 1 (108 : Int32)) 2 (97 : Int32)) 3 (105 : Int32)) 4 (110 : Int32)) 5 (115 : Int32)) 6 (112 : Int32)) 7 (105 : Int32)) 8 (116 : Int32)) 9 (101 : Int32)) 10 (99 : Int32)) 11 (108 : Int32)) 12 (111 : Int32)) 13 (115 : Int32)) 14 (101 : Int32)) 15 (119 : Int32)) 16 (105 : Int32)) 17 (100 : Int32)) 18 (101 : Int32)) 19 (103 : Int32)) 20 (117 : Int32)) 21 (101 : Int32)) 22 (115 : Int32)) 23 (116 : Int32)) 24 (104 : Int32)) 25 (101 : Int32)) 26 (100 : Int32)) 27 (103 : Int32)) 28 (101 : Int32)) 29 (103 : Int32)) 30 (97 : Int32)) 31 (116 : Int32)) 32 (101 : Int32))
def rN : Nat → Int32 := (upd (upd (upd (upd (fun _ => 0) 0 (-4 : Int32)) 1 (-4 : Int32)) 2 (-4 : Int32)) 3 (-4 : Int32))
def X00 : Wd := fun o c => if o = 22 then (if c = 0 then rA else if c = 4 then rE else if c = 5 then rL else if c = 10 then rN else rZ) else if c = 0 then (if o = 1 then rB else if o = 3 then rD else if o < 4 then rZ else if o < 18 then rC else rZ) else rZ
def adr (h g : Nat) (u : Nat → Nat → Nat) (v : Nat → Nat) : Nat → Nat → Nat := fun o c => if o = 0 then (if c = 0 then h else if c = 1 then u 0 6 else if c = 2 then u 0 4 else if c = 3 then u 0 5 else u 0 7) else if o = 1 then (if c = 0 then u 0 0 else u 1 (c - 1)) else if o = 2 then (if c = 0 then u 0 8 else u 5 (c - 1)) else if o = 3 then u 0 9 else if o < 7 then (if c = 0 then u 0 (o - 3) else u (o - 2) (c - 1)) else if o < 22 then (if c = 0 then u 7 (o - 7) else u (o + 1) (c - 1)) else (if c = 0 then g else v (c - 1))
def aids : List (Nat × Nat) := [(0, 0), (1, 0), (1, 1), (4, 0), (4, 1), (4, 2), (4, 3), (4, 4), (4, 5), (4, 6), (5, 0), (5, 1), (5, 2), (5, 3), (5, 4), (5, 5), (5, 6), (6, 0), (6, 1), (6, 2), (6, 3), (6, 4), (6, 5), (6, 6), (0, 2), (0, 3), (0, 1), (0, 4), (2, 0), (2, 1), (2, 2), (2, 3), (2, 4), (2, 5), (3, 0), (7, 0), (7, 1), (7, 2), (7, 3), (7, 4), (7, 5), (7, 6), (8, 0), (8, 1), (8, 2), (8, 3), (8, 4), (8, 5), (8, 6), (9, 0), (9, 1), (9, 2), (9, 3), (9, 4), (9, 5), (9, 6), (10, 0), (10, 1), (10, 2), (10, 3), (10, 4), (10, 5), (10, 6), (11, 0), (11, 1), (11, 2), (11, 3), (11, 4), (11, 5), (11, 6), (12, 0), (12, 1), (12, 2), (12, 3), (12, 4), (12, 5), (12, 6), (13, 0), (13, 1), (13, 2), (13, 3), (13, 4), (13, 5), (13, 6), (14, 0), (14, 1), (14, 2), (14, 3), (14, 4), (14, 5), (14, 6), (15, 0), (15, 1), (15, 2), (15, 3), (15, 4), (15, 5), (15, 6), (16, 0), (16, 1), (16, 2), (16, 3), (16, 4), (16, 5), (16, 6), (17, 0), (17, 1), (17, 2), (17, 3), (17, 4), (17, 5), (17, 6), (18, 0), (18, 1), (19, 0), (19, 1), (20, 0), (20, 1), (21, 0), (21, 1), (22, 0), (22, 1), (22, 2), (22, 3), (22, 4), (22, 5), (22, 6), (22, 7), (22, 8), (22, 9), (22, 10), (22, 11), (22, 12)]
theorem aids_in : ∀ p ∈ ids, p ∈ aids := by decide +kernel
theorem arr_eq {cA : ClassId} {n : Nat} {F G : Nat → Value} (h : ∀ j, j < n → F j = G j) : arrV cA n F = arrV cA n G := by
  unfold arrV
  congr 1
  congr 1
  funext j
  exact h j.1 j.2
theorem arq_eq {D : va_G} {cl : List vw_C} {a : Nat} {cA : ClassId} {n : Nat} {f g : Nat → Option Nat} {H : Heap} (h : va_at D cl (a, .inl (cA, n, .inr (.inr (.inr (.inr f))))) H) (e : ∀ j, j < n → f j = g j) : va_at D cl (a, .inl (cA, n, .inr (.inr (.inr (.inr g))))) H := by
  show H[a]? = some (arrV cA n (fun j => va_rf (g j)))
  rw [arr_eq (G := fun j => va_rf (f j)) (fun j hj => by rw [e j hj])]
  exact h
abbrev stW (E : En) (h g : Nat) (u : Nat → Nat → Nat) (v : Nat → Nat) : va_W := nX6 E h u ++ nX7 E g v
set_option maxHeartbeats 8000000 in
set_option maxRecDepth 100000 in
theorem st_fst (D : va_G) (cy : Nat → ClassId) (kS vS : Nat → Nat) (ad0 : Nat → Nat → Nat) (h g : Nat) (u : Nat → Nat → Nat) (v : Nat → Nat) : (stW (D, cy, ad0, kS, vS) h g u v).map Prod.fst = aids.map (fun p => adr h g u v p.1 p.2) := rfl
