/-! a machine without cells: frames as a list, the handlers that an instruction sees as a list; a step at a time -/
/-- procedure, place, variable, node, what was caught, what is held -/
abbrev aF : Type := Nat × Nat × Int × Int × (Nat → Option Int) × (Nat → Option Int)
/-- frames, does it fly, how many nodes have begun here, does it run, numbers: by the machine's own cells (0 16 what flies; 1 0 made, 1 1 suppressed; 2 kinds; 3 causes; 13 told; 14 variables; 15 slots; 16 begun; 17 called) -/
abbrev aX : Type := List aF × Bool × Nat × Bool × yM
def a_val (Y : yM) (o : Int) : Int := if 100 ≤ o then Y 14 (o - 100).toNat else o
def a_kd (Y : yM) (e : Int) : Int := if e < 3000 then Y 2 e.toNat else 0
def a_cs (Y : yM) (e : Int) : Int := if e < 3000 then Y 3 e.toNat else 0
def a_behind (Y : yM) (e : Int) : Nat → Int → Bool
  | 0, _ => false
  | n + 1, x => if x = -1 then false else if x = e then true else a_behind Y e n (a_cs Y x)
def a_fly (Y : yM) (e : Int) : yM := yU Y 0 16 e
def a_new (Y : yM) (k c : Int) : yM := a_fly (yU (yU (yU Y 2 (Y 1 0).toNat k) 3 (Y 1 0).toNat c) 1 0 (Y 1 0 + 1)) (Y 1 0)
def a_begin (Y : yM) (n : Nat) : yM := yU (yU Y 13 3 (Y 13 3 + 1)) 16 n (Y 16 n + 1)
def a_enterY (Y : yM) (q : Nat) (l : Int) : yM := yU (yU (yU Y 13 5 (Y 13 5 + 1)) 17 q (Y 17 q + 1)) 13 7 (if l ≤ Y 13 7 then Y 13 7 else l)
def a_upd (c : Nat → Option Int) (x : Nat) (v : Int) : Nat → Option Int := fun y => if y = x then some v else c y
section AM
variable (K : Nat → Nat → Nat → Int) (BG : Nat → Nat → List Nat) (CH : Nat → Nat → List (Int × Int)) (bl : Int → Int → Bool) (mo de : Int)
/-- the first handler that fits -/
def a_look (k : Int) : List (Int × Int) → Option Int
  | [] => none
  | (c, h) :: r => if c = -1 ∨ bl k c = true then some h else a_look k r
def a_at (f : aF) (r : List aF) (j : Nat) (Y : yM) : aX := ((f.1, j, f.2.2) :: r, false, 0, true, Y)
def a_throw (f : aF) (r : List aF) (Y : yM) : aX := (f :: r, true, 0, true, Y)
def a_enter (f : aF) (r : List aF) (Y : yM) (q v nd : Int) : aX :=
  if de ≤ (r.length : Int) + 1 then a_throw f r (a_new Y 1 (-1)) else ((q.toNat, 0, v, nd, (fun _ => none), (fun _ => none)) :: f :: r, false, 0, true, a_enterY Y q.toNat ((r.length : Int) + 2))
def a_op (f : aF) (r : List aF) (Y : yM) (o x y z nd : Int) : Option aX :=
  if o = 1 then some (a_at f r (f.2.1 + 1) (yU Y 14 x.toNat (a_val Y y)))
  else if o = 2 then some (a_at f r (f.2.1 + 1) (yU Y 14 x.toNat (Y 14 x.toNat + a_val Y y)))
  else if o = 3 then (if yw (a_val Y y) = 0 then some (a_throw f r (a_new Y 3 (-1))) else some (a_at f r (f.2.1 + 1) (yU Y 14 x.toNat (ydiv (Y 14 x.toNat) (a_val Y y)))))
  else if o = 4 then some (a_at f r (f.2.1 + 1) (yU Y 13 4 (Y 13 4 + 1)))
  else if o = 5 then some (a_at f r (if 0 < yw (a_val Y y) then f.2.1 + 1 else x.toNat) Y)
  else if o = 6 then some (a_at f r x.toNat Y)
  else if o = 7 then some (a_at (f.1, f.2.1, f.2.2.1, f.2.2.2.1, f.2.2.2.2.1, a_upd f.2.2.2.2.2 y.toNat (a_val Y x)) r (f.2.1 + 1) Y)
  else if o = 8 then (match f.2.2.2.2.2 x.toNat with
    | none => none
    | some v => match r with
      | [] => some ([], false, 0, false, yU (yU Y 13 0 0) 13 1 v)
      | g :: r' => some (a_at g r' (g.2.1 + 1) (if 0 ≤ f.2.2.1 then yU Y 14 f.2.2.1.toNat v else Y)))
  else if o = 9 then some (a_enter de f r Y y x nd)
  else if o = 10 then some (a_throw f r (a_new Y x (-1)))
  else if o = 11 then (if 0 < Y 1 0 then some (a_at (f.1, f.2.1, f.2.2.1, f.2.2.2.1, a_upd f.2.2.2.2.1 x.toNat (Y 0 16), f.2.2.2.2.2) r (f.2.1 + 1) Y) else none)
  else if o = 12 then (f.2.2.2.2.1 x.toNat).map fun e => a_throw f r (a_fly Y e)
  else if o = 13 then (f.2.2.2.2.1 z.toNat).map fun e => a_throw f r (a_new Y x e)
  else if o = 14 then (f.2.2.2.2.1 y.toNat).map fun e => a_at f r (f.2.1 + 1) (yU Y 15 x.toNat e)
  else if o = 15 then (f.2.2.2.2.1 y.toNat).map fun e => if Y 15 x.toNat = -1 then a_at f r (f.2.1 + 1) Y else if a_behind Y e 3000 (Y 15 x.toNat) = true then a_throw f r (a_new Y 2 (-1)) else a_at f r (f.2.1 + 1) (yU Y 3 e.toNat (Y 15 x.toNat))
  else if o = 16 then some (if Y 15 x.toNat = -1 then a_throw f r (a_new Y 4 (-1)) else a_throw f r (a_fly Y (Y 15 x.toNat)))
  else if o = 17 ∨ o = 18 then some (a_enter de f r Y x (-1) nd)
  else if o = 19 then if 0 < Y 1 0 then (f.2.2.2.2.1 x.toNat).map fun e => a_throw f r (a_fly (if Y 0 16 = e then Y else yU Y 1 1 (Y 1 1 + 1)) e) else none
  else if o = 20 then some (a_at f r (f.2.1 + 1) Y)
  else none
def a_step (X : aX) : Option aX :=
  if X.2.2.2.1 = false then none
  else if X.2.1 = true then (match X.1 with
    | [] => some ([], false, 0, false, yU (yU X.2.2.2.2 13 0 1) 13 2 (X.2.2.2.2 0 16))
    | f :: r => match a_look bl (a_kd X.2.2.2.2 (X.2.2.2.2 0 16)) (CH f.1 f.2.1) with
      | some h => some (a_at f r h.toNat X.2.2.2.2)
      | none => some (r, true, 0, true, X.2.2.2.2))
  else match X.1 with
    | [] => none
    | f :: r => match (BG f.1 f.2.1)[X.2.2.1]? with
      | some n => if mo ≤ X.2.2.2.2 13 3 then some (f :: r, false, X.2.2.1, false, X.2.2.2.2) else some (f :: r, false, X.2.2.1 + 1, true, a_begin X.2.2.2.2 n)
      | none => a_op de f r X.2.2.2.2 (K f.1 1 f.2.1) (K f.1 2 f.2.1) (K f.1 3 f.2.1) (K f.1 4 f.2.1) (K f.1 5 f.2.1)
def a_run : Nat → aX → Option aX
  | 0, X => some X
  | t + 1, X => (a_step K BG CH bl mo de X).bind (a_run t)
theorem a_run_add {s t : Nat} {X X' : aX} (h : a_run K BG CH bl mo de s X = some X') : a_run K BG CH bl mo de (s + t) X = a_run K BG CH bl mo de t X' := by
  induction s generalizing X with
  | zero =>
    cases h
    rw [Nat.zero_add]
  | succ s ih =>
    rw [Nat.succ_add]
    show (a_step K BG CH bl mo de X).bind (a_run K BG CH bl mo de (s + t)) = _
    have h' : (a_step K BG CH bl mo de X).bind (a_run K BG CH bl mo de s) = some X' := h
    cases e : a_step K BG CH bl mo de X with
    | none => rw [e] at h'; cases h'
    | some Z =>
      rw [e] at h'
      exact ih h'
end AM
