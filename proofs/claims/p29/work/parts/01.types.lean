/-! A MODEL OF FRAMES: what a stretch of bytecode does, as a function on lists (whole values; a reference is the number of a cell, from 0; the script is a value of its own, .retAddr) -/
/-- a cell: an object of a class; an int[]; a boolean[]; a row of references -/
abbrev zO : Type := (Nat × List Value) ⊕ (List Int32 ⊕ (List Int32 ⊕ (Nat × List (Option Nat))))
abbrev zL : Type := Nat → Option Value
/-- an instruction: pc, length, number, operands -/
abbrev zI : Type := Nat × Nat × Nat × Nat × Nat × Nat × Nat
/-- how it came out: the value, the cells, how many cells and slots were made -/
abbrev zR : Type := Option Value × List zO × Nat × Nat
abbrev zM : Type := List zI × List (List Nat) × Nat
abbrev zT : Type := zL × List Value × List zO
def zc (x : Nat) : Int32 := Int32.ofInt ((x : Int) - 2147483648)
def zcl (x : Nat) : Int64 := Int64.ofInt ((x : Int) - 9223372036854775808)
/-- the component type of a row -/
def zTY (t : Nat) : FieldType := match t with
  | 0 => .int
  | 1 => .object "UnwindTower$Code"
  | 2 => .object "UnwindTower$Place"
  | 3 => .object "UnwindTower$Frame"
  | 4 => .array .int
  | _ => .boolean
/-- the class of what may lie in it -/
def zEC (t : Nat) : Nat := match t with
  | 1 => 0
  | 2 => 5
  | _ => 3
/-- how many words a stack takes -/
def zwd (S : List Value) : Nat := (S.map fun v => v.category).sum
section ZQ
variable {α β : Type}
def zq_i (S : List Value) (k : Int32 → List Value → Option β) : Option β := match S with
  | .int x :: S => k x S
  | _ => none
def zq_l (S : List Value) (k : Int64 → List Value → Option β) : Option β := match S with
  | .long x :: S => k x S
  | _ => none
def zq_r (S : List Value) (k : Nat → List Value → Option β) : Option β := match S with
  | .ref a :: S => k a S
  | _ => none
/-- a value of one slot -/
def zq_v (S : List Value) (k : Value → List Value → Option β) : Option β := match S with
  | .int x :: S => k (.int x) S
  | .ref x :: S => k (.ref x) S
  | .null :: S => k .null S
  | .retAddr x :: S => k (.retAddr x) S
  | _ => none
def zq_b (b : Bool) (k : Option β) : Option β := match b with
  | true => k
  | false => none
def zq_n (l : List α) (j : Nat) (k : α → Option β) : Option β := match l[j]? with
  | some v => k v
  | none => none
def zq_o (h : List zO) (a c : Nat) (k : List Value → Option β) : Option β := match h[a]? with
  | some (.inl (c', fs)) => zq_b (Nat.beq c' c) (k fs)
  | _ => none
def zq_a (h : List zO) (a : Nat) (k : List Int32 → Option β) : Option β := match h[a]? with
  | some (.inr (.inl xs)) => k xs
  | _ => none
def zq_z (h : List zO) (a : Nat) (k : List Int32 → Option β) : Option β := match h[a]? with
  | some (.inr (.inr (.inl xs))) => k xs
  | _ => none
def zq_q (h : List zO) (a : Nat) (k : Nat → List (Option Nat) → Option β) : Option β := match h[a]? with
  | some (.inr (.inr (.inr (t, xs)))) => k t xs
  | _ => none
/-- the index of a place in a row -/
def zq_x (i : Int32) (n : Nat) (k : Nat → Option β) : Option β := zq_b (and (decide (0 ≤ i.toInt)) (decide (i.toInt.toNat < n))) (k i.toInt.toNat)
def zq_m (o : Option α) (k : α → Option β) : Option β := match o with
  | some v => k v
  | none => none
end ZQ
/-- a long that begins ahead of a slot is gone when that slot is written -/
def zL_cut (L : zL) (i j : Nat) : Option Value := match L j with
  | some (.long x) => if j + 1 = i then none else some (.long x)
  | w => w
def zL_set (L : zL) (i : Nat) (v : Value) : zL := fun j => if j = i then some v else zL_cut L i j
def zL_set2 (L : zL) (i : Nat) (v : Value) : zL := fun j => if j = i then some v else if j = i + 1 then none else zL_cut L i j
/-- does a value fit: 0 int, 1 boolean, 2 a reference, 3 long -/
def zfit (t : Nat) (v : Value) : Bool := match t, v with
  | 0, .int _ => true
  | 1, .int x => or (x == 0) (x == 1)
  | 2, .ref _ => true
  | 2, .null => true
  | 2, .retAddr _ => true
  | 3, .long _ => true
  | _, _ => false
def zrel (c : Nat) (x y : Int32) : Bool := match c with
  | 0 => decide (x = y)
  | 1 => !(decide (x = y))
  | 2 => decide (x < y)
  | 3 => decide (y ≤ x)
  | 4 => decide (y < x)
  | _ => decide (x ≤ y)
def zisA (h : List zO) (a : Nat) : Bool := match h[a]? with
  | some (.inr (.inl _)) => true
  | _ => false
def zisO (h : List zO) (a c : Nat) : Bool := match h[a]? with
  | some (.inl (c', _)) => Nat.beq c' c
  | _ => false
/-- may it lie in a row of this type -/
def zel (h : List zO) (t : Nat) (v : Value) : Option (Option Nat) := match v with
  | .ref a => cond (cond (Nat.beq t 4) (zisA h a) (zisO h a (zEC t))) (some (some a)) none
  | _ => none
def zrf (v : Option Nat) : Value := match v with
  | some a => .ref a
  | none => .null
/-- a row into another one -/
def zcpy {α : Type} (xs ys : List α) (s d n : Nat) : List α := ys.take d ++ (xs.drop s).take n ++ ys.drop (d + n)
def zallA (h : List zO) (xs : List (Option Nat)) : Bool := xs.all fun v => match v with
  | some k => zisA h k
  | none => true
def zcopy (h : List zO) (a s b d n : Nat) : Option (List zO) := match h[a]?, h[b]? with
  | some (.inr (.inl xs)), some (.inr (.inl ys)) => zq_b (and (decide (s + n ≤ xs.length)) (decide (d + n ≤ ys.length))) (some (h.set b (.inr (.inl (zcpy xs ys s d n)))))
  | some (.inr (.inr (.inr (t, xs)))), some (.inr (.inr (.inr (t', ys)))) => zq_b (and (and (Nat.beq t 4) (Nat.beq t' 4)) (and (and (decide (s + n ≤ xs.length)) (decide (d + n ≤ ys.length))) (zallA h xs))) (some (h.set b (.inr (.inr (.inr (4, zcpy xs ys s d n))))))
  | _, _ => none
abbrev zF : Type := zL → List Value → List zO → Option zT
def zo_push (v : Value) : zF := fun L S h => some (L, v :: S, h)
def zo_ld (t i : Nat) : zF := fun L S h => zq_m (L i) fun v => zq_b (zfit t v) (some (L, v :: S, h))
def zo_st (t i : Nat) : zF := fun L S h => zq_v S fun v S => zq_b (zfit t v) (some (zL_set L i v, S, h))
def zo_lst (i : Nat) : zF := fun L S h => zq_l S fun x S => some (zL_set2 L i (.long x), S, h)
def zo_inc (i : Nat) (v : Int32) : zF := fun L S h => match L i with
  | some (.int x) => some (zL_set L i (.int (x + v)), S, h)
  | _ => none
def zo_bin (f : Int32 → Int32 → Int32) : zF := fun L S h => zq_i S fun y S => zq_i S fun x S => some (L, .int (f x y) :: S, h)
def zo_div (f : Int32 → Int32 → Int32) : zF := fun L S h => zq_i S fun y S => zq_i S fun x S => zq_b (!(decide (y = 0))) (some (L, .int (f x y) :: S, h))
def zshl (x y : Int32) : Int32 := x <<< (y &&& 31)
def zshr (x y : Int32) : Int32 := x >>> (y &&& 31)
def zrem (x y : Int32) : Int32 := x - x / y * y
def zo_i2l : zF := fun L S h => zq_i S fun x S => some (L, .long x.toInt64 :: S, h)
def zo_lbin (f : Int64 → Int64 → Int64) : zF := fun L S h => zq_l S fun y S => zq_l S fun x S => some (L, .long (f x y) :: S, h)
def zo_lcmp : zF := fun L S h => zq_l S fun y S => zq_l S fun x S => some (L, .int (lg_cmp x y) :: S, h)
def zo_dup : zF := fun L S h => zq_v S fun v S => some (L, v :: v :: S, h)
def zo_dup2 : zF := fun L S h => zq_v S fun b S => zq_v S fun a S => some (L, b :: a :: b :: a :: S, h)
def zo_pop : zF := fun L S h => zq_v S fun _ S => some (L, S, h)
def zo_get (c f : Nat) : zF := fun L S h => zq_r S fun a S => zq_o h a c fun fs => zq_n fs f fun v => some (L, v :: S, h)
def zo_put (c f z : Nat) : zF := fun L S h => match S with
  | v :: .ref a :: S => zq_b (zfit z v) (zq_o h a c fun fs => zq_b (decide (f < fs.length)) (some (L, S, h.set a (.inl (c, fs.set f v)))))
  | _ => none
def zo_iald (sc : List Int32) : zF := fun L S h => zq_i S fun i S => match S with
  | .retAddr _ :: S => zq_x i sc.length fun j => zq_n sc j fun x => some (L, .int x :: S, h)
  | .ref a :: S => zq_a h a fun xs => zq_x i xs.length fun j => zq_n xs j fun x => some (L, .int x :: S, h)
  | _ => none
def zo_iast : zF := fun L S h => zq_i S fun v S => zq_i S fun i S => zq_r S fun a S => zq_a h a fun xs => zq_x i xs.length fun j => some (L, S, h.set a (.inr (.inl (xs.set j v))))
def zo_aald : zF := fun L S h => zq_i S fun i S => zq_r S fun a S => zq_q h a fun _ xs => zq_x i xs.length fun j => zq_n xs j fun x => some (L, zrf x :: S, h)
def zo_aast : zF := fun L S h => match S with
  | v :: .int i :: .ref a :: S => zq_q h a fun t xs => zq_x i xs.length fun j => zq_m (zel h t v) fun x => some (L, S, h.set a (.inr (.inr (.inr (t, xs.set j x)))))
  | _ => none
def zlen (o : zO) : Option Nat := match o with
  | .inr (.inl xs) => some xs.length
  | .inr (.inr (.inl xs)) => some xs.length
  | .inr (.inr (.inr (_, xs))) => some xs.length
  | _ => none
def zo_alen (sc : List Int32) : zF := fun L S h => match S with
  | .retAddr _ :: S => some (L, .int (Int32.ofNat sc.length) :: S, h)
  | .ref a :: S => zq_m h[a]? fun o => zq_m (zlen o) fun n => some (L, .int (Int32.ofNat n) :: S, h)
  | _ => none
def zo_zald : zF := fun L S h => zq_i S fun i S => zq_r S fun a S => zq_z h a fun xs => zq_x i xs.length fun j => zq_n xs j fun x => some (L, .int x :: S, h)
def zo_zast : zF := fun L S h => zq_i S fun v S => zq_i S fun i S => zq_r S fun a S => zq_z h a fun xs => zq_x i xs.length fun j => zq_b (or (v == 0) (v == 1)) (some (L, S, h.set a (.inr (.inr (.inl (xs.set j v))))))
def zo_oini (d : Nat) : zF := fun L S h => zq_r S fun a S => zq_b (and (decide (a < h.length)) (and (Nat.ble 1 d) (Nat.ble (zwd S) 8))) (some (L, S, h))
def zo_copy (d : Nat) : zF := fun L S h => match S with
  | .int n :: .int dp :: .ref b :: .int sp :: .ref a :: S => zq_b (and (and (decide (0 ≤ n.toInt)) (and (decide (0 ≤ dp.toInt)) (decide (0 ≤ sp.toInt)))) (and (Nat.ble 1 d) (Nat.ble (zwd S) 8))) (zq_m (zcopy h a sp.toInt.toNat b dp.toInt.toNat n.toInt.toNat) fun h' => some (L, S, h'))
  | _ => none
def zo_min (d : Nat) : zF := fun L S h => zq_i S fun y S => zq_i S fun x S => zq_b (and (Nat.ble 1 d) (Nat.ble (zwd S) 8)) (some (L, .int (if y < x then y else x) :: S, h))
/-- an instruction that goes on to the next one and makes no cell -/
def z1a (op x y : Nat) : zF := cond (Nat.ble op 11) (cond (Nat.ble op 3) (cond (Nat.ble op 2) (zo_push (.int (zc x))) (zo_push (.long (zcl x)))) (cond (Nat.ble op 7) (cond (Nat.ble op 5) (zo_push .null) (zo_ld 0 x)) (cond (Nat.ble op 9) (zo_ld 2 x) (zo_ld 3 x))))
  (cond (Nat.ble op 17) (cond (Nat.ble op 15) (zo_st 0 x) (zo_st 2 x)) (cond (Nat.ble op 19) (zo_lst x) (cond (Nat.ble op 22) (zo_inc x (zc y)) (cond (Nat.ble op 23) (zo_bin (· + ·)) (cond (Nat.ble op 24) (zo_bin (· - ·)) (zo_bin (· * ·)))))))
def z1b (op : Nat) : zF := cond (Nat.ble op 29) (cond (Nat.ble op 27) (cond (Nat.ble op 26) (zo_bin (· &&& ·)) (zo_bin (· ||| ·))) (cond (Nat.ble op 28) (zo_bin zshl) zo_i2l)) (cond (Nat.ble op 31) (cond (Nat.ble op 30) (zo_lbin (· + ·)) (zo_lbin (· * ·))) (cond (Nat.ble op 32) zo_lcmp (cond (Nat.ble op 34) zo_dup (cond (Nat.ble op 35) zo_dup2 zo_pop))))
def z1c (sc : List Int32) (d op x y z : Nat) : zF := cond (Nat.ble op 41) (cond (Nat.ble op 39) (zo_get x y) (zo_put x y z)) (cond (Nat.ble op 43) (cond (Nat.ble op 42) (zo_iald sc) zo_iast) (cond (Nat.ble op 47) (cond (Nat.ble op 46) zo_aald zo_aast) (cond (Nat.ble op 48) (zo_alen sc) (zo_oini d))))
def z1d (d op x : Nat) : zF := cond (Nat.ble op 105) (cond (Nat.ble op 103) (cond (Nat.ble op 102) (zo_div zrem) (zo_div (· / ·))) (cond (Nat.ble op 104) (zo_bin zshr) (zo_bin (· ^^^ ·)))) (cond (Nat.ble op 107) (cond (Nat.ble op 106) (zo_push (.long (zcl x))) zo_zald) (cond (Nat.ble op 109) (cond (Nat.ble op 108) zo_zast (zo_copy d)) (cond (Nat.ble op 110) (zo_min d) (zo_push (.int (zc x))))))
def z1 (sc : List Int32) (d op x y z : Nat) : zF := cond (Nat.ble op 37) (cond (Nat.ble op 25) (z1a op x y) (z1b op)) (cond (Nat.ble op 51) (z1c sc d op x y z) (z1d d op x))
/-- a cell that is new -/
def zdef (t : Nat) (n : Nat) : zO := cond (Nat.beq t 0) (.inr (.inl (List.replicate n 0))) (cond (Nat.beq t 5) (.inr (.inr (.inl (List.replicate n 0)))) (.inr (.inr (.inr (t, List.replicate n none)))))
def zargs : Nat → List Value → zL
  | _, [] => fun _ => none
  | i, v :: as => fun j => if j = i then some v else zargs (i + v.category) as j
def zsz (as : List Value) : Nat := (as.map fun v => v.category).sum
abbrev zX : Type := Nat → List Value → List zO → Option zR
abbrev zN : Type := Nat → zL → List Value → List zO → Nat → Nat → Option zR
def zj (op x z j : Nat) (sw : List (List Nat)) (ih : zN) (L : zL) (S : List Value) (h : List zO) (nc ns : Nat) : Option zR :=
  cond (Nat.ble op 69) (zq_i S fun a S => ih (cond (zrel (op - 64) a 0) x (j + 1)) L S h nc ns)
  (cond (Nat.ble op 75) (zq_i S fun b S => zq_i S fun a S => ih (cond (zrel (op - 70) a b) x (j + 1)) L S h nc ns)
  (cond (Nat.ble op 80) (ih x L S h nc ns)
  (zq_i S fun a S => zq_n sw x fun w => match w with
    | lo :: df :: ts => ih (if a.toInt < (zc lo).toInt then df else ts.getD (a.toInt - (zc lo).toInt).toNat df) L S h nc ns
    | _ => none)))
def zr (op z : Nat) (S : List Value) (h : List zO) (nc ns : Nat) : Option zR := match S with
  | [] => zq_b (Nat.beq op 84) (some (none, h, nc, ns))
  | [v] => zq_b (cond (Nat.beq op 85) (zfit z v) (cond (Nat.beq op 86) (zfit 2 v) (and (Nat.beq op 87) (zfit 3 v)))) (some (some v, h, nc, ns))
  | _ => none
def znew (op x j : Nat) (FD : List (List Value)) (ih : zN) (L : zL) (S : List Value) (h : List zO) (nc ns : Nat) : Option zR :=
  cond (Nat.ble op 56) (zq_n FD x fun fs => ih (j + 1) L (.ref h.length :: S) (h ++ [.inl (x, fs)]) (nc + 1) (ns + fs.length))
    (zq_i S fun m S => zq_b (and (decide (0 ≤ m.toInt)) (decide (m.toInt.toNat ≤ 1048576))) (ih (j + 1) L (.ref h.length :: S) (h ++ [zdef x m.toInt.toNat]) (nc + 1) (ns + m.toInt.toNat)))
def zback (j : Nat) (ih : zN) (L : zL) (S : List Value) (nc ns : Nat) (R : zR) : Option zR := ih (j + 1) L (R.1.toList ++ S) R.2.1 (nc + R.2.2.1) (ns + R.2.2.2)
def zcall (op x y z j : Nat) (X : zX) (ih : zN) (L : zL) (S : List Value) (h : List zO) (nc ns : Nat) : Option zR :=
  zq_b (Nat.ble y S.length) (cond (Nat.ble op 97) (zq_b (Nat.ble (zwd (S.drop y)) 8) (zq_m (X x (S.take y).reverse h) (zback j ih L (S.drop y) nc ns)))
    (zq_r (S.drop y) fun a S' => zq_b (and (Nat.ble (zwd S') 8) (zisO h a z)) (zq_m (X x (.ref a :: (S.take y).reverse) h) (zback j ih L S' nc ns))))
/-- one row -/
def zrow (FD : List (List Value)) (X : zX) (d : Nat) (sc : List Int32) (sw : List (List Nat)) (i : zI) (j : Nat) (ih : zN) (L : zL) (S : List Value) (h : List zO) (nc ns : Nat) : Option zR :=
  cond (or (Nat.ble i.2.2.1 51) (and (Nat.ble 102 i.2.2.1) (Nat.ble i.2.2.1 111))) (zq_m (z1 sc d i.2.2.1 i.2.2.2.1 i.2.2.2.2.1 i.2.2.2.2.2.1 L S h) fun t => ih (j + 1) t.1 t.2.1 t.2.2 nc ns)
  (cond (Nat.ble i.2.2.1 58) (znew i.2.2.1 i.2.2.2.1 j FD ih L S h nc ns)
  (cond (Nat.ble i.2.2.1 81) (zj i.2.2.1 i.2.2.2.1 i.2.2.2.2.2.1 j sw ih L S h nc ns)
  (cond (Nat.ble i.2.2.1 87) (zr i.2.2.1 i.2.2.2.2.2.1 S h nc ns)
  (cond (Nat.ble i.2.2.1 100) (zcall i.2.2.1 i.2.2.2.1 i.2.2.2.2.1 i.2.2.2.2.2.1 j X ih L S h nc ns) none))))
/-- one frame: d is how many calls may stand open below it; j is the row that comes next -/
def zl (FD : List (List Value)) (X : zX) (d : Nat) (sc : List Int32) (code : List zI) (sw : List (List Nat)) : Nat → zN
  | 0, _, _, _, _, _, _ => none
  | n + 1, j, L, S, h, nc, ns => zq_n code j fun i => zrow FD X d sc sw i j (zl FD X d sc code sw n) L S h nc ns
/-- a method, with d calls below it, and so many steps in each frame -/
def zx (FD : List (List Value)) (MT : List (List zM)) (sc : List Int32) (F : Nat) : Nat → zX
  | 0, _, _, _ => none
  | d + 1, k, as, h => zq_n MT (k / 16) fun g => zq_n g (k % 16) fun t => zq_b (Nat.ble (zsz as) t.2.2) (zl FD (zx FD MT sc F d) d sc t.1 t.2.1 F 0 (zargs 0 as) [] h 0 0)
