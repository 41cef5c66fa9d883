noncomputable section
def xq_B : Nat := 2147483648
def xq_M : Nat := 4294967296
def xq_BL : Nat := 9223372036854775808
def xq_ML : Nat := 18446744073709551616
def xi (v : Nat) : xv_V := (0, v, v)
def xq_drop {α : Type} (n : Nat) (l : List α) : List α := Nat.rec (motive := fun _ => List α → List α) (fun l => l) (fun _ ih l => List.rec (motive := fun _ => List α) [] (fun _ t _ => ih t) l) n l
def xq_nth {α β : Type} (l : List α) (n : Nat) (k : α → Option β) : Option β := List.rec (motive := fun _ => Option β) none (fun a _ _ => k a) (xq_drop n l)
def xq_set {α : Type} (l : List α) (n : Nat) (v : α) : List α := Nat.rec (motive := fun _ => List α → List α) (fun l => List.rec (motive := fun _ => List α) [] (fun _ t _ => v :: t) l) (fun _ ih l => List.rec (motive := fun _ => List α) [] (fun a t _ => a :: ih t) l) n l
def xq_len {α : Type} (l : List α) : Nat := List.rec (motive := fun _ => Nat) 0 (fun _ _ ih => Nat.succ ih) l
def xq_rep {α : Type} (n : Nat) (v : α) : List α := Nat.rec (motive := fun _ => List α) [] (fun _ ih => v :: ih) n
def xq_app {α : Type} (l r : List α) : List α := List.rec (motive := fun _ => List α) r (fun a _ ih => a :: ih) l
/-- a local -/
def xq_get {β : Type} (L : xv_L) (i : Nat) (k : xv_V → Option β) : Option β := List.rec (motive := fun _ => Option β) none (fun a _ ih => cond (Nat.beq a.1 i) (k a.2) ih) L
def xq_is2 (v : xv_V) : Bool := cond (Nat.beq v.1 3) true (Nat.beq v.1 4)
/-- the other locals, as a value of one slot comes to i -/
def xq_del1 (L : xv_L) (i : Nat) : xv_L := List.rec (motive := fun _ => xv_L) [] (fun a _ ih => cond (Nat.beq a.1 i) ih (cond (and (Nat.beq (Nat.succ a.1) i) (xq_is2 a.2)) ih (a :: ih))) L
/-- the same, of two slots -/
def xq_del2 (L : xv_L) (i : Nat) : xv_L := List.rec (motive := fun _ => xv_L) [] (fun a _ ih => cond (Nat.beq a.1 i) ih (cond (Nat.beq a.1 (Nat.succ i)) ih (cond (and (Nat.beq (Nat.succ a.1) i) (xq_is2 a.2)) ih (a :: ih)))) L
def xq_args (i : Nat) (as : List xv_V) : xv_L := List.rec (motive := fun _ => Nat → xv_L) (fun _ => []) (fun a _ ih i => (i, a) :: ih (cond (xq_is2 a) (Nat.succ (Nat.succ i)) (Nat.succ i))) as i
/-- how many slots they take -/
def xq_sz (as : List xv_V) : Nat := List.rec (motive := fun _ => Nat) 0 (fun a _ ih => cond (xq_is2 a) (Nat.succ (Nat.succ ih)) (Nat.succ ih)) as
/-- one number -/
def xq_one {β : Type} (v : xv_V) (k : Nat → Option β) : Option β := cond (Nat.beq v.1 0) (cond (Nat.beq v.2.1 v.2.2) (k v.2.1) none) none
/-- the cell that it names -/
def xq_obj {β : Type} (h : List xv_O) (v : xv_V) (k : Nat → Nat → List xv_V → Option β) : Option β := cond (Nat.beq v.1 1) (xq_nth h v.2.1 fun o => k o.1 o.2.1 o.2.2) none
def xq_pop {β : Type} (S : List xv_V) (k : xv_V → List xv_V → Option β) : Option β := List.rec (motive := fun _ => Option β) none (fun a t _ => k a t) S
/-- the numbers of 'op y x' -/
def xb_add (a b : Nat) : Nat := (a + b + xq_B) % xq_M
def xb_sub (a b : Nat) : Nat := (a + (xq_M + xq_B) - b) % xq_M
def xb_u (a : Nat) : Nat := (a + xq_B) % xq_M
def xb_mul (a b : Nat) : Nat := xb_u (xb_u a * xb_u b)
def xb_and (a b : Nat) : Nat := xb_u (Nat.land (xb_u a) (xb_u b))
def xb_or (a b : Nat) : Nat := xb_u (Nat.lor (xb_u a) (xb_u b))
def xb_shl (a b : Nat) : Nat := xb_u (xb_u a * 2 ^ (xb_u b % 32))
def xl_add (a b : Nat) : Nat := (a + b + xq_BL) % xq_ML
def xl_u (a : Nat) : Nat := (a + xq_BL) % xq_ML
def xl_mul (a b : Nat) : Nat := xl_u (xl_u a * xl_u b)
abbrev xk_S : Type := xv_L → List xv_V → List xv_O → Option xv_R
def xo_bin (f : Nat → Nat → Nat) (L : xv_L) (S : List xv_V) (h : List xv_O) (k : xk_S) : Option xv_R := xq_pop S fun b S => xq_pop S fun a S => xq_one b fun y => xq_one a fun x => k L (xi (f x y) :: S) h
def xo_and (L : xv_L) (S : List xv_V) (h : List xv_O) (k : xk_S) : Option xv_R := xq_pop S fun b S => xq_pop S fun a S => xq_one b fun y => cond (Nat.beq a.1 5) (cond (Nat.beq y 2147483679) (k L (xi (a.2.1 + xq_B) :: S) h) none) (xq_one a fun x => k L (xi (xb_and x y) :: S) h)
def xo_lbin (f : Nat → Nat → Nat) (L : xv_L) (S : List xv_V) (h : List xv_O) (k : xk_S) : Option xv_R := xq_pop S fun b S => xq_pop S fun a S => cond (and (Nat.beq a.1 3) (Nat.beq b.1 3)) (k L ((3, f a.2.1 b.2.1, 0) :: S) h) none
def xo_lcmp (L : xv_L) (S : List xv_V) (h : List xv_O) (k : xk_S) : Option xv_R := xq_pop S fun b S => xq_pop S fun a S => cond (and (Nat.beq a.1 3) (Nat.beq b.1 3)) (k L (xi (cond (Nat.beq a.2.1 b.2.1) xq_B (cond (Nat.ble a.2.1 b.2.1) (xq_B - 1) (xq_B + 1))) :: S) h) none
def xo_i2l (L : xv_L) (S : List xv_V) (h : List xv_O) (k : xk_S) : Option xv_R := xq_pop S fun a S => xq_one a fun x => k L ((3, x + (xq_BL - xq_B), 0) :: S) h
def xo_dcmp (L : xv_L) (S : List xv_V) (h : List xv_O) (k : xk_S) : Option xv_R := xq_pop S fun b S => xq_pop S fun a S => cond (and (Nat.beq a.1 4) (Nat.beq b.1 4)) (cond (and (Nat.beq a.2.1 0) (Nat.beq b.2.1 0)) (k L (xi xq_B :: S) h) none) none
def xo_load (i : Nat) (L : xv_L) (S : List xv_V) (h : List xv_O) (k : xk_S) : Option xv_R := xq_get L i fun v => k L (v :: S) h
/-- a load of an int, of a reference, of a long, of a double -/
def xo_iload (i : Nat) (L : xv_L) (S : List xv_V) (h : List xv_O) (k : xk_S) : Option xv_R := xq_get L i fun v => cond (or (Nat.beq v.1 0) (Nat.beq v.1 5)) (k L (v :: S) h) none
def xo_aload (i : Nat) (L : xv_L) (S : List xv_V) (h : List xv_O) (k : xk_S) : Option xv_R := xq_get L i fun v => cond (or (Nat.beq v.1 1) (or (Nat.beq v.1 2) (or (Nat.beq v.1 6) (or (Nat.beq v.1 7) (Nat.beq v.1 8))))) (k L (v :: S) h) none
def xo_lload (i : Nat) (L : xv_L) (S : List xv_V) (h : List xv_O) (k : xk_S) : Option xv_R := xq_get L i fun v => cond (Nat.beq v.1 3) (k L (v :: S) h) none
def xo_dload (i : Nat) (L : xv_L) (S : List xv_V) (h : List xv_O) (k : xk_S) : Option xv_R := xq_get L i fun v => cond (Nat.beq v.1 4) (k L (v :: S) h) none
def xo_istore (i : Nat) (L : xv_L) (S : List xv_V) (h : List xv_O) (k : xk_S) : Option xv_R := xq_pop S fun v S => cond (or (Nat.beq v.1 0) (Nat.beq v.1 5)) (k ((i, v) :: xq_del1 L i) S h) none
def xo_astore (i : Nat) (L : xv_L) (S : List xv_V) (h : List xv_O) (k : xk_S) : Option xv_R := xq_pop S fun v S => cond (or (Nat.beq v.1 1) (or (Nat.beq v.1 2) (or (Nat.beq v.1 6) (or (Nat.beq v.1 7) (Nat.beq v.1 8))))) (k ((i, v) :: xq_del1 L i) S h) none
def xo_lstore (i : Nat) (L : xv_L) (S : List xv_V) (h : List xv_O) (k : xk_S) : Option xv_R := xq_pop S fun v S => cond (Nat.beq v.1 3) (k ((i, v) :: xq_del2 L i) S h) none
def xo_dstore (i : Nat) (L : xv_L) (S : List xv_V) (h : List xv_O) (k : xk_S) : Option xv_R := xq_pop S fun v S => cond (Nat.beq v.1 4) (k ((i, v) :: xq_del2 L i) S h) none
def xo_push (v : xv_V) (L : xv_L) (S : List xv_V) (h : List xv_O) (k : xk_S) : Option xv_R := k L (v :: S) h
def xo_iinc (i d : Nat) (L : xv_L) (S : List xv_V) (h : List xv_O) (k : xk_S) : Option xv_R := xq_get L i fun v => xq_one v fun x => k ((i, xi (xb_add x d)) :: xq_del1 L i) S h
def xo_dup (L : xv_L) (S : List xv_V) (h : List xv_O) (k : xk_S) : Option xv_R := xq_pop S fun v S => cond (xq_is2 v) none (k L (v :: v :: S) h)
def xo_dup2 (L : xv_L) (S : List xv_V) (h : List xv_O) (k : xk_S) : Option xv_R := xq_pop S fun b S => xq_pop S fun a S => cond (or (xq_is2 a) (xq_is2 b)) none (k L (b :: a :: b :: a :: S) h)
def xo_dupx1 (L : xv_L) (S : List xv_V) (h : List xv_O) (k : xk_S) : Option xv_R := xq_pop S fun b S => xq_pop S fun a S => cond (or (xq_is2 a) (xq_is2 b)) none (k L (b :: a :: b :: S) h)
def xo_pop (L : xv_L) (S : List xv_V) (h : List xv_O) (k : xk_S) : Option xv_R := xq_pop S fun v S => cond (xq_is2 v) none (k L S h)
/-- fields: the class, the place -/
def xo_getf (ci f : Nat) (L : xv_L) (S : List xv_V) (h : List xv_O) (k : xk_S) : Option xv_R := xq_pop S fun o S => xq_obj h o fun t c es => cond (and (Nat.beq t 0) (Nat.beq c ci)) (xq_nth es f fun v => k L (v :: S) h) none
/-- may a field of this type hold it: 0 int, 1 boolean, 2 a reference, 3 a long -/
def xq_isI (v : xv_V) : Bool := or (Nat.beq v.1 0) (Nat.beq v.1 5)
def xq_isZ (v : xv_V) : Bool := and (Nat.beq v.1 0) (and (Nat.ble xq_B v.2.1) (Nat.ble v.2.2 (xq_B + 1)))
def xq_isA (v : xv_V) : Bool := or (Nat.beq v.1 1) (or (Nat.beq v.1 2) (or (Nat.beq v.1 6) (or (Nat.beq v.1 7) (Nat.beq v.1 8))))
def xq_ty (z : Nat) (v : xv_V) : Bool := cond (Nat.beq z 0) (xq_isI v) (cond (Nat.beq z 1) (xq_isZ v) (cond (Nat.beq z 2) (xq_isA v) (cond (Nat.beq z 3) (Nat.beq v.1 3) false)))
def xo_putf (ci f z : Nat) (L : xv_L) (S : List xv_V) (h : List xv_O) (k : xk_S) : Option xv_R := xq_pop S fun v S => xq_pop S fun o S => xq_obj h o fun t c es => cond (and (Nat.beq t 0) (and (Nat.beq c ci) (xq_ty z v))) (xq_nth es f fun _ => k L S (xq_set h o.2.1 (0, c, xq_set es f v))) none
def xo_ald (ty : Nat → Bool) (L : xv_L) (S : List xv_V) (h : List xv_O) (k : xk_S) : Option xv_R := xq_pop S fun i S => xq_pop S fun o S => xq_one i fun x => xq_obj h o fun t c es => cond (and (Nat.beq t 1) (and (ty c) (Nat.ble xq_B x))) (xq_nth es (x - xq_B) fun v => k L (v :: S) h) none
/-- of the script, too: its first row is its length -/
def xo_iald (sc : List xv_V) (L : xv_L) (S : List xv_V) (h : List xv_O) (k : xk_S) : Option xv_R := xq_pop S fun i S => xq_pop S fun o S => xq_one i fun x => cond (Nat.beq o.1 7) (cond (Nat.ble xq_B x) (xq_nth sc (Nat.succ (x - xq_B)) fun v => cond (xq_isI v) (k L (v :: S) h) none) none) (xq_obj h o fun t c es => cond (and (Nat.beq t 1) (and (Nat.beq c 0) (Nat.ble xq_B x))) (xq_nth es (x - xq_B) fun v => k L (v :: S) h) none)
def xo_ast (ty : Nat → Bool) (vo : xv_V → Bool) (L : xv_L) (S : List xv_V) (h : List xv_O) (k : xk_S) : Option xv_R := xq_pop S fun v S => xq_pop S fun i S => xq_pop S fun o S => xq_one i fun x => xq_obj h o fun t c es => cond (and (and (Nat.beq t 1) (ty c)) (and (vo v) (Nat.ble xq_B x))) (xq_nth es (x - xq_B) fun _ => k L S (xq_set h o.2.1 (1, c, xq_set es (x - xq_B) v))) none
def xo_alen (sc : List xv_V) (L : xv_L) (S : List xv_V) (h : List xv_O) (k : xk_S) : Option xv_R := xq_pop S fun o S => cond (Nat.beq o.1 7) (xq_nth sc 0 fun v => cond (Nat.beq v.1 0) (k L (v :: S) h) none) (cond (and (Nat.beq o.1 6) (Nat.beq o.2.1 0)) (k L (xi xq_B :: S) h) (xq_obj h o fun t _ es => cond (Nat.beq t 1) (k L (xi (xq_len es + xq_B) :: S) h) none))
/-- a cast that holds: to an object's own class, or an array's own type -/
def xo_cast (t0 c0 : Nat) (L : xv_L) (S : List xv_V) (h : List xv_O) (k : xk_S) : Option xv_R := xq_pop S fun o S => xq_obj h o fun t c _ => cond (and (Nat.beq t t0) (Nat.beq c c0)) (k L (o :: S) h) none
def xo_oinit (d : Nat) (L : xv_L) (S : List xv_V) (h : List xv_O) (k : xk_S) : Option xv_R := xq_pop S fun o S => xq_obj h o fun _ _ _ => cond (and (Nat.ble 1 d) (Nat.ble (xq_len S) 4)) (k L S h) none
def xo_max (d : Nat) (L : xv_L) (S : List xv_V) (h : List xv_O) (k : xk_S) : Option xv_R := xq_pop S fun b S => xq_pop S fun a S => xq_one b fun y => xq_one a fun x => cond (and (Nat.ble 1 d) (Nat.ble (xq_len S) 4)) (k L (xi (cond (Nat.ble x y) y x) :: S) h) none
/-- may a row of this type hold it: null, an object of the class, some things in a row of Object -/
def xq_el (c t c2 : Nat) : Bool := cond (Nat.beq t 0) (cond (Nat.beq c 1) (Nat.beq c2 6) (cond (Nat.beq c 2) (Nat.beq c2 11) (cond (Nat.beq c 3) (Nat.beq c2 9) (cond (Nat.beq c 4) (and (Nat.ble 17 c2) (Nat.ble c2 19)) false)))) (and (Nat.beq t 1) (and (Nat.beq c 4) (Nat.beq c2 0)))
def xo_asta (L : xv_L) (S : List xv_V) (h : List xv_O) (k : xk_S) : Option xv_R := xq_pop S fun v S => xq_pop S fun i S => xq_pop S fun o S => xq_one i fun x => xq_obj h o fun t c es => cond (and (and (Nat.beq t 1) (and (Nat.ble 1 c) (Nat.ble c 4))) (Nat.ble xq_B x)) (xq_nth es (x - xq_B) fun _ => cond (Nat.beq v.1 2) (k L S (xq_set h o.2.1 (1, c, xq_set es (x - xq_B) v))) (xq_obj h v fun t2 c2 _ => cond (xq_el c t2 c2) (k L S (xq_set h o.2.1 (1, c, xq_set es (x - xq_B) v))) none)) none
def xs_0 (d op x y z : Nat) (sc : List xv_V) : xv_L → List xv_V → List xv_O → xk_S → Option xv_R := cond (Nat.ble op 2) (xo_push (xi x)) (cond (Nat.ble op 4) (cond (Nat.ble op 3) (xo_push (3, x, 0)) (xo_push (4, 0, 0))) (cond (Nat.ble op 5) (xo_push (2, 0, 0)) (cond (Nat.ble op 7) (xo_iload x) (cond (Nat.ble op 9) (xo_aload x) (cond (Nat.ble op 11) (xo_lload x) (xo_dload x))))))
def xs_1 (d op x y z : Nat) (sc : List xv_V) : xv_L → List xv_V → List xv_O → xk_S → Option xv_R := cond (Nat.ble op 17) (cond (Nat.ble op 15) (xo_istore x) (xo_astore x)) (cond (Nat.ble op 21) (cond (Nat.ble op 19) (xo_lstore x) (xo_dstore x)) (cond (Nat.ble op 22) (xo_iinc x y) (cond (Nat.ble op 23) (xo_bin xb_add) (cond (Nat.ble op 24) (xo_bin xb_sub) (xo_bin xb_mul)))))
def xs_2 (d op x y z : Nat) (sc : List xv_V) : xv_L → List xv_V → List xv_O → xk_S → Option xv_R := cond (Nat.ble op 29) (cond (Nat.ble op 27) (cond (Nat.ble op 26) xo_and (xo_bin xb_or)) (cond (Nat.ble op 28) (xo_bin xb_shl) xo_i2l)) (cond (Nat.ble op 31) (cond (Nat.ble op 30) (xo_lbin xl_add) (xo_lbin xl_mul)) (cond (Nat.ble op 33) (cond (Nat.ble op 32) xo_lcmp xo_dcmp) (cond (Nat.ble op 35) (cond (Nat.ble op 34) xo_dup xo_dup2) (cond (Nat.ble op 36) xo_dupx1 xo_pop))))
def xs_3 (d op x y z : Nat) (sc : List xv_V) : xv_L → List xv_V → List xv_O → xk_S → Option xv_R := cond (Nat.ble op 41) (cond (Nat.ble op 39) (xo_getf x y) (xo_putf x y z)) (cond (Nat.ble op 45) (cond (Nat.ble op 43) (cond (Nat.ble op 42) (xo_iald sc) (xo_ast (fun c => Nat.beq c 0) xq_isI)) (cond (Nat.ble op 44) (xo_ald (fun c => Nat.beq c 5)) (xo_ast (fun c => Nat.beq c 5) (fun v => Nat.beq v.1 3)))) (cond (Nat.ble op 47) (cond (Nat.ble op 46) (xo_ald (fun c => and (Nat.ble 1 c) (Nat.ble c 4))) xo_asta) (cond (Nat.ble op 49) (cond (Nat.ble op 48) (xo_alen sc) (xo_cast x y)) (cond (Nat.ble op 50) (xo_push (6, x, 0)) (cond (Nat.ble op 51) (xo_oinit d) (xo_max d))))))
def xs (d op x y z : Nat) (sc : List xv_V) : xv_L → List xv_V → List xv_O → xk_S → Option xv_R := cond (Nat.ble op 25) (cond (Nat.ble op 13) (xs_0 d op x y z sc) (xs_1 d op x y z sc)) (cond (Nat.ble op 37) (xs_2 d op x y z sc) (xs_3 d op x y z sc))
/-- comparisons of two abstract ints: surely, surely not, or nothing -/
def xc_lt (a b : xv_V) (k : Bool → Option xv_R) : Option xv_R := cond (and (Nat.beq a.1 0) (Nat.beq b.1 0)) (cond (Nat.ble (Nat.succ a.2.2) b.2.1) (k true) (cond (Nat.ble b.2.2 a.2.1) (k false) none)) none
def xc_eq (a b : xv_V) (k : Bool → Option xv_R) : Option xv_R := cond (and (Nat.beq a.1 0) (Nat.beq b.1 0)) (cond (Nat.ble (Nat.succ a.2.2) b.2.1) (k false) (cond (Nat.ble (Nat.succ b.2.2) a.2.1) (k false) (cond (and (Nat.beq a.2.1 a.2.2) (and (Nat.beq b.2.1 b.2.2) (Nat.beq a.2.1 b.2.1))) (k true) none))) none
/-- op: 0 eq 1 ne 2 lt 3 ge 4 gt 5 le -/
def xc_op (c : Nat) (a b : xv_V) (k : Bool → Option xv_R) : Option xv_R := cond (Nat.ble c 1) (xc_eq a b fun r => k (cond (Nat.beq c 0) r (not r))) (cond (Nat.ble c 3) (xc_lt a b fun r => k (cond (Nat.beq c 2) r (not r))) (xc_lt b a fun r => k (cond (Nat.beq c 4) r (not r))))
/-- two references: the same, or surely not -/
def xc_ref (a b : xv_V) (k : Bool → Option xv_R) : Option xv_R := cond (and (xq_isA a) (xq_isA b)) (cond (or (or (Nat.beq a.1 8) (or (Nat.beq b.1 8) (or (Nat.beq a.1 7) (Nat.beq b.1 7)))) (or (and (Nat.beq a.1 6) (not (Nat.beq a.2.1 0))) (and (Nat.beq b.1 6) (not (Nat.beq b.2.1 0))))) none (k (and (Nat.beq a.1 b.1) (or (Nat.beq a.1 2) (Nat.beq a.2.1 b.2.1))))) none
def xc_null (a : xv_V) (k : Bool → Option xv_R) : Option xv_R := cond (xq_isA a) (k (Nat.beq a.1 2)) none
abbrev xk_N : Type := xv_L → List xv_V → List xv_O → Nat → Nat → Option xv_R
def xj (c x : Nat) (code : List xv_I) (r : List xv_I) (ih : List xv_I → xk_N) (L : xv_L) (S : List xv_V) (h : List xv_O) (nc ns : Nat) : Option xv_R :=
  cond (Nat.ble c 69) (xq_pop S fun a S => xc_op (c - 64) a (xi xq_B) fun t => ih (cond t (xq_drop x code) r) L S h nc ns)
  (cond (Nat.ble c 75) (xq_pop S fun b S => xq_pop S fun a S => xc_op (c - 70) a b fun t => ih (cond t (xq_drop x code) r) L S h nc ns)
  (cond (Nat.ble c 77) (xq_pop S fun b S => xq_pop S fun a S => xc_ref a b fun t => ih (cond (cond (Nat.beq c 76) t (not t)) (xq_drop x code) r) L S h nc ns)
  (cond (Nat.ble c 79) (xq_pop S fun a S => xc_null a fun t => ih (cond (cond (Nat.beq c 78) t (not t)) (xq_drop x code) r) L S h nc ns)
  (ih (xq_drop x code) L S h nc ns))))
/-- a table: the least number, the place of 'otherwise', then the places -/
def xj_sw (sw : List Nat) (a : xv_V) (k : Nat → Option xv_R) : Option xv_R := xq_nth sw 0 fun lo => xq_nth sw 1 fun df => cond (Nat.beq a.1 0) (cond (Nat.ble (Nat.succ a.2.2) lo) (k df) (cond (Nat.ble (lo + (xq_len sw - 2)) a.2.1) (k df) (cond (Nat.beq a.2.1 a.2.2) (xq_nth sw (a.2.1 - lo + 2) k) none))) none
def xr_get (v : xv_V) (ok : Bool) (h : List xv_O) (nc ns : Nat) : Option xv_R := cond ok (some (1, v, h, nc, ns)) none
def xr (op z : Nat) (S : List xv_V) (h : List xv_O) (nc ns : Nat) : Option xv_R :=
  cond (Nat.beq op 84) (cond (Nat.beq (xq_len S) 0) (some (0, (2, 0, 0), h, nc, ns)) none) (xq_pop S fun v S => cond (Nat.beq (xq_len S) 0) (cond (Nat.beq op 85) (xr_get v (cond (Nat.beq z 1) (xq_isZ v) (xq_isI v)) h nc ns) (cond (Nat.beq op 86) (xr_get v (xq_isA v) h nc ns) (cond (Nat.beq op 87) (xr_get v (Nat.beq v.1 3) h nc ns) (xr_get v (Nat.beq v.1 4) h nc ns)))) none)
/-- the first values of the stack, in their order -/
def xq_take {β : Type} (n : Nat) (S : List xv_V) (acc : List xv_V) (k : List xv_V → List xv_V → Option β) : Option β := Nat.rec (motive := fun _ => List xv_V → List xv_V → Option β) (fun S acc => k acc S) (fun _ ih S acc => xq_pop S fun v S => ih S (v :: acc)) n S acc
/-- the handler of a thrown class at this pc: rows start, end, place, class -/
def xq_hand (ex : List (Nat × Nat × Nat × Nat)) (pc E : Nat) (k : Option Nat → Option xv_R) : Option xv_R := List.rec (motive := fun _ => Option xv_R) (k none) (fun a _ ih => cond (and (Nat.ble a.1 pc) (Nat.ble (Nat.succ pc) a.2.1)) (cond (Nat.beq a.2.2.2 E) (k (some a.2.2.1)) ih) ih) ex
def xq_opt {β : Type} (o : Option β) (k : β → Option xv_R) : Option xv_R := Option.rec (motive := fun _ => Option xv_R) none (fun a => k a) o
abbrev xk_X : Type := Nat → List xv_V → List xv_O → Option xv_R
/-- behind a call -/
def xa (R : xv_R) (pc : Nat) (code r : List xv_I) (ex : List (Nat × Nat × Nat × Nat)) (ih : List xv_I → xk_N) (L : xv_L) (S : List xv_V) (nc ns : Nat) : Option xv_R :=
  cond (Nat.beq R.1 0) (ih r L S R.2.2.1 (nc + R.2.2.2.1) (ns + R.2.2.2.2)) (cond (Nat.beq R.1 1) (ih r L (R.2.1 :: S) R.2.2.1 (nc + R.2.2.2.1) (ns + R.2.2.2.2))
  (xq_hand ex pc (R.1 - 2) fun o => Option.rec (motive := fun _ => Option xv_R) (some (R.1, (2, 0, 0), R.2.2.1, nc + R.2.2.2.1, ns + R.2.2.2.2)) (fun t => ih (xq_drop t code) L [(8, 0, 0)] R.2.2.1 (nc + R.2.2.2.1) (ns + R.2.2.2.2)) o))
def xq_eqV (a b : xv_V) : Bool := and (Nat.beq a.1 b.1) (and (Nat.beq a.2.1 b.2.1) (Nat.beq a.2.2 b.2.2))
/-- the same locals, row for row -/
def xq_eqL (a b : xv_L) : Bool := List.rec (motive := fun _ => xv_L → Bool) (fun b => List.rec (motive := fun _ => Bool) true (fun _ _ _ => false) b) (fun x _ ih b => List.rec (motive := fun _ => Bool) false (fun y t _ => cond (and (Nat.beq x.1 y.1) (xq_eqV x.2 y.2)) (ih t) false) b) a b
/-- one frame: d is how many calls may stand open below it -/
def xl (FD : List (List xv_V)) (E9 : xv_L) (X : xk_X) (d : Nat) (sc : List xv_V) (code : List xv_I) (sw : List (List Nat)) (ex : List (Nat × Nat × Nat × Nat)) (n : Nat) : List xv_I → xk_N :=
  Nat.rec (motive := fun _ => List xv_I → xk_N) (fun _ _ _ _ _ _ => none) (fun _ ih is L S h nc ns =>
    List.rec (motive := fun _ => Option xv_R) none (fun i r _ =>
      cond (Nat.ble i.2.2.1 52) (xs d i.2.2.1 i.2.2.2.1 i.2.2.2.2.1 i.2.2.2.2.2.1 sc L S h (fun L S h => ih r L S h nc ns))
      (cond (Nat.ble i.2.2.1 58)
        (cond (Nat.ble i.2.2.1 56) (xq_nth FD i.2.2.2.1 fun fs => ih r L ((1, xq_len h, 0) :: S) (xq_app h [(0, i.2.2.2.1, fs)]) (nc + 1) (ns + xq_len fs))
          (xq_pop S fun v S => xq_one v fun m => cond (and (Nat.ble xq_B m) (Nat.ble m 2147549184)) (ih r L ((1, xq_len h, 0) :: S) (xq_app h [(1, i.2.2.2.1, xq_rep (m - xq_B) (cond (Nat.beq i.2.2.2.1 0) (0, xq_B, xq_B) (cond (Nat.beq i.2.2.2.1 5) (3, xq_BL, 0) (2, 0, 0))))]) (nc + 1) (ns + (m - xq_B))) none))
      (cond (Nat.ble i.2.2.1 80) (xj i.2.2.1 i.2.2.2.1 code r ih L S h nc ns)
      (cond (Nat.ble i.2.2.1 81) (xq_pop S fun a S => xq_nth sw i.2.2.2.1 fun w => xj_sw w a fun t => ih (xq_drop t code) L S h nc ns)
      (cond (Nat.ble i.2.2.1 88) (xr i.2.2.1 i.2.2.2.2.2.1 S h nc ns)
      (cond (Nat.ble i.2.2.1 89) (cond (and (xq_eqL L E9) (Nat.beq (xq_len S) 0)) (some (9, (2, 0, 0), h, nc, ns)) none)
      (cond (Nat.ble i.2.2.1 91) (cond (and (Nat.ble 6 d) (Nat.ble (xq_len S) 4)) (some (2 + i.2.2.2.1, (2, 0, 0), h, nc + 1, ns + 6)) none)
      (cond (Nat.ble i.2.2.1 101) (xq_take i.2.2.2.2.1 S [] fun as S => cond (Nat.ble i.2.2.1 97) (cond (Nat.ble (xq_len S) 4) (xq_opt (X i.2.2.2.1 as h) fun R => xa R i.1 code r ex ih L S nc ns) none)
          (xq_pop S fun o S => xq_obj h o fun t c _ => cond (and (Nat.beq t 0) (and (or (Nat.ble i.2.2.1 99) (Nat.beq c i.2.2.2.2.2.1)) (Nat.ble (xq_len S) 4))) (xq_opt (X i.2.2.2.1 (o :: as) h) fun R => xa R i.1 code r ex ih L S nc ns) none)) none)))))))) is) n
/-- a method, with d calls below it -/
def xx (FD : List (List xv_V)) (MT : List (List xv_M)) (sc : List xv_V) (d : Nat) : xk_X :=
  Nat.rec (motive := fun _ => xk_X) (fun _ _ _ => none) (fun d X m as h => xq_nth MT (m / 16) fun g => xq_nth g (m % 16) fun t => cond (Nat.ble (xq_sz as) t.2.2.2) (xl FD [] X d sc t.1 t.2.1 t.2.2.1 1000000 t.1 (xq_args 0 as) [] h 0 0) none) d

end
