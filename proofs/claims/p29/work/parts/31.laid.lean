/-! what it is that a node is laid: at place i, as the j-th that begins there, up to e -/
/-- a guard: its node, the catch and the loop around that, its handlers -/
abbrev aG : Type := Nat × Int × Option (Nat × Nat) × List (Int × Int)
/-- guards, how many caughts and finallys, the catch around, the loop around (where it ends, how many guards it has) -/
abbrev aC : Type := List aG × Nat × Nat × Int × Option (Nat × Nat)
def a_hs (gs : List aG) : List (Int × Int) := gs.flatMap fun g => g.2.2.2
def a_chain (q : Nat → Nat → Int) : Int → List Nat → Prop
  | x, [] => x = -1
  | x, c :: cs => x = (c : Int) ∧ a_chain q (q 3 c) cs
/-- instructions of one node that may throw -/
abbrev a_rk (o : Int) : Prop := o = 3 ∨ o = 9 ∨ o = 10 ∨ o = 12 ∨ o = 13 ∨ o = 15 ∨ o = 16
section ALa
variable (q : Nat → Nat → Int) (k : Nat → Nat → Int) (bg : Nat → List Nat) (ch : Nat → List (Int × Int))
/-- the way out to the end of the procedure -/
def a_wo (P : Nat → aC → Nat → Nat → Nat → Prop) : List aG → Nat → Nat → Nat → Nat → Prop
  | [], _, h, i, j => (bg i).length = j ∧ k 1 i = 8 ∧ k 2 i = (h : Int)
  | g :: gs, d, h, i, j =>
    if q 0 g.1 = 13 then (if q 3 g.1 = -1 then a_wo P gs d h i j else ((bg i).length = j ∧ k 1 i = 17 ∧ k 2 i = q 3 g.1 ∧ k 5 i = (g.1 : Int) ∧ ch i = a_hs gs ∧ a_wo P gs d h (i + 1) 0))
    else if q 1 g.1 = -1 then a_wo P gs d h i j else ∃ i', P (q 1 g.1).toNat (gs, d, h + 1, g.2.1, g.2.2.1) i j i' ∧ a_wo P gs d h i' 0
/-- the way out to the end of a loop -/
def a_wb (P : Nat → aC → Nat → Nat → Nat → Prop) (lt lg : Nat) : List aG → Nat → Nat → Nat → Nat → Prop
  | [], _, _, i, j => lg = 0 ∧ (bg i).length = j ∧ k 1 i = 6 ∧ k 2 i = (lt : Int)
  | g :: gs, d, h, i, j =>
    if gs.length + 1 = lg then ((bg i).length = j ∧ k 1 i = 6 ∧ k 2 i = (lt : Int))
    else if q 0 g.1 = 13 then (if q 3 g.1 = -1 then a_wb P lt lg gs d h i j else ((bg i).length = j ∧ k 1 i = 17 ∧ k 2 i = q 3 g.1 ∧ k 5 i = (g.1 : Int) ∧ ch i = a_hs gs ∧ a_wb P lt lg gs d h (i + 1) 0))
    else if q 1 g.1 = -1 then a_wb P lt lg gs d h i j else ∃ i', P (q 1 g.1).toNat (gs, d, h + 1, g.2.1, g.2.2.1) i j i' ∧ a_wb P lt lg gs d h i' 0
/-- a finally, if there is one -/
def a_fn (P : Nat → aC → Nat → Nat → Nat → Prop) (G : aC) (fin : Int) (s e : Nat) : Prop :=
  if fin = -1 then e = s else P fin.toNat (G.1, G.2.1, G.2.2.1 + 1, G.2.2.2) s 0 e
/-- catches, each with its place; e is the end of all -/
def a_ct (P : Nat → aC → Nat → Nat → Nat → Prop) (G : aC) (g2 : aG) (fin : Int) (e : Nat) : List (Nat × Nat) → Nat → Nat → Prop
  | [], s, s' => s' = s
  | c :: cs, s, s' => c.2 = s ∧ bg s = [c.1] ∧ k 1 s = 11 ∧ k 2 s = (G.2.1 : Int) ∧ ∃ s1 s2, P (q 2 c.1).toNat (g2 :: G.1, G.2.1 + 1, G.2.2.1, (G.2.1 : Int), G.2.2.2.2) (s + 1) 0 s1 ∧ a_fn P G fin s1 s2 ∧
    (if cs = [] ∧ fin = -1 then s' = s2 else (bg s2 = [] ∧ k 1 s2 = 6 ∧ k 2 s2 = (e : Int) ∧ a_ct P G g2 fin e cs (s2 + 1) s'))
/-- a node of one instruction -/
def a_one (n : Nat) (G : aC) (i j e : Nat) (o x y z : Int) : Prop :=
  (bg i).length = j + 1 ∧ e = i + 1 ∧ k 1 i = o ∧ k 2 i = x ∧ k 3 i = y ∧ k 4 i = z ∧ k 5 i = (n : Int) ∧ (a_rk o → ch i = a_hs G.1)
def a_try (P : Nat → aC → Nat → Nat → Nat → Prop) (n : Nat) (G : aC) (i j e : Nat) : Prop :=
  ∃ (cs : List (Nat × Nat)) (p1 p2 l : Nat) (hs : List (Int × Int)), a_chain q (q 3 n) (cs.map fun c => c.1) ∧ hs = (if q 1 n = -1 then [] else [(-1, (l : Int))]) ∧
    P (q 2 n).toNat ((n, G.2.2.2.1, G.2.2.2.2, (cs.map fun c => (q 1 c.1, (c.2 : Int))) ++ hs) :: G.1, G.2) i (j + 1) p1 ∧ a_fn P G (q 1 n) p1 p2 ∧
    bg p2 = [] ∧ k 1 p2 = 6 ∧ k 2 p2 = (e : Int) ∧ a_ct q k bg P G (n, G.2.2.2.1, G.2.2.2.2, hs) (q 1 n) e cs (p2 + 1) l ∧
    (if q 1 n = -1 then e = l else (bg l = [] ∧ k 1 l = 11 ∧ k 2 l = (G.2.1 : Int) ∧ ∃ l', P (q 1 n).toNat (G.1, G.2.1 + 1, G.2.2.1 + 1, G.2.2.2) (l + 1) 0 l' ∧ bg l' = [] ∧ k 1 l' = 12 ∧ k 2 l' = (G.2.1 : Int) ∧ ch l' = a_hs G.1 ∧ e = l' + 1))
def a_using (P : Nat → aC → Nat → Nat → Nat → Prop) (n : Nat) (G : aC) (i j e : Nat) : Prop :=
  ∃ (i' j' p : Nat) (hs : List (Int × Int)), (if q 1 n = -1 then i' = i ∧ j' = j + 1 else ((bg i).length = j + 1 ∧ k 1 i = 18 ∧ k 2 i = q 1 n ∧ k 5 i = (n : Int) ∧ ch i = a_hs G.1 ∧ i' = i + 1 ∧ j' = 0)) ∧
    P (q 2 n).toNat ((n, G.2.2.2.1, G.2.2.2.2, hs) :: G.1, G.2) i' j' p ∧
    (if q 3 n = -1 then hs = [] ∧ e = p else (hs = [(-1, ((p + 2 : Nat) : Int))] ∧ e = p + 6 ∧
      (bg p = [] ∧ k 1 p = 17 ∧ k 2 p = q 3 n ∧ k 5 p = (n : Int) ∧ ch p = a_hs G.1) ∧
      (bg (p + 1) = [] ∧ k 1 (p + 1) = 6 ∧ k 2 (p + 1) = (e : Int)) ∧
      (bg (p + 2) = [] ∧ k 1 (p + 2) = 11 ∧ k 2 (p + 2) = (G.2.1 : Int)) ∧
      (bg (p + 3) = [] ∧ k 1 (p + 3) = 17 ∧ k 2 (p + 3) = q 3 n ∧ k 5 (p + 3) = (n : Int) ∧ ch (p + 3) = (-1, ((p + 5 : Nat) : Int)) :: a_hs G.1) ∧
      (bg (p + 4) = [] ∧ k 1 (p + 4) = 12 ∧ k 2 (p + 4) = (G.2.1 : Int) ∧ ch (p + 4) = a_hs G.1) ∧
      (bg (p + 5) = [] ∧ k 1 (p + 5) = 19 ∧ k 2 (p + 5) = (G.2.1 : Int) ∧ ch (p + 5) = a_hs G.1)))
def a_node (P : Nat → aC → Nat → Nat → Nat → Prop) (n : Nat) (G : aC) (i j e : Nat) : Prop :=
  let s := q 0 n
  let a := q 1 n
  let b := q 2 n
  let c := q 3 n
  if s = 0 then a_one k bg ch n G i j e 1 a b 0
  else if s = 1 then a_one k bg ch n G i j e 2 a b 0
  else if s = 2 then a_one k bg ch n G i j e 3 a b 0
  else if s = 3 then a_one k bg ch n G i j e 4 b 0 0
  else if s = 4 then ∃ mid, P b.toNat G i (j + 1) mid ∧ P c.toNat G mid 0 e
  else if s = 5 then (bg i).length = j + 1 ∧ k 1 i = 5 ∧ k 3 i = a ∧ ∃ mid, P b.toNat G (i + 1) 0 mid ∧ (if c = -1 then e = mid ∧ k 2 i = (e : Int) else (bg mid = [] ∧ k 1 mid = 6 ∧ k 2 mid = (e : Int) ∧ k 2 i = ((mid + 1 : Nat) : Int) ∧ P c.toNat G (mid + 1) 0 e))
  else if s = 6 then (bg i).length = j + 1 ∧ k 1 i = 20 ∧ bg (i + 1) = [] ∧ k 1 (i + 1) = 5 ∧ k 2 (i + 1) = (e : Int) ∧ k 3 (i + 1) = 100 + a ∧ ∃ mid, P b.toNat (G.1, G.2.1, G.2.2.1, G.2.2.2.1, some (e, G.1.length)) (i + 2) 0 mid ∧ bg mid = [] ∧ k 1 mid = 6 ∧ k 2 mid = ((i + 1 : Nat) : Int) ∧ e = mid + 1
  else if s = 7 then ∃ lt lg, G.2.2.2.2 = some (lt, lg) ∧ a_wb q k bg ch P lt lg G.1 G.2.1 G.2.2.1 i (j + 1)
  else if s = 8 then (bg i).length = j + 1 ∧ k 1 i = 7 ∧ k 2 i = b ∧ k 3 i = (G.2.2.1 : Int) ∧ a_wo q k bg ch P G.1 G.2.1 G.2.2.1 (i + 1) 0
  else if s = 9 then a_one k bg ch n G i j e 9 a b 0
  else if s = 10 then a_one k bg ch n G i j e 10 a b 0
  else if s = 11 then a_try q k bg ch P n G i j e
  else if s = 13 then a_using q k bg ch P n G i j e
  else if s = 14 then 0 ≤ G.2.2.2.1 ∧ G.2.2.2.1 < (G.2.1 : Int) ∧ a_one k bg ch n G i j e 12 G.2.2.2.1 0 0
  else if s = 15 then 0 ≤ G.2.2.2.1 ∧ G.2.2.2.1 < (G.2.1 : Int) ∧ a_one k bg ch n G i j e 13 a b G.2.2.2.1
  else if s = 16 then 0 ≤ G.2.2.2.1 ∧ G.2.2.2.1 < (G.2.1 : Int) ∧ a_one k bg ch n G i j e 14 a G.2.2.2.1 0
  else if s = 17 then 0 ≤ G.2.2.2.1 ∧ G.2.2.2.1 < (G.2.1 : Int) ∧ a_one k bg ch n G i j e 15 a G.2.2.2.1 0
  else if s = 18 then a_one k bg ch n G i j e 16 a 0 0
  else False
/-- m bounds how deep nodes are laid in each other -/
def a_Ld : Nat → Nat → aC → Nat → Nat → Nat → Prop
  | 0, _, _, _, _, _ => False
  | m + 1, n, G, i, j, e => (bg i)[j]? = some n ∧ a_node q k bg ch (a_Ld m) n G i j e
end ALa
