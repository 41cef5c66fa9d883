/-! the object's 416 cells by number: A the rows of numbers, B the int fields, P the long ones, R the references that change; T what was made behind it -/
/-- an object's class and fields: 0 an int, 1 a long, 2 a reference that changes, k + 3 the cell k -/
def zfs (a : Nat) : Option (Nat × List Nat) :=
  cond (Nat.ble 416 a) none (cond (Nat.ble a 23) (cond (Nat.beq a 0) (some (9, [4, 21, 24, 26, 99, 199, 309, 0, 0, 0, 0, 0])) (cond (Nat.beq a 1) (some (6, [0, 5, 6, 7, 0, 8, 9, 0, 10, 11, 12, 13, 14, 15, 16, 17, 18, 19, 20])) (cond (Nat.beq a 18) (some (2, [4, 22, 23, 0, 0])) (cond (Nat.beq a 21) (some (7, [2, 0])) none))))
  (cond (Nat.ble a 95) (cond (Nat.beq ((a - 24) % 9) 0) (some (0, [0, 0, a + 4, a + 5, a + 6, a + 7, a + 8, a + 9, a + 10, a + 11, 0, 0, 0])) none)
  (cond (Nat.ble a 195) (cond (Nat.beq a 96) (some (1, [4, 26, 24, 100, 101, 102, 103, 0, 104, 105, 0, 106, 107, 2, 0])) (cond (Nat.ble 105 a) (some (5, [0, 0, 0, 0, 0, 0])) none))
  (cond (or (Nat.beq a 196) (Nat.beq a 306)) (some (4, [4, 26, 24, a + 4, a + 16, a + 17, a + 18, a + 19, a + 20, a + 21, 1, a + 22, 0, 0, 0, 0, 0, 0]))
  (cond (or (Nat.beq a 197) (Nat.beq a 307)) (some (8, [0, 0, a + 4, a + 5, a + 6, a + 7, a + 8, a + 9, a + 10, a + 11, a + 12, a + 13, a + 14]))
  (cond (or (and (Nat.ble 216 a) (and (Nat.ble a 305) (Nat.beq ((a - 216) % 3) 0))) (and (Nat.ble 326 a) (Nat.beq ((a - 326) % 3) 0))) (some (3, [0, 0, 0, 0, a + 4, a + 5])) none))))))
/-- a row of references that never changes -/
def zqs (a : Nat) : Option (Nat × List (Option Nat)) := cond (Nat.beq a 23) (some (1, (List.range 8).map fun i => some (24 + 9 * i))) (cond (Nat.beq a 97) (some (2, (List.range 91).map fun i => some (105 + i))) (cond (or (Nat.beq a 215) (Nat.beq a 325)) (some (3, (List.range 30).map fun i => some (a + 1 + 3 * i))) none))
def zfv (B : Nat → Nat → Int32) (P : Nat → Int64) (R : Nat → Nat) (a i c : Nat) : Value := match c with
  | 0 => .int (B a i)
  | 1 => .long (P a)
  | 2 => .ref (R a)
  | k + 3 => .ref k
def zfl (B : Nat → Nat → Int32) (P : Nat → Int64) (R : Nat → Nat) (a : Nat) (fs : List Nat) : List Value := fs.mapIdx fun i c => zfv B P R a i c
def zst (A : Nat → List Int32) (B : Nat → Nat → Int32) (P : Nat → Int64) (R : Nat → Nat) (T : Nat → zO) : Nat → zO := fun a =>
  cond (Nat.ble 416 a) (T a) (match zfs a with
    | some (c, fs) => .inl (c, zfl B P R a fs)
    | none => match zqs a with
      | some q => .inr (.inr (.inr q))
      | none => .inr (.inl (A a)))
def zA (A : Nat → List Int32) (a : Nat) (xs : List Int32) : Nat → List Int32 := fun b => if b = a then xs else A b
def zB (B : Nat → Nat → Int32) (a i : Nat) (x : Int32) : Nat → Nat → Int32 := fun b j => if b = a ∧ j = i then x else B b j
def zPn (P : Nat → Int64) (a : Nat) (x : Int64) : Nat → Int64 := fun b => if b = a then x else P b
def zRn (R : Nat → Nat) (a x : Nat) : Nat → Nat := fun b => if b = a then x else R b
/-- is it a row of numbers -/
def zisN (a : Nat) : Bool := and (Nat.ble a 415) (and (zfs a).isNone (zqs a).isNone)
section ZSt
variable {A : Nat → List Int32} {B : Nat → Nat → Int32} {P : Nat → Int64} {R : Nat → Nat} {T : Nat → zO} {a c i : Nat} {fs : List Nat}
theorem z_416 (h : a ≤ 415) : Nat.ble 416 a = false := by
  cases q : Nat.ble 416 a with
  | false => rfl
  | true => have := Nat.le_of_ble_eq_true q; omega
theorem zfs_lt (h : zfs a = some (c, fs)) : a ≤ 415 := by
  rcases Nat.lt_or_ge a 416 with q | q
  · omega
  · unfold zfs at h
    rw [Nat.ble_eq_true_of_le q] at h
    cases h
theorem zst_num (h : zisN a = true) : zst A B P R T a = .inr (.inl (A a)) := by
  obtain ⟨h1, h2⟩ := ze_and h
  obtain ⟨h2, h3⟩ := ze_and h2
  unfold zst
  rw [z_416 (Nat.le_of_ble_eq_true h1), Option.isNone_iff_eq_none.mp h2, Option.isNone_iff_eq_none.mp h3]; rfl
theorem zst_obj (h : zfs a = some (c, fs)) : zst A B P R T a = .inl (c, zfl B P R a fs) := by
  unfold zst
  rw [z_416 (zfs_lt h), h]; rfl
theorem zst_setA {xs : List Int32} (h : zisN a = true) : zU (zst A B P R T) a (.inr (.inl xs)) = zst (zA A a xs) B P R T := by
  funext b
  unfold zU
  by_cases hb : b = a
  · subst hb
    rw [if_pos rfl, zst_num h]
    unfold zA
    rw [if_pos rfl]
  · rw [if_neg hb]
    unfold zst zA
    rw [if_neg hb]
theorem zfl_get (h : fs[i]? = some c) : (zfl B P R a fs)[i]? = some (zfv B P R a i c) := by
  unfold zfl
  rw [List.getElem?_mapIdx, h]; rfl
theorem zfl_len : (zfl B P R a fs).length = fs.length := by unfold zfl; rw [List.length_mapIdx]
theorem zst_setB {x : Int32} (h : zfs a = some (c, fs)) (hi : fs[i]? = some 0) : zU (zst A B P R T) a (.inl (c, (zfl B P R a fs).set i (.int x))) = zst A (zB B a i x) P R T := by
  funext b
  unfold zU
  by_cases hb : b = a
  · subst hb
    rw [if_pos rfl, zst_obj h]
    refine congrArg (fun l => Sum.inl (c, l)) (List.ext_getElem? fun j => ?_)
    rw [List.getElem?_set, zfl_len]
    unfold zfl
    rw [List.getElem?_mapIdx, List.getElem?_mapIdx]
    by_cases hj : i = j
    · subst hj
      rw [if_pos rfl, if_pos (List.getElem?_eq_some_iff.mp hi).1, hi]
      show some (Value.int x) = some (Value.int (zB B b i x b i))
      unfold zB
      rw [if_pos ⟨rfl, rfl⟩]
    · rw [if_neg hj]
      congr 1
      funext d
      match d with
      | 0 =>
        show Value.int _ = Value.int _
        unfold zB
        rw [if_neg (fun q => hj q.2.symm)]
      | 1 => rfl
      | 2 => rfl
      | k + 3 => rfl
  · rw [if_neg hb]
    unfold zst
    have e : ∀ fs, zfl B P R b fs = zfl (zB B a i x) P R b fs := by
      intro fs
      unfold zfl
      congr 1
      funext j d
      match d with
      | 0 =>
        show Value.int _ = Value.int _
        unfold zB
        rw [if_neg (fun q => hb q.1)]
      | 1 => rfl
      | 2 => rfl
      | k + 3 => rfl
    cases hf : zfs b with
    | none => rfl
    | some q => obtain ⟨c', fs'⟩ := q; dsimp only; rw [e fs']
end ZSt
/-- rows are not too long -/
def zWL (A : Nat → List Int32) : Prop := ∀ a, (A a).length ≤ 1048576
theorem zwr_len {xs : List Int32} {k x : Int32} : (zwr xs k x).length = xs.length := by
  unfold zwr
  split
  · rw [List.length_set]
  · rfl
theorem zWL_set {A : Nat → List Int32} {a : Nat} {k x : Int32} (h : zWL A) : zWL (zA A a (zwr (A a) k x)) := by
  intro b
  unfold zA
  by_cases hb : b = a
  · rw [if_pos hb, zwr_len]; exact h a
  · rw [if_neg hb]; exact h b
section ZPr
variable {sc : List Int32} {C : List zI} {W : List (List Nat)} {n dd j : Nat} {L : zL} {S : List Value} {H' : Nat → zO} {v : Option Value} {pc ln op x y z w a c : Nat} {fs : List Nat} {k b : Int32}
variable {A : Nat → List Int32} {B : Nat → Nat → Int32} {P : Nat → Int64} {R : Nat → Nat} {T : Nat → zO}
theorem p_get (hn : 416 ≤ n) (hc : C[j]? = some (pc, ln, 38, x, y, z, w)) (hs : zfs a = some (x, fs)) (hf : fs[y]? = some c) (hk : zG sc C W n dd (j + 1) L (zfv B P R a y c :: S) (zst A B P R T) v H') : zG sc C W n dd j L (.ref a :: S) (zst A B P R T) v H' :=
  r_get hc (by have := zfs_lt hs; omega) (zst_obj hs) (zfl_get hf) hk
theorem p_put (hn : 416 ≤ n) (hc : C[j]? = some (pc, ln, op, x, y, z, w)) (ho : op = 40 ∨ op = 41) (hs : zfs a = some (x, fs)) (hf : fs[y]? = some 0) (hz : z = 0 ∨ (z = 1 ∧ (b = 0 ∨ b = 1))) (hk : zG sc C W n dd (j + 1) L S (zst A (zB B a y b) P R T) v H') : zG sc C W n dd j L (.int b :: .ref a :: S) (zst A B P R T) v H' := by
  refine r_put hc ho (by have := zfs_lt hs; omega) (zst_obj hs) (by rw [zfl_len]; exact (List.getElem?_eq_some_iff.mp hf).1) ?_ ?_
  · rcases hz with rfl | ⟨rfl, rfl | rfl⟩ <;> rfl
  · rw [zst_setB hs hf]; exact hk
theorem p_at (hn : 416 ≤ n) (hw : zWL A) (hd : 1 ≤ dd) (hc : C[j]? = some (pc, ln, op, 2, 2, z, w)) (ho : op = 96 ∨ op = 97) (h4 : S.length ≤ 4) (ha : zisN a = true) (hk : zG sc C W n dd (j + 1) L (.int (zrd (A a) k) :: S) (zst A B P R T) v H') : zG sc C W n dd j L (.int k :: .ref a :: S) (zst A B P R T) v H' := by
  have hlt : a < n := by have := Nat.le_of_ble_eq_true (ze_and ha).1; omega
  exact g_stat (as := [.ref a, .int k]) (u := some (.int (zrd (A a) k))) hc ho rfl h4 (zP_mono hd (m_at (dd := 0) hlt (zst_num ha) (hw a))) hk
theorem p_wr (hn : 416 ≤ n) (hw : zWL A) (hd : 1 ≤ dd) (hc : C[j]? = some (pc, ln, op, 24, 3, z, w)) (ho : op = 96 ∨ op = 97) (h4 : S.length ≤ 4) (ha : zisN a = true) (hk : zG sc C W n dd (j + 1) L S (zst (zA A a (zwr (A a) k b)) B P R T) v H') : zG sc C W n dd j L (.int b :: .int k :: .ref a :: S) (zst A B P R T) v H' := by
  have hlt : a < n := by have := Nat.le_of_ble_eq_true (ze_and ha).1; omega
  have h1 := m_put (sc := sc) (dd := 0) (k := k) (x := b) hlt (zst_num (A := A) (B := B) (P := P) (R := R) (T := T) ha) (hw a)
  rw [zst_setA ha] at h1
  exact g_stat (as := [.ref a, .int k, .int b]) (u := none) hc ho rfl h4 (zP_mono hd h1) hk
theorem p_incr (hn : 416 ≤ n) (hw : zWL A) (hd : 1 ≤ dd) (hc : C[j]? = some (pc, ln, op, 12, 2, z, w)) (ho : op = 96 ∨ op = 97) (h4 : S.length ≤ 4) (ha : zisN a = true) (hk : zG sc C W n dd (j + 1) L S (zst (zA A a (zwr (A a) k (zrd (A a) k + 1))) B P R T) v H') : zG sc C W n dd j L (.int k :: .ref a :: S) (zst A B P R T) v H' := by
  have hlt : a < n := by have := Nat.le_of_ble_eq_true (ze_and ha).1; omega
  have h1 := m_increment (sc := sc) (dd := 0) (k := k) hlt (zst_num (A := A) (B := B) (P := P) (R := R) (T := T) ha) (hw a)
  rw [zst_setA ha] at h1
  exact g_stat (as := [.ref a, .int k]) (u := none) hc ho rfl h4 (zP_mono hd h1) hk
end ZPr
