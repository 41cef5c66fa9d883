/-! the object's 416 cells as one function M of numbers: fields and rows by cell and index; cc is the cell of the compiler's code, tr the table's row (its length: M 21 2, its numbers: M 22), T what else there is -/
def yi (x : Int) : Int32 := Int32.ofInt x
def yl (x : Int) : Int64 := Int64.ofInt x
/-- as an int has it -/
def yw (x : Int) : Int := (yi x).toInt
abbrev yM : Type := Nat → Nat → Int
/-- an object's class and fields: 0 an int, 1 a long, 2 the code's cell, 3 the table's row, k + 4 the cell k -/
def zfs (a : Nat) : Option (Nat × List Nat) :=
  cond (Nat.ble 416 a) none (cond (Nat.ble a 23) (cond (Nat.beq a 0) (some (9, [5, 22, 25, 27, 100, 200, 310, 0, 0, 0, 0, 0])) (cond (Nat.beq a 1) (some (6, [0, 6, 7, 8, 0, 9, 10, 0, 11, 12, 13, 14, 15, 16, 17, 18, 19, 20, 21])) (cond (Nat.beq a 18) (some (2, [5, 23, 24, 0, 0])) (cond (Nat.beq a 21) (some (7, [3, 0])) none))))
  (cond (Nat.ble a 95) (cond (Nat.beq ((a - 24) % 9) 0) (some (0, [0, 0, a + 5, a + 6, a + 7, a + 8, a + 9, a + 10, a + 11, a + 12, 0, 0, 0])) none)
  (cond (Nat.ble a 195) (cond (Nat.beq a 96) (some (1, [5, 27, 25, 101, 102, 103, 104, 0, 105, 106, 0, 107, 108, 2, 0])) (cond (Nat.ble 105 a) (some (5, [0, 0, 0, 0, 0, 0])) none))
  (cond (or (Nat.beq a 196) (Nat.beq a 306)) (some (4, [5, 27, 25, a + 5, a + 17, a + 18, a + 19, a + 20, a + 21, a + 22, 1, a + 23, 0, 0, 0, 0, 0, 0]))
  (cond (or (Nat.beq a 197) (Nat.beq a 307)) (some (8, [0, 0, a + 5, a + 6, a + 7, a + 8, a + 9, a + 10, a + 11, a + 12, a + 13, a + 14, a + 15]))
  (cond (or (and (Nat.ble 216 a) (and (Nat.ble a 305) (Nat.beq ((a - 216) % 3) 0))) (and (Nat.ble 326 a) (Nat.beq ((a - 326) % 3) 0))) (some (3, [0, 0, 0, 0, a + 5, a + 6])) none))))))
/-- a row of references: how many, of which type, the first one's cell, the step -/
def zqr (a : Nat) : Option (Nat × Nat × Nat × Nat) := cond (Nat.beq a 23) (some (8, 1, 24, 9)) (cond (Nat.beq a 97) (some (91, 2, 105, 1)) (cond (or (Nat.beq a 215) (Nat.beq a 325)) (some (30, 3, a + 1, 3)) none))
/-- how long a row of numbers is -/
def ylm (o : Nat) : Nat := cond (Nat.ble o 12) (cond (Nat.ble o 3) 3000 (cond (Nat.beq o 4) 13 (cond (Nat.beq o 7) 240 (cond (Nat.ble o 10) 40 3000)))) (cond (Nat.ble o 16) (cond (Nat.beq o 13) 9 (cond (Nat.beq o 14) 10 (cond (Nat.beq o 15) 4 90))) (cond (Nat.beq o 17) 8 (cond (Nat.beq o 18) 120 90)))
def yln (a : Nat) : Nat :=
  cond (Nat.ble a 23) (cond (Nat.ble a 4) 13 (cond (Nat.ble a 6) 8 (cond (Nat.beq a 19) 808 90)))
  (cond (Nat.ble a 95) (cond (Nat.beq ((a - 24) % 9) 8) 690 300)
  (cond (Nat.ble a 104) (cond (Nat.ble a 100) 390 (cond (Nat.ble a 102) 300 90)) (cond (Nat.ble a 305) (ylm (a - 196)) (ylm (a - 306)))))
def yrow (f : Nat → Int) (n : Nat) : List Int32 := (List.range n).map fun i => yi (f i)
def yfv (M : yM) (cc tr a i c : Nat) : Value := match c with
  | 0 => .int (yi (M a i))
  | 1 => .long (yl (M a i))
  | 2 => .ref cc
  | 3 => .ref tr
  | k + 4 => .ref k
def yfl (M : yM) (cc tr a : Nat) (fs : List Nat) : List Value := fs.mapIdx fun i c => yfv M cc tr a i c
def yqs (n b s : Nat) : List (Option Nat) := (List.range n).map fun i => some (b + s * i)
def yst (M : yM) (cc tr : Nat) (T : Nat → zO) : Nat → zO := fun a =>
  cond (and (Nat.ble a 415) (!(Nat.beq a 22))) (match zfs a with
    | some (c, fs) => .inl (c, yfl M cc tr a fs)
    | none => match zqr a with
      | some (n, t, b, s) => .inr (.inr (.inr (t, yqs n b s)))
      | none => .inr (.inl (yrow (M a) (yln a)))) (cond (Nat.beq a tr) (.inr (.inl (yrow (M 22) (M 21 2).toNat))) (T a))
def yU (M : yM) (a i : Nat) (x : Int) : yM := fun b j => if b = a ∧ j = i then x else M b j
/-- is it a row of numbers -/
def zisN (a : Nat) : Bool := and (and (Nat.ble a 415) (!(Nat.beq a 22))) (and (zfs a).isNone (zqr a).isNone)
theorem yi_add {x y : Int} : yi x + yi y = yi (x + y) := (Int32.ofInt_add x y).symm
theorem yi_w {x : Int32} : yi x.toInt = x := Int32.ofInt_toInt x
theorem yw_of {x : Int} (h0 : -2147483648 ≤ x) (h1 : x ≤ 2147483647) : yw x = x := Int32.toInt_ofInt_of_le (by omega) (by omega)
theorem yrow_len {f : Nat → Int} {n : Nat} : (yrow f n).length = n := by unfold yrow; rw [List.length_map, List.length_range]
theorem yrow_get {f : Nat → Int} {n i : Nat} (h : i < n) : (yrow f n)[i]? = some (yi (f i)) := by
  unfold yrow
  rw [List.getElem?_map, List.getElem?_range h]; rfl
theorem yrow_set {f : Nat → Int} {n i : Nat} {x : Int} : (yrow f n).set i (yi x) = yrow (fun j => if j = i then x else f j) n := by
  refine List.ext_getElem? fun j => ?_
  rw [List.getElem?_set, yrow_len]
  by_cases hj : j < n
  · rw [yrow_get hj, yrow_get hj]
    by_cases he : i = j
    · subst he
      rw [if_pos rfl, if_pos hj, if_pos rfl]
    · rw [if_neg he, if_neg (fun q => he q.symm)]
  · rw [List.getElem?_eq_none (l := yrow f n) (by rw [yrow_len]; omega), List.getElem?_eq_none (l := yrow (fun j => if j = i then x else f j) n) (by rw [yrow_len]; omega)]
    by_cases he : i = j
    · subst he
      rw [if_pos rfl, if_neg hj]
    · rw [if_neg he]
section YSt
variable {M : yM} {cc tr : Nat} {T : Nat → zO} {a c i : Nat} {fs : List Nat}
theorem z_416 (h : a ≤ 415) : Nat.ble 416 a = false := by
  cases q : Nat.ble 416 a with
  | false => rfl
  | true => have := Nat.le_of_ble_eq_true q; omega
theorem zfs_ok (h : zfs a = some (c, fs)) : and (Nat.ble a 415) (!(Nat.beq a 22)) = true := by
  have h1 : a ≤ 415 := by
    rcases Nat.lt_or_ge a 416 with q | q
    · omega
    · unfold zfs at h
      rw [Nat.ble_eq_true_of_le q] at h
      cases h
  rw [Nat.ble_eq_true_of_le h1]
  cases q : Nat.beq a 22 with
  | false => rfl
  | true =>
    have e := Nat.eq_of_beq_eq_true q
    subst e
    cases h
theorem zfs_lt (h : zfs a = some (c, fs)) : a ≤ 415 := Nat.le_of_ble_eq_true (ze_and (zfs_ok h)).1
theorem yst_num (h : zisN a = true) : yst M cc tr T a = .inr (.inl (yrow (M a) (yln a))) := by
  obtain ⟨h1, h2⟩ := ze_and h
  obtain ⟨h2, h3⟩ := ze_and h2
  unfold yst
  rw [h1, Option.isNone_iff_eq_none.mp h2, Option.isNone_iff_eq_none.mp h3]; rfl
theorem yst_obj (h : zfs a = some (c, fs)) : yst M cc tr T a = .inl (c, yfl M cc tr a fs) := by
  unfold yst
  rw [zfs_ok h, h]; rfl
theorem zqr_none {q : Nat × Nat × Nat × Nat} (h : zqr a = some q) : zfs a = none := by
  unfold zqr at h
  cases h1 : Nat.beq a 23 with
  | true => have e := Nat.eq_of_beq_eq_true h1; subst e; rfl
  | false =>
    rw [h1] at h
    cases h2 : Nat.beq a 97 with
    | true => have e := Nat.eq_of_beq_eq_true h2; subst e; rfl
    | false =>
      rw [h2] at h
      cases h3 : Nat.beq a 215 with
      | true => have e := Nat.eq_of_beq_eq_true h3; subst e; rfl
      | false =>
        cases h4 : Nat.beq a 325 with
        | true => have e := Nat.eq_of_beq_eq_true h4; subst e; rfl
        | false => rw [h3, h4] at h; cases h
theorem zqr_ok {q : Nat × Nat × Nat × Nat} (h : zqr a = some q) : and (Nat.ble a 415) (!(Nat.beq a 22)) = true := by
  unfold zqr at h
  cases h1 : Nat.beq a 23 with
  | true => have e := Nat.eq_of_beq_eq_true h1; subst e; rfl
  | false =>
    rw [h1] at h
    cases h2 : Nat.beq a 97 with
    | true => have e := Nat.eq_of_beq_eq_true h2; subst e; rfl
    | false =>
      rw [h2] at h
      cases h3 : Nat.beq a 215 with
      | true => have e := Nat.eq_of_beq_eq_true h3; subst e; rfl
      | false =>
        cases h4 : Nat.beq a 325 with
        | true => have e := Nat.eq_of_beq_eq_true h4; subst e; rfl
        | false => rw [h3, h4] at h; cases h
theorem yst_refs {n t b s : Nat} (h : zqr a = some (n, t, b, s)) : yst M cc tr T a = .inr (.inr (.inr (t, yqs n b s))) := by
  unfold yst
  rw [zqr_ok h, zqr_none h, h]; rfl
theorem yst_tab (h : tr = 22 ∨ 416 ≤ tr) : yst M cc tr T tr = .inr (.inl (yrow (M 22) (M 21 2).toNat)) := by
  unfold yst
  have e : and (Nat.ble tr 415) (!(Nat.beq tr 22)) = false := by
    rcases h with rfl | h
    · rfl
    · cases q : Nat.ble tr 415 with
      | false => rfl
      | true => have := Nat.le_of_ble_eq_true q; omega
  rw [e, Nat.beq_refl]; rfl
theorem yfl_get (h : fs[i]? = some c) : (yfl M cc tr a fs)[i]? = some (yfv M cc tr a i c) := by
  unfold yfl
  rw [List.getElem?_mapIdx, h]; rfl
theorem yfl_len : (yfl M cc tr a fs).length = fs.length := by unfold yfl; rw [List.length_mapIdx]
theorem yU_at {x : Int} : yU M a i x a i = x := if_pos ⟨rfl, rfl⟩
theorem yU_ne {b j : Nat} {x : Int} (h : ¬(b = a ∧ j = i)) : yU M a i x b j = M b j := if_neg h
theorem zisN_ne (h : zisN a = true) : a ≠ 21 ∧ a ≠ 22 := by
  constructor
  · intro q; subst q; cases h
  · intro q; subst q; cases h
theorem zfs_ne {k : Nat} (h : zfs a = some (c, fs)) (hi : fs[i]? = some k) : ¬(21 = a ∧ 2 = i) ∧ a ≠ 22 := by
  constructor
  · rintro ⟨rfl, rfl⟩
    have e : fs = [3, 0] := (Prod.mk.inj (Option.some.inj h)).2.symm
    subst e
    cases hi
  · intro q; subst q; cases h
/-- what stands elsewhere is as it was -/
theorem yst_else {N : yM} {b : Nat} (h : ∀ j, N b j = M b j) (h21 : N 21 2 = M 21 2) (h22 : N 22 = M 22) : yst N cc tr T b = yst M cc tr T b := by
  have e : N b = M b := funext h
  have e2 : ∀ fs, yfl N cc tr b fs = yfl M cc tr b fs := by
    intro fs
    unfold yfl
    congr 1
    funext j d
    match d with
    | 0 => show Value.int _ = Value.int _; rw [h j]
    | 1 => show Value.long _ = Value.long _; rw [h j]
    | 2 => rfl
    | 3 => rfl
    | k + 4 => rfl
  unfold yst
  rw [h21, h22, e]
  cases hf : zfs b with
  | none => rfl
  | some q => obtain ⟨c', fs'⟩ := q; dsimp only; rw [e2 fs']
theorem yst_setA {x : Int} (h : zisN a = true) : zU (yst M cc tr T) a (.inr (.inl ((yrow (M a) (yln a)).set i (yi x)))) = yst (yU M a i x) cc tr T := by
  funext b
  unfold zU
  by_cases hb : b = a
  · subst hb
    rw [if_pos rfl, yst_num h, yrow_set]
    refine congrArg (fun f => Sum.inr (Sum.inl (yrow f (yln b)))) (funext fun j => ?_)
    unfold yU
    by_cases hj : j = i
    · rw [if_pos hj, if_pos ⟨rfl, hj⟩]
    · rw [if_neg hj, if_neg (fun q => hj q.2)]
  · rw [if_neg hb]
    have hne := zisN_ne h
    exact (yst_else (fun j => yU_ne fun q => hb q.1) (yU_ne fun q => hne.1 q.1.symm) (funext fun j => yU_ne fun q => hne.2 q.1.symm)).symm
theorem yst_setB {x : Int} {u : Value} (h : zfs a = some (c, fs)) (hi : (fs[i]? = some 0 ∧ u = .int (yi x)) ∨ (fs[i]? = some 1 ∧ u = .long (yl x))) : zU (yst M cc tr T) a (.inl (c, (yfl M cc tr a fs).set i u)) = yst (yU M a i x) cc tr T := by
  have hne : ¬(21 = a ∧ 2 = i) ∧ a ≠ 22 := by
    rcases hi with ⟨hi, -⟩ | ⟨hi, -⟩
    · exact zfs_ne h hi
    · exact zfs_ne h hi
  funext b
  unfold zU
  by_cases hb : b = a
  · subst hb
    rw [if_pos rfl, yst_obj h]
    refine congrArg (fun l => Sum.inl (c, l)) (List.ext_getElem? fun j => ?_)
    rw [List.getElem?_set, yfl_len]
    unfold yfl
    rw [List.getElem?_mapIdx, List.getElem?_mapIdx]
    by_cases hj : i = j
    · subst hj
      rcases hi with ⟨hi, rfl⟩ | ⟨hi, rfl⟩
      · rw [if_pos rfl, if_pos (List.getElem?_eq_some_iff.mp hi).1, hi]
        show some (Value.int (yi x)) = some (Value.int (yi (yU M b i x b i)))
        rw [yU_at]
      · rw [if_pos rfl, if_pos (List.getElem?_eq_some_iff.mp hi).1, hi]
        show some (Value.long (yl x)) = some (Value.long (yl (yU M b i x b i)))
        rw [yU_at]
    · rw [if_neg hj]
      congr 1
      funext d
      match d with
      | 0 =>
        show Value.int _ = Value.int _
        rw [yU_ne (fun q => hj q.2.symm)]
      | 1 =>
        show Value.long _ = Value.long _
        rw [yU_ne (fun q => hj q.2.symm)]
      | 2 => rfl
      | 3 => rfl
      | k + 4 => rfl
  · rw [if_neg hb]
    exact (yst_else (fun j => yU_ne fun q => hb q.1) (yU_ne hne.1) (funext fun j => yU_ne fun q => hne.2 q.1.symm)).symm
theorem yst_setT {x : Int} (h : tr = 22 ∨ 416 ≤ tr) : zU (yst M cc tr T) tr (.inr (.inl ((yrow (M 22) (M 21 2).toNat).set i (yi x)))) = yst (yU M 22 i x) cc tr T := by
  funext b
  unfold zU
  by_cases hb : b = tr
  · subst hb
    rw [if_pos rfl, yst_tab h, yrow_set]
    have e : yU M 22 i x 21 2 = M 21 2 := yU_ne (by omega)
    rw [e]
    refine congrArg (fun f => Sum.inr (Sum.inl (yrow f (M 21 2).toNat))) (funext fun j => ?_)
    unfold yU
    by_cases hj : j = i
    · rw [if_pos hj, if_pos ⟨rfl, hj⟩]
    · rw [if_neg hj, if_neg (fun q => hj q.2)]
  · rw [if_neg hb]
    have hn : Nat.beq b tr = false := by
      cases q : Nat.beq b tr with
      | false => rfl
      | true => exact absurd (Nat.eq_of_beq_eq_true q) hb
    by_cases h2 : b = 22
    · subst h2
      unfold yst
      rw [hn]; rfl
    · unfold yst
      rw [hn]
      have e : ∀ j, yU M 22 i x b j = M b j := fun j => yU_ne fun q => h2 q.1
      have e2 : ∀ fs, yfl (yU M 22 i x) cc tr b fs = yfl M cc tr b fs := by
        intro fs
        unfold yfl
        congr 1
        funext j d
        match d with
        | 0 => show Value.int _ = Value.int _; rw [e j]
        | 1 => show Value.long _ = Value.long _; rw [e j]
        | 2 => rfl
        | 3 => rfl
        | k + 4 => rfl
      rw [show yU M 22 i x b = M b from funext e]
      cases hf : zfs b with
      | none => rfl
      | some q => obtain ⟨c', fs'⟩ := q; dsimp only; rw [e2 fs']; rfl
end YSt
