/-! methods as functions of the numbers, with their ties (1) -/
/-- UnwindTower$Compiler.newGuard -/
def f_66 (M : yM) (x1 : Int) (x2 : Int) : yM × Int := (ylet (M 96 7) fun v1 => (ylet (yU M 96 7 ((M 96 7) + 1)) fun M2 => (ylet (ywr M2 98 v1 x1) fun M3 => (ylet (ywr M3 99 v1 (M3 (105 + 1 * ypz 91 x2) 0)) fun M4 => (ylet (ywr M4 100 v1 x2) fun M5 => (M5, v1))))))
theorem t_66 {sc : List Int32} {dd cc : Nat} {M : yM} {x1 : Int} {x2 : Int} (hd : 2 ≤ dd) : yP sc dd 66 [.ref 96, .int (yi x1), .int (yi x2)] M cc (some ((f_66 M x1 x2).1, cc, some (.int (yi (f_66 M x1 x2).2)))) := by
  obtain ⟨dd, rfl⟩ : ∃ e, dd = e + 1 := ⟨dd - 1, by omega⟩
  refine e_meth (C := zg_c66) (W := zg_w66) (ml := 4) rfl rfl (Nat.le_of_ble_eq_true rfl) ?_
  unfold f_66
  refine e_ld (t := 2) rfl (Or.inr (Or.inl ⟨rfl, Or.inl rfl⟩)) rfl rfl ?_
  refine e_get (a := 96) (u := .int (yi (M 96 7))) rfl rfl rfl (fun _ => rfl) ?_
  refine e_stl (g := (fun t : yM × Int => some (t.1, cc, some (.int (yi t.2))))) rfl (Or.inl rfl) (fun v1 => ?_)
  refine e_ld (t := 2) rfl (Or.inr (Or.inl ⟨rfl, Or.inl rfl⟩)) (l_kr (by decide) rfl) rfl ?_
  refine e_dup rfl (Or.inr ⟨_, rfl⟩) ?_
  refine e_get (a := 96) (u := .int (yi (M 96 7))) rfl rfl rfl (fun _ => rfl) ?_
  refine e_ic (b := 1) rfl (by decide) (by decide) ?_
  refine e_add rfl ?_
  refine e_put (a := 96) rfl (Or.inl rfl) rfl rfl (Or.inl rfl) ?_
  refine y_let (fun t : yM × Int => some (t.1, cc, some (.int (yi t.2)))) (fun M2 => ?_)
  refine e_ld (t := 2) rfl (Or.inr (Or.inl ⟨rfl, Or.inl rfl⟩)) (l_kr (by decide) rfl) rfl ?_
  refine e_get (a := 96) (u := .ref 98) rfl rfl rfl (fun _ => rfl) ?_
  refine e_ld (t := 0) rfl (Or.inl ⟨rfl, Or.inl rfl⟩) l_s rfl ?_
  refine e_ld (t := 0) rfl (Or.inl ⟨rfl, Or.inl rfl⟩) (l_ki (by decide) rfl) rfl ?_
  refine e_wr (a := 98) (by omega) rfl (by decide) (Nat.le_of_ble_eq_true rfl) rfl ?_
  refine y_let (fun t : yM × Int => some (t.1, cc, some (.int (yi t.2)))) (fun M3 => ?_)
  refine e_ld (t := 2) rfl (Or.inr (Or.inl ⟨rfl, Or.inl rfl⟩)) (l_kr (by decide) rfl) rfl ?_
  refine e_get (a := 96) (u := .ref 99) rfl rfl rfl (fun _ => rfl) ?_
  refine e_ld (t := 0) rfl (Or.inl ⟨rfl, Or.inl rfl⟩) l_s rfl ?_
  refine e_ld (t := 2) rfl (Or.inr (Or.inl ⟨rfl, Or.inl rfl⟩)) (l_kr (by decide) rfl) rfl ?_
  refine e_ld (t := 0) rfl (Or.inl ⟨rfl, Or.inl rfl⟩) (l_ki (by decide) rfl) rfl ?_
  refine e_obj (a := 96) (as := [.int (yi x2)]) rfl (by decide) rfl (Nat.le_of_ble_eq_true rfl) rfl (t_68 (by omega)) ?_
  refine e_get (a := (105 + 1 * ypz 91 x2)) (u := .int (yi (M3 (105 + 1 * ypz 91 x2) 0))) rfl (fP ⟨_, ypz_lt (by decide), rfl⟩) rfl (fun _ => rfl) ?_
  refine e_wr (a := 99) (by omega) rfl (by decide) (Nat.le_of_ble_eq_true rfl) rfl ?_
  refine y_let (fun t : yM × Int => some (t.1, cc, some (.int (yi t.2)))) (fun M4 => ?_)
  refine e_ld (t := 2) rfl (Or.inr (Or.inl ⟨rfl, Or.inl rfl⟩)) (l_kr (by decide) rfl) rfl ?_
  refine e_get (a := 96) (u := .ref 100) rfl rfl rfl (fun _ => rfl) ?_
  refine e_ld (t := 0) rfl (Or.inl ⟨rfl, Or.inl rfl⟩) l_s rfl ?_
  refine e_ld (t := 0) rfl (Or.inl ⟨rfl, Or.inl rfl⟩) (l_ki (by decide) rfl) rfl ?_
  refine e_wr (a := 100) (by omega) rfl (by decide) (Nat.le_of_ble_eq_true rfl) rfl ?_
  refine y_let (fun t : yM × Int => some (t.1, cc, some (.int (yi t.2)))) (fun M5 => ?_)
  refine e_ld (t := 0) rfl (Or.inl ⟨rfl, Or.inl rfl⟩) l_s rfl ?_
  exact e_iret rfl (Or.inl rfl)
/-- UnwindTower$Compiler.newLabel -/
def f_67 (M : yM) : yM × Int := (ylet (yU M 96 10 ((M 96 10) + 1)) fun M1 => (M1, (M1 96 10)))
theorem t_67 {sc : List Int32} {dd cc : Nat} {M : yM} (hd : 1 ≤ dd) : yP sc dd 67 [.ref 96] M cc (some ((f_67 M).1, cc, some (.int (yi (f_67 M).2)))) := by
  obtain ⟨dd, rfl⟩ : ∃ e, dd = e + 1 := ⟨dd - 1, by omega⟩
  refine e_meth (C := zg_c67) (W := zg_w67) (ml := 1) rfl rfl (Nat.le_of_ble_eq_true rfl) ?_
  unfold f_67
  refine e_ld (t := 2) rfl (Or.inr (Or.inl ⟨rfl, Or.inl rfl⟩)) rfl rfl ?_
  refine e_dup rfl (Or.inr ⟨_, rfl⟩) ?_
  refine e_get (a := 96) (u := .int (yi (M 96 10))) rfl rfl rfl (fun _ => rfl) ?_
  refine e_ic (b := 1) rfl (by decide) (by decide) ?_
  refine e_add rfl ?_
  refine e_put (a := 96) rfl (Or.inl rfl) rfl rfl (Or.inl rfl) ?_
  refine y_let (fun t : yM × Int => some (t.1, cc, some (.int (yi t.2)))) (fun M1 => ?_)
  refine e_ld (t := 2) rfl (Or.inr (Or.inl ⟨rfl, Or.inl rfl⟩)) rfl rfl ?_
  refine e_get (a := 96) (u := .int (yi (M1 96 10))) rfl rfl rfl (fun _ => rfl) ?_
  exact e_iret rfl (Or.inl rfl)
/-- UnwindTower$Compiler.settle -/
def f_69_21 (N : Nat) (cc : Nat) (ih2 : yM → Int → Int → Option (yM)) (M : yM) (x1 : Int) (x3 : Int) : Option (yM) := (ih2 M x1 (x3 + 1))
theorem t_69_21 {sc : List Int32} {dd cc : Nat} {N : Nat} {ih2 : yM → Int → Int → Option (yM)} {M : yM} {x1 : Int} {x3 : Int} (hd : 1 ≤ dd) (hcc : pC cc) (ih2_ : ∀ {M : yM} {x1 : Int} {x3 : Int} {L : zL} (hL0 : L 0 = some (.ref 96)) (hL1 : L 1 = some (.int (yi x1))) (hL3 : L 3 = some (.int (yi x3))), yW sc zg_c69 zg_w69 dd 2 L [] M cc ((Option.map (fun t : yM => (t, cc, none))) (ih2 M x1 x3))) {L : zL} (hL0 : L 0 = some (.ref 96)) (hL1 : L 1 = some (.int (yi x1))) (hL3 : L 3 = some (.int (yi x3))) : yW sc zg_c69 zg_w69 dd 21 L [] M cc ((Option.map (fun t : yM => (t, cc, none))) (f_69_21 N cc ih2 M x1 x3)) := by
  unfold f_69_21
  refine e_inc (d := 1) rfl hL3 (by decide) ?_
  refine e_go rfl ?_
  exact ih2_ (l_kr (by decide) hL0) (l_ki (by decide) hL1) l_s
def f_69_2 (N : Nat) (cc : Nat) : Nat → yM → Int → Int → Option (yM)
  | 0, _, _, _ => none
  | n + 1, M, x1, x3 => (cond (yrel 3 x3 (M cc 0)) (some M) (cond (yrel 1 (yrd M 102 x3) x1) (f_69_21 N cc (f_69_2 N cc n) M x1 x3) (ylet (ywr M (cc + 2) x3 (M cc 0)) fun M3 => (f_69_21 N cc (f_69_2 N cc n) M3 x1 x3))))
theorem t_69_2 {sc : List Int32} {dd cc : Nat} {N : Nat} (hd : 1 ≤ dd) (hcc : pC cc) : ∀ (n : Nat) {M : yM} {x1 : Int} {x3 : Int} {L : zL} (hL0 : L 0 = some (.ref 96)) (hL1 : L 1 = some (.int (yi x1))) (hL3 : L 3 = some (.int (yi x3))), yW sc zg_c69 zg_w69 dd 2 L [] M cc ((Option.map (fun t : yM => (t, cc, none))) (f_69_2 N cc n M x1 x3)) := by
  intro n
  induction n with
  | zero => intros; exact y_none
  | succ n IH =>
    intro M x1 x3 L hL0 hL1 hL3
    rw [f_69_2]
    refine e_ld (t := 0) rfl (Or.inl ⟨rfl, Or.inl rfl⟩) hL3 rfl ?_
    refine e_ld (t := 2) rfl (Or.inr (Or.inl ⟨rfl, Or.inl rfl⟩)) hL0 rfl ?_
    refine e_get (a := 96) (u := .ref cc) rfl rfl rfl (fun _ => rfl) ?_
    refine e_get (a := cc) (u := .int (yi (M cc 0))) rfl (fC hcc) rfl (fun _ => rfl) ?_
    refine e_cmp (Option.map (fun t : yM => (t, cc, none))) (q := 3) (by decide) rfl (fun h1 => ?_) (fun h1 => ?_)
    · exact e_vret rfl
    · refine e_ld (t := 2) rfl (Or.inr (Or.inl ⟨rfl, Or.inl rfl⟩)) hL0 rfl ?_
      refine e_get (a := 96) (u := .ref 102) rfl rfl rfl (fun _ => rfl) ?_
      refine e_ld (t := 0) rfl (Or.inl ⟨rfl, Or.inl rfl⟩) hL3 rfl ?_
      refine e_at (a := 102) (by omega) rfl (by decide) (Nat.le_of_ble_eq_true rfl) rfl ?_
      refine e_ld (t := 0) rfl (Or.inl ⟨rfl, Or.inl rfl⟩) hL1 rfl ?_
      refine e_cmp (Option.map (fun t : yM => (t, cc, none))) (q := 1) (by decide) rfl (fun h2 => ?_) (fun h2 => ?_)
      · exact t_69_21 (by omega) hcc IH hL0 hL1 hL3
      · refine e_ld (t := 2) rfl (Or.inr (Or.inl ⟨rfl, Or.inl rfl⟩)) hL0 rfl ?_
        refine e_get (a := 96) (u := .ref cc) rfl rfl rfl (fun _ => rfl) ?_
        refine e_get (a := cc) (u := .ref (cc + 2)) rfl (fC hcc) rfl (fun _ => rfl) ?_
        refine e_ld (t := 0) rfl (Or.inl ⟨rfl, Or.inl rfl⟩) hL3 rfl ?_
        refine e_ld (t := 2) rfl (Or.inr (Or.inl ⟨rfl, Or.inl rfl⟩)) hL0 rfl ?_
        refine e_get (a := 96) (u := .ref cc) rfl rfl rfl (fun _ => rfl) ?_
        refine e_get (a := cc) (u := .int (yi (M cc 0))) rfl (fC hcc) rfl (fun _ => rfl) ?_
        refine e_wr (a := (cc + 2)) (by omega) rfl (by decide) (Nat.le_of_ble_eq_true rfl) (nC_2 hcc) ?_
        refine y_let (Option.map (fun t : yM => (t, cc, none))) (fun M3 => ?_)
        exact t_69_21 (by omega) hcc IH hL0 hL1 hL3
def f_69 (N : Nat) (cc : Nat) (M : yM) (x1 : Int) (x2 : Int) : Option (yM) := (f_69_2 N cc N M x1 x2)
theorem t_69 {sc : List Int32} {dd cc : Nat} {N : Nat} {M : yM} {x1 : Int} {x2 : Int} (hd : 2 ≤ dd) (hcc : pC cc) : yP sc dd 69 [.ref 96, .int (yi x1), .int (yi x2)] M cc ((Option.map (fun t : yM => (t, cc, none))) (f_69 N cc M x1 x2)) := by
  obtain ⟨dd, rfl⟩ : ∃ e, dd = e + 1 := ⟨dd - 1, by omega⟩
  refine e_meth (C := zg_c69) (W := zg_w69) (ml := 4) rfl rfl (Nat.le_of_ble_eq_true rfl) ?_
  unfold f_69
  refine e_ld (t := 0) rfl (Or.inl ⟨rfl, Or.inl rfl⟩) rfl rfl ?_
  refine e_st (t := 0) rfl (Or.inl ⟨rfl, Or.inl rfl⟩) rfl ?_
  exact t_69_2 (by omega) hcc N (l_kr (by decide) rfl) (l_ki (by decide) rfl) l_s
/-- UnwindTower$Faults.add -/
def f_71 (M : yM) (x1 : Int) (x2 : Int) (x3 : Int) (x4 : Int) : yM := (cond (yrel 2 (M 18 4) 202) (ylet (ywr M 19 ((M 18 4) * 4) x1) fun M2 => (ylet (ywr M2 19 (((M2 18 4) * 4) + 1) x2) fun M3 => (ylet (ywr M3 19 (((M3 18 4) * 4) + 2) x3) fun M4 => (ylet (ywr M4 19 (((M4 18 4) * 4) + 3) x4) fun M5 => (ylet (yU M5 18 4 ((M5 18 4) + 1)) fun M6 => M6))))) M)
theorem t_71 {sc : List Int32} {dd cc : Nat} {M : yM} {x1 : Int} {x2 : Int} {x3 : Int} {x4 : Int} (hd : 2 ≤ dd) : yP sc dd 71 [.ref 18, .int (yi x1), .int (yi x2), .int (yi x3), .int (yi x4)] M cc (some ((f_71 M x1 x2 x3 x4), cc, none)) := by
  obtain ⟨dd, rfl⟩ : ∃ e, dd = e + 1 := ⟨dd - 1, by omega⟩
  refine e_meth (C := zg_c71) (W := zg_w71) (ml := 5) rfl rfl (Nat.le_of_ble_eq_true rfl) ?_
  unfold f_71
  refine e_ld (t := 2) rfl (Or.inr (Or.inl ⟨rfl, Or.inl rfl⟩)) rfl rfl ?_
  refine e_get (a := 18) (u := .int (yi (M 18 4))) rfl rfl rfl (fun _ => rfl) ?_
  refine e_ic (b := 202) rfl (by decide) (by decide) ?_
  refine e_cmp (fun t : yM => some (t, cc, none)) (q := 2) (by decide) rfl (fun h1 => ?_) (fun h1 => ?_)
  · refine e_ld (t := 2) rfl (Or.inr (Or.inl ⟨rfl, Or.inl rfl⟩)) rfl rfl ?_
    refine e_get (a := 18) (u := .ref 19) rfl rfl rfl (fun _ => rfl) ?_
    refine e_ld (t := 2) rfl (Or.inr (Or.inl ⟨rfl, Or.inl rfl⟩)) rfl rfl ?_
    refine e_get (a := 18) (u := .int (yi (M 18 4))) rfl rfl rfl (fun _ => rfl) ?_
    refine e_ic (b := 4) rfl (by decide) (by decide) ?_
    refine e_mul rfl ?_
    refine e_ld (t := 0) rfl (Or.inl ⟨rfl, Or.inl rfl⟩) rfl rfl ?_
    refine e_wr (a := 19) (by omega) rfl (by decide) (Nat.le_of_ble_eq_true rfl) rfl ?_
    refine y_let (fun t : yM => some (t, cc, none)) (fun M2 => ?_)
    refine e_ld (t := 2) rfl (Or.inr (Or.inl ⟨rfl, Or.inl rfl⟩)) rfl rfl ?_
    refine e_get (a := 18) (u := .ref 19) rfl rfl rfl (fun _ => rfl) ?_
    refine e_ld (t := 2) rfl (Or.inr (Or.inl ⟨rfl, Or.inl rfl⟩)) rfl rfl ?_
    refine e_get (a := 18) (u := .int (yi (M2 18 4))) rfl rfl rfl (fun _ => rfl) ?_
    refine e_ic (b := 4) rfl (by decide) (by decide) ?_
    refine e_mul rfl ?_
    refine e_ic (b := 1) rfl (by decide) (by decide) ?_
    refine e_add rfl ?_
    refine e_ld (t := 0) rfl (Or.inl ⟨rfl, Or.inl rfl⟩) rfl rfl ?_
    refine e_wr (a := 19) (by omega) rfl (by decide) (Nat.le_of_ble_eq_true rfl) rfl ?_
    refine y_let (fun t : yM => some (t, cc, none)) (fun M3 => ?_)
    refine e_ld (t := 2) rfl (Or.inr (Or.inl ⟨rfl, Or.inl rfl⟩)) rfl rfl ?_
    refine e_get (a := 18) (u := .ref 19) rfl rfl rfl (fun _ => rfl) ?_
    refine e_ld (t := 2) rfl (Or.inr (Or.inl ⟨rfl, Or.inl rfl⟩)) rfl rfl ?_
    refine e_get (a := 18) (u := .int (yi (M3 18 4))) rfl rfl rfl (fun _ => rfl) ?_
    refine e_ic (b := 4) rfl (by decide) (by decide) ?_
    refine e_mul rfl ?_
    refine e_ic (b := 2) rfl (by decide) (by decide) ?_
    refine e_add rfl ?_
    refine e_ld (t := 0) rfl (Or.inl ⟨rfl, Or.inl rfl⟩) rfl rfl ?_
    refine e_wr (a := 19) (by omega) rfl (by decide) (Nat.le_of_ble_eq_true rfl) rfl ?_
    refine y_let (fun t : yM => some (t, cc, none)) (fun M4 => ?_)
    refine e_ld (t := 2) rfl (Or.inr (Or.inl ⟨rfl, Or.inl rfl⟩)) rfl rfl ?_
    refine e_get (a := 18) (u := .ref 19) rfl rfl rfl (fun _ => rfl) ?_
    refine e_ld (t := 2) rfl (Or.inr (Or.inl ⟨rfl, Or.inl rfl⟩)) rfl rfl ?_
    refine e_get (a := 18) (u := .int (yi (M4 18 4))) rfl rfl rfl (fun _ => rfl) ?_
    refine e_ic (b := 4) rfl (by decide) (by decide) ?_
    refine e_mul rfl ?_
    refine e_ic (b := 3) rfl (by decide) (by decide) ?_
    refine e_add rfl ?_
    refine e_ld (t := 0) rfl (Or.inl ⟨rfl, Or.inr rfl⟩) rfl rfl ?_
    refine e_wr (a := 19) (by omega) rfl (by decide) (Nat.le_of_ble_eq_true rfl) rfl ?_
    refine y_let (fun t : yM => some (t, cc, none)) (fun M5 => ?_)
    refine e_ld (t := 2) rfl (Or.inr (Or.inl ⟨rfl, Or.inl rfl⟩)) rfl rfl ?_
    refine e_dup rfl (Or.inr ⟨_, rfl⟩) ?_
    refine e_get (a := 18) (u := .int (yi (M5 18 4))) rfl rfl rfl (fun _ => rfl) ?_
    refine e_ic (b := 1) rfl (by decide) (by decide) ?_
    refine e_add rfl ?_
    refine e_put (a := 18) rfl (Or.inl rfl) rfl rfl (Or.inl rfl) ?_
    refine y_let (fun t : yM => some (t, cc, none)) (fun M6 => ?_)
    exact e_vret rfl
  · exact e_vret rfl
/-- UnwindTower$Faults.push -/
def f_77 (M : yM) (x1 : Int) : yM := (cond (yrel 0 x1 (-1)) M (cond (yrel 3 (M 18 3) 90) M (ylet (ywr M 20 (M 18 3) x1) fun M3 => (ylet (yU M3 18 3 ((M3 18 3) + 1)) fun M4 => M4))))
theorem t_77 {sc : List Int32} {dd cc : Nat} {M : yM} {x1 : Int} (hd : 2 ≤ dd) : yP sc dd 77 [.ref 18, .int (yi x1)] M cc (some ((f_77 M x1), cc, none)) := by
  obtain ⟨dd, rfl⟩ : ∃ e, dd = e + 1 := ⟨dd - 1, by omega⟩
  refine e_meth (C := zg_c77) (W := zg_w77) (ml := 2) rfl rfl (Nat.le_of_ble_eq_true rfl) ?_
  unfold f_77
  refine e_ld (t := 0) rfl (Or.inl ⟨rfl, Or.inl rfl⟩) rfl rfl ?_
  refine e_ic (b := (-1)) rfl (by decide) (by decide) ?_
  refine e_cmp (fun t : yM => some (t, cc, none)) (q := 0) (by decide) rfl (fun h1 => ?_) (fun h1 => ?_)
  · exact e_vret rfl
  · refine e_ld (t := 2) rfl (Or.inr (Or.inl ⟨rfl, Or.inl rfl⟩)) rfl rfl ?_
    refine e_get (a := 18) (u := .int (yi (M 18 3))) rfl rfl rfl (fun _ => rfl) ?_
    refine e_ld (t := 2) rfl (Or.inr (Or.inl ⟨rfl, Or.inl rfl⟩)) rfl rfl ?_
    refine e_get (a := 18) (u := .ref 20) rfl rfl rfl (fun _ => rfl) ?_
    refine e_alen (a := 20) (m := 90) rfl (fun M _ _ _ => by show some (yrow (M 20) 90).length = _; rw [yrow_len]; rfl) (by decide) (by decide) ?_
    refine e_cmp (fun t : yM => some (t, cc, none)) (q := 3) (by decide) rfl (fun h2 => ?_) (fun h2 => ?_)
    · exact e_vret rfl
    · refine e_ld (t := 2) rfl (Or.inr (Or.inl ⟨rfl, Or.inl rfl⟩)) rfl rfl ?_
      refine e_get (a := 18) (u := .ref 20) rfl rfl rfl (fun _ => rfl) ?_
      refine e_ld (t := 2) rfl (Or.inr (Or.inl ⟨rfl, Or.inl rfl⟩)) rfl rfl ?_
      refine e_get (a := 18) (u := .int (yi (M 18 3))) rfl rfl rfl (fun _ => rfl) ?_
      refine e_ld (t := 0) rfl (Or.inl ⟨rfl, Or.inl rfl⟩) rfl rfl ?_
      refine e_wr (a := 20) (by omega) rfl (by decide) (Nat.le_of_ble_eq_true rfl) rfl ?_
      refine y_let (fun t : yM => some (t, cc, none)) (fun M3 => ?_)
      refine e_ld (t := 2) rfl (Or.inr (Or.inl ⟨rfl, Or.inl rfl⟩)) rfl rfl ?_
      refine e_dup rfl (Or.inr ⟨_, rfl⟩) ?_
      refine e_get (a := 18) (u := .int (yi (M3 18 3))) rfl rfl rfl (fun _ => rfl) ?_
      refine e_ic (b := 1) rfl (by decide) (by decide) ?_
      refine e_add rfl ?_
      refine e_put (a := 18) rfl (Or.inl rfl) rfl rfl (Or.inl rfl) ?_
      refine y_let (fun t : yM => some (t, cc, none)) (fun M4 => ?_)
      exact e_vret rfl
/-- UnwindTower$Faults.read -/
def f_78 (M : yM) (x1 : Int) (x2 : Int) : Int := (yrd M 19 ((x1 * 4) + x2))
theorem t_78 {sc : List Int32} {dd cc : Nat} {M : yM} {x1 : Int} {x2 : Int} (hd : 2 ≤ dd) : yP sc dd 78 [.ref 18, .int (yi x1), .int (yi x2)] M cc (some (M, cc, some (.int (yi (f_78 M x1 x2))))) := by
  obtain ⟨dd, rfl⟩ : ∃ e, dd = e + 1 := ⟨dd - 1, by omega⟩
  refine e_meth (C := zg_c78) (W := zg_w78) (ml := 3) rfl rfl (Nat.le_of_ble_eq_true rfl) ?_
  unfold f_78
  refine e_ld (t := 2) rfl (Or.inr (Or.inl ⟨rfl, Or.inl rfl⟩)) rfl rfl ?_
  refine e_get (a := 18) (u := .ref 19) rfl rfl rfl (fun _ => rfl) ?_
  refine e_ld (t := 0) rfl (Or.inl ⟨rfl, Or.inl rfl⟩) rfl rfl ?_
  refine e_ic (b := 4) rfl (by decide) (by decide) ?_
  refine e_mul rfl ?_
  refine e_ld (t := 0) rfl (Or.inl ⟨rfl, Or.inl rfl⟩) rfl rfl ?_
  refine e_add rfl ?_
  refine e_at (a := 19) (by omega) rfl (by decide) (Nat.le_of_ble_eq_true rfl) rfl ?_
  exact e_iret rfl (Or.inl rfl)
/-- UnwindTower$Machine.begin -/
def f_81_12 (N : Nat) : Nat → yM → Nat → Nat → Int → Int → Int → Option (yM × Int)
  | 0, _, _, _, _, _, _ => none
  | n + 1, M, r0, r1, x3, x4, x5 => (cond (yrel 3 x5 x4) (some (M, 1)) (cond (yrel 2 (yrd M (r0 + 13) 3) (M r0 13)) (ylet (ywr M (r0 + 13) 3 (yrd M (r0 + 13) 3 + 1)) fun M5 => (ylet (ywr M5 (r0 + 16) (yrd M5 (r1 + 8) (x3 + x5)) (yrd M5 (r0 + 16) (yrd M5 (r1 + 8) (x3 + x5)) + 1)) fun M6 => (f_81_12 N n M6 r0 r1 x3 x4 (x5 + 1)))) (some (M, 0))))
theorem t_81_12 {sc : List Int32} {dd cc : Nat} {N : Nat} (hd : 1 ≤ dd) : ∀ (n : Nat) {M : yM} {r0 : Nat} {r1 : Nat} {x3 : Int} {x4 : Int} {x5 : Int} (hr0 : pM r0) (hr1 : pC r1) {L : zL} (hL0 : L 0 = some (.ref r0)) (hL1 : L 1 = some (.ref r1)) (hL3 : L 3 = some (.int (yi x3))) (hL4 : L 4 = some (.int (yi x4))) (hL5 : L 5 = some (.int (yi x5))), yW sc zg_c81 zg_w81 dd 12 L [] M cc ((Option.map (fun t : yM × Int => (t.1, cc, some (.int (yi t.2))))) (f_81_12 N n M r0 r1 x3 x4 x5)) := by
  intro n
  induction n with
  | zero => intros; exact y_none
  | succ n IH =>
    intro M r0 r1 x3 x4 x5 hr0 hr1 L hL0 hL1 hL3 hL4 hL5
    rw [f_81_12]
    refine e_ld (t := 0) rfl (Or.inl ⟨rfl, Or.inr rfl⟩) hL5 rfl ?_
    refine e_ld (t := 0) rfl (Or.inl ⟨rfl, Or.inr rfl⟩) hL4 rfl ?_
    refine e_cmp (Option.map (fun t : yM × Int => (t.1, cc, some (.int (yi t.2))))) (q := 3) (by decide) rfl (fun h3 => ?_) (fun h3 => ?_)
    · refine e_ic (b := 1) rfl (by decide) (by decide) ?_
      exact e_iret rfl (Or.inr ⟨rfl, Or.inr rfl⟩)
    · refine e_ld (t := 2) rfl (Or.inr (Or.inl ⟨rfl, Or.inl rfl⟩)) hL0 rfl ?_
      refine e_get (a := r0) (u := .ref (r0 + 13)) rfl (fM hr0) rfl (fun _ => rfl) ?_
      refine e_ic (b := 3) rfl (by decide) (by decide) ?_
      refine e_at (a := (r0 + 13)) (by omega) rfl (by decide) (Nat.le_of_ble_eq_true rfl) (nM_13 hr0) ?_
      refine e_ld (t := 2) rfl (Or.inr (Or.inl ⟨rfl, Or.inl rfl⟩)) hL0 rfl ?_
      refine e_get (a := r0) (u := .int (yi (M r0 13))) rfl (fM hr0) rfl (fun _ => rfl) ?_
      refine e_cmp (Option.map (fun t : yM × Int => (t.1, cc, some (.int (yi t.2))))) (q := 2) (by decide) rfl (fun h4 => ?_) (fun h4 => ?_)
      · refine e_ld (t := 2) rfl (Or.inr (Or.inl ⟨rfl, Or.inl rfl⟩)) hL0 rfl ?_
        refine e_get (a := r0) (u := .ref (r0 + 13)) rfl (fM hr0) rfl (fun _ => rfl) ?_
        refine e_ic (b := 3) rfl (by decide) (by decide) ?_
        refine e_incr (a := (r0 + 13)) (by omega) rfl (by decide) (Nat.le_of_ble_eq_true rfl) (nM_13 hr0) ?_
        refine y_let (Option.map (fun t : yM × Int => (t.1, cc, some (.int (yi t.2))))) (fun M5 => ?_)
        refine e_ld (t := 2) rfl (Or.inr (Or.inl ⟨rfl, Or.inl rfl⟩)) hL0 rfl ?_
        refine e_get (a := r0) (u := .ref (r0 + 16)) rfl (fM hr0) rfl (fun _ => rfl) ?_
        refine e_ld (t := 2) rfl (Or.inr (Or.inl ⟨rfl, Or.inl rfl⟩)) hL1 rfl ?_
        refine e_get (a := r1) (u := .ref (r1 + 8)) rfl (fC hr1) rfl (fun _ => rfl) ?_
        refine e_ld (t := 0) rfl (Or.inl ⟨rfl, Or.inl rfl⟩) hL3 rfl ?_
        refine e_ld (t := 0) rfl (Or.inl ⟨rfl, Or.inr rfl⟩) hL5 rfl ?_
        refine e_add rfl ?_
        refine e_at (a := (r1 + 8)) (by omega) rfl (by decide) (Nat.le_of_ble_eq_true rfl) (nC_8 hr1) ?_
        refine e_incr (a := (r0 + 16)) (by omega) rfl (by decide) (Nat.le_of_ble_eq_true rfl) (nM_16 hr0) ?_
        refine y_let (Option.map (fun t : yM × Int => (t.1, cc, some (.int (yi t.2))))) (fun M6 => ?_)
        refine e_inc (d := 1) rfl hL5 (by decide) ?_
        refine e_go rfl ?_
        exact IH hr0 hr1 (l_kr (by decide) hL0) (l_kr (by decide) hL1) (l_ki (by decide) hL3) (l_ki (by decide) hL4) l_s
      · refine e_ic (b := 0) rfl (by decide) (by decide) ?_
        exact e_iret rfl (Or.inr ⟨rfl, Or.inl rfl⟩)
def f_81 (N : Nat) (M : yM) (r0 : Nat) (r1 : Nat) (x2 : Int) : Option (yM × Int) := (ylet (yrd M (r1 + 6) x2) fun v1 => (ylet (yrd M (r1 + 7) x2) fun v2 => (f_81_12 N N M r0 r1 v1 v2 0)))
theorem t_81 {sc : List Int32} {dd cc : Nat} {N : Nat} {M : yM} {r0 : Nat} {r1 : Nat} {x2 : Int} (hd : 2 ≤ dd) (hr0 : pM r0) (hr1 : pC r1) : yP sc dd 81 [.ref r0, .ref r1, .int (yi x2)] M cc ((Option.map (fun t : yM × Int => (t.1, cc, some (.int (yi t.2))))) (f_81 N M r0 r1 x2)) := by
  obtain ⟨dd, rfl⟩ : ∃ e, dd = e + 1 := ⟨dd - 1, by omega⟩
  refine e_meth (C := zg_c81) (W := zg_w81) (ml := 6) rfl rfl (Nat.le_of_ble_eq_true rfl) ?_
  unfold f_81
  refine e_ld (t := 2) rfl (Or.inr (Or.inl ⟨rfl, Or.inl rfl⟩)) rfl rfl ?_
  refine e_get (a := r1) (u := .ref (r1 + 6)) rfl (fC hr1) rfl (fun _ => rfl) ?_
  refine e_ld (t := 0) rfl (Or.inl ⟨rfl, Or.inl rfl⟩) rfl rfl ?_
  refine e_at (a := (r1 + 6)) (by omega) rfl (by decide) (Nat.le_of_ble_eq_true rfl) (nC_6 hr1) ?_
  refine e_stl (g := (Option.map (fun t : yM × Int => (t.1, cc, some (.int (yi t.2)))))) rfl (Or.inl rfl) (fun v1 => ?_)
  refine e_ld (t := 2) rfl (Or.inr (Or.inl ⟨rfl, Or.inl rfl⟩)) (l_kr (by decide) rfl) rfl ?_
  refine e_get (a := r1) (u := .ref (r1 + 7)) rfl (fC hr1) rfl (fun _ => rfl) ?_
  refine e_ld (t := 0) rfl (Or.inl ⟨rfl, Or.inl rfl⟩) (l_ki (by decide) rfl) rfl ?_
  refine e_at (a := (r1 + 7)) (by omega) rfl (by decide) (Nat.le_of_ble_eq_true rfl) (nC_7 hr1) ?_
  refine e_stl (g := (Option.map (fun t : yM × Int => (t.1, cc, some (.int (yi t.2)))))) rfl (Or.inr rfl) (fun v2 => ?_)
  refine e_ic (b := 0) rfl (by decide) (by decide) ?_
  refine e_st (t := 0) rfl (Or.inl ⟨rfl, Or.inr rfl⟩) rfl ?_
  exact t_81_12 (by omega) N hr0 hr1 (l_kr (by decide) (l_kr (by decide) (l_kr (by decide) rfl))) (l_kr (by decide) (l_kr (by decide) (l_kr (by decide) rfl))) (l_ki (by decide) (l_ki (by decide) l_s)) (l_ki (by decide) l_s) l_s
/-- UnwindTower$Machine.fly -/
def f_85 (M : yM) (r0 : Nat) (x1 : Int) : yM := (ylet (yU M r0 16 x1) fun M1 => (ylet (yU M1 r0 17 1) fun M2 => M2))
theorem t_85 {sc : List Int32} {dd cc : Nat} {M : yM} {r0 : Nat} {x1 : Int} (hd : 1 ≤ dd) (hr0 : pM r0) : yP sc dd 85 [.ref r0, .int (yi x1)] M cc (some ((f_85 M r0 x1), cc, none)) := by
  obtain ⟨dd, rfl⟩ : ∃ e, dd = e + 1 := ⟨dd - 1, by omega⟩
  refine e_meth (C := zg_c85) (W := zg_w85) (ml := 2) rfl rfl (Nat.le_of_ble_eq_true rfl) ?_
  unfold f_85
  refine e_ld (t := 2) rfl (Or.inr (Or.inl ⟨rfl, Or.inl rfl⟩)) rfl rfl ?_
  refine e_ld (t := 0) rfl (Or.inl ⟨rfl, Or.inl rfl⟩) rfl rfl ?_
  refine e_put (a := r0) rfl (Or.inl rfl) (fM hr0) rfl (Or.inl rfl) ?_
  refine y_let (fun t : yM => some (t, cc, none)) (fun M1 => ?_)
  refine e_ld (t := 2) rfl (Or.inr (Or.inl ⟨rfl, Or.inl rfl⟩)) rfl rfl ?_
  refine e_ic (b := 1) rfl (by decide) (by decide) ?_
  refine e_put (a := r0) rfl (Or.inl rfl) (fM hr0) rfl (Or.inr ⟨rfl, Or.inr rfl⟩) ?_
  refine y_let (fun t : yM => some (t, cc, none)) (fun M2 => ?_)
  exact e_vret rfl
/-- UnwindTower$Machine.keptPrints -/
def f_86 (M : yM) (r0 : Nat) : Int := (ylet (yrd M (r0 + 13) 4) fun v1 => (cond (yrel 3 v1 40) 40 v1))
theorem t_86 {sc : List Int32} {dd cc : Nat} {M : yM} {r0 : Nat} (hd : 2 ≤ dd) (hr0 : pM r0) : yP sc dd 86 [.ref r0] M cc (some (M, cc, some (.int (yi (f_86 M r0))))) := by
  obtain ⟨dd, rfl⟩ : ∃ e, dd = e + 1 := ⟨dd - 1, by omega⟩
  refine e_meth (C := zg_c86) (W := zg_w86) (ml := 2) rfl rfl (Nat.le_of_ble_eq_true rfl) ?_
  unfold f_86
  refine e_ld (t := 2) rfl (Or.inr (Or.inl ⟨rfl, Or.inl rfl⟩)) rfl rfl ?_
  refine e_get (a := r0) (u := .ref (r0 + 13)) rfl (fM hr0) rfl (fun _ => rfl) ?_
  refine e_ic (b := 4) rfl (by decide) (by decide) ?_
  refine e_at (a := (r0 + 13)) (by omega) rfl (by decide) (Nat.le_of_ble_eq_true rfl) (nM_13 hr0) ?_
  refine e_stl (g := (fun t : Int => some (M, cc, some (.int (yi t))))) rfl (Or.inl rfl) (fun v1 => ?_)
  refine e_ld (t := 0) rfl (Or.inl ⟨rfl, Or.inl rfl⟩) l_s rfl ?_
  refine e_ic (b := 40) rfl (by decide) (by decide) ?_
  refine e_cmp (fun t : Int => some (M, cc, some (.int (yi t)))) (q := 3) (by decide) rfl (fun h2 => ?_) (fun h2 => ?_)
  · refine e_ic (b := 40) rfl (by decide) (by decide) ?_
    exact e_iret rfl (Or.inl rfl)
  · refine e_ld (t := 0) rfl (Or.inl ⟨rfl, Or.inl rfl⟩) l_s rfl ?_
    refine e_go rfl ?_
    exact e_iret rfl (Or.inl rfl)
/-- UnwindTower$Machine.leave -/
def f_87_16 (M : yM) (r0 : Nat) (x2 : Int) : Option (yM) := (ylet (yU M r0 15 0) fun M3 => (ylet (ywr M3 (r0 + 13) 0 0) fun M4 => (ylet (ywr M4 (r0 + 13) 1 x2) fun M5 => some M5)))
theorem t_87_16 {sc : List Int32} {dd cc : Nat} {M : yM} {r0 : Nat} {x2 : Int} (hd : 1 ≤ dd) (hr0 : pM r0) {L : zL} (hL0 : L 0 = some (.ref r0)) (hL2 : L 2 = some (.int (yi x2))) : yW sc zg_c87 zg_w87 dd 16 L [] M cc ((Option.map (fun t : yM => (t, cc, none))) (f_87_16 M r0 x2)) := by
  unfold f_87_16
  refine e_ld (t := 2) rfl (Or.inr (Or.inl ⟨rfl, Or.inl rfl⟩)) hL0 rfl ?_
  refine e_ic (b := 0) rfl (by decide) (by decide) ?_
  refine e_put (a := r0) rfl (Or.inl rfl) (fM hr0) rfl (Or.inr ⟨rfl, Or.inl rfl⟩) ?_
  refine y_let (Option.map (fun t : yM => (t, cc, none))) (fun M3 => ?_)
  refine e_ld (t := 2) rfl (Or.inr (Or.inl ⟨rfl, Or.inl rfl⟩)) hL0 rfl ?_
  refine e_get (a := r0) (u := .ref (r0 + 13)) rfl (fM hr0) rfl (fun _ => rfl) ?_
  refine e_ic (b := 0) rfl (by decide) (by decide) ?_
  refine e_ic (b := 0) rfl (by decide) (by decide) ?_
  refine e_wr (a := (r0 + 13)) (by omega) rfl (by decide) (Nat.le_of_ble_eq_true rfl) (nM_13 hr0) ?_
  refine y_let (Option.map (fun t : yM => (t, cc, none))) (fun M4 => ?_)
  refine e_ld (t := 2) rfl (Or.inr (Or.inl ⟨rfl, Or.inl rfl⟩)) hL0 rfl ?_
  refine e_get (a := r0) (u := .ref (r0 + 13)) rfl (fM hr0) rfl (fun _ => rfl) ?_
  refine e_ic (b := 1) rfl (by decide) (by decide) ?_
  refine e_ld (t := 0) rfl (Or.inl ⟨rfl, Or.inl rfl⟩) hL2 rfl ?_
  refine e_wr (a := (r0 + 13)) (by omega) rfl (by decide) (Nat.le_of_ble_eq_true rfl) (nM_13 hr0) ?_
  refine y_let (Option.map (fun t : yM => (t, cc, none))) (fun M5 => ?_)
  exact e_vret rfl
def f_87 (M : yM) (r0 : Nat) (r1 : Nat) (x2 : Int) : Option (yM) := (ylet (yU M r0 12 ((M r0 12) - 1)) fun M1 => (cond (yrel 2 (M1 r0 12) 1) (f_87_16 M1 r0 x2) (cond (yrel 5 (M1 r0 12) 30) (ylet (ywr M1 (r0 + 14) (M1 r1 2) x2) fun M7 => (yox ((M7 r0 12) - 1) 30 fun e8 => (ylet (yU M7 (r0 + 20 + 3 * e8) 1 ((M7 (r0 + 20 + 3 * e8) 1) + 1)) fun M10 => some M10))) (f_87_16 M1 r0 x2))))
theorem t_87 {sc : List Int32} {dd cc : Nat} {M : yM} {r0 : Nat} {r1 : Nat} {x2 : Int} (hd : 2 ≤ dd) (hr0 : pM r0) (hr1 : pF r1) : yP sc dd 87 [.ref r0, .ref r1, .int (yi x2)] M cc ((Option.map (fun t : yM => (t, cc, none))) (f_87 M r0 r1 x2)) := by
  obtain ⟨dd, rfl⟩ : ∃ e, dd = e + 1 := ⟨dd - 1, by omega⟩
  refine e_meth (C := zg_c87) (W := zg_w87) (ml := 3) rfl rfl (Nat.le_of_ble_eq_true rfl) ?_
  unfold f_87
  refine e_ld (t := 2) rfl (Or.inr (Or.inl ⟨rfl, Or.inl rfl⟩)) rfl rfl ?_
  refine e_dup rfl (Or.inr ⟨_, rfl⟩) ?_
  refine e_get (a := r0) (u := .int (yi (M r0 12))) rfl (fM hr0) rfl (fun _ => rfl) ?_
  refine e_ic (b := 1) rfl (by decide) (by decide) ?_
  refine e_sub rfl ?_
  refine e_put (a := r0) rfl (Or.inl rfl) (fM hr0) rfl (Or.inl rfl) ?_
  refine y_let (Option.map (fun t : yM => (t, cc, none))) (fun M1 => ?_)
  refine e_ld (t := 2) rfl (Or.inr (Or.inl ⟨rfl, Or.inl rfl⟩)) rfl rfl ?_
  refine e_get (a := r0) (u := .int (yi (M1 r0 12))) rfl (fM hr0) rfl (fun _ => rfl) ?_
  refine e_ic (b := 1) rfl (by decide) (by decide) ?_
  refine e_cmp (Option.map (fun t : yM => (t, cc, none))) (q := 2) (by decide) rfl (fun h2 => ?_) (fun h2 => ?_)
  · exact t_87_16 (by omega) hr0 rfl rfl
  · refine e_ld (t := 2) rfl (Or.inr (Or.inl ⟨rfl, Or.inl rfl⟩)) rfl rfl ?_
    refine e_get (a := r0) (u := .int (yi (M1 r0 12))) rfl (fM hr0) rfl (fun _ => rfl) ?_
    refine e_ld (t := 2) rfl (Or.inr (Or.inl ⟨rfl, Or.inl rfl⟩)) rfl rfl ?_
    refine e_get (a := r0) (u := .ref (r0 + 19)) rfl (fM hr0) rfl (fun _ => rfl) ?_
    refine e_alen (a := (r0 + 19)) (m := 30) rfl (fun _ _ _ _ => by rw [yst_refs (qM hr0)]; rfl) (qM_le hr0) (by decide) ?_
    refine e_cmp (Option.map (fun t : yM => (t, cc, none))) (q := 5) (by decide) rfl (fun h6 => ?_) (fun h6 => ?_)
    · refine e_ld (t := 2) rfl (Or.inr (Or.inl ⟨rfl, Or.inl rfl⟩)) rfl rfl ?_
      refine e_get (a := r0) (u := .ref (r0 + 14)) rfl (fM hr0) rfl (fun _ => rfl) ?_
      refine e_ld (t := 2) rfl (Or.inr (Or.inl ⟨rfl, Or.inl rfl⟩)) rfl rfl ?_
      refine e_get (a := r1) (u := .int (yi (M1 r1 2))) rfl (fF hr1) rfl (fun _ => rfl) ?_
      refine e_ld (t := 0) rfl (Or.inl ⟨rfl, Or.inl rfl⟩) rfl rfl ?_
      refine e_wr (a := (r0 + 14)) (by omega) rfl (by decide) (Nat.le_of_ble_eq_true rfl) (nM_14 hr0) ?_
      refine y_let (Option.map (fun t : yM => (t, cc, none))) (fun M7 => ?_)
      refine e_ld (t := 2) rfl (Or.inr (Or.inl ⟨rfl, Or.inl rfl⟩)) rfl rfl ?_
      refine e_get (a := r0) (u := .ref (r0 + 19)) rfl (fM hr0) rfl (fun _ => rfl) ?_
      refine e_ld (t := 2) rfl (Or.inr (Or.inl ⟨rfl, Or.inl rfl⟩)) rfl rfl ?_
      refine e_get (a := r0) (u := .int (yi (M7 r0 12))) rfl (fM hr0) rfl (fun _ => rfl) ?_
      refine e_ic (b := 1) rfl (by decide) (by decide) ?_
      refine e_sub rfl ?_
      refine e_aald (a := (r0 + 19)) rfl (qM hr0) (fun e8 he9 => ?_)
      refine e_dup rfl (Or.inr ⟨_, rfl⟩) ?_
      refine e_get (a := (r0 + 20 + 3 * e8)) (u := .int (yi (M7 (r0 + 20 + 3 * e8) 1))) rfl (fF (pF_M hr0 he9)) rfl (fun _ => rfl) ?_
      refine e_ic (b := 1) rfl (by decide) (by decide) ?_
      refine e_add rfl ?_
      refine e_put (a := (r0 + 20 + 3 * e8)) rfl (Or.inl rfl) (fF (pF_M hr0 he9)) rfl (Or.inl rfl) ?_
      refine y_let (Option.map (fun t : yM => (t, cc, none))) (fun M10 => ?_)
      exact e_vret rfl
    · exact t_87_16 (by omega) hr0 rfl rfl
/-- UnwindTower$Machine.print -/
def f_94_36 (M : yM) (r0 : Nat) (x1 : Int) : yM := (ylet (yU M r0 10 ((M r0 10) + (yw x1))) fun M3 => (ylet (ywr M3 (r0 + 13) 4 (yrd M3 (r0 + 13) 4 + 1)) fun M4 => M4))
theorem t_94_36 {sc : List Int32} {dd cc : Nat} {M : yM} {r0 : Nat} {x1 : Int} (hd : 1 ≤ dd) (hr0 : pM r0) {L : zL} (hL0 : L 0 = some (.ref r0)) (hL1 : L 1 = some (.int (yi x1))) : yW sc zg_c94 zg_w94 dd 36 L [] M cc ((fun t : yM => some (t, cc, none)) (f_94_36 M r0 x1)) := by
  unfold f_94_36
  refine e_ld (t := 2) rfl (Or.inr (Or.inl ⟨rfl, Or.inl rfl⟩)) hL0 rfl ?_
  refine e_dup rfl (Or.inr ⟨_, rfl⟩) ?_
  refine e_get (a := r0) (u := .long (yl (M r0 10))) rfl (fM hr0) rfl (fun _ => rfl) ?_
  refine e_ld (t := 0) rfl (Or.inl ⟨rfl, Or.inl rfl⟩) hL1 rfl ?_
  refine e_i2l rfl ?_
  refine e_ladd rfl ?_
  refine e_putl (a := r0) rfl (Or.inl rfl) (fM hr0) rfl rfl ?_
  refine y_let (fun t : yM => some (t, cc, none)) (fun M3 => ?_)
  refine e_ld (t := 2) rfl (Or.inr (Or.inl ⟨rfl, Or.inl rfl⟩)) hL0 rfl ?_
  refine e_get (a := r0) (u := .ref (r0 + 13)) rfl (fM hr0) rfl (fun _ => rfl) ?_
  refine e_ic (b := 4) rfl (by decide) (by decide) ?_
  refine e_incr (a := (r0 + 13)) (by omega) rfl (by decide) (Nat.le_of_ble_eq_true rfl) (nM_13 hr0) ?_
  refine y_let (fun t : yM => some (t, cc, none)) (fun M4 => ?_)
  exact e_vret rfl
def f_94 (M : yM) (r0 : Nat) (x1 : Int) (x2 : Int) : yM := (ylet (yrd M (r0 + 13) 4) fun v1 => (cond (yrel 3 v1 40) (f_94_36 M r0 x1) (ylet (ywr M (r0 + 18) (v1 * 3) x1) fun M5 => (ylet (ywr M5 (r0 + 18) ((v1 * 3) + 1) (yrd M5 (r0 + 13) 3)) fun M6 => (ylet (ywr M6 (r0 + 18) ((v1 * 3) + 2) x2) fun M7 => (f_94_36 M7 r0 x1))))))
theorem t_94 {sc : List Int32} {dd cc : Nat} {M : yM} {r0 : Nat} {x1 : Int} {x2 : Int} (hd : 2 ≤ dd) (hr0 : pM r0) : yP sc dd 94 [.ref r0, .int (yi x1), .int (yi x2)] M cc (some ((f_94 M r0 x1 x2), cc, none)) := by
  obtain ⟨dd, rfl⟩ : ∃ e, dd = e + 1 := ⟨dd - 1, by omega⟩
  refine e_meth (C := zg_c94) (W := zg_w94) (ml := 4) rfl rfl (Nat.le_of_ble_eq_true rfl) ?_
  unfold f_94
  refine e_ld (t := 2) rfl (Or.inr (Or.inl ⟨rfl, Or.inl rfl⟩)) rfl rfl ?_
  refine e_get (a := r0) (u := .ref (r0 + 13)) rfl (fM hr0) rfl (fun _ => rfl) ?_
  refine e_ic (b := 4) rfl (by decide) (by decide) ?_
  refine e_at (a := (r0 + 13)) (by omega) rfl (by decide) (Nat.le_of_ble_eq_true rfl) (nM_13 hr0) ?_
  refine e_stl (g := (fun t : yM => some (t, cc, none))) rfl (Or.inl rfl) (fun v1 => ?_)
  refine e_ld (t := 0) rfl (Or.inl ⟨rfl, Or.inl rfl⟩) l_s rfl ?_
  refine e_ic (b := 40) rfl (by decide) (by decide) ?_
  refine e_cmp (fun t : yM => some (t, cc, none)) (q := 3) (by decide) rfl (fun h2 => ?_) (fun h2 => ?_)
  · exact t_94_36 (by omega) hr0 (l_kr (by decide) rfl) (l_ki (by decide) rfl)
  · refine e_ld (t := 2) rfl (Or.inr (Or.inl ⟨rfl, Or.inl rfl⟩)) (l_kr (by decide) rfl) rfl ?_
    refine e_get (a := r0) (u := .ref (r0 + 18)) rfl (fM hr0) rfl (fun _ => rfl) ?_
    refine e_ld (t := 0) rfl (Or.inl ⟨rfl, Or.inl rfl⟩) l_s rfl ?_
    refine e_ic (b := 3) rfl (by decide) (by decide) ?_
    refine e_mul rfl ?_
    refine e_ld (t := 0) rfl (Or.inl ⟨rfl, Or.inl rfl⟩) (l_ki (by decide) rfl) rfl ?_
    refine e_wr (a := (r0 + 18)) (by omega) rfl (by decide) (Nat.le_of_ble_eq_true rfl) (nM_18 hr0) ?_
    refine y_let (fun t : yM => some (t, cc, none)) (fun M5 => ?_)
    refine e_ld (t := 2) rfl (Or.inr (Or.inl ⟨rfl, Or.inl rfl⟩)) (l_kr (by decide) rfl) rfl ?_
    refine e_get (a := r0) (u := .ref (r0 + 18)) rfl (fM hr0) rfl (fun _ => rfl) ?_
    refine e_ld (t := 0) rfl (Or.inl ⟨rfl, Or.inl rfl⟩) l_s rfl ?_
    refine e_ic (b := 3) rfl (by decide) (by decide) ?_
    refine e_mul rfl ?_
    refine e_ic (b := 1) rfl (by decide) (by decide) ?_
    refine e_add rfl ?_
    refine e_ld (t := 2) rfl (Or.inr (Or.inl ⟨rfl, Or.inl rfl⟩)) (l_kr (by decide) rfl) rfl ?_
    refine e_get (a := r0) (u := .ref (r0 + 13)) rfl (fM hr0) rfl (fun _ => rfl) ?_
    refine e_ic (b := 3) rfl (by decide) (by decide) ?_
    refine e_at (a := (r0 + 13)) (by omega) rfl (by decide) (Nat.le_of_ble_eq_true rfl) (nM_13 hr0) ?_
    refine e_wr (a := (r0 + 18)) (by omega) rfl (by decide) (Nat.le_of_ble_eq_true rfl) (nM_18 hr0) ?_
    refine y_let (fun t : yM => some (t, cc, none)) (fun M6 => ?_)
    refine e_ld (t := 2) rfl (Or.inr (Or.inl ⟨rfl, Or.inl rfl⟩)) (l_kr (by decide) rfl) rfl ?_
    refine e_get (a := r0) (u := .ref (r0 + 18)) rfl (fM hr0) rfl (fun _ => rfl) ?_
    refine e_ld (t := 0) rfl (Or.inl ⟨rfl, Or.inl rfl⟩) l_s rfl ?_
    refine e_ic (b := 3) rfl (by decide) (by decide) ?_
    refine e_mul rfl ?_
    refine e_ic (b := 2) rfl (by decide) (by decide) ?_
    refine e_add rfl ?_
    refine e_ld (t := 0) rfl (Or.inl ⟨rfl, Or.inl rfl⟩) (l_ki (by decide) rfl) rfl ?_
    refine e_wr (a := (r0 + 18)) (by omega) rfl (by decide) (Nat.le_of_ble_eq_true rfl) (nM_18 hr0) ?_
    refine y_let (fun t : yM => some (t, cc, none)) (fun M7 => ?_)
    exact t_94_36 (by omega) hr0 (l_kr (by decide) rfl) (l_ki (by decide) rfl)
/-- UnwindTower$Machine.readPrint -/
def f_96 (M : yM) (r0 : Nat) (x1 : Int) (x2 : Int) : Int := (yrd M (r0 + 18) ((x1 * 3) + x2))
theorem t_96 {sc : List Int32} {dd cc : Nat} {M : yM} {r0 : Nat} {x1 : Int} {x2 : Int} (hd : 2 ≤ dd) (hr0 : pM r0) : yP sc dd 96 [.ref r0, .int (yi x1), .int (yi x2)] M cc (some (M, cc, some (.int (yi (f_96 M r0 x1 x2))))) := by
  obtain ⟨dd, rfl⟩ : ∃ e, dd = e + 1 := ⟨dd - 1, by omega⟩
  refine e_meth (C := zg_c96) (W := zg_w96) (ml := 3) rfl rfl (Nat.le_of_ble_eq_true rfl) ?_
  unfold f_96
  refine e_ld (t := 2) rfl (Or.inr (Or.inl ⟨rfl, Or.inl rfl⟩)) rfl rfl ?_
  refine e_get (a := r0) (u := .ref (r0 + 18)) rfl (fM hr0) rfl (fun _ => rfl) ?_
  refine e_ld (t := 0) rfl (Or.inl ⟨rfl, Or.inl rfl⟩) rfl rfl ?_
  refine e_ic (b := 3) rfl (by decide) (by decide) ?_
  refine e_mul rfl ?_
  refine e_ld (t := 0) rfl (Or.inl ⟨rfl, Or.inl rfl⟩) rfl rfl ?_
  refine e_add rfl ?_
  refine e_at (a := (r0 + 18)) (by omega) rfl (by decide) (Nat.le_of_ble_eq_true rfl) (nM_18 hr0) ?_
  exact e_iret rfl (Or.inl rfl)
/-- UnwindTower$Machine.valueOf -/
def f_100 (M : yM) (r0 : Nat) (x1 : Int) : Int := (cond (yrel 2 x1 100) x1 (yrd M (r0 + 14) (x1 - 100)))
theorem t_100 {sc : List Int32} {dd cc : Nat} {M : yM} {r0 : Nat} {x1 : Int} (hd : 2 ≤ dd) (hr0 : pM r0) : yP sc dd 100 [.ref r0, .int (yi x1)] M cc (some (M, cc, some (.int (yi (f_100 M r0 x1))))) := by
  obtain ⟨dd, rfl⟩ : ∃ e, dd = e + 1 := ⟨dd - 1, by omega⟩
  refine e_meth (C := zg_c100) (W := zg_w100) (ml := 2) rfl rfl (Nat.le_of_ble_eq_true rfl) ?_
  unfold f_100
  refine e_ld (t := 0) rfl (Or.inl ⟨rfl, Or.inl rfl⟩) rfl rfl ?_
  refine e_ic (b := 100) rfl (by decide) (by decide) ?_
  refine e_cmp (fun t : Int => some (M, cc, some (.int (yi t)))) (q := 2) (by decide) rfl (fun h1 => ?_) (fun h1 => ?_)
  · refine e_ld (t := 0) rfl (Or.inl ⟨rfl, Or.inl rfl⟩) rfl rfl ?_
    exact e_iret rfl (Or.inl rfl)
  · refine e_ld (t := 2) rfl (Or.inr (Or.inl ⟨rfl, Or.inl rfl⟩)) rfl rfl ?_
    refine e_get (a := r0) (u := .ref (r0 + 14)) rfl (fM hr0) rfl (fun _ => rfl) ?_
    refine e_ld (t := 0) rfl (Or.inl ⟨rfl, Or.inl rfl⟩) rfl rfl ?_
    refine e_ic (b := 100) rfl (by decide) (by decide) ?_
    refine e_sub rfl ?_
    refine e_at (a := (r0 + 14)) (by omega) rfl (by decide) (Nat.le_of_ble_eq_true rfl) (nM_14 hr0) ?_
    refine e_go rfl ?_
    exact e_iret rfl (Or.inl rfl)
/-- UnwindTower$Place.copy -/
def f_102 (M : yM) (r0 : Nat) (r1 : Nat) : yM := (ylet (yU M r0 0 (M r1 0)) fun M1 => (ylet (yU M1 r0 1 (M1 r1 1)) fun M2 => (ylet (yU M2 r0 2 (M2 r1 2)) fun M3 => (ylet (yU M3 r0 3 (M3 r1 3)) fun M4 => (ylet (yU M4 r0 4 (M4 r1 4)) fun M5 => (ylet (yU M5 r0 5 (M5 r1 5)) fun M6 => M6))))))
theorem t_102 {sc : List Int32} {dd cc : Nat} {M : yM} {r0 : Nat} {r1 : Nat} (hd : 1 ≤ dd) (hr0 : pP r0) (hr1 : pP r1) : yP sc dd 102 [.ref r0, .ref r1] M cc (some ((f_102 M r0 r1), cc, none)) := by
  obtain ⟨dd, rfl⟩ : ∃ e, dd = e + 1 := ⟨dd - 1, by omega⟩
  refine e_meth (C := zg_c102) (W := zg_w102) (ml := 2) rfl rfl (Nat.le_of_ble_eq_true rfl) ?_
  unfold f_102
  refine e_ld (t := 2) rfl (Or.inr (Or.inl ⟨rfl, Or.inl rfl⟩)) rfl rfl ?_
  refine e_ld (t := 2) rfl (Or.inr (Or.inl ⟨rfl, Or.inl rfl⟩)) rfl rfl ?_
  refine e_get (a := r1) (u := .int (yi (M r1 0))) rfl (fP hr1) rfl (fun _ => rfl) ?_
  refine e_put (a := r0) rfl (Or.inl rfl) (fP hr0) rfl (Or.inl rfl) ?_
  refine y_let (fun t : yM => some (t, cc, none)) (fun M1 => ?_)
  refine e_ld (t := 2) rfl (Or.inr (Or.inl ⟨rfl, Or.inl rfl⟩)) rfl rfl ?_
  refine e_ld (t := 2) rfl (Or.inr (Or.inl ⟨rfl, Or.inl rfl⟩)) rfl rfl ?_
  refine e_get (a := r1) (u := .int (yi (M1 r1 1))) rfl (fP hr1) rfl (fun _ => rfl) ?_
  refine e_put (a := r0) rfl (Or.inl rfl) (fP hr0) rfl (Or.inl rfl) ?_
  refine y_let (fun t : yM => some (t, cc, none)) (fun M2 => ?_)
  refine e_ld (t := 2) rfl (Or.inr (Or.inl ⟨rfl, Or.inl rfl⟩)) rfl rfl ?_
  refine e_ld (t := 2) rfl (Or.inr (Or.inl ⟨rfl, Or.inl rfl⟩)) rfl rfl ?_
  refine e_get (a := r1) (u := .int (yi (M2 r1 2))) rfl (fP hr1) rfl (fun _ => rfl) ?_
  refine e_put (a := r0) rfl (Or.inl rfl) (fP hr0) rfl (Or.inl rfl) ?_
  refine y_let (fun t : yM => some (t, cc, none)) (fun M3 => ?_)
  refine e_ld (t := 2) rfl (Or.inr (Or.inl ⟨rfl, Or.inl rfl⟩)) rfl rfl ?_
  refine e_ld (t := 2) rfl (Or.inr (Or.inl ⟨rfl, Or.inl rfl⟩)) rfl rfl ?_
  refine e_get (a := r1) (u := .int (yi (M3 r1 3))) rfl (fP hr1) rfl (fun _ => rfl) ?_
  refine e_put (a := r0) rfl (Or.inl rfl) (fP hr0) rfl (Or.inl rfl) ?_
  refine y_let (fun t : yM => some (t, cc, none)) (fun M4 => ?_)
  refine e_ld (t := 2) rfl (Or.inr (Or.inl ⟨rfl, Or.inl rfl⟩)) rfl rfl ?_
  refine e_ld (t := 2) rfl (Or.inr (Or.inl ⟨rfl, Or.inl rfl⟩)) rfl rfl ?_
  refine e_get (a := r1) (u := .int (yi (M4 r1 4))) rfl (fP hr1) rfl (fun _ => rfl) ?_
  refine e_put (a := r0) rfl (Or.inl rfl) (fP hr0) rfl (Or.inl rfl) ?_
  refine y_let (fun t : yM => some (t, cc, none)) (fun M5 => ?_)
  refine e_ld (t := 2) rfl (Or.inr (Or.inl ⟨rfl, Or.inl rfl⟩)) rfl rfl ?_
  refine e_ld (t := 2) rfl (Or.inr (Or.inl ⟨rfl, Or.inl rfl⟩)) rfl rfl ?_
  refine e_get (a := r1) (u := .int (yi (M5 r1 5))) rfl (fP hr1) rfl (fun _ => rfl) ?_
  refine e_put (a := r0) rfl (Or.inl rfl) (fP hr0) rfl (Or.inl rfl) ?_
  refine y_let (fun t : yM => some (t, cc, none)) (fun M6 => ?_)
  exact e_vret rfl
/-- UnwindTower$Program.addKind -/
def f_104_30 (N : Nat) : Nat → yM → Int → Int → Int → Option (yM × Int)
  | 0, _, _, _, _ => none
  | n + 1, M, x3, x4, x5 => (cond (yrel 2 x4 0) (some (M, x3)) (cond (yrel 5 x5 0) (some (M, x3)) (ylet (ywr M 4 x4 (ybin 27 (yrd M 4 x4) (ybin 28 1 x3))) fun M8 => (ylet (yrd M8 2 x4) fun v9 => (f_104_30 N n M8 x3 v9 (x5 + (-1)))))))
theorem t_104_30 {sc : List Int32} {dd cc : Nat} {N : Nat} (hd : 1 ≤ dd) : ∀ (n : Nat) {M : yM} {x3 : Int} {x4 : Int} {x5 : Int} {L : zL} (hL0 : L 0 = some (.ref 1)) (hL3 : L 3 = some (.int (yi x3))) (hL4 : L 4 = some (.int (yi x4))) (hL5 : L 5 = some (.int (yi x5))), yW sc zg_c104 zg_w104 dd 30 L [] M cc ((Option.map (fun t : yM × Int => (t.1, cc, some (.int (yi t.2))))) (f_104_30 N n M x3 x4 x5)) := by
  intro n
  induction n with
  | zero => intros; exact y_none
  | succ n IH =>
    intro M x3 x4 x5 L hL0 hL3 hL4 hL5
    rw [f_104_30]
    refine e_ld (t := 0) rfl (Or.inl ⟨rfl, Or.inr rfl⟩) hL4 rfl ?_
    refine e_br (Option.map (fun t : yM × Int => (t.1, cc, some (.int (yi t.2))))) (q := 2) (by decide) rfl (fun h6 => ?_) (fun h6 => ?_)
    · refine e_ld (t := 0) rfl (Or.inl ⟨rfl, Or.inl rfl⟩) hL3 rfl ?_
      exact e_iret rfl (Or.inl rfl)
    · refine e_ld (t := 0) rfl (Or.inl ⟨rfl, Or.inr rfl⟩) hL5 rfl ?_
      refine e_br (Option.map (fun t : yM × Int => (t.1, cc, some (.int (yi t.2))))) (q := 5) (by decide) rfl (fun h7 => ?_) (fun h7 => ?_)
      · refine e_ld (t := 0) rfl (Or.inl ⟨rfl, Or.inl rfl⟩) hL3 rfl ?_
        exact e_iret rfl (Or.inl rfl)
      · refine e_ld (t := 2) rfl (Or.inr (Or.inl ⟨rfl, Or.inl rfl⟩)) hL0 rfl ?_
        refine e_get (a := 1) (u := .ref 4) rfl rfl rfl (fun _ => rfl) ?_
        refine e_ld (t := 0) rfl (Or.inl ⟨rfl, Or.inr rfl⟩) hL4 rfl ?_
        refine e_ld (t := 2) rfl (Or.inr (Or.inl ⟨rfl, Or.inl rfl⟩)) hL0 rfl ?_
        refine e_get (a := 1) (u := .ref 4) rfl rfl rfl (fun _ => rfl) ?_
        refine e_ld (t := 0) rfl (Or.inl ⟨rfl, Or.inr rfl⟩) hL4 rfl ?_
        refine e_at (a := 4) (by omega) rfl (by decide) (Nat.le_of_ble_eq_true rfl) rfl ?_
        refine e_ic (b := 1) rfl (by decide) (by decide) ?_
        refine e_ld (t := 0) rfl (Or.inl ⟨rfl, Or.inl rfl⟩) hL3 rfl ?_
        refine e_bin rfl (by decide) ?_
        refine e_bin rfl (by decide) ?_
        refine e_wr (a := 4) (by omega) rfl (by decide) (Nat.le_of_ble_eq_true rfl) rfl ?_
        refine y_let (Option.map (fun t : yM × Int => (t.1, cc, some (.int (yi t.2))))) (fun M8 => ?_)
        refine e_ld (t := 2) rfl (Or.inr (Or.inl ⟨rfl, Or.inl rfl⟩)) hL0 rfl ?_
        refine e_get (a := 1) (u := .ref 2) rfl rfl rfl (fun _ => rfl) ?_
        refine e_ld (t := 0) rfl (Or.inl ⟨rfl, Or.inr rfl⟩) hL4 rfl ?_
        refine e_at (a := 2) (by omega) rfl (by decide) (Nat.le_of_ble_eq_true rfl) rfl ?_
        refine e_stl (g := (Option.map (fun t : yM × Int => (t.1, cc, some (.int (yi t.2)))))) rfl (Or.inr rfl) (fun v9 => ?_)
        refine e_inc (d := (-1)) rfl (l_ki (by decide) hL5) (by decide) ?_
        refine e_go rfl ?_
        exact IH (l_kr (by decide) (l_kr (by decide) hL0)) (l_ki (by decide) (l_ki (by decide) hL3)) (l_ki (by decide) l_s) l_s
def f_104_25 (N : Nat) (M : yM) (x3 : Int) (s0 : Int) (s1 : Int) : Option (yM × Int) := (ylet (ywr M 3 s1 s0) fun M5 => (f_104_30 N N M5 x3 x3 13))
theorem t_104_25 {sc : List Int32} {dd cc : Nat} {N : Nat} {M : yM} {x3 : Int} {s0 : Int} {s1 : Int} (hd : 1 ≤ dd) {L : zL} (hL0 : L 0 = some (.ref 1)) (hL3 : L 3 = some (.int (yi x3))) : yW sc zg_c104 zg_w104 dd 25 L [.int (yi s0), .int (yi s1), .ref 3] M cc ((Option.map (fun t : yM × Int => (t.1, cc, some (.int (yi t.2))))) (f_104_25 N M x3 s0 s1)) := by
  unfold f_104_25
  refine e_wr (a := 3) (by omega) rfl (by decide) (Nat.le_of_ble_eq_true rfl) rfl ?_
  refine y_let (Option.map (fun t : yM × Int => (t.1, cc, some (.int (yi t.2))))) (fun M5 => ?_)
  refine e_ld (t := 0) rfl (Or.inl ⟨rfl, Or.inl rfl⟩) hL3 rfl ?_
  refine e_st (t := 0) rfl (Or.inl ⟨rfl, Or.inr rfl⟩) rfl ?_
  refine e_ic (b := 13) rfl (by decide) (by decide) ?_
  refine e_st (t := 0) rfl (Or.inl ⟨rfl, Or.inr rfl⟩) rfl ?_
  exact t_104_30 (by omega) N (l_kr (by decide) (l_kr (by decide) hL0)) (l_ki (by decide) (l_ki (by decide) hL3)) (l_ki (by decide) l_s) l_s
def f_104 (N : Nat) (M : yM) (x1 : Int) (x2 : Int) : Option (yM × Int) := (ylet (M 1 0) fun v1 => (ylet (yU M 1 0 ((M 1 0) + 1)) fun M2 => (ylet (ywr M2 2 v1 x1) fun M3 => (cond (yrel 0 x2 0) (f_104_25 N M3 v1 (yrd M3 3 x1) v1) (f_104_25 N M3 v1 1 v1)))))
theorem t_104 {sc : List Int32} {dd cc : Nat} {N : Nat} {M : yM} {x1 : Int} {x2 : Int} (hd : 2 ≤ dd) : yP sc dd 104 [.ref 1, .int (yi x1), .int (yi x2)] M cc ((Option.map (fun t : yM × Int => (t.1, cc, some (.int (yi t.2))))) (f_104 N M x1 x2)) := by
  obtain ⟨dd, rfl⟩ : ∃ e, dd = e + 1 := ⟨dd - 1, by omega⟩
  refine e_meth (C := zg_c104) (W := zg_w104) (ml := 6) rfl rfl (Nat.le_of_ble_eq_true rfl) ?_
  unfold f_104
  refine e_ld (t := 2) rfl (Or.inr (Or.inl ⟨rfl, Or.inl rfl⟩)) rfl rfl ?_
  refine e_get (a := 1) (u := .int (yi (M 1 0))) rfl rfl rfl (fun _ => rfl) ?_
  refine e_stl (g := (Option.map (fun t : yM × Int => (t.1, cc, some (.int (yi t.2)))))) rfl (Or.inl rfl) (fun v1 => ?_)
  refine e_ld (t := 2) rfl (Or.inr (Or.inl ⟨rfl, Or.inl rfl⟩)) (l_kr (by decide) rfl) rfl ?_
  refine e_dup rfl (Or.inr ⟨_, rfl⟩) ?_
  refine e_get (a := 1) (u := .int (yi (M 1 0))) rfl rfl rfl (fun _ => rfl) ?_
  refine e_ic (b := 1) rfl (by decide) (by decide) ?_
  refine e_add rfl ?_
  refine e_put (a := 1) rfl (Or.inl rfl) rfl rfl (Or.inl rfl) ?_
  refine y_let (Option.map (fun t : yM × Int => (t.1, cc, some (.int (yi t.2))))) (fun M2 => ?_)
  refine e_ld (t := 2) rfl (Or.inr (Or.inl ⟨rfl, Or.inl rfl⟩)) (l_kr (by decide) rfl) rfl ?_
  refine e_get (a := 1) (u := .ref 2) rfl rfl rfl (fun _ => rfl) ?_
  refine e_ld (t := 0) rfl (Or.inl ⟨rfl, Or.inl rfl⟩) l_s rfl ?_
  refine e_ld (t := 0) rfl (Or.inl ⟨rfl, Or.inl rfl⟩) (l_ki (by decide) rfl) rfl ?_
  refine e_wr (a := 2) (by omega) rfl (by decide) (Nat.le_of_ble_eq_true rfl) rfl ?_
  refine y_let (Option.map (fun t : yM × Int => (t.1, cc, some (.int (yi t.2))))) (fun M3 => ?_)
  refine e_ld (t := 2) rfl (Or.inr (Or.inl ⟨rfl, Or.inl rfl⟩)) (l_kr (by decide) rfl) rfl ?_
  refine e_get (a := 1) (u := .ref 3) rfl rfl rfl (fun _ => rfl) ?_
  refine e_ld (t := 0) rfl (Or.inl ⟨rfl, Or.inl rfl⟩) l_s rfl ?_
  refine e_ld (t := 0) rfl (Or.inl ⟨rfl, Or.inl rfl⟩) (l_ki (by decide) rfl) rfl ?_
  refine e_br (Option.map (fun t : yM × Int => (t.1, cc, some (.int (yi t.2))))) (q := 0) (by decide) rfl (fun h4 => ?_) (fun h4 => ?_)
  · refine e_ld (t := 2) rfl (Or.inr (Or.inl ⟨rfl, Or.inl rfl⟩)) (l_kr (by decide) rfl) rfl ?_
    refine e_get (a := 1) (u := .ref 3) rfl rfl rfl (fun _ => rfl) ?_
    refine e_ld (t := 0) rfl (Or.inl ⟨rfl, Or.inl rfl⟩) (l_ki (by decide) rfl) rfl ?_
    refine e_at (a := 3) (by omega) rfl (by decide) (Nat.le_of_ble_eq_true rfl) rfl ?_
    exact t_104_25 (by omega) (l_kr (by decide) rfl) l_s
  · refine e_ic (b := 1) rfl (by decide) (by decide) ?_
    refine e_go rfl ?_
    exact t_104_25 (by omega) (l_kr (by decide) rfl) l_s
/-- UnwindTower$Program.addProcedure -/
def f_106 (M : yM) (x1 : Int) : yM × Int := (ylet (M 1 4) fun v1 => (ylet (yU M 1 4 ((M 1 4) + 1)) fun M2 => (ylet (ywr M2 5 v1 x1) fun M3 => (M3, v1))))
theorem t_106 {sc : List Int32} {dd cc : Nat} {M : yM} {x1 : Int} (hd : 2 ≤ dd) : yP sc dd 106 [.ref 1, .int (yi x1)] M cc (some ((f_106 M x1).1, cc, some (.int (yi (f_106 M x1).2)))) := by
  obtain ⟨dd, rfl⟩ : ∃ e, dd = e + 1 := ⟨dd - 1, by omega⟩
  refine e_meth (C := zg_c106) (W := zg_w106) (ml := 3) rfl rfl (Nat.le_of_ble_eq_true rfl) ?_
  unfold f_106
  refine e_ld (t := 2) rfl (Or.inr (Or.inl ⟨rfl, Or.inl rfl⟩)) rfl rfl ?_
  refine e_get (a := 1) (u := .int (yi (M 1 4))) rfl rfl rfl (fun _ => rfl) ?_
  refine e_stl (g := (fun t : yM × Int => some (t.1, cc, some (.int (yi t.2))))) rfl (Or.inl rfl) (fun v1 => ?_)
  refine e_ld (t := 2) rfl (Or.inr (Or.inl ⟨rfl, Or.inl rfl⟩)) (l_kr (by decide) rfl) rfl ?_
  refine e_dup rfl (Or.inr ⟨_, rfl⟩) ?_
  refine e_get (a := 1) (u := .int (yi (M 1 4))) rfl rfl rfl (fun _ => rfl) ?_
  refine e_ic (b := 1) rfl (by decide) (by decide) ?_
  refine e_add rfl ?_
  refine e_put (a := 1) rfl (Or.inl rfl) rfl rfl (Or.inl rfl) ?_
  refine y_let (fun t : yM × Int => some (t.1, cc, some (.int (yi t.2)))) (fun M2 => ?_)
  refine e_ld (t := 2) rfl (Or.inr (Or.inl ⟨rfl, Or.inl rfl⟩)) (l_kr (by decide) rfl) rfl ?_
  refine e_get (a := 1) (u := .ref 5) rfl rfl rfl (fun _ => rfl) ?_
  refine e_ld (t := 0) rfl (Or.inl ⟨rfl, Or.inl rfl⟩) l_s rfl ?_
  refine e_ld (t := 0) rfl (Or.inl ⟨rfl, Or.inl rfl⟩) (l_ki (by decide) rfl) rfl ?_
  refine e_wr (a := 5) (by omega) rfl (by decide) (Nat.le_of_ble_eq_true rfl) rfl ?_
  refine y_let (fun t : yM × Int => some (t.1, cc, some (.int (yi t.2)))) (fun M3 => ?_)
  refine e_ld (t := 0) rfl (Or.inl ⟨rfl, Or.inl rfl⟩) l_s rfl ?_
  exact e_iret rfl (Or.inl rfl)
/-- UnwindTower$Program.canOfPart -/
def f_109 (M : yM) (x1 : Int) : Int := (cond (yrel 1 x1 (-1)) (yrd M 16 x1) 0)
theorem t_109 {sc : List Int32} {dd cc : Nat} {M : yM} {x1 : Int} (hd : 2 ≤ dd) : yP sc dd 109 [.ref 1, .int (yi x1)] M cc (some (M, cc, some (.int (yi (f_109 M x1))))) := by
  obtain ⟨dd, rfl⟩ : ∃ e, dd = e + 1 := ⟨dd - 1, by omega⟩
  refine e_meth (C := zg_c109) (W := zg_w109) (ml := 2) rfl rfl (Nat.le_of_ble_eq_true rfl) ?_
  unfold f_109
  refine e_ld (t := 0) rfl (Or.inl ⟨rfl, Or.inl rfl⟩) rfl rfl ?_
  refine e_ic (b := (-1)) rfl (by decide) (by decide) ?_
  refine e_cmp (fun t : Int => some (M, cc, some (.int (yi t)))) (q := 1) (by decide) rfl (fun h1 => ?_) (fun h1 => ?_)
  · refine e_ld (t := 2) rfl (Or.inr (Or.inl ⟨rfl, Or.inl rfl⟩)) rfl rfl ?_
    refine e_get (a := 1) (u := .ref 16) rfl rfl rfl (fun _ => rfl) ?_
    refine e_ld (t := 0) rfl (Or.inl ⟨rfl, Or.inl rfl⟩) rfl rfl ?_
    refine e_at (a := 16) (by omega) rfl (by decide) (Nat.le_of_ble_eq_true rfl) rfl ?_
    exact e_iret rfl (Or.inl rfl)
  · refine e_ic (b := 0) rfl (by decide) (by decide) ?_
    refine e_go rfl ?_
    exact e_iret rfl (Or.inl rfl)
/-- UnwindTower$Program.canOfTry -/
def f_110_65 (N : Nat) (M : yM) (x2 : Int) (x3 : Int) (x5 : Int) : Option (Int) := some (ybin 27 (ybin 27 x2 x3) (f_109 M x5))
theorem t_110_65 {sc : List Int32} {dd cc : Nat} {N : Nat} {M : yM} {x2 : Int} {x3 : Int} {x5 : Int} (hd : 2 ≤ dd) {L : zL} (hL0 : L 0 = some (.ref 1)) (hL2 : L 2 = some (.int (yi x2))) (hL3 : L 3 = some (.int (yi x3))) (hL5 : L 5 = some (.int (yi x5))) : yW sc zg_c110 zg_w110 dd 65 L [] M cc ((Option.map (fun t : Int => (M, cc, some (.int (yi t))))) (f_110_65 N M x2 x3 x5)) := by
  unfold f_110_65
  refine e_ld (t := 0) rfl (Or.inl ⟨rfl, Or.inl rfl⟩) hL2 rfl ?_
  refine e_ld (t := 0) rfl (Or.inl ⟨rfl, Or.inl rfl⟩) hL3 rfl ?_
  refine e_bin rfl (by decide) ?_
  refine e_ld (t := 2) rfl (Or.inr (Or.inl ⟨rfl, Or.inl rfl⟩)) hL0 rfl ?_
  refine e_ld (t := 0) rfl (Or.inl ⟨rfl, Or.inr rfl⟩) hL5 rfl ?_
  refine e_obj (M1 := M) (cc1 := cc) (v1 := some (.int (yi (f_109 M x5)))) (a := 1) (as := [.int (yi x5)]) rfl (by decide) rfl (Nat.le_of_ble_eq_true rfl) rfl (t_109 (by omega)) ?_
  refine e_bin rfl (by decide) ?_
  exact e_iret rfl (Or.inl rfl)
def f_110_46 (N : Nat) (M : yM) (x1 : Int) (x2 : Int) (x3 : Int) : Option (Int) := (ylet (yrd M 8 x1) fun v4 => (cond (yrel 0 v4 (-1)) (f_110_65 N M x2 x3 v4) (cond (yrel 1 (yrd M 17 v4) 1) (f_110_65 N M x2 x3 v4) (some (yrd M 16 v4)))))
theorem t_110_46 {sc : List Int32} {dd cc : Nat} {N : Nat} {M : yM} {x1 : Int} {x2 : Int} {x3 : Int} (hd : 2 ≤ dd) {L : zL} (hL0 : L 0 = some (.ref 1)) (hL1 : L 1 = some (.int (yi x1))) (hL2 : L 2 = some (.int (yi x2))) (hL3 : L 3 = some (.int (yi x3))) : yW sc zg_c110 zg_w110 dd 46 L [] M cc ((Option.map (fun t : Int => (M, cc, some (.int (yi t))))) (f_110_46 N M x1 x2 x3)) := by
  unfold f_110_46
  refine e_ld (t := 2) rfl (Or.inr (Or.inl ⟨rfl, Or.inl rfl⟩)) hL0 rfl ?_
  refine e_get (a := 1) (u := .ref 8) rfl rfl rfl (fun _ => rfl) ?_
  refine e_ld (t := 0) rfl (Or.inl ⟨rfl, Or.inl rfl⟩) hL1 rfl ?_
  refine e_at (a := 8) (by omega) rfl (by decide) (Nat.le_of_ble_eq_true rfl) rfl ?_
  refine e_stl (g := (Option.map (fun t : Int => (M, cc, some (.int (yi t)))))) rfl (Or.inr rfl) (fun v4 => ?_)
  refine e_ld (t := 0) rfl (Or.inl ⟨rfl, Or.inr rfl⟩) l_s rfl ?_
  refine e_ic (b := (-1)) rfl (by decide) (by decide) ?_
  refine e_cmp (Option.map (fun t : Int => (M, cc, some (.int (yi t))))) (q := 0) (by decide) rfl (fun h5 => ?_) (fun h5 => ?_)
  · exact t_110_65 (by omega) (l_kr (by decide) hL0) (l_ki (by decide) hL2) (l_ki (by decide) hL3) l_s
  · refine e_ld (t := 2) rfl (Or.inr (Or.inl ⟨rfl, Or.inl rfl⟩)) (l_kr (by decide) hL0) rfl ?_
    refine e_get (a := 1) (u := .ref 17) rfl rfl rfl (fun _ => rfl) ?_
    refine e_ld (t := 0) rfl (Or.inl ⟨rfl, Or.inr rfl⟩) l_s rfl ?_
    refine e_at (a := 17) (by omega) rfl (by decide) (Nat.le_of_ble_eq_true rfl) rfl ?_
    refine e_ic (b := 1) rfl (by decide) (by decide) ?_
    refine e_cmp (Option.map (fun t : Int => (M, cc, some (.int (yi t))))) (q := 1) (by decide) rfl (fun h6 => ?_) (fun h6 => ?_)
    · exact t_110_65 (by omega) (l_kr (by decide) hL0) (l_ki (by decide) hL2) (l_ki (by decide) hL3) l_s
    · refine e_ld (t := 2) rfl (Or.inr (Or.inl ⟨rfl, Or.inl rfl⟩)) (l_kr (by decide) hL0) rfl ?_
      refine e_get (a := 1) (u := .ref 16) rfl rfl rfl (fun _ => rfl) ?_
      refine e_ld (t := 0) rfl (Or.inl ⟨rfl, Or.inr rfl⟩) l_s rfl ?_
      refine e_at (a := 16) (by omega) rfl (by decide) (Nat.le_of_ble_eq_true rfl) rfl ?_
      exact e_iret rfl (Or.inl rfl)
def f_110_16 (N : Nat) : Nat → yM → Int → Int → Int → Int → Int → Option (Int)
  | 0, _, _, _, _, _, _ => none
  | n + 1, M, x1, x2, x3, x4, x5 => (cond (yrel 2 x4 0) (f_110_46 N M x1 x2 x3) (cond (yrel 5 x5 0) (f_110_46 N M x1 x2 x3) (ylet (ybin 26 x2 (ybin 105 (yrd M 4 (yrd M 8 x4)) (-1))) fun v8 => (ylet (ybin 27 x3 (yrd M 16 x4)) fun v9 => (ylet (yrd M 10 x4) fun v10 => (f_110_16 N n M x1 v8 v9 v10 (x5 + (-1))))))))
theorem t_110_16 {sc : List Int32} {dd cc : Nat} {N : Nat} (hd : 2 ≤ dd) : ∀ (n : Nat) {M : yM} {x1 : Int} {x2 : Int} {x3 : Int} {x4 : Int} {x5 : Int} {L : zL} (hL0 : L 0 = some (.ref 1)) (hL1 : L 1 = some (.int (yi x1))) (hL2 : L 2 = some (.int (yi x2))) (hL3 : L 3 = some (.int (yi x3))) (hL4 : L 4 = some (.int (yi x4))) (hL5 : L 5 = some (.int (yi x5))), yW sc zg_c110 zg_w110 dd 16 L [] M cc ((Option.map (fun t : Int => (M, cc, some (.int (yi t))))) (f_110_16 N n M x1 x2 x3 x4 x5)) := by
  intro n
  induction n with
  | zero => intros; exact y_none
  | succ n IH =>
    intro M x1 x2 x3 x4 x5 L hL0 hL1 hL2 hL3 hL4 hL5
    rw [f_110_16]
    refine e_ld (t := 0) rfl (Or.inl ⟨rfl, Or.inr rfl⟩) hL4 rfl ?_
    refine e_br (Option.map (fun t : Int => (M, cc, some (.int (yi t))))) (q := 2) (by decide) rfl (fun h3 => ?_) (fun h3 => ?_)
    · exact t_110_46 (by omega) hL0 hL1 hL2 hL3
    · refine e_ld (t := 0) rfl (Or.inl ⟨rfl, Or.inr rfl⟩) hL5 rfl ?_
      refine e_br (Option.map (fun t : Int => (M, cc, some (.int (yi t))))) (q := 5) (by decide) rfl (fun h7 => ?_) (fun h7 => ?_)
      · exact t_110_46 (by omega) hL0 hL1 hL2 hL3
      · refine e_ld (t := 0) rfl (Or.inl ⟨rfl, Or.inl rfl⟩) hL2 rfl ?_
        refine e_ld (t := 2) rfl (Or.inr (Or.inl ⟨rfl, Or.inl rfl⟩)) hL0 rfl ?_
        refine e_get (a := 1) (u := .ref 4) rfl rfl rfl (fun _ => rfl) ?_
        refine e_ld (t := 2) rfl (Or.inr (Or.inl ⟨rfl, Or.inl rfl⟩)) hL0 rfl ?_
        refine e_get (a := 1) (u := .ref 8) rfl rfl rfl (fun _ => rfl) ?_
        refine e_ld (t := 0) rfl (Or.inl ⟨rfl, Or.inr rfl⟩) hL4 rfl ?_
        refine e_at (a := 8) (by omega) rfl (by decide) (Nat.le_of_ble_eq_true rfl) rfl ?_
        refine e_at (a := 4) (by omega) rfl (by decide) (Nat.le_of_ble_eq_true rfl) rfl ?_
        refine e_ic (b := (-1)) rfl (by decide) (by decide) ?_
        refine e_bin rfl (by decide) ?_
        refine e_bin rfl (by decide) ?_
        refine e_stl (g := (Option.map (fun t : Int => (M, cc, some (.int (yi t)))))) rfl (Or.inl rfl) (fun v8 => ?_)
        refine e_ld (t := 0) rfl (Or.inl ⟨rfl, Or.inl rfl⟩) (l_ki (by decide) hL3) rfl ?_
        refine e_ld (t := 2) rfl (Or.inr (Or.inl ⟨rfl, Or.inl rfl⟩)) (l_kr (by decide) hL0) rfl ?_
        refine e_get (a := 1) (u := .ref 16) rfl rfl rfl (fun _ => rfl) ?_
        refine e_ld (t := 0) rfl (Or.inl ⟨rfl, Or.inr rfl⟩) (l_ki (by decide) hL4) rfl ?_
        refine e_at (a := 16) (by omega) rfl (by decide) (Nat.le_of_ble_eq_true rfl) rfl ?_
        refine e_bin rfl (by decide) ?_
        refine e_stl (g := (Option.map (fun t : Int => (M, cc, some (.int (yi t)))))) rfl (Or.inl rfl) (fun v9 => ?_)
        refine e_ld (t := 2) rfl (Or.inr (Or.inl ⟨rfl, Or.inl rfl⟩)) (l_kr (by decide) (l_kr (by decide) hL0)) rfl ?_
        refine e_get (a := 1) (u := .ref 10) rfl rfl rfl (fun _ => rfl) ?_
        refine e_ld (t := 0) rfl (Or.inl ⟨rfl, Or.inr rfl⟩) (l_ki (by decide) (l_ki (by decide) hL4)) rfl ?_
        refine e_at (a := 10) (by omega) rfl (by decide) (Nat.le_of_ble_eq_true rfl) rfl ?_
        refine e_stl (g := (Option.map (fun t : Int => (M, cc, some (.int (yi t)))))) rfl (Or.inr rfl) (fun v10 => ?_)
        refine e_inc (d := (-1)) rfl (l_ki (by decide) (l_ki (by decide) (l_ki (by decide) hL5))) (by decide) ?_
        refine e_go rfl ?_
        exact IH (l_kr (by decide) (l_kr (by decide) (l_kr (by decide) (l_kr (by decide) hL0)))) (l_ki (by decide) (l_ki (by decide) (l_ki (by decide) (l_ki (by decide) hL1)))) (l_ki (by decide) (l_ki (by decide) (l_ki (by decide) l_s))) (l_ki (by decide) (l_ki (by decide) l_s)) (l_ki (by decide) l_s) l_s
def f_110 (N : Nat) (M : yM) (x1 : Int) : Option (Int) := (ylet (f_109 M (yrd M 9 x1)) fun v1 => (ylet (yrd M 10 x1) fun v2 => (f_110_16 N N M x1 v1 0 v2 90)))
theorem t_110 {sc : List Int32} {dd cc : Nat} {N : Nat} {M : yM} {x1 : Int} (hd : 3 ≤ dd) : yP sc dd 110 [.ref 1, .int (yi x1)] M cc ((Option.map (fun t : Int => (M, cc, some (.int (yi t))))) (f_110 N M x1)) := by
  obtain ⟨dd, rfl⟩ : ∃ e, dd = e + 1 := ⟨dd - 1, by omega⟩
  refine e_meth (C := zg_c110) (W := zg_w110) (ml := 6) rfl rfl (Nat.le_of_ble_eq_true rfl) ?_
  unfold f_110
  refine e_ld (t := 2) rfl (Or.inr (Or.inl ⟨rfl, Or.inl rfl⟩)) rfl rfl ?_
  refine e_ld (t := 2) rfl (Or.inr (Or.inl ⟨rfl, Or.inl rfl⟩)) rfl rfl ?_
  refine e_get (a := 1) (u := .ref 9) rfl rfl rfl (fun _ => rfl) ?_
  refine e_ld (t := 0) rfl (Or.inl ⟨rfl, Or.inl rfl⟩) rfl rfl ?_
  refine e_at (a := 9) (by omega) rfl (by decide) (Nat.le_of_ble_eq_true rfl) rfl ?_
  refine e_obj (M1 := M) (cc1 := cc) (v1 := some (.int (yi (f_109 M (yrd M 9 x1))))) (a := 1) (as := [.int (yi (yrd M 9 x1))]) rfl (by decide) rfl (Nat.le_of_ble_eq_true rfl) rfl (t_109 (by omega)) ?_
  refine e_stl (g := (Option.map (fun t : Int => (M, cc, some (.int (yi t)))))) rfl (Or.inl rfl) (fun v1 => ?_)
  refine e_ic (b := 0) rfl (by decide) (by decide) ?_
  refine e_st (t := 0) rfl (Or.inl ⟨rfl, Or.inl rfl⟩) rfl ?_
  refine e_ld (t := 2) rfl (Or.inr (Or.inl ⟨rfl, Or.inl rfl⟩)) (l_kr (by decide) (l_kr (by decide) rfl)) rfl ?_
  refine e_get (a := 1) (u := .ref 10) rfl rfl rfl (fun _ => rfl) ?_
  refine e_ld (t := 0) rfl (Or.inl ⟨rfl, Or.inl rfl⟩) (l_ki (by decide) (l_ki (by decide) rfl)) rfl ?_
  refine e_at (a := 10) (by omega) rfl (by decide) (Nat.le_of_ble_eq_true rfl) rfl ?_
  refine e_stl (g := (Option.map (fun t : Int => (M, cc, some (.int (yi t)))))) rfl (Or.inr rfl) (fun v2 => ?_)
  refine e_ic (b := 90) rfl (by decide) (by decide) ?_
  refine e_st (t := 0) rfl (Or.inl ⟨rfl, Or.inr rfl⟩) rfl ?_
  exact t_110_16 (by omega) N (l_kr (by decide) (l_kr (by decide) (l_kr (by decide) (l_kr (by decide) rfl)))) (l_ki (by decide) (l_ki (by decide) (l_ki (by decide) (l_ki (by decide) rfl)))) (l_ki (by decide) (l_ki (by decide) (l_ki (by decide) l_s))) (l_ki (by decide) (l_ki (by decide) l_s)) (l_ki (by decide) l_s) l_s
/-- UnwindTower$Program.countCatches -/
def f_112_27 (N : Nat) (ih4 : yM → Int → Int → Int → Option (Int)) (M : yM) (x1 : Int) (x2 : Int) (x3 : Int) : Option (Int) := (ih4 M x1 x2 (x3 + 1))
theorem t_112_27 {sc : List Int32} {dd cc : Nat} {N : Nat} {ih4 : yM → Int → Int → Int → Option (Int)} {M : yM} {x1 : Int} {x2 : Int} {x3 : Int} (hd : 1 ≤ dd) (ih4_ : ∀ {M : yM} {x1 : Int} {x2 : Int} {x3 : Int} {L : zL} (hL0 : L 0 = some (.ref 1)) (hL1 : L 1 = some (.int (yi x1))) (hL2 : L 2 = some (.int (yi x2))) (hL3 : L 3 = some (.int (yi x3))), yW sc zg_c112 zg_w112 dd 4 L [] M cc ((Option.map (fun t : Int => (M, cc, some (.int (yi t))))) (ih4 M x1 x2 x3))) {L : zL} (hL0 : L 0 = some (.ref 1)) (hL1 : L 1 = some (.int (yi x1))) (hL2 : L 2 = some (.int (yi x2))) (hL3 : L 3 = some (.int (yi x3))) : yW sc zg_c112 zg_w112 dd 27 L [] M cc ((Option.map (fun t : Int => (M, cc, some (.int (yi t))))) (f_112_27 N ih4 M x1 x2 x3)) := by
  unfold f_112_27
  refine e_inc (d := 1) rfl hL3 (by decide) ?_
  refine e_go rfl ?_
  exact ih4_ (l_kr (by decide) hL0) (l_ki (by decide) hL1) (l_ki (by decide) hL2) l_s
def f_112_4 (N : Nat) : Nat → yM → Int → Int → Int → Option (Int)
  | 0, _, _, _, _ => none
  | n + 1, M, x1, x2, x3 => (cond (yrel 3 x3 (M 1 7)) (some x2) (cond (yrel 1 (yrd M 7 x3) 12) (f_112_27 N (f_112_4 N n) M x1 x2 x3) (cond (yrel 1 (yrd M 8 x3) x1) (f_112_27 N (f_112_4 N n) M x1 x2 x3) (cond (yrel 0 (yrd M 13 x3) (-1)) (f_112_27 N (f_112_4 N n) M x1 x2 x3) (f_112_27 N (f_112_4 N n) M x1 (x2 + 1) x3)))))
theorem t_112_4 {sc : List Int32} {dd cc : Nat} {N : Nat} (hd : 1 ≤ dd) : ∀ (n : Nat) {M : yM} {x1 : Int} {x2 : Int} {x3 : Int} {L : zL} (hL0 : L 0 = some (.ref 1)) (hL1 : L 1 = some (.int (yi x1))) (hL2 : L 2 = some (.int (yi x2))) (hL3 : L 3 = some (.int (yi x3))), yW sc zg_c112 zg_w112 dd 4 L [] M cc ((Option.map (fun t : Int => (M, cc, some (.int (yi t))))) (f_112_4 N n M x1 x2 x3)) := by
  intro n
  induction n with
  | zero => intros; exact y_none
  | succ n IH =>
    intro M x1 x2 x3 L hL0 hL1 hL2 hL3
    rw [f_112_4]
    refine e_ld (t := 0) rfl (Or.inl ⟨rfl, Or.inl rfl⟩) hL3 rfl ?_
    refine e_ld (t := 2) rfl (Or.inr (Or.inl ⟨rfl, Or.inl rfl⟩)) hL0 rfl ?_
    refine e_get (a := 1) (u := .int (yi (M 1 7))) rfl rfl rfl (fun _ => rfl) ?_
    refine e_cmp (Option.map (fun t : Int => (M, cc, some (.int (yi t))))) (q := 3) (by decide) rfl (fun h1 => ?_) (fun h1 => ?_)
    · refine e_ld (t := 0) rfl (Or.inl ⟨rfl, Or.inl rfl⟩) hL2 rfl ?_
      exact e_iret rfl (Or.inl rfl)
    · refine e_ld (t := 2) rfl (Or.inr (Or.inl ⟨rfl, Or.inl rfl⟩)) hL0 rfl ?_
      refine e_get (a := 1) (u := .ref 7) rfl rfl rfl (fun _ => rfl) ?_
      refine e_ld (t := 0) rfl (Or.inl ⟨rfl, Or.inl rfl⟩) hL3 rfl ?_
      refine e_at (a := 7) (by omega) rfl (by decide) (Nat.le_of_ble_eq_true rfl) rfl ?_
      refine e_ic (b := 12) rfl (by decide) (by decide) ?_
      refine e_cmp (Option.map (fun t : Int => (M, cc, some (.int (yi t))))) (q := 1) (by decide) rfl (fun h2 => ?_) (fun h2 => ?_)
      · exact t_112_27 (by omega) IH hL0 hL1 hL2 hL3
      · refine e_ld (t := 2) rfl (Or.inr (Or.inl ⟨rfl, Or.inl rfl⟩)) hL0 rfl ?_
        refine e_get (a := 1) (u := .ref 8) rfl rfl rfl (fun _ => rfl) ?_
        refine e_ld (t := 0) rfl (Or.inl ⟨rfl, Or.inl rfl⟩) hL3 rfl ?_
        refine e_at (a := 8) (by omega) rfl (by decide) (Nat.le_of_ble_eq_true rfl) rfl ?_
        refine e_ld (t := 0) rfl (Or.inl ⟨rfl, Or.inl rfl⟩) hL1 rfl ?_
        refine e_cmp (Option.map (fun t : Int => (M, cc, some (.int (yi t))))) (q := 1) (by decide) rfl (fun h3 => ?_) (fun h3 => ?_)
        · exact t_112_27 (by omega) IH hL0 hL1 hL2 hL3
        · refine e_ld (t := 2) rfl (Or.inr (Or.inl ⟨rfl, Or.inl rfl⟩)) hL0 rfl ?_
          refine e_get (a := 1) (u := .ref 13) rfl rfl rfl (fun _ => rfl) ?_
          refine e_ld (t := 0) rfl (Or.inl ⟨rfl, Or.inl rfl⟩) hL3 rfl ?_
          refine e_at (a := 13) (by omega) rfl (by decide) (Nat.le_of_ble_eq_true rfl) rfl ?_
          refine e_ic (b := (-1)) rfl (by decide) (by decide) ?_
          refine e_cmp (Option.map (fun t : Int => (M, cc, some (.int (yi t))))) (q := 0) (by decide) rfl (fun h4 => ?_) (fun h4 => ?_)
          · exact t_112_27 (by omega) IH hL0 hL1 hL2 hL3
          · refine e_inc (d := 1) rfl hL2 (by decide) ?_
            exact t_112_27 (by omega) IH (l_kr (by decide) hL0) (l_ki (by decide) hL1) l_s (l_ki (by decide) hL3)
def f_112 (N : Nat) (M : yM) (x1 : Int) : Option (Int) := (f_112_4 N N M x1 0 0)
theorem t_112 {sc : List Int32} {dd cc : Nat} {N : Nat} {M : yM} {x1 : Int} (hd : 2 ≤ dd) : yP sc dd 112 [.ref 1, .int (yi x1)] M cc ((Option.map (fun t : Int => (M, cc, some (.int (yi t))))) (f_112 N M x1)) := by
  obtain ⟨dd, rfl⟩ : ∃ e, dd = e + 1 := ⟨dd - 1, by omega⟩
  refine e_meth (C := zg_c112) (W := zg_w112) (ml := 4) rfl rfl (Nat.le_of_ble_eq_true rfl) ?_
  unfold f_112
  refine e_ic (b := 0) rfl (by decide) (by decide) ?_
  refine e_st (t := 0) rfl (Or.inl ⟨rfl, Or.inl rfl⟩) rfl ?_
  refine e_ic (b := 0) rfl (by decide) (by decide) ?_
  refine e_st (t := 0) rfl (Or.inl ⟨rfl, Or.inl rfl⟩) rfl ?_
  exact t_112_4 (by omega) N (l_kr (by decide) (l_kr (by decide) rfl)) (l_ki (by decide) (l_ki (by decide) rfl)) (l_ki (by decide) l_s) l_s
/-- UnwindTower$Program.countInNone -/
def f_113_15 (N : Nat) (ih4 : yM → Int → Int → Option (Int)) (M : yM) (x1 : Int) (x2 : Int) : Option (Int) := (ih4 M x1 (x2 + 1))
theorem t_113_15 {sc : List Int32} {dd cc : Nat} {N : Nat} {ih4 : yM → Int → Int → Option (Int)} {M : yM} {x1 : Int} {x2 : Int} (hd : 1 ≤ dd) (ih4_ : ∀ {M : yM} {x1 : Int} {x2 : Int} {L : zL} (hL0 : L 0 = some (.ref 1)) (hL1 : L 1 = some (.int (yi x1))) (hL2 : L 2 = some (.int (yi x2))), yW sc zg_c113 zg_w113 dd 4 L [] M cc ((Option.map (fun t : Int => (M, cc, some (.int (yi t))))) (ih4 M x1 x2))) {L : zL} (hL0 : L 0 = some (.ref 1)) (hL1 : L 1 = some (.int (yi x1))) (hL2 : L 2 = some (.int (yi x2))) : yW sc zg_c113 zg_w113 dd 15 L [] M cc ((Option.map (fun t : Int => (M, cc, some (.int (yi t))))) (f_113_15 N ih4 M x1 x2)) := by
  unfold f_113_15
  refine e_inc (d := 1) rfl hL2 (by decide) ?_
  refine e_go rfl ?_
  exact ih4_ (l_kr (by decide) hL0) (l_ki (by decide) hL1) l_s
def f_113_4 (N : Nat) : Nat → yM → Int → Int → Option (Int)
  | 0, _, _, _ => none
  | n + 1, M, x1, x2 => (cond (yrel 3 x2 (M 1 7)) (some x1) (cond (yrel 1 (yrd M 13 x2) (-1)) (f_113_15 N (f_113_4 N n) M x1 x2) (f_113_15 N (f_113_4 N n) M (x1 + 1) x2)))
theorem t_113_4 {sc : List Int32} {dd cc : Nat} {N : Nat} (hd : 1 ≤ dd) : ∀ (n : Nat) {M : yM} {x1 : Int} {x2 : Int} {L : zL} (hL0 : L 0 = some (.ref 1)) (hL1 : L 1 = some (.int (yi x1))) (hL2 : L 2 = some (.int (yi x2))), yW sc zg_c113 zg_w113 dd 4 L [] M cc ((Option.map (fun t : Int => (M, cc, some (.int (yi t))))) (f_113_4 N n M x1 x2)) := by
  intro n
  induction n with
  | zero => intros; exact y_none
  | succ n IH =>
    intro M x1 x2 L hL0 hL1 hL2
    rw [f_113_4]
    refine e_ld (t := 0) rfl (Or.inl ⟨rfl, Or.inl rfl⟩) hL2 rfl ?_
    refine e_ld (t := 2) rfl (Or.inr (Or.inl ⟨rfl, Or.inl rfl⟩)) hL0 rfl ?_
    refine e_get (a := 1) (u := .int (yi (M 1 7))) rfl rfl rfl (fun _ => rfl) ?_
    refine e_cmp (Option.map (fun t : Int => (M, cc, some (.int (yi t))))) (q := 3) (by decide) rfl (fun h1 => ?_) (fun h1 => ?_)
    · refine e_ld (t := 0) rfl (Or.inl ⟨rfl, Or.inl rfl⟩) hL1 rfl ?_
      exact e_iret rfl (Or.inl rfl)
    · refine e_ld (t := 2) rfl (Or.inr (Or.inl ⟨rfl, Or.inl rfl⟩)) hL0 rfl ?_
      refine e_get (a := 1) (u := .ref 13) rfl rfl rfl (fun _ => rfl) ?_
      refine e_ld (t := 0) rfl (Or.inl ⟨rfl, Or.inl rfl⟩) hL2 rfl ?_
      refine e_at (a := 13) (by omega) rfl (by decide) (Nat.le_of_ble_eq_true rfl) rfl ?_
      refine e_ic (b := (-1)) rfl (by decide) (by decide) ?_
      refine e_cmp (Option.map (fun t : Int => (M, cc, some (.int (yi t))))) (q := 1) (by decide) rfl (fun h2 => ?_) (fun h2 => ?_)
      · exact t_113_15 (by omega) IH hL0 hL1 hL2
      · refine e_inc (d := 1) rfl hL1 (by decide) ?_
        exact t_113_15 (by omega) IH (l_kr (by decide) hL0) l_s (l_ki (by decide) hL2)
def f_113 (N : Nat) (M : yM) : Option (Int) := (f_113_4 N N M 0 0)
theorem t_113 {sc : List Int32} {dd cc : Nat} {N : Nat} {M : yM} (hd : 2 ≤ dd) : yP sc dd 113 [.ref 1] M cc ((Option.map (fun t : Int => (M, cc, some (.int (yi t))))) (f_113 N M)) := by
  obtain ⟨dd, rfl⟩ : ∃ e, dd = e + 1 := ⟨dd - 1, by omega⟩
  refine e_meth (C := zg_c113) (W := zg_w113) (ml := 3) rfl rfl (Nat.le_of_ble_eq_true rfl) ?_
  unfold f_113
  refine e_ic (b := 0) rfl (by decide) (by decide) ?_
  refine e_st (t := 0) rfl (Or.inl ⟨rfl, Or.inl rfl⟩) rfl ?_
  refine e_ic (b := 0) rfl (by decide) (by decide) ?_
  refine e_st (t := 0) rfl (Or.inl ⟨rfl, Or.inl rfl⟩) rfl ?_
  exact t_113_4 (by omega) N (l_kr (by decide) (l_kr (by decide) rfl)) (l_ki (by decide) l_s) l_s
