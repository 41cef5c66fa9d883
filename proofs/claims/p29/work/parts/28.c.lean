/-! methods as functions of the numbers, with their ties (2) -/
/-- UnwindTower$Program.deriveFromAround -/
def f_115_71 (M : yM) (s0 : Int) (s1 : Int) : yM := (ylet (ywr M 15 s1 s0) fun M8 => M8)
theorem t_115_71 {sc : List Int32} {dd cc : Nat} {M : yM} {s0 : Int} {s1 : Int} (hd : 1 ≤ dd) {L : zL} : yW sc zg_c115 zg_w115 dd 71 L [.int (yi s0), .int (yi s1), .ref 15] M cc ((fun t : yM => some (t, cc, none)) (f_115_71 M s0 s1)) := by
  unfold f_115_71
  refine e_wr (a := 15) (by omega) rfl (by decide) (Nat.le_of_ble_eq_true rfl) rfl ?_
  refine y_let (fun t : yM => some (t, cc, none)) (fun M8 => ?_)
  exact e_vret rfl
def f_115_58 (M : yM) (x1 : Int) (x2 : Int) (x3 : Int) (s0 : Int) (s1 : Int) : yM := (ylet (ywr M 14 s1 s0) fun M6 => (cond (yrel 1 x3 6) (f_115_71 M6 (yrd M6 15 x2) x1) (f_115_71 M6 x2 x1)))
theorem t_115_58 {sc : List Int32} {dd cc : Nat} {M : yM} {x1 : Int} {x2 : Int} {x3 : Int} {s0 : Int} {s1 : Int} (hd : 1 ≤ dd) {L : zL} (hL0 : L 0 = some (.ref 1)) (hL1 : L 1 = some (.int (yi x1))) (hL2 : L 2 = some (.int (yi x2))) (hL3 : L 3 = some (.int (yi x3))) : yW sc zg_c115 zg_w115 dd 58 L [.int (yi s0), .int (yi s1), .ref 14] M cc ((fun t : yM => some (t, cc, none)) (f_115_58 M x1 x2 x3 s0 s1)) := by
  unfold f_115_58
  refine e_wr (a := 14) (by omega) rfl (by decide) (Nat.le_of_ble_eq_true rfl) rfl ?_
  refine y_let (fun t : yM => some (t, cc, none)) (fun M6 => ?_)
  refine e_ld (t := 2) rfl (Or.inr (Or.inl ⟨rfl, Or.inl rfl⟩)) hL0 rfl ?_
  refine e_get (a := 1) (u := .ref 15) rfl rfl rfl (fun _ => rfl) ?_
  refine e_ld (t := 0) rfl (Or.inl ⟨rfl, Or.inl rfl⟩) hL1 rfl ?_
  refine e_ld (t := 0) rfl (Or.inl ⟨rfl, Or.inl rfl⟩) hL3 rfl ?_
  refine e_ic (b := 6) rfl (by decide) (by decide) ?_
  refine e_cmp (fun t : yM => some (t, cc, none)) (q := 1) (by decide) rfl (fun h7 => ?_) (fun h7 => ?_)
  · refine e_ld (t := 2) rfl (Or.inr (Or.inl ⟨rfl, Or.inl rfl⟩)) hL0 rfl ?_
    refine e_get (a := 1) (u := .ref 15) rfl rfl rfl (fun _ => rfl) ?_
    refine e_ld (t := 0) rfl (Or.inl ⟨rfl, Or.inl rfl⟩) hL2 rfl ?_
    refine e_at (a := 15) (by omega) rfl (by decide) (Nat.le_of_ble_eq_true rfl) rfl ?_
    exact t_115_71 (by omega)
  · refine e_ld (t := 0) rfl (Or.inl ⟨rfl, Or.inl rfl⟩) hL2 rfl ?_
    refine e_go rfl ?_
    exact t_115_71 (by omega)
def f_115_54 (M : yM) (x1 : Int) (x2 : Int) (x3 : Int) (s0 : Int) : yM := (f_115_58 M x1 x2 x3 (yrd M 14 x2) s0)
theorem t_115_54 {sc : List Int32} {dd cc : Nat} {M : yM} {x1 : Int} {x2 : Int} {x3 : Int} {s0 : Int} (hd : 1 ≤ dd) {L : zL} (hL0 : L 0 = some (.ref 1)) (hL1 : L 1 = some (.int (yi x1))) (hL2 : L 2 = some (.int (yi x2))) (hL3 : L 3 = some (.int (yi x3))) : yW sc zg_c115 zg_w115 dd 54 L [.int (yi s0), .ref 14] M cc ((fun t : yM => some (t, cc, none)) (f_115_54 M x1 x2 x3 s0)) := by
  unfold f_115_54
  refine e_ld (t := 2) rfl (Or.inr (Or.inl ⟨rfl, Or.inl rfl⟩)) hL0 rfl ?_
  refine e_get (a := 1) (u := .ref 14) rfl rfl rfl (fun _ => rfl) ?_
  refine e_ld (t := 0) rfl (Or.inl ⟨rfl, Or.inl rfl⟩) hL2 rfl ?_
  refine e_at (a := 14) (by omega) rfl (by decide) (Nat.le_of_ble_eq_true rfl) rfl ?_
  exact t_115_58 (by omega) hL0 hL1 hL2 hL3
def f_115 (M : yM) (x1 : Int) : yM := (ylet (yrd M 11 x1) fun v1 => (cond (yrel 1 v1 (-1)) (ylet (yrd M 7 v1) fun v3 => (ylet (ywr M 13 x1 (yrd M 13 v1)) fun M4 => (cond (yrel 1 v3 12) (f_115_54 M4 x1 v1 v3 x1) (cond (yrel 1 x1 (yrd M4 9 v1)) (f_115_54 M4 x1 v1 v3 x1) (f_115_58 M4 x1 v1 v3 v1 x1))))) (ylet (ywr M 13 x1 (yrd M 12 x1)) fun M10 => (ylet (ywr M10 14 x1 (-1)) fun M11 => (ylet (ywr M11 15 x1 (-1)) fun M12 => M12)))))
theorem t_115 {sc : List Int32} {dd cc : Nat} {M : yM} {x1 : Int} (hd : 2 ≤ dd) : yP sc dd 115 [.ref 1, .int (yi x1)] M cc (some ((f_115 M x1), cc, none)) := by
  obtain ⟨dd, rfl⟩ : ∃ e, dd = e + 1 := ⟨dd - 1, by omega⟩
  refine e_meth (C := zg_c115) (W := zg_w115) (ml := 4) rfl rfl (Nat.le_of_ble_eq_true rfl) ?_
  unfold f_115
  refine e_ld (t := 2) rfl (Or.inr (Or.inl ⟨rfl, Or.inl rfl⟩)) rfl rfl ?_
  refine e_get (a := 1) (u := .ref 11) rfl rfl rfl (fun _ => rfl) ?_
  refine e_ld (t := 0) rfl (Or.inl ⟨rfl, Or.inl rfl⟩) rfl rfl ?_
  refine e_at (a := 11) (by omega) rfl (by decide) (Nat.le_of_ble_eq_true rfl) rfl ?_
  refine e_stl (g := (fun t : yM => some (t, cc, none))) rfl (Or.inl rfl) (fun v1 => ?_)
  refine e_ld (t := 0) rfl (Or.inl ⟨rfl, Or.inl rfl⟩) l_s rfl ?_
  refine e_ic (b := (-1)) rfl (by decide) (by decide) ?_
  refine e_cmp (fun t : yM => some (t, cc, none)) (q := 1) (by decide) rfl (fun h2 => ?_) (fun h2 => ?_)
  · refine e_ld (t := 2) rfl (Or.inr (Or.inl ⟨rfl, Or.inl rfl⟩)) (l_kr (by decide) rfl) rfl ?_
    refine e_get (a := 1) (u := .ref 7) rfl rfl rfl (fun _ => rfl) ?_
    refine e_ld (t := 0) rfl (Or.inl ⟨rfl, Or.inl rfl⟩) l_s rfl ?_
    refine e_at (a := 7) (by omega) rfl (by decide) (Nat.le_of_ble_eq_true rfl) rfl ?_
    refine e_stl (g := (fun t : yM => some (t, cc, none))) rfl (Or.inl rfl) (fun v3 => ?_)
    refine e_ld (t := 2) rfl (Or.inr (Or.inl ⟨rfl, Or.inl rfl⟩)) (l_kr (by decide) (l_kr (by decide) rfl)) rfl ?_
    refine e_get (a := 1) (u := .ref 13) rfl rfl rfl (fun _ => rfl) ?_
    refine e_ld (t := 0) rfl (Or.inl ⟨rfl, Or.inl rfl⟩) (l_ki (by decide) (l_ki (by decide) rfl)) rfl ?_
    refine e_ld (t := 2) rfl (Or.inr (Or.inl ⟨rfl, Or.inl rfl⟩)) (l_kr (by decide) (l_kr (by decide) rfl)) rfl ?_
    refine e_get (a := 1) (u := .ref 13) rfl rfl rfl (fun _ => rfl) ?_
    refine e_ld (t := 0) rfl (Or.inl ⟨rfl, Or.inl rfl⟩) (l_ki (by decide) l_s) rfl ?_
    refine e_at (a := 13) (by omega) rfl (by decide) (Nat.le_of_ble_eq_true rfl) rfl ?_
    refine e_wr (a := 13) (by omega) rfl (by decide) (Nat.le_of_ble_eq_true rfl) rfl ?_
    refine y_let (fun t : yM => some (t, cc, none)) (fun M4 => ?_)
    refine e_ld (t := 2) rfl (Or.inr (Or.inl ⟨rfl, Or.inl rfl⟩)) (l_kr (by decide) (l_kr (by decide) rfl)) rfl ?_
    refine e_get (a := 1) (u := .ref 14) rfl rfl rfl (fun _ => rfl) ?_
    refine e_ld (t := 0) rfl (Or.inl ⟨rfl, Or.inl rfl⟩) (l_ki (by decide) (l_ki (by decide) rfl)) rfl ?_
    refine e_ld (t := 0) rfl (Or.inl ⟨rfl, Or.inl rfl⟩) l_s rfl ?_
    refine e_ic (b := 12) rfl (by decide) (by decide) ?_
    refine e_cmp (fun t : yM => some (t, cc, none)) (q := 1) (by decide) rfl (fun h5 => ?_) (fun h5 => ?_)
    · exact t_115_54 (by omega) (l_kr (by decide) (l_kr (by decide) rfl)) (l_ki (by decide) (l_ki (by decide) rfl)) (l_ki (by decide) l_s) l_s
    · refine e_ld (t := 0) rfl (Or.inl ⟨rfl, Or.inl rfl⟩) (l_ki (by decide) (l_ki (by decide) rfl)) rfl ?_
      refine e_ld (t := 2) rfl (Or.inr (Or.inl ⟨rfl, Or.inl rfl⟩)) (l_kr (by decide) (l_kr (by decide) rfl)) rfl ?_
      refine e_get (a := 1) (u := .ref 9) rfl rfl rfl (fun _ => rfl) ?_
      refine e_ld (t := 0) rfl (Or.inl ⟨rfl, Or.inl rfl⟩) (l_ki (by decide) l_s) rfl ?_
      refine e_at (a := 9) (by omega) rfl (by decide) (Nat.le_of_ble_eq_true rfl) rfl ?_
      refine e_cmp (fun t : yM => some (t, cc, none)) (q := 1) (by decide) rfl (fun h9 => ?_) (fun h9 => ?_)
      · exact t_115_54 (by omega) (l_kr (by decide) (l_kr (by decide) rfl)) (l_ki (by decide) (l_ki (by decide) rfl)) (l_ki (by decide) l_s) l_s
      · refine e_ld (t := 0) rfl (Or.inl ⟨rfl, Or.inl rfl⟩) (l_ki (by decide) l_s) rfl ?_
        refine e_go rfl ?_
        exact t_115_58 (by omega) (l_kr (by decide) (l_kr (by decide) rfl)) (l_ki (by decide) (l_ki (by decide) rfl)) (l_ki (by decide) l_s) l_s
  · refine e_ld (t := 2) rfl (Or.inr (Or.inl ⟨rfl, Or.inl rfl⟩)) (l_kr (by decide) rfl) rfl ?_
    refine e_get (a := 1) (u := .ref 13) rfl rfl rfl (fun _ => rfl) ?_
    refine e_ld (t := 0) rfl (Or.inl ⟨rfl, Or.inl rfl⟩) (l_ki (by decide) rfl) rfl ?_
    refine e_ld (t := 2) rfl (Or.inr (Or.inl ⟨rfl, Or.inl rfl⟩)) (l_kr (by decide) rfl) rfl ?_
    refine e_get (a := 1) (u := .ref 12) rfl rfl rfl (fun _ => rfl) ?_
    refine e_ld (t := 0) rfl (Or.inl ⟨rfl, Or.inl rfl⟩) (l_ki (by decide) rfl) rfl ?_
    refine e_at (a := 12) (by omega) rfl (by decide) (Nat.le_of_ble_eq_true rfl) rfl ?_
    refine e_wr (a := 13) (by omega) rfl (by decide) (Nat.le_of_ble_eq_true rfl) rfl ?_
    refine y_let (fun t : yM => some (t, cc, none)) (fun M10 => ?_)
    refine e_ld (t := 2) rfl (Or.inr (Or.inl ⟨rfl, Or.inl rfl⟩)) (l_kr (by decide) rfl) rfl ?_
    refine e_get (a := 1) (u := .ref 14) rfl rfl rfl (fun _ => rfl) ?_
    refine e_ld (t := 0) rfl (Or.inl ⟨rfl, Or.inl rfl⟩) (l_ki (by decide) rfl) rfl ?_
    refine e_ic (b := (-1)) rfl (by decide) (by decide) ?_
    refine e_wr (a := 14) (by omega) rfl (by decide) (Nat.le_of_ble_eq_true rfl) rfl ?_
    refine y_let (fun t : yM => some (t, cc, none)) (fun M11 => ?_)
    refine e_ld (t := 2) rfl (Or.inr (Or.inl ⟨rfl, Or.inl rfl⟩)) (l_kr (by decide) rfl) rfl ?_
    refine e_get (a := 1) (u := .ref 15) rfl rfl rfl (fun _ => rfl) ?_
    refine e_ld (t := 0) rfl (Or.inl ⟨rfl, Or.inl rfl⟩) (l_ki (by decide) rfl) rfl ?_
    refine e_ic (b := (-1)) rfl (by decide) (by decide) ?_
    refine e_wr (a := 15) (by omega) rfl (by decide) (Nat.le_of_ble_eq_true rfl) rfl ?_
    refine y_let (fun t : yM => some (t, cc, none)) (fun M12 => ?_)
    exact e_vret rfl
/-- UnwindTower$Program.hasKind -/
def f_117 (M : yM) (x1 : Int) : Int := (cond (yrel 2 x1 0) 0 (cond (yrel 3 x1 (M 1 0)) 0 1))
theorem b_117 {M : yM} {x1 : Int} : f_117 M x1 = 0 ∨ f_117 M x1 = 1 := (zb_cond (Or.inl rfl) ((zb_cond (Or.inl rfl) (Or.inr rfl))))
theorem t_117 {sc : List Int32} {dd cc : Nat} {M : yM} {x1 : Int} (hd : 1 ≤ dd) : yP sc dd 117 [.ref 1, .int (yi x1)] M cc (some (M, cc, some (.int (yi (f_117 M x1))))) := by
  obtain ⟨dd, rfl⟩ : ∃ e, dd = e + 1 := ⟨dd - 1, by omega⟩
  refine e_meth (C := zg_c117) (W := zg_w117) (ml := 2) rfl rfl (Nat.le_of_ble_eq_true rfl) ?_
  unfold f_117
  refine e_ld (t := 0) rfl (Or.inl ⟨rfl, Or.inl rfl⟩) rfl rfl ?_
  refine e_br (fun t : Int => some (M, cc, some (.int (yi t)))) (q := 2) (by decide) rfl (fun h1 => ?_) (fun h1 => ?_)
  · refine e_ic (b := 0) rfl (by decide) (by decide) ?_
    exact e_iret rfl (Or.inr ⟨rfl, Or.inl rfl⟩)
  · refine e_ld (t := 0) rfl (Or.inl ⟨rfl, Or.inl rfl⟩) rfl rfl ?_
    refine e_ld (t := 2) rfl (Or.inr (Or.inl ⟨rfl, Or.inl rfl⟩)) rfl rfl ?_
    refine e_get (a := 1) (u := .int (yi (M 1 0))) rfl rfl rfl (fun _ => rfl) ?_
    refine e_cmp (fun t : Int => some (M, cc, some (.int (yi t)))) (q := 3) (by decide) rfl (fun h2 => ?_) (fun h2 => ?_)
    · refine e_ic (b := 0) rfl (by decide) (by decide) ?_
      exact e_iret rfl (Or.inr ⟨rfl, Or.inl rfl⟩)
    · refine e_ic (b := 1) rfl (by decide) (by decide) ?_
      refine e_go rfl ?_
      exact e_iret rfl (Or.inr ⟨rfl, Or.inr rfl⟩)
/-- UnwindTower$Program.hasNode -/
def f_118 (M : yM) (x1 : Int) : Int := (cond (yrel 2 x1 0) 0 (cond (yrel 3 x1 (M 1 7)) 0 1))
theorem b_118 {M : yM} {x1 : Int} : f_118 M x1 = 0 ∨ f_118 M x1 = 1 := (zb_cond (Or.inl rfl) ((zb_cond (Or.inl rfl) (Or.inr rfl))))
theorem t_118 {sc : List Int32} {dd cc : Nat} {M : yM} {x1 : Int} (hd : 1 ≤ dd) : yP sc dd 118 [.ref 1, .int (yi x1)] M cc (some (M, cc, some (.int (yi (f_118 M x1))))) := by
  obtain ⟨dd, rfl⟩ : ∃ e, dd = e + 1 := ⟨dd - 1, by omega⟩
  refine e_meth (C := zg_c118) (W := zg_w118) (ml := 2) rfl rfl (Nat.le_of_ble_eq_true rfl) ?_
  unfold f_118
  refine e_ld (t := 0) rfl (Or.inl ⟨rfl, Or.inl rfl⟩) rfl rfl ?_
  refine e_br (fun t : Int => some (M, cc, some (.int (yi t)))) (q := 2) (by decide) rfl (fun h1 => ?_) (fun h1 => ?_)
  · refine e_ic (b := 0) rfl (by decide) (by decide) ?_
    exact e_iret rfl (Or.inr ⟨rfl, Or.inl rfl⟩)
  · refine e_ld (t := 0) rfl (Or.inl ⟨rfl, Or.inl rfl⟩) rfl rfl ?_
    refine e_ld (t := 2) rfl (Or.inr (Or.inl ⟨rfl, Or.inl rfl⟩)) rfl rfl ?_
    refine e_get (a := 1) (u := .int (yi (M 1 7))) rfl rfl rfl (fun _ => rfl) ?_
    refine e_cmp (fun t : Int => some (M, cc, some (.int (yi t)))) (q := 3) (by decide) rfl (fun h2 => ?_) (fun h2 => ?_)
    · refine e_ic (b := 0) rfl (by decide) (by decide) ?_
      exact e_iret rfl (Or.inr ⟨rfl, Or.inl rfl⟩)
    · refine e_ic (b := 1) rfl (by decide) (by decide) ?_
      refine e_go rfl ?_
      exact e_iret rfl (Or.inr ⟨rfl, Or.inr rfl⟩)
/-- UnwindTower$Program.hasProcedure -/
def f_119 (M : yM) (x1 : Int) : Int := (cond (yrel 2 x1 0) 0 (cond (yrel 3 x1 (M 1 4)) 0 1))
theorem b_119 {M : yM} {x1 : Int} : f_119 M x1 = 0 ∨ f_119 M x1 = 1 := (zb_cond (Or.inl rfl) ((zb_cond (Or.inl rfl) (Or.inr rfl))))
theorem t_119 {sc : List Int32} {dd cc : Nat} {M : yM} {x1 : Int} (hd : 1 ≤ dd) : yP sc dd 119 [.ref 1, .int (yi x1)] M cc (some (M, cc, some (.int (yi (f_119 M x1))))) := by
  obtain ⟨dd, rfl⟩ : ∃ e, dd = e + 1 := ⟨dd - 1, by omega⟩
  refine e_meth (C := zg_c119) (W := zg_w119) (ml := 2) rfl rfl (Nat.le_of_ble_eq_true rfl) ?_
  unfold f_119
  refine e_ld (t := 0) rfl (Or.inl ⟨rfl, Or.inl rfl⟩) rfl rfl ?_
  refine e_br (fun t : Int => some (M, cc, some (.int (yi t)))) (q := 2) (by decide) rfl (fun h1 => ?_) (fun h1 => ?_)
  · refine e_ic (b := 0) rfl (by decide) (by decide) ?_
    exact e_iret rfl (Or.inr ⟨rfl, Or.inl rfl⟩)
  · refine e_ld (t := 0) rfl (Or.inl ⟨rfl, Or.inl rfl⟩) rfl rfl ?_
    refine e_ld (t := 2) rfl (Or.inr (Or.inl ⟨rfl, Or.inl rfl⟩)) rfl rfl ?_
    refine e_get (a := 1) (u := .int (yi (M 1 4))) rfl rfl rfl (fun _ => rfl) ?_
    refine e_cmp (fun t : Int => some (M, cc, some (.int (yi t)))) (q := 3) (by decide) rfl (fun h2 => ?_) (fun h2 => ?_)
    · refine e_ic (b := 0) rfl (by decide) (by decide) ?_
      exact e_iret rfl (Or.inr ⟨rfl, Or.inl rfl⟩)
    · refine e_ic (b := 1) rfl (by decide) (by decide) ?_
      refine e_go rfl ?_
      exact e_iret rfl (Or.inr ⟨rfl, Or.inr rfl⟩)
/-- UnwindTower$Program.isAtOrBelow -/
def f_120 (M : yM) (x1 : Int) (x2 : Int) : Int := (cond (yrel 1 (ybin 26 (ybin 104 (yrd M 4 x2) x1) 1) 1) 0 1)
theorem b_120 {M : yM} {x1 : Int} {x2 : Int} : f_120 M x1 x2 = 0 ∨ f_120 M x1 x2 = 1 := (zb_cond (Or.inl rfl) (Or.inr rfl))
theorem t_120 {sc : List Int32} {dd cc : Nat} {M : yM} {x1 : Int} {x2 : Int} (hd : 2 ≤ dd) : yP sc dd 120 [.ref 1, .int (yi x1), .int (yi x2)] M cc (some (M, cc, some (.int (yi (f_120 M x1 x2))))) := by
  obtain ⟨dd, rfl⟩ : ∃ e, dd = e + 1 := ⟨dd - 1, by omega⟩
  refine e_meth (C := zg_c120) (W := zg_w120) (ml := 3) rfl rfl (Nat.le_of_ble_eq_true rfl) ?_
  unfold f_120
  refine e_ld (t := 2) rfl (Or.inr (Or.inl ⟨rfl, Or.inl rfl⟩)) rfl rfl ?_
  refine e_get (a := 1) (u := .ref 4) rfl rfl rfl (fun _ => rfl) ?_
  refine e_ld (t := 0) rfl (Or.inl ⟨rfl, Or.inl rfl⟩) rfl rfl ?_
  refine e_at (a := 4) (by omega) rfl (by decide) (Nat.le_of_ble_eq_true rfl) rfl ?_
  refine e_ld (t := 0) rfl (Or.inl ⟨rfl, Or.inl rfl⟩) rfl rfl ?_
  refine e_bin rfl (by decide) ?_
  refine e_ic (b := 1) rfl (by decide) (by decide) ?_
  refine e_bin rfl (by decide) ?_
  refine e_ic (b := 1) rfl (by decide) (by decide) ?_
  refine e_cmp (fun t : Int => some (M, cc, some (.int (yi t)))) (q := 1) (by decide) rfl (fun h1 => ?_) (fun h1 => ?_)
  · refine e_ic (b := 0) rfl (by decide) (by decide) ?_
    exact e_iret rfl (Or.inr ⟨rfl, Or.inl rfl⟩)
  · refine e_ic (b := 1) rfl (by decide) (by decide) ?_
    refine e_go rfl ?_
    exact e_iret rfl (Or.inr ⟨rfl, Or.inr rfl⟩)
/-- UnwindTower$Program.isFree -/
def f_121 (M : yM) (x1 : Int) : Int := (cond (yrel 0 (f_118 M x1) 0) 0 (cond (yrel 1 (yrd M 11 x1) (-1)) 0 (cond (yrel 1 (yrd M 12 x1) (-1)) 0 1)))
theorem b_121 {M : yM} {x1 : Int} : f_121 M x1 = 0 ∨ f_121 M x1 = 1 := (zb_cond (Or.inl rfl) ((zb_cond (Or.inl rfl) ((zb_cond (Or.inl rfl) (Or.inr rfl))))))
theorem t_121 {sc : List Int32} {dd cc : Nat} {M : yM} {x1 : Int} (hd : 2 ≤ dd) : yP sc dd 121 [.ref 1, .int (yi x1)] M cc (some (M, cc, some (.int (yi (f_121 M x1))))) := by
  obtain ⟨dd, rfl⟩ : ∃ e, dd = e + 1 := ⟨dd - 1, by omega⟩
  refine e_meth (C := zg_c121) (W := zg_w121) (ml := 2) rfl rfl (Nat.le_of_ble_eq_true rfl) ?_
  unfold f_121
  refine e_ld (t := 2) rfl (Or.inr (Or.inl ⟨rfl, Or.inl rfl⟩)) rfl rfl ?_
  refine e_ld (t := 0) rfl (Or.inl ⟨rfl, Or.inl rfl⟩) rfl rfl ?_
  refine e_obj (M1 := M) (cc1 := cc) (v1 := some (.int (yi (f_118 M x1)))) (a := 1) (as := [.int (yi x1)]) rfl (by decide) rfl (Nat.le_of_ble_eq_true rfl) rfl (t_118 (by omega)) ?_
  refine e_br (fun t : Int => some (M, cc, some (.int (yi t)))) (q := 0) (by decide) rfl (fun h1 => ?_) (fun h1 => ?_)
  · refine e_ic (b := 0) rfl (by decide) (by decide) ?_
    exact e_iret rfl (Or.inr ⟨rfl, Or.inl rfl⟩)
  · refine e_ld (t := 2) rfl (Or.inr (Or.inl ⟨rfl, Or.inl rfl⟩)) rfl rfl ?_
    refine e_get (a := 1) (u := .ref 11) rfl rfl rfl (fun _ => rfl) ?_
    refine e_ld (t := 0) rfl (Or.inl ⟨rfl, Or.inl rfl⟩) rfl rfl ?_
    refine e_at (a := 11) (by omega) rfl (by decide) (Nat.le_of_ble_eq_true rfl) rfl ?_
    refine e_ic (b := (-1)) rfl (by decide) (by decide) ?_
    refine e_cmp (fun t : Int => some (M, cc, some (.int (yi t)))) (q := 1) (by decide) rfl (fun h2 => ?_) (fun h2 => ?_)
    · refine e_ic (b := 0) rfl (by decide) (by decide) ?_
      exact e_iret rfl (Or.inr ⟨rfl, Or.inl rfl⟩)
    · refine e_ld (t := 2) rfl (Or.inr (Or.inl ⟨rfl, Or.inl rfl⟩)) rfl rfl ?_
      refine e_get (a := 1) (u := .ref 12) rfl rfl rfl (fun _ => rfl) ?_
      refine e_ld (t := 0) rfl (Or.inl ⟨rfl, Or.inl rfl⟩) rfl rfl ?_
      refine e_at (a := 12) (by omega) rfl (by decide) (Nat.le_of_ble_eq_true rfl) rfl ?_
      refine e_ic (b := (-1)) rfl (by decide) (by decide) ?_
      refine e_cmp (fun t : Int => some (M, cc, some (.int (yi t)))) (q := 1) (by decide) rfl (fun h3 => ?_) (fun h3 => ?_)
      · refine e_ic (b := 0) rfl (by decide) (by decide) ?_
        exact e_iret rfl (Or.inr ⟨rfl, Or.inl rfl⟩)
      · refine e_ic (b := 1) rfl (by decide) (by decide) ?_
        refine e_go rfl ?_
        exact e_iret rfl (Or.inr ⟨rfl, Or.inr rfl⟩)
/-- UnwindTower$Program.isNever -/
def f_124 (M : yM) (x1 : Int) : Int := (cond (yrel 0 x1 (-1)) 0 (cond (yrel 1 (yrd M 17 x1) 1) 0 1))
theorem b_124 {M : yM} {x1 : Int} : f_124 M x1 = 0 ∨ f_124 M x1 = 1 := (zb_cond (Or.inl rfl) ((zb_cond (Or.inl rfl) (Or.inr rfl))))
theorem t_124 {sc : List Int32} {dd cc : Nat} {M : yM} {x1 : Int} (hd : 2 ≤ dd) : yP sc dd 124 [.ref 1, .int (yi x1)] M cc (some (M, cc, some (.int (yi (f_124 M x1))))) := by
  obtain ⟨dd, rfl⟩ : ∃ e, dd = e + 1 := ⟨dd - 1, by omega⟩
  refine e_meth (C := zg_c124) (W := zg_w124) (ml := 2) rfl rfl (Nat.le_of_ble_eq_true rfl) ?_
  unfold f_124
  refine e_ld (t := 0) rfl (Or.inl ⟨rfl, Or.inl rfl⟩) rfl rfl ?_
  refine e_ic (b := (-1)) rfl (by decide) (by decide) ?_
  refine e_cmp (fun t : Int => some (M, cc, some (.int (yi t)))) (q := 0) (by decide) rfl (fun h1 => ?_) (fun h1 => ?_)
  · refine e_ic (b := 0) rfl (by decide) (by decide) ?_
    exact e_iret rfl (Or.inr ⟨rfl, Or.inl rfl⟩)
  · refine e_ld (t := 2) rfl (Or.inr (Or.inl ⟨rfl, Or.inl rfl⟩)) rfl rfl ?_
    refine e_get (a := 1) (u := .ref 17) rfl rfl rfl (fun _ => rfl) ?_
    refine e_ld (t := 0) rfl (Or.inl ⟨rfl, Or.inl rfl⟩) rfl rfl ?_
    refine e_at (a := 17) (by omega) rfl (by decide) (Nat.le_of_ble_eq_true rfl) rfl ?_
    refine e_ic (b := 1) rfl (by decide) (by decide) ?_
    refine e_cmp (fun t : Int => some (M, cc, some (.int (yi t)))) (q := 1) (by decide) rfl (fun h2 => ?_) (fun h2 => ?_)
    · refine e_ic (b := 0) rfl (by decide) (by decide) ?_
      exact e_iret rfl (Or.inr ⟨rfl, Or.inl rfl⟩)
    · refine e_ic (b := 1) rfl (by decide) (by decide) ?_
      refine e_go rfl ?_
      exact e_iret rfl (Or.inr ⟨rfl, Or.inr rfl⟩)
/-- UnwindTower$Program.isOperand -/
def f_126 (M : yM) (x1 : Int) : Int := (cond (yrel 2 x1 (-99)) (cond (yrel 2 x1 100) 0 (cond (yrel 3 x1 110) 0 1)) (cond (yrel 5 x1 99) 1 (cond (yrel 2 x1 100) 0 (cond (yrel 3 x1 110) 0 1))))
theorem b_126 {M : yM} {x1 : Int} : f_126 M x1 = 0 ∨ f_126 M x1 = 1 := (zb_cond ((zb_cond (Or.inl rfl) ((zb_cond (Or.inl rfl) (Or.inr rfl))))) ((zb_cond (Or.inr rfl) ((zb_cond (Or.inl rfl) ((zb_cond (Or.inl rfl) (Or.inr rfl))))))))
theorem t_126 {sc : List Int32} {dd cc : Nat} {M : yM} {x1 : Int} (hd : 1 ≤ dd) : yP sc dd 126 [.ref 1, .int (yi x1)] M cc (some (M, cc, some (.int (yi (f_126 M x1))))) := by
  obtain ⟨dd, rfl⟩ : ∃ e, dd = e + 1 := ⟨dd - 1, by omega⟩
  refine e_meth (C := zg_c126) (W := zg_w126) (ml := 2) rfl rfl (Nat.le_of_ble_eq_true rfl) ?_
  unfold f_126
  refine e_ld (t := 0) rfl (Or.inl ⟨rfl, Or.inl rfl⟩) rfl rfl ?_
  refine e_ic (b := (-99)) rfl (by decide) (by decide) ?_
  refine e_cmp (fun t : Int => some (M, cc, some (.int (yi t)))) (q := 2) (by decide) rfl (fun h1 => ?_) (fun h1 => ?_)
  · refine e_ld (t := 0) rfl (Or.inl ⟨rfl, Or.inl rfl⟩) rfl rfl ?_
    refine e_ic (b := 100) rfl (by decide) (by decide) ?_
    refine e_cmp (fun t : Int => some (M, cc, some (.int (yi t)))) (q := 2) (by decide) rfl (fun h2 => ?_) (fun h2 => ?_)
    · refine e_ic (b := 0) rfl (by decide) (by decide) ?_
      exact e_iret rfl (Or.inr ⟨rfl, Or.inl rfl⟩)
    · refine e_ld (t := 0) rfl (Or.inl ⟨rfl, Or.inl rfl⟩) rfl rfl ?_
      refine e_ic (b := 110) rfl (by decide) (by decide) ?_
      refine e_cmp (fun t : Int => some (M, cc, some (.int (yi t)))) (q := 3) (by decide) rfl (fun h3 => ?_) (fun h3 => ?_)
      · refine e_ic (b := 0) rfl (by decide) (by decide) ?_
        exact e_iret rfl (Or.inr ⟨rfl, Or.inl rfl⟩)
      · refine e_ic (b := 1) rfl (by decide) (by decide) ?_
        refine e_go rfl ?_
        exact e_iret rfl (Or.inr ⟨rfl, Or.inr rfl⟩)
  · refine e_ld (t := 0) rfl (Or.inl ⟨rfl, Or.inl rfl⟩) rfl rfl ?_
    refine e_ic (b := 99) rfl (by decide) (by decide) ?_
    refine e_cmp (fun t : Int => some (M, cc, some (.int (yi t)))) (q := 5) (by decide) rfl (fun h4 => ?_) (fun h4 => ?_)
    · refine e_ic (b := 1) rfl (by decide) (by decide) ?_
      refine e_go rfl ?_
      exact e_iret rfl (Or.inr ⟨rfl, Or.inr rfl⟩)
    · refine e_ld (t := 0) rfl (Or.inl ⟨rfl, Or.inl rfl⟩) rfl rfl ?_
      refine e_ic (b := 100) rfl (by decide) (by decide) ?_
      refine e_cmp (fun t : Int => some (M, cc, some (.int (yi t)))) (q := 2) (by decide) rfl (fun h5 => ?_) (fun h5 => ?_)
      · refine e_ic (b := 0) rfl (by decide) (by decide) ?_
        exact e_iret rfl (Or.inr ⟨rfl, Or.inl rfl⟩)
      · refine e_ld (t := 0) rfl (Or.inl ⟨rfl, Or.inl rfl⟩) rfl rfl ?_
        refine e_ic (b := 110) rfl (by decide) (by decide) ?_
        refine e_cmp (fun t : Int => some (M, cc, some (.int (yi t)))) (q := 3) (by decide) rfl (fun h6 => ?_) (fun h6 => ?_)
        · refine e_ic (b := 0) rfl (by decide) (by decide) ?_
          exact e_iret rfl (Or.inr ⟨rfl, Or.inl rfl⟩)
        · refine e_ic (b := 1) rfl (by decide) (by decide) ?_
          refine e_go rfl ?_
          exact e_iret rfl (Or.inr ⟨rfl, Or.inr rfl⟩)
/-- UnwindTower$Program.isSet -/
def f_127 (M : yM) (x1 : Int) : Int := (cond (yrel 2 x1 0) 0 (cond (yrel 3 x1 (ybin 28 1 (M 1 0))) 0 1))
theorem b_127 {M : yM} {x1 : Int} : f_127 M x1 = 0 ∨ f_127 M x1 = 1 := (zb_cond (Or.inl rfl) ((zb_cond (Or.inl rfl) (Or.inr rfl))))
theorem t_127 {sc : List Int32} {dd cc : Nat} {M : yM} {x1 : Int} (hd : 1 ≤ dd) : yP sc dd 127 [.ref 1, .int (yi x1)] M cc (some (M, cc, some (.int (yi (f_127 M x1))))) := by
  obtain ⟨dd, rfl⟩ : ∃ e, dd = e + 1 := ⟨dd - 1, by omega⟩
  refine e_meth (C := zg_c127) (W := zg_w127) (ml := 2) rfl rfl (Nat.le_of_ble_eq_true rfl) ?_
  unfold f_127
  refine e_ld (t := 0) rfl (Or.inl ⟨rfl, Or.inl rfl⟩) rfl rfl ?_
  refine e_br (fun t : Int => some (M, cc, some (.int (yi t)))) (q := 2) (by decide) rfl (fun h1 => ?_) (fun h1 => ?_)
  · refine e_ic (b := 0) rfl (by decide) (by decide) ?_
    exact e_iret rfl (Or.inr ⟨rfl, Or.inl rfl⟩)
  · refine e_ld (t := 0) rfl (Or.inl ⟨rfl, Or.inl rfl⟩) rfl rfl ?_
    refine e_ic (b := 1) rfl (by decide) (by decide) ?_
    refine e_ld (t := 2) rfl (Or.inr (Or.inl ⟨rfl, Or.inl rfl⟩)) rfl rfl ?_
    refine e_get (a := 1) (u := .int (yi (M 1 0))) rfl rfl rfl (fun _ => rfl) ?_
    refine e_bin rfl (by decide) ?_
    refine e_cmp (fun t : Int => some (M, cc, some (.int (yi t)))) (q := 3) (by decide) rfl (fun h2 => ?_) (fun h2 => ?_)
    · refine e_ic (b := 0) rfl (by decide) (by decide) ?_
      exact e_iret rfl (Or.inr ⟨rfl, Or.inl rfl⟩)
    · refine e_ic (b := 1) rfl (by decide) (by decide) ?_
      refine e_go rfl ?_
      exact e_iret rfl (Or.inr ⟨rfl, Or.inr rfl⟩)
/-- UnwindTower$Program.isStatement -/
def f_128 (M : yM) (x1 : Int) : Int := (cond (yrel 0 (yrd M 7 x1) 12) 0 1)
theorem b_128 {M : yM} {x1 : Int} : f_128 M x1 = 0 ∨ f_128 M x1 = 1 := (zb_cond (Or.inl rfl) (Or.inr rfl))
theorem t_128 {sc : List Int32} {dd cc : Nat} {M : yM} {x1 : Int} (hd : 2 ≤ dd) : yP sc dd 128 [.ref 1, .int (yi x1)] M cc (some (M, cc, some (.int (yi (f_128 M x1))))) := by
  obtain ⟨dd, rfl⟩ : ∃ e, dd = e + 1 := ⟨dd - 1, by omega⟩
  refine e_meth (C := zg_c128) (W := zg_w128) (ml := 2) rfl rfl (Nat.le_of_ble_eq_true rfl) ?_
  unfold f_128
  refine e_ld (t := 2) rfl (Or.inr (Or.inl ⟨rfl, Or.inl rfl⟩)) rfl rfl ?_
  refine e_get (a := 1) (u := .ref 7) rfl rfl rfl (fun _ => rfl) ?_
  refine e_ld (t := 0) rfl (Or.inl ⟨rfl, Or.inl rfl⟩) rfl rfl ?_
  refine e_at (a := 7) (by omega) rfl (by decide) (Nat.le_of_ble_eq_true rfl) rfl ?_
  refine e_ic (b := 12) rfl (by decide) (by decide) ?_
  refine e_cmp (fun t : Int => some (M, cc, some (.int (yi t)))) (q := 0) (by decide) rfl (fun h1 => ?_) (fun h1 => ?_)
  · refine e_ic (b := 0) rfl (by decide) (by decide) ?_
    exact e_iret rfl (Or.inr ⟨rfl, Or.inl rfl⟩)
  · refine e_ic (b := 1) rfl (by decide) (by decide) ?_
    refine e_go rfl ?_
    exact e_iret rfl (Or.inr ⟨rfl, Or.inr rfl⟩)
/-- UnwindTower$Program.isVariable -/
def f_131 (M : yM) (x1 : Int) : Int := (cond (yrel 2 x1 0) 0 (cond (yrel 3 x1 10) 0 1))
theorem b_131 {M : yM} {x1 : Int} : f_131 M x1 = 0 ∨ f_131 M x1 = 1 := (zb_cond (Or.inl rfl) ((zb_cond (Or.inl rfl) (Or.inr rfl))))
theorem t_131 {sc : List Int32} {dd cc : Nat} {M : yM} {x1 : Int} (hd : 1 ≤ dd) : yP sc dd 131 [.ref 1, .int (yi x1)] M cc (some (M, cc, some (.int (yi (f_131 M x1))))) := by
  obtain ⟨dd, rfl⟩ : ∃ e, dd = e + 1 := ⟨dd - 1, by omega⟩
  refine e_meth (C := zg_c131) (W := zg_w131) (ml := 2) rfl rfl (Nat.le_of_ble_eq_true rfl) ?_
  unfold f_131
  refine e_ld (t := 0) rfl (Or.inl ⟨rfl, Or.inl rfl⟩) rfl rfl ?_
  refine e_br (fun t : Int => some (M, cc, some (.int (yi t)))) (q := 2) (by decide) rfl (fun h1 => ?_) (fun h1 => ?_)
  · refine e_ic (b := 0) rfl (by decide) (by decide) ?_
    exact e_iret rfl (Or.inr ⟨rfl, Or.inl rfl⟩)
  · refine e_ld (t := 0) rfl (Or.inl ⟨rfl, Or.inl rfl⟩) rfl rfl ?_
    refine e_ic (b := 10) rfl (by decide) (by decide) ?_
    refine e_cmp (fun t : Int => some (M, cc, some (.int (yi t)))) (q := 3) (by decide) rfl (fun h2 => ?_) (fun h2 => ?_)
    · refine e_ic (b := 0) rfl (by decide) (by decide) ?_
      exact e_iret rfl (Or.inr ⟨rfl, Or.inl rfl⟩)
    · refine e_ic (b := 1) rfl (by decide) (by decide) ?_
      refine e_go rfl ?_
      exact e_iret rfl (Or.inr ⟨rfl, Or.inr rfl⟩)
/-- UnwindTower$Program.neverPastTry -/
def f_133_27 (N : Nat) (ih14 : yM → Int → Int → Int → Option (Int)) (M : yM) (x3 : Int) (x4 : Int) (s0 : Int) : Option (Int) := (ylet (yrd M 10 x3) fun v8 => (ih14 M s0 v8 (x4 + (-1))))
theorem t_133_27 {sc : List Int32} {dd cc : Nat} {N : Nat} {ih14 : yM → Int → Int → Int → Option (Int)} {M : yM} {x3 : Int} {x4 : Int} {s0 : Int} (hd : 2 ≤ dd) (ih14_ : ∀ {M : yM} {x2 : Int} {x3 : Int} {x4 : Int} {L : zL} (hL0 : L 0 = some (.ref 1)) (hL2 : L 2 = some (.int (yi x2))) (hL3 : L 3 = some (.int (yi x3))) (hL4 : L 4 = some (.int (yi x4))), yW sc zg_c133 zg_w133 dd 14 L [] M cc ((Option.map (fun t : Int => (M, cc, some (.int (yi t))))) (ih14 M x2 x3 x4))) {L : zL} (hL0 : L 0 = some (.ref 1)) (hL3 : L 3 = some (.int (yi x3))) (hL4 : L 4 = some (.int (yi x4))) : yW sc zg_c133 zg_w133 dd 27 L [.int (yi s0)] M cc ((Option.map (fun t : Int => (M, cc, some (.int (yi t))))) (f_133_27 N ih14 M x3 x4 s0)) := by
  unfold f_133_27
  refine e_st (t := 0) rfl (Or.inl ⟨rfl, Or.inl rfl⟩) rfl ?_
  refine e_ld (t := 2) rfl (Or.inr (Or.inl ⟨rfl, Or.inl rfl⟩)) (l_kr (by decide) hL0) rfl ?_
  refine e_get (a := 1) (u := .ref 10) rfl rfl rfl (fun _ => rfl) ?_
  refine e_ld (t := 0) rfl (Or.inl ⟨rfl, Or.inl rfl⟩) (l_ki (by decide) hL3) rfl ?_
  refine e_at (a := 10) (by omega) rfl (by decide) (Nat.le_of_ble_eq_true rfl) rfl ?_
  refine e_stl (g := (Option.map (fun t : Int => (M, cc, some (.int (yi t)))))) rfl (Or.inl rfl) (fun v8 => ?_)
  refine e_inc (d := (-1)) rfl (l_ki (by decide) (l_ki (by decide) hL4)) (by decide) ?_
  refine e_go rfl ?_
  exact ih14_ (l_kr (by decide) (l_kr (by decide) (l_kr (by decide) hL0))) (l_ki (by decide) (l_ki (by decide) l_s)) (l_ki (by decide) l_s) l_s
def f_133_26 (N : Nat) (ih14 : yM → Int → Int → Int → Option (Int)) (M : yM) (x3 : Int) (x4 : Int) : Option (Int) := (f_133_27 N ih14 M x3 x4 0)
theorem t_133_26 {sc : List Int32} {dd cc : Nat} {N : Nat} {ih14 : yM → Int → Int → Int → Option (Int)} {M : yM} {x3 : Int} {x4 : Int} (hd : 2 ≤ dd) (ih14_ : ∀ {M : yM} {x2 : Int} {x3 : Int} {x4 : Int} {L : zL} (hL0 : L 0 = some (.ref 1)) (hL2 : L 2 = some (.int (yi x2))) (hL3 : L 3 = some (.int (yi x3))) (hL4 : L 4 = some (.int (yi x4))), yW sc zg_c133 zg_w133 dd 14 L [] M cc ((Option.map (fun t : Int => (M, cc, some (.int (yi t))))) (ih14 M x2 x3 x4))) {L : zL} (hL0 : L 0 = some (.ref 1)) (hL3 : L 3 = some (.int (yi x3))) (hL4 : L 4 = some (.int (yi x4))) : yW sc zg_c133 zg_w133 dd 26 L [] M cc ((Option.map (fun t : Int => (M, cc, some (.int (yi t))))) (f_133_26 N ih14 M x3 x4)) := by
  unfold f_133_26
  refine e_ic (b := 0) rfl (by decide) (by decide) ?_
  exact t_133_27 (by omega) ih14_ hL0 hL3 hL4
def f_133_14 (N : Nat) : Nat → yM → Int → Int → Int → Option (Int)
  | 0, _, _, _, _ => none
  | n + 1, M, x2, x3, x4 => (cond (yrel 2 x3 0) (ybo x2 (some x2)) (cond (yrel 5 x4 0) (ybo x2 (some x2)) (cond (yrel 0 x2 0) (f_133_26 N (f_133_14 N n) M x3 x4) (cond (yrel 0 (f_124 M x3) 0) (f_133_26 N (f_133_14 N n) M x3 x4) (f_133_27 N (f_133_14 N n) M x3 x4 1)))))
theorem t_133_14 {sc : List Int32} {dd cc : Nat} {N : Nat} (hd : 2 ≤ dd) : ∀ (n : Nat) {M : yM} {x2 : Int} {x3 : Int} {x4 : Int} {L : zL} (hL0 : L 0 = some (.ref 1)) (hL2 : L 2 = some (.int (yi x2))) (hL3 : L 3 = some (.int (yi x3))) (hL4 : L 4 = some (.int (yi x4))), yW sc zg_c133 zg_w133 dd 14 L [] M cc ((Option.map (fun t : Int => (M, cc, some (.int (yi t))))) (f_133_14 N n M x2 x3 x4)) := by
  intro n
  induction n with
  | zero => intros; exact y_none
  | succ n IH =>
    intro M x2 x3 x4 L hL0 hL2 hL3 hL4
    rw [f_133_14]
    refine e_ld (t := 0) rfl (Or.inl ⟨rfl, Or.inl rfl⟩) hL3 rfl ?_
    refine e_br (Option.map (fun t : Int => (M, cc, some (.int (yi t))))) (q := 2) (by decide) rfl (fun h3 => ?_) (fun h3 => ?_)
    · refine e_ld (t := 0) rfl (Or.inl ⟨rfl, Or.inl rfl⟩) hL2 rfl ?_
      refine e_bo (b := x2) (fun hb4 => ?_)
      exact e_iret rfl (Or.inr ⟨rfl, hb4⟩)
    · refine e_ld (t := 0) rfl (Or.inl ⟨rfl, Or.inr rfl⟩) hL4 rfl ?_
      refine e_br (Option.map (fun t : Int => (M, cc, some (.int (yi t))))) (q := 5) (by decide) rfl (fun h5 => ?_) (fun h5 => ?_)
      · refine e_ld (t := 0) rfl (Or.inl ⟨rfl, Or.inl rfl⟩) hL2 rfl ?_
        refine e_bo (b := x2) (fun hb6 => ?_)
        exact e_iret rfl (Or.inr ⟨rfl, hb6⟩)
      · refine e_ld (t := 0) rfl (Or.inl ⟨rfl, Or.inl rfl⟩) hL2 rfl ?_
        refine e_br (Option.map (fun t : Int => (M, cc, some (.int (yi t))))) (q := 0) (by decide) rfl (fun h7 => ?_) (fun h7 => ?_)
        · exact t_133_26 (by omega) IH hL0 hL3 hL4
        · refine e_ld (t := 2) rfl (Or.inr (Or.inl ⟨rfl, Or.inl rfl⟩)) hL0 rfl ?_
          refine e_ld (t := 0) rfl (Or.inl ⟨rfl, Or.inl rfl⟩) hL3 rfl ?_
          refine e_obj (M1 := M) (cc1 := cc) (v1 := some (.int (yi (f_124 M x3)))) (a := 1) (as := [.int (yi x3)]) rfl (by decide) rfl (Nat.le_of_ble_eq_true rfl) rfl (t_124 (by omega)) ?_
          refine e_br (Option.map (fun t : Int => (M, cc, some (.int (yi t))))) (q := 0) (by decide) rfl (fun h9 => ?_) (fun h9 => ?_)
          · exact t_133_26 (by omega) IH hL0 hL3 hL4
          · refine e_ic (b := 1) rfl (by decide) (by decide) ?_
            refine e_go rfl ?_
            exact t_133_27 (by omega) IH hL0 hL3 hL4
def f_133 (N : Nat) (M : yM) (x1 : Int) : Option (Int) := (ylet (f_124 M (yrd M 9 x1)) fun v1 => (ylet (yrd M 10 x1) fun v2 => (f_133_14 N N M v1 v2 90)))
theorem t_133 {sc : List Int32} {dd cc : Nat} {N : Nat} {M : yM} {x1 : Int} (hd : 3 ≤ dd) : yP sc dd 133 [.ref 1, .int (yi x1)] M cc ((Option.map (fun t : Int => (M, cc, some (.int (yi t))))) (f_133 N M x1)) := by
  obtain ⟨dd, rfl⟩ : ∃ e, dd = e + 1 := ⟨dd - 1, by omega⟩
  refine e_meth (C := zg_c133) (W := zg_w133) (ml := 5) rfl rfl (Nat.le_of_ble_eq_true rfl) ?_
  unfold f_133
  refine e_ld (t := 2) rfl (Or.inr (Or.inl ⟨rfl, Or.inl rfl⟩)) rfl rfl ?_
  refine e_ld (t := 2) rfl (Or.inr (Or.inl ⟨rfl, Or.inl rfl⟩)) rfl rfl ?_
  refine e_get (a := 1) (u := .ref 9) rfl rfl rfl (fun _ => rfl) ?_
  refine e_ld (t := 0) rfl (Or.inl ⟨rfl, Or.inl rfl⟩) rfl rfl ?_
  refine e_at (a := 9) (by omega) rfl (by decide) (Nat.le_of_ble_eq_true rfl) rfl ?_
  refine e_obj (M1 := M) (cc1 := cc) (v1 := some (.int (yi (f_124 M (yrd M 9 x1))))) (a := 1) (as := [.int (yi (yrd M 9 x1))]) rfl (by decide) rfl (Nat.le_of_ble_eq_true rfl) rfl (t_124 (by omega)) ?_
  refine e_stl (g := (Option.map (fun t : Int => (M, cc, some (.int (yi t)))))) rfl (Or.inl rfl) (fun v1 => ?_)
  refine e_ld (t := 2) rfl (Or.inr (Or.inl ⟨rfl, Or.inl rfl⟩)) (l_kr (by decide) rfl) rfl ?_
  refine e_get (a := 1) (u := .ref 10) rfl rfl rfl (fun _ => rfl) ?_
  refine e_ld (t := 0) rfl (Or.inl ⟨rfl, Or.inl rfl⟩) (l_ki (by decide) rfl) rfl ?_
  refine e_at (a := 10) (by omega) rfl (by decide) (Nat.le_of_ble_eq_true rfl) rfl ?_
  refine e_stl (g := (Option.map (fun t : Int => (M, cc, some (.int (yi t)))))) rfl (Or.inl rfl) (fun v2 => ?_)
  refine e_ic (b := 90) rfl (by decide) (by decide) ?_
  refine e_st (t := 0) rfl (Or.inl ⟨rfl, Or.inr rfl⟩) rfl ?_
  exact t_133_14 (by omega) N (l_kr (by decide) (l_kr (by decide) (l_kr (by decide) rfl))) (l_ki (by decide) (l_ki (by decide) l_s)) (l_ki (by decide) l_s) l_s
/-- UnwindTower$Program.partA -/
def f_134 (M : yM) (x1 : Int) : Int := (cond (yrel 1 (yrd M 7 x1) 11) (-1) (yrd M 8 x1))
theorem t_134 {sc : List Int32} {dd cc : Nat} {M : yM} {x1 : Int} (hd : 2 ≤ dd) : yP sc dd 134 [.ref 1, .int (yi x1)] M cc (some (M, cc, some (.int (yi (f_134 M x1))))) := by
  obtain ⟨dd, rfl⟩ : ∃ e, dd = e + 1 := ⟨dd - 1, by omega⟩
  refine e_meth (C := zg_c134) (W := zg_w134) (ml := 2) rfl rfl (Nat.le_of_ble_eq_true rfl) ?_
  unfold f_134
  refine e_ld (t := 2) rfl (Or.inr (Or.inl ⟨rfl, Or.inl rfl⟩)) rfl rfl ?_
  refine e_get (a := 1) (u := .ref 7) rfl rfl rfl (fun _ => rfl) ?_
  refine e_ld (t := 0) rfl (Or.inl ⟨rfl, Or.inl rfl⟩) rfl rfl ?_
  refine e_at (a := 7) (by omega) rfl (by decide) (Nat.le_of_ble_eq_true rfl) rfl ?_
  refine e_ic (b := 11) rfl (by decide) (by decide) ?_
  refine e_cmp (fun t : Int => some (M, cc, some (.int (yi t)))) (q := 1) (by decide) rfl (fun h1 => ?_) (fun h1 => ?_)
  · refine e_ic (b := (-1)) rfl (by decide) (by decide) ?_
    exact e_iret rfl (Or.inl rfl)
  · refine e_ld (t := 2) rfl (Or.inr (Or.inl ⟨rfl, Or.inl rfl⟩)) rfl rfl ?_
    refine e_get (a := 1) (u := .ref 8) rfl rfl rfl (fun _ => rfl) ?_
    refine e_ld (t := 0) rfl (Or.inl ⟨rfl, Or.inl rfl⟩) rfl rfl ?_
    refine e_at (a := 8) (by omega) rfl (by decide) (Nat.le_of_ble_eq_true rfl) rfl ?_
    refine e_go rfl ?_
    exact e_iret rfl (Or.inl rfl)
/-- UnwindTower$Program.partB -/
def f_135 (M : yM) (x1 : Int) : Int := (cond (yrel 0 (yrd M 7 x1) 4) (yrd M 9 x1) (cond (yrel 0 (yrd M 7 x1) (4 + 1)) (yrd M 9 x1) (cond (yrel 0 (yrd M 7 x1) (4 + 1 + 1)) (yrd M 9 x1) (cond (yrel 0 (yrd M 7 x1) (4 + 1 + 1 + 1)) (-1) (cond (yrel 0 (yrd M 7 x1) (4 + 1 + 1 + 1 + 1)) (-1) (cond (yrel 0 (yrd M 7 x1) (4 + 1 + 1 + 1 + 1 + 1)) (-1) (cond (yrel 0 (yrd M 7 x1) (4 + 1 + 1 + 1 + 1 + 1 + 1)) (-1) (cond (yrel 0 (yrd M 7 x1) (4 + 1 + 1 + 1 + 1 + 1 + 1 + 1)) (yrd M 9 x1) (cond (yrel 0 (yrd M 7 x1) (4 + 1 + 1 + 1 + 1 + 1 + 1 + 1 + 1)) (yrd M 9 x1) (cond (yrel 0 (yrd M 7 x1) (4 + 1 + 1 + 1 + 1 + 1 + 1 + 1 + 1 + 1)) (yrd M 9 x1) (-1)))))))))))
theorem t_135 {sc : List Int32} {dd cc : Nat} {M : yM} {x1 : Int} (hd : 2 ≤ dd) : yP sc dd 135 [.ref 1, .int (yi x1)] M cc (some (M, cc, some (.int (yi (f_135 M x1))))) := by
  obtain ⟨dd, rfl⟩ : ∃ e, dd = e + 1 := ⟨dd - 1, by omega⟩
  refine e_meth (C := zg_c135) (W := zg_w135) (ml := 2) rfl rfl (Nat.le_of_ble_eq_true rfl) ?_
  unfold f_135
  refine e_ld (t := 2) rfl (Or.inr (Or.inl ⟨rfl, Or.inl rfl⟩)) rfl rfl ?_
  refine e_get (a := 1) (u := .ref 7) rfl rfl rfl (fun _ => rfl) ?_
  refine e_ld (t := 0) rfl (Or.inl ⟨rfl, Or.inl rfl⟩) rfl rfl ?_
  refine e_at (a := 7) (by omega) rfl (by decide) (Nat.le_of_ble_eq_true rfl) rfl ?_
  refine e_sw (lo' := 4) rfl rfl (by decide) ?_
  refine s_case (fun t : Int => some (M, cc, some (.int (yi t)))) (by decide) (fun h1 => ?_) (fun h1 => ?_)
  · refine e_ld (t := 2) rfl (Or.inr (Or.inl ⟨rfl, Or.inl rfl⟩)) rfl rfl ?_
    refine e_get (a := 1) (u := .ref 9) rfl rfl rfl (fun _ => rfl) ?_
    refine e_ld (t := 0) rfl (Or.inl ⟨rfl, Or.inl rfl⟩) rfl rfl ?_
    refine e_at (a := 9) (by omega) rfl (by decide) (Nat.le_of_ble_eq_true rfl) rfl ?_
    exact e_iret rfl (Or.inl rfl)
  refine s_case (fun t : Int => some (M, cc, some (.int (yi t)))) (by decide) (fun h2 => ?_) (fun h2 => ?_)
  · refine e_ld (t := 2) rfl (Or.inr (Or.inl ⟨rfl, Or.inl rfl⟩)) rfl rfl ?_
    refine e_get (a := 1) (u := .ref 9) rfl rfl rfl (fun _ => rfl) ?_
    refine e_ld (t := 0) rfl (Or.inl ⟨rfl, Or.inl rfl⟩) rfl rfl ?_
    refine e_at (a := 9) (by omega) rfl (by decide) (Nat.le_of_ble_eq_true rfl) rfl ?_
    exact e_iret rfl (Or.inl rfl)
  refine s_case (fun t : Int => some (M, cc, some (.int (yi t)))) (by decide) (fun h3 => ?_) (fun h3 => ?_)
  · refine e_ld (t := 2) rfl (Or.inr (Or.inl ⟨rfl, Or.inl rfl⟩)) rfl rfl ?_
    refine e_get (a := 1) (u := .ref 9) rfl rfl rfl (fun _ => rfl) ?_
    refine e_ld (t := 0) rfl (Or.inl ⟨rfl, Or.inl rfl⟩) rfl rfl ?_
    refine e_at (a := 9) (by omega) rfl (by decide) (Nat.le_of_ble_eq_true rfl) rfl ?_
    exact e_iret rfl (Or.inl rfl)
  refine s_case (fun t : Int => some (M, cc, some (.int (yi t)))) (by decide) (fun h4 => ?_) (fun h4 => ?_)
  · refine e_ic (b := (-1)) rfl (by decide) (by decide) ?_
    exact e_iret rfl (Or.inl rfl)
  refine s_case (fun t : Int => some (M, cc, some (.int (yi t)))) (by decide) (fun h5 => ?_) (fun h5 => ?_)
  · refine e_ic (b := (-1)) rfl (by decide) (by decide) ?_
    exact e_iret rfl (Or.inl rfl)
  refine s_case (fun t : Int => some (M, cc, some (.int (yi t)))) (by decide) (fun h6 => ?_) (fun h6 => ?_)
  · refine e_ic (b := (-1)) rfl (by decide) (by decide) ?_
    exact e_iret rfl (Or.inl rfl)
  refine s_case (fun t : Int => some (M, cc, some (.int (yi t)))) (by decide) (fun h7 => ?_) (fun h7 => ?_)
  · refine e_ic (b := (-1)) rfl (by decide) (by decide) ?_
    exact e_iret rfl (Or.inl rfl)
  refine s_case (fun t : Int => some (M, cc, some (.int (yi t)))) (by decide) (fun h8 => ?_) (fun h8 => ?_)
  · refine e_ld (t := 2) rfl (Or.inr (Or.inl ⟨rfl, Or.inl rfl⟩)) rfl rfl ?_
    refine e_get (a := 1) (u := .ref 9) rfl rfl rfl (fun _ => rfl) ?_
    refine e_ld (t := 0) rfl (Or.inl ⟨rfl, Or.inl rfl⟩) rfl rfl ?_
    refine e_at (a := 9) (by omega) rfl (by decide) (Nat.le_of_ble_eq_true rfl) rfl ?_
    exact e_iret rfl (Or.inl rfl)
  refine s_case (fun t : Int => some (M, cc, some (.int (yi t)))) (by decide) (fun h9 => ?_) (fun h9 => ?_)
  · refine e_ld (t := 2) rfl (Or.inr (Or.inl ⟨rfl, Or.inl rfl⟩)) rfl rfl ?_
    refine e_get (a := 1) (u := .ref 9) rfl rfl rfl (fun _ => rfl) ?_
    refine e_ld (t := 0) rfl (Or.inl ⟨rfl, Or.inl rfl⟩) rfl rfl ?_
    refine e_at (a := 9) (by omega) rfl (by decide) (Nat.le_of_ble_eq_true rfl) rfl ?_
    exact e_iret rfl (Or.inl rfl)
  refine s_case (fun t : Int => some (M, cc, some (.int (yi t)))) (by decide) (fun h10 => ?_) (fun h10 => ?_)
  · refine e_ld (t := 2) rfl (Or.inr (Or.inl ⟨rfl, Or.inl rfl⟩)) rfl rfl ?_
    refine e_get (a := 1) (u := .ref 9) rfl rfl rfl (fun _ => rfl) ?_
    refine e_ld (t := 0) rfl (Or.inl ⟨rfl, Or.inl rfl⟩) rfl rfl ?_
    refine e_at (a := 9) (by omega) rfl (by decide) (Nat.le_of_ble_eq_true rfl) rfl ?_
    exact e_iret rfl (Or.inl rfl)
  refine s_end ?_
  refine e_ic (b := (-1)) rfl (by decide) (by decide) ?_
  exact e_iret rfl (Or.inl rfl)
/-- UnwindTower$Program.partC -/
def f_136 (M : yM) (x1 : Int) : Int := (cond (yrel 0 (yrd M 7 x1) 4) (yrd M 10 x1) (cond (yrel 0 (yrd M 7 x1) (4 + 1)) (yrd M 10 x1) (cond (yrel 0 (yrd M 7 x1) (4 + 1 + 1)) (-1) (cond (yrel 0 (yrd M 7 x1) (4 + 1 + 1 + 1)) (-1) (cond (yrel 0 (yrd M 7 x1) (4 + 1 + 1 + 1 + 1)) (-1) (cond (yrel 0 (yrd M 7 x1) (4 + 1 + 1 + 1 + 1 + 1)) (-1) (cond (yrel 0 (yrd M 7 x1) (4 + 1 + 1 + 1 + 1 + 1 + 1)) (-1) (cond (yrel 0 (yrd M 7 x1) (4 + 1 + 1 + 1 + 1 + 1 + 1 + 1)) (yrd M 10 x1) (cond (yrel 0 (yrd M 7 x1) (4 + 1 + 1 + 1 + 1 + 1 + 1 + 1 + 1)) (yrd M 10 x1) (-1))))))))))
theorem t_136 {sc : List Int32} {dd cc : Nat} {M : yM} {x1 : Int} (hd : 2 ≤ dd) : yP sc dd 136 [.ref 1, .int (yi x1)] M cc (some (M, cc, some (.int (yi (f_136 M x1))))) := by
  obtain ⟨dd, rfl⟩ : ∃ e, dd = e + 1 := ⟨dd - 1, by omega⟩
  refine e_meth (C := zg_c136) (W := zg_w136) (ml := 2) rfl rfl (Nat.le_of_ble_eq_true rfl) ?_
  unfold f_136
  refine e_ld (t := 2) rfl (Or.inr (Or.inl ⟨rfl, Or.inl rfl⟩)) rfl rfl ?_
  refine e_get (a := 1) (u := .ref 7) rfl rfl rfl (fun _ => rfl) ?_
  refine e_ld (t := 0) rfl (Or.inl ⟨rfl, Or.inl rfl⟩) rfl rfl ?_
  refine e_at (a := 7) (by omega) rfl (by decide) (Nat.le_of_ble_eq_true rfl) rfl ?_
  refine e_sw (lo' := 4) rfl rfl (by decide) ?_
  refine s_case (fun t : Int => some (M, cc, some (.int (yi t)))) (by decide) (fun h1 => ?_) (fun h1 => ?_)
  · refine e_ld (t := 2) rfl (Or.inr (Or.inl ⟨rfl, Or.inl rfl⟩)) rfl rfl ?_
    refine e_get (a := 1) (u := .ref 10) rfl rfl rfl (fun _ => rfl) ?_
    refine e_ld (t := 0) rfl (Or.inl ⟨rfl, Or.inl rfl⟩) rfl rfl ?_
    refine e_at (a := 10) (by omega) rfl (by decide) (Nat.le_of_ble_eq_true rfl) rfl ?_
    exact e_iret rfl (Or.inl rfl)
  refine s_case (fun t : Int => some (M, cc, some (.int (yi t)))) (by decide) (fun h2 => ?_) (fun h2 => ?_)
  · refine e_ld (t := 2) rfl (Or.inr (Or.inl ⟨rfl, Or.inl rfl⟩)) rfl rfl ?_
    refine e_get (a := 1) (u := .ref 10) rfl rfl rfl (fun _ => rfl) ?_
    refine e_ld (t := 0) rfl (Or.inl ⟨rfl, Or.inl rfl⟩) rfl rfl ?_
    refine e_at (a := 10) (by omega) rfl (by decide) (Nat.le_of_ble_eq_true rfl) rfl ?_
    exact e_iret rfl (Or.inl rfl)
  refine s_case (fun t : Int => some (M, cc, some (.int (yi t)))) (by decide) (fun h3 => ?_) (fun h3 => ?_)
  · refine e_ic (b := (-1)) rfl (by decide) (by decide) ?_
    exact e_iret rfl (Or.inl rfl)
  refine s_case (fun t : Int => some (M, cc, some (.int (yi t)))) (by decide) (fun h4 => ?_) (fun h4 => ?_)
  · refine e_ic (b := (-1)) rfl (by decide) (by decide) ?_
    exact e_iret rfl (Or.inl rfl)
  refine s_case (fun t : Int => some (M, cc, some (.int (yi t)))) (by decide) (fun h5 => ?_) (fun h5 => ?_)
  · refine e_ic (b := (-1)) rfl (by decide) (by decide) ?_
    exact e_iret rfl (Or.inl rfl)
  refine s_case (fun t : Int => some (M, cc, some (.int (yi t)))) (by decide) (fun h6 => ?_) (fun h6 => ?_)
  · refine e_ic (b := (-1)) rfl (by decide) (by decide) ?_
    exact e_iret rfl (Or.inl rfl)
  refine s_case (fun t : Int => some (M, cc, some (.int (yi t)))) (by decide) (fun h7 => ?_) (fun h7 => ?_)
  · refine e_ic (b := (-1)) rfl (by decide) (by decide) ?_
    exact e_iret rfl (Or.inl rfl)
  refine s_case (fun t : Int => some (M, cc, some (.int (yi t)))) (by decide) (fun h8 => ?_) (fun h8 => ?_)
  · refine e_ld (t := 2) rfl (Or.inr (Or.inl ⟨rfl, Or.inl rfl⟩)) rfl rfl ?_
    refine e_get (a := 1) (u := .ref 10) rfl rfl rfl (fun _ => rfl) ?_
    refine e_ld (t := 0) rfl (Or.inl ⟨rfl, Or.inl rfl⟩) rfl rfl ?_
    refine e_at (a := 10) (by omega) rfl (by decide) (Nat.le_of_ble_eq_true rfl) rfl ?_
    exact e_iret rfl (Or.inl rfl)
  refine s_case (fun t : Int => some (M, cc, some (.int (yi t)))) (by decide) (fun h9 => ?_) (fun h9 => ?_)
  · refine e_ld (t := 2) rfl (Or.inr (Or.inl ⟨rfl, Or.inl rfl⟩)) rfl rfl ?_
    refine e_get (a := 1) (u := .ref 10) rfl rfl rfl (fun _ => rfl) ?_
    refine e_ld (t := 0) rfl (Or.inl ⟨rfl, Or.inl rfl⟩) rfl rfl ?_
    refine e_at (a := 10) (by omega) rfl (by decide) (Nat.le_of_ble_eq_true rfl) rfl ?_
    exact e_iret rfl (Or.inl rfl)
  refine s_end ?_
  refine e_ic (b := (-1)) rfl (by decide) (by decide) ?_
  exact e_iret rfl (Or.inl rfl)
/-- UnwindTower$Program.setBody -/
def f_137 (M : yM) (x1 : Int) (x2 : Int) : yM × Int := (ylet (yrd M 6 x1) fun v1 => (ylet (ywr M 12 v1 (-1)) fun M2 => (ylet (ywr M2 6 x1 x2) fun M3 => (ylet (ywr M3 12 x2 x1) fun M4 => (M4, v1)))))
theorem t_137 {sc : List Int32} {dd cc : Nat} {M : yM} {x1 : Int} {x2 : Int} (hd : 2 ≤ dd) : yP sc dd 137 [.ref 1, .int (yi x1), .int (yi x2)] M cc (some ((f_137 M x1 x2).1, cc, some (.int (yi (f_137 M x1 x2).2)))) := by
  obtain ⟨dd, rfl⟩ : ∃ e, dd = e + 1 := ⟨dd - 1, by omega⟩
  refine e_meth (C := zg_c137) (W := zg_w137) (ml := 4) rfl rfl (Nat.le_of_ble_eq_true rfl) ?_
  unfold f_137
  refine e_ld (t := 2) rfl (Or.inr (Or.inl ⟨rfl, Or.inl rfl⟩)) rfl rfl ?_
  refine e_get (a := 1) (u := .ref 6) rfl rfl rfl (fun _ => rfl) ?_
  refine e_ld (t := 0) rfl (Or.inl ⟨rfl, Or.inl rfl⟩) rfl rfl ?_
  refine e_at (a := 6) (by omega) rfl (by decide) (Nat.le_of_ble_eq_true rfl) rfl ?_
  refine e_stl (g := (fun t : yM × Int => some (t.1, cc, some (.int (yi t.2))))) rfl (Or.inl rfl) (fun v1 => ?_)
  refine e_ld (t := 2) rfl (Or.inr (Or.inl ⟨rfl, Or.inl rfl⟩)) (l_kr (by decide) rfl) rfl ?_
  refine e_get (a := 1) (u := .ref 12) rfl rfl rfl (fun _ => rfl) ?_
  refine e_ld (t := 0) rfl (Or.inl ⟨rfl, Or.inl rfl⟩) l_s rfl ?_
  refine e_ic (b := (-1)) rfl (by decide) (by decide) ?_
  refine e_wr (a := 12) (by omega) rfl (by decide) (Nat.le_of_ble_eq_true rfl) rfl ?_
  refine y_let (fun t : yM × Int => some (t.1, cc, some (.int (yi t.2)))) (fun M2 => ?_)
  refine e_ld (t := 2) rfl (Or.inr (Or.inl ⟨rfl, Or.inl rfl⟩)) (l_kr (by decide) rfl) rfl ?_
  refine e_get (a := 1) (u := .ref 6) rfl rfl rfl (fun _ => rfl) ?_
  refine e_ld (t := 0) rfl (Or.inl ⟨rfl, Or.inl rfl⟩) (l_ki (by decide) rfl) rfl ?_
  refine e_ld (t := 0) rfl (Or.inl ⟨rfl, Or.inl rfl⟩) (l_ki (by decide) rfl) rfl ?_
  refine e_wr (a := 6) (by omega) rfl (by decide) (Nat.le_of_ble_eq_true rfl) rfl ?_
  refine y_let (fun t : yM × Int => some (t.1, cc, some (.int (yi t.2)))) (fun M3 => ?_)
  refine e_ld (t := 2) rfl (Or.inr (Or.inl ⟨rfl, Or.inl rfl⟩)) (l_kr (by decide) rfl) rfl ?_
  refine e_get (a := 1) (u := .ref 12) rfl rfl rfl (fun _ => rfl) ?_
  refine e_ld (t := 0) rfl (Or.inl ⟨rfl, Or.inl rfl⟩) (l_ki (by decide) rfl) rfl ?_
  refine e_ld (t := 0) rfl (Or.inl ⟨rfl, Or.inl rfl⟩) (l_ki (by decide) rfl) rfl ?_
  refine e_wr (a := 12) (by omega) rfl (by decide) (Nat.le_of_ble_eq_true rfl) rfl ?_
  refine y_let (fun t : yM × Int => some (t.1, cc, some (.int (yi t.2)))) (fun M4 => ?_)
  refine e_ld (t := 0) rfl (Or.inl ⟨rfl, Or.inl rfl⟩) l_s rfl ?_
  exact e_iret rfl (Or.inl rfl)
/-- UnwindTower$Program.toldOf -/
def f_138 (M : yM) (x1 : Int) : Int := (cond (yrel 1 x1 (-1)) (yrd M 5 x1) 0)
theorem t_138 {sc : List Int32} {dd cc : Nat} {M : yM} {x1 : Int} (hd : 2 ≤ dd) : yP sc dd 138 [.ref 1, .int (yi x1)] M cc (some (M, cc, some (.int (yi (f_138 M x1))))) := by
  obtain ⟨dd, rfl⟩ : ∃ e, dd = e + 1 := ⟨dd - 1, by omega⟩
  refine e_meth (C := zg_c138) (W := zg_w138) (ml := 2) rfl rfl (Nat.le_of_ble_eq_true rfl) ?_
  unfold f_138
  refine e_ld (t := 0) rfl (Or.inl ⟨rfl, Or.inl rfl⟩) rfl rfl ?_
  refine e_ic (b := (-1)) rfl (by decide) (by decide) ?_
  refine e_cmp (fun t : Int => some (M, cc, some (.int (yi t)))) (q := 1) (by decide) rfl (fun h1 => ?_) (fun h1 => ?_)
  · refine e_ld (t := 2) rfl (Or.inr (Or.inl ⟨rfl, Or.inl rfl⟩)) rfl rfl ?_
    refine e_get (a := 1) (u := .ref 5) rfl rfl rfl (fun _ => rfl) ?_
    refine e_ld (t := 0) rfl (Or.inl ⟨rfl, Or.inl rfl⟩) rfl rfl ?_
    refine e_at (a := 5) (by omega) rfl (by decide) (Nat.le_of_ble_eq_true rfl) rfl ?_
    exact e_iret rfl (Or.inl rfl)
  · refine e_ic (b := 0) rfl (by decide) (by decide) ?_
    refine e_go rfl ?_
    exact e_iret rfl (Or.inl rfl)
/-- UnwindTower$Thrown.addTrace -/
def f_143 (M : yM) (r0 : Nat) (x1 : Int) (x2 : Int) : yM := (ylet (yrd M (r0 + 5) x1) fun v1 => (cond (yrel 3 x1 40) M (cond (yrel 3 v1 6) M (ylet (ywr M (r0 + 6) ((x1 * 6) + v1) x2) fun M4 => (ylet (ywr M4 (r0 + 5) x1 (v1 + 1)) fun M5 => M5)))))
theorem t_143 {sc : List Int32} {dd cc : Nat} {M : yM} {r0 : Nat} {x1 : Int} {x2 : Int} (hd : 2 ≤ dd) (hr0 : pT r0) : yP sc dd 143 [.ref r0, .int (yi x1), .int (yi x2)] M cc (some ((f_143 M r0 x1 x2), cc, none)) := by
  obtain ⟨dd, rfl⟩ : ∃ e, dd = e + 1 := ⟨dd - 1, by omega⟩
  refine e_meth (C := zg_c143) (W := zg_w143) (ml := 4) rfl rfl (Nat.le_of_ble_eq_true rfl) ?_
  unfold f_143
  refine e_ld (t := 2) rfl (Or.inr (Or.inl ⟨rfl, Or.inl rfl⟩)) rfl rfl ?_
  refine e_get (a := r0) (u := .ref (r0 + 5)) rfl (fT hr0) rfl (fun _ => rfl) ?_
  refine e_ld (t := 0) rfl (Or.inl ⟨rfl, Or.inl rfl⟩) rfl rfl ?_
  refine e_at (a := (r0 + 5)) (by omega) rfl (by decide) (Nat.le_of_ble_eq_true rfl) (nT_5 hr0) ?_
  refine e_stl (g := (fun t : yM => some (t, cc, none))) rfl (Or.inl rfl) (fun v1 => ?_)
  refine e_ld (t := 0) rfl (Or.inl ⟨rfl, Or.inl rfl⟩) (l_ki (by decide) rfl) rfl ?_
  refine e_ic (b := 40) rfl (by decide) (by decide) ?_
  refine e_cmp (fun t : yM => some (t, cc, none)) (q := 3) (by decide) rfl (fun h2 => ?_) (fun h2 => ?_)
  · exact e_vret rfl
  · refine e_ld (t := 0) rfl (Or.inl ⟨rfl, Or.inl rfl⟩) l_s rfl ?_
    refine e_ic (b := 6) rfl (by decide) (by decide) ?_
    refine e_cmp (fun t : yM => some (t, cc, none)) (q := 3) (by decide) rfl (fun h3 => ?_) (fun h3 => ?_)
    · exact e_vret rfl
    · refine e_ld (t := 2) rfl (Or.inr (Or.inl ⟨rfl, Or.inl rfl⟩)) (l_kr (by decide) rfl) rfl ?_
      refine e_get (a := r0) (u := .ref (r0 + 6)) rfl (fT hr0) rfl (fun _ => rfl) ?_
      refine e_ld (t := 0) rfl (Or.inl ⟨rfl, Or.inl rfl⟩) (l_ki (by decide) rfl) rfl ?_
      refine e_ic (b := 6) rfl (by decide) (by decide) ?_
      refine e_mul rfl ?_
      refine e_ld (t := 0) rfl (Or.inl ⟨rfl, Or.inl rfl⟩) l_s rfl ?_
      refine e_add rfl ?_
      refine e_ld (t := 0) rfl (Or.inl ⟨rfl, Or.inl rfl⟩) (l_ki (by decide) rfl) rfl ?_
      refine e_wr (a := (r0 + 6)) (by omega) rfl (by decide) (Nat.le_of_ble_eq_true rfl) (nT_6 hr0) ?_
      refine y_let (fun t : yM => some (t, cc, none)) (fun M4 => ?_)
      refine e_ld (t := 2) rfl (Or.inr (Or.inl ⟨rfl, Or.inl rfl⟩)) (l_kr (by decide) rfl) rfl ?_
      refine e_get (a := r0) (u := .ref (r0 + 5)) rfl (fT hr0) rfl (fun _ => rfl) ?_
      refine e_ld (t := 0) rfl (Or.inl ⟨rfl, Or.inl rfl⟩) (l_ki (by decide) rfl) rfl ?_
      refine e_ld (t := 0) rfl (Or.inl ⟨rfl, Or.inl rfl⟩) l_s rfl ?_
      refine e_ic (b := 1) rfl (by decide) (by decide) ?_
      refine e_add rfl ?_
      refine e_wr (a := (r0 + 5)) (by omega) rfl (by decide) (Nat.le_of_ble_eq_true rfl) (nT_5 hr0) ?_
      refine y_let (fun t : yM => some (t, cc, none)) (fun M5 => ?_)
      exact e_vret rfl
/-- UnwindTower$Thrown.clear -/
def f_144 (M : yM) (r0 : Nat) : yM := (ylet (yU M r0 0 0) fun M1 => (ylet (yU M1 r0 1 0) fun M2 => (ylet (yfill M2 (r0 + 3) 0) fun M3 => M3)))
theorem t_144 {sc : List Int32} {dd cc : Nat} {M : yM} {r0 : Nat} (hd : 2 ≤ dd) (hr0 : pT r0) : yP sc dd 144 [.ref r0] M cc (some ((f_144 M r0), cc, none)) := by
  obtain ⟨dd, rfl⟩ : ∃ e, dd = e + 1 := ⟨dd - 1, by omega⟩
  refine e_meth (C := zg_c144) (W := zg_w144) (ml := 1) rfl rfl (Nat.le_of_ble_eq_true rfl) ?_
  unfold f_144
  refine e_ld (t := 2) rfl (Or.inr (Or.inl ⟨rfl, Or.inl rfl⟩)) rfl rfl ?_
  refine e_ic (b := 0) rfl (by decide) (by decide) ?_
  refine e_put (a := r0) rfl (Or.inl rfl) (fT hr0) rfl (Or.inl rfl) ?_
  refine y_let (fun t : yM => some (t, cc, none)) (fun M1 => ?_)
  refine e_ld (t := 2) rfl (Or.inr (Or.inl ⟨rfl, Or.inl rfl⟩)) rfl rfl ?_
  refine e_ic (b := 0) rfl (by decide) (by decide) ?_
  refine e_put (a := r0) rfl (Or.inl rfl) (fT hr0) rfl (Or.inl rfl) ?_
  refine y_let (fun t : yM => some (t, cc, none)) (fun M2 => ?_)
  refine e_ld (t := 2) rfl (Or.inr (Or.inl ⟨rfl, Or.inl rfl⟩)) rfl rfl ?_
  refine e_get (a := r0) (u := .ref (r0 + 3)) rfl (fT hr0) rfl (fun _ => rfl) ?_
  refine e_ic (b := 0) rfl (by decide) (by decide) ?_
  refine e_stat (as := [.ref (r0 + 3), .int (yi 0)]) rfl (by decide) rfl (Nat.le_of_ble_eq_true rfl) (t_170 (by omega) (nT_3 hr0)) ?_
  refine y_let (fun t : yM => some (t, cc, none)) (fun M3 => ?_)
  exact e_vret rfl
/-- UnwindTower$Thrown.isBehind -/
def f_145_4 (N : Nat) : Nat → yM → Nat → Int → Int → Int → Option (Int)
  | 0, _, _, _, _, _ => none
  | n + 1, M, r0, x1, x3, x4 => (cond (yrel 0 x3 (-1)) (some 0) (cond (yrel 5 x4 0) (some 0) (cond (yrel 1 x3 x1) (ylet (yrd M (r0 + 2) x3) fun v4 => (f_145_4 N n M r0 x1 v4 (x4 + (-1)))) (some 1))))
theorem t_145_4 {sc : List Int32} {dd cc : Nat} {N : Nat} (hd : 1 ≤ dd) : ∀ (n : Nat) {M : yM} {r0 : Nat} {x1 : Int} {x3 : Int} {x4 : Int} (hr0 : pT r0) {L : zL} (hL0 : L 0 = some (.ref r0)) (hL1 : L 1 = some (.int (yi x1))) (hL3 : L 3 = some (.int (yi x3))) (hL4 : L 4 = some (.int (yi x4))), yW sc zg_c145 zg_w145 dd 4 L [] M cc ((Option.map (fun t : Int => (M, cc, some (.int (yi t))))) (f_145_4 N n M r0 x1 x3 x4)) := by
  intro n
  induction n with
  | zero => intros; exact y_none
  | succ n IH =>
    intro M r0 x1 x3 x4 hr0 L hL0 hL1 hL3 hL4
    rw [f_145_4]
    refine e_ld (t := 0) rfl (Or.inl ⟨rfl, Or.inl rfl⟩) hL3 rfl ?_
    refine e_ic (b := (-1)) rfl (by decide) (by decide) ?_
    refine e_cmp (Option.map (fun t : Int => (M, cc, some (.int (yi t))))) (q := 0) (by decide) rfl (fun h1 => ?_) (fun h1 => ?_)
    · refine e_ic (b := 0) rfl (by decide) (by decide) ?_
      exact e_iret rfl (Or.inr ⟨rfl, Or.inl rfl⟩)
    · refine e_ld (t := 0) rfl (Or.inl ⟨rfl, Or.inr rfl⟩) hL4 rfl ?_
      refine e_br (Option.map (fun t : Int => (M, cc, some (.int (yi t))))) (q := 5) (by decide) rfl (fun h2 => ?_) (fun h2 => ?_)
      · refine e_ic (b := 0) rfl (by decide) (by decide) ?_
        exact e_iret rfl (Or.inr ⟨rfl, Or.inl rfl⟩)
      · refine e_ld (t := 0) rfl (Or.inl ⟨rfl, Or.inl rfl⟩) hL3 rfl ?_
        refine e_ld (t := 0) rfl (Or.inl ⟨rfl, Or.inl rfl⟩) hL1 rfl ?_
        refine e_cmp (Option.map (fun t : Int => (M, cc, some (.int (yi t))))) (q := 1) (by decide) rfl (fun h3 => ?_) (fun h3 => ?_)
        · refine e_ld (t := 2) rfl (Or.inr (Or.inl ⟨rfl, Or.inl rfl⟩)) hL0 rfl ?_
          refine e_get (a := r0) (u := .ref (r0 + 2)) rfl (fT hr0) rfl (fun _ => rfl) ?_
          refine e_ld (t := 0) rfl (Or.inl ⟨rfl, Or.inl rfl⟩) hL3 rfl ?_
          refine e_at (a := (r0 + 2)) (by omega) rfl (by decide) (Nat.le_of_ble_eq_true rfl) (nT_2 hr0) ?_
          refine e_stl (g := (Option.map (fun t : Int => (M, cc, some (.int (yi t)))))) rfl (Or.inl rfl) (fun v4 => ?_)
          refine e_inc (d := (-1)) rfl (l_ki (by decide) hL4) (by decide) ?_
          refine e_go rfl ?_
          exact IH hr0 (l_kr (by decide) (l_kr (by decide) hL0)) (l_ki (by decide) (l_ki (by decide) hL1)) (l_ki (by decide) l_s) l_s
        · refine e_ic (b := 1) rfl (by decide) (by decide) ?_
          exact e_iret rfl (Or.inr ⟨rfl, Or.inr rfl⟩)
def f_145 (N : Nat) (M : yM) (r0 : Nat) (x1 : Int) (x2 : Int) : Option (Int) := (f_145_4 N N M r0 x1 x2 3000)
theorem t_145 {sc : List Int32} {dd cc : Nat} {N : Nat} {M : yM} {r0 : Nat} {x1 : Int} {x2 : Int} (hd : 2 ≤ dd) (hr0 : pT r0) : yP sc dd 145 [.ref r0, .int (yi x1), .int (yi x2)] M cc ((Option.map (fun t : Int => (M, cc, some (.int (yi t))))) (f_145 N M r0 x1 x2)) := by
  obtain ⟨dd, rfl⟩ : ∃ e, dd = e + 1 := ⟨dd - 1, by omega⟩
  refine e_meth (C := zg_c145) (W := zg_w145) (ml := 5) rfl rfl (Nat.le_of_ble_eq_true rfl) ?_
  unfold f_145
  refine e_ld (t := 0) rfl (Or.inl ⟨rfl, Or.inl rfl⟩) rfl rfl ?_
  refine e_st (t := 0) rfl (Or.inl ⟨rfl, Or.inl rfl⟩) rfl ?_
  refine e_ic (b := 3000) rfl (by decide) (by decide) ?_
  refine e_st (t := 0) rfl (Or.inl ⟨rfl, Or.inr rfl⟩) rfl ?_
  exact t_145_4 (by omega) N hr0 (l_kr (by decide) (l_kr (by decide) rfl)) (l_ki (by decide) (l_ki (by decide) rfl)) (l_ki (by decide) l_s) l_s
