/-! methods as functions of the numbers, with their ties (3) -/
/-- UnwindTower$Thrown.isKept -/
def f_146 (M : yM) (r0 : Nat) (x1 : Int) : Int := (cond (yrel 2 x1 0) 0 (cond (yrel 3 x1 40) 0 (cond (yrel 3 x1 (M r0 0)) 0 1)))
theorem b_146 {M : yM} {r0 : Nat} {x1 : Int} : f_146 M r0 x1 = 0 ∨ f_146 M r0 x1 = 1 := (zb_cond (Or.inl rfl) ((zb_cond (Or.inl rfl) ((zb_cond (Or.inl rfl) (Or.inr rfl))))))
theorem t_146 {sc : List Int32} {dd cc : Nat} {M : yM} {r0 : Nat} {x1 : Int} (hd : 1 ≤ dd) (hr0 : pT r0) : yP sc dd 146 [.ref r0, .int (yi x1)] M cc (some (M, cc, some (.int (yi (f_146 M r0 x1))))) := by
  obtain ⟨dd, rfl⟩ : ∃ e, dd = e + 1 := ⟨dd - 1, by omega⟩
  refine e_meth (C := zg_c146) (W := zg_w146) (ml := 2) rfl rfl (Nat.le_of_ble_eq_true rfl) ?_
  unfold f_146
  refine e_ld (t := 0) rfl (Or.inl ⟨rfl, Or.inl rfl⟩) rfl rfl ?_
  refine e_br (fun t : Int => some (M, cc, some (.int (yi t)))) (q := 2) (by decide) rfl (fun h1 => ?_) (fun h1 => ?_)
  · refine e_ic (b := 0) rfl (by decide) (by decide) ?_
    exact e_iret rfl (Or.inr ⟨rfl, Or.inl rfl⟩)
  · refine e_ld (t := 0) rfl (Or.inl ⟨rfl, Or.inl rfl⟩) rfl rfl ?_
    refine e_ic (b := 40) rfl (by decide) (by decide) ?_
    refine e_cmp (fun t : Int => some (M, cc, some (.int (yi t)))) (q := 3) (by decide) rfl (fun h2 => ?_) (fun h2 => ?_)
    · refine e_ic (b := 0) rfl (by decide) (by decide) ?_
      exact e_iret rfl (Or.inr ⟨rfl, Or.inl rfl⟩)
    · refine e_ld (t := 0) rfl (Or.inl ⟨rfl, Or.inl rfl⟩) rfl rfl ?_
      refine e_ld (t := 2) rfl (Or.inr (Or.inl ⟨rfl, Or.inl rfl⟩)) rfl rfl ?_
      refine e_get (a := r0) (u := .int (yi (M r0 0))) rfl (fT hr0) rfl (fun _ => rfl) ?_
      refine e_cmp (fun t : Int => some (M, cc, some (.int (yi t)))) (q := 3) (by decide) rfl (fun h3 => ?_) (fun h3 => ?_)
      · refine e_ic (b := 0) rfl (by decide) (by decide) ?_
        exact e_iret rfl (Or.inr ⟨rfl, Or.inl rfl⟩)
      · refine e_ic (b := 1) rfl (by decide) (by decide) ?_
        refine e_go rfl ?_
        exact e_iret rfl (Or.inr ⟨rfl, Or.inr rfl⟩)
/-- UnwindTower$Thrown.make -/
def f_147 (M : yM) (r0 : Nat) (x1 : Int) (x2 : Int) (x3 : Int) : yM × Int := (ylet (M r0 0) fun v1 => (ylet (yU M r0 0 ((M r0 0) + 1)) fun M2 => (ylet (ywr M2 (r0 + 1) v1 x1) fun M3 => (ylet (ywr M3 (r0 + 2) v1 x3) fun M4 => (ylet (ywr M4 (r0 + 4) v1 x2) fun M5 => (ylet (ywr M5 (r0 + 5) v1 0) fun M6 => (ylet (ywr M6 (r0 + 7) v1 0) fun M7 => (ylet (ywr M7 (r0 + 3) x1 (yrd M7 (r0 + 3) x1 + 1)) fun M8 => (M8, v1)))))))))
theorem t_147 {sc : List Int32} {dd cc : Nat} {M : yM} {r0 : Nat} {x1 : Int} {x2 : Int} {x3 : Int} (hd : 2 ≤ dd) (hr0 : pT r0) : yP sc dd 147 [.ref r0, .int (yi x1), .int (yi x2), .int (yi x3)] M cc (some ((f_147 M r0 x1 x2 x3).1, cc, some (.int (yi (f_147 M r0 x1 x2 x3).2)))) := by
  obtain ⟨dd, rfl⟩ : ∃ e, dd = e + 1 := ⟨dd - 1, by omega⟩
  refine e_meth (C := zg_c147) (W := zg_w147) (ml := 5) rfl rfl (Nat.le_of_ble_eq_true rfl) ?_
  unfold f_147
  refine e_ld (t := 2) rfl (Or.inr (Or.inl ⟨rfl, Or.inl rfl⟩)) rfl rfl ?_
  refine e_get (a := r0) (u := .int (yi (M r0 0))) rfl (fT hr0) rfl (fun _ => rfl) ?_
  refine e_stl (g := (fun t : yM × Int => some (t.1, cc, some (.int (yi t.2))))) rfl (Or.inr rfl) (fun v1 => ?_)
  refine e_ld (t := 2) rfl (Or.inr (Or.inl ⟨rfl, Or.inl rfl⟩)) (l_kr (by decide) rfl) rfl ?_
  refine e_dup rfl (Or.inr ⟨_, rfl⟩) ?_
  refine e_get (a := r0) (u := .int (yi (M r0 0))) rfl (fT hr0) rfl (fun _ => rfl) ?_
  refine e_ic (b := 1) rfl (by decide) (by decide) ?_
  refine e_add rfl ?_
  refine e_put (a := r0) rfl (Or.inl rfl) (fT hr0) rfl (Or.inl rfl) ?_
  refine y_let (fun t : yM × Int => some (t.1, cc, some (.int (yi t.2)))) (fun M2 => ?_)
  refine e_ld (t := 2) rfl (Or.inr (Or.inl ⟨rfl, Or.inl rfl⟩)) (l_kr (by decide) rfl) rfl ?_
  refine e_get (a := r0) (u := .ref (r0 + 1)) rfl (fT hr0) rfl (fun _ => rfl) ?_
  refine e_ld (t := 0) rfl (Or.inl ⟨rfl, Or.inr rfl⟩) l_s rfl ?_
  refine e_ld (t := 0) rfl (Or.inl ⟨rfl, Or.inl rfl⟩) (l_ki (by decide) rfl) rfl ?_
  refine e_wr (a := (r0 + 1)) (by omega) rfl (by decide) (Nat.le_of_ble_eq_true rfl) (nT_1 hr0) ?_
  refine y_let (fun t : yM × Int => some (t.1, cc, some (.int (yi t.2)))) (fun M3 => ?_)
  refine e_ld (t := 2) rfl (Or.inr (Or.inl ⟨rfl, Or.inl rfl⟩)) (l_kr (by decide) rfl) rfl ?_
  refine e_get (a := r0) (u := .ref (r0 + 2)) rfl (fT hr0) rfl (fun _ => rfl) ?_
  refine e_ld (t := 0) rfl (Or.inl ⟨rfl, Or.inr rfl⟩) l_s rfl ?_
  refine e_ld (t := 0) rfl (Or.inl ⟨rfl, Or.inl rfl⟩) (l_ki (by decide) rfl) rfl ?_
  refine e_wr (a := (r0 + 2)) (by omega) rfl (by decide) (Nat.le_of_ble_eq_true rfl) (nT_2 hr0) ?_
  refine y_let (fun t : yM × Int => some (t.1, cc, some (.int (yi t.2)))) (fun M4 => ?_)
  refine e_ld (t := 2) rfl (Or.inr (Or.inl ⟨rfl, Or.inl rfl⟩)) (l_kr (by decide) rfl) rfl ?_
  refine e_get (a := r0) (u := .ref (r0 + 4)) rfl (fT hr0) rfl (fun _ => rfl) ?_
  refine e_ld (t := 0) rfl (Or.inl ⟨rfl, Or.inr rfl⟩) l_s rfl ?_
  refine e_ld (t := 0) rfl (Or.inl ⟨rfl, Or.inl rfl⟩) (l_ki (by decide) rfl) rfl ?_
  refine e_wr (a := (r0 + 4)) (by omega) rfl (by decide) (Nat.le_of_ble_eq_true rfl) (nT_4 hr0) ?_
  refine y_let (fun t : yM × Int => some (t.1, cc, some (.int (yi t.2)))) (fun M5 => ?_)
  refine e_ld (t := 2) rfl (Or.inr (Or.inl ⟨rfl, Or.inl rfl⟩)) (l_kr (by decide) rfl) rfl ?_
  refine e_get (a := r0) (u := .ref (r0 + 5)) rfl (fT hr0) rfl (fun _ => rfl) ?_
  refine e_ld (t := 0) rfl (Or.inl ⟨rfl, Or.inr rfl⟩) l_s rfl ?_
  refine e_ic (b := 0) rfl (by decide) (by decide) ?_
  refine e_wr (a := (r0 + 5)) (by omega) rfl (by decide) (Nat.le_of_ble_eq_true rfl) (nT_5 hr0) ?_
  refine y_let (fun t : yM × Int => some (t.1, cc, some (.int (yi t.2)))) (fun M6 => ?_)
  refine e_ld (t := 2) rfl (Or.inr (Or.inl ⟨rfl, Or.inl rfl⟩)) (l_kr (by decide) rfl) rfl ?_
  refine e_get (a := r0) (u := .ref (r0 + 7)) rfl (fT hr0) rfl (fun _ => rfl) ?_
  refine e_ld (t := 0) rfl (Or.inl ⟨rfl, Or.inr rfl⟩) l_s rfl ?_
  refine e_ic (b := 0) rfl (by decide) (by decide) ?_
  refine e_wr (a := (r0 + 7)) (by omega) rfl (by decide) (Nat.le_of_ble_eq_true rfl) (nT_7 hr0) ?_
  refine y_let (fun t : yM × Int => some (t.1, cc, some (.int (yi t.2)))) (fun M7 => ?_)
  refine e_ld (t := 2) rfl (Or.inr (Or.inl ⟨rfl, Or.inl rfl⟩)) (l_kr (by decide) rfl) rfl ?_
  refine e_get (a := r0) (u := .ref (r0 + 3)) rfl (fT hr0) rfl (fun _ => rfl) ?_
  refine e_ld (t := 0) rfl (Or.inl ⟨rfl, Or.inl rfl⟩) (l_ki (by decide) rfl) rfl ?_
  refine e_incr (a := (r0 + 3)) (by omega) rfl (by decide) (Nat.le_of_ble_eq_true rfl) (nT_3 hr0) ?_
  refine y_let (fun t : yM × Int => some (t.1, cc, some (.int (yi t.2)))) (fun M8 => ?_)
  refine e_ld (t := 0) rfl (Or.inl ⟨rfl, Or.inr rfl⟩) l_s rfl ?_
  exact e_iret rfl (Or.inl rfl)
/-- UnwindTower$Thrown.read -/
def f_148 (M : yM) (r0 : Nat) (x1 : Int) (x2 : Int) : Int := (cond (yrel 0 x2 0) (yrd M (r0 + 1) x1) (cond (yrel 0 x2 (0 + 1)) (yrd M (r0 + 4) x1) (cond (yrel 0 x2 (0 + 1 + 1)) (yrd M (r0 + 2) x1) (cond (yrel 0 x2 (0 + 1 + 1 + 1)) (yrd M (r0 + 7) x1) (yrd M (r0 + 5) x1)))))
theorem t_148 {sc : List Int32} {dd cc : Nat} {M : yM} {r0 : Nat} {x1 : Int} {x2 : Int} (hd : 2 ≤ dd) (hr0 : pT r0) : yP sc dd 148 [.ref r0, .int (yi x1), .int (yi x2)] M cc (some (M, cc, some (.int (yi (f_148 M r0 x1 x2))))) := by
  obtain ⟨dd, rfl⟩ : ∃ e, dd = e + 1 := ⟨dd - 1, by omega⟩
  refine e_meth (C := zg_c148) (W := zg_w148) (ml := 3) rfl rfl (Nat.le_of_ble_eq_true rfl) ?_
  unfold f_148
  refine e_ld (t := 0) rfl (Or.inl ⟨rfl, Or.inl rfl⟩) rfl rfl ?_
  refine e_sw (lo' := 0) rfl rfl (by decide) ?_
  refine s_case (fun t : Int => some (M, cc, some (.int (yi t)))) (by decide) (fun h1 => ?_) (fun h1 => ?_)
  · refine e_ld (t := 2) rfl (Or.inr (Or.inl ⟨rfl, Or.inl rfl⟩)) rfl rfl ?_
    refine e_get (a := r0) (u := .ref (r0 + 1)) rfl (fT hr0) rfl (fun _ => rfl) ?_
    refine e_ld (t := 0) rfl (Or.inl ⟨rfl, Or.inl rfl⟩) rfl rfl ?_
    refine e_at (a := (r0 + 1)) (by omega) rfl (by decide) (Nat.le_of_ble_eq_true rfl) (nT_1 hr0) ?_
    exact e_iret rfl (Or.inl rfl)
  refine s_case (fun t : Int => some (M, cc, some (.int (yi t)))) (by decide) (fun h2 => ?_) (fun h2 => ?_)
  · refine e_ld (t := 2) rfl (Or.inr (Or.inl ⟨rfl, Or.inl rfl⟩)) rfl rfl ?_
    refine e_get (a := r0) (u := .ref (r0 + 4)) rfl (fT hr0) rfl (fun _ => rfl) ?_
    refine e_ld (t := 0) rfl (Or.inl ⟨rfl, Or.inl rfl⟩) rfl rfl ?_
    refine e_at (a := (r0 + 4)) (by omega) rfl (by decide) (Nat.le_of_ble_eq_true rfl) (nT_4 hr0) ?_
    exact e_iret rfl (Or.inl rfl)
  refine s_case (fun t : Int => some (M, cc, some (.int (yi t)))) (by decide) (fun h3 => ?_) (fun h3 => ?_)
  · refine e_ld (t := 2) rfl (Or.inr (Or.inl ⟨rfl, Or.inl rfl⟩)) rfl rfl ?_
    refine e_get (a := r0) (u := .ref (r0 + 2)) rfl (fT hr0) rfl (fun _ => rfl) ?_
    refine e_ld (t := 0) rfl (Or.inl ⟨rfl, Or.inl rfl⟩) rfl rfl ?_
    refine e_at (a := (r0 + 2)) (by omega) rfl (by decide) (Nat.le_of_ble_eq_true rfl) (nT_2 hr0) ?_
    exact e_iret rfl (Or.inl rfl)
  refine s_case (fun t : Int => some (M, cc, some (.int (yi t)))) (by decide) (fun h4 => ?_) (fun h4 => ?_)
  · refine e_ld (t := 2) rfl (Or.inr (Or.inl ⟨rfl, Or.inl rfl⟩)) rfl rfl ?_
    refine e_get (a := r0) (u := .ref (r0 + 7)) rfl (fT hr0) rfl (fun _ => rfl) ?_
    refine e_ld (t := 0) rfl (Or.inl ⟨rfl, Or.inl rfl⟩) rfl rfl ?_
    refine e_at (a := (r0 + 7)) (by omega) rfl (by decide) (Nat.le_of_ble_eq_true rfl) (nT_7 hr0) ?_
    exact e_iret rfl (Or.inl rfl)
  refine s_end ?_
  refine e_ld (t := 2) rfl (Or.inr (Or.inl ⟨rfl, Or.inl rfl⟩)) rfl rfl ?_
  refine e_get (a := r0) (u := .ref (r0 + 5)) rfl (fT hr0) rfl (fun _ => rfl) ?_
  refine e_ld (t := 0) rfl (Or.inl ⟨rfl, Or.inl rfl⟩) rfl rfl ?_
  refine e_at (a := (r0 + 5)) (by omega) rfl (by decide) (Nat.le_of_ble_eq_true rfl) (nT_5 hr0) ?_
  exact e_iret rfl (Or.inl rfl)
/-- UnwindTower$Thrown.readTrace -/
def f_149 (M : yM) (r0 : Nat) (x1 : Int) (x2 : Int) : Int := (yrd M (r0 + 6) ((x1 * 6) + x2))
theorem t_149 {sc : List Int32} {dd cc : Nat} {M : yM} {r0 : Nat} {x1 : Int} {x2 : Int} (hd : 2 ≤ dd) (hr0 : pT r0) : yP sc dd 149 [.ref r0, .int (yi x1), .int (yi x2)] M cc (some (M, cc, some (.int (yi (f_149 M r0 x1 x2))))) := by
  obtain ⟨dd, rfl⟩ : ∃ e, dd = e + 1 := ⟨dd - 1, by omega⟩
  refine e_meth (C := zg_c149) (W := zg_w149) (ml := 3) rfl rfl (Nat.le_of_ble_eq_true rfl) ?_
  unfold f_149
  refine e_ld (t := 2) rfl (Or.inr (Or.inl ⟨rfl, Or.inl rfl⟩)) rfl rfl ?_
  refine e_get (a := r0) (u := .ref (r0 + 6)) rfl (fT hr0) rfl (fun _ => rfl) ?_
  refine e_ld (t := 0) rfl (Or.inl ⟨rfl, Or.inl rfl⟩) rfl rfl ?_
  refine e_ic (b := 6) rfl (by decide) (by decide) ?_
  refine e_mul rfl ?_
  refine e_ld (t := 0) rfl (Or.inl ⟨rfl, Or.inl rfl⟩) rfl rfl ?_
  refine e_add rfl ?_
  refine e_at (a := (r0 + 6)) (by omega) rfl (by decide) (Nat.le_of_ble_eq_true rfl) (nT_6 hr0) ?_
  exact e_iret rfl (Or.inl rfl)
/-- UnwindTower$Thrown.setCause -/
def f_150 (M : yM) (r0 : Nat) (x1 : Int) (x2 : Int) : yM := (ylet (ywr M (r0 + 2) x1 x2) fun M1 => M1)
theorem t_150 {sc : List Int32} {dd cc : Nat} {M : yM} {r0 : Nat} {x1 : Int} {x2 : Int} (hd : 2 ≤ dd) (hr0 : pT r0) : yP sc dd 150 [.ref r0, .int (yi x1), .int (yi x2)] M cc (some ((f_150 M r0 x1 x2), cc, none)) := by
  obtain ⟨dd, rfl⟩ : ∃ e, dd = e + 1 := ⟨dd - 1, by omega⟩
  refine e_meth (C := zg_c150) (W := zg_w150) (ml := 3) rfl rfl (Nat.le_of_ble_eq_true rfl) ?_
  unfold f_150
  refine e_ld (t := 2) rfl (Or.inr (Or.inl ⟨rfl, Or.inl rfl⟩)) rfl rfl ?_
  refine e_get (a := r0) (u := .ref (r0 + 2)) rfl (fT hr0) rfl (fun _ => rfl) ?_
  refine e_ld (t := 0) rfl (Or.inl ⟨rfl, Or.inl rfl⟩) rfl rfl ?_
  refine e_ld (t := 0) rfl (Or.inl ⟨rfl, Or.inl rfl⟩) rfl rfl ?_
  refine e_wr (a := (r0 + 2)) (by omega) rfl (by decide) (Nat.le_of_ble_eq_true rfl) (nT_2 hr0) ?_
  refine y_let (fun t : yM => some (t, cc, none)) (fun M1 => ?_)
  exact e_vret rfl
/-- UnwindTower$Thrown.suppress -/
def f_151_37 (M : yM) (r0 : Nat) (x1 : Int) (x3 : Int) : yM := (ylet (ywr M (r0 + 9) x1 x3) fun M7 => (ylet (ywr M7 (r0 + 7) x1 (yrd M7 (r0 + 7) x1 + 1)) fun M8 => M8))
theorem t_151_37 {sc : List Int32} {dd cc : Nat} {M : yM} {r0 : Nat} {x1 : Int} {x3 : Int} (hd : 1 ≤ dd) (hr0 : pT r0) {L : zL} (hL0 : L 0 = some (.ref r0)) (hL1 : L 1 = some (.int (yi x1))) (hL3 : L 3 = some (.int (yi x3))) : yW sc zg_c151 zg_w151 dd 37 L [] M cc ((fun t : yM => some (t, cc, none)) (f_151_37 M r0 x1 x3)) := by
  unfold f_151_37
  refine e_ld (t := 2) rfl (Or.inr (Or.inl ⟨rfl, Or.inl rfl⟩)) hL0 rfl ?_
  refine e_get (a := r0) (u := .ref (r0 + 9)) rfl (fT hr0) rfl (fun _ => rfl) ?_
  refine e_ld (t := 0) rfl (Or.inl ⟨rfl, Or.inl rfl⟩) hL1 rfl ?_
  refine e_ld (t := 0) rfl (Or.inl ⟨rfl, Or.inl rfl⟩) hL3 rfl ?_
  refine e_wr (a := (r0 + 9)) (by omega) rfl (by decide) (Nat.le_of_ble_eq_true rfl) (nT_9 hr0) ?_
  refine y_let (fun t : yM => some (t, cc, none)) (fun M7 => ?_)
  refine e_ld (t := 2) rfl (Or.inr (Or.inl ⟨rfl, Or.inl rfl⟩)) hL0 rfl ?_
  refine e_get (a := r0) (u := .ref (r0 + 7)) rfl (fT hr0) rfl (fun _ => rfl) ?_
  refine e_ld (t := 0) rfl (Or.inl ⟨rfl, Or.inl rfl⟩) hL1 rfl ?_
  refine e_incr (a := (r0 + 7)) (by omega) rfl (by decide) (Nat.le_of_ble_eq_true rfl) (nT_7 hr0) ?_
  refine y_let (fun t : yM => some (t, cc, none)) (fun M8 => ?_)
  exact e_vret rfl
def f_151 (M : yM) (r0 : Nat) (x1 : Int) (x2 : Int) : yM := (ylet (M r0 1) fun v1 => (ylet (yU M r0 1 ((M r0 1) + 1)) fun M2 => (cond (yrel 2 x1 40) (ylet (ywr M2 (r0 + 10) v1 x2) fun M4 => (cond (yrel 1 (yrd M4 (r0 + 7) x1) 0) (ylet (ywr M4 (r0 + 11) (yrd M4 (r0 + 9) x1) v1) fun M6 => (f_151_37 M6 r0 x1 v1)) (ylet (ywr M4 (r0 + 8) x1 v1) fun M9 => (f_151_37 M9 r0 x1 v1)))) M2)))
theorem t_151 {sc : List Int32} {dd cc : Nat} {M : yM} {r0 : Nat} {x1 : Int} {x2 : Int} (hd : 2 ≤ dd) (hr0 : pT r0) : yP sc dd 151 [.ref r0, .int (yi x1), .int (yi x2)] M cc (some ((f_151 M r0 x1 x2), cc, none)) := by
  obtain ⟨dd, rfl⟩ : ∃ e, dd = e + 1 := ⟨dd - 1, by omega⟩
  refine e_meth (C := zg_c151) (W := zg_w151) (ml := 4) rfl rfl (Nat.le_of_ble_eq_true rfl) ?_
  unfold f_151
  refine e_ld (t := 2) rfl (Or.inr (Or.inl ⟨rfl, Or.inl rfl⟩)) rfl rfl ?_
  refine e_get (a := r0) (u := .int (yi (M r0 1))) rfl (fT hr0) rfl (fun _ => rfl) ?_
  refine e_stl (g := (fun t : yM => some (t, cc, none))) rfl (Or.inl rfl) (fun v1 => ?_)
  refine e_ld (t := 2) rfl (Or.inr (Or.inl ⟨rfl, Or.inl rfl⟩)) (l_kr (by decide) rfl) rfl ?_
  refine e_dup rfl (Or.inr ⟨_, rfl⟩) ?_
  refine e_get (a := r0) (u := .int (yi (M r0 1))) rfl (fT hr0) rfl (fun _ => rfl) ?_
  refine e_ic (b := 1) rfl (by decide) (by decide) ?_
  refine e_add rfl ?_
  refine e_put (a := r0) rfl (Or.inl rfl) (fT hr0) rfl (Or.inl rfl) ?_
  refine y_let (fun t : yM => some (t, cc, none)) (fun M2 => ?_)
  refine e_ld (t := 0) rfl (Or.inl ⟨rfl, Or.inl rfl⟩) (l_ki (by decide) rfl) rfl ?_
  refine e_ic (b := 40) rfl (by decide) (by decide) ?_
  refine e_cmp (fun t : yM => some (t, cc, none)) (q := 2) (by decide) rfl (fun h3 => ?_) (fun h3 => ?_)
  · refine e_ld (t := 2) rfl (Or.inr (Or.inl ⟨rfl, Or.inl rfl⟩)) (l_kr (by decide) rfl) rfl ?_
    refine e_get (a := r0) (u := .ref (r0 + 10)) rfl (fT hr0) rfl (fun _ => rfl) ?_
    refine e_ld (t := 0) rfl (Or.inl ⟨rfl, Or.inl rfl⟩) l_s rfl ?_
    refine e_ld (t := 0) rfl (Or.inl ⟨rfl, Or.inl rfl⟩) (l_ki (by decide) rfl) rfl ?_
    refine e_wr (a := (r0 + 10)) (by omega) rfl (by decide) (Nat.le_of_ble_eq_true rfl) (nT_10 hr0) ?_
    refine y_let (fun t : yM => some (t, cc, none)) (fun M4 => ?_)
    refine e_ld (t := 2) rfl (Or.inr (Or.inl ⟨rfl, Or.inl rfl⟩)) (l_kr (by decide) rfl) rfl ?_
    refine e_get (a := r0) (u := .ref (r0 + 7)) rfl (fT hr0) rfl (fun _ => rfl) ?_
    refine e_ld (t := 0) rfl (Or.inl ⟨rfl, Or.inl rfl⟩) (l_ki (by decide) rfl) rfl ?_
    refine e_at (a := (r0 + 7)) (by omega) rfl (by decide) (Nat.le_of_ble_eq_true rfl) (nT_7 hr0) ?_
    refine e_br (fun t : yM => some (t, cc, none)) (q := 1) (by decide) rfl (fun h5 => ?_) (fun h5 => ?_)
    · refine e_ld (t := 2) rfl (Or.inr (Or.inl ⟨rfl, Or.inl rfl⟩)) (l_kr (by decide) rfl) rfl ?_
      refine e_get (a := r0) (u := .ref (r0 + 11)) rfl (fT hr0) rfl (fun _ => rfl) ?_
      refine e_ld (t := 2) rfl (Or.inr (Or.inl ⟨rfl, Or.inl rfl⟩)) (l_kr (by decide) rfl) rfl ?_
      refine e_get (a := r0) (u := .ref (r0 + 9)) rfl (fT hr0) rfl (fun _ => rfl) ?_
      refine e_ld (t := 0) rfl (Or.inl ⟨rfl, Or.inl rfl⟩) (l_ki (by decide) rfl) rfl ?_
      refine e_at (a := (r0 + 9)) (by omega) rfl (by decide) (Nat.le_of_ble_eq_true rfl) (nT_9 hr0) ?_
      refine e_ld (t := 0) rfl (Or.inl ⟨rfl, Or.inl rfl⟩) l_s rfl ?_
      refine e_wr (a := (r0 + 11)) (by omega) rfl (by decide) (Nat.le_of_ble_eq_true rfl) (nT_11 hr0) ?_
      refine y_let (fun t : yM => some (t, cc, none)) (fun M6 => ?_)
      exact t_151_37 (by omega) hr0 (l_kr (by decide) rfl) (l_ki (by decide) rfl) l_s
    · refine e_ld (t := 2) rfl (Or.inr (Or.inl ⟨rfl, Or.inl rfl⟩)) (l_kr (by decide) rfl) rfl ?_
      refine e_get (a := r0) (u := .ref (r0 + 8)) rfl (fT hr0) rfl (fun _ => rfl) ?_
      refine e_ld (t := 0) rfl (Or.inl ⟨rfl, Or.inl rfl⟩) (l_ki (by decide) rfl) rfl ?_
      refine e_ld (t := 0) rfl (Or.inl ⟨rfl, Or.inl rfl⟩) l_s rfl ?_
      refine e_wr (a := (r0 + 8)) (by omega) rfl (by decide) (Nat.le_of_ble_eq_true rfl) (nT_8 hr0) ?_
      refine y_let (fun t : yM => some (t, cc, none)) (fun M9 => ?_)
      refine e_go rfl ?_
      exact t_151_37 (by omega) hr0 (l_kr (by decide) rfl) (l_ki (by decide) rfl) l_s
  · exact e_vret rfl
/-- UnwindTower.body -/
def f_3 (M : yM) (x1 : Int) (x2 : Int) : Option (yM × Int) := (cond (yrel 0 (f_119 M x1) 0) none (cond (yrel 1 (f_118 M x2) 0) (cond (yrel 1 (f_128 M x2) 0) (cond (yrel 1 (f_121 M x2) 0) (ylet (yU M 0 8 1) fun M5 => (ylet (f_137 M5 x1 x2) fun t6 => some (t6.1, t6.2))) none) none) none))
theorem t_3 {sc : List Int32} {dd cc : Nat} {M : yM} {x1 : Int} {x2 : Int} (hd : 3 ≤ dd) : yP sc dd 3 [.ref 0, .int (yi x1), .int (yi x2)] M cc ((Option.map (fun t : yM × Int => (t.1, cc, some (.int (yi t.2))))) (f_3 M x1 x2)) := by
  obtain ⟨dd, rfl⟩ : ∃ e, dd = e + 1 := ⟨dd - 1, by omega⟩
  refine e_meth (C := zg_c3) (W := zg_w3) (ml := 3) rfl rfl (Nat.le_of_ble_eq_true rfl) ?_
  unfold f_3
  refine e_ld (t := 2) rfl (Or.inr (Or.inl ⟨rfl, Or.inl rfl⟩)) rfl rfl ?_
  refine e_get (a := 0) (u := .ref 1) rfl rfl rfl (fun _ => rfl) ?_
  refine e_ld (t := 0) rfl (Or.inl ⟨rfl, Or.inl rfl⟩) rfl rfl ?_
  refine e_obj (M1 := M) (cc1 := cc) (v1 := some (.int (yi (f_119 M x1)))) (a := 1) (as := [.int (yi x1)]) rfl (by decide) rfl (Nat.le_of_ble_eq_true rfl) rfl (t_119 (by omega)) ?_
  refine e_br (Option.map (fun t : yM × Int => (t.1, cc, some (.int (yi t.2))))) (q := 0) (by decide) rfl (fun h1 => ?_) (fun h1 => ?_)
  · exact y_none
  · refine e_ld (t := 2) rfl (Or.inr (Or.inl ⟨rfl, Or.inl rfl⟩)) rfl rfl ?_
    refine e_get (a := 0) (u := .ref 1) rfl rfl rfl (fun _ => rfl) ?_
    refine e_ld (t := 0) rfl (Or.inl ⟨rfl, Or.inl rfl⟩) rfl rfl ?_
    refine e_obj (M1 := M) (cc1 := cc) (v1 := some (.int (yi (f_118 M x2)))) (a := 1) (as := [.int (yi x2)]) rfl (by decide) rfl (Nat.le_of_ble_eq_true rfl) rfl (t_118 (by omega)) ?_
    refine e_br (Option.map (fun t : yM × Int => (t.1, cc, some (.int (yi t.2))))) (q := 1) (by decide) rfl (fun h2 => ?_) (fun h2 => ?_)
    · refine e_ld (t := 2) rfl (Or.inr (Or.inl ⟨rfl, Or.inl rfl⟩)) rfl rfl ?_
      refine e_get (a := 0) (u := .ref 1) rfl rfl rfl (fun _ => rfl) ?_
      refine e_ld (t := 0) rfl (Or.inl ⟨rfl, Or.inl rfl⟩) rfl rfl ?_
      refine e_obj (M1 := M) (cc1 := cc) (v1 := some (.int (yi (f_128 M x2)))) (a := 1) (as := [.int (yi x2)]) rfl (by decide) rfl (Nat.le_of_ble_eq_true rfl) rfl (t_128 (by omega)) ?_
      refine e_br (Option.map (fun t : yM × Int => (t.1, cc, some (.int (yi t.2))))) (q := 1) (by decide) rfl (fun h3 => ?_) (fun h3 => ?_)
      · refine e_ld (t := 2) rfl (Or.inr (Or.inl ⟨rfl, Or.inl rfl⟩)) rfl rfl ?_
        refine e_get (a := 0) (u := .ref 1) rfl rfl rfl (fun _ => rfl) ?_
        refine e_ld (t := 0) rfl (Or.inl ⟨rfl, Or.inl rfl⟩) rfl rfl ?_
        refine e_obj (M1 := M) (cc1 := cc) (v1 := some (.int (yi (f_121 M x2)))) (a := 1) (as := [.int (yi x2)]) rfl (by decide) rfl (Nat.le_of_ble_eq_true rfl) rfl (t_121 (by omega)) ?_
        refine e_br (Option.map (fun t : yM × Int => (t.1, cc, some (.int (yi t.2))))) (q := 1) (by decide) rfl (fun h4 => ?_) (fun h4 => ?_)
        · refine e_ld (t := 2) rfl (Or.inr (Or.inl ⟨rfl, Or.inl rfl⟩)) rfl rfl ?_
          refine e_ic (b := 1) rfl (by decide) (by decide) ?_
          refine e_put (a := 0) rfl (Or.inl rfl) rfl rfl (Or.inr ⟨rfl, Or.inr rfl⟩) ?_
          refine y_let (Option.map (fun t : yM × Int => (t.1, cc, some (.int (yi t.2))))) (fun M5 => ?_)
          refine e_ld (t := 2) rfl (Or.inr (Or.inl ⟨rfl, Or.inl rfl⟩)) rfl rfl ?_
          refine e_get (a := 0) (u := .ref 1) rfl rfl rfl (fun _ => rfl) ?_
          refine e_ld (t := 0) rfl (Or.inl ⟨rfl, Or.inl rfl⟩) rfl rfl ?_
          refine e_ld (t := 0) rfl (Or.inl ⟨rfl, Or.inl rfl⟩) rfl rfl ?_
          refine e_objP (Option.map (fun t : yM × Int => (t.1, cc, some (.int (yi t.2))))) (h0 := (fun t : yM × Int => (t.1, cc, some (.int (yi t.2))))) (a := 1) (as := [.int (yi x1), .int (yi x2)]) rfl (by decide) rfl (Nat.le_of_ble_eq_true rfl) rfl (t_137 (by omega)) (fun t6 => ?_)
          exact e_iret rfl (Or.inl rfl)
        · exact y_none
      · exact y_none
    · exact y_none
/-- UnwindTower.digestException -/
def f_7_62 (N : Nat) : Nat → yM → Int → Nat → Int → Int → Int → Option (Int)
  | 0, _, _, _, _, _, _ => none
  | n + 1, M, x3, r4, y5, x9, x10 => (cond (yrel 3 x10 x9) (some y5) (ylet ((y5 * 31) + (yw (f_149 M r4 x3 x10))) fun v7 => (f_7_62 N n M x3 r4 v7 x9 (x10 + 1))))
theorem t_7_62 {sc : List Int32} {dd cc : Nat} {N : Nat} (hd : 2 ≤ dd) : ∀ (n : Nat) {M : yM} {x3 : Int} {r4 : Nat} {y5 : Int} {x9 : Int} {x10 : Int} (hr4 : pT r4) {L : zL} (hL3 : L 3 = some (.int (yi x3))) (hL4 : L 4 = some (.ref r4)) (hL5 : L 5 = some (.long (yl y5))) (hL9 : L 9 = some (.int (yi x9))) (hL10 : L 10 = some (.int (yi x10))), yW sc zg_c7 zg_w7 dd 62 L [] M cc ((Option.map (fun t : Int => (M, cc, some (.long (yl t))))) (f_7_62 N n M x3 r4 y5 x9 x10)) := by
  intro n
  induction n with
  | zero => intros; exact y_none
  | succ n IH =>
    intro M x3 r4 y5 x9 x10 hr4 L hL3 hL4 hL5 hL9 hL10
    rw [f_7_62]
    refine e_ld (t := 0) rfl (Or.inl ⟨rfl, Or.inr rfl⟩) hL10 rfl ?_
    refine e_ld (t := 0) rfl (Or.inl ⟨rfl, Or.inr rfl⟩) hL9 rfl ?_
    refine e_cmp (Option.map (fun t : Int => (M, cc, some (.long (yl t))))) (q := 3) (by decide) rfl (fun h6 => ?_) (fun h6 => ?_)
    · refine e_ld (t := 3) rfl (Or.inr (Or.inr ⟨rfl, Or.inr rfl⟩)) hL5 rfl ?_
      exact e_lret rfl
    · refine e_ld (t := 3) rfl (Or.inr (Or.inr ⟨rfl, Or.inr rfl⟩)) hL5 rfl ?_
      refine e_lc (q := 31) rfl (by decide) (by decide) ?_
      refine e_lmul rfl ?_
      refine e_ld (t := 2) rfl (Or.inr (Or.inl ⟨rfl, Or.inr rfl⟩)) hL4 rfl ?_
      refine e_ld (t := 0) rfl (Or.inl ⟨rfl, Or.inl rfl⟩) hL3 rfl ?_
      refine e_ld (t := 0) rfl (Or.inl ⟨rfl, Or.inr rfl⟩) hL10 rfl ?_
      refine e_obj (M1 := M) (cc1 := cc) (v1 := some (.int (yi (f_149 M r4 x3 x10)))) (a := r4) (as := [.int (yi x3), .int (yi x10)]) rfl (by decide) rfl (Nat.le_of_ble_eq_true rfl) (fT hr4) (t_149 (by omega) hr4) ?_
      refine e_i2l rfl ?_
      refine e_ladd rfl ?_
      refine e_lstl (g := (Option.map (fun t : Int => (M, cc, some (.long (yl t)))))) rfl (Or.inr rfl) (fun v7 => ?_)
      refine e_inc (d := 1) rfl (l_ki2 (by decide) (by decide) hL10) (by decide) ?_
      refine e_go rfl ?_
      exact IH hr4 (l_ki (by decide) (l_ki2 (by decide) (by decide) hL3)) (l_kr (by decide) (l_kr2 (by decide) (by decide) hL4)) (l_kl (by decide) (by decide) l_s2) (l_ki (by decide) (l_ki2 (by decide) (by decide) hL9)) l_s
def f_7_35 (N : Nat) : Nat → yM → Int → Nat → Int → Int → Int → Int → Option (Int)
  | 0, _, _, _, _, _, _, _ => none
  | n + 1, M, x3, r4, y5, x7, x8, x9 => (cond (yrel 3 x9 x7) (ylet (yrd M (r4 + 5) x3) fun v5 => (f_7_62 N N M x3 r4 y5 v5 0)) (ylet ((y5 * 31) + (yw (yrd M (r4 + 10) x8))) fun v8 => (ylet (yrd M (r4 + 11) x8) fun v9 => (f_7_35 N n M x3 r4 v8 x7 v9 (x9 + 1)))))
theorem t_7_35 {sc : List Int32} {dd cc : Nat} {N : Nat} (hd : 2 ≤ dd) : ∀ (n : Nat) {M : yM} {x3 : Int} {r4 : Nat} {y5 : Int} {x7 : Int} {x8 : Int} {x9 : Int} (hr4 : pT r4) {L : zL} (hL3 : L 3 = some (.int (yi x3))) (hL4 : L 4 = some (.ref r4)) (hL5 : L 5 = some (.long (yl y5))) (hL7 : L 7 = some (.int (yi x7))) (hL8 : L 8 = some (.int (yi x8))) (hL9 : L 9 = some (.int (yi x9))), yW sc zg_c7 zg_w7 dd 35 L [] M cc ((Option.map (fun t : Int => (M, cc, some (.long (yl t))))) (f_7_35 N n M x3 r4 y5 x7 x8 x9)) := by
  intro n
  induction n with
  | zero => intros; exact y_none
  | succ n IH =>
    intro M x3 r4 y5 x7 x8 x9 hr4 L hL3 hL4 hL5 hL7 hL8 hL9
    rw [f_7_35]
    refine e_ld (t := 0) rfl (Or.inl ⟨rfl, Or.inr rfl⟩) hL9 rfl ?_
    refine e_ld (t := 0) rfl (Or.inl ⟨rfl, Or.inr rfl⟩) hL7 rfl ?_
    refine e_cmp (Option.map (fun t : Int => (M, cc, some (.long (yl t))))) (q := 3) (by decide) rfl (fun h4 => ?_) (fun h4 => ?_)
    · refine e_ld (t := 2) rfl (Or.inr (Or.inl ⟨rfl, Or.inr rfl⟩)) hL4 rfl ?_
      refine e_get (a := r4) (u := .ref (r4 + 5)) rfl (fT hr4) rfl (fun _ => rfl) ?_
      refine e_ld (t := 0) rfl (Or.inl ⟨rfl, Or.inl rfl⟩) hL3 rfl ?_
      refine e_at (a := (r4 + 5)) (by omega) rfl (by decide) (Nat.le_of_ble_eq_true rfl) (nT_5 hr4) ?_
      refine e_stl (g := (Option.map (fun t : Int => (M, cc, some (.long (yl t)))))) rfl (Or.inr rfl) (fun v5 => ?_)
      refine e_ic (b := 0) rfl (by decide) (by decide) ?_
      refine e_st (t := 0) rfl (Or.inl ⟨rfl, Or.inr rfl⟩) rfl ?_
      exact t_7_62 (by omega) N hr4 (l_ki (by decide) (l_ki (by decide) hL3)) (l_kr (by decide) (l_kr (by decide) hL4)) (l_kl (by decide) (by decide) (l_kl (by decide) (by decide) hL5)) (l_ki (by decide) l_s) l_s
    · refine e_ld (t := 3) rfl (Or.inr (Or.inr ⟨rfl, Or.inr rfl⟩)) hL5 rfl ?_
      refine e_lc (q := 31) rfl (by decide) (by decide) ?_
      refine e_lmul rfl ?_
      refine e_ld (t := 2) rfl (Or.inr (Or.inl ⟨rfl, Or.inr rfl⟩)) hL4 rfl ?_
      refine e_get (a := r4) (u := .ref (r4 + 10)) rfl (fT hr4) rfl (fun _ => rfl) ?_
      refine e_ld (t := 0) rfl (Or.inl ⟨rfl, Or.inr rfl⟩) hL8 rfl ?_
      refine e_at (a := (r4 + 10)) (by omega) rfl (by decide) (Nat.le_of_ble_eq_true rfl) (nT_10 hr4) ?_
      refine e_i2l rfl ?_
      refine e_ladd rfl ?_
      refine e_lstl (g := (Option.map (fun t : Int => (M, cc, some (.long (yl t)))))) rfl (Or.inr rfl) (fun v8 => ?_)
      refine e_ld (t := 2) rfl (Or.inr (Or.inl ⟨rfl, Or.inr rfl⟩)) (l_kr2 (by decide) (by decide) hL4) rfl ?_
      refine e_get (a := r4) (u := .ref (r4 + 11)) rfl (fT hr4) rfl (fun _ => rfl) ?_
      refine e_ld (t := 0) rfl (Or.inl ⟨rfl, Or.inr rfl⟩) (l_ki2 (by decide) (by decide) hL8) rfl ?_
      refine e_at (a := (r4 + 11)) (by omega) rfl (by decide) (Nat.le_of_ble_eq_true rfl) (nT_11 hr4) ?_
      refine e_stl (g := (Option.map (fun t : Int => (M, cc, some (.long (yl t)))))) rfl (Or.inr rfl) (fun v9 => ?_)
      refine e_inc (d := 1) rfl (l_ki (by decide) (l_ki2 (by decide) (by decide) hL9)) (by decide) ?_
      refine e_go rfl ?_
      exact IH hr4 (l_ki (by decide) (l_ki (by decide) (l_ki2 (by decide) (by decide) hL3))) (l_kr (by decide) (l_kr (by decide) (l_kr2 (by decide) (by decide) hL4))) (l_kl (by decide) (by decide) (l_kl (by decide) (by decide) l_s2)) (l_ki (by decide) (l_ki (by decide) (l_ki2 (by decide) (by decide) hL7))) (l_ki (by decide) l_s) l_s
def f_7_8 (N : Nat) : Nat → yM → Int → Nat → Int → Int → Option (Int)
  | 0, _, _, _, _, _ => none
  | n + 1, M, x3, r4, y5, x7 => (cond (yrel 4 x7 4) (ylet (yrd M (r4 + 7) x3) fun v2 => (ylet (yrd M (r4 + 8) x3) fun v3 => (f_7_35 N N M x3 r4 y5 v2 v3 0))) (ylet ((y5 * 31) + (yw (f_148 M r4 x3 x7))) fun v10 => (f_7_8 N n M x3 r4 v10 (x7 + 1))))
theorem t_7_8 {sc : List Int32} {dd cc : Nat} {N : Nat} (hd : 2 ≤ dd) : ∀ (n : Nat) {M : yM} {x3 : Int} {r4 : Nat} {y5 : Int} {x7 : Int} (hr4 : pT r4) {L : zL} (hL3 : L 3 = some (.int (yi x3))) (hL4 : L 4 = some (.ref r4)) (hL5 : L 5 = some (.long (yl y5))) (hL7 : L 7 = some (.int (yi x7))), yW sc zg_c7 zg_w7 dd 8 L [] M cc ((Option.map (fun t : Int => (M, cc, some (.long (yl t))))) (f_7_8 N n M x3 r4 y5 x7)) := by
  intro n
  induction n with
  | zero => intros; exact y_none
  | succ n IH =>
    intro M x3 r4 y5 x7 hr4 L hL3 hL4 hL5 hL7
    rw [f_7_8]
    refine e_ld (t := 0) rfl (Or.inl ⟨rfl, Or.inr rfl⟩) hL7 rfl ?_
    refine e_ic (b := 4) rfl (by decide) (by decide) ?_
    refine e_cmp (Option.map (fun t : Int => (M, cc, some (.long (yl t))))) (q := 4) (by decide) rfl (fun h1 => ?_) (fun h1 => ?_)
    · refine e_ld (t := 2) rfl (Or.inr (Or.inl ⟨rfl, Or.inr rfl⟩)) hL4 rfl ?_
      refine e_get (a := r4) (u := .ref (r4 + 7)) rfl (fT hr4) rfl (fun _ => rfl) ?_
      refine e_ld (t := 0) rfl (Or.inl ⟨rfl, Or.inl rfl⟩) hL3 rfl ?_
      refine e_at (a := (r4 + 7)) (by omega) rfl (by decide) (Nat.le_of_ble_eq_true rfl) (nT_7 hr4) ?_
      refine e_stl (g := (Option.map (fun t : Int => (M, cc, some (.long (yl t)))))) rfl (Or.inr rfl) (fun v2 => ?_)
      refine e_ld (t := 2) rfl (Or.inr (Or.inl ⟨rfl, Or.inr rfl⟩)) (l_kr (by decide) hL4) rfl ?_
      refine e_get (a := r4) (u := .ref (r4 + 8)) rfl (fT hr4) rfl (fun _ => rfl) ?_
      refine e_ld (t := 0) rfl (Or.inl ⟨rfl, Or.inl rfl⟩) (l_ki (by decide) hL3) rfl ?_
      refine e_at (a := (r4 + 8)) (by omega) rfl (by decide) (Nat.le_of_ble_eq_true rfl) (nT_8 hr4) ?_
      refine e_stl (g := (Option.map (fun t : Int => (M, cc, some (.long (yl t)))))) rfl (Or.inr rfl) (fun v3 => ?_)
      refine e_ic (b := 0) rfl (by decide) (by decide) ?_
      refine e_st (t := 0) rfl (Or.inl ⟨rfl, Or.inr rfl⟩) rfl ?_
      exact t_7_35 (by omega) N hr4 (l_ki (by decide) (l_ki (by decide) (l_ki (by decide) hL3))) (l_kr (by decide) (l_kr (by decide) (l_kr (by decide) hL4))) (l_kl (by decide) (by decide) (l_kl (by decide) (by decide) (l_kl (by decide) (by decide) hL5))) (l_ki (by decide) (l_ki (by decide) l_s)) (l_ki (by decide) l_s) l_s
    · refine e_ld (t := 3) rfl (Or.inr (Or.inr ⟨rfl, Or.inr rfl⟩)) hL5 rfl ?_
      refine e_lc (q := 31) rfl (by decide) (by decide) ?_
      refine e_lmul rfl ?_
      refine e_ld (t := 2) rfl (Or.inr (Or.inl ⟨rfl, Or.inr rfl⟩)) hL4 rfl ?_
      refine e_ld (t := 0) rfl (Or.inl ⟨rfl, Or.inl rfl⟩) hL3 rfl ?_
      refine e_ld (t := 0) rfl (Or.inl ⟨rfl, Or.inr rfl⟩) hL7 rfl ?_
      refine e_obj (M1 := M) (cc1 := cc) (v1 := some (.int (yi (f_148 M r4 x3 x7)))) (a := r4) (as := [.int (yi x3), .int (yi x7)]) rfl (by decide) rfl (Nat.le_of_ble_eq_true rfl) (fT hr4) (t_148 (by omega) hr4) ?_
      refine e_i2l rfl ?_
      refine e_ladd rfl ?_
      refine e_lstl (g := (Option.map (fun t : Int => (M, cc, some (.long (yl t)))))) rfl (Or.inr rfl) (fun v10 => ?_)
      refine e_inc (d := 1) rfl (l_ki2 (by decide) (by decide) hL7) (by decide) ?_
      refine e_go rfl ?_
      exact IH hr4 (l_ki (by decide) (l_ki2 (by decide) (by decide) hL3)) (l_kr (by decide) (l_kr2 (by decide) (by decide) hL4)) (l_kl (by decide) (by decide) l_s2) l_s
def f_7 (N : Nat) (M : yM) (y1 : Int) (x3 : Int) : Option (Int) := (f_7_8 N N M x3 (196 + 1) y1 0)
theorem t_7 {sc : List Int32} {dd cc : Nat} {N : Nat} {M : yM} {y1 : Int} {x3 : Int} (hd : 3 ≤ dd) : yP sc dd 7 [.ref 0, .long (yl y1), .int (yi x3)] M cc ((Option.map (fun t : Int => (M, cc, some (.long (yl t))))) (f_7 N M y1 x3)) := by
  obtain ⟨dd, rfl⟩ : ∃ e, dd = e + 1 := ⟨dd - 1, by omega⟩
  refine e_meth (C := zg_c7) (W := zg_w7) (ml := 11) rfl rfl (Nat.le_of_ble_eq_true rfl) ?_
  unfold f_7
  refine e_ld (t := 2) rfl (Or.inr (Or.inl ⟨rfl, Or.inl rfl⟩)) rfl rfl ?_
  refine e_get (a := 0) (u := .ref 196) rfl rfl rfl (fun _ => rfl) ?_
  refine e_get (a := 196) (u := .ref (196 + 1)) rfl (fM (Or.inl rfl)) rfl (fun _ => rfl) ?_
  refine e_st (t := 2) rfl (Or.inr ⟨rfl, Or.inr rfl⟩) rfl ?_
  refine e_ld (t := 3) rfl (Or.inr (Or.inr ⟨rfl, Or.inl rfl⟩)) (l_kl (by decide) (by decide) rfl) rfl ?_
  refine e_lst rfl (Or.inr rfl) ?_
  refine e_ic (b := 0) rfl (by decide) (by decide) ?_
  refine e_st (t := 0) rfl (Or.inl ⟨rfl, Or.inr rfl⟩) rfl ?_
  exact t_7_8 (by omega) N (pT_M (Or.inl rfl)) (l_ki (by decide) (l_ki2 (by decide) (by decide) (l_ki (by decide) rfl))) (l_kr (by decide) (l_kr2 (by decide) (by decide) l_s)) (l_kl (by decide) (by decide) l_s2) l_s
/-- UnwindTower.digestRun -/
def f_9_67 (N : Nat) : Nat → yM → Int → Int → Option (Int)
  | 0, _, _, _ => none
  | n + 1, M, y3, x6 => (cond (yrel 3 x6 14) (some y3) (ylet ((y3 * 31) + (yw (f_25 M x6))) fun v6 => (f_9_67 N n M v6 (x6 + 1))))
theorem t_9_67 {sc : List Int32} {dd cc : Nat} {N : Nat} (hd : 3 ≤ dd) : ∀ (n : Nat) {M : yM} {y3 : Int} {x6 : Int} {L : zL} (hL0 : L 0 = some (.ref 0)) (hL3 : L 3 = some (.long (yl y3))) (hL6 : L 6 = some (.int (yi x6))), yW sc zg_c9 zg_w9 dd 67 L [] M cc ((Option.map (fun t : Int => (M, cc, some (.long (yl t))))) (f_9_67 N n M y3 x6)) := by
  intro n
  induction n with
  | zero => intros; exact y_none
  | succ n IH =>
    intro M y3 x6 L hL0 hL3 hL6
    rw [f_9_67]
    refine e_ld (t := 0) rfl (Or.inl ⟨rfl, Or.inr rfl⟩) hL6 rfl ?_
    refine e_ic (b := 14) rfl (by decide) (by decide) ?_
    refine e_cmp (Option.map (fun t : Int => (M, cc, some (.long (yl t))))) (q := 3) (by decide) rfl (fun h5 => ?_) (fun h5 => ?_)
    · refine e_ld (t := 3) rfl (Or.inr (Or.inr ⟨rfl, Or.inl rfl⟩)) hL3 rfl ?_
      exact e_lret rfl
    · refine e_ld (t := 3) rfl (Or.inr (Or.inr ⟨rfl, Or.inl rfl⟩)) hL3 rfl ?_
      refine e_lc (q := 31) rfl (by decide) (by decide) ?_
      refine e_lmul rfl ?_
      refine e_ld (t := 2) rfl (Or.inr (Or.inl ⟨rfl, Or.inl rfl⟩)) hL0 rfl ?_
      refine e_ld (t := 0) rfl (Or.inl ⟨rfl, Or.inr rfl⟩) hL6 rfl ?_
      refine e_obj (M1 := M) (cc1 := cc) (v1 := some (.int (yi (f_25 M x6)))) (a := 0) (as := [.int (yi x6)]) rfl (by decide) rfl (Nat.le_of_ble_eq_true rfl) rfl (t_25 (by omega)) ?_
      refine e_i2l rfl ?_
      refine e_ladd rfl ?_
      refine e_lstl (g := (Option.map (fun t : Int => (M, cc, some (.long (yl t)))))) rfl (Or.inl rfl) (fun v6 => ?_)
      refine e_inc (d := 1) rfl (l_ki2 (by decide) (by decide) hL6) (by decide) ?_
      refine e_go rfl ?_
      exact IH (l_kr (by decide) (l_kr2 (by decide) (by decide) hL0)) (l_kl (by decide) (by decide) l_s2) l_s
def f_9_65 (N : Nat) (M : yM) (y3 : Int) : Option (Int) := (f_9_67 N N M y3 0)
theorem t_9_65 {sc : List Int32} {dd cc : Nat} {N : Nat} {M : yM} {y3 : Int} (hd : 3 ≤ dd) {L : zL} (hL0 : L 0 = some (.ref 0)) (hL3 : L 3 = some (.long (yl y3))) : yW sc zg_c9 zg_w9 dd 65 L [] M cc ((Option.map (fun t : Int => (M, cc, some (.long (yl t))))) (f_9_65 N M y3)) := by
  unfold f_9_65
  refine e_ic (b := 0) rfl (by decide) (by decide) ?_
  refine e_st (t := 0) rfl (Or.inl ⟨rfl, Or.inr rfl⟩) rfl ?_
  exact t_9_67 (by omega) N (l_kr (by decide) hL0) (l_kl (by decide) (by decide) hL3) l_s
def f_9_49 (N : Nat) : Nat → yM → Int → Int → Option (Int)
  | 0, _, _, _ => none
  | n + 1, M, y3, x6 => (cond (yrel 3 x6 40) (f_9_65 N M y3) (cond (yrel 0 (f_146 M (196 + 1) x6) 0) (f_9_65 N M y3) (Option.bind (f_7 N M y3 x6) fun t8 => (f_9_49 N n M t8 (x6 + 1)))))
theorem t_9_49 {sc : List Int32} {dd cc : Nat} {N : Nat} (hd : 3 ≤ dd) : ∀ (n : Nat) {M : yM} {y3 : Int} {x6 : Int} {L : zL} (hL0 : L 0 = some (.ref 0)) (hL3 : L 3 = some (.long (yl y3))) (hL6 : L 6 = some (.int (yi x6))), yW sc zg_c9 zg_w9 dd 49 L [] M cc ((Option.map (fun t : Int => (M, cc, some (.long (yl t))))) (f_9_49 N n M y3 x6)) := by
  intro n
  induction n with
  | zero => intros; exact y_none
  | succ n IH =>
    intro M y3 x6 L hL0 hL3 hL6
    rw [f_9_49]
    refine e_ld (t := 0) rfl (Or.inl ⟨rfl, Or.inr rfl⟩) hL6 rfl ?_
    refine e_ic (b := 40) rfl (by decide) (by decide) ?_
    refine e_cmp (Option.map (fun t : Int => (M, cc, some (.long (yl t))))) (q := 3) (by decide) rfl (fun h4 => ?_) (fun h4 => ?_)
    · exact t_9_65 (by omega) hL0 hL3
    · refine e_ld (t := 2) rfl (Or.inr (Or.inl ⟨rfl, Or.inl rfl⟩)) hL0 rfl ?_
      refine e_get (a := 0) (u := .ref 196) rfl rfl rfl (fun _ => rfl) ?_
      refine e_get (a := 196) (u := .ref (196 + 1)) rfl (fM (Or.inl rfl)) rfl (fun _ => rfl) ?_
      refine e_ld (t := 0) rfl (Or.inl ⟨rfl, Or.inr rfl⟩) hL6 rfl ?_
      refine e_obj (M1 := M) (cc1 := cc) (v1 := some (.int (yi (f_146 M (196 + 1) x6)))) (a := (196 + 1)) (as := [.int (yi x6)]) rfl (by decide) rfl (Nat.le_of_ble_eq_true rfl) (fT (pT_M (Or.inl rfl))) (t_146 (by omega) (pT_M (Or.inl rfl))) ?_
      refine e_br (Option.map (fun t : Int => (M, cc, some (.long (yl t))))) (q := 0) (by decide) rfl (fun h7 => ?_) (fun h7 => ?_)
      · exact t_9_65 (by omega) hL0 hL3
      · refine e_ld (t := 2) rfl (Or.inr (Or.inl ⟨rfl, Or.inl rfl⟩)) hL0 rfl ?_
        refine e_ld (t := 3) rfl (Or.inr (Or.inr ⟨rfl, Or.inl rfl⟩)) hL3 rfl ?_
        refine e_ld (t := 0) rfl (Or.inl ⟨rfl, Or.inr rfl⟩) hL6 rfl ?_
        refine e_objO (h0 := (fun t : Int => (M, cc, some (.long (yl t))))) (h := (fun t : Int => (M, cc, some (.long (yl t))))) (a := 0) (as := [.long (yl y3), .int (yi x6)]) rfl (by decide) rfl (Nat.le_of_ble_eq_true rfl) rfl (t_7 (by omega)) (fun t8 => ?_)
        refine e_lst rfl (Or.inl rfl) ?_
        refine e_inc (d := 1) rfl (l_ki2 (by decide) (by decide) hL6) (by decide) ?_
        refine e_go rfl ?_
        exact IH (l_kr (by decide) (l_kr2 (by decide) (by decide) hL0)) (l_kl (by decide) (by decide) l_s2) l_s
def f_9_29 (N : Nat) (ih24 : yM → Int → Int → Int → Option (Int)) : Nat → yM → Int → Int → Int → Int → Option (Int)
  | 0, _, _, _, _, _ => none
  | n + 1, M, y3, x5, x6, x7 => (cond (yrel 4 x7 2) (ih24 M y3 x5 (x6 + 1)) (ylet ((y3 * 31) + (yw (f_96 M 196 x6 x7))) fun v10 => (f_9_29 N ih24 n M v10 x5 x6 (x7 + 1))))
theorem t_9_29 {sc : List Int32} {dd cc : Nat} {N : Nat} {ih24 : yM → Int → Int → Int → Option (Int)} (hd : 3 ≤ dd) (ih24_ : ∀ {M : yM} {y3 : Int} {x5 : Int} {x6 : Int} {L : zL} (hL0 : L 0 = some (.ref 0)) (hL3 : L 3 = some (.long (yl y3))) (hL5 : L 5 = some (.int (yi x5))) (hL6 : L 6 = some (.int (yi x6))), yW sc zg_c9 zg_w9 dd 24 L [] M cc ((Option.map (fun t : Int => (M, cc, some (.long (yl t))))) (ih24 M y3 x5 x6))) : ∀ (n : Nat) {M : yM} {y3 : Int} {x5 : Int} {x6 : Int} {x7 : Int} {L : zL} (hL0 : L 0 = some (.ref 0)) (hL3 : L 3 = some (.long (yl y3))) (hL5 : L 5 = some (.int (yi x5))) (hL6 : L 6 = some (.int (yi x6))) (hL7 : L 7 = some (.int (yi x7))), yW sc zg_c9 zg_w9 dd 29 L [] M cc ((Option.map (fun t : Int => (M, cc, some (.long (yl t))))) (f_9_29 N ih24 n M y3 x5 x6 x7)) := by
  intro n
  induction n with
  | zero => intros; exact y_none
  | succ n IH =>
    intro M y3 x5 x6 x7 L hL0 hL3 hL5 hL6 hL7
    rw [f_9_29]
    refine e_ld (t := 0) rfl (Or.inl ⟨rfl, Or.inr rfl⟩) hL7 rfl ?_
    refine e_ic (b := 2) rfl (by decide) (by decide) ?_
    refine e_cmp (Option.map (fun t : Int => (M, cc, some (.long (yl t))))) (q := 4) (by decide) rfl (fun h9 => ?_) (fun h9 => ?_)
    · refine e_inc (d := 1) rfl hL6 (by decide) ?_
      refine e_go rfl ?_
      exact ih24_ (l_kr (by decide) hL0) (l_kl (by decide) (by decide) hL3) (l_ki (by decide) hL5) l_s
    · refine e_ld (t := 3) rfl (Or.inr (Or.inr ⟨rfl, Or.inl rfl⟩)) hL3 rfl ?_
      refine e_lc (q := 31) rfl (by decide) (by decide) ?_
      refine e_lmul rfl ?_
      refine e_ld (t := 2) rfl (Or.inr (Or.inl ⟨rfl, Or.inl rfl⟩)) hL0 rfl ?_
      refine e_get (a := 0) (u := .ref 196) rfl rfl rfl (fun _ => rfl) ?_
      refine e_ld (t := 0) rfl (Or.inl ⟨rfl, Or.inr rfl⟩) hL6 rfl ?_
      refine e_ld (t := 0) rfl (Or.inl ⟨rfl, Or.inr rfl⟩) hL7 rfl ?_
      refine e_obj (M1 := M) (cc1 := cc) (v1 := some (.int (yi (f_96 M 196 x6 x7)))) (a := 196) (as := [.int (yi x6), .int (yi x7)]) rfl (by decide) rfl (Nat.le_of_ble_eq_true rfl) (fM (Or.inl rfl)) (t_96 (by omega) (Or.inl rfl)) ?_
      refine e_i2l rfl ?_
      refine e_ladd rfl ?_
      refine e_lstl (g := (Option.map (fun t : Int => (M, cc, some (.long (yl t)))))) rfl (Or.inl rfl) (fun v10 => ?_)
      refine e_inc (d := 1) rfl (l_ki2 (by decide) (by decide) hL7) (by decide) ?_
      refine e_go rfl ?_
      exact IH (l_kr (by decide) (l_kr2 (by decide) (by decide) hL0)) (l_kl (by decide) (by decide) l_s2) (l_ki (by decide) (l_ki2 (by decide) (by decide) hL5)) (l_ki (by decide) (l_ki2 (by decide) (by decide) hL6)) l_s
def f_9_24 (N : Nat) : Nat → yM → Int → Int → Int → Option (Int)
  | 0, _, _, _, _ => none
  | n + 1, M, y3, x5, x6 => (cond (yrel 3 x6 x5) (f_9_49 N N M y3 0) (f_9_29 N (f_9_24 N n) N M y3 x5 x6 0))
theorem t_9_24 {sc : List Int32} {dd cc : Nat} {N : Nat} (hd : 3 ≤ dd) : ∀ (n : Nat) {M : yM} {y3 : Int} {x5 : Int} {x6 : Int} {L : zL} (hL0 : L 0 = some (.ref 0)) (hL3 : L 3 = some (.long (yl y3))) (hL5 : L 5 = some (.int (yi x5))) (hL6 : L 6 = some (.int (yi x6))), yW sc zg_c9 zg_w9 dd 24 L [] M cc ((Option.map (fun t : Int => (M, cc, some (.long (yl t))))) (f_9_24 N n M y3 x5 x6)) := by
  intro n
  induction n with
  | zero => intros; exact y_none
  | succ n IH =>
    intro M y3 x5 x6 L hL0 hL3 hL5 hL6
    rw [f_9_24]
    refine e_ld (t := 0) rfl (Or.inl ⟨rfl, Or.inr rfl⟩) hL6 rfl ?_
    refine e_ld (t := 0) rfl (Or.inl ⟨rfl, Or.inr rfl⟩) hL5 rfl ?_
    refine e_cmp (Option.map (fun t : Int => (M, cc, some (.long (yl t))))) (q := 3) (by decide) rfl (fun h3 => ?_) (fun h3 => ?_)
    · refine e_ic (b := 0) rfl (by decide) (by decide) ?_
      refine e_st (t := 0) rfl (Or.inl ⟨rfl, Or.inr rfl⟩) rfl ?_
      exact t_9_49 (by omega) N (l_kr (by decide) hL0) (l_kl (by decide) (by decide) hL3) l_s
    · refine e_ic (b := 0) rfl (by decide) (by decide) ?_
      refine e_st (t := 0) rfl (Or.inl ⟨rfl, Or.inr rfl⟩) rfl ?_
      exact t_9_29 (by omega) IH N (l_kr (by decide) hL0) (l_kl (by decide) (by decide) hL3) (l_ki (by decide) hL5) (l_ki (by decide) hL6) l_s
def f_9_4 (N : Nat) : Nat → yM → Int → Int → Option (Int)
  | 0, _, _, _ => none
  | n + 1, M, y3, x5 => (cond (yrel 4 x5 9) (ylet (f_86 M 196) fun v2 => (f_9_24 N N M y3 v2 0)) (ylet ((y3 * 31) + (yw (f_30 M x5))) fun v11 => (f_9_4 N n M v11 (x5 + 1))))
theorem t_9_4 {sc : List Int32} {dd cc : Nat} {N : Nat} (hd : 3 ≤ dd) : ∀ (n : Nat) {M : yM} {y3 : Int} {x5 : Int} {L : zL} (hL0 : L 0 = some (.ref 0)) (hL3 : L 3 = some (.long (yl y3))) (hL5 : L 5 = some (.int (yi x5))), yW sc zg_c9 zg_w9 dd 4 L [] M cc ((Option.map (fun t : Int => (M, cc, some (.long (yl t))))) (f_9_4 N n M y3 x5)) := by
  intro n
  induction n with
  | zero => intros; exact y_none
  | succ n IH =>
    intro M y3 x5 L hL0 hL3 hL5
    rw [f_9_4]
    refine e_ld (t := 0) rfl (Or.inl ⟨rfl, Or.inr rfl⟩) hL5 rfl ?_
    refine e_ic (b := 9) rfl (by decide) (by decide) ?_
    refine e_cmp (Option.map (fun t : Int => (M, cc, some (.long (yl t))))) (q := 4) (by decide) rfl (fun h1 => ?_) (fun h1 => ?_)
    · refine e_ld (t := 2) rfl (Or.inr (Or.inl ⟨rfl, Or.inl rfl⟩)) hL0 rfl ?_
      refine e_get (a := 0) (u := .ref 196) rfl rfl rfl (fun _ => rfl) ?_
      refine e_obj (M1 := M) (cc1 := cc) (v1 := some (.int (yi (f_86 M 196)))) (a := 196) (as := []) rfl (by decide) rfl (Nat.le_of_ble_eq_true rfl) (fM (Or.inl rfl)) (t_86 (by omega) (Or.inl rfl)) ?_
      refine e_stl (g := (Option.map (fun t : Int => (M, cc, some (.long (yl t)))))) rfl (Or.inr rfl) (fun v2 => ?_)
      refine e_ic (b := 0) rfl (by decide) (by decide) ?_
      refine e_st (t := 0) rfl (Or.inl ⟨rfl, Or.inr rfl⟩) rfl ?_
      exact t_9_24 (by omega) N (l_kr (by decide) (l_kr (by decide) hL0)) (l_kl (by decide) (by decide) (l_kl (by decide) (by decide) hL3)) (l_ki (by decide) l_s) l_s
    · refine e_ld (t := 3) rfl (Or.inr (Or.inr ⟨rfl, Or.inl rfl⟩)) hL3 rfl ?_
      refine e_lc (q := 31) rfl (by decide) (by decide) ?_
      refine e_lmul rfl ?_
      refine e_ld (t := 2) rfl (Or.inr (Or.inl ⟨rfl, Or.inl rfl⟩)) hL0 rfl ?_
      refine e_ld (t := 0) rfl (Or.inl ⟨rfl, Or.inr rfl⟩) hL5 rfl ?_
      refine e_obj (M1 := M) (cc1 := cc) (v1 := some (.int (yi (f_30 M x5)))) (a := 0) (as := [.int (yi x5)]) rfl (by decide) rfl (Nat.le_of_ble_eq_true rfl) rfl (t_30 (by omega)) ?_
      refine e_i2l rfl ?_
      refine e_ladd rfl ?_
      refine e_lstl (g := (Option.map (fun t : Int => (M, cc, some (.long (yl t)))))) rfl (Or.inl rfl) (fun v11 => ?_)
      refine e_inc (d := 1) rfl (l_ki2 (by decide) (by decide) hL5) (by decide) ?_
      refine e_go rfl ?_
      exact IH (l_kr (by decide) (l_kr2 (by decide) (by decide) hL0)) (l_kl (by decide) (by decide) l_s2) l_s
def f_9 (N : Nat) (M : yM) (y1 : Int) : Option (Int) := (f_9_4 N N M y1 0)
theorem t_9 {sc : List Int32} {dd cc : Nat} {N : Nat} {M : yM} {y1 : Int} (hd : 4 ≤ dd) : yP sc dd 9 [.ref 0, .long (yl y1)] M cc ((Option.map (fun t : Int => (M, cc, some (.long (yl t))))) (f_9 N M y1)) := by
  obtain ⟨dd, rfl⟩ : ∃ e, dd = e + 1 := ⟨dd - 1, by omega⟩
  refine e_meth (C := zg_c9) (W := zg_w9) (ml := 8) rfl rfl (Nat.le_of_ble_eq_true rfl) ?_
  unfold f_9
  refine e_ld (t := 3) rfl (Or.inr (Or.inr ⟨rfl, Or.inl rfl⟩)) rfl rfl ?_
  refine e_lst rfl (Or.inl rfl) ?_
  refine e_ic (b := 0) rfl (by decide) (by decide) ?_
  refine e_st (t := 0) rfl (Or.inl ⟨rfl, Or.inr rfl⟩) rfl ?_
  exact t_9_4 (by omega) N (l_kr (by decide) (l_kr2 (by decide) (by decide) rfl)) (l_kl (by decide) (by decide) l_s2) l_s
/-- UnwindTower.exception -/
def f_10 (M : yM) (x1 : Int) (x2 : Int) : Option (Int) := (cond (yrel 1 (f_146 M (196 + 1) x1) 0) (cond (yrel 2 x2 0) none (cond (yrel 5 x2 4) (some (f_148 M (196 + 1) x1 x2)) none)) none)
theorem t_10 {sc : List Int32} {dd cc : Nat} {M : yM} {x1 : Int} {x2 : Int} (hd : 3 ≤ dd) : yP sc dd 10 [.ref 0, .int (yi x1), .int (yi x2)] M cc ((Option.map (fun t : Int => (M, cc, some (.int (yi t))))) (f_10 M x1 x2)) := by
  obtain ⟨dd, rfl⟩ : ∃ e, dd = e + 1 := ⟨dd - 1, by omega⟩
  refine e_meth (C := zg_c10) (W := zg_w10) (ml := 3) rfl rfl (Nat.le_of_ble_eq_true rfl) ?_
  unfold f_10
  refine e_ld (t := 2) rfl (Or.inr (Or.inl ⟨rfl, Or.inl rfl⟩)) rfl rfl ?_
  refine e_get (a := 0) (u := .ref 196) rfl rfl rfl (fun _ => rfl) ?_
  refine e_get (a := 196) (u := .ref (196 + 1)) rfl (fM (Or.inl rfl)) rfl (fun _ => rfl) ?_
  refine e_ld (t := 0) rfl (Or.inl ⟨rfl, Or.inl rfl⟩) rfl rfl ?_
  refine e_obj (M1 := M) (cc1 := cc) (v1 := some (.int (yi (f_146 M (196 + 1) x1)))) (a := (196 + 1)) (as := [.int (yi x1)]) rfl (by decide) rfl (Nat.le_of_ble_eq_true rfl) (fT (pT_M (Or.inl rfl))) (t_146 (by omega) (pT_M (Or.inl rfl))) ?_
  refine e_br (Option.map (fun t : Int => (M, cc, some (.int (yi t))))) (q := 1) (by decide) rfl (fun h1 => ?_) (fun h1 => ?_)
  · refine e_ld (t := 0) rfl (Or.inl ⟨rfl, Or.inl rfl⟩) rfl rfl ?_
    refine e_br (Option.map (fun t : Int => (M, cc, some (.int (yi t))))) (q := 2) (by decide) rfl (fun h2 => ?_) (fun h2 => ?_)
    · exact y_none
    · refine e_ld (t := 0) rfl (Or.inl ⟨rfl, Or.inl rfl⟩) rfl rfl ?_
      refine e_ic (b := 4) rfl (by decide) (by decide) ?_
      refine e_cmp (Option.map (fun t : Int => (M, cc, some (.int (yi t))))) (q := 5) (by decide) rfl (fun h3 => ?_) (fun h3 => ?_)
      · refine e_ld (t := 2) rfl (Or.inr (Or.inl ⟨rfl, Or.inl rfl⟩)) rfl rfl ?_
        refine e_get (a := 0) (u := .ref 196) rfl rfl rfl (fun _ => rfl) ?_
        refine e_get (a := 196) (u := .ref (196 + 1)) rfl (fM (Or.inl rfl)) rfl (fun _ => rfl) ?_
        refine e_ld (t := 0) rfl (Or.inl ⟨rfl, Or.inl rfl⟩) rfl rfl ?_
        refine e_ld (t := 0) rfl (Or.inl ⟨rfl, Or.inl rfl⟩) rfl rfl ?_
        refine e_obj (M1 := M) (cc1 := cc) (v1 := some (.int (yi (f_148 M (196 + 1) x1 x2)))) (a := (196 + 1)) (as := [.int (yi x1), .int (yi x2)]) rfl (by decide) rfl (Nat.le_of_ble_eq_true rfl) (fT (pT_M (Or.inl rfl))) (t_148 (by omega) (pT_M (Or.inl rfl))) ?_
        exact e_iret rfl (Or.inl rfl)
      · exact y_none
  · exact y_none
/-- UnwindTower.kind -/
def f_13 (N : Nat) (M : yM) (x1 : Int) (x2 : Int) : Option (yM × Int) := (cond (yrel 1 (f_117 M x1) 0) (cond (yrel 2 (M 1 0) 13) (ylet (yU M 0 8 1) fun M3 => (Option.bind (f_104 N M3 x1 x2) fun t4 => some (t4.1, t4.2))) none) none)
theorem t_13 {sc : List Int32} {dd cc : Nat} {N : Nat} {M : yM} {x1 : Int} {x2 : Int} (hd : 3 ≤ dd) : yP sc dd 13 [.ref 0, .int (yi x1), .int (yi x2)] M cc ((Option.map (fun t : yM × Int => (t.1, cc, some (.int (yi t.2))))) (f_13 N M x1 x2)) := by
  obtain ⟨dd, rfl⟩ : ∃ e, dd = e + 1 := ⟨dd - 1, by omega⟩
  refine e_meth (C := zg_c13) (W := zg_w13) (ml := 3) rfl rfl (Nat.le_of_ble_eq_true rfl) ?_
  unfold f_13
  refine e_ld (t := 2) rfl (Or.inr (Or.inl ⟨rfl, Or.inl rfl⟩)) rfl rfl ?_
  refine e_get (a := 0) (u := .ref 1) rfl rfl rfl (fun _ => rfl) ?_
  refine e_ld (t := 0) rfl (Or.inl ⟨rfl, Or.inl rfl⟩) rfl rfl ?_
  refine e_obj (M1 := M) (cc1 := cc) (v1 := some (.int (yi (f_117 M x1)))) (a := 1) (as := [.int (yi x1)]) rfl (by decide) rfl (Nat.le_of_ble_eq_true rfl) rfl (t_117 (by omega)) ?_
  refine e_br (Option.map (fun t : yM × Int => (t.1, cc, some (.int (yi t.2))))) (q := 1) (by decide) rfl (fun h1 => ?_) (fun h1 => ?_)
  · refine e_ld (t := 2) rfl (Or.inr (Or.inl ⟨rfl, Or.inl rfl⟩)) rfl rfl ?_
    refine e_get (a := 0) (u := .ref 1) rfl rfl rfl (fun _ => rfl) ?_
    refine e_get (a := 1) (u := .int (yi (M 1 0))) rfl rfl rfl (fun _ => rfl) ?_
    refine e_ic (b := 13) rfl (by decide) (by decide) ?_
    refine e_cmp (Option.map (fun t : yM × Int => (t.1, cc, some (.int (yi t.2))))) (q := 2) (by decide) rfl (fun h2 => ?_) (fun h2 => ?_)
    · refine e_ld (t := 2) rfl (Or.inr (Or.inl ⟨rfl, Or.inl rfl⟩)) rfl rfl ?_
      refine e_ic (b := 1) rfl (by decide) (by decide) ?_
      refine e_put (a := 0) rfl (Or.inl rfl) rfl rfl (Or.inr ⟨rfl, Or.inr rfl⟩) ?_
      refine y_let (Option.map (fun t : yM × Int => (t.1, cc, some (.int (yi t.2))))) (fun M3 => ?_)
      refine e_ld (t := 2) rfl (Or.inr (Or.inl ⟨rfl, Or.inl rfl⟩)) rfl rfl ?_
      refine e_get (a := 0) (u := .ref 1) rfl rfl rfl (fun _ => rfl) ?_
      refine e_ld (t := 0) rfl (Or.inl ⟨rfl, Or.inl rfl⟩) rfl rfl ?_
      refine e_ld (t := 0) rfl (Or.inl ⟨rfl, Or.inl rfl⟩) rfl rfl ?_
      refine e_objO (h0 := (fun t : yM × Int => (t.1, cc, some (.int (yi t.2))))) (h := (fun t : yM × Int => (t.1, cc, some (.int (yi t.2))))) (a := 1) (as := [.int (yi x1), .int (yi x2)]) rfl (by decide) rfl (Nat.le_of_ble_eq_true rfl) rfl (t_104 (by omega)) (fun t4 => ?_)
      exact e_iret rfl (Or.inl rfl)
    · exact y_none
  · exact y_none
/-- UnwindTower.ofRun -/
def f_21 (M : yM) (x1 : Int) : Option (Int) := (cond (yrel 2 x1 0) none (cond (yrel 5 x1 9) (some (f_30 M x1)) none))
theorem t_21 {sc : List Int32} {dd cc : Nat} {M : yM} {x1 : Int} (hd : 3 ≤ dd) : yP sc dd 21 [.ref 0, .int (yi x1)] M cc ((Option.map (fun t : Int => (M, cc, some (.int (yi t))))) (f_21 M x1)) := by
  obtain ⟨dd, rfl⟩ : ∃ e, dd = e + 1 := ⟨dd - 1, by omega⟩
  refine e_meth (C := zg_c21) (W := zg_w21) (ml := 2) rfl rfl (Nat.le_of_ble_eq_true rfl) ?_
  unfold f_21
  refine e_ld (t := 0) rfl (Or.inl ⟨rfl, Or.inl rfl⟩) rfl rfl ?_
  refine e_br (Option.map (fun t : Int => (M, cc, some (.int (yi t))))) (q := 2) (by decide) rfl (fun h1 => ?_) (fun h1 => ?_)
  · exact y_none
  · refine e_ld (t := 0) rfl (Or.inl ⟨rfl, Or.inl rfl⟩) rfl rfl ?_
    refine e_ic (b := 9) rfl (by decide) (by decide) ?_
    refine e_cmp (Option.map (fun t : Int => (M, cc, some (.int (yi t))))) (q := 5) (by decide) rfl (fun h2 => ?_) (fun h2 => ?_)
    · refine e_ld (t := 2) rfl (Or.inr (Or.inl ⟨rfl, Or.inl rfl⟩)) rfl rfl ?_
      refine e_ld (t := 0) rfl (Or.inl ⟨rfl, Or.inl rfl⟩) rfl rfl ?_
      refine e_obj (M1 := M) (cc1 := cc) (v1 := some (.int (yi (f_30 M x1)))) (a := 0) (as := [.int (yi x1)]) rfl (by decide) rfl (Nat.le_of_ble_eq_true rfl) rfl (t_30 (by omega)) ?_
      exact e_iret rfl (Or.inl rfl)
    · exact y_none
/-- UnwindTower.procedure -/
def f_22 (M : yM) (x1 : Int) : Option (yM × Int) := (cond (yrel 1 (f_127 M x1) 0) (cond (yrel 2 (M 1 4) 8) (ylet (yU M 0 8 1) fun M3 => (ylet (f_106 M3 x1) fun t4 => some (t4.1, t4.2))) none) none)
theorem t_22 {sc : List Int32} {dd cc : Nat} {M : yM} {x1 : Int} (hd : 3 ≤ dd) : yP sc dd 22 [.ref 0, .int (yi x1)] M cc ((Option.map (fun t : yM × Int => (t.1, cc, some (.int (yi t.2))))) (f_22 M x1)) := by
  obtain ⟨dd, rfl⟩ : ∃ e, dd = e + 1 := ⟨dd - 1, by omega⟩
  refine e_meth (C := zg_c22) (W := zg_w22) (ml := 2) rfl rfl (Nat.le_of_ble_eq_true rfl) ?_
  unfold f_22
  refine e_ld (t := 2) rfl (Or.inr (Or.inl ⟨rfl, Or.inl rfl⟩)) rfl rfl ?_
  refine e_get (a := 0) (u := .ref 1) rfl rfl rfl (fun _ => rfl) ?_
  refine e_ld (t := 0) rfl (Or.inl ⟨rfl, Or.inl rfl⟩) rfl rfl ?_
  refine e_obj (M1 := M) (cc1 := cc) (v1 := some (.int (yi (f_127 M x1)))) (a := 1) (as := [.int (yi x1)]) rfl (by decide) rfl (Nat.le_of_ble_eq_true rfl) rfl (t_127 (by omega)) ?_
  refine e_br (Option.map (fun t : yM × Int => (t.1, cc, some (.int (yi t.2))))) (q := 1) (by decide) rfl (fun h1 => ?_) (fun h1 => ?_)
  · refine e_ld (t := 2) rfl (Or.inr (Or.inl ⟨rfl, Or.inl rfl⟩)) rfl rfl ?_
    refine e_get (a := 0) (u := .ref 1) rfl rfl rfl (fun _ => rfl) ?_
    refine e_get (a := 1) (u := .int (yi (M 1 4))) rfl rfl rfl (fun _ => rfl) ?_
    refine e_ic (b := 8) rfl (by decide) (by decide) ?_
    refine e_cmp (Option.map (fun t : yM × Int => (t.1, cc, some (.int (yi t.2))))) (q := 2) (by decide) rfl (fun h2 => ?_) (fun h2 => ?_)
    · refine e_ld (t := 2) rfl (Or.inr (Or.inl ⟨rfl, Or.inl rfl⟩)) rfl rfl ?_
      refine e_ic (b := 1) rfl (by decide) (by decide) ?_
      refine e_put (a := 0) rfl (Or.inl rfl) rfl rfl (Or.inr ⟨rfl, Or.inr rfl⟩) ?_
      refine y_let (Option.map (fun t : yM × Int => (t.1, cc, some (.int (yi t.2))))) (fun M3 => ?_)
      refine e_ld (t := 2) rfl (Or.inr (Or.inl ⟨rfl, Or.inl rfl⟩)) rfl rfl ?_
      refine e_get (a := 0) (u := .ref 1) rfl rfl rfl (fun _ => rfl) ?_
      refine e_ld (t := 0) rfl (Or.inl ⟨rfl, Or.inl rfl⟩) rfl rfl ?_
      refine e_objP (Option.map (fun t : yM × Int => (t.1, cc, some (.int (yi t.2))))) (h0 := (fun t : yM × Int => (t.1, cc, some (.int (yi t.2))))) (a := 1) (as := [.int (yi x1)]) rfl (by decide) rfl (Nat.le_of_ble_eq_true rfl) rfl (t_106 (by omega)) (fun t4 => ?_)
      exact e_iret rfl (Or.inl rfl)
    · exact y_none
  · exact y_none
/-- UnwindTower.readKind -/
def f_26 (N : Nat) (M : yM) (x1 : Int) (x2 : Int) : Option (Int) := (cond (yrel 0 x2 0) (some (yrd M 2 x1)) (cond (yrel 0 x2 (0 + 1)) (some (yrd M 3 x1)) (cond (yrel 0 x2 (0 + 1 + 1)) (some (yrd M 4 x1)) (cond (yrel 0 x2 (0 + 1 + 1 + 1)) (Option.bind (f_112 N M x1) fun t5 => some t5) (some (yrd M ((196 + 1) + 3) x1))))))
theorem t_26 {sc : List Int32} {dd cc : Nat} {N : Nat} {M : yM} {x1 : Int} {x2 : Int} (hd : 3 ≤ dd) : yP sc dd 26 [.ref 0, .int (yi x1), .int (yi x2)] M cc ((Option.map (fun t : Int => (M, cc, some (.int (yi t))))) (f_26 N M x1 x2)) := by
  obtain ⟨dd, rfl⟩ : ∃ e, dd = e + 1 := ⟨dd - 1, by omega⟩
  refine e_meth (C := zg_c26) (W := zg_w26) (ml := 3) rfl rfl (Nat.le_of_ble_eq_true rfl) ?_
  unfold f_26
  refine e_ld (t := 0) rfl (Or.inl ⟨rfl, Or.inl rfl⟩) rfl rfl ?_
  refine e_sw (lo' := 0) rfl rfl (by decide) ?_
  refine s_case (Option.map (fun t : Int => (M, cc, some (.int (yi t))))) (by decide) (fun h1 => ?_) (fun h1 => ?_)
  · refine e_ld (t := 2) rfl (Or.inr (Or.inl ⟨rfl, Or.inl rfl⟩)) rfl rfl ?_
    refine e_get (a := 0) (u := .ref 1) rfl rfl rfl (fun _ => rfl) ?_
    refine e_get (a := 1) (u := .ref 2) rfl rfl rfl (fun _ => rfl) ?_
    refine e_ld (t := 0) rfl (Or.inl ⟨rfl, Or.inl rfl⟩) rfl rfl ?_
    refine e_at (a := 2) (by omega) rfl (by decide) (Nat.le_of_ble_eq_true rfl) rfl ?_
    exact e_iret rfl (Or.inl rfl)
  refine s_case (Option.map (fun t : Int => (M, cc, some (.int (yi t))))) (by decide) (fun h2 => ?_) (fun h2 => ?_)
  · refine e_ld (t := 2) rfl (Or.inr (Or.inl ⟨rfl, Or.inl rfl⟩)) rfl rfl ?_
    refine e_get (a := 0) (u := .ref 1) rfl rfl rfl (fun _ => rfl) ?_
    refine e_get (a := 1) (u := .ref 3) rfl rfl rfl (fun _ => rfl) ?_
    refine e_ld (t := 0) rfl (Or.inl ⟨rfl, Or.inl rfl⟩) rfl rfl ?_
    refine e_at (a := 3) (by omega) rfl (by decide) (Nat.le_of_ble_eq_true rfl) rfl ?_
    exact e_iret rfl (Or.inl rfl)
  refine s_case (Option.map (fun t : Int => (M, cc, some (.int (yi t))))) (by decide) (fun h3 => ?_) (fun h3 => ?_)
  · refine e_ld (t := 2) rfl (Or.inr (Or.inl ⟨rfl, Or.inl rfl⟩)) rfl rfl ?_
    refine e_get (a := 0) (u := .ref 1) rfl rfl rfl (fun _ => rfl) ?_
    refine e_get (a := 1) (u := .ref 4) rfl rfl rfl (fun _ => rfl) ?_
    refine e_ld (t := 0) rfl (Or.inl ⟨rfl, Or.inl rfl⟩) rfl rfl ?_
    refine e_at (a := 4) (by omega) rfl (by decide) (Nat.le_of_ble_eq_true rfl) rfl ?_
    exact e_iret rfl (Or.inl rfl)
  refine s_case (Option.map (fun t : Int => (M, cc, some (.int (yi t))))) (by decide) (fun h4 => ?_) (fun h4 => ?_)
  · refine e_ld (t := 2) rfl (Or.inr (Or.inl ⟨rfl, Or.inl rfl⟩)) rfl rfl ?_
    refine e_get (a := 0) (u := .ref 1) rfl rfl rfl (fun _ => rfl) ?_
    refine e_ld (t := 0) rfl (Or.inl ⟨rfl, Or.inl rfl⟩) rfl rfl ?_
    refine e_objO (h0 := (fun t : Int => (M, cc, some (.int (yi t))))) (h := (fun t : Int => (M, cc, some (.int (yi t))))) (a := 1) (as := [.int (yi x1)]) rfl (by decide) rfl (Nat.le_of_ble_eq_true rfl) rfl (t_112 (by omega)) (fun t5 => ?_)
    exact e_iret rfl (Or.inl rfl)
  refine s_end ?_
  refine e_ld (t := 2) rfl (Or.inr (Or.inl ⟨rfl, Or.inl rfl⟩)) rfl rfl ?_
  refine e_get (a := 0) (u := .ref 196) rfl rfl rfl (fun _ => rfl) ?_
  refine e_get (a := 196) (u := .ref (196 + 1)) rfl (fM (Or.inl rfl)) rfl (fun _ => rfl) ?_
  refine e_get (a := (196 + 1)) (u := .ref ((196 + 1) + 3)) rfl (fT (pT_M (Or.inl rfl))) rfl (fun _ => rfl) ?_
  refine e_ld (t := 0) rfl (Or.inl ⟨rfl, Or.inl rfl⟩) rfl rfl ?_
  refine e_at (a := ((196 + 1) + 3)) (by omega) rfl (by decide) (Nat.le_of_ble_eq_true rfl) (nT_3 (pT_M (Or.inl rfl))) ?_
  exact e_iret rfl (Or.inl rfl)
/-- UnwindTower.readMany -/
def f_27 (N : Nat) (M : yM) (x1 : Int) : Option (Int) := (cond (yrel 0 x1 0) (some (M 1 0)) (cond (yrel 0 x1 (0 + 1)) (some (M 1 4)) (cond (yrel 0 x1 (0 + 1 + 1)) (some (M 1 7)) (cond (yrel 0 x1 (0 + 1 + 1 + 1)) (Option.bind (f_113 N M) fun t5 => some t5) (cond (yrel 0 x1 (0 + 1 + 1 + 1 + 1)) (some (M 18 4)) (cond (yrel 0 x1 (0 + 1 + 1 + 1 + 1 + 1)) (Option.bind (f_15 N M) fun t8 => some t8) (cond (yrel 0 x1 (0 + 1 + 1 + 1 + 1 + 1 + 1)) (cond (yrel 5 (M 18 4) 0) (some (M 21 1)) (some 0)) (cond (yrel 0 x1 (0 + 1 + 1 + 1 + 1 + 1 + 1 + 1)) (some (M 0 9)) (cond (yrel 0 x1 (0 + 1 + 1 + 1 + 1 + 1 + 1 + 1 + 1)) (some (M 0 10)) (cond (yrel 0 (M 0 7) 0) (some 0) (some 1)))))))))))
theorem t_27 {sc : List Int32} {dd cc : Nat} {N : Nat} {M : yM} {x1 : Int} (hd : 4 ≤ dd) : yP sc dd 27 [.ref 0, .int (yi x1)] M cc ((Option.map (fun t : Int => (M, cc, some (.int (yi t))))) (f_27 N M x1)) := by
  obtain ⟨dd, rfl⟩ : ∃ e, dd = e + 1 := ⟨dd - 1, by omega⟩
  refine e_meth (C := zg_c27) (W := zg_w27) (ml := 2) rfl rfl (Nat.le_of_ble_eq_true rfl) ?_
  unfold f_27
  refine e_ld (t := 0) rfl (Or.inl ⟨rfl, Or.inl rfl⟩) rfl rfl ?_
  refine e_sw (lo' := 0) rfl rfl (by decide) ?_
  refine s_case (Option.map (fun t : Int => (M, cc, some (.int (yi t))))) (by decide) (fun h1 => ?_) (fun h1 => ?_)
  · refine e_ld (t := 2) rfl (Or.inr (Or.inl ⟨rfl, Or.inl rfl⟩)) rfl rfl ?_
    refine e_get (a := 0) (u := .ref 1) rfl rfl rfl (fun _ => rfl) ?_
    refine e_get (a := 1) (u := .int (yi (M 1 0))) rfl rfl rfl (fun _ => rfl) ?_
    exact e_iret rfl (Or.inl rfl)
  refine s_case (Option.map (fun t : Int => (M, cc, some (.int (yi t))))) (by decide) (fun h2 => ?_) (fun h2 => ?_)
  · refine e_ld (t := 2) rfl (Or.inr (Or.inl ⟨rfl, Or.inl rfl⟩)) rfl rfl ?_
    refine e_get (a := 0) (u := .ref 1) rfl rfl rfl (fun _ => rfl) ?_
    refine e_get (a := 1) (u := .int (yi (M 1 4))) rfl rfl rfl (fun _ => rfl) ?_
    exact e_iret rfl (Or.inl rfl)
  refine s_case (Option.map (fun t : Int => (M, cc, some (.int (yi t))))) (by decide) (fun h3 => ?_) (fun h3 => ?_)
  · refine e_ld (t := 2) rfl (Or.inr (Or.inl ⟨rfl, Or.inl rfl⟩)) rfl rfl ?_
    refine e_get (a := 0) (u := .ref 1) rfl rfl rfl (fun _ => rfl) ?_
    refine e_get (a := 1) (u := .int (yi (M 1 7))) rfl rfl rfl (fun _ => rfl) ?_
    exact e_iret rfl (Or.inl rfl)
  refine s_case (Option.map (fun t : Int => (M, cc, some (.int (yi t))))) (by decide) (fun h4 => ?_) (fun h4 => ?_)
  · refine e_ld (t := 2) rfl (Or.inr (Or.inl ⟨rfl, Or.inl rfl⟩)) rfl rfl ?_
    refine e_get (a := 0) (u := .ref 1) rfl rfl rfl (fun _ => rfl) ?_
    refine e_objO (h0 := (fun t : Int => (M, cc, some (.int (yi t))))) (h := (fun t : Int => (M, cc, some (.int (yi t))))) (a := 1) (as := []) rfl (by decide) rfl (Nat.le_of_ble_eq_true rfl) rfl (t_113 (by omega)) (fun t5 => ?_)
    exact e_iret rfl (Or.inl rfl)
  refine s_case (Option.map (fun t : Int => (M, cc, some (.int (yi t))))) (by decide) (fun h6 => ?_) (fun h6 => ?_)
  · refine e_ld (t := 2) rfl (Or.inr (Or.inl ⟨rfl, Or.inl rfl⟩)) rfl rfl ?_
    refine e_get (a := 0) (u := .ref 18) rfl rfl rfl (fun _ => rfl) ?_
    refine e_get (a := 18) (u := .int (yi (M 18 4))) rfl rfl rfl (fun _ => rfl) ?_
    exact e_iret rfl (Or.inl rfl)
  refine s_case (Option.map (fun t : Int => (M, cc, some (.int (yi t))))) (by decide) (fun h7 => ?_) (fun h7 => ?_)
  · refine e_ld (t := 2) rfl (Or.inr (Or.inl ⟨rfl, Or.inl rfl⟩)) rfl rfl ?_
    refine e_objO (h0 := (fun t : Int => (M, cc, some (.int (yi t))))) (h := (fun t : Int => (M, cc, some (.int (yi t))))) (a := 0) (as := []) rfl (by decide) rfl (Nat.le_of_ble_eq_true rfl) rfl (t_15 (by omega)) (fun t8 => ?_)
    exact e_iret rfl (Or.inl rfl)
  refine s_case (Option.map (fun t : Int => (M, cc, some (.int (yi t))))) (by decide) (fun h9 => ?_) (fun h9 => ?_)
  · refine e_ld (t := 2) rfl (Or.inr (Or.inl ⟨rfl, Or.inl rfl⟩)) rfl rfl ?_
    refine e_get (a := 0) (u := .ref 18) rfl rfl rfl (fun _ => rfl) ?_
    refine e_get (a := 18) (u := .int (yi (M 18 4))) rfl rfl rfl (fun _ => rfl) ?_
    refine e_br (Option.map (fun t : Int => (M, cc, some (.int (yi t))))) (q := 5) (by decide) rfl (fun h10 => ?_) (fun h10 => ?_)
    · refine e_ld (t := 2) rfl (Or.inr (Or.inl ⟨rfl, Or.inl rfl⟩)) rfl rfl ?_
      refine e_get (a := 0) (u := .ref 21) rfl rfl rfl (fun _ => rfl) ?_
      refine e_get (a := 21) (u := .int (yi (M 21 1))) rfl rfl rfl (fun _ => rfl) ?_
      exact e_iret rfl (Or.inl rfl)
    · refine e_ic (b := 0) rfl (by decide) (by decide) ?_
      refine e_go rfl ?_
      exact e_iret rfl (Or.inl rfl)
  refine s_case (Option.map (fun t : Int => (M, cc, some (.int (yi t))))) (by decide) (fun h11 => ?_) (fun h11 => ?_)
  · refine e_ld (t := 2) rfl (Or.inr (Or.inl ⟨rfl, Or.inl rfl⟩)) rfl rfl ?_
    refine e_get (a := 0) (u := .int (yi (M 0 9))) rfl rfl rfl (fun _ => rfl) ?_
    exact e_iret rfl (Or.inl rfl)
  refine s_case (Option.map (fun t : Int => (M, cc, some (.int (yi t))))) (by decide) (fun h12 => ?_) (fun h12 => ?_)
  · refine e_ld (t := 2) rfl (Or.inr (Or.inl ⟨rfl, Or.inl rfl⟩)) rfl rfl ?_
    refine e_get (a := 0) (u := .int (yi (M 0 10))) rfl rfl rfl (fun _ => rfl) ?_
    exact e_iret rfl (Or.inl rfl)
  refine s_end ?_
  refine e_ld (t := 2) rfl (Or.inr (Or.inl ⟨rfl, Or.inl rfl⟩)) rfl rfl ?_
  refine e_get (a := 0) (u := .int (yi (M 0 7))) rfl rfl rfl (fun _ => rfl) ?_
  refine e_br (Option.map (fun t : Int => (M, cc, some (.int (yi t))))) (q := 0) (by decide) rfl (fun h13 => ?_) (fun h13 => ?_)
  · refine e_ic (b := 0) rfl (by decide) (by decide) ?_
    exact e_iret rfl (Or.inl rfl)
  · refine e_ic (b := 1) rfl (by decide) (by decide) ?_
    refine e_go rfl ?_
    exact e_iret rfl (Or.inl rfl)
/-- UnwindTower.suppressed -/
def f_34_28 (N : Nat) : Nat → yM → Int → Nat → Int → Int → Option (Int)
  | 0, _, _, _, _, _ => none
  | n + 1, M, x2, r3, x4, x5 => (cond (yrel 3 x5 x2) (some (yrd M (r3 + 10) x4)) (ylet (yrd M (r3 + 11) x4) fun v6 => (f_34_28 N n M x2 r3 v6 (x5 + 1))))
theorem t_34_28 {sc : List Int32} {dd cc : Nat} {N : Nat} (hd : 1 ≤ dd) : ∀ (n : Nat) {M : yM} {x2 : Int} {r3 : Nat} {x4 : Int} {x5 : Int} (hr3 : pT r3) {L : zL} (hL2 : L 2 = some (.int (yi x2))) (hL3 : L 3 = some (.ref r3)) (hL4 : L 4 = some (.int (yi x4))) (hL5 : L 5 = some (.int (yi x5))), yW sc zg_c34 zg_w34 dd 28 L [] M cc ((Option.map (fun t : Int => (M, cc, some (.int (yi t))))) (f_34_28 N n M x2 r3 x4 x5)) := by
  intro n
  induction n with
  | zero => intros; exact y_none
  | succ n IH =>
    intro M x2 r3 x4 x5 hr3 L hL2 hL3 hL4 hL5
    rw [f_34_28]
    refine e_ld (t := 0) rfl (Or.inl ⟨rfl, Or.inr rfl⟩) hL5 rfl ?_
    refine e_ld (t := 0) rfl (Or.inl ⟨rfl, Or.inl rfl⟩) hL2 rfl ?_
    refine e_cmp (Option.map (fun t : Int => (M, cc, some (.int (yi t))))) (q := 3) (by decide) rfl (fun h5 => ?_) (fun h5 => ?_)
    · refine e_ld (t := 2) rfl (Or.inr (Or.inl ⟨rfl, Or.inl rfl⟩)) hL3 rfl ?_
      refine e_get (a := r3) (u := .ref (r3 + 10)) rfl (fT hr3) rfl (fun _ => rfl) ?_
      refine e_ld (t := 0) rfl (Or.inl ⟨rfl, Or.inr rfl⟩) hL4 rfl ?_
      refine e_at (a := (r3 + 10)) (by omega) rfl (by decide) (Nat.le_of_ble_eq_true rfl) (nT_10 hr3) ?_
      exact e_iret rfl (Or.inl rfl)
    · refine e_ld (t := 2) rfl (Or.inr (Or.inl ⟨rfl, Or.inl rfl⟩)) hL3 rfl ?_
      refine e_get (a := r3) (u := .ref (r3 + 11)) rfl (fT hr3) rfl (fun _ => rfl) ?_
      refine e_ld (t := 0) rfl (Or.inl ⟨rfl, Or.inr rfl⟩) hL4 rfl ?_
      refine e_at (a := (r3 + 11)) (by omega) rfl (by decide) (Nat.le_of_ble_eq_true rfl) (nT_11 hr3) ?_
      refine e_stl (g := (Option.map (fun t : Int => (M, cc, some (.int (yi t)))))) rfl (Or.inr rfl) (fun v6 => ?_)
      refine e_inc (d := 1) rfl (l_ki (by decide) hL5) (by decide) ?_
      refine e_go rfl ?_
      exact IH hr3 (l_ki (by decide) (l_ki (by decide) hL2)) (l_kr (by decide) (l_kr (by decide) hL3)) (l_ki (by decide) l_s) l_s
def f_34 (N : Nat) (M : yM) (x1 : Int) (x2 : Int) : Option (Int) := (cond (yrel 0 (f_146 M (196 + 1) x1) 0) none (cond (yrel 2 x2 0) none (cond (yrel 2 x2 (yrd M ((196 + 1) + 7) x1)) (ylet (yrd M ((196 + 1) + 8) x1) fun v4 => (f_34_28 N N M x2 (196 + 1) v4 0)) none)))
theorem t_34 {sc : List Int32} {dd cc : Nat} {N : Nat} {M : yM} {x1 : Int} {x2 : Int} (hd : 2 ≤ dd) : yP sc dd 34 [.ref 0, .int (yi x1), .int (yi x2)] M cc ((Option.map (fun t : Int => (M, cc, some (.int (yi t))))) (f_34 N M x1 x2)) := by
  obtain ⟨dd, rfl⟩ : ∃ e, dd = e + 1 := ⟨dd - 1, by omega⟩
  refine e_meth (C := zg_c34) (W := zg_w34) (ml := 6) rfl rfl (Nat.le_of_ble_eq_true rfl) ?_
  unfold f_34
  refine e_ld (t := 2) rfl (Or.inr (Or.inl ⟨rfl, Or.inl rfl⟩)) rfl rfl ?_
  refine e_get (a := 0) (u := .ref 196) rfl rfl rfl (fun _ => rfl) ?_
  refine e_get (a := 196) (u := .ref (196 + 1)) rfl (fM (Or.inl rfl)) rfl (fun _ => rfl) ?_
  refine e_st (t := 2) rfl (Or.inr ⟨rfl, Or.inl rfl⟩) rfl ?_
  refine e_ld (t := 2) rfl (Or.inr (Or.inl ⟨rfl, Or.inl rfl⟩)) l_s rfl ?_
  refine e_ld (t := 0) rfl (Or.inl ⟨rfl, Or.inl rfl⟩) (l_ki (by decide) rfl) rfl ?_
  refine e_obj (M1 := M) (cc1 := cc) (v1 := some (.int (yi (f_146 M (196 + 1) x1)))) (a := (196 + 1)) (as := [.int (yi x1)]) rfl (by decide) rfl (Nat.le_of_ble_eq_true rfl) (fT (pT_M (Or.inl rfl))) (t_146 (by omega) (pT_M (Or.inl rfl))) ?_
  refine e_br (Option.map (fun t : Int => (M, cc, some (.int (yi t))))) (q := 0) (by decide) rfl (fun h1 => ?_) (fun h1 => ?_)
  · exact y_none
  · refine e_ld (t := 0) rfl (Or.inl ⟨rfl, Or.inl rfl⟩) (l_ki (by decide) rfl) rfl ?_
    refine e_br (Option.map (fun t : Int => (M, cc, some (.int (yi t))))) (q := 2) (by decide) rfl (fun h2 => ?_) (fun h2 => ?_)
    · exact y_none
    · refine e_ld (t := 0) rfl (Or.inl ⟨rfl, Or.inl rfl⟩) (l_ki (by decide) rfl) rfl ?_
      refine e_ld (t := 2) rfl (Or.inr (Or.inl ⟨rfl, Or.inl rfl⟩)) l_s rfl ?_
      refine e_get (a := (196 + 1)) (u := .ref ((196 + 1) + 7)) rfl (fT (pT_M (Or.inl rfl))) rfl (fun _ => rfl) ?_
      refine e_ld (t := 0) rfl (Or.inl ⟨rfl, Or.inl rfl⟩) (l_ki (by decide) rfl) rfl ?_
      refine e_at (a := ((196 + 1) + 7)) (by omega) rfl (by decide) (Nat.le_of_ble_eq_true rfl) (nT_7 (pT_M (Or.inl rfl))) ?_
      refine e_cmp (Option.map (fun t : Int => (M, cc, some (.int (yi t))))) (q := 2) (by decide) rfl (fun h3 => ?_) (fun h3 => ?_)
      · refine e_ld (t := 2) rfl (Or.inr (Or.inl ⟨rfl, Or.inl rfl⟩)) l_s rfl ?_
        refine e_get (a := (196 + 1)) (u := .ref ((196 + 1) + 8)) rfl (fT (pT_M (Or.inl rfl))) rfl (fun _ => rfl) ?_
        refine e_ld (t := 0) rfl (Or.inl ⟨rfl, Or.inl rfl⟩) (l_ki (by decide) rfl) rfl ?_
        refine e_at (a := ((196 + 1) + 8)) (by omega) rfl (by decide) (Nat.le_of_ble_eq_true rfl) (nT_8 (pT_M (Or.inl rfl))) ?_
        refine e_stl (g := (Option.map (fun t : Int => (M, cc, some (.int (yi t)))))) rfl (Or.inr rfl) (fun v4 => ?_)
        refine e_ic (b := 0) rfl (by decide) (by decide) ?_
        refine e_st (t := 0) rfl (Or.inl ⟨rfl, Or.inr rfl⟩) rfl ?_
        exact t_34_28 (by omega) N (pT_M (Or.inl rfl)) (l_ki (by decide) (l_ki (by decide) (l_ki (by decide) rfl))) (l_kr (by decide) (l_kr (by decide) l_s)) (l_ki (by decide) l_s) l_s
      · exact y_none
/-- UnwindTower.tell -/
def f_35 (M : yM) (x1 : Int) (x2 : Int) : Option (yM × Int) := (cond (yrel 1 (f_119 M x1) 0) (cond (yrel 1 (f_127 M x2) 0) (ylet (yrd M 5 x1) fun v3 => (ylet (ywr M 5 x1 x2) fun M4 => (ylet (yU M4 0 8 1) fun M5 => some (M5, v3)))) none) none)
theorem t_35 {sc : List Int32} {dd cc : Nat} {M : yM} {x1 : Int} {x2 : Int} (hd : 2 ≤ dd) : yP sc dd 35 [.ref 0, .int (yi x1), .int (yi x2)] M cc ((Option.map (fun t : yM × Int => (t.1, cc, some (.int (yi t.2))))) (f_35 M x1 x2)) := by
  obtain ⟨dd, rfl⟩ : ∃ e, dd = e + 1 := ⟨dd - 1, by omega⟩
  refine e_meth (C := zg_c35) (W := zg_w35) (ml := 4) rfl rfl (Nat.le_of_ble_eq_true rfl) ?_
  unfold f_35
  refine e_ld (t := 2) rfl (Or.inr (Or.inl ⟨rfl, Or.inl rfl⟩)) rfl rfl ?_
  refine e_get (a := 0) (u := .ref 1) rfl rfl rfl (fun _ => rfl) ?_
  refine e_ld (t := 0) rfl (Or.inl ⟨rfl, Or.inl rfl⟩) rfl rfl ?_
  refine e_obj (M1 := M) (cc1 := cc) (v1 := some (.int (yi (f_119 M x1)))) (a := 1) (as := [.int (yi x1)]) rfl (by decide) rfl (Nat.le_of_ble_eq_true rfl) rfl (t_119 (by omega)) ?_
  refine e_br (Option.map (fun t : yM × Int => (t.1, cc, some (.int (yi t.2))))) (q := 1) (by decide) rfl (fun h1 => ?_) (fun h1 => ?_)
  · refine e_ld (t := 2) rfl (Or.inr (Or.inl ⟨rfl, Or.inl rfl⟩)) rfl rfl ?_
    refine e_get (a := 0) (u := .ref 1) rfl rfl rfl (fun _ => rfl) ?_
    refine e_ld (t := 0) rfl (Or.inl ⟨rfl, Or.inl rfl⟩) rfl rfl ?_
    refine e_obj (M1 := M) (cc1 := cc) (v1 := some (.int (yi (f_127 M x2)))) (a := 1) (as := [.int (yi x2)]) rfl (by decide) rfl (Nat.le_of_ble_eq_true rfl) rfl (t_127 (by omega)) ?_
    refine e_br (Option.map (fun t : yM × Int => (t.1, cc, some (.int (yi t.2))))) (q := 1) (by decide) rfl (fun h2 => ?_) (fun h2 => ?_)
    · refine e_ld (t := 2) rfl (Or.inr (Or.inl ⟨rfl, Or.inl rfl⟩)) rfl rfl ?_
      refine e_get (a := 0) (u := .ref 1) rfl rfl rfl (fun _ => rfl) ?_
      refine e_get (a := 1) (u := .ref 5) rfl rfl rfl (fun _ => rfl) ?_
      refine e_ld (t := 0) rfl (Or.inl ⟨rfl, Or.inl rfl⟩) rfl rfl ?_
      refine e_at (a := 5) (by omega) rfl (by decide) (Nat.le_of_ble_eq_true rfl) rfl ?_
      refine e_stl (g := (Option.map (fun t : yM × Int => (t.1, cc, some (.int (yi t.2)))))) rfl (Or.inl rfl) (fun v3 => ?_)
      refine e_ld (t := 2) rfl (Or.inr (Or.inl ⟨rfl, Or.inl rfl⟩)) (l_kr (by decide) rfl) rfl ?_
      refine e_get (a := 0) (u := .ref 1) rfl rfl rfl (fun _ => rfl) ?_
      refine e_get (a := 1) (u := .ref 5) rfl rfl rfl (fun _ => rfl) ?_
      refine e_ld (t := 0) rfl (Or.inl ⟨rfl, Or.inl rfl⟩) (l_ki (by decide) rfl) rfl ?_
      refine e_ld (t := 0) rfl (Or.inl ⟨rfl, Or.inl rfl⟩) (l_ki (by decide) rfl) rfl ?_
      refine e_wr (a := 5) (by omega) rfl (by decide) (Nat.le_of_ble_eq_true rfl) rfl ?_
      refine y_let (Option.map (fun t : yM × Int => (t.1, cc, some (.int (yi t.2))))) (fun M4 => ?_)
      refine e_ld (t := 2) rfl (Or.inr (Or.inl ⟨rfl, Or.inl rfl⟩)) (l_kr (by decide) rfl) rfl ?_
      refine e_ic (b := 1) rfl (by decide) (by decide) ?_
      refine e_put (a := 0) rfl (Or.inl rfl) rfl rfl (Or.inr ⟨rfl, Or.inr rfl⟩) ?_
      refine y_let (Option.map (fun t : yM × Int => (t.1, cc, some (.int (yi t.2))))) (fun M5 => ?_)
      refine e_ld (t := 0) rfl (Or.inl ⟨rfl, Or.inl rfl⟩) l_s rfl ?_
      exact e_iret rfl (Or.inl rfl)
    · exact y_none
  · exact y_none
/-- UnwindTower.trace -/
def f_36 (M : yM) (x1 : Int) (x2 : Int) : Option (Int) := (cond (yrel 0 (f_146 M (196 + 1) x1) 0) none (cond (yrel 2 x2 0) none (cond (yrel 2 x2 (yrd M ((196 + 1) + 5) x1)) (some (f_149 M (196 + 1) x1 x2)) none)))
theorem t_36 {sc : List Int32} {dd cc : Nat} {M : yM} {x1 : Int} {x2 : Int} (hd : 3 ≤ dd) : yP sc dd 36 [.ref 0, .int (yi x1), .int (yi x2)] M cc ((Option.map (fun t : Int => (M, cc, some (.int (yi t))))) (f_36 M x1 x2)) := by
  obtain ⟨dd, rfl⟩ : ∃ e, dd = e + 1 := ⟨dd - 1, by omega⟩
  refine e_meth (C := zg_c36) (W := zg_w36) (ml := 4) rfl rfl (Nat.le_of_ble_eq_true rfl) ?_
  unfold f_36
  refine e_ld (t := 2) rfl (Or.inr (Or.inl ⟨rfl, Or.inl rfl⟩)) rfl rfl ?_
  refine e_get (a := 0) (u := .ref 196) rfl rfl rfl (fun _ => rfl) ?_
  refine e_get (a := 196) (u := .ref (196 + 1)) rfl (fM (Or.inl rfl)) rfl (fun _ => rfl) ?_
  refine e_st (t := 2) rfl (Or.inr ⟨rfl, Or.inl rfl⟩) rfl ?_
  refine e_ld (t := 2) rfl (Or.inr (Or.inl ⟨rfl, Or.inl rfl⟩)) l_s rfl ?_
  refine e_ld (t := 0) rfl (Or.inl ⟨rfl, Or.inl rfl⟩) (l_ki (by decide) rfl) rfl ?_
  refine e_obj (M1 := M) (cc1 := cc) (v1 := some (.int (yi (f_146 M (196 + 1) x1)))) (a := (196 + 1)) (as := [.int (yi x1)]) rfl (by decide) rfl (Nat.le_of_ble_eq_true rfl) (fT (pT_M (Or.inl rfl))) (t_146 (by omega) (pT_M (Or.inl rfl))) ?_
  refine e_br (Option.map (fun t : Int => (M, cc, some (.int (yi t))))) (q := 0) (by decide) rfl (fun h1 => ?_) (fun h1 => ?_)
  · exact y_none
  · refine e_ld (t := 0) rfl (Or.inl ⟨rfl, Or.inl rfl⟩) (l_ki (by decide) rfl) rfl ?_
    refine e_br (Option.map (fun t : Int => (M, cc, some (.int (yi t))))) (q := 2) (by decide) rfl (fun h2 => ?_) (fun h2 => ?_)
    · exact y_none
    · refine e_ld (t := 0) rfl (Or.inl ⟨rfl, Or.inl rfl⟩) (l_ki (by decide) rfl) rfl ?_
      refine e_ld (t := 2) rfl (Or.inr (Or.inl ⟨rfl, Or.inl rfl⟩)) l_s rfl ?_
      refine e_get (a := (196 + 1)) (u := .ref ((196 + 1) + 5)) rfl (fT (pT_M (Or.inl rfl))) rfl (fun _ => rfl) ?_
      refine e_ld (t := 0) rfl (Or.inl ⟨rfl, Or.inl rfl⟩) (l_ki (by decide) rfl) rfl ?_
      refine e_at (a := ((196 + 1) + 5)) (by omega) rfl (by decide) (Nat.le_of_ble_eq_true rfl) (nT_5 (pT_M (Or.inl rfl))) ?_
      refine e_cmp (Option.map (fun t : Int => (M, cc, some (.int (yi t))))) (q := 2) (by decide) rfl (fun h3 => ?_) (fun h3 => ?_)
      · refine e_ld (t := 2) rfl (Or.inr (Or.inl ⟨rfl, Or.inl rfl⟩)) l_s rfl ?_
        refine e_ld (t := 0) rfl (Or.inl ⟨rfl, Or.inl rfl⟩) (l_ki (by decide) rfl) rfl ?_
        refine e_ld (t := 0) rfl (Or.inl ⟨rfl, Or.inl rfl⟩) (l_ki (by decide) rfl) rfl ?_
        refine e_obj (M1 := M) (cc1 := cc) (v1 := some (.int (yi (f_149 M (196 + 1) x1 x2)))) (a := (196 + 1)) (as := [.int (yi x1), .int (yi x2)]) rfl (by decide) rfl (Nat.le_of_ble_eq_true rfl) (fT (pT_M (Or.inl rfl))) (t_149 (by omega) (pT_M (Or.inl rfl))) ?_
        exact e_iret rfl (Or.inl rfl)
      · exact y_none
/-- UnwindTower$Compiler.inner -/
def f_48 (M : yM) (x1 : Int) (x2 : Int) : yM := (ylet (f_102 M (105 + 1 * ypz 91 (x2 + 1)) (105 + 1 * ypz 91 x1)) fun t1 => t1)
theorem t_48 {sc : List Int32} {dd cc : Nat} {M : yM} {x1 : Int} {x2 : Int} (hd : 2 ≤ dd) : yP sc dd 48 [.ref 96, .int (yi x1), .int (yi x2)] M cc (some ((f_48 M x1 x2), cc, some (.ref (105 + 1 * ypz 91 (x2 + 1))))) := by
  obtain ⟨dd, rfl⟩ : ∃ e, dd = e + 1 := ⟨dd - 1, by omega⟩
  refine e_meth (C := zg_c48) (W := zg_w48) (ml := 4) rfl rfl (Nat.le_of_ble_eq_true rfl) ?_
  unfold f_48
  refine e_ld (t := 2) rfl (Or.inr (Or.inl ⟨rfl, Or.inl rfl⟩)) rfl rfl ?_
  refine e_ld (t := 0) rfl (Or.inl ⟨rfl, Or.inl rfl⟩) rfl rfl ?_
  refine e_ic (b := 1) rfl (by decide) (by decide) ?_
  refine e_add rfl ?_
  refine e_obj (a := 96) (as := [.int (yi (x2 + 1))]) rfl (by decide) rfl (Nat.le_of_ble_eq_true rfl) rfl (t_68 (by omega)) ?_
  refine e_st (t := 2) rfl (Or.inr ⟨rfl, Or.inl rfl⟩) rfl ?_
  refine e_ld (t := 2) rfl (Or.inr (Or.inl ⟨rfl, Or.inl rfl⟩)) l_s rfl ?_
  refine e_ld (t := 2) rfl (Or.inr (Or.inl ⟨rfl, Or.inl rfl⟩)) (l_kr (by decide) rfl) rfl ?_
  refine e_ld (t := 0) rfl (Or.inl ⟨rfl, Or.inl rfl⟩) (l_ki (by decide) rfl) rfl ?_
  refine e_obj (a := 96) (as := [.int (yi x1)]) rfl (by decide) rfl (Nat.le_of_ble_eq_true rfl) rfl (t_68 (by omega)) ?_
  refine e_objP (fun t : yM => some (t, cc, some (.ref (105 + 1 * ypz 91 (x2 + 1))))) (h0 := (fun t : yM => (t, cc, none))) (a := (105 + 1 * ypz 91 (x2 + 1))) (as := [.ref (105 + 1 * ypz 91 x1)]) rfl (by decide) rfl (Nat.le_of_ble_eq_true rfl) (fP ⟨_, ypz_lt (by decide), rfl⟩) (t_102 (by omega) ⟨_, ypz_lt (by decide), rfl⟩ ⟨_, ypz_lt (by decide), rfl⟩) (fun t1 => ?_)
  refine e_ld (t := 2) rfl (Or.inr (Or.inl ⟨rfl, Or.inl rfl⟩)) l_s rfl ?_
  exact e_aret rfl
/-- UnwindTower$Compiler.layCatchRows -/
def f_53_8 (N : Nat) (cc : Nat) : Nat → yM → Int → Int → Int → Int → Int → Option (yM)
  | 0, _, _, _, _, _, _ => none
  | n + 1, M, x2, x3, x4, x5, x6 => (cond (yrel 2 x5 0) (some M) (cond (yrel 5 x6 0) (some M) (Option.bind (f_61 N cc M x3 x4 x2 (yrd M 103 x5) (yrd M 8 x5)) fun t4 => (ylet (yrd t4 10 x5) fun v5 => (f_53_8 N cc n t4 x2 x3 x4 v5 (x6 + (-1)))))))
theorem t_53_8 {sc : List Int32} {dd cc : Nat} {N : Nat} (hd : 4 ≤ dd) (hcc : pC cc) : ∀ (n : Nat) {M : yM} {x2 : Int} {x3 : Int} {x4 : Int} {x5 : Int} {x6 : Int} {L : zL} (hL0 : L 0 = some (.ref 96)) (hL2 : L 2 = some (.int (yi x2))) (hL3 : L 3 = some (.int (yi x3))) (hL4 : L 4 = some (.int (yi x4))) (hL5 : L 5 = some (.int (yi x5))) (hL6 : L 6 = some (.int (yi x6))), yW sc zg_c53 zg_w53 dd 8 L [] M cc ((Option.map (fun t : yM => (t, cc, none))) (f_53_8 N cc n M x2 x3 x4 x5 x6)) := by
  intro n
  induction n with
  | zero => intros; exact y_none
  | succ n IH =>
    intro M x2 x3 x4 x5 x6 L hL0 hL2 hL3 hL4 hL5 hL6
    rw [f_53_8]
    refine e_ld (t := 0) rfl (Or.inl ⟨rfl, Or.inr rfl⟩) hL5 rfl ?_
    refine e_br (Option.map (fun t : yM => (t, cc, none))) (q := 2) (by decide) rfl (fun h2 => ?_) (fun h2 => ?_)
    · exact e_vret rfl
    · refine e_ld (t := 0) rfl (Or.inl ⟨rfl, Or.inr rfl⟩) hL6 rfl ?_
      refine e_br (Option.map (fun t : yM => (t, cc, none))) (q := 5) (by decide) rfl (fun h3 => ?_) (fun h3 => ?_)
      · exact e_vret rfl
      · refine e_ld (t := 2) rfl (Or.inr (Or.inl ⟨rfl, Or.inl rfl⟩)) hL0 rfl ?_
        refine e_ld (t := 0) rfl (Or.inl ⟨rfl, Or.inl rfl⟩) hL3 rfl ?_
        refine e_ld (t := 0) rfl (Or.inl ⟨rfl, Or.inr rfl⟩) hL4 rfl ?_
        refine e_ld (t := 0) rfl (Or.inl ⟨rfl, Or.inl rfl⟩) hL2 rfl ?_
        refine e_ld (t := 2) rfl (Or.inr (Or.inl ⟨rfl, Or.inl rfl⟩)) hL0 rfl ?_
        refine e_get (a := 96) (u := .ref 103) rfl rfl rfl (fun _ => rfl) ?_
        refine e_ld (t := 0) rfl (Or.inl ⟨rfl, Or.inr rfl⟩) hL5 rfl ?_
        refine e_at (a := 103) (by omega) rfl (by decide) (Nat.le_of_ble_eq_true rfl) rfl ?_
        refine e_ld (t := 2) rfl (Or.inr (Or.inl ⟨rfl, Or.inl rfl⟩)) hL0 rfl ?_
        refine e_get (a := 96) (u := .ref 1) rfl rfl rfl (fun _ => rfl) ?_
        refine e_get (a := 1) (u := .ref 8) rfl rfl rfl (fun _ => rfl) ?_
        refine e_ld (t := 0) rfl (Or.inl ⟨rfl, Or.inr rfl⟩) hL5 rfl ?_
        refine e_at (a := 8) (by omega) rfl (by decide) (Nat.le_of_ble_eq_true rfl) rfl ?_
        refine e_objO (h0 := (fun t : yM => (t, cc, none))) (h := (fun t : yM => (t, cc, none))) (a := 96) (as := [.int (yi x3), .int (yi x4), .int (yi x2), .int (yi (yrd M 103 x5)), .int (yi (yrd M 8 x5))]) rfl (by decide) rfl (Nat.le_of_ble_eq_true rfl) rfl (t_61 (by omega) hcc) (fun t4 => ?_)
        refine e_ld (t := 2) rfl (Or.inr (Or.inl ⟨rfl, Or.inl rfl⟩)) hL0 rfl ?_
        refine e_get (a := 96) (u := .ref 1) rfl rfl rfl (fun _ => rfl) ?_
        refine e_get (a := 1) (u := .ref 10) rfl rfl rfl (fun _ => rfl) ?_
        refine e_ld (t := 0) rfl (Or.inl ⟨rfl, Or.inr rfl⟩) hL5 rfl ?_
        refine e_at (a := 10) (by omega) rfl (by decide) (Nat.le_of_ble_eq_true rfl) rfl ?_
        refine e_stl (g := (Option.map (fun t : yM => (t, cc, none)))) rfl (Or.inr rfl) (fun v5 => ?_)
        refine e_inc (d := (-1)) rfl (l_ki (by decide) hL6) (by decide) ?_
        refine e_go rfl ?_
        exact IH (l_kr (by decide) (l_kr (by decide) hL0)) (l_ki (by decide) (l_ki (by decide) hL2)) (l_ki (by decide) (l_ki (by decide) hL3)) (l_ki (by decide) (l_ki (by decide) hL4)) (l_ki (by decide) l_s) l_s
def f_53 (N : Nat) (cc : Nat) (M : yM) (x1 : Int) (x2 : Int) (x3 : Int) (x4 : Int) : Option (yM) := (ylet (yrd M 10 x1) fun v1 => (f_53_8 N cc N M x2 x3 x4 v1 90))
theorem t_53 {sc : List Int32} {dd cc : Nat} {N : Nat} {M : yM} {x1 : Int} {x2 : Int} {x3 : Int} {x4 : Int} (hd : 5 ≤ dd) (hcc : pC cc) : yP sc dd 53 [.ref 96, .int (yi x1), .int (yi x2), .int (yi x3), .int (yi x4)] M cc ((Option.map (fun t : yM => (t, cc, none))) (f_53 N cc M x1 x2 x3 x4)) := by
  obtain ⟨dd, rfl⟩ : ∃ e, dd = e + 1 := ⟨dd - 1, by omega⟩
  refine e_meth (C := zg_c53) (W := zg_w53) (ml := 7) rfl rfl (Nat.le_of_ble_eq_true rfl) ?_
  unfold f_53
  refine e_ld (t := 2) rfl (Or.inr (Or.inl ⟨rfl, Or.inl rfl⟩)) rfl rfl ?_
  refine e_get (a := 96) (u := .ref 1) rfl rfl rfl (fun _ => rfl) ?_
  refine e_get (a := 1) (u := .ref 10) rfl rfl rfl (fun _ => rfl) ?_
  refine e_ld (t := 0) rfl (Or.inl ⟨rfl, Or.inl rfl⟩) rfl rfl ?_
  refine e_at (a := 10) (by omega) rfl (by decide) (Nat.le_of_ble_eq_true rfl) rfl ?_
  refine e_stl (g := (Option.map (fun t : yM => (t, cc, none)))) rfl (Or.inr rfl) (fun v1 => ?_)
  refine e_ic (b := 90) rfl (by decide) (by decide) ?_
  refine e_st (t := 0) rfl (Or.inl ⟨rfl, Or.inr rfl⟩) rfl ?_
  exact t_53_8 (by omega) hcc N (l_kr (by decide) (l_kr (by decide) rfl)) (l_ki (by decide) (l_ki (by decide) rfl)) (l_ki (by decide) (l_ki (by decide) rfl)) (l_ki (by decide) (l_ki (by decide) rfl)) (l_ki (by decide) l_s) l_s
