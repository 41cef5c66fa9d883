/-! methods as functions of the numbers, with their ties (0) -/
/-- UnwindTower.areLimits -/
def f_1 (M : yM) (x0 : Int) (x1 : Int) : Int := (cond (yrel 2 x0 1) 0 (cond (yrel 4 x0 3000) 0 (cond (yrel 2 x1 1) 0 (cond (yrel 4 x1 30) 0 1))))
theorem b_1 {M : yM} {x0 : Int} {x1 : Int} : f_1 M x0 x1 = 0 ∨ f_1 M x0 x1 = 1 := (zb_cond (Or.inl rfl) ((zb_cond (Or.inl rfl) ((zb_cond (Or.inl rfl) ((zb_cond (Or.inl rfl) (Or.inr rfl))))))))
theorem t_1 {sc : List Int32} {dd cc : Nat} {M : yM} {x0 : Int} {x1 : Int} (hd : 1 ≤ dd) : yP sc dd 1 [.int (yi x0), .int (yi x1)] M cc (some (M, cc, some (.int (yi (f_1 M x0 x1))))) := by
  obtain ⟨dd, rfl⟩ : ∃ e, dd = e + 1 := ⟨dd - 1, by omega⟩
  refine e_meth (C := zg_c1) (W := zg_w1) (ml := 2) rfl rfl (Nat.le_of_ble_eq_true rfl) ?_
  unfold f_1
  refine e_ld (t := 0) rfl (Or.inl ⟨rfl, Or.inl rfl⟩) rfl rfl ?_
  refine e_ic (b := 1) rfl (by decide) (by decide) ?_
  refine e_cmp (fun t : Int => some (M, cc, some (.int (yi t)))) (q := 2) (by decide) rfl (fun h1 => ?_) (fun h1 => ?_)
  · refine e_ic (b := 0) rfl (by decide) (by decide) ?_
    exact e_iret rfl (Or.inr ⟨rfl, Or.inl rfl⟩)
  · refine e_ld (t := 0) rfl (Or.inl ⟨rfl, Or.inl rfl⟩) rfl rfl ?_
    refine e_ic (b := 3000) rfl (by decide) (by decide) ?_
    refine e_cmp (fun t : Int => some (M, cc, some (.int (yi t)))) (q := 4) (by decide) rfl (fun h2 => ?_) (fun h2 => ?_)
    · refine e_ic (b := 0) rfl (by decide) (by decide) ?_
      exact e_iret rfl (Or.inr ⟨rfl, Or.inl rfl⟩)
    · refine e_ld (t := 0) rfl (Or.inl ⟨rfl, Or.inl rfl⟩) rfl rfl ?_
      refine e_ic (b := 1) rfl (by decide) (by decide) ?_
      refine e_cmp (fun t : Int => some (M, cc, some (.int (yi t)))) (q := 2) (by decide) rfl (fun h3 => ?_) (fun h3 => ?_)
      · refine e_ic (b := 0) rfl (by decide) (by decide) ?_
        exact e_iret rfl (Or.inr ⟨rfl, Or.inl rfl⟩)
      · refine e_ld (t := 0) rfl (Or.inl ⟨rfl, Or.inl rfl⟩) rfl rfl ?_
        refine e_ic (b := 30) rfl (by decide) (by decide) ?_
        refine e_cmp (fun t : Int => some (M, cc, some (.int (yi t)))) (q := 4) (by decide) rfl (fun h4 => ?_) (fun h4 => ?_)
        · refine e_ic (b := 0) rfl (by decide) (by decide) ?_
          exact e_iret rfl (Or.inr ⟨rfl, Or.inl rfl⟩)
        · refine e_ic (b := 1) rfl (by decide) (by decide) ?_
          refine e_go rfl ?_
          exact e_iret rfl (Or.inr ⟨rfl, Or.inr rfl⟩)
/-- UnwindTower.lengthOf -/
def f_14 (M : yM) (x1 : Int) : Int := (cond (yrel 5 (M 18 4) 0) (M (24 + 9 * ypz 8 x1) 0) 0)
theorem t_14 {sc : List Int32} {dd cc : Nat} {M : yM} {x1 : Int} (hd : 2 ≤ dd) : yP sc dd 14 [.ref 0, .int (yi x1)] M cc (some (M, cc, some (.int (yi (f_14 M x1))))) := by
  obtain ⟨dd, rfl⟩ : ∃ e, dd = e + 1 := ⟨dd - 1, by omega⟩
  refine e_meth (C := zg_c14) (W := zg_w14) (ml := 2) rfl rfl (Nat.le_of_ble_eq_true rfl) ?_
  unfold f_14
  refine e_ld (t := 2) rfl (Or.inr (Or.inl ⟨rfl, Or.inl rfl⟩)) rfl rfl ?_
  refine e_get (a := 0) (u := .ref 18) rfl rfl rfl (fun _ => rfl) ?_
  refine e_get (a := 18) (u := .int (yi (M 18 4))) rfl rfl rfl (fun _ => rfl) ?_
  refine e_br (fun t : Int => some (M, cc, some (.int (yi t)))) (q := 5) (by decide) rfl (fun h1 => ?_) (fun h1 => ?_)
  · refine e_ld (t := 2) rfl (Or.inr (Or.inl ⟨rfl, Or.inl rfl⟩)) rfl rfl ?_
    refine e_get (a := 0) (u := .ref 23) rfl rfl rfl (fun _ => rfl) ?_
    refine e_ld (t := 0) rfl (Or.inl ⟨rfl, Or.inl rfl⟩) rfl rfl ?_
    refine e_stat (as := [.ref 23, .int (yi x1)]) rfl (by decide) rfl (Nat.le_of_ble_eq_true rfl) (t_5 (by omega)) ?_
    refine e_get (a := (24 + 9 * ypz 8 x1)) (u := .int (yi (M (24 + 9 * ypz 8 x1) 0))) rfl (fC ⟨_, ypz_lt (by decide), rfl⟩) rfl (fun _ => rfl) ?_
    exact e_iret rfl (Or.inl rfl)
  · refine e_ic (b := 0) rfl (by decide) (by decide) ?_
    refine e_go rfl ?_
    exact e_iret rfl (Or.inl rfl)
/-- UnwindTower.lengthOfAll -/
def f_15_4 (N : Nat) : Nat → yM → Int → Int → Option (Int)
  | 0, _, _, _ => none
  | n + 1, M, x1, x2 => (cond (yrel 3 x2 (M 1 4)) (some x1) (ylet (x1 + (f_14 M x2)) fun v2 => (f_15_4 N n M v2 (x2 + 1))))
theorem t_15_4 {sc : List Int32} {dd cc : Nat} {N : Nat} (hd : 2 ≤ dd) : ∀ (n : Nat) {M : yM} {x1 : Int} {x2 : Int} {L : zL} (hL0 : L 0 = some (.ref 0)) (hL1 : L 1 = some (.int (yi x1))) (hL2 : L 2 = some (.int (yi x2))), yW sc zg_c15 zg_w15 dd 4 L [] M cc ((Option.map (fun t : Int => (M, cc, some (.int (yi t))))) (f_15_4 N n M x1 x2)) := by
  intro n
  induction n with
  | zero => intros; exact y_none
  | succ n IH =>
    intro M x1 x2 L hL0 hL1 hL2
    rw [f_15_4]
    refine e_ld (t := 0) rfl (Or.inl ⟨rfl, Or.inl rfl⟩) hL2 rfl ?_
    refine e_ld (t := 2) rfl (Or.inr (Or.inl ⟨rfl, Or.inl rfl⟩)) hL0 rfl ?_
    refine e_get (a := 0) (u := .ref 1) rfl rfl rfl (fun _ => rfl) ?_
    refine e_get (a := 1) (u := .int (yi (M 1 4))) rfl rfl rfl (fun _ => rfl) ?_
    refine e_cmp (Option.map (fun t : Int => (M, cc, some (.int (yi t))))) (q := 3) (by decide) rfl (fun h1 => ?_) (fun h1 => ?_)
    · refine e_ld (t := 0) rfl (Or.inl ⟨rfl, Or.inl rfl⟩) hL1 rfl ?_
      exact e_iret rfl (Or.inl rfl)
    · refine e_ld (t := 0) rfl (Or.inl ⟨rfl, Or.inl rfl⟩) hL1 rfl ?_
      refine e_ld (t := 2) rfl (Or.inr (Or.inl ⟨rfl, Or.inl rfl⟩)) hL0 rfl ?_
      refine e_ld (t := 0) rfl (Or.inl ⟨rfl, Or.inl rfl⟩) hL2 rfl ?_
      refine e_obj (M1 := M) (cc1 := cc) (v1 := some (.int (yi (f_14 M x2)))) (a := 0) (as := [.int (yi x2)]) rfl (by decide) rfl (Nat.le_of_ble_eq_true rfl) rfl (t_14 (by omega)) ?_
      refine e_add rfl ?_
      refine e_stl (g := (Option.map (fun t : Int => (M, cc, some (.int (yi t)))))) rfl (Or.inl rfl) (fun v2 => ?_)
      refine e_inc (d := 1) rfl (l_ki (by decide) hL2) (by decide) ?_
      refine e_go rfl ?_
      exact IH (l_kr (by decide) (l_kr (by decide) hL0)) (l_ki (by decide) l_s) l_s
def f_15 (N : Nat) (M : yM) : Option (Int) := (f_15_4 N N M 0 0)
theorem t_15 {sc : List Int32} {dd cc : Nat} {N : Nat} {M : yM} (hd : 3 ≤ dd) : yP sc dd 15 [.ref 0] M cc ((Option.map (fun t : Int => (M, cc, some (.int (yi t))))) (f_15 N M)) := by
  obtain ⟨dd, rfl⟩ : ∃ e, dd = e + 1 := ⟨dd - 1, by omega⟩
  refine e_meth (C := zg_c15) (W := zg_w15) (ml := 3) rfl rfl (Nat.le_of_ble_eq_true rfl) ?_
  unfold f_15
  refine e_ic (b := 0) rfl (by decide) (by decide) ?_
  refine e_st (t := 0) rfl (Or.inl ⟨rfl, Or.inl rfl⟩) rfl ?_
  refine e_ic (b := 0) rfl (by decide) (by decide) ?_
  refine e_st (t := 0) rfl (Or.inl ⟨rfl, Or.inl rfl⟩) rfl ?_
  exact t_15_4 (by omega) N (l_kr (by decide) (l_kr (by decide) rfl)) (l_ki (by decide) l_s) l_s
/-- UnwindTower.limits -/
def f_16 (M : yM) (x1 : Int) (x2 : Int) : Option (yM × Int) := (cond (yrel 1 (f_1 M x1 x2) 0) (ylet (M 0 9) fun v2 => (ylet (yU M 0 9 x1) fun M3 => (ylet (yU M3 0 10 x2) fun M4 => some (M4, v2)))) none)
theorem t_16 {sc : List Int32} {dd cc : Nat} {M : yM} {x1 : Int} {x2 : Int} (hd : 2 ≤ dd) : yP sc dd 16 [.ref 0, .int (yi x1), .int (yi x2)] M cc ((Option.map (fun t : yM × Int => (t.1, cc, some (.int (yi t.2))))) (f_16 M x1 x2)) := by
  obtain ⟨dd, rfl⟩ : ∃ e, dd = e + 1 := ⟨dd - 1, by omega⟩
  refine e_meth (C := zg_c16) (W := zg_w16) (ml := 4) rfl rfl (Nat.le_of_ble_eq_true rfl) ?_
  unfold f_16
  refine e_ld (t := 0) rfl (Or.inl ⟨rfl, Or.inl rfl⟩) rfl rfl ?_
  refine e_ld (t := 0) rfl (Or.inl ⟨rfl, Or.inl rfl⟩) rfl rfl ?_
  refine e_stat (M1 := M) (cc1 := cc) (v1 := some (.int (yi (f_1 M x1 x2)))) (as := [.int (yi x1), .int (yi x2)]) rfl (by decide) rfl (Nat.le_of_ble_eq_true rfl) (t_1 (by omega)) ?_
  refine e_br (Option.map (fun t : yM × Int => (t.1, cc, some (.int (yi t.2))))) (q := 1) (by decide) rfl (fun h1 => ?_) (fun h1 => ?_)
  · refine e_ld (t := 2) rfl (Or.inr (Or.inl ⟨rfl, Or.inl rfl⟩)) rfl rfl ?_
    refine e_get (a := 0) (u := .int (yi (M 0 9))) rfl rfl rfl (fun _ => rfl) ?_
    refine e_stl (g := (Option.map (fun t : yM × Int => (t.1, cc, some (.int (yi t.2)))))) rfl (Or.inl rfl) (fun v2 => ?_)
    refine e_ld (t := 2) rfl (Or.inr (Or.inl ⟨rfl, Or.inl rfl⟩)) (l_kr (by decide) rfl) rfl ?_
    refine e_ld (t := 0) rfl (Or.inl ⟨rfl, Or.inl rfl⟩) (l_ki (by decide) rfl) rfl ?_
    refine e_put (a := 0) rfl (Or.inl rfl) rfl rfl (Or.inl rfl) ?_
    refine y_let (Option.map (fun t : yM × Int => (t.1, cc, some (.int (yi t.2))))) (fun M3 => ?_)
    refine e_ld (t := 2) rfl (Or.inr (Or.inl ⟨rfl, Or.inl rfl⟩)) (l_kr (by decide) rfl) rfl ?_
    refine e_ld (t := 0) rfl (Or.inl ⟨rfl, Or.inl rfl⟩) (l_ki (by decide) rfl) rfl ?_
    refine e_put (a := 0) rfl (Or.inl rfl) rfl rfl (Or.inl rfl) ?_
    refine y_let (Option.map (fun t : yM × Int => (t.1, cc, some (.int (yi t.2))))) (fun M4 => ?_)
    refine e_ld (t := 0) rfl (Or.inl ⟨rfl, Or.inl rfl⟩) l_s rfl ?_
    exact e_iret rfl (Or.inl rfl)
  · exact y_none
/-- UnwindTower.prune -/
def f_23 (M : yM) (x1 : Int) : Option (yM × Int) := (ylet (M 0 7) fun v1 => (ybo x1 (ylet (yU M 0 7 x1) fun M3 => (ylet (yU M3 0 8 1) fun M4 => (ybo v1 (some (M4, v1)))))))
theorem t_23 {sc : List Int32} {dd cc : Nat} {M : yM} {x1 : Int} (hd : 1 ≤ dd) : yP sc dd 23 [.ref 0, .int (yi x1)] M cc ((Option.map (fun t : yM × Int => (t.1, cc, some (.int (yi t.2))))) (f_23 M x1)) := by
  obtain ⟨dd, rfl⟩ : ∃ e, dd = e + 1 := ⟨dd - 1, by omega⟩
  refine e_meth (C := zg_c23) (W := zg_w23) (ml := 3) rfl rfl (Nat.le_of_ble_eq_true rfl) ?_
  unfold f_23
  refine e_ld (t := 2) rfl (Or.inr (Or.inl ⟨rfl, Or.inl rfl⟩)) rfl rfl ?_
  refine e_get (a := 0) (u := .int (yi (M 0 7))) rfl rfl rfl (fun _ => rfl) ?_
  refine e_stl (g := (Option.map (fun t : yM × Int => (t.1, cc, some (.int (yi t.2)))))) rfl (Or.inl rfl) (fun v1 => ?_)
  refine e_ld (t := 2) rfl (Or.inr (Or.inl ⟨rfl, Or.inl rfl⟩)) (l_kr (by decide) rfl) rfl ?_
  refine e_ld (t := 0) rfl (Or.inl ⟨rfl, Or.inl rfl⟩) (l_ki (by decide) rfl) rfl ?_
  refine e_bo (b := x1) (fun hb2 => ?_)
  refine e_put (a := 0) rfl (Or.inl rfl) rfl rfl (Or.inr ⟨rfl, hb2⟩) ?_
  refine y_let (Option.map (fun t : yM × Int => (t.1, cc, some (.int (yi t.2))))) (fun M3 => ?_)
  refine e_ld (t := 2) rfl (Or.inr (Or.inl ⟨rfl, Or.inl rfl⟩)) (l_kr (by decide) rfl) rfl ?_
  refine e_ic (b := 1) rfl (by decide) (by decide) ?_
  refine e_put (a := 0) rfl (Or.inl rfl) rfl rfl (Or.inr ⟨rfl, Or.inr rfl⟩) ?_
  refine y_let (Option.map (fun t : yM × Int => (t.1, cc, some (.int (yi t.2))))) (fun M4 => ?_)
  refine e_ld (t := 0) rfl (Or.inl ⟨rfl, Or.inl rfl⟩) l_s rfl ?_
  refine e_bo (b := v1) (fun hb5 => ?_)
  exact e_iret rfl (Or.inr ⟨rfl, hb5⟩)
/-- UnwindTower.readHeld -/
def f_25 (M : yM) (x1 : Int) : Int := (cond (yrel 3 x1 10) (yrd M (196 + 15) (x1 - 10)) (yrd M (196 + 14) x1))
theorem t_25 {sc : List Int32} {dd cc : Nat} {M : yM} {x1 : Int} (hd : 2 ≤ dd) : yP sc dd 25 [.ref 0, .int (yi x1)] M cc (some (M, cc, some (.int (yi (f_25 M x1))))) := by
  obtain ⟨dd, rfl⟩ : ∃ e, dd = e + 1 := ⟨dd - 1, by omega⟩
  refine e_meth (C := zg_c25) (W := zg_w25) (ml := 2) rfl rfl (Nat.le_of_ble_eq_true rfl) ?_
  unfold f_25
  refine e_ld (t := 0) rfl (Or.inl ⟨rfl, Or.inl rfl⟩) rfl rfl ?_
  refine e_ic (b := 10) rfl (by decide) (by decide) ?_
  refine e_cmp (fun t : Int => some (M, cc, some (.int (yi t)))) (q := 3) (by decide) rfl (fun h1 => ?_) (fun h1 => ?_)
  · refine e_ld (t := 2) rfl (Or.inr (Or.inl ⟨rfl, Or.inl rfl⟩)) rfl rfl ?_
    refine e_get (a := 0) (u := .ref 196) rfl rfl rfl (fun _ => rfl) ?_
    refine e_get (a := 196) (u := .ref (196 + 15)) rfl (fM (Or.inl rfl)) rfl (fun _ => rfl) ?_
    refine e_ld (t := 0) rfl (Or.inl ⟨rfl, Or.inl rfl⟩) rfl rfl ?_
    refine e_ic (b := 10) rfl (by decide) (by decide) ?_
    refine e_sub rfl ?_
    refine e_at (a := (196 + 15)) (by omega) rfl (by decide) (Nat.le_of_ble_eq_true rfl) (nM_15 (Or.inl rfl)) ?_
    exact e_iret rfl (Or.inl rfl)
  · refine e_ld (t := 2) rfl (Or.inr (Or.inl ⟨rfl, Or.inl rfl⟩)) rfl rfl ?_
    refine e_get (a := 0) (u := .ref 196) rfl rfl rfl (fun _ => rfl) ?_
    refine e_get (a := 196) (u := .ref (196 + 14)) rfl (fM (Or.inl rfl)) rfl (fun _ => rfl) ?_
    refine e_ld (t := 0) rfl (Or.inl ⟨rfl, Or.inl rfl⟩) rfl rfl ?_
    refine e_at (a := (196 + 14)) (by omega) rfl (by decide) (Nat.le_of_ble_eq_true rfl) (nM_14 (Or.inl rfl)) ?_
    refine e_go rfl ?_
    exact e_iret rfl (Or.inl rfl)
/-- UnwindTower.readNode -/
def f_28 (M : yM) (x1 : Int) (x2 : Int) : Int := (cond (yrel 0 x2 0) (yrd M 7 x1) (cond (yrel 0 x2 (0 + 1)) (yrd M 8 x1) (cond (yrel 0 x2 (0 + 1 + 1)) (yrd M 9 x1) (cond (yrel 0 x2 (0 + 1 + 1 + 1)) (yrd M 10 x1) (cond (yrel 0 x2 (0 + 1 + 1 + 1 + 1)) (yrd M 13 x1) (cond (yrel 0 x2 (0 + 1 + 1 + 1 + 1 + 1)) (yrd M 16 x1) (cond (yrel 0 x2 (0 + 1 + 1 + 1 + 1 + 1 + 1)) (yrd M 17 x1) (yrd M (196 + 16) x1))))))))
theorem t_28 {sc : List Int32} {dd cc : Nat} {M : yM} {x1 : Int} {x2 : Int} (hd : 2 ≤ dd) : yP sc dd 28 [.ref 0, .int (yi x1), .int (yi x2)] M cc (some (M, cc, some (.int (yi (f_28 M x1 x2))))) := by
  obtain ⟨dd, rfl⟩ : ∃ e, dd = e + 1 := ⟨dd - 1, by omega⟩
  refine e_meth (C := zg_c28) (W := zg_w28) (ml := 3) rfl rfl (Nat.le_of_ble_eq_true rfl) ?_
  unfold f_28
  refine e_ld (t := 0) rfl (Or.inl ⟨rfl, Or.inl rfl⟩) rfl rfl ?_
  refine e_sw (lo' := 0) rfl rfl (by decide) ?_
  refine s_case (fun t : Int => some (M, cc, some (.int (yi t)))) (by decide) (fun h1 => ?_) (fun h1 => ?_)
  · refine e_ld (t := 2) rfl (Or.inr (Or.inl ⟨rfl, Or.inl rfl⟩)) rfl rfl ?_
    refine e_get (a := 0) (u := .ref 1) rfl rfl rfl (fun _ => rfl) ?_
    refine e_get (a := 1) (u := .ref 7) rfl rfl rfl (fun _ => rfl) ?_
    refine e_ld (t := 0) rfl (Or.inl ⟨rfl, Or.inl rfl⟩) rfl rfl ?_
    refine e_at (a := 7) (by omega) rfl (by decide) (Nat.le_of_ble_eq_true rfl) rfl ?_
    exact e_iret rfl (Or.inl rfl)
  refine s_case (fun t : Int => some (M, cc, some (.int (yi t)))) (by decide) (fun h2 => ?_) (fun h2 => ?_)
  · refine e_ld (t := 2) rfl (Or.inr (Or.inl ⟨rfl, Or.inl rfl⟩)) rfl rfl ?_
    refine e_get (a := 0) (u := .ref 1) rfl rfl rfl (fun _ => rfl) ?_
    refine e_get (a := 1) (u := .ref 8) rfl rfl rfl (fun _ => rfl) ?_
    refine e_ld (t := 0) rfl (Or.inl ⟨rfl, Or.inl rfl⟩) rfl rfl ?_
    refine e_at (a := 8) (by omega) rfl (by decide) (Nat.le_of_ble_eq_true rfl) rfl ?_
    exact e_iret rfl (Or.inl rfl)
  refine s_case (fun t : Int => some (M, cc, some (.int (yi t)))) (by decide) (fun h3 => ?_) (fun h3 => ?_)
  · refine e_ld (t := 2) rfl (Or.inr (Or.inl ⟨rfl, Or.inl rfl⟩)) rfl rfl ?_
    refine e_get (a := 0) (u := .ref 1) rfl rfl rfl (fun _ => rfl) ?_
    refine e_get (a := 1) (u := .ref 9) rfl rfl rfl (fun _ => rfl) ?_
    refine e_ld (t := 0) rfl (Or.inl ⟨rfl, Or.inl rfl⟩) rfl rfl ?_
    refine e_at (a := 9) (by omega) rfl (by decide) (Nat.le_of_ble_eq_true rfl) rfl ?_
    exact e_iret rfl (Or.inl rfl)
  refine s_case (fun t : Int => some (M, cc, some (.int (yi t)))) (by decide) (fun h4 => ?_) (fun h4 => ?_)
  · refine e_ld (t := 2) rfl (Or.inr (Or.inl ⟨rfl, Or.inl rfl⟩)) rfl rfl ?_
    refine e_get (a := 0) (u := .ref 1) rfl rfl rfl (fun _ => rfl) ?_
    refine e_get (a := 1) (u := .ref 10) rfl rfl rfl (fun _ => rfl) ?_
    refine e_ld (t := 0) rfl (Or.inl ⟨rfl, Or.inl rfl⟩) rfl rfl ?_
    refine e_at (a := 10) (by omega) rfl (by decide) (Nat.le_of_ble_eq_true rfl) rfl ?_
    exact e_iret rfl (Or.inl rfl)
  refine s_case (fun t : Int => some (M, cc, some (.int (yi t)))) (by decide) (fun h5 => ?_) (fun h5 => ?_)
  · refine e_ld (t := 2) rfl (Or.inr (Or.inl ⟨rfl, Or.inl rfl⟩)) rfl rfl ?_
    refine e_get (a := 0) (u := .ref 1) rfl rfl rfl (fun _ => rfl) ?_
    refine e_get (a := 1) (u := .ref 13) rfl rfl rfl (fun _ => rfl) ?_
    refine e_ld (t := 0) rfl (Or.inl ⟨rfl, Or.inl rfl⟩) rfl rfl ?_
    refine e_at (a := 13) (by omega) rfl (by decide) (Nat.le_of_ble_eq_true rfl) rfl ?_
    exact e_iret rfl (Or.inl rfl)
  refine s_case (fun t : Int => some (M, cc, some (.int (yi t)))) (by decide) (fun h6 => ?_) (fun h6 => ?_)
  · refine e_ld (t := 2) rfl (Or.inr (Or.inl ⟨rfl, Or.inl rfl⟩)) rfl rfl ?_
    refine e_get (a := 0) (u := .ref 1) rfl rfl rfl (fun _ => rfl) ?_
    refine e_get (a := 1) (u := .ref 16) rfl rfl rfl (fun _ => rfl) ?_
    refine e_ld (t := 0) rfl (Or.inl ⟨rfl, Or.inl rfl⟩) rfl rfl ?_
    refine e_at (a := 16) (by omega) rfl (by decide) (Nat.le_of_ble_eq_true rfl) rfl ?_
    exact e_iret rfl (Or.inl rfl)
  refine s_case (fun t : Int => some (M, cc, some (.int (yi t)))) (by decide) (fun h7 => ?_) (fun h7 => ?_)
  · refine e_ld (t := 2) rfl (Or.inr (Or.inl ⟨rfl, Or.inl rfl⟩)) rfl rfl ?_
    refine e_get (a := 0) (u := .ref 1) rfl rfl rfl (fun _ => rfl) ?_
    refine e_get (a := 1) (u := .ref 17) rfl rfl rfl (fun _ => rfl) ?_
    refine e_ld (t := 0) rfl (Or.inl ⟨rfl, Or.inl rfl⟩) rfl rfl ?_
    refine e_at (a := 17) (by omega) rfl (by decide) (Nat.le_of_ble_eq_true rfl) rfl ?_
    exact e_iret rfl (Or.inl rfl)
  refine s_end ?_
  refine e_ld (t := 2) rfl (Or.inr (Or.inl ⟨rfl, Or.inl rfl⟩)) rfl rfl ?_
  refine e_get (a := 0) (u := .ref 196) rfl rfl rfl (fun _ => rfl) ?_
  refine e_get (a := 196) (u := .ref (196 + 16)) rfl (fM (Or.inl rfl)) rfl (fun _ => rfl) ?_
  refine e_ld (t := 0) rfl (Or.inl ⟨rfl, Or.inl rfl⟩) rfl rfl ?_
  refine e_at (a := (196 + 16)) (by omega) rfl (by decide) (Nat.le_of_ble_eq_true rfl) (nM_16 (Or.inl rfl)) ?_
  exact e_iret rfl (Or.inl rfl)
/-- UnwindTower.readRun -/
def f_30 (M : yM) (x1 : Int) : Int := (cond (yrel 1 x1 9) (yrd M (196 + 13) x1) (M 0 11))
theorem t_30 {sc : List Int32} {dd cc : Nat} {M : yM} {x1 : Int} (hd : 2 ≤ dd) : yP sc dd 30 [.ref 0, .int (yi x1)] M cc (some (M, cc, some (.int (yi (f_30 M x1))))) := by
  obtain ⟨dd, rfl⟩ : ∃ e, dd = e + 1 := ⟨dd - 1, by omega⟩
  refine e_meth (C := zg_c30) (W := zg_w30) (ml := 2) rfl rfl (Nat.le_of_ble_eq_true rfl) ?_
  unfold f_30
  refine e_ld (t := 0) rfl (Or.inl ⟨rfl, Or.inl rfl⟩) rfl rfl ?_
  refine e_ic (b := 9) rfl (by decide) (by decide) ?_
  refine e_cmp (fun t : Int => some (M, cc, some (.int (yi t)))) (q := 1) (by decide) rfl (fun h1 => ?_) (fun h1 => ?_)
  · refine e_ld (t := 2) rfl (Or.inr (Or.inl ⟨rfl, Or.inl rfl⟩)) rfl rfl ?_
    refine e_get (a := 0) (u := .ref 196) rfl rfl rfl (fun _ => rfl) ?_
    refine e_get (a := 196) (u := .ref (196 + 13)) rfl (fM (Or.inl rfl)) rfl (fun _ => rfl) ?_
    refine e_ld (t := 0) rfl (Or.inl ⟨rfl, Or.inl rfl⟩) rfl rfl ?_
    refine e_at (a := (196 + 13)) (by omega) rfl (by decide) (Nat.le_of_ble_eq_true rfl) (nM_13 (Or.inl rfl)) ?_
    exact e_iret rfl (Or.inl rfl)
  · refine e_ld (t := 2) rfl (Or.inr (Or.inl ⟨rfl, Or.inl rfl⟩)) rfl rfl ?_
    refine e_get (a := 0) (u := .int (yi (M 0 11))) rfl rfl rfl (fun _ => rfl) ?_
    refine e_go rfl ?_
    exact e_iret rfl (Or.inl rfl)
/-- UnwindTower.rowsOf -/
def f_32 (M : yM) (x1 : Int) : Int := (cond (yrel 5 (M 18 4) 0) (M (24 + 9 * ypz 8 x1) 12) 0)
theorem t_32 {sc : List Int32} {dd cc : Nat} {M : yM} {x1 : Int} (hd : 2 ≤ dd) : yP sc dd 32 [.ref 0, .int (yi x1)] M cc (some (M, cc, some (.int (yi (f_32 M x1))))) := by
  obtain ⟨dd, rfl⟩ : ∃ e, dd = e + 1 := ⟨dd - 1, by omega⟩
  refine e_meth (C := zg_c32) (W := zg_w32) (ml := 2) rfl rfl (Nat.le_of_ble_eq_true rfl) ?_
  unfold f_32
  refine e_ld (t := 2) rfl (Or.inr (Or.inl ⟨rfl, Or.inl rfl⟩)) rfl rfl ?_
  refine e_get (a := 0) (u := .ref 18) rfl rfl rfl (fun _ => rfl) ?_
  refine e_get (a := 18) (u := .int (yi (M 18 4))) rfl rfl rfl (fun _ => rfl) ?_
  refine e_br (fun t : Int => some (M, cc, some (.int (yi t)))) (q := 5) (by decide) rfl (fun h1 => ?_) (fun h1 => ?_)
  · refine e_ld (t := 2) rfl (Or.inr (Or.inl ⟨rfl, Or.inl rfl⟩)) rfl rfl ?_
    refine e_get (a := 0) (u := .ref 23) rfl rfl rfl (fun _ => rfl) ?_
    refine e_ld (t := 0) rfl (Or.inl ⟨rfl, Or.inl rfl⟩) rfl rfl ?_
    refine e_stat (as := [.ref 23, .int (yi x1)]) rfl (by decide) rfl (Nat.le_of_ble_eq_true rfl) (t_5 (by omega)) ?_
    refine e_get (a := (24 + 9 * ypz 8 x1)) (u := .int (yi (M (24 + 9 * ypz 8 x1) 12))) rfl (fC ⟨_, ypz_lt (by decide), rfl⟩) rfl (fun _ => rfl) ?_
    exact e_iret rfl (Or.inl rfl)
  · refine e_ic (b := 0) rfl (by decide) (by decide) ?_
    refine e_go rfl ?_
    exact e_iret rfl (Or.inl rfl)
/-- UnwindTower$Code.add -/
def f_39 (M : yM) (r0 : Nat) (x1 : Int) (x2 : Int) (x3 : Int) (x4 : Int) (x5 : Int) : yM := (cond (yrel 2 (M r0 0) 300) (ylet (ywr M (r0 + 1) (M r0 0) x1) fun M2 => (ylet (ywr M2 (r0 + 2) (M2 r0 0) x2) fun M3 => (ylet (ywr M3 (r0 + 3) (M3 r0 0) x3) fun M4 => (ylet (ywr M4 (r0 + 4) (M4 r0 0) x4) fun M5 => (ylet (ywr M5 (r0 + 5) (M5 r0 0) x5) fun M6 => (ylet (yU M6 r0 0 ((M6 r0 0) + 1)) fun M7 => M7)))))) (ylet (yU M r0 1 1) fun M8 => M8))
theorem t_39 {sc : List Int32} {dd cc : Nat} {M : yM} {r0 : Nat} {x1 : Int} {x2 : Int} {x3 : Int} {x4 : Int} {x5 : Int} (hd : 2 ≤ dd) (hr0 : pC r0) : yP sc dd 39 [.ref r0, .int (yi x1), .int (yi x2), .int (yi x3), .int (yi x4), .int (yi x5)] M cc (some ((f_39 M r0 x1 x2 x3 x4 x5), cc, none)) := by
  obtain ⟨dd, rfl⟩ : ∃ e, dd = e + 1 := ⟨dd - 1, by omega⟩
  refine e_meth (C := zg_c39) (W := zg_w39) (ml := 6) rfl rfl (Nat.le_of_ble_eq_true rfl) ?_
  unfold f_39
  refine e_ld (t := 2) rfl (Or.inr (Or.inl ⟨rfl, Or.inl rfl⟩)) rfl rfl ?_
  refine e_get (a := r0) (u := .int (yi (M r0 0))) rfl (fC hr0) rfl (fun _ => rfl) ?_
  refine e_ic (b := 300) rfl (by decide) (by decide) ?_
  refine e_cmp (fun t : yM => some (t, cc, none)) (q := 2) (by decide) rfl (fun h1 => ?_) (fun h1 => ?_)
  · refine e_ld (t := 2) rfl (Or.inr (Or.inl ⟨rfl, Or.inl rfl⟩)) rfl rfl ?_
    refine e_get (a := r0) (u := .ref (r0 + 1)) rfl (fC hr0) rfl (fun _ => rfl) ?_
    refine e_ld (t := 2) rfl (Or.inr (Or.inl ⟨rfl, Or.inl rfl⟩)) rfl rfl ?_
    refine e_get (a := r0) (u := .int (yi (M r0 0))) rfl (fC hr0) rfl (fun _ => rfl) ?_
    refine e_ld (t := 0) rfl (Or.inl ⟨rfl, Or.inl rfl⟩) rfl rfl ?_
    refine e_wr (a := (r0 + 1)) (by omega) rfl (by decide) (Nat.le_of_ble_eq_true rfl) (nC_1 hr0) ?_
    refine y_let (fun t : yM => some (t, cc, none)) (fun M2 => ?_)
    refine e_ld (t := 2) rfl (Or.inr (Or.inl ⟨rfl, Or.inl rfl⟩)) rfl rfl ?_
    refine e_get (a := r0) (u := .ref (r0 + 2)) rfl (fC hr0) rfl (fun _ => rfl) ?_
    refine e_ld (t := 2) rfl (Or.inr (Or.inl ⟨rfl, Or.inl rfl⟩)) rfl rfl ?_
    refine e_get (a := r0) (u := .int (yi (M2 r0 0))) rfl (fC hr0) rfl (fun _ => rfl) ?_
    refine e_ld (t := 0) rfl (Or.inl ⟨rfl, Or.inl rfl⟩) rfl rfl ?_
    refine e_wr (a := (r0 + 2)) (by omega) rfl (by decide) (Nat.le_of_ble_eq_true rfl) (nC_2 hr0) ?_
    refine y_let (fun t : yM => some (t, cc, none)) (fun M3 => ?_)
    refine e_ld (t := 2) rfl (Or.inr (Or.inl ⟨rfl, Or.inl rfl⟩)) rfl rfl ?_
    refine e_get (a := r0) (u := .ref (r0 + 3)) rfl (fC hr0) rfl (fun _ => rfl) ?_
    refine e_ld (t := 2) rfl (Or.inr (Or.inl ⟨rfl, Or.inl rfl⟩)) rfl rfl ?_
    refine e_get (a := r0) (u := .int (yi (M3 r0 0))) rfl (fC hr0) rfl (fun _ => rfl) ?_
    refine e_ld (t := 0) rfl (Or.inl ⟨rfl, Or.inl rfl⟩) rfl rfl ?_
    refine e_wr (a := (r0 + 3)) (by omega) rfl (by decide) (Nat.le_of_ble_eq_true rfl) (nC_3 hr0) ?_
    refine y_let (fun t : yM => some (t, cc, none)) (fun M4 => ?_)
    refine e_ld (t := 2) rfl (Or.inr (Or.inl ⟨rfl, Or.inl rfl⟩)) rfl rfl ?_
    refine e_get (a := r0) (u := .ref (r0 + 4)) rfl (fC hr0) rfl (fun _ => rfl) ?_
    refine e_ld (t := 2) rfl (Or.inr (Or.inl ⟨rfl, Or.inl rfl⟩)) rfl rfl ?_
    refine e_get (a := r0) (u := .int (yi (M4 r0 0))) rfl (fC hr0) rfl (fun _ => rfl) ?_
    refine e_ld (t := 0) rfl (Or.inl ⟨rfl, Or.inr rfl⟩) rfl rfl ?_
    refine e_wr (a := (r0 + 4)) (by omega) rfl (by decide) (Nat.le_of_ble_eq_true rfl) (nC_4 hr0) ?_
    refine y_let (fun t : yM => some (t, cc, none)) (fun M5 => ?_)
    refine e_ld (t := 2) rfl (Or.inr (Or.inl ⟨rfl, Or.inl rfl⟩)) rfl rfl ?_
    refine e_get (a := r0) (u := .ref (r0 + 5)) rfl (fC hr0) rfl (fun _ => rfl) ?_
    refine e_ld (t := 2) rfl (Or.inr (Or.inl ⟨rfl, Or.inl rfl⟩)) rfl rfl ?_
    refine e_get (a := r0) (u := .int (yi (M5 r0 0))) rfl (fC hr0) rfl (fun _ => rfl) ?_
    refine e_ld (t := 0) rfl (Or.inl ⟨rfl, Or.inr rfl⟩) rfl rfl ?_
    refine e_wr (a := (r0 + 5)) (by omega) rfl (by decide) (Nat.le_of_ble_eq_true rfl) (nC_5 hr0) ?_
    refine y_let (fun t : yM => some (t, cc, none)) (fun M6 => ?_)
    refine e_ld (t := 2) rfl (Or.inr (Or.inl ⟨rfl, Or.inl rfl⟩)) rfl rfl ?_
    refine e_dup rfl (Or.inr ⟨_, rfl⟩) ?_
    refine e_get (a := r0) (u := .int (yi (M6 r0 0))) rfl (fC hr0) rfl (fun _ => rfl) ?_
    refine e_ic (b := 1) rfl (by decide) (by decide) ?_
    refine e_add rfl ?_
    refine e_put (a := r0) rfl (Or.inl rfl) (fC hr0) rfl (Or.inl rfl) ?_
    refine y_let (fun t : yM => some (t, cc, none)) (fun M7 => ?_)
    exact e_vret rfl
  · refine e_ld (t := 2) rfl (Or.inr (Or.inl ⟨rfl, Or.inl rfl⟩)) rfl rfl ?_
    refine e_ic (b := 1) rfl (by decide) (by decide) ?_
    refine e_put (a := r0) rfl (Or.inl rfl) (fC hr0) rfl (Or.inr ⟨rfl, Or.inr rfl⟩) ?_
    refine y_let (fun t : yM => some (t, cc, none)) (fun M8 => ?_)
    exact e_vret rfl
/-- UnwindTower$Code.begin -/
def f_40_13 (M : yM) (r0 : Nat) (x1 : Int) : yM := (ylet (ywr M (r0 + 7) (M r0 0) (yrd M (r0 + 7) (M r0 0) + 1)) fun M2 => (ylet (ywr M2 (r0 + 8) (M2 r0 10) x1) fun M3 => (ylet (yU M3 r0 10 ((M3 r0 10) + 1)) fun M4 => M4)))
theorem t_40_13 {sc : List Int32} {dd cc : Nat} {M : yM} {r0 : Nat} {x1 : Int} (hd : 1 ≤ dd) (hr0 : pC r0) {L : zL} (hL0 : L 0 = some (.ref r0)) (hL1 : L 1 = some (.int (yi x1))) : yW sc zg_c40 zg_w40 dd 13 L [] M cc ((fun t : yM => some (t, cc, none)) (f_40_13 M r0 x1)) := by
  unfold f_40_13
  refine e_ld (t := 2) rfl (Or.inr (Or.inl ⟨rfl, Or.inl rfl⟩)) hL0 rfl ?_
  refine e_get (a := r0) (u := .ref (r0 + 7)) rfl (fC hr0) rfl (fun _ => rfl) ?_
  refine e_ld (t := 2) rfl (Or.inr (Or.inl ⟨rfl, Or.inl rfl⟩)) hL0 rfl ?_
  refine e_get (a := r0) (u := .int (yi (M r0 0))) rfl (fC hr0) rfl (fun _ => rfl) ?_
  refine e_incr (a := (r0 + 7)) (by omega) rfl (by decide) (Nat.le_of_ble_eq_true rfl) (nC_7 hr0) ?_
  refine y_let (fun t : yM => some (t, cc, none)) (fun M2 => ?_)
  refine e_ld (t := 2) rfl (Or.inr (Or.inl ⟨rfl, Or.inl rfl⟩)) hL0 rfl ?_
  refine e_get (a := r0) (u := .ref (r0 + 8)) rfl (fC hr0) rfl (fun _ => rfl) ?_
  refine e_ld (t := 2) rfl (Or.inr (Or.inl ⟨rfl, Or.inl rfl⟩)) hL0 rfl ?_
  refine e_get (a := r0) (u := .int (yi (M2 r0 10))) rfl (fC hr0) rfl (fun _ => rfl) ?_
  refine e_ld (t := 0) rfl (Or.inl ⟨rfl, Or.inl rfl⟩) hL1 rfl ?_
  refine e_wr (a := (r0 + 8)) (by omega) rfl (by decide) (Nat.le_of_ble_eq_true rfl) (nC_8 hr0) ?_
  refine y_let (fun t : yM => some (t, cc, none)) (fun M3 => ?_)
  refine e_ld (t := 2) rfl (Or.inr (Or.inl ⟨rfl, Or.inl rfl⟩)) hL0 rfl ?_
  refine e_dup rfl (Or.inr ⟨_, rfl⟩) ?_
  refine e_get (a := r0) (u := .int (yi (M3 r0 10))) rfl (fC hr0) rfl (fun _ => rfl) ?_
  refine e_ic (b := 1) rfl (by decide) (by decide) ?_
  refine e_add rfl ?_
  refine e_put (a := r0) rfl (Or.inl rfl) (fC hr0) rfl (Or.inl rfl) ?_
  refine y_let (fun t : yM => some (t, cc, none)) (fun M4 => ?_)
  exact e_vret rfl
def f_40 (M : yM) (r0 : Nat) (x1 : Int) : yM := (cond (yrel 1 (yrd M (r0 + 7) (M r0 0)) 0) (f_40_13 M r0 x1) (ylet (ywr M (r0 + 6) (M r0 0) (M r0 10)) fun M5 => (f_40_13 M5 r0 x1)))
theorem t_40 {sc : List Int32} {dd cc : Nat} {M : yM} {r0 : Nat} {x1 : Int} (hd : 2 ≤ dd) (hr0 : pC r0) : yP sc dd 40 [.ref r0, .int (yi x1)] M cc (some ((f_40 M r0 x1), cc, none)) := by
  obtain ⟨dd, rfl⟩ : ∃ e, dd = e + 1 := ⟨dd - 1, by omega⟩
  refine e_meth (C := zg_c40) (W := zg_w40) (ml := 2) rfl rfl (Nat.le_of_ble_eq_true rfl) ?_
  unfold f_40
  refine e_ld (t := 2) rfl (Or.inr (Or.inl ⟨rfl, Or.inl rfl⟩)) rfl rfl ?_
  refine e_get (a := r0) (u := .ref (r0 + 7)) rfl (fC hr0) rfl (fun _ => rfl) ?_
  refine e_ld (t := 2) rfl (Or.inr (Or.inl ⟨rfl, Or.inl rfl⟩)) rfl rfl ?_
  refine e_get (a := r0) (u := .int (yi (M r0 0))) rfl (fC hr0) rfl (fun _ => rfl) ?_
  refine e_at (a := (r0 + 7)) (by omega) rfl (by decide) (Nat.le_of_ble_eq_true rfl) (nC_7 hr0) ?_
  refine e_br (fun t : yM => some (t, cc, none)) (q := 1) (by decide) rfl (fun h1 => ?_) (fun h1 => ?_)
  · exact t_40_13 (by omega) hr0 rfl rfl
  · refine e_ld (t := 2) rfl (Or.inr (Or.inl ⟨rfl, Or.inl rfl⟩)) rfl rfl ?_
    refine e_get (a := r0) (u := .ref (r0 + 6)) rfl (fC hr0) rfl (fun _ => rfl) ?_
    refine e_ld (t := 2) rfl (Or.inr (Or.inl ⟨rfl, Or.inl rfl⟩)) rfl rfl ?_
    refine e_get (a := r0) (u := .int (yi (M r0 0))) rfl (fC hr0) rfl (fun _ => rfl) ?_
    refine e_ld (t := 2) rfl (Or.inr (Or.inl ⟨rfl, Or.inl rfl⟩)) rfl rfl ?_
    refine e_get (a := r0) (u := .int (yi (M r0 10))) rfl (fC hr0) rfl (fun _ => rfl) ?_
    refine e_wr (a := (r0 + 6)) (by omega) rfl (by decide) (Nat.le_of_ble_eq_true rfl) (nC_6 hr0) ?_
    refine y_let (fun t : yM => some (t, cc, none)) (fun M5 => ?_)
    exact t_40_13 (by omega) hr0 rfl rfl
/-- UnwindTower$Code.clear -/
def f_41 (M : yM) (r0 : Nat) : yM := (ylet (yU M r0 0 0) fun M1 => (ylet (yU M1 r0 1 0) fun M2 => (ylet (yU M2 r0 10 0) fun M3 => (ylet (yU M3 r0 12 0) fun M4 => (ylet (yfill M4 (r0 + 7) 0) fun M5 => M5)))))
theorem t_41 {sc : List Int32} {dd cc : Nat} {M : yM} {r0 : Nat} (hd : 2 ≤ dd) (hr0 : pC r0) : yP sc dd 41 [.ref r0] M cc (some ((f_41 M r0), cc, none)) := by
  obtain ⟨dd, rfl⟩ : ∃ e, dd = e + 1 := ⟨dd - 1, by omega⟩
  refine e_meth (C := zg_c41) (W := zg_w41) (ml := 1) rfl rfl (Nat.le_of_ble_eq_true rfl) ?_
  unfold f_41
  refine e_ld (t := 2) rfl (Or.inr (Or.inl ⟨rfl, Or.inl rfl⟩)) rfl rfl ?_
  refine e_ic (b := 0) rfl (by decide) (by decide) ?_
  refine e_put (a := r0) rfl (Or.inl rfl) (fC hr0) rfl (Or.inl rfl) ?_
  refine y_let (fun t : yM => some (t, cc, none)) (fun M1 => ?_)
  refine e_ld (t := 2) rfl (Or.inr (Or.inl ⟨rfl, Or.inl rfl⟩)) rfl rfl ?_
  refine e_ic (b := 0) rfl (by decide) (by decide) ?_
  refine e_put (a := r0) rfl (Or.inl rfl) (fC hr0) rfl (Or.inr ⟨rfl, Or.inl rfl⟩) ?_
  refine y_let (fun t : yM => some (t, cc, none)) (fun M2 => ?_)
  refine e_ld (t := 2) rfl (Or.inr (Or.inl ⟨rfl, Or.inl rfl⟩)) rfl rfl ?_
  refine e_ic (b := 0) rfl (by decide) (by decide) ?_
  refine e_put (a := r0) rfl (Or.inl rfl) (fC hr0) rfl (Or.inl rfl) ?_
  refine y_let (fun t : yM => some (t, cc, none)) (fun M3 => ?_)
  refine e_ld (t := 2) rfl (Or.inr (Or.inl ⟨rfl, Or.inl rfl⟩)) rfl rfl ?_
  refine e_ic (b := 0) rfl (by decide) (by decide) ?_
  refine e_put (a := r0) rfl (Or.inl rfl) (fC hr0) rfl (Or.inl rfl) ?_
  refine y_let (fun t : yM => some (t, cc, none)) (fun M4 => ?_)
  refine e_ld (t := 2) rfl (Or.inr (Or.inl ⟨rfl, Or.inl rfl⟩)) rfl rfl ?_
  refine e_get (a := r0) (u := .ref (r0 + 7)) rfl (fC hr0) rfl (fun _ => rfl) ?_
  refine e_ic (b := 0) rfl (by decide) (by decide) ?_
  refine e_stat (as := [.ref (r0 + 7), .int (yi 0)]) rfl (by decide) rfl (Nat.le_of_ble_eq_true rfl) (t_170 (by omega) (nC_7 hr0)) ?_
  refine y_let (fun t : yM => some (t, cc, none)) (fun M5 => ?_)
  exact e_vret rfl
/-- UnwindTower$Code.mayThrow -/
def f_42 (M : yM) (x0 : Int) : Int := (cond (yrel 0 x0 3) 1 (cond (yrel 0 x0 (3 + 1)) 0 (cond (yrel 0 x0 (3 + 1 + 1)) 0 (cond (yrel 0 x0 (3 + 1 + 1 + 1)) 0 (cond (yrel 0 x0 (3 + 1 + 1 + 1 + 1)) 0 (cond (yrel 0 x0 (3 + 1 + 1 + 1 + 1 + 1)) 0 (cond (yrel 0 x0 (3 + 1 + 1 + 1 + 1 + 1 + 1)) 1 (cond (yrel 0 x0 (3 + 1 + 1 + 1 + 1 + 1 + 1 + 1)) 1 (cond (yrel 0 x0 (3 + 1 + 1 + 1 + 1 + 1 + 1 + 1 + 1)) 0 (cond (yrel 0 x0 (3 + 1 + 1 + 1 + 1 + 1 + 1 + 1 + 1 + 1)) 1 (cond (yrel 0 x0 (3 + 1 + 1 + 1 + 1 + 1 + 1 + 1 + 1 + 1 + 1)) 1 (cond (yrel 0 x0 (3 + 1 + 1 + 1 + 1 + 1 + 1 + 1 + 1 + 1 + 1 + 1)) 0 (cond (yrel 0 x0 (3 + 1 + 1 + 1 + 1 + 1 + 1 + 1 + 1 + 1 + 1 + 1 + 1)) 1 (cond (yrel 0 x0 (3 + 1 + 1 + 1 + 1 + 1 + 1 + 1 + 1 + 1 + 1 + 1 + 1 + 1)) 1 (cond (yrel 0 x0 (3 + 1 + 1 + 1 + 1 + 1 + 1 + 1 + 1 + 1 + 1 + 1 + 1 + 1 + 1)) 1 (cond (yrel 0 x0 (3 + 1 + 1 + 1 + 1 + 1 + 1 + 1 + 1 + 1 + 1 + 1 + 1 + 1 + 1 + 1)) 1 (cond (yrel 0 x0 (3 + 1 + 1 + 1 + 1 + 1 + 1 + 1 + 1 + 1 + 1 + 1 + 1 + 1 + 1 + 1 + 1)) 1 0)))))))))))))))))
theorem b_42 {M : yM} {x0 : Int} : f_42 M x0 = 0 ∨ f_42 M x0 = 1 := (zb_cond (Or.inr rfl) ((zb_cond (Or.inl rfl) ((zb_cond (Or.inl rfl) ((zb_cond (Or.inl rfl) ((zb_cond (Or.inl rfl) ((zb_cond (Or.inl rfl) ((zb_cond (Or.inr rfl) ((zb_cond (Or.inr rfl) ((zb_cond (Or.inl rfl) ((zb_cond (Or.inr rfl) ((zb_cond (Or.inr rfl) ((zb_cond (Or.inl rfl) ((zb_cond (Or.inr rfl) ((zb_cond (Or.inr rfl) ((zb_cond (Or.inr rfl) ((zb_cond (Or.inr rfl) ((zb_cond (Or.inr rfl) (Or.inl rfl))))))))))))))))))))))))))))))))))
theorem t_42 {sc : List Int32} {dd cc : Nat} {M : yM} {x0 : Int} (hd : 1 ≤ dd) : yP sc dd 42 [.int (yi x0)] M cc (some (M, cc, some (.int (yi (f_42 M x0))))) := by
  obtain ⟨dd, rfl⟩ : ∃ e, dd = e + 1 := ⟨dd - 1, by omega⟩
  refine e_meth (C := zg_c42) (W := zg_w42) (ml := 1) rfl rfl (Nat.le_of_ble_eq_true rfl) ?_
  unfold f_42
  refine e_ld (t := 0) rfl (Or.inl ⟨rfl, Or.inl rfl⟩) rfl rfl ?_
  refine e_sw (lo' := 3) rfl rfl (by decide) ?_
  refine s_case (fun t : Int => some (M, cc, some (.int (yi t)))) (by decide) (fun h1 => ?_) (fun h1 => ?_)
  · refine e_ic (b := 1) rfl (by decide) (by decide) ?_
    exact e_iret rfl (Or.inr ⟨rfl, Or.inr rfl⟩)
  refine s_case (fun t : Int => some (M, cc, some (.int (yi t)))) (by decide) (fun h2 => ?_) (fun h2 => ?_)
  · refine e_ic (b := 0) rfl (by decide) (by decide) ?_
    exact e_iret rfl (Or.inr ⟨rfl, Or.inl rfl⟩)
  refine s_case (fun t : Int => some (M, cc, some (.int (yi t)))) (by decide) (fun h3 => ?_) (fun h3 => ?_)
  · refine e_ic (b := 0) rfl (by decide) (by decide) ?_
    exact e_iret rfl (Or.inr ⟨rfl, Or.inl rfl⟩)
  refine s_case (fun t : Int => some (M, cc, some (.int (yi t)))) (by decide) (fun h4 => ?_) (fun h4 => ?_)
  · refine e_ic (b := 0) rfl (by decide) (by decide) ?_
    exact e_iret rfl (Or.inr ⟨rfl, Or.inl rfl⟩)
  refine s_case (fun t : Int => some (M, cc, some (.int (yi t)))) (by decide) (fun h5 => ?_) (fun h5 => ?_)
  · refine e_ic (b := 0) rfl (by decide) (by decide) ?_
    exact e_iret rfl (Or.inr ⟨rfl, Or.inl rfl⟩)
  refine s_case (fun t : Int => some (M, cc, some (.int (yi t)))) (by decide) (fun h6 => ?_) (fun h6 => ?_)
  · refine e_ic (b := 0) rfl (by decide) (by decide) ?_
    exact e_iret rfl (Or.inr ⟨rfl, Or.inl rfl⟩)
  refine s_case (fun t : Int => some (M, cc, some (.int (yi t)))) (by decide) (fun h7 => ?_) (fun h7 => ?_)
  · refine e_ic (b := 1) rfl (by decide) (by decide) ?_
    exact e_iret rfl (Or.inr ⟨rfl, Or.inr rfl⟩)
  refine s_case (fun t : Int => some (M, cc, some (.int (yi t)))) (by decide) (fun h8 => ?_) (fun h8 => ?_)
  · refine e_ic (b := 1) rfl (by decide) (by decide) ?_
    exact e_iret rfl (Or.inr ⟨rfl, Or.inr rfl⟩)
  refine s_case (fun t : Int => some (M, cc, some (.int (yi t)))) (by decide) (fun h9 => ?_) (fun h9 => ?_)
  · refine e_ic (b := 0) rfl (by decide) (by decide) ?_
    exact e_iret rfl (Or.inr ⟨rfl, Or.inl rfl⟩)
  refine s_case (fun t : Int => some (M, cc, some (.int (yi t)))) (by decide) (fun h10 => ?_) (fun h10 => ?_)
  · refine e_ic (b := 1) rfl (by decide) (by decide) ?_
    exact e_iret rfl (Or.inr ⟨rfl, Or.inr rfl⟩)
  refine s_case (fun t : Int => some (M, cc, some (.int (yi t)))) (by decide) (fun h11 => ?_) (fun h11 => ?_)
  · refine e_ic (b := 1) rfl (by decide) (by decide) ?_
    exact e_iret rfl (Or.inr ⟨rfl, Or.inr rfl⟩)
  refine s_case (fun t : Int => some (M, cc, some (.int (yi t)))) (by decide) (fun h12 => ?_) (fun h12 => ?_)
  · refine e_ic (b := 0) rfl (by decide) (by decide) ?_
    exact e_iret rfl (Or.inr ⟨rfl, Or.inl rfl⟩)
  refine s_case (fun t : Int => some (M, cc, some (.int (yi t)))) (by decide) (fun h13 => ?_) (fun h13 => ?_)
  · refine e_ic (b := 1) rfl (by decide) (by decide) ?_
    exact e_iret rfl (Or.inr ⟨rfl, Or.inr rfl⟩)
  refine s_case (fun t : Int => some (M, cc, some (.int (yi t)))) (by decide) (fun h14 => ?_) (fun h14 => ?_)
  · refine e_ic (b := 1) rfl (by decide) (by decide) ?_
    exact e_iret rfl (Or.inr ⟨rfl, Or.inr rfl⟩)
  refine s_case (fun t : Int => some (M, cc, some (.int (yi t)))) (by decide) (fun h15 => ?_) (fun h15 => ?_)
  · refine e_ic (b := 1) rfl (by decide) (by decide) ?_
    exact e_iret rfl (Or.inr ⟨rfl, Or.inr rfl⟩)
  refine s_case (fun t : Int => some (M, cc, some (.int (yi t)))) (by decide) (fun h16 => ?_) (fun h16 => ?_)
  · refine e_ic (b := 1) rfl (by decide) (by decide) ?_
    exact e_iret rfl (Or.inr ⟨rfl, Or.inr rfl⟩)
  refine s_case (fun t : Int => some (M, cc, some (.int (yi t)))) (by decide) (fun h17 => ?_) (fun h17 => ?_)
  · refine e_ic (b := 1) rfl (by decide) (by decide) ?_
    exact e_iret rfl (Or.inr ⟨rfl, Or.inr rfl⟩)
  refine s_end ?_
  refine e_ic (b := 0) rfl (by decide) (by decide) ?_
  exact e_iret rfl (Or.inr ⟨rfl, Or.inl rfl⟩)
/-- UnwindTower$Code.read -/
def f_43 (M : yM) (r0 : Nat) (x1 : Int) (x2 : Int) : Int := (cond (yrel 0 x2 0) (yrd M (r0 + 1) x1) (cond (yrel 0 x2 (0 + 1)) (yrd M (r0 + 2) x1) (cond (yrel 0 x2 (0 + 1 + 1)) (yrd M (r0 + 3) x1) (cond (yrel 0 x2 (0 + 1 + 1 + 1)) (yrd M (r0 + 4) x1) (yrd M (r0 + 7) x1)))))
theorem t_43 {sc : List Int32} {dd cc : Nat} {M : yM} {r0 : Nat} {x1 : Int} {x2 : Int} (hd : 2 ≤ dd) (hr0 : pC r0) : yP sc dd 43 [.ref r0, .int (yi x1), .int (yi x2)] M cc (some (M, cc, some (.int (yi (f_43 M r0 x1 x2))))) := by
  obtain ⟨dd, rfl⟩ : ∃ e, dd = e + 1 := ⟨dd - 1, by omega⟩
  refine e_meth (C := zg_c43) (W := zg_w43) (ml := 3) rfl rfl (Nat.le_of_ble_eq_true rfl) ?_
  unfold f_43
  refine e_ld (t := 0) rfl (Or.inl ⟨rfl, Or.inl rfl⟩) rfl rfl ?_
  refine e_sw (lo' := 0) rfl rfl (by decide) ?_
  refine s_case (fun t : Int => some (M, cc, some (.int (yi t)))) (by decide) (fun h1 => ?_) (fun h1 => ?_)
  · refine e_ld (t := 2) rfl (Or.inr (Or.inl ⟨rfl, Or.inl rfl⟩)) rfl rfl ?_
    refine e_get (a := r0) (u := .ref (r0 + 1)) rfl (fC hr0) rfl (fun _ => rfl) ?_
    refine e_ld (t := 0) rfl (Or.inl ⟨rfl, Or.inl rfl⟩) rfl rfl ?_
    refine e_at (a := (r0 + 1)) (by omega) rfl (by decide) (Nat.le_of_ble_eq_true rfl) (nC_1 hr0) ?_
    exact e_iret rfl (Or.inl rfl)
  refine s_case (fun t : Int => some (M, cc, some (.int (yi t)))) (by decide) (fun h2 => ?_) (fun h2 => ?_)
  · refine e_ld (t := 2) rfl (Or.inr (Or.inl ⟨rfl, Or.inl rfl⟩)) rfl rfl ?_
    refine e_get (a := r0) (u := .ref (r0 + 2)) rfl (fC hr0) rfl (fun _ => rfl) ?_
    refine e_ld (t := 0) rfl (Or.inl ⟨rfl, Or.inl rfl⟩) rfl rfl ?_
    refine e_at (a := (r0 + 2)) (by omega) rfl (by decide) (Nat.le_of_ble_eq_true rfl) (nC_2 hr0) ?_
    exact e_iret rfl (Or.inl rfl)
  refine s_case (fun t : Int => some (M, cc, some (.int (yi t)))) (by decide) (fun h3 => ?_) (fun h3 => ?_)
  · refine e_ld (t := 2) rfl (Or.inr (Or.inl ⟨rfl, Or.inl rfl⟩)) rfl rfl ?_
    refine e_get (a := r0) (u := .ref (r0 + 3)) rfl (fC hr0) rfl (fun _ => rfl) ?_
    refine e_ld (t := 0) rfl (Or.inl ⟨rfl, Or.inl rfl⟩) rfl rfl ?_
    refine e_at (a := (r0 + 3)) (by omega) rfl (by decide) (Nat.le_of_ble_eq_true rfl) (nC_3 hr0) ?_
    exact e_iret rfl (Or.inl rfl)
  refine s_case (fun t : Int => some (M, cc, some (.int (yi t)))) (by decide) (fun h4 => ?_) (fun h4 => ?_)
  · refine e_ld (t := 2) rfl (Or.inr (Or.inl ⟨rfl, Or.inl rfl⟩)) rfl rfl ?_
    refine e_get (a := r0) (u := .ref (r0 + 4)) rfl (fC hr0) rfl (fun _ => rfl) ?_
    refine e_ld (t := 0) rfl (Or.inl ⟨rfl, Or.inl rfl⟩) rfl rfl ?_
    refine e_at (a := (r0 + 4)) (by omega) rfl (by decide) (Nat.le_of_ble_eq_true rfl) (nC_4 hr0) ?_
    exact e_iret rfl (Or.inl rfl)
  refine s_end ?_
  refine e_ld (t := 2) rfl (Or.inr (Or.inl ⟨rfl, Or.inl rfl⟩)) rfl rfl ?_
  refine e_get (a := r0) (u := .ref (r0 + 7)) rfl (fC hr0) rfl (fun _ => rfl) ?_
  refine e_ld (t := 0) rfl (Or.inl ⟨rfl, Or.inl rfl⟩) rfl rfl ?_
  refine e_at (a := (r0 + 7)) (by omega) rfl (by decide) (Nat.le_of_ble_eq_true rfl) (nC_7 hr0) ?_
  exact e_iret rfl (Or.inl rfl)
/-- UnwindTower$Compiler.emit -/
def f_45 (cc : Nat) (M : yM) (x1 : Int) (x2 : Int) (x3 : Int) (x4 : Int) (x5 : Int) (x6 : Int) : yM := (ylet (ywr M 101 (M cc 0) x6) fun M1 => (ylet (ywr M1 102 (M1 cc 0) 0) fun M2 => (ylet (f_39 M2 cc x1 x2 x3 x4 x5) fun t3 => t3)))
theorem t_45 {sc : List Int32} {dd cc : Nat} {M : yM} {x1 : Int} {x2 : Int} {x3 : Int} {x4 : Int} {x5 : Int} {x6 : Int} (hd : 3 ≤ dd) (hcc : pC cc) : yP sc dd 45 [.ref 96, .int (yi x1), .int (yi x2), .int (yi x3), .int (yi x4), .int (yi x5), .int (yi x6)] M cc (some ((f_45 cc M x1 x2 x3 x4 x5 x6), cc, none)) := by
  obtain ⟨dd, rfl⟩ : ∃ e, dd = e + 1 := ⟨dd - 1, by omega⟩
  refine e_meth (C := zg_c45) (W := zg_w45) (ml := 7) rfl rfl (Nat.le_of_ble_eq_true rfl) ?_
  unfold f_45
  refine e_ld (t := 2) rfl (Or.inr (Or.inl ⟨rfl, Or.inl rfl⟩)) rfl rfl ?_
  refine e_get (a := 96) (u := .ref 101) rfl rfl rfl (fun _ => rfl) ?_
  refine e_ld (t := 2) rfl (Or.inr (Or.inl ⟨rfl, Or.inl rfl⟩)) rfl rfl ?_
  refine e_get (a := 96) (u := .ref cc) rfl rfl rfl (fun _ => rfl) ?_
  refine e_get (a := cc) (u := .int (yi (M cc 0))) rfl (fC hcc) rfl (fun _ => rfl) ?_
  refine e_ld (t := 0) rfl (Or.inl ⟨rfl, Or.inr rfl⟩) rfl rfl ?_
  refine e_wr (a := 101) (by omega) rfl (by decide) (Nat.le_of_ble_eq_true rfl) rfl ?_
  refine y_let (fun t : yM => some (t, cc, none)) (fun M1 => ?_)
  refine e_ld (t := 2) rfl (Or.inr (Or.inl ⟨rfl, Or.inl rfl⟩)) rfl rfl ?_
  refine e_get (a := 96) (u := .ref 102) rfl rfl rfl (fun _ => rfl) ?_
  refine e_ld (t := 2) rfl (Or.inr (Or.inl ⟨rfl, Or.inl rfl⟩)) rfl rfl ?_
  refine e_get (a := 96) (u := .ref cc) rfl rfl rfl (fun _ => rfl) ?_
  refine e_get (a := cc) (u := .int (yi (M1 cc 0))) rfl (fC hcc) rfl (fun _ => rfl) ?_
  refine e_ic (b := 0) rfl (by decide) (by decide) ?_
  refine e_wr (a := 102) (by omega) rfl (by decide) (Nat.le_of_ble_eq_true rfl) rfl ?_
  refine y_let (fun t : yM => some (t, cc, none)) (fun M2 => ?_)
  refine e_ld (t := 2) rfl (Or.inr (Or.inl ⟨rfl, Or.inl rfl⟩)) rfl rfl ?_
  refine e_get (a := 96) (u := .ref cc) rfl rfl rfl (fun _ => rfl) ?_
  refine e_ld (t := 0) rfl (Or.inl ⟨rfl, Or.inl rfl⟩) rfl rfl ?_
  refine e_ld (t := 0) rfl (Or.inl ⟨rfl, Or.inl rfl⟩) rfl rfl ?_
  refine e_ld (t := 0) rfl (Or.inl ⟨rfl, Or.inl rfl⟩) rfl rfl ?_
  refine e_ld (t := 0) rfl (Or.inl ⟨rfl, Or.inr rfl⟩) rfl rfl ?_
  refine e_ld (t := 0) rfl (Or.inl ⟨rfl, Or.inr rfl⟩) rfl rfl ?_
  refine e_objP (fun t : yM => some (t, cc, none)) (h0 := (fun t : yM => (t, cc, none))) (a := cc) (as := [.int (yi x1), .int (yi x2), .int (yi x3), .int (yi x4), .int (yi x5)]) rfl (by decide) rfl (Nat.le_of_ble_eq_true rfl) (fC hcc) (t_39 (by omega) hcc) (fun t3 => ?_)
  exact e_vret rfl
/-- UnwindTower$Compiler.emitTo -/
def f_46 (cc : Nat) (M : yM) (x1 : Int) (x2 : Int) (x3 : Int) (x4 : Int) (x5 : Int) : yM := (ylet (ywr M 101 (M cc 0) x5) fun M1 => (ylet (ywr M1 102 (M1 cc 0) x1) fun M2 => (ylet (f_39 M2 cc x2 0 x3 0 x4) fun t3 => t3)))
theorem t_46 {sc : List Int32} {dd cc : Nat} {M : yM} {x1 : Int} {x2 : Int} {x3 : Int} {x4 : Int} {x5 : Int} (hd : 3 ≤ dd) (hcc : pC cc) : yP sc dd 46 [.ref 96, .int (yi x1), .int (yi x2), .int (yi x3), .int (yi x4), .int (yi x5)] M cc (some ((f_46 cc M x1 x2 x3 x4 x5), cc, none)) := by
  obtain ⟨dd, rfl⟩ : ∃ e, dd = e + 1 := ⟨dd - 1, by omega⟩
  refine e_meth (C := zg_c46) (W := zg_w46) (ml := 6) rfl rfl (Nat.le_of_ble_eq_true rfl) ?_
  unfold f_46
  refine e_ld (t := 2) rfl (Or.inr (Or.inl ⟨rfl, Or.inl rfl⟩)) rfl rfl ?_
  refine e_get (a := 96) (u := .ref 101) rfl rfl rfl (fun _ => rfl) ?_
  refine e_ld (t := 2) rfl (Or.inr (Or.inl ⟨rfl, Or.inl rfl⟩)) rfl rfl ?_
  refine e_get (a := 96) (u := .ref cc) rfl rfl rfl (fun _ => rfl) ?_
  refine e_get (a := cc) (u := .int (yi (M cc 0))) rfl (fC hcc) rfl (fun _ => rfl) ?_
  refine e_ld (t := 0) rfl (Or.inl ⟨rfl, Or.inr rfl⟩) rfl rfl ?_
  refine e_wr (a := 101) (by omega) rfl (by decide) (Nat.le_of_ble_eq_true rfl) rfl ?_
  refine y_let (fun t : yM => some (t, cc, none)) (fun M1 => ?_)
  refine e_ld (t := 2) rfl (Or.inr (Or.inl ⟨rfl, Or.inl rfl⟩)) rfl rfl ?_
  refine e_get (a := 96) (u := .ref 102) rfl rfl rfl (fun _ => rfl) ?_
  refine e_ld (t := 2) rfl (Or.inr (Or.inl ⟨rfl, Or.inl rfl⟩)) rfl rfl ?_
  refine e_get (a := 96) (u := .ref cc) rfl rfl rfl (fun _ => rfl) ?_
  refine e_get (a := cc) (u := .int (yi (M1 cc 0))) rfl (fC hcc) rfl (fun _ => rfl) ?_
  refine e_ld (t := 0) rfl (Or.inl ⟨rfl, Or.inl rfl⟩) rfl rfl ?_
  refine e_wr (a := 102) (by omega) rfl (by decide) (Nat.le_of_ble_eq_true rfl) rfl ?_
  refine y_let (fun t : yM => some (t, cc, none)) (fun M2 => ?_)
  refine e_ld (t := 2) rfl (Or.inr (Or.inl ⟨rfl, Or.inl rfl⟩)) rfl rfl ?_
  refine e_get (a := 96) (u := .ref cc) rfl rfl rfl (fun _ => rfl) ?_
  refine e_ld (t := 0) rfl (Or.inl ⟨rfl, Or.inl rfl⟩) rfl rfl ?_
  refine e_ic (b := 0) rfl (by decide) (by decide) ?_
  refine e_ld (t := 0) rfl (Or.inl ⟨rfl, Or.inl rfl⟩) rfl rfl ?_
  refine e_ic (b := 0) rfl (by decide) (by decide) ?_
  refine e_ld (t := 0) rfl (Or.inl ⟨rfl, Or.inr rfl⟩) rfl rfl ?_
  refine e_objP (fun t : yM => some (t, cc, none)) (h0 := (fun t : yM => (t, cc, none))) (a := cc) (as := [.int (yi x2), .int (yi 0), .int (yi x3), .int (yi 0), .int (yi x4)]) rfl (by decide) rfl (Nat.le_of_ble_eq_true rfl) (fC hcc) (t_39 (by omega) hcc) (fun t3 => ?_)
  exact e_vret rfl
/-- UnwindTower$Compiler.isGuarded -/
def f_49_19 (N : Nat) (M : yM) (x2 : Int) (x3 : Int) : Option (Int) := (cond (yrel 1 x3 x2) (some 0) (some 1))
theorem t_49_19 {sc : List Int32} {dd cc : Nat} {N : Nat} {M : yM} {x2 : Int} {x3 : Int} (hd : 1 ≤ dd) {L : zL} (hL2 : L 2 = some (.int (yi x2))) (hL3 : L 3 = some (.int (yi x3))) : yW sc zg_c49 zg_w49 dd 19 L [] M cc ((Option.map (fun t : Int => (M, cc, some (.int (yi t))))) (f_49_19 N M x2 x3)) := by
  unfold f_49_19
  refine e_ld (t := 0) rfl (Or.inl ⟨rfl, Or.inl rfl⟩) hL3 rfl ?_
  refine e_ld (t := 0) rfl (Or.inl ⟨rfl, Or.inl rfl⟩) hL2 rfl ?_
  refine e_cmp (Option.map (fun t : Int => (M, cc, some (.int (yi t))))) (q := 1) (by decide) rfl (fun h3 => ?_) (fun h3 => ?_)
  · refine e_ic (b := 0) rfl (by decide) (by decide) ?_
    exact e_iret rfl (Or.inr ⟨rfl, Or.inl rfl⟩)
  · refine e_ic (b := 1) rfl (by decide) (by decide) ?_
    refine e_go rfl ?_
    exact e_iret rfl (Or.inr ⟨rfl, Or.inr rfl⟩)
def f_49_7 (N : Nat) : Nat → yM → Int → Int → Int → Option (Int)
  | 0, _, _, _, _ => none
  | n + 1, M, x2, x3, x4 => (cond (yrel 5 x3 x2) (f_49_19 N M x2 x3) (cond (yrel 5 x4 0) (f_49_19 N M x2 x3) (ylet (yrd M 99 x3) fun v5 => (f_49_7 N n M x2 v5 (x4 + (-1))))))
theorem t_49_7 {sc : List Int32} {dd cc : Nat} {N : Nat} (hd : 1 ≤ dd) : ∀ (n : Nat) {M : yM} {x2 : Int} {x3 : Int} {x4 : Int} {L : zL} (hL0 : L 0 = some (.ref 96)) (hL2 : L 2 = some (.int (yi x2))) (hL3 : L 3 = some (.int (yi x3))) (hL4 : L 4 = some (.int (yi x4))), yW sc zg_c49 zg_w49 dd 7 L [] M cc ((Option.map (fun t : Int => (M, cc, some (.int (yi t))))) (f_49_7 N n M x2 x3 x4)) := by
  intro n
  induction n with
  | zero => intros; exact y_none
  | succ n IH =>
    intro M x2 x3 x4 L hL0 hL2 hL3 hL4
    rw [f_49_7]
    refine e_ld (t := 0) rfl (Or.inl ⟨rfl, Or.inl rfl⟩) hL3 rfl ?_
    refine e_ld (t := 0) rfl (Or.inl ⟨rfl, Or.inl rfl⟩) hL2 rfl ?_
    refine e_cmp (Option.map (fun t : Int => (M, cc, some (.int (yi t))))) (q := 5) (by decide) rfl (fun h2 => ?_) (fun h2 => ?_)
    · exact t_49_19 (by omega) hL2 hL3
    · refine e_ld (t := 0) rfl (Or.inl ⟨rfl, Or.inr rfl⟩) hL4 rfl ?_
      refine e_br (Option.map (fun t : Int => (M, cc, some (.int (yi t))))) (q := 5) (by decide) rfl (fun h4 => ?_) (fun h4 => ?_)
      · exact t_49_19 (by omega) hL2 hL3
      · refine e_ld (t := 2) rfl (Or.inr (Or.inl ⟨rfl, Or.inl rfl⟩)) hL0 rfl ?_
        refine e_get (a := 96) (u := .ref 99) rfl rfl rfl (fun _ => rfl) ?_
        refine e_ld (t := 0) rfl (Or.inl ⟨rfl, Or.inl rfl⟩) hL3 rfl ?_
        refine e_at (a := 99) (by omega) rfl (by decide) (Nat.le_of_ble_eq_true rfl) rfl ?_
        refine e_stl (g := (Option.map (fun t : Int => (M, cc, some (.int (yi t)))))) rfl (Or.inl rfl) (fun v5 => ?_)
        refine e_inc (d := (-1)) rfl (l_ki (by decide) hL4) (by decide) ?_
        refine e_go rfl ?_
        exact IH (l_kr (by decide) (l_kr (by decide) hL0)) (l_ki (by decide) (l_ki (by decide) hL2)) (l_ki (by decide) l_s) l_s
def f_49 (N : Nat) (M : yM) (x1 : Int) (x2 : Int) : Option (Int) := (ylet (yrd M 101 x1) fun v1 => (f_49_7 N N M x2 v1 90))
theorem t_49 {sc : List Int32} {dd cc : Nat} {N : Nat} {M : yM} {x1 : Int} {x2 : Int} (hd : 2 ≤ dd) : yP sc dd 49 [.ref 96, .int (yi x1), .int (yi x2)] M cc ((Option.map (fun t : Int => (M, cc, some (.int (yi t))))) (f_49 N M x1 x2)) := by
  obtain ⟨dd, rfl⟩ : ∃ e, dd = e + 1 := ⟨dd - 1, by omega⟩
  refine e_meth (C := zg_c49) (W := zg_w49) (ml := 5) rfl rfl (Nat.le_of_ble_eq_true rfl) ?_
  unfold f_49
  refine e_ld (t := 2) rfl (Or.inr (Or.inl ⟨rfl, Or.inl rfl⟩)) rfl rfl ?_
  refine e_get (a := 96) (u := .ref 101) rfl rfl rfl (fun _ => rfl) ?_
  refine e_ld (t := 0) rfl (Or.inl ⟨rfl, Or.inl rfl⟩) rfl rfl ?_
  refine e_at (a := 101) (by omega) rfl (by decide) (Nat.le_of_ble_eq_true rfl) rfl ?_
  refine e_stl (g := (Option.map (fun t : Int => (M, cc, some (.int (yi t)))))) rfl (Or.inl rfl) (fun v1 => ?_)
  refine e_ic (b := 90) rfl (by decide) (by decide) ?_
  refine e_st (t := 0) rfl (Or.inl ⟨rfl, Or.inr rfl⟩) rfl ?_
  exact t_49_7 (by omega) N (l_kr (by decide) (l_kr (by decide) rfl)) (l_ki (by decide) (l_ki (by decide) rfl)) (l_ki (by decide) l_s) l_s
/-- UnwindTower$Compiler.layClose -/
def f_54 (cc : Nat) (M : yM) (x1 : Int) (x2 : Int) : yM := (ylet (yrd M 10 x1) fun v1 => (cond (yrel 0 v1 (-1)) M (ylet (f_45 cc M 17 v1 0 0 x1 x2) fun t3 => t3)))
theorem t_54 {sc : List Int32} {dd cc : Nat} {M : yM} {x1 : Int} {x2 : Int} (hd : 4 ≤ dd) (hcc : pC cc) : yP sc dd 54 [.ref 96, .int (yi x1), .int (yi x2)] M cc (some ((f_54 cc M x1 x2), cc, none)) := by
  obtain ⟨dd, rfl⟩ : ∃ e, dd = e + 1 := ⟨dd - 1, by omega⟩
  refine e_meth (C := zg_c54) (W := zg_w54) (ml := 4) rfl rfl (Nat.le_of_ble_eq_true rfl) ?_
  unfold f_54
  refine e_ld (t := 2) rfl (Or.inr (Or.inl ⟨rfl, Or.inl rfl⟩)) rfl rfl ?_
  refine e_get (a := 96) (u := .ref 1) rfl rfl rfl (fun _ => rfl) ?_
  refine e_get (a := 1) (u := .ref 10) rfl rfl rfl (fun _ => rfl) ?_
  refine e_ld (t := 0) rfl (Or.inl ⟨rfl, Or.inl rfl⟩) rfl rfl ?_
  refine e_at (a := 10) (by omega) rfl (by decide) (Nat.le_of_ble_eq_true rfl) rfl ?_
  refine e_stl (g := (fun t : yM => some (t, cc, none))) rfl (Or.inl rfl) (fun v1 => ?_)
  refine e_ld (t := 0) rfl (Or.inl ⟨rfl, Or.inl rfl⟩) l_s rfl ?_
  refine e_ic (b := (-1)) rfl (by decide) (by decide) ?_
  refine e_cmp (fun t : yM => some (t, cc, none)) (q := 0) (by decide) rfl (fun h2 => ?_) (fun h2 => ?_)
  · exact e_vret rfl
  · refine e_ld (t := 2) rfl (Or.inr (Or.inl ⟨rfl, Or.inl rfl⟩)) (l_kr (by decide) rfl) rfl ?_
    refine e_ic (b := 17) rfl (by decide) (by decide) ?_
    refine e_ld (t := 0) rfl (Or.inl ⟨rfl, Or.inl rfl⟩) l_s rfl ?_
    refine e_ic (b := 0) rfl (by decide) (by decide) ?_
    refine e_ic (b := 0) rfl (by decide) (by decide) ?_
    refine e_ld (t := 0) rfl (Or.inl ⟨rfl, Or.inl rfl⟩) (l_ki (by decide) rfl) rfl ?_
    refine e_ld (t := 0) rfl (Or.inl ⟨rfl, Or.inl rfl⟩) (l_ki (by decide) rfl) rfl ?_
    refine e_objP (fun t : yM => some (t, cc, none)) (h0 := (fun t : yM => (t, cc, none))) (a := 96) (as := [.int (yi 17), .int (yi v1), .int (yi 0), .int (yi 0), .int (yi x1), .int (yi x2)]) rfl (by decide) rfl (Nat.le_of_ble_eq_true rfl) rfl (t_45 (by omega) hcc) (fun t3 => ?_)
    exact e_vret rfl
/-- UnwindTower$Compiler.layRows -/
def f_61_54 (N : Nat) (cc : Nat) (ih11 : yM → Int → Int → Int → Int → Int → Int → Int → Option (yM)) (M : yM) (x2 : Int) (x3 : Int) (x4 : Int) (x5 : Int) (x6 : Int) (x7 : Int) (x8 : Int) : Option (yM) := (ih11 M x2 x3 x4 x5 x6 x7 (x8 + 1))
theorem t_61_54 {sc : List Int32} {dd cc : Nat} {N : Nat} {ih11 : yM → Int → Int → Int → Int → Int → Int → Int → Option (yM)} {M : yM} {x2 : Int} {x3 : Int} {x4 : Int} {x5 : Int} {x6 : Int} {x7 : Int} {x8 : Int} (hd : 3 ≤ dd) (hcc : pC cc) (ih11_ : ∀ {M : yM} {x2 : Int} {x3 : Int} {x4 : Int} {x5 : Int} {x6 : Int} {x7 : Int} {x8 : Int} {L : zL} (hL0 : L 0 = some (.ref 96)) (hL2 : L 2 = some (.int (yi x2))) (hL3 : L 3 = some (.int (yi x3))) (hL4 : L 4 = some (.int (yi x4))) (hL5 : L 5 = some (.int (yi x5))) (hL6 : L 6 = some (.int (yi x6))) (hL7 : L 7 = some (.int (yi x7))) (hL8 : L 8 = some (.int (yi x8))), yW sc zg_c61 zg_w61 dd 11 L [] M cc ((Option.map (fun t : yM => (t, cc, none))) (ih11 M x2 x3 x4 x5 x6 x7 x8))) {L : zL} (hL0 : L 0 = some (.ref 96)) (hL2 : L 2 = some (.int (yi x2))) (hL3 : L 3 = some (.int (yi x3))) (hL4 : L 4 = some (.int (yi x4))) (hL5 : L 5 = some (.int (yi x5))) (hL6 : L 6 = some (.int (yi x6))) (hL7 : L 7 = some (.int (yi x7))) (hL8 : L 8 = some (.int (yi x8))) : yW sc zg_c61 zg_w61 dd 54 L [] M cc ((Option.map (fun t : yM => (t, cc, none))) (f_61_54 N cc ih11 M x2 x3 x4 x5 x6 x7 x8)) := by
  unfold f_61_54
  refine e_inc (d := 1) rfl hL8 (by decide) ?_
  refine e_go rfl ?_
  exact ih11_ (l_kr (by decide) hL0) (l_ki (by decide) hL2) (l_ki (by decide) hL3) (l_ki (by decide) hL4) (l_ki (by decide) hL5) (l_ki (by decide) hL6) (l_ki (by decide) hL7) l_s
def f_61_48 (N : Nat) (cc : Nat) (ih11 : yM → Int → Int → Int → Int → Int → Int → Int → Option (yM)) (M : yM) (x2 : Int) (x3 : Int) (x4 : Int) (x5 : Int) (x8 : Int) : Option (yM) := (ylet (x8 + 1) fun v5 => (f_61_54 N cc ih11 M x2 x3 x4 x5 v5 0 x8))
theorem t_61_48 {sc : List Int32} {dd cc : Nat} {N : Nat} {ih11 : yM → Int → Int → Int → Int → Int → Int → Int → Option (yM)} {M : yM} {x2 : Int} {x3 : Int} {x4 : Int} {x5 : Int} {x8 : Int} (hd : 3 ≤ dd) (hcc : pC cc) (ih11_ : ∀ {M : yM} {x2 : Int} {x3 : Int} {x4 : Int} {x5 : Int} {x6 : Int} {x7 : Int} {x8 : Int} {L : zL} (hL0 : L 0 = some (.ref 96)) (hL2 : L 2 = some (.int (yi x2))) (hL3 : L 3 = some (.int (yi x3))) (hL4 : L 4 = some (.int (yi x4))) (hL5 : L 5 = some (.int (yi x5))) (hL6 : L 6 = some (.int (yi x6))) (hL7 : L 7 = some (.int (yi x7))) (hL8 : L 8 = some (.int (yi x8))), yW sc zg_c61 zg_w61 dd 11 L [] M cc ((Option.map (fun t : yM => (t, cc, none))) (ih11 M x2 x3 x4 x5 x6 x7 x8))) {L : zL} (hL0 : L 0 = some (.ref 96)) (hL2 : L 2 = some (.int (yi x2))) (hL3 : L 3 = some (.int (yi x3))) (hL4 : L 4 = some (.int (yi x4))) (hL5 : L 5 = some (.int (yi x5))) (hL8 : L 8 = some (.int (yi x8))) : yW sc zg_c61 zg_w61 dd 48 L [] M cc ((Option.map (fun t : yM => (t, cc, none))) (f_61_48 N cc ih11 M x2 x3 x4 x5 x8)) := by
  unfold f_61_48
  refine e_ld (t := 0) rfl (Or.inl ⟨rfl, Or.inr rfl⟩) hL8 rfl ?_
  refine e_ic (b := 1) rfl (by decide) (by decide) ?_
  refine e_add rfl ?_
  refine e_stl (g := (Option.map (fun t : yM => (t, cc, none)))) rfl (Or.inr rfl) (fun v5 => ?_)
  refine e_ic (b := 0) rfl (by decide) (by decide) ?_
  refine e_st (t := 0) rfl (Or.inl ⟨rfl, Or.inr rfl⟩) rfl ?_
  exact t_61_54 (by omega) hcc ih11_ (l_kr (by decide) (l_kr (by decide) hL0)) (l_ki (by decide) (l_ki (by decide) hL2)) (l_ki (by decide) (l_ki (by decide) hL3)) (l_ki (by decide) (l_ki (by decide) hL4)) (l_ki (by decide) (l_ki (by decide) hL5)) (l_ki (by decide) l_s) l_s (l_ki (by decide) (l_ki (by decide) hL8))
def f_61_39 (N : Nat) (cc : Nat) (ih11 : yM → Int → Int → Int → Int → Int → Int → Int → Option (yM)) (M : yM) (x2 : Int) (x3 : Int) (x4 : Int) (x5 : Int) (x6 : Int) (x7 : Int) (x8 : Int) : Option (yM) := (cond (yrel 0 x7 0) (f_61_48 N cc ih11 M x2 x3 x4 x5 x8) (Option.bind (f_140 M x6 x8 x4 x5) fun M6 => (f_61_48 N cc ih11 M6 x2 x3 x4 x5 x8)))
theorem t_61_39 {sc : List Int32} {dd cc : Nat} {N : Nat} {ih11 : yM → Int → Int → Int → Int → Int → Int → Int → Option (yM)} {M : yM} {x2 : Int} {x3 : Int} {x4 : Int} {x5 : Int} {x6 : Int} {x7 : Int} {x8 : Int} (hd : 3 ≤ dd) (hcc : pC cc) (ih11_ : ∀ {M : yM} {x2 : Int} {x3 : Int} {x4 : Int} {x5 : Int} {x6 : Int} {x7 : Int} {x8 : Int} {L : zL} (hL0 : L 0 = some (.ref 96)) (hL2 : L 2 = some (.int (yi x2))) (hL3 : L 3 = some (.int (yi x3))) (hL4 : L 4 = some (.int (yi x4))) (hL5 : L 5 = some (.int (yi x5))) (hL6 : L 6 = some (.int (yi x6))) (hL7 : L 7 = some (.int (yi x7))) (hL8 : L 8 = some (.int (yi x8))), yW sc zg_c61 zg_w61 dd 11 L [] M cc ((Option.map (fun t : yM => (t, cc, none))) (ih11 M x2 x3 x4 x5 x6 x7 x8))) {L : zL} (hL0 : L 0 = some (.ref 96)) (hL2 : L 2 = some (.int (yi x2))) (hL3 : L 3 = some (.int (yi x3))) (hL4 : L 4 = some (.int (yi x4))) (hL5 : L 5 = some (.int (yi x5))) (hL6 : L 6 = some (.int (yi x6))) (hL7 : L 7 = some (.int (yi x7))) (hL8 : L 8 = some (.int (yi x8))) : yW sc zg_c61 zg_w61 dd 39 L [] M cc ((Option.map (fun t : yM => (t, cc, none))) (f_61_39 N cc ih11 M x2 x3 x4 x5 x6 x7 x8)) := by
  unfold f_61_39
  refine e_ld (t := 0) rfl (Or.inl ⟨rfl, Or.inr rfl⟩) hL7 rfl ?_
  refine e_br (Option.map (fun t : yM => (t, cc, none))) (q := 0) (by decide) rfl (fun h4 => ?_) (fun h4 => ?_)
  · exact t_61_48 (by omega) hcc ih11_ hL0 hL2 hL3 hL4 hL5 hL8
  · refine e_ld (t := 2) rfl (Or.inr (Or.inl ⟨rfl, Or.inl rfl⟩)) hL0 rfl ?_
    refine e_get (a := 96) (u := .ref 21) rfl rfl rfl (fun _ => rfl) ?_
    refine e_ld (t := 0) rfl (Or.inl ⟨rfl, Or.inr rfl⟩) hL6 rfl ?_
    refine e_ld (t := 0) rfl (Or.inl ⟨rfl, Or.inr rfl⟩) hL8 rfl ?_
    refine e_ld (t := 0) rfl (Or.inl ⟨rfl, Or.inr rfl⟩) hL4 rfl ?_
    refine e_ld (t := 0) rfl (Or.inl ⟨rfl, Or.inr rfl⟩) hL5 rfl ?_
    refine e_objO (h0 := fun t => (t, cc, none)) (a := 21) (as := [.int (yi x6), .int (yi x8), .int (yi x4), .int (yi x5)]) rfl (by decide) rfl (Nat.le_of_ble_eq_true rfl) rfl (t_140 (by omega)) (fun M6 => ?_)
    exact t_61_48 (by omega) hcc ih11_ hL0 hL2 hL3 hL4 hL5 hL8
def f_61_37 (N : Nat) (cc : Nat) (ih11 : yM → Int → Int → Int → Int → Int → Int → Int → Option (yM)) (M : yM) (x2 : Int) (x3 : Int) (x4 : Int) (x5 : Int) (x6 : Int) (x8 : Int) (s0 : Int) : Option (yM) := (f_61_54 N cc ih11 M x2 x3 x4 x5 x6 s0 x8)
theorem t_61_37 {sc : List Int32} {dd cc : Nat} {N : Nat} {ih11 : yM → Int → Int → Int → Int → Int → Int → Int → Option (yM)} {M : yM} {x2 : Int} {x3 : Int} {x4 : Int} {x5 : Int} {x6 : Int} {x8 : Int} {s0 : Int} (hd : 3 ≤ dd) (hcc : pC cc) (ih11_ : ∀ {M : yM} {x2 : Int} {x3 : Int} {x4 : Int} {x5 : Int} {x6 : Int} {x7 : Int} {x8 : Int} {L : zL} (hL0 : L 0 = some (.ref 96)) (hL2 : L 2 = some (.int (yi x2))) (hL3 : L 3 = some (.int (yi x3))) (hL4 : L 4 = some (.int (yi x4))) (hL5 : L 5 = some (.int (yi x5))) (hL6 : L 6 = some (.int (yi x6))) (hL7 : L 7 = some (.int (yi x7))) (hL8 : L 8 = some (.int (yi x8))), yW sc zg_c61 zg_w61 dd 11 L [] M cc ((Option.map (fun t : yM => (t, cc, none))) (ih11 M x2 x3 x4 x5 x6 x7 x8))) {L : zL} (hL0 : L 0 = some (.ref 96)) (hL2 : L 2 = some (.int (yi x2))) (hL3 : L 3 = some (.int (yi x3))) (hL4 : L 4 = some (.int (yi x4))) (hL5 : L 5 = some (.int (yi x5))) (hL6 : L 6 = some (.int (yi x6))) (hL8 : L 8 = some (.int (yi x8))) : yW sc zg_c61 zg_w61 dd 37 L [.int (yi s0)] M cc ((Option.map (fun t : yM => (t, cc, none))) (f_61_37 N cc ih11 M x2 x3 x4 x5 x6 x8 s0)) := by
  unfold f_61_37
  refine e_st (t := 0) rfl (Or.inl ⟨rfl, Or.inr rfl⟩) rfl ?_
  refine e_go rfl ?_
  exact t_61_54 (by omega) hcc ih11_ (l_kr (by decide) hL0) (l_ki (by decide) hL2) (l_ki (by decide) hL3) (l_ki (by decide) hL4) (l_ki (by decide) hL5) (l_ki (by decide) hL6) l_s (l_ki (by decide) hL8)
def f_61_34 (N : Nat) (cc : Nat) (ih11 : yM → Int → Int → Int → Int → Int → Int → Int → Option (yM)) (M : yM) (x2 : Int) (x3 : Int) (x4 : Int) (x5 : Int) (x6 : Int) (x8 : Int) : Option (yM) := (f_61_37 N cc ih11 M x2 x3 x4 x5 x6 x8 1)
theorem t_61_34 {sc : List Int32} {dd cc : Nat} {N : Nat} {ih11 : yM → Int → Int → Int → Int → Int → Int → Int → Option (yM)} {M : yM} {x2 : Int} {x3 : Int} {x4 : Int} {x5 : Int} {x6 : Int} {x8 : Int} (hd : 3 ≤ dd) (hcc : pC cc) (ih11_ : ∀ {M : yM} {x2 : Int} {x3 : Int} {x4 : Int} {x5 : Int} {x6 : Int} {x7 : Int} {x8 : Int} {L : zL} (hL0 : L 0 = some (.ref 96)) (hL2 : L 2 = some (.int (yi x2))) (hL3 : L 3 = some (.int (yi x3))) (hL4 : L 4 = some (.int (yi x4))) (hL5 : L 5 = some (.int (yi x5))) (hL6 : L 6 = some (.int (yi x6))) (hL7 : L 7 = some (.int (yi x7))) (hL8 : L 8 = some (.int (yi x8))), yW sc zg_c61 zg_w61 dd 11 L [] M cc ((Option.map (fun t : yM => (t, cc, none))) (ih11 M x2 x3 x4 x5 x6 x7 x8))) {L : zL} (hL0 : L 0 = some (.ref 96)) (hL2 : L 2 = some (.int (yi x2))) (hL3 : L 3 = some (.int (yi x3))) (hL4 : L 4 = some (.int (yi x4))) (hL5 : L 5 = some (.int (yi x5))) (hL6 : L 6 = some (.int (yi x6))) (hL8 : L 8 = some (.int (yi x8))) : yW sc zg_c61 zg_w61 dd 34 L [] M cc ((Option.map (fun t : yM => (t, cc, none))) (f_61_34 N cc ih11 M x2 x3 x4 x5 x6 x8)) := by
  unfold f_61_34
  refine e_ic (b := 1) rfl (by decide) (by decide) ?_
  refine e_go rfl ?_
  exact t_61_37 (by omega) hcc ih11_ hL0 hL2 hL3 hL4 hL5 hL6 hL8
def f_61_11 (N : Nat) (cc : Nat) : Nat → yM → Int → Int → Int → Int → Int → Int → Int → Option (yM)
  | 0, _, _, _, _, _, _, _, _ => none
  | n + 1, M, x2, x3, x4, x5, x6, x7, x8 => (cond (yrel 4 x8 x2) (some M) (cond (yrel 3 x8 x2) (f_61_39 N cc (f_61_11 N cc n) M x2 x3 x4 x5 x6 x7 x8) (Option.bind (f_49 N M x8 x3) fun t7 => (cond (yrel 0 t7 0) (f_61_39 N cc (f_61_11 N cc n) M x2 x3 x4 x5 x6 x7 x8) (cond (yrel 1 x7 0) (f_61_34 N cc (f_61_11 N cc n) M x2 x3 x4 x5 x6 x8) (cond (yrel 0 (M 96 14) 0) (f_61_34 N cc (f_61_11 N cc n) M x2 x3 x4 x5 x6 x8) (cond (yrel 0 (f_42 M (yrd M (cc + 1) x8)) 0) (f_61_37 N cc (f_61_11 N cc n) M x2 x3 x4 x5 x6 x8 0) (f_61_34 N cc (f_61_11 N cc n) M x2 x3 x4 x5 x6 x8))))))))
theorem t_61_11 {sc : List Int32} {dd cc : Nat} {N : Nat} (hd : 3 ≤ dd) (hcc : pC cc) : ∀ (n : Nat) {M : yM} {x2 : Int} {x3 : Int} {x4 : Int} {x5 : Int} {x6 : Int} {x7 : Int} {x8 : Int} {L : zL} (hL0 : L 0 = some (.ref 96)) (hL2 : L 2 = some (.int (yi x2))) (hL3 : L 3 = some (.int (yi x3))) (hL4 : L 4 = some (.int (yi x4))) (hL5 : L 5 = some (.int (yi x5))) (hL6 : L 6 = some (.int (yi x6))) (hL7 : L 7 = some (.int (yi x7))) (hL8 : L 8 = some (.int (yi x8))), yW sc zg_c61 zg_w61 dd 11 L [] M cc ((Option.map (fun t : yM => (t, cc, none))) (f_61_11 N cc n M x2 x3 x4 x5 x6 x7 x8)) := by
  intro n
  induction n with
  | zero => intros; exact y_none
  | succ n IH =>
    intro M x2 x3 x4 x5 x6 x7 x8 L hL0 hL2 hL3 hL4 hL5 hL6 hL7 hL8
    rw [f_61_11]
    refine e_ld (t := 0) rfl (Or.inl ⟨rfl, Or.inr rfl⟩) hL8 rfl ?_
    refine e_ld (t := 0) rfl (Or.inl ⟨rfl, Or.inl rfl⟩) hL2 rfl ?_
    refine e_cmp (Option.map (fun t : yM => (t, cc, none))) (q := 4) (by decide) rfl (fun h2 => ?_) (fun h2 => ?_)
    · exact e_vret rfl
    · refine e_ld (t := 0) rfl (Or.inl ⟨rfl, Or.inr rfl⟩) hL8 rfl ?_
      refine e_ld (t := 0) rfl (Or.inl ⟨rfl, Or.inl rfl⟩) hL2 rfl ?_
      refine e_cmp (Option.map (fun t : yM => (t, cc, none))) (q := 3) (by decide) rfl (fun h3 => ?_) (fun h3 => ?_)
      · exact t_61_39 (by omega) hcc IH hL0 hL2 hL3 hL4 hL5 hL6 hL7 hL8
      · refine e_ld (t := 2) rfl (Or.inr (Or.inl ⟨rfl, Or.inl rfl⟩)) hL0 rfl ?_
        refine e_ld (t := 0) rfl (Or.inl ⟨rfl, Or.inr rfl⟩) hL8 rfl ?_
        refine e_ld (t := 0) rfl (Or.inl ⟨rfl, Or.inl rfl⟩) hL3 rfl ?_
        refine e_objO (h0 := (fun t : Int => (M, cc, some (.int (yi t))))) (h := (fun t : yM => (t, cc, none))) (a := 96) (as := [.int (yi x8), .int (yi x3)]) rfl (by decide) rfl (Nat.le_of_ble_eq_true rfl) rfl (t_49 (by omega)) (fun t7 => ?_)
        refine e_br (Option.map (fun t : yM => (t, cc, none))) (q := 0) (by decide) rfl (fun h8 => ?_) (fun h8 => ?_)
        · exact t_61_39 (by omega) hcc IH hL0 hL2 hL3 hL4 hL5 hL6 hL7 hL8
        · refine e_ld (t := 0) rfl (Or.inl ⟨rfl, Or.inr rfl⟩) hL7 rfl ?_
          refine e_br (Option.map (fun t : yM => (t, cc, none))) (q := 1) (by decide) rfl (fun h9 => ?_) (fun h9 => ?_)
          · exact t_61_34 (by omega) hcc IH hL0 hL2 hL3 hL4 hL5 hL6 hL8
          · refine e_ld (t := 2) rfl (Or.inr (Or.inl ⟨rfl, Or.inl rfl⟩)) hL0 rfl ?_
            refine e_get (a := 96) (u := .int (yi (M 96 14))) rfl rfl rfl (fun _ => rfl) ?_
            refine e_br (Option.map (fun t : yM => (t, cc, none))) (q := 0) (by decide) rfl (fun h10 => ?_) (fun h10 => ?_)
            · exact t_61_34 (by omega) hcc IH hL0 hL2 hL3 hL4 hL5 hL6 hL8
            · refine e_ld (t := 2) rfl (Or.inr (Or.inl ⟨rfl, Or.inl rfl⟩)) hL0 rfl ?_
              refine e_get (a := 96) (u := .ref cc) rfl rfl rfl (fun _ => rfl) ?_
              refine e_get (a := cc) (u := .ref (cc + 1)) rfl (fC hcc) rfl (fun _ => rfl) ?_
              refine e_ld (t := 0) rfl (Or.inl ⟨rfl, Or.inr rfl⟩) hL8 rfl ?_
              refine e_at (a := (cc + 1)) (by omega) rfl (by decide) (Nat.le_of_ble_eq_true rfl) (nC_1 hcc) ?_
              refine e_stat (M1 := M) (cc1 := cc) (v1 := some (.int (yi (f_42 M (yrd M (cc + 1) x8))))) (as := [.int (yi (yrd M (cc + 1) x8))]) rfl (by decide) rfl (Nat.le_of_ble_eq_true rfl) (t_42 (by omega)) ?_
              refine e_br (Option.map (fun t : yM => (t, cc, none))) (q := 0) (by decide) rfl (fun h11 => ?_) (fun h11 => ?_)
              · refine e_ic (b := 0) rfl (by decide) (by decide) ?_
                exact t_61_37 (by omega) hcc IH hL0 hL2 hL3 hL4 hL5 hL6 hL8
              · exact t_61_34 (by omega) hcc IH hL0 hL2 hL3 hL4 hL5 hL6 hL8
def f_61 (N : Nat) (cc : Nat) (M : yM) (x1 : Int) (x2 : Int) (x3 : Int) (x4 : Int) (x5 : Int) : Option (yM) := (cond (yrel 0 (M cc 1) 0) (f_61_11 N cc N M x2 x3 x4 x5 x1 0 x1) (some M))
theorem t_61 {sc : List Int32} {dd cc : Nat} {N : Nat} {M : yM} {x1 : Int} {x2 : Int} {x3 : Int} {x4 : Int} {x5 : Int} (hd : 4 ≤ dd) (hcc : pC cc) : yP sc dd 61 [.ref 96, .int (yi x1), .int (yi x2), .int (yi x3), .int (yi x4), .int (yi x5)] M cc ((Option.map (fun t : yM => (t, cc, none))) (f_61 N cc M x1 x2 x3 x4 x5)) := by
  obtain ⟨dd, rfl⟩ : ∃ e, dd = e + 1 := ⟨dd - 1, by omega⟩
  refine e_meth (C := zg_c61) (W := zg_w61) (ml := 9) rfl rfl (Nat.le_of_ble_eq_true rfl) ?_
  unfold f_61
  refine e_ld (t := 2) rfl (Or.inr (Or.inl ⟨rfl, Or.inl rfl⟩)) rfl rfl ?_
  refine e_get (a := 96) (u := .ref cc) rfl rfl rfl (fun _ => rfl) ?_
  refine e_get (a := cc) (u := .int (yi (M cc 1))) rfl (fC hcc) rfl (fun _ => rfl) ?_
  refine e_br (Option.map (fun t : yM => (t, cc, none))) (q := 0) (by decide) rfl (fun h1 => ?_) (fun h1 => ?_)
  · refine e_ld (t := 0) rfl (Or.inl ⟨rfl, Or.inl rfl⟩) rfl rfl ?_
    refine e_st (t := 0) rfl (Or.inl ⟨rfl, Or.inr rfl⟩) rfl ?_
    refine e_ic (b := 0) rfl (by decide) (by decide) ?_
    refine e_st (t := 0) rfl (Or.inl ⟨rfl, Or.inr rfl⟩) rfl ?_
    refine e_ld (t := 0) rfl (Or.inl ⟨rfl, Or.inl rfl⟩) (l_ki (by decide) (l_ki (by decide) rfl)) rfl ?_
    refine e_st (t := 0) rfl (Or.inl ⟨rfl, Or.inr rfl⟩) rfl ?_
    exact t_61_11 (by omega) hcc N (l_kr (by decide) (l_kr (by decide) (l_kr (by decide) rfl))) (l_ki (by decide) (l_ki (by decide) (l_ki (by decide) rfl))) (l_ki (by decide) (l_ki (by decide) (l_ki (by decide) rfl))) (l_ki (by decide) (l_ki (by decide) (l_ki (by decide) rfl))) (l_ki (by decide) (l_ki (by decide) (l_ki (by decide) rfl))) (l_ki (by decide) (l_ki (by decide) l_s)) (l_ki (by decide) l_s) l_s
  · exact e_vret rfl
/-- UnwindTower$Compiler.laySingle -/
def f_62 (cc : Nat) (M : yM) (x1 : Int) (r2 : Nat) : yM := (ylet (M r2 0) fun v1 => (ylet (M r2 3) fun v2 => (ylet (yrd M 8 x1) fun v3 => (ylet (yrd M 9 x1) fun v4 => (cond (yrel 0 (yrd M 7 x1) 0) (ylet (f_45 cc M 1 v3 v4 0 x1 v1) fun t6 => t6) (cond (yrel 0 (yrd M 7 x1) (0 + 1)) (ylet (f_45 cc M 2 v3 v4 0 x1 v1) fun t8 => t8) (cond (yrel 0 (yrd M 7 x1) (0 + 1 + 1)) (ylet (f_45 cc M 3 v3 v4 0 x1 v1) fun t10 => t10) (cond (yrel 0 (yrd M 7 x1) (0 + 1 + 1 + 1)) (ylet (f_45 cc M 4 v4 0 0 x1 v1) fun t12 => t12) (cond (yrel 0 (yrd M 7 x1) (0 + 1 + 1 + 1 + 1)) M (cond (yrel 0 (yrd M 7 x1) (0 + 1 + 1 + 1 + 1 + 1)) M (cond (yrel 0 (yrd M 7 x1) (0 + 1 + 1 + 1 + 1 + 1 + 1)) M (cond (yrel 0 (yrd M 7 x1) (0 + 1 + 1 + 1 + 1 + 1 + 1 + 1)) M (cond (yrel 0 (yrd M 7 x1) (0 + 1 + 1 + 1 + 1 + 1 + 1 + 1 + 1)) M (cond (yrel 0 (yrd M 7 x1) (0 + 1 + 1 + 1 + 1 + 1 + 1 + 1 + 1 + 1)) (ylet (f_45 cc M 9 v3 v4 0 x1 v1) fun t19 => t19) (cond (yrel 0 (yrd M 7 x1) (0 + 1 + 1 + 1 + 1 + 1 + 1 + 1 + 1 + 1 + 1)) (ylet (f_45 cc M 10 v3 v4 0 x1 v1) fun t21 => t21) (cond (yrel 0 (yrd M 7 x1) (0 + 1 + 1 + 1 + 1 + 1 + 1 + 1 + 1 + 1 + 1 + 1)) M (cond (yrel 0 (yrd M 7 x1) (0 + 1 + 1 + 1 + 1 + 1 + 1 + 1 + 1 + 1 + 1 + 1 + 1)) M (cond (yrel 0 (yrd M 7 x1) (0 + 1 + 1 + 1 + 1 + 1 + 1 + 1 + 1 + 1 + 1 + 1 + 1 + 1)) M (cond (yrel 0 (yrd M 7 x1) (0 + 1 + 1 + 1 + 1 + 1 + 1 + 1 + 1 + 1 + 1 + 1 + 1 + 1 + 1)) (ylet (f_45 cc M 12 v2 0 0 x1 v1) fun t26 => t26) (cond (yrel 0 (yrd M 7 x1) (0 + 1 + 1 + 1 + 1 + 1 + 1 + 1 + 1 + 1 + 1 + 1 + 1 + 1 + 1 + 1)) (ylet (f_45 cc M 13 v3 v4 v2 x1 v1) fun t28 => t28) (cond (yrel 0 (yrd M 7 x1) (0 + 1 + 1 + 1 + 1 + 1 + 1 + 1 + 1 + 1 + 1 + 1 + 1 + 1 + 1 + 1 + 1)) (ylet (f_45 cc M 14 v3 v2 0 x1 v1) fun t30 => t30) (cond (yrel 0 (yrd M 7 x1) (0 + 1 + 1 + 1 + 1 + 1 + 1 + 1 + 1 + 1 + 1 + 1 + 1 + 1 + 1 + 1 + 1 + 1)) (ylet (f_45 cc M 15 v3 v2 0 x1 v1) fun t32 => t32) (cond (yrel 0 (yrd M 7 x1) (0 + 1 + 1 + 1 + 1 + 1 + 1 + 1 + 1 + 1 + 1 + 1 + 1 + 1 + 1 + 1 + 1 + 1 + 1)) (ylet (f_45 cc M 16 v3 0 0 x1 v1) fun t34 => t34) M)))))))))))))))))))))))
theorem t_62 {sc : List Int32} {dd cc : Nat} {M : yM} {x1 : Int} {r2 : Nat} (hd : 4 ≤ dd) (hcc : pC cc) (hr2 : pP r2) : yP sc dd 62 [.ref 96, .int (yi x1), .ref r2] M cc (some ((f_62 cc M x1 r2), cc, none)) := by
  obtain ⟨dd, rfl⟩ : ∃ e, dd = e + 1 := ⟨dd - 1, by omega⟩
  refine e_meth (C := zg_c62) (W := zg_w62) (ml := 7) rfl rfl (Nat.le_of_ble_eq_true rfl) ?_
  unfold f_62
  refine e_ld (t := 2) rfl (Or.inr (Or.inl ⟨rfl, Or.inl rfl⟩)) rfl rfl ?_
  refine e_get (a := r2) (u := .int (yi (M r2 0))) rfl (fP hr2) rfl (fun _ => rfl) ?_
  refine e_stl (g := (fun t : yM => some (t, cc, none))) rfl (Or.inl rfl) (fun v1 => ?_)
  refine e_ld (t := 2) rfl (Or.inr (Or.inl ⟨rfl, Or.inl rfl⟩)) (l_kr (by decide) rfl) rfl ?_
  refine e_get (a := r2) (u := .int (yi (M r2 3))) rfl (fP hr2) rfl (fun _ => rfl) ?_
  refine e_stl (g := (fun t : yM => some (t, cc, none))) rfl (Or.inr rfl) (fun v2 => ?_)
  refine e_ld (t := 2) rfl (Or.inr (Or.inl ⟨rfl, Or.inl rfl⟩)) (l_kr (by decide) (l_kr (by decide) rfl)) rfl ?_
  refine e_get (a := 96) (u := .ref 1) rfl rfl rfl (fun _ => rfl) ?_
  refine e_get (a := 1) (u := .ref 8) rfl rfl rfl (fun _ => rfl) ?_
  refine e_ld (t := 0) rfl (Or.inl ⟨rfl, Or.inl rfl⟩) (l_ki (by decide) (l_ki (by decide) rfl)) rfl ?_
  refine e_at (a := 8) (by omega) rfl (by decide) (Nat.le_of_ble_eq_true rfl) rfl ?_
  refine e_stl (g := (fun t : yM => some (t, cc, none))) rfl (Or.inr rfl) (fun v3 => ?_)
  refine e_ld (t := 2) rfl (Or.inr (Or.inl ⟨rfl, Or.inl rfl⟩)) (l_kr (by decide) (l_kr (by decide) (l_kr (by decide) rfl))) rfl ?_
  refine e_get (a := 96) (u := .ref 1) rfl rfl rfl (fun _ => rfl) ?_
  refine e_get (a := 1) (u := .ref 9) rfl rfl rfl (fun _ => rfl) ?_
  refine e_ld (t := 0) rfl (Or.inl ⟨rfl, Or.inl rfl⟩) (l_ki (by decide) (l_ki (by decide) (l_ki (by decide) rfl))) rfl ?_
  refine e_at (a := 9) (by omega) rfl (by decide) (Nat.le_of_ble_eq_true rfl) rfl ?_
  refine e_stl (g := (fun t : yM => some (t, cc, none))) rfl (Or.inr rfl) (fun v4 => ?_)
  refine e_ld (t := 2) rfl (Or.inr (Or.inl ⟨rfl, Or.inl rfl⟩)) (l_kr (by decide) (l_kr (by decide) (l_kr (by decide) (l_kr (by decide) rfl)))) rfl ?_
  refine e_get (a := 96) (u := .ref 1) rfl rfl rfl (fun _ => rfl) ?_
  refine e_get (a := 1) (u := .ref 7) rfl rfl rfl (fun _ => rfl) ?_
  refine e_ld (t := 0) rfl (Or.inl ⟨rfl, Or.inl rfl⟩) (l_ki (by decide) (l_ki (by decide) (l_ki (by decide) (l_ki (by decide) rfl)))) rfl ?_
  refine e_at (a := 7) (by omega) rfl (by decide) (Nat.le_of_ble_eq_true rfl) rfl ?_
  refine e_sw (lo' := 0) rfl rfl (by decide) ?_
  refine s_case (fun t : yM => some (t, cc, none)) (by decide) (fun h5 => ?_) (fun h5 => ?_)
  · refine e_ld (t := 2) rfl (Or.inr (Or.inl ⟨rfl, Or.inl rfl⟩)) (l_kr (by decide) (l_kr (by decide) (l_kr (by decide) (l_kr (by decide) rfl)))) rfl ?_
    refine e_ic (b := 1) rfl (by decide) (by decide) ?_
    refine e_ld (t := 0) rfl (Or.inl ⟨rfl, Or.inr rfl⟩) (l_ki (by decide) l_s) rfl ?_
    refine e_ld (t := 0) rfl (Or.inl ⟨rfl, Or.inr rfl⟩) l_s rfl ?_
    refine e_ic (b := 0) rfl (by decide) (by decide) ?_
    refine e_ld (t := 0) rfl (Or.inl ⟨rfl, Or.inl rfl⟩) (l_ki (by decide) (l_ki (by decide) (l_ki (by decide) (l_ki (by decide) rfl)))) rfl ?_
    refine e_ld (t := 0) rfl (Or.inl ⟨rfl, Or.inl rfl⟩) (l_ki (by decide) (l_ki (by decide) (l_ki (by decide) l_s))) rfl ?_
    refine e_objP (fun t : yM => some (t, cc, none)) (h0 := (fun t : yM => (t, cc, none))) (a := 96) (as := [.int (yi 1), .int (yi v3), .int (yi v4), .int (yi 0), .int (yi x1), .int (yi v1)]) rfl (by decide) rfl (Nat.le_of_ble_eq_true rfl) rfl (t_45 (by omega) hcc) (fun t6 => ?_)
    refine e_go rfl ?_
    exact e_vret rfl
  refine s_case (fun t : yM => some (t, cc, none)) (by decide) (fun h7 => ?_) (fun h7 => ?_)
  · refine e_ld (t := 2) rfl (Or.inr (Or.inl ⟨rfl, Or.inl rfl⟩)) (l_kr (by decide) (l_kr (by decide) (l_kr (by decide) (l_kr (by decide) rfl)))) rfl ?_
    refine e_ic (b := 2) rfl (by decide) (by decide) ?_
    refine e_ld (t := 0) rfl (Or.inl ⟨rfl, Or.inr rfl⟩) (l_ki (by decide) l_s) rfl ?_
    refine e_ld (t := 0) rfl (Or.inl ⟨rfl, Or.inr rfl⟩) l_s rfl ?_
    refine e_ic (b := 0) rfl (by decide) (by decide) ?_
    refine e_ld (t := 0) rfl (Or.inl ⟨rfl, Or.inl rfl⟩) (l_ki (by decide) (l_ki (by decide) (l_ki (by decide) (l_ki (by decide) rfl)))) rfl ?_
    refine e_ld (t := 0) rfl (Or.inl ⟨rfl, Or.inl rfl⟩) (l_ki (by decide) (l_ki (by decide) (l_ki (by decide) l_s))) rfl ?_
    refine e_objP (fun t : yM => some (t, cc, none)) (h0 := (fun t : yM => (t, cc, none))) (a := 96) (as := [.int (yi 2), .int (yi v3), .int (yi v4), .int (yi 0), .int (yi x1), .int (yi v1)]) rfl (by decide) rfl (Nat.le_of_ble_eq_true rfl) rfl (t_45 (by omega) hcc) (fun t8 => ?_)
    refine e_go rfl ?_
    exact e_vret rfl
  refine s_case (fun t : yM => some (t, cc, none)) (by decide) (fun h9 => ?_) (fun h9 => ?_)
  · refine e_ld (t := 2) rfl (Or.inr (Or.inl ⟨rfl, Or.inl rfl⟩)) (l_kr (by decide) (l_kr (by decide) (l_kr (by decide) (l_kr (by decide) rfl)))) rfl ?_
    refine e_ic (b := 3) rfl (by decide) (by decide) ?_
    refine e_ld (t := 0) rfl (Or.inl ⟨rfl, Or.inr rfl⟩) (l_ki (by decide) l_s) rfl ?_
    refine e_ld (t := 0) rfl (Or.inl ⟨rfl, Or.inr rfl⟩) l_s rfl ?_
    refine e_ic (b := 0) rfl (by decide) (by decide) ?_
    refine e_ld (t := 0) rfl (Or.inl ⟨rfl, Or.inl rfl⟩) (l_ki (by decide) (l_ki (by decide) (l_ki (by decide) (l_ki (by decide) rfl)))) rfl ?_
    refine e_ld (t := 0) rfl (Or.inl ⟨rfl, Or.inl rfl⟩) (l_ki (by decide) (l_ki (by decide) (l_ki (by decide) l_s))) rfl ?_
    refine e_objP (fun t : yM => some (t, cc, none)) (h0 := (fun t : yM => (t, cc, none))) (a := 96) (as := [.int (yi 3), .int (yi v3), .int (yi v4), .int (yi 0), .int (yi x1), .int (yi v1)]) rfl (by decide) rfl (Nat.le_of_ble_eq_true rfl) rfl (t_45 (by omega) hcc) (fun t10 => ?_)
    refine e_go rfl ?_
    exact e_vret rfl
  refine s_case (fun t : yM => some (t, cc, none)) (by decide) (fun h11 => ?_) (fun h11 => ?_)
  · refine e_ld (t := 2) rfl (Or.inr (Or.inl ⟨rfl, Or.inl rfl⟩)) (l_kr (by decide) (l_kr (by decide) (l_kr (by decide) (l_kr (by decide) rfl)))) rfl ?_
    refine e_ic (b := 4) rfl (by decide) (by decide) ?_
    refine e_ld (t := 0) rfl (Or.inl ⟨rfl, Or.inr rfl⟩) l_s rfl ?_
    refine e_ic (b := 0) rfl (by decide) (by decide) ?_
    refine e_ic (b := 0) rfl (by decide) (by decide) ?_
    refine e_ld (t := 0) rfl (Or.inl ⟨rfl, Or.inl rfl⟩) (l_ki (by decide) (l_ki (by decide) (l_ki (by decide) (l_ki (by decide) rfl)))) rfl ?_
    refine e_ld (t := 0) rfl (Or.inl ⟨rfl, Or.inl rfl⟩) (l_ki (by decide) (l_ki (by decide) (l_ki (by decide) l_s))) rfl ?_
    refine e_objP (fun t : yM => some (t, cc, none)) (h0 := (fun t : yM => (t, cc, none))) (a := 96) (as := [.int (yi 4), .int (yi v4), .int (yi 0), .int (yi 0), .int (yi x1), .int (yi v1)]) rfl (by decide) rfl (Nat.le_of_ble_eq_true rfl) rfl (t_45 (by omega) hcc) (fun t12 => ?_)
    refine e_go rfl ?_
    exact e_vret rfl
  refine s_case (fun t : yM => some (t, cc, none)) (by decide) (fun h13 => ?_) (fun h13 => ?_)
  · exact e_vret rfl
  refine s_case (fun t : yM => some (t, cc, none)) (by decide) (fun h14 => ?_) (fun h14 => ?_)
  · exact e_vret rfl
  refine s_case (fun t : yM => some (t, cc, none)) (by decide) (fun h15 => ?_) (fun h15 => ?_)
  · exact e_vret rfl
  refine s_case (fun t : yM => some (t, cc, none)) (by decide) (fun h16 => ?_) (fun h16 => ?_)
  · exact e_vret rfl
  refine s_case (fun t : yM => some (t, cc, none)) (by decide) (fun h17 => ?_) (fun h17 => ?_)
  · exact e_vret rfl
  refine s_case (fun t : yM => some (t, cc, none)) (by decide) (fun h18 => ?_) (fun h18 => ?_)
  · refine e_ld (t := 2) rfl (Or.inr (Or.inl ⟨rfl, Or.inl rfl⟩)) (l_kr (by decide) (l_kr (by decide) (l_kr (by decide) (l_kr (by decide) rfl)))) rfl ?_
    refine e_ic (b := 9) rfl (by decide) (by decide) ?_
    refine e_ld (t := 0) rfl (Or.inl ⟨rfl, Or.inr rfl⟩) (l_ki (by decide) l_s) rfl ?_
    refine e_ld (t := 0) rfl (Or.inl ⟨rfl, Or.inr rfl⟩) l_s rfl ?_
    refine e_ic (b := 0) rfl (by decide) (by decide) ?_
    refine e_ld (t := 0) rfl (Or.inl ⟨rfl, Or.inl rfl⟩) (l_ki (by decide) (l_ki (by decide) (l_ki (by decide) (l_ki (by decide) rfl)))) rfl ?_
    refine e_ld (t := 0) rfl (Or.inl ⟨rfl, Or.inl rfl⟩) (l_ki (by decide) (l_ki (by decide) (l_ki (by decide) l_s))) rfl ?_
    refine e_objP (fun t : yM => some (t, cc, none)) (h0 := (fun t : yM => (t, cc, none))) (a := 96) (as := [.int (yi 9), .int (yi v3), .int (yi v4), .int (yi 0), .int (yi x1), .int (yi v1)]) rfl (by decide) rfl (Nat.le_of_ble_eq_true rfl) rfl (t_45 (by omega) hcc) (fun t19 => ?_)
    refine e_go rfl ?_
    exact e_vret rfl
  refine s_case (fun t : yM => some (t, cc, none)) (by decide) (fun h20 => ?_) (fun h20 => ?_)
  · refine e_ld (t := 2) rfl (Or.inr (Or.inl ⟨rfl, Or.inl rfl⟩)) (l_kr (by decide) (l_kr (by decide) (l_kr (by decide) (l_kr (by decide) rfl)))) rfl ?_
    refine e_ic (b := 10) rfl (by decide) (by decide) ?_
    refine e_ld (t := 0) rfl (Or.inl ⟨rfl, Or.inr rfl⟩) (l_ki (by decide) l_s) rfl ?_
    refine e_ld (t := 0) rfl (Or.inl ⟨rfl, Or.inr rfl⟩) l_s rfl ?_
    refine e_ic (b := 0) rfl (by decide) (by decide) ?_
    refine e_ld (t := 0) rfl (Or.inl ⟨rfl, Or.inl rfl⟩) (l_ki (by decide) (l_ki (by decide) (l_ki (by decide) (l_ki (by decide) rfl)))) rfl ?_
    refine e_ld (t := 0) rfl (Or.inl ⟨rfl, Or.inl rfl⟩) (l_ki (by decide) (l_ki (by decide) (l_ki (by decide) l_s))) rfl ?_
    refine e_objP (fun t : yM => some (t, cc, none)) (h0 := (fun t : yM => (t, cc, none))) (a := 96) (as := [.int (yi 10), .int (yi v3), .int (yi v4), .int (yi 0), .int (yi x1), .int (yi v1)]) rfl (by decide) rfl (Nat.le_of_ble_eq_true rfl) rfl (t_45 (by omega) hcc) (fun t21 => ?_)
    refine e_go rfl ?_
    exact e_vret rfl
  refine s_case (fun t : yM => some (t, cc, none)) (by decide) (fun h22 => ?_) (fun h22 => ?_)
  · exact e_vret rfl
  refine s_case (fun t : yM => some (t, cc, none)) (by decide) (fun h23 => ?_) (fun h23 => ?_)
  · exact e_vret rfl
  refine s_case (fun t : yM => some (t, cc, none)) (by decide) (fun h24 => ?_) (fun h24 => ?_)
  · exact e_vret rfl
  refine s_case (fun t : yM => some (t, cc, none)) (by decide) (fun h25 => ?_) (fun h25 => ?_)
  · refine e_ld (t := 2) rfl (Or.inr (Or.inl ⟨rfl, Or.inl rfl⟩)) (l_kr (by decide) (l_kr (by decide) (l_kr (by decide) (l_kr (by decide) rfl)))) rfl ?_
    refine e_ic (b := 12) rfl (by decide) (by decide) ?_
    refine e_ld (t := 0) rfl (Or.inl ⟨rfl, Or.inr rfl⟩) (l_ki (by decide) (l_ki (by decide) l_s)) rfl ?_
    refine e_ic (b := 0) rfl (by decide) (by decide) ?_
    refine e_ic (b := 0) rfl (by decide) (by decide) ?_
    refine e_ld (t := 0) rfl (Or.inl ⟨rfl, Or.inl rfl⟩) (l_ki (by decide) (l_ki (by decide) (l_ki (by decide) (l_ki (by decide) rfl)))) rfl ?_
    refine e_ld (t := 0) rfl (Or.inl ⟨rfl, Or.inl rfl⟩) (l_ki (by decide) (l_ki (by decide) (l_ki (by decide) l_s))) rfl ?_
    refine e_objP (fun t : yM => some (t, cc, none)) (h0 := (fun t : yM => (t, cc, none))) (a := 96) (as := [.int (yi 12), .int (yi v2), .int (yi 0), .int (yi 0), .int (yi x1), .int (yi v1)]) rfl (by decide) rfl (Nat.le_of_ble_eq_true rfl) rfl (t_45 (by omega) hcc) (fun t26 => ?_)
    refine e_go rfl ?_
    exact e_vret rfl
  refine s_case (fun t : yM => some (t, cc, none)) (by decide) (fun h27 => ?_) (fun h27 => ?_)
  · refine e_ld (t := 2) rfl (Or.inr (Or.inl ⟨rfl, Or.inl rfl⟩)) (l_kr (by decide) (l_kr (by decide) (l_kr (by decide) (l_kr (by decide) rfl)))) rfl ?_
    refine e_ic (b := 13) rfl (by decide) (by decide) ?_
    refine e_ld (t := 0) rfl (Or.inl ⟨rfl, Or.inr rfl⟩) (l_ki (by decide) l_s) rfl ?_
    refine e_ld (t := 0) rfl (Or.inl ⟨rfl, Or.inr rfl⟩) l_s rfl ?_
    refine e_ld (t := 0) rfl (Or.inl ⟨rfl, Or.inr rfl⟩) (l_ki (by decide) (l_ki (by decide) l_s)) rfl ?_
    refine e_ld (t := 0) rfl (Or.inl ⟨rfl, Or.inl rfl⟩) (l_ki (by decide) (l_ki (by decide) (l_ki (by decide) (l_ki (by decide) rfl)))) rfl ?_
    refine e_ld (t := 0) rfl (Or.inl ⟨rfl, Or.inl rfl⟩) (l_ki (by decide) (l_ki (by decide) (l_ki (by decide) l_s))) rfl ?_
    refine e_objP (fun t : yM => some (t, cc, none)) (h0 := (fun t : yM => (t, cc, none))) (a := 96) (as := [.int (yi 13), .int (yi v3), .int (yi v4), .int (yi v2), .int (yi x1), .int (yi v1)]) rfl (by decide) rfl (Nat.le_of_ble_eq_true rfl) rfl (t_45 (by omega) hcc) (fun t28 => ?_)
    refine e_go rfl ?_
    exact e_vret rfl
  refine s_case (fun t : yM => some (t, cc, none)) (by decide) (fun h29 => ?_) (fun h29 => ?_)
  · refine e_ld (t := 2) rfl (Or.inr (Or.inl ⟨rfl, Or.inl rfl⟩)) (l_kr (by decide) (l_kr (by decide) (l_kr (by decide) (l_kr (by decide) rfl)))) rfl ?_
    refine e_ic (b := 14) rfl (by decide) (by decide) ?_
    refine e_ld (t := 0) rfl (Or.inl ⟨rfl, Or.inr rfl⟩) (l_ki (by decide) l_s) rfl ?_
    refine e_ld (t := 0) rfl (Or.inl ⟨rfl, Or.inr rfl⟩) (l_ki (by decide) (l_ki (by decide) l_s)) rfl ?_
    refine e_ic (b := 0) rfl (by decide) (by decide) ?_
    refine e_ld (t := 0) rfl (Or.inl ⟨rfl, Or.inl rfl⟩) (l_ki (by decide) (l_ki (by decide) (l_ki (by decide) (l_ki (by decide) rfl)))) rfl ?_
    refine e_ld (t := 0) rfl (Or.inl ⟨rfl, Or.inl rfl⟩) (l_ki (by decide) (l_ki (by decide) (l_ki (by decide) l_s))) rfl ?_
    refine e_objP (fun t : yM => some (t, cc, none)) (h0 := (fun t : yM => (t, cc, none))) (a := 96) (as := [.int (yi 14), .int (yi v3), .int (yi v2), .int (yi 0), .int (yi x1), .int (yi v1)]) rfl (by decide) rfl (Nat.le_of_ble_eq_true rfl) rfl (t_45 (by omega) hcc) (fun t30 => ?_)
    refine e_go rfl ?_
    exact e_vret rfl
  refine s_case (fun t : yM => some (t, cc, none)) (by decide) (fun h31 => ?_) (fun h31 => ?_)
  · refine e_ld (t := 2) rfl (Or.inr (Or.inl ⟨rfl, Or.inl rfl⟩)) (l_kr (by decide) (l_kr (by decide) (l_kr (by decide) (l_kr (by decide) rfl)))) rfl ?_
    refine e_ic (b := 15) rfl (by decide) (by decide) ?_
    refine e_ld (t := 0) rfl (Or.inl ⟨rfl, Or.inr rfl⟩) (l_ki (by decide) l_s) rfl ?_
    refine e_ld (t := 0) rfl (Or.inl ⟨rfl, Or.inr rfl⟩) (l_ki (by decide) (l_ki (by decide) l_s)) rfl ?_
    refine e_ic (b := 0) rfl (by decide) (by decide) ?_
    refine e_ld (t := 0) rfl (Or.inl ⟨rfl, Or.inl rfl⟩) (l_ki (by decide) (l_ki (by decide) (l_ki (by decide) (l_ki (by decide) rfl)))) rfl ?_
    refine e_ld (t := 0) rfl (Or.inl ⟨rfl, Or.inl rfl⟩) (l_ki (by decide) (l_ki (by decide) (l_ki (by decide) l_s))) rfl ?_
    refine e_objP (fun t : yM => some (t, cc, none)) (h0 := (fun t : yM => (t, cc, none))) (a := 96) (as := [.int (yi 15), .int (yi v3), .int (yi v2), .int (yi 0), .int (yi x1), .int (yi v1)]) rfl (by decide) rfl (Nat.le_of_ble_eq_true rfl) rfl (t_45 (by omega) hcc) (fun t32 => ?_)
    refine e_go rfl ?_
    exact e_vret rfl
  refine s_case (fun t : yM => some (t, cc, none)) (by decide) (fun h33 => ?_) (fun h33 => ?_)
  · refine e_ld (t := 2) rfl (Or.inr (Or.inl ⟨rfl, Or.inl rfl⟩)) (l_kr (by decide) (l_kr (by decide) (l_kr (by decide) (l_kr (by decide) rfl)))) rfl ?_
    refine e_ic (b := 16) rfl (by decide) (by decide) ?_
    refine e_ld (t := 0) rfl (Or.inl ⟨rfl, Or.inr rfl⟩) (l_ki (by decide) l_s) rfl ?_
    refine e_ic (b := 0) rfl (by decide) (by decide) ?_
    refine e_ic (b := 0) rfl (by decide) (by decide) ?_
    refine e_ld (t := 0) rfl (Or.inl ⟨rfl, Or.inl rfl⟩) (l_ki (by decide) (l_ki (by decide) (l_ki (by decide) (l_ki (by decide) rfl)))) rfl ?_
    refine e_ld (t := 0) rfl (Or.inl ⟨rfl, Or.inl rfl⟩) (l_ki (by decide) (l_ki (by decide) (l_ki (by decide) l_s))) rfl ?_
    refine e_objP (fun t : yM => some (t, cc, none)) (h0 := (fun t : yM => (t, cc, none))) (a := 96) (as := [.int (yi 16), .int (yi v3), .int (yi 0), .int (yi 0), .int (yi x1), .int (yi v1)]) rfl (by decide) rfl (Nat.le_of_ble_eq_true rfl) rfl (t_45 (by omega) hcc) (fun t34 => ?_)
    refine e_go rfl ?_
    exact e_vret rfl
  refine s_end ?_
  exact e_vret rfl
