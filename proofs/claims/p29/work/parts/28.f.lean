/-! methods as functions of the numbers, with their ties (5) -/
/-- UnwindTower$Compiler.inner -/
def f_47 (M : yM) (x1 : Int) : yM := (ylet (f_48 M x1 x1) fun t1 => t1)
theorem t_47 {sc : List Int32} {dd cc : Nat} {M : yM} {x1 : Int} (hd : 3 ≤ dd) : yP sc dd 47 [.ref 96, .int (yi x1)] M cc (some ((f_47 M x1), cc, some (.ref (105 + 1 * ypz 91 (x1 + 1))))) := by
  obtain ⟨dd, rfl⟩ : ∃ e, dd = e + 1 := ⟨dd - 1, by omega⟩
  refine e_meth (C := zg_c47) (W := zg_w47) (ml := 2) rfl rfl (Nat.le_of_ble_eq_true rfl) ?_
  unfold f_47
  refine e_ld (t := 2) rfl (Or.inr (Or.inl ⟨rfl, Or.inl rfl⟩)) rfl rfl ?_
  refine e_ld (t := 0) rfl (Or.inl ⟨rfl, Or.inl rfl⟩) rfl rfl ?_
  refine e_ld (t := 0) rfl (Or.inl ⟨rfl, Or.inl rfl⟩) rfl rfl ?_
  refine e_objP (fun t : yM => some (t, cc, some (.ref (105 + 1 * ypz 91 (x1 + 1))))) (h0 := (fun t : yM => (t, cc, some (.ref (105 + 1 * ypz 91 (x1 + 1)))))) (a := 96) (as := [.int (yi x1), .int (yi x1)]) rfl (by decide) rfl (Nat.le_of_ble_eq_true rfl) rfl (t_48 (by omega)) (fun t1 => ?_)
  exact e_aret rfl
/-- UnwindTower$Compiler.layBreak -/
def f_51 (N : Nat) (ly : yM → Int → Int → Option yM) (cc : Nat) (M : yM) (x1 : Int) (x2 : Int) : Option (yM) := (Option.bind (f_65 N ly cc M x2 (M (105 + 1 * ypz 91 x2) 5)) fun t1 => (ylet (f_46 cc t1 (t1 (105 + 1 * ypz 91 x2) 4) 6 0 x1 (t1 (105 + 1 * ypz 91 x2) 5)) fun t2 => some t2))
theorem t_51 {sc : List Int32} {dd cc : Nat} {dl : Nat} {N : Nat} {ly : yM → Int → Int → Option yM} {M : yM} {x1 : Int} {x2 : Int} (hd : 6 ≤ dd) (hdl : dl + 2 ≤ dd) (hly : ∀ M a b, yP sc dl 50 [.ref 96, .int (yi a), .int (yi b)] M cc (Option.map (fun t => (t, cc, none)) (ly M a b))) (hcc : pC cc) : yP sc dd 51 [.ref 96, .int (yi x1), .int (yi x2)] M cc ((Option.map (fun t : yM => (t, cc, none))) (f_51 N ly cc M x1 x2)) := by
  obtain ⟨dd, rfl⟩ : ∃ e, dd = e + 1 := ⟨dd - 1, by omega⟩
  refine e_meth (C := zg_c51) (W := zg_w51) (ml := 4) rfl rfl (Nat.le_of_ble_eq_true rfl) ?_
  unfold f_51
  refine e_ld (t := 2) rfl (Or.inr (Or.inl ⟨rfl, Or.inl rfl⟩)) rfl rfl ?_
  refine e_ld (t := 0) rfl (Or.inl ⟨rfl, Or.inl rfl⟩) rfl rfl ?_
  refine e_obj (a := 96) (as := [.int (yi x2)]) rfl (by decide) rfl (Nat.le_of_ble_eq_true rfl) rfl (t_68 (by omega)) ?_
  refine e_st (t := 2) rfl (Or.inr ⟨rfl, Or.inl rfl⟩) rfl ?_
  refine e_ld (t := 2) rfl (Or.inr (Or.inl ⟨rfl, Or.inl rfl⟩)) (l_kr (by decide) rfl) rfl ?_
  refine e_ld (t := 0) rfl (Or.inl ⟨rfl, Or.inl rfl⟩) (l_ki (by decide) rfl) rfl ?_
  refine e_ld (t := 2) rfl (Or.inr (Or.inl ⟨rfl, Or.inl rfl⟩)) l_s rfl ?_
  refine e_get (a := (105 + 1 * ypz 91 x2)) (u := .int (yi (M (105 + 1 * ypz 91 x2) 5))) rfl (fP ⟨_, ypz_lt (by decide), rfl⟩) rfl (fun _ => rfl) ?_
  refine e_objO (h0 := (fun t : yM => (t, cc, none))) (h := (fun t : yM => (t, cc, none))) (a := 96) (as := [.int (yi x2), .int (yi (M (105 + 1 * ypz 91 x2) 5))]) rfl (by decide) rfl (Nat.le_of_ble_eq_true rfl) rfl (t_65 (by omega) (by omega) hly hcc) (fun t1 => ?_)
  refine e_ld (t := 2) rfl (Or.inr (Or.inl ⟨rfl, Or.inl rfl⟩)) (l_kr (by decide) rfl) rfl ?_
  refine e_ld (t := 2) rfl (Or.inr (Or.inl ⟨rfl, Or.inl rfl⟩)) l_s rfl ?_
  refine e_get (a := (105 + 1 * ypz 91 x2)) (u := .int (yi (t1 (105 + 1 * ypz 91 x2) 4))) rfl (fP ⟨_, ypz_lt (by decide), rfl⟩) rfl (fun _ => rfl) ?_
  refine e_ic (b := 6) rfl (by decide) (by decide) ?_
  refine e_ic (b := 0) rfl (by decide) (by decide) ?_
  refine e_ld (t := 0) rfl (Or.inl ⟨rfl, Or.inl rfl⟩) (l_ki (by decide) rfl) rfl ?_
  refine e_ld (t := 2) rfl (Or.inr (Or.inl ⟨rfl, Or.inl rfl⟩)) l_s rfl ?_
  refine e_get (a := (105 + 1 * ypz 91 x2)) (u := .int (yi (t1 (105 + 1 * ypz 91 x2) 5))) rfl (fP ⟨_, ypz_lt (by decide), rfl⟩) rfl (fun _ => rfl) ?_
  refine e_objP (Option.map (fun t : yM => (t, cc, none))) (h0 := (fun t : yM => (t, cc, none))) (a := 96) (as := [.int (yi (t1 (105 + 1 * ypz 91 x2) 4)), .int (yi 6), .int (yi 0), .int (yi x1), .int (yi (t1 (105 + 1 * ypz 91 x2) 5))]) rfl (by decide) rfl (Nat.le_of_ble_eq_true rfl) rfl (t_46 (by omega) hcc) (fun t2 => ?_)
  exact e_vret rfl
/-- UnwindTower$Compiler.layCatch -/
def f_52 (ly : yM → Int → Int → Option yM) (cc : Nat) (M : yM) (x1 : Int) (x2 : Int) (x3 : Int) : Option (yM) := (ylet (M (105 + 1 * ypz 91 x2) 1) fun v1 => (ylet (ywr M 103 x1 (M cc 0)) fun M2 => (ylet (f_40 M2 cc x1) fun t3 => (ylet (f_45 cc t3 11 v1 0 0 x1 x3) fun t4 => (ylet (f_47 t4 x2) fun t5 => (ylet (yU t5 (105 + 1 * ypz 91 (x2 + 1)) 0 x3) fun M6 => (ylet (yU M6 (105 + 1 * ypz 91 (x2 + 1)) 1 ((M6 (105 + 1 * ypz 91 (x2 + 1)) 1) + 1)) fun M7 => (ylet (yU M7 (105 + 1 * ypz 91 (x2 + 1)) 3 v1) fun M8 => (Option.bind (ly M8 (yrd M8 9 x1) (x2 + 1)) fun M9 => (ylet (ywr M9 104 x1 (M9 cc 0)) fun M10 => some M10))))))))))
theorem t_52 {sc : List Int32} {dd cc : Nat} {dl : Nat} {ly : yM → Int → Int → Option yM} {M : yM} {x1 : Int} {x2 : Int} {x3 : Int} (hd : 4 ≤ dd) (hdl : dl + 1 ≤ dd) (hly : ∀ M a b, yP sc dl 50 [.ref 96, .int (yi a), .int (yi b)] M cc (Option.map (fun t => (t, cc, none)) (ly M a b))) (hcc : pC cc) : yP sc dd 52 [.ref 96, .int (yi x1), .int (yi x2), .int (yi x3)] M cc ((Option.map (fun t : yM => (t, cc, none))) (f_52 ly cc M x1 x2 x3)) := by
  obtain ⟨dd, rfl⟩ : ∃ e, dd = e + 1 := ⟨dd - 1, by omega⟩
  refine e_meth (C := zg_c52) (W := zg_w52) (ml := 6) rfl rfl (Nat.le_of_ble_eq_true rfl) ?_
  unfold f_52
  refine e_ld (t := 2) rfl (Or.inr (Or.inl ⟨rfl, Or.inl rfl⟩)) rfl rfl ?_
  refine e_ld (t := 0) rfl (Or.inl ⟨rfl, Or.inl rfl⟩) rfl rfl ?_
  refine e_obj (a := 96) (as := [.int (yi x2)]) rfl (by decide) rfl (Nat.le_of_ble_eq_true rfl) rfl (t_68 (by omega)) ?_
  refine e_get (a := (105 + 1 * ypz 91 x2)) (u := .int (yi (M (105 + 1 * ypz 91 x2) 1))) rfl (fP ⟨_, ypz_lt (by decide), rfl⟩) rfl (fun _ => rfl) ?_
  refine e_stl (g := (Option.map (fun t : yM => (t, cc, none)))) rfl (Or.inr rfl) (fun v1 => ?_)
  refine e_ld (t := 2) rfl (Or.inr (Or.inl ⟨rfl, Or.inl rfl⟩)) (l_kr (by decide) rfl) rfl ?_
  refine e_get (a := 96) (u := .ref 103) rfl rfl rfl (fun _ => rfl) ?_
  refine e_ld (t := 0) rfl (Or.inl ⟨rfl, Or.inl rfl⟩) (l_ki (by decide) rfl) rfl ?_
  refine e_ld (t := 2) rfl (Or.inr (Or.inl ⟨rfl, Or.inl rfl⟩)) (l_kr (by decide) rfl) rfl ?_
  refine e_get (a := 96) (u := .ref cc) rfl rfl rfl (fun _ => rfl) ?_
  refine e_get (a := cc) (u := .int (yi (M cc 0))) rfl (fC hcc) rfl (fun _ => rfl) ?_
  refine e_wr (a := 103) (by omega) rfl (by decide) (Nat.le_of_ble_eq_true rfl) rfl ?_
  refine y_let (Option.map (fun t : yM => (t, cc, none))) (fun M2 => ?_)
  refine e_ld (t := 2) rfl (Or.inr (Or.inl ⟨rfl, Or.inl rfl⟩)) (l_kr (by decide) rfl) rfl ?_
  refine e_get (a := 96) (u := .ref cc) rfl rfl rfl (fun _ => rfl) ?_
  refine e_ld (t := 0) rfl (Or.inl ⟨rfl, Or.inl rfl⟩) (l_ki (by decide) rfl) rfl ?_
  refine e_objP (Option.map (fun t : yM => (t, cc, none))) (h0 := (fun t : yM => (t, cc, none))) (a := cc) (as := [.int (yi x1)]) rfl (by decide) rfl (Nat.le_of_ble_eq_true rfl) (fC hcc) (t_40 (by omega) hcc) (fun t3 => ?_)
  refine e_ld (t := 2) rfl (Or.inr (Or.inl ⟨rfl, Or.inl rfl⟩)) (l_kr (by decide) rfl) rfl ?_
  refine e_ic (b := 11) rfl (by decide) (by decide) ?_
  refine e_ld (t := 0) rfl (Or.inl ⟨rfl, Or.inr rfl⟩) l_s rfl ?_
  refine e_ic (b := 0) rfl (by decide) (by decide) ?_
  refine e_ic (b := 0) rfl (by decide) (by decide) ?_
  refine e_ld (t := 0) rfl (Or.inl ⟨rfl, Or.inl rfl⟩) (l_ki (by decide) rfl) rfl ?_
  refine e_ld (t := 0) rfl (Or.inl ⟨rfl, Or.inl rfl⟩) (l_ki (by decide) rfl) rfl ?_
  refine e_objP (Option.map (fun t : yM => (t, cc, none))) (h0 := (fun t : yM => (t, cc, none))) (a := 96) (as := [.int (yi 11), .int (yi v1), .int (yi 0), .int (yi 0), .int (yi x1), .int (yi x3)]) rfl (by decide) rfl (Nat.le_of_ble_eq_true rfl) rfl (t_45 (by omega) hcc) (fun t4 => ?_)
  refine e_ld (t := 2) rfl (Or.inr (Or.inl ⟨rfl, Or.inl rfl⟩)) (l_kr (by decide) rfl) rfl ?_
  refine e_ld (t := 0) rfl (Or.inl ⟨rfl, Or.inl rfl⟩) (l_ki (by decide) rfl) rfl ?_
  refine e_objP (Option.map (fun t : yM => (t, cc, none))) (h0 := (fun t : yM => (t, cc, some (.ref (105 + 1 * ypz 91 (x2 + 1)))))) (a := 96) (as := [.int (yi x2)]) rfl (by decide) rfl (Nat.le_of_ble_eq_true rfl) rfl (t_47 (by omega)) (fun t5 => ?_)
  refine e_st (t := 2) rfl (Or.inr ⟨rfl, Or.inr rfl⟩) rfl ?_
  refine e_ld (t := 2) rfl (Or.inr (Or.inl ⟨rfl, Or.inr rfl⟩)) l_s rfl ?_
  refine e_ld (t := 0) rfl (Or.inl ⟨rfl, Or.inl rfl⟩) (l_ki (by decide) (l_ki (by decide) rfl)) rfl ?_
  refine e_put (a := (105 + 1 * ypz 91 (x2 + 1))) rfl (Or.inl rfl) (fP ⟨_, ypz_lt (by decide), rfl⟩) rfl (Or.inl rfl) ?_
  refine y_let (Option.map (fun t : yM => (t, cc, none))) (fun M6 => ?_)
  refine e_ld (t := 2) rfl (Or.inr (Or.inl ⟨rfl, Or.inr rfl⟩)) l_s rfl ?_
  refine e_dup rfl (Or.inr ⟨_, rfl⟩) ?_
  refine e_get (a := (105 + 1 * ypz 91 (x2 + 1))) (u := .int (yi (M6 (105 + 1 * ypz 91 (x2 + 1)) 1))) rfl (fP ⟨_, ypz_lt (by decide), rfl⟩) rfl (fun _ => rfl) ?_
  refine e_ic (b := 1) rfl (by decide) (by decide) ?_
  refine e_add rfl ?_
  refine e_put (a := (105 + 1 * ypz 91 (x2 + 1))) rfl (Or.inl rfl) (fP ⟨_, ypz_lt (by decide), rfl⟩) rfl (Or.inl rfl) ?_
  refine y_let (Option.map (fun t : yM => (t, cc, none))) (fun M7 => ?_)
  refine e_ld (t := 2) rfl (Or.inr (Or.inl ⟨rfl, Or.inr rfl⟩)) l_s rfl ?_
  refine e_ld (t := 0) rfl (Or.inl ⟨rfl, Or.inr rfl⟩) (l_ki (by decide) l_s) rfl ?_
  refine e_put (a := (105 + 1 * ypz 91 (x2 + 1))) rfl (Or.inl rfl) (fP ⟨_, ypz_lt (by decide), rfl⟩) rfl (Or.inl rfl) ?_
  refine y_let (Option.map (fun t : yM => (t, cc, none))) (fun M8 => ?_)
  refine e_ld (t := 2) rfl (Or.inr (Or.inl ⟨rfl, Or.inl rfl⟩)) (l_kr (by decide) (l_kr (by decide) rfl)) rfl ?_
  refine e_ld (t := 2) rfl (Or.inr (Or.inl ⟨rfl, Or.inl rfl⟩)) (l_kr (by decide) (l_kr (by decide) rfl)) rfl ?_
  refine e_get (a := 96) (u := .ref 1) rfl rfl rfl (fun _ => rfl) ?_
  refine e_get (a := 1) (u := .ref 9) rfl rfl rfl (fun _ => rfl) ?_
  refine e_ld (t := 0) rfl (Or.inl ⟨rfl, Or.inl rfl⟩) (l_ki (by decide) (l_ki (by decide) rfl)) rfl ?_
  refine e_at (a := 9) (by omega) rfl (by decide) (Nat.le_of_ble_eq_true rfl) rfl ?_
  refine e_ld (t := 0) rfl (Or.inl ⟨rfl, Or.inl rfl⟩) (l_ki (by decide) (l_ki (by decide) rfl)) rfl ?_
  refine e_ic (b := 1) rfl (by decide) (by decide) ?_
  refine e_add rfl ?_
  refine e_objO (h0 := fun t => (t, cc, none)) (a := 96) (as := [.int (yi (yrd M8 9 x1)), .int (yi (x2 + 1))]) rfl (by decide) rfl (Nat.le_of_ble_eq_true rfl) rfl (yP_mono (by omega) (hly _ _ _)) (fun M9 => ?_)
  refine e_ld (t := 2) rfl (Or.inr (Or.inl ⟨rfl, Or.inl rfl⟩)) (l_kr (by decide) (l_kr (by decide) rfl)) rfl ?_
  refine e_get (a := 96) (u := .ref 104) rfl rfl rfl (fun _ => rfl) ?_
  refine e_ld (t := 0) rfl (Or.inl ⟨rfl, Or.inl rfl⟩) (l_ki (by decide) (l_ki (by decide) rfl)) rfl ?_
  refine e_ld (t := 2) rfl (Or.inr (Or.inl ⟨rfl, Or.inl rfl⟩)) (l_kr (by decide) (l_kr (by decide) rfl)) rfl ?_
  refine e_get (a := 96) (u := .ref cc) rfl rfl rfl (fun _ => rfl) ?_
  refine e_get (a := cc) (u := .int (yi (M9 cc 0))) rfl (fC hcc) rfl (fun _ => rfl) ?_
  refine e_wr (a := 104) (by omega) rfl (by decide) (Nat.le_of_ble_eq_true rfl) rfl ?_
  refine y_let (Option.map (fun t : yM => (t, cc, none))) (fun M10 => ?_)
  exact e_vret rfl
/-- UnwindTower$Compiler.layFinally -/
def f_55 (ly : yM → Int → Int → Option yM) (cc : Nat) (M : yM) (x1 : Int) (x2 : Int) (x3 : Int) : Option (yM) := (ylet (yrd M 8 x1) fun v1 => (cond (yrel 0 v1 (-1)) (some M) (ylet (f_47 M x2) fun t3 => (ylet (yU t3 (105 + 1 * ypz 91 (x2 + 1)) 1 x3) fun M4 => (ylet (yU M4 (105 + 1 * ypz 91 (x2 + 1)) 2 ((M4 (105 + 1 * ypz 91 (x2 + 1)) 2) + 1)) fun M5 => (Option.bind (ly M5 v1 (x2 + 1)) fun M6 => some M6))))))
theorem t_55 {sc : List Int32} {dd cc : Nat} {dl : Nat} {ly : yM → Int → Int → Option yM} {M : yM} {x1 : Int} {x2 : Int} {x3 : Int} (hd : 4 ≤ dd) (hdl : dl + 1 ≤ dd) (hly : ∀ M a b, yP sc dl 50 [.ref 96, .int (yi a), .int (yi b)] M cc (Option.map (fun t => (t, cc, none)) (ly M a b))) (hcc : pC cc) : yP sc dd 55 [.ref 96, .int (yi x1), .int (yi x2), .int (yi x3)] M cc ((Option.map (fun t : yM => (t, cc, none))) (f_55 ly cc M x1 x2 x3)) := by
  obtain ⟨dd, rfl⟩ : ∃ e, dd = e + 1 := ⟨dd - 1, by omega⟩
  refine e_meth (C := zg_c55) (W := zg_w55) (ml := 6) rfl rfl (Nat.le_of_ble_eq_true rfl) ?_
  unfold f_55
  refine e_ld (t := 2) rfl (Or.inr (Or.inl ⟨rfl, Or.inl rfl⟩)) rfl rfl ?_
  refine e_get (a := 96) (u := .ref 1) rfl rfl rfl (fun _ => rfl) ?_
  refine e_get (a := 1) (u := .ref 8) rfl rfl rfl (fun _ => rfl) ?_
  refine e_ld (t := 0) rfl (Or.inl ⟨rfl, Or.inl rfl⟩) rfl rfl ?_
  refine e_at (a := 8) (by omega) rfl (by decide) (Nat.le_of_ble_eq_true rfl) rfl ?_
  refine e_stl (g := (Option.map (fun t : yM => (t, cc, none)))) rfl (Or.inr rfl) (fun v1 => ?_)
  refine e_ld (t := 0) rfl (Or.inl ⟨rfl, Or.inr rfl⟩) l_s rfl ?_
  refine e_ic (b := (-1)) rfl (by decide) (by decide) ?_
  refine e_cmp (Option.map (fun t : yM => (t, cc, none))) (q := 0) (by decide) rfl (fun h2 => ?_) (fun h2 => ?_)
  · exact e_vret rfl
  · refine e_ld (t := 2) rfl (Or.inr (Or.inl ⟨rfl, Or.inl rfl⟩)) (l_kr (by decide) rfl) rfl ?_
    refine e_ld (t := 0) rfl (Or.inl ⟨rfl, Or.inl rfl⟩) (l_ki (by decide) rfl) rfl ?_
    refine e_objP (Option.map (fun t : yM => (t, cc, none))) (h0 := (fun t : yM => (t, cc, some (.ref (105 + 1 * ypz 91 (x2 + 1)))))) (a := 96) (as := [.int (yi x2)]) rfl (by decide) rfl (Nat.le_of_ble_eq_true rfl) rfl (t_47 (by omega)) (fun t3 => ?_)
    refine e_st (t := 2) rfl (Or.inr ⟨rfl, Or.inr rfl⟩) rfl ?_
    refine e_ld (t := 2) rfl (Or.inr (Or.inl ⟨rfl, Or.inr rfl⟩)) l_s rfl ?_
    refine e_ld (t := 0) rfl (Or.inl ⟨rfl, Or.inl rfl⟩) (l_ki (by decide) (l_ki (by decide) rfl)) rfl ?_
    refine e_put (a := (105 + 1 * ypz 91 (x2 + 1))) rfl (Or.inl rfl) (fP ⟨_, ypz_lt (by decide), rfl⟩) rfl (Or.inl rfl) ?_
    refine y_let (Option.map (fun t : yM => (t, cc, none))) (fun M4 => ?_)
    refine e_ld (t := 2) rfl (Or.inr (Or.inl ⟨rfl, Or.inr rfl⟩)) l_s rfl ?_
    refine e_dup rfl (Or.inr ⟨_, rfl⟩) ?_
    refine e_get (a := (105 + 1 * ypz 91 (x2 + 1))) (u := .int (yi (M4 (105 + 1 * ypz 91 (x2 + 1)) 2))) rfl (fP ⟨_, ypz_lt (by decide), rfl⟩) rfl (fun _ => rfl) ?_
    refine e_ic (b := 1) rfl (by decide) (by decide) ?_
    refine e_add rfl ?_
    refine e_put (a := (105 + 1 * ypz 91 (x2 + 1))) rfl (Or.inl rfl) (fP ⟨_, ypz_lt (by decide), rfl⟩) rfl (Or.inl rfl) ?_
    refine y_let (Option.map (fun t : yM => (t, cc, none))) (fun M5 => ?_)
    refine e_ld (t := 2) rfl (Or.inr (Or.inl ⟨rfl, Or.inl rfl⟩)) (l_kr (by decide) (l_kr (by decide) rfl)) rfl ?_
    refine e_ld (t := 0) rfl (Or.inl ⟨rfl, Or.inr rfl⟩) (l_ki (by decide) l_s) rfl ?_
    refine e_ld (t := 0) rfl (Or.inl ⟨rfl, Or.inl rfl⟩) (l_ki (by decide) (l_ki (by decide) rfl)) rfl ?_
    refine e_ic (b := 1) rfl (by decide) (by decide) ?_
    refine e_add rfl ?_
    refine e_objO (h0 := fun t => (t, cc, none)) (a := 96) (as := [.int (yi v1), .int (yi (x2 + 1))]) rfl (by decide) rfl (Nat.le_of_ble_eq_true rfl) rfl (yP_mono (by omega) (hly _ _ _)) (fun M6 => ?_)
    exact e_vret rfl
/-- UnwindTower$Compiler.layIf -/
def f_57 (N : Nat) (ly : yM → Int → Int → Option yM) (cc : Nat) (M : yM) (x1 : Int) (x2 : Int) : Option (yM) := (ylet (M (105 + 1 * ypz 91 x2) 0) fun v1 => (ylet (yrd M 10 x1) fun v2 => (ylet (M cc 0) fun v3 => (ylet (f_67 M) fun t4 => (ylet (t4.2) fun v5 => (ylet (f_46 cc t4.1 v5 5 (yrd t4.1 8 x1) x1 v1) fun t6 => (ylet (f_47 t6 x2) fun t7 => (Option.bind (ly t7 (yrd t7 9 x1) (x2 + 1)) fun M8 => (cond (yrel 1 v2 (-1)) (ylet (f_67 M8) fun t10 => (ylet (t10.2) fun v11 => (ylet (f_46 cc t10.1 v11 6 0 x1 v1) fun t12 => (Option.bind (f_69 N cc t12 v5 v3) fun t13 => (Option.bind (ly t13 v2 (x2 + 1)) fun M14 => (Option.bind (f_69 N cc M14 v11 v3) fun t15 => some t15)))))) (Option.bind (f_69 N cc M8 v5 v3) fun t16 => some t16))))))))))
theorem t_57 {sc : List Int32} {dd cc : Nat} {dl : Nat} {N : Nat} {ly : yM → Int → Int → Option yM} {M : yM} {x1 : Int} {x2 : Int} (hd : 4 ≤ dd) (hdl : dl + 1 ≤ dd) (hly : ∀ M a b, yP sc dl 50 [.ref 96, .int (yi a), .int (yi b)] M cc (Option.map (fun t => (t, cc, none)) (ly M a b))) (hcc : pC cc) : yP sc dd 57 [.ref 96, .int (yi x1), .int (yi x2)] M cc ((Option.map (fun t : yM => (t, cc, none))) (f_57 N ly cc M x1 x2)) := by
  obtain ⟨dd, rfl⟩ : ∃ e, dd = e + 1 := ⟨dd - 1, by omega⟩
  refine e_meth (C := zg_c57) (W := zg_w57) (ml := 8) rfl rfl (Nat.le_of_ble_eq_true rfl) ?_
  unfold f_57
  refine e_ld (t := 2) rfl (Or.inr (Or.inl ⟨rfl, Or.inl rfl⟩)) rfl rfl ?_
  refine e_ld (t := 0) rfl (Or.inl ⟨rfl, Or.inl rfl⟩) rfl rfl ?_
  refine e_obj (a := 96) (as := [.int (yi x2)]) rfl (by decide) rfl (Nat.le_of_ble_eq_true rfl) rfl (t_68 (by omega)) ?_
  refine e_get (a := (105 + 1 * ypz 91 x2)) (u := .int (yi (M (105 + 1 * ypz 91 x2) 0))) rfl (fP ⟨_, ypz_lt (by decide), rfl⟩) rfl (fun _ => rfl) ?_
  refine e_stl (g := (Option.map (fun t : yM => (t, cc, none)))) rfl (Or.inl rfl) (fun v1 => ?_)
  refine e_ld (t := 2) rfl (Or.inr (Or.inl ⟨rfl, Or.inl rfl⟩)) (l_kr (by decide) rfl) rfl ?_
  refine e_get (a := 96) (u := .ref 1) rfl rfl rfl (fun _ => rfl) ?_
  refine e_get (a := 1) (u := .ref 10) rfl rfl rfl (fun _ => rfl) ?_
  refine e_ld (t := 0) rfl (Or.inl ⟨rfl, Or.inl rfl⟩) (l_ki (by decide) rfl) rfl ?_
  refine e_at (a := 10) (by omega) rfl (by decide) (Nat.le_of_ble_eq_true rfl) rfl ?_
  refine e_stl (g := (Option.map (fun t : yM => (t, cc, none)))) rfl (Or.inr rfl) (fun v2 => ?_)
  refine e_ld (t := 2) rfl (Or.inr (Or.inl ⟨rfl, Or.inl rfl⟩)) (l_kr (by decide) (l_kr (by decide) rfl)) rfl ?_
  refine e_get (a := 96) (u := .ref cc) rfl rfl rfl (fun _ => rfl) ?_
  refine e_get (a := cc) (u := .int (yi (M cc 0))) rfl (fC hcc) rfl (fun _ => rfl) ?_
  refine e_stl (g := (Option.map (fun t : yM => (t, cc, none)))) rfl (Or.inr rfl) (fun v3 => ?_)
  refine e_ld (t := 2) rfl (Or.inr (Or.inl ⟨rfl, Or.inl rfl⟩)) (l_kr (by decide) (l_kr (by decide) (l_kr (by decide) rfl))) rfl ?_
  refine e_objP (Option.map (fun t : yM => (t, cc, none))) (h0 := (fun t : yM × Int => (t.1, cc, some (.int (yi t.2))))) (a := 96) (as := []) rfl (by decide) rfl (Nat.le_of_ble_eq_true rfl) rfl (t_67 (by omega)) (fun t4 => ?_)
  refine e_stl (g := (Option.map (fun t : yM => (t, cc, none)))) rfl (Or.inr rfl) (fun v5 => ?_)
  refine e_ld (t := 2) rfl (Or.inr (Or.inl ⟨rfl, Or.inl rfl⟩)) (l_kr (by decide) (l_kr (by decide) (l_kr (by decide) (l_kr (by decide) rfl)))) rfl ?_
  refine e_ld (t := 0) rfl (Or.inl ⟨rfl, Or.inr rfl⟩) l_s rfl ?_
  refine e_ic (b := 5) rfl (by decide) (by decide) ?_
  refine e_ld (t := 2) rfl (Or.inr (Or.inl ⟨rfl, Or.inl rfl⟩)) (l_kr (by decide) (l_kr (by decide) (l_kr (by decide) (l_kr (by decide) rfl)))) rfl ?_
  refine e_get (a := 96) (u := .ref 1) rfl rfl rfl (fun _ => rfl) ?_
  refine e_get (a := 1) (u := .ref 8) rfl rfl rfl (fun _ => rfl) ?_
  refine e_ld (t := 0) rfl (Or.inl ⟨rfl, Or.inl rfl⟩) (l_ki (by decide) (l_ki (by decide) (l_ki (by decide) (l_ki (by decide) rfl)))) rfl ?_
  refine e_at (a := 8) (by omega) rfl (by decide) (Nat.le_of_ble_eq_true rfl) rfl ?_
  refine e_ld (t := 0) rfl (Or.inl ⟨rfl, Or.inl rfl⟩) (l_ki (by decide) (l_ki (by decide) (l_ki (by decide) (l_ki (by decide) rfl)))) rfl ?_
  refine e_ld (t := 0) rfl (Or.inl ⟨rfl, Or.inl rfl⟩) (l_ki (by decide) (l_ki (by decide) (l_ki (by decide) l_s))) rfl ?_
  refine e_objP (Option.map (fun t : yM => (t, cc, none))) (h0 := (fun t : yM => (t, cc, none))) (a := 96) (as := [.int (yi v5), .int (yi 5), .int (yi (yrd t4.1 8 x1)), .int (yi x1), .int (yi v1)]) rfl (by decide) rfl (Nat.le_of_ble_eq_true rfl) rfl (t_46 (by omega) hcc) (fun t6 => ?_)
  refine e_ld (t := 2) rfl (Or.inr (Or.inl ⟨rfl, Or.inl rfl⟩)) (l_kr (by decide) (l_kr (by decide) (l_kr (by decide) (l_kr (by decide) rfl)))) rfl ?_
  refine e_ld (t := 0) rfl (Or.inl ⟨rfl, Or.inl rfl⟩) (l_ki (by decide) (l_ki (by decide) (l_ki (by decide) (l_ki (by decide) rfl)))) rfl ?_
  refine e_objP (Option.map (fun t : yM => (t, cc, none))) (h0 := (fun t : yM => (t, cc, some (.ref (105 + 1 * ypz 91 (x2 + 1)))))) (a := 96) (as := [.int (yi x2)]) rfl (by decide) rfl (Nat.le_of_ble_eq_true rfl) rfl (t_47 (by omega)) (fun t7 => ?_)
  refine e_pop rfl (Or.inr ⟨_, rfl⟩) ?_
  refine e_ld (t := 2) rfl (Or.inr (Or.inl ⟨rfl, Or.inl rfl⟩)) (l_kr (by decide) (l_kr (by decide) (l_kr (by decide) (l_kr (by decide) rfl)))) rfl ?_
  refine e_ld (t := 2) rfl (Or.inr (Or.inl ⟨rfl, Or.inl rfl⟩)) (l_kr (by decide) (l_kr (by decide) (l_kr (by decide) (l_kr (by decide) rfl)))) rfl ?_
  refine e_get (a := 96) (u := .ref 1) rfl rfl rfl (fun _ => rfl) ?_
  refine e_get (a := 1) (u := .ref 9) rfl rfl rfl (fun _ => rfl) ?_
  refine e_ld (t := 0) rfl (Or.inl ⟨rfl, Or.inl rfl⟩) (l_ki (by decide) (l_ki (by decide) (l_ki (by decide) (l_ki (by decide) rfl)))) rfl ?_
  refine e_at (a := 9) (by omega) rfl (by decide) (Nat.le_of_ble_eq_true rfl) rfl ?_
  refine e_ld (t := 0) rfl (Or.inl ⟨rfl, Or.inl rfl⟩) (l_ki (by decide) (l_ki (by decide) (l_ki (by decide) (l_ki (by decide) rfl)))) rfl ?_
  refine e_ic (b := 1) rfl (by decide) (by decide) ?_
  refine e_add rfl ?_
  refine e_objO (h0 := fun t => (t, cc, none)) (a := 96) (as := [.int (yi (yrd t7 9 x1)), .int (yi (x2 + 1))]) rfl (by decide) rfl (Nat.le_of_ble_eq_true rfl) rfl (yP_mono (by omega) (hly _ _ _)) (fun M8 => ?_)
  refine e_ld (t := 0) rfl (Or.inl ⟨rfl, Or.inr rfl⟩) (l_ki (by decide) (l_ki (by decide) l_s)) rfl ?_
  refine e_ic (b := (-1)) rfl (by decide) (by decide) ?_
  refine e_cmp (Option.map (fun t : yM => (t, cc, none))) (q := 1) (by decide) rfl (fun h9 => ?_) (fun h9 => ?_)
  · refine e_ld (t := 2) rfl (Or.inr (Or.inl ⟨rfl, Or.inl rfl⟩)) (l_kr (by decide) (l_kr (by decide) (l_kr (by decide) (l_kr (by decide) rfl)))) rfl ?_
    refine e_objP (Option.map (fun t : yM => (t, cc, none))) (h0 := (fun t : yM × Int => (t.1, cc, some (.int (yi t.2))))) (a := 96) (as := []) rfl (by decide) rfl (Nat.le_of_ble_eq_true rfl) rfl (t_67 (by omega)) (fun t10 => ?_)
    refine e_stl (g := (Option.map (fun t : yM => (t, cc, none)))) rfl (Or.inr rfl) (fun v11 => ?_)
    refine e_ld (t := 2) rfl (Or.inr (Or.inl ⟨rfl, Or.inl rfl⟩)) (l_kr (by decide) (l_kr (by decide) (l_kr (by decide) (l_kr (by decide) (l_kr (by decide) rfl))))) rfl ?_
    refine e_ld (t := 0) rfl (Or.inl ⟨rfl, Or.inr rfl⟩) l_s rfl ?_
    refine e_ic (b := 6) rfl (by decide) (by decide) ?_
    refine e_ic (b := 0) rfl (by decide) (by decide) ?_
    refine e_ld (t := 0) rfl (Or.inl ⟨rfl, Or.inl rfl⟩) (l_ki (by decide) (l_ki (by decide) (l_ki (by decide) (l_ki (by decide) (l_ki (by decide) rfl))))) rfl ?_
    refine e_ld (t := 0) rfl (Or.inl ⟨rfl, Or.inl rfl⟩) (l_ki (by decide) (l_ki (by decide) (l_ki (by decide) (l_ki (by decide) l_s)))) rfl ?_
    refine e_objP (Option.map (fun t : yM => (t, cc, none))) (h0 := (fun t : yM => (t, cc, none))) (a := 96) (as := [.int (yi v11), .int (yi 6), .int (yi 0), .int (yi x1), .int (yi v1)]) rfl (by decide) rfl (Nat.le_of_ble_eq_true rfl) rfl (t_46 (by omega) hcc) (fun t12 => ?_)
    refine e_ld (t := 2) rfl (Or.inr (Or.inl ⟨rfl, Or.inl rfl⟩)) (l_kr (by decide) (l_kr (by decide) (l_kr (by decide) (l_kr (by decide) (l_kr (by decide) rfl))))) rfl ?_
    refine e_ld (t := 0) rfl (Or.inl ⟨rfl, Or.inr rfl⟩) (l_ki (by decide) l_s) rfl ?_
    refine e_ld (t := 0) rfl (Or.inl ⟨rfl, Or.inr rfl⟩) (l_ki (by decide) (l_ki (by decide) l_s)) rfl ?_
    refine e_objO (h0 := (fun t : yM => (t, cc, none))) (h := (fun t : yM => (t, cc, none))) (a := 96) (as := [.int (yi v5), .int (yi v3)]) rfl (by decide) rfl (Nat.le_of_ble_eq_true rfl) rfl (t_69 (by omega) hcc) (fun t13 => ?_)
    refine e_ld (t := 2) rfl (Or.inr (Or.inl ⟨rfl, Or.inl rfl⟩)) (l_kr (by decide) (l_kr (by decide) (l_kr (by decide) (l_kr (by decide) (l_kr (by decide) rfl))))) rfl ?_
    refine e_ld (t := 0) rfl (Or.inl ⟨rfl, Or.inr rfl⟩) (l_ki (by decide) (l_ki (by decide) (l_ki (by decide) l_s))) rfl ?_
    refine e_ld (t := 0) rfl (Or.inl ⟨rfl, Or.inl rfl⟩) (l_ki (by decide) (l_ki (by decide) (l_ki (by decide) (l_ki (by decide) (l_ki (by decide) rfl))))) rfl ?_
    refine e_ic (b := 1) rfl (by decide) (by decide) ?_
    refine e_add rfl ?_
    refine e_objO (h0 := fun t => (t, cc, none)) (a := 96) (as := [.int (yi v2), .int (yi (x2 + 1))]) rfl (by decide) rfl (Nat.le_of_ble_eq_true rfl) rfl (yP_mono (by omega) (hly _ _ _)) (fun M14 => ?_)
    refine e_ld (t := 2) rfl (Or.inr (Or.inl ⟨rfl, Or.inl rfl⟩)) (l_kr (by decide) (l_kr (by decide) (l_kr (by decide) (l_kr (by decide) (l_kr (by decide) rfl))))) rfl ?_
    refine e_ld (t := 0) rfl (Or.inl ⟨rfl, Or.inr rfl⟩) l_s rfl ?_
    refine e_ld (t := 0) rfl (Or.inl ⟨rfl, Or.inr rfl⟩) (l_ki (by decide) (l_ki (by decide) l_s)) rfl ?_
    refine e_objO (h0 := (fun t : yM => (t, cc, none))) (h := (fun t : yM => (t, cc, none))) (a := 96) (as := [.int (yi v11), .int (yi v3)]) rfl (by decide) rfl (Nat.le_of_ble_eq_true rfl) rfl (t_69 (by omega) hcc) (fun t15 => ?_)
    exact e_vret rfl
  · refine e_ld (t := 2) rfl (Or.inr (Or.inl ⟨rfl, Or.inl rfl⟩)) (l_kr (by decide) (l_kr (by decide) (l_kr (by decide) (l_kr (by decide) rfl)))) rfl ?_
    refine e_ld (t := 0) rfl (Or.inl ⟨rfl, Or.inr rfl⟩) l_s rfl ?_
    refine e_ld (t := 0) rfl (Or.inl ⟨rfl, Or.inr rfl⟩) (l_ki (by decide) l_s) rfl ?_
    refine e_objO (h0 := (fun t : yM => (t, cc, none))) (h := (fun t : yM => (t, cc, none))) (a := 96) (as := [.int (yi v5), .int (yi v3)]) rfl (by decide) rfl (Nat.le_of_ble_eq_true rfl) rfl (t_69 (by omega) hcc) (fun t16 => ?_)
    exact e_vret rfl
/-- UnwindTower$Compiler.layLoop -/
def f_58 (N : Nat) (ly : yM → Int → Int → Option yM) (cc : Nat) (M : yM) (x1 : Int) (x2 : Int) : Option (yM) := (ylet (M (105 + 1 * ypz 91 x2) 0) fun v1 => (ylet (f_67 M) fun t2 => (ylet (t2.2) fun v3 => (ylet (f_45 cc t2.1 20 0 0 0 x1 v1) fun t4 => (ylet (t4 cc 0) fun v5 => (ylet (f_46 cc t4 v3 5 (100 + (yrd t4 8 x1)) x1 v1) fun t6 => (ylet (f_47 t6 x2) fun t7 => (ylet (yU t7 (105 + 1 * ypz 91 (x2 + 1)) 4 v3) fun M8 => (ylet (yU M8 (105 + 1 * ypz 91 (x2 + 1)) 5 v1) fun M9 => (Option.bind (ly M9 (yrd M9 9 x1) (x2 + 1)) fun M10 => (ylet (f_45 cc M10 6 v5 0 0 x1 v1) fun t11 => (Option.bind (f_69 N cc t11 v3 v5) fun t12 => some t12))))))))))))
theorem t_58 {sc : List Int32} {dd cc : Nat} {dl : Nat} {N : Nat} {ly : yM → Int → Int → Option yM} {M : yM} {x1 : Int} {x2 : Int} (hd : 4 ≤ dd) (hdl : dl + 1 ≤ dd) (hly : ∀ M a b, yP sc dl 50 [.ref 96, .int (yi a), .int (yi b)] M cc (Option.map (fun t => (t, cc, none)) (ly M a b))) (hcc : pC cc) : yP sc dd 58 [.ref 96, .int (yi x1), .int (yi x2)] M cc ((Option.map (fun t : yM => (t, cc, none))) (f_58 N ly cc M x1 x2)) := by
  obtain ⟨dd, rfl⟩ : ∃ e, dd = e + 1 := ⟨dd - 1, by omega⟩
  refine e_meth (C := zg_c58) (W := zg_w58) (ml := 7) rfl rfl (Nat.le_of_ble_eq_true rfl) ?_
  unfold f_58
  refine e_ld (t := 2) rfl (Or.inr (Or.inl ⟨rfl, Or.inl rfl⟩)) rfl rfl ?_
  refine e_ld (t := 0) rfl (Or.inl ⟨rfl, Or.inl rfl⟩) rfl rfl ?_
  refine e_obj (a := 96) (as := [.int (yi x2)]) rfl (by decide) rfl (Nat.le_of_ble_eq_true rfl) rfl (t_68 (by omega)) ?_
  refine e_get (a := (105 + 1 * ypz 91 x2)) (u := .int (yi (M (105 + 1 * ypz 91 x2) 0))) rfl (fP ⟨_, ypz_lt (by decide), rfl⟩) rfl (fun _ => rfl) ?_
  refine e_stl (g := (Option.map (fun t : yM => (t, cc, none)))) rfl (Or.inl rfl) (fun v1 => ?_)
  refine e_ld (t := 2) rfl (Or.inr (Or.inl ⟨rfl, Or.inl rfl⟩)) (l_kr (by decide) rfl) rfl ?_
  refine e_objP (Option.map (fun t : yM => (t, cc, none))) (h0 := (fun t : yM × Int => (t.1, cc, some (.int (yi t.2))))) (a := 96) (as := []) rfl (by decide) rfl (Nat.le_of_ble_eq_true rfl) rfl (t_67 (by omega)) (fun t2 => ?_)
  refine e_stl (g := (Option.map (fun t : yM => (t, cc, none)))) rfl (Or.inr rfl) (fun v3 => ?_)
  refine e_ld (t := 2) rfl (Or.inr (Or.inl ⟨rfl, Or.inl rfl⟩)) (l_kr (by decide) (l_kr (by decide) rfl)) rfl ?_
  refine e_ic (b := 20) rfl (by decide) (by decide) ?_
  refine e_ic (b := 0) rfl (by decide) (by decide) ?_
  refine e_ic (b := 0) rfl (by decide) (by decide) ?_
  refine e_ic (b := 0) rfl (by decide) (by decide) ?_
  refine e_ld (t := 0) rfl (Or.inl ⟨rfl, Or.inl rfl⟩) (l_ki (by decide) (l_ki (by decide) rfl)) rfl ?_
  refine e_ld (t := 0) rfl (Or.inl ⟨rfl, Or.inl rfl⟩) (l_ki (by decide) l_s) rfl ?_
  refine e_objP (Option.map (fun t : yM => (t, cc, none))) (h0 := (fun t : yM => (t, cc, none))) (a := 96) (as := [.int (yi 20), .int (yi 0), .int (yi 0), .int (yi 0), .int (yi x1), .int (yi v1)]) rfl (by decide) rfl (Nat.le_of_ble_eq_true rfl) rfl (t_45 (by omega) hcc) (fun t4 => ?_)
  refine e_ld (t := 2) rfl (Or.inr (Or.inl ⟨rfl, Or.inl rfl⟩)) (l_kr (by decide) (l_kr (by decide) rfl)) rfl ?_
  refine e_get (a := 96) (u := .ref cc) rfl rfl rfl (fun _ => rfl) ?_
  refine e_get (a := cc) (u := .int (yi (t4 cc 0))) rfl (fC hcc) rfl (fun _ => rfl) ?_
  refine e_stl (g := (Option.map (fun t : yM => (t, cc, none)))) rfl (Or.inr rfl) (fun v5 => ?_)
  refine e_ld (t := 2) rfl (Or.inr (Or.inl ⟨rfl, Or.inl rfl⟩)) (l_kr (by decide) (l_kr (by decide) (l_kr (by decide) rfl))) rfl ?_
  refine e_ld (t := 0) rfl (Or.inl ⟨rfl, Or.inr rfl⟩) (l_ki (by decide) l_s) rfl ?_
  refine e_ic (b := 5) rfl (by decide) (by decide) ?_
  refine e_ic (b := 100) rfl (by decide) (by decide) ?_
  refine e_ld (t := 2) rfl (Or.inr (Or.inl ⟨rfl, Or.inl rfl⟩)) (l_kr (by decide) (l_kr (by decide) (l_kr (by decide) rfl))) rfl ?_
  refine e_get (a := 96) (u := .ref 1) rfl rfl rfl (fun _ => rfl) ?_
  refine e_get (a := 1) (u := .ref 8) rfl rfl rfl (fun _ => rfl) ?_
  refine e_ld (t := 0) rfl (Or.inl ⟨rfl, Or.inl rfl⟩) (l_ki (by decide) (l_ki (by decide) (l_ki (by decide) rfl))) rfl ?_
  refine e_at (a := 8) (by omega) rfl (by decide) (Nat.le_of_ble_eq_true rfl) rfl ?_
  refine e_add rfl ?_
  refine e_ld (t := 0) rfl (Or.inl ⟨rfl, Or.inl rfl⟩) (l_ki (by decide) (l_ki (by decide) (l_ki (by decide) rfl))) rfl ?_
  refine e_ld (t := 0) rfl (Or.inl ⟨rfl, Or.inl rfl⟩) (l_ki (by decide) (l_ki (by decide) l_s)) rfl ?_
  refine e_objP (Option.map (fun t : yM => (t, cc, none))) (h0 := (fun t : yM => (t, cc, none))) (a := 96) (as := [.int (yi v3), .int (yi 5), .int (yi (100 + (yrd t4 8 x1))), .int (yi x1), .int (yi v1)]) rfl (by decide) rfl (Nat.le_of_ble_eq_true rfl) rfl (t_46 (by omega) hcc) (fun t6 => ?_)
  refine e_ld (t := 2) rfl (Or.inr (Or.inl ⟨rfl, Or.inl rfl⟩)) (l_kr (by decide) (l_kr (by decide) (l_kr (by decide) rfl))) rfl ?_
  refine e_ld (t := 0) rfl (Or.inl ⟨rfl, Or.inl rfl⟩) (l_ki (by decide) (l_ki (by decide) (l_ki (by decide) rfl))) rfl ?_
  refine e_objP (Option.map (fun t : yM => (t, cc, none))) (h0 := (fun t : yM => (t, cc, some (.ref (105 + 1 * ypz 91 (x2 + 1)))))) (a := 96) (as := [.int (yi x2)]) rfl (by decide) rfl (Nat.le_of_ble_eq_true rfl) rfl (t_47 (by omega)) (fun t7 => ?_)
  refine e_st (t := 2) rfl (Or.inr ⟨rfl, Or.inr rfl⟩) rfl ?_
  refine e_ld (t := 2) rfl (Or.inr (Or.inl ⟨rfl, Or.inr rfl⟩)) l_s rfl ?_
  refine e_ld (t := 0) rfl (Or.inl ⟨rfl, Or.inr rfl⟩) (l_ki (by decide) (l_ki (by decide) l_s)) rfl ?_
  refine e_put (a := (105 + 1 * ypz 91 (x2 + 1))) rfl (Or.inl rfl) (fP ⟨_, ypz_lt (by decide), rfl⟩) rfl (Or.inl rfl) ?_
  refine y_let (Option.map (fun t : yM => (t, cc, none))) (fun M8 => ?_)
  refine e_ld (t := 2) rfl (Or.inr (Or.inl ⟨rfl, Or.inr rfl⟩)) l_s rfl ?_
  refine e_ld (t := 0) rfl (Or.inl ⟨rfl, Or.inl rfl⟩) (l_ki (by decide) (l_ki (by decide) (l_ki (by decide) l_s))) rfl ?_
  refine e_put (a := (105 + 1 * ypz 91 (x2 + 1))) rfl (Or.inl rfl) (fP ⟨_, ypz_lt (by decide), rfl⟩) rfl (Or.inl rfl) ?_
  refine y_let (Option.map (fun t : yM => (t, cc, none))) (fun M9 => ?_)
  refine e_ld (t := 2) rfl (Or.inr (Or.inl ⟨rfl, Or.inl rfl⟩)) (l_kr (by decide) (l_kr (by decide) (l_kr (by decide) (l_kr (by decide) rfl)))) rfl ?_
  refine e_ld (t := 2) rfl (Or.inr (Or.inl ⟨rfl, Or.inl rfl⟩)) (l_kr (by decide) (l_kr (by decide) (l_kr (by decide) (l_kr (by decide) rfl)))) rfl ?_
  refine e_get (a := 96) (u := .ref 1) rfl rfl rfl (fun _ => rfl) ?_
  refine e_get (a := 1) (u := .ref 9) rfl rfl rfl (fun _ => rfl) ?_
  refine e_ld (t := 0) rfl (Or.inl ⟨rfl, Or.inl rfl⟩) (l_ki (by decide) (l_ki (by decide) (l_ki (by decide) (l_ki (by decide) rfl)))) rfl ?_
  refine e_at (a := 9) (by omega) rfl (by decide) (Nat.le_of_ble_eq_true rfl) rfl ?_
  refine e_ld (t := 0) rfl (Or.inl ⟨rfl, Or.inl rfl⟩) (l_ki (by decide) (l_ki (by decide) (l_ki (by decide) (l_ki (by decide) rfl)))) rfl ?_
  refine e_ic (b := 1) rfl (by decide) (by decide) ?_
  refine e_add rfl ?_
  refine e_objO (h0 := fun t => (t, cc, none)) (a := 96) (as := [.int (yi (yrd M9 9 x1)), .int (yi (x2 + 1))]) rfl (by decide) rfl (Nat.le_of_ble_eq_true rfl) rfl (yP_mono (by omega) (hly _ _ _)) (fun M10 => ?_)
  refine e_ld (t := 2) rfl (Or.inr (Or.inl ⟨rfl, Or.inl rfl⟩)) (l_kr (by decide) (l_kr (by decide) (l_kr (by decide) (l_kr (by decide) rfl)))) rfl ?_
  refine e_ic (b := 6) rfl (by decide) (by decide) ?_
  refine e_ld (t := 0) rfl (Or.inl ⟨rfl, Or.inr rfl⟩) (l_ki (by decide) l_s) rfl ?_
  refine e_ic (b := 0) rfl (by decide) (by decide) ?_
  refine e_ic (b := 0) rfl (by decide) (by decide) ?_
  refine e_ld (t := 0) rfl (Or.inl ⟨rfl, Or.inl rfl⟩) (l_ki (by decide) (l_ki (by decide) (l_ki (by decide) (l_ki (by decide) rfl)))) rfl ?_
  refine e_ld (t := 0) rfl (Or.inl ⟨rfl, Or.inl rfl⟩) (l_ki (by decide) (l_ki (by decide) (l_ki (by decide) l_s))) rfl ?_
  refine e_objP (Option.map (fun t : yM => (t, cc, none))) (h0 := (fun t : yM => (t, cc, none))) (a := 96) (as := [.int (yi 6), .int (yi v5), .int (yi 0), .int (yi 0), .int (yi x1), .int (yi v1)]) rfl (by decide) rfl (Nat.le_of_ble_eq_true rfl) rfl (t_45 (by omega) hcc) (fun t11 => ?_)
  refine e_ld (t := 2) rfl (Or.inr (Or.inl ⟨rfl, Or.inl rfl⟩)) (l_kr (by decide) (l_kr (by decide) (l_kr (by decide) (l_kr (by decide) rfl)))) rfl ?_
  refine e_ld (t := 0) rfl (Or.inl ⟨rfl, Or.inr rfl⟩) (l_ki (by decide) (l_ki (by decide) l_s)) rfl ?_
  refine e_ld (t := 0) rfl (Or.inl ⟨rfl, Or.inr rfl⟩) (l_ki (by decide) l_s) rfl ?_
  refine e_objO (h0 := (fun t : yM => (t, cc, none))) (h := (fun t : yM => (t, cc, none))) (a := 96) (as := [.int (yi v3), .int (yi v5)]) rfl (by decide) rfl (Nat.le_of_ble_eq_true rfl) rfl (t_69 (by omega) hcc) (fun t12 => ?_)
  exact e_vret rfl
/-- UnwindTower$Compiler.layReturn -/
def f_60 (N : Nat) (ly : yM → Int → Int → Option yM) (cc : Nat) (M : yM) (x1 : Int) (x2 : Int) : Option (yM) := (ylet (f_45 cc M 7 (yrd M 9 x1) (M (105 + 1 * ypz 91 x2) 2) 0 x1 (M (105 + 1 * ypz 91 x2) 0)) fun t1 => (Option.bind (f_65 N ly cc t1 x2 (-1)) fun t2 => (ylet (f_45 cc t2 8 (t2 (105 + 1 * ypz 91 x2) 2) 0 0 x1 (-1)) fun t3 => some t3)))
theorem t_60 {sc : List Int32} {dd cc : Nat} {dl : Nat} {N : Nat} {ly : yM → Int → Int → Option yM} {M : yM} {x1 : Int} {x2 : Int} (hd : 6 ≤ dd) (hdl : dl + 2 ≤ dd) (hly : ∀ M a b, yP sc dl 50 [.ref 96, .int (yi a), .int (yi b)] M cc (Option.map (fun t => (t, cc, none)) (ly M a b))) (hcc : pC cc) : yP sc dd 60 [.ref 96, .int (yi x1), .int (yi x2)] M cc ((Option.map (fun t : yM => (t, cc, none))) (f_60 N ly cc M x1 x2)) := by
  obtain ⟨dd, rfl⟩ : ∃ e, dd = e + 1 := ⟨dd - 1, by omega⟩
  refine e_meth (C := zg_c60) (W := zg_w60) (ml := 4) rfl rfl (Nat.le_of_ble_eq_true rfl) ?_
  unfold f_60
  refine e_ld (t := 2) rfl (Or.inr (Or.inl ⟨rfl, Or.inl rfl⟩)) rfl rfl ?_
  refine e_ld (t := 0) rfl (Or.inl ⟨rfl, Or.inl rfl⟩) rfl rfl ?_
  refine e_obj (a := 96) (as := [.int (yi x2)]) rfl (by decide) rfl (Nat.le_of_ble_eq_true rfl) rfl (t_68 (by omega)) ?_
  refine e_st (t := 2) rfl (Or.inr ⟨rfl, Or.inl rfl⟩) rfl ?_
  refine e_ld (t := 2) rfl (Or.inr (Or.inl ⟨rfl, Or.inl rfl⟩)) (l_kr (by decide) rfl) rfl ?_
  refine e_ic (b := 7) rfl (by decide) (by decide) ?_
  refine e_ld (t := 2) rfl (Or.inr (Or.inl ⟨rfl, Or.inl rfl⟩)) (l_kr (by decide) rfl) rfl ?_
  refine e_get (a := 96) (u := .ref 1) rfl rfl rfl (fun _ => rfl) ?_
  refine e_get (a := 1) (u := .ref 9) rfl rfl rfl (fun _ => rfl) ?_
  refine e_ld (t := 0) rfl (Or.inl ⟨rfl, Or.inl rfl⟩) (l_ki (by decide) rfl) rfl ?_
  refine e_at (a := 9) (by omega) rfl (by decide) (Nat.le_of_ble_eq_true rfl) rfl ?_
  refine e_ld (t := 2) rfl (Or.inr (Or.inl ⟨rfl, Or.inl rfl⟩)) l_s rfl ?_
  refine e_get (a := (105 + 1 * ypz 91 x2)) (u := .int (yi (M (105 + 1 * ypz 91 x2) 2))) rfl (fP ⟨_, ypz_lt (by decide), rfl⟩) rfl (fun _ => rfl) ?_
  refine e_ic (b := 0) rfl (by decide) (by decide) ?_
  refine e_ld (t := 0) rfl (Or.inl ⟨rfl, Or.inl rfl⟩) (l_ki (by decide) rfl) rfl ?_
  refine e_ld (t := 2) rfl (Or.inr (Or.inl ⟨rfl, Or.inl rfl⟩)) l_s rfl ?_
  refine e_get (a := (105 + 1 * ypz 91 x2)) (u := .int (yi (M (105 + 1 * ypz 91 x2) 0))) rfl (fP ⟨_, ypz_lt (by decide), rfl⟩) rfl (fun _ => rfl) ?_
  refine e_objP (Option.map (fun t : yM => (t, cc, none))) (h0 := (fun t : yM => (t, cc, none))) (a := 96) (as := [.int (yi 7), .int (yi (yrd M 9 x1)), .int (yi (M (105 + 1 * ypz 91 x2) 2)), .int (yi 0), .int (yi x1), .int (yi (M (105 + 1 * ypz 91 x2) 0))]) rfl (by decide) rfl (Nat.le_of_ble_eq_true rfl) rfl (t_45 (by omega) hcc) (fun t1 => ?_)
  refine e_ld (t := 2) rfl (Or.inr (Or.inl ⟨rfl, Or.inl rfl⟩)) (l_kr (by decide) rfl) rfl ?_
  refine e_ld (t := 0) rfl (Or.inl ⟨rfl, Or.inl rfl⟩) (l_ki (by decide) rfl) rfl ?_
  refine e_ic (b := (-1)) rfl (by decide) (by decide) ?_
  refine e_objO (h0 := (fun t : yM => (t, cc, none))) (h := (fun t : yM => (t, cc, none))) (a := 96) (as := [.int (yi x2), .int (yi (-1))]) rfl (by decide) rfl (Nat.le_of_ble_eq_true rfl) rfl (t_65 (by omega) (by omega) hly hcc) (fun t2 => ?_)
  refine e_ld (t := 2) rfl (Or.inr (Or.inl ⟨rfl, Or.inl rfl⟩)) (l_kr (by decide) rfl) rfl ?_
  refine e_ic (b := 8) rfl (by decide) (by decide) ?_
  refine e_ld (t := 2) rfl (Or.inr (Or.inl ⟨rfl, Or.inl rfl⟩)) l_s rfl ?_
  refine e_get (a := (105 + 1 * ypz 91 x2)) (u := .int (yi (t2 (105 + 1 * ypz 91 x2) 2))) rfl (fP ⟨_, ypz_lt (by decide), rfl⟩) rfl (fun _ => rfl) ?_
  refine e_ic (b := 0) rfl (by decide) (by decide) ?_
  refine e_ic (b := 0) rfl (by decide) (by decide) ?_
  refine e_ld (t := 0) rfl (Or.inl ⟨rfl, Or.inl rfl⟩) (l_ki (by decide) rfl) rfl ?_
  refine e_ic (b := (-1)) rfl (by decide) (by decide) ?_
  refine e_objP (Option.map (fun t : yM => (t, cc, none))) (h0 := (fun t : yM => (t, cc, none))) (a := 96) (as := [.int (yi 8), .int (yi (t2 (105 + 1 * ypz 91 x2) 2)), .int (yi 0), .int (yi 0), .int (yi x1), .int (yi (-1))]) rfl (by decide) rfl (Nat.le_of_ble_eq_true rfl) rfl (t_45 (by omega) hcc) (fun t3 => ?_)
  exact e_vret rfl
/-- UnwindTower$Compiler.layTry -/
def f_63_135 (N : Nat) (ly : yM → Int → Int → Option yM) (cc : Nat) (M : yM) (x1 : Int) (x4 : Int) (x5 : Int) (x6 : Int) (x7 : Int) (x8 : Int) (x10 : Int) : Option (yM) := (Option.bind (f_69 N cc M x5 x8) fun t17 => (Option.bind (f_53 N cc t17 x1 x4 x7 x8) fun t18 => (cond (yrel 0 x6 (-1)) (some t18) (Option.bind (f_56 N cc t18 x1 x4 x7 x8 x10) fun t20 => some t20))))
theorem t_63_135 {sc : List Int32} {dd cc : Nat} {dl : Nat} {N : Nat} {ly : yM → Int → Int → Option yM} {M : yM} {x1 : Int} {x4 : Int} {x5 : Int} {x6 : Int} {x7 : Int} {x8 : Int} {x10 : Int} (hd : 5 ≤ dd) (hdl : dl + 1 ≤ dd) (hly : ∀ M a b, yP sc dl 50 [.ref 96, .int (yi a), .int (yi b)] M cc (Option.map (fun t => (t, cc, none)) (ly M a b))) (hcc : pC cc) {L : zL} (hL0 : L 0 = some (.ref 96)) (hL1 : L 1 = some (.int (yi x1))) (hL4 : L 4 = some (.int (yi x4))) (hL5 : L 5 = some (.int (yi x5))) (hL6 : L 6 = some (.int (yi x6))) (hL7 : L 7 = some (.int (yi x7))) (hL8 : L 8 = some (.int (yi x8))) (hL10 : L 10 = some (.int (yi x10))) : yW sc zg_c63 zg_w63 dd 135 L [] M cc ((Option.map (fun t : yM => (t, cc, none))) (f_63_135 N ly cc M x1 x4 x5 x6 x7 x8 x10)) := by
  unfold f_63_135
  refine e_ld (t := 2) rfl (Or.inr (Or.inl ⟨rfl, Or.inl rfl⟩)) hL0 rfl ?_
  refine e_ld (t := 0) rfl (Or.inl ⟨rfl, Or.inr rfl⟩) hL5 rfl ?_
  refine e_ld (t := 0) rfl (Or.inl ⟨rfl, Or.inr rfl⟩) hL8 rfl ?_
  refine e_objO (h0 := (fun t : yM => (t, cc, none))) (h := (fun t : yM => (t, cc, none))) (a := 96) (as := [.int (yi x5), .int (yi x8)]) rfl (by decide) rfl (Nat.le_of_ble_eq_true rfl) rfl (t_69 (by omega) hcc) (fun t17 => ?_)
  refine e_ld (t := 2) rfl (Or.inr (Or.inl ⟨rfl, Or.inl rfl⟩)) hL0 rfl ?_
  refine e_ld (t := 0) rfl (Or.inl ⟨rfl, Or.inl rfl⟩) hL1 rfl ?_
  refine e_ld (t := 0) rfl (Or.inl ⟨rfl, Or.inr rfl⟩) hL4 rfl ?_
  refine e_ld (t := 0) rfl (Or.inl ⟨rfl, Or.inr rfl⟩) hL7 rfl ?_
  refine e_ld (t := 0) rfl (Or.inl ⟨rfl, Or.inr rfl⟩) hL8 rfl ?_
  refine e_objO (h0 := (fun t : yM => (t, cc, none))) (h := (fun t : yM => (t, cc, none))) (a := 96) (as := [.int (yi x1), .int (yi x4), .int (yi x7), .int (yi x8)]) rfl (by decide) rfl (Nat.le_of_ble_eq_true rfl) rfl (t_53 (by omega) hcc) (fun t18 => ?_)
  refine e_ld (t := 0) rfl (Or.inl ⟨rfl, Or.inr rfl⟩) hL6 rfl ?_
  refine e_ic (b := (-1)) rfl (by decide) (by decide) ?_
  refine e_cmp (Option.map (fun t : yM => (t, cc, none))) (q := 0) (by decide) rfl (fun h19 => ?_) (fun h19 => ?_)
  · exact e_vret rfl
  · refine e_ld (t := 2) rfl (Or.inr (Or.inl ⟨rfl, Or.inl rfl⟩)) hL0 rfl ?_
    refine e_ld (t := 0) rfl (Or.inl ⟨rfl, Or.inl rfl⟩) hL1 rfl ?_
    refine e_ld (t := 0) rfl (Or.inl ⟨rfl, Or.inr rfl⟩) hL4 rfl ?_
    refine e_ld (t := 0) rfl (Or.inl ⟨rfl, Or.inr rfl⟩) hL7 rfl ?_
    refine e_ld (t := 0) rfl (Or.inl ⟨rfl, Or.inr rfl⟩) hL8 rfl ?_
    refine e_ld (t := 0) rfl (Or.inl ⟨rfl, Or.inr rfl⟩) hL10 rfl ?_
    refine e_objO (h0 := (fun t : yM => (t, cc, none))) (h := (fun t : yM => (t, cc, none))) (a := 96) (as := [.int (yi x1), .int (yi x4), .int (yi x7), .int (yi x8), .int (yi x10)]) rfl (by decide) rfl (Nat.le_of_ble_eq_true rfl) rfl (t_56 (by omega) hcc) (fun t20 => ?_)
    exact e_vret rfl
def f_63_100 (N : Nat) (ly : yM → Int → Int → Option yM) (cc : Nat) (M : yM) (x1 : Int) (x2 : Int) (r3 : Nat) (x4 : Int) (x5 : Int) (x6 : Int) (x7 : Int) (x8 : Int) : Option (yM) := (ylet (M cc 0) fun v15 => (cond (yrel 0 x6 (-1)) (f_63_135 N ly cc M x1 x4 x5 x6 x7 x8 v15) (ylet (f_45 cc M 11 (M r3 1) 0 0 x1 (M r3 0)) fun t21 => (Option.bind (f_55 ly cc t21 x1 x2 ((t21 r3 1) + 1)) fun t22 => (ylet (f_45 cc t22 12 (t22 r3 1) 0 0 x1 (t22 r3 0)) fun t23 => (f_63_135 N ly cc t23 x1 x4 x5 x6 x7 x8 v15))))))
theorem t_63_100 {sc : List Int32} {dd cc : Nat} {dl : Nat} {N : Nat} {ly : yM → Int → Int → Option yM} {M : yM} {x1 : Int} {x2 : Int} {r3 : Nat} {x4 : Int} {x5 : Int} {x6 : Int} {x7 : Int} {x8 : Int} (hd : 5 ≤ dd) (hdl : dl + 1 ≤ dd) (hly : ∀ M a b, yP sc dl 50 [.ref 96, .int (yi a), .int (yi b)] M cc (Option.map (fun t => (t, cc, none)) (ly M a b))) (hcc : pC cc) (hr3 : pP r3) {L : zL} (hL0 : L 0 = some (.ref 96)) (hL1 : L 1 = some (.int (yi x1))) (hL2 : L 2 = some (.int (yi x2))) (hL3 : L 3 = some (.ref r3)) (hL4 : L 4 = some (.int (yi x4))) (hL5 : L 5 = some (.int (yi x5))) (hL6 : L 6 = some (.int (yi x6))) (hL7 : L 7 = some (.int (yi x7))) (hL8 : L 8 = some (.int (yi x8))) : yW sc zg_c63 zg_w63 dd 100 L [] M cc ((Option.map (fun t : yM => (t, cc, none))) (f_63_100 N ly cc M x1 x2 r3 x4 x5 x6 x7 x8)) := by
  unfold f_63_100
  refine e_ld (t := 2) rfl (Or.inr (Or.inl ⟨rfl, Or.inl rfl⟩)) hL0 rfl ?_
  refine e_get (a := 96) (u := .ref cc) rfl rfl rfl (fun _ => rfl) ?_
  refine e_get (a := cc) (u := .int (yi (M cc 0))) rfl (fC hcc) rfl (fun _ => rfl) ?_
  refine e_stl (g := (Option.map (fun t : yM => (t, cc, none)))) rfl (Or.inr rfl) (fun v15 => ?_)
  refine e_ld (t := 0) rfl (Or.inl ⟨rfl, Or.inr rfl⟩) (l_ki (by decide) hL6) rfl ?_
  refine e_ic (b := (-1)) rfl (by decide) (by decide) ?_
  refine e_cmp (Option.map (fun t : yM => (t, cc, none))) (q := 0) (by decide) rfl (fun h16 => ?_) (fun h16 => ?_)
  · exact t_63_135 (by omega) (by omega) hly hcc (l_kr (by decide) hL0) (l_ki (by decide) hL1) (l_ki (by decide) hL4) (l_ki (by decide) hL5) (l_ki (by decide) hL6) (l_ki (by decide) hL7) (l_ki (by decide) hL8) l_s
  · refine e_ld (t := 2) rfl (Or.inr (Or.inl ⟨rfl, Or.inl rfl⟩)) (l_kr (by decide) hL0) rfl ?_
    refine e_ic (b := 11) rfl (by decide) (by decide) ?_
    refine e_ld (t := 2) rfl (Or.inr (Or.inl ⟨rfl, Or.inl rfl⟩)) (l_kr (by decide) hL3) rfl ?_
    refine e_get (a := r3) (u := .int (yi (M r3 1))) rfl (fP hr3) rfl (fun _ => rfl) ?_
    refine e_ic (b := 0) rfl (by decide) (by decide) ?_
    refine e_ic (b := 0) rfl (by decide) (by decide) ?_
    refine e_ld (t := 0) rfl (Or.inl ⟨rfl, Or.inl rfl⟩) (l_ki (by decide) hL1) rfl ?_
    refine e_ld (t := 2) rfl (Or.inr (Or.inl ⟨rfl, Or.inl rfl⟩)) (l_kr (by decide) hL3) rfl ?_
    refine e_get (a := r3) (u := .int (yi (M r3 0))) rfl (fP hr3) rfl (fun _ => rfl) ?_
    refine e_objP (Option.map (fun t : yM => (t, cc, none))) (h0 := (fun t : yM => (t, cc, none))) (a := 96) (as := [.int (yi 11), .int (yi (M r3 1)), .int (yi 0), .int (yi 0), .int (yi x1), .int (yi (M r3 0))]) rfl (by decide) rfl (Nat.le_of_ble_eq_true rfl) rfl (t_45 (by omega) hcc) (fun t21 => ?_)
    refine e_ld (t := 2) rfl (Or.inr (Or.inl ⟨rfl, Or.inl rfl⟩)) (l_kr (by decide) hL0) rfl ?_
    refine e_ld (t := 0) rfl (Or.inl ⟨rfl, Or.inl rfl⟩) (l_ki (by decide) hL1) rfl ?_
    refine e_ld (t := 0) rfl (Or.inl ⟨rfl, Or.inl rfl⟩) (l_ki (by decide) hL2) rfl ?_
    refine e_ld (t := 2) rfl (Or.inr (Or.inl ⟨rfl, Or.inl rfl⟩)) (l_kr (by decide) hL3) rfl ?_
    refine e_get (a := r3) (u := .int (yi (t21 r3 1))) rfl (fP hr3) rfl (fun _ => rfl) ?_
    refine e_ic (b := 1) rfl (by decide) (by decide) ?_
    refine e_add rfl ?_
    refine e_objO (h0 := (fun t : yM => (t, cc, none))) (h := (fun t : yM => (t, cc, none))) (a := 96) (as := [.int (yi x1), .int (yi x2), .int (yi ((t21 r3 1) + 1))]) rfl (by decide) rfl (Nat.le_of_ble_eq_true rfl) rfl (t_55 (by omega) (by omega) hly hcc) (fun t22 => ?_)
    refine e_ld (t := 2) rfl (Or.inr (Or.inl ⟨rfl, Or.inl rfl⟩)) (l_kr (by decide) hL0) rfl ?_
    refine e_ic (b := 12) rfl (by decide) (by decide) ?_
    refine e_ld (t := 2) rfl (Or.inr (Or.inl ⟨rfl, Or.inl rfl⟩)) (l_kr (by decide) hL3) rfl ?_
    refine e_get (a := r3) (u := .int (yi (t22 r3 1))) rfl (fP hr3) rfl (fun _ => rfl) ?_
    refine e_ic (b := 0) rfl (by decide) (by decide) ?_
    refine e_ic (b := 0) rfl (by decide) (by decide) ?_
    refine e_ld (t := 0) rfl (Or.inl ⟨rfl, Or.inl rfl⟩) (l_ki (by decide) hL1) rfl ?_
    refine e_ld (t := 2) rfl (Or.inr (Or.inl ⟨rfl, Or.inl rfl⟩)) (l_kr (by decide) hL3) rfl ?_
    refine e_get (a := r3) (u := .int (yi (t22 r3 0))) rfl (fP hr3) rfl (fun _ => rfl) ?_
    refine e_objP (Option.map (fun t : yM => (t, cc, none))) (h0 := (fun t : yM => (t, cc, none))) (a := 96) (as := [.int (yi 12), .int (yi (t22 r3 1)), .int (yi 0), .int (yi 0), .int (yi x1), .int (yi (t22 r3 0))]) rfl (by decide) rfl (Nat.le_of_ble_eq_true rfl) rfl (t_45 (by omega) hcc) (fun t23 => ?_)
    exact t_63_135 (by omega) (by omega) hly hcc (l_kr (by decide) hL0) (l_ki (by decide) hL1) (l_ki (by decide) hL4) (l_ki (by decide) hL5) (l_ki (by decide) hL6) (l_ki (by decide) hL7) (l_ki (by decide) hL8) l_s
def f_63_98 (N : Nat) (ly : yM → Int → Int → Option yM) (cc : Nat) (ih63 : yM → Int → Int → Nat → Int → Int → Int → Int → Int → Int → Int → Option (yM)) (M : yM) (x1 : Int) (x2 : Int) (r3 : Nat) (x4 : Int) (x5 : Int) (x6 : Int) (x7 : Int) (x8 : Int) (x9 : Int) (x10 : Int) : Option (yM) := (ih63 M x1 x2 r3 x4 x5 x6 x7 x8 x9 (x10 + (-1)))
theorem t_63_98 {sc : List Int32} {dd cc : Nat} {dl : Nat} {N : Nat} {ly : yM → Int → Int → Option yM} {ih63 : yM → Int → Int → Nat → Int → Int → Int → Int → Int → Int → Int → Option (yM)} {M : yM} {x1 : Int} {x2 : Int} {r3 : Nat} {x4 : Int} {x5 : Int} {x6 : Int} {x7 : Int} {x8 : Int} {x9 : Int} {x10 : Int} (hd : 5 ≤ dd) (hdl : dl + 1 ≤ dd) (hly : ∀ M a b, yP sc dl 50 [.ref 96, .int (yi a), .int (yi b)] M cc (Option.map (fun t => (t, cc, none)) (ly M a b))) (hcc : pC cc) (ih63_ : ∀ {M : yM} {x1 : Int} {x2 : Int} {r3 : Nat} {x4 : Int} {x5 : Int} {x6 : Int} {x7 : Int} {x8 : Int} {x9 : Int} {x10 : Int} (hr3 : pP r3) {L : zL} (hL0 : L 0 = some (.ref 96)) (hL1 : L 1 = some (.int (yi x1))) (hL2 : L 2 = some (.int (yi x2))) (hL3 : L 3 = some (.ref r3)) (hL4 : L 4 = some (.int (yi x4))) (hL5 : L 5 = some (.int (yi x5))) (hL6 : L 6 = some (.int (yi x6))) (hL7 : L 7 = some (.int (yi x7))) (hL8 : L 8 = some (.int (yi x8))) (hL9 : L 9 = some (.int (yi x9))) (hL10 : L 10 = some (.int (yi x10))), yW sc zg_c63 zg_w63 dd 63 L [] M cc ((Option.map (fun t : yM => (t, cc, none))) (ih63 M x1 x2 r3 x4 x5 x6 x7 x8 x9 x10))) (hr3 : pP r3) {L : zL} (hL0 : L 0 = some (.ref 96)) (hL1 : L 1 = some (.int (yi x1))) (hL2 : L 2 = some (.int (yi x2))) (hL3 : L 3 = some (.ref r3)) (hL4 : L 4 = some (.int (yi x4))) (hL5 : L 5 = some (.int (yi x5))) (hL6 : L 6 = some (.int (yi x6))) (hL7 : L 7 = some (.int (yi x7))) (hL8 : L 8 = some (.int (yi x8))) (hL9 : L 9 = some (.int (yi x9))) (hL10 : L 10 = some (.int (yi x10))) : yW sc zg_c63 zg_w63 dd 98 L [] M cc ((Option.map (fun t : yM => (t, cc, none))) (f_63_98 N ly cc ih63 M x1 x2 r3 x4 x5 x6 x7 x8 x9 x10)) := by
  unfold f_63_98
  refine e_inc (d := (-1)) rfl hL10 (by decide) ?_
  refine e_go rfl ?_
  exact ih63_ hr3 (l_kr (by decide) hL0) (l_ki (by decide) hL1) (l_ki (by decide) hL2) (l_kr (by decide) hL3) (l_ki (by decide) hL4) (l_ki (by decide) hL5) (l_ki (by decide) hL6) (l_ki (by decide) hL7) (l_ki (by decide) hL8) (l_ki (by decide) hL9) l_s
def f_63_90 (N : Nat) (ly : yM → Int → Int → Option yM) (cc : Nat) (ih63 : yM → Int → Int → Nat → Int → Int → Int → Int → Int → Int → Int → Option (yM)) (M : yM) (x1 : Int) (x2 : Int) (r3 : Nat) (x4 : Int) (x5 : Int) (x6 : Int) (x7 : Int) (x8 : Int) (x9 : Int) (x10 : Int) : Option (yM) := (ylet (f_46 cc M x5 6 0 x1 (M r3 0)) fun t29 => (f_63_98 N ly cc ih63 t29 x1 x2 r3 x4 x5 x6 x7 x8 x9 x10))
theorem t_63_90 {sc : List Int32} {dd cc : Nat} {dl : Nat} {N : Nat} {ly : yM → Int → Int → Option yM} {ih63 : yM → Int → Int → Nat → Int → Int → Int → Int → Int → Int → Int → Option (yM)} {M : yM} {x1 : Int} {x2 : Int} {r3 : Nat} {x4 : Int} {x5 : Int} {x6 : Int} {x7 : Int} {x8 : Int} {x9 : Int} {x10 : Int} (hd : 5 ≤ dd) (hdl : dl + 1 ≤ dd) (hly : ∀ M a b, yP sc dl 50 [.ref 96, .int (yi a), .int (yi b)] M cc (Option.map (fun t => (t, cc, none)) (ly M a b))) (hcc : pC cc) (ih63_ : ∀ {M : yM} {x1 : Int} {x2 : Int} {r3 : Nat} {x4 : Int} {x5 : Int} {x6 : Int} {x7 : Int} {x8 : Int} {x9 : Int} {x10 : Int} (hr3 : pP r3) {L : zL} (hL0 : L 0 = some (.ref 96)) (hL1 : L 1 = some (.int (yi x1))) (hL2 : L 2 = some (.int (yi x2))) (hL3 : L 3 = some (.ref r3)) (hL4 : L 4 = some (.int (yi x4))) (hL5 : L 5 = some (.int (yi x5))) (hL6 : L 6 = some (.int (yi x6))) (hL7 : L 7 = some (.int (yi x7))) (hL8 : L 8 = some (.int (yi x8))) (hL9 : L 9 = some (.int (yi x9))) (hL10 : L 10 = some (.int (yi x10))), yW sc zg_c63 zg_w63 dd 63 L [] M cc ((Option.map (fun t : yM => (t, cc, none))) (ih63 M x1 x2 r3 x4 x5 x6 x7 x8 x9 x10))) (hr3 : pP r3) {L : zL} (hL0 : L 0 = some (.ref 96)) (hL1 : L 1 = some (.int (yi x1))) (hL2 : L 2 = some (.int (yi x2))) (hL3 : L 3 = some (.ref r3)) (hL4 : L 4 = some (.int (yi x4))) (hL5 : L 5 = some (.int (yi x5))) (hL6 : L 6 = some (.int (yi x6))) (hL7 : L 7 = some (.int (yi x7))) (hL8 : L 8 = some (.int (yi x8))) (hL9 : L 9 = some (.int (yi x9))) (hL10 : L 10 = some (.int (yi x10))) : yW sc zg_c63 zg_w63 dd 90 L [] M cc ((Option.map (fun t : yM => (t, cc, none))) (f_63_90 N ly cc ih63 M x1 x2 r3 x4 x5 x6 x7 x8 x9 x10)) := by
  unfold f_63_90
  refine e_ld (t := 2) rfl (Or.inr (Or.inl ⟨rfl, Or.inl rfl⟩)) hL0 rfl ?_
  refine e_ld (t := 0) rfl (Or.inl ⟨rfl, Or.inr rfl⟩) hL5 rfl ?_
  refine e_ic (b := 6) rfl (by decide) (by decide) ?_
  refine e_ic (b := 0) rfl (by decide) (by decide) ?_
  refine e_ld (t := 0) rfl (Or.inl ⟨rfl, Or.inl rfl⟩) hL1 rfl ?_
  refine e_ld (t := 2) rfl (Or.inr (Or.inl ⟨rfl, Or.inl rfl⟩)) hL3 rfl ?_
  refine e_get (a := r3) (u := .int (yi (M r3 0))) rfl (fP hr3) rfl (fun _ => rfl) ?_
  refine e_objP (Option.map (fun t : yM => (t, cc, none))) (h0 := (fun t : yM => (t, cc, none))) (a := 96) (as := [.int (yi x5), .int (yi 6), .int (yi 0), .int (yi x1), .int (yi (M r3 0))]) rfl (by decide) rfl (Nat.le_of_ble_eq_true rfl) rfl (t_46 (by omega) hcc) (fun t29 => ?_)
  exact t_63_98 (by omega) (by omega) hly hcc ih63_ hr3 hL0 hL1 hL2 hL3 hL4 hL5 hL6 hL7 hL8 hL9 hL10
def f_63_63 (N : Nat) (ly : yM → Int → Int → Option yM) (cc : Nat) : Nat → yM → Int → Int → Nat → Int → Int → Int → Int → Int → Int → Int → Option (yM)
  | 0, _, _, _, _, _, _, _, _, _, _, _ => none
  | n + 1, M, x1, x2, r3, x4, x5, x6, x7, x8, x9, x10 => (cond (yrel 2 x9 0) (f_63_100 N ly cc M x1 x2 r3 x4 x5 x6 x7 x8) (cond (yrel 5 x10 0) (f_63_100 N ly cc M x1 x2 r3 x4 x5 x6 x7 x8) (Option.bind (f_52 ly cc M x9 x2 x4) fun t25 => (Option.bind (f_55 ly cc t25 x1 x2 (t25 r3 1)) fun t26 => (ylet (yrd t26 10 x9) fun v27 => (cond (yrel 1 v27 (-1)) (f_63_90 N ly cc (f_63_63 N ly cc n) t26 x1 x2 r3 x4 x5 x6 x7 x8 v27 x10) (cond (yrel 0 x6 (-1)) (f_63_98 N ly cc (f_63_63 N ly cc n) t26 x1 x2 r3 x4 x5 x6 x7 x8 v27 x10) (f_63_90 N ly cc (f_63_63 N ly cc n) t26 x1 x2 r3 x4 x5 x6 x7 x8 v27 x10))))))))
theorem t_63_63 {sc : List Int32} {dd cc : Nat} {dl : Nat} {N : Nat} {ly : yM → Int → Int → Option yM} (hd : 5 ≤ dd) (hdl : dl + 1 ≤ dd) (hly : ∀ M a b, yP sc dl 50 [.ref 96, .int (yi a), .int (yi b)] M cc (Option.map (fun t => (t, cc, none)) (ly M a b))) (hcc : pC cc) : ∀ (n : Nat) {M : yM} {x1 : Int} {x2 : Int} {r3 : Nat} {x4 : Int} {x5 : Int} {x6 : Int} {x7 : Int} {x8 : Int} {x9 : Int} {x10 : Int} (hr3 : pP r3) {L : zL} (hL0 : L 0 = some (.ref 96)) (hL1 : L 1 = some (.int (yi x1))) (hL2 : L 2 = some (.int (yi x2))) (hL3 : L 3 = some (.ref r3)) (hL4 : L 4 = some (.int (yi x4))) (hL5 : L 5 = some (.int (yi x5))) (hL6 : L 6 = some (.int (yi x6))) (hL7 : L 7 = some (.int (yi x7))) (hL8 : L 8 = some (.int (yi x8))) (hL9 : L 9 = some (.int (yi x9))) (hL10 : L 10 = some (.int (yi x10))), yW sc zg_c63 zg_w63 dd 63 L [] M cc ((Option.map (fun t : yM => (t, cc, none))) (f_63_63 N ly cc n M x1 x2 r3 x4 x5 x6 x7 x8 x9 x10)) := by
  intro n
  induction n with
  | zero => intros; exact y_none
  | succ n IH =>
    intro M x1 x2 r3 x4 x5 x6 x7 x8 x9 x10 hr3 L hL0 hL1 hL2 hL3 hL4 hL5 hL6 hL7 hL8 hL9 hL10
    rw [f_63_63]
    refine e_ld (t := 0) rfl (Or.inl ⟨rfl, Or.inr rfl⟩) hL9 rfl ?_
    refine e_br (Option.map (fun t : yM => (t, cc, none))) (q := 2) (by decide) rfl (fun h14 => ?_) (fun h14 => ?_)
    · exact t_63_100 (by omega) (by omega) hly hcc hr3 hL0 hL1 hL2 hL3 hL4 hL5 hL6 hL7 hL8
    · refine e_ld (t := 0) rfl (Or.inl ⟨rfl, Or.inr rfl⟩) hL10 rfl ?_
      refine e_br (Option.map (fun t : yM => (t, cc, none))) (q := 5) (by decide) rfl (fun h24 => ?_) (fun h24 => ?_)
      · exact t_63_100 (by omega) (by omega) hly hcc hr3 hL0 hL1 hL2 hL3 hL4 hL5 hL6 hL7 hL8
      · refine e_ld (t := 2) rfl (Or.inr (Or.inl ⟨rfl, Or.inl rfl⟩)) hL0 rfl ?_
        refine e_ld (t := 0) rfl (Or.inl ⟨rfl, Or.inr rfl⟩) hL9 rfl ?_
        refine e_ld (t := 0) rfl (Or.inl ⟨rfl, Or.inl rfl⟩) hL2 rfl ?_
        refine e_ld (t := 0) rfl (Or.inl ⟨rfl, Or.inr rfl⟩) hL4 rfl ?_
        refine e_objO (h0 := (fun t : yM => (t, cc, none))) (h := (fun t : yM => (t, cc, none))) (a := 96) (as := [.int (yi x9), .int (yi x2), .int (yi x4)]) rfl (by decide) rfl (Nat.le_of_ble_eq_true rfl) rfl (t_52 (by omega) (by omega) hly hcc) (fun t25 => ?_)
        refine e_ld (t := 2) rfl (Or.inr (Or.inl ⟨rfl, Or.inl rfl⟩)) hL0 rfl ?_
        refine e_ld (t := 0) rfl (Or.inl ⟨rfl, Or.inl rfl⟩) hL1 rfl ?_
        refine e_ld (t := 0) rfl (Or.inl ⟨rfl, Or.inl rfl⟩) hL2 rfl ?_
        refine e_ld (t := 2) rfl (Or.inr (Or.inl ⟨rfl, Or.inl rfl⟩)) hL3 rfl ?_
        refine e_get (a := r3) (u := .int (yi (t25 r3 1))) rfl (fP hr3) rfl (fun _ => rfl) ?_
        refine e_objO (h0 := (fun t : yM => (t, cc, none))) (h := (fun t : yM => (t, cc, none))) (a := 96) (as := [.int (yi x1), .int (yi x2), .int (yi (t25 r3 1))]) rfl (by decide) rfl (Nat.le_of_ble_eq_true rfl) rfl (t_55 (by omega) (by omega) hly hcc) (fun t26 => ?_)
        refine e_ld (t := 2) rfl (Or.inr (Or.inl ⟨rfl, Or.inl rfl⟩)) hL0 rfl ?_
        refine e_get (a := 96) (u := .ref 1) rfl rfl rfl (fun _ => rfl) ?_
        refine e_get (a := 1) (u := .ref 10) rfl rfl rfl (fun _ => rfl) ?_
        refine e_ld (t := 0) rfl (Or.inl ⟨rfl, Or.inr rfl⟩) hL9 rfl ?_
        refine e_at (a := 10) (by omega) rfl (by decide) (Nat.le_of_ble_eq_true rfl) rfl ?_
        refine e_stl (g := (Option.map (fun t : yM => (t, cc, none)))) rfl (Or.inr rfl) (fun v27 => ?_)
        refine e_ld (t := 0) rfl (Or.inl ⟨rfl, Or.inr rfl⟩) l_s rfl ?_
        refine e_ic (b := (-1)) rfl (by decide) (by decide) ?_
        refine e_cmp (Option.map (fun t : yM => (t, cc, none))) (q := 1) (by decide) rfl (fun h28 => ?_) (fun h28 => ?_)
        · exact t_63_90 (by omega) (by omega) hly hcc IH hr3 (l_kr (by decide) hL0) (l_ki (by decide) hL1) (l_ki (by decide) hL2) (l_kr (by decide) hL3) (l_ki (by decide) hL4) (l_ki (by decide) hL5) (l_ki (by decide) hL6) (l_ki (by decide) hL7) (l_ki (by decide) hL8) l_s (l_ki (by decide) hL10)
        · refine e_ld (t := 0) rfl (Or.inl ⟨rfl, Or.inr rfl⟩) (l_ki (by decide) hL6) rfl ?_
          refine e_ic (b := (-1)) rfl (by decide) (by decide) ?_
          refine e_cmp (Option.map (fun t : yM => (t, cc, none))) (q := 0) (by decide) rfl (fun h30 => ?_) (fun h30 => ?_)
          · exact t_63_98 (by omega) (by omega) hly hcc IH hr3 (l_kr (by decide) hL0) (l_ki (by decide) hL1) (l_ki (by decide) hL2) (l_kr (by decide) hL3) (l_ki (by decide) hL4) (l_ki (by decide) hL5) (l_ki (by decide) hL6) (l_ki (by decide) hL7) (l_ki (by decide) hL8) l_s (l_ki (by decide) hL10)
          · exact t_63_90 (by omega) (by omega) hly hcc IH hr3 (l_kr (by decide) hL0) (l_ki (by decide) hL1) (l_ki (by decide) hL2) (l_kr (by decide) hL3) (l_ki (by decide) hL4) (l_ki (by decide) hL5) (l_ki (by decide) hL6) (l_ki (by decide) hL7) (l_ki (by decide) hL8) l_s (l_ki (by decide) hL10)
def f_63 (N : Nat) (ly : yM → Int → Int → Option yM) (cc : Nat) (M : yM) (x1 : Int) (x2 : Int) : Option (yM) := (ylet (f_66 M x1 x2) fun t1 => (ylet (t1.2) fun v2 => (ylet (f_67 t1.1) fun t3 => (ylet (t3.2) fun v4 => (ylet (yrd t3.1 8 x1) fun v5 => (ylet (t3.1 cc 0) fun v6 => (ylet (f_47 t3.1 x2) fun t7 => (ylet (yU t7 (105 + 1 * ypz 91 (x2 + 1)) 0 v2) fun M8 => (Option.bind (ly M8 (yrd M8 9 x1) (x2 + 1)) fun M9 => (ylet (M9 cc 0) fun v10 => (Option.bind (f_55 ly cc M9 x1 x2 (M9 (105 + 1 * ypz 91 x2) 1)) fun t11 => (ylet (f_46 cc t11 v4 6 0 x1 (t11 (105 + 1 * ypz 91 x2) 0)) fun t12 => (ylet (yrd t12 10 x1) fun v13 => (f_63_63 N ly cc N t12 x1 x2 (105 + 1 * ypz 91 x2) v2 v4 v5 v6 v10 v13 90))))))))))))))
theorem t_63 {sc : List Int32} {dd cc : Nat} {dl : Nat} {N : Nat} {ly : yM → Int → Int → Option yM} {M : yM} {x1 : Int} {x2 : Int} (hd : 6 ≤ dd) (hdl : dl + 2 ≤ dd) (hly : ∀ M a b, yP sc dl 50 [.ref 96, .int (yi a), .int (yi b)] M cc (Option.map (fun t => (t, cc, none)) (ly M a b))) (hcc : pC cc) : yP sc dd 63 [.ref 96, .int (yi x1), .int (yi x2)] M cc ((Option.map (fun t : yM => (t, cc, none))) (f_63 N ly cc M x1 x2)) := by
  obtain ⟨dd, rfl⟩ : ∃ e, dd = e + 1 := ⟨dd - 1, by omega⟩
  refine e_meth (C := zg_c63) (W := zg_w63) (ml := 11) rfl rfl (Nat.le_of_ble_eq_true rfl) ?_
  unfold f_63
  refine e_ld (t := 2) rfl (Or.inr (Or.inl ⟨rfl, Or.inl rfl⟩)) rfl rfl ?_
  refine e_ld (t := 0) rfl (Or.inl ⟨rfl, Or.inl rfl⟩) rfl rfl ?_
  refine e_obj (a := 96) (as := [.int (yi x2)]) rfl (by decide) rfl (Nat.le_of_ble_eq_true rfl) rfl (t_68 (by omega)) ?_
  refine e_st (t := 2) rfl (Or.inr ⟨rfl, Or.inl rfl⟩) rfl ?_
  refine e_ld (t := 2) rfl (Or.inr (Or.inl ⟨rfl, Or.inl rfl⟩)) (l_kr (by decide) rfl) rfl ?_
  refine e_ld (t := 0) rfl (Or.inl ⟨rfl, Or.inl rfl⟩) (l_ki (by decide) rfl) rfl ?_
  refine e_ld (t := 0) rfl (Or.inl ⟨rfl, Or.inl rfl⟩) (l_ki (by decide) rfl) rfl ?_
  refine e_objP (Option.map (fun t : yM => (t, cc, none))) (h0 := (fun t : yM × Int => (t.1, cc, some (.int (yi t.2))))) (a := 96) (as := [.int (yi x1), .int (yi x2)]) rfl (by decide) rfl (Nat.le_of_ble_eq_true rfl) rfl (t_66 (by omega)) (fun t1 => ?_)
  refine e_stl (g := (Option.map (fun t : yM => (t, cc, none)))) rfl (Or.inr rfl) (fun v2 => ?_)
  refine e_ld (t := 2) rfl (Or.inr (Or.inl ⟨rfl, Or.inl rfl⟩)) (l_kr (by decide) (l_kr (by decide) rfl)) rfl ?_
  refine e_objP (Option.map (fun t : yM => (t, cc, none))) (h0 := (fun t : yM × Int => (t.1, cc, some (.int (yi t.2))))) (a := 96) (as := []) rfl (by decide) rfl (Nat.le_of_ble_eq_true rfl) rfl (t_67 (by omega)) (fun t3 => ?_)
  refine e_stl (g := (Option.map (fun t : yM => (t, cc, none)))) rfl (Or.inr rfl) (fun v4 => ?_)
  refine e_ld (t := 2) rfl (Or.inr (Or.inl ⟨rfl, Or.inl rfl⟩)) (l_kr (by decide) (l_kr (by decide) (l_kr (by decide) rfl))) rfl ?_
  refine e_get (a := 96) (u := .ref 1) rfl rfl rfl (fun _ => rfl) ?_
  refine e_get (a := 1) (u := .ref 8) rfl rfl rfl (fun _ => rfl) ?_
  refine e_ld (t := 0) rfl (Or.inl ⟨rfl, Or.inl rfl⟩) (l_ki (by decide) (l_ki (by decide) (l_ki (by decide) rfl))) rfl ?_
  refine e_at (a := 8) (by omega) rfl (by decide) (Nat.le_of_ble_eq_true rfl) rfl ?_
  refine e_stl (g := (Option.map (fun t : yM => (t, cc, none)))) rfl (Or.inr rfl) (fun v5 => ?_)
  refine e_ld (t := 2) rfl (Or.inr (Or.inl ⟨rfl, Or.inl rfl⟩)) (l_kr (by decide) (l_kr (by decide) (l_kr (by decide) (l_kr (by decide) rfl)))) rfl ?_
  refine e_get (a := 96) (u := .ref cc) rfl rfl rfl (fun _ => rfl) ?_
  refine e_get (a := cc) (u := .int (yi (t3.1 cc 0))) rfl (fC hcc) rfl (fun _ => rfl) ?_
  refine e_stl (g := (Option.map (fun t : yM => (t, cc, none)))) rfl (Or.inr rfl) (fun v6 => ?_)
  refine e_ld (t := 2) rfl (Or.inr (Or.inl ⟨rfl, Or.inl rfl⟩)) (l_kr (by decide) (l_kr (by decide) (l_kr (by decide) (l_kr (by decide) (l_kr (by decide) rfl))))) rfl ?_
  refine e_ld (t := 0) rfl (Or.inl ⟨rfl, Or.inl rfl⟩) (l_ki (by decide) (l_ki (by decide) (l_ki (by decide) (l_ki (by decide) (l_ki (by decide) rfl))))) rfl ?_
  refine e_objP (Option.map (fun t : yM => (t, cc, none))) (h0 := (fun t : yM => (t, cc, some (.ref (105 + 1 * ypz 91 (x2 + 1)))))) (a := 96) (as := [.int (yi x2)]) rfl (by decide) rfl (Nat.le_of_ble_eq_true rfl) rfl (t_47 (by omega)) (fun t7 => ?_)
  refine e_ld (t := 0) rfl (Or.inl ⟨rfl, Or.inr rfl⟩) (l_ki (by decide) (l_ki (by decide) (l_ki (by decide) l_s))) rfl ?_
  refine e_put (a := (105 + 1 * ypz 91 (x2 + 1))) rfl (Or.inl rfl) (fP ⟨_, ypz_lt (by decide), rfl⟩) rfl (Or.inl rfl) ?_
  refine y_let (Option.map (fun t : yM => (t, cc, none))) (fun M8 => ?_)
  refine e_ld (t := 2) rfl (Or.inr (Or.inl ⟨rfl, Or.inl rfl⟩)) (l_kr (by decide) (l_kr (by decide) (l_kr (by decide) (l_kr (by decide) (l_kr (by decide) rfl))))) rfl ?_
  refine e_ld (t := 2) rfl (Or.inr (Or.inl ⟨rfl, Or.inl rfl⟩)) (l_kr (by decide) (l_kr (by decide) (l_kr (by decide) (l_kr (by decide) (l_kr (by decide) rfl))))) rfl ?_
  refine e_get (a := 96) (u := .ref 1) rfl rfl rfl (fun _ => rfl) ?_
  refine e_get (a := 1) (u := .ref 9) rfl rfl rfl (fun _ => rfl) ?_
  refine e_ld (t := 0) rfl (Or.inl ⟨rfl, Or.inl rfl⟩) (l_ki (by decide) (l_ki (by decide) (l_ki (by decide) (l_ki (by decide) (l_ki (by decide) rfl))))) rfl ?_
  refine e_at (a := 9) (by omega) rfl (by decide) (Nat.le_of_ble_eq_true rfl) rfl ?_
  refine e_ld (t := 0) rfl (Or.inl ⟨rfl, Or.inl rfl⟩) (l_ki (by decide) (l_ki (by decide) (l_ki (by decide) (l_ki (by decide) (l_ki (by decide) rfl))))) rfl ?_
  refine e_ic (b := 1) rfl (by decide) (by decide) ?_
  refine e_add rfl ?_
  refine e_objO (h0 := fun t => (t, cc, none)) (a := 96) (as := [.int (yi (yrd M8 9 x1)), .int (yi (x2 + 1))]) rfl (by decide) rfl (Nat.le_of_ble_eq_true rfl) rfl (yP_mono (by omega) (hly _ _ _)) (fun M9 => ?_)
  refine e_ld (t := 2) rfl (Or.inr (Or.inl ⟨rfl, Or.inl rfl⟩)) (l_kr (by decide) (l_kr (by decide) (l_kr (by decide) (l_kr (by decide) (l_kr (by decide) rfl))))) rfl ?_
  refine e_get (a := 96) (u := .ref cc) rfl rfl rfl (fun _ => rfl) ?_
  refine e_get (a := cc) (u := .int (yi (M9 cc 0))) rfl (fC hcc) rfl (fun _ => rfl) ?_
  refine e_stl (g := (Option.map (fun t : yM => (t, cc, none)))) rfl (Or.inr rfl) (fun v10 => ?_)
  refine e_ld (t := 2) rfl (Or.inr (Or.inl ⟨rfl, Or.inl rfl⟩)) (l_kr (by decide) (l_kr (by decide) (l_kr (by decide) (l_kr (by decide) (l_kr (by decide) (l_kr (by decide) rfl)))))) rfl ?_
  refine e_ld (t := 0) rfl (Or.inl ⟨rfl, Or.inl rfl⟩) (l_ki (by decide) (l_ki (by decide) (l_ki (by decide) (l_ki (by decide) (l_ki (by decide) (l_ki (by decide) rfl)))))) rfl ?_
  refine e_ld (t := 0) rfl (Or.inl ⟨rfl, Or.inl rfl⟩) (l_ki (by decide) (l_ki (by decide) (l_ki (by decide) (l_ki (by decide) (l_ki (by decide) (l_ki (by decide) rfl)))))) rfl ?_
  refine e_ld (t := 2) rfl (Or.inr (Or.inl ⟨rfl, Or.inl rfl⟩)) (l_kr (by decide) (l_kr (by decide) (l_kr (by decide) (l_kr (by decide) (l_kr (by decide) l_s))))) rfl ?_
  refine e_get (a := (105 + 1 * ypz 91 x2)) (u := .int (yi (M9 (105 + 1 * ypz 91 x2) 1))) rfl (fP ⟨_, ypz_lt (by decide), rfl⟩) rfl (fun _ => rfl) ?_
  refine e_objO (h0 := (fun t : yM => (t, cc, none))) (h := (fun t : yM => (t, cc, none))) (a := 96) (as := [.int (yi x1), .int (yi x2), .int (yi (M9 (105 + 1 * ypz 91 x2) 1))]) rfl (by decide) rfl (Nat.le_of_ble_eq_true rfl) rfl (t_55 (by omega) (by omega) hly hcc) (fun t11 => ?_)
  refine e_ld (t := 2) rfl (Or.inr (Or.inl ⟨rfl, Or.inl rfl⟩)) (l_kr (by decide) (l_kr (by decide) (l_kr (by decide) (l_kr (by decide) (l_kr (by decide) (l_kr (by decide) rfl)))))) rfl ?_
  refine e_ld (t := 0) rfl (Or.inl ⟨rfl, Or.inr rfl⟩) (l_ki (by decide) (l_ki (by decide) (l_ki (by decide) l_s))) rfl ?_
  refine e_ic (b := 6) rfl (by decide) (by decide) ?_
  refine e_ic (b := 0) rfl (by decide) (by decide) ?_
  refine e_ld (t := 0) rfl (Or.inl ⟨rfl, Or.inl rfl⟩) (l_ki (by decide) (l_ki (by decide) (l_ki (by decide) (l_ki (by decide) (l_ki (by decide) (l_ki (by decide) rfl)))))) rfl ?_
  refine e_ld (t := 2) rfl (Or.inr (Or.inl ⟨rfl, Or.inl rfl⟩)) (l_kr (by decide) (l_kr (by decide) (l_kr (by decide) (l_kr (by decide) (l_kr (by decide) l_s))))) rfl ?_
  refine e_get (a := (105 + 1 * ypz 91 x2)) (u := .int (yi (t11 (105 + 1 * ypz 91 x2) 0))) rfl (fP ⟨_, ypz_lt (by decide), rfl⟩) rfl (fun _ => rfl) ?_
  refine e_objP (Option.map (fun t : yM => (t, cc, none))) (h0 := (fun t : yM => (t, cc, none))) (a := 96) (as := [.int (yi v4), .int (yi 6), .int (yi 0), .int (yi x1), .int (yi (t11 (105 + 1 * ypz 91 x2) 0))]) rfl (by decide) rfl (Nat.le_of_ble_eq_true rfl) rfl (t_46 (by omega) hcc) (fun t12 => ?_)
  refine e_ld (t := 2) rfl (Or.inr (Or.inl ⟨rfl, Or.inl rfl⟩)) (l_kr (by decide) (l_kr (by decide) (l_kr (by decide) (l_kr (by decide) (l_kr (by decide) (l_kr (by decide) rfl)))))) rfl ?_
  refine e_get (a := 96) (u := .ref 1) rfl rfl rfl (fun _ => rfl) ?_
  refine e_get (a := 1) (u := .ref 10) rfl rfl rfl (fun _ => rfl) ?_
  refine e_ld (t := 0) rfl (Or.inl ⟨rfl, Or.inl rfl⟩) (l_ki (by decide) (l_ki (by decide) (l_ki (by decide) (l_ki (by decide) (l_ki (by decide) (l_ki (by decide) rfl)))))) rfl ?_
  refine e_at (a := 10) (by omega) rfl (by decide) (Nat.le_of_ble_eq_true rfl) rfl ?_
  refine e_stl (g := (Option.map (fun t : yM => (t, cc, none)))) rfl (Or.inr rfl) (fun v13 => ?_)
  refine e_ic (b := 90) rfl (by decide) (by decide) ?_
  refine e_st (t := 0) rfl (Or.inl ⟨rfl, Or.inr rfl⟩) rfl ?_
  exact t_63_63 (by omega) (by omega) hly hcc N ⟨_, ypz_lt (by decide), rfl⟩ (l_kr (by decide) (l_kr (by decide) (l_kr (by decide) (l_kr (by decide) (l_kr (by decide) (l_kr (by decide) (l_kr (by decide) (l_kr (by decide) rfl)))))))) (l_ki (by decide) (l_ki (by decide) (l_ki (by decide) (l_ki (by decide) (l_ki (by decide) (l_ki (by decide) (l_ki (by decide) (l_ki (by decide) rfl)))))))) (l_ki (by decide) (l_ki (by decide) (l_ki (by decide) (l_ki (by decide) (l_ki (by decide) (l_ki (by decide) (l_ki (by decide) (l_ki (by decide) rfl)))))))) (l_kr (by decide) (l_kr (by decide) (l_kr (by decide) (l_kr (by decide) (l_kr (by decide) (l_kr (by decide) (l_kr (by decide) l_s))))))) (l_ki (by decide) (l_ki (by decide) (l_ki (by decide) (l_ki (by decide) (l_ki (by decide) (l_ki (by decide) l_s)))))) (l_ki (by decide) (l_ki (by decide) (l_ki (by decide) (l_ki (by decide) (l_ki (by decide) l_s))))) (l_ki (by decide) (l_ki (by decide) (l_ki (by decide) (l_ki (by decide) l_s)))) (l_ki (by decide) (l_ki (by decide) (l_ki (by decide) l_s))) (l_ki (by decide) (l_ki (by decide) l_s)) (l_ki (by decide) l_s) l_s
/-- UnwindTower$Compiler.layUsing -/
def f_64_27 (N : Nat) (ly : yM → Int → Int → Option yM) (cc : Nat) (M : yM) (x1 : Int) (x2 : Int) (r3 : Nat) (x4 : Int) : Option (yM) := (ylet (M cc 0) fun v5 => (ylet (f_47 M x2) fun t6 => (ylet (yU t6 (105 + 1 * ypz 91 (x2 + 1)) 0 x4) fun M7 => (Option.bind (ly M7 (yrd M7 9 x1) (x2 + 1)) fun M8 => (ylet (M8 cc 0) fun v9 => (cond (yrel 1 (yrd M8 10 x1) (-1)) (ylet (f_67 M8) fun t11 => (ylet (t11.2) fun v12 => (ylet (f_54 cc t11.1 x1 (t11.1 r3 0)) fun t13 => (ylet (f_46 cc t13 v12 6 0 x1 (t13 r3 0)) fun t14 => (ylet (t14 cc 0) fun v15 => (ylet (f_45 cc t14 11 (t14 r3 1) 0 0 x1 (t14 r3 0)) fun t16 => (ylet (t16 cc 0) fun v17 => (ylet (f_54 cc t16 x1 (t16 r3 0)) fun t18 => (ylet (f_45 cc t18 12 (t18 r3 1) 0 0 x1 (t18 r3 0)) fun t19 => (ylet (t19 cc 0) fun v20 => (ylet (f_45 cc t19 19 (t19 r3 1) 0 0 x1 (t19 r3 0)) fun t21 => (Option.bind (f_69 N cc t21 v12 v9) fun t22 => (Option.bind (f_61 N cc t22 v5 v9 x4 v15 (-1)) fun t23 => (Option.bind (f_61 N cc t23 v17 (v17 + 1) (t23 r3 0) v20 (-1)) fun t24 => some t24)))))))))))))) (some M8)))))))
theorem t_64_27 {sc : List Int32} {dd cc : Nat} {dl : Nat} {N : Nat} {ly : yM → Int → Int → Option yM} {M : yM} {x1 : Int} {x2 : Int} {r3 : Nat} {x4 : Int} (hd : 4 ≤ dd) (hdl : dl + 0 ≤ dd) (hly : ∀ M a b, yP sc dl 50 [.ref 96, .int (yi a), .int (yi b)] M cc (Option.map (fun t => (t, cc, none)) (ly M a b))) (hcc : pC cc) (hr3 : pP r3) {L : zL} (hL0 : L 0 = some (.ref 96)) (hL1 : L 1 = some (.int (yi x1))) (hL2 : L 2 = some (.int (yi x2))) (hL3 : L 3 = some (.ref r3)) (hL4 : L 4 = some (.int (yi x4))) : yW sc zg_c64 zg_w64 dd 27 L [] M cc ((Option.map (fun t : yM => (t, cc, none))) (f_64_27 N ly cc M x1 x2 r3 x4)) := by
  unfold f_64_27
  refine e_ld (t := 2) rfl (Or.inr (Or.inl ⟨rfl, Or.inl rfl⟩)) hL0 rfl ?_
  refine e_get (a := 96) (u := .ref cc) rfl rfl rfl (fun _ => rfl) ?_
  refine e_get (a := cc) (u := .int (yi (M cc 0))) rfl (fC hcc) rfl (fun _ => rfl) ?_
  refine e_stl (g := (Option.map (fun t : yM => (t, cc, none)))) rfl (Or.inr rfl) (fun v5 => ?_)
  refine e_ld (t := 2) rfl (Or.inr (Or.inl ⟨rfl, Or.inl rfl⟩)) (l_kr (by decide) hL0) rfl ?_
  refine e_ld (t := 0) rfl (Or.inl ⟨rfl, Or.inl rfl⟩) (l_ki (by decide) hL2) rfl ?_
  refine e_objP (Option.map (fun t : yM => (t, cc, none))) (h0 := (fun t : yM => (t, cc, some (.ref (105 + 1 * ypz 91 (x2 + 1)))))) (a := 96) (as := [.int (yi x2)]) rfl (by decide) rfl (Nat.le_of_ble_eq_true rfl) rfl (t_47 (by omega)) (fun t6 => ?_)
  refine e_ld (t := 0) rfl (Or.inl ⟨rfl, Or.inr rfl⟩) (l_ki (by decide) hL4) rfl ?_
  refine e_put (a := (105 + 1 * ypz 91 (x2 + 1))) rfl (Or.inl rfl) (fP ⟨_, ypz_lt (by decide), rfl⟩) rfl (Or.inl rfl) ?_
  refine y_let (Option.map (fun t : yM => (t, cc, none))) (fun M7 => ?_)
  refine e_ld (t := 2) rfl (Or.inr (Or.inl ⟨rfl, Or.inl rfl⟩)) (l_kr (by decide) hL0) rfl ?_
  refine e_ld (t := 2) rfl (Or.inr (Or.inl ⟨rfl, Or.inl rfl⟩)) (l_kr (by decide) hL0) rfl ?_
  refine e_get (a := 96) (u := .ref 1) rfl rfl rfl (fun _ => rfl) ?_
  refine e_get (a := 1) (u := .ref 9) rfl rfl rfl (fun _ => rfl) ?_
  refine e_ld (t := 0) rfl (Or.inl ⟨rfl, Or.inl rfl⟩) (l_ki (by decide) hL1) rfl ?_
  refine e_at (a := 9) (by omega) rfl (by decide) (Nat.le_of_ble_eq_true rfl) rfl ?_
  refine e_ld (t := 0) rfl (Or.inl ⟨rfl, Or.inl rfl⟩) (l_ki (by decide) hL2) rfl ?_
  refine e_ic (b := 1) rfl (by decide) (by decide) ?_
  refine e_add rfl ?_
  refine e_objO (h0 := fun t => (t, cc, none)) (a := 96) (as := [.int (yi (yrd M7 9 x1)), .int (yi (x2 + 1))]) rfl (by decide) rfl (Nat.le_of_ble_eq_true rfl) rfl (yP_mono (by omega) (hly _ _ _)) (fun M8 => ?_)
  refine e_ld (t := 2) rfl (Or.inr (Or.inl ⟨rfl, Or.inl rfl⟩)) (l_kr (by decide) hL0) rfl ?_
  refine e_get (a := 96) (u := .ref cc) rfl rfl rfl (fun _ => rfl) ?_
  refine e_get (a := cc) (u := .int (yi (M8 cc 0))) rfl (fC hcc) rfl (fun _ => rfl) ?_
  refine e_stl (g := (Option.map (fun t : yM => (t, cc, none)))) rfl (Or.inr rfl) (fun v9 => ?_)
  refine e_ld (t := 2) rfl (Or.inr (Or.inl ⟨rfl, Or.inl rfl⟩)) (l_kr (by decide) (l_kr (by decide) hL0)) rfl ?_
  refine e_get (a := 96) (u := .ref 1) rfl rfl rfl (fun _ => rfl) ?_
  refine e_get (a := 1) (u := .ref 10) rfl rfl rfl (fun _ => rfl) ?_
  refine e_ld (t := 0) rfl (Or.inl ⟨rfl, Or.inl rfl⟩) (l_ki (by decide) (l_ki (by decide) hL1)) rfl ?_
  refine e_at (a := 10) (by omega) rfl (by decide) (Nat.le_of_ble_eq_true rfl) rfl ?_
  refine e_ic (b := (-1)) rfl (by decide) (by decide) ?_
  refine e_cmp (Option.map (fun t : yM => (t, cc, none))) (q := 1) (by decide) rfl (fun h10 => ?_) (fun h10 => ?_)
  · refine e_ld (t := 2) rfl (Or.inr (Or.inl ⟨rfl, Or.inl rfl⟩)) (l_kr (by decide) (l_kr (by decide) hL0)) rfl ?_
    refine e_objP (Option.map (fun t : yM => (t, cc, none))) (h0 := (fun t : yM × Int => (t.1, cc, some (.int (yi t.2))))) (a := 96) (as := []) rfl (by decide) rfl (Nat.le_of_ble_eq_true rfl) rfl (t_67 (by omega)) (fun t11 => ?_)
    refine e_stl (g := (Option.map (fun t : yM => (t, cc, none)))) rfl (Or.inr rfl) (fun v12 => ?_)
    refine e_ld (t := 2) rfl (Or.inr (Or.inl ⟨rfl, Or.inl rfl⟩)) (l_kr (by decide) (l_kr (by decide) (l_kr (by decide) hL0))) rfl ?_
    refine e_ld (t := 0) rfl (Or.inl ⟨rfl, Or.inl rfl⟩) (l_ki (by decide) (l_ki (by decide) (l_ki (by decide) hL1))) rfl ?_
    refine e_ld (t := 2) rfl (Or.inr (Or.inl ⟨rfl, Or.inl rfl⟩)) (l_kr (by decide) (l_kr (by decide) (l_kr (by decide) hL3))) rfl ?_
    refine e_get (a := r3) (u := .int (yi (t11.1 r3 0))) rfl (fP hr3) rfl (fun _ => rfl) ?_
    refine e_objP (Option.map (fun t : yM => (t, cc, none))) (h0 := (fun t : yM => (t, cc, none))) (a := 96) (as := [.int (yi x1), .int (yi (t11.1 r3 0))]) rfl (by decide) rfl (Nat.le_of_ble_eq_true rfl) rfl (t_54 (by omega) hcc) (fun t13 => ?_)
    refine e_ld (t := 2) rfl (Or.inr (Or.inl ⟨rfl, Or.inl rfl⟩)) (l_kr (by decide) (l_kr (by decide) (l_kr (by decide) hL0))) rfl ?_
    refine e_ld (t := 0) rfl (Or.inl ⟨rfl, Or.inr rfl⟩) l_s rfl ?_
    refine e_ic (b := 6) rfl (by decide) (by decide) ?_
    refine e_ic (b := 0) rfl (by decide) (by decide) ?_
    refine e_ld (t := 0) rfl (Or.inl ⟨rfl, Or.inl rfl⟩) (l_ki (by decide) (l_ki (by decide) (l_ki (by decide) hL1))) rfl ?_
    refine e_ld (t := 2) rfl (Or.inr (Or.inl ⟨rfl, Or.inl rfl⟩)) (l_kr (by decide) (l_kr (by decide) (l_kr (by decide) hL3))) rfl ?_
    refine e_get (a := r3) (u := .int (yi (t13 r3 0))) rfl (fP hr3) rfl (fun _ => rfl) ?_
    refine e_objP (Option.map (fun t : yM => (t, cc, none))) (h0 := (fun t : yM => (t, cc, none))) (a := 96) (as := [.int (yi v12), .int (yi 6), .int (yi 0), .int (yi x1), .int (yi (t13 r3 0))]) rfl (by decide) rfl (Nat.le_of_ble_eq_true rfl) rfl (t_46 (by omega) hcc) (fun t14 => ?_)
    refine e_ld (t := 2) rfl (Or.inr (Or.inl ⟨rfl, Or.inl rfl⟩)) (l_kr (by decide) (l_kr (by decide) (l_kr (by decide) hL0))) rfl ?_
    refine e_get (a := 96) (u := .ref cc) rfl rfl rfl (fun _ => rfl) ?_
    refine e_get (a := cc) (u := .int (yi (t14 cc 0))) rfl (fC hcc) rfl (fun _ => rfl) ?_
    refine e_stl (g := (Option.map (fun t : yM => (t, cc, none)))) rfl (Or.inr rfl) (fun v15 => ?_)
    refine e_ld (t := 2) rfl (Or.inr (Or.inl ⟨rfl, Or.inl rfl⟩)) (l_kr (by decide) (l_kr (by decide) (l_kr (by decide) (l_kr (by decide) hL0)))) rfl ?_
    refine e_ic (b := 11) rfl (by decide) (by decide) ?_
    refine e_ld (t := 2) rfl (Or.inr (Or.inl ⟨rfl, Or.inl rfl⟩)) (l_kr (by decide) (l_kr (by decide) (l_kr (by decide) (l_kr (by decide) hL3)))) rfl ?_
    refine e_get (a := r3) (u := .int (yi (t14 r3 1))) rfl (fP hr3) rfl (fun _ => rfl) ?_
    refine e_ic (b := 0) rfl (by decide) (by decide) ?_
    refine e_ic (b := 0) rfl (by decide) (by decide) ?_
    refine e_ld (t := 0) rfl (Or.inl ⟨rfl, Or.inl rfl⟩) (l_ki (by decide) (l_ki (by decide) (l_ki (by decide) (l_ki (by decide) hL1)))) rfl ?_
    refine e_ld (t := 2) rfl (Or.inr (Or.inl ⟨rfl, Or.inl rfl⟩)) (l_kr (by decide) (l_kr (by decide) (l_kr (by decide) (l_kr (by decide) hL3)))) rfl ?_
    refine e_get (a := r3) (u := .int (yi (t14 r3 0))) rfl (fP hr3) rfl (fun _ => rfl) ?_
    refine e_objP (Option.map (fun t : yM => (t, cc, none))) (h0 := (fun t : yM => (t, cc, none))) (a := 96) (as := [.int (yi 11), .int (yi (t14 r3 1)), .int (yi 0), .int (yi 0), .int (yi x1), .int (yi (t14 r3 0))]) rfl (by decide) rfl (Nat.le_of_ble_eq_true rfl) rfl (t_45 (by omega) hcc) (fun t16 => ?_)
    refine e_ld (t := 2) rfl (Or.inr (Or.inl ⟨rfl, Or.inl rfl⟩)) (l_kr (by decide) (l_kr (by decide) (l_kr (by decide) (l_kr (by decide) hL0)))) rfl ?_
    refine e_get (a := 96) (u := .ref cc) rfl rfl rfl (fun _ => rfl) ?_
    refine e_get (a := cc) (u := .int (yi (t16 cc 0))) rfl (fC hcc) rfl (fun _ => rfl) ?_
    refine e_stl (g := (Option.map (fun t : yM => (t, cc, none)))) rfl (Or.inr rfl) (fun v17 => ?_)
    refine e_ld (t := 2) rfl (Or.inr (Or.inl ⟨rfl, Or.inl rfl⟩)) (l_kr (by decide) (l_kr (by decide) (l_kr (by decide) (l_kr (by decide) (l_kr (by decide) hL0))))) rfl ?_
    refine e_ld (t := 0) rfl (Or.inl ⟨rfl, Or.inl rfl⟩) (l_ki (by decide) (l_ki (by decide) (l_ki (by decide) (l_ki (by decide) (l_ki (by decide) hL1))))) rfl ?_
    refine e_ld (t := 2) rfl (Or.inr (Or.inl ⟨rfl, Or.inl rfl⟩)) (l_kr (by decide) (l_kr (by decide) (l_kr (by decide) (l_kr (by decide) (l_kr (by decide) hL3))))) rfl ?_
    refine e_get (a := r3) (u := .int (yi (t16 r3 0))) rfl (fP hr3) rfl (fun _ => rfl) ?_
    refine e_objP (Option.map (fun t : yM => (t, cc, none))) (h0 := (fun t : yM => (t, cc, none))) (a := 96) (as := [.int (yi x1), .int (yi (t16 r3 0))]) rfl (by decide) rfl (Nat.le_of_ble_eq_true rfl) rfl (t_54 (by omega) hcc) (fun t18 => ?_)
    refine e_ld (t := 2) rfl (Or.inr (Or.inl ⟨rfl, Or.inl rfl⟩)) (l_kr (by decide) (l_kr (by decide) (l_kr (by decide) (l_kr (by decide) (l_kr (by decide) hL0))))) rfl ?_
    refine e_ic (b := 12) rfl (by decide) (by decide) ?_
    refine e_ld (t := 2) rfl (Or.inr (Or.inl ⟨rfl, Or.inl rfl⟩)) (l_kr (by decide) (l_kr (by decide) (l_kr (by decide) (l_kr (by decide) (l_kr (by decide) hL3))))) rfl ?_
    refine e_get (a := r3) (u := .int (yi (t18 r3 1))) rfl (fP hr3) rfl (fun _ => rfl) ?_
    refine e_ic (b := 0) rfl (by decide) (by decide) ?_
    refine e_ic (b := 0) rfl (by decide) (by decide) ?_
    refine e_ld (t := 0) rfl (Or.inl ⟨rfl, Or.inl rfl⟩) (l_ki (by decide) (l_ki (by decide) (l_ki (by decide) (l_ki (by decide) (l_ki (by decide) hL1))))) rfl ?_
    refine e_ld (t := 2) rfl (Or.inr (Or.inl ⟨rfl, Or.inl rfl⟩)) (l_kr (by decide) (l_kr (by decide) (l_kr (by decide) (l_kr (by decide) (l_kr (by decide) hL3))))) rfl ?_
    refine e_get (a := r3) (u := .int (yi (t18 r3 0))) rfl (fP hr3) rfl (fun _ => rfl) ?_
    refine e_objP (Option.map (fun t : yM => (t, cc, none))) (h0 := (fun t : yM => (t, cc, none))) (a := 96) (as := [.int (yi 12), .int (yi (t18 r3 1)), .int (yi 0), .int (yi 0), .int (yi x1), .int (yi (t18 r3 0))]) rfl (by decide) rfl (Nat.le_of_ble_eq_true rfl) rfl (t_45 (by omega) hcc) (fun t19 => ?_)
    refine e_ld (t := 2) rfl (Or.inr (Or.inl ⟨rfl, Or.inl rfl⟩)) (l_kr (by decide) (l_kr (by decide) (l_kr (by decide) (l_kr (by decide) (l_kr (by decide) hL0))))) rfl ?_
    refine e_get (a := 96) (u := .ref cc) rfl rfl rfl (fun _ => rfl) ?_
    refine e_get (a := cc) (u := .int (yi (t19 cc 0))) rfl (fC hcc) rfl (fun _ => rfl) ?_
    refine e_stl (g := (Option.map (fun t : yM => (t, cc, none)))) rfl (Or.inr rfl) (fun v20 => ?_)
    refine e_ld (t := 2) rfl (Or.inr (Or.inl ⟨rfl, Or.inl rfl⟩)) (l_kr (by decide) (l_kr (by decide) (l_kr (by decide) (l_kr (by decide) (l_kr (by decide) (l_kr (by decide) hL0)))))) rfl ?_
    refine e_ic (b := 19) rfl (by decide) (by decide) ?_
    refine e_ld (t := 2) rfl (Or.inr (Or.inl ⟨rfl, Or.inl rfl⟩)) (l_kr (by decide) (l_kr (by decide) (l_kr (by decide) (l_kr (by decide) (l_kr (by decide) (l_kr (by decide) hL3)))))) rfl ?_
    refine e_get (a := r3) (u := .int (yi (t19 r3 1))) rfl (fP hr3) rfl (fun _ => rfl) ?_
    refine e_ic (b := 0) rfl (by decide) (by decide) ?_
    refine e_ic (b := 0) rfl (by decide) (by decide) ?_
    refine e_ld (t := 0) rfl (Or.inl ⟨rfl, Or.inl rfl⟩) (l_ki (by decide) (l_ki (by decide) (l_ki (by decide) (l_ki (by decide) (l_ki (by decide) (l_ki (by decide) hL1)))))) rfl ?_
    refine e_ld (t := 2) rfl (Or.inr (Or.inl ⟨rfl, Or.inl rfl⟩)) (l_kr (by decide) (l_kr (by decide) (l_kr (by decide) (l_kr (by decide) (l_kr (by decide) (l_kr (by decide) hL3)))))) rfl ?_
    refine e_get (a := r3) (u := .int (yi (t19 r3 0))) rfl (fP hr3) rfl (fun _ => rfl) ?_
    refine e_objP (Option.map (fun t : yM => (t, cc, none))) (h0 := (fun t : yM => (t, cc, none))) (a := 96) (as := [.int (yi 19), .int (yi (t19 r3 1)), .int (yi 0), .int (yi 0), .int (yi x1), .int (yi (t19 r3 0))]) rfl (by decide) rfl (Nat.le_of_ble_eq_true rfl) rfl (t_45 (by omega) hcc) (fun t21 => ?_)
    refine e_ld (t := 2) rfl (Or.inr (Or.inl ⟨rfl, Or.inl rfl⟩)) (l_kr (by decide) (l_kr (by decide) (l_kr (by decide) (l_kr (by decide) (l_kr (by decide) (l_kr (by decide) hL0)))))) rfl ?_
    refine e_ld (t := 0) rfl (Or.inl ⟨rfl, Or.inr rfl⟩) (l_ki (by decide) (l_ki (by decide) (l_ki (by decide) l_s))) rfl ?_
    refine e_ld (t := 0) rfl (Or.inl ⟨rfl, Or.inr rfl⟩) (l_ki (by decide) (l_ki (by decide) (l_ki (by decide) (l_ki (by decide) l_s)))) rfl ?_
    refine e_objO (h0 := (fun t : yM => (t, cc, none))) (h := (fun t : yM => (t, cc, none))) (a := 96) (as := [.int (yi v12), .int (yi v9)]) rfl (by decide) rfl (Nat.le_of_ble_eq_true rfl) rfl (t_69 (by omega) hcc) (fun t22 => ?_)
    refine e_ld (t := 2) rfl (Or.inr (Or.inl ⟨rfl, Or.inl rfl⟩)) (l_kr (by decide) (l_kr (by decide) (l_kr (by decide) (l_kr (by decide) (l_kr (by decide) (l_kr (by decide) hL0)))))) rfl ?_
    refine e_ld (t := 0) rfl (Or.inl ⟨rfl, Or.inr rfl⟩) (l_ki (by decide) (l_ki (by decide) (l_ki (by decide) (l_ki (by decide) (l_ki (by decide) l_s))))) rfl ?_
    refine e_ld (t := 0) rfl (Or.inl ⟨rfl, Or.inr rfl⟩) (l_ki (by decide) (l_ki (by decide) (l_ki (by decide) (l_ki (by decide) l_s)))) rfl ?_
    refine e_ld (t := 0) rfl (Or.inl ⟨rfl, Or.inr rfl⟩) (l_ki (by decide) (l_ki (by decide) (l_ki (by decide) (l_ki (by decide) (l_ki (by decide) (l_ki (by decide) hL4)))))) rfl ?_
    refine e_ld (t := 0) rfl (Or.inl ⟨rfl, Or.inr rfl⟩) (l_ki (by decide) (l_ki (by decide) l_s)) rfl ?_
    refine e_ic (b := (-1)) rfl (by decide) (by decide) ?_
    refine e_objO (h0 := (fun t : yM => (t, cc, none))) (h := (fun t : yM => (t, cc, none))) (a := 96) (as := [.int (yi v5), .int (yi v9), .int (yi x4), .int (yi v15), .int (yi (-1))]) rfl (by decide) rfl (Nat.le_of_ble_eq_true rfl) rfl (t_61 (by omega) hcc) (fun t23 => ?_)
    refine e_ld (t := 2) rfl (Or.inr (Or.inl ⟨rfl, Or.inl rfl⟩)) (l_kr (by decide) (l_kr (by decide) (l_kr (by decide) (l_kr (by decide) (l_kr (by decide) (l_kr (by decide) hL0)))))) rfl ?_
    refine e_ld (t := 0) rfl (Or.inl ⟨rfl, Or.inr rfl⟩) (l_ki (by decide) l_s) rfl ?_
    refine e_ld (t := 0) rfl (Or.inl ⟨rfl, Or.inr rfl⟩) (l_ki (by decide) l_s) rfl ?_
    refine e_ic (b := 1) rfl (by decide) (by decide) ?_
    refine e_add rfl ?_
    refine e_ld (t := 2) rfl (Or.inr (Or.inl ⟨rfl, Or.inl rfl⟩)) (l_kr (by decide) (l_kr (by decide) (l_kr (by decide) (l_kr (by decide) (l_kr (by decide) (l_kr (by decide) hL3)))))) rfl ?_
    refine e_get (a := r3) (u := .int (yi (t23 r3 0))) rfl (fP hr3) rfl (fun _ => rfl) ?_
    refine e_ld (t := 0) rfl (Or.inl ⟨rfl, Or.inr rfl⟩) l_s rfl ?_
    refine e_ic (b := (-1)) rfl (by decide) (by decide) ?_
    refine e_objO (h0 := (fun t : yM => (t, cc, none))) (h := (fun t : yM => (t, cc, none))) (a := 96) (as := [.int (yi v17), .int (yi (v17 + 1)), .int (yi (t23 r3 0)), .int (yi v20), .int (yi (-1))]) rfl (by decide) rfl (Nat.le_of_ble_eq_true rfl) rfl (t_61 (by omega) hcc) (fun t24 => ?_)
    exact e_vret rfl
  · exact e_vret rfl
def f_64 (N : Nat) (ly : yM → Int → Int → Option yM) (cc : Nat) (M : yM) (x1 : Int) (x2 : Int) : Option (yM) := (ylet (f_66 M x1 x2) fun t1 => (ylet (t1.2) fun v2 => (ylet (yrd t1.1 8 x1) fun v3 => (cond (yrel 0 v3 (-1)) (f_64_27 N ly cc (t1.1) x1 x2 (105 + 1 * ypz 91 x2) v2) (ylet (f_45 cc t1.1 18 v3 0 0 x1 (t1.1 (105 + 1 * ypz 91 x2) 0)) fun t25 => (f_64_27 N ly cc t25 x1 x2 (105 + 1 * ypz 91 x2) v2))))))
theorem t_64 {sc : List Int32} {dd cc : Nat} {dl : Nat} {N : Nat} {ly : yM → Int → Int → Option yM} {M : yM} {x1 : Int} {x2 : Int} (hd : 5 ≤ dd) (hdl : dl + 1 ≤ dd) (hly : ∀ M a b, yP sc dl 50 [.ref 96, .int (yi a), .int (yi b)] M cc (Option.map (fun t => (t, cc, none)) (ly M a b))) (hcc : pC cc) : yP sc dd 64 [.ref 96, .int (yi x1), .int (yi x2)] M cc ((Option.map (fun t : yM => (t, cc, none))) (f_64 N ly cc M x1 x2)) := by
  obtain ⟨dd, rfl⟩ : ∃ e, dd = e + 1 := ⟨dd - 1, by omega⟩
  refine e_meth (C := zg_c64) (W := zg_w64) (ml := 12) rfl rfl (Nat.le_of_ble_eq_true rfl) ?_
  unfold f_64
  refine e_ld (t := 2) rfl (Or.inr (Or.inl ⟨rfl, Or.inl rfl⟩)) rfl rfl ?_
  refine e_ld (t := 0) rfl (Or.inl ⟨rfl, Or.inl rfl⟩) rfl rfl ?_
  refine e_obj (a := 96) (as := [.int (yi x2)]) rfl (by decide) rfl (Nat.le_of_ble_eq_true rfl) rfl (t_68 (by omega)) ?_
  refine e_st (t := 2) rfl (Or.inr ⟨rfl, Or.inl rfl⟩) rfl ?_
  refine e_ld (t := 2) rfl (Or.inr (Or.inl ⟨rfl, Or.inl rfl⟩)) (l_kr (by decide) rfl) rfl ?_
  refine e_ld (t := 0) rfl (Or.inl ⟨rfl, Or.inl rfl⟩) (l_ki (by decide) rfl) rfl ?_
  refine e_ld (t := 0) rfl (Or.inl ⟨rfl, Or.inl rfl⟩) (l_ki (by decide) rfl) rfl ?_
  refine e_objP (Option.map (fun t : yM => (t, cc, none))) (h0 := (fun t : yM × Int => (t.1, cc, some (.int (yi t.2))))) (a := 96) (as := [.int (yi x1), .int (yi x2)]) rfl (by decide) rfl (Nat.le_of_ble_eq_true rfl) rfl (t_66 (by omega)) (fun t1 => ?_)
  refine e_stl (g := (Option.map (fun t : yM => (t, cc, none)))) rfl (Or.inr rfl) (fun v2 => ?_)
  refine e_ld (t := 2) rfl (Or.inr (Or.inl ⟨rfl, Or.inl rfl⟩)) (l_kr (by decide) (l_kr (by decide) rfl)) rfl ?_
  refine e_get (a := 96) (u := .ref 1) rfl rfl rfl (fun _ => rfl) ?_
  refine e_get (a := 1) (u := .ref 8) rfl rfl rfl (fun _ => rfl) ?_
  refine e_ld (t := 0) rfl (Or.inl ⟨rfl, Or.inl rfl⟩) (l_ki (by decide) (l_ki (by decide) rfl)) rfl ?_
  refine e_at (a := 8) (by omega) rfl (by decide) (Nat.le_of_ble_eq_true rfl) rfl ?_
  refine e_stl (g := (Option.map (fun t : yM => (t, cc, none)))) rfl (Or.inr rfl) (fun v3 => ?_)
  refine e_ld (t := 0) rfl (Or.inl ⟨rfl, Or.inr rfl⟩) l_s rfl ?_
  refine e_ic (b := (-1)) rfl (by decide) (by decide) ?_
  refine e_cmp (Option.map (fun t : yM => (t, cc, none))) (q := 0) (by decide) rfl (fun h4 => ?_) (fun h4 => ?_)
  · exact t_64_27 (by omega) (by omega) hly hcc ⟨_, ypz_lt (by decide), rfl⟩ (l_kr (by decide) (l_kr (by decide) (l_kr (by decide) rfl))) (l_ki (by decide) (l_ki (by decide) (l_ki (by decide) rfl))) (l_ki (by decide) (l_ki (by decide) (l_ki (by decide) rfl))) (l_kr (by decide) (l_kr (by decide) l_s)) (l_ki (by decide) l_s)
  · refine e_ld (t := 2) rfl (Or.inr (Or.inl ⟨rfl, Or.inl rfl⟩)) (l_kr (by decide) (l_kr (by decide) (l_kr (by decide) rfl))) rfl ?_
    refine e_ic (b := 18) rfl (by decide) (by decide) ?_
    refine e_ld (t := 0) rfl (Or.inl ⟨rfl, Or.inr rfl⟩) l_s rfl ?_
    refine e_ic (b := 0) rfl (by decide) (by decide) ?_
    refine e_ic (b := 0) rfl (by decide) (by decide) ?_
    refine e_ld (t := 0) rfl (Or.inl ⟨rfl, Or.inl rfl⟩) (l_ki (by decide) (l_ki (by decide) (l_ki (by decide) rfl))) rfl ?_
    refine e_ld (t := 2) rfl (Or.inr (Or.inl ⟨rfl, Or.inl rfl⟩)) (l_kr (by decide) (l_kr (by decide) l_s)) rfl ?_
    refine e_get (a := (105 + 1 * ypz 91 x2)) (u := .int (yi (t1.1 (105 + 1 * ypz 91 x2) 0))) rfl (fP ⟨_, ypz_lt (by decide), rfl⟩) rfl (fun _ => rfl) ?_
    refine e_objP (Option.map (fun t : yM => (t, cc, none))) (h0 := (fun t : yM => (t, cc, none))) (a := 96) (as := [.int (yi 18), .int (yi v3), .int (yi 0), .int (yi 0), .int (yi x1), .int (yi (t1.1 (105 + 1 * ypz 91 x2) 0))]) rfl (by decide) rfl (Nat.le_of_ble_eq_true rfl) rfl (t_45 (by omega) hcc) (fun t25 => ?_)
    exact t_64_27 (by omega) (by omega) hly hcc ⟨_, ypz_lt (by decide), rfl⟩ (l_kr (by decide) (l_kr (by decide) (l_kr (by decide) rfl))) (l_ki (by decide) (l_ki (by decide) (l_ki (by decide) rfl))) (l_ki (by decide) (l_ki (by decide) (l_ki (by decide) rfl))) (l_kr (by decide) (l_kr (by decide) l_s)) (l_ki (by decide) l_s)
/-- UnwindTower$Faults.faultOf -/
def f_72_21 (N : Nat) (M : yM) (x1 : Int) : Option (Int) := (cond (yrel 1 (yrd M 14 x1) (-1)) (some 0) (some 5))
theorem t_72_21 {sc : List Int32} {dd cc : Nat} {N : Nat} {M : yM} {x1 : Int} (hd : 3 ≤ dd) {L : zL} (hL0 : L 0 = some (.ref 18)) (hL1 : L 1 = some (.int (yi x1))) : yW sc zg_c72 zg_w72 dd 21 L [] M cc ((Option.map (fun t : Int => (M, cc, some (.int (yi t))))) (f_72_21 N M x1)) := by
  unfold f_72_21
  refine e_ld (t := 2) rfl (Or.inr (Or.inl ⟨rfl, Or.inl rfl⟩)) hL0 rfl ?_
  refine e_get (a := 18) (u := .ref 1) rfl rfl rfl (fun _ => rfl) ?_
  refine e_get (a := 1) (u := .ref 14) rfl rfl rfl (fun _ => rfl) ?_
  refine e_ld (t := 0) rfl (Or.inl ⟨rfl, Or.inl rfl⟩) hL1 rfl ?_
  refine e_at (a := 14) (by omega) rfl (by decide) (Nat.le_of_ble_eq_true rfl) rfl ?_
  refine e_ic (b := (-1)) rfl (by decide) (by decide) ?_
  refine e_cmp (Option.map (fun t : Int => (M, cc, some (.int (yi t))))) (q := 1) (by decide) rfl (fun h15 => ?_) (fun h15 => ?_)
  · refine e_ic (b := 0) rfl (by decide) (by decide) ?_
    exact e_iret rfl (Or.inl rfl)
  · refine e_ic (b := 5) rfl (by decide) (by decide) ?_
    refine e_go rfl ?_
    exact e_iret rfl (Or.inl rfl)
def f_72 (N : Nat) (M : yM) (x1 : Int) : Option (Int) := (cond (yrel 0 (yrd M 7 x1) 4) (cond (yrel 1 (yrd M 17 (yrd M 9 x1)) 1) (some 0) (some 7)) (cond (yrel 0 (yrd M 7 x1) (4 + 1)) (some 0) (cond (yrel 0 (yrd M 7 x1) (4 + 1 + 1)) (some 0) (cond (yrel 0 (yrd M 7 x1) (4 + 1 + 1 + 1)) (cond (yrel 1 (yrd M 15 x1) (-1)) (some 0) (some 4)) (cond (yrel 0 (yrd M 7 x1) (4 + 1 + 1 + 1 + 1)) (some 0) (cond (yrel 0 (yrd M 7 x1) (4 + 1 + 1 + 1 + 1 + 1)) (some 0) (cond (yrel 0 (yrd M 7 x1) (4 + 1 + 1 + 1 + 1 + 1 + 1)) (some 0) (cond (yrel 0 (yrd M 7 x1) (4 + 1 + 1 + 1 + 1 + 1 + 1 + 1)) (some 0) (cond (yrel 0 (yrd M 7 x1) (4 + 1 + 1 + 1 + 1 + 1 + 1 + 1 + 1)) (Option.bind (f_73 N M x1) fun t12 => some t12) (cond (yrel 0 (yrd M 7 x1) (4 + 1 + 1 + 1 + 1 + 1 + 1 + 1 + 1 + 1)) (some 0) (cond (yrel 0 (yrd M 7 x1) (4 + 1 + 1 + 1 + 1 + 1 + 1 + 1 + 1 + 1 + 1)) (f_72_21 N M x1) (cond (yrel 0 (yrd M 7 x1) (4 + 1 + 1 + 1 + 1 + 1 + 1 + 1 + 1 + 1 + 1 + 1)) (f_72_21 N M x1) (cond (yrel 0 (yrd M 7 x1) (4 + 1 + 1 + 1 + 1 + 1 + 1 + 1 + 1 + 1 + 1 + 1 + 1)) (f_72_21 N M x1) (cond (yrel 0 (yrd M 7 x1) (4 + 1 + 1 + 1 + 1 + 1 + 1 + 1 + 1 + 1 + 1 + 1 + 1 + 1)) (f_72_21 N M x1) (some 0)))))))))))))))
theorem t_72 {sc : List Int32} {dd cc : Nat} {N : Nat} {M : yM} {x1 : Int} (hd : 4 ≤ dd) : yP sc dd 72 [.ref 18, .int (yi x1)] M cc ((Option.map (fun t : Int => (M, cc, some (.int (yi t))))) (f_72 N M x1)) := by
  obtain ⟨dd, rfl⟩ : ∃ e, dd = e + 1 := ⟨dd - 1, by omega⟩
  refine e_meth (C := zg_c72) (W := zg_w72) (ml := 2) rfl rfl (Nat.le_of_ble_eq_true rfl) ?_
  unfold f_72
  refine e_ld (t := 2) rfl (Or.inr (Or.inl ⟨rfl, Or.inl rfl⟩)) rfl rfl ?_
  refine e_get (a := 18) (u := .ref 1) rfl rfl rfl (fun _ => rfl) ?_
  refine e_get (a := 1) (u := .ref 7) rfl rfl rfl (fun _ => rfl) ?_
  refine e_ld (t := 0) rfl (Or.inl ⟨rfl, Or.inl rfl⟩) rfl rfl ?_
  refine e_at (a := 7) (by omega) rfl (by decide) (Nat.le_of_ble_eq_true rfl) rfl ?_
  refine e_sw (lo' := 4) rfl rfl (by decide) ?_
  refine s_case (Option.map (fun t : Int => (M, cc, some (.int (yi t))))) (by decide) (fun h1 => ?_) (fun h1 => ?_)
  · refine e_ld (t := 2) rfl (Or.inr (Or.inl ⟨rfl, Or.inl rfl⟩)) rfl rfl ?_
    refine e_get (a := 18) (u := .ref 1) rfl rfl rfl (fun _ => rfl) ?_
    refine e_get (a := 1) (u := .ref 17) rfl rfl rfl (fun _ => rfl) ?_
    refine e_ld (t := 2) rfl (Or.inr (Or.inl ⟨rfl, Or.inl rfl⟩)) rfl rfl ?_
    refine e_get (a := 18) (u := .ref 1) rfl rfl rfl (fun _ => rfl) ?_
    refine e_get (a := 1) (u := .ref 9) rfl rfl rfl (fun _ => rfl) ?_
    refine e_ld (t := 0) rfl (Or.inl ⟨rfl, Or.inl rfl⟩) rfl rfl ?_
    refine e_at (a := 9) (by omega) rfl (by decide) (Nat.le_of_ble_eq_true rfl) rfl ?_
    refine e_at (a := 17) (by omega) rfl (by decide) (Nat.le_of_ble_eq_true rfl) rfl ?_
    refine e_ic (b := 1) rfl (by decide) (by decide) ?_
    refine e_cmp (Option.map (fun t : Int => (M, cc, some (.int (yi t))))) (q := 1) (by decide) rfl (fun h2 => ?_) (fun h2 => ?_)
    · refine e_ic (b := 0) rfl (by decide) (by decide) ?_
      exact e_iret rfl (Or.inl rfl)
    · refine e_ic (b := 7) rfl (by decide) (by decide) ?_
      refine e_go rfl ?_
      exact e_iret rfl (Or.inl rfl)
  refine s_case (Option.map (fun t : Int => (M, cc, some (.int (yi t))))) (by decide) (fun h3 => ?_) (fun h3 => ?_)
  · refine e_ic (b := 0) rfl (by decide) (by decide) ?_
    exact e_iret rfl (Or.inl rfl)
  refine s_case (Option.map (fun t : Int => (M, cc, some (.int (yi t))))) (by decide) (fun h4 => ?_) (fun h4 => ?_)
  · refine e_ic (b := 0) rfl (by decide) (by decide) ?_
    exact e_iret rfl (Or.inl rfl)
  refine s_case (Option.map (fun t : Int => (M, cc, some (.int (yi t))))) (by decide) (fun h5 => ?_) (fun h5 => ?_)
  · refine e_ld (t := 2) rfl (Or.inr (Or.inl ⟨rfl, Or.inl rfl⟩)) rfl rfl ?_
    refine e_get (a := 18) (u := .ref 1) rfl rfl rfl (fun _ => rfl) ?_
    refine e_get (a := 1) (u := .ref 15) rfl rfl rfl (fun _ => rfl) ?_
    refine e_ld (t := 0) rfl (Or.inl ⟨rfl, Or.inl rfl⟩) rfl rfl ?_
    refine e_at (a := 15) (by omega) rfl (by decide) (Nat.le_of_ble_eq_true rfl) rfl ?_
    refine e_ic (b := (-1)) rfl (by decide) (by decide) ?_
    refine e_cmp (Option.map (fun t : Int => (M, cc, some (.int (yi t))))) (q := 1) (by decide) rfl (fun h6 => ?_) (fun h6 => ?_)
    · refine e_ic (b := 0) rfl (by decide) (by decide) ?_
      exact e_iret rfl (Or.inl rfl)
    · refine e_ic (b := 4) rfl (by decide) (by decide) ?_
      refine e_go rfl ?_
      exact e_iret rfl (Or.inl rfl)
  refine s_case (Option.map (fun t : Int => (M, cc, some (.int (yi t))))) (by decide) (fun h7 => ?_) (fun h7 => ?_)
  · refine e_ic (b := 0) rfl (by decide) (by decide) ?_
    exact e_iret rfl (Or.inl rfl)
  refine s_case (Option.map (fun t : Int => (M, cc, some (.int (yi t))))) (by decide) (fun h8 => ?_) (fun h8 => ?_)
  · refine e_ic (b := 0) rfl (by decide) (by decide) ?_
    exact e_iret rfl (Or.inl rfl)
  refine s_case (Option.map (fun t : Int => (M, cc, some (.int (yi t))))) (by decide) (fun h9 => ?_) (fun h9 => ?_)
  · refine e_ic (b := 0) rfl (by decide) (by decide) ?_
    exact e_iret rfl (Or.inl rfl)
  refine s_case (Option.map (fun t : Int => (M, cc, some (.int (yi t))))) (by decide) (fun h10 => ?_) (fun h10 => ?_)
  · refine e_ic (b := 0) rfl (by decide) (by decide) ?_
    exact e_iret rfl (Or.inl rfl)
  refine s_case (Option.map (fun t : Int => (M, cc, some (.int (yi t))))) (by decide) (fun h11 => ?_) (fun h11 => ?_)
  · refine e_ld (t := 2) rfl (Or.inr (Or.inl ⟨rfl, Or.inl rfl⟩)) rfl rfl ?_
    refine e_ld (t := 0) rfl (Or.inl ⟨rfl, Or.inl rfl⟩) rfl rfl ?_
    refine e_objO (h0 := (fun t : Int => (M, cc, some (.int (yi t))))) (h := (fun t : Int => (M, cc, some (.int (yi t))))) (a := 18) (as := [.int (yi x1)]) rfl (by decide) rfl (Nat.le_of_ble_eq_true rfl) rfl (t_73 (by omega)) (fun t12 => ?_)
    exact e_iret rfl (Or.inl rfl)
  refine s_case (Option.map (fun t : Int => (M, cc, some (.int (yi t))))) (by decide) (fun h13 => ?_) (fun h13 => ?_)
  · refine e_ic (b := 0) rfl (by decide) (by decide) ?_
    exact e_iret rfl (Or.inl rfl)
  refine s_case (Option.map (fun t : Int => (M, cc, some (.int (yi t))))) (by decide) (fun h14 => ?_) (fun h14 => ?_)
  · exact t_72_21 (by omega) rfl rfl
  refine s_case (Option.map (fun t : Int => (M, cc, some (.int (yi t))))) (by decide) (fun h16 => ?_) (fun h16 => ?_)
  · exact t_72_21 (by omega) rfl rfl
  refine s_case (Option.map (fun t : Int => (M, cc, some (.int (yi t))))) (by decide) (fun h17 => ?_) (fun h17 => ?_)
  · exact t_72_21 (by omega) rfl rfl
  refine s_case (Option.map (fun t : Int => (M, cc, some (.int (yi t))))) (by decide) (fun h18 => ?_) (fun h18 => ?_)
  · exact t_72_21 (by omega) rfl rfl
  refine s_end ?_
  refine e_ic (b := 0) rfl (by decide) (by decide) ?_
  exact e_iret rfl (Or.inl rfl)
/-- UnwindTower$Faults.findInNodes -/
def f_75_37 (N : Nat) (ih8 : yM → Int → Int → Option (yM)) (M : yM) (x1 : Int) (x3 : Int) (x4 : Int) : Option (yM) := (ylet (f_77 M (f_136 M x4)) fun t9 => (ylet (f_77 t9 (f_135 t9 x4)) fun t10 => (ylet (f_77 t10 (f_134 t10 x4)) fun t11 => (ih8 t11 x1 (x3 + (-1))))))
theorem t_75_37 {sc : List Int32} {dd cc : Nat} {N : Nat} {ih8 : yM → Int → Int → Option (yM)} {M : yM} {x1 : Int} {x3 : Int} {x4 : Int} (hd : 4 ≤ dd) (ih8_ : ∀ {M : yM} {x1 : Int} {x3 : Int} {L : zL} (hL0 : L 0 = some (.ref 18)) (hL1 : L 1 = some (.int (yi x1))) (hL3 : L 3 = some (.int (yi x3))), yW sc zg_c75 zg_w75 dd 8 L [] M cc ((Option.map (fun t : yM => (t, cc, none))) (ih8 M x1 x3))) {L : zL} (hL0 : L 0 = some (.ref 18)) (hL1 : L 1 = some (.int (yi x1))) (hL3 : L 3 = some (.int (yi x3))) (hL4 : L 4 = some (.int (yi x4))) : yW sc zg_c75 zg_w75 dd 37 L [] M cc ((Option.map (fun t : yM => (t, cc, none))) (f_75_37 N ih8 M x1 x3 x4)) := by
  unfold f_75_37
  refine e_ld (t := 2) rfl (Or.inr (Or.inl ⟨rfl, Or.inl rfl⟩)) hL0 rfl ?_
  refine e_ld (t := 2) rfl (Or.inr (Or.inl ⟨rfl, Or.inl rfl⟩)) hL0 rfl ?_
  refine e_get (a := 18) (u := .ref 1) rfl rfl rfl (fun _ => rfl) ?_
  refine e_ld (t := 0) rfl (Or.inl ⟨rfl, Or.inr rfl⟩) hL4 rfl ?_
  refine e_obj (M1 := M) (cc1 := cc) (v1 := some (.int (yi (f_136 M x4)))) (a := 1) (as := [.int (yi x4)]) rfl (by decide) rfl (Nat.le_of_ble_eq_true rfl) rfl (t_136 (by omega)) ?_
  refine e_objP (Option.map (fun t : yM => (t, cc, none))) (h0 := (fun t : yM => (t, cc, none))) (a := 18) (as := [.int (yi (f_136 M x4))]) rfl (by decide) rfl (Nat.le_of_ble_eq_true rfl) rfl (t_77 (by omega)) (fun t9 => ?_)
  refine e_ld (t := 2) rfl (Or.inr (Or.inl ⟨rfl, Or.inl rfl⟩)) hL0 rfl ?_
  refine e_ld (t := 2) rfl (Or.inr (Or.inl ⟨rfl, Or.inl rfl⟩)) hL0 rfl ?_
  refine e_get (a := 18) (u := .ref 1) rfl rfl rfl (fun _ => rfl) ?_
  refine e_ld (t := 0) rfl (Or.inl ⟨rfl, Or.inr rfl⟩) hL4 rfl ?_
  refine e_obj (M1 := t9) (cc1 := cc) (v1 := some (.int (yi (f_135 t9 x4)))) (a := 1) (as := [.int (yi x4)]) rfl (by decide) rfl (Nat.le_of_ble_eq_true rfl) rfl (t_135 (by omega)) ?_
  refine e_objP (Option.map (fun t : yM => (t, cc, none))) (h0 := (fun t : yM => (t, cc, none))) (a := 18) (as := [.int (yi (f_135 t9 x4))]) rfl (by decide) rfl (Nat.le_of_ble_eq_true rfl) rfl (t_77 (by omega)) (fun t10 => ?_)
  refine e_ld (t := 2) rfl (Or.inr (Or.inl ⟨rfl, Or.inl rfl⟩)) hL0 rfl ?_
  refine e_ld (t := 2) rfl (Or.inr (Or.inl ⟨rfl, Or.inl rfl⟩)) hL0 rfl ?_
  refine e_get (a := 18) (u := .ref 1) rfl rfl rfl (fun _ => rfl) ?_
  refine e_ld (t := 0) rfl (Or.inl ⟨rfl, Or.inr rfl⟩) hL4 rfl ?_
  refine e_obj (M1 := t10) (cc1 := cc) (v1 := some (.int (yi (f_134 t10 x4)))) (a := 1) (as := [.int (yi x4)]) rfl (by decide) rfl (Nat.le_of_ble_eq_true rfl) rfl (t_134 (by omega)) ?_
  refine e_objP (Option.map (fun t : yM => (t, cc, none))) (h0 := (fun t : yM => (t, cc, none))) (a := 18) (as := [.int (yi (f_134 t10 x4))]) rfl (by decide) rfl (Nat.le_of_ble_eq_true rfl) rfl (t_77 (by omega)) (fun t11 => ?_)
  refine e_inc (d := (-1)) rfl hL3 (by decide) ?_
  refine e_go rfl ?_
  exact ih8_ (l_kr (by decide) hL0) (l_ki (by decide) hL1) l_s
def f_75_8 (N : Nat) : Nat → yM → Int → Int → Option (yM)
  | 0, _, _, _ => none
  | n + 1, M, x1, x3 => (cond (yrel 5 (M 18 3) 0) (some M) (cond (yrel 5 x3 0) (some M) (ylet (yU M 18 3 ((M 18 3) - 1)) fun M5 => (ylet (yrd M5 20 (M5 18 3)) fun v6 => (Option.bind (f_72 N M5 v6) fun t7 => (cond (yrel 0 t7 0) (f_75_37 N (f_75_8 N n) M5 x1 x3 v6) (ylet (f_71 M5 t7 x1 v6 (-1)) fun t12 => (f_75_37 N (f_75_8 N n) t12 x1 x3 v6))))))))
theorem t_75_8 {sc : List Int32} {dd cc : Nat} {N : Nat} (hd : 4 ≤ dd) : ∀ (n : Nat) {M : yM} {x1 : Int} {x3 : Int} {L : zL} (hL0 : L 0 = some (.ref 18)) (hL1 : L 1 = some (.int (yi x1))) (hL3 : L 3 = some (.int (yi x3))), yW sc zg_c75 zg_w75 dd 8 L [] M cc ((Option.map (fun t : yM => (t, cc, none))) (f_75_8 N n M x1 x3)) := by
  intro n
  induction n with
  | zero => intros; exact y_none
  | succ n IH =>
    intro M x1 x3 L hL0 hL1 hL3
    rw [f_75_8]
    refine e_ld (t := 2) rfl (Or.inr (Or.inl ⟨rfl, Or.inl rfl⟩)) hL0 rfl ?_
    refine e_get (a := 18) (u := .int (yi (M 18 3))) rfl rfl rfl (fun _ => rfl) ?_
    refine e_br (Option.map (fun t : yM => (t, cc, none))) (q := 5) (by decide) rfl (fun h3 => ?_) (fun h3 => ?_)
    · exact e_vret rfl
    · refine e_ld (t := 0) rfl (Or.inl ⟨rfl, Or.inl rfl⟩) hL3 rfl ?_
      refine e_br (Option.map (fun t : yM => (t, cc, none))) (q := 5) (by decide) rfl (fun h4 => ?_) (fun h4 => ?_)
      · exact e_vret rfl
      · refine e_ld (t := 2) rfl (Or.inr (Or.inl ⟨rfl, Or.inl rfl⟩)) hL0 rfl ?_
        refine e_dup rfl (Or.inr ⟨_, rfl⟩) ?_
        refine e_get (a := 18) (u := .int (yi (M 18 3))) rfl rfl rfl (fun _ => rfl) ?_
        refine e_ic (b := 1) rfl (by decide) (by decide) ?_
        refine e_sub rfl ?_
        refine e_put (a := 18) rfl (Or.inl rfl) rfl rfl (Or.inl rfl) ?_
        refine y_let (Option.map (fun t : yM => (t, cc, none))) (fun M5 => ?_)
        refine e_ld (t := 2) rfl (Or.inr (Or.inl ⟨rfl, Or.inl rfl⟩)) hL0 rfl ?_
        refine e_get (a := 18) (u := .ref 20) rfl rfl rfl (fun _ => rfl) ?_
        refine e_ld (t := 2) rfl (Or.inr (Or.inl ⟨rfl, Or.inl rfl⟩)) hL0 rfl ?_
        refine e_get (a := 18) (u := .int (yi (M5 18 3))) rfl rfl rfl (fun _ => rfl) ?_
        refine e_at (a := 20) (by omega) rfl (by decide) (Nat.le_of_ble_eq_true rfl) rfl ?_
        refine e_stl (g := (Option.map (fun t : yM => (t, cc, none)))) rfl (Or.inr rfl) (fun v6 => ?_)
        refine e_ld (t := 2) rfl (Or.inr (Or.inl ⟨rfl, Or.inl rfl⟩)) (l_kr (by decide) hL0) rfl ?_
        refine e_ld (t := 0) rfl (Or.inl ⟨rfl, Or.inr rfl⟩) l_s rfl ?_
        refine e_objO (h0 := (fun t : Int => (M5, cc, some (.int (yi t))))) (h := (fun t : yM => (t, cc, none))) (a := 18) (as := [.int (yi v6)]) rfl (by decide) rfl (Nat.le_of_ble_eq_true rfl) rfl (t_72 (by omega)) (fun t7 => ?_)
        refine e_st (t := 0) rfl (Or.inl ⟨rfl, Or.inr rfl⟩) rfl ?_
        refine e_ld (t := 0) rfl (Or.inl ⟨rfl, Or.inr rfl⟩) l_s rfl ?_
        refine e_br (Option.map (fun t : yM => (t, cc, none))) (q := 0) (by decide) rfl (fun h8 => ?_) (fun h8 => ?_)
        · exact t_75_37 (by omega) IH (l_kr (by decide) (l_kr (by decide) hL0)) (l_ki (by decide) (l_ki (by decide) hL1)) (l_ki (by decide) (l_ki (by decide) hL3)) (l_ki (by decide) l_s)
        · refine e_ld (t := 2) rfl (Or.inr (Or.inl ⟨rfl, Or.inl rfl⟩)) (l_kr (by decide) (l_kr (by decide) hL0)) rfl ?_
          refine e_ld (t := 0) rfl (Or.inl ⟨rfl, Or.inr rfl⟩) l_s rfl ?_
          refine e_ld (t := 0) rfl (Or.inl ⟨rfl, Or.inl rfl⟩) (l_ki (by decide) (l_ki (by decide) hL1)) rfl ?_
          refine e_ld (t := 0) rfl (Or.inl ⟨rfl, Or.inr rfl⟩) (l_ki (by decide) l_s) rfl ?_
          refine e_ic (b := (-1)) rfl (by decide) (by decide) ?_
          refine e_objP (Option.map (fun t : yM => (t, cc, none))) (h0 := (fun t : yM => (t, cc, none))) (a := 18) (as := [.int (yi t7), .int (yi x1), .int (yi v6), .int (yi (-1))]) rfl (by decide) rfl (Nat.le_of_ble_eq_true rfl) rfl (t_71 (by omega)) (fun t12 => ?_)
          exact t_75_37 (by omega) IH (l_kr (by decide) (l_kr (by decide) hL0)) (l_ki (by decide) (l_ki (by decide) hL1)) (l_ki (by decide) (l_ki (by decide) hL3)) (l_ki (by decide) l_s)
def f_75 (N : Nat) (M : yM) (x1 : Int) (x2 : Int) : Option (yM) := (ylet (yU M 18 3 0) fun M1 => (ylet (f_77 M1 x2) fun t2 => (f_75_8 N N t2 x1 90)))
theorem t_75 {sc : List Int32} {dd cc : Nat} {N : Nat} {M : yM} {x1 : Int} {x2 : Int} (hd : 5 ≤ dd) : yP sc dd 75 [.ref 18, .int (yi x1), .int (yi x2)] M cc ((Option.map (fun t : yM => (t, cc, none))) (f_75 N M x1 x2)) := by
  obtain ⟨dd, rfl⟩ : ∃ e, dd = e + 1 := ⟨dd - 1, by omega⟩
  refine e_meth (C := zg_c75) (W := zg_w75) (ml := 6) rfl rfl (Nat.le_of_ble_eq_true rfl) ?_
  unfold f_75
  refine e_ld (t := 2) rfl (Or.inr (Or.inl ⟨rfl, Or.inl rfl⟩)) rfl rfl ?_
  refine e_ic (b := 0) rfl (by decide) (by decide) ?_
  refine e_put (a := 18) rfl (Or.inl rfl) rfl rfl (Or.inl rfl) ?_
  refine y_let (Option.map (fun t : yM => (t, cc, none))) (fun M1 => ?_)
  refine e_ld (t := 2) rfl (Or.inr (Or.inl ⟨rfl, Or.inl rfl⟩)) rfl rfl ?_
  refine e_ld (t := 0) rfl (Or.inl ⟨rfl, Or.inl rfl⟩) rfl rfl ?_
  refine e_objP (Option.map (fun t : yM => (t, cc, none))) (h0 := (fun t : yM => (t, cc, none))) (a := 18) (as := [.int (yi x2)]) rfl (by decide) rfl (Nat.le_of_ble_eq_true rfl) rfl (t_77 (by omega)) (fun t2 => ?_)
  refine e_ic (b := 90) rfl (by decide) (by decide) ?_
  refine e_st (t := 0) rfl (Or.inl ⟨rfl, Or.inl rfl⟩) rfl ?_
  exact t_75_8 (by omega) N (l_kr (by decide) rfl) (l_ki (by decide) rfl) l_s
/-- UnwindTower$Faults.findUntold -/
def f_76_64 (N : Nat) (ih39 : yM → Int → Int → Int → Option (yM)) (M : yM) (x1 : Int) (x2 : Int) (x4 : Int) : Option (yM) := (ih39 M x1 x2 (x4 + 1))
theorem t_76_64 {sc : List Int32} {dd cc : Nat} {N : Nat} {ih39 : yM → Int → Int → Int → Option (yM)} {M : yM} {x1 : Int} {x2 : Int} {x4 : Int} (hd : 3 ≤ dd) (ih39_ : ∀ {M : yM} {x1 : Int} {x2 : Int} {x4 : Int} {L : zL} (hL0 : L 0 = some (.ref 18)) (hL1 : L 1 = some (.int (yi x1))) (hL2 : L 2 = some (.int (yi x2))) (hL4 : L 4 = some (.int (yi x4))), yW sc zg_c76 zg_w76 dd 39 L [] M cc ((Option.map (fun t : yM => (t, cc, none))) (ih39 M x1 x2 x4))) {L : zL} (hL0 : L 0 = some (.ref 18)) (hL1 : L 1 = some (.int (yi x1))) (hL2 : L 2 = some (.int (yi x2))) (hL4 : L 4 = some (.int (yi x4))) : yW sc zg_c76 zg_w76 dd 64 L [] M cc ((Option.map (fun t : yM => (t, cc, none))) (f_76_64 N ih39 M x1 x2 x4)) := by
  unfold f_76_64
  refine e_inc (d := 1) rfl hL4 (by decide) ?_
  refine e_go rfl ?_
  exact ih39_ (l_kr (by decide) hL0) (l_ki (by decide) hL1) (l_ki (by decide) hL2) l_s
def f_76_39 (N : Nat) : Nat → yM → Int → Int → Int → Option (yM)
  | 0, _, _, _, _ => none
  | n + 1, M, x1, x2, x4 => (cond (yrel 3 x4 (M 1 0)) (some M) (cond (yrel 1 (ybin 26 (ybin 104 x2 x4) 1) 1) (f_76_64 N (f_76_39 N n) M x1 x2 x4) (cond (yrel 1 (yrd M 3 x4) 1) (f_76_64 N (f_76_39 N n) M x1 x2 x4) (ylet (f_71 M 3 x1 (-1) x4) fun t7 => (f_76_64 N (f_76_39 N n) t7 x1 x2 x4)))))
theorem t_76_39 {sc : List Int32} {dd cc : Nat} {N : Nat} (hd : 3 ≤ dd) : ∀ (n : Nat) {M : yM} {x1 : Int} {x2 : Int} {x4 : Int} {L : zL} (hL0 : L 0 = some (.ref 18)) (hL1 : L 1 = some (.int (yi x1))) (hL2 : L 2 = some (.int (yi x2))) (hL4 : L 4 = some (.int (yi x4))), yW sc zg_c76 zg_w76 dd 39 L [] M cc ((Option.map (fun t : yM => (t, cc, none))) (f_76_39 N n M x1 x2 x4)) := by
  intro n
  induction n with
  | zero => intros; exact y_none
  | succ n IH =>
    intro M x1 x2 x4 L hL0 hL1 hL2 hL4
    rw [f_76_39]
    refine e_ld (t := 0) rfl (Or.inl ⟨rfl, Or.inr rfl⟩) hL4 rfl ?_
    refine e_ld (t := 2) rfl (Or.inr (Or.inl ⟨rfl, Or.inl rfl⟩)) hL0 rfl ?_
    refine e_get (a := 18) (u := .ref 1) rfl rfl rfl (fun _ => rfl) ?_
    refine e_get (a := 1) (u := .int (yi (M 1 0))) rfl rfl rfl (fun _ => rfl) ?_
    refine e_cmp (Option.map (fun t : yM => (t, cc, none))) (q := 3) (by decide) rfl (fun h4 => ?_) (fun h4 => ?_)
    · exact e_vret rfl
    · refine e_ld (t := 0) rfl (Or.inl ⟨rfl, Or.inl rfl⟩) hL2 rfl ?_
      refine e_ld (t := 0) rfl (Or.inl ⟨rfl, Or.inr rfl⟩) hL4 rfl ?_
      refine e_bin rfl (by decide) ?_
      refine e_ic (b := 1) rfl (by decide) (by decide) ?_
      refine e_bin rfl (by decide) ?_
      refine e_ic (b := 1) rfl (by decide) (by decide) ?_
      refine e_cmp (Option.map (fun t : yM => (t, cc, none))) (q := 1) (by decide) rfl (fun h5 => ?_) (fun h5 => ?_)
      · exact t_76_64 (by omega) IH hL0 hL1 hL2 hL4
      · refine e_ld (t := 2) rfl (Or.inr (Or.inl ⟨rfl, Or.inl rfl⟩)) hL0 rfl ?_
        refine e_get (a := 18) (u := .ref 1) rfl rfl rfl (fun _ => rfl) ?_
        refine e_get (a := 1) (u := .ref 3) rfl rfl rfl (fun _ => rfl) ?_
        refine e_ld (t := 0) rfl (Or.inl ⟨rfl, Or.inr rfl⟩) hL4 rfl ?_
        refine e_at (a := 3) (by omega) rfl (by decide) (Nat.le_of_ble_eq_true rfl) rfl ?_
        refine e_ic (b := 1) rfl (by decide) (by decide) ?_
        refine e_cmp (Option.map (fun t : yM => (t, cc, none))) (q := 1) (by decide) rfl (fun h6 => ?_) (fun h6 => ?_)
        · exact t_76_64 (by omega) IH hL0 hL1 hL2 hL4
        · refine e_ld (t := 2) rfl (Or.inr (Or.inl ⟨rfl, Or.inl rfl⟩)) hL0 rfl ?_
          refine e_ic (b := 3) rfl (by decide) (by decide) ?_
          refine e_ld (t := 0) rfl (Or.inl ⟨rfl, Or.inl rfl⟩) hL1 rfl ?_
          refine e_ic (b := (-1)) rfl (by decide) (by decide) ?_
          refine e_ld (t := 0) rfl (Or.inl ⟨rfl, Or.inr rfl⟩) hL4 rfl ?_
          refine e_objP (Option.map (fun t : yM => (t, cc, none))) (h0 := (fun t : yM => (t, cc, none))) (a := 18) (as := [.int (yi 3), .int (yi x1), .int (yi (-1)), .int (yi x4)]) rfl (by decide) rfl (Nat.le_of_ble_eq_true rfl) rfl (t_71 (by omega)) (fun t7 => ?_)
          exact t_76_64 (by omega) IH hL0 hL1 hL2 hL4
def f_76_35 (N : Nat) (ih13 : yM → Int → Int → Int → Int → Option (yM)) (M : yM) (x1 : Int) (x2 : Int) (x3 : Int) (x4 : Int) : Option (yM) := (ih13 M x1 x2 x3 (x4 + 1))
theorem t_76_35 {sc : List Int32} {dd cc : Nat} {N : Nat} {ih13 : yM → Int → Int → Int → Int → Option (yM)} {M : yM} {x1 : Int} {x2 : Int} {x3 : Int} {x4 : Int} (hd : 3 ≤ dd) (ih13_ : ∀ {M : yM} {x1 : Int} {x2 : Int} {x3 : Int} {x4 : Int} {L : zL} (hL0 : L 0 = some (.ref 18)) (hL1 : L 1 = some (.int (yi x1))) (hL2 : L 2 = some (.int (yi x2))) (hL3 : L 3 = some (.int (yi x3))) (hL4 : L 4 = some (.int (yi x4))), yW sc zg_c76 zg_w76 dd 13 L [] M cc ((Option.map (fun t : yM => (t, cc, none))) (ih13 M x1 x2 x3 x4))) {L : zL} (hL0 : L 0 = some (.ref 18)) (hL1 : L 1 = some (.int (yi x1))) (hL2 : L 2 = some (.int (yi x2))) (hL3 : L 3 = some (.int (yi x3))) (hL4 : L 4 = some (.int (yi x4))) : yW sc zg_c76 zg_w76 dd 35 L [] M cc ((Option.map (fun t : yM => (t, cc, none))) (f_76_35 N ih13 M x1 x2 x3 x4)) := by
  unfold f_76_35
  refine e_inc (d := 1) rfl hL4 (by decide) ?_
  refine e_go rfl ?_
  exact ih13_ (l_kr (by decide) hL0) (l_ki (by decide) hL1) (l_ki (by decide) hL2) (l_ki (by decide) hL3) l_s
def f_76_13 (N : Nat) : Nat → yM → Int → Int → Int → Int → Option (yM)
  | 0, _, _, _, _, _ => none
  | n + 1, M, x1, x2, x3, x4 => (cond (yrel 3 x4 (M 1 0)) (f_76_39 N N M x1 x2 0) (cond (yrel 1 (ybin 26 (ybin 104 x3 x4) 1) 1) (f_76_35 N (f_76_13 N n) M x1 x2 x3 x4) (ylet (ybin 26 x2 (ybin 105 (yrd M 4 x4) (-1))) fun v9 => (f_76_35 N (f_76_13 N n) M x1 v9 x3 x4))))
theorem t_76_13 {sc : List Int32} {dd cc : Nat} {N : Nat} (hd : 3 ≤ dd) : ∀ (n : Nat) {M : yM} {x1 : Int} {x2 : Int} {x3 : Int} {x4 : Int} {L : zL} (hL0 : L 0 = some (.ref 18)) (hL1 : L 1 = some (.int (yi x1))) (hL2 : L 2 = some (.int (yi x2))) (hL3 : L 3 = some (.int (yi x3))) (hL4 : L 4 = some (.int (yi x4))), yW sc zg_c76 zg_w76 dd 13 L [] M cc ((Option.map (fun t : yM => (t, cc, none))) (f_76_13 N n M x1 x2 x3 x4)) := by
  intro n
  induction n with
  | zero => intros; exact y_none
  | succ n IH =>
    intro M x1 x2 x3 x4 L hL0 hL1 hL2 hL3 hL4
    rw [f_76_13]
    refine e_ld (t := 0) rfl (Or.inl ⟨rfl, Or.inr rfl⟩) hL4 rfl ?_
    refine e_ld (t := 2) rfl (Or.inr (Or.inl ⟨rfl, Or.inl rfl⟩)) hL0 rfl ?_
    refine e_get (a := 18) (u := .ref 1) rfl rfl rfl (fun _ => rfl) ?_
    refine e_get (a := 1) (u := .int (yi (M 1 0))) rfl rfl rfl (fun _ => rfl) ?_
    refine e_cmp (Option.map (fun t : yM => (t, cc, none))) (q := 3) (by decide) rfl (fun h3 => ?_) (fun h3 => ?_)
    · refine e_ic (b := 0) rfl (by decide) (by decide) ?_
      refine e_st (t := 0) rfl (Or.inl ⟨rfl, Or.inr rfl⟩) rfl ?_
      exact t_76_39 (by omega) N (l_kr (by decide) hL0) (l_ki (by decide) hL1) (l_ki (by decide) hL2) l_s
    · refine e_ld (t := 0) rfl (Or.inl ⟨rfl, Or.inl rfl⟩) hL3 rfl ?_
      refine e_ld (t := 0) rfl (Or.inl ⟨rfl, Or.inr rfl⟩) hL4 rfl ?_
      refine e_bin rfl (by decide) ?_
      refine e_ic (b := 1) rfl (by decide) (by decide) ?_
      refine e_bin rfl (by decide) ?_
      refine e_ic (b := 1) rfl (by decide) (by decide) ?_
      refine e_cmp (Option.map (fun t : yM => (t, cc, none))) (q := 1) (by decide) rfl (fun h8 => ?_) (fun h8 => ?_)
      · exact t_76_35 (by omega) IH hL0 hL1 hL2 hL3 hL4
      · refine e_ld (t := 0) rfl (Or.inl ⟨rfl, Or.inl rfl⟩) hL2 rfl ?_
        refine e_ld (t := 2) rfl (Or.inr (Or.inl ⟨rfl, Or.inl rfl⟩)) hL0 rfl ?_
        refine e_get (a := 18) (u := .ref 1) rfl rfl rfl (fun _ => rfl) ?_
        refine e_get (a := 1) (u := .ref 4) rfl rfl rfl (fun _ => rfl) ?_
        refine e_ld (t := 0) rfl (Or.inl ⟨rfl, Or.inr rfl⟩) hL4 rfl ?_
        refine e_at (a := 4) (by omega) rfl (by decide) (Nat.le_of_ble_eq_true rfl) rfl ?_
        refine e_ic (b := (-1)) rfl (by decide) (by decide) ?_
        refine e_bin rfl (by decide) ?_
        refine e_bin rfl (by decide) ?_
        refine e_stl (g := (Option.map (fun t : yM => (t, cc, none)))) rfl (Or.inl rfl) (fun v9 => ?_)
        exact t_76_35 (by omega) IH (l_kr (by decide) hL0) (l_ki (by decide) hL1) l_s (l_ki (by decide) hL3) (l_ki (by decide) hL4)
def f_76 (N : Nat) (M : yM) (x1 : Int) : Option (yM) := (ylet (f_108 M x1) fun v1 => (ylet (yrd M 5 x1) fun v2 => (f_76_13 N N M x1 v1 v2 0)))
theorem t_76 {sc : List Int32} {dd cc : Nat} {N : Nat} {M : yM} {x1 : Int} (hd : 4 ≤ dd) : yP sc dd 76 [.ref 18, .int (yi x1)] M cc ((Option.map (fun t : yM => (t, cc, none))) (f_76 N M x1)) := by
  obtain ⟨dd, rfl⟩ : ∃ e, dd = e + 1 := ⟨dd - 1, by omega⟩
  refine e_meth (C := zg_c76) (W := zg_w76) (ml := 5) rfl rfl (Nat.le_of_ble_eq_true rfl) ?_
  unfold f_76
  refine e_ld (t := 2) rfl (Or.inr (Or.inl ⟨rfl, Or.inl rfl⟩)) rfl rfl ?_
  refine e_get (a := 18) (u := .ref 1) rfl rfl rfl (fun _ => rfl) ?_
  refine e_ld (t := 0) rfl (Or.inl ⟨rfl, Or.inl rfl⟩) rfl rfl ?_
  refine e_obj (M1 := M) (cc1 := cc) (v1 := some (.int (yi (f_108 M x1)))) (a := 1) (as := [.int (yi x1)]) rfl (by decide) rfl (Nat.le_of_ble_eq_true rfl) rfl (t_108 (by omega)) ?_
  refine e_stl (g := (Option.map (fun t : yM => (t, cc, none)))) rfl (Or.inl rfl) (fun v1 => ?_)
  refine e_ld (t := 2) rfl (Or.inr (Or.inl ⟨rfl, Or.inl rfl⟩)) (l_kr (by decide) rfl) rfl ?_
  refine e_get (a := 18) (u := .ref 1) rfl rfl rfl (fun _ => rfl) ?_
  refine e_get (a := 1) (u := .ref 5) rfl rfl rfl (fun _ => rfl) ?_
  refine e_ld (t := 0) rfl (Or.inl ⟨rfl, Or.inl rfl⟩) (l_ki (by decide) rfl) rfl ?_
  refine e_at (a := 5) (by omega) rfl (by decide) (Nat.le_of_ble_eq_true rfl) rfl ?_
  refine e_stl (g := (Option.map (fun t : yM => (t, cc, none)))) rfl (Or.inl rfl) (fun v2 => ?_)
  refine e_ic (b := 0) rfl (by decide) (by decide) ?_
  refine e_st (t := 0) rfl (Or.inl ⟨rfl, Or.inr rfl⟩) rfl ?_
  exact t_76_13 (by omega) N (l_kr (by decide) (l_kr (by decide) (l_kr (by decide) rfl))) (l_ki (by decide) (l_ki (by decide) (l_ki (by decide) rfl))) (l_ki (by decide) (l_ki (by decide) l_s)) (l_ki (by decide) l_s) l_s
/-- UnwindTower$Machine.divide -/
def f_83 (N : Nat) (M : yM) (r0 : Nat) (x1 : Int) (x2 : Int) (r3 : Nat) (x4 : Int) : Option (yM) := (cond (yrel 1 x2 0) (ylet (ywr M (r0 + 14) x1 (ydiv (yrd M (r0 + 14) x1) x2)) fun M2 => (ylet (yU M2 r3 1 ((M2 r3 1) + 1)) fun M3 => some M3)) (Option.bind (f_95 N M r0 3 0 (-1) x4) fun t4 => some t4))
theorem t_83 {sc : List Int32} {dd cc : Nat} {N : Nat} {M : yM} {r0 : Nat} {x1 : Int} {x2 : Int} {r3 : Nat} {x4 : Int} (hd : 4 ≤ dd) (hr0 : pM r0) (hr3 : pF r3) : yP sc dd 83 [.ref r0, .int (yi x1), .int (yi x2), .ref r3, .int (yi x4)] M cc ((Option.map (fun t : yM => (t, cc, none))) (f_83 N M r0 x1 x2 r3 x4)) := by
  obtain ⟨dd, rfl⟩ : ∃ e, dd = e + 1 := ⟨dd - 1, by omega⟩
  refine e_meth (C := zg_c83) (W := zg_w83) (ml := 5) rfl rfl (Nat.le_of_ble_eq_true rfl) ?_
  unfold f_83
  refine e_ld (t := 0) rfl (Or.inl ⟨rfl, Or.inl rfl⟩) rfl rfl ?_
  refine e_br (Option.map (fun t : yM => (t, cc, none))) (q := 1) (by decide) rfl (fun h1 => ?_) (fun h1 => ?_)
  · refine e_ld (t := 2) rfl (Or.inr (Or.inl ⟨rfl, Or.inl rfl⟩)) rfl rfl ?_
    refine e_get (a := r0) (u := .ref (r0 + 14)) rfl (fM hr0) rfl (fun _ => rfl) ?_
    refine e_ld (t := 0) rfl (Or.inl ⟨rfl, Or.inl rfl⟩) rfl rfl ?_
    refine e_ld (t := 2) rfl (Or.inr (Or.inl ⟨rfl, Or.inl rfl⟩)) rfl rfl ?_
    refine e_get (a := r0) (u := .ref (r0 + 14)) rfl (fM hr0) rfl (fun _ => rfl) ?_
    refine e_ld (t := 0) rfl (Or.inl ⟨rfl, Or.inl rfl⟩) rfl rfl ?_
    refine e_at (a := (r0 + 14)) (by omega) rfl (by decide) (Nat.le_of_ble_eq_true rfl) (nM_14 hr0) ?_
    refine e_ld (t := 0) rfl (Or.inl ⟨rfl, Or.inl rfl⟩) rfl rfl ?_
    refine e_div rfl (Or.inl h1) ?_
    refine e_wr (a := (r0 + 14)) (by omega) rfl (by decide) (Nat.le_of_ble_eq_true rfl) (nM_14 hr0) ?_
    refine y_let (Option.map (fun t : yM => (t, cc, none))) (fun M2 => ?_)
    refine e_ld (t := 2) rfl (Or.inr (Or.inl ⟨rfl, Or.inl rfl⟩)) rfl rfl ?_
    refine e_dup rfl (Or.inr ⟨_, rfl⟩) ?_
    refine e_get (a := r3) (u := .int (yi (M2 r3 1))) rfl (fF hr3) rfl (fun _ => rfl) ?_
    refine e_ic (b := 1) rfl (by decide) (by decide) ?_
    refine e_add rfl ?_
    refine e_put (a := r3) rfl (Or.inl rfl) (fF hr3) rfl (Or.inl rfl) ?_
    refine y_let (Option.map (fun t : yM => (t, cc, none))) (fun M3 => ?_)
    exact e_vret rfl
  · refine e_ld (t := 2) rfl (Or.inr (Or.inl ⟨rfl, Or.inl rfl⟩)) rfl rfl ?_
    refine e_ic (b := 3) rfl (by decide) (by decide) ?_
    refine e_ic (b := 0) rfl (by decide) (by decide) ?_
    refine e_ic (b := (-1)) rfl (by decide) (by decide) ?_
    refine e_ld (t := 0) rfl (Or.inl ⟨rfl, Or.inr rfl⟩) rfl rfl ?_
    refine e_objO (h0 := (fun t : yM => (t, cc, none))) (h := (fun t : yM => (t, cc, none))) (a := r0) (as := [.int (yi 3), .int (yi 0), .int (yi (-1)), .int (yi x4)]) rfl (by decide) rfl (Nat.le_of_ble_eq_true rfl) (fM hr0) (t_95 (by omega) hr0) (fun t4 => ?_)
    exact e_vret rfl
/-- UnwindTower$Machine.enter -/
def f_84_14 (N : Nat) (M : yM) (r0 : Nat) (x3 : Int) : Option (yM) := (Option.bind (f_95 N M r0 1 0 (-1) x3) fun t2 => some t2)
theorem t_84_14 {sc : List Int32} {dd cc : Nat} {N : Nat} {M : yM} {r0 : Nat} {x3 : Int} (hd : 3 ≤ dd) (hr0 : pM r0) {L : zL} (hL0 : L 0 = some (.ref r0)) (hL3 : L 3 = some (.int (yi x3))) : yW sc zg_c84 zg_w84 dd 14 L [] M cc ((Option.map (fun t : yM => (t, cc, none))) (f_84_14 N M r0 x3)) := by
  unfold f_84_14
  refine e_ld (t := 2) rfl (Or.inr (Or.inl ⟨rfl, Or.inl rfl⟩)) hL0 rfl ?_
  refine e_ic (b := 1) rfl (by decide) (by decide) ?_
  refine e_ic (b := 0) rfl (by decide) (by decide) ?_
  refine e_ic (b := (-1)) rfl (by decide) (by decide) ?_
  refine e_ld (t := 0) rfl (Or.inl ⟨rfl, Or.inl rfl⟩) hL3 rfl ?_
  refine e_objO (h0 := (fun t : yM => (t, cc, none))) (h := (fun t : yM => (t, cc, none))) (a := r0) (as := [.int (yi 1), .int (yi 0), .int (yi (-1)), .int (yi x3)]) rfl (by decide) rfl (Nat.le_of_ble_eq_true rfl) (fM hr0) (t_95 (by omega) hr0) (fun t2 => ?_)
  exact e_vret rfl
def f_84 (N : Nat) (M : yM) (r0 : Nat) (x1 : Int) (x2 : Int) (x3 : Int) : Option (yM) := (cond (yrel 2 (M r0 12) 0) (f_84_14 N M r0 x3) (cond (yrel 3 (M r0 12) (M r0 14)) (f_84_14 N M r0 x3) (cond (yrel 2 (M r0 12) 30) (yox (M r0 12) 30 fun e5 => (ylet (yU M (r0 + 20 + 3 * e5) 0 x1) fun M7 => (ylet (yU M7 (r0 + 20 + 3 * e5) 1 0) fun M8 => (ylet (yU M8 (r0 + 20 + 3 * e5) 2 x2) fun M9 => (ylet (yU M9 (r0 + 20 + 3 * e5) 3 x3) fun M10 => (ylet (yU M10 r0 12 ((M10 r0 12) + 1)) fun M11 => (ylet (ywr M11 (r0 + 13) 5 (yrd M11 (r0 + 13) 5 + 1)) fun M12 => (ylet (ywr M12 (r0 + 17) x1 (yrd M12 (r0 + 17) x1 + 1)) fun M13 => (cond (yrel 5 (M13 r0 12) (yrd M13 (r0 + 13) 7)) (some M13) (ylet (ywr M13 (r0 + 13) 7 (M13 r0 12)) fun M15 => some M15)))))))))) (f_84_14 N M r0 x3))))
theorem t_84 {sc : List Int32} {dd cc : Nat} {N : Nat} {M : yM} {r0 : Nat} {x1 : Int} {x2 : Int} {x3 : Int} (hd : 4 ≤ dd) (hr0 : pM r0) : yP sc dd 84 [.ref r0, .int (yi x1), .int (yi x2), .int (yi x3)] M cc ((Option.map (fun t : yM => (t, cc, none))) (f_84 N M r0 x1 x2 x3)) := by
  obtain ⟨dd, rfl⟩ : ∃ e, dd = e + 1 := ⟨dd - 1, by omega⟩
  refine e_meth (C := zg_c84) (W := zg_w84) (ml := 5) rfl rfl (Nat.le_of_ble_eq_true rfl) ?_
  unfold f_84
  refine e_ld (t := 2) rfl (Or.inr (Or.inl ⟨rfl, Or.inl rfl⟩)) rfl rfl ?_
  refine e_get (a := r0) (u := .int (yi (M r0 12))) rfl (fM hr0) rfl (fun _ => rfl) ?_
  refine e_br (Option.map (fun t : yM => (t, cc, none))) (q := 2) (by decide) rfl (fun h1 => ?_) (fun h1 => ?_)
  · exact t_84_14 (by omega) hr0 rfl rfl
  · refine e_ld (t := 2) rfl (Or.inr (Or.inl ⟨rfl, Or.inl rfl⟩)) rfl rfl ?_
    refine e_get (a := r0) (u := .int (yi (M r0 12))) rfl (fM hr0) rfl (fun _ => rfl) ?_
    refine e_ld (t := 2) rfl (Or.inr (Or.inl ⟨rfl, Or.inl rfl⟩)) rfl rfl ?_
    refine e_get (a := r0) (u := .int (yi (M r0 14))) rfl (fM hr0) rfl (fun _ => rfl) ?_
    refine e_cmp (Option.map (fun t : yM => (t, cc, none))) (q := 3) (by decide) rfl (fun h3 => ?_) (fun h3 => ?_)
    · exact t_84_14 (by omega) hr0 rfl rfl
    · refine e_ld (t := 2) rfl (Or.inr (Or.inl ⟨rfl, Or.inl rfl⟩)) rfl rfl ?_
      refine e_get (a := r0) (u := .int (yi (M r0 12))) rfl (fM hr0) rfl (fun _ => rfl) ?_
      refine e_ld (t := 2) rfl (Or.inr (Or.inl ⟨rfl, Or.inl rfl⟩)) rfl rfl ?_
      refine e_get (a := r0) (u := .ref (r0 + 19)) rfl (fM hr0) rfl (fun _ => rfl) ?_
      refine e_alen (a := (r0 + 19)) (m := 30) rfl (fun _ _ _ _ => by rw [yst_refs (qM hr0)]; rfl) (qM_le hr0) (by decide) ?_
      refine e_cmp (Option.map (fun t : yM => (t, cc, none))) (q := 2) (by decide) rfl (fun h4 => ?_) (fun h4 => ?_)
      · refine e_ld (t := 2) rfl (Or.inr (Or.inl ⟨rfl, Or.inl rfl⟩)) rfl rfl ?_
        refine e_get (a := r0) (u := .ref (r0 + 19)) rfl (fM hr0) rfl (fun _ => rfl) ?_
        refine e_ld (t := 2) rfl (Or.inr (Or.inl ⟨rfl, Or.inl rfl⟩)) rfl rfl ?_
        refine e_get (a := r0) (u := .int (yi (M r0 12))) rfl (fM hr0) rfl (fun _ => rfl) ?_
        refine e_aald (a := (r0 + 19)) rfl (qM hr0) (fun e5 he6 => ?_)
        refine e_st (t := 2) rfl (Or.inr ⟨rfl, Or.inr rfl⟩) rfl ?_
        refine e_ld (t := 2) rfl (Or.inr (Or.inl ⟨rfl, Or.inr rfl⟩)) l_s rfl ?_
        refine e_ld (t := 0) rfl (Or.inl ⟨rfl, Or.inl rfl⟩) (l_ki (by decide) rfl) rfl ?_
        refine e_put (a := (r0 + 20 + 3 * e5)) rfl (Or.inl rfl) (fF (pF_M hr0 he6)) rfl (Or.inl rfl) ?_
        refine y_let (Option.map (fun t : yM => (t, cc, none))) (fun M7 => ?_)
        refine e_ld (t := 2) rfl (Or.inr (Or.inl ⟨rfl, Or.inr rfl⟩)) l_s rfl ?_
        refine e_ic (b := 0) rfl (by decide) (by decide) ?_
        refine e_put (a := (r0 + 20 + 3 * e5)) rfl (Or.inl rfl) (fF (pF_M hr0 he6)) rfl (Or.inl rfl) ?_
        refine y_let (Option.map (fun t : yM => (t, cc, none))) (fun M8 => ?_)
        refine e_ld (t := 2) rfl (Or.inr (Or.inl ⟨rfl, Or.inr rfl⟩)) l_s rfl ?_
        refine e_ld (t := 0) rfl (Or.inl ⟨rfl, Or.inl rfl⟩) (l_ki (by decide) rfl) rfl ?_
        refine e_put (a := (r0 + 20 + 3 * e5)) rfl (Or.inl rfl) (fF (pF_M hr0 he6)) rfl (Or.inl rfl) ?_
        refine y_let (Option.map (fun t : yM => (t, cc, none))) (fun M9 => ?_)
        refine e_ld (t := 2) rfl (Or.inr (Or.inl ⟨rfl, Or.inr rfl⟩)) l_s rfl ?_
        refine e_ld (t := 0) rfl (Or.inl ⟨rfl, Or.inl rfl⟩) (l_ki (by decide) rfl) rfl ?_
        refine e_put (a := (r0 + 20 + 3 * e5)) rfl (Or.inl rfl) (fF (pF_M hr0 he6)) rfl (Or.inl rfl) ?_
        refine y_let (Option.map (fun t : yM => (t, cc, none))) (fun M10 => ?_)
        refine e_ld (t := 2) rfl (Or.inr (Or.inl ⟨rfl, Or.inl rfl⟩)) (l_kr (by decide) rfl) rfl ?_
        refine e_dup rfl (Or.inr ⟨_, rfl⟩) ?_
        refine e_get (a := r0) (u := .int (yi (M10 r0 12))) rfl (fM hr0) rfl (fun _ => rfl) ?_
        refine e_ic (b := 1) rfl (by decide) (by decide) ?_
        refine e_add rfl ?_
        refine e_put (a := r0) rfl (Or.inl rfl) (fM hr0) rfl (Or.inl rfl) ?_
        refine y_let (Option.map (fun t : yM => (t, cc, none))) (fun M11 => ?_)
        refine e_ld (t := 2) rfl (Or.inr (Or.inl ⟨rfl, Or.inl rfl⟩)) (l_kr (by decide) rfl) rfl ?_
        refine e_get (a := r0) (u := .ref (r0 + 13)) rfl (fM hr0) rfl (fun _ => rfl) ?_
        refine e_ic (b := 5) rfl (by decide) (by decide) ?_
        refine e_incr (a := (r0 + 13)) (by omega) rfl (by decide) (Nat.le_of_ble_eq_true rfl) (nM_13 hr0) ?_
        refine y_let (Option.map (fun t : yM => (t, cc, none))) (fun M12 => ?_)
        refine e_ld (t := 2) rfl (Or.inr (Or.inl ⟨rfl, Or.inl rfl⟩)) (l_kr (by decide) rfl) rfl ?_
        refine e_get (a := r0) (u := .ref (r0 + 17)) rfl (fM hr0) rfl (fun _ => rfl) ?_
        refine e_ld (t := 0) rfl (Or.inl ⟨rfl, Or.inl rfl⟩) (l_ki (by decide) rfl) rfl ?_
        refine e_incr (a := (r0 + 17)) (by omega) rfl (by decide) (Nat.le_of_ble_eq_true rfl) (nM_17 hr0) ?_
        refine y_let (Option.map (fun t : yM => (t, cc, none))) (fun M13 => ?_)
        refine e_ld (t := 2) rfl (Or.inr (Or.inl ⟨rfl, Or.inl rfl⟩)) (l_kr (by decide) rfl) rfl ?_
        refine e_get (a := r0) (u := .int (yi (M13 r0 12))) rfl (fM hr0) rfl (fun _ => rfl) ?_
        refine e_ld (t := 2) rfl (Or.inr (Or.inl ⟨rfl, Or.inl rfl⟩)) (l_kr (by decide) rfl) rfl ?_
        refine e_get (a := r0) (u := .ref (r0 + 13)) rfl (fM hr0) rfl (fun _ => rfl) ?_
        refine e_ic (b := 7) rfl (by decide) (by decide) ?_
        refine e_at (a := (r0 + 13)) (by omega) rfl (by decide) (Nat.le_of_ble_eq_true rfl) (nM_13 hr0) ?_
        refine e_cmp (Option.map (fun t : yM => (t, cc, none))) (q := 5) (by decide) rfl (fun h14 => ?_) (fun h14 => ?_)
        · exact e_vret rfl
        · refine e_ld (t := 2) rfl (Or.inr (Or.inl ⟨rfl, Or.inl rfl⟩)) (l_kr (by decide) rfl) rfl ?_
          refine e_get (a := r0) (u := .ref (r0 + 13)) rfl (fM hr0) rfl (fun _ => rfl) ?_
          refine e_ic (b := 7) rfl (by decide) (by decide) ?_
          refine e_ld (t := 2) rfl (Or.inr (Or.inl ⟨rfl, Or.inl rfl⟩)) (l_kr (by decide) rfl) rfl ?_
          refine e_get (a := r0) (u := .int (yi (M13 r0 12))) rfl (fM hr0) rfl (fun _ => rfl) ?_
          refine e_wr (a := (r0 + 13)) (by omega) rfl (by decide) (Nat.le_of_ble_eq_true rfl) (nM_13 hr0) ?_
          refine y_let (Option.map (fun t : yM => (t, cc, none))) (fun M15 => ?_)
          exact e_vret rfl
      · exact t_84_14 (by omega) hr0 rfl rfl
/-- UnwindTower$Machine.link -/
def f_88_24 (N : Nat) (M : yM) (r3 : Nat) : Option (yM) := (ylet (yU M r3 1 ((M r3 1) + 1)) fun M3 => some M3)
theorem t_88_24 {sc : List Int32} {dd cc : Nat} {N : Nat} {M : yM} {r3 : Nat} (hd : 3 ≤ dd) (hr3 : pF r3) {L : zL} (hL3 : L 3 = some (.ref r3)) : yW sc zg_c88 zg_w88 dd 24 L [] M cc ((Option.map (fun t : yM => (t, cc, none))) (f_88_24 N M r3)) := by
  unfold f_88_24
  refine e_ld (t := 2) rfl (Or.inr (Or.inl ⟨rfl, Or.inl rfl⟩)) hL3 rfl ?_
  refine e_dup rfl (Or.inr ⟨_, rfl⟩) ?_
  refine e_get (a := r3) (u := .int (yi (M r3 1))) rfl (fF hr3) rfl (fun _ => rfl) ?_
  refine e_ic (b := 1) rfl (by decide) (by decide) ?_
  refine e_add rfl ?_
  refine e_put (a := r3) rfl (Or.inl rfl) (fF hr3) rfl (Or.inl rfl) ?_
  refine y_let (Option.map (fun t : yM => (t, cc, none))) (fun M3 => ?_)
  exact e_vret rfl
def f_88_16 (N : Nat) (M : yM) (r0 : Nat) (x1 : Int) (x2 : Int) (r3 : Nat) : Option (yM) := (cond (yrel 0 x1 (-1)) (f_88_24 N M r3) (ylet (f_150 M (r0 + 1) x2 x1) fun t4 => (f_88_24 N t4 r3)))
theorem t_88_16 {sc : List Int32} {dd cc : Nat} {N : Nat} {M : yM} {r0 : Nat} {x1 : Int} {x2 : Int} {r3 : Nat} (hd : 3 ≤ dd) (hr0 : pM r0) (hr3 : pF r3) {L : zL} (hL0 : L 0 = some (.ref r0)) (hL1 : L 1 = some (.int (yi x1))) (hL2 : L 2 = some (.int (yi x2))) (hL3 : L 3 = some (.ref r3)) : yW sc zg_c88 zg_w88 dd 16 L [] M cc ((Option.map (fun t : yM => (t, cc, none))) (f_88_16 N M r0 x1 x2 r3)) := by
  unfold f_88_16
  refine e_ld (t := 0) rfl (Or.inl ⟨rfl, Or.inl rfl⟩) hL1 rfl ?_
  refine e_ic (b := (-1)) rfl (by decide) (by decide) ?_
  refine e_cmp (Option.map (fun t : yM => (t, cc, none))) (q := 0) (by decide) rfl (fun h2 => ?_) (fun h2 => ?_)
  · exact t_88_24 (by omega) hr3 hL3
  · refine e_ld (t := 2) rfl (Or.inr (Or.inl ⟨rfl, Or.inl rfl⟩)) hL0 rfl ?_
    refine e_get (a := r0) (u := .ref (r0 + 1)) rfl (fM hr0) rfl (fun _ => rfl) ?_
    refine e_ld (t := 0) rfl (Or.inl ⟨rfl, Or.inl rfl⟩) hL2 rfl ?_
    refine e_ld (t := 0) rfl (Or.inl ⟨rfl, Or.inl rfl⟩) hL1 rfl ?_
    refine e_objP (Option.map (fun t : yM => (t, cc, none))) (h0 := (fun t : yM => (t, cc, none))) (a := (r0 + 1)) (as := [.int (yi x2), .int (yi x1)]) rfl (by decide) rfl (Nat.le_of_ble_eq_true rfl) (fT (pT_M hr0)) (t_150 (by omega) (pT_M hr0)) (fun t4 => ?_)
    exact t_88_24 (by omega) hr3 hL3
def f_88 (N : Nat) (M : yM) (r0 : Nat) (x1 : Int) (x2 : Int) (r3 : Nat) (x4 : Int) : Option (yM) := (cond (yrel 0 x1 (-1)) (f_88_16 N M r0 x1 x2 r3) (Option.bind (f_145 N M (r0 + 1) x2 x1) fun t5 => (cond (yrel 0 t5 0) (f_88_16 N M r0 x1 x2 r3) (Option.bind (f_95 N M r0 2 0 (-1) x4) fun t7 => some t7))))
theorem t_88 {sc : List Int32} {dd cc : Nat} {N : Nat} {M : yM} {r0 : Nat} {x1 : Int} {x2 : Int} {r3 : Nat} {x4 : Int} (hd : 4 ≤ dd) (hr0 : pM r0) (hr3 : pF r3) : yP sc dd 88 [.ref r0, .int (yi x1), .int (yi x2), .ref r3, .int (yi x4)] M cc ((Option.map (fun t : yM => (t, cc, none))) (f_88 N M r0 x1 x2 r3 x4)) := by
  obtain ⟨dd, rfl⟩ : ∃ e, dd = e + 1 := ⟨dd - 1, by omega⟩
  refine e_meth (C := zg_c88) (W := zg_w88) (ml := 5) rfl rfl (Nat.le_of_ble_eq_true rfl) ?_
  unfold f_88
  refine e_ld (t := 0) rfl (Or.inl ⟨rfl, Or.inl rfl⟩) rfl rfl ?_
  refine e_ic (b := (-1)) rfl (by decide) (by decide) ?_
  refine e_cmp (Option.map (fun t : yM => (t, cc, none))) (q := 0) (by decide) rfl (fun h1 => ?_) (fun h1 => ?_)
  · exact t_88_16 (by omega) hr0 hr3 rfl rfl rfl rfl
  · refine e_ld (t := 2) rfl (Or.inr (Or.inl ⟨rfl, Or.inl rfl⟩)) rfl rfl ?_
    refine e_get (a := r0) (u := .ref (r0 + 1)) rfl (fM hr0) rfl (fun _ => rfl) ?_
    refine e_ld (t := 0) rfl (Or.inl ⟨rfl, Or.inl rfl⟩) rfl rfl ?_
    refine e_ld (t := 0) rfl (Or.inl ⟨rfl, Or.inl rfl⟩) rfl rfl ?_
    refine e_objO (h0 := (fun t : Int => (M, cc, some (.int (yi t))))) (h := (fun t : yM => (t, cc, none))) (a := (r0 + 1)) (as := [.int (yi x2), .int (yi x1)]) rfl (by decide) rfl (Nat.le_of_ble_eq_true rfl) (fT (pT_M hr0)) (t_145 (by omega) (pT_M hr0)) (fun t5 => ?_)
    refine e_br (Option.map (fun t : yM => (t, cc, none))) (q := 0) (by decide) rfl (fun h6 => ?_) (fun h6 => ?_)
    · exact t_88_16 (by omega) hr0 hr3 rfl rfl rfl rfl
    · refine e_ld (t := 2) rfl (Or.inr (Or.inl ⟨rfl, Or.inl rfl⟩)) rfl rfl ?_
      refine e_ic (b := 2) rfl (by decide) (by decide) ?_
      refine e_ic (b := 0) rfl (by decide) (by decide) ?_
      refine e_ic (b := (-1)) rfl (by decide) (by decide) ?_
      refine e_ld (t := 0) rfl (Or.inl ⟨rfl, Or.inr rfl⟩) rfl rfl ?_
      refine e_objO (h0 := (fun t : yM => (t, cc, none))) (h := (fun t : yM => (t, cc, none))) (a := r0) (as := [.int (yi 2), .int (yi 0), .int (yi (-1)), .int (yi x4)]) rfl (by decide) rfl (Nat.le_of_ble_eq_true rfl) (fM hr0) (t_95 (by omega) hr0) (fun t7 => ?_)
      exact e_vret rfl
/-- UnwindTower$Machine.performRisky -/
def f_91_92 (N : Nat) (M : yM) (r0 : Nat) (x4 : Int) (x6 : Int) : Option (yM) := (Option.bind (f_98 N M r0 (yrd M (r0 + 15) x4) x6) fun t7 => some t7)
theorem t_91_92 {sc : List Int32} {dd cc : Nat} {N : Nat} {M : yM} {r0 : Nat} {x4 : Int} {x6 : Int} (hd : 4 ≤ dd) (hr0 : pM r0) {L : zL} (hL0 : L 0 = some (.ref r0)) (hL4 : L 4 = some (.int (yi x4))) (hL6 : L 6 = some (.int (yi x6))) : yW sc zg_c91 zg_w91 dd 92 L [] M cc ((Option.map (fun t : yM => (t, cc, none))) (f_91_92 N M r0 x4 x6)) := by
  unfold f_91_92
  refine e_ld (t := 2) rfl (Or.inr (Or.inl ⟨rfl, Or.inl rfl⟩)) hL0 rfl ?_
  refine e_ld (t := 2) rfl (Or.inr (Or.inl ⟨rfl, Or.inl rfl⟩)) hL0 rfl ?_
  refine e_get (a := r0) (u := .ref (r0 + 15)) rfl (fM hr0) rfl (fun _ => rfl) ?_
  refine e_ld (t := 0) rfl (Or.inl ⟨rfl, Or.inr rfl⟩) hL4 rfl ?_
  refine e_at (a := (r0 + 15)) (by omega) rfl (by decide) (Nat.le_of_ble_eq_true rfl) (nM_15 hr0) ?_
  refine e_ld (t := 0) rfl (Or.inl ⟨rfl, Or.inr rfl⟩) hL6 rfl ?_
  refine e_objO (h0 := (fun t : yM => (t, cc, none))) (h := (fun t : yM => (t, cc, none))) (a := r0) (as := [.int (yi (yrd M (r0 + 15) x4)), .int (yi x6)]) rfl (by decide) rfl (Nat.le_of_ble_eq_true rfl) (fM hr0) (t_98 (by omega) hr0) (fun t7 => ?_)
  exact e_vret rfl
def f_91_35 (N : Nat) (M : yM) (r0 : Nat) (x4 : Int) (x6 : Int) : Option (yM) := (Option.bind (f_84 N M r0 x4 (-1) x6) fun t26 => some t26)
theorem t_91_35 {sc : List Int32} {dd cc : Nat} {N : Nat} {M : yM} {r0 : Nat} {x4 : Int} {x6 : Int} (hd : 4 ≤ dd) (hr0 : pM r0) {L : zL} (hL0 : L 0 = some (.ref r0)) (hL4 : L 4 = some (.int (yi x4))) (hL6 : L 6 = some (.int (yi x6))) : yW sc zg_c91 zg_w91 dd 35 L [] M cc ((Option.map (fun t : yM => (t, cc, none))) (f_91_35 N M r0 x4 x6)) := by
  unfold f_91_35
  refine e_ld (t := 2) rfl (Or.inr (Or.inl ⟨rfl, Or.inl rfl⟩)) hL0 rfl ?_
  refine e_ld (t := 0) rfl (Or.inl ⟨rfl, Or.inr rfl⟩) hL4 rfl ?_
  refine e_ic (b := (-1)) rfl (by decide) (by decide) ?_
  refine e_ld (t := 0) rfl (Or.inl ⟨rfl, Or.inr rfl⟩) hL6 rfl ?_
  refine e_objO (h0 := (fun t : yM => (t, cc, none))) (h := (fun t : yM => (t, cc, none))) (a := r0) (as := [.int (yi x4), .int (yi (-1)), .int (yi x6)]) rfl (by decide) rfl (Nat.le_of_ble_eq_true rfl) (fM hr0) (t_84 (by omega) hr0) (fun t26 => ?_)
  refine e_go rfl ?_
  exact e_vret rfl
def f_91 (N : Nat) (M : yM) (r0 : Nat) (r1 : Nat) (x2 : Int) (r3 : Nat) : Option (yM) := (ylet (yrd M (r1 + 2) x2) fun v1 => (ylet (yrd M (r1 + 3) x2) fun v2 => (ylet (yrd M (r1 + 5) x2) fun v3 => (cond (yrel 0 (yrd M (r1 + 1) x2) 3) (Option.bind (f_83 N M r0 v1 (f_100 M r0 v2) r3 v3) fun t5 => some t5) (cond (yrel 0 (yrd M (r1 + 1) x2) (3 + 1)) (f_91_92 N M r0 v1 v3) (cond (yrel 0 (yrd M (r1 + 1) x2) (3 + 1 + 1)) (f_91_92 N M r0 v1 v3) (cond (yrel 0 (yrd M (r1 + 1) x2) (3 + 1 + 1 + 1)) (f_91_92 N M r0 v1 v3) (cond (yrel 0 (yrd M (r1 + 1) x2) (3 + 1 + 1 + 1 + 1)) (f_91_92 N M r0 v1 v3) (cond (yrel 0 (yrd M (r1 + 1) x2) (3 + 1 + 1 + 1 + 1 + 1)) (f_91_92 N M r0 v1 v3) (cond (yrel 0 (yrd M (r1 + 1) x2) (3 + 1 + 1 + 1 + 1 + 1 + 1)) (Option.bind (f_84 N M r0 v2 v1 v3) fun t13 => some t13) (cond (yrel 0 (yrd M (r1 + 1) x2) (3 + 1 + 1 + 1 + 1 + 1 + 1 + 1)) (Option.bind (f_95 N M r0 v1 (f_100 M r0 v2) (-1) v3) fun t15 => some t15) (cond (yrel 0 (yrd M (r1 + 1) x2) (3 + 1 + 1 + 1 + 1 + 1 + 1 + 1 + 1)) (f_91_92 N M r0 v1 v3) (cond (yrel 0 (yrd M (r1 + 1) x2) (3 + 1 + 1 + 1 + 1 + 1 + 1 + 1 + 1 + 1)) (ylet (f_85 M r0 (yrd M (r3 + 1) v1)) fun t18 => some t18) (cond (yrel 0 (yrd M (r1 + 1) x2) (3 + 1 + 1 + 1 + 1 + 1 + 1 + 1 + 1 + 1 + 1)) (Option.bind (f_95 N M r0 v1 (f_100 M r0 v2) (yrd M (r3 + 1) (yrd M (r1 + 4) x2)) v3) fun t20 => some t20) (cond (yrel 0 (yrd M (r1 + 1) x2) (3 + 1 + 1 + 1 + 1 + 1 + 1 + 1 + 1 + 1 + 1 + 1)) (f_91_92 N M r0 v1 v3) (cond (yrel 0 (yrd M (r1 + 1) x2) (3 + 1 + 1 + 1 + 1 + 1 + 1 + 1 + 1 + 1 + 1 + 1 + 1)) (Option.bind (f_88 N M r0 (yrd M (r0 + 15) v1) (yrd M (r3 + 1) v2) r3 v3) fun t23 => some t23) (cond (yrel 0 (yrd M (r1 + 1) x2) (3 + 1 + 1 + 1 + 1 + 1 + 1 + 1 + 1 + 1 + 1 + 1 + 1 + 1)) (f_91_92 N M r0 v1 v3) (cond (yrel 0 (yrd M (r1 + 1) x2) (3 + 1 + 1 + 1 + 1 + 1 + 1 + 1 + 1 + 1 + 1 + 1 + 1 + 1 + 1)) (f_91_35 N M r0 v1 v3) (cond (yrel 0 (yrd M (r1 + 1) x2) (3 + 1 + 1 + 1 + 1 + 1 + 1 + 1 + 1 + 1 + 1 + 1 + 1 + 1 + 1 + 1)) (f_91_35 N M r0 v1 v3) (cond (yrel 0 (yrd M (r1 + 1) x2) (3 + 1 + 1 + 1 + 1 + 1 + 1 + 1 + 1 + 1 + 1 + 1 + 1 + 1 + 1 + 1 + 1)) (ylet (f_97 M r0 (yrd M (r3 + 1) v1)) fun t29 => some t29) (f_91_92 N M r0 v1 v3)))))))))))))))))))))
theorem t_91 {sc : List Int32} {dd cc : Nat} {N : Nat} {M : yM} {r0 : Nat} {r1 : Nat} {x2 : Int} {r3 : Nat} (hd : 5 ≤ dd) (hr0 : pM r0) (hr1 : pC r1) (hr3 : pF r3) : yP sc dd 91 [.ref r0, .ref r1, .int (yi x2), .ref r3] M cc ((Option.map (fun t : yM => (t, cc, none))) (f_91 N M r0 r1 x2 r3)) := by
  obtain ⟨dd, rfl⟩ : ∃ e, dd = e + 1 := ⟨dd - 1, by omega⟩
  refine e_meth (C := zg_c91) (W := zg_w91) (ml := 7) rfl rfl (Nat.le_of_ble_eq_true rfl) ?_
  unfold f_91
  refine e_ld (t := 2) rfl (Or.inr (Or.inl ⟨rfl, Or.inl rfl⟩)) rfl rfl ?_
  refine e_get (a := r1) (u := .ref (r1 + 2)) rfl (fC hr1) rfl (fun _ => rfl) ?_
  refine e_ld (t := 0) rfl (Or.inl ⟨rfl, Or.inl rfl⟩) rfl rfl ?_
  refine e_at (a := (r1 + 2)) (by omega) rfl (by decide) (Nat.le_of_ble_eq_true rfl) (nC_2 hr1) ?_
  refine e_stl (g := (Option.map (fun t : yM => (t, cc, none)))) rfl (Or.inr rfl) (fun v1 => ?_)
  refine e_ld (t := 2) rfl (Or.inr (Or.inl ⟨rfl, Or.inl rfl⟩)) (l_kr (by decide) rfl) rfl ?_
  refine e_get (a := r1) (u := .ref (r1 + 3)) rfl (fC hr1) rfl (fun _ => rfl) ?_
  refine e_ld (t := 0) rfl (Or.inl ⟨rfl, Or.inl rfl⟩) (l_ki (by decide) rfl) rfl ?_
  refine e_at (a := (r1 + 3)) (by omega) rfl (by decide) (Nat.le_of_ble_eq_true rfl) (nC_3 hr1) ?_
  refine e_stl (g := (Option.map (fun t : yM => (t, cc, none)))) rfl (Or.inr rfl) (fun v2 => ?_)
  refine e_ld (t := 2) rfl (Or.inr (Or.inl ⟨rfl, Or.inl rfl⟩)) (l_kr (by decide) (l_kr (by decide) rfl)) rfl ?_
  refine e_get (a := r1) (u := .ref (r1 + 5)) rfl (fC hr1) rfl (fun _ => rfl) ?_
  refine e_ld (t := 0) rfl (Or.inl ⟨rfl, Or.inl rfl⟩) (l_ki (by decide) (l_ki (by decide) rfl)) rfl ?_
  refine e_at (a := (r1 + 5)) (by omega) rfl (by decide) (Nat.le_of_ble_eq_true rfl) (nC_5 hr1) ?_
  refine e_stl (g := (Option.map (fun t : yM => (t, cc, none)))) rfl (Or.inr rfl) (fun v3 => ?_)
  refine e_ld (t := 2) rfl (Or.inr (Or.inl ⟨rfl, Or.inl rfl⟩)) (l_kr (by decide) (l_kr (by decide) (l_kr (by decide) rfl))) rfl ?_
  refine e_get (a := r1) (u := .ref (r1 + 1)) rfl (fC hr1) rfl (fun _ => rfl) ?_
  refine e_ld (t := 0) rfl (Or.inl ⟨rfl, Or.inl rfl⟩) (l_ki (by decide) (l_ki (by decide) (l_ki (by decide) rfl))) rfl ?_
  refine e_at (a := (r1 + 1)) (by omega) rfl (by decide) (Nat.le_of_ble_eq_true rfl) (nC_1 hr1) ?_
  refine e_sw (lo' := 3) rfl rfl (by decide) ?_
  refine s_case (Option.map (fun t : yM => (t, cc, none))) (by decide) (fun h4 => ?_) (fun h4 => ?_)
  · refine e_ld (t := 2) rfl (Or.inr (Or.inl ⟨rfl, Or.inl rfl⟩)) (l_kr (by decide) (l_kr (by decide) (l_kr (by decide) rfl))) rfl ?_
    refine e_ld (t := 0) rfl (Or.inl ⟨rfl, Or.inr rfl⟩) (l_ki (by decide) (l_ki (by decide) l_s)) rfl ?_
    refine e_ld (t := 2) rfl (Or.inr (Or.inl ⟨rfl, Or.inl rfl⟩)) (l_kr (by decide) (l_kr (by decide) (l_kr (by decide) rfl))) rfl ?_
    refine e_ld (t := 0) rfl (Or.inl ⟨rfl, Or.inr rfl⟩) (l_ki (by decide) l_s) rfl ?_
    refine e_obj (M1 := M) (cc1 := cc) (v1 := some (.int (yi (f_100 M r0 v2)))) (a := r0) (as := [.int (yi v2)]) rfl (by decide) rfl (Nat.le_of_ble_eq_true rfl) (fM hr0) (t_100 (by omega) hr0) ?_
    refine e_ld (t := 2) rfl (Or.inr (Or.inl ⟨rfl, Or.inl rfl⟩)) (l_kr (by decide) (l_kr (by decide) (l_kr (by decide) rfl))) rfl ?_
    refine e_ld (t := 0) rfl (Or.inl ⟨rfl, Or.inr rfl⟩) l_s rfl ?_
    refine e_objO (h0 := (fun t : yM => (t, cc, none))) (h := (fun t : yM => (t, cc, none))) (a := r0) (as := [.int (yi v1), .int (yi (f_100 M r0 v2)), .ref r3, .int (yi v3)]) rfl (by decide) rfl (Nat.le_of_ble_eq_true rfl) (fM hr0) (t_83 (by omega) hr0 hr3) (fun t5 => ?_)
    refine e_go rfl ?_
    exact e_vret rfl
  refine s_case (Option.map (fun t : yM => (t, cc, none))) (by decide) (fun h6 => ?_) (fun h6 => ?_)
  · exact t_91_92 (by omega) hr0 (l_kr (by decide) (l_kr (by decide) (l_kr (by decide) rfl))) (l_ki (by decide) (l_ki (by decide) l_s)) l_s
  refine s_case (Option.map (fun t : yM => (t, cc, none))) (by decide) (fun h8 => ?_) (fun h8 => ?_)
  · exact t_91_92 (by omega) hr0 (l_kr (by decide) (l_kr (by decide) (l_kr (by decide) rfl))) (l_ki (by decide) (l_ki (by decide) l_s)) l_s
  refine s_case (Option.map (fun t : yM => (t, cc, none))) (by decide) (fun h9 => ?_) (fun h9 => ?_)
  · exact t_91_92 (by omega) hr0 (l_kr (by decide) (l_kr (by decide) (l_kr (by decide) rfl))) (l_ki (by decide) (l_ki (by decide) l_s)) l_s
  refine s_case (Option.map (fun t : yM => (t, cc, none))) (by decide) (fun h10 => ?_) (fun h10 => ?_)
  · exact t_91_92 (by omega) hr0 (l_kr (by decide) (l_kr (by decide) (l_kr (by decide) rfl))) (l_ki (by decide) (l_ki (by decide) l_s)) l_s
  refine s_case (Option.map (fun t : yM => (t, cc, none))) (by decide) (fun h11 => ?_) (fun h11 => ?_)
  · exact t_91_92 (by omega) hr0 (l_kr (by decide) (l_kr (by decide) (l_kr (by decide) rfl))) (l_ki (by decide) (l_ki (by decide) l_s)) l_s
  refine s_case (Option.map (fun t : yM => (t, cc, none))) (by decide) (fun h12 => ?_) (fun h12 => ?_)
  · refine e_ld (t := 2) rfl (Or.inr (Or.inl ⟨rfl, Or.inl rfl⟩)) (l_kr (by decide) (l_kr (by decide) (l_kr (by decide) rfl))) rfl ?_
    refine e_ld (t := 0) rfl (Or.inl ⟨rfl, Or.inr rfl⟩) (l_ki (by decide) l_s) rfl ?_
    refine e_ld (t := 0) rfl (Or.inl ⟨rfl, Or.inr rfl⟩) (l_ki (by decide) (l_ki (by decide) l_s)) rfl ?_
    refine e_ld (t := 0) rfl (Or.inl ⟨rfl, Or.inr rfl⟩) l_s rfl ?_
    refine e_objO (h0 := (fun t : yM => (t, cc, none))) (h := (fun t : yM => (t, cc, none))) (a := r0) (as := [.int (yi v2), .int (yi v1), .int (yi v3)]) rfl (by decide) rfl (Nat.le_of_ble_eq_true rfl) (fM hr0) (t_84 (by omega) hr0) (fun t13 => ?_)
    refine e_go rfl ?_
    exact e_vret rfl
  refine s_case (Option.map (fun t : yM => (t, cc, none))) (by decide) (fun h14 => ?_) (fun h14 => ?_)
  · refine e_ld (t := 2) rfl (Or.inr (Or.inl ⟨rfl, Or.inl rfl⟩)) (l_kr (by decide) (l_kr (by decide) (l_kr (by decide) rfl))) rfl ?_
    refine e_ld (t := 0) rfl (Or.inl ⟨rfl, Or.inr rfl⟩) (l_ki (by decide) (l_ki (by decide) l_s)) rfl ?_
    refine e_ld (t := 2) rfl (Or.inr (Or.inl ⟨rfl, Or.inl rfl⟩)) (l_kr (by decide) (l_kr (by decide) (l_kr (by decide) rfl))) rfl ?_
    refine e_ld (t := 0) rfl (Or.inl ⟨rfl, Or.inr rfl⟩) (l_ki (by decide) l_s) rfl ?_
    refine e_obj (M1 := M) (cc1 := cc) (v1 := some (.int (yi (f_100 M r0 v2)))) (a := r0) (as := [.int (yi v2)]) rfl (by decide) rfl (Nat.le_of_ble_eq_true rfl) (fM hr0) (t_100 (by omega) hr0) ?_
    refine e_ic (b := (-1)) rfl (by decide) (by decide) ?_
    refine e_ld (t := 0) rfl (Or.inl ⟨rfl, Or.inr rfl⟩) l_s rfl ?_
    refine e_objO (h0 := (fun t : yM => (t, cc, none))) (h := (fun t : yM => (t, cc, none))) (a := r0) (as := [.int (yi v1), .int (yi (f_100 M r0 v2)), .int (yi (-1)), .int (yi v3)]) rfl (by decide) rfl (Nat.le_of_ble_eq_true rfl) (fM hr0) (t_95 (by omega) hr0) (fun t15 => ?_)
    refine e_go rfl ?_
    exact e_vret rfl
  refine s_case (Option.map (fun t : yM => (t, cc, none))) (by decide) (fun h16 => ?_) (fun h16 => ?_)
  · exact t_91_92 (by omega) hr0 (l_kr (by decide) (l_kr (by decide) (l_kr (by decide) rfl))) (l_ki (by decide) (l_ki (by decide) l_s)) l_s
  refine s_case (Option.map (fun t : yM => (t, cc, none))) (by decide) (fun h17 => ?_) (fun h17 => ?_)
  · refine e_ld (t := 2) rfl (Or.inr (Or.inl ⟨rfl, Or.inl rfl⟩)) (l_kr (by decide) (l_kr (by decide) (l_kr (by decide) rfl))) rfl ?_
    refine e_ld (t := 2) rfl (Or.inr (Or.inl ⟨rfl, Or.inl rfl⟩)) (l_kr (by decide) (l_kr (by decide) (l_kr (by decide) rfl))) rfl ?_
    refine e_get (a := r3) (u := .ref (r3 + 1)) rfl (fF hr3) rfl (fun _ => rfl) ?_
    refine e_ld (t := 0) rfl (Or.inl ⟨rfl, Or.inr rfl⟩) (l_ki (by decide) (l_ki (by decide) l_s)) rfl ?_
    refine e_at (a := (r3 + 1)) (by omega) rfl (by decide) (Nat.le_of_ble_eq_true rfl) (nF_1 hr3) ?_
    refine e_objP (Option.map (fun t : yM => (t, cc, none))) (h0 := (fun t : yM => (t, cc, none))) (a := r0) (as := [.int (yi (yrd M (r3 + 1) v1))]) rfl (by decide) rfl (Nat.le_of_ble_eq_true rfl) (fM hr0) (t_85 (by omega) hr0) (fun t18 => ?_)
    refine e_go rfl ?_
    exact e_vret rfl
  refine s_case (Option.map (fun t : yM => (t, cc, none))) (by decide) (fun h19 => ?_) (fun h19 => ?_)
  · refine e_ld (t := 2) rfl (Or.inr (Or.inl ⟨rfl, Or.inl rfl⟩)) (l_kr (by decide) (l_kr (by decide) (l_kr (by decide) rfl))) rfl ?_
    refine e_ld (t := 0) rfl (Or.inl ⟨rfl, Or.inr rfl⟩) (l_ki (by decide) (l_ki (by decide) l_s)) rfl ?_
    refine e_ld (t := 2) rfl (Or.inr (Or.inl ⟨rfl, Or.inl rfl⟩)) (l_kr (by decide) (l_kr (by decide) (l_kr (by decide) rfl))) rfl ?_
    refine e_ld (t := 0) rfl (Or.inl ⟨rfl, Or.inr rfl⟩) (l_ki (by decide) l_s) rfl ?_
    refine e_obj (M1 := M) (cc1 := cc) (v1 := some (.int (yi (f_100 M r0 v2)))) (a := r0) (as := [.int (yi v2)]) rfl (by decide) rfl (Nat.le_of_ble_eq_true rfl) (fM hr0) (t_100 (by omega) hr0) ?_
    refine e_ld (t := 2) rfl (Or.inr (Or.inl ⟨rfl, Or.inl rfl⟩)) (l_kr (by decide) (l_kr (by decide) (l_kr (by decide) rfl))) rfl ?_
    refine e_get (a := r3) (u := .ref (r3 + 1)) rfl (fF hr3) rfl (fun _ => rfl) ?_
    refine e_ld (t := 2) rfl (Or.inr (Or.inl ⟨rfl, Or.inl rfl⟩)) (l_kr (by decide) (l_kr (by decide) (l_kr (by decide) rfl))) rfl ?_
    refine e_get (a := r1) (u := .ref (r1 + 4)) rfl (fC hr1) rfl (fun _ => rfl) ?_
    refine e_ld (t := 0) rfl (Or.inl ⟨rfl, Or.inl rfl⟩) (l_ki (by decide) (l_ki (by decide) (l_ki (by decide) rfl))) rfl ?_
    refine e_at (a := (r1 + 4)) (by omega) rfl (by decide) (Nat.le_of_ble_eq_true rfl) (nC_4 hr1) ?_
    refine e_at (a := (r3 + 1)) (by omega) rfl (by decide) (Nat.le_of_ble_eq_true rfl) (nF_1 hr3) ?_
    refine e_ld (t := 0) rfl (Or.inl ⟨rfl, Or.inr rfl⟩) l_s rfl ?_
    refine e_objO (h0 := (fun t : yM => (t, cc, none))) (h := (fun t : yM => (t, cc, none))) (a := r0) (as := [.int (yi v1), .int (yi (f_100 M r0 v2)), .int (yi (yrd M (r3 + 1) (yrd M (r1 + 4) x2))), .int (yi v3)]) rfl (by decide) rfl (Nat.le_of_ble_eq_true rfl) (fM hr0) (t_95 (by omega) hr0) (fun t20 => ?_)
    refine e_go rfl ?_
    exact e_vret rfl
  refine s_case (Option.map (fun t : yM => (t, cc, none))) (by decide) (fun h21 => ?_) (fun h21 => ?_)
  · exact t_91_92 (by omega) hr0 (l_kr (by decide) (l_kr (by decide) (l_kr (by decide) rfl))) (l_ki (by decide) (l_ki (by decide) l_s)) l_s
  refine s_case (Option.map (fun t : yM => (t, cc, none))) (by decide) (fun h22 => ?_) (fun h22 => ?_)
  · refine e_ld (t := 2) rfl (Or.inr (Or.inl ⟨rfl, Or.inl rfl⟩)) (l_kr (by decide) (l_kr (by decide) (l_kr (by decide) rfl))) rfl ?_
    refine e_ld (t := 2) rfl (Or.inr (Or.inl ⟨rfl, Or.inl rfl⟩)) (l_kr (by decide) (l_kr (by decide) (l_kr (by decide) rfl))) rfl ?_
    refine e_get (a := r0) (u := .ref (r0 + 15)) rfl (fM hr0) rfl (fun _ => rfl) ?_
    refine e_ld (t := 0) rfl (Or.inl ⟨rfl, Or.inr rfl⟩) (l_ki (by decide) (l_ki (by decide) l_s)) rfl ?_
    refine e_at (a := (r0 + 15)) (by omega) rfl (by decide) (Nat.le_of_ble_eq_true rfl) (nM_15 hr0) ?_
    refine e_ld (t := 2) rfl (Or.inr (Or.inl ⟨rfl, Or.inl rfl⟩)) (l_kr (by decide) (l_kr (by decide) (l_kr (by decide) rfl))) rfl ?_
    refine e_get (a := r3) (u := .ref (r3 + 1)) rfl (fF hr3) rfl (fun _ => rfl) ?_
    refine e_ld (t := 0) rfl (Or.inl ⟨rfl, Or.inr rfl⟩) (l_ki (by decide) l_s) rfl ?_
    refine e_at (a := (r3 + 1)) (by omega) rfl (by decide) (Nat.le_of_ble_eq_true rfl) (nF_1 hr3) ?_
    refine e_ld (t := 2) rfl (Or.inr (Or.inl ⟨rfl, Or.inl rfl⟩)) (l_kr (by decide) (l_kr (by decide) (l_kr (by decide) rfl))) rfl ?_
    refine e_ld (t := 0) rfl (Or.inl ⟨rfl, Or.inr rfl⟩) l_s rfl ?_
    refine e_objO (h0 := (fun t : yM => (t, cc, none))) (h := (fun t : yM => (t, cc, none))) (a := r0) (as := [.int (yi (yrd M (r0 + 15) v1)), .int (yi (yrd M (r3 + 1) v2)), .ref r3, .int (yi v3)]) rfl (by decide) rfl (Nat.le_of_ble_eq_true rfl) (fM hr0) (t_88 (by omega) hr0 hr3) (fun t23 => ?_)
    refine e_go rfl ?_
    exact e_vret rfl
  refine s_case (Option.map (fun t : yM => (t, cc, none))) (by decide) (fun h24 => ?_) (fun h24 => ?_)
  · exact t_91_92 (by omega) hr0 (l_kr (by decide) (l_kr (by decide) (l_kr (by decide) rfl))) (l_ki (by decide) (l_ki (by decide) l_s)) l_s
  refine s_case (Option.map (fun t : yM => (t, cc, none))) (by decide) (fun h25 => ?_) (fun h25 => ?_)
  · exact t_91_35 (by omega) hr0 (l_kr (by decide) (l_kr (by decide) (l_kr (by decide) rfl))) (l_ki (by decide) (l_ki (by decide) l_s)) l_s
  refine s_case (Option.map (fun t : yM => (t, cc, none))) (by decide) (fun h27 => ?_) (fun h27 => ?_)
  · exact t_91_35 (by omega) hr0 (l_kr (by decide) (l_kr (by decide) (l_kr (by decide) rfl))) (l_ki (by decide) (l_ki (by decide) l_s)) l_s
  refine s_case (Option.map (fun t : yM => (t, cc, none))) (by decide) (fun h28 => ?_) (fun h28 => ?_)
  · refine e_ld (t := 2) rfl (Or.inr (Or.inl ⟨rfl, Or.inl rfl⟩)) (l_kr (by decide) (l_kr (by decide) (l_kr (by decide) rfl))) rfl ?_
    refine e_ld (t := 2) rfl (Or.inr (Or.inl ⟨rfl, Or.inl rfl⟩)) (l_kr (by decide) (l_kr (by decide) (l_kr (by decide) rfl))) rfl ?_
    refine e_get (a := r3) (u := .ref (r3 + 1)) rfl (fF hr3) rfl (fun _ => rfl) ?_
    refine e_ld (t := 0) rfl (Or.inl ⟨rfl, Or.inr rfl⟩) (l_ki (by decide) (l_ki (by decide) l_s)) rfl ?_
    refine e_at (a := (r3 + 1)) (by omega) rfl (by decide) (Nat.le_of_ble_eq_true rfl) (nF_1 hr3) ?_
    refine e_objP (Option.map (fun t : yM => (t, cc, none))) (h0 := (fun t : yM => (t, cc, none))) (a := r0) (as := [.int (yi (yrd M (r3 + 1) v1))]) rfl (by decide) rfl (Nat.le_of_ble_eq_true rfl) (fM hr0) (t_97 (by omega) hr0) (fun t29 => ?_)
    refine e_go rfl ?_
    exact e_vret rfl
  refine s_end ?_
  exact t_91_92 (by omega) hr0 (l_kr (by decide) (l_kr (by decide) (l_kr (by decide) rfl))) (l_ki (by decide) (l_ki (by decide) l_s)) l_s
/-- UnwindTower$Program.catchOf -/
def f_111_42 (N : Nat) (ih12 : yM → Int → Int → Int → Option (Int)) (M : yM) (x2 : Int) (x4 : Int) (x5 : Int) (s0 : Int) : Option (Int) := (cond (yrel 0 s0 (-1)) (ih12 M x2 x5 (x4 + (-1))) (some s0))
theorem t_111_42 {sc : List Int32} {dd cc : Nat} {N : Nat} {ih12 : yM → Int → Int → Int → Option (Int)} {M : yM} {x2 : Int} {x4 : Int} {x5 : Int} {s0 : Int} (hd : 3 ≤ dd) (ih12_ : ∀ {M : yM} {x2 : Int} {x3 : Int} {x4 : Int} {L : zL} (hL0 : L 0 = some (.ref 1)) (hL2 : L 2 = some (.int (yi x2))) (hL3 : L 3 = some (.int (yi x3))) (hL4 : L 4 = some (.int (yi x4))), yW sc zg_c111 zg_w111 dd 12 L [] M cc ((Option.map (fun t : Int => (M, cc, some (.int (yi t))))) (ih12 M x2 x3 x4))) {L : zL} (hL0 : L 0 = some (.ref 1)) (hL2 : L 2 = some (.int (yi x2))) (hL4 : L 4 = some (.int (yi x4))) (hL5 : L 5 = some (.int (yi x5))) : yW sc zg_c111 zg_w111 dd 42 L [.int (yi s0)] M cc ((Option.map (fun t : Int => (M, cc, some (.int (yi t))))) (f_111_42 N ih12 M x2 x4 x5 s0)) := by
  unfold f_111_42
  refine e_st (t := 0) rfl (Or.inl ⟨rfl, Or.inr rfl⟩) rfl ?_
  refine e_ld (t := 0) rfl (Or.inl ⟨rfl, Or.inr rfl⟩) l_s rfl ?_
  refine e_ic (b := (-1)) rfl (by decide) (by decide) ?_
  refine e_cmp (Option.map (fun t : Int => (M, cc, some (.int (yi t))))) (q := 0) (by decide) rfl (fun h6 => ?_) (fun h6 => ?_)
  · refine e_ld (t := 0) rfl (Or.inl ⟨rfl, Or.inr rfl⟩) (l_ki (by decide) hL5) rfl ?_
    refine e_st (t := 0) rfl (Or.inl ⟨rfl, Or.inl rfl⟩) rfl ?_
    refine e_inc (d := (-1)) rfl (l_ki (by decide) (l_ki (by decide) hL4)) (by decide) ?_
    refine e_go rfl ?_
    exact ih12_ (l_kr (by decide) (l_kr (by decide) (l_kr (by decide) hL0))) (l_ki (by decide) (l_ki (by decide) (l_ki (by decide) hL2))) (l_ki (by decide) l_s) l_s
  · refine e_ld (t := 0) rfl (Or.inl ⟨rfl, Or.inr rfl⟩) l_s rfl ?_
    exact e_iret rfl (Or.inl rfl)
def f_111_41 (N : Nat) (ih12 : yM → Int → Int → Int → Option (Int)) (M : yM) (x2 : Int) (x4 : Int) (x5 : Int) : Option (Int) := (f_111_42 N ih12 M x2 x4 x5 (-1))
theorem t_111_41 {sc : List Int32} {dd cc : Nat} {N : Nat} {ih12 : yM → Int → Int → Int → Option (Int)} {M : yM} {x2 : Int} {x4 : Int} {x5 : Int} (hd : 3 ≤ dd) (ih12_ : ∀ {M : yM} {x2 : Int} {x3 : Int} {x4 : Int} {L : zL} (hL0 : L 0 = some (.ref 1)) (hL2 : L 2 = some (.int (yi x2))) (hL3 : L 3 = some (.int (yi x3))) (hL4 : L 4 = some (.int (yi x4))), yW sc zg_c111 zg_w111 dd 12 L [] M cc ((Option.map (fun t : Int => (M, cc, some (.int (yi t))))) (ih12 M x2 x3 x4))) {L : zL} (hL0 : L 0 = some (.ref 1)) (hL2 : L 2 = some (.int (yi x2))) (hL4 : L 4 = some (.int (yi x4))) (hL5 : L 5 = some (.int (yi x5))) : yW sc zg_c111 zg_w111 dd 41 L [] M cc ((Option.map (fun t : Int => (M, cc, some (.int (yi t))))) (f_111_41 N ih12 M x2 x4 x5)) := by
  unfold f_111_41
  refine e_ic (b := (-1)) rfl (by decide) (by decide) ?_
  exact t_111_42 (by omega) ih12_ hL0 hL2 hL4 hL5
def f_111_12 (N : Nat) : Nat → yM → Int → Int → Int → Option (Int)
  | 0, _, _, _, _ => none
  | n + 1, M, x2, x3, x4 => (cond (yrel 5 x4 0) (some (-1)) (ylet (yrd M 11 x3) fun v3 => (cond (yrel 1 v3 (-1)) (cond (yrel 1 (yrd M 7 v3) 11) (f_111_41 N (f_111_12 N n) M x2 x4 v3) (cond (yrel 1 x3 (yrd M 9 v3)) (f_111_41 N (f_111_12 N n) M x2 x4 v3) (Option.bind (f_116 N M v3 x2) fun t8 => (f_111_42 N (f_111_12 N n) M x2 x4 v3 t8)))) (some (-1)))))
theorem t_111_12 {sc : List Int32} {dd cc : Nat} {N : Nat} (hd : 3 ≤ dd) : ∀ (n : Nat) {M : yM} {x2 : Int} {x3 : Int} {x4 : Int} {L : zL} (hL0 : L 0 = some (.ref 1)) (hL2 : L 2 = some (.int (yi x2))) (hL3 : L 3 = some (.int (yi x3))) (hL4 : L 4 = some (.int (yi x4))), yW sc zg_c111 zg_w111 dd 12 L [] M cc ((Option.map (fun t : Int => (M, cc, some (.int (yi t))))) (f_111_12 N n M x2 x3 x4)) := by
  intro n
  induction n with
  | zero => intros; exact y_none
  | succ n IH =>
    intro M x2 x3 x4 L hL0 hL2 hL3 hL4
    rw [f_111_12]
    refine e_ld (t := 0) rfl (Or.inl ⟨rfl, Or.inr rfl⟩) hL4 rfl ?_
    refine e_br (Option.map (fun t : Int => (M, cc, some (.int (yi t))))) (q := 5) (by decide) rfl (fun h2 => ?_) (fun h2 => ?_)
    · refine e_ic (b := (-1)) rfl (by decide) (by decide) ?_
      exact e_iret rfl (Or.inl rfl)
    · refine e_ld (t := 2) rfl (Or.inr (Or.inl ⟨rfl, Or.inl rfl⟩)) hL0 rfl ?_
      refine e_get (a := 1) (u := .ref 11) rfl rfl rfl (fun _ => rfl) ?_
      refine e_ld (t := 0) rfl (Or.inl ⟨rfl, Or.inl rfl⟩) hL3 rfl ?_
      refine e_at (a := 11) (by omega) rfl (by decide) (Nat.le_of_ble_eq_true rfl) rfl ?_
      refine e_stl (g := (Option.map (fun t : Int => (M, cc, some (.int (yi t)))))) rfl (Or.inr rfl) (fun v3 => ?_)
      refine e_ld (t := 0) rfl (Or.inl ⟨rfl, Or.inr rfl⟩) l_s rfl ?_
      refine e_ic (b := (-1)) rfl (by decide) (by decide) ?_
      refine e_cmp (Option.map (fun t : Int => (M, cc, some (.int (yi t))))) (q := 1) (by decide) rfl (fun h4 => ?_) (fun h4 => ?_)
      · refine e_ld (t := 2) rfl (Or.inr (Or.inl ⟨rfl, Or.inl rfl⟩)) (l_kr (by decide) hL0) rfl ?_
        refine e_get (a := 1) (u := .ref 7) rfl rfl rfl (fun _ => rfl) ?_
        refine e_ld (t := 0) rfl (Or.inl ⟨rfl, Or.inr rfl⟩) l_s rfl ?_
        refine e_at (a := 7) (by omega) rfl (by decide) (Nat.le_of_ble_eq_true rfl) rfl ?_
        refine e_ic (b := 11) rfl (by decide) (by decide) ?_
        refine e_cmp (Option.map (fun t : Int => (M, cc, some (.int (yi t))))) (q := 1) (by decide) rfl (fun h5 => ?_) (fun h5 => ?_)
        · exact t_111_41 (by omega) IH (l_kr (by decide) hL0) (l_ki (by decide) hL2) (l_ki (by decide) hL4) l_s
        · refine e_ld (t := 0) rfl (Or.inl ⟨rfl, Or.inl rfl⟩) (l_ki (by decide) hL3) rfl ?_
          refine e_ld (t := 2) rfl (Or.inr (Or.inl ⟨rfl, Or.inl rfl⟩)) (l_kr (by decide) hL0) rfl ?_
          refine e_get (a := 1) (u := .ref 9) rfl rfl rfl (fun _ => rfl) ?_
          refine e_ld (t := 0) rfl (Or.inl ⟨rfl, Or.inr rfl⟩) l_s rfl ?_
          refine e_at (a := 9) (by omega) rfl (by decide) (Nat.le_of_ble_eq_true rfl) rfl ?_
          refine e_cmp (Option.map (fun t : Int => (M, cc, some (.int (yi t))))) (q := 1) (by decide) rfl (fun h7 => ?_) (fun h7 => ?_)
          · exact t_111_41 (by omega) IH (l_kr (by decide) hL0) (l_ki (by decide) hL2) (l_ki (by decide) hL4) l_s
          · refine e_ld (t := 2) rfl (Or.inr (Or.inl ⟨rfl, Or.inl rfl⟩)) (l_kr (by decide) hL0) rfl ?_
            refine e_ld (t := 0) rfl (Or.inl ⟨rfl, Or.inr rfl⟩) l_s rfl ?_
            refine e_ld (t := 0) rfl (Or.inl ⟨rfl, Or.inl rfl⟩) (l_ki (by decide) hL2) rfl ?_
            refine e_objO (h0 := (fun t : Int => (M, cc, some (.int (yi t))))) (h := (fun t : Int => (M, cc, some (.int (yi t))))) (a := 1) (as := [.int (yi v3), .int (yi x2)]) rfl (by decide) rfl (Nat.le_of_ble_eq_true rfl) rfl (t_116 (by omega)) (fun t8 => ?_)
            refine e_go rfl ?_
            exact t_111_42 (by omega) IH (l_kr (by decide) hL0) (l_ki (by decide) hL2) (l_ki (by decide) hL4) l_s
      · refine e_ic (b := (-1)) rfl (by decide) (by decide) ?_
        exact e_iret rfl (Or.inl rfl)
def f_111 (N : Nat) (M : yM) (x1 : Int) (x2 : Int) : Option (Int) := (cond (yrel 1 (yrd M 13 x1) (-1)) (f_111_12 N N M x2 x1 90) (some (-1)))
theorem t_111 {sc : List Int32} {dd cc : Nat} {N : Nat} {M : yM} {x1 : Int} {x2 : Int} (hd : 4 ≤ dd) : yP sc dd 111 [.ref 1, .int (yi x1), .int (yi x2)] M cc ((Option.map (fun t : Int => (M, cc, some (.int (yi t))))) (f_111 N M x1 x2)) := by
  obtain ⟨dd, rfl⟩ : ∃ e, dd = e + 1 := ⟨dd - 1, by omega⟩
  refine e_meth (C := zg_c111) (W := zg_w111) (ml := 7) rfl rfl (Nat.le_of_ble_eq_true rfl) ?_
  unfold f_111
  refine e_ld (t := 2) rfl (Or.inr (Or.inl ⟨rfl, Or.inl rfl⟩)) rfl rfl ?_
  refine e_get (a := 1) (u := .ref 13) rfl rfl rfl (fun _ => rfl) ?_
  refine e_ld (t := 0) rfl (Or.inl ⟨rfl, Or.inl rfl⟩) rfl rfl ?_
  refine e_at (a := 13) (by omega) rfl (by decide) (Nat.le_of_ble_eq_true rfl) rfl ?_
  refine e_ic (b := (-1)) rfl (by decide) (by decide) ?_
  refine e_cmp (Option.map (fun t : Int => (M, cc, some (.int (yi t))))) (q := 1) (by decide) rfl (fun h1 => ?_) (fun h1 => ?_)
  · refine e_ld (t := 0) rfl (Or.inl ⟨rfl, Or.inl rfl⟩) rfl rfl ?_
    refine e_st (t := 0) rfl (Or.inl ⟨rfl, Or.inl rfl⟩) rfl ?_
    refine e_ic (b := 90) rfl (by decide) (by decide) ?_
    refine e_st (t := 0) rfl (Or.inl ⟨rfl, Or.inr rfl⟩) rfl ?_
    exact t_111_12 (by omega) N (l_kr (by decide) (l_kr (by decide) rfl)) (l_ki (by decide) (l_ki (by decide) rfl)) (l_ki (by decide) l_s) l_s
  · refine e_ic (b := (-1)) rfl (by decide) (by decide) ?_
    exact e_iret rfl (Or.inl rfl)
/-- UnwindTower$Program.derive -/
def f_114_35 (N : Nat) (ih14 : yM → Int → Option (yM)) (M : yM) (x1 : Int) (s0 : Int) (s1 : Int) : Option (yM) := (ylet (ywr M 17 s1 s0) fun M8 => (ih14 M8 (x1 + 1)))
theorem t_114_35 {sc : List Int32} {dd cc : Nat} {N : Nat} {ih14 : yM → Int → Option (yM)} {M : yM} {x1 : Int} {s0 : Int} {s1 : Int} (hd : 4 ≤ dd) (ih14_ : ∀ {M : yM} {x1 : Int} {L : zL} (hL0 : L 0 = some (.ref 1)) (hL1 : L 1 = some (.int (yi x1))), yW sc zg_c114 zg_w114 dd 14 L [] M cc ((Option.map (fun t : yM => (t, cc, none))) (ih14 M x1))) {L : zL} (hL0 : L 0 = some (.ref 1)) (hL1 : L 1 = some (.int (yi x1))) : yW sc zg_c114 zg_w114 dd 35 L [.int (yi s0), .int (yi s1), .ref 17] M cc ((Option.map (fun t : yM => (t, cc, none))) (f_114_35 N ih14 M x1 s0 s1)) := by
  unfold f_114_35
  refine e_wr (a := 17) (by omega) rfl (by decide) (Nat.le_of_ble_eq_true rfl) rfl ?_
  refine y_let (Option.map (fun t : yM => (t, cc, none))) (fun M8 => ?_)
  refine e_inc (d := 1) rfl hL1 (by decide) ?_
  refine e_go rfl ?_
  exact ih14_ (l_kr (by decide) hL0) l_s
def f_114_14 (N : Nat) : Nat → yM → Int → Option (yM)
  | 0, _, _ => none
  | n + 1, M, x1 => (cond (yrel 3 x1 (M 1 7)) (some M) (Option.bind (f_107 N M x1) fun t4 => (ylet (ywr M 16 x1 t4) fun M5 => (Option.bind (f_132 N M5 x1) fun t6 => (cond (yrel 0 t6 0) (f_114_35 N (f_114_14 N n) M5 x1 0 x1) (f_114_35 N (f_114_14 N n) M5 x1 1 x1))))))
theorem t_114_14 {sc : List Int32} {dd cc : Nat} {N : Nat} (hd : 4 ≤ dd) : ∀ (n : Nat) {M : yM} {x1 : Int} {L : zL} (hL0 : L 0 = some (.ref 1)) (hL1 : L 1 = some (.int (yi x1))), yW sc zg_c114 zg_w114 dd 14 L [] M cc ((Option.map (fun t : yM => (t, cc, none))) (f_114_14 N n M x1)) := by
  intro n
  induction n with
  | zero => intros; exact y_none
  | succ n IH =>
    intro M x1 L hL0 hL1
    rw [f_114_14]
    refine e_ld (t := 0) rfl (Or.inl ⟨rfl, Or.inl rfl⟩) hL1 rfl ?_
    refine e_ld (t := 2) rfl (Or.inr (Or.inl ⟨rfl, Or.inl rfl⟩)) hL0 rfl ?_
    refine e_get (a := 1) (u := .int (yi (M 1 7))) rfl rfl rfl (fun _ => rfl) ?_
    refine e_cmp (Option.map (fun t : yM => (t, cc, none))) (q := 3) (by decide) rfl (fun h3 => ?_) (fun h3 => ?_)
    · exact e_vret rfl
    · refine e_ld (t := 2) rfl (Or.inr (Or.inl ⟨rfl, Or.inl rfl⟩)) hL0 rfl ?_
      refine e_get (a := 1) (u := .ref 16) rfl rfl rfl (fun _ => rfl) ?_
      refine e_ld (t := 0) rfl (Or.inl ⟨rfl, Or.inl rfl⟩) hL1 rfl ?_
      refine e_ld (t := 2) rfl (Or.inr (Or.inl ⟨rfl, Or.inl rfl⟩)) hL0 rfl ?_
      refine e_ld (t := 0) rfl (Or.inl ⟨rfl, Or.inl rfl⟩) hL1 rfl ?_
      refine e_objO (h0 := (fun t : Int => (M, cc, some (.int (yi t))))) (h := (fun t : yM => (t, cc, none))) (a := 1) (as := [.int (yi x1)]) rfl (by decide) rfl (Nat.le_of_ble_eq_true rfl) rfl (t_107 (by omega)) (fun t4 => ?_)
      refine e_wr (a := 16) (by omega) rfl (by decide) (Nat.le_of_ble_eq_true rfl) rfl ?_
      refine y_let (Option.map (fun t : yM => (t, cc, none))) (fun M5 => ?_)
      refine e_ld (t := 2) rfl (Or.inr (Or.inl ⟨rfl, Or.inl rfl⟩)) hL0 rfl ?_
      refine e_get (a := 1) (u := .ref 17) rfl rfl rfl (fun _ => rfl) ?_
      refine e_ld (t := 0) rfl (Or.inl ⟨rfl, Or.inl rfl⟩) hL1 rfl ?_
      refine e_ld (t := 2) rfl (Or.inr (Or.inl ⟨rfl, Or.inl rfl⟩)) hL0 rfl ?_
      refine e_ld (t := 0) rfl (Or.inl ⟨rfl, Or.inl rfl⟩) hL1 rfl ?_
      refine e_objO (h0 := (fun t : Int => (M5, cc, some (.int (yi t))))) (h := (fun t : yM => (t, cc, none))) (a := 1) (as := [.int (yi x1)]) rfl (by decide) rfl (Nat.le_of_ble_eq_true rfl) rfl (t_132 (by omega)) (fun t6 => ?_)
      refine e_br (Option.map (fun t : yM => (t, cc, none))) (q := 0) (by decide) rfl (fun h7 => ?_) (fun h7 => ?_)
      · refine e_ic (b := 0) rfl (by decide) (by decide) ?_
        exact t_114_35 (by omega) IH hL0 hL1
      · refine e_ic (b := 1) rfl (by decide) (by decide) ?_
        refine e_go rfl ?_
        exact t_114_35 (by omega) IH hL0 hL1
def f_114_5 (N : Nat) : Nat → yM → Int → Option (yM)
  | 0, _, _ => none
  | n + 1, M, x1 => (cond (yrel 2 x1 0) (f_114_14 N N M 0) (ylet (f_115 M x1) fun t9 => (f_114_5 N n t9 (x1 + (-1)))))
theorem t_114_5 {sc : List Int32} {dd cc : Nat} {N : Nat} (hd : 4 ≤ dd) : ∀ (n : Nat) {M : yM} {x1 : Int} {L : zL} (hL0 : L 0 = some (.ref 1)) (hL1 : L 1 = some (.int (yi x1))), yW sc zg_c114 zg_w114 dd 5 L [] M cc ((Option.map (fun t : yM => (t, cc, none))) (f_114_5 N n M x1)) := by
  intro n
  induction n with
  | zero => intros; exact y_none
  | succ n IH =>
    intro M x1 L hL0 hL1
    rw [f_114_5]
    refine e_ld (t := 0) rfl (Or.inl ⟨rfl, Or.inl rfl⟩) hL1 rfl ?_
    refine e_br (Option.map (fun t : yM => (t, cc, none))) (q := 2) (by decide) rfl (fun h2 => ?_) (fun h2 => ?_)
    · refine e_ic (b := 0) rfl (by decide) (by decide) ?_
      refine e_st (t := 0) rfl (Or.inl ⟨rfl, Or.inl rfl⟩) rfl ?_
      exact t_114_14 (by omega) N (l_kr (by decide) hL0) l_s
    · refine e_ld (t := 2) rfl (Or.inr (Or.inl ⟨rfl, Or.inl rfl⟩)) hL0 rfl ?_
      refine e_ld (t := 0) rfl (Or.inl ⟨rfl, Or.inl rfl⟩) hL1 rfl ?_
      refine e_objP (Option.map (fun t : yM => (t, cc, none))) (h0 := (fun t : yM => (t, cc, none))) (a := 1) (as := [.int (yi x1)]) rfl (by decide) rfl (Nat.le_of_ble_eq_true rfl) rfl (t_115 (by omega)) (fun t9 => ?_)
      refine e_inc (d := (-1)) rfl hL1 (by decide) ?_
      refine e_go rfl ?_
      exact IH (l_kr (by decide) hL0) l_s
def f_114 (N : Nat) (M : yM) : Option (yM) := (ylet ((M 1 7) - 1) fun v1 => (f_114_5 N N M v1))
theorem t_114 {sc : List Int32} {dd cc : Nat} {N : Nat} {M : yM} (hd : 5 ≤ dd) : yP sc dd 114 [.ref 1] M cc ((Option.map (fun t : yM => (t, cc, none))) (f_114 N M)) := by
  obtain ⟨dd, rfl⟩ : ∃ e, dd = e + 1 := ⟨dd - 1, by omega⟩
  refine e_meth (C := zg_c114) (W := zg_w114) (ml := 2) rfl rfl (Nat.le_of_ble_eq_true rfl) ?_
  unfold f_114
  refine e_ld (t := 2) rfl (Or.inr (Or.inl ⟨rfl, Or.inl rfl⟩)) rfl rfl ?_
  refine e_get (a := 1) (u := .int (yi (M 1 7))) rfl rfl rfl (fun _ => rfl) ?_
  refine e_ic (b := 1) rfl (by decide) (by decide) ?_
  refine e_sub rfl ?_
  refine e_stl (g := (Option.map (fun t : yM => (t, cc, none)))) rfl (Or.inl rfl) (fun v1 => ?_)
  exact t_114_5 (by omega) N (l_kr (by decide) rfl) l_s
/-- UnwindTower$Program.isNode -/
def f_125 (M : yM) (x1 : Int) (x2 : Int) (x3 : Int) (x4 : Int) : Int := (cond (yrel 0 x1 0) (cond (yrel 0 (f_131 M x2) 0) 0 (cond (yrel 0 (f_126 M x3) 0) 0 (cond (yrel 1 x4 0) 0 1))) (cond (yrel 0 x1 (0 + 1)) (cond (yrel 0 (f_131 M x2) 0) 0 (cond (yrel 0 (f_126 M x3) 0) 0 (cond (yrel 1 x4 0) 0 1))) (cond (yrel 0 x1 (0 + 1 + 1)) (cond (yrel 0 (f_131 M x2) 0) 0 (cond (yrel 0 (f_126 M x3) 0) 0 (cond (yrel 1 x4 0) 0 1))) (cond (yrel 0 x1 (0 + 1 + 1 + 1)) (cond (yrel 1 x2 0) 0 (cond (yrel 0 (f_126 M x3) 0) 0 (cond (yrel 1 x4 0) 0 1))) (cond (yrel 0 x1 (0 + 1 + 1 + 1 + 1)) (cond (yrel 1 x2 0) 0 (cond (yrel 0 (f_123 M x3) 0) 0 (cond (yrel 0 (f_123 M x4) 0) 0 (cond (yrel 0 x3 x4) 0 1)))) (cond (yrel 0 x1 (0 + 1 + 1 + 1 + 1 + 1)) (cond (yrel 0 (f_126 M x2) 0) 0 (cond (yrel 0 (f_123 M x3) 0) 0 (cond (yrel 0 x4 (-1)) (cond (yrel 0 x3 x4) 0 1) (cond (yrel 0 (f_123 M x4) 0) 0 (cond (yrel 0 x3 x4) 0 1))))) (cond (yrel 0 x1 (0 + 1 + 1 + 1 + 1 + 1 + 1)) (cond (yrel 0 (f_131 M x2) 0) 0 (cond (yrel 0 (f_123 M x3) 0) 0 (cond (yrel 1 x4 0) 0 1))) (cond (yrel 0 x1 (0 + 1 + 1 + 1 + 1 + 1 + 1 + 1)) (cond (yrel 1 x2 0) 0 (cond (yrel 1 x3 0) 0 (cond (yrel 1 x4 0) 0 1))) (cond (yrel 0 x1 (0 + 1 + 1 + 1 + 1 + 1 + 1 + 1 + 1)) (cond (yrel 1 x2 0) 0 (cond (yrel 0 (f_126 M x3) 0) 0 (cond (yrel 1 x4 0) 0 1))) (cond (yrel 0 x1 (0 + 1 + 1 + 1 + 1 + 1 + 1 + 1 + 1 + 1)) (cond (yrel 0 (f_131 M x2) 0) 0 (cond (yrel 0 (f_119 M x3) 0) 0 (cond (yrel 1 x4 0) 0 1))) (cond (yrel 0 x1 (0 + 1 + 1 + 1 + 1 + 1 + 1 + 1 + 1 + 1 + 1)) (cond (yrel 0 (f_117 M x2) 0) 0 (cond (yrel 0 (f_126 M x3) 0) 0 (cond (yrel 1 x4 0) 0 1))) (cond (yrel 0 x1 (0 + 1 + 1 + 1 + 1 + 1 + 1 + 1 + 1 + 1 + 1 + 1)) (f_129 M x2 x3 x4) (cond (yrel 0 x1 (0 + 1 + 1 + 1 + 1 + 1 + 1 + 1 + 1 + 1 + 1 + 1 + 1)) (cond (yrel 0 (f_117 M x2) 0) 0 (cond (yrel 0 (f_123 M x3) 0) 0 (cond (yrel 0 x4 (-1)) 1 (cond (yrel 0 (f_122 M x4) 0) 0 1)))) (cond (yrel 0 x1 (0 + 1 + 1 + 1 + 1 + 1 + 1 + 1 + 1 + 1 + 1 + 1 + 1 + 1)) (f_130 M x2 x3 x4) (cond (yrel 0 x1 (0 + 1 + 1 + 1 + 1 + 1 + 1 + 1 + 1 + 1 + 1 + 1 + 1 + 1 + 1)) (cond (yrel 1 x2 0) 0 (cond (yrel 1 x3 0) 0 (cond (yrel 1 x4 0) 0 1))) (cond (yrel 0 x1 (0 + 1 + 1 + 1 + 1 + 1 + 1 + 1 + 1 + 1 + 1 + 1 + 1 + 1 + 1 + 1)) (cond (yrel 0 (f_117 M x2) 0) 0 (cond (yrel 0 (f_126 M x3) 0) 0 (cond (yrel 1 x4 0) 0 1))) (cond (yrel 0 x1 (0 + 1 + 1 + 1 + 1 + 1 + 1 + 1 + 1 + 1 + 1 + 1 + 1 + 1 + 1 + 1 + 1)) (cond (yrel 2 x2 0) 0 (cond (yrel 3 x2 4) 0 (cond (yrel 1 x3 0) 0 (cond (yrel 1 x4 0) 0 1)))) (cond (yrel 0 x1 (0 + 1 + 1 + 1 + 1 + 1 + 1 + 1 + 1 + 1 + 1 + 1 + 1 + 1 + 1 + 1 + 1 + 1)) (cond (yrel 2 x2 0) 0 (cond (yrel 3 x2 4) 0 (cond (yrel 1 x3 0) 0 (cond (yrel 1 x4 0) 0 1)))) (cond (yrel 0 x1 (0 + 1 + 1 + 1 + 1 + 1 + 1 + 1 + 1 + 1 + 1 + 1 + 1 + 1 + 1 + 1 + 1 + 1 + 1)) (cond (yrel 2 x2 0) 0 (cond (yrel 3 x2 4) 0 (cond (yrel 1 x3 0) 0 (cond (yrel 1 x4 0) 0 1)))) 0)))))))))))))))))))
theorem b_125 {M : yM} {x1 : Int} {x2 : Int} {x3 : Int} {x4 : Int} : f_125 M x1 x2 x3 x4 = 0 ∨ f_125 M x1 x2 x3 x4 = 1 := (zb_cond ((zb_cond (Or.inl rfl) ((zb_cond (Or.inl rfl) ((zb_cond (Or.inl rfl) (Or.inr rfl))))))) ((zb_cond ((zb_cond (Or.inl rfl) ((zb_cond (Or.inl rfl) ((zb_cond (Or.inl rfl) (Or.inr rfl))))))) ((zb_cond ((zb_cond (Or.inl rfl) ((zb_cond (Or.inl rfl) ((zb_cond (Or.inl rfl) (Or.inr rfl))))))) ((zb_cond ((zb_cond (Or.inl rfl) ((zb_cond (Or.inl rfl) ((zb_cond (Or.inl rfl) (Or.inr rfl))))))) ((zb_cond ((zb_cond (Or.inl rfl) ((zb_cond (Or.inl rfl) ((zb_cond (Or.inl rfl) ((zb_cond (Or.inl rfl) (Or.inr rfl))))))))) ((zb_cond ((zb_cond (Or.inl rfl) ((zb_cond (Or.inl rfl) ((zb_cond ((zb_cond (Or.inl rfl) (Or.inr rfl))) ((zb_cond (Or.inl rfl) ((zb_cond (Or.inl rfl) (Or.inr rfl))))))))))) ((zb_cond ((zb_cond (Or.inl rfl) ((zb_cond (Or.inl rfl) ((zb_cond (Or.inl rfl) (Or.inr rfl))))))) ((zb_cond ((zb_cond (Or.inl rfl) ((zb_cond (Or.inl rfl) ((zb_cond (Or.inl rfl) (Or.inr rfl))))))) ((zb_cond ((zb_cond (Or.inl rfl) ((zb_cond (Or.inl rfl) ((zb_cond (Or.inl rfl) (Or.inr rfl))))))) ((zb_cond ((zb_cond (Or.inl rfl) ((zb_cond (Or.inl rfl) ((zb_cond (Or.inl rfl) (Or.inr rfl))))))) ((zb_cond ((zb_cond (Or.inl rfl) ((zb_cond (Or.inl rfl) ((zb_cond (Or.inl rfl) (Or.inr rfl))))))) ((zb_cond (b_129) ((zb_cond ((zb_cond (Or.inl rfl) ((zb_cond (Or.inl rfl) ((zb_cond (Or.inr rfl) ((zb_cond (Or.inl rfl) (Or.inr rfl))))))))) ((zb_cond (b_130) ((zb_cond ((zb_cond (Or.inl rfl) ((zb_cond (Or.inl rfl) ((zb_cond (Or.inl rfl) (Or.inr rfl))))))) ((zb_cond ((zb_cond (Or.inl rfl) ((zb_cond (Or.inl rfl) ((zb_cond (Or.inl rfl) (Or.inr rfl))))))) ((zb_cond ((zb_cond (Or.inl rfl) ((zb_cond (Or.inl rfl) ((zb_cond (Or.inl rfl) ((zb_cond (Or.inl rfl) (Or.inr rfl))))))))) ((zb_cond ((zb_cond (Or.inl rfl) ((zb_cond (Or.inl rfl) ((zb_cond (Or.inl rfl) ((zb_cond (Or.inl rfl) (Or.inr rfl))))))))) ((zb_cond ((zb_cond (Or.inl rfl) ((zb_cond (Or.inl rfl) ((zb_cond (Or.inl rfl) ((zb_cond (Or.inl rfl) (Or.inr rfl))))))))) (Or.inl rfl))))))))))))))))))))))))))))))))))))))
theorem t_125 {sc : List Int32} {dd cc : Nat} {M : yM} {x1 : Int} {x2 : Int} {x3 : Int} {x4 : Int} (hd : 5 ≤ dd) : yP sc dd 125 [.ref 1, .int (yi x1), .int (yi x2), .int (yi x3), .int (yi x4)] M cc (some (M, cc, some (.int (yi (f_125 M x1 x2 x3 x4))))) := by
  obtain ⟨dd, rfl⟩ : ∃ e, dd = e + 1 := ⟨dd - 1, by omega⟩
  refine e_meth (C := zg_c125) (W := zg_w125) (ml := 5) rfl rfl (Nat.le_of_ble_eq_true rfl) ?_
  unfold f_125
  refine e_ld (t := 0) rfl (Or.inl ⟨rfl, Or.inl rfl⟩) rfl rfl ?_
  refine e_sw (lo' := 0) rfl rfl (by decide) ?_
  refine s_case (fun t : Int => some (M, cc, some (.int (yi t)))) (by decide) (fun h1 => ?_) (fun h1 => ?_)
  · refine e_ld (t := 2) rfl (Or.inr (Or.inl ⟨rfl, Or.inl rfl⟩)) rfl rfl ?_
    refine e_ld (t := 0) rfl (Or.inl ⟨rfl, Or.inl rfl⟩) rfl rfl ?_
    refine e_obj (M1 := M) (cc1 := cc) (v1 := some (.int (yi (f_131 M x2)))) (a := 1) (as := [.int (yi x2)]) rfl (by decide) rfl (Nat.le_of_ble_eq_true rfl) rfl (t_131 (by omega)) ?_
    refine e_br (fun t : Int => some (M, cc, some (.int (yi t)))) (q := 0) (by decide) rfl (fun h2 => ?_) (fun h2 => ?_)
    · refine e_ic (b := 0) rfl (by decide) (by decide) ?_
      exact e_iret rfl (Or.inr ⟨rfl, Or.inl rfl⟩)
    · refine e_ld (t := 2) rfl (Or.inr (Or.inl ⟨rfl, Or.inl rfl⟩)) rfl rfl ?_
      refine e_ld (t := 0) rfl (Or.inl ⟨rfl, Or.inl rfl⟩) rfl rfl ?_
      refine e_obj (M1 := M) (cc1 := cc) (v1 := some (.int (yi (f_126 M x3)))) (a := 1) (as := [.int (yi x3)]) rfl (by decide) rfl (Nat.le_of_ble_eq_true rfl) rfl (t_126 (by omega)) ?_
      refine e_br (fun t : Int => some (M, cc, some (.int (yi t)))) (q := 0) (by decide) rfl (fun h3 => ?_) (fun h3 => ?_)
      · refine e_ic (b := 0) rfl (by decide) (by decide) ?_
        exact e_iret rfl (Or.inr ⟨rfl, Or.inl rfl⟩)
      · refine e_ld (t := 0) rfl (Or.inl ⟨rfl, Or.inr rfl⟩) rfl rfl ?_
        refine e_br (fun t : Int => some (M, cc, some (.int (yi t)))) (q := 1) (by decide) rfl (fun h4 => ?_) (fun h4 => ?_)
        · refine e_ic (b := 0) rfl (by decide) (by decide) ?_
          exact e_iret rfl (Or.inr ⟨rfl, Or.inl rfl⟩)
        · refine e_ic (b := 1) rfl (by decide) (by decide) ?_
          refine e_go rfl ?_
          exact e_iret rfl (Or.inr ⟨rfl, Or.inr rfl⟩)
  refine s_case (fun t : Int => some (M, cc, some (.int (yi t)))) (by decide) (fun h5 => ?_) (fun h5 => ?_)
  · refine e_ld (t := 2) rfl (Or.inr (Or.inl ⟨rfl, Or.inl rfl⟩)) rfl rfl ?_
    refine e_ld (t := 0) rfl (Or.inl ⟨rfl, Or.inl rfl⟩) rfl rfl ?_
    refine e_obj (M1 := M) (cc1 := cc) (v1 := some (.int (yi (f_131 M x2)))) (a := 1) (as := [.int (yi x2)]) rfl (by decide) rfl (Nat.le_of_ble_eq_true rfl) rfl (t_131 (by omega)) ?_
    refine e_br (fun t : Int => some (M, cc, some (.int (yi t)))) (q := 0) (by decide) rfl (fun h6 => ?_) (fun h6 => ?_)
    · refine e_ic (b := 0) rfl (by decide) (by decide) ?_
      exact e_iret rfl (Or.inr ⟨rfl, Or.inl rfl⟩)
    · refine e_ld (t := 2) rfl (Or.inr (Or.inl ⟨rfl, Or.inl rfl⟩)) rfl rfl ?_
      refine e_ld (t := 0) rfl (Or.inl ⟨rfl, Or.inl rfl⟩) rfl rfl ?_
      refine e_obj (M1 := M) (cc1 := cc) (v1 := some (.int (yi (f_126 M x3)))) (a := 1) (as := [.int (yi x3)]) rfl (by decide) rfl (Nat.le_of_ble_eq_true rfl) rfl (t_126 (by omega)) ?_
      refine e_br (fun t : Int => some (M, cc, some (.int (yi t)))) (q := 0) (by decide) rfl (fun h7 => ?_) (fun h7 => ?_)
      · refine e_ic (b := 0) rfl (by decide) (by decide) ?_
        exact e_iret rfl (Or.inr ⟨rfl, Or.inl rfl⟩)
      · refine e_ld (t := 0) rfl (Or.inl ⟨rfl, Or.inr rfl⟩) rfl rfl ?_
        refine e_br (fun t : Int => some (M, cc, some (.int (yi t)))) (q := 1) (by decide) rfl (fun h8 => ?_) (fun h8 => ?_)
        · refine e_ic (b := 0) rfl (by decide) (by decide) ?_
          exact e_iret rfl (Or.inr ⟨rfl, Or.inl rfl⟩)
        · refine e_ic (b := 1) rfl (by decide) (by decide) ?_
          refine e_go rfl ?_
          exact e_iret rfl (Or.inr ⟨rfl, Or.inr rfl⟩)
  refine s_case (fun t : Int => some (M, cc, some (.int (yi t)))) (by decide) (fun h9 => ?_) (fun h9 => ?_)
  · refine e_ld (t := 2) rfl (Or.inr (Or.inl ⟨rfl, Or.inl rfl⟩)) rfl rfl ?_
    refine e_ld (t := 0) rfl (Or.inl ⟨rfl, Or.inl rfl⟩) rfl rfl ?_
    refine e_obj (M1 := M) (cc1 := cc) (v1 := some (.int (yi (f_131 M x2)))) (a := 1) (as := [.int (yi x2)]) rfl (by decide) rfl (Nat.le_of_ble_eq_true rfl) rfl (t_131 (by omega)) ?_
    refine e_br (fun t : Int => some (M, cc, some (.int (yi t)))) (q := 0) (by decide) rfl (fun h10 => ?_) (fun h10 => ?_)
    · refine e_ic (b := 0) rfl (by decide) (by decide) ?_
      exact e_iret rfl (Or.inr ⟨rfl, Or.inl rfl⟩)
    · refine e_ld (t := 2) rfl (Or.inr (Or.inl ⟨rfl, Or.inl rfl⟩)) rfl rfl ?_
      refine e_ld (t := 0) rfl (Or.inl ⟨rfl, Or.inl rfl⟩) rfl rfl ?_
      refine e_obj (M1 := M) (cc1 := cc) (v1 := some (.int (yi (f_126 M x3)))) (a := 1) (as := [.int (yi x3)]) rfl (by decide) rfl (Nat.le_of_ble_eq_true rfl) rfl (t_126 (by omega)) ?_
      refine e_br (fun t : Int => some (M, cc, some (.int (yi t)))) (q := 0) (by decide) rfl (fun h11 => ?_) (fun h11 => ?_)
      · refine e_ic (b := 0) rfl (by decide) (by decide) ?_
        exact e_iret rfl (Or.inr ⟨rfl, Or.inl rfl⟩)
      · refine e_ld (t := 0) rfl (Or.inl ⟨rfl, Or.inr rfl⟩) rfl rfl ?_
        refine e_br (fun t : Int => some (M, cc, some (.int (yi t)))) (q := 1) (by decide) rfl (fun h12 => ?_) (fun h12 => ?_)
        · refine e_ic (b := 0) rfl (by decide) (by decide) ?_
          exact e_iret rfl (Or.inr ⟨rfl, Or.inl rfl⟩)
        · refine e_ic (b := 1) rfl (by decide) (by decide) ?_
          refine e_go rfl ?_
          exact e_iret rfl (Or.inr ⟨rfl, Or.inr rfl⟩)
  refine s_case (fun t : Int => some (M, cc, some (.int (yi t)))) (by decide) (fun h13 => ?_) (fun h13 => ?_)
  · refine e_ld (t := 0) rfl (Or.inl ⟨rfl, Or.inl rfl⟩) rfl rfl ?_
    refine e_br (fun t : Int => some (M, cc, some (.int (yi t)))) (q := 1) (by decide) rfl (fun h14 => ?_) (fun h14 => ?_)
    · refine e_ic (b := 0) rfl (by decide) (by decide) ?_
      exact e_iret rfl (Or.inr ⟨rfl, Or.inl rfl⟩)
    · refine e_ld (t := 2) rfl (Or.inr (Or.inl ⟨rfl, Or.inl rfl⟩)) rfl rfl ?_
      refine e_ld (t := 0) rfl (Or.inl ⟨rfl, Or.inl rfl⟩) rfl rfl ?_
      refine e_obj (M1 := M) (cc1 := cc) (v1 := some (.int (yi (f_126 M x3)))) (a := 1) (as := [.int (yi x3)]) rfl (by decide) rfl (Nat.le_of_ble_eq_true rfl) rfl (t_126 (by omega)) ?_
      refine e_br (fun t : Int => some (M, cc, some (.int (yi t)))) (q := 0) (by decide) rfl (fun h15 => ?_) (fun h15 => ?_)
      · refine e_ic (b := 0) rfl (by decide) (by decide) ?_
        exact e_iret rfl (Or.inr ⟨rfl, Or.inl rfl⟩)
      · refine e_ld (t := 0) rfl (Or.inl ⟨rfl, Or.inr rfl⟩) rfl rfl ?_
        refine e_br (fun t : Int => some (M, cc, some (.int (yi t)))) (q := 1) (by decide) rfl (fun h16 => ?_) (fun h16 => ?_)
        · refine e_ic (b := 0) rfl (by decide) (by decide) ?_
          exact e_iret rfl (Or.inr ⟨rfl, Or.inl rfl⟩)
        · refine e_ic (b := 1) rfl (by decide) (by decide) ?_
          refine e_go rfl ?_
          exact e_iret rfl (Or.inr ⟨rfl, Or.inr rfl⟩)
  refine s_case (fun t : Int => some (M, cc, some (.int (yi t)))) (by decide) (fun h17 => ?_) (fun h17 => ?_)
  · refine e_ld (t := 0) rfl (Or.inl ⟨rfl, Or.inl rfl⟩) rfl rfl ?_
    refine e_br (fun t : Int => some (M, cc, some (.int (yi t)))) (q := 1) (by decide) rfl (fun h18 => ?_) (fun h18 => ?_)
    · refine e_ic (b := 0) rfl (by decide) (by decide) ?_
      exact e_iret rfl (Or.inr ⟨rfl, Or.inl rfl⟩)
    · refine e_ld (t := 2) rfl (Or.inr (Or.inl ⟨rfl, Or.inl rfl⟩)) rfl rfl ?_
      refine e_ld (t := 0) rfl (Or.inl ⟨rfl, Or.inl rfl⟩) rfl rfl ?_
      refine e_obj (M1 := M) (cc1 := cc) (v1 := some (.int (yi (f_123 M x3)))) (a := 1) (as := [.int (yi x3)]) rfl (by decide) rfl (Nat.le_of_ble_eq_true rfl) rfl (t_123 (by omega)) ?_
      refine e_br (fun t : Int => some (M, cc, some (.int (yi t)))) (q := 0) (by decide) rfl (fun h19 => ?_) (fun h19 => ?_)
      · refine e_ic (b := 0) rfl (by decide) (by decide) ?_
        exact e_iret rfl (Or.inr ⟨rfl, Or.inl rfl⟩)
      · refine e_ld (t := 2) rfl (Or.inr (Or.inl ⟨rfl, Or.inl rfl⟩)) rfl rfl ?_
        refine e_ld (t := 0) rfl (Or.inl ⟨rfl, Or.inr rfl⟩) rfl rfl ?_
        refine e_obj (M1 := M) (cc1 := cc) (v1 := some (.int (yi (f_123 M x4)))) (a := 1) (as := [.int (yi x4)]) rfl (by decide) rfl (Nat.le_of_ble_eq_true rfl) rfl (t_123 (by omega)) ?_
        refine e_br (fun t : Int => some (M, cc, some (.int (yi t)))) (q := 0) (by decide) rfl (fun h20 => ?_) (fun h20 => ?_)
        · refine e_ic (b := 0) rfl (by decide) (by decide) ?_
          exact e_iret rfl (Or.inr ⟨rfl, Or.inl rfl⟩)
        · refine e_ld (t := 0) rfl (Or.inl ⟨rfl, Or.inl rfl⟩) rfl rfl ?_
          refine e_ld (t := 0) rfl (Or.inl ⟨rfl, Or.inr rfl⟩) rfl rfl ?_
          refine e_cmp (fun t : Int => some (M, cc, some (.int (yi t)))) (q := 0) (by decide) rfl (fun h21 => ?_) (fun h21 => ?_)
          · refine e_ic (b := 0) rfl (by decide) (by decide) ?_
            exact e_iret rfl (Or.inr ⟨rfl, Or.inl rfl⟩)
          · refine e_ic (b := 1) rfl (by decide) (by decide) ?_
            refine e_go rfl ?_
            exact e_iret rfl (Or.inr ⟨rfl, Or.inr rfl⟩)
  refine s_case (fun t : Int => some (M, cc, some (.int (yi t)))) (by decide) (fun h22 => ?_) (fun h22 => ?_)
  · refine e_ld (t := 2) rfl (Or.inr (Or.inl ⟨rfl, Or.inl rfl⟩)) rfl rfl ?_
    refine e_ld (t := 0) rfl (Or.inl ⟨rfl, Or.inl rfl⟩) rfl rfl ?_
    refine e_obj (M1 := M) (cc1 := cc) (v1 := some (.int (yi (f_126 M x2)))) (a := 1) (as := [.int (yi x2)]) rfl (by decide) rfl (Nat.le_of_ble_eq_true rfl) rfl (t_126 (by omega)) ?_
    refine e_br (fun t : Int => some (M, cc, some (.int (yi t)))) (q := 0) (by decide) rfl (fun h23 => ?_) (fun h23 => ?_)
    · refine e_ic (b := 0) rfl (by decide) (by decide) ?_
      exact e_iret rfl (Or.inr ⟨rfl, Or.inl rfl⟩)
    · refine e_ld (t := 2) rfl (Or.inr (Or.inl ⟨rfl, Or.inl rfl⟩)) rfl rfl ?_
      refine e_ld (t := 0) rfl (Or.inl ⟨rfl, Or.inl rfl⟩) rfl rfl ?_
      refine e_obj (M1 := M) (cc1 := cc) (v1 := some (.int (yi (f_123 M x3)))) (a := 1) (as := [.int (yi x3)]) rfl (by decide) rfl (Nat.le_of_ble_eq_true rfl) rfl (t_123 (by omega)) ?_
      refine e_br (fun t : Int => some (M, cc, some (.int (yi t)))) (q := 0) (by decide) rfl (fun h24 => ?_) (fun h24 => ?_)
      · refine e_ic (b := 0) rfl (by decide) (by decide) ?_
        exact e_iret rfl (Or.inr ⟨rfl, Or.inl rfl⟩)
      · refine e_ld (t := 0) rfl (Or.inl ⟨rfl, Or.inr rfl⟩) rfl rfl ?_
        refine e_ic (b := (-1)) rfl (by decide) (by decide) ?_
        refine e_cmp (fun t : Int => some (M, cc, some (.int (yi t)))) (q := 0) (by decide) rfl (fun h25 => ?_) (fun h25 => ?_)
        · refine e_ld (t := 0) rfl (Or.inl ⟨rfl, Or.inl rfl⟩) rfl rfl ?_
          refine e_ld (t := 0) rfl (Or.inl ⟨rfl, Or.inr rfl⟩) rfl rfl ?_
          refine e_cmp (fun t : Int => some (M, cc, some (.int (yi t)))) (q := 0) (by decide) rfl (fun h26 => ?_) (fun h26 => ?_)
          · refine e_ic (b := 0) rfl (by decide) (by decide) ?_
            exact e_iret rfl (Or.inr ⟨rfl, Or.inl rfl⟩)
          · refine e_ic (b := 1) rfl (by decide) (by decide) ?_
            refine e_go rfl ?_
            exact e_iret rfl (Or.inr ⟨rfl, Or.inr rfl⟩)
        · refine e_ld (t := 2) rfl (Or.inr (Or.inl ⟨rfl, Or.inl rfl⟩)) rfl rfl ?_
          refine e_ld (t := 0) rfl (Or.inl ⟨rfl, Or.inr rfl⟩) rfl rfl ?_
          refine e_obj (M1 := M) (cc1 := cc) (v1 := some (.int (yi (f_123 M x4)))) (a := 1) (as := [.int (yi x4)]) rfl (by decide) rfl (Nat.le_of_ble_eq_true rfl) rfl (t_123 (by omega)) ?_
          refine e_br (fun t : Int => some (M, cc, some (.int (yi t)))) (q := 0) (by decide) rfl (fun h27 => ?_) (fun h27 => ?_)
          · refine e_ic (b := 0) rfl (by decide) (by decide) ?_
            exact e_iret rfl (Or.inr ⟨rfl, Or.inl rfl⟩)
          · refine e_ld (t := 0) rfl (Or.inl ⟨rfl, Or.inl rfl⟩) rfl rfl ?_
            refine e_ld (t := 0) rfl (Or.inl ⟨rfl, Or.inr rfl⟩) rfl rfl ?_
            refine e_cmp (fun t : Int => some (M, cc, some (.int (yi t)))) (q := 0) (by decide) rfl (fun h28 => ?_) (fun h28 => ?_)
            · refine e_ic (b := 0) rfl (by decide) (by decide) ?_
              exact e_iret rfl (Or.inr ⟨rfl, Or.inl rfl⟩)
            · refine e_ic (b := 1) rfl (by decide) (by decide) ?_
              refine e_go rfl ?_
              exact e_iret rfl (Or.inr ⟨rfl, Or.inr rfl⟩)
  refine s_case (fun t : Int => some (M, cc, some (.int (yi t)))) (by decide) (fun h29 => ?_) (fun h29 => ?_)
  · refine e_ld (t := 2) rfl (Or.inr (Or.inl ⟨rfl, Or.inl rfl⟩)) rfl rfl ?_
    refine e_ld (t := 0) rfl (Or.inl ⟨rfl, Or.inl rfl⟩) rfl rfl ?_
    refine e_obj (M1 := M) (cc1 := cc) (v1 := some (.int (yi (f_131 M x2)))) (a := 1) (as := [.int (yi x2)]) rfl (by decide) rfl (Nat.le_of_ble_eq_true rfl) rfl (t_131 (by omega)) ?_
    refine e_br (fun t : Int => some (M, cc, some (.int (yi t)))) (q := 0) (by decide) rfl (fun h30 => ?_) (fun h30 => ?_)
    · refine e_ic (b := 0) rfl (by decide) (by decide) ?_
      exact e_iret rfl (Or.inr ⟨rfl, Or.inl rfl⟩)
    · refine e_ld (t := 2) rfl (Or.inr (Or.inl ⟨rfl, Or.inl rfl⟩)) rfl rfl ?_
      refine e_ld (t := 0) rfl (Or.inl ⟨rfl, Or.inl rfl⟩) rfl rfl ?_
      refine e_obj (M1 := M) (cc1 := cc) (v1 := some (.int (yi (f_123 M x3)))) (a := 1) (as := [.int (yi x3)]) rfl (by decide) rfl (Nat.le_of_ble_eq_true rfl) rfl (t_123 (by omega)) ?_
      refine e_br (fun t : Int => some (M, cc, some (.int (yi t)))) (q := 0) (by decide) rfl (fun h31 => ?_) (fun h31 => ?_)
      · refine e_ic (b := 0) rfl (by decide) (by decide) ?_
        exact e_iret rfl (Or.inr ⟨rfl, Or.inl rfl⟩)
      · refine e_ld (t := 0) rfl (Or.inl ⟨rfl, Or.inr rfl⟩) rfl rfl ?_
        refine e_br (fun t : Int => some (M, cc, some (.int (yi t)))) (q := 1) (by decide) rfl (fun h32 => ?_) (fun h32 => ?_)
        · refine e_ic (b := 0) rfl (by decide) (by decide) ?_
          exact e_iret rfl (Or.inr ⟨rfl, Or.inl rfl⟩)
        · refine e_ic (b := 1) rfl (by decide) (by decide) ?_
          refine e_go rfl ?_
          exact e_iret rfl (Or.inr ⟨rfl, Or.inr rfl⟩)
  refine s_case (fun t : Int => some (M, cc, some (.int (yi t)))) (by decide) (fun h33 => ?_) (fun h33 => ?_)
  · refine e_ld (t := 0) rfl (Or.inl ⟨rfl, Or.inl rfl⟩) rfl rfl ?_
    refine e_br (fun t : Int => some (M, cc, some (.int (yi t)))) (q := 1) (by decide) rfl (fun h34 => ?_) (fun h34 => ?_)
    · refine e_ic (b := 0) rfl (by decide) (by decide) ?_
      exact e_iret rfl (Or.inr ⟨rfl, Or.inl rfl⟩)
    · refine e_ld (t := 0) rfl (Or.inl ⟨rfl, Or.inl rfl⟩) rfl rfl ?_
      refine e_br (fun t : Int => some (M, cc, some (.int (yi t)))) (q := 1) (by decide) rfl (fun h35 => ?_) (fun h35 => ?_)
      · refine e_ic (b := 0) rfl (by decide) (by decide) ?_
        exact e_iret rfl (Or.inr ⟨rfl, Or.inl rfl⟩)
      · refine e_ld (t := 0) rfl (Or.inl ⟨rfl, Or.inr rfl⟩) rfl rfl ?_
        refine e_br (fun t : Int => some (M, cc, some (.int (yi t)))) (q := 1) (by decide) rfl (fun h36 => ?_) (fun h36 => ?_)
        · refine e_ic (b := 0) rfl (by decide) (by decide) ?_
          exact e_iret rfl (Or.inr ⟨rfl, Or.inl rfl⟩)
        · refine e_ic (b := 1) rfl (by decide) (by decide) ?_
          refine e_go rfl ?_
          exact e_iret rfl (Or.inr ⟨rfl, Or.inr rfl⟩)
  refine s_case (fun t : Int => some (M, cc, some (.int (yi t)))) (by decide) (fun h37 => ?_) (fun h37 => ?_)
  · refine e_ld (t := 0) rfl (Or.inl ⟨rfl, Or.inl rfl⟩) rfl rfl ?_
    refine e_br (fun t : Int => some (M, cc, some (.int (yi t)))) (q := 1) (by decide) rfl (fun h38 => ?_) (fun h38 => ?_)
    · refine e_ic (b := 0) rfl (by decide) (by decide) ?_
      exact e_iret rfl (Or.inr ⟨rfl, Or.inl rfl⟩)
    · refine e_ld (t := 2) rfl (Or.inr (Or.inl ⟨rfl, Or.inl rfl⟩)) rfl rfl ?_
      refine e_ld (t := 0) rfl (Or.inl ⟨rfl, Or.inl rfl⟩) rfl rfl ?_
      refine e_obj (M1 := M) (cc1 := cc) (v1 := some (.int (yi (f_126 M x3)))) (a := 1) (as := [.int (yi x3)]) rfl (by decide) rfl (Nat.le_of_ble_eq_true rfl) rfl (t_126 (by omega)) ?_
      refine e_br (fun t : Int => some (M, cc, some (.int (yi t)))) (q := 0) (by decide) rfl (fun h39 => ?_) (fun h39 => ?_)
      · refine e_ic (b := 0) rfl (by decide) (by decide) ?_
        exact e_iret rfl (Or.inr ⟨rfl, Or.inl rfl⟩)
      · refine e_ld (t := 0) rfl (Or.inl ⟨rfl, Or.inr rfl⟩) rfl rfl ?_
        refine e_br (fun t : Int => some (M, cc, some (.int (yi t)))) (q := 1) (by decide) rfl (fun h40 => ?_) (fun h40 => ?_)
        · refine e_ic (b := 0) rfl (by decide) (by decide) ?_
          exact e_iret rfl (Or.inr ⟨rfl, Or.inl rfl⟩)
        · refine e_ic (b := 1) rfl (by decide) (by decide) ?_
          refine e_go rfl ?_
          exact e_iret rfl (Or.inr ⟨rfl, Or.inr rfl⟩)
  refine s_case (fun t : Int => some (M, cc, some (.int (yi t)))) (by decide) (fun h41 => ?_) (fun h41 => ?_)
  · refine e_ld (t := 2) rfl (Or.inr (Or.inl ⟨rfl, Or.inl rfl⟩)) rfl rfl ?_
    refine e_ld (t := 0) rfl (Or.inl ⟨rfl, Or.inl rfl⟩) rfl rfl ?_
    refine e_obj (M1 := M) (cc1 := cc) (v1 := some (.int (yi (f_131 M x2)))) (a := 1) (as := [.int (yi x2)]) rfl (by decide) rfl (Nat.le_of_ble_eq_true rfl) rfl (t_131 (by omega)) ?_
    refine e_br (fun t : Int => some (M, cc, some (.int (yi t)))) (q := 0) (by decide) rfl (fun h42 => ?_) (fun h42 => ?_)
    · refine e_ic (b := 0) rfl (by decide) (by decide) ?_
      exact e_iret rfl (Or.inr ⟨rfl, Or.inl rfl⟩)
    · refine e_ld (t := 2) rfl (Or.inr (Or.inl ⟨rfl, Or.inl rfl⟩)) rfl rfl ?_
      refine e_ld (t := 0) rfl (Or.inl ⟨rfl, Or.inl rfl⟩) rfl rfl ?_
      refine e_obj (M1 := M) (cc1 := cc) (v1 := some (.int (yi (f_119 M x3)))) (a := 1) (as := [.int (yi x3)]) rfl (by decide) rfl (Nat.le_of_ble_eq_true rfl) rfl (t_119 (by omega)) ?_
      refine e_br (fun t : Int => some (M, cc, some (.int (yi t)))) (q := 0) (by decide) rfl (fun h43 => ?_) (fun h43 => ?_)
      · refine e_ic (b := 0) rfl (by decide) (by decide) ?_
        exact e_iret rfl (Or.inr ⟨rfl, Or.inl rfl⟩)
      · refine e_ld (t := 0) rfl (Or.inl ⟨rfl, Or.inr rfl⟩) rfl rfl ?_
        refine e_br (fun t : Int => some (M, cc, some (.int (yi t)))) (q := 1) (by decide) rfl (fun h44 => ?_) (fun h44 => ?_)
        · refine e_ic (b := 0) rfl (by decide) (by decide) ?_
          exact e_iret rfl (Or.inr ⟨rfl, Or.inl rfl⟩)
        · refine e_ic (b := 1) rfl (by decide) (by decide) ?_
          refine e_go rfl ?_
          exact e_iret rfl (Or.inr ⟨rfl, Or.inr rfl⟩)
  refine s_case (fun t : Int => some (M, cc, some (.int (yi t)))) (by decide) (fun h45 => ?_) (fun h45 => ?_)
  · refine e_ld (t := 2) rfl (Or.inr (Or.inl ⟨rfl, Or.inl rfl⟩)) rfl rfl ?_
    refine e_ld (t := 0) rfl (Or.inl ⟨rfl, Or.inl rfl⟩) rfl rfl ?_
    refine e_obj (M1 := M) (cc1 := cc) (v1 := some (.int (yi (f_117 M x2)))) (a := 1) (as := [.int (yi x2)]) rfl (by decide) rfl (Nat.le_of_ble_eq_true rfl) rfl (t_117 (by omega)) ?_
    refine e_br (fun t : Int => some (M, cc, some (.int (yi t)))) (q := 0) (by decide) rfl (fun h46 => ?_) (fun h46 => ?_)
    · refine e_ic (b := 0) rfl (by decide) (by decide) ?_
      exact e_iret rfl (Or.inr ⟨rfl, Or.inl rfl⟩)
    · refine e_ld (t := 2) rfl (Or.inr (Or.inl ⟨rfl, Or.inl rfl⟩)) rfl rfl ?_
      refine e_ld (t := 0) rfl (Or.inl ⟨rfl, Or.inl rfl⟩) rfl rfl ?_
      refine e_obj (M1 := M) (cc1 := cc) (v1 := some (.int (yi (f_126 M x3)))) (a := 1) (as := [.int (yi x3)]) rfl (by decide) rfl (Nat.le_of_ble_eq_true rfl) rfl (t_126 (by omega)) ?_
      refine e_br (fun t : Int => some (M, cc, some (.int (yi t)))) (q := 0) (by decide) rfl (fun h47 => ?_) (fun h47 => ?_)
      · refine e_ic (b := 0) rfl (by decide) (by decide) ?_
        exact e_iret rfl (Or.inr ⟨rfl, Or.inl rfl⟩)
      · refine e_ld (t := 0) rfl (Or.inl ⟨rfl, Or.inr rfl⟩) rfl rfl ?_
        refine e_br (fun t : Int => some (M, cc, some (.int (yi t)))) (q := 1) (by decide) rfl (fun h48 => ?_) (fun h48 => ?_)
        · refine e_ic (b := 0) rfl (by decide) (by decide) ?_
          exact e_iret rfl (Or.inr ⟨rfl, Or.inl rfl⟩)
        · refine e_ic (b := 1) rfl (by decide) (by decide) ?_
          refine e_go rfl ?_
          exact e_iret rfl (Or.inr ⟨rfl, Or.inr rfl⟩)
  refine s_case (fun t : Int => some (M, cc, some (.int (yi t)))) (by decide) (fun h49 => ?_) (fun h49 => ?_)
  · refine e_ld (t := 2) rfl (Or.inr (Or.inl ⟨rfl, Or.inl rfl⟩)) rfl rfl ?_
    refine e_ld (t := 0) rfl (Or.inl ⟨rfl, Or.inl rfl⟩) rfl rfl ?_
    refine e_ld (t := 0) rfl (Or.inl ⟨rfl, Or.inl rfl⟩) rfl rfl ?_
    refine e_ld (t := 0) rfl (Or.inl ⟨rfl, Or.inr rfl⟩) rfl rfl ?_
    refine e_obj (M1 := M) (cc1 := cc) (v1 := some (.int (yi (f_129 M x2 x3 x4)))) (a := 1) (as := [.int (yi x2), .int (yi x3), .int (yi x4)]) rfl (by decide) rfl (Nat.le_of_ble_eq_true rfl) rfl (t_129 (by omega)) ?_
    exact e_iret rfl (Or.inr ⟨rfl, (zb_yi (b_129))⟩)
  refine s_case (fun t : Int => some (M, cc, some (.int (yi t)))) (by decide) (fun h50 => ?_) (fun h50 => ?_)
  · refine e_ld (t := 2) rfl (Or.inr (Or.inl ⟨rfl, Or.inl rfl⟩)) rfl rfl ?_
    refine e_ld (t := 0) rfl (Or.inl ⟨rfl, Or.inl rfl⟩) rfl rfl ?_
    refine e_obj (M1 := M) (cc1 := cc) (v1 := some (.int (yi (f_117 M x2)))) (a := 1) (as := [.int (yi x2)]) rfl (by decide) rfl (Nat.le_of_ble_eq_true rfl) rfl (t_117 (by omega)) ?_
    refine e_br (fun t : Int => some (M, cc, some (.int (yi t)))) (q := 0) (by decide) rfl (fun h51 => ?_) (fun h51 => ?_)
    · refine e_ic (b := 0) rfl (by decide) (by decide) ?_
      exact e_iret rfl (Or.inr ⟨rfl, Or.inl rfl⟩)
    · refine e_ld (t := 2) rfl (Or.inr (Or.inl ⟨rfl, Or.inl rfl⟩)) rfl rfl ?_
      refine e_ld (t := 0) rfl (Or.inl ⟨rfl, Or.inl rfl⟩) rfl rfl ?_
      refine e_obj (M1 := M) (cc1 := cc) (v1 := some (.int (yi (f_123 M x3)))) (a := 1) (as := [.int (yi x3)]) rfl (by decide) rfl (Nat.le_of_ble_eq_true rfl) rfl (t_123 (by omega)) ?_
      refine e_br (fun t : Int => some (M, cc, some (.int (yi t)))) (q := 0) (by decide) rfl (fun h52 => ?_) (fun h52 => ?_)
      · refine e_ic (b := 0) rfl (by decide) (by decide) ?_
        exact e_iret rfl (Or.inr ⟨rfl, Or.inl rfl⟩)
      · refine e_ld (t := 0) rfl (Or.inl ⟨rfl, Or.inr rfl⟩) rfl rfl ?_
        refine e_ic (b := (-1)) rfl (by decide) (by decide) ?_
        refine e_cmp (fun t : Int => some (M, cc, some (.int (yi t)))) (q := 0) (by decide) rfl (fun h53 => ?_) (fun h53 => ?_)
        · refine e_ic (b := 1) rfl (by decide) (by decide) ?_
          refine e_go rfl ?_
          exact e_iret rfl (Or.inr ⟨rfl, Or.inr rfl⟩)
        · refine e_ld (t := 2) rfl (Or.inr (Or.inl ⟨rfl, Or.inl rfl⟩)) rfl rfl ?_
          refine e_ld (t := 0) rfl (Or.inl ⟨rfl, Or.inr rfl⟩) rfl rfl ?_
          refine e_obj (M1 := M) (cc1 := cc) (v1 := some (.int (yi (f_122 M x4)))) (a := 1) (as := [.int (yi x4)]) rfl (by decide) rfl (Nat.le_of_ble_eq_true rfl) rfl (t_122 (by omega)) ?_
          refine e_br (fun t : Int => some (M, cc, some (.int (yi t)))) (q := 0) (by decide) rfl (fun h54 => ?_) (fun h54 => ?_)
          · refine e_ic (b := 0) rfl (by decide) (by decide) ?_
            exact e_iret rfl (Or.inr ⟨rfl, Or.inl rfl⟩)
          · refine e_ic (b := 1) rfl (by decide) (by decide) ?_
            refine e_go rfl ?_
            exact e_iret rfl (Or.inr ⟨rfl, Or.inr rfl⟩)
  refine s_case (fun t : Int => some (M, cc, some (.int (yi t)))) (by decide) (fun h55 => ?_) (fun h55 => ?_)
  · refine e_ld (t := 2) rfl (Or.inr (Or.inl ⟨rfl, Or.inl rfl⟩)) rfl rfl ?_
    refine e_ld (t := 0) rfl (Or.inl ⟨rfl, Or.inl rfl⟩) rfl rfl ?_
    refine e_ld (t := 0) rfl (Or.inl ⟨rfl, Or.inl rfl⟩) rfl rfl ?_
    refine e_ld (t := 0) rfl (Or.inl ⟨rfl, Or.inr rfl⟩) rfl rfl ?_
    refine e_obj (M1 := M) (cc1 := cc) (v1 := some (.int (yi (f_130 M x2 x3 x4)))) (a := 1) (as := [.int (yi x2), .int (yi x3), .int (yi x4)]) rfl (by decide) rfl (Nat.le_of_ble_eq_true rfl) rfl (t_130 (by omega)) ?_
    exact e_iret rfl (Or.inr ⟨rfl, (zb_yi (b_130))⟩)
  refine s_case (fun t : Int => some (M, cc, some (.int (yi t)))) (by decide) (fun h56 => ?_) (fun h56 => ?_)
  · refine e_ld (t := 0) rfl (Or.inl ⟨rfl, Or.inl rfl⟩) rfl rfl ?_
    refine e_br (fun t : Int => some (M, cc, some (.int (yi t)))) (q := 1) (by decide) rfl (fun h57 => ?_) (fun h57 => ?_)
    · refine e_ic (b := 0) rfl (by decide) (by decide) ?_
      exact e_iret rfl (Or.inr ⟨rfl, Or.inl rfl⟩)
    · refine e_ld (t := 0) rfl (Or.inl ⟨rfl, Or.inl rfl⟩) rfl rfl ?_
      refine e_br (fun t : Int => some (M, cc, some (.int (yi t)))) (q := 1) (by decide) rfl (fun h58 => ?_) (fun h58 => ?_)
      · refine e_ic (b := 0) rfl (by decide) (by decide) ?_
        exact e_iret rfl (Or.inr ⟨rfl, Or.inl rfl⟩)
      · refine e_ld (t := 0) rfl (Or.inl ⟨rfl, Or.inr rfl⟩) rfl rfl ?_
        refine e_br (fun t : Int => some (M, cc, some (.int (yi t)))) (q := 1) (by decide) rfl (fun h59 => ?_) (fun h59 => ?_)
        · refine e_ic (b := 0) rfl (by decide) (by decide) ?_
          exact e_iret rfl (Or.inr ⟨rfl, Or.inl rfl⟩)
        · refine e_ic (b := 1) rfl (by decide) (by decide) ?_
          refine e_go rfl ?_
          exact e_iret rfl (Or.inr ⟨rfl, Or.inr rfl⟩)
  refine s_case (fun t : Int => some (M, cc, some (.int (yi t)))) (by decide) (fun h60 => ?_) (fun h60 => ?_)
  · refine e_ld (t := 2) rfl (Or.inr (Or.inl ⟨rfl, Or.inl rfl⟩)) rfl rfl ?_
    refine e_ld (t := 0) rfl (Or.inl ⟨rfl, Or.inl rfl⟩) rfl rfl ?_
    refine e_obj (M1 := M) (cc1 := cc) (v1 := some (.int (yi (f_117 M x2)))) (a := 1) (as := [.int (yi x2)]) rfl (by decide) rfl (Nat.le_of_ble_eq_true rfl) rfl (t_117 (by omega)) ?_
    refine e_br (fun t : Int => some (M, cc, some (.int (yi t)))) (q := 0) (by decide) rfl (fun h61 => ?_) (fun h61 => ?_)
    · refine e_ic (b := 0) rfl (by decide) (by decide) ?_
      exact e_iret rfl (Or.inr ⟨rfl, Or.inl rfl⟩)
    · refine e_ld (t := 2) rfl (Or.inr (Or.inl ⟨rfl, Or.inl rfl⟩)) rfl rfl ?_
      refine e_ld (t := 0) rfl (Or.inl ⟨rfl, Or.inl rfl⟩) rfl rfl ?_
      refine e_obj (M1 := M) (cc1 := cc) (v1 := some (.int (yi (f_126 M x3)))) (a := 1) (as := [.int (yi x3)]) rfl (by decide) rfl (Nat.le_of_ble_eq_true rfl) rfl (t_126 (by omega)) ?_
      refine e_br (fun t : Int => some (M, cc, some (.int (yi t)))) (q := 0) (by decide) rfl (fun h62 => ?_) (fun h62 => ?_)
      · refine e_ic (b := 0) rfl (by decide) (by decide) ?_
        exact e_iret rfl (Or.inr ⟨rfl, Or.inl rfl⟩)
      · refine e_ld (t := 0) rfl (Or.inl ⟨rfl, Or.inr rfl⟩) rfl rfl ?_
        refine e_br (fun t : Int => some (M, cc, some (.int (yi t)))) (q := 1) (by decide) rfl (fun h63 => ?_) (fun h63 => ?_)
        · refine e_ic (b := 0) rfl (by decide) (by decide) ?_
          exact e_iret rfl (Or.inr ⟨rfl, Or.inl rfl⟩)
        · refine e_ic (b := 1) rfl (by decide) (by decide) ?_
          refine e_go rfl ?_
          exact e_iret rfl (Or.inr ⟨rfl, Or.inr rfl⟩)
  refine s_case (fun t : Int => some (M, cc, some (.int (yi t)))) (by decide) (fun h64 => ?_) (fun h64 => ?_)
  · refine e_ld (t := 0) rfl (Or.inl ⟨rfl, Or.inl rfl⟩) rfl rfl ?_
    refine e_br (fun t : Int => some (M, cc, some (.int (yi t)))) (q := 2) (by decide) rfl (fun h65 => ?_) (fun h65 => ?_)
    · refine e_ic (b := 0) rfl (by decide) (by decide) ?_
      exact e_iret rfl (Or.inr ⟨rfl, Or.inl rfl⟩)
    · refine e_ld (t := 0) rfl (Or.inl ⟨rfl, Or.inl rfl⟩) rfl rfl ?_
      refine e_ic (b := 4) rfl (by decide) (by decide) ?_
      refine e_cmp (fun t : Int => some (M, cc, some (.int (yi t)))) (q := 3) (by decide) rfl (fun h66 => ?_) (fun h66 => ?_)
      · refine e_ic (b := 0) rfl (by decide) (by decide) ?_
        exact e_iret rfl (Or.inr ⟨rfl, Or.inl rfl⟩)
      · refine e_ld (t := 0) rfl (Or.inl ⟨rfl, Or.inl rfl⟩) rfl rfl ?_
        refine e_br (fun t : Int => some (M, cc, some (.int (yi t)))) (q := 1) (by decide) rfl (fun h67 => ?_) (fun h67 => ?_)
        · refine e_ic (b := 0) rfl (by decide) (by decide) ?_
          exact e_iret rfl (Or.inr ⟨rfl, Or.inl rfl⟩)
        · refine e_ld (t := 0) rfl (Or.inl ⟨rfl, Or.inr rfl⟩) rfl rfl ?_
          refine e_br (fun t : Int => some (M, cc, some (.int (yi t)))) (q := 1) (by decide) rfl (fun h68 => ?_) (fun h68 => ?_)
          · refine e_ic (b := 0) rfl (by decide) (by decide) ?_
            exact e_iret rfl (Or.inr ⟨rfl, Or.inl rfl⟩)
          · refine e_ic (b := 1) rfl (by decide) (by decide) ?_
            refine e_go rfl ?_
            exact e_iret rfl (Or.inr ⟨rfl, Or.inr rfl⟩)
  refine s_case (fun t : Int => some (M, cc, some (.int (yi t)))) (by decide) (fun h69 => ?_) (fun h69 => ?_)
  · refine e_ld (t := 0) rfl (Or.inl ⟨rfl, Or.inl rfl⟩) rfl rfl ?_
    refine e_br (fun t : Int => some (M, cc, some (.int (yi t)))) (q := 2) (by decide) rfl (fun h70 => ?_) (fun h70 => ?_)
    · refine e_ic (b := 0) rfl (by decide) (by decide) ?_
      exact e_iret rfl (Or.inr ⟨rfl, Or.inl rfl⟩)
    · refine e_ld (t := 0) rfl (Or.inl ⟨rfl, Or.inl rfl⟩) rfl rfl ?_
      refine e_ic (b := 4) rfl (by decide) (by decide) ?_
      refine e_cmp (fun t : Int => some (M, cc, some (.int (yi t)))) (q := 3) (by decide) rfl (fun h71 => ?_) (fun h71 => ?_)
      · refine e_ic (b := 0) rfl (by decide) (by decide) ?_
        exact e_iret rfl (Or.inr ⟨rfl, Or.inl rfl⟩)
      · refine e_ld (t := 0) rfl (Or.inl ⟨rfl, Or.inl rfl⟩) rfl rfl ?_
        refine e_br (fun t : Int => some (M, cc, some (.int (yi t)))) (q := 1) (by decide) rfl (fun h72 => ?_) (fun h72 => ?_)
        · refine e_ic (b := 0) rfl (by decide) (by decide) ?_
          exact e_iret rfl (Or.inr ⟨rfl, Or.inl rfl⟩)
        · refine e_ld (t := 0) rfl (Or.inl ⟨rfl, Or.inr rfl⟩) rfl rfl ?_
          refine e_br (fun t : Int => some (M, cc, some (.int (yi t)))) (q := 1) (by decide) rfl (fun h73 => ?_) (fun h73 => ?_)
          · refine e_ic (b := 0) rfl (by decide) (by decide) ?_
            exact e_iret rfl (Or.inr ⟨rfl, Or.inl rfl⟩)
          · refine e_ic (b := 1) rfl (by decide) (by decide) ?_
            refine e_go rfl ?_
            exact e_iret rfl (Or.inr ⟨rfl, Or.inr rfl⟩)
  refine s_case (fun t : Int => some (M, cc, some (.int (yi t)))) (by decide) (fun h74 => ?_) (fun h74 => ?_)
  · refine e_ld (t := 0) rfl (Or.inl ⟨rfl, Or.inl rfl⟩) rfl rfl ?_
    refine e_br (fun t : Int => some (M, cc, some (.int (yi t)))) (q := 2) (by decide) rfl (fun h75 => ?_) (fun h75 => ?_)
    · refine e_ic (b := 0) rfl (by decide) (by decide) ?_
      exact e_iret rfl (Or.inr ⟨rfl, Or.inl rfl⟩)
    · refine e_ld (t := 0) rfl (Or.inl ⟨rfl, Or.inl rfl⟩) rfl rfl ?_
      refine e_ic (b := 4) rfl (by decide) (by decide) ?_
      refine e_cmp (fun t : Int => some (M, cc, some (.int (yi t)))) (q := 3) (by decide) rfl (fun h76 => ?_) (fun h76 => ?_)
      · refine e_ic (b := 0) rfl (by decide) (by decide) ?_
        exact e_iret rfl (Or.inr ⟨rfl, Or.inl rfl⟩)
      · refine e_ld (t := 0) rfl (Or.inl ⟨rfl, Or.inl rfl⟩) rfl rfl ?_
        refine e_br (fun t : Int => some (M, cc, some (.int (yi t)))) (q := 1) (by decide) rfl (fun h77 => ?_) (fun h77 => ?_)
        · refine e_ic (b := 0) rfl (by decide) (by decide) ?_
          exact e_iret rfl (Or.inr ⟨rfl, Or.inl rfl⟩)
        · refine e_ld (t := 0) rfl (Or.inl ⟨rfl, Or.inr rfl⟩) rfl rfl ?_
          refine e_br (fun t : Int => some (M, cc, some (.int (yi t)))) (q := 1) (by decide) rfl (fun h78 => ?_) (fun h78 => ?_)
          · refine e_ic (b := 0) rfl (by decide) (by decide) ?_
            exact e_iret rfl (Or.inr ⟨rfl, Or.inl rfl⟩)
          · refine e_ic (b := 1) rfl (by decide) (by decide) ?_
            refine e_go rfl ?_
            exact e_iret rfl (Or.inr ⟨rfl, Or.inr rfl⟩)
  refine s_end ?_
  refine e_ic (b := 0) rfl (by decide) (by decide) ?_
  exact e_iret rfl (Or.inr ⟨rfl, Or.inl rfl⟩)
/-- UnwindTower.digestProcedure -/
def f_8_63 (N : Nat) (ih58 : yM → Int → Nat → Int → Int → Option (Int)) : Nat → yM → Int → Nat → Int → Int → Int → Option (Int)
  | 0, _, _, _, _, _, _ => none
  | n + 1, M, y4, r6, x8, x9, x10 => (cond (yrel 4 x10 3) (ih58 M y4 r6 x8 (x9 + 1)) (ylet ((y4 * 31) + (yw (yrdT M (((M r6 11) + x9) * 4 + x10)))) fun v7 => (f_8_63 N ih58 n M v7 r6 x8 x9 (x10 + 1))))
theorem t_8_63 {sc : List Int32} {dd cc : Nat} {N : Nat} {ih58 : yM → Int → Nat → Int → Int → Option (Int)} (hd : 4 ≤ dd) (ih58_ : ∀ {M : yM} {y4 : Int} {r6 : Nat} {x8 : Int} {x9 : Int} (hr6 : pC r6) {L : zL} (hL0 : L 0 = some (.ref 0)) (hL4 : L 4 = some (.long (yl y4))) (hL6 : L 6 = some (.ref r6)) (hL8 : L 8 = some (.int (yi x8))) (hL9 : L 9 = some (.int (yi x9))), yW sc zg_c8 zg_w8 dd 58 L [] M cc ((Option.map (fun t : Int => (M, cc, some (.long (yl t))))) (ih58 M y4 r6 x8 x9))) : ∀ (n : Nat) {M : yM} {y4 : Int} {r6 : Nat} {x8 : Int} {x9 : Int} {x10 : Int} (hr6 : pC r6) {L : zL} (hL0 : L 0 = some (.ref 0)) (hL4 : L 4 = some (.long (yl y4))) (hL6 : L 6 = some (.ref r6)) (hL8 : L 8 = some (.int (yi x8))) (hL9 : L 9 = some (.int (yi x9))) (hL10 : L 10 = some (.int (yi x10))), yW sc zg_c8 zg_w8 dd 63 L [] M cc ((Option.map (fun t : Int => (M, cc, some (.long (yl t))))) (f_8_63 N ih58 n M y4 r6 x8 x9 x10)) := by
  intro n
  induction n with
  | zero => intros; exact y_none
  | succ n IH =>
    intro M y4 r6 x8 x9 x10 hr6 L hL0 hL4 hL6 hL8 hL9 hL10
    rw [f_8_63]
    refine e_ld (t := 0) rfl (Or.inl ⟨rfl, Or.inr rfl⟩) hL10 rfl ?_
    refine e_ic (b := 3) rfl (by decide) (by decide) ?_
    refine e_cmp (Option.map (fun t : Int => (M, cc, some (.long (yl t))))) (q := 4) (by decide) rfl (fun h6 => ?_) (fun h6 => ?_)
    · refine e_inc (d := 1) rfl hL9 (by decide) ?_
      refine e_go rfl ?_
      exact ih58_ hr6 (l_kr (by decide) hL0) (l_kl (by decide) (by decide) hL4) (l_kr (by decide) hL6) (l_ki (by decide) hL8) l_s
    · refine e_ld (t := 3) rfl (Or.inr (Or.inr ⟨rfl, Or.inr rfl⟩)) hL4 rfl ?_
      refine e_lc (q := 31) rfl (by decide) (by decide) ?_
      refine e_lmul rfl ?_
      refine e_ld (t := 2) rfl (Or.inr (Or.inl ⟨rfl, Or.inl rfl⟩)) hL0 rfl ?_
      refine e_get (a := 0) (u := .ref 21) rfl rfl rfl (fun _ => rfl) ?_
      refine e_ld (t := 2) rfl (Or.inr (Or.inl ⟨rfl, Or.inr rfl⟩)) hL6 rfl ?_
      refine e_get (a := r6) (u := .int (yi (M r6 11))) rfl (fC hr6) rfl (fun _ => rfl) ?_
      refine e_ld (t := 0) rfl (Or.inl ⟨rfl, Or.inr rfl⟩) hL9 rfl ?_
      refine e_add rfl ?_
      refine e_ld (t := 0) rfl (Or.inl ⟨rfl, Or.inr rfl⟩) hL10 rfl ?_
      refine e_obj (a := 21) (as := [.int (yi ((M r6 11) + x9)), .int (yi x10)]) rfl (by decide) rfl (Nat.le_of_ble_eq_true rfl) rfl (t_141 (by omega)) ?_
      refine e_i2l rfl ?_
      refine e_ladd rfl ?_
      refine e_lstl (g := (Option.map (fun t : Int => (M, cc, some (.long (yl t)))))) rfl (Or.inr rfl) (fun v7 => ?_)
      refine e_inc (d := 1) rfl (l_ki2 (by decide) (by decide) hL10) (by decide) ?_
      refine e_go rfl ?_
      exact IH hr6 (l_kr (by decide) (l_kr2 (by decide) (by decide) hL0)) (l_kl (by decide) (by decide) l_s2) (l_kr (by decide) (l_kr2 (by decide) (by decide) hL6)) (l_ki (by decide) (l_ki2 (by decide) (by decide) hL8)) (l_ki (by decide) (l_ki2 (by decide) (by decide) hL9)) l_s
def f_8_58 (N : Nat) : Nat → yM → Int → Nat → Int → Int → Option (Int)
  | 0, _, _, _, _, _ => none
  | n + 1, M, y4, r6, x8, x9 => (cond (yrel 3 x9 x8) (some y4) (f_8_63 N (f_8_58 N n) N M y4 r6 x8 x9 0))
theorem t_8_58 {sc : List Int32} {dd cc : Nat} {N : Nat} (hd : 4 ≤ dd) : ∀ (n : Nat) {M : yM} {y4 : Int} {r6 : Nat} {x8 : Int} {x9 : Int} (hr6 : pC r6) {L : zL} (hL0 : L 0 = some (.ref 0)) (hL4 : L 4 = some (.long (yl y4))) (hL6 : L 6 = some (.ref r6)) (hL8 : L 8 = some (.int (yi x8))) (hL9 : L 9 = some (.int (yi x9))), yW sc zg_c8 zg_w8 dd 58 L [] M cc ((Option.map (fun t : Int => (M, cc, some (.long (yl t))))) (f_8_58 N n M y4 r6 x8 x9)) := by
  intro n
  induction n with
  | zero => intros; exact y_none
  | succ n IH =>
    intro M y4 r6 x8 x9 hr6 L hL0 hL4 hL6 hL8 hL9
    rw [f_8_58]
    refine e_ld (t := 0) rfl (Or.inl ⟨rfl, Or.inr rfl⟩) hL9 rfl ?_
    refine e_ld (t := 0) rfl (Or.inl ⟨rfl, Or.inr rfl⟩) hL8 rfl ?_
    refine e_cmp (Option.map (fun t : Int => (M, cc, some (.long (yl t))))) (q := 3) (by decide) rfl (fun h5 => ?_) (fun h5 => ?_)
    · refine e_ld (t := 3) rfl (Or.inr (Or.inr ⟨rfl, Or.inr rfl⟩)) hL4 rfl ?_
      exact e_lret rfl
    · refine e_ic (b := 0) rfl (by decide) (by decide) ?_
      refine e_st (t := 0) rfl (Or.inl ⟨rfl, Or.inr rfl⟩) rfl ?_
      exact t_8_63 (by omega) IH N hr6 (l_kr (by decide) hL0) (l_kl (by decide) (by decide) hL4) (l_kr (by decide) hL6) (l_ki (by decide) hL8) (l_ki (by decide) hL9) l_s
def f_8_35 (N : Nat) (ih30 : yM → Int → Int → Nat → Int → Int → Option (Int)) : Nat → yM → Int → Int → Nat → Int → Int → Int → Option (Int)
  | 0, _, _, _, _, _, _, _ => none
  | n + 1, M, x3, y4, r6, x7, x8, x9 => (cond (yrel 4 x9 4) (ih30 M x3 y4 r6 x7 (x8 + 1)) (ylet ((y4 * 31) + (yw (f_43 M r6 x8 x9))) fun v9 => (f_8_35 N ih30 n M x3 v9 r6 x7 x8 (x9 + 1))))
theorem t_8_35 {sc : List Int32} {dd cc : Nat} {N : Nat} {ih30 : yM → Int → Int → Nat → Int → Int → Option (Int)} (hd : 4 ≤ dd) (ih30_ : ∀ {M : yM} {x3 : Int} {y4 : Int} {r6 : Nat} {x7 : Int} {x8 : Int} (hr6 : pC r6) {L : zL} (hL0 : L 0 = some (.ref 0)) (hL3 : L 3 = some (.int (yi x3))) (hL4 : L 4 = some (.long (yl y4))) (hL6 : L 6 = some (.ref r6)) (hL7 : L 7 = some (.int (yi x7))) (hL8 : L 8 = some (.int (yi x8))), yW sc zg_c8 zg_w8 dd 30 L [] M cc ((Option.map (fun t : Int => (M, cc, some (.long (yl t))))) (ih30 M x3 y4 r6 x7 x8))) : ∀ (n : Nat) {M : yM} {x3 : Int} {y4 : Int} {r6 : Nat} {x7 : Int} {x8 : Int} {x9 : Int} (hr6 : pC r6) {L : zL} (hL0 : L 0 = some (.ref 0)) (hL3 : L 3 = some (.int (yi x3))) (hL4 : L 4 = some (.long (yl y4))) (hL6 : L 6 = some (.ref r6)) (hL7 : L 7 = some (.int (yi x7))) (hL8 : L 8 = some (.int (yi x8))) (hL9 : L 9 = some (.int (yi x9))), yW sc zg_c8 zg_w8 dd 35 L [] M cc ((Option.map (fun t : Int => (M, cc, some (.long (yl t))))) (f_8_35 N ih30 n M x3 y4 r6 x7 x8 x9)) := by
  intro n
  induction n with
  | zero => intros; exact y_none
  | succ n IH =>
    intro M x3 y4 r6 x7 x8 x9 hr6 L hL0 hL3 hL4 hL6 hL7 hL8 hL9
    rw [f_8_35]
    refine e_ld (t := 0) rfl (Or.inl ⟨rfl, Or.inr rfl⟩) hL9 rfl ?_
    refine e_ic (b := 4) rfl (by decide) (by decide) ?_
    refine e_cmp (Option.map (fun t : Int => (M, cc, some (.long (yl t))))) (q := 4) (by decide) rfl (fun h8 => ?_) (fun h8 => ?_)
    · refine e_inc (d := 1) rfl hL8 (by decide) ?_
      refine e_go rfl ?_
      exact ih30_ hr6 (l_kr (by decide) hL0) (l_ki (by decide) hL3) (l_kl (by decide) (by decide) hL4) (l_kr (by decide) hL6) (l_ki (by decide) hL7) l_s
    · refine e_ld (t := 3) rfl (Or.inr (Or.inr ⟨rfl, Or.inr rfl⟩)) hL4 rfl ?_
      refine e_lc (q := 31) rfl (by decide) (by decide) ?_
      refine e_lmul rfl ?_
      refine e_ld (t := 2) rfl (Or.inr (Or.inl ⟨rfl, Or.inr rfl⟩)) hL6 rfl ?_
      refine e_ld (t := 0) rfl (Or.inl ⟨rfl, Or.inr rfl⟩) hL8 rfl ?_
      refine e_ld (t := 0) rfl (Or.inl ⟨rfl, Or.inr rfl⟩) hL9 rfl ?_
      refine e_obj (M1 := M) (cc1 := cc) (v1 := some (.int (yi (f_43 M r6 x8 x9)))) (a := r6) (as := [.int (yi x8), .int (yi x9)]) rfl (by decide) rfl (Nat.le_of_ble_eq_true rfl) (fC hr6) (t_43 (by omega) hr6) ?_
      refine e_i2l rfl ?_
      refine e_ladd rfl ?_
      refine e_lstl (g := (Option.map (fun t : Int => (M, cc, some (.long (yl t)))))) rfl (Or.inr rfl) (fun v9 => ?_)
      refine e_inc (d := 1) rfl (l_ki2 (by decide) (by decide) hL9) (by decide) ?_
      refine e_go rfl ?_
      exact IH hr6 (l_kr (by decide) (l_kr2 (by decide) (by decide) hL0)) (l_ki (by decide) (l_ki2 (by decide) (by decide) hL3)) (l_kl (by decide) (by decide) l_s2) (l_kr (by decide) (l_kr2 (by decide) (by decide) hL6)) (l_ki (by decide) (l_ki2 (by decide) (by decide) hL7)) (l_ki (by decide) (l_ki2 (by decide) (by decide) hL8)) l_s
def f_8_30 (N : Nat) : Nat → yM → Int → Int → Nat → Int → Int → Option (Int)
  | 0, _, _, _, _, _, _ => none
  | n + 1, M, x3, y4, r6, x7, x8 => (cond (yrel 3 x8 x7) (ylet (f_32 M x3) fun v4 => (f_8_58 N N M y4 r6 v4 0)) (f_8_35 N (f_8_30 N n) N M x3 y4 r6 x7 x8 0))
theorem t_8_30 {sc : List Int32} {dd cc : Nat} {N : Nat} (hd : 4 ≤ dd) : ∀ (n : Nat) {M : yM} {x3 : Int} {y4 : Int} {r6 : Nat} {x7 : Int} {x8 : Int} (hr6 : pC r6) {L : zL} (hL0 : L 0 = some (.ref 0)) (hL3 : L 3 = some (.int (yi x3))) (hL4 : L 4 = some (.long (yl y4))) (hL6 : L 6 = some (.ref r6)) (hL7 : L 7 = some (.int (yi x7))) (hL8 : L 8 = some (.int (yi x8))), yW sc zg_c8 zg_w8 dd 30 L [] M cc ((Option.map (fun t : Int => (M, cc, some (.long (yl t))))) (f_8_30 N n M x3 y4 r6 x7 x8)) := by
  intro n
  induction n with
  | zero => intros; exact y_none
  | succ n IH =>
    intro M x3 y4 r6 x7 x8 hr6 L hL0 hL3 hL4 hL6 hL7 hL8
    rw [f_8_30]
    refine e_ld (t := 0) rfl (Or.inl ⟨rfl, Or.inr rfl⟩) hL8 rfl ?_
    refine e_ld (t := 0) rfl (Or.inl ⟨rfl, Or.inr rfl⟩) hL7 rfl ?_
    refine e_cmp (Option.map (fun t : Int => (M, cc, some (.long (yl t))))) (q := 3) (by decide) rfl (fun h3 => ?_) (fun h3 => ?_)
    · refine e_ld (t := 2) rfl (Or.inr (Or.inl ⟨rfl, Or.inl rfl⟩)) hL0 rfl ?_
      refine e_ld (t := 0) rfl (Or.inl ⟨rfl, Or.inl rfl⟩) hL3 rfl ?_
      refine e_obj (M1 := M) (cc1 := cc) (v1 := some (.int (yi (f_32 M x3)))) (a := 0) (as := [.int (yi x3)]) rfl (by decide) rfl (Nat.le_of_ble_eq_true rfl) rfl (t_32 (by omega)) ?_
      refine e_stl (g := (Option.map (fun t : Int => (M, cc, some (.long (yl t)))))) rfl (Or.inr rfl) (fun v4 => ?_)
      refine e_ic (b := 0) rfl (by decide) (by decide) ?_
      refine e_st (t := 0) rfl (Or.inl ⟨rfl, Or.inr rfl⟩) rfl ?_
      exact t_8_58 (by omega) N hr6 (l_kr (by decide) (l_kr (by decide) hL0)) (l_kl (by decide) (by decide) (l_kl (by decide) (by decide) hL4)) (l_kr (by decide) (l_kr (by decide) hL6)) (l_ki (by decide) l_s) l_s
    · refine e_ic (b := 0) rfl (by decide) (by decide) ?_
      refine e_st (t := 0) rfl (Or.inl ⟨rfl, Or.inr rfl⟩) rfl ?_
      exact t_8_35 (by omega) IH N hr6 (l_kr (by decide) hL0) (l_ki (by decide) hL3) (l_kl (by decide) (by decide) hL4) (l_kr (by decide) hL6) (l_ki (by decide) hL7) (l_ki (by decide) hL8) l_s
def f_8_4 (N : Nat) : Nat → yM → Int → Int → Int → Option (Int)
  | 0, _, _, _, _ => none
  | n + 1, M, x3, y4, x6 => (cond (yrel 4 x6 5) (ylet (f_14 M x3) fun v2 => (f_8_30 N N M x3 y4 (24 + 9 * ypz 8 x3) v2 0)) (ylet ((y4 * 31) + (yw (f_29 M x3 x6))) fun v10 => (f_8_4 N n M x3 v10 (x6 + 1))))
theorem t_8_4 {sc : List Int32} {dd cc : Nat} {N : Nat} (hd : 4 ≤ dd) : ∀ (n : Nat) {M : yM} {x3 : Int} {y4 : Int} {x6 : Int} {L : zL} (hL0 : L 0 = some (.ref 0)) (hL3 : L 3 = some (.int (yi x3))) (hL4 : L 4 = some (.long (yl y4))) (hL6 : L 6 = some (.int (yi x6))), yW sc zg_c8 zg_w8 dd 4 L [] M cc ((Option.map (fun t : Int => (M, cc, some (.long (yl t))))) (f_8_4 N n M x3 y4 x6)) := by
  intro n
  induction n with
  | zero => intros; exact y_none
  | succ n IH =>
    intro M x3 y4 x6 L hL0 hL3 hL4 hL6
    rw [f_8_4]
    refine e_ld (t := 0) rfl (Or.inl ⟨rfl, Or.inr rfl⟩) hL6 rfl ?_
    refine e_ic (b := 5) rfl (by decide) (by decide) ?_
    refine e_cmp (Option.map (fun t : Int => (M, cc, some (.long (yl t))))) (q := 4) (by decide) rfl (fun h1 => ?_) (fun h1 => ?_)
    · refine e_ld (t := 2) rfl (Or.inr (Or.inl ⟨rfl, Or.inl rfl⟩)) hL0 rfl ?_
      refine e_get (a := 0) (u := .ref 23) rfl rfl rfl (fun _ => rfl) ?_
      refine e_ld (t := 0) rfl (Or.inl ⟨rfl, Or.inl rfl⟩) hL3 rfl ?_
      refine e_stat (as := [.ref 23, .int (yi x3)]) rfl (by decide) rfl (Nat.le_of_ble_eq_true rfl) (t_5 (by omega)) ?_
      refine e_st (t := 2) rfl (Or.inr ⟨rfl, Or.inr rfl⟩) rfl ?_
      refine e_ld (t := 2) rfl (Or.inr (Or.inl ⟨rfl, Or.inl rfl⟩)) (l_kr (by decide) hL0) rfl ?_
      refine e_ld (t := 0) rfl (Or.inl ⟨rfl, Or.inl rfl⟩) (l_ki (by decide) hL3) rfl ?_
      refine e_obj (M1 := M) (cc1 := cc) (v1 := some (.int (yi (f_14 M x3)))) (a := 0) (as := [.int (yi x3)]) rfl (by decide) rfl (Nat.le_of_ble_eq_true rfl) rfl (t_14 (by omega)) ?_
      refine e_stl (g := (Option.map (fun t : Int => (M, cc, some (.long (yl t)))))) rfl (Or.inr rfl) (fun v2 => ?_)
      refine e_ic (b := 0) rfl (by decide) (by decide) ?_
      refine e_st (t := 0) rfl (Or.inl ⟨rfl, Or.inr rfl⟩) rfl ?_
      exact t_8_30 (by omega) N ⟨_, ypz_lt (by decide), rfl⟩ (l_kr (by decide) (l_kr (by decide) (l_kr (by decide) hL0))) (l_ki (by decide) (l_ki (by decide) (l_ki (by decide) hL3))) (l_kl (by decide) (by decide) (l_kl (by decide) (by decide) (l_kl (by decide) (by decide) hL4))) (l_kr (by decide) (l_kr (by decide) l_s)) (l_ki (by decide) l_s) l_s
    · refine e_ld (t := 3) rfl (Or.inr (Or.inr ⟨rfl, Or.inr rfl⟩)) hL4 rfl ?_
      refine e_lc (q := 31) rfl (by decide) (by decide) ?_
      refine e_lmul rfl ?_
      refine e_ld (t := 2) rfl (Or.inr (Or.inl ⟨rfl, Or.inl rfl⟩)) hL0 rfl ?_
      refine e_ld (t := 0) rfl (Or.inl ⟨rfl, Or.inl rfl⟩) hL3 rfl ?_
      refine e_ld (t := 0) rfl (Or.inl ⟨rfl, Or.inr rfl⟩) hL6 rfl ?_
      refine e_obj (M1 := M) (cc1 := cc) (v1 := some (.int (yi (f_29 M x3 x6)))) (a := 0) (as := [.int (yi x3), .int (yi x6)]) rfl (by decide) rfl (Nat.le_of_ble_eq_true rfl) rfl (t_29 (by omega)) ?_
      refine e_i2l rfl ?_
      refine e_ladd rfl ?_
      refine e_lstl (g := (Option.map (fun t : Int => (M, cc, some (.long (yl t)))))) rfl (Or.inr rfl) (fun v10 => ?_)
      refine e_inc (d := 1) rfl (l_ki2 (by decide) (by decide) hL6) (by decide) ?_
      refine e_go rfl ?_
      exact IH (l_kr (by decide) (l_kr2 (by decide) (by decide) hL0)) (l_ki (by decide) (l_ki2 (by decide) (by decide) hL3)) (l_kl (by decide) (by decide) l_s2) l_s
def f_8 (N : Nat) (M : yM) (y1 : Int) (x3 : Int) : Option (Int) := (f_8_4 N N M x3 y1 0)
theorem t_8 {sc : List Int32} {dd cc : Nat} {N : Nat} {M : yM} {y1 : Int} {x3 : Int} (hd : 5 ≤ dd) : yP sc dd 8 [.ref 0, .long (yl y1), .int (yi x3)] M cc ((Option.map (fun t : Int => (M, cc, some (.long (yl t))))) (f_8 N M y1 x3)) := by
  obtain ⟨dd, rfl⟩ : ∃ e, dd = e + 1 := ⟨dd - 1, by omega⟩
  refine e_meth (C := zg_c8) (W := zg_w8) (ml := 11) rfl rfl (Nat.le_of_ble_eq_true rfl) ?_
  unfold f_8
  refine e_ld (t := 3) rfl (Or.inr (Or.inr ⟨rfl, Or.inl rfl⟩)) rfl rfl ?_
  refine e_lst rfl (Or.inr rfl) ?_
  refine e_ic (b := 0) rfl (by decide) (by decide) ?_
  refine e_st (t := 0) rfl (Or.inl ⟨rfl, Or.inr rfl⟩) rfl ?_
  exact t_8_4 (by omega) N (l_kr (by decide) (l_kr2 (by decide) (by decide) rfl)) (l_ki (by decide) (l_ki2 (by decide) (by decide) rfl)) (l_kl (by decide) (by decide) l_s2) l_s
