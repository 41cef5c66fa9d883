/-! methods as functions of the numbers, with their ties (6) -/
/-- UnwindTower.node -/
def f_18 (M : yM) (x1 : Int) (x2 : Int) (x3 : Int) (x4 : Int) : Option (yM × Int) := (cond (yrel 1 (f_125 M x1 x2 x3 x4) 0) (cond (yrel 2 (M 1 7) 90) (ylet (yU M 0 8 1) fun M3 => (ylet (f_105 M3 x1 x2 x3 x4) fun t4 => some (t4.1, t4.2))) none) none)
theorem t_18 {sc : List Int32} {dd cc : Nat} {M : yM} {x1 : Int} {x2 : Int} {x3 : Int} {x4 : Int} (hd : 6 ≤ dd) : yP sc dd 18 [.ref 0, .int (yi x1), .int (yi x2), .int (yi x3), .int (yi x4)] M cc ((Option.map (fun t : yM × Int => (t.1, cc, some (.int (yi t.2))))) (f_18 M x1 x2 x3 x4)) := by
  obtain ⟨dd, rfl⟩ : ∃ e, dd = e + 1 := ⟨dd - 1, by omega⟩
  refine e_meth (C := zg_c18) (W := zg_w18) (ml := 5) rfl rfl (Nat.le_of_ble_eq_true rfl) ?_
  unfold f_18
  refine e_ld (t := 2) rfl (Or.inr (Or.inl ⟨rfl, Or.inl rfl⟩)) rfl rfl ?_
  refine e_get (a := 0) (u := .ref 1) rfl rfl rfl (fun _ => rfl) ?_
  refine e_ld (t := 0) rfl (Or.inl ⟨rfl, Or.inl rfl⟩) rfl rfl ?_
  refine e_ld (t := 0) rfl (Or.inl ⟨rfl, Or.inl rfl⟩) rfl rfl ?_
  refine e_ld (t := 0) rfl (Or.inl ⟨rfl, Or.inl rfl⟩) rfl rfl ?_
  refine e_ld (t := 0) rfl (Or.inl ⟨rfl, Or.inr rfl⟩) rfl rfl ?_
  refine e_obj (M1 := M) (cc1 := cc) (v1 := some (.int (yi (f_125 M x1 x2 x3 x4)))) (a := 1) (as := [.int (yi x1), .int (yi x2), .int (yi x3), .int (yi x4)]) rfl (by decide) rfl (Nat.le_of_ble_eq_true rfl) rfl (t_125 (by omega)) ?_
  refine e_br (Option.map (fun t : yM × Int => (t.1, cc, some (.int (yi t.2))))) (q := 1) (by decide) rfl (fun h1 => ?_) (fun h1 => ?_)
  · refine e_ld (t := 2) rfl (Or.inr (Or.inl ⟨rfl, Or.inl rfl⟩)) rfl rfl ?_
    refine e_get (a := 0) (u := .ref 1) rfl rfl rfl (fun _ => rfl) ?_
    refine e_get (a := 1) (u := .int (yi (M 1 7))) rfl rfl rfl (fun _ => rfl) ?_
    refine e_ic (b := 90) rfl (by decide) (by decide) ?_
    refine e_cmp (Option.map (fun t : yM × Int => (t.1, cc, some (.int (yi t.2))))) (q := 2) (by decide) rfl (fun h2 => ?_) (fun h2 => ?_)
    · refine e_ld (t := 2) rfl (Or.inr (Or.inl ⟨rfl, Or.inl rfl⟩)) rfl rfl ?_
      refine e_ic (b := 1) rfl (by decide) (by decide) ?_
      refine e_put (a := 0) rfl (Or.inl rfl) rfl rfl (Or.inr ⟨rfl, Or.inr rfl⟩) ?_
      refine y_let (Option.map (fun t : yM × Int => (t.1, cc, some (.int (yi t.2))))) (fun M3 => ?_)
      refine e_ld (t := 2) rfl (Or.inr (Or.inl ⟨rfl, Or.inl rfl⟩)) rfl rfl ?_
      refine e_get (a := 0) (u := .ref 1) rfl rfl rfl (fun _ => rfl) ?_
      refine e_ld (t := 0) rfl (Or.inl ⟨rfl, Or.inl rfl⟩) rfl rfl ?_
      refine e_ld (t := 0) rfl (Or.inl ⟨rfl, Or.inl rfl⟩) rfl rfl ?_
      refine e_ld (t := 0) rfl (Or.inl ⟨rfl, Or.inl rfl⟩) rfl rfl ?_
      refine e_ld (t := 0) rfl (Or.inl ⟨rfl, Or.inr rfl⟩) rfl rfl ?_
      refine e_objP (Option.map (fun t : yM × Int => (t.1, cc, some (.int (yi t.2))))) (h0 := (fun t : yM × Int => (t.1, cc, some (.int (yi t.2))))) (a := 1) (as := [.int (yi x1), .int (yi x2), .int (yi x3), .int (yi x4)]) rfl (by decide) rfl (Nat.le_of_ble_eq_true rfl) rfl (t_105 (by omega)) (fun t4 => ?_)
      exact e_iret rfl (Or.inl rfl)
    · exact y_none
  · exact y_none
/-- UnwindTower$Compiler.lay -/
def f_50_83 (N : Nat) (ly : yM → Int → Int → Option yM) (cc : Nat) (M : yM) (x1 : Int) (x2 : Int) : Option (yM) := (ylet (f_62 cc M x1 (105 + 1 * ypz 91 x2)) fun t18 => some t18)
theorem t_50_83 {sc : List Int32} {dd cc : Nat} {dl : Nat} {N : Nat} {ly : yM → Int → Int → Option yM} {M : yM} {x1 : Int} {x2 : Int} (hd : 6 ≤ dd) (hdl : dl + 2 ≤ dd) (hly : ∀ M a b, yP sc dl 50 [.ref 96, .int (yi a), .int (yi b)] M cc (Option.map (fun t => (t, cc, none)) (ly M a b))) (hcc : pC cc) {L : zL} (hL0 : L 0 = some (.ref 96)) (hL1 : L 1 = some (.int (yi x1))) (hL2 : L 2 = some (.int (yi x2))) : yW sc zg_c50 zg_w50 dd 83 L [] M cc ((Option.map (fun t : yM => (t, cc, none))) (f_50_83 N ly cc M x1 x2)) := by
  unfold f_50_83
  refine e_ld (t := 2) rfl (Or.inr (Or.inl ⟨rfl, Or.inl rfl⟩)) hL0 rfl ?_
  refine e_ld (t := 0) rfl (Or.inl ⟨rfl, Or.inl rfl⟩) hL1 rfl ?_
  refine e_ld (t := 2) rfl (Or.inr (Or.inl ⟨rfl, Or.inl rfl⟩)) hL0 rfl ?_
  refine e_ld (t := 0) rfl (Or.inl ⟨rfl, Or.inl rfl⟩) hL2 rfl ?_
  refine e_obj (a := 96) (as := [.int (yi x2)]) rfl (by decide) rfl (Nat.le_of_ble_eq_true rfl) rfl (t_68 (by omega)) ?_
  refine e_objP (Option.map (fun t : yM => (t, cc, none))) (h0 := (fun t : yM => (t, cc, none))) (a := 96) (as := [.int (yi x1), .ref (105 + 1 * ypz 91 x2)]) rfl (by decide) rfl (Nat.le_of_ble_eq_true rfl) rfl (t_62 (by omega) hcc ⟨_, ypz_lt (by decide), rfl⟩) (fun t18 => ?_)
  exact e_vret rfl
def f_50_13 (N : Nat) (ly : yM → Int → Int → Option yM) (cc : Nat) (M : yM) (x1 : Int) (x2 : Int) : Option (yM) := (cond (yrel 0 (M cc 1) 0) (ylet (f_40 M cc x1) fun t4 => (cond (yrel 0 (yrd t4 7 x1) 4) (ylet (f_47 t4 x2) fun t6 => (Option.bind (ly t6 (yrd t6 9 x1) (x2 + 1)) fun M7 => (Option.bind (ly M7 (yrd M7 10 x1) (x2 + 1)) fun M8 => some M8))) (cond (yrel 0 (yrd t4 7 x1) (4 + 1)) (Option.bind (f_57 N ly cc t4 x1 x2) fun t10 => some t10) (cond (yrel 0 (yrd t4 7 x1) (4 + 1 + 1)) (Option.bind (f_58 N ly cc t4 x1 x2) fun t12 => some t12) (cond (yrel 0 (yrd t4 7 x1) (4 + 1 + 1 + 1)) (Option.bind (f_51 N ly cc t4 x1 x2) fun t14 => some t14) (cond (yrel 0 (yrd t4 7 x1) (4 + 1 + 1 + 1 + 1)) (Option.bind (f_60 N ly cc t4 x1 x2) fun t16 => some t16) (cond (yrel 0 (yrd t4 7 x1) (4 + 1 + 1 + 1 + 1 + 1)) (f_50_83 N ly cc t4 x1 x2) (cond (yrel 0 (yrd t4 7 x1) (4 + 1 + 1 + 1 + 1 + 1 + 1)) (f_50_83 N ly cc t4 x1 x2) (cond (yrel 0 (yrd t4 7 x1) (4 + 1 + 1 + 1 + 1 + 1 + 1 + 1)) (Option.bind (f_63 N ly cc t4 x1 x2) fun t21 => some t21) (cond (yrel 0 (yrd t4 7 x1) (4 + 1 + 1 + 1 + 1 + 1 + 1 + 1 + 1)) (f_50_83 N ly cc t4 x1 x2) (cond (yrel 0 (yrd t4 7 x1) (4 + 1 + 1 + 1 + 1 + 1 + 1 + 1 + 1 + 1)) (Option.bind (f_64 N ly cc t4 x1 x2) fun t24 => some t24) (f_50_83 N ly cc t4 x1 x2)))))))))))) (some M))
theorem t_50_13 {sc : List Int32} {dd cc : Nat} {dl : Nat} {N : Nat} {ly : yM → Int → Int → Option yM} {M : yM} {x1 : Int} {x2 : Int} (hd : 6 ≤ dd) (hdl : dl + 2 ≤ dd) (hly : ∀ M a b, yP sc dl 50 [.ref 96, .int (yi a), .int (yi b)] M cc (Option.map (fun t => (t, cc, none)) (ly M a b))) (hcc : pC cc) {L : zL} (hL0 : L 0 = some (.ref 96)) (hL1 : L 1 = some (.int (yi x1))) (hL2 : L 2 = some (.int (yi x2))) : yW sc zg_c50 zg_w50 dd 13 L [] M cc ((Option.map (fun t : yM => (t, cc, none))) (f_50_13 N ly cc M x1 x2)) := by
  unfold f_50_13
  refine e_ld (t := 2) rfl (Or.inr (Or.inl ⟨rfl, Or.inl rfl⟩)) hL0 rfl ?_
  refine e_get (a := 96) (u := .ref cc) rfl rfl rfl (fun _ => rfl) ?_
  refine e_get (a := cc) (u := .int (yi (M cc 1))) rfl (fC hcc) rfl (fun _ => rfl) ?_
  refine e_br (Option.map (fun t : yM => (t, cc, none))) (q := 0) (by decide) rfl (fun h3 => ?_) (fun h3 => ?_)
  · refine e_ld (t := 2) rfl (Or.inr (Or.inl ⟨rfl, Or.inl rfl⟩)) hL0 rfl ?_
    refine e_get (a := 96) (u := .ref cc) rfl rfl rfl (fun _ => rfl) ?_
    refine e_ld (t := 0) rfl (Or.inl ⟨rfl, Or.inl rfl⟩) hL1 rfl ?_
    refine e_objP (Option.map (fun t : yM => (t, cc, none))) (h0 := (fun t : yM => (t, cc, none))) (a := cc) (as := [.int (yi x1)]) rfl (by decide) rfl (Nat.le_of_ble_eq_true rfl) (fC hcc) (t_40 (by omega) hcc) (fun t4 => ?_)
    refine e_ld (t := 2) rfl (Or.inr (Or.inl ⟨rfl, Or.inl rfl⟩)) hL0 rfl ?_
    refine e_get (a := 96) (u := .ref 1) rfl rfl rfl (fun _ => rfl) ?_
    refine e_get (a := 1) (u := .ref 7) rfl rfl rfl (fun _ => rfl) ?_
    refine e_ld (t := 0) rfl (Or.inl ⟨rfl, Or.inl rfl⟩) hL1 rfl ?_
    refine e_at (a := 7) (by omega) rfl (by decide) (Nat.le_of_ble_eq_true rfl) rfl ?_
    refine e_sw (lo' := 4) rfl rfl (by decide) ?_
    refine s_case (Option.map (fun t : yM => (t, cc, none))) (by decide) (fun h5 => ?_) (fun h5 => ?_)
    · refine e_ld (t := 2) rfl (Or.inr (Or.inl ⟨rfl, Or.inl rfl⟩)) hL0 rfl ?_
      refine e_ld (t := 0) rfl (Or.inl ⟨rfl, Or.inl rfl⟩) hL2 rfl ?_
      refine e_objP (Option.map (fun t : yM => (t, cc, none))) (h0 := (fun t : yM => (t, cc, some (.ref (105 + 1 * ypz 91 (x2 + 1)))))) (a := 96) (as := [.int (yi x2)]) rfl (by decide) rfl (Nat.le_of_ble_eq_true rfl) rfl (t_47 (by omega)) (fun t6 => ?_)
      refine e_pop rfl (Or.inr ⟨_, rfl⟩) ?_
      refine e_ld (t := 2) rfl (Or.inr (Or.inl ⟨rfl, Or.inl rfl⟩)) hL0 rfl ?_
      refine e_ld (t := 2) rfl (Or.inr (Or.inl ⟨rfl, Or.inl rfl⟩)) hL0 rfl ?_
      refine e_get (a := 96) (u := .ref 1) rfl rfl rfl (fun _ => rfl) ?_
      refine e_get (a := 1) (u := .ref 9) rfl rfl rfl (fun _ => rfl) ?_
      refine e_ld (t := 0) rfl (Or.inl ⟨rfl, Or.inl rfl⟩) hL1 rfl ?_
      refine e_at (a := 9) (by omega) rfl (by decide) (Nat.le_of_ble_eq_true rfl) rfl ?_
      refine e_ld (t := 0) rfl (Or.inl ⟨rfl, Or.inl rfl⟩) hL2 rfl ?_
      refine e_ic (b := 1) rfl (by decide) (by decide) ?_
      refine e_add rfl ?_
      refine e_objO (h0 := fun t => (t, cc, none)) (a := 96) (as := [.int (yi (yrd t6 9 x1)), .int (yi (x2 + 1))]) rfl (by decide) rfl (Nat.le_of_ble_eq_true rfl) rfl (yP_mono (by omega) (hly _ _ _)) (fun M7 => ?_)
      refine e_ld (t := 2) rfl (Or.inr (Or.inl ⟨rfl, Or.inl rfl⟩)) hL0 rfl ?_
      refine e_ld (t := 2) rfl (Or.inr (Or.inl ⟨rfl, Or.inl rfl⟩)) hL0 rfl ?_
      refine e_get (a := 96) (u := .ref 1) rfl rfl rfl (fun _ => rfl) ?_
      refine e_get (a := 1) (u := .ref 10) rfl rfl rfl (fun _ => rfl) ?_
      refine e_ld (t := 0) rfl (Or.inl ⟨rfl, Or.inl rfl⟩) hL1 rfl ?_
      refine e_at (a := 10) (by omega) rfl (by decide) (Nat.le_of_ble_eq_true rfl) rfl ?_
      refine e_ld (t := 0) rfl (Or.inl ⟨rfl, Or.inl rfl⟩) hL2 rfl ?_
      refine e_ic (b := 1) rfl (by decide) (by decide) ?_
      refine e_add rfl ?_
      refine e_objO (h0 := fun t => (t, cc, none)) (a := 96) (as := [.int (yi (yrd M7 10 x1)), .int (yi (x2 + 1))]) rfl (by decide) rfl (Nat.le_of_ble_eq_true rfl) rfl (yP_mono (by omega) (hly _ _ _)) (fun M8 => ?_)
      refine e_go rfl ?_
      exact e_vret rfl
    refine s_case (Option.map (fun t : yM => (t, cc, none))) (by decide) (fun h9 => ?_) (fun h9 => ?_)
    · refine e_ld (t := 2) rfl (Or.inr (Or.inl ⟨rfl, Or.inl rfl⟩)) hL0 rfl ?_
      refine e_ld (t := 0) rfl (Or.inl ⟨rfl, Or.inl rfl⟩) hL1 rfl ?_
      refine e_ld (t := 0) rfl (Or.inl ⟨rfl, Or.inl rfl⟩) hL2 rfl ?_
      refine e_objO (h0 := (fun t : yM => (t, cc, none))) (h := (fun t : yM => (t, cc, none))) (a := 96) (as := [.int (yi x1), .int (yi x2)]) rfl (by decide) rfl (Nat.le_of_ble_eq_true rfl) rfl (t_57 (by omega) (by omega) hly hcc) (fun t10 => ?_)
      refine e_go rfl ?_
      exact e_vret rfl
    refine s_case (Option.map (fun t : yM => (t, cc, none))) (by decide) (fun h11 => ?_) (fun h11 => ?_)
    · refine e_ld (t := 2) rfl (Or.inr (Or.inl ⟨rfl, Or.inl rfl⟩)) hL0 rfl ?_
      refine e_ld (t := 0) rfl (Or.inl ⟨rfl, Or.inl rfl⟩) hL1 rfl ?_
      refine e_ld (t := 0) rfl (Or.inl ⟨rfl, Or.inl rfl⟩) hL2 rfl ?_
      refine e_objO (h0 := (fun t : yM => (t, cc, none))) (h := (fun t : yM => (t, cc, none))) (a := 96) (as := [.int (yi x1), .int (yi x2)]) rfl (by decide) rfl (Nat.le_of_ble_eq_true rfl) rfl (t_58 (by omega) (by omega) hly hcc) (fun t12 => ?_)
      refine e_go rfl ?_
      exact e_vret rfl
    refine s_case (Option.map (fun t : yM => (t, cc, none))) (by decide) (fun h13 => ?_) (fun h13 => ?_)
    · refine e_ld (t := 2) rfl (Or.inr (Or.inl ⟨rfl, Or.inl rfl⟩)) hL0 rfl ?_
      refine e_ld (t := 0) rfl (Or.inl ⟨rfl, Or.inl rfl⟩) hL1 rfl ?_
      refine e_ld (t := 0) rfl (Or.inl ⟨rfl, Or.inl rfl⟩) hL2 rfl ?_
      refine e_objO (h0 := (fun t : yM => (t, cc, none))) (h := (fun t : yM => (t, cc, none))) (a := 96) (as := [.int (yi x1), .int (yi x2)]) rfl (by decide) rfl (Nat.le_of_ble_eq_true rfl) rfl (t_51 (by omega) (by omega) hly hcc) (fun t14 => ?_)
      refine e_go rfl ?_
      exact e_vret rfl
    refine s_case (Option.map (fun t : yM => (t, cc, none))) (by decide) (fun h15 => ?_) (fun h15 => ?_)
    · refine e_ld (t := 2) rfl (Or.inr (Or.inl ⟨rfl, Or.inl rfl⟩)) hL0 rfl ?_
      refine e_ld (t := 0) rfl (Or.inl ⟨rfl, Or.inl rfl⟩) hL1 rfl ?_
      refine e_ld (t := 0) rfl (Or.inl ⟨rfl, Or.inl rfl⟩) hL2 rfl ?_
      refine e_objO (h0 := (fun t : yM => (t, cc, none))) (h := (fun t : yM => (t, cc, none))) (a := 96) (as := [.int (yi x1), .int (yi x2)]) rfl (by decide) rfl (Nat.le_of_ble_eq_true rfl) rfl (t_60 (by omega) (by omega) hly hcc) (fun t16 => ?_)
      refine e_go rfl ?_
      exact e_vret rfl
    refine s_case (Option.map (fun t : yM => (t, cc, none))) (by decide) (fun h17 => ?_) (fun h17 => ?_)
    · exact t_50_83 (by omega) (by omega) hly hcc hL0 hL1 hL2
    refine s_case (Option.map (fun t : yM => (t, cc, none))) (by decide) (fun h19 => ?_) (fun h19 => ?_)
    · exact t_50_83 (by omega) (by omega) hly hcc hL0 hL1 hL2
    refine s_case (Option.map (fun t : yM => (t, cc, none))) (by decide) (fun h20 => ?_) (fun h20 => ?_)
    · refine e_ld (t := 2) rfl (Or.inr (Or.inl ⟨rfl, Or.inl rfl⟩)) hL0 rfl ?_
      refine e_ld (t := 0) rfl (Or.inl ⟨rfl, Or.inl rfl⟩) hL1 rfl ?_
      refine e_ld (t := 0) rfl (Or.inl ⟨rfl, Or.inl rfl⟩) hL2 rfl ?_
      refine e_objO (h0 := (fun t : yM => (t, cc, none))) (h := (fun t : yM => (t, cc, none))) (a := 96) (as := [.int (yi x1), .int (yi x2)]) rfl (by decide) rfl (Nat.le_of_ble_eq_true rfl) rfl (t_63 (by omega) (by omega) hly hcc) (fun t21 => ?_)
      refine e_go rfl ?_
      exact e_vret rfl
    refine s_case (Option.map (fun t : yM => (t, cc, none))) (by decide) (fun h22 => ?_) (fun h22 => ?_)
    · exact t_50_83 (by omega) (by omega) hly hcc hL0 hL1 hL2
    refine s_case (Option.map (fun t : yM => (t, cc, none))) (by decide) (fun h23 => ?_) (fun h23 => ?_)
    · refine e_ld (t := 2) rfl (Or.inr (Or.inl ⟨rfl, Or.inl rfl⟩)) hL0 rfl ?_
      refine e_ld (t := 0) rfl (Or.inl ⟨rfl, Or.inl rfl⟩) hL1 rfl ?_
      refine e_ld (t := 0) rfl (Or.inl ⟨rfl, Or.inl rfl⟩) hL2 rfl ?_
      refine e_objO (h0 := (fun t : yM => (t, cc, none))) (h := (fun t : yM => (t, cc, none))) (a := 96) (as := [.int (yi x1), .int (yi x2)]) rfl (by decide) rfl (Nat.le_of_ble_eq_true rfl) rfl (t_64 (by omega) (by omega) hly hcc) (fun t24 => ?_)
      refine e_go rfl ?_
      exact e_vret rfl
    refine s_end ?_
    exact t_50_83 (by omega) (by omega) hly hcc hL0 hL1 hL2
  · exact e_vret rfl
def f_50_9 (N : Nat) (ly : yM → Int → Int → Option yM) (cc : Nat) (M : yM) (x1 : Int) (x2 : Int) : Option (yM) := (ylet (yU M cc 1 1) fun M2 => (f_50_13 N ly cc M2 x1 x2))
theorem t_50_9 {sc : List Int32} {dd cc : Nat} {dl : Nat} {N : Nat} {ly : yM → Int → Int → Option yM} {M : yM} {x1 : Int} {x2 : Int} (hd : 6 ≤ dd) (hdl : dl + 2 ≤ dd) (hly : ∀ M a b, yP sc dl 50 [.ref 96, .int (yi a), .int (yi b)] M cc (Option.map (fun t => (t, cc, none)) (ly M a b))) (hcc : pC cc) {L : zL} (hL0 : L 0 = some (.ref 96)) (hL1 : L 1 = some (.int (yi x1))) (hL2 : L 2 = some (.int (yi x2))) : yW sc zg_c50 zg_w50 dd 9 L [] M cc ((Option.map (fun t : yM => (t, cc, none))) (f_50_9 N ly cc M x1 x2)) := by
  unfold f_50_9
  refine e_ld (t := 2) rfl (Or.inr (Or.inl ⟨rfl, Or.inl rfl⟩)) hL0 rfl ?_
  refine e_get (a := 96) (u := .ref cc) rfl rfl rfl (fun _ => rfl) ?_
  refine e_ic (b := 1) rfl (by decide) (by decide) ?_
  refine e_put (a := cc) rfl (Or.inl rfl) (fC hcc) rfl (Or.inr ⟨rfl, Or.inr rfl⟩) ?_
  refine y_let (Option.map (fun t : yM => (t, cc, none))) (fun M2 => ?_)
  exact t_50_13 (by omega) (by omega) hly hcc hL0 hL1 hL2
def f_50 (N : Nat) (ly : yM → Int → Int → Option yM) (cc : Nat) (M : yM) (x1 : Int) (x2 : Int) : Option (yM) := (cond (yrel 2 x2 0) (f_50_9 N ly cc M x1 x2) (cond (yrel 2 (x2 + 1) 91) (f_50_13 N ly cc M x1 x2) (f_50_9 N ly cc M x1 x2)))
theorem t_50 {sc : List Int32} {dd cc : Nat} {dl : Nat} {N : Nat} {ly : yM → Int → Int → Option yM} {M : yM} {x1 : Int} {x2 : Int} (hd : 7 ≤ dd) (hdl : dl + 3 ≤ dd) (hly : ∀ M a b, yP sc dl 50 [.ref 96, .int (yi a), .int (yi b)] M cc (Option.map (fun t => (t, cc, none)) (ly M a b))) (hcc : pC cc) : yP sc dd 50 [.ref 96, .int (yi x1), .int (yi x2)] M cc ((Option.map (fun t : yM => (t, cc, none))) (f_50 N ly cc M x1 x2)) := by
  obtain ⟨dd, rfl⟩ : ∃ e, dd = e + 1 := ⟨dd - 1, by omega⟩
  refine e_meth (C := zg_c50) (W := zg_w50) (ml := 3) rfl rfl (Nat.le_of_ble_eq_true rfl) ?_
  unfold f_50
  refine e_ld (t := 0) rfl (Or.inl ⟨rfl, Or.inl rfl⟩) rfl rfl ?_
  refine e_br (Option.map (fun t : yM => (t, cc, none))) (q := 2) (by decide) rfl (fun h1 => ?_) (fun h1 => ?_)
  · exact t_50_9 (by omega) (by omega) hly hcc rfl rfl rfl
  · refine e_ld (t := 0) rfl (Or.inl ⟨rfl, Or.inl rfl⟩) rfl rfl ?_
    refine e_ic (b := 1) rfl (by decide) (by decide) ?_
    refine e_add rfl ?_
    refine e_ld (t := 2) rfl (Or.inr (Or.inl ⟨rfl, Or.inl rfl⟩)) rfl rfl ?_
    refine e_get (a := 96) (u := .ref 97) rfl rfl rfl (fun _ => rfl) ?_
    refine e_alen (a := 97) (m := 91) rfl (fun _ _ _ _ => rfl) (by decide) (by decide) ?_
    refine e_cmp (Option.map (fun t : yM => (t, cc, none))) (q := 2) (by decide) rfl (fun h25 => ?_) (fun h25 => ?_)
    · exact t_50_13 (by omega) (by omega) hly hcc rfl rfl rfl
    · exact t_50_9 (by omega) (by omega) hly hcc rfl rfl rfl
/-- lay. -/
def fy_50 (N : Nat) (cc : Nat) : Nat → yM → Int → Int → Option yM
  | 0, _, _, _ => none
  | r + 1, M, x1, x2 => f_50 N (fy_50 N cc r) cc M x1 x2
def f_200 (N : Nat) (cc : Nat) (M : yM) (x1 x2 : Int) : Option yM := fy_50 N cc 100 M x1 x2
theorem ty_50 {sc : List Int32} {cc N : Nat} (hcc : pC cc) : ∀ (r : Nat) {M : yM} {x1 x2 : Int}, yP sc (7 + 3 * r) 50 [.ref 96, .int (yi x1), .int (yi x2)] M cc (Option.map (fun t => (t, cc, none)) (fy_50 N cc r M x1 x2)) := by
  intro r
  induction r with
  | zero =>
    intro M x1 x2 M' cc' v hr
    cases hr
  | succ r ih =>
    intro M x1 x2
    exact t_50 (dl := 7 + 3 * r) (by omega) (by omega) (fun _ _ _ => ih) hcc
theorem t_200 {sc : List Int32} {dd cc : Nat} {N : Nat} {M : yM} {x1 : Int} {x2 : Int} (hd : 307 ≤ dd) (hcc : pC cc) : yP sc dd 50 [.ref 96, .int (yi x1), .int (yi x2)] M cc (Option.map (fun t => (t, cc, none)) (f_200 N cc M x1 x2)) :=
  yP_mono hd (ty_50 hcc 100)
/-- UnwindTower$Compiler.layProcedure -/
def f_59 (N : Nat) (cc : Nat) (M : yM) (x1 : Int) (x2 : Int) : Option (yM × Nat × Int) := (ybo x2 (ylet (yU M 96 14 x2) fun M2 => (ylet (f_41 M2 (24 + 9 * ypz 8 x1)) fun t3 => (ylet (yU t3 (24 + 9 * ypz 8 x1) 11 (t3 21 1)) fun M4 => (ylet (yU M4 96 7 0) fun M5 => (ylet (yU M5 96 10 0) fun M6 => (ylet (yU M6 (105 + 1 * ypz 91 0) 0 (-1)) fun M7 => (ylet (yU M7 (105 + 1 * ypz 91 0) 1 0) fun M8 => (ylet (yU M8 (105 + 1 * ypz 91 0) 2 0) fun M9 => (ylet (yU M9 (105 + 1 * ypz 91 0) 3 (-1)) fun M10 => (ylet (yU M10 (105 + 1 * ypz 91 0) 4 0) fun M11 => (ylet (yU M11 (105 + 1 * ypz 91 0) 5 (-1)) fun M12 => (Option.bind (f_200 N (24 + 9 * ypz 8 x1) M12 (yrd M12 6 x1) 0) fun t13 => (ylet (f_45 (24 + 9 * ypz 8 x1) t13 7 0 0 0 (-1) (-1)) fun t14 => (ylet (f_45 (24 + 9 * ypz 8 x1) t14 8 0 0 0 (-1) (-1)) fun t15 => (ylet (yU t15 (24 + 9 * ypz 8 x1) 12 ((t15 21 1) - (t15 (24 + 9 * ypz 8 x1) 11))) fun M16 => (cond (yrel 1 (M16 (24 + 9 * ypz 8 x1) 1) 0) (some (M16, (24 + 9 * ypz 8 x1), 0)) (some (M16, (24 + 9 * ypz 8 x1), 1)))))))))))))))))))
theorem t_59 {sc : List Int32} {dd cc : Nat} {N : Nat} {M : yM} {x1 : Int} {x2 : Int} (hd : 309 ≤ dd) : yP sc dd 59 [.ref 96, .int (yi x1), .int (yi x2)] M cc ((Option.map (fun t : yM × Nat × Int => (t.1, t.2.1, some (.int (yi t.2.2))))) (f_59 N cc M x1 x2)) := by
  obtain ⟨dd, rfl⟩ : ∃ e, dd = e + 1 := ⟨dd - 1, by omega⟩
  refine e_meth (C := zg_c59) (W := zg_w59) (ml := 4) rfl rfl (Nat.le_of_ble_eq_true rfl) ?_
  unfold f_59
  refine e_ld (t := 2) rfl (Or.inr (Or.inl ⟨rfl, Or.inl rfl⟩)) rfl rfl ?_
  refine e_ld (t := 0) rfl (Or.inl ⟨rfl, Or.inl rfl⟩) rfl rfl ?_
  refine e_bo (b := x2) (fun hb1 => ?_)
  refine e_put (a := 96) rfl (Or.inl rfl) rfl rfl (Or.inr ⟨rfl, hb1⟩) ?_
  refine y_let (Option.map (fun t : yM × Nat × Int => (t.1, t.2.1, some (.int (yi t.2.2))))) (fun M2 => ?_)
  refine e_ld (t := 2) rfl (Or.inr (Or.inl ⟨rfl, Or.inl rfl⟩)) rfl rfl ?_
  refine e_ld (t := 2) rfl (Or.inr (Or.inl ⟨rfl, Or.inl rfl⟩)) rfl rfl ?_
  refine e_get (a := 96) (u := .ref 23) rfl rfl rfl (fun _ => rfl) ?_
  refine e_ld (t := 0) rfl (Or.inl ⟨rfl, Or.inl rfl⟩) rfl rfl ?_
  refine e_stat (as := [.ref 23, .int (yi x1)]) rfl (by decide) rfl (Nat.le_of_ble_eq_true rfl) (t_5 (by omega)) ?_
  refine e_putc (c0 := (24 + 9 * ypz 8 x1)) rfl (Or.inl rfl) ?_
  refine e_ld (t := 2) rfl (Or.inr (Or.inl ⟨rfl, Or.inl rfl⟩)) rfl rfl ?_
  refine e_get (a := 96) (u := .ref (24 + 9 * ypz 8 x1)) rfl rfl rfl (fun _ => rfl) ?_
  refine e_objP (Option.map (fun t : yM × Nat × Int => (t.1, t.2.1, some (.int (yi t.2.2))))) (h0 := (fun t : yM => (t, (24 + 9 * ypz 8 x1), none))) (a := (24 + 9 * ypz 8 x1)) (as := []) rfl (by decide) rfl (Nat.le_of_ble_eq_true rfl) (fC ⟨_, ypz_lt (by decide), rfl⟩) (t_41 (by omega) ⟨_, ypz_lt (by decide), rfl⟩) (fun t3 => ?_)
  refine e_ld (t := 2) rfl (Or.inr (Or.inl ⟨rfl, Or.inl rfl⟩)) rfl rfl ?_
  refine e_get (a := 96) (u := .ref (24 + 9 * ypz 8 x1)) rfl rfl rfl (fun _ => rfl) ?_
  refine e_ld (t := 2) rfl (Or.inr (Or.inl ⟨rfl, Or.inl rfl⟩)) rfl rfl ?_
  refine e_get (a := 96) (u := .ref 21) rfl rfl rfl (fun _ => rfl) ?_
  refine e_get (a := 21) (u := .int (yi (t3 21 1))) rfl rfl rfl (fun _ => rfl) ?_
  refine e_put (a := (24 + 9 * ypz 8 x1)) rfl (Or.inl rfl) (fC ⟨_, ypz_lt (by decide), rfl⟩) rfl (Or.inl rfl) ?_
  refine y_let (Option.map (fun t : yM × Nat × Int => (t.1, t.2.1, some (.int (yi t.2.2))))) (fun M4 => ?_)
  refine e_ld (t := 2) rfl (Or.inr (Or.inl ⟨rfl, Or.inl rfl⟩)) rfl rfl ?_
  refine e_ic (b := 0) rfl (by decide) (by decide) ?_
  refine e_put (a := 96) rfl (Or.inl rfl) rfl rfl (Or.inl rfl) ?_
  refine y_let (Option.map (fun t : yM × Nat × Int => (t.1, t.2.1, some (.int (yi t.2.2))))) (fun M5 => ?_)
  refine e_ld (t := 2) rfl (Or.inr (Or.inl ⟨rfl, Or.inl rfl⟩)) rfl rfl ?_
  refine e_ic (b := 0) rfl (by decide) (by decide) ?_
  refine e_put (a := 96) rfl (Or.inl rfl) rfl rfl (Or.inl rfl) ?_
  refine y_let (Option.map (fun t : yM × Nat × Int => (t.1, t.2.1, some (.int (yi t.2.2))))) (fun M6 => ?_)
  refine e_ld (t := 2) rfl (Or.inr (Or.inl ⟨rfl, Or.inl rfl⟩)) rfl rfl ?_
  refine e_ic (b := 0) rfl (by decide) (by decide) ?_
  refine e_obj (a := 96) (as := [.int (yi 0)]) rfl (by decide) rfl (Nat.le_of_ble_eq_true rfl) rfl (t_68 (by omega)) ?_
  refine e_st (t := 2) rfl (Or.inr ⟨rfl, Or.inl rfl⟩) rfl ?_
  refine e_ld (t := 2) rfl (Or.inr (Or.inl ⟨rfl, Or.inl rfl⟩)) l_s rfl ?_
  refine e_ic (b := (-1)) rfl (by decide) (by decide) ?_
  refine e_put (a := (105 + 1 * ypz 91 0)) rfl (Or.inl rfl) (fP ⟨_, ypz_lt (by decide), rfl⟩) rfl (Or.inl rfl) ?_
  refine y_let (Option.map (fun t : yM × Nat × Int => (t.1, t.2.1, some (.int (yi t.2.2))))) (fun M7 => ?_)
  refine e_ld (t := 2) rfl (Or.inr (Or.inl ⟨rfl, Or.inl rfl⟩)) l_s rfl ?_
  refine e_ic (b := 0) rfl (by decide) (by decide) ?_
  refine e_put (a := (105 + 1 * ypz 91 0)) rfl (Or.inl rfl) (fP ⟨_, ypz_lt (by decide), rfl⟩) rfl (Or.inl rfl) ?_
  refine y_let (Option.map (fun t : yM × Nat × Int => (t.1, t.2.1, some (.int (yi t.2.2))))) (fun M8 => ?_)
  refine e_ld (t := 2) rfl (Or.inr (Or.inl ⟨rfl, Or.inl rfl⟩)) l_s rfl ?_
  refine e_ic (b := 0) rfl (by decide) (by decide) ?_
  refine e_put (a := (105 + 1 * ypz 91 0)) rfl (Or.inl rfl) (fP ⟨_, ypz_lt (by decide), rfl⟩) rfl (Or.inl rfl) ?_
  refine y_let (Option.map (fun t : yM × Nat × Int => (t.1, t.2.1, some (.int (yi t.2.2))))) (fun M9 => ?_)
  refine e_ld (t := 2) rfl (Or.inr (Or.inl ⟨rfl, Or.inl rfl⟩)) l_s rfl ?_
  refine e_ic (b := (-1)) rfl (by decide) (by decide) ?_
  refine e_put (a := (105 + 1 * ypz 91 0)) rfl (Or.inl rfl) (fP ⟨_, ypz_lt (by decide), rfl⟩) rfl (Or.inl rfl) ?_
  refine y_let (Option.map (fun t : yM × Nat × Int => (t.1, t.2.1, some (.int (yi t.2.2))))) (fun M10 => ?_)
  refine e_ld (t := 2) rfl (Or.inr (Or.inl ⟨rfl, Or.inl rfl⟩)) l_s rfl ?_
  refine e_ic (b := 0) rfl (by decide) (by decide) ?_
  refine e_put (a := (105 + 1 * ypz 91 0)) rfl (Or.inl rfl) (fP ⟨_, ypz_lt (by decide), rfl⟩) rfl (Or.inl rfl) ?_
  refine y_let (Option.map (fun t : yM × Nat × Int => (t.1, t.2.1, some (.int (yi t.2.2))))) (fun M11 => ?_)
  refine e_ld (t := 2) rfl (Or.inr (Or.inl ⟨rfl, Or.inl rfl⟩)) l_s rfl ?_
  refine e_ic (b := (-1)) rfl (by decide) (by decide) ?_
  refine e_put (a := (105 + 1 * ypz 91 0)) rfl (Or.inl rfl) (fP ⟨_, ypz_lt (by decide), rfl⟩) rfl (Or.inl rfl) ?_
  refine y_let (Option.map (fun t : yM × Nat × Int => (t.1, t.2.1, some (.int (yi t.2.2))))) (fun M12 => ?_)
  refine e_ld (t := 2) rfl (Or.inr (Or.inl ⟨rfl, Or.inl rfl⟩)) (l_kr (by decide) rfl) rfl ?_
  refine e_ld (t := 2) rfl (Or.inr (Or.inl ⟨rfl, Or.inl rfl⟩)) (l_kr (by decide) rfl) rfl ?_
  refine e_get (a := 96) (u := .ref 1) rfl rfl rfl (fun _ => rfl) ?_
  refine e_get (a := 1) (u := .ref 6) rfl rfl rfl (fun _ => rfl) ?_
  refine e_ld (t := 0) rfl (Or.inl ⟨rfl, Or.inl rfl⟩) (l_ki (by decide) rfl) rfl ?_
  refine e_at (a := 6) (by omega) rfl (by decide) (Nat.le_of_ble_eq_true rfl) rfl ?_
  refine e_ic (b := 0) rfl (by decide) (by decide) ?_
  refine e_objO (h0 := (fun t : yM => (t, (24 + 9 * ypz 8 x1), none))) (h := (fun t : yM × Nat × Int => (t.1, t.2.1, some (.int (yi t.2.2))))) (a := 96) (as := [.int (yi (yrd M12 6 x1)), .int (yi 0)]) rfl (by decide) rfl (Nat.le_of_ble_eq_true rfl) rfl (t_200 (by omega) ⟨_, ypz_lt (by decide), rfl⟩) (fun t13 => ?_)
  refine e_ld (t := 2) rfl (Or.inr (Or.inl ⟨rfl, Or.inl rfl⟩)) (l_kr (by decide) rfl) rfl ?_
  refine e_ic (b := 7) rfl (by decide) (by decide) ?_
  refine e_ic (b := 0) rfl (by decide) (by decide) ?_
  refine e_ic (b := 0) rfl (by decide) (by decide) ?_
  refine e_ic (b := 0) rfl (by decide) (by decide) ?_
  refine e_ic (b := (-1)) rfl (by decide) (by decide) ?_
  refine e_ic (b := (-1)) rfl (by decide) (by decide) ?_
  refine e_objP (Option.map (fun t : yM × Nat × Int => (t.1, t.2.1, some (.int (yi t.2.2))))) (h0 := (fun t : yM => (t, (24 + 9 * ypz 8 x1), none))) (a := 96) (as := [.int (yi 7), .int (yi 0), .int (yi 0), .int (yi 0), .int (yi (-1)), .int (yi (-1))]) rfl (by decide) rfl (Nat.le_of_ble_eq_true rfl) rfl (t_45 (by omega) ⟨_, ypz_lt (by decide), rfl⟩) (fun t14 => ?_)
  refine e_ld (t := 2) rfl (Or.inr (Or.inl ⟨rfl, Or.inl rfl⟩)) (l_kr (by decide) rfl) rfl ?_
  refine e_ic (b := 8) rfl (by decide) (by decide) ?_
  refine e_ic (b := 0) rfl (by decide) (by decide) ?_
  refine e_ic (b := 0) rfl (by decide) (by decide) ?_
  refine e_ic (b := 0) rfl (by decide) (by decide) ?_
  refine e_ic (b := (-1)) rfl (by decide) (by decide) ?_
  refine e_ic (b := (-1)) rfl (by decide) (by decide) ?_
  refine e_objP (Option.map (fun t : yM × Nat × Int => (t.1, t.2.1, some (.int (yi t.2.2))))) (h0 := (fun t : yM => (t, (24 + 9 * ypz 8 x1), none))) (a := 96) (as := [.int (yi 8), .int (yi 0), .int (yi 0), .int (yi 0), .int (yi (-1)), .int (yi (-1))]) rfl (by decide) rfl (Nat.le_of_ble_eq_true rfl) rfl (t_45 (by omega) ⟨_, ypz_lt (by decide), rfl⟩) (fun t15 => ?_)
  refine e_ld (t := 2) rfl (Or.inr (Or.inl ⟨rfl, Or.inl rfl⟩)) (l_kr (by decide) rfl) rfl ?_
  refine e_get (a := 96) (u := .ref (24 + 9 * ypz 8 x1)) rfl rfl rfl (fun _ => rfl) ?_
  refine e_ld (t := 2) rfl (Or.inr (Or.inl ⟨rfl, Or.inl rfl⟩)) (l_kr (by decide) rfl) rfl ?_
  refine e_get (a := 96) (u := .ref 21) rfl rfl rfl (fun _ => rfl) ?_
  refine e_get (a := 21) (u := .int (yi (t15 21 1))) rfl rfl rfl (fun _ => rfl) ?_
  refine e_ld (t := 2) rfl (Or.inr (Or.inl ⟨rfl, Or.inl rfl⟩)) (l_kr (by decide) rfl) rfl ?_
  refine e_get (a := 96) (u := .ref (24 + 9 * ypz 8 x1)) rfl rfl rfl (fun _ => rfl) ?_
  refine e_get (a := (24 + 9 * ypz 8 x1)) (u := .int (yi (t15 (24 + 9 * ypz 8 x1) 11))) rfl (fC ⟨_, ypz_lt (by decide), rfl⟩) rfl (fun _ => rfl) ?_
  refine e_sub rfl ?_
  refine e_put (a := (24 + 9 * ypz 8 x1)) rfl (Or.inl rfl) (fC ⟨_, ypz_lt (by decide), rfl⟩) rfl (Or.inl rfl) ?_
  refine y_let (Option.map (fun t : yM × Nat × Int => (t.1, t.2.1, some (.int (yi t.2.2))))) (fun M16 => ?_)
  refine e_ld (t := 2) rfl (Or.inr (Or.inl ⟨rfl, Or.inl rfl⟩)) (l_kr (by decide) rfl) rfl ?_
  refine e_get (a := 96) (u := .ref (24 + 9 * ypz 8 x1)) rfl rfl rfl (fun _ => rfl) ?_
  refine e_get (a := (24 + 9 * ypz 8 x1)) (u := .int (yi (M16 (24 + 9 * ypz 8 x1) 1))) rfl (fC ⟨_, ypz_lt (by decide), rfl⟩) rfl (fun _ => rfl) ?_
  refine e_br (Option.map (fun t : yM × Nat × Int => (t.1, t.2.1, some (.int (yi t.2.2))))) (q := 1) (by decide) rfl (fun h17 => ?_) (fun h17 => ?_)
  · refine e_ic (b := 0) rfl (by decide) (by decide) ?_
    exact e_iret rfl (Or.inr ⟨rfl, Or.inl rfl⟩)
  · refine e_ic (b := 1) rfl (by decide) (by decide) ?_
    refine e_go rfl ?_
    exact e_iret rfl (Or.inr ⟨rfl, Or.inr rfl⟩)
/-- UnwindTower$Faults.find -/
def f_74_33 (N : Nat) (ih5 : yM → Int → Option (yM)) (M : yM) (x1 : Int) : Option (yM) := (ih5 M (x1 + 1))
theorem t_74_33 {sc : List Int32} {dd cc : Nat} {N : Nat} {ih5 : yM → Int → Option (yM)} {M : yM} {x1 : Int} (hd : 5 ≤ dd) (ih5_ : ∀ {M : yM} {x1 : Int} {L : zL} (hL0 : L 0 = some (.ref 18)) (hL1 : L 1 = some (.int (yi x1))), yW sc zg_c74 zg_w74 dd 5 L [] M cc ((Option.map (fun t : yM => (t, cc, none))) (ih5 M x1))) {L : zL} (hL0 : L 0 = some (.ref 18)) (hL1 : L 1 = some (.int (yi x1))) : yW sc zg_c74 zg_w74 dd 33 L [] M cc ((Option.map (fun t : yM => (t, cc, none))) (f_74_33 N ih5 M x1)) := by
  unfold f_74_33
  refine e_inc (d := 1) rfl hL1 (by decide) ?_
  refine e_go rfl ?_
  exact ih5_ (l_kr (by decide) hL0) l_s
def f_74_5 (N : Nat) : Nat → yM → Int → Option (yM)
  | 0, _, _ => none
  | n + 1, M, x1 => (cond (yrel 3 x1 (M 1 4)) (some M) (ylet (yrd M 6 x1) fun v3 => (cond (yrel 1 v3 (-1)) (Option.bind (f_75 N M x1 v3) fun t5 => (Option.bind (f_76 N t5 x1) fun t6 => (f_74_33 N (f_74_5 N n) t6 x1))) (ylet (f_71 M 10 x1 (-1) (-1)) fun t7 => (f_74_33 N (f_74_5 N n) t7 x1)))))
theorem t_74_5 {sc : List Int32} {dd cc : Nat} {N : Nat} (hd : 5 ≤ dd) : ∀ (n : Nat) {M : yM} {x1 : Int} {L : zL} (hL0 : L 0 = some (.ref 18)) (hL1 : L 1 = some (.int (yi x1))), yW sc zg_c74 zg_w74 dd 5 L [] M cc ((Option.map (fun t : yM => (t, cc, none))) (f_74_5 N n M x1)) := by
  intro n
  induction n with
  | zero => intros; exact y_none
  | succ n IH =>
    intro M x1 L hL0 hL1
    rw [f_74_5]
    refine e_ld (t := 0) rfl (Or.inl ⟨rfl, Or.inl rfl⟩) hL1 rfl ?_
    refine e_ld (t := 2) rfl (Or.inr (Or.inl ⟨rfl, Or.inl rfl⟩)) hL0 rfl ?_
    refine e_get (a := 18) (u := .ref 1) rfl rfl rfl (fun _ => rfl) ?_
    refine e_get (a := 1) (u := .int (yi (M 1 4))) rfl rfl rfl (fun _ => rfl) ?_
    refine e_cmp (Option.map (fun t : yM => (t, cc, none))) (q := 3) (by decide) rfl (fun h2 => ?_) (fun h2 => ?_)
    · exact e_vret rfl
    · refine e_ld (t := 2) rfl (Or.inr (Or.inl ⟨rfl, Or.inl rfl⟩)) hL0 rfl ?_
      refine e_get (a := 18) (u := .ref 1) rfl rfl rfl (fun _ => rfl) ?_
      refine e_get (a := 1) (u := .ref 6) rfl rfl rfl (fun _ => rfl) ?_
      refine e_ld (t := 0) rfl (Or.inl ⟨rfl, Or.inl rfl⟩) hL1 rfl ?_
      refine e_at (a := 6) (by omega) rfl (by decide) (Nat.le_of_ble_eq_true rfl) rfl ?_
      refine e_stl (g := (Option.map (fun t : yM => (t, cc, none)))) rfl (Or.inl rfl) (fun v3 => ?_)
      refine e_ld (t := 0) rfl (Or.inl ⟨rfl, Or.inl rfl⟩) l_s rfl ?_
      refine e_ic (b := (-1)) rfl (by decide) (by decide) ?_
      refine e_cmp (Option.map (fun t : yM => (t, cc, none))) (q := 1) (by decide) rfl (fun h4 => ?_) (fun h4 => ?_)
      · refine e_ld (t := 2) rfl (Or.inr (Or.inl ⟨rfl, Or.inl rfl⟩)) (l_kr (by decide) hL0) rfl ?_
        refine e_ld (t := 0) rfl (Or.inl ⟨rfl, Or.inl rfl⟩) (l_ki (by decide) hL1) rfl ?_
        refine e_ld (t := 0) rfl (Or.inl ⟨rfl, Or.inl rfl⟩) l_s rfl ?_
        refine e_objO (h0 := (fun t : yM => (t, cc, none))) (h := (fun t : yM => (t, cc, none))) (a := 18) (as := [.int (yi x1), .int (yi v3)]) rfl (by decide) rfl (Nat.le_of_ble_eq_true rfl) rfl (t_75 (by omega)) (fun t5 => ?_)
        refine e_ld (t := 2) rfl (Or.inr (Or.inl ⟨rfl, Or.inl rfl⟩)) (l_kr (by decide) hL0) rfl ?_
        refine e_ld (t := 0) rfl (Or.inl ⟨rfl, Or.inl rfl⟩) (l_ki (by decide) hL1) rfl ?_
        refine e_objO (h0 := (fun t : yM => (t, cc, none))) (h := (fun t : yM => (t, cc, none))) (a := 18) (as := [.int (yi x1)]) rfl (by decide) rfl (Nat.le_of_ble_eq_true rfl) rfl (t_76 (by omega)) (fun t6 => ?_)
        exact t_74_33 (by omega) IH (l_kr (by decide) hL0) (l_ki (by decide) hL1)
      · refine e_ld (t := 2) rfl (Or.inr (Or.inl ⟨rfl, Or.inl rfl⟩)) (l_kr (by decide) hL0) rfl ?_
        refine e_ic (b := 10) rfl (by decide) (by decide) ?_
        refine e_ld (t := 0) rfl (Or.inl ⟨rfl, Or.inl rfl⟩) (l_ki (by decide) hL1) rfl ?_
        refine e_ic (b := (-1)) rfl (by decide) (by decide) ?_
        refine e_ic (b := (-1)) rfl (by decide) (by decide) ?_
        refine e_objP (Option.map (fun t : yM => (t, cc, none))) (h0 := (fun t : yM => (t, cc, none))) (a := 18) (as := [.int (yi 10), .int (yi x1), .int (yi (-1)), .int (yi (-1))]) rfl (by decide) rfl (Nat.le_of_ble_eq_true rfl) rfl (t_71 (by omega)) (fun t7 => ?_)
        refine e_go rfl ?_
        exact t_74_33 (by omega) IH (l_kr (by decide) hL0) (l_ki (by decide) hL1)
def f_74 (N : Nat) (M : yM) : Option (yM) := (ylet (yU M 18 4 0) fun M1 => (f_74_5 N N M1 0))
theorem t_74 {sc : List Int32} {dd cc : Nat} {N : Nat} {M : yM} (hd : 6 ≤ dd) : yP sc dd 74 [.ref 18] M cc ((Option.map (fun t : yM => (t, cc, none))) (f_74 N M)) := by
  obtain ⟨dd, rfl⟩ : ∃ e, dd = e + 1 := ⟨dd - 1, by omega⟩
  refine e_meth (C := zg_c74) (W := zg_w74) (ml := 3) rfl rfl (Nat.le_of_ble_eq_true rfl) ?_
  unfold f_74
  refine e_ld (t := 2) rfl (Or.inr (Or.inl ⟨rfl, Or.inl rfl⟩)) rfl rfl ?_
  refine e_ic (b := 0) rfl (by decide) (by decide) ?_
  refine e_put (a := 18) rfl (Or.inl rfl) rfl rfl (Or.inl rfl) ?_
  refine y_let (Option.map (fun t : yM => (t, cc, none))) (fun M1 => ?_)
  refine e_ic (b := 0) rfl (by decide) (by decide) ?_
  refine e_st (t := 0) rfl (Or.inl ⟨rfl, Or.inl rfl⟩) rfl ?_
  exact t_74_5 (by omega) N (l_kr (by decide) rfl) l_s
/-- UnwindTower$Machine.performNext -/
def f_90 (N : Nat) (M : yM) (r0 : Nat) : Option (yM) := (cond (yrel 2 (M r0 12) 1) (ylet (yU M r0 15 0) fun M2 => some M2) (cond (yrel 5 (M r0 12) 30) (yox ((M r0 12) - 1) 30 fun e4 => (ylet (M (r0 + 20 + 3 * e4) 1) fun v6 => (cond (yrel 2 v6 0) (ylet (yU M r0 15 0) fun M8 => some M8) (cond (yrel 3 v6 (M (24 + 9 * ypz 8 (M (r0 + 20 + 3 * e4) 0)) 0)) (ylet (yU M r0 15 0) fun M10 => some M10) (Option.bind (f_81 N M r0 (24 + 9 * ypz 8 (M (r0 + 20 + 3 * e4) 0)) v6) fun t11 => (cond (yrel 1 (t11.2) 0) (cond (yrel 0 (f_42 t11.1 (yrd t11.1 ((24 + 9 * ypz 8 (M (r0 + 20 + 3 * e4) 0)) + 1) v6)) 0) (Option.bind (f_92 t11.1 r0 (24 + 9 * ypz 8 (M (r0 + 20 + 3 * e4) 0)) v6 (r0 + 20 + 3 * e4)) fun t14 => some t14) (Option.bind (f_91 N t11.1 r0 (24 + 9 * ypz 8 (M (r0 + 20 + 3 * e4) 0)) v6 (r0 + 20 + 3 * e4)) fun t15 => some t15)) (ylet (yU t11.1 r0 15 0) fun M16 => some M16))))))) (ylet (yU M r0 15 0) fun M17 => some M17)))
theorem t_90 {sc : List Int32} {dd cc : Nat} {N : Nat} {M : yM} {r0 : Nat} (hd : 6 ≤ dd) (hr0 : pM r0) : yP sc dd 90 [.ref r0] M cc ((Option.map (fun t : yM => (t, cc, none))) (f_90 N M r0)) := by
  obtain ⟨dd, rfl⟩ : ∃ e, dd = e + 1 := ⟨dd - 1, by omega⟩
  refine e_meth (C := zg_c90) (W := zg_w90) (ml := 4) rfl rfl (Nat.le_of_ble_eq_true rfl) ?_
  unfold f_90
  refine e_ld (t := 2) rfl (Or.inr (Or.inl ⟨rfl, Or.inl rfl⟩)) rfl rfl ?_
  refine e_get (a := r0) (u := .int (yi (M r0 12))) rfl (fM hr0) rfl (fun _ => rfl) ?_
  refine e_ic (b := 1) rfl (by decide) (by decide) ?_
  refine e_cmp (Option.map (fun t : yM => (t, cc, none))) (q := 2) (by decide) rfl (fun h1 => ?_) (fun h1 => ?_)
  · refine e_ld (t := 2) rfl (Or.inr (Or.inl ⟨rfl, Or.inl rfl⟩)) rfl rfl ?_
    refine e_ic (b := 0) rfl (by decide) (by decide) ?_
    refine e_put (a := r0) rfl (Or.inl rfl) (fM hr0) rfl (Or.inr ⟨rfl, Or.inl rfl⟩) ?_
    refine y_let (Option.map (fun t : yM => (t, cc, none))) (fun M2 => ?_)
    exact e_vret rfl
  · refine e_ld (t := 2) rfl (Or.inr (Or.inl ⟨rfl, Or.inl rfl⟩)) rfl rfl ?_
    refine e_get (a := r0) (u := .int (yi (M r0 12))) rfl (fM hr0) rfl (fun _ => rfl) ?_
    refine e_ld (t := 2) rfl (Or.inr (Or.inl ⟨rfl, Or.inl rfl⟩)) rfl rfl ?_
    refine e_get (a := r0) (u := .ref (r0 + 19)) rfl (fM hr0) rfl (fun _ => rfl) ?_
    refine e_alen (a := (r0 + 19)) (m := 30) rfl (fun _ _ _ _ => by rw [yst_refs (qM hr0)]; rfl) (qM_le hr0) (by decide) ?_
    refine e_cmp (Option.map (fun t : yM => (t, cc, none))) (q := 5) (by decide) rfl (fun h3 => ?_) (fun h3 => ?_)
    · refine e_ld (t := 2) rfl (Or.inr (Or.inl ⟨rfl, Or.inl rfl⟩)) rfl rfl ?_
      refine e_get (a := r0) (u := .ref (r0 + 19)) rfl (fM hr0) rfl (fun _ => rfl) ?_
      refine e_ld (t := 2) rfl (Or.inr (Or.inl ⟨rfl, Or.inl rfl⟩)) rfl rfl ?_
      refine e_get (a := r0) (u := .int (yi (M r0 12))) rfl (fM hr0) rfl (fun _ => rfl) ?_
      refine e_ic (b := 1) rfl (by decide) (by decide) ?_
      refine e_sub rfl ?_
      refine e_aald (a := (r0 + 19)) rfl (qM hr0) (fun e4 he5 => ?_)
      refine e_st (t := 2) rfl (Or.inr ⟨rfl, Or.inl rfl⟩) rfl ?_
      refine e_ld (t := 2) rfl (Or.inr (Or.inl ⟨rfl, Or.inl rfl⟩)) (l_kr (by decide) rfl) rfl ?_
      refine e_get (a := r0) (u := .ref 23) rfl (fM hr0) rfl (fun _ => rfl) ?_
      refine e_ld (t := 2) rfl (Or.inr (Or.inl ⟨rfl, Or.inl rfl⟩)) l_s rfl ?_
      refine e_get (a := (r0 + 20 + 3 * e4)) (u := .int (yi (M (r0 + 20 + 3 * e4) 0))) rfl (fF (pF_M hr0 he5)) rfl (fun _ => rfl) ?_
      refine e_stat (as := [.ref 23, .int (yi (M (r0 + 20 + 3 * e4) 0))]) rfl (by decide) rfl (Nat.le_of_ble_eq_true rfl) (t_5 (by omega)) ?_
      refine e_st (t := 2) rfl (Or.inr ⟨rfl, Or.inl rfl⟩) rfl ?_
      refine e_ld (t := 2) rfl (Or.inr (Or.inl ⟨rfl, Or.inl rfl⟩)) (l_kr (by decide) l_s) rfl ?_
      refine e_get (a := (r0 + 20 + 3 * e4)) (u := .int (yi (M (r0 + 20 + 3 * e4) 1))) rfl (fF (pF_M hr0 he5)) rfl (fun _ => rfl) ?_
      refine e_stl (g := (Option.map (fun t : yM => (t, cc, none)))) rfl (Or.inl rfl) (fun v6 => ?_)
      refine e_ld (t := 0) rfl (Or.inl ⟨rfl, Or.inl rfl⟩) l_s rfl ?_
      refine e_br (Option.map (fun t : yM => (t, cc, none))) (q := 2) (by decide) rfl (fun h7 => ?_) (fun h7 => ?_)
      · refine e_ld (t := 2) rfl (Or.inr (Or.inl ⟨rfl, Or.inl rfl⟩)) (l_kr (by decide) (l_kr (by decide) (l_kr (by decide) rfl))) rfl ?_
        refine e_ic (b := 0) rfl (by decide) (by decide) ?_
        refine e_put (a := r0) rfl (Or.inl rfl) (fM hr0) rfl (Or.inr ⟨rfl, Or.inl rfl⟩) ?_
        refine y_let (Option.map (fun t : yM => (t, cc, none))) (fun M8 => ?_)
        refine e_go rfl ?_
        exact e_vret rfl
      · refine e_ld (t := 0) rfl (Or.inl ⟨rfl, Or.inl rfl⟩) l_s rfl ?_
        refine e_ld (t := 2) rfl (Or.inr (Or.inl ⟨rfl, Or.inl rfl⟩)) (l_kr (by decide) l_s) rfl ?_
        refine e_get (a := (24 + 9 * ypz 8 (M (r0 + 20 + 3 * e4) 0))) (u := .int (yi (M (24 + 9 * ypz 8 (M (r0 + 20 + 3 * e4) 0)) 0))) rfl (fC ⟨_, ypz_lt (by decide), rfl⟩) rfl (fun _ => rfl) ?_
        refine e_cmp (Option.map (fun t : yM => (t, cc, none))) (q := 3) (by decide) rfl (fun h9 => ?_) (fun h9 => ?_)
        · refine e_ld (t := 2) rfl (Or.inr (Or.inl ⟨rfl, Or.inl rfl⟩)) (l_kr (by decide) (l_kr (by decide) (l_kr (by decide) rfl))) rfl ?_
          refine e_ic (b := 0) rfl (by decide) (by decide) ?_
          refine e_put (a := r0) rfl (Or.inl rfl) (fM hr0) rfl (Or.inr ⟨rfl, Or.inl rfl⟩) ?_
          refine y_let (Option.map (fun t : yM => (t, cc, none))) (fun M10 => ?_)
          refine e_go rfl ?_
          exact e_vret rfl
        · refine e_ld (t := 2) rfl (Or.inr (Or.inl ⟨rfl, Or.inl rfl⟩)) (l_kr (by decide) (l_kr (by decide) (l_kr (by decide) rfl))) rfl ?_
          refine e_ld (t := 2) rfl (Or.inr (Or.inl ⟨rfl, Or.inl rfl⟩)) (l_kr (by decide) l_s) rfl ?_
          refine e_ld (t := 0) rfl (Or.inl ⟨rfl, Or.inl rfl⟩) l_s rfl ?_
          refine e_objO (h0 := (fun t : yM × Int => (t.1, cc, some (.int (yi t.2))))) (h := (fun t : yM => (t, cc, none))) (a := r0) (as := [.ref (24 + 9 * ypz 8 (M (r0 + 20 + 3 * e4) 0)), .int (yi v6)]) rfl (by decide) rfl (Nat.le_of_ble_eq_true rfl) (fM hr0) (t_81 (by omega) hr0 ⟨_, ypz_lt (by decide), rfl⟩) (fun t11 => ?_)
          refine e_br (Option.map (fun t : yM => (t, cc, none))) (q := 1) (by decide) rfl (fun h12 => ?_) (fun h12 => ?_)
          · refine e_ld (t := 2) rfl (Or.inr (Or.inl ⟨rfl, Or.inl rfl⟩)) (l_kr (by decide) l_s) rfl ?_
            refine e_get (a := (24 + 9 * ypz 8 (M (r0 + 20 + 3 * e4) 0))) (u := .ref ((24 + 9 * ypz 8 (M (r0 + 20 + 3 * e4) 0)) + 1)) rfl (fC ⟨_, ypz_lt (by decide), rfl⟩) rfl (fun _ => rfl) ?_
            refine e_ld (t := 0) rfl (Or.inl ⟨rfl, Or.inl rfl⟩) l_s rfl ?_
            refine e_at (a := ((24 + 9 * ypz 8 (M (r0 + 20 + 3 * e4) 0)) + 1)) (by omega) rfl (by decide) (Nat.le_of_ble_eq_true rfl) (nC_1 ⟨_, ypz_lt (by decide), rfl⟩) ?_
            refine e_stat (M1 := t11.1) (cc1 := cc) (v1 := some (.int (yi (f_42 t11.1 (yrd t11.1 ((24 + 9 * ypz 8 (M (r0 + 20 + 3 * e4) 0)) + 1) v6))))) (as := [.int (yi (yrd t11.1 ((24 + 9 * ypz 8 (M (r0 + 20 + 3 * e4) 0)) + 1) v6))]) rfl (by decide) rfl (Nat.le_of_ble_eq_true rfl) (t_42 (by omega)) ?_
            refine e_br (Option.map (fun t : yM => (t, cc, none))) (q := 0) (by decide) rfl (fun h13 => ?_) (fun h13 => ?_)
            · refine e_ld (t := 2) rfl (Or.inr (Or.inl ⟨rfl, Or.inl rfl⟩)) (l_kr (by decide) (l_kr (by decide) (l_kr (by decide) rfl))) rfl ?_
              refine e_ld (t := 2) rfl (Or.inr (Or.inl ⟨rfl, Or.inl rfl⟩)) (l_kr (by decide) l_s) rfl ?_
              refine e_ld (t := 0) rfl (Or.inl ⟨rfl, Or.inl rfl⟩) l_s rfl ?_
              refine e_ld (t := 2) rfl (Or.inr (Or.inl ⟨rfl, Or.inl rfl⟩)) (l_kr (by decide) (l_kr (by decide) l_s)) rfl ?_
              refine e_objO (h0 := (fun t : yM => (t, cc, none))) (h := (fun t : yM => (t, cc, none))) (a := r0) (as := [.ref (24 + 9 * ypz 8 (M (r0 + 20 + 3 * e4) 0)), .int (yi v6), .ref (r0 + 20 + 3 * e4)]) rfl (by decide) rfl (Nat.le_of_ble_eq_true rfl) (fM hr0) (t_92 (by omega) hr0 ⟨_, ypz_lt (by decide), rfl⟩ (pF_M hr0 he5)) (fun t14 => ?_)
              exact e_vret rfl
            · refine e_ld (t := 2) rfl (Or.inr (Or.inl ⟨rfl, Or.inl rfl⟩)) (l_kr (by decide) (l_kr (by decide) (l_kr (by decide) rfl))) rfl ?_
              refine e_ld (t := 2) rfl (Or.inr (Or.inl ⟨rfl, Or.inl rfl⟩)) (l_kr (by decide) l_s) rfl ?_
              refine e_ld (t := 0) rfl (Or.inl ⟨rfl, Or.inl rfl⟩) l_s rfl ?_
              refine e_ld (t := 2) rfl (Or.inr (Or.inl ⟨rfl, Or.inl rfl⟩)) (l_kr (by decide) (l_kr (by decide) l_s)) rfl ?_
              refine e_objO (h0 := (fun t : yM => (t, cc, none))) (h := (fun t : yM => (t, cc, none))) (a := r0) (as := [.ref (24 + 9 * ypz 8 (M (r0 + 20 + 3 * e4) 0)), .int (yi v6), .ref (r0 + 20 + 3 * e4)]) rfl (by decide) rfl (Nat.le_of_ble_eq_true rfl) (fM hr0) (t_91 (by omega) hr0 ⟨_, ypz_lt (by decide), rfl⟩ (pF_M hr0 he5)) (fun t15 => ?_)
              refine e_go rfl ?_
              exact e_vret rfl
          · refine e_ld (t := 2) rfl (Or.inr (Or.inl ⟨rfl, Or.inl rfl⟩)) (l_kr (by decide) (l_kr (by decide) (l_kr (by decide) rfl))) rfl ?_
            refine e_ic (b := 0) rfl (by decide) (by decide) ?_
            refine e_put (a := r0) rfl (Or.inl rfl) (fM hr0) rfl (Or.inr ⟨rfl, Or.inl rfl⟩) ?_
            refine y_let (Option.map (fun t : yM => (t, cc, none))) (fun M16 => ?_)
            refine e_go rfl ?_
            exact e_vret rfl
    · refine e_ld (t := 2) rfl (Or.inr (Or.inl ⟨rfl, Or.inl rfl⟩)) rfl rfl ?_
      refine e_ic (b := 0) rfl (by decide) (by decide) ?_
      refine e_put (a := r0) rfl (Or.inl rfl) (fM hr0) rfl (Or.inr ⟨rfl, Or.inl rfl⟩) ?_
      refine y_let (Option.map (fun t : yM => (t, cc, none))) (fun M17 => ?_)
      exact e_vret rfl
/-- UnwindTower.refresh -/
def f_31_43 (N : Nat) (ih24 : yM → Nat → Int → Option (yM × Nat)) (M : yM) (cc : Nat) (x1 : Int) : Option (yM × Nat) := (ih24 M cc (x1 + 1))
theorem t_31_43 {sc : List Int32} {dd cc : Nat} {N : Nat} {ih24 : yM → Nat → Int → Option (yM × Nat)} {M : yM} {x1 : Int} (hd : 309 ≤ dd) (ih24_ : ∀ {M : yM} {cc : Nat} {x1 : Int} {L : zL} (hL0 : L 0 = some (.ref 0)) (hL1 : L 1 = some (.int (yi x1))), yW sc zg_c31 zg_w31 dd 24 L [] M cc ((Option.map (fun t : yM × Nat => (t.1, t.2, none))) (ih24 M cc x1))) {L : zL} (hL0 : L 0 = some (.ref 0)) (hL1 : L 1 = some (.int (yi x1))) : yW sc zg_c31 zg_w31 dd 43 L [] M cc ((Option.map (fun t : yM × Nat => (t.1, t.2, none))) (f_31_43 N ih24 M cc x1)) := by
  unfold f_31_43
  refine e_inc (d := 1) rfl hL1 (by decide) ?_
  refine e_go rfl ?_
  exact ih24_ (l_kr (by decide) hL0) l_s
def f_31_24 (N : Nat) : Nat → yM → Nat → Int → Option (yM × Nat)
  | 0, _, _, _ => none
  | n + 1, M, cc, x1 => (cond (yrel 3 x1 (M 1 4)) (some (M, cc)) (Option.bind (f_59 N cc M x1 (M 0 7)) fun t8 => (cond (yrel 1 (t8.2.2) 0) (f_31_43 N (f_31_24 N n) (t8.1) (t8.2.1) x1) (ylet (f_71 t8.1 8 x1 (-1) (-1)) fun t10 => (f_31_43 N (f_31_24 N n) t10 (t8.2.1) x1)))))
theorem t_31_24 {sc : List Int32} {dd : Nat} {N : Nat} (hd : 309 ≤ dd) : ∀ (n : Nat) {M : yM} {cc : Nat} {x1 : Int} {L : zL} (hL0 : L 0 = some (.ref 0)) (hL1 : L 1 = some (.int (yi x1))), yW sc zg_c31 zg_w31 dd 24 L [] M cc ((Option.map (fun t : yM × Nat => (t.1, t.2, none))) (f_31_24 N n M cc x1)) := by
  intro n
  induction n with
  | zero => intros; exact y_none
  | succ n IH =>
    intro M cc x1 L hL0 hL1
    rw [f_31_24]
    refine e_ld (t := 0) rfl (Or.inl ⟨rfl, Or.inl rfl⟩) hL1 rfl ?_
    refine e_ld (t := 2) rfl (Or.inr (Or.inl ⟨rfl, Or.inl rfl⟩)) hL0 rfl ?_
    refine e_get (a := 0) (u := .ref 1) rfl rfl rfl (fun _ => rfl) ?_
    refine e_get (a := 1) (u := .int (yi (M 1 4))) rfl rfl rfl (fun _ => rfl) ?_
    refine e_cmp (Option.map (fun t : yM × Nat => (t.1, t.2, none))) (q := 3) (by decide) rfl (fun h7 => ?_) (fun h7 => ?_)
    · exact e_vret rfl
    · refine e_ld (t := 2) rfl (Or.inr (Or.inl ⟨rfl, Or.inl rfl⟩)) hL0 rfl ?_
      refine e_get (a := 0) (u := .ref 96) rfl rfl rfl (fun _ => rfl) ?_
      refine e_ld (t := 0) rfl (Or.inl ⟨rfl, Or.inl rfl⟩) hL1 rfl ?_
      refine e_ld (t := 2) rfl (Or.inr (Or.inl ⟨rfl, Or.inl rfl⟩)) hL0 rfl ?_
      refine e_get (a := 0) (u := .int (yi (M 0 7))) rfl rfl rfl (fun _ => rfl) ?_
      refine e_objO (h0 := (fun t : yM × Nat × Int => (t.1, t.2.1, some (.int (yi t.2.2))))) (h := (fun t : yM × Nat => (t.1, t.2, none))) (a := 96) (as := [.int (yi x1), .int (yi (M 0 7))]) rfl (by decide) rfl (Nat.le_of_ble_eq_true rfl) rfl (t_59 (by omega)) (fun t8 => ?_)
      refine e_br (Option.map (fun t : yM × Nat => (t.1, t.2, none))) (q := 1) (by decide) rfl (fun h9 => ?_) (fun h9 => ?_)
      · exact t_31_43 (by omega) IH hL0 hL1
      · refine e_ld (t := 2) rfl (Or.inr (Or.inl ⟨rfl, Or.inl rfl⟩)) hL0 rfl ?_
        refine e_get (a := 0) (u := .ref 18) rfl rfl rfl (fun _ => rfl) ?_
        refine e_ic (b := 8) rfl (by decide) (by decide) ?_
        refine e_ld (t := 0) rfl (Or.inl ⟨rfl, Or.inl rfl⟩) hL1 rfl ?_
        refine e_ic (b := (-1)) rfl (by decide) (by decide) ?_
        refine e_ic (b := (-1)) rfl (by decide) (by decide) ?_
        refine e_objP (Option.map (fun t : yM × Nat => (t.1, t.2, none))) (h0 := (fun t : yM => (t, t8.2.1, none))) (a := 18) (as := [.int (yi 8), .int (yi x1), .int (yi (-1)), .int (yi (-1))]) rfl (by decide) rfl (Nat.le_of_ble_eq_true rfl) rfl (t_71 (by omega)) (fun t10 => ?_)
        exact t_31_43 (by omega) IH hL0 hL1
def f_31 (N : Nat) (cc : Nat) (M : yM) : Option (yM × Nat) := (cond (yrel 1 (M 0 8) 0) (ylet (yU M 0 8 0) fun M2 => (Option.bind (f_114 N M2) fun t3 => (Option.bind (f_74 N t3) fun t4 => (cond (yrel 5 (t4 18 4) 0) (ylet (yU t4 21 1 0) fun M6 => (f_31_24 N N M6 cc 0)) (some (t4, cc)))))) (some (M, cc)))
theorem t_31 {sc : List Int32} {dd cc : Nat} {N : Nat} {M : yM} (hd : 310 ≤ dd) : yP sc dd 31 [.ref 0] M cc ((Option.map (fun t : yM × Nat => (t.1, t.2, none))) (f_31 N cc M)) := by
  obtain ⟨dd, rfl⟩ : ∃ e, dd = e + 1 := ⟨dd - 1, by omega⟩
  refine e_meth (C := zg_c31) (W := zg_w31) (ml := 2) rfl rfl (Nat.le_of_ble_eq_true rfl) ?_
  unfold f_31
  refine e_ld (t := 2) rfl (Or.inr (Or.inl ⟨rfl, Or.inl rfl⟩)) rfl rfl ?_
  refine e_get (a := 0) (u := .int (yi (M 0 8))) rfl rfl rfl (fun _ => rfl) ?_
  refine e_br (Option.map (fun t : yM × Nat => (t.1, t.2, none))) (q := 1) (by decide) rfl (fun h1 => ?_) (fun h1 => ?_)
  · refine e_ld (t := 2) rfl (Or.inr (Or.inl ⟨rfl, Or.inl rfl⟩)) rfl rfl ?_
    refine e_ic (b := 0) rfl (by decide) (by decide) ?_
    refine e_put (a := 0) rfl (Or.inl rfl) rfl rfl (Or.inr ⟨rfl, Or.inl rfl⟩) ?_
    refine y_let (Option.map (fun t : yM × Nat => (t.1, t.2, none))) (fun M2 => ?_)
    refine e_ld (t := 2) rfl (Or.inr (Or.inl ⟨rfl, Or.inl rfl⟩)) rfl rfl ?_
    refine e_get (a := 0) (u := .ref 1) rfl rfl rfl (fun _ => rfl) ?_
    refine e_objO (h0 := (fun t : yM => (t, cc, none))) (h := (fun t : yM × Nat => (t.1, t.2, none))) (a := 1) (as := []) rfl (by decide) rfl (Nat.le_of_ble_eq_true rfl) rfl (t_114 (by omega)) (fun t3 => ?_)
    refine e_ld (t := 2) rfl (Or.inr (Or.inl ⟨rfl, Or.inl rfl⟩)) rfl rfl ?_
    refine e_get (a := 0) (u := .ref 18) rfl rfl rfl (fun _ => rfl) ?_
    refine e_objO (h0 := (fun t : yM => (t, cc, none))) (h := (fun t : yM × Nat => (t.1, t.2, none))) (a := 18) (as := []) rfl (by decide) rfl (Nat.le_of_ble_eq_true rfl) rfl (t_74 (by omega)) (fun t4 => ?_)
    refine e_ld (t := 2) rfl (Or.inr (Or.inl ⟨rfl, Or.inl rfl⟩)) rfl rfl ?_
    refine e_get (a := 0) (u := .ref 18) rfl rfl rfl (fun _ => rfl) ?_
    refine e_get (a := 18) (u := .int (yi (t4 18 4))) rfl rfl rfl (fun _ => rfl) ?_
    refine e_br (Option.map (fun t : yM × Nat => (t.1, t.2, none))) (q := 5) (by decide) rfl (fun h5 => ?_) (fun h5 => ?_)
    · refine e_ld (t := 2) rfl (Or.inr (Or.inl ⟨rfl, Or.inl rfl⟩)) rfl rfl ?_
      refine e_get (a := 0) (u := .ref 21) rfl rfl rfl (fun _ => rfl) ?_
      refine e_ic (b := 0) rfl (by decide) (by decide) ?_
      refine e_put (a := 21) rfl (Or.inl rfl) rfl rfl (Or.inl rfl) ?_
      refine y_let (Option.map (fun t : yM × Nat => (t.1, t.2, none))) (fun M6 => ?_)
      refine e_ic (b := 0) rfl (by decide) (by decide) ?_
      refine e_st (t := 0) rfl (Or.inl ⟨rfl, Or.inl rfl⟩) rfl ?_
      exact t_31_24 (by omega) N (l_kr (by decide) rfl) l_s
    · exact e_vret rfl
  · exact e_vret rfl
/-- UnwindTower$Machine.perform -/
def f_89_30 (N : Nat) (M : yM) (r0 : Nat) : Option (yM) := (ylet (ywr M (r0 + 13) 6 (M (r0 + 1) 0)) fun M6 => (ylet (ywr M6 (r0 + 13) 8 (M6 (r0 + 1) 1)) fun M7 => some M7))
theorem t_89_30 {sc : List Int32} {dd cc : Nat} {N : Nat} {M : yM} {r0 : Nat} (hd : 6 ≤ dd) (hr0 : pM r0) {L : zL} (hL0 : L 0 = some (.ref r0)) : yW sc zg_c89 zg_w89 dd 30 L [] M cc ((Option.map (fun t : yM => (t, cc, none))) (f_89_30 N M r0)) := by
  unfold f_89_30
  refine e_ld (t := 2) rfl (Or.inr (Or.inl ⟨rfl, Or.inl rfl⟩)) hL0 rfl ?_
  refine e_get (a := r0) (u := .ref (r0 + 13)) rfl (fM hr0) rfl (fun _ => rfl) ?_
  refine e_ic (b := 6) rfl (by decide) (by decide) ?_
  refine e_ld (t := 2) rfl (Or.inr (Or.inl ⟨rfl, Or.inl rfl⟩)) hL0 rfl ?_
  refine e_get (a := r0) (u := .ref (r0 + 1)) rfl (fM hr0) rfl (fun _ => rfl) ?_
  refine e_get (a := (r0 + 1)) (u := .int (yi (M (r0 + 1) 0))) rfl (fT (pT_M hr0)) rfl (fun _ => rfl) ?_
  refine e_wr (a := (r0 + 13)) (by omega) rfl (by decide) (Nat.le_of_ble_eq_true rfl) (nM_13 hr0) ?_
  refine y_let (Option.map (fun t : yM => (t, cc, none))) (fun M6 => ?_)
  refine e_ld (t := 2) rfl (Or.inr (Or.inl ⟨rfl, Or.inl rfl⟩)) hL0 rfl ?_
  refine e_get (a := r0) (u := .ref (r0 + 13)) rfl (fM hr0) rfl (fun _ => rfl) ?_
  refine e_ic (b := 8) rfl (by decide) (by decide) ?_
  refine e_ld (t := 2) rfl (Or.inr (Or.inl ⟨rfl, Or.inl rfl⟩)) hL0 rfl ?_
  refine e_get (a := r0) (u := .ref (r0 + 1)) rfl (fM hr0) rfl (fun _ => rfl) ?_
  refine e_get (a := (r0 + 1)) (u := .int (yi (M6 (r0 + 1) 1))) rfl (fT (pT_M hr0)) rfl (fun _ => rfl) ?_
  refine e_wr (a := (r0 + 13)) (by omega) rfl (by decide) (Nat.le_of_ble_eq_true rfl) (nM_13 hr0) ?_
  refine y_let (Option.map (fun t : yM => (t, cc, none))) (fun M7 => ?_)
  exact e_vret rfl
def f_89_28 (N : Nat) (ih15 : yM → Nat → Int → Option (yM)) (M : yM) (r0 : Nat) (x3 : Int) : Option (yM) := (ih15 M r0 (x3 + 1))
theorem t_89_28 {sc : List Int32} {dd cc : Nat} {N : Nat} {ih15 : yM → Nat → Int → Option (yM)} {M : yM} {r0 : Nat} {x3 : Int} (hd : 6 ≤ dd) (ih15_ : ∀ {M : yM} {r0 : Nat} {x3 : Int} (hr0 : pM r0) {L : zL} (hL0 : L 0 = some (.ref r0)) (hL3 : L 3 = some (.int (yi x3))), yW sc zg_c89 zg_w89 dd 15 L [] M cc ((Option.map (fun t : yM => (t, cc, none))) (ih15 M r0 x3))) (hr0 : pM r0) {L : zL} (hL0 : L 0 = some (.ref r0)) (hL3 : L 3 = some (.int (yi x3))) : yW sc zg_c89 zg_w89 dd 28 L [] M cc ((Option.map (fun t : yM => (t, cc, none))) (f_89_28 N ih15 M r0 x3)) := by
  unfold f_89_28
  refine e_inc (d := 1) rfl hL3 (by decide) ?_
  refine e_go rfl ?_
  exact ih15_ hr0 (l_kr (by decide) hL0) l_s
def f_89_15 (N : Nat) : Nat → yM → Nat → Int → Option (yM)
  | 0, _, _, _ => none
  | n + 1, M, r0, x3 => (cond (yrel 3 x3 1000000) (f_89_30 N M r0) (cond (yrel 0 (M r0 15) 0) (f_89_30 N M r0) (Option.bind (f_90 N M r0) fun t9 => (cond (yrel 0 (t9 r0 17) 0) (f_89_28 N (f_89_15 N n) t9 r0 x3) (Option.bind (f_99 N t9 r0) fun t11 => (f_89_28 N (f_89_15 N n) t11 r0 x3))))))
theorem t_89_15 {sc : List Int32} {dd cc : Nat} {N : Nat} (hd : 6 ≤ dd) : ∀ (n : Nat) {M : yM} {r0 : Nat} {x3 : Int} (hr0 : pM r0) {L : zL} (hL0 : L 0 = some (.ref r0)) (hL3 : L 3 = some (.int (yi x3))), yW sc zg_c89 zg_w89 dd 15 L [] M cc ((Option.map (fun t : yM => (t, cc, none))) (f_89_15 N n M r0 x3)) := by
  intro n
  induction n with
  | zero => intros; exact y_none
  | succ n IH =>
    intro M r0 x3 hr0 L hL0 hL3
    rw [f_89_15]
    refine e_ld (t := 0) rfl (Or.inl ⟨rfl, Or.inl rfl⟩) hL3 rfl ?_
    refine e_ic (b := 1000000) rfl (by decide) (by decide) ?_
    refine e_cmp (Option.map (fun t : yM => (t, cc, none))) (q := 3) (by decide) rfl (fun h5 => ?_) (fun h5 => ?_)
    · exact t_89_30 (by omega) hr0 hL0
    · refine e_ld (t := 2) rfl (Or.inr (Or.inl ⟨rfl, Or.inl rfl⟩)) hL0 rfl ?_
      refine e_get (a := r0) (u := .int (yi (M r0 15))) rfl (fM hr0) rfl (fun _ => rfl) ?_
      refine e_br (Option.map (fun t : yM => (t, cc, none))) (q := 0) (by decide) rfl (fun h8 => ?_) (fun h8 => ?_)
      · exact t_89_30 (by omega) hr0 hL0
      · refine e_ld (t := 2) rfl (Or.inr (Or.inl ⟨rfl, Or.inl rfl⟩)) hL0 rfl ?_
        refine e_objO (h0 := (fun t : yM => (t, cc, none))) (h := (fun t : yM => (t, cc, none))) (a := r0) (as := []) rfl (by decide) rfl (Nat.le_of_ble_eq_true rfl) (fM hr0) (t_90 (by omega) hr0) (fun t9 => ?_)
        refine e_ld (t := 2) rfl (Or.inr (Or.inl ⟨rfl, Or.inl rfl⟩)) hL0 rfl ?_
        refine e_get (a := r0) (u := .int (yi (t9 r0 17))) rfl (fM hr0) rfl (fun _ => rfl) ?_
        refine e_br (Option.map (fun t : yM => (t, cc, none))) (q := 0) (by decide) rfl (fun h10 => ?_) (fun h10 => ?_)
        · exact t_89_28 (by omega) IH hr0 hL0 hL3
        · refine e_ld (t := 2) rfl (Or.inr (Or.inl ⟨rfl, Or.inl rfl⟩)) hL0 rfl ?_
          refine e_objO (h0 := (fun t : yM => (t, cc, none))) (h := (fun t : yM => (t, cc, none))) (a := r0) (as := []) rfl (by decide) rfl (Nat.le_of_ble_eq_true rfl) (fM hr0) (t_99 (by omega) hr0) (fun t11 => ?_)
          exact t_89_28 (by omega) IH hr0 hL0 hL3
def f_89 (N : Nat) (M : yM) (r0 : Nat) (x1 : Int) (x2 : Int) : Option (yM) := (ylet (f_82 M r0) fun t1 => (ylet (yU t1 r0 13 x1) fun M2 => (ylet (yU M2 r0 14 x2) fun M3 => (Option.bind (f_84 N M3 r0 0 (-1) (-1)) fun t4 => (f_89_15 N N t4 r0 0)))))
theorem t_89 {sc : List Int32} {dd cc : Nat} {N : Nat} {M : yM} {r0 : Nat} {x1 : Int} {x2 : Int} (hd : 7 ≤ dd) (hr0 : pM r0) : yP sc dd 89 [.ref r0, .int (yi x1), .int (yi x2)] M cc ((Option.map (fun t : yM => (t, cc, none))) (f_89 N M r0 x1 x2)) := by
  obtain ⟨dd, rfl⟩ : ∃ e, dd = e + 1 := ⟨dd - 1, by omega⟩
  refine e_meth (C := zg_c89) (W := zg_w89) (ml := 4) rfl rfl (Nat.le_of_ble_eq_true rfl) ?_
  unfold f_89
  refine e_ld (t := 2) rfl (Or.inr (Or.inl ⟨rfl, Or.inl rfl⟩)) rfl rfl ?_
  refine e_objP (Option.map (fun t : yM => (t, cc, none))) (h0 := (fun t : yM => (t, cc, none))) (a := r0) (as := []) rfl (by decide) rfl (Nat.le_of_ble_eq_true rfl) (fM hr0) (t_82 (by omega) hr0) (fun t1 => ?_)
  refine e_ld (t := 2) rfl (Or.inr (Or.inl ⟨rfl, Or.inl rfl⟩)) rfl rfl ?_
  refine e_ld (t := 0) rfl (Or.inl ⟨rfl, Or.inl rfl⟩) rfl rfl ?_
  refine e_put (a := r0) rfl (Or.inl rfl) (fM hr0) rfl (Or.inl rfl) ?_
  refine y_let (Option.map (fun t : yM => (t, cc, none))) (fun M2 => ?_)
  refine e_ld (t := 2) rfl (Or.inr (Or.inl ⟨rfl, Or.inl rfl⟩)) rfl rfl ?_
  refine e_ld (t := 0) rfl (Or.inl ⟨rfl, Or.inl rfl⟩) rfl rfl ?_
  refine e_put (a := r0) rfl (Or.inl rfl) (fM hr0) rfl (Or.inl rfl) ?_
  refine y_let (Option.map (fun t : yM => (t, cc, none))) (fun M3 => ?_)
  refine e_ld (t := 2) rfl (Or.inr (Or.inl ⟨rfl, Or.inl rfl⟩)) rfl rfl ?_
  refine e_ic (b := 0) rfl (by decide) (by decide) ?_
  refine e_ic (b := (-1)) rfl (by decide) (by decide) ?_
  refine e_ic (b := (-1)) rfl (by decide) (by decide) ?_
  refine e_objO (h0 := (fun t : yM => (t, cc, none))) (h := (fun t : yM => (t, cc, none))) (a := r0) (as := [.int (yi 0), .int (yi (-1)), .int (yi (-1))]) rfl (by decide) rfl (Nat.le_of_ble_eq_true rfl) (fM hr0) (t_84 (by omega) hr0) (fun t4 => ?_)
  refine e_ic (b := 0) rfl (by decide) (by decide) ?_
  refine e_st (t := 0) rfl (Or.inl ⟨rfl, Or.inl rfl⟩) rfl ?_
  exact t_89_15 (by omega) N hr0 (l_kr (by decide) rfl) l_s
/-- UnwindTower.catcher -/
def f_4 (N : Nat) (cc : Nat) (M : yM) (x1 : Int) (x2 : Int) : Option (yM × Nat × Int) := (cond (yrel 0 (f_118 M x1) 0) none (cond (yrel 1 (f_117 M x2) 0) (Option.bind (f_31 N cc M) fun t3 => (Option.bind (f_111 N t3.1 x1 x2) fun t4 => some (t3.1, t3.2, t4))) none))
theorem t_4 {sc : List Int32} {dd cc : Nat} {N : Nat} {M : yM} {x1 : Int} {x2 : Int} (hd : 311 ≤ dd) : yP sc dd 4 [.ref 0, .int (yi x1), .int (yi x2)] M cc ((Option.map (fun t : yM × Nat × Int => (t.1, t.2.1, some (.int (yi t.2.2))))) (f_4 N cc M x1 x2)) := by
  obtain ⟨dd, rfl⟩ : ∃ e, dd = e + 1 := ⟨dd - 1, by omega⟩
  refine e_meth (C := zg_c4) (W := zg_w4) (ml := 3) rfl rfl (Nat.le_of_ble_eq_true rfl) ?_
  unfold f_4
  refine e_ld (t := 2) rfl (Or.inr (Or.inl ⟨rfl, Or.inl rfl⟩)) rfl rfl ?_
  refine e_get (a := 0) (u := .ref 1) rfl rfl rfl (fun _ => rfl) ?_
  refine e_ld (t := 0) rfl (Or.inl ⟨rfl, Or.inl rfl⟩) rfl rfl ?_
  refine e_obj (M1 := M) (cc1 := cc) (v1 := some (.int (yi (f_118 M x1)))) (a := 1) (as := [.int (yi x1)]) rfl (by decide) rfl (Nat.le_of_ble_eq_true rfl) rfl (t_118 (by omega)) ?_
  refine e_br (Option.map (fun t : yM × Nat × Int => (t.1, t.2.1, some (.int (yi t.2.2))))) (q := 0) (by decide) rfl (fun h1 => ?_) (fun h1 => ?_)
  · exact y_none
  · refine e_ld (t := 2) rfl (Or.inr (Or.inl ⟨rfl, Or.inl rfl⟩)) rfl rfl ?_
    refine e_get (a := 0) (u := .ref 1) rfl rfl rfl (fun _ => rfl) ?_
    refine e_ld (t := 0) rfl (Or.inl ⟨rfl, Or.inl rfl⟩) rfl rfl ?_
    refine e_obj (M1 := M) (cc1 := cc) (v1 := some (.int (yi (f_117 M x2)))) (a := 1) (as := [.int (yi x2)]) rfl (by decide) rfl (Nat.le_of_ble_eq_true rfl) rfl (t_117 (by omega)) ?_
    refine e_br (Option.map (fun t : yM × Nat × Int => (t.1, t.2.1, some (.int (yi t.2.2))))) (q := 1) (by decide) rfl (fun h2 => ?_) (fun h2 => ?_)
    · refine e_ld (t := 2) rfl (Or.inr (Or.inl ⟨rfl, Or.inl rfl⟩)) rfl rfl ?_
      refine e_objO (h0 := (fun t : yM × Nat => (t.1, t.2, none))) (h := (fun t : yM × Nat × Int => (t.1, t.2.1, some (.int (yi t.2.2))))) (a := 0) (as := []) rfl (by decide) rfl (Nat.le_of_ble_eq_true rfl) rfl (t_31 (by omega)) (fun t3 => ?_)
      refine e_ld (t := 2) rfl (Or.inr (Or.inl ⟨rfl, Or.inl rfl⟩)) rfl rfl ?_
      refine e_get (a := 0) (u := .ref 1) rfl rfl rfl (fun _ => rfl) ?_
      refine e_ld (t := 0) rfl (Or.inl ⟨rfl, Or.inl rfl⟩) rfl rfl ?_
      refine e_ld (t := 0) rfl (Or.inl ⟨rfl, Or.inl rfl⟩) rfl rfl ?_
      refine e_objO (h0 := (fun t : Int => (t3.1, t3.2, some (.int (yi t))))) (h := (fun t : yM × Nat × Int => (t.1, t.2.1, some (.int (yi t.2.2))))) (a := 1) (as := [.int (yi x1), .int (yi x2)]) rfl (by decide) rfl (Nat.le_of_ble_eq_true rfl) rfl (t_111 (by omega)) (fun t4 => ?_)
      exact e_iret rfl (Or.inl rfl)
    · exact y_none
/-- UnwindTower.digest -/
def f_6_154 (N : Nat) : Nat → yM → Nat → Int → Int → Option (yM × Nat × Int)
  | 0, _, _, _, _ => none
  | n + 1, M, cc, y1, x3 => (cond (yrel 4 x3 8) (some (M, cc, y1)) (ylet ((y1 * 31) + (yw (yrd M (306 + 13) x3))) fun v11 => (f_6_154 N n M cc v11 (x3 + 1))))
theorem t_6_154 {sc : List Int32} {dd : Nat} {N : Nat} (hd : 310 ≤ dd) : ∀ (n : Nat) {M : yM} {cc : Nat} {y1 : Int} {x3 : Int} {L : zL} (hL0 : L 0 = some (.ref 0)) (hL1 : L 1 = some (.long (yl y1))) (hL3 : L 3 = some (.int (yi x3))), yW sc zg_c6 zg_w6 dd 154 L [] M cc ((Option.map (fun t : yM × Nat × Int => (t.1, t.2.1, some (.long (yl t.2.2))))) (f_6_154 N n M cc y1 x3)) := by
  intro n
  induction n with
  | zero => intros; exact y_none
  | succ n IH =>
    intro M cc y1 x3 L hL0 hL1 hL3
    rw [f_6_154]
    refine e_ld (t := 0) rfl (Or.inl ⟨rfl, Or.inl rfl⟩) hL3 rfl ?_
    refine e_ic (b := 8) rfl (by decide) (by decide) ?_
    refine e_cmp (Option.map (fun t : yM × Nat × Int => (t.1, t.2.1, some (.long (yl t.2.2))))) (q := 4) (by decide) rfl (fun h10 => ?_) (fun h10 => ?_)
    · refine e_ld (t := 3) rfl (Or.inr (Or.inr ⟨rfl, Or.inl rfl⟩)) hL1 rfl ?_
      exact e_lret rfl
    · refine e_ld (t := 3) rfl (Or.inr (Or.inr ⟨rfl, Or.inl rfl⟩)) hL1 rfl ?_
      refine e_lc (q := 31) rfl (by decide) (by decide) ?_
      refine e_lmul rfl ?_
      refine e_ld (t := 2) rfl (Or.inr (Or.inl ⟨rfl, Or.inl rfl⟩)) hL0 rfl ?_
      refine e_get (a := 0) (u := .ref 306) rfl rfl rfl (fun _ => rfl) ?_
      refine e_get (a := 306) (u := .ref (306 + 13)) rfl (fM (Or.inr rfl)) rfl (fun _ => rfl) ?_
      refine e_ld (t := 0) rfl (Or.inl ⟨rfl, Or.inl rfl⟩) hL3 rfl ?_
      refine e_at (a := (306 + 13)) (by omega) rfl (by decide) (Nat.le_of_ble_eq_true rfl) (nM_13 (Or.inr rfl)) ?_
      refine e_i2l rfl ?_
      refine e_ladd rfl ?_
      refine e_lstl (g := (Option.map (fun t : yM × Nat × Int => (t.1, t.2.1, some (.long (yl t.2.2)))))) rfl (Or.inl rfl) (fun v11 => ?_)
      refine e_inc (d := 1) rfl (l_ki2 (by decide) (by decide) hL3) (by decide) ?_
      refine e_go rfl ?_
      exact IH (l_kr (by decide) (l_kr2 (by decide) (by decide) hL0)) (l_kl (by decide) (by decide) l_s2) l_s
def f_6_121 (N : Nat) (ih114 : yM → Nat → Int → Int → Option (yM × Nat × Int)) : Nat → yM → Nat → Int → Int → Int → Option (yM × Nat × Int)
  | 0, _, _, _, _, _ => none
  | n + 1, M, cc, y1, x3, x4 => (cond (yrel 4 x4 3) (ih114 M cc y1 (x3 + 1)) (ylet ((y1 * 31) + (yw (f_78 M x3 x4))) fun v13 => (f_6_121 N ih114 n M cc v13 x3 (x4 + 1))))
theorem t_6_121 {sc : List Int32} {dd : Nat} {N : Nat} {ih114 : yM → Nat → Int → Int → Option (yM × Nat × Int)} (hd : 310 ≤ dd) (ih114_ : ∀ {M : yM} {cc : Nat} {y1 : Int} {x3 : Int} {L : zL} (hL0 : L 0 = some (.ref 0)) (hL1 : L 1 = some (.long (yl y1))) (hL3 : L 3 = some (.int (yi x3))), yW sc zg_c6 zg_w6 dd 114 L [] M cc ((Option.map (fun t : yM × Nat × Int => (t.1, t.2.1, some (.long (yl t.2.2))))) (ih114 M cc y1 x3))) : ∀ (n : Nat) {M : yM} {cc : Nat} {y1 : Int} {x3 : Int} {x4 : Int} {L : zL} (hL0 : L 0 = some (.ref 0)) (hL1 : L 1 = some (.long (yl y1))) (hL3 : L 3 = some (.int (yi x3))) (hL4 : L 4 = some (.int (yi x4))), yW sc zg_c6 zg_w6 dd 121 L [] M cc ((Option.map (fun t : yM × Nat × Int => (t.1, t.2.1, some (.long (yl t.2.2))))) (f_6_121 N ih114 n M cc y1 x3 x4)) := by
  intro n
  induction n with
  | zero => intros; exact y_none
  | succ n IH =>
    intro M cc y1 x3 x4 L hL0 hL1 hL3 hL4
    rw [f_6_121]
    refine e_ld (t := 0) rfl (Or.inl ⟨rfl, Or.inr rfl⟩) hL4 rfl ?_
    refine e_ic (b := 3) rfl (by decide) (by decide) ?_
    refine e_cmp (Option.map (fun t : yM × Nat × Int => (t.1, t.2.1, some (.long (yl t.2.2))))) (q := 4) (by decide) rfl (fun h12 => ?_) (fun h12 => ?_)
    · refine e_inc (d := 1) rfl hL3 (by decide) ?_
      refine e_go rfl ?_
      exact ih114_ (l_kr (by decide) hL0) (l_kl (by decide) (by decide) hL1) l_s
    · refine e_ld (t := 3) rfl (Or.inr (Or.inr ⟨rfl, Or.inl rfl⟩)) hL1 rfl ?_
      refine e_lc (q := 31) rfl (by decide) (by decide) ?_
      refine e_lmul rfl ?_
      refine e_ld (t := 2) rfl (Or.inr (Or.inl ⟨rfl, Or.inl rfl⟩)) hL0 rfl ?_
      refine e_get (a := 0) (u := .ref 18) rfl rfl rfl (fun _ => rfl) ?_
      refine e_ld (t := 0) rfl (Or.inl ⟨rfl, Or.inl rfl⟩) hL3 rfl ?_
      refine e_ld (t := 0) rfl (Or.inl ⟨rfl, Or.inr rfl⟩) hL4 rfl ?_
      refine e_obj (M1 := M) (cc1 := cc) (v1 := some (.int (yi (f_78 M x3 x4)))) (a := 18) (as := [.int (yi x3), .int (yi x4)]) rfl (by decide) rfl (Nat.le_of_ble_eq_true rfl) rfl (t_78 (by omega)) ?_
      refine e_i2l rfl ?_
      refine e_ladd rfl ?_
      refine e_lstl (g := (Option.map (fun t : yM × Nat × Int => (t.1, t.2.1, some (.long (yl t.2.2)))))) rfl (Or.inl rfl) (fun v13 => ?_)
      refine e_inc (d := 1) rfl (l_ki2 (by decide) (by decide) hL4) (by decide) ?_
      refine e_go rfl ?_
      exact IH (l_kr (by decide) (l_kr2 (by decide) (by decide) hL0)) (l_kl (by decide) (by decide) l_s2) (l_ki (by decide) (l_ki2 (by decide) (by decide) hL3)) l_s
def f_6_114 (N : Nat) : Nat → yM → Nat → Int → Int → Option (yM × Nat × Int)
  | 0, _, _, _, _ => none
  | n + 1, M, cc, y1, x3 => (cond (yrel 3 x3 (M 18 4)) (Option.bind (f_9 N M y1) fun t7 => (cond (yrel 1 (M 18 4) 0) (some (M, cc, t7)) (Option.bind (f_89 N M 306 150 4) fun t9 => (f_6_154 N N t9 cc t7 0)))) (f_6_121 N (f_6_114 N n) N M cc y1 x3 0))
theorem t_6_114 {sc : List Int32} {dd : Nat} {N : Nat} (hd : 310 ≤ dd) : ∀ (n : Nat) {M : yM} {cc : Nat} {y1 : Int} {x3 : Int} {L : zL} (hL0 : L 0 = some (.ref 0)) (hL1 : L 1 = some (.long (yl y1))) (hL3 : L 3 = some (.int (yi x3))), yW sc zg_c6 zg_w6 dd 114 L [] M cc ((Option.map (fun t : yM × Nat × Int => (t.1, t.2.1, some (.long (yl t.2.2))))) (f_6_114 N n M cc y1 x3)) := by
  intro n
  induction n with
  | zero => intros; exact y_none
  | succ n IH =>
    intro M cc y1 x3 L hL0 hL1 hL3
    rw [f_6_114]
    refine e_ld (t := 0) rfl (Or.inl ⟨rfl, Or.inl rfl⟩) hL3 rfl ?_
    refine e_ld (t := 2) rfl (Or.inr (Or.inl ⟨rfl, Or.inl rfl⟩)) hL0 rfl ?_
    refine e_get (a := 0) (u := .ref 18) rfl rfl rfl (fun _ => rfl) ?_
    refine e_get (a := 18) (u := .int (yi (M 18 4))) rfl rfl rfl (fun _ => rfl) ?_
    refine e_cmp (Option.map (fun t : yM × Nat × Int => (t.1, t.2.1, some (.long (yl t.2.2))))) (q := 3) (by decide) rfl (fun h6 => ?_) (fun h6 => ?_)
    · refine e_ld (t := 2) rfl (Or.inr (Or.inl ⟨rfl, Or.inl rfl⟩)) hL0 rfl ?_
      refine e_ld (t := 3) rfl (Or.inr (Or.inr ⟨rfl, Or.inl rfl⟩)) hL1 rfl ?_
      refine e_objO (h0 := (fun t : Int => (M, cc, some (.long (yl t))))) (h := (fun t : yM × Nat × Int => (t.1, t.2.1, some (.long (yl t.2.2))))) (a := 0) (as := [.long (yl y1)]) rfl (by decide) rfl (Nat.le_of_ble_eq_true rfl) rfl (t_9 (by omega)) (fun t7 => ?_)
      refine e_lst rfl (Or.inl rfl) ?_
      refine e_ld (t := 2) rfl (Or.inr (Or.inl ⟨rfl, Or.inl rfl⟩)) (l_kr2 (by decide) (by decide) hL0) rfl ?_
      refine e_get (a := 0) (u := .ref 18) rfl rfl rfl (fun _ => rfl) ?_
      refine e_get (a := 18) (u := .int (yi (M 18 4))) rfl rfl rfl (fun _ => rfl) ?_
      refine e_br (Option.map (fun t : yM × Nat × Int => (t.1, t.2.1, some (.long (yl t.2.2))))) (q := 1) (by decide) rfl (fun h8 => ?_) (fun h8 => ?_)
      · refine e_ld (t := 3) rfl (Or.inr (Or.inr ⟨rfl, Or.inl rfl⟩)) l_s2 rfl ?_
        exact e_lret rfl
      · refine e_ld (t := 2) rfl (Or.inr (Or.inl ⟨rfl, Or.inl rfl⟩)) (l_kr2 (by decide) (by decide) hL0) rfl ?_
        refine e_get (a := 0) (u := .ref 306) rfl rfl rfl (fun _ => rfl) ?_
        refine e_ic (b := 150) rfl (by decide) (by decide) ?_
        refine e_ic (b := 4) rfl (by decide) (by decide) ?_
        refine e_objO (h0 := (fun t : yM => (t, cc, none))) (h := (fun t : yM × Nat × Int => (t.1, t.2.1, some (.long (yl t.2.2))))) (a := 306) (as := [.int (yi 150), .int (yi 4)]) rfl (by decide) rfl (Nat.le_of_ble_eq_true rfl) (fM (Or.inr rfl)) (t_89 (by omega) (Or.inr rfl)) (fun t9 => ?_)
        refine e_ic (b := 0) rfl (by decide) (by decide) ?_
        refine e_st (t := 0) rfl (Or.inl ⟨rfl, Or.inl rfl⟩) rfl ?_
        exact t_6_154 (by omega) N (l_kr (by decide) (l_kr2 (by decide) (by decide) hL0)) (l_kl (by decide) (by decide) l_s2) l_s
    · refine e_ic (b := 0) rfl (by decide) (by decide) ?_
      refine e_st (t := 0) rfl (Or.inl ⟨rfl, Or.inr rfl⟩) rfl ?_
      exact t_6_121 (by omega) IH N (l_kr (by decide) hL0) (l_kl (by decide) (by decide) hL1) (l_ki (by decide) hL3) l_s
def f_6_69 (N : Nat) (ih62 : yM → Nat → Int → Int → Option (yM × Nat × Int)) : Nat → yM → Nat → Int → Int → Int → Option (yM × Nat × Int)
  | 0, _, _, _, _, _ => none
  | n + 1, M, cc, y1, x3, x4 => (cond (yrel 4 x4 7) (Option.bind (f_111 N M x3 0) fun t15 => (ylet ((y1 * 31) + (yw t15)) fun v16 => (Option.bind (f_111 N M x3 ((M 1 0) - 1)) fun t17 => (ylet ((v16 * 31) + (yw t17)) fun v18 => (ih62 M cc v18 (x3 + 1)))))) (ylet ((y1 * 31) + (yw (f_28 M x3 x4))) fun v19 => (f_6_69 N ih62 n M cc v19 x3 (x4 + 1))))
theorem t_6_69 {sc : List Int32} {dd : Nat} {N : Nat} {ih62 : yM → Nat → Int → Int → Option (yM × Nat × Int)} (hd : 310 ≤ dd) (ih62_ : ∀ {M : yM} {cc : Nat} {y1 : Int} {x3 : Int} {L : zL} (hL0 : L 0 = some (.ref 0)) (hL1 : L 1 = some (.long (yl y1))) (hL3 : L 3 = some (.int (yi x3))), yW sc zg_c6 zg_w6 dd 62 L [] M cc ((Option.map (fun t : yM × Nat × Int => (t.1, t.2.1, some (.long (yl t.2.2))))) (ih62 M cc y1 x3))) : ∀ (n : Nat) {M : yM} {cc : Nat} {y1 : Int} {x3 : Int} {x4 : Int} {L : zL} (hL0 : L 0 = some (.ref 0)) (hL1 : L 1 = some (.long (yl y1))) (hL3 : L 3 = some (.int (yi x3))) (hL4 : L 4 = some (.int (yi x4))), yW sc zg_c6 zg_w6 dd 69 L [] M cc ((Option.map (fun t : yM × Nat × Int => (t.1, t.2.1, some (.long (yl t.2.2))))) (f_6_69 N ih62 n M cc y1 x3 x4)) := by
  intro n
  induction n with
  | zero => intros; exact y_none
  | succ n IH =>
    intro M cc y1 x3 x4 L hL0 hL1 hL3 hL4
    rw [f_6_69]
    refine e_ld (t := 0) rfl (Or.inl ⟨rfl, Or.inr rfl⟩) hL4 rfl ?_
    refine e_ic (b := 7) rfl (by decide) (by decide) ?_
    refine e_cmp (Option.map (fun t : yM × Nat × Int => (t.1, t.2.1, some (.long (yl t.2.2))))) (q := 4) (by decide) rfl (fun h14 => ?_) (fun h14 => ?_)
    · refine e_ld (t := 3) rfl (Or.inr (Or.inr ⟨rfl, Or.inl rfl⟩)) hL1 rfl ?_
      refine e_lc (q := 31) rfl (by decide) (by decide) ?_
      refine e_lmul rfl ?_
      refine e_ld (t := 2) rfl (Or.inr (Or.inl ⟨rfl, Or.inl rfl⟩)) hL0 rfl ?_
      refine e_get (a := 0) (u := .ref 1) rfl rfl rfl (fun _ => rfl) ?_
      refine e_ld (t := 0) rfl (Or.inl ⟨rfl, Or.inl rfl⟩) hL3 rfl ?_
      refine e_ic (b := 0) rfl (by decide) (by decide) ?_
      refine e_objO (h0 := (fun t : Int => (M, cc, some (.int (yi t))))) (h := (fun t : yM × Nat × Int => (t.1, t.2.1, some (.long (yl t.2.2))))) (a := 1) (as := [.int (yi x3), .int (yi 0)]) rfl (by decide) rfl (Nat.le_of_ble_eq_true rfl) rfl (t_111 (by omega)) (fun t15 => ?_)
      refine e_i2l rfl ?_
      refine e_ladd rfl ?_
      refine e_lstl (g := (Option.map (fun t : yM × Nat × Int => (t.1, t.2.1, some (.long (yl t.2.2)))))) rfl (Or.inl rfl) (fun v16 => ?_)
      refine e_ld (t := 3) rfl (Or.inr (Or.inr ⟨rfl, Or.inl rfl⟩)) l_s2 rfl ?_
      refine e_lc (q := 31) rfl (by decide) (by decide) ?_
      refine e_lmul rfl ?_
      refine e_ld (t := 2) rfl (Or.inr (Or.inl ⟨rfl, Or.inl rfl⟩)) (l_kr2 (by decide) (by decide) hL0) rfl ?_
      refine e_get (a := 0) (u := .ref 1) rfl rfl rfl (fun _ => rfl) ?_
      refine e_ld (t := 0) rfl (Or.inl ⟨rfl, Or.inl rfl⟩) (l_ki2 (by decide) (by decide) hL3) rfl ?_
      refine e_ld (t := 2) rfl (Or.inr (Or.inl ⟨rfl, Or.inl rfl⟩)) (l_kr2 (by decide) (by decide) hL0) rfl ?_
      refine e_get (a := 0) (u := .ref 1) rfl rfl rfl (fun _ => rfl) ?_
      refine e_get (a := 1) (u := .int (yi (M 1 0))) rfl rfl rfl (fun _ => rfl) ?_
      refine e_ic (b := 1) rfl (by decide) (by decide) ?_
      refine e_sub rfl ?_
      refine e_objO (h0 := (fun t : Int => (M, cc, some (.int (yi t))))) (h := (fun t : yM × Nat × Int => (t.1, t.2.1, some (.long (yl t.2.2))))) (a := 1) (as := [.int (yi x3), .int (yi ((M 1 0) - 1))]) rfl (by decide) rfl (Nat.le_of_ble_eq_true rfl) rfl (t_111 (by omega)) (fun t17 => ?_)
      refine e_i2l rfl ?_
      refine e_ladd rfl ?_
      refine e_lstl (g := (Option.map (fun t : yM × Nat × Int => (t.1, t.2.1, some (.long (yl t.2.2)))))) rfl (Or.inl rfl) (fun v18 => ?_)
      refine e_inc (d := 1) rfl (l_ki2 (by decide) (by decide) (l_ki2 (by decide) (by decide) hL3)) (by decide) ?_
      refine e_go rfl ?_
      exact ih62_ (l_kr (by decide) (l_kr2 (by decide) (by decide) (l_kr2 (by decide) (by decide) hL0))) (l_kl (by decide) (by decide) l_s2) l_s
    · refine e_ld (t := 3) rfl (Or.inr (Or.inr ⟨rfl, Or.inl rfl⟩)) hL1 rfl ?_
      refine e_lc (q := 31) rfl (by decide) (by decide) ?_
      refine e_lmul rfl ?_
      refine e_ld (t := 2) rfl (Or.inr (Or.inl ⟨rfl, Or.inl rfl⟩)) hL0 rfl ?_
      refine e_ld (t := 0) rfl (Or.inl ⟨rfl, Or.inl rfl⟩) hL3 rfl ?_
      refine e_ld (t := 0) rfl (Or.inl ⟨rfl, Or.inr rfl⟩) hL4 rfl ?_
      refine e_obj (M1 := M) (cc1 := cc) (v1 := some (.int (yi (f_28 M x3 x4)))) (a := 0) (as := [.int (yi x3), .int (yi x4)]) rfl (by decide) rfl (Nat.le_of_ble_eq_true rfl) rfl (t_28 (by omega)) ?_
      refine e_i2l rfl ?_
      refine e_ladd rfl ?_
      refine e_lstl (g := (Option.map (fun t : yM × Nat × Int => (t.1, t.2.1, some (.long (yl t.2.2)))))) rfl (Or.inl rfl) (fun v19 => ?_)
      refine e_inc (d := 1) rfl (l_ki2 (by decide) (by decide) hL4) (by decide) ?_
      refine e_go rfl ?_
      exact IH (l_kr (by decide) (l_kr2 (by decide) (by decide) hL0)) (l_kl (by decide) (by decide) l_s2) (l_ki (by decide) (l_ki2 (by decide) (by decide) hL3)) l_s
def f_6_62 (N : Nat) : Nat → yM → Nat → Int → Int → Option (yM × Nat × Int)
  | 0, _, _, _, _ => none
  | n + 1, M, cc, y1, x3 => (cond (yrel 3 x3 (M 1 7)) (f_6_114 N N M cc y1 0) (f_6_69 N (f_6_62 N n) N M cc y1 x3 4))
theorem t_6_62 {sc : List Int32} {dd : Nat} {N : Nat} (hd : 310 ≤ dd) : ∀ (n : Nat) {M : yM} {cc : Nat} {y1 : Int} {x3 : Int} {L : zL} (hL0 : L 0 = some (.ref 0)) (hL1 : L 1 = some (.long (yl y1))) (hL3 : L 3 = some (.int (yi x3))), yW sc zg_c6 zg_w6 dd 62 L [] M cc ((Option.map (fun t : yM × Nat × Int => (t.1, t.2.1, some (.long (yl t.2.2))))) (f_6_62 N n M cc y1 x3)) := by
  intro n
  induction n with
  | zero => intros; exact y_none
  | succ n IH =>
    intro M cc y1 x3 L hL0 hL1 hL3
    rw [f_6_62]
    refine e_ld (t := 0) rfl (Or.inl ⟨rfl, Or.inl rfl⟩) hL3 rfl ?_
    refine e_ld (t := 2) rfl (Or.inr (Or.inl ⟨rfl, Or.inl rfl⟩)) hL0 rfl ?_
    refine e_get (a := 0) (u := .ref 1) rfl rfl rfl (fun _ => rfl) ?_
    refine e_get (a := 1) (u := .int (yi (M 1 7))) rfl rfl rfl (fun _ => rfl) ?_
    refine e_cmp (Option.map (fun t : yM × Nat × Int => (t.1, t.2.1, some (.long (yl t.2.2))))) (q := 3) (by decide) rfl (fun h5 => ?_) (fun h5 => ?_)
    · refine e_ic (b := 0) rfl (by decide) (by decide) ?_
      refine e_st (t := 0) rfl (Or.inl ⟨rfl, Or.inl rfl⟩) rfl ?_
      exact t_6_114 (by omega) N (l_kr (by decide) hL0) (l_kl (by decide) (by decide) hL1) l_s
    · refine e_ic (b := 4) rfl (by decide) (by decide) ?_
      refine e_st (t := 0) rfl (Or.inl ⟨rfl, Or.inr rfl⟩) rfl ?_
      exact t_6_69 (by omega) IH N (l_kr (by decide) hL0) (l_kl (by decide) (by decide) hL1) (l_ki (by decide) hL3) l_s
def f_6_48 (N : Nat) : Nat → yM → Nat → Int → Int → Option (yM × Nat × Int)
  | 0, _, _, _, _ => none
  | n + 1, M, cc, y1, x3 => (cond (yrel 3 x3 (M 1 4)) (f_6_62 N N M cc y1 0) (Option.bind (f_8 N M y1 x3) fun t20 => (f_6_48 N n M cc t20 (x3 + 1))))
theorem t_6_48 {sc : List Int32} {dd : Nat} {N : Nat} (hd : 310 ≤ dd) : ∀ (n : Nat) {M : yM} {cc : Nat} {y1 : Int} {x3 : Int} {L : zL} (hL0 : L 0 = some (.ref 0)) (hL1 : L 1 = some (.long (yl y1))) (hL3 : L 3 = some (.int (yi x3))), yW sc zg_c6 zg_w6 dd 48 L [] M cc ((Option.map (fun t : yM × Nat × Int => (t.1, t.2.1, some (.long (yl t.2.2))))) (f_6_48 N n M cc y1 x3)) := by
  intro n
  induction n with
  | zero => intros; exact y_none
  | succ n IH =>
    intro M cc y1 x3 L hL0 hL1 hL3
    rw [f_6_48]
    refine e_ld (t := 0) rfl (Or.inl ⟨rfl, Or.inl rfl⟩) hL3 rfl ?_
    refine e_ld (t := 2) rfl (Or.inr (Or.inl ⟨rfl, Or.inl rfl⟩)) hL0 rfl ?_
    refine e_get (a := 0) (u := .ref 1) rfl rfl rfl (fun _ => rfl) ?_
    refine e_get (a := 1) (u := .int (yi (M 1 4))) rfl rfl rfl (fun _ => rfl) ?_
    refine e_cmp (Option.map (fun t : yM × Nat × Int => (t.1, t.2.1, some (.long (yl t.2.2))))) (q := 3) (by decide) rfl (fun h4 => ?_) (fun h4 => ?_)
    · refine e_ic (b := 0) rfl (by decide) (by decide) ?_
      refine e_st (t := 0) rfl (Or.inl ⟨rfl, Or.inl rfl⟩) rfl ?_
      exact t_6_62 (by omega) N (l_kr (by decide) hL0) (l_kl (by decide) (by decide) hL1) l_s
    · refine e_ld (t := 2) rfl (Or.inr (Or.inl ⟨rfl, Or.inl rfl⟩)) hL0 rfl ?_
      refine e_ld (t := 3) rfl (Or.inr (Or.inr ⟨rfl, Or.inl rfl⟩)) hL1 rfl ?_
      refine e_ld (t := 0) rfl (Or.inl ⟨rfl, Or.inl rfl⟩) hL3 rfl ?_
      refine e_objO (h0 := (fun t : Int => (M, cc, some (.long (yl t))))) (h := (fun t : yM × Nat × Int => (t.1, t.2.1, some (.long (yl t.2.2))))) (a := 0) (as := [.long (yl y1), .int (yi x3)]) rfl (by decide) rfl (Nat.le_of_ble_eq_true rfl) rfl (t_8 (by omega)) (fun t20 => ?_)
      refine e_lst rfl (Or.inl rfl) ?_
      refine e_inc (d := 1) rfl (l_ki2 (by decide) (by decide) hL3) (by decide) ?_
      refine e_go rfl ?_
      exact IH (l_kr (by decide) (l_kr2 (by decide) (by decide) hL0)) (l_kl (by decide) (by decide) l_s2) l_s
def f_6_29 (N : Nat) (ih22 : yM → Nat → Int → Int → Option (yM × Nat × Int)) : Nat → yM → Nat → Int → Int → Int → Option (yM × Nat × Int)
  | 0, _, _, _, _, _ => none
  | n + 1, M, cc, y1, x3, x4 => (cond (yrel 4 x4 4) (ih22 M cc y1 (x3 + 1)) (Option.bind (f_26 N M x3 x4) fun t22 => (ylet ((y1 * 31) + (yw t22)) fun v23 => (f_6_29 N ih22 n M cc v23 x3 (x4 + 1)))))
theorem t_6_29 {sc : List Int32} {dd : Nat} {N : Nat} {ih22 : yM → Nat → Int → Int → Option (yM × Nat × Int)} (hd : 310 ≤ dd) (ih22_ : ∀ {M : yM} {cc : Nat} {y1 : Int} {x3 : Int} {L : zL} (hL0 : L 0 = some (.ref 0)) (hL1 : L 1 = some (.long (yl y1))) (hL3 : L 3 = some (.int (yi x3))), yW sc zg_c6 zg_w6 dd 22 L [] M cc ((Option.map (fun t : yM × Nat × Int => (t.1, t.2.1, some (.long (yl t.2.2))))) (ih22 M cc y1 x3))) : ∀ (n : Nat) {M : yM} {cc : Nat} {y1 : Int} {x3 : Int} {x4 : Int} {L : zL} (hL0 : L 0 = some (.ref 0)) (hL1 : L 1 = some (.long (yl y1))) (hL3 : L 3 = some (.int (yi x3))) (hL4 : L 4 = some (.int (yi x4))), yW sc zg_c6 zg_w6 dd 29 L [] M cc ((Option.map (fun t : yM × Nat × Int => (t.1, t.2.1, some (.long (yl t.2.2))))) (f_6_29 N ih22 n M cc y1 x3 x4)) := by
  intro n
  induction n with
  | zero => intros; exact y_none
  | succ n IH =>
    intro M cc y1 x3 x4 L hL0 hL1 hL3 hL4
    rw [f_6_29]
    refine e_ld (t := 0) rfl (Or.inl ⟨rfl, Or.inr rfl⟩) hL4 rfl ?_
    refine e_ic (b := 4) rfl (by decide) (by decide) ?_
    refine e_cmp (Option.map (fun t : yM × Nat × Int => (t.1, t.2.1, some (.long (yl t.2.2))))) (q := 4) (by decide) rfl (fun h21 => ?_) (fun h21 => ?_)
    · refine e_inc (d := 1) rfl hL3 (by decide) ?_
      refine e_go rfl ?_
      exact ih22_ (l_kr (by decide) hL0) (l_kl (by decide) (by decide) hL1) l_s
    · refine e_ld (t := 3) rfl (Or.inr (Or.inr ⟨rfl, Or.inl rfl⟩)) hL1 rfl ?_
      refine e_lc (q := 31) rfl (by decide) (by decide) ?_
      refine e_lmul rfl ?_
      refine e_ld (t := 2) rfl (Or.inr (Or.inl ⟨rfl, Or.inl rfl⟩)) hL0 rfl ?_
      refine e_ld (t := 0) rfl (Or.inl ⟨rfl, Or.inl rfl⟩) hL3 rfl ?_
      refine e_ld (t := 0) rfl (Or.inl ⟨rfl, Or.inr rfl⟩) hL4 rfl ?_
      refine e_objO (h0 := (fun t : Int => (M, cc, some (.int (yi t))))) (h := (fun t : yM × Nat × Int => (t.1, t.2.1, some (.long (yl t.2.2))))) (a := 0) (as := [.int (yi x3), .int (yi x4)]) rfl (by decide) rfl (Nat.le_of_ble_eq_true rfl) rfl (t_26 (by omega)) (fun t22 => ?_)
      refine e_i2l rfl ?_
      refine e_ladd rfl ?_
      refine e_lstl (g := (Option.map (fun t : yM × Nat × Int => (t.1, t.2.1, some (.long (yl t.2.2)))))) rfl (Or.inl rfl) (fun v23 => ?_)
      refine e_inc (d := 1) rfl (l_ki2 (by decide) (by decide) hL4) (by decide) ?_
      refine e_go rfl ?_
      exact IH (l_kr (by decide) (l_kr2 (by decide) (by decide) hL0)) (l_kl (by decide) (by decide) l_s2) (l_ki (by decide) (l_ki2 (by decide) (by decide) hL3)) l_s
def f_6_22 (N : Nat) : Nat → yM → Nat → Int → Int → Option (yM × Nat × Int)
  | 0, _, _, _, _ => none
  | n + 1, M, cc, y1, x3 => (cond (yrel 3 x3 (M 1 0)) (f_6_48 N N M cc y1 0) (f_6_29 N (f_6_22 N n) N M cc y1 x3 0))
theorem t_6_22 {sc : List Int32} {dd : Nat} {N : Nat} (hd : 310 ≤ dd) : ∀ (n : Nat) {M : yM} {cc : Nat} {y1 : Int} {x3 : Int} {L : zL} (hL0 : L 0 = some (.ref 0)) (hL1 : L 1 = some (.long (yl y1))) (hL3 : L 3 = some (.int (yi x3))), yW sc zg_c6 zg_w6 dd 22 L [] M cc ((Option.map (fun t : yM × Nat × Int => (t.1, t.2.1, some (.long (yl t.2.2))))) (f_6_22 N n M cc y1 x3)) := by
  intro n
  induction n with
  | zero => intros; exact y_none
  | succ n IH =>
    intro M cc y1 x3 L hL0 hL1 hL3
    rw [f_6_22]
    refine e_ld (t := 0) rfl (Or.inl ⟨rfl, Or.inl rfl⟩) hL3 rfl ?_
    refine e_ld (t := 2) rfl (Or.inr (Or.inl ⟨rfl, Or.inl rfl⟩)) hL0 rfl ?_
    refine e_get (a := 0) (u := .ref 1) rfl rfl rfl (fun _ => rfl) ?_
    refine e_get (a := 1) (u := .int (yi (M 1 0))) rfl rfl rfl (fun _ => rfl) ?_
    refine e_cmp (Option.map (fun t : yM × Nat × Int => (t.1, t.2.1, some (.long (yl t.2.2))))) (q := 3) (by decide) rfl (fun h3 => ?_) (fun h3 => ?_)
    · refine e_ic (b := 0) rfl (by decide) (by decide) ?_
      refine e_st (t := 0) rfl (Or.inl ⟨rfl, Or.inl rfl⟩) rfl ?_
      exact t_6_48 (by omega) N (l_kr (by decide) hL0) (l_kl (by decide) (by decide) hL1) l_s
    · refine e_ic (b := 0) rfl (by decide) (by decide) ?_
      refine e_st (t := 0) rfl (Or.inl ⟨rfl, Or.inr rfl⟩) rfl ?_
      exact t_6_29 (by omega) IH N (l_kr (by decide) hL0) (l_kl (by decide) (by decide) hL1) (l_ki (by decide) hL3) l_s
def f_6_6 (N : Nat) : Nat → yM → Nat → Int → Int → Option (yM × Nat × Int)
  | 0, _, _, _, _ => none
  | n + 1, M, cc, y1, x3 => (cond (yrel 4 x3 9) (f_6_22 N N M cc y1 0) (Option.bind (f_27 N M x3) fun t24 => (ylet ((y1 * 31) + (yw t24)) fun v25 => (f_6_6 N n M cc v25 (x3 + 1)))))
theorem t_6_6 {sc : List Int32} {dd : Nat} {N : Nat} (hd : 310 ≤ dd) : ∀ (n : Nat) {M : yM} {cc : Nat} {y1 : Int} {x3 : Int} {L : zL} (hL0 : L 0 = some (.ref 0)) (hL1 : L 1 = some (.long (yl y1))) (hL3 : L 3 = some (.int (yi x3))), yW sc zg_c6 zg_w6 dd 6 L [] M cc ((Option.map (fun t : yM × Nat × Int => (t.1, t.2.1, some (.long (yl t.2.2))))) (f_6_6 N n M cc y1 x3)) := by
  intro n
  induction n with
  | zero => intros; exact y_none
  | succ n IH =>
    intro M cc y1 x3 L hL0 hL1 hL3
    rw [f_6_6]
    refine e_ld (t := 0) rfl (Or.inl ⟨rfl, Or.inl rfl⟩) hL3 rfl ?_
    refine e_ic (b := 9) rfl (by decide) (by decide) ?_
    refine e_cmp (Option.map (fun t : yM × Nat × Int => (t.1, t.2.1, some (.long (yl t.2.2))))) (q := 4) (by decide) rfl (fun h2 => ?_) (fun h2 => ?_)
    · refine e_ic (b := 0) rfl (by decide) (by decide) ?_
      refine e_st (t := 0) rfl (Or.inl ⟨rfl, Or.inl rfl⟩) rfl ?_
      exact t_6_22 (by omega) N (l_kr (by decide) hL0) (l_kl (by decide) (by decide) hL1) l_s
    · refine e_ld (t := 3) rfl (Or.inr (Or.inr ⟨rfl, Or.inl rfl⟩)) hL1 rfl ?_
      refine e_lc (q := 31) rfl (by decide) (by decide) ?_
      refine e_lmul rfl ?_
      refine e_ld (t := 2) rfl (Or.inr (Or.inl ⟨rfl, Or.inl rfl⟩)) hL0 rfl ?_
      refine e_ld (t := 0) rfl (Or.inl ⟨rfl, Or.inl rfl⟩) hL3 rfl ?_
      refine e_objO (h0 := (fun t : Int => (M, cc, some (.int (yi t))))) (h := (fun t : yM × Nat × Int => (t.1, t.2.1, some (.long (yl t.2.2))))) (a := 0) (as := [.int (yi x3)]) rfl (by decide) rfl (Nat.le_of_ble_eq_true rfl) rfl (t_27 (by omega)) (fun t24 => ?_)
      refine e_i2l rfl ?_
      refine e_ladd rfl ?_
      refine e_lstl (g := (Option.map (fun t : yM × Nat × Int => (t.1, t.2.1, some (.long (yl t.2.2)))))) rfl (Or.inl rfl) (fun v25 => ?_)
      refine e_inc (d := 1) rfl (l_ki2 (by decide) (by decide) hL3) (by decide) ?_
      refine e_go rfl ?_
      exact IH (l_kr (by decide) (l_kr2 (by decide) (by decide) hL0)) (l_kl (by decide) (by decide) l_s2) l_s
def f_6 (N : Nat) (cc : Nat) (M : yM) : Option (yM × Nat × Int) := (Option.bind (f_31 N cc M) fun t1 => (f_6_6 N N (t1.1) (t1.2) 58128 0))
theorem t_6 {sc : List Int32} {dd cc : Nat} {N : Nat} {M : yM} (hd : 311 ≤ dd) : yP sc dd 6 [.ref 0] M cc ((Option.map (fun t : yM × Nat × Int => (t.1, t.2.1, some (.long (yl t.2.2))))) (f_6 N cc M)) := by
  obtain ⟨dd, rfl⟩ : ∃ e, dd = e + 1 := ⟨dd - 1, by omega⟩
  refine e_meth (C := zg_c6) (W := zg_w6) (ml := 5) rfl rfl (Nat.le_of_ble_eq_true rfl) ?_
  unfold f_6
  refine e_ld (t := 2) rfl (Or.inr (Or.inl ⟨rfl, Or.inl rfl⟩)) rfl rfl ?_
  refine e_objO (h0 := (fun t : yM × Nat => (t.1, t.2, none))) (h := (fun t : yM × Nat × Int => (t.1, t.2.1, some (.long (yl t.2.2))))) (a := 0) (as := []) rfl (by decide) rfl (Nat.le_of_ble_eq_true rfl) rfl (t_31 (by omega)) (fun t1 => ?_)
  refine e_lc (q := 58128) rfl (by decide) (by decide) ?_
  refine e_lst rfl (Or.inl rfl) ?_
  refine e_ic (b := 0) rfl (by decide) (by decide) ?_
  refine e_st (t := 0) rfl (Or.inl ⟨rfl, Or.inl rfl⟩) rfl ?_
  exact t_6_6 (by omega) N (l_kr (by decide) (l_kr2 (by decide) (by decide) rfl)) (l_kl (by decide) (by decide) l_s2) l_s
/-- UnwindTower.faultsWith -/
def f_11 (N : Nat) (cc : Nat) (M : yM) (x1 : Int) (x2 : Int) : Option (yM × Nat × Int) := (cond (yrel 1 (f_119 M x1) 0) (cond (yrel 1 (f_127 M x2) 0) (ylet (yrd M 5 x1) fun v3 => (ylet (ywr M 5 x1 x2) fun M4 => (ylet (yU M4 0 8 1) fun M5 => (Option.bind (f_31 N cc M5) fun t6 => (ylet (t6.1 18 4) fun v7 => (ylet (ywr t6.1 5 x1 v3) fun M8 => (ylet (yU M8 0 8 1) fun M9 => some (M9, t6.2, v7)))))))) none) none)
theorem t_11 {sc : List Int32} {dd cc : Nat} {N : Nat} {M : yM} {x1 : Int} {x2 : Int} (hd : 311 ≤ dd) : yP sc dd 11 [.ref 0, .int (yi x1), .int (yi x2)] M cc ((Option.map (fun t : yM × Nat × Int => (t.1, t.2.1, some (.int (yi t.2.2))))) (f_11 N cc M x1 x2)) := by
  obtain ⟨dd, rfl⟩ : ∃ e, dd = e + 1 := ⟨dd - 1, by omega⟩
  refine e_meth (C := zg_c11) (W := zg_w11) (ml := 5) rfl rfl (Nat.le_of_ble_eq_true rfl) ?_
  unfold f_11
  refine e_ld (t := 2) rfl (Or.inr (Or.inl ⟨rfl, Or.inl rfl⟩)) rfl rfl ?_
  refine e_get (a := 0) (u := .ref 1) rfl rfl rfl (fun _ => rfl) ?_
  refine e_ld (t := 0) rfl (Or.inl ⟨rfl, Or.inl rfl⟩) rfl rfl ?_
  refine e_obj (M1 := M) (cc1 := cc) (v1 := some (.int (yi (f_119 M x1)))) (a := 1) (as := [.int (yi x1)]) rfl (by decide) rfl (Nat.le_of_ble_eq_true rfl) rfl (t_119 (by omega)) ?_
  refine e_br (Option.map (fun t : yM × Nat × Int => (t.1, t.2.1, some (.int (yi t.2.2))))) (q := 1) (by decide) rfl (fun h1 => ?_) (fun h1 => ?_)
  · refine e_ld (t := 2) rfl (Or.inr (Or.inl ⟨rfl, Or.inl rfl⟩)) rfl rfl ?_
    refine e_get (a := 0) (u := .ref 1) rfl rfl rfl (fun _ => rfl) ?_
    refine e_ld (t := 0) rfl (Or.inl ⟨rfl, Or.inl rfl⟩) rfl rfl ?_
    refine e_obj (M1 := M) (cc1 := cc) (v1 := some (.int (yi (f_127 M x2)))) (a := 1) (as := [.int (yi x2)]) rfl (by decide) rfl (Nat.le_of_ble_eq_true rfl) rfl (t_127 (by omega)) ?_
    refine e_br (Option.map (fun t : yM × Nat × Int => (t.1, t.2.1, some (.int (yi t.2.2))))) (q := 1) (by decide) rfl (fun h2 => ?_) (fun h2 => ?_)
    · refine e_ld (t := 2) rfl (Or.inr (Or.inl ⟨rfl, Or.inl rfl⟩)) rfl rfl ?_
      refine e_get (a := 0) (u := .ref 1) rfl rfl rfl (fun _ => rfl) ?_
      refine e_get (a := 1) (u := .ref 5) rfl rfl rfl (fun _ => rfl) ?_
      refine e_ld (t := 0) rfl (Or.inl ⟨rfl, Or.inl rfl⟩) rfl rfl ?_
      refine e_at (a := 5) (by omega) rfl (by decide) (Nat.le_of_ble_eq_true rfl) rfl ?_
      refine e_stl (g := (Option.map (fun t : yM × Nat × Int => (t.1, t.2.1, some (.int (yi t.2.2)))))) rfl (Or.inl rfl) (fun v3 => ?_)
      refine e_ld (t := 2) rfl (Or.inr (Or.inl ⟨rfl, Or.inl rfl⟩)) (l_kr (by decide) rfl) rfl ?_
      refine e_get (a := 0) (u := .ref 1) rfl rfl rfl (fun _ => rfl) ?_
      refine e_get (a := 1) (u := .ref 5) rfl rfl rfl (fun _ => rfl) ?_
      refine e_ld (t := 0) rfl (Or.inl ⟨rfl, Or.inl rfl⟩) (l_ki (by decide) rfl) rfl ?_
      refine e_ld (t := 0) rfl (Or.inl ⟨rfl, Or.inl rfl⟩) (l_ki (by decide) rfl) rfl ?_
      refine e_wr (a := 5) (by omega) rfl (by decide) (Nat.le_of_ble_eq_true rfl) rfl ?_
      refine y_let (Option.map (fun t : yM × Nat × Int => (t.1, t.2.1, some (.int (yi t.2.2))))) (fun M4 => ?_)
      refine e_ld (t := 2) rfl (Or.inr (Or.inl ⟨rfl, Or.inl rfl⟩)) (l_kr (by decide) rfl) rfl ?_
      refine e_ic (b := 1) rfl (by decide) (by decide) ?_
      refine e_put (a := 0) rfl (Or.inl rfl) rfl rfl (Or.inr ⟨rfl, Or.inr rfl⟩) ?_
      refine y_let (Option.map (fun t : yM × Nat × Int => (t.1, t.2.1, some (.int (yi t.2.2))))) (fun M5 => ?_)
      refine e_ld (t := 2) rfl (Or.inr (Or.inl ⟨rfl, Or.inl rfl⟩)) (l_kr (by decide) rfl) rfl ?_
      refine e_objO (h0 := (fun t : yM × Nat => (t.1, t.2, none))) (h := (fun t : yM × Nat × Int => (t.1, t.2.1, some (.int (yi t.2.2))))) (a := 0) (as := []) rfl (by decide) rfl (Nat.le_of_ble_eq_true rfl) rfl (t_31 (by omega)) (fun t6 => ?_)
      refine e_ld (t := 2) rfl (Or.inr (Or.inl ⟨rfl, Or.inl rfl⟩)) (l_kr (by decide) rfl) rfl ?_
      refine e_get (a := 0) (u := .ref 18) rfl rfl rfl (fun _ => rfl) ?_
      refine e_get (a := 18) (u := .int (yi (t6.1 18 4))) rfl rfl rfl (fun _ => rfl) ?_
      refine e_stl (g := (Option.map (fun t : yM × Nat × Int => (t.1, t.2.1, some (.int (yi t.2.2)))))) rfl (Or.inr rfl) (fun v7 => ?_)
      refine e_ld (t := 2) rfl (Or.inr (Or.inl ⟨rfl, Or.inl rfl⟩)) (l_kr (by decide) (l_kr (by decide) rfl)) rfl ?_
      refine e_get (a := 0) (u := .ref 1) rfl rfl rfl (fun _ => rfl) ?_
      refine e_get (a := 1) (u := .ref 5) rfl rfl rfl (fun _ => rfl) ?_
      refine e_ld (t := 0) rfl (Or.inl ⟨rfl, Or.inl rfl⟩) (l_ki (by decide) (l_ki (by decide) rfl)) rfl ?_
      refine e_ld (t := 0) rfl (Or.inl ⟨rfl, Or.inl rfl⟩) (l_ki (by decide) l_s) rfl ?_
      refine e_wr (a := 5) (by omega) rfl (by decide) (Nat.le_of_ble_eq_true rfl) rfl ?_
      refine y_let (Option.map (fun t : yM × Nat × Int => (t.1, t.2.1, some (.int (yi t.2.2))))) (fun M8 => ?_)
      refine e_ld (t := 2) rfl (Or.inr (Or.inl ⟨rfl, Or.inl rfl⟩)) (l_kr (by decide) (l_kr (by decide) rfl)) rfl ?_
      refine e_ic (b := 1) rfl (by decide) (by decide) ?_
      refine e_put (a := 0) rfl (Or.inl rfl) rfl rfl (Or.inr ⟨rfl, Or.inr rfl⟩) ?_
      refine y_let (Option.map (fun t : yM × Nat × Int => (t.1, t.2.1, some (.int (yi t.2.2))))) (fun M9 => ?_)
      refine e_ld (t := 0) rfl (Or.inl ⟨rfl, Or.inr rfl⟩) l_s rfl ?_
      exact e_iret rfl (Or.inl rfl)
    · exact y_none
  · exact y_none
/-- UnwindTower.many -/
def f_17 (N : Nat) (cc : Nat) (M : yM) (x1 : Int) : Option (yM × Nat × Int) := (cond (yrel 2 x1 0) none (cond (yrel 5 x1 9) (Option.bind (f_31 N cc M) fun t3 => (Option.bind (f_27 N t3.1 x1) fun t4 => some (t3.1, t3.2, t4))) none))
theorem t_17 {sc : List Int32} {dd cc : Nat} {N : Nat} {M : yM} {x1 : Int} (hd : 311 ≤ dd) : yP sc dd 17 [.ref 0, .int (yi x1)] M cc ((Option.map (fun t : yM × Nat × Int => (t.1, t.2.1, some (.int (yi t.2.2))))) (f_17 N cc M x1)) := by
  obtain ⟨dd, rfl⟩ : ∃ e, dd = e + 1 := ⟨dd - 1, by omega⟩
  refine e_meth (C := zg_c17) (W := zg_w17) (ml := 2) rfl rfl (Nat.le_of_ble_eq_true rfl) ?_
  unfold f_17
  refine e_ld (t := 0) rfl (Or.inl ⟨rfl, Or.inl rfl⟩) rfl rfl ?_
  refine e_br (Option.map (fun t : yM × Nat × Int => (t.1, t.2.1, some (.int (yi t.2.2))))) (q := 2) (by decide) rfl (fun h1 => ?_) (fun h1 => ?_)
  · exact y_none
  · refine e_ld (t := 0) rfl (Or.inl ⟨rfl, Or.inl rfl⟩) rfl rfl ?_
    refine e_ic (b := 9) rfl (by decide) (by decide) ?_
    refine e_cmp (Option.map (fun t : yM × Nat × Int => (t.1, t.2.1, some (.int (yi t.2.2))))) (q := 5) (by decide) rfl (fun h2 => ?_) (fun h2 => ?_)
    · refine e_ld (t := 2) rfl (Or.inr (Or.inl ⟨rfl, Or.inl rfl⟩)) rfl rfl ?_
      refine e_objO (h0 := (fun t : yM × Nat => (t.1, t.2, none))) (h := (fun t : yM × Nat × Int => (t.1, t.2.1, some (.int (yi t.2.2))))) (a := 0) (as := []) rfl (by decide) rfl (Nat.le_of_ble_eq_true rfl) rfl (t_31 (by omega)) (fun t3 => ?_)
      refine e_ld (t := 2) rfl (Or.inr (Or.inl ⟨rfl, Or.inl rfl⟩)) rfl rfl ?_
      refine e_ld (t := 0) rfl (Or.inl ⟨rfl, Or.inl rfl⟩) rfl rfl ?_
      refine e_objO (h0 := (fun t : Int => (t3.1, t3.2, some (.int (yi t))))) (h := (fun t : yM × Nat × Int => (t.1, t.2.1, some (.int (yi t.2.2))))) (a := 0) (as := [.int (yi x1)]) rfl (by decide) rfl (Nat.le_of_ble_eq_true rfl) rfl (t_27 (by omega)) (fun t4 => ?_)
      exact e_iret rfl (Or.inl rfl)
    · exact y_none
/-- UnwindTower.ofNode -/
def f_19 (N : Nat) (cc : Nat) (M : yM) (x1 : Int) (x2 : Int) : Option (yM × Nat × Int) := (cond (yrel 1 (f_118 M x1) 0) (cond (yrel 2 x2 0) none (cond (yrel 5 x2 7) (Option.bind (f_31 N cc M) fun t4 => some (t4.1, t4.2, (f_28 t4.1 x1 x2))) none)) none)
theorem t_19 {sc : List Int32} {dd cc : Nat} {N : Nat} {M : yM} {x1 : Int} {x2 : Int} (hd : 311 ≤ dd) : yP sc dd 19 [.ref 0, .int (yi x1), .int (yi x2)] M cc ((Option.map (fun t : yM × Nat × Int => (t.1, t.2.1, some (.int (yi t.2.2))))) (f_19 N cc M x1 x2)) := by
  obtain ⟨dd, rfl⟩ : ∃ e, dd = e + 1 := ⟨dd - 1, by omega⟩
  refine e_meth (C := zg_c19) (W := zg_w19) (ml := 3) rfl rfl (Nat.le_of_ble_eq_true rfl) ?_
  unfold f_19
  refine e_ld (t := 2) rfl (Or.inr (Or.inl ⟨rfl, Or.inl rfl⟩)) rfl rfl ?_
  refine e_get (a := 0) (u := .ref 1) rfl rfl rfl (fun _ => rfl) ?_
  refine e_ld (t := 0) rfl (Or.inl ⟨rfl, Or.inl rfl⟩) rfl rfl ?_
  refine e_obj (M1 := M) (cc1 := cc) (v1 := some (.int (yi (f_118 M x1)))) (a := 1) (as := [.int (yi x1)]) rfl (by decide) rfl (Nat.le_of_ble_eq_true rfl) rfl (t_118 (by omega)) ?_
  refine e_br (Option.map (fun t : yM × Nat × Int => (t.1, t.2.1, some (.int (yi t.2.2))))) (q := 1) (by decide) rfl (fun h1 => ?_) (fun h1 => ?_)
  · refine e_ld (t := 0) rfl (Or.inl ⟨rfl, Or.inl rfl⟩) rfl rfl ?_
    refine e_br (Option.map (fun t : yM × Nat × Int => (t.1, t.2.1, some (.int (yi t.2.2))))) (q := 2) (by decide) rfl (fun h2 => ?_) (fun h2 => ?_)
    · exact y_none
    · refine e_ld (t := 0) rfl (Or.inl ⟨rfl, Or.inl rfl⟩) rfl rfl ?_
      refine e_ic (b := 7) rfl (by decide) (by decide) ?_
      refine e_cmp (Option.map (fun t : yM × Nat × Int => (t.1, t.2.1, some (.int (yi t.2.2))))) (q := 5) (by decide) rfl (fun h3 => ?_) (fun h3 => ?_)
      · refine e_ld (t := 2) rfl (Or.inr (Or.inl ⟨rfl, Or.inl rfl⟩)) rfl rfl ?_
        refine e_objO (h0 := (fun t : yM × Nat => (t.1, t.2, none))) (h := (fun t : yM × Nat × Int => (t.1, t.2.1, some (.int (yi t.2.2))))) (a := 0) (as := []) rfl (by decide) rfl (Nat.le_of_ble_eq_true rfl) rfl (t_31 (by omega)) (fun t4 => ?_)
        refine e_ld (t := 2) rfl (Or.inr (Or.inl ⟨rfl, Or.inl rfl⟩)) rfl rfl ?_
        refine e_ld (t := 0) rfl (Or.inl ⟨rfl, Or.inl rfl⟩) rfl rfl ?_
        refine e_ld (t := 0) rfl (Or.inl ⟨rfl, Or.inl rfl⟩) rfl rfl ?_
        refine e_obj (M1 := t4.1) (cc1 := t4.2) (v1 := some (.int (yi (f_28 t4.1 x1 x2)))) (a := 0) (as := [.int (yi x1), .int (yi x2)]) rfl (by decide) rfl (Nat.le_of_ble_eq_true rfl) rfl (t_28 (by omega)) ?_
        exact e_iret rfl (Or.inl rfl)
      · exact y_none
  · exact y_none
/-- UnwindTower.ofProcedure -/
def f_20 (N : Nat) (cc : Nat) (M : yM) (x1 : Int) (x2 : Int) : Option (yM × Nat × Int) := (cond (yrel 1 (f_119 M x1) 0) (cond (yrel 2 x2 0) none (cond (yrel 5 x2 5) (Option.bind (f_31 N cc M) fun t4 => some (t4.1, t4.2, (f_29 t4.1 x1 x2))) none)) none)
theorem t_20 {sc : List Int32} {dd cc : Nat} {N : Nat} {M : yM} {x1 : Int} {x2 : Int} (hd : 311 ≤ dd) : yP sc dd 20 [.ref 0, .int (yi x1), .int (yi x2)] M cc ((Option.map (fun t : yM × Nat × Int => (t.1, t.2.1, some (.int (yi t.2.2))))) (f_20 N cc M x1 x2)) := by
  obtain ⟨dd, rfl⟩ : ∃ e, dd = e + 1 := ⟨dd - 1, by omega⟩
  refine e_meth (C := zg_c20) (W := zg_w20) (ml := 3) rfl rfl (Nat.le_of_ble_eq_true rfl) ?_
  unfold f_20
  refine e_ld (t := 2) rfl (Or.inr (Or.inl ⟨rfl, Or.inl rfl⟩)) rfl rfl ?_
  refine e_get (a := 0) (u := .ref 1) rfl rfl rfl (fun _ => rfl) ?_
  refine e_ld (t := 0) rfl (Or.inl ⟨rfl, Or.inl rfl⟩) rfl rfl ?_
  refine e_obj (M1 := M) (cc1 := cc) (v1 := some (.int (yi (f_119 M x1)))) (a := 1) (as := [.int (yi x1)]) rfl (by decide) rfl (Nat.le_of_ble_eq_true rfl) rfl (t_119 (by omega)) ?_
  refine e_br (Option.map (fun t : yM × Nat × Int => (t.1, t.2.1, some (.int (yi t.2.2))))) (q := 1) (by decide) rfl (fun h1 => ?_) (fun h1 => ?_)
  · refine e_ld (t := 0) rfl (Or.inl ⟨rfl, Or.inl rfl⟩) rfl rfl ?_
    refine e_br (Option.map (fun t : yM × Nat × Int => (t.1, t.2.1, some (.int (yi t.2.2))))) (q := 2) (by decide) rfl (fun h2 => ?_) (fun h2 => ?_)
    · exact y_none
    · refine e_ld (t := 0) rfl (Or.inl ⟨rfl, Or.inl rfl⟩) rfl rfl ?_
      refine e_ic (b := 5) rfl (by decide) (by decide) ?_
      refine e_cmp (Option.map (fun t : yM × Nat × Int => (t.1, t.2.1, some (.int (yi t.2.2))))) (q := 5) (by decide) rfl (fun h3 => ?_) (fun h3 => ?_)
      · refine e_ld (t := 2) rfl (Or.inr (Or.inl ⟨rfl, Or.inl rfl⟩)) rfl rfl ?_
        refine e_objO (h0 := (fun t : yM × Nat => (t.1, t.2, none))) (h := (fun t : yM × Nat × Int => (t.1, t.2.1, some (.int (yi t.2.2))))) (a := 0) (as := []) rfl (by decide) rfl (Nat.le_of_ble_eq_true rfl) rfl (t_31 (by omega)) (fun t4 => ?_)
        refine e_ld (t := 2) rfl (Or.inr (Or.inl ⟨rfl, Or.inl rfl⟩)) rfl rfl ?_
        refine e_ld (t := 0) rfl (Or.inl ⟨rfl, Or.inl rfl⟩) rfl rfl ?_
        refine e_ld (t := 0) rfl (Or.inl ⟨rfl, Or.inl rfl⟩) rfl rfl ?_
        refine e_obj (M1 := t4.1) (cc1 := t4.2) (v1 := some (.int (yi (f_29 t4.1 x1 x2)))) (a := 0) (as := [.int (yi x1), .int (yi x2)]) rfl (by decide) rfl (Nat.le_of_ble_eq_true rfl) rfl (t_29 (by omega)) ?_
        exact e_iret rfl (Or.inl rfl)
      · exact y_none
  · exact y_none
/-- UnwindTower.run -/
def f_33 (N : Nat) (cc : Nat) (M : yM) : Option (yM × Nat × Int) := (Option.bind (f_31 N cc M) fun t1 => (cond (yrel 5 (t1.1 18 4) 0) (Option.bind (f_89 N t1.1 196 (t1.1 0 9) (t1.1 0 10)) fun t3 => (ylet (yU t3 0 11 ((t3 0 11) + 1)) fun M4 => some (M4, t1.2, (yrd M4 (196 + 13) 0)))) none))
theorem t_33 {sc : List Int32} {dd cc : Nat} {N : Nat} {M : yM} (hd : 311 ≤ dd) : yP sc dd 33 [.ref 0] M cc ((Option.map (fun t : yM × Nat × Int => (t.1, t.2.1, some (.int (yi t.2.2))))) (f_33 N cc M)) := by
  obtain ⟨dd, rfl⟩ : ∃ e, dd = e + 1 := ⟨dd - 1, by omega⟩
  refine e_meth (C := zg_c33) (W := zg_w33) (ml := 1) rfl rfl (Nat.le_of_ble_eq_true rfl) ?_
  unfold f_33
  refine e_ld (t := 2) rfl (Or.inr (Or.inl ⟨rfl, Or.inl rfl⟩)) rfl rfl ?_
  refine e_objO (h0 := (fun t : yM × Nat => (t.1, t.2, none))) (h := (fun t : yM × Nat × Int => (t.1, t.2.1, some (.int (yi t.2.2))))) (a := 0) (as := []) rfl (by decide) rfl (Nat.le_of_ble_eq_true rfl) rfl (t_31 (by omega)) (fun t1 => ?_)
  refine e_ld (t := 2) rfl (Or.inr (Or.inl ⟨rfl, Or.inl rfl⟩)) rfl rfl ?_
  refine e_get (a := 0) (u := .ref 18) rfl rfl rfl (fun _ => rfl) ?_
  refine e_get (a := 18) (u := .int (yi (t1.1 18 4))) rfl rfl rfl (fun _ => rfl) ?_
  refine e_br (Option.map (fun t : yM × Nat × Int => (t.1, t.2.1, some (.int (yi t.2.2))))) (q := 5) (by decide) rfl (fun h2 => ?_) (fun h2 => ?_)
  · refine e_ld (t := 2) rfl (Or.inr (Or.inl ⟨rfl, Or.inl rfl⟩)) rfl rfl ?_
    refine e_get (a := 0) (u := .ref 196) rfl rfl rfl (fun _ => rfl) ?_
    refine e_ld (t := 2) rfl (Or.inr (Or.inl ⟨rfl, Or.inl rfl⟩)) rfl rfl ?_
    refine e_get (a := 0) (u := .int (yi (t1.1 0 9))) rfl rfl rfl (fun _ => rfl) ?_
    refine e_ld (t := 2) rfl (Or.inr (Or.inl ⟨rfl, Or.inl rfl⟩)) rfl rfl ?_
    refine e_get (a := 0) (u := .int (yi (t1.1 0 10))) rfl rfl rfl (fun _ => rfl) ?_
    refine e_objO (h0 := (fun t : yM => (t, t1.2, none))) (h := (fun t : yM × Nat × Int => (t.1, t.2.1, some (.int (yi t.2.2))))) (a := 196) (as := [.int (yi (t1.1 0 9)), .int (yi (t1.1 0 10))]) rfl (by decide) rfl (Nat.le_of_ble_eq_true rfl) (fM (Or.inl rfl)) (t_89 (by omega) (Or.inl rfl)) (fun t3 => ?_)
    refine e_ld (t := 2) rfl (Or.inr (Or.inl ⟨rfl, Or.inl rfl⟩)) rfl rfl ?_
    refine e_dup rfl (Or.inr ⟨_, rfl⟩) ?_
    refine e_get (a := 0) (u := .int (yi (t3 0 11))) rfl rfl rfl (fun _ => rfl) ?_
    refine e_ic (b := 1) rfl (by decide) (by decide) ?_
    refine e_add rfl ?_
    refine e_put (a := 0) rfl (Or.inl rfl) rfl rfl (Or.inl rfl) ?_
    refine y_let (Option.map (fun t : yM × Nat × Int => (t.1, t.2.1, some (.int (yi t.2.2))))) (fun M4 => ?_)
    refine e_ld (t := 2) rfl (Or.inr (Or.inl ⟨rfl, Or.inl rfl⟩)) rfl rfl ?_
    refine e_get (a := 0) (u := .ref 196) rfl rfl rfl (fun _ => rfl) ?_
    refine e_get (a := 196) (u := .ref (196 + 13)) rfl (fM (Or.inl rfl)) rfl (fun _ => rfl) ?_
    refine e_ic (b := 0) rfl (by decide) (by decide) ?_
    refine e_at (a := (196 + 13)) (by omega) rfl (by decide) (Nat.le_of_ble_eq_true rfl) (nM_13 (Or.inl rfl)) ?_
    exact e_iret rfl (Or.inl rfl)
  · exact y_none
/-- UnwindTower.wouldRun -/
def f_37 (N : Nat) (cc : Nat) (M : yM) (x1 : Int) (x2 : Int) (x3 : Int) : Option (yM × Nat × Int) := (cond (yrel 0 (f_1 M x1 x2) 0) none (cond (yrel 2 x3 0) none (cond (yrel 5 x3 8) (Option.bind (f_31 N cc M) fun t4 => (cond (yrel 5 (t4.1 18 4) 0) (Option.bind (f_89 N t4.1 306 x1 x2) fun t6 => some (t6, t4.2, (yrd t6 (306 + 13) x3))) none)) none)))
theorem t_37 {sc : List Int32} {dd cc : Nat} {N : Nat} {M : yM} {x1 : Int} {x2 : Int} {x3 : Int} (hd : 311 ≤ dd) : yP sc dd 37 [.ref 0, .int (yi x1), .int (yi x2), .int (yi x3)] M cc ((Option.map (fun t : yM × Nat × Int => (t.1, t.2.1, some (.int (yi t.2.2))))) (f_37 N cc M x1 x2 x3)) := by
  obtain ⟨dd, rfl⟩ : ∃ e, dd = e + 1 := ⟨dd - 1, by omega⟩
  refine e_meth (C := zg_c37) (W := zg_w37) (ml := 4) rfl rfl (Nat.le_of_ble_eq_true rfl) ?_
  unfold f_37
  refine e_ld (t := 0) rfl (Or.inl ⟨rfl, Or.inl rfl⟩) rfl rfl ?_
  refine e_ld (t := 0) rfl (Or.inl ⟨rfl, Or.inl rfl⟩) rfl rfl ?_
  refine e_stat (M1 := M) (cc1 := cc) (v1 := some (.int (yi (f_1 M x1 x2)))) (as := [.int (yi x1), .int (yi x2)]) rfl (by decide) rfl (Nat.le_of_ble_eq_true rfl) (t_1 (by omega)) ?_
  refine e_br (Option.map (fun t : yM × Nat × Int => (t.1, t.2.1, some (.int (yi t.2.2))))) (q := 0) (by decide) rfl (fun h1 => ?_) (fun h1 => ?_)
  · exact y_none
  · refine e_ld (t := 0) rfl (Or.inl ⟨rfl, Or.inl rfl⟩) rfl rfl ?_
    refine e_br (Option.map (fun t : yM × Nat × Int => (t.1, t.2.1, some (.int (yi t.2.2))))) (q := 2) (by decide) rfl (fun h2 => ?_) (fun h2 => ?_)
    · exact y_none
    · refine e_ld (t := 0) rfl (Or.inl ⟨rfl, Or.inl rfl⟩) rfl rfl ?_
      refine e_ic (b := 8) rfl (by decide) (by decide) ?_
      refine e_cmp (Option.map (fun t : yM × Nat × Int => (t.1, t.2.1, some (.int (yi t.2.2))))) (q := 5) (by decide) rfl (fun h3 => ?_) (fun h3 => ?_)
      · refine e_ld (t := 2) rfl (Or.inr (Or.inl ⟨rfl, Or.inl rfl⟩)) rfl rfl ?_
        refine e_objO (h0 := (fun t : yM × Nat => (t.1, t.2, none))) (h := (fun t : yM × Nat × Int => (t.1, t.2.1, some (.int (yi t.2.2))))) (a := 0) (as := []) rfl (by decide) rfl (Nat.le_of_ble_eq_true rfl) rfl (t_31 (by omega)) (fun t4 => ?_)
        refine e_ld (t := 2) rfl (Or.inr (Or.inl ⟨rfl, Or.inl rfl⟩)) rfl rfl ?_
        refine e_get (a := 0) (u := .ref 18) rfl rfl rfl (fun _ => rfl) ?_
        refine e_get (a := 18) (u := .int (yi (t4.1 18 4))) rfl rfl rfl (fun _ => rfl) ?_
        refine e_br (Option.map (fun t : yM × Nat × Int => (t.1, t.2.1, some (.int (yi t.2.2))))) (q := 5) (by decide) rfl (fun h5 => ?_) (fun h5 => ?_)
        · refine e_ld (t := 2) rfl (Or.inr (Or.inl ⟨rfl, Or.inl rfl⟩)) rfl rfl ?_
          refine e_get (a := 0) (u := .ref 306) rfl rfl rfl (fun _ => rfl) ?_
          refine e_ld (t := 0) rfl (Or.inl ⟨rfl, Or.inl rfl⟩) rfl rfl ?_
          refine e_ld (t := 0) rfl (Or.inl ⟨rfl, Or.inl rfl⟩) rfl rfl ?_
          refine e_objO (h0 := (fun t : yM => (t, t4.2, none))) (h := (fun t : yM × Nat × Int => (t.1, t.2.1, some (.int (yi t.2.2))))) (a := 306) (as := [.int (yi x1), .int (yi x2)]) rfl (by decide) rfl (Nat.le_of_ble_eq_true rfl) (fM (Or.inr rfl)) (t_89 (by omega) (Or.inr rfl)) (fun t6 => ?_)
          refine e_ld (t := 2) rfl (Or.inr (Or.inl ⟨rfl, Or.inl rfl⟩)) rfl rfl ?_
          refine e_get (a := 0) (u := .ref 306) rfl rfl rfl (fun _ => rfl) ?_
          refine e_get (a := 306) (u := .ref (306 + 13)) rfl (fM (Or.inr rfl)) rfl (fun _ => rfl) ?_
          refine e_ld (t := 0) rfl (Or.inl ⟨rfl, Or.inl rfl⟩) rfl rfl ?_
          refine e_at (a := (306 + 13)) (by omega) rfl (by decide) (Nat.le_of_ble_eq_true rfl) (nM_13 (Or.inr rfl)) ?_
          exact e_iret rfl (Or.inl rfl)
        · exact y_none
      · exact y_none
