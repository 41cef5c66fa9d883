/-! methods as functions of the numbers, with their ties (4) -/
/-- UnwindTower$Compiler.layFinallyRows -/
def f_56_15 (N : Nat) (cc : Nat) : Nat → yM → Int → Int → Int → Int → Option (yM)
  | 0, _, _, _, _, _ => none
  | n + 1, M, x2, x5, x6, x7 => (cond (yrel 2 x6 0) (some M) (cond (yrel 5 x7 0) (some M) (Option.bind (f_61 N cc M (yrd M 103 x6) (yrd M 104 x6) x2 x5 (-1)) fun t5 => (ylet (yrd t5 10 x6) fun v6 => (f_56_15 N cc n t5 x2 x5 v6 (x7 + (-1)))))))
theorem t_56_15 {sc : List Int32} {dd cc : Nat} {N : Nat} (hd : 4 ≤ dd) (hcc : pC cc) : ∀ (n : Nat) {M : yM} {x2 : Int} {x5 : Int} {x6 : Int} {x7 : Int} {L : zL} (hL0 : L 0 = some (.ref 96)) (hL2 : L 2 = some (.int (yi x2))) (hL5 : L 5 = some (.int (yi x5))) (hL6 : L 6 = some (.int (yi x6))) (hL7 : L 7 = some (.int (yi x7))), yW sc zg_c56 zg_w56 dd 15 L [] M cc ((Option.map (fun t : yM => (t, cc, none))) (f_56_15 N cc n M x2 x5 x6 x7)) := by
  intro n
  induction n with
  | zero => intros; exact y_none
  | succ n IH =>
    intro M x2 x5 x6 x7 L hL0 hL2 hL5 hL6 hL7
    rw [f_56_15]
    refine e_ld (t := 0) rfl (Or.inl ⟨rfl, Or.inr rfl⟩) hL6 rfl ?_
    refine e_br (Option.map (fun t : yM => (t, cc, none))) (q := 2) (by decide) rfl (fun h3 => ?_) (fun h3 => ?_)
    · exact e_vret rfl
    · refine e_ld (t := 0) rfl (Or.inl ⟨rfl, Or.inr rfl⟩) hL7 rfl ?_
      refine e_br (Option.map (fun t : yM => (t, cc, none))) (q := 5) (by decide) rfl (fun h4 => ?_) (fun h4 => ?_)
      · exact e_vret rfl
      · refine e_ld (t := 2) rfl (Or.inr (Or.inl ⟨rfl, Or.inl rfl⟩)) hL0 rfl ?_
        refine e_ld (t := 2) rfl (Or.inr (Or.inl ⟨rfl, Or.inl rfl⟩)) hL0 rfl ?_
        refine e_get (a := 96) (u := .ref 103) rfl rfl rfl (fun _ => rfl) ?_
        refine e_ld (t := 0) rfl (Or.inl ⟨rfl, Or.inr rfl⟩) hL6 rfl ?_
        refine e_at (a := 103) (by omega) rfl (by decide) (Nat.le_of_ble_eq_true rfl) rfl ?_
        refine e_ld (t := 2) rfl (Or.inr (Or.inl ⟨rfl, Or.inl rfl⟩)) hL0 rfl ?_
        refine e_get (a := 96) (u := .ref 104) rfl rfl rfl (fun _ => rfl) ?_
        refine e_ld (t := 0) rfl (Or.inl ⟨rfl, Or.inr rfl⟩) hL6 rfl ?_
        refine e_at (a := 104) (by omega) rfl (by decide) (Nat.le_of_ble_eq_true rfl) rfl ?_
        refine e_ld (t := 0) rfl (Or.inl ⟨rfl, Or.inl rfl⟩) hL2 rfl ?_
        refine e_ld (t := 0) rfl (Or.inl ⟨rfl, Or.inr rfl⟩) hL5 rfl ?_
        refine e_ic (b := (-1)) rfl (by decide) (by decide) ?_
        refine e_objO (h0 := (fun t : yM => (t, cc, none))) (h := (fun t : yM => (t, cc, none))) (a := 96) (as := [.int (yi (yrd M 103 x6)), .int (yi (yrd M 104 x6)), .int (yi x2), .int (yi x5), .int (yi (-1))]) rfl (by decide) rfl (Nat.le_of_ble_eq_true rfl) rfl (t_61 (by omega) hcc) (fun t5 => ?_)
        refine e_ld (t := 2) rfl (Or.inr (Or.inl ⟨rfl, Or.inl rfl⟩)) hL0 rfl ?_
        refine e_get (a := 96) (u := .ref 1) rfl rfl rfl (fun _ => rfl) ?_
        refine e_get (a := 1) (u := .ref 10) rfl rfl rfl (fun _ => rfl) ?_
        refine e_ld (t := 0) rfl (Or.inl ⟨rfl, Or.inr rfl⟩) hL6 rfl ?_
        refine e_at (a := 10) (by omega) rfl (by decide) (Nat.le_of_ble_eq_true rfl) rfl ?_
        refine e_stl (g := (Option.map (fun t : yM => (t, cc, none)))) rfl (Or.inr rfl) (fun v6 => ?_)
        refine e_inc (d := (-1)) rfl (l_ki (by decide) hL7) (by decide) ?_
        refine e_go rfl ?_
        exact IH (l_kr (by decide) (l_kr (by decide) hL0)) (l_ki (by decide) (l_ki (by decide) hL2)) (l_ki (by decide) (l_ki (by decide) hL5)) (l_ki (by decide) l_s) l_s
def f_56 (N : Nat) (cc : Nat) (M : yM) (x1 : Int) (x2 : Int) (x3 : Int) (x4 : Int) (x5 : Int) : Option (yM) := (Option.bind (f_61 N cc M x3 x4 x2 x5 (-1)) fun t1 => (ylet (yrd t1 10 x1) fun v2 => (f_56_15 N cc N t1 x2 x5 v2 90)))
theorem t_56 {sc : List Int32} {dd cc : Nat} {N : Nat} {M : yM} {x1 : Int} {x2 : Int} {x3 : Int} {x4 : Int} {x5 : Int} (hd : 5 ≤ dd) (hcc : pC cc) : yP sc dd 56 [.ref 96, .int (yi x1), .int (yi x2), .int (yi x3), .int (yi x4), .int (yi x5)] M cc ((Option.map (fun t : yM => (t, cc, none))) (f_56 N cc M x1 x2 x3 x4 x5)) := by
  obtain ⟨dd, rfl⟩ : ∃ e, dd = e + 1 := ⟨dd - 1, by omega⟩
  refine e_meth (C := zg_c56) (W := zg_w56) (ml := 8) rfl rfl (Nat.le_of_ble_eq_true rfl) ?_
  unfold f_56
  refine e_ld (t := 2) rfl (Or.inr (Or.inl ⟨rfl, Or.inl rfl⟩)) rfl rfl ?_
  refine e_ld (t := 0) rfl (Or.inl ⟨rfl, Or.inl rfl⟩) rfl rfl ?_
  refine e_ld (t := 0) rfl (Or.inl ⟨rfl, Or.inr rfl⟩) rfl rfl ?_
  refine e_ld (t := 0) rfl (Or.inl ⟨rfl, Or.inl rfl⟩) rfl rfl ?_
  refine e_ld (t := 0) rfl (Or.inl ⟨rfl, Or.inr rfl⟩) rfl rfl ?_
  refine e_ic (b := (-1)) rfl (by decide) (by decide) ?_
  refine e_objO (h0 := (fun t : yM => (t, cc, none))) (h := (fun t : yM => (t, cc, none))) (a := 96) (as := [.int (yi x3), .int (yi x4), .int (yi x2), .int (yi x5), .int (yi (-1))]) rfl (by decide) rfl (Nat.le_of_ble_eq_true rfl) rfl (t_61 (by omega) hcc) (fun t1 => ?_)
  refine e_ld (t := 2) rfl (Or.inr (Or.inl ⟨rfl, Or.inl rfl⟩)) rfl rfl ?_
  refine e_get (a := 96) (u := .ref 1) rfl rfl rfl (fun _ => rfl) ?_
  refine e_get (a := 1) (u := .ref 10) rfl rfl rfl (fun _ => rfl) ?_
  refine e_ld (t := 0) rfl (Or.inl ⟨rfl, Or.inl rfl⟩) rfl rfl ?_
  refine e_at (a := 10) (by omega) rfl (by decide) (Nat.le_of_ble_eq_true rfl) rfl ?_
  refine e_stl (g := (Option.map (fun t : yM => (t, cc, none)))) rfl (Or.inr rfl) (fun v2 => ?_)
  refine e_ic (b := 90) rfl (by decide) (by decide) ?_
  refine e_st (t := 0) rfl (Or.inl ⟨rfl, Or.inr rfl⟩) rfl ?_
  exact t_56_15 (by omega) hcc N (l_kr (by decide) (l_kr (by decide) rfl)) (l_ki (by decide) (l_ki (by decide) rfl)) (l_ki (by decide) (l_ki (by decide) rfl)) (l_ki (by decide) l_s) l_s
/-- UnwindTower$Compiler.layWayOut -/
def f_65_71 (N : Nat) (ly : yM → Int → Int → Option yM) (cc : Nat) (ih9 : yM → Int → Int → Nat → Int → Int → Option (yM)) (M : yM) (x1 : Int) (x2 : Int) (r3 : Nat) (x5 : Int) (x7 : Int) : Option (yM) := (ih9 M x1 x2 r3 x7 (x5 + (-1)))
theorem t_65_71 {sc : List Int32} {dd cc : Nat} {dl : Nat} {N : Nat} {ly : yM → Int → Int → Option yM} {ih9 : yM → Int → Int → Nat → Int → Int → Option (yM)} {M : yM} {x1 : Int} {x2 : Int} {r3 : Nat} {x5 : Int} {x7 : Int} (hd : 4 ≤ dd) (hdl : dl + 0 ≤ dd) (hly : ∀ M a b, yP sc dl 50 [.ref 96, .int (yi a), .int (yi b)] M cc (Option.map (fun t => (t, cc, none)) (ly M a b))) (hcc : pC cc) (ih9_ : ∀ {M : yM} {x1 : Int} {x2 : Int} {r3 : Nat} {x4 : Int} {x5 : Int} (hr3 : pP r3) {L : zL} (hL0 : L 0 = some (.ref 96)) (hL1 : L 1 = some (.int (yi x1))) (hL2 : L 2 = some (.int (yi x2))) (hL3 : L 3 = some (.ref r3)) (hL4 : L 4 = some (.int (yi x4))) (hL5 : L 5 = some (.int (yi x5))), yW sc zg_c65 zg_w65 dd 9 L [] M cc ((Option.map (fun t : yM => (t, cc, none))) (ih9 M x1 x2 r3 x4 x5))) (hr3 : pP r3) {L : zL} (hL0 : L 0 = some (.ref 96)) (hL1 : L 1 = some (.int (yi x1))) (hL2 : L 2 = some (.int (yi x2))) (hL3 : L 3 = some (.ref r3)) (hL5 : L 5 = some (.int (yi x5))) (hL7 : L 7 = some (.int (yi x7))) : yW sc zg_c65 zg_w65 dd 71 L [] M cc ((Option.map (fun t : yM => (t, cc, none))) (f_65_71 N ly cc ih9 M x1 x2 r3 x5 x7)) := by
  unfold f_65_71
  refine e_ld (t := 0) rfl (Or.inl ⟨rfl, Or.inr rfl⟩) hL7 rfl ?_
  refine e_st (t := 0) rfl (Or.inl ⟨rfl, Or.inr rfl⟩) rfl ?_
  refine e_inc (d := (-1)) rfl (l_ki (by decide) hL5) (by decide) ?_
  refine e_go rfl ?_
  exact ih9_ hr3 (l_kr (by decide) (l_kr (by decide) hL0)) (l_ki (by decide) (l_ki (by decide) hL1)) (l_ki (by decide) (l_ki (by decide) hL2)) (l_kr (by decide) (l_kr (by decide) hL3)) (l_ki (by decide) l_s) l_s
def f_65_9 (N : Nat) (ly : yM → Int → Int → Option yM) (cc : Nat) : Nat → yM → Int → Int → Nat → Int → Int → Option (yM)
  | 0, _, _, _, _, _, _ => none
  | n + 1, M, x1, x2, r3, x4, x5 => (cond (yrel 5 x4 x2) (some M) (cond (yrel 5 x5 0) (some M) (ylet (yrd M 98 x4) fun v4 => (ylet (yrd M 99 x4) fun v5 => (cond (yrel 1 (yrd M 7 v4) 13) (cond (yrel 0 (yrd M 8 v4) (-1)) (f_65_71 N ly cc (f_65_9 N ly cc n) M x1 x2 r3 x5 v5) (ylet (f_48 M (yrd M 100 x4) x1) fun t8 => (ylet (yU t8 (105 + 1 * ypz 91 (x1 + 1)) 1 (t8 r3 1)) fun M9 => (ylet (yU M9 (105 + 1 * ypz 91 (x1 + 1)) 2 ((M9 r3 2) + 1)) fun M10 => (Option.bind (ly M10 (yrd M10 8 v4) (x1 + 1)) fun M11 => (f_65_71 N ly cc (f_65_9 N ly cc n) M11 x1 x2 r3 x5 v5)))))) (ylet (f_54 cc M v4 v5) fun t12 => (f_65_71 N ly cc (f_65_9 N ly cc n) t12 x1 x2 r3 x5 v5)))))))
theorem t_65_9 {sc : List Int32} {dd cc : Nat} {dl : Nat} {N : Nat} {ly : yM → Int → Int → Option yM} (hd : 4 ≤ dd) (hdl : dl + 0 ≤ dd) (hly : ∀ M a b, yP sc dl 50 [.ref 96, .int (yi a), .int (yi b)] M cc (Option.map (fun t => (t, cc, none)) (ly M a b))) (hcc : pC cc) : ∀ (n : Nat) {M : yM} {x1 : Int} {x2 : Int} {r3 : Nat} {x4 : Int} {x5 : Int} (hr3 : pP r3) {L : zL} (hL0 : L 0 = some (.ref 96)) (hL1 : L 1 = some (.int (yi x1))) (hL2 : L 2 = some (.int (yi x2))) (hL3 : L 3 = some (.ref r3)) (hL4 : L 4 = some (.int (yi x4))) (hL5 : L 5 = some (.int (yi x5))), yW sc zg_c65 zg_w65 dd 9 L [] M cc ((Option.map (fun t : yM => (t, cc, none))) (f_65_9 N ly cc n M x1 x2 r3 x4 x5)) := by
  intro n
  induction n with
  | zero => intros; exact y_none
  | succ n IH =>
    intro M x1 x2 r3 x4 x5 hr3 L hL0 hL1 hL2 hL3 hL4 hL5
    rw [f_65_9]
    refine e_ld (t := 0) rfl (Or.inl ⟨rfl, Or.inr rfl⟩) hL4 rfl ?_
    refine e_ld (t := 0) rfl (Or.inl ⟨rfl, Or.inl rfl⟩) hL2 rfl ?_
    refine e_cmp (Option.map (fun t : yM => (t, cc, none))) (q := 5) (by decide) rfl (fun h2 => ?_) (fun h2 => ?_)
    · exact e_vret rfl
    · refine e_ld (t := 0) rfl (Or.inl ⟨rfl, Or.inr rfl⟩) hL5 rfl ?_
      refine e_br (Option.map (fun t : yM => (t, cc, none))) (q := 5) (by decide) rfl (fun h3 => ?_) (fun h3 => ?_)
      · exact e_vret rfl
      · refine e_ld (t := 2) rfl (Or.inr (Or.inl ⟨rfl, Or.inl rfl⟩)) hL0 rfl ?_
        refine e_get (a := 96) (u := .ref 98) rfl rfl rfl (fun _ => rfl) ?_
        refine e_ld (t := 0) rfl (Or.inl ⟨rfl, Or.inr rfl⟩) hL4 rfl ?_
        refine e_at (a := 98) (by omega) rfl (by decide) (Nat.le_of_ble_eq_true rfl) rfl ?_
        refine e_stl (g := (Option.map (fun t : yM => (t, cc, none)))) rfl (Or.inr rfl) (fun v4 => ?_)
        refine e_ld (t := 2) rfl (Or.inr (Or.inl ⟨rfl, Or.inl rfl⟩)) (l_kr (by decide) hL0) rfl ?_
        refine e_get (a := 96) (u := .ref 99) rfl rfl rfl (fun _ => rfl) ?_
        refine e_ld (t := 0) rfl (Or.inl ⟨rfl, Or.inr rfl⟩) (l_ki (by decide) hL4) rfl ?_
        refine e_at (a := 99) (by omega) rfl (by decide) (Nat.le_of_ble_eq_true rfl) rfl ?_
        refine e_stl (g := (Option.map (fun t : yM => (t, cc, none)))) rfl (Or.inr rfl) (fun v5 => ?_)
        refine e_ld (t := 2) rfl (Or.inr (Or.inl ⟨rfl, Or.inl rfl⟩)) (l_kr (by decide) (l_kr (by decide) hL0)) rfl ?_
        refine e_get (a := 96) (u := .ref 1) rfl rfl rfl (fun _ => rfl) ?_
        refine e_get (a := 1) (u := .ref 7) rfl rfl rfl (fun _ => rfl) ?_
        refine e_ld (t := 0) rfl (Or.inl ⟨rfl, Or.inr rfl⟩) (l_ki (by decide) l_s) rfl ?_
        refine e_at (a := 7) (by omega) rfl (by decide) (Nat.le_of_ble_eq_true rfl) rfl ?_
        refine e_ic (b := 13) rfl (by decide) (by decide) ?_
        refine e_cmp (Option.map (fun t : yM => (t, cc, none))) (q := 1) (by decide) rfl (fun h6 => ?_) (fun h6 => ?_)
        · refine e_ld (t := 2) rfl (Or.inr (Or.inl ⟨rfl, Or.inl rfl⟩)) (l_kr (by decide) (l_kr (by decide) hL0)) rfl ?_
          refine e_get (a := 96) (u := .ref 1) rfl rfl rfl (fun _ => rfl) ?_
          refine e_get (a := 1) (u := .ref 8) rfl rfl rfl (fun _ => rfl) ?_
          refine e_ld (t := 0) rfl (Or.inl ⟨rfl, Or.inr rfl⟩) (l_ki (by decide) l_s) rfl ?_
          refine e_at (a := 8) (by omega) rfl (by decide) (Nat.le_of_ble_eq_true rfl) rfl ?_
          refine e_ic (b := (-1)) rfl (by decide) (by decide) ?_
          refine e_cmp (Option.map (fun t : yM => (t, cc, none))) (q := 0) (by decide) rfl (fun h7 => ?_) (fun h7 => ?_)
          · exact t_65_71 (by omega) (by omega) hly hcc IH hr3 (l_kr (by decide) (l_kr (by decide) hL0)) (l_ki (by decide) (l_ki (by decide) hL1)) (l_ki (by decide) (l_ki (by decide) hL2)) (l_kr (by decide) (l_kr (by decide) hL3)) (l_ki (by decide) (l_ki (by decide) hL5)) l_s
          · refine e_ld (t := 2) rfl (Or.inr (Or.inl ⟨rfl, Or.inl rfl⟩)) (l_kr (by decide) (l_kr (by decide) hL0)) rfl ?_
            refine e_ld (t := 2) rfl (Or.inr (Or.inl ⟨rfl, Or.inl rfl⟩)) (l_kr (by decide) (l_kr (by decide) hL0)) rfl ?_
            refine e_get (a := 96) (u := .ref 100) rfl rfl rfl (fun _ => rfl) ?_
            refine e_ld (t := 0) rfl (Or.inl ⟨rfl, Or.inr rfl⟩) (l_ki (by decide) (l_ki (by decide) hL4)) rfl ?_
            refine e_at (a := 100) (by omega) rfl (by decide) (Nat.le_of_ble_eq_true rfl) rfl ?_
            refine e_ld (t := 0) rfl (Or.inl ⟨rfl, Or.inl rfl⟩) (l_ki (by decide) (l_ki (by decide) hL1)) rfl ?_
            refine e_objP (Option.map (fun t : yM => (t, cc, none))) (h0 := (fun t : yM => (t, cc, some (.ref (105 + 1 * ypz 91 (x1 + 1)))))) (a := 96) (as := [.int (yi (yrd M 100 x4)), .int (yi x1)]) rfl (by decide) rfl (Nat.le_of_ble_eq_true rfl) rfl (t_48 (by omega)) (fun t8 => ?_)
            refine e_st (t := 2) rfl (Or.inr ⟨rfl, Or.inr rfl⟩) rfl ?_
            refine e_ld (t := 2) rfl (Or.inr (Or.inl ⟨rfl, Or.inr rfl⟩)) l_s rfl ?_
            refine e_ld (t := 2) rfl (Or.inr (Or.inl ⟨rfl, Or.inl rfl⟩)) (l_kr (by decide) (l_kr (by decide) (l_kr (by decide) hL3))) rfl ?_
            refine e_get (a := r3) (u := .int (yi (t8 r3 1))) rfl (fP hr3) rfl (fun _ => rfl) ?_
            refine e_put (a := (105 + 1 * ypz 91 (x1 + 1))) rfl (Or.inl rfl) (fP ⟨_, ypz_lt (by decide), rfl⟩) rfl (Or.inl rfl) ?_
            refine y_let (Option.map (fun t : yM => (t, cc, none))) (fun M9 => ?_)
            refine e_ld (t := 2) rfl (Or.inr (Or.inl ⟨rfl, Or.inr rfl⟩)) l_s rfl ?_
            refine e_ld (t := 2) rfl (Or.inr (Or.inl ⟨rfl, Or.inl rfl⟩)) (l_kr (by decide) (l_kr (by decide) (l_kr (by decide) hL3))) rfl ?_
            refine e_get (a := r3) (u := .int (yi (M9 r3 2))) rfl (fP hr3) rfl (fun _ => rfl) ?_
            refine e_ic (b := 1) rfl (by decide) (by decide) ?_
            refine e_add rfl ?_
            refine e_put (a := (105 + 1 * ypz 91 (x1 + 1))) rfl (Or.inl rfl) (fP ⟨_, ypz_lt (by decide), rfl⟩) rfl (Or.inl rfl) ?_
            refine y_let (Option.map (fun t : yM => (t, cc, none))) (fun M10 => ?_)
            refine e_ld (t := 2) rfl (Or.inr (Or.inl ⟨rfl, Or.inl rfl⟩)) (l_kr (by decide) (l_kr (by decide) (l_kr (by decide) hL0))) rfl ?_
            refine e_ld (t := 2) rfl (Or.inr (Or.inl ⟨rfl, Or.inl rfl⟩)) (l_kr (by decide) (l_kr (by decide) (l_kr (by decide) hL0))) rfl ?_
            refine e_get (a := 96) (u := .ref 1) rfl rfl rfl (fun _ => rfl) ?_
            refine e_get (a := 1) (u := .ref 8) rfl rfl rfl (fun _ => rfl) ?_
            refine e_ld (t := 0) rfl (Or.inl ⟨rfl, Or.inr rfl⟩) (l_ki (by decide) (l_ki (by decide) l_s)) rfl ?_
            refine e_at (a := 8) (by omega) rfl (by decide) (Nat.le_of_ble_eq_true rfl) rfl ?_
            refine e_ld (t := 0) rfl (Or.inl ⟨rfl, Or.inl rfl⟩) (l_ki (by decide) (l_ki (by decide) (l_ki (by decide) hL1))) rfl ?_
            refine e_ic (b := 1) rfl (by decide) (by decide) ?_
            refine e_add rfl ?_
            refine e_objO (h0 := fun t => (t, cc, none)) (a := 96) (as := [.int (yi (yrd M10 8 v4)), .int (yi (x1 + 1))]) rfl (by decide) rfl (Nat.le_of_ble_eq_true rfl) rfl (yP_mono (by omega) (hly _ _ _)) (fun M11 => ?_)
            exact t_65_71 (by omega) (by omega) hly hcc IH hr3 (l_kr (by decide) (l_kr (by decide) (l_kr (by decide) hL0))) (l_ki (by decide) (l_ki (by decide) (l_ki (by decide) hL1))) (l_ki (by decide) (l_ki (by decide) (l_ki (by decide) hL2))) (l_kr (by decide) (l_kr (by decide) (l_kr (by decide) hL3))) (l_ki (by decide) (l_ki (by decide) (l_ki (by decide) hL5))) (l_ki (by decide) l_s)
        · refine e_ld (t := 2) rfl (Or.inr (Or.inl ⟨rfl, Or.inl rfl⟩)) (l_kr (by decide) (l_kr (by decide) hL0)) rfl ?_
          refine e_ld (t := 0) rfl (Or.inl ⟨rfl, Or.inr rfl⟩) (l_ki (by decide) l_s) rfl ?_
          refine e_ld (t := 0) rfl (Or.inl ⟨rfl, Or.inr rfl⟩) l_s rfl ?_
          refine e_objP (Option.map (fun t : yM => (t, cc, none))) (h0 := (fun t : yM => (t, cc, none))) (a := 96) (as := [.int (yi v4), .int (yi v5)]) rfl (by decide) rfl (Nat.le_of_ble_eq_true rfl) rfl (t_54 (by omega) hcc) (fun t12 => ?_)
          refine e_go rfl ?_
          exact t_65_71 (by omega) (by omega) hly hcc IH hr3 (l_kr (by decide) (l_kr (by decide) hL0)) (l_ki (by decide) (l_ki (by decide) hL1)) (l_ki (by decide) (l_ki (by decide) hL2)) (l_kr (by decide) (l_kr (by decide) hL3)) (l_ki (by decide) (l_ki (by decide) hL5)) l_s
def f_65 (N : Nat) (ly : yM → Int → Int → Option yM) (cc : Nat) (M : yM) (x1 : Int) (x2 : Int) : Option (yM) := (ylet (M (105 + 1 * ypz 91 x1) 0) fun v1 => (f_65_9 N ly cc N M x1 x2 (105 + 1 * ypz 91 x1) v1 90))
theorem t_65 {sc : List Int32} {dd cc : Nat} {dl : Nat} {N : Nat} {ly : yM → Int → Int → Option yM} {M : yM} {x1 : Int} {x2 : Int} (hd : 5 ≤ dd) (hdl : dl + 1 ≤ dd) (hly : ∀ M a b, yP sc dl 50 [.ref 96, .int (yi a), .int (yi b)] M cc (Option.map (fun t => (t, cc, none)) (ly M a b))) (hcc : pC cc) : yP sc dd 65 [.ref 96, .int (yi x1), .int (yi x2)] M cc ((Option.map (fun t : yM => (t, cc, none))) (f_65 N ly cc M x1 x2)) := by
  obtain ⟨dd, rfl⟩ : ∃ e, dd = e + 1 := ⟨dd - 1, by omega⟩
  refine e_meth (C := zg_c65) (W := zg_w65) (ml := 9) rfl rfl (Nat.le_of_ble_eq_true rfl) ?_
  unfold f_65
  refine e_ld (t := 2) rfl (Or.inr (Or.inl ⟨rfl, Or.inl rfl⟩)) rfl rfl ?_
  refine e_ld (t := 0) rfl (Or.inl ⟨rfl, Or.inl rfl⟩) rfl rfl ?_
  refine e_obj (a := 96) (as := [.int (yi x1)]) rfl (by decide) rfl (Nat.le_of_ble_eq_true rfl) rfl (t_68 (by omega)) ?_
  refine e_st (t := 2) rfl (Or.inr ⟨rfl, Or.inl rfl⟩) rfl ?_
  refine e_ld (t := 2) rfl (Or.inr (Or.inl ⟨rfl, Or.inl rfl⟩)) l_s rfl ?_
  refine e_get (a := (105 + 1 * ypz 91 x1)) (u := .int (yi (M (105 + 1 * ypz 91 x1) 0))) rfl (fP ⟨_, ypz_lt (by decide), rfl⟩) rfl (fun _ => rfl) ?_
  refine e_stl (g := (Option.map (fun t : yM => (t, cc, none)))) rfl (Or.inr rfl) (fun v1 => ?_)
  refine e_ic (b := 90) rfl (by decide) (by decide) ?_
  refine e_st (t := 0) rfl (Or.inl ⟨rfl, Or.inr rfl⟩) rfl ?_
  exact t_65_9 (by omega) (by omega) hly hcc N ⟨_, ypz_lt (by decide), rfl⟩ (l_kr (by decide) (l_kr (by decide) (l_kr (by decide) rfl))) (l_ki (by decide) (l_ki (by decide) (l_ki (by decide) rfl))) (l_ki (by decide) (l_ki (by decide) (l_ki (by decide) rfl))) (l_kr (by decide) (l_kr (by decide) l_s)) (l_ki (by decide) l_s) l_s
/-- UnwindTower$Faults.faultOfCatch -/
def f_73_64 (N : Nat) (M : yM) (x2 : Int) (s0 : Int) : Option (Int) := (cond (yrel 0 s0 0) (some 0) (cond (yrel 1 (yrd M 3 x2) 1) (some 0) (some 2)))
theorem t_73_64 {sc : List Int32} {dd cc : Nat} {N : Nat} {M : yM} {x2 : Int} {s0 : Int} (hd : 2 ≤ dd) {L : zL} (hL0 : L 0 = some (.ref 18)) (hL2 : L 2 = some (.int (yi x2))) : yW sc zg_c73 zg_w73 dd 64 L [.int (yi s0)] M cc ((Option.map (fun t : Int => (M, cc, some (.int (yi t))))) (f_73_64 N M x2 s0)) := by
  unfold f_73_64
  refine e_st (t := 0) rfl (Or.inl ⟨rfl, Or.inr rfl⟩) rfl ?_
  refine e_ld (t := 0) rfl (Or.inl ⟨rfl, Or.inr rfl⟩) l_s rfl ?_
  refine e_br (Option.map (fun t : Int => (M, cc, some (.int (yi t))))) (q := 0) (by decide) rfl (fun h6 => ?_) (fun h6 => ?_)
  · refine e_ic (b := 0) rfl (by decide) (by decide) ?_
    exact e_iret rfl (Or.inl rfl)
  · refine e_ld (t := 2) rfl (Or.inr (Or.inl ⟨rfl, Or.inl rfl⟩)) (l_kr (by decide) hL0) rfl ?_
    refine e_get (a := 18) (u := .ref 1) rfl rfl rfl (fun _ => rfl) ?_
    refine e_get (a := 1) (u := .ref 3) rfl rfl rfl (fun _ => rfl) ?_
    refine e_ld (t := 0) rfl (Or.inl ⟨rfl, Or.inl rfl⟩) (l_ki (by decide) hL2) rfl ?_
    refine e_at (a := 3) (by omega) rfl (by decide) (Nat.le_of_ble_eq_true rfl) rfl ?_
    refine e_ic (b := 1) rfl (by decide) (by decide) ?_
    refine e_cmp (Option.map (fun t : Int => (M, cc, some (.int (yi t))))) (q := 1) (by decide) rfl (fun h7 => ?_) (fun h7 => ?_)
    · refine e_ic (b := 0) rfl (by decide) (by decide) ?_
      exact e_iret rfl (Or.inl rfl)
    · refine e_ic (b := 2) rfl (by decide) (by decide) ?_
      refine e_go rfl ?_
      exact e_iret rfl (Or.inl rfl)
def f_73_43 (N : Nat) (M : yM) (x2 : Int) (x3 : Int) : Option (Int) := (ylet (yrd M 16 (yrd M 9 x3)) fun v4 => (cond (yrel 1 (ybin 26 v4 (yrd M 4 x2)) 0) (f_73_64 N M x2 0) (f_73_64 N M x2 1)))
theorem t_73_43 {sc : List Int32} {dd cc : Nat} {N : Nat} {M : yM} {x2 : Int} {x3 : Int} (hd : 2 ≤ dd) {L : zL} (hL0 : L 0 = some (.ref 18)) (hL2 : L 2 = some (.int (yi x2))) (hL3 : L 3 = some (.int (yi x3))) : yW sc zg_c73 zg_w73 dd 43 L [] M cc ((Option.map (fun t : Int => (M, cc, some (.int (yi t))))) (f_73_43 N M x2 x3)) := by
  unfold f_73_43
  refine e_ld (t := 2) rfl (Or.inr (Or.inl ⟨rfl, Or.inl rfl⟩)) hL0 rfl ?_
  refine e_get (a := 18) (u := .ref 1) rfl rfl rfl (fun _ => rfl) ?_
  refine e_get (a := 1) (u := .ref 16) rfl rfl rfl (fun _ => rfl) ?_
  refine e_ld (t := 2) rfl (Or.inr (Or.inl ⟨rfl, Or.inl rfl⟩)) hL0 rfl ?_
  refine e_get (a := 18) (u := .ref 1) rfl rfl rfl (fun _ => rfl) ?_
  refine e_get (a := 1) (u := .ref 9) rfl rfl rfl (fun _ => rfl) ?_
  refine e_ld (t := 0) rfl (Or.inl ⟨rfl, Or.inl rfl⟩) hL3 rfl ?_
  refine e_at (a := 9) (by omega) rfl (by decide) (Nat.le_of_ble_eq_true rfl) rfl ?_
  refine e_at (a := 16) (by omega) rfl (by decide) (Nat.le_of_ble_eq_true rfl) rfl ?_
  refine e_stl (g := (Option.map (fun t : Int => (M, cc, some (.int (yi t)))))) rfl (Or.inr rfl) (fun v4 => ?_)
  refine e_ld (t := 0) rfl (Or.inl ⟨rfl, Or.inr rfl⟩) l_s rfl ?_
  refine e_ld (t := 2) rfl (Or.inr (Or.inl ⟨rfl, Or.inl rfl⟩)) (l_kr (by decide) hL0) rfl ?_
  refine e_get (a := 18) (u := .ref 1) rfl rfl rfl (fun _ => rfl) ?_
  refine e_get (a := 1) (u := .ref 4) rfl rfl rfl (fun _ => rfl) ?_
  refine e_ld (t := 0) rfl (Or.inl ⟨rfl, Or.inl rfl⟩) (l_ki (by decide) hL2) rfl ?_
  refine e_at (a := 4) (by omega) rfl (by decide) (Nat.le_of_ble_eq_true rfl) rfl ?_
  refine e_bin rfl (by decide) ?_
  refine e_br (Option.map (fun t : Int => (M, cc, some (.int (yi t))))) (q := 1) (by decide) rfl (fun h5 => ?_) (fun h5 => ?_)
  · refine e_ic (b := 0) rfl (by decide) (by decide) ?_
    exact t_73_64 (by omega) (l_kr (by decide) hL0) (l_ki (by decide) hL2)
  · refine e_ic (b := 1) rfl (by decide) (by decide) ?_
    refine e_go rfl ?_
    exact t_73_64 (by omega) (l_kr (by decide) hL0) (l_ki (by decide) hL2)
def f_73_14 (N : Nat) : Nat → yM → Int → Int → Int → Option (Int)
  | 0, _, _, _, _ => none
  | n + 1, M, x2, x3, x4 => (cond (yrel 1 (yrd M 7 x3) 12) (f_73_43 N M x2 x3) (cond (yrel 5 x4 0) (f_73_43 N M x2 x3) (cond (yrel 0 (f_120 M x2 (yrd M 8 x3)) 0) (ylet (yrd M 11 x3) fun v10 => (f_73_14 N n M x2 v10 (x4 + (-1)))) (some 1))))
theorem t_73_14 {sc : List Int32} {dd cc : Nat} {N : Nat} (hd : 2 ≤ dd) : ∀ (n : Nat) {M : yM} {x2 : Int} {x3 : Int} {x4 : Int} {L : zL} (hL0 : L 0 = some (.ref 18)) (hL2 : L 2 = some (.int (yi x2))) (hL3 : L 3 = some (.int (yi x3))) (hL4 : L 4 = some (.int (yi x4))), yW sc zg_c73 zg_w73 dd 14 L [] M cc ((Option.map (fun t : Int => (M, cc, some (.int (yi t))))) (f_73_14 N n M x2 x3 x4)) := by
  intro n
  induction n with
  | zero => intros; exact y_none
  | succ n IH =>
    intro M x2 x3 x4 L hL0 hL2 hL3 hL4
    rw [f_73_14]
    refine e_ld (t := 2) rfl (Or.inr (Or.inl ⟨rfl, Or.inl rfl⟩)) hL0 rfl ?_
    refine e_get (a := 18) (u := .ref 1) rfl rfl rfl (fun _ => rfl) ?_
    refine e_get (a := 1) (u := .ref 7) rfl rfl rfl (fun _ => rfl) ?_
    refine e_ld (t := 0) rfl (Or.inl ⟨rfl, Or.inl rfl⟩) hL3 rfl ?_
    refine e_at (a := 7) (by omega) rfl (by decide) (Nat.le_of_ble_eq_true rfl) rfl ?_
    refine e_ic (b := 12) rfl (by decide) (by decide) ?_
    refine e_cmp (Option.map (fun t : Int => (M, cc, some (.int (yi t))))) (q := 1) (by decide) rfl (fun h3 => ?_) (fun h3 => ?_)
    · exact t_73_43 (by omega) hL0 hL2 hL3
    · refine e_ld (t := 0) rfl (Or.inl ⟨rfl, Or.inr rfl⟩) hL4 rfl ?_
      refine e_br (Option.map (fun t : Int => (M, cc, some (.int (yi t))))) (q := 5) (by decide) rfl (fun h8 => ?_) (fun h8 => ?_)
      · exact t_73_43 (by omega) hL0 hL2 hL3
      · refine e_ld (t := 2) rfl (Or.inr (Or.inl ⟨rfl, Or.inl rfl⟩)) hL0 rfl ?_
        refine e_get (a := 18) (u := .ref 1) rfl rfl rfl (fun _ => rfl) ?_
        refine e_ld (t := 0) rfl (Or.inl ⟨rfl, Or.inl rfl⟩) hL2 rfl ?_
        refine e_ld (t := 2) rfl (Or.inr (Or.inl ⟨rfl, Or.inl rfl⟩)) hL0 rfl ?_
        refine e_get (a := 18) (u := .ref 1) rfl rfl rfl (fun _ => rfl) ?_
        refine e_get (a := 1) (u := .ref 8) rfl rfl rfl (fun _ => rfl) ?_
        refine e_ld (t := 0) rfl (Or.inl ⟨rfl, Or.inl rfl⟩) hL3 rfl ?_
        refine e_at (a := 8) (by omega) rfl (by decide) (Nat.le_of_ble_eq_true rfl) rfl ?_
        refine e_obj (M1 := M) (cc1 := cc) (v1 := some (.int (yi (f_120 M x2 (yrd M 8 x3))))) (a := 1) (as := [.int (yi x2), .int (yi (yrd M 8 x3))]) rfl (by decide) rfl (Nat.le_of_ble_eq_true rfl) rfl (t_120 (by omega)) ?_
        refine e_br (Option.map (fun t : Int => (M, cc, some (.int (yi t))))) (q := 0) (by decide) rfl (fun h9 => ?_) (fun h9 => ?_)
        · refine e_ld (t := 2) rfl (Or.inr (Or.inl ⟨rfl, Or.inl rfl⟩)) hL0 rfl ?_
          refine e_get (a := 18) (u := .ref 1) rfl rfl rfl (fun _ => rfl) ?_
          refine e_get (a := 1) (u := .ref 11) rfl rfl rfl (fun _ => rfl) ?_
          refine e_ld (t := 0) rfl (Or.inl ⟨rfl, Or.inl rfl⟩) hL3 rfl ?_
          refine e_at (a := 11) (by omega) rfl (by decide) (Nat.le_of_ble_eq_true rfl) rfl ?_
          refine e_stl (g := (Option.map (fun t : Int => (M, cc, some (.int (yi t)))))) rfl (Or.inl rfl) (fun v10 => ?_)
          refine e_inc (d := (-1)) rfl (l_ki (by decide) hL4) (by decide) ?_
          refine e_go rfl ?_
          exact IH (l_kr (by decide) (l_kr (by decide) hL0)) (l_ki (by decide) (l_ki (by decide) hL2)) (l_ki (by decide) l_s) l_s
        · refine e_ic (b := 1) rfl (by decide) (by decide) ?_
          exact e_iret rfl (Or.inl rfl)
def f_73 (N : Nat) (M : yM) (x1 : Int) : Option (Int) := (ylet (yrd M 8 x1) fun v1 => (ylet (yrd M 11 x1) fun v2 => (f_73_14 N N M v1 v2 90)))
theorem t_73 {sc : List Int32} {dd cc : Nat} {N : Nat} {M : yM} {x1 : Int} (hd : 3 ≤ dd) : yP sc dd 73 [.ref 18, .int (yi x1)] M cc ((Option.map (fun t : Int => (M, cc, some (.int (yi t))))) (f_73 N M x1)) := by
  obtain ⟨dd, rfl⟩ : ∃ e, dd = e + 1 := ⟨dd - 1, by omega⟩
  refine e_meth (C := zg_c73) (W := zg_w73) (ml := 6) rfl rfl (Nat.le_of_ble_eq_true rfl) ?_
  unfold f_73
  refine e_ld (t := 2) rfl (Or.inr (Or.inl ⟨rfl, Or.inl rfl⟩)) rfl rfl ?_
  refine e_get (a := 18) (u := .ref 1) rfl rfl rfl (fun _ => rfl) ?_
  refine e_get (a := 1) (u := .ref 8) rfl rfl rfl (fun _ => rfl) ?_
  refine e_ld (t := 0) rfl (Or.inl ⟨rfl, Or.inl rfl⟩) rfl rfl ?_
  refine e_at (a := 8) (by omega) rfl (by decide) (Nat.le_of_ble_eq_true rfl) rfl ?_
  refine e_stl (g := (Option.map (fun t : Int => (M, cc, some (.int (yi t)))))) rfl (Or.inl rfl) (fun v1 => ?_)
  refine e_ld (t := 2) rfl (Or.inr (Or.inl ⟨rfl, Or.inl rfl⟩)) (l_kr (by decide) rfl) rfl ?_
  refine e_get (a := 18) (u := .ref 1) rfl rfl rfl (fun _ => rfl) ?_
  refine e_get (a := 1) (u := .ref 11) rfl rfl rfl (fun _ => rfl) ?_
  refine e_ld (t := 0) rfl (Or.inl ⟨rfl, Or.inl rfl⟩) (l_ki (by decide) rfl) rfl ?_
  refine e_at (a := 11) (by omega) rfl (by decide) (Nat.le_of_ble_eq_true rfl) rfl ?_
  refine e_stl (g := (Option.map (fun t : Int => (M, cc, some (.int (yi t)))))) rfl (Or.inl rfl) (fun v2 => ?_)
  refine e_ic (b := 90) rfl (by decide) (by decide) ?_
  refine e_st (t := 0) rfl (Or.inl ⟨rfl, Or.inr rfl⟩) rfl ?_
  exact t_73_14 (by omega) N (l_kr (by decide) (l_kr (by decide) (l_kr (by decide) rfl))) (l_ki (by decide) (l_ki (by decide) l_s)) (l_ki (by decide) l_s) l_s
/-- UnwindTower$Machine.clear -/
def f_82 (M : yM) (r0 : Nat) : yM := (ylet (yfill M (r0 + 13) 0) fun M1 => (ylet (ywr M1 (r0 + 13) 0 2) fun M2 => (ylet (ywr M2 (r0 + 13) 2 (-1)) fun M3 => (ylet (yfill M3 (r0 + 14) 0) fun M4 => (ylet (yfill M4 (r0 + 15) (-1)) fun M5 => (ylet (yfill M5 (r0 + 16) 0) fun M6 => (ylet (yfill M6 (r0 + 17) 0) fun M7 => (ylet (f_144 M7 (r0 + 1)) fun t8 => (ylet (yU t8 r0 10 0) fun M9 => (ylet (yU M9 r0 12 0) fun M10 => (ylet (yU M10 r0 15 1) fun M11 => (ylet (yU M11 r0 17 0) fun M12 => M12))))))))))))
theorem t_82 {sc : List Int32} {dd cc : Nat} {M : yM} {r0 : Nat} (hd : 3 ≤ dd) (hr0 : pM r0) : yP sc dd 82 [.ref r0] M cc (some ((f_82 M r0), cc, none)) := by
  obtain ⟨dd, rfl⟩ : ∃ e, dd = e + 1 := ⟨dd - 1, by omega⟩
  refine e_meth (C := zg_c82) (W := zg_w82) (ml := 1) rfl rfl (Nat.le_of_ble_eq_true rfl) ?_
  unfold f_82
  refine e_ld (t := 2) rfl (Or.inr (Or.inl ⟨rfl, Or.inl rfl⟩)) rfl rfl ?_
  refine e_get (a := r0) (u := .ref (r0 + 13)) rfl (fM hr0) rfl (fun _ => rfl) ?_
  refine e_ic (b := 0) rfl (by decide) (by decide) ?_
  refine e_stat (as := [.ref (r0 + 13), .int (yi 0)]) rfl (by decide) rfl (Nat.le_of_ble_eq_true rfl) (t_170 (by omega) (nM_13 hr0)) ?_
  refine y_let (fun t : yM => some (t, cc, none)) (fun M1 => ?_)
  refine e_ld (t := 2) rfl (Or.inr (Or.inl ⟨rfl, Or.inl rfl⟩)) rfl rfl ?_
  refine e_get (a := r0) (u := .ref (r0 + 13)) rfl (fM hr0) rfl (fun _ => rfl) ?_
  refine e_ic (b := 0) rfl (by decide) (by decide) ?_
  refine e_ic (b := 2) rfl (by decide) (by decide) ?_
  refine e_wr (a := (r0 + 13)) (by omega) rfl (by decide) (Nat.le_of_ble_eq_true rfl) (nM_13 hr0) ?_
  refine y_let (fun t : yM => some (t, cc, none)) (fun M2 => ?_)
  refine e_ld (t := 2) rfl (Or.inr (Or.inl ⟨rfl, Or.inl rfl⟩)) rfl rfl ?_
  refine e_get (a := r0) (u := .ref (r0 + 13)) rfl (fM hr0) rfl (fun _ => rfl) ?_
  refine e_ic (b := 2) rfl (by decide) (by decide) ?_
  refine e_ic (b := (-1)) rfl (by decide) (by decide) ?_
  refine e_wr (a := (r0 + 13)) (by omega) rfl (by decide) (Nat.le_of_ble_eq_true rfl) (nM_13 hr0) ?_
  refine y_let (fun t : yM => some (t, cc, none)) (fun M3 => ?_)
  refine e_ld (t := 2) rfl (Or.inr (Or.inl ⟨rfl, Or.inl rfl⟩)) rfl rfl ?_
  refine e_get (a := r0) (u := .ref (r0 + 14)) rfl (fM hr0) rfl (fun _ => rfl) ?_
  refine e_ic (b := 0) rfl (by decide) (by decide) ?_
  refine e_stat (as := [.ref (r0 + 14), .int (yi 0)]) rfl (by decide) rfl (Nat.le_of_ble_eq_true rfl) (t_170 (by omega) (nM_14 hr0)) ?_
  refine y_let (fun t : yM => some (t, cc, none)) (fun M4 => ?_)
  refine e_ld (t := 2) rfl (Or.inr (Or.inl ⟨rfl, Or.inl rfl⟩)) rfl rfl ?_
  refine e_get (a := r0) (u := .ref (r0 + 15)) rfl (fM hr0) rfl (fun _ => rfl) ?_
  refine e_ic (b := (-1)) rfl (by decide) (by decide) ?_
  refine e_stat (as := [.ref (r0 + 15), .int (yi (-1))]) rfl (by decide) rfl (Nat.le_of_ble_eq_true rfl) (t_170 (by omega) (nM_15 hr0)) ?_
  refine y_let (fun t : yM => some (t, cc, none)) (fun M5 => ?_)
  refine e_ld (t := 2) rfl (Or.inr (Or.inl ⟨rfl, Or.inl rfl⟩)) rfl rfl ?_
  refine e_get (a := r0) (u := .ref (r0 + 16)) rfl (fM hr0) rfl (fun _ => rfl) ?_
  refine e_ic (b := 0) rfl (by decide) (by decide) ?_
  refine e_stat (as := [.ref (r0 + 16), .int (yi 0)]) rfl (by decide) rfl (Nat.le_of_ble_eq_true rfl) (t_170 (by omega) (nM_16 hr0)) ?_
  refine y_let (fun t : yM => some (t, cc, none)) (fun M6 => ?_)
  refine e_ld (t := 2) rfl (Or.inr (Or.inl ⟨rfl, Or.inl rfl⟩)) rfl rfl ?_
  refine e_get (a := r0) (u := .ref (r0 + 17)) rfl (fM hr0) rfl (fun _ => rfl) ?_
  refine e_ic (b := 0) rfl (by decide) (by decide) ?_
  refine e_stat (as := [.ref (r0 + 17), .int (yi 0)]) rfl (by decide) rfl (Nat.le_of_ble_eq_true rfl) (t_170 (by omega) (nM_17 hr0)) ?_
  refine y_let (fun t : yM => some (t, cc, none)) (fun M7 => ?_)
  refine e_ld (t := 2) rfl (Or.inr (Or.inl ⟨rfl, Or.inl rfl⟩)) rfl rfl ?_
  refine e_get (a := r0) (u := .ref (r0 + 1)) rfl (fM hr0) rfl (fun _ => rfl) ?_
  refine e_objP (fun t : yM => some (t, cc, none)) (h0 := (fun t : yM => (t, cc, none))) (a := (r0 + 1)) (as := []) rfl (by decide) rfl (Nat.le_of_ble_eq_true rfl) (fT (pT_M hr0)) (t_144 (by omega) (pT_M hr0)) (fun t8 => ?_)
  refine e_ld (t := 2) rfl (Or.inr (Or.inl ⟨rfl, Or.inl rfl⟩)) rfl rfl ?_
  refine e_lc (q := 0) rfl (by decide) (by decide) ?_
  refine e_putl (a := r0) rfl (Or.inl rfl) (fM hr0) rfl rfl ?_
  refine y_let (fun t : yM => some (t, cc, none)) (fun M9 => ?_)
  refine e_ld (t := 2) rfl (Or.inr (Or.inl ⟨rfl, Or.inl rfl⟩)) rfl rfl ?_
  refine e_ic (b := 0) rfl (by decide) (by decide) ?_
  refine e_put (a := r0) rfl (Or.inl rfl) (fM hr0) rfl (Or.inl rfl) ?_
  refine y_let (fun t : yM => some (t, cc, none)) (fun M10 => ?_)
  refine e_ld (t := 2) rfl (Or.inr (Or.inl ⟨rfl, Or.inl rfl⟩)) rfl rfl ?_
  refine e_ic (b := 1) rfl (by decide) (by decide) ?_
  refine e_put (a := r0) rfl (Or.inl rfl) (fM hr0) rfl (Or.inr ⟨rfl, Or.inr rfl⟩) ?_
  refine y_let (fun t : yM => some (t, cc, none)) (fun M11 => ?_)
  refine e_ld (t := 2) rfl (Or.inr (Or.inl ⟨rfl, Or.inl rfl⟩)) rfl rfl ?_
  refine e_ic (b := 0) rfl (by decide) (by decide) ?_
  refine e_put (a := r0) rfl (Or.inl rfl) (fM hr0) rfl (Or.inr ⟨rfl, Or.inl rfl⟩) ?_
  refine y_let (fun t : yM => some (t, cc, none)) (fun M12 => ?_)
  exact e_vret rfl
/-- UnwindTower$Machine.performSafe -/
def f_92 (M : yM) (r0 : Nat) (r1 : Nat) (x2 : Int) (r3 : Nat) : Option (yM) := (ylet (yrd M (r1 + 2) x2) fun v1 => (ylet (yrd M (r1 + 3) x2) fun v2 => (ylet (yU M r3 1 (x2 + 1)) fun M3 => (cond (yrel 0 (yrd M3 (r1 + 1) x2) 1) (ylet (ywr M3 (r0 + 14) v1 (f_100 M3 r0 v2)) fun M5 => some M5) (cond (yrel 0 (yrd M3 (r1 + 1) x2) (1 + 1)) (ylet (ywr M3 (r0 + 14) v1 ((yrd M3 (r0 + 14) v1) + (f_100 M3 r0 v2))) fun M7 => some M7) (cond (yrel 0 (yrd M3 (r1 + 1) x2) (1 + 1 + 1)) (some M3) (cond (yrel 0 (yrd M3 (r1 + 1) x2) (1 + 1 + 1 + 1)) (ylet (f_94 M3 r0 (f_100 M3 r0 v1) (yrd M3 (r1 + 5) x2)) fun t10 => some t10) (cond (yrel 0 (yrd M3 (r1 + 1) x2) (1 + 1 + 1 + 1 + 1)) (cond (yrel 5 (f_100 M3 r0 v2) 0) (ylet (yU M3 r3 1 v1) fun M13 => some M13) (ylet (yU M3 r3 1 (x2 + 1)) fun M14 => some M14)) (cond (yrel 0 (yrd M3 (r1 + 1) x2) (1 + 1 + 1 + 1 + 1 + 1)) (ylet (yU M3 r3 1 v1) fun M16 => some M16) (cond (yrel 0 (yrd M3 (r1 + 1) x2) (1 + 1 + 1 + 1 + 1 + 1 + 1)) (ylet (ywr M3 (r3 + 2) v2 (f_100 M3 r0 v1)) fun M18 => some M18) (cond (yrel 0 (yrd M3 (r1 + 1) x2) (1 + 1 + 1 + 1 + 1 + 1 + 1 + 1)) (Option.bind (f_87 M3 r0 r3 (yrd M3 (r3 + 2) v1)) fun t20 => some t20) (cond (yrel 0 (yrd M3 (r1 + 1) x2) (1 + 1 + 1 + 1 + 1 + 1 + 1 + 1 + 1)) (some M3) (cond (yrel 0 (yrd M3 (r1 + 1) x2) (1 + 1 + 1 + 1 + 1 + 1 + 1 + 1 + 1 + 1)) (some M3) (cond (yrel 0 (yrd M3 (r1 + 1) x2) (1 + 1 + 1 + 1 + 1 + 1 + 1 + 1 + 1 + 1 + 1)) (ylet (ywr M3 (r3 + 1) v1 (M3 r0 16)) fun M24 => some M24) (cond (yrel 0 (yrd M3 (r1 + 1) x2) (1 + 1 + 1 + 1 + 1 + 1 + 1 + 1 + 1 + 1 + 1 + 1)) (some M3) (cond (yrel 0 (yrd M3 (r1 + 1) x2) (1 + 1 + 1 + 1 + 1 + 1 + 1 + 1 + 1 + 1 + 1 + 1 + 1)) (some M3) (cond (yrel 0 (yrd M3 (r1 + 1) x2) (1 + 1 + 1 + 1 + 1 + 1 + 1 + 1 + 1 + 1 + 1 + 1 + 1 + 1)) (ylet (ywr M3 (r0 + 15) v1 (yrd M3 (r3 + 1) v2)) fun M28 => some M28) (some M3))))))))))))))))))
theorem t_92 {sc : List Int32} {dd cc : Nat} {M : yM} {r0 : Nat} {r1 : Nat} {x2 : Int} {r3 : Nat} (hd : 3 ≤ dd) (hr0 : pM r0) (hr1 : pC r1) (hr3 : pF r3) : yP sc dd 92 [.ref r0, .ref r1, .int (yi x2), .ref r3] M cc ((Option.map (fun t : yM => (t, cc, none))) (f_92 M r0 r1 x2 r3)) := by
  obtain ⟨dd, rfl⟩ : ∃ e, dd = e + 1 := ⟨dd - 1, by omega⟩
  refine e_meth (C := zg_c92) (W := zg_w92) (ml := 6) rfl rfl (Nat.le_of_ble_eq_true rfl) ?_
  unfold f_92
  refine e_ld (t := 2) rfl (Or.inr (Or.inl ⟨rfl, Or.inl rfl⟩)) rfl rfl ?_
  refine e_get (a := r1) (u := .ref (r1 + 2)) rfl (fC hr1) rfl (fun _ => rfl) ?_
  refine e_ld (t := 0) rfl (Or.inl ⟨rfl, Or.inl rfl⟩) rfl rfl ?_
  refine e_at (a := (r1 + 2)) (by omega) rfl (by decide) (Nat.le_of_ble_eq_true rfl) (nC_2 hr1) ?_
  refine e_stl (g := (Option.map (fun t : yM => (t, cc, none)))) rfl (Or.inr rfl) (fun v1 => ?_)
  refine e_ld (t := 2) rfl (Or.inr (Or.inl ⟨rfl, Or.inl rfl⟩)) (l_kr (by decide) rfl) rfl ?_
  refine e_get (a := r1) (u := .ref (r1 + 3)) rfl (fC hr1) rfl (fun _ => rfl) ?_
  refine e_ld (t := 0) rfl (Or.inl ⟨rfl, Or.inl rfl⟩) (l_ki (by decide) rfl) rfl ?_
  refine e_at (a := (r1 + 3)) (by omega) rfl (by decide) (Nat.le_of_ble_eq_true rfl) (nC_3 hr1) ?_
  refine e_stl (g := (Option.map (fun t : yM => (t, cc, none)))) rfl (Or.inr rfl) (fun v2 => ?_)
  refine e_ld (t := 2) rfl (Or.inr (Or.inl ⟨rfl, Or.inl rfl⟩)) (l_kr (by decide) (l_kr (by decide) rfl)) rfl ?_
  refine e_ld (t := 0) rfl (Or.inl ⟨rfl, Or.inl rfl⟩) (l_ki (by decide) (l_ki (by decide) rfl)) rfl ?_
  refine e_ic (b := 1) rfl (by decide) (by decide) ?_
  refine e_add rfl ?_
  refine e_put (a := r3) rfl (Or.inl rfl) (fF hr3) rfl (Or.inl rfl) ?_
  refine y_let (Option.map (fun t : yM => (t, cc, none))) (fun M3 => ?_)
  refine e_ld (t := 2) rfl (Or.inr (Or.inl ⟨rfl, Or.inl rfl⟩)) (l_kr (by decide) (l_kr (by decide) rfl)) rfl ?_
  refine e_get (a := r1) (u := .ref (r1 + 1)) rfl (fC hr1) rfl (fun _ => rfl) ?_
  refine e_ld (t := 0) rfl (Or.inl ⟨rfl, Or.inl rfl⟩) (l_ki (by decide) (l_ki (by decide) rfl)) rfl ?_
  refine e_at (a := (r1 + 1)) (by omega) rfl (by decide) (Nat.le_of_ble_eq_true rfl) (nC_1 hr1) ?_
  refine e_sw (lo' := 1) rfl rfl (by decide) ?_
  refine s_case (Option.map (fun t : yM => (t, cc, none))) (by decide) (fun h4 => ?_) (fun h4 => ?_)
  · refine e_ld (t := 2) rfl (Or.inr (Or.inl ⟨rfl, Or.inl rfl⟩)) (l_kr (by decide) (l_kr (by decide) rfl)) rfl ?_
    refine e_get (a := r0) (u := .ref (r0 + 14)) rfl (fM hr0) rfl (fun _ => rfl) ?_
    refine e_ld (t := 0) rfl (Or.inl ⟨rfl, Or.inr rfl⟩) (l_ki (by decide) l_s) rfl ?_
    refine e_ld (t := 2) rfl (Or.inr (Or.inl ⟨rfl, Or.inl rfl⟩)) (l_kr (by decide) (l_kr (by decide) rfl)) rfl ?_
    refine e_ld (t := 0) rfl (Or.inl ⟨rfl, Or.inr rfl⟩) l_s rfl ?_
    refine e_obj (M1 := M3) (cc1 := cc) (v1 := some (.int (yi (f_100 M3 r0 v2)))) (a := r0) (as := [.int (yi v2)]) rfl (by decide) rfl (Nat.le_of_ble_eq_true rfl) (fM hr0) (t_100 (by omega) hr0) ?_
    refine e_wr (a := (r0 + 14)) (by omega) rfl (by decide) (Nat.le_of_ble_eq_true rfl) (nM_14 hr0) ?_
    refine y_let (Option.map (fun t : yM => (t, cc, none))) (fun M5 => ?_)
    refine e_go rfl ?_
    exact e_vret rfl
  refine s_case (Option.map (fun t : yM => (t, cc, none))) (by decide) (fun h6 => ?_) (fun h6 => ?_)
  · refine e_ld (t := 2) rfl (Or.inr (Or.inl ⟨rfl, Or.inl rfl⟩)) (l_kr (by decide) (l_kr (by decide) rfl)) rfl ?_
    refine e_get (a := r0) (u := .ref (r0 + 14)) rfl (fM hr0) rfl (fun _ => rfl) ?_
    refine e_ld (t := 0) rfl (Or.inl ⟨rfl, Or.inr rfl⟩) (l_ki (by decide) l_s) rfl ?_
    refine e_ld (t := 2) rfl (Or.inr (Or.inl ⟨rfl, Or.inl rfl⟩)) (l_kr (by decide) (l_kr (by decide) rfl)) rfl ?_
    refine e_get (a := r0) (u := .ref (r0 + 14)) rfl (fM hr0) rfl (fun _ => rfl) ?_
    refine e_ld (t := 0) rfl (Or.inl ⟨rfl, Or.inr rfl⟩) (l_ki (by decide) l_s) rfl ?_
    refine e_at (a := (r0 + 14)) (by omega) rfl (by decide) (Nat.le_of_ble_eq_true rfl) (nM_14 hr0) ?_
    refine e_ld (t := 2) rfl (Or.inr (Or.inl ⟨rfl, Or.inl rfl⟩)) (l_kr (by decide) (l_kr (by decide) rfl)) rfl ?_
    refine e_ld (t := 0) rfl (Or.inl ⟨rfl, Or.inr rfl⟩) l_s rfl ?_
    refine e_obj (M1 := M3) (cc1 := cc) (v1 := some (.int (yi (f_100 M3 r0 v2)))) (a := r0) (as := [.int (yi v2)]) rfl (by decide) rfl (Nat.le_of_ble_eq_true rfl) (fM hr0) (t_100 (by omega) hr0) ?_
    refine e_add rfl ?_
    refine e_wr (a := (r0 + 14)) (by omega) rfl (by decide) (Nat.le_of_ble_eq_true rfl) (nM_14 hr0) ?_
    refine y_let (Option.map (fun t : yM => (t, cc, none))) (fun M7 => ?_)
    refine e_go rfl ?_
    exact e_vret rfl
  refine s_case (Option.map (fun t : yM => (t, cc, none))) (by decide) (fun h8 => ?_) (fun h8 => ?_)
  · exact e_vret rfl
  refine s_case (Option.map (fun t : yM => (t, cc, none))) (by decide) (fun h9 => ?_) (fun h9 => ?_)
  · refine e_ld (t := 2) rfl (Or.inr (Or.inl ⟨rfl, Or.inl rfl⟩)) (l_kr (by decide) (l_kr (by decide) rfl)) rfl ?_
    refine e_ld (t := 2) rfl (Or.inr (Or.inl ⟨rfl, Or.inl rfl⟩)) (l_kr (by decide) (l_kr (by decide) rfl)) rfl ?_
    refine e_ld (t := 0) rfl (Or.inl ⟨rfl, Or.inr rfl⟩) (l_ki (by decide) l_s) rfl ?_
    refine e_obj (M1 := M3) (cc1 := cc) (v1 := some (.int (yi (f_100 M3 r0 v1)))) (a := r0) (as := [.int (yi v1)]) rfl (by decide) rfl (Nat.le_of_ble_eq_true rfl) (fM hr0) (t_100 (by omega) hr0) ?_
    refine e_ld (t := 2) rfl (Or.inr (Or.inl ⟨rfl, Or.inl rfl⟩)) (l_kr (by decide) (l_kr (by decide) rfl)) rfl ?_
    refine e_get (a := r1) (u := .ref (r1 + 5)) rfl (fC hr1) rfl (fun _ => rfl) ?_
    refine e_ld (t := 0) rfl (Or.inl ⟨rfl, Or.inl rfl⟩) (l_ki (by decide) (l_ki (by decide) rfl)) rfl ?_
    refine e_at (a := (r1 + 5)) (by omega) rfl (by decide) (Nat.le_of_ble_eq_true rfl) (nC_5 hr1) ?_
    refine e_objP (Option.map (fun t : yM => (t, cc, none))) (h0 := (fun t : yM => (t, cc, none))) (a := r0) (as := [.int (yi (f_100 M3 r0 v1)), .int (yi (yrd M3 (r1 + 5) x2))]) rfl (by decide) rfl (Nat.le_of_ble_eq_true rfl) (fM hr0) (t_94 (by omega) hr0) (fun t10 => ?_)
    refine e_go rfl ?_
    exact e_vret rfl
  refine s_case (Option.map (fun t : yM => (t, cc, none))) (by decide) (fun h11 => ?_) (fun h11 => ?_)
  · refine e_ld (t := 2) rfl (Or.inr (Or.inl ⟨rfl, Or.inl rfl⟩)) (l_kr (by decide) (l_kr (by decide) rfl)) rfl ?_
    refine e_ld (t := 2) rfl (Or.inr (Or.inl ⟨rfl, Or.inl rfl⟩)) (l_kr (by decide) (l_kr (by decide) rfl)) rfl ?_
    refine e_ld (t := 0) rfl (Or.inl ⟨rfl, Or.inr rfl⟩) l_s rfl ?_
    refine e_obj (M1 := M3) (cc1 := cc) (v1 := some (.int (yi (f_100 M3 r0 v2)))) (a := r0) (as := [.int (yi v2)]) rfl (by decide) rfl (Nat.le_of_ble_eq_true rfl) (fM hr0) (t_100 (by omega) hr0) ?_
    refine e_br (Option.map (fun t : yM => (t, cc, none))) (q := 5) (by decide) rfl (fun h12 => ?_) (fun h12 => ?_)
    · refine e_ld (t := 0) rfl (Or.inl ⟨rfl, Or.inr rfl⟩) (l_ki (by decide) l_s) rfl ?_
      refine e_put (a := r3) rfl (Or.inl rfl) (fF hr3) rfl (Or.inl rfl) ?_
      refine y_let (Option.map (fun t : yM => (t, cc, none))) (fun M13 => ?_)
      refine e_go rfl ?_
      exact e_vret rfl
    · refine e_ld (t := 0) rfl (Or.inl ⟨rfl, Or.inl rfl⟩) (l_ki (by decide) (l_ki (by decide) rfl)) rfl ?_
      refine e_ic (b := 1) rfl (by decide) (by decide) ?_
      refine e_add rfl ?_
      refine e_go rfl ?_
      refine e_put (a := r3) rfl (Or.inl rfl) (fF hr3) rfl (Or.inl rfl) ?_
      refine y_let (Option.map (fun t : yM => (t, cc, none))) (fun M14 => ?_)
      refine e_go rfl ?_
      exact e_vret rfl
  refine s_case (Option.map (fun t : yM => (t, cc, none))) (by decide) (fun h15 => ?_) (fun h15 => ?_)
  · refine e_ld (t := 2) rfl (Or.inr (Or.inl ⟨rfl, Or.inl rfl⟩)) (l_kr (by decide) (l_kr (by decide) rfl)) rfl ?_
    refine e_ld (t := 0) rfl (Or.inl ⟨rfl, Or.inr rfl⟩) (l_ki (by decide) l_s) rfl ?_
    refine e_put (a := r3) rfl (Or.inl rfl) (fF hr3) rfl (Or.inl rfl) ?_
    refine y_let (Option.map (fun t : yM => (t, cc, none))) (fun M16 => ?_)
    refine e_go rfl ?_
    exact e_vret rfl
  refine s_case (Option.map (fun t : yM => (t, cc, none))) (by decide) (fun h17 => ?_) (fun h17 => ?_)
  · refine e_ld (t := 2) rfl (Or.inr (Or.inl ⟨rfl, Or.inl rfl⟩)) (l_kr (by decide) (l_kr (by decide) rfl)) rfl ?_
    refine e_get (a := r3) (u := .ref (r3 + 2)) rfl (fF hr3) rfl (fun _ => rfl) ?_
    refine e_ld (t := 0) rfl (Or.inl ⟨rfl, Or.inr rfl⟩) l_s rfl ?_
    refine e_ld (t := 2) rfl (Or.inr (Or.inl ⟨rfl, Or.inl rfl⟩)) (l_kr (by decide) (l_kr (by decide) rfl)) rfl ?_
    refine e_ld (t := 0) rfl (Or.inl ⟨rfl, Or.inr rfl⟩) (l_ki (by decide) l_s) rfl ?_
    refine e_obj (M1 := M3) (cc1 := cc) (v1 := some (.int (yi (f_100 M3 r0 v1)))) (a := r0) (as := [.int (yi v1)]) rfl (by decide) rfl (Nat.le_of_ble_eq_true rfl) (fM hr0) (t_100 (by omega) hr0) ?_
    refine e_wr (a := (r3 + 2)) (by omega) rfl (by decide) (Nat.le_of_ble_eq_true rfl) (nF_2 hr3) ?_
    refine y_let (Option.map (fun t : yM => (t, cc, none))) (fun M18 => ?_)
    refine e_go rfl ?_
    exact e_vret rfl
  refine s_case (Option.map (fun t : yM => (t, cc, none))) (by decide) (fun h19 => ?_) (fun h19 => ?_)
  · refine e_ld (t := 2) rfl (Or.inr (Or.inl ⟨rfl, Or.inl rfl⟩)) (l_kr (by decide) (l_kr (by decide) rfl)) rfl ?_
    refine e_ld (t := 2) rfl (Or.inr (Or.inl ⟨rfl, Or.inl rfl⟩)) (l_kr (by decide) (l_kr (by decide) rfl)) rfl ?_
    refine e_ld (t := 2) rfl (Or.inr (Or.inl ⟨rfl, Or.inl rfl⟩)) (l_kr (by decide) (l_kr (by decide) rfl)) rfl ?_
    refine e_get (a := r3) (u := .ref (r3 + 2)) rfl (fF hr3) rfl (fun _ => rfl) ?_
    refine e_ld (t := 0) rfl (Or.inl ⟨rfl, Or.inr rfl⟩) (l_ki (by decide) l_s) rfl ?_
    refine e_at (a := (r3 + 2)) (by omega) rfl (by decide) (Nat.le_of_ble_eq_true rfl) (nF_2 hr3) ?_
    refine e_objO (h0 := (fun t : yM => (t, cc, none))) (h := (fun t : yM => (t, cc, none))) (a := r0) (as := [.ref r3, .int (yi (yrd M3 (r3 + 2) v1))]) rfl (by decide) rfl (Nat.le_of_ble_eq_true rfl) (fM hr0) (t_87 (by omega) hr0 hr3) (fun t20 => ?_)
    refine e_go rfl ?_
    exact e_vret rfl
  refine s_case (Option.map (fun t : yM => (t, cc, none))) (by decide) (fun h21 => ?_) (fun h21 => ?_)
  · exact e_vret rfl
  refine s_case (Option.map (fun t : yM => (t, cc, none))) (by decide) (fun h22 => ?_) (fun h22 => ?_)
  · exact e_vret rfl
  refine s_case (Option.map (fun t : yM => (t, cc, none))) (by decide) (fun h23 => ?_) (fun h23 => ?_)
  · refine e_ld (t := 2) rfl (Or.inr (Or.inl ⟨rfl, Or.inl rfl⟩)) (l_kr (by decide) (l_kr (by decide) rfl)) rfl ?_
    refine e_get (a := r3) (u := .ref (r3 + 1)) rfl (fF hr3) rfl (fun _ => rfl) ?_
    refine e_ld (t := 0) rfl (Or.inl ⟨rfl, Or.inr rfl⟩) (l_ki (by decide) l_s) rfl ?_
    refine e_ld (t := 2) rfl (Or.inr (Or.inl ⟨rfl, Or.inl rfl⟩)) (l_kr (by decide) (l_kr (by decide) rfl)) rfl ?_
    refine e_get (a := r0) (u := .int (yi (M3 r0 16))) rfl (fM hr0) rfl (fun _ => rfl) ?_
    refine e_wr (a := (r3 + 1)) (by omega) rfl (by decide) (Nat.le_of_ble_eq_true rfl) (nF_1 hr3) ?_
    refine y_let (Option.map (fun t : yM => (t, cc, none))) (fun M24 => ?_)
    refine e_go rfl ?_
    exact e_vret rfl
  refine s_case (Option.map (fun t : yM => (t, cc, none))) (by decide) (fun h25 => ?_) (fun h25 => ?_)
  · exact e_vret rfl
  refine s_case (Option.map (fun t : yM => (t, cc, none))) (by decide) (fun h26 => ?_) (fun h26 => ?_)
  · exact e_vret rfl
  refine s_case (Option.map (fun t : yM => (t, cc, none))) (by decide) (fun h27 => ?_) (fun h27 => ?_)
  · refine e_ld (t := 2) rfl (Or.inr (Or.inl ⟨rfl, Or.inl rfl⟩)) (l_kr (by decide) (l_kr (by decide) rfl)) rfl ?_
    refine e_get (a := r0) (u := .ref (r0 + 15)) rfl (fM hr0) rfl (fun _ => rfl) ?_
    refine e_ld (t := 0) rfl (Or.inl ⟨rfl, Or.inr rfl⟩) (l_ki (by decide) l_s) rfl ?_
    refine e_ld (t := 2) rfl (Or.inr (Or.inl ⟨rfl, Or.inl rfl⟩)) (l_kr (by decide) (l_kr (by decide) rfl)) rfl ?_
    refine e_get (a := r3) (u := .ref (r3 + 1)) rfl (fF hr3) rfl (fun _ => rfl) ?_
    refine e_ld (t := 0) rfl (Or.inl ⟨rfl, Or.inr rfl⟩) l_s rfl ?_
    refine e_at (a := (r3 + 1)) (by omega) rfl (by decide) (Nat.le_of_ble_eq_true rfl) (nF_1 hr3) ?_
    refine e_wr (a := (r0 + 15)) (by omega) rfl (by decide) (Nat.le_of_ble_eq_true rfl) (nM_15 hr0) ?_
    refine y_let (Option.map (fun t : yM => (t, cc, none))) (fun M28 => ?_)
    refine e_go rfl ?_
    exact e_vret rfl
  refine s_end ?_
  exact e_vret rfl
/-- UnwindTower$Machine.placeFor -/
def f_93_58 (N : Nat) (ih10 : yM → Nat → Nat → Int → Int → Int → Option (Int)) (M : yM) (r0 : Nat) (r1 : Nat) (x2 : Int) (x3 : Int) (x4 : Int) : Option (Int) := (ih10 M r0 r1 x2 x3 (x4 + 1))
theorem t_93_58 {sc : List Int32} {dd cc : Nat} {N : Nat} {ih10 : yM → Nat → Nat → Int → Int → Int → Option (Int)} {M : yM} {r0 : Nat} {r1 : Nat} {x2 : Int} {x3 : Int} {x4 : Int} (hd : 2 ≤ dd) (ih10_ : ∀ {M : yM} {r0 : Nat} {r1 : Nat} {x2 : Int} {x3 : Int} {x4 : Int} (hr0 : pM r0) (hr1 : pC r1) {L : zL} (hL0 : L 0 = some (.ref r0)) (hL1 : L 1 = some (.ref r1)) (hL2 : L 2 = some (.int (yi x2))) (hL3 : L 3 = some (.int (yi x3))) (hL4 : L 4 = some (.int (yi x4))), yW sc zg_c93 zg_w93 dd 10 L [] M cc ((Option.map (fun t : Int => (M, cc, some (.int (yi t))))) (ih10 M r0 r1 x2 x3 x4))) (hr0 : pM r0) (hr1 : pC r1) {L : zL} (hL0 : L 0 = some (.ref r0)) (hL1 : L 1 = some (.ref r1)) (hL2 : L 2 = some (.int (yi x2))) (hL3 : L 3 = some (.int (yi x3))) (hL4 : L 4 = some (.int (yi x4))) : yW sc zg_c93 zg_w93 dd 58 L [] M cc ((Option.map (fun t : Int => (M, cc, some (.int (yi t))))) (f_93_58 N ih10 M r0 r1 x2 x3 x4)) := by
  unfold f_93_58
  refine e_inc (d := 1) rfl hL4 (by decide) ?_
  refine e_go rfl ?_
  exact ih10_ hr0 hr1 (l_kr (by decide) hL0) (l_kr (by decide) hL1) (l_ki (by decide) hL2) (l_ki (by decide) hL3) l_s
def f_93_52 (N : Nat) (M : yM) (r0 : Nat) (x4 : Int) : Option (Int) := some (yrdT M (x4 * 4 + 2))
theorem t_93_52 {sc : List Int32} {dd cc : Nat} {N : Nat} {M : yM} {r0 : Nat} {x4 : Int} (hd : 2 ≤ dd) (hr0 : pM r0) {L : zL} (hL0 : L 0 = some (.ref r0)) (hL4 : L 4 = some (.int (yi x4))) : yW sc zg_c93 zg_w93 dd 52 L [] M cc ((Option.map (fun t : Int => (M, cc, some (.int (yi t))))) (f_93_52 N M r0 x4)) := by
  unfold f_93_52
  refine e_ld (t := 2) rfl (Or.inr (Or.inl ⟨rfl, Or.inl rfl⟩)) hL0 rfl ?_
  refine e_get (a := r0) (u := .ref 21) rfl (fM hr0) rfl (fun _ => rfl) ?_
  refine e_ld (t := 0) rfl (Or.inl ⟨rfl, Or.inr rfl⟩) hL4 rfl ?_
  refine e_ic (b := 2) rfl (by decide) (by decide) ?_
  refine e_obj (a := 21) (as := [.int (yi x4), .int (yi 2)]) rfl (by decide) rfl (Nat.le_of_ble_eq_true rfl) rfl (t_141 (by omega)) ?_
  exact e_iret rfl (Or.inl rfl)
def f_93_40 (N : Nat) (ih10 : yM → Nat → Nat → Int → Int → Int → Option (Int)) (M : yM) (r0 : Nat) (r1 : Nat) (x2 : Int) (x3 : Int) (x4 : Int) (x5 : Int) (s0 : Int) : Option (Int) := (cond (yrel 0 s0 0) (f_93_58 N ih10 M r0 r1 x2 x3 x4) (cond (yrel 0 x5 (-1)) (f_93_52 N M r0 x4) (cond (yrel 0 (f_120 M x3 x5) 0) (f_93_58 N ih10 M r0 r1 x2 x3 x4) (f_93_52 N M r0 x4))))
theorem t_93_40 {sc : List Int32} {dd cc : Nat} {N : Nat} {ih10 : yM → Nat → Nat → Int → Int → Int → Option (Int)} {M : yM} {r0 : Nat} {r1 : Nat} {x2 : Int} {x3 : Int} {x4 : Int} {x5 : Int} {s0 : Int} (hd : 2 ≤ dd) (ih10_ : ∀ {M : yM} {r0 : Nat} {r1 : Nat} {x2 : Int} {x3 : Int} {x4 : Int} (hr0 : pM r0) (hr1 : pC r1) {L : zL} (hL0 : L 0 = some (.ref r0)) (hL1 : L 1 = some (.ref r1)) (hL2 : L 2 = some (.int (yi x2))) (hL3 : L 3 = some (.int (yi x3))) (hL4 : L 4 = some (.int (yi x4))), yW sc zg_c93 zg_w93 dd 10 L [] M cc ((Option.map (fun t : Int => (M, cc, some (.int (yi t))))) (ih10 M r0 r1 x2 x3 x4))) (hr0 : pM r0) (hr1 : pC r1) {L : zL} (hL0 : L 0 = some (.ref r0)) (hL1 : L 1 = some (.ref r1)) (hL2 : L 2 = some (.int (yi x2))) (hL3 : L 3 = some (.int (yi x3))) (hL4 : L 4 = some (.int (yi x4))) (hL5 : L 5 = some (.int (yi x5))) : yW sc zg_c93 zg_w93 dd 40 L [.int (yi s0)] M cc ((Option.map (fun t : Int => (M, cc, some (.int (yi t))))) (f_93_40 N ih10 M r0 r1 x2 x3 x4 x5 s0)) := by
  unfold f_93_40
  refine e_st (t := 0) rfl (Or.inl ⟨rfl, Or.inr rfl⟩) rfl ?_
  refine e_ld (t := 0) rfl (Or.inl ⟨rfl, Or.inr rfl⟩) l_s rfl ?_
  refine e_br (Option.map (fun t : Int => (M, cc, some (.int (yi t))))) (q := 0) (by decide) rfl (fun h6 => ?_) (fun h6 => ?_)
  · exact t_93_58 (by omega) ih10_ hr0 hr1 (l_kr (by decide) hL0) (l_kr (by decide) hL1) (l_ki (by decide) hL2) (l_ki (by decide) hL3) (l_ki (by decide) hL4)
  · refine e_ld (t := 0) rfl (Or.inl ⟨rfl, Or.inr rfl⟩) (l_ki (by decide) hL5) rfl ?_
    refine e_ic (b := (-1)) rfl (by decide) (by decide) ?_
    refine e_cmp (Option.map (fun t : Int => (M, cc, some (.int (yi t))))) (q := 0) (by decide) rfl (fun h7 => ?_) (fun h7 => ?_)
    · exact t_93_52 (by omega) hr0 (l_kr (by decide) hL0) (l_ki (by decide) hL4)
    · refine e_ld (t := 2) rfl (Or.inr (Or.inl ⟨rfl, Or.inl rfl⟩)) (l_kr (by decide) hL0) rfl ?_
      refine e_get (a := r0) (u := .ref 1) rfl (fM hr0) rfl (fun _ => rfl) ?_
      refine e_ld (t := 0) rfl (Or.inl ⟨rfl, Or.inl rfl⟩) (l_ki (by decide) hL3) rfl ?_
      refine e_ld (t := 0) rfl (Or.inl ⟨rfl, Or.inr rfl⟩) (l_ki (by decide) hL5) rfl ?_
      refine e_obj (M1 := M) (cc1 := cc) (v1 := some (.int (yi (f_120 M x3 x5)))) (a := 1) (as := [.int (yi x3), .int (yi x5)]) rfl (by decide) rfl (Nat.le_of_ble_eq_true rfl) rfl (t_120 (by omega)) ?_
      refine e_br (Option.map (fun t : Int => (M, cc, some (.int (yi t))))) (q := 0) (by decide) rfl (fun h8 => ?_) (fun h8 => ?_)
      · exact t_93_58 (by omega) ih10_ hr0 hr1 (l_kr (by decide) hL0) (l_kr (by decide) hL1) (l_ki (by decide) hL2) (l_ki (by decide) hL3) (l_ki (by decide) hL4)
      · exact t_93_52 (by omega) hr0 (l_kr (by decide) hL0) (l_ki (by decide) hL4)
def f_93_39 (N : Nat) (ih10 : yM → Nat → Nat → Int → Int → Int → Option (Int)) (M : yM) (r0 : Nat) (r1 : Nat) (x2 : Int) (x3 : Int) (x4 : Int) (x5 : Int) : Option (Int) := (f_93_40 N ih10 M r0 r1 x2 x3 x4 x5 0)
theorem t_93_39 {sc : List Int32} {dd cc : Nat} {N : Nat} {ih10 : yM → Nat → Nat → Int → Int → Int → Option (Int)} {M : yM} {r0 : Nat} {r1 : Nat} {x2 : Int} {x3 : Int} {x4 : Int} {x5 : Int} (hd : 2 ≤ dd) (ih10_ : ∀ {M : yM} {r0 : Nat} {r1 : Nat} {x2 : Int} {x3 : Int} {x4 : Int} (hr0 : pM r0) (hr1 : pC r1) {L : zL} (hL0 : L 0 = some (.ref r0)) (hL1 : L 1 = some (.ref r1)) (hL2 : L 2 = some (.int (yi x2))) (hL3 : L 3 = some (.int (yi x3))) (hL4 : L 4 = some (.int (yi x4))), yW sc zg_c93 zg_w93 dd 10 L [] M cc ((Option.map (fun t : Int => (M, cc, some (.int (yi t))))) (ih10 M r0 r1 x2 x3 x4))) (hr0 : pM r0) (hr1 : pC r1) {L : zL} (hL0 : L 0 = some (.ref r0)) (hL1 : L 1 = some (.ref r1)) (hL2 : L 2 = some (.int (yi x2))) (hL3 : L 3 = some (.int (yi x3))) (hL4 : L 4 = some (.int (yi x4))) (hL5 : L 5 = some (.int (yi x5))) : yW sc zg_c93 zg_w93 dd 39 L [] M cc ((Option.map (fun t : Int => (M, cc, some (.int (yi t))))) (f_93_39 N ih10 M r0 r1 x2 x3 x4 x5)) := by
  unfold f_93_39
  refine e_ic (b := 0) rfl (by decide) (by decide) ?_
  exact t_93_40 (by omega) ih10_ hr0 hr1 hL0 hL1 hL2 hL3 hL4 hL5
def f_93_10 (N : Nat) : Nat → yM → Nat → Nat → Int → Int → Int → Option (Int)
  | 0, _, _, _, _, _, _ => none
  | n + 1, M, r0, r1, x2, x3, x4 => (cond (yrel 3 x4 ((M r1 11) + (M r1 12))) (some (-1)) (ylet (yrdT M (x4 * 4 + 3)) fun v4 => (cond (yrel 4 (yrdT M (x4 * 4 + 0)) x2) (f_93_39 N (f_93_10 N n) M r0 r1 x2 x3 x4 v4) (cond (yrel 3 x2 (yrdT M (x4 * 4 + 1))) (f_93_39 N (f_93_10 N n) M r0 r1 x2 x3 x4 v4) (f_93_40 N (f_93_10 N n) M r0 r1 x2 x3 x4 v4 1)))))
theorem t_93_10 {sc : List Int32} {dd cc : Nat} {N : Nat} (hd : 2 ≤ dd) : ∀ (n : Nat) {M : yM} {r0 : Nat} {r1 : Nat} {x2 : Int} {x3 : Int} {x4 : Int} (hr0 : pM r0) (hr1 : pC r1) {L : zL} (hL0 : L 0 = some (.ref r0)) (hL1 : L 1 = some (.ref r1)) (hL2 : L 2 = some (.int (yi x2))) (hL3 : L 3 = some (.int (yi x3))) (hL4 : L 4 = some (.int (yi x4))), yW sc zg_c93 zg_w93 dd 10 L [] M cc ((Option.map (fun t : Int => (M, cc, some (.int (yi t))))) (f_93_10 N n M r0 r1 x2 x3 x4)) := by
  intro n
  induction n with
  | zero => intros; exact y_none
  | succ n IH =>
    intro M r0 r1 x2 x3 x4 hr0 hr1 L hL0 hL1 hL2 hL3 hL4
    rw [f_93_10]
    refine e_ld (t := 0) rfl (Or.inl ⟨rfl, Or.inr rfl⟩) hL4 rfl ?_
    refine e_ld (t := 2) rfl (Or.inr (Or.inl ⟨rfl, Or.inl rfl⟩)) hL1 rfl ?_
    refine e_get (a := r1) (u := .int (yi (M r1 11))) rfl (fC hr1) rfl (fun _ => rfl) ?_
    refine e_ld (t := 2) rfl (Or.inr (Or.inl ⟨rfl, Or.inl rfl⟩)) hL1 rfl ?_
    refine e_get (a := r1) (u := .int (yi (M r1 12))) rfl (fC hr1) rfl (fun _ => rfl) ?_
    refine e_add rfl ?_
    refine e_cmp (Option.map (fun t : Int => (M, cc, some (.int (yi t))))) (q := 3) (by decide) rfl (fun h3 => ?_) (fun h3 => ?_)
    · refine e_ic (b := (-1)) rfl (by decide) (by decide) ?_
      exact e_iret rfl (Or.inl rfl)
    · refine e_ld (t := 2) rfl (Or.inr (Or.inl ⟨rfl, Or.inl rfl⟩)) hL0 rfl ?_
      refine e_get (a := r0) (u := .ref 21) rfl (fM hr0) rfl (fun _ => rfl) ?_
      refine e_ld (t := 0) rfl (Or.inl ⟨rfl, Or.inr rfl⟩) hL4 rfl ?_
      refine e_ic (b := 3) rfl (by decide) (by decide) ?_
      refine e_obj (a := 21) (as := [.int (yi x4), .int (yi 3)]) rfl (by decide) rfl (Nat.le_of_ble_eq_true rfl) rfl (t_141 (by omega)) ?_
      refine e_stl (g := (Option.map (fun t : Int => (M, cc, some (.int (yi t)))))) rfl (Or.inr rfl) (fun v4 => ?_)
      refine e_ld (t := 2) rfl (Or.inr (Or.inl ⟨rfl, Or.inl rfl⟩)) (l_kr (by decide) hL0) rfl ?_
      refine e_get (a := r0) (u := .ref 21) rfl (fM hr0) rfl (fun _ => rfl) ?_
      refine e_ld (t := 0) rfl (Or.inl ⟨rfl, Or.inr rfl⟩) (l_ki (by decide) hL4) rfl ?_
      refine e_ic (b := 0) rfl (by decide) (by decide) ?_
      refine e_obj (a := 21) (as := [.int (yi x4), .int (yi 0)]) rfl (by decide) rfl (Nat.le_of_ble_eq_true rfl) rfl (t_141 (by omega)) ?_
      refine e_ld (t := 0) rfl (Or.inl ⟨rfl, Or.inl rfl⟩) (l_ki (by decide) hL2) rfl ?_
      refine e_cmp (Option.map (fun t : Int => (M, cc, some (.int (yi t))))) (q := 4) (by decide) rfl (fun h5 => ?_) (fun h5 => ?_)
      · exact t_93_39 (by omega) IH hr0 hr1 (l_kr (by decide) hL0) (l_kr (by decide) hL1) (l_ki (by decide) hL2) (l_ki (by decide) hL3) (l_ki (by decide) hL4) l_s
      · refine e_ld (t := 0) rfl (Or.inl ⟨rfl, Or.inl rfl⟩) (l_ki (by decide) hL2) rfl ?_
        refine e_ld (t := 2) rfl (Or.inr (Or.inl ⟨rfl, Or.inl rfl⟩)) (l_kr (by decide) hL0) rfl ?_
        refine e_get (a := r0) (u := .ref 21) rfl (fM hr0) rfl (fun _ => rfl) ?_
        refine e_ld (t := 0) rfl (Or.inl ⟨rfl, Or.inr rfl⟩) (l_ki (by decide) hL4) rfl ?_
        refine e_ic (b := 1) rfl (by decide) (by decide) ?_
        refine e_obj (a := 21) (as := [.int (yi x4), .int (yi 1)]) rfl (by decide) rfl (Nat.le_of_ble_eq_true rfl) rfl (t_141 (by omega)) ?_
        refine e_cmp (Option.map (fun t : Int => (M, cc, some (.int (yi t))))) (q := 3) (by decide) rfl (fun h9 => ?_) (fun h9 => ?_)
        · exact t_93_39 (by omega) IH hr0 hr1 (l_kr (by decide) hL0) (l_kr (by decide) hL1) (l_ki (by decide) hL2) (l_ki (by decide) hL3) (l_ki (by decide) hL4) l_s
        · refine e_ic (b := 1) rfl (by decide) (by decide) ?_
          refine e_go rfl ?_
          exact t_93_40 (by omega) IH hr0 hr1 (l_kr (by decide) hL0) (l_kr (by decide) hL1) (l_ki (by decide) hL2) (l_ki (by decide) hL3) (l_ki (by decide) hL4) l_s
def f_93 (N : Nat) (M : yM) (r0 : Nat) (r1 : Nat) (x2 : Int) : Option (Int) := (ylet (yrd M ((r0 + 1) + 1) (M r0 16)) fun v1 => (ylet (M r1 11) fun v2 => (f_93_10 N N M r0 r1 x2 v1 v2)))
theorem t_93 {sc : List Int32} {dd cc : Nat} {N : Nat} {M : yM} {r0 : Nat} {r1 : Nat} {x2 : Int} (hd : 3 ≤ dd) (hr0 : pM r0) (hr1 : pC r1) : yP sc dd 93 [.ref r0, .ref r1, .int (yi x2)] M cc ((Option.map (fun t : Int => (M, cc, some (.int (yi t))))) (f_93 N M r0 r1 x2)) := by
  obtain ⟨dd, rfl⟩ : ∃ e, dd = e + 1 := ⟨dd - 1, by omega⟩
  refine e_meth (C := zg_c93) (W := zg_w93) (ml := 7) rfl rfl (Nat.le_of_ble_eq_true rfl) ?_
  unfold f_93
  refine e_ld (t := 2) rfl (Or.inr (Or.inl ⟨rfl, Or.inl rfl⟩)) rfl rfl ?_
  refine e_get (a := r0) (u := .ref (r0 + 1)) rfl (fM hr0) rfl (fun _ => rfl) ?_
  refine e_get (a := (r0 + 1)) (u := .ref ((r0 + 1) + 1)) rfl (fT (pT_M hr0)) rfl (fun _ => rfl) ?_
  refine e_ld (t := 2) rfl (Or.inr (Or.inl ⟨rfl, Or.inl rfl⟩)) rfl rfl ?_
  refine e_get (a := r0) (u := .int (yi (M r0 16))) rfl (fM hr0) rfl (fun _ => rfl) ?_
  refine e_at (a := ((r0 + 1) + 1)) (by omega) rfl (by decide) (Nat.le_of_ble_eq_true rfl) (nT_1 (pT_M hr0)) ?_
  refine e_stl (g := (Option.map (fun t : Int => (M, cc, some (.int (yi t)))))) rfl (Or.inl rfl) (fun v1 => ?_)
  refine e_ld (t := 2) rfl (Or.inr (Or.inl ⟨rfl, Or.inl rfl⟩)) (l_kr (by decide) rfl) rfl ?_
  refine e_get (a := r1) (u := .int (yi (M r1 11))) rfl (fC hr1) rfl (fun _ => rfl) ?_
  refine e_stl (g := (Option.map (fun t : Int => (M, cc, some (.int (yi t)))))) rfl (Or.inr rfl) (fun v2 => ?_)
  exact t_93_10 (by omega) N hr0 hr1 (l_kr (by decide) (l_kr (by decide) rfl)) (l_kr (by decide) (l_kr (by decide) rfl)) (l_ki (by decide) (l_ki (by decide) rfl)) (l_ki (by decide) l_s) l_s
/-- UnwindTower$Machine.raise -/
def f_95_35 (N : Nat) (M : yM) (r0 : Nat) (x5 : Int) : Option (yM) := (ylet (f_85 M r0 x5) fun t6 => some t6)
theorem t_95_35 {sc : List Int32} {dd cc : Nat} {N : Nat} {M : yM} {r0 : Nat} {x5 : Int} (hd : 2 ≤ dd) (hr0 : pM r0) {L : zL} (hL0 : L 0 = some (.ref r0)) (hL5 : L 5 = some (.int (yi x5))) : yW sc zg_c95 zg_w95 dd 35 L [] M cc ((Option.map (fun t : yM => (t, cc, none))) (f_95_35 N M r0 x5)) := by
  unfold f_95_35
  refine e_ld (t := 2) rfl (Or.inr (Or.inl ⟨rfl, Or.inl rfl⟩)) hL0 rfl ?_
  refine e_ld (t := 0) rfl (Or.inl ⟨rfl, Or.inr rfl⟩) hL5 rfl ?_
  refine e_objP (Option.map (fun t : yM => (t, cc, none))) (h0 := (fun t : yM => (t, cc, none))) (a := r0) (as := [.int (yi x5)]) rfl (by decide) rfl (Nat.le_of_ble_eq_true rfl) (fM hr0) (t_85 (by omega) hr0) (fun t6 => ?_)
  exact e_vret rfl
def f_95_17 (N : Nat) : Nat → yM → Nat → Int → Int → Option (yM)
  | 0, _, _, _, _ => none
  | n + 1, M, r0, x5, x6 => (cond (yrel 5 x6 0) (f_95_35 N M r0 x5) (cond (yrel 3 x6 30) (f_95_35 N M r0 x5) (yox x6 30 fun e8 => (ylet (f_143 M (r0 + 1) x5 (M (r0 + 20 + 3 * e8) 3)) fun t10 => (f_95_17 N n t10 r0 x5 (x6 + (-1)))))))
theorem t_95_17 {sc : List Int32} {dd cc : Nat} {N : Nat} (hd : 2 ≤ dd) : ∀ (n : Nat) {M : yM} {r0 : Nat} {x5 : Int} {x6 : Int} (hr0 : pM r0) {L : zL} (hL0 : L 0 = some (.ref r0)) (hL5 : L 5 = some (.int (yi x5))) (hL6 : L 6 = some (.int (yi x6))), yW sc zg_c95 zg_w95 dd 17 L [] M cc ((Option.map (fun t : yM => (t, cc, none))) (f_95_17 N n M r0 x5 x6)) := by
  intro n
  induction n with
  | zero => intros; exact y_none
  | succ n IH =>
    intro M r0 x5 x6 hr0 L hL0 hL5 hL6
    rw [f_95_17]
    refine e_ld (t := 0) rfl (Or.inl ⟨rfl, Or.inr rfl⟩) hL6 rfl ?_
    refine e_br (Option.map (fun t : yM => (t, cc, none))) (q := 5) (by decide) rfl (fun h5 => ?_) (fun h5 => ?_)
    · exact t_95_35 (by omega) hr0 hL0 hL5
    · refine e_ld (t := 0) rfl (Or.inl ⟨rfl, Or.inr rfl⟩) hL6 rfl ?_
      refine e_ld (t := 2) rfl (Or.inr (Or.inl ⟨rfl, Or.inl rfl⟩)) hL0 rfl ?_
      refine e_get (a := r0) (u := .ref (r0 + 19)) rfl (fM hr0) rfl (fun _ => rfl) ?_
      refine e_alen (a := (r0 + 19)) (m := 30) rfl (fun _ _ _ _ => by rw [yst_refs (qM hr0)]; rfl) (qM_le hr0) (by decide) ?_
      refine e_cmp (Option.map (fun t : yM => (t, cc, none))) (q := 3) (by decide) rfl (fun h7 => ?_) (fun h7 => ?_)
      · exact t_95_35 (by omega) hr0 hL0 hL5
      · refine e_ld (t := 2) rfl (Or.inr (Or.inl ⟨rfl, Or.inl rfl⟩)) hL0 rfl ?_
        refine e_get (a := r0) (u := .ref (r0 + 1)) rfl (fM hr0) rfl (fun _ => rfl) ?_
        refine e_ld (t := 0) rfl (Or.inl ⟨rfl, Or.inr rfl⟩) hL5 rfl ?_
        refine e_ld (t := 2) rfl (Or.inr (Or.inl ⟨rfl, Or.inl rfl⟩)) hL0 rfl ?_
        refine e_get (a := r0) (u := .ref (r0 + 19)) rfl (fM hr0) rfl (fun _ => rfl) ?_
        refine e_ld (t := 0) rfl (Or.inl ⟨rfl, Or.inr rfl⟩) hL6 rfl ?_
        refine e_aald (a := (r0 + 19)) rfl (qM hr0) (fun e8 he9 => ?_)
        refine e_get (a := (r0 + 20 + 3 * e8)) (u := .int (yi (M (r0 + 20 + 3 * e8) 3))) rfl (fF (pF_M hr0 he9)) rfl (fun _ => rfl) ?_
        refine e_objP (Option.map (fun t : yM => (t, cc, none))) (h0 := (fun t : yM => (t, cc, none))) (a := (r0 + 1)) (as := [.int (yi x5), .int (yi (M (r0 + 20 + 3 * e8) 3))]) rfl (by decide) rfl (Nat.le_of_ble_eq_true rfl) (fT (pT_M hr0)) (t_143 (by omega) (pT_M hr0)) (fun t10 => ?_)
        refine e_inc (d := (-1)) rfl hL6 (by decide) ?_
        refine e_go rfl ?_
        exact IH hr0 (l_kr (by decide) hL0) (l_ki (by decide) hL5) l_s
def f_95 (N : Nat) (M : yM) (r0 : Nat) (x1 : Int) (x2 : Int) (x3 : Int) (x4 : Int) : Option (yM) := (ylet (f_147 M (r0 + 1) x1 x2 x3) fun t1 => (ylet (t1.2) fun v2 => (ylet (f_143 t1.1 (r0 + 1) v2 x4) fun t3 => (ylet ((t3 r0 12) - 1) fun v4 => (f_95_17 N N t3 r0 v2 v4)))))
theorem t_95 {sc : List Int32} {dd cc : Nat} {N : Nat} {M : yM} {r0 : Nat} {x1 : Int} {x2 : Int} {x3 : Int} {x4 : Int} (hd : 3 ≤ dd) (hr0 : pM r0) : yP sc dd 95 [.ref r0, .int (yi x1), .int (yi x2), .int (yi x3), .int (yi x4)] M cc ((Option.map (fun t : yM => (t, cc, none))) (f_95 N M r0 x1 x2 x3 x4)) := by
  obtain ⟨dd, rfl⟩ : ∃ e, dd = e + 1 := ⟨dd - 1, by omega⟩
  refine e_meth (C := zg_c95) (W := zg_w95) (ml := 7) rfl rfl (Nat.le_of_ble_eq_true rfl) ?_
  unfold f_95
  refine e_ld (t := 2) rfl (Or.inr (Or.inl ⟨rfl, Or.inl rfl⟩)) rfl rfl ?_
  refine e_get (a := r0) (u := .ref (r0 + 1)) rfl (fM hr0) rfl (fun _ => rfl) ?_
  refine e_ld (t := 0) rfl (Or.inl ⟨rfl, Or.inl rfl⟩) rfl rfl ?_
  refine e_ld (t := 0) rfl (Or.inl ⟨rfl, Or.inl rfl⟩) rfl rfl ?_
  refine e_ld (t := 0) rfl (Or.inl ⟨rfl, Or.inl rfl⟩) rfl rfl ?_
  refine e_objP (Option.map (fun t : yM => (t, cc, none))) (h0 := (fun t : yM × Int => (t.1, cc, some (.int (yi t.2))))) (a := (r0 + 1)) (as := [.int (yi x1), .int (yi x2), .int (yi x3)]) rfl (by decide) rfl (Nat.le_of_ble_eq_true rfl) (fT (pT_M hr0)) (t_147 (by omega) (pT_M hr0)) (fun t1 => ?_)
  refine e_stl (g := (Option.map (fun t : yM => (t, cc, none)))) rfl (Or.inr rfl) (fun v2 => ?_)
  refine e_ld (t := 2) rfl (Or.inr (Or.inl ⟨rfl, Or.inl rfl⟩)) (l_kr (by decide) rfl) rfl ?_
  refine e_get (a := r0) (u := .ref (r0 + 1)) rfl (fM hr0) rfl (fun _ => rfl) ?_
  refine e_ld (t := 0) rfl (Or.inl ⟨rfl, Or.inr rfl⟩) l_s rfl ?_
  refine e_ld (t := 0) rfl (Or.inl ⟨rfl, Or.inr rfl⟩) (l_ki (by decide) rfl) rfl ?_
  refine e_objP (Option.map (fun t : yM => (t, cc, none))) (h0 := (fun t : yM => (t, cc, none))) (a := (r0 + 1)) (as := [.int (yi v2), .int (yi x4)]) rfl (by decide) rfl (Nat.le_of_ble_eq_true rfl) (fT (pT_M hr0)) (t_143 (by omega) (pT_M hr0)) (fun t3 => ?_)
  refine e_ld (t := 2) rfl (Or.inr (Or.inl ⟨rfl, Or.inl rfl⟩)) (l_kr (by decide) rfl) rfl ?_
  refine e_get (a := r0) (u := .int (yi (t3 r0 12))) rfl (fM hr0) rfl (fun _ => rfl) ?_
  refine e_ic (b := 1) rfl (by decide) (by decide) ?_
  refine e_sub rfl ?_
  refine e_stl (g := (Option.map (fun t : yM => (t, cc, none)))) rfl (Or.inr rfl) (fun v4 => ?_)
  exact t_95_17 (by omega) N hr0 (l_kr (by decide) (l_kr (by decide) rfl)) (l_ki (by decide) l_s) l_s
/-- UnwindTower$Machine.suppress -/
def f_97_10 (M : yM) (r0 : Nat) (x1 : Int) : yM := (ylet (f_85 M r0 x1) fun t2 => t2)
theorem t_97_10 {sc : List Int32} {dd cc : Nat} {M : yM} {r0 : Nat} {x1 : Int} (hd : 2 ≤ dd) (hr0 : pM r0) {L : zL} (hL0 : L 0 = some (.ref r0)) (hL1 : L 1 = some (.int (yi x1))) : yW sc zg_c97 zg_w97 dd 10 L [] M cc ((fun t : yM => some (t, cc, none)) (f_97_10 M r0 x1)) := by
  unfold f_97_10
  refine e_ld (t := 2) rfl (Or.inr (Or.inl ⟨rfl, Or.inl rfl⟩)) hL0 rfl ?_
  refine e_ld (t := 0) rfl (Or.inl ⟨rfl, Or.inl rfl⟩) hL1 rfl ?_
  refine e_objP (fun t : yM => some (t, cc, none)) (h0 := (fun t : yM => (t, cc, none))) (a := r0) (as := [.int (yi x1)]) rfl (by decide) rfl (Nat.le_of_ble_eq_true rfl) (fM hr0) (t_85 (by omega) hr0) (fun t2 => ?_)
  exact e_vret rfl
def f_97 (M : yM) (r0 : Nat) (x1 : Int) : yM := (cond (yrel 0 (M r0 16) x1) (f_97_10 M r0 x1) (ylet (f_151 M (r0 + 1) x1 (M r0 16)) fun t3 => (f_97_10 t3 r0 x1)))
theorem t_97 {sc : List Int32} {dd cc : Nat} {M : yM} {r0 : Nat} {x1 : Int} (hd : 3 ≤ dd) (hr0 : pM r0) : yP sc dd 97 [.ref r0, .int (yi x1)] M cc (some ((f_97 M r0 x1), cc, none)) := by
  obtain ⟨dd, rfl⟩ : ∃ e, dd = e + 1 := ⟨dd - 1, by omega⟩
  refine e_meth (C := zg_c97) (W := zg_w97) (ml := 2) rfl rfl (Nat.le_of_ble_eq_true rfl) ?_
  unfold f_97
  refine e_ld (t := 2) rfl (Or.inr (Or.inl ⟨rfl, Or.inl rfl⟩)) rfl rfl ?_
  refine e_get (a := r0) (u := .int (yi (M r0 16))) rfl (fM hr0) rfl (fun _ => rfl) ?_
  refine e_ld (t := 0) rfl (Or.inl ⟨rfl, Or.inl rfl⟩) rfl rfl ?_
  refine e_cmp (fun t : yM => some (t, cc, none)) (q := 0) (by decide) rfl (fun h1 => ?_) (fun h1 => ?_)
  · exact t_97_10 (by omega) hr0 rfl rfl
  · refine e_ld (t := 2) rfl (Or.inr (Or.inl ⟨rfl, Or.inl rfl⟩)) rfl rfl ?_
    refine e_get (a := r0) (u := .ref (r0 + 1)) rfl (fM hr0) rfl (fun _ => rfl) ?_
    refine e_ld (t := 0) rfl (Or.inl ⟨rfl, Or.inl rfl⟩) rfl rfl ?_
    refine e_ld (t := 2) rfl (Or.inr (Or.inl ⟨rfl, Or.inl rfl⟩)) rfl rfl ?_
    refine e_get (a := r0) (u := .int (yi (M r0 16))) rfl (fM hr0) rfl (fun _ => rfl) ?_
    refine e_objP (fun t : yM => some (t, cc, none)) (h0 := (fun t : yM => (t, cc, none))) (a := (r0 + 1)) (as := [.int (yi x1), .int (yi (M r0 16))]) rfl (by decide) rfl (Nat.le_of_ble_eq_true rfl) (fT (pT_M hr0)) (t_151 (by omega) (pT_M hr0)) (fun t3 => ?_)
    exact t_97_10 (by omega) hr0 rfl rfl
/-- UnwindTower$Machine.throwHeld -/
def f_98 (N : Nat) (M : yM) (r0 : Nat) (x1 : Int) (x2 : Int) : Option (yM) := (cond (yrel 1 x1 (-1)) (ylet (f_85 M r0 x1) fun t2 => some t2) (Option.bind (f_95 N M r0 4 0 (-1) x2) fun t3 => some t3))
theorem t_98 {sc : List Int32} {dd cc : Nat} {N : Nat} {M : yM} {r0 : Nat} {x1 : Int} {x2 : Int} (hd : 4 ≤ dd) (hr0 : pM r0) : yP sc dd 98 [.ref r0, .int (yi x1), .int (yi x2)] M cc ((Option.map (fun t : yM => (t, cc, none))) (f_98 N M r0 x1 x2)) := by
  obtain ⟨dd, rfl⟩ : ∃ e, dd = e + 1 := ⟨dd - 1, by omega⟩
  refine e_meth (C := zg_c98) (W := zg_w98) (ml := 3) rfl rfl (Nat.le_of_ble_eq_true rfl) ?_
  unfold f_98
  refine e_ld (t := 0) rfl (Or.inl ⟨rfl, Or.inl rfl⟩) rfl rfl ?_
  refine e_ic (b := (-1)) rfl (by decide) (by decide) ?_
  refine e_cmp (Option.map (fun t : yM => (t, cc, none))) (q := 1) (by decide) rfl (fun h1 => ?_) (fun h1 => ?_)
  · refine e_ld (t := 2) rfl (Or.inr (Or.inl ⟨rfl, Or.inl rfl⟩)) rfl rfl ?_
    refine e_ld (t := 0) rfl (Or.inl ⟨rfl, Or.inl rfl⟩) rfl rfl ?_
    refine e_objP (Option.map (fun t : yM => (t, cc, none))) (h0 := (fun t : yM => (t, cc, none))) (a := r0) (as := [.int (yi x1)]) rfl (by decide) rfl (Nat.le_of_ble_eq_true rfl) (fM hr0) (t_85 (by omega) hr0) (fun t2 => ?_)
    exact e_vret rfl
  · refine e_ld (t := 2) rfl (Or.inr (Or.inl ⟨rfl, Or.inl rfl⟩)) rfl rfl ?_
    refine e_ic (b := 4) rfl (by decide) (by decide) ?_
    refine e_ic (b := 0) rfl (by decide) (by decide) ?_
    refine e_ic (b := (-1)) rfl (by decide) (by decide) ?_
    refine e_ld (t := 0) rfl (Or.inl ⟨rfl, Or.inl rfl⟩) rfl rfl ?_
    refine e_objO (h0 := (fun t : yM => (t, cc, none))) (h := (fun t : yM => (t, cc, none))) (a := r0) (as := [.int (yi 4), .int (yi 0), .int (yi (-1)), .int (yi x2)]) rfl (by decide) rfl (Nat.le_of_ble_eq_true rfl) (fM hr0) (t_95 (by omega) hr0) (fun t3 => ?_)
    refine e_go rfl ?_
    exact e_vret rfl
/-- UnwindTower$Machine.unwind -/
def f_99_44 (N : Nat) (M : yM) (r0 : Nat) : Option (yM) := (ylet (yU M r0 15 0) fun M3 => (ylet (ywr M3 (r0 + 13) 0 1) fun M4 => (ylet (ywr M4 (r0 + 13) 2 (M4 r0 16)) fun M5 => some M5)))
theorem t_99_44 {sc : List Int32} {dd cc : Nat} {N : Nat} {M : yM} {r0 : Nat} (hd : 3 ≤ dd) (hr0 : pM r0) {L : zL} (hL0 : L 0 = some (.ref r0)) : yW sc zg_c99 zg_w99 dd 44 L [] M cc ((Option.map (fun t : yM => (t, cc, none))) (f_99_44 N M r0)) := by
  unfold f_99_44
  refine e_ld (t := 2) rfl (Or.inr (Or.inl ⟨rfl, Or.inl rfl⟩)) hL0 rfl ?_
  refine e_ic (b := 0) rfl (by decide) (by decide) ?_
  refine e_put (a := r0) rfl (Or.inl rfl) (fM hr0) rfl (Or.inr ⟨rfl, Or.inl rfl⟩) ?_
  refine y_let (Option.map (fun t : yM => (t, cc, none))) (fun M3 => ?_)
  refine e_ld (t := 2) rfl (Or.inr (Or.inl ⟨rfl, Or.inl rfl⟩)) hL0 rfl ?_
  refine e_get (a := r0) (u := .ref (r0 + 13)) rfl (fM hr0) rfl (fun _ => rfl) ?_
  refine e_ic (b := 0) rfl (by decide) (by decide) ?_
  refine e_ic (b := 1) rfl (by decide) (by decide) ?_
  refine e_wr (a := (r0 + 13)) (by omega) rfl (by decide) (Nat.le_of_ble_eq_true rfl) (nM_13 hr0) ?_
  refine y_let (Option.map (fun t : yM => (t, cc, none))) (fun M4 => ?_)
  refine e_ld (t := 2) rfl (Or.inr (Or.inl ⟨rfl, Or.inl rfl⟩)) hL0 rfl ?_
  refine e_get (a := r0) (u := .ref (r0 + 13)) rfl (fM hr0) rfl (fun _ => rfl) ?_
  refine e_ic (b := 2) rfl (by decide) (by decide) ?_
  refine e_ld (t := 2) rfl (Or.inr (Or.inl ⟨rfl, Or.inl rfl⟩)) hL0 rfl ?_
  refine e_get (a := r0) (u := .int (yi (M4 r0 16))) rfl (fM hr0) rfl (fun _ => rfl) ?_
  refine e_wr (a := (r0 + 13)) (by omega) rfl (by decide) (Nat.le_of_ble_eq_true rfl) (nM_13 hr0) ?_
  refine y_let (Option.map (fun t : yM => (t, cc, none))) (fun M5 => ?_)
  exact e_vret rfl
def f_99_3 (N : Nat) : Nat → yM → Nat → Option (yM)
  | 0, _, _ => none
  | n + 1, M, r0 => (cond (yrel 5 (M r0 12) 0) (f_99_44 N M r0) (cond (yrel 4 (M r0 12) 30) (f_99_44 N M r0) (yox ((M r0 12) - 1) 30 fun e7 => (Option.bind (f_93 N M r0 (24 + 9 * ypz 8 (M (r0 + 20 + 3 * e7) 0)) (M (r0 + 20 + 3 * e7) 1)) fun t9 => (cond (yrel 0 t9 (-1)) (ylet (yU M r0 12 ((M r0 12) - 1)) fun M11 => (f_99_3 N n M11 r0)) (ylet (yU M (r0 + 20 + 3 * e7) 1 t9) fun M12 => some M12))))))
theorem t_99_3 {sc : List Int32} {dd cc : Nat} {N : Nat} (hd : 3 ≤ dd) : ∀ (n : Nat) {M : yM} {r0 : Nat} (hr0 : pM r0) {L : zL} (hL0 : L 0 = some (.ref r0)), yW sc zg_c99 zg_w99 dd 3 L [] M cc ((Option.map (fun t : yM => (t, cc, none))) (f_99_3 N n M r0)) := by
  intro n
  induction n with
  | zero => intros; exact y_none
  | succ n IH =>
    intro M r0 hr0 L hL0
    rw [f_99_3]
    refine e_ld (t := 2) rfl (Or.inr (Or.inl ⟨rfl, Or.inl rfl⟩)) hL0 rfl ?_
    refine e_get (a := r0) (u := .int (yi (M r0 12))) rfl (fM hr0) rfl (fun _ => rfl) ?_
    refine e_br (Option.map (fun t : yM => (t, cc, none))) (q := 5) (by decide) rfl (fun h2 => ?_) (fun h2 => ?_)
    · exact t_99_44 (by omega) hr0 hL0
    · refine e_ld (t := 2) rfl (Or.inr (Or.inl ⟨rfl, Or.inl rfl⟩)) hL0 rfl ?_
      refine e_get (a := r0) (u := .int (yi (M r0 12))) rfl (fM hr0) rfl (fun _ => rfl) ?_
      refine e_ld (t := 2) rfl (Or.inr (Or.inl ⟨rfl, Or.inl rfl⟩)) hL0 rfl ?_
      refine e_get (a := r0) (u := .ref (r0 + 19)) rfl (fM hr0) rfl (fun _ => rfl) ?_
      refine e_alen (a := (r0 + 19)) (m := 30) rfl (fun _ _ _ _ => by rw [yst_refs (qM hr0)]; rfl) (qM_le hr0) (by decide) ?_
      refine e_cmp (Option.map (fun t : yM => (t, cc, none))) (q := 4) (by decide) rfl (fun h6 => ?_) (fun h6 => ?_)
      · exact t_99_44 (by omega) hr0 hL0
      · refine e_ld (t := 2) rfl (Or.inr (Or.inl ⟨rfl, Or.inl rfl⟩)) hL0 rfl ?_
        refine e_get (a := r0) (u := .ref (r0 + 19)) rfl (fM hr0) rfl (fun _ => rfl) ?_
        refine e_ld (t := 2) rfl (Or.inr (Or.inl ⟨rfl, Or.inl rfl⟩)) hL0 rfl ?_
        refine e_get (a := r0) (u := .int (yi (M r0 12))) rfl (fM hr0) rfl (fun _ => rfl) ?_
        refine e_ic (b := 1) rfl (by decide) (by decide) ?_
        refine e_sub rfl ?_
        refine e_aald (a := (r0 + 19)) rfl (qM hr0) (fun e7 he8 => ?_)
        refine e_st (t := 2) rfl (Or.inr ⟨rfl, Or.inl rfl⟩) rfl ?_
        refine e_ld (t := 2) rfl (Or.inr (Or.inl ⟨rfl, Or.inl rfl⟩)) (l_kr (by decide) hL0) rfl ?_
        refine e_ld (t := 2) rfl (Or.inr (Or.inl ⟨rfl, Or.inl rfl⟩)) (l_kr (by decide) hL0) rfl ?_
        refine e_get (a := r0) (u := .ref 23) rfl (fM hr0) rfl (fun _ => rfl) ?_
        refine e_ld (t := 2) rfl (Or.inr (Or.inl ⟨rfl, Or.inl rfl⟩)) l_s rfl ?_
        refine e_get (a := (r0 + 20 + 3 * e7)) (u := .int (yi (M (r0 + 20 + 3 * e7) 0))) rfl (fF (pF_M hr0 he8)) rfl (fun _ => rfl) ?_
        refine e_stat (as := [.ref 23, .int (yi (M (r0 + 20 + 3 * e7) 0))]) rfl (by decide) rfl (Nat.le_of_ble_eq_true rfl) (t_5 (by omega)) ?_
        refine e_ld (t := 2) rfl (Or.inr (Or.inl ⟨rfl, Or.inl rfl⟩)) l_s rfl ?_
        refine e_get (a := (r0 + 20 + 3 * e7)) (u := .int (yi (M (r0 + 20 + 3 * e7) 1))) rfl (fF (pF_M hr0 he8)) rfl (fun _ => rfl) ?_
        refine e_objO (h0 := (fun t : Int => (M, cc, some (.int (yi t))))) (h := (fun t : yM => (t, cc, none))) (a := r0) (as := [.ref (24 + 9 * ypz 8 (M (r0 + 20 + 3 * e7) 0)), .int (yi (M (r0 + 20 + 3 * e7) 1))]) rfl (by decide) rfl (Nat.le_of_ble_eq_true rfl) (fM hr0) (t_93 (by omega) hr0 ⟨_, ypz_lt (by decide), rfl⟩) (fun t9 => ?_)
        refine e_st (t := 0) rfl (Or.inl ⟨rfl, Or.inl rfl⟩) rfl ?_
        refine e_ld (t := 0) rfl (Or.inl ⟨rfl, Or.inl rfl⟩) l_s rfl ?_
        refine e_ic (b := (-1)) rfl (by decide) (by decide) ?_
        refine e_cmp (Option.map (fun t : yM => (t, cc, none))) (q := 0) (by decide) rfl (fun h10 => ?_) (fun h10 => ?_)
        · refine e_ld (t := 2) rfl (Or.inr (Or.inl ⟨rfl, Or.inl rfl⟩)) (l_kr (by decide) (l_kr (by decide) hL0)) rfl ?_
          refine e_dup rfl (Or.inr ⟨_, rfl⟩) ?_
          refine e_get (a := r0) (u := .int (yi (M r0 12))) rfl (fM hr0) rfl (fun _ => rfl) ?_
          refine e_ic (b := 1) rfl (by decide) (by decide) ?_
          refine e_sub rfl ?_
          refine e_put (a := r0) rfl (Or.inl rfl) (fM hr0) rfl (Or.inl rfl) ?_
          refine y_let (Option.map (fun t : yM => (t, cc, none))) (fun M11 => ?_)
          refine e_go rfl ?_
          exact IH hr0 (l_kr (by decide) (l_kr (by decide) hL0))
        · refine e_ld (t := 2) rfl (Or.inr (Or.inl ⟨rfl, Or.inl rfl⟩)) (l_kr (by decide) l_s) rfl ?_
          refine e_ld (t := 0) rfl (Or.inl ⟨rfl, Or.inl rfl⟩) l_s rfl ?_
          refine e_put (a := (r0 + 20 + 3 * e7)) rfl (Or.inl rfl) (fF (pF_M hr0 he8)) rfl (Or.inl rfl) ?_
          refine y_let (Option.map (fun t : yM => (t, cc, none))) (fun M12 => ?_)
          exact e_vret rfl
def f_99 (N : Nat) (M : yM) (r0 : Nat) : Option (yM) := (ylet (yU M r0 17 0) fun M1 => (f_99_3 N N M1 r0))
theorem t_99 {sc : List Int32} {dd cc : Nat} {N : Nat} {M : yM} {r0 : Nat} (hd : 4 ≤ dd) (hr0 : pM r0) : yP sc dd 99 [.ref r0] M cc ((Option.map (fun t : yM => (t, cc, none))) (f_99 N M r0)) := by
  obtain ⟨dd, rfl⟩ : ∃ e, dd = e + 1 := ⟨dd - 1, by omega⟩
  refine e_meth (C := zg_c99) (W := zg_w99) (ml := 3) rfl rfl (Nat.le_of_ble_eq_true rfl) ?_
  unfold f_99
  refine e_ld (t := 2) rfl (Or.inr (Or.inl ⟨rfl, Or.inl rfl⟩)) rfl rfl ?_
  refine e_ic (b := 0) rfl (by decide) (by decide) ?_
  refine e_put (a := r0) rfl (Or.inl rfl) (fM hr0) rfl (Or.inr ⟨rfl, Or.inl rfl⟩) ?_
  refine y_let (Option.map (fun t : yM => (t, cc, none))) (fun M1 => ?_)
  exact t_99_3 (by omega) N hr0 rfl
/-- UnwindTower$Program.addNode -/
def f_105 (M : yM) (x1 : Int) (x2 : Int) (x3 : Int) (x4 : Int) : yM × Int := (ylet (M 1 7) fun v1 => (ylet (yU M 1 7 ((M 1 7) + 1)) fun M2 => (ylet (ywr M2 7 v1 x1) fun M3 => (ylet (ywr M3 8 v1 x2) fun M4 => (ylet (ywr M4 9 v1 x3) fun M5 => (ylet (ywr M5 10 v1 x4) fun M6 => (ylet (ywr M6 11 v1 (-1)) fun M7 => (ylet (ywr M7 12 v1 (-1)) fun M8 => (ylet (ywr M8 11 (f_134 M8 v1) v1) fun M9 => (ylet (ywr M9 11 (f_135 M9 v1) v1) fun M10 => (ylet (ywr M10 11 (f_136 M10 v1) v1) fun M11 => (M11, v1))))))))))))
theorem t_105 {sc : List Int32} {dd cc : Nat} {M : yM} {x1 : Int} {x2 : Int} {x3 : Int} {x4 : Int} (hd : 3 ≤ dd) : yP sc dd 105 [.ref 1, .int (yi x1), .int (yi x2), .int (yi x3), .int (yi x4)] M cc (some ((f_105 M x1 x2 x3 x4).1, cc, some (.int (yi (f_105 M x1 x2 x3 x4).2)))) := by
  obtain ⟨dd, rfl⟩ : ∃ e, dd = e + 1 := ⟨dd - 1, by omega⟩
  refine e_meth (C := zg_c105) (W := zg_w105) (ml := 6) rfl rfl (Nat.le_of_ble_eq_true rfl) ?_
  unfold f_105
  refine e_ld (t := 2) rfl (Or.inr (Or.inl ⟨rfl, Or.inl rfl⟩)) rfl rfl ?_
  refine e_get (a := 1) (u := .int (yi (M 1 7))) rfl rfl rfl (fun _ => rfl) ?_
  refine e_stl (g := (fun t : yM × Int => some (t.1, cc, some (.int (yi t.2))))) rfl (Or.inr rfl) (fun v1 => ?_)
  refine e_ld (t := 2) rfl (Or.inr (Or.inl ⟨rfl, Or.inl rfl⟩)) (l_kr (by decide) rfl) rfl ?_
  refine e_dup rfl (Or.inr ⟨_, rfl⟩) ?_
  refine e_get (a := 1) (u := .int (yi (M 1 7))) rfl rfl rfl (fun _ => rfl) ?_
  refine e_ic (b := 1) rfl (by decide) (by decide) ?_
  refine e_add rfl ?_
  refine e_put (a := 1) rfl (Or.inl rfl) rfl rfl (Or.inl rfl) ?_
  refine y_let (fun t : yM × Int => some (t.1, cc, some (.int (yi t.2)))) (fun M2 => ?_)
  refine e_ld (t := 2) rfl (Or.inr (Or.inl ⟨rfl, Or.inl rfl⟩)) (l_kr (by decide) rfl) rfl ?_
  refine e_get (a := 1) (u := .ref 7) rfl rfl rfl (fun _ => rfl) ?_
  refine e_ld (t := 0) rfl (Or.inl ⟨rfl, Or.inr rfl⟩) l_s rfl ?_
  refine e_ld (t := 0) rfl (Or.inl ⟨rfl, Or.inl rfl⟩) (l_ki (by decide) rfl) rfl ?_
  refine e_wr (a := 7) (by omega) rfl (by decide) (Nat.le_of_ble_eq_true rfl) rfl ?_
  refine y_let (fun t : yM × Int => some (t.1, cc, some (.int (yi t.2)))) (fun M3 => ?_)
  refine e_ld (t := 2) rfl (Or.inr (Or.inl ⟨rfl, Or.inl rfl⟩)) (l_kr (by decide) rfl) rfl ?_
  refine e_get (a := 1) (u := .ref 8) rfl rfl rfl (fun _ => rfl) ?_
  refine e_ld (t := 0) rfl (Or.inl ⟨rfl, Or.inr rfl⟩) l_s rfl ?_
  refine e_ld (t := 0) rfl (Or.inl ⟨rfl, Or.inl rfl⟩) (l_ki (by decide) rfl) rfl ?_
  refine e_wr (a := 8) (by omega) rfl (by decide) (Nat.le_of_ble_eq_true rfl) rfl ?_
  refine y_let (fun t : yM × Int => some (t.1, cc, some (.int (yi t.2)))) (fun M4 => ?_)
  refine e_ld (t := 2) rfl (Or.inr (Or.inl ⟨rfl, Or.inl rfl⟩)) (l_kr (by decide) rfl) rfl ?_
  refine e_get (a := 1) (u := .ref 9) rfl rfl rfl (fun _ => rfl) ?_
  refine e_ld (t := 0) rfl (Or.inl ⟨rfl, Or.inr rfl⟩) l_s rfl ?_
  refine e_ld (t := 0) rfl (Or.inl ⟨rfl, Or.inl rfl⟩) (l_ki (by decide) rfl) rfl ?_
  refine e_wr (a := 9) (by omega) rfl (by decide) (Nat.le_of_ble_eq_true rfl) rfl ?_
  refine y_let (fun t : yM × Int => some (t.1, cc, some (.int (yi t.2)))) (fun M5 => ?_)
  refine e_ld (t := 2) rfl (Or.inr (Or.inl ⟨rfl, Or.inl rfl⟩)) (l_kr (by decide) rfl) rfl ?_
  refine e_get (a := 1) (u := .ref 10) rfl rfl rfl (fun _ => rfl) ?_
  refine e_ld (t := 0) rfl (Or.inl ⟨rfl, Or.inr rfl⟩) l_s rfl ?_
  refine e_ld (t := 0) rfl (Or.inl ⟨rfl, Or.inr rfl⟩) (l_ki (by decide) rfl) rfl ?_
  refine e_wr (a := 10) (by omega) rfl (by decide) (Nat.le_of_ble_eq_true rfl) rfl ?_
  refine y_let (fun t : yM × Int => some (t.1, cc, some (.int (yi t.2)))) (fun M6 => ?_)
  refine e_ld (t := 2) rfl (Or.inr (Or.inl ⟨rfl, Or.inl rfl⟩)) (l_kr (by decide) rfl) rfl ?_
  refine e_get (a := 1) (u := .ref 11) rfl rfl rfl (fun _ => rfl) ?_
  refine e_ld (t := 0) rfl (Or.inl ⟨rfl, Or.inr rfl⟩) l_s rfl ?_
  refine e_ic (b := (-1)) rfl (by decide) (by decide) ?_
  refine e_wr (a := 11) (by omega) rfl (by decide) (Nat.le_of_ble_eq_true rfl) rfl ?_
  refine y_let (fun t : yM × Int => some (t.1, cc, some (.int (yi t.2)))) (fun M7 => ?_)
  refine e_ld (t := 2) rfl (Or.inr (Or.inl ⟨rfl, Or.inl rfl⟩)) (l_kr (by decide) rfl) rfl ?_
  refine e_get (a := 1) (u := .ref 12) rfl rfl rfl (fun _ => rfl) ?_
  refine e_ld (t := 0) rfl (Or.inl ⟨rfl, Or.inr rfl⟩) l_s rfl ?_
  refine e_ic (b := (-1)) rfl (by decide) (by decide) ?_
  refine e_wr (a := 12) (by omega) rfl (by decide) (Nat.le_of_ble_eq_true rfl) rfl ?_
  refine y_let (fun t : yM × Int => some (t.1, cc, some (.int (yi t.2)))) (fun M8 => ?_)
  refine e_ld (t := 2) rfl (Or.inr (Or.inl ⟨rfl, Or.inl rfl⟩)) (l_kr (by decide) rfl) rfl ?_
  refine e_get (a := 1) (u := .ref 11) rfl rfl rfl (fun _ => rfl) ?_
  refine e_ld (t := 2) rfl (Or.inr (Or.inl ⟨rfl, Or.inl rfl⟩)) (l_kr (by decide) rfl) rfl ?_
  refine e_ld (t := 0) rfl (Or.inl ⟨rfl, Or.inr rfl⟩) l_s rfl ?_
  refine e_obj (M1 := M8) (cc1 := cc) (v1 := some (.int (yi (f_134 M8 v1)))) (a := 1) (as := [.int (yi v1)]) rfl (by decide) rfl (Nat.le_of_ble_eq_true rfl) rfl (t_134 (by omega)) ?_
  refine e_ld (t := 0) rfl (Or.inl ⟨rfl, Or.inr rfl⟩) l_s rfl ?_
  refine e_wr (a := 11) (by omega) rfl (by decide) (Nat.le_of_ble_eq_true rfl) rfl ?_
  refine y_let (fun t : yM × Int => some (t.1, cc, some (.int (yi t.2)))) (fun M9 => ?_)
  refine e_ld (t := 2) rfl (Or.inr (Or.inl ⟨rfl, Or.inl rfl⟩)) (l_kr (by decide) rfl) rfl ?_
  refine e_get (a := 1) (u := .ref 11) rfl rfl rfl (fun _ => rfl) ?_
  refine e_ld (t := 2) rfl (Or.inr (Or.inl ⟨rfl, Or.inl rfl⟩)) (l_kr (by decide) rfl) rfl ?_
  refine e_ld (t := 0) rfl (Or.inl ⟨rfl, Or.inr rfl⟩) l_s rfl ?_
  refine e_obj (M1 := M9) (cc1 := cc) (v1 := some (.int (yi (f_135 M9 v1)))) (a := 1) (as := [.int (yi v1)]) rfl (by decide) rfl (Nat.le_of_ble_eq_true rfl) rfl (t_135 (by omega)) ?_
  refine e_ld (t := 0) rfl (Or.inl ⟨rfl, Or.inr rfl⟩) l_s rfl ?_
  refine e_wr (a := 11) (by omega) rfl (by decide) (Nat.le_of_ble_eq_true rfl) rfl ?_
  refine y_let (fun t : yM × Int => some (t.1, cc, some (.int (yi t.2)))) (fun M10 => ?_)
  refine e_ld (t := 2) rfl (Or.inr (Or.inl ⟨rfl, Or.inl rfl⟩)) (l_kr (by decide) rfl) rfl ?_
  refine e_get (a := 1) (u := .ref 11) rfl rfl rfl (fun _ => rfl) ?_
  refine e_ld (t := 2) rfl (Or.inr (Or.inl ⟨rfl, Or.inl rfl⟩)) (l_kr (by decide) rfl) rfl ?_
  refine e_ld (t := 0) rfl (Or.inl ⟨rfl, Or.inr rfl⟩) l_s rfl ?_
  refine e_obj (M1 := M10) (cc1 := cc) (v1 := some (.int (yi (f_136 M10 v1)))) (a := 1) (as := [.int (yi v1)]) rfl (by decide) rfl (Nat.le_of_ble_eq_true rfl) rfl (t_136 (by omega)) ?_
  refine e_ld (t := 0) rfl (Or.inl ⟨rfl, Or.inr rfl⟩) l_s rfl ?_
  refine e_wr (a := 11) (by omega) rfl (by decide) (Nat.le_of_ble_eq_true rfl) rfl ?_
  refine y_let (fun t : yM × Int => some (t.1, cc, some (.int (yi t.2)))) (fun M11 => ?_)
  refine e_ld (t := 0) rfl (Or.inl ⟨rfl, Or.inr rfl⟩) l_s rfl ?_
  exact e_iret rfl (Or.inl rfl)
/-- UnwindTower$Program.canOf -/
def f_107 (N : Nat) (M : yM) (x1 : Int) : Option (Int) := (ylet (yrd M 8 x1) fun v1 => (cond (yrel 0 (yrd M 7 x1) 9) (some (yrd M 5 (yrd M 9 x1))) (cond (yrel 0 (yrd M 7 x1) (9 + 1)) (some (ybin 28 1 v1)) (cond (yrel 0 (yrd M 7 x1) (9 + 1 + 1)) (Option.bind (f_110 N M x1) fun t5 => some t5) (cond (yrel 0 (yrd M 7 x1) (9 + 1 + 1 + 1)) (some (f_109 M (yrd M 9 x1))) (cond (yrel 0 (yrd M 7 x1) (9 + 1 + 1 + 1 + 1)) (some (ybin 27 (ybin 27 (f_138 M v1) (f_138 M (yrd M 10 x1))) (f_109 M (yrd M 9 x1)))) (cond (yrel 0 (yrd M 7 x1) (9 + 1 + 1 + 1 + 1 + 1)) (ylet (yrd M 14 x1) fun v9 => (cond (yrel 1 v9 (-1)) (some (ybin 28 1 (yrd M 8 v9))) (some 0))) (cond (yrel 0 (yrd M 7 x1) (9 + 1 + 1 + 1 + 1 + 1 + 1)) (some (ybin 28 1 v1)) (some (ybin 27 (f_109 M (f_135 M x1)) (f_109 M (f_136 M x1))))))))))))
theorem t_107 {sc : List Int32} {dd cc : Nat} {N : Nat} {M : yM} {x1 : Int} (hd : 4 ≤ dd) : yP sc dd 107 [.ref 1, .int (yi x1)] M cc ((Option.map (fun t : Int => (M, cc, some (.int (yi t))))) (f_107 N M x1)) := by
  obtain ⟨dd, rfl⟩ : ∃ e, dd = e + 1 := ⟨dd - 1, by omega⟩
  refine e_meth (C := zg_c107) (W := zg_w107) (ml := 4) rfl rfl (Nat.le_of_ble_eq_true rfl) ?_
  unfold f_107
  refine e_ld (t := 2) rfl (Or.inr (Or.inl ⟨rfl, Or.inl rfl⟩)) rfl rfl ?_
  refine e_get (a := 1) (u := .ref 8) rfl rfl rfl (fun _ => rfl) ?_
  refine e_ld (t := 0) rfl (Or.inl ⟨rfl, Or.inl rfl⟩) rfl rfl ?_
  refine e_at (a := 8) (by omega) rfl (by decide) (Nat.le_of_ble_eq_true rfl) rfl ?_
  refine e_stl (g := (Option.map (fun t : Int => (M, cc, some (.int (yi t)))))) rfl (Or.inl rfl) (fun v1 => ?_)
  refine e_ld (t := 2) rfl (Or.inr (Or.inl ⟨rfl, Or.inl rfl⟩)) (l_kr (by decide) rfl) rfl ?_
  refine e_get (a := 1) (u := .ref 7) rfl rfl rfl (fun _ => rfl) ?_
  refine e_ld (t := 0) rfl (Or.inl ⟨rfl, Or.inl rfl⟩) (l_ki (by decide) rfl) rfl ?_
  refine e_at (a := 7) (by omega) rfl (by decide) (Nat.le_of_ble_eq_true rfl) rfl ?_
  refine e_sw (lo' := 9) rfl rfl (by decide) ?_
  refine s_case (Option.map (fun t : Int => (M, cc, some (.int (yi t))))) (by decide) (fun h2 => ?_) (fun h2 => ?_)
  · refine e_ld (t := 2) rfl (Or.inr (Or.inl ⟨rfl, Or.inl rfl⟩)) (l_kr (by decide) rfl) rfl ?_
    refine e_get (a := 1) (u := .ref 5) rfl rfl rfl (fun _ => rfl) ?_
    refine e_ld (t := 2) rfl (Or.inr (Or.inl ⟨rfl, Or.inl rfl⟩)) (l_kr (by decide) rfl) rfl ?_
    refine e_get (a := 1) (u := .ref 9) rfl rfl rfl (fun _ => rfl) ?_
    refine e_ld (t := 0) rfl (Or.inl ⟨rfl, Or.inl rfl⟩) (l_ki (by decide) rfl) rfl ?_
    refine e_at (a := 9) (by omega) rfl (by decide) (Nat.le_of_ble_eq_true rfl) rfl ?_
    refine e_at (a := 5) (by omega) rfl (by decide) (Nat.le_of_ble_eq_true rfl) rfl ?_
    exact e_iret rfl (Or.inl rfl)
  refine s_case (Option.map (fun t : Int => (M, cc, some (.int (yi t))))) (by decide) (fun h3 => ?_) (fun h3 => ?_)
  · refine e_ic (b := 1) rfl (by decide) (by decide) ?_
    refine e_ld (t := 0) rfl (Or.inl ⟨rfl, Or.inl rfl⟩) l_s rfl ?_
    refine e_bin rfl (by decide) ?_
    exact e_iret rfl (Or.inl rfl)
  refine s_case (Option.map (fun t : Int => (M, cc, some (.int (yi t))))) (by decide) (fun h4 => ?_) (fun h4 => ?_)
  · refine e_ld (t := 2) rfl (Or.inr (Or.inl ⟨rfl, Or.inl rfl⟩)) (l_kr (by decide) rfl) rfl ?_
    refine e_ld (t := 0) rfl (Or.inl ⟨rfl, Or.inl rfl⟩) (l_ki (by decide) rfl) rfl ?_
    refine e_objO (h0 := (fun t : Int => (M, cc, some (.int (yi t))))) (h := (fun t : Int => (M, cc, some (.int (yi t))))) (a := 1) (as := [.int (yi x1)]) rfl (by decide) rfl (Nat.le_of_ble_eq_true rfl) rfl (t_110 (by omega)) (fun t5 => ?_)
    exact e_iret rfl (Or.inl rfl)
  refine s_case (Option.map (fun t : Int => (M, cc, some (.int (yi t))))) (by decide) (fun h6 => ?_) (fun h6 => ?_)
  · refine e_ld (t := 2) rfl (Or.inr (Or.inl ⟨rfl, Or.inl rfl⟩)) (l_kr (by decide) rfl) rfl ?_
    refine e_ld (t := 2) rfl (Or.inr (Or.inl ⟨rfl, Or.inl rfl⟩)) (l_kr (by decide) rfl) rfl ?_
    refine e_get (a := 1) (u := .ref 9) rfl rfl rfl (fun _ => rfl) ?_
    refine e_ld (t := 0) rfl (Or.inl ⟨rfl, Or.inl rfl⟩) (l_ki (by decide) rfl) rfl ?_
    refine e_at (a := 9) (by omega) rfl (by decide) (Nat.le_of_ble_eq_true rfl) rfl ?_
    refine e_obj (M1 := M) (cc1 := cc) (v1 := some (.int (yi (f_109 M (yrd M 9 x1))))) (a := 1) (as := [.int (yi (yrd M 9 x1))]) rfl (by decide) rfl (Nat.le_of_ble_eq_true rfl) rfl (t_109 (by omega)) ?_
    exact e_iret rfl (Or.inl rfl)
  refine s_case (Option.map (fun t : Int => (M, cc, some (.int (yi t))))) (by decide) (fun h7 => ?_) (fun h7 => ?_)
  · refine e_ld (t := 2) rfl (Or.inr (Or.inl ⟨rfl, Or.inl rfl⟩)) (l_kr (by decide) rfl) rfl ?_
    refine e_ld (t := 0) rfl (Or.inl ⟨rfl, Or.inl rfl⟩) l_s rfl ?_
    refine e_obj (M1 := M) (cc1 := cc) (v1 := some (.int (yi (f_138 M v1)))) (a := 1) (as := [.int (yi v1)]) rfl (by decide) rfl (Nat.le_of_ble_eq_true rfl) rfl (t_138 (by omega)) ?_
    refine e_ld (t := 2) rfl (Or.inr (Or.inl ⟨rfl, Or.inl rfl⟩)) (l_kr (by decide) rfl) rfl ?_
    refine e_ld (t := 2) rfl (Or.inr (Or.inl ⟨rfl, Or.inl rfl⟩)) (l_kr (by decide) rfl) rfl ?_
    refine e_get (a := 1) (u := .ref 10) rfl rfl rfl (fun _ => rfl) ?_
    refine e_ld (t := 0) rfl (Or.inl ⟨rfl, Or.inl rfl⟩) (l_ki (by decide) rfl) rfl ?_
    refine e_at (a := 10) (by omega) rfl (by decide) (Nat.le_of_ble_eq_true rfl) rfl ?_
    refine e_obj (M1 := M) (cc1 := cc) (v1 := some (.int (yi (f_138 M (yrd M 10 x1))))) (a := 1) (as := [.int (yi (yrd M 10 x1))]) rfl (by decide) rfl (Nat.le_of_ble_eq_true rfl) rfl (t_138 (by omega)) ?_
    refine e_bin rfl (by decide) ?_
    refine e_ld (t := 2) rfl (Or.inr (Or.inl ⟨rfl, Or.inl rfl⟩)) (l_kr (by decide) rfl) rfl ?_
    refine e_ld (t := 2) rfl (Or.inr (Or.inl ⟨rfl, Or.inl rfl⟩)) (l_kr (by decide) rfl) rfl ?_
    refine e_get (a := 1) (u := .ref 9) rfl rfl rfl (fun _ => rfl) ?_
    refine e_ld (t := 0) rfl (Or.inl ⟨rfl, Or.inl rfl⟩) (l_ki (by decide) rfl) rfl ?_
    refine e_at (a := 9) (by omega) rfl (by decide) (Nat.le_of_ble_eq_true rfl) rfl ?_
    refine e_obj (M1 := M) (cc1 := cc) (v1 := some (.int (yi (f_109 M (yrd M 9 x1))))) (a := 1) (as := [.int (yi (yrd M 9 x1))]) rfl (by decide) rfl (Nat.le_of_ble_eq_true rfl) rfl (t_109 (by omega)) ?_
    refine e_bin rfl (by decide) ?_
    exact e_iret rfl (Or.inl rfl)
  refine s_case (Option.map (fun t : Int => (M, cc, some (.int (yi t))))) (by decide) (fun h8 => ?_) (fun h8 => ?_)
  · refine e_ld (t := 2) rfl (Or.inr (Or.inl ⟨rfl, Or.inl rfl⟩)) (l_kr (by decide) rfl) rfl ?_
    refine e_get (a := 1) (u := .ref 14) rfl rfl rfl (fun _ => rfl) ?_
    refine e_ld (t := 0) rfl (Or.inl ⟨rfl, Or.inl rfl⟩) (l_ki (by decide) rfl) rfl ?_
    refine e_at (a := 14) (by omega) rfl (by decide) (Nat.le_of_ble_eq_true rfl) rfl ?_
    refine e_stl (g := (Option.map (fun t : Int => (M, cc, some (.int (yi t)))))) rfl (Or.inl rfl) (fun v9 => ?_)
    refine e_ld (t := 0) rfl (Or.inl ⟨rfl, Or.inl rfl⟩) l_s rfl ?_
    refine e_ic (b := (-1)) rfl (by decide) (by decide) ?_
    refine e_cmp (Option.map (fun t : Int => (M, cc, some (.int (yi t))))) (q := 1) (by decide) rfl (fun h10 => ?_) (fun h10 => ?_)
    · refine e_ic (b := 1) rfl (by decide) (by decide) ?_
      refine e_ld (t := 2) rfl (Or.inr (Or.inl ⟨rfl, Or.inl rfl⟩)) (l_kr (by decide) (l_kr (by decide) rfl)) rfl ?_
      refine e_get (a := 1) (u := .ref 8) rfl rfl rfl (fun _ => rfl) ?_
      refine e_ld (t := 0) rfl (Or.inl ⟨rfl, Or.inl rfl⟩) l_s rfl ?_
      refine e_at (a := 8) (by omega) rfl (by decide) (Nat.le_of_ble_eq_true rfl) rfl ?_
      refine e_bin rfl (by decide) ?_
      exact e_iret rfl (Or.inl rfl)
    · refine e_ic (b := 0) rfl (by decide) (by decide) ?_
      refine e_go rfl ?_
      exact e_iret rfl (Or.inl rfl)
  refine s_case (Option.map (fun t : Int => (M, cc, some (.int (yi t))))) (by decide) (fun h11 => ?_) (fun h11 => ?_)
  · refine e_ic (b := 1) rfl (by decide) (by decide) ?_
    refine e_ld (t := 0) rfl (Or.inl ⟨rfl, Or.inl rfl⟩) l_s rfl ?_
    refine e_bin rfl (by decide) ?_
    exact e_iret rfl (Or.inl rfl)
  refine s_end ?_
  refine e_ld (t := 2) rfl (Or.inr (Or.inl ⟨rfl, Or.inl rfl⟩)) (l_kr (by decide) rfl) rfl ?_
  refine e_ld (t := 2) rfl (Or.inr (Or.inl ⟨rfl, Or.inl rfl⟩)) (l_kr (by decide) rfl) rfl ?_
  refine e_ld (t := 0) rfl (Or.inl ⟨rfl, Or.inl rfl⟩) (l_ki (by decide) rfl) rfl ?_
  refine e_obj (M1 := M) (cc1 := cc) (v1 := some (.int (yi (f_135 M x1)))) (a := 1) (as := [.int (yi x1)]) rfl (by decide) rfl (Nat.le_of_ble_eq_true rfl) rfl (t_135 (by omega)) ?_
  refine e_obj (M1 := M) (cc1 := cc) (v1 := some (.int (yi (f_109 M (f_135 M x1))))) (a := 1) (as := [.int (yi (f_135 M x1))]) rfl (by decide) rfl (Nat.le_of_ble_eq_true rfl) rfl (t_109 (by omega)) ?_
  refine e_ld (t := 2) rfl (Or.inr (Or.inl ⟨rfl, Or.inl rfl⟩)) (l_kr (by decide) rfl) rfl ?_
  refine e_ld (t := 2) rfl (Or.inr (Or.inl ⟨rfl, Or.inl rfl⟩)) (l_kr (by decide) rfl) rfl ?_
  refine e_ld (t := 0) rfl (Or.inl ⟨rfl, Or.inl rfl⟩) (l_ki (by decide) rfl) rfl ?_
  refine e_obj (M1 := M) (cc1 := cc) (v1 := some (.int (yi (f_136 M x1)))) (a := 1) (as := [.int (yi x1)]) rfl (by decide) rfl (Nat.le_of_ble_eq_true rfl) rfl (t_136 (by omega)) ?_
  refine e_obj (M1 := M) (cc1 := cc) (v1 := some (.int (yi (f_109 M (f_136 M x1))))) (a := 1) (as := [.int (yi (f_136 M x1))]) rfl (by decide) rfl (Nat.le_of_ble_eq_true rfl) rfl (t_109 (by omega)) ?_
  refine e_bin rfl (by decide) ?_
  exact e_iret rfl (Or.inl rfl)
/-- UnwindTower$Program.canOfBody -/
def f_108 (M : yM) (x1 : Int) : Int := (f_109 M (yrd M 6 x1))
theorem t_108 {sc : List Int32} {dd cc : Nat} {M : yM} {x1 : Int} (hd : 3 ≤ dd) : yP sc dd 108 [.ref 1, .int (yi x1)] M cc (some (M, cc, some (.int (yi (f_108 M x1))))) := by
  obtain ⟨dd, rfl⟩ : ∃ e, dd = e + 1 := ⟨dd - 1, by omega⟩
  refine e_meth (C := zg_c108) (W := zg_w108) (ml := 2) rfl rfl (Nat.le_of_ble_eq_true rfl) ?_
  unfold f_108
  refine e_ld (t := 2) rfl (Or.inr (Or.inl ⟨rfl, Or.inl rfl⟩)) rfl rfl ?_
  refine e_ld (t := 2) rfl (Or.inr (Or.inl ⟨rfl, Or.inl rfl⟩)) rfl rfl ?_
  refine e_get (a := 1) (u := .ref 6) rfl rfl rfl (fun _ => rfl) ?_
  refine e_ld (t := 0) rfl (Or.inl ⟨rfl, Or.inl rfl⟩) rfl rfl ?_
  refine e_at (a := 6) (by omega) rfl (by decide) (Nat.le_of_ble_eq_true rfl) rfl ?_
  refine e_obj (M1 := M) (cc1 := cc) (v1 := some (.int (yi (f_109 M (yrd M 6 x1))))) (a := 1) (as := [.int (yi (yrd M 6 x1))]) rfl (by decide) rfl (Nat.le_of_ble_eq_true rfl) rfl (t_109 (by omega)) ?_
  exact e_iret rfl (Or.inl rfl)
/-- UnwindTower$Program.firstCatch -/
def f_116_7 (N : Nat) : Nat → yM → Int → Int → Int → Option (Int)
  | 0, _, _, _, _ => none
  | n + 1, M, x2, x3, x4 => (cond (yrel 2 x3 0) (some (-1)) (cond (yrel 5 x4 0) (some (-1)) (cond (yrel 0 (f_120 M x2 (yrd M 8 x3)) 0) (ylet (yrd M 10 x3) fun v5 => (f_116_7 N n M x2 v5 (x4 + (-1)))) (some x3))))
theorem t_116_7 {sc : List Int32} {dd cc : Nat} {N : Nat} (hd : 2 ≤ dd) : ∀ (n : Nat) {M : yM} {x2 : Int} {x3 : Int} {x4 : Int} {L : zL} (hL0 : L 0 = some (.ref 1)) (hL2 : L 2 = some (.int (yi x2))) (hL3 : L 3 = some (.int (yi x3))) (hL4 : L 4 = some (.int (yi x4))), yW sc zg_c116 zg_w116 dd 7 L [] M cc ((Option.map (fun t : Int => (M, cc, some (.int (yi t))))) (f_116_7 N n M x2 x3 x4)) := by
  intro n
  induction n with
  | zero => intros; exact y_none
  | succ n IH =>
    intro M x2 x3 x4 L hL0 hL2 hL3 hL4
    rw [f_116_7]
    refine e_ld (t := 0) rfl (Or.inl ⟨rfl, Or.inl rfl⟩) hL3 rfl ?_
    refine e_br (Option.map (fun t : Int => (M, cc, some (.int (yi t))))) (q := 2) (by decide) rfl (fun h2 => ?_) (fun h2 => ?_)
    · refine e_ic (b := (-1)) rfl (by decide) (by decide) ?_
      exact e_iret rfl (Or.inl rfl)
    · refine e_ld (t := 0) rfl (Or.inl ⟨rfl, Or.inr rfl⟩) hL4 rfl ?_
      refine e_br (Option.map (fun t : Int => (M, cc, some (.int (yi t))))) (q := 5) (by decide) rfl (fun h3 => ?_) (fun h3 => ?_)
      · refine e_ic (b := (-1)) rfl (by decide) (by decide) ?_
        exact e_iret rfl (Or.inl rfl)
      · refine e_ld (t := 2) rfl (Or.inr (Or.inl ⟨rfl, Or.inl rfl⟩)) hL0 rfl ?_
        refine e_ld (t := 0) rfl (Or.inl ⟨rfl, Or.inl rfl⟩) hL2 rfl ?_
        refine e_ld (t := 2) rfl (Or.inr (Or.inl ⟨rfl, Or.inl rfl⟩)) hL0 rfl ?_
        refine e_get (a := 1) (u := .ref 8) rfl rfl rfl (fun _ => rfl) ?_
        refine e_ld (t := 0) rfl (Or.inl ⟨rfl, Or.inl rfl⟩) hL3 rfl ?_
        refine e_at (a := 8) (by omega) rfl (by decide) (Nat.le_of_ble_eq_true rfl) rfl ?_
        refine e_obj (M1 := M) (cc1 := cc) (v1 := some (.int (yi (f_120 M x2 (yrd M 8 x3))))) (a := 1) (as := [.int (yi x2), .int (yi (yrd M 8 x3))]) rfl (by decide) rfl (Nat.le_of_ble_eq_true rfl) rfl (t_120 (by omega)) ?_
        refine e_br (Option.map (fun t : Int => (M, cc, some (.int (yi t))))) (q := 0) (by decide) rfl (fun h4 => ?_) (fun h4 => ?_)
        · refine e_ld (t := 2) rfl (Or.inr (Or.inl ⟨rfl, Or.inl rfl⟩)) hL0 rfl ?_
          refine e_get (a := 1) (u := .ref 10) rfl rfl rfl (fun _ => rfl) ?_
          refine e_ld (t := 0) rfl (Or.inl ⟨rfl, Or.inl rfl⟩) hL3 rfl ?_
          refine e_at (a := 10) (by omega) rfl (by decide) (Nat.le_of_ble_eq_true rfl) rfl ?_
          refine e_stl (g := (Option.map (fun t : Int => (M, cc, some (.int (yi t)))))) rfl (Or.inl rfl) (fun v5 => ?_)
          refine e_inc (d := (-1)) rfl (l_ki (by decide) hL4) (by decide) ?_
          refine e_go rfl ?_
          exact IH (l_kr (by decide) (l_kr (by decide) hL0)) (l_ki (by decide) (l_ki (by decide) hL2)) (l_ki (by decide) l_s) l_s
        · refine e_ld (t := 0) rfl (Or.inl ⟨rfl, Or.inl rfl⟩) hL3 rfl ?_
          exact e_iret rfl (Or.inl rfl)
def f_116 (N : Nat) (M : yM) (x1 : Int) (x2 : Int) : Option (Int) := (ylet (yrd M 10 x1) fun v1 => (f_116_7 N N M x2 v1 90))
theorem t_116 {sc : List Int32} {dd cc : Nat} {N : Nat} {M : yM} {x1 : Int} {x2 : Int} (hd : 3 ≤ dd) : yP sc dd 116 [.ref 1, .int (yi x1), .int (yi x2)] M cc ((Option.map (fun t : Int => (M, cc, some (.int (yi t))))) (f_116 N M x1 x2)) := by
  obtain ⟨dd, rfl⟩ : ∃ e, dd = e + 1 := ⟨dd - 1, by omega⟩
  refine e_meth (C := zg_c116) (W := zg_w116) (ml := 5) rfl rfl (Nat.le_of_ble_eq_true rfl) ?_
  unfold f_116
  refine e_ld (t := 2) rfl (Or.inr (Or.inl ⟨rfl, Or.inl rfl⟩)) rfl rfl ?_
  refine e_get (a := 1) (u := .ref 10) rfl rfl rfl (fun _ => rfl) ?_
  refine e_ld (t := 0) rfl (Or.inl ⟨rfl, Or.inl rfl⟩) rfl rfl ?_
  refine e_at (a := 10) (by omega) rfl (by decide) (Nat.le_of_ble_eq_true rfl) rfl ?_
  refine e_stl (g := (Option.map (fun t : Int => (M, cc, some (.int (yi t)))))) rfl (Or.inl rfl) (fun v1 => ?_)
  refine e_ic (b := 90) rfl (by decide) (by decide) ?_
  refine e_st (t := 0) rfl (Or.inl ⟨rfl, Or.inr rfl⟩) rfl ?_
  exact t_116_7 (by omega) N (l_kr (by decide) (l_kr (by decide) rfl)) (l_ki (by decide) (l_ki (by decide) rfl)) (l_ki (by decide) l_s) l_s
/-- UnwindTower$Program.isFreeCatch -/
def f_122 (M : yM) (x1 : Int) : Int := (cond (yrel 0 (f_121 M x1) 0) 0 (cond (yrel 1 (f_128 M x1) 0) 0 1))
theorem b_122 {M : yM} {x1 : Int} : f_122 M x1 = 0 ∨ f_122 M x1 = 1 := (zb_cond (Or.inl rfl) ((zb_cond (Or.inl rfl) (Or.inr rfl))))
theorem t_122 {sc : List Int32} {dd cc : Nat} {M : yM} {x1 : Int} (hd : 3 ≤ dd) : yP sc dd 122 [.ref 1, .int (yi x1)] M cc (some (M, cc, some (.int (yi (f_122 M x1))))) := by
  obtain ⟨dd, rfl⟩ : ∃ e, dd = e + 1 := ⟨dd - 1, by omega⟩
  refine e_meth (C := zg_c122) (W := zg_w122) (ml := 2) rfl rfl (Nat.le_of_ble_eq_true rfl) ?_
  unfold f_122
  refine e_ld (t := 2) rfl (Or.inr (Or.inl ⟨rfl, Or.inl rfl⟩)) rfl rfl ?_
  refine e_ld (t := 0) rfl (Or.inl ⟨rfl, Or.inl rfl⟩) rfl rfl ?_
  refine e_obj (M1 := M) (cc1 := cc) (v1 := some (.int (yi (f_121 M x1)))) (a := 1) (as := [.int (yi x1)]) rfl (by decide) rfl (Nat.le_of_ble_eq_true rfl) rfl (t_121 (by omega)) ?_
  refine e_br (fun t : Int => some (M, cc, some (.int (yi t)))) (q := 0) (by decide) rfl (fun h1 => ?_) (fun h1 => ?_)
  · refine e_ic (b := 0) rfl (by decide) (by decide) ?_
    exact e_iret rfl (Or.inr ⟨rfl, Or.inl rfl⟩)
  · refine e_ld (t := 2) rfl (Or.inr (Or.inl ⟨rfl, Or.inl rfl⟩)) rfl rfl ?_
    refine e_ld (t := 0) rfl (Or.inl ⟨rfl, Or.inl rfl⟩) rfl rfl ?_
    refine e_obj (M1 := M) (cc1 := cc) (v1 := some (.int (yi (f_128 M x1)))) (a := 1) (as := [.int (yi x1)]) rfl (by decide) rfl (Nat.le_of_ble_eq_true rfl) rfl (t_128 (by omega)) ?_
    refine e_br (fun t : Int => some (M, cc, some (.int (yi t)))) (q := 1) (by decide) rfl (fun h2 => ?_) (fun h2 => ?_)
    · refine e_ic (b := 0) rfl (by decide) (by decide) ?_
      exact e_iret rfl (Or.inr ⟨rfl, Or.inl rfl⟩)
    · refine e_ic (b := 1) rfl (by decide) (by decide) ?_
      refine e_go rfl ?_
      exact e_iret rfl (Or.inr ⟨rfl, Or.inr rfl⟩)
/-- UnwindTower$Program.isFreeStatement -/
def f_123 (M : yM) (x1 : Int) : Int := (cond (yrel 0 (f_121 M x1) 0) 0 (cond (yrel 0 (f_128 M x1) 0) 0 1))
theorem b_123 {M : yM} {x1 : Int} : f_123 M x1 = 0 ∨ f_123 M x1 = 1 := (zb_cond (Or.inl rfl) ((zb_cond (Or.inl rfl) (Or.inr rfl))))
theorem t_123 {sc : List Int32} {dd cc : Nat} {M : yM} {x1 : Int} (hd : 3 ≤ dd) : yP sc dd 123 [.ref 1, .int (yi x1)] M cc (some (M, cc, some (.int (yi (f_123 M x1))))) := by
  obtain ⟨dd, rfl⟩ : ∃ e, dd = e + 1 := ⟨dd - 1, by omega⟩
  refine e_meth (C := zg_c123) (W := zg_w123) (ml := 2) rfl rfl (Nat.le_of_ble_eq_true rfl) ?_
  unfold f_123
  refine e_ld (t := 2) rfl (Or.inr (Or.inl ⟨rfl, Or.inl rfl⟩)) rfl rfl ?_
  refine e_ld (t := 0) rfl (Or.inl ⟨rfl, Or.inl rfl⟩) rfl rfl ?_
  refine e_obj (M1 := M) (cc1 := cc) (v1 := some (.int (yi (f_121 M x1)))) (a := 1) (as := [.int (yi x1)]) rfl (by decide) rfl (Nat.le_of_ble_eq_true rfl) rfl (t_121 (by omega)) ?_
  refine e_br (fun t : Int => some (M, cc, some (.int (yi t)))) (q := 0) (by decide) rfl (fun h1 => ?_) (fun h1 => ?_)
  · refine e_ic (b := 0) rfl (by decide) (by decide) ?_
    exact e_iret rfl (Or.inr ⟨rfl, Or.inl rfl⟩)
  · refine e_ld (t := 2) rfl (Or.inr (Or.inl ⟨rfl, Or.inl rfl⟩)) rfl rfl ?_
    refine e_ld (t := 0) rfl (Or.inl ⟨rfl, Or.inl rfl⟩) rfl rfl ?_
    refine e_obj (M1 := M) (cc1 := cc) (v1 := some (.int (yi (f_128 M x1)))) (a := 1) (as := [.int (yi x1)]) rfl (by decide) rfl (Nat.le_of_ble_eq_true rfl) rfl (t_128 (by omega)) ?_
    refine e_br (fun t : Int => some (M, cc, some (.int (yi t)))) (q := 0) (by decide) rfl (fun h2 => ?_) (fun h2 => ?_)
    · refine e_ic (b := 0) rfl (by decide) (by decide) ?_
      exact e_iret rfl (Or.inr ⟨rfl, Or.inl rfl⟩)
    · refine e_ic (b := 1) rfl (by decide) (by decide) ?_
      refine e_go rfl ?_
      exact e_iret rfl (Or.inr ⟨rfl, Or.inr rfl⟩)
/-- UnwindTower$Program.isTry -/
def f_129 (M : yM) (x1 : Int) (x2 : Int) (x3 : Int) : Int := (cond (yrel 1 x1 (-1)) (cond (yrel 0 (f_123 M x2) 0) 0 (cond (yrel 0 x1 x2) 0 (cond (yrel 0 x1 (-1)) (cond (yrel 0 x3 (-1)) 1 (cond (yrel 0 (f_122 M x3) 0) 0 1)) (cond (yrel 0 (f_123 M x1) 0) 0 (cond (yrel 0 x3 (-1)) 1 (cond (yrel 0 (f_122 M x3) 0) 0 1)))))) (cond (yrel 1 x3 (-1)) (cond (yrel 0 (f_123 M x2) 0) 0 (cond (yrel 0 x1 x2) 0 (cond (yrel 0 x1 (-1)) (cond (yrel 0 x3 (-1)) 1 (cond (yrel 0 (f_122 M x3) 0) 0 1)) (cond (yrel 0 (f_123 M x1) 0) 0 (cond (yrel 0 x3 (-1)) 1 (cond (yrel 0 (f_122 M x3) 0) 0 1)))))) 0))
theorem b_129 {M : yM} {x1 : Int} {x2 : Int} {x3 : Int} : f_129 M x1 x2 x3 = 0 ∨ f_129 M x1 x2 x3 = 1 := (zb_cond ((zb_cond (Or.inl rfl) ((zb_cond (Or.inl rfl) ((zb_cond ((zb_cond (Or.inr rfl) ((zb_cond (Or.inl rfl) (Or.inr rfl))))) ((zb_cond (Or.inl rfl) ((zb_cond (Or.inr rfl) ((zb_cond (Or.inl rfl) (Or.inr rfl))))))))))))) ((zb_cond ((zb_cond (Or.inl rfl) ((zb_cond (Or.inl rfl) ((zb_cond ((zb_cond (Or.inr rfl) ((zb_cond (Or.inl rfl) (Or.inr rfl))))) ((zb_cond (Or.inl rfl) ((zb_cond (Or.inr rfl) ((zb_cond (Or.inl rfl) (Or.inr rfl))))))))))))) (Or.inl rfl))))
theorem t_129 {sc : List Int32} {dd cc : Nat} {M : yM} {x1 : Int} {x2 : Int} {x3 : Int} (hd : 4 ≤ dd) : yP sc dd 129 [.ref 1, .int (yi x1), .int (yi x2), .int (yi x3)] M cc (some (M, cc, some (.int (yi (f_129 M x1 x2 x3))))) := by
  obtain ⟨dd, rfl⟩ : ∃ e, dd = e + 1 := ⟨dd - 1, by omega⟩
  refine e_meth (C := zg_c129) (W := zg_w129) (ml := 4) rfl rfl (Nat.le_of_ble_eq_true rfl) ?_
  unfold f_129
  refine e_ld (t := 0) rfl (Or.inl ⟨rfl, Or.inl rfl⟩) rfl rfl ?_
  refine e_ic (b := (-1)) rfl (by decide) (by decide) ?_
  refine e_cmp (fun t : Int => some (M, cc, some (.int (yi t)))) (q := 1) (by decide) rfl (fun h1 => ?_) (fun h1 => ?_)
  · refine e_ld (t := 2) rfl (Or.inr (Or.inl ⟨rfl, Or.inl rfl⟩)) rfl rfl ?_
    refine e_ld (t := 0) rfl (Or.inl ⟨rfl, Or.inl rfl⟩) rfl rfl ?_
    refine e_obj (M1 := M) (cc1 := cc) (v1 := some (.int (yi (f_123 M x2)))) (a := 1) (as := [.int (yi x2)]) rfl (by decide) rfl (Nat.le_of_ble_eq_true rfl) rfl (t_123 (by omega)) ?_
    refine e_br (fun t : Int => some (M, cc, some (.int (yi t)))) (q := 0) (by decide) rfl (fun h2 => ?_) (fun h2 => ?_)
    · refine e_ic (b := 0) rfl (by decide) (by decide) ?_
      exact e_iret rfl (Or.inr ⟨rfl, Or.inl rfl⟩)
    · refine e_ld (t := 0) rfl (Or.inl ⟨rfl, Or.inl rfl⟩) rfl rfl ?_
      refine e_ld (t := 0) rfl (Or.inl ⟨rfl, Or.inl rfl⟩) rfl rfl ?_
      refine e_cmp (fun t : Int => some (M, cc, some (.int (yi t)))) (q := 0) (by decide) rfl (fun h3 => ?_) (fun h3 => ?_)
      · refine e_ic (b := 0) rfl (by decide) (by decide) ?_
        exact e_iret rfl (Or.inr ⟨rfl, Or.inl rfl⟩)
      · refine e_ld (t := 0) rfl (Or.inl ⟨rfl, Or.inl rfl⟩) rfl rfl ?_
        refine e_ic (b := (-1)) rfl (by decide) (by decide) ?_
        refine e_cmp (fun t : Int => some (M, cc, some (.int (yi t)))) (q := 0) (by decide) rfl (fun h4 => ?_) (fun h4 => ?_)
        · refine e_ld (t := 0) rfl (Or.inl ⟨rfl, Or.inl rfl⟩) rfl rfl ?_
          refine e_ic (b := (-1)) rfl (by decide) (by decide) ?_
          refine e_cmp (fun t : Int => some (M, cc, some (.int (yi t)))) (q := 0) (by decide) rfl (fun h5 => ?_) (fun h5 => ?_)
          · refine e_ic (b := 1) rfl (by decide) (by decide) ?_
            refine e_go rfl ?_
            exact e_iret rfl (Or.inr ⟨rfl, Or.inr rfl⟩)
          · refine e_ld (t := 2) rfl (Or.inr (Or.inl ⟨rfl, Or.inl rfl⟩)) rfl rfl ?_
            refine e_ld (t := 0) rfl (Or.inl ⟨rfl, Or.inl rfl⟩) rfl rfl ?_
            refine e_obj (M1 := M) (cc1 := cc) (v1 := some (.int (yi (f_122 M x3)))) (a := 1) (as := [.int (yi x3)]) rfl (by decide) rfl (Nat.le_of_ble_eq_true rfl) rfl (t_122 (by omega)) ?_
            refine e_br (fun t : Int => some (M, cc, some (.int (yi t)))) (q := 0) (by decide) rfl (fun h6 => ?_) (fun h6 => ?_)
            · refine e_ic (b := 0) rfl (by decide) (by decide) ?_
              exact e_iret rfl (Or.inr ⟨rfl, Or.inl rfl⟩)
            · refine e_ic (b := 1) rfl (by decide) (by decide) ?_
              refine e_go rfl ?_
              exact e_iret rfl (Or.inr ⟨rfl, Or.inr rfl⟩)
        · refine e_ld (t := 2) rfl (Or.inr (Or.inl ⟨rfl, Or.inl rfl⟩)) rfl rfl ?_
          refine e_ld (t := 0) rfl (Or.inl ⟨rfl, Or.inl rfl⟩) rfl rfl ?_
          refine e_obj (M1 := M) (cc1 := cc) (v1 := some (.int (yi (f_123 M x1)))) (a := 1) (as := [.int (yi x1)]) rfl (by decide) rfl (Nat.le_of_ble_eq_true rfl) rfl (t_123 (by omega)) ?_
          refine e_br (fun t : Int => some (M, cc, some (.int (yi t)))) (q := 0) (by decide) rfl (fun h7 => ?_) (fun h7 => ?_)
          · refine e_ic (b := 0) rfl (by decide) (by decide) ?_
            exact e_iret rfl (Or.inr ⟨rfl, Or.inl rfl⟩)
          · refine e_ld (t := 0) rfl (Or.inl ⟨rfl, Or.inl rfl⟩) rfl rfl ?_
            refine e_ic (b := (-1)) rfl (by decide) (by decide) ?_
            refine e_cmp (fun t : Int => some (M, cc, some (.int (yi t)))) (q := 0) (by decide) rfl (fun h8 => ?_) (fun h8 => ?_)
            · refine e_ic (b := 1) rfl (by decide) (by decide) ?_
              refine e_go rfl ?_
              exact e_iret rfl (Or.inr ⟨rfl, Or.inr rfl⟩)
            · refine e_ld (t := 2) rfl (Or.inr (Or.inl ⟨rfl, Or.inl rfl⟩)) rfl rfl ?_
              refine e_ld (t := 0) rfl (Or.inl ⟨rfl, Or.inl rfl⟩) rfl rfl ?_
              refine e_obj (M1 := M) (cc1 := cc) (v1 := some (.int (yi (f_122 M x3)))) (a := 1) (as := [.int (yi x3)]) rfl (by decide) rfl (Nat.le_of_ble_eq_true rfl) rfl (t_122 (by omega)) ?_
              refine e_br (fun t : Int => some (M, cc, some (.int (yi t)))) (q := 0) (by decide) rfl (fun h9 => ?_) (fun h9 => ?_)
              · refine e_ic (b := 0) rfl (by decide) (by decide) ?_
                exact e_iret rfl (Or.inr ⟨rfl, Or.inl rfl⟩)
              · refine e_ic (b := 1) rfl (by decide) (by decide) ?_
                refine e_go rfl ?_
                exact e_iret rfl (Or.inr ⟨rfl, Or.inr rfl⟩)
  · refine e_ld (t := 0) rfl (Or.inl ⟨rfl, Or.inl rfl⟩) rfl rfl ?_
    refine e_ic (b := (-1)) rfl (by decide) (by decide) ?_
    refine e_cmp (fun t : Int => some (M, cc, some (.int (yi t)))) (q := 1) (by decide) rfl (fun h10 => ?_) (fun h10 => ?_)
    · refine e_ld (t := 2) rfl (Or.inr (Or.inl ⟨rfl, Or.inl rfl⟩)) rfl rfl ?_
      refine e_ld (t := 0) rfl (Or.inl ⟨rfl, Or.inl rfl⟩) rfl rfl ?_
      refine e_obj (M1 := M) (cc1 := cc) (v1 := some (.int (yi (f_123 M x2)))) (a := 1) (as := [.int (yi x2)]) rfl (by decide) rfl (Nat.le_of_ble_eq_true rfl) rfl (t_123 (by omega)) ?_
      refine e_br (fun t : Int => some (M, cc, some (.int (yi t)))) (q := 0) (by decide) rfl (fun h11 => ?_) (fun h11 => ?_)
      · refine e_ic (b := 0) rfl (by decide) (by decide) ?_
        exact e_iret rfl (Or.inr ⟨rfl, Or.inl rfl⟩)
      · refine e_ld (t := 0) rfl (Or.inl ⟨rfl, Or.inl rfl⟩) rfl rfl ?_
        refine e_ld (t := 0) rfl (Or.inl ⟨rfl, Or.inl rfl⟩) rfl rfl ?_
        refine e_cmp (fun t : Int => some (M, cc, some (.int (yi t)))) (q := 0) (by decide) rfl (fun h12 => ?_) (fun h12 => ?_)
        · refine e_ic (b := 0) rfl (by decide) (by decide) ?_
          exact e_iret rfl (Or.inr ⟨rfl, Or.inl rfl⟩)
        · refine e_ld (t := 0) rfl (Or.inl ⟨rfl, Or.inl rfl⟩) rfl rfl ?_
          refine e_ic (b := (-1)) rfl (by decide) (by decide) ?_
          refine e_cmp (fun t : Int => some (M, cc, some (.int (yi t)))) (q := 0) (by decide) rfl (fun h13 => ?_) (fun h13 => ?_)
          · refine e_ld (t := 0) rfl (Or.inl ⟨rfl, Or.inl rfl⟩) rfl rfl ?_
            refine e_ic (b := (-1)) rfl (by decide) (by decide) ?_
            refine e_cmp (fun t : Int => some (M, cc, some (.int (yi t)))) (q := 0) (by decide) rfl (fun h14 => ?_) (fun h14 => ?_)
            · refine e_ic (b := 1) rfl (by decide) (by decide) ?_
              refine e_go rfl ?_
              exact e_iret rfl (Or.inr ⟨rfl, Or.inr rfl⟩)
            · refine e_ld (t := 2) rfl (Or.inr (Or.inl ⟨rfl, Or.inl rfl⟩)) rfl rfl ?_
              refine e_ld (t := 0) rfl (Or.inl ⟨rfl, Or.inl rfl⟩) rfl rfl ?_
              refine e_obj (M1 := M) (cc1 := cc) (v1 := some (.int (yi (f_122 M x3)))) (a := 1) (as := [.int (yi x3)]) rfl (by decide) rfl (Nat.le_of_ble_eq_true rfl) rfl (t_122 (by omega)) ?_
              refine e_br (fun t : Int => some (M, cc, some (.int (yi t)))) (q := 0) (by decide) rfl (fun h15 => ?_) (fun h15 => ?_)
              · refine e_ic (b := 0) rfl (by decide) (by decide) ?_
                exact e_iret rfl (Or.inr ⟨rfl, Or.inl rfl⟩)
              · refine e_ic (b := 1) rfl (by decide) (by decide) ?_
                refine e_go rfl ?_
                exact e_iret rfl (Or.inr ⟨rfl, Or.inr rfl⟩)
          · refine e_ld (t := 2) rfl (Or.inr (Or.inl ⟨rfl, Or.inl rfl⟩)) rfl rfl ?_
            refine e_ld (t := 0) rfl (Or.inl ⟨rfl, Or.inl rfl⟩) rfl rfl ?_
            refine e_obj (M1 := M) (cc1 := cc) (v1 := some (.int (yi (f_123 M x1)))) (a := 1) (as := [.int (yi x1)]) rfl (by decide) rfl (Nat.le_of_ble_eq_true rfl) rfl (t_123 (by omega)) ?_
            refine e_br (fun t : Int => some (M, cc, some (.int (yi t)))) (q := 0) (by decide) rfl (fun h16 => ?_) (fun h16 => ?_)
            · refine e_ic (b := 0) rfl (by decide) (by decide) ?_
              exact e_iret rfl (Or.inr ⟨rfl, Or.inl rfl⟩)
            · refine e_ld (t := 0) rfl (Or.inl ⟨rfl, Or.inl rfl⟩) rfl rfl ?_
              refine e_ic (b := (-1)) rfl (by decide) (by decide) ?_
              refine e_cmp (fun t : Int => some (M, cc, some (.int (yi t)))) (q := 0) (by decide) rfl (fun h17 => ?_) (fun h17 => ?_)
              · refine e_ic (b := 1) rfl (by decide) (by decide) ?_
                refine e_go rfl ?_
                exact e_iret rfl (Or.inr ⟨rfl, Or.inr rfl⟩)
              · refine e_ld (t := 2) rfl (Or.inr (Or.inl ⟨rfl, Or.inl rfl⟩)) rfl rfl ?_
                refine e_ld (t := 0) rfl (Or.inl ⟨rfl, Or.inl rfl⟩) rfl rfl ?_
                refine e_obj (M1 := M) (cc1 := cc) (v1 := some (.int (yi (f_122 M x3)))) (a := 1) (as := [.int (yi x3)]) rfl (by decide) rfl (Nat.le_of_ble_eq_true rfl) rfl (t_122 (by omega)) ?_
                refine e_br (fun t : Int => some (M, cc, some (.int (yi t)))) (q := 0) (by decide) rfl (fun h18 => ?_) (fun h18 => ?_)
                · refine e_ic (b := 0) rfl (by decide) (by decide) ?_
                  exact e_iret rfl (Or.inr ⟨rfl, Or.inl rfl⟩)
                · refine e_ic (b := 1) rfl (by decide) (by decide) ?_
                  refine e_go rfl ?_
                  exact e_iret rfl (Or.inr ⟨rfl, Or.inr rfl⟩)
    · refine e_ic (b := 0) rfl (by decide) (by decide) ?_
      exact e_iret rfl (Or.inr ⟨rfl, Or.inl rfl⟩)
/-- UnwindTower$Program.isUsing -/
def f_130 (M : yM) (x1 : Int) (x2 : Int) (x3 : Int) : Int := (cond (yrel 1 x1 (-1)) (cond (yrel 0 (f_123 M x2) 0) 0 (cond (yrel 0 x1 (-1)) (cond (yrel 0 x3 (-1)) 1 (cond (yrel 0 (f_119 M x3) 0) 0 1)) (cond (yrel 0 (f_119 M x1) 0) 0 (cond (yrel 0 x3 (-1)) 1 (cond (yrel 0 (f_119 M x3) 0) 0 1))))) (cond (yrel 1 x3 (-1)) (cond (yrel 0 (f_123 M x2) 0) 0 (cond (yrel 0 x1 (-1)) (cond (yrel 0 x3 (-1)) 1 (cond (yrel 0 (f_119 M x3) 0) 0 1)) (cond (yrel 0 (f_119 M x1) 0) 0 (cond (yrel 0 x3 (-1)) 1 (cond (yrel 0 (f_119 M x3) 0) 0 1))))) 0))
theorem b_130 {M : yM} {x1 : Int} {x2 : Int} {x3 : Int} : f_130 M x1 x2 x3 = 0 ∨ f_130 M x1 x2 x3 = 1 := (zb_cond ((zb_cond (Or.inl rfl) ((zb_cond ((zb_cond (Or.inr rfl) ((zb_cond (Or.inl rfl) (Or.inr rfl))))) ((zb_cond (Or.inl rfl) ((zb_cond (Or.inr rfl) ((zb_cond (Or.inl rfl) (Or.inr rfl))))))))))) ((zb_cond ((zb_cond (Or.inl rfl) ((zb_cond ((zb_cond (Or.inr rfl) ((zb_cond (Or.inl rfl) (Or.inr rfl))))) ((zb_cond (Or.inl rfl) ((zb_cond (Or.inr rfl) ((zb_cond (Or.inl rfl) (Or.inr rfl))))))))))) (Or.inl rfl))))
theorem t_130 {sc : List Int32} {dd cc : Nat} {M : yM} {x1 : Int} {x2 : Int} {x3 : Int} (hd : 4 ≤ dd) : yP sc dd 130 [.ref 1, .int (yi x1), .int (yi x2), .int (yi x3)] M cc (some (M, cc, some (.int (yi (f_130 M x1 x2 x3))))) := by
  obtain ⟨dd, rfl⟩ : ∃ e, dd = e + 1 := ⟨dd - 1, by omega⟩
  refine e_meth (C := zg_c130) (W := zg_w130) (ml := 4) rfl rfl (Nat.le_of_ble_eq_true rfl) ?_
  unfold f_130
  refine e_ld (t := 0) rfl (Or.inl ⟨rfl, Or.inl rfl⟩) rfl rfl ?_
  refine e_ic (b := (-1)) rfl (by decide) (by decide) ?_
  refine e_cmp (fun t : Int => some (M, cc, some (.int (yi t)))) (q := 1) (by decide) rfl (fun h1 => ?_) (fun h1 => ?_)
  · refine e_ld (t := 2) rfl (Or.inr (Or.inl ⟨rfl, Or.inl rfl⟩)) rfl rfl ?_
    refine e_ld (t := 0) rfl (Or.inl ⟨rfl, Or.inl rfl⟩) rfl rfl ?_
    refine e_obj (M1 := M) (cc1 := cc) (v1 := some (.int (yi (f_123 M x2)))) (a := 1) (as := [.int (yi x2)]) rfl (by decide) rfl (Nat.le_of_ble_eq_true rfl) rfl (t_123 (by omega)) ?_
    refine e_br (fun t : Int => some (M, cc, some (.int (yi t)))) (q := 0) (by decide) rfl (fun h2 => ?_) (fun h2 => ?_)
    · refine e_ic (b := 0) rfl (by decide) (by decide) ?_
      exact e_iret rfl (Or.inr ⟨rfl, Or.inl rfl⟩)
    · refine e_ld (t := 0) rfl (Or.inl ⟨rfl, Or.inl rfl⟩) rfl rfl ?_
      refine e_ic (b := (-1)) rfl (by decide) (by decide) ?_
      refine e_cmp (fun t : Int => some (M, cc, some (.int (yi t)))) (q := 0) (by decide) rfl (fun h3 => ?_) (fun h3 => ?_)
      · refine e_ld (t := 0) rfl (Or.inl ⟨rfl, Or.inl rfl⟩) rfl rfl ?_
        refine e_ic (b := (-1)) rfl (by decide) (by decide) ?_
        refine e_cmp (fun t : Int => some (M, cc, some (.int (yi t)))) (q := 0) (by decide) rfl (fun h4 => ?_) (fun h4 => ?_)
        · refine e_ic (b := 1) rfl (by decide) (by decide) ?_
          refine e_go rfl ?_
          exact e_iret rfl (Or.inr ⟨rfl, Or.inr rfl⟩)
        · refine e_ld (t := 2) rfl (Or.inr (Or.inl ⟨rfl, Or.inl rfl⟩)) rfl rfl ?_
          refine e_ld (t := 0) rfl (Or.inl ⟨rfl, Or.inl rfl⟩) rfl rfl ?_
          refine e_obj (M1 := M) (cc1 := cc) (v1 := some (.int (yi (f_119 M x3)))) (a := 1) (as := [.int (yi x3)]) rfl (by decide) rfl (Nat.le_of_ble_eq_true rfl) rfl (t_119 (by omega)) ?_
          refine e_br (fun t : Int => some (M, cc, some (.int (yi t)))) (q := 0) (by decide) rfl (fun h5 => ?_) (fun h5 => ?_)
          · refine e_ic (b := 0) rfl (by decide) (by decide) ?_
            exact e_iret rfl (Or.inr ⟨rfl, Or.inl rfl⟩)
          · refine e_ic (b := 1) rfl (by decide) (by decide) ?_
            refine e_go rfl ?_
            exact e_iret rfl (Or.inr ⟨rfl, Or.inr rfl⟩)
      · refine e_ld (t := 2) rfl (Or.inr (Or.inl ⟨rfl, Or.inl rfl⟩)) rfl rfl ?_
        refine e_ld (t := 0) rfl (Or.inl ⟨rfl, Or.inl rfl⟩) rfl rfl ?_
        refine e_obj (M1 := M) (cc1 := cc) (v1 := some (.int (yi (f_119 M x1)))) (a := 1) (as := [.int (yi x1)]) rfl (by decide) rfl (Nat.le_of_ble_eq_true rfl) rfl (t_119 (by omega)) ?_
        refine e_br (fun t : Int => some (M, cc, some (.int (yi t)))) (q := 0) (by decide) rfl (fun h6 => ?_) (fun h6 => ?_)
        · refine e_ic (b := 0) rfl (by decide) (by decide) ?_
          exact e_iret rfl (Or.inr ⟨rfl, Or.inl rfl⟩)
        · refine e_ld (t := 0) rfl (Or.inl ⟨rfl, Or.inl rfl⟩) rfl rfl ?_
          refine e_ic (b := (-1)) rfl (by decide) (by decide) ?_
          refine e_cmp (fun t : Int => some (M, cc, some (.int (yi t)))) (q := 0) (by decide) rfl (fun h7 => ?_) (fun h7 => ?_)
          · refine e_ic (b := 1) rfl (by decide) (by decide) ?_
            refine e_go rfl ?_
            exact e_iret rfl (Or.inr ⟨rfl, Or.inr rfl⟩)
          · refine e_ld (t := 2) rfl (Or.inr (Or.inl ⟨rfl, Or.inl rfl⟩)) rfl rfl ?_
            refine e_ld (t := 0) rfl (Or.inl ⟨rfl, Or.inl rfl⟩) rfl rfl ?_
            refine e_obj (M1 := M) (cc1 := cc) (v1 := some (.int (yi (f_119 M x3)))) (a := 1) (as := [.int (yi x3)]) rfl (by decide) rfl (Nat.le_of_ble_eq_true rfl) rfl (t_119 (by omega)) ?_
            refine e_br (fun t : Int => some (M, cc, some (.int (yi t)))) (q := 0) (by decide) rfl (fun h8 => ?_) (fun h8 => ?_)
            · refine e_ic (b := 0) rfl (by decide) (by decide) ?_
              exact e_iret rfl (Or.inr ⟨rfl, Or.inl rfl⟩)
            · refine e_ic (b := 1) rfl (by decide) (by decide) ?_
              refine e_go rfl ?_
              exact e_iret rfl (Or.inr ⟨rfl, Or.inr rfl⟩)
  · refine e_ld (t := 0) rfl (Or.inl ⟨rfl, Or.inl rfl⟩) rfl rfl ?_
    refine e_ic (b := (-1)) rfl (by decide) (by decide) ?_
    refine e_cmp (fun t : Int => some (M, cc, some (.int (yi t)))) (q := 1) (by decide) rfl (fun h9 => ?_) (fun h9 => ?_)
    · refine e_ld (t := 2) rfl (Or.inr (Or.inl ⟨rfl, Or.inl rfl⟩)) rfl rfl ?_
      refine e_ld (t := 0) rfl (Or.inl ⟨rfl, Or.inl rfl⟩) rfl rfl ?_
      refine e_obj (M1 := M) (cc1 := cc) (v1 := some (.int (yi (f_123 M x2)))) (a := 1) (as := [.int (yi x2)]) rfl (by decide) rfl (Nat.le_of_ble_eq_true rfl) rfl (t_123 (by omega)) ?_
      refine e_br (fun t : Int => some (M, cc, some (.int (yi t)))) (q := 0) (by decide) rfl (fun h10 => ?_) (fun h10 => ?_)
      · refine e_ic (b := 0) rfl (by decide) (by decide) ?_
        exact e_iret rfl (Or.inr ⟨rfl, Or.inl rfl⟩)
      · refine e_ld (t := 0) rfl (Or.inl ⟨rfl, Or.inl rfl⟩) rfl rfl ?_
        refine e_ic (b := (-1)) rfl (by decide) (by decide) ?_
        refine e_cmp (fun t : Int => some (M, cc, some (.int (yi t)))) (q := 0) (by decide) rfl (fun h11 => ?_) (fun h11 => ?_)
        · refine e_ld (t := 0) rfl (Or.inl ⟨rfl, Or.inl rfl⟩) rfl rfl ?_
          refine e_ic (b := (-1)) rfl (by decide) (by decide) ?_
          refine e_cmp (fun t : Int => some (M, cc, some (.int (yi t)))) (q := 0) (by decide) rfl (fun h12 => ?_) (fun h12 => ?_)
          · refine e_ic (b := 1) rfl (by decide) (by decide) ?_
            refine e_go rfl ?_
            exact e_iret rfl (Or.inr ⟨rfl, Or.inr rfl⟩)
          · refine e_ld (t := 2) rfl (Or.inr (Or.inl ⟨rfl, Or.inl rfl⟩)) rfl rfl ?_
            refine e_ld (t := 0) rfl (Or.inl ⟨rfl, Or.inl rfl⟩) rfl rfl ?_
            refine e_obj (M1 := M) (cc1 := cc) (v1 := some (.int (yi (f_119 M x3)))) (a := 1) (as := [.int (yi x3)]) rfl (by decide) rfl (Nat.le_of_ble_eq_true rfl) rfl (t_119 (by omega)) ?_
            refine e_br (fun t : Int => some (M, cc, some (.int (yi t)))) (q := 0) (by decide) rfl (fun h13 => ?_) (fun h13 => ?_)
            · refine e_ic (b := 0) rfl (by decide) (by decide) ?_
              exact e_iret rfl (Or.inr ⟨rfl, Or.inl rfl⟩)
            · refine e_ic (b := 1) rfl (by decide) (by decide) ?_
              refine e_go rfl ?_
              exact e_iret rfl (Or.inr ⟨rfl, Or.inr rfl⟩)
        · refine e_ld (t := 2) rfl (Or.inr (Or.inl ⟨rfl, Or.inl rfl⟩)) rfl rfl ?_
          refine e_ld (t := 0) rfl (Or.inl ⟨rfl, Or.inl rfl⟩) rfl rfl ?_
          refine e_obj (M1 := M) (cc1 := cc) (v1 := some (.int (yi (f_119 M x1)))) (a := 1) (as := [.int (yi x1)]) rfl (by decide) rfl (Nat.le_of_ble_eq_true rfl) rfl (t_119 (by omega)) ?_
          refine e_br (fun t : Int => some (M, cc, some (.int (yi t)))) (q := 0) (by decide) rfl (fun h14 => ?_) (fun h14 => ?_)
          · refine e_ic (b := 0) rfl (by decide) (by decide) ?_
            exact e_iret rfl (Or.inr ⟨rfl, Or.inl rfl⟩)
          · refine e_ld (t := 0) rfl (Or.inl ⟨rfl, Or.inl rfl⟩) rfl rfl ?_
            refine e_ic (b := (-1)) rfl (by decide) (by decide) ?_
            refine e_cmp (fun t : Int => some (M, cc, some (.int (yi t)))) (q := 0) (by decide) rfl (fun h15 => ?_) (fun h15 => ?_)
            · refine e_ic (b := 1) rfl (by decide) (by decide) ?_
              refine e_go rfl ?_
              exact e_iret rfl (Or.inr ⟨rfl, Or.inr rfl⟩)
            · refine e_ld (t := 2) rfl (Or.inr (Or.inl ⟨rfl, Or.inl rfl⟩)) rfl rfl ?_
              refine e_ld (t := 0) rfl (Or.inl ⟨rfl, Or.inl rfl⟩) rfl rfl ?_
              refine e_obj (M1 := M) (cc1 := cc) (v1 := some (.int (yi (f_119 M x3)))) (a := 1) (as := [.int (yi x3)]) rfl (by decide) rfl (Nat.le_of_ble_eq_true rfl) rfl (t_119 (by omega)) ?_
              refine e_br (fun t : Int => some (M, cc, some (.int (yi t)))) (q := 0) (by decide) rfl (fun h16 => ?_) (fun h16 => ?_)
              · refine e_ic (b := 0) rfl (by decide) (by decide) ?_
                exact e_iret rfl (Or.inr ⟨rfl, Or.inl rfl⟩)
              · refine e_ic (b := 1) rfl (by decide) (by decide) ?_
                refine e_go rfl ?_
                exact e_iret rfl (Or.inr ⟨rfl, Or.inr rfl⟩)
    · refine e_ic (b := 0) rfl (by decide) (by decide) ?_
      exact e_iret rfl (Or.inr ⟨rfl, Or.inl rfl⟩)
/-- UnwindTower$Program.neverEnds -/
def f_132 (N : Nat) (M : yM) (x1 : Int) : Option (Int) := (cond (yrel 0 (yrd M 7 x1) 4) (cond (yrel 1 (f_124 M (yrd M 9 x1)) 0) (some 1) (cond (yrel 0 (f_124 M (yrd M 10 x1)) 0) (some 0) (some 1))) (cond (yrel 0 (yrd M 7 x1) (4 + 1)) (cond (yrel 0 (f_124 M (yrd M 9 x1)) 0) (some 0) (cond (yrel 0 (f_124 M (yrd M 10 x1)) 0) (some 0) (some 1))) (cond (yrel 0 (yrd M 7 x1) (4 + 1 + 1)) (some 0) (cond (yrel 0 (yrd M 7 x1) (4 + 1 + 1 + 1)) (some 1) (cond (yrel 0 (yrd M 7 x1) (4 + 1 + 1 + 1 + 1)) (some 1) (cond (yrel 0 (yrd M 7 x1) (4 + 1 + 1 + 1 + 1 + 1)) (some 0) (cond (yrel 0 (yrd M 7 x1) (4 + 1 + 1 + 1 + 1 + 1 + 1)) (some 1) (cond (yrel 0 (yrd M 7 x1) (4 + 1 + 1 + 1 + 1 + 1 + 1 + 1)) (cond (yrel 1 (f_124 M (yrd M 8 x1)) 0) (some 1) (Option.bind (f_133 N M x1) fun t14 => (cond (yrel 0 t14 0) (some 0) (some 1)))) (cond (yrel 0 (yrd M 7 x1) (4 + 1 + 1 + 1 + 1 + 1 + 1 + 1 + 1)) (some (f_124 M (yrd M 9 x1))) (cond (yrel 0 (yrd M 7 x1) (4 + 1 + 1 + 1 + 1 + 1 + 1 + 1 + 1 + 1)) (some (f_124 M (yrd M 9 x1))) (cond (yrel 0 (yrd M 7 x1) (4 + 1 + 1 + 1 + 1 + 1 + 1 + 1 + 1 + 1 + 1)) (some 1) (cond (yrel 0 (yrd M 7 x1) (4 + 1 + 1 + 1 + 1 + 1 + 1 + 1 + 1 + 1 + 1 + 1)) (some 1) (cond (yrel 0 (yrd M 7 x1) (4 + 1 + 1 + 1 + 1 + 1 + 1 + 1 + 1 + 1 + 1 + 1 + 1)) (some 0) (cond (yrel 0 (yrd M 7 x1) (4 + 1 + 1 + 1 + 1 + 1 + 1 + 1 + 1 + 1 + 1 + 1 + 1 + 1)) (some 0) (cond (yrel 0 (yrd M 7 x1) (4 + 1 + 1 + 1 + 1 + 1 + 1 + 1 + 1 + 1 + 1 + 1 + 1 + 1 + 1)) (some 1) (some 0))))))))))))))))
theorem t_132 {sc : List Int32} {dd cc : Nat} {N : Nat} {M : yM} {x1 : Int} (hd : 4 ≤ dd) : yP sc dd 132 [.ref 1, .int (yi x1)] M cc ((Option.map (fun t : Int => (M, cc, some (.int (yi t))))) (f_132 N M x1)) := by
  obtain ⟨dd, rfl⟩ : ∃ e, dd = e + 1 := ⟨dd - 1, by omega⟩
  refine e_meth (C := zg_c132) (W := zg_w132) (ml := 2) rfl rfl (Nat.le_of_ble_eq_true rfl) ?_
  unfold f_132
  refine e_ld (t := 2) rfl (Or.inr (Or.inl ⟨rfl, Or.inl rfl⟩)) rfl rfl ?_
  refine e_get (a := 1) (u := .ref 7) rfl rfl rfl (fun _ => rfl) ?_
  refine e_ld (t := 0) rfl (Or.inl ⟨rfl, Or.inl rfl⟩) rfl rfl ?_
  refine e_at (a := 7) (by omega) rfl (by decide) (Nat.le_of_ble_eq_true rfl) rfl ?_
  refine e_sw (lo' := 4) rfl rfl (by decide) ?_
  refine s_case (Option.map (fun t : Int => (M, cc, some (.int (yi t))))) (by decide) (fun h1 => ?_) (fun h1 => ?_)
  · refine e_ld (t := 2) rfl (Or.inr (Or.inl ⟨rfl, Or.inl rfl⟩)) rfl rfl ?_
    refine e_ld (t := 2) rfl (Or.inr (Or.inl ⟨rfl, Or.inl rfl⟩)) rfl rfl ?_
    refine e_get (a := 1) (u := .ref 9) rfl rfl rfl (fun _ => rfl) ?_
    refine e_ld (t := 0) rfl (Or.inl ⟨rfl, Or.inl rfl⟩) rfl rfl ?_
    refine e_at (a := 9) (by omega) rfl (by decide) (Nat.le_of_ble_eq_true rfl) rfl ?_
    refine e_obj (M1 := M) (cc1 := cc) (v1 := some (.int (yi (f_124 M (yrd M 9 x1))))) (a := 1) (as := [.int (yi (yrd M 9 x1))]) rfl (by decide) rfl (Nat.le_of_ble_eq_true rfl) rfl (t_124 (by omega)) ?_
    refine e_br (Option.map (fun t : Int => (M, cc, some (.int (yi t))))) (q := 1) (by decide) rfl (fun h2 => ?_) (fun h2 => ?_)
    · refine e_ic (b := 1) rfl (by decide) (by decide) ?_
      refine e_go rfl ?_
      exact e_iret rfl (Or.inr ⟨rfl, Or.inr rfl⟩)
    · refine e_ld (t := 2) rfl (Or.inr (Or.inl ⟨rfl, Or.inl rfl⟩)) rfl rfl ?_
      refine e_ld (t := 2) rfl (Or.inr (Or.inl ⟨rfl, Or.inl rfl⟩)) rfl rfl ?_
      refine e_get (a := 1) (u := .ref 10) rfl rfl rfl (fun _ => rfl) ?_
      refine e_ld (t := 0) rfl (Or.inl ⟨rfl, Or.inl rfl⟩) rfl rfl ?_
      refine e_at (a := 10) (by omega) rfl (by decide) (Nat.le_of_ble_eq_true rfl) rfl ?_
      refine e_obj (M1 := M) (cc1 := cc) (v1 := some (.int (yi (f_124 M (yrd M 10 x1))))) (a := 1) (as := [.int (yi (yrd M 10 x1))]) rfl (by decide) rfl (Nat.le_of_ble_eq_true rfl) rfl (t_124 (by omega)) ?_
      refine e_br (Option.map (fun t : Int => (M, cc, some (.int (yi t))))) (q := 0) (by decide) rfl (fun h3 => ?_) (fun h3 => ?_)
      · refine e_ic (b := 0) rfl (by decide) (by decide) ?_
        exact e_iret rfl (Or.inr ⟨rfl, Or.inl rfl⟩)
      · refine e_ic (b := 1) rfl (by decide) (by decide) ?_
        refine e_go rfl ?_
        exact e_iret rfl (Or.inr ⟨rfl, Or.inr rfl⟩)
  refine s_case (Option.map (fun t : Int => (M, cc, some (.int (yi t))))) (by decide) (fun h4 => ?_) (fun h4 => ?_)
  · refine e_ld (t := 2) rfl (Or.inr (Or.inl ⟨rfl, Or.inl rfl⟩)) rfl rfl ?_
    refine e_ld (t := 2) rfl (Or.inr (Or.inl ⟨rfl, Or.inl rfl⟩)) rfl rfl ?_
    refine e_get (a := 1) (u := .ref 9) rfl rfl rfl (fun _ => rfl) ?_
    refine e_ld (t := 0) rfl (Or.inl ⟨rfl, Or.inl rfl⟩) rfl rfl ?_
    refine e_at (a := 9) (by omega) rfl (by decide) (Nat.le_of_ble_eq_true rfl) rfl ?_
    refine e_obj (M1 := M) (cc1 := cc) (v1 := some (.int (yi (f_124 M (yrd M 9 x1))))) (a := 1) (as := [.int (yi (yrd M 9 x1))]) rfl (by decide) rfl (Nat.le_of_ble_eq_true rfl) rfl (t_124 (by omega)) ?_
    refine e_br (Option.map (fun t : Int => (M, cc, some (.int (yi t))))) (q := 0) (by decide) rfl (fun h5 => ?_) (fun h5 => ?_)
    · refine e_ic (b := 0) rfl (by decide) (by decide) ?_
      exact e_iret rfl (Or.inr ⟨rfl, Or.inl rfl⟩)
    · refine e_ld (t := 2) rfl (Or.inr (Or.inl ⟨rfl, Or.inl rfl⟩)) rfl rfl ?_
      refine e_ld (t := 2) rfl (Or.inr (Or.inl ⟨rfl, Or.inl rfl⟩)) rfl rfl ?_
      refine e_get (a := 1) (u := .ref 10) rfl rfl rfl (fun _ => rfl) ?_
      refine e_ld (t := 0) rfl (Or.inl ⟨rfl, Or.inl rfl⟩) rfl rfl ?_
      refine e_at (a := 10) (by omega) rfl (by decide) (Nat.le_of_ble_eq_true rfl) rfl ?_
      refine e_obj (M1 := M) (cc1 := cc) (v1 := some (.int (yi (f_124 M (yrd M 10 x1))))) (a := 1) (as := [.int (yi (yrd M 10 x1))]) rfl (by decide) rfl (Nat.le_of_ble_eq_true rfl) rfl (t_124 (by omega)) ?_
      refine e_br (Option.map (fun t : Int => (M, cc, some (.int (yi t))))) (q := 0) (by decide) rfl (fun h6 => ?_) (fun h6 => ?_)
      · refine e_ic (b := 0) rfl (by decide) (by decide) ?_
        exact e_iret rfl (Or.inr ⟨rfl, Or.inl rfl⟩)
      · refine e_ic (b := 1) rfl (by decide) (by decide) ?_
        refine e_go rfl ?_
        exact e_iret rfl (Or.inr ⟨rfl, Or.inr rfl⟩)
  refine s_case (Option.map (fun t : Int => (M, cc, some (.int (yi t))))) (by decide) (fun h7 => ?_) (fun h7 => ?_)
  · refine e_ic (b := 0) rfl (by decide) (by decide) ?_
    exact e_iret rfl (Or.inr ⟨rfl, Or.inl rfl⟩)
  refine s_case (Option.map (fun t : Int => (M, cc, some (.int (yi t))))) (by decide) (fun h8 => ?_) (fun h8 => ?_)
  · refine e_ic (b := 1) rfl (by decide) (by decide) ?_
    exact e_iret rfl (Or.inr ⟨rfl, Or.inr rfl⟩)
  refine s_case (Option.map (fun t : Int => (M, cc, some (.int (yi t))))) (by decide) (fun h9 => ?_) (fun h9 => ?_)
  · refine e_ic (b := 1) rfl (by decide) (by decide) ?_
    exact e_iret rfl (Or.inr ⟨rfl, Or.inr rfl⟩)
  refine s_case (Option.map (fun t : Int => (M, cc, some (.int (yi t))))) (by decide) (fun h10 => ?_) (fun h10 => ?_)
  · refine e_ic (b := 0) rfl (by decide) (by decide) ?_
    exact e_iret rfl (Or.inr ⟨rfl, Or.inl rfl⟩)
  refine s_case (Option.map (fun t : Int => (M, cc, some (.int (yi t))))) (by decide) (fun h11 => ?_) (fun h11 => ?_)
  · refine e_ic (b := 1) rfl (by decide) (by decide) ?_
    exact e_iret rfl (Or.inr ⟨rfl, Or.inr rfl⟩)
  refine s_case (Option.map (fun t : Int => (M, cc, some (.int (yi t))))) (by decide) (fun h12 => ?_) (fun h12 => ?_)
  · refine e_ld (t := 2) rfl (Or.inr (Or.inl ⟨rfl, Or.inl rfl⟩)) rfl rfl ?_
    refine e_ld (t := 2) rfl (Or.inr (Or.inl ⟨rfl, Or.inl rfl⟩)) rfl rfl ?_
    refine e_get (a := 1) (u := .ref 8) rfl rfl rfl (fun _ => rfl) ?_
    refine e_ld (t := 0) rfl (Or.inl ⟨rfl, Or.inl rfl⟩) rfl rfl ?_
    refine e_at (a := 8) (by omega) rfl (by decide) (Nat.le_of_ble_eq_true rfl) rfl ?_
    refine e_obj (M1 := M) (cc1 := cc) (v1 := some (.int (yi (f_124 M (yrd M 8 x1))))) (a := 1) (as := [.int (yi (yrd M 8 x1))]) rfl (by decide) rfl (Nat.le_of_ble_eq_true rfl) rfl (t_124 (by omega)) ?_
    refine e_br (Option.map (fun t : Int => (M, cc, some (.int (yi t))))) (q := 1) (by decide) rfl (fun h13 => ?_) (fun h13 => ?_)
    · refine e_ic (b := 1) rfl (by decide) (by decide) ?_
      refine e_go rfl ?_
      exact e_iret rfl (Or.inr ⟨rfl, Or.inr rfl⟩)
    · refine e_ld (t := 2) rfl (Or.inr (Or.inl ⟨rfl, Or.inl rfl⟩)) rfl rfl ?_
      refine e_ld (t := 0) rfl (Or.inl ⟨rfl, Or.inl rfl⟩) rfl rfl ?_
      refine e_objO (h0 := (fun t : Int => (M, cc, some (.int (yi t))))) (h := (fun t : Int => (M, cc, some (.int (yi t))))) (a := 1) (as := [.int (yi x1)]) rfl (by decide) rfl (Nat.le_of_ble_eq_true rfl) rfl (t_133 (by omega)) (fun t14 => ?_)
      refine e_br (Option.map (fun t : Int => (M, cc, some (.int (yi t))))) (q := 0) (by decide) rfl (fun h15 => ?_) (fun h15 => ?_)
      · refine e_ic (b := 0) rfl (by decide) (by decide) ?_
        exact e_iret rfl (Or.inr ⟨rfl, Or.inl rfl⟩)
      · refine e_ic (b := 1) rfl (by decide) (by decide) ?_
        refine e_go rfl ?_
        exact e_iret rfl (Or.inr ⟨rfl, Or.inr rfl⟩)
  refine s_case (Option.map (fun t : Int => (M, cc, some (.int (yi t))))) (by decide) (fun h16 => ?_) (fun h16 => ?_)
  · refine e_ld (t := 2) rfl (Or.inr (Or.inl ⟨rfl, Or.inl rfl⟩)) rfl rfl ?_
    refine e_ld (t := 2) rfl (Or.inr (Or.inl ⟨rfl, Or.inl rfl⟩)) rfl rfl ?_
    refine e_get (a := 1) (u := .ref 9) rfl rfl rfl (fun _ => rfl) ?_
    refine e_ld (t := 0) rfl (Or.inl ⟨rfl, Or.inl rfl⟩) rfl rfl ?_
    refine e_at (a := 9) (by omega) rfl (by decide) (Nat.le_of_ble_eq_true rfl) rfl ?_
    refine e_obj (M1 := M) (cc1 := cc) (v1 := some (.int (yi (f_124 M (yrd M 9 x1))))) (a := 1) (as := [.int (yi (yrd M 9 x1))]) rfl (by decide) rfl (Nat.le_of_ble_eq_true rfl) rfl (t_124 (by omega)) ?_
    exact e_iret rfl (Or.inr ⟨rfl, (zb_yi (b_124))⟩)
  refine s_case (Option.map (fun t : Int => (M, cc, some (.int (yi t))))) (by decide) (fun h17 => ?_) (fun h17 => ?_)
  · refine e_ld (t := 2) rfl (Or.inr (Or.inl ⟨rfl, Or.inl rfl⟩)) rfl rfl ?_
    refine e_ld (t := 2) rfl (Or.inr (Or.inl ⟨rfl, Or.inl rfl⟩)) rfl rfl ?_
    refine e_get (a := 1) (u := .ref 9) rfl rfl rfl (fun _ => rfl) ?_
    refine e_ld (t := 0) rfl (Or.inl ⟨rfl, Or.inl rfl⟩) rfl rfl ?_
    refine e_at (a := 9) (by omega) rfl (by decide) (Nat.le_of_ble_eq_true rfl) rfl ?_
    refine e_obj (M1 := M) (cc1 := cc) (v1 := some (.int (yi (f_124 M (yrd M 9 x1))))) (a := 1) (as := [.int (yi (yrd M 9 x1))]) rfl (by decide) rfl (Nat.le_of_ble_eq_true rfl) rfl (t_124 (by omega)) ?_
    exact e_iret rfl (Or.inr ⟨rfl, (zb_yi (b_124))⟩)
  refine s_case (Option.map (fun t : Int => (M, cc, some (.int (yi t))))) (by decide) (fun h18 => ?_) (fun h18 => ?_)
  · refine e_ic (b := 1) rfl (by decide) (by decide) ?_
    exact e_iret rfl (Or.inr ⟨rfl, Or.inr rfl⟩)
  refine s_case (Option.map (fun t : Int => (M, cc, some (.int (yi t))))) (by decide) (fun h19 => ?_) (fun h19 => ?_)
  · refine e_ic (b := 1) rfl (by decide) (by decide) ?_
    exact e_iret rfl (Or.inr ⟨rfl, Or.inr rfl⟩)
  refine s_case (Option.map (fun t : Int => (M, cc, some (.int (yi t))))) (by decide) (fun h20 => ?_) (fun h20 => ?_)
  · refine e_ic (b := 0) rfl (by decide) (by decide) ?_
    exact e_iret rfl (Or.inr ⟨rfl, Or.inl rfl⟩)
  refine s_case (Option.map (fun t : Int => (M, cc, some (.int (yi t))))) (by decide) (fun h21 => ?_) (fun h21 => ?_)
  · refine e_ic (b := 0) rfl (by decide) (by decide) ?_
    exact e_iret rfl (Or.inr ⟨rfl, Or.inl rfl⟩)
  refine s_case (Option.map (fun t : Int => (M, cc, some (.int (yi t))))) (by decide) (fun h22 => ?_) (fun h22 => ?_)
  · refine e_ic (b := 1) rfl (by decide) (by decide) ?_
    exact e_iret rfl (Or.inr ⟨rfl, Or.inr rfl⟩)
  refine s_end ?_
  refine e_ic (b := 0) rfl (by decide) (by decide) ?_
  exact e_iret rfl (Or.inr ⟨rfl, Or.inl rfl⟩)
/-- UnwindTower.readProcedure -/
def f_29 (M : yM) (x1 : Int) (x2 : Int) : Int := (cond (yrel 0 x2 0) (yrd M 5 x1) (cond (yrel 0 x2 (0 + 1)) (yrd M 6 x1) (cond (yrel 0 x2 (0 + 1 + 1)) (f_108 M x1) (cond (yrel 0 x2 (0 + 1 + 1 + 1)) (f_14 M x1) (cond (yrel 0 x2 (0 + 1 + 1 + 1 + 1)) (f_32 M x1) (yrd M (196 + 17) x1))))))
theorem t_29 {sc : List Int32} {dd cc : Nat} {M : yM} {x1 : Int} {x2 : Int} (hd : 4 ≤ dd) : yP sc dd 29 [.ref 0, .int (yi x1), .int (yi x2)] M cc (some (M, cc, some (.int (yi (f_29 M x1 x2))))) := by
  obtain ⟨dd, rfl⟩ : ∃ e, dd = e + 1 := ⟨dd - 1, by omega⟩
  refine e_meth (C := zg_c29) (W := zg_w29) (ml := 3) rfl rfl (Nat.le_of_ble_eq_true rfl) ?_
  unfold f_29
  refine e_ld (t := 0) rfl (Or.inl ⟨rfl, Or.inl rfl⟩) rfl rfl ?_
  refine e_sw (lo' := 0) rfl rfl (by decide) ?_
  refine s_case (fun t : Int => some (M, cc, some (.int (yi t)))) (by decide) (fun h1 => ?_) (fun h1 => ?_)
  · refine e_ld (t := 2) rfl (Or.inr (Or.inl ⟨rfl, Or.inl rfl⟩)) rfl rfl ?_
    refine e_get (a := 0) (u := .ref 1) rfl rfl rfl (fun _ => rfl) ?_
    refine e_get (a := 1) (u := .ref 5) rfl rfl rfl (fun _ => rfl) ?_
    refine e_ld (t := 0) rfl (Or.inl ⟨rfl, Or.inl rfl⟩) rfl rfl ?_
    refine e_at (a := 5) (by omega) rfl (by decide) (Nat.le_of_ble_eq_true rfl) rfl ?_
    exact e_iret rfl (Or.inl rfl)
  refine s_case (fun t : Int => some (M, cc, some (.int (yi t)))) (by decide) (fun h2 => ?_) (fun h2 => ?_)
  · refine e_ld (t := 2) rfl (Or.inr (Or.inl ⟨rfl, Or.inl rfl⟩)) rfl rfl ?_
    refine e_get (a := 0) (u := .ref 1) rfl rfl rfl (fun _ => rfl) ?_
    refine e_get (a := 1) (u := .ref 6) rfl rfl rfl (fun _ => rfl) ?_
    refine e_ld (t := 0) rfl (Or.inl ⟨rfl, Or.inl rfl⟩) rfl rfl ?_
    refine e_at (a := 6) (by omega) rfl (by decide) (Nat.le_of_ble_eq_true rfl) rfl ?_
    exact e_iret rfl (Or.inl rfl)
  refine s_case (fun t : Int => some (M, cc, some (.int (yi t)))) (by decide) (fun h3 => ?_) (fun h3 => ?_)
  · refine e_ld (t := 2) rfl (Or.inr (Or.inl ⟨rfl, Or.inl rfl⟩)) rfl rfl ?_
    refine e_get (a := 0) (u := .ref 1) rfl rfl rfl (fun _ => rfl) ?_
    refine e_ld (t := 0) rfl (Or.inl ⟨rfl, Or.inl rfl⟩) rfl rfl ?_
    refine e_obj (M1 := M) (cc1 := cc) (v1 := some (.int (yi (f_108 M x1)))) (a := 1) (as := [.int (yi x1)]) rfl (by decide) rfl (Nat.le_of_ble_eq_true rfl) rfl (t_108 (by omega)) ?_
    exact e_iret rfl (Or.inl rfl)
  refine s_case (fun t : Int => some (M, cc, some (.int (yi t)))) (by decide) (fun h4 => ?_) (fun h4 => ?_)
  · refine e_ld (t := 2) rfl (Or.inr (Or.inl ⟨rfl, Or.inl rfl⟩)) rfl rfl ?_
    refine e_ld (t := 0) rfl (Or.inl ⟨rfl, Or.inl rfl⟩) rfl rfl ?_
    refine e_obj (M1 := M) (cc1 := cc) (v1 := some (.int (yi (f_14 M x1)))) (a := 0) (as := [.int (yi x1)]) rfl (by decide) rfl (Nat.le_of_ble_eq_true rfl) rfl (t_14 (by omega)) ?_
    exact e_iret rfl (Or.inl rfl)
  refine s_case (fun t : Int => some (M, cc, some (.int (yi t)))) (by decide) (fun h5 => ?_) (fun h5 => ?_)
  · refine e_ld (t := 2) rfl (Or.inr (Or.inl ⟨rfl, Or.inl rfl⟩)) rfl rfl ?_
    refine e_ld (t := 0) rfl (Or.inl ⟨rfl, Or.inl rfl⟩) rfl rfl ?_
    refine e_obj (M1 := M) (cc1 := cc) (v1 := some (.int (yi (f_32 M x1)))) (a := 0) (as := [.int (yi x1)]) rfl (by decide) rfl (Nat.le_of_ble_eq_true rfl) rfl (t_32 (by omega)) ?_
    exact e_iret rfl (Or.inl rfl)
  refine s_end ?_
  refine e_ld (t := 2) rfl (Or.inr (Or.inl ⟨rfl, Or.inl rfl⟩)) rfl rfl ?_
  refine e_get (a := 0) (u := .ref 196) rfl rfl rfl (fun _ => rfl) ?_
  refine e_get (a := 196) (u := .ref (196 + 17)) rfl (fM (Or.inl rfl)) rfl (fun _ => rfl) ?_
  refine e_ld (t := 0) rfl (Or.inl ⟨rfl, Or.inl rfl⟩) rfl rfl ?_
  refine e_at (a := (196 + 17)) (by omega) rfl (by decide) (Nat.le_of_ble_eq_true rfl) (nM_17 (Or.inl rfl)) ?_
  exact e_iret rfl (Or.inl rfl)
