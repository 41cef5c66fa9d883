/-! methods that only read: what each computes, and that its frame computes it -/
theorem zb_cond {b : Bool} {x y : Int32} (hx : x = 0 ∨ x = 1) (hy : y = 0 ∨ y = 1) : cond b x y = 0 ∨ cond b x y = 1 := by
  cases b with
  | true => exact hx
  | false => exact hy
theorem z_ret {sc : List Int32} {C : List zI} {W : List (List Nat)} {n dd j pc ln x y z w : Nat} {L : zL} {H : Nat → zO} {b c : Int32} (hc : C[j]? = some (pc, ln, 85, x, y, z, w)) (hz : z = 0 ∨ (z = 1 ∧ (b = 0 ∨ b = 1))) (h : c = b) : zG sc C W n dd j L [.int b] H (some (.int c)) H := by
  subst h
  refine g_iret hc ?_
  rcases hz with rfl | ⟨rfl, rfl | rfl⟩ <;> rfl
/-- UnwindTower$Faults.read(II)I -/
def f_78 (A : Nat → List Int32) (B : Nat → Nat → Int32) (k : Int32) (x : Int32) : Int32 := (zrd (A 19) (zbin 23 (zbin 25 k 4) x))
theorem t_78 {sc : List Int32} {n dd : Nat} {A : Nat → List Int32} {B : Nat → Nat → Int32} {P : Nat → Int64} {R : Nat → Nat} {T : Nat → zO} {k : Int32} {x : Int32} (hn : 416 ≤ n) (hw : zWL A) (hd : 2 ≤ dd) : zP sc n dd 78 [.ref 18, .int k, .int x] (zst A B P R T) (some (.int (f_78 A B k x))) (zst A B P R T) := by
  obtain ⟨dd, rfl⟩ : ∃ e, dd = e + 1 := ⟨dd - 1, by omega⟩
  refine g_meth (C := zg_c78) (W := zg_w78) (ml := 3) rfl rfl (Nat.le_of_ble_eq_true rfl) ?_
  refine r_ld (t := 2) rfl (Or.inr (Or.inl ⟨rfl, Or.inl rfl⟩)) rfl rfl ?_
  refine p_get (a := 18) hn rfl rfl rfl ?_
  refine r_ld (t := 0) rfl (Or.inl ⟨rfl, Or.inl rfl⟩) rfl rfl ?_
  refine r_ic (b := 4) rfl (by decide) (by decide) ?_
  refine r_bin rfl (by decide) ?_
  refine r_ld (t := 0) rfl (Or.inl ⟨rfl, Or.inl rfl⟩) rfl rfl ?_
  refine r_bin rfl (by decide) ?_
  refine p_at (a := 19) hn hw (by omega) rfl (by decide) (by decide) rfl ?_
  exact z_ret rfl (Or.inl rfl) (by simp only [f_78, cond_true, cond_false])
/-- UnwindTower$Program.canOfPart(I)I -/
def f_109 (A : Nat → List Int32) (B : Nat → Nat → Int32) (k : Int32) : Int32 := (cond (zrel 1 k (-1)) (zrd (A 16) k) 0)
theorem t_109 {sc : List Int32} {n dd : Nat} {A : Nat → List Int32} {B : Nat → Nat → Int32} {P : Nat → Int64} {R : Nat → Nat} {T : Nat → zO} {k : Int32} (hn : 416 ≤ n) (hw : zWL A) (hd : 2 ≤ dd) : zP sc n dd 109 [.ref 1, .int k] (zst A B P R T) (some (.int (f_109 A B k))) (zst A B P R T) := by
  obtain ⟨dd, rfl⟩ : ∃ e, dd = e + 1 := ⟨dd - 1, by omega⟩
  refine g_meth (C := zg_c109) (W := zg_w109) (ml := 2) rfl rfl (Nat.le_of_ble_eq_true rfl) ?_
  refine r_ld (t := 0) rfl (Or.inl ⟨rfl, Or.inl rfl⟩) rfl rfl ?_
  refine r_ic (b := (-1)) rfl (by decide) (by decide) ?_
  refine g_cmp (q := 1) (by decide) rfl (fun h2 => ?_) (fun h2 => ?_)
  · refine r_ld (t := 2) rfl (Or.inr (Or.inl ⟨rfl, Or.inl rfl⟩)) rfl rfl ?_
    refine p_get (a := 1) hn rfl rfl rfl ?_
    refine r_ld (t := 0) rfl (Or.inl ⟨rfl, Or.inl rfl⟩) rfl rfl ?_
    refine p_at (a := 16) hn hw (by omega) rfl (by decide) (by decide) rfl ?_
    exact z_ret rfl (Or.inl rfl) (by simp only [f_109, h2, cond_true, cond_false])
  · refine r_ic (b := 0) rfl (by decide) (by decide) ?_
    refine g_go rfl ?_
    exact z_ret rfl (Or.inl rfl) (by simp only [f_109, h2, cond_true, cond_false])
/-- UnwindTower$Program.hasKind(I)Z -/
def f_117 (A : Nat → List Int32) (B : Nat → Nat → Int32) (k : Int32) : Int32 := (cond (zrel 2 k 0) 0 (cond (zrel 3 k (B 1 0)) 0 1))
theorem b_117 {A : Nat → List Int32} {B : Nat → Nat → Int32} {k : Int32} : f_117 A B k = 0 ∨ f_117 A B k = 1 := (zb_cond (Or.inl rfl) (zb_cond (Or.inl rfl) (Or.inr rfl)))
theorem t_117 {sc : List Int32} {n dd : Nat} {A : Nat → List Int32} {B : Nat → Nat → Int32} {P : Nat → Int64} {R : Nat → Nat} {T : Nat → zO} {k : Int32} (hn : 416 ≤ n) (hw : zWL A) (hd : 1 ≤ dd) : zP sc n dd 117 [.ref 1, .int k] (zst A B P R T) (some (.int (f_117 A B k))) (zst A B P R T) := by
  obtain ⟨dd, rfl⟩ : ∃ e, dd = e + 1 := ⟨dd - 1, by omega⟩
  refine g_meth (C := zg_c117) (W := zg_w117) (ml := 2) rfl rfl (Nat.le_of_ble_eq_true rfl) ?_
  refine r_ld (t := 0) rfl (Or.inl ⟨rfl, Or.inl rfl⟩) rfl rfl ?_
  refine g_br (q := 2) (by decide) rfl (fun h1 => ?_) (fun h1 => ?_)
  · refine r_ic (b := 0) rfl (by decide) (by decide) ?_
    exact z_ret rfl (Or.inr ⟨rfl, Or.inl rfl⟩) (by simp only [f_117, h1, cond_true, cond_false])
  · refine r_ld (t := 0) rfl (Or.inl ⟨rfl, Or.inl rfl⟩) rfl rfl ?_
    refine r_ld (t := 2) rfl (Or.inr (Or.inl ⟨rfl, Or.inl rfl⟩)) rfl rfl ?_
    refine p_get (a := 1) hn rfl rfl rfl ?_
    refine g_cmp (q := 3) (by decide) rfl (fun h9 => ?_) (fun h9 => ?_)
    · refine r_ic (b := 0) rfl (by decide) (by decide) ?_
      exact z_ret rfl (Or.inr ⟨rfl, Or.inl rfl⟩) (by simp only [f_117, h1, h9, cond_true, cond_false])
    · refine r_ic (b := 1) rfl (by decide) (by decide) ?_
      refine g_go rfl ?_
      exact z_ret rfl (Or.inr ⟨rfl, Or.inr rfl⟩) (by simp only [f_117, h1, h9, cond_true, cond_false])
/-- UnwindTower$Program.hasNode(I)Z -/
def f_118 (A : Nat → List Int32) (B : Nat → Nat → Int32) (k : Int32) : Int32 := (cond (zrel 2 k 0) 0 (cond (zrel 3 k (B 1 7)) 0 1))
theorem b_118 {A : Nat → List Int32} {B : Nat → Nat → Int32} {k : Int32} : f_118 A B k = 0 ∨ f_118 A B k = 1 := (zb_cond (Or.inl rfl) (zb_cond (Or.inl rfl) (Or.inr rfl)))
theorem t_118 {sc : List Int32} {n dd : Nat} {A : Nat → List Int32} {B : Nat → Nat → Int32} {P : Nat → Int64} {R : Nat → Nat} {T : Nat → zO} {k : Int32} (hn : 416 ≤ n) (hw : zWL A) (hd : 1 ≤ dd) : zP sc n dd 118 [.ref 1, .int k] (zst A B P R T) (some (.int (f_118 A B k))) (zst A B P R T) := by
  obtain ⟨dd, rfl⟩ : ∃ e, dd = e + 1 := ⟨dd - 1, by omega⟩
  refine g_meth (C := zg_c118) (W := zg_w118) (ml := 2) rfl rfl (Nat.le_of_ble_eq_true rfl) ?_
  refine r_ld (t := 0) rfl (Or.inl ⟨rfl, Or.inl rfl⟩) rfl rfl ?_
  refine g_br (q := 2) (by decide) rfl (fun h1 => ?_) (fun h1 => ?_)
  · refine r_ic (b := 0) rfl (by decide) (by decide) ?_
    exact z_ret rfl (Or.inr ⟨rfl, Or.inl rfl⟩) (by simp only [f_118, h1, cond_true, cond_false])
  · refine r_ld (t := 0) rfl (Or.inl ⟨rfl, Or.inl rfl⟩) rfl rfl ?_
    refine r_ld (t := 2) rfl (Or.inr (Or.inl ⟨rfl, Or.inl rfl⟩)) rfl rfl ?_
    refine p_get (a := 1) hn rfl rfl rfl ?_
    refine g_cmp (q := 3) (by decide) rfl (fun h9 => ?_) (fun h9 => ?_)
    · refine r_ic (b := 0) rfl (by decide) (by decide) ?_
      exact z_ret rfl (Or.inr ⟨rfl, Or.inl rfl⟩) (by simp only [f_118, h1, h9, cond_true, cond_false])
    · refine r_ic (b := 1) rfl (by decide) (by decide) ?_
      refine g_go rfl ?_
      exact z_ret rfl (Or.inr ⟨rfl, Or.inr rfl⟩) (by simp only [f_118, h1, h9, cond_true, cond_false])
/-- UnwindTower$Program.hasProcedure(I)Z -/
def f_119 (A : Nat → List Int32) (B : Nat → Nat → Int32) (k : Int32) : Int32 := (cond (zrel 2 k 0) 0 (cond (zrel 3 k (B 1 4)) 0 1))
theorem b_119 {A : Nat → List Int32} {B : Nat → Nat → Int32} {k : Int32} : f_119 A B k = 0 ∨ f_119 A B k = 1 := (zb_cond (Or.inl rfl) (zb_cond (Or.inl rfl) (Or.inr rfl)))
theorem t_119 {sc : List Int32} {n dd : Nat} {A : Nat → List Int32} {B : Nat → Nat → Int32} {P : Nat → Int64} {R : Nat → Nat} {T : Nat → zO} {k : Int32} (hn : 416 ≤ n) (hw : zWL A) (hd : 1 ≤ dd) : zP sc n dd 119 [.ref 1, .int k] (zst A B P R T) (some (.int (f_119 A B k))) (zst A B P R T) := by
  obtain ⟨dd, rfl⟩ : ∃ e, dd = e + 1 := ⟨dd - 1, by omega⟩
  refine g_meth (C := zg_c119) (W := zg_w119) (ml := 2) rfl rfl (Nat.le_of_ble_eq_true rfl) ?_
  refine r_ld (t := 0) rfl (Or.inl ⟨rfl, Or.inl rfl⟩) rfl rfl ?_
  refine g_br (q := 2) (by decide) rfl (fun h1 => ?_) (fun h1 => ?_)
  · refine r_ic (b := 0) rfl (by decide) (by decide) ?_
    exact z_ret rfl (Or.inr ⟨rfl, Or.inl rfl⟩) (by simp only [f_119, h1, cond_true, cond_false])
  · refine r_ld (t := 0) rfl (Or.inl ⟨rfl, Or.inl rfl⟩) rfl rfl ?_
    refine r_ld (t := 2) rfl (Or.inr (Or.inl ⟨rfl, Or.inl rfl⟩)) rfl rfl ?_
    refine p_get (a := 1) hn rfl rfl rfl ?_
    refine g_cmp (q := 3) (by decide) rfl (fun h9 => ?_) (fun h9 => ?_)
    · refine r_ic (b := 0) rfl (by decide) (by decide) ?_
      exact z_ret rfl (Or.inr ⟨rfl, Or.inl rfl⟩) (by simp only [f_119, h1, h9, cond_true, cond_false])
    · refine r_ic (b := 1) rfl (by decide) (by decide) ?_
      refine g_go rfl ?_
      exact z_ret rfl (Or.inr ⟨rfl, Or.inr rfl⟩) (by simp only [f_119, h1, h9, cond_true, cond_false])
/-- UnwindTower$Program.isAtOrBelow(II)Z -/
def f_120 (A : Nat → List Int32) (B : Nat → Nat → Int32) (k : Int32) (x : Int32) : Int32 := (cond (zrel 1 (zbin 26 (zbin 104 (zrd (A 4) x) k) 1) 1) 0 1)
theorem b_120 {A : Nat → List Int32} {B : Nat → Nat → Int32} {k : Int32} {x : Int32} : f_120 A B k x = 0 ∨ f_120 A B k x = 1 := (zb_cond (Or.inl rfl) (Or.inr rfl))
theorem t_120 {sc : List Int32} {n dd : Nat} {A : Nat → List Int32} {B : Nat → Nat → Int32} {P : Nat → Int64} {R : Nat → Nat} {T : Nat → zO} {k : Int32} {x : Int32} (hn : 416 ≤ n) (hw : zWL A) (hd : 2 ≤ dd) : zP sc n dd 120 [.ref 1, .int k, .int x] (zst A B P R T) (some (.int (f_120 A B k x))) (zst A B P R T) := by
  obtain ⟨dd, rfl⟩ : ∃ e, dd = e + 1 := ⟨dd - 1, by omega⟩
  refine g_meth (C := zg_c120) (W := zg_w120) (ml := 3) rfl rfl (Nat.le_of_ble_eq_true rfl) ?_
  refine r_ld (t := 2) rfl (Or.inr (Or.inl ⟨rfl, Or.inl rfl⟩)) rfl rfl ?_
  refine p_get (a := 1) hn rfl rfl rfl ?_
  refine r_ld (t := 0) rfl (Or.inl ⟨rfl, Or.inl rfl⟩) rfl rfl ?_
  refine p_at (a := 4) hn hw (by omega) rfl (by decide) (by decide) rfl ?_
  refine r_ld (t := 0) rfl (Or.inl ⟨rfl, Or.inl rfl⟩) rfl rfl ?_
  refine r_bin rfl (by decide) ?_
  refine r_ic (b := 1) rfl (by decide) (by decide) ?_
  refine r_bin rfl (by decide) ?_
  refine r_ic (b := 1) rfl (by decide) (by decide) ?_
  refine g_cmp (q := 1) (by decide) rfl (fun h13 => ?_) (fun h13 => ?_)
  · refine r_ic (b := 0) rfl (by decide) (by decide) ?_
    exact z_ret rfl (Or.inr ⟨rfl, Or.inl rfl⟩) (by simp only [f_120, h13, cond_true, cond_false])
  · refine r_ic (b := 1) rfl (by decide) (by decide) ?_
    refine g_go rfl ?_
    exact z_ret rfl (Or.inr ⟨rfl, Or.inr rfl⟩) (by simp only [f_120, h13, cond_true, cond_false])
/-- UnwindTower$Program.isFree(I)Z -/
def f_121 (A : Nat → List Int32) (B : Nat → Nat → Int32) (k : Int32) : Int32 := (cond (zrel 0 (f_118 A B k) 0) 0 (cond (zrel 1 (zrd (A 11) k) (-1)) 0 (cond (zrel 1 (zrd (A 12) k) (-1)) 0 1)))
theorem b_121 {A : Nat → List Int32} {B : Nat → Nat → Int32} {k : Int32} : f_121 A B k = 0 ∨ f_121 A B k = 1 := (zb_cond (Or.inl rfl) (zb_cond (Or.inl rfl) (zb_cond (Or.inl rfl) (Or.inr rfl))))
theorem t_121 {sc : List Int32} {n dd : Nat} {A : Nat → List Int32} {B : Nat → Nat → Int32} {P : Nat → Int64} {R : Nat → Nat} {T : Nat → zO} {k : Int32} (hn : 416 ≤ n) (hw : zWL A) (hd : 2 ≤ dd) : zP sc n dd 121 [.ref 1, .int k] (zst A B P R T) (some (.int (f_121 A B k))) (zst A B P R T) := by
  obtain ⟨dd, rfl⟩ : ∃ e, dd = e + 1 := ⟨dd - 1, by omega⟩
  refine g_meth (C := zg_c121) (W := zg_w121) (ml := 2) rfl rfl (Nat.le_of_ble_eq_true rfl) ?_
  refine r_ld (t := 2) rfl (Or.inr (Or.inl ⟨rfl, Or.inl rfl⟩)) rfl rfl ?_
  refine r_ld (t := 0) rfl (Or.inl ⟨rfl, Or.inl rfl⟩) rfl rfl ?_
  refine g_obj (as := [.int k]) (u := some (.int (f_118 A B k))) rfl (by decide) rfl (by decide) (by omega) (zst_obj rfl) (t_118 hn hw (by omega)) ?_
  refine g_br (q := 0) (by decide) rfl (fun h5 => ?_) (fun h5 => ?_)
  · refine r_ic (b := 0) rfl (by decide) (by decide) ?_
    exact z_ret rfl (Or.inr ⟨rfl, Or.inl rfl⟩) (by simp only [f_121, h5, cond_true, cond_false])
  · refine r_ld (t := 2) rfl (Or.inr (Or.inl ⟨rfl, Or.inl rfl⟩)) rfl rfl ?_
    refine p_get (a := 1) hn rfl rfl rfl ?_
    refine r_ld (t := 0) rfl (Or.inl ⟨rfl, Or.inl rfl⟩) rfl rfl ?_
    refine p_at (a := 11) hn hw (by omega) rfl (by decide) (by decide) rfl ?_
    refine r_ic (b := (-1)) rfl (by decide) (by decide) ?_
    refine g_cmp (q := 1) (by decide) rfl (fun h17 => ?_) (fun h17 => ?_)
    · refine r_ic (b := 0) rfl (by decide) (by decide) ?_
      exact z_ret rfl (Or.inr ⟨rfl, Or.inl rfl⟩) (by simp only [f_121, h5, h17, cond_true, cond_false])
    · refine r_ld (t := 2) rfl (Or.inr (Or.inl ⟨rfl, Or.inl rfl⟩)) rfl rfl ?_
      refine p_get (a := 1) hn rfl rfl rfl ?_
      refine r_ld (t := 0) rfl (Or.inl ⟨rfl, Or.inl rfl⟩) rfl rfl ?_
      refine p_at (a := 12) hn hw (by omega) rfl (by decide) (by decide) rfl ?_
      refine r_ic (b := (-1)) rfl (by decide) (by decide) ?_
      refine g_cmp (q := 1) (by decide) rfl (fun h29 => ?_) (fun h29 => ?_)
      · refine r_ic (b := 0) rfl (by decide) (by decide) ?_
        exact z_ret rfl (Or.inr ⟨rfl, Or.inl rfl⟩) (by simp only [f_121, h5, h17, h29, cond_true, cond_false])
      · refine r_ic (b := 1) rfl (by decide) (by decide) ?_
        refine g_go rfl ?_
        exact z_ret rfl (Or.inr ⟨rfl, Or.inr rfl⟩) (by simp only [f_121, h5, h17, h29, cond_true, cond_false])
/-- UnwindTower$Program.isNever(I)Z -/
def f_124 (A : Nat → List Int32) (B : Nat → Nat → Int32) (k : Int32) : Int32 := (cond (zrel 0 k (-1)) 0 (cond (zrel 1 (zrd (A 17) k) 1) 0 1))
theorem b_124 {A : Nat → List Int32} {B : Nat → Nat → Int32} {k : Int32} : f_124 A B k = 0 ∨ f_124 A B k = 1 := (zb_cond (Or.inl rfl) (zb_cond (Or.inl rfl) (Or.inr rfl)))
theorem t_124 {sc : List Int32} {n dd : Nat} {A : Nat → List Int32} {B : Nat → Nat → Int32} {P : Nat → Int64} {R : Nat → Nat} {T : Nat → zO} {k : Int32} (hn : 416 ≤ n) (hw : zWL A) (hd : 2 ≤ dd) : zP sc n dd 124 [.ref 1, .int k] (zst A B P R T) (some (.int (f_124 A B k))) (zst A B P R T) := by
  obtain ⟨dd, rfl⟩ : ∃ e, dd = e + 1 := ⟨dd - 1, by omega⟩
  refine g_meth (C := zg_c124) (W := zg_w124) (ml := 2) rfl rfl (Nat.le_of_ble_eq_true rfl) ?_
  refine r_ld (t := 0) rfl (Or.inl ⟨rfl, Or.inl rfl⟩) rfl rfl ?_
  refine r_ic (b := (-1)) rfl (by decide) (by decide) ?_
  refine g_cmp (q := 0) (by decide) rfl (fun h2 => ?_) (fun h2 => ?_)
  · refine r_ic (b := 0) rfl (by decide) (by decide) ?_
    exact z_ret rfl (Or.inr ⟨rfl, Or.inl rfl⟩) (by simp only [f_124, h2, cond_true, cond_false])
  · refine r_ld (t := 2) rfl (Or.inr (Or.inl ⟨rfl, Or.inl rfl⟩)) rfl rfl ?_
    refine p_get (a := 1) hn rfl rfl rfl ?_
    refine r_ld (t := 0) rfl (Or.inl ⟨rfl, Or.inl rfl⟩) rfl rfl ?_
    refine p_at (a := 17) hn hw (by omega) rfl (by decide) (by decide) rfl ?_
    refine r_ic (b := 1) rfl (by decide) (by decide) ?_
    refine g_cmp (q := 1) (by decide) rfl (fun h14 => ?_) (fun h14 => ?_)
    · refine r_ic (b := 0) rfl (by decide) (by decide) ?_
      exact z_ret rfl (Or.inr ⟨rfl, Or.inl rfl⟩) (by simp only [f_124, h2, h14, cond_true, cond_false])
    · refine r_ic (b := 1) rfl (by decide) (by decide) ?_
      refine g_go rfl ?_
      exact z_ret rfl (Or.inr ⟨rfl, Or.inr rfl⟩) (by simp only [f_124, h2, h14, cond_true, cond_false])
/-- UnwindTower$Program.isOperand(I)Z -/
def f_126 (A : Nat → List Int32) (B : Nat → Nat → Int32) (k : Int32) : Int32 := (cond (zrel 2 k (-99)) (cond (zrel 2 k 100) 0 (cond (zrel 3 k 110) 0 1)) (cond (zrel 5 k 99) 1 (cond (zrel 2 k 100) 0 (cond (zrel 3 k 110) 0 1))))
theorem b_126 {A : Nat → List Int32} {B : Nat → Nat → Int32} {k : Int32} : f_126 A B k = 0 ∨ f_126 A B k = 1 := (zb_cond (zb_cond (Or.inl rfl) (zb_cond (Or.inl rfl) (Or.inr rfl))) (zb_cond (Or.inr rfl) (zb_cond (Or.inl rfl) (zb_cond (Or.inl rfl) (Or.inr rfl)))))
theorem t_126 {sc : List Int32} {n dd : Nat} {A : Nat → List Int32} {B : Nat → Nat → Int32} {P : Nat → Int64} {R : Nat → Nat} {T : Nat → zO} {k : Int32} (hn : 416 ≤ n) (hw : zWL A) (hd : 1 ≤ dd) : zP sc n dd 126 [.ref 1, .int k] (zst A B P R T) (some (.int (f_126 A B k))) (zst A B P R T) := by
  obtain ⟨dd, rfl⟩ : ∃ e, dd = e + 1 := ⟨dd - 1, by omega⟩
  refine g_meth (C := zg_c126) (W := zg_w126) (ml := 2) rfl rfl (Nat.le_of_ble_eq_true rfl) ?_
  refine r_ld (t := 0) rfl (Or.inl ⟨rfl, Or.inl rfl⟩) rfl rfl ?_
  refine r_ic (b := (-99)) rfl (by decide) (by decide) ?_
  refine g_cmp (q := 2) (by decide) rfl (fun h3 => ?_) (fun h3 => ?_)
  · refine r_ld (t := 0) rfl (Or.inl ⟨rfl, Or.inl rfl⟩) rfl rfl ?_
    refine r_ic (b := 100) rfl (by decide) (by decide) ?_
    refine g_cmp (q := 2) (by decide) rfl (fun h15 => ?_) (fun h15 => ?_)
    · refine r_ic (b := 0) rfl (by decide) (by decide) ?_
      exact z_ret rfl (Or.inr ⟨rfl, Or.inl rfl⟩) (by simp only [f_126, h3, h15, cond_true, cond_false])
    · refine r_ld (t := 0) rfl (Or.inl ⟨rfl, Or.inl rfl⟩) rfl rfl ?_
      refine r_ic (b := 110) rfl (by decide) (by decide) ?_
      refine g_cmp (q := 3) (by decide) rfl (fun h21 => ?_) (fun h21 => ?_)
      · refine r_ic (b := 0) rfl (by decide) (by decide) ?_
        exact z_ret rfl (Or.inr ⟨rfl, Or.inl rfl⟩) (by simp only [f_126, h3, h15, h21, cond_true, cond_false])
      · refine r_ic (b := 1) rfl (by decide) (by decide) ?_
        refine g_go rfl ?_
        exact z_ret rfl (Or.inr ⟨rfl, Or.inr rfl⟩) (by simp only [f_126, h3, h15, h21, cond_true, cond_false])
  · refine r_ld (t := 0) rfl (Or.inl ⟨rfl, Or.inl rfl⟩) rfl rfl ?_
    refine r_ic (b := 99) rfl (by decide) (by decide) ?_
    refine g_cmp (q := 5) (by decide) rfl (fun h9 => ?_) (fun h9 => ?_)
    · refine r_ic (b := 1) rfl (by decide) (by decide) ?_
      refine g_go rfl ?_
      exact z_ret rfl (Or.inr ⟨rfl, Or.inr rfl⟩) (by simp only [f_126, h3, h9, cond_true, cond_false])
    · refine r_ld (t := 0) rfl (Or.inl ⟨rfl, Or.inl rfl⟩) rfl rfl ?_
      refine r_ic (b := 100) rfl (by decide) (by decide) ?_
      refine g_cmp (q := 2) (by decide) rfl (fun h15 => ?_) (fun h15 => ?_)
      · refine r_ic (b := 0) rfl (by decide) (by decide) ?_
        exact z_ret rfl (Or.inr ⟨rfl, Or.inl rfl⟩) (by simp only [f_126, h3, h9, h15, cond_true, cond_false])
      · refine r_ld (t := 0) rfl (Or.inl ⟨rfl, Or.inl rfl⟩) rfl rfl ?_
        refine r_ic (b := 110) rfl (by decide) (by decide) ?_
        refine g_cmp (q := 3) (by decide) rfl (fun h21 => ?_) (fun h21 => ?_)
        · refine r_ic (b := 0) rfl (by decide) (by decide) ?_
          exact z_ret rfl (Or.inr ⟨rfl, Or.inl rfl⟩) (by simp only [f_126, h3, h9, h15, h21, cond_true, cond_false])
        · refine r_ic (b := 1) rfl (by decide) (by decide) ?_
          refine g_go rfl ?_
          exact z_ret rfl (Or.inr ⟨rfl, Or.inr rfl⟩) (by simp only [f_126, h3, h9, h15, h21, cond_true, cond_false])
/-- UnwindTower$Program.isSet(I)Z -/
def f_127 (A : Nat → List Int32) (B : Nat → Nat → Int32) (k : Int32) : Int32 := (cond (zrel 2 k 0) 0 (cond (zrel 3 k (zbin 28 1 (B 1 0))) 0 1))
theorem b_127 {A : Nat → List Int32} {B : Nat → Nat → Int32} {k : Int32} : f_127 A B k = 0 ∨ f_127 A B k = 1 := (zb_cond (Or.inl rfl) (zb_cond (Or.inl rfl) (Or.inr rfl)))
theorem t_127 {sc : List Int32} {n dd : Nat} {A : Nat → List Int32} {B : Nat → Nat → Int32} {P : Nat → Int64} {R : Nat → Nat} {T : Nat → zO} {k : Int32} (hn : 416 ≤ n) (hw : zWL A) (hd : 1 ≤ dd) : zP sc n dd 127 [.ref 1, .int k] (zst A B P R T) (some (.int (f_127 A B k))) (zst A B P R T) := by
  obtain ⟨dd, rfl⟩ : ∃ e, dd = e + 1 := ⟨dd - 1, by omega⟩
  refine g_meth (C := zg_c127) (W := zg_w127) (ml := 2) rfl rfl (Nat.le_of_ble_eq_true rfl) ?_
  refine r_ld (t := 0) rfl (Or.inl ⟨rfl, Or.inl rfl⟩) rfl rfl ?_
  refine g_br (q := 2) (by decide) rfl (fun h1 => ?_) (fun h1 => ?_)
  · refine r_ic (b := 0) rfl (by decide) (by decide) ?_
    exact z_ret rfl (Or.inr ⟨rfl, Or.inl rfl⟩) (by simp only [f_127, h1, cond_true, cond_false])
  · refine r_ld (t := 0) rfl (Or.inl ⟨rfl, Or.inl rfl⟩) rfl rfl ?_
    refine r_ic (b := 1) rfl (by decide) (by decide) ?_
    refine r_ld (t := 2) rfl (Or.inr (Or.inl ⟨rfl, Or.inl rfl⟩)) rfl rfl ?_
    refine p_get (a := 1) hn rfl rfl rfl ?_
    refine r_bin rfl (by decide) ?_
    refine g_cmp (q := 3) (by decide) rfl (fun h11 => ?_) (fun h11 => ?_)
    · refine r_ic (b := 0) rfl (by decide) (by decide) ?_
      exact z_ret rfl (Or.inr ⟨rfl, Or.inl rfl⟩) (by simp only [f_127, h1, h11, cond_true, cond_false])
    · refine r_ic (b := 1) rfl (by decide) (by decide) ?_
      refine g_go rfl ?_
      exact z_ret rfl (Or.inr ⟨rfl, Or.inr rfl⟩) (by simp only [f_127, h1, h11, cond_true, cond_false])
/-- UnwindTower$Program.isStatement(I)Z -/
def f_128 (A : Nat → List Int32) (B : Nat → Nat → Int32) (k : Int32) : Int32 := (cond (zrel 0 (zrd (A 7) k) 12) 0 1)
theorem b_128 {A : Nat → List Int32} {B : Nat → Nat → Int32} {k : Int32} : f_128 A B k = 0 ∨ f_128 A B k = 1 := (zb_cond (Or.inl rfl) (Or.inr rfl))
theorem t_128 {sc : List Int32} {n dd : Nat} {A : Nat → List Int32} {B : Nat → Nat → Int32} {P : Nat → Int64} {R : Nat → Nat} {T : Nat → zO} {k : Int32} (hn : 416 ≤ n) (hw : zWL A) (hd : 2 ≤ dd) : zP sc n dd 128 [.ref 1, .int k] (zst A B P R T) (some (.int (f_128 A B k))) (zst A B P R T) := by
  obtain ⟨dd, rfl⟩ : ∃ e, dd = e + 1 := ⟨dd - 1, by omega⟩
  refine g_meth (C := zg_c128) (W := zg_w128) (ml := 2) rfl rfl (Nat.le_of_ble_eq_true rfl) ?_
  refine r_ld (t := 2) rfl (Or.inr (Or.inl ⟨rfl, Or.inl rfl⟩)) rfl rfl ?_
  refine p_get (a := 1) hn rfl rfl rfl ?_
  refine r_ld (t := 0) rfl (Or.inl ⟨rfl, Or.inl rfl⟩) rfl rfl ?_
  refine p_at (a := 7) hn hw (by omega) rfl (by decide) (by decide) rfl ?_
  refine r_ic (b := 12) rfl (by decide) (by decide) ?_
  refine g_cmp (q := 0) (by decide) rfl (fun h10 => ?_) (fun h10 => ?_)
  · refine r_ic (b := 0) rfl (by decide) (by decide) ?_
    exact z_ret rfl (Or.inr ⟨rfl, Or.inl rfl⟩) (by simp only [f_128, h10, cond_true, cond_false])
  · refine r_ic (b := 1) rfl (by decide) (by decide) ?_
    refine g_go rfl ?_
    exact z_ret rfl (Or.inr ⟨rfl, Or.inr rfl⟩) (by simp only [f_128, h10, cond_true, cond_false])
/-- UnwindTower$Program.isVariable(I)Z -/
def f_131 (A : Nat → List Int32) (B : Nat → Nat → Int32) (k : Int32) : Int32 := (cond (zrel 2 k 0) 0 (cond (zrel 3 k 10) 0 1))
theorem b_131 {A : Nat → List Int32} {B : Nat → Nat → Int32} {k : Int32} : f_131 A B k = 0 ∨ f_131 A B k = 1 := (zb_cond (Or.inl rfl) (zb_cond (Or.inl rfl) (Or.inr rfl)))
theorem t_131 {sc : List Int32} {n dd : Nat} {A : Nat → List Int32} {B : Nat → Nat → Int32} {P : Nat → Int64} {R : Nat → Nat} {T : Nat → zO} {k : Int32} (hn : 416 ≤ n) (hw : zWL A) (hd : 1 ≤ dd) : zP sc n dd 131 [.ref 1, .int k] (zst A B P R T) (some (.int (f_131 A B k))) (zst A B P R T) := by
  obtain ⟨dd, rfl⟩ : ∃ e, dd = e + 1 := ⟨dd - 1, by omega⟩
  refine g_meth (C := zg_c131) (W := zg_w131) (ml := 2) rfl rfl (Nat.le_of_ble_eq_true rfl) ?_
  refine r_ld (t := 0) rfl (Or.inl ⟨rfl, Or.inl rfl⟩) rfl rfl ?_
  refine g_br (q := 2) (by decide) rfl (fun h1 => ?_) (fun h1 => ?_)
  · refine r_ic (b := 0) rfl (by decide) (by decide) ?_
    exact z_ret rfl (Or.inr ⟨rfl, Or.inl rfl⟩) (by simp only [f_131, h1, cond_true, cond_false])
  · refine r_ld (t := 0) rfl (Or.inl ⟨rfl, Or.inl rfl⟩) rfl rfl ?_
    refine r_ic (b := 10) rfl (by decide) (by decide) ?_
    refine g_cmp (q := 3) (by decide) rfl (fun h7 => ?_) (fun h7 => ?_)
    · refine r_ic (b := 0) rfl (by decide) (by decide) ?_
      exact z_ret rfl (Or.inr ⟨rfl, Or.inl rfl⟩) (by simp only [f_131, h1, h7, cond_true, cond_false])
    · refine r_ic (b := 1) rfl (by decide) (by decide) ?_
      refine g_go rfl ?_
      exact z_ret rfl (Or.inr ⟨rfl, Or.inr rfl⟩) (by simp only [f_131, h1, h7, cond_true, cond_false])
/-- UnwindTower$Program.partA(I)I -/
def f_134 (A : Nat → List Int32) (B : Nat → Nat → Int32) (k : Int32) : Int32 := (cond (zrel 1 (zrd (A 7) k) 11) (-1) (zrd (A 8) k))
theorem t_134 {sc : List Int32} {n dd : Nat} {A : Nat → List Int32} {B : Nat → Nat → Int32} {P : Nat → Int64} {R : Nat → Nat} {T : Nat → zO} {k : Int32} (hn : 416 ≤ n) (hw : zWL A) (hd : 2 ≤ dd) : zP sc n dd 134 [.ref 1, .int k] (zst A B P R T) (some (.int (f_134 A B k))) (zst A B P R T) := by
  obtain ⟨dd, rfl⟩ : ∃ e, dd = e + 1 := ⟨dd - 1, by omega⟩
  refine g_meth (C := zg_c134) (W := zg_w134) (ml := 2) rfl rfl (Nat.le_of_ble_eq_true rfl) ?_
  refine r_ld (t := 2) rfl (Or.inr (Or.inl ⟨rfl, Or.inl rfl⟩)) rfl rfl ?_
  refine p_get (a := 1) hn rfl rfl rfl ?_
  refine r_ld (t := 0) rfl (Or.inl ⟨rfl, Or.inl rfl⟩) rfl rfl ?_
  refine p_at (a := 7) hn hw (by omega) rfl (by decide) (by decide) rfl ?_
  refine r_ic (b := 11) rfl (by decide) (by decide) ?_
  refine g_cmp (q := 1) (by decide) rfl (fun h10 => ?_) (fun h10 => ?_)
  · refine r_ic (b := (-1)) rfl (by decide) (by decide) ?_
    exact z_ret rfl (Or.inl rfl) (by simp only [f_134, h10, cond_true, cond_false])
  · refine r_ld (t := 2) rfl (Or.inr (Or.inl ⟨rfl, Or.inl rfl⟩)) rfl rfl ?_
    refine p_get (a := 1) hn rfl rfl rfl ?_
    refine r_ld (t := 0) rfl (Or.inl ⟨rfl, Or.inl rfl⟩) rfl rfl ?_
    refine p_at (a := 8) hn hw (by omega) rfl (by decide) (by decide) rfl ?_
    refine g_go rfl ?_
    exact z_ret rfl (Or.inl rfl) (by simp only [f_134, h10, cond_true, cond_false])
/-- UnwindTower$Program.toldOf(I)I -/
def f_138 (A : Nat → List Int32) (B : Nat → Nat → Int32) (k : Int32) : Int32 := (cond (zrel 1 k (-1)) (zrd (A 5) k) 0)
theorem t_138 {sc : List Int32} {n dd : Nat} {A : Nat → List Int32} {B : Nat → Nat → Int32} {P : Nat → Int64} {R : Nat → Nat} {T : Nat → zO} {k : Int32} (hn : 416 ≤ n) (hw : zWL A) (hd : 2 ≤ dd) : zP sc n dd 138 [.ref 1, .int k] (zst A B P R T) (some (.int (f_138 A B k))) (zst A B P R T) := by
  obtain ⟨dd, rfl⟩ : ∃ e, dd = e + 1 := ⟨dd - 1, by omega⟩
  refine g_meth (C := zg_c138) (W := zg_w138) (ml := 2) rfl rfl (Nat.le_of_ble_eq_true rfl) ?_
  refine r_ld (t := 0) rfl (Or.inl ⟨rfl, Or.inl rfl⟩) rfl rfl ?_
  refine r_ic (b := (-1)) rfl (by decide) (by decide) ?_
  refine g_cmp (q := 1) (by decide) rfl (fun h2 => ?_) (fun h2 => ?_)
  · refine r_ld (t := 2) rfl (Or.inr (Or.inl ⟨rfl, Or.inl rfl⟩)) rfl rfl ?_
    refine p_get (a := 1) hn rfl rfl rfl ?_
    refine r_ld (t := 0) rfl (Or.inl ⟨rfl, Or.inl rfl⟩) rfl rfl ?_
    refine p_at (a := 5) hn hw (by omega) rfl (by decide) (by decide) rfl ?_
    exact z_ret rfl (Or.inl rfl) (by simp only [f_138, h2, cond_true, cond_false])
  · refine r_ic (b := 0) rfl (by decide) (by decide) ?_
    refine g_go rfl ?_
    exact z_ret rfl (Or.inl rfl) (by simp only [f_138, h2, cond_true, cond_false])
/-- UnwindTower$Program.canOfBody(I)I -/
def f_108 (A : Nat → List Int32) (B : Nat → Nat → Int32) (k : Int32) : Int32 := (f_109 A B (zrd (A 6) k))
theorem t_108 {sc : List Int32} {n dd : Nat} {A : Nat → List Int32} {B : Nat → Nat → Int32} {P : Nat → Int64} {R : Nat → Nat} {T : Nat → zO} {k : Int32} (hn : 416 ≤ n) (hw : zWL A) (hd : 3 ≤ dd) : zP sc n dd 108 [.ref 1, .int k] (zst A B P R T) (some (.int (f_108 A B k))) (zst A B P R T) := by
  obtain ⟨dd, rfl⟩ : ∃ e, dd = e + 1 := ⟨dd - 1, by omega⟩
  refine g_meth (C := zg_c108) (W := zg_w108) (ml := 2) rfl rfl (Nat.le_of_ble_eq_true rfl) ?_
  refine r_ld (t := 2) rfl (Or.inr (Or.inl ⟨rfl, Or.inl rfl⟩)) rfl rfl ?_
  refine r_ld (t := 2) rfl (Or.inr (Or.inl ⟨rfl, Or.inl rfl⟩)) rfl rfl ?_
  refine p_get (a := 1) hn rfl rfl rfl ?_
  refine r_ld (t := 0) rfl (Or.inl ⟨rfl, Or.inl rfl⟩) rfl rfl ?_
  refine p_at (a := 6) hn hw (by omega) rfl (by decide) (by decide) rfl ?_
  refine g_obj (as := [.int (zrd (A 6) k)]) (u := some (.int (f_109 A B (zrd (A 6) k)))) rfl (by decide) rfl (by decide) (by omega) (zst_obj rfl) (t_109 hn hw (by omega)) ?_
  exact z_ret rfl (Or.inl rfl) (by simp only [f_108, cond_true, cond_false])
/-- UnwindTower$Program.isFreeCatch(I)Z -/
def f_122 (A : Nat → List Int32) (B : Nat → Nat → Int32) (k : Int32) : Int32 := (cond (zrel 0 (f_121 A B k) 0) 0 (cond (zrel 1 (f_128 A B k) 0) 0 1))
theorem b_122 {A : Nat → List Int32} {B : Nat → Nat → Int32} {k : Int32} : f_122 A B k = 0 ∨ f_122 A B k = 1 := (zb_cond (Or.inl rfl) (zb_cond (Or.inl rfl) (Or.inr rfl)))
theorem t_122 {sc : List Int32} {n dd : Nat} {A : Nat → List Int32} {B : Nat → Nat → Int32} {P : Nat → Int64} {R : Nat → Nat} {T : Nat → zO} {k : Int32} (hn : 416 ≤ n) (hw : zWL A) (hd : 3 ≤ dd) : zP sc n dd 122 [.ref 1, .int k] (zst A B P R T) (some (.int (f_122 A B k))) (zst A B P R T) := by
  obtain ⟨dd, rfl⟩ : ∃ e, dd = e + 1 := ⟨dd - 1, by omega⟩
  refine g_meth (C := zg_c122) (W := zg_w122) (ml := 2) rfl rfl (Nat.le_of_ble_eq_true rfl) ?_
  refine r_ld (t := 2) rfl (Or.inr (Or.inl ⟨rfl, Or.inl rfl⟩)) rfl rfl ?_
  refine r_ld (t := 0) rfl (Or.inl ⟨rfl, Or.inl rfl⟩) rfl rfl ?_
  refine g_obj (as := [.int k]) (u := some (.int (f_121 A B k))) rfl (by decide) rfl (by decide) (by omega) (zst_obj rfl) (t_121 hn hw (by omega)) ?_
  refine g_br (q := 0) (by decide) rfl (fun h5 => ?_) (fun h5 => ?_)
  · refine r_ic (b := 0) rfl (by decide) (by decide) ?_
    exact z_ret rfl (Or.inr ⟨rfl, Or.inl rfl⟩) (by simp only [f_122, h5, cond_true, cond_false])
  · refine r_ld (t := 2) rfl (Or.inr (Or.inl ⟨rfl, Or.inl rfl⟩)) rfl rfl ?_
    refine r_ld (t := 0) rfl (Or.inl ⟨rfl, Or.inl rfl⟩) rfl rfl ?_
    refine g_obj (as := [.int k]) (u := some (.int (f_128 A B k))) rfl (by decide) rfl (by decide) (by omega) (zst_obj rfl) (t_128 hn hw (by omega)) ?_
    refine g_br (q := 1) (by decide) rfl (fun h13 => ?_) (fun h13 => ?_)
    · refine r_ic (b := 0) rfl (by decide) (by decide) ?_
      exact z_ret rfl (Or.inr ⟨rfl, Or.inl rfl⟩) (by simp only [f_122, h5, h13, cond_true, cond_false])
    · refine r_ic (b := 1) rfl (by decide) (by decide) ?_
      refine g_go rfl ?_
      exact z_ret rfl (Or.inr ⟨rfl, Or.inr rfl⟩) (by simp only [f_122, h5, h13, cond_true, cond_false])
/-- UnwindTower$Program.isFreeStatement(I)Z -/
def f_123 (A : Nat → List Int32) (B : Nat → Nat → Int32) (k : Int32) : Int32 := (cond (zrel 0 (f_121 A B k) 0) 0 (cond (zrel 0 (f_128 A B k) 0) 0 1))
theorem b_123 {A : Nat → List Int32} {B : Nat → Nat → Int32} {k : Int32} : f_123 A B k = 0 ∨ f_123 A B k = 1 := (zb_cond (Or.inl rfl) (zb_cond (Or.inl rfl) (Or.inr rfl)))
theorem t_123 {sc : List Int32} {n dd : Nat} {A : Nat → List Int32} {B : Nat → Nat → Int32} {P : Nat → Int64} {R : Nat → Nat} {T : Nat → zO} {k : Int32} (hn : 416 ≤ n) (hw : zWL A) (hd : 3 ≤ dd) : zP sc n dd 123 [.ref 1, .int k] (zst A B P R T) (some (.int (f_123 A B k))) (zst A B P R T) := by
  obtain ⟨dd, rfl⟩ : ∃ e, dd = e + 1 := ⟨dd - 1, by omega⟩
  refine g_meth (C := zg_c123) (W := zg_w123) (ml := 2) rfl rfl (Nat.le_of_ble_eq_true rfl) ?_
  refine r_ld (t := 2) rfl (Or.inr (Or.inl ⟨rfl, Or.inl rfl⟩)) rfl rfl ?_
  refine r_ld (t := 0) rfl (Or.inl ⟨rfl, Or.inl rfl⟩) rfl rfl ?_
  refine g_obj (as := [.int k]) (u := some (.int (f_121 A B k))) rfl (by decide) rfl (by decide) (by omega) (zst_obj rfl) (t_121 hn hw (by omega)) ?_
  refine g_br (q := 0) (by decide) rfl (fun h5 => ?_) (fun h5 => ?_)
  · refine r_ic (b := 0) rfl (by decide) (by decide) ?_
    exact z_ret rfl (Or.inr ⟨rfl, Or.inl rfl⟩) (by simp only [f_123, h5, cond_true, cond_false])
  · refine r_ld (t := 2) rfl (Or.inr (Or.inl ⟨rfl, Or.inl rfl⟩)) rfl rfl ?_
    refine r_ld (t := 0) rfl (Or.inl ⟨rfl, Or.inl rfl⟩) rfl rfl ?_
    refine g_obj (as := [.int k]) (u := some (.int (f_128 A B k))) rfl (by decide) rfl (by decide) (by omega) (zst_obj rfl) (t_128 hn hw (by omega)) ?_
    refine g_br (q := 0) (by decide) rfl (fun h13 => ?_) (fun h13 => ?_)
    · refine r_ic (b := 0) rfl (by decide) (by decide) ?_
      exact z_ret rfl (Or.inr ⟨rfl, Or.inl rfl⟩) (by simp only [f_123, h5, h13, cond_true, cond_false])
    · refine r_ic (b := 1) rfl (by decide) (by decide) ?_
      refine g_go rfl ?_
      exact z_ret rfl (Or.inr ⟨rfl, Or.inr rfl⟩) (by simp only [f_123, h5, h13, cond_true, cond_false])
/-- UnwindTower$Program.isTry(III)Z -/
def f_129 (A : Nat → List Int32) (B : Nat → Nat → Int32) (k : Int32) (x : Int32) (y : Int32) : Int32 := (cond (zrel 1 k (-1)) (cond (zrel 0 (f_123 A B x) 0) 0 (cond (zrel 0 k x) 0 (cond (zrel 0 k (-1)) (cond (zrel 0 y (-1)) 1 (cond (zrel 0 (f_122 A B y) 0) 0 1)) (cond (zrel 0 (f_123 A B k) 0) 0 (cond (zrel 0 y (-1)) 1 (cond (zrel 0 (f_122 A B y) 0) 0 1)))))) (cond (zrel 1 y (-1)) (cond (zrel 0 (f_123 A B x) 0) 0 (cond (zrel 0 k x) 0 (cond (zrel 0 k (-1)) (cond (zrel 0 y (-1)) 1 (cond (zrel 0 (f_122 A B y) 0) 0 1)) (cond (zrel 0 (f_123 A B k) 0) 0 (cond (zrel 0 y (-1)) 1 (cond (zrel 0 (f_122 A B y) 0) 0 1)))))) 0))
theorem b_129 {A : Nat → List Int32} {B : Nat → Nat → Int32} {k : Int32} {x : Int32} {y : Int32} : f_129 A B k x y = 0 ∨ f_129 A B k x y = 1 := (zb_cond (zb_cond (Or.inl rfl) (zb_cond (Or.inl rfl) (zb_cond (zb_cond (Or.inr rfl) (zb_cond (Or.inl rfl) (Or.inr rfl))) (zb_cond (Or.inl rfl) (zb_cond (Or.inr rfl) (zb_cond (Or.inl rfl) (Or.inr rfl))))))) (zb_cond (zb_cond (Or.inl rfl) (zb_cond (Or.inl rfl) (zb_cond (zb_cond (Or.inr rfl) (zb_cond (Or.inl rfl) (Or.inr rfl))) (zb_cond (Or.inl rfl) (zb_cond (Or.inr rfl) (zb_cond (Or.inl rfl) (Or.inr rfl))))))) (Or.inl rfl)))
theorem t_129 {sc : List Int32} {n dd : Nat} {A : Nat → List Int32} {B : Nat → Nat → Int32} {P : Nat → Int64} {R : Nat → Nat} {T : Nat → zO} {k : Int32} {x : Int32} {y : Int32} (hn : 416 ≤ n) (hw : zWL A) (hd : 4 ≤ dd) : zP sc n dd 129 [.ref 1, .int k, .int x, .int y] (zst A B P R T) (some (.int (f_129 A B k x y))) (zst A B P R T) := by
  obtain ⟨dd, rfl⟩ : ∃ e, dd = e + 1 := ⟨dd - 1, by omega⟩
  refine g_meth (C := zg_c129) (W := zg_w129) (ml := 4) rfl rfl (Nat.le_of_ble_eq_true rfl) ?_
  refine r_ld (t := 0) rfl (Or.inl ⟨rfl, Or.inl rfl⟩) rfl rfl ?_
  refine r_ic (b := (-1)) rfl (by decide) (by decide) ?_
  refine g_cmp (q := 1) (by decide) rfl (fun h2 => ?_) (fun h2 => ?_)
  · refine r_ld (t := 2) rfl (Or.inr (Or.inl ⟨rfl, Or.inl rfl⟩)) rfl rfl ?_
    refine r_ld (t := 0) rfl (Or.inl ⟨rfl, Or.inl rfl⟩) rfl rfl ?_
    refine g_obj (as := [.int x]) (u := some (.int (f_123 A B x))) rfl (by decide) rfl (by decide) (by omega) (zst_obj rfl) (t_123 hn hw (by omega)) ?_
    refine g_br (q := 0) (by decide) rfl (fun h17 => ?_) (fun h17 => ?_)
    · refine r_ic (b := 0) rfl (by decide) (by decide) ?_
      exact z_ret rfl (Or.inr ⟨rfl, Or.inl rfl⟩) (by simp only [f_129, h2, h17, cond_true, cond_false])
    · refine r_ld (t := 0) rfl (Or.inl ⟨rfl, Or.inl rfl⟩) rfl rfl ?_
      refine r_ld (t := 0) rfl (Or.inl ⟨rfl, Or.inl rfl⟩) rfl rfl ?_
      refine g_cmp (q := 0) (by decide) rfl (fun h22 => ?_) (fun h22 => ?_)
      · refine r_ic (b := 0) rfl (by decide) (by decide) ?_
        exact z_ret rfl (Or.inr ⟨rfl, Or.inl rfl⟩) (by simp only [f_129, h2, h17, h22, cond_true, cond_false])
      · refine r_ld (t := 0) rfl (Or.inl ⟨rfl, Or.inl rfl⟩) rfl rfl ?_
        refine r_ic (b := (-1)) rfl (by decide) (by decide) ?_
        refine g_cmp (q := 0) (by decide) rfl (fun h27 => ?_) (fun h27 => ?_)
        · refine r_ld (t := 0) rfl (Or.inl ⟨rfl, Or.inl rfl⟩) rfl rfl ?_
          refine r_ic (b := (-1)) rfl (by decide) (by decide) ?_
          refine g_cmp (q := 0) (by decide) rfl (fun h40 => ?_) (fun h40 => ?_)
          · refine r_ic (b := 1) rfl (by decide) (by decide) ?_
            refine g_go rfl ?_
            exact z_ret rfl (Or.inr ⟨rfl, Or.inr rfl⟩) (by simp only [f_129, h2, h17, h22, h27, h40, cond_true, cond_false])
          · refine r_ld (t := 2) rfl (Or.inr (Or.inl ⟨rfl, Or.inl rfl⟩)) rfl rfl ?_
            refine r_ld (t := 0) rfl (Or.inl ⟨rfl, Or.inl rfl⟩) rfl rfl ?_
            refine g_obj (as := [.int y]) (u := some (.int (f_122 A B y))) rfl (by decide) rfl (by decide) (by omega) (zst_obj rfl) (t_122 hn hw (by omega)) ?_
            refine g_br (q := 0) (by decide) rfl (fun h48 => ?_) (fun h48 => ?_)
            · refine r_ic (b := 0) rfl (by decide) (by decide) ?_
              exact z_ret rfl (Or.inr ⟨rfl, Or.inl rfl⟩) (by simp only [f_129, h2, h17, h22, h27, h40, h48, cond_true, cond_false])
            · refine r_ic (b := 1) rfl (by decide) (by decide) ?_
              refine g_go rfl ?_
              exact z_ret rfl (Or.inr ⟨rfl, Or.inr rfl⟩) (by simp only [f_129, h2, h17, h22, h27, h40, h48, cond_true, cond_false])
        · refine r_ld (t := 2) rfl (Or.inr (Or.inl ⟨rfl, Or.inl rfl⟩)) rfl rfl ?_
          refine r_ld (t := 0) rfl (Or.inl ⟨rfl, Or.inl rfl⟩) rfl rfl ?_
          refine g_obj (as := [.int k]) (u := some (.int (f_123 A B k))) rfl (by decide) rfl (by decide) (by omega) (zst_obj rfl) (t_123 hn hw (by omega)) ?_
          refine g_br (q := 0) (by decide) rfl (fun h35 => ?_) (fun h35 => ?_)
          · refine r_ic (b := 0) rfl (by decide) (by decide) ?_
            exact z_ret rfl (Or.inr ⟨rfl, Or.inl rfl⟩) (by simp only [f_129, h2, h17, h22, h27, h35, cond_true, cond_false])
          · refine r_ld (t := 0) rfl (Or.inl ⟨rfl, Or.inl rfl⟩) rfl rfl ?_
            refine r_ic (b := (-1)) rfl (by decide) (by decide) ?_
            refine g_cmp (q := 0) (by decide) rfl (fun h40 => ?_) (fun h40 => ?_)
            · refine r_ic (b := 1) rfl (by decide) (by decide) ?_
              refine g_go rfl ?_
              exact z_ret rfl (Or.inr ⟨rfl, Or.inr rfl⟩) (by simp only [f_129, h2, h17, h22, h27, h35, h40, cond_true, cond_false])
            · refine r_ld (t := 2) rfl (Or.inr (Or.inl ⟨rfl, Or.inl rfl⟩)) rfl rfl ?_
              refine r_ld (t := 0) rfl (Or.inl ⟨rfl, Or.inl rfl⟩) rfl rfl ?_
              refine g_obj (as := [.int y]) (u := some (.int (f_122 A B y))) rfl (by decide) rfl (by decide) (by omega) (zst_obj rfl) (t_122 hn hw (by omega)) ?_
              refine g_br (q := 0) (by decide) rfl (fun h48 => ?_) (fun h48 => ?_)
              · refine r_ic (b := 0) rfl (by decide) (by decide) ?_
                exact z_ret rfl (Or.inr ⟨rfl, Or.inl rfl⟩) (by simp only [f_129, h2, h17, h22, h27, h35, h40, h48, cond_true, cond_false])
              · refine r_ic (b := 1) rfl (by decide) (by decide) ?_
                refine g_go rfl ?_
                exact z_ret rfl (Or.inr ⟨rfl, Or.inr rfl⟩) (by simp only [f_129, h2, h17, h22, h27, h35, h40, h48, cond_true, cond_false])
  · refine r_ld (t := 0) rfl (Or.inl ⟨rfl, Or.inl rfl⟩) rfl rfl ?_
    refine r_ic (b := (-1)) rfl (by decide) (by decide) ?_
    refine g_cmp (q := 1) (by decide) rfl (fun h7 => ?_) (fun h7 => ?_)
    · refine r_ld (t := 2) rfl (Or.inr (Or.inl ⟨rfl, Or.inl rfl⟩)) rfl rfl ?_
      refine r_ld (t := 0) rfl (Or.inl ⟨rfl, Or.inl rfl⟩) rfl rfl ?_
      refine g_obj (as := [.int x]) (u := some (.int (f_123 A B x))) rfl (by decide) rfl (by decide) (by omega) (zst_obj rfl) (t_123 hn hw (by omega)) ?_
      refine g_br (q := 0) (by decide) rfl (fun h17 => ?_) (fun h17 => ?_)
      · refine r_ic (b := 0) rfl (by decide) (by decide) ?_
        exact z_ret rfl (Or.inr ⟨rfl, Or.inl rfl⟩) (by simp only [f_129, h2, h7, h17, cond_true, cond_false])
      · refine r_ld (t := 0) rfl (Or.inl ⟨rfl, Or.inl rfl⟩) rfl rfl ?_
        refine r_ld (t := 0) rfl (Or.inl ⟨rfl, Or.inl rfl⟩) rfl rfl ?_
        refine g_cmp (q := 0) (by decide) rfl (fun h22 => ?_) (fun h22 => ?_)
        · refine r_ic (b := 0) rfl (by decide) (by decide) ?_
          exact z_ret rfl (Or.inr ⟨rfl, Or.inl rfl⟩) (by simp only [f_129, h2, h7, h17, h22, cond_true, cond_false])
        · refine r_ld (t := 0) rfl (Or.inl ⟨rfl, Or.inl rfl⟩) rfl rfl ?_
          refine r_ic (b := (-1)) rfl (by decide) (by decide) ?_
          refine g_cmp (q := 0) (by decide) rfl (fun h27 => ?_) (fun h27 => ?_)
          · refine r_ld (t := 0) rfl (Or.inl ⟨rfl, Or.inl rfl⟩) rfl rfl ?_
            refine r_ic (b := (-1)) rfl (by decide) (by decide) ?_
            refine g_cmp (q := 0) (by decide) rfl (fun h40 => ?_) (fun h40 => ?_)
            · refine r_ic (b := 1) rfl (by decide) (by decide) ?_
              refine g_go rfl ?_
              exact z_ret rfl (Or.inr ⟨rfl, Or.inr rfl⟩) (by simp only [f_129, h2, h7, h17, h22, h27, h40, cond_true, cond_false])
            · refine r_ld (t := 2) rfl (Or.inr (Or.inl ⟨rfl, Or.inl rfl⟩)) rfl rfl ?_
              refine r_ld (t := 0) rfl (Or.inl ⟨rfl, Or.inl rfl⟩) rfl rfl ?_
              refine g_obj (as := [.int y]) (u := some (.int (f_122 A B y))) rfl (by decide) rfl (by decide) (by omega) (zst_obj rfl) (t_122 hn hw (by omega)) ?_
              refine g_br (q := 0) (by decide) rfl (fun h48 => ?_) (fun h48 => ?_)
              · refine r_ic (b := 0) rfl (by decide) (by decide) ?_
                exact z_ret rfl (Or.inr ⟨rfl, Or.inl rfl⟩) (by simp only [f_129, h2, h7, h17, h22, h27, h40, h48, cond_true, cond_false])
              · refine r_ic (b := 1) rfl (by decide) (by decide) ?_
                refine g_go rfl ?_
                exact z_ret rfl (Or.inr ⟨rfl, Or.inr rfl⟩) (by simp only [f_129, h2, h7, h17, h22, h27, h40, h48, cond_true, cond_false])
          · refine r_ld (t := 2) rfl (Or.inr (Or.inl ⟨rfl, Or.inl rfl⟩)) rfl rfl ?_
            refine r_ld (t := 0) rfl (Or.inl ⟨rfl, Or.inl rfl⟩) rfl rfl ?_
            refine g_obj (as := [.int k]) (u := some (.int (f_123 A B k))) rfl (by decide) rfl (by decide) (by omega) (zst_obj rfl) (t_123 hn hw (by omega)) ?_
            refine g_br (q := 0) (by decide) rfl (fun h35 => ?_) (fun h35 => ?_)
            · refine r_ic (b := 0) rfl (by decide) (by decide) ?_
              exact z_ret rfl (Or.inr ⟨rfl, Or.inl rfl⟩) (by simp only [f_129, h2, h7, h17, h22, h27, h35, cond_true, cond_false])
            · refine r_ld (t := 0) rfl (Or.inl ⟨rfl, Or.inl rfl⟩) rfl rfl ?_
              refine r_ic (b := (-1)) rfl (by decide) (by decide) ?_
              refine g_cmp (q := 0) (by decide) rfl (fun h40 => ?_) (fun h40 => ?_)
              · refine r_ic (b := 1) rfl (by decide) (by decide) ?_
                refine g_go rfl ?_
                exact z_ret rfl (Or.inr ⟨rfl, Or.inr rfl⟩) (by simp only [f_129, h2, h7, h17, h22, h27, h35, h40, cond_true, cond_false])
              · refine r_ld (t := 2) rfl (Or.inr (Or.inl ⟨rfl, Or.inl rfl⟩)) rfl rfl ?_
                refine r_ld (t := 0) rfl (Or.inl ⟨rfl, Or.inl rfl⟩) rfl rfl ?_
                refine g_obj (as := [.int y]) (u := some (.int (f_122 A B y))) rfl (by decide) rfl (by decide) (by omega) (zst_obj rfl) (t_122 hn hw (by omega)) ?_
                refine g_br (q := 0) (by decide) rfl (fun h48 => ?_) (fun h48 => ?_)
                · refine r_ic (b := 0) rfl (by decide) (by decide) ?_
                  exact z_ret rfl (Or.inr ⟨rfl, Or.inl rfl⟩) (by simp only [f_129, h2, h7, h17, h22, h27, h35, h40, h48, cond_true, cond_false])
                · refine r_ic (b := 1) rfl (by decide) (by decide) ?_
                  refine g_go rfl ?_
                  exact z_ret rfl (Or.inr ⟨rfl, Or.inr rfl⟩) (by simp only [f_129, h2, h7, h17, h22, h27, h35, h40, h48, cond_true, cond_false])
    · refine r_ic (b := 0) rfl (by decide) (by decide) ?_
      exact z_ret rfl (Or.inr ⟨rfl, Or.inl rfl⟩) (by simp only [f_129, h2, h7, cond_true, cond_false])
/-- UnwindTower$Program.isUsing(III)Z -/
def f_130 (A : Nat → List Int32) (B : Nat → Nat → Int32) (k : Int32) (x : Int32) (y : Int32) : Int32 := (cond (zrel 1 k (-1)) (cond (zrel 0 (f_123 A B x) 0) 0 (cond (zrel 0 k (-1)) (cond (zrel 0 y (-1)) 1 (cond (zrel 0 (f_119 A B y) 0) 0 1)) (cond (zrel 0 (f_119 A B k) 0) 0 (cond (zrel 0 y (-1)) 1 (cond (zrel 0 (f_119 A B y) 0) 0 1))))) (cond (zrel 1 y (-1)) (cond (zrel 0 (f_123 A B x) 0) 0 (cond (zrel 0 k (-1)) (cond (zrel 0 y (-1)) 1 (cond (zrel 0 (f_119 A B y) 0) 0 1)) (cond (zrel 0 (f_119 A B k) 0) 0 (cond (zrel 0 y (-1)) 1 (cond (zrel 0 (f_119 A B y) 0) 0 1))))) 0))
theorem b_130 {A : Nat → List Int32} {B : Nat → Nat → Int32} {k : Int32} {x : Int32} {y : Int32} : f_130 A B k x y = 0 ∨ f_130 A B k x y = 1 := (zb_cond (zb_cond (Or.inl rfl) (zb_cond (zb_cond (Or.inr rfl) (zb_cond (Or.inl rfl) (Or.inr rfl))) (zb_cond (Or.inl rfl) (zb_cond (Or.inr rfl) (zb_cond (Or.inl rfl) (Or.inr rfl)))))) (zb_cond (zb_cond (Or.inl rfl) (zb_cond (zb_cond (Or.inr rfl) (zb_cond (Or.inl rfl) (Or.inr rfl))) (zb_cond (Or.inl rfl) (zb_cond (Or.inr rfl) (zb_cond (Or.inl rfl) (Or.inr rfl)))))) (Or.inl rfl)))
theorem t_130 {sc : List Int32} {n dd : Nat} {A : Nat → List Int32} {B : Nat → Nat → Int32} {P : Nat → Int64} {R : Nat → Nat} {T : Nat → zO} {k : Int32} {x : Int32} {y : Int32} (hn : 416 ≤ n) (hw : zWL A) (hd : 4 ≤ dd) : zP sc n dd 130 [.ref 1, .int k, .int x, .int y] (zst A B P R T) (some (.int (f_130 A B k x y))) (zst A B P R T) := by
  obtain ⟨dd, rfl⟩ : ∃ e, dd = e + 1 := ⟨dd - 1, by omega⟩
  refine g_meth (C := zg_c130) (W := zg_w130) (ml := 4) rfl rfl (Nat.le_of_ble_eq_true rfl) ?_
  refine r_ld (t := 0) rfl (Or.inl ⟨rfl, Or.inl rfl⟩) rfl rfl ?_
  refine r_ic (b := (-1)) rfl (by decide) (by decide) ?_
  refine g_cmp (q := 1) (by decide) rfl (fun h2 => ?_) (fun h2 => ?_)
  · refine r_ld (t := 2) rfl (Or.inr (Or.inl ⟨rfl, Or.inl rfl⟩)) rfl rfl ?_
    refine r_ld (t := 0) rfl (Or.inl ⟨rfl, Or.inl rfl⟩) rfl rfl ?_
    refine g_obj (as := [.int x]) (u := some (.int (f_123 A B x))) rfl (by decide) rfl (by decide) (by omega) (zst_obj rfl) (t_123 hn hw (by omega)) ?_
    refine g_br (q := 0) (by decide) rfl (fun h17 => ?_) (fun h17 => ?_)
    · refine r_ic (b := 0) rfl (by decide) (by decide) ?_
      exact z_ret rfl (Or.inr ⟨rfl, Or.inl rfl⟩) (by simp only [f_130, h2, h17, cond_true, cond_false])
    · refine r_ld (t := 0) rfl (Or.inl ⟨rfl, Or.inl rfl⟩) rfl rfl ?_
      refine r_ic (b := (-1)) rfl (by decide) (by decide) ?_
      refine g_cmp (q := 0) (by decide) rfl (fun h22 => ?_) (fun h22 => ?_)
      · refine r_ld (t := 0) rfl (Or.inl ⟨rfl, Or.inl rfl⟩) rfl rfl ?_
        refine r_ic (b := (-1)) rfl (by decide) (by decide) ?_
        refine g_cmp (q := 0) (by decide) rfl (fun h35 => ?_) (fun h35 => ?_)
        · refine r_ic (b := 1) rfl (by decide) (by decide) ?_
          refine g_go rfl ?_
          exact z_ret rfl (Or.inr ⟨rfl, Or.inr rfl⟩) (by simp only [f_130, h2, h17, h22, h35, cond_true, cond_false])
        · refine r_ld (t := 2) rfl (Or.inr (Or.inl ⟨rfl, Or.inl rfl⟩)) rfl rfl ?_
          refine r_ld (t := 0) rfl (Or.inl ⟨rfl, Or.inl rfl⟩) rfl rfl ?_
          refine g_obj (as := [.int y]) (u := some (.int (f_119 A B y))) rfl (by decide) rfl (by decide) (by omega) (zst_obj rfl) (t_119 hn hw (by omega)) ?_
          refine g_br (q := 0) (by decide) rfl (fun h43 => ?_) (fun h43 => ?_)
          · refine r_ic (b := 0) rfl (by decide) (by decide) ?_
            exact z_ret rfl (Or.inr ⟨rfl, Or.inl rfl⟩) (by simp only [f_130, h2, h17, h22, h35, h43, cond_true, cond_false])
          · refine r_ic (b := 1) rfl (by decide) (by decide) ?_
            refine g_go rfl ?_
            exact z_ret rfl (Or.inr ⟨rfl, Or.inr rfl⟩) (by simp only [f_130, h2, h17, h22, h35, h43, cond_true, cond_false])
      · refine r_ld (t := 2) rfl (Or.inr (Or.inl ⟨rfl, Or.inl rfl⟩)) rfl rfl ?_
        refine r_ld (t := 0) rfl (Or.inl ⟨rfl, Or.inl rfl⟩) rfl rfl ?_
        refine g_obj (as := [.int k]) (u := some (.int (f_119 A B k))) rfl (by decide) rfl (by decide) (by omega) (zst_obj rfl) (t_119 hn hw (by omega)) ?_
        refine g_br (q := 0) (by decide) rfl (fun h30 => ?_) (fun h30 => ?_)
        · refine r_ic (b := 0) rfl (by decide) (by decide) ?_
          exact z_ret rfl (Or.inr ⟨rfl, Or.inl rfl⟩) (by simp only [f_130, h2, h17, h22, h30, cond_true, cond_false])
        · refine r_ld (t := 0) rfl (Or.inl ⟨rfl, Or.inl rfl⟩) rfl rfl ?_
          refine r_ic (b := (-1)) rfl (by decide) (by decide) ?_
          refine g_cmp (q := 0) (by decide) rfl (fun h35 => ?_) (fun h35 => ?_)
          · refine r_ic (b := 1) rfl (by decide) (by decide) ?_
            refine g_go rfl ?_
            exact z_ret rfl (Or.inr ⟨rfl, Or.inr rfl⟩) (by simp only [f_130, h2, h17, h22, h30, h35, cond_true, cond_false])
          · refine r_ld (t := 2) rfl (Or.inr (Or.inl ⟨rfl, Or.inl rfl⟩)) rfl rfl ?_
            refine r_ld (t := 0) rfl (Or.inl ⟨rfl, Or.inl rfl⟩) rfl rfl ?_
            refine g_obj (as := [.int y]) (u := some (.int (f_119 A B y))) rfl (by decide) rfl (by decide) (by omega) (zst_obj rfl) (t_119 hn hw (by omega)) ?_
            refine g_br (q := 0) (by decide) rfl (fun h43 => ?_) (fun h43 => ?_)
            · refine r_ic (b := 0) rfl (by decide) (by decide) ?_
              exact z_ret rfl (Or.inr ⟨rfl, Or.inl rfl⟩) (by simp only [f_130, h2, h17, h22, h30, h35, h43, cond_true, cond_false])
            · refine r_ic (b := 1) rfl (by decide) (by decide) ?_
              refine g_go rfl ?_
              exact z_ret rfl (Or.inr ⟨rfl, Or.inr rfl⟩) (by simp only [f_130, h2, h17, h22, h30, h35, h43, cond_true, cond_false])
  · refine r_ld (t := 0) rfl (Or.inl ⟨rfl, Or.inl rfl⟩) rfl rfl ?_
    refine r_ic (b := (-1)) rfl (by decide) (by decide) ?_
    refine g_cmp (q := 1) (by decide) rfl (fun h7 => ?_) (fun h7 => ?_)
    · refine r_ld (t := 2) rfl (Or.inr (Or.inl ⟨rfl, Or.inl rfl⟩)) rfl rfl ?_
      refine r_ld (t := 0) rfl (Or.inl ⟨rfl, Or.inl rfl⟩) rfl rfl ?_
      refine g_obj (as := [.int x]) (u := some (.int (f_123 A B x))) rfl (by decide) rfl (by decide) (by omega) (zst_obj rfl) (t_123 hn hw (by omega)) ?_
      refine g_br (q := 0) (by decide) rfl (fun h17 => ?_) (fun h17 => ?_)
      · refine r_ic (b := 0) rfl (by decide) (by decide) ?_
        exact z_ret rfl (Or.inr ⟨rfl, Or.inl rfl⟩) (by simp only [f_130, h2, h7, h17, cond_true, cond_false])
      · refine r_ld (t := 0) rfl (Or.inl ⟨rfl, Or.inl rfl⟩) rfl rfl ?_
        refine r_ic (b := (-1)) rfl (by decide) (by decide) ?_
        refine g_cmp (q := 0) (by decide) rfl (fun h22 => ?_) (fun h22 => ?_)
        · refine r_ld (t := 0) rfl (Or.inl ⟨rfl, Or.inl rfl⟩) rfl rfl ?_
          refine r_ic (b := (-1)) rfl (by decide) (by decide) ?_
          refine g_cmp (q := 0) (by decide) rfl (fun h35 => ?_) (fun h35 => ?_)
          · refine r_ic (b := 1) rfl (by decide) (by decide) ?_
            refine g_go rfl ?_
            exact z_ret rfl (Or.inr ⟨rfl, Or.inr rfl⟩) (by simp only [f_130, h2, h7, h17, h22, h35, cond_true, cond_false])
          · refine r_ld (t := 2) rfl (Or.inr (Or.inl ⟨rfl, Or.inl rfl⟩)) rfl rfl ?_
            refine r_ld (t := 0) rfl (Or.inl ⟨rfl, Or.inl rfl⟩) rfl rfl ?_
            refine g_obj (as := [.int y]) (u := some (.int (f_119 A B y))) rfl (by decide) rfl (by decide) (by omega) (zst_obj rfl) (t_119 hn hw (by omega)) ?_
            refine g_br (q := 0) (by decide) rfl (fun h43 => ?_) (fun h43 => ?_)
            · refine r_ic (b := 0) rfl (by decide) (by decide) ?_
              exact z_ret rfl (Or.inr ⟨rfl, Or.inl rfl⟩) (by simp only [f_130, h2, h7, h17, h22, h35, h43, cond_true, cond_false])
            · refine r_ic (b := 1) rfl (by decide) (by decide) ?_
              refine g_go rfl ?_
              exact z_ret rfl (Or.inr ⟨rfl, Or.inr rfl⟩) (by simp only [f_130, h2, h7, h17, h22, h35, h43, cond_true, cond_false])
        · refine r_ld (t := 2) rfl (Or.inr (Or.inl ⟨rfl, Or.inl rfl⟩)) rfl rfl ?_
          refine r_ld (t := 0) rfl (Or.inl ⟨rfl, Or.inl rfl⟩) rfl rfl ?_
          refine g_obj (as := [.int k]) (u := some (.int (f_119 A B k))) rfl (by decide) rfl (by decide) (by omega) (zst_obj rfl) (t_119 hn hw (by omega)) ?_
          refine g_br (q := 0) (by decide) rfl (fun h30 => ?_) (fun h30 => ?_)
          · refine r_ic (b := 0) rfl (by decide) (by decide) ?_
            exact z_ret rfl (Or.inr ⟨rfl, Or.inl rfl⟩) (by simp only [f_130, h2, h7, h17, h22, h30, cond_true, cond_false])
          · refine r_ld (t := 0) rfl (Or.inl ⟨rfl, Or.inl rfl⟩) rfl rfl ?_
            refine r_ic (b := (-1)) rfl (by decide) (by decide) ?_
            refine g_cmp (q := 0) (by decide) rfl (fun h35 => ?_) (fun h35 => ?_)
            · refine r_ic (b := 1) rfl (by decide) (by decide) ?_
              refine g_go rfl ?_
              exact z_ret rfl (Or.inr ⟨rfl, Or.inr rfl⟩) (by simp only [f_130, h2, h7, h17, h22, h30, h35, cond_true, cond_false])
            · refine r_ld (t := 2) rfl (Or.inr (Or.inl ⟨rfl, Or.inl rfl⟩)) rfl rfl ?_
              refine r_ld (t := 0) rfl (Or.inl ⟨rfl, Or.inl rfl⟩) rfl rfl ?_
              refine g_obj (as := [.int y]) (u := some (.int (f_119 A B y))) rfl (by decide) rfl (by decide) (by omega) (zst_obj rfl) (t_119 hn hw (by omega)) ?_
              refine g_br (q := 0) (by decide) rfl (fun h43 => ?_) (fun h43 => ?_)
              · refine r_ic (b := 0) rfl (by decide) (by decide) ?_
                exact z_ret rfl (Or.inr ⟨rfl, Or.inl rfl⟩) (by simp only [f_130, h2, h7, h17, h22, h30, h35, h43, cond_true, cond_false])
              · refine r_ic (b := 1) rfl (by decide) (by decide) ?_
                refine g_go rfl ?_
                exact z_ret rfl (Or.inr ⟨rfl, Or.inr rfl⟩) (by simp only [f_130, h2, h7, h17, h22, h30, h35, h43, cond_true, cond_false])
    · refine r_ic (b := 0) rfl (by decide) (by decide) ?_
      exact z_ret rfl (Or.inr ⟨rfl, Or.inl rfl⟩) (by simp only [f_130, h2, h7, cond_true, cond_false])
