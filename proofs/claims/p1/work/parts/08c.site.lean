/-! words by their places; what an instruction asks of the tables -/
theorem xw_in (i : Nat) {w : Cond} (h : lw_tbl[i]? = some w) (hg : (goodWord w || xw_nest w) = true) : w ∈ xw_B := List.mem_filter.mpr ⟨List.mem_of_getElem? h, hg⟩
theorem xw_p (ws : List Cond) (ps : List Nat) (hp : ws = ps.filterMap (fun i => lw_tbl[i]?)) (hg : ws.all (fun w => goodWord w || xw_nest w) = true) : ∀ w ∈ ws, w ∈ xw_B := by
  intro w hw
  have h1 := List.all_eq_true.mp hg w hw
  rw [hp] at hw
  obtain ⟨i, -, hi⟩ := List.mem_filterMap.mp hw
  exact xw_in i hi h1
/-- how a field begins -/
def xq_df (ty : FieldType) (v : xv_V) : Bool := match ty with
  | .long => and (Nat.beq v.1 3) (Nat.beq v.2.1 9223372036854775808)
  | .double => and (Nat.beq v.1 4) (Nat.beq v.2.1 0)
  | .object _ => Nat.beq v.1 2
  | .array _ => Nat.beq v.1 2
  | .float => false
  | _ => and (Nat.beq v.1 0) (and (Nat.beq v.2.1 2147483648) (Nat.beq v.2.2 2147483648))
def xq_dfs (ty : Nat → FieldType) (N x : Nat) : Bool := match xg_FD[x]? with
  | some fs => and (Nat.beq fs.length N) ((List.range N).all fun j => match fs[j]? with
    | some v => xq_df (ty j) v
    | none => false)
  | none => false
def xs_new (own : String) (w x : Nat) : Prop := ∃ (C : String) (T : u_T) (N : Nat) (ty : Nat → FieldType), vwCl[x]? = some (C, T, N) ∧ (∀ k, k < N → parseFieldDescriptor (T k).2.2.1 = some (ty k)) ∧ Cond.classLink own w C ∈ xw_B ∧ Cond.instantiable C N ∈ xw_B ∧ Cond.initialized C ∈ xw_B ∧ (∀ x ∈ u_ws C T N, x ∈ xw_B) ∧ xq_dfs ty N x = true
def xs_nwa (x : Nat) : Prop := (x = 0 ∧ Cond.arrayClass .int ∈ xw_B) ∨ (x = 5 ∧ Cond.arrayClass .long ∈ xw_B)
def xs_nwq (own : String) (w x : Nat) : Prop := 1 ≤ x ∧ x ≤ 4 ∧ ∃ C : String, xg_TY x = .object C ∧ Cond.classLink own w C ∈ xw_B ∧ Cond.arrayOver (.object C) ∈ xw_B
def xs_thr (own : String) (w x y z : Nat) : Prop := x < 3 ∧ Cond.classLink own w (xg_EX x) ∈ xw_B ∧ Cond.initialized (xg_EX x) ∈ xw_B ∧ (∃ tx : String, (own, y, tx) ∈ xg_ST) ∧ Cond.methodLink own z (Bundle.initS (xg_EX x)) ∈ xw_B
def xs_cl (k n : Nat) : Prop := xg_CW k ∈ xw_B ∧ Cond.initialized (xg_Y k).cls ∈ xw_B ∧ ((xg_Y k).cls ≠ "java/lang/invoke/MethodHandle" ∧ (xg_Y k).cls ≠ "java/lang/invoke/VarHandle") ∧ (parseMethodDescriptor (xg_Y k).desc).map (fun d => d.parameters.length) = some n ∧ xg_ML k ≤ 45
def xs_c96 (own : String) (w k n : Nat) : Prop := xs_cl k n ∧ Cond.methodLink own w (xg_Y k) ∈ xw_B ∧ Cond.static (xg_Y k) ∈ xw_B
def xs_c97 (own : String) (w k n : Nat) : Prop := xs_cl k n ∧ xg_WH k = false ∧ ∃ host : String, Cond.methodLinkNest own w (xg_Y k) host ∈ xw_B ∧ Cond.static (xg_Y k) ∈ xw_B
def xs_c98 (own : String) (w k n : Nat) : Prop := xs_cl k n ∧ xg_WH k = false ∧ xg_RT k = none ∧ (xg_Y k).name = "<init>" ∧ Cond.methodLink own w (xg_Y k) ∈ xw_B ∧ Cond.instanceMethod (xg_Y k) ∈ xw_B
def xs_c99 (own : String) (w k n : Nat) : Prop := xs_cl k n ∧ xg_WH k = false ∧ xg_RT k = none ∧ (xg_Y k).name = "<init>" ∧ ∃ host : String, Cond.methodLinkNest own w (xg_Y k) host ∈ xw_B ∧ Cond.instanceMethod (xg_Y k) ∈ xw_B
def xs_c100 (own : String) (w k n z : Nat) : Prop := xs_cl k n ∧ xg_WH k = false ∧ Cond.methodLink own w (xg_Y k) ∈ xw_B ∧ Cond.instanceMethod (xg_Y k) ∈ xw_B ∧ ∃ r : vw_C, vwCl[z]? = some r ∧ Cond.selects r.1 (xg_Y k) (xg_Y k) ∈ xw_B
def xs_c101 (own : String) (w k n z : Nat) : Prop := xg_CW k ∈ xw_B ∧ Cond.initialized (xg_Y k).cls ∈ xw_B ∧ xg_WH k = false ∧ xg_ML k ≤ 45 ∧ ∃ (x0 : MethodName) (r : vw_C), (x0.cls ≠ "java/lang/invoke/MethodHandle" ∧ x0.cls ≠ "java/lang/invoke/VarHandle") ∧ (parseMethodDescriptor x0.desc).map (fun d => d.parameters.length) = some n ∧ vwCl[z]? = some r ∧
  Cond.methodLink own w x0 ∈ xw_B ∧ Cond.declares x0 ∈ xw_B ∧ Cond.interfaceMethod x0.cls x0.cls x0.name x0.desc ∈ xw_B ∧ Cond.selects r.1 x0 (xg_Y k) ∈ xw_B ∧ Cond.instanceMethod (xg_Y k) ∈ xw_B ∧ Cond.publicMethod (xg_Y k) ∈ xw_B ∧ Cond.unhidden r.1 x0.name x0.desc ∈ xw_B ∧ Cond.castable r.1 x0.cls ∈ xw_B
def xi_site (own : String) (t : Nat × Nat × Nat × Nat × Nat) : Prop := match t with
  | (op, x, y, z, w) => match op with
    | 3 => ∃ v : Int64, xbl v = x ∧ Cond.constantLong own w v ∈ xw_B
    | 38 => xs_fget own w x y
    | 39 => xs_fgetN own w x y
    | 40 => xs_fput own false w x y z
    | 41 => xs_fput own true w x y z
    | 49 => xs_cst own w x y
    | 50 => xs_gst own w x
    | 51 => xs_obi own w
    | 52 => xs_mmx own w
    | 56 => xs_new own w x
    | 57 => xs_nwa x
    | 58 => xs_nwq own w x
    | 90 => xs_thr own w x y z
    | 91 => xs_thr own w x y z
    | 96 => xs_c96 own w x y
    | 97 => xs_c97 own w x y
    | 98 => xs_c98 own w x y
    | 99 => xs_c99 own w x y
    | 100 => xs_c100 own w x y z
    | 101 => xs_c101 own w x y z
    | _ => True
def xi_need (op : Nat) : Bool := or (Nat.beq op 3) (or (and (Nat.ble 38 op) (Nat.ble op 41)) (or (and (Nat.ble 49 op) (Nat.ble op 52)) (or (and (Nat.ble 56 op) (Nat.ble op 58)) (and (Nat.ble 90 op) (Nat.ble op 101)))))
/-- the words of a throw -/
def xt_nm : List String := ["java/lang/RuntimeException", "java/lang/Exception"]
def xt_pre (X : String) : List Cond := Bundle.throwableAtoms ++ Bundle.throwableSAtoms ++ Bundle.chainSAtoms X xt_nm
def xt_tail (X : String) : List Cond := (Bundle.ownAtoms "" 0 X xt_nm).drop ((xt_pre X).length + 1)
theorem xt_split (own : String) (ic : Nat) (X : String) : Bundle.ownAtoms own ic X xt_nm = xt_pre X ++ (.methodLink own ic (Bundle.initS X) :: xt_tail X) := rfl
def xw_mid : List Cond := (lw_tbl.drop 150).take 50 ++ (lw_tbl.drop 1140).take 130
def xt_chk (X : String) : Bool := ((xt_pre X ++ xt_tail X).filter vx_no).all fun w => xw_mid.any (fun v => decide (v = w)) && ((goodWord w || xw_nest w) && vx_ot w)
theorem xt_ok : ∀ x, x < 3 → xt_chk (xg_EX x) = true := by decide +kernel
theorem xt_all {own : String} {ic x : Nat} (hx : x < 3) (hl : Cond.methodLink own ic (Bundle.initS (xg_EX x)) ∈ xw_B) : ∀ w ∈ vx_atS own ic (xg_EX x) xt_nm, w ∈ xw_B ∧ vx_ot w = true := by
  intro w hw
  obtain ⟨h1, h2⟩ := List.mem_filter.mp hw
  rw [xt_split] at h1
  have h3 : w = .methodLink own ic (Bundle.initS (xg_EX x)) ∨ w ∈ xt_pre (xg_EX x) ++ xt_tail (xg_EX x) := by
    rcases List.mem_append.mp h1 with h | h
    · exact Or.inr (List.mem_append_left _ h)
    · rcases List.mem_cons.mp h with h | h
      · exact Or.inl h
      · exact Or.inr (List.mem_append_right _ h)
  rcases h3 with rfl | h3
  · exact ⟨hl, rfl⟩
  · have h4 := List.all_eq_true.mp (xt_ok x hx) w (List.mem_filter.mpr ⟨h3, h2⟩)
    obtain ⟨h5, h6⟩ := xe_and (a := xw_mid.any (fun v => decide (v = w))) (b := ((goodWord w || xw_nest w) && vx_ot w)) h4
    obtain ⟨h7, h8⟩ := xe_and (a := (goodWord w || xw_nest w)) (b := vx_ot w) h6
    obtain ⟨v, hv, he⟩ := List.any_eq_true.mp h5
    have he := of_decide_eq_true he
    subst he
    refine ⟨List.mem_filter.mpr ⟨?_, h7⟩, h8⟩
    rcases List.mem_append.mp hv with hv | hv <;> exact List.mem_of_mem_drop (List.mem_of_mem_take hv)
