/-! a row: its instruction, what it has to keep -/
def zins (code : List zI) (sw : List (List Nat)) (i : zI) : Instr := match i with
  | (pc, _, op, x, y, _, w) => match op with
    | 0 => .iconst ((x : Int) - 2147483648)
    | 1 => .bipush ((x : Int) - 2147483648)
    | 2 => .sipush ((x : Int) - 2147483648)
    | 3 => .ldc2_w w
    | 5 => .aconst_null
    | 6 => .iload_n (Fin.ofNat 4 x)
    | 7 => .iload x
    | 8 => .aload_n (Fin.ofNat 4 x)
    | 9 => .aload x
    | 10 => .lload_n (Fin.ofNat 4 x)
    | 11 => .lload x
    | 14 => .istore_n (Fin.ofNat 4 x)
    | 15 => .istore x
    | 16 => .astore_n (Fin.ofNat 4 x)
    | 17 => .astore x
    | 18 => .lstore_n (Fin.ofNat 4 x)
    | 19 => .lstore x
    | 22 => .iinc x ((y : Int) - 2147483648)
    | 23 => .iadd
    | 24 => .isub
    | 25 => .imul
    | 26 => .iand
    | 27 => .ior
    | 28 => .ishl
    | 29 => .i2l
    | 30 => .ladd
    | 31 => .lmul
    | 32 => .lcmp
    | 34 => .dup
    | 35 => .dup2
    | 37 => .pop
    | 38 => .getfield w
    | 40 => .putfield w
    | 41 => .putfield w
    | 42 => .iaload
    | 43 => .iastore
    | 46 => .aaload
    | 47 => .aastore
    | 48 => .arraylength
    | 51 => .invokespecial w
    | 56 => .new w
    | 57 => .newarray (cond (Nat.beq x 0) .int .boolean)
    | 58 => .anewarray w
    | 64 => ze_if 0 (zoff code pc x)
    | 65 => ze_if 1 (zoff code pc x)
    | 66 => ze_if 2 (zoff code pc x)
    | 67 => ze_if 3 (zoff code pc x)
    | 68 => ze_if 4 (zoff code pc x)
    | 69 => ze_if 5 (zoff code pc x)
    | 70 => ze_ic 0 (zoff code pc x)
    | 71 => ze_ic 1 (zoff code pc x)
    | 72 => ze_ic 2 (zoff code pc x)
    | 73 => ze_ic 3 (zoff code pc x)
    | 74 => ze_ic 4 (zoff code pc x)
    | 75 => ze_ic 5 (zoff code pc x)
    | 80 => .goto (zoff code pc x)
    | 81 => match sw[x]? with
      | some (lo :: df :: ts) => .tableswitch ((zpc code df : Int) - (pc : Int)) ((lo : Int) - 2147483648) ((lo : Int) - 2147483648 + (ts.length : Int) - 1) (ts.map fun t => (zpc code t : Int) - (pc : Int)).toArray
      | _ => .nop
    | 84 => .return_
    | 85 => .ireturn
    | 86 => .areturn
    | 87 => .lreturn
    | 96 => .invokestatic w
    | 97 => .invokestatic w
    | 98 => .invokespecial w
    | 99 => .invokespecial w
    | 100 => .invokevirtual w
    | 102 => .irem
    | 103 => .idiv
    | 104 => .ishr
    | 105 => .ixor
    | 106 => .lconst (Fin.ofNat 2 y)
    | 107 => .baload
    | 108 => .bastore
    | 109 => .invokestatic w
    | 110 => .invokestatic w
    | 111 => .ldc w
    | _ => .nop
/-- the length of a row's instruction, by its number (a switch's is its own) -/
def zlenOf (op : Nat) : Nat := match op with
  | 1 => 2
  | 2 => 3
  | 3 => 3
  | 7 => 2
  | 9 => 2
  | 11 => 2
  | 15 => 2
  | 17 => 2
  | 19 => 2
  | 22 => 3
  | 38 => 3
  | 40 => 3
  | 41 => 3
  | 51 => 3
  | 56 => 3
  | 57 => 2
  | 58 => 3
  | 96 => 3
  | 97 => 3
  | 98 => 3
  | 99 => 3
  | 100 => 3
  | 109 => 3
  | 110 => 3
  | 111 => 2
  | op => cond (and (Nat.ble 64 op) (Nat.ble op 80)) 3 1
/-- what a row has to keep beside that -/
def zcnd (nL : Nat) (ini : Bool) (sw : List (List Nat)) (i : zI) : Bool := match i with
  | (_, ln, op, x, y, z, _) => and (or (Nat.beq op 81) (Nat.beq ln (zlenOf op))) (match op with
    | 1 => decide ((Int8.ofInt ((x : Int) - 2147483648)).toInt32 = zc x)
    | 2 => decide ((Int16.ofInt ((x : Int) - 2147483648)).toInt32 = zc x)
    | 6 => Nat.ble x 3
    | 8 => Nat.ble x 3
    | 10 => Nat.ble x 3
    | 14 => and (Nat.ble x 3) (Nat.ble (x + 1) nL)
    | 15 => Nat.ble (x + 1) nL
    | 16 => and (Nat.ble x 3) (Nat.ble (x + 1) nL)
    | 17 => Nat.ble (x + 1) nL
    | 18 => and (Nat.ble x 3) (Nat.ble (x + 2) nL)
    | 19 => Nat.ble (x + 2) nL
    | 22 => Nat.ble (x + 1) nL
    | 41 => ini
    | 57 => or (Nat.beq x 0) (Nat.beq x 5)
    | 81 => match sw[x]? with
      | some (lo :: _ :: _) => Nat.ble lo 4294967295
      | _ => false
    | 106 => decide (Int64.ofNat ((Fin.ofNat 2 y : Fin 2) : Nat) = zcl x)
    | _ => and (Nat.ble z z) (Nat.ble y y))
def zs_cl (k n : Nat) : Prop := zg_CW k ∈ zw_B ∧ Cond.initialized (zg_Y k).cls ∈ zw_B ∧ ((zg_Y k).cls ≠ "java/lang/invoke/MethodHandle" ∧ (zg_Y k).cls ≠ "java/lang/invoke/VarHandle") ∧ (parseMethodDescriptor (zg_Y k).desc).map (fun d => d.parameters.length) = some n ∧ zg_ML k ≤ 45
def zs_c96 (own : String) (w k n : Nat) : Prop := zs_cl k n ∧ Cond.methodLink own w (zg_Y k) ∈ zw_B ∧ Cond.static (zg_Y k) ∈ zw_B
def zs_c97 (own : String) (w k n : Nat) : Prop := zs_cl k n ∧ ∃ host : String, Cond.methodLinkNest own w (zg_Y k) host ∈ zw_B ∧ Cond.static (zg_Y k) ∈ zw_B
def zs_c98 (own : String) (w k n : Nat) : Prop := zs_cl k n ∧ zg_RT k = none ∧ (zg_Y k).name = "<init>" ∧ Cond.methodLink own w (zg_Y k) ∈ zw_B ∧ Cond.instanceMethod (zg_Y k) ∈ zw_B
def zs_c99 (own : String) (w k n : Nat) : Prop := zs_cl k n ∧ zg_RT k = none ∧ (zg_Y k).name = "<init>" ∧ ∃ host : String, Cond.methodLinkNest own w (zg_Y k) host ∈ zw_B ∧ Cond.instanceMethod (zg_Y k) ∈ zw_B
def zs_c100 (own : String) (w k n z : Nat) : Prop := zs_cl k n ∧ Cond.methodLink own w (zg_Y k) ∈ zw_B ∧ Cond.instanceMethod (zg_Y k) ∈ zw_B ∧ ∃ r : vw_C, vwCl[z]? = some r ∧ Cond.selects r.1 (zg_Y k) (zg_Y k) ∈ zw_B
/-- what it asks of the tables -/
def zsite (own : String) (t : Nat × Nat × Nat × Nat × Nat) : Prop := match t with
  | (op, x, y, z, w) => match op with
    | 3 => Cond.constantLong own w (zcl x) ∈ zw_B
    | 38 => zs_fget own w x y
    | 40 => zs_fput own false w x y z
    | 41 => zs_fput own true w x y z
    | 47 => Cond.arrayOver (.array .int) ∈ zw_B
    | 51 => zs_obi own w
    | 56 => zs_new own w x
    | 57 => Cond.arrayClass (zTY x) ∈ zw_B
    | 58 => zs_newq own w x
    | 96 => zs_c96 own w x y
    | 97 => zs_c97 own w x y
    | 98 => zs_c98 own w x y
    | 99 => zs_c99 own w x y
    | 100 => zs_c100 own w x y z
    | 109 => zs_cpy own w
    | 110 => zs_mmn own w
    | 111 => Cond.constant own w (zc x) ∈ zw_B
    | _ => True
def zsimple (op : Nat) : Bool := [0, 1, 2, 3, 5, 6, 7, 8, 9, 10, 11, 14, 15, 16, 17, 18, 19, 22, 23, 24, 25, 26, 27, 28, 29, 30, 31, 32, 34, 35, 37, 38, 40, 41, 42, 43, 46, 47, 48, 51, 102, 103, 104, 105, 106, 107, 108, 109, 110, 111].contains op
section ZS
variable {own : String} {ini : Bool} {d : Nat} {sc : List Int32} {nL : Nat}
theorem z_fin {x : Nat} (h : Nat.ble x 3 = true) : ((Fin.ofNat 4 x : Fin 4) : Nat) = x := Nat.mod_eq_of_lt (by have := Nat.le_of_ble_eq_true h; omega)
theorem z_step {code : List zI} {sw : List (List Nat)} {pc ln op x y z w : Nat} (hop : zsimple op = true) (hc : zcnd nL ini sw (pc, ln, op, x, y, z, w) = true) (hs : zsite own (op, x, y, z, w)) : zs_ok own ini d sc nL (z1 sc d op x y z) (zins code sw (pc, ln, op, x, y, z, w)) ln := by
  obtain ⟨hl, hc⟩ := ze_and hc
  have hm := List.contains_iff_mem.mp hop
  have hln : op ≠ 81 → ln = zlenOf op := fun hn => by
    rcases ze_or hl with h | h
    · exact absurd (Nat.eq_of_beq_eq_true h) hn
    · exact Nat.eq_of_beq_eq_true h
  clear hl hop
  have hln := hln (by rintro rfl; exact absurd hm (by decide))
  simp only [List.mem_cons, List.not_mem_nil, or_false] at hm
  rcases hm with rfl | rfl | rfl | rfl | rfl | rfl | rfl | rfl | rfl | rfl | rfl | rfl | rfl | rfl | rfl | rfl | rfl | rfl | rfl | rfl | rfl | rfl | rfl | rfl | rfl | rfl | rfl | rfl | rfl | rfl | rfl | rfl | rfl | rfl | rfl | rfl | rfl | rfl | rfl | rfl | rfl | rfl | rfl | rfl | rfl | rfl | rfl | rfl | rfl | rfl <;> subst hln
  · exact zs_iconst rfl
  · exact zs_bipush (of_decide_eq_true hc)
  · exact zs_sipush (of_decide_eq_true hc)
  · exact zs_ldc2 hs
  · exact zs_null
  · exact zs_ld (Or.inl ⟨rfl, Or.inr ⟨_, z_fin hc, rfl, rfl⟩⟩)
  · exact zs_ld (Or.inl ⟨rfl, Or.inl ⟨rfl, rfl⟩⟩)
  · exact zs_ld (Or.inr (Or.inl ⟨rfl, Or.inr ⟨_, z_fin hc, rfl, rfl⟩⟩))
  · exact zs_ld (Or.inr (Or.inl ⟨rfl, Or.inl ⟨rfl, rfl⟩⟩))
  · exact zs_ld (Or.inr (Or.inr ⟨rfl, Or.inr ⟨_, z_fin hc, rfl, rfl⟩⟩))
  · exact zs_ld (Or.inr (Or.inr ⟨rfl, Or.inl ⟨rfl, rfl⟩⟩))
  · exact zs_st (Nat.le_of_ble_eq_true (ze_and hc).2) (Or.inl ⟨rfl, Or.inr ⟨_, z_fin (ze_and hc).1, rfl, rfl⟩⟩)
  · exact zs_st (Nat.le_of_ble_eq_true hc) (Or.inl ⟨rfl, Or.inl ⟨rfl, rfl⟩⟩)
  · exact zs_st (Nat.le_of_ble_eq_true (ze_and hc).2) (Or.inr ⟨rfl, Or.inr ⟨_, z_fin (ze_and hc).1, rfl, rfl⟩⟩)
  · exact zs_st (Nat.le_of_ble_eq_true hc) (Or.inr ⟨rfl, Or.inl ⟨rfl, rfl⟩⟩)
  · exact zs_lst (Nat.le_of_ble_eq_true (ze_and hc).2) (Or.inr ⟨_, z_fin (ze_and hc).1, rfl, rfl⟩)
  · exact zs_lst (Nat.le_of_ble_eq_true hc) (Or.inl ⟨rfl, rfl⟩)
  · exact zs_inc (Nat.le_of_ble_eq_true hc) rfl
  · exact zs_bin (Or.inl ⟨rfl, rfl⟩)
  · exact zs_bin (Or.inr (Or.inl ⟨rfl, rfl⟩))
  · exact zs_bin (Or.inr (Or.inr (Or.inl ⟨rfl, rfl⟩)))
  · exact zs_bin (Or.inr (Or.inr (Or.inr (Or.inl ⟨rfl, rfl⟩))))
  · exact zs_bin (Or.inr (Or.inr (Or.inr (Or.inr (Or.inl ⟨rfl, rfl⟩)))))
  · exact zs_bin (Or.inr (Or.inr (Or.inr (Or.inr (Or.inr (Or.inr (Or.inl ⟨rfl, rfl⟩)))))))
  · exact zs_i2l
  · exact zs_lbin (Or.inl ⟨rfl, rfl⟩)
  · exact zs_lbin (Or.inr ⟨rfl, rfl⟩)
  · exact zs_lcmp
  · exact zs_dup
  · exact zs_dup2
  · exact zs_pop
  · exact zs_get hs
  · exact zs_put (fin := false) (fun h => absurd h (by decide)) hs
  · exact zs_put (fin := true) (fun _ => hc) hs
  · exact zs_iald
  · exact zs_iast
  · exact zs_aald
  · exact zs_aast hs
  · exact zs_alen
  · exact zs_oini hs
  · exact zs_div (Or.inr ⟨rfl, rfl⟩)
  · exact zs_div (Or.inl ⟨rfl, rfl⟩)
  · exact zs_bin (Or.inr (Or.inr (Or.inr (Or.inr (Or.inr (Or.inr (Or.inr ⟨rfl, rfl⟩)))))))
  · exact zs_bin (Or.inr (Or.inr (Or.inr (Or.inr (Or.inr (Or.inl ⟨rfl, rfl⟩))))))
  · exact zs_lconst (k := Fin.ofNat 2 y) (v := zcl x) (of_decide_eq_true hc)
  · exact zs_zald
  · exact zs_zast
  · exact zs_copy hs
  · exact zs_min hs
  · exact zs_ldc hs
end ZS
