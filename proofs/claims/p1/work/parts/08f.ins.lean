/-! the instruction of a row, what a row has to keep, the step of one row -/
def xe_pc (is : List xv_I) : Nat := match is with
  | [] => 0
  | i :: _ => i.1
def xe_off (code : List xv_I) (pc t : Nat) : Int := (xe_pc (code.drop t) : Int) - (pc : Int)
def xe_ins (code : List xv_I) (sw : List (List Nat)) (i : xv_I) : Instr := match i with
  | (pc, _, op, x, y, _, w) => match op with
    | 0 => .iconst ((x : Int) - 2147483648)
    | 1 => .bipush ((x : Int) - 2147483648)
    | 2 => .sipush ((x : Int) - 2147483648)
    | 3 => .ldc2_w w
    | 4 => .dconst 0
    | 5 => .aconst_null
    | 6 => .iload_n (Fin.ofNat 4 x)
    | 7 => .iload x
    | 8 => .aload_n (Fin.ofNat 4 x)
    | 9 => .aload x
    | 10 => .lload_n (Fin.ofNat 4 x)
    | 11 => .lload x
    | 12 => .nop
    | 13 => .dload x
    | 14 => .istore_n (Fin.ofNat 4 x)
    | 15 => .istore x
    | 16 => .astore_n (Fin.ofNat 4 x)
    | 17 => .astore x
    | 18 => .lstore_n (Fin.ofNat 4 x)
    | 19 => .lstore x
    | 20 => .dstore_n (Fin.ofNat 4 x)
    | 21 => .dstore x
    | 22 => .iinc x ((y : Int) - 2147483648)
    | 23 => .iadd
    | 24 => .isub
    | 25 => .imul
    | 26 => .iand
    | 27 => .ior
    | 28 => .ishl
    | 29 => .i2l
    | 30 => .ladd
    | 31 => .lmul
    | 32 => .lcmp
    | 33 => .dcmp .l
    | 34 => .dup
    | 35 => .dup2
    | 36 => .dup_x1
    | 37 => .pop
    | 38 => .getfield w
    | 39 => .getfield w
    | 40 => .putfield w
    | 41 => .putfield w
    | 42 => .iaload
    | 43 => .iastore
    | 44 => .laload
    | 45 => .lastore
    | 46 => .aaload
    | 47 => .aastore
    | 48 => .arraylength
    | 49 => .checkcast w
    | 50 => .getstatic w
    | 51 => .invokespecial w
    | 52 => .invokestatic w
    | 56 => .new w
    | 57 => .newarray (cond (Nat.beq x 0) .int .long)
    | 58 => .anewarray w
    | 64 => xe_if 0 (xe_off code pc x)
    | 65 => xe_if 1 (xe_off code pc x)
    | 66 => xe_if 2 (xe_off code pc x)
    | 67 => xe_if 3 (xe_off code pc x)
    | 68 => xe_if 4 (xe_off code pc x)
    | 69 => xe_if 5 (xe_off code pc x)
    | 70 => xe_ic 0 (xe_off code pc x)
    | 71 => xe_ic 1 (xe_off code pc x)
    | 72 => xe_ic 2 (xe_off code pc x)
    | 73 => xe_ic 3 (xe_off code pc x)
    | 74 => xe_ic 4 (xe_off code pc x)
    | 75 => xe_ic 5 (xe_off code pc x)
    | 76 => .if_acmp (cond true .eq .ne) (xe_off code pc x)
    | 77 => .if_acmp (cond false .eq .ne) (xe_off code pc x)
    | 78 => cond true (.ifnull (xe_off code pc x)) (.ifnonnull (xe_off code pc x))
    | 79 => cond false (.ifnull (xe_off code pc x)) (.ifnonnull (xe_off code pc x))
    | 80 => .goto (xe_off code pc x)
    | 81 => .tableswitch (xe_off code pc ((sw.getD x []).getD 1 0)) (((sw.getD x []).getD 0 0 : Nat) - 2147483648) (((sw.getD x []).getD 0 0 : Nat) - 2147483648 + (((sw.getD x []).length - 2 : Nat) : Int) - 1) (((sw.getD x []).drop 2).map fun t => xe_off code pc t).toArray
    | 84 => .return_
    | 85 => .ireturn
    | 86 => .areturn
    | 87 => .lreturn
    | 88 => .dreturn
    | 90 => .new w
    | 91 => .new w
    | 96 => .invokestatic w
    | 97 => .invokestatic w
    | 98 => .invokespecial w
    | 99 => .invokespecial w
    | 100 => .invokevirtual w
    | 101 => .invokeinterface w 1
    | _ => .nop
def xe_len (op : Nat) : Nat := match op with
  | 1 => 2
  | 2 => 3
  | 3 => 3
  | 7 => 2
  | 9 => 2
  | 11 => 2
  | 13 => 2
  | 15 => 2
  | 17 => 2
  | 19 => 2
  | 21 => 2
  | 22 => 3
  | 38 => 3
  | 39 => 3
  | 40 => 3
  | 41 => 3
  | 49 => 3
  | 50 => 3
  | 51 => 3
  | 52 => 3
  | 56 => 3
  | 57 => 2
  | 58 => 3
  | 64 => 3
  | 65 => 3
  | 66 => 3
  | 67 => 3
  | 68 => 3
  | 69 => 3
  | 70 => 3
  | 71 => 3
  | 72 => 3
  | 73 => 3
  | 74 => 3
  | 75 => 3
  | 76 => 3
  | 77 => 3
  | 78 => 3
  | 79 => 3
  | 80 => 3
  | 90 => 3
  | 91 => 3
  | 96 => 3
  | 97 => 3
  | 98 => 3
  | 99 => 3
  | 100 => 3
  | 101 => 5
  | _ => 1
def xe_cnd0 (nL : Nat) (ini : Bool) (sw : List (List Nat)) (op x y : Nat) : Bool := match op with
  | 0 => Nat.ble (x + 1) 4294967296
  | 1 => decide (xb (Int8.ofInt ((x : Int) - 2147483648)).toInt32 = x)
  | 2 => decide (xb (Int16.ofInt ((x : Int) - 2147483648)).toInt32 = x)
  | 6 => Nat.ble (x + 1) 4
  | 8 => Nat.ble (x + 1) 4
  | 10 => Nat.ble (x + 1) 4
  | 12 => false
  | 14 => and (Nat.ble (x + 1) 4) (Nat.ble (x + 1) nL)
  | 15 => Nat.ble (x + 1) nL
  | 16 => and (Nat.ble (x + 1) 4) (Nat.ble (x + 1) nL)
  | 17 => Nat.ble (x + 1) nL
  | 18 => and (Nat.ble (x + 1) 4) (Nat.ble (x + 2) nL)
  | 19 => Nat.ble (x + 2) nL
  | 20 => and (Nat.ble (x + 1) 4) (Nat.ble (x + 2) nL)
  | 21 => Nat.ble (x + 2) nL
  | 22 => and (Nat.ble (x + 1) nL) (decide (xb (Int32.ofInt ((y : Int) - 2147483648)) = y))
  | 41 => ini
  | 81 => and (Nat.ble (x + 1) sw.length) (Nat.ble 1 (sw.getD x []).length)
  | _ => true
def xe_far : List Nat := [56, 57, 58, 64, 65, 66, 67, 68, 69, 70, 71, 72, 73, 74, 75, 76, 77, 78, 79, 80, 81, 84, 85, 86, 87, 88, 90, 91, 96, 97, 98, 99, 100, 101]
def xe_cnd (nL : Nat) (ini : Bool) (sw : List (List Nat)) (i : xv_I) : Bool := and (or (Nat.beq i.2.2.1 81) (Nat.beq i.2.1 (xe_len i.2.2.1))) (and (xe_cnd0 nL ini sw i.2.2.1 i.2.2.2.1 i.2.2.2.2.1) (or (Nat.ble i.2.2.1 52) (decide (i.2.2.1 ∈ xe_far))))
theorem xe_opsOf {nL : Nat} {ini : Bool} {sw : List (List Nat)} {pc ln op x y z w : Nat} (h : xe_cnd nL ini sw (pc, ln, op, x, y, z, w) = true) (h52 : 52 < op) : op ∈ xe_far := by
  obtain ⟨-, h1⟩ := xe_and (a := or (Nat.beq op 81) (Nat.beq ln (xe_len op))) (b := and (xe_cnd0 nL ini sw op x y) (or (Nat.ble op 52) (decide (op ∈ xe_far)))) h
  obtain ⟨-, h2⟩ := xe_and (a := xe_cnd0 nL ini sw op x y) (b := or (Nat.ble op 52) (decide (op ∈ xe_far))) h1
  rcases xe_or h2 with h3 | h3
  · exact absurd (xe_ble h3) (by omega)
  · exact of_decide_eq_true h3
theorem xe_lnOf {nL : Nat} {ini : Bool} {sw : List (List Nat)} {pc ln op x y z w : Nat} (h : xe_cnd nL ini sw (pc, ln, op, x, y, z, w) = true) (h81 : Nat.beq op 81 = false) : ln = xe_len op := by
  obtain ⟨h1, -⟩ := xe_and (a := or (Nat.beq op 81) (Nat.beq ln (xe_len op))) (b := and (xe_cnd0 nL ini sw op x y) (or (Nat.ble op 52) (decide (op ∈ xe_far)))) h
  rcases xe_or h1 with h2 | h2
  · rw [h81] at h2; cases h2
  · exact xe_beq h2
theorem xi_step {own : String} {ini : Bool} {d : Nat} {sc : List xv_V} {nL : Nat} {code : List xv_I} {sw : List (List Nat)} {pc ln op x y z w : Nat} (h52 : op ≤ 52) (hc : xe_cnd nL ini sw (pc, ln, op, x, y, z, w) = true) (hs : xi_need op = true → xi_site own (op, x, y, z, w)) : xs_ok own ini d sc nL (xs d op x y z sc) (xe_ins code sw (pc, ln, op, x, y, z, w)) ln := by
  have hln := xe_lnOf hc (by cases hh : Nat.beq op 81 with
    | false => rfl
    | true => exact absurd (xe_beq hh) (by omega))
  subst hln
  obtain ⟨-, hq⟩ := xe_and (a := or (Nat.beq op 81) (Nat.beq (xe_len op) (xe_len op))) (b := and (xe_cnd0 nL ini sw op x y) (or (Nat.ble op 52) (decide (op ∈ xe_far)))) hc
  obtain ⟨hq, -⟩ := xe_and (a := xe_cnd0 nL ini sw op x y) (b := or (Nat.ble op 52) (decide (op ∈ xe_far))) hq
  clear hc
  match op, h52, hq, hs with
  | 0, _, hq, hs => exact xs_iconst rfl (xe_ble hq)
  | 1, _, hq, hs => exact xs_bipush (of_decide_eq_true hq)
  | 2, _, hq, hs => exact xs_sipush (of_decide_eq_true hq)
  | 3, _, hq, hs => obtain ⟨v, h1, h2⟩ := hs rfl; exact xs_ldc2 h1 h2
  | 4, _, hq, hs => exact xs_dconst
  | 5, _, hq, hs => exact xs_null
  | 6, _, hq, hs => obtain ⟨k, rfl⟩ : ∃ k : Fin 4, x = k := ⟨⟨x, xe_ble hq⟩, rfl⟩; have hk : Fin.ofNat 4 (k : Nat) = k := Fin.ext (Nat.mod_eq_of_lt k.isLt); show xs_ok own ini d sc nL (xo_iload k) (.iload_n (Fin.ofNat 4 k)) 1; rw [hk]; exact xs_iload_n
  | 7, _, hq, hs => exact xs_iload
  | 8, _, hq, hs => obtain ⟨k, rfl⟩ : ∃ k : Fin 4, x = k := ⟨⟨x, xe_ble hq⟩, rfl⟩; have hk : Fin.ofNat 4 (k : Nat) = k := Fin.ext (Nat.mod_eq_of_lt k.isLt); show xs_ok own ini d sc nL (xo_aload k) (.aload_n (Fin.ofNat 4 k)) 1; rw [hk]; exact xs_aload_n
  | 9, _, hq, hs => exact xs_aload
  | 10, _, hq, hs => obtain ⟨k, rfl⟩ : ∃ k : Fin 4, x = k := ⟨⟨x, xe_ble hq⟩, rfl⟩; have hk : Fin.ofNat 4 (k : Nat) = k := Fin.ext (Nat.mod_eq_of_lt k.isLt); show xs_ok own ini d sc nL (xo_lload k) (.lload_n (Fin.ofNat 4 k)) 1; rw [hk]; exact xs_lload_n
  | 11, _, hq, hs => exact xs_lload
  | 12, _, hq, hs => cases hq
  | 13, _, hq, hs => exact xs_dload
  | 14, _, hq, hs => obtain ⟨g1, g2⟩ := xe_and (a := Nat.ble (x + 1) 4) (b := Nat.ble (x + 1) nL) hq; obtain ⟨k, rfl⟩ : ∃ k : Fin 4, x = k := ⟨⟨x, xe_ble g1⟩, rfl⟩; have hk : Fin.ofNat 4 (k : Nat) = k := Fin.ext (Nat.mod_eq_of_lt k.isLt); show xs_ok own ini d sc nL (xo_istore k) (.istore_n (Fin.ofNat 4 k)) 1; rw [hk]; exact xs_istore_n (xe_ble g2)
  | 15, _, hq, hs => exact xs_istore (xe_ble hq)
  | 16, _, hq, hs => obtain ⟨g1, g2⟩ := xe_and (a := Nat.ble (x + 1) 4) (b := Nat.ble (x + 1) nL) hq; obtain ⟨k, rfl⟩ : ∃ k : Fin 4, x = k := ⟨⟨x, xe_ble g1⟩, rfl⟩; have hk : Fin.ofNat 4 (k : Nat) = k := Fin.ext (Nat.mod_eq_of_lt k.isLt); show xs_ok own ini d sc nL (xo_astore k) (.astore_n (Fin.ofNat 4 k)) 1; rw [hk]; exact xs_astore_n (xe_ble g2)
  | 17, _, hq, hs => exact xs_astore (xe_ble hq)
  | 18, _, hq, hs => obtain ⟨g1, g2⟩ := xe_and (a := Nat.ble (x + 1) 4) (b := Nat.ble (x + 2) nL) hq; obtain ⟨k, rfl⟩ : ∃ k : Fin 4, x = k := ⟨⟨x, xe_ble g1⟩, rfl⟩; have hk : Fin.ofNat 4 (k : Nat) = k := Fin.ext (Nat.mod_eq_of_lt k.isLt); show xs_ok own ini d sc nL (xo_lstore k) (.lstore_n (Fin.ofNat 4 k)) 1; rw [hk]; exact xs_lstore_n (xe_ble g2)
  | 19, _, hq, hs => exact xs_lstore (xe_ble hq)
  | 20, _, hq, hs => obtain ⟨g1, g2⟩ := xe_and (a := Nat.ble (x + 1) 4) (b := Nat.ble (x + 2) nL) hq; obtain ⟨k, rfl⟩ : ∃ k : Fin 4, x = k := ⟨⟨x, xe_ble g1⟩, rfl⟩; have hk : Fin.ofNat 4 (k : Nat) = k := Fin.ext (Nat.mod_eq_of_lt k.isLt); show xs_ok own ini d sc nL (xo_dstore k) (.dstore_n (Fin.ofNat 4 k)) 1; rw [hk]; exact xs_dstore_n (xe_ble g2)
  | 21, _, hq, hs => exact xs_dstore (xe_ble hq)
  | 22, _, hq, hs => obtain ⟨g1, g2⟩ := xe_and (a := Nat.ble (x + 1) nL) (b := decide (xb (Int32.ofInt ((y : Int) - 2147483648)) = y)) hq; exact xs_iinc (xe_ble g1) (of_decide_eq_true g2)
  | 23, _, hq, hs => exact xs_iadd
  | 24, _, hq, hs => exact xs_isub
  | 25, _, hq, hs => exact xs_imul
  | 26, _, hq, hs => exact xs_iand
  | 27, _, hq, hs => exact xs_ior
  | 28, _, hq, hs => exact xs_ishl
  | 29, _, hq, hs => exact xs_i2l
  | 30, _, hq, hs => exact xs_ladd
  | 31, _, hq, hs => exact xs_lmul
  | 32, _, hq, hs => exact xs_lcmp
  | 33, _, hq, hs => exact xs_dcmp
  | 34, _, hq, hs => exact xs_dup
  | 35, _, hq, hs => exact xs_dup2
  | 36, _, hq, hs => exact xs_dupx1
  | 37, _, hq, hs => exact xs_pop
  | 38, _, hq, hs => exact xs_getf (hs rfl)
  | 39, _, hq, hs => exact xs_getfN (hs rfl)
  | 40, _, hq, hs => exact xs_putf (hs rfl)
  | 41, _, hq, hs => exact xs_putfF hq (hs rfl)
  | 42, _, hq, hs => exact xs_iald
  | 43, _, hq, hs => exact xs_iast
  | 44, _, hq, hs => exact xs_lald
  | 45, _, hq, hs => exact xs_last
  | 46, _, hq, hs => exact xs_aald
  | 47, _, hq, hs => exact xs_aast xs_elsT
  | 48, _, hq, hs => exact xs_alen
  | 49, _, hq, hs => exact xs_cast (hs rfl)
  | 50, _, hq, hs => exact xs_gets (hs rfl)
  | 51, _, hq, hs => exact xs_oinit (hs rfl)
  | 52, _, hq, hs => exact xs_max (hs rfl)
  | n + 53, h, _, _ => omega
