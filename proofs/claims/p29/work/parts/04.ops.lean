/-! one instruction -/
section ZS
variable {own : String} {ini : Bool} {d : Nat} {sc : List Int32} {nL : Nat}
theorem zs_iconst {v : Int32} {z : Int} (hz : Int32.ofInt z = v) : zs_ok own ini d sc nL (zo_push (.int v)) (.iconst z) 1 := by
  intro p l e R s m args below meth c Q cc A E D W0 C pc hd L S h nc ns t h1 h2 hf kk ls stk H locs hR
  obtain ⟨hx, hb, -⟩ := C
  obtain ⟨ws, tys, lv, r1, r2, r3, r4⟩ := hR
  cases hf
  exact lv_iconst hx hb hd hz (kk _ _ _ _ ⟨ws, tys, lv, r1, r2, ⟨rfl, r3⟩, r4⟩)
theorem zs_bipush {v : Int32} {z : Int} (hz : (Int8.ofInt z).toInt32 = v) : zs_ok own ini d sc nL (zo_push (.int v)) (.bipush z) 2 := by
  intro p l e R s m args below meth c Q cc A E D W0 C pc hd L S h nc ns t h1 h2 hf kk ls stk H locs hR
  obtain ⟨hx, hb, -⟩ := C
  obtain ⟨ws, tys, lv, r1, r2, r3, r4⟩ := hR
  cases hf
  exact lv_bipush hx hb hd hz (kk _ _ _ _ ⟨ws, tys, lv, r1, r2, ⟨rfl, r3⟩, r4⟩)
theorem zs_sipush {v : Int32} {z : Int} (hz : (Int16.ofInt z).toInt32 = v) : zs_ok own ini d sc nL (zo_push (.int v)) (.sipush z) 3 := by
  intro p l e R s m args below meth c Q cc A E D W0 C pc hd L S h nc ns t h1 h2 hf kk ls stk H locs hR
  obtain ⟨hx, hb, -⟩ := C
  obtain ⟨ws, tys, lv, r1, r2, r3, r4⟩ := hR
  cases hf
  exact lv_sipush hx hb hd hz (kk _ _ _ _ ⟨ws, tys, lv, r1, r2, ⟨rfl, r3⟩, r4⟩)
theorem zs_ldc {v : Int32} {idx : Nat} (hw : Cond.constant own idx v ∈ zw_B) : zs_ok own ini d sc nL (zo_push (.int v)) (.ldc idx) 2 := by
  intro p l e R s m args below meth c Q cc A E D W0 C pc hd L S h nc ns t h1 h2 hf kk ls stk H locs hR
  obtain ⟨hx, hb, -, hown, hts, -⟩ := C
  obtain ⟨ws, tys, lv, r1, r2, r3, r4⟩ := hR
  cases hf
  exact lv_ldc hx hb hown (hts _ hw) hd (kk _ _ _ _ ⟨ws, tys, lv, r1, r2, ⟨rfl, r3⟩, r4⟩)
theorem zs_ldc2 {v : Int64} {idx : Nat} (hw : Cond.constantLong own idx v ∈ zw_B) : zs_ok own ini d sc nL (zo_push (.long v)) (.ldc2_w idx) 3 := by
  intro p l e R s m args below meth c Q cc A E D W0 C pc hd L S h nc ns t h1 h2 hf kk ls stk H locs hR
  obtain ⟨hx, hb, -, hown, hts, -⟩ := C
  obtain ⟨ws, tys, lv, r1, r2, r3, r4⟩ := hR
  cases hf
  exact lv_ldc2 hx hb hown (hts _ hw) hd (kk _ _ _ _ ⟨ws, tys, lv, r1, r2, ⟨rfl, r3⟩, r4⟩)
theorem zs_null : zs_ok own ini d sc nL (zo_push .null) (.aconst_null) 1 := by
  intro p l e R s m args below meth c Q cc A E D W0 C pc hd L S h nc ns t h1 h2 hf kk ls stk H locs hR
  obtain ⟨hx, hb, -⟩ := C
  obtain ⟨ws, tys, lv, r1, r2, r3, r4⟩ := hR
  cases hf
  exact lv_null hx hb hd (kk _ _ _ _ ⟨ws, tys, lv, r1, r2, ⟨rfl, r3⟩, r4⟩)
/-- what a local holds -/
theorem zr_loc {E : Nat} {ws : va_W} {ls : Array Slot} {nL i : Nat} {L : zL} {lv : List (Nat × Value)} {v : Value} (r1 : lv_has ls nL lv) (r2 : zm_L E ws L lv) (hj : L i = some v) : ∃ w, (i, w) ∈ lv ∧ ls[i]? = some (.val w) ∧ zm_V E ws v w := by
  obtain ⟨w, h1, h2⟩ := r2 i v hj
  exact ⟨w, h1, r1.2.2 (i, w) h1, h2⟩
theorem zs_ld {t i len : Nat} {ins : Instr} (hi : (t = 0 ∧ ((ins = .iload i ∧ len = 2) ∨ ∃ k : Fin 4, (k : Nat) = i ∧ ins = .iload_n k ∧ len = 1)) ∨ (t = 2 ∧ ((ins = .aload i ∧ len = 2) ∨ ∃ k : Fin 4, (k : Nat) = i ∧ ins = .aload_n k ∧ len = 1)) ∨ (t = 3 ∧ ((ins = .lload i ∧ len = 2) ∨ ∃ k : Fin 4, (k : Nat) = i ∧ ins = .lload_n k ∧ len = 1))) :
    zs_ok own ini d sc nL (zo_ld t i) ins len := by
  intro p l e R s m args below meth c Q cc A E D W0 C pc hd L S h nc ns t9 h1 h2 hf kk ls stk H locs hR
  obtain ⟨hx, hb, -⟩ := C
  obtain ⟨ws, tys, lv, r1, r2, r3, r4⟩ := hR
  obtain ⟨v, hv, hf1⟩ := ze_m hf
  obtain ⟨hq, hf2⟩ := ze_b hf1
  cases hf2
  obtain ⟨w, -, hw, hm⟩ := zr_loc r1 r2 hv
  have kk' := kk ls _ _ _ ⟨ws, tys, lv, r1, r2, xf_2_c hm r3, r4⟩
  rcases zm_fit hq hm with ⟨rfl, x, rfl, rfl⟩ | ⟨rfl, -⟩ | ⟨rfl, x, rfl⟩ | ⟨rfl, x, rfl, rfl⟩
  · rcases hi with ⟨-, hi⟩ | ⟨h0, -⟩ | ⟨h0, -⟩
    · rcases hi with ⟨rfl, rfl⟩ | ⟨k, rfl, rfl, rfl⟩
      · exact lv_iload hx hb hd hw kk'
      · exact lv_iload_n hx hb hd rfl hw kk'
    · cases h0
    · cases h0
  · rcases hi with ⟨h0, -⟩ | ⟨h0, -⟩ | ⟨h0, -⟩ <;> cases h0
  · rcases hi with ⟨h0, -⟩ | ⟨-, hi⟩ | ⟨h0, -⟩
    · cases h0
    · rcases hi with ⟨rfl, rfl⟩ | ⟨k, rfl, rfl, rfl⟩
      · cases x with
        | none => exact lv_aloadN hx hb hd hw kk'
        | some a => exact lv_aload hx hb hd hw kk'
      · cases x with
        | none => exact lv_aload_nN hx hb hd rfl hw kk'
        | some a => exact lv_aload_n hx hb hd rfl hw kk'
    · cases h0
  · rcases hi with ⟨h0, -⟩ | ⟨h0, -⟩ | ⟨-, hi⟩
    · cases h0
    · cases h0
    · rcases hi with ⟨rfl, rfl⟩ | ⟨k, rfl, rfl, rfl⟩
      · exact lv_lload hx hb hd hw kk'
      · exact lv_lload_n hx hb hd rfl hw kk'
theorem zs_st {t i len : Nat} {ins : Instr} (hn : i < nL) (hi : (t = 0 ∧ ((ins = .istore i ∧ len = 2) ∨ ∃ k : Fin 4, (k : Nat) = i ∧ ins = .istore_n k ∧ len = 1)) ∨ (t = 2 ∧ ((ins = .astore i ∧ len = 2) ∨ ∃ k : Fin 4, (k : Nat) = i ∧ ins = .astore_n k ∧ len = 1))) :
    zs_ok own ini d sc nL (zo_st t i) ins len := by
  intro p l e R s m args below meth c Q cc A E D W0 C pc hd L S h nc ns t9 h1 h2 hf kk ls stk H locs hR
  obtain ⟨hx, hb, -⟩ := C
  obtain ⟨ws, tys, lv, r1, r2, r3, r4⟩ := hR
  obtain ⟨v, S', rfl, hc, hf1⟩ := ze_v hf
  obtain ⟨hq, hf2⟩ := ze_b hf1
  cases hf2
  obtain ⟨w, st', rfl, hm, r30⟩ := xf_2_cons r3
  have kk' := fun ls1 q1 => kk ls1 _ _ _ ⟨ws, tys, _, q1, zm_L_set r2 hm, r30, r4⟩
  rcases zm_fit hq hm with ⟨rfl, x, rfl, rfl⟩ | ⟨rfl, -⟩ | ⟨rfl, x, rfl⟩ | ⟨rfl, x, rfl, rfl⟩
  · rcases hi with ⟨-, hi⟩ | ⟨h0, -⟩
    · rcases hi with ⟨rfl, rfl⟩ | ⟨k, rfl, rfl, rfl⟩
      · exact lv_istore hx hb hd r1 hn rfl kk'
      · exact lv_istore_n hx hb hd rfl r1 hn rfl kk'
    · cases h0
  · rcases hi with ⟨h0, -⟩ | ⟨h0, -⟩ <;> cases h0
  · rcases hi with ⟨h0, -⟩ | ⟨-, hi⟩
    · cases h0
    · rcases hi with ⟨rfl, rfl⟩ | ⟨k, rfl, rfl, rfl⟩
      · cases x with
        | none => exact lv_astoreN hx hb hd r1 hn rfl kk'
        | some a => exact lv_astore hx hb hd r1 hn rfl kk'
      · cases x with
        | none => exact lv_astore_nN hx hb hd rfl r1 hn rfl kk'
        | some a => exact lv_astore_n hx hb hd rfl r1 hn rfl kk'
  · cases hc
theorem zs_lst {i len : Nat} {ins : Instr} (hn : i + 1 < nL) (hi : (ins = .lstore i ∧ len = 2) ∨ ∃ k : Fin 4, (k : Nat) = i ∧ ins = .lstore_n k ∧ len = 1) : zs_ok own ini d sc nL (zo_lst i) ins len := by
  intro p l e R s m args below meth c Q cc A E D W0 C pc hd L S h nc ns t9 h1 h2 hf kk ls stk H locs hR
  obtain ⟨hx, hb, -⟩ := C
  obtain ⟨ws, tys, lv, r1, r2, r3, r4⟩ := hR
  obtain ⟨x, S', rfl, hf2⟩ := ze_l hf
  cases hf2
  obtain ⟨w, st', rfl, hm, r30⟩ := xf_2_cons r3
  cases hm
  have kk' := fun ls1 q1 => kk ls1 _ _ _ ⟨ws, tys, _, q1, zm_L_set2 r2 (v := .long x) (w := .long x) rfl, r30, r4⟩
  rcases hi with ⟨rfl, rfl⟩ | ⟨k, rfl, rfl, rfl⟩
  · exact lv_lstore hx hb hd r1 hn rfl kk'
  · exact lv_lstore_n hx hb hd rfl r1 hn rfl kk'
theorem zs_inc {i : Nat} {z : Int} {v : Int32} (hn : i < nL) (hz : Int32.ofInt z = v) : zs_ok own ini d sc nL (zo_inc i v) (.iinc i z) 3 := by
  intro p l e R s m args below meth c Q cc A E D W0 C pc hd L S h nc ns t9 h1 h2 hf kk ls stk H locs hR
  obtain ⟨hx, hb, -⟩ := C
  obtain ⟨ws, tys, lv, r1, r2, r3, r4⟩ := hR
  unfold zo_inc at hf
  split at hf
  · rename_i x hv
    cases hf
    obtain ⟨w, hmem, hw, hm⟩ := zr_loc r1 r2 hv
    cases hm
    obtain ⟨k, hk⟩ := List.mem_iff_getElem?.mp hmem
    exact lv_iinc hx hb hd r1 hk (by rw [hz]) hn rfl (fun ls1 q1 => kk ls1 _ _ _ ⟨ws, tys, _, q1, zm_L_set r2 (v := .int (x + v)) (w := .int (x + v)) rfl, r3, r4⟩)
  · cases hf
theorem zs_bin {f : Int32 → Int32 → Int32} {ins : Instr} (hi : (ins = .iadd ∧ f = (· + ·)) ∨ (ins = .isub ∧ f = (· - ·)) ∨ (ins = .imul ∧ f = (· * ·)) ∨ (ins = .iand ∧ f = (· &&& ·)) ∨ (ins = .ior ∧ f = (· ||| ·)) ∨ (ins = .ixor ∧ f = (· ^^^ ·)) ∨ (ins = .ishl ∧ f = zshl) ∨ (ins = .ishr ∧ f = zshr)) : zs_ok own ini d sc nL (zo_bin f) ins 1 := by
  intro p l e R s m args below meth c Q cc A E D W0 C pc hd L S h nc ns t9 h1 h2 hf kk ls stk H locs hR
  obtain ⟨hx, hb, -⟩ := C
  obtain ⟨ws, tys, lv, r1, r2, r3, r4⟩ := hR
  obtain ⟨y, S1, rfl, hf1⟩ := ze_i hf
  obtain ⟨x, S2, rfl, hf2⟩ := ze_i hf1
  cases hf2
  obtain ⟨w0, st0, rfl, m0, r30⟩ := xf_2_cons r3
  obtain ⟨w1, st1, rfl, m1, r31⟩ := xf_2_cons r30
  cases m0; cases m1
  have kk' := kk ls _ _ _ ⟨ws, tys, lv, r1, r2, xf_2_c (a := .int (f x y)) (b := .int (f x y)) rfl r31, r4⟩
  rcases hi with ⟨rfl, rfl⟩ | ⟨rfl, rfl⟩ | ⟨rfl, rfl⟩ | ⟨rfl, rfl⟩ | ⟨rfl, rfl⟩ | ⟨rfl, rfl⟩ | ⟨rfl, rfl⟩ | ⟨rfl, rfl⟩
  · exact lv_iadd hx hb hd kk'
  · exact lv_isub hx hb hd kk'
  · exact lv_imul hx hb hd kk'
  · exact lv_iand hx hb hd kk'
  · exact lv_ior hx hb hd kk'
  · exact lv_ixor hx hb hd kk'
  · exact lv_ishl hx hb hd kk'
  · exact lv_ishr hx hb hd kk'
theorem zs_div {f : Int32 → Int32 → Int32} {ins : Instr} (hi : (ins = .idiv ∧ f = (· / ·)) ∨ (ins = .irem ∧ f = zrem)) : zs_ok own ini d sc nL (zo_div f) ins 1 := by
  intro p l e R s m args below meth c Q cc A E D W0 C pc hd L S h nc ns t9 h1 h2 hf kk ls stk H locs hR
  obtain ⟨hx, hb, -⟩ := C
  obtain ⟨ws, tys, lv, r1, r2, r3, r4⟩ := hR
  obtain ⟨y, S1, rfl, hf1⟩ := ze_i hf
  obtain ⟨x, S2, rfl, hf2⟩ := ze_i hf1
  obtain ⟨hy, hf3⟩ := ze_b hf2
  cases hf3
  have hy : ¬ y = 0 := by simpa using hy
  obtain ⟨w0, st0, rfl, m0, r30⟩ := xf_2_cons r3
  obtain ⟨w1, st1, rfl, m1, r31⟩ := xf_2_cons r30
  cases m0; cases m1
  have kk' := kk ls _ _ _ ⟨ws, tys, lv, r1, r2, xf_2_c (a := .int (f x y)) (b := .int (f x y)) rfl r31, r4⟩
  rcases hi with ⟨rfl, rfl⟩ | ⟨rfl, rfl⟩
  · exact lv_idiv hx hb hd hy kk'
  · exact lv_irem hx hb hd hy kk'
theorem zs_i2l : zs_ok own ini d sc nL zo_i2l (.i2l) 1 := by
  intro p l e R s m args below meth c Q cc A E D W0 C pc hd L S h nc ns t9 h1 h2 hf kk ls stk H locs hR
  obtain ⟨hx, hb, -⟩ := C
  obtain ⟨ws, tys, lv, r1, r2, r3, r4⟩ := hR
  obtain ⟨x, S1, rfl, hf1⟩ := ze_i hf
  cases hf1
  obtain ⟨w0, st0, rfl, m0, r30⟩ := xf_2_cons r3
  cases m0
  exact lv_i2l hx hb hd rfl (kk ls _ _ _ ⟨ws, tys, lv, r1, r2, xf_2_c (a := .long x.toInt64) (b := .long x.toInt64) rfl r30, r4⟩)
theorem zs_lbin {f : Int64 → Int64 → Int64} {ins : Instr} (hi : (ins = .ladd ∧ f = (· + ·)) ∨ (ins = .lmul ∧ f = (· * ·))) : zs_ok own ini d sc nL (zo_lbin f) ins 1 := by
  intro p l e R s m args below meth c Q cc A E D W0 C pc hd L S h nc ns t9 h1 h2 hf kk ls stk H locs hR
  obtain ⟨hx, hb, -⟩ := C
  obtain ⟨ws, tys, lv, r1, r2, r3, r4⟩ := hR
  obtain ⟨y, S1, rfl, hf1⟩ := ze_l hf
  obtain ⟨x, S2, rfl, hf2⟩ := ze_l hf1
  cases hf2
  obtain ⟨w0, st0, rfl, m0, r30⟩ := xf_2_cons r3
  obtain ⟨w1, st1, rfl, m1, r31⟩ := xf_2_cons r30
  cases m0; cases m1
  have kk' := kk ls _ _ _ ⟨ws, tys, lv, r1, r2, xf_2_c (a := .long (f x y)) (b := .long (f x y)) rfl r31, r4⟩
  rcases hi with ⟨rfl, rfl⟩ | ⟨rfl, rfl⟩
  · exact lv_ladd hx hb hd kk'
  · exact lv_lmul hx hb hd kk'
theorem zs_lcmp : zs_ok own ini d sc nL zo_lcmp (.lcmp) 1 := by
  intro p l e R s m args below meth c Q cc A E D W0 C pc hd L S h nc ns t9 h1 h2 hf kk ls stk H locs hR
  obtain ⟨hx, hb, -⟩ := C
  obtain ⟨ws, tys, lv, r1, r2, r3, r4⟩ := hR
  obtain ⟨y, S1, rfl, hf1⟩ := ze_l hf
  obtain ⟨x, S2, rfl, hf2⟩ := ze_l hf1
  cases hf2
  obtain ⟨w0, st0, rfl, m0, r30⟩ := xf_2_cons r3
  obtain ⟨w1, st1, rfl, m1, r31⟩ := xf_2_cons r30
  cases m0; cases m1
  exact W.lcmp hx hb hd (kk ls _ _ _ ⟨ws, tys, lv, r1, r2, xf_2_c (a := .int (lg_cmp x y)) (b := .int (lg_cmp x y)) rfl r31, r4⟩)
theorem zs_dup : zs_ok own ini d sc nL zo_dup (.dup) 1 := by
  intro p l e R s m args below meth c Q cc A E D W0 C pc hd L S h nc ns t9 h1 h2 hf kk ls stk H locs hR
  obtain ⟨hx, hb, -⟩ := C
  obtain ⟨ws, tys, lv, r1, r2, r3, r4⟩ := hR
  obtain ⟨v, S1, rfl, hc, hf1⟩ := ze_v hf
  cases hf1
  obtain ⟨w0, st0, rfl, m0, r30⟩ := xf_2_cons r3
  exact lv_dup hx hb hd ((zm_cat m0).trans hc) (kk ls _ _ _ ⟨ws, tys, lv, r1, r2, xf_2_c m0 (xf_2_c m0 r30), r4⟩)
theorem zs_dup2 : zs_ok own ini d sc nL zo_dup2 (.dup2) 1 := by
  intro p l e R s m args below meth c Q cc A E D W0 C pc hd L S h nc ns t9 h1 h2 hf kk ls stk H locs hR
  obtain ⟨hx, hb, -⟩ := C
  obtain ⟨ws, tys, lv, r1, r2, r3, r4⟩ := hR
  obtain ⟨v, S1, rfl, hc, hf1⟩ := ze_v hf
  obtain ⟨u, S2, rfl, hc2, hf2⟩ := ze_v hf1
  cases hf2
  obtain ⟨w0, st0, rfl, m0, r30⟩ := xf_2_cons r3
  obtain ⟨w1, st1, rfl, m1, r31⟩ := xf_2_cons r30
  exact lv_dup2_11 hx hb hd ((zm_cat m0).trans hc) ((zm_cat m1).trans hc2) (kk ls _ _ _ ⟨ws, tys, lv, r1, r2, xf_2_c m0 (xf_2_c m1 (xf_2_c m0 (xf_2_c m1 r31))), r4⟩)
theorem zs_pop : zs_ok own ini d sc nL zo_pop (.pop) 1 := by
  intro p l e R s m args below meth c Q cc A E D W0 C pc hd L S h nc ns t9 h1 h2 hf kk ls stk H locs hR
  obtain ⟨hx, hb, -⟩ := C
  obtain ⟨ws, tys, lv, r1, r2, r3, r4⟩ := hR
  obtain ⟨v, S1, rfl, hc, hf1⟩ := ze_v hf
  cases hf1
  obtain ⟨w0, st0, rfl, m0, r30⟩ := xf_2_cons r3
  exact lv_pop hx hb hd ((zm_cat m0).trans hc) (kk ls _ _ _ ⟨ws, tys, lv, r1, r2, r30, r4⟩)
theorem zs_lconst {k : Fin 2} {v : Int64} (hk : Int64.ofNat (k : Nat) = v) : zs_ok own ini d sc nL (zo_push (.long v)) (.lconst k) 1 := by
  intro p l e R s m args below meth c Q cc A E D W0 C pc hd L S h nc ns t h1 h2 hf kk ls stk H locs hR
  obtain ⟨hx, hb, -⟩ := C
  obtain ⟨ws, tys, lv, r1, r2, r3, r4⟩ := hR
  cases hf
  exact lv_lconst hx hb hd hk (kk ls _ _ _ ⟨ws, tys, lv, r1, r2, ⟨rfl, r3⟩, r4⟩)
end ZS
