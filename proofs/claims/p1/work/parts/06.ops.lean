/-! one instruction: what the executor does is what the machine does -/
def xw_nest (w : Cond) : Bool := match w with
  | .fieldLinkNest _ _ _ _ _ _ => true
  | .methodLinkNest _ _ _ _ => true
  | .arrayOver (.object _) => true
  | w => w.onTables && w.keepsFace
theorem xw_face {w : Cond} {args a' : Array Value} {s U : State} (h0 : (w.onTables && w.keepsFace) = true) (hW : s.WarmedH U.vm) (h : w.before args s = true) : w.before a' U = true := by
  obtain ⟨h1, h2⟩ := xe_and (a := w.onTables) (b := w.keepsFace) h0
  have h3 : w.before args (s.setVm U.vm) = true := Cond.before_shiftedFace (State.Shifted.of_warmed hW) w h2 h
  have e := Cond.onTables_vm (A := args) (A' := a') (U := s) (U' := U) U.vm w h1
  have hU : U.setVm U.vm = U := rfl
  rw [hU] at e
  rw [← e]; exact h3
/-- the words that hold wherever the machine has gone on -/
abbrev xw_B : List Cond := lw_tbl.filter (fun w => goodWord w || xw_nest w)
theorem xw_warm {w : Cond} {args a' : Array Value} {s U : State} (hg : (goodWord w || xw_nest w) = true) (hW : s.WarmedH U.vm) (h : w.before args s = true) : w.before a' U = true := by
  rcases xe_or (a := goodWord w) (b := xw_nest w) hg with h1 | h1
  · exact word_at hW (good_of_word h1) h
  · cases w with
    | fieldLinkNest a b c d e f => exact va_Nw.use rfl (va_Nw.warmF hW (va_Nw.of rfl h))
    | methodLinkNest a b c d => exact va_Nw.use rfl (va_Nw.warmM hW (va_Nw.of rfl h))
    | arrayOver t =>
      cases t with
      | object C => exact va_AO.use (va_AO.moved hW.alike (va_AO.of h))
      | _ => exact xw_face h1 hW h
    | _ => exact xw_face h1 hW h
abbrev xf_steD : String := "[Ljava/lang/Object;"
/-- what is outside the worlds: statics, the script -/
def xf_E (A : Nat → Prop) (E : xm_E) (sc : List xv_V) (s : State) : Prop :=
  vx_Zq Bundle.tN "UNASSIGNED_STACK" Bundle.steD A s s.heap ∧ vx_Zq Bundle.tN "SUPPRESSED_SENTINEL" Bundle.listD A s s.heap ∧
  va_Z "java/util/ArrayList" "DEFAULTCAPACITY_EMPTY_ELEMENTDATA" xf_steD (.ref (E.1 0)) A s s.heap ∧ va_T (.object "java/lang/Object") (E.1 0) 0 (fun _ => .null) A s s.heap ∧
  (∃ (xs : Nat → Int32) (N : Nat), va_X E.2 N xs s s.heap ∧ E.2 < s.heap.size ∧ ¬ A E.2 ∧ (∀ q : xv_V, sc[0]? = some q → xm_V E [] q (.int (Int32.ofNat N))) ∧ ∀ (j : Nat) (q : xv_V), sc[j + 1]? = some q → j < N ∧ xm_V E [] q (.int (xs j)))
/-- a frame: the machine's side of it -/
def xf_C (p : Program) (R : Room) (s : State) (m : MethodId) (args : Array Value) (meth : Method) (c : Code) (cc : ByteArray) (nL : Nat) (own : String) (ini : Bool) (A : Nat → Prop) (E : xm_E) (d : Nat) (sc : List xv_V) : Prop :=
  p.tables.exec = Jvm.exec ∧ c.code = cc ∧ c.maxLocals = nL ∧ s.vm.findClass own = some m.cls ∧ (∀ w ∈ xw_B, w.before args s = true) ∧ (∀ q, s.heap.size ≤ q → A q) ∧ d ≤ R.frames ∧ 64 * d ≤ R.locals ∧ meth.locks = false ∧ (ini = true → meth.name = "<init>") ∧ xf_E A E sc s
/-- a state of a frame matches an abstract one -/
def xf_R (s : State) (nL : Nat) (A : Nat → Prop) (E : xm_E) (D : va_G) (W0 : va_W) (L : xv_L) (S : List xv_V) (h : List xv_O) (ls : Array Slot) (stk : List Value) (H : Heap) (locs : List Loc) : Prop :=
  ∃ (ws : va_W) (tys : xm_T) (lv : List (Nat × Value)), lv_has ls nL lv ∧ xf_2 (xm_L E ws) L lv ∧ xf_2 (xm_V E ws) S stk ∧ xf_2 (xm_O E ws tys) h ws ∧ va_K D vwCl tys s ∧ va_P D vwCl ws H ∧ va_D A ws ∧ va_S A s.heap H locs ∧ xm_le W0 ws
def xf_G (p : Program) (l : Launch) (e : Env) (R : Room) (s : State) (m : MethodId) (args : Array Value) (below : List Frame) (meth : Method) (c : Code) (Q : State → Prop) (nL : Nat) (A : Nat → Prop) (E : xm_E) (D : va_G) (W0 : va_W) (pc : Nat) (L : xv_L) (S : List xv_V) (h : List xv_O) (nc ns : Nat) : Prop :=
  ∀ (ls : Array Slot) (stk : List Value) (H : Heap) (locs : List Loc), xf_R s nL A E D W0 L S h ls stk H locs → W p l e R s m args below meth c H locs nc ns Q (F0 m pc ls stk)
def xs_ok (own : String) (ini : Bool) (d : Nat) (sc : List xv_V) (nL : Nat) (f : xv_L → List xv_V → List xv_O → xk_S → Option xv_R) (ins : Instr) (len : Nat) : Prop :=
  ∀ (p : Program) (l : Launch) (e : Env) (R : Room) (s : State) (m : MethodId) (args : Array Value) (below : List Frame) (meth : Method) (c : Code) (Q : State → Prop) (cc : ByteArray) (A : Nat → Prop) (E : xm_E) (D : va_G) (W0 : va_W), xf_C p R s m args meth c cc nL own ini A E d sc →
  ∀ (pc : Nat), decode cc pc = .ok (ins, len) → ∀ (L : xv_L) (S : List xv_V) (h : List xv_O) (nc ns : Nat) (k : xk_S) (r : xv_R), nc ≤ R.cells → ns ≤ R.slots → f L S h k = some r →
  (∀ (L' : xv_L) (S' : List xv_V) (h' : List xv_O), k L' S' h' = some r → xf_G p l e R s m args below meth c Q nL A E D W0 (pc + len) L' S' h' nc ns) → xf_G p l e R s m args below meth c Q nL A E D W0 pc L S h nc ns
section XS
variable {own : String} {ini : Bool} {d : Nat} {sc : List xv_V} {nL : Nat}
theorem xs_iconst {n : Nat} {z : Int} (hz : z = (n : Int) - 2147483648) (hn : n < 4294967296) : xs_ok own ini d sc nL (xo_push (xi n)) (.iconst z) 1 := by
  intro p l e R s m args below meth c Q cc A E D W0 C pc hd L S h nc ns k r h1 h2 hf kk ls stk H locs hR
  obtain ⟨hx, hb, -⟩ := C
  obtain ⟨ws, tys, lv, r1, r2, r3, r4⟩ := hR
  have hb2 := xb_ofInt hn
  rw [← hz] at hb2
  refine lv_iconst hx hb hd rfl (kk _ _ _ hf _ _ _ _ ⟨ws, tys, lv, r1, r2, ⟨Or.inl ⟨rfl, ?_, ?_⟩, r3⟩, r4⟩)
  · exact Nat.le_of_eq hb2.symm
  · exact Nat.le_of_eq hb2
theorem xs_bipush {n : Nat} {z : Int} (hz : xb (Int8.ofInt z).toInt32 = n) : xs_ok own ini d sc nL (xo_push (xi n)) (.bipush z) 2 := by
  intro p l e R s m args below meth c Q cc A E D W0 C pc hd L S h nc ns k r h1 h2 hf kk ls stk H locs hR
  obtain ⟨hx, hb, -⟩ := C
  obtain ⟨ws, tys, lv, r1, r2, r3, r4⟩ := hR
  refine lv_bipush hx hb hd rfl (kk _ _ _ hf _ _ _ _ ⟨ws, tys, lv, r1, r2, ⟨Or.inl ⟨rfl, ?_, ?_⟩, r3⟩, r4⟩)
  · exact Nat.le_of_eq hz.symm
  · exact Nat.le_of_eq hz
theorem xs_sipush {n : Nat} {z : Int} (hz : xb (Int16.ofInt z).toInt32 = n) : xs_ok own ini d sc nL (xo_push (xi n)) (.sipush z) 3 := by
  intro p l e R s m args below meth c Q cc A E D W0 C pc hd L S h nc ns k r h1 h2 hf kk ls stk H locs hR
  obtain ⟨hx, hb, -⟩ := C
  obtain ⟨ws, tys, lv, r1, r2, r3, r4⟩ := hR
  refine lv_sipush hx hb hd rfl (kk _ _ _ hf _ _ _ _ ⟨ws, tys, lv, r1, r2, ⟨Or.inl ⟨rfl, ?_, ?_⟩, r3⟩, r4⟩)
  · exact Nat.le_of_eq hz.symm
  · exact Nat.le_of_eq hz
theorem xs_ldc2 {n idx : Nat} {v : Int64} (hv : xbl v = n) (hw : Cond.constantLong own idx v ∈ xw_B) : xs_ok own ini d sc nL (xo_push (3, n, 0)) (.ldc2_w idx) 3 := by
  intro p l e R s m args below meth c Q cc A E D W0 C pc hd L S h nc ns k r h1 h2 hf kk ls stk H locs hR
  obtain ⟨hx, hb, -, hown, hts, -⟩ := C
  obtain ⟨ws, tys, lv, r1, r2, r3, r4⟩ := hR
  exact lv_ldc2 hx hb hown (hts _ hw) hd (kk _ _ _ hf _ _ _ _ ⟨ws, tys, lv, r1, r2, ⟨⟨rfl, hv⟩, r3⟩, r4⟩)
theorem xs_dconst : xs_ok own ini d sc nL (xo_push (4, 0, 0)) (.dconst 0) 1 := by
  intro p l e R s m args below meth c Q cc A E D W0 C pc hd L S h nc ns k r h1 h2 hf kk ls stk H locs hR
  obtain ⟨hx, hb, -⟩ := C
  obtain ⟨ws, tys, lv, r1, r2, r3, r4⟩ := hR
  exact lv_dconst0 hx hb hd (kk _ _ _ hf _ _ _ _ ⟨ws, tys, lv, r1, r2, ⟨⟨rfl, by decide⟩, r3⟩, r4⟩)
theorem xs_null : xs_ok own ini d sc nL (xo_push (2, 0, 0)) (.aconst_null) 1 := by
  intro p l e R s m args below meth c Q cc A E D W0 C pc hd L S h nc ns k r h1 h2 hf kk ls stk H locs hR
  obtain ⟨hx, hb, -⟩ := C
  obtain ⟨ws, tys, lv, r1, r2, r3, r4⟩ := hR
  exact lv_null hx hb hd (kk _ _ _ hf _ _ _ _ ⟨ws, tys, lv, r1, r2, ⟨rfl, r3⟩, r4⟩)
/-- what a local holds -/
theorem xr_loc {E : xm_E} {ws : va_W} {ls : Array Slot} {nL i : Nat} {L : List (Nat × xv_V)} {lv : List (Nat × Value)} {j : Nat} {v : xv_V} (r1 : lv_has ls nL lv) (r2 : xf_2 (xm_L E ws) L lv) (hj : L[j]? = some (i, v)) : ∃ w, lv[j]? = some (i, w) ∧ ls[i]? = some (.val w) ∧ xm_V E ws v w := by
  obtain ⟨⟨i', w⟩, h1, h2, h3⟩ := xf_2_get r2 j _ hj
  dsimp only at h2 h3
  subst h2
  exact ⟨w, h1, lv_at r1 j h1, h3⟩
theorem xs_iload_n {k : Fin 4} : xs_ok own ini d sc nL (xo_iload k) (.iload_n k) 1 := by
  intro p l e R s m args below meth c Q cc A E D W0 C pc hd L S h nc ns k r h1 h2 hf kk ls stk H locs hR
  obtain ⟨hx, hb, -⟩ := C
  obtain ⟨ws, tys, lv, r1, r2, r3, r4⟩ := hR
  obtain ⟨j, v, hj, hf1⟩ := xe_get hf
  obtain ⟨hv, hf2⟩ := xe_cond hf1
  obtain ⟨w, -, hw, hm⟩ := xr_loc r1 r2 hj
  obtain ⟨x, rfl⟩ := xm_VI hv hm
  exact lv_iload_n hx hb hd rfl hw (kk _ _ _ hf2 _ _ _ _ ⟨ws, tys, lv, r1, r2, xf_2_c hm r3, r4⟩)
theorem xs_iload {i : Nat} : xs_ok own ini d sc nL (xo_iload i) (.iload i) 2 := by
  intro p l e R s m args below meth c Q cc A E D W0 C pc hd L S h nc ns k r h1 h2 hf kk ls stk H locs hR
  obtain ⟨hx, hb, -⟩ := C
  obtain ⟨ws, tys, lv, r1, r2, r3, r4⟩ := hR
  obtain ⟨j, v, hj, hf1⟩ := xe_get hf
  obtain ⟨hv, hf2⟩ := xe_cond hf1
  obtain ⟨w, -, hw, hm⟩ := xr_loc r1 r2 hj
  obtain ⟨x, rfl⟩ := xm_VI hv hm
  exact lv_iload hx hb hd hw (kk _ _ _ hf2 _ _ _ _ ⟨ws, tys, lv, r1, r2, xf_2_c hm r3, r4⟩)
theorem xs_aload_n {k : Fin 4} : xs_ok own ini d sc nL (xo_aload k) (.aload_n k) 1 := by
  intro p l e R s m args below meth c Q cc A E D W0 C pc hd L S h nc ns k r h1 h2 hf kk ls stk H locs hR
  obtain ⟨hx, hb, -⟩ := C
  obtain ⟨ws, tys, lv, r1, r2, r3, r4⟩ := hR
  obtain ⟨j, v, hj, hf1⟩ := xe_get hf
  obtain ⟨hv, hf2⟩ := xe_cond hf1
  obtain ⟨w, -, hw, hm⟩ := xr_loc r1 r2 hj
  obtain ⟨x, rfl⟩ := xm_VA hv hm
  have kk' := kk _ _ _ hf2 _ _ _ _ ⟨ws, tys, lv, r1, r2, xf_2_c hm r3, r4⟩
  cases x with
  | none => exact lv_aload_nN hx hb hd rfl hw kk'
  | some a => exact lv_aload_n hx hb hd rfl hw kk'
theorem xs_aload {i : Nat} : xs_ok own ini d sc nL (xo_aload i) (.aload i) 2 := by
  intro p l e R s m args below meth c Q cc A E D W0 C pc hd L S h nc ns k r h1 h2 hf kk ls stk H locs hR
  obtain ⟨hx, hb, -⟩ := C
  obtain ⟨ws, tys, lv, r1, r2, r3, r4⟩ := hR
  obtain ⟨j, v, hj, hf1⟩ := xe_get hf
  obtain ⟨hv, hf2⟩ := xe_cond hf1
  obtain ⟨w, -, hw, hm⟩ := xr_loc r1 r2 hj
  obtain ⟨x, rfl⟩ := xm_VA hv hm
  have kk' := kk _ _ _ hf2 _ _ _ _ ⟨ws, tys, lv, r1, r2, xf_2_c hm r3, r4⟩
  cases x with
  | none => exact lv_aloadN hx hb hd hw kk'
  | some a => exact lv_aload hx hb hd hw kk'
theorem xs_lload_n {k : Fin 4} : xs_ok own ini d sc nL (xo_lload k) (.lload_n k) 1 := by
  intro p l e R s m args below meth c Q cc A E D W0 C pc hd L S h nc ns k r h1 h2 hf kk ls stk H locs hR
  obtain ⟨hx, hb, -⟩ := C
  obtain ⟨ws, tys, lv, r1, r2, r3, r4⟩ := hR
  obtain ⟨j, v, hj, hf1⟩ := xe_get hf
  obtain ⟨hv, hf2⟩ := xe_cond hf1
  obtain ⟨w, -, hw, hm⟩ := xr_loc r1 r2 hj
  obtain ⟨x, rfl, hx2⟩ := xm_VL hv hm
  exact lv_lload_n hx hb hd rfl hw (kk _ _ _ hf2 _ _ _ _ ⟨ws, tys, lv, r1, r2, xf_2_c hm r3, r4⟩)
theorem xs_lload {i : Nat} : xs_ok own ini d sc nL (xo_lload i) (.lload i) 2 := by
  intro p l e R s m args below meth c Q cc A E D W0 C pc hd L S h nc ns k r h1 h2 hf kk ls stk H locs hR
  obtain ⟨hx, hb, -⟩ := C
  obtain ⟨ws, tys, lv, r1, r2, r3, r4⟩ := hR
  obtain ⟨j, v, hj, hf1⟩ := xe_get hf
  obtain ⟨hv, hf2⟩ := xe_cond hf1
  obtain ⟨w, -, hw, hm⟩ := xr_loc r1 r2 hj
  obtain ⟨x, rfl, hx2⟩ := xm_VL hv hm
  exact lv_lload hx hb hd hw (kk _ _ _ hf2 _ _ _ _ ⟨ws, tys, lv, r1, r2, xf_2_c hm r3, r4⟩)
theorem xs_dload {i : Nat} : xs_ok own ini d sc nL (xo_dload i) (.dload i) 2 := by
  intro p l e R s m args below meth c Q cc A E D W0 C pc hd L S h nc ns k r h1 h2 hf kk ls stk H locs hR
  obtain ⟨hx, hb, -⟩ := C
  obtain ⟨ws, tys, lv, r1, r2, r3, r4⟩ := hR
  obtain ⟨j, v, hj, hf1⟩ := xe_get hf
  obtain ⟨hv, hf2⟩ := xe_cond hf1
  obtain ⟨w, -, hw, hm⟩ := xr_loc r1 r2 hj
  obtain ⟨x, rfl, hx2⟩ := xm_VD hv hm
  exact lv_dload hx hb hd hw (kk _ _ _ hf2 _ _ _ _ ⟨ws, tys, lv, r1, r2, xf_2_c hm r3, r4⟩)
theorem xs_istore_n {k : Fin 4} (hi : (k : Nat) < nL) : xs_ok own ini d sc nL (xo_istore k) (.istore_n k) 1 := by
  intro p l e R s m args below meth c Q cc A E D W0 C pc hd L S h nc ns k9 r h1 h2 hf kk ls stk H locs hR
  obtain ⟨hx, hb, hml, hown, hts, hA, hRf, hRl, hlk, hini, hE⟩ := C
  obtain ⟨ws, tys, lv, r1, r2, r3, r4⟩ := hR
  obtain ⟨a0, S0, rfl, hf1⟩ := xe_pop hf
  obtain ⟨w0, st0, rfl, m0, r30⟩ := xf_2_cons r3
  obtain ⟨hv, hf2⟩ := xe_cond hf1
  obtain ⟨x, rfl⟩ := xm_VI hv m0
  exact lv_istore_n hx hb hd rfl r1 hi rfl (fun ls1 q1 => kk _ _ _ hf2 _ _ _ _ ⟨ws, tys, _, q1, xf_2_c ⟨rfl, m0⟩ (xm_del1 _ r2), r30, r4⟩)
theorem xs_istore {i : Nat} (hi : i < nL) : xs_ok own ini d sc nL (xo_istore i) (.istore i) 2 := by
  intro p l e R s m args below meth c Q cc A E D W0 C pc hd L S h nc ns k9 r h1 h2 hf kk ls stk H locs hR
  obtain ⟨hx, hb, hml, hown, hts, hA, hRf, hRl, hlk, hini, hE⟩ := C
  obtain ⟨ws, tys, lv, r1, r2, r3, r4⟩ := hR
  obtain ⟨a0, S0, rfl, hf1⟩ := xe_pop hf
  obtain ⟨w0, st0, rfl, m0, r30⟩ := xf_2_cons r3
  obtain ⟨hv, hf2⟩ := xe_cond hf1
  obtain ⟨x, rfl⟩ := xm_VI hv m0
  exact lv_istore hx hb hd r1 hi rfl (fun ls1 q1 => kk _ _ _ hf2 _ _ _ _ ⟨ws, tys, _, q1, xf_2_c ⟨rfl, m0⟩ (xm_del1 _ r2), r30, r4⟩)
theorem xs_lstore_n {k : Fin 4} (hi : (k : Nat) + 1 < nL) : xs_ok own ini d sc nL (xo_lstore k) (.lstore_n k) 1 := by
  intro p l e R s m args below meth c Q cc A E D W0 C pc hd L S h nc ns k9 r h1 h2 hf kk ls stk H locs hR
  obtain ⟨hx, hb, hml, hown, hts, hA, hRf, hRl, hlk, hini, hE⟩ := C
  obtain ⟨ws, tys, lv, r1, r2, r3, r4⟩ := hR
  obtain ⟨a0, S0, rfl, hf1⟩ := xe_pop hf
  obtain ⟨w0, st0, rfl, m0, r30⟩ := xf_2_cons r3
  obtain ⟨hv, hf2⟩ := xe_cond hf1
  obtain ⟨x, rfl, -⟩ := xm_VL hv m0
  exact lv_lstore_n hx hb hd rfl r1 hi rfl (fun ls1 q1 => kk _ _ _ hf2 _ _ _ _ ⟨ws, tys, _, q1, xf_2_c ⟨rfl, m0⟩ (xm_del2 _ r2), r30, r4⟩)
theorem xs_lstore {i : Nat} (hi : i + 1 < nL) : xs_ok own ini d sc nL (xo_lstore i) (.lstore i) 2 := by
  intro p l e R s m args below meth c Q cc A E D W0 C pc hd L S h nc ns k9 r h1 h2 hf kk ls stk H locs hR
  obtain ⟨hx, hb, hml, hown, hts, hA, hRf, hRl, hlk, hini, hE⟩ := C
  obtain ⟨ws, tys, lv, r1, r2, r3, r4⟩ := hR
  obtain ⟨a0, S0, rfl, hf1⟩ := xe_pop hf
  obtain ⟨w0, st0, rfl, m0, r30⟩ := xf_2_cons r3
  obtain ⟨hv, hf2⟩ := xe_cond hf1
  obtain ⟨x, rfl, -⟩ := xm_VL hv m0
  exact lv_lstore hx hb hd r1 hi rfl (fun ls1 q1 => kk _ _ _ hf2 _ _ _ _ ⟨ws, tys, _, q1, xf_2_c ⟨rfl, m0⟩ (xm_del2 _ r2), r30, r4⟩)
theorem xs_dstore_n {k : Fin 4} (hi : (k : Nat) + 1 < nL) : xs_ok own ini d sc nL (xo_dstore k) (.dstore_n k) 1 := by
  intro p l e R s m args below meth c Q cc A E D W0 C pc hd L S h nc ns k9 r h1 h2 hf kk ls stk H locs hR
  obtain ⟨hx, hb, hml, hown, hts, hA, hRf, hRl, hlk, hini, hE⟩ := C
  obtain ⟨ws, tys, lv, r1, r2, r3, r4⟩ := hR
  obtain ⟨a0, S0, rfl, hf1⟩ := xe_pop hf
  obtain ⟨w0, st0, rfl, m0, r30⟩ := xf_2_cons r3
  obtain ⟨hv, hf2⟩ := xe_cond hf1
  obtain ⟨x, rfl, -⟩ := xm_VD hv m0
  exact lv_dstore_n hx hb hd rfl r1 hi rfl (fun ls1 q1 => kk _ _ _ hf2 _ _ _ _ ⟨ws, tys, _, q1, xf_2_c ⟨rfl, m0⟩ (xm_del2 _ r2), r30, r4⟩)
theorem xs_dstore {i : Nat} (hi : i + 1 < nL) : xs_ok own ini d sc nL (xo_dstore i) (.dstore i) 2 := by
  intro p l e R s m args below meth c Q cc A E D W0 C pc hd L S h nc ns k9 r h1 h2 hf kk ls stk H locs hR
  obtain ⟨hx, hb, hml, hown, hts, hA, hRf, hRl, hlk, hini, hE⟩ := C
  obtain ⟨ws, tys, lv, r1, r2, r3, r4⟩ := hR
  obtain ⟨a0, S0, rfl, hf1⟩ := xe_pop hf
  obtain ⟨w0, st0, rfl, m0, r30⟩ := xf_2_cons r3
  obtain ⟨hv, hf2⟩ := xe_cond hf1
  obtain ⟨x, rfl, -⟩ := xm_VD hv m0
  exact lv_dstore hx hb hd r1 hi rfl (fun ls1 q1 => kk _ _ _ hf2 _ _ _ _ ⟨ws, tys, _, q1, xf_2_c ⟨rfl, m0⟩ (xm_del2 _ r2), r30, r4⟩)
theorem xs_astore_n {k : Fin 4} (hi : (k : Nat) < nL) : xs_ok own ini d sc nL (xo_astore k) (.astore_n k) 1 := by
  intro p l e R s m args below meth c Q cc A E D W0 C pc hd L S h nc ns k9 r h1 h2 hf kk ls stk H locs hR
  obtain ⟨hx, hb, hml, hown, hts, hA, hRf, hRl, hlk, hini, hE⟩ := C
  obtain ⟨ws, tys, lv, r1, r2, r3, r4⟩ := hR
  obtain ⟨a0, S0, rfl, hf1⟩ := xe_pop hf
  obtain ⟨w0, st0, rfl, m0, r30⟩ := xf_2_cons r3
  obtain ⟨hv, hf2⟩ := xe_cond hf1
  obtain ⟨x, rfl⟩ := xm_VA hv m0
  cases x with
  | none => exact lv_astore_nN hx hb hd rfl r1 hi rfl (fun ls1 q1 => kk _ _ _ hf2 _ _ _ _ ⟨ws, tys, _, q1, xf_2_c ⟨rfl, m0⟩ (xm_del1 _ r2), r30, r4⟩)
  | some a => exact lv_astore_n hx hb hd rfl r1 hi rfl (fun ls1 q1 => kk _ _ _ hf2 _ _ _ _ ⟨ws, tys, _, q1, xf_2_c ⟨rfl, m0⟩ (xm_del1 _ r2), r30, r4⟩)
theorem xs_astore {i : Nat} (hi : i < nL) : xs_ok own ini d sc nL (xo_astore i) (.astore i) 2 := by
  intro p l e R s m args below meth c Q cc A E D W0 C pc hd L S h nc ns k9 r h1 h2 hf kk ls stk H locs hR
  obtain ⟨hx, hb, hml, hown, hts, hA, hRf, hRl, hlk, hini, hE⟩ := C
  obtain ⟨ws, tys, lv, r1, r2, r3, r4⟩ := hR
  obtain ⟨a0, S0, rfl, hf1⟩ := xe_pop hf
  obtain ⟨w0, st0, rfl, m0, r30⟩ := xf_2_cons r3
  obtain ⟨hv, hf2⟩ := xe_cond hf1
  obtain ⟨x, rfl⟩ := xm_VA hv m0
  cases x with
  | none => exact lv_astoreN hx hb hd r1 hi rfl (fun ls1 q1 => kk _ _ _ hf2 _ _ _ _ ⟨ws, tys, _, q1, xf_2_c ⟨rfl, m0⟩ (xm_del1 _ r2), r30, r4⟩)
  | some a => exact lv_astore hx hb hd r1 hi rfl (fun ls1 q1 => kk _ _ _ hf2 _ _ _ _ ⟨ws, tys, _, q1, xf_2_c ⟨rfl, m0⟩ (xm_del1 _ r2), r30, r4⟩)
theorem xs_iinc {i n : Nat} {z : Int} (hi : i < nL) (hz : xb (Int32.ofInt z) = n) : xs_ok own ini d sc nL (xo_iinc i n) (.iinc i z) 3 := by
  intro p l e R s m args below meth c Q cc A E D W0 C pc hd L S h nc ns k r h1 h2 hf kk ls stk H locs hR
  obtain ⟨hx, hb, hml, hown, hts, hA, hRf, hRl, hlk, hini, hE⟩ := C
  obtain ⟨ws, tys, lv, r1, r2, r3, r4⟩ := hR
  obtain ⟨j, v, hj, hf1⟩ := xe_get hf
  obtain ⟨w, hw, -, hm⟩ := xr_loc r1 r2 hj
  obtain ⟨x0, rfl, hf2⟩ := xe_one hf1
  obtain ⟨x, rfl, e1⟩ := xm_V1 hm
  have e2 : xb (x + Int32.ofInt z) = xb_add x0 n := by rw [xb_add_eq, e1, hz]
  exact lv_iinc hx hb hd r1 hw rfl hi rfl (fun ls1 q1 => kk _ _ _ hf2 _ _ _ _ ⟨ws, tys, _, q1, xf_2_c ⟨rfl, Or.inl ⟨rfl, Nat.le_of_eq e2.symm, Nat.le_of_eq e2⟩⟩ (xm_del1 _ r2), r3, r4⟩)
theorem xs_iadd : xs_ok own ini d sc nL (xo_bin xb_add) (.iadd) 1 := by
  intro p l e R s m args below meth c Q cc A E D W0 C pc hd L S h nc ns k r h1 h2 hf kk ls stk H locs hR
  obtain ⟨hx, hb, hml, hown, hts, hA, hRf, hRl, hlk, hini, hE⟩ := C
  obtain ⟨ws, tys, lv, r1, r2, r3, r4⟩ := hR
  obtain ⟨a0, S0, rfl, hf1⟩ := xe_pop hf
  obtain ⟨w0, st0, rfl, m0, r30⟩ := xf_2_cons r3
  obtain ⟨a1, S1, rfl, hf2⟩ := xe_pop hf1
  obtain ⟨w1, st1, rfl, m1, r31⟩ := xf_2_cons r30
  obtain ⟨y0, rfl, hf3⟩ := xe_one hf2
  obtain ⟨x0, rfl, hf4⟩ := xe_one hf3
  obtain ⟨y, rfl, e1⟩ := xm_V1 m0
  obtain ⟨x, rfl, e2⟩ := xm_V1 m1
  have e3 : xb (x + y) = xb_add x0 y0 := by rw [xb_add_eq, e1, e2]
  exact lv_iadd hx hb hd (kk _ _ _ hf4 _ _ _ _ ⟨ws, tys, lv, r1, r2, xf_2_c (Or.inl ⟨rfl, Nat.le_of_eq e3.symm, Nat.le_of_eq e3⟩) r31, r4⟩)
theorem xs_isub : xs_ok own ini d sc nL (xo_bin xb_sub) (.isub) 1 := by
  intro p l e R s m args below meth c Q cc A E D W0 C pc hd L S h nc ns k r h1 h2 hf kk ls stk H locs hR
  obtain ⟨hx, hb, hml, hown, hts, hA, hRf, hRl, hlk, hini, hE⟩ := C
  obtain ⟨ws, tys, lv, r1, r2, r3, r4⟩ := hR
  obtain ⟨a0, S0, rfl, hf1⟩ := xe_pop hf
  obtain ⟨w0, st0, rfl, m0, r30⟩ := xf_2_cons r3
  obtain ⟨a1, S1, rfl, hf2⟩ := xe_pop hf1
  obtain ⟨w1, st1, rfl, m1, r31⟩ := xf_2_cons r30
  obtain ⟨y0, rfl, hf3⟩ := xe_one hf2
  obtain ⟨x0, rfl, hf4⟩ := xe_one hf3
  obtain ⟨y, rfl, e1⟩ := xm_V1 m0
  obtain ⟨x, rfl, e2⟩ := xm_V1 m1
  have e3 : xb (x - y) = xb_sub x0 y0 := by rw [xb_sub_eq, e1, e2]
  exact lv_isub hx hb hd (kk _ _ _ hf4 _ _ _ _ ⟨ws, tys, lv, r1, r2, xf_2_c (Or.inl ⟨rfl, Nat.le_of_eq e3.symm, Nat.le_of_eq e3⟩) r31, r4⟩)
theorem xs_imul : xs_ok own ini d sc nL (xo_bin xb_mul) (.imul) 1 := by
  intro p l e R s m args below meth c Q cc A E D W0 C pc hd L S h nc ns k r h1 h2 hf kk ls stk H locs hR
  obtain ⟨hx, hb, hml, hown, hts, hA, hRf, hRl, hlk, hini, hE⟩ := C
  obtain ⟨ws, tys, lv, r1, r2, r3, r4⟩ := hR
  obtain ⟨a0, S0, rfl, hf1⟩ := xe_pop hf
  obtain ⟨w0, st0, rfl, m0, r30⟩ := xf_2_cons r3
  obtain ⟨a1, S1, rfl, hf2⟩ := xe_pop hf1
  obtain ⟨w1, st1, rfl, m1, r31⟩ := xf_2_cons r30
  obtain ⟨y0, rfl, hf3⟩ := xe_one hf2
  obtain ⟨x0, rfl, hf4⟩ := xe_one hf3
  obtain ⟨y, rfl, e1⟩ := xm_V1 m0
  obtain ⟨x, rfl, e2⟩ := xm_V1 m1
  have e3 : xb (x * y) = xb_mul x0 y0 := by rw [xb_mul_eq, e1, e2]
  exact lv_imul hx hb hd (kk _ _ _ hf4 _ _ _ _ ⟨ws, tys, lv, r1, r2, xf_2_c (Or.inl ⟨rfl, Nat.le_of_eq e3.symm, Nat.le_of_eq e3⟩) r31, r4⟩)
theorem xs_ior : xs_ok own ini d sc nL (xo_bin xb_or) (.ior) 1 := by
  intro p l e R s m args below meth c Q cc A E D W0 C pc hd L S h nc ns k r h1 h2 hf kk ls stk H locs hR
  obtain ⟨hx, hb, hml, hown, hts, hA, hRf, hRl, hlk, hini, hE⟩ := C
  obtain ⟨ws, tys, lv, r1, r2, r3, r4⟩ := hR
  obtain ⟨a0, S0, rfl, hf1⟩ := xe_pop hf
  obtain ⟨w0, st0, rfl, m0, r30⟩ := xf_2_cons r3
  obtain ⟨a1, S1, rfl, hf2⟩ := xe_pop hf1
  obtain ⟨w1, st1, rfl, m1, r31⟩ := xf_2_cons r30
  obtain ⟨y0, rfl, hf3⟩ := xe_one hf2
  obtain ⟨x0, rfl, hf4⟩ := xe_one hf3
  obtain ⟨y, rfl, e1⟩ := xm_V1 m0
  obtain ⟨x, rfl, e2⟩ := xm_V1 m1
  have e3 : xb (x ||| y) = xb_or x0 y0 := by rw [xb_or_eq, e1, e2]
  exact lv_ior hx hb hd (kk _ _ _ hf4 _ _ _ _ ⟨ws, tys, lv, r1, r2, xf_2_c (Or.inl ⟨rfl, Nat.le_of_eq e3.symm, Nat.le_of_eq e3⟩) r31, r4⟩)
theorem xb_31 {y : Int32} (h : xb y = 2147483679) : y = 31 := xb_inj (h.trans (by decide))
theorem xs_iand : xs_ok own ini d sc nL xo_and (.iand) 1 := by
  intro p l e R s m args below meth c Q cc A E D W0 C pc hd L S h nc ns k r h1 h2 hf kk ls stk H locs hR
  obtain ⟨hx, hb, hml, hown, hts, hA, hRf, hRl, hlk, hini, hE⟩ := C
  obtain ⟨ws, tys, lv, r1, r2, r3, r4⟩ := hR
  obtain ⟨a0, S0, rfl, hf1⟩ := xe_pop hf
  obtain ⟨w0, st0, rfl, m0, r30⟩ := xf_2_cons r3
  obtain ⟨a1, S1, rfl, hf2⟩ := xe_pop hf1
  obtain ⟨w1, st1, rfl, m1, r31⟩ := xf_2_cons r30
  obtain ⟨y0, rfl, hf3⟩ := xe_one hf2
  obtain ⟨y, rfl, e1⟩ := xm_V1 m0
  cases h5 : Nat.beq a1.1 5 with
  | true =>
    rw [h5] at hf3
    obtain ⟨h6, hf4⟩ := xe_cond (b := Nat.beq y0 2147483679) hf3
    have e4 := xb_31 (e1.trans (xe_beq h6))
    subst e4
    obtain ⟨t, u, u'⟩ := a1
    have ht : t = 5 := xe_beq h5
    subst ht
    cases w1 with
    | int x =>
      rcases m1 with ⟨q, -⟩ | ⟨-, q1, q2⟩
      · simp at q
      · have e3 : xb (x &&& 31) = u + xq_B := by
          rw [q1]
          exact xb_ofNat (Nat.lt_trans q2 (by decide))
        exact lv_iand hx hb hd (kk _ _ _ hf4 _ _ _ _ ⟨ws, tys, lv, r1, r2, xf_2_c (Or.inl ⟨rfl, Nat.le_of_eq e3.symm, Nat.le_of_eq e3⟩) r31, r4⟩)
    | ref a => rcases m1 with h | h | h | h <;> simp at h
    | _ => simp [xm_V] at m1
  | false =>
    rw [h5] at hf3
    have hf4 : xq_one a1 (fun x => k L (xi (xb_and x y0) :: S1) h) = some r := hf3
    obtain ⟨x0, rfl, hf5⟩ := xe_one hf4
    obtain ⟨x, rfl, e2⟩ := xm_V1 m1
    have e3 : xb (x &&& y) = xb_and x0 y0 := by rw [xb_and_eq, e1, e2]
    exact lv_iand hx hb hd (kk _ _ _ hf5 _ _ _ _ ⟨ws, tys, lv, r1, r2, xf_2_c (Or.inl ⟨rfl, Nat.le_of_eq e3.symm, Nat.le_of_eq e3⟩) r31, r4⟩)
theorem xs_ishl : xs_ok own ini d sc nL (xo_bin xb_shl) (.ishl) 1 := by
  intro p l e R s m args below meth c Q cc A E D W0 C pc hd L S h nc ns k r h1 h2 hf kk ls stk H locs hR
  obtain ⟨hx, hb, hml, hown, hts, hA, hRf, hRl, hlk, hini, hE⟩ := C
  obtain ⟨ws, tys, lv, r1, r2, r3, r4⟩ := hR
  obtain ⟨a0, S0, rfl, hf1⟩ := xe_pop hf
  obtain ⟨w0, st0, rfl, m0, r30⟩ := xf_2_cons r3
  obtain ⟨a1, S1, rfl, hf2⟩ := xe_pop hf1
  obtain ⟨w1, st1, rfl, m1, r31⟩ := xf_2_cons r30
  obtain ⟨y0, rfl, hf3⟩ := xe_one hf2
  obtain ⟨x0, rfl, hf4⟩ := xe_one hf3
  obtain ⟨y, rfl, e1⟩ := xm_V1 m0
  obtain ⟨x, rfl, e2⟩ := xm_V1 m1
  have e3 : xb (x <<< (y &&& 31)) = xb_shl x0 y0 := by rw [xb_shl_eq, e1, e2]
  exact lv_ishl hx hb hd (kk _ _ _ hf4 _ _ _ _ ⟨ws, tys, lv, r1, r2, xf_2_c (Or.inl ⟨rfl, Nat.le_of_eq e3.symm, Nat.le_of_eq e3⟩) r31, r4⟩)
theorem xs_i2l : xs_ok own ini d sc nL xo_i2l (.i2l) 1 := by
  intro p l e R s m args below meth c Q cc A E D W0 C pc hd L S h nc ns k r h1 h2 hf kk ls stk H locs hR
  obtain ⟨hx, hb, hml, hown, hts, hA, hRf, hRl, hlk, hini, hE⟩ := C
  obtain ⟨ws, tys, lv, r1, r2, r3, r4⟩ := hR
  obtain ⟨a0, S0, rfl, hf1⟩ := xe_pop hf
  obtain ⟨w0, st0, rfl, m0, r30⟩ := xf_2_cons r3
  obtain ⟨x0, rfl, hf2⟩ := xe_one hf1
  obtain ⟨x, rfl, e1⟩ := xm_V1 m0
  exact lv_i2l hx hb hd rfl (kk _ _ _ hf2 _ _ _ _ ⟨ws, tys, lv, r1, r2, xf_2_c ⟨rfl, by rw [xbl_ofInt32, e1]⟩ r30, r4⟩)
theorem xs_ladd : xs_ok own ini d sc nL (xo_lbin xl_add) (.ladd) 1 := by
  intro p l e R s m args below meth c Q cc A E D W0 C pc hd L S h nc ns k r h1 h2 hf kk ls stk H locs hR
  obtain ⟨hx, hb, hml, hown, hts, hA, hRf, hRl, hlk, hini, hE⟩ := C
  obtain ⟨ws, tys, lv, r1, r2, r3, r4⟩ := hR
  obtain ⟨a0, S0, rfl, hf1⟩ := xe_pop hf
  obtain ⟨w0, st0, rfl, m0, r30⟩ := xf_2_cons r3
  obtain ⟨a1, S1, rfl, hf2⟩ := xe_pop hf1
  obtain ⟨w1, st1, rfl, m1, r31⟩ := xf_2_cons r30
  obtain ⟨hq, hf3⟩ := xe_cond hf2
  obtain ⟨q1, q2⟩ := xe_and hq
  obtain ⟨y, rfl, e1⟩ := xm_VL q2 m0
  obtain ⟨x, rfl, e2⟩ := xm_VL q1 m1
  exact lv_ladd hx hb hd (kk _ _ _ hf3 _ _ _ _ ⟨ws, tys, lv, r1, r2, xf_2_c ⟨rfl, by rw [xbl_add_eq, e1, e2]⟩ r31, r4⟩)
theorem xs_lmul : xs_ok own ini d sc nL (xo_lbin xl_mul) (.lmul) 1 := by
  intro p l e R s m args below meth c Q cc A E D W0 C pc hd L S h nc ns k r h1 h2 hf kk ls stk H locs hR
  obtain ⟨hx, hb, hml, hown, hts, hA, hRf, hRl, hlk, hini, hE⟩ := C
  obtain ⟨ws, tys, lv, r1, r2, r3, r4⟩ := hR
  obtain ⟨a0, S0, rfl, hf1⟩ := xe_pop hf
  obtain ⟨w0, st0, rfl, m0, r30⟩ := xf_2_cons r3
  obtain ⟨a1, S1, rfl, hf2⟩ := xe_pop hf1
  obtain ⟨w1, st1, rfl, m1, r31⟩ := xf_2_cons r30
  obtain ⟨hq, hf3⟩ := xe_cond hf2
  obtain ⟨q1, q2⟩ := xe_and hq
  obtain ⟨y, rfl, e1⟩ := xm_VL q2 m0
  obtain ⟨x, rfl, e2⟩ := xm_VL q1 m1
  exact lv_lmul hx hb hd (kk _ _ _ hf3 _ _ _ _ ⟨ws, tys, lv, r1, r2, xf_2_c ⟨rfl, by rw [xbl_mul_eq, e1, e2]⟩ r31, r4⟩)
theorem lg_cmp_b {x y : Int64} {a b : Nat} (e1 : xbl x = a) (e2 : xbl y = b) : xb (lg_cmp x y) = cond (Nat.beq a b) xq_B (cond (Nat.ble a b) (xq_B - 1) (xq_B + 1)) := by
  unfold lg_cmp
  have hlt := xbl_lt_iff y x
  by_cases h1 : x > y
  · rw [if_pos h1]
    have h2 := hlt.mp h1
    rw [e1, e2] at h2
    have h3 : Nat.beq a b = false := by
      cases h : Nat.beq a b with
      | true => exact absurd (xe_beq h) (by omega)
      | false => rfl
    have h4 : Nat.ble a b = false := by
      cases h : Nat.ble a b with
      | true => exact absurd (xe_ble h) (by omega)
      | false => rfl
    rw [h3, h4]; decide
  · rw [if_neg h1]
    have h2 : ¬ b < a := fun h => h1 (hlt.mpr (by rw [e1, e2]; exact h))
    by_cases h3 : x = y
    · rw [if_pos h3]
      have h4 : a = b := by rw [← e1, ← e2, h3]
      subst h4
      rw [Nat.beq_refl]; exact xb_0
    · rw [if_neg h3]
      have h4 : a ≠ b := fun h => h3 (xbl_inj (by rw [e1, e2, h]))
      have h5 : Nat.beq a b = false := by
        cases h : Nat.beq a b with
        | true => exact absurd (xe_beq h) h4
        | false => rfl
      rw [h5, Nat.ble_eq_true_of_le (by omega)]; decide
theorem xs_lcmp : xs_ok own ini d sc nL xo_lcmp (.lcmp) 1 := by
  intro p l e R s m args below meth c Q cc A E D W0 C pc hd L S h nc ns k r h1 h2 hf kk ls stk H locs hR
  obtain ⟨hx, hb, hml, hown, hts, hA, hRf, hRl, hlk, hini, hE⟩ := C
  obtain ⟨ws, tys, lv, r1, r2, r3, r4⟩ := hR
  obtain ⟨a0, S0, rfl, hf1⟩ := xe_pop hf
  obtain ⟨w0, st0, rfl, m0, r30⟩ := xf_2_cons r3
  obtain ⟨a1, S1, rfl, hf2⟩ := xe_pop hf1
  obtain ⟨w1, st1, rfl, m1, r31⟩ := xf_2_cons r30
  obtain ⟨hq, hf3⟩ := xe_cond hf2
  obtain ⟨q1, q2⟩ := xe_and hq
  obtain ⟨y, rfl, e1⟩ := xm_VL q2 m0
  obtain ⟨x, rfl, e2⟩ := xm_VL q1 m1
  have e3 := lg_cmp_b e2 e1
  exact W.lcmp hx hb hd (kk _ _ _ hf3 _ _ _ _ ⟨ws, tys, lv, r1, r2, xf_2_c (Or.inl ⟨rfl, Nat.le_of_eq e3.symm, Nat.le_of_eq e3⟩) r31, r4⟩)
theorem xs_dcmp : xs_ok own ini d sc nL xo_dcmp (.dcmp .l) 1 := by
  intro p l e R s m args below meth c Q cc A E D W0 C pc hd L S h nc ns k r h1 h2 hf kk ls stk H locs hR
  obtain ⟨hx, hb, hml, hown, hts, hA, hRf, hRl, hlk, hini, hE⟩ := C
  obtain ⟨ws, tys, lv, r1, r2, r3, r4⟩ := hR
  obtain ⟨a0, S0, rfl, hf1⟩ := xe_pop hf
  obtain ⟨w0, st0, rfl, m0, r30⟩ := xf_2_cons r3
  obtain ⟨a1, S1, rfl, hf2⟩ := xe_pop hf1
  obtain ⟨w1, st1, rfl, m1, r31⟩ := xf_2_cons r30
  obtain ⟨hq, hf3⟩ := xe_cond hf2
  obtain ⟨q1, q2⟩ := xe_and hq
  obtain ⟨hq, hf4⟩ := xe_cond hf3
  obtain ⟨q3, q4⟩ := xe_and hq
  obtain ⟨y, rfl, e1⟩ := xm_VD q2 m0
  obtain ⟨x, rfl, e2⟩ := xm_VD q1 m1
  rw [xe_beq q3] at e2
  rw [xe_beq q4] at e1
  have e3 : x = 0 := UInt64.toNat_inj.mp (e2.trans (by decide))
  have e4 : y = 0 := UInt64.toNat_inj.mp (e1.trans (by decide))
  subst e3; subst e4
  have e5 : xb (Op.cmpValue (FP.dcmp 0 0) .l) = xq_B := by decide +kernel
  exact lv_dcmp hx hb hd (kk _ _ _ hf4 _ _ _ _ ⟨ws, tys, lv, r1, r2, xf_2_c (Or.inl ⟨rfl, Nat.le_of_eq e5.symm, Nat.le_of_eq e5⟩) r31, r4⟩)
theorem xs_dup : xs_ok own ini d sc nL xo_dup (.dup) 1 := by
  intro p l e R s m args below meth c Q cc A E D W0 C pc hd L S h nc ns k r h1 h2 hf kk ls stk H locs hR
  obtain ⟨hx, hb, hml, hown, hts, hA, hRf, hRl, hlk, hini, hE⟩ := C
  obtain ⟨ws, tys, lv, r1, r2, r3, r4⟩ := hR
  obtain ⟨a0, S0, rfl, hf1⟩ := xe_pop hf
  obtain ⟨w0, st0, rfl, m0, r30⟩ := xf_2_cons r3
  obtain ⟨hq, hf2⟩ := xe_condN hf1
  exact lv_dup hx hb hd (xm_cat1 m0 hq) (kk _ _ _ hf2 _ _ _ _ ⟨ws, tys, lv, r1, r2, xf_2_c m0 (xf_2_c m0 r30), r4⟩)
theorem xe_orN {a b : Bool} (h : or a b = false) : a = false ∧ b = false := by
  cases a <;> cases b <;> simp_all
theorem xs_dup2 : xs_ok own ini d sc nL xo_dup2 (.dup2) 1 := by
  intro p l e R s m args below meth c Q cc A E D W0 C pc hd L S h nc ns k r h1 h2 hf kk ls stk H locs hR
  obtain ⟨hx, hb, hml, hown, hts, hA, hRf, hRl, hlk, hini, hE⟩ := C
  obtain ⟨ws, tys, lv, r1, r2, r3, r4⟩ := hR
  obtain ⟨a0, S0, rfl, hf1⟩ := xe_pop hf
  obtain ⟨w0, st0, rfl, m0, r30⟩ := xf_2_cons r3
  obtain ⟨a1, S1, rfl, hf2⟩ := xe_pop hf1
  obtain ⟨w1, st1, rfl, m1, r31⟩ := xf_2_cons r30
  obtain ⟨hq, hf3⟩ := xe_condN hf2
  obtain ⟨q1, q2⟩ := xe_orN hq
  exact lv_dup2_11 hx hb hd (xm_cat1 m0 q2) (xm_cat1 m1 q1) (kk _ _ _ hf3 _ _ _ _ ⟨ws, tys, lv, r1, r2, xf_2_c m0 (xf_2_c m1 (xf_2_c m0 (xf_2_c m1 r31))), r4⟩)
theorem xs_dupx1 : xs_ok own ini d sc nL xo_dupx1 (.dup_x1) 1 := by
  intro p l e R s m args below meth c Q cc A E D W0 C pc hd L S h nc ns k r h1 h2 hf kk ls stk H locs hR
  obtain ⟨hx, hb, hml, hown, hts, hA, hRf, hRl, hlk, hini, hE⟩ := C
  obtain ⟨ws, tys, lv, r1, r2, r3, r4⟩ := hR
  obtain ⟨a0, S0, rfl, hf1⟩ := xe_pop hf
  obtain ⟨w0, st0, rfl, m0, r30⟩ := xf_2_cons r3
  obtain ⟨a1, S1, rfl, hf2⟩ := xe_pop hf1
  obtain ⟨w1, st1, rfl, m1, r31⟩ := xf_2_cons r30
  obtain ⟨hq, hf3⟩ := xe_condN hf2
  obtain ⟨q1, q2⟩ := xe_orN hq
  exact lv_dup_x1 hx hb hd (xm_cat1 m0 q2) (xm_cat1 m1 q1) (kk _ _ _ hf3 _ _ _ _ ⟨ws, tys, lv, r1, r2, xf_2_c m0 (xf_2_c m1 (xf_2_c m0 r31)), r4⟩)
theorem xs_pop : xs_ok own ini d sc nL xo_pop (.pop) 1 := by
  intro p l e R s m args below meth c Q cc A E D W0 C pc hd L S h nc ns k r h1 h2 hf kk ls stk H locs hR
  obtain ⟨hx, hb, hml, hown, hts, hA, hRf, hRl, hlk, hini, hE⟩ := C
  obtain ⟨ws, tys, lv, r1, r2, r3, r4⟩ := hR
  obtain ⟨a0, S0, rfl, hf1⟩ := xe_pop hf
  obtain ⟨w0, st0, rfl, m0, r30⟩ := xf_2_cons r3
  obtain ⟨hq, hf2⟩ := xe_condN hf1
  exact lv_pop hx hb hd (xm_cat1 m0 hq) (kk _ _ _ hf2 _ _ _ _ ⟨ws, tys, lv, r1, r2, r30, r4⟩)
end XS
