/-! words; the context of a frame -/
def zw_nest (w : Cond) : Bool := match w with
  | .fieldLinkNest _ _ _ _ _ _ => true
  | .methodLinkNest _ _ _ _ => true
  | .arrayOver (.object _) => true
  | .arrayOver (.array _) => true
  | w => w.onTables && w.keepsFace
theorem zw_face {w : Cond} {args a' : Array Value} {s U : State} (h0 : (w.onTables && w.keepsFace) = true) (hW : s.WarmedH U.vm) (h : w.before args s = true) : w.before a' U = true := by
  obtain ⟨h1, h2⟩ := ze_and (a := w.onTables) (b := w.keepsFace) h0
  have h3 : w.before args (s.setVm U.vm) = true := Cond.before_shiftedFace (State.Shifted.of_warmed hW) w h2 h
  have e := Cond.onTables_vm (A := args) (A' := a') (U := s) (U' := U) U.vm w h1
  have hU : U.setVm U.vm = U := rfl
  rw [hU] at e
  rw [← e]; exact h3
/-- rows of rows go on -/
theorem zw_rows {t : FieldType} {A A' : Array Value} {u U : State} (hvm : u.vm.Alike U.vm) (h : (Cond.arrayOver (.array t)).before A u = true) : (Cond.arrayOver (.array t)).before A' U = true := by
  obtain ⟨comp, c, k, h1, h2, h3, h4, h5⟩ := arrayOverA_spec h
  obtain ⟨k', hk', he⟩ := hvm.2.2 _ _ h3
  have hi : (U.vm.classes.findIdx? fun (x : Class) => match x.kind with | .array component _ => component == comp | _ => false) = some c := by
    rw [hvm.findIdx?_eq _ (fun _ => rfl)]
    exact h2
  have hkind : k'.kind = .array comp (.array t) := by rw [he]; exact h4
  have f1 : U.vm.findClass (FieldType.array t).toString = some comp := by rw [hvm.findClass]; exact h1
  have f2 : U.vm.findClass ("[" ++ (FieldType.array t).toString) = some c := by rw [hvm.findClass]; exact h5
  unfold Cond.before Cond.holds
  simp only [Cond.value]
  rw [f1, Option.bind_some]
  refine (congrArg (fun o : Option Nat => (o.bind (fun c => (U.vm.classes[c]?).map fun (k : Class) => match k.kind with | .array _ ty => decide (ty = FieldType.array t) && decide (U.vm.findClass ("[" ++ (FieldType.array t).toString) = some c) | _ => false) == some true)) hi).trans ?_
  simp [hk', hkind, f2]
/-- the words that hold wherever the machine has gone on -/
abbrev zw_B : List Cond := lw_tbl.filter (fun w => goodWord w || zw_nest w)
theorem zw_warm {w : Cond} {args a' : Array Value} {s U : State} (hg : (goodWord w || zw_nest w) = true) (hW : s.WarmedH U.vm) (h : w.before args s = true) : w.before a' U = true := by
  rcases ze_or (a := goodWord w) (b := zw_nest w) hg with h1 | h1
  · exact word_at hW (good_of_word h1) h
  · cases w with
    | fieldLinkNest a b c d e f => exact va_Nw.use rfl (va_Nw.warmF hW (va_Nw.of rfl h))
    | methodLinkNest a b c d => exact va_Nw.use rfl (va_Nw.warmM hW (va_Nw.of rfl h))
    | arrayOver t =>
      cases t with
      | object C => exact va_AO.use (va_AO.moved hW.alike (va_AO.of h))
      | array C => exact zw_rows hW.alike h
      | _ => exact zw_face h1 hW h
    | _ => exact zw_face h1 hW h
/-- the script, outside the world -/
def zf_E (A : Nat → Prop) (E : Nat) (sc : List Int32) (s : State) : Prop := ∃ xs : Nat → Int32, va_X E sc.length xs s s.heap ∧ E < s.heap.size ∧ ¬ A E ∧ ∀ (j : Nat) (x : Int32), sc[j]? = some x → xs j = x
/-- a frame: the machine's side of it -/
def zf_C (p : Program) (R : Room) (s : State) (m : MethodId) (args : Array Value) (meth : Method) (c : Code) (cc : ByteArray) (nL : Nat) (own : String) (ini : Bool) (A : Nat → Prop) (E : Nat) (d : Nat) (sc : List Int32) : Prop :=
  p.tables.exec = Jvm.exec ∧ c.code = cc ∧ c.maxLocals = nL ∧ s.vm.findClass own = some m.cls ∧ (∀ w ∈ zw_B, w.before args s = true) ∧ (∀ q, s.heap.size ≤ q → A q) ∧ d ≤ R.frames ∧ 64 * d ≤ R.locals ∧ meth.locks = false ∧ (ini = true → meth.name = "<init>") ∧ zf_E A E sc s
/-- a state of a frame matches one of the model -/
def zf_R (s : State) (nL : Nat) (A : Nat → Prop) (E : Nat) (D : va_G) (W0 : va_W) (L : zL) (S : List Value) (h : List zO) (ls : Array Slot) (stk : List Value) (H : Heap) (locs : List Loc) : Prop :=
  ∃ (ws : va_W) (tys : xm_T) (lv : List (Nat × Value)), lv_has ls nL lv ∧ zm_L E ws L lv ∧ xf_2 (zm_V E ws) S stk ∧ xf_2 (zm_O E ws tys) h ws ∧ va_K D vwCl tys s ∧ va_P D vwCl ws H ∧ va_D A ws ∧ va_S A s.heap H locs ∧ xm_le W0 ws
def zf_G (p : Program) (l : Launch) (e : Env) (R : Room) (s : State) (m : MethodId) (args : Array Value) (below : List Frame) (meth : Method) (c : Code) (Q : State → Prop) (nL : Nat) (A : Nat → Prop) (E : Nat) (D : va_G) (W0 : va_W) (pc : Nat) (L : zL) (S : List Value) (h : List zO) (nc ns : Nat) : Prop :=
  ∀ (ls : Array Slot) (stk : List Value) (H : Heap) (locs : List Loc), zf_R s nL A E D W0 L S h ls stk H locs → W p l e R s m args below meth c H locs nc ns Q (F0 m pc ls stk)
/-- an instruction does what the model says -/
def zs_ok (own : String) (ini : Bool) (d : Nat) (sc : List Int32) (nL : Nat) (f : zF) (ins : Instr) (len : Nat) : Prop :=
  ∀ (p : Program) (l : Launch) (e : Env) (R : Room) (s : State) (m : MethodId) (args : Array Value) (below : List Frame) (meth : Method) (c : Code) (Q : State → Prop) (cc : ByteArray) (A : Nat → Prop) (E : Nat) (D : va_G) (W0 : va_W), zf_C p R s m args meth c cc nL own ini A E d sc →
  ∀ (pc : Nat), decode cc pc = .ok (ins, len) → ∀ (L : zL) (S : List Value) (h : List zO) (nc ns : Nat) (t : zT), nc ≤ R.cells → ns ≤ R.slots → f L S h = some t →
  zf_G p l e R s m args below meth c Q nL A E D W0 (pc + len) t.1 t.2.1 t.2.2 nc ns → zf_G p l e R s m args below meth c Q nL A E D W0 pc L S h nc ns
theorem zm_sum {E : Nat} {ws : va_W} : ∀ {S st : List Value}, xf_2 (zm_V E ws) S st → (st.map fun v => v.category).sum = zwd S
  | [], [], _ => rfl
  | u :: S, v :: st, h => by
    have h1 := zm_sum h.2
    show v.category + (st.map fun v => v.category).sum = u.category + zwd S
    rw [h1, zm_cat h.1]
  | [], _ :: _, h => h.elim
  | _ :: _, [], h => h.elim
