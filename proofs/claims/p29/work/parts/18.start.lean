/-! THE CLAIM OUT OF ONE WALK OF THE LAW'S BODY. Your part is whole_start (and what it stands on); all else here is the same for every law, but numbers. -/
def R_law : String := "UnwindTowerLaw"
def lw_P (b : Addr) (xs : List Int32) (args : Array Value) (s : State) : Prop := args = #[.ref b] ∧ s.IntsAt b xs ∧ xs.length ≤ 260 ∧ (Jvm.Cond.and given_1 narrow_1).before args s = true
def lw_Q (_ : Array Value) (s : State) (o : Outcome) (t : State) : Prop := o = .returned (some (.int 1)) ∧ Framed s o t [] room_1.cells room_1.slots
def lw_Z (below : List Frame) (a : Array Value) (s : State) : State → Prop := fun t => ∃ o, t.status = .running ∧ Ended t below o ∧ lw_Q a s o t
/-- the law's own end, with 1 on the stack, nothing written that was there before, its room as the claim has it -/
theorem lw_ret {p : Program} {l : Launch} {e : Env} {s : State} {m : MethodId} {below : List Frame} {meth : Method} {c : Code} {b : Nat} (hx : p.tables.exec = Jvm.exec) (hb : c.code = code) (hr : meth.sig.returnType = ret) (hlocks : meth.locks = false) {pc : Nat} {H : Heap} {ls : Array Slot} (hdg : decode code pc = .ok (.ireturn, 1)) : W p l e room_1 s m #[Value.ref b] below meth c H [] room_1.cells room_1.slots (lw_Z below #[Value.ref b] s) (F0 m pc ls [.int 1]) := by
  intro T hT X
  obtain ⟨fs, hret, hrun, hended, hW, hframe⟩ := X.leave (v := some (.int 1)) (hlocks := hlocks) (fun h => by rw [hr] at h; cases h)
  have hmeth' : T.vm.method? m = some meth := X.method'
  refine ⟨T.setFrames fs, ?_, .returned (some (.int 1)), hrun, hended, rfl, ⟨_, rfl⟩, hW, hframe⟩
  jvm_step X.here [X.here.top, hx, hb, hdg, hmeth', hr, ret, narrow_b1]
  (try refine ⟨rfl, ?_⟩); (try refine ⟨rfl, ?_⟩)
  first | (intro acts; rw [hret _ acts rfl rfl rfl]) | rw [hret _ _ rfl rfl rfl]
  exact Steps.refl _
/-- what holds at the law's entry: the machine, the code, the tables' words (any of lw_tbl by 'hts w (by decide +kernel)'), the script of L ints xs at the cell b, what the Statement gives of the start (any of its parts by flat_of_before) -/
def lw_At (p : Program) (s : State) (m : MethodId) (meth : Method) (c : Code) (b L : Nat) (xs : Nat → Int32) : Prop :=
  p.tables.exec = Jvm.exec ∧ c.code = code ∧ meth.sig.returnType = ret ∧ c.maxLocals = 8 ∧ s.vm.findClass R_law = some m.cls ∧ (∀ w ∈ lw_tbl, w.before #[Value.ref b] s = true) ∧ va_X b L xs s s.heap ∧ b < s.heap.size ∧ meth.locks = false ∧ (Jvm.Cond.and given_1 narrow_1).before #[Value.ref b] s = true
/-! what holds at the start -/
theorem zw_m1 (i : Nat) {w : Cond} (h : tables_1_1[i]? = some w) : w ∈ lw_tbl := List.mem_append_right _ (List.mem_append_left _ (List.mem_of_getElem? h))
theorem zw_m2 (i : Nat) {w : Cond} (h : tables_1_2[i]? = some w) : w ∈ lw_tbl := List.mem_append_right _ (List.mem_append_right _ (List.mem_append_left _ (List.mem_of_getElem? h)))
theorem zw_m3 (i : Nat) {w : Cond} (h : tables_1_3[i]? = some w) : w ∈ lw_tbl := List.mem_append_right _ (List.mem_append_right _ (List.mem_append_right _ (List.mem_append_left _ (List.mem_of_getElem? h))))
theorem zw_m4 (i : Nat) {w : Cond} (h : tables_1_4[i]? = some w) : w ∈ lw_tbl := List.mem_append_right _ (List.mem_append_right _ (List.mem_append_right _ (List.mem_append_right _ (List.mem_append_left _ (List.mem_of_getElem? h)))))
theorem zw_m5 (i : Nat) {w : Cond} (h : tables_1_5[i]? = some w) : w ∈ lw_tbl := List.mem_append_right _ (List.mem_append_right _ (List.mem_append_right _ (List.mem_append_right _ (List.mem_append_right _ (List.mem_append_left _ (List.mem_of_getElem? h))))))
theorem zw_m6 (i : Nat) {w : Cond} (h : tables_1_6[i]? = some w) : w ∈ lw_tbl := List.mem_append_right _ (List.mem_append_right _ (List.mem_append_right _ (List.mem_append_right _ (List.mem_append_right _ (List.mem_append_right _ (List.mem_of_getElem? h))))))
theorem zv_K1 {args : Array Value} {s : State} (hts : ∀ w ∈ lw_tbl, w.before args s = true) (htB : ∀ w ∈ zw_B, w.before args s = true) : ∀ q ∈ vwCl, ∃ (cC : ClassId) (iS : Nat → Nat), u_Kn s q.1 q.2.1 q.2.2 cC iS := List.forall_mem_cons.mpr ⟨u_known (n := 13) htB zu_0 (hts _ (zw_m1 168 (by decide +kernel))), List.forall_mem_cons.mpr ⟨u_known (n := 15) htB zu_1 (hts _ (zw_m1 233 (by decide +kernel))), List.forall_mem_cons.mpr ⟨u_known (n := 5) htB zu_2 (hts _ (zw_m1 129 (by decide +kernel))), List.forall_mem_cons.mpr ⟨u_known (n := 6) htB zu_3 (hts _ (zw_m2 139 (by decide +kernel))), List.forall_mem_cons.mpr ⟨u_known (n := 18) htB zu_4 (hts _ (zw_m2 77 (by decide +kernel))), List.forall_mem_cons.mpr ⟨u_known (n := 6) htB zu_5 (hts _ (zw_m2 0 (by decide +kernel))), List.forall_mem_cons.mpr ⟨u_known (n := 19) htB zu_6 (hts _ (zw_m1 30 (by decide +kernel))), List.forall_mem_cons.mpr ⟨u_known (n := 2) htB zu_7 (hts _ (zw_m1 152 (by decide +kernel))), List.forall_mem_cons.mpr ⟨u_known (n := 13) htB zu_8 (hts _ (zw_m2 83 (by decide +kernel))), List.forall_mem_cons.mpr ⟨u_known (n := 12) htB zu_9 (hts _ (zw_m1 22 (by decide +kernel))), List.forall_mem_cons.mpr ⟨u_known (n := 5) htB zu_10 (hts _ (zw_m5 178 (by decide +kernel))), fun _ h => nomatch h⟩⟩⟩⟩⟩⟩⟩⟩⟩⟩⟩
theorem zv_K {args : Array Value} {s : State} (hts : ∀ w ∈ lw_tbl, w.before args s = true) (htB : ∀ w ∈ zw_B, w.before args s = true) : ∃ D : va_G, va_K D vwCl [] s := by
  have h2 : ∀ c : Nat, ∃ (cC : ClassId) (iS : Nat → Nat), ∀ q : vw_C, vwCl[c]? = some q → u_Kn s q.1 q.2.1 q.2.2 cC iS := by
    intro c
    cases hc : vwCl[c]? with
    | none => exact ⟨0, fun _ => 0, fun q h => nomatch h⟩
    | some q =>
      obtain ⟨cC, iS, h⟩ := zv_K1 hts htB q (List.mem_of_getElem? hc)
      exact ⟨cC, iS, fun q' hq => by cases hq; exact h⟩
  exact ⟨(fun c => (h2 c).choose, fun c => (h2 c).choose_spec.choose), fun c q hq => (h2 c).choose_spec.choose_spec q hq, fun k q h => by simp at h⟩
/-- the law in the model: on this script it ends with 1, in the room -/
def z_law (sc : List Int32) : Prop := ∃ (F : Nat) (r : zR), zl zg_FD (zx zg_FD zg_MT sc F 1200) 1200 sc zg_c171 zg_w171 F 0 (zargs 0 [.retAddr 0]) [] [] 0 0 = some r ∧ r.1 = some (.int 1) ∧ r.2.2.1 ≤ room_1.cells ∧ r.2.2.2 ≤ room_1.slots
theorem z_lawCode : zg_CC 171 = code ∧ zg_ML 171 = 8 ∧ zini 171 = false ∧ (zg_Y 171).cls = R_law := ⟨rfl, rfl, by decide +kernel, rfl⟩
/-- the machine's law out of the model's -/
theorem z_whole {p : Program} {e : Env} {s : State} {m : MethodId} {below : List Frame} {meth : Method} {c : Code} (l : Launch) {b N : Nat} {xs : Nat → Int32} (C0 : lw_At p s m meth c b N xs) (hz : z_law ((List.range N).map xs)) : W p l e room_1 s m #[Value.ref b] below meth c s.heap [] 0 0 (lw_Z below #[Value.ref b] s) (entryFrame m ([Value.ref b] : List Value).toArray 8) := by
  obtain ⟨F, r, hrun, hr1, hrc, hrs⟩ := hz
  obtain ⟨hx, hb, hr, hml, hown, hts, hX, hbl, hlocks, hgv⟩ := C0
  have htB : ∀ w ∈ zw_B, w.before #[Value.ref b] s = true := fun w hw => hts w (List.mem_filter.mp hw).1
  obtain ⟨D, hK⟩ := zv_K hts htB
  have hA : ∀ q : Nat, s.heap.size ≤ q → (fun q : Nat => s.heap.size ≤ q) q := fun _ h => h
  have hE : zf_E (fun q => s.heap.size ≤ q) b ((List.range N).map xs) s := by
    refine ⟨xs, ?_, hbl, Nat.not_le.mpr hbl, fun j x hj => ?_⟩
    · rw [List.length_map, List.length_range]; exact hX
    · rw [List.getElem?_map] at hj
      have hlt : j < N := by
        rcases Nat.lt_or_ge j N with q | q
        · exact q
        · rw [List.getElem?_eq_none (by rw [List.length_range]; exact q)] at hj; cases hj
      rw [List.getElem?_range hlt] at hj
      exact Option.some.inj hj
  obtain ⟨e1, e2, e3, e4⟩ := z_lawCode
  have hG : zgood R_law code 8 false zg_c171 zg_w171 := by
    have := (zk_m171).1
    rw [e1, e2, e3, e4] at this
    exact this
  have C : zf_C p room_1 s m #[Value.ref b] meth c code 8 R_law false (fun q => s.heap.size ≤ q) b 1200 ((List.range N).map xs) :=
    ⟨hx, hb, hml, hown, htB, hA, by decide, by decide, hlocks, (fun h => nomatch h), hE⟩
  have K := zl_ok (Q := lw_Z below #[Value.ref b] s) (W0 := []) (below := below) (l := l) (e := e) (r := r) (D := D) C (fun k as h R0 hh => zx_meth 1200 k as h R0 hh) hG
    (fun j pc ln op x y z w hj h84 h87 L S h nc ns hzr => by
      intro ls stk H locs hR
      obtain ⟨ws, tys, lv, q1, q2, q3, q4, hK', hP, hD, hS, hM⟩ := hR
      rcases hG.1 j _ hj with h0 | ⟨hdec, hcnd, -, -⟩
      · exact absurd (show op = 200 from h0) (by omega)
      have hrow : zretB 171 op z = true := by
        rcases (zk_m171).2.2.2.2 j _ hj with h0 | h0
        · exact absurd (show op = 200 from h0) (by omega)
        · exact h0
      have hln : ln = 1 := by
        rcases ze_or (ze_and hcnd).1 with hh | hh
        · exact absurd (Nat.eq_of_beq_eq_true hh) (by omega)
        · rw [Nat.eq_of_beq_eq_true hh]
          rcases (show op = 84 ∨ op = 85 ∨ op = 86 ∨ op = 87 by omega) with rfl | rfl | rfl | rfl <;> rfl
      subst hln
      obtain ⟨-, hmr, hms⟩ := zr_counts hzr
      have hop : op = 85 := by
        rcases (show op = 84 ∨ op = 85 ∨ op = 86 ∨ op = 87 by omega) with rfl | rfl | rfl | rfl
        · exact absurd ((show decide (zg_RT 171 = none) = true from hrow).symm.trans (by decide +kernel : decide (zg_RT 171 = none) = false)) (by decide)
        · rfl
        · exact absurd (show false = true from hrow) (by decide)
        · exact absurd ((show decide (zg_RT 171 = some .long) = true from hrow).symm.trans (by decide +kernel : decide (zg_RT 171 = some .long) = false)) (by decide)
      subst hop
      unfold zr at hzr
      split at hzr
      · obtain ⟨g1, -⟩ := ze_b hzr
        exact absurd g1 (by decide)
      · rename_i v
        obtain ⟨g1, g2⟩ := ze_b hzr
        have g3 : v = .int 1 := by cases g2; exact Option.some.inj hr1
        subst g3
        obtain ⟨x0, st, rfl, m0, q5⟩ := xf_2_cons q3
        have z5 := xf_2_nil q5
        subst z5
        cases m0
        refine va_forget (fun q hq => hS.2.2 q hq) ?_
        refine W.widen (k := room_1.cells) (n := room_1.slots) (by rw [← hmr]; exact hrc) (by rw [← hms]; exact hrs) ?_
        exact lw_ret hx hb hr hlocks hdec
      · cases hzr)
    F 0 (zargs 0 [.retAddr 0]) [] [] 0 0 hrun hrc hrs
  have e0 := lg_entry_eq m [Value.ref b] 8
  rw [e0]
  have hlv := lv_entry [Value.ref b] (n := 8) (Nat.le_of_ble_eq_true rfl)
  have hpc : zpc zg_c171 0 = 0 := (zk_m171).2.2.1
  rw [hpc] at K
  exact K _ [] s.heap [] ⟨[], [], lv_args 0 [Value.ref b], hlv, zm_args (E := b) (ws := []) 0 (as := [.retAddr 0]) (vs := [Value.ref b]) ⟨rfl, trivial⟩, trivial, trivial, hK, fun k q h => by simp at h, ⟨fun i j p q h => by simp at h, fun k q h => by simp at h⟩, va_S.rf, xm_le_rfl []⟩
