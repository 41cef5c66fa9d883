/-! THE CLAIM OUT OF ONE WALK OF THE LAW'S BODY. Your part is whole_start (and what it stands on); all else here is the same for every law, but numbers. -/
def R_law : String := "UnwindTowerLaw"
def lw_P (b : Addr) (xs : List Int32) (args : Array Value) (s : State) : Prop := args = #[.ref b] ∧ s.IntsAt b xs ∧ xs.length ≤ 5 ∧ (Jvm.Cond.and given_1 narrow_1).before args s = true
/-- what a walk over the start with the record d0 says of its end, said of the start itself -/
theorem lw_closed {s t : State} {o : Outcome} {d0 : Drawn} {L : List Loc} {k n : Nat} (hd0 : s.drawn.sameBut d0 lw_cs) (hv : ∃ v, o = .returned v) (hW : (s.setDrawn d0).WarmedH t.vm) (hs : (s.setDrawn d0).sameButNew ({ t with vm := s.vm } : State) L k n) : State.butDraws s t lw_cs (fun t1 => Framed s o t1 L k n) := by
  have h2 : t.drawn = d0 := congrArg State.drawn hs.1
  refine ⟨⟨hv, hW, State.sameButNew.setDrawn hs s.drawn⟩, ?_, by decide⟩
  rw [h2]
  exact hd0
def lw_Q (_ : Array Value) (s : State) (o : Outcome) (t : State) : Prop := o = .returned (some (.int 1)) ∧ State.butDraws s t lw_cs (fun t1 => Framed s o t1 [] room_1.cells room_1.slots)
def lw_Z (below : List Frame) (a : Array Value) (s : State) : State → Prop := fun t => ∃ o, t.status = .running ∧ Ended t below o ∧ lw_Q a s o t
/-- the law's own end, with 1 on the stack, nothing written that was there before, its room as the claim has it; d0: the record of draws at this point (at the entry s.drawn: begin with 'refine W.base ?_' and 'have hd0 := Drawn.sameBut.refl s.drawn lw_cs') -/
theorem lw_ret {p : Program} {l : Launch} {e : Env} {s : State} {m : MethodId} {below : List Frame} {meth : Method} {c : Code} {b : Nat} {d0 : Drawn} (hd0 : s.drawn.sameBut d0 lw_cs) (hx : p.tables.exec = Jvm.exec) (hb : c.code = code) (hr : meth.sig.returnType = ret) (hlocks : meth.locks = false) {pc : Nat} {H : Heap} {ls : Array Slot} (hdg : decode code pc = .ok (.ireturn, 1)) : W p l e room_1 (s.setDrawn d0) m #[Value.ref b] below meth c H [] room_1.cells room_1.slots (lw_Z below #[Value.ref b] s) (F0 m pc ls [.int 1]) := by
  intro T hT X
  obtain ⟨fs, hret, hrun, hended, hW, hframe⟩ := X.leave (v := some (.int 1)) (hlocks := hlocks) (fun h => by rw [hr] at h; cases h)
  have hmeth' : T.vm.method? m = some meth := X.method'
  refine ⟨T.setFrames fs, ?_, .returned (some (.int 1)), hrun, hended, rfl, lw_closed hd0 ⟨_, rfl⟩ hW hframe⟩
  jvm_step X.here [X.here.top, hx, hb, hdg, hmeth', hr, ret, narrow_b1]
  (try refine ⟨rfl, ?_⟩); (try refine ⟨rfl, ?_⟩)
  first | (intro acts; rw [hret _ acts rfl rfl rfl]) | rw [hret _ _ rfl rfl rfl]
  exact Steps.refl _
/-- what holds at the law's entry: the machine, the code, the tables' words (any of lw_tbl by 'hts w (by decide +kernel)'), the script of L ints xs at the cell b, what the Statement gives of the start (any of its parts by flat_of_before) -/
def lw_At (p : Program) (s : State) (m : MethodId) (meth : Method) (c : Code) (b L : Nat) (xs : Nat → Int32) : Prop :=
  p.tables.exec = Jvm.exec ∧ c.code = code ∧ meth.sig.returnType = ret ∧ c.maxLocals = 9 ∧ s.vm.findClass R_law = some m.cls ∧ (∀ w ∈ lw_tbl, w.before #[Value.ref b] s = true) ∧ va_X b L xs s s.heap ∧ b < s.heap.size ∧ meth.locks = false ∧ (Jvm.Cond.and given_1 narrow_1).before #[Value.ref b] s = true
-- ===== YOUR PART BEGINS =====
/-- a row of a checked method -/
theorem xe_rokOf {own : String} {k : Nat} {cc : ByteArray} {nL : Nat} {ini : Bool} {ex : List (Nat × Nat × Nat × Nat)} {code : List xv_I} {sw : List (List Nat)} {sites : List (Nat × Nat × Nat × Nat × Nat)} (h1 : ∀ i ∈ code, i.2.2.1 = 89 ∨ xe_rowB k cc nL ini ex code sw i = true) (h3 : xe_siteB sites code = true) (hs : ∀ t ∈ sites, xi_site own t) (j : Nat) (i : xv_I) (hj : code[j]? = some i) : xe_rok own cc nL ini ex code sw i := by
  rcases h1 i (List.mem_of_getElem? hj) with h6 | h6
  · exact Or.inr (Or.inl h6)
  have h6 : cond (Nat.beq i.2.2.1 200) true (and (not (Nat.beq i.2.2.1 89)) (and (decide (decode cc i.1 = .ok (xe_ins code sw i, i.2.1))) (and (xe_cnd nL ini sw i) (and (cond (Nat.beq i.2.2.1 90) (and ex.isEmpty (xe_th90 cc i.1 i.2.2.2.2.1 i.2.2.2.2.2.1)) true) (and (cond (Nat.beq i.2.2.1 91) (and ex.isEmpty (xe_th91 cc i.1 i.2.2.2.2.1 i.2.2.2.2.2.1)) true) (xe_retB k i.2.2.1 i.2.2.2.2.2.1)))))) = true := h6
  cases h200 : Nat.beq i.2.2.1 200 with
  | true => exact Or.inl (xe_beq h200)
  | false =>
    rw [h200] at h6
    obtain ⟨g0, h6⟩ := xe_and (a := not (Nat.beq i.2.2.1 89)) h6
    obtain ⟨g1, h6⟩ := xe_and h6
    obtain ⟨g2, h6⟩ := xe_and h6
    obtain ⟨g3, h6⟩ := xe_and h6
    obtain ⟨g4, h6⟩ := xe_and h6
    have h7 := List.all_eq_true.mp h3 i (List.mem_of_getElem? hj)
    refine Or.inr (Or.inr ⟨of_decide_eq_true g1, g2, fun hn => ?_, fun h90 => ?_, fun h91 => ?_⟩)
    · have h8 : cond (xi_need i.2.2.1) (sites.any fun t => xe_eq5 t i.2.2) true = true := h7
      rw [hn] at h8
      obtain ⟨t, ht, he⟩ := List.any_eq_true.mp h8
      have he := xe_eq5Of he
      rw [← he]
      exact hs t ht
    · rw [h90] at g3
      obtain ⟨q1, q2⟩ := xe_and (a := ex.isEmpty) (b := xe_th90 cc i.1 i.2.2.2.2.1 i.2.2.2.2.2.1) g3
      exact ⟨List.isEmpty_iff.mp q1, q2⟩
    · rw [h91] at g4
      obtain ⟨q1, q2⟩ := xe_and (a := ex.isEmpty) (b := xe_th91 cc i.1 i.2.2.2.2.1 i.2.2.2.2.2.1) g4
      exact ⟨List.isEmpty_iff.mp q1, q2⟩
theorem xv_good1 : xe_good R_law code 9 false [] xv_code1 [] := by
  refine ⟨xe_rokOf (k := 183) (sites := xg_SL) ?_ (by decide +kernel) xs_SL, xe_seqOf (by decide +kernel)⟩
  have h : xv_code1.all (fun i => or (Nat.beq i.2.2.1 89) (xe_rowB 183 code 9 false [] xv_code1 [] i)) = true := by decide +kernel
  intro i hi
  rcases xe_or (List.all_eq_true.mp h i hi) with h1 | h1
  · exact Or.inl (xe_beq h1)
  · exact Or.inr h1
theorem xv_good2 : xe_good R_law code 9 false [] xg_c183 xg_w183 := xk_m183.1
theorem xv_eqLOf : ∀ {a b : xv_L}, xq_eqL a b = true → a = b
  | [], [], _ => rfl
  | [], _ :: _, h => nomatch h
  | _ :: _, [], h => nomatch h
  | (i, t, u, v) :: a, (i', t', u', v') :: b, h => by
    have h' : cond (and (Nat.beq i i') (and (Nat.beq t t') (and (Nat.beq u u') (Nat.beq v v')))) (xq_eqL a b) false = true := h
    cases hb : and (Nat.beq i i') (and (Nat.beq t t') (and (Nat.beq u u') (Nat.beq v v'))) with
    | false => rw [hb] at h'; cases h'
    | true =>
      rw [hb] at h'
      obtain ⟨g1, g⟩ := xe_and hb
      obtain ⟨g2, g⟩ := xe_and g
      obtain ⟨g3, g4⟩ := xe_and g
      rw [xe_beq g1, xe_beq g2, xe_beq g3, xe_beq g4, xv_eqLOf h']
/-- the law, by its two stretches, on the scripts of a box -/
theorem xv_go {p : Program} {e : Env} {s : State} {m : MethodId} {below : List Frame} {meth : Method} {c : Code} {l : Launch} (hst : l.stackTraces = false) {b N : Nat} {xs : Nat → Int32} (C0 : lw_At p s m meth c b N xs) {sc : List xv_V} (hs0 : ∀ q : xv_V, sc[0]? = some q → ∀ E : xm_E, xm_V E [] q (.int (Int32.ofNat N))) (hs1 : ∀ (j : Nat) (q : xv_V), sc[j + 1]? = some q → j < N ∧ ∀ E : xm_E, xm_V E [] q (.int (xs j)))
    {r1 : xv_R} (hp1 : xv_p1 = some r1) (h9 : r1.1 = 9) (hc1 : r1.2.2.2.1 ≤ 600000) (hs1' : r1.2.2.2.2 ≤ 7300000) (hp2 : xv_fin (xv_p2 sc r1.2.2.1 r1.2.2.2.1 r1.2.2.2.2) = true) :
    W p l e room_1 s m #[Value.ref b] below meth c s.heap [] 0 0 (lw_Z below #[Value.ref b] s) (entryFrame m ([Value.ref b] : List Value).toArray 9) := by
  obtain ⟨hx, hb, hr, hml, hown, hts, hX, hbl, hlocks, hgv⟩ := C0
  have hsF := flat_of_before _ hgv
  have htB : ∀ w ∈ xw_B, w.before #[Value.ref b] s = true := fun w hw => hts w (List.mem_filter.mp hw).1
  obtain ⟨D, hK⟩ := xv_K hts htB
  obtain ⟨E, hE⟩ := xv_E hts hsF hX hbl
  have hF : xf_F s := ⟨xv_ST hts hsF, xv_NC hsF⟩
  obtain ⟨r2, hp2, g1, g2, g3, g4⟩ := xv_finOf hp2
  have g3 : r2.2.2.2.1 ≤ room_1.cells := Nat.le_trans g3 (Nat.le_of_ble_eq_true rfl)
  have g4 : r2.2.2.2.2 ≤ room_1.slots := Nat.le_trans g4 (Nat.le_of_ble_eq_true rfl)
  have hc1 : r1.2.2.2.1 ≤ room_1.cells := Nat.le_trans hc1 (Nat.le_of_ble_eq_true rfl)
  have hs1' : r1.2.2.2.2 ≤ room_1.slots := Nat.le_trans hs1' (Nat.le_of_ble_eq_true rfl)
  have hE1 := hE [] (fun q h => nomatch h) (fun j q h => nomatch h)
  have hE2 := hE sc hs0 hs1
  have hA : ∀ q : Nat, s.heap.size ≤ q → (fun q : Nat => s.heap.size ≤ q) q := fun _ h => h
  have Cof : ∀ sc' : List xv_V, xf_E (fun q => s.heap.size ≤ q) E sc' s → xf_C p room_1 s m #[Value.ref b] meth c code 9 R_law false (fun q => s.heap.size ≤ q) E 40 sc' :=
    fun sc' h => ⟨hx, hb, hml, hown, htB, hA, by decide, by decide, hlocks, (fun h => nomatch h), h⟩
  -- behind the loop's head
  have K2 : xf_G p l e room_1 s m #[Value.ref b] below meth c (lw_Z below #[Value.ref b] s) 9 (fun q => s.heap.size ≤ q) E D [] (xe_pc (xg_c183.drop 13)) xv_E9 [] r1.2.2.1 r1.2.2.2.1 r1.2.2.2.2 := by
    refine xl_ok (r := r2) (E9 := []) (ex := []) (sw := xg_w183) (Cof sc hE2.1) hF (fun k as h R0 hh => xw_meth hst 40 k as h R0 hh) xv_good2 (Or.inr ⟨rfl, Or.inl g1⟩) ?_ ?_ ?_ ?_ 1000000 13 xv_E9 [] r1.2.2.1 r1.2.2.2.1 r1.2.2.2.2 (by rw [← xq_drop_eq]; exact hp2) g3 g4
    · intro k pc h nc ns hrr hk
      rw [hrr] at g1
      exact absurd (show 2 + k = 1 from g1) (by omega)
    · intro j pc ln op x y z w hj h84 h88 L S h nc ns hxr ls stk H locs hR
      obtain ⟨ws, tys, lv, q1, q2, q3, q4, hK', hP, hD, hS, hM⟩ := hR
      have hdec : decode code pc = .ok (xe_ins xg_c183 xg_w183 (pc, ln, op, x, y, z, w), ln) ∧ xe_cnd 9 false xg_w183 (pc, ln, op, x, y, z, w) = true := by
        rcases xv_good2.1 j _ hj with h0 | h0 | ⟨h0, h0', -⟩
        · exact absurd (show op = 200 from h0) (by omega)
        · exact absurd (show op = 89 from h0) (by omega)
        · exact ⟨h0, h0'⟩
      obtain ⟨hdec, hcnd⟩ := hdec
      have hget : ∀ {v : xv_V} {ok : Bool}, xr_get v ok h nc ns = some r2 → ok = true ∧ v = (0, 2147483649, 2147483649) := by
        intro v ok hg
        obtain ⟨z1, z2⟩ := xe_cond hg
        have z3 := Option.some.inj z2
        rw [← z3] at g2
        exact ⟨z1, g2⟩
      have hmr := xp_r hxr
      have hop : op = 84 ∨ op = 85 ∨ op = 86 ∨ op = 87 ∨ op = 88 := by omega
      rcases hop with hop | hop | hop | hop | hop
      · subst hop
        have h1 : cond (Nat.beq (xq_len S) 0) (some ((0, (2, 0, 0), h, nc, ns) : xv_R)) none = some r2 := hxr
        obtain ⟨-, z2⟩ := xe_cond h1
        have z3 := Option.some.inj z2
        rw [← z3] at g1
        cases g1
      · subst hop
        have h1 : (xq_pop S fun v S => cond (Nat.beq (xq_len S) 0) (xr_get v (cond (Nat.beq z 1) (xq_isZ v) (xq_isI v)) h nc ns) none) = some r2 := hxr
        obtain ⟨v, S1, rfl, h2⟩ := xe_pop h1
        obtain ⟨z1, h3⟩ := xe_cond h2
        have z1 := xe_beq z1
        rw [xq_len_eq] at z1
        have z4 := List.eq_nil_of_length_eq_zero z1
        subst z4
        obtain ⟨x0, st, rfl, m0, q5⟩ := xf_2_cons q3
        have z5 := xf_2_nil q5
        subst z5
        obtain ⟨-, hv⟩ := hget h3
        subst hv
        obtain ⟨n, rfl, hn⟩ := xm_V1 m0
        have hn1 : n = 1 := xb_inj (hn.trans (by decide +kernel))
        subst hn1
        have hln : ln = 1 := xe_lnOf hcnd rfl
        subst hln
        refine va_forget (fun q hq => hS.2.2 q hq) ?_
        refine W.widen (k := room_1.cells) (n := room_1.slots) (by rw [← hmr.1]; exact g3) (by rw [← hmr.2]; exact g4) ?_
        exact lw_ret (d0 := s.drawn) (Drawn.sameBut.refl s.drawn lw_cs) hx hb hr hlocks hdec
      · subst hop
        have h1 : (xq_pop S fun v S => cond (Nat.beq (xq_len S) 0) (xr_get v (xq_isA v) h nc ns) none) = some r2 := hxr
        obtain ⟨v, S1, rfl, h2⟩ := xe_pop h1
        obtain ⟨z1, h3⟩ := xe_cond h2
        obtain ⟨z2, z3⟩ := hget h3
        rw [z3] at z2
        cases z2
      · subst hop
        have h1 : (xq_pop S fun v S => cond (Nat.beq (xq_len S) 0) (xr_get v (Nat.beq v.1 3) h nc ns) none) = some r2 := hxr
        obtain ⟨v, S1, rfl, h2⟩ := xe_pop h1
        obtain ⟨z1, h3⟩ := xe_cond h2
        obtain ⟨z2, z3⟩ := hget h3
        rw [z3] at z2
        cases z2
      · subst hop
        have h1 : (xq_pop S fun v S => cond (Nat.beq (xq_len S) 0) (xr_get v (Nat.beq v.1 4) h nc ns) none) = some r2 := hxr
        obtain ⟨v, S1, rfl, h2⟩ := xe_pop h1
        obtain ⟨z1, h3⟩ := xe_cond h2
        obtain ⟨z2, z3⟩ := hget h3
        rw [z3] at z2
        cases z2
    · intro j pc ln op x y z w hj h90 hd6 L S h nc ns hS4 hrr
      rw [hrr] at g1
      exact absurd (show 2 + x = 1 from g1) (by omega)
    · intro j pc ln x y z w hj
      exact absurd rfl ((xk_m183.2.2.2.2.1 j _ hj).1)
  -- up to it
  have e0 := lg_entry_eq m [Value.ref b] 9
  rw [e0]
  have hlv := lv_entry [Value.ref b] (n := 9) (Nat.le_of_ble_eq_true rfl)
  have K1 : xf_G p l e room_1 s m #[Value.ref b] below meth c (lw_Z below #[Value.ref b] s) 9 (fun q => s.heap.size ≤ q) E D [] (xe_pc (xv_code1.drop 0)) [(0, (7, 0, 0))] [] [] 0 0 := by
    refine xl_ok (r := r1) (E9 := xv_E9) (ex := []) (sw := []) (Cof [] hE1.1) hF (fun k as h R0 hh => xw_meth hst 40 k as h R0 hh) xv_good1 (Or.inr ⟨rfl, Or.inr h9⟩) ?_ ?_ ?_ ?_ 1000000 0 [(0, (7, 0, 0))] [] [] 0 0 hp1 hc1 hs1'
    · intro k pc h nc ns hrr hk
      rw [hrr] at h9
      exact absurd (show 2 + k = 9 from h9) (by omega)
    · intro j pc ln op x y z w hj h84 h88 L S h nc ns hxr
      have hno : ∀ i ∈ xv_code1, ¬ (84 ≤ i.2.2.1 ∧ i.2.2.1 ≤ 88) := by decide +kernel
      exact absurd ⟨h84, h88⟩ (hno _ (List.mem_of_getElem? hj))
    · intro j pc ln op x y z w hj h90 hd6 L S h nc ns hS4 hrr
      have hno : ∀ i ∈ xv_code1, ¬ (i.2.2.1 = 90 ∨ i.2.2.1 = 91) := by decide +kernel
      exact absurd h90 (hno _ (List.mem_of_getElem? hj))
    · intro j pc ln x y z w hj L h nc ns hL hrr
      have hL' := xv_eqLOf hL
      subst hL'
      have hpc : ∀ i ∈ xv_code1, i.2.2.1 = 89 → i.1 = xe_pc (xg_c183.drop 13) := by decide +kernel
      have hpc' := hpc _ (List.mem_of_getElem? hj) rfl
      dsimp only at hpc'
      rw [hpc']
      rw [hrr] at K2
      exact K2
  have K3 := K1 _ [] s.heap [] ⟨[], [], lv_args 0 [Value.ref b], hlv, ⟨⟨rfl, Or.inr (Or.inr (Or.inl ⟨rfl, hE1.2.symm⟩))⟩, trivial⟩, trivial, trivial, hK, fun k q h => by simp at h, ⟨fun i j p q h => by simp at h, fun k q h => by simp at h⟩, va_S.rf, xm_le_rfl []⟩
  exact K3
theorem xv_len {N n : Nat} (h : N = n) (hn : n < 10) : ∀ E : xm_E, xm_V E [] (0, n + 2147483648, n + 2147483648) (.int (Int32.ofNat N)) := by
  intro E
  have e1 := xb_ofNat (n := n) (by omega)
  rw [h]
  exact Or.inl ⟨rfl, Nat.le_of_eq e1.symm, Nat.le_of_eq e1⟩
/-- YOUR PART: from the entry, for every script of at most 5 ints, the law comes to its end with true ('hflags': the launch's flags, for a law that throws: no stack traces) -/
theorem whole_start {p : Program} {e : Env} {s : State} {m : MethodId} {below : List Frame} {meth : Method} {c : Code} (l : Launch) (hflags : l.flags = flags0) {b L : Nat} {xs : Nat → Int32} (hL : L ≤ 5) (C0 : lw_At p s m meth c b L xs) : W p l e room_1 s m #[Value.ref b] below meth c s.heap [] 0 0 (lw_Z below #[Value.ref b] s) (entryFrame m ([Value.ref b] : List Value).toArray 9) := by
  have hst : l.stackTraces = false := by
    unfold Launch.stackTraces
    rw [hflags]
    decide +kernel
  obtain ⟨r1, hp1, h9, hc1, hs1, hent, hshort⟩ := xv_all
  by_cases hL5 : L = 5
  · obtain ⟨k, hk, hk1⟩ := xv_and31 (xs 0)
    obtain ⟨q1, hq1, hm1⟩ := xv_partsOf (xs 1) (xv_C1.getD k []) 0 (Nat.zero_le _)
    rw [← xv_cov k hk] at hq1
    obtain ⟨t, ht, he⟩ := List.mem_map.mp hq1
    obtain ⟨ht1, ht2⟩ := List.mem_filter.mp ht
    have ht2 : t.1 = k := xe_beq ht2
    have h1 := hent t ht1
    obtain ⟨q2, hq2, hm2⟩ := xv_partsOf (xs 2) t.2.2.1 0 (Nat.zero_le _)
    obtain ⟨q3, hq3, hm3⟩ := xv_partsOf (xs 3) t.2.2.2.1 0 (Nat.zero_le _)
    obtain ⟨q4, hq4, hm4⟩ := xv_partsOf (xs 4) t.2.2.2.2 0 (Nat.zero_le _)
    have h2 := List.all_eq_true.mp h1 q2 hq2
    have h3 := List.all_eq_true.mp h2 q3 hq3
    have h4 := List.all_eq_true.mp h3 q4 hq4
    refine xv_go hst C0 ?_ ?_ hp1 h9 hc1 hs1 h4
    · intro q hq E
      have hq' : q = (0, 2147483653, 2147483653) := (Option.some.inj hq).symm
      rw [hq']
      exact xv_len hL5 (by decide) E
    · intro j q hq
      rcases (show j = 0 ∨ j = 1 ∨ j = 2 ∨ j = 3 ∨ j = 4 ∨ 5 ≤ j by omega) with rfl | rfl | rfl | rfl | rfl | hj
      · have hq' : q = (5, t.1, 0) := (Option.some.inj hq).symm
        rw [hq', ht2]
        exact ⟨by omega, fun _ => Or.inr ⟨rfl, hk1, hk⟩⟩
      · have hq' : q = t.2.1 := (Option.some.inj hq).symm
        rw [hq', he]
        exact ⟨by omega, fun E => hm1 E⟩
      · have hq' : q = q2 := (Option.some.inj hq).symm
        rw [hq']
        exact ⟨by omega, fun E => hm2 E⟩
      · have hq' : q = q3 := (Option.some.inj hq).symm
        rw [hq']
        exact ⟨by omega, fun E => hm3 E⟩
      · have hq' : q = q4 := (Option.some.inj hq).symm
        rw [hq']
        exact ⟨by omega, fun E => hm4 E⟩
      · exfalso
        have h5 := (List.getElem?_eq_some_iff.mp hq).1
        simp at h5
        omega
  · have hL4 : L < 5 := by omega
    refine xv_go hst C0 ?_ ?_ hp1 h9 hc1 hs1 (hshort L hL4)
    · intro q hq E
      have hq' : q = (0, L + 2147483648, L + 2147483648) := (Option.some.inj hq).symm
      rw [hq']
      exact xv_len rfl (by omega) E
    · intro j q hq
      exfalso
      have h5 := (List.getElem?_eq_some_iff.mp hq).1
      simp at h5
-- ===== YOUR PART ENDS =====
set_option maxHeartbeats 4000000 in
theorem lw_walk (l : Launch) (hflags : l.flags = flags0) (b : Addr) (xs : List Int32) : MetFree l x (headSpec (Jvm.Cond.code x code maxLocals ret :: tables_1) room_1) (lw_P b xs) (fun _ _ _ _ _ => True) lw_Q := by
  refine MetFree.of_bodyS (code := code) (maxLocals := maxLocals) (ret := ret) (by decide) ?_ ?_
  · intro args s m h hn
    obtain ⟨meth, c, h1, h2, h3, h4, h5, h6, -, -⟩ := Cond.code_spec hn (atoms_spec (ws := Jvm.Cond.code x code maxLocals ret :: tables_1) h _ List.mem_cons_self)
    exact ⟨meth, c, h1, h2, h3, h4, h5, h6⟩
  · intro p e s m args below meth c s₁ B hml0 hP _
    obtain ⟨rfl, hx, hbd, hgv⟩ := hP
    obtain ⟨scr, harrAt, hlist, hof, hsmall⟩ := hx
    obtain ⟨hcb, hkn, -, -⟩ := State.arrayAt?_spec harrAt
    have hown : s.vm.findClass R_law = some m.cls := findClass_of_methodNamed B.named
    have hts0 : ∀ c ∈ (Jvm.Cond.code x code maxLocals ret :: tables_1), c.before #[Value.ref b] s = true := atoms_spec (ws := Jvm.Cond.code x code maxLocals ret :: tables_1) B.pre
    have hts : ∀ w ∈ lw_tbl, w.before #[Value.ref b] s = true := k2_hts_sels lw_privs (fun w hw => hts0 w (List.mem_cons_of_mem _ hw)) lw_privs_ok
    have hml : c.maxLocals = 9 := B.maxLocals_eq (hts0 _ List.mem_cons_self)
    have X₀ : Stand p l e room_1 s m #[Value.ref b] below meth c s₁ [] 0 0 := Stand.of_body B
    have hh0 : s₁.heap = s.heap := by rw [B.state]; rfl
    have hsz : scr.slots.size = xs.length := by rw [← Array.length_toList, hlist, List.length_map]
    have hval : ∀ j : Nat, j < xs.length → scr.slots[j]? = some (.int (xs.getD j 0)) := fun j hj => by
      rw [← Array.getElem?_toList, hlist]
      simp [hj]
    have hbl : b < s.heap.size := (Array.getElem?_eq_some_iff.mp hcb).1
    have hX : va_X b xs.length (fun j => xs.getD j 0) s s.heap := ⟨scr, hcb, hof, hkn, hsz, hval⟩
    have K : W p l e room_1 s m #[Value.ref b] below meth c s₁.heap [] 0 0 (lw_Z below #[Value.ref b] s) (entryFrame m ([Value.ref b] : List Value).toArray 9) := by
      rw [hh0]
      exact whole_start l hflags hbd ⟨B.exec, B.bytes, B.returns, hml, hown, hts, hX, hbl, B.notSynchronized, hgv⟩
    obtain ⟨t, a1, o, b1, b2, b3⟩ := K s₁ rfl X₀
    exact ⟨t, o, a1, b1, b2, b3⟩
theorem lw_pre_spec {args : Array Value} {s : State} (h : (Jvm.Cond.and given_1 narrow_1).before args s = true) (hr : rest_1_c.before args s = true) : ∃ (b : Addr) (xs : List Int32), lw_P b xs args s := by
  have hs := flat_of_before _ h
  have hq := flat_of_before _ hr
  have hc : (Cond.count 1).before args s = true := hs _ (by decide +kernel)
  have harr : (Cond.arrayOf (.arg 0) .int).before args s = true := hs _ (by decide +kernel)
  have hle : (Cond.le (.length (.arg 0)) (.int 5)).before args s = true := hs _ (by decide +kernel)
  have hlen : (Cond.isInt (.length (.arg 0))).before args s = true := hq _ (by decide +kernel)
  have hall : (Cond.all (.arg 0) (.isInt (.elem (.arg 0) (.index 0)))).before args s = true := hq _ (by decide +kernel)
  obtain ⟨b, xs, hb, hx⟩ := State.ints_of_pre rfl harr hlen hall
  have hsm : xs.length < 2 ^ 31 := hx.choose_spec.2.2.2
  have hev : (Term.length (.arg 0)).eval args s none [] s = some (.int xs.length.toInt32) := hx.length_eval hb
  have hv := Cond.le_ints hev (show (Term.int 5).eval args s none [] s = some (.int 5) from rfl)
  have hd : xs.length.toInt32 ≤ 5 := by
    simpa [Cond.before, Cond.holds, hv] using hle
  have hN : xs.length ≤ 5 := (Int32.ofNat_le_ofNat hsm (by decide)).mp (show Int32.ofNat xs.length ≤ Int32.ofNat 5 from hd)
  exact ⟨b, xs, Cond.one_arg hc (show args[0]? = some (.ref b) from hb), hx, hN, h⟩
theorem lw_comes (l : Launch) (hflags : l.flags = flags0) : Comes l x (Jvm.Cond.code x code maxLocals ret :: tables_1) room_1 (fun tb e args s => Calls_1 tb e args s ∧ rest_1 tb e args s ∧ Pre_1 tb e args s)
    (fun _ _ args s o t => lw_Q args s o t) := by
  intro p e ha hc hk s m args below hf hfit hheap happ hpre
  obtain ⟨b, xs, hP⟩ := lw_pre_spec hpre.2.2 hpre.2.1
  obtain ⟨k, o, h1, h2, h3, hQ⟩ := lw_walk l hflags b xs p e ha hc hk s m args below hf ((Spec.applies_iff_loose hf).mp happ).1 hP trivial
  exact ⟨k, o, h1, h2, h3, hQ⟩
theorem lw_frame {s t : State} {o : Outcome} {args : Array Value} (h : State.butDraws s t lw_cs (fun t1 => Framed s o t1 [] room_1.cells room_1.slots)) :
    State.butDraws s t [Jvm.Choice.named "NaN.bits"] (fun t1 => Framed s o t1 (fieldLocs frame_1_writes args s ++ arrayLocs frame_1_arrays args s ++ staticLocs frame_1_statics s) room_1.cells room_1.slots) := h
theorem lw_limb (L : Cond) (hL : ∀ (args : Array Value) (s t : State), L.after args s (.returned (some (.int 1))) t = true) :
    ArmFor flags0 classFile x code maxLocals ret World_1 tables_1 room_1 Calls_1 rest_1 Pre_1
      (fun tb e a s o t => postC L tb e a s o t ∧ State.butDraws s t [Jvm.Choice.named "NaN.bits"] (fun t1 => Framed s o t1 (fieldLocs frame_1_writes a s ++ arrayLocs frame_1_arrays a s ++ staticLocs frame_1_statics s) room_1.cells room_1.slots)) := by
  intro l hflags _ _ p e ha hc hk s m args below hf hfit hheap happ hpre
  obtain ⟨k, o, h1, h2, h3, rfl, hF⟩ := lw_comes l hflags p e ha hc hk s m args below hf hfit hheap happ hpre
  exact ⟨k, _, h1, h2, h3, hL args s _, lw_frame hF⟩
theorem i_vc : Claimed_1_1 ∧ Claimed_1_2 := ⟨lw_limb limb_1_1 (fun args s t => by simp [limb_1_1, Cond.after, Cond.holds, Cond.value]), lw_limb limb_1_2 (fun args s t => Cond.after_iff.mpr (by
  first | (rw [show limb_1_2 = Cond.eq .result (.int 1) from rfl, Cond.eq_ints (x := 1) (y := 1) rfl rfl]; simp; done) | (simp [limb_1_2, Cond.value, Term.eval]; done)))⟩
