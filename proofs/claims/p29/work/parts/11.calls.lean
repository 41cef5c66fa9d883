/-! contracts, and calls by contract -/
def zw_P (E : Nat) (D : va_G) (A : Nat → Prop) (sc : List Int32) (ws : va_W) (tys : xm_T) (as : List Value) (h : List zO) : Array Value → State → Prop := fun a U =>
  xf_2 (zm_V E ws) as a.toList ∧ xf_2 (zm_O E ws tys) h ws ∧ va_K D vwCl tys U ∧ va_P D vwCl ws U.heap ∧ va_D A ws ∧ (∀ q, U.heap.size ≤ q → A q) ∧ zf_E A E sc U
/-- the world behind it -/
def zw_W (E : Nat) (D : va_G) (A : Nat → Prop) (ws ws' : va_W) (tys' : xm_T) (r : zR) (st t : State) : Prop :=
  xm_le ws ws' ∧ xf_2 (zm_O E ws' tys') r.2.1 ws' ∧ va_K D vwCl tys' t ∧ va_P D vwCl ws' t.heap ∧ va_D A ws' ∧ va_F A st t
def zw_A (E : Nat) (ws : va_W) (q v : Option Value) : Prop := (q = none ∧ v = none) ∨ ∃ x y, q = some x ∧ v = some y ∧ zm_V E ws x y
def zw_Q (E : Nat) (D : va_G) (A : Nat → Prop) (ws : va_W) (r : zR) : Array Value → State → Outcome → State → Prop := fun _ st o t =>
  ∃ (v : Option Value) (ws' : va_W) (tys' : xm_T), o = .returned v ∧ zw_A E ws' r.1 v ∧ zw_W E D A ws ws' tys' r st t
def zw_M (l : Launch) (E : Nat) (D : va_G) (A : Nat → Prop) (sc : List Int32) (d k : Nat) (as : List Value) (h : List zO) (r : zR) : Prop := ∀ (ws : va_W) (tys : xm_T),
  Met l (zg_Y k) (zg_CW k :: zw_B) { frames := d, cells := r.2.2.1, slots := r.2.2.2, locals := 64 * d } (zw_P E D A sc ws tys as h) (zw_Q E D A ws r) r.2.2.1 r.2.2.2 A
theorem zf_E_moved {A : Nat → Prop} {E : Nat} {sc : List Int32} {s U : State} {H : Heap} {locs : List Loc} (h : zf_E A E sc s) (hS : va_S A s.heap H locs) (hU : U.heap = H) (hW : s.WarmedH U.vm) : zf_E A E sc U := by
  obtain ⟨xs, x1, x2, x3, x4⟩ := h
  subst hU
  exact ⟨xs, (x1.kept (hS.2.1 _ x2 x3)).moved hW.alike, Nat.lt_of_lt_of_le x2 hS.1, x3, x4⟩
theorem zw_P_blind {E : Nat} {D : va_G} {A : Nat → Prop} {sc : List Int32} {ws : va_W} {tys : xm_T} {as : List Value} {h : List zO} : FrameBlind (zw_P E D A sc ws tys as h) := fun _ _ _ _ h => h
theorem xf_2_split {α β : Type} {R : α → β → Prop} : ∀ {a b : List α} {l : List β}, xf_2 R (a ++ b) l → ∃ l1 l2, l = l1 ++ l2 ∧ xf_2 R a l1 ∧ xf_2 R b l2
  | [], _, l, h => ⟨[], l, rfl, trivial, h⟩
  | _ :: a, b, l, h => by
    obtain ⟨y, l', rfl, h1, h2⟩ := xf_2_cons h
    obtain ⟨l1, l2, rfl, h3, h4⟩ := xf_2_split h2
    exact ⟨y :: l1, l2, rfl, ⟨h1, h3⟩, h4⟩
theorem xf_2_rev {α β : Type} {R : α → β → Prop} : ∀ {a : List α} {l : List β}, xf_2 R a l → xf_2 R a.reverse l.reverse
  | [], [], _ => trivial
  | x :: a, y :: l, h => by
    rw [List.reverse_cons, List.reverse_cons]
    exact xf_2_app (xf_2_rev h.2) ⟨h.1, trivial⟩
  | [], _ :: _, h => h.elim
  | _ :: _, [], h => h.elim
section ZC
variable {p : Program} {l : Launch} {e : Env} {R : Room} {s : State} {m : MethodId} {args : Array Value} {below : List Frame} {meth : Method} {c : Code} {cc : ByteArray} {nL : Nat} {own : String} {ini : Bool} {A : Nat → Prop} {E : Nat} {D : va_G} {d : Nat} {sc : List Int32} {Q : State → Prop}
/-- behind a call -/
theorem za_run {ws : va_W} {r0 : zR} {H : Heap} {locs : List Loc} {nc ns pc : Nat} {ls : Array Slot} {st0 rest : List Value} {aa : Array Value} (hr : va_Run p l e R s m args below meth c H locs nc ns r0.2.2.1 r0.2.2.2 (F0 m pc ls st0) rest (zw_Q E D A ws r0 aa) A) (hS : va_S A s.heap H locs)
    (kk : ∀ (v : Option Value) (ws' : va_W) (tys' : xm_T) (H1 : Heap) (locs1 : List Loc), zw_A E ws' r0.1 v → xm_le ws ws' → xf_2 (zm_O E ws' tys') r0.2.1 ws' → va_K D vwCl tys' s → va_P D vwCl ws' H1 → va_D A ws' → va_S A s.heap H1 locs1 → W p l e R s m args below meth c H1 locs1 (nc + r0.2.2.1) (ns + r0.2.2.2) Q (F0 m (pc + 3) ls (v.toList ++ rest))) :
    W p l e R s m args below meth c H locs nc ns Q (F0 m pc ls st0) := by
  intro T hT X
  obtain ⟨v, st₀, t, T', L, h0, X', hL, e1, e2, ⟨v', ws', tys', hv, hv2, w1, w2, w3, w4, w5, hz, hk⟩, st⟩ := hr T hT X
  cases hv
  rw [h0] at hz hk
  have hal : t.vm.Alike s.vm := by rw [← e2]; exact X'.warmed.alike.symm
  obtain ⟨t2, a1, b1⟩ := kk v ws' tys' T'.heap (locs ++ L) hv2 w1 w2 (w3.moved hal) (by rw [e1]; exact w4) w5 ⟨Nat.le_trans hS.1 (by rw [e1]; exact hz), fun q h1 h2 => by rw [e1, hk q (Nat.lt_of_lt_of_le h1 hS.1) h2]; exact hS.2.1 q h1 h2, fun q hq => by
    rcases List.mem_append.mp hq with h | h
    · exact hS.2.2 q h
    · exact hL q h⟩ T' rfl X'
  exact ⟨t2, st t2 a1, b1⟩
theorem zn_words (hts : ∀ w ∈ zw_B, w.before args s = true) {w0 : Cond} (h0 : w0 ∈ zw_B) : ∀ w ∈ w0 :: zw_B, ∀ (a' : Array Value) (U : State), s.WarmedH U.vm → w.before a' U = true := by
  intro w hw a' U hW
  have h1 : w ∈ zw_B := by
    rcases List.mem_cons.mp hw with rfl | h
    · exact h0
    · exact h
  exact zw_warm (List.mem_filter.mp h1).2 hW (hts w h1)
theorem zn_parse {y : MethodName} {n : Nat} (h : (parseMethodDescriptor y.desc).map (fun d => d.parameters.length) = some n) : ∀ sig, parseMethodDescriptor y.desc = some sig → n = sig.parameters.length := by
  intro sig hsig
  rw [hsig] at h
  exact (Option.some.inj h).symm
theorem zn_cb (C : zf_C p R s m args meth c cc nL own ini A E (d + 1) sc) {k n w : Nat} (hs : zs_cl k n) (hl : Cond.methodLink own w (zg_Y k) ∈ zw_B) (rc rs : Nat) :
    CallB R s args own w (zg_Y k) (zg_CC k) (zg_ML k) (zg_RT k) (zg_CW k :: zw_B) { frames := d, cells := rc, slots := rs, locals := 64 * d } rc rs n := by
  obtain ⟨hx, hb, hml, hown, hts, hA, hRf, hRl, hlk, hini, hE⟩ := C
  obtain ⟨g1, g2, g3, g4, g5⟩ := hs
  refine ⟨rfl, rfl, hRf, ?_, zn_words hts g1, List.mem_cons_self, hts _ g1, hts _ g2, g3, zn_parse g4, hts _ hl⟩
  show 8 + (zg_ML k + 11) + 64 * d ≤ R.locals
  omega
theorem zn_cn (C : zf_C p R s m args meth c cc nL own ini A E (d + 1) sc) {k n w : Nat} {host : String} (hs : zs_cl k n) (hl : Cond.methodLinkNest own w (zg_Y k) host ∈ zw_B) (rc rs : Nat) :
    va_CN R s args own w (zg_Y k) host (zg_CC k) (zg_ML k) (zg_RT k) (zg_CW k :: zw_B) { frames := d, cells := rc, slots := rs, locals := 64 * d } rc rs n := by
  obtain ⟨hx, hb, hml, hown, hts, hA, hRf, hRl, hlk, hini, hE⟩ := C
  obtain ⟨g1, g2, g3, g4, g5⟩ := hs
  refine ⟨⟨rfl, rfl, hRf, ?_, zn_words hts g1, List.mem_cons_self⟩, hts _ g1, hts _ g2, g3, zn_parse g4, hts _ hl⟩
  show 8 + (zg_ML k + 11) + 64 * d ≤ R.locals
  omega
/-- what the callee is handed -/
theorem zn_pre (C : zf_C p R s m args meth c cc nL own ini A E d sc) {ws : va_W} {tys : xm_T} {as As : List Value} {h : List zO} {H : Heap} {locs : List Loc} (q1 : xf_2 (zm_V E ws) as As) (r4 : xf_2 (zm_O E ws tys) h ws) (hK : va_K D vwCl tys s) (hP : va_P D vwCl ws H) (hD : va_D A ws) (hS : va_S A s.heap H locs) :
    ∀ U : State, U.heap = H → s.WarmedH U.vm → zw_P E D A sc ws tys as h As.toArray U := by
  intro U hU hW
  obtain ⟨hx, hb, hml, hown, hts, hA, hRf, hRl, hlk, hini, hE⟩ := C
  exact ⟨q1, r4, va_K.moved hW.alike hK, by rw [hU]; exact hP, hD, fun q hq => hA q (Nat.le_trans hS.1 (by rw [← hU]; exact hq)), zf_E_moved hE hS hU hW⟩
variable {L : zL} {h : List zO} {nc ns pc k n w z : Nat} {as S : List Value} {R0 : zR} {ws : va_W} {tys : xm_T} {lv : List (Nat × Value)} {ls : Array Slot} {stk : List Value} {H : Heap} {locs : List Loc}
theorem zn_stat (C : zf_C p R s m args meth c cc nL own ini A E (d + 1) sc) (hs : zs_c96 own w k n ∨ zs_c97 own w k n) (hd : decode cc pc = .ok (.invokestatic w, 3)) (hlen : as.length = n) (hS4 : zwd S ≤ 8) (hMt : zw_M l E D A sc d k as h R0) (h1 : nc + R0.2.2.1 ≤ R.cells) (h2 : ns + R0.2.2.2 ≤ R.slots)
    (r1 : lv_has ls nL lv) (r3 : xf_2 (zm_V E ws) (as.reverse ++ S) stk) (r4 : xf_2 (zm_O E ws tys) h ws) (hK : va_K D vwCl tys s) (hP : va_P D vwCl ws H) (hD : va_D A ws) (hS : va_S A s.heap H locs) :
    ∃ (st : List Value) (aa : Array Value), xf_2 (zm_V E ws) S st ∧ va_Run p l e R s m args below meth c H locs nc ns R0.2.2.1 R0.2.2.2 (F0 m pc ls stk) st (zw_Q E D A ws R0 aa) A := by
  obtain ⟨st1, st, rfl, q1, q2⟩ := xf_2_split r3
  have q3 := xf_2_rev q1
  rw [List.reverse_reverse] at q3
  have hsum := zm_sum q2
  have hp := zn_pre C q3 r4 hK hP hD hS
  have hfix : CallFix p m c cc nL s args zw_B own := ⟨C.1, C.2.1, C.2.2.1, C.2.2.2.1, C.2.2.2.2.1⟩
  have hl : st1.reverse.length = n := by rw [← xf_2_len q3, hlen]
  refine ⟨st, st1.reverse.toArray, q2, ?_⟩
  rcases hs with ⟨g1, g2, g3⟩ | ⟨g1, host, g2, g3⟩
  · exact va_runS (As := st1.reverse) hfix (hMt ws tys) ⟨zn_cb C g1 g2 _ _, C.2.2.2.2.1 _ g3⟩ ⟨zw_P_blind, hp⟩ rfl hl r1.1 (by rw [List.reverse_reverse]) (by show 2 * 0 + (st.map fun v => v.category).sum ≤ 8; omega) hd ⟨h1, h2⟩
  · exact va_runSN (As := st1.reverse) hfix (hMt ws tys) ⟨zn_cn C g1 g2 _ _, C.2.2.2.2.1 _ g3, trivial⟩ ⟨zw_P_blind, hp⟩ rfl hl r1.1 (by rw [List.reverse_reverse]) (by show 2 * 0 + (st.map fun v => v.category).sum ≤ 8; omega) hd ⟨h1, h2⟩
/-- the receiver and the arguments on the stack -/
theorem zn_recv {o c0 : Nat} {es : List Value} (hh : h[o]? = some (.inl (c0, es))) (r3 : xf_2 (zm_V E ws) (as.reverse ++ (.ref o :: S)) stk) (r4 : xf_2 (zm_O E ws tys) h ws) :
    ∃ (st1 st : List Value) (a : Nat) (fs : List Value), stk = st1.reverse.reverse ++ .ref a :: st ∧ xf_2 (zm_V E ws) (.ref o :: as) (.ref a :: st1.reverse) ∧ xf_2 (zm_V E ws) S st ∧ ws[o]? = some (a, .inr (c0, fs)) ∧ st1.reverse.length = as.length := by
  obtain ⟨st1, st2, rfl, q1, q2⟩ := xf_2_split r3
  obtain ⟨v, st, rfl, mv, q4⟩ := xf_2_cons q2
  have q3 := xf_2_rev q1
  rw [List.reverse_reverse] at q3
  obtain ⟨a, e0, rfl, hw⟩ := mv
  obtain ⟨fs, k1, k2⟩ := zm_at r4 hh hw
  dsimp only at k1
  subst k1
  exact ⟨st1, st, a, fs, by rw [List.reverse_reverse], ⟨⟨a, _, rfl, hw⟩, q3⟩, q4, hw, (xf_2_len q3).symm⟩
theorem zn_init (C : zf_C p R s m args meth c cc nL own ini A E (d + 1) sc) (hs : zs_c98 own w k n ∨ zs_c99 own w k n) (hd : decode cc pc = .ok (.invokespecial w, 3)) (hlen : as.length = n) (hS4 : zwd S ≤ 8) {o c0 : Nat} {es : List Value} (hh : h[o]? = some (.inl (c0, es))) (hMt : zw_M l E D A sc d k (.ref o :: as) h R0) (h1 : nc + R0.2.2.1 ≤ R.cells) (h2 : ns + R0.2.2.2 ≤ R.slots)
    (r1 : lv_has ls nL lv) (r3 : xf_2 (zm_V E ws) (as.reverse ++ (.ref o :: S)) stk) (r4 : xf_2 (zm_O E ws tys) h ws) (hK : va_K D vwCl tys s) (hP : va_P D vwCl ws H) (hD : va_D A ws) (hS : va_S A s.heap H locs) :
    ∃ (st : List Value) (aa : Array Value), xf_2 (zm_V E ws) S st ∧ va_Run p l e R s m args below meth c H locs nc ns R0.2.2.1 R0.2.2.2 (F0 m pc ls stk) st (zw_Q E D A ws R0 aa) A := by
  obtain ⟨st1, st, a, fs, rfl, q3, q2, hw, hl⟩ := zn_recv hh r3 r4
  have hsum := zm_sum q2
  have hp := zn_pre C q3 r4 hK hP hD hS
  have hfix : CallFix p m c cc nL s args zw_B own := ⟨C.1, C.2.1, C.2.2.1, C.2.2.2.1, C.2.2.2.2.1⟩
  refine ⟨st, (Value.ref a :: st1.reverse).toArray, q2, ?_⟩
  rcases hs with ⟨g1, hRT, hnm, g2, g3⟩ | ⟨g1, hRT, hnm, host, g2, g3⟩
  · have hcb := zn_cb C g1 g2 R0.2.2.1 R0.2.2.2
    rw [hRT] at hcb
    exact va_runI (As := st1.reverse) (b := a) hfix (hMt ws tys) ⟨hcb, hnm, C.2.2.2.2.1 _ g3⟩ ⟨zw_P_blind, hp⟩ rfl (by rw [hl, hlen]) r1.1 rfl (by show 2 * 0 + (st.map fun v => v.category).sum ≤ 8; omega) hd ⟨h1, h2⟩
  · have hcb := zn_cn C g1 g2 R0.2.2.1 R0.2.2.2
    rw [hRT] at hcb
    exact va_runIN (As := st1.reverse) (b := a) hfix (hMt ws tys) ⟨hcb, hnm, C.2.2.2.2.1 _ g3⟩ ⟨zw_P_blind, hp⟩ rfl (by rw [hl, hlen]) r1.1 rfl (by show 2 * 0 + (st.map fun v => v.category).sum ≤ 8; omega) hd ⟨h1, h2⟩
theorem zn_virt (C : zf_C p R s m args meth c cc nL own ini A E (d + 1) sc) (hs : zs_c100 own w k n z) (hd : decode cc pc = .ok (.invokevirtual w, 3)) (hlen : as.length = n) (hS4 : zwd S ≤ 8) {o : Nat} {es : List Value} (hh : h[o]? = some (.inl (z, es))) (hMt : zw_M l E D A sc d k (.ref o :: as) h R0) (h1 : nc + R0.2.2.1 ≤ R.cells) (h2 : ns + R0.2.2.2 ≤ R.slots)
    (r1 : lv_has ls nL lv) (r3 : xf_2 (zm_V E ws) (as.reverse ++ (.ref o :: S)) stk) (r4 : xf_2 (zm_O E ws tys) h ws) (hK : va_K D vwCl tys s) (hP : va_P D vwCl ws H) (hD : va_D A ws) (hS : va_S A s.heap H locs) :
    ∃ (st : List Value) (aa : Array Value), xf_2 (zm_V E ws) S st ∧ va_Run p l e R s m args below meth c H locs nc ns R0.2.2.1 R0.2.2.2 (F0 m pc ls stk) st (zw_Q E D A ws R0 aa) A := by
  obtain ⟨st1, st, a, fs, rfl, q3, q2, hw, hl⟩ := zn_recv hh r3 r4
  obtain ⟨g1, g2, g3, rr, g4, g5⟩ := hs
  have hsum := zm_sum q2
  have hp := zn_pre C q3 r4 hK hP hD hS
  have hfix : CallFix p m c cc nL s args zw_B own := ⟨C.1, C.2.1, C.2.2.1, C.2.2.2.1, C.2.2.2.2.1⟩
  refine ⟨st, (Value.ref a :: st1.reverse).toArray, q2, ?_⟩
  exact va_runV (As := st1.reverse) (b := a) (C := rr.1) hfix (hMt ws tys) ⟨zn_cb C g1 g2 _ _, C.2.2.2.2.1 _ g3, C.2.2.2.2.1 _ g5⟩ ⟨zw_P_blind, va_recv hK hP g4 hw, hp⟩ rfl (by rw [hl, hlen]) r1.1 rfl (by show 2 * 0 + (st.map fun v => v.category).sum ≤ 8; omega) hd ⟨h1, h2⟩
end ZC
