/-! calls by contract, a kind at a time -/
section XC
variable {p : Program} {l : Launch} {e : Env} {R : Room} {s : State} {m : MethodId} {args : Array Value} {below : List Frame} {meth : Method} {c : Code} {cc : ByteArray} {nL : Nat} {own : String} {ini : Bool} {A : Nat → Prop} {E : xm_E} {D : va_G} {d : Nat} {sc : List xv_V}
theorem xn_words (hts : ∀ w ∈ xw_B, w.before args s = true) {w0 : Cond} (h0 : w0 ∈ xw_B) : ∀ w ∈ w0 :: xw_B, ∀ (a' : Array Value) (U : State), s.WarmedH U.vm → w.before a' U = true := by
  intro w hw a' U hW
  have h1 : w ∈ xw_B := by
    rcases List.mem_cons.mp hw with rfl | h
    · exact h0
    · exact h
  exact xw_warm (List.mem_filter.mp h1).2 hW (hts w h1)
theorem xn_parse {y : MethodName} {n : Nat} (h : (parseMethodDescriptor y.desc).map (fun d => d.parameters.length) = some n) : ∀ sig, parseMethodDescriptor y.desc = some sig → n = sig.parameters.length := by
  intro sig hsig
  rw [hsig] at h
  exact (Option.some.inj h).symm
theorem xg_CW0 {k : Nat} (h : xg_WH k = false) : xg_CW k = .code (xg_Y k) (xg_CC k) (xg_ML k) (xg_RT k) := by
  unfold xg_CW
  rw [h]; rfl
theorem xg_CW1 {k : Nat} (h : xg_WH k = true) : xg_CW k = .codeWith (xg_Y k) (xg_CC k) (xg_ML k) (xg_RT k) (xg_HH k) := by
  unfold xg_CW
  rw [h]; rfl
theorem xn_cb (C : xf_C p R s m args meth c cc nL own ini A E (d + 1) sc) {k n w : Nat} (hs : xs_cl k n) (hWH : xg_WH k = false) (hl : Cond.methodLink own w (xg_Y k) ∈ xw_B) (rc rs : Nat) :
    CallB R s args own w (xg_Y k) (xg_CC k) (xg_ML k) (xg_RT k) (xg_CW k :: xw_B) { frames := d, cells := rc, slots := rs, locals := 64 * d } rc rs n := by
  obtain ⟨hx, hb, hml, hown, hts, hA, hRf, hRl, hlk, hini, hE⟩ := C
  obtain ⟨g1, g2, g3, g4, g5⟩ := hs
  refine ⟨rfl, rfl, hRf, ?_, xn_words hts g1, ?_, ?_, hts _ g2, g3, xn_parse g4, hts _ hl⟩
  · show 8 + (xg_ML k + 11) + 64 * d ≤ R.locals
    omega
  · rw [xg_CW0 hWH]; exact List.mem_cons_self
  · have := hts _ g1
    rwa [xg_CW0 hWH] at this
theorem xn_cw (C : xf_C p R s m args meth c cc nL own ini A E (d + 1) sc) {k n w : Nat} (hs : xs_cl k n) (hWH : xg_WH k = true) (hl : Cond.methodLink own w (xg_Y k) ∈ xw_B) (hst : Cond.static (xg_Y k) ∈ xw_B) (rc rs : Nat) :
    vx_CSW R s args own w (xg_Y k) (xg_CC k) (xg_ML k) (xg_RT k) (xg_HH k) (xg_CW k :: xw_B) { frames := d, cells := rc, slots := rs, locals := 64 * d } rc rs n := by
  obtain ⟨hx, hb, hml, hown, hts, hA, hRf, hRl, hlk, hini, hE⟩ := C
  obtain ⟨g1, g2, g3, g4, g5⟩ := hs
  refine ⟨⟨rfl, rfl, hRf, ?_, xn_words hts g1, ?_⟩, ?_, hts _ g2, g3, xn_parse g4, hts _ hl, hts _ hst⟩
  · show 8 + (xg_ML k + 11) + 64 * d ≤ R.locals
    omega
  · rw [xg_CW1 hWH]; exact List.mem_cons_self
  · have := hts _ g1
    rwa [xg_CW1 hWH] at this
theorem xn_cn (C : xf_C p R s m args meth c cc nL own ini A E (d + 1) sc) {k n w : Nat} {host : String} (hs : xs_cl k n) (hWH : xg_WH k = false) (hl : Cond.methodLinkNest own w (xg_Y k) host ∈ xw_B) (rc rs : Nat) :
    va_CN R s args own w (xg_Y k) host (xg_CC k) (xg_ML k) (xg_RT k) (xg_CW k :: xw_B) { frames := d, cells := rc, slots := rs, locals := 64 * d } rc rs n := by
  obtain ⟨hx, hb, hml, hown, hts, hA, hRf, hRl, hlk, hini, hE⟩ := C
  obtain ⟨g1, g2, g3, g4, g5⟩ := hs
  refine ⟨⟨rfl, rfl, hRf, ?_, xn_words hts g1, ?_⟩, ?_, hts _ g2, g3, xn_parse g4, hts _ hl⟩
  · show 8 + (xg_ML k + 11) + 64 * d ≤ R.locals
    omega
  · rw [xg_CW0 hWH]; exact List.mem_cons_self
  · have := hts _ g1
    rwa [xg_CW0 hWH] at this
/-- what the callee is handed -/
theorem xn_pre (C : xf_C p R s m args meth c cc nL own ini A E d sc) (hF : xf_F s) {ws : va_W} {tys : xm_T} {as : List xv_V} {As : List Value} {h : List xv_O} {H : Heap} {locs : List Loc} (q1 : xf_2 (xm_V E ws) as As) (r4 : xf_2 (xm_O E ws tys) h ws) (hK : va_K D vwCl tys s) (hP : va_P D vwCl ws H) (hD : va_D A ws) (hS : va_S A s.heap H locs) :
    ∀ U : State, U.heap = H → s.WarmedH U.vm → xw_P E D A sc ws tys as h As.toArray U := by
  intro U hU hW
  obtain ⟨hx, hb, hml, hown, hts, hA, hRf, hRl, hlk, hini, hE⟩ := C
  exact ⟨q1, r4, va_K.moved hW.alike hK, by rw [hU]; exact hP, hD, fun q hq => hA q (Nat.le_trans hS.1 (by rw [← hU]; exact hq)), xf_E_moved hE hS hU hW, xf_F_warm hW hF⟩
variable {L : xv_L} {h : List xv_O} {nc ns pc k n w z : Nat} {as S : List xv_V} {R0 : xv_R} {ws : va_W} {tys : xm_T} {lv : List (Nat × Value)} {ls : Array Slot} {stk : List Value} {H : Heap} {locs : List Loc}
theorem xn_c96 (C : xf_C p R s m args meth c cc nL own ini A E (d + 1) sc) (hF : xf_F s) (hs : xs_c96 own w k n) (hd : decode cc pc = .ok (.invokestatic w, 3)) (hlen : as.length = n) (hS4 : S.length ≤ 4) (hMt : xw_M l E D A sc d k as h R0) (h1 : nc + R0.2.2.2.1 ≤ R.cells) (h2 : ns + R0.2.2.2.2 ≤ R.slots)
    (r1 : lv_has ls nL lv) (r3 : xf_2 (xm_V E ws) (as.reverse ++ S) stk) (r4 : xf_2 (xm_O E ws tys) h ws) (hK : va_K D vwCl tys s) (hP : va_P D vwCl ws H) (hD : va_D A ws) (hS : va_S A s.heap H locs) :
    ∃ (st : List Value) (aa : Array Value), xf_2 (xm_V E ws) S st ∧ vx_Run p l e R s m args below meth c H locs nc ns R0.2.2.2.1 R0.2.2.2.2 (F0 m pc ls stk) st (xw_Q E D A ws R0 aa) (xw_X E D A ws R0) A := by
  obtain ⟨st1, st, rfl, q1, q2⟩ := xf_2_split r3
  have q3 := xf_2_rev q1
  rw [List.reverse_reverse] at q3
  obtain ⟨g1, g2, g3⟩ := hs
  have hsum := xm_sum q2
  have hp := xn_pre C hF q3 r4 hK hP hD hS
  have hfix : CallFix p m c cc nL s args xw_B own := ⟨C.1, C.2.1, C.2.2.1, C.2.2.2.1, C.2.2.2.2.1⟩
  have hl : st1.reverse.length = n := by rw [← xf_2_len q3, hlen]
  refine ⟨st, st1.reverse.toArray, q2, ?_⟩
  cases hWH : xg_WH k with
  | false => exact vx_runS (As := st1.reverse) hfix (hMt ws tys) ⟨xn_cb C g1 hWH g2 _ _, C.2.2.2.2.1 _ g3⟩ ⟨xw_P_blind, hp⟩ rfl hl r1.1 (by rw [List.reverse_reverse]) (by show 2 * 0 + (st.map fun v => v.category).sum ≤ 8; omega) hd ⟨h1, h2⟩
  | true => exact vx_runSX (As := st1.reverse) hfix (hMt ws tys) (xn_cw C g1 hWH g2 g3 _ _) ⟨xw_P_blind, hp⟩ rfl hl r1.1 (by rw [List.reverse_reverse]) (by show 2 * 0 + (st.map fun v => v.category).sum ≤ 8; omega) hd ⟨h1, h2⟩
theorem xn_c97 (C : xf_C p R s m args meth c cc nL own ini A E (d + 1) sc) (hF : xf_F s) (hs : xs_c97 own w k n) (hd : decode cc pc = .ok (.invokestatic w, 3)) (hlen : as.length = n) (hS4 : S.length ≤ 4) (hMt : xw_M l E D A sc d k as h R0) (h1 : nc + R0.2.2.2.1 ≤ R.cells) (h2 : ns + R0.2.2.2.2 ≤ R.slots)
    (r1 : lv_has ls nL lv) (r3 : xf_2 (xm_V E ws) (as.reverse ++ S) stk) (r4 : xf_2 (xm_O E ws tys) h ws) (hK : va_K D vwCl tys s) (hP : va_P D vwCl ws H) (hD : va_D A ws) (hS : va_S A s.heap H locs) :
    ∃ (st : List Value) (aa : Array Value), xf_2 (xm_V E ws) S st ∧ vx_Run p l e R s m args below meth c H locs nc ns R0.2.2.2.1 R0.2.2.2.2 (F0 m pc ls stk) st (xw_Q E D A ws R0 aa) (xw_X E D A ws R0) A := by
  obtain ⟨st1, st, rfl, q1, q2⟩ := xf_2_split r3
  have q3 := xf_2_rev q1
  rw [List.reverse_reverse] at q3
  obtain ⟨g1, hWH, host, g2, g3⟩ := hs
  have hsum := xm_sum q2
  have hp := xn_pre C hF q3 r4 hK hP hD hS
  have hfix : CallFix p m c cc nL s args xw_B own := ⟨C.1, C.2.1, C.2.2.1, C.2.2.2.1, C.2.2.2.2.1⟩
  have hl : st1.reverse.length = n := by rw [← xf_2_len q3, hlen]
  refine ⟨st, st1.reverse.toArray, q2, ?_⟩
  exact vx_runSN (As := st1.reverse) hfix (hMt ws tys) ⟨xn_cn C g1 hWH g2 _ _, C.2.2.2.2.1 _ g3, trivial⟩ ⟨xw_P_blind, hp⟩ rfl hl r1.1 (by rw [List.reverse_reverse]) (by show 2 * 0 + (st.map fun v => v.category).sum ≤ 8; omega) hd ⟨h1, h2⟩
/-- the receiver and the arguments on the stack -/
theorem xn_recv {o : xv_V} {t c0 : Nat} {es : List xv_V} (ho : o.1 = 1) (hh : h[o.2.1]? = some (t, c0, es)) (r3 : xf_2 (xm_V E ws) (as.reverse ++ (o :: S)) stk) (r4 : xf_2 (xm_O E ws tys) h ws) (ht : t = 0) :
    ∃ (st1 st : List Value) (a : Nat) (fs : List Value), stk = st1.reverse.reverse ++ .ref a :: st ∧ xf_2 (xm_V E ws) (o :: as) (.ref a :: st1.reverse) ∧ xf_2 (xm_V E ws) S st ∧ ws[o.2.1]? = some (a, .inr (c0, fs)) ∧ st1.reverse.length = as.length := by
  obtain ⟨st1, st2, rfl, q1, q2⟩ := xf_2_split r3
  obtain ⟨v, st, rfl, mv, q4⟩ := xf_2_cons q2
  have q3 := xf_2_rev q1
  rw [List.reverse_reverse] at q3
  obtain ⟨a, e0, rfl, hw⟩ := xm_VO ho mv
  rcases xm_at r4 hh hw with ⟨-, fs, k1, k2⟩ | ⟨k0, -⟩
  · dsimp only at k1
    subst k1
    exact ⟨st1, st, a, fs, by rw [List.reverse_reverse], ⟨mv, q3⟩, q4, hw, (xf_2_len q3).symm⟩
  · dsimp only at k0
    omega
theorem xn_c98 (C : xf_C p R s m args meth c cc nL own ini A E (d + 1) sc) (hF : xf_F s) (hs : xs_c98 own w k n) (hd : decode cc pc = .ok (.invokespecial w, 3)) (hlen : as.length = n) (hS4 : S.length ≤ 4) {o : xv_V} {t c0 : Nat} {es : List xv_V} (ho : o.1 = 1) (hh : h[o.2.1]? = some (t, c0, es)) (ht : t = 0) (hMt : xw_M l E D A sc d k (o :: as) h R0) (h1 : nc + R0.2.2.2.1 ≤ R.cells) (h2 : ns + R0.2.2.2.2 ≤ R.slots)
    (r1 : lv_has ls nL lv) (r3 : xf_2 (xm_V E ws) (as.reverse ++ (o :: S)) stk) (r4 : xf_2 (xm_O E ws tys) h ws) (hK : va_K D vwCl tys s) (hP : va_P D vwCl ws H) (hD : va_D A ws) (hS : va_S A s.heap H locs) :
    ∃ (st : List Value) (aa : Array Value), xf_2 (xm_V E ws) S st ∧ vx_Run p l e R s m args below meth c H locs nc ns R0.2.2.2.1 R0.2.2.2.2 (F0 m pc ls stk) st (xw_Q E D A ws R0 aa) (xw_X E D A ws R0) A := by
  obtain ⟨st1, st, a, fs, rfl, q3, q2, hw, hl⟩ := xn_recv ho hh r3 r4 ht
  obtain ⟨g1, hWH, hRT, hnm, g2, g3⟩ := hs
  have hsum := xm_sum q2
  have hp := xn_pre C hF q3 r4 hK hP hD hS
  have hfix : CallFix p m c cc nL s args xw_B own := ⟨C.1, C.2.1, C.2.2.1, C.2.2.2.1, C.2.2.2.2.1⟩
  have hcb := xn_cb C g1 hWH g2 R0.2.2.2.1 R0.2.2.2.2
  rw [hRT] at hcb
  refine ⟨st, (Value.ref a :: st1.reverse).toArray, q2, ?_⟩
  exact vx_runI (As := st1.reverse) (b := a) hfix (hMt ws tys) ⟨hcb, hnm, C.2.2.2.2.1 _ g3⟩ ⟨xw_P_blind, hp⟩ rfl (by rw [hl, hlen]) r1.1 rfl (by show 2 * 0 + (st.map fun v => v.category).sum ≤ 8; omega) hd ⟨h1, h2⟩
theorem xn_c99 (C : xf_C p R s m args meth c cc nL own ini A E (d + 1) sc) (hF : xf_F s) (hs : xs_c99 own w k n) (hd : decode cc pc = .ok (.invokespecial w, 3)) (hlen : as.length = n) (hS4 : S.length ≤ 4) {o : xv_V} {t c0 : Nat} {es : List xv_V} (ho : o.1 = 1) (hh : h[o.2.1]? = some (t, c0, es)) (ht : t = 0) (hMt : xw_M l E D A sc d k (o :: as) h R0) (h1 : nc + R0.2.2.2.1 ≤ R.cells) (h2 : ns + R0.2.2.2.2 ≤ R.slots)
    (r1 : lv_has ls nL lv) (r3 : xf_2 (xm_V E ws) (as.reverse ++ (o :: S)) stk) (r4 : xf_2 (xm_O E ws tys) h ws) (hK : va_K D vwCl tys s) (hP : va_P D vwCl ws H) (hD : va_D A ws) (hS : va_S A s.heap H locs) :
    ∃ (st : List Value) (aa : Array Value), xf_2 (xm_V E ws) S st ∧ vx_Run p l e R s m args below meth c H locs nc ns R0.2.2.2.1 R0.2.2.2.2 (F0 m pc ls stk) st (xw_Q E D A ws R0 aa) (xw_X E D A ws R0) A := by
  obtain ⟨st1, st, a, fs, rfl, q3, q2, hw, hl⟩ := xn_recv ho hh r3 r4 ht
  obtain ⟨g1, hWH, hRT, hnm, host, g2, g3⟩ := hs
  have hsum := xm_sum q2
  have hp := xn_pre C hF q3 r4 hK hP hD hS
  have hfix : CallFix p m c cc nL s args xw_B own := ⟨C.1, C.2.1, C.2.2.1, C.2.2.2.1, C.2.2.2.2.1⟩
  have hcb := xn_cn C g1 hWH g2 R0.2.2.2.1 R0.2.2.2.2
  rw [hRT] at hcb
  refine ⟨st, (Value.ref a :: st1.reverse).toArray, q2, ?_⟩
  exact vx_runIN (As := st1.reverse) (b := a) hfix (hMt ws tys) ⟨hcb, hnm, C.2.2.2.2.1 _ g3⟩ ⟨xw_P_blind, hp⟩ rfl (by rw [hl, hlen]) r1.1 rfl (by show 2 * 0 + (st.map fun v => v.category).sum ≤ 8; omega) hd ⟨h1, h2⟩
theorem xn_c100 (C : xf_C p R s m args meth c cc nL own ini A E (d + 1) sc) (hF : xf_F s) (hs : xs_c100 own w k n z) (hd : decode cc pc = .ok (.invokevirtual w, 3)) (hlen : as.length = n) (hS4 : S.length ≤ 4) {o : xv_V} {t c0 : Nat} {es : List xv_V} (ho : o.1 = 1) (hh : h[o.2.1]? = some (t, c0, es)) (ht : t = 0) (hc0 : c0 = z) (hMt : xw_M l E D A sc d k (o :: as) h R0) (h1 : nc + R0.2.2.2.1 ≤ R.cells) (h2 : ns + R0.2.2.2.2 ≤ R.slots)
    (r1 : lv_has ls nL lv) (r3 : xf_2 (xm_V E ws) (as.reverse ++ (o :: S)) stk) (r4 : xf_2 (xm_O E ws tys) h ws) (hK : va_K D vwCl tys s) (hP : va_P D vwCl ws H) (hD : va_D A ws) (hS : va_S A s.heap H locs) :
    ∃ (st : List Value) (aa : Array Value), xf_2 (xm_V E ws) S st ∧ vx_Run p l e R s m args below meth c H locs nc ns R0.2.2.2.1 R0.2.2.2.2 (F0 m pc ls stk) st (xw_Q E D A ws R0 aa) (xw_X E D A ws R0) A := by
  obtain ⟨st1, st, a, fs, rfl, q3, q2, hw, hl⟩ := xn_recv ho hh r3 r4 ht
  obtain ⟨g1, hWH, g2, g3, rr, g4, g5⟩ := hs
  subst hc0
  have hsum := xm_sum q2
  have hp := xn_pre C hF q3 r4 hK hP hD hS
  have hfix : CallFix p m c cc nL s args xw_B own := ⟨C.1, C.2.1, C.2.2.1, C.2.2.2.1, C.2.2.2.2.1⟩
  refine ⟨st, (Value.ref a :: st1.reverse).toArray, q2, ?_⟩
  exact vx_runV (As := st1.reverse) (b := a) (C := rr.1) hfix (hMt ws tys) ⟨xn_cb C g1 hWH g2 _ _, C.2.2.2.2.1 _ g3, C.2.2.2.2.1 _ g5⟩ ⟨xw_P_blind, va_recv hK hP g4 hw, hp⟩ rfl (by rw [hl, hlen]) r1.1 rfl (by show 2 * 0 + (st.map fun v => v.category).sum ≤ 8; omega) hd ⟨h1, h2⟩
theorem xn_c101 (C : xf_C p R s m args meth c cc nL own ini A E (d + 1) sc) (hF : xf_F s) (hs : xs_c101 own w k n z) (hd : decode cc pc = .ok (.invokeinterface w 1, 5)) (hlen : as.length = n) (hS4 : S.length ≤ 4) {o : xv_V} {t c0 : Nat} {es : List xv_V} (ho : o.1 = 1) (hh : h[o.2.1]? = some (t, c0, es)) (ht : t = 0) (hc0 : c0 = z) (hMt : xw_M l E D A sc d k (o :: as) h R0) (h1 : nc + R0.2.2.2.1 ≤ R.cells) (h2 : ns + R0.2.2.2.2 ≤ R.slots)
    (r1 : lv_has ls nL lv) (r3 : xf_2 (xm_V E ws) (as.reverse ++ (o :: S)) stk) (r4 : xf_2 (xm_O E ws tys) h ws) (hK : va_K D vwCl tys s) (hP : va_P D vwCl ws H) (hD : va_D A ws) (hS : va_S A s.heap H locs) :
    ∃ (st : List Value) (aa : Array Value), xf_2 (xm_V E ws) S st ∧ vx_Run5 p l e R s m args below meth c H locs nc ns R0.2.2.2.1 R0.2.2.2.2 (F0 m pc ls stk) st (xw_Q E D A ws R0 aa) (xw_X E D A ws R0) A := by
  obtain ⟨st1, st, a, fs, rfl, q3, q2, hw, hl⟩ := xn_recv ho hh r3 r4 ht
  obtain ⟨g1, g2, hWH, g5, x0, rr, g3, g4, g6, b1, b2, b3, b4, b5, b6, b7, b8⟩ := hs
  subst hc0
  have hsum := xm_sum q2
  have hp := xn_pre C hF q3 r4 hK hP hD hS
  have hfix : CallFix p m c cc nL s args xw_B own := ⟨C.1, C.2.1, C.2.2.1, C.2.2.2.1, C.2.2.2.2.1⟩
  obtain ⟨hx, hb, hml, hown, hts, hA, hRf, hRl, hlk, hini, hE⟩ := C
  have hat : ClassAt s rr.1 (D.1 c0) := (hK.1 _ _ g6).2
  have hcode : (Cond.code (xg_Y k) (xg_CC k) (xg_ML k) (xg_RT k)).before args s = true := by
    have := hts _ g1
    rwa [xg_CW0 hWH] at this
  have hci : va_CI R s args own rr.1 w x0 (xg_Y k) (xg_CC k) (xg_ML k) (xg_RT k) (xg_CW k :: xw_B) { frames := d, cells := R0.2.2.2.1, slots := R0.2.2.2.2, locals := 64 * d } R0.2.2.2.1 R0.2.2.2.2 n := by
    refine ⟨⟨rfl, rfl, hRf, ?_, xn_words hts g1, ?_⟩, hts _ b1, hts _ b2, hts _ b3, hts _ b4, hts _ b5, hts _ b6, hts _ b7, hts _ b8, hts _ g2, hcode, g3, xn_parse g4⟩
    · show 8 + (xg_ML k + 11) + 64 * d ≤ R.locals
      omega
    · rw [xg_CW0 hWH]; exact List.mem_cons_self
  refine ⟨st, (Value.ref a :: st1.reverse).toArray, q2, ?_⟩
  exact vx_runF (As := st1.reverse) (b := a) (C := rr.1) hat hfix (hMt ws tys) hci ⟨xw_P_blind, va_recv hK hP g6 hw, hp⟩ rfl (by rw [hl, hlen]) r1.1 rfl (by show 2 * 0 + (st.map fun v => v.category).sum ≤ 8; omega) hd ⟨h1, h2⟩
end XC
