/-! fields and rows -/
def xs_fget (own : String) (w ci f : Nat) : Prop := ∃ (C : String) (T : u_T) (N : Nat) (ref : String), vwCl[ci]? = some (C, T, N) ∧ (∀ x ∈ u_ws C T N, x ∈ xw_B) ∧ f < N ∧ Cond.fieldLink own w ref (T f).2.1 (T f).2.2.1 ∈ xw_B ∧ (ref = (T f).1 ∨ Cond.sameField ref (T f).1 (T f).2.1 (T f).2.2.1 ∈ xw_B)
def xs_fgetN (own : String) (w ci f : Nat) : Prop := ∃ (C : String) (T : u_T) (N : Nat) (ref host : String), vwCl[ci]? = some (C, T, N) ∧ (∀ x ∈ u_ws C T N, x ∈ xw_B) ∧ f < N ∧ Cond.fieldLinkNest own w ref (T f).2.1 (T f).2.2.1 host ∈ xw_B ∧ (ref = (T f).1 ∨ Cond.sameField ref (T f).1 (T f).2.1 (T f).2.2.1 ∈ xw_B)
def xs_ft (z : Nat) (ty : FieldType) : Prop := (z = 0 ∧ ty = .int) ∨ (z = 1 ∧ ty = .boolean) ∨ (z = 2 ∧ ((∃ n, ty = .object n) ∨ ∃ t, ty = .array t)) ∨ (z = 3 ∧ ty = .long)
def xs_fput (own : String) (fin : Bool) (w ci f z : Nat) : Prop := ∃ (C : String) (T : u_T) (N : Nat) (ref : String) (ty0 : Nat → FieldType), vwCl[ci]? = some (C, T, N) ∧ (∀ x ∈ u_ws C T N, x ∈ xw_B) ∧ f < N ∧ Cond.fieldLink own w ref (T f).2.1 (T f).2.2.1 ∈ xw_B ∧ (ref = (T f).1 ∨ Cond.sameField ref (T f).1 (T f).2.1 (T f).2.2.1 ∈ xw_B) ∧
  (∀ k, k < N → parseFieldDescriptor (T k).2.2.1 = some (ty0 k)) ∧ (∀ a, a < N → ∀ b, b < N → a ≠ b → (T a).2.1 ≠ (T b).2.1) ∧ (T f).2.2.2 = fin ∧ (fin = true → (T f).1 = own) ∧ xs_ft z (ty0 f)
theorem xm_at {E : xm_E} {ws : va_W} {tys : xm_T} {h : List xv_O} {i : Nat} {o : xv_O} {x : Nat × va_E} (r4 : xf_2 (xm_O E ws tys) h ws) (hh : h[i]? = some o) (hw : ws[i]? = some x) : xm_O E ws tys o x := by
  obtain ⟨y, h1, h2⟩ := xf_2_get r4 _ _ hh
  rw [hw] at h1
  cases h1
  exact h2
theorem xm_set {E : xm_E} {ws : va_W} {tys : xm_T} {h : List xv_O} {i a : Nat} {e e' : va_E} {o : xv_O} (r4 : xf_2 (xm_O E ws tys) h ws) (hw : ws[i]? = some (a, e)) (ho : xm_O E ws tys o (a, e')) : xf_2 (xm_O E (ws.set i (a, e')) tys) (xq_set h i o) (ws.set i (a, e')) := by
  have hle := xm_le_set (e' := e') hw
  rw [xq_set_eq]
  have h3 := xm_O_mono [] hle ho
  rw [List.append_nil] at h3
  exact xf_2_set (xm_H_mono' hle r4) i h3
theorem xm_setEl {E : xm_E} {ws : va_W} {es : List xv_V} {k : Nat} {v0 : xv_V} {val : Value} {el el' : Nat → Value} (h6 : ∀ (j : Nat) (q : xv_V), es[j]? = some q → xm_V E ws q (el j)) (hv : xm_V E ws v0 val) (he : ∀ j, el' j = if j = k then val else el j) : ∀ (j : Nat) (q : xv_V), (xq_set es k v0)[j]? = some q → xm_V E ws q (el' j) := by
  intro j q hq
  rw [xq_set_eq, List.getElem?_set] at hq
  rw [he]
  by_cases hj : j = k
  · subst hj
    simp only [if_pos] at hq
    split at hq
    · cases hq
      rw [if_pos rfl]; exact hv
    · cases hq
  · rw [if_neg (fun z => hj z.symm)] at hq
    rw [if_neg hj]
    exact h6 j q hq
theorem xm_setLen {es : List xv_V} {k : Nat} {v0 : xv_V} : (xq_set es k v0).length = es.length := by rw [xq_set_eq, List.length_set]
/-- what a field or an answer of a type takes as it is -/
theorem xm_fit {E : xm_E} {ws : va_W} {z : Nat} {ty : FieldType} {q : xv_V} {v : Value} (hz : xs_ft z ty) (hq : xq_ty z q = true) (hm : xm_V E ws q v) : narrow ty v = v ∧ fits ty v = true := by
  rcases hz with ⟨rfl, rfl⟩ | ⟨rfl, rfl⟩ | ⟨rfl, hz⟩ | ⟨rfl, rfl⟩
  · obtain ⟨x, rfl⟩ := xm_VI hq hm
    exact ⟨rfl, rfl⟩
  · obtain ⟨t, a, b⟩ := q
    obtain ⟨q1, q2⟩ := xe_and hq
    obtain ⟨q3, q4⟩ := xe_and q2
    have e1 : t = 0 := xe_beq q1
    subst e1
    obtain ⟨x, rfl, k1, k2⟩ := xm_V0 hm
    have k3 := xe_ble q3
    have k4 := xe_ble q4
    dsimp only at k3 k4
    unfold xq_B at k3 k4
    have k5 := xb_int x
    have k6 : x = 0 ∨ x = 1 := by
      rcases Nat.lt_or_ge (xb x) 2147483649 with h | h
      · exact Or.inl (xb_inj (by rw [xb_0]; omega))
      · exact Or.inr (xb_inj (by rw [show xb 1 = 2147483649 by decide]; omega))
    rcases k6 with rfl | rfl <;> exact ⟨rfl, rfl⟩
  · obtain ⟨x, rfl⟩ := xm_VA hq hm
    rcases hz with ⟨n, rfl⟩ | ⟨t, rfl⟩ <;> cases x <;> exact ⟨rfl, rfl⟩
  · obtain ⟨x, rfl, -⟩ := xm_VL hq hm
    exact ⟨rfl, rfl⟩
theorem xg_TYo {t : Nat} (h1 : 1 ≤ t) (h2 : t ≤ 4) : ∃ C, xg_TY t = .object C := by
  match t, h1, h2 with
  | 1, _, _ => exact ⟨_, rfl⟩
  | 2, _, _ => exact ⟨_, rfl⟩
  | 3, _, _ => exact ⟨_, rfl⟩
  | 4, _, _ => exact ⟨_, rfl⟩
theorem xm_VIany {E : xm_E} {ws : va_W} {q : xv_V} {x : Int32} (hq : xq_isI q = true) (h : xm_V E [] q (.int x)) : xm_V E ws q (.int x) := h
section XS
variable {own : String} {ini : Bool} {d : Nat} {sc : List xv_V} {nL : Nat}
theorem xs_getf {w ci f : Nat} (hs : xs_fget own w ci f) : xs_ok own ini d sc nL (xo_getf ci f) (.getfield w) 3 := by
  intro p l e R s m args below meth c Q cc A E D W0 C pc hd L S h nc ns k r h1 h2 hf kk ls stk H locs hR
  obtain ⟨hx, hb, hml, hown, hts, hA, hRf, hRl, hlk, hini, hE⟩ := C
  obtain ⟨ws, tys, lv, r1, r2, r3, r4, hK, hP, hD, hS, hM⟩ := hR
  obtain ⟨C, T, N, ref, g1, g2, g3, g4, g5⟩ := hs
  obtain ⟨a0, S0, rfl, hf1⟩ := xe_pop hf
  obtain ⟨w0, st0, rfl, m0, r30⟩ := xf_2_cons r3
  obtain ⟨ho, t, c0, es, hh, hf2⟩ := xe_obj hf1
  obtain ⟨hq, hf3⟩ := xe_cond hf2
  obtain ⟨q1, q2⟩ := xe_and hq
  obtain ⟨v, hv, hf4⟩ := xe_nth hf3
  have e1 : t = 0 := xe_beq q1
  have e2 : c0 = ci := xe_beq q2
  subst e1; subst e2
  obtain ⟨a, e0, rfl, hw⟩ := xm_VO ho m0
  rcases xm_at r4 hh hw with ⟨-, fs, k1, k2⟩ | ⟨k0, -⟩
  · dsimp only at k1 k2
    subst k1
    obtain ⟨v', hv', hm⟩ := xf_2_get k2 _ _ hv
    refine va_get hx hb hts g2 hown hK hP _ hw g1 f g3 (hts _ g4) ?_ hv' hd (kk _ _ _ hf4 _ _ _ _ ⟨ws, tys, lv, r1, r2, xf_2_c hm r30, r4, hK, hP, hD, hS, hM⟩)
    rcases g5 with rfl | g5
    · exact fun x hx => hx
    · exact u_same (hts _ g5)
  · exact absurd k0 (by simp)
theorem xs_getfN {w ci f : Nat} (hs : xs_fgetN own w ci f) : xs_ok own ini d sc nL (xo_getf ci f) (.getfield w) 3 := by
  intro p l e R s m args below meth c Q cc A E D W0 C pc hd L S h nc ns k r h1 h2 hf kk ls stk H locs hR
  obtain ⟨hx, hb, hml, hown, hts, hA, hRf, hRl, hlk, hini, hE⟩ := C
  obtain ⟨ws, tys, lv, r1, r2, r3, r4, hK, hP, hD, hS, hM⟩ := hR
  obtain ⟨C, T, N, ref, host, g1, g2, g3, g4, g5⟩ := hs
  obtain ⟨a0, S0, rfl, hf1⟩ := xe_pop hf
  obtain ⟨w0, st0, rfl, m0, r30⟩ := xf_2_cons r3
  obtain ⟨ho, t, c0, es, hh, hf2⟩ := xe_obj hf1
  obtain ⟨hq, hf3⟩ := xe_cond hf2
  obtain ⟨q1, q2⟩ := xe_and hq
  obtain ⟨v, hv, hf4⟩ := xe_nth hf3
  have e1 : t = 0 := xe_beq q1
  have e2 : c0 = ci := xe_beq q2
  subst e1; subst e2
  obtain ⟨a, e0, rfl, hw⟩ := xm_VO ho m0
  rcases xm_at r4 hh hw with ⟨-, fs, k1, k2⟩ | ⟨k0, -⟩
  · dsimp only at k1 k2
    subst k1
    obtain ⟨v', hv', hm⟩ := xf_2_get k2 _ _ hv
    refine va_getN hx hb hts g2 hown hK hP _ hw g1 f g3 (hts _ g4) ?_ hv' hd (kk _ _ _ hf4 _ _ _ _ ⟨ws, tys, lv, r1, r2, xf_2_c hm r30, r4, hK, hP, hD, hS, hM⟩)
    rcases g5 with rfl | g5
    · exact fun x hx => hx
    · exact u_same (hts _ g5)
  · exact absurd k0 (by simp)
theorem xs_putf {w ci f z : Nat} (hs : xs_fput own false w ci f z) : xs_ok own ini d sc nL (xo_putf ci f z) (.putfield w) 3 := by
  intro p l e R s m args below meth c Q cc A E D W0 C pc hd L S h nc ns k r h1 h2 hf kk ls stk H locs hR
  obtain ⟨hx, hb, hml, hown, hts, hA, hRf, hRl, hlk, hini, hE⟩ := C
  obtain ⟨ws, tys, lv, r1, r2, r3, r4, hK, hP, hD, hS, hM⟩ := hR
  obtain ⟨C, T, N, ref, ty0, g1, g2, g3, g4, g5, g6, g7, g8, g9, g10⟩ := hs
  obtain ⟨a0, S0, rfl, hf1⟩ := xe_pop hf
  obtain ⟨w0, st0, rfl, m0, r30⟩ := xf_2_cons r3
  obtain ⟨a1, S1, rfl, hf2⟩ := xe_pop hf1
  obtain ⟨w1, st1, rfl, m1, r31⟩ := xf_2_cons r30
  obtain ⟨ho, t, c0, es, hh, hf3⟩ := xe_obj hf2
  obtain ⟨hq, hf4⟩ := xe_cond hf3
  obtain ⟨q1, q2⟩ := xe_and hq
  obtain ⟨q2, q3⟩ := xe_and q2
  obtain ⟨v, hv, hf5⟩ := xe_nth hf4
  have e1 : t = 0 := xe_beq q1
  have e2 : c0 = ci := xe_beq q2
  subst e1; subst e2
  obtain ⟨a, e0, rfl, hw⟩ := xm_VO ho m1
  obtain ⟨hn, hfit⟩ := xm_fit g10 q3 m0
  rcases xm_at r4 hh hw with ⟨-, fs, k1, k2⟩ | ⟨k0, -⟩
  · dsimp only at k1 k2
    subst k1
    obtain ⟨v', hv', hm⟩ := xf_2_get k2 _ _ hv
    have hO2 : xm_O E ws tys (0, c0, xq_set es f a0) (a, .inr (c0, fs.set f w0)) := Or.inl ⟨rfl, _, rfl, by rw [xq_set_eq]; exact xf_2_set k2 f m0⟩
    have hle := xm_le_set (e' := .inr (c0, fs.set f w0)) hw
    refine va_put hx hb hts g2 ty0 g6 g7 hown hK hP hD hS _ hw g1 f g3 (hts _ g4) ?_ g8 (g6 f g3) hn hfit (List.getElem?_eq_some_iff.mp hv').1 hd (fun H1 locs1 p1 p2 p3 => kk _ _ _ hf5 _ _ _ _ ⟨_, tys, lv, r1, xm_L_mono hle r2, xm_S_mono hle r31, xm_set r4 hw hO2, hK, p1, p2, p3, xm_le_trans hM (xm_le_set hw)⟩)
    rcases g5 with rfl | g5
    · exact fun x hx => hx
    · exact u_same (hts _ g5)
  · exact absurd k0 (by simp)
theorem xs_putfF {w ci f z : Nat} (hi : ini = true) (hs : xs_fput own true w ci f z) : xs_ok own ini d sc nL (xo_putf ci f z) (.putfield w) 3 := by
  intro p l e R s m args below meth c Q cc A E D W0 C pc hd L S h nc ns k r h1 h2 hf kk ls stk H locs hR
  obtain ⟨hx, hb, hml, hown, hts, hA, hRf, hRl, hlk, hini, hE⟩ := C
  obtain ⟨ws, tys, lv, r1, r2, r3, r4, hK, hP, hD, hS, hM⟩ := hR
  obtain ⟨C, T, N, ref, ty0, g1, g2, g3, g4, g5, g6, g7, g8, g9, g10⟩ := hs
  obtain ⟨a0, S0, rfl, hf1⟩ := xe_pop hf
  obtain ⟨w0, st0, rfl, m0, r30⟩ := xf_2_cons r3
  obtain ⟨a1, S1, rfl, hf2⟩ := xe_pop hf1
  obtain ⟨w1, st1, rfl, m1, r31⟩ := xf_2_cons r30
  obtain ⟨ho, t, c0, es, hh, hf3⟩ := xe_obj hf2
  obtain ⟨hq, hf4⟩ := xe_cond hf3
  obtain ⟨q1, q2⟩ := xe_and hq
  obtain ⟨q2, q3⟩ := xe_and q2
  obtain ⟨v, hv, hf5⟩ := xe_nth hf4
  have e1 : t = 0 := xe_beq q1
  have e2 : c0 = ci := xe_beq q2
  subst e1; subst e2
  obtain ⟨a, e0, rfl, hw⟩ := xm_VO ho m1
  obtain ⟨hn, hfit⟩ := xm_fit g10 q3 m0
  rcases xm_at r4 hh hw with ⟨-, fs, k1, k2⟩ | ⟨k0, -⟩
  · dsimp only at k1 k2
    subst k1
    obtain ⟨v', hv', hm⟩ := xf_2_get k2 _ _ hv
    have hO2 : xm_O E ws tys (0, c0, xq_set es f a0) (a, .inr (c0, fs.set f w0)) := Or.inl ⟨rfl, _, rfl, by rw [xq_set_eq]; exact xf_2_set k2 f m0⟩
    have hle := xm_le_set (e' := .inr (c0, fs.set f w0)) hw
    refine va_putF hx hb hts g2 ty0 g6 g7 hown hK hP hD hS _ hw g1 f g3 (hts _ g4) ?_ g8 (hini hi) (g9 rfl) (g6 f g3) hn hfit (List.getElem?_eq_some_iff.mp hv').1 hd (fun H1 locs1 p1 p2 p3 => kk _ _ _ hf5 _ _ _ _ ⟨_, tys, lv, r1, xm_L_mono hle r2, xm_S_mono hle r31, xm_set r4 hw hO2, hK, p1, p2, p3, xm_le_trans hM (xm_le_set hw)⟩)
    rcases g5 with rfl | g5
    · exact fun x hx => hx
    · exact u_same (hts _ g5)
  · exact absurd k0 (by simp)
theorem xs_iald : xs_ok own ini d sc nL (xo_iald sc) .iaload 1 := by
  intro p l e R s m args below meth c Q cc A E D W0 C pc hd L S h nc ns k r h1 h2 hf kk ls stk H locs hR
  obtain ⟨hx, hb, hml, hown, hts, hA, hRf, hRl, hlk, hini, hE⟩ := C
  obtain ⟨ws, tys, lv, r1, r2, r3, r4, hK, hP, hD, hS, hM⟩ := hR
  obtain ⟨a0, S0, rfl, hf1⟩ := xe_pop hf
  obtain ⟨w0, st0, rfl, m0, r30⟩ := xf_2_cons r3
  obtain ⟨a1, S1, rfl, hf2⟩ := xe_pop hf1
  obtain ⟨w1, st1, rfl, m1, r31⟩ := xf_2_cons r30
  obtain ⟨x0, rfl, hf3⟩ := xe_one hf2
  obtain ⟨i, rfl, e9⟩ := xm_V1 m0
  cases h7 : Nat.beq a1.1 7 with
  | true =>
    have hf3 : cond (Nat.ble xq_B x0) (xq_nth sc (Nat.succ (x0 - xq_B)) fun v => cond (xq_isI v) (k L (v :: S1) h) none) none = some r := by
      have h9 := hf3
      rw [h7] at h9
      exact h9
    obtain ⟨q3, hf4⟩ := xe_cond hf3
    obtain ⟨v, hv, hf5⟩ := xe_nth hf4
    obtain ⟨q5, hf6⟩ := xe_cond hf5
    obtain ⟨-, -, -, -, xs, N, x1, x2, x3, x4, x5⟩ := hE
    obtain ⟨x6, x7⟩ := x5 _ _ hv
    have q4 := xe_ble q3
    unfold xq_B at q4 x6 x7
    obtain ⟨z1, z2⟩ := xb_clamp e9 q4
    have hin := xb_in e9 q4 x6
    have hm : xm_V E ws v (.int (xs i.toNatClampNeg)) := by rw [z1]; exact xm_VIany q5 x7
    obtain ⟨t, u, u'⟩ := a1
    have ht : t = 7 := xe_beq h7
    subst ht
    cases w1 with
    | ref a =>
      rcases m1 with h | h | h | h
      · exact absurd h.1 (by simp)
      · exact absurd h.1 (by simp)
      · rw [h.2]
        exact va_sld hx hb x1 x2 x3 hS hin hd (kk _ _ _ hf6 _ _ _ _ ⟨ws, tys, lv, r1, r2, xf_2_c hm r31, r4, hK, hP, hD, hS, hM⟩)
      · exact absurd h (by simp)
    | int x => rcases m1 with h | h <;> exact absurd h.1 (by simp)
    | _ => simp [xm_V] at m1
  | false =>
    have hf3 : (xq_obj h a1 fun t c es => cond (and (Nat.beq t 1) (and (Nat.beq c 0) (Nat.ble xq_B x0))) (xq_nth es (x0 - xq_B) fun v => k L (v :: S1) h) none) = some r := by
      have h9 := hf3
      rw [h7] at h9
      exact h9
    obtain ⟨ho, t, c0, es, hh, hf7⟩ := xe_obj hf3
    obtain ⟨hq, hf8⟩ := xe_cond hf7
    obtain ⟨q1, q2⟩ := xe_and hq
    obtain ⟨q2, q3⟩ := xe_and q2
    obtain ⟨v, hv, hf9⟩ := xe_nth hf8
    have e1 : t = 1 := xe_beq q1
    have e2 : c0 = 0 := xe_beq q2
    subst e1; subst e2
    obtain ⟨a, e0, rfl, hw⟩ := xm_VO ho m1
    have q4 := xe_ble q3
    unfold xq_B at q4 hv
    rcases xm_at r4 hh hw with ⟨k0, -⟩ | ⟨-, cA, n, arr, t0, k1, k2, k3, k4, k5, k6⟩
    · exact absurd k0 (by simp)
    dsimp only at k1 k2 k3 k4 k6
    subst k1
    rcases k3 with ⟨-, g, rfl⟩ | ⟨k3, -⟩ | ⟨k3, -⟩
    · obtain ⟨z1, z2⟩ := xb_clamp e9 q4
      have hin := xb_in e9 q4 (N := n) (by rw [k4]; exact (List.getElem?_eq_some_iff.mp hv).1)
      have hm := k6 _ _ hv
      rw [← z1] at hm
      exact va_iald hx hb hK hP _ t0 hw k2 hin hd (kk _ _ _ hf9 _ _ _ _ ⟨ws, tys, lv, r1, r2, xf_2_c hm r31, r4, hK, hP, hD, hS, hM⟩)
    · exact absurd k3 (by decide)
    · exact absurd k3 (by decide)
theorem xs_lald : xs_ok own ini d sc nL (xo_ald (fun c => Nat.beq c 5)) .laload 1 := by
  intro p l e R s m args below meth c Q cc A E D W0 C pc hd L S h nc ns k r h1 h2 hf kk ls stk H locs hR
  obtain ⟨hx, hb, hml, hown, hts, hA, hRf, hRl, hlk, hini, hE⟩ := C
  obtain ⟨ws, tys, lv, r1, r2, r3, r4, hK, hP, hD, hS, hM⟩ := hR
  obtain ⟨a0, S0, rfl, hf1⟩ := xe_pop hf
  obtain ⟨w0, st0, rfl, m0, r30⟩ := xf_2_cons r3
  obtain ⟨a1, S1, rfl, hf2⟩ := xe_pop hf1
  obtain ⟨w1, st1, rfl, m1, r31⟩ := xf_2_cons r30
  obtain ⟨x0, rfl, hf3⟩ := xe_one hf2
  obtain ⟨i, rfl, e9⟩ := xm_V1 m0
  obtain ⟨ho, t, c0, es, hh, hf4⟩ := xe_obj hf3
  obtain ⟨hq, hf5⟩ := xe_cond hf4
  obtain ⟨q1, q2⟩ := xe_and hq
  obtain ⟨q2, q3⟩ := xe_and q2
  obtain ⟨v, hv, hf6⟩ := xe_nth hf5
  have e1 : t = 1 := xe_beq q1
  subst e1
  have e2 : c0 = 5 := xe_beq q2
  subst e2
  obtain ⟨a, e0, rfl, hw⟩ := xm_VO ho m1
  have q4 := xe_ble q3
  unfold xq_B at q4 hv
  rcases xm_at r4 hh hw with ⟨k0, -⟩ | ⟨-, cA, n, arr, t0, k1, k2, k3, k4, k5, k6⟩
  · exact absurd k0 (by simp)
  dsimp only at k1 k2 k3 k4 k6
  subst k1
  rcases k3 with ⟨k3, -⟩ | ⟨-, g, rfl⟩ | ⟨-, k3, -⟩
  · exact absurd k3 (by decide)
  · obtain ⟨z1, z2⟩ := xb_clamp e9 q4
    have hin := xb_in e9 q4 (N := n) (by rw [k4]; exact (List.getElem?_eq_some_iff.mp hv).1)
    have hm := k6 _ _ hv
    rw [← z1] at hm
    exact va_lald hx hb hK hP _ t0 hw k2 hin hd (kk _ _ _ hf6 _ _ _ _ ⟨ws, tys, lv, r1, r2, xf_2_c hm r31, r4, hK, hP, hD, hS, hM⟩)
  · exact absurd k3 (by decide)
theorem xs_aald : xs_ok own ini d sc nL (xo_ald (fun c => and (Nat.ble 1 c) (Nat.ble c 4))) .aaload 1 := by
  intro p l e R s m args below meth c Q cc A E D W0 C pc hd L S h nc ns k r h1 h2 hf kk ls stk H locs hR
  obtain ⟨hx, hb, hml, hown, hts, hA, hRf, hRl, hlk, hini, hE⟩ := C
  obtain ⟨ws, tys, lv, r1, r2, r3, r4, hK, hP, hD, hS, hM⟩ := hR
  obtain ⟨a0, S0, rfl, hf1⟩ := xe_pop hf
  obtain ⟨w0, st0, rfl, m0, r30⟩ := xf_2_cons r3
  obtain ⟨a1, S1, rfl, hf2⟩ := xe_pop hf1
  obtain ⟨w1, st1, rfl, m1, r31⟩ := xf_2_cons r30
  obtain ⟨x0, rfl, hf3⟩ := xe_one hf2
  obtain ⟨i, rfl, e9⟩ := xm_V1 m0
  obtain ⟨ho, t, c0, es, hh, hf4⟩ := xe_obj hf3
  obtain ⟨hq, hf5⟩ := xe_cond hf4
  obtain ⟨q1, q2⟩ := xe_and hq
  obtain ⟨q2, q3⟩ := xe_and q2
  obtain ⟨v, hv, hf6⟩ := xe_nth hf5
  have e1 : t = 1 := xe_beq q1
  subst e1
  obtain ⟨c1, c2⟩ := xe_and q2
  have c1 := xe_ble c1
  have c2 := xe_ble c2
  obtain ⟨a, e0, rfl, hw⟩ := xm_VO ho m1
  have q4 := xe_ble q3
  unfold xq_B at q4 hv
  rcases xm_at r4 hh hw with ⟨k0, -⟩ | ⟨-, cA, n, arr, t0, k1, k2, k3, k4, k5, k6⟩
  · exact absurd k0 (by simp)
  dsimp only at k1 k2 k3 k4 k6
  subst k1
  rcases k3 with ⟨k3, -⟩ | ⟨k3, -⟩ | ⟨-, -, g, rfl⟩
  · omega
  · omega
  · obtain ⟨C, hC⟩ := xg_TYo c1 c2
    rw [hC] at k2
    obtain ⟨z1, z2⟩ := xb_clamp e9 q4
    have hin := xb_in e9 q4 (N := n) (by rw [k4]; exact (List.getElem?_eq_some_iff.mp hv).1)
    have hm := k6 _ _ hv
    rw [← z1] at hm
    exact va_aldq hx hb hK hP _ t0 hw k2 hin hd (kk _ _ _ hf6 _ _ _ _ ⟨ws, tys, lv, r1, r2, xf_2_c hm r31, r4, hK, hP, hD, hS, hM⟩)
theorem xs_iast : xs_ok own ini d sc nL (xo_ast (fun c => Nat.beq c 0) xq_isI) .iastore 1 := by
  intro p l e R s m args below meth c Q cc A E D W0 C pc hd L S h nc ns k r h1 h2 hf kk ls stk H locs hR
  obtain ⟨hx, hb, hml, hown, hts, hA, hRf, hRl, hlk, hini, hE⟩ := C
  obtain ⟨ws, tys, lv, r1, r2, r3, r4, hK, hP, hD, hS, hM⟩ := hR
  obtain ⟨a0, S0, rfl, hf1⟩ := xe_pop hf
  obtain ⟨w0, st0, rfl, m0, r30⟩ := xf_2_cons r3
  obtain ⟨a1, S1, rfl, hf2⟩ := xe_pop hf1
  obtain ⟨w1, st1, rfl, m1, r31⟩ := xf_2_cons r30
  obtain ⟨a2, S2, rfl, hf3⟩ := xe_pop hf2
  obtain ⟨w2, st2, rfl, m2, r32⟩ := xf_2_cons r31
  obtain ⟨x0, rfl, hf4⟩ := xe_one hf3
  obtain ⟨i, rfl, e9⟩ := xm_V1 m1
  obtain ⟨ho, t, c0, es, hh, hf5⟩ := xe_obj hf4
  obtain ⟨hq, hf6⟩ := xe_cond hf5
  obtain ⟨q1, q2⟩ := xe_and hq
  obtain ⟨q1, q5⟩ := xe_and q1
  obtain ⟨q2, q3⟩ := xe_and q2
  obtain ⟨v, hv, hf7⟩ := xe_nth hf6
  have e1 : t = 1 := xe_beq q1
  subst e1
  have e2 : c0 = 0 := xe_beq q5
  subst e2
  obtain ⟨x, rfl⟩ := xm_VI q2 m0
  obtain ⟨a, e0, rfl, hw⟩ := xm_VO ho m2
  have q4 := xe_ble q3
  unfold xq_B at q4 hv
  rcases xm_at r4 hh hw with ⟨k0, -⟩ | ⟨-, cA, n, arr, t0, k1, k2, k3, k4, k5, k6⟩
  · exact absurd k0 (by simp)
  dsimp only at k1 k2 k3 k4 k6
  subst k1
  rcases k3 with ⟨-, g, rfl⟩ | ⟨k3, -⟩ | ⟨k3, -⟩
  · obtain ⟨z1, z2⟩ := xb_clamp e9 q4
    have hin := xb_in e9 q4 (N := n) (by rw [k4]; exact (List.getElem?_eq_some_iff.mp hv).1)
    have z3 : i.toNatClampNeg = x0 - xq_B := by unfold xq_B; exact z1
    have hO2 : xm_O E ws tys (1, 0, xq_set es (x0 - xq_B) a0) (a, .inl (cA, n, .inl (upd g i.toNatClampNeg x))) := by
      rw [← z3]
      exact Or.inr ⟨rfl, cA, n, _, t0, rfl, k2, Or.inl ⟨rfl, _, rfl⟩, by rw [k4]; exact xm_setLen.symm, k5, xm_setEl k6 m0 (fun j => by simp only [xm_el, upd]; split <;> rfl)⟩
    have hle := xm_le_set (e' := .inl (cA, n, .inl (upd g i.toNatClampNeg x))) hw
    exact va_iast hx hb hK hP hD hS _ t0 hw k2 hin hd (fun H1 locs1 p1 p2 p3 => kk _ _ _ hf7 _ _ _ _ ⟨_, tys, lv, r1, xm_L_mono hle r2, xm_S_mono hle r32, xm_set r4 hw hO2, hK, p1, p2, p3, xm_le_trans hM (xm_le_set hw)⟩)
  · exact absurd k3 (by decide)
  · exact absurd k3 (by decide)
theorem xs_last : xs_ok own ini d sc nL (xo_ast (fun c => Nat.beq c 5) (fun v => Nat.beq v.1 3)) .lastore 1 := by
  intro p l e R s m args below meth c Q cc A E D W0 C pc hd L S h nc ns k r h1 h2 hf kk ls stk H locs hR
  obtain ⟨hx, hb, hml, hown, hts, hA, hRf, hRl, hlk, hini, hE⟩ := C
  obtain ⟨ws, tys, lv, r1, r2, r3, r4, hK, hP, hD, hS, hM⟩ := hR
  obtain ⟨a0, S0, rfl, hf1⟩ := xe_pop hf
  obtain ⟨w0, st0, rfl, m0, r30⟩ := xf_2_cons r3
  obtain ⟨a1, S1, rfl, hf2⟩ := xe_pop hf1
  obtain ⟨w1, st1, rfl, m1, r31⟩ := xf_2_cons r30
  obtain ⟨a2, S2, rfl, hf3⟩ := xe_pop hf2
  obtain ⟨w2, st2, rfl, m2, r32⟩ := xf_2_cons r31
  obtain ⟨x0, rfl, hf4⟩ := xe_one hf3
  obtain ⟨i, rfl, e9⟩ := xm_V1 m1
  obtain ⟨ho, t, c0, es, hh, hf5⟩ := xe_obj hf4
  obtain ⟨hq, hf6⟩ := xe_cond hf5
  obtain ⟨q1, q2⟩ := xe_and hq
  obtain ⟨q1, q5⟩ := xe_and q1
  obtain ⟨q2, q3⟩ := xe_and q2
  obtain ⟨v, hv, hf7⟩ := xe_nth hf6
  have e1 : t = 1 := xe_beq q1
  subst e1
  have e2 : c0 = 5 := xe_beq q5
  subst e2
  obtain ⟨x, rfl, -⟩ := xm_VL q2 m0
  obtain ⟨a, e0, rfl, hw⟩ := xm_VO ho m2
  have q4 := xe_ble q3
  unfold xq_B at q4 hv
  rcases xm_at r4 hh hw with ⟨k0, -⟩ | ⟨-, cA, n, arr, t0, k1, k2, k3, k4, k5, k6⟩
  · exact absurd k0 (by simp)
  dsimp only at k1 k2 k3 k4 k6
  subst k1
  rcases k3 with ⟨k3, -⟩ | ⟨-, g, rfl⟩ | ⟨-, k3, -⟩
  · exact absurd k3 (by decide)
  · obtain ⟨z1, z2⟩ := xb_clamp e9 q4
    have hin := xb_in e9 q4 (N := n) (by rw [k4]; exact (List.getElem?_eq_some_iff.mp hv).1)
    have z3 : i.toNatClampNeg = x0 - xq_B := by unfold xq_B; exact z1
    have hO2 : xm_O E ws tys (1, 5, xq_set es (x0 - xq_B) a0) (a, .inl (cA, n, .inr (.inl (vp_updL g i.toNatClampNeg x)))) := by
      rw [← z3]
      exact Or.inr ⟨rfl, cA, n, _, t0, rfl, k2, Or.inr (Or.inl ⟨rfl, _, rfl⟩), by rw [k4]; exact xm_setLen.symm, k5, xm_setEl k6 m0 (fun j => by simp only [xm_el, vp_updL]; split <;> rfl)⟩
    have hle := xm_le_set (e' := .inl (cA, n, .inr (.inl (vp_updL g i.toNatClampNeg x)))) hw
    exact va_last hx hb hK hP hD hS _ t0 hw k2 hin hd (fun H1 locs1 p1 p2 p3 => kk _ _ _ hf7 _ _ _ _ ⟨_, tys, lv, r1, xm_L_mono hle r2, xm_S_mono hle r32, xm_set r4 hw hO2, hK, p1, p2, p3, xm_le_trans hM (xm_le_set hw)⟩)
  · exact absurd k3 (by decide)
end XS
