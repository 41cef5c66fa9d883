/-! fields and rows -/
def zs_fget (own : String) (w ci f : Nat) : Prop := ∃ (C : String) (T : u_T) (N : Nat) (ref : String), vwCl[ci]? = some (C, T, N) ∧ (∀ x ∈ u_ws C T N, x ∈ zw_B) ∧ f < N ∧ Cond.fieldLink own w ref (T f).2.1 (T f).2.2.1 ∈ zw_B ∧ (ref = (T f).1 ∨ Cond.sameField ref (T f).1 (T f).2.1 (T f).2.2.1 ∈ zw_B)
def zs_ft (z : Nat) (ty : FieldType) : Prop := (z = 0 ∧ ty = .int) ∨ (z = 1 ∧ ty = .boolean) ∨ (z = 2 ∧ ((∃ n, ty = .object n) ∨ ∃ t, ty = .array t)) ∨ (z = 3 ∧ ty = .long)
def zs_fput (own : String) (fin : Bool) (w ci f z : Nat) : Prop := ∃ (C : String) (T : u_T) (N : Nat) (ref : String) (ty0 : Nat → FieldType), vwCl[ci]? = some (C, T, N) ∧ (∀ x ∈ u_ws C T N, x ∈ zw_B) ∧ f < N ∧ Cond.fieldLink own w ref (T f).2.1 (T f).2.2.1 ∈ zw_B ∧ (ref = (T f).1 ∨ Cond.sameField ref (T f).1 (T f).2.1 (T f).2.2.1 ∈ zw_B) ∧
  (∀ k, k < N → parseFieldDescriptor (T k).2.2.1 = some (ty0 k)) ∧ (∀ a, a < N → ∀ b, b < N → a ≠ b → (T a).2.1 ≠ (T b).2.1) ∧ (T f).2.2.2 = fin ∧ (fin = true → (T f).1 = own) ∧ zs_ft z (ty0 f)
/-- what a field or an answer of a type takes as it is -/
theorem zm_narrow {E : Nat} {ws : va_W} {z : Nat} {ty : FieldType} {q v : Value} (hz : zs_ft z ty) (hq : zfit z q = true) (hm : zm_V E ws q v) : narrow ty v = v ∧ fits ty v = true := by
  rcases zm_fit hq hm with ⟨rfl, x, rfl, rfl⟩ | ⟨rfl, x, rfl, rfl, hx⟩ | ⟨rfl, x, rfl⟩ | ⟨rfl, x, rfl, rfl⟩
  · rcases hz with ⟨-, rfl⟩ | ⟨h, -⟩ | ⟨h, -⟩ | ⟨h, -⟩
    · exact ⟨rfl, rfl⟩
    · cases h
    · cases h
    · cases h
  · rcases hz with ⟨h, -⟩ | ⟨-, rfl⟩ | ⟨h, -⟩ | ⟨h, -⟩
    · cases h
    · rcases hx with rfl | rfl <;> exact ⟨rfl, rfl⟩
    · cases h
    · cases h
  · rcases hz with ⟨h, -⟩ | ⟨h, -⟩ | ⟨-, hz⟩ | ⟨h, -⟩
    · cases h
    · cases h
    · rcases hz with ⟨n, rfl⟩ | ⟨t, rfl⟩ <;> cases x <;> exact ⟨rfl, rfl⟩
    · cases h
  · rcases hz with ⟨h, -⟩ | ⟨h, -⟩ | ⟨h, -⟩ | ⟨-, rfl⟩
    · cases h
    · cases h
    · cases h
    · exact ⟨rfl, rfl⟩
section ZS
variable {own : String} {ini : Bool} {d : Nat} {sc : List Int32} {nL : Nat}
theorem zs_get {w ci f : Nat} (hs : zs_fget own w ci f) : zs_ok own ini d sc nL (zo_get ci f) (.getfield w) 3 := by
  intro p l e R s m args below meth c Q cc A E D W0 C pc hd L S h nc ns t h1 h2 hf kk ls stk H locs hR
  obtain ⟨hx, hb, hml, hown, hts, hA, hRf, hRl, hlk, hini, hE⟩ := C
  obtain ⟨ws, tys, lv, r1, r2, r3, r4, hK, hP, hD, hS, hM⟩ := hR
  obtain ⟨C, T, N, ref, g1, g2, g3, g4, g5⟩ := hs
  obtain ⟨a0, S0, rfl, hf1⟩ := ze_r hf
  obtain ⟨w0, st0, rfl, m0, r30⟩ := xf_2_cons r3
  obtain ⟨fs, hh, hf2⟩ := ze_o hf1
  obtain ⟨v, hv, hf3⟩ := ze_n hf2
  cases hf3
  obtain ⟨a, e0, rfl, hw⟩ := m0
  obtain ⟨vs, k1, k2⟩ := zm_at r4 hh hw
  dsimp only at k1
  subst k1
  obtain ⟨v', hv', hm⟩ := xf_2_get k2 _ _ hv
  refine va_get hx hb hts g2 hown hK hP _ hw g1 f g3 (hts _ g4) ?_ hv' hd (kk _ _ _ _ ⟨ws, tys, lv, r1, r2, xf_2_c hm r30, r4, hK, hP, hD, hS, hM⟩)
  rcases g5 with rfl | g5
  · exact fun x hx => hx
  · exact u_same (hts _ g5)
theorem zs_put {w ci f z : Nat} {fin : Bool} (hi : fin = true → ini = true) (hs : zs_fput own fin w ci f z) : zs_ok own ini d sc nL (zo_put ci f z) (.putfield w) 3 := by
  intro p l e R s m args below meth c Q cc A E D W0 C pc hd L S h nc ns t h1 h2 hf kk ls stk H locs hR
  obtain ⟨hx, hb, hml, hown, hts, hA, hRf, hRl, hlk, hini, hE⟩ := C
  obtain ⟨ws, tys, lv, r1, r2, r3, r4, hK, hP, hD, hS, hM⟩ := hR
  obtain ⟨C, T, N, ref, ty0, g1, g2, g3, g4, g5, g6, g7, g8, g9, g10⟩ := hs
  unfold zo_put at hf
  split at hf
  · rename_i v a0 S0
    obtain ⟨q3, hf1⟩ := ze_b hf
    obtain ⟨fs, hh, hf2⟩ := ze_o hf1
    obtain ⟨hl, hf3⟩ := ze_b hf2
    cases hf3
    have hl := of_decide_eq_true hl
    obtain ⟨w0, st0, rfl, m0, r30⟩ := xf_2_cons r3
    obtain ⟨w1, st1, rfl, m1, r31⟩ := xf_2_cons r30
    obtain ⟨a, e0, rfl, hw⟩ := m1
    obtain ⟨hn, hfit⟩ := zm_narrow g10 q3 m0
    obtain ⟨vs, k1, k2⟩ := zm_at r4 hh hw
    dsimp only at k1
    subst k1
    have hlen := xf_2_len k2
    have hO2 : zm_O E ws tys (.inl (ci, fs.set f v)) (a, .inr (ci, vs.set f w0)) := ⟨_, rfl, xf_2_set k2 f m0⟩
    have hle := xm_le_set (e' := .inr (ci, vs.set f w0)) hw
    have kk' := fun H1 locs1 p1 p2 p3 => kk ls st1 H1 locs1 ⟨_, tys, lv, r1, zm_L_mono hle r2, zm_S_mono hle r31, zm_set r4 hw hO2, hK, p1, p2, p3, xm_le_trans hM (xm_le_set hw)⟩
    have hsame : ∀ x, s.fieldFound? (T f).1 (T f).2.1 (T f).2.2.1 = some x → s.fieldFound? ref (T f).2.1 (T f).2.2.1 = some x := by
      rcases g5 with rfl | g5
      · exact fun x hx => hx
      · exact u_same (hts _ g5)
    cases fin with
    | false => exact va_put hx hb hts g2 ty0 g6 g7 hown hK hP hD hS _ hw g1 f g3 (hts _ g4) hsame g8 (g6 f g3) hn hfit (by omega) hd kk'
    | true => exact va_putF hx hb hts g2 ty0 g6 g7 hown hK hP hD hS _ hw g1 f g3 (hts _ g4) hsame g8 (hini (hi rfl)) (g9 rfl) (g6 f g3) hn hfit (by omega) hd kk'
  · cases hf
theorem zs_iald : zs_ok own ini d sc nL (zo_iald sc) .iaload 1 := by
  intro p l e R s m args below meth c Q cc A E D W0 C pc hd L S h nc ns t h1 h2 hf kk ls stk H locs hR
  obtain ⟨hx, hb, hml, hown, hts, hA, hRf, hRl, hlk, hini, hE⟩ := C
  obtain ⟨ws, tys, lv, r1, r2, r3, r4, hK, hP, hD, hS, hM⟩ := hR
  obtain ⟨i, S0, rfl, hf1⟩ := ze_i hf
  obtain ⟨w0, st0, rfl, m0, r30⟩ := xf_2_cons r3
  cases m0
  split at hf1
  · obtain ⟨hin, hlt, hf2⟩ := ze_x hf1
    obtain ⟨x, hv, hf3⟩ := ze_n hf2
    cases hf3
    obtain ⟨w1, st1, rfl, m1, r31⟩ := xf_2_cons r30
    cases m1
    obtain ⟨xs, x1, x2, x3, x4⟩ := hE
    have hm : zm_V E ws (.int x) (.int (xs i.toNatClampNeg)) := by rw [x4 _ _ hv]; rfl
    exact va_sld hx hb x1 x2 x3 hS hin hd (kk _ _ _ _ ⟨ws, tys, lv, r1, r2, xf_2_c hm r31, r4, hK, hP, hD, hS, hM⟩)
  · obtain ⟨xs, hh, hf2⟩ := ze_a hf1
    obtain ⟨hin, hlt, hf3⟩ := ze_x hf2
    obtain ⟨x, hv, hf4⟩ := ze_n hf3
    cases hf4
    obtain ⟨w1, st1, rfl, m1, r31⟩ := xf_2_cons r30
    obtain ⟨a, e0, rfl, hw⟩ := m1
    obtain ⟨cA, t0, g, k1, k2, k3, k4⟩ := zm_at r4 hh hw
    dsimp only at k1
    subst k1
    have hm : zm_V E ws (.int x) (.int (g i.toNatClampNeg)) := by rw [k4 _ _ hv]; rfl
    exact va_iald hx hb hK hP _ t0 hw k2 hin hd (kk _ _ _ _ ⟨ws, tys, lv, r1, r2, xf_2_c hm r31, r4, hK, hP, hD, hS, hM⟩)
  · cases hf1
theorem zs_zald : zs_ok own ini d sc nL zo_zald .baload 1 := by
  intro p l e R s m args below meth c Q cc A E D W0 C pc hd L S h nc ns t h1 h2 hf kk ls stk H locs hR
  obtain ⟨hx, hb, hml, hown, hts, hA, hRf, hRl, hlk, hini, hE⟩ := C
  obtain ⟨ws, tys, lv, r1, r2, r3, r4, hK, hP, hD, hS, hM⟩ := hR
  obtain ⟨i, S0, rfl, hf1⟩ := ze_i hf
  obtain ⟨w0, st0, rfl, m0, r30⟩ := xf_2_cons r3
  cases m0
  obtain ⟨a0, S1, rfl, hf1⟩ := ze_r hf1
  obtain ⟨xs, hh, hf2⟩ := ze_z hf1
  obtain ⟨hin, hlt, hf3⟩ := ze_x hf2
  obtain ⟨x, hv, hf4⟩ := ze_n hf3
  cases hf4
  obtain ⟨w1, st1, rfl, m1, r31⟩ := xf_2_cons r30
  obtain ⟨a, e0, rfl, hw⟩ := m1
  obtain ⟨cA, t0, g, k1, k2, k3, k4⟩ := zm_at r4 hh hw
  dsimp only at k1
  subst k1
  have hm : zm_V E ws (.int x) (.int (g i.toNatClampNeg)) := by rw [k4 _ _ hv]; rfl
  exact va_zald hx hb hK hP _ t0 hw k2 hin hd (kk _ _ _ _ ⟨ws, tys, lv, r1, r2, xf_2_c hm r31, r4, hK, hP, hD, hS, hM⟩)
theorem zs_iast : zs_ok own ini d sc nL zo_iast .iastore 1 := by
  intro p l e R s m args below meth c Q cc A E D W0 C pc hd L S h nc ns t h1 h2 hf kk ls stk H locs hR
  obtain ⟨hx, hb, hml, hown, hts, hA, hRf, hRl, hlk, hini, hE⟩ := C
  obtain ⟨ws, tys, lv, r1, r2, r3, r4, hK, hP, hD, hS, hM⟩ := hR
  obtain ⟨v, S0, rfl, hf1⟩ := ze_i hf
  obtain ⟨i, S1, rfl, hf2⟩ := ze_i hf1
  obtain ⟨a0, S2, rfl, hf3⟩ := ze_r hf2
  obtain ⟨xs, hh, hf4⟩ := ze_a hf3
  obtain ⟨hin, hlt, hf5⟩ := ze_x hf4
  cases hf5
  obtain ⟨w0, st0, rfl, m0, r30⟩ := xf_2_cons r3
  obtain ⟨w1, st1, rfl, m1, r31⟩ := xf_2_cons r30
  obtain ⟨w2, st2, rfl, m2, r32⟩ := xf_2_cons r31
  cases m0; cases m1
  obtain ⟨a, e0, rfl, hw⟩ := m2
  obtain ⟨cA, t0, g, k1, k2, k3, k4⟩ := zm_at r4 hh hw
  dsimp only at k1
  subst k1
  have hO2 : zm_O E ws tys (.inr (.inl (xs.set i.toNatClampNeg v))) (a, .inl (cA, xs.length, .inl (upd g i.toNatClampNeg v))) :=
    ⟨cA, t0, upd g i.toNatClampNeg v, by rw [List.length_set], k2, by rw [List.length_set]; exact k3, fun j x hx => (zm_setEl (P := fun x y => y = x) k4 (w := v) rfl (fun j => rfl) j x hx)⟩
  have hle := xm_le_set (e' := .inl (cA, xs.length, .inl (upd g i.toNatClampNeg v))) hw
  exact va_iast hx hb hK hP hD hS _ t0 hw k2 hin hd (fun H1 locs1 p1 p2 p3 => kk _ _ _ _ ⟨_, tys, lv, r1, zm_L_mono hle r2, zm_S_mono hle r32, zm_set r4 hw hO2, hK, p1, p2, p3, xm_le_trans hM hle⟩)
theorem zs_zast : zs_ok own ini d sc nL zo_zast .bastore 1 := by
  intro p l e R s m args below meth c Q cc A E D W0 C pc hd L S h nc ns t h1 h2 hf kk ls stk H locs hR
  obtain ⟨hx, hb, hml, hown, hts, hA, hRf, hRl, hlk, hini, hE⟩ := C
  obtain ⟨ws, tys, lv, r1, r2, r3, r4, hK, hP, hD, hS, hM⟩ := hR
  obtain ⟨v, S0, rfl, hf1⟩ := ze_i hf
  obtain ⟨i, S1, rfl, hf2⟩ := ze_i hf1
  obtain ⟨a0, S2, rfl, hf3⟩ := ze_r hf2
  obtain ⟨xs, hh, hf4⟩ := ze_z hf3
  obtain ⟨hin, hlt, hf5⟩ := ze_x hf4
  obtain ⟨hz, hf6⟩ := ze_b hf5
  cases hf6
  have hnar : vp_nar .boolean v = v := by
    rcases ze_or hz with h | h
    · have : v = 0 := by simpa using h
      subst this; rfl
    · have : v = 1 := by simpa using h
      subst this; rfl
  obtain ⟨w0, st0, rfl, m0, r30⟩ := xf_2_cons r3
  obtain ⟨w1, st1, rfl, m1, r31⟩ := xf_2_cons r30
  obtain ⟨w2, st2, rfl, m2, r32⟩ := xf_2_cons r31
  cases m0; cases m1
  obtain ⟨a, e0, rfl, hw⟩ := m2
  obtain ⟨cA, t0, g, k1, k2, k3, k4⟩ := zm_at r4 hh hw
  dsimp only at k1
  subst k1
  have hO2 : zm_O E ws tys (.inr (.inr (.inl (xs.set i.toNatClampNeg v)))) (a, .inl (cA, xs.length, .inl (upd g i.toNatClampNeg v))) :=
    ⟨cA, t0, upd g i.toNatClampNeg v, by rw [List.length_set], k2, by rw [List.length_set]; exact k3, fun j x hx => (zm_setEl (P := fun x y => y = x) k4 (w := v) rfl (fun j => rfl) j x hx)⟩
  have hle := xm_le_set (e' := .inl (cA, xs.length, .inl (upd g i.toNatClampNeg v))) hw
  exact va_zast hx hb hK hP hD hS _ t0 hw k2 hin hd (by rw [hnar]; exact fun H1 locs1 p1 p2 p3 => kk _ _ _ _ ⟨_, tys, lv, r1, zm_L_mono hle r2, zm_S_mono hle r32, zm_set r4 hw hO2, hK, p1, p2, p3, xm_le_trans hM hle⟩)
end ZS
