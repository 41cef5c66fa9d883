/-! stores of references, lengths, casts, statics, Object's constructor, Math.max -/
def xs_els : Prop := Cond.castable "[I" "java/lang/Object" ∈ xw_B ∧ (∀ c2, 17 ≤ c2 → c2 ≤ 19 → ∃ r, vwCl[c2]? = some r ∧ Cond.castable r.1 "java/lang/Object" ∈ xw_B) ∧ (∃ r, vwCl[6]? = some r ∧ xg_TY 1 = .object r.1) ∧ (∃ r, vwCl[11]? = some r ∧ xg_TY 2 = .object r.1) ∧ ∃ r, vwCl[9]? = some r ∧ xg_TY 3 = .object r.1
def xs_cst (own : String) (w t0 c0 : Nat) : Prop := ∃ nm : String, Cond.classLink own w nm ∈ xw_B ∧ ((t0 = 0 ∧ ∃ r, vwCl[c0]? = some r ∧ r.1 = nm) ∨ (t0 = 1 ∧ c0 = 0 ∧ nm = "[I"))
def xs_gst (own : String) (w x : Nat) : Prop := x = 0 ∧ Cond.fieldLink own w "java/util/ArrayList" "DEFAULTCAPACITY_EMPTY_ELEMENTDATA" xf_steD ∈ xw_B
def xs_obi (own : String) (w : Nat) : Prop := Cond.methodLink own w Lib.objectInit ∈ xw_B ∧ Cond.instanceMethod Lib.objectInit ∈ xw_B ∧ Cond.code Lib.objectInit ⟨#[0xb1]⟩ 1 none ∈ xw_B
def xs_mmx (own : String) (w : Nat) : Prop := Cond.methodLink own w Lib.Math.max.name ∈ xw_B ∧ Cond.static Lib.Math.max.name ∈ xw_B ∧ Cond.initialized "java/lang/Math" ∈ xw_B ∧ Cond.code Lib.Math.max.name Lib.Math.max.code 2 (some .int) ∈ xw_B
theorem xm_VN {E : xm_E} {ws : va_W} {q : xv_V} {v : Value} (hq : q.1 = 2) (h : xm_V E ws q v) : v = .null := by
  obtain ⟨t, a, b⟩ := q
  dsimp only at hq
  subst hq
  cases v with
  | null => rfl
  | int x => rcases h with h | h <;> exact absurd h.1 (by simp)
  | ref a => rcases h with h | h | h | h <;> simp at h
  | _ => simp [xm_V] at h
theorem xm_V6 {E : xm_E} {ws : va_W} {q : xv_V} {v : Value} (hq : q.1 = 6) (h : xm_V E ws q v) : v = .ref (E.1 q.2.1) := by
  obtain ⟨t, a, b⟩ := q
  dsimp only at hq
  subst hq
  cases v with
  | int x => rcases h with h | h <;> exact absurd h.1 (by simp)
  | ref a =>
    rcases h with h | h | h | h
    · exact absurd h.1 (by simp)
    · rw [h.2]
    · exact absurd h.1 (by simp)
    · exact absurd h (by simp)
  | _ => simp [xm_V] at h
theorem xm_V7 {E : xm_E} {ws : va_W} {q : xv_V} {v : Value} (hq : q.1 = 7) (h : xm_V E ws q v) : v = .ref E.2 := by
  obtain ⟨t, a, b⟩ := q
  dsimp only at hq
  subst hq
  cases v with
  | int x => rcases h with h | h <;> exact absurd h.1 (by simp)
  | ref a =>
    rcases h with h | h | h | h
    · exact absurd h.1 (by simp)
    · exact absurd h.1 (by simp)
    · rw [h.2]
    · exact absurd h (by simp)
  | _ => simp [xm_V] at h
theorem xm_sum : ∀ {E : xm_E} {ws : va_W} {S : List xv_V} {st : List Value}, xf_2 (xm_V E ws) S st → (st.map fun v => v.category).sum ≤ 2 * S.length
  | _, _, [], [], _ => Nat.le_refl _
  | _, _, _ :: S, v :: st, h => by
    have h1 := xm_sum h.2
    have h2 : v.category ≤ 2 := by rcases lv_cat v with e | e <;> rw [e] <;> decide
    rw [List.map_cons, List.sum_cons, List.length_cons]
    omega
  | _, _, [], _ :: _, h => h.elim
  | _, _, _ :: _, [], h => h.elim
/-- an int[] may lie in a row of Object -/
theorem xm_any {D : va_G} {tys : xm_T} {ws : va_W} {s : State} {H : Heap} {args : Array Value} {i a t0 n : Nat} {cA : ClassId} {f : Nat → Int32} (hw0 : (Cond.castable "[I" "java/lang/Object").before args s = true) (hK : va_K D vwCl tys s) (hP : va_P D vwCl ws H) (hw : ws[i]? = some (a, .inl (cA, n, .inl f))) (ht : tys[t0]? = some (cA, .int)) : va_Any "java/lang/Object" s H a := by
  obtain ⟨hAr, hRA⟩ := hK.2 t0 _ ht
  obtain ⟨-, kA, hkA, -⟩ := hAr n (fun j => .int (f j))
  refine ⟨_, hP i _ hw, rfl, ⟨kA, hkA⟩, fun comp hcomp => ?_⟩
  obtain ⟨c0, t1, f1, f2, f3⟩ := Cond.castable_spec hw0
  have hRA' : s.vm.findClass "[I" = some cA := hRA
  cases hRA'.symm.trans f1
  cases hcomp.symm.trans f2
  exact f3
section XS
variable {own : String} {ini : Bool} {d : Nat} {sc : List xv_V} {nL : Nat}
theorem xs_aast (hs : xs_els) : xs_ok own ini d sc nL xo_asta .aastore 1 := by
  intro p l e R s m args below meth c Q cc A E D W0 C pc hd L S h nc ns k r h1 h2 hf kk ls stk H locs hR
  obtain ⟨hx, hb, hml, hown, hts, hA, hRf, hRl, hlk, hini, hE⟩ := C
  obtain ⟨ws, tys, lv, r1, r2, r3, r4, hK, hP, hD, hS, hM⟩ := hR
  obtain ⟨a0, S0, rfl, hf1⟩ := xe_pop hf
  obtain ⟨w0, st0, rfl, m0, r30⟩ := xf_2_cons r3
  obtain ⟨a1, S1, rfl, hf2⟩ := xe_pop hf1
  obtain ⟨w1, st1, rfl, m1, r31⟩ := xf_2_cons r30
  obtain ⟨a2, S2, rfl, hf3⟩ := xe_pop hf2
  obtain ⟨w2, st2, rfl, m2, r32⟩ := xf_2_cons r31
  obtain ⟨x0, rfl, hf4⟩ := xe_one hf3
  obtain ⟨i, rfl, e9⟩ := xm_V1 m1
  obtain ⟨ho, t, c0, es, hh, hf5⟩ := xe_obj hf4
  obtain ⟨hq, hf6⟩ := xe_cond hf5
  obtain ⟨q1, q3⟩ := xe_and hq
  obtain ⟨q1, q5⟩ := xe_and q1
  obtain ⟨c1, c2⟩ := xe_and q5
  obtain ⟨v, hv, hf7⟩ := xe_nth hf6
  have e1 : t = 1 := xe_beq q1
  subst e1
  have c1 := xe_ble c1
  have c2 := xe_ble c2
  obtain ⟨a, e0, rfl, hw⟩ := xm_VO ho m2
  have q4 := xe_ble q3
  unfold xq_B at q4 hv
  rcases xm_at r4 hh hw with ⟨k0, -⟩ | ⟨-, cA, n, arr, t0, k1, k2, k3, k4, k5, k6⟩
  · exact absurd k0 (by simp)
  dsimp only at k1 k2 k3 k4 k6
  subst k1
  rcases k3 with ⟨k3, -⟩ | ⟨k3, -⟩ | ⟨-, -, g, rfl⟩
  · omega
  · omega
  obtain ⟨z1, z2⟩ := xb_clamp e9 q4
  have hin := xb_in e9 q4 (N := n) (by rw [k4]; exact (List.getElem?_eq_some_iff.mp hv).1)
  have z3 : i.toNatClampNeg = x0 - xq_B := by unfold xq_B; exact z1
  have hO2 : ∀ (val : Value), xm_V E ws a0 val → ∀ g2 : Nat → Option Nat, (∀ j, va_rf (g2 j) = if j = i.toNatClampNeg then val else va_rf (g j)) → xm_O E ws tys (1, c0, xq_set es (x0 - xq_B) a0) (a, .inl (cA, n, .inr (.inr (.inr (.inr g2))))) := by
    intro val hval g2 hg2
    rw [← z3]
    exact Or.inr ⟨rfl, cA, n, _, t0, rfl, k2, Or.inr (Or.inr ⟨c1, c2, _, rfl⟩), by rw [k4]; exact xm_setLen.symm, k5, xm_setEl k6 hval hg2⟩
  obtain ⟨CE, hCE⟩ := xg_TYo c1 c2
  cases h7 : Nat.beq a0.1 2 with
  | true =>
    have hf9 := hf7
    rw [h7] at hf9
    have hf7 : k L S2 (xq_set h a2.2.1 (1, c0, xq_set es (x0 - xq_B) a0)) = some r := hf9
    have e6 := xm_VN (xe_beq h7) m0
    subst e6
    have k2' := k2
    rw [hCE] at k2'
    exact va_astqN hx hb hK hP hD hS _ t0 hw k2' hin hd (fun H1 locs1 p1 p2 p3 => kk _ _ _ hf7 _ _ _ _ ⟨_, tys, lv, r1, xm_L_mono (xm_le_set hw) r2, xm_S_mono (xm_le_set hw) r32, xm_set r4 hw (hO2 _ m0 _ (fun j => by simp only [xm_el, va_up]; split <;> rfl)), hK, p1, p2, p3, xm_le_trans hM (xm_le_set hw)⟩)
  | false =>
    have hf9 := hf7
    rw [h7] at hf9
    have hf7 : (xq_obj h a0 fun t2 c2 _ => cond (xq_el c0 t2 c2) (k L S2 (xq_set h a2.2.1 (1, c0, xq_set es (x0 - xq_B) a0))) none) = some r := hf9
    obtain ⟨ho2, t2, c2', es2, hh2, hf8⟩ := xe_obj hf7
    obtain ⟨q8, hf9⟩ := xe_cond hf8
    obtain ⟨va, ev, rfl, hwv⟩ := xm_VO ho2 m0
    obtain ⟨s1, s2, s3, s4, s5⟩ := hs
    cases h8 : Nat.beq t2 0 with
    | true =>
      have e7 : t2 = 0 := xe_beq h8
      subst e7
      rcases xm_at r4 hh2 hwv with ⟨-, fs2, u1, -⟩ | ⟨u0, -⟩
      · dsimp only at u1
        subst u1
        have h4 : c0 = 1 ∨ c0 = 2 ∨ c0 = 3 ∨ c0 = 4 := by omega
        rcases h4 with rfl | rfl | rfl | rfl
        · skip
          have e8 : c2' = 6 := xe_beq q8
          subst e8
          obtain ⟨rr, v1, v2⟩ := s3
          have k2' := k2
          rw [v2] at k2'
          exact va_astq hx hb hK hP hD hS _ t0 _ 6 hw k2' hwv v1 hin hd (fun H1 locs1 p1 p2 p3 => kk _ _ _ hf9 _ _ _ _ ⟨_, tys, lv, r1, xm_L_mono (xm_le_set hw) r2, xm_S_mono (xm_le_set hw) r32, xm_set r4 hw (hO2 _ m0 _ (fun j => by simp only [xm_el, va_up]; split <;> rfl)), hK, p1, p2, p3, xm_le_trans hM (xm_le_set hw)⟩)
        · skip
          have e8 : c2' = 11 := xe_beq q8
          subst e8
          obtain ⟨rr, v1, v2⟩ := s4
          have k2' := k2
          rw [v2] at k2'
          exact va_astq hx hb hK hP hD hS _ t0 _ 11 hw k2' hwv v1 hin hd (fun H1 locs1 p1 p2 p3 => kk _ _ _ hf9 _ _ _ _ ⟨_, tys, lv, r1, xm_L_mono (xm_le_set hw) r2, xm_S_mono (xm_le_set hw) r32, xm_set r4 hw (hO2 _ m0 _ (fun j => by simp only [xm_el, va_up]; split <;> rfl)), hK, p1, p2, p3, xm_le_trans hM (xm_le_set hw)⟩)
        · skip
          have e8 : c2' = 9 := xe_beq q8
          subst e8
          obtain ⟨rr, v1, v2⟩ := s5
          have k2' := k2
          rw [v2] at k2'
          exact va_astq hx hb hK hP hD hS _ t0 _ 9 hw k2' hwv v1 hin hd (fun H1 locs1 p1 p2 p3 => kk _ _ _ hf9 _ _ _ _ ⟨_, tys, lv, r1, xm_L_mono (xm_le_set hw) r2, xm_S_mono (xm_le_set hw) r32, xm_set r4 hw (hO2 _ m0 _ (fun j => by simp only [xm_el, va_up]; split <;> rfl)), hK, p1, p2, p3, xm_le_trans hM (xm_le_set hw)⟩)
        · skip
          have q9 : and (Nat.ble 17 c2') (Nat.ble c2' 19) = true := q8
          obtain ⟨b1, b2⟩ := xe_and q9
          obtain ⟨rr, v1, v2⟩ := s2 c2' (xe_ble b1) (xe_ble b2)
          have k2' : tys[t0]? = some (cA, .object "java/lang/Object") := k2
          exact va_astqO hx hb hK hP hD hS _ t0 _ c2' hw k2' (va_Nw.of rfl (hts _ v2)) hwv v1 hin hd (fun H1 locs1 p1 p2 p3 => kk _ _ _ hf9 _ _ _ _ ⟨_, tys, lv, r1, xm_L_mono (xm_le_set hw) r2, xm_S_mono (xm_le_set hw) r32, xm_set r4 hw (hO2 _ m0 _ (fun j => by simp only [xm_el, va_up]; split <;> rfl)), hK, p1, p2, p3, xm_le_trans hM (xm_le_set hw)⟩)
      · exact absurd u0 (by simp)
    | false =>
      have q9 : (cond (Nat.beq t2 0) (cond (Nat.beq c0 1) (Nat.beq c2' 6) (cond (Nat.beq c0 2) (Nat.beq c2' 11) (cond (Nat.beq c0 3) (Nat.beq c2' 9) (cond (Nat.beq c0 4) (and (Nat.ble 17 c2') (Nat.ble c2' 19)) false)))) (and (Nat.beq t2 1) (and (Nat.beq c0 4) (Nat.beq c2' 0)))) = true := q8
      rw [h8] at q9
      obtain ⟨b1, b2⟩ := xe_and q9
      obtain ⟨b2, b3⟩ := xe_and b2
      have e7 : t2 = 1 := xe_beq b1
      have e8 : c0 = 4 := xe_beq b2
      have e9' : c2' = 0 := xe_beq b3
      subst e7; subst e8; subst e9'
      rcases xm_at r4 hh2 hwv with ⟨u0, -⟩ | ⟨-, cA2, n2, arr2, t02, u1, u2, u3, -⟩
      · exact absurd u0 (by simp)
      dsimp only at u1 u2 u3
      subst u1
      rcases u3 with ⟨-, g9, rfl⟩ | ⟨u3, -⟩ | ⟨u3, -⟩
      · have k2' : tys[t0]? = some (cA, .object "java/lang/Object") := k2
        have hany := xm_any (hts _ s1) hK hP hwv u2
        exact va_astqM hx hb hK hP hD hS _ t0 hw k2' hany hin hd (fun H1 locs1 p1 p2 p3 => kk _ _ _ hf9 _ _ _ _ ⟨_, tys, lv, r1, xm_L_mono (xm_le_set hw) r2, xm_S_mono (xm_le_set hw) r32, xm_set r4 hw (hO2 _ m0 _ (fun j => by simp only [xm_el, va_up]; split <;> rfl)), hK, p1, p2, p3, xm_le_trans hM (xm_le_set hw)⟩)
      · exact absurd u3 (by decide)
      · exact absurd u3 (by decide)
theorem xs_alen : xs_ok own ini d sc nL (xo_alen sc) .arraylength 1 := by
  intro p l e R s m args below meth c Q cc A E D W0 C pc hd L S h nc ns k r h1 h2 hf kk ls stk H locs hR
  obtain ⟨hx, hb, hml, hown, hts, hA, hRf, hRl, hlk, hini, hE⟩ := C
  obtain ⟨ws, tys, lv, r1, r2, r3, r4, hK, hP, hD, hS, hM⟩ := hR
  obtain ⟨a0, S0, rfl, hf1⟩ := xe_pop hf
  obtain ⟨w0, st0, rfl, m0, r30⟩ := xf_2_cons r3
  cases h7 : Nat.beq a0.1 7 with
  | true =>
    have hf9 := hf1
    unfold xo_alen at hf9
    have hf1 : (xq_nth sc 0 fun v => cond (Nat.beq v.1 0) (k L (v :: S0) h) none) = some r := by
      have h9 := hf1
      rw [h7] at h9
      exact h9
    obtain ⟨v, hv, hf2⟩ := xe_nth hf1
    obtain ⟨q5, hf3⟩ := xe_cond hf2
    obtain ⟨-, -, -, -, xs, N, x1, x2, x3, x4, x5⟩ := hE
    have hm : xm_V E ws v (.int (Int32.ofNat N)) := xm_VIany (by unfold xq_isI; rw [q5]; rfl) (x4 _ hv)
    have e6 := xm_V7 (xe_beq h7) m0
    subst e6
    exact va_slen hx hb x1 x2 x3 hS hd (kk _ _ _ hf3 _ _ _ _ ⟨ws, tys, lv, r1, r2, xf_2_c hm r30, r4, hK, hP, hD, hS, hM⟩)
  | false =>
    have hf2 : cond (and (Nat.beq a0.1 6) (Nat.beq a0.2.1 0)) (k L (xi xq_B :: S0) h) (xq_obj h a0 fun t _ es => cond (Nat.beq t 1) (k L (xi (xq_len es + xq_B) :: S0) h) none) = some r := by
      have h9 := hf1
      rw [h7] at h9
      exact h9
    cases h6 : and (Nat.beq a0.1 6) (Nat.beq a0.2.1 0) with
    | true =>
      have hf3 : k L (xi xq_B :: S0) h = some r := by
        have h9 := hf2
        rw [h6] at h9
        exact h9
      obtain ⟨b1, b2⟩ := xe_and h6
      obtain ⟨-, -, -, hT, -⟩ := hE
      have e6 := xm_V6 (xe_beq b1) m0
      rw [xe_beq b2] at e6
      subst e6
      exact va_tlen hx hb hT hS rfl hd (kk _ _ _ hf3 _ _ _ _ ⟨ws, tys, lv, r1, r2, xf_2_c (Or.inl ⟨rfl, Nat.le_of_eq xb_0.symm, Nat.le_of_eq xb_0⟩) r30, r4, hK, hP, hD, hS, hM⟩)
    | false =>
      have hf3 : (xq_obj h a0 fun t _ es => cond (Nat.beq t 1) (k L (xi (xq_len es + xq_B) :: S0) h) none) = some r := by
        have h9 := hf2
        rw [h6] at h9
        exact h9
      obtain ⟨ho, t, c0, es, hh, hf4⟩ := xe_obj hf3
      obtain ⟨q1, hf5⟩ := xe_cond hf4
      have e1 : t = 1 := xe_beq q1
      subst e1
      obtain ⟨a, e0, rfl, hw⟩ := xm_VO ho m0
      rcases xm_at r4 hh hw with ⟨k0, -⟩ | ⟨-, cA, n, arr, t0, k1, k2, k3, k4, k5, k6⟩
      · exact absurd k0 (by simp)
      dsimp only at k1 k2 k3 k4 k6
      subst k1
      have e3 : xb (Int32.ofNat n) = xq_len es + xq_B := by rw [xb_ofNat (by omega), xq_len_eq, k4]; rfl
      exact va_alen hx hb hK hP _ t0 hw k2 rfl hd (kk _ _ _ hf5 _ _ _ _ ⟨ws, tys, lv, r1, r2, xf_2_c (Or.inl ⟨rfl, Nat.le_of_eq e3.symm, Nat.le_of_eq e3⟩) r30, r4, hK, hP, hD, hS, hM⟩)
theorem xs_cast {w t0 c9 : Nat} (hs : xs_cst own w t0 c9) : xs_ok own ini d sc nL (xo_cast t0 c9) (.checkcast w) 3 := by
  intro p l e R s m args below meth c Q cc A E D W0 C pc hd L S h nc ns k r h1 h2 hf kk ls stk H locs hR
  obtain ⟨hx, hb, hml, hown, hts, hA, hRf, hRl, hlk, hini, hE⟩ := C
  obtain ⟨ws, tys, lv, r1, r2, r3, r4, hK, hP, hD, hS, hM⟩ := hR
  obtain ⟨nm, g1, g2⟩ := hs
  obtain ⟨a0, S0, rfl, hf1⟩ := xe_pop hf
  obtain ⟨w0, st0, rfl, m0, r30⟩ := xf_2_cons r3
  obtain ⟨ho, t, c0, es, hh, hf2⟩ := xe_obj hf1
  obtain ⟨hq, hf3⟩ := xe_cond hf2
  obtain ⟨q1, q2⟩ := xe_and hq
  have e1 : t = t0 := xe_beq q1
  have e2 : c0 = c9 := xe_beq q2
  subst e1; subst e2
  obtain ⟨a, e0, rfl, hw⟩ := xm_VO ho m0
  have kk9 := kk _ _ _ hf3 _ _ _ _ ⟨ws, tys, lv, r1, r2, xf_2_c m0 r30, r4, hK, hP, hD, hS, hM⟩
  rcases g2 with ⟨rfl, rr, g2, g3⟩ | ⟨rfl, rfl, g3⟩
  · rcases xm_at r4 hh hw with ⟨-, fs, k1, -⟩ | ⟨k0, -⟩
    · dsimp only at k1
      subst k1
      obtain ⟨r', hr', cell, u1, u2, u3, -⟩ := hP _ _ hw
      have hKn := (hK.1 _ _ g2).2
      rw [g3] at hKn
      exact va_castS hx hb hown (hts _ g1) hKn ⟨cell, u1, by rw [u3]; rfl, by rw [u2]; exact hKn.1⟩ hd kk9
    · exact absurd k0 (by simp)
  · rcases xm_at r4 hh hw with ⟨k0, -⟩ | ⟨-, cA, n, arr, t0, k1, k2, -⟩
    · exact absurd k0 (by simp)
    · dsimp only at k1 k2
      subst k1
      have hRA : s.vm.findClass "[I" = some cA := (hK.2 t0 _ k2).2
      rw [g3] at g1
      exact va_castA hx hb hown (hts _ g1) hP _ hw hRA hd kk9
theorem xs_gets {w x : Nat} (hs : xs_gst own w x) : xs_ok own ini d sc nL (xo_push (6, x, 0)) (.getstatic w) 3 := by
  intro p l e R s m args below meth c Q cc A E D W0 C pc hd L S h nc ns k r h1 h2 hf kk ls stk H locs hR
  obtain ⟨hx, hb, hml, hown, hts, hA, hRf, hRl, hlk, hini, hE⟩ := C
  obtain ⟨ws, tys, lv, r1, r2, r3, r4, hK, hP, hD, hS, hM⟩ := hR
  obtain ⟨rfl, g1⟩ := hs
  obtain ⟨-, -, hZ, -⟩ := hE
  exact va_gets hx hb hZ hS hown (hts _ g1) (fun x hx => hx) hd (kk _ _ _ hf _ _ _ _ ⟨ws, tys, lv, r1, r2, xf_2_c (Or.inr (Or.inl ⟨rfl, rfl⟩)) r3, r4, hK, hP, hD, hS, hM⟩)
theorem xs_oinit {w : Nat} (hs : xs_obi own w) : xs_ok own ini d sc nL (xo_oinit d) (.invokespecial w) 3 := by
  intro p l e R s m args below meth c Q cc A E D W0 C pc hd L S h nc ns k r h1 h2 hf kk ls stk H locs hR
  obtain ⟨hx, hb, hml, hown, hts, hA, hRf, hRl, hlk, hini, hE⟩ := C
  obtain ⟨ws, tys, lv, r1, r2, r3, r4, hK, hP, hD, hS, hM⟩ := hR
  obtain ⟨g1, g2, g3⟩ := hs
  obtain ⟨a0, S0, rfl, hf1⟩ := xe_pop hf
  obtain ⟨w0, st0, rfl, m0, r30⟩ := xf_2_cons r3
  obtain ⟨ho, t, c0, es, hh, hf2⟩ := xe_obj hf1
  obtain ⟨hq, hf3⟩ := xe_cond hf2
  obtain ⟨q1, q2⟩ := xe_and hq
  have q1 := xe_ble q1
  have q2 := xe_ble q2
  rw [xq_len_eq] at q2
  have hsum := xm_sum r30
  obtain ⟨a, e0, rfl, hw⟩ := xm_VO ho m0
  refine W.objInit hx hb hown (hts _ g1) (hts _ g2) (hts _ g3) rfl (by rw [hml]; exact r1.1) rfl hd (by omega) ?_ (kk _ _ _ hf3 _ _ _ _ ⟨ws, tys, lv, r1, r2, r30, r4, hK, hP, hD, hS, hM⟩)
  show 2 * 0 + (st0.map fun v => v.category).sum + 12 ≤ R.locals
  omega
theorem xs_max {w : Nat} (hs : xs_mmx own w) : xs_ok own ini d sc nL (xo_max d) (.invokestatic w) 3 := by
  intro p l e R s m args below meth c Q cc A E D W0 C pc hd L S h nc ns k r h1 h2 hf kk ls stk H locs hR
  obtain ⟨hx, hb, hml, hown, hts, hA, hRf, hRl, hlk, hini, hE⟩ := C
  obtain ⟨ws, tys, lv, r1, r2, r3, r4, hK, hP, hD, hS, hM⟩ := hR
  obtain ⟨g1, g2, g3, g4⟩ := hs
  obtain ⟨a0, S0, rfl, hf1⟩ := xe_pop hf
  obtain ⟨w0, st0, rfl, m0, r30⟩ := xf_2_cons r3
  obtain ⟨a1, S1, rfl, hf2⟩ := xe_pop hf1
  obtain ⟨w1, st1, rfl, m1, r31⟩ := xf_2_cons r30
  obtain ⟨y0, rfl, hf3⟩ := xe_one hf2
  obtain ⟨x0, rfl, hf4⟩ := xe_one hf3
  obtain ⟨hq, hf5⟩ := xe_cond hf4
  obtain ⟨q1, q2⟩ := xe_and hq
  have q1 := xe_ble q1
  have q2 := xe_ble q2
  rw [xq_len_eq] at q2
  have hsum := xm_sum r31
  obtain ⟨y, rfl, e1⟩ := xm_V1 m0
  obtain ⟨x, rfl, e2⟩ := xm_V1 m1
  have e3 : xb (if x < y then y else x) = cond (Nat.ble x0 y0) y0 x0 := by
    have h9 := xb_lt_iff x y
    rw [e1, e2] at h9
    cases h8 : Nat.ble x0 y0 with
    | true =>
      have := xe_ble h8
      show _ = y0
      by_cases hl : x < y
      · rw [if_pos hl]; exact e1
      · rw [if_neg hl, e2]
        have := mt h9.mpr hl
        omega
    | false =>
      have := xe_nble h8
      show _ = x0
      rw [if_neg (fun hl => absurd (h9.mp hl) (by omega))]
      exact e2
  exact va_mmax hx hb (by rw [hml]; exact r1.1.symm) hown (hts _ g1) (hts _ g2) (hts _ g3) (hts _ g4) (by omega) (by omega) h1 h2 hd (kk _ _ _ hf5 _ _ _ _ ⟨ws, tys, lv, r1, r2, xf_2_c (Or.inl ⟨rfl, Nat.le_of_eq e3.symm, Nat.le_of_eq e3⟩) r31, r4, hK, hP, hD, hS, hM⟩)
end XS
