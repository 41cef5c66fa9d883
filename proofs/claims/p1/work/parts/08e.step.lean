/-! branches -/
def xc_rel (c : Nat) (x y : Int32) : Prop := match c with
  | 0 => x = y
  | 1 => ¬ x = y
  | 2 => x < y
  | 3 => y ≤ x
  | 4 => y < x
  | _ => x ≤ y
theorem xe_lt {E : xm_E} {ws : va_W} {a b : xv_V} {va vb : Value} {k : Bool → Option xv_R} {r : xv_R} (h : xc_lt a b k = some r) (ma : xm_V E ws a va) (mb : xm_V E ws b vb) : ∃ (x y : Int32) (t : Bool), va = .int x ∧ vb = .int y ∧ k t = some r ∧ (t = true ↔ x < y) := by
  obtain ⟨h1, h2⟩ := xe_cond h
  obtain ⟨h3, h4⟩ := xe_and h1
  obtain ⟨ta, a1, a2⟩ := a
  obtain ⟨tb, b1, b2⟩ := b
  have e1 : ta = 0 := xe_beq h3
  have e2 : tb = 0 := xe_beq h4
  subst e1; subst e2
  obtain ⟨x, rfl, x1, x2⟩ := xm_V0 ma
  obtain ⟨y, rfl, y1, y2⟩ := xm_V0 mb
  have hl := xb_lt_iff x y
  have h2' : cond (Nat.ble (Nat.succ a2) b1) (k true) (cond (Nat.ble b2 a1) (k false) none) = some r := h2
  cases hb : Nat.ble (Nat.succ a2) b1 with
  | true =>
    rw [hb] at h2'
    have := xe_ble hb
    exact ⟨x, y, true, rfl, rfl, h2', ⟨fun _ => hl.mpr (by omega), fun _ => rfl⟩⟩
  | false =>
    rw [hb] at h2'
    obtain ⟨h5, h6⟩ := xe_cond (b := Nat.ble b2 a1) h2'
    have := xe_ble h5
    exact ⟨x, y, false, rfl, rfl, h6, ⟨(fun h => nomatch h), fun h => absurd (hl.mp h) (by omega)⟩⟩
theorem xe_eqi {E : xm_E} {ws : va_W} {a b : xv_V} {va vb : Value} {k : Bool → Option xv_R} {r : xv_R} (h : xc_eq a b k = some r) (ma : xm_V E ws a va) (mb : xm_V E ws b vb) : ∃ (x y : Int32) (t : Bool), va = .int x ∧ vb = .int y ∧ k t = some r ∧ (t = true ↔ x = y) := by
  obtain ⟨h1, h2⟩ := xe_cond h
  obtain ⟨h3, h4⟩ := xe_and h1
  obtain ⟨ta, a1, a2⟩ := a
  obtain ⟨tb, b1, b2⟩ := b
  have e1 : ta = 0 := xe_beq h3
  have e2 : tb = 0 := xe_beq h4
  subst e1; subst e2
  obtain ⟨x, rfl, x1, x2⟩ := xm_V0 ma
  obtain ⟨y, rfl, y1, y2⟩ := xm_V0 mb
  have h2' : cond (Nat.ble (Nat.succ a2) b1) (k false) (cond (Nat.ble (Nat.succ b2) a1) (k false) (cond (and (Nat.beq a1 a2) (and (Nat.beq b1 b2) (Nat.beq a1 b1))) (k true) none)) = some r := h2
  cases hb : Nat.ble (Nat.succ a2) b1 with
  | true =>
    rw [hb] at h2'
    have := xe_ble hb
    exact ⟨x, y, false, rfl, rfl, h2', ⟨(fun h => nomatch h), fun h => by subst h; exact absurd x2 (by omega)⟩⟩
  | false =>
    rw [hb] at h2'
    have h2'' : cond (Nat.ble (Nat.succ b2) a1) (k false) (cond (and (Nat.beq a1 a2) (and (Nat.beq b1 b2) (Nat.beq a1 b1))) (k true) none) = some r := h2'
    cases hc : Nat.ble (Nat.succ b2) a1 with
    | true =>
      rw [hc] at h2''
      have := xe_ble hc
      exact ⟨x, y, false, rfl, rfl, h2'', ⟨(fun h => nomatch h), fun h => by subst h; exact absurd y2 (by omega)⟩⟩
    | false =>
      rw [hc] at h2''
      obtain ⟨h5, h6⟩ := xe_cond (b := and (Nat.beq a1 a2) (and (Nat.beq b1 b2) (Nat.beq a1 b1))) h2''
      obtain ⟨g1, g2⟩ := xe_and h5
      obtain ⟨g2, g3⟩ := xe_and g2
      have g1 := xe_beq g1
      have g2 := xe_beq g2
      have g3 := xe_beq g3
      exact ⟨x, y, true, rfl, rfl, h6, ⟨fun _ => xb_inj (by omega), fun _ => rfl⟩⟩
theorem xe_notb {t : Bool} {P Q : Prop} (h : t = true ↔ P) (hq : Q ↔ ¬ P) : (not t) = true ↔ Q := by
  rw [hq, ← h]
  cases t <;> simp
theorem xe_op {E : xm_E} {ws : va_W} {c : Nat} (hc : c ≤ 5) {a b : xv_V} {va vb : Value} {k : Bool → Option xv_R} {r : xv_R} (h : xc_op c a b k = some r) (ma : xm_V E ws a va) (mb : xm_V E ws b vb) : ∃ (x y : Int32) (t : Bool), va = .int x ∧ vb = .int y ∧ k t = some r ∧ (t = true ↔ xc_rel c x y) := by
  match c, hc with
  | 0, _ =>
    obtain ⟨x, y, t, e1, e2, e3, e4⟩ := xe_eqi (show xc_eq a b (fun r => k r) = some r from h) ma mb
    exact ⟨x, y, t, e1, e2, e3, e4⟩
  | 1, _ =>
    obtain ⟨x, y, t, e1, e2, e3, e4⟩ := xe_eqi (show xc_eq a b (fun r => k (not r)) = some r from h) ma mb
    exact ⟨x, y, not t, e1, e2, e3, xe_notb e4 Iff.rfl⟩
  | 2, _ =>
    obtain ⟨x, y, t, e1, e2, e3, e4⟩ := xe_lt (show xc_lt a b (fun r => k r) = some r from h) ma mb
    exact ⟨x, y, t, e1, e2, e3, e4⟩
  | 3, _ =>
    obtain ⟨x, y, t, e1, e2, e3, e4⟩ := xe_lt (show xc_lt a b (fun r => k (not r)) = some r from h) ma mb
    refine ⟨x, y, not t, e1, e2, e3, xe_notb e4 ?_⟩
    show y ≤ x ↔ ¬ x < y
    rw [xb_le_iff, xb_lt_iff]; omega
  | 4, _ =>
    obtain ⟨x, y, t, e1, e2, e3, e4⟩ := xe_lt (show xc_lt b a (fun r => k r) = some r from h) mb ma
    exact ⟨y, x, t, e2, e1, e3, e4⟩
  | 5, _ =>
    obtain ⟨x, y, t, e1, e2, e3, e4⟩ := xe_lt (show xc_lt b a (fun r => k (not r)) = some r from h) mb ma
    refine ⟨y, x, not t, e2, e1, e3, xe_notb e4 ?_⟩
    show y ≤ x ↔ ¬ x < y
    rw [xb_le_iff, xb_lt_iff]; omega
def xe_if (c : Nat) (off : Int) : Instr := match c with
  | 0 => .ifCond .eq off
  | 1 => .ifCond .ne off
  | 2 => .ifCond .lt off
  | 3 => .ifCond .ge off
  | 4 => .ifCond .gt off
  | _ => .ifCond .le off
def xe_ic (c : Nat) (off : Int) : Instr := match c with
  | 0 => .if_icmp .eq off
  | 1 => .if_icmp .ne off
  | 2 => .if_icmp .lt off
  | 3 => .if_icmp .ge off
  | 4 => .if_icmp .gt off
  | _ => .if_icmp .le off
theorem xe_bF {t : Bool} {P : Prop} (h : t = true ↔ P) (hn : ¬ P) : t = false := by
  cases t with
  | false => rfl
  | true => exact absurd (h.mp rfl) hn
section XN
variable {p : Program} {l : Launch} {e : Env} {R : Room} {s : State} {m : MethodId} {args : Array Value} {below : List Frame} {meth : Method} {c : Code} {Q : State → Prop} {cc : ByteArray} {nL : Nat} {own : String} {ini : Bool} {A : Nat → Prop} {E : xm_E} {D : va_G} {W0 : va_W} {d : Nat} {sc : List xv_V}
variable {pc nc ns : Nat} {L : xv_L} {S : List xv_V} {h : List xv_O} {r : xv_R}
theorem xn_if (C : xf_C p R s m args meth c cc nL own ini A E d sc) {q : Nat} (hq : q ≤ 5) {off : Int} {tgt : Nat} (hd : decode cc pc = .ok (xe_if q off, 3)) (ht : (pc : Int) + off = (tgt : Int)) {k : Bool → List xv_V → Option xv_R}
    (hf : (xq_pop S fun a S' => xc_op q a (xi xq_B) fun t => k t S') = some r) (kk : ∀ (t : Bool) (S' : List xv_V), k t S' = some r → xf_G p l e R s m args below meth c Q nL A E D W0 (cond t tgt (pc + 3)) L S' h nc ns) : xf_G p l e R s m args below meth c Q nL A E D W0 pc L S h nc ns := by
  intro ls stk H locs hR
  obtain ⟨hx, hb, -⟩ := C
  obtain ⟨ws, tys, lv, r1, r2, r3, r4⟩ := hR
  obtain ⟨a, S', rfl, hf1⟩ := xe_pop hf
  obtain ⟨va, st', rfl, ma, r30⟩ := xf_2_cons r3
  have m0 : xm_V E ws (xi xq_B) (.int 0) := Or.inl ⟨rfl, Nat.le_of_eq xb_0.symm, Nat.le_of_eq xb_0⟩
  obtain ⟨x, y, t, rfl, hy, hk, ht2⟩ := xe_op hq hf1 ma m0
  cases hy
  have K := kk t S' hk ls st' H locs ⟨ws, tys, lv, r1, r2, r30, r4⟩
  have Kt : t = true → W p l e R s m args below meth c H locs nc ns Q (F0 m tgt ls st') := fun h => by subst h; exact K
  have Kf : t = false → W p l e R s m args below meth c H locs nc ns Q (F0 m (pc + 3) ls st') := fun h => by subst h; exact K
  match q, hq, hd, ht2 with
  | 0, _, hd, ht2 => exact lv_if_eq hx hb hd ht (fun h => Kt (ht2.mpr h)) (fun h => Kf (xe_bF ht2 h))
  | 1, _, hd, ht2 => exact lv_if_ne hx hb hd ht (fun h => Kt (ht2.mpr h)) (fun h => Kf (xe_bF ht2 (fun z => z h)))
  | 2, _, hd, ht2 => exact lv_if_lt hx hb hd ht (fun h => Kt (ht2.mpr h)) (fun h => Kf (xe_bF ht2 h))
  | 3, _, hd, ht2 => exact lv_if_ge hx hb hd ht (fun h => Kt (ht2.mpr h)) (fun h => Kf (xe_bF ht2 h))
  | 4, _, hd, ht2 => exact lv_if_gt hx hb hd ht (fun h => Kt (ht2.mpr h)) (fun h => Kf (xe_bF ht2 h))
  | 5, _, hd, ht2 => exact lv_if_le hx hb hd ht (fun h => Kt (ht2.mpr h)) (fun h => Kf (xe_bF ht2 h))
theorem xn_ic (C : xf_C p R s m args meth c cc nL own ini A E d sc) {q : Nat} (hq : q ≤ 5) {off : Int} {tgt : Nat} (hd : decode cc pc = .ok (xe_ic q off, 3)) (ht : (pc : Int) + off = (tgt : Int)) {k : Bool → List xv_V → Option xv_R}
    (hf : (xq_pop S fun b S' => xq_pop S' fun a S'' => xc_op q a b fun t => k t S'') = some r) (kk : ∀ (t : Bool) (S' : List xv_V), k t S' = some r → xf_G p l e R s m args below meth c Q nL A E D W0 (cond t tgt (pc + 3)) L S' h nc ns) : xf_G p l e R s m args below meth c Q nL A E D W0 pc L S h nc ns := by
  intro ls stk H locs hR
  obtain ⟨hx, hb, -⟩ := C
  obtain ⟨ws, tys, lv, r1, r2, r3, r4⟩ := hR
  obtain ⟨b, S0, rfl, hf0⟩ := xe_pop hf
  obtain ⟨a, S', rfl, hf1⟩ := xe_pop hf0
  obtain ⟨vb, st0, rfl, mb, r39⟩ := xf_2_cons r3
  obtain ⟨va, st', rfl, ma, r30⟩ := xf_2_cons r39
  obtain ⟨x, y, t, rfl, rfl, hk, ht2⟩ := xe_op hq hf1 ma mb
  have K := kk t S' hk ls st' H locs ⟨ws, tys, lv, r1, r2, r30, r4⟩
  have Kt : t = true → W p l e R s m args below meth c H locs nc ns Q (F0 m tgt ls st') := fun h => by subst h; exact K
  have Kf : t = false → W p l e R s m args below meth c H locs nc ns Q (F0 m (pc + 3) ls st') := fun h => by subst h; exact K
  match q, hq, hd, ht2 with
  | 0, _, hd, ht2 => exact lv_icmp_eq hx hb hd ht (fun h => Kt (ht2.mpr h)) (fun h => Kf (xe_bF ht2 h))
  | 1, _, hd, ht2 => exact lv_icmp_ne hx hb hd ht (fun h => Kt (ht2.mpr h)) (fun h => Kf (xe_bF ht2 (fun z => z h)))
  | 2, _, hd, ht2 => exact lv_icmp_lt hx hb hd ht (fun h => Kt (ht2.mpr h)) (fun h => Kf (xe_bF ht2 h))
  | 3, _, hd, ht2 => exact lv_icmp_ge hx hb hd ht (fun h => Kt (ht2.mpr h)) (fun h => Kf (xe_bF ht2 h))
  | 4, _, hd, ht2 => exact lv_icmp_gt hx hb hd ht (fun h => Kt (ht2.mpr h)) (fun h => Kf (xe_bF ht2 h))
  | 5, _, hd, ht2 => exact lv_icmp_le hx hb hd ht (fun h => Kt (ht2.mpr h)) (fun h => Kf (xe_bF ht2 h))
/-- a reference that can be compared: null, a cell of the world, the constant -/
theorem xm_ref3 {ws : va_W} {q : xv_V} {v : Value} (hq : xq_isA q = true) (h8 : Nat.beq q.1 8 = false) (h7 : Nat.beq q.1 7 = false) (h6 : and (Nat.beq q.1 6) (not (Nat.beq q.2.1 0)) = false) (h : xm_V E ws q v) :
    (q.1 = 2 ∧ v = va_rf none) ∨ (q.1 = 1 ∧ ∃ (a : Nat) (x : va_E), v = va_rf (some a) ∧ ws[q.2.1]? = some (a, x)) ∨ (q.1 = 6 ∧ q.2.1 = 0 ∧ v = va_rf (some (E.1 0))) := by
  have n8 := xe_bne h8
  have n7 := xe_bne h7
  have ht : q.1 = 1 ∨ q.1 = 2 ∨ q.1 = 6 := by
    rcases xe_or hq with h | h
    · exact Or.inl (xe_beq h)
    · rcases xe_or h with h | h
      · exact Or.inr (Or.inl (xe_beq h))
      · rcases xe_or h with h | h
        · exact Or.inr (Or.inr (xe_beq h))
        · rcases xe_or h with h | h
          · exact absurd (xe_beq h) n7
          · exact absurd (xe_beq h) n8
  rcases ht with ht | ht | ht
  · obtain ⟨a, x, h1, h2⟩ := xm_VO ht h
    exact Or.inr (Or.inl ⟨ht, a, x, h1, h2⟩)
  · exact Or.inl ⟨ht, xm_VN ht h⟩
  · have h1 := xm_V6 ht h
    rw [ht] at h6
    have e0 : q.2.1 = 0 := by
      cases hz : Nat.beq q.2.1 0 with
      | true => exact xe_beq hz
      | false => rw [hz] at h6; cases h6
    rw [e0] at h1
    exact Or.inr (Or.inr ⟨ht, e0, h1⟩)
theorem xn_ref (C : xf_C p R s m args meth c cc nL own ini A E d sc) {isE : Bool} {off : Int} {tgt : Nat} (hd : decode cc pc = .ok (.if_acmp (cond isE .eq .ne) off, 3)) (ht : (pc : Int) + off = (tgt : Int)) {k : Bool → List xv_V → Option xv_R}
    (hf : (xq_pop S fun b S' => xq_pop S' fun a S'' => xc_ref a b fun t => k (cond isE t (not t)) S'') = some r) (kk : ∀ (t : Bool) (S' : List xv_V), k t S' = some r → xf_G p l e R s m args below meth c Q nL A E D W0 (cond t tgt (pc + 3)) L S' h nc ns) : xf_G p l e R s m args below meth c Q nL A E D W0 pc L S h nc ns := by
  intro ls stk H locs hR
  obtain ⟨hx, hb, hml, hown, hts, hA, hRf, hRl, hlk, hini, hE⟩ := C
  obtain ⟨ws, tys, lv, r1, r2, r3, r4, hK, hP, hD, hS, hM⟩ := hR
  obtain ⟨b, S0, rfl, hf0⟩ := xe_pop hf
  obtain ⟨a, S', rfl, hf1⟩ := xe_pop hf0
  obtain ⟨vb, st0, rfl, mb, r39⟩ := xf_2_cons r3
  obtain ⟨va, st', rfl, ma, r30⟩ := xf_2_cons r39
  obtain ⟨g1, hf2⟩ := xe_cond hf1
  obtain ⟨g2, hf3⟩ := xe_condN hf2
  obtain ⟨ga, gb⟩ := xe_and g1
  obtain ⟨g3, g4⟩ := xe_orN g2
  obtain ⟨a8, g3⟩ := xe_orN g3
  obtain ⟨b8, g3⟩ := xe_orN g3
  obtain ⟨a7, b7⟩ := xe_orN g3
  obtain ⟨a6, b6⟩ := xe_orN g4
  have nA : ¬ A (E.1 0) := va_T.out hE.2.2.2.1
  have key : ∃ rx ry : Option Nat, va = va_rf rx ∧ vb = va_rf ry ∧ ((and (Nat.beq a.1 b.1) (or (Nat.beq a.1 2) (Nat.beq a.2.1 b.2.1))) = true ↔ rx = ry) := by
    rcases xm_ref3 ga a8 a7 a6 ma with ⟨q1, q2⟩ | ⟨q1, x1, y1, q2, q3⟩ | ⟨q1, q0, q2⟩ <;> rcases xm_ref3 gb b8 b7 b6 mb with ⟨p1, p2⟩ | ⟨p1, x2, y2, p2, p3⟩ | ⟨p1, p0, p2⟩
    · exact ⟨_, _, q2, p2, by rw [q1, p1]; simp⟩
    · exact ⟨_, _, q2, p2, by rw [q1, p1]; simp⟩
    · exact ⟨_, _, q2, p2, by rw [q1, p1]; simp⟩
    · exact ⟨_, _, q2, p2, by rw [q1, p1]; simp⟩
    · refine ⟨_, _, q2, p2, ?_⟩
      rw [q1, p1]
      constructor
      · intro hh
        have e1 : a.2.1 = b.2.1 := by
          rcases xe_or (xe_and hh).2 with z | z
          · exact absurd (xe_beq z) (by decide)
          · exact xe_beq z
        rw [e1, p3] at q3
        cases q3; rfl
      · intro hh
        have e0 : x1 = x2 := Option.some.inj hh
        subst e0
        have e1 : a.2.1 = b.2.1 := hD.1 _ _ _ _ q3 p3 rfl
        rw [e1, Nat.beq_refl, Nat.beq_refl]; rfl
    · refine ⟨_, _, q2, p2, ?_⟩
      rw [q1, p1]
      constructor
      · intro hh; cases hh
      · intro hh
        have e0 : x1 = E.1 0 := Option.some.inj hh
        subst e0
        exact absurd (hD.2 _ _ q3) nA
    · exact ⟨_, _, q2, p2, by rw [q1, p1]; simp⟩
    · refine ⟨_, _, q2, p2, ?_⟩
      rw [q1, p1]
      constructor
      · intro hh; cases hh
      · intro hh
        have e0 : E.1 0 = x2 := Option.some.inj hh
        subst e0
        exact absurd (hD.2 _ _ p3) nA
    · exact ⟨_, _, q2, p2, by rw [q1, p1, q0, p0]; simp⟩
  obtain ⟨rx, ry, rfl, rfl, ht2⟩ := key
  have K := kk _ S' hf3 ls st' H locs ⟨ws, tys, lv, r1, r2, r30, r4, hK, hP, hD, hS, hM⟩
  generalize (and (Nat.beq a.1 b.1) (or (Nat.beq a.1 2) (Nat.beq a.2.1 b.2.1))) = t at ht2 K
  cases isE with
  | true =>
    exact lv_acmp_eq hx hb hd ht (fun h => by have h' := ht2.mpr h; subst h'; exact K) (fun h => by have h' := xe_bF ht2 h; subst h'; exact K)
  | false =>
    exact lv_acmp_ne hx hb hd ht (fun h => by have h' := xe_bF ht2 h; subst h'; exact K) (fun h => by have h' := ht2.mpr h; subst h'; exact K)
theorem xn_null (C : xf_C p R s m args meth c cc nL own ini A E d sc) {isE : Bool} {off : Int} {tgt : Nat} (hd : decode cc pc = .ok (cond isE (.ifnull off) (.ifnonnull off), 3)) (ht : (pc : Int) + off = (tgt : Int)) {k : Bool → List xv_V → Option xv_R}
    (hf : (xq_pop S fun a S' => xc_null a fun t => k (cond isE t (not t)) S') = some r) (kk : ∀ (t : Bool) (S' : List xv_V), k t S' = some r → xf_G p l e R s m args below meth c Q nL A E D W0 (cond t tgt (pc + 3)) L S' h nc ns) : xf_G p l e R s m args below meth c Q nL A E D W0 pc L S h nc ns := by
  intro ls stk H locs hR
  obtain ⟨hx, hb, -⟩ := C
  obtain ⟨ws, tys, lv, r1, r2, r3, r4⟩ := hR
  obtain ⟨a, S', rfl, hf1⟩ := xe_pop hf
  obtain ⟨va, st', rfl, ma, r30⟩ := xf_2_cons r3
  obtain ⟨g1, hf2⟩ := xe_cond hf1
  have K := kk _ S' hf2 ls st' H locs ⟨ws, tys, lv, r1, r2, r30, r4⟩
  obtain ⟨x, rfl⟩ := xm_VA g1 ma
  cases x with
  | none =>
    have e1 : a.1 = 2 := by
      obtain ⟨t, u, v⟩ := a
      exact ma
    rw [e1] at K
    cases isE with
    | true => exact lv_ifnullN hx hb hd ht K
    | false => exact lv_ifnonnullN hx hb hd K
  | some q =>
    have e1 : Nat.beq a.1 2 = false := by
      cases hz : Nat.beq a.1 2 with
      | false => rfl
      | true =>
        have e2 := xe_beq hz
        have e3 := xm_VN e2 ma
        cases e3
    rw [e1] at K
    cases isE with
    | true => exact lv_ifnull hx hb hd K
    | false => exact lv_ifnonnull hx hb hd ht K
theorem xn_goto (C : xf_C p R s m args meth c cc nL own ini A E d sc) {off : Int} {tgt : Nat} (hd : decode cc pc = .ok (.goto off, 3)) (ht : (pc : Int) + off = (tgt : Int)) (kk : xf_G p l e R s m args below meth c Q nL A E D W0 tgt L S h nc ns) : xf_G p l e R s m args below meth c Q nL A E D W0 pc L S h nc ns :=
  fun ls stk H locs hR => lv_goto C.1 C.2.1 hd ht (kk ls stk H locs hR)
theorem xn_sw (C : xf_C p R s m args meth c cc nL own ini A E d sc) {w : List Nat} {lo len : Nat} (hlo : w[0]? = some lo) {pcOf : Nat → Nat} (hd : decode cc pc = .ok (.tableswitch ((pcOf (w.getD 1 0) : Int) - (pc : Int)) ((lo : Int) - 2147483648) ((lo : Int) - 2147483648 + ((w.length - 2 : Nat) : Int) - 1) ((w.drop 2).map fun t => (pcOf t : Int) - (pc : Int)).toArray, len)) {k : Nat → List xv_V → Option xv_R}
    (hf : (xq_pop S fun a S' => xj_sw w a fun t => k t S') = some r) (kk : ∀ (t : Nat) (S' : List xv_V), k t S' = some r → xf_G p l e R s m args below meth c Q nL A E D W0 (pcOf t) L S' h nc ns) : xf_G p l e R s m args below meth c Q nL A E D W0 pc L S h nc ns := by
  intro ls stk H locs hR
  obtain ⟨hx, hb, -⟩ := C
  obtain ⟨ws, tys, lv, r1, r2, r3, r4⟩ := hR
  obtain ⟨a, S', rfl, hf1⟩ := xe_pop hf
  obtain ⟨va, st', rfl, ma, r30⟩ := xf_2_cons r3
  obtain ⟨lo', h0, hf2⟩ := xe_nth hf1
  rw [hlo] at h0
  cases h0
  obtain ⟨df, h1, hf3⟩ := xe_nth hf2
  obtain ⟨g1, hf4⟩ := xe_cond hf3
  obtain ⟨ta, a1, a2⟩ := a
  have e1 : ta = 0 := xe_beq g1
  subst e1
  obtain ⟨x, rfl, x1, x2⟩ := xm_V0 ma
  have hxi := xb_int x
  have hdf : w.getD 1 0 = df := by rw [List.getD_eq_getElem?_getD, h1]; rfl
  rw [hdf] at hd
  rw [xq_len_eq] at hf4
  have hlen : 2 ≤ w.length := (List.getElem?_eq_some_iff.mp h1).1
  have go : ∀ t, k t S' = some r → W p l e R s m args below meth c H locs nc ns Q (F0 m (pcOf t) ls st') := fun t ht => kk t S' ht ls st' H locs ⟨ws, tys, lv, r1, r2, r30, r4⟩
  have hf5 : cond (Nat.ble (Nat.succ a2) lo) (k df S') (cond (Nat.ble (lo + (w.length - 2)) a1) (k df S') (cond (Nat.beq a1 a2) (xq_nth w (a1 - lo + 2) (fun t => k t S')) none)) = some r := hf4
  cases hb1 : Nat.ble (Nat.succ a2) lo with
  | true =>
    rw [hb1] at hf5
    have := xe_ble hb1
    exact lv_tableOut hx hb hd (Or.inl (by omega)) (tgt := pcOf df) (by omega) (go df hf5)
  | false =>
    rw [hb1] at hf5
    have hf6 : cond (Nat.ble (lo + (w.length - 2)) a1) (k df S') (cond (Nat.beq a1 a2) (xq_nth w (a1 - lo + 2) (fun t => k t S')) none) = some r := hf5
    have := xe_nble hb1
    cases hb2 : Nat.ble (lo + (w.length - 2)) a1 with
    | true =>
      rw [hb2] at hf6
      have := xe_ble hb2
      exact lv_tableOut hx hb hd (Or.inr (by omega)) (tgt := pcOf df) (by omega) (go df hf6)
    | false =>
      rw [hb2] at hf6
      have := xe_nble hb2
      obtain ⟨g2, hf7⟩ := xe_cond (b := Nat.beq a1 a2) hf6
      have e2 := xe_beq g2
      obtain ⟨t, h2, hf8⟩ := xe_nth hf7
      refine lv_tableIn hx hb hd (off := (pcOf t : Int) - (pc : Int)) (tgt := pcOf t) (by omega) (by omega) ?_ (by omega) (go t hf8)
      have e3 : (x.toInt - ((lo : Int) - 2147483648)).toNat = a1 - lo := by omega
      rw [e3, List.getElem?_toArray, List.getElem?_map, List.getElem?_drop, show 2 + (a1 - lo) = a1 - lo + 2 by omega, h2]
      rfl
/-- two lists, place by place -/
theorem xf_2_of {α β : Type} {P : α → β → Prop} : ∀ {as : List α} {bs : List β}, as.length = bs.length → (∀ (j : Nat) (a : α) (b : β), as[j]? = some a → bs[j]? = some b → P a b) → xf_2 P as bs
  | [], [], _, _ => trivial
  | a :: as, b :: bs, hl, hj => ⟨hj 0 a b rfl rfl, xf_2_of (by simpa using hl) (fun j x y h1 h2 => hj (j + 1) x y (by simpa using h1) (by simpa using h2))⟩
  | [], _ :: _, hl, _ => by simp at hl
  | _ :: _, [], hl, _ => by simp at hl
theorem xm_top {ws : va_W} {z : Nat × va_E} {n : Nat} (h : n = ws.length) : (ws ++ [z])[n]? = some z := by rw [h, List.getElem?_concat_length]
theorem xm_df {ws : va_W} {ty : FieldType} {v : xv_V} (h : xq_df ty v = true) : xm_V E ws v (defaultValue ty) := by
  obtain ⟨t, a, b⟩ := v
  have hi : and (Nat.beq t 0) (and (Nat.beq a 2147483648) (Nat.beq b 2147483648)) = true → xm_V E ws (t, a, b) (.int 0) := by
    intro h
    obtain ⟨h1, h2⟩ := xe_and h
    obtain ⟨h2, h3⟩ := xe_and h2
    have e1 := xe_beq h1
    have e2 := xe_beq h2
    have e3 := xe_beq h3
    subst e1; subst e2; subst e3
    exact Or.inl ⟨rfl, Nat.le_of_eq xb_0.symm, Nat.le_of_eq xb_0⟩
  cases ty with
  | long =>
    obtain ⟨h1, h2⟩ := xe_and (a := Nat.beq t 3) (b := Nat.beq a 9223372036854775808) h
    have e1 := xe_beq h1
    have e2 := xe_beq h2
    subst e1; subst e2
    exact ⟨rfl, (by decide +kernel : xbl 0 = 9223372036854775808)⟩
  | double =>
    obtain ⟨h1, h2⟩ := xe_and (a := Nat.beq t 4) (b := Nat.beq a 0) h
    have e1 := xe_beq h1
    have e2 := xe_beq h2
    subst e1; subst e2
    exact ⟨rfl, (by decide +kernel : (0 : UInt64).toNat = 0)⟩
  | float => cases h
  | object _ => exact xe_beq (a := t) (b := 2) h
  | array _ => exact xe_beq (a := t) (b := 2) h
  | byte => exact hi h
  | char => exact hi h
  | short => exact hi h
  | boolean => exact hi h
  | int => exact hi h
theorem xn_new (C : xf_C p R s m args meth c cc nL own ini A E d sc) {w x : Nat} (hs : xs_new own w x) (hd : decode cc pc = .ok (.new w, 3)) {fs : List xv_V} (hfs : xg_FD[x]? = some fs) (h1 : nc + 1 ≤ R.cells) (h2 : ns + fs.length ≤ R.slots)
    (kk : xf_G p l e R s m args below meth c Q nL A E D W0 (pc + 3) L ((1, h.length, 0) :: S) (h ++ [(0, x, fs)]) (nc + 1) (ns + fs.length)) : xf_G p l e R s m args below meth c Q nL A E D W0 pc L S h nc ns := by
  intro ls stk H locs hR
  obtain ⟨hx, hb, hml, hown, hts, hA, hRf, hRl, hlk, hini, hE⟩ := C
  obtain ⟨ws, tys, lv, r1, r2, r3, r4, hK, hP, hD, hS, hM⟩ := hR
  obtain ⟨C, T, N, ty, g1, g2, g3, g4, g5, g6, g7⟩ := hs
  unfold xq_dfs at g7
  rw [hfs] at g7
  obtain ⟨k1, k2⟩ := xe_and g7
  have k1 : fs.length = N := xe_beq k1
  subst k1
  have hV : ∀ j, j < fs.length → defaultValue (ty j) = vp_V ((List.range fs.length).map fun j => defaultValue (ty j)) j := by
    intro j hj
    unfold vp_V
    rw [List.getD_eq_getElem?_getD, List.getElem?_map, List.getElem?_range hj]
    rfl
  refine va_new (ci := x) (fs := (List.range fs.length).map fun j => defaultValue (ty j)) hx hb hts g6 ty g2 hown (hts _ g3) (hts _ g4) (hts _ g5) hK hP hD hS hA g1 hV h1 h2 hd (fun q H1 p1 p2 p3 => ?_)
  have hle := xm_le_app ws [(q, (.inr (x, (List.range fs.length).map fun j => defaultValue (ty j)) : va_E))]
  have hlen := xf_2_len r4
  refine kk _ _ _ _ ⟨_, tys, lv, r1, xm_L_mono hle r2, ⟨Or.inl ⟨rfl, _, xm_top hlen⟩, xm_S_mono hle r3⟩, xf_2_app (xm_H_mono' hle r4) ⟨Or.inl ⟨rfl, _, rfl, ?_⟩, trivial⟩, hK, p1, p2, p3, xm_le_trans hM hle⟩
  · refine xf_2_of (by simp) (fun j a b ha hb => ?_)
    have hj := (List.getElem?_eq_some_iff.mp ha).1
    rw [List.getElem?_map, List.getElem?_range hj] at hb
    cases hb
    have k3 := List.all_eq_true.mp k2 j (List.mem_range.mpr hj)
    rw [ha] at k3
    exact xm_df k3
theorem xm_rep {α : Type} {n j : Nat} {a b : α} (h : (List.replicate n a)[j]? = some b) : b = a := List.eq_of_mem_replicate (List.mem_of_getElem? h)
theorem xn_newa (C : xf_C p R s m args meth c cc nL own ini A E d sc) {x : Nat} (hs : xs_nwa x) (hd : decode cc pc = .ok (.newarray (cond (Nat.beq x 0) .int .long), 2)) {v : Nat} (hv1 : xq_B ≤ v) (hv2 : v ≤ 2147549184) (h1 : nc + 1 ≤ R.cells) (h2 : ns + (v - xq_B) ≤ R.slots)
    (kk : xf_G p l e R s m args below meth c Q nL A E D W0 (pc + 2) L ((1, h.length, 0) :: S) (h ++ [(1, x, List.replicate (v - xq_B) (cond (Nat.beq x 0) (0, xq_B, xq_B) (cond (Nat.beq x 5) (3, xq_BL, 0) (2, 0, 0))))]) (nc + 1) (ns + (v - xq_B))) : xf_G p l e R s m args below meth c Q nL A E D W0 pc L (xi v :: S) h nc ns := by
  intro ls stk H locs hR
  obtain ⟨hx, hb, hml, hown, hts, hA, hRf, hRl, hlk, hini, hE⟩ := C
  obtain ⟨ws, tys, lv, r1, r2, r3, r4, hK, hP, hD, hS, hM⟩ := hR
  obtain ⟨vn, st', rfl, mn, r30⟩ := xf_2_cons r3
  obtain ⟨n, rfl, en⟩ := xm_V1 mn
  obtain ⟨e3, hn⟩ := xb_clamp en hv1
  have hlen := xf_2_len r4
  unfold xq_B at hv1 h2 kk
  have hN : v - 2147483648 ≤ 65536 := by omega
  change n.toNatClampNeg = v - 2147483648 at e3
  generalize v - 2147483648 = N at h2 kk e3 hN
  rcases hs with ⟨rfl, hw⟩ | ⟨rfl, hw⟩
  · refine va_newa (atype := .int) (ty := .int) (a0 := (N, .inl (fun _ => 0))) hx hb (hts _ hw) rfl hK hP hD hS hA (fun _ => rfl) hn e3 (by show (N) * 4 ≤ 536870912; omega) h1 h2 hd (fun q cA H1 p0 p1 p2 p3 => ?_)
    have hle := xm_le_app ws [(q, (.inl (cA, (N, .inl (fun _ => 0))) : va_E))]
    have hw1 : xf_2 (xm_O E (ws ++ [(q, (.inl (cA, N, .inl (fun _ => 0)) : va_E))]) (tys ++ [(cA, .int)])) [(1, 0, List.replicate (N) (0, 2147483648, 2147483648))] [(q, (.inl (cA, N, .inl (fun _ => 0)) : va_E))] := by
      refine ⟨Or.inr ⟨rfl, cA, N, .inl (fun _ => 0), tys.length, rfl, ?_, Or.inl ⟨rfl, _, rfl⟩, ?_, by omega, ?_⟩, trivial⟩
      · rw [List.getElem?_concat_length]; rfl
      · simp
      · intro j q9 hq
        have hm := xm_rep hq
        rw [hm]
        exact Or.inl ⟨rfl, Nat.le_of_eq xb_0.symm, Nat.le_of_eq xb_0⟩
    exact kk _ _ _ _ ⟨_, tys ++ [(cA, .int)], lv, r1, xm_L_mono hle r2, ⟨Or.inl ⟨rfl, _, xm_top hlen⟩, xm_S_mono hle r30⟩, xf_2_app (xm_H_mono [(cA, .int)] hle r4) hw1, p0, p1, p2, p3, xm_le_trans hM hle⟩
  · refine va_newa (atype := .long) (ty := .long) (a0 := (N, .inr (.inl (fun _ => 0)))) hx hb (hts _ hw) rfl hK hP hD hS hA (fun _ => rfl) hn e3 (by show (N) * 8 ≤ 536870912; omega) h1 h2 hd (fun q cA H1 p0 p1 p2 p3 => ?_)
    have hle := xm_le_app ws [(q, (.inl (cA, (N, .inr (.inl (fun _ => 0)))) : va_E))]
    have hw1 : xf_2 (xm_O E (ws ++ [(q, (.inl (cA, N, .inr (.inl (fun _ => 0))) : va_E))]) (tys ++ [(cA, .long)])) [(1, 5, List.replicate (N) (3, xq_BL, 0))] [(q, (.inl (cA, N, .inr (.inl (fun _ => 0))) : va_E))] := by
      refine ⟨Or.inr ⟨rfl, cA, N, .inr (.inl (fun _ => 0)), tys.length, rfl, ?_, Or.inr (Or.inl ⟨rfl, _, rfl⟩), ?_, by omega, ?_⟩, trivial⟩
      · rw [List.getElem?_concat_length]; rfl
      · simp
      · intro j q9 hq
        have hm := xm_rep hq
        rw [hm]
        exact ⟨rfl, (by decide +kernel : xbl 0 = xq_BL)⟩
    exact kk _ _ _ _ ⟨_, tys ++ [(cA, .long)], lv, r1, xm_L_mono hle r2, ⟨Or.inl ⟨rfl, _, xm_top hlen⟩, xm_S_mono hle r30⟩, xf_2_app (xm_H_mono [(cA, .long)] hle r4) hw1, p0, p1, p2, p3, xm_le_trans hM hle⟩
theorem xn_newq (C : xf_C p R s m args meth c cc nL own ini A E d sc) {w x : Nat} (hs : xs_nwq own w x) (hd : decode cc pc = .ok (.anewarray w, 3)) {v : Nat} (hv1 : xq_B ≤ v) (hv2 : v ≤ 2147549184) (h1 : nc + 1 ≤ R.cells) (h2 : ns + (v - xq_B) ≤ R.slots)
    (kk : xf_G p l e R s m args below meth c Q nL A E D W0 (pc + 3) L ((1, h.length, 0) :: S) (h ++ [(1, x, List.replicate (v - xq_B) (2, 0, 0))]) (nc + 1) (ns + (v - xq_B))) : xf_G p l e R s m args below meth c Q nL A E D W0 pc L (xi v :: S) h nc ns := by
  intro ls stk H locs hR
  obtain ⟨hx, hb, hml, hown, hts, hA, hRf, hRl, hlk, hini, hE⟩ := C
  obtain ⟨ws, tys, lv, r1, r2, r3, r4, hK, hP, hD, hS, hM⟩ := hR
  obtain ⟨vn, st', rfl, mn, r30⟩ := xf_2_cons r3
  obtain ⟨n, rfl, en⟩ := xm_V1 mn
  obtain ⟨e3, hn⟩ := xb_clamp en hv1
  have hlen := xf_2_len r4
  unfold xq_B at hv1 h2 kk
  have hN : v - 2147483648 ≤ 65536 := by omega
  change n.toNatClampNeg = v - 2147483648 at e3
  generalize v - 2147483648 = N at h2 kk e3 hN
  obtain ⟨x1, x2, C, g1, g2, g3⟩ := hs
  refine va_newq (C := C) hx hb hown (hts _ g2) (va_AO.of (hts _ g3)) hK hP hD hS hA hn e3 (by omega) h1 h2 hd (fun q cA H1 p0 p1 p2 p3 => ?_)
  have hle := xm_le_app ws [(q, (.inl (cA, N, .inr (.inr (.inr (.inr (fun _ => none))))) : va_E))]
  have hw1 : xf_2 (xm_O E (ws ++ [(q, (.inl (cA, N, .inr (.inr (.inr (.inr (fun _ => none))))) : va_E))]) (tys ++ [(cA, .object C)])) [(1, x, List.replicate (N) (2, 0, 0))] [(q, (.inl (cA, N, .inr (.inr (.inr (.inr (fun _ => none))))) : va_E))] := by
    refine ⟨Or.inr ⟨rfl, cA, N, .inr (.inr (.inr (.inr (fun _ => none)))), tys.length, rfl, ?_, Or.inr (Or.inr ⟨x1, x2, _, rfl⟩), ?_, by omega, ?_⟩, trivial⟩
    · rw [List.getElem?_concat_length]; exact congrArg (fun z => some (cA, z)) g1.symm
    · simp
    · intro j q9 hq
      have hm := xm_rep hq
      rw [hm]
      rfl
  exact kk _ _ _ _ ⟨_, tys ++ [(cA, .object C)], lv, r1, xm_L_mono hle r2, ⟨Or.inl ⟨rfl, _, xm_top hlen⟩, xm_S_mono hle r30⟩, xf_2_app (xm_H_mono [(cA, .object C)] hle r4) hw1, p0, p1, p2, p3, xm_le_trans hM hle⟩
end XN
