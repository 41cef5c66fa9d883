/-! a method by the executor -/
def xq_ini (k : Nat) : Bool := decide ((xg_Y k).name = "<init>")
/-- the answer's type fits the way of returning -/
def xe_retB (k op z : Nat) : Bool := match op with
  | 84 => decide (xg_RT k = none)
  | 85 => cond (Nat.beq z 1) (decide (xg_RT k = some .boolean)) (decide (xg_RT k = some .int))
  | 86 => match xg_RT k with
    | some (.object _) => true
    | some (.array _) => true
    | _ => false
  | 87 => decide (xg_RT k = some .long)
  | 88 => decide (xg_RT k = some .double)
  | _ => true
def xe_rowB (k : Nat) (cc : ByteArray) (nL : Nat) (ini : Bool) (ex : List (Nat × Nat × Nat × Nat)) (code : List xv_I) (sw : List (List Nat)) (i : xv_I) : Bool :=
  cond (Nat.beq i.2.2.1 200) true (and (not (Nat.beq i.2.2.1 89)) (and (decide (decode cc i.1 = .ok (xe_ins code sw i, i.2.1))) (and (xe_cnd nL ini sw i) (and (cond (Nat.beq i.2.2.1 90) (and ex.isEmpty (xe_th90 cc i.1 i.2.2.2.2.1 i.2.2.2.2.2.1)) true) (and (cond (Nat.beq i.2.2.1 91) (and ex.isEmpty (xe_th91 cc i.1 i.2.2.2.2.1 i.2.2.2.2.2.1)) true) (xe_retB k i.2.2.1 i.2.2.2.2.2.1))))))
noncomputable def xe_seqB (code : List xv_I) : Bool := List.rec (motive := fun _ => Bool) true (fun i r ih => and (List.rec (motive := fun _ => Bool) true (fun i' _ _ => Nat.beq (i.1 + i.2.1) i'.1) r) ih) code
def xe_eq5 (a b : Nat × Nat × Nat × Nat × Nat) : Bool := and (Nat.beq a.1 b.1) (and (Nat.beq a.2.1 b.2.1) (and (Nat.beq a.2.2.1 b.2.2.1) (and (Nat.beq a.2.2.2.1 b.2.2.2.1) (Nat.beq a.2.2.2.2 b.2.2.2.2))))
theorem xe_eq5Of {a b : Nat × Nat × Nat × Nat × Nat} (h : xe_eq5 a b = true) : a = b := by
  obtain ⟨a1, a2, a3, a4, a5⟩ := a
  obtain ⟨b1, b2, b3, b4, b5⟩ := b
  obtain ⟨h1, h⟩ := xe_and h
  obtain ⟨h2, h⟩ := xe_and h
  obtain ⟨h3, h⟩ := xe_and h
  obtain ⟨h4, h5⟩ := xe_and h
  have h1 := xe_beq h1
  have h2 := xe_beq h2
  have h3 := xe_beq h3
  have h4 := xe_beq h4
  have h5 := xe_beq h5
  dsimp only at h1 h2 h3 h4 h5
  rw [h1, h2, h3, h4, h5]
def xe_siteB (sites : List (Nat × Nat × Nat × Nat × Nat)) (code : List xv_I) : Bool := code.all fun i => cond (xi_need i.2.2.1) (sites.any fun t => xe_eq5 t i.2.2) true
noncomputable def xe_chk (k ml : Nat) (cc : ByteArray) (nL : Nat) (ini : Bool) (ex : List (Nat × Nat × Nat × Nat)) (code : List xv_I) (sw : List (List Nat)) (sites : List (Nat × Nat × Nat × Nat × Nat)) : Bool :=
  and (code.all (xe_rowB k cc nL ini ex code sw)) (and (xe_seqB code) (and (xe_siteB sites code) (and (Nat.beq (xe_pc code) 0) (Nat.beq ml nL))))
theorem xe_seqOf : ∀ {code : List xv_I}, xe_seqB code = true → ∀ (j : Nat) (i i' : xv_I), code[j]? = some i → code[j + 1]? = some i' → i.1 + i.2.1 = i'.1
  | [], _, j, i, i', h1, _ => by simp at h1
  | [a], _, j, i, i', h1, h2 => by simp at h2
  | a :: b :: r, h, j, i, i', h1, h2 => by
    obtain ⟨g1, g2⟩ := xe_and (a := Nat.beq (a.1 + a.2.1) b.1) (b := xe_seqB (b :: r)) h
    cases j with
    | zero =>
      simp at h1 h2
      subst h1; subst h2
      exact xe_beq g1
    | succ j => exact xe_seqOf g2 j i i' (by simpa using h1) (by simpa using h2)
/-- what is known of a method -/
def xg_okM (k : Nat) (t : xv_M) : Prop :=
  xe_good (xg_Y k).cls (xg_CC k) (xg_ML k) (xq_ini k) t.2.2.1 t.1 t.2.1 ∧ t.2.2.2 = xg_ML k ∧ xe_pc t.1 = 0 ∧ plainName (xg_Y k).cls = true ∧ (∀ (j : Nat) (i : xv_I), t.1[j]? = some i → i.2.2.1 ≠ 89 ∧ (i.2.2.1 = 200 ∨ xe_retB k i.2.2.1 i.2.2.2.2.2.1 = true)) ∧ xf_2 (xh_row (xg_Y k).cls t.1) t.2.2.1 (tableOf (xg_HH k))
theorem xg_okOf {k ml : Nat} {code : List xv_I} {sw : List (List Nat)} {ex : List (Nat × Nat × Nat × Nat)} {sites : List (Nat × Nat × Nat × Nat × Nat)} (h : xe_chk k ml (xg_CC k) (xg_ML k) (xq_ini k) ex code sw sites = true) (hs : ∀ t ∈ sites, xi_site (xg_Y k).cls t) (hp : plainName (xg_Y k).cls = true) (hh : xf_2 (xh_row (xg_Y k).cls code) ex (tableOf (xg_HH k))) : xg_okM k (code, sw, ex, ml) := by
  obtain ⟨h1, h⟩ := xe_and h
  obtain ⟨h2, h⟩ := xe_and h
  obtain ⟨h3, h⟩ := xe_and h
  obtain ⟨h4, h5⟩ := xe_and h
  refine ⟨⟨fun j i hj => ?_, xe_seqOf h2⟩, xe_beq h5, xe_beq h4, hp, fun j i hj => ?_, hh⟩
  · have h6 := List.all_eq_true.mp h1 i (List.mem_of_getElem? hj)
    have h6 : cond (Nat.beq i.2.2.1 200) true (and (not (Nat.beq i.2.2.1 89)) (and (decide (decode (xg_CC k) i.1 = .ok (xe_ins code sw i, i.2.1))) (and (xe_cnd (xg_ML k) (xq_ini k) sw i) (and (cond (Nat.beq i.2.2.1 90) (and ex.isEmpty (xe_th90 (xg_CC k) i.1 i.2.2.2.2.1 i.2.2.2.2.2.1)) true) (and (cond (Nat.beq i.2.2.1 91) (and ex.isEmpty (xe_th91 (xg_CC k) i.1 i.2.2.2.2.1 i.2.2.2.2.2.1)) true) (xe_retB k i.2.2.1 i.2.2.2.2.2.1)))))) = true := h6
    cases h200 : Nat.beq i.2.2.1 200 with
    | true => exact Or.inl (xe_beq h200)
    | false =>
      rw [h200] at h6
      obtain ⟨g0, h6⟩ := xe_and (a := not (Nat.beq i.2.2.1 89)) h6
      obtain ⟨g1, h6⟩ := xe_and h6
      obtain ⟨g2, h6⟩ := xe_and h6
      obtain ⟨g3, h6⟩ := xe_and h6
      obtain ⟨g4, h6⟩ := xe_and h6
      have h7 := List.all_eq_true.mp h3 i (List.mem_of_getElem? hj)
      refine Or.inr (Or.inr ⟨of_decide_eq_true g1, g2, fun hn => ?_, fun h90 => ?_, fun h91 => ?_⟩)
      · have h8 : cond (xi_need i.2.2.1) (sites.any fun t => xe_eq5 t i.2.2) true = true := h7
        rw [hn] at h8
        obtain ⟨t, ht, he⟩ := List.any_eq_true.mp h8
        have he := xe_eq5Of he
        rw [← he]
        exact hs t ht
      · rw [h90] at g3
        obtain ⟨q1, q2⟩ := xe_and (a := ex.isEmpty) (b := xe_th90 (xg_CC k) i.1 i.2.2.2.2.1 i.2.2.2.2.2.1) g3
        exact ⟨List.isEmpty_iff.mp q1, q2⟩
      · rw [h91] at g4
        obtain ⟨q1, q2⟩ := xe_and (a := ex.isEmpty) (b := xe_th91 (xg_CC k) i.1 i.2.2.2.2.1 i.2.2.2.2.2.1) g4
        exact ⟨List.isEmpty_iff.mp q1, q2⟩
  · have h6 := List.all_eq_true.mp h1 i (List.mem_of_getElem? hj)
    have h6 : cond (Nat.beq i.2.2.1 200) true (and (not (Nat.beq i.2.2.1 89)) (and (decide (decode (xg_CC k) i.1 = .ok (xe_ins code sw i, i.2.1))) (and (xe_cnd (xg_ML k) (xq_ini k) sw i) (and (cond (Nat.beq i.2.2.1 90) (and ex.isEmpty (xe_th90 (xg_CC k) i.1 i.2.2.2.2.1 i.2.2.2.2.2.1)) true) (and (cond (Nat.beq i.2.2.1 91) (and ex.isEmpty (xe_th91 (xg_CC k) i.1 i.2.2.2.2.1 i.2.2.2.2.2.1)) true) (xe_retB k i.2.2.1 i.2.2.2.2.2.1)))))) = true := h6
    cases h200 : Nat.beq i.2.2.1 200 with
    | true =>
      have e := xe_beq h200
      exact ⟨by omega, Or.inl e⟩
    | false =>
      rw [h200] at h6
      obtain ⟨g0, h6⟩ := xe_and (a := not (Nat.beq i.2.2.1 89)) h6
      obtain ⟨g1, h6⟩ := xe_and h6
      obtain ⟨g2, h6⟩ := xe_and h6
      obtain ⟨g3, h6⟩ := xe_and h6
      obtain ⟨g4, h6⟩ := xe_and h6
      refine ⟨fun h89 => ?_, Or.inr h6⟩
      rw [h89] at g0
      cases g0
/-- arguments as locals -/
theorem xm_args {E : xm_E} {ws : va_W} : ∀ {as : List xv_V} {vs : List Value} (i : Nat), xf_2 (xm_V E ws) as vs → xf_2 (xm_L E ws) (xq_args i as) (lv_args i vs)
  | [], [], _, _ => trivial
  | a :: as, v :: vs, i, h => by
    refine ⟨⟨rfl, h.1⟩, ?_⟩
    have hc := xm_cat h.1
    have ih := xm_args (if v.category = 2 then i + 2 else i + 1) h.2
    have e : cond (xq_is2 a) (Nat.succ (Nat.succ i)) (Nat.succ i) = if v.category = 2 then i + 2 else i + 1 := by
      rw [hc]
      by_cases h2 : v.category = 2
      · rw [if_pos h2, h2]; rfl
      · rw [if_neg h2]
        have h3 : (v.category == 2) = false := by simpa using h2
        rw [h3]; rfl
    show xf_2 (xm_L E ws) (xq_args (cond (xq_is2 a) (Nat.succ (Nat.succ i)) (Nat.succ i)) as) _
    rw [e]
    exact ih
  | [], _ :: _, _, h => h.elim
  | _ :: _, [], _, h => h.elim
theorem xm_size {E : xm_E} {ws : va_W} : ∀ {as : List xv_V} {vs : List Value}, xf_2 (xm_V E ws) as vs → (lg_sl vs).length = xq_sz as
  | [], [], _ => rfl
  | a :: as, v :: vs, h => by
    have ih := xm_size h.2
    have hc := xm_cat h.1
    show (lg_sl (v :: vs)).length = cond (xq_is2 a) (Nat.succ (Nat.succ (xq_sz as))) (Nat.succ (xq_sz as))
    rw [hc, ← ih]
    unfold lg_sl
    rw [List.flatMap_cons, List.length_append]
    by_cases h2 : v.category = 2
    · rw [if_pos h2, h2]
      simp; omega
    · rw [if_neg h2]
      have h3 : (v.category == 2) = false := by simpa using h2
      rw [h3]
      simp; omega
  | [], _ :: _, h => h.elim
  | _ :: _, [], h => h.elim
section XRet
variable {p : Program} {l : Launch} {e : Env} {R : Room} {s : State} {m : MethodId} {args : Array Value} {below : List Frame} {meth : Method} {c : Code} {cc : ByteArray} {nL : Nat} {own : String} {ini : Bool} {A : Nat → Prop} {E : xm_E} {D : va_G} {W0 : va_W} {d : Nat} {sc : List xv_V}
variable {code : List xv_I} {sw : List (List Nat)} {ex : List (Nat × Nat × Nat × Nat)} {r : xv_R}
/-- the end of a frame of a method -/
theorem xn_ret (C : xf_C p R s m args meth c cc nL own ini A E d sc) {k : Nat} (hr : meth.sig.returnType = xg_RT k) {pc op z ln x y w : Nat} (h84 : 84 ≤ op) (h88 : op ≤ 88) (hd : decode cc pc = .ok (xe_ins code sw (pc, ln, op, x, y, z, w), ln)) (hln : ln = 1) (hB : xe_retB k op z = true) {L : xv_L} {S : List xv_V} {h : List xv_O} {nc ns : Nat} (hf : xr op z S h nc ns = some r) :
    xf_G p l e R s m args below meth c (vx_MQ below (xw_Q E D A W0 r) (xw_X E D A W0 r) args s r.2.2.2.1 r.2.2.2.2 A) nL A E D W0 pc L S h nc ns := by
  intro ls stk H locs hR
  obtain ⟨hx, hb, hml, hown, hts, hA, hRf, hRl, hlk, hini, hE⟩ := C
  obtain ⟨ws, tys, lv, r1, r2, r3, r4, hK, hP, hD, hS, hM⟩ := hR
  subst hln
  have hmr := xp_r hf
  rw [hmr.1, hmr.2]
  have hW : ∀ (t : State), t.heap = H → s.WarmedH t.vm → r.2.2.1 = h → xw_W E D A W0 ws tys r s t := fun t ht hW hh => ⟨hM, by rw [hh]; exact r4, va_K.moved hW.alike hK, by rw [ht]; exact hP, hD, hS.F ht⟩
  have hv : ∀ {v : xv_V} {ok : Bool} {x0 : Value}, xr_get v ok h nc ns = some r → xm_V E ws v x0 → ok = true ∧ ∀ t : State, t.heap = H → s.WarmedH t.vm → xw_Q E D A W0 r args s (.returned (some x0)) t := by
    intro v ok x0 hg hm
    obtain ⟨g1, g2⟩ := xe_cond hg
    have g3 := (Option.some.inj g2).symm
    exact ⟨g1, fun t ht hw => ⟨some x0, ws, tys, rfl, Or.inr ⟨by rw [g3], x0, rfl, by rw [g3]; exact hm⟩, hW t ht hw (by rw [g3])⟩⟩
  rcases (show op = 84 ∨ op = 85 ∨ op = 86 ∨ op = 87 ∨ op = 88 by omega) with rfl | rfl | rfl | rfl | rfl
  · have h1 : cond (Nat.beq (xq_len S) 0) (some ((0, (2, 0, 0), h, nc, ns) : xv_R)) none = some r := hf
    obtain ⟨g1, g2⟩ := xe_cond h1
    have g1 := xe_beq g1
    rw [xq_len_eq] at g1
    have g4 := List.eq_nil_of_length_eq_zero g1
    subst g4
    have g5 := xf_2_nil r3
    subst g5
    have g3 := (Option.some.inj g2).symm
    have hrt : meth.sig.returnType = none := by rw [hr]; exact of_decide_eq_true hB
    exact vx_ret (W.vret hx hb hrt (fun t ht hw => ⟨none, ws, tys, rfl, Or.inl ⟨by rw [g3], rfl⟩, hW t ht hw (by rw [g3])⟩) hS.2.2 hd hlk)
  · have h1 : (xq_pop S fun v S => cond (Nat.beq (xq_len S) 0) (xr_get v (cond (Nat.beq z 1) (xq_isZ v) (xq_isI v)) h nc ns) none) = some r := hf
    obtain ⟨v, S1, rfl, h2⟩ := xe_pop h1
    obtain ⟨g1, h3⟩ := xe_cond h2
    have g1 := xe_beq g1
    rw [xq_len_eq] at g1
    have g4 := List.eq_nil_of_length_eq_zero g1
    subst g4
    obtain ⟨x0, st, rfl, m0, r5⟩ := xf_2_cons r3
    have g5 := xf_2_nil r5
    subst g5
    obtain ⟨g6, g7⟩ := hv h3 m0
    have hB' : cond (Nat.beq z 1) (decide (xg_RT k = some .boolean)) (decide (xg_RT k = some .int)) = true := hB
    cases hz : Nat.beq z 1 with
    | true =>
      rw [hz] at g6 hB'
      have hrt : meth.sig.returnType = some .boolean := by rw [hr]; exact of_decide_eq_true hB'
      obtain ⟨n1, n2⟩ := xm_fit (z := 1) (ty := .boolean) (Or.inr (Or.inl ⟨rfl, rfl⟩)) (q := v) g6 m0
      obtain ⟨t, a, b⟩ := v
      obtain ⟨q1, q2⟩ := xe_and (a := Nat.beq t 0) g6
      have e1 := xe_beq q1
      subst e1
      obtain ⟨n, rfl, -⟩ := xm_V0 m0
      exact vx_ret (W.zret hx hb hrt n1 g7 hS.2.2 hd hlk)
    | false =>
      rw [hz] at g6 hB'
      have hrt : meth.sig.returnType = some .int := by rw [hr]; exact of_decide_eq_true hB'
      obtain ⟨n, rfl⟩ := xm_VI g6 m0
      exact vx_ret (W.iret hx hb hrt g7 hS.2.2 hd hlk)
  · have h1 : (xq_pop S fun v S => cond (Nat.beq (xq_len S) 0) (xr_get v (xq_isA v) h nc ns) none) = some r := hf
    obtain ⟨v, S1, rfl, h2⟩ := xe_pop h1
    obtain ⟨g1, h3⟩ := xe_cond h2
    have g1 := xe_beq g1
    rw [xq_len_eq] at g1
    have g4 := List.eq_nil_of_length_eq_zero g1
    subst g4
    obtain ⟨x0, st, rfl, m0, r5⟩ := xf_2_cons r3
    have g5 := xf_2_nil r5
    subst g5
    obtain ⟨g6, g7⟩ := hv h3 m0
    obtain ⟨q, rfl⟩ := xm_VA g6 m0
    have hrt : ∃ rt, meth.sig.returnType = some rt ∧ ((∃ n, rt = .object n) ∨ ∃ t, rt = .array t) := by
      rw [hr]
      have hB' : (match xg_RT k with
        | some (.object _) => true
        | some (.array _) => true
        | _ => false) = true := hB
      split at hB'
      · rename_i n hn; exact ⟨_, hn, Or.inl ⟨n, rfl⟩⟩
      · rename_i n hn; exact ⟨_, hn, Or.inr ⟨n, rfl⟩⟩
      · cases hB'
    obtain ⟨rt, hrt, hk⟩ := hrt
    exact vx_ret (W.aret hx hb hrt hk (by cases q with
      | none => exact Or.inl rfl
      | some a => exact Or.inr ⟨a, rfl⟩) g7 hS.2.2 hd hlk)
  · have h1 : (xq_pop S fun v S => cond (Nat.beq (xq_len S) 0) (xr_get v (Nat.beq v.1 3) h nc ns) none) = some r := hf
    obtain ⟨v, S1, rfl, h2⟩ := xe_pop h1
    obtain ⟨g1, h3⟩ := xe_cond h2
    have g1 := xe_beq g1
    rw [xq_len_eq] at g1
    have g4 := List.eq_nil_of_length_eq_zero g1
    subst g4
    obtain ⟨x0, st, rfl, m0, r5⟩ := xf_2_cons r3
    have g5 := xf_2_nil r5
    subst g5
    obtain ⟨g6, g7⟩ := hv h3 m0
    obtain ⟨n, rfl, -⟩ := xm_VL g6 m0
    have hrt : meth.sig.returnType = some .long := by rw [hr]; exact of_decide_eq_true hB
    exact vx_ret (W.lret hx hb hrt g7 hS.2.2 hd hlk)
  · have h1 : (xq_pop S fun v S => cond (Nat.beq (xq_len S) 0) (xr_get v (Nat.beq v.1 4) h nc ns) none) = some r := hf
    obtain ⟨v, S1, rfl, h2⟩ := xe_pop h1
    obtain ⟨g1, h3⟩ := xe_cond h2
    have g1 := xe_beq g1
    rw [xq_len_eq] at g1
    have g4 := List.eq_nil_of_length_eq_zero g1
    subst g4
    obtain ⟨x0, st, rfl, m0, r5⟩ := xf_2_cons r3
    have g5 := xf_2_nil r5
    subst g5
    obtain ⟨g6, g7⟩ := hv h3 m0
    obtain ⟨n, rfl, -⟩ := xm_VD g6 m0
    have hrt : meth.sig.returnType = some .double := by rw [hr]; exact of_decide_eq_true hB
    exact vx_ret (W.dret hx hb hrt g7 hS.2.2 hd hlk)
theorem xn_throw (hl : l.stackTraces = false) (C : xf_C p R s m args meth c cc nL own ini A E d sc) (hF : xf_F s) (hd6 : 6 ≤ d) {pc x y z w : Nat} (hs : xs_thr own w x y z) (hno : c.exceptionTable.toList = []) (hd : decode cc pc = .ok (.new w, 3)) (hth : xe_th90 cc pc y z = true ∨ xe_th91 cc pc y z = true) {L : xv_L} {S : List xv_V} {h : List xv_O} {nc ns : Nat} (hS4 : S.length ≤ 4) (hr : r = (2 + x, (2, 0, 0), h, nc + 1, ns + 6)) (hc : r.2.2.2.1 ≤ R.cells) (hsl : r.2.2.2.2 ≤ R.slots) :
    xf_G p l e R s m args below meth c (vx_MQ below (xw_Q E D A W0 r) (xw_X E D A W0 r) args s r.2.2.2.1 r.2.2.2.2 A) nL A E D W0 pc L S h nc ns := by
  intro ls stk H locs hR
  obtain ⟨hx, hb, hml, hown, hts, hA, hRf, hRl, hlk, hini, hE⟩ := C
  obtain ⟨ws, tys, lv, r1, r2, r3, r4, hK, hP, hD, hS, hM⟩ := hR
  obtain ⟨hx3, g1, g2, ⟨tx, g3⟩, g4⟩ := hs
  obtain ⟨sa, hstr⟩ := hF.1 _ g3
  have hat := xt_all hx3 g4
  have hsum := xm_sum r3
  have hfit : Bundle.fit (xg_EX x) = true := by
    rcases (show x = 0 ∨ x = 1 ∨ x = 2 by omega) with rfl | rfl | rfl <;> decide +kernel
  have hgood : ∀ w' ∈ Cond.classLink own w (xg_EX x) :: Cond.initialized (xg_EX x) :: vx_atS own z (xg_EX x) xt_nm, vx_ot w' = true := by
    intro w' hw'
    rcases List.mem_cons.mp hw' with rfl | hw'
    · rfl
    rcases List.mem_cons.mp hw' with rfl | hw'
    · rfl
    · exact (hat w' hw').2
  have hX : ∀ t : State, s.vm.Alike t.vm → H.size ≤ t.heap.size → (∀ q : Nat, q < H.size → t.heap[q]? = H[q]?) → xw_X E D A W0 r (xg_EX x) s t := by
    intro t hal hsz hk
    refine ⟨x, ws, tys, by rw [hr], hx3, rfl, hM, by rw [hr]; exact r4, va_K.moved hal hK, hP.kept (fun k q hq => hk _ (vx_lt hP hq)), hD, ?_⟩
    exact ⟨Nat.le_trans hS.1 hsz, fun q h1 h2 => by rw [hk q (Nat.lt_of_lt_of_le h1 hS.1)]; exact hS.2.1 q h1 h2⟩
  have hcc : nc + 1 ≤ r.2.2.2.1 := by rw [hr]; exact Nat.le_refl _
  have hss : ns + 6 ≤ r.2.2.2.2 := by rw [hr]; exact Nat.le_refl _
  have hout : ∀ (n : Nat), ∀ x ∈ c.exceptionTable.toList, covers x n = false := by
    intro n x hx
    rw [hno] at hx
    exact absurd hx List.not_mem_nil
  rcases hth with hth | hth
  · obtain ⟨e1, hth⟩ := xe_and hth
    obtain ⟨e2, hth⟩ := xe_and hth
    obtain ⟨e3, e4⟩ := xe_and hth
    exact vx_throwS (names := xt_nm) hx hb hl hown hfit (by decide +kernel) (hts _ g1) (hts _ g2) hstr (fun w' hw' => hts _ (hat w' hw').1) hgood hE.1 hE.2.1 hS (by rw [hml]; exact r1.1) hd (of_decide_eq_true e1) (of_decide_eq_true e2) (of_decide_eq_true e3) (of_decide_eq_true e4) (hout _)
      (by show 2 + 3 < R.frames; omega) (by show (stk.map fun v => v.category).sum + (13 * (2 + 1) + 43) ≤ R.locals; omega) (by omega) (by omega) hlk hX hS.2.2 hcc hss
  · obtain ⟨e1, hth⟩ := xe_and hth
    obtain ⟨e2, hth⟩ := xe_and hth
    obtain ⟨e3, e4⟩ := xe_and hth
    exact vx_throwSW (names := xt_nm) hx hb hl hown hfit (by decide +kernel) (hts _ g1) (hts _ g2) hstr (fun w' hw' => hts _ (hat w' hw').1) hgood hE.1 hE.2.1 hS (by rw [hml]; exact r1.1) hd (of_decide_eq_true e1) (of_decide_eq_true e2) (of_decide_eq_true e3) (of_decide_eq_true e4) (hout _)
      (by show 2 + 3 < R.frames; omega) (by show (stk.map fun v => v.category).sum + (13 * (2 + 1) + 43) ≤ R.locals; omega) (by omega) (by omega) hlk hX hS.2.2 hcc hss
end XRet
