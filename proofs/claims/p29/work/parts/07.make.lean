/-! cells that are new; rows copied -/
/-- how a field begins -/
def zdfB (ty : FieldType) (v : Value) : Bool := decide (defaultValue ty = v)
def zs_new (own : String) (w x : Nat) : Prop := ∃ (C : String) (T : u_T) (N : Nat) (ty : Nat → FieldType) (fs : List Value), vwCl[x]? = some (C, T, N) ∧ (∀ k, k < N → parseFieldDescriptor (T k).2.2.1 = some (ty k)) ∧ Cond.classLink own w C ∈ zw_B ∧ Cond.instantiable C N ∈ zw_B ∧ Cond.initialized C ∈ zw_B ∧ (∀ x ∈ u_ws C T N, x ∈ zw_B) ∧ zg_FD[x]? = some fs ∧ fs.length = N ∧ (List.range N).all (fun j => decide (defaultValue (ty j) = vp_V fs j)) = true
def zs_newq (own : String) (w x : Nat) : Prop := (1 ≤ x ∧ x ≤ 3 ∧ ∃ C : String, zTY x = .object C ∧ Cond.classLink own w C ∈ zw_B ∧ Cond.arrayOver (.object C) ∈ zw_B) ∨ (x = 4 ∧ Cond.classLink own w "[I" ∈ zw_B ∧ Cond.arrayOver (.array .int) ∈ zw_B)
theorem zm_nul {E : Nat} {ws : va_W} {ty : FieldType} {v : Value} (h : defaultValue ty = v) (hf : ∀ x, v ≠ .float x) (hd : ∀ x, v ≠ .double x) : zm_V E ws v v := by
  subst h
  cases ty with
  | float => exact absurd rfl (hf _)
  | double => exact absurd rfl (hd _)
  | _ => rfl
theorem zm_rep {α : Type} {n j : Nat} {a b : α} (h : (List.replicate n a)[j]? = some b) : b = a := List.eq_of_mem_replicate (List.mem_of_getElem? h)
theorem z_clamp {m : Int32} (h : 0 ≤ m.toInt) : ¬ m < 0 ∧ m.toNatClampNeg = m.toInt.toNat := by
  refine ⟨fun q => ?_, rfl⟩
  have := Int32.lt_iff_toInt_lt.mp q
  have h0 : (0 : Int32).toInt = 0 := rfl
  omega
section ZN
variable {p : Program} {l : Launch} {e : Env} {R : Room} {s : State} {m : MethodId} {args : Array Value} {below : List Frame} {meth : Method} {c : Code} {Q : State → Prop} {cc : ByteArray} {nL : Nat} {own : String} {ini : Bool} {A : Nat → Prop} {E : Nat} {D : va_G} {W0 : va_W} {d : Nat} {sc : List Int32}
variable {pc nc ns : Nat} {L : zL} {S : List Value} {h : List zO}
theorem zn_new (C : zf_C p R s m args meth c cc nL own ini A E d sc) {w x : Nat} (hs : zs_new own w x) (hd : decode cc pc = .ok (.new w, 3)) {fs : List Value} (hfs : zg_FD[x]? = some fs) (hno : fs.all (fun v => zfit 0 v || zfit 2 v || zfit 3 v) = true) (h1 : nc + 1 ≤ R.cells) (h2 : ns + fs.length ≤ R.slots)
    (kk : zf_G p l e R s m args below meth c Q nL A E D W0 (pc + 3) L (.ref h.length :: S) (h ++ [.inl (x, fs)]) (nc + 1) (ns + fs.length)) : zf_G p l e R s m args below meth c Q nL A E D W0 pc L S h nc ns := by
  intro ls stk H locs hR
  obtain ⟨hx, hb, hml, hown, hts, hA, hRf, hRl, hlk, hini, hE⟩ := C
  obtain ⟨ws, tys, lv, r1, r2, r3, r4, hK, hP, hD, hS, hM⟩ := hR
  obtain ⟨C, T, N, ty, fs', g1, g2, g3, g4, g5, g6, g7, g8, g9⟩ := hs
  cases g7.symm.trans hfs
  subst g8
  have hV : ∀ j, j < fs.length → defaultValue (ty j) = vp_V fs j := fun j hj => of_decide_eq_true (List.all_eq_true.mp g9 j (List.mem_range.mpr hj))
  refine va_new (ci := x) (fs := fs) hx hb hts g6 ty g2 hown (hts _ g3) (hts _ g4) (hts _ g5) hK hP hD hS hA g1 hV h1 h2 hd (fun q H1 p1 p2 p3 => ?_)
  have hle := xm_le_app ws [(q, (.inr (x, fs) : va_E))]
  have hlen := xf_2_len r4
  refine kk _ _ _ _ ⟨_, tys, lv, r1, zm_L_mono hle r2, xf_2_c (a := .ref h.length) (b := .ref q) ⟨q, _, rfl, zm_top hlen⟩ (zm_S_mono hle r3), xf_2_app (zm_H_mono' hle r4) (xf_2_c (as := []) (bs := []) ⟨fs, rfl, ?_⟩ trivial), hK, p1, p2, p3, xm_le_trans hM hle⟩
  refine xf_2_of rfl (fun j a b ha hb => ?_)
  cases ha.symm.trans hb
  have hj := (List.getElem?_eq_some_iff.mp ha).1
  have e1 := hV j hj
  have e2 : vp_V fs j = a := by
    unfold vp_V
    rw [List.getD_eq_getElem?_getD, ha]; rfl
  rw [e2] at e1
  have e3 := List.all_eq_true.mp hno a (List.mem_of_getElem? ha)
  refine zm_nul e1 (fun x hx => ?_) (fun x hx => ?_)
  · subst hx; cases e3
  · subst hx; cases e3
theorem zn_newa (C : zf_C p R s m args meth c cc nL own ini A E d sc) {x : Nat} (hx5 : x = 0 ∨ x = 5) (hs : Cond.arrayClass (zTY x) ∈ zw_B) (hd : decode cc pc = .ok (.newarray (cond (Nat.beq x 0) .int .boolean), 2)) {n : Int32} (hn0 : 0 ≤ n.toInt) (hn1 : n.toInt.toNat ≤ 1048576) (h1 : nc + 1 ≤ R.cells) (h2 : ns + n.toInt.toNat ≤ R.slots)
    (kk : zf_G p l e R s m args below meth c Q nL A E D W0 (pc + 2) L (.ref h.length :: S) (h ++ [zdef x n.toInt.toNat]) (nc + 1) (ns + n.toInt.toNat)) : zf_G p l e R s m args below meth c Q nL A E D W0 pc L (.int n :: S) h nc ns := by
  intro ls stk H locs hR
  obtain ⟨hx, hb, hml, hown, hts, hA, hRf, hRl, hlk, hini, hE⟩ := C
  obtain ⟨ws, tys, lv, r1, r2, r3, r4, hK, hP, hD, hS, hM⟩ := hR
  obtain ⟨vn, st', rfl, mn, r30⟩ := xf_2_cons r3
  cases mn
  obtain ⟨hn, e3⟩ := z_clamp hn0
  have hlen := xf_2_len r4
  generalize n.toInt.toNat = N at h2 kk e3 hn1
  have done : ∀ (ty : FieldType) (q : Nat) (cA : ClassId) (H1 : Heap), zdef x N = (if x = 0 then .inr (.inl (List.replicate N 0)) else .inr (.inr (.inl (List.replicate N 0)))) → ty = zTY x → va_K D vwCl (tys ++ [(cA, ty)]) s → va_P D vwCl (ws ++ [(q, .inl (cA, (N, .inl (fun _ => 0))))]) H1 → va_D A (ws ++ [(q, .inl (cA, (N, .inl (fun _ => 0))))]) → va_S A s.heap H1 locs → W p l e R s m args below meth c H1 locs (nc + 1) (ns + N) Q (F0 m (pc + 2) ls (.ref q :: st')) := by
    intro ty q cA H1 hz hty p0 p1 p2 p3
    subst hty
    have hle := xm_le_app ws [(q, (.inl (cA, (N, .inl (fun _ => 0))) : va_E))]
    have hw1 : zm_O E (ws ++ [(q, (.inl (cA, (N, .inl (fun _ => 0))) : va_E))]) (tys ++ [(cA, zTY x)]) (zdef x N) (q, (.inl (cA, (N, .inl (fun _ => 0))) : va_E)) := by
      rw [hz]
      rcases hx5 with rfl | rfl
      · exact ⟨cA, tys.length, fun _ => 0, by rw [List.length_replicate], by rw [List.getElem?_concat_length]; rfl, by rw [List.length_replicate]; exact hn1, fun j y hy => (zm_rep hy).symm⟩
      · exact ⟨cA, tys.length, fun _ => 0, by rw [List.length_replicate], by rw [List.getElem?_concat_length]; rfl, by rw [List.length_replicate]; exact hn1, fun j y hy => (zm_rep hy).symm⟩
    exact kk _ _ _ _ ⟨_, _, lv, r1, zm_L_mono hle r2, xf_2_c (a := .ref h.length) (b := .ref q) ⟨q, _, rfl, zm_top hlen⟩ (zm_S_mono hle r30), xf_2_app (zm_H_mono [(cA, zTY x)] hle r4) (xf_2_c (as := []) (bs := []) hw1 trivial), p0, p1, p2, p3, xm_le_trans hM hle⟩
  rcases hx5 with rfl | rfl
  · exact va_newa (atype := .int) (ty := .int) (a0 := (N, .inl (fun _ => 0))) hx hb (hts _ hs) rfl hK hP hD hS hA (fun _ => rfl) hn e3 (by show N * 4 ≤ 536870912; omega) h1 h2 hd (fun q cA H1 p0 p1 p2 p3 => done .int q cA H1 rfl rfl p0 p1 p2 p3)
  · exact va_newa (atype := .boolean) (ty := .boolean) (a0 := (N, .inl (fun _ => 0))) hx hb (hts _ hs) rfl hK hP hD hS hA (fun _ => rfl) hn e3 (by show N * 1 ≤ 536870912; omega) h1 h2 hd (fun q cA H1 p0 p1 p2 p3 => done .boolean q cA H1 rfl rfl p0 p1 p2 p3)
theorem zn_newq (C : zf_C p R s m args meth c cc nL own ini A E d sc) {w x : Nat} (hs : zs_newq own w x) (hd : decode cc pc = .ok (.anewarray w, 3)) {n : Int32} (hn0 : 0 ≤ n.toInt) (hn1 : n.toInt.toNat ≤ 1048576) (h1 : nc + 1 ≤ R.cells) (h2 : ns + n.toInt.toNat ≤ R.slots)
    (kk : zf_G p l e R s m args below meth c Q nL A E D W0 (pc + 3) L (.ref h.length :: S) (h ++ [zdef x n.toInt.toNat]) (nc + 1) (ns + n.toInt.toNat)) : zf_G p l e R s m args below meth c Q nL A E D W0 pc L (.int n :: S) h nc ns := by
  intro ls stk H locs hR
  obtain ⟨hx, hb, hml, hown, hts, hA, hRf, hRl, hlk, hini, hE⟩ := C
  obtain ⟨ws, tys, lv, r1, r2, r3, r4, hK, hP, hD, hS, hM⟩ := hR
  obtain ⟨vn, st', rfl, mn, r30⟩ := xf_2_cons r3
  cases mn
  obtain ⟨hn, e3⟩ := z_clamp hn0
  have hlen := xf_2_len r4
  have hx14 : 1 ≤ x ∧ x ≤ 4 := by
    rcases hs with ⟨h, h', -⟩ | ⟨h, -⟩ <;> omega
  have hz : zdef x n.toInt.toNat = .inr (.inr (.inr (x, List.replicate n.toInt.toNat none))) := by
    rcases (show x = 1 ∨ x = 2 ∨ x = 3 ∨ x = 4 by omega) with rfl | rfl | rfl | rfl <;> rfl
  have done : ∀ (q : Nat) (cA : ClassId) (H1 : Heap), va_K D vwCl (tys ++ [(cA, zTY x)]) s → va_P D vwCl (ws ++ [(q, .inl (cA, n.toInt.toNat, .inr (.inr (.inr (.inr (fun _ => none))))))]) H1 → va_D A (ws ++ [(q, .inl (cA, n.toInt.toNat, .inr (.inr (.inr (.inr (fun _ => none))))))]) → va_S A s.heap H1 locs → W p l e R s m args below meth c H1 locs (nc + 1) (ns + n.toInt.toNat) Q (F0 m (pc + 3) ls (.ref q :: st')) := by
    intro q cA H1 p0 p1 p2 p3
    have hle := xm_le_app ws [(q, (.inl (cA, n.toInt.toNat, .inr (.inr (.inr (.inr (fun _ => none))))) : va_E))]
    have hw1 : zm_O E (ws ++ [(q, (.inl (cA, n.toInt.toNat, .inr (.inr (.inr (.inr (fun _ => none))))) : va_E))]) (tys ++ [(cA, zTY x)]) (zdef x n.toInt.toNat) (q, (.inl (cA, n.toInt.toNat, .inr (.inr (.inr (.inr (fun _ => none))))) : va_E)) := by
      rw [hz]
      exact ⟨cA, tys.length, fun _ => none, by rw [List.length_replicate], by rw [List.getElem?_concat_length], hx14, by rw [List.length_replicate]; exact hn1, fun j y hy => by rw [zm_rep hy]; rfl⟩
    exact kk _ _ _ _ ⟨_, _, lv, r1, zm_L_mono hle r2, xf_2_c (a := .ref h.length) (b := .ref q) ⟨q, _, rfl, zm_top hlen⟩ (zm_S_mono hle r30), xf_2_app (zm_H_mono [(cA, zTY x)] hle r4) (xf_2_c (as := []) (bs := []) hw1 trivial), p0, p1, p2, p3, xm_le_trans hM hle⟩
  rcases hs with ⟨-, -, C, g1, g2, g3⟩ | ⟨rfl, g2, g3⟩
  · exact va_newq (C := C) hx hb hown (hts _ g2) (va_AO.of (hts _ g3)) hK hP hD hS hA hn e3 (by omega) h1 h2 hd (fun q cA H1 p0 p1 p2 p3 => done q cA H1 (by rw [g1]; exact p0) p1 p2 p3)
  · exact zr_new hx hb hown (hts _ g2) (hts _ g3) hK hP hD hS hA hn (by rw [e3]; omega) h1 h2 hd (fun q cA H1 p0 p1 p2 p3 => done q cA H1 p0 p1 p2 p3)
end ZN
section ZS
variable {own : String} {ini : Bool} {d : Nat} {sc : List Int32} {nL : Nat}
def zs_obi (own : String) (w : Nat) : Prop := Cond.methodLink own w Lib.objectInit ∈ zw_B ∧ Cond.instanceMethod Lib.objectInit ∈ zw_B ∧ Cond.code Lib.objectInit ⟨#[0xb1]⟩ 1 none ∈ zw_B
theorem zs_oini {w : Nat} (hs : zs_obi own w) : zs_ok own ini d sc nL (zo_oini d) (.invokespecial w) 3 := by
  intro p l e R s m args below meth c Q cc A E D W0 C pc hd L S h nc ns t h1 h2 hf kk ls stk H locs hR
  obtain ⟨hx, hb, hml, hown, hts, hA, hRf, hRl, hlk, hini, hE⟩ := C
  obtain ⟨ws, tys, lv, r1, r2, r3, r4, hK, hP, hD, hS, hM⟩ := hR
  obtain ⟨g1, g2, g3⟩ := hs
  obtain ⟨a0, S0, rfl, hf1⟩ := ze_r hf
  obtain ⟨hq, hf2⟩ := ze_b hf1
  cases hf2
  obtain ⟨-, hq⟩ := ze_and hq
  obtain ⟨q1, q2⟩ := ze_and hq
  have q1 := Nat.le_of_ble_eq_true q1
  have q2 := Nat.le_of_ble_eq_true q2
  obtain ⟨w0, st0, rfl, m0, r30⟩ := xf_2_cons r3
  have hsum := zm_sum r30
  obtain ⟨a, e0, rfl, hw⟩ := m0
  refine W.objInit hx hb hown (hts _ g1) (hts _ g2) (hts _ g3) rfl (by rw [hml]; exact r1.1) rfl hd (by omega) ?_ (kk _ _ _ _ ⟨ws, tys, lv, r1, r2, r30, r4, hK, hP, hD, hS, hM⟩)
  show 2 * 0 + (st0.map fun v => v.category).sum + 12 ≤ R.locals
  omega
end ZS
