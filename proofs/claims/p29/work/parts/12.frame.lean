/-! a frame of the model is one of the machine -/
def zfarL : List Nat := [56, 57, 58, 64, 65, 66, 67, 68, 69, 70, 71, 72, 73, 74, 75, 80, 81, 84, 85, 86, 87, 96, 97, 98, 99, 100]
def zrok (own : String) (cc : ByteArray) (nL : Nat) (ini : Bool) (code : List zI) (sw : List (List Nat)) (i : zI) : Prop :=
  i.2.2.1 = 200 ∨ (decode cc i.1 = .ok (zins code sw i, i.2.1) ∧ zcnd nL ini sw i = true ∧ zsite own i.2.2 ∧ (or (zsimple i.2.2.1) (zfarL.contains i.2.2.1)) = true)
def zgood (own : String) (cc : ByteArray) (nL : Nat) (ini : Bool) (code : List zI) (sw : List (List Nat)) : Prop :=
  (∀ (j : Nat) (i : zI), code[j]? = some i → zrok own cc nL ini code sw i) ∧ ∀ (j : Nat) (i i' : zI), code[j]? = some i → code[j + 1]? = some i' → i.1 + i.2.1 = i'.1
theorem z_near {op : Nat} (h : zsimple op = true) : (or (Nat.ble op 51) (and (Nat.ble 102 op) (Nat.ble op 111))) = true := by
  have h1 := List.contains_iff_mem.mp h
  have h2 : ([0, 1, 2, 3, 5, 6, 7, 8, 9, 10, 11, 14, 15, 16, 17, 18, 19, 22, 23, 24, 25, 26, 27, 28, 29, 30, 31, 32, 34, 35, 37, 38, 40, 41, 42, 43, 46, 47, 48, 51, 102, 103, 104, 105, 106, 107, 108, 109, 110, 111] : List Nat).all (fun op => or (Nat.ble op 51) (and (Nat.ble 102 op) (Nat.ble op 111))) = true := by decide
  exact List.all_eq_true.mp h2 op h1
section ZM
variable {FD : List (List Value)} {X : zX} {d : Nat} {sc : List Int32} {code : List zI} {sw : List (List Nat)} {r : zR}
theorem zr_counts {op z : Nat} {S : List Value} {h : List zO} {nc ns : Nat} (hf : zr op z S h nc ns = some r) : r.2.1 = h ∧ r.2.2.1 = nc ∧ r.2.2.2 = ns := by
  unfold zr at hf
  split at hf
  · obtain ⟨-, h2⟩ := ze_b hf
    cases h2; exact ⟨rfl, rfl, rfl⟩
  · obtain ⟨-, h2⟩ := ze_b hf
    cases h2; exact ⟨rfl, rfl, rfl⟩
  · cases hf
/-- where a row may go on -/
theorem zrow_mono {i : zI} {j : Nat} {ih : zN} {L : zL} {S : List Value} {h : List zO} {nc ns : Nat} (hih : ∀ {j : Nat} {L : zL} {S : List Value} {h : List zO} {nc ns : Nat}, ih j L S h nc ns = some r → nc ≤ r.2.2.1 ∧ ns ≤ r.2.2.2) (hf : zrow FD X d sc sw i j ih L S h nc ns = some r) : nc ≤ r.2.2.1 ∧ ns ≤ r.2.2.2 := by
  unfold zrow at hf
  rcases ze_cond hf with ⟨-, h1⟩ | ⟨-, h1⟩
  · obtain ⟨t, -, h2⟩ := ze_m h1
    exact hih h2
  rcases ze_cond h1 with ⟨-, h1⟩ | ⟨-, h1⟩
  · unfold znew at h1
    rcases ze_cond h1 with ⟨-, h2⟩ | ⟨-, h2⟩
    · obtain ⟨fs, -, h3⟩ := ze_n h2
      have := hih h3
      omega
    · obtain ⟨m, S', -, h3⟩ := ze_i h2
      obtain ⟨-, h4⟩ := ze_b h3
      have := hih h4
      omega
  rcases ze_cond h1 with ⟨-, h1⟩ | ⟨-, h1⟩
  · unfold zj at h1
    rcases ze_cond h1 with ⟨-, h2⟩ | ⟨-, h2⟩
    · obtain ⟨_, _, -, h3⟩ := ze_i h2
      exact hih h3
    rcases ze_cond h2 with ⟨-, h2⟩ | ⟨-, h2⟩
    · obtain ⟨_, _, -, h3⟩ := ze_i h2
      obtain ⟨_, _, -, h4⟩ := ze_i h3
      exact hih h4
    rcases ze_cond h2 with ⟨-, h2⟩ | ⟨-, h2⟩
    · exact hih h2
    · obtain ⟨_, _, -, h3⟩ := ze_i h2
      obtain ⟨w, -, h4⟩ := ze_n h3
      split at h4
      · exact hih h4
      · cases h4
  rcases ze_cond h1 with ⟨-, h1⟩ | ⟨-, h1⟩
  · obtain ⟨-, e1, e2⟩ := zr_counts h1
    omega
  rcases ze_cond h1 with ⟨-, h1⟩ | ⟨-, h1⟩
  · unfold zcall at h1
    obtain ⟨-, h2⟩ := ze_b h1
    rcases ze_cond h2 with ⟨-, h3⟩ | ⟨-, h3⟩
    · obtain ⟨-, h4⟩ := ze_b h3
      obtain ⟨R0, -, h5⟩ := ze_m h4
      have := hih h5
      omega
    · obtain ⟨_, _, -, h4⟩ := ze_r h3
      obtain ⟨-, h5⟩ := ze_b h4
      obtain ⟨R0, -, h6⟩ := ze_m h5
      have := hih h6
      omega
  · cases h1
theorem zl_mono : ∀ (n : Nat) {j : Nat} {L : zL} {S : List Value} {h : List zO} {nc ns : Nat}, zl FD X d sc code sw n j L S h nc ns = some r → nc ≤ r.2.2.1 ∧ ns ≤ r.2.2.2
  | 0, _, _, _, _, _, _, hf => nomatch hf
  | n + 1, j, L, S, h, nc, ns, hf => by
    obtain ⟨i, -, h1⟩ := ze_n (show zq_n code j (fun i => zrow FD X d sc sw i j (zl FD X d sc code sw n) L S h nc ns) = some r from hf)
    exact zrow_mono (fun hh => zl_mono n hh) h1
end ZM
def zh_go (p : Program) (l : Launch) (e : Env) (R : Room) (s : State) (m : MethodId) (args : Array Value) (below : List Frame) (meth : Method) (c : Code) (Q : State → Prop) (nL : Nat) (A : Nat → Prop) (E : Nat) (D : va_G) (W0 : va_W) (ih : zN) (j pc : Nat) (r : zR) : Prop :=
  ∀ (L : zL) (S : List Value) (h : List zO) (nc ns : Nat), ih j L S h nc ns = some r → zf_G p l e R s m args below meth c Q nL A E D W0 pc L S h nc ns
section ZF
variable {p : Program} {l : Launch} {e : Env} {R : Room} {s : State} {m : MethodId} {args : Array Value} {below : List Frame} {meth : Method} {c : Code} {Q : State → Prop} {cc : ByteArray} {nL : Nat} {own : String} {ini : Bool} {A : Nat → Prop} {E : Nat} {D : va_G} {W0 : va_W} {d : Nat} {sc : List Int32}
variable {code : List zI} {sw : List (List Nat)} {r : zR} {X : zX} {ih : zN} {j pc ln x y z w : Nat} {L : zL} {S : List Value} {h : List zO} {nc ns : Nat}
theorem zc_back {op : Nat} {as st : List Value} {S' : List Value} {ws : va_W} {ls : Array Slot} {st0 : List Value} {H : Heap} {locs : List Loc} {R0 : zR} {aa : Array Value} {lv : List (Nat × Value)} (r1 : lv_has ls nL lv) (r2 : zm_L E ws L lv) (q2 : xf_2 (zm_V E ws) S' st) (hS : va_S A s.heap H locs) (hM : xm_le W0 ws) (hr : va_Run p l e R s m args below meth c H locs nc ns R0.2.2.1 R0.2.2.2 (F0 m pc ls st0) st (zw_Q E D A ws R0 aa) A)
    (hnext : zh_go p l e R s m args below meth c Q nL A E D W0 ih (j + 1) (pc + 3) r) (hk : zback j ih L S' nc ns R0 = some r) : W p l e R s m args below meth c H locs nc ns Q (F0 m pc ls st0) := by
  refine za_run hr hS (fun v ws' tys' H1 locs1 hv hle hh hK hP hD hS1 => ?_)
  refine hnext _ _ _ _ _ hk _ _ _ _ ⟨ws', tys', lv, r1, zm_L_mono hle r2, ?_, hh, hK, hP, hD, hS1, xm_le_trans hM hle⟩
  refine xf_2_app ?_ (zm_S_mono hle q2)
  rcases hv with ⟨e1, rfl⟩ | ⟨x, y, e1, rfl, hxy⟩
  · rw [e1]; exact trivial
  · rw [e1]; exact xf_2_c (as := []) (bs := []) hxy trivial
theorem zc_call {op : Nat} (C : zf_C p R s m args meth c cc nL own ini A E d sc) (hop : op = 96 ∨ op = 97 ∨ op = 98 ∨ op = 99 ∨ op = 100) (hX : ∀ (k : Nat) (as : List Value) (h : List zO) (R0 : zR), X k as h = some R0 → ∃ d', d = d' + 1 ∧ zw_M l E D A sc d' k as h R0)
    (hd : decode cc pc = .ok (zins code sw (pc, ln, op, x, y, z, w), ln)) (hln : ln = 3) (hs : zsite own (op, x, y, z, w)) (hm : ∀ {j : Nat} {L : zL} {S : List Value} {h : List zO} {nc ns : Nat}, ih j L S h nc ns = some r → nc ≤ r.2.2.1 ∧ ns ≤ r.2.2.2)
    (hnext : zh_go p l e R s m args below meth c Q nL A E D W0 ih (j + 1) (pc + 3) r) (hf : zcall op x y z j X ih L S h nc ns = some r) (hc : r.2.2.1 ≤ R.cells) (hsl : r.2.2.2 ≤ R.slots) : zf_G p l e R s m args below meth c Q nL A E D W0 pc L S h nc ns := by
  subst hln
  intro ls stk H locs hR
  obtain ⟨ws, tys, lv, r1, r2, r3, r4, hK, hP, hD, hS, hM⟩ := hR
  unfold zcall at hf
  obtain ⟨hy, h1⟩ := ze_b hf
  have hy := Nat.le_of_ble_eq_true hy
  have hlen : (S.take y).reverse.length = y := by rw [List.length_reverse, List.length_take]; omega
  rcases ze_cond h1 with ⟨ho, h2⟩ | ⟨ho, h2⟩
  · have ho := Nat.le_of_ble_eq_true ho
    obtain ⟨h4, h3⟩ := ze_b h2
    have h4 := Nat.le_of_ble_eq_true h4
    obtain ⟨R0, hR0, hk⟩ := ze_m h3
    obtain ⟨d', rfl, hMt⟩ := hX _ _ _ _ hR0
    have hb := hm hk
    have h8 : nc + R0.2.2.1 ≤ R.cells := by omega
    have h9 : ns + R0.2.2.2 ≤ R.slots := by omega
    have r3' : xf_2 (zm_V E ws) ((S.take y).reverse.reverse ++ S.drop y) stk := by rw [List.reverse_reverse, List.take_append_drop]; exact r3
    have hst : zs_c96 own w x y ∨ zs_c97 own w x y := by
      rcases hop with rfl | rfl | rfl | rfl | rfl
      · exact Or.inl hs
      · exact Or.inr hs
      all_goals omega
    have hd' : decode cc pc = .ok (.invokestatic w, 3) := by
      rcases hop with rfl | rfl | rfl | rfl | rfl
      · exact hd
      · exact hd
      all_goals omega
    obtain ⟨st, aa, q2, hr⟩ := zn_stat C hst hd' hlen h4 hMt h8 h9 r1 r3' r4 hK hP hD hS
    exact zc_back (op := op) (as := []) r1 r2 q2 hS hM hr hnext hk
  · have ho : 97 < op := by
      rcases Nat.lt_or_ge 97 op with q | q
      · exact q
      · rw [Nat.ble_eq_true_of_le q] at ho; cases ho
    obtain ⟨o, S', hS', h3⟩ := ze_r h2
    obtain ⟨h4, h5⟩ := ze_b h3
    obtain ⟨h6, h7⟩ := ze_and h4
    have h6 := Nat.le_of_ble_eq_true h6
    obtain ⟨es, hh⟩ := zisO_of h7
    obtain ⟨R0, hR0, hk⟩ := ze_m h5
    obtain ⟨d', rfl, hMt⟩ := hX _ _ _ _ hR0
    have hb := hm hk
    have h8 : nc + R0.2.2.1 ≤ R.cells := by omega
    have h9 : ns + R0.2.2.2 ≤ R.slots := by omega
    have r3' : xf_2 (zm_V E ws) ((S.take y).reverse.reverse ++ (.ref o :: S')) stk := by rw [List.reverse_reverse, ← hS', List.take_append_drop]; exact r3
    rcases (show op = 98 ∨ op = 99 ∨ op = 100 by omega) with rfl | rfl | rfl
    · obtain ⟨st, aa, q2, hr⟩ := zn_init C (Or.inl hs) hd hlen h6 hh hMt h8 h9 r1 r3' r4 hK hP hD hS
      exact zc_back (op := 98) (as := []) r1 r2 q2 hS hM hr hnext hk
    · obtain ⟨st, aa, q2, hr⟩ := zn_init C (Or.inr hs) hd hlen h6 hh hMt h8 h9 r1 r3' r4 hK hP hD hS
      exact zc_back (op := 99) (as := []) r1 r2 q2 hS hM hr hnext hk
    · obtain ⟨st, aa, q2, hr⟩ := zn_virt C hs hd hlen h6 hh hMt h8 h9 r1 r3' r4 hK hP hD hS
      exact zc_back (op := 100) (as := []) r1 r2 q2 hS hM hr hnext hk
end ZF
