/-! the law's own methods: a run with what holds after it; n cells and q slots so far -/
def hG (sc : List Int32) (C : List zI) (W : List (List Nat)) (dd j : Nat) (L : zL) (S : List Value) (n q : Nat) (H : Nat → zO) (Q : Option Value → Nat → Nat → (Nat → zO) → Prop) : Prop :=
  ∃ v n' H' q', zG sc C W n dd j L S H v n' H' q' ∧ Q v n' (q + q') H'
def hP (sc : List Int32) (dd k : Nat) (as : List Value) (n q : Nat) (H : Nat → zO) (Q : Option Value → Nat → Nat → (Nat → zO) → Prop) : Prop :=
  ∃ v n' H' q', zP sc n dd k as H v n' H' q' ∧ Q v n' (q + q') H'
section HrA
variable {sc : List Int32} {C : List zI} {W : List (List Nat)} {n q dd j : Nat} {L L1 : zL} {S S1 : List Value} {H H1 : Nat → zO} {Q Q' : Option Value → Nat → Nat → (Nat → zO) → Prop} {pc ln op x y z w a m t k : Nat} {fs as : List Value} {u : Value} {v b c i : Int} {xs ys : List Int32}
theorem h_lift {j1 : Nat} (h : hG sc C W dd j1 L1 S1 n q H1 Q) (hf : ∀ v n' H' q', zG sc C W n dd j1 L1 S1 H1 v n' H' q' → zG sc C W n dd j L S H v n' H' q') : hG sc C W dd j L S n q H Q := by
  obtain ⟨v, n', H', q', h1, h2⟩ := h
  exact ⟨v, n', H', q', hf _ _ _ _ h1, h2⟩
theorem h_mono (h : hG sc C W dd j L S n q H Q) (hq : ∀ v n' q' H', Q v n' q' H' → Q' v n' q' H') : hG sc C W dd j L S n q H Q' := by
  obtain ⟨v, n', H', q', h1, h2⟩ := h
  exact ⟨v, n', H', q', h1, hq _ _ _ _ h2⟩
theorem hP_mono (h : hP sc dd k as n q H Q) (hq : ∀ v n' q' H', Q v n' q' H' → Q' v n' q' H') : hP sc dd k as n q H Q' := by
  obtain ⟨v, n', H', q', h1, h2⟩ := h
  exact ⟨v, n', H', q', h1, hq _ _ _ _ h2⟩
theorem hP_dd {dd' : Nat} (hd : dd ≤ dd') (h : hP sc dd k as n q H Q) : hP sc dd' k as n q H Q := by
  obtain ⟨v, n', H', q', h1, h2⟩ := h
  exact ⟨v, n', H', q', zP_mono hd h1, h2⟩
theorem hP_z {v : Option Value} (h : zP sc n dd k as H v n H 0) (hq : Q v n q H) : hP sc dd k as n q H Q := ⟨v, n, H, 0, h, hq⟩
theorem h_ic (hc : C[j]? = some (pc, ln, op, x, y, z, w)) (ho : op = 0 ∨ op = 1 ∨ op = 2 ∨ op = 111) (hv : zc x = yi b) (hk : hG sc C W dd (j + 1) L (.int (yi b) :: S) n q H Q) : hG sc C W dd j L S n q H Q := h_lift hk fun _ _ _ _ h => r_ic hc ho hv h
theorem h_ld (hc : C[j]? = some (pc, ln, op, x, y, z, w)) (ho : (t = 0 ∧ (op = 6 ∨ op = 7)) ∨ (t = 2 ∧ (op = 8 ∨ op = 9)) ∨ (t = 3 ∧ (op = 10 ∨ op = 11))) (hl : L x = some u) (hz : zfit t u = true) (hk : hG sc C W dd (j + 1) L (u :: S) n q H Q) : hG sc C W dd j L S n q H Q := h_lift hk fun _ _ _ _ h => r_ld hc ho hl hz h
theorem h_st (hc : C[j]? = some (pc, ln, op, x, y, z, w)) (ho : (t = 0 ∧ (op = 14 ∨ op = 15)) ∨ (t = 2 ∧ (op = 16 ∨ op = 17))) (hz : zfit t u = true) (hk : hG sc C W dd (j + 1) (zL_set L x u) S n q H Q) : hG sc C W dd j L (u :: S) n q H Q := h_lift hk fun _ _ _ _ h => r_st hc ho hz h
theorem h_lst {p : Int64} (hc : C[j]? = some (pc, ln, op, x, y, z, w)) (ho : op = 18 ∨ op = 19) (hk : hG sc C W dd (j + 1) (zL_set2 L x (.long p)) S n q H Q) : hG sc C W dd j L (.long p :: S) n q H Q := h_lift hk fun _ _ _ _ h => r_lst hc ho h
theorem h_inc (hc : C[j]? = some (pc, ln, 22, x, y, z, w)) (hl : L x = some (.int (yi b))) (hv : zc y = yi c) (hk : hG sc C W dd (j + 1) (zL_set L x (.int (yi (b + c)))) S n q H Q) : hG sc C W dd j L S n q H Q := h_lift hk fun _ _ _ _ h => r_inc hc hl hv (by rw [yi_add]; exact h)
theorem h_add (hc : C[j]? = some (pc, ln, 23, x, y, z, w)) (hk : hG sc C W dd (j + 1) L (.int (yi (b + c)) :: S) n q H Q) : hG sc C W dd j L (.int (yi c) :: .int (yi b) :: S) n q H Q := h_lift hk fun _ _ _ _ h => r_bin hc (by decide) (by show zG sc C W n dd (j + 1) L (.int (yi b + yi c) :: S) H _ _ _ _; rw [yi_add]; exact h)
theorem h_sub (hc : C[j]? = some (pc, ln, 24, x, y, z, w)) (hk : hG sc C W dd (j + 1) L (.int (yi (b - c)) :: S) n q H Q) : hG sc C W dd j L (.int (yi c) :: .int (yi b) :: S) n q H Q := h_lift hk fun _ _ _ _ h => r_bin hc (by decide) (by show zG sc C W n dd (j + 1) L (.int (yi b - yi c) :: S) H _ _ _ _; rw [show yi b - yi c = yi (b - c) from (Int32.ofInt_sub b c).symm]; exact h)
/-- any of the other operations: some number -/
theorem h_bin (hc : C[j]? = some (pc, ln, op, x, y, z, w)) (ho : op = 23 ∨ op = 24 ∨ op = 25 ∨ op = 26 ∨ op = 27 ∨ op = 28 ∨ op = 104 ∨ op = 105) (hk : ∀ d : Int, yi d = zbin op (yi b) (yi c) → hG sc C W dd (j + 1) L (.int (yi d) :: S) n q H Q) : hG sc C W dd j L (.int (yi c) :: .int (yi b) :: S) n q H Q := h_lift (hk (zbin op (yi b) (yi c)).toInt yi_w) fun _ _ _ _ h => r_bin hc ho (by rw [yi_w] at h; exact h)
theorem h_go (hc : C[j]? = some (pc, ln, 80, x, y, z, w)) (hk : hG sc C W dd x L S n q H Q) : hG sc C W dd j L S n q H Q := h_lift hk fun _ _ _ _ h => g_go hc h
theorem h_br {p : Nat} {a : Int32} (hq : p ≤ 5) (hc : C[j]? = some (pc, ln, 64 + p, x, y, z, w)) (ht : zrel p a 0 = true → hG sc C W dd x L S n q H Q) (hf : zrel p a 0 = false → hG sc C W dd (j + 1) L S n q H Q) : hG sc C W dd j L (.int a :: S) n q H Q := by
  cases e : zrel p a 0 with
  | true => exact h_lift (ht e) fun _ _ _ _ h => g_br hq hc (fun _ => h) (fun e' => by rw [e] at e'; cases e')
  | false => exact h_lift (hf e) fun _ _ _ _ h => g_br hq hc (fun e' => by rw [e] at e'; cases e') (fun _ => h)
theorem h_cmp {p : Nat} {a b : Int32} (hq : p ≤ 5) (hc : C[j]? = some (pc, ln, 70 + p, x, y, z, w)) (ht : zrel p a b = true → hG sc C W dd x L S n q H Q) (hf : zrel p a b = false → hG sc C W dd (j + 1) L S n q H Q) : hG sc C W dd j L (.int b :: .int a :: S) n q H Q := by
  cases e : zrel p a b with
  | true => exact h_lift (ht e) fun _ _ _ _ h => g_cmp hq hc (fun _ => h) (fun e' => by rw [e] at e'; cases e')
  | false => exact h_lift (hf e) fun _ _ _ _ h => g_cmp hq hc (fun e' => by rw [e] at e'; cases e') (fun _ => h)
theorem h_b0 (hc : C[j]? = some (pc, ln, 64, x, y, z, w)) (hb : ysm b) (ht : b = 0 → hG sc C W dd x L S n q H Q) (hf : b ≠ 0 → hG sc C W dd (j + 1) L S n q H Q) : hG sc C W dd j L (.int (yi b) :: S) n q H Q :=
  h_br (p := 0) (by decide) hc (fun e => ht (of_decide_eq_true ((rel0 hb ⟨by decide, by decide⟩).symm.trans e))) (fun e => hf (of_decide_eq_false ((rel0 hb ⟨by decide, by decide⟩).symm.trans e)))
theorem h_b1 (hc : C[j]? = some (pc, ln, 65, x, y, z, w)) (hb : ysm b) (ht : b ≠ 0 → hG sc C W dd x L S n q H Q) (hf : b = 0 → hG sc C W dd (j + 1) L S n q H Q) : hG sc C W dd j L (.int (yi b) :: S) n q H Q :=
  h_br (p := 1) (by decide) hc (fun e => ht (fun h => by have e2 := (rel1 hb (y := 0) ⟨by decide, by decide⟩).symm.trans e; rw [decide_eq_true h] at e2; cases e2)) (fun e => hf (Classical.byContradiction fun h => by have e2 := (rel1 hb (y := 0) ⟨by decide, by decide⟩).symm.trans e; rw [decide_eq_false h] at e2; cases e2))
theorem h_b2 (hc : C[j]? = some (pc, ln, 66, x, y, z, w)) (hb : ysm b) (ht : b < 0 → hG sc C W dd x L S n q H Q) (hf : 0 ≤ b → hG sc C W dd (j + 1) L S n q H Q) : hG sc C W dd j L (.int (yi b) :: S) n q H Q :=
  h_br (p := 2) (by decide) hc (fun e => ht (of_decide_eq_true ((rel2 hb ⟨by decide, by decide⟩).symm.trans e))) (fun e => hf (by have := of_decide_eq_false ((rel2 hb (y := 0) ⟨by decide, by decide⟩).symm.trans e); omega))
theorem h_b3 (hc : C[j]? = some (pc, ln, 67, x, y, z, w)) (hb : ysm b) (ht : 0 ≤ b → hG sc C W dd x L S n q H Q) (hf : b < 0 → hG sc C W dd (j + 1) L S n q H Q) : hG sc C W dd j L (.int (yi b) :: S) n q H Q :=
  h_br (p := 3) (by decide) hc (fun e => ht (of_decide_eq_true ((rel3 hb ⟨by decide, by decide⟩).symm.trans e))) (fun e => hf (by have := of_decide_eq_false ((rel3 hb (y := 0) ⟨by decide, by decide⟩).symm.trans e); omega))
theorem h_b4 (hc : C[j]? = some (pc, ln, 68, x, y, z, w)) (hb : ysm b) (ht : 0 < b → hG sc C W dd x L S n q H Q) (hf : b ≤ 0 → hG sc C W dd (j + 1) L S n q H Q) : hG sc C W dd j L (.int (yi b) :: S) n q H Q :=
  h_br (p := 4) (by decide) hc (fun e => ht (of_decide_eq_true ((rel4 hb ⟨by decide, by decide⟩).symm.trans e))) (fun e => hf (by have := of_decide_eq_false ((rel4 hb (y := 0) ⟨by decide, by decide⟩).symm.trans e); omega))
theorem h_b5 (hc : C[j]? = some (pc, ln, 69, x, y, z, w)) (hb : ysm b) (ht : b ≤ 0 → hG sc C W dd x L S n q H Q) (hf : 0 < b → hG sc C W dd (j + 1) L S n q H Q) : hG sc C W dd j L (.int (yi b) :: S) n q H Q :=
  h_br (p := 5) (by decide) hc (fun e => ht (of_decide_eq_true ((rel5 hb ⟨by decide, by decide⟩).symm.trans e))) (fun e => hf (by have := of_decide_eq_false ((rel5 hb (y := 0) ⟨by decide, by decide⟩).symm.trans e); omega))
theorem h_c0 (hc : C[j]? = some (pc, ln, 70, x, y, z, w)) (hb : ysm b ∧ ysm c) (ht : b = c → hG sc C W dd x L S n q H Q) (hf : b ≠ c → hG sc C W dd (j + 1) L S n q H Q) : hG sc C W dd j L (.int (yi c) :: .int (yi b) :: S) n q H Q :=
  h_cmp (p := 0) (by decide) hc (fun e => ht (of_decide_eq_true ((rel0 hb.1 hb.2).symm.trans e))) (fun e => hf (of_decide_eq_false ((rel0 hb.1 hb.2).symm.trans e)))
theorem h_c1 (hc : C[j]? = some (pc, ln, 71, x, y, z, w)) (hb : ysm b ∧ ysm c) (ht : b ≠ c → hG sc C W dd x L S n q H Q) (hf : b = c → hG sc C W dd (j + 1) L S n q H Q) : hG sc C W dd j L (.int (yi c) :: .int (yi b) :: S) n q H Q :=
  h_cmp (p := 1) (by decide) hc (fun e => ht (fun h => by have e2 := (rel1 hb.1 hb.2).symm.trans e; rw [decide_eq_true h] at e2; cases e2)) (fun e => hf (Classical.byContradiction fun h => by have e2 := (rel1 hb.1 hb.2).symm.trans e; rw [decide_eq_false h] at e2; cases e2))
theorem h_c2 (hc : C[j]? = some (pc, ln, 72, x, y, z, w)) (hb : ysm b ∧ ysm c) (ht : b < c → hG sc C W dd x L S n q H Q) (hf : c ≤ b → hG sc C W dd (j + 1) L S n q H Q) : hG sc C W dd j L (.int (yi c) :: .int (yi b) :: S) n q H Q :=
  h_cmp (p := 2) (by decide) hc (fun e => ht (of_decide_eq_true ((rel2 hb.1 hb.2).symm.trans e))) (fun e => hf (by have := of_decide_eq_false ((rel2 hb.1 hb.2).symm.trans e); omega))
theorem h_c3 (hc : C[j]? = some (pc, ln, 73, x, y, z, w)) (hb : ysm b ∧ ysm c) (ht : c ≤ b → hG sc C W dd x L S n q H Q) (hf : b < c → hG sc C W dd (j + 1) L S n q H Q) : hG sc C W dd j L (.int (yi c) :: .int (yi b) :: S) n q H Q :=
  h_cmp (p := 3) (by decide) hc (fun e => ht (of_decide_eq_true ((rel3 hb.1 hb.2).symm.trans e))) (fun e => hf (by have := of_decide_eq_false ((rel3 hb.1 hb.2).symm.trans e); omega))
theorem h_c4 (hc : C[j]? = some (pc, ln, 74, x, y, z, w)) (hb : ysm b ∧ ysm c) (ht : c < b → hG sc C W dd x L S n q H Q) (hf : b ≤ c → hG sc C W dd (j + 1) L S n q H Q) : hG sc C W dd j L (.int (yi c) :: .int (yi b) :: S) n q H Q :=
  h_cmp (p := 4) (by decide) hc (fun e => ht (of_decide_eq_true ((rel4 hb.1 hb.2).symm.trans e))) (fun e => hf (by have := of_decide_eq_false ((rel4 hb.1 hb.2).symm.trans e); omega))
theorem h_c5 (hc : C[j]? = some (pc, ln, 75, x, y, z, w)) (hb : ysm b ∧ ysm c) (ht : b ≤ c → hG sc C W dd x L S n q H Q) (hf : c < b → hG sc C W dd (j + 1) L S n q H Q) : hG sc C W dd j L (.int (yi c) :: .int (yi b) :: S) n q H Q :=
  h_cmp (p := 5) (by decide) hc (fun e => ht (of_decide_eq_true ((rel5 hb.1 hb.2).symm.trans e))) (fun e => hf (by have := of_decide_eq_false ((rel5 hb.1 hb.2).symm.trans e); omega))
theorem h_iret {a : Value} (hc : C[j]? = some (pc, ln, 85, x, y, z, w)) (hz : zfit z a = true) (hq : Q (some a) n q H) : hG sc C W dd j L [a] n q H Q := ⟨_, _, _, _, g_iret hc hz, hq⟩
theorem h_aret {a : Value} (hc : C[j]? = some (pc, ln, 86, x, y, z, w)) (hz : zfit 2 a = true) (hq : Q (some a) n q H) : hG sc C W dd j L [a] n q H Q := ⟨_, _, _, _, g_aret hc hz, hq⟩
theorem h_vret (hc : C[j]? = some (pc, ln, 84, x, y, z, w)) (hq : Q none n q H) : hG sc C W dd j L [] n q H Q := ⟨_, _, _, _, g_vret hc, hq⟩
theorem h_stat {P : Option Value → Nat → Nat → (Nat → zO) → Prop} (hc : C[j]? = some (pc, ln, op, x, y, z, w)) (ho : op = 96 ∨ op = 97) (hl : as.length = y) (h4 : zwd S ≤ 8) (hp : hP sc dd x as n q H P) (hk : ∀ u n1 q1 H1, P u n1 q1 H1 → hG sc C W dd (j + 1) L (u.toList ++ S) n1 q1 H1 Q) : hG sc C W dd j L (as.reverse ++ S) n q H Q := by
  obtain ⟨u, n1, H1, q1, h1, h2⟩ := hp
  obtain ⟨v, n', H', q', h3, h5⟩ := hk u n1 (q + q1) H1 h2
  exact ⟨v, n', H', q1 + q', g_stat hc ho hl h4 h1 h3, by rw [← Nat.add_assoc]; exact h5⟩
theorem h_obj {P : Option Value → Nat → Nat → (Nat → zO) → Prop} (hc : C[j]? = some (pc, ln, op, x, y, z, w)) (ho : op = 98 ∨ op = 99 ∨ op = 100) (hl : as.length = y) (h4 : zwd S ≤ 8) (ha : a < n) (hH : H a = .inl (z, fs)) (hp : hP sc dd x (.ref a :: as) n q H P) (hk : ∀ u n1 q1 H1, P u n1 q1 H1 → hG sc C W dd (j + 1) L (u.toList ++ S) n1 q1 H1 Q) : hG sc C W dd j L (as.reverse ++ .ref a :: S) n q H Q := by
  obtain ⟨u, n1, H1, q1, h1, h2⟩ := hp
  obtain ⟨v, n', H', q', h3, h5⟩ := hk u n1 (q + q1) H1 h2
  exact ⟨v, n', H', q1 + q', g_obj hc ho hl h4 ha hH h1 h3, by rw [← Nat.add_assoc]; exact h5⟩
theorem h_meth {k ml : Nat} {g : List zM} (hg : zg_MT[k / 16]? = some g) (ht : g[k % 16]? = some (C, W, ml)) (hs : zsz as ≤ ml) (hk : hG sc C W dd 0 (zargs 0 as) [] n q H Q) : hP sc (dd + 1) k as n q H Q := by
  obtain ⟨v, n', H', q', h1, h2⟩ := hk
  exact ⟨v, n', H', q', g_meth hg ht hs h1, h2⟩
theorem h_newA (hc : C[j]? = some (pc, ln, op, x, y, z, w)) (ho : op = 57 ∨ op = 58) (hm : m ≤ 1048576) (hk : hG sc C W dd (j + 1) L (.ref n :: S) (n + 1) (q + m) (zU H n (zdef x m)) Q) : hG sc C W dd j L (.int (yi (m : Int)) :: S) n q H Q := by
  obtain ⟨v, n', H', q', h1, h2⟩ := hk
  have e : (yi (m : Int)).toInt = (m : Int) := yw_of (by omega) (by omega)
  refine ⟨v, n', H', m + q', ?_, by rw [← Nat.add_assoc]; exact h2⟩
  have := g_newA (m := yi (m : Int)) hc ho (by rw [e]; omega) (by rw [e]; omega) (by rw [e, Int.toNat_natCast]; exact h1)
  rw [e, Int.toNat_natCast] at this
  exact this
theorem h_newO (hc : C[j]? = some (pc, ln, 56, x, y, z, w)) (hf : zg_FD[x]? = some fs) (hk : hG sc C W dd (j + 1) L (.ref n :: S) (n + 1) (q + fs.length) (zU H n (.inl (x, fs))) Q) : hG sc C W dd j L S n q H Q := by
  obtain ⟨v, n', H', q', h1, h2⟩ := hk
  exact ⟨v, n', H', fs.length + q', g_newO hc hf h1, by rw [← Nat.add_assoc]; exact h2⟩
theorem h_get (hc : C[j]? = some (pc, ln, 38, x, y, z, w)) (ha : a < n) (hH : H a = .inl (x, fs)) (hf : fs[y]? = some u) (hk : hG sc C W dd (j + 1) L (u :: S) n q H Q) : hG sc C W dd j L (.ref a :: S) n q H Q := h_lift hk fun _ _ _ _ h => r_get hc ha hH hf h
theorem h_put (hc : C[j]? = some (pc, ln, op, x, y, z, w)) (ho : op = 40 ∨ op = 41) (ha : a < n) (hH : H a = .inl (x, fs)) (hf : y < fs.length) (hz : zfit z u = true) (hk : hG sc C W dd (j + 1) L S n q (zU H a (.inl (x, fs.set y u))) Q) : hG sc C W dd j L (u :: .ref a :: S) n q H Q := h_lift hk fun _ _ _ _ h => r_put hc ho ha hH hf hz h
theorem h_iald {b : Int32} (hc : C[j]? = some (pc, ln, 42, x, y, z, w)) (ha : a < n) (hH : H a = .inr (.inl xs)) (hk32 : k ≤ 1048576) (h1 : xs[k]? = some b) (hk : hG sc C W dd (j + 1) L (.int b :: S) n q H Q) : hG sc C W dd j L (.int (yi (k : Int)) :: .ref a :: S) n q H Q := by
  have e : (yi (k : Int)).toInt = (k : Int) := yw_of (by omega) (by omega)
  exact h_lift hk fun _ _ _ _ h => r_iald hc ha hH (by rw [e]; omega) (by rw [e, Int.toNat_natCast]; exact h1) h
theorem h_sald {b : Int32} {p : Nat} (hc : C[j]? = some (pc, ln, 42, x, y, z, w)) (hk32 : k ≤ 1048576) (h1 : sc[k]? = some b) (hk : hG sc C W dd (j + 1) L (.int b :: S) n q H Q) : hG sc C W dd j L (.int (yi (k : Int)) :: .retAddr p :: S) n q H Q := by
  have e : (yi (k : Int)).toInt = (k : Int) := yw_of (by omega) (by omega)
  exact h_lift hk fun _ _ _ _ h => r_sald (q := p) hc (by rw [e]; omega) (by rw [e, Int.toNat_natCast]; exact h1) h
theorem h_iast {b : Int32} (hc : C[j]? = some (pc, ln, 43, x, y, z, w)) (ha : a < n) (hH : H a = .inr (.inl xs)) (hk32 : k ≤ 1048576) (h1 : k < xs.length) (hk : hG sc C W dd (j + 1) L S n q (zU H a (.inr (.inl (xs.set k b)))) Q) : hG sc C W dd j L (.int b :: .int (yi (k : Int)) :: .ref a :: S) n q H Q := by
  have e : (yi (k : Int)).toInt = (k : Int) := yw_of (by omega) (by omega)
  exact h_lift hk fun _ _ _ _ h => r_iast hc ha hH (by rw [e]; omega) (by rw [e]; omega) (by rw [e, Int.toNat_natCast]; exact h)
theorem h_aald {ys : List (Option Nat)} {p : Option Nat} (hc : C[j]? = some (pc, ln, 46, x, y, z, w)) (ha : a < n) (hH : H a = .inr (.inr (.inr (t, ys)))) (hk32 : k ≤ 1048576) (h1 : ys[k]? = some p) (hk : hG sc C W dd (j + 1) L (zrf p :: S) n q H Q) : hG sc C W dd j L (.int (yi (k : Int)) :: .ref a :: S) n q H Q := by
  have e : (yi (k : Int)).toInt = (k : Int) := yw_of (by omega) (by omega)
  exact h_lift hk fun _ _ _ _ h => r_aald hc ha hH (by rw [e]; omega) (by rw [e, Int.toNat_natCast]; exact h1) h
theorem h_alen (hc : C[j]? = some (pc, ln, 48, x, y, z, w)) (ha : a < n) (hH : zlen (H a) = some m) (hk : hG sc C W dd (j + 1) L (.int (yi (m : Int)) :: S) n q H Q) : hG sc C W dd j L (.ref a :: S) n q H Q := h_lift hk fun _ _ _ _ h => r_alen hc ha hH h
theorem h_slen {p : Nat} (hc : C[j]? = some (pc, ln, 48, x, y, z, w)) (hk : hG sc C W dd (j + 1) L (.int (yi (sc.length : Int)) :: S) n q H Q) : hG sc C W dd j L (.retAddr p :: S) n q H Q := h_lift hk fun _ _ _ _ h => r_slen hc h
theorem h_dup (hc : C[j]? = some (pc, ln, 34, x, y, z, w)) (hu : (∃ q, u = .int q) ∨ ∃ q, u = .ref q) (hk : hG sc C W dd (j + 1) L (u :: u :: S) n q H Q) : hG sc C W dd j L (u :: S) n q H Q := h_lift hk fun _ _ _ _ h => r_dup hc hu h
end HrA
