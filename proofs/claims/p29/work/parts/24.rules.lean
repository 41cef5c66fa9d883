/-! rules over the numbers alone: yW a frame from a row on, yP a method; r: what comes out (the numbers, the code's cell, the answer), or none, and then nothing is claimed -/
abbrev yR : Type := yM × Nat × Option Value
def yok (M : yM) (n tr : Nat) : Prop := 416 ≤ n ∧ (tr = 22 ∨ 416 ≤ tr) ∧ tr < n ∧ 0 ≤ M 21 2 ∧ M 21 2 ≤ 1048576
def yext (M : yM) (n tr : Nat) (T : Nat → zO) (M' : yM) (n' tr' : Nat) (T' : Nat → zO) (q : Nat) : Prop :=
  n ≤ n' ∧ yok M' n' tr' ∧ (∀ a, 416 ≤ a → a < n → a ≠ tr → T' a = T a) ∧ (tr' = tr ∨ n ≤ tr') ∧ (n' : Int) - n ≤ M' 21 2 - M 21 2 ∧ (q : Int) ≤ 2 * (M' 21 2 - M 21 2)
theorem yext_refl {M : yM} {n tr : Nat} {T : Nat → zO} (h : yok M n tr) : yext M n tr T M n tr T 0 := ⟨Nat.le_refl n, h, fun _ _ _ _ => rfl, Or.inl rfl, by omega, by omega⟩
theorem yext_trans {M M1 M2 : yM} {n tr n1 tr1 n2 tr2 q1 q2 : Nat} {T T1 T2 : Nat → zO} (h1 : yext M n tr T M1 n1 tr1 T1 q1) (h2 : yext M1 n1 tr1 T1 M2 n2 tr2 T2 q2) : yext M n tr T M2 n2 tr2 T2 (q1 + q2) := by
  obtain ⟨a1, a2, a3, a4, a5, a6⟩ := h1
  obtain ⟨b1, b2, b3, b4, b5, b6⟩ := h2
  refine ⟨by omega, b2, fun a h0 h3 h4 => ?_, ?_, by omega, by omega⟩
  · rw [b3 a h0 (by omega) (by omega), a3 a h0 h3 h4]
  · omega
theorem yext_pre {M M1 M2 : yM} {n tr n2 tr2 q : Nat} {T T2 : Nat → zO} (e : M1 21 2 = M 21 2) (h : yext M1 n tr T M2 n2 tr2 T2 q) : yext M n tr T M2 n2 tr2 T2 q := by
  obtain ⟨a1, a2, a3, a4, a5, a6⟩ := h
  exact ⟨a1, a2, a3, a4, by omega, by omega⟩
def yW (sc : List Int32) (C : List zI) (W : List (List Nat)) (dd j : Nat) (L : zL) (S : List Value) (M : yM) (cc : Nat) (r : Option yR) : Prop :=
  ∀ M' cc' v, r = some (M', cc', v) → ∀ n tr T, yok M n tr → ∃ n' tr' T' q, yext M n tr T M' n' tr' T' q ∧ zG sc C W n dd j L S (yst M cc tr T) v n' (yst M' cc' tr' T') q
def yP (sc : List Int32) (dd k : Nat) (as : List Value) (M : yM) (cc : Nat) (r : Option yR) : Prop :=
  ∀ M' cc' v, r = some (M', cc', v) → ∀ n tr T, yok M n tr → ∃ n' tr' T' q, yext M n tr T M' n' tr' T' q ∧ zP sc n dd k as (yst M cc tr T) v n' (yst M' cc' tr' T') q
theorem yP_mono {sc : List Int32} {dd dd' k : Nat} {as : List Value} {M : yM} {cc : Nat} {r : Option yR} (hd : dd ≤ dd') (h : yP sc dd k as M cc r) : yP sc dd' k as M cc r := by
  intro M' cc' v hr n tr T hok
  obtain ⟨n', tr', T', q, h1, h2⟩ := h M' cc' v hr n tr T hok
  exact ⟨n', tr', T', q, h1, zP_mono hd h2⟩
theorem y_none {sc : List Int32} {C : List zI} {W : List (List Nat)} {dd j : Nat} {L : zL} {S : List Value} {M : yM} {cc : Nat} : yW sc C W dd j L S M cc none := by
  intro M' cc' v hr
  cases hr
/-- two ints to one -/
def ybin (op : Nat) (b c : Int) : Int := (zbin op (yi b) (yi c)).toInt
def yrel (q : Nat) (a b : Int) : Bool := zrel q (yi a) (yi b)
def ydiv (a b : Int) : Int := (yi a / yi b).toInt
/-- at, put, increment -/
def yrd (M : yM) (a : Nat) (k : Int) : Int := if 0 ≤ yw k ∧ (yw k).toNat < yln a then M a (yw k).toNat else 0
def ywr (M : yM) (a : Nat) (k x : Int) : yM := if 0 ≤ yw k ∧ (yw k).toNat < yln a then yU M a (yw k).toNat x else M
theorem yln_le {a : Nat} : yln a ≤ 3000 := by
  have h : ∀ (b : Bool) (x y : Nat), x ≤ 3000 → y ≤ 3000 → cond b x y ≤ 3000 := fun b x y hx hy => by cases b <;> assumption
  have h1 : ∀ o, ylm o ≤ 3000 := fun o => h _ _ _ (h _ _ _ (by omega) (h _ _ _ (by omega) (h _ _ _ (by omega) (h _ _ _ (by omega) (by omega))))) (h _ _ _ (h _ _ _ (by omega) (h _ _ _ (by omega) (h _ _ _ (by omega) (by omega)))) (h _ _ _ (by omega) (h _ _ _ (by omega) (by omega))))
  exact h _ _ _ (h _ _ _ (by omega) (h _ _ _ (by omega) (h _ _ _ (by omega) (by omega)))) (h _ _ _ (h _ _ _ (by omega) (by omega)) (h _ _ _ (h _ _ _ (by omega) (h _ _ _ (by omega) (by omega))) (h _ _ _ (h1 _) (h1 _))))
theorem zrd_row {f : Nat → Int} {n : Nat} {k : Int} : zrd (yrow f n) (yi k) = yi (if 0 ≤ yw k ∧ (yw k).toNat < n then f (yw k).toNat else 0) := by
  unfold zrd
  show (if 0 ≤ yw k then (yrow f n).getD (yw k).toNat 0 else 0) = _
  by_cases h0 : 0 ≤ yw k
  · rw [if_pos h0, List.getD_eq_getElem?_getD]
    by_cases h1 : (yw k).toNat < n
    · rw [yrow_get h1, if_pos ⟨h0, h1⟩]; rfl
    · rw [List.getElem?_eq_none (by rw [yrow_len]; omega), if_neg (fun q => h1 q.2)]; rfl
  · rw [if_neg h0, if_neg (fun q => h0 q.1)]; rfl
theorem zwr_row {f : Nat → Int} {n : Nat} {k x : Int} : zwr (yrow f n) (yi k) (yi x) = if 0 ≤ yw k ∧ (yw k).toNat < n then (yrow f n).set (yw k).toNat (yi x) else yrow f n := by
  unfold zwr
  show (if 0 ≤ yw k then (yrow f n).set (yw k).toNat (yi x) else _) = _
  by_cases h0 : 0 ≤ yw k
  · rw [if_pos h0]
    by_cases h1 : (yw k).toNat < n
    · rw [if_pos ⟨h0, h1⟩]
    · rw [if_neg (fun q => h1 q.2), List.set_eq_of_length_le (by rw [yrow_len]; omega)]
  · rw [if_neg h0, if_neg (fun q => h0 q.1)]
theorem zU_same {H : Nat → zO} {a : Nat} {x : zO} (h : H a = x) : zU H a x = H := by
  funext b
  unfold zU
  by_cases hb : b = a
  · rw [if_pos hb, hb, h]
  · rw [if_neg hb]
theorem yst_wr {M : yM} {cc tr : Nat} {T : Nat → zO} {a : Nat} {k x : Int} (h : zisN a = true) : zU (yst M cc tr T) a (.inr (.inl (zwr (yrow (M a) (yln a)) (yi k) (yi x)))) = yst (ywr M a k x) cc tr T := by
  rw [zwr_row]
  unfold ywr
  by_cases h1 : 0 ≤ yw k ∧ (yw k).toNat < yln a
  · rw [if_pos h1, if_pos h1, yst_setA h]
  · rw [if_neg h1, if_neg h1, zU_same (yst_num h)]
theorem ywr_21 {M : yM} {a : Nat} {k x : Int} (h : zisN a = true) : ywr M a k x 21 2 = M 21 2 := by
  unfold ywr
  by_cases h1 : 0 ≤ yw k ∧ (yw k).toNat < yln a
  · rw [if_pos h1, yU_ne (fun q => (zisN_ne h).1 q.1.symm)]
  · rw [if_neg h1]
/-- a way through one number of a row of references -/
def yox {β : Type} (i : Int) (n : Nat) (K : Nat → Option β) : Option β := if 0 ≤ yw i ∧ (yw i).toNat < n then K (yw i).toNat else none
/-- a boolean is to be stored, or given -/
def ybo {β : Type} (x : Int) (K : Option β) : Option β := if yi x = 0 ∨ yi x = 1 then K else none
section YRu
variable {α : Type} {sc : List Int32} {C : List zI} {W : List (List Nat)} {dd j : Nat} {L L' : zL} {S S' : List Value} {M M1 : yM} {cc : Nat} {r : Option yR} {pc ln op x y z w a c t : Nat} {fs : List Nat} {b d i : Int} {u : Value}
theorem y_lift {j' : Nat} (e : M1 21 2 = M 21 2) (h : ∀ n tr T v n' H' q, yok M n tr → zG sc C W n dd j' L' S' (yst M1 cc tr T) v n' H' q → zG sc C W n dd j L S (yst M cc tr T) v n' H' q) (hk : yW sc C W dd j' L' S' M1 cc r) : yW sc C W dd j L S M cc r := by
  intro M' cc' v hr n tr T hok
  have hok1 : yok M1 n tr := by
    obtain ⟨h1, h2, h3, h4, h5⟩ := hok
    exact ⟨h1, h2, h3, by omega, by omega⟩
  obtain ⟨n', tr', T', q, h1, h2⟩ := hk M' cc' v hr n tr T hok1
  exact ⟨n', tr', T', q, yext_pre e h1, h n tr T v n' _ q hok h2⟩
theorem e_ic (hc : C[j]? = some (pc, ln, op, x, y, z, w)) (ho : op = 0 ∨ op = 1 ∨ op = 2 ∨ op = 111) (hv : zc x = yi b) (hk : yW sc C W dd (j + 1) L (.int (yi b) :: S) M cc r) : yW sc C W dd j L S M cc r :=
  y_lift rfl (fun _ _ _ _ _ _ _ _ h => r_ic hc ho hv h) hk
theorem e_ld (hc : C[j]? = some (pc, ln, op, x, y, z, w)) (ho : (t = 0 ∧ (op = 6 ∨ op = 7)) ∨ (t = 2 ∧ (op = 8 ∨ op = 9)) ∨ (t = 3 ∧ (op = 10 ∨ op = 11))) (hl : L x = some u) (hz : zfit t u = true) (hk : yW sc C W dd (j + 1) L (u :: S) M cc r) : yW sc C W dd j L S M cc r :=
  y_lift rfl (fun _ _ _ _ _ _ _ _ h => r_ld hc ho hl hz h) hk
theorem e_st (hc : C[j]? = some (pc, ln, op, x, y, z, w)) (ho : (t = 0 ∧ (op = 14 ∨ op = 15)) ∨ (t = 2 ∧ (op = 16 ∨ op = 17))) (hz : zfit t u = true) (hk : yW sc C W dd (j + 1) (zL_set L x u) S M cc r) : yW sc C W dd j L (u :: S) M cc r :=
  y_lift rfl (fun _ _ _ _ _ _ _ _ h => r_st hc ho hz h) hk
theorem e_lst {q : Int64} (hc : C[j]? = some (pc, ln, op, x, y, z, w)) (ho : op = 18 ∨ op = 19) (hk : yW sc C W dd (j + 1) (zL_set2 L x (.long q)) S M cc r) : yW sc C W dd j L (.long q :: S) M cc r :=
  y_lift rfl (fun _ _ _ _ _ _ _ _ h => r_lst hc ho h) hk
theorem e_inc (hc : C[j]? = some (pc, ln, 22, x, y, z, w)) (hl : L x = some (.int (yi b))) (hv : zc y = yi d) (hk : yW sc C W dd (j + 1) (zL_set L x (.int (yi (b + d)))) S M cc r) : yW sc C W dd j L S M cc r :=
  y_lift rfl (fun _ _ _ _ _ _ _ _ h => r_inc hc hl hv (by rw [yi_add]; exact h)) hk
theorem e_add (hc : C[j]? = some (pc, ln, 23, x, y, z, w)) (hk : yW sc C W dd (j + 1) L (.int (yi (b + d)) :: S) M cc r) : yW sc C W dd j L (.int (yi d) :: .int (yi b) :: S) M cc r :=
  y_lift rfl (fun _ _ _ _ _ _ _ _ h => r_bin hc (by decide) (by show zG _ _ _ _ _ _ _ (.int (yi b + yi d) :: S) _ _ _ _ _; rw [yi_add]; exact h)) hk
theorem e_sub (hc : C[j]? = some (pc, ln, 24, x, y, z, w)) (hk : yW sc C W dd (j + 1) L (.int (yi (b - d)) :: S) M cc r) : yW sc C W dd j L (.int (yi d) :: .int (yi b) :: S) M cc r :=
  y_lift rfl (fun _ _ _ _ _ _ _ _ h => r_bin hc (by decide) (by show zG _ _ _ _ _ _ _ (.int (yi b - yi d) :: S) _ _ _ _ _; rw [show yi b - yi d = yi (b - d) from (Int32.ofInt_sub b d).symm]; exact h)) hk
theorem e_mul (hc : C[j]? = some (pc, ln, 25, x, y, z, w)) (hk : yW sc C W dd (j + 1) L (.int (yi (b * d)) :: S) M cc r) : yW sc C W dd j L (.int (yi d) :: .int (yi b) :: S) M cc r :=
  y_lift rfl (fun _ _ _ _ _ _ _ _ h => r_bin hc (by decide) (by show zG _ _ _ _ _ _ _ (.int (yi b * yi d) :: S) _ _ _ _ _; rw [show yi b * yi d = yi (b * d) from (Int32.ofInt_mul b d).symm]; exact h)) hk
theorem e_bin (hc : C[j]? = some (pc, ln, op, x, y, z, w)) (ho : op = 23 ∨ op = 24 ∨ op = 25 ∨ op = 26 ∨ op = 27 ∨ op = 28 ∨ op = 104 ∨ op = 105) (hk : yW sc C W dd (j + 1) L (.int (yi (ybin op b d)) :: S) M cc r) : yW sc C W dd j L (.int (yi d) :: .int (yi b) :: S) M cc r :=
  y_lift rfl (fun _ _ _ _ _ _ _ _ h => r_bin hc ho (by unfold ybin at h; rw [yi_w] at h; exact h)) hk
theorem e_div (hc : C[j]? = some (pc, ln, 103, x, y, z, w)) (h0 : yrel 1 d 0 = true ∨ yrel 0 d 0 = false) (hk : yW sc C W dd (j + 1) L (.int (yi (ydiv b d)) :: S) M cc r) : yW sc C W dd j L (.int (yi d) :: .int (yi b) :: S) M cc r := by
  have h1 : ¬ yi d = 0 := by
    rcases h0 with h0 | h0
    · intro q
      have e : yrel 1 d 0 = !(decide (yi d = 0)) := rfl
      rw [e, decide_eq_true q] at h0
      cases h0
    · exact of_decide_eq_false h0
  exact y_lift rfl (fun _ _ _ _ _ _ _ _ h => r_div hc (Or.inr rfl) h1 (by unfold ydiv at h; rw [yi_w] at h; exact h)) hk
theorem e_i2l (hc : C[j]? = some (pc, ln, 29, x, y, z, w)) (hk : yW sc C W dd (j + 1) L (.long (yl (yw b)) :: S) M cc r) : yW sc C W dd j L (.int (yi b) :: S) M cc r :=
  y_lift rfl (fun _ _ _ _ _ _ _ _ h => r_i2l hc (by rw [show (yi b).toInt64 = yl (yw b) from (Int64.ofInt_int32ToInt (yi b)).symm]; exact h)) hk
theorem e_ladd {p q : Int} (hc : C[j]? = some (pc, ln, 30, x, y, z, w)) (hk : yW sc C W dd (j + 1) L (.long (yl (p + q)) :: S) M cc r) : yW sc C W dd j L (.long (yl q) :: .long (yl p) :: S) M cc r :=
  y_lift rfl (fun _ _ _ _ _ _ _ _ h => r_lbin hc (Or.inl rfl) (by show zG _ _ _ _ _ _ _ (.long (yl p + yl q) :: S) _ _ _ _ _; rw [show yl p + yl q = yl (p + q) from (Int64.ofInt_add p q).symm]; exact h)) hk
theorem e_lmul {p q : Int} (hc : C[j]? = some (pc, ln, 31, x, y, z, w)) (hk : yW sc C W dd (j + 1) L (.long (yl (p * q)) :: S) M cc r) : yW sc C W dd j L (.long (yl q) :: .long (yl p) :: S) M cc r :=
  y_lift rfl (fun _ _ _ _ _ _ _ _ h => r_lbin hc (Or.inr rfl) (by show zG _ _ _ _ _ _ _ (.long (yl p * yl q) :: S) _ _ _ _ _; rw [show yl p * yl q = yl (p * q) from (Int64.ofInt_mul p q).symm]; exact h)) hk
theorem e_lc {q : Int} (hc : C[j]? = some (pc, ln, op, x, y, z, w)) (ho : op = 3 ∨ op = 106) (hv : zcl x = yl q) (hk : yW sc C W dd (j + 1) L (.long (yl q) :: S) M cc r) : yW sc C W dd j L S M cc r :=
  y_lift rfl (fun _ _ _ _ _ _ _ _ h => r_lc hc ho hv h) hk
/-- a field: an int, a long, the code's cell, a cell that stays -/
theorem e_get (hc : C[j]? = some (pc, ln, 38, x, y, z, w)) (hs : zfs a = some (x, fs)) (hf : fs[y]? = some c) (hu : ∀ tr, yfv M cc tr a y c = u) (hk : yW sc C W dd (j + 1) L (u :: S) M cc r) : yW sc C W dd j L (.ref a :: S) M cc r :=
  y_lift rfl (fun n tr T _ _ _ _ hok h => r_get hc (by have := zfs_lt hs; have := hok.1; omega) (yst_obj hs) (yfl_get hf) (by rw [hu]; exact h)) hk
theorem e_put (hc : C[j]? = some (pc, ln, op, x, y, z, w)) (ho : op = 40 ∨ op = 41) (hs : zfs a = some (x, fs)) (hf : fs[y]? = some 0) (hz : z = 0 ∨ (z = 1 ∧ (yi b = 0 ∨ yi b = 1))) (hk : yW sc C W dd (j + 1) L S (yU M a y b) cc r) : yW sc C W dd j L (.int (yi b) :: .ref a :: S) M cc r := by
  refine y_lift (yU_ne (zfs_ne hs hf).1) (fun n tr T _ _ _ _ hok h => r_put hc ho (by have := zfs_lt hs; have := hok.1; omega) (yst_obj hs) (by rw [yfl_len]; exact (List.getElem?_eq_some_iff.mp hf).1) ?_ ?_) hk
  · rcases hz with rfl | ⟨rfl, hb | hb⟩
    · rfl
    · rw [hb]; rfl
    · rw [hb]; rfl
  · rw [yst_setB hs (Or.inl ⟨hf, rfl⟩)]; exact h
theorem e_putl {q : Int} (hc : C[j]? = some (pc, ln, op, x, y, z, w)) (ho : op = 40 ∨ op = 41) (hs : zfs a = some (x, fs)) (hf : fs[y]? = some 1) (hz : z = 3) (hk : yW sc C W dd (j + 1) L S (yU M a y q) cc r) : yW sc C W dd j L (.long (yl q) :: .ref a :: S) M cc r := by
  refine y_lift (yU_ne (zfs_ne hs hf).1) (fun n tr T _ _ _ _ hok h => r_put hc ho (by have := zfs_lt hs; have := hok.1; omega) (yst_obj hs) (by rw [yfl_len]; exact (List.getElem?_eq_some_iff.mp hf).1) (by rw [hz]; rfl) ?_) hk
  rw [yst_setB hs (Or.inr ⟨hf, rfl⟩)]; exact h
theorem e_at (hd : 1 ≤ dd) (hc : C[j]? = some (pc, ln, op, 2, 2, z, w)) (ho : op = 96 ∨ op = 97) (h4 : zwd S ≤ 8) (ha : zisN a = true) (hk : yW sc C W dd (j + 1) L (.int (yi (yrd M a b)) :: S) M cc r) : yW sc C W dd j L (.int (yi b) :: .ref a :: S) M cc r := by
  refine y_lift rfl (fun n tr T v n' H' q hok h => ?_) hk
  have hlt : a < n := by have := Nat.le_of_ble_eq_true (ze_and (ze_and ha).1).1; have := hok.1; omega
  have e : zrd (yrow (M a) (yln a)) (yi b) = yi (yrd M a b) := zrd_row
  have h1 := zP_mono hd (m_at (sc := sc) (dd := 0) (k := yi b) hlt (yst_num (cc := cc) (T := T) (tr := tr) (M := M) ha) (by rw [yrow_len]; have := yln_le (a := a); omega))
  rw [e] at h1
  have h2 := g_stat (as := [.ref a, .int (yi b)]) hc ho rfl h4 h1 h
  rw [Nat.zero_add] at h2
  exact h2
theorem e_wr (hd : 1 ≤ dd) (hc : C[j]? = some (pc, ln, op, 24, 3, z, w)) (ho : op = 96 ∨ op = 97) (h4 : zwd S ≤ 8) (ha : zisN a = true) (hk : yW sc C W dd (j + 1) L S (ywr M a i b) cc r) : yW sc C W dd j L (.int (yi b) :: .int (yi i) :: .ref a :: S) M cc r := by
  refine y_lift (ywr_21 ha) (fun n tr T v n' H' q hok h => ?_) hk
  have hlt : a < n := by have := Nat.le_of_ble_eq_true (ze_and (ze_and ha).1).1; have := hok.1; omega
  have h1 := zP_mono hd (m_put (sc := sc) (dd := 0) (k := yi i) (x := yi b) hlt (yst_num (cc := cc) (T := T) (tr := tr) (M := M) ha) (by rw [yrow_len]; have := yln_le (a := a); omega))
  rw [yst_wr ha] at h1
  have h2 := g_stat (as := [.ref a, .int (yi i), .int (yi b)]) (u := none) hc ho rfl h4 h1 h
  rw [Nat.zero_add] at h2
  exact h2
theorem e_incr (hd : 1 ≤ dd) (hc : C[j]? = some (pc, ln, op, 12, 2, z, w)) (ho : op = 96 ∨ op = 97) (h4 : zwd S ≤ 8) (ha : zisN a = true) (hk : yW sc C W dd (j + 1) L S (ywr M a i (yrd M a i + 1)) cc r) : yW sc C W dd j L (.int (yi i) :: .ref a :: S) M cc r := by
  refine y_lift (ywr_21 ha) (fun n tr T v n' H' q hok h => ?_) hk
  have hlt : a < n := by have := Nat.le_of_ble_eq_true (ze_and (ze_and ha).1).1; have := hok.1; omega
  have h1 := zP_mono hd (m_increment (sc := sc) (dd := 0) (k := yi i) hlt (yst_num (cc := cc) (T := T) (tr := tr) (M := M) ha) (by rw [yrow_len]; have := yln_le (a := a); omega))
  have e : zrd (yrow (M a) (yln a)) (yi i) + 1 = yi (yrd M a i + 1) := by
    rw [show zrd (yrow (M a) (yln a)) (yi i) = yi (yrd M a i) from zrd_row, show (1 : Int32) = yi 1 from rfl, yi_add]
  rw [e, yst_wr ha] at h1
  have h2 := g_stat (as := [.ref a, .int (yi i)]) (u := none) hc ho rfl h4 h1 h
  rw [Nat.zero_add] at h2
  exact h2
theorem e_alen {m : Int} (hc : C[j]? = some (pc, ln, 48, x, y, z, w)) (hn : ∀ M cc tr T, zlen (yst M cc tr T a) = some m.toNat) (ha : a ≤ 415) (h0 : 0 ≤ m) (hk : yW sc C W dd (j + 1) L (.int (yi m) :: S) M cc r) : yW sc C W dd j L (.ref a :: S) M cc r :=
  y_lift rfl (fun n tr T _ _ _ _ hok h => r_alen (m := m.toNat) hc (by have := hok.1; omega) (hn M cc tr T) (by rw [show Int32.ofNat m.toNat = yi m by unfold yi; rw [show Int32.ofNat m.toNat = Int32.ofInt (m.toNat : Int) from rfl, Int.toNat_of_nonneg h0]]; exact h)) hk
theorem e_aald {n0 t0 b0 s0 : Nat} {K : Nat → Option α} {h : α → yR} (hc : C[j]? = some (pc, ln, 46, x, y, z, w)) (hq : zqr a = some (n0, t0, b0, s0)) (hk : ∀ e, e < n0 → yW sc C W dd (j + 1) L (.ref (b0 + s0 * e) :: S) M cc (Option.map h (K e))) : yW sc C W dd j L (.int (yi i) :: .ref a :: S) M cc (Option.map h (yox i n0 K)) := by
  unfold yox
  by_cases h1 : 0 ≤ yw i ∧ (yw i).toNat < n0
  · rw [if_pos h1]
    refine y_lift rfl (fun n tr T _ _ _ _ hok h => ?_) (hk (yw i).toNat h1.2)
    have hlt : a < n := by have := Nat.le_of_ble_eq_true (ze_and (zqr_ok hq)).1; have := hok.1; omega
    refine r_aald (q := some (b0 + s0 * (yw i).toNat)) hc hlt (yst_refs hq) h1.1 ?_ h
    unfold yqs
    rw [List.getElem?_map]
    show Option.map _ (List.range n0)[(yw i).toNat]? = _
    rw [List.getElem?_range h1.2]; rfl
  · rw [if_neg h1]
    exact y_none
theorem e_dup (hc : C[j]? = some (pc, ln, 34, x, y, z, w)) (hu : (∃ q, u = .int q) ∨ ∃ q, u = .ref q) (hk : yW sc C W dd (j + 1) L (u :: u :: S) M cc r) : yW sc C W dd j L (u :: S) M cc r :=
  y_lift rfl (fun _ _ _ _ _ _ _ _ h => r_dup hc hu h) hk
theorem e_pop (hc : C[j]? = some (pc, ln, 37, x, y, z, w)) (hu : (∃ q, u = .int q) ∨ ∃ q, u = .ref q) (hk : yW sc C W dd (j + 1) L S M cc r) : yW sc C W dd j L (u :: S) M cc r :=
  y_lift rfl (fun _ _ _ _ _ _ _ _ h => r_pop hc hu h) hk
theorem e_go (hc : C[j]? = some (pc, ln, 80, x, y, z, w)) (hk : yW sc C W dd x L S M cc r) : yW sc C W dd j L S M cc r :=
  y_lift rfl (fun _ _ _ _ _ _ _ _ h => g_go hc h) hk
theorem e_br {q : Nat} {X Y : α} (g : α → Option yR) (hq : q ≤ 5) (hc : C[j]? = some (pc, ln, 64 + q, x, y, z, w)) (ht : yrel q b 0 = true → yW sc C W dd x L S M cc (g X)) (hf : yrel q b 0 = false → yW sc C W dd (j + 1) L S M cc (g Y)) : yW sc C W dd j L (.int (yi b) :: S) M cc (g (cond (yrel q b 0) X Y)) := by
  have e0 : yi 0 = 0 := rfl
  have key : ∀ t : Bool, yrel q b 0 = t → yW sc C W dd j L (.int (yi b) :: S) M cc (g (cond t X Y)) := by
    intro t hz
    have hz' : zrel q (yi b) 0 = t := by rw [← e0]; exact hz
    cases t with
    | true => exact y_lift rfl (fun _ _ _ _ _ _ _ _ h => g_br hq hc (fun _ => h) (fun q => by rw [hz'] at q; cases q)) (ht hz)
    | false => exact y_lift rfl (fun _ _ _ _ _ _ _ _ h => g_br hq hc (fun q => by rw [hz'] at q; cases q) (fun _ => h)) (hf hz)
  exact key _ rfl
theorem e_cmp {q : Nat} {X Y : α} (g : α → Option yR) (hq : q ≤ 5) (hc : C[j]? = some (pc, ln, 70 + q, x, y, z, w)) (ht : yrel q b d = true → yW sc C W dd x L S M cc (g X)) (hf : yrel q b d = false → yW sc C W dd (j + 1) L S M cc (g Y)) : yW sc C W dd j L (.int (yi d) :: .int (yi b) :: S) M cc (g (cond (yrel q b d) X Y)) := by
  have key : ∀ t : Bool, yrel q b d = t → yW sc C W dd j L (.int (yi d) :: .int (yi b) :: S) M cc (g (cond t X Y)) := by
    intro t hz
    have hz' : zrel q (yi b) (yi d) = t := hz
    cases t with
    | true => exact y_lift rfl (fun _ _ _ _ _ _ _ _ h => g_cmp hq hc (fun _ => h) (fun q => by rw [hz'] at q; cases q)) (ht hz)
    | false => exact y_lift rfl (fun _ _ _ _ _ _ _ _ h => g_cmp hq hc (fun q => by rw [hz'] at q; cases q) (fun _ => h)) (hf hz)
  exact key _ rfl
/-- a tableswitch: the targets one after the other -/
def yS (sc : List Int32) (C : List zI) (W : List (List Nat)) (dd df : Nat) (ts : List Nat) (lo : Int) (L : zL) (S : List Value) (M : yM) (cc : Nat) (a : Int) (r : Option yR) : Prop := yW sc C W dd (if yw a < lo then df else ts.getD (yw a - lo).toNat df) L S M cc r
theorem s_case {df : Nat} {ts : List Nat} {lo : Int} {X Y : α} (g : α → Option yR) (hl : yw lo = lo) (h1 : yrel 0 b lo = true → yW sc C W dd t L S M cc (g X)) (h2 : yrel 0 b lo = false → yS sc C W dd df ts (lo + 1) L S M cc b (g Y)) : yS sc C W dd df (t :: ts) lo L S M cc b (g (cond (yrel 0 b lo) X Y)) := by
  have key : ∀ q : Bool, yrel 0 b lo = q → yS sc C W dd df (t :: ts) lo L S M cc b (g (cond q X Y)) := by
    intro q hz
    have e : yrel 0 b lo = decide (yi b = yi lo) := rfl
    cases q with
    | true =>
      have h3 : yi b = yi lo := of_decide_eq_true (e ▸ hz)
      have h4 : yw b = lo := by unfold yw; rw [h3]; exact hl
      unfold yS
      rw [if_neg (by omega), h4, Int.sub_self]
      exact h1 hz
    | false =>
      have h3 : ¬ yi b = yi lo := of_decide_eq_false (e ▸ hz)
      have h4 : yw b ≠ lo := fun q => h3 (by rw [← yi_w (x := yi b), ← yi_w (x := yi lo)]; show yi (yw b) = yi (yw lo); rw [q, hl])
      have h5 := h2 hz
      unfold yS at h5 ⊢
      by_cases h6 : yw b < lo
      · rw [if_pos h6]
        rw [if_pos (by omega)] at h5
        exact h5
      · rw [if_neg h6]
        rw [if_neg (by omega)] at h5
        rw [show (yw b - lo).toNat = (yw b - (lo + 1)).toNat + 1 by omega]
        exact h5
  exact key _ rfl
theorem s_end {df : Nat} {lo : Int} (hk : yW sc C W dd df L S M cc r) : yS sc C W dd df [] lo L S M cc b r := by
  unfold yS
  split
  · exact hk
  · exact hk
theorem e_sw {lo df : Nat} {ts : List Nat} {lo' : Int} (hc : C[j]? = some (pc, ln, 81, x, y, z, w)) (hw : W[x]? = some (lo :: df :: ts)) (hl : (zc lo).toInt = lo') (hk : yS sc C W dd df ts lo' L S M cc b r) : yW sc C W dd j L (.int (yi b) :: S) M cc r := by
  unfold yS at hk
  refine y_lift rfl (fun _ _ _ _ _ _ _ _ h => g_sw hc hw ?_ h) hk
  rw [hl]; rfl
/-- calls: r0 is what the method gives -/
theorem e_stat {as : List Value} {M1 : yM} {cc1 : Nat} {v1 : Option Value} (hc : C[j]? = some (pc, ln, op, x, y, z, w)) (ho : op = 96 ∨ op = 97) (hl : as.length = y) (h4 : zwd S ≤ 8) (hP : yP sc dd x as M cc (some (M1, cc1, v1))) (hk : yW sc C W dd (j + 1) L (v1.toList ++ S) M1 cc1 r) : yW sc C W dd j L (as.reverse ++ S) M cc r := by
  intro M' cc' v hr n tr T hok
  obtain ⟨n1, tr1, T1, q1, i1, i2⟩ := hP M1 cc1 v1 rfl n tr T hok
  obtain ⟨n2, tr2, T2, q2, i3, i4⟩ := hk M' cc' v hr n1 tr1 T1 i1.2.1
  exact ⟨n2, tr2, T2, q1 + q2, yext_trans i1 i3, g_stat hc ho hl h4 i2 i4⟩
theorem e_obj {as : List Value} {M1 : yM} {cc1 : Nat} {v1 : Option Value} (hc : C[j]? = some (pc, ln, op, x, y, z, w)) (ho : op = 98 ∨ op = 99 ∨ op = 100) (hl : as.length = y) (h4 : zwd S ≤ 8) (hs : zfs a = some (z, fs)) (hP : yP sc dd x (.ref a :: as) M cc (some (M1, cc1, v1))) (hk : yW sc C W dd (j + 1) L (v1.toList ++ S) M1 cc1 r) : yW sc C W dd j L (as.reverse ++ .ref a :: S) M cc r := by
  intro M' cc' v hr n tr T hok
  obtain ⟨n1, tr1, T1, q1, i1, i2⟩ := hP M1 cc1 v1 rfl n tr T hok
  obtain ⟨n2, tr2, T2, q2, i3, i4⟩ := hk M' cc' v hr n1 tr1 T1 i1.2.1
  exact ⟨n2, tr2, T2, q1 + q2, yext_trans i1 i3, g_obj hc ho hl h4 (by have := zfs_lt hs; have := hok.1; omega) (yst_obj hs) i2 i4⟩
theorem yP_some {k : Nat} {as : List Value} {o : Option α} {t : α} {h0 : α → yR} (hP : yP sc dd k as M cc (Option.map h0 o)) (ho : o = some t) : yP sc dd k as M cc (some (h0 t)) := by
  subst ho
  exact hP
/-- a call that may give nothing (then nothing is claimed) -/
theorem e_objO {β : Type} {as : List Value} {o : Option β} {h0 : β → yR} {h : α → yR} {K : β → Option α} (hc : C[j]? = some (pc, ln, op, x, y, z, w)) (ho : op = 98 ∨ op = 99 ∨ op = 100) (hl : as.length = y) (h4 : zwd S ≤ 8) (hs : zfs a = some (z, fs)) (hP : yP sc dd x (.ref a :: as) M cc (Option.map h0 o)) (hk : ∀ t, yW sc C W dd (j + 1) L ((h0 t).2.2.toList ++ S) (h0 t).1 (h0 t).2.1 (Option.map h (K t))) : yW sc C W dd j L (as.reverse ++ .ref a :: S) M cc (Option.map h (Option.bind o K)) := by
  cases e : o with
  | none => exact y_none
  | some t => exact e_obj (M1 := (h0 t).1) (cc1 := (h0 t).2.1) (v1 := (h0 t).2.2) hc ho hl h4 hs (yP_some (h0 := h0) hP e) (hk t)
theorem e_statO {β : Type} {as : List Value} {o : Option β} {h0 : β → yR} {h : α → yR} {K : β → Option α} (hc : C[j]? = some (pc, ln, op, x, y, z, w)) (ho : op = 96 ∨ op = 97) (hl : as.length = y) (h4 : zwd S ≤ 8) (hP : yP sc dd x as M cc (Option.map h0 o)) (hk : ∀ t, yW sc C W dd (j + 1) L ((h0 t).2.2.toList ++ S) (h0 t).1 (h0 t).2.1 (Option.map h (K t))) : yW sc C W dd j L (as.reverse ++ S) M cc (Option.map h (Option.bind o K)) := by
  cases e : o with
  | none => exact y_none
  | some t => exact e_stat (M1 := (h0 t).1) (cc1 := (h0 t).2.1) (v1 := (h0 t).2.2) hc ho hl h4 (yP_some (h0 := h0) hP e) (hk t)
theorem e_bo {X : Option α} {h : α → yR} (hk : yi b = 0 ∨ yi b = 1 → yW sc C W dd j L S M cc (Option.map h X)) : yW sc C W dd j L S M cc (Option.map h (ybo b X)) := by
  unfold ybo
  by_cases h1 : yi b = 0 ∨ yi b = 1
  · rw [if_pos h1]; exact hk h1
  · rw [if_neg h1]; exact y_none
/-- returns -/
theorem e_vret (hc : C[j]? = some (pc, ln, 84, x, y, z, w)) : yW sc C W dd j L [] M cc (some (M, cc, none)) := by
  intro M' cc' v hr n tr T hok
  cases hr
  exact ⟨n, tr, T, 0, yext_refl hok, g_vret hc⟩
theorem e_iret (hc : C[j]? = some (pc, ln, 85, x, y, z, w)) (hz : z = 0 ∨ (z = 1 ∧ (yi b = 0 ∨ yi b = 1))) : yW sc C W dd j L [.int (yi b)] M cc (some (M, cc, some (.int (yi b)))) := by
  intro M' cc' v hr n tr T hok
  cases hr
  refine ⟨n, tr, T, 0, yext_refl hok, g_iret hc ?_⟩
  rcases hz with rfl | ⟨rfl, hb | hb⟩
  · rfl
  · rw [hb]; rfl
  · rw [hb]; rfl
theorem e_aret (hc : C[j]? = some (pc, ln, 86, x, y, z, w)) : yW sc C W dd j L [.ref a] M cc (some (M, cc, some (.ref a))) := by
  intro M' cc' v hr n tr T hok
  cases hr
  exact ⟨n, tr, T, 0, yext_refl hok, g_aret hc rfl⟩
theorem e_lret {q : Int} (hc : C[j]? = some (pc, ln, 87, x, y, z, w)) : yW sc C W dd j L [.long (yl q)] M cc (some (M, cc, some (.long (yl q)))) := by
  intro M' cc' v hr n tr T hok
  cases hr
  exact ⟨n, tr, T, 0, yext_refl hok, g_lret hc⟩
theorem e_meth {k ml : Nat} {g : List zM} {as : List Value} (hg : zg_MT[k / 16]? = some g) (ht : g[k % 16]? = some (C, W, ml)) (hs : zsz as ≤ ml) (hk : yW sc C W dd 0 (zargs 0 as) [] M cc r) : yP sc (dd + 1) k as M cc r := by
  intro M' cc' v hr n tr T hok
  obtain ⟨n', tr', T', q, h1, h2⟩ := hk M' cc' v hr n tr T hok
  exact ⟨n', tr', T', q, h1, g_meth hg ht hs h2⟩
end YRu
/-! locals -/
section YLo
variable {L : zL} {i j : Nat} {u : Value}
theorem l_s : zL_set L i u i = some u := if_pos rfl
theorem l_ki {x : Int32} (h : j ≠ i) (hl : L j = some (.int x)) : zL_set L i u j = some (.int x) := by
  unfold zL_set
  rw [if_neg h]
  unfold zL_cut
  rw [hl]
theorem l_kr {x : Nat} (h : j ≠ i) (hl : L j = some (.ref x)) : zL_set L i u j = some (.ref x) := by
  unfold zL_set
  rw [if_neg h]
  unfold zL_cut
  rw [hl]
theorem l_kl {x : Int64} (h : j ≠ i) (h2 : j + 1 ≠ i) (hl : L j = some (.long x)) : zL_set L i u j = some (.long x) := by
  unfold zL_set
  rw [if_neg h]
  unfold zL_cut
  rw [hl]
  dsimp only
  rw [if_neg h2]
theorem l_s2 : zL_set2 L i u i = some u := if_pos rfl
theorem l_ki2 {x : Int32} (h : j ≠ i) (h1 : j ≠ i + 1) (hl : L j = some (.int x)) : zL_set2 L i u j = some (.int x) := by
  unfold zL_set2
  rw [if_neg h, if_neg h1]
  unfold zL_cut
  rw [hl]
theorem l_kr2 {x : Nat} (h : j ≠ i) (h1 : j ≠ i + 1) (hl : L j = some (.ref x)) : zL_set2 L i u j = some (.ref x) := by
  unfold zL_set2
  rw [if_neg h, if_neg h1]
  unfold zL_cut
  rw [hl]
theorem l_kl2 {x : Int64} (h : j ≠ i) (h1 : j ≠ i + 1) (h2 : j + 1 ≠ i) (hl : L j = some (.long x)) : zL_set2 L i u j = some (.long x) := by
  unfold zL_set2
  rw [if_neg h, if_neg h1]
  unfold zL_cut
  rw [hl]
  dsimp only
  rw [if_neg h2]
end YLo
