/-! isFair, by the law: its rules -/
def sJ (n0 q0 : Nat) (M : yM) (cc : Nat) (c rw ro : Nat → Nat) (H : Nat → zO) (n q : Nat) : Prop := n = n0 ∧ q ≤ q0 ∧ ∃ tr, wI H n M cc tr ∧ oN H n tr M c rw ro
section HrT
variable {sc : List Int32} {C : List zI} {W : List (List Nat)} {n n0 q q0 dd j cc : Nat} {L : zL} {S as : List Value} {H : Nat → zO} {Q : Option Value → Nat → Nat → (Nat → zO) → Prop} {pc ln op x y z w pc2 ln2 x2 y2 z2 w2 : Nat} {M : yM} {c rw ro : Nat → Nat} {w' : Value} {a : Int32} {K : Nat} {v : Int}
theorem h_api (hc : C[j]? = some (pc, ln, op, x, y, 9, w)) (ho : op = 98 ∨ op = 99 ∨ op = 100) (hl : as.length = y) (h4 : zwd S ≤ 8) (hJ : sJ n0 q0 M cc c rw ro H n q) (hC : yP sc dd x (.ref 0 :: as) M cc (some (M, cc, some w'))) (hk : ∀ (n1 q1 : Nat) (H1 : Nat → zO), sJ n0 q0 M cc c rw ro H1 n1 q1 → hG sc C W dd (j + 1) L (w' :: S) n1 q1 H1 Q) : hG sc C W dd j L (as.reverse ++ .ref 0 :: S) n q H Q := by
  obtain ⟨e1, e2, tr, hW, hO⟩ := hJ
  exact h_cls hc ho hl h4 hW hO hC fun n1 q1 H1 tr1 g1 g2 g3 g4 g5 => hk n1 q1 H1 ⟨by omega, by omega, tr1, g1, g2⟩
theorem h_lenJ (hI : pI M) (hJ : sJ n0 q0 M cc c rw ro H n q) (hc : C[j]? = some (pc, ln, 38, 10, y, z, w)) (hc2 : C[j + 1]? = some (pc2, ln2, 48, x2, y2, z2, w2)) {g : Int} (hg : (y = 0 ∧ g = M 1 7) ∨ (y = 4 ∧ g = M 1 4)) (hk : hG sc C W dd (j + 1 + 1) L (.int (yi g) :: S) n q H Q) : hG sc C W dd j L (.ref 416 :: S) n q H Q := by
  obtain ⟨-, -, tr, hW, hO⟩ := hJ
  obtain ⟨⟨h1, h2⟩, ⟨r1, r2, r3, r4, r5, r6, r7⟩, h3, h4, -, -, -, bs, b1, b2⟩ := hO
  have e416 := (h2 416 (by rw [r1]; decide)).2.1
  have h90 := hI.1
  have e0 := (h2 (c 0) (by rw [r2]; decide)).2.1
  have e4 := (h2 (c 4) (by rw [r6]; decide)).2.1
  rcases hg with ⟨rfl, rfl⟩ | ⟨rfl, rfl⟩
  · refine h_get hc e416 h1 rfl ?_
    refine h_alen (m := (M 1 7).toNat) hc2 e0 (by rw [h3]; show some (List.length _) = _; rw [List.length_map, List.length_range]) ?_
    rw [Int.toNat_of_nonneg h90.1]; exact hk
  · refine h_get hc e416 h1 rfl ?_
    refine h_alen (m := bs.length) hc2 e4 (by rw [b1]; rfl) ?_
    rw [b2]; exact hk
/-- a number of a node's row -/
theorem h_rowJ {k i : Nat} {g : Int} (hJ : sJ n0 q0 M cc c rw ro H n q) (hk1 : (k : Int) < M 1 7) (hc : C[j]? = some (pc, ln, 42, x, y, z, w)) (hi : (i = 0 ∧ g = M 7 k) ∨ (i = 1 ∧ g = M 8 k)) (hk : hG sc C W dd (j + 1) L (.int (yi g) :: S) n q H Q) : hG sc C W dd j L (.int (yi (i : Int)) :: .ref (rw k) :: S) n q H Q := by
  obtain ⟨-, -, tr, hW, hO⟩ := hJ
  obtain ⟨⟨h1, h2⟩, ⟨r1, r2, r3, r4, r5, r6, r7⟩, h3, h4, -⟩ := hO
  obtain ⟨x, y, hxy⟩ := h4 k hk1
  have er := (h2 (rw k) (by rw [r7 k hk1]; decide)).2.1
  rcases hi with ⟨rfl, rfl⟩ | ⟨rfl, rfl⟩
  · exact h_iald hc er hxy (by decide) rfl hk
  · exact h_iald hc er hxy (by decide) rfl hk
theorem h_nodeJ {k : Nat} (hI : pI M) (hJ : sJ n0 q0 M cc c rw ro H n q) (hk1 : (k : Int) < M 1 7) (hc0 : C[j]? = some (pc, ln, 38, 10, 0, z, w)) (hc1 : C[j + 1]? = some (pc2, ln2, 7, x2, y2, z2, w2)) {pc3 ln3 x3 y3 z3 w3 : Nat} (hc2 : C[j + 1 + 1]? = some (pc3, ln3, 46, x3, y3, z3, w3)) (hl : L x2 = some (.int (yi (k : Int)))) (hk : hG sc C W dd (j + 1 + 1 + 1) L (.ref (rw k) :: S) n q H Q) : hG sc C W dd j L (.ref 416 :: S) n q H Q := by
  obtain ⟨-, -, tr, hW, hO⟩ := hJ
  obtain ⟨⟨h1, h2⟩, ⟨r1, r2, r3, r4, r5, r6, r7⟩, h3, h4, -⟩ := hO
  have h90 := hI.1
  refine h_get hc0 (h2 416 (by rw [r1]; decide)).2.1 h1 rfl ?_
  refine h_ld (t := 0) hc1 (Or.inl ⟨rfl, Or.inr rfl⟩) hl rfl ?_
  exact h_aald hc2 (h2 (c 0) (by rw [r2]; decide)).2.1 h3 (by omega) (p := some (rw k)) (by rw [List.getElem?_map, List.getElem?_range (by omega)]; rfl) hk
theorem h_eq1 (hc : C[j]? = some (pc, ln, 71, x, y, z, w)) (hk : hG sc C W dd (j + 1) L S n q H Q) : hG sc C W dd j L (.int a :: .int a :: S) n q H Q :=
  h_cmp (p := 1) (by decide) hc (fun e => by
    have e2 : (!decide (a = a)) = true := e
    rw [decide_eq_true rfl] at e2; cases e2) fun _ => hk
theorem h_eq0 (hc : C[j]? = some (pc, ln, 70, x, y, z, w)) (hk : hG sc C W dd x L S n q H Q) : hG sc C W dd j L (.int a :: .int a :: S) n q H Q :=
  h_cmp (p := 0) (by decide) hc (fun _ => hk) fun e => by
    have e2 : decide (a = a) = false := e
    rw [decide_eq_true rfl] at e2; cases e2
theorem y_19_7 (hd : 311 ≤ dd) (h : fst' K M) (hp : 0 ≤ v ∧ v < M 1 7) : yP sc dd 19 [.ref 0, .int (yi v), .int (yi 7)] M cc (some (M, cc, some (.int (yi (M 212 v.toNat))))) := by
  have ht := t_19 (sc := sc) (dd := dd) (cc := cc) (N := K) (M := M) (x1 := v) (x2 := 7) hd
  rw [A_19_7 h hp] at ht; exact ht
theorem y_19_4 (hd : 311 ≤ dd) (h : fst' K M) (hp : 0 ≤ v ∧ v < M 1 7) : yP sc dd 19 [.ref 0, .int (yi v), .int (yi 4)] M cc (some (M, cc, some (.int (yi (M 13 v.toNat))))) := by
  have ht := t_19 (sc := sc) (dd := dd) (cc := cc) (N := K) (M := M) (x1 := v) (x2 := 4) hd
  rw [A_19_4 h hp] at ht; exact ht
theorem y_20_5 (hd : 311 ≤ dd) (h : fst' K M) (hp : 0 ≤ v ∧ v < M 1 4) : yP sc dd 20 [.ref 0, .int (yi v), .int (yi 5)] M cc (some (M, cc, some (.int (yi (M 213 v.toNat))))) := by
  have ht := t_20 (sc := sc) (dd := dd) (cc := cc) (N := K) (M := M) (x1 := v) (x2 := 5) hd
  rw [A_20_5 h hp] at ht; exact ht
theorem y_21 {i : Nat} (hd : 3 ≤ dd) (hi : i < 9) : yP sc dd 21 [.ref 0, .int (yi (i : Int))] M cc (some (M, cc, some (.int (yi (M 209 i))))) := by
  have ht := t_21 (sc := sc) (dd := dd) (cc := cc) (M := M) (x1 := (i : Int)) hd
  rw [A_21 hi] at ht; exact ht
theorem y_10_2 (hd : 3 ≤ dd) (h : v < M 197 0) (hm : M 197 0 ≤ 1000000) (h0 : 0 ≤ v) (h4 : v < 40) : yP sc dd 10 [.ref 0, .int (yi v), .int (yi 2)] M cc (some (M, cc, some (.int (yi (M 199 v.toNat))))) := by
  have ht := t_10 (sc := sc) (dd := dd) (cc := cc) (M := M) (x1 := v) (x2 := 2) hd
  rw [A_10_2 h hm h0 h4] at ht; exact ht
theorem y_10_0 (hd : 3 ≤ dd) (h : v < M 197 0) (hm : M 197 0 ≤ 1000000) (h0 : 0 ≤ v) (h4 : v < 40) : yP sc dd 10 [.ref 0, .int (yi v), .int (yi 0)] M cc (some (M, cc, some (.int (yi (M 198 v.toNat))))) := by
  have ht := t_10 (sc := sc) (dd := dd) (cc := cc) (M := M) (x1 := v) (x2 := 0) hd
  rw [A_10_0 h hm h0 h4] at ht; exact ht
theorem y_10_3 (hd : 3 ≤ dd) (h : v < M 197 0) (hm : M 197 0 ≤ 1000000) (h0 : 0 ≤ v) (h4 : v < 40) : yP sc dd 10 [.ref 0, .int (yi v), .int (yi 3)] M cc (some (M, cc, some (.int (yi (M 204 v.toNat))))) := by
  have ht := t_10 (sc := sc) (dd := dd) (cc := cc) (M := M) (x1 := v) (x2 := 3) hd
  rw [A_10_3 h hm h0 h4] at ht; exact ht
theorem y_36 (hd : 3 ≤ dd) (h : v < M 197 0) (hm : M 197 0 ≤ 1000000) (h0 : 0 ≤ v) (h4 : v < 40) (h6 : 1 ≤ M 202 v.toNat ∧ M 202 v.toNat ≤ 6) : yP sc dd 36 [.ref 0, .int (yi v), .int (yi 0)] M cc (some (M, cc, some (.int (yi (M 203 (6 * v.toNat)))))) := by
  have ht := t_36 (sc := sc) (dd := dd) (cc := cc) (M := M) (x1 := v) (x2 := 0) hd
  rw [A_36 h hm h0 h4 h6] at ht; exact ht
end HrT
