/-! a statement, by the law: those with parts -/
/-- a statement of so many levels can be built -/
def bB (sc : List Int32) (dd lv : Nat) : Prop := ∀ {n q e : Nat} {H : Nat → zO} {M : yM} {x hc hl : Int}, sI H n q M e → 0 ≤ x → x + 20 * (lv : Int) ≤ 100000 → (hc = 0 ∨ hc = 1) → (hl = 0 ∨ hl = 1) → hP sc dd 153 [.ref 0, .ref 416, .retAddr 0, .int (yi x), .int (yi (lv : Int)), .int (yi hc), .int (yi hl)] n q H (bQ M e)
theorem isQ_bc {s a b c : Int} {i : Nat} (h : ¬ s = 11) (q : isQ s a b c i) : (i : Int) = b ∨ (i : Int) = c := by
  unfold isQ pA' pB' pC' at q
  rw [if_neg h] at q
  rcases q with q | q | q
  · omega
  · by_cases hs : s = 4 ∨ s = 5 ∨ s = 6 ∨ s = 11 ∨ s = 12 ∨ s = 13
    · rw [if_pos hs] at q; exact Or.inl q
    · rw [if_neg hs] at q; omega
  · by_cases hs : s = 4 ∨ s = 5 ∨ s = 11 ∨ s = 12
    · rw [if_pos hs] at q; exact Or.inr q
    · rw [if_neg hs] at q; omega
theorem isQ_b {s a b c : Int} {i : Nat} (h : s = 6 ∨ s = 13) (q : isQ s a b c i) : (i : Int) = b := by
  unfold isQ pA' pB' pC' at q
  rw [if_neg (by omega), if_pos (by omega), if_neg (by omega)] at q
  omega
theorem isQ_abc {s a b c : Int} {i : Nat} (q : isQ s a b c i) : (i : Int) = a ∨ (i : Int) = b ∨ (i : Int) = c := by
  unfold isQ pA' pB' pC' at q
  by_cases h1 : s = 11
  · rw [if_pos h1, if_pos (by omega), if_pos (by omega)] at q; exact q
  · rw [if_neg h1] at q
    rcases q with q | q | q
    · omega
    · by_cases hs : s = 4 ∨ s = 5 ∨ s = 6 ∨ s = 11 ∨ s = 12 ∨ s = 13
      · rw [if_pos hs] at q; exact Or.inr (Or.inl q)
      · rw [if_neg hs] at q; omega
    · by_cases hs : s = 4 ∨ s = 5 ∨ s = 11 ∨ s = 12
      · rw [if_pos hs] at q; exact Or.inr (Or.inr q)
      · rw [if_neg hs] at q; omega
section HrL
variable {sc : List Int32} {C : List zI} {W : List (List Nat)} {n q dd j e l : Nat} {L : zL} {S : List Value} {H : Nat → zO} {Q : Option Value → Nat → Nat → (Nat → zO) → Prop} {pc ln op x y z w : Nat} {M0 M M' M1 : yM} {r s m g xx hc hl : Int} {v : Int32}
theorem h_153 (hB : bB sc dd l) (hC : C[j]? = some (pc, ln, 96, 153, 7, z, w)) (h4 : zwd S ≤ 8) (hS : sI H n q M e) (h0 : kx M0 M) (hx : 0 ≤ xx ∧ xx + 20 * (l : Int) ≤ 100000) (hg : g = (l : Int)) (hh : (hc = 0 ∨ hc = 1) ∧ (hl = 0 ∨ hl = 1)) (hk : ∀ r M' n' q' H', sI H' n' q' M' e → kx M M' → kx M0 M' → (r = -1 ∨ (M 1 7 ≤ r ∧ uS M' r)) → (-1 ≤ r ∧ r < 90 ∧ M' 1 7 ≤ 90 ∧ 0 ≤ M' 1 7) → hG sc C W dd (j + 1) L (.int (yi r) :: S) n' q' H' Q) : hG sc C W dd j L (.int (yi hl) :: .int (yi hc) :: .int (yi g) :: .int (yi xx) :: .retAddr 0 :: .ref 416 :: .ref 0 :: S) n q H Q := by
  subst hg
  refine h_stat (as := [.ref 0, .ref 416, .retAddr 0, .int (yi xx), .int (yi (l : Int)), .int (yi hc), .int (yi hl)]) hC (Or.inl rfl) rfl h4 (hB hS hx.1 hx.2 hh.1 hh.2) ?_
  rintro u n1 q1 H1 ⟨r, M', rfl, s1, s2, s3⟩
  have h17 := s1.2.1.1
  have h17' := hS.2.1.1
  refine hk r M' n1 q1 H1 s1 s2 (kx_trans h0 s2) s3 ⟨?_, ?_, h17.2, h17.1⟩
  · rcases s3 with h | h
    · omega
    · omega
  · rcases s3 with h | h
    · omega
    · have := h.2.1; omega
theorem h_165 (hC : C[j]? = some (pc, ln, op, 165, 1, 10, w)) (ho : op = 98 ∨ op = 99 ∨ op = 100) (h4 : zwd S ≤ 8) (hd : 92 ≤ dd) (hS : sI H n q M e) (hr : 0 ≤ r ∧ r < M 1 7) (hk : ∀ b : Int, (b = 0 ∨ b = 1) → hG sc C W dd (j + 1) L (.int (yi b) :: S) n q H Q) : hG sc C W dd j L (.int (yi r) :: .ref 416 :: S) n q H Q := by
  obtain ⟨⟨cc, tr, c, rw', ro, hW, hO⟩, hI, -⟩ := hS
  obtain ⟨⟨h1, h2⟩, ⟨r1, -⟩, -⟩ := id hO
  have h90 := hI.1
  obtain ⟨k, rfl⟩ : ∃ k : Nat, r = (k : Int) := ⟨r.toNat, by omega⟩
  refine h_obj (a := 416) (as := [.int (yi (k : Int))]) hC ho rfl h4 (h2 416 (by rw [r1]; decide)).2.1 h1 (hP_dd (by omega) (L_165 (dd := 0) hI hO 90 k (by omega) (by omega))) ?_
  rintro u n1 q1 H1 ⟨⟨b, hb, e1⟩, e2, e3, e4⟩
  rw [e1, e2, e3, e4]
  exact hk b hb
theorem B_219 {L : zL} {x hc hl y kd : Int} (hd : 92 ≤ dd) (hB : bB sc dd l) (hS : sI H n q M e) (hL : bL L x ((l : Int) + 1) hc hl y kd) (hx : 0 ≤ x ∧ x + 20 * ((l : Int) + 1) ≤ 100000) (hh : (hc = 0 ∨ hc = 1) ∧ (hl = 0 ∨ hl = 1)) : hG sc zg_c153 zg_w153 dd 219 L [] n q H (bQ M e) := by
  obtain ⟨l0, l1, l2, l3, l4, l5, l6, l7, l9⟩ := hL
  have h13 := hS.2.1.2.2.1
  have h8 := hS.2.1.2.1
  have h90 := hS.2.1.1
  refine h_ld (t := 2) rfl (Or.inr (Or.inl ⟨rfl, Or.inl rfl⟩)) l0 rfl ?_
  refine h_ld (t := 2) rfl (Or.inr (Or.inl ⟨rfl, Or.inl rfl⟩)) l1 rfl ?_
  refine h_ld (t := 2) rfl (Or.inr (Or.inl ⟨rfl, Or.inl rfl⟩)) l2 rfl ?_
  refine h_ld (t := 0) rfl (Or.inl ⟨rfl, Or.inl rfl⟩) l3 rfl ?_
  refine h_ic (b := 3) rfl (by decide) (by decide) ?_
  refine h_add rfl ?_
  refine h_ld (t := 0) rfl (Or.inl ⟨rfl, Or.inr rfl⟩) l4 rfl ?_
  refine h_ic (b := 1) rfl (by decide) (by decide) ?_
  refine h_sub rfl ?_
  refine h_ld (t := 0) rfl (Or.inl ⟨rfl, Or.inr rfl⟩) l5 rfl ?_
  refine h_ld (t := 0) rfl (Or.inl ⟨rfl, Or.inr rfl⟩) l6 rfl ?_
  refine h_153 (M0 := M) hB rfl (Nat.le_of_ble_eq_true rfl) hS kx_rfl ⟨by omega, by omega⟩ (by omega) hh fun r1 M1 n1 q1 H1 s1 x1 k1 t1 f1 => ?_
  refine h_st (t := 0) rfl (Or.inl ⟨rfl, Or.inr rfl⟩) rfl ?_
  refine h_ld (t := 0) rfl (Or.inl ⟨rfl, Or.inr rfl⟩) l_s rfl ?_
  refine h_b2 rfl ⟨by omega, by omega⟩ (fun _ => ?_) fun g1 => ?_
  · skip
    refine h_ld (t := 0) rfl (Or.inl ⟨rfl, Or.inr rfl⟩) l_s rfl ?_
    exact h_iret rfl rfl ⟨r1, M1, rfl, s1, k1, t1⟩
  have u1 : M 1 7 ≤ r1 ∧ uS M1 r1 := by
    rcases t1 with h | h
    · omega
    · exact h
  have u1b := u1.2.1
  refine h_ld (t := 2) rfl (Or.inr (Or.inl ⟨rfl, Or.inl rfl⟩)) (l_kr (by decide) l1) rfl ?_
  refine h_ld (t := 0) rfl (Or.inl ⟨rfl, Or.inr rfl⟩) l_s rfl ?_
  refine h_165 rfl (by decide) (Nat.le_of_ble_eq_true rfl) hd s1 ⟨by omega, by omega⟩ fun b hb => ?_
  refine h_b0 rfl ⟨by omega, by omega⟩ (fun _ => ?_) fun _ => ?_
  rotate_left
  · skip
    refine h_ld (t := 0) rfl (Or.inl ⟨rfl, Or.inr rfl⟩) l_s rfl ?_
    exact h_iret rfl rfl ⟨r1, M1, rfl, s1, k1, t1⟩
  refine h_ld (t := 2) rfl (Or.inr (Or.inl ⟨rfl, Or.inl rfl⟩)) (l_kr (by decide) l0) rfl ?_
  refine h_ld (t := 2) rfl (Or.inr (Or.inl ⟨rfl, Or.inl rfl⟩)) (l_kr (by decide) l1) rfl ?_
  refine h_ld (t := 2) rfl (Or.inr (Or.inl ⟨rfl, Or.inl rfl⟩)) (l_ka (by decide) l2) rfl ?_
  refine h_ld (t := 0) rfl (Or.inl ⟨rfl, Or.inl rfl⟩) (l_ki (by decide) l3) rfl ?_
  refine h_ic (b := 7) rfl (by decide) (by decide) ?_
  refine h_add rfl ?_
  refine h_ld (t := 0) rfl (Or.inl ⟨rfl, Or.inr rfl⟩) (l_ki (by decide) l4) rfl ?_
  refine h_ic (b := 1) rfl (by decide) (by decide) ?_
  refine h_sub rfl ?_
  refine h_ld (t := 0) rfl (Or.inl ⟨rfl, Or.inr rfl⟩) (l_ki (by decide) l5) rfl ?_
  refine h_ld (t := 0) rfl (Or.inl ⟨rfl, Or.inr rfl⟩) (l_ki (by decide) l6) rfl ?_
  refine h_153 (M0 := M) hB rfl (Nat.le_of_ble_eq_true rfl) s1 k1 ⟨by omega, by omega⟩ (by omega) hh fun r2 M2 n2 q2 H2 s2 x2 k2 t2 f2 => ?_
  refine h_st (t := 0) rfl (Or.inl ⟨rfl, Or.inr rfl⟩) rfl ?_
  refine h_ld (t := 0) rfl (Or.inl ⟨rfl, Or.inr rfl⟩) l_s rfl ?_
  have x2a := x2.1
  have k1a := k1.1
  refine h_b3 rfl ⟨by omega, by omega⟩ (fun g2 => ?_) fun _ => ?_
  rotate_left
  · skip
    refine h_ic (b := (-1)) rfl (by decide) (by decide) ?_
    refine h_go rfl ?_
    exact h_iret rfl rfl ⟨-1, M2, rfl, s2, k2, Or.inl rfl⟩
  have u2 : M1 1 7 ≤ r2 ∧ uS M2 r2 := by
    rcases t2 with h | h
    · omega
    · exact h
  refine h_ld (t := 2) rfl (Or.inr (Or.inl ⟨rfl, Or.inl rfl⟩)) (l_kr (by decide) (l_kr (by decide) l0)) rfl ?_
  refine h_ld (t := 2) rfl (Or.inr (Or.inl ⟨rfl, Or.inl rfl⟩)) (l_kr (by decide) (l_kr (by decide) l1)) rfl ?_
  refine h_ic (b := 4) rfl (by decide) (by decide) ?_
  refine h_ic (b := 0) rfl (by decide) (by decide) ?_
  refine h_ld (t := 0) rfl (Or.inl ⟨rfl, Or.inr rfl⟩) (l_ki (by decide) l_s) rfl ?_
  refine h_ld (t := 0) rfl (Or.inl ⟨rfl, Or.inr rfl⟩) l_s rfl ?_
  refine h_158 (M0 := M) rfl (Nat.le_of_ble_eq_true rfl) (by omega) s2 (Or.inr (Or.inr (Or.inl ⟨rfl, rfl, kx_uS x2 u1.2, u2.2, by omega⟩))) k2 (fun i h => by have := isQ_bc (by decide) h; omega) ?_
  intro r M9 n9 q9 H9 s1 s2 s3 s4 s5
  exact b_ret rfl s1 s2 s4 (by omega) (by omega)
theorem B_265 {L : zL} {x hc hl y kd : Int} (hd : 92 ≤ dd) (hB : bB sc dd l) (hS : sI H n q M e) (hL : bL L x ((l : Int) + 1) hc hl y kd) (hx : 0 ≤ x ∧ x + 20 * ((l : Int) + 1) ≤ 100000) (hh : (hc = 0 ∨ hc = 1) ∧ (hl = 0 ∨ hl = 1)) : hG sc zg_c153 zg_w153 dd 265 L [] n q H (bQ M e) := by
  obtain ⟨l0, l1, l2, l3, l4, l5, l6, l7, l9⟩ := hL
  have h13 := hS.2.1.2.2.1
  have h8 := hS.2.1.2.1
  have h90 := hS.2.1.1
  refine h_ld (t := 2) rfl (Or.inr (Or.inl ⟨rfl, Or.inl rfl⟩)) l0 rfl ?_
  refine h_ld (t := 2) rfl (Or.inr (Or.inl ⟨rfl, Or.inl rfl⟩)) l1 rfl ?_
  refine h_ld (t := 2) rfl (Or.inr (Or.inl ⟨rfl, Or.inl rfl⟩)) l2 rfl ?_
  refine h_ld (t := 0) rfl (Or.inl ⟨rfl, Or.inl rfl⟩) l3 rfl ?_
  refine h_ic (b := 2) rfl (by decide) (by decide) ?_
  refine h_add rfl ?_
  refine h_ld (t := 0) rfl (Or.inl ⟨rfl, Or.inr rfl⟩) l4 rfl ?_
  refine h_ic (b := 1) rfl (by decide) (by decide) ?_
  refine h_sub rfl ?_
  refine h_ld (t := 0) rfl (Or.inl ⟨rfl, Or.inr rfl⟩) l5 rfl ?_
  refine h_ld (t := 0) rfl (Or.inl ⟨rfl, Or.inr rfl⟩) l6 rfl ?_
  refine h_153 (M0 := M) hB rfl (Nat.le_of_ble_eq_true rfl) hS kx_rfl ⟨by omega, by omega⟩ (by omega) hh fun r1 M1 n1 q1 H1 s1 x1 k1 t1 f1 => ?_
  refine h_st (t := 0) rfl (Or.inl ⟨rfl, Or.inr rfl⟩) rfl ?_
  have c300 : ∀ (L : zL) (z : Int) (M2 : yM) (n2 q2 : Nat) (H2 : Nat → zO), L 0 = some (.ref 0) → L 1 = some (.ref 416) → L 7 = some (.int (yi y)) → L 12 = some (.int (yi r1)) → sI H2 n2 q2 M2 e → kx M M2 → kx M1 M2 → (z = -1 ∨ (M1 1 7 ≤ z ∧ uS M2 z)) → (-1 ≤ z ∧ z < 90 ∧ M2 1 7 ≤ 90 ∧ 0 ≤ M2 1 7) → hG sc zg_c153 zg_w153 dd 300 L [.int (yi z)] n2 q2 H2 (bQ M e) := by
    intro L z M2 n2 q2 H2 m0 m1 m7 m12 s2 k2 x2 t2 f2
    refine h_st (t := 0) rfl (Or.inl ⟨rfl, Or.inr rfl⟩) rfl ?_
    refine h_ld (t := 0) rfl (Or.inl ⟨rfl, Or.inr rfl⟩) (l_ki (by decide) m12) rfl ?_
    have x2a := x2.1
    have k1a := k1.1
    refine h_b3 rfl ⟨by omega, by omega⟩ (fun g2 => ?_) fun _ => ?_
    rotate_left
    · skip
      refine h_ic (b := (-1)) rfl (by decide) (by decide) ?_
      refine h_go rfl ?_
      exact h_iret rfl rfl ⟨-1, M2, rfl, s2, k2, Or.inl rfl⟩
    have u1 : M 1 7 ≤ r1 ∧ uS M1 r1 := by
      rcases t1 with h | h
      · omega
      · exact h
    have u1b := u1.2.1
    refine h_ld (t := 2) rfl (Or.inr (Or.inl ⟨rfl, Or.inl rfl⟩)) (l_kr (by decide) m0) rfl ?_
    refine h_ld (t := 2) rfl (Or.inr (Or.inl ⟨rfl, Or.inl rfl⟩)) (l_kr (by decide) m1) rfl ?_
    refine h_ic (b := 5) rfl (by decide) (by decide) ?_
    refine h_ld (t := 0) rfl (Or.inl ⟨rfl, Or.inr rfl⟩) (l_ki (by decide) m7) rfl ?_
    refine h_ic (b := 3) rfl (by decide) (by decide) ?_
    refine h_bin rfl (by decide) fun d1 hd1 => ?_
    refine h_159 rfl (Nat.le_of_ble_eq_true rfl) (by omega) fun o51 p51 => ?_
    refine h_ld (t := 0) rfl (Or.inl ⟨rfl, Or.inr rfl⟩) (l_ki (by decide) m12) rfl ?_
    refine h_ld (t := 0) rfl (Or.inl ⟨rfl, Or.inr rfl⟩) l_s rfl ?_
    have ne : r1 ≠ z := by
      rcases t2 with h | h
      · omega
      · have := h.1; omega
    have uz : z = -1 ∨ uS M2 z := by
      rcases t2 with h | h
      · exact Or.inl h
      · exact Or.inr h.2
    have zz : ∀ i : Nat, (i : Int) = z → M 1 7 ≤ (i : Int) := fun i hi => by
      rcases t2 with h | h
      · omega
      · have := h.1; omega
    refine h_158 (M0 := M) rfl (Nat.le_of_ble_eq_true rfl) (by omega) s2 (Or.inr (Or.inr (Or.inr (Or.inl ⟨rfl, oprd_a p51, kx_uS x2 u1.2, uz, ne⟩)))) k2 (fun i h => (isQ_bc (by decide) h).elim (fun h => by omega) (zz i)) ?_
    intro r M9 n9 q9 H9 s1 s2 s3 s4 s5
    exact b_ret rfl s1 s2 s4 (by omega) (by omega)
  refine h_ld (t := 0) rfl (Or.inl ⟨rfl, Or.inr rfl⟩) (l_ki (by decide) l7) rfl ?_
  refine h_ic (b := 6) rfl (by decide) (by decide) ?_
  refine h_bin rfl (by decide) fun d1 hd1 => ?_
  refine h_ic (b := 2) rfl (by decide) (by decide) ?_
  refine h_152 rfl (Nat.le_of_ble_eq_true rfl) (by omega) ⟨by omega, by omega⟩ fun r52 a52 b52 => ?_
  have c286 : hG sc zg_c153 zg_w153 dd 286 (zL_set L 12 (.int (yi r1))) [] n1 q1 H1 (bQ M e) := by
    refine h_ic (b := (-1)) rfl (by decide) (by decide) ?_
    refine h_go rfl ?_
    exact c300 _ (-1) M1 n1 q1 H1 (l_kr (by decide) l0) (l_kr (by decide) l1) (l_ki (by decide) l7) l_s s1 k1 kx_rfl (Or.inl rfl) ⟨by omega, by omega, by omega, by omega⟩
  refine h_b0 rfl ⟨by omega, by omega⟩ (fun _ => c286) fun _ => ?_
  refine h_ld (t := 0) rfl (Or.inl ⟨rfl, Or.inr rfl⟩) l_s rfl ?_
  refine h_b3 rfl ⟨by omega, by omega⟩ (fun g1 => ?_) fun _ => c286
  refine h_ld (t := 2) rfl (Or.inr (Or.inl ⟨rfl, Or.inl rfl⟩)) (l_kr (by decide) l0) rfl ?_
  refine h_ld (t := 2) rfl (Or.inr (Or.inl ⟨rfl, Or.inl rfl⟩)) (l_kr (by decide) l1) rfl ?_
  refine h_ld (t := 2) rfl (Or.inr (Or.inl ⟨rfl, Or.inl rfl⟩)) (l_ka (by decide) l2) rfl ?_
  refine h_ld (t := 0) rfl (Or.inl ⟨rfl, Or.inl rfl⟩) (l_ki (by decide) l3) rfl ?_
  refine h_ic (b := 9) rfl (by decide) (by decide) ?_
  refine h_add rfl ?_
  refine h_ld (t := 0) rfl (Or.inl ⟨rfl, Or.inr rfl⟩) (l_ki (by decide) l4) rfl ?_
  refine h_ic (b := 1) rfl (by decide) (by decide) ?_
  refine h_sub rfl ?_
  refine h_ld (t := 0) rfl (Or.inl ⟨rfl, Or.inr rfl⟩) (l_ki (by decide) l5) rfl ?_
  refine h_ld (t := 0) rfl (Or.inl ⟨rfl, Or.inr rfl⟩) (l_ki (by decide) l6) rfl ?_
  refine h_153 (M0 := M) hB rfl (Nat.le_of_ble_eq_true rfl) s1 k1 ⟨by omega, by omega⟩ (by omega) hh fun r2 M2 n2 q2 H2 s2 x2 k2 t2 f2 => ?_
  exact c300 _ r2 M2 n2 q2 H2 (l_kr (by decide) l0) (l_kr (by decide) l1) (l_ki (by decide) l7) l_s s2 k2 x2 t2 f2
theorem B_324 {L : zL} {x hc hl y kd : Int} (hd : 92 ≤ dd) (hB : bB sc dd l) (hS : sI H n q M e) (hL : bL L x ((l : Int) + 1) hc hl y kd) (hx : 0 ≤ x ∧ x + 20 * ((l : Int) + 1) ≤ 100000) (hh : (hc = 0 ∨ hc = 1) ∧ (hl = 0 ∨ hl = 1)) : hG sc zg_c153 zg_w153 dd 324 L [] n q H (bQ M e) := by
  obtain ⟨l0, l1, l2, l3, l4, l5, l6, l7, l9⟩ := hL
  have h13 := hS.2.1.2.2.1
  have h8 := hS.2.1.2.1
  have h90 := hS.2.1.1
  refine h_ld (t := 2) rfl (Or.inr (Or.inl ⟨rfl, Or.inl rfl⟩)) l0 rfl ?_
  refine h_ld (t := 2) rfl (Or.inr (Or.inl ⟨rfl, Or.inl rfl⟩)) l1 rfl ?_
  refine h_ld (t := 2) rfl (Or.inr (Or.inl ⟨rfl, Or.inl rfl⟩)) l2 rfl ?_
  refine h_ld (t := 0) rfl (Or.inl ⟨rfl, Or.inl rfl⟩) l3 rfl ?_
  refine h_ic (b := 5) rfl (by decide) (by decide) ?_
  refine h_add rfl ?_
  refine h_ld (t := 0) rfl (Or.inl ⟨rfl, Or.inr rfl⟩) l4 rfl ?_
  refine h_ic (b := 1) rfl (by decide) (by decide) ?_
  refine h_sub rfl ?_
  refine h_ld (t := 0) rfl (Or.inl ⟨rfl, Or.inr rfl⟩) l5 rfl ?_
  refine h_ld (t := 0) rfl (Or.inl ⟨rfl, Or.inr rfl⟩) l6 rfl ?_
  refine h_153 (M0 := M) hB rfl (Nat.le_of_ble_eq_true rfl) hS kx_rfl ⟨by omega, by omega⟩ (by omega) hh fun r1 M1 n1 q1 H1 s1 x1 k1 t1 f1 => ?_
  refine h_st (t := 0) rfl (Or.inl ⟨rfl, Or.inr rfl⟩) rfl ?_
  have k1a := k1.1
  have e10 := kx_10 k1
  refine h_ld (t := 0) rfl (Or.inl ⟨rfl, Or.inr rfl⟩) (l_ki (by decide) l7) rfl ?_
  refine h_ic (b := 3) rfl (by decide) (by decide) ?_
  refine h_bin rfl (by decide) fun d1 hd1 => ?_
  refine h_ld (t := 2) rfl (Or.inr (Or.inl ⟨rfl, Or.inl rfl⟩)) (l_kr (by decide) l1) rfl ?_
  refine h_len s1 rfl rfl (Or.inr (Or.inr ⟨rfl, rfl⟩)) ?_
  refine h_ic (b := 1) rfl (by decide) (by decide) ?_
  refine h_add rfl ?_
  refine h_152 rfl (Nat.le_of_ble_eq_true rfl) (by omega) ⟨by omega, by omega⟩ fun r21 a21 b21 => ?_
  refine h_ic (b := 1) rfl (by decide) (by decide) ?_
  refine h_sub rfl ?_
  refine h_st (t := 0) rfl (Or.inl ⟨rfl, Or.inr rfl⟩) rfl ?_
  refine h_ld (t := 0) rfl (Or.inl ⟨rfl, Or.inr rfl⟩) (l_ki (by decide) l_s) rfl ?_
  refine h_b3 rfl ⟨by omega, by omega⟩ (fun g1 => ?_) fun _ => ?_
  rotate_left
  · skip
    refine h_ic (b := (-1)) rfl (by decide) (by decide) ?_
    refine h_go rfl ?_
    exact h_iret rfl rfl ⟨-1, M1, rfl, s1, k1, Or.inl rfl⟩
  have u1 : M 1 7 ≤ r1 ∧ uS M1 r1 := by
    rcases t1 with h | h
    · omega
    · exact h
  refine h_ld (t := 2) rfl (Or.inr (Or.inl ⟨rfl, Or.inl rfl⟩)) (l_kr (by decide) (l_kr (by decide) l0)) rfl ?_
  refine h_ld (t := 2) rfl (Or.inr (Or.inl ⟨rfl, Or.inl rfl⟩)) (l_kr (by decide) (l_kr (by decide) l1)) rfl ?_
  refine h_ic (b := 13) rfl (by decide) (by decide) ?_
  refine h_ld (t := 0) rfl (Or.inl ⟨rfl, Or.inr rfl⟩) l_s rfl ?_
  refine h_ld (t := 0) rfl (Or.inl ⟨rfl, Or.inr rfl⟩) (l_ki (by decide) l_s) rfl ?_
  refine h_ld (t := 0) rfl (Or.inl ⟨rfl, Or.inr rfl⟩) l_s rfl ?_
  refine h_b3 rfl ⟨by omega, by omega⟩ (fun g2 => ?_) fun g2 => ?_
  · skip
    refine h_ld (t := 0) rfl (Or.inl ⟨rfl, Or.inr rfl⟩) (l_ki (by decide) (l_ki (by decide) l7)) rfl ?_
    refine h_ic (b := 6) rfl (by decide) (by decide) ?_
    refine h_bin rfl (by decide) fun d2 hd2 => ?_
    refine h_ld (t := 2) rfl (Or.inr (Or.inl ⟨rfl, Or.inl rfl⟩)) (l_kr (by decide) (l_kr (by decide) l1)) rfl ?_
    refine h_len s1 rfl rfl (Or.inr (Or.inr ⟨rfl, rfl⟩)) ?_
    refine h_ic (b := 1) rfl (by decide) (by decide) ?_
    refine h_add rfl ?_
    refine h_152 rfl (Nat.le_of_ble_eq_true rfl) (by omega) ⟨by omega, by omega⟩ fun r22 a22 b22 => ?_
    refine h_ic (b := 1) rfl (by decide) (by decide) ?_
    refine h_sub rfl ?_
    refine h_158 (M0 := M) rfl (Nat.le_of_ble_eq_true rfl) (by omega) s1 (Or.inr (Or.inr (Or.inr (Or.inr (Or.inr (Or.inr (Or.inr (Or.inr (Or.inr (Or.inr (Or.inl ⟨rfl, by omega, u1.2, by omega, by omega⟩))))))))))) k1 (fun i h => by have := isQ_b (by decide) h; omega) ?_
    intro r M9 n9 q9 H9 s1 s2 s3 s4 s5
    exact b_ret rfl s1 s2 s4 (by omega) (by omega)
  · skip
    refine h_ic (b := 0) rfl (by decide) (by decide) ?_
    refine h_go rfl ?_
    refine h_158 (M0 := M) rfl (Nat.le_of_ble_eq_true rfl) (by omega) s1 (Or.inr (Or.inr (Or.inr (Or.inr (Or.inr (Or.inr (Or.inr (Or.inr (Or.inr (Or.inr (Or.inl ⟨rfl, by omega, u1.2, by omega, by omega⟩))))))))))) k1 (fun i h => by have := isQ_b (by decide) h; omega) ?_
    intro r M9 n9 q9 H9 s1 s2 s3 s4 s5
    exact b_ret rfl s1 s2 s4 (by omega) (by omega)
end HrL
