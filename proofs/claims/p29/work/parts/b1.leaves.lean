/-! a statement, by the law: those without parts -/
theorem isQ_leaf {s a b c : Int} {i : Nat} (h : ¬ (s = 4 ∨ s = 5 ∨ s = 6 ∨ s = 11 ∨ s = 12 ∨ s = 13)) : ¬ isQ s a b c i := by
  intro q
  unfold isQ pA' pB' pC' at q
  rw [if_neg (by omega), if_neg (by omega), if_neg (by omega)] at q
  omega
def bL (L : zL) (x lv hc hl y kd : Int) : Prop := L 0 = some (.ref 0) ∧ L 1 = some (.ref 416) ∧ L 2 = some (.retAddr 0) ∧ L 3 = some (.int (yi x)) ∧ L 4 = some (.int (yi lv)) ∧ L 5 = some (.int (yi hc)) ∧ L 6 = some (.int (yi hl)) ∧ L 7 = some (.int (yi y)) ∧ L 9 = some (.int (yi kd))
/-- below, as a function -/
def blw (v : Int32) (m : Int) : Int := (zrem (zbin 26 v (yi 2147483647)) (yi m)).toInt
section HrJ
variable {sc : List Int32} {C : List zI} {W : List (List Nat)} {n q dd j e : Nat} {L : zL} {S : List Value} {H : Nat → zO} {Q : Option Value → Nat → Nat → (Nat → zO) → Prop} {pc ln x y z w : Nat} {M M' M1 : yM} {r s m : Int} {v : Int32}
theorem b_ret (hc : C[j]? = some (pc, ln, 85, x, y, 0, w)) (s1 : sI H n q M' e) (s2 : kx M M') (s4 : r = -1 ∨ (r = M1 1 7 ∧ M' 1 7 = M1 1 7 + 1 ∧ (s = 12 → uC M' r) ∧ (s ≠ 12 → uS M' r))) (hs : s ≠ 12) (hM : M 1 7 ≤ M1 1 7) : hG sc C W dd j L [.int (yi r)] n q H (bQ M e) := by
  refine h_iret hc rfl ⟨r, M', rfl, s1, s2, ?_⟩
  rcases s4 with h | ⟨h, -, -, h3⟩
  · exact Or.inl h
  · exact Or.inr ⟨by omega, h3 hs⟩
theorem h_152e (hc : C[j]? = some (pc, ln, 96, 152, 2, z, w)) (h4 : zwd S ≤ 8) (hd : 1 ≤ dd) (hm : 1 ≤ m ∧ m ≤ 2147483647) (hk : 0 ≤ blw v m → blw v m < m → hG sc C W dd (j + 1) L (.int (yi (blw v m)) :: S) n q H Q) : hG sc C W dd j L (.int (yi m) :: .int v :: S) n q H Q := by
  obtain ⟨t, ht, h0, h1⟩ := lw_and v
  have e1 : zrem (zbin 26 v (yi 2147483647)) (yi m) = yi (t % m) := by rw [ht, lw_rem ⟨h0, h1⟩ hm]
  have b0 := Int.emod_nonneg t (show m ≠ 0 by omega)
  have b1 := Int.emod_lt_of_pos t (show 0 < m by omega)
  have e2 : blw v m = t % m := by
    unfold blw
    rw [e1]
    exact yw_of (by omega) (by omega)
  have hk' := hk (by omega) (by omega)
  obtain ⟨d', rfl⟩ : ∃ e, dd = e + 1 := ⟨dd - 1, by omega⟩
  refine h_stat (as := [.int v, .int (yi m)]) hc (Or.inl rfl) rfl h4 (P := fun u n' q' H' => u = some (.int (yi (blw v m))) ∧ n' = n ∧ q' = q ∧ H' = H) ?_ ?_
  · refine h_meth (C := zg_c152) (W := zg_w152) (ml := 2) rfl rfl (Nat.le_of_ble_eq_true rfl) ?_
    refine h_ld (t := 0) rfl (Or.inl ⟨rfl, Or.inl rfl⟩) rfl rfl ?_
    refine h_ic (b := 2147483647) rfl (by decide) (by decide) ?_
    refine h_lift ?_ fun _ _ _ _ h => r_bin rfl (by decide) h
    refine h_ld (t := 0) rfl (Or.inl ⟨rfl, Or.inl rfl⟩) rfl rfl ?_
    have hc : ¬ yi m = 0 := fun e => by
      have e2 : (yi m).toInt = m := yw_of (by omega) (by omega)
      rw [e] at e2
      have e3 : (0 : Int32).toInt = 0 := rfl
      omega
    refine h_lift ?_ fun _ _ _ _ h => r_div rfl (by decide) hc h
    rw [if_pos rfl]
    exact h_iret rfl rfl ⟨by unfold blw; rw [yi_w], rfl, rfl, rfl⟩
  · rintro u n1 q1 H1 ⟨e1, e2, e3, e4⟩
    rw [e1, e2, e3, e4]
    exact hk'
end HrJ
section HrK
variable {sc : List Int32} {n q dd e : Nat} {H : Nat → zO} {M : yM}
theorem B_35 {L : zL} {x lv hc hl y kd : Int} (hd : 7 ≤ dd) (hS : sI H n q M e) (hL : bL L x lv hc hl y kd) (hk : 0 ≤ kd ∧ kd < M 1 0) : hG sc zg_c153 zg_w153 dd 35 L [] n q H (bQ M e) := by
  obtain ⟨l0, l1, l2, l3, l4, l5, l6, l7, l9⟩ := hL
  have h13 := hS.2.1.2.2.1
  have h8 := hS.2.1.2.1
  have h90 := hS.2.1.1
  refine h_ld (t := 2) rfl (Or.inr (Or.inl ⟨rfl, Or.inl rfl⟩)) l0 rfl ?_
  refine h_ld (t := 2) rfl (Or.inr (Or.inl ⟨rfl, Or.inl rfl⟩)) l1 rfl ?_
  refine h_ic (b := 0) rfl (by decide) (by decide) ?_
  refine h_ld (t := 0) rfl (Or.inl ⟨rfl, Or.inr rfl⟩) l7 rfl ?_
  refine h_ic (b := 3) rfl (by decide) (by decide) ?_
  refine h_bin rfl (by decide) fun d1 hd1 => ?_
  refine h_ic (b := 4) rfl (by decide) (by decide) ?_
  refine h_152 rfl (Nat.le_of_ble_eq_true rfl) (by omega) ⟨by omega, by omega⟩ fun r1 a1 b1 => ?_
  refine h_ld (t := 0) rfl (Or.inl ⟨rfl, Or.inr rfl⟩) l7 rfl ?_
  refine h_ic (b := 5) rfl (by decide) (by decide) ?_
  refine h_bin rfl (by decide) fun d2 hd2 => ?_
  refine h_159 rfl (Nat.le_of_ble_eq_true rfl) (by omega) fun o2 p2 => ?_
  refine h_ic (b := 0) rfl (by decide) (by decide) ?_
  refine h_158 (M0 := M) rfl (Nat.le_of_ble_eq_true rfl) (by omega) hS (Or.inl ⟨by omega, ⟨by omega, by omega⟩, oprd_a p2, rfl⟩) kx_rfl (fun i h => absurd h (isQ_leaf (by omega))) ?_
  intro r M9 n9 q9 H9 s1 s2 s3 s4 s5
  exact b_ret rfl s1 s2 s4 (by omega) (Int.le_refl _)
theorem B_50 {L : zL} {x lv hc hl y kd : Int} (hd : 7 ≤ dd) (hS : sI H n q M e) (hL : bL L x lv hc hl y kd) (hk : 0 ≤ kd ∧ kd < M 1 0) : hG sc zg_c153 zg_w153 dd 50 L [] n q H (bQ M e) := by
  obtain ⟨l0, l1, l2, l3, l4, l5, l6, l7, l9⟩ := hL
  have h13 := hS.2.1.2.2.1
  have h8 := hS.2.1.2.1
  have h90 := hS.2.1.1
  refine h_ld (t := 2) rfl (Or.inr (Or.inl ⟨rfl, Or.inl rfl⟩)) l0 rfl ?_
  refine h_ld (t := 2) rfl (Or.inr (Or.inl ⟨rfl, Or.inl rfl⟩)) l1 rfl ?_
  refine h_ic (b := 1) rfl (by decide) (by decide) ?_
  refine h_ld (t := 0) rfl (Or.inl ⟨rfl, Or.inr rfl⟩) l7 rfl ?_
  refine h_ic (b := 3) rfl (by decide) (by decide) ?_
  refine h_bin rfl (by decide) fun d1 hd1 => ?_
  refine h_ic (b := 4) rfl (by decide) (by decide) ?_
  refine h_152 rfl (Nat.le_of_ble_eq_true rfl) (by omega) ⟨by omega, by omega⟩ fun r1 a1 b1 => ?_
  refine h_ld (t := 0) rfl (Or.inl ⟨rfl, Or.inr rfl⟩) l7 rfl ?_
  refine h_ic (b := 5) rfl (by decide) (by decide) ?_
  refine h_bin rfl (by decide) fun d2 hd2 => ?_
  refine h_159 rfl (Nat.le_of_ble_eq_true rfl) (by omega) fun o2 p2 => ?_
  refine h_ic (b := 0) rfl (by decide) (by decide) ?_
  refine h_158 (M0 := M) rfl (Nat.le_of_ble_eq_true rfl) (by omega) hS (Or.inl ⟨by omega, ⟨by omega, by omega⟩, oprd_a p2, rfl⟩) kx_rfl (fun i h => absurd h (isQ_leaf (by omega))) ?_
  intro r M9 n9 q9 H9 s1 s2 s3 s4 s5
  exact b_ret rfl s1 s2 s4 (by omega) (Int.le_refl _)
theorem B_65 {L : zL} {x lv hc hl y kd : Int} (hd : 7 ≤ dd) (hS : sI H n q M e) (hL : bL L x lv hc hl y kd) (hk : 0 ≤ kd ∧ kd < M 1 0) : hG sc zg_c153 zg_w153 dd 65 L [] n q H (bQ M e) := by
  obtain ⟨l0, l1, l2, l3, l4, l5, l6, l7, l9⟩ := hL
  have h13 := hS.2.1.2.2.1
  have h8 := hS.2.1.2.1
  have h90 := hS.2.1.1
  refine h_ld (t := 2) rfl (Or.inr (Or.inl ⟨rfl, Or.inl rfl⟩)) l0 rfl ?_
  refine h_ld (t := 2) rfl (Or.inr (Or.inl ⟨rfl, Or.inl rfl⟩)) l1 rfl ?_
  refine h_ic (b := 3) rfl (by decide) (by decide) ?_
  refine h_ic (b := 0) rfl (by decide) (by decide) ?_
  refine h_ld (t := 0) rfl (Or.inl ⟨rfl, Or.inr rfl⟩) l7 rfl ?_
  refine h_ic (b := 5) rfl (by decide) (by decide) ?_
  refine h_bin rfl (by decide) fun d1 hd1 => ?_
  refine h_159 rfl (Nat.le_of_ble_eq_true rfl) (by omega) fun o1 p1 => ?_
  refine h_ic (b := 0) rfl (by decide) (by decide) ?_
  refine h_158 (M0 := M) rfl (Nat.le_of_ble_eq_true rfl) (by omega) hS (Or.inr (Or.inl ⟨by omega, rfl, oprd_a p1, rfl⟩)) kx_rfl (fun i h => absurd h (isQ_leaf (by omega))) ?_
  intro r M9 n9 q9 H9 s1 s2 s3 s4 s5
  exact b_ret rfl s1 s2 s4 (by omega) (Int.le_refl _)
theorem B_76 {L : zL} {x lv hc hl y kd : Int} (hd : 7 ≤ dd) (hS : sI H n q M e) (hL : bL L x lv hc hl y kd) (hk : 0 ≤ kd ∧ kd < M 1 0) : hG sc zg_c153 zg_w153 dd 76 L [] n q H (bQ M e) := by
  obtain ⟨l0, l1, l2, l3, l4, l5, l6, l7, l9⟩ := hL
  have h13 := hS.2.1.2.2.1
  have h8 := hS.2.1.2.1
  have h90 := hS.2.1.1
  refine h_ld (t := 2) rfl (Or.inr (Or.inl ⟨rfl, Or.inl rfl⟩)) l0 rfl ?_
  refine h_ld (t := 2) rfl (Or.inr (Or.inl ⟨rfl, Or.inl rfl⟩)) l1 rfl ?_
  refine h_ic (b := 2) rfl (by decide) (by decide) ?_
  refine h_ld (t := 0) rfl (Or.inl ⟨rfl, Or.inr rfl⟩) l7 rfl ?_
  refine h_ic (b := 3) rfl (by decide) (by decide) ?_
  refine h_bin rfl (by decide) fun d1 hd1 => ?_
  refine h_ic (b := 4) rfl (by decide) (by decide) ?_
  refine h_152 rfl (Nat.le_of_ble_eq_true rfl) (by omega) ⟨by omega, by omega⟩ fun r1 a1 b1 => ?_
  refine h_ld (t := 0) rfl (Or.inl ⟨rfl, Or.inr rfl⟩) l7 rfl ?_
  refine h_ic (b := 5) rfl (by decide) (by decide) ?_
  refine h_bin rfl (by decide) fun d2 hd2 => ?_
  refine h_159 rfl (Nat.le_of_ble_eq_true rfl) (by omega) fun o2 p2 => ?_
  refine h_ic (b := 0) rfl (by decide) (by decide) ?_
  refine h_158 (M0 := M) rfl (Nat.le_of_ble_eq_true rfl) (by omega) hS (Or.inl ⟨by omega, ⟨by omega, by omega⟩, oprd_a p2, rfl⟩) kx_rfl (fun i h => absurd h (isQ_leaf (by omega))) ?_
  intro r M9 n9 q9 H9 s1 s2 s3 s4 s5
  exact b_ret rfl s1 s2 s4 (by omega) (Int.le_refl _)
theorem B_91 {L : zL} {x lv hc hl y kd : Int} (hd : 7 ≤ dd) (hS : sI H n q M e) (hL : bL L x lv hc hl y kd) (hk : 0 ≤ kd ∧ kd < M 1 0) : hG sc zg_c153 zg_w153 dd 91 L [] n q H (bQ M e) := by
  obtain ⟨l0, l1, l2, l3, l4, l5, l6, l7, l9⟩ := hL
  have h13 := hS.2.1.2.2.1
  have h8 := hS.2.1.2.1
  have h90 := hS.2.1.1
  refine h_ld (t := 2) rfl (Or.inr (Or.inl ⟨rfl, Or.inl rfl⟩)) l0 rfl ?_
  refine h_ld (t := 2) rfl (Or.inr (Or.inl ⟨rfl, Or.inl rfl⟩)) l1 rfl ?_
  refine h_ic (b := 10) rfl (by decide) (by decide) ?_
  refine h_ld (t := 0) rfl (Or.inl ⟨rfl, Or.inr rfl⟩) l9 rfl ?_
  refine h_ld (t := 0) rfl (Or.inl ⟨rfl, Or.inr rfl⟩) l7 rfl ?_
  refine h_ic (b := 5) rfl (by decide) (by decide) ?_
  refine h_bin rfl (by decide) fun d1 hd1 => ?_
  refine h_159 rfl (Nat.le_of_ble_eq_true rfl) (by omega) fun o1 p1 => ?_
  refine h_ic (b := 0) rfl (by decide) (by decide) ?_
  refine h_158 (M0 := M) rfl (Nat.le_of_ble_eq_true rfl) (by omega) hS (Or.inr (Or.inr (Or.inr (Or.inr (Or.inr (Or.inr (Or.inr (Or.inl ⟨by omega, ⟨by omega, by omega⟩, oprd_a p1, rfl⟩)))))))) kx_rfl (fun i h => absurd h (isQ_leaf (by omega))) ?_
  intro r M9 n9 q9 H9 s1 s2 s3 s4 s5
  exact b_ret rfl s1 s2 s4 (by omega) (Int.le_refl _)
theorem B_201 {L : zL} {x lv hc hl y kd : Int} (hd : 7 ≤ dd) (hS : sI H n q M e) (hL : bL L x lv hc hl y kd) (hk : 0 ≤ kd ∧ kd < M 1 0) : hG sc zg_c153 zg_w153 dd 201 L [] n q H (bQ M e) := by
  obtain ⟨l0, l1, l2, l3, l4, l5, l6, l7, l9⟩ := hL
  have h13 := hS.2.1.2.2.1
  have h8 := hS.2.1.2.1
  have h90 := hS.2.1.1
  refine h_ld (t := 2) rfl (Or.inr (Or.inl ⟨rfl, Or.inl rfl⟩)) l0 rfl ?_
  refine h_ld (t := 2) rfl (Or.inr (Or.inl ⟨rfl, Or.inl rfl⟩)) l1 rfl ?_
  refine h_ic (b := 9) rfl (by decide) (by decide) ?_
  refine h_ld (t := 0) rfl (Or.inl ⟨rfl, Or.inr rfl⟩) l7 rfl ?_
  refine h_ic (b := 3) rfl (by decide) (by decide) ?_
  refine h_bin rfl (by decide) fun d1 hd1 => ?_
  refine h_ic (b := 4) rfl (by decide) (by decide) ?_
  refine h_152 rfl (Nat.le_of_ble_eq_true rfl) (by omega) ⟨by omega, by omega⟩ fun r1 a1 b1 => ?_
  refine h_ld (t := 0) rfl (Or.inl ⟨rfl, Or.inr rfl⟩) l7 rfl ?_
  refine h_ic (b := 5) rfl (by decide) (by decide) ?_
  refine h_bin rfl (by decide) fun d2 hd2 => ?_
  refine h_ld (t := 2) rfl (Or.inr (Or.inl ⟨rfl, Or.inl rfl⟩)) l1 rfl ?_
  refine h_len hS rfl rfl (Or.inr (Or.inr ⟨rfl, rfl⟩)) ?_
  refine h_152 rfl (Nat.le_of_ble_eq_true rfl) (by omega) ⟨by omega, by omega⟩ fun r2 a2 b2 => ?_
  refine h_ic (b := 0) rfl (by decide) (by decide) ?_
  refine h_158 (M0 := M) rfl (Nat.le_of_ble_eq_true rfl) (by omega) hS (Or.inr (Or.inr (Or.inr (Or.inr (Or.inr (Or.inr (Or.inl ⟨rfl, ⟨by omega, by omega⟩, ⟨by omega, by omega⟩, rfl⟩))))))) kx_rfl (fun i h => absurd h (isQ_leaf (by omega))) ?_
  intro r M9 n9 q9 H9 s1 s2 s3 s4 s5
  exact b_ret rfl s1 s2 s4 (by omega) (Int.le_refl _)
theorem B_102 {L : zL} {x lv hc hl y kd : Int} (hd : 7 ≤ dd) (hS : sI H n q M e) (hL : bL L x lv hc hl y kd) (hk : 0 ≤ kd ∧ kd < M 1 0) (hh : hc = 0 ∨ hc = 1) : hG sc zg_c153 zg_w153 dd 102 L [] n q H (bQ M e) := by
  obtain ⟨l0, l1, l2, l3, l4, l5, l6, l7, l9⟩ := hL
  have h13 := hS.2.1.2.2.1
  have h8 := hS.2.1.2.1
  have h90 := hS.2.1.1
  refine h_ld (t := 0) rfl (Or.inl ⟨rfl, Or.inr rfl⟩) l5 rfl ?_
  refine h_b0 rfl ⟨by omega, by omega⟩ (fun _ => ?_) fun _ => ?_
  · skip
    refine h_ld (t := 2) rfl (Or.inr (Or.inl ⟨rfl, Or.inl rfl⟩)) l0 rfl ?_
    refine h_ld (t := 2) rfl (Or.inr (Or.inl ⟨rfl, Or.inl rfl⟩)) l1 rfl ?_
    refine h_ic (b := 18) rfl (by decide) (by decide) ?_
    refine h_ld (t := 0) rfl (Or.inl ⟨rfl, Or.inr rfl⟩) l7 rfl ?_
    refine h_ic (b := 3) rfl (by decide) (by decide) ?_
    refine h_bin rfl (by decide) fun d1 hd1 => ?_
    refine h_ic (b := 4) rfl (by decide) (by decide) ?_
    refine h_152 rfl (Nat.le_of_ble_eq_true rfl) (by omega) ⟨by omega, by omega⟩ fun r1 a1 b1 => ?_
    refine h_ic (b := 0) rfl (by decide) (by decide) ?_
    refine h_ic (b := 0) rfl (by decide) (by decide) ?_
    refine h_158 (M0 := M) rfl (Nat.le_of_ble_eq_true rfl) (by omega) hS (Or.inr (Or.inr (Or.inr (Or.inr (Or.inr (Or.inr (Or.inr (Or.inr (Or.inr (Or.inr (Or.inr (⟨by omega, ⟨by omega, by omega⟩, rfl, rfl⟩)))))))))))) kx_rfl (fun i h => absurd h (isQ_leaf (by omega))) ?_
    intro r M9 n9 q9 H9 s1 s2 s3 s4 s5
    exact b_ret rfl s1 s2 s4 (by omega) (Int.le_refl _)
  · skip
    refine h_ld (t := 2) rfl (Or.inr (Or.inl ⟨rfl, Or.inl rfl⟩)) l0 rfl ?_
    refine h_ld (t := 2) rfl (Or.inr (Or.inl ⟨rfl, Or.inl rfl⟩)) l1 rfl ?_
    refine h_ic (b := 14) rfl (by decide) (by decide) ?_
    refine h_ld (t := 0) rfl (Or.inl ⟨rfl, Or.inr rfl⟩) l7 rfl ?_
    refine h_ic (b := 6) rfl (by decide) (by decide) ?_
    refine h_bin rfl (by decide) fun d2 hd2 => ?_
    refine h_ic (b := 2) rfl (by decide) (by decide) ?_
    refine h_152e rfl (Nat.le_of_ble_eq_true rfl) (by omega) ⟨by omega, by omega⟩ fun a5 b5 => ?_
    refine h_add rfl ?_
    refine h_ld (t := 0) rfl (Or.inl ⟨rfl, Or.inr rfl⟩) l7 rfl ?_
    refine h_ic (b := 6) rfl (by decide) (by decide) ?_
    refine h_bin rfl (by decide) fun d3 hd3 => ?_
    refine h_ic (b := 2) rfl (by decide) (by decide) ?_
    refine h_152e rfl (Nat.le_of_ble_eq_true rfl) (by omega) ⟨by omega, by omega⟩ fun a6 b6 => ?_
    have e12 : blw (yi d3) 2 = blw (yi d2) 2 := by rw [hd3, hd2]
    rw [e12]
    by_cases ht : blw (yi d2) 2 = 0
    · skip
      refine h_b1 rfl ⟨by omega, by omega⟩ (fun h => absurd ht h) fun h => ?_
      refine h_ic (b := 0) rfl (by decide) (by decide) ?_
      refine h_go rfl ?_
      refine h_ld (t := 0) rfl (Or.inl ⟨rfl, Or.inr rfl⟩) l7 rfl ?_
      refine h_ic (b := 6) rfl (by decide) (by decide) ?_
      refine h_bin rfl (by decide) fun d4 hd4 => ?_
      refine h_ic (b := 2) rfl (by decide) (by decide) ?_
      refine h_152e rfl (Nat.le_of_ble_eq_true rfl) (by omega) ⟨by omega, by omega⟩ fun a7 b7 => ?_
      have e13 : blw (yi d4) 2 = blw (yi d2) 2 := by rw [hd4, hd2]
      rw [e13]
      refine h_b1 rfl ⟨by omega, by omega⟩ (fun h => absurd ht h) fun h => ?_
      refine h_ic (b := 0) rfl (by decide) (by decide) ?_
      refine h_go rfl ?_
      refine h_ic (b := 0) rfl (by decide) (by decide) ?_
      refine h_158 (M0 := M) rfl (Nat.le_of_ble_eq_true rfl) (by omega) hS (Or.inr (Or.inr (Or.inr (Or.inr (Or.inr (Or.inl ⟨by omega, rfl, rfl, rfl⟩)))))) kx_rfl (fun i h => absurd h (isQ_leaf (by omega))) ?_
      intro r M9 n9 q9 H9 s1 s2 s3 s4 s5
      refine h_go rfl ?_
      exact b_ret rfl s1 s2 s4 (by omega) (Int.le_refl _)
    · skip
      refine h_b1 rfl ⟨by omega, by omega⟩ (fun h => ?_) fun h => absurd h ht
      refine h_ld (t := 0) rfl (Or.inl ⟨rfl, Or.inr rfl⟩) l9 rfl ?_
      refine h_ld (t := 0) rfl (Or.inl ⟨rfl, Or.inr rfl⟩) l7 rfl ?_
      refine h_ic (b := 6) rfl (by decide) (by decide) ?_
      refine h_bin rfl (by decide) fun d4 hd4 => ?_
      refine h_ic (b := 2) rfl (by decide) (by decide) ?_
      refine h_152e rfl (Nat.le_of_ble_eq_true rfl) (by omega) ⟨by omega, by omega⟩ fun a7 b7 => ?_
      have e13 : blw (yi d4) 2 = blw (yi d2) 2 := by rw [hd4, hd2]
      rw [e13]
      refine h_b1 rfl ⟨by omega, by omega⟩ (fun h => ?_) fun h => absurd h ht
      refine h_ld (t := 0) rfl (Or.inl ⟨rfl, Or.inr rfl⟩) l7 rfl ?_
      refine h_ic (b := 7) rfl (by decide) (by decide) ?_
      refine h_bin rfl (by decide) fun d5 hd5 => ?_
      refine h_159 rfl (Nat.le_of_ble_eq_true rfl) (by omega) fun o2 p2 => ?_
      refine h_ic (b := 0) rfl (by decide) (by decide) ?_
      refine h_158 (M0 := M) rfl (Nat.le_of_ble_eq_true rfl) (by omega) hS (Or.inr (Or.inr (Or.inr (Or.inr (Or.inr (Or.inr (Or.inr (Or.inl ⟨by omega, ⟨by omega, by omega⟩, oprd_a p2, rfl⟩)))))))) kx_rfl (fun i h => absurd h (isQ_leaf (by omega))) ?_
      intro r M9 n9 q9 H9 s1 s2 s3 s4 s5
      refine h_go rfl ?_
      exact b_ret rfl s1 s2 s4 (by omega) (Int.le_refl _)
theorem B_149 {L : zL} {x lv hc hl y kd : Int} (hd : 7 ≤ dd) (hS : sI H n q M e) (hL : bL L x lv hc hl y kd) (hk : 0 ≤ kd ∧ kd < M 1 0) (hh : hc = 0 ∨ hc = 1) : hG sc zg_c153 zg_w153 dd 149 L [] n q H (bQ M e) := by
  obtain ⟨l0, l1, l2, l3, l4, l5, l6, l7, l9⟩ := hL
  have h13 := hS.2.1.2.2.1
  have h8 := hS.2.1.2.1
  have h90 := hS.2.1.1
  refine h_ld (t := 0) rfl (Or.inl ⟨rfl, Or.inr rfl⟩) l5 rfl ?_
  refine h_b0 rfl ⟨by omega, by omega⟩ (fun _ => ?_) fun _ => ?_
  · skip
    refine h_ld (t := 2) rfl (Or.inr (Or.inl ⟨rfl, Or.inl rfl⟩)) l0 rfl ?_
    refine h_ld (t := 2) rfl (Or.inr (Or.inl ⟨rfl, Or.inl rfl⟩)) l1 rfl ?_
    refine h_ic (b := 8) rfl (by decide) (by decide) ?_
    refine h_ic (b := 0) rfl (by decide) (by decide) ?_
    refine h_ld (t := 0) rfl (Or.inl ⟨rfl, Or.inr rfl⟩) l7 rfl ?_
    refine h_ic (b := 5) rfl (by decide) (by decide) ?_
    refine h_bin rfl (by decide) fun d1 hd1 => ?_
    refine h_159 rfl (Nat.le_of_ble_eq_true rfl) (by omega) fun o1 p1 => ?_
    refine h_ic (b := 0) rfl (by decide) (by decide) ?_
    refine h_158 (M0 := M) rfl (Nat.le_of_ble_eq_true rfl) (by omega) hS (Or.inr (Or.inl ⟨by omega, rfl, oprd_a p1, rfl⟩)) kx_rfl (fun i h => absurd h (isQ_leaf (by omega))) ?_
    intro r M9 n9 q9 H9 s1 s2 s3 s4 s5
    exact b_ret rfl s1 s2 s4 (by omega) (Int.le_refl _)
  · skip
    refine h_ld (t := 2) rfl (Or.inr (Or.inl ⟨rfl, Or.inl rfl⟩)) l0 rfl ?_
    refine h_ld (t := 2) rfl (Or.inr (Or.inl ⟨rfl, Or.inl rfl⟩)) l1 rfl ?_
    refine h_ic (b := 16) rfl (by decide) (by decide) ?_
    refine h_ld (t := 0) rfl (Or.inl ⟨rfl, Or.inr rfl⟩) l7 rfl ?_
    refine h_ic (b := 6) rfl (by decide) (by decide) ?_
    refine h_bin rfl (by decide) fun d2 hd2 => ?_
    refine h_ic (b := 2) rfl (by decide) (by decide) ?_
    refine h_152 rfl (Nat.le_of_ble_eq_true rfl) (by omega) ⟨by omega, by omega⟩ fun r2 a2 b2 => ?_
    refine h_add rfl ?_
    refine h_ld (t := 0) rfl (Or.inl ⟨rfl, Or.inr rfl⟩) l7 rfl ?_
    refine h_ic (b := 3) rfl (by decide) (by decide) ?_
    refine h_bin rfl (by decide) fun d3 hd3 => ?_
    refine h_ic (b := 4) rfl (by decide) (by decide) ?_
    refine h_152 rfl (Nat.le_of_ble_eq_true rfl) (by omega) ⟨by omega, by omega⟩ fun r3 a3 b3 => ?_
    refine h_ic (b := 0) rfl (by decide) (by decide) ?_
    refine h_ic (b := 0) rfl (by decide) (by decide) ?_
    refine h_158 (M0 := M) rfl (Nat.le_of_ble_eq_true rfl) (by omega) hS (Or.inr (Or.inr (Or.inr (Or.inr (Or.inr (Or.inr (Or.inr (Or.inr (Or.inr (Or.inr (Or.inr (⟨by omega, ⟨by omega, by omega⟩, rfl, rfl⟩)))))))))))) kx_rfl (fun i h => absurd h (isQ_leaf (by omega))) ?_
    intro r M9 n9 q9 H9 s1 s2 s3 s4 s5
    refine h_go rfl ?_
    exact b_ret rfl s1 s2 s4 (by omega) (Int.le_refl _)
theorem B_180 {L : zL} {x lv hc hl y kd : Int} (hd : 7 ≤ dd) (hS : sI H n q M e) (hL : bL L x lv hc hl y kd) (hk : 0 ≤ kd ∧ kd < M 1 0) (hh : hl = 0 ∨ hl = 1) : hG sc zg_c153 zg_w153 dd 180 L [] n q H (bQ M e) := by
  obtain ⟨l0, l1, l2, l3, l4, l5, l6, l7, l9⟩ := hL
  have h13 := hS.2.1.2.2.1
  have h8 := hS.2.1.2.1
  have h90 := hS.2.1.1
  refine h_ld (t := 0) rfl (Or.inl ⟨rfl, Or.inr rfl⟩) l6 rfl ?_
  refine h_b0 rfl ⟨by omega, by omega⟩ (fun _ => ?_) fun _ => ?_
  · skip
    refine h_ld (t := 2) rfl (Or.inr (Or.inl ⟨rfl, Or.inl rfl⟩)) l0 rfl ?_
    refine h_ld (t := 2) rfl (Or.inr (Or.inl ⟨rfl, Or.inl rfl⟩)) l1 rfl ?_
    refine h_ic (b := 3) rfl (by decide) (by decide) ?_
    refine h_ic (b := 0) rfl (by decide) (by decide) ?_
    refine h_ld (t := 0) rfl (Or.inl ⟨rfl, Or.inr rfl⟩) l7 rfl ?_
    refine h_ic (b := 5) rfl (by decide) (by decide) ?_
    refine h_bin rfl (by decide) fun d1 hd1 => ?_
    refine h_159 rfl (Nat.le_of_ble_eq_true rfl) (by omega) fun o1 p1 => ?_
    refine h_ic (b := 0) rfl (by decide) (by decide) ?_
    refine h_158 (M0 := M) rfl (Nat.le_of_ble_eq_true rfl) (by omega) hS (Or.inr (Or.inl ⟨by omega, rfl, oprd_a p1, rfl⟩)) kx_rfl (fun i h => absurd h (isQ_leaf (by omega))) ?_
    intro r M9 n9 q9 H9 s1 s2 s3 s4 s5
    exact b_ret rfl s1 s2 s4 (by omega) (Int.le_refl _)
  · skip
    refine h_ld (t := 2) rfl (Or.inr (Or.inl ⟨rfl, Or.inl rfl⟩)) l0 rfl ?_
    refine h_ld (t := 2) rfl (Or.inr (Or.inl ⟨rfl, Or.inl rfl⟩)) l1 rfl ?_
    refine h_ic (b := 7) rfl (by decide) (by decide) ?_
    refine h_ic (b := 0) rfl (by decide) (by decide) ?_
    refine h_ic (b := 0) rfl (by decide) (by decide) ?_
    refine h_ic (b := 0) rfl (by decide) (by decide) ?_
    refine h_158 (M0 := M) rfl (Nat.le_of_ble_eq_true rfl) (by omega) hS (Or.inr (Or.inr (Or.inr (Or.inr (Or.inr (Or.inl ⟨by omega, rfl, rfl, rfl⟩)))))) kx_rfl (fun i h => absurd h (isQ_leaf (by omega))) ?_
    intro r M9 n9 q9 H9 s1 s2 s3 s4 s5
    refine h_go rfl ?_
    exact b_ret rfl s1 s2 s4 (by omega) (Int.le_refl _)
end HrK
