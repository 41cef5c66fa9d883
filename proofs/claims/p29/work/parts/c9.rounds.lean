/-! the law: four runs -/
section HrZ
variable {sc : List Int32} {dd K : Nat}
theorem law_79 (hd : 330 ≤ dd) (hK : 1000000 ≤ K) (hs : sc.length ≤ 1048576) (c176 : ∀ (L : zL) (n q : Nat) (H : Nat → zO) (M : yM) (mo de : Int), L 0 = some (.retAddr 0) → L 1 = some (.ref 0) → L 2 = some (.ref 416) → lawJ H n q M → fst' K M → M 18 4 = 0 → clo M → 0 < M 1 7 → rnd M 196 mo de → hG sc zg_c171 zg_w171 dd 176 L [] n q H lawQ) : ∀ (g r : Nat) (L : zL) (n q : Nat) (H : Nat → zO) (M : yM), r + g = 4 → L 0 = some (.retAddr 0) → L 1 = some (.ref 0) → L 2 = some (.ref 416) → L 3 = some (.int (yi (r : Int))) → lawJ H n q M → fst' K M → M 18 4 = 0 → clo M → 0 < M 1 7 → (1 ≤ M 0 9 ∧ M 0 9 ≤ 900) → M 0 7 = (r : Int) % 2 → (r = 0 ∨ ∃ mo de, rnd M 196 mo de) → hG sc zg_c171 zg_w171 dd 79 L [] n q H lawQ := by
  intro g
  induction g with
  | zero =>
    intro r L n q H M hr l0 l1 l2 l3 hJ hF hz hc h17 h09 h07 hrd
    refine h_ld (t := 0) rfl (Or.inl ⟨rfl, Or.inl rfl⟩) l3 rfl ?_
    refine h_ic (b := 4) rfl (by decide) (by decide) ?_
    refine h_c3 rfl ⟨⟨by omega, by omega⟩, ⟨by decide, by decide⟩⟩ (fun _ => ?_) fun h => absurd h (by omega)
    rcases hrd with h | ⟨mo, de, h⟩
    · omega
    · exact c176 _ n q H M mo de l0 l1 l2 hJ hF hz hc h17 h
  | succ g ih =>
    intro r L n q H M hr l0 l1 l2 l3 hJ hF hz hc h17 h09 h07 hrd
    refine h_ld (t := 0) rfl (Or.inl ⟨rfl, Or.inl rfl⟩) l3 rfl ?_
    refine h_ic (b := 4) rfl (by decide) (by decide) ?_
    refine h_c3 rfl ⟨⟨by omega, by omega⟩, ⟨by decide, by decide⟩⟩ (fun h => absurd h (by omega)) fun _ => ?_
    refine h_ic (b := 1) rfl (by decide) (by decide) ?_
    refine h_ld (t := 2) rfl (Or.inr (Or.inl ⟨rfl, Or.inl rfl⟩)) l0 rfl ?_
    refine h_ld (t := 0) rfl (Or.inl ⟨rfl, Or.inl rfl⟩) l3 rfl ?_
    refine h_154 rfl (Nat.le_of_ble_eq_true rfl) (by omega) hs ⟨by omega, by omega⟩ fun c1 => ?_
    refine h_ic (b := 2) rfl (by decide) (by decide) ?_
    refine h_bin rfl (by decide) fun d1 hd1 => ?_
    refine h_ic (b := 900) rfl (by decide) (by decide) ?_
    refine h_152 rfl (Nat.le_of_ble_eq_true rfl) (by omega) ⟨by decide, by decide⟩ fun m1 u1 v1 => ?_
    refine h_add rfl ?_
    obtain ⟨mo, hmo⟩ : ∃ mo : Int, mo = 1 + m1 := ⟨_, rfl⟩
    rw [← hmo]
    refine h_st (t := 0) rfl (Or.inl ⟨rfl, Or.inr rfl⟩) rfl ?_
    refine h_ic (b := 1) rfl (by decide) (by decide) ?_
    refine h_ld (t := 2) rfl (Or.inr (Or.inl ⟨rfl, Or.inl rfl⟩)) (l_ka (by decide) l0) rfl ?_
    refine h_ld (t := 0) rfl (Or.inl ⟨rfl, Or.inl rfl⟩) (l_ki (by decide) l3) rfl ?_
    refine h_ic (b := 4) rfl (by decide) (by decide) ?_
    refine h_add rfl ?_
    refine h_154 rfl (Nat.le_of_ble_eq_true rfl) (by omega) hs ⟨by omega, by omega⟩ fun c2 => ?_
    refine h_ic (b := 3) rfl (by decide) (by decide) ?_
    refine h_bin rfl (by decide) fun d2 hd2 => ?_
    refine h_ic (b := 12) rfl (by decide) (by decide) ?_
    refine h_152 rfl (Nat.le_of_ble_eq_true rfl) (by omega) ⟨by decide, by decide⟩ fun m2 u2 v2 => ?_
    refine h_add rfl ?_
    obtain ⟨de, hde⟩ : ∃ de : Int, de = 1 + m2 := ⟨_, rfl⟩
    rw [← hde]
    refine h_st (t := 0) rfl (Or.inl ⟨rfl, Or.inr rfl⟩) rfl ?_
    have bmo : 1 ≤ mo ∧ mo ≤ 900 := by omega
    have bde : 1 ≤ de ∧ de ≤ 30 := by omega
    have bde2 : de ≤ 12 := by omega
    have hI := hF.1.1
    obtain ⟨cc, tr, c, rw', ro, hW, hO, hn, hq⟩ := hJ
    obtain ⟨X1, w1, w2, w3, w4⟩ := A_37 (c := cc) (j := 0) hK hF hz hc bmo bde (by decide)
    have hF1 : fst' K X1 := fst_M hF fun a i h1 _ => w3 a i (by omega)
    have hz1 : X1 18 4 = 0 := (w3 _ _ (by omega)).trans hz
    have hc1 : clo X1 := clo_e (fun a i ha => w3 a i (by omega)) hc
    obtain ⟨X2, w5, w6, w7, w8⟩ := A_37 (c := cc) (j := 3) hK hF1 hz1 hc1 bmo bde (by decide)
    have hF2 : fst' K X2 := fst_M hF1 fun a i h1 _ => w7 a i (by omega)
    have hz2 : X2 18 4 = 0 := (w7 _ _ (by omega)).trans hz1
    have hc2 : clo X2 := clo_e (fun a i ha => w7 a i (by omega)) hc1
    obtain ⟨X3, y1, y2, y3⟩ := fst_R89 (m := 306) hK hF2 hz2 hc2 (Or.inr rfl) bmo bde
    have h8 := hI.2.1
    have e12 : ∀ j, j < 9 → X2 319 j = X1 319 j := fst_two (b := False) (m := 306) (n := 306) hK hF hF1 hz hc hc1 (same_rfl (fun a i h1 _ => w3 a i (by omega)) (by omega)) (Or.inr rfl) (Or.inr rfl) bmo bde w2 w6
    have e23 : ∀ j, j < 9 → X3 319 j = X2 319 j := fst_two (b := False) (m := 306) (n := 306) hK hF1 hF2 hz1 hc1 hc2 (same_rfl (fun a i h1 _ => w7 a i (by omega)) (by have := hF1.1.1.2.1; omega)) (Or.inr rfl) (Or.inr rfl) bmo bde w6 y1
    have kX : ∀ a i, ¬ (306 ≤ a ∧ a < 416) → X2 a i = M a i := fun a i h => (w7 a i h).trans (w3 a i h)
    have s1 : ∀ j : Nat, j = 0 ∨ j = 3 → ysm (X1 319 j) := fun j hj => by
      have h1 : (X1 319 0 = 0 ∨ X1 319 0 = 1 ∨ X1 319 0 = 2) := w4.1.1
      have h2 : 0 ≤ X1 319 3 ∧ X1 319 3 ≤ mo := w4.1.2.1
      rcases hj with rfl | rfl
      · exact ⟨by omega, by omega⟩
      · exact ⟨by omega, by omega⟩
    have hy1 : yP sc dd 37 [.ref 0, .int (yi mo), .int (yi de), .int (yi 0)] M cc (some (X1, cc, some (.int (yi (X1 319 0))))) := by
      have h := t_37 (sc := sc) (dd := dd) (cc := cc) (N := K) (M := M) (x1 := mo) (x2 := de) (x3 := 0) (by omega)
      rw [show f_37 K cc M mo de 0 = _ from w1] at h
      exact h
    have hy2 : yP sc dd 37 [.ref 0, .int (yi mo), .int (yi de), .int (yi 3)] X1 cc (some (X2, cc, some (.int (yi (X2 319 3))))) := by
      have h := t_37 (sc := sc) (dd := dd) (cc := cc) (N := K) (M := X1) (x1 := mo) (x2 := de) (x3 := 3) (by omega)
      rw [show f_37 K cc X1 mo de 3 = _ from w5] at h
      exact h
    refine h_ld (t := 2) rfl (Or.inr (Or.inl ⟨rfl, Or.inl rfl⟩)) (l_kr (by decide) (l_kr (by decide) l1)) rfl ?_
    refine h_ld (t := 0) rfl (Or.inl ⟨rfl, Or.inr rfl⟩) (l_ki (by decide) l_s) rfl ?_
    refine h_ld (t := 0) rfl (Or.inl ⟨rfl, Or.inr rfl⟩) l_s rfl ?_
    refine h_ic (b := 0) rfl (by decide) (by decide) ?_
    refine h_cls (as := [.int (yi mo), .int (yi de), .int (yi 0)]) (S := []) rfl (by decide) rfl (Nat.le_of_ble_eq_true rfl) hW hO hy1 fun n1 q1 H1 tr1 hW1 hO1 g1a g1b g1c => ?_
    refine h_st (t := 0) rfl (Or.inl ⟨rfl, Or.inr rfl⟩) rfl ?_
    refine h_ld (t := 2) rfl (Or.inr (Or.inl ⟨rfl, Or.inl rfl⟩)) (l_kr (by decide) (l_kr (by decide) (l_kr (by decide) l1))) rfl ?_
    refine h_ld (t := 0) rfl (Or.inl ⟨rfl, Or.inr rfl⟩) (l_ki (by decide) (l_ki (by decide) l_s)) rfl ?_
    refine h_ld (t := 0) rfl (Or.inl ⟨rfl, Or.inr rfl⟩) (l_ki (by decide) l_s) rfl ?_
    refine h_ic (b := 3) rfl (by decide) (by decide) ?_
    refine h_cls (as := [.int (yi mo), .int (yi de), .int (yi 3)]) (S := []) rfl (by decide) rfl (Nat.le_of_ble_eq_true rfl) hW1 hO1 hy2 fun n2 q2 H2 tr2 hW2 hO2 g2a g2b g2c => ?_
    refine h_st (t := 0) rfl (Or.inl ⟨rfl, Or.inr rfl⟩) rfl ?_
    have hy3 : yP sc dd 16 [.ref 0, .int (yi mo), .int (yi de)] X2 cc (some (yU (yU X2 0 9 mo) 0 10 de, cc, some (.int (yi (X2 0 9))))) := by
      have h := t_16 (sc := sc) (dd := dd) (cc := cc) (M := X2) (x1 := mo) (x2 := de) (by omega)
      rw [A_16 bmo bde] at h
      exact h
    refine h_ld (t := 2) rfl (Or.inr (Or.inl ⟨rfl, Or.inl rfl⟩)) (l_kr (by decide) (l_kr (by decide) (l_kr (by decide) (l_kr (by decide) l1)))) rfl ?_
    refine h_ld (t := 0) rfl (Or.inl ⟨rfl, Or.inr rfl⟩) (l_ki (by decide) (l_ki (by decide) (l_ki (by decide) l_s))) rfl ?_
    refine h_ld (t := 0) rfl (Or.inl ⟨rfl, Or.inr rfl⟩) (l_ki (by decide) (l_ki (by decide) l_s)) rfl ?_
    refine h_cls (as := [.int (yi mo), .int (yi de)]) (S := []) rfl (by decide) rfl (Nat.le_of_ble_eq_true rfl) hW2 hO2 hy3 fun n3 q3 H3 tr3 hW3 hO3 g3a g3b g3c => ?_
    rw [kX 0 9 (by omega)]
    refine h_ic (b := 1) rfl (by decide) (by decide) ?_
    refine h_c2 rfl ⟨⟨by omega, by omega⟩, ⟨by decide, by decide⟩⟩ (fun h => absurd h (by omega)) fun _ => ?_
    refine h_ld (t := 2) rfl (Or.inr (Or.inl ⟨rfl, Or.inl rfl⟩)) (l_kr (by decide) (l_kr (by decide) (l_kr (by decide) (l_kr (by decide) l1)))) rfl ?_
    have c123 : ∀ L9 : zL, L9 0 = some (.retAddr 0) → L9 1 = some (.ref 0) → L9 2 = some (.ref 416) → L9 3 = some (.int (yi (r : Int))) → L9 4 = some (.int (yi mo)) → L9 5 = some (.int (yi de)) → L9 6 = some (.int (yi (X1 319 0))) → L9 7 = some (.int (yi (X2 319 3))) → hG sc zg_c171 zg_w171 dd 123 L9 [.ref 0] n3 q3 H3 lawQ := by
      intro L9 k0 k1 k2 k3 k4 k5 k6 k7
      have e7 : yU (yU X2 0 9 mo) 0 10 de 0 7 = (r : Int) % 2 := by
        rw [yU_ne (fun q => absurd q.2 (by decide)), yU_ne (fun q => absurd q.2 (by decide)), kX 0 7 (by omega)]
        exact h07
      have c130 : ∀ x : Int, (x = 1 ∧ (r : Int) % 2 = 0) ∨ (x = 0 ∧ (r : Int) % 2 = 1) → hG sc zg_c171 zg_w171 dd 130 L9 [.int (yi x), .ref 0] n3 q3 H3 lawQ := by
        intro x hx
        have hx01 : x = 0 ∨ x = 1 := by omega
        have hy4 : yP sc dd 23 [.ref 0, .int (yi x)] (yU (yU X2 0 9 mo) 0 10 de) cc (some (lpM X2 mo de x, cc, some (.int (yi (yU (yU X2 0 9 mo) 0 10 de 0 7))))) := by
          have h := t_23 (sc := sc) (dd := dd) (cc := cc) (M := yU (yU X2 0 9 mo) 0 10 de) (x1 := x) (by omega)
          rw [A_23 (M := yU (yU X2 0 9 mo) 0 10 de) hx01 (by rw [e7]; omega)] at h
          exact h
        rw [e7] at hy4
        refine h_cls (as := [.int (yi x)]) (S := []) rfl (by decide) rfl (Nat.le_of_ble_eq_true rfl) hW3 hO3 hy4 fun n4 q4 H4 tr4 hW4 hO4 g4a g4b g4c => ?_
        have c142 : hG sc zg_c171 zg_w171 dd 142 L9 [] n4 q4 H4 lawQ := by
          obtain ⟨Z, c', z1, z2, z3, z4, z5, z6, z7, z8, z9⟩ := A_33 (c := cc) hK hF2 hz2 hc2 bmo bde hx01 y1
          have hy5 : yP sc dd 33 [.ref 0] (lpM X2 mo de x) cc (some (Z, c', some (.int (yi (Z 209 0))))) := by
            have h := t_33 (sc := sc) (dd := dd) (cc := cc) (N := K) (M := lpM X2 mo de x) (by omega)
            rw [z1] at h
            exact h
          have eZ : ∀ j, j < 9 → Z 209 j = X1 319 j := fun j hj => (z6 j hj).trans ((e23 j hj).trans (e12 j hj))
          have kZ : ∀ a i, a ≤ 12 → ¬ (a = 0 ∧ 7 ≤ i) → Z a i = M a i := fun a i h1 h2 => (z7 a i h1 h2).trans (kX a i (by omega))
          refine h_ld (t := 2) rfl (Or.inr (Or.inl ⟨rfl, Or.inl rfl⟩)) k1 rfl ?_
          refine h_cls (as := []) (S := []) rfl (by decide) rfl (Nat.le_of_ble_eq_true rfl) hW4 hO4 hy5 fun n5 q5 H5 tr5 hW5 hO5 g5a g5b g5c => ?_
          have hO6 := oN_cg (P' := Z) hO5 (kZ 1 7 (by decide) (by omega)) (fun a k h1 h2 _ => kZ a k (by omega) (by omega)) (kZ 1 0 (by decide) (by omega)) (kZ 1 4 (by decide) (by omega)) fun i _ => kZ 5 i (by decide) (by omega)
          have hJ6 : sJ n5 q5 Z c' c rw' ro H5 n5 q5 := ⟨rfl, Nat.le_refl q5, tr5, hW5, hO6⟩
          have r0 : Z 209 0 = 0 ∨ Z 209 0 = 1 ∨ Z 209 0 = 2 := z5.1.1
          have r3 : 0 ≤ Z 209 3 ∧ Z 209 3 ≤ mo := z5.1.2.1
          have r2 : Z 209 0 = 2 → Z 209 3 = mo := z5.1.2.2.1
          have r7 : 0 ≤ Z 209 7 ∧ Z 209 7 ≤ de := z5.1.2.2.2
          have x20 : X1 319 0 = Z 209 0 := (eZ 0 (by decide)).symm
          have x23 : X2 319 3 = Z 209 3 := (e12 3 (by decide)).trans (eZ 3 (by decide)).symm
          rw [x20] at k6
          rw [x23] at k7
          refine h_ld (t := 0) rfl (Or.inl ⟨rfl, Or.inr rfl⟩) k6 rfl ?_
          refine h_eq1 rfl ?_
          refine h_ld (t := 2) rfl (Or.inr (Or.inl ⟨rfl, Or.inl rfl⟩)) k1 rfl ?_
          refine h_ic (b := 3) rfl (by decide) (by decide) ?_
          refine h_api (as := [.int (yi 3)]) (S := []) rfl (by decide) rfl (Nat.le_of_ble_eq_true rfl) hJ6 (y_21 (i := 3) (by omega) (by decide)) fun n6 q6 H6 h6 => ?_
          refine h_ld (t := 0) rfl (Or.inl ⟨rfl, Or.inr rfl⟩) k7 rfl ?_
          refine h_eq1 rfl ?_
          refine h_ld (t := 0) rfl (Or.inl ⟨rfl, Or.inr rfl⟩) k7 rfl ?_
          refine h_ld (t := 0) rfl (Or.inl ⟨rfl, Or.inr rfl⟩) k4 rfl ?_
          refine h_c4 rfl ⟨⟨by omega, by omega⟩, ⟨by omega, by omega⟩⟩ (fun h => absurd h (by omega)) fun _ => ?_
          refine h_ld (t := 2) rfl (Or.inr (Or.inl ⟨rfl, Or.inl rfl⟩)) k1 rfl ?_
          refine h_ic (b := 7) rfl (by decide) (by decide) ?_
          refine h_api (as := [.int (yi 7)]) (S := []) rfl (by decide) rfl (Nat.le_of_ble_eq_true rfl) h6 (y_21 (i := 7) (by omega) (by decide)) fun n7 q7 H7 h7 => ?_
          refine h_ld (t := 0) rfl (Or.inl ⟨rfl, Or.inr rfl⟩) k5 rfl ?_
          refine h_c4 rfl ⟨⟨by omega, by omega⟩, ⟨by omega, by omega⟩⟩ (fun h => absurd h (by omega)) fun _ => ?_
          have c167 : hG sc zg_c171 zg_w171 dd 167 L9 [] n7 q7 H7 lawQ := by
            refine h_ld (t := 2) rfl (Or.inr (Or.inl ⟨rfl, Or.inl rfl⟩)) k1 rfl ?_
            refine h_ld (t := 2) rfl (Or.inr (Or.inl ⟨rfl, Or.inl rfl⟩)) k2 rfl ?_
            refine h_ld (t := 0) rfl (Or.inl ⟨rfl, Or.inr rfl⟩) k6 rfl ?_
            have hkn : ∀ m : Nat, (m : Int) < Z 1 7 → r13 Z m := fun m hm => by
              have hfr := fresh_of z2.1 z2.2.1
              exact (d1_rg z2.1.1 (fun m hm => (hfr.1 m hm).1) 90 m hm (by have := z2.1.1.1; omega)).1
            refine h_stat (as := [.ref 0, .ref 416, .int (yi (Z 209 0))]) (S := []) rfl (by decide) rfl (Nat.le_of_ble_eq_true rfl) (hP_dd (dd := dd - 1 + 1) (by omega) (L_155 (dd := dd - 1) (by omega) (by omega) z2 z5 bmo hkn z4 h7)) ?_
            rintro u8 n8 q8 H8 ⟨f1, f2, f3, tr8, hW8, hO8⟩
            rw [f1]
            refine h_b1 rfl ⟨by decide, by decide⟩ (fun _ => ?_) fun h => absurd h (by decide)
            refine h_inc (c := 1) rfl k3 (by decide) ?_
            refine h_go rfl ?_
            refine ih (r + 1) _ n8 q8 H8 Z (by omega) (l_ka (by decide) k0) (l_kr (by decide) k1) (l_kr (by decide) k2) l_s ⟨c', tr8, c, rw', ro, hW8, hO8, ?_, ?_⟩ z2 z3 z4 ?_ ?_ ?_ (Or.inr ⟨mo, de, z5⟩)
            · clear z5
              have e1 : yU (yU X2 0 9 mo) 0 10 de 21 2 = X2 21 2 := by rw [yU_c (by decide), yU_c (by decide)]
              have e2 : lpM X2 mo de x 21 2 = X2 21 2 := by unfold lpM; rw [yU_c (by decide), yU_c (by decide), yU_c (by decide), yU_c (by decide)]
              rw [e1] at g3a
              rw [e1, e2] at g4a
              rw [e2] at g5a
              omega
            · clear z5
              have e1 : yU (yU X2 0 9 mo) 0 10 de 21 2 = X2 21 2 := by rw [yU_c (by decide), yU_c (by decide)]
              have e2 : lpM X2 mo de x 21 2 = X2 21 2 := by unfold lpM; rw [yU_c (by decide), yU_c (by decide), yU_c (by decide), yU_c (by decide)]
              rw [e1] at g3b
              rw [e1, e2] at g4b
              rw [e2] at g5b
              omega
            · rw [kZ 1 7 (by decide) (by omega)]; exact h17
            · rw [z9]; exact bmo
            · rw [z8]; omega
          refine h_ld (t := 0) rfl (Or.inl ⟨rfl, Or.inr rfl⟩) k6 rfl ?_
          refine h_ic (b := 2) rfl (by decide) (by decide) ?_
          refine h_c1 rfl ⟨⟨by omega, by omega⟩, ⟨by decide, by decide⟩⟩ (fun _ => c167) fun h2 => ?_
          refine h_ld (t := 0) rfl (Or.inl ⟨rfl, Or.inr rfl⟩) k7 rfl ?_
          refine h_ld (t := 0) rfl (Or.inl ⟨rfl, Or.inr rfl⟩) k4 rfl ?_
          rw [r2 h2]
          exact h_eq0 rfl c167
        refine h_ld (t := 0) rfl (Or.inl ⟨rfl, Or.inl rfl⟩) k3 rfl ?_
        refine h_ic (b := 2) rfl (by decide) (by decide) ?_
        refine h_rem rfl ⟨by omega, by omega⟩ ⟨by decide, by decide⟩ ?_
        refine h_ic (b := 1) rfl (by decide) (by decide) ?_
        refine h_c1 rfl ⟨⟨by omega, by omega⟩, ⟨by decide, by decide⟩⟩ (fun h => ?_) fun h => ?_
        · skip
          refine h_ic (b := 0) rfl (by decide) (by decide) ?_
          rw [show (r : Int) % 2 = 0 by omega]
          exact h_eq0 rfl c142
        · skip
          refine h_ic (b := 1) rfl (by decide) (by decide) ?_
          refine h_go rfl ?_
          rw [h]
          exact h_eq0 rfl c142
      refine h_ld (t := 0) rfl (Or.inl ⟨rfl, Or.inl rfl⟩) k3 rfl ?_
      refine h_ic (b := 2) rfl (by decide) (by decide) ?_
      refine h_rem rfl ⟨by omega, by omega⟩ ⟨by decide, by decide⟩ ?_
      refine h_b1 rfl ⟨by omega, by omega⟩ (fun h => ?_) fun h => ?_
      · skip
        refine h_ic (b := 0) rfl (by decide) (by decide) ?_
        exact c130 0 (Or.inr ⟨rfl, by omega⟩)
      · skip
        refine h_ic (b := 1) rfl (by decide) (by decide) ?_
        refine h_go rfl ?_
        exact c130 1 (Or.inl ⟨rfl, h⟩)
    exact c123 _ (l_ka (by decide) (l_ka (by decide) (l_ka (by decide) (l_ka (by decide) l0)))) (l_kr (by decide) (l_kr (by decide) (l_kr (by decide) (l_kr (by decide) l1)))) (l_kr (by decide) (l_kr (by decide) (l_kr (by decide) (l_kr (by decide) l2)))) (l_ki (by decide) (l_ki (by decide) (l_ki (by decide) (l_ki (by decide) l3)))) (l_ki (by decide) (l_ki (by decide) (l_ki (by decide) l_s))) (l_ki (by decide) (l_ki (by decide) l_s)) (l_ki (by decide) l_s) l_s
end HrZ
