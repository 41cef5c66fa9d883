/-! a loop, a try, a statement: by the law -/
section HrM
variable {sc : List Int32} {n q dd e l : Nat} {H : Nat → zO} {M : yM} {x hc hl : Int}
theorem L_157 (hd : 92 ≤ dd) (hB : bB sc dd l) (hS : sI H n q M e) (hx : 0 ≤ x ∧ x + 20 * ((l : Int) + 1) ≤ 100000) (hh : hc = 0 ∨ hc = 1) : hP sc (dd + 1) 157 [.ref 0, .ref 416, .retAddr 0, .int (yi x), .int (yi ((l : Int) + 1)), .int (yi hc)] n q H (bQ M e) := by
  have h13 := hS.2.1.2.2.1
  have h8 := hS.2.1.2.1
  have h90 := hS.2.1.1
  refine h_meth (C := zg_c157) (W := zg_w157) (ml := 12) rfl rfl (Nat.le_of_ble_eq_true rfl) ?_
  refine h_ld (t := 2) rfl (Or.inr (Or.inl ⟨rfl, Or.inl rfl⟩)) rfl rfl ?_
  refine h_ld (t := 2) rfl (Or.inr (Or.inl ⟨rfl, Or.inl rfl⟩)) rfl rfl ?_
  refine h_ld (t := 2) rfl (Or.inr (Or.inl ⟨rfl, Or.inl rfl⟩)) rfl rfl ?_
  refine h_ld (t := 0) rfl (Or.inl ⟨rfl, Or.inl rfl⟩) rfl rfl ?_
  refine h_ic (b := 4) rfl (by decide) (by decide) ?_
  refine h_add rfl ?_
  refine h_ld (t := 0) rfl (Or.inl ⟨rfl, Or.inr rfl⟩) rfl rfl ?_
  refine h_ic (b := 1) rfl (by decide) (by decide) ?_
  refine h_sub rfl ?_
  refine h_ld (t := 0) rfl (Or.inl ⟨rfl, Or.inr rfl⟩) rfl rfl ?_
  refine h_ic (b := 1) rfl (by decide) (by decide) ?_
  refine h_153 (M0 := M) hB rfl (Nat.le_of_ble_eq_true rfl) hS kx_rfl ⟨by omega, by omega⟩ (by omega) ⟨hh, Or.inr rfl⟩ fun r1 M1 n1 q1 H1 s1 x1 k1 t1 f1 => ?_
  refine h_st (t := 0) rfl (Or.inl ⟨rfl, Or.inr rfl⟩) rfl ?_
  refine h_ld (t := 0) rfl (Or.inl ⟨rfl, Or.inl rfl⟩) rfl rfl ?_
  refine h_ic (b := 4) rfl (by decide) (by decide) ?_
  refine h_152 rfl (Nat.le_of_ble_eq_true rfl) (by omega) ⟨by omega, by omega⟩ fun r21 a21 b21 => ?_
  refine h_st (t := 0) rfl (Or.inl ⟨rfl, Or.inr rfl⟩) rfl ?_
  have k1a := k1.1
  refine h_ld (t := 0) rfl (Or.inl ⟨rfl, Or.inr rfl⟩) rfl rfl ?_
  refine h_b2 rfl ⟨by omega, by omega⟩ (fun _ => ?_) fun g1 => ?_
  · skip
    refine h_ic (b := (-1)) rfl (by decide) (by decide) ?_
    exact h_iret rfl rfl ⟨-1, M1, rfl, s1, k1, Or.inl rfl⟩
  have u1 : M 1 7 ≤ r1 ∧ uS M1 r1 := by
    rcases t1 with h | h
    · omega
    · exact h
  have u1b := u1.2.1
  refine h_ld (t := 2) rfl (Or.inr (Or.inl ⟨rfl, Or.inl rfl⟩)) rfl rfl ?_
  refine h_len s1 rfl rfl (Or.inl ⟨rfl, rfl⟩) ?_
  refine h_ic (b := 85) rfl (by decide) (by decide) ?_
  refine h_c5 rfl ⟨⟨by omega, by omega⟩, ⟨by omega, by omega⟩⟩ (fun g2 => ?_) fun _ => ?_
  rotate_left
  · skip
    refine h_ic (b := (-1)) rfl (by decide) (by decide) ?_
    exact h_iret rfl rfl ⟨-1, M1, rfl, s1, k1, Or.inl rfl⟩
  refine h_ld (t := 2) rfl (Or.inr (Or.inl ⟨rfl, Or.inl rfl⟩)) rfl rfl ?_
  refine h_ld (t := 2) rfl (Or.inr (Or.inl ⟨rfl, Or.inl rfl⟩)) rfl rfl ?_
  refine h_ic (b := 1) rfl (by decide) (by decide) ?_
  refine h_ld (t := 0) rfl (Or.inl ⟨rfl, Or.inr rfl⟩) rfl rfl ?_
  refine h_ic (b := (-1)) rfl (by decide) (by decide) ?_
  refine h_ic (b := 0) rfl (by decide) (by decide) ?_
  refine h_158 (M0 := M) rfl (Nat.le_of_ble_eq_true rfl) (by omega) s1 (Or.inl ⟨by omega, ⟨by omega, by omega⟩, Or.inl ⟨by decide, by decide⟩, rfl⟩) k1 (fun i h => absurd h (isQ_leaf (by decide))) fun r2 M2 n2 q2 H2 s2 k2 p2 t2 f2 => ?_
  have e2 := f2 (by omega)
  have v2 : M2 1 7 = M1 1 7 + 1 ∧ uS M2 r2 := by
    rcases t2 with h | ⟨-, h, -, h2⟩
    · omega
    · exact ⟨h, h2 (by decide)⟩
  have w2 := (p2 r1 (fun i h => absurd h (isQ_leaf (by decide)))).1 u1.2
  refine h_st (t := 0) rfl (Or.inl ⟨rfl, Or.inr rfl⟩) rfl ?_
  refine h_ld (t := 2) rfl (Or.inr (Or.inl ⟨rfl, Or.inl rfl⟩)) rfl rfl ?_
  refine h_ld (t := 2) rfl (Or.inr (Or.inl ⟨rfl, Or.inl rfl⟩)) rfl rfl ?_
  refine h_ic (b := 4) rfl (by decide) (by decide) ?_
  refine h_ic (b := 0) rfl (by decide) (by decide) ?_
  refine h_ld (t := 0) rfl (Or.inl ⟨rfl, Or.inr rfl⟩) rfl rfl ?_
  refine h_ld (t := 0) rfl (Or.inl ⟨rfl, Or.inr rfl⟩) rfl rfl ?_
  refine h_158 (M0 := M) rfl (Nat.le_of_ble_eq_true rfl) (by omega) s2 (Or.inr (Or.inr (Or.inl ⟨rfl, rfl, v2.2, w2, by omega⟩))) k2 (fun i h => by have := isQ_bc (by decide) h; omega) fun r3 M3 n3 q3 H3 s3 k3 p3 t3 f3 => ?_
  have e3 := f3 (by omega)
  have v3 : M3 1 7 = M2 1 7 + 1 ∧ uS M3 r3 := by
    rcases t3 with h | ⟨-, h, -, h2⟩
    · omega
    · exact ⟨h, h2 (by decide)⟩
  refine h_st (t := 0) rfl (Or.inl ⟨rfl, Or.inr rfl⟩) rfl ?_
  refine h_ld (t := 0) rfl (Or.inl ⟨rfl, Or.inr rfl⟩) rfl rfl ?_
  refine h_b3 rfl ⟨by omega, by omega⟩ (fun _ => ?_) fun h => absurd h (by omega)
  refine h_ld (t := 2) rfl (Or.inr (Or.inl ⟨rfl, Or.inl rfl⟩)) rfl rfl ?_
  refine h_ld (t := 2) rfl (Or.inr (Or.inl ⟨rfl, Or.inl rfl⟩)) rfl rfl ?_
  refine h_ic (b := 6) rfl (by decide) (by decide) ?_
  refine h_ld (t := 0) rfl (Or.inl ⟨rfl, Or.inr rfl⟩) rfl rfl ?_
  refine h_ld (t := 0) rfl (Or.inl ⟨rfl, Or.inr rfl⟩) rfl rfl ?_
  refine h_ic (b := 0) rfl (by decide) (by decide) ?_
  refine h_158 (M0 := M) rfl (Nat.le_of_ble_eq_true rfl) (by omega) s3 (Or.inr (Or.inr (Or.inr (Or.inr (Or.inl ⟨rfl, ⟨by omega, by omega⟩, v3.2, rfl⟩))))) k3 (fun i h => by have := isQ_b (by decide) h; omega) fun r4 M4 n4 q4 H4 s4 k4 p4 t4 f4 => ?_
  have e4 := f4 (by omega)
  have v4 : M4 1 7 = M3 1 7 + 1 ∧ uS M4 r4 := by
    rcases t4 with h | ⟨-, h, -, h2⟩
    · omega
    · exact ⟨h, h2 (by decide)⟩
  refine h_st (t := 0) rfl (Or.inl ⟨rfl, Or.inr rfl⟩) rfl ?_
  refine h_ld (t := 0) rfl (Or.inl ⟨rfl, Or.inr rfl⟩) rfl rfl ?_
  refine h_b3 rfl ⟨by omega, by omega⟩ (fun _ => ?_) fun h => absurd h (by omega)
  refine h_ld (t := 2) rfl (Or.inr (Or.inl ⟨rfl, Or.inl rfl⟩)) rfl rfl ?_
  refine h_ld (t := 2) rfl (Or.inr (Or.inl ⟨rfl, Or.inl rfl⟩)) rfl rfl ?_
  refine h_ic (b := 0) rfl (by decide) (by decide) ?_
  refine h_ld (t := 0) rfl (Or.inl ⟨rfl, Or.inr rfl⟩) rfl rfl ?_
  refine h_ic (b := 1) rfl (by decide) (by decide) ?_
  refine h_ld (t := 0) rfl (Or.inl ⟨rfl, Or.inl rfl⟩) rfl rfl ?_
  refine h_ic (b := 2) rfl (by decide) (by decide) ?_
  refine h_bin rfl (by decide) fun d1 hd1 => ?_
  refine h_ic (b := 3) rfl (by decide) (by decide) ?_
  refine h_152 rfl (Nat.le_of_ble_eq_true rfl) (by omega) ⟨by omega, by omega⟩ fun r22 a22 b22 => ?_
  refine h_add rfl ?_
  refine h_ic (b := 0) rfl (by decide) (by decide) ?_
  refine h_158 (M0 := M) rfl (Nat.le_of_ble_eq_true rfl) (by omega) s4 (Or.inl ⟨by omega, ⟨by omega, by omega⟩, Or.inl ⟨by omega, by omega⟩, rfl⟩) k4 (fun i h => absurd h (isQ_leaf (by decide))) fun r5 M5 n5 q5 H5 s5 k5 p5 t5 f5 => ?_
  have e5 := f5 (by omega)
  have v5 : M5 1 7 = M4 1 7 + 1 ∧ uS M5 r5 := by
    rcases t5 with h | ⟨-, h, -, h2⟩
    · omega
    · exact ⟨h, h2 (by decide)⟩
  have w5 := (p5 r4 (fun i h => absurd h (isQ_leaf (by decide)))).1 v4.2
  refine h_st (t := 0) rfl (Or.inl ⟨rfl, Or.inr rfl⟩) rfl ?_
  refine h_ld (t := 0) rfl (Or.inl ⟨rfl, Or.inr rfl⟩) rfl rfl ?_
  refine h_b3 rfl ⟨by omega, by omega⟩ (fun _ => ?_) fun h => absurd h (by omega)
  refine h_ld (t := 2) rfl (Or.inr (Or.inl ⟨rfl, Or.inl rfl⟩)) rfl rfl ?_
  refine h_ld (t := 2) rfl (Or.inr (Or.inl ⟨rfl, Or.inl rfl⟩)) rfl rfl ?_
  refine h_ic (b := 4) rfl (by decide) (by decide) ?_
  refine h_ic (b := 0) rfl (by decide) (by decide) ?_
  refine h_ld (t := 0) rfl (Or.inl ⟨rfl, Or.inr rfl⟩) rfl rfl ?_
  refine h_ld (t := 0) rfl (Or.inl ⟨rfl, Or.inr rfl⟩) rfl rfl ?_
  refine h_158 (M0 := M) rfl (Nat.le_of_ble_eq_true rfl) (by omega) s5 (Or.inr (Or.inr (Or.inl ⟨rfl, rfl, v5.2, w5, by omega⟩))) k5 (fun i h => by have := isQ_bc (by decide) h; omega) ?_
  intro r M9 n9 q9 H9 s9 k9 p9 t9 f9
  exact b_ret rfl s9 k9 t9 (by decide) (by omega)
theorem L_160 (hd : 92 ≤ dd) (hs : sc.length ≤ 1048576) (hB : bB sc dd l) (hS : sI H n q M e) (hx : 0 ≤ x ∧ x + 20 * ((l : Int) + 1) ≤ 100000) (hh : (hc = 0 ∨ hc = 1) ∧ (hl = 0 ∨ hl = 1)) : hP sc (dd + 1) 160 [.ref 0, .ref 416, .retAddr 0, .int (yi x), .int (yi ((l : Int) + 1)), .int (yi hc), .int (yi hl)] n q H (bQ M e) := by
  have h13 := hS.2.1.2.2.1
  have h8 := hS.2.1.2.1
  have h90 := hS.2.1.1
  refine h_meth (C := zg_c160) (W := zg_w160) (ml := 13) rfl rfl (Nat.le_of_ble_eq_true rfl) ?_
  refine h_ld (t := 2) rfl (Or.inr (Or.inl ⟨rfl, Or.inl rfl⟩)) rfl rfl ?_
  refine h_ld (t := 0) rfl (Or.inl ⟨rfl, Or.inl rfl⟩) rfl rfl ?_
  refine h_ic (b := 1) rfl (by decide) (by decide) ?_
  refine h_add rfl ?_
  refine h_ic (b := 16) rfl (by decide) (by decide) ?_
  refine h_rem rfl ⟨by omega, by omega⟩ ⟨by omega, by omega⟩ ?_
  refine h_154 rfl (Nat.le_of_ble_eq_true rfl) (by omega) hs ⟨by omega, by omega⟩ fun y0 => ?_
  refine h_ic (b := 3) rfl (by decide) (by decide) ?_
  refine h_ld (t := 0) rfl (Or.inl ⟨rfl, Or.inl rfl⟩) rfl rfl ?_
  refine h_bin rfl (by decide) fun d1 hd1 => ?_
  refine h_add rfl ?_
  refine h_st (t := 0) rfl (Or.inl ⟨rfl, Or.inr rfl⟩) rfl ?_
  refine h_ld (t := 2) rfl (Or.inr (Or.inl ⟨rfl, Or.inl rfl⟩)) rfl rfl ?_
  refine h_ld (t := 2) rfl (Or.inr (Or.inl ⟨rfl, Or.inl rfl⟩)) rfl rfl ?_
  refine h_ld (t := 2) rfl (Or.inr (Or.inl ⟨rfl, Or.inl rfl⟩)) rfl rfl ?_
  refine h_ld (t := 0) rfl (Or.inl ⟨rfl, Or.inl rfl⟩) rfl rfl ?_
  refine h_ic (b := 1) rfl (by decide) (by decide) ?_
  refine h_add rfl ?_
  refine h_ld (t := 0) rfl (Or.inl ⟨rfl, Or.inr rfl⟩) rfl rfl ?_
  refine h_ic (b := 1) rfl (by decide) (by decide) ?_
  refine h_sub rfl ?_
  refine h_ld (t := 0) rfl (Or.inl ⟨rfl, Or.inr rfl⟩) rfl rfl ?_
  refine h_ld (t := 0) rfl (Or.inl ⟨rfl, Or.inr rfl⟩) rfl rfl ?_
  generalize y0 + d1 = y
  refine h_153 (M0 := M) hB rfl (Nat.le_of_ble_eq_true rfl) hS kx_rfl ⟨by omega, by omega⟩ (by omega) hh fun r1 M1 n1 q1 H1 s1 x1 k1 t1 f1 => ?_
  refine h_st (t := 0) rfl (Or.inl ⟨rfl, Or.inr rfl⟩) rfl ?_
  refine h_ic (b := (-1)) rfl (by decide) (by decide) ?_
  refine h_st (t := 0) rfl (Or.inl ⟨rfl, Or.inr rfl⟩) rfl ?_
  refine h_ld (t := 0) rfl (Or.inl ⟨rfl, Or.inr rfl⟩) rfl rfl ?_
  refine h_ic (b := 3) rfl (by decide) (by decide) ?_
  refine h_152 rfl (Nat.le_of_ble_eq_true rfl) (by omega) ⟨by omega, by omega⟩ fun r21 a21 b21 => ?_
  refine h_st (t := 0) rfl (Or.inl ⟨rfl, Or.inr rfl⟩) rfl ?_
  have k1a := k1.1
  have key : ∀ (k : Nat) (L : zL) (M2 : yM) (n2 q2 : Nat) (H2 : Nat → zO) (ct : Int), k ≤ 2 → L 0 = some (.ref 0) → L 1 = some (.ref 416) → L 2 = some (.retAddr 0) → L 3 = some (.int (yi x)) → L 4 = some (.int (yi ((l : Int) + 1))) → L 5 = some (.int (yi hc)) → L 6 = some (.int (yi hl)) → L 7 = some (.int (yi y)) → L 8 = some (.int (yi r1)) → L 9 = some (.int (yi ct)) → L 10 = some (.int (yi (k : Int))) → sI H2 n2 q2 M2 e → kx M M2 → (r1 = -1 ∨ (M 1 7 ≤ r1 ∧ uS M2 r1)) → (ct = -1 ∨ (M 1 7 ≤ ct ∧ uC M2 ct)) → hG sc zg_c160 zg_w160 dd 31 L [] n2 q2 H2 (bQ M e) := by
    have c107 : ∀ (L : zL) (M2 : yM) (n2 q2 : Nat) (H2 : Nat → zO) (ct z : Int), L 0 = some (.ref 0) → L 1 = some (.ref 416) → L 8 = some (.int (yi r1)) → L 9 = some (.int (yi ct)) → sI H2 n2 q2 M2 e → kx M M2 → (r1 = -1 ∨ (M 1 7 ≤ r1 ∧ uS M2 r1)) → (ct = -1 ∨ (M 1 7 ≤ ct ∧ uC M2 ct)) → (z = -1 ∨ (M 1 7 ≤ z ∧ uS M2 z ∧ z ≠ r1)) → hG sc zg_c160 zg_w160 dd 107 L [.int (yi z)] n2 q2 H2 (bQ M e) := by
      intro L M2 n2 q2 H2 ct z l0 l1 l8 l9 s2 k2 tb tc tz
      have h9 := s2.2.1.1
      have k2a := k2.1
      have yc : -1 ≤ ct ∧ ct < 90 := by
        rcases tc with h | h
        · omega
        · have := h.2.1; omega
      have yz : -1 ≤ z ∧ z < 90 := by
        rcases tz with h | h
        · omega
        · have := h.2.1.1; omega
      have e114 : ∀ L : zL, hG sc zg_c160 zg_w160 dd 114 L [] n2 q2 H2 (bQ M e) := fun L => by
        refine h_ic (b := (-1)) rfl (by decide) (by decide) ?_
        refine h_go rfl ?_
        exact h_iret rfl rfl ⟨-1, M2, rfl, s2, k2, Or.inl rfl⟩
      have e116 : 0 ≤ r1 → ¬ (z = -1 ∧ ct = -1) → hG sc zg_c160 zg_w160 dd 116 (zL_set L 10 (.int (yi z))) [] n2 q2 H2 (bQ M e) := fun g1 g2 => by
        have ub : M 1 7 ≤ r1 ∧ uS M2 r1 := by
          rcases tb with h | h
          · omega
          · exact h
        refine h_ld (t := 2) rfl (Or.inr (Or.inl ⟨rfl, Or.inl rfl⟩)) (l_kr (by decide) l0) rfl ?_
        refine h_ld (t := 2) rfl (Or.inr (Or.inl ⟨rfl, Or.inl rfl⟩)) (l_kr (by decide) l1) rfl ?_
        refine h_ic (b := 11) rfl (by decide) (by decide) ?_
        refine h_ld (t := 0) rfl (Or.inl ⟨rfl, Or.inr rfl⟩) l_s rfl ?_
        refine h_ld (t := 0) rfl (Or.inl ⟨rfl, Or.inr rfl⟩) (l_ki (by decide) l8) rfl ?_
        refine h_ld (t := 0) rfl (Or.inl ⟨rfl, Or.inr rfl⟩) (l_ki (by decide) l9) rfl ?_
        refine h_158 (M0 := M) rfl (Nat.le_of_ble_eq_true rfl) (by omega) s2 (Or.inr (Or.inr (Or.inr (Or.inr (Or.inr (Or.inr (Or.inr (Or.inr (Or.inl ⟨rfl, tz.imp id (fun h => h.2.1), ub.2, tc.imp id (fun h => h.2), (by rcases tz with h | h; omega; exact h.2.2), g2⟩))))))))) k2 (fun i h => by rcases isQ_abc h with h | h | h <;> rcases tz with h2 | ⟨h2, -⟩ <;> rcases tc with h3 | ⟨h3, -⟩ <;> omega) ?_
        intro r M9 n9 q9 H9 s9 k9 p9 t9 f9
        exact b_ret rfl s9 k9 t9 (by decide) (by omega)
      refine h_st (t := 0) rfl (Or.inl ⟨rfl, Or.inr rfl⟩) rfl ?_
      refine h_ld (t := 0) rfl (Or.inl ⟨rfl, Or.inr rfl⟩) (l_ki (by decide) l8) rfl ?_
      refine h_b2 rfl ⟨by omega, by omega⟩ (fun _ => e114 _) fun g1 => ?_
      refine h_ld (t := 0) rfl (Or.inl ⟨rfl, Or.inr rfl⟩) (l_ki (by decide) l9) rfl ?_
      refine h_b3 rfl ⟨by omega, by omega⟩ (fun _ => e116 g1 (by omega)) fun _ => ?_
      refine h_ld (t := 0) rfl (Or.inl ⟨rfl, Or.inr rfl⟩) l_s rfl ?_
      exact h_b3 rfl ⟨by omega, by omega⟩ (fun _ => e116 g1 (by omega)) fun _ => e114 _
    have c83 : ∀ (L : zL) (M2 : yM) (n2 q2 : Nat) (H2 : Nat → zO) (ct : Int), L 0 = some (.ref 0) → L 1 = some (.ref 416) → L 2 = some (.retAddr 0) → L 3 = some (.int (yi x)) → L 4 = some (.int (yi ((l : Int) + 1))) → L 5 = some (.int (yi hc)) → L 6 = some (.int (yi hl)) → L 7 = some (.int (yi y)) → L 8 = some (.int (yi r1)) → L 9 = some (.int (yi ct)) → sI H2 n2 q2 M2 e → kx M M2 → (r1 = -1 ∨ (M 1 7 ≤ r1 ∧ uS M2 r1)) → (ct = -1 ∨ (M 1 7 ≤ ct ∧ uC M2 ct)) → hG sc zg_c160 zg_w160 dd 83 L [] n2 q2 H2 (bQ M e) := by
      intro L M2 n2 q2 H2 ct l0 l1 l2 l3 l4 l5 l6 l7 l8 l9 s2 k2 tb tc
      have h9 := s2.2.1.1
      have k2a := k2.1
      have yc : -1 ≤ ct ∧ ct < 90 := by
        rcases tc with h | h
        · omega
        · have := h.2.1; omega
      have e106 : hG sc zg_c160 zg_w160 dd 106 L [] n2 q2 H2 (bQ M e) := by
        refine h_ic (b := (-1)) rfl (by decide) (by decide) ?_
        exact c107 L M2 n2 q2 H2 ct (-1) l0 l1 l8 l9 s2 k2 tb tc (Or.inl rfl)
      have e93 : 0 ≤ r1 → hG sc zg_c160 zg_w160 dd 93 L [] n2 q2 H2 (bQ M e) := fun g1 => by
        have ub : M 1 7 ≤ r1 ∧ uS M2 r1 := by
          rcases tb with h | h
          · omega
          · exact h
        have ub2 := ub.2.1
        refine h_ld (t := 2) rfl (Or.inr (Or.inl ⟨rfl, Or.inl rfl⟩)) l0 rfl ?_
        refine h_ld (t := 2) rfl (Or.inr (Or.inl ⟨rfl, Or.inl rfl⟩)) l1 rfl ?_
        refine h_ld (t := 2) rfl (Or.inr (Or.inl ⟨rfl, Or.inl rfl⟩)) l2 rfl ?_
        refine h_ld (t := 0) rfl (Or.inl ⟨rfl, Or.inl rfl⟩) l3 rfl ?_
        refine h_ic (b := 11) rfl (by decide) (by decide) ?_
        refine h_add rfl ?_
        refine h_ld (t := 0) rfl (Or.inl ⟨rfl, Or.inr rfl⟩) l4 rfl ?_
        refine h_ic (b := 1) rfl (by decide) (by decide) ?_
        refine h_sub rfl ?_
        refine h_ld (t := 0) rfl (Or.inl ⟨rfl, Or.inr rfl⟩) l5 rfl ?_
        refine h_ld (t := 0) rfl (Or.inl ⟨rfl, Or.inr rfl⟩) l6 rfl ?_
        refine h_153 (M0 := M) hB rfl (Nat.le_of_ble_eq_true rfl) s2 k2 ⟨by omega, by omega⟩ (by omega) hh fun r3 M3 n3 q3 H3 s3 x3 k3 t3 f3 => ?_
        refine h_go rfl ?_
        refine c107 L M3 n3 q3 H3 ct r3 l0 l1 l8 l9 s3 k3 (tb.imp id fun h => ⟨h.1, kx_uS x3 h.2⟩) (tc.imp id fun h => ⟨h.1, kx_uC x3 h.2⟩) (t3.imp id fun h => ⟨by have := h.1; omega, h.2, by have := h.1; omega⟩)
      refine h_ld (t := 0) rfl (Or.inl ⟨rfl, Or.inr rfl⟩) l8 rfl ?_
      refine h_b2 rfl ⟨by omega, by omega⟩ (fun _ => e106) fun g1 => ?_
      refine h_ld (t := 0) rfl (Or.inl ⟨rfl, Or.inr rfl⟩) l9 rfl ?_
      refine h_b2 rfl ⟨by omega, by omega⟩ (fun _ => e93 g1) fun g2 => ?_
      refine h_ld (t := 0) rfl (Or.inl ⟨rfl, Or.inr rfl⟩) l7 rfl ?_
      refine h_ic (b := 6) rfl (by decide) (by decide) ?_
      refine h_bin rfl (by decide) fun d2 hd2 => ?_
      refine h_ic (b := 2) rfl (by decide) (by decide) ?_
      refine h_152 rfl (Nat.le_of_ble_eq_true rfl) (by omega) ⟨by omega, by omega⟩ fun r22 a22 b22 => ?_
      exact h_b1 rfl ⟨by omega, by omega⟩ (fun _ => e106) fun _ => e93 g1
    intro k
    induction k with
    | zero =>
      intro L M2 n2 q2 H2 ct hk2 l0 l1 l2 l3 l4 l5 l6 l7 l8 l9 l10 s2 k2 tb tc
      refine h_ld (t := 0) rfl (Or.inl ⟨rfl, Or.inr rfl⟩) l10 rfl ?_
      exact h_b5 rfl ⟨by decide, by decide⟩ (fun _ => c83 L M2 n2 q2 H2 ct l0 l1 l2 l3 l4 l5 l6 l7 l8 l9 s2 k2 tb tc) fun h => absurd h (by decide)
    | succ k ih =>
      intro L M2 n2 q2 H2 ct hk2 l0 l1 l2 l3 l4 l5 l6 l7 l8 l9 l10 s2 k2 tb tc
      refine h_ld (t := 0) rfl (Or.inl ⟨rfl, Or.inr rfl⟩) l10 rfl ?_
      refine h_b5 rfl ⟨by omega, by omega⟩ (fun h => absurd h (by omega)) fun _ => ?_
      refine h_ld (t := 0) rfl (Or.inl ⟨rfl, Or.inr rfl⟩) l8 rfl ?_
      refine h_b2 rfl ⟨by omega, by omega⟩ (fun _ => c83 L M2 n2 q2 H2 ct l0 l1 l2 l3 l4 l5 l6 l7 l8 l9 s2 k2 tb tc) fun g1 => ?_
      have k2a := k2.1
      have ub : M 1 7 ≤ r1 ∧ uS M2 r1 := by
          rcases tb with h | h
          · omega
          · exact h
      have ub2 := ub.2.1
      refine h_ld (t := 2) rfl (Or.inr (Or.inl ⟨rfl, Or.inl rfl⟩)) l0 rfl ?_
      refine h_ld (t := 2) rfl (Or.inr (Or.inl ⟨rfl, Or.inl rfl⟩)) l1 rfl ?_
      refine h_ld (t := 2) rfl (Or.inr (Or.inl ⟨rfl, Or.inl rfl⟩)) l2 rfl ?_
      refine h_ld (t := 0) rfl (Or.inl ⟨rfl, Or.inl rfl⟩) l3 rfl ?_
      refine h_ic (b := 6) rfl (by decide) (by decide) ?_
      refine h_add rfl ?_
      refine h_ld (t := 0) rfl (Or.inl ⟨rfl, Or.inr rfl⟩) l10 rfl ?_
      refine h_add rfl ?_
      refine h_ld (t := 0) rfl (Or.inl ⟨rfl, Or.inr rfl⟩) l4 rfl ?_
      refine h_ic (b := 1) rfl (by decide) (by decide) ?_
      refine h_sub rfl ?_
      refine h_ic (b := 1) rfl (by decide) (by decide) ?_
      refine h_ld (t := 0) rfl (Or.inl ⟨rfl, Or.inr rfl⟩) l6 rfl ?_
      refine h_153 (M0 := M) hB rfl (Nat.le_of_ble_eq_true rfl) s2 k2 ⟨by omega, by omega⟩ (by omega) ⟨Or.inr rfl, hh.2⟩ fun r3 M3 n3 q3 H3 s3 x3 k3 t3 f3 => ?_
      refine h_st (t := 0) rfl (Or.inl ⟨rfl, Or.inr rfl⟩) rfl ?_
      refine h_ld (t := 0) rfl (Or.inl ⟨rfl, Or.inr rfl⟩) l_s rfl ?_
      have x3a := x3.1
      refine h_b3 rfl ⟨by omega, by omega⟩ (fun g2 => ?_) fun _ => ?_
      rotate_left
      · skip
        refine h_ic (b := (-1)) rfl (by decide) (by decide) ?_
        exact h_iret rfl rfl ⟨-1, M3, rfl, s3, k3, Or.inl rfl⟩
      have u3 : M2 1 7 ≤ r3 ∧ uS M3 r3 := by
          rcases t3 with h | h
          · omega
          · exact h
      have e10 := kx_10 k3
      have c71 : ∀ kd : Int, 0 ≤ kd → kd < M3 1 0 → hG sc zg_c160 zg_w160 dd 71 (zL_set L 11 (.int (yi r3))) [.int (yi kd), .int (yi 12), .ref 416, .ref 0] n3 q3 H3 (bQ M e) := by
        intro kd hk0 hk1
        refine h_ld (t := 0) rfl (Or.inl ⟨rfl, Or.inr rfl⟩) l_s rfl ?_
        refine h_ld (t := 0) rfl (Or.inl ⟨rfl, Or.inr rfl⟩) (l_ki (by decide) l9) rfl ?_
        refine h_158 (M0 := M) rfl (Nat.le_of_ble_eq_true rfl) (by omega) s3 (Or.inr (Or.inr (Or.inr (Or.inr (Or.inr (Or.inr (Or.inr (Or.inr (Or.inr (Or.inl ⟨rfl, ⟨hk0, hk1⟩, u3.2, tc.imp id (fun h => kx_uC x3 h.2)⟩)))))))))) k3 (fun i h => by rcases isQ_bc (by decide) h with h | h <;> rcases tc with h3 | ⟨h3, -⟩ <;> omega) fun r4 M4 n4 q4 H4 s4 k4 p4 t4 f4 => ?_
        refine h_st (t := 0) rfl (Or.inl ⟨rfl, Or.inr rfl⟩) rfl ?_
        refine h_ld (t := 0) rfl (Or.inl ⟨rfl, Or.inr rfl⟩) l_s rfl ?_
        have h9 := s4.2.1.1
        have h9b := s3.2.1.1
        have y4 : -1 ≤ r4 ∧ r4 < 90 := by
            rcases t4 with h | ⟨h, h2, -⟩
            · omega
            · omega
        refine h_b3 rfl ⟨by omega, by omega⟩ (fun g3 => ?_) fun _ => ?_
        rotate_left
        · skip
          refine h_ic (b := (-1)) rfl (by decide) (by decide) ?_
          exact h_iret rfl rfl ⟨-1, M4, rfl, s4, k4, Or.inl rfl⟩
        have k3a := k3.1
        refine h_ld (t := 0) rfl (Or.inl ⟨rfl, Or.inr rfl⟩) l_s rfl ?_
        refine h_st (t := 0) rfl (Or.inl ⟨rfl, Or.inr rfl⟩) rfl ?_
        refine h_inc (c := -1) rfl (l_ki (by decide) (l_ki (by decide) (l_ki (by decide) l10))) (by decide) ?_
        refine h_go rfl ?_
        have nq : ∀ i : Nat, isQ 12 kd r3 ct i → r1 ≠ (i : Int) := fun i h => by
            have q3 := u3.1
            rcases isQ_bc (by decide) h with h | h
            · omega
            · rcases tc with h3 | ⟨h3, h4⟩
              · omega
              · have h5 := h4.2.1
                have h6 := ub.2.2.1
                intro hq
                rw [← h, ← hq] at h5
                exact h6 h5
        have ek : (((k + 1 : Nat) : Int) + -1) = (k : Int) := by omega
        refine ih _ M4 n4 q4 H4 r4 (by omega) (l_kr (by decide) (l_kr (by decide) (l_kr (by decide) (l_kr (by decide) l0)))) (l_kr (by decide) (l_kr (by decide) (l_kr (by decide) (l_kr (by decide) l1)))) (l_ka (by decide) (l_ka (by decide) (l_ka (by decide) (l_ka (by decide) l2)))) (l_ki (by decide) (l_ki (by decide) (l_ki (by decide) (l_ki (by decide) l3)))) (l_ki (by decide) (l_ki (by decide) (l_ki (by decide) (l_ki (by decide) l4)))) (l_ki (by decide) (l_ki (by decide) (l_ki (by decide) (l_ki (by decide) l5)))) (l_ki (by decide) (l_ki (by decide) (l_ki (by decide) (l_ki (by decide) l6)))) (l_ki (by decide) (l_ki (by decide) (l_ki (by decide) (l_ki (by decide) l7)))) (l_ki (by decide) (l_ki (by decide) (l_ki (by decide) (l_ki (by decide) l8)))) (l_ki (by decide) l_s) ?_ s4 k4 (Or.inr ⟨ub.1, (p4 r1 nq).1 (kx_uS x3 ub.2)⟩) ?_
        · rw [← ek]; exact l_s
        · rcases t4 with h | ⟨h, -, h2, -⟩
          · exact Or.inl h
          · exact Or.inr ⟨by omega, h2 rfl⟩
      refine h_ld (t := 2) rfl (Or.inr (Or.inl ⟨rfl, Or.inl rfl⟩)) (l_kr (by decide) l0) rfl ?_
      refine h_ld (t := 2) rfl (Or.inr (Or.inl ⟨rfl, Or.inl rfl⟩)) (l_kr (by decide) l1) rfl ?_
      refine h_ic (b := 12) rfl (by decide) (by decide) ?_
      refine h_ld (t := 0) rfl (Or.inl ⟨rfl, Or.inr rfl⟩) (l_ki (by decide) l10) rfl ?_
      refine h_ic (b := 2) rfl (by decide) (by decide) ?_
      refine h_c1 rfl ⟨⟨by omega, by omega⟩, ⟨by omega, by omega⟩⟩ (fun _ => ?_) fun _ => ?_
      · skip
        refine h_ld (t := 0) rfl (Or.inl ⟨rfl, Or.inr rfl⟩) (l_ki (by decide) l7) rfl ?_
        refine h_ic (b := 3) rfl (by decide) (by decide) ?_
        refine h_ld (t := 0) rfl (Or.inl ⟨rfl, Or.inr rfl⟩) (l_ki (by decide) l10) rfl ?_
        refine h_add rfl ?_
        refine h_bin rfl (by decide) fun d3 hd3 => ?_
        refine h_ld (t := 2) rfl (Or.inr (Or.inl ⟨rfl, Or.inl rfl⟩)) (l_kr (by decide) l1) rfl ?_
        refine h_len s3 rfl rfl (Or.inr (Or.inl ⟨rfl, rfl⟩)) ?_
        refine h_152 rfl (Nat.le_of_ble_eq_true rfl) (by omega) ⟨by omega, by omega⟩ fun r23 a23 b23 => ?_
        exact c71 _ (by omega) (by omega)
      · skip
        refine h_ic (b := 0) rfl (by decide) (by decide) ?_
        refine h_go rfl ?_
        exact c71 _ (by omega) (by omega)
  obtain ⟨k, hk⟩ : ∃ k : Nat, r21 = (k : Int) := ⟨r21.toNat, by omega⟩
  rw [hk]
  exact key k _ M1 n1 q1 H1 (-1) (by omega) rfl rfl rfl rfl rfl rfl rfl rfl rfl rfl rfl s1 k1 t1 (Or.inl rfl)
end HrM
