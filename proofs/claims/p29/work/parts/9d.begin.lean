/-! two runs side by side: beginnings, guards, closes, nodes of one instruction, labels settled -/
section PsA
variable {cc d e i n K : Nat} {P M N M' N' X Y : yM} {b : Prop} {S S' : Nat → Prop} {v v' x y z nd gd lb op L g B l x1 x2 x3 x4 x5 x6 : Int}
/-- what only grows, and what stays -/
def mo (cc : Nat) (M X : yM) : Prop := M 96 7 ≤ X 96 7 ∧ (X cc 1 = 0 → M cc 1 = 0 ∧ M cc 0 ≤ X cc 0) ∧ ∀ y : Nat, (y : Int) < M 96 7 → X 100 y = M 100 y
theorem mo_rfl : mo cc M M := ⟨Int.le_refl _, fun z => ⟨z, Int.le_refl _⟩, fun _ _ => rfl⟩
theorem mo_trans (h1 : mo cc M X) (h2 : mo cc X Y) : mo cc M Y := by
  obtain ⟨a1, a2, a3⟩ := h1
  obtain ⟨b1, b2, b3⟩ := h2
  refine ⟨by omega, fun z => ?_, fun y hy => (b3 y (by omega)).trans (a3 y hy)⟩
  have c1 := b2 z
  have c2 := a2 c1.1
  exact ⟨c2.1, by omega⟩
theorem mo_of (h7 : X 96 7 = M 96 7) (h0 : X cc 0 = M cc 0) (h1 : X cc 1 = M cc 1) (hy : ∀ y, X 100 y = M 100 y) : mo cc M X := ⟨by omega, fun z => ⟨by omega, by omega⟩, fun y _ => hy y⟩
theorem g40 (hcc : pC cc) (h0 : 0 ≤ M cc 0) (h3 : M cc 0 ≤ 300) :
    (∀ a j, ¬ (M cc 0 < 300 ∧ j = (M cc 0).toNat ∧ (a = cc + 6 ∨ a = cc + 7)) → a ≠ cc + 8 → ¬ (a = cc ∧ j = 10) → f_40 M cc x a j = M a j) ∧ f_40 M cc x cc 10 = M cc 10 + 1 ∧
    (M cc 0 < 300 → f_40 M cc x (cc + 7) (M cc 0).toNat = M (cc + 7) (M cc 0).toNat + 1 ∧ f_40 M cc x (cc + 6) (M cc 0).toNat = cond (yrel 1 (M (cc + 7) (M cc 0).toNat) 0) (M (cc + 6) (M cc 0).toNat) (M cc 10)) ∧
    ∀ k : Nat, 0 ≤ M cc 10 → M cc 10 ≤ 1000000 → k < 690 → f_40 M cc x (cc + 8) k = if (k : Int) = M cc 10 then x else M (cc + 8) k := by
  have hr := cc_rg hcc
  have hln : ∀ c, 1 ≤ c → c ≤ 7 → yln (cc + c) = 300 := fun c h1 h2 => by
    obtain ⟨p, hp, rfl⟩ := hcc
    exact ln_c hp ⟨h1, h2⟩
  have hl8 : yln (cc + 8) = 690 := by
    obtain ⟨p, hp, rfl⟩ := hcc
    exact ln_c8 hp
  have h8 : ∀ (Q : yM) (k : Nat), 0 ≤ M cc 10 → M cc 10 ≤ 1000000 → k < 690 → ywr Q (cc + 8) (M cc 10) x (cc + 8) k = if (k : Int) = M cc 10 then x else Q (cc + 8) k := fun Q k q0 q1 q2 => by
    by_cases q : M cc 10 < 690
    · rw [wr_in q0 (by rw [hl8]; omega)]
      by_cases q3 : (k : Int) = M cc 10
      · rw [if_pos q3, show k = (M cc 10).toNat by omega, yU_at]
      · rw [if_neg q3, yU_i (by omega)]
    · rw [wr_out ⟨by omega, by omega⟩ (by rw [hl8]; omega), if_neg (by omega)]
  have h13 : ∀ Q : yM, Q cc 0 = M cc 0 → Q cc 10 = M cc 10 → f_40_13 Q cc x = yU (ywr (ywr Q (cc + 7) (M cc 0) (yrd Q (cc + 7) (M cc 0) + 1)) (cc + 8) (M cc 10) x) cc 10 (M cc 10 + 1) := fun Q e1 e2 => by
    unfold f_40_13
    rw [ylet_eq, ylet_eq, ylet_eq, e1]
    have e3 : ∀ u, ywr Q (cc + 7) (M cc 0) u cc 10 = M cc 10 := fun u => (wr_c (by omega)).trans e2
    rw [e3]
    have e4 : ∀ (R : yM) u, R cc 10 = M cc 10 → ywr R (cc + 8) u x cc 10 = M cc 10 := fun R u q => (wr_c (by omega)).trans q
    rw [e4 _ _ (e3 _)]
  by_cases hlt : M cc 0 < 300
  · have rd : ∀ Q : yM, yrd Q (cc + 7) (M cc 0) = Q (cc + 7) (M cc 0).toNat := fun Q => rd_in h0 (by rw [hln 7 (by omega) (by omega)]; omega)
    have w7 : ∀ (Q : yM) (u : Int), ywr Q (cc + 7) (M cc 0) u = yU Q (cc + 7) (M cc 0).toNat u := fun Q u => wr_in h0 (by rw [hln 7 (by omega) (by omega)]; omega)
    cases hz : yrel 1 (M (cc + 7) (M cc 0).toNat) 0 with
    | true =>
      have e : f_40 M cc x = yU (ywr (yU M (cc + 7) (M cc 0).toNat (M (cc + 7) (M cc 0).toNat + 1)) (cc + 8) (M cc 10) x) cc 10 (M cc 10 + 1) := by
        unfold f_40
        rw [rd, hz, cond_true, h13 M rfl rfl, rd, w7]
      rw [e]
      refine ⟨fun a j q1 q2 q3 => ?_, ?_, fun _ => ⟨?_, ?_⟩, fun k q0 q1 q2 => ?_⟩
      · rw [yU_ne q3, wr_c q2, yU_ne (by omega)]
      · rw [yU_at]
      · rw [yU_c (by omega), wr_c (by omega), yU_at]
      · rw [cond_true, yU_c (by omega), wr_c (by omega), yU_c (by omega)]
      · rw [yU_c (by omega), h8 _ _ q0 q1 q2, yU_c (by omega)]
    | false =>
      have e : f_40 M cc x = yU (ywr (yU (yU M (cc + 6) (M cc 0).toNat (M cc 10)) (cc + 7) (M cc 0).toNat (M (cc + 7) (M cc 0).toNat + 1)) (cc + 8) (M cc 10) x) cc 10 (M cc 10 + 1) := by
        unfold f_40
        rw [rd, hz, cond_false, ylet_eq, wr_in (a := cc + 6) h0 (by rw [hln 6 (by omega) (by omega)]; omega), h13 _ (yU_c (by omega)) (yU_c (by omega)), rd, w7, yU_c (b := cc + 7) (a := cc + 6) (by omega)]
      rw [e]
      refine ⟨fun a j q1 q2 q3 => ?_, ?_, fun _ => ⟨?_, ?_⟩, fun k q0 q1 q2 => ?_⟩
      · rw [yU_ne q3, wr_c q2, yU_ne (by omega), yU_ne (by omega)]
      · rw [yU_at]
      · rw [yU_c (by omega), wr_c (by omega), yU_at]
      · rw [cond_false, yU_c (by omega), wr_c (by omega), yU_c (by omega), yU_at]
      · rw [yU_c (by omega), h8 _ _ q0 q1 q2, yU_c (by omega), yU_c (by omega)]
  · have wro : ∀ (Q : yM) (a : Nat) (u : Int), yln a = 300 → ywr Q a (M cc 0) u = Q := fun Q a u h => wr_out ⟨by omega, by omega⟩ (by rw [h]; omega)
    have e : f_40 M cc x = yU (ywr M (cc + 8) (M cc 10) x) cc 10 (M cc 10 + 1) := by
      unfold f_40
      rw [rd_out ⟨by omega, by omega⟩ (by rw [hln 7 (by omega) (by omega)]; omega)]
      rw [show yrel 1 0 0 = false from rfl, cond_false, ylet_eq, wro _ _ _ (hln 6 (by omega) (by omega)), h13 M rfl rfl, wro _ _ _ (hln 7 (by omega) (by omega))]
    rw [e]
    refine ⟨fun a j q1 q2 q3 => ?_, ?_, fun q => absurd q hlt, fun k q0 q1 q2 => ?_⟩
    · rw [yU_ne q3, wr_c q2]
    · rw [yU_at]
    · rw [yU_c (by omega), h8 _ _ q0 q1 q2]
/-- a node begins -/
theorem pq_40 (hcc : pC cc) (h : pq cc P b S e v M N) : pq cc P b S e v (f_40 M cc x) (f_40 N cc x) ∧ mo cc M (f_40 M cc x) ∧ f_40 M cc x cc 1 = M cc 1 := by
  have hr := cc_rg hcc
  have hl := h.1.1.1.1
  have e0 : N cc 0 = M cc 0 := h.1.2.2.1.1
  have e10 : N cc 10 = M cc 10 := h.1.2.2.1.2.2.1
  have w1 := (lQ_40 (d := 0) (x := x) hcc h.1.1.1).2
  have w2 := (lQ_40 (d := 0) (x := x) hcc h.1.1.2).2
  obtain ⟨k1, k2, k3, k4⟩ := g40 (M := M) (x := x) hcc hl.1 hl.2
  obtain ⟨n1, n2, n3, n4⟩ := g40 (M := N) (x := x) hcc (by omega) (by omega)
  rw [e0] at n1
  rw [e10] at n2 n4
  rw [e0, e10] at n3
  generalize f_40 M cc x = X at *
  generalize f_40 N cc x = Y at *
  obtain ⟨⟨a1, a2, a3, a4, a5, a6, a7⟩, b2, b3, b4, b5, b6⟩ := h
  have x0 : X cc 0 = M cc 0 := k1 _ _ (by omega) (by omega) (by omega)
  have x7 : X 96 7 = M 96 7 := k1 _ _ (by omega) (by omega) (by omega)
  have xt : X cc 1 = M cc 1 := k1 _ _ (by omega) (by omega) (by omega)
  refine ⟨⟨⟨⟨w1, w2⟩, fun a j ha => ?_, ⟨?_, ?_, ?_, ?_, ?_⟩, ?_, ?_, ?_, fun z => ?_⟩, ?_, ?_, ?_, ?_, ?_⟩, mo_of x7 x0 xt fun y => k1 _ _ (by omega) (by omega) (by omega), xt⟩
  · rw [k1 _ _ (by omega) (by omega) (by omega), n1 _ _ (by omega) (by omega) (by omega)]; exact a2 a j ha
  · rw [x0, n1 _ _ (by omega) (by omega) (by omega)]; exact a3.1
  · rw [xt, n1 _ _ (by omega) (by omega) (by omega)]; exact a3.2.1
  · rw [k2, n2]
  · rw [x7, n1 _ _ (by omega) (by omega) (by omega)]; exact a3.2.2.2.1
  · rw [k1 _ _ (by omega) (by omega) (by omega), n1 _ _ (by omega) (by omega) (by omega)]; exact a3.2.2.2.2
  · rw [k2]; omega
  · rw [x7]; exact a5
  · rw [x7]; exact a6
  · rw [xt] at z
    rw [x7, x0]; exact a7 z
  · rw [x0, x7, k2]
    obtain ⟨c1, c2, c3⟩ := b2
    refine ⟨fun t ht => ?_, fun t ht => ?_, fun hs => ⟨fun t ht => ?_, fun j hj hB => ?_⟩⟩
    · rw [k1 101 t (by omega) (by omega) (by omega), k1 102 t (by omega) (by omega) (by omega), n1 101 t (by omega) (by omega) (by omega), n1 102 t (by omega) (by omega) (by omega), k1 (cc + 1) t (by omega) (by omega) (by omega)]
      obtain ⟨d1, d2, d3, d4⟩ := c1 t ht
      exact ⟨fun c q1 q2 => by rw [k1 (cc + c) t (by omega) (by omega) (by omega), n1 (cc + c) t (by omega) (by omega) (by omega)]; exact d1 c q1 q2, d2, d3, d4⟩
    · by_cases q : M cc 0 < 300 ∧ t = (M cc 0).toNat
      · obtain ⟨q1, q2⟩ := q
        subst q2
        rw [(k3 q1).1, (n3 q1).1, c2 _ ht]
      · rw [k1 (cc + 7) t (by omega) (by omega) (by omega), n1 (cc + 7) t (by omega) (by omega) (by omega)]; exact c2 t ht
    · obtain ⟨p1, p2⟩ := c3 (by omega)
      obtain ⟨r1, r2⟩ := p1 t ht
      by_cases q : M cc 0 < 300 ∧ t = (M cc 0).toNat
      · obtain ⟨q1, q2⟩ := q
        subst q2
        have hsm : ysm (M (cc + 7) (M cc 0).toNat) := ⟨by omega, by
          rcases Int.lt_or_le 0 (M (cc + 7) (M cc 0).toNat) with q | q
          · have := r2 q; omega
          · omega⟩
        rw [(k3 q1).1, (k3 q1).2, (n3 q1).2, c2 _ ht, rel1 hsm ⟨by decide, by decide⟩]
        refine ⟨by omega, fun _ => ?_⟩
        by_cases hz : M (cc + 7) (M cc 0).toNat = 0
        · rw [decide_eq_true hz, show (!true) = false from rfl, cond_false, cond_false]
          exact ⟨rfl, a4, by omega⟩
        · rw [decide_eq_false hz, show (!false) = true from rfl, cond_true, cond_true]
          have := r2 (by omega)
          exact ⟨this.1, this.2.1, by omega⟩
      · rw [k1 (cc + 7) t (by omega) (by omega) (by omega), k1 (cc + 6) t (by omega) (by omega) (by omega), n1 (cc + 6) t (by omega) (by omega) (by omega)]
        exact ⟨r1, fun q => by have := r2 q; exact ⟨this.1, this.2.1, by omega⟩⟩
    · rw [k4 j a4 (by omega) hj, n4 j a4 (by omega) hj]
      by_cases q : (j : Int) = M cc 10
      · rw [if_pos q, if_pos q]
      · rw [if_neg q, if_neg q]
        exact (c3 (by omega)).2 j hj (by omega)
  · rw [x7]
    exact qG_cg (fun a j q => ⟨k1 a j (by omega) (by omega) (by omega), n1 a j (by omega) (by omega) (by omega)⟩) b3
  · rw [x7]
    exact qL_cg (fun a j q => ⟨k1 a j (by omega) (by omega) (by omega), n1 a j (by omega) (by omega) (by omega)⟩) b4
  · rw [x0]
    exact qS_cg (fun a j q => ⟨k1 a j (by omega) (by omega) (by omega), n1 a j (by omega) (by omega) (by omega)⟩) (Int.le_refl _) b5
  · rw [x0]
    exact qR_cg (fun a j q => ⟨k1 a j (by omega) (by omega) (by omega), n1 a j (by omega) (by omega) (by omega)⟩) (fun t ht => k1 _ _ (by omega) (by omega) (by omega)) b6
/-- what the program says is the same -/
theorem pq_rd {a : Nat} (h : pq cc P b S e v M N) (ha : 1 ≤ a ∧ a ≤ 17) : yrd N a x = yrd M a x := by
  unfold yrd
  by_cases q : 0 ≤ yw x ∧ (yw x).toNat < yln a
  · rw [if_pos q, if_pos q, (h.1.2.1 _ _ ha).1, (h.1.2.1 _ _ ha).2]
  · rw [if_neg q, if_neg q]
theorem g66 (hd : d ≤ 90) (h0 : 0 ≤ M 96 7) (h1 : M 96 7 < 390) : f_66 M x (d : Int) = (yU (yU (yU (yU M 96 7 (M 96 7 + 1)) 98 (M 96 7).toNat x) 99 (M 96 7).toNat (M (105 + d) 0)) 100 (M 96 7).toNat (d : Int), M 96 7) := by
  unfold f_66
  rw [ylet_eq, ylet_eq, ylet_eq, ylet_eq, ylet_eq, pz_d (by omega)]
  rw [wr_in (a := 98) h0 (by show M 96 7 < ((390 : Nat) : Int); omega), wr_in (a := 99) h0 (by show M 96 7 < ((390 : Nat) : Int); omega), wr_in (a := 100) h0 (by show M 96 7 < ((390 : Nat) : Int); omega), yU_c (b := 105 + d) (by omega), yU_c (b := 105 + d) (by omega)]
/-- a guard is made -/
theorem pq_66 (hcc : pC cc) (hd : d < 90) (h : pq cc P b S d v M N) (h0 : M cc 1 = 0) (hv : v ≤ (d : Int)) : (pq cc P b S d (v + 1) (f_66 M x (d : Int)).1 (f_66 N x (d : Int)).1 ∧ mo cc M (f_66 M x (d : Int)).1 ∧ (f_66 M x (d : Int)).1 96 7 = M 96 7 + 1 ∧ (f_66 M x (d : Int)).1 100 (M 96 7).toNat = (d : Int)) ∧ (f_66 M x (d : Int)).2 = M 96 7 ∧ (f_66 N x (d : Int)).2 = M 96 7 := by
  have hr := cc_rg hcc
  have e7 : N 96 7 = M 96 7 := h.1.2.2.1.2.2.2.1
  have hl := h.1.1.1.1
  have hg0 := h.1.2.2.2.2.1
  have hg1 := h.1.2.2.2.2.2.2 h0
  have w1 := (lQ_66 (d := 0) (x := x) (y := (d : Int)) hcc h.1.1.1).2
  have w2 := (lQ_66 (d := 0) (x := x) (y := (d : Int)) hcc h.1.1.2).2
  rw [g66 (by omega) hg0 (by omega)] at w1
  rw [g66 (by omega) (by omega) (by omega), e7] at w2
  rw [g66 (by omega) hg0 (by omega), g66 (M := N) (by omega) (by omega) (by omega), e7]
  refine ⟨?_, rfl, rfl⟩
  dsimp only at w1 w2 ⊢
  have k : ∀ (M : yM) (q : Int) (l : Nat) (u r : Int) a j, ¬ (a = 96 ∧ j = 7) → ¬ (j = l ∧ (98 ≤ a ∧ a ≤ 100)) → yU (yU (yU (yU M 96 7 q) 98 l x) 99 l u) 100 l r a j = M a j := fun M q l u r a j q1 q2 => by
    rw [yU_ne (by omega), yU_ne (by omega), yU_ne (by omega), yU_ne q1]
  have k7 : ∀ (M : yM) (q : Int) (l : Nat) (u r : Int), yU (yU (yU (yU M 96 7 q) 98 l x) 99 l u) 100 l r 96 7 = q := fun M q l u r => by
    rw [yU_c (by omega), yU_c (by omega), yU_c (by omega), yU_at]
  have k9 : ∀ (M : yM) (q : Int) (l : Nat) (u r : Int), yU (yU (yU (yU M 96 7 q) 98 l x) 99 l u) 100 l r 98 l = x ∧ yU (yU (yU (yU M 96 7 q) 98 l x) 99 l u) 100 l r 99 l = u ∧ yU (yU (yU (yU M 96 7 q) 98 l x) 99 l u) 100 l r 100 l = r := fun M q l u r => by
    refine ⟨?_, ?_, ?_⟩
    · rw [yU_c (by omega), yU_c (by omega), yU_at]
    · rw [yU_c (by omega), yU_at]
    · rw [yU_at]
  obtain ⟨⟨a1, a2, a3, a4, a5, a6, a7⟩, b2, b3, b4, b5, b6⟩ := h
  generalize hX : yU (yU (yU (yU M 96 7 (M 96 7 + 1)) 98 (M 96 7).toNat x) 99 (M 96 7).toNat (M (105 + d) 0)) 100 (M 96 7).toNat (d : Int) = X at w1 ⊢
  generalize hY : yU (yU (yU (yU N 96 7 (M 96 7 + 1)) 98 (M 96 7).toNat x) 99 (M 96 7).toNat (N (105 + d) 0)) 100 (M 96 7).toNat (d : Int) = Y at w2 ⊢
  have kX : ∀ a j, ¬ (a = 96 ∧ j = 7) → ¬ (j = (M 96 7).toNat ∧ (98 ≤ a ∧ a ≤ 100)) → X a j = M a j := fun a j q1 q2 => by rw [← hX]; exact k _ _ _ _ _ a j q1 q2
  have kY : ∀ a j, ¬ (a = 96 ∧ j = 7) → ¬ (j = (M 96 7).toNat ∧ (98 ≤ a ∧ a ≤ 100)) → Y a j = N a j := fun a j q1 q2 => by rw [← hY]; exact k _ _ _ _ _ a j q1 q2
  have x7 : X 96 7 = M 96 7 + 1 := by rw [← hX]; exact k7 _ _ _ _ _
  have y7 : Y 96 7 = M 96 7 + 1 := by rw [← hY]; exact k7 _ _ _ _ _
  have x9 : X 98 (M 96 7).toNat = x ∧ X 99 (M 96 7).toNat = M (105 + d) 0 ∧ X 100 (M 96 7).toNat = (d : Int) := by rw [← hX]; exact k9 _ _ _ _ _
  have y9 : Y 98 (M 96 7).toNat = x ∧ Y 99 (M 96 7).toNat = N (105 + d) 0 ∧ Y 100 (M 96 7).toNat = (d : Int) := by rw [← hY]; exact k9 _ _ _ _ _
  have x0 : X cc 0 = M cc 0 := kX _ _ (by omega) (by omega)
  have hp := b4 d (Nat.le_refl d)
  refine ⟨⟨⟨⟨w1, w2⟩, fun a j ha => ?_, ⟨?_, ?_, ?_, ?_, ?_⟩, ?_, ?_, ?_, fun z => ?_⟩, ?_, ?_, ?_, ?_, ?_⟩, ⟨by omega, fun z => ⟨h0, by omega⟩, fun y hy => kX _ _ (by omega) (by omega)⟩, x7, x9.2.2⟩
  · rw [kX _ _ (by omega) (by omega), kY _ _ (by omega) (by omega)]; exact a2 a j ha
  · rw [x0, kY _ _ (by omega) (by omega)]; exact a3.1
  · rw [kX _ _ (by omega) (by omega), kY _ _ (by omega) (by omega)]; exact a3.2.1
  · rw [kX _ _ (by omega) (by omega), kY _ _ (by omega) (by omega)]; exact a3.2.2.1
  · rw [x7, y7]
  · rw [kX _ _ (by omega) (by omega), kY _ _ (by omega) (by omega)]; exact a3.2.2.2.2
  · rw [kX _ _ (by omega) (by omega)]; exact a4
  · rw [x7]; omega
  · rw [x7]; omega
  · rw [x7, x0]; omega
  · rw [x0, x7, kX cc 10 (by omega) (by omega)]
    exact qC_g (B' := 0) (by omega) (qC_cg (fun a j q => ⟨kX a j (by omega) (by omega), kY a j (by omega) (by omega)⟩) b2)
  · intro y hy
    rw [x7] at hy
    by_cases q : (y : Int) = M 96 7
    · have ey : y = (M 96 7).toNat := by omega
      subst ey
      rw [x9.1, x9.2.1, x9.2.2, y9.1, y9.2.1, y9.2.2]
      refine ⟨⟨rfl, hp.1 0 (by decide), rfl⟩, ⟨hp.2.1.1, by have := hp.2.1.2; omega⟩, fun z => ?_, by omega, by omega⟩
      rw [kX _ _ (by omega) (by have := hp.2.1.2; omega)]
      exact hp.2.2.1 z
    · obtain ⟨c1, c2, c3, c4⟩ := b3 y (by omega)
      rw [kX 98 y (by omega) (by omega), kX 99 y (by omega) (by omega), kX 100 y (by omega) (by omega), kY 98 y (by omega) (by omega), kY 99 y (by omega) (by omega), kY 100 y (by omega) (by omega)]
      refine ⟨c1, c2, fun z => ?_, c4⟩
      rw [kX 100 _ (by omega) (by omega)]
      exact c3 z
  · rw [x7]
    refine qL_g (g := M 96 7) (by omega) fun l hl => ?_
    obtain ⟨c1, c2, c3, c4⟩ := b4 l hl
    rw [kX (105 + l) 0 (by omega) (by omega), kX (105 + l) 5 (by omega) (by omega)]
    exact ⟨fun j hj => by rw [kX _ _ (by omega) (by omega), kY _ _ (by omega) (by omega)]; exact c1 j hj, c2, fun z => by rw [kX 100 _ (by omega) (by omega)]; exact c3 z, c4⟩
  · rw [x0]
    exact qS_cg (fun a j q => ⟨kX a j (by omega) (by omega), kY a j (by omega) (by omega)⟩) (Int.le_refl _) b5
  · rw [x0]
    exact qR_cg (fun a j q => ⟨kX a j (by omega) (by omega), kY a j (by omega) (by omega)⟩) (fun t ht => kX _ _ (by omega) (by omega)) b6
theorem eM_gt (hcc : pC cc) (h0 : 0 ≤ M cc 0) (h3 : M cc 0 ≤ 300) : mo cc M (eM cc M op x y z nd gd lb) ∧ (eM cc M op x y z nd gd lb cc 1 = 0 → M cc 1 = 0 ∧ M cc 0 + 1 ≤ eM cc M op x y z nd gd lb cc 0) := by
  have hr := cc_rg hcc
  by_cases hlt : M cc 0 < 300
  · rw [eM_in hcc h0 hlt]
    have k : ∀ (s : Int) a j, ¬ (j = (M cc 0).toNat ∧ ((cc < a ∧ a ≤ cc + 5) ∨ a = 101 ∨ a = 102)) → ¬ (a = cc ∧ j = 0) → yU (yU (yU (yU (yU (yU (yU (yU M 101 (M cc 0).toNat gd) 102 (M cc 0).toNat lb) (cc + 1) (M cc 0).toNat op) (cc + 2) (M cc 0).toNat x) (cc + 3) (M cc 0).toNat y) (cc + 4) (M cc 0).toNat z) (cc + 5) (M cc 0).toNat nd) cc 0 s a j = M a j := fun s a j q1 q2 => by
      rw [yU_ne q2, yU_ne (by omega), yU_ne (by omega), yU_ne (by omega), yU_ne (by omega), yU_ne (by omega), yU_ne (by omega), yU_ne (by omega)]
    refine ⟨⟨?_, fun z => ?_, fun y _ => ?_⟩, fun z => ?_⟩
    · rw [k _ 96 7 (by omega) (by omega)]; exact Int.le_refl _
    · rw [k _ cc 1 (by omega) (by omega)] at z
      rw [yU_at]
      exact ⟨z, by omega⟩
    · rw [k _ 100 y (by omega) (by omega)]
    · rw [k _ cc 1 (by omega) (by omega)] at z
      rw [yU_at]
      exact ⟨z, Int.le_refl _⟩
  · rw [eM_out hcc h0 h3 hlt]
    refine ⟨⟨?_, fun z => ?_, fun y _ => ?_⟩, fun z => ?_⟩
    · rw [yU_c (by omega)]; exact Int.le_refl _
    · rw [yU_at] at z; omega
    · rw [yU_c (by omega)]
    · rw [yU_at] at z; omega
/-- a pair of states -/
def pr (cc : Nat) (P : yM) (b : Prop) (S : Nat → Prop) (e : Nat) (v : Int) (M X Y : yM) : Prop := pq cc P b S e v X Y ∧ mo cc M X
/-- a pair of states, an instruction further -/
def pe (cc : Nat) (P : yM) (b : Prop) (S : Nat → Prop) (e : Nat) (v : Int) (M X Y : yM) : Prop := pr cc P b S e v M X Y ∧ (X cc 1 = 0 → M cc 1 = 0 ∧ M cc 0 + 1 ≤ X cc 0)
theorem pr_45 (hcc : pC cc) (h : pq cc P b S e v M N) (hop : 1 ≤ x1 ∧ x1 ≤ 20) (hg : -1 ≤ x6 ∧ x6 < M 96 7) (hv : v ≤ v' + 1) : pe cc P b S e v' M (f_45 cc M x1 x2 x3 x4 x5 x6) (f_45 cc N x1 x2 x3 x4 x5 x6) := by
  have h1 := pq_45 (x2 := x2) (x3 := x3) (x4 := x4) (x5 := x5) hcc h hop hg hv
  obtain ⟨h2, h3⟩ := eM_gt (op := x1) (x := x2) (y := x3) (z := x4) (nd := x5) (gd := x6) (lb := 0) hcc h.1.1.1.1.1 h.1.1.1.1.2
  rw [← e_45 hcc] at h2 h3
  exact ⟨⟨h1, h2⟩, h3⟩
theorem pr_46 (hcc : pC cc) (h : pq cc P b S e v M N) (hop : 1 ≤ x2 ∧ x2 ≤ 20) (hg : -1 ≤ x5 ∧ x5 < M 96 7) (hv : v ≤ v' + 1) : pe cc P b S e v' M (f_46 cc M x1 x2 x3 x4 x5) (f_46 cc N x1 x2 x3 x4 x5) := by
  have h1 := pq_46 (x1 := x1) (x3 := x3) (x4 := x4) hcc h hop hg hv
  obtain ⟨h2, h3⟩ := eM_gt (op := x2) (x := 0) (y := x3) (z := 0) (nd := x4) (gd := x5) (lb := x1) hcc h.1.1.1.1.1 h.1.1.1.1.2
  rw [← e_46 hcc] at h2 h3
  exact ⟨⟨h1, h2⟩, h3⟩
/-- a close -/
theorem pr_54 (hcc : pC cc) (h : pq cc P b S e v M N) (hg : -1 ≤ x2 ∧ x2 < M 96 7) : pr cc P b S e v M (f_54 cc M x1 x2) (f_54 cc N x1 x2) := by
  unfold f_54
  rw [ylet_eq, ylet_eq (x := yrd N 10 x1), pq_rd h (by decide)]
  cases hz : yrel 0 (yrd M 10 x1) (-1) with
  | true =>
    rw [cond_true, cond_true]
    exact ⟨h, mo_rfl⟩
  | false =>
    rw [cond_false, cond_false]
    exact (pr_45 hcc h (by decide) hg (by omega)).1
theorem pe_54 (hcc : pC cc) (h : pq cc P b S e v M N) (hg : -1 ≤ x2 ∧ x2 < M 96 7) (hv : v ≤ v' + 1) (hz : yrel 0 (yrd M 10 x1) (-1) = false) : pe cc P b S e v' M (f_54 cc M x1 x2) (f_54 cc N x1 x2) := by
  unfold f_54
  rw [ylet_eq, ylet_eq (x := yrd N 10 x1), pq_rd h (by decide), hz, cond_false, cond_false]
  show pe cc P b S e v' M (f_45 cc M 17 (yrd M 10 x1) 0 0 x1 x2) (f_45 cc N 17 (yrd M 10 x1) 0 0 x1 x2)
  exact pr_45 hcc h (by decide) hg hv
theorem pr_cond {t : Bool} {A A' B B' : yM} (h1 : pr cc P b S e v M A A') (h2 : pr cc P b S e v M B B') : pr cc P b S e v M (cond t A B) (cond t A' B') := by
  cases t with
  | true => exact h1
  | false => exact h2
/-- a node of one instruction -/
theorem pr_62 (hcc : pC cc) (h : pq cc P b S d v M N) : pr cc P b S d v M (f_62 cc M x (105 + d)) (f_62 cc N x (105 + d)) := by
  have hp := h.2.2.2.1 d (Nat.le_refl d)
  have h0 : pr cc P b S d v M M N := ⟨h, mo_rfl⟩
  have e : ∀ {o u w r : Int}, 1 ≤ o ∧ o ≤ 20 → pr cc P b S d v M (f_45 cc M o u w r x (M (105 + d) 0)) (f_45 cc N o u w r x (M (105 + d) 0)) := fun {o u w r} ho => (pr_45 hcc h ho hp.2.1 (by omega)).1
  unfold f_62
  rw [ylet_eq, ylet_eq, ylet_eq, ylet_eq, ylet_eq, ylet_eq, ylet_eq, ylet_eq, hp.1 0 (by decide), hp.1 3 (by decide), pq_rd (a := 7) h (by decide), pq_rd (a := 8) h (by decide), pq_rd (a := 9) h (by decide)]
  refine pr_cond (e (by decide)) (pr_cond (e (by decide)) (pr_cond (e (by decide)) (pr_cond (e (by decide)) (pr_cond h0 (pr_cond h0 (pr_cond h0 (pr_cond h0 (pr_cond h0 (pr_cond (e (by decide)) (pr_cond (e (by decide)) (pr_cond h0 (pr_cond h0 (pr_cond h0 (pr_cond (e (by decide)) (pr_cond (e (by decide)) (pr_cond (e (by decide)) (pr_cond (e (by decide)) (pr_cond (e (by decide)) h0))))))))))))))))))
/-- places further in -/
theorem pr_48 (hcc : pC cc) (hd : d < 90) (h : pq cc P b S d v M N) {l : Nat} (hl : l ≤ d) : pr cc P b S (d + 1) v M (f_48 M (l : Int) (d : Int)) (f_48 N (l : Int) (d : Int)) := by
  have hr := cc_rg hcc
  refine ⟨pq_48 hcc hd h hl, ?_⟩
  have e : f_48 M (l : Int) (d : Int) = f_102 M (105 + (d + 1)) (105 + l) := by
    unfold f_48
    rw [ylet_eq, pz_s hd, pz_d (by omega)]
  rw [e]
  obtain ⟨g1, -⟩ := f102_get (M := M) (p := 105 + (d + 1)) (q := 105 + l) (by omega)
  exact mo_of (g1 _ _ (by omega)) (g1 _ _ (by omega)) (g1 _ _ (by omega)) fun y => g1 _ _ (by omega)
theorem pr_47 (hcc : pC cc) (hd : d < 90) (h : pq cc P b S d v M N) : pr cc P b S (d + 1) v M (f_47 M (d : Int)) (f_47 N (d : Int)) := by
  have e : ∀ M : yM, f_47 M (d : Int) = f_48 M (d : Int) (d : Int) := fun M => by
    unfold f_47
    rw [ylet_eq]
  rw [e, e]
  exact pr_48 hcc hd h (Nat.le_refl d)
theorem pr_pl (hcc : pC cc) (he : e < 90) (h : pq cc P b S (e + 1) v M N) {i : Nat} {x : Int} (hi : i < 6) (hx : i = 0 → (-1 ≤ x ∧ x < M 96 7) ∧ (0 ≤ x → M 100 x.toNat < ((e + 1 : Nat) : Int))) (h5 : i = 5 → -1 ≤ x ∧ x < M 96 7) : pr cc P b S (e + 1) v M (yU M (105 + (e + 1)) i x) (yU N (105 + (e + 1)) i x) := by
  have hr := cc_rg hcc
  exact ⟨pq_pl hcc he h hi hx h5, mo_of (yU_c (by omega)) (yU_c (by omega)) (yU_c (by omega)) fun y => yU_c (by omega)⟩
theorem pr_67 (hcc : pC cc) (h : pq cc P b S e v M N) : pr cc P b S e v M (f_67 M).1 (f_67 N).1 ∧ (f_67 N).2 = (f_67 M).2 := by
  have hr := cc_rg hcc
  obtain ⟨h1, h2⟩ := pq_67 hcc h
  have eM : (f_67 M).1 = yU M 96 10 (M 96 10 + 1) := rfl
  refine ⟨⟨h1, ?_⟩, h2⟩
  rw [eM]
  exact mo_of (yU_i (by decide)) (yU_c (by omega)) (yU_c (by omega)) fun y => yU_c (by omega)
theorem pr_40 (hcc : pC cc) (h : pq cc P b S e v M N) : pr cc P b S e v M (f_40 M cc x) (f_40 N cc x) := ⟨(pq_40 hcc h).1, (pq_40 hcc h).2.1⟩
/-- where an instruction goes -/
theorem pr_x2 (hcc : pC cc) (h : pq cc P b S e v M N) {t : Nat} (ht : (t : Int) < M cc 0) : pr cc P b S e v M (yU M (cc + 2) t x) (yU N (cc + 2) t x) := by
  have hr := cc_rg hcc
  have k : ∀ (M : yM) a j, ¬ (a = cc + 2 ∧ j = t) → yU M (cc + 2) t x a j = M a j := fun M a j q => yU_ne q
  refine ⟨?_, mo_of (k _ _ _ (by omega)) (k _ _ _ (by omega)) (k _ _ _ (by omega)) fun y => k _ _ _ (by omega)⟩
  refine pq_fr hcc h (lQ_U (d := 0) hcc (by omega) h.1.1.1).2 (lQ_U (d := 0) hcc (by omega) h.1.1.2).2 (fun a j q => ⟨k _ a j (by omega), k _ a j (by omega)⟩) ?_ ?_ (qG_cg (fun a j q => ⟨k _ a j (by omega), k _ a j (by omega)⟩) h.2.2.1) (qL_cg (fun a j q => ⟨k _ a j (by omega), k _ a j (by omega)⟩) h.2.2.2.1) (qS_cg (fun a j q => ⟨k _ a j (by omega), k _ a j (by omega)⟩) (Int.le_refl _) h.2.2.2.2.1) (fun t' _ => k _ _ _ (by omega))
  · rw [k _ _ _ (by omega), k _ _ _ (by omega)]
    exact h.1.2.2.1.2.2.2.2
  · obtain ⟨c1, c2, c3⟩ := h.2.1
    refine ⟨fun t' ht' => ?_, fun t' ht' => ?_, fun hs => ⟨fun t' ht' => ?_, fun j hj hB => ?_⟩⟩
    · rw [k _ 101 t' (by omega), k _ 102 t' (by omega), k _ 101 t' (by omega), k _ 102 t' (by omega), k _ (cc + 1) t' (by omega)]
      obtain ⟨d1, d2, d3, d4⟩ := c1 t' ht'
      refine ⟨fun c q1 q2 => ?_, d2, d3, d4⟩
      by_cases q : c = 2 ∧ t' = t
      · obtain ⟨rfl, rfl⟩ := q
        rw [yU_at, yU_at]
      · rw [k _ _ _ (by omega), k _ _ _ (by omega)]; exact d1 c q1 q2
    · rw [k _ _ _ (by omega), k _ _ _ (by omega)]; exact c2 t' ht'
    · rw [k _ _ _ (by omega), k _ _ _ (by omega), k _ _ _ (by omega)]; exact (c3 hs).1 t' ht'
    · rw [k _ _ _ (by omega), k _ _ _ (by omega)]; exact (c3 hs).2 j hj hB
/-- it ends in both, and they are alike -/
def qT (cc : Nat) (P : yM) (b : Prop) (S : Nat → Prop) (e : Nat) (v : Int) (M : yM) (o o' : Option yM) : Prop := ∃ X Y, o = some X ∧ o' = some Y ∧ pq cc P b S e v X Y ∧ mo cc M X
theorem qT_ret (h : pq cc P b S e v X Y) : qT cc P b S e v X (some X) (some Y) := ⟨X, Y, rfl, rfl, h, mo_rfl⟩
theorem qT_mo {o o' : Option yM} (hm : mo cc M X) (h : qT cc P b S e v X o o') : qT cc P b S e v M o o' := by
  obtain ⟨X', Y', e1, e2, h1, h2⟩ := h
  exact ⟨X', Y', e1, e2, h1, mo_trans hm h2⟩
theorem qT_bind {S1 : Nat → Prop} {e1 : Nat} {v1 : Int} {o o' : Option yM} {A A' : yM → Option yM} (h : qT cc P b S1 e1 v1 M o o') (hk : ∀ X Y, pq cc P b S1 e1 v1 X Y → mo cc M X → qT cc P b S e v X (A X) (A' Y)) : qT cc P b S e v M (Option.bind o A) (Option.bind o' A') := by
  obtain ⟨X, Y, rfl, rfl, h1, h2⟩ := h
  exact qT_mo h2 (hk X Y h1 h2)
theorem qT_cond {t : Bool} {o1 o2 o3 o4 : Option yM} (h1 : t = true → qT cc P b S e v M o1 o3) (h2 : t = false → qT cc P b S e v M o2 o4) : qT cc P b S e v M (cond t o1 o2) (cond t o3 o4) := by
  cases t with
  | true => exact h1 rfl
  | false => exact h2 rfl
/-- a value, which is the same -/
theorem qT_val {α : Type} {x y : α} {A A' : α → Option yM} (hxy : y = x) (h : ∀ t, t = x → qT cc P b S e v M (A t) (A' t)) : qT cc P b S e v M (ylet x A) (ylet y A') := by
  rw [hxy]
  exact h x rfl
/-- a state: what is known of it is all that is kept -/
theorem qT_st {X Y : yM} {A A' : yM → Option yM} {S1 : Nat → Prop} {e1 : Nat} {v1 : Int} (h : pr cc P b S1 e1 v1 M X Y) (hk : ∀ X Y, pq cc P b S1 e1 v1 X Y → mo cc M X → qT cc P b S e v X (A X) (A' Y)) : qT cc P b S e v M (ylet X A) (ylet Y A') := qT_mo h.2 (hk X Y h.1 h.2)
theorem qT_se {X Y : yM} {A A' : yM → Option yM} {S1 : Nat → Prop} {e1 : Nat} {v1 : Int} (h : pe cc P b S1 e1 v1 M X Y) (hk : ∀ X Y, pq cc P b S1 e1 v1 X Y → mo cc M X → (X cc 1 = 0 → M cc 1 = 0 ∧ M cc 0 + 1 ≤ X cc 0) → qT cc P b S e v X (A X) (A' Y)) : qT cc P b S e v M (ylet X A) (ylet Y A') := qT_mo h.1.2 (hk X Y h.1.1 h.1.2 h.2)
theorem pq_69_2 (hcc : pC cc) : ∀ (n : Nat) {M N : yM} {x3 : Int}, 0 ≤ x3 → x3 ≤ 300 → 300 - x3 < n → pq cc P b S e v M N → qT cc P b S e v M (f_69_2 K cc n M lb x3) (f_69_2 K cc n N lb x3)
  | 0, _, _, _, _, _, h, _ => absurd h (by omega)
  | n + 1, M, N, x3, h0, h1, h2, h => by
    have hr := cc_rg hcc
    have hl := h.1.1.1.1
    have e0 : N cc 0 = M cc 0 := h.1.2.2.1.1
    rw [f_69_2, f_69_2, e0, rel3 ⟨by omega, by omega⟩ ⟨by omega, by omega⟩]
    by_cases hc : M cc 0 ≤ x3
    · rw [cond_dt hc, cond_dt hc]
      exact qT_ret h
    · rw [cond_df hc, cond_df hc]
      have er : ∀ Q : yM, yrd Q 102 x3 = Q 102 x3.toNat := fun Q => rd_in h0 (by show x3 < ((300 : Nat) : Int); omega)
      have h2300 : yln (cc + 2) = 300 := by
        obtain ⟨p, hp, rfl⟩ := hcc
        exact ln_c hp ⟨by omega, by omega⟩
      rw [er, er, (h.2.1.1 x3.toNat (by omega)).2.1.2]
      unfold f_69_21
      refine qT_cond (fun _ => pq_69_2 hcc n (by omega) (by omega) (by omega) h) fun _ => ?_
      rw [wr_in h0 (by rw [h2300]; omega), wr_in h0 (by rw [h2300]; omega)]
      exact qT_st (pr_x2 hcc h (by omega)) fun X Y hX _ => pq_69_2 hcc n (by omega) (by omega) (by omega) hX
/-- a label is settled -/
theorem pq_69 (hcc : pC cc) (hK : 1000 ≤ K) (h0 : 0 ≤ x3) (h1 : x3 ≤ 300) (h : pq cc P b S e v M N) : qT cc P b S e v M (f_69 K cc M lb x3) (f_69 K cc N lb x3) := pq_69_2 hcc K h0 h1 (by omega) h
end PsA
