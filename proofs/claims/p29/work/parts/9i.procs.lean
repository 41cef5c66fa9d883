/-! two runs side by side: a procedure's code -/
/-- the code of procedure p is the same in both, and its handlers are, and its rows if b -/
def sP (b : Prop) (p : Nat) (X Y : yM) : Prop :=
  Y (24 + 9 * p) 0 = X (24 + 9 * p) 0 ∧ (∀ t : Nat, t < 300 → Y (24 + 9 * p + 7) t = X (24 + 9 * p + 7) t) ∧ (∀ t : Nat, (t : Int) < X (24 + 9 * p) 0 → ∀ c, 1 ≤ c → c ≤ 5 → Y (24 + 9 * p + c) t = X (24 + 9 * p + c) t) ∧
  (X (24 + 9 * p) 10 ≤ 690 → ∀ t : Nat, (t : Int) < X (24 + 9 * p) 0 → bM Y p t = bM X p t) ∧
  (X 21 1 ≤ 30300 → Y 21 1 ≤ 30300 → ∀ t : Nat, (t : Int) < X (24 + 9 * p) 0 → a_may (X (24 + 9 * p + 1) t) → cH4 Y p t = cH4 X p t) ∧
  (b → Y 21 1 = X 21 1 ∧ Y (24 + 9 * p) 11 = X (24 + 9 * p) 11 ∧ Y (24 + 9 * p) 12 = X (24 + 9 * p) 12 ∧ ∀ k : Nat, (k : Int) < 4 * X 21 1 → Y 22 k = X 22 k)
section PxA
variable {cc d e i n K p c1 c2 : Nat} {P M N M' N' M0 N0 X Y : yM} {b : Prop} {S S' S0 : Nat → Prop} {v v' v1 x y z f to g k t u : Int}
theorem ini_W (hcc : pC cc) (hW : gW M) : lW cc (pIni M cc x) := by
  have hr := cc_rg hcc
  obtain ⟨q1, ⟨q2, q3, -⟩, -⟩ := pM_get (M := M) (x := x) hcc
  unfold lW tI
  rw [q2, q3, q1 21 1 (by omega) (by omega) (by omega) (by omega), q1 21 2 (by omega) (by omega) (by omega) (by omega)]
  refine ⟨⟨Int.le_refl _, by decide⟩, Or.inl rfl, hW.1, fun c hc => ?_⟩
  rw [q1 103 c (by omega) (by omega) (by omega) (by omega), q1 104 c (by omega) (by omega) (by omega) (by omega)]
  exact hW.2 c hc
theorem pq_ini (hcc : pC cc) (hWM : gW M) (hWN : gW N) (hP : ∀ a j, 1 ≤ a ∧ a ≤ 17 → M a j = P a j ∧ N a j = P a j) (hb : b → y = x ∧ N 21 1 = M 21 1 ∧ ∀ k : Nat, (k : Int) < 4 * M 21 1 → N 22 k = M 22 k) : pq cc P b (fun _ => False) 0 0 (pIni M cc x) (pIni N cc y) := by
  have hr := cc_rg hcc
  have w1 := ini_W (x := x) hcc hWM
  have w2 := ini_W (x := y) hcc hWN
  obtain ⟨q1, ⟨q2, q3, q4, q5, q6⟩, q7, ⟨q8, q9, q10⟩, ⟨q11, q12, q13, q14, q15, q16⟩⟩ := pM_get (M := M) (x := x) hcc
  obtain ⟨r1, ⟨r2, r3, r4, r5, r6⟩, r7, ⟨r8, r9, r10⟩, ⟨r11, r12, r13, r14, r15, r16⟩⟩ := pM_get (M := N) (x := y) hcc
  generalize pIni M cc x = X at *
  generalize pIni N cc y = Y at *
  have x21 : X 21 1 = M 21 1 := q1 _ _ (by omega) (by omega) (by omega) (by omega)
  have y21 : Y 21 1 = N 21 1 := r1 _ _ (by omega) (by omega) (by omega) (by omega)
  refine ⟨⟨⟨w1, w2⟩, fun a j ha => ⟨?_, ?_⟩, ⟨by rw [q2, r2], by rw [q3, r3], by rw [q4, r4], by rw [q8, r8], by rw [q9, r9]⟩, by rw [q4]; exact Int.le_refl _, by rw [q8]; exact Int.le_refl _, by rw [q8]; decide, fun _ => by rw [q8, q2]; decide⟩, ?_, ?_, ?_, fun c => ⟨fun h => h.elim, fun h => h.elim⟩, ?_⟩
  · exact (q1 _ _ (by omega) (by omega) (by omega) (by omega)).trans (hP a j ha).1
  · exact (r1 _ _ (by omega) (by omega) (by omega) (by omega)).trans (hP a j ha).2
  · rw [q2, q4, q8]
    refine ⟨fun t ht => by omega, fun t ht => by rw [q7 t ht, r7 t ht], fun _ => ⟨fun t ht => ?_, fun k hk hB => by omega⟩⟩
    rw [q7 t ht]
    exact ⟨Int.le_refl _, fun h => absurd h (by decide)⟩
  · rw [q8]
    exact fun y hy => by omega
  · rw [q8]
    intro l hl
    have e : l = 0 := by omega
    subst e
    show (∀ j, j < 6 → Y 105 j = X 105 j) ∧ (-1 ≤ X 105 0 ∧ X 105 0 < 0) ∧ (0 ≤ X 105 0 → _) ∧ -1 ≤ X 105 5 ∧ X 105 5 < 0
    rw [q11, q16]
    refine ⟨fun j hj => ?_, by decide, fun h => absurd h (by decide), by decide⟩
    rcases (show j = 0 ∨ j = 1 ∨ j = 2 ∨ j = 3 ∨ j = 4 ∨ j = 5 by omega) with rfl | rfl | rfl | rfl | rfl | rfl
    · rw [q11, r11]
    · rw [q12, r12]
    · rw [q13, r13]
    · rw [q14, r14]
    · rw [q15, r15]
    · rw [q16, r16]
  · have hM0 := hWM.1.1
    have hN0 := hWN.1.1
    unfold qR
    rw [q2, q5, r5, q10, r10, x21, y21]
    refine ⟨fun hbb => ?_, by omega, ⟨fun r h1 h2 => by omega, fun r h1 h2 => by omega⟩, fun _ _ t ht _ => by omega⟩
    obtain ⟨b1, b2, b3⟩ := hb hbb
    refine ⟨b1, b2, b2, fun k hk => ?_⟩
    rw [q1 22 k (by omega) (by omega) (by omega) (by omega), r1 22 k (by omega) (by omega) (by omega) (by omega)]
    exact b3 k hk
/-- a procedure's code is laid twice -/
theorem Q_59 (hp : p < 8) (hK : 1000 ≤ K) (hU : pU P) (hWM : gW M) (hWN : gW N) (hx : x = 0 ∨ x = 1) (hy : y = 0 ∨ y = 1) (hP : ∀ a j, 1 ≤ a ∧ a ≤ 17 → M a j = P a j ∧ N a j = P a j) (hb : b → y = x ∧ N 21 1 = M 21 1 ∧ ∀ k : Nat, (k : Int) < 4 * M 21 1 → N 22 k = M 22 k) :
    ∃ X Y t, (∀ c, f_59 K c M (p : Int) x = some (X, 24 + 9 * p, t)) ∧ (∀ c, f_59 K c N (p : Int) y = some (Y, 24 + 9 * p, t)) ∧ sP b p X Y := by
  have hcc : pC (24 + 9 * p) := ⟨p, hp, rfl⟩
  have hr := cc_rg hcc
  have ez : ypz 8 (p : Int) = p := ypz_id hp
  have hybo : ∀ {A : Option (yM × Nat × Int)} {x : Int}, x = 0 ∨ x = 1 → ybo x A = A := fun {A x} hx => by
    unfold ybo
    rw [if_pos (by rcases hx with rfl | rfl; exact Or.inl rfl; exact Or.inr rfl)]
  have e0 : 105 + 1 * ypz 91 0 = 105 := rfl
  have e59 : ∀ (M : yM) (x : Int) (c : Nat), x = 0 ∨ x = 1 → f_59 K c M (p : Int) x = Option.bind (fy_50 K (24 + 9 * p) 100 (pIni M (24 + 9 * p) x) (yrd (pIni M (24 + 9 * p) x) 6 (p : Int)) ((0 : Nat) : Int)) fun t13 => (ylet (f_45 (24 + 9 * p) t13 7 0 0 0 (-1) (-1)) fun t14 => (ylet (f_45 (24 + 9 * p) t14 8 0 0 0 (-1) (-1)) fun t15 => (ylet (yU t15 (24 + 9 * p) 12 ((t15 21 1) - (t15 (24 + 9 * p) 11))) fun M16 => (cond (yrel 1 (M16 (24 + 9 * p) 1) 0) (some (M16, (24 + 9 * p), 0)) (some (M16, (24 + 9 * p), 1)))))) := fun M x c hx => by
    unfold f_59
    rw [hybo hx, ez, e0]
    rfl
  have h0 := pq_ini (b := b) (x := x) (y := y) hcc hWM hWN hP hb
  obtain ⟨M2, N2, e1, e2, h2, -⟩ := pq_y50 (x1 := yrd (pIni M (24 + 9 * p) x) 6 (p : Int)) hcc hK hU 100 (d := 0) (by omega) (by omega) (by decide) h0
  obtain ⟨⟨h3, -⟩, -⟩ := pr_45 (v' := 0) (x1 := 7) (x2 := 0) (x3 := 0) (x4 := 0) (x5 := -1) (x6 := -1) hcc h2 (by decide) ⟨by decide, by have := h2.1.2.2.2.2.1; omega⟩ (by decide)
  obtain ⟨⟨h4, -⟩, -⟩ := pr_45 (v' := 0) (x1 := 8) (x2 := 0) (x3 := 0) (x4 := 0) (x5 := -1) (x6 := -1) hcc h3 (by decide) ⟨by decide, by have := h3.1.2.2.2.2.1; omega⟩ (by decide)
  have f1 : ∀ c, f_59 K c M (p : Int) x = ylet (f_45 (24 + 9 * p) M2 7 0 0 0 (-1) (-1)) fun t14 => (ylet (f_45 (24 + 9 * p) t14 8 0 0 0 (-1) (-1)) fun t15 => (ylet (yU t15 (24 + 9 * p) 12 ((t15 21 1) - (t15 (24 + 9 * p) 11))) fun M16 => (cond (yrel 1 (M16 (24 + 9 * p) 1) 0) (some (M16, (24 + 9 * p), 0)) (some (M16, (24 + 9 * p), 1))))) := fun c => by
    rw [e59 M x c hx, e1]; rfl
  have f2 : ∀ c, f_59 K c N (p : Int) y = ylet (f_45 (24 + 9 * p) N2 7 0 0 0 (-1) (-1)) fun t14 => (ylet (f_45 (24 + 9 * p) t14 8 0 0 0 (-1) (-1)) fun t15 => (ylet (yU t15 (24 + 9 * p) 12 ((t15 21 1) - (t15 (24 + 9 * p) 11))) fun M16 => (cond (yrel 1 (M16 (24 + 9 * p) 1) 0) (some (M16, (24 + 9 * p), 0)) (some (M16, (24 + 9 * p), 1))))) := fun c => by
    rw [e59 N y c hy, pq_rd h0 (by decide), e2]; rfl
  simp only [ylet_eq] at f1 f2
  generalize f_45 (24 + 9 * p) (f_45 (24 + 9 * p) M2 7 0 0 0 (-1) (-1)) 8 0 0 0 (-1) (-1) = M4 at f1 h4
  generalize f_45 (24 + 9 * p) (f_45 (24 + 9 * p) N2 7 0 0 0 (-1) (-1)) 8 0 0 0 (-1) (-1) = N4 at f2 h4
  have kX : ∀ a j, ¬ (a = 24 + 9 * p ∧ j = 12) → yU M4 (24 + 9 * p) 12 (M4 21 1 - M4 (24 + 9 * p) 11) a j = M4 a j := fun a j q => yU_ne q
  have kY : ∀ a j, ¬ (a = 24 + 9 * p ∧ j = 12) → yU N4 (24 + 9 * p) 12 (N4 21 1 - N4 (24 + 9 * p) 11) a j = N4 a j := fun a j q => yU_ne q
  have x12 : yU M4 (24 + 9 * p) 12 (M4 21 1 - M4 (24 + 9 * p) 11) (24 + 9 * p) 12 = M4 21 1 - M4 (24 + 9 * p) 11 := yU_at
  have y12 : yU N4 (24 + 9 * p) 12 (N4 21 1 - N4 (24 + 9 * p) 11) (24 + 9 * p) 12 = N4 21 1 - N4 (24 + 9 * p) 11 := yU_at
  generalize yU M4 (24 + 9 * p) 12 (M4 21 1 - M4 (24 + 9 * p) 11) = X at *
  generalize yU N4 (24 + 9 * p) 12 (N4 21 1 - N4 (24 + 9 * p) 11) = Y at *
  have et : Y (24 + 9 * p) 1 = X (24 + 9 * p) 1 := by
    rw [kX _ _ (by omega), kY _ _ (by omega)]
    exact h4.1.2.2.1.2.1
  obtain ⟨⟨a1, a2, a3, a4, a5, a6, a7⟩, ⟨b1, b2, b3⟩, -, -, -, ⟨r1, r2, r3, r4⟩⟩ := h4
  refine ⟨X, Y, cond (yrel 1 (X (24 + 9 * p) 1) 0) 0 1, fun c => ?_, fun c => ?_, ?_, fun t ht => ?_, fun t ht c c1 c2 => ?_, fun hB t ht => ?_, fun R1 R2 t ht hm => ?_, fun hbb => ?_⟩
  · rw [f1 c]
    cases yrel 1 (X (24 + 9 * p) 1) 0 <;> rfl
  · rw [f2 c, et]
    cases yrel 1 (X (24 + 9 * p) 1) 0 <;> rfl
  · rw [kX _ _ (by omega), kY _ _ (by omega)]; exact a3.1
  · rw [kX _ _ (by omega), kY _ _ (by omega)]; exact b2 t ht
  · rw [kX (24 + 9 * p) 0 (by omega)] at ht
    rw [kX _ _ (by omega), kY _ _ (by omega)]
    exact (b1 t ht).1 c c1 c2
  · rw [kX (24 + 9 * p) 0 (by omega)] at ht
    rw [kX (24 + 9 * p) 10 (by omega)] at hB
    have hl := a1.1.1
    obtain ⟨c1, c2⟩ := b3 (by omega)
    obtain ⟨d1, d2⟩ := c1 t (by omega)
    have e0 : N4 (24 + 9 * p) 0 = M4 (24 + 9 * p) 0 := a3.1
    unfold bM
    rw [kX (24 + 9 * p) 0 (by omega), kY (24 + 9 * p) 0 (by omega), e0, if_pos ht, if_pos ht, kX (24 + 9 * p + 7) t (by omega), kY (24 + 9 * p + 7) t (by omega), kX (24 + 9 * p + 6) t (by omega), kY (24 + 9 * p + 6) t (by omega), b2 t (by omega)]
    refine List.map_congr_left fun k hk => ?_
    have hk := List.mem_range.mp hk
    obtain ⟨d3, d4, d5⟩ := d2 (by omega)
    rw [d3, kX _ _ (by omega), kY _ _ (by omega), c2 _ (by omega) (by omega)]
  · rw [kX (24 + 9 * p) 0 (by omega)] at ht
    rw [kX (24 + 9 * p + 1) t (by omega)] at hm
    rw [kX 21 1 (by omega)] at R1
    rw [kY 21 1 (by omega)] at R2
    unfold cH4
    rw [x12, y12, kX (24 + 9 * p) 11 (by omega), kY (24 + 9 * p) 11 (by omega), hk_eq (M' := X) (M := M4) _ fun k _ => kX _ _ (by omega), hk_eq (M' := Y) (M := N4) _ fun k _ => kY _ _ (by omega)]
    exact (r4 R1 R2 t ht hm).symm
  · obtain ⟨p1, p2, p3, p4⟩ := r1 hbb
    rw [x12, y12, kX 21 1 (by omega), kY 21 1 (by omega), kX (24 + 9 * p) 11 (by omega), kY (24 + 9 * p) 11 (by omega)]
    refine ⟨p2, p3, by rw [p2, p3], fun k hk => ?_⟩
    rw [kX 22 k (by omega), kY 22 k (by omega)]
    exact p4 k hk
end PxA
