/-! beginnings are never taken back; the law's last calls -/
section PamB
variable {K : Nat → Nat → Nat → Int} {BG : Nat → Nat → List Nat} {CH : Nat → Nat → List (Int × Int)} {bl : Int → Int → Bool} {mo de : Int} {Y Y' : yM} {f : aF} {r : List aF} {o x y z nd : Int} {X X' : aX}
theorem p13_eq (h : Y' 13 3 = Y 13 3) : p13 Y Y' := by unfold p13; rw [h]; exact Int.le_refl _
theorem p13_nw (k c : Int) : p13 Y (a_new Y k c) := p13_eq (by
  unfold a_new a_fly
  rw [yU_c (by decide), yU_c (by decide), yU_c (by decide), yU_c (by decide)])
theorem p13_fy (e : Int) : p13 Y (a_fly Y e) := p13_eq (yU_c (by decide))
theorem p13_u {a i : Nat} {v : Int} (h : ¬ (13 = a ∧ 3 = i)) : p13 Y (yU Y a i v) := p13_eq (yU_ne h)
theorem p13_c {a i : Nat} {v : Int} (h : 13 ≠ a) : p13 Y (yU Y a i v) := p13_eq (yU_c h)
theorem p13_uu {a c i j : Nat} {v w : Int} (ha : ¬ (13 = a ∧ 3 = i)) (hc : ¬ (13 = c ∧ 3 = j)) : p13 Y (yU (yU Y a i v) c j w) := p13_eq ((yU_ne hc).trans (yU_ne ha))
theorem p13_enter {q v : Int} : p13 Y (a_enter de f r Y q v nd).2.2.2.2 := by
  unfold a_enter
  split
  · exact p13_nw _ _
  · show p13 Y (a_enterY Y q.toNat ((r.length : Int) + 2))
    refine p13_eq ?_
    unfold a_enterY
    rw [yU_i (by decide), yU_c (by decide), yU_i (by decide)]
theorem op_13 (hs : a_op de f r Y o x y z nd = some X') : p13 Y X'.2.2.2.2 := by
  unfold a_op at hs
  by_cases h : o = 1
  · rw [if_pos h] at hs
    cases hs; exact p13_c (by decide)
  rw [if_neg h] at hs
  by_cases h : o = 2
  · rw [if_pos h] at hs
    cases hs; exact p13_c (by decide)
  rw [if_neg h] at hs
  by_cases h : o = 3
  · rw [if_pos h] at hs
    by_cases h2 : yw (a_val Y y) = 0
    · rw [if_pos h2] at hs; cases hs; exact p13_nw _ _
    · rw [if_neg h2] at hs; cases hs; exact p13_c (by decide)
  rw [if_neg h] at hs
  by_cases h : o = 4
  · rw [if_pos h] at hs
    cases hs; exact p13_u (fun q => absurd q (by decide))
  rw [if_neg h] at hs
  by_cases h : o = 5
  · rw [if_pos h] at hs
    cases hs; exact p13_eq rfl
  rw [if_neg h] at hs
  by_cases h : o = 6
  · rw [if_pos h] at hs
    cases hs; exact p13_eq rfl
  rw [if_neg h] at hs
  by_cases h : o = 7
  · rw [if_pos h] at hs
    cases hs; exact p13_eq rfl
  rw [if_neg h] at hs
  by_cases h : o = 8
  · rw [if_pos h] at hs
    cases h2 : f.2.2.2.2.2 x.toNat with
    | none => rw [h2] at hs; cases hs
    | some v =>
      rw [h2] at hs
      cases r with
      | nil =>
        cases hs
        exact p13_uu (fun q => absurd q (by decide)) (fun q => absurd q (by decide))
      | cons g r' =>
        cases hs
        show p13 Y (if 0 ≤ f.2.2.1 then yU Y 14 f.2.2.1.toNat v else Y)
        by_cases h3 : 0 ≤ f.2.2.1
        · rw [if_pos h3]; exact p13_c (by decide)
        · rw [if_neg h3]; exact p13_eq rfl
  rw [if_neg h] at hs
  by_cases h : o = 9
  · rw [if_pos h] at hs
    cases hs; exact p13_enter
  rw [if_neg h] at hs
  by_cases h : o = 10
  · rw [if_pos h] at hs
    cases hs; exact p13_nw _ _
  rw [if_neg h] at hs
  by_cases h : o = 11
  · rw [if_pos h] at hs
    by_cases h2 : 0 < Y 1 0
    · rw [if_pos h2] at hs; cases hs; exact p13_eq rfl
    · rw [if_neg h2] at hs; cases hs
  rw [if_neg h] at hs
  by_cases h : o = 12
  · rw [if_pos h] at hs
    obtain ⟨e, -, rfl⟩ := Option.map_eq_some_iff.mp hs
    exact p13_fy _
  rw [if_neg h] at hs
  by_cases h : o = 13
  · rw [if_pos h] at hs
    obtain ⟨e, -, rfl⟩ := Option.map_eq_some_iff.mp hs
    exact p13_nw _ _
  rw [if_neg h] at hs
  by_cases h : o = 14
  · rw [if_pos h] at hs
    obtain ⟨e, -, rfl⟩ := Option.map_eq_some_iff.mp hs
    exact p13_c (by decide)
  rw [if_neg h] at hs
  by_cases h : o = 15
  · rw [if_pos h] at hs
    obtain ⟨e, -, rfl⟩ := Option.map_eq_some_iff.mp hs
    by_cases h2 : Y 15 x.toNat = -1
    · rw [if_pos h2]; exact p13_eq rfl
    · rw [if_neg h2]
      by_cases h3 : a_behind Y e 3000 (Y 15 x.toNat) = true
      · rw [if_pos h3]; exact p13_nw _ _
      · rw [if_neg h3]; exact p13_c (by decide)
  rw [if_neg h] at hs
  by_cases h : o = 16
  · rw [if_pos h] at hs
    cases hs
    by_cases h2 : Y 15 x.toNat = -1
    · rw [if_pos h2]; exact p13_nw _ _
    · rw [if_neg h2]; exact p13_fy _
  rw [if_neg h] at hs
  by_cases h : o = 17 ∨ o = 18
  · rw [if_pos h] at hs
    cases hs; exact p13_enter
  rw [if_neg h] at hs
  by_cases h : o = 19
  · rw [if_pos h] at hs
    by_cases h2 : 0 < Y 1 0
    · rw [if_pos h2] at hs
      obtain ⟨e, -, rfl⟩ := Option.map_eq_some_iff.mp hs
      show p13 Y (a_fly (if Y 0 16 = e then Y else yU Y 1 1 (Y 1 1 + 1)) e)
      by_cases h3 : Y 0 16 = e
      · rw [if_pos h3]; exact p13_fy _
      · rw [if_neg h3]; exact p13_eq ((yU_c (by decide)).trans (yU_ne (fun q => absurd q (by decide))))
    · rw [if_neg h2] at hs; cases hs
  rw [if_neg h] at hs
  by_cases h : o = 20
  · rw [if_pos h] at hs
    cases hs; exact p13_eq rfl
  rw [if_neg h] at hs
  cases hs
theorem st_13 (hs : a_step K BG CH bl mo de X = some X') : p13 X.2.2.2.2 X'.2.2.2.2 := by
  unfold a_step at hs
  split at hs
  · cases hs
  split at hs
  · split at hs
    · cases hs
      exact p13_uu (fun q => absurd q (by decide)) (fun q => absurd q (by decide))
    · split at hs
      · cases hs; exact p13_eq rfl
      · cases hs; exact p13_eq rfl
  · split at hs
    · cases hs
    · split at hs
      · split at hs
        · cases hs; exact p13_eq rfl
        · cases hs
          show p13 _ (a_begin _ _)
          unfold p13 a_begin
          rw [yU_c (by decide), yU_at]
          omega
      · exact op_13 hs
theorem run_13 : ∀ (t : Nat) {X X' : aX}, a_run K BG CH bl mo de t X = some X' → X.2.2.2.2 13 3 ≤ X'.2.2.2.2 13 3
  | 0, X, X', h => by cases h; exact Int.le_refl _
  | t + 1, X, X', h => by
    have h' : (a_step K BG CH bl mo de X).bind (a_run K BG CH bl mo de t) = some X' := h
    cases e : a_step K BG CH bl mo de X with
    | none => rw [e] at h'; cases h'
    | some Z =>
      rw [e] at h'
      exact Int.le_trans (st_13 e) (run_13 t h')
end PamB
section PamC
variable {M N O X Y Z W : yM} {a K n m p c c' i j e : Nat} {x y z t mo de v w d x1 x2 x3 x4 : Int} {b : Prop}
/-- the first step of a run begins a node -/
theorem one_step (hK : 1000000 ≤ K) (h : fst' K M) (hz : M 18 4 = 0) (hc : clo M) (eX : f_89 K M 306 1 1 = some X) : X 319 3 = 1 := by
  obtain ⟨t, Xe, M2, h1, h2, h3, h4, h5, h6, h7⟩ := R_89 (mo := 1) (de := 1) (m := 306) hK h.1.1 (fresh_of h.1 h.2.1) hz h.1.2.2.1 hc (Or.inr rfl) (by decide) (by decide)
  have e : M2 = X := Option.some.inj (h4.symm.trans eX)
  subst e
  have hx3 : M2 319 3 = Xe.2.2.2.2 13 3 := (h7 3 (by decide)).trans (by rw [if_neg (by decide), if_neg (by decide)])
  have hle := h6.1.2.1
  have hle : 0 ≤ M2 319 3 ∧ M2 319 3 ≤ 1 := hle
  have hf := (fresh_of h.1 h.2.1).2.2.2 hz
  obtain ⟨-, q2, -⟩ := hf.2.2 0 (by have := h.1.1.2.1; omega)
  obtain ⟨-, -, -, -, m, e, hL, -⟩ := q2
  cases m with
  | zero => exact absurd hL id
  | succ m =>
    have hb : (bM M 0 0)[0]? = some (M 6 0).toNat := hL.1
    cases t with
    | zero =>
      cases h1
      exact absurd h2 (by decide)
    | succ t =>
      have hs : a_step (kM M) (bM M) (cH4 M) (yBl M) 1 1 x0 = some ([(0, 0, -1, -1, (fun _ => none), (fun _ => none))], false, 1, true, a_begin (a_enterY y0 0 1) (M 6 0).toNat) := by
        unfold a_step x0
        dsimp only
        rw [if_neg (by decide), if_neg (by decide), hb]
        dsimp only
        rw [if_neg (by decide)]
      have h1' : (a_step (kM M) (bM M) (cH4 M) (yBl M) 1 1 x0).bind (a_run (kM M) (bM M) (cH4 M) (yBl M) 1 1 t) = some Xe := h1
      rw [hs] at h1'
      have h13 := run_13 t h1'
      have e13 : a_begin (a_enterY y0 0 1) (M 6 0).toNat 13 3 = 1 := by
        unfold a_begin
        rw [yU_c (by decide), yU_at]
        rfl
      have h13' : a_begin (a_enterY y0 0 1) (M 6 0).toNat 13 3 ≤ Xe.2.2.2.2 13 3 := h13
      omega
theorem f116_r : ∀ (n : Nat) (x3 x4 : Int) {t : Int}, f_116_7 K n M x2 x3 x4 = some t → -1 ≤ yw t
  | 0, _, _, _, h => by cases h
  | n + 1, x3, x4, t, h => by
    have e1 : yw (-1) = -1 := rfl
    rw [f_116_7] at h
    cases h2 : yrel 2 x3 0 with
    | true =>
      rw [h2, cond_true] at h
      cases h
      rw [e1]; decide
    | false =>
      rw [h2, cond_false] at h
      cases h5 : yrel 5 x4 0 with
      | true =>
        rw [h5, cond_true] at h
        cases h
        rw [e1]; decide
      | false =>
        rw [h5, cond_false] at h
        cases h0 : yrel 0 (f_120 M x2 (yrd M 8 x3)) 0 with
        | true =>
          rw [h0, cond_true] at h
          exact f116_r n _ _ h
        | false =>
          rw [h0, cond_false] at h
          cases h
          have := yw_neg h2
          omega
theorem f111_r : ∀ (n : Nat) (x3 x4 : Int) {t : Int}, f_111_12 K n M x2 x3 x4 = some t → -1 ≤ yw t
  | 0, _, _, _, h => by cases h
  | n + 1, x3, x4, t, h => by
    have e1 : yw (-1) = -1 := rfl
    have k42 : ∀ {v s0 : Int}, (-1 ≤ yw s0) → f_111_42 K (f_111_12 K n) M x2 x4 v s0 = some t → -1 ≤ yw t := fun {v s0} hs hh => by
      unfold f_111_42 at hh
      cases h0 : yrel 0 s0 (-1) with
      | true =>
        rw [h0, cond_true] at hh
        exact f111_r n _ _ hh
      | false =>
        rw [h0, cond_false] at hh
        cases hh
        exact hs
    rw [f_111_12] at h
    cases h5 : yrel 5 x4 0 with
    | true =>
      rw [h5, cond_true] at h
      cases h
      rw [e1]; decide
    | false =>
      rw [h5, cond_false, ylet_eq] at h
      cases h1 : yrel 1 (yrd M 11 x3) (-1) with
      | false =>
        rw [h1, cond_false] at h
        cases h
        rw [e1]; decide
      | true =>
        rw [h1, cond_true] at h
        cases h7 : yrel 1 (yrd M 7 (yrd M 11 x3)) 11 with
        | true =>
          rw [h7, cond_true] at h
          exact k42 (by rw [e1]; decide) h
        | false =>
          rw [h7, cond_false] at h
          cases h9 : yrel 1 x3 (yrd M 9 (yrd M 11 x3)) with
          | true =>
            rw [h9, cond_true] at h
            exact k42 (by rw [e1]; decide) h
          | false =>
            rw [h9, cond_false] at h
            cases h6 : f_116 K M (yrd M 11 x3) x2 with
            | none => rw [h6] at h; cases h
            | some s =>
              rw [h6] at h
              exact k42 (f116_r _ _ _ h6) h
theorem bo_some {o o' : Option Int} (h : bo o o') : ∃ t, o = some t := by
  obtain ⟨d, h1, -⟩ := h
  exact ⟨d, h1⟩
/-- two that are read alike -/
theorem dA_of (h : fst' K M) (hG : fst' K N) (hz : M 18 4 = 0) (hr : rnd M 196 mo de) (hs : same2 True M N) (h0 : N 0 7 = M 0 7 ∧ N 0 9 = M 0 9 ∧ N 0 10 = M 0 10 ∧ N 0 11 = M 0 11) (h196 : ∀ a i, 196 ≤ a ∧ a ≤ 305 → N a i = M a i) : dA M N := by
  obtain ⟨f1, f2, f3⟩ := (fresh_of h.1 h.2.1).2.2.2 hz
  refine ⟨fun a i ha => ?_, h0, ⟨hz, hs.2.1.trans hz⟩, (hs.2.2 hz).2 trivial, ⟨h.1.2.2.1.1, hG.1.2.2.1.1⟩, h.1.1, fun p hp => ?_, hr.2.2.2.2.2.2.1, ?_⟩
  · rcases ha with ha | ha
    · exact hs.1 a i ha
    · exact h196 a i ha
  · obtain ⟨q1, q2, q3⟩ := f3 p hp
    exact ⟨(hs.2.2 hz).1 p hp, q2.1, q2.2.1, q3.1⟩
  · exact hr.2.2.2.2.1.2.2.2.2.2
/-- the law's last calls -/
theorem A_tail (hK : 1000000 ≤ K) (h : fst' K M) (hz : M 18 4 = 0) (hc : clo M) (hr : rnd M 196 mo de) (h17 : 0 < M 1 7) : ∃ X d, f_6 K c M = some (X, c, d) ∧ X 5 0 = M 5 0 ∧ ∃ W, f_37 K c X 1 1 3 = some (W, c, 1) ∧ ∃ F c2, f_11 K c W 0 (M 5 0) = some (F, c2, 0) ∧ ∃ G c3 t, f_4 K c2 F 0 0 = some (G, c3, t) ∧ -1 ≤ yw t ∧ ∃ H, f_6 K c3 G = some (H, c3, d) ∧ H 21 2 ≤ 262144 := by
  have hnp := h.1.1.2.1
  have sp : ∀ {Q R : yM}, fst' K Q → fst' K R → Q 18 4 = 0 → clo Q → clo R → same2 True Q R → spR K Q R := fun {Q R} hQ hR hq hcQ hcR hs => by
    obtain ⟨A, a1, a2, a3⟩ := fst_R89 (m := 306) (mo := 150) (de := 4) hK hQ hq hcQ (Or.inr rfl) (by decide) (by decide)
    obtain ⟨B, b1, b2, b3⟩ := fst_R89 (m := 306) (mo := 150) (de := 4) hK hR (hs.2.1.trans hq) hcR (Or.inr rfl) (by decide) (by decide)
    exact ⟨A, B, a1, b1, a2, b2, fst_two hK hQ hR hq hcQ hcR hs (Or.inr rfl) (Or.inr rfl) (by decide) (by decide) a1 b1⟩
  have sm : same2 True M M := same_rfl (fun _ _ _ _ => rfl) (by omega)
  obtain ⟨X, Y0, d, e1, -, e3, -⟩ := dig2 (c := c) (c' := c) hK (dA_of h h hz hr sm ⟨rfl, rfl, rfl, rfl⟩ fun _ _ _ => rfl) (sp h h hz hc hc sm) h.2.1 h.2.1
  have hX : fst' K X := fst_M h fun a i h1 _ => e3 a i (by omega)
  have hzX : X 18 4 = 0 := (e3 _ _ (by omega)).trans hz
  have hcX : clo X := clo_e (fun a i ha => e3 a i (by omega)) hc
  obtain ⟨W, w1, w2, w3, w4⟩ := A_37 (c := c) (j := 3) hK hX hzX hcX (mo := 1) (de := 1) (by decide) (by decide) (by decide)
  rw [one_step hK hX hzX hcX w2] at w1
  have hW : fst' K W := fst_M hX fun a i h1 _ => w3 a i (by omega)
  have hMW : ∀ a i, ¬ (306 ≤ a ∧ a < 416) → W a i = M a i := fun a i q => (w3 a i q).trans (e3 a i q)
  have hsB : sB (M 1 0) (M 5 0) := h.1.1.2.2.2.2.2.2.2.2.1 0 (by omega)
  -- faults with what is told
  have hW5 : W 5 0 = M 5 0 := hMW 5 0 (by omega)
  have ew : ywr W 5 0 (M 5 0) = yU W 5 0 (M 5 0) := wr_in (by decide) (by decide)
  have er : ∀ Q : yM, yrd Q 5 0 = Q 5 0 := fun Q => rd_in (by decide) (by decide)
  have kW : ∀ a i, ¬ (a = 0 ∧ i = 8) → yU (yU W 5 0 (M 5 0)) 0 8 1 a i = W a i := fun a i q => by
    rw [yU_ne q]
    by_cases q2 : a = 5 ∧ i = 0
    · rw [q2.1, q2.2, yU_at, hW5]
    · rw [yU_ne q2]
  have sttK : ∀ {Q R : yM}, stt Q → R 0 8 = 1 → (∀ a i, ¬ (a = 0 ∧ i = 8) → R a i = Q a i) → stt R := fun {Q R} q1 q2 q3 => by
    obtain ⟨r1, r2, r3, r4, r5, r6⟩ := q1
    have e : ∀ a, 1 ≤ a → R a = Q a := fun a ha => funext fun i => q3 a i (by omega)
    refine ⟨pI_cg (fun a i ha => q3 a i (by omega)) r1, ⟨by rw [e 1 (by decide), e 6 (by decide)]; exact r2.1, by rw [e 1 (by decide), e 4 (by decide)]; exact r2.2⟩, ?_, by rw [e 1 (by decide)]; exact r4, by rw [q3 0 7 (by omega)]; exact r5, Or.inl q2⟩
    unfold gW tI at r3 ⊢
    rw [e 21 (by decide), e 103 (by decide), e 104 (by decide)]
    exact r3
  obtain ⟨Y, c2, y1, y2, y3, y4⟩ := A_same (b := True) (c := c) (K := K) (by omega) hW (sttK hW.1 yU_at kW) yU_at (fun a i ha => kW a i (by omega)) (fun _ => kW 0 7 (by omega))
  have hzW : W 18 4 = 0 := (hMW _ _ (by omega)).trans hz
  have y18 : Y 18 4 = 0 := y4.2.1.trans hzW
  have y5 : Y 5 0 = M 5 0 := (y4.1 5 0 (by decide)).trans hW5
  have ewY : ywr Y 5 0 (M 5 0) = yU Y 5 0 (M 5 0) := wr_in (by decide) (by decide)
  have kY : ∀ a i, ¬ (a = 0 ∧ i = 8) → yU (yU Y 5 0 (M 5 0)) 0 8 1 a i = Y a i := fun a i q => by
    rw [yU_ne q]
    by_cases q2 : a = 5 ∧ i = 0
    · rw [q2.1, q2.2, yU_at, y5]
    · rw [yU_ne q2]
  have e11 : f_11 K c W 0 (M 5 0) = some (yU (yU Y 5 0 (M 5 0)) 0 8 1, c2, 0) := by
    unfold f_11
    rw [f119_1 hW.1.1 ⟨by decide, by rw [hMW 1 4 (by omega)]; omega⟩, show yrel 1 1 0 = true from rfl, cond_true, f127_1 hW.1.1 (by rw [hMW 1 0 (by omega)]; exact hsB), show yrel 1 1 0 = true from rfl, cond_true, ylet_eq, ylet_eq, ylet_eq, ew, y1]
    show some (yU (ywr Y 5 0 (yrd W 5 0)) 0 8 1, c2, Y 18 4) = _
    rw [er, hW5, ewY, y18]
  have kM' : ∀ a i, 1 ≤ a ∧ a ≤ 17 → yU (yU Y 5 0 (M 5 0)) 0 8 1 a i = M a i := fun a i ha => by
    rw [kY a i (by omega), y4.1 a i ha, hMW a i (by omega)]
  obtain ⟨G, c3, u1, u2, u3, u4⟩ := A_same (b := True) (c := c2) (K := K) (by omega) h (sttK y2.1 yU_at kY) yU_at kM' (fun _ => by rw [kY 0 7 (by omega), y3.1 0 7 (by omega), kW 0 7 (by omega), hMW 0 7 (by omega)])
  have hzG : G 18 4 = 0 := u4.2.1.trans hz
  have hcG : clo G := clo_e u4.1 hc
  have g0 : ∀ i, i ≠ 8 → G 0 i = M 0 i := fun i hi => by
    rw [u3.1 0 i (by omega), kY 0 i (by omega), y3.1 0 i (by omega), kW 0 i (by omega), hMW 0 i (by omega)]
  have g196 : ∀ a i, 196 ≤ a ∧ a ≤ 305 → G a i = M a i := fun a i ha => by
    rw [u3.1 a i (by omega), kY a i (by omega), y3.1 a i (by omega), kW a i (by omega), hMW a i (by omega)]
  have hdA := dA_of h u2 hz hr u4 ⟨g0 7 (by decide), g0 9 (by decide), g0 10 (by decide), g0 11 (by decide)⟩ g196
  obtain ⟨X', H, d', f1, f2, -, f4⟩ := dig2 (c := c) (c' := c3) hK hdA (sp h u2 hz hc hcG u4) h.2.1 u2.2.1
  have ed : d' = d := by
    have := f1.symm.trans e1
    exact (Prod.mk.inj (Prod.mk.inj (Option.some.inj this)).2).2
  rw [ed] at f2
  obtain ⟨t, t1⟩ := bo_some (d_111 (K := K) (M := M) (N := G) (x1 := 0) (x2 := 0) (by omega) hdA)
  have t2 : f_111 K G 0 0 = some t := by
    obtain ⟨s, s1, s2⟩ := d_111 (K := K) (M := M) (N := G) (x1 := 0) (x2 := 0) (by omega) hdA
    rw [s2, ← s1, t1]
  have t3 : -1 ≤ yw t := by
    have e1 : yw (-1) = -1 := rfl
    unfold f_111 at t2
    cases q : yrel 1 (yrd G 13 0) (-1) with
    | true =>
      rw [q, cond_true] at t2
      exact f111_r _ _ _ t2
    | false =>
      rw [q, cond_false] at t2
      cases t2
      rw [e1]; decide
  refine ⟨X, d, e1, e3 5 0 (by omega), W, w1, _, _, e11, G, c3, t, ?_, t3, H, f2, by rw [f4 21 2 (by omega)]; exact u2.1.2.2.1.1.2.2.2.1⟩
  unfold f_4
  have hF := (sttK y2.1 yU_at kY).1
  rw [f118_1 hF ⟨by decide, by rw [kM' 1 7 (by omega)]; exact h17⟩, show yrel 0 1 0 = false from rfl, cond_false, f117_1 hF ⟨by decide, by rw [kM' 1 0 (by omega)]; have := h.1.1.2.2.1; omega⟩, show yrel 1 1 0 = true from rfl, cond_true, u1]
  show (f_111 K G 0 0).bind _ = _
  rw [t2]
  rfl
end PamC
