/-! the calls that the law makes once all is told -/
section PalA
variable {M N O X Y Z W : yM} {a K n m p c c' i j e : Nat} {x y z t mo de v w d : Int} {b : Prop}
theorem f1_1 (hmo : 1 ≤ mo ∧ mo ≤ 900) (hde : 1 ≤ de ∧ de ≤ 30) : f_1 M mo de = 1 := by
  unfold f_1
  rw [rel2 ⟨by omega, by omega⟩ ⟨by decide, by decide⟩, cond_df (by omega), rel4 ⟨by omega, by omega⟩ ⟨by decide, by decide⟩, cond_df (by omega), rel2 ⟨by omega, by omega⟩ ⟨by decide, by decide⟩, cond_df (by omega), rel4 ⟨by omega, by omega⟩ ⟨by decide, by decide⟩, cond_df (by omega)]
theorem fst_R89 (hK : 1000000 ≤ K) (h : fst' K M) (hz : M 18 4 = 0) (hc : clo M) (hm : pM m) (hmo : 1 ≤ mo ∧ mo ≤ 900) (hde : 1 ≤ de ∧ de ≤ 30) : ∃ X, f_89 K M m mo de = some X ∧ (∀ a i, ¬ (m ≤ a ∧ a < m + 110) → X a i = M a i) ∧ rnd X m mo de := by
  obtain ⟨t, Xe, M2, h1, h2, h3, h4, h5, h6, h7⟩ := R_89 hK h.1.1 (fresh_of h.1 h.2.1) hz h.1.2.2.1 hc hm hmo hde
  exact ⟨M2, h4, h5, h6⟩
theorem fst_two (hK : 1000000 ≤ K) (h : fst' K M) (hN : fst' K N) (hz : M 18 4 = 0) (hc : clo M) (hcN : clo N) (hs : same2 b M N) (hm : pM m) (hm' : pM n) (hmo : 1 ≤ mo ∧ mo ≤ 900) (hde : 1 ≤ de ∧ de ≤ 30) (eX : f_89 K M m mo de = some X) (eY : f_89 K N n mo de = some Y) : ∀ j, j < 9 → Y (n + 13) j = X (m + 13) j :=
  R_89p hK h.1.1 hN.1.1 (fresh_of h.1 h.2.1) (fresh_of hN.1 hN.2.1) hz h.1.2.2.1 hN.1.2.2.1 hs hc hcN hm hm' hmo hde eX eY
theorem sP_rfl {b : Prop} : sP b p M M := ⟨rfl, fun _ _ => rfl, fun _ _ _ _ _ => rfl, fun _ _ _ => rfl, fun _ _ _ _ _ => rfl, fun _ => ⟨rfl, rfl, rfl, fun _ _ => rfl⟩⟩
theorem same_rfl (h : ∀ a i, a ≤ 195 → ¬ (a = 0 ∧ 9 ≤ i) → X a i = M a i) (h8 : M 1 4 ≤ 8) : same2 b M X := by
  have e : ∀ a, 1 ≤ a → a ≤ 195 → X a = M a := fun a h1 h2 => funext fun i => h a i h2 (by omega)
  refine ⟨fun a i ha => by rw [e a ha.1 (by omega)], by rw [e 18 (by decide) (by decide)], fun _ => ⟨fun p hp => sP_l (X := X) (fun a h1 h2 => (e a h1 h2).symm) (by omega) sP_rfl, fun _ => ?_⟩⟩
  rw [e 21 (by decide) (by decide), e 22 (by decide) (by decide)]
  exact ⟨rfl, fun _ _ => rfl⟩
theorem clo_e (h : ∀ a i, 1 ≤ a ∧ a ≤ 17 → X a i = M a i) (hc : clo M) : clo X := by
  have e : ∀ a, 1 ≤ a ∧ a ≤ 17 → X a = M a := fun a ha => funext fun i => h a i ha
  unfold clo at hc ⊢
  rw [e 1 (by decide), e 5 (by decide), e 6 (by decide), e 16 (by decide)]
  exact hc
/-- what would be -/
theorem A_37 (hK : 1000000 ≤ K) (h : fst' K M) (hz : M 18 4 = 0) (hc : clo M) (hmo : 1 ≤ mo ∧ mo ≤ 900) (hde : 1 ≤ de ∧ de ≤ 30) (hw : j < 9) : ∃ X, f_37 K c M mo de (j : Int) = some (X, c, X 319 j) ∧ f_89 K M 306 mo de = some X ∧ (∀ a i, ¬ (306 ≤ a ∧ a < 416) → X a i = M a i) ∧ rnd X 306 mo de := by
  obtain ⟨X, e1, e2, e3⟩ := fst_R89 (m := 306) hK h hz hc (Or.inr rfl) hmo hde
  refine ⟨X, ?_, e1, e2, e3⟩
  unfold f_37
  rw [f1_1 hmo hde, show yrel 0 1 0 = false from rfl, cond_false, rel2 ⟨by omega, by omega⟩ ⟨by decide, by decide⟩, cond_df (by omega), rel5 ⟨by omega, by omega⟩ ⟨by decide, by decide⟩, cond_dt (by omega), f31_0 h.2.1]
  show cond (yrel 5 (M 18 4) 0) (Option.bind (f_89 K M 306 mo de) fun t6 => some (t6, c, yrd t6 (306 + 13) (j : Int))) none = _
  rw [hz, show yrel 5 0 0 = true from rfl, cond_true, e1]
  show some (X, c, yrd X 319 (j : Int)) = _
  rw [rd_in (by omega) (by show (j : Int) < ((9 : Nat) : Int); omega), Int.toNat_natCast]
/-- the run that is made: limits and prune told, then run -/
def lpM (M : yM) (mo de x : Int) : yM := yU (yU (yU (yU M 0 9 mo) 0 10 de) 0 7 x) 0 8 1
theorem lpM_get : (∀ a i, ¬ (a = 0 ∧ (i = 7 ∨ i = 8 ∨ i = 9 ∨ i = 10)) → lpM M mo de x a i = M a i) ∧ lpM M mo de x 0 7 = x ∧ lpM M mo de x 0 8 = 1 ∧ lpM M mo de x 0 9 = mo ∧ lpM M mo de x 0 10 = de := by
  unfold lpM
  refine ⟨fun a i q => by rw [yU_ne (by omega), yU_ne (by omega), yU_ne (by omega), yU_ne (by omega)], by rw [yU_i (by decide), yU_at], yU_at, by rw [yU_i (by decide), yU_i (by decide), yU_i (by decide), yU_at], by rw [yU_i (by decide), yU_i (by decide), yU_at]⟩
theorem A_16 (hmo : 1 ≤ mo ∧ mo ≤ 900) (hde : 1 ≤ de ∧ de ≤ 30) : f_16 M mo de = some (yU (yU M 0 9 mo) 0 10 de, M 0 9) := by
  unfold f_16
  rw [f1_1 hmo hde]; rfl
theorem A_23 (hx : x = 0 ∨ x = 1) (h7 : M 0 7 = 0 ∨ M 0 7 = 1) : f_23 M x = some (yU (yU M 0 7 x) 0 8 1, M 0 7) := by
  have hy : ∀ {v : Int} {A : Option (yM × Int)}, v = 0 ∨ v = 1 → ybo v A = A := fun {v A} hv => by
    unfold ybo
    rw [if_pos (by rcases hv with rfl | rfl; exact Or.inl rfl; exact Or.inr rfl)]
  unfold f_23
  rw [ylet_eq, hy hx, ylet_eq, ylet_eq, hy h7]
theorem lpM_stt (h : fst' K M) (hx : x = 0 ∨ x = 1) : stt (lpM M mo de x) := by
  obtain ⟨g1, g2, g3, g4, g5⟩ := lpM_get (M := M) (mo := mo) (de := de) (x := x)
  obtain ⟨⟨h1, h2, h3, h4, h5, h6⟩, -⟩ := h
  have e : ∀ a, 1 ≤ a → lpM M mo de x a = M a := fun a ha => funext fun i => g1 a i (by omega)
  refine ⟨pI_cg (fun a i ha => g1 a i (by omega)) h1, ⟨by rw [e 1 (by decide), e 6 (by decide)]; exact h2.1, by rw [e 1 (by decide), e 4 (by decide)]; exact h2.2⟩, ?_, by rw [e 1 (by decide)]; exact h4, by rw [g2]; exact hx, Or.inl g3⟩
  unfold gW tI at h3 ⊢
  rw [e 21 (by decide), e 103 (by decide), e 104 (by decide)]
  exact h3
theorem A_33 (hK : 1000000 ≤ K) (h : fst' K M) (hz : M 18 4 = 0) (hc : clo M) (hmo : 1 ≤ mo ∧ mo ≤ 900) (hde : 1 ≤ de ∧ de ≤ 30) (hx : x = 0 ∨ x = 1) (eX : f_89 K M 306 mo de = some X) : ∃ Z c', f_33 K c (lpM M mo de x) = some (Z, c', Z 209 0) ∧ fst' K Z ∧ Z 18 4 = 0 ∧ clo Z ∧ rnd Z 196 mo de ∧ (∀ j, j < 9 → Z 209 j = X 319 j) ∧ (∀ a i, a ≤ 12 → ¬ (a = 0 ∧ 7 ≤ i) → Z a i = M a i) ∧ Z 0 7 = x ∧ Z 0 9 = mo := by
  obtain ⟨g1, g2, g3, g4, g5⟩ := lpM_get (M := M) (mo := mo) (de := de) (x := x)
  obtain ⟨Y, c', e1, e2, e3, e4⟩ := A_same (b := False) (c := c) (by omega) h (lpM_stt (mo := mo) (de := de) h hx) g3 (fun a i ha => g1 a i (by omega)) (fun q => q.elim)
  have hzY : Y 18 4 = 0 := e4.2.1.trans hz
  have hcY : clo Y := clo_e e4.1 hc
  obtain ⟨R, r1, r2, r3⟩ := fst_R89 (m := 196) hK e2 hzY hcY (Or.inl rfl) hmo hde
  have hT := fst_two (m := 306) (n := 196) hK h e2 hz hc hcY e4 (Or.inr rfl) (Or.inl rfl) hmo hde eX r1
  have k : ∀ a i, ¬ (a = 0 ∧ i = 11) → yU R 0 11 (R 0 11 + 1) a i = R a i := fun a i q => yU_ne q
  have y9 : Y 0 9 = mo := (e3.1 0 9 (by omega)).trans g4
  have y10 : Y 0 10 = de := (e3.1 0 10 (by omega)).trans g5
  have hfr : ∀ a i, a ≤ 195 → ¬ (a = 0 ∧ 9 ≤ i) → yU R 0 11 (R 0 11 + 1) a i = Y a i := fun a i h1 h2 => by
    rw [k a i (by omega)]; exact r2 a i (by omega)
  refine ⟨yU R 0 11 (R 0 11 + 1), c', ?_, fst_M e2 hfr, by rw [hfr 18 4 (by omega) (by omega)]; exact hzY, clo_e (fun a i ha => hfr a i (by omega) (by omega)) hcY, ?_, fun j hj => ?_, fun a i h1 h2 => ?_, ?_, ?_⟩
  · unfold f_33
    rw [e1]
    show cond (yrel 5 (Y 18 4) 0) (Option.bind (f_89 K Y 196 (Y 0 9) (Y 0 10)) fun t3 => (ylet (yU t3 0 11 ((t3 0 11) + 1)) fun M4 => some (M4, c', (yrd M4 (196 + 13) 0)))) none = _
    rw [hzY, show yrel 5 0 0 = true from rfl, cond_true, y9, y10, r1]
    rfl
  · have eR : ∀ a, 1 ≤ a → yU R 0 11 (R 0 11 + 1) a = R a := fun a ha => funext fun i => k a i (by omega)
    have eac : (fun a => yU R 0 11 (R 0 11 + 1) (196 + a)) = fun a => R (196 + a) := funext fun a => eR _ (by omega)
    have eJ : rJ (yU R 0 11 (R 0 11 + 1)) 196 := rJ_eq r3.2.2.2.2.2.2.1 (fun j => k _ _ (by omega)) (fun a j q1 q2 => k _ _ (by omega)) (k _ _ (by omega))
    unfold rnd at r3 ⊢
    unfold kcP cnP bdP at *
    rw [eac, eR (196 + 13) (by decide), eR (196 + 16) (by decide), eR (196 + 17) (by decide), eR (196 + 1) (by decide), eR (196 + 2) (by decide), eR (196 + 3) (by decide), eR 1 (by decide), eR 7 (by decide), eR 8 (by decide), eR 13 (by decide), eR 6 (by decide), eR 16 (by decide)]
    obtain ⟨q1, q2, q3, q4, q5, q6, q7, q8⟩ := r3
    exact ⟨q1, q2, q3, q4, q5, q6, eJ, q8⟩
  · rw [k _ _ (by omega)]; exact hT j hj
  · rw [k a i (by omega), r2 a i (by omega), e3.1 a i (by omega), g1 a i (by omega)]
  · rw [k 0 7 (by omega), r2 0 7 (by omega), e3.1 0 7 (by omega), g2]
  · rw [k 0 9 (by omega), r2 0 9 (by omega), y9]
/-- a step never takes a beginning back -/
def p13 (Y Y' : yM) : Prop := Y 13 3 ≤ Y' 13 3
end PalA
