/-! an instruction of the class's machine is one of the abstract one's -/
/-- what an instruction's numbers are -/
def a_w2 (o x y z : Int) : Prop :=
  (o = 1 ∨ o = 2 ∨ o = 3 → (0 ≤ x ∧ x < 10) ∧ a_opd y) ∧ (o = 4 → a_opd x) ∧ (o = 5 → 0 ≤ x ∧ a_opd y) ∧ (o = 6 → 0 ≤ x) ∧ (o = 7 → a_opd x ∧ 0 ≤ y ∧ y < 90) ∧ (o = 8 ∨ o = 11 ∨ o = 12 ∨ o = 19 → 0 ≤ x ∧ x < 90) ∧ (o = 9 → (0 ≤ y ∧ y < 8) ∧ 0 ≤ x ∧ x < 10) ∧ (o = 13 → 0 ≤ z ∧ z < 90) ∧ (o = 14 ∨ o = 15 → (0 ≤ x ∧ x < 4) ∧ 0 ≤ y ∧ y < 90) ∧ (o = 16 → 0 ≤ x ∧ x < 4) ∧ (o = 17 ∨ o = 18 → 0 ≤ x ∧ x < 8)
def a_may (o : Int) : Prop := o = 3 ∨ o = 9 ∨ o = 10 ∨ o = 12 ∨ o = 13 ∨ o = 15 ∨ o = 16 ∨ o = 17 ∨ o = 18 ∨ o = 19
section YOpR
theorem safe_c {α : Type} {v : Int} {A B : α} (h : v = 0) : cond (yrel 0 v 0) A B = A := by rw [h]; rfl
theorem risk_c {α : Type} {v : Int} {A B : α} (h : v = 1) : cond (yrel 0 v 0) A B = B := by rw [h]; rfl
variable {M M' : yM} {m N c : Nat} {Y Y' : yM} {f : aF} {r : List aF} {mo de nk : Int} {bi : Nat} {o x y z nd : Int} {vp gn : Nat → Prop} {nn np : Nat} {X' : aX}
/-- what is caught, or held, as it lies there -/
theorem rel_cg {fl ru : Bool} {k e : Int} (hm : pM m) (hl : (r.length : Int) + 1 ≤ 30) (h : rel M m mo de (f :: r, fl, bi, ru, Y)) (hk : 0 ≤ k ∧ k < 90) (he : f.2.2.2.2.1 k.toNat = some e) : yrd M (m + 20 + 3 * r.length + 1) k = e := by
  rw [rd_in hk.1 (by rw [ln_f hm (by omega) (Or.inl rfl)]; omega)]
  exact h.2.1.1.2.2.2.2.1 k.toNat (by omega) e he
theorem rel_hd {fl ru : Bool} {k e : Int} (hm : pM m) (hl : (r.length : Int) + 1 ≤ 30) (h : rel M m mo de (f :: r, fl, bi, ru, Y)) (hk : 0 ≤ k ∧ k < 90) (he : f.2.2.2.2.2 k.toNat = some e) : yrd M (m + 20 + 3 * r.length + 2) k = e := by
  rw [rd_in hk.1 (by rw [ln_f hm (by omega) (Or.inr rfl)]; omega)]
  exact h.2.1.1.2.2.2.2.2 k.toNat (by omega) e he
theorem op_rel (hm : pM m) (h : rel M m mo de (f :: r, false, bi, true, Y)) (hI : a_I vp gn mo de nk nn np (f :: r, false, bi, true, Y)) (hv : f.2.2.1 = -1 ∨ (0 ≤ f.2.2.1 ∧ f.2.2.1 < 10)) (hs : Y 1 0 ≤ 2000000000) (hde : de ≤ 30) (hN : 3001 ≤ N) (hc : c < 100)
    (k1 : yrd M (c + 1) (f.2.1 : Int) = o) (k2 : yrd M (c + 2) (f.2.1 : Int) = x) (k3 : yrd M (c + 3) (f.2.1 : Int) = y) (k4 : yrd M (c + 4) (f.2.1 : Int) = z) (k5 : yrd M (c + 5) (f.2.1 : Int) = nd) (w : a_w2 o x y z) (hnd : a_may o → 0 ≤ nd ∧ nd < M 1 7) (hX : a_op de f r Y o x y z nd = some X') :
    ∃ M', cond (yrel 0 (f_42 M o) 0) (f_92 M m c f.2.1 (m + 20 + 3 * r.length)) (f_91 N M m c f.2.1 (m + 20 + 3 * r.length)) = some M' ∧ rel M' m mo de X' ∧ rst M M' m := by
  obtain ⟨w1, w4, w5, w6, w7, w8, w9, w13, w14, w16, w17⟩ := w
  obtain ⟨hJ, hF, -, hle, -⟩ := id hI
  dsimp only at hJ hF hle
  rw [List.length_cons] at hle
  have hl : (r.length : Int) + 1 ≤ 30 := by omega
  have h0 := hJ.1
  have hmm : m = 196 ∨ m = 306 := hm
  have hb : c + 1 ≠ m + 20 + 3 * r.length := by omega
  have hcg : ∀ {i : Nat} {e : Int}, f.2.2.2.2.1 i = some e → 0 ≤ e ∧ e < Y 1 0 := fun h => (hF f List.mem_cons_self).2 _ _ h
  have hmap : ∀ {i : Nat} {g : Int → aX}, (f.2.2.2.2.1 i).map g = some X' → ∃ e, f.2.2.2.2.1 i = some e ∧ g e = X' := fun h => by
    cases hq : f.2.2.2.2.1 _ with
    | none => rw [hq] at h; cases h
    | some e => rw [hq] at h; exact ⟨e, rfl, Option.some.inj h⟩
  have p3 : rel (yU M (m + 20 + 3 * r.length) 1 ((f.2.1 : Int) + 1)) m mo de (a_at f r (f.2.1 + 1) Y) := rel_place (j := f.2.1 + 1) (bi' := 0) h
  have r3 : rst M (yU M (m + 20 + 3 * r.length) 1 ((f.2.1 : Int) + 1)) m := rst_U (by omega)
  unfold a_op at hX
  by_cases h1 : o = 1
  · rw [if_pos h1] at hX
    subst h1
    rw [safe_c mt_1]
    cases hX
    obtain ⟨q1, q2⟩ := w1 (Or.inl rfl)
    rw [s_1 hb k1 k2 k3, rel_val hm p3 q2]
    exact ⟨_, rfl, rel_wr (bi' := 0) hm p3 (Or.inr (Or.inl rfl)) q1.1 (by rw [ln_14 hm]; omega), rst_trans r3 (rst_wr (by omega))⟩
  rw [if_neg h1] at hX
  by_cases h2 : o = 2
  · rw [if_pos h2] at hX
    subst h2
    rw [safe_c mt_2]
    cases hX
    obtain ⟨q1, q2⟩ := w1 (Or.inr (Or.inl rfl))
    rw [s_2 hb k1 k2 k3, rel_val hm p3 q2, rel_rd hm p3 (Or.inr (Or.inl rfl)) q1.1 (by rw [ln_14 hm]; omega)]
    exact ⟨_, rfl, rel_wr (bi' := 0) hm p3 (Or.inr (Or.inl rfl)) q1.1 (by rw [ln_14 hm]; omega), rst_trans r3 (rst_wr (by omega))⟩
  rw [if_neg h2] at hX
  by_cases h3 : o = 3
  · rw [if_pos h3] at hX
    subst h3
    rw [risk_c mt_3]
    obtain ⟨q1, q2⟩ := w1 (Or.inr (Or.inr rfl))
    rw [s_3 k1 k2 k3 k5, rel_val hm h q2]
    obtain ⟨M', g1, g2, g3⟩ := rel_83 (N := N) (d := a_val Y y) (nd := nd) hm h h0 hs hl (by omega) q1 (hnd (by unfold a_may; omega))
    refine ⟨M', g1, ?_, g3⟩
    by_cases hz : yw (a_val Y y) = 0
    · rw [if_pos hz] at hX g2; cases hX
      exact g2
    · rw [if_neg hz] at hX g2; cases hX
      exact g2
  rw [if_neg h3] at hX
  by_cases h4 : o = 4
  · rw [if_pos h4] at hX
    subst h4
    rw [safe_c mt_4]
    cases hX
    rw [s_4 hb k1 k2]
    have g := rel_94 (x := f_100 (yU M (m + 20 + 3 * r.length) 1 ((f.2.1 : Int) + 1)) m x) (y := yrd (yU M (m + 20 + 3 * r.length) 1 ((f.2.1 : Int) + 1)) (c + 5) (f.2.1 : Int)) (bi' := 0) hm p3
    exact ⟨_, rfl, g.1, rst_trans r3 g.2⟩
  rw [if_neg h4] at hX
  by_cases h5 : o = 5
  · rw [if_pos h5] at hX
    subst h5
    rw [safe_c mt_5]
    cases hX
    obtain ⟨q1, q2⟩ := w5 rfl
    rw [s_5 hb k1 k2 k3, rel_val hm p3 q2, yrel5, show yw 0 = 0 from rfl]
    have u : ∀ j : Nat, rel (yU (yU M (m + 20 + 3 * r.length) 1 ((f.2.1 : Int) + 1)) (m + 20 + 3 * r.length) 1 (j : Int)) m mo de (a_at f r j Y) := fun j => rel_place (f := (f.1, f.2.1 + 1, f.2.2)) (bi := 0) (j := j) (bi' := 0) p3
    by_cases hz : 0 < yw (a_val Y y)
    · rw [cond_df (by omega), if_pos hz]
      exact ⟨_, rfl, u (f.2.1 + 1), rst_trans r3 (rst_U (by omega))⟩
    · rw [cond_dt (by omega), if_neg hz]
      have u2 := u x.toNat
      rw [Int.toNat_of_nonneg q1] at u2
      exact ⟨_, rfl, u2, rst_trans r3 (rst_U (by omega))⟩
  rw [if_neg h5] at hX
  by_cases h6 : o = 6
  · rw [if_pos h6] at hX
    subst h6
    rw [safe_c mt_6]
    cases hX
    have q1 := w6 rfl
    rw [s_6 hb k1 k2]
    have u2 : rel (yU (yU M (m + 20 + 3 * r.length) 1 ((f.2.1 : Int) + 1)) (m + 20 + 3 * r.length) 1 (x.toNat : Int)) m mo de (a_at f r x.toNat Y) := rel_place (f := (f.1, f.2.1 + 1, f.2.2)) (bi := 0) (j := x.toNat) (bi' := 0) p3
    rw [Int.toNat_of_nonneg q1] at u2
    exact ⟨_, rfl, u2, rst_trans r3 (rst_U (by omega))⟩
  rw [if_neg h6] at hX
  by_cases h7 : o = 7
  · rw [if_pos h7] at hX
    subst h7
    rw [safe_c mt_7]
    cases hX
    obtain ⟨q1, q2⟩ := w7 rfl
    rw [s_7 hb k1 k2 k3, rel_val hm p3 q1, wr_in q2.1 (by rw [ln_f hm (by omega) (Or.inr rfl)]; omega)]
    exact ⟨_, rfl, rel_held (bi' := 0) p3, rst_trans r3 (rst_U (by omega))⟩
  rw [if_neg h7] at hX
  by_cases h8 : o = 8
  · rw [if_pos h8] at hX
    subst h8
    rw [safe_c mt_8]
    have q1 := w8 (Or.inl rfl)
    cases hw : f.2.2.2.2.2 x.toNat with
    | none => rw [hw] at hX; cases hX
    | some v =>
      rw [hw] at hX
      rw [s_8 hb k1 k2]
      have e : yrd (yU M (m + 20 + 3 * r.length) 1 ((f.2.1 : Int) + 1)) (m + 20 + 3 * r.length + 2) x = v := rel_hd hm hl p3 q1 hw
      rw [e]
      obtain ⟨M', g1, g2, g3⟩ := rel_87 (f := (f.1, f.2.1 + 1, f.2.2)) (bi := 0) (v := v) (X' := X') hm p3 hl hv (by cases r <;> exact hX)
      exact ⟨M', g1, g2, rst_trans r3 g3⟩
  rw [if_neg h8] at hX
  by_cases h9 : o = 9
  · rw [if_pos h9] at hX
    subst h9
    rw [risk_c mt_9]
    cases hX
    obtain ⟨q1, q2⟩ := w9 rfl
    rw [s_9 k1 k2 k3 k5]
    exact rel_84 hm h h0 hs (by omega) hde (by omega) q1 hJ.2.2.2.2.2.2.2.2.2.2.2.2.2.1 (hnd (by unfold a_may; omega))
  rw [if_neg h9] at hX
  by_cases h10 : o = 10
  · rw [if_pos h10] at hX
    subst h10
    rw [risk_c mt_10]
    cases hX
    rw [s_10 k1 k2 k3 k5]
    exact rel_95 (bi' := 0) hm h h0 hs (by rw [List.length_cons]; omega) (by omega) (hnd (by unfold a_may; omega))
  rw [if_neg h10] at hX
  by_cases h11 : o = 11
  · rw [if_pos h11] at hX
    subst h11
    rw [safe_c mt_11]
    have q1 := w8 (Or.inr (Or.inl rfl))
    by_cases hmd : 0 < Y 1 0
    · rw [if_pos hmd] at hX; cases hX
      rw [s_11 hb k1 k2, wr_in q1.1 (by rw [ln_f hm (by omega) (Or.inl rfl)]; omega)]
      have e : yU M (m + 20 + 3 * r.length) 1 ((f.2.1 : Int) + 1) m 16 = Y 0 16 := p3.1.1 hmd
      rw [e]
      exact ⟨_, rfl, rel_caught (bi' := 0) p3, rst_trans r3 (rst_U (by omega))⟩
    · rw [if_neg hmd] at hX; cases hX
  rw [if_neg h11] at hX
  by_cases h12 : o = 12
  · rw [if_pos h12] at hX
    subst h12
    rw [risk_c mt_12]
    have q1 := w8 (Or.inr (Or.inr (Or.inl rfl)))
    obtain ⟨e, he, rfl⟩ := hmap hX
    rw [s_12 k1 k2, rel_cg hm hl h q1 he]
    exact ⟨_, rfl, rel_fly h, rst_85⟩
  rw [if_neg h12] at hX
  by_cases h13 : o = 13
  · rw [if_pos h13] at hX
    subst h13
    rw [risk_c mt_13]
    have q1 := w13 rfl
    obtain ⟨e, he, rfl⟩ := hmap hX
    rw [s_13 k1 k2 k3 k4 k5, rel_cg hm hl h q1 he]
    exact rel_95 (bi' := 0) hm h h0 hs (by rw [List.length_cons]; omega) (by omega) (hnd (by unfold a_may; omega))
  rw [if_neg h13] at hX
  by_cases h14 : o = 14
  · rw [if_pos h14] at hX
    subst h14
    rw [safe_c mt_14]
    obtain ⟨q1, q2⟩ := w14 (Or.inl rfl)
    obtain ⟨e, he, rfl⟩ := hmap hX
    rw [s_14 hb k1 k2 k3]
    have e2 : yrd (yU M (m + 20 + 3 * r.length) 1 ((f.2.1 : Int) + 1)) (m + 20 + 3 * r.length + 1) y = e := rel_cg hm hl p3 q2 he
    rw [e2]
    exact ⟨_, rfl, rel_wr (bi' := 0) hm p3 (Or.inr (Or.inr (Or.inl rfl))) q1.1 (by rw [ln_15 hm]; omega), rst_trans r3 (rst_wr (by omega))⟩
  rw [if_neg h14] at hX
  by_cases h15 : o = 15
  · rw [if_pos h15] at hX
    subst h15
    rw [risk_c mt_15]
    obtain ⟨q1, q2⟩ := w14 (Or.inr rfl)
    obtain ⟨e, he, hX⟩ := hmap hX
    rw [s_15 k1 k2 k3 k5, rel_cg hm hl h q2 he, rel_rd hm h (Or.inr (Or.inr (Or.inl rfl))) q1.1 (by rw [ln_15 hm]; omega)]
    subst hX
    exact rel_88 hm h h0 hs hl hN (hJ.2.2.1 _) (hcg he) hJ.2.2.2.1 (hnd (by unfold a_may; omega))
  rw [if_neg h15] at hX
  by_cases h16 : o = 16
  · rw [if_pos h16] at hX
    subst h16
    rw [risk_c mt_16]
    cases hX
    have q1 := w16 rfl
    rw [s_16 k1 k2 k5, rel_rd hm h (Or.inr (Or.inr (Or.inl rfl))) q1.1 (by rw [ln_15 hm]; omega)]
    exact rel_98 hm h h0 hs hl (by omega) (hJ.2.2.1 _) (hnd (by unfold a_may; omega))
  rw [if_neg h16] at hX
  by_cases h17 : o = 17 ∨ o = 18
  · rw [if_pos h17] at hX
    cases hX
    have q1 := w17 h17
    have e : f_91 N M m c f.2.1 (m + 20 + 3 * r.length) = f_84 N M m x (-1) nd := by
      rcases h17 with h17 | h17
      · exact s_17 (by rw [k1, h17]) k2 k5
      · exact s_18 (by rw [k1, h17]) k2 k5
    have e2 : cond (yrel 0 (f_42 M o) 0) (f_92 M m c f.2.1 (m + 20 + 3 * r.length)) (f_91 N M m c f.2.1 (m + 20 + 3 * r.length)) = f_91 N M m c f.2.1 (m + 20 + 3 * r.length) := by
      rcases h17 with h17 | h17
      · rw [h17]; exact risk_c mt_17
      · rw [h17]; exact risk_c mt_18
    rw [e2, e]
    exact rel_84 hm h h0 hs (by omega) hde (by omega) q1 hJ.2.2.2.2.2.2.2.2.2.2.2.2.2.1 (hnd (by unfold a_may; omega))
  rw [if_neg h17] at hX
  by_cases h19 : o = 19
  · rw [if_pos h19] at hX
    subst h19
    rw [risk_c mt_19]
    have q1 := w8 (Or.inr (Or.inr (Or.inr rfl)))
    by_cases hmd : 0 < Y 1 0
    · rw [if_pos hmd] at hX
      obtain ⟨e, he, rfl⟩ := hmap hX
      rw [s_19 k1 k2, rel_cg hm hl h q1 he]
      have g := rel_97 hm h hmd hs (hJ.2.1 hmd) (hcg he)
      exact ⟨_, rfl, g.1, g.2⟩
    · rw [if_neg hmd] at hX; cases hX
  rw [if_neg h19] at hX
  by_cases h20 : o = 20
  · rw [if_pos h20] at hX
    subst h20
    rw [safe_c mt_20]
    cases hX
    rw [s_20 hb k1]
    exact ⟨_, rfl, p3, r3⟩
  rw [if_neg h20] at hX
  cases hX
end YOpR
