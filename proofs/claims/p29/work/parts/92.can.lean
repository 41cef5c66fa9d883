/-! what a node can throw, and whether it never ends (2) -/
section CnA
variable {M M' : yM} {n w N k fu : Nat} {x x1 x2 x3 x4 : Int} {cs : List Nat}
theorem f110_ok (hI : pI M) (hn : (n : Int) < M 1 7) (hN : 91 ≤ N) (hs : ∀ j : Nat, (j : Int) < (n : Int) → ysm (M 17 j)) (h11 : M 7 n = 11) : f_110 N M (n : Int) = some (vT M n) := by
  have h90 := hI.1
  have hO := (hI.2.2.2.1 n hn).2.2.2.2.2.2.2.2.1 h11
  obtain ⟨hA, hB, hC, _, _⟩ := hO
  have hB0 := hB.1
  have hB1 := hB.2.1
  have hc : ctx M (M 10 n) ∧ M 10 n < 90 := by
    rcases hC with q | ⟨q1, q2, q3, q4⟩
    · exact ⟨Or.inl q, by omega⟩
    · exact ⟨Or.inr ⟨q1, by omega, q4⟩, by omega⟩
  have hA' : M 8 n = -1 ∨ (0 ≤ M 8 n ∧ M 8 n < (n : Int)) := by
    rcases hA with q | q
    · exact Or.inl q
    · exact Or.inr ⟨q.1, q.2.1⟩
  unfold f_110
  rw [ylet_eq, ylet_eq, rd7 ⟨by decide, by decide⟩ (by omega), rd7 ⟨by decide, by decide⟩ (by omega), f109 (Or.inr ⟨by omega, by omega⟩), show (90 : Int) = ((90 : Nat) : Int) from rfl, f110_l hI 90 N _ _ _ hc.1 (by omega) (by omega) (by omega)]
  unfold f_110_46
  rw [ylet_eq, rd7 ⟨by decide, by decide⟩ (by omega), rel0 ⟨by omega, by omega⟩ ⟨by decide, by decide⟩]
  have h65 : f_110_65 N M (opn M (cpt M (M 9 n)) (chn M 90 (M 10 n))) (ofc M 0 (chn M 90 (M 10 n))) (M 8 n) = some (ybin 27 (ybin 27 (opn M (cpt M (M 9 n)) (chn M 90 (M 10 n))) (ofc M 0 (chn M 90 (M 10 n)))) (cpt M (M 8 n))) := by
    unfold f_110_65
    rw [f109 (by omega)]
  unfold vT
  by_cases q : M 8 n = -1
  · rw [cond_dt q, h65, if_neg (fun h => h.1 q)]
  · have hs8 := hs (M 8 n).toNat (by omega)
    rw [cond_df q, rd7x (a := 17) ⟨by decide, by decide⟩ (by omega) (by omega), rel1 hs8 ⟨by decide, by decide⟩]
    by_cases q2 : M 17 (M 8 n).toNat = 1
    · rw [decide_eq_true q2, Bool.not_true, cond_false, rd7x (a := 16) ⟨by decide, by decide⟩ (by omega) (by omega), if_pos ⟨q, q2⟩]
    · rw [decide_eq_false q2, Bool.not_false, cond_true, h65, if_neg (fun h => q2 h.2)]
theorem ptB_rg (hI : pI M) (hn : (n : Int) < M 1 7) : ptB M n = -1 ∨ (0 ≤ ptB M n ∧ ptB M n < (n : Int) ∧ M 11 (ptB M n).toNat = (n : Int)) := by
  obtain ⟨o1, o2, o3, o4, o5, o6, o7, o8, o9, o10, o11, o12⟩ := hI.2.2.2.1 n hn
  unfold ptB
  by_cases q : M 7 n = 4 ∨ M 7 n = 5 ∨ M 7 n = 6 ∨ M 7 n = 11 ∨ M 7 n = 12 ∨ M 7 n = 13
  · rw [if_pos q]
    have : prt M n (M 9 n) := by
      rcases q with q | q | q | q | q | q
      · exact (o4 q).1
      · exact (o5 q).2.1
      · exact (o6 q).2
      · exact (o9 q).2.1
      · exact (o10 q).2.1
      · exact (o11 q).1
    exact Or.inr ⟨this.1, this.2.1, this.2.2.1⟩
  · rw [if_neg q]; exact Or.inl rfl
theorem ptC_rg (hI : pI M) (hn : (n : Int) < M 1 7) : ptC M n = -1 ∨ (0 ≤ ptC M n ∧ ptC M n < (n : Int) ∧ M 11 (ptC M n).toNat = (n : Int)) := by
  obtain ⟨o1, o2, o3, o4, o5, o6, o7, o8, o9, o10, o11, o12⟩ := hI.2.2.2.1 n hn
  unfold ptC
  by_cases q : M 7 n = 4 ∨ M 7 n = 5 ∨ M 7 n = 11 ∨ M 7 n = 12
  · rw [if_pos q]
    rcases q with q | q | q | q
    · have := (o4 q).2.1
      exact Or.inr ⟨this.1, this.2.1, this.2.2.1⟩
    · rcases (o5 q).2.2.1 with h | h
      · exact Or.inl h
      · exact Or.inr ⟨h.1, h.2.1, h.2.2.1⟩
    · rcases (o9 q).2.2.1 with h | h
      · exact Or.inl h
      · exact Or.inr ⟨h.1, h.2.1, h.2.2.1⟩
    · rcases (o10 q).2.2 with h | h
      · exact Or.inl h
      · exact Or.inr ⟨h.1, h.2.1, h.2.2.1⟩
  · rw [if_neg q]; exact Or.inl rfl
theorem ptA_rg (hI : pI M) (hn : (n : Int) < M 1 7) : ptA M n = -1 ∨ (0 ≤ ptA M n ∧ ptA M n < (n : Int) ∧ M 11 (ptA M n).toNat = (n : Int)) := by
  have o9 := (hI.2.2.2.1 n hn).2.2.2.2.2.2.2.2.1
  unfold ptA
  by_cases q : M 7 n = 11
  · rw [if_pos q]
    rcases (o9 q).1 with h | h
    · exact Or.inl h
    · exact Or.inr ⟨h.1, h.2.1, h.2.2.1⟩
  · rw [if_neg q]; exact Or.inl rfl
theorem f134 (hI : pI M) (hn : (n : Int) < M 1 7) : f_134 M (n : Int) = ptA M n := by
  have h90 := hI.1
  have s7 := nO_sm (hI.2.2.2.1 n hn)
  unfold f_134 ptA
  rw [rd7 ⟨by decide, by decide⟩ (by omega), rd7 ⟨by decide, by decide⟩ (by omega), rel1 s7 ⟨by decide, by decide⟩]
  by_cases q : M 7 n = 11
  · rw [decide_eq_true q, Bool.not_true, cond_false, if_pos q]
  · rw [decide_eq_false q, Bool.not_false, cond_true, if_neg q]
theorem f135 (hI : pI M) (hn : (n : Int) < M 1 7) : f_135 M (n : Int) = ptB M n := by
  have h90 := hI.1
  have s7 := nO_sm (hI.2.2.2.1 n hn)
  have r : ∀ y : Int, ysm y → yrel 0 (M 7 n) y = decide (M 7 n = y) := fun y hy => rel0 s7 hy
  unfold f_135 ptB
  rw [rd7 ⟨by decide, by decide⟩ (by omega), rd7 ⟨by decide, by decide⟩ (by omega), r 4 ⟨by decide, by decide⟩, r (4 + 1) ⟨by decide, by decide⟩, r (4 + 1 + 1) ⟨by decide, by decide⟩, r (4 + 1 + 1 + 1) ⟨by decide, by decide⟩, r (4 + 1 + 1 + 1 + 1) ⟨by decide, by decide⟩, r (4 + 1 + 1 + 1 + 1 + 1) ⟨by decide, by decide⟩, r (4 + 1 + 1 + 1 + 1 + 1 + 1) ⟨by decide, by decide⟩, r (4 + 1 + 1 + 1 + 1 + 1 + 1 + 1) ⟨by decide, by decide⟩, r (4 + 1 + 1 + 1 + 1 + 1 + 1 + 1 + 1) ⟨by decide, by decide⟩, r (4 + 1 + 1 + 1 + 1 + 1 + 1 + 1 + 1 + 1) ⟨by decide, by decide⟩]
  by_cases q4 : M 7 n = 4
  · rw [cond_dt q4, if_pos (by omega)]
  by_cases q5 : M 7 n = 4 + 1
  · rw [cond_df q4, cond_dt q5, if_pos (by omega)]
  by_cases q6 : M 7 n = 4 + 1 + 1
  · rw [cond_df q4, cond_df q5, cond_dt q6, if_pos (by omega)]
  rw [cond_df q4, cond_df q5, cond_df q6]
  by_cases q7 : M 7 n = 4 + 1 + 1 + 1
  · rw [cond_dt q7, if_neg (by omega)]
  by_cases q8 : M 7 n = 4 + 1 + 1 + 1 + 1
  · rw [cond_df q7, cond_dt q8, if_neg (by omega)]
  by_cases q9 : M 7 n = 4 + 1 + 1 + 1 + 1 + 1
  · rw [cond_df q7, cond_df q8, cond_dt q9, if_neg (by omega)]
  by_cases q10 : M 7 n = 4 + 1 + 1 + 1 + 1 + 1 + 1
  · rw [cond_df q7, cond_df q8, cond_df q9, cond_dt q10, if_neg (by omega)]
  rw [cond_df q7, cond_df q8, cond_df q9, cond_df q10]
  by_cases q11 : M 7 n = 4 + 1 + 1 + 1 + 1 + 1 + 1 + 1
  · rw [cond_dt q11, if_pos (by omega)]
  by_cases q12 : M 7 n = 4 + 1 + 1 + 1 + 1 + 1 + 1 + 1 + 1
  · rw [cond_df q11, cond_dt q12, if_pos (by omega)]
  by_cases q13 : M 7 n = 4 + 1 + 1 + 1 + 1 + 1 + 1 + 1 + 1 + 1
  · rw [cond_df q11, cond_df q12, cond_dt q13, if_pos (by omega)]
  rw [cond_df q11, cond_df q12, cond_df q13, if_neg (by omega)]
theorem f136 (hI : pI M) (hn : (n : Int) < M 1 7) : f_136 M (n : Int) = ptC M n := by
  have h90 := hI.1
  have s7 := nO_sm (hI.2.2.2.1 n hn)
  have r : ∀ y : Int, ysm y → yrel 0 (M 7 n) y = decide (M 7 n = y) := fun y hy => rel0 s7 hy
  unfold f_136 ptC
  rw [rd7 ⟨by decide, by decide⟩ (by omega), rd7 ⟨by decide, by decide⟩ (by omega), r 4 ⟨by decide, by decide⟩, r (4 + 1) ⟨by decide, by decide⟩, r (4 + 1 + 1) ⟨by decide, by decide⟩, r (4 + 1 + 1 + 1) ⟨by decide, by decide⟩, r (4 + 1 + 1 + 1 + 1) ⟨by decide, by decide⟩, r (4 + 1 + 1 + 1 + 1 + 1) ⟨by decide, by decide⟩, r (4 + 1 + 1 + 1 + 1 + 1 + 1) ⟨by decide, by decide⟩, r (4 + 1 + 1 + 1 + 1 + 1 + 1 + 1) ⟨by decide, by decide⟩, r (4 + 1 + 1 + 1 + 1 + 1 + 1 + 1 + 1) ⟨by decide, by decide⟩]
  by_cases q4 : M 7 n = 4
  · rw [cond_dt q4, if_pos (by omega)]
  by_cases q5 : M 7 n = 4 + 1
  · rw [cond_df q4, cond_dt q5, if_pos (by omega)]
  by_cases q6 : M 7 n = 4 + 1 + 1
  · rw [cond_df q4, cond_df q5, cond_dt q6, if_neg (by omega)]
  rw [cond_df q4, cond_df q5, cond_df q6]
  by_cases q7 : M 7 n = 4 + 1 + 1 + 1
  · rw [cond_dt q7, if_neg (by omega)]
  by_cases q8 : M 7 n = 4 + 1 + 1 + 1 + 1
  · rw [cond_df q7, cond_dt q8, if_neg (by omega)]
  by_cases q9 : M 7 n = 4 + 1 + 1 + 1 + 1 + 1
  · rw [cond_df q7, cond_df q8, cond_dt q9, if_neg (by omega)]
  by_cases q10 : M 7 n = 4 + 1 + 1 + 1 + 1 + 1 + 1
  · rw [cond_df q7, cond_df q8, cond_df q9, cond_dt q10, if_neg (by omega)]
  rw [cond_df q7, cond_df q8, cond_df q9, cond_df q10]
  by_cases q11 : M 7 n = 4 + 1 + 1 + 1 + 1 + 1 + 1 + 1
  · rw [cond_dt q11, if_pos (by omega)]
  by_cases q12 : M 7 n = 4 + 1 + 1 + 1 + 1 + 1 + 1 + 1 + 1
  · rw [cond_df q11, cond_dt q12, if_pos (by omega)]
  rw [cond_df q11, cond_df q12, if_neg (by omega)]
theorem f107_ok (hI : pI M) (hn : (n : Int) < M 1 7) (hN : 91 ≤ N) (hs : ∀ j : Nat, (j : Int) < (n : Int) → ysm (M 17 j)) (h14 : M 14 n = -1 ∨ (0 ≤ M 14 n ∧ M 14 n < M 1 7)) : f_107 N M (n : Int) = some (vC M n) := by
  have h90 := hI.1
  have hnp := hI.2.1
  have hO := hI.2.2.2.1 n hn
  have s7 := nO_sm hO
  have r : ∀ y : Int, ysm y → yrel 0 (M 7 n) y = decide (M 7 n = y) := fun y hy => rel0 s7 hy
  unfold f_107 vC
  rw [ylet_eq, rd7 (a := 8) ⟨by decide, by decide⟩ (by omega), rd7 (a := 7) ⟨by decide, by decide⟩ (by omega), rd7 (a := 9) ⟨by decide, by decide⟩ (by omega), rd7 (a := 14) ⟨by decide, by decide⟩ (by omega), rd7 (a := 10) ⟨by decide, by decide⟩ (by omega), r 9 ⟨by decide, by decide⟩, r (9 + 1) ⟨by decide, by decide⟩, r (9 + 1 + 1) ⟨by decide, by decide⟩, r (9 + 1 + 1 + 1) ⟨by decide, by decide⟩, r (9 + 1 + 1 + 1 + 1) ⟨by decide, by decide⟩, r (9 + 1 + 1 + 1 + 1 + 1) ⟨by decide, by decide⟩, r (9 + 1 + 1 + 1 + 1 + 1 + 1) ⟨by decide, by decide⟩]
  by_cases q9 : M 7 n = 9
  · have h9 := (hO.2.2.2.2.2.2.1 q9).2
    rw [cond_dt q9, if_pos q9, rd_in (by omega) (show M 9 n < 8 by omega)]
  rw [cond_df q9, if_neg q9]
  by_cases q10 : M 7 n = 9 + 1
  · rw [cond_dt q10, if_pos (by omega)]
  rw [cond_df q10, if_neg (by omega)]
  by_cases q11 : M 7 n = 9 + 1 + 1
  · rw [cond_dt q11, if_pos (by omega), f110_ok hI hn hN hs (by omega)]; rfl
  rw [cond_df q11, if_neg (by omega)]
  by_cases q12 : M 7 n = 9 + 1 + 1 + 1
  · have hb := (hO.2.2.2.2.2.2.2.2.2.1 (by omega)).2.1
    have hb0 := hb.1
    have hb1 := hb.2.1
    rw [cond_dt q12, if_pos (by omega), f109 (Or.inr ⟨by omega, by omega⟩)]
  rw [cond_df q12, if_neg (by omega)]
  by_cases q13 : M 7 n = 9 + 1 + 1 + 1 + 1
  · have hb := hO.2.2.2.2.2.2.2.2.2.2.1 (by omega)
    have hb0 := hb.1.1
    have hb1 := hb.1.2.1
    rw [cond_dt q13, if_pos (by omega), f109 (Or.inr ⟨by omega, by omega⟩), f138 (by omega), f138 (by omega)]
  rw [cond_df q13, if_neg (by omega)]
  by_cases q14 : M 7 n = 9 + 1 + 1 + 1 + 1 + 1
  · rw [cond_dt q14, if_pos (by omega), ylet_eq, rel1 ⟨by omega, by omega⟩ ⟨by decide, by decide⟩]
    by_cases q : M 14 n = -1
    · rw [decide_eq_true q, Bool.not_true, cond_false, if_pos q]
    · rw [decide_eq_false q, Bool.not_false, cond_true, if_neg q, rd7x ⟨by decide, by decide⟩ (by omega) (by omega)]
  rw [cond_df q14, if_neg (by omega)]
  by_cases q15 : M 7 n = 9 + 1 + 1 + 1 + 1 + 1 + 1
  · rw [cond_dt q15, if_pos (by omega)]
  have hB := ptB_rg hI hn
  have hC := ptC_rg hI hn
  rw [cond_df q15, if_neg (by omega), f135 hI hn, f136 hI hn, f109 (by omega), f109 (by omega)]
theorem f133_ok (hI : pI M) (hn : (n : Int) < M 1 7) (hN : 91 ≤ N) (hs : ∀ j : Nat, (j : Int) < (n : Int) → ysm (M 17 j)) (h11 : M 7 n = 11) : f_133 N M (n : Int) = some (if vE M n then 1 else 0) := by
  have h90 := hI.1
  have hO := (hI.2.2.2.1 n hn).2.2.2.2.2.2.2.2.1 h11
  obtain ⟨hA, hB, hC, _, _⟩ := hO
  have hB0 := hB.1
  have hB1 := hB.2.1
  have hc : ctx M (M 10 n) ∧ M 10 n < (n : Int) := by
    rcases hC with q | ⟨q1, q2, q3, q4⟩
    · exact ⟨Or.inl q, by omega⟩
    · exact ⟨Or.inr ⟨q1, by omega, q4⟩, by omega⟩
  unfold f_133
  rw [ylet_eq, ylet_eq, rd7 ⟨by decide, by decide⟩ (by omega), rd7 ⟨by decide, by decide⟩ (by omega), f124 (Or.inr ⟨by omega, by omega⟩) (hs _ (by omega)), show (90 : Int) = ((90 : Nat) : Int) from rfl, f133_l hI hs 90 N _ _ hc.1 (by omega) hc.2 (by omega) (by omega)]
end CnA
