/-! faults: of one node -/
/-- the same program, and what is known of it -/
def eqP (P M : yM) : Prop := ∀ a, 1 ≤ a ∧ a ≤ 17 → M a = P a
section FtA
variable {M M' P : yM} {n w N k fu p : Nat} {x y x1 x2 x3 x4 o v : Int} {a b j : Nat}
theorem rd_cg (h : M a = P a) : yrd M a x = yrd P a x := by
  unfold yrd
  rw [h]
theorem f120_e (h : eqP P M) : f_120 M x y = f_120 P x y := f120_cg fun j => by rw [h 4 (by decide)]
theorem f73_e (h : eqP P M) : ∀ (fu : Nat) (x3 x4 : Int), f_73_14 N fu M x2 x3 x4 = f_73_14 N fu P x2 x3 x4
  | 0, _, _ => rfl
  | fu + 1, x3, x4 => by
    have e43 : f_73_43 N M x2 x3 = f_73_43 N P x2 x3 := by
      unfold f_73_43 f_73_64
      rw [rd_cg (h 3 (by decide)), rd_cg (h 4 (by decide)), rd_cg (h 9 (by decide)), rd_cg (h 16 (by decide))]
    rw [f_73_14, f_73_14, e43, f120_e h, rd_cg (h 7 (by decide)), rd_cg (h 8 (by decide)), rd_cg (h 11 (by decide)), ylet_eq, ylet_eq, f73_e h fu]
theorem f72_e (h : eqP P M) : f_72 N M x = f_72 N P x := by
  have e73 : f_73 N M x = f_73 N P x := by
    unfold f_73
    rw [ylet_eq, ylet_eq, ylet_eq, ylet_eq, rd_cg (h 8 (by decide)), rd_cg (h 11 (by decide)), f73_e h]
  unfold f_72 f_72_21
  rw [rd_cg (h 7 (by decide)), rd_cg (h 17 (by decide)), rd_cg (h 9 (by decide)), rd_cg (h 15 (by decide)), rd_cg (h 14 (by decide)), e73]
theorem f73_64t : ∃ v, f_73_64 N M x2 o = some v ∧ 0 ≤ v ∧ v ≤ 8 := by
  unfold f_73_64
  cases yrel 0 o 0 with
  | true => exact ⟨0, rfl, by omega, by omega⟩
  | false =>
    cases yrel 1 (yrd M 3 x2) 1 with
    | true => exact ⟨0, rfl, by omega, by omega⟩
    | false => exact ⟨2, rfl, by omega, by omega⟩
theorem f73_43t : ∃ v, f_73_43 N M x2 x3 = some v ∧ 0 ≤ v ∧ v ≤ 8 := by
  unfold f_73_43
  rw [ylet_eq]
  cases yrel 1 (ybin 26 (yrd M 16 (yrd M 9 x3)) (yrd M 4 x2)) 0 with
  | true => rw [cond_true]; exact f73_64t
  | false => rw [cond_false]; exact f73_64t
theorem f73_t : ∀ (k fu : Nat) (x3 : Int), k < fu → k ≤ 90 → ∃ v, f_73_14 N fu M x2 x3 (k : Int) = some v ∧ 0 ≤ v ∧ v ≤ 8
  | k, 0, _, h, _ => absurd h (by omega)
  | k, fu + 1, x3, h, h9 => by
    rw [f_73_14]
    cases yrel 1 (yrd M 7 x3) 12 with
    | true => exact f73_43t
    | false =>
      rw [cond_false, rel5 ⟨by omega, by omega⟩ ⟨by decide, by decide⟩]
      by_cases q : (k : Int) ≤ 0
      · rw [cond_dt q]; exact f73_43t
      · rw [cond_df q]
        cases yrel 0 (f_120 M x2 (yrd M 8 x3)) 0 with
        | true =>
          rw [cond_true, ylet_eq]
          obtain ⟨k, rfl⟩ : ∃ k', k = k' + 1 := ⟨k - 1, by omega⟩
          rw [show ((k + 1 : Nat) : Int) + -1 = (k : Int) by omega]
          exact f73_t k fu _ (by omega) (by omega)
        | false => exact ⟨1, rfl, by omega, by omega⟩
/-- a node's fault: it is found, and two of them say what they should -/
theorem f72_ok (hI : pI P) (hn : (n : Int) < P 1 7) (hr : r14 P n ∧ r15 P n) (hN : 91 ≤ N) : ∃ v, f_72 N P (n : Int) = some v ∧ (0 ≤ v ∧ v ≤ 8) ∧ (v = 0 → (P 7 n = 7 → P 15 n ≠ -1) ∧ (14 ≤ P 7 n ∧ P 7 n ≤ 17 → P 14 n ≠ -1)) := by
  have h90 := hI.1
  have s7 := nO_sm (hI.2.2.2.1 n hn)
  have r : ∀ y : Int, ysm y → yrel 0 (P 7 n) y = decide (P 7 n = y) := fun y hy => rel0 s7 hy
  have t21 : ∃ v, f_72_21 N P (n : Int) = some v ∧ (0 ≤ v ∧ v ≤ 8) ∧ (v = 0 → P 14 n ≠ -1) := by
    unfold f_72_21
    have h14 : ysm (P 14 n) := by
      rcases hr.1 with q | q
      · rw [q]; exact ⟨by decide, by decide⟩
      · exact ⟨by have := q.1; omega, by have := q.2.1; omega⟩
    rw [rd7 ⟨by decide, by decide⟩ (by omega), rel1 h14 ⟨by decide, by decide⟩]
    by_cases q : P 14 n = -1
    · rw [decide_eq_true q, Bool.not_true, cond_false]
      exact ⟨5, rfl, by omega, fun z => absurd z (by omega)⟩
    · rw [decide_eq_false q, Bool.not_false, cond_true]
      exact ⟨0, rfl, by omega, fun _ => q⟩
  have zero : ¬ P 7 n = 7 → ¬ (14 ≤ P 7 n ∧ P 7 n ≤ 17) → ∃ v, some (0 : Int) = some v ∧ (0 ≤ v ∧ v ≤ 8) ∧ (v = 0 → (P 7 n = 7 → P 15 n ≠ -1) ∧ (14 ≤ P 7 n ∧ P 7 n ≤ 17 → P 14 n ≠ -1)) := fun h1 h2 => ⟨0, rfl, by omega, fun _ => ⟨fun z => absurd z h1, fun z => absurd z h2⟩⟩
  unfold f_72
  rw [rd7 (a := 7) ⟨by decide, by decide⟩ (by omega), r 4 ⟨by decide, by decide⟩, r (4 + 1) ⟨by decide, by decide⟩, r (4 + 1 + 1) ⟨by decide, by decide⟩, r (4 + 1 + 1 + 1) ⟨by decide, by decide⟩, r (4 + 1 + 1 + 1 + 1) ⟨by decide, by decide⟩, r (4 + 1 + 1 + 1 + 1 + 1) ⟨by decide, by decide⟩, r (4 + 1 + 1 + 1 + 1 + 1 + 1) ⟨by decide, by decide⟩, r (4 + 1 + 1 + 1 + 1 + 1 + 1 + 1) ⟨by decide, by decide⟩, r (4 + 1 + 1 + 1 + 1 + 1 + 1 + 1 + 1) ⟨by decide, by decide⟩, r (4 + 1 + 1 + 1 + 1 + 1 + 1 + 1 + 1 + 1) ⟨by decide, by decide⟩]
  rw [r (4 + 1 + 1 + 1 + 1 + 1 + 1 + 1 + 1 + 1 + 1) ⟨by decide, by decide⟩, r (4 + 1 + 1 + 1 + 1 + 1 + 1 + 1 + 1 + 1 + 1 + 1) ⟨by decide, by decide⟩, r (4 + 1 + 1 + 1 + 1 + 1 + 1 + 1 + 1 + 1 + 1 + 1 + 1) ⟨by decide, by decide⟩, r (4 + 1 + 1 + 1 + 1 + 1 + 1 + 1 + 1 + 1 + 1 + 1 + 1 + 1) ⟨by decide, by decide⟩]
  have last : 14 ≤ P 7 n ∧ P 7 n ≤ 17 → ∃ v, f_72_21 N P (n : Int) = some v ∧ (0 ≤ v ∧ v ≤ 8) ∧ (v = 0 → (P 7 n = 7 → P 15 n ≠ -1) ∧ (14 ≤ P 7 n ∧ P 7 n ≤ 17 → P 14 n ≠ -1)) := fun h => by
    obtain ⟨v, t1, t2, t3⟩ := t21
    exact ⟨v, t1, t2, fun z => ⟨fun q => absurd q (by omega), fun _ => t3 z⟩⟩
  by_cases q4 : P 7 n = 4
  · rw [cond_dt q4]
    cases yrel 1 (yrd P 17 (yrd P 9 (n : Int))) 1 with
    | true => exact zero (by omega) (by omega)
    | false => exact ⟨7, rfl, by omega, fun z => absurd z (by omega)⟩
  rw [cond_df q4]
  by_cases q5 : P 7 n = 4 + 1
  · rw [cond_dt q5]; exact zero (by omega) (by omega)
  rw [cond_df q5]
  by_cases q6 : P 7 n = 4 + 1 + 1
  · rw [cond_dt q6]; exact zero (by omega) (by omega)
  rw [cond_df q6]
  by_cases q7 : P 7 n = 4 + 1 + 1 + 1
  · have h15 : ysm (P 15 n) := by
      rcases hr.2 with q | q
      · rw [q]; exact ⟨by decide, by decide⟩
      · exact ⟨by have := q.1; omega, by have := q.2.1; omega⟩
    rw [cond_dt q7, rd7 ⟨by decide, by decide⟩ (by omega), rel1 h15 ⟨by decide, by decide⟩]
    by_cases q : P 15 n = -1
    · rw [decide_eq_true q, Bool.not_true, cond_false]
      exact ⟨4, rfl, by omega, fun z => absurd z (by omega)⟩
    · rw [decide_eq_false q, Bool.not_false, cond_true]
      exact ⟨0, rfl, by omega, fun _ => ⟨fun _ => q, fun z => absurd z (by omega)⟩⟩
  rw [cond_df q7]
  by_cases q8 : P 7 n = 4 + 1 + 1 + 1 + 1
  · rw [cond_dt q8]; exact zero (by omega) (by omega)
  rw [cond_df q8]
  by_cases q9 : P 7 n = 4 + 1 + 1 + 1 + 1 + 1
  · rw [cond_dt q9]; exact zero (by omega) (by omega)
  rw [cond_df q9]
  by_cases q10 : P 7 n = 4 + 1 + 1 + 1 + 1 + 1 + 1
  · rw [cond_dt q10]; exact zero (by omega) (by omega)
  rw [cond_df q10]
  by_cases q11 : P 7 n = 4 + 1 + 1 + 1 + 1 + 1 + 1 + 1
  · rw [cond_dt q11]; exact zero (by omega) (by omega)
  rw [cond_df q11]
  by_cases q12 : P 7 n = 4 + 1 + 1 + 1 + 1 + 1 + 1 + 1 + 1
  · rw [cond_dt q12]
    have e73 : ∃ v, f_73 N P (n : Int) = some v ∧ 0 ≤ v ∧ v ≤ 8 := f73_t (N := N) 90 N (yrd P 11 (n : Int)) (by omega) (by omega)
    obtain ⟨v, e, h1⟩ := e73
    rw [e]
    exact ⟨v, rfl, h1, fun _ => ⟨fun z => absurd z (by omega), fun z => absurd z (by omega)⟩⟩
  rw [cond_df q12]
  by_cases q13 : P 7 n = 4 + 1 + 1 + 1 + 1 + 1 + 1 + 1 + 1 + 1
  · rw [cond_dt q13]; exact zero (by omega) (by omega)
  rw [cond_df q13]
  by_cases q14 : P 7 n = 4 + 1 + 1 + 1 + 1 + 1 + 1 + 1 + 1 + 1 + 1
  · rw [cond_dt q14]; exact last (by omega)
  rw [cond_df q14]
  by_cases q15 : P 7 n = 4 + 1 + 1 + 1 + 1 + 1 + 1 + 1 + 1 + 1 + 1 + 1
  · rw [cond_dt q15]; exact last (by omega)
  rw [cond_df q15]
  by_cases q16 : P 7 n = 4 + 1 + 1 + 1 + 1 + 1 + 1 + 1 + 1 + 1 + 1 + 1 + 1
  · rw [cond_dt q16]; exact last (by omega)
  rw [cond_df q16]
  by_cases q17 : P 7 n = 4 + 1 + 1 + 1 + 1 + 1 + 1 + 1 + 1 + 1 + 1 + 1 + 1 + 1
  · rw [cond_dt q17]; exact last (by omega)
  rw [cond_df q17]
  exact zero (by omega) (by omega)
/-- one more fault -/
theorem f71_ok (h : 0 ≤ M 18 4 ∧ M 18 4 ≤ 202) : (∀ b j, b ≠ 19 → ¬ (b = 18 ∧ j = 4) → f_71 M x1 x2 x3 x4 b j = M b j) ∧ f_71 M x1 x2 x3 x4 18 4 = (if M 18 4 < 202 then M 18 4 + 1 else M 18 4) := by
  unfold f_71
  rw [rel2 ⟨by omega, by omega⟩ ⟨by decide, by decide⟩]
  by_cases q : M 18 4 < 202
  · rw [cond_dt q, if_pos q]
    simp only [ylet_eq]
    refine ⟨fun b j hb hj => ?_, ?_⟩
    · rw [yU_ne hj, wr_c hb, wr_c hb, wr_c hb, wr_c hb]
    · rw [yU_at, wr_c (by decide), wr_c (by decide), wr_c (by decide), wr_c (by decide)]
  · rw [cond_df q, if_neg q]
    exact ⟨fun _ _ _ _ => rfl, rfl⟩
end FtA
