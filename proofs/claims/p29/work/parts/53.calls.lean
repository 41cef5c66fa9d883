/-! enter, leave, divide, link, throw what is held, suppress, print -/
section YCa
variable {M M' M'' : yM} {m a i b N : Nat} {v k : Int} {Y Y' : yM} {f : aF} {r : List aF} {mo de : Int} {X : aX} {fl ru : Bool} {bi bi' : Nat} {x y z nd q : Int}
theorem yU_same (h : M a i = v) : yU M a i v = M := by
  funext b j
  unfold yU
  by_cases e : b = a ∧ j = i
  · rw [if_pos e, e.1, e.2, h]
  · rw [if_neg e]
/-- a number of the machine's, written as put() does -/
theorem rel_wr {c : Nat} {fr : List aF} (hm : pM m) (h : rel M m mo de (fr, fl, bi, ru, Y)) (hc : c = 13 ∨ c = 14 ∨ c = 15 ∨ c = 16 ∨ c = 17) (h0 : 0 ≤ k) (h1 : k < (yln (m + c) : Int)) : rel (ywr M (m + c) k v) m mo de (fr, fl, bi', ru, yU Y c k.toNat v) := by
  rw [wr_in h0 h1]
  exact rel_Y h hc
theorem rel_rd {c : Nat} {fr : List aF} (hm : pM m) (h : rel M m mo de (fr, fl, bi, ru, Y)) (hc : c = 13 ∨ c = 14 ∨ c = 15 ∨ c = 16 ∨ c = 17) (h0 : 0 ≤ k) (h1 : k < (yln (m + c) : Int)) : yrd M (m + c) k = Y c k.toNat := by
  rw [rd_in h0 h1]
  obtain ⟨⟨c1, c2, c3, c4, c5, c6, c7, c8⟩, -⟩ := h
  dsimp only at c4 c5 c6 c7 c8
  rcases hc with rfl | rfl | rfl | rfl | rfl
  · rw [ln_13 hm] at h1; exact c4 _ (by omega)
  · rw [ln_14 hm] at h1; exact c5 _ (by omega)
  · rw [ln_15 hm] at h1; exact c6 _ (by omega)
  · rw [ln_16 hm] at h1; exact c7 _ (by omega)
  · rw [ln_17 hm] at h1; exact c8 _ (by omega)
/-- an operand -/
def a_opd (y : Int) : Prop := (-99 ≤ y ∧ y ≤ 99) ∨ (100 ≤ y ∧ y < 110)
theorem rel_val {fr : List aF} (hm : pM m) (h : rel M m mo de (fr, fl, bi, ru, Y)) (hy : a_opd y) : f_100 M m y = a_val Y y := by
  unfold f_100 a_val
  rcases hy with hy | hy
  · rw [rel2 ⟨by omega, by omega⟩ ⟨by decide, by decide⟩, cond_dt (by omega), if_neg (by omega)]
  · rw [rel2 ⟨by omega, by omega⟩ ⟨by decide, by decide⟩, cond_df (by omega), if_pos (by omega)]
    exact rel_rd hm h (Or.inr (Or.inl rfl)) (by omega) (by rw [ln_14 hm]; omega)
theorem rst_85 : rst M (f_85 M m v) m := by
  unfold f_85
  rw [ylet_eq, ylet_eq]
  exact rst_trans (rst_U (by omega)) (rst_U (by omega))
/-- a frame more -/
theorem rel_push {fr : List aF} {q0 : Nat} (h : rel M m mo de (fr, fl, bi, ru, Y)) : rel (yU (yU (yU (yU (yU M (m + 20 + 3 * fr.length) 0 (q0 : Int)) (m + 20 + 3 * fr.length) 1 0) (m + 20 + 3 * fr.length) 2 v) (m + 20 + 3 * fr.length) 3 nd) m 12 ((fr.length : Int) + 1)) m mo de ((q0, 0, v, nd, (fun _ => none), (fun _ => none)) :: fr, fl, bi', ru, Y) := by
  obtain ⟨a1, a2, a3, a4, a5, a6, a7⟩ := h
  dsimp only at a1 a2 a3 a6 a7
  refine ⟨rY_out (rY_out (rY_out (rY_out (rY_out a1 (by omega) (by omega)) (by omega) (by omega)) (by omega) (by omega)) (by omega) (by omega)) (by omega) (by omega), ⟨⟨?_, ?_, ?_, ?_, (fun _ _ _ hw => by cases hw), (fun _ _ _ hw => by cases hw)⟩, ?_⟩, ?_, ?_, ?_, ?_, ?_⟩
  · exact (yU_c (by omega)).trans ((yU_i (by decide)).trans ((yU_i (by decide)).trans ((yU_i (by decide)).trans yU_at)))
  · exact (yU_c (by omega)).trans ((yU_i (by decide)).trans ((yU_i (by decide)).trans yU_at))
  · exact (yU_c (by omega)).trans ((yU_i (by decide)).trans yU_at)
  · exact (yU_c (by omega)).trans yU_at
  · exact rFs_out (rFs_out (rFs_out (rFs_out (rFs_out a2 (by omega)) (by omega)) (by omega)) (by omega)) (by omega)
  · exact yU_at
  · exact (yU_i (by decide)).trans ((yU_c (by omega)).trans ((yU_c (by omega)).trans ((yU_c (by omega)).trans ((yU_c (by omega)).trans a4))))
  · exact (yU_i (by decide)).trans ((yU_c (by omega)).trans ((yU_c (by omega)).trans ((yU_c (by omega)).trans ((yU_c (by omega)).trans a5))))
  · exact (yU_i (by decide)).trans ((yU_c (by omega)).trans ((yU_c (by omega)).trans ((yU_c (by omega)).trans ((yU_c (by omega)).trans a6))))
  · exact (yU_i (by decide)).trans ((yU_c (by omega)).trans ((yU_c (by omega)).trans ((yU_c (by omega)).trans ((yU_c (by omega)).trans a7))))
/-- enter -/
theorem rel_84 (hm : pM m) (h : rel M m mo de (f :: r, false, bi, true, Y)) (h0 : 0 ≤ Y 1 0) (hs : Y 1 0 ≤ 2000000000) (hl : (r.length : Int) + 1 ≤ de) (hde : de ≤ 30) (hN : 40 ≤ N) (hq : 0 ≤ q ∧ q < 8) (h7 : 0 ≤ Y 13 7 ∧ Y 13 7 ≤ de) (hnd : 0 ≤ nd ∧ nd < M 1 7) : ∃ M', f_84 N M m q v nd = some M' ∧ rel M' m mo de (a_enter de f r Y q v nd) ∧ rst M M' m := by
  have ed : M m 12 = ((f :: r).length : Int) := h.2.2.1
  rw [List.length_cons] at ed
  have e14 : M m 14 = de := h.2.2.2.2.1
  unfold f_84 a_enter
  rw [ed, e14, rel2 ⟨by omega, by omega⟩ ⟨by decide, by decide⟩, cond_df (by omega), rel3 ⟨by omega, by omega⟩ ⟨by omega, by omega⟩]
  by_cases hd : de ≤ (r.length : Int) + 1
  · rw [cond_dt (by omega), if_pos hd]
    obtain ⟨M', g1, g2, g3⟩ := rel_95 (bi' := 0) (x := 1) (y := 0) (z := -1) (nd := nd) hm h h0 hs (by rw [List.length_cons]; omega) hN hnd
    refine ⟨M', ?_, g2, g3⟩
    unfold f_84_14
    rw [g1]; rfl
  · rw [cond_df (by omega), if_neg hd, rel2 ⟨by omega, by omega⟩ ⟨by decide, by decide⟩, cond_dt (by omega)]
    unfold yox
    rw [yw_of (by omega) (by omega), if_pos (by omega)]
    dsimp only
    rw [show ((r.length + 1 : Nat) : Int).toNat = (f :: r).length by rw [Int.toNat_natCast, List.length_cons]]
    rw [ylet_eq, ylet_eq, ylet_eq, ylet_eq, ylet_eq, ylet_eq, ylet_eq]
    have c12 : yU (yU (yU (yU M (m + 20 + 3 * (f :: r).length) 0 q) (m + 20 + 3 * (f :: r).length) 1 0) (m + 20 + 3 * (f :: r).length) 2 v) (m + 20 + 3 * (f :: r).length) 3 nd m 12 = ((f :: r).length : Int) := by
      rw [yU_c (by omega), yU_c (by omega), yU_c (by omega), yU_c (by omega), ed, List.length_cons]
    rw [c12]
    have p1 := rel_push (bi' := 0) (v := v) (nd := nd) (q0 := q.toNat) h
    rw [Int.toNat_of_nonneg hq.1] at p1
    generalize hM1 : yU (yU (yU (yU (yU M (m + 20 + 3 * (f :: r).length) 0 q) (m + 20 + 3 * (f :: r).length) 1 0) (m + 20 + 3 * (f :: r).length) 2 v) (m + 20 + 3 * (f :: r).length) 3 nd) m 12 (((f :: r).length : Int) + 1) = M1 at p1 ⊢
    have r1 : rst M M1 m := by
      rw [← hM1]
      have hb : (m ≤ m + 20 + 3 * (f :: r).length ∧ m + 20 + 3 * (f :: r).length < m + 110) ∧ m + 20 + 3 * (f :: r).length ≠ m + 1 ∧ (m + 20 + 3 * (f :: r).length < m + 6 ∨ m + 12 < m + 20 + 3 * (f :: r).length) := by rw [List.length_cons]; omega
      exact rst_trans (rst_U hb) (rst_trans (rst_U hb) (rst_trans (rst_U hb) (rst_trans (rst_U hb) (rst_U (by omega)))))
    have d5 := rel_rd (k := 5) hm p1 (Or.inl rfl) (by decide) (by rw [ln_13 hm]; decide)
    rw [d5]
    have p2 := rel_wr (k := 5) (v := Y 13 (5 : Int).toNat + 1) (bi' := 0) hm p1 (Or.inl rfl) (by decide) (by rw [ln_13 hm]; decide)
    generalize hM2 : ywr M1 (m + 13) 5 (Y 13 (5 : Int).toNat + 1) = M2 at p2 ⊢
    have r2 : rst M1 M2 m := by rw [← hM2]; exact rst_wr (by omega)
    have d6 := rel_rd (k := q) hm p2 (Or.inr (Or.inr (Or.inr (Or.inr rfl)))) hq.1 (by rw [ln_17 hm]; omega)
    rw [d6]
    have p3 := rel_wr (k := q) (v := yU Y 13 (5 : Int).toNat (Y 13 (5 : Int).toNat + 1) 17 q.toNat + 1) (bi' := 0) hm p2 (Or.inr (Or.inr (Or.inr (Or.inr rfl)))) hq.1 (by rw [ln_17 hm]; omega)
    generalize hM3 : ywr M2 (m + 17) q (yU Y 13 (5 : Int).toNat (Y 13 (5 : Int).toNat + 1) 17 q.toNat + 1) = M3 at p3 ⊢
    have r3 : rst M2 M3 m := by rw [← hM3]; exact rst_wr (by omega)
    have d7 := rel_rd (k := 7) hm p3 (Or.inl rfl) (by decide) (by rw [ln_13 hm]; decide)
    rw [d7]
    have eq : yU Y 13 (5 : Int).toNat (Y 13 (5 : Int).toNat + 1) 17 q.toNat = Y 17 q.toNat := yU_c (by decide)
    rw [eq] at p3 ⊢
    have e7 : yU (yU Y 13 (5 : Int).toNat (Y 13 (5 : Int).toNat + 1)) 17 q.toNat (Y 17 q.toNat + 1) 13 (7 : Int).toNat = Y 13 7 := (yU_c (by decide)).trans (yU_i (by decide))
    have e12 : M3 m 12 = (r.length : Int) + 2 := by
      have e := p3.2.2.1
      dsimp only at e
      rw [List.length_cons, List.length_cons] at e
      omega
    rw [e7, e12, rel5 ⟨by omega, by omega⟩ ⟨by omega, by omega⟩]
    have eY : a_enterY Y q.toNat ((r.length : Int) + 2) = yU (yU (yU Y 13 (5 : Int).toNat (Y 13 (5 : Int).toNat + 1)) 17 q.toNat (Y 17 q.toNat + 1)) 13 7 (if (r.length : Int) + 2 ≤ Y 13 7 then Y 13 7 else (r.length : Int) + 2) := rfl
    rw [eY]
    by_cases hc : (r.length : Int) + 2 ≤ Y 13 7
    · rw [cond_dt hc, if_pos hc, yU_same (i := 7) e7]
      exact ⟨M3, rfl, p3, rst_trans r1 (rst_trans r2 r3)⟩
    · rw [cond_df hc, if_neg hc, ylet_eq]
      exact ⟨_, rfl, rel_wr (k := 7) (bi' := 0) hm p3 (Or.inl rfl) (by decide) (by rw [ln_13 hm]; decide), rst_trans r1 (rst_trans r2 (rst_trans r3 (rst_wr (by omega))))⟩
end YCa
