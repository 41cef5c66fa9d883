/-! what the class's machine does, beside the abstract one: parts -/
/-- the same but for what the relation doesn't look at -/
def eqv (M M' : yM) (m : Nat) : Prop := ∀ a j, ¬ (m + 4 ≤ a ∧ a ≤ m + 12) → a ≠ m + 18 → ¬ (a = m ∧ j = 10) → M' a j = M a j
section YOp
variable {M M' M'' : yM} {m a i b N : Nat} {v k : Int} {Y Y' : yM} {f : aF} {r : List aF} {mo de : Int} {X : aX} {fl ru : Bool} {bi bi' : Nat} {x y z nd : Int}
theorem eqv_refl : eqv M M m := fun _ _ _ _ _ => rfl
theorem eqv_trans (h : eqv M M' m) (h' : eqv M' M'' m) : eqv M M'' m := fun a j h1 h2 h3 => (h' a j h1 h2 h3).trans (h a j h1 h2 h3)
theorem eqv_U (h : (m + 4 ≤ a ∧ a ≤ m + 12) ∨ a = m + 18 ∨ (a = m ∧ i = 10)) : eqv M (yU M a i v) m := fun b j h1 h2 h3 => yU_ne (fun q => by
  obtain ⟨rfl, rfl⟩ := q
  rcases h with h | h | h
  · exact h1 h
  · exact h2 h
  · exact h3 h)
theorem eqv_wr (h : (m + 4 ≤ a ∧ a ≤ m + 12) ∨ a = m + 18) : eqv M (ywr M a k v) m := by
  unfold ywr
  split
  · exact eqv_U (by omega)
  · exact eqv_refl
theorem eqv_rY (h : eqv M M' m) (hr : rY M m Y) : rY M' m Y := by
  obtain ⟨a1, a2, a3, a4, a5, a6, a7, a8⟩ := hr
  refine ⟨fun q => (h m 16 (by omega) (by omega) (by omega)).trans (a1 q), fun j hj => (h _ _ (by omega) (by omega) (by omega)).trans (a2 j hj), fun e he hl => ⟨(h _ _ (by omega) (by omega) (by omega)).trans (a3 e he hl).1, (h _ _ (by omega) (by omega) (by omega)).trans (a3 e he hl).2⟩, fun j hj => (h _ _ (by omega) (by omega) (by omega)).trans (a4 j hj), fun j hj => (h _ _ (by omega) (by omega) (by omega)).trans (a5 j hj), fun j hj => (h _ _ (by omega) (by omega) (by omega)).trans (a6 j hj), fun j hj => (h _ _ (by omega) (by omega) (by omega)).trans (a7 j hj), fun j hj => (h _ _ (by omega) (by omega) (by omega)).trans (a8 j hj)⟩
theorem eqv_rF (h : eqv M M' m) (hb : m + 20 ≤ b) (hr : rF M b f) : rF M' b f := by
  obtain ⟨a1, a2, a3, a4, a5, a6⟩ := hr
  exact ⟨(h _ _ (by omega) (by omega) (by omega)).trans a1, (h _ _ (by omega) (by omega) (by omega)).trans a2, (h _ _ (by omega) (by omega) (by omega)).trans a3, (h _ _ (by omega) (by omega) (by omega)).trans a4, fun x hx w hw => (h _ _ (by omega) (by omega) (by omega)).trans (a5 x hx w hw), fun x hx w hw => (h _ _ (by omega) (by omega) (by omega)).trans (a6 x hx w hw)⟩
theorem eqv_rFs (h : eqv M M' m) : ∀ {r : List aF}, rFs M m r → rFs M' m r
  | [], _ => trivial
  | _ :: _, hr => ⟨eqv_rF h (by omega) hr.1, eqv_rFs h hr.2⟩
theorem eqv_rel (h : eqv M M' m) (hr : rel M m mo de X) : rel M' m mo de X := by
  obtain ⟨a1, a2, a3, a4, a5, a6, a7⟩ := hr
  exact ⟨eqv_rY h a1, eqv_rFs h a2, (h _ _ (by omega) (by omega) (by omega)).trans a3, (h _ _ (by omega) (by omega) (by omega)).trans a4, (h _ _ (by omega) (by omega) (by omega)).trans a5, (h _ _ (by omega) (by omega) (by omega)).trans a6, (h _ _ (by omega) (by omega) (by omega)).trans a7⟩
theorem eqv_out (h : eqv M M' m) : ∀ a i, ¬ (m ≤ a ∧ a < m + 110) → M' a i = M a i := fun a j hn => h a j (by omega) (by omega) (by omega)
/-- steps of the relation -/
theorem rel_place {j : Nat} (h : rel M m mo de (f :: r, fl, bi, ru, Y)) : rel (yU M (m + 20 + 3 * r.length) 1 (j : Int)) m mo de ((f.1, j, f.2.2) :: r, fl, bi', ru, Y) := by
  obtain ⟨a1, a2, a3, a4, a5, a6, a7⟩ := h
  exact ⟨rY_out a1 (by omega) (by omega), ⟨rF_place a2.1, rFs_out a2.2 (by omega)⟩, (yU_c (by omega)).trans a3, (yU_c (by omega)).trans a4, (yU_c (by omega)).trans a5, (yU_c (by omega)).trans a6, (yU_c (by omega)).trans a7⟩
theorem rel_caught {j : Nat} (h : rel M m mo de (f :: r, fl, bi, ru, Y)) : rel (yU M (m + 20 + 3 * r.length + 1) j v) m mo de ((f.1, f.2.1, f.2.2.1, f.2.2.2.1, a_upd f.2.2.2.2.1 j v, f.2.2.2.2.2) :: r, fl, bi', ru, Y) := by
  obtain ⟨a1, a2, a3, a4, a5, a6, a7⟩ := h
  exact ⟨rY_out a1 (by omega) (by omega), ⟨rF_caught a2.1, rFs_out a2.2 (by omega)⟩, (yU_c (by omega)).trans a3, (yU_c (by omega)).trans a4, (yU_c (by omega)).trans a5, (yU_c (by omega)).trans a6, (yU_c (by omega)).trans a7⟩
theorem rel_held {j : Nat} (h : rel M m mo de (f :: r, fl, bi, ru, Y)) : rel (yU M (m + 20 + 3 * r.length + 2) j v) m mo de ((f.1, f.2.1, f.2.2.1, f.2.2.2.1, f.2.2.2.2.1, a_upd f.2.2.2.2.2 j v) :: r, fl, bi', ru, Y) := by
  obtain ⟨a1, a2, a3, a4, a5, a6, a7⟩ := h
  exact ⟨rY_out a1 (by omega) (by omega), ⟨rF_held a2.1, rFs_out a2.2 (by omega)⟩, (yU_c (by omega)).trans a3, (yU_c (by omega)).trans a4, (yU_c (by omega)).trans a5, (yU_c (by omega)).trans a6, (yU_c (by omega)).trans a7⟩
theorem rel_Y {c j : Nat} {fr : List aF} (h : rel M m mo de (fr, fl, bi, ru, Y)) (hc : c = 13 ∨ c = 14 ∨ c = 15 ∨ c = 16 ∨ c = 17) : rel (yU M (m + c) j v) m mo de (fr, fl, bi', ru, yU Y c j v) := by
  obtain ⟨a1, a2, a3, a4, a5, a6, a7⟩ := h
  exact ⟨rY_U a1 hc, rFs_out a2 (by omega), (yU_c (by omega)).trans a3, (yU_c (by omega)).trans a4, (yU_c (by omega)).trans a5, (yU_c (by omega)).trans a6, (yU_c (by omega)).trans a7⟩
theorem rel_run {fr : List aF} (h : rel M m mo de (fr, fl, bi, ru, Y)) (ru' : Bool) : rel (yU M m 15 (b2i ru')) m mo de (fr, fl, bi', ru', Y) := by
  obtain ⟨a1, a2, a3, a4, a5, a6, a7⟩ := h
  exact ⟨rY_out a1 (by omega) (by omega), rFs_out a2 (by omega), (yU_i (by decide)).trans a3, (yU_i (by decide)).trans a4, (yU_i (by decide)).trans a5, yU_at, (yU_i (by decide)).trans a7⟩
theorem rel_flag {fr : List aF} (h : rel M m mo de (fr, fl, bi, ru, Y)) (fl' : Bool) : rel (yU M m 17 (b2i fl')) m mo de (fr, fl', bi', ru, Y) := by
  obtain ⟨a1, a2, a3, a4, a5, a6, a7⟩ := h
  exact ⟨rY_out a1 (by omega) (by omega), rFs_out a2 (by omega), (yU_i (by decide)).trans a3, (yU_i (by decide)).trans a4, (yU_i (by decide)).trans a5, (yU_i (by decide)).trans a6, yU_at⟩
theorem rel_bi {fr : List aF} (h : rel M m mo de (fr, fl, bi, ru, Y)) : rel M m mo de (fr, fl, bi', ru, Y) := h
/-- fly -/
theorem rY_fly (h : rY M m Y) : rY (yU M m 16 v) m (a_fly Y v) := by
  obtain ⟨c1, c2, c3, c4, c5, c6, c7, c8⟩ := h
  have en : ∀ b j, b ≠ 0 → a_fly Y v b j = Y b j := fun b j hb => yU_c hb
  refine ⟨fun _ => yU_at.trans (show v = a_fly Y v 0 16 from yU_at.symm), fun j hj => ?_, fun e he hl => ?_, fun j hj => ?_, fun j hj => ?_, fun j hj => ?_, fun j hj => ?_, fun j hj => ?_⟩
  · rw [yU_c (by omega), en _ _ (by decide)]; exact c2 j hj
  · rw [en _ _ (by decide)] at hl
    rw [yU_c (by omega), yU_c (by omega), en _ _ (by decide), en _ _ (by decide)]; exact c3 e he hl
  · rw [yU_c (by omega), en _ _ (by decide)]; exact c4 j hj
  · rw [yU_c (by omega), en _ _ (by decide)]; exact c5 j hj
  · rw [yU_c (by omega), en _ _ (by decide)]; exact c6 j hj
  · rw [yU_c (by omega), en _ _ (by decide)]; exact c7 j hj
  · rw [yU_c (by omega), en _ _ (by decide)]; exact c8 j hj
theorem rel_fly {fr : List aF} (h : rel M m mo de (fr, fl, bi, ru, Y)) : rel (f_85 M m v) m mo de (fr, true, bi', ru, a_fly Y v) := by
  unfold f_85
  rw [ylet_eq, ylet_eq]
  obtain ⟨a1, a2, a3, a4, a5, a6, a7⟩ := h
  have e1 : rel (yU M m 16 v) m mo de (fr, fl, bi, ru, a_fly Y v) := ⟨rY_fly a1, rFs_out a2 (by omega), (yU_i (by decide)).trans a3, (yU_i (by decide)).trans a4, (yU_i (by decide)).trans a5, (yU_i (by decide)).trans a6, (yU_i (by decide)).trans a7⟩
  exact rel_flag e1 true
/-- a trace -/
theorem eqv_143 : eqv M (f_143 M (m + 1) x y) m := by
  unfold f_143
  simp only [ylet_eq]
  cases yrel 3 x 40 with
  | true => exact eqv_refl
  | false =>
    cases yrel 3 (yrd M (m + 1 + 5) x) 6 with
    | true => exact eqv_refl
    | false => exact eqv_trans (eqv_wr (by omega)) (eqv_wr (by omega))
theorem l_95 : ∀ (n : Nat) (M : yM) (y : Int), y < 30 → y + 1 ≤ (n : Int) ∧ 0 < n → -1 ≤ y → ∃ M', f_95_17 N n M m x y = some (f_85 M' m x) ∧ eqv M M' m
  | 0, M, y, h1, h2, h3 => absurd h2.2 (Nat.lt_irrefl 0)
  | n + 1, M, y, h1, h2, h3 => by
    rw [f_95_17]
    by_cases h0 : y ≤ 0
    · rw [rel5 ⟨by omega, by omega⟩ ⟨by decide, by decide⟩, cond_dt h0]
      exact ⟨M, rfl, eqv_refl⟩
    · rw [rel5 ⟨by omega, by omega⟩ ⟨by decide, by decide⟩, cond_df h0, rel3 ⟨by omega, by omega⟩ ⟨by decide, by decide⟩, cond_df (by omega)]
      unfold yox
      rw [yw_of (by omega) (by omega), if_pos (by omega)]
      dsimp only
      rw [ylet_eq]
      obtain ⟨M', e1, e2⟩ := l_95 n (f_143 M (m + 1) x (M (m + 20 + 3 * y.toNat) 3)) (y + (-1)) (by omega) (by omega) (by omega)
      exact ⟨M', e1, eqv_trans eqv_143 e2⟩
end YOp
section YOq
variable {M M' M'' : yM} {m a i b N : Nat} {v k : Int} {Y Y' : yM} {f : aF} {r : List aF} {mo de : Int} {X : aX} {fl ru : Bool} {bi bi' : Nat} {x y z nd : Int}
/-- an exception is made -/
theorem a_new_o {b j : Nat} (h0 : b ≠ 0) (h1 : b ≠ 1) (h2 : b ≠ 2) (h3 : b ≠ 3) : a_new Y x z b j = Y b j := by
  unfold a_new a_fly
  rw [yU_c h0, yU_c h1, yU_c h3, yU_c h2]
theorem a_new_3 {j : Nat} : a_new Y x z 3 j = if j = (Y 1 0).toNat then z else Y 3 j := by
  unfold a_new a_fly
  rw [yU_c (by decide), yU_c (by decide)]
  by_cases hx : j = (Y 1 0).toNat
  · rw [if_pos hx, hx, yU_at]
  · rw [if_neg hx, yU_i hx, yU_c (by decide)]
theorem a_new_2' {j : Nat} : a_new Y x z 2 j = if j = (Y 1 0).toNat then x else Y 2 j := by
  unfold a_new a_fly
  rw [yU_c (by decide), yU_c (by decide), yU_c (by decide)]
  by_cases hx : j = (Y 1 0).toNat
  · rw [if_pos hx, hx, yU_at]
  · rw [if_neg hx, yU_i hx]
theorem a_new_11 : a_new Y x z 1 1 = Y 1 1 := by
  unfold a_new a_fly
  rw [yU_c (by decide), yU_i (by decide), yU_c (by decide), yU_c (by decide)]
theorem wr_c {j : Nat} (hb : b ≠ a) : ywr M a k v b j = M b j := by
  unfold ywr
  split
  · exact yU_c hb
  · rfl
theorem rst_wr (ha : (m ≤ a ∧ a < m + 110) ∧ a ≠ m + 1 ∧ (a < m + 6 ∨ m + 12 < a)) : rst M (ywr M a k v) m := by
  unfold ywr
  split
  · exact rst_U ha
  · exact rst_refl
/-- the cells that make() writes and that are looked at -/
def r_mk (M : yM) (m : Nat) (e x z : Int) : yM := ywr (ywr (yU M (m + 1) 0 (e + 1)) (m + 1 + 1) e x) (m + 1 + 2) e z
theorem mk_c {e : Int} {j : Nat} (h1 : b ≠ m + 1) (h2 : b ≠ m + 2) (h3 : b ≠ m + 3) : r_mk M m e x z b j = M b j := by
  unfold r_mk
  rw [wr_c (by omega), wr_c (by omega), yU_c h1]
theorem mk_1 {e : Int} {j : Nat} : r_mk M m e x z (m + 1) j = yU M (m + 1) 0 (e + 1) (m + 1) j := by
  unfold r_mk
  rw [wr_c (by omega), wr_c (by omega)]
theorem out_mk {e : Int} : ∀ a i, ¬ (m ≤ a ∧ a < m + 110) → r_mk M m e x z a i = M a i := fun a i hn => mk_c (by omega) (by omega) (by omega)
theorem rFs_mk {e : Int} : ∀ {fr : List aF}, rFs M m fr → rFs (r_mk M m e x z) m fr
  | [], _ => trivial
  | _ :: _, hr => by
    obtain ⟨⟨d1, d2, d3, d4, d5, d6⟩, hr2⟩ := hr
    exact ⟨⟨(mk_c (by omega) (by omega) (by omega)).trans d1, (mk_c (by omega) (by omega) (by omega)).trans d2, (mk_c (by omega) (by omega) (by omega)).trans d3, (mk_c (by omega) (by omega) (by omega)).trans d4, fun q hq w hw => (mk_c (by omega) (by omega) (by omega)).trans (d5 q hq w hw), fun q hq w hw => (mk_c (by omega) (by omega) (by omega)).trans (d6 q hq w hw)⟩, rFs_mk hr2⟩
theorem rY_new (hm : pM m) (h : rY M m Y) (h0 : 0 ≤ Y 1 0) (hs : Y 1 0 ≤ 2000000000) : rY (yU (yU (r_mk M m (Y 1 0) x z) m 16 (Y 1 0)) m 17 1) m (a_new Y x z) := by
  obtain ⟨c1, c2, c3, c4, c5, c6, c7, c8⟩ := h
  have e1 : a_new Y x z 1 0 = Y 1 0 + 1 := new_1
  refine ⟨fun _ => ?_, fun j hj => ?_, fun e he hl => ?_, fun j hj => ?_, fun j hj => ?_, fun j hj => ?_, fun j hj => ?_, fun j hj => ?_⟩
  · rw [a_new_16]
    exact (yU_i (by decide)).trans yU_at
  · rw [yU_c (by omega), yU_c (by omega), mk_1]
    rcases (show j = 0 ∨ j = 1 by omega) with rfl | rfl
    · rw [yU_at, e1]
    · rw [yU_i (by decide), a_new_11]; exact c2 1 (by decide)
  · rw [e1] at hl
    rw [yU_c (by omega), yU_c (by omega), yU_c (by omega), yU_c (by omega), a_new_2', a_new_3]
    unfold r_mk
    by_cases hb : Y 1 0 < 3000
    · rw [wr_in (a := m + 1 + 1) h0 (by rw [ln_2 hm]; omega), wr_in (a := m + 1 + 2) h0 (by rw [ln_3 hm]; omega)]
      by_cases hq : e = (Y 1 0).toNat
      · rw [if_pos hq, if_pos hq, hq]
        exact ⟨(yU_c (by omega)).trans yU_at, yU_at⟩
      · rw [if_neg hq, if_neg hq]
        have := c3 e he (by omega)
        exact ⟨((yU_c (by omega)).trans ((yU_i hq).trans (yU_c (by omega)))).trans this.1, ((yU_i hq).trans ((yU_c (by omega)).trans (yU_c (by omega)))).trans this.2⟩
    · rw [wr_out (a := m + 1 + 1) ⟨by omega, by omega⟩ (Or.inr (by rw [ln_2 hm]; omega)), wr_out (a := m + 1 + 2) ⟨by omega, by omega⟩ (Or.inr (by rw [ln_3 hm]; omega))]
      have hq : ¬ e = (Y 1 0).toNat := by omega
      rw [if_neg hq, if_neg hq, yU_c (by omega), yU_c (by omega)]
      exact c3 e he (by omega)
  · rw [yU_c (by omega), yU_c (by omega), mk_c (by omega) (by omega) (by omega), a_new_o (by decide) (by decide) (by decide) (by decide)]; exact c4 j hj
  · rw [yU_c (by omega), yU_c (by omega), mk_c (by omega) (by omega) (by omega), a_new_o (by decide) (by decide) (by decide) (by decide)]; exact c5 j hj
  · rw [yU_c (by omega), yU_c (by omega), mk_c (by omega) (by omega) (by omega), a_new_o (by decide) (by decide) (by decide) (by decide)]; exact c6 j hj
  · rw [yU_c (by omega), yU_c (by omega), mk_c (by omega) (by omega) (by omega), a_new_o (by decide) (by decide) (by decide) (by decide)]; exact c7 j hj
  · rw [yU_c (by omega), yU_c (by omega), mk_c (by omega) (by omega) (by omega), a_new_o (by decide) (by decide) (by decide) (by decide)]; exact c8 j hj
theorem rel_new {fr : List aF} (hm : pM m) (h : rel M m mo de (fr, fl, bi, ru, Y)) (h0 : 0 ≤ Y 1 0) (hs : Y 1 0 ≤ 2000000000) : rel (f_85 (r_mk M m (Y 1 0) x z) m (Y 1 0)) m mo de (fr, true, bi', ru, a_new Y x z) := by
  obtain ⟨a1, a2, a3, a4, a5, a6, a7⟩ := h
  unfold f_85
  rw [ylet_eq, ylet_eq]
  exact ⟨rY_new hm a1 h0 hs, rFs_out (rFs_out (rFs_mk a2) (by omega)) (by omega), ((yU_i (by decide)).trans ((yU_i (by decide)).trans (mk_c (by omega) (by omega) (by omega)))).trans a3, ((yU_i (by decide)).trans ((yU_i (by decide)).trans (mk_c (by omega) (by omega) (by omega)))).trans a4, ((yU_i (by decide)).trans ((yU_i (by decide)).trans (mk_c (by omega) (by omega) (by omega)))).trans a5, ((yU_i (by decide)).trans ((yU_i (by decide)).trans (mk_c (by omega) (by omega) (by omega)))).trans a6, yU_at⟩
/-- flying beside what isn't looked at -/
theorem eqv_85 (h : eqv M M' m) : eqv (f_85 M m v) (f_85 M' m v) m := by
  unfold f_85
  rw [ylet_eq, ylet_eq, ylet_eq, ylet_eq]
  intro a j h1 h2 h3
  unfold yU
  by_cases e : a = m ∧ j = 17
  · rw [if_pos e, if_pos e]
  · rw [if_neg e, if_neg e]
    by_cases e2 : a = m ∧ j = 16
    · rw [if_pos e2, if_pos e2]
    · rw [if_neg e2, if_neg e2]; exact h a j h1 h2 h3
/-- a trace keeps the rest sound -/
theorem J_143 (hm : pM m) (h : rJ M m) (h0 : 0 ≤ x) (hx : x < M (m + 1) 0) (hs : M (m + 1) 0 ≤ 2000000001) : rJ (f_143 M (m + 1) x y) m := by
  have hmm : m = 196 ∨ m = 306 := hm
  unfold f_143
  rw [ylet_eq, rel3 ⟨by omega, by omega⟩ ⟨by decide, by decide⟩]
  by_cases h40 : 40 ≤ x
  · rw [cond_dt h40]; exact h
  · rw [cond_df h40, rd_in h0 (by rw [ln_6 hm]; omega)]
    obtain ⟨a1, a2, a3, a4, a5, a6⟩ := h
    obtain ⟨⟨c1, c2⟩, c3, c4⟩ := a3 x.toNat (by omega) (by omega)
    have c1 : 1 ≤ M (m + 1 + 5) x.toNat := c1
    have c2 : M (m + 1 + 5) x.toNat ≤ 6 := c2
    rw [rel3 ⟨by omega, by omega⟩ ⟨by decide, by decide⟩]
    by_cases h6 : 6 ≤ M (m + 1 + 5) x.toNat
    · rw [cond_dt h6]
      exact ⟨a1, a2, a3, a4, a5, a6⟩
    · rw [cond_df h6, ylet_eq, ylet_eq, wr_in (a := m + 1 + 6) (by omega) (by rw [ln_7 hm]; omega), wr_in (a := m + 1 + 5) h0 (by rw [ln_6 hm]; omega)]
      have en : ∀ b j, b ≠ m + 6 → b ≠ m + 7 → yU (yU M (m + 1 + 6) (x * 6 + M (m + 1 + 5) x.toNat).toNat y) (m + 1 + 5) x.toNat (M (m + 1 + 5) x.toNat + 1) b j = M b j := fun b j h1 h2 => by
        rw [yU_c (by omega), yU_c (by omega)]
      have e1 : ∀ j, yU (yU M (m + 1 + 6) (x * 6 + M (m + 1 + 5) x.toNat).toNat y) (m + 1 + 5) x.toNat (M (m + 1 + 5) x.toNat + 1) (m + 1) j = M (m + 1) j := fun j => en _ j (by omega) (by omega)
      have e8 : ∀ j, yU (yU M (m + 1 + 6) (x * 6 + M (m + 1 + 5) x.toNat).toNat y) (m + 1 + 5) x.toNat (M (m + 1 + 5) x.toNat + 1) (m + 8) j = M (m + 8) j := fun j => en _ j (by omega) (by omega)
      have es : r_sum (yU (yU M (m + 1 + 6) (x * 6 + M (m + 1 + 5) x.toNat).toNat y) (m + 1 + 5) x.toNat (M (m + 1 + 5) x.toNat + 1)) m = r_sum M m := sum_same (fun i _ => by rw [e1, e8])
      refine ⟨by rw [e1]; exact a1, by rw [e1]; exact a2, fun k hk hl => ?_, by rw [es, e1]; exact a4, fun h => ?_, fun h => ?_⟩
      · rw [e1] at hl
        obtain ⟨d1, d2, d3⟩ := a3 k hk hl
        rw [e8, en 1 7 (by omega) (by omega)]
        refine ⟨?_, ?_, d3⟩
        · by_cases hq : k = x.toNat
          · rw [hq, show m + 6 = m + 1 + 5 by omega, yU_at]; omega
          · rw [yU_ne (fun q => hq q.2), yU_c (by omega)]; exact d1
        · rw [yU_c (by omega), yU_ne (fun q => by have := q.2; omega)]; exact d2
      · rw [e1] at h
        rw [es, e1]; exact a5 h
      · rw [e1] at h
        obtain ⟨ow, li, hc⟩ := a6 h
        refine ⟨ow, li, fun k hk hl => ?_⟩
        rw [e1] at hl
        obtain ⟨b1, b2, b3, b4⟩ := hc k hk hl
        unfold r_ch
        rw [e8, en (m + 9) _ (by omega) (by omega), en (m + 10) _ (by omega) (by omega)]
        refine ⟨b1, fun i hi => ?_, fun i hi => ?_, b4⟩
        · rw [en (m + 12) _ (by omega) (by omega)]; exact b2 i hi
        · rw [en (m + 11) _ (by omega) (by omega), e1]; exact b3 i hi
theorem l_95J (hm : pM m) : ∀ (n : Nat) (M : yM) (y : Int), y < 30 → y + 1 ≤ (n : Int) ∧ 0 < n → -1 ≤ y → 0 ≤ x → x < M (m + 1) 0 → M (m + 1) 0 ≤ 2000000001 → rJ M m → ∃ M', f_95_17 N n M m x y = some (f_85 M' m x) ∧ eqv M M' m ∧ rJ M' m
  | 0, M, y, h1, h2, h3, _, _, _, _ => absurd h2.2 (Nat.lt_irrefl 0)
  | n + 1, M, y, h1, h2, h3, k0, k1, k2, hJ => by
    rw [f_95_17]
    by_cases h0 : y ≤ 0
    · rw [rel5 ⟨by omega, by omega⟩ ⟨by decide, by decide⟩, cond_dt h0]
      exact ⟨M, rfl, eqv_refl, hJ⟩
    · rw [rel5 ⟨by omega, by omega⟩ ⟨by decide, by decide⟩, cond_df h0, rel3 ⟨by omega, by omega⟩ ⟨by decide, by decide⟩, cond_df (by omega)]
      unfold yox
      rw [yw_of (by omega) (by omega), if_pos (by omega)]
      dsimp only
      rw [ylet_eq]
      have e1 : f_143 M (m + 1) x (M (m + 20 + 3 * y.toNat) 3) (m + 1) 0 = M (m + 1) 0 := eqv_143 _ _ (by omega) (by omega) (by omega)
      obtain ⟨M', g1, g2, g3⟩ := l_95J hm n (f_143 M (m + 1) x (M (m + 20 + 3 * y.toNat) 3)) (y + (-1)) (by omega) (by omega) (by omega) k0 (by rw [e1]; exact k1) (by rw [e1]; exact k2) (J_143 hm hJ k0 k1 k2)
      exact ⟨M', g1, eqv_trans eqv_143 g2, g3⟩
/-- an exception is made, with the node that threw it -/
theorem J_make (hm : pM m) (h : rJ M m) (hs : M (m + 1) 0 ≤ 2000000000) (hn : 0 ≤ nd ∧ nd < M 1 7) : rJ (f_143 (f_147 M (m + 1) x y z).1 (m + 1) (M (m + 1) 0) nd) m := by
  have hmm : m = 196 ∨ m = 306 := hm
  obtain ⟨a1, a2, a3, a4, a5, a6⟩ := h
  -- what the new cells are
  have key : ∃ M8 : yM, f_143 (f_147 M (m + 1) x y z).1 (m + 1) (M (m + 1) 0) nd = M8 ∧ M8 (m + 1) 0 = M (m + 1) 0 + 1 ∧ M8 (m + 1) 1 = M (m + 1) 1 ∧ M8 1 7 = M 1 7 ∧ (∀ a j, m + 9 ≤ a → a ≤ m + 12 → M8 a j = M a j) ∧
      (∀ k : Nat, k < 40 → (k : Int) < M (m + 1) 0 → M8 (m + 6) k = M (m + 6) k ∧ M8 (m + 7) (6 * k) = M (m + 7) (6 * k) ∧ M8 (m + 8) k = M (m + 8) k) ∧
      (∀ k : Nat, k < 40 → (k : Int) = M (m + 1) 0 → M8 (m + 6) k = 1 ∧ M8 (m + 7) (6 * k) = nd ∧ M8 (m + 8) k = 0) := by
    refine ⟨_, rfl, ?_⟩
    have e147 : (f_147 M (m + 1) x y z).1 = ywr (ywr (ywr (ywr (r_mk M m (M (m + 1) 0) x z) (m + 1 + 4) (M (m + 1) 0) y) (m + 1 + 5) (M (m + 1) 0) 0) (m + 1 + 7) (M (m + 1) 0) 0) (m + 1 + 3) x (yrd (ywr (ywr (ywr (r_mk M m (M (m + 1) 0) x z) (m + 1 + 4) (M (m + 1) 0) y) (m + 1 + 5) (M (m + 1) 0) 0) (m + 1 + 7) (M (m + 1) 0) 0) (m + 1 + 3) x + 1) := rfl
    rw [e147]
    generalize yrd (ywr (ywr (ywr (r_mk M m (M (m + 1) 0) x z) (m + 1 + 4) (M (m + 1) 0) y) (m + 1 + 5) (M (m + 1) 0) 0) (m + 1 + 7) (M (m + 1) 0) 0) (m + 1 + 3) x + 1 = w
    unfold f_143
    rw [ylet_eq, rel3 ⟨by omega, by omega⟩ ⟨by decide, by decide⟩]
    by_cases h40 : 40 ≤ M (m + 1) 0
    · rw [cond_dt h40]
      have o6 : ∀ {M1 : yM} {v : Int}, ywr M1 (m + 1 + 5) (M (m + 1) 0) v = M1 := wr_out ⟨by omega, by omega⟩ (Or.inr (by rw [ln_6 hm]; omega))
      have o8 : ∀ {M1 : yM} {v : Int}, ywr M1 (m + 1 + 7) (M (m + 1) 0) v = M1 := wr_out ⟨by omega, by omega⟩ (Or.inr (by rw [ln_8 hm]; omega))
      rw [o8, o6]
      have en : ∀ b j, b ≠ m + 1 → b ≠ m + 2 → b ≠ m + 3 → b ≠ m + 4 → b ≠ m + 5 → ywr (ywr (r_mk M m (M (m + 1) 0) x z) (m + 1 + 4) (M (m + 1) 0) y) (m + 1 + 3) x w b j = M b j := fun b j h1 h2 h3 h4 h5 => by
        rw [wr_c (by omega), wr_c (by omega), mk_c h1 h2 h3]
      refine ⟨?_, ?_, en _ _ (by omega) (by omega) (by omega) (by omega) (by omega), fun a j h1 h2 => en _ _ (by omega) (by omega) (by omega) (by omega) (by omega), fun k hk hl => ⟨en _ _ (by omega) (by omega) (by omega) (by omega) (by omega), en _ _ (by omega) (by omega) (by omega) (by omega) (by omega), en _ _ (by omega) (by omega) (by omega) (by omega) (by omega)⟩, fun k hk hl => by omega⟩
      · rw [wr_c (by omega), wr_c (by omega), mk_1, yU_at]
      · rw [wr_c (by omega), wr_c (by omega), mk_1, yU_i (by decide)]
    · rw [cond_df h40]
      have i6 : ∀ {M1 : yM} {v : Int}, ywr M1 (m + 1 + 5) (M (m + 1) 0) v = yU M1 (m + 1 + 5) (M (m + 1) 0).toNat v := wr_in a1 (by rw [ln_6 hm]; omega)
      have i8 : ∀ {M1 : yM} {v : Int}, ywr M1 (m + 1 + 7) (M (m + 1) 0) v = yU M1 (m + 1 + 7) (M (m + 1) 0).toNat v := wr_in a1 (by rw [ln_8 hm]; omega)
      have ev : yrd (ywr (ywr (ywr (ywr (r_mk M m (M (m + 1) 0) x z) (m + 1 + 4) (M (m + 1) 0) y) (m + 1 + 5) (M (m + 1) 0) 0) (m + 1 + 7) (M (m + 1) 0) 0) (m + 1 + 3) x w) (m + 1 + 5) (M (m + 1) 0) = 0 := by
        rw [rd_in a1 (by rw [ln_6 hm]; omega), wr_c (by omega), wr_c (by omega), i6, yU_at]
      rw [ev]
      show _ ∧ _
      rw [show cond (yrel 3 0 6) (ywr (ywr (ywr (ywr (r_mk M m (M (m + 1) 0) x z) (m + 1 + 4) (M (m + 1) 0) y) (m + 1 + 5) (M (m + 1) 0) 0) (m + 1 + 7) (M (m + 1) 0) 0) (m + 1 + 3) x w) (ylet (ywr (ywr (ywr (ywr (ywr (r_mk M m (M (m + 1) 0) x z) (m + 1 + 4) (M (m + 1) 0) y) (m + 1 + 5) (M (m + 1) 0) 0) (m + 1 + 7) (M (m + 1) 0) 0) (m + 1 + 3) x w) (m + 1 + 6) (M (m + 1) 0 * 6 + 0) nd) fun M4 => ylet (ywr M4 (m + 1 + 5) (M (m + 1) 0) (0 + 1)) fun M5 => M5) = ywr (ywr (ywr (ywr (ywr (ywr (r_mk M m (M (m + 1) 0) x z) (m + 1 + 4) (M (m + 1) 0) y) (m + 1 + 5) (M (m + 1) 0) 0) (m + 1 + 7) (M (m + 1) 0) 0) (m + 1 + 3) x w) (m + 1 + 6) (M (m + 1) 0 * 6 + 0) nd) (m + 1 + 5) (M (m + 1) 0) (0 + 1) from rfl]
      rw [i6, i6, i8, wr_in (a := m + 1 + 6) (by omega) (by rw [ln_7 hm]; omega)]
      refine ⟨?_, ?_, ?_, fun a j h1 h2 => ?_, fun k hk hl => ⟨?_, ?_, ?_⟩, fun k hk hl => ⟨?_, ?_, ?_⟩⟩
      · rw [yU_c (by omega), yU_c (by omega), wr_c (by omega), yU_c (by omega), yU_c (by omega), wr_c (by omega), mk_1, yU_at]
      · rw [yU_c (by omega), yU_c (by omega), wr_c (by omega), yU_c (by omega), yU_c (by omega), wr_c (by omega), mk_1, yU_i (by decide)]
      · rw [yU_c (by omega), yU_c (by omega), wr_c (by omega), yU_c (by omega), yU_c (by omega), wr_c (by omega), mk_c (by omega) (by omega) (by omega)]
      · rw [yU_c (by omega), yU_c (by omega), wr_c (by omega), yU_c (by omega), yU_c (by omega), wr_c (by omega), mk_c (by omega) (by omega) (by omega)]
      · rw [yU_i (by omega), yU_c (by omega), wr_c (by omega), yU_c (by omega), yU_i (by omega), wr_c (by omega), mk_c (by omega) (by omega) (by omega)]
      · rw [yU_c (by omega), yU_i (by omega), wr_c (by omega), yU_c (by omega), yU_c (by omega), wr_c (by omega), mk_c (by omega) (by omega) (by omega)]
      · rw [yU_c (by omega), yU_c (by omega), wr_c (by omega), yU_i (by omega), yU_c (by omega), wr_c (by omega), mk_c (by omega) (by omega) (by omega)]
      · rw [show k = (M (m + 1) 0).toNat by omega]
        exact yU_at
      · rw [yU_c (by omega), show 6 * k = (M (m + 1) 0 * 6 + 0).toNat by omega]
        exact yU_at
      · rw [yU_c (by omega), yU_c (by omega), wr_c (by omega), show k = (M (m + 1) 0).toNat by omega]
        exact yU_at
  obtain ⟨M8, e, k1, k2, k3, k4, k5, k6⟩ := key
  rw [e]
  have es : r_sum M8 m = r_sum M m := sum_same (fun i hi => by
    show (if (i : Int) < M8 (m + 1) 0 then M8 (m + 8) i else 0) = if (i : Int) < M (m + 1) 0 then M (m + 8) i else 0
    rw [k1]
    by_cases h1 : (i : Int) < M (m + 1) 0
    · rw [if_pos (by omega), if_pos h1, (k5 i hi h1).2.2]
    · rw [if_neg h1]
      by_cases h2 : (i : Int) = M (m + 1) 0
      · rw [if_pos (by omega), (k6 i hi h2).2.2]
      · rw [if_neg (by omega)])
  refine ⟨by omega, by omega, fun k hk hl => ?_, by rw [es, k2]; exact a4, fun h => by rw [es, k2]; exact a5 (by omega), fun h => ?_⟩
  · rw [k1] at hl
    rw [k3]
    by_cases h1 : (k : Int) < M (m + 1) 0
    · obtain ⟨d1, d2, d3⟩ := k5 k hk h1
      rw [d1, d2, d3]
      exact a3 k hk h1
    · obtain ⟨d1, d2, d3⟩ := k6 k hk (by omega)
      rw [d1, d2, d3]
      exact ⟨by omega, hn, by omega⟩
  · rw [k2] at h
    obtain ⟨ow, li, hc⟩ := a6 h
    refine ⟨ow, li, fun k hk hl => ?_⟩
    rw [k1] at hl
    unfold r_ch
    by_cases h1 : (k : Int) < M (m + 1) 0
    · obtain ⟨b1, b2, b3, b4⟩ := hc k hk h1
      rw [(k5 k hk h1).2.2, k4 (m + 9) _ (by omega) (by omega), k4 (m + 10) _ (by omega) (by omega)]
      refine ⟨b1, fun i hi => ?_, fun i hi => ?_, b4⟩
      · rw [k4 (m + 12) _ (by omega) (by omega)]; exact b2 i hi
      · rw [k4 (m + 11) _ (by omega) (by omega), k2]; exact b3 i hi
    · rw [(k6 k hk (by omega)).2.2]
      exact ⟨fun q => absurd q (by decide), fun i hi => by omega, fun i hi => by omega, fun i j _ hj => by omega⟩
/-- raise: what comes out is all but what isn't looked at -/
theorem rel_95 {fr : List aF} (hm : pM m) (h : rel M m mo de (fr, fl, bi, ru, Y)) (h0 : 0 ≤ Y 1 0) (hs : Y 1 0 ≤ 2000000000) (hl : fr.length ≤ 30) (hN : 40 ≤ N) (hnd : 0 ≤ nd ∧ nd < M 1 7) : ∃ M', f_95 N M m x y z nd = some M' ∧ rel M' m mo de (fr, true, bi', ru, a_new Y x z) ∧ rst M M' m := by
  have e0 : M (m + 1) 0 = Y 1 0 := h.1.2.1 0 (by decide)
  have ed : M m 12 = (fr.length : Int) := h.2.2.1
  have h2 : (f_147 M (m + 1) x y z).2 = Y 1 0 := e0
  have q1 : eqv (r_mk M m (Y 1 0) x z) (f_147 M (m + 1) x y z).1 m := by
    rw [← e0]
    show eqv (r_mk M m (M (m + 1) 0) x z) (ywr (ywr (ywr (ywr (r_mk M m (M (m + 1) 0) x z) (m + 1 + 4) (M (m + 1) 0) y) (m + 1 + 5) (M (m + 1) 0) 0) (m + 1 + 7) (M (m + 1) 0) 0) (m + 1 + 3) x _) m
    exact eqv_trans (eqv_wr (by omega)) (eqv_trans (eqv_wr (by omega)) (eqv_trans (eqv_wr (by omega)) (eqv_wr (by omega))))
  have q2 : eqv (r_mk M m (Y 1 0) x z) (f_143 (f_147 M (m + 1) x y z).1 (m + 1) (Y 1 0) nd) m := eqv_trans q1 eqv_143
  have q3 : f_143 (f_147 M (m + 1) x y z).1 (m + 1) (Y 1 0) nd m 12 = (fr.length : Int) := (q2 m 12 (by omega) (by omega) (by omega)).trans ((mk_c (by omega) (by omega) (by omega)).trans ed)
  unfold f_95
  rw [ylet_eq, ylet_eq, h2, ylet_eq, ylet_eq, q3]
  have fin : ∀ {M' : yM}, eqv (f_143 (f_147 M (m + 1) x y z).1 (m + 1) (Y 1 0) nd) M' m → rel (f_85 M' m (Y 1 0)) m mo de (fr, true, bi', ru, a_new Y x z) ∧ (∀ a i, ¬ (m ≤ a ∧ a < m + 110) → f_85 M' m (Y 1 0) a i = M a i) := fun {M'} g2 => by
    have q4 : eqv (f_85 (r_mk M m (Y 1 0) x z) m (Y 1 0)) (f_85 M' m (Y 1 0)) m := eqv_85 (eqv_trans q2 g2)
    refine ⟨eqv_rel q4 (rel_new hm h h0 hs), fun a i hn => ?_⟩
    rw [eqv_out q4 a i hn]
    unfold f_85
    rw [ylet_eq, ylet_eq, yU_c (by omega), yU_c (by omega)]
    exact out_mk a i hn
  by_cases hJ : rJ M m
  · have hmm : m = 196 ∨ m = 306 := hm
    have e1 : f_143 (f_147 M (m + 1) x y z).1 (m + 1) (Y 1 0) nd (m + 1) 0 = Y 1 0 + 1 := (q2 _ _ (by omega) (by omega) (by omega)).trans (mk_1.trans yU_at)
    have hJ2 := J_make (x := x) (y := y) (z := z) hm hJ (by rw [e0]; exact hs) hnd
    rw [e0] at hJ2
    obtain ⟨M', g1, g2, g3⟩ := l_95J (m := m) (x := Y 1 0) hm N (f_143 (f_147 M (m + 1) x y z).1 (m + 1) (Y 1 0) nd) ((fr.length : Int) - 1) (by omega) (by omega) (by omega) h0 (by omega) (by omega) hJ2
    refine ⟨_, g1, (fin g2).1, (fin g2).2, fun _ _ => ?_⟩
    unfold f_85
    rw [ylet_eq, ylet_eq]
    exact rJ_eq g3 (fun j => (yU_c (by omega)).trans (yU_c (by omega))) (fun b j h1 h2 => (yU_c (by omega)).trans (yU_c (by omega))) ((yU_c (by omega)).trans (yU_c (by omega)))
  · obtain ⟨M', g1, g2⟩ := l_95 (m := m) (x := Y 1 0) N (f_143 (f_147 M (m + 1) x y z).1 (m + 1) (Y 1 0) nd) ((fr.length : Int) - 1) (by omega) (by omega) (by omega)
    exact ⟨_, g1, (fin g2).1, (fin g2).2, fun _ q => absurd q hJ⟩
end YOq
