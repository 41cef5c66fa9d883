/-! leave, divide, link, throw what is held, suppress, print -/
section YMr
variable {M M' M'' : yM} {m a i b N : Nat} {v k : Int} {Y Y' : yM} {f g : aF} {r : List aF} {mo de : Int} {X : aX} {fl ru : Bool} {bi bi' : Nat} {x y z nd q d : Int}
theorem rel_pop (h : rel M m mo de (f :: r, fl, bi, ru, Y)) : rel (yU M m 12 (r.length : Int)) m mo de (r, fl, bi', ru, Y) := by
  obtain ⟨a1, a2, a3, a4, a5, a6, a7⟩ := h
  exact ⟨rY_out a1 (by omega) (by omega), rFs_out a2.2 (by omega), yU_at, (yU_i (by decide)).trans a4, (yU_i (by decide)).trans a5, (yU_i (by decide)).trans a6, (yU_i (by decide)).trans a7⟩
/-- the frame below goes on -/
def a_ret (f : aF) (r : List aF) (Y : yM) (v : Int) : Option aX := match r with
  | [] => some ([], false, 0, false, yU (yU Y 13 0 0) 13 1 v)
  | g :: r' => some (a_at g r' (g.2.1 + 1) (if 0 ≤ f.2.2.1 then yU Y 14 f.2.2.1.toNat v else Y))
/-- leave -/
theorem rel_87 {X' : aX} (hm : pM m) (h : rel M m mo de (f :: r, false, bi, true, Y)) (hl : (r.length : Int) + 1 ≤ 30) (hv : f.2.2.1 = -1 ∨ (0 ≤ f.2.2.1 ∧ f.2.2.1 < 10))
    (hX : a_ret f r Y v = some X') :
    ∃ M', f_87 M m (m + 20 + 3 * r.length) v = some M' ∧ rel M' m mo de X' ∧ rst M M' m := by
  have ed : M m 12 = ((f :: r).length : Int) := h.2.2.1
  rw [List.length_cons] at ed
  unfold f_87
  rw [ylet_eq, show M m 12 - 1 = (r.length : Int) by omega, yU_at]
  have p1 := rel_pop (bi' := 0) h
  cases r with
  | nil =>
    cases hX
    rw [rel2 ⟨by decide, by decide⟩ ⟨by decide, by decide⟩, cond_dt (by decide)]
    unfold f_87_16
    rw [ylet_eq, ylet_eq, ylet_eq]
    have p2 := rel_run (bi' := 0) p1 false
    have p3 := rel_wr (k := 0) (v := 0) (bi' := 0) hm p2 (Or.inl rfl) (by decide) (by rw [ln_13 hm]; decide)
    have p4 := rel_wr (k := 1) (v := v) (bi' := 0) hm p3 (Or.inl rfl) (by decide) (by rw [ln_13 hm]; decide)
    exact ⟨_, rfl, p4, rst_trans (rst_U (by omega)) (rst_trans (rst_U (by omega)) (rst_trans (rst_wr (by omega)) (rst_wr (by omega))))⟩
  | cons g r' =>
    cases hX
    rw [List.length_cons] at hl ⊢
    rw [rel2 ⟨by omega, by omega⟩ ⟨by decide, by decide⟩, cond_df (by omega), rel5 ⟨by omega, by omega⟩ ⟨by decide, by decide⟩, cond_dt (by omega), ylet_eq]
    have ev : yU M m 12 ((r'.length + 1 : Nat) : Int) (m + 20 + 3 * (r'.length + 1)) 2 = f.2.2.1 := (yU_c (by omega)).trans h.2.1.1.2.2.1
    rw [ev]
    have p2 : rel (ywr (yU M m 12 ((r'.length + 1 : Nat) : Int)) (m + 14) f.2.2.1 v) m mo de (g :: r', false, 0, true, (if 0 ≤ f.2.2.1 then yU Y 14 f.2.2.1.toNat v else Y)) := by
      rcases hv with hv | hv
      · rw [hv, wr_out ⟨by decide, by decide⟩ (Or.inl (by decide)), if_neg (by decide)]
        exact p1
      · rw [if_pos hv.1]
        exact rel_wr hm p1 (Or.inr (Or.inl rfl)) hv.1 (by rw [ln_14 hm]; omega)
    have r2 : rst M (ywr (yU M m 12 ((r'.length + 1 : Nat) : Int)) (m + 14) f.2.2.1 v) m := rst_trans (rst_U (by omega)) (rst_wr (by omega))
    generalize ywr (yU M m 12 ((r'.length + 1 : Nat) : Int)) (m + 14) f.2.2.1 v = M7 at p2 r2 ⊢
    have e12 : M7 m 12 = (r'.length : Int) + 1 := by
      have e := p2.2.2.1
      dsimp only at e
      rw [List.length_cons] at e
      omega
    rw [e12]
    unfold yox
    rw [yw_of (by omega) (by omega), if_pos (by omega)]
    dsimp only
    rw [show ((r'.length : Int) + 1 - 1).toNat = r'.length by omega, ylet_eq]
    have ep : M7 (m + 20 + 3 * r'.length) 1 = (g.2.1 : Int) := p2.2.1.1.2.1
    rw [ep]
    have p3 := rel_place (j := g.2.1 + 1) (bi' := 0) p2
    refine ⟨_, rfl, p3, rst_trans r2 (rst_U (by omega))⟩
/-- divide -/
theorem rel_83 (hm : pM m) (h : rel M m mo de (f :: r, false, bi, true, Y)) (h0 : 0 ≤ Y 1 0) (hs : Y 1 0 ≤ 2000000000) (hl : (r.length : Int) + 1 ≤ 30) (hN : 40 ≤ N) (hx : 0 ≤ x ∧ x < 10) : ∃ M', f_83 N M m x d (m + 20 + 3 * r.length) nd = some M' ∧ rel M' m mo de (if yw d = 0 then a_throw f r (a_new Y 3 (-1)) else a_at f r (f.2.1 + 1) (yU Y 14 x.toNat (ydiv (Y 14 x.toNat) d))) ∧ rst M M' m := by
  unfold f_83
  rw [yrel1, show yw 0 = 0 from rfl]
  by_cases hd : yw d = 0
  · rw [decide_eq_true hd, if_pos hd]
    obtain ⟨M', g1, g2, g3⟩ := rel_95 (bi' := 0) (x := 3) (y := 0) (z := -1) (nd := nd) hm h h0 hs (by rw [List.length_cons]; omega) hN
    refine ⟨M', ?_, g2, g3⟩
    show Option.bind _ _ = _
    rw [g1]; rfl
  · rw [decide_eq_false hd, if_neg hd]
    show ∃ M', ylet _ _ = some M' ∧ _
    rw [ylet_eq, ylet_eq, rel_rd hm h (Or.inr (Or.inl rfl)) hx.1 (by rw [ln_14 hm]; omega)]
    have p1 := rel_wr (v := ydiv (Y 14 x.toNat) d) (bi' := 0) hm h (Or.inr (Or.inl rfl)) hx.1 (by rw [ln_14 hm]; omega)
    have ep := p1.2.1.1.2.1
    rw [ep]
    exact ⟨_, rfl, rel_place (j := f.2.1 + 1) (bi' := 0) p1, rst_trans (rst_wr (by omega)) (rst_U (by omega))⟩
/-- throw what is held -/
theorem rel_98 (hm : pM m) (h : rel M m mo de (f :: r, false, bi, true, Y)) (h0 : 0 ≤ Y 1 0) (hs : Y 1 0 ≤ 2000000000) (hl : (r.length : Int) + 1 ≤ 30) (hN : 40 ≤ N) (hx : x = -1 ∨ (0 ≤ x ∧ x < Y 1 0)) : ∃ M', f_98 N M m x nd = some M' ∧ rel M' m mo de (if x = -1 then a_throw f r (a_new Y 4 (-1)) else a_throw f r (a_fly Y x)) ∧ rst M M' m := by
  unfold f_98
  rw [rel1 ⟨by omega, by omega⟩ ⟨by decide, by decide⟩]
  by_cases hd : x = -1
  · rw [decide_eq_true hd, if_pos hd]
    obtain ⟨M', g1, g2, g3⟩ := rel_95 (bi' := 0) (x := 4) (y := 0) (z := -1) (nd := nd) hm h h0 hs (by rw [List.length_cons]; omega) hN
    refine ⟨M', ?_, g2, g3⟩
    show Option.bind _ _ = _
    rw [g1]; rfl
  · rw [decide_eq_false hd, if_neg hd]
    exact ⟨_, rfl, rel_fly h, rst_85⟩
/-- is it behind -/
theorem l_145 (hm : pM m) {e : Int} (h : rY M m Y) (hs : Y 1 0 ≤ 2000000000) (he : 0 ≤ e ∧ e < Y 1 0) (hc : ∀ x : Int, 0 ≤ x → x < Y 1 0 → Y 3 x.toNat = -1 ∨ (0 ≤ Y 3 x.toNat ∧ Y 3 x.toNat < Y 1 0)) : ∀ (n l : Nat) (x : Int), l < n → l ≤ 3000 → (x = -1 ∨ (0 ≤ x ∧ x < Y 1 0)) → f_145_4 N n M (m + 1) e x (l : Int) = some (b2i (a_behind Y e l x))
  | 0, l, x, h1, _, _ => absurd h1 (Nat.not_lt_zero _)
  | n + 1, l, x, h1, h2, h3 => by
    rw [f_145_4, rel0 ⟨by omega, by omega⟩ ⟨by decide, by decide⟩]
    by_cases hx : x = -1
    · rw [cond_dt hx]
      cases l with
      | zero => rfl
      | succ l =>
        unfold a_behind
        rw [if_pos hx]; rfl
    · rw [cond_df hx, rel5 ⟨by omega, by omega⟩ ⟨by decide, by decide⟩]
      cases l with
      | zero =>
        rw [cond_dt (by decide)]; rfl
      | succ l =>
        rw [cond_df (by omega), rel1 ⟨by omega, by omega⟩ ⟨by omega, by omega⟩]
        unfold a_behind
        rw [if_neg hx]
        by_cases hq : x = e
        · rw [decide_eq_true hq, if_pos hq]; rfl
        · rw [decide_eq_false hq, if_neg hq]
          show ylet _ _ = _
          have e1 : yrd M (m + 1 + 2) x = a_cs Y x := by
            unfold a_cs
            by_cases hb : x < 3000
            · rw [rd_in (by omega) (by rw [ln_3 hm]; omega), if_pos hb]
              exact (h.2.2.1 x.toNat (by omega) (by omega)).2
            · rw [rd_out ⟨by omega, by omega⟩ (Or.inr (by rw [ln_3 hm]; omega)), if_neg hb]
          rw [ylet_eq, e1]
          have e2 : ((l + 1 : Nat) : Int) + -1 = (l : Int) := by omega
          rw [e2]
          refine l_145 hm h hs he hc n l _ (by omega) (by omega) ?_
          unfold a_cs
          by_cases hb : x < 3000
          · rw [if_pos hb]
            exact hc x (by omega) (by omega)
          · rw [if_neg hb]; omega
/-- link -/
theorem rel_3 {fr : List aF} {e : Int} (hm : pM m) (h : rel M m mo de (fr, fl, bi, ru, Y)) (he : 0 ≤ e) (hs : e ≤ 2000000000) : rel (ywr M (m + 1 + 2) e v) m mo de (fr, fl, bi', ru, yU Y 3 e.toNat v) ∧ rst M (ywr M (m + 1 + 2) e v) m := by
  refine ⟨?_, rst_wr (by omega)⟩
  obtain ⟨⟨c1, c2, c3, c4, c5, c6, c7, c8⟩, a2, a3, a4, a5, a6, a7⟩ := h
  dsimp only at c1 c2 c3 c4 c5 c6 c7 c8
  have en : ∀ b j, b ≠ 3 → yU Y 3 e.toNat v b j = Y b j := fun b j hb => yU_c hb
  have kf : ∀ {fr : List aF}, rFs M m fr → rFs (ywr M (m + 1 + 2) e v) m fr := by
    intro fr
    unfold ywr
    split
    · exact fun h => rFs_out h (by omega)
    · exact id
  refine ⟨⟨fun q => ?_, fun j hj => ?_, fun e' he' hl => ?_, fun j hj => ?_, fun j hj => ?_, fun j hj => ?_, fun j hj => ?_, fun j hj => ?_⟩, kf a2, (wr_c (by omega)).trans a3, (wr_c (by omega)).trans a4, (wr_c (by omega)).trans a5, (wr_c (by omega)).trans a6, (wr_c (by omega)).trans a7⟩
  · dsimp only at q ⊢
    rw [en _ _ (by decide)] at q ⊢
    exact (wr_c (by omega)).trans (c1 q)
  · dsimp only
    rw [en _ _ (by decide), wr_c (by omega)]; exact c2 j hj
  · dsimp only at hl ⊢
    rw [en _ _ (by decide)] at hl
    rw [en 2 _ (by decide), wr_c (by omega)]
    refine ⟨(c3 e' he' hl).1, ?_⟩
    by_cases hb : e < 3000
    · rw [wr_in he (by rw [ln_3 hm]; omega)]
      by_cases hq : e' = e.toNat
      · rw [hq, yU_at]; exact yU_at.symm
      · rw [yU_i hq]
        exact (c3 e' he' hl).2.trans (yU_i hq).symm
    · rw [wr_out ⟨by omega, by omega⟩ (Or.inr (by rw [ln_3 hm]; omega)), yU_i (by omega)]
      exact (c3 e' he' hl).2
  · dsimp only
    rw [en _ _ (by decide), wr_c (by omega)]; exact c4 j hj
  · dsimp only
    rw [en _ _ (by decide), wr_c (by omega)]; exact c5 j hj
  · dsimp only
    rw [en _ _ (by decide), wr_c (by omega)]; exact c6 j hj
  · dsimp only
    rw [en _ _ (by decide), wr_c (by omega)]; exact c7 j hj
  · dsimp only
    rw [en _ _ (by decide), wr_c (by omega)]; exact c8 j hj
theorem rel_88 {e : Int} (hm : pM m) (h : rel M m mo de (f :: r, false, bi, true, Y)) (h0 : 0 ≤ Y 1 0) (hs : Y 1 0 ≤ 2000000000) (hl : (r.length : Int) + 1 ≤ 30) (hN : 3001 ≤ N) (hx : x = -1 ∨ (0 ≤ x ∧ x < Y 1 0)) (he : 0 ≤ e ∧ e < Y 1 0) (hc : ∀ x : Int, 0 ≤ x → x < Y 1 0 → Y 3 x.toNat = -1 ∨ (0 ≤ Y 3 x.toNat ∧ Y 3 x.toNat < Y 1 0)) :
    ∃ M', f_88 N M m x e (m + 20 + 3 * r.length) nd = some M' ∧ rel M' m mo de (if x = -1 then a_at f r (f.2.1 + 1) Y else if a_behind Y e 3000 x = true then a_throw f r (a_new Y 2 (-1)) else a_at f r (f.2.1 + 1) (yU Y 3 e.toNat x)) ∧ rst M M' m := by
  have go : ∀ {M1 : yM} {Y1 : yM}, rel M1 m mo de (f :: r, false, bi, true, Y1) → ∃ M', f_88_24 N M1 (m + 20 + 3 * r.length) = some M' ∧ rel M' m mo de (a_at f r (f.2.1 + 1) Y1) ∧ rst M1 M' m := by
    intro M1 Y1 h1
    unfold f_88_24
    have ep := h1.2.1.1.2.1
    rw [ylet_eq, ep]
    exact ⟨_, rfl, rel_place (j := f.2.1 + 1) (bi' := 0) h1, rst_U (by omega)⟩
  have e0 : ∀ {p : Int}, (p = 0 ∨ p = 1) → yrel 0 p 0 = decide (p = 0) := fun hp => by
    rcases hp with rfl | rfl <;> rfl
  unfold f_88
  rw [rel0 ⟨by omega, by omega⟩ ⟨by decide, by decide⟩]
  by_cases hd : x = -1
  · rw [cond_dt hd, if_pos hd]
    unfold f_88_16
    rw [rel0 ⟨by omega, by omega⟩ ⟨by decide, by decide⟩, cond_dt hd]
    exact go h
  · rw [cond_df hd, if_neg hd]
    unfold f_145
    have e1 := l_145 (N := N) (e := e) hm h.1 hs he hc N 3000 x (by omega) (Nat.le_refl _) hx
    rw [show (3000 : Int) = ((3000 : Nat) : Int) from rfl, e1]
    show ∃ M', cond _ _ _ = some M' ∧ _
    cases hb : a_behind Y e 3000 x with
    | true =>
      rw [if_pos rfl]
      obtain ⟨M', g1, g2, g3⟩ := rel_95 (bi' := 0) (x := 2) (y := 0) (z := -1) (nd := nd) hm h h0 hs (by rw [List.length_cons]; omega) (by omega : 40 ≤ N)
      refine ⟨M', ?_, g2, g3⟩
      show Option.bind _ _ = _
      rw [g1]; rfl
    | false =>
      rw [if_neg (by decide)]
      show ∃ M', f_88_16 N M m x e (m + 20 + 3 * r.length) = some M' ∧ _
      unfold f_88_16 f_150
      rw [rel0 ⟨by omega, by omega⟩ ⟨by decide, by decide⟩, cond_df hd, ylet_eq, ylet_eq]
      obtain ⟨p1, p2⟩ := rel_3 (bi' := bi) (v := x) hm h he.1 (by omega)
      obtain ⟨M', g1, g2, g3⟩ := go p1
      exact ⟨M', g1, g2, rst_trans p2 g3⟩
/-- suppress -/
theorem rel_97 {e : Int} (hm : pM m) (h : rel M m mo de (f :: r, false, bi, true, Y)) (hmd : 0 < Y 1 0) (hs : Y 1 0 ≤ 2000000000) (hfl : 0 ≤ Y 0 16 ∧ Y 0 16 < Y 1 0) (he : 0 ≤ e ∧ e < Y 1 0) : rel (f_97 M m e) m mo de (a_throw f r (a_fly (if Y 0 16 = e then Y else yU Y 1 1 (Y 1 1 + 1)) e)) ∧ rst M (f_97 M m e) m := by
  have e16 : M m 16 = Y 0 16 := h.1.1 hmd
  have e11 : M (m + 1) 1 = Y 1 1 := h.1.2.1 1 (by decide)
  unfold f_97 f_97_10
  rw [e16, rel0 ⟨by omega, by omega⟩ ⟨by omega, by omega⟩]
  by_cases hq : Y 0 16 = e
  · rw [cond_dt hq, if_pos hq, ylet_eq]
    exact ⟨rel_fly h, rst_85⟩
  · rw [cond_df hq, if_neg hq, ylet_eq, ylet_eq]
    have p1 : rel (yU M (m + 1) 1 (M (m + 1) 1 + 1)) m mo de (f :: r, false, bi, true, yU Y 1 1 (Y 1 1 + 1)) := by
      obtain ⟨⟨c1, c2, c3, c4, c5, c6, c7, c8⟩, a2, a3, a4, a5, a6, a7⟩ := h
      dsimp only at c1 c2 c3 c4 c5 c6 c7 c8
      have en : ∀ b j, b ≠ 1 → yU Y 1 1 (Y 1 1 + 1) b j = Y b j := fun b j hb => yU_c hb
      refine ⟨⟨fun q => ?_, fun j hj => ?_, fun e' he' hl => ?_, fun j hj => ?_, fun j hj => ?_, fun j hj => ?_, fun j hj => ?_, fun j hj => ?_⟩, rFs_out a2 (by omega), (yU_c (by omega)).trans a3, (yU_c (by omega)).trans a4, (yU_c (by omega)).trans a5, (yU_c (by omega)).trans a6, (yU_c (by omega)).trans a7⟩
      · dsimp only
        rw [en 0 16 (by decide)]
        exact (yU_c (by omega)).trans e16
      · dsimp only
        rcases (show j = 0 ∨ j = 1 by omega) with rfl | rfl
        · rw [yU_i (by decide), yU_i (by decide)]; exact c2 0 (by decide)
        · rw [yU_at, yU_at, e11]
      · dsimp only at hl ⊢
        have hl : (e' : Int) < Y 1 0 := by rw [yU_i (by decide)] at hl; exact hl
        rw [en _ _ (by decide), en _ _ (by decide), yU_c (by omega), yU_c (by omega)]; exact c3 e' he' hl
      · dsimp only
        rw [en _ _ (by decide), yU_c (by omega)]; exact c4 j hj
      · dsimp only
        rw [en _ _ (by decide), yU_c (by omega)]; exact c5 j hj
      · dsimp only
        rw [en _ _ (by decide), yU_c (by omega)]; exact c6 j hj
      · dsimp only
        rw [en _ _ (by decide), yU_c (by omega)]; exact c7 j hj
      · dsimp only
        rw [en _ _ (by decide), yU_c (by omega)]; exact c8 j hj
    have p2 : eqv (yU M (m + 1) 1 (M (m + 1) 1 + 1)) (f_151 M (m + 1) e (Y 0 16)) m := by
      unfold f_151 f_151_37
      simp only [ylet_eq]
      cases yrel 2 e 40 with
      | false => exact eqv_refl
      | true =>
        show eqv _ (cond _ _ _) m
        cases yrel 1 (yrd (ywr (yU M (m + 1) 1 (M (m + 1) 1 + 1)) (m + 1 + 10) (M (m + 1) 1) (Y 0 16)) (m + 1 + 7) e) 0 with
        | true => exact eqv_trans (eqv_wr (by omega)) (eqv_trans (eqv_wr (by omega)) (eqv_trans (eqv_wr (by omega)) (eqv_wr (by omega))))
        | false => exact eqv_trans (eqv_wr (by omega)) (eqv_trans (eqv_wr (by omega)) (eqv_trans (eqv_wr (by omega)) (eqv_wr (by omega))))
    exact ⟨rel_fly (eqv_rel p2 p1), rst_trans (rst_U (by omega)) (rst_trans (eqv_rst p2) rst_85)⟩
/-- print -/
theorem rel_94 {fr : List aF} (hm : pM m) (h : rel M m mo de (fr, fl, bi, ru, Y)) : rel (f_94 M m x y) m mo de (fr, fl, bi', ru, yU Y 13 4 (Y 13 4 + 1)) ∧ rst M (f_94 M m x y) m := by
  have go : ∀ {M1 : yM}, eqv M M1 m → rel (f_94_36 M1 m x) m mo de (fr, fl, bi', ru, yU Y 13 4 (Y 13 4 + 1)) ∧ rst M (f_94_36 M1 m x) m := by
    intro M1 h1
    unfold f_94_36
    rw [ylet_eq, ylet_eq]
    have p1 : eqv M (yU M1 m 10 (M1 m 10 + yw x)) m := eqv_trans h1 (eqv_U (by omega))
    have p2 := eqv_rel p1 h
    rw [rel_rd (k := 4) hm p2 (Or.inl rfl) (by decide) (by rw [ln_13 hm]; decide)]
    exact ⟨rel_wr (k := 4) hm p2 (Or.inl rfl) (by decide) (by rw [ln_13 hm]; decide), rst_trans (eqv_rst p1) (rst_wr (by omega))⟩
  unfold f_94
  rw [ylet_eq]
  cases yrel 3 (yrd M (m + 13) 4) 40 with
  | true => exact go eqv_refl
  | false =>
    show rel (ylet _ _) m mo de _ ∧ rst M (ylet _ _) m
    rw [ylet_eq, ylet_eq, ylet_eq]
    exact go (eqv_trans (eqv_wr (by omega)) (eqv_trans (eqv_wr (by omega)) (eqv_wr (by omega))))
end YMr
