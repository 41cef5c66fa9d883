/-! leave, divide, link, throw what is held, suppress, print -/
section YMr
variable {M M' M'' : yM} {m a i b N : Nat} {v k : Int} {Y Y' : yM} {f g : aF} {r : List aF} {mo de : Int} {X : aX} {fl ru : Bool} {bi bi' : Nat} {x y z nd q d : Int}
theorem rel_pop (h : rel M m mo de (f :: r, fl, bi, ru, Y)) : rel (yU M m 12 (r.length : Int)) m mo de (r, fl, bi', ru, Y) := by
  obtain ⟨a1, a2, a3, a4, a5, a6, a7⟩ := h
  exact ⟨rY_out a1 (by omega) (by omega), rFs_out a2.2 (by omega), yU_at, (yU_i (by decide)).trans a4, (yU_i (by decide)).trans a5, (yU_i (by decide)).trans a6, (yU_i (by decide)).trans a7⟩
/-- the frame below goes on -/
def a_ret (f : aF) (r : List aF) (Y : yM) (v : Int) : Option aX := match r with
  | [] => some ([], false, 0, false, yU (yU Y 13 0 0) 13 1 v)
  | g :: r' => some (a_at g r' (g.2.1 + 1) (if 0 ≤ f.2.2.1 then yU Y 14 f.2.2.1.toNat v else Y))
/-- leave -/
theorem rel_87 {X' : aX} (hm : pM m) (h : rel M m mo de (f :: r, false, bi, true, Y)) (hl : (r.length : Int) + 1 ≤ 30) (hv : f.2.2.1 = -1 ∨ (0 ≤ f.2.2.1 ∧ f.2.2.1 < 10))
    (hX : a_ret f r Y v = some X') :
    ∃ M', f_87 M m (m + 20 + 3 * r.length) v = some M' ∧ rel M' m mo de X' ∧ rst M M' m := by
  have ed : M m 12 = ((f :: r).length : Int) := h.2.2.1
  rw [List.length_cons] at ed
  unfold f_87
  rw [ylet_eq, show M m 12 - 1 = (r.length : Int) by omega, yU_at]
  have p1 := rel_pop (bi' := 0) h
  cases r with
  | nil =>
    cases hX
    rw [rel2 ⟨by decide, by decide⟩ ⟨by decide, by decide⟩, cond_dt (by decide)]
    unfold f_87_16
    rw [ylet_eq, ylet_eq, ylet_eq]
    have p2 := rel_run (bi' := 0) p1 false
    have p3 := rel_wr (k := 0) (v := 0) (bi' := 0) hm p2 (Or.inl rfl) (by decide) (by rw [ln_13 hm]; decide)
    have p4 := rel_wr (k := 1) (v := v) (bi' := 0) hm p3 (Or.inl rfl) (by decide) (by rw [ln_13 hm]; decide)
    exact ⟨_, rfl, p4, rst_trans (rst_U (by omega)) (rst_trans (rst_U (by omega)) (rst_trans (rst_wr (by omega)) (rst_wr (by omega))))⟩
  | cons g r' =>
    cases hX
    rw [List.length_cons] at hl ⊢
    rw [rel2 ⟨by omega, by omega⟩ ⟨by decide, by decide⟩, cond_df (by omega), rel5 ⟨by omega, by omega⟩ ⟨by decide, by decide⟩, cond_dt (by omega), ylet_eq]
    have ev : yU M m 12 ((r'.length + 1 : Nat) : Int) (m + 20 + 3 * (r'.length + 1)) 2 = f.2.2.1 := (yU_c (by omega)).trans h.2.1.1.2.2.1
    rw [ev]
    have p2 : rel (ywr (yU M m 12 ((r'.length + 1 : Nat) : Int)) (m + 14) f.2.2.1 v) m mo de (g :: r', false, 0, true, (if 0 ≤ f.2.2.1 then yU Y 14 f.2.2.1.toNat v else Y)) := by
      rcases hv with hv | hv
      · rw [hv, wr_out ⟨by decide, by decide⟩ (Or.inl (by decide)), if_neg (by decide)]
        exact p1
      · rw [if_pos hv.1]
        exact rel_wr hm p1 (Or.inr (Or.inl rfl)) hv.1 (by rw [ln_14 hm]; omega)
    have r2 : rst M (ywr (yU M m 12 ((r'.length + 1 : Nat) : Int)) (m + 14) f.2.2.1 v) m := rst_trans (rst_U (by omega)) (rst_wr (by omega))
    generalize ywr (yU M m 12 ((r'.length + 1 : Nat) : Int)) (m + 14) f.2.2.1 v = M7 at p2 r2 ⊢
    have e12 : M7 m 12 = (r'.length : Int) + 1 := by
      have e := p2.2.2.1
      dsimp only at e
      rw [List.length_cons] at e
      omega
    rw [e12]
    unfold yox
    rw [yw_of (by omega) (by omega), if_pos (by omega)]
    dsimp only
    rw [show ((r'.length : Int) + 1 - 1).toNat = r'.length by omega, ylet_eq]
    have ep : M7 (m + 20 + 3 * r'.length) 1 = (g.2.1 : Int) := p2.2.1.1.2.1
    rw [ep]
    have p3 := rel_place (j := g.2.1 + 1) (bi' := 0) p2
    refine ⟨_, rfl, p3, rst_trans r2 (rst_U (by omega))⟩
/-- divide -/
theorem rel_83 (hm : pM m) (h : rel M m mo de (f :: r, false, bi, true, Y)) (h0 : 0 ≤ Y 1 0) (hs : Y 1 0 ≤ 2000000000) (hl : (r.length : Int) + 1 ≤ 30) (hN : 40 ≤ N) (hx : 0 ≤ x ∧ x < 10) (hnd : 0 ≤ nd ∧ nd < M 1 7) : ∃ M', f_83 N M m x d (m + 20 + 3 * r.length) nd = some M' ∧ rel M' m mo de (if yw d = 0 then a_throw f r (a_new Y 3 (-1)) else a_at f r (f.2.1 + 1) (yU Y 14 x.toNat (ydiv (Y 14 x.toNat) d))) ∧ rst M M' m := by
  unfold f_83
  rw [yrel1, show yw 0 = 0 from rfl]
  by_cases hd : yw d = 0
  · rw [decide_eq_true hd, if_pos hd]
    obtain ⟨M', g1, g2, g3⟩ := rel_95 (bi' := 0) (x := 3) (y := 0) (z := -1) (nd := nd) hm h h0 hs (by rw [List.length_cons]; omega) hN hnd
    refine ⟨M', ?_, g2, g3⟩
    show Option.bind _ _ = _
    rw [g1]; rfl
  · rw [decide_eq_false hd, if_neg hd]
    show ∃ M', ylet _ _ = some M' ∧ _
    rw [ylet_eq, ylet_eq, rel_rd hm h (Or.inr (Or.inl rfl)) hx.1 (by rw [ln_14 hm]; omega)]
    have p1 := rel_wr (v := ydiv (Y 14 x.toNat) d) (bi' := 0) hm h (Or.inr (Or.inl rfl)) hx.1 (by rw [ln_14 hm]; omega)
    have ep := p1.2.1.1.2.1
    rw [ep]
    exact ⟨_, rfl, rel_place (j := f.2.1 + 1) (bi' := 0) p1, rst_trans (rst_wr (by omega)) (rst_U (by omega))⟩
/-- throw what is held -/
theorem rel_98 (hm : pM m) (h : rel M m mo de (f :: r, false, bi, true, Y)) (h0 : 0 ≤ Y 1 0) (hs : Y 1 0 ≤ 2000000000) (hl : (r.length : Int) + 1 ≤ 30) (hN : 40 ≤ N) (hx : x = -1 ∨ (0 ≤ x ∧ x < Y 1 0)) (hnd : 0 ≤ nd ∧ nd < M 1 7) : ∃ M', f_98 N M m x nd = some M' ∧ rel M' m mo de (if x = -1 then a_throw f r (a_new Y 4 (-1)) else a_throw f r (a_fly Y x)) ∧ rst M M' m := by
  unfold f_98
  rw [rel1 ⟨by omega, by omega⟩ ⟨by decide, by decide⟩]
  by_cases hd : x = -1
  · rw [decide_eq_true hd, if_pos hd]
    obtain ⟨M', g1, g2, g3⟩ := rel_95 (bi' := 0) (x := 4) (y := 0) (z := -1) (nd := nd) hm h h0 hs (by rw [List.length_cons]; omega) hN hnd
    refine ⟨M', ?_, g2, g3⟩
    show Option.bind _ _ = _
    rw [g1]; rfl
  · rw [decide_eq_false hd, if_neg hd]
    exact ⟨_, rfl, rel_fly h, rst_85⟩
/-- is it behind -/
theorem l_145 (hm : pM m) {e : Int} (h : rY M m Y) (hs : Y 1 0 ≤ 2000000000) (he : 0 ≤ e ∧ e < Y 1 0) (hc : ∀ x : Int, 0 ≤ x → x < Y 1 0 → Y 3 x.toNat = -1 ∨ (0 ≤ Y 3 x.toNat ∧ Y 3 x.toNat < Y 1 0)) : ∀ (n l : Nat) (x : Int), l < n → l ≤ 3000 → (x = -1 ∨ (0 ≤ x ∧ x < Y 1 0)) → f_145_4 N n M (m + 1) e x (l : Int) = some (b2i (a_behind Y e l x))
  | 0, l, x, h1, _, _ => absurd h1 (Nat.not_lt_zero _)
  | n + 1, l, x, h1, h2, h3 => by
    rw [f_145_4, rel0 ⟨by omega, by omega⟩ ⟨by decide, by decide⟩]
    by_cases hx : x = -1
    · rw [cond_dt hx]
      cases l with
      | zero => rfl
      | succ l =>
        unfold a_behind
        rw [if_pos hx]; rfl
    · rw [cond_df hx, rel5 ⟨by omega, by omega⟩ ⟨by decide, by decide⟩]
      cases l with
      | zero =>
        rw [cond_dt (by decide)]; rfl
      | succ l =>
        rw [cond_df (by omega), rel1 ⟨by omega, by omega⟩ ⟨by omega, by omega⟩]
        unfold a_behind
        rw [if_neg hx]
        by_cases hq : x = e
        · rw [decide_eq_true hq, if_pos hq]; rfl
        · rw [decide_eq_false hq, if_neg hq]
          show ylet _ _ = _
          have e1 : yrd M (m + 1 + 2) x = a_cs Y x := by
            unfold a_cs
            by_cases hb : x < 3000
            · rw [rd_in (by omega) (by rw [ln_3 hm]; omega), if_pos hb]
              exact (h.2.2.1 x.toNat (by omega) (by omega)).2
            · rw [rd_out ⟨by omega, by omega⟩ (Or.inr (by rw [ln_3 hm]; omega)), if_neg hb]
          rw [ylet_eq, e1]
          have e2 : ((l + 1 : Nat) : Int) + -1 = (l : Int) := by omega
          rw [e2]
          refine l_145 hm h hs he hc n l _ (by omega) (by omega) ?_
          unfold a_cs
          by_cases hb : x < 3000
          · rw [if_pos hb]
            exact hc x (by omega) (by omega)
          · rw [if_neg hb]; omega
/-- link -/
theorem rel_3 {fr : List aF} {e : Int} (hm : pM m) (h : rel M m mo de (fr, fl, bi, ru, Y)) (he : 0 ≤ e) (hs : e ≤ 2000000000) : rel (ywr M (m + 1 + 2) e v) m mo de (fr, fl, bi', ru, yU Y 3 e.toNat v) ∧ rst M (ywr M (m + 1 + 2) e v) m := by
  refine ⟨?_, rst_wr (by omega)⟩
  obtain ⟨⟨c1, c2, c3, c4, c5, c6, c7, c8⟩, a2, a3, a4, a5, a6, a7⟩ := h
  dsimp only at c1 c2 c3 c4 c5 c6 c7 c8
  have en : ∀ b j, b ≠ 3 → yU Y 3 e.toNat v b j = Y b j := fun b j hb => yU_c hb
  have kf : ∀ {fr : List aF}, rFs M m fr → rFs (ywr M (m + 1 + 2) e v) m fr := by
    intro fr
    unfold ywr
    split
    · exact fun h => rFs_out h (by omega)
    · exact id
  refine ⟨⟨fun q => ?_, fun j hj => ?_, fun e' he' hl => ?_, fun j hj => ?_, fun j hj => ?_, fun j hj => ?_, fun j hj => ?_, fun j hj => ?_⟩, kf a2, (wr_c (by omega)).trans a3, (wr_c (by omega)).trans a4, (wr_c (by omega)).trans a5, (wr_c (by omega)).trans a6, (wr_c (by omega)).trans a7⟩
  · dsimp only at q ⊢
    rw [en _ _ (by decide)] at q ⊢
    exact (wr_c (by omega)).trans (c1 q)
  · dsimp only
    rw [en _ _ (by decide), wr_c (by omega)]; exact c2 j hj
  · dsimp only at hl ⊢
    rw [en _ _ (by decide)] at hl
    rw [en 2 _ (by decide), wr_c (by omega)]
    refine ⟨(c3 e' he' hl).1, ?_⟩
    by_cases hb : e < 3000
    · rw [wr_in he (by rw [ln_3 hm]; omega)]
      by_cases hq : e' = e.toNat
      · rw [hq, yU_at]; exact yU_at.symm
      · rw [yU_i hq]
        exact (c3 e' he' hl).2.trans (yU_i hq).symm
    · rw [wr_out ⟨by omega, by omega⟩ (Or.inr (by rw [ln_3 hm]; omega)), yU_i (by omega)]
      exact (c3 e' he' hl).2
  · dsimp only
    rw [en _ _ (by decide), wr_c (by omega)]; exact c4 j hj
  · dsimp only
    rw [en _ _ (by decide), wr_c (by omega)]; exact c5 j hj
  · dsimp only
    rw [en _ _ (by decide), wr_c (by omega)]; exact c6 j hj
  · dsimp only
    rw [en _ _ (by decide), wr_c (by omega)]; exact c7 j hj
  · dsimp only
    rw [en _ _ (by decide), wr_c (by omega)]; exact c8 j hj
theorem rel_88 {e : Int} (hm : pM m) (h : rel M m mo de (f :: r, false, bi, true, Y)) (h0 : 0 ≤ Y 1 0) (hs : Y 1 0 ≤ 2000000000) (hl : (r.length : Int) + 1 ≤ 30) (hN : 3001 ≤ N) (hx : x = -1 ∨ (0 ≤ x ∧ x < Y 1 0)) (he : 0 ≤ e ∧ e < Y 1 0) (hc : ∀ x : Int, 0 ≤ x → x < Y 1 0 → Y 3 x.toNat = -1 ∨ (0 ≤ Y 3 x.toNat ∧ Y 3 x.toNat < Y 1 0)) (hnd : 0 ≤ nd ∧ nd < M 1 7) :
    ∃ M', f_88 N M m x e (m + 20 + 3 * r.length) nd = some M' ∧ rel M' m mo de (if x = -1 then a_at f r (f.2.1 + 1) Y else if a_behind Y e 3000 x = true then a_throw f r (a_new Y 2 (-1)) else a_at f r (f.2.1 + 1) (yU Y 3 e.toNat x)) ∧ rst M M' m := by
  have go : ∀ {M1 : yM} {Y1 : yM}, rel M1 m mo de (f :: r, false, bi, true, Y1) → ∃ M', f_88_24 N M1 (m + 20 + 3 * r.length) = some M' ∧ rel M' m mo de (a_at f r (f.2.1 + 1) Y1) ∧ rst M1 M' m := by
    intro M1 Y1 h1
    unfold f_88_24
    have ep := h1.2.1.1.2.1
    rw [ylet_eq, ep]
    exact ⟨_, rfl, rel_place (j := f.2.1 + 1) (bi' := 0) h1, rst_U (by omega)⟩
  have e0 : ∀ {p : Int}, (p = 0 ∨ p = 1) → yrel 0 p 0 = decide (p = 0) := fun hp => by
    rcases hp with rfl | rfl <;> rfl
  unfold f_88
  rw [rel0 ⟨by omega, by omega⟩ ⟨by decide, by decide⟩]
  by_cases hd : x = -1
  · rw [cond_dt hd, if_pos hd]
    unfold f_88_16
    rw [rel0 ⟨by omega, by omega⟩ ⟨by decide, by decide⟩, cond_dt hd]
    exact go h
  · rw [cond_df hd, if_neg hd]
    unfold f_145
    have e1 := l_145 (N := N) (e := e) hm h.1 hs he hc N 3000 x (by omega) (Nat.le_refl _) hx
    rw [show (3000 : Int) = ((3000 : Nat) : Int) from rfl, e1]
    show ∃ M', cond _ _ _ = some M' ∧ _
    cases hb : a_behind Y e 3000 x with
    | true =>
      rw [if_pos rfl]
      obtain ⟨M', g1, g2, g3⟩ := rel_95 (bi' := 0) (x := 2) (y := 0) (z := -1) (nd := nd) hm h h0 hs (by rw [List.length_cons]; omega) (by omega : 40 ≤ N) hnd
      refine ⟨M', ?_, g2, g3⟩
      show Option.bind _ _ = _
      rw [g1]; rfl
    | false =>
      rw [if_neg (by decide)]
      show ∃ M', f_88_16 N M m x e (m + 20 + 3 * r.length) = some M' ∧ _
      unfold f_88_16 f_150
      rw [rel0 ⟨by omega, by omega⟩ ⟨by decide, by decide⟩, cond_df hd, ylet_eq, ylet_eq]
      obtain ⟨p1, p2⟩ := rel_3 (bi' := bi) (v := x) hm h he.1 (by omega)
      obtain ⟨M', g1, g2, g3⟩ := go p1
      exact ⟨M', g1, g2, rst_trans p2 g3⟩
/-- one more beneath another -/
theorem J_sup2 {M8 : yM} {k0 S0 : Nat} {fl' : Int} (b : Bool) (h : rJ M m) (hk0 : k0 < 40) (hkm : (k0 : Int) < M (m + 1) 0) (hS : M (m + 1) 1 = (S0 : Int)) (hne : (¬ fl' = (k0 : Int)) ∧ ysm fl') (hb : M (m + 8) k0 ≤ 3000 → (b = true ↔ M (m + 8) k0 ≠ 0))
    (p1 : M8 (m + 1) 0 = M (m + 1) 0) (p2 : M8 (m + 1) 1 = (S0 : Int) + 1) (p3 : M8 1 7 = M 1 7) (p6 : ∀ j, M8 (m + 6) j = M (m + 6) j) (p7 : ∀ j, M8 (m + 7) j = M (m + 7) j) (p8 : ∀ j, M8 (m + 8) j = if j = k0 then M (m + 8) k0 + 1 else M (m + 8) j) (p9 : ∀ j, M8 (m + 9) j = if j = k0 ∧ b = false then (S0 : Int) else M (m + 9) j) (p10 : ∀ j, M8 (m + 10) j = if j = k0 then (S0 : Int) else M (m + 10) j)
    (p11 : S0 < 3000 → ∀ j, M8 (m + 11) j = if j = S0 then fl' else M (m + 11) j) (p12 : ∀ l : Nat, S0 < 3000 → b = true → M (m + 10) k0 = (l : Int) → l < 3000 → ∀ j, M8 (m + 12) j = if j = l then (S0 : Int) else M (m + 12) j) (p12' : b = false → ∀ j, M8 (m + 12) j = M (m + 12) j) : rJ M8 m := by
  obtain ⟨a1, a2, a3, a4, a5, a6⟩ := h
  have es : r_sum M8 m = r_sum M m + 1 := sum_one hk0 (fun i hi => by rw [p1, p8, if_neg hi]) (by rw [p1, p8, if_pos rfl, if_pos hkm, if_pos hkm])
  refine ⟨by rw [p1]; exact a1, by omega, fun k hk hl => ?_, by omega, fun h => by rw [p1] at h; have := a5 h; omega, fun h => ?_⟩
  · rw [p1] at hl
    obtain ⟨d1, d2, d3⟩ := a3 k hk hl
    rw [p6, p7, p3, p8]
    refine ⟨d1, d2, ?_⟩
    split
    · have := (a3 k0 hk0 hkm).2.2
      omega
    · exact d3
  · rw [p2] at h
    obtain ⟨ow, li, hc⟩ := a6 (by omega)
    have hS3 : S0 < 3000 := by omega
    have hu0 := (a3 k0 hk0 hkm).2.2
    obtain ⟨b1, b2, b3, b4⟩ := hc k0 hk0 hkm
    obtain ⟨u, hu⟩ : ∃ u : Nat, M (m + 8) k0 = (u : Int) := ⟨(M (m + 8) k0).toNat, by omega⟩
    rw [hu] at b1 b2 b3 b4 hb p8
    -- the links are fewer than they are counted
    have hui : ∀ i : Nat, i < u → i ≤ li k0 i := fun i hi => by
      induction i with
      | zero => exact Nat.zero_le _
      | succ i ih =>
        have := ih (by omega)
        have := b4 i (i + 1) (Nat.lt_succ_self i) (by omega)
        omega
    have hu3 : u ≤ 3000 := by
      rcases Nat.eq_zero_or_pos u with hz | hz
      · omega
      · have g1 := hui (u - 1) (by omega)
        have g2 := (b3 (u - 1) (by omega)).1
        omega
    have hb := hb (by omega)
    have hlt : ∀ k : Nat, k < 40 → (k : Int) < M (m + 1) 0 → ∀ i : Nat, (i : Int) < M (m + 8) k → li k i < S0 := fun k hk hl i hi => by
      have := ((hc k hk hl).2.2.1 i hi).1
      omega
    have q12 : ∀ j, M8 (m + 12) j = if 0 < u ∧ j = li k0 (u - 1) then (S0 : Int) else M (m + 12) j := fun j => by
      cases hbb : b with
      | false =>
        have hz : u = 0 := by
          rcases Nat.eq_zero_or_pos u with hz | hz
          · exact hz
          · have := hb.mpr (by omega)
            rw [hbb] at this
            cases this
        rw [p12' hbb, if_neg (by omega)]
      | true =>
        have hz : 0 < u := by
          have := hb.mp hbb
          omega
        have hl := (b1 (by omega)).2
        rw [show ((u : Int) - 1).toNat = u - 1 by omega] at hl
        have hl3 := (b3 (u - 1) (by omega)).1
        rw [p12 (li k0 (u - 1)) hS3 hbb hl (by omega)]
        by_cases hj : j = li k0 (u - 1)
        · rw [if_pos hj, if_pos ⟨hz, hj⟩]
        · rw [if_neg hj, if_neg (fun q => hj q.2)]
    obtain ⟨li', hli⟩ : ∃ li' : Nat → Nat → Nat, ∀ k i, li' k i = if k = k0 ∧ i = u then S0 else li k i := ⟨_, fun _ _ => rfl⟩
    obtain ⟨ow', how⟩ : ∃ ow' : Nat → Nat, ∀ x, ow' x = if x = S0 then k0 else ow x := ⟨_, fun _ => rfl⟩
    have lo : ∀ i : Nat, i < u → li' k0 i = li k0 i := fun i hi => by rw [hli, if_neg (fun q => by omega)]
    have lu : li' k0 u = S0 := by rw [hli, if_pos ⟨rfl, rfl⟩]
    refine ⟨ow', li', fun k hk hl => ?_⟩
    rw [p1] at hl
    obtain ⟨c1, c2, c3, c4⟩ := hc k hk hl
    unfold r_ch
    by_cases hkk : k = k0
    · rw [hkk, p8, if_pos rfl]
      refine ⟨fun _ => ⟨?_, ?_⟩, fun i hi => ?_, fun i hi => ?_, fun i j hij hj => ?_⟩
      · rw [p9]
        cases hbb : b with
        | false =>
          have hz : u = 0 := by
            rcases Nat.eq_zero_or_pos u with hz | hz
            · exact hz
            · have := hb.mpr (by omega)
              rw [hbb] at this
              cases this
          rw [if_pos ⟨rfl, rfl⟩, ← hz, lu]
        | true =>
          have hz : 0 < u := by
            have := hb.mp hbb
            omega
          rw [if_neg (fun q => by cases q.2), lo 0 hz]
          exact (b1 (by omega)).1
      · rw [p10, if_pos rfl, show ((u : Int) + 1 - 1).toNat = u by omega, lu]
      · rw [lo i (by omega), q12]
        by_cases hi2 : i + 1 = u
        · rw [if_pos ⟨by omega, by rw [show u - 1 = i by omega]⟩, hi2, lu]
        · have hlt2 := b4 i (u - 1) (by omega) (by omega)
          rw [if_neg (fun q => by omega), lo (i + 1) (by omega)]
          exact b2 i (by omega)
      · by_cases hi2 : i = u
        · rw [hi2, lu, p2, p11 hS3, if_pos rfl, how, if_pos rfl]
          exact ⟨by omega, hne, rfl⟩
        · have hil : i < u := by omega
          have g := b3 i (by omega)
          rw [lo i hil, p2, p11 hS3, if_neg (by omega), how, if_neg (by omega)]
          exact ⟨by omega, g.2.1, g.2.2⟩
      · rw [lo i (by omega)]
        by_cases hj2 : j = u
        · rw [hj2, lu]
          have g := (b3 i (by omega)).1
          omega
        · rw [lo j (by omega)]
          exact b4 i j hij (by omega)
    · have lk : ∀ i : Nat, li' k i = li k i := fun i => by rw [hli, if_neg (fun q => hkk q.1)]
      rw [p8, if_neg hkk, p9, if_neg (fun q => hkk q.1), p10, if_neg hkk]
      refine ⟨fun hz => ?_, fun i hi => ?_, fun i hi => ?_, fun i j hij hj => ?_⟩
      · rw [lk, lk]; exact c1 hz
      · rw [lk, lk, q12, if_neg (fun q => hkk (by
          have g1 := (c3 i (by omega)).2.2
          have g2 := (b3 (u - 1) (by omega)).2.2
          rw [q.2, g2] at g1
          exact g1.symm))]
        exact c2 i hi
      · have g := c3 i hi
        have g2 := hlt k hk hl i hi
        rw [lk, p2, p11 hS3, if_neg (by omega), how, if_neg (by omega)]
        exact ⟨by omega, g.2.1, g.2.2⟩
      · rw [lk, lk]
        exact c4 i j hij hj
theorem J_151 {e fl' : Int} (hm : pM m) (h : rJ M m) (h0 : 0 ≤ e) (h1 : e < M (m + 1) 0) (hs : M (m + 1) 0 ≤ 2000000000) (hne : (¬ fl' = e) ∧ ysm fl') : rJ (f_151 M (m + 1) e fl') m := by
  have hmm : m = 196 ∨ m = 306 := hm
  obtain ⟨S0, hS⟩ : ∃ S0 : Nat, M (m + 1) 1 = (S0 : Int) := ⟨(M (m + 1) 1).toNat, by have := h.2.1; omega⟩
  unfold f_151
  rw [ylet_eq, ylet_eq, hS, rel2 ⟨by omega, by omega⟩ ⟨by decide, by decide⟩]
  by_cases h40 : e < 40
  · rw [cond_dt h40, ylet_eq]
    obtain ⟨k0, rfl⟩ : ∃ k0 : Nat, e = (k0 : Int) := ⟨e.toNat, by omega⟩
    have ek : ((k0 : Int)).toNat = k0 := Int.toNat_natCast k0
    have e8 : yrd (ywr (yU M (m + 1) 1 ((S0 : Int) + 1)) (m + 1 + 10) (S0 : Int) fl') (m + 1 + 7) (k0 : Int) = M (m + 8) k0 := by
      rw [rd_in (by omega) (by rw [ln_8 hm]; omega), ek, wr_c (by omega), yU_c (by omega)]
    have e10 : yrd (ywr (yU M (m + 1) 1 ((S0 : Int) + 1)) (m + 1 + 10) (S0 : Int) fl') (m + 1 + 9) (k0 : Int) = M (m + 10) k0 := by
      rw [rd_in (by omega) (by rw [ln_10 hm]; omega), ek, wr_c (by omega), yU_c (by omega)]
    rw [e8, e10]
    have hu0 := (h.2.2.1 k0 (by omega) h1).2.2
    have hb : M (m + 8) k0 ≤ 3000 → (yrel 1 (M (m + 8) k0) 0 = true ↔ M (m + 8) k0 ≠ 0) := fun hq => by
      rw [rel1 ⟨by omega, by omega⟩ ⟨by decide, by decide⟩]
      by_cases hz : M (m + 8) k0 = 0
      · rw [decide_eq_true hz]
        exact ⟨(fun q => by cases q), fun q => absurd hz q⟩
      · rw [decide_eq_false hz]
        exact ⟨fun _ => hz, fun _ => rfl⟩
    have wU : ∀ {M1 : yM} {a : Nat} {w : Int}, yln a = 40 → ywr M1 a (k0 : Int) w = yU M1 a k0 w := fun {M1 a w} hl => by
      rw [wr_in (by omega) (by rw [hl]; omega), ek]
    have w11 : S0 < 3000 → ∀ {M1 : yM} {w : Int}, ywr M1 (m + 1 + 10) (S0 : Int) w = yU M1 (m + 1 + 10) S0 w := fun hq {M1 w} => by
      rw [wr_in (by omega) (by rw [ln_11 hm]; omega), Int.toNat_natCast]
    generalize hbb : yrel 1 (M (m + 8) k0) 0 = b at hb ⊢
    cases b with
    | true =>
      show rJ (f_151_37 (ywr (ywr (yU M (m + 1) 1 ((S0 : Int) + 1)) (m + 1 + 10) (S0 : Int) fl') (m + 1 + 11) (M (m + 10) k0) (S0 : Int)) (m + 1) (k0 : Int) (S0 : Int)) m
      unfold f_151_37
      rw [ylet_eq, ylet_eq, wU (ln_10 hm)]
      have e8' : yrd (yU (ywr (ywr (yU M (m + 1) 1 ((S0 : Int) + 1)) (m + 1 + 10) (S0 : Int) fl') (m + 1 + 11) (M (m + 10) k0) (S0 : Int)) (m + 1 + 9) k0 (S0 : Int)) (m + 1 + 7) (k0 : Int) = M (m + 8) k0 := by
        rw [rd_in (by omega) (by rw [ln_8 hm]; omega), ek, yU_c (by omega), wr_c (by omega), wr_c (by omega), yU_c (by omega)]
      rw [e8', wU (ln_8 hm)]
      refine J_sup2 (k0 := k0) (S0 := S0) (fl' := fl') true h (by omega) h1 hS hne hb ?_ ?_ ?_ (fun j => ?_) (fun j => ?_) (fun j => ?_) (fun j => ?_) (fun j => ?_) (fun hq j => ?_) (fun l hq _ hl hl3 j => ?_) (fun q => by cases q)
      · rw [yU_c (by omega), yU_c (by omega), wr_c (by omega), wr_c (by omega), yU_i (by decide)]
      · rw [yU_c (by omega), yU_c (by omega), wr_c (by omega), wr_c (by omega), yU_at]
      · rw [yU_c (by omega), yU_c (by omega), wr_c (by omega), wr_c (by omega), yU_c (by omega)]
      · rw [yU_c (by omega), yU_c (by omega), wr_c (by omega), wr_c (by omega), yU_c (by omega)]
      · rw [yU_c (by omega), yU_c (by omega), wr_c (by omega), wr_c (by omega), yU_c (by omega)]
      · by_cases hj : j = k0
        · rw [if_pos hj, hj]; exact yU_at
        · rw [if_neg hj, yU_i hj, yU_c (by omega), wr_c (by omega), wr_c (by omega), yU_c (by omega)]
      · rw [if_neg (fun q => by cases q.2), yU_c (by omega), yU_c (by omega), wr_c (by omega), wr_c (by omega), yU_c (by omega)]
      · rw [yU_c (by omega)]
        by_cases hj : j = k0
        · rw [if_pos hj, hj]; exact yU_at
        · rw [if_neg hj, yU_i hj, wr_c (by omega), wr_c (by omega), yU_c (by omega)]
      · rw [yU_c (by omega), yU_c (by omega), wr_c (by omega), w11 hq]
        by_cases hj : j = S0
        · rw [if_pos hj, hj]; exact yU_at
        · rw [if_neg hj, yU_i hj, yU_c (by omega)]
      · rw [yU_c (by omega), yU_c (by omega), hl, wr_in (a := m + 1 + 11) (by omega) (by rw [ln_12 hm]; omega), Int.toNat_natCast]
        by_cases hj : j = l
        · rw [if_pos hj, hj]; exact yU_at
        · rw [if_neg hj, yU_i hj, wr_c (by omega), yU_c (by omega)]
    | false =>
      show rJ (f_151_37 (ywr (ywr (yU M (m + 1) 1 ((S0 : Int) + 1)) (m + 1 + 10) (S0 : Int) fl') (m + 1 + 8) (k0 : Int) (S0 : Int)) (m + 1) (k0 : Int) (S0 : Int)) m
      unfold f_151_37
      rw [ylet_eq, ylet_eq, wU (ln_10 hm), wU (ln_9 hm)]
      have e8' : yrd (yU (yU (ywr (yU M (m + 1) 1 ((S0 : Int) + 1)) (m + 1 + 10) (S0 : Int) fl') (m + 1 + 8) k0 (S0 : Int)) (m + 1 + 9) k0 (S0 : Int)) (m + 1 + 7) (k0 : Int) = M (m + 8) k0 := by
        rw [rd_in (by omega) (by rw [ln_8 hm]; omega), ek, yU_c (by omega), yU_c (by omega), wr_c (by omega), yU_c (by omega)]
      rw [e8', wU (ln_8 hm)]
      refine J_sup2 (k0 := k0) (S0 := S0) (fl' := fl') false h (by omega) h1 hS hne hb ?_ ?_ ?_ (fun j => ?_) (fun j => ?_) (fun j => ?_) (fun j => ?_) (fun j => ?_) (fun hq j => ?_) (fun l hq q => by cases q) (fun _ j => ?_)
      · rw [yU_c (by omega), yU_c (by omega), yU_c (by omega), wr_c (by omega), yU_i (by decide)]
      · rw [yU_c (by omega), yU_c (by omega), yU_c (by omega), wr_c (by omega), yU_at]
      · rw [yU_c (by omega), yU_c (by omega), yU_c (by omega), wr_c (by omega), yU_c (by omega)]
      · rw [yU_c (by omega), yU_c (by omega), yU_c (by omega), wr_c (by omega), yU_c (by omega)]
      · rw [yU_c (by omega), yU_c (by omega), yU_c (by omega), wr_c (by omega), yU_c (by omega)]
      · by_cases hj : j = k0
        · rw [if_pos hj, hj]; exact yU_at
        · rw [if_neg hj, yU_i hj, yU_c (by omega), yU_c (by omega), wr_c (by omega), yU_c (by omega)]
      · rw [yU_c (by omega), yU_c (by omega)]
        by_cases hj : j = k0
        · rw [if_pos ⟨hj, rfl⟩, hj]; exact yU_at
        · rw [if_neg (fun q => hj q.1), yU_i hj, wr_c (by omega), yU_c (by omega)]
      · rw [yU_c (by omega)]
        by_cases hj : j = k0
        · rw [if_pos hj, hj]; exact yU_at
        · rw [if_neg hj, yU_i hj, yU_c (by omega), wr_c (by omega), yU_c (by omega)]
      · rw [yU_c (by omega), yU_c (by omega), yU_c (by omega), w11 hq]
        by_cases hj : j = S0
        · rw [if_pos hj, hj]; exact yU_at
        · rw [if_neg hj, yU_i hj, yU_c (by omega)]
      · rw [yU_c (by omega), yU_c (by omega), yU_c (by omega), wr_c (by omega), yU_c (by omega)]
  · rw [cond_df h40]
    obtain ⟨a1, a2, a3, a4, a5, a6⟩ := h
    have en : ∀ b j, b ≠ m + 1 → yU M (m + 1) 1 ((S0 : Int) + 1) b j = M b j := fun b j hb => yU_c hb
    have e10 : yU M (m + 1) 1 ((S0 : Int) + 1) (m + 1) 0 = M (m + 1) 0 := yU_i (by decide)
    have e11 : yU M (m + 1) 1 ((S0 : Int) + 1) (m + 1) 1 = (S0 : Int) + 1 := yU_at
    have es : r_sum (yU M (m + 1) 1 ((S0 : Int) + 1)) m = r_sum M m := sum_same (fun i _ => by rw [e10, en (m + 8) _ (by omega)])
    refine ⟨by rw [e10]; exact a1, by omega, fun k hk hl => ?_, by omega, fun q => by rw [e10] at q; omega, fun q => ?_⟩
    · rw [e10] at hl
      rw [en (m + 6) _ (by omega), en (m + 7) _ (by omega), en (m + 8) _ (by omega), en 1 7 (by omega)]
      exact a3 k hk hl
    · rw [e11] at q
      obtain ⟨ow, li, hc⟩ := a6 (by omega)
      refine ⟨ow, li, fun k hk hl => ?_⟩
      rw [e10] at hl
      obtain ⟨b1, b2, b3, b4⟩ := hc k hk hl
      unfold r_ch
      rw [en (m + 8) _ (by omega), en (m + 9) _ (by omega), en (m + 10) _ (by omega)]
      refine ⟨b1, fun i hi => ?_, fun i hi => ?_, b4⟩
      · rw [en (m + 12) _ (by omega)]; exact b2 i hi
      · rw [en (m + 11) _ (by omega), e11]
        have g := b3 i hi
        exact ⟨by omega, g.2⟩
/-- suppress -/
theorem rel_97 {e : Int} (hm : pM m) (h : rel M m mo de (f :: r, false, bi, true, Y)) (hmd : 0 < Y 1 0) (hs : Y 1 0 ≤ 2000000000) (hfl : 0 ≤ Y 0 16 ∧ Y 0 16 < Y 1 0) (he : 0 ≤ e ∧ e < Y 1 0) : rel (f_97 M m e) m mo de (a_throw f r (a_fly (if Y 0 16 = e then Y else yU Y 1 1 (Y 1 1 + 1)) e)) ∧ rst M (f_97 M m e) m := by
  have e16 : M m 16 = Y 0 16 := h.1.1 hmd
  have e11 : M (m + 1) 1 = Y 1 1 := h.1.2.1 1 (by decide)
  unfold f_97 f_97_10
  rw [e16, rel0 ⟨by omega, by omega⟩ ⟨by omega, by omega⟩]
  by_cases hq : Y 0 16 = e
  · rw [cond_dt hq, if_pos hq, ylet_eq]
    exact ⟨rel_fly h, rst_85⟩
  · rw [cond_df hq, if_neg hq, ylet_eq, ylet_eq]
    have p1 : rel (yU M (m + 1) 1 (M (m + 1) 1 + 1)) m mo de (f :: r, false, bi, true, yU Y 1 1 (Y 1 1 + 1)) := by
      obtain ⟨⟨c1, c2, c3, c4, c5, c6, c7, c8⟩, a2, a3, a4, a5, a6, a7⟩ := h
      dsimp only at c1 c2 c3 c4 c5 c6 c7 c8
      have en : ∀ b j, b ≠ 1 → yU Y 1 1 (Y 1 1 + 1) b j = Y b j := fun b j hb => yU_c hb
      refine ⟨⟨fun q => ?_, fun j hj => ?_, fun e' he' hl => ?_, fun j hj => ?_, fun j hj => ?_, fun j hj => ?_, fun j hj => ?_, fun j hj => ?_⟩, rFs_out a2 (by omega), (yU_c (by omega)).trans a3, (yU_c (by omega)).trans a4, (yU_c (by omega)).trans a5, (yU_c (by omega)).trans a6, (yU_c (by omega)).trans a7⟩
      · dsimp only
        rw [en 0 16 (by decide)]
        exact (yU_c (by omega)).trans e16
      · dsimp only
        rcases (show j = 0 ∨ j = 1 by omega) with rfl | rfl
        · rw [yU_i (by decide), yU_i (by decide)]; exact c2 0 (by decide)
        · rw [yU_at, yU_at, e11]
      · dsimp only at hl ⊢
        have hl : (e' : Int) < Y 1 0 := by rw [yU_i (by decide)] at hl; exact hl
        rw [en _ _ (by decide), en _ _ (by decide), yU_c (by omega), yU_c (by omega)]; exact c3 e' he' hl
      · dsimp only
        rw [en _ _ (by decide), yU_c (by omega)]; exact c4 j hj
      · dsimp only
        rw [en _ _ (by decide), yU_c (by omega)]; exact c5 j hj
      · dsimp only
        rw [en _ _ (by decide), yU_c (by omega)]; exact c6 j hj
      · dsimp only
        rw [en _ _ (by decide), yU_c (by omega)]; exact c7 j hj
      · dsimp only
        rw [en _ _ (by decide), yU_c (by omega)]; exact c8 j hj
    have p2 : eqv (yU M (m + 1) 1 (M (m + 1) 1 + 1)) (f_151 M (m + 1) e (Y 0 16)) m := by
      unfold f_151 f_151_37
      simp only [ylet_eq]
      cases yrel 2 e 40 with
      | false => exact eqv_refl
      | true =>
        show eqv _ (cond _ _ _) m
        cases yrel 1 (yrd (ywr (yU M (m + 1) 1 (M (m + 1) 1 + 1)) (m + 1 + 10) (M (m + 1) 1) (Y 0 16)) (m + 1 + 7) e) 0 with
        | true => exact eqv_trans (eqv_wr (by omega)) (eqv_trans (eqv_wr (by omega)) (eqv_trans (eqv_wr (by omega)) (eqv_wr (by omega))))
        | false => exact eqv_trans (eqv_wr (by omega)) (eqv_trans (eqv_wr (by omega)) (eqv_trans (eqv_wr (by omega)) (eqv_wr (by omega))))
    refine ⟨rel_fly (eqv_rel p2 p1), rst_trans ⟨fun a j hn => (eqv_out p2 a j hn).trans (yU_c (by omega)), fun _ hJ => ?_⟩ rst_85⟩
    have em : M (m + 1) 0 = Y 1 0 := h.1.2.1 0 (by decide)
    exact J_151 hm hJ he.1 (by rw [em]; exact he.2) (by rw [em]; exact hs) ⟨fun q => hq q, ⟨by omega, by omega⟩⟩
/-- print -/
theorem rel_94 {fr : List aF} (hm : pM m) (h : rel M m mo de (fr, fl, bi, ru, Y)) : rel (f_94 M m x y) m mo de (fr, fl, bi', ru, yU Y 13 4 (Y 13 4 + 1)) ∧ rst M (f_94 M m x y) m := by
  have go : ∀ {M1 : yM}, eqv M M1 m → rst M M1 m → rel (f_94_36 M1 m x) m mo de (fr, fl, bi', ru, yU Y 13 4 (Y 13 4 + 1)) ∧ rst M (f_94_36 M1 m x) m := by
    intro M1 h1 hr1
    unfold f_94_36
    rw [ylet_eq, ylet_eq]
    have p1 : eqv M (yU M1 m 10 (M1 m 10 + yw x)) m := eqv_trans h1 (eqv_U (by omega))
    have p2 := eqv_rel p1 h
    rw [rel_rd (k := 4) hm p2 (Or.inl rfl) (by decide) (by rw [ln_13 hm]; decide)]
    exact ⟨rel_wr (k := 4) hm p2 (Or.inl rfl) (by decide) (by rw [ln_13 hm]; decide), rst_trans hr1 (rst_trans (rst_U (by omega)) (rst_wr (by omega)))⟩
  unfold f_94
  rw [ylet_eq]
  cases yrel 3 (yrd M (m + 13) 4) 40 with
  | true => exact go eqv_refl rst_refl
  | false =>
    show rel (ylet _ _) m mo de _ ∧ rst M (ylet _ _) m
    rw [ylet_eq, ylet_eq, ylet_eq]
    exact go (eqv_trans (eqv_wr (by omega)) (eqv_trans (eqv_wr (by omega)) (eqv_wr (by omega)))) (rst_trans (rst_wr (by omega)) (rst_trans (rst_wr (by omega)) (rst_wr (by omega))))
end YMr
