/-! the faults of a program -/
def fR0 (P M M2 : yM) : Prop := eqP P M ∧ eqP P M2 ∧ M2 18 4 = M 18 4 ∧ 0 ≤ M 18 4 ∧ M 18 4 ≤ 202
/-- what a step of the search comes to -/
def fO (P M M2 : yM) (r r2 : Option yM) (Q : Prop) : Prop := ∃ M' M2', r = some M' ∧ r2 = some M2' ∧ fR0 P M' M2' ∧ fS M M' ∧ fS M2 M2' ∧ (M' 18 4 = 0 → M 18 4 = 0 ∧ Q)
section FgA
variable {P M M2 M' : yM} {x y x1 x2 x3 x4 : Int} {N t n : Nat} {Q Q2 : Prop}
theorem f71_p (h : fR0 P M M2) : fR0 P (f_71 M x1 x2 x3 x4) (f_71 M2 x1 x2 x3 x4) ∧ fS M (f_71 M x1 x2 x3 x4) ∧ fS M2 (f_71 M2 x1 x2 x3 x4) ∧ f_71 M x1 x2 x3 x4 18 4 ≠ 0 := by
  obtain ⟨a1, a2, a3, a4, a5⟩ := h
  obtain ⟨b1, b2⟩ := f71_ok (M := M) (x1 := x1) (x2 := x2) (x3 := x3) (x4 := x4) ⟨a4, a5⟩
  obtain ⟨c1, c2⟩ := f71_ok (M := M2) (x1 := x1) (x2 := x2) (x3 := x3) (x4 := x4) (by omega)
  have s1 : fS M (f_71 M x1 x2 x3 x4) := fun a j d1 d2 d3 => b1 a j d2 (by omega)
  have s2 : fS M2 (f_71 M2 x1 x2 x3 x4) := fun a j d1 d2 d3 => c1 a j d2 (by omega)
  have hb : f_71 M x1 x2 x3 x4 18 4 ≠ 0 ∧ 0 ≤ f_71 M x1 x2 x3 x4 18 4 ∧ f_71 M x1 x2 x3 x4 18 4 ≤ 202 := by
    rw [b2]
    by_cases q : M 18 4 < 202
    · rw [if_pos q]; omega
    · rw [if_neg q]; omega
  exact ⟨⟨eqP_S a1 s1, eqP_S a2 s2, by rw [b2, c2, a3], hb.2⟩, s1, s2, hb.1⟩
theorem fO_refl (h : fR0 P M M2) (hq : Q) : fO P M M2 (some M) (some M2) Q := ⟨M, M2, rfl, rfl, h, fS_refl, fS_refl, fun z => ⟨z, hq⟩⟩
theorem fO_mono {r r2 : Option yM} (h : fO P M M2 r r2 Q) (hq : Q → Q2) : fO P M M2 r r2 Q2 := by
  obtain ⟨M', M2', a1, a2, a3, a4, a5, a6⟩ := h
  exact ⟨M', M2', a1, a2, a3, a4, a5, fun z => ⟨(a6 z).1, hq (a6 z).2⟩⟩
theorem fO_bind {r r2 : Option yM} {K K2 : yM → Option yM} (h : fO P M M2 r r2 Q) (hK : ∀ M' M2', fR0 P M' M2' → fO P M' M2' (K M') (K2 M2') Q2) : fO P M M2 (Option.bind r K) (Option.bind r2 K2) (Q ∧ Q2) := by
  obtain ⟨M', M2', a1, a2, a3, a4, a5, a6⟩ := h
  obtain ⟨M3, M4, b1, b2, b3, b4, b5, b6⟩ := hK M' M2' a3
  rw [a1, a2]
  exact ⟨M3, M4, b1, b2, b3, fS_trans a4 b4, fS_trans a5 b5, fun z => ⟨(a6 (b6 z).1).1, (a6 (b6 z).1).2, (b6 z).2⟩⟩
theorem fO_71 {K K2 : yM → Option yM} (h : fR0 P M M2) (hK : ∀ M' M2', fR0 P M' M2' → fO P M' M2' (K M') (K2 M2') Q2) : fO P M M2 (K (f_71 M x1 x2 x3 x4)) (K2 (f_71 M2 x1 x2 x3 x4)) Q := by
  obtain ⟨a1, a2, a3, a4⟩ := f71_p (x1 := x1) (x2 := x2) (x3 := x3) (x4 := x4) h
  obtain ⟨M3, M4, b1, b2, b3, b4, b5, b6⟩ := hK _ _ a1
  exact ⟨M3, M4, b1, b2, b3, fS_trans a2 b4, fS_trans a3 b5, fun z => absurd (b6 z).1 a4⟩
theorem f75_ok (hI : pI P) (hk : kn P) (hN : 91 ≤ N) (h : fR0 P M M2) (hx : 0 ≤ x ∧ x < P 1 7) : fO P M M2 (f_75 N M x1 x) (f_75 N M2 x1 x) (okN N P x) := by
  obtain ⟨a1, a2, a3, a4, a5⟩ := h
  have hr := hI.1
  have e4 : ∀ L : yM, yU L 18 3 0 18 4 = L 18 4 := fun L => yU_i (by decide)
  have e3 : ∀ L : yM, yU L 18 3 0 18 3 = 0 := fun L => yU_at
  have eS : ∀ L : yM, fS L (yU L 18 3 0) := fun L a j d1 d2 d3 => yU_c d1
  have hR1 : fR P (yU M 18 3 0) (yU M2 18 3 0) := ⟨eqP_S a1 (eS _), eqP_S a2 (eS _), by rw [e3, e3], by rw [e4, e4, a3], by rw [e4]; exact ⟨a4, a5⟩, fun j hj => by rw [e3] at hj; omega⟩
  obtain ⟨c1, c2, c3, c4, c5, c6, c7⟩ := push_ok (x := x) hR1 (by rw [e3]; omega) ⟨by omega, by omega⟩ (fun _ => by rw [e3]; omega)
  rw [e3] at c2 c5
  have h1 : one x = 1 := if_neg (by omega)
  have hz := sz_le (n := x.toNat) hI
  obtain ⟨F, rfl⟩ : ∃ F, N = (F + 1) + 90 := ⟨N - 91, by omega⟩
  obtain ⟨M', M2', l', i1, i2, i3, i4, i5, i6, i7, i8, i9, i10⟩ := dfs hI hk hN x1 (F + 1) (x.toNat + 1) x.toNat (by omega) (by omega) _ _ 0 90 c1 (by omega) (by rw [show (0 : Int).toNat = 0 from rfl] at c5; rw [c5 (by omega)]; omega) (by omega) hz (Nat.le_refl _)
  have hend : ∀ L : yM, L 18 3 = 0 → f_75_8 ((F + 1) + 90) ((F + 1) + l') L x1 (l' : Int) = some L := fun L hL => by
    rw [show (F + 1) + l' = (F + l') + 1 by omega, f_75_8, hL]; rfl
  have i6' : M' 18 3 = 0 := i6
  refine ⟨M', M2', ?_, ?_, ⟨i5.1, i5.2.1, i5.2.2.2.1, i5.2.2.2.2.1⟩, fS_trans (eS _) (fS_trans c6 i8), fS_trans (eS _) (fS_trans c7 i9), fun z => ?_⟩
  · unfold f_75
    rw [ylet_eq, ylet_eq, show (90 : Int) = ((90 : Nat) : Int) from rfl, i1, hend _ i6']
  · unfold f_75
    rw [ylet_eq, ylet_eq, show (90 : Int) = ((90 : Nat) : Int) from rfl, i2, hend _ (by rw [i5.2.2.1]; exact i6')]
  · obtain ⟨z1, z2⟩ := i10 z
    rw [c3, e4] at z1
    rw [Int.toNat_of_nonneg hx.1] at z2
    exact ⟨z1, z2⟩
theorem f76_13t (hI : pI P) : ∀ (k fu : Nat) (x2 x4 : Int), 0 ≤ x4 → P 1 0 ≤ x4 + (k : Int) → x4 ≤ 13 → k < fu → ∃ v, ∀ L, eqP P L → f_76_13 N fu L x1 x2 x3 x4 = f_76_39 N N L x1 v 0
  | k, 0, _, _, _, _, _, h => absurd h (by omega)
  | k, fu + 1, x2, x4, h0, h1, h2, h3 => by
    have hr := hI.2.2.1
    by_cases q : P 1 0 ≤ x4
    · refine ⟨x2, fun L hL => ?_⟩
      rw [f_76_13, hL 1 (by decide), rel3 ⟨by omega, by omega⟩ ⟨by omega, by omega⟩, cond_dt q]
    · obtain ⟨k, rfl⟩ : ∃ k', k = k' + 1 := ⟨k - 1, by omega⟩
      cases hb : yrel 1 (ybin 26 (ybin 104 x3 x4) 1) 1 with
      | true =>
        obtain ⟨v, hv⟩ := f76_13t hI k fu x2 (x4 + 1) (by omega) (by omega) (by omega) (by omega)
        refine ⟨v, fun L hL => ?_⟩
        rw [f_76_13, hL 1 (by decide), rel3 ⟨by omega, by omega⟩ ⟨by omega, by omega⟩, cond_df q, hb, cond_true]
        exact hv L hL
      | false =>
        obtain ⟨v, hv⟩ := f76_13t hI k fu (ybin 26 x2 (ybin 105 (yrd P 4 x4) (-1))) (x4 + 1) (by omega) (by omega) (by omega) (by omega)
        refine ⟨v, fun L hL => ?_⟩
        rw [f_76_13, hL 1 (by decide), rel3 ⟨by omega, by omega⟩ ⟨by omega, by omega⟩, cond_df q, hb, cond_false, ylet_eq, rd_cg (hL 4 (by decide))]
        exact hv L hL
theorem f76_39t (hI : pI P) : ∀ (k fu : Nat) (x4 : Int) (M M2 : yM), fR0 P M M2 → 0 ≤ x4 → P 1 0 ≤ x4 + (k : Int) → x4 ≤ 13 → k < fu → fO P M M2 (f_76_39 N fu M x1 x2 x4) (f_76_39 N fu M2 x1 x2 x4) True
  | k, 0, _, _, _, _, _, _, _, h => absurd h (by omega)
  | k, fu + 1, x4, M, M2, hR, h0, h1, h2, h3 => by
    have hr := hI.2.2.1
    rw [f_76_39, f_76_39, hR.1 1 (by decide), hR.2.1 1 (by decide), rel3 ⟨by omega, by omega⟩ ⟨by omega, by omega⟩]
    by_cases q : P 1 0 ≤ x4
    · rw [cond_dt q, cond_dt q]
      exact fO_refl hR trivial
    · obtain ⟨k, rfl⟩ : ∃ k', k = k' + 1 := ⟨k - 1, by omega⟩
      have ih : ∀ M M2, fR0 P M M2 → fO P M M2 (f_76_64 N (f_76_39 N fu) M x1 x2 x4) (f_76_64 N (f_76_39 N fu) M2 x1 x2 x4) True := fun M M2 h => f76_39t hI k fu (x4 + 1) M M2 h (by omega) (by omega) (by omega) (by omega)
      rw [cond_df q, cond_df q, rd_cg (hR.1 3 (by decide)), rd_cg (hR.2.1 3 (by decide))]
      cases yrel 1 (ybin 26 (ybin 104 x2 x4) 1) 1 with
      | true => exact ih _ _ hR
      | false =>
        rw [cond_false, cond_false]
        cases yrel 1 (yrd P 3 x4) 1 with
        | true => exact ih _ _ hR
        | false =>
          rw [cond_false, cond_false, ylet_eq, ylet_eq]
          exact fO_71 (K := fun t7 => f_76_64 N (f_76_39 N fu) t7 x1 x2 x4) (K2 := fun t7 => f_76_64 N (f_76_39 N fu) t7 x1 x2 x4) hR ih
theorem f76_ok (hI : pI P) (hN : 91 ≤ N) (h : fR0 P M M2) : fO P M M2 (f_76 N M x1) (f_76 N M2 x1) True := by
  have hr := hI.2.2.1
  have e : ∀ L, eqP P L → f_108 L x1 = f_108 P x1 := fun L hL => by
    unfold f_108 f_109
    rw [rd_cg (hL 6 (by decide)), rd_cg (hL 16 (by decide))]
  obtain ⟨v, hv⟩ := f76_13t (N := N) (x1 := x1) (x3 := yrd P 5 x1) hI 13 N (f_108 P x1) 0 (by omega) (by omega) (by omega) (by omega)
  have e2 : ∀ L, eqP P L → f_76 N L x1 = f_76_39 N N L x1 v 0 := fun L hL => by
    unfold f_76
    rw [ylet_eq, ylet_eq, e L hL, rd_cg (hL 5 (by decide)), hv L hL]
  rw [e2 M h.1, e2 M2 h.2.1]
  exact f76_39t hI 13 N 0 M M2 h (by omega) (by omega) (by omega) (by omega)
/-- no fault in the procedures from j on -/
def okP (N : Nat) (P : yM) (j : Int) : Prop := ∀ p : Nat, j ≤ (p : Int) → (p : Int) < P 1 4 → 0 ≤ P 6 p ∧ okN N P (P 6 p)
theorem f74_5t (hI : pI P) (hk : kn P) (hN : 91 ≤ N) : ∀ (k fu : Nat) (j : Nat) (M M2 : yM), fR0 P M M2 → P 1 4 ≤ (j : Int) + (k : Int) → (j : Int) ≤ P 1 4 → k < fu → fO P M M2 (f_74_5 N fu M (j : Int)) (f_74_5 N fu M2 (j : Int)) (okP N P (j : Int))
  | k, 0, _, _, _, _, _, _, h => absurd h (by omega)
  | k, fu + 1, j, M, M2, hR, h1, h2, h3 => by
    have hr := hI.2.1
    rw [f_74_5, f_74_5, hR.1 1 (by decide), hR.2.1 1 (by decide), rel3 ⟨by omega, by omega⟩ ⟨by omega, by omega⟩]
    by_cases q : P 1 4 ≤ (j : Int)
    · rw [cond_dt q, cond_dt q]
      exact fO_refl hR fun p h4 h5 => absurd h5 (by omega)
    · obtain ⟨k, rfl⟩ : ∃ k', k = k' + 1 := ⟨k - 1, by omega⟩
      have h6 := hI.2.2.2.2.2.2.1 j (by omega)
      have hnn := hI.1
      have ih : ∀ M M2, fR0 P M M2 → fO P M M2 (f_74_33 N (f_74_5 N fu) M (j : Int)) (f_74_33 N (f_74_5 N fu) M2 (j : Int)) (okP N P ((j : Int) + 1)) := fun M M2 h => f74_5t hI hk hN k fu (j + 1) M M2 h (by omega) (by omega) (by omega)
      rw [cond_df q, cond_df q]
      simp only [ylet_eq]
      rw [rd_cg (hR.1 6 (by decide)), rd_cg (hR.2.1 6 (by decide)), rd_in (a := 6) (by omega) (show (j : Int) < 8 by omega), Int.toNat_natCast, rel1 ⟨by omega, by omega⟩ ⟨by decide, by decide⟩]
      by_cases q6 : P 6 j = -1
      · rw [decide_eq_true q6, Bool.not_true, cond_false, cond_false]
        exact fO_71 (K := fun t7 => f_74_33 N (f_74_5 N fu) t7 (j : Int)) (K2 := fun t7 => f_74_33 N (f_74_5 N fu) t7 (j : Int)) hR ih
      · rw [decide_eq_false q6, Bool.not_false, cond_true, cond_true]
        have hb := h6.resolve_left q6
        refine fO_mono (fO_bind (f75_ok hI hk hN hR ⟨hb.1, hb.2.1⟩) fun M3 M4 h => fO_bind (f76_ok hI hN h) ih) fun hq p h4 h5 => ?_
        by_cases e : p = j
        · subst e
          exact ⟨hb.1, hq.1⟩
        · exact hq.2.2 p (by omega) h5
theorem f74_ok (hI : pI P) (hk : kn P) (hN : 91 ≤ N) (h : eqP P M) (h2 : eqP P M2) : ∃ M' M2', f_74 N M = some M' ∧ f_74 N M2 = some M2' ∧ fS M M' ∧ fS M2 M2' ∧ M2' 18 4 = M' 18 4 ∧ (0 ≤ M' 18 4 ∧ M' 18 4 ≤ 202) ∧ (M' 18 4 = 0 → okP N P 0) := by
  have e4 : ∀ L : yM, yU L 18 4 0 18 4 = 0 := fun L => yU_at
  have eS : ∀ L : yM, fS L (yU L 18 4 0) := fun L a j d1 d2 d3 => yU_c d1
  have hr := hI.2.1
  have hR : fR0 P (yU M 18 4 0) (yU M2 18 4 0) := ⟨eqP_S h (eS _), eqP_S h2 (eS _), by rw [e4, e4], by rw [e4]; omega, by rw [e4]; omega⟩
  obtain ⟨M', M2', a1, a2, a3, a4, a5, a6⟩ := f74_5t hI hk hN 8 N 0 _ _ hR (by omega) (by omega) (by omega)
  refine ⟨M', M2', ?_, ?_, fS_trans (eS _) a4, fS_trans (eS _) a5, a3.2.2.1, a3.2.2.2, fun z => (a6 z).2⟩
  · unfold f_74
    rw [ylet_eq]; exact a1
  · unfold f_74
    rw [ylet_eq]; exact a2
/-- without faults the program is sound -/
theorem pA_ok (hI : pI P) (hk : kn P) (hN : 91 ≤ N) (h : okP N P 0) : pA P := by
  have hr := hI.1
  have body : ∀ (k n : Nat), (n : Int) < P 1 7 → P 1 7 ≤ (n : Int) + (k : Int) → P 13 n ≠ -1 → ∃ p : Nat, (p : Int) < P 1 4 ∧ 0 ≤ P 6 p ∧ an P (P 6 p).toNat n := by
    intro k
    induction k with
    | zero => intro n h1 h2; omega
    | succ k ih =>
      intro n h1 h2 h3
      obtain ⟨d1a, d1b⟩ := (hk n h1).1
      rcases hI.2.2.2.2.2.1 n h1 with q | q
      · have e := (d1a q).1
        rcases hI.2.2.2.2.2.2.2.1 n h1 with q2 | ⟨q3, q4, q5⟩
        · omega
        · exact ⟨(P 12 n).toNat, by omega, by omega, by rw [q5, Int.toNat_natCast]; exact an_rfl⟩
      · obtain ⟨w, hw⟩ : ∃ w : Nat, P 11 n = (w : Int) := ⟨(P 11 n).toNat, by omega⟩
        have e := (d1b w hw).1
        obtain ⟨p, p1, p2, p3⟩ := ih w (by omega) (by omega) (by omega)
        exact ⟨p, p1, p2, an_up hw p3⟩
  refine ⟨hI.1, hI.2.1, hI.2.2.1, hI.2.2.2.1, fun n hn => ?_, fun n w hn hw => (hk n hn).1.2 w hw, fun n hn h13 => ?_⟩
  · rcases hI.2.2.2.2.2.1 n hn with q | q
    · exact Or.inl q
    · exact Or.inr ⟨q.1, q.2.1⟩
  · obtain ⟨p, p1, p2, p3⟩ := body 90 n hn (by omega) h13
    have h1 := ((h p (by omega) p1).2.resolve_left (by omega)) n hn p3
    obtain ⟨v, hv, _, hv3⟩ := f72_ok (n := n) hI hn (d1_r hI (fun n hn => (hk n hn).1) hn).2 hN
    rw [hv] at h1
    exact hv3 (Option.some.inj h1)
theorem bO_ok (hI : pI P) (hk : kn P) {p : Nat} (hp : (p : Int) < P 1 4) (h6 : 0 ≤ P 6 p) : bO P p := by
  obtain ⟨b1, b2, b3, b4, b5⟩ := (hI.2.2.2.2.2.2.1 p hp).resolve_left (by omega)
  have e := (hk (P 6 p).toNat (by omega)).1.1 b4
  refine ⟨b1, b2, b3, by rw [e.1, b5]; omega, e.2.1, e.2.2⟩
end FgA
