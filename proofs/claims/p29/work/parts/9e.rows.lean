/-! two runs side by side: rows -/
section PtA
variable {cc d e i n K : Nat} {P M N M' N' M0 N0 X Y : yM} {b : Prop} {S S' : Nat → Prop} {v v' x y z f to g pl ki s k isT x1 x2 x3 x4 x5 : Int}
theorem f140_full {M : yM} (hI : tI M) (h : ¬ M 21 1 < 32768) : f_140 M x1 x2 x3 x4 = some M := by
  have := hI.1
  have := hI.2.1
  unfold f_140
  rw [yw_of (x := M 21 1) (by omega) (by omega), if_neg h]
/-- does the guard see: the same in both -/
theorem pq_g7 (h : pq cc P b S e v M N) (hx2 : -1 ≤ x2 ∧ x2 ≤ 390) : ∀ (n : Nat) (x3 x4 : Int), -1 ≤ x3 → x3 < M 96 7 → f_49_7 K n N x2 x3 x4 = f_49_7 K n M x2 x3 x4
  | 0, _, _, _, _ => rfl
  | n + 1, x3, x4, h0, h1 => by
    have h390 := h.1.2.2.2.2.2.1
    have e19 : f_49_19 K N x2 x3 = f_49_19 K M x2 x3 := rfl
    rw [f_49_7, f_49_7, e19, rel5 ⟨by omega, by omega⟩ ⟨by omega, by omega⟩]
    by_cases q : x3 ≤ x2
    · rw [cond_dt q, cond_dt q]
    · rw [cond_df q, cond_df q]
      cases yrel 5 x4 0 with
      | true => rfl
      | false =>
        have hq := h.2.2.1 x3.toNat (by omega)
        rw [cond_false, cond_false, ylet_eq, ylet_eq, rd_in (a := 99) (by omega) (by show x3 < ((390 : Nat) : Int); omega), rd_in (a := 99) (by omega) (by show x3 < ((390 : Nat) : Int); omega), hq.1.2.1]
        exact pq_g7 h hx2 n _ _ hq.2.1.1 (by have := hq.2.1.2; omega)
theorem pq_49 (h : pq cc P b S e v M N) (hx2 : -1 ≤ x2 ∧ x2 ≤ 390) {t : Nat} (ht : (t : Int) < M cc 0) : f_49 K N (t : Int) x2 = f_49 K M (t : Int) x2 := by
  have hl := h.1.1.1.1
  obtain ⟨-, c2, -, c4⟩ := h.2.1.1 t ht
  unfold f_49
  rw [ylet_eq, ylet_eq, rd_in (a := 101) (by omega) (by show (t : Int) < ((300 : Nat) : Int); omega), rd_in (a := 101) (by omega) (by show (t : Int) < ((300 : Nat) : Int); omega), Int.toNat_natCast, c2.1]
  exact pq_g7 h hx2 K _ _ c4.1 c4.2
/-- only the table grows; what is new ends at to at the latest -/
def tN (to : Int) (M M' : yM) : Prop := (∀ a j, a ≠ 21 → a ≠ 22 → M' a j = M a j) ∧ M 21 1 ≤ M' 21 1 ∧ tI M' ∧ (∀ j : Nat, (j : Int) < 4 * M 21 1 → M' 22 j = M 22 j) ∧ ∀ r : Nat, M 21 1 ≤ (r : Int) → (r : Int) < M' 21 1 → M' 22 (4 * r + 1) ≤ to
theorem tN_rfl (h : tI M) : tN to M M := ⟨fun _ _ _ _ => rfl, Int.le_refl _, h, fun _ _ => rfl, fun r h1 h2 => absurd h2 (by omega)⟩
theorem tN_trans (h0 : 0 ≤ M 21 1) (h1 : tN to M X) (h2 : tN to X Y) : tN to M Y := by
  obtain ⟨a1, a2, a3, a4, a5⟩ := h1
  obtain ⟨b1, b2, b3, b4, b5⟩ := h2
  refine ⟨fun a j q1 q2 => (b1 a j q1 q2).trans (a1 a j q1 q2), by omega, b3, fun j hj => (b4 j (by omega)).trans (a4 j hj), fun r r1 r2 => ?_⟩
  rcases Int.lt_or_le r (X 21 1) with q | q
  · rw [b4 (4 * r + 1) (by omega)]; exact a5 r r1 q
  · exact b5 r q r2
theorem tN_140 (h : tI M) (hk : x2 ≤ to) : ∃ M', f_140 M x1 x2 x3 x4 = some M' ∧ tN to M M' := by
  obtain ⟨M', e1, q1, q2, q3⟩ := f140_ok (x1 := x1) (x2 := x2) (x3 := x3) (x4 := x4) h
  refine ⟨M', e1, ?_⟩
  have h0 := h.1
  by_cases hf : M 21 1 < 32768
  · obtain ⟨r1, r2, r3, r4, r5, r6⟩ := q3 hf
    refine ⟨q2, by omega, q1, r2, fun r s1 s2 => ?_⟩
    rw [show 4 * r + 1 = (4 * M 21 1 + 1).toNat by omega, r4]
    exact hk
  · rw [f140_full h hf] at e1
    cases e1
    exact tN_rfl h
/-- the rows of one run: it ends, and only the table grows -/
theorem rw_1 (hK : 1000 ≤ K) (ht0 : 0 ≤ to) (ht : to ≤ 301) : ∀ (n : Nat) {M : yM} {x6 x7 x8 : Int}, tI M → 0 ≤ x8 → x8 ≤ 302 → 302 - x8 < n → ∃ M', f_61_11 K cc n M to x3 x4 x5 x6 x7 x8 = some M' ∧ tN to M M'
  | 0, _, _, _, _, _, _, _, h => absurd h (by omega)
  | n + 1, M, x6, x7, x8, hI, h0, h1, h2 => by
    rw [f_61_11, rel4 ⟨by omega, by omega⟩ ⟨by omega, by omega⟩]
    by_cases hc : to < x8
    · rw [cond_dt hc]
      exact ⟨M, rfl, tN_rfl hI⟩
    · rw [cond_df hc]
      have ih : ∀ {M : yM} {x6 x7 : Int}, tI M → ∃ M', f_61_11 K cc n M to x3 x4 x5 x6 x7 (x8 + 1) = some M' ∧ tN to M M' := fun {M x6 x7} hI => rw_1 hK ht0 ht n hI (by omega) (by omega) (by omega)
      have h39 : ∃ M', f_61_39 K cc (f_61_11 K cc n) M to x3 x4 x5 x6 x7 x8 = some M' ∧ tN to M M' := by
        unfold f_61_39 f_61_48 f_61_54
        cases yrel 0 x7 0 with
        | true => exact ih hI
        | false =>
          obtain ⟨M1, e1, q1⟩ := tN_140 (x1 := x6) (x2 := x8) (x3 := x4) (x4 := x5) hI (by omega : x8 ≤ to)
          rw [cond_false, e1]
          obtain ⟨M2, e2, q2⟩ := ih (M := M1) (x6 := x8 + 1) (x7 := 0) q1.2.2.1
          exact ⟨M2, e2, tN_trans hI.1 q1 q2⟩
      have h34 : ∃ M', f_61_34 K cc (f_61_11 K cc n) M to x3 x4 x5 x6 x8 = some M' ∧ tN to M M' := ih hI
      have h37 : ∀ u, ∃ M', f_61_37 K cc (f_61_11 K cc n) M to x3 x4 x5 x6 x8 u = some M' ∧ tN to M M' := fun u => ih hI
      cases yrel 3 x8 to with
      | true => exact h39
      | false =>
        obtain ⟨w, e49, -⟩ := T_49 (M := M) (x1 := x8) (x2 := x3) hK
        rw [cond_false, e49]
        show ∃ M', cond (yrel 0 w 0) _ _ = some M' ∧ _
        cases yrel 0 w 0 with
        | true => exact h39
        | false =>
          rw [cond_false]
          cases yrel 1 x7 0 with
          | true => exact h34
          | false =>
            rw [cond_false]
            cases yrel 0 (M 96 14) 0 with
            | true => exact h34
            | false =>
              rw [cond_false]
              cases yrel 0 (f_42 M (yrd M (cc + 1) x8)) 0 with
              | true => exact h37 0
              | false => exact h34
/-- both tables alike -/
def tE (M N : yM) : Prop := N 21 1 = M 21 1 ∧ ∀ j : Nat, (j : Int) < 4 * M 21 1 → N 22 j = M 22 j
/-- the rows of two runs that both prune, or both don't -/
theorem rw_2 (hcc : pC cc) (h : pq cc P b S e v M0 N0) (h14 : N0 96 14 = M0 96 14) (hg : -1 ≤ x3 ∧ x3 ≤ 390) (ht0 : 0 ≤ to) (ht : to ≤ M0 cc 0) : ∀ (n : Nat) {M N X Y : yM} {x6 x7 x8 : Int}, (∀ a j, a ≠ 21 → a ≠ 22 → M a j = M0 a j) → (∀ a j, a ≠ 21 → a ≠ 22 → N a j = N0 a j) → tI M → tI N → tE M N → 0 ≤ x8 → x8 ≤ 302 → f_61_11 K cc n M to x3 x4 x5 x6 x7 x8 = some X → f_61_11 K cc n N to x3 x4 x5 x6 x7 x8 = some Y → tE X Y
  | 0, _, _, _, _, _, _, _, _, _, _, _, _, _, _, q, _ => by cases q
  | n + 1, M, N, X, Y, x6, x7, x8, hM, hN, hIM, hIN, hE, h0, h1, eX, eY => by
    have hr := cc_rg hcc
    have hl := h.1.1.1.1
    rw [f_61_11, rel4 ⟨by omega, by omega⟩ ⟨by omega, by omega⟩] at eX eY
    by_cases hc : to < x8
    · rw [cond_dt hc] at eX eY
      cases eX
      cases eY
      exact hE
    · rw [cond_df hc, rel3 ⟨by omega, by omega⟩ ⟨by omega, by omega⟩] at eX eY
      have ih : ∀ {M N X Y : yM} {x6 x7 : Int}, (∀ a j, a ≠ 21 → a ≠ 22 → M a j = M0 a j) → (∀ a j, a ≠ 21 → a ≠ 22 → N a j = N0 a j) → tI M → tI N → tE M N → f_61_11 K cc n M to x3 x4 x5 x6 x7 (x8 + 1) = some X → f_61_11 K cc n N to x3 x4 x5 x6 x7 (x8 + 1) = some Y → tE X Y := fun {M N X Y x6 x7} q1 q2 q3 q4 q5 q6 q7 => rw_2 hcc h h14 hg ht0 ht n q1 q2 q3 q4 q5 (by omega) (by omega) q6 q7
      have h39 : ∀ {X Y : yM}, f_61_39 K cc (f_61_11 K cc n) M to x3 x4 x5 x6 x7 x8 = some X → f_61_39 K cc (f_61_11 K cc n) N to x3 x4 x5 x6 x7 x8 = some Y → tE X Y := fun {X Y} q1 q2 => by
        unfold f_61_39 f_61_48 f_61_54 at q1 q2
        cases hz : yrel 0 x7 0 with
        | true =>
          rw [hz] at q1 q2
          exact ih hM hN hIM hIN hE q1 q2
        | false =>
          rw [hz, cond_false] at q1 q2
          obtain ⟨M1, e1, p1, p2, p3⟩ := f140_ok (x1 := x6) (x2 := x8) (x3 := x4) (x4 := x5) hIM
          obtain ⟨N1, e2, o1, o2, o3⟩ := f140_ok (x1 := x6) (x2 := x8) (x3 := x4) (x4 := x5) hIN
          rw [e1] at q1
          rw [e2] at q2
          refine ih (fun a j r1 r2 => (p2 a j r1 r2).trans (hM a j r1 r2)) (fun a j r1 r2 => (o2 a j r1 r2).trans (hN a j r1 r2)) p1 o1 ?_ q1 q2
          by_cases hf : M 21 1 < 32768
          · obtain ⟨r1, r2, r3, r4, r5, r6⟩ := p3 hf
            obtain ⟨s1, s2, s3, s4, s5, s6⟩ := o3 (by rw [hE.1]; exact hf)
            rw [hE.1] at s1 s2 s3 s4 s5 s6
            have := hIM.1
            refine ⟨by rw [r1, s1], fun j hj => ?_⟩
            rw [r1] at hj
            rcases (show (j : Int) < 4 * M 21 1 ∨ j = (4 * M 21 1).toNat ∨ j = (4 * M 21 1 + 1).toNat ∨ j = (4 * M 21 1 + 2).toNat ∨ j = (4 * M 21 1 + 3).toNat by omega) with q | q | q | q | q
            · rw [r2 j q, s2 j q]; exact hE.2 j q
            · rw [q, r3, s3]
            · rw [q, r4, s4]
            · rw [q, r5, s5]
            · rw [q, r6, s6]
          · rw [f140_full hIM hf] at e1
            rw [f140_full hIN (by rw [hE.1]; exact hf)] at e2
            cases e1
            cases e2
            exact hE
      by_cases he : to ≤ x8
      · rw [cond_dt he] at eX eY
        exact h39 eX eY
      · rw [cond_df he] at eX eY
        have ef : ∀ {Q R : yM}, (∀ a j, a ≠ 21 → a ≠ 22 → Q a j = R a j) → f_49 K Q x8 x3 = f_49 K R x8 x3 := fun {Q R} q => gd_cg (funext fun j => q _ _ (by omega) (by omega)) (funext fun j => q _ _ (by omega) (by omega))
        have e49 : f_49 K N x8 x3 = f_49 K M x8 x3 := by
          rw [ef hM, ef hN]
          have := pq_49 (K := K) h hg (t := x8.toNat) (by omega)
          rw [show ((x8.toNat : Nat) : Int) = x8 by omega] at this
          exact this
        have h300 : yln (cc + 1) = 300 := by
          obtain ⟨p, hp, rfl⟩ := hcc
          exact ln_c hp ⟨by omega, by omega⟩
        have e42 : yrd N (cc + 1) x8 = yrd M (cc + 1) x8 := by
          rw [rd_in h0 (by rw [h300]; omega), rd_in h0 (by rw [h300]; omega), hM _ _ (by omega) (by omega), hN _ _ (by omega) (by omega)]
          exact (h.2.1.1 x8.toNat (by omega)).1 1 (by omega) (by omega)
        have e4 : ∀ u, f_42 N u = f_42 M u := fun u => rfl
        rw [e49, e42, e4, hN 96 14 (by decide) (by decide), h14, ← hM 96 14 (by decide) (by decide)] at eY
        cases hw : f_49 K M x8 x3 with
        | none => rw [hw] at eX; cases eX
        | some w =>
          rw [hw] at eX eY
          have eX' : cond (yrel 0 w 0) _ _ = some X := eX
          have eY' : cond (yrel 0 w 0) _ _ = some Y := eY
          cases h1 : yrel 0 w 0 with
          | true =>
            rw [h1] at eX' eY'
            exact h39 eX' eY'
          | false =>
            rw [h1, cond_false] at eX' eY'
            cases h2 : yrel 1 x7 0 with
            | true =>
              rw [h2] at eX' eY'
              exact ih hM hN hIM hIN hE eX' eY'
            | false =>
              rw [h2, cond_false] at eX' eY'
              cases h3 : yrel 0 (M 96 14) 0 with
              | true =>
                rw [h3] at eX' eY'
                exact ih hM hN hIM hIN hE eX' eY'
              | false =>
                rw [h3, cond_false] at eX' eY'
                cases h4 : yrel 0 (f_42 M (yrd M (cc + 1) x8)) 0 with
                | true =>
                  rw [h4] at eX' eY'
                  exact ih hM hN hIM hIN hE eX' eY'
                | false =>
                  rw [h4] at eX' eY'
                  exact ih hM hN hIM hIN hE eX' eY'
end PtA
