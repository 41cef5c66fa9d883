/-! what can be thrown, class by class; what is told grows till it is closed -/
/-- as told, but for what procedures tell -/
def eq5 (X Y : yM) : Prop := ∀ a j, 1 ≤ a ∧ a ≤ 12 ∧ a ≠ 5 → Y a j = X a j
section PagA
variable {M N X Y Z : yM} {s a b c p q v t k z : Int} {n i j x : Nat}
theorem bb {b d : Bool} (h : b = true ↔ d = true) : b = d := Bool.eq_iff_iff.mpr h
theorem tb_cg {x : Nat} {u v : Int} (h : tb u x = tb v x) : (tb u x = true ↔ tb v x = true) := by rw [h]
/-- each class for itself -/
theorem vC_bit (hI : pI X) (hn : (n : Int) < X 1 7) (h : eq5 X Y) (h14 : Y 14 n = X 14 n) (hx : x < 32) (ht : ∀ q : Nat, (q : Int) < X 1 4 → tb (Y 5 q) x = tb (X 5 q) x) (hp : ∀ j : Nat, j < n → tb (Y 16 j) x = tb (X 16 j) x) (hq : ∀ j : Nat, j < n → Y 17 j = X 17 j) : tb (vC Y n) x = tb (vC X n) x := by
  have hO := hI.2.2.2.1 n hn
  have e7 : Y 7 n = X 7 n := h 7 _ (by decide)
  have e8 : Y 8 n = X 8 n := h 8 _ (by decide)
  have e9 : Y 9 n = X 9 n := h 9 _ (by decide)
  have e10 : Y 10 n = X 10 n := h 10 _ (by decide)
  have eB : ptB Y n = ptB X n := by unfold ptB; rw [e7, e9]
  have eC : ptC Y n = ptC X n := by unfold ptC; rw [e7, e10]
  have hB := ptB_rg hI hn
  have hC := ptC_rg hI hn
  have cp : ∀ {y : Int}, y = -1 ∨ (0 ≤ y ∧ y < (n : Int)) → tb (cpt Y y) x = tb (cpt X y) x := fun {y} hy => by
    unfold cpt
    by_cases q : y = -1
    · rw [if_pos q, if_pos q]
    · rw [if_neg q, if_neg q]
      exact hp _ (by omega)
  have tp : ∀ {y : Int}, y = -1 ∨ (0 ≤ y ∧ y < X 1 4) → tb (tpt Y y) x = tb (tpt X y) x := fun {y} hy => by
    unfold tpt
    by_cases q : y = -1
    · rw [if_pos q, if_pos q]
    · rw [if_neg q, if_neg q]
      exact ht _ (by omega)
  unfold vC
  rw [e7, e8, e9, e10, h14, h 8 (X 14 n).toNat (by decide), eB, eC]
  by_cases q9 : X 7 n = 9
  · have o := (hO.2.2.2.2.2.2.1 q9).2
    rw [if_pos q9, if_pos q9]
    exact ht _ (by omega)
  rw [if_neg q9, if_neg q9]
  by_cases q10 : X 7 n = 10
  · rw [if_pos q10, if_pos q10]
  rw [if_neg q10, if_neg q10]
  by_cases q11 : X 7 n = 11
  · have o := hO.2.2.2.2.2.2.2.2.1 q11
    have hc := prc_c hn o.2.2.1
    rw [if_pos q11, if_pos q11]
    have oY : (Y 8 n = -1 ∨ prt Y n (Y 8 n)) ∧ prt Y n (Y 9 n) := by
      have pp : ∀ {y : Int}, prt X n y → prt Y n y := fun {y} hy => ⟨hy.1, hy.2.1, by rw [h 11 _ (by decide)]; exact hy.2.2.1, by rw [h 7 _ (by decide)]; exact hy.2.2.2⟩
      rw [e8, e9]
      exact ⟨o.1.imp id pp, pp o.2.1⟩
    refine bb ?_
    rw [vT_tb hx oY, vT_tb hx ⟨o.1, o.2.1⟩, e8, e9, e10, chn_cg (fun j => h 10 j (by decide))]
    have hnp : npt Y (X 8 n) ↔ npt X (X 8 n) := npt_cg hq (prt_y o.1)
    have k1 : tb (Y 16 (X 8 n).toNat) x = tb (X 16 (X 8 n).toNat) x ∨ X 8 n = -1 := by
      rcases prt_y o.1 with r | r
      · exact Or.inr r
      · exact Or.inl (hp _ (by omega))
    have k2 : tb (Y 16 (X 9 n).toNat) x = tb (X 16 (X 9 n).toNat) x := hp _ (by have := o.2.1; unfold prt at this; omega)
    have k3 : ∀ c, c ∈ chn X 90 (X 10 n) → tb (Y 16 c) x = tb (X 16 c) x ∧ tb (Y 4 (Y 8 c).toNat) x = tb (X 4 (X 8 c).toNat) x := fun c hcc => by
      have := chn_in hI _ _ hc.1 c hcc
      exact ⟨hp c (by omega), by rw [h 8 c (by decide), h 4 _ (by decide)]⟩
    have k4 : (∀ c, c ∈ chn X 90 (X 10 n) → tb (Y 4 (Y 8 c).toNat) x = false) ↔ ∀ c, c ∈ chn X 90 (X 10 n) → tb (X 4 (X 8 c).toNat) x = false := ⟨fun z c hcc => by rw [← (k3 c hcc).2]; exact z c hcc, fun z c hcc => by rw [(k3 c hcc).2]; exact z c hcc⟩
    have k5 : (∃ c, c ∈ chn X 90 (X 10 n) ∧ tb (Y 16 c) x = true) ↔ ∃ c, c ∈ chn X 90 (X 10 n) ∧ tb (X 16 c) x = true := ⟨fun ⟨c, hcc, z⟩ => ⟨c, hcc, by rw [← (k3 c hcc).1]; exact z⟩, fun ⟨c, hcc, z⟩ => ⟨c, hcc, by rw [(k3 c hcc).1]; exact z⟩⟩
    rw [k4, k5, k2]
    rcases k1 with k1 | k1
    · rw [k1, not_congr hnp, and_congr_left' hnp]
    · rw [not_congr hnp]
      have d1 : ¬ npt Y (X 8 n) := fun r => r.1 k1
      have d2 : ¬ npt X (X 8 n) := fun r => r.1 k1
      constructor
      · rintro (⟨r, -⟩ | ⟨r, r2 | r2 | r2⟩)
        · exact absurd r d1
        · exact Or.inr ⟨r, Or.inl r2⟩
        · exact Or.inr ⟨r, Or.inr (Or.inl r2)⟩
        · exact absurd k1 r2.1
      · rintro (⟨r, -⟩ | ⟨r, r2 | r2 | r2⟩)
        · exact absurd r d2
        · exact Or.inr ⟨r, Or.inl r2⟩
        · exact Or.inr ⟨r, Or.inr (Or.inl r2)⟩
        · exact absurd k1 r2.1
  rw [if_neg q11, if_neg q11]
  by_cases q12 : X 7 n = 12
  · have o := (hO.2.2.2.2.2.2.2.2.2.1 q12).2.1
    rw [if_pos q12, if_pos q12]
    exact cp (prt_x o)
  rw [if_neg q12, if_neg q12]
  by_cases q13 : X 7 n = 13
  · have o := hO.2.2.2.2.2.2.2.2.2.2.1 q13
    rw [if_pos q13, if_pos q13, tb_or, tb_or, tb_or, tb_or, tp o.2.1, tp o.2.2.1, cp (prt_x o.1)]
  rw [if_neg q13, if_neg q13]
  by_cases q14 : X 7 n = 14
  · rw [if_pos q14, if_pos q14]
  rw [if_neg q14, if_neg q14]
  by_cases q15 : X 7 n = 15
  · rw [if_pos q15, if_pos q15]
  rw [if_neg q15, if_neg q15, tb_or, tb_or, cp (by omega), cp (by omega)]
theorem kn_bit (hI : pI X) (h : eq5 X Y) (hk : kn X) (hk' : kn Y) (hx : x < 32) (ht : ∀ q : Nat, (q : Int) < X 1 4 → tb (Y 5 q) x = tb (X 5 q) x) : ∀ k n : Nat, n < k → (n : Int) < X 1 7 → tb (Y 16 n) x = tb (X 16 n) x ∧ Y 17 n = X 17 n
  | 0, n, hn, _ => absurd hn (Nat.not_lt_zero n)
  | k + 1, n, hn, hnn => by
    have e7 : Y 1 7 = X 1 7 := h 1 7 (by decide)
    have hp : ∀ j : Nat, j < n → tb (Y 16 j) x = tb (X 16 j) x := fun j hj => (kn_bit hI h hk hk' hx ht k j (by omega) (by omega)).1
    have hq : ∀ j : Nat, j < n → Y 17 j = X 17 j := fun j hj => (kn_bit hI h hk hk' hx ht k j (by omega) (by omega)).2
    have u1 := d1_uni hI h (fun n hn => (hk n hn).1) (fun n hn => (hk' n (by omega)).1) 90 n hnn (by have := hI.1; omega)
    obtain ⟨h1, h2⟩ := (hk n hnn).2
    obtain ⟨h1', h2'⟩ := (hk' n (by omega)).2
    refine ⟨?_, ?_⟩
    · rw [h1', h1]; exact vC_bit hI hnn h u1.2.1 hx ht hp hq
    · rw [h2', h2]; exact ifeq (vN_cg hI hnn h hq)
/-- a class can be thrown out of p's body, as it is told -/
def cnx (M : yM) (p x : Nat) : Prop := ∃ X : yM, (∀ a j, 1 ≤ a ∧ a ≤ 12 → X a j = M a j) ∧ kn X ∧ tb (cpt X (M 6 p)) x = true
theorem cnx_bit (hI : pI M) (h : eq5 M N) (hx : x < 32) (ht : ∀ q : Nat, (q : Int) < M 1 4 → tb (N 5 q) x = tb (M 5 q) x) (hX : ∀ a j, 1 ≤ a ∧ a ≤ 12 → X a j = M a j) (hY : ∀ a j, 1 ≤ a ∧ a ≤ 12 → Y a j = N a j) (hk : kn X) (hk' : kn Y) (hp : (i : Int) < M 1 4) : tb (cpt Y (N 6 i)) x = tb (cpt X (M 6 i)) x := by
  have hIX : pI X := pI_cg hX hI
  have hXY : eq5 X Y := fun a j ha => by rw [hX a j ⟨ha.1, ha.2.1⟩, hY a j ⟨ha.1, ha.2.1⟩]; exact h a j ha
  have e6 : N 6 i = M 6 i := h 6 i (by decide)
  unfold cpt
  rw [e6]
  rcases hI.2.2.2.2.2.2.1 i hp with q | q
  · rw [if_pos q, if_pos q]
  · rw [if_neg (by omega), if_neg (by omega)]
    refine (kn_bit hIX hXY hk hk' hx (fun q hq => ?_) 90 (M 6 i).toNat (by have := hI.1; omega) (by rw [hX 1 7 (by decide)]; omega)).1
    rw [hX 1 4 (by decide)] at hq
    rw [hX 5 q (by decide), hY 5 q (by decide)]
    exact ht q hq
theorem cnx_ex (hI : pI M) (h : ∀ X : yM, (∀ a j, 1 ≤ a ∧ a ≤ 12 → X a j = M a j) → kn X → tb (cpt X (M 6 i)) x = true) : cnx M i x := by
  obtain ⟨X, f1, f2, f3, f4⟩ := f114_ok (N := 91) hI (by decide)
  have hX : ∀ a j, 1 ≤ a ∧ a ≤ 12 → X a j = M a j := fun a j ha => f2 a j (by omega)
  exact ⟨X, hX, f4, h X hX f4⟩
/-- how many of the procedures tell x -/
def tcn (M : yM) (x : Nat) : Nat → Nat
  | 0 => 0
  | n + 1 => tcn M x n + cond (tb (M 5 n) x) 1 0
theorem tcn_le : ∀ n, tcn M x n ≤ n
  | 0 => Nat.le_refl 0
  | n + 1 => by
    have := tcn_le n
    unfold tcn
    cases tb (M 5 n) x <;> simp only [cond_true, cond_false] <;> omega
theorem tcn_mono (h : ∀ q, tb (M 5 q) x = true → tb (N 5 q) x = true) : ∀ n, tcn M x n ≤ tcn N x n
  | 0 => Nat.le_refl 0
  | n + 1 => by
    have h1 := tcn_mono h n
    have h2 := h n
    unfold tcn
    cases e1 : tb (M 5 n) x with
    | false => cases tb (N 5 n) x <;> simp only [cond_true, cond_false] <;> omega
    | true => rw [h2 e1]; simp only [cond_true]; omega
theorem tcn_lt (h : ∀ q, tb (M 5 q) x = true → tb (N 5 q) x = true) {q : Nat} (h1 : tb (M 5 q) x = false) (h2 : tb (N 5 q) x = true) : ∀ n, q < n → tcn M x n + 1 ≤ tcn N x n
  | 0, hq => absurd hq (Nat.not_lt_zero q)
  | n + 1, hq => by
    by_cases e : q = n
    · subst e
      have := tcn_mono h q
      unfold tcn
      rw [h1, h2, cond_true, cond_false]
      omega
    · have h3 := tcn_lt h h1 h2 n (by omega)
      have h4 := h n
      unfold tcn
      cases e1 : tb (M 5 n) x with
      | false => cases tb (N 5 n) x <;> simp only [cond_true, cond_false] <;> omega
      | true => rw [h4 e1]; simp only [cond_true]; omega
/-- within a round: Ms as it began, M where it stands, ahead of p -/
def tRd (Ms M : yM) (p : Nat) : Prop := eq5 Ms M ∧ ∀ x, x < 32 → (∀ q, tb (Ms 5 q) x = true → tb (M 5 q) x = true) ∧
  ((∀ q : Nat, (q : Int) < Ms 1 4 → tb (M 5 q) x = tb (Ms 5 q) x) ∧ (∀ q : Nat, q < p → cnx Ms q x → tb (Ms 5 q) x = true) ∨ (∃ q : Nat, (q : Int) < Ms 1 4 ∧ ¬ tb (Ms 5 q) x = true ∧ tb (M 5 q) x = true)) ∧
  ((∀ q : Nat, (q : Int) < Ms 1 4 → cnx Ms q x → tb (Ms 5 q) x = true) → ∀ q : Nat, (q : Int) < Ms 1 4 → tb (M 5 q) x = tb (Ms 5 q) x)
/-- after r rounds -/
def tRr (M : yM) (r : Nat) : Prop := ∀ x, x < 32 → (∀ q : Nat, (q : Int) < M 1 4 → cnx M q x → tb (M 5 q) x = true) ∨ r ≤ tcn M x (M 1 4).toNat
theorem tRd_0 : tRd M M 0 := ⟨fun _ _ _ => rfl, fun x _ => ⟨fun _ h => h, Or.inl ⟨fun _ _ => rfl, fun q hq => absurd hq (Nat.not_lt_zero q)⟩, fun _ _ _ => rfl⟩⟩
theorem eq5_trans (h1 : eq5 M N) (h2 : eq5 N X) : eq5 M X := fun a j ha => (h2 a j ha).trans (h1 a j ha)
/-- a step of the round: p tells what its body can throw besides -/
theorem tRd_s (hI : pI Z) (h : tRd Z M i) (hp : (i : Int) < Z 1 4) (hX : ∀ a j, 1 ≤ a ∧ a ≤ 12 → X a j = M a j) (hk : kn X) (hN : ∀ a j, 1 ≤ a ∧ a ≤ 12 → ¬ (a = 5 ∧ j = i) → N a j = M a j) (h5 : N 5 i = ybin 27 (M 5 i) (cpt X (M 6 i))) : tRd Z N (i + 1) := by
  obtain ⟨h1, h2⟩ := h
  have hMN : eq5 M N := fun a j ha => hN a j ⟨ha.1, ha.2.1⟩ (by omega)
  have hXZ : ∀ a j, 1 ≤ a ∧ a ≤ 12 ∧ a ≠ 5 → X a j = Z a j := fun a j ha => (hX a j ⟨ha.1, ha.2.1⟩).trans (h1 a j ha)
  have hIM : M 6 i = Z 6 i := h1 6 i (by decide)
  refine ⟨eq5_trans h1 hMN, fun x hx => ?_⟩
  obtain ⟨g1, g2, g3⟩ := h2 x hx
  have up : ∀ q, tb (M 5 q) x = true → tb (N 5 q) x = true := fun q hq => by
    by_cases e : q = i
    · subst e
      rw [h5, tb_or, hq]; rfl
    · rw [hN 5 q (by decide) (by omega)]; exact hq
  have same : ∀ q, q ≠ i → tb (N 5 q) x = tb (M 5 q) x := fun q e => by rw [hN 5 q (by decide) (by omega)]
  refine ⟨fun q hq => up q (g1 q hq), ?_, fun hc q hq => ?_⟩
  · rcases g2 with ⟨u1, u2⟩ | ⟨q, u1, u2, u3⟩
    · by_cases hc : tb (cpt X (M 6 i)) x = true
      · by_cases ht : tb (Z 5 i) x = true
        · left
          have hMi : tb (M 5 i) x = true := by rw [u1 i hp]; exact ht
          refine ⟨fun q hq => ?_, fun q hq hcq => ?_⟩
          · by_cases e : q = i
            · subst e
              rw [up q hMi, ht]
            · rw [same q e]; exact u1 q hq
          · by_cases e : q = i
            · subst e; exact ht
            · exact u2 q (by omega) hcq
        · right
          refine ⟨i, hp, ht, ?_⟩
          rw [h5, tb_or, hc, Bool.or_true]
      · left
        have e5 : tb (N 5 i) x = tb (M 5 i) x := by
          have hcf : tb (cpt X (M 6 i)) x = false := by
            cases e : tb (cpt X (M 6 i)) x with
            | true => exact absurd e hc
            | false => rfl
          rw [h5, tb_or, hcf, Bool.or_false]
        refine ⟨fun q hq => ?_, fun q hq hcq => ?_⟩
        · by_cases e : q = i
          · subst e
            rw [e5]; exact u1 q hq
          · rw [same q e]; exact u1 q hq
        · by_cases e : q = i
          · subst e
            exfalso
            obtain ⟨X', x1, x2, x3⟩ := hcq
            have := cnx_bit hI h1 hx u1 x1 hX x2 hk hp
            rw [x3] at this
            exact hc this
          · exact u2 q (by omega) hcq
    · right
      exact ⟨q, u1, u2, up q u3⟩
  · by_cases e : q = i
    · subst e
      have u1 := g3 hc
      rw [← u1 q hp, h5, tb_or]
      cases hcc : tb (cpt X (M 6 q)) x with
      | false => rw [Bool.or_false]
      | true =>
        have hcx : cnx Z q x := cnx_ex hI (fun X' x1 x2 => by rw [← cnx_bit hI h1 hx u1 x1 hX x2 hk hp]; exact hcc)
        rw [u1 q hp, hc q hp hcx]; rfl
    · rw [same q e]; exact g3 hc q hq
/-- a round is through -/
theorem tRd_e (hI : pI Z) (hIM : pI M) (h : tRd Z M (Z 1 4).toNat) (hr : tRr Z n) : tRr M (n + 1) := by
  obtain ⟨h1, h2⟩ := h
  have hnp := hI.2.1
  have e14 : M 1 4 = Z 1 4 := h1 1 4 (by decide)
  intro x hx
  obtain ⟨g1, g2, g3⟩ := h2 x hx
  have cl : (∀ q : Nat, (q : Int) < Z 1 4 → cnx Z q x → tb (Z 5 q) x = true) → ∀ q : Nat, (q : Int) < M 1 4 → cnx M q x → tb (M 5 q) x = true := fun hc q hq hcq => by
    rw [e14] at hq
    have u1 := g3 hc
    obtain ⟨X, x1, x2, x3⟩ := hcq
    rw [u1 q hq]
    exact hc q hq (cnx_ex hI fun X' y1 y2 => by rw [← cnx_bit hI h1 hx u1 y1 x1 y2 x2 hq]; exact x3)
  rcases hr x hx with hc | hc
  · exact Or.inl (cl hc)
  · rcases g2 with ⟨-, u2⟩ | ⟨q, u1, u2, u3⟩
    · exact Or.inl (cl fun q hq hcq => u2 q (by omega) hcq)
    · right
      have hf : tb (Z 5 q) x = false := by
        cases e : tb (Z 5 q) x with
        | true => exact absurd e u2
        | false => rfl
      have := tcn_lt g1 hf u3 (Z 1 4).toNat (by omega)
      rw [e14]
      omega
/-- after five rounds nothing is wanting -/
theorem tRr_5 (hI : pI M) (h4 : M 1 4 ≤ 4) (h : tRr M 5) (hX : ∀ a j, 1 ≤ a ∧ a ≤ 12 → X a j = M a j) (hk : kn X) (hb : ∀ p : Nat, (p : Int) < X 1 4 → 0 ≤ X 6 p) : clo X := by
  intro p x hp hx ht
  have e14 : X 1 4 = M 1 4 := hX 1 4 (by decide)
  have e6 : X 6 p = M 6 p := hX 6 p (by decide)
  have h6 := hb p hp
  rw [e14] at hp
  rw [hX 5 p (by decide)]
  rcases h x hx with hc | hc
  · refine hc p hp ⟨X, hX, hk, ?_⟩
    rw [tb_cpt (by omega), ← e6]
    exact ht
  · have := tcn_le (M := M) (x := x) (M 1 4).toNat
    omega
end PagA
