/-! all procedures are laid, in two runs side by side -/
section PzA
variable {K p j : Nat} {P M N X Y Z : yM} {b : Prop} {v x y : Int}
theorem sP_K (h : sP b p M N) (hO : pO P p M ∧ rK p M) (hO2 : pO P p N ∧ rK p N) (hc : ∀ a i, 24 + 9 * p ≤ a ∧ a ≤ 24 + 9 * p + 8 → X a i = M a i) (h22 : ∀ k : Nat, (k : Int) < 4 * M 21 1 → X 22 k = M 22 k) (h21 : M 21 1 ≤ X 21 1)
    (kc : ∀ a i, 24 + 9 * p ≤ a ∧ a ≤ 24 + 9 * p + 8 → Y a i = N a i) (k22 : ∀ k : Nat, (k : Int) < 4 * N 21 1 → Y 22 k = N 22 k) (k21 : N 21 1 ≤ Y 21 1) (hb : b → Y 21 1 = X 21 1 ∧ ∀ k : Nat, (k : Int) < 4 * X 21 1 → Y 22 k = X 22 k) : sP b p X Y := by
  obtain ⟨a1, a2, a3, a4, a5, a6⟩ := h
  have eX : ∀ t, cH4 X p t = cH4 M p t := cH4_K (hc _ _ (by omega)) (hc _ _ (by omega)) hO.1.2.1 hO.2.1 h22
  have eY : ∀ t, cH4 Y p t = cH4 N p t := cH4_K (kc _ _ (by omega)) (kc _ _ (by omega)) hO2.1.2.1 hO2.2.1 k22
  refine ⟨by rw [hc _ _ (by omega), kc _ _ (by omega), a1], fun t ht => by rw [hc _ _ (by omega), kc _ _ (by omega)]; exact a2 t ht, fun t ht c c1 c2 => ?_, fun hB t ht => ?_, fun r1 r2 t ht hm => ?_, fun hbb => ?_⟩
  · rw [hc _ 0 (by omega)] at ht
    rw [hc _ _ (by omega), kc _ _ (by omega)]
    exact a3 t ht c c1 c2
  · rw [hc _ 0 (by omega)] at ht
    rw [hc _ 10 (by omega)] at hB
    rw [bM_K hc, bM_K kc]
    exact a4 hB t ht
  · rw [hc _ 0 (by omega)] at ht
    rw [hc (24 + 9 * p + 1) t (by omega)] at hm
    rw [eX, eY]
    exact a5 (by omega) (by omega) t ht hm
  · obtain ⟨p1, p2, p3, p4⟩ := a6 hbb
    obtain ⟨q1, q2⟩ := hb hbb
    exact ⟨q1, by rw [hc _ 11 (by omega), kc _ 11 (by omega), p2], by rw [hc _ 12 (by omega), kc _ 12 (by omega), p3], q2⟩
/-- one more procedure -/
theorem L_step (hj : (j : Int) < 4) (hK : 1000 ≤ K) (hU : pU P) (hA : pA P) (hB : bO P j) (h : inL b P j M N) :
    ∃ X Y t, (∀ c, f_59 K c M (j : Int) (M 0 7) = some (X, 24 + 9 * j, t)) ∧ (∀ c, f_59 K c N (j : Int) (N 0 7) = some (Y, 24 + 9 * j, t)) ∧ (t = 0 ∨ t = 1) ∧ frL M X ∧ frL N Y ∧ (X 18 4 = M 18 4 ∧ Y 18 4 = N 18 4) ∧ gW X ∧ gW Y ∧
      (b → Y 21 1 = X 21 1 ∧ ∀ k : Nat, (k : Int) < 4 * X 21 1 → Y 22 k = X 22 k) ∧ (t = 1 → inL b P (j + 1) X Y) := by
  obtain ⟨h1, ⟨h2, h2'⟩, h3, ⟨h4, h4', h4b⟩, h5, h6⟩ := h
  have hP1 : ∀ a i, a ≤ 17 → M a i = zP0 M P a i := fun a i ha => by
    unfold zP0
    by_cases q : a = 0
    · rw [if_pos q, q]
    · rw [if_neg q]; exact (h1 a i (by omega)).1
  have hP2 : ∀ a i, a ≤ 17 → N a i = zP0 N P a i := fun a i ha => by
    unfold zP0
    by_cases q : a = 0
    · rw [if_pos q, q]
    · rw [if_neg q]; exact (h1 a i (by omega)).2
  obtain ⟨X, Y, t, e1, e2, e3⟩ := Q_59 (b := b) (p := j) (x := M 0 7) (y := N 0 7) (by omega) hK hU h2 h2' h4 h4' h1 fun hbb => ⟨h4b hbb, h5 hbb⟩
  obtain ⟨X', t', f1, w1, ht, g1⟩ := S_59 (P := zP0 M P) (p := j) (N := K) (cc := 0) (x := M 0 7) (by omega) hK h2 h4
  obtain ⟨Y', t'', f2, w2, -, g2⟩ := S_59 (P := zP0 N P) (p := j) (N := K) (cc := 0) (x := N 0 7) (by omega) hK h2' h4'
  have k1 := (e1 0).symm.trans f1
  have k2 := (e2 0).symm.trans f2
  cases k1
  cases k2
  have fM : frL M X := fun a i q => w1.1 a i (by omega) (by omega) (by omega) (by omega) (by omega)
  have fN : frL N Y := fun a i q => w2.1 a i (by omega) (by omega) (by omega) (by omega) (by omega)
  have x18 : X 18 4 = M 18 4 := w1.1 _ _ (by omega) (by omega) (by omega) (by omega) (by omega)
  have y18 : Y 18 4 = N 18 4 := w2.1 _ _ (by omega) (by omega) (by omega) (by omega) (by omega)
  have hbt : b → Y 21 1 = X 21 1 ∧ ∀ k : Nat, (k : Int) < 4 * X 21 1 → Y 22 k = X 22 k := fun hbb => ⟨(e3.2.2.2.2.2 hbb).1, (e3.2.2.2.2.2 hbb).2.2.2⟩
  refine ⟨X, Y, t, e1, e2, ht, fM, fN, ⟨x18, y18⟩, w1.2, w2.2, hbt, fun ht1 => ⟨fun a i ha => ⟨(fM a i (by omega)).trans (h1 a i ha).1, (fN a i (by omega)).trans (h1 a i ha).2⟩, ⟨w1.2, w2.2⟩, by rw [x18, y18]; exact h3, by rw [fM 0 7 (by omega), fN 0 7 (by omega)]; exact ⟨h4, h4', h4b⟩, hbt, fun z => ?_⟩⟩
  rw [x18] at z
  obtain ⟨⟨r1, r2⟩, h7⟩ := h6 z
  obtain ⟨m1, m2, m3, m4, m5, m6, m7⟩ := g1 ht1 (pA_z hA) hP1 (bO_z hB) (by omega)
  obtain ⟨n1, n2, n3, n4, n5, n6, n7⟩ := g2 ht1 (pA_z hA) hP2 (bO_z hB) (by omega)
  refine ⟨⟨by omega, by omega⟩, fun p hp => ?_⟩
  by_cases q : p = j
  · subst q
    exact ⟨⟨pO_z m1, by omega, m7⟩, ⟨pO_z n1, by omega, n7⟩, e3⟩
  · obtain ⟨o1, o2, o3⟩ := h7 p (by omega)
    have cX : ∀ a i, 24 + 9 * p ≤ a ∧ a ≤ 24 + 9 * p + 8 → X a i = M a i := fun a i q2 => w1.1 a i (by omega) (by omega) (by omega) (by omega) (by omega)
    have cY : ∀ a i, 24 + 9 * p ≤ a ∧ a ≤ 24 + 9 * p + 8 → Y a i = N a i := fun a i q2 => w2.1 a i (by omega) (by omega) (by omega) (by omega) (by omega)
    exact ⟨pO_K o1.1 o1.2 cX m6 m3, pO_K o2.1 o2.2 cY n6 n3, sP_K o3 o1 o2 cX m6 m3 cY n6 n3 hbt⟩
theorem frL_trans (h1 : frL M X) (h2 : frL X Y) : frL M Y := fun a i q => (h2 a i q).trans (h1 a i q)
theorem frL_71 (h : 0 ≤ M 18 4 ∧ M 18 4 ≤ 202) {x1 x2 x3 x4 : Int} : frL M (f_71 M x1 x2 x3 x4) ∧ (0 ≤ f_71 M x1 x2 x3 x4 18 4 ∧ f_71 M x1 x2 x3 x4 18 4 ≤ 202) ∧ f_71 M x1 x2 x3 x4 18 4 ≠ 0 ∧ (∀ a i, 21 ≤ a → f_71 M x1 x2 x3 x4 a i = M a i) := by
  obtain ⟨h1, h2⟩ := f71_ok (x1 := x1) (x2 := x2) (x3 := x3) (x4 := x4) h
  refine ⟨fun a i q => h1 a i (by omega) (by omega), ?_, ?_, fun a i q => h1 a i (by omega) (by omega)⟩
  · rw [h2]; split <;> omega
  · rw [h2]; split <;> omega
/-- all procedures from j on -/
theorem L24 (hK : 1000 ≤ K) (hU : pU P) (hA : pA P) (hnp : P 1 4 ≤ 4) (hB : ∀ p : Nat, (p : Int) < P 1 4 → bO P p) : ∀ (k fu j : Nat) (M N : yM) (c1 c2 : Nat), inL b P j M N → P 1 4 ≤ (j : Int) + (k : Int) → (j : Int) ≤ P 1 4 → k < fu →
    ∃ X Y c1' c2', f_31_24 K fu M c1 (j : Int) = some (X, c1') ∧ f_31_24 K fu N c2 (j : Int) = some (Y, c2') ∧ inL b P (P 1 4).toNat X Y ∧ frL M X ∧ frL N Y ∧ (pC c1 → pC c1') ∧ (pC c2 → pC c2')
  | k, 0, _, _, _, _, _, _, _, _, hf => absurd hf (by omega)
  | k, fu + 1, j, M, N, c1, c2, h, hk, hj, hf => by
    have m14 : M 1 4 = P 1 4 := (h.1 1 4 (by omega)).1
    have n14 : N 1 4 = P 1 4 := (h.1 1 4 (by omega)).2
    have h1 := hA.2.1
    rw [f_31_24, f_31_24, m14, n14, rel3 ⟨by omega, by omega⟩ ⟨by omega, by omega⟩]
    by_cases q : P 1 4 ≤ (j : Int)
    · rw [cond_dt q, cond_dt q]
      have e : (P 1 4).toNat = j := by omega
      rw [e]
      exact ⟨M, N, c1, c2, rfl, rfl, h, fun _ _ _ => rfl, fun _ _ _ => rfl, id, id⟩
    · rw [cond_df q, cond_df q]
      have hpc : pC (24 + 9 * j) := ⟨j, by omega, rfl⟩
      obtain ⟨X, Y, t, e1, e2, ht, fM, fN, ⟨x18, y18⟩, gX, gY, hbt, hin⟩ := L_step (by omega) hK hU hA (hB j (by omega)) h
      rw [e1, e2]
      show ∃ X' Y' c1' c2', cond (yrel 1 t 0) (f_31_24 K fu X (24 + 9 * j) ((j : Int) + 1)) (ylet (f_71 X 8 (j : Int) (-1) (-1)) fun t10 => f_31_24 K fu t10 (24 + 9 * j) ((j : Int) + 1)) = some (X', c1') ∧ cond (yrel 1 t 0) (f_31_24 K fu Y (24 + 9 * j) ((j : Int) + 1)) (ylet (f_71 Y 8 (j : Int) (-1) (-1)) fun t10 => f_31_24 K fu t10 (24 + 9 * j) ((j : Int) + 1)) = some (Y', c2') ∧ _
      rcases ht with rfl | rfl
      · rw [show yrel 1 0 0 = false from rfl, cond_false, cond_false, ylet_eq, ylet_eq]
        obtain ⟨h1, h2, h3, h4, h5, h6⟩ := h
        obtain ⟨d1, d2, d3, d4⟩ := frL_71 (M := X) (x1 := 8) (x2 := (j : Int)) (x3 := -1) (x4 := -1) (by omega)
        obtain ⟨d5, d6, d7, d8⟩ := frL_71 (M := Y) (x1 := 8) (x2 := (j : Int)) (x3 := -1) (x4 := -1) (by omega)
        have e18 : f_71 Y 8 (j : Int) (-1) (-1) 18 4 = f_71 X 8 (j : Int) (-1) (-1) 18 4 := by
          rw [(f71_ok (M := X) (by omega)).2, (f71_ok (M := Y) (by omega)).2, x18, y18, h3.1]
        generalize f_71 X 8 (j : Int) (-1) (-1) = X1 at *
        generalize f_71 Y 8 (j : Int) (-1) (-1) = Y1 at *
        have gW1 : ∀ {Q R : yM}, gW Q → (∀ a i, 21 ≤ a → R a i = Q a i) → gW R := fun {Q R} r1 r2 => by
          unfold gW tI at r1 ⊢
          rw [r2 21 1 (by omega), r2 21 2 (by omega)]
          refine ⟨r1.1, fun c hc => ?_⟩
          rw [r2 103 c (by omega), r2 104 c (by omega)]
          exact r1.2 c hc
        have hin2 : inL b P (j + 1) X1 Y1 := by
          refine ⟨fun a i ha => ?_, ⟨gW1 gX d4, gW1 gY d8⟩, ⟨e18, d2⟩, ?_, ?_, fun z => absurd z d3⟩
          · rw [d1 a i (by omega), d5 a i (by omega), fM a i (by omega), fN a i (by omega)]
            exact h1 a i ha
          · rw [d1 0 7 (by omega), d5 0 7 (by omega), fM 0 7 (by omega), fN 0 7 (by omega)]
            exact h4
          · intro hbb
            rw [d4 21 1 (by omega), d8 21 1 (by omega)]
            refine ⟨(hbt hbb).1, fun k hk => ?_⟩
            rw [d4 22 k (by omega), d8 22 k (by omega)]
            exact (hbt hbb).2 k hk
        obtain ⟨X2, Y2, c1', c2', r1, r2, r3, r4, r5, r6, r7⟩ := L24 hK hU hA hnp hB (k - 1) fu (j + 1) X1 Y1 (24 + 9 * j) (24 + 9 * j) hin2 (by omega) (by omega) (by omega)
        exact ⟨X2, Y2, c1', c2', r1, r2, r3, frL_trans fM (frL_trans d1 r4), frL_trans fN (frL_trans d5 r5), fun _ => r6 hpc, fun _ => r7 hpc⟩
      · rw [show yrel 1 1 0 = true from rfl, cond_true, cond_true]
        obtain ⟨X2, Y2, c1', c2', r1, r2, r3, r4, r5, r6, r7⟩ := L24 hK hU hA hnp hB (k - 1) fu (j + 1) X Y (24 + 9 * j) (24 + 9 * j) (hin rfl) (by omega) (by omega) (by omega)
        exact ⟨X2, Y2, c1', c2', r1, r2, r3, frL_trans fM r4, frL_trans fN r5, fun _ => r6 hpc, fun _ => r7 hpc⟩
end PzA
