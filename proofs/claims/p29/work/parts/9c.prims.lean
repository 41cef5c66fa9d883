/-! two runs side by side: instructions, beginnings, guards -/
section PrA
variable {cc d e i n K : Nat} {P M N M' N' X Y : yM} {b : Prop} {S S' : Nat → Prop} {v v' x y z nd gd lb op L g B x1 x2 x3 x4 x5 x6 : Int}
theorem pq_fl (hcc : pC cc) (h : pq cc P b S e v M N) : pq cc P b S e v' (yU M cc 1 1) (yU N cc 1 1) := by
  have hr := cc_rg hcc
  have k : ∀ (M : yM) a j, ¬ (a = cc ∧ j = 1) → yU M cc 1 1 a j = M a j := fun M a j q => yU_ne q
  obtain ⟨⟨a1, a2, a3, a4, a5, a6, a7⟩, b2, b3, b4, b5, b6⟩ := h
  refine ⟨⟨⟨(lQ_tl (d := 0) hcc a1.1).2, (lQ_tl (d := 0) hcc a1.2).2⟩, fun a j ha => ?_, ⟨?_, ?_, ?_, ?_, ?_⟩, ?_, ?_, ?_, fun z => ?_⟩, ?_, ?_, ?_, ?_, ?_⟩
  · rw [k _ _ _ (by omega), k _ _ _ (by omega)]; exact a2 a j ha
  · rw [k _ _ _ (by omega), k _ _ _ (by omega)]; exact a3.1
  · rw [yU_at, yU_at]
  · rw [k _ _ _ (by omega), k _ _ _ (by omega)]; exact a3.2.2.1
  · rw [k _ _ _ (by omega), k _ _ _ (by omega)]; exact a3.2.2.2.1
  · rw [k _ _ _ (by omega), k _ _ _ (by omega)]; exact a3.2.2.2.2
  · rw [k _ _ _ (by omega)]; exact a4
  · rw [k _ _ _ (by omega)]; exact a5
  · rw [k _ _ _ (by omega)]; exact a6
  · rw [yU_at] at z; omega
  · rw [k _ cc 0 (by omega), k _ 96 7 (by omega), k _ cc 10 (by omega)]
    exact qC_cg (fun a j q => ⟨k _ a j (by omega), k _ a j (by omega)⟩) b2
  · rw [k _ 96 7 (by omega)]
    exact qG_cg (fun a j q => ⟨k _ a j (by omega), k _ a j (by omega)⟩) b3
  · rw [k _ 96 7 (by omega)]
    exact qL_cg (fun a j q => ⟨k _ a j (by omega), k _ a j (by omega)⟩) b4
  · rw [k _ cc 0 (by omega)]
    exact qS_cg (fun a j q => ⟨k _ a j (by omega), k _ a j (by omega)⟩) (Int.le_refl _) b5
  · rw [k _ cc 0 (by omega)]
    exact qR_cg (fun a j q => ⟨k _ a j (by omega), k _ a j (by omega)⟩) (fun t _ => k _ _ _ (by omega)) b6
theorem eM_out (hcc : pC cc) (h0 : 0 ≤ M cc 0) (h3 : M cc 0 ≤ 300) (hl : ¬ M cc 0 < 300) : eM cc M op x y z nd gd lb = yU M cc 1 1 := by
  have hr := cc_rg hcc
  have w : ∀ (M : yM) (a : Nat) (k v : Int), yln a = 300 → k = 300 → ywr M a k v = M := fun M a k v h q => wr_out ⟨by omega, by omega⟩ (by rw [h]; omega)
  unfold eM f_39
  rw [w M 101 (M cc 0) gd rfl (by omega), w M 102 (M cc 0) lb rfl (by omega), rel2 ⟨by omega, by omega⟩ ⟨by decide, by decide⟩, cond_df hl, ylet_eq]
/-- an instruction -/
theorem pq_eM (hcc : pC cc) (h : pq cc P b S e v M N) (hop : 1 ≤ op ∧ op ≤ 20) (hg : -1 ≤ gd ∧ gd < M 96 7) (hv : v ≤ v' + 1) : pq cc P b S e v' (eM cc M op x y z nd gd lb) (eM cc N op x y z nd gd lb) := by
  have hr := cc_rg hcc
  have hl := h.1.1.1.1
  have e0 : N cc 0 = M cc 0 := h.1.2.2.1.1
  by_cases hlt : M cc 0 < 300
  · have w1 := (lQ_eM (d := 0) (x1 := op) (x2 := x) (x3 := y) (x4 := z) (x5 := nd) (x6 := gd) (v := lb) hcc h.1.1.1).2
    have w2 := (lQ_eM (d := 0) (x1 := op) (x2 := x) (x3 := y) (x4 := z) (x5 := nd) (x6 := gd) (v := lb) hcc h.1.1.2).2
    rw [eM_in hcc hl.1 hlt] at w1 ⊢
    rw [eM_in hcc (by omega) (by omega), e0] at w2 ⊢
    have k : ∀ (M : yM) (l : Nat) (s : Int) a j, ¬ (j = l ∧ ((cc < a ∧ a ≤ cc + 5) ∨ a = 101 ∨ a = 102)) → ¬ (a = cc ∧ j = 0) → yU (yU (yU (yU (yU (yU (yU (yU M 101 l gd) 102 l lb) (cc + 1) l op) (cc + 2) l x) (cc + 3) l y) (cc + 4) l z) (cc + 5) l nd) cc 0 s a j = M a j := fun M l s a j q1 q2 => by
      rw [yU_ne q2, yU_ne (by omega), yU_ne (by omega), yU_ne (by omega), yU_ne (by omega), yU_ne (by omega), yU_ne (by omega), yU_ne (by omega)]
    have k0 : ∀ (M : yM) (l : Nat) (s : Int), yU (yU (yU (yU (yU (yU (yU (yU M 101 l gd) 102 l lb) (cc + 1) l op) (cc + 2) l x) (cc + 3) l y) (cc + 4) l z) (cc + 5) l nd) cc 0 s cc 0 = s := fun M l s => yU_at
    have kc : ∀ (M N : yM) (l : Nat) (s : Int) (c : Nat), 1 ≤ c → c ≤ 5 → yU (yU (yU (yU (yU (yU (yU (yU N 101 l gd) 102 l lb) (cc + 1) l op) (cc + 2) l x) (cc + 3) l y) (cc + 4) l z) (cc + 5) l nd) cc 0 s (cc + c) l = yU (yU (yU (yU (yU (yU (yU (yU M 101 l gd) 102 l lb) (cc + 1) l op) (cc + 2) l x) (cc + 3) l y) (cc + 4) l z) (cc + 5) l nd) cc 0 s (cc + c) l := fun M N l s c c1 c2 => by
      rw [yU_c (by omega), yU_c (b := cc + c) (a := cc) (by omega)]
      rcases (show c = 1 ∨ c = 2 ∨ c = 3 ∨ c = 4 ∨ c = 5 by omega) with rfl | rfl | rfl | rfl | rfl
      · rw [yU_c (by omega), yU_c (by omega), yU_c (by omega), yU_c (by omega), yU_at, yU_c (a := cc + 5) (by omega), yU_c (a := cc + 4) (by omega), yU_c (a := cc + 3) (by omega), yU_c (a := cc + 2) (by omega), yU_at]
      · rw [yU_c (by omega), yU_c (by omega), yU_c (by omega), yU_at, yU_c (a := cc + 5) (by omega), yU_c (a := cc + 4) (by omega), yU_c (a := cc + 3) (by omega), yU_at]
      · rw [yU_c (by omega), yU_c (by omega), yU_at, yU_c (a := cc + 5) (by omega), yU_c (a := cc + 4) (by omega), yU_at]
      · rw [yU_c (by omega), yU_at, yU_c (a := cc + 5) (by omega), yU_at]
      · rw [yU_at, yU_at]
    have k1 : ∀ (M : yM) (l : Nat) (s : Int), yU (yU (yU (yU (yU (yU (yU (yU M 101 l gd) 102 l lb) (cc + 1) l op) (cc + 2) l x) (cc + 3) l y) (cc + 4) l z) (cc + 5) l nd) cc 0 s 101 l = gd ∧ yU (yU (yU (yU (yU (yU (yU (yU M 101 l gd) 102 l lb) (cc + 1) l op) (cc + 2) l x) (cc + 3) l y) (cc + 4) l z) (cc + 5) l nd) cc 0 s 102 l = lb ∧ yU (yU (yU (yU (yU (yU (yU (yU M 101 l gd) 102 l lb) (cc + 1) l op) (cc + 2) l x) (cc + 3) l y) (cc + 4) l z) (cc + 5) l nd) cc 0 s (cc + 1) l = op := fun M l s => by
      refine ⟨?_, ?_, ?_⟩
      · rw [yU_c (by omega), yU_c (by omega), yU_c (by omega), yU_c (by omega), yU_c (by omega), yU_c (by omega), yU_c (by omega), yU_at]
      · rw [yU_c (by omega), yU_c (by omega), yU_c (by omega), yU_c (by omega), yU_c (by omega), yU_c (by omega), yU_at]
      · rw [yU_c (by omega), yU_c (by omega), yU_c (by omega), yU_c (by omega), yU_c (by omega), yU_at]
    obtain ⟨⟨a1, a2, a3, a4, a5, a6, a7⟩, b2, b3, b4, b5, b6⟩ := h
    generalize hX : yU (yU (yU (yU (yU (yU (yU (yU M 101 (M cc 0).toNat gd) 102 (M cc 0).toNat lb) (cc + 1) (M cc 0).toNat op) (cc + 2) (M cc 0).toNat x) (cc + 3) (M cc 0).toNat y) (cc + 4) (M cc 0).toNat z) (cc + 5) (M cc 0).toNat nd) cc 0 (M cc 0 + 1) = X at w1 ⊢
    generalize hY : yU (yU (yU (yU (yU (yU (yU (yU N 101 (M cc 0).toNat gd) 102 (M cc 0).toNat lb) (cc + 1) (M cc 0).toNat op) (cc + 2) (M cc 0).toNat x) (cc + 3) (M cc 0).toNat y) (cc + 4) (M cc 0).toNat z) (cc + 5) (M cc 0).toNat nd) cc 0 (M cc 0 + 1) = Y at w2 ⊢
    have kX : ∀ a j, ¬ (j = (M cc 0).toNat ∧ ((cc < a ∧ a ≤ cc + 5) ∨ a = 101 ∨ a = 102)) → ¬ (a = cc ∧ j = 0) → X a j = M a j := fun a j q1 q2 => by rw [← hX]; exact k M _ _ a j q1 q2
    have kY : ∀ a j, ¬ (j = (M cc 0).toNat ∧ ((cc < a ∧ a ≤ cc + 5) ∨ a = 101 ∨ a = 102)) → ¬ (a = cc ∧ j = 0) → Y a j = N a j := fun a j q1 q2 => by rw [← hY]; exact k N _ _ a j q1 q2
    have x0 : X cc 0 = M cc 0 + 1 := by rw [← hX]; exact k0 M _ _
    have y0 : Y cc 0 = M cc 0 + 1 := by rw [← hY]; exact k0 N _ _
    have xy : ∀ c, 1 ≤ c → c ≤ 5 → Y (cc + c) (M cc 0).toNat = X (cc + c) (M cc 0).toNat := fun c c1 c2 => by rw [← hX, ← hY]; exact kc M N _ _ c c1 c2
    have x1 : X 101 (M cc 0).toNat = gd ∧ X 102 (M cc 0).toNat = lb ∧ X (cc + 1) (M cc 0).toNat = op := by rw [← hX]; exact k1 M _ _
    have y1 : Y 101 (M cc 0).toNat = gd ∧ Y 102 (M cc 0).toNat = lb ∧ Y (cc + 1) (M cc 0).toNat = op := by rw [← hY]; exact k1 N _ _
    refine ⟨⟨⟨w1, w2⟩, fun a j ha => ?_, ⟨?_, ?_, ?_, ?_, ?_⟩, ?_, ?_, ?_, fun z => ?_⟩, ?_, ?_, ?_, ?_, ?_⟩
    · rw [kX _ _ (by omega) (by omega), kY _ _ (by omega) (by omega)]; exact a2 a j ha
    · rw [x0, y0]
    · rw [kX _ _ (by omega) (by omega), kY _ _ (by omega) (by omega)]; exact a3.2.1
    · rw [kX _ _ (by omega) (by omega), kY _ _ (by omega) (by omega)]; exact a3.2.2.1
    · rw [kX _ _ (by omega) (by omega), kY _ _ (by omega) (by omega)]; exact a3.2.2.2.1
    · rw [kX _ _ (by omega) (by omega), kY _ _ (by omega) (by omega)]; exact a3.2.2.2.2
    · rw [kX _ _ (by omega) (by omega)]; exact a4
    · rw [kX _ _ (by omega) (by omega)]; exact a5
    · rw [kX _ _ (by omega) (by omega)]; exact a6
    · rw [kX _ _ (by omega) (by omega)] at z
      rw [kX _ _ (by omega) (by omega), x0]
      have := a7 z
      omega
    · rw [x0, kX 96 7 (by omega) (by omega), kX cc 10 (by omega) (by omega)]
      obtain ⟨c1, c2, c3⟩ := b2
      refine ⟨fun t ht => ?_, fun t ht => ?_, fun hs => ⟨fun t ht => ?_, fun j hj hB => ?_⟩⟩
      · by_cases q : t = (M cc 0).toNat
        · subst q
          rw [x1.1, x1.2.1, x1.2.2, y1.1, y1.2.1]
          exact ⟨fun c q1 q2 => xy c q1 q2, ⟨rfl, rfl⟩, hop, hg⟩
        · rw [kX 101 t (by omega) (by omega), kX 102 t (by omega) (by omega), kY 101 t (by omega) (by omega), kY 102 t (by omega) (by omega), kX (cc + 1) t (by omega) (by omega)]
          obtain ⟨d1, d2, d3, d4⟩ := c1 t (by omega)
          exact ⟨fun c q1 q2 => by rw [kX (cc + c) t (by omega) (by omega), kY (cc + c) t (by omega) (by omega)]; exact d1 c q1 q2, d2, d3, d4⟩
      · rw [kX (cc + 7) t (by omega) (by omega), kY (cc + 7) t (by omega) (by omega)]; exact c2 t ht
      · rw [kX (cc + 7) t (by omega) (by omega), kX (cc + 6) t (by omega) (by omega), kY (cc + 6) t (by omega) (by omega)]; exact (c3 hs).1 t ht
      · rw [kX (cc + 8) j (by omega) (by omega), kY (cc + 8) j (by omega) (by omega)]; exact (c3 hs).2 j hj hB
    · rw [kX 96 7 (by omega) (by omega)]
      exact qG_cg (fun a j q => ⟨kX a j (by omega) (by omega), kY a j (by omega) (by omega)⟩) b3
    · rw [kX 96 7 (by omega) (by omega)]
      exact qL_cg (fun a j q => ⟨kX a j (by omega) (by omega), kY a j (by omega) (by omega)⟩) b4
    · rw [x0]
      exact qS_cg (fun a j q => ⟨kX a j (by omega) (by omega), kY a j (by omega) (by omega)⟩) (by omega) b5
    · rw [x0]
      obtain ⟨r1, r2, r3, r4⟩ := b6
      have h22X : ∀ j, X 22 j = M 22 j := fun j => kX _ _ (by omega) (by omega)
      have h22Y : ∀ j, Y 22 j = N 22 j := fun j => kY _ _ (by omega) (by omega)
      unfold qR
      rw [kX 96 14 (by omega) (by omega), kX 21 1 (by omega) (by omega), kX cc 11 (by omega) (by omega), kY 96 14 (by omega) (by omega), kY 21 1 (by omega) (by omega), kY cc 11 (by omega) (by omega)]
      refine ⟨fun hb => ?_, r2, ⟨fun r q1 q2 => ?_, fun r q1 q2 => ?_⟩, fun q1 q2 t ht hm => ?_⟩
      · obtain ⟨p1, p2, p3, p4⟩ := r1 hb
        exact ⟨p1, p2, p3, fun j hj => by rw [h22X, h22Y]; exact p4 j hj⟩
      · rw [h22X]; have := r3.1 r q1 q2; omega
      · rw [h22Y]; have := r3.2 r q1 q2; omega
      · rw [hk_cg h22X, hk_cg h22Y]
        by_cases q : t = (M cc 0).toNat
        · rw [hk_nil _ (fun r s1 s2 s3 => by have := r3.1 r (by omega) (by omega); omega), hk_nil _ (fun r s1 s2 s3 => by have := r3.2 r (by omega) (by omega); omega)]
        · rw [kX (cc + 1) t (by omega) (by omega)] at hm
          exact r4 q1 q2 t (by omega) hm
  · rw [eM_out hcc hl.1 hl.2 hlt, eM_out hcc (by omega) (by omega) (by omega)]
    exact pq_fl hcc h
theorem pq_45 (hcc : pC cc) (h : pq cc P b S e v M N) (hop : 1 ≤ x1 ∧ x1 ≤ 20) (hg : -1 ≤ x6 ∧ x6 < M 96 7) (hv : v ≤ v' + 1) : pq cc P b S e v' (f_45 cc M x1 x2 x3 x4 x5 x6) (f_45 cc N x1 x2 x3 x4 x5 x6) := by
  rw [e_45 hcc, e_45 hcc]; exact pq_eM hcc h hop hg hv
theorem pq_46 (hcc : pC cc) (h : pq cc P b S e v M N) (hop : 1 ≤ x2 ∧ x2 ≤ 20) (hg : -1 ≤ x5 ∧ x5 < M 96 7) (hv : v ≤ v' + 1) : pq cc P b S e v' (f_46 cc M x1 x2 x3 x4 x5) (f_46 cc N x1 x2 x3 x4 x5) := by
  rw [e_46 hcc, e_46 hcc]; exact pq_eM hcc h hop hg hv
end PrA
