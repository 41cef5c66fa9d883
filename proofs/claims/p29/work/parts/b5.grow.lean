/-! an own program grows: classes, procedures, bodies -/
section WoB
variable {sc : List Int32} {n n' q dd k cc tr a i : Nat} {H : Nat → zO} {M P P' : yM} {c rw ro : Nat → Nat} {ps ks bs : List Int32} {b t : Int} {v : Int32}
theorem oN_ks (h : oN H n tr P c rw ro) (hk : H (c 2) = .inr (.inr (.inl ks))) (hi : 5 ≤ i ∧ i < 13) (hb : b = 0 ∨ b = 1) : oN (zU H (c 2) (.inr (.inr (.inl (ks.set i (yi b)))))) n tr P c rw ro := by
  obtain ⟨⟨h1, h2⟩, ⟨r1, r2, r3, r4, r5, r6, r7⟩, h3, h4, ⟨ps, p1, p2⟩, ⟨ks', k1, k2, k3⟩, h5, bs, b1, b2⟩ := h
  have ek : ks = ks' := by
    have := hk.symm.trans k1
    exact Sum.inl.inj (Sum.inr.inj (Sum.inr.inj this))
  subst ek
  have e : ∀ {a t}, ro a = t → t ≠ 4 → zU H (c 2) (.inr (.inr (.inl (ks.set i (yi b))))) a = H a := fun {a t} ha ht => zU_ne fun q => ht (by rw [← ha, q, r4])
  refine ⟨⟨?_, h2⟩, ⟨r1, r2, r3, r4, r5, r6, r7⟩, ?_, fun k hk => ?_, ⟨ps, ?_, p2⟩, ⟨ks.set i (yi b), zU_eq, by rw [List.length_set]; exact k2, fun j hj => ?_⟩, ?_, bs, ?_, b2⟩
  · unfold o416
    rw [e r1 (by decide)]; exact h1
  · rw [e r2 (by decide)]; exact h3
  · rw [e (r7 k hk) (by decide)]; exact h4 k hk
  · rw [e r3 (by decide)]; exact p1
  · by_cases hij : i = j
    · subst hij
      exact ⟨b, hb, by rw [List.getElem?_set_self (by omega)], fun h => absurd h (by omega)⟩
    · rw [List.getElem?_set_ne hij]
      exact k3 j hj
  · rw [e r5 (by decide)]; exact h5
  · rw [e r6 (by decide)]; exact b1
theorem oN_bs (h : oN H n tr P c rw ro) (hk : H (c 4) = .inr (.inl bs)) : oN (zU H (c 4) (.inr (.inl (bs.set i v)))) n tr P c rw ro := by
  obtain ⟨⟨h1, h2⟩, ⟨r1, r2, r3, r4, r5, r6, r7⟩, h3, h4, ⟨ps, p1, p2⟩, ⟨ks', k1, k2, k3⟩, h5, bs', b1, b2⟩ := h
  have ek : bs = bs' := by
    have := hk.symm.trans b1
    exact Sum.inl.inj (Sum.inr.inj this)
  subst ek
  have e : ∀ {a t}, ro a = t → t ≠ 6 → zU H (c 4) (.inr (.inl (bs.set i v))) a = H a := fun {a t} ha ht => zU_ne fun q => ht (by rw [← ha, q, r6])
  refine ⟨⟨?_, h2⟩, ⟨r1, r2, r3, r4, r5, r6, r7⟩, ?_, fun k hk => ?_, ⟨ps, ?_, p2⟩, ⟨ks', ?_, k2, k3⟩, ?_, bs.set i v, zU_eq, by rw [List.length_set]; exact b2⟩
  · unfold o416
    rw [e r1 (by decide)]; exact h1
  · rw [e r2 (by decide)]; exact h3
  · rw [e (r7 k hk) (by decide)]; exact h4 k hk
  · rw [e r3 (by decide)]; exact p1
  · rw [e r4 (by decide)]; exact k1
  · rw [e r5 (by decide)]; exact h5
/-- what is told of a procedure -/
theorem oN_ts (h : oN H n tr P c rw ro) (hP : ∀ a i, a ≠ 5 → P' a i = P a i) (hr : yrow (P' 5) (P 1 4).toNat = (yrow (P 5) (P 1 4).toNat).set i v) : oN (zU H (c 3) (.inr (.inl ((yrow (P 5) (P 1 4).toNat).set i v)))) n tr P' c rw ro := by
  obtain ⟨⟨h1, h2⟩, ⟨r1, r2, r3, r4, r5, r6, r7⟩, h3, h4, ⟨ps, p1, p2⟩, ⟨ks', k1, k2, k3⟩, h5, bs', b1, b2⟩ := h
  have e : ∀ {a t}, ro a = t → t ≠ 5 → zU H (c 3) (.inr (.inl ((yrow (P 5) (P 1 4).toNat).set i v))) a = H a := fun {a t} ha ht => zU_ne fun q => ht (by rw [← ha, q, r5])
  refine ⟨⟨?_, h2⟩, ⟨r1, r2, r3, r4, r5, r6, fun k hk => r7 k (by rw [hP 1 7 (by decide)] at hk; exact hk)⟩, ?_, fun k hk => ?_, ⟨ps, ?_, by rw [hP 1 0 (by decide)]; exact p2⟩, ⟨ks', ?_, k2, k3⟩, ?_, bs', ?_, by rw [hP 1 4 (by decide)]; exact b2⟩
  · unfold o416
    rw [e r1 (by decide)]; exact h1
  · rw [e r2 (by decide), hP 1 7 (by decide)]; exact h3
  · rw [hP 1 7 (by decide)] at hk
    rw [e (r7 k hk) (by decide), hP 7 k (by decide), hP 8 k (by decide), hP 9 k (by decide), hP 10 k (by decide)]; exact h4 k hk
  · rw [e r3 (by decide)]; exact p1
  · rw [e r4 (by decide)]; exact k1
  · rw [zU_eq, hP 1 4 (by decide), hr]
  · rw [e r6 (by decide)]; exact b1
theorem oN_kind (h : oN H n tr P c rw ro) (hw : tr < n) (hp : H (c 1) = .inr (.inl ps)) (hk : 0 ≤ b ∧ b < P 1 0) (h13 : 5 ≤ P 1 0 ∧ P 1 0 < 13) (e10 : P' 1 0 = P 1 0 + 1) (hP : ∀ a i, ¬ (a = 0 ∧ i = 8) → ¬ (a = 1 ∧ i = 0) → a ≠ 2 → a ≠ 3 → a ≠ 4 → P' a i = P a i) :
    ∃ c' ro', oN (zU (zU H n (.inr (.inl (ps ++ [yi b])))) 416 (.inl (10, [.ref (c 0), .ref n, .ref (c 2), .ref (c 3), .ref (c 4)]))) (n + 1) tr P' c' rw ro' := by
  obtain ⟨⟨h1, h2⟩, ⟨r1, r2, r3, r4, r5, r6, r7⟩, h3, h4, ⟨ps', p1, p2, p3, p4⟩, ⟨ks', k1, k2, k3⟩, h5, bs', b1, b2⟩ := h
  have ek : ps = ps' := by
    have := hp.symm.trans p1
    exact Sum.inl.inj (Sum.inr.inj this)
  subst ek
  have e416 := (h2 416 (by rw [r1]; decide)).2.1
  have lt : ∀ {a t}, ro a = t → t ≠ 0 → a < n := fun {a t} ha ht => (h2 a (by rw [ha]; exact ht)).2.1
  have rN : ∀ {a t}, ro a = t → t ≠ 0 → (if a = n then 3 else ro a) = t := fun {a t} ha ht => by
    have := lt ha ht
    rw [if_neg (by omega), ha]
  have eH : ∀ {a t} {u w : zO}, ro a = t → t ≠ 0 → t ≠ 1 → zU (zU H n u) 416 w a = H a := fun {a t u w} ha ht ht1 => by
    have := lt ha ht
    have h416 : a ≠ 416 := fun q => by rw [q, r1] at ha; exact ht1 ha.symm
    rw [zU_ne h416, zU_ne (by omega)]
  have g17 : P' 1 7 = P 1 7 := hP 1 7 (by omega) (by omega) (by omega) (by omega) (by omega)
  have g14 : P' 1 4 = P 1 4 := hP 1 4 (by omega) (by omega) (by omega) (by omega) (by omega)
  have g5 : P' 5 = P 5 := funext fun i => hP 5 i (by omega) (by omega) (by omega) (by omega) (by omega)
  have gN : ∀ a i, 7 ≤ a → P' a i = P a i := fun a i ha => hP a i (by omega) (by omega) (by omega) (by omega) (by omega)
  refine ⟨fun i => if i = 1 then n else c i, fun a => if a = n then 3 else ro a, ⟨zU_eq, fun a ha => ?_⟩, ⟨rN r1 (by decide), rN r2 (by decide), ?_, rN r4 (by decide), rN r5 (by decide), rN r6 (by decide), fun k hk => rN (r7 k (by rw [g17] at hk; exact hk)) (by decide)⟩, ?_, fun k hk => ?_, ⟨ps ++ [yi b], ?_, ?_, ?_, fun i hi1 hi2 => ?_⟩, ⟨ks', ?_, k2, k3⟩, ?_, bs', ?_, by rw [g14]; exact b2⟩
  · dsimp only at ha
    by_cases q1 : a = n
    · exact ⟨by omega, by omega, by omega⟩
    · rw [if_neg q1] at ha
      obtain ⟨g1, g2, g3⟩ := h2 a ha
      exact ⟨g1, by omega, g3⟩
  · show (if n = n then 3 else ro n) = 3
    rw [if_pos rfl]
  · show zU (zU H n _) 416 _ (c 0) = _
    rw [eH r2 (by decide) (by decide), g17]; exact h3
  · rw [g17] at hk
    rw [eH (r7 k hk) (by decide) (by decide), gN 7 k (by decide), gN 8 k (by decide), gN 9 k (by decide), gN 10 k (by decide)]; exact h4 k hk
  · show zU (zU H n _) 416 _ n = _
    rw [zU_ne (by omega), zU_eq]
  · rw [List.length_append]
    show (((ps.length + 1 : Nat)) : Int) = _
    omega
  · rw [List.length_append]
    show ps.length + 1 ≤ 13
    omega
  · rw [List.length_append] at hi2
    have hi3 : i < ps.length + 1 := hi2
    by_cases q : i < ps.length
    · rw [List.getElem?_append_left q]
      exact p4 i hi1 q
    · have e : i = ps.length := by omega
      refine ⟨b.toNat, ?_, by omega, fun h => absurd h (by omega)⟩
      rw [e, List.getElem?_append_right (Nat.le_refl _), Nat.sub_self, Int.toNat_of_nonneg hk.1]; rfl
  · show zU (zU H n _) 416 _ (c 2) = _
    rw [eH r4 (by decide) (by decide)]; exact k1
  · show zU (zU H n _) 416 _ (c 3) = _
    rw [eH r5 (by decide) (by decide), g14, g5]; exact h5
  · show zU (zU H n _) 416 _ (c 4) = _
    rw [eH r6 (by decide) (by decide)]; exact b1
theorem oN_proc (h : oN H n tr P c rw ro) (hw : tr < n) (hb : H (c 4) = .inr (.inl bs)) (h8 : 0 ≤ P 1 4) (e14 : P' 1 4 = P 1 4 + 1) (e5 : P' 5 (P 1 4).toNat = t) (hP : ∀ a i, ¬ (a = 0 ∧ i = 8) → ¬ (a = 1 ∧ i = 4) → ¬ (a = 5 ∧ i = (P 1 4).toNat) → P' a i = P a i) :
    ∃ c' ro', oN (zU (zU (zU (zU H n (.inr (.inl (yrow (P 5) (P 1 4).toNat ++ [yi t])))) 416 (.inl (10, [.ref (c 0), .ref (c 1), .ref (c 2), .ref n, .ref (c 4)]))) (n + 1) (.inr (.inl (bs ++ [v])))) 416 (.inl (10, [.ref (c 0), .ref (c 1), .ref (c 2), .ref n, .ref (n + 1)]))) (n + 2) tr P' c' rw ro' := by
  obtain ⟨⟨h1, h2⟩, ⟨r1, r2, r3, r4, r5, r6, r7⟩, h3, h4, ⟨ps', p1, p2⟩, ⟨ks', k1, k2, k3⟩, h5, bs', b1, b2⟩ := h
  have ek : bs = bs' := by
    have := hb.symm.trans b1
    exact Sum.inl.inj (Sum.inr.inj this)
  subst ek
  have e416 := (h2 416 (by rw [r1]; decide)).2.1
  have lt : ∀ {a t}, ro a = t → t ≠ 0 → a < n := fun {a t} ha ht => (h2 a (by rw [ha]; exact ht)).2.1
  have rN : ∀ {a t}, ro a = t → t ≠ 0 → (if a = n then 5 else if a = n + 1 then 6 else ro a) = t := fun {a t} ha ht => by
    have := lt ha ht
    rw [if_neg (by omega), if_neg (by omega), ha]
  have eH : ∀ {a t} {u w x y : zO}, ro a = t → t ≠ 0 → t ≠ 1 → zU (zU (zU (zU H n u) 416 w) (n + 1) x) 416 y a = H a := fun {a t u w x y} ha ht ht1 => by
    have := lt ha ht
    have h416 : a ≠ 416 := fun q => by rw [q, r1] at ha; exact ht1 ha.symm
    rw [zU_ne h416, zU_ne (by omega), zU_ne h416, zU_ne (by omega)]
  have g17 : P' 1 7 = P 1 7 := hP 1 7 (by omega) (by omega) (by omega)
  have g10 : P' 1 0 = P 1 0 := hP 1 0 (by omega) (by omega) (by omega)
  have gN : ∀ a i, 7 ≤ a → P' a i = P a i := fun a i ha => hP a i (by omega) (by omega) (by omega)
  refine ⟨fun i => if i = 3 then n else if i = 4 then n + 1 else c i, fun a => if a = n then 5 else if a = n + 1 then 6 else ro a, ⟨zU_eq, fun a ha => ?_⟩, ⟨rN r1 (by decide), rN r2 (by decide), rN r3 (by decide), rN r4 (by decide), ?_, ?_, fun k hk => rN (r7 k (by rw [g17] at hk; exact hk)) (by decide)⟩, ?_, fun k hk => ?_, ⟨ps', ?_, by rw [g10]; exact p2⟩, ⟨ks', ?_, k2, k3⟩, ?_, bs ++ [v], ?_, ?_⟩
  · dsimp only at ha
    by_cases q1 : a = n
    · exact ⟨by omega, by omega, by omega⟩
    · by_cases q2 : a = n + 1
      · exact ⟨by omega, by omega, by omega⟩
      · rw [if_neg q1, if_neg q2] at ha
        obtain ⟨g1, g2, g3⟩ := h2 a ha
        exact ⟨g1, by omega, g3⟩
  · show (if n = n then 5 else if n = n + 1 then 6 else ro n) = 5
    rw [if_pos rfl]
  · show (if n + 1 = n then 5 else if n + 1 = n + 1 then 6 else ro (n + 1)) = 6
    rw [if_neg (by omega), if_pos rfl]
  · show zU (zU (zU (zU H n _) 416 _) (n + 1) _) 416 _ (c 0) = _
    rw [eH r2 (by decide) (by decide), g17]; exact h3
  · rw [g17] at hk
    rw [eH (r7 k hk) (by decide) (by decide), gN 7 k (by decide), gN 8 k (by decide), gN 9 k (by decide), gN 10 k (by decide)]; exact h4 k hk
  · show zU (zU (zU (zU H n _) 416 _) (n + 1) _) 416 _ (c 1) = _
    rw [eH r3 (by decide) (by decide)]; exact p1
  · show zU (zU (zU (zU H n _) 416 _) (n + 1) _) 416 _ (c 2) = _
    rw [eH r4 (by decide) (by decide)]; exact k1
  · show zU (zU (zU (zU H n _) 416 _) (n + 1) _) 416 _ n = _
    rw [zU_ne (by omega), zU_ne (by omega), zU_ne (by omega), zU_eq, e14]
    obtain ⟨np, hnp⟩ : ∃ np : Nat, P 1 4 = (np : Int) := ⟨(P 1 4).toNat, by omega⟩
    rw [hnp] at e5 hP ⊢
    rw [Int.toNat_natCast] at e5 hP ⊢
    rw [show ((np : Int) + 1).toNat = np + 1 by omega]
    have : yrow (P' 5) (np + 1) = yrow (P 5) np ++ [yi t] := by
      unfold yrow
      rw [List.range_succ, List.map_append]
      congr 1
      · refine List.map_congr_left fun i hi => ?_
        have := List.mem_range.mp hi
        rw [hP 5 i (by omega) (by omega) (by omega)]
      · show [yi (P' 5 np)] = _
        rw [e5]
    rw [this]
  · show zU (zU (zU (zU H n _) 416 _) (n + 1) _) 416 _ (n + 1) = _
    rw [zU_ne (by omega), zU_eq]
  · rw [List.length_append, e14]
    show (((bs.length + 1 : Nat)) : Int) = _
    omega
end WoB
