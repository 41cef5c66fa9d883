/-! what holds still holds -/
section KpA
variable {cc d b : Nat} {P M M' M1 M2 : yM} {x y w n f : Nat} {u v : Int}
theorem lK_refl : lK cc M M := ⟨⟨Int.le_refl _, Int.le_refl _, Int.le_refl _, Int.le_refl _, Int.le_refl _⟩, fun _ _ => ⟨rfl, rfl, fun _ _ _ _ => rfl⟩, fun _ _ _ => ⟨Int.le_refl _, fun _ => rfl⟩, fun _ _ => rfl, fun _ _ => ⟨rfl, rfl, rfl⟩, fun _ _ => rfl⟩
theorem lK_trans (h1 : lK cc M M1) (h2 : lK cc M1 M2) : lK cc M M2 := by
  obtain ⟨⟨a1, a2, a3, a4, a5⟩, a6, a7, a8, a9, a10⟩ := h1
  obtain ⟨⟨b1, b2, b3, b4, b5⟩, b6, b7, b8, b9, b10⟩ := h2
  refine ⟨⟨by omega, by omega, by omega, by omega, by omega⟩, fun t ht => ?_, fun t ht h3 => ?_, fun k hk => ?_, fun y hy => ?_, fun k hk => ?_⟩
  · obtain ⟨p1, p2, p3⟩ := a6 t ht
    obtain ⟨q1, q2, q3⟩ := b6 t (by omega)
    exact ⟨q1.trans p1, q2.trans p2, fun c h1 h2 h3 => (q3 c h1 h2 h3).trans (p3 c h1 h2 h3)⟩
  · obtain ⟨p1, p2⟩ := a7 t ht h3
    by_cases he : (t : Int) = M1 cc 0
    · obtain ⟨q1, q2⟩ := b7 t he h3
      exact ⟨by omega, fun h => (q2 (by omega)).trans (p2 h)⟩
    · obtain ⟨-, -, q3⟩ := b6 t (by omega)
      have e7 := q3 7 (by omega) (by omega) (by omega)
      have e6 := q3 6 (by omega) (by omega) (by omega)
      exact ⟨by omega, fun h => e6.trans (p2 h)⟩
  · exact (b8 k (by omega)).trans (a8 k hk)
  · obtain ⟨p1, p2, p3⟩ := a9 y hy
    obtain ⟨q1, q2, q3⟩ := b9 y (by omega)
    exact ⟨q1.trans p1, q2.trans p2, q3.trans p3⟩
  · exact (b10 k (by omega)).trans (a10 k hk)
theorem lI_gD (h : lI cc P b M) : gD M (M 96 7) := fun y hy => (h.2.2.2.2.2.2.2.2.1 y hy).1
theorem on_lt (h : lI cc P b M) (hu : u < M 96 7) (hy : on M u y) : (y : Int) ≤ u := on_le (lI_gD h) hu hy
/-- those further out stand higher up -/
theorem on_dep (h : lI cc P b M) (hu : u < M 96 7) (hy : on M u y) : M 100 y ≤ M 100 u.toNat := by
  obtain ⟨k, hy⟩ := hy
  induction k generalizing u with
  | zero =>
    have e : u = (y : Int) := hy
    rw [e, Int.toNat_natCast]
    exact Int.le_refl _
  | succ k ih =>
    obtain ⟨h0, h1⟩ := hy
    have hp := h.2.2.2.2.2.2.2.2.1 u.toNat (by omega)
    have h99 : 0 ≤ M 99 u.toNat := on_0 ⟨k, h1⟩
    have h3 := hp.2.2.1 h99
    have h4 := ih (u := M 99 u.toNat) (by have := hp.1; omega) h1
    omega
theorem on_K (h : lI cc P b M) (hK : lK cc M M') (hu : u < M 96 7) : on M' u y ↔ on M u y := on_eq (lI_gD h) hu fun y hy => (hK.2.2.2.2.1 y hy).2.1
theorem inv_K (h : lI cc P b M) (hK : lK cc M M') (hu : u < M 96 7) (hi : inv P M n u) : inv P M' n u := by
  intro y hy
  have hy' := (on_K h hK hu).mp hy
  have hlt := on_lt h hu hy'
  rw [(hK.2.2.2.2.1 y (by omega)).1]
  exact hi y hy'
theorem pR_K (h : lI cc P b M) (hK : lK cc M M') (hy : (y : Int) < M 96 7) : pR P M' y := by
  have hp := h.2.2.2.2.2.2.2.2.1 y hy
  obtain ⟨e1, e2, e3⟩ := hK.2.2.2.2.1 y hy
  unfold pR at hp ⊢
  rw [e1, e2, e3]
  refine ⟨hp.1, hp.2.1, fun h0 => ?_, hp.2.2.2.1, hp.2.2.2.2.1, hp.2.2.2.2.2.1, inv_K h hK (by have := hp.1; omega) hp.2.2.2.2.2.2⟩
  rw [(hK.2.2.2.2.1 (M 99 y).toNat (by have := hp.1; omega)).2.2]
  exact hp.2.2.1 h0
theorem rG_K (hK : lK cc M M') {r : Nat} (hr : (r : Int) < M 21 1) (hp : rG cc P M r) : rG cc P M' r := by
  unfold rG at hp ⊢
  rw [hK.2.2.2.2.2 (4 * r) (by omega), hK.2.2.2.2.2 (4 * r + 1) (by omega), hK.2.2.2.2.2 (4 * r + 2) (by omega), hK.2.2.2.2.2 (4 * r + 3) (by omega)]
  have := hK.1.1
  omega
theorem pG_K (hK : lK cc M M') {t : Nat} (ht : (t : Int) < M cc 0) (hx : M' (cc + 2) t = M (cc + 2) t ∨ ((M (cc + 1) t = 5 ∨ M (cc + 1) t = 6) ∧ 0 ≤ M' (cc + 2) t ∧ M' (cc + 2) t ≤ M' cc 0)) (hp : pG cc P M t) : pG cc P M' t := by
  obtain ⟨k1, k2, k3⟩ := hK.2.1 t ht
  obtain ⟨c1, c2, c3, c4, c5⟩ := hK.1
  obtain ⟨g1, g2, g3, g4, g5, g6, g7, g8, g9, g10, g11⟩ := hp
  unfold pG
  rw [k1, k2, k3 1 (by omega) (by omega) (by omega), k3 3 (by omega) (by omega) (by omega), k3 4 (by omega) (by omega) (by omega), k3 5 (by omega) (by omega) (by omega), k3 6 (by omega) (by omega) (by omega), k3 7 (by omega) (by omega) (by omega)]
  rcases hx with hx | ⟨h1, h2, h3⟩
  · rw [hx]
    exact ⟨g1, g2, fun q => by have := g3 q; omega, g4, g5, g6, g7, ⟨g8.1, fun q => by have := g8.2 q; omega⟩, by omega, by omega, g11⟩
  · refine ⟨g1, ?_, fun q => h3, g4, fun q => by omega, fun q => by omega, g7, ⟨g8.1, fun q => by have := g8.2 q; omega⟩, by omega, by omega, g11⟩
    unfold a_w2 at g2 ⊢
    rcases h1 with h1 | h1
    · exact ⟨fun q => by omega, fun q => by omega, fun q => ⟨h2, (g2.2.2.1 h1).2⟩, fun q => by omega, fun q => by omega, fun q => by omega, fun q => by omega, fun q => by omega, fun q => by omega, fun q => by omega, fun q => by omega⟩
    · exact ⟨fun q => by omega, fun q => by omega, fun q => by omega, fun q => h2, fun q => by omega, fun q => by omega, fun q => by omega, fun q => by omega, fun q => by omega, fun q => by omega, fun q => by omega⟩
/-- all that was holds still; what is new is to be shown -/
theorem lI_ext {b' : Nat} (hI : lI cc P b M) (hK : lK cc M M') (hx : ∀ t : Nat, (t : Int) < M cc 0 → M' (cc + 2) t = M (cc + 2) t ∨ ((M (cc + 1) t = 5 ∨ M (cc + 1) t = 6) ∧ 0 ≤ M' (cc + 2) t ∧ M' (cc + 2) t ≤ M' cc 0))
    (h10 : M' cc 10 ≤ 2 * M' cc 0 + b') (h7 : M' 96 7 ≤ M' cc 0 + b') (hL : M' 96 10 ≤ M' cc 0 + b') (h11 : M' cc 11 = M cc 11) (hT : 12 * (M' 21 1 - M' cc 11) ≤ tT (M' cc 0))
    (hp : ∀ t : Nat, M cc 0 ≤ (t : Int) → (t : Int) < M' cc 0 → pG cc P M' t) (hq : ∀ t : Nat, (t : Int) = M' cc 0 → t < 300 → 0 ≤ M' (cc + 7) t ∧ (0 < M' (cc + 7) t → 0 ≤ M' (cc + 6) t ∧ M' (cc + 6) t + M' (cc + 7) t = M' cc 10)) (hz : ∀ t : Nat, M' cc 0 < (t : Int) → t < 300 → M' (cc + 7) t = 0)
    (hb : ∀ k : Nat, M cc 10 ≤ (k : Int) → (k : Int) < M' cc 10 → 0 ≤ M' (cc + 8) k ∧ M' (cc + 8) k < P 1 7 ∧ P 13 (M' (cc + 8) k).toNat ≠ -1) (hg : ∀ y : Nat, M 96 7 ≤ (y : Int) → (y : Int) < M' 96 7 → pR P M' y) (hr : ∀ r : Nat, M 21 1 ≤ (r : Int) → (r : Int) < M' 21 1 → rG cc P M' r) : lI cc P b' M' := by
  obtain ⟨a1, a2, a3, a4, a5, a6, a7, a8, a9, a10⟩ := id hI
  obtain ⟨c1, c2, c3, c4, c5⟩ := hK.1
  refine ⟨⟨by omega, h10⟩, ⟨by omega, h7⟩, ⟨by omega, hL⟩, ⟨by omega, by omega, by omega, hT⟩, fun t ht => ?_, hq, hz, fun k hk => ?_, fun y hy => ?_, fun r h1 h2 => ?_⟩
  · rcases Int.lt_or_le t (M cc 0) with q | q
    · exact pG_K hK q (hx t q) (a5 t q)
    · exact hp t q ht
  · rcases Int.lt_or_le k (M cc 10) with q | q
    · rw [hK.2.2.2.1 k q]
      exact a8 k q
    · exact hb k q hk
  · rcases Int.lt_or_le y (M 96 7) with q | q
    · exact pR_K hI hK q
    · exact hg y q hy
  · rcases Int.lt_or_le r (M 21 1) with q | q
    · exact rG_K hK q (a10 r (by omega) q)
    · exact hr r q h2
theorem lI_b {b' : Nat} (hI : lI cc P b M) (h10 : M cc 10 ≤ 2 * M cc 0 + b') (h7 : M 96 7 ≤ M cc 0 + b') (hL : M 96 10 ≤ M cc 0 + b') : lI cc P b' M := by
  obtain ⟨a1, a2, a3, a4⟩ := hI
  exact ⟨⟨a1.1, h10⟩, ⟨a2.1, h7⟩, ⟨a3.1, hL⟩, a4⟩
theorem lI_le {b' : Nat} (hI : lI cc P b M) (h : b ≤ b') : lI cc P b' M := lI_b hI (by have := hI.1; omega) (by have := hI.2.1; omega) (by have := hI.2.2.1; omega)
theorem lw_pl (hcc : pC cc) (h : lw cc d M M') {l : Nat} (hl : l ≤ d) (hd : d ≤ 90) (j : Nat) : M' (105 + l) j = M (105 + l) j := by
  have hr := cc_rg hcc
  exact h.1 _ _ (by omega) (by omega) (by omega) (by omega) (by omega) (by omega)
theorem lw_prog (hcc : pC cc) (h : lw cc d M M') {a j : Nat} (ha : a ≤ 17) : M' a j = M a j := by
  have hr := cc_rg hcc
  exact h.1 _ _ (by omega) (by omega) (by omega) (by omega) (by omega) (by omega)
/-- the places and guards are as they were -/
theorem lB_K (hcc : pC cc) (hd : d ≤ 90) (hB : lB cc P d M) (hI : lI cc P b M) (hw : lw cc d M M') (hW : lW cc M') (h0 : M' cc 1 = 0) (hK : lK cc M M') : lB cc P d M' := by
  obtain ⟨b1, b2, b3, b4, b5⟩ := hB
  obtain ⟨c1, c2, c3, c4, c5⟩ := hK.1
  have pl : ∀ l j, l ≤ d → M' (105 + l) j = M (105 + l) j := fun l j hl => lw_pl hcc hw hl hd j
  have hgd := b4 d (Nat.le_refl d)
  refine ⟨fun a j ha => (lw_prog hcc hw ha).trans (b1 a j ha), hW, h0, fun l hl => ?_, fun y hy => ?_⟩
  · have q := b4 l hl
    rw [pl l 0 hl, pl l 1 hl, pl l 2 hl, pl l 3 hl, pl l 4 hl, pl l 5 hl]
    refine ⟨q.1, q.2.1, q.2.2.1, by omega, by omega, fun h => ?_, by omega, by omega⟩
    rw [(hK.2.2.2.2.1 (M (105 + l) 0).toNat (by omega)).2.2]
    exact q.2.2.2.2.2.1 h
  · rw [pl d 0 (Nat.le_refl d)] at hy
    have hy' := (on_K hI hK (by omega)).mp hy
    have hlt := on_lt hI (by omega) hy'
    have hdp := on_dep hI (by omega) hy'
    have h00 := on_0 hy'
    have hd2 := hgd.2.2.2.2.2.1 h00
    obtain ⟨e1, e2, e3⟩ := hK.2.2.2.2.1 y (by omega)
    have hr := (hI.2.2.2.2.2.2.2.2.1 y (by omega)).2.1
    have hle : (M 100 y).toNat ≤ d := by omega
    obtain ⟨f1, f2, f3⟩ := b5 y hy'
    rw [e1, e2, e3]
    unfold nR at f2 ⊢
    rw [pl _ 0 hle, pl _ 1 hle, pl _ 3 hle, pl _ 4 hle, pl d 1 (Nat.le_refl d)]
    exact ⟨f1, f2, f3⟩
theorem nB_K (hcc : pC cc) (hd : d ≤ 90) (hB : lB cc P d M) (hI : lI cc P b M) (hw : lw cc d M M') (hK : lK cc M M') (hn : nB P d n M) : nB P d n M' := by
  obtain ⟨n1, n2, n3, n4, n5⟩ := hn
  have hgd := hB.2.2.2.1 d (Nat.le_refl d)
  have pl : ∀ j, M' (105 + d) j = M (105 + d) j := fun j => lw_pl hcc hw (Nat.le_refl d) hd j
  refine ⟨n1, n2, n3, ?_, ?_⟩
  · rw [pl 0]; exact inv_K hI hK (by omega) n4
  · unfold nR at n5 ⊢
    rw [pl 1, pl 3, pl 4]; exact n5
theorem sf_K (hcc : pC cc) (hd : d ≤ 90) (hB : lB cc P d M) (hI : lI cc P b M) (hw : lw cc d M M') (hK : lK cc M M') {c : Nat} (h : sf P M d n c) : sf P M' d n c := by
  have hgd := hB.2.2.2.1 d (Nat.le_refl d)
  refine ⟨h.1, fun y hy => ?_⟩
  rw [lw_pl hcc hw (Nat.le_refl d) hd 0] at hy
  have hy' := (on_K hI hK (by omega)).mp hy
  have hlt := on_lt hI (by omega) hy'
  rw [(hK.2.2.2.2.1 y (by omega)).1]
  exact h.2 y hy'
theorem lpR_K (hI : lI cc P b M) (hK : lK cc M M') {tgt tgt' : Int → Nat} {pl gl : Nat} {lo : Option (Nat × Nat)} (hu : u < M 96 7) (h4 : M' pl 4 = M pl 4) (h5 : M' pl 5 = M pl 5) (ht : tgt' (M pl 4) = tgt (M pl 4)) (h : lpR M tgt pl u gl lo) : lpR M' tgt' pl u gl lo := by
  rcases h with ⟨h1, h2⟩ | ⟨h1, lg, k, h2, h3, h6⟩
  · exact Or.inl ⟨by rw [h4]; exact h1, h2⟩
  · refine Or.inr ⟨by rw [h4]; exact h1, lg, k, by rw [h4, ht]; exact h2, h3, ?_⟩
    rw [h5]
    exact gdr_eq (lI_gD hI) (fun y hy => (hK.2.2.2.2.1 y hy).2.1) k u hu h6
theorem gR_K (hI : lI cc P b M) (hK : lK cc M M') {tgt tgt' : Int → Nat} {H H' : Int → List (Int × Int)} (hH : ∀ y : Int, y < M 96 7 → H' y = H y) : ∀ (gs : List aG) (u : Int), u < M 96 7 → (∀ l j, l ≤ d → M' (105 + l) j = M (105 + l) j) → (∀ l, l ≤ d → tgt' (M (105 + l) 4) = tgt (M (105 + l) 4)) → (0 ≤ u → M 100 u.toNat ≤ (d : Int)) → gR M tgt H u gs → gR M' tgt' H' u gs
  | [], _, _, _, _, _, h => h
  | g :: gs, u, hu, hpl, ht, hd, h => by
    obtain ⟨h0, h1, h2, h3, h4, h5⟩ := h
    obtain ⟨e1, e2, e3⟩ := hK.2.2.2.2.1 u.toNat (by omega)
    have hp := hI.2.2.2.2.2.2.2.2.1 u.toNat (by omega)
    have hdu := hd h0
    have hle : (M 100 u.toNat).toNat ≤ d := by omega
    have hlt : M 99 u.toNat < M 96 7 := by have := hp.1; omega
    refine ⟨h0, e1.trans h1, ?_, ?_, ?_, ?_⟩
    · rw [hH u hu, e2, hH _ hlt]; exact h2
    · rw [e3, hpl _ _ hle]; exact h3
    · rw [e3, e2]
      exact lpR_K hI hK hlt (hpl _ _ hle) (hpl _ _ hle) (ht _ hle) h4
    · rw [e2]
      exact gR_K hI hK hH gs _ hlt hpl ht (fun q => by have := hp.2.2.1 q; omega) h5
theorem gR_hs {tgt : Int → Nat} {H : Int → List (Int × Int)} (h1 : H (-1) = []) : ∀ (gs : List aG) (u : Int), gR M tgt H u gs → a_hs gs = H u
  | [], u, h => by
    have e : u = -1 := h
    rw [e, h1]; rfl
  | g :: gs, u, h => by
    obtain ⟨-, -, h2, -, -, h5⟩ := h
    rw [h2, ← gR_hs h1 gs _ h5]; rfl
end KpA
