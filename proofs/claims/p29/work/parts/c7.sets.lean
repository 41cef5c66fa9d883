/-! sets of classes that are derived -/
section HrX
variable {M X : yM} {k o : Int} {cs : List Nat} {p : Nat}
theorem opn_sm : ∀ (cs : List Nat) (o : Int), ysm o → ysm (opn M o cs)
  | [], _, h => h
  | c :: cs, o, _ => by
    show ysm (opn M (ybin 26 o (ybin 105 (M 4 (M 8 c).toNat) (-1))) cs)
    exact opn_sm cs _ bin_sm
theorem ofc_sm : ∀ (cs : List Nat) (o : Int), ysm o → ysm (ofc M o cs)
  | [], _, h => h
  | c :: cs, o, _ => by
    show ysm (ofc M (ybin 27 o (M 16 c)) cs)
    exact ofc_sm cs _ bin_sm
theorem sB_opn (h : sB k o) : sB k (opn M o cs) := ⟨opn_sm cs o h.1, fun x hx h32 => by
  cases e : tb (opn M o cs) x with
  | false => rfl
  | true =>
    have h1 := ((tb_opn cs o h32).mp e).1
    rw [h.2 x hx h32] at h1
    cases h1⟩
theorem sB_ofc (h : sB k o) (hc : ∀ c, c ∈ cs → sB k (M 16 c)) : sB k (ofc M o cs) := ⟨ofc_sm cs o h.1, fun x hx h32 => by
  cases e : tb (ofc M o cs) x with
  | false => rfl
  | true =>
    rcases (tb_ofc cs o).mp e with h1 | ⟨c, c1, c2⟩
    · rw [h.2 x hx h32] at h1
      cases h1
    · rw [(hc c c1).2 x hx h32] at c2
      cases c2⟩
/-- what a node can throw is of the classes that there are -/
theorem vC_sB (hI : pI M) (hk : kn M) : ∀ (g n : Nat), n < g → (n : Int) < M 1 7 → sB (M 1 0) (M 16 n)
  | 0, n, h, _ => absurd h (Nat.not_lt_zero n)
  | g + 1, n, hg, hn => by
    have ih : ∀ j : Nat, j < n → sB (M 1 0) (M 16 j) := fun j hj => vC_sB hI hk g j (by omega) (by omega)
    obtain ⟨-, e16, -⟩ := hk n hn
    rw [e16]
    have h90 := hI.1
    have h13 := hI.2.2.1
    have h5 := hI.2.2.2.2.2.2.2.2.1
    obtain ⟨o1, o2, o3, o4, o5, o6, o7, o8, o9, o10, o11, o12⟩ := hI.2.2.2.1 n hn
    have g14 := (d1_rg hI (fun m hm => (hk m hm).1) 90 n hn (by omega)).2.1
    have one : ∀ c : Int, 0 ≤ c ∧ c < M 1 0 → sB (M 1 0) (ybin 28 1 c) := fun c hc => sB_mono (sB_shl (k := c) ⟨hc.1, by omega⟩) (by omega)
    have kid : ∀ q : Int, (q = -1 ∨ (0 ≤ q ∧ q < (n : Int))) → sB (M 1 0) (cpt M q) := fun q hq => by
      unfold cpt
      by_cases e : q = -1
      · rw [if_pos e]; exact sB_0 (by omega)
      · rw [if_neg e]; exact ih q.toNat (by omega)
    have tel : ∀ q : Int, (q = -1 ∨ (0 ≤ q ∧ q < M 1 4)) → sB (M 1 0) (tpt M q) := fun q hq => by
      unfold tpt
      by_cases e : q = -1
      · rw [if_pos e]; exact sB_0 (by omega)
      · rw [if_neg e]; exact h5 q.toNat (by omega)
    unfold vC
    by_cases c9 : M 7 n = 9
    · rw [if_pos c9]
      have := o7 c9
      exact h5 _ (by omega)
    rw [if_neg c9]
    by_cases c10 : M 7 n = 10
    · rw [if_pos c10]; exact one _ (o8 (Or.inl c10)).1
    rw [if_neg c10]
    by_cases c11 : M 7 n = 11
    · rw [if_pos c11]
      obtain ⟨p1, p2, p3, -⟩ := o9 c11
      have p1' : M 8 n = -1 ∨ (0 ≤ M 8 n ∧ M 8 n < (n : Int)) := by
        rcases p1 with h | h
        · exact Or.inl h
        · exact Or.inr ⟨h.1, h.2.1⟩
      have p3' : M 10 n = -1 ∨ (0 ≤ M 10 n ∧ M 10 n < (n : Int)) := by
        rcases p3 with h | h
        · exact Or.inl h
        · exact Or.inr ⟨h.1, h.2.1⟩
      unfold vT
      by_cases q : npt M (M 8 n)
      · rw [if_pos q]
        have q1 := q.1
        exact ih _ (by omega)
      · rw [if_neg q]
        have hx : ctx M (M 10 n) := by
          rcases p3 with h | h
          · exact Or.inl h
          · exact Or.inr ⟨h.1, by have := h.2.1; omega, h.2.2.2⟩
        have hcs : ∀ c, c ∈ chn M 90 (M 10 n) → sB (M 1 0) (M 16 c) := fun c hc => by
          have := (chn_in hI 90 _ hx c hc).1
          exact ih c (by omega)
        exact sB_or (sB_or (sB_opn (kid _ (Or.inr ⟨p2.1, p2.2.1⟩))) (sB_ofc (sB_0 (by omega)) hcs)) (kid _ p1')
    rw [if_neg c11]
    by_cases c12 : M 7 n = 12
    · rw [if_pos c12]
      have p := (o10 c12).2.1
      exact kid _ (Or.inr ⟨p.1, p.2.1⟩)
    rw [if_neg c12]
    by_cases c13 : M 7 n = 13
    · rw [if_pos c13]
      obtain ⟨p1, p2, p3, -⟩ := o11 c13
      exact sB_or (sB_or (tel _ p2) (tel _ p3)) (kid _ (Or.inr ⟨p1.1, p1.2.1⟩))
    rw [if_neg c13]
    by_cases c14 : M 7 n = 14
    · rw [if_pos c14]
      by_cases q : M 14 n = -1
      · rw [if_pos q]; exact sB_0 (by omega)
      · rw [if_neg q]
        rcases g14 with h | ⟨h1, h2, h3⟩
        · exact absurd h q
        · exact one _ ((hI.2.2.2.1 (M 14 n).toNat (by omega)).2.2.2.2.2.2.2.2.2.1 h3).1
    rw [if_neg c14]
    by_cases c15 : M 7 n = 15
    · rw [if_pos c15]; exact one _ (o8 (Or.inr c15)).1
    rw [if_neg c15]
    refine sB_or (kid _ ?_) (kid _ ?_)
    · unfold ptB
      by_cases q : M 7 n = 4 ∨ M 7 n = 5 ∨ M 7 n = 6 ∨ M 7 n = 11 ∨ M 7 n = 12 ∨ M 7 n = 13
      · rw [if_pos q]
        rcases q with q | q | q | q | q | q
        · have p := (o4 q).1
          exact Or.inr ⟨p.1, p.2.1⟩
        · have p := (o5 q).2.1
          exact Or.inr ⟨p.1, p.2.1⟩
        · have p := (o6 q).2
          exact Or.inr ⟨p.1, p.2.1⟩
        · exact absurd q c11
        · exact absurd q c12
        · exact absurd q c13
      · rw [if_neg q]; exact Or.inl rfl
    · unfold ptC
      by_cases q : M 7 n = 4 ∨ M 7 n = 5 ∨ M 7 n = 11 ∨ M 7 n = 12
      · rw [if_pos q]
        rcases q with q | q | q | q
        · have p := (o4 q).2.1
          exact Or.inr ⟨p.1, p.2.1⟩
        · rcases (o5 q).2.2.1 with p | p
          · exact Or.inl p
          · exact Or.inr ⟨p.1, p.2.1⟩
        · exact absurd q c11
        · exact absurd q c12
      · rw [if_neg q]; exact Or.inl rfl
theorem cpt_sB (hI : pI X) (hk : kn X) (hp : (p : Int) < X 1 4) : sB (X 1 0) (cpt X (X 6 p)) := by
  have h13 := hI.2.2.1
  unfold cpt
  rcases hI.2.2.2.2.2.2.1 p hp with h | ⟨h1, h2, -⟩
  · rw [if_pos h]; exact sB_0 (by omega)
  · rw [if_neg (by omega)]
    exact vC_sB hI hk ((X 6 p).toNat + 1) _ (by omega) (by omega)
end HrX
