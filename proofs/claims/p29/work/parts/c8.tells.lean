/-! the law: what is told, five times round -/
/-- the object and the own program agree, in the room -/
def lawJ (H : Nat → zO) (n q : Nat) (M : yM) : Prop := ∃ cc tr c rw ro, wI H n M cc tr ∧ oN H n tr M c rw ro ∧ (n : Int) ≤ 2000 + M 21 2 ∧ (q : Int) ≤ 200000 + 2 * M 21 2
/-- while it is told -/
def lawT (M : yM) : Prop := stt M ∧ M 0 8 = 1 ∧ e79 M
/-- the law's end -/
def lawQ : Option Value → Nat → Nat → (Nat → zO) → Prop := fun u n' q' _ => u = some (.int (yi 1)) ∧ n' ≤ 600000 ∧ q' ≤ 7000000
section HrY
variable {sc : List Int32} {dd K : Nat}
theorem law_31 (hd : 330 ≤ dd) (hK : 1000000 ≤ K) {Z : yM} {r : Int} (hZ : pI Z) (c59 : ∀ (L : zL) (n q : Nat) (H : Nat → zO) (M : yM), L 0 = some (.retAddr 0) → L 1 = some (.ref 0) → L 2 = some (.ref 416) → L 3 = some (.int (yi r)) → lawJ H n q M → lawT M → tRd Z M (Z 1 4).toNat → hG sc zg_c171 zg_w171 dd 59 L [] n q H lawQ) : ∀ (g p : Nat) (L : zL) (n q : Nat) (H : Nat → zO) (M : yM), p + g = (Z 1 4).toNat → L 0 = some (.retAddr 0) → L 1 = some (.ref 0) → L 2 = some (.ref 416) → L 3 = some (.int (yi r)) → L 4 = some (.int (yi (p : Int))) → lawJ H n q M → lawT M → tRd Z M p → hG sc zg_c171 zg_w171 dd 31 L [] n q H lawQ := by
  intro g
  induction g with
  | zero =>
    intro p L n q H M hp l0 l1 l2 l3 l4 hJ hT hR
    have e14 : M 1 4 = Z 1 4 := hR.1 1 4 (by decide)
    have hI := hT.1.1
    have h8 := hI.2.1
    have h13 := hI.2.2.1
    obtain ⟨cc, tr, c, rw', ro, hW, hO, hn, hq⟩ := id hJ
    refine h_ld (t := 0) rfl (Or.inl ⟨rfl, Or.inr rfl⟩) l4 rfl ?_
    refine h_ld (t := 2) rfl (Or.inr (Or.inl ⟨rfl, Or.inl rfl⟩)) l2 rfl ?_
    refine h_lenJ (n0 := n) (q0 := q) (cc := cc) (c := c) (rw := rw') (ro := ro) hI ⟨rfl, Nat.le_refl q, tr, hW, hO⟩ rfl rfl (Or.inr ⟨rfl, rfl⟩) ?_
    refine h_c3 rfl ⟨⟨by omega, by omega⟩, ⟨by omega, by omega⟩⟩ (fun _ => ?_) fun h => absurd h (by omega)
    exact c59 _ n q H M l0 l1 l2 l3 hJ hT (by rw [show p = (Z 1 4).toNat by omega] at hR; exact hR)
  | succ g ih =>
    intro p L n q H M hp l0 l1 l2 l3 l4 hJ hT hR
    have e14 : M 1 4 = Z 1 4 := hR.1 1 4 (by decide)
    have hI := hT.1.1
    have h8 := hI.2.1
    have h13 := hI.2.2.1
    obtain ⟨cc, tr, c, rw', ro, hW, hO, hn, hq⟩ := id hJ
    refine h_ld (t := 0) rfl (Or.inl ⟨rfl, Or.inr rfl⟩) l4 rfl ?_
    refine h_ld (t := 2) rfl (Or.inr (Or.inl ⟨rfl, Or.inl rfl⟩)) l2 rfl ?_
    refine h_lenJ (n0 := n) (q0 := q) (cc := cc) (c := c) (rw := rw') (ro := ro) hI ⟨rfl, Nat.le_refl q, tr, hW, hO⟩ rfl rfl (Or.inr ⟨rfl, rfl⟩) ?_
    refine h_c3 rfl ⟨⟨by omega, by omega⟩, ⟨by omega, by omega⟩⟩ (fun h => absurd h (by omega)) fun _ => ?_
    obtain ⟨⟨i1, i2⟩, ⟨j1, j2, j3, j4, j5, j6, j7⟩, i3, i4, i5, i6, i7, i8⟩ := id hO
    have f416 := i2 416 (by rw [j1]; decide)
    have f3 := i2 (c 3) (by rw [j5]; decide)
    have hp7 : (p : Int) < M 1 4 := by omega
    refine h_ld (t := 2) rfl (Or.inr (Or.inl ⟨rfl, Or.inl rfl⟩)) l2 rfl ?_
    refine h_get rfl f416.2.1 i1 rfl ?_
    refine h_ld (t := 0) rfl (Or.inl ⟨rfl, Or.inr rfl⟩) l4 rfl ?_
    refine h_dup2 rfl ⟨Or.inl ⟨_, rfl⟩, Or.inr ⟨_, rfl⟩⟩ ?_
    refine h_iald (k := p) rfl f3.2.1 i7 (by omega) (yrow_get (by omega)) ?_
    refine h_ld (t := 2) rfl (Or.inr (Or.inl ⟨rfl, Or.inl rfl⟩)) l1 rfl ?_
    refine h_ld (t := 0) rfl (Or.inl ⟨rfl, Or.inr rfl⟩) l4 rfl ?_
    refine h_ic (b := 2) rfl (by decide) (by decide) ?_
    obtain ⟨X, c', e31, hX, hfr, -⟩ := A_31 (c := cc) (K := K) (by omega) hT.1 (Or.inl hT.2.1)
    have frX := fresh_of hX.1 hX.2.1
    have kX : ∀ a i, (a ≤ 12 ∧ ¬ (a = 0 ∧ i = 8)) ∨ a = 23 ∨ 196 ≤ a → X a i = M a i := hfr.1
    have x6p : X 6 p = M 6 p := kX 6 p (by omega)
    have x14 : X 1 4 = M 1 4 := kX 1 4 (by omega)
    have x10 : X 1 0 = M 1 0 := kX 1 0 (by omega)
    have hy : yP sc dd 20 [.ref 0, .int (yi (p : Int)), .int (yi 2)] M cc (some (X, c', some (.int (yi (cpt X (X 6 p)))))) := by
      have h := t_20 (sc := sc) (dd := dd) (cc := cc) (N := K) (M := M) (x1 := (p : Int)) (x2 := 2) (by omega)
      rw [A_20_2 hI ⟨by omega, hp7⟩ e31 (by
        rw [Int.toNat_natCast]
        have h90 := hX.1.1.1
        rcases hX.1.1.2.2.2.2.2.2.1 p (by omega) with h | ⟨h1, h2, -⟩
        · exact Or.inl h
        · exact Or.inr ⟨h1, by omega⟩), Int.toNat_natCast] at h
      exact h
    refine h_cls (as := [.int (yi (p : Int)), .int (yi 2)]) (S := [.int (yi (M 5 p)), .int (yi (p : Int)), .ref (c 3)]) rfl (by decide) rfl (Nat.le_of_ble_eq_true rfl) hW hO hy fun n1 q1 H1 tr1 hW1 hO1 g1 g2 g3 => ?_
    refine h_binw rfl (by decide) ?_
    obtain ⟨v, hv⟩ : ∃ v, v = ybin 27 (M 5 p) (cpt X (X 6 p)) := ⟨_, rfl⟩
    rw [← hv]
    obtain ⟨⟨a1, a2⟩, ⟨b1, b2, b3, b4, b5, b6, b7⟩, a3, a4, a5, a6, a7, a8⟩ := id hO1
    have t3 := a2 (c 3) (by rw [b5]; decide)
    have t416 := a2 416 (by rw [b1]; decide)
    refine h_iast (xs := yrow (M 5) (M 1 4).toNat) (k := p) rfl t3.2.1 a7 (by omega) (by rw [yrow_len]; omega) ?_
    have u : ∀ a i, a ≠ 5 → yU M 5 p v a i = M a i := fun a i ha => yU_ne (fun q => ha q.1)
    have hr : yrow (yU M 5 p v 5) (M 1 4).toNat = (yrow (M 5) (M 1 4).toNat).set p (yi v) := by
      rw [yrow_set]
      exact yrow_cg fun j _ => by
        by_cases e : j = p
        · subst e
          rw [yU_at, if_pos rfl]
        · rw [yU_ne (fun q => e q.2), if_neg e]
    have hW2 := wI_lift (x := .inr (.inl ((yrow (M 5) (M 1 4).toNat).set p (yi v)))) hW1 t3.1 t3.2.2
    have hO2 := oN_ts (P' := yU M 5 p v) (i := p) (v := yi v) hO1 u hr
    generalize zU H1 (c 3) (.inr (.inl ((yrow (M 5) (M 1 4).toNat).set p (yi v)))) = H2 at hW2 hO2 ⊢
    obtain ⟨⟨d1, -⟩, -, -, -, -, -, d7, -⟩ := id hO2
    rw [u 1 4 (by decide)] at d7
    refine h_ld (t := 2) rfl (Or.inr (Or.inl ⟨rfl, Or.inl rfl⟩)) l1 rfl ?_
    refine h_ld (t := 0) rfl (Or.inl ⟨rfl, Or.inr rfl⟩) l4 rfl ?_
    refine h_ld (t := 2) rfl (Or.inr (Or.inl ⟨rfl, Or.inl rfl⟩)) l2 rfl ?_
    refine h_get rfl t416.2.1 d1 rfl ?_
    refine h_ld (t := 0) rfl (Or.inl ⟨rfl, Or.inr rfl⟩) l4 rfl ?_
    refine h_iald (k := p) rfl t3.2.1 d7 (by omega) (yrow_get (by omega)) ?_
    rw [yU_at]
    have hsB : sB (X 1 0) v := by
      rw [hv]
      exact sB_or (by rw [x10]; exact hI.2.2.2.2.2.2.2.2.1 p hp7) (cpt_sB hX.1.1 frX.1 (by omega))
    have hy2 : yP sc dd 35 [.ref 0, .int (yi (p : Int)), .int (yi v)] X c' (some (teM X p v, c', some (.int (yi (X 5 p))))) := by
      have h := t_35 (sc := sc) (dd := dd) (cc := c') (M := X) (x1 := (p : Int)) (x2 := v) (by omega)
      rw [f35_ok hX.1.1 (by omega) hsB] at h
      exact h
    refine h_cls (as := [.int (yi (p : Int)), .int (yi v)]) (S := []) rfl (by decide) rfl (Nat.le_of_ble_eq_true rfl) hW2 hO2 hy2 fun n3 q3 H3 tr3 hW3 hO3 g4 g5 g6 => ?_
    have xb := hX.1.1.2.2.2.2.2.2.2.2.1 p (by omega)
    have xr := (set_rg xb (by omega)).1
    refine h_b3 rfl xb.1 (fun _ => ?_) fun h => absurd h (by omega)
    obtain ⟨te1, te2, te3⟩ := teM_get (M := X) (t := v) (i := p)
    have e21 : teM X p v 21 2 = X 21 2 := te1 21 2 (by omega) (by omega)
    have kT : ∀ a i, 1 ≤ a ∧ a ≤ 12 → ¬ (a = 5 ∧ i = p) → teM X p v a i = M a i := fun a i ha hn => (te1 a i (by omega) hn).trans (kX a i (by omega))
    refine h_inc (c := 1) rfl l4 (by decide) ?_
    refine h_go rfl ?_
    refine ih (p + 1) _ n3 q3 H3 (teM X p v) (by omega) (l_ka (by decide) l0) (l_kr (by decide) l1) (l_kr (by decide) l2) (l_ki (by decide) l3) l_s ⟨c', tr3, c, rw', ro, hW3, ?_, ?_, ?_⟩ ⟨?_, te3, ?_⟩ ?_
    · refine oN_cg hO3 ((kT 1 7 (by decide) (by omega)).trans (u 1 7 (by decide)).symm) (fun a k h1 h2 _ => (kT a k (by omega) (by omega)).trans (u a k (by omega)).symm) ((kT 1 0 (by decide) (by omega)).trans (u 1 0 (by decide)).symm) ((kT 1 4 (by decide) (by omega)).trans (u 1 4 (by decide)).symm) fun i _ => ?_
      by_cases e : i = p
      · subst e
        rw [te2, yU_at]
      · exact (kT 5 i (by decide) (by omega)).trans (yU_ne (fun q => e q.2)).symm
    · rw [e21] at g4 g5 ⊢
      omega
    · rw [e21] at g4 g5 ⊢
      omega
    · obtain ⟨s1, s2, s3, s4, s5, s6⟩ := hX.1
      have pp := teM_pI (i := p) s1 s2 hsB
      exact ⟨pp.1, pp.2, gW_cg s3 ⟨te1 21 1 (by omega) (by omega), e21⟩ (fun c => ⟨te1 103 c (by omega) (by omega), te1 104 c (by omega) (by omega)⟩), by rw [te1 1 4 (by omega) (by omega)]; exact s4, by rw [te1 0 7 (by omega) (by omega)]; exact s5, Or.inl te3⟩
    · exact ⟨(te1 0 7 (by omega) (by omega)).trans ((kX 0 7 (by omega)).trans hT.2.2.1), (te1 0 9 (by omega) (by omega)).trans ((kX 0 9 (by omega)).trans hT.2.2.2)⟩
    · exact tRd_s hZ hR (by omega) (fun a j ha => kX a j (by omega)) frX.1 (fun a j ha hn => kT a j ha hn) (by rw [te2, hv, x6p])
theorem law_26 (hd : 330 ≤ dd) (hK : 1000000 ≤ K) (c61 : ∀ (L : zL) (n q : Nat) (H : Nat → zO) (M : yM), L 0 = some (.retAddr 0) → L 1 = some (.ref 0) → L 2 = some (.ref 416) → lawJ H n q M → lawT M → tRr M 5 → hG sc zg_c171 zg_w171 dd 61 L [] n q H lawQ) : ∀ (g r : Nat) (L : zL) (n q : Nat) (H : Nat → zO) (M : yM), r + g = 5 → L 0 = some (.retAddr 0) → L 1 = some (.ref 0) → L 2 = some (.ref 416) → L 3 = some (.int (yi (r : Int))) → lawJ H n q M → lawT M → tRr M r → hG sc zg_c171 zg_w171 dd 26 L [] n q H lawQ := by
  intro g
  induction g with
  | zero =>
    intro r L n q H M hr l0 l1 l2 l3 hJ hT hR
    refine h_ld (t := 0) rfl (Or.inl ⟨rfl, Or.inl rfl⟩) l3 rfl ?_
    refine h_ic (b := 5) rfl (by decide) (by decide) ?_
    refine h_c3 rfl ⟨⟨by omega, by omega⟩, ⟨by decide, by decide⟩⟩ (fun _ => ?_) fun h => absurd h (by omega)
    exact c61 _ n q H M l0 l1 l2 hJ hT (by rw [show r = 5 by omega] at hR; exact hR)
  | succ g ih =>
    intro r L n q H M hr l0 l1 l2 l3 hJ hT hR
    refine h_ld (t := 0) rfl (Or.inl ⟨rfl, Or.inl rfl⟩) l3 rfl ?_
    refine h_ic (b := 5) rfl (by decide) (by decide) ?_
    refine h_c3 rfl ⟨⟨by omega, by omega⟩, ⟨by decide, by decide⟩⟩ (fun h => absurd h (by omega)) fun _ => ?_
    refine h_ic (b := 0) rfl (by decide) (by decide) ?_
    refine h_st (t := 0) rfl (Or.inl ⟨rfl, Or.inr rfl⟩) rfl ?_
    refine law_31 hd hK (Z := M) (r := (r : Int)) hT.1.1 (fun L n q H M' l0 l1 l2 l3 hJ' hT' hR' => ?_) (M 1 4).toNat 0 _ n q H M (Nat.zero_add _) (l_ka (by decide) l0) (l_kr (by decide) l1) (l_kr (by decide) l2) (l_ki (by decide) l3) l_s hJ hT tRd_0
    refine h_inc (c := 1) rfl l3 (by decide) ?_
    refine h_go rfl ?_
    exact ih (r + 1) _ n q H M' (by omega) (l_ka (by decide) l0) (l_kr (by decide) l1) (l_kr (by decide) l2) l_s hJ' hT' (tRd_e hT.1.1 hT'.1.1 hR' hR)
end HrY
