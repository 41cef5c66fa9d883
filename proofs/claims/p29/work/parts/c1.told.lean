/-! isTold, by the law -/
section HrS
variable {sc : List Int32} {n q dd tr cc : Nat} {H : Nat → zO} {M P : yM} {c rw ro : Nat → Nat}
/-- one that is told, or need not be -/
def tTd (M : yM) (kd : Nat) : Prop := (1 ≤ kd ∧ kd ≤ 4) ∨ tb (M 5 0) kd = true ∨ ∃ k : Nat, (k : Int) < M 1 7 ∧ (M 7 k = 14 ∨ M 7 k = 18)
theorem L_156 {kd : Nat} (hd : 40 ≤ dd) (hI : pI M) (hO : oN H n tr M c rw ro) (hk : (kd : Int) < M 1 0) (hT : tTd M kd) : hP sc (dd + 1) 156 [.ref 0, .ref 416, .int (yi (kd : Int))] n q H fun u n' q' H' => u = some (.int (yi 1)) ∧ n' = n ∧ q' = q ∧ H' = H := by
  have h13 := hI.2.2.1
  have h8 := hI.2.1
  have h90 := hI.1
  obtain ⟨⟨i1, i2⟩, ⟨j1, j2, j3, j4, j5, j6, j7⟩, i3, i4, ⟨ps, i5, i5b, i5c⟩, ⟨ks, i6, i6b, i6c⟩, i7, bs, i8, i9⟩ := id hO
  have f416 := i2 416 (by rw [j1]; decide)
  have f0 := i2 (c 0) (by rw [j2]; decide)
  have f1 := i2 (c 1) (by rw [j3]; decide)
  have f3 := i2 (c 3) (by rw [j5]; decide)
  have c39 : ∀ (g i : Nat) (L : zL), i + g = (M 1 7).toNat → L 3 = some (.ref (c 0)) → L 4 = some (.int (yi ((M 1 7).toNat : Int))) → L 5 = some (.int (yi (i : Int))) → (∃ k : Nat, i ≤ k ∧ (k : Int) < M 1 7 ∧ (M 7 k = 14 ∨ M 7 k = 18)) → hG sc zg_c156 zg_w156 dd 39 L [] n q H (fun u n' q' H' => u = some (.int (yi 1)) ∧ n' = n ∧ q' = q ∧ H' = H) := by
    intro g
    induction g with
    | zero =>
      intro i L hi l3 l4 l5 ⟨k, k1, k2, _⟩
      exact absurd k2 (by omega)
    | succ g ih =>
      intro i L hi l3 l4 l5 ⟨k, k1, k2, k3⟩
      obtain ⟨x, y, hxy⟩ := i4 i (by omega)
      have fw := i2 (rw i) (by rw [j7 i (by omega)]; decide)
      have s7 := (pI_sm hI (k := i) (by omega)).1
      refine h_ld (t := 0) rfl (Or.inl ⟨rfl, Or.inr rfl⟩) l5 rfl ?_
      refine h_ld (t := 0) rfl (Or.inl ⟨rfl, Or.inr rfl⟩) l4 rfl ?_
      refine h_c3 rfl ⟨⟨by omega, by omega⟩, ⟨by omega, by omega⟩⟩ (fun h => absurd h (by omega)) fun _ => ?_
      refine h_ld (t := 2) rfl (Or.inr (Or.inl ⟨rfl, Or.inl rfl⟩)) l3 rfl ?_
      refine h_ld (t := 0) rfl (Or.inl ⟨rfl, Or.inr rfl⟩) l5 rfl ?_
      refine h_aald rfl f0.2.1 i3 (by omega) (p := some (rw i)) (by rw [List.getElem?_map, List.getElem?_range (by omega)]; rfl) ?_
      refine h_st (t := 2) rfl (Or.inr ⟨rfl, Or.inr rfl⟩) rfl ?_
      refine h_ld (t := 2) rfl (Or.inr (Or.inl ⟨rfl, Or.inr rfl⟩)) l_s rfl ?_
      refine h_ic (b := 0) rfl (by decide) (by decide) ?_
      refine h_iald (k := 0) rfl fw.2.1 hxy (by decide) rfl ?_
      refine h_ic (b := 18) rfl (by decide) (by decide) ?_
      refine h_c0 rfl ⟨s7, ⟨by decide, by decide⟩⟩ (fun _ => (by
        refine h_ic (b := 1) rfl (by decide) (by decide) ?_
        exact h_iret rfl rfl ⟨rfl, rfl, rfl, rfl⟩)) fun m18 => ?_
      refine h_ld (t := 2) rfl (Or.inr (Or.inl ⟨rfl, Or.inr rfl⟩)) l_s rfl ?_
      refine h_ic (b := 0) rfl (by decide) (by decide) ?_
      refine h_iald (k := 0) rfl fw.2.1 hxy (by decide) rfl ?_
      refine h_ic (b := 14) rfl (by decide) (by decide) ?_
      refine h_c1 rfl ⟨s7, ⟨by decide, by decide⟩⟩ (fun m14 => ?_) fun _ => (by
        refine h_ic (b := 1) rfl (by decide) (by decide) ?_
        exact h_iret rfl rfl ⟨rfl, rfl, rfl, rfl⟩)
      refine h_inc (c := 1) rfl (l_ki (by decide) l5) (by decide) ?_
      refine h_go rfl ?_
      refine ih (i + 1) _ (by omega) (l_kr (by decide) (l_kr (by decide) l3)) (l_ki (by decide) (l_ki (by decide) l4)) l_s ⟨k, ?_, k2, k3⟩
      have : i ≠ k := fun h => by
        rw [h] at m18 m14
        rcases k3 with h3 | h3
        · exact m14 h3
        · exact m18 h3
      omega
  have c8 : ∀ (g i : Nat) (L : zL), i + g = ps.length → L 1 = some (.ref 416) → L 2 = some (.int (yi (kd : Int))) → L 3 = some (.int (yi (i : Int))) → (tb (M 5 0) kd = true ∧ i ≤ kd) ∨ (∃ k : Nat, (k : Int) < M 1 7 ∧ (M 7 k = 14 ∨ M 7 k = 18)) → hG sc zg_c156 zg_w156 dd 8 L [] n q H (fun u n' q' H' => u = some (.int (yi 1)) ∧ n' = n ∧ q' = q ∧ H' = H) := by
    intro g
    induction g with
    | zero =>
      intro i L hi l1 l2 l3 hT
      refine h_ld (t := 0) rfl (Or.inl ⟨rfl, Or.inl rfl⟩) l3 rfl ?_
      refine h_ld (t := 2) rfl (Or.inr (Or.inl ⟨rfl, Or.inl rfl⟩)) l1 rfl ?_
      refine h_get rfl f416.2.1 i1 rfl ?_
      refine h_alen (m := ps.length) rfl f1.2.1 (by rw [i5]; rfl) ?_
      refine h_c3 rfl ⟨⟨by omega, by omega⟩, ⟨by omega, by omega⟩⟩ (fun _ => ?_) fun h => absurd h (by omega)
      have hT2 : ∃ k : Nat, (k : Int) < M 1 7 ∧ (M 7 k = 14 ∨ M 7 k = 18) := by
        rcases hT with ⟨-, h⟩ | h
        · exact absurd h (by omega)
        · exact h
      refine h_ld (t := 2) rfl (Or.inr (Or.inl ⟨rfl, Or.inl rfl⟩)) l1 rfl ?_
      refine h_get rfl f416.2.1 i1 rfl ?_
      refine h_st (t := 2) rfl (Or.inr ⟨rfl, Or.inl rfl⟩) rfl ?_
      refine h_ld (t := 2) rfl (Or.inr (Or.inl ⟨rfl, Or.inl rfl⟩)) l_s rfl ?_
      refine h_alen (m := (M 1 7).toNat) rfl f0.2.1 (by rw [i3]; show some (List.length _) = _; rw [List.length_map, List.length_range]) ?_
      refine h_st (t := 0) rfl (Or.inl ⟨rfl, Or.inr rfl⟩) rfl ?_
      refine h_ic (b := 0) rfl (by decide) (by decide) ?_
      refine h_st (t := 0) rfl (Or.inl ⟨rfl, Or.inr rfl⟩) rfl ?_
      obtain ⟨k, k1, k2⟩ := hT2
      exact c39 (M 1 7).toNat 0 _ (by omega) (l_kr (by decide) (l_kr (by decide) l_s)) (l_ki (by decide) l_s) l_s ⟨k, by omega, k1, k2⟩
    | succ g ih =>
      intro i L hi l1 l2 l3 hT
      refine h_ld (t := 0) rfl (Or.inl ⟨rfl, Or.inl rfl⟩) l3 rfl ?_
      refine h_ld (t := 2) rfl (Or.inr (Or.inl ⟨rfl, Or.inl rfl⟩)) l1 rfl ?_
      refine h_get rfl f416.2.1 i1 rfl ?_
      refine h_alen (m := ps.length) rfl f1.2.1 (by rw [i5]; rfl) ?_
      refine h_c3 rfl ⟨⟨by omega, by omega⟩, ⟨by omega, by omega⟩⟩ (fun h => absurd h (by omega)) fun _ => ?_
      have nxt : (i = kd → tb (M 5 0) kd = true → False) → hG sc zg_c156 zg_w156 dd 29 L [] n q H (fun u n' q' H' => u = some (.int (yi 1)) ∧ n' = n ∧ q' = q ∧ H' = H) := fun hn => by
        refine h_inc (c := 1) rfl l3 (by decide) ?_
        refine h_go rfl ?_
        refine ih (i + 1) _ (by omega) (l_kr (by decide) l1) (l_ki (by decide) l2) l_s ?_
        rcases hT with ⟨h, h2⟩ | h
        · refine Or.inl ⟨h, ?_⟩
          have : i ≠ kd := fun e => hn e h
          omega
        · exact Or.inr h
      refine h_ld (t := 2) rfl (Or.inr (Or.inl ⟨rfl, Or.inl rfl⟩)) l1 rfl ?_
      refine h_get rfl f416.2.1 i1 rfl ?_
      refine h_ic (b := 0) rfl (by decide) (by decide) ?_
      refine h_iald (k := 0) (b := yi (M 5 0)) rfl f3.2.1 i7 (by decide) (by rw [yrow_get (by omega)]) ?_
      refine h_ic (b := 1) rfl (by decide) (by decide) ?_
      refine h_ld (t := 0) rfl (Or.inl ⟨rfl, Or.inl rfl⟩) l3 rfl ?_
      refine h_binw rfl (by decide) ?_
      refine h_binw rfl (by decide) ?_
      refine h_b0 rfl bin_sm (fun h0 => ?_) fun _ => ?_
      · skip
        refine nxt fun e ht => ?_
        have h1 : tb (ybin 26 (M 5 0) (ybin 28 1 (i : Int))) i = true := by
          rw [tb_and, tb_shl i (by omega) i (by omega), e, ht]
          exact decide_eq_true rfl
        rw [h0, tb_0] at h1
        cases h1
      obtain ⟨r, r1, r2, r3⟩ := L_163 (sc := sc) (dd := 0) (n := n) (q := q) f416.2.1 i1 f1.2.1 i5 i5c (o := (i : Int)) ⟨by omega, by omega⟩ 13 kd (by omega) (by omega)
      refine h_ld (t := 2) rfl (Or.inr (Or.inl ⟨rfl, Or.inl rfl⟩)) l1 rfl ?_
      refine h_ld (t := 0) rfl (Or.inl ⟨rfl, Or.inl rfl⟩) l2 rfl ?_
      refine h_ld (t := 0) rfl (Or.inl ⟨rfl, Or.inl rfl⟩) l3 rfl ?_
      refine h_obj (a := 416) (as := [.int (yi (kd : Int)), .int (yi (i : Int))]) (S := []) rfl (by decide) rfl (Nat.le_of_ble_eq_true rfl) f416.2.1 i1 (hP_dd (by omega) r3) ?_
      rintro u n1 q1 H1 ⟨e1, e2, e3, e4⟩
      rw [e1, e2, e3, e4]
      refine h_b0 rfl ⟨by omega, by omega⟩ (fun h0 => ?_) fun _ => (by
        refine h_ic (b := 1) rfl (by decide) (by decide) ?_
        exact h_iret rfl rfl ⟨rfl, rfl, rfl, rfl⟩)
      exact nxt fun e _ => by have := r2 (by omega); omega
  refine h_meth (C := zg_c156) (W := zg_w156) (ml := 7) rfl rfl (Nat.le_of_ble_eq_true rfl) ?_
  refine h_ld (t := 2) rfl (Or.inr (Or.inl ⟨rfl, Or.inl rfl⟩)) rfl rfl ?_
  refine h_ld (t := 0) rfl (Or.inl ⟨rfl, Or.inl rfl⟩) rfl rfl ?_
  refine h_obj (a := 416) (as := [.int (yi (kd : Int))]) (S := []) rfl (by decide) rfl (Nat.le_of_ble_eq_true rfl) f416.2.1 i1 (hP_dd (dd := 0 + 13 + 1) (by omega) (L_164 (dd := 0) hO h13.2 13 kd (by omega) hk)) ?_
  rintro u n1 q1 H1 ⟨⟨r, r1, r2, e1⟩, e2, e3, e4⟩
  rw [e1, e2, e3, e4]
  refine h_b1 rfl ⟨by omega, by omega⟩ (fun hr => ?_) fun _ => ?_
  rotate_left
  · skip
    refine h_ic (b := 1) rfl (by decide) (by decide) ?_
    exact h_iret rfl rfl ⟨rfl, rfl, rfl, rfl⟩
  refine h_ic (b := 0) rfl (by decide) (by decide) ?_
  refine h_st (t := 0) rfl (Or.inl ⟨rfl, Or.inl rfl⟩) rfl ?_
  refine c8 ps.length 0 _ (by omega) rfl rfl l_s ?_
  rcases hT with h | h | h
  · exact absurd (r2 h.2) hr
  · exact Or.inl ⟨h, by omega⟩
  · exact Or.inr h
end HrS
