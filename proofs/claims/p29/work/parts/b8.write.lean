/-! procedures and classes, by the law -/
section HrQ
variable {sc : List Int32} {dd : Nat}
theorem gW_cg {M M' : yM} (h : gW M) (h21 : M' 21 1 = M 21 1 ∧ M' 21 2 = M 21 2) (h3 : ∀ c, M' 103 c = M 103 c ∧ M' 104 c = M 104 c) : gW M' := by
  obtain ⟨t1, t2⟩ := h
  refine ⟨?_, fun c hc => ?_⟩
  · unfold tI
    rw [h21.1, h21.2]
    exact t1
  · rw [(h3 c).1, (h3 c).2]
    exact t2 c hc
theorem w_72 (hd : 110 ≤ dd) (hs : sc.length ≤ 1048576) {b : Int} {np : Nat} (hb : b = 0 ∨ b = 1) (hnp : np ≤ 4) : ∀ (g k : Nat) (L : zL) (n q : Nat) (H : Nat → zO) (M : yM), 1 ≤ k → k + g = np → (∀ {_ : Unit}, L 0 = some (.ref 0) ∧ L 1 = some (.ref 416) ∧ L 2 = some (.retAddr 0) ∧ L 3 = some (.int (yi b)) ∧ L 5 = some (.int (yi (np : Int))) ∧ L 6 = some (.int (yi (k : Int)))) → sI H n q M (4 + 2 * k) → M 0 8 = 1 → e79 M → M 1 4 = (k : Int) → M 1 0 ≤ 9 → (∀ p : Nat, M 6 p = -1) → hG sc zg_c161 zg_w161 dd 72 L [] n q H wQ := by
  intro g
  induction g with
  | zero =>
    intro k L n q H M hk1 hk hl hS e08 e07 e14 e10 e6
    obtain ⟨l0, l1, l2, l3, l5, l6⟩ := @hl ()
    refine h_ld (t := 0) rfl (Or.inl ⟨rfl, Or.inr rfl⟩) l6 rfl ?_
    refine h_ld (t := 0) rfl (Or.inl ⟨rfl, Or.inr rfl⟩) l5 rfl ?_
    refine h_c3 rfl ⟨⟨by omega, by omega⟩, ⟨by omega, by omega⟩⟩ (fun _ => ?_) fun h => absurd h (by omega)
    refine h_ic (b := 0) rfl (by decide) (by decide) ?_
    refine h_st (t := 0) rfl (Or.inl ⟨rfl, Or.inr rfl⟩) rfl ?_
    exact w_128 hd hs (b := 0) hnp np 0 _ n q H M (by omega) (fun {_} => ⟨(l_kr (by decide) l0), (l_kr (by decide) l1), (l_ka (by decide) l2), (l_ki (by decide) l5), l_s⟩) (sI_mono hS (by omega)) e08 e07 (by omega) (fun p _ => e6 p)
  | succ g ih =>
    intro k L n q H M hk1 hk hl hS e08 e07 e14 e10 e6
    obtain ⟨l0, l1, l2, l3, l5, l6⟩ := @hl ()
    have h13 := hS.2.1.2.2.1
    have c104 : ∀ t : Int, sB (M 1 0) t → hG sc zg_c161 zg_w161 dd 104 L [.int (yi t)] n q H wQ := by
      intro t ht
      obtain ⟨⟨cc, tr, c, rw', ro, hW, hO⟩, hI, hX, hGW, hn, hq⟩ := hS
      have hf := f22_ok hI hX ht (by omega)
      have hy : yP sc dd 22 [.ref 0, .int (yi t)] M cc (some (prM M t, cc, some (.int (yi (M 1 4))))) := by
        have h := t_22 (sc := sc) (dd := dd) (cc := cc) (M := M) (x1 := t) (by omega)
        rw [hf] at h
        exact h
      obtain ⟨b1, b2, b3, b4⟩ := prM_get (M := M) (t := t)
      obtain ⟨p1, p2⟩ := prM_pI hI hX ht (by omega)
      have h90 := hI.1
      have en : (M 1 4).toNat = k := by omega
      rw [en] at b1 b3
      have e21 : prM M t 21 2 = M 21 2 := b1 21 2 (by omega) (by omega) (by omega)
      refine h_st (t := 0) rfl (Or.inl ⟨rfl, Or.inr rfl⟩) rfl ?_
      refine h_ld (t := 2) rfl (Or.inr (Or.inl ⟨rfl, Or.inl rfl⟩)) (l_kr (by decide) l0) rfl ?_
      refine h_ld (t := 0) rfl (Or.inl ⟨rfl, Or.inr rfl⟩) l_s rfl ?_
      refine h_cls (as := [.int (yi t)]) (S := []) rfl (by decide) rfl (Nat.le_of_ble_eq_true rfl) hW hO hy fun n2 q2 H2 tr2 hW2 hO2 g5 g6 g7 => ?_
      rw [e21] at g5 g6
      rw [e14]
      refine h_ld (t := 0) rfl (Or.inl ⟨rfl, Or.inr rfl⟩) (l_ki (by decide) l6) rfl ?_
      refine h_c0 rfl ⟨⟨by omega, by omega⟩, ⟨by omega, by omega⟩⟩ (fun _ => ?_) fun h => absurd rfl h
      obtain ⟨⟨i1, i2⟩, ⟨j1, j2, j3, j4, j5, j6, j7⟩, i3, i4, i5, i6, i7, bs, i8, i9⟩ := id hO2
      have f416 := i2 416 (by rw [j1]; decide)
      have f3 := i2 (c 3) (by rw [j5]; decide)
      have f4 := i2 (c 4) (by rw [j6]; decide)
      have htr := hW2.1.2.2.1
      rw [en] at i7
      refine h_ld (t := 2) rfl (Or.inr (Or.inl ⟨rfl, Or.inl rfl⟩)) (l_kr (by decide) l1) rfl ?_
      refine h_ld (t := 2) rfl (Or.inr (Or.inl ⟨rfl, Or.inl rfl⟩)) (l_kr (by decide) l1) rfl ?_
      refine h_get rfl f416.2.1 i1 rfl ?_
      refine h_ld (t := 0) rfl (Or.inl ⟨rfl, Or.inr rfl⟩) l_s rfl ?_
      refine h_stat (as := [.ref (c 3), .int (yi t)]) (S := [.ref 416]) rfl (by decide) rfl (Nat.le_of_ble_eq_true rfl) (hP_dd (dd := dd - 2 + 2) (by omega) (L_167 (dd := dd - 2) f3.2.1 i7 (by rw [yrow_len]; omega))) ?_
      rintro u3 n3 q3 H3 ⟨rfl, rfl, rfl, rfl⟩
      refine h_put (fs := [.ref (c 0), .ref (c 1), .ref (c 2), .ref (c 3), .ref (c 4)]) rfl (by decide) (by omega) (by rw [zU_ne (by omega)]; exact i1) (Nat.le_of_ble_eq_true rfl) rfl ?_
      refine h_ld (t := 2) rfl (Or.inr (Or.inl ⟨rfl, Or.inl rfl⟩)) (l_kr (by decide) l1) rfl ?_
      refine h_ld (t := 2) rfl (Or.inr (Or.inl ⟨rfl, Or.inl rfl⟩)) (l_kr (by decide) l1) rfl ?_
      refine h_get (fs := [.ref (c 0), .ref (c 1), .ref (c 2), .ref n2, .ref (c 4)]) rfl (by omega) zU_eq rfl ?_
      refine h_ic (b := (-1)) rfl (by decide) (by decide) ?_
      have n4 : c 4 ≠ 416 := fun h => by rw [h, j1] at j6; exact absurd j6 (by decide)
      refine h_stat (as := [.ref (c 4), .int (yi (-1))]) (S := [.ref 416]) rfl (by decide) rfl (Nat.le_of_ble_eq_true rfl) (hP_dd (dd := dd - 2 + 2) (by omega) (L_167 (dd := dd - 2) (by omega) (by rw [zU_ne n4, zU_ne (by omega)]; exact i8) (by omega))) ?_
      rintro u4 n4 q4 H4 ⟨rfl, rfl, rfl, rfl⟩
      refine h_put (fs := [.ref (c 0), .ref (c 1), .ref (c 2), .ref n2, .ref (c 4)]) rfl (by decide) (by omega) (by rw [zU_ne (by omega)]; exact zU_eq) (Nat.le_of_ble_eq_true rfl) rfl ?_
      obtain ⟨c', ro', hO3⟩ := oN_proc (P' := prM M t) (t := t) (v := yi (-1)) hO2 htr i8 (by omega) b2 (by rw [en]; exact b3) (by rw [en]; exact b1)
      have hW3 := wI_lift (x := .inl (10, [.ref (c 0), .ref (c 1), .ref (c 2), .ref n2, .ref (n2 + 1)])) (wI_new (x := .inr (.inl (bs ++ [yi (-1)]))) (wI_lift (x := .inl (10, [.ref (c 0), .ref (c 1), .ref (c 2), .ref n2, .ref (c 4)])) (wI_new (x := .inr (.inl (yrow (M 5) (M 1 4).toNat ++ [yi t]))) hW2) (a := 416) (Nat.le_refl _) f416.2.2)) (a := 416) (Nat.le_refl _) f416.2.2
      rw [en] at hO3 hW3
      have hS5 : sI _ (n2 + 2) (q2 + ((yrow (M 5) k).length + 1) + (bs.length + 1)) (prM M t) (4 + 2 * (k + 1)) := ⟨⟨cc, tr2, c', rw', ro', hW3, hO3⟩, p1, p2, gW_cg hGW ⟨b1 21 1 (by omega) (by omega) (by omega), e21⟩ fun c => ⟨b1 103 c (by omega) (by omega) (by omega), b1 104 c (by omega) (by omega) (by omega)⟩, by rw [e21, b1 1 7 (by omega) (by omega) (by omega)]; omega, by rw [e21, b1 1 7 (by omega) (by omega) (by omega), yrow_len]; omega⟩
      refine h_inc (c := 1) rfl (l_ki (by decide) l6) (by decide) ?_
      refine h_go rfl ?_
      exact ih (k + 1) _ _ _ _ (prM M t) (by omega) (by omega) (fun {_} => ⟨(l_kr (by decide) (l_kr (by decide) l0)), (l_kr (by decide) (l_kr (by decide) l1)), (l_ka (by decide) (l_ka (by decide) l2)), (l_ki (by decide) (l_ki (by decide) l3)), (l_ki (by decide) (l_ki (by decide) l5)), l_s⟩) hS5 b4 ⟨(b1 0 7 (by omega) (by omega) (by omega)).trans e07.1, (b1 0 9 (by omega) (by omega) (by omega)).trans e07.2⟩ (by rw [b2]; omega) (by rw [b1 1 0 (by omega) (by omega) (by omega)]; exact e10) fun p => (b1 6 p (by omega) (by omega) (by omega)).trans (e6 p)
    refine h_ld (t := 0) rfl (Or.inl ⟨rfl, Or.inr rfl⟩) l6 rfl ?_
    refine h_ld (t := 0) rfl (Or.inl ⟨rfl, Or.inr rfl⟩) l5 rfl ?_
    refine h_c3 rfl ⟨⟨by omega, by omega⟩, ⟨by omega, by omega⟩⟩ (fun h => absurd h (by omega)) fun _ => ?_
    refine h_ld (t := 0) rfl (Or.inl ⟨rfl, Or.inl rfl⟩) l3 rfl ?_
    refine h_b0 rfl ⟨by omega, by omega⟩ (fun _ => ?_) fun _ => ?_
    · skip
      refine h_ic (b := 0) rfl (by decide) (by decide) ?_
      exact c104 0 (sB_0 (by omega))
    have ep : ybin 28 1 (M 1 0) = 2 ^ (M 1 0).toNat := by
      have := shl_pow (M 1 0).toNat (by omega)
      rw [Int.toNat_of_nonneg (by omega)] at this
      exact this
    have ep2 : (1 : Int) ≤ 2 ^ (M 1 0).toNat ∧ (2 : Int) ^ (M 1 0).toNat ≤ 2147483647 := by
      have h5 : (M 1 0).toNat = 5 ∨ (M 1 0).toNat = 6 ∨ (M 1 0).toNat = 7 ∨ (M 1 0).toNat = 8 ∨ (M 1 0).toNat = 9 := by omega
      rcases h5 with h | h | h | h | h <;> rw [h] <;> decide
    refine h_ld (t := 2) rfl (Or.inr (Or.inl ⟨rfl, Or.inl rfl⟩)) l2 rfl ?_
    refine h_ld (t := 0) rfl (Or.inl ⟨rfl, Or.inr rfl⟩) l6 rfl ?_
    refine h_ic (b := 4) rfl (by decide) (by decide) ?_
    refine h_add rfl ?_
    refine h_154 rfl (Nat.le_of_ble_eq_true rfl) (by omega) hs ⟨by omega, by omega⟩ fun c1 => ?_
    refine h_ic (b := 1) rfl (by decide) (by decide) ?_
    refine h_ld (t := 2) rfl (Or.inr (Or.inl ⟨rfl, Or.inl rfl⟩)) l1 rfl ?_
    refine h_len hS rfl rfl (Or.inr (Or.inl ⟨rfl, rfl⟩)) ?_
    refine h_binw rfl (by decide) ?_
    rw [ep]
    refine h_152 rfl (Nat.le_of_ble_eq_true rfl) (by omega) ep2 fun t1 a1 b1 => ?_
    refine h_ld (t := 2) rfl (Or.inr (Or.inl ⟨rfl, Or.inl rfl⟩)) l2 rfl ?_
    refine h_ld (t := 0) rfl (Or.inl ⟨rfl, Or.inr rfl⟩) l6 rfl ?_
    refine h_ic (b := 7) rfl (by decide) (by decide) ?_
    refine h_add rfl ?_
    refine h_154 rfl (Nat.le_of_ble_eq_true rfl) (by omega) hs ⟨by omega, by omega⟩ fun c2 => ?_
    refine h_ic (b := 3) rfl (by decide) (by decide) ?_
    refine h_bin rfl (by decide) fun d1 hd1 => ?_
    refine h_ic (b := 1) rfl (by decide) (by decide) ?_
    refine h_ld (t := 2) rfl (Or.inr (Or.inl ⟨rfl, Or.inl rfl⟩)) l1 rfl ?_
    refine h_len hS rfl rfl (Or.inr (Or.inl ⟨rfl, rfl⟩)) ?_
    refine h_binw rfl (by decide) ?_
    rw [ep]
    refine h_152 rfl (Nat.le_of_ble_eq_true rfl) (by omega) ep2 fun t2 a2 b2 => ?_
    refine h_binw rfl (by decide) ?_
    refine h_go rfl ?_
    refine c104 _ ⟨bin_sm, fun x hx h32 => ?_⟩
    have h1 := (sB_lt (k := (M 1 0).toNat) ⟨a1, b1⟩ (by omega)).2 x (by omega) h32
    rw [tb_and, h1]; rfl
theorem w_8 (hd : 110 ≤ dd) (hs : sc.length ≤ 1048576) {b : Int} {kn : Nat} (hb : b = 0 ∨ b = 1) (hkn : kn ≤ 4) : ∀ (g k : Nat) (L : zL) (n q : Nat) (H : Nat → zO) (M : yM), k + g = kn → (∀ {_ : Unit}, L 0 = some (.ref 0) ∧ L 1 = some (.ref 416) ∧ L 2 = some (.retAddr 0) ∧ L 3 = some (.int (yi b)) ∧ L 4 = some (.int (yi (kn : Int))) ∧ L 5 = some (.int (yi (k : Int)))) → sI H n q M k → M 0 8 = 1 → e79 M → M 1 4 = 1 → M 1 0 = 5 + (k : Int) → (∀ p : Nat, M 6 p = -1) → hG sc zg_c161 zg_w161 dd 8 L [] n q H wQ := by
  intro g
  induction g with
  | zero =>
    intro k L n q H M hk hl hS e08 e07 e14 e10 e6
    obtain ⟨l0, l1, l2, l3, l4, l5⟩ := @hl ()
    refine h_ld (t := 0) rfl (Or.inl ⟨rfl, Or.inr rfl⟩) l5 rfl ?_
    refine h_ld (t := 0) rfl (Or.inl ⟨rfl, Or.inr rfl⟩) l4 rfl ?_
    refine h_c3 rfl ⟨⟨by omega, by omega⟩, ⟨by omega, by omega⟩⟩ (fun _ => ?_) fun h => absurd h (by omega)
    refine h_ic (b := 1) rfl (by decide) (by decide) ?_
    refine h_ld (t := 2) rfl (Or.inr (Or.inl ⟨rfl, Or.inl rfl⟩)) l2 rfl ?_
    refine h_ic (b := 3) rfl (by decide) (by decide) ?_
    refine h_154 rfl (Nat.le_of_ble_eq_true rfl) (by omega) hs ⟨by omega, by omega⟩ fun c1 => ?_
    refine h_ic (b := 4) rfl (by decide) (by decide) ?_
    refine h_152 rfl (Nat.le_of_ble_eq_true rfl) (by omega) ⟨by omega, by omega⟩ fun r2 a2 b2 => ?_
    refine h_add rfl ?_
    refine h_st (t := 0) rfl (Or.inl ⟨rfl, Or.inr rfl⟩) rfl ?_
    refine h_ic (b := 1) rfl (by decide) (by decide) ?_
    refine h_st (t := 0) rfl (Or.inl ⟨rfl, Or.inr rfl⟩) rfl ?_
    obtain ⟨np, hnp⟩ : ∃ np : Nat, 1 + r2 = (np : Int) := ⟨(1 + r2).toNat, by omega⟩
    rw [hnp]
    exact w_72 hd hs hb (np := np) (by omega) (np - 1) 1 _ n q H M (by omega) (by omega) (fun {_} => ⟨(l_kr (by decide) (l_kr (by decide) l0)), (l_kr (by decide) (l_kr (by decide) l1)), (l_ka (by decide) (l_ka (by decide) l2)), (l_ki (by decide) (l_ki (by decide) l3)), (l_ki (by decide) l_s), l_s⟩) (sI_mono hS (by omega)) e08 e07 (by omega) (by omega) e6
  | succ g ih =>
    intro k L n q H M hk hl hS e08 e07 e14 e10 e6
    obtain ⟨l0, l1, l2, l3, l4, l5⟩ := @hl ()
    have h13 := hS.2.1.2.2.1
    have c36 : ∀ (L : zL) (p z : Int), (0 ≤ p ∧ p < M 1 0) → (z = 0 ∨ z = 1) → (∀ {_ : Unit}, L 0 = some (.ref 0) ∧ L 1 = some (.ref 416) ∧ L 2 = some (.retAddr 0) ∧ L 3 = some (.int (yi b)) ∧ L 4 = some (.int (yi (kn : Int))) ∧ L 5 = some (.int (yi (k : Int))) ∧ L 6 = some (.int (yi p))) → hG sc zg_c161 zg_w161 dd 36 L [.int (yi z)] n q H wQ := by
      intro L p z hp hz hl
      obtain ⟨l0, l1, l2, l3, l4, l5, l6⟩ := @hl ()
      obtain ⟨⟨cc, tr, c, rw', ro, hW, hO⟩, hI, hX, hGW, hn, hq⟩ := hS
      obtain ⟨M', hf, p1, p2, b2, b4, b1⟩ := f13_ok (K := 100) (q := p) (b := z) (by decide) hI hX hp (by omega)
      have hy : yP sc dd 13 [.ref 0, .int (yi p), .int (yi z)] M cc (some (M', cc, some (.int (yi (M 1 0))))) := by
        have h := t_13 (sc := sc) (dd := dd) (cc := cc) (N := 100) (M := M) (x1 := p) (x2 := z) (by omega)
        rw [hf] at h
        exact h
      have h90 := hI.1
      have e21 : M' 21 2 = M 21 2 := b1 21 2 (by omega) (by omega) (by omega) (by omega) (by omega)
      refine h_st (t := 0) rfl (Or.inl ⟨rfl, Or.inr rfl⟩) rfl ?_
      refine h_ld (t := 2) rfl (Or.inr (Or.inl ⟨rfl, Or.inl rfl⟩)) (l_kr (by decide) l0) rfl ?_
      refine h_ld (t := 0) rfl (Or.inl ⟨rfl, Or.inr rfl⟩) (l_ki (by decide) l6) rfl ?_
      refine h_ld (t := 0) rfl (Or.inl ⟨rfl, Or.inr rfl⟩) l_s rfl ?_
      refine h_cls (as := [.int (yi p), .int (yi z)]) (S := []) rfl (by decide) rfl (Nat.le_of_ble_eq_true rfl) hW hO hy fun n2 q2 H2 tr2 hW2 hO2 g5 g6 g7 => ?_
      rw [e21] at g5 g6
      obtain ⟨⟨i1, i2⟩, ⟨j1, j2, j3, j4, j5, j6, j7⟩, i3, i4, ⟨ps, i5, i5b, i5c⟩, ⟨ks, i6, i6b, i6c⟩, i7, bs, i8, i9⟩ := id hO2
      have f416 := i2 416 (by rw [j1]; decide)
      have f1 := i2 (c 1) (by rw [j3]; decide)
      have f2 := i2 (c 2) (by rw [j4]; decide)
      have htr := hW2.1.2.2.1
      refine h_ld (t := 2) rfl (Or.inr (Or.inl ⟨rfl, Or.inl rfl⟩)) (l_kr (by decide) l1) rfl ?_
      refine h_get rfl f416.2.1 i1 rfl ?_
      refine h_alen (m := ps.length) rfl f1.2.1 (by rw [i5]; rfl) ?_
      refine h_c0 rfl ⟨⟨by omega, by omega⟩, ⟨by omega, by omega⟩⟩ (fun _ => ?_) fun h => absurd i5b.symm h
      refine h_ld (t := 2) rfl (Or.inr (Or.inl ⟨rfl, Or.inl rfl⟩)) (l_kr (by decide) l1) rfl ?_
      refine h_get rfl f416.2.1 i1 rfl ?_
      refine h_ld (t := 2) rfl (Or.inr (Or.inl ⟨rfl, Or.inl rfl⟩)) (l_kr (by decide) l1) rfl ?_
      refine h_get rfl f416.2.1 i1 rfl ?_
      refine h_alen (m := ps.length) rfl f1.2.1 (by rw [i5]; rfl) ?_
      refine h_ld (t := 0) rfl (Or.inl ⟨rfl, Or.inr rfl⟩) l_s rfl ?_
      refine h_zast (k := ps.length) rfl f2.2.1 i6 (by omega) (by omega) hz ?_
      have hO3 := oN_ks (i := ps.length) (b := z) hO2 i6 ⟨by omega, by omega⟩ hz
      have hW3 := wI_lift (x := .inr (.inr (.inl (ks.set ps.length (yi z))))) hW2 f2.1 f2.2.2
      have n1 : c 1 ≠ c 2 := fun h => by rw [h, j4] at j3; exact absurd j3 (by decide)
      have n416 : (416 : Nat) ≠ c 2 := fun h => by rw [← h, j1] at j4; exact absurd j4 (by decide)
      have i1' : zU H2 (c 2) (.inr (.inr (.inl (ks.set ps.length (yi z))))) 416 = .inl (10, [.ref (c 0), .ref (c 1), .ref (c 2), .ref (c 3), .ref (c 4)]) := by rw [zU_ne n416]; exact i1
      have i5' : zU H2 (c 2) (.inr (.inr (.inl (ks.set ps.length (yi z))))) (c 1) = .inr (.inl ps) := by rw [zU_ne n1]; exact i5
      refine h_ld (t := 2) rfl (Or.inr (Or.inl ⟨rfl, Or.inl rfl⟩)) (l_kr (by decide) l1) rfl ?_
      refine h_ld (t := 2) rfl (Or.inr (Or.inl ⟨rfl, Or.inl rfl⟩)) (l_kr (by decide) l1) rfl ?_
      refine h_get rfl f416.2.1 i1' rfl ?_
      refine h_ld (t := 0) rfl (Or.inl ⟨rfl, Or.inr rfl⟩) (l_ki (by decide) l6) rfl ?_
      refine h_stat (as := [.ref (c 1), .int (yi p)]) (S := [.ref 416]) rfl (by decide) rfl (Nat.le_of_ble_eq_true rfl) (hP_dd (dd := dd - 2 + 2) (by omega) (L_167 (dd := dd - 2) f1.2.1 i5' (by omega))) ?_
      rintro u3 n3 q3 H3 ⟨rfl, rfl, rfl, rfl⟩
      refine h_put (fs := [.ref (c 0), .ref (c 1), .ref (c 2), .ref (c 3), .ref (c 4)]) rfl (by decide) (by omega) (by rw [zU_ne (by omega)]; exact i1') (Nat.le_of_ble_eq_true rfl) rfl ?_
      obtain ⟨c', ro', hO4⟩ := oN_kind (P' := M') (b := p) hO3 htr i5' hp (by omega) b2 b1
      have hW4 := wI_lift (x := .inl (10, [.ref (c 0), .ref n2, .ref (c 2), .ref (c 3), .ref (c 4)])) (wI_new (x := .inr (.inl (ps ++ [yi p]))) hW3) (a := 416) (Nat.le_refl _) f416.2.2
      have e17 : M' 1 7 = M 1 7 := b1 1 7 (by omega) (by omega) (by omega) (by omega) (by omega)
      have hS5 : sI _ (n2 + 1) (q2 + (ps.length + 1)) M' (k + 1) := ⟨⟨cc, tr2, c', rw', ro', hW4, hO4⟩, p1, p2, gW_cg hGW ⟨b1 21 1 (by omega) (by omega) (by omega) (by omega) (by omega), e21⟩ fun c => ⟨b1 103 c (by omega) (by omega) (by omega) (by omega) (by omega), b1 104 c (by omega) (by omega) (by omega) (by omega) (by omega)⟩, by rw [e21, e17]; omega, by rw [e21, e17]; omega⟩
      refine h_inc (c := 1) rfl (l_ki (by decide) l5) (by decide) ?_
      refine h_go rfl ?_
      exact ih (k + 1) _ _ _ _ M' (by omega) (fun {_} => ⟨(l_kr (by decide) (l_kr (by decide) l0)), (l_kr (by decide) (l_kr (by decide) l1)), (l_ka (by decide) (l_ka (by decide) l2)), (l_ki (by decide) (l_ki (by decide) l3)), (l_ki (by decide) (l_ki (by decide) l4)), l_s⟩) hS5 b4 ⟨(b1 0 7 (by omega) (by omega) (by omega) (by omega) (by omega)).trans e07.1, (b1 0 9 (by omega) (by omega) (by omega) (by omega) (by omega)).trans e07.2⟩ ((b1 1 4 (by omega) (by omega) (by omega) (by omega) (by omega)).trans e14) (by rw [b2]; omega) fun p => (b1 6 p (by omega) (by omega) (by omega) (by omega) (by omega)).trans (e6 p)
    refine h_ld (t := 0) rfl (Or.inl ⟨rfl, Or.inr rfl⟩) l5 rfl ?_
    refine h_ld (t := 0) rfl (Or.inl ⟨rfl, Or.inr rfl⟩) l4 rfl ?_
    refine h_c3 rfl ⟨⟨by omega, by omega⟩, ⟨by omega, by omega⟩⟩ (fun h => absurd h (by omega)) fun _ => ?_
    refine h_ld (t := 2) rfl (Or.inr (Or.inl ⟨rfl, Or.inl rfl⟩)) l2 rfl ?_
    refine h_ld (t := 0) rfl (Or.inl ⟨rfl, Or.inr rfl⟩) l5 rfl ?_
    refine h_ic (b := 1) rfl (by decide) (by decide) ?_
    refine h_add rfl ?_
    refine h_154 rfl (Nat.le_of_ble_eq_true rfl) (by omega) hs ⟨by omega, by omega⟩ fun c3 => ?_
    refine h_ic (b := 3) rfl (by decide) (by decide) ?_
    refine h_bin rfl (by decide) fun d1 hd1 => ?_
    refine h_ld (t := 2) rfl (Or.inr (Or.inl ⟨rfl, Or.inl rfl⟩)) l1 rfl ?_
    refine h_len hS rfl rfl (Or.inr (Or.inl ⟨rfl, rfl⟩)) ?_
    refine h_152 rfl (Nat.le_of_ble_eq_true rfl) (by omega) ⟨by omega, by omega⟩ fun r4 a4 b4 => ?_
    refine h_st (t := 0) rfl (Or.inl ⟨rfl, Or.inr rfl⟩) rfl ?_
    refine h_ld (t := 0) rfl (Or.inl ⟨rfl, Or.inl rfl⟩) (l_ki (by decide) l3) rfl ?_
    refine h_b0 rfl ⟨by omega, by omega⟩ (fun _ => ?_) fun _ => ?_
    · skip
      refine h_ic (b := 0) rfl (by decide) (by decide) ?_
      exact c36 _ r4 0 ⟨by omega, by omega⟩ (by decide) (fun {_} => ⟨(l_kr (by decide) l0), (l_kr (by decide) l1), (l_ka (by decide) l2), (l_ki (by decide) l3), (l_ki (by decide) l4), (l_ki (by decide) l5), l_s⟩)
    refine h_ld (t := 2) rfl (Or.inr (Or.inl ⟨rfl, Or.inl rfl⟩)) (l_ka (by decide) l2) rfl ?_
    refine h_ld (t := 0) rfl (Or.inl ⟨rfl, Or.inr rfl⟩) (l_ki (by decide) l5) rfl ?_
    refine h_ic (b := 2) rfl (by decide) (by decide) ?_
    refine h_add rfl ?_
    refine h_154 rfl (Nat.le_of_ble_eq_true rfl) (by omega) hs ⟨by omega, by omega⟩ fun c5 => ?_
    refine h_ic (b := 2) rfl (by decide) (by decide) ?_
    refine h_152 rfl (Nat.le_of_ble_eq_true rfl) (by omega) ⟨by omega, by omega⟩ fun r6 a6 b6 => ?_
    refine h_b1 rfl ⟨by omega, by omega⟩ (fun _ => ?_) fun _ => ?_
    · skip
      refine h_ic (b := 0) rfl (by decide) (by decide) ?_
      exact c36 _ r4 0 ⟨by omega, by omega⟩ (by decide) (fun {_} => ⟨(l_kr (by decide) l0), (l_kr (by decide) l1), (l_ka (by decide) l2), (l_ki (by decide) l3), (l_ki (by decide) l4), (l_ki (by decide) l5), l_s⟩)
    · skip
      refine h_ic (b := 1) rfl (by decide) (by decide) ?_
      refine h_go rfl ?_
      exact c36 _ r4 1 ⟨by omega, by omega⟩ (by decide) (fun {_} => ⟨(l_kr (by decide) l0), (l_kr (by decide) l1), (l_ka (by decide) l2), (l_ki (by decide) l3), (l_ki (by decide) l4), (l_ki (by decide) l5), l_s⟩)
theorem L_161 {n q : Nat} {H : Nat → zO} {M : yM} {b : Int} (hd : 110 ≤ dd) (hs : sc.length ≤ 1048576) (hb : b = 0 ∨ b = 1) (hS : sI H n q M 0) (e08 : M 0 8 = 1) (e07 : e79 M) (e14 : M 1 4 = 1) (e10 : M 1 0 = 5) (e6 : ∀ p : Nat, M 6 p = -1) : hP sc (dd + 1) 161 [.ref 0, .ref 416, .retAddr 0, .int (yi b)] n q H wQ := by
  refine h_meth (C := zg_c161) (W := zg_w161) (ml := 8) rfl rfl (Nat.le_of_ble_eq_true rfl) ?_
  refine h_ld (t := 2) rfl (Or.inr (Or.inl ⟨rfl, Or.inl rfl⟩)) rfl rfl ?_
  refine h_ic (b := 0) rfl (by decide) (by decide) ?_
  refine h_154 rfl (Nat.le_of_ble_eq_true rfl) (by omega) hs ⟨by omega, by omega⟩ fun c1 => ?_
  refine h_ic (b := 5) rfl (by decide) (by decide) ?_
  refine h_152 rfl (Nat.le_of_ble_eq_true rfl) (by omega) ⟨by omega, by omega⟩ fun r2 a2 b2 => ?_
  refine h_st (t := 0) rfl (Or.inl ⟨rfl, Or.inr rfl⟩) rfl ?_
  refine h_ic (b := 0) rfl (by decide) (by decide) ?_
  refine h_st (t := 0) rfl (Or.inl ⟨rfl, Or.inr rfl⟩) rfl ?_
  obtain ⟨kn, hkn⟩ : ∃ kn : Nat, r2 = (kn : Int) := ⟨r2.toNat, by omega⟩
  rw [hkn]
  exact w_8 hd hs hb (kn := kn) (by omega) kn 0 _ n q H M (by omega) (fun {_} => ⟨rfl, rfl, rfl, rfl, rfl, rfl⟩) hS e08 e07 e14 (by omega) e6
end HrQ
