/-! the law: its last calls, its start -/
section HsA
variable {sc : List Int32} {dd K n n' cc : Nat} {H H' : Nat → zO} {M : yM}
theorem lg_cmp_0 (p : Int64) : lg_cmp p p = yi 0 := by
  have h : ¬ p > p := fun h => Int.lt_irrefl _ (Int64.lt_iff_toInt_lt.mp h)
  exact ((if_neg h).trans (if_pos rfl)).trans (by decide)
theorem yi_yw {t : Int} : yi (yw t) = yi t := yi_w
theorem yw_sm {t : Int} : ysm (yw t) := by
  have h1 := Int32.toInt_lt (yi t)
  have h2 := Int32.le_toInt (yi t)
  unfold yw
  exact ⟨by omega, by omega⟩
theorem law_176 (hd : 330 ≤ dd) (hK : 1000000 ≤ K) (L : zL) (n q : Nat) (H : Nat → zO) (M : yM) (mo de : Int) (l0 : L 0 = some (.retAddr 0)) (l1 : L 1 = some (.ref 0)) (l2 : L 2 = some (.ref 416)) (hJ : lawJ H n q M) (hF : fst' K M) (hz : M 18 4 = 0) (hc : clo M) (h17 : 0 < M 1 7) (hr : rnd M 196 mo de) : hG sc zg_c171 zg_w171 dd 176 L [] n q H lawQ := by
  have hI := hF.1.1
  have h8 := hI.2.1
  obtain ⟨cc, tr, c, rw', ro, hW, hO, hn, hq⟩ := hJ
  obtain ⟨X, d, t1, t2, V, t3, F, c2, t4, G, c3, t, t5, t6, E, t7, t8⟩ := A_tail (c := cc) hK hF hz hc hr h17
  have hy1 : yP sc dd 6 [.ref 0] M cc (some (X, cc, some (.long (yl d)))) := by
    have h := t_6 (sc := sc) (dd := dd) (cc := cc) (N := K) (M := M) (by omega)
    rw [t1] at h
    exact h
  have hy2 : yP sc dd 37 [.ref 0, .int (yi 1), .int (yi 1), .int (yi 3)] X cc (some (V, cc, some (.int (yi 1)))) := by
    have h := t_37 (sc := sc) (dd := dd) (cc := cc) (N := K) (M := X) (x1 := 1) (x2 := 1) (x3 := 3) (by omega)
    rw [t3] at h
    exact h
  have hy3 : yP sc dd 11 [.ref 0, .int (yi 0), .int (yi (M 5 0))] V cc (some (F, c2, some (.int (yi 0)))) := by
    have h := t_11 (sc := sc) (dd := dd) (cc := cc) (N := K) (M := V) (x1 := 0) (x2 := (M 5 0)) (by omega)
    rw [t4] at h
    exact h
  have hy4 : yP sc dd 4 [.ref 0, .int (yi 0), .int (yi 0)] F c2 (some (G, c3, some (.int (yi t)))) := by
    have h := t_4 (sc := sc) (dd := dd) (cc := c2) (N := K) (M := F) (x1 := 0) (x2 := 0) (by omega)
    rw [t5] at h
    exact h
  have hy5 : yP sc dd 6 [.ref 0] G c3 (some (E, c3, some (.long (yl d)))) := by
    have h := t_6 (sc := sc) (dd := dd) (cc := c3) (N := K) (M := G) (by omega)
    rw [t7] at h
    exact h
  refine h_ld (t := 2) rfl (Or.inr (Or.inl ⟨rfl, Or.inl rfl⟩)) l1 rfl ?_
  refine h_cls (as := []) (S := []) rfl (by decide) rfl (Nat.le_of_ble_eq_true rfl) hW hO hy1 fun n1 q1 H1 tr1 hW1 hO1 g1a g1b g1c => ?_
  refine h_lst rfl (by decide) ?_
  obtain ⟨L3, hL3⟩ : ∃ L3, L3 = zL_set2 L 3 (.long (yl d)) := ⟨_, rfl⟩
  rw [← hL3]
  have k1 : L3 1 = some (.ref 0) := by rw [hL3]; exact l_kr2 (by decide) (by decide) l1
  have k2 : L3 2 = some (.ref 416) := by rw [hL3]; exact l_kr2 (by decide) (by decide) l2
  have k3 : L3 3 = some (.long (yl d)) := by rw [hL3]; exact l_s2
  clear hL3
  refine h_ld (t := 2) rfl (Or.inr (Or.inl ⟨rfl, Or.inl rfl⟩)) k1 rfl ?_
  refine h_ic (b := 1) rfl (by decide) (by decide) ?_
  refine h_ic (b := 1) rfl (by decide) (by decide) ?_
  refine h_ic (b := 3) rfl (by decide) (by decide) ?_
  refine h_cls (as := [.int (yi 1), .int (yi 1), .int (yi 3)]) (S := []) rfl (by decide) rfl (Nat.le_of_ble_eq_true rfl) hW1 hO1 hy2 fun n2 q2 H2 tr2 hW2 hO2 g2a g2b g2c => ?_
  refine h_ic (b := 1) rfl (by decide) (by decide) ?_
  refine h_eq1 rfl ?_
  obtain ⟨⟨i1, i2⟩, ⟨j1, j2, j3, j4, j5, j6, j7⟩, i3, i4, i5, i6, i7, i8⟩ := id hO2
  have f416 := i2 416 (by rw [j1]; decide)
  have f3 := i2 (c 3) (by rw [j5]; decide)
  refine h_ld (t := 2) rfl (Or.inr (Or.inl ⟨rfl, Or.inl rfl⟩)) k1 rfl ?_
  refine h_ic (b := 0) rfl (by decide) (by decide) ?_
  refine h_ld (t := 2) rfl (Or.inr (Or.inl ⟨rfl, Or.inl rfl⟩)) k2 rfl ?_
  refine h_get rfl f416.2.1 i1 rfl ?_
  refine h_ic (b := 0) rfl (by decide) (by decide) ?_
  refine h_iald (k := 0) rfl f3.2.1 i7 (by decide) (yrow_get (by omega)) ?_
  refine h_cls (as := [.int (yi 0), .int (yi (M 5 0))]) (S := []) rfl (by decide) rfl (Nat.le_of_ble_eq_true rfl) hW2 hO2 hy3 fun n3 q3 H3 tr3 hW3 hO3 g3a g3b g3c => ?_
  refine h_b1 rfl ⟨by decide, by decide⟩ (fun h => absurd rfl h) fun _ => ?_
  refine h_ld (t := 2) rfl (Or.inr (Or.inl ⟨rfl, Or.inl rfl⟩)) k1 rfl ?_
  refine h_ic (b := 0) rfl (by decide) (by decide) ?_
  refine h_ic (b := 0) rfl (by decide) (by decide) ?_
  refine h_cls (as := [.int (yi 0), .int (yi 0)]) (S := []) rfl (by decide) rfl (Nat.le_of_ble_eq_true rfl) hW3 hO3 hy4 fun n4 q4 H4 tr4 hW4 hO4 g4a g4b g4c => ?_
  refine h_ic (b := (-1)) rfl (by decide) (by decide) ?_
  rw [← yi_yw (t := t)]
  refine h_c3 rfl ⟨yw_sm, ⟨by decide, by decide⟩⟩ (fun _ => ?_) fun h => absurd h (by omega)
  refine h_ld (t := 2) rfl (Or.inr (Or.inl ⟨rfl, Or.inl rfl⟩)) k1 rfl ?_
  refine h_cls (as := []) (S := []) rfl (by decide) rfl (Nat.le_of_ble_eq_true rfl) hW4 hO4 hy5 fun n5 q5 H5 tr5 hW5 hO5 g5a g5b g5c => ?_
  refine h_ld (t := 3) rfl (Or.inr (Or.inr ⟨rfl, Or.inl rfl⟩)) k3 rfl ?_
  refine h_lcmp rfl ?_
  rw [lg_cmp_0]
  refine h_b1 rfl ⟨by decide, by decide⟩ (fun h => absurd rfl h) fun _ => ?_
  refine h_ic (b := 1) rfl (by decide) (by decide) ?_
  refine h_go rfl ?_
  exact h_iret rfl rfl ⟨rfl, by omega, by omega⟩
theorem law_61 (hd : 330 ≤ dd) (hK : 1000000 ≤ K) (hs : sc.length ≤ 1048576) (L : zL) (n q : Nat) (H : Nat → zO) (M : yM) (l0 : L 0 = some (.retAddr 0)) (l1 : L 1 = some (.ref 0)) (l2 : L 2 = some (.ref 416)) (hJ : lawJ H n q M) (hT : lawT M) (hR : tRr M 5) : hG sc zg_c171 zg_w171 dd 61 L [] n q H lawQ := by
  have hI := hT.1.1
  have h8 := hI.2.1
  obtain ⟨cc, tr, c, rw', ro, hW, hO, hn, hq⟩ := hJ
  obtain ⟨X, c', e31, hX, hfr, -⟩ := A_31 (c := cc) (K := K) (by omega) hT.1 (Or.inl hT.2.1)
  obtain ⟨f1, f2, f3, f4⟩ := fresh_of hX.1 hX.2.1
  have kX : ∀ a i, (a ≤ 12 ∧ ¬ (a = 0 ∧ i = 8)) ∨ a = 23 ∨ 196 ≤ a → X a i = M a i := hfr.1
  have b21 := hX.1.2.2.1.1.2.2.2.1
  have eN : ∀ a i, 1 ≤ a ∧ a ≤ 12 → X a i = M a i := fun a i ha => kX a i (by omega)
  have hy1 : yP sc dd 17 [.ref 0, .int (yi 4)] M cc (some (X, c', some (.int (yi (X 18 4))))) := by
    have h := t_17 (sc := sc) (dd := dd) (cc := cc) (N := K) (M := M) (x1 := 4) (by omega)
    rw [A_17_4 e31] at h
    exact h
  refine h_ld (t := 2) rfl (Or.inr (Or.inl ⟨rfl, Or.inl rfl⟩)) l1 rfl ?_
  refine h_ic (b := 4) rfl (by decide) (by decide) ?_
  refine h_cls (as := [.int (yi 4)]) (S := []) rfl (by decide) rfl (Nat.le_of_ble_eq_true rfl) hW hO hy1 fun n1 q1 H1 tr1 hW1 hO1 g1a g1b g1c => ?_
  refine h_b5 rfl ⟨by omega, by omega⟩ (fun h0 => ?_) fun h0 => ?_
  · skip
    have hz : X 18 4 = 0 := by omega
    obtain ⟨-, -, y3⟩ := f4 hz
    refine h_ic (b := 0) rfl (by decide) (by decide) ?_
    refine h_st (t := 0) rfl (Or.inl ⟨rfl, Or.inl rfl⟩) rfl ?_
    refine law_79 hd hK hs (fun L n q H M mo de l0 l1 l2 hJ hF hz hc h17 hr => law_176 hd hK L n q H M mo de l0 l1 l2 hJ hF hz hc h17 hr) 4 0 _ n1 q1 H1 X (by decide) (l_ka (by decide) l0) (l_kr (by decide) l1) (l_kr (by decide) l2) l_s ⟨c', tr1, c, rw', ro, hW1, ?_, by omega, by omega⟩ hX hz ?_ ?_ ?_ ?_ (Or.inl rfl)
    · exact oN_cg hO1 (eN 1 7 (by decide)) (fun a k h1 h2 _ => eN a k (by omega)) (eN 1 0 (by decide)) (eN 1 4 (by decide)) fun i _ => eN 5 i (by decide)
    · exact tRr_5 hI hT.1.2.2.2.1 hR eN f1 fun p hp => (y3 p hp).1
    · have h6 := hX.1.1.2.2.2.2.2.2.1 0 (by have := hX.1.1.2.1; omega)
      have h60 := (y3 0 (by have := hX.1.1.2.1; omega)).1
      rcases h6 with h | ⟨h, h2, -⟩
      · omega
      · omega
    · rw [kX 0 9 (by omega), hT.2.2.2]; decide
    · exact (kX 0 7 (by omega)).trans hT.2.2.1
  · skip
    have hy2 : yP sc dd 17 [.ref 0, .int (yi 5)] X c' (some (X, c', some (.int (yi 0)))) := by
      have h := t_17 (sc := sc) (dd := dd) (cc := c') (N := K) (M := X) (x1 := 5) (by omega)
      rw [A_17_5 hX (by omega) h0] at h
      exact h
    have hy3 : yP sc dd 17 [.ref 0, .int (yi 6)] X c' (some (X, c', some (.int (yi 0)))) := by
      have h := t_17 (sc := sc) (dd := dd) (cc := c') (N := K) (M := X) (x1 := 6) (by omega)
      rw [A_17_6 hX h0] at h
      exact h
    refine h_ld (t := 2) rfl (Or.inr (Or.inl ⟨rfl, Or.inl rfl⟩)) l1 rfl ?_
    refine h_ic (b := 5) rfl (by decide) (by decide) ?_
    refine h_cls (as := [.int (yi 5)]) (S := []) rfl (by decide) rfl (Nat.le_of_ble_eq_true rfl) hW1 hO1 hy2 fun n2 q2 H2 tr2 hW2 hO2 g2a g2b g2c => ?_
    refine h_b1 rfl ⟨by decide, by decide⟩ (fun h => absurd rfl h) fun _ => ?_
    refine h_ld (t := 2) rfl (Or.inr (Or.inl ⟨rfl, Or.inl rfl⟩)) l1 rfl ?_
    refine h_ic (b := 6) rfl (by decide) (by decide) ?_
    refine h_cls (as := [.int (yi 6)]) (S := []) rfl (by decide) rfl (Nat.le_of_ble_eq_true rfl) hW2 hO2 hy3 fun n3 q3 H3 tr3 hW3 hO3 g3a g3b g3c => ?_
    refine h_b1 rfl ⟨by decide, by decide⟩ (fun h => absurd rfl h) fun _ => ?_
    refine h_ic (b := 1) rfl (by decide) (by decide) ?_
    refine h_go rfl ?_
    exact h_iret rfl rfl ⟨rfl, by omega, by omega⟩
theorem wI_low (h : wI H n M cc 22) (hn : n ≤ n') (hk : ∀ a, a < 416 → H' a = H a) : wI H' n' M cc 22 := by
  refine ⟨yok_le h.1 hn, ?_⟩
  funext b
  by_cases hb : b < 416
  · have e := congrFun h.2 b
    rw [hk b hb]
    refine e.trans ?_
    unfold yst
    cases q1 : and (Nat.ble b 415) (!(Nat.beq b 22)) with
    | true => rfl
    | false =>
      cases q2 : Nat.beq b 22 with
      | true => rfl
      | false =>
        rw [q2, Nat.ble_eq_true_of_le (by omega : b ≤ 415)] at q1
        cases q1
  · unfold yst
    rw [show Nat.ble b 415 = false from by cases q : Nat.ble b 415 with | false => rfl | true => exact absurd (Nat.le_of_ble_eq_true q) (by omega)]
    show H' b = cond (Nat.beq b 22) _ _
    rw [show Nat.beq b 22 = false from by cases q : Nat.beq b 22 with | false => rfl | true => exact absurd (Nat.eq_of_beq_eq_true q) (by omega)]
    rfl
theorem ctor_P {q : Nat} (hH : H 0 = .inl (9, [.null, .null, .null, .null, .null, .null, .null, .int 0, .int 0, .int 0, .int 0, .int 0])) : hP sc 8 0 [.ref 0] 1 q H fun u n' q' H' => u = none ∧ n' = 416 ∧ q' = q + 64185 ∧ H' = yst yI 24 22 yT := by
  refine ⟨none, 416, yst yI 24 22 yT, 64185, ⟨by decide, 5000, fun d F h1 h2 => ?_⟩, rfl, rfl, rfl, rfl⟩
  have e : zh 1 H = [H 0] := rfl
  rw [e, hH]
  exact ctor_z h2 h1
theorem law_0 (hd : 330 ≤ dd) (hs : sc.length ≤ 1048576) : hG sc zg_c171 zg_w171 dd 0 (zargs 0 [.retAddr 0]) [] 0 0 H lawQ := by
  refine h_newO (fs := [.null, .null, .null, .null, .null, .null, .null, .int 0, .int 0, .int 0, .int 0, .int 0]) rfl rfl ?_
  refine h_dup rfl (Or.inr ⟨_, rfl⟩) ?_
  refine h_obj (a := 0) (as := []) (S := [.ref 0]) rfl (by decide) rfl (Nat.le_of_ble_eq_true rfl) (by decide) zU_eq (hP_dd (by omega) (ctor_P zU_eq)) ?_
  rintro u n1 q1 H1 ⟨rfl, rfl, hq1, rfl⟩
  have hW0 : wI (yst yI 24 22 yT) 416 yI 24 22 := ⟨⟨by decide, Or.inl rfl, by decide, by decide, by decide⟩, yst_idem⟩
  refine h_st (t := 2) rfl (Or.inr ⟨rfl, Or.inl rfl⟩) rfl ?_
  refine h_newO (fs := [.null, .null, .null, .null, .null]) rfl rfl ?_
  refine h_dup rfl (Or.inr ⟨_, rfl⟩) ?_
  refine h_obj (a := 416) (as := []) (S := [.ref 416]) rfl (by decide) rfl (Nat.le_of_ble_eq_true rfl) (by decide) zU_eq (hP_dd (dd := 2 + 1) (by omega) (L_162 (dd := 2) (n := 416) (tr := 22) (P := yI) (by decide) rfl (by decide) zU_eq rfl rfl rfl rfl)) ?_
  rintro u n2 q2 H2 ⟨rfl, hn2, hq2, hk2, c, rw', ro, hO2⟩
  have hW1 := wI_new (x := .inl (10, [.null, .null, .null, .null, .null])) hW0
  have hW2 : wI H2 n2 yI 24 22 := wI_low hW1 (by omega) hk2
  have hbn : (n2 : Int) ≤ 450 + ((0 : Nat) : Int) + 8 * yI 1 7 + yI 21 2 := by
    show (n2 : Int) ≤ 450 + ((0 : Nat) : Int) + 8 * 0 + 512
    omega
  have hbq : (q2 : Int) ≤ 70000 + 20 * ((0 : Nat) : Int) + 800 * yI 1 7 + 2 * yI 21 2 := by
    show (q2 : Int) ≤ 70000 + 20 * ((0 : Nat) : Int) + 800 * 0 + 2 * 512
    simp only [List.length_cons, List.length_nil] at hq1 hq2
    omega
  have hS : sI H2 n2 q2 yI 0 := ⟨⟨24, 22, c, rw', ro, hW2, hO2⟩, yI_pI, yI_pX, yI_gW, hbn, hbq⟩
  refine h_st (t := 2) rfl (Or.inr ⟨rfl, Or.inl rfl⟩) rfl ?_
  refine h_ld (t := 2) rfl (Or.inr (Or.inl ⟨rfl, Or.inl rfl⟩)) (l_kr (by decide) l_s) rfl ?_
  refine h_ld (t := 2) rfl (Or.inr (Or.inl ⟨rfl, Or.inl rfl⟩)) l_s rfl ?_
  refine h_ld (t := 2) rfl (Or.inr (Or.inl ⟨rfl, Or.inl rfl⟩)) (l_ka (by decide) (l_ka (by decide) rfl)) rfl ?_
  refine h_ld (t := 2) rfl (Or.inr (Or.inl ⟨rfl, Or.inl rfl⟩)) (l_ka (by decide) (l_ka (by decide) rfl)) rfl ?_
  refine h_ic (b := 15) rfl (by decide) (by decide) ?_
  refine h_154 rfl (Nat.le_of_ble_eq_true rfl) (by omega) hs ⟨by omega, by omega⟩ fun c1 => ?_
  refine h_ic (b := 2) rfl (by decide) (by decide) ?_
  refine h_152 rfl (Nat.le_of_ble_eq_true rfl) (by omega) ⟨by decide, by decide⟩ fun m1 u1 v1 => ?_
  have c21 : ∀ b : Int, b = 0 ∨ b = 1 → hG sc zg_c171 zg_w171 dd 20 (zL_set (zL_set (zargs 0 [.retAddr 0]) 1 (.ref 0)) 2 (.ref 416)) [.int (yi b), .retAddr 0, .ref 416, .ref 0] n2 q2 H2 lawQ := by
    intro b hb
    refine h_stat (as := [.ref 0, .ref 416, .retAddr 0, .int (yi b)]) (S := []) rfl (by decide) rfl (Nat.le_of_ble_eq_true rfl) (hP_dd (dd := 110 + 1) (by omega) (L_161 (dd := 110) (by decide) hs hb hS rfl ⟨rfl, rfl⟩ rfl rfl yI_6)) ?_
    rintro u n3 q3 H3 ⟨rfl, M, hS3, e08, e79', e14⟩
    refine h_b1 rfl ⟨by decide, by decide⟩ (fun _ => ?_) fun h => absurd h (by decide)
    obtain ⟨⟨cc, tr, c', rw2, ro2, hW3, hO3⟩, hI, hX, hG3, hn3, hq3⟩ := hS3
    have h90 := hI.1
    refine h_ic (b := 0) rfl (by decide) (by decide) ?_
    refine h_st (t := 0) rfl (Or.inl ⟨rfl, Or.inl rfl⟩) rfl ?_
    exact law_26 hd (K := 1000000) (Nat.le_refl _) (fun L n q H M l0 l1 l2 hJ hT hR => law_61 hd (K := 1000000) (Nat.le_refl _) hs L n q H M l0 l1 l2 hJ hT hR) 5 0 _ n3 q3 H3 M (by decide) (l_ka (by decide) rfl) (l_kr (by decide) rfl) (l_kr (by decide) rfl) l_s ⟨cc, tr, c', rw2, ro2, hW3, hO3, by omega, by omega⟩ ⟨⟨hI, hX, hG3, e14, Or.inl e79'.1, Or.inl e08⟩, e08, e79'⟩ fun x hx => Or.inr (Nat.zero_le _)
  refine h_b1 rfl ⟨by omega, by omega⟩ (fun _ => ?_) fun _ => ?_
  · skip
    refine h_ic (b := 0) rfl (by decide) (by decide) ?_
    exact c21 0 (Or.inl rfl)
  · skip
    refine h_ic (b := 1) rfl (by decide) (by decide) ?_
    refine h_go rfl ?_
    exact c21 1 (Or.inr rfl)
/-- the law in the model, on every script -/
theorem z_lawT {sc : List Int32} (hs : sc.length ≤ 1048576) : z_law sc := by
  obtain ⟨v, n', H', q', ⟨-, F0, h⟩, e1, e2, e3⟩ := law_0 (sc := sc) (dd := 1200) (H := fun _ => .inl (0, [])) (by decide) hs
  refine ⟨F0, _, h 1200 F0 F0 (Nat.le_refl _) (Nat.le_refl _) (Nat.le_refl _) 0 0, e1.trans (by rw [show yi 1 = (1 : Int32) from by decide]), ?_, ?_⟩
  · show 0 + (n' - 0) ≤ room_1.cells
    have : 600000 ≤ room_1.cells := Nat.le_of_ble_eq_true rfl
    omega
  · show 0 + q' ≤ room_1.slots
    have : 7000000 ≤ room_1.slots := Nat.le_of_ble_eq_true rfl
    omega
end HsA
