/-! a node more, by the law -/
/-- the object and the own program agree; so many cells and slots, e for what else is made -/
def sI (H : Nat → zO) (n q : Nat) (M : yM) (e : Nat) : Prop :=
  (∃ cc tr c rw ro, wI H n M cc tr ∧ oN H n tr M c rw ro) ∧ pI M ∧ pX M ∧ gW M ∧ (n : Int) ≤ 450 + e + 8 * M 1 7 + M 21 2 ∧ (q : Int) ≤ 70000 + 20 * e + 800 * M 1 7 + 2 * M 21 2
section HrG
variable {sc : List Int32} {n q dd tr tr' k m e nn cc cc' : Nat} {H H1 : Nat → zO} {M M' : yM} {c rw ro : Nat → Nat} {L : zL} {s a b d : Int}
theorem oN_node (h : oN H n tr M c rw ro) (hw : tr < n) (hnn : M 1 7 = (nn : Int)) (e17 : M' 1 7 = (nn : Int) + 1) (eN : ∀ a k : Nat, 7 ≤ a → a ≤ 10 → k < nn → M' a k = M a k) (e10 : M' 1 0 = M 1 0) (e14 : M' 1 4 = M 1 4) (e5 : M' 5 = M 5) {x y : Int32} :
    ∃ c' rw' ro', oN (zU (zU (zU H n (.inr (.inl [yi (M' 7 nn), yi (M' 8 nn), yi (M' 9 nn), yi (M' 10 nn), x, y]))) (n + 1) (.inr (.inr (.inr (4, ((List.range nn).map fun k => some (rw k)) ++ [some n]))))) 416 (.inl (10, [.ref (n + 1), .ref (c 1), .ref (c 2), .ref (c 3), .ref (c 4)]))) (n + 2) tr M' c' rw' ro' := by
  obtain ⟨⟨h1, h2⟩, ⟨r1, r2, r3, r4, r5, r6, r7⟩, h3, h4, ⟨ps, p1, p2⟩, ⟨ks, k1, k2⟩, h5, bs, b1, b2⟩ := h
  have e416 := (h2 416 (by rw [r1]; decide)).2.1
  have lt : ∀ {a t}, ro a = t → t ≠ 0 → a < n := fun {a t} ha ht => (h2 a (by rw [ha]; exact ht)).2.1
  have rN : ∀ {a t}, ro a = t → t ≠ 0 → (if a = n then 7 else if a = n + 1 then 2 else ro a) = t := fun {a t} ha ht => by
    have := lt ha ht
    rw [if_neg (by omega), if_neg (by omega), ha]
  have eH : ∀ {a t} {u v w : zO}, ro a = t → t ≠ 0 → t ≠ 1 → zU (zU (zU H n u) (n + 1) v) 416 w a = H a := fun {a t u v w} ha ht ht1 => by
    have := lt ha ht
    have h416 : a ≠ 416 := fun q => by rw [q, r1] at ha; exact ht1 ha.symm
    rw [zU_ne h416, zU_ne (by omega), zU_ne (by omega)]
  refine ⟨fun i => if i = 0 then n + 1 else c i, fun k => if k = nn then n else rw k, fun a => if a = n then 7 else if a = n + 1 then 2 else ro a, ⟨?_, fun a ha => ?_⟩, ⟨rN r1 (by decide), ?_, rN r3 (by decide), rN r4 (by decide), rN r5 (by decide), rN r6 (by decide), fun k hk => ?_⟩, ?_, fun k hk => ?_, ⟨ps, ?_, by rw [e10]; exact p2⟩, ⟨ks, ?_, k2⟩, ?_, bs, ?_, by rw [e14]; exact b2⟩
  · exact zU_eq
  · dsimp only at ha
    by_cases q1 : a = n
    · exact ⟨by omega, by omega, by omega⟩
    · by_cases q2 : a = n + 1
      · exact ⟨by omega, by omega, by omega⟩
      · rw [if_neg q1, if_neg q2] at ha
        obtain ⟨g1, g2, g3⟩ := h2 a ha
        exact ⟨g1, by omega, g3⟩
  · show (if n + 1 = n then 7 else if n + 1 = n + 1 then 2 else ro (n + 1)) = 2
    rw [if_neg (by omega), if_pos rfl]
  · dsimp only
    by_cases q : k = nn
    · rw [if_pos q]
      show (if n = n then 7 else if n = n + 1 then 2 else ro n) = 7
      rw [if_pos rfl]
    · rw [if_neg q]
      exact rN (r7 k (by omega)) (by decide)
  · show zU (zU (zU H n _) (n + 1) _) 416 _ (n + 1) = _
    rw [zU_ne (by omega), zU_eq, e17]
    have et : ((nn : Int) + 1).toNat = nn + 1 := by omega
    rw [et, List.range_succ, List.map_append]
    have em : ((List.range nn).map fun k => some (rw k)) ++ [some n] = ((List.range nn).map fun k => some (if k = nn then n else rw k)) ++ [some (if nn = nn then n else rw nn)] := by
      rw [if_pos rfl]
      congr 1
      refine List.map_congr_left fun k hk => ?_
      have := List.mem_range.mp hk
      rw [if_neg (by omega)]
    rw [em]; rfl
  · dsimp only
    by_cases q : k = nn
    · subst q
      rw [if_pos rfl, zU_ne (by omega), zU_ne (by omega), zU_eq]
      exact ⟨x, y, rfl⟩
    · rw [if_neg q, eH (r7 k (by omega)) (by decide) (by decide), eN 7 k (by decide) (by decide) (by omega), eN 8 k (by decide) (by decide) (by omega), eN 9 k (by decide) (by decide) (by omega), eN 10 k (by decide) (by decide) (by omega)]
      exact h4 k (by omega)
  · show zU (zU (zU H n _) (n + 1) _) 416 _ (c 1) = _
    rw [eH r3 (by decide) (by decide)]; exact p1
  · show zU (zU (zU H n _) (n + 1) _) 416 _ (c 2) = _
    rw [eH r4 (by decide) (by decide)]; exact k1
  · show zU (zU (zU H n _) (n + 1) _) 416 _ (c 3) = _
    rw [eH r5 (by decide) (by decide), e14, e5]; exact h5
  · show zU (zU (zU H n _) (n + 1) _) 416 _ (c 4) = _
    rw [eH r6 (by decide) (by decide)]; exact b1
theorem L_158b (hd : 4 ≤ dd) (hW : wI H n M cc tr) (hO : oN H n tr M c rw ro) (hI : pI M) (hnn : M 1 7 = (nn : Int) + 1) (hL1 : L 1 = some (.ref 416)) (hL6 : L 6 = some (.int (yi (nn : Int)))) (hQ : ∀ p : Nat, isQ (M 7 nn) (M 8 nn) (M 9 nn) (M 10 nn) p → (p : Int) < M 1 7) : hG sc zg_c158 zg_w158 dd 48 L [] n q H fun u n' q' H' => u = some (.int (yi (nn : Int))) ∧ n' ≤ n + 4 ∧ q' ≤ q + 9 ∧ ∃ c rw ro, wI H' n' M cc tr ∧ oN H' n' tr M c rw ro := by
  obtain ⟨⟨i1, i2⟩, ⟨j1, j2, j3, j4, j5, j6, j7⟩, i3, i4, -⟩ := id hO
  have h90 := hI.1
  have i2o := i2
  have f416 := (i2 416 (by rw [j1]; decide)).2.1
  refine h_ld (t := 2) rfl (Or.inr (Or.inl ⟨rfl, Or.inl rfl⟩)) hL1 rfl ?_
  refine h_ld (t := 0) rfl (Or.inl ⟨rfl, Or.inr rfl⟩) hL6 rfl ?_
  refine h_obj (a := 416) (as := [.int (yi (nn : Int))]) (S := []) rfl (by decide) rfl (Nat.le_of_ble_eq_true rfl) f416 i1 (hP_dd (dd := dd - 1 + 1) (by omega) (L_166 (dd := dd - 1) (by omega) hO (by omega) h90.2 (pI_sm hI (by omega)) fun e => (pI_b hI (by omega) e).1)) ?_
  rintro u1 n1 q1 H1 ⟨d, xs, rfl, ⟨d1, d2⟩, d3, d4, d5, d6, d7, d8, d9⟩
  refine h_st (t := 2) rfl (Or.inr ⟨rfl, Or.inr rfl⟩) rfl ?_
  refine h_ld (t := 2) rfl (Or.inr (Or.inl ⟨rfl, Or.inr rfl⟩)) l_s rfl ?_
  refine h_alen (m := xs.length) rfl d2 (by rw [d3]; rfl) ?_
  refine h_st (t := 0) rfl (Or.inl ⟨rfl, Or.inr rfl⟩) rfl ?_
  refine h_ic (b := 0) rfl (by decide) (by decide) ?_
  refine h_st (t := 0) rfl (Or.inl ⟨rfl, Or.inr rfl⟩) rfl ?_
  have hW1 : wI H1 n1 M cc tr := by
    refine ⟨yok_le hW.1 d5, ?_⟩
    funext z
    by_cases hz : z < n
    · rw [d8 z hz, congrFun hW.2 z]
      unfold yst
      rw [d8 z hz]
    · have h1 := hW.1.1
      have h3 := hW.1.2.2.1
      unfold yst
      rw [show Nat.ble z 415 = false from by cases q : Nat.ble z 415 with | false => rfl | true => exact absurd (Nat.le_of_ble_eq_true q) (by omega), show Nat.beq z tr = false from by cases q : Nat.beq z tr with | false => rfl | true => exact absurd (Nat.eq_of_beq_eq_true q) (by omega)]
      rfl
  have hO1 : oN H1 n1 tr M c rw ro := oN_keep hO d5 (Or.inl rfl) fun a _ h2 _ => d8 a h2
  have loop : ∀ (g i : Nat) (L : zL) (H1 : Nat → zO), i + g = xs.length → L 1 = some (.ref 416) → L 6 = some (.int (yi (nn : Int))) → L 7 = some (.ref d) → L 8 = some (.int (yi (xs.length : Int))) → L 9 = some (.int (yi (i : Int))) → wI H1 n1 M cc tr → oN H1 n1 tr M c rw ro → H1 d = .inr (.inl xs) → hG sc zg_c158 zg_w158 dd 57 L [] n1 q1 H1 fun u n' q' H' => u = some (.int (yi (nn : Int))) ∧ n' ≤ n + 4 ∧ q' ≤ q + 9 ∧ ∃ c rw ro, wI H' n' M cc tr ∧ oN H' n' tr M c rw ro := by
    intro g
    induction g with
    | zero =>
      intro i L H1 hi hL1 hL6 hL7 hL8 hL9 hW1 hO1 hd
      refine h_ld (t := 0) rfl (Or.inl ⟨rfl, Or.inr rfl⟩) hL9 rfl ?_
      refine h_ld (t := 0) rfl (Or.inl ⟨rfl, Or.inr rfl⟩) hL8 rfl ?_
      refine h_c3 rfl ⟨⟨by omega, by omega⟩, ⟨by omega, by omega⟩⟩ (fun _ => ?_) fun h => absurd h (by omega)
      refine h_ld (t := 0) rfl (Or.inl ⟨rfl, Or.inr rfl⟩) hL6 rfl ?_
      exact h_iret rfl rfl ⟨rfl, d6, d7, c, rw, ro, hW1, hO1⟩
    | succ g ih =>
      intro i L H1 hi hL1 hL6 hL7 hL8 hL9 hW1 hO1 hd
      obtain ⟨⟨i1, i2⟩, ⟨j1, j2, j3, j4, j5, j6, j7⟩, i3, i4, -⟩ := id hO1
      obtain ⟨p, p1, p2⟩ := d9 i (by omega)
      have hp := hQ p p2
      obtain ⟨x, y, hxy⟩ := i4 p hp
      obtain ⟨b1, b2, b3⟩ := i2 (rw p) (by rw [j7 p hp]; decide)
      have b4 : rw p < n := (i2o (rw p) (by rw [j7 p hp]; decide)).2.1
      have f0 := (i2 (c 0) (by rw [j2]; decide)).2.1
      have f416 := (i2 416 (by rw [j1]; decide)).2.1
      refine h_ld (t := 0) rfl (Or.inl ⟨rfl, Or.inr rfl⟩) hL9 rfl ?_
      refine h_ld (t := 0) rfl (Or.inl ⟨rfl, Or.inr rfl⟩) hL8 rfl ?_
      refine h_c3 rfl ⟨⟨by omega, by omega⟩, ⟨by omega, by omega⟩⟩ (fun h => absurd h (by omega)) fun _ => ?_
      refine h_ld (t := 2) rfl (Or.inr (Or.inl ⟨rfl, Or.inr rfl⟩)) hL7 rfl ?_
      refine h_ld (t := 0) rfl (Or.inl ⟨rfl, Or.inr rfl⟩) hL9 rfl ?_
      refine h_iald (k := i) rfl (by omega) hd (by omega) p1 ?_
      refine h_st (t := 0) rfl (Or.inl ⟨rfl, Or.inr rfl⟩) rfl ?_
      refine h_ld (t := 2) rfl (Or.inr (Or.inl ⟨rfl, Or.inl rfl⟩)) (l_kr (by decide) hL1) rfl ?_
      refine h_get rfl f416 i1 rfl ?_
      refine h_ld (t := 0) rfl (Or.inl ⟨rfl, Or.inr rfl⟩) l_s rfl ?_
      refine h_aald rfl f0 i3 (by omega) (p := some (rw p)) (by rw [List.getElem?_map, List.getElem?_range (by omega)]; rfl) ?_
      refine h_ic (b := 4) rfl (by decide) (by decide) ?_
      refine h_ld (t := 0) rfl (Or.inl ⟨rfl, Or.inr rfl⟩) (l_ki (by decide) hL6) rfl ?_
      refine h_iast (k := 4) rfl (by omega) hxy (by decide) (Nat.le_of_ble_eq_true rfl) ?_
      refine h_inc (c := 1) rfl (l_ki (by decide) hL9) (by decide) ?_
      refine h_go rfl ?_
      exact ih (i + 1) _ _ (by omega) (l_kr (by decide) (l_kr (by decide) hL1)) (l_ki (by decide) (l_ki (by decide) hL6)) (l_kr (by decide) (l_kr (by decide) hL7)) (l_ki (by decide) (l_ki (by decide) hL8)) l_s (wI_lift hW1 b1 b3) (oN_row hO1 hp (Or.inl rfl) hxy) (by rw [zU_ne (by omega)]; exact hd)
  exact loop xs.length 0 _ _ (by omega) (l_kr (by decide) (l_kr (by decide) (l_kr (by decide) hL1))) (l_ki (by decide) (l_ki (by decide) (l_ki (by decide) hL6))) (l_kr (by decide) (l_kr (by decide) l_s)) (l_ki (by decide) l_s) l_s hW1 hO1 d3
theorem L_158 (hd : 6 ≤ dd) (hS : sI H n q M e) (hu : uN M s a b d) : hP sc (dd + 1) 158 [.ref 0, .ref 416, .int (yi s), .int (yi a), .int (yi b), .int (yi d)] n q H fun u n' q' H' => (M 1 7 = 90 ∧ u = some (.int (yi (-1))) ∧ n' = n ∧ q' = q ∧ H' = H) ∨ (M 1 7 < 90 ∧ u = some (.int (yi (M 1 7))) ∧ sI H' n' q' (nM M (M 1 7).toNat s a b d) e) := by
  obtain ⟨⟨cc, tr, c, rw', ro, hW, hO⟩, hI, hX, hG', hn, hq⟩ := hS
  have h90 := hI.1
  obtain ⟨nn, hnn⟩ : ∃ nn : Nat, M 1 7 = (nn : Int) := ⟨(M 1 7).toNat, by omega⟩
  have ent : (M 1 7).toNat = nn := by omega
  have hO0 := hO
  obtain ⟨⟨h1, h2⟩, ⟨r1, r2, r3, r4, r5, r6, r7⟩, h3, h4, -⟩ := hO
  have e416 := (h2 416 (by rw [r1]; decide)).2.1
  have e0 := (h2 (c 0) (by rw [r2]; decide)).2.1
  refine h_meth (C := zg_c158) (W := zg_w158) (ml := 11) rfl rfl (Nat.le_of_ble_eq_true rfl) ?_
  refine h_ld (t := 2) rfl (Or.inr (Or.inl ⟨rfl, Or.inl rfl⟩)) rfl rfl ?_
  refine h_get rfl e416 h1 rfl ?_
  refine h_alen (m := nn) rfl e0 (by rw [h3, ent]; show some (List.length _) = _; rw [List.length_map, List.length_range]) ?_
  refine h_st (t := 0) rfl (Or.inl ⟨rfl, Or.inr rfl⟩) rfl ?_
  refine h_ld (t := 0) rfl (Or.inl ⟨rfl, Or.inr rfl⟩) l_s rfl ?_
  refine h_ic (b := 90) rfl (by decide) (by decide) ?_
  refine h_c0 rfl ⟨⟨by omega, by omega⟩, ⟨by decide, by decide⟩⟩ (fun h => ?_) fun hne => ?_
  · refine h_ic (b := (-1)) rfl (by decide) (by decide) ?_
    exact h_iret rfl rfl (Or.inl ⟨by omega, rfl, rfl, rfl, rfl⟩)
  refine h_ld (t := 2) rfl (Or.inr (Or.inl ⟨rfl, Or.inl rfl⟩)) rfl rfl ?_
  refine h_ld (t := 0) rfl (Or.inl ⟨rfl, Or.inl rfl⟩) rfl rfl ?_
  refine h_ld (t := 0) rfl (Or.inl ⟨rfl, Or.inl rfl⟩) rfl rfl ?_
  refine h_ld (t := 0) rfl (Or.inl ⟨rfl, Or.inr rfl⟩) rfl rfl ?_
  refine h_ld (t := 0) rfl (Or.inl ⟨rfl, Or.inr rfl⟩) rfl rfl ?_
  have hf := f18_ok hI hu hnn (by omega)
  have ht : yP sc dd 18 [.ref 0, .int (yi s), .int (yi a), .int (yi b), .int (yi d)] M cc (some (nM M nn s a b d, cc, some (.int (yi (nn : Int))))) := by
    have ht := t_18 (sc := sc) (cc := cc) (M := M) (x1 := s) (x2 := a) (x3 := b) (x4 := d) hd
    rw [hf] at ht
    exact ht
  refine h_obj (a := 0) (as := [.int (yi s), .int (yi a), .int (yi b), .int (yi d)]) (S := []) (fs := yfl M cc tr 0 [5, 22, 25, 27, 100, 200, 310, 0, 0, 0, 0, 0]) rfl (by decide) rfl (Nat.le_of_ble_eq_true rfl) (by omega) (by rw [hW.2]; exact yst_obj rfl) (y_call (q := q) ht hW) ?_
  rintro u1 n1 q1 H1 ⟨rfl, tr1, hW1, w2, w3, w4, w5, w6⟩
  obtain ⟨g1, g2, g3, g4, g5, g6, g7, g8, g9⟩ := nM8_get (M := M) (n := nn) (s := s) (a := a) (b := b) (c := d)
  have gN : ∀ i j, i ≠ 11 → nM M nn s a b d i j = nM8 M nn s a b d i j := fun i j h => nM_get h
  have hpI := nM_pI hI hu hnn (by omega : nn < 90)
  have gO : ∀ i j, i ≠ 11 → ¬ (i = 0 ∧ j = 8) → ¬ (i = 1 ∧ j = 7) → ¬ (j = nn ∧ 7 ≤ i ∧ i ≤ 12) → nM M nn s a b d i j = M i j := fun i j h h2 h3 h4 => (gN i j h).trans (g1 i j h2 h3 h4)
  have k17 : nM M nn s a b d 1 7 = (nn : Int) + 1 := (gN 1 7 (by decide)).trans g3
  have hk1 : nM M nn s a b d 21 2 = M 21 2 := gO 21 2 (by omega) (by omega) (by omega) (by omega)
  have hX' : pX (nM M nn s a b d) := by
    unfold pX
    rw [gO 1 4 (by omega) (by omega) (by omega) (by omega), gO 1 0 (by omega) (by omega) (by omega) (by omega)]
    refine ⟨fun p hp => ?_, fun c => ?_⟩
    · rw [gO 6 p (by omega) (by omega) (by omega) (by omega)]
      exact hX.1 p hp
    · rw [gO 4 c (by omega) (by omega) (by omega) (by omega)]
      exact hX.2 c
  have hG1 : gW (nM M nn s a b d) := by
    obtain ⟨t1, t2⟩ := hG'
    refine ⟨?_, fun c hc => ?_⟩
    · unfold tI
      rw [hk1, gO 21 1 (by omega) (by omega) (by omega) (by omega)]
      exact t1
    · rw [gO 103 c (by omega) (by omega) (by omega) (by omega), gO 104 c (by omega) (by omega) (by omega) (by omega)]
      exact t2 c hc
  generalize hMd : nM M nn s a b d = M1 at *
  rw [hk1] at w5 w6
  have hn1 : n1 = n := by omega
  have hq1 : q1 ≤ q := by omega
  subst hn1
  have hO1 := oN_keep hO0 w2 w3 w4
  have hO1' := hO1
  obtain ⟨⟨i1, i2⟩, ⟨j1, j2, j3, j4, j5, j6, j7⟩, i3, i4, -⟩ := hO1'
  have f416 := (i2 416 (by rw [j1]; decide)).2.1
  have f0 := (i2 (c 0) (by rw [j2]; decide)).2.1
  have htr := hW1.1.2.2.1
  refine h_ld (t := 0) rfl (Or.inl ⟨rfl, Or.inr rfl⟩) rfl rfl ?_
  refine h_c0 rfl ⟨⟨by omega, by omega⟩, ⟨by omega, by omega⟩⟩ (fun _ => ?_) fun h => absurd rfl h
  refine h_ld (t := 2) rfl (Or.inr (Or.inl ⟨rfl, Or.inl rfl⟩)) rfl rfl ?_
  refine h_ld (t := 2) rfl (Or.inr (Or.inl ⟨rfl, Or.inl rfl⟩)) rfl rfl ?_
  refine h_get rfl f416 i1 rfl ?_
  refine h_ic (b := 6) rfl (by decide) (by decide) ?_
  refine h_newA (m := 6) rfl (by decide) (by decide) ?_
  refine h_dup rfl (Or.inr ⟨_, rfl⟩) ?_
  refine h_ic (b := 0) rfl (by decide) (by decide) ?_
  refine h_ld (t := 0) rfl (Or.inl ⟨rfl, Or.inl rfl⟩) rfl rfl ?_
  refine h_iast (xs := [0, 0, 0, 0, 0, 0]) (k := 0) rfl (by omega) zU_eq (by decide) (Nat.le_of_ble_eq_true rfl) ?_
  rw [zU_zU]
  refine h_dup rfl (Or.inr ⟨_, rfl⟩) ?_
  refine h_ic (b := 1) rfl (by decide) (by decide) ?_
  refine h_ld (t := 0) rfl (Or.inl ⟨rfl, Or.inl rfl⟩) rfl rfl ?_
  refine h_iast (xs := [yi s, 0, 0, 0, 0, 0]) (k := 1) rfl (by omega) zU_eq (by decide) (Nat.le_of_ble_eq_true rfl) ?_
  rw [zU_zU]
  refine h_dup rfl (Or.inr ⟨_, rfl⟩) ?_
  refine h_ic (b := 2) rfl (by decide) (by decide) ?_
  refine h_ld (t := 0) rfl (Or.inl ⟨rfl, Or.inr rfl⟩) rfl rfl ?_
  refine h_iast (xs := [yi s, yi a, 0, 0, 0, 0]) (k := 2) rfl (by omega) zU_eq (by decide) (Nat.le_of_ble_eq_true rfl) ?_
  rw [zU_zU]
  refine h_dup rfl (Or.inr ⟨_, rfl⟩) ?_
  refine h_ic (b := 3) rfl (by decide) (by decide) ?_
  refine h_ld (t := 0) rfl (Or.inl ⟨rfl, Or.inr rfl⟩) rfl rfl ?_
  refine h_iast (xs := [yi s, yi a, yi b, 0, 0, 0]) (k := 3) rfl (by omega) zU_eq (by decide) (Nat.le_of_ble_eq_true rfl) ?_
  rw [zU_zU]
  refine h_dup rfl (Or.inr ⟨_, rfl⟩) ?_
  refine h_ic (b := 4) rfl (by decide) (by decide) ?_
  refine h_ic (b := (-1)) rfl (by decide) (by decide) ?_
  refine h_iast (xs := [yi s, yi a, yi b, yi d, 0, 0]) (k := 4) rfl (by omega) zU_eq (by decide) (Nat.le_of_ble_eq_true rfl) ?_
  rw [zU_zU]
  refine h_dup rfl (Or.inr ⟨_, rfl⟩) ?_
  refine h_ic (b := 5) rfl (by decide) (by decide) ?_
  refine h_ic (b := (-1)) rfl (by decide) (by decide) ?_
  refine h_iast (xs := [yi s, yi a, yi b, yi d, yi (-1), 0]) (k := 5) rfl (by omega) zU_eq (by decide) (Nat.le_of_ble_eq_true rfl) ?_
  rw [zU_zU]
  have hn416 : (416 : Nat) ≠ tr1 := (i2 416 (by rw [j1]; decide)).2.2
  refine h_stat (as := [.ref (c 0), .ref n1]) (S := [.ref 416]) rfl (by decide) rfl (Nat.le_of_ble_eq_true rfl) (hP_dd (dd := dd - 2 + 2) (by omega) (L_168 (dd := dd - 2) (xs := [yi s, yi a, yi b, yi d, yi (-1), yi (-1)]) (ys := (List.range nn).map fun k => some (rw' k)) (by omega) (by rw [zU_ne (by omega), i3, ent]) (by rw [List.length_map, List.length_range]; omega) (fun r hr => by
    obtain ⟨k, hk, rfl⟩ := List.mem_map.mp hr
    have hk := List.mem_range.mp hk
    have hlt := (i2 (rw' k) (by rw [j7 k (by omega)]; decide)).2.1
    obtain ⟨x, y, hxy⟩ := i4 k (by omega)
    exact ⟨rw' k, _, rfl, by omega, by rw [zU_ne (by omega)]; exact hxy⟩) (by omega) zU_eq)) ?_
  rintro u2 n2 q2 H2 ⟨rfl, rfl, rfl, rfl⟩
  refine h_put (fs := [.ref (c 0), .ref (c 1), .ref (c 2), .ref (c 3), .ref (c 4)]) rfl (by decide) (by omega) (by rw [zU_ne (by omega), zU_ne (by omega)]; exact i1) (Nat.le_of_ble_eq_true rfl) rfl ?_
  have m10 : M1 1 0 = M 1 0 := gO 1 0 (by omega) (by omega) (by omega) (by omega)
  have m14 : M1 1 4 = M 1 4 := gO 1 4 (by omega) (by omega) (by omega) (by omega)
  have m5 : M1 5 = M 5 := funext fun i => gO 5 i (by omega) (by omega) (by omega) (by omega)
  have e7 : M1 7 nn = s := (gN 7 nn (by decide)).trans g4
  have e8 : M1 8 nn = a := (gN 8 nn (by decide)).trans g5
  have e9 : M1 9 nn = b := (gN 9 nn (by decide)).trans g6
  have e10 : M1 10 nn = d := (gN 10 nn (by decide)).trans g7
  obtain ⟨c', rw2, ro2, hO2⟩ := oN_node (x := yi (-1)) (y := yi (-1)) hO1 htr hnn k17 (fun a k h1 h2 h3 => gO a k (by omega) (by omega) (by omega) (by omega)) m10 m14 m5
  rw [e7, e8, e9, e10] at hO2
  have hW2 := wI_lift (x := .inl (10, [.ref (n1 + 1), .ref (c 1), .ref (c 2), .ref (c 3), .ref (c 4)])) (wI_new (x := .inr (.inr (.inr (4, ((List.range nn).map fun k => some (rw' k)) ++ [some n1])))) (wI_new (x := .inr (.inl [yi s, yi a, yi b, yi d, yi (-1), yi (-1)])) hW1)) (a := 416) (Nat.le_refl _) hn416
  refine h_mono (L_158b (nn := nn) (by omega) hW2 hO2 hpI k17 rfl rfl (fun p hp => ?_)) fun v n' q' H' hv => ?_
  · rw [e7, e8, e9, e10] at hp
    have := (Q_fr hu hp).1
    omega
  · obtain ⟨v1, v2, v3, c3, rw3, ro3, v4, v5⟩ := hv
    refine Or.inr ⟨by omega, by rw [v1, hnn], ⟨cc, tr1, c3, rw3, ro3, ?_, ?_⟩, ?_⟩
    · rw [ent, hMd]; exact v4
    · rw [ent, hMd]; exact v5
    · rw [ent, hMd]
      rw [List.length_map, List.length_range] at v3
      exact ⟨hpI, hX', hG1, by omega, by omega⟩
end HrG
