/-! TRY is laid -/
section TrA
variable {cc d e b i N n n' r o c g lo : Nat} {P M M' M0 M1 M2 M3 M4 M5 M6 MB Mc Me Mp Mq : yM} {op x y z nd gd lb v L L1 p u ca fr to w l : Int} {tgt tgt1 : Int → Nat} {k : Nat → Nat → Int} {bg : Nat → List Nat} {ch : Nat → List (Int × Int)} {H H1 : Int → List (Int × Int)} {hl : List (Int × Int)} {G G1 : aC} {ly : yM → Int → Int → Option yM} {cs : List tC}
theorem ck_le {w w' : Int} (h : w ≤ w') : ∀ (cs : List tC), ck w cs ≤ ck w' cs
  | [] => Int.le_refl _
  | _ :: cs => by
    have := ck_le h cs
    show w + ck w cs ≤ w' + ck w' cs
    omega
set_option maxRecDepth 8000 in
theorem S_63 (hcc : pC cc) (hN : 1000 ≤ N) (hd : d < 90) (hA : pA P) (hb : beg cc P d n M0 MB) (ih : ihL cc P r d ly) (h7 : P 7 n = 11) (he : f_63 N ly cc MB (n : Int) (d : Int) = some M') (h0 : M' cc 1 = 0) : lay cc P (r + 1) d n M0 M' := by
  obtain ⟨hs0, hn, hs, hg, hD⟩ := hb
  have hr := cc_rg hcc
  have hC : trC cc P d n M0 := ⟨hcc, hd, hA, hs0, hn, h7⟩
  have hW0 := hs0.1.2.1.1
  have hn7 := nd_lt hA hn
  obtain ⟨oa, ob, oc, oab, oac⟩ := (hA.2.2.2.1 n hn.1).2.2.2.2.2.2.2.2.1 h7
  obtain ⟨d1, d2, d3, d4, d5⟩ := hD.1
  have ebc : ∀ q : Int, 0 ≤ q → ((q.toNat : Nat) : Int) = q := fun q hq => Int.toNat_of_nonneg hq
  have hI0 := hs0.2
  have hi1 := hI0.1
  have hi2 := hI0.2.1
  have hi3 := hI0.2.2.1
  have hi4 := hI0.2.2.2.1
  have hnn := hA.1
  have hn1 := hn.1
  have hgd := hs0.1.2.2.2.1 d (Nat.le_refl d)
  -- the guard
  have hnB := nB_K hcc (by omega) hs0.1 hs0.2 hg.1 hg.2.1 hn
  obtain ⟨s1, g1, x1, ⟨k7, k98, k99, k100⟩, m1⟩ := ngd hcc (by omega) (by omega) hs (by omega) hnB (Or.inl h7)
  unfold f_63 at he
  rw [f66 (by omega) (by omega) (by omega), pz_s hd, pz_d (by omega), ylet_eq] at he
  dsimp only at he
  have eg : M0 96 7 = (((M0 96 7).toNat : Nat) : Int) := by omega
  rw [d3] at k7 k98 k99 k100
  generalize hgg : (M0 96 7).toNat = g at eg k98 k99 k100
  generalize gM MB n d = M1 at he s1 g1 x1 k7 k98 k99 k100 m1
  have pB : ∀ j, MB (105 + d) j = M0 (105 + d) j := fun j => lw_pl hcc hg.1 (Nat.le_refl d) (by omega) j
  rw [pB 0] at k99
  have z10 : M1 cc 0 = M0 cc 0 := (m1 _ _ (by omega) (by omega)).trans d1
  have z110 : M1 cc 10 = M0 cc 10 + 1 := (m1 _ _ (by omega) (by omega)).trans d2
  have z1l : M1 96 10 = M0 96 10 := (m1 _ _ (by omega) (by omega)).trans d4
  have z1r : M1 21 1 = M0 21 1 := (m1 _ _ (by omega) (by omega)).trans d5
  have b1 := bs_qt (bs_0 (P := P) (n := n) hcc hD hg) (show qt cc d MB M1 from ⟨g1, x1, m1 _ _ (by omega) (by omega), fun k => ⟨m1 _ _ (by omega) (by omega), m1 _ _ (by omega) (by omega)⟩⟩)
  have gk1 : gK P d n g M0 M1 := ⟨eg.symm, by omega, k98, k99, k100⟩
  -- a label
  rw [ylet_eq, ylet_eq, f67] at he
  dsimp only at he
  obtain ⟨s2, g2, x2⟩ := nlb hcc (by omega) s1 (by omega)
  have l2 : yU M1 96 10 (M1 96 10 + 1) 96 10 = M0 96 10 + 1 := by rw [yU_at, z1l]
  have m2 : ∀ a j, (a ≠ 96 ∨ j ≠ 10) → yU M1 96 10 (M1 96 10 + 1) a j = M1 a j := fun a j q => yU_ne (by omega)
  have q2 := qt_nl g2 x2 hcc
  rw [z1l] at he s2 g2 x2 l2 m2 q2
  generalize yU M1 96 10 (M0 96 10 + 1) = M2 at he s2 g2 x2 l2 m2 q2
  have b2 := bs_qt b1 q2
  have gk2 := gK_K gk1 g2.2.1
  rw [ylet_eq, ylet_eq, rd_P s2.1.1 ⟨by omega, by omega⟩ hn7, ylet_eq, m2 cc 0 (by omega), z10, d3, eg] at he
  -- the place
  rw [ylet_eq, ylet_eq] at he
  obtain ⟨hp1, hc1⟩ := cp_47 (M := M2) hd b2.1.1 hcc
  have hQ3 : lQ cc d M2 (yU (f_47 M2 (d : Int)) (105 + (d + 1)) 0 (g : Int)) := lQ_trans (lQ_47 hcc hd) (lQ_pl hcc hd)
  obtain ⟨v3, W3⟩ := hQ3 s2.1.2.1
  have hp3 : pD d M2 (yU (f_47 M2 (d : Int)) (105 + (d + 1)) 0 (g : Int)) := pD_U hp1
  have c3 : ∀ j, j < 6 → j ≠ 0 → yU (f_47 M2 (d : Int)) (105 + (d + 1)) 0 (g : Int) (105 + (d + 1)) j = M0 (105 + d) j := fun j h1 h2 => by rw [yU_i h2, hc1 j h1]
  have h30 : yU (f_47 M2 (d : Int)) (105 + (d + 1)) 0 (g : Int) (105 + (d + 1)) 0 = (g : Int) := yU_at
  generalize yU (f_47 M2 (d : Int)) (105 + (d + 1)) 0 (g : Int) = M3 at he v3 W3 hp3 c3 h30
  obtain ⟨s3, g3, x3⟩ := pl_ok hcc hd s2 hp3
  have b3 := bs_qt b2 (qt_pl g3 x3 hp3 hcc)
  have gk3 := gK_K gk2 g3.2.1
  have w3 := b3.1
  -- b
  obtain ⟨M4, e4, v4, W4⟩ := lT_ly ih.1 (x := yrd M3 9 (n : Int)) W3
  rw [e4] at he
  have he : ylet (M4 cc 0) (fun v10 => Option.bind (f_55 ly cc M4 (n : Int) (d : Int) (M4 (105 + d) 1)) fun t11 => ylet (f_46 cc t11 (M0 96 10 + 1) 6 0 (n : Int) (t11 (105 + d) 0)) fun t12 => ylet (yrd t12 10 (n : Int)) fun v13 => f_63_63 N ly cc N t12 (n : Int) (d : Int) (105 + d) (g : Int) (M0 96 10 + 1) (P 8 n) (M0 cc 0) v10 v13 90) = some M' := he
  rw [ylet_eq] at he
  have pl4 : ∀ j, M4 (105 + d) j = M0 (105 + d) j := fun j => (lw_pl hcc v4 (Nat.le_refl d) (by omega) j).trans (lw_pl hcc w3.1 (Nat.le_refl d) (by omega) j)
  rw [pl4 1] at he
  obtain ⟨M5, e5, v5, W5⟩ := lT_55 (x1 := (n : Int)) (x3 := M0 (105 + d) 1) hcc hd ih.1 W4
  rw [e5] at he
  have he : ylet (f_46 cc M5 (M0 96 10 + 1) 6 0 (n : Int) (M5 (105 + d) 0)) (fun t12 => ylet (yrd t12 10 (n : Int)) fun v13 => f_63_63 N ly cc N t12 (n : Int) (d : Int) (105 + d) (g : Int) (M0 96 10 + 1) (P 8 n) (M0 cc 0) (M4 cc 0) v13 90) = some M' := he
  have pl5 : ∀ j, M5 (105 + d) j = M0 (105 + d) j := fun j => (lw_pl hcc v5 (Nat.le_refl d) (by omega) j).trans (pl4 j)
  rw [ylet_eq, e_46 hcc, pl5 0] at he
  generalize hM6 : eM cc M5 6 0 0 0 (n : Int) (M0 (105 + d) 0) (M0 96 10 + 1) = M6 at he
  have hQ6 : lQ cc d M5 M6 := by rw [← hM6]; exact lQ_eM hcc
  obtain ⟨v6, W6⟩ := hQ6 W5
  have hP6 : ∀ a j, a ≤ 17 → M6 a j = P a j := fun a j ha => ((lw_prog hcc v6 ha).trans ((lw_prog hcc v5 ha).trans (lw_prog hcc v4 ha))).trans (s3.1.1 a j ha)
  rw [ylet_eq, rd_P hP6 ⟨by omega, by omega⟩ hn7] at he
  obtain ⟨Mx, ex, vx, -⟩ := lT_63_63 (d := d) (N := N) (x1 := (n : Int)) (x4 := (g : Int)) (x5 := M0 96 10 + 1) (x6 := P 8 n) (r3 := 105 + d) hcc hN hd ih.1 hW0 W4.1 N (M := M6) (x9 := P 10 n) (x10 := 90) (by omega) (by omega) (by omega) W6
  have exx : Mx = M' := Option.some.inj (ex.symm.trans he)
  subst exx
  have t6 := lw_tl vx h0
  have t5 := lw_tl v6 t6
  have t4 := lw_tl v5 t5
  -- b is laid
  have h31 := c3 1 (by omega) (by omega)
  have h32 := c3 2 (by omega) (by omega)
  have h33 := c3 3 (by omega) (by omega)
  have h34 := c3 4 (by omega) (by omega)
  have h35 := c3 5 (by omega) (by omega)
  have pl3 : ∀ j, M3 (105 + d) j = M0 (105 + d) j := fun j => lw_pl hcc w3.1 (Nat.le_refl d) (by omega) j
  have pl31 := pl3 1
  have wK := w3.2.1.1
  have f0 : M3 cc 0 = M0 cc 0 := (hp3 _ _ (by omega)).trans ((m2 _ _ (by omega)).trans z10)
  have f10 : M3 cc 10 = M0 cc 10 + 1 := (hp3 _ _ (by omega)).trans ((m2 _ _ (by omega)).trans z110)
  have f7 : M3 96 7 = M0 96 7 + 1 := (hp3 _ _ (by omega)).trans ((m2 _ _ (by omega)).trans k7)
  have fl : M3 96 10 = M0 96 10 + 1 := (hp3 _ _ (by omega)).trans l2
  have fr : M3 21 1 = M0 21 1 := (hp3 _ _ (by omega)).trans ((m2 _ _ (by omega)).trans z1r)
  have k3 : sO cc P (d + 1) (d + 1) M3 := gd_sO hcc hd hs0 hn w3 s3 gk3 h30 (by omega) (by omega) (by omega) (by omega) (by omega)
  obtain ⟨o1, o2, o3⟩ := hA.2.2.2.2.2.1 (P 9 n).toNat n (by have := ob.1; have := ob.2.1; omega) ob.2.2.1
  rw [if_neg (fun q => by omega)] at o2
  rw [if_neg (by omega)] at o3
  have hnR := hn.2.2.2.2
  have n3 : nB P (d + 1) (P 9 n).toNat M3 := gd_nB hA hcc hd hs0 hn w3 gk3 (w := n) (Or.inl rfl) ⟨ob.1, ob.2.1, ob.2.2.1, ob.2.2.2⟩ (fun _ f hf => by
    rcases oa with q | q
    · omega
    · exact ⟨q, fun q2 => oab (by omega)⟩) (by rw [o1]; exact hn.2.2.1) h30 ⟨fun q => by
    rw [h34]
    exact hnR.1 (by rw [← o3]; exact q), fun q => by
    rw [h33, h31]
    exact hnR.2 (by rw [← o2]; exact q)⟩
  rw [rd_P s3.1.1 ⟨by omega, by omega⟩ hn7] at e4
  have L1 := ih.2 M3 (P 9 n).toNat M4 k3 n3 (by rw [ebc _ ob.1]; exact e4) t4
  have b4 := bs_lay hd b3 L1 (Or.inl ⟨d, Nat.le_refl d, h34.symm⟩) hcc (fun c hc => gd_sf hA hcc hd hs0 w3 gk3 (an_up ob.2.2.1 an_rfl) (fun _ f hf => by
    rcases oa with q | q
    · omega
    · have := q.2.2.1
      rw [hf, Int.toNat_natCast] at this
      exact this) h30 hc)
  obtain ⟨-, s4⟩ := lay_out hcc hd s3 k3 L1 t4
  obtain ⟨n11, n12, n13, n14, n15⟩ := id L1.2.2.2.2.2.2.2.1
  rw [f0] at n11 n12 n13 n14 n15
  have K34c := L1.2.2.2.1.1
  have T4 : trS cc P d n g M0 M4 := ⟨⟨s4.1, lI_b s4.2 (by omega) (by omega) (by omega)⟩, b4, gK_K gk3 L1.2.2.2.1, by omega, by omega⟩
  have E4 : lE cc M4 := L1.2.2.2.2.2.2.2.2.1
  -- the FINALLY behind it, and what goes around
  obtain ⟨T5, E5, g5, x5, own5, r5, f5, N5, F5⟩ := fn_st hC ih T4 E4 ⟨Int.le_refl _, by omega⟩ e5 t5
  obtain ⟨T6, E6, g6, D6⟩ := sk_ok hC T5 hM6 t6
  obtain ⟨⟨y1, y2, y3, y4, y5, y6⟩, yX, ⟨ua, ub, u1, u2, u3, u4, u5⟩, u67, u8, uc, up⟩ := id D6
  have K45c := g5.2.1.1
  have hW4 := W4.1
  have hW5 := W5.1
  have hoc : P 10 n = -1 ∨ (0 ≤ P 10 n ∧ own P n (P 10 n).toNat) := by
    rcases oc with q | q
    · exact Or.inl q
    · exact Or.inr ⟨q.1, 0, q.2.2.2, by have := q.1; have := q.2.1; omega, q.2.2.1⟩
  have hc90 : P 10 n < 90 := by
    rcases oc with q | q
    · omega
    · have := q.2.1; omega
  -- the CATCHES
  obtain ⟨cs, Mc, i1, Tc, Ec, gc, xc, i6, i7, i8, i9, i10, i11, i12, i13, N7, i14⟩ := cl_ok hC hN ih hW0 hW4 N M6 Mx (P 10 n) 90 T6 E6 (by omega) hoc hc90 (by omega) (by omega) (by omega) he h0
  have K6cc := gc.2.1.1
  have hWc := Tc.1.1.2.1.1
  -- the last CAUGHT
  obtain ⟨Mq, hq, Tq, Eq, gq, xq, ownq, fq, N8, Fq⟩ := fl_ok hC hN ih hW0 hW4 Tc Ec i1 h0
  have Kcq := gq.2.1.1
  have hWq := Tq.1.1.2.1.1
  have hT5 := tT_s (x := M5 cc 0)
  rw [y2, hT5] at i11
  have hif : ∀ A B : Int, (P 8 n = -1 → (if P 8 n = -1 then A else B) = A) ∧ (P 8 n ≠ -1 → (if P 8 n = -1 then A else B) = B) := fun A B => ⟨fun q => if_pos q, fun q => if_neg q⟩
  have hckl := ck_le (show 6 * (M4 cc 0 + 1 - M0 cc 0) ≤ 6 * M4 cc 0 + 12 by omega) cs
  have hc11 : Mq cc 11 = M0 cc 11 := Tq.2.1.1.1.2.2.2
  have hpot : 12 * (Mq 21 1 - Mq cc 11) + ck (6 * (M4 cc 0 + 1 - M0 cc 0)) cs + (if P 8 n = -1 then 0 else 6 * (M4 cc 0 + 1 - M0 cc 0) + cw cs) + (2 * M0 cc 0 + 4) ≤ tT (Mq cc 0) + 12 * (M0 21 1 - M0 cc 11) - tT (M0 cc 0) := by
    rcases fq with ⟨q1, q2⟩ | ⟨q1, q2, q3⟩
    · rw [(hif _ _).1 q1, q2]
      rw [q2] at hc11
      omega
    · rw [(hif _ _).2 q1]
      have := i12 q1
      omega
  have hcsq : ∀ c, c ∈ cs → own P n c.1 ∧ Mq 103 c.1 = (c.2.1 : Int) ∧ Mq 104 c.1 = (c.2.2 : Int) ∧ (c.2.2 : Int) ≤ Mq cc 0 ∧ (c.2.1 : Int) < Mq cc 0 := fun c hc => by
    obtain ⟨a1, a2, a3, a4, a5, a6⟩ := i9 c hc
    have := ownq c.1 a1
    exact ⟨a1, this.1.trans a3, this.2.trans a4, by omega, by omega⟩
  have hlq : P 8 n ≠ -1 → 0 ≤ Mc cc 0 ∧ Mc cc 0 < Mq cc 0 := fun q => by
    rcases fq with ⟨q1, q2⟩ | ⟨q1, q2, q3⟩
    · exact absurd q1 q
    · exact ⟨hWc.1, q2⟩
  obtain ⟨s9, b9, E9, K9, ⟨z90, z910, z97, z9l⟩, p9, x9, t9⟩ := tl_ok hC hN Tq Eq i6 (by omega) hcsq i8 (by omega) rfl (by omega) (by omega) hlq (by omega) hq h0
  obtain ⟨n51, n52, n53⟩ := N5
  obtain ⟨n71, n72, n73⟩ := N7
  obtain ⟨n81, n82, n83⟩ := N8
  have c11' := b9.1.1.2.2.2
  refine ⟨b9.1.1, s9.1.2.1, s9.2, b9.1.2.1, b9.2.1, b9.2.2.1, b9.1.2.2, ⟨by omega, by omega, by omega, by omega, by rw [z90]; omega⟩, E9, b9.2.2.2, ?_⟩
  intro tgt k bg ch H G hA1 hC1 hH1 hH2 hG1
  have K6c := gc.2.1
  have Kqe : lK cc Mq Mx := K9
  have Kcq : lK cc Mc Mq := gq.2.1
  have K6q : lK cc M6 Mq := lK_trans K6c Kcq
  have K5q : lK cc M5 Mq := lK_trans g6.2.1 K6q
  have K4q : lK cc M4 Mq := lK_trans g5.2.1 K5q
  have K4e : lK cc M4 Mx := lK_trans K4q Kqe
  have K6e : lK cc M6 Mx := lK_trans K6q Kqe
  have V6q : lV cc M6 Mq := lV_comp gc.2.2 K6c gq.2.2 Kcq
  have V5q : lV cc M5 Mq := lV_comp g6.2.2 g6.2.1 V6q K6q
  have V4q : lV cc M4 Mq := lV_comp g5.2.2 g5.2.1 V5q K5q
  have X6q : lX cc M6 Mq := lX_trans xc xq (by omega)
  have X5q : lX cc M5 Mq := lX_trans yX X6q (by omega)
  have X4q : lX cc M4 Mq := lX_trans x5 X5q (by omega)
  have hKe := Kqe.1
  have hl6 := ordc_mem cs _ i8
  have hRR : 0 ≤ M0 21 1 := by omega
  have hG2 := hG1.2.1
  have hMe0 : 0 ≤ Mx cc 0 := by omega
  -- what later rows add
  have hxe : ∀ t : Nat, (t : Int) < Mq cc 0 → Mq 102 t ≠ M0 96 10 + 1 → Mx (cc + 2) t = Mq (cc + 2) t := fun t t1 t2 => by
    rw [x9 t t1, if_neg (fun q => t2 q.2)]
  have may : ∀ t : Nat, (t : Int) < Mq cc 0 → (a_may (Mx (cc + 1) t) ↔ a_may (Mq (cc + 1) t)) := fun t ht => by
    rw [(Kqe.2.1 t ht).2.2 1 (by omega) (by omega) (by omega)]
  have gkq := Tq.2.2.1
  have hHg : H (g : Int) = H (M0 (105 + d) 0) := by
    have e1 := hH2 g (by have := gkq.1; omega) (by have := gkq.2.1; omega)
    rw [e1, (Kqe.2.2.2.2.1 g gkq.2.1).2.1, gkq.2.2.2.1]
  -- its first instruction
  obtain ⟨-, -, -, -, -, q6⟩ := hA1 (M0 cc 0).toNat (by omega) (by omega)
  obtain ⟨c1, c2, c3⟩ := bg_at hs0.2 (by omega) hW0.1 hD (lK_trans g1.2.1 (lK_trans g2.2.1 (lK_trans g3.2.1 (lK_trans L1.2.2.2.1 K4e)))) (by omega) s9.2 q6
  have h7i := (hD.2.2.1 (by omega)).1
  have hz0 := (hI0.2.2.2.2.2.1 (M0 cc 0).toNat (by omega) (by omega)).1
  -- the way around
  obtain ⟨a1, a2, a3, a4, a5, a6⟩ := hA1 (M5 cc 0).toNat (by omega) (by omega)
  obtain ⟨j1, j2, j3⟩ := K6e.2.1 (M5 cc 0).toNat (by omega)
  have jq : Mq 102 (M5 cc 0).toNat = M0 96 10 + 1 := by rw [(K6q.2.1 (M5 cc 0).toNat (by omega)).2.1, ub]
  rw [j2, ub, if_neg (by omega), x9 _ (by omega), if_pos ⟨by omega, jq⟩] at a5
  have hl : (((Mc cc 0).toNat : Nat) : Int) = Mc cc 0 := by omega
  have efh : fhs P n (Mc cc 0) = (if yq P 1 n = -1 then [] else [(-1, (((Mc cc 0).toNat : Nat) : Int))]) := by
    rw [hl]; rfl
  refine ⟨c1, nd_11 h7 ⟨cs.map (fun c => (c.1, c.2.1)), (M4 cc 0).toNat, (M5 cc 0).toNat, (Mc cc 0).toNat, fhs P n (Mc cc 0), ?_, efh, ?_, ?_, ?_, ?_, ?_, ?_, ?_⟩⟩
  · rw [List.map_map]; exact i6
  · have A := kid_P (tgt := tgt) (tgt1 := tgt) (H1 := hU Mx g (chs P cs ++ fhs P n (Mc cc 0)) H) (G1 := ((n, G.2.2.2.1, G.2.2.2.2, chs P cs ++ fhs P n (Mc cc 0)) :: G.1, G.2.1, G.2.2.1, G.2.2.2.1, G.2.2.2.2)) (M0 := M0) L1 (by omega) (by omega) hi3.1 K4e hA1 (kid_C2 (H1 := hU Mx g (chs P cs ++ fhs P n (Mc cc 0)) H) L1 w3 K4q V4q Kqe hRR hC1 (fun t t1 t2 t3 => by
      obtain ⟨f1, f2, f3⟩ := K4q.2.1 t t2
      have f101 : Mx 101 t = M4 101 t := (K4e.2.1 t t2).1
      have T := (t9 t (by rw [f3 1 (by omega) (by omega) (by omega)]; exact t3)).1 (by omega) (by omega)
      rw [f101] at T
      by_cases q : on Mx (M4 101 t) g
      · rw [T.1 q, hU_on q]
      · rw [T.2 q, hU_off q]; rfl)) (by rw [hU_off on_neg]; exact hH1) (fun y h1 h2 => by
      rw [hU_new (Me := Mx) (g := g) (fun y h3 h4 => hH2 y (by omega) h4) (by omega) (by have := K4e.1; omega), (K4e.2.2.2.2.1 y h2).2.1]) (fun t t1 t2 => by
      rcases lay_lab (L := M0 96 10) L1 (fun l hl => by
        by_cases q : l ≤ d
        · rw [lw_pl hcc w3.1 q (by omega) 4]
          have := hs0.1.2.2.2.1 l q
          omega
        · have e : l = d + 1 := by omega
          subst e
          omega) hi3.1 t1 t2 with q | q
      · exact Or.inl ⟨q, rfl⟩
      · exact Or.inr (Or.inr q)) (fun t t1 t2 _ => by rw [x9 t (by omega), if_neg (by omega), X4q t t2]) (gd_gG hcc hd hs0 w3 gk3 s3 (lK_trans L1.2.2.2.1 K4e) (fun _ _ => rfl) hHg hG1 h30 h32 h34 h35 (by rw [h31]; omega) (by rw [h33]; exact hG1.2.2.2.1.symm))
    have z37 : M3 (cc + 7) (M0 cc 0).toNat = M0 (cc + 7) (M0 cc 0).toNat + 1 := by
      rw [hp3 _ _ (by omega), m2 _ _ (by omega), m1 _ _ (by omega) (by omega), h7i]
    rw [f0, z37, show (M0 (cc + 7) (M0 cc 0).toNat + 1).toNat = (M0 (cc + 7) (M0 cc 0).toNat).toNat + 1 by omega] at A
    rw [List.map_map]
    exact A
  · show a_fn _ _ _ _ _
    unfold a_fn
    show if P 8 n = -1 then _ else _
    rcases f5 with f5 | f5
    · rw [if_pos f5.1, f5.2]
    · rw [if_neg f5.1]
      have A := F5 Mq Mx tgt k bg ch H G K5q V5q Kqe hA1 hC1 hH1 hH2 hG1 (fun t t1 t2 t3 => by
        rw [hxe t (by omega) (by rw [(K5q.2.1 t t2).2.1]; exact t3)]
        exact X5q t t2) (fun t t1 t2 t3 => (t9 t (by rw [(K5q.2.1 t t2).2.2 1 (by omega) (by omega) (by omega)]; exact t3)).2.2 (by omega) (fun c hc => by have := hl6 c hc; omega)) f5.1
      rw [show (M0 (105 + d) 1).toNat = G.2.1 by omega] at A
      exact A
  · rw [a6]
    refine bgl_0 ?_
    rw [j3 7 (by omega) (by omega) (by omega), (u67 _).1]
    exact E5 _ (by omega) (by omega)
  · rw [a1, j3 1 (by omega) (by omega) (by omega), u1]
  · rw [a5]; omega
  · have A := i14 Mq Mx tgt k bg ch H (fhs P n (Mc cc 0)) G Kcq gq.2.2 Kqe hA1 hC1 hH1 hH2 hG1 (fun t t1 t2 t3 => by
      rw [hxe t (by omega) (by rw [(Kcq.2.1 t t2).2.1]; exact t3)]
      exact xq t t2) (fun t t1 t2 t3 => by
      rw [x9 t (by omega), if_pos ⟨by omega, by rw [(Kcq.2.1 t t2).2.1]; exact t3⟩]; omega) (fun c hc t t1 t2 t3 => by
      have hce := (hcsq c hc).2.2.2.1
      have T := (t9 t ((may t (by omega)).mp t3)).2.1 c hc t1 t2
      by_cases q : on Mx (Mx 101 t) g
      · rw [T.1 q, hU_on q]
      · rw [T.2 q, hU_off q]; rfl) (fun t t1 t2 t3 t4 => (t9 t ((may t (by omega)).mp t4)).2.2 (by omega) t3)
    rw [y2, show (M5 cc 0 + 1).toNat = (M5 cc 0).toNat + 1 by omega] at A
    exact A
  · have A := Fq Mx tgt k bg ch H G Kqe z90 hA1 hC1 hH1 hH2 hG1 (fun t t1 t2 t3 => hxe t t2 t3) (fun t t1 t2 t3 => (t9 t t3).2.2 (by omega) (fun c hc => by
      have := (i9 c hc).2.2.2.2.1
      omega))
    exact A
end TrA
