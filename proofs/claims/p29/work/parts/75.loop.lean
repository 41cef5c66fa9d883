/-! loops are laid -/
section LpA
variable {cc d e b i N n n' r o : Nat} {P M M' M0 M1 M2 M3 MB Mc Me : yM} {op x y z nd gd lb v L L1 p u : Int} {tgt tgt1 : Int → Nat} {k : Nat → Nat → Int} {bg : Nat → List Nat} {ch : Nat → List (Int × Int)} {H H1 : Int → List (Int × Int)} {G G1 : aC} {ly : yM → Int → Int → Option yM}
theorem S_58 (hcc : pC cc) (hN : 1000 ≤ N) (hd : d < 90) (hA : pA P) (hb : beg cc P d n M0 MB) (ih : ihL cc P r d ly) (h7 : P 7 n = 6) (he : f_58 N ly cc MB (n : Int) (d : Int) = some M') (h0 : M' cc 1 = 0) : lay cc P (r + 1) d n M0 M' := by
  obtain ⟨hs0, hn, hs, hg, hD⟩ := hb
  have hr := cc_rg hcc
  have hW0 := hs0.1.2.1.1
  have hn7 := nd_lt hA hn
  obtain ⟨oa, ob⟩ := (hA.2.2.2.1 n hn.1).2.2.2.2.2.1 h7
  obtain ⟨d1, d2, d3, d4, d5⟩ := hD.1
  have ebc : ∀ q : Int, 0 ≤ q → ((q.toNat : Nat) : Int) = q := fun q hq => Int.toNat_of_nonneg hq
  have hI0 := hs0.2
  have hi1 := hI0.1
  have hi2 := hI0.2.1
  have hi3 := hI0.2.2.1
  have hi4 := hI0.2.2.2.1
  have hgd := hs0.1.2.2.2.1 d (Nat.le_refl d)
  have hgd0 : MB (105 + d) 0 = M0 (105 + d) 0 := lw_pl hcc hg.1 (Nat.le_refl d) (by omega) 0
  have hT1 := tT_s (x := M0 cc 0)
  unfold f_58 at he
  rw [ylet_eq, ylet_eq, ylet_eq, f67, pz_s hd, pz_d (by omega), hgd0] at he
  dsimp only at he
  -- a label
  obtain ⟨s1, g1, x1⟩ := nlb hcc (by omega) hs (by omega)
  have q1 := qt_nl g1 x1 hcc
  have l1 : yU MB 96 10 (MB 96 10 + 1) 96 10 = M0 96 10 + 1 := by rw [yU_at, d4]
  have m1 : ∀ a j, (a ≠ 96 ∨ j ≠ 10) → yU MB 96 10 (MB 96 10 + 1) a j = MB a j := fun a j q => yU_ne (by omega)
  rw [d4] at he
  rw [d4] at s1 g1 x1 q1 l1 m1
  generalize yU MB 96 10 (M0 96 10 + 1) = M1 at he s1 g1 x1 q1 l1 m1
  have w1 := sg_trans hg g1
  have b1 := bs_qt (bs_0 (P := P) (n := n) hcc hD hg) q1
  have z10 : M1 cc 0 = M0 cc 0 := (m1 _ _ (by omega)).trans d1
  have z110 : M1 cc 10 = M0 cc 10 + 1 := (m1 _ _ (by omega)).trans d2
  have z17 : M1 96 7 = M0 96 7 := (m1 _ _ (by omega)).trans d3
  have z1r : M1 21 1 = M0 21 1 := (m1 _ _ (by omega)).trans d5
  -- its head
  rw [ylet_eq, e_45 hcc] at he
  generalize hM2 : eM cc M1 20 0 0 0 (n : Int) (M0 (105 + d) 0) 0 = M2 at he
  have hQ2 : lQ cc d M1 M2 := by rw [← hM2]; exact lQ_eM hcc
  obtain ⟨v2, W2⟩ := hQ2 s1.1.2.1
  rw [ylet_eq, ylet_eq, e_46 hcc] at he
  generalize hM3 : eM cc M2 5 0 (100 + yrd M2 8 (n : Int)) 0 (n : Int) (M0 (105 + d) 0) (M0 96 10 + 1) = M3 at he
  have hQ3 : lQ cc d M2 M3 := by rw [← hM3]; exact lQ_eM hcc
  obtain ⟨v3, W3⟩ := hQ3 W2
  -- the place
  rw [ylet_eq, ylet_eq, ylet_eq] at he
  have hQ4 : lQ cc d M3 (yU (yU (f_47 M3 (d : Int)) (105 + (d + 1)) 4 (M0 96 10 + 1)) (105 + (d + 1)) 5 (M0 (105 + d) 0)) := lQ_trans (lQ_47 hcc hd) (lQ_trans (lQ_pl hcc hd) (lQ_pl hcc hd))
  obtain ⟨v4, W4⟩ := hQ4 W3
  obtain ⟨hp4', hc4⟩ := cp_47 (M := M3) hd (lw_trans w1.1 (lw_trans v2 v3)) hcc
  have hp4 : pD d M3 (yU (yU (f_47 M3 (d : Int)) (105 + (d + 1)) 4 (M0 96 10 + 1)) (105 + (d + 1)) 5 (M0 (105 + d) 0)) := pD_U (pD_U hp4')
  have hc40 : ∀ j, j < 4 → yU (yU (f_47 M3 (d : Int)) (105 + (d + 1)) 4 (M0 96 10 + 1)) (105 + (d + 1)) 5 (M0 (105 + d) 0) (105 + (d + 1)) j = M0 (105 + d) j := fun j hj => by
    rw [yU_i (by omega), yU_i (by omega)]
    exact hc4 j (by omega)
  have hc44 : yU (yU (f_47 M3 (d : Int)) (105 + (d + 1)) 4 (M0 96 10 + 1)) (105 + (d + 1)) 5 (M0 (105 + d) 0) (105 + (d + 1)) 4 = M0 96 10 + 1 := by rw [yU_i (by omega), yU_at]
  have hc45 : yU (yU (f_47 M3 (d : Int)) (105 + (d + 1)) 4 (M0 96 10 + 1)) (105 + (d + 1)) 5 (M0 (105 + d) 0) (105 + (d + 1)) 5 = M0 (105 + d) 0 := yU_at
  generalize yU (yU (f_47 M3 (d : Int)) (105 + (d + 1)) 4 (M0 96 10 + 1)) (105 + (d + 1)) 5 (M0 (105 + d) 0) = M4 at he v4 W4 hp4 hc40 hc44 hc45
  -- its body
  obtain ⟨M5, e5, v5, W5⟩ := lT_ly ih.1 (x := yrd M4 9 (n : Int)) W4
  rw [e5] at he
  have he : ylet (f_45 cc M5 6 (M2 cc 0) 0 0 (n : Int) (M0 (105 + d) 0)) (fun t11 => Option.bind (f_69 N cc t11 (M0 96 10 + 1) (M2 cc 0)) fun t12 => some t12) = some M' := he
  rw [ylet_eq, e_45 hcc] at he
  generalize hM6 : eM cc M5 6 (M2 cc 0) 0 0 (n : Int) (M0 (105 + d) 0) 0 = M6 at he
  have hQ6 : lQ cc d M5 M6 := by rw [← hM6]; exact lQ_eM hcc
  obtain ⟨v6, W6⟩ := hQ6 W5
  obtain ⟨M7, e7, v7, W7⟩ := lT_69 (cc := cc) (d := d) (N := N) (M := M6) (x1 := M0 96 10 + 1) (x2 := M2 cc 0) hcc hN W2.1.1 W2.1.2 W6
  rw [e7] at he
  have em7 : M7 = M' := Option.some.inj he
  subst em7
  have t6 := lw_tl v7 h0
  have t5 := lw_tl v6 t6
  have t4 := lw_tl v5 t5
  have t3 := lw_tl v4 t4
  have t2 := lw_tl v3 t3
  -- step by step
  obtain ⟨s2, g2, D2⟩ := em hcc (by omega) s1 hM2 t2 ⟨⟨by decide, by decide⟩, w2_20, fun q => by omega, fun q => by omega, fun q => by omega, fun q => by omega, fun _ => ⟨by omega, hn.1⟩, by omega, by omega, fun q => absurd q (by decide)⟩
  have b2 := bs_em b1 g2 D2 (Or.inl rfl) (by omega)
  obtain ⟨⟨c21, c22, c23, c24, c25, c26⟩, c2X, ⟨u2a, u2b, u21, u22, u23, u24, u25⟩, u267, u28, u2c, u2p⟩ := id D2
  rw [rd_P s2.1.1 ⟨by omega, by omega⟩ hn7] at hM3
  obtain ⟨s3, g3, D3⟩ := em hcc (by omega) s2 hM3 t3 ⟨⟨by decide, by decide⟩, w2_5 ⟨by decide, Or.inr ⟨by omega, by omega⟩⟩, fun _ => by omega, fun q => by omega, fun q => by omega, fun q => by omega, fun _ => ⟨by omega, hn.1⟩, by omega, by omega, fun _ => Or.inl rfl⟩
  have b3 := bs_em b2 g3 D3 (Or.inr (Or.inr (by omega))) (by omega)
  obtain ⟨⟨c31, c32, c33, c34, c35, c36⟩, c3X, ⟨u3a, u3b, u31, u32, u33, u34, u35⟩, u367, u38, u3c, u3p⟩ := id D3
  obtain ⟨s4, g4, x4⟩ := pl_ok hcc hd s3 hp4
  have b4 := bs_qt b3 (qt_pl g4 x4 hp4 hcc)
  have w4 := b4.1
  have f0 : M4 cc 0 = M0 cc 0 + 2 := (hp4 _ _ (by omega)).trans (by omega)
  have f10 : M4 cc 10 = M0 cc 10 + 1 := (hp4 _ _ (by omega)).trans (by omega)
  have f7 : M4 96 7 = M0 96 7 := (hp4 _ _ (by omega)).trans (by omega)
  have fl : M4 96 10 = M0 96 10 + 1 := (hp4 _ _ (by omega)).trans (by omega)
  have fr : M4 21 1 = M0 21 1 := (hp4 _ _ (by omega)).trans (by omega)
  have pl4 : ∀ j, M4 (105 + d) j = M0 (105 + d) j := fun j => lw_pl hcc w4.1 (Nat.le_refl d) (by omega) j
  have h40 := hc40 0 (by omega)
  have h41 := hc40 1 (by omega)
  have h42 := hc40 2 (by omega)
  have h43 := hc40 3 (by omega)
  have pl40 := pl4 0
  have pl41 := pl4 1
  have k4 : sO cc P (d + 1) (d + 1) M4 := kid_sO hd s4 (by omega) (by omega) (by omega) (by omega) (by omega) (by omega)
  obtain ⟨e1, e2, e3⟩ := hA.2.2.2.2.2.1 (P 9 n).toNat n (by have := ob.1; have := ob.2.1; have := hn.1; omega) ob.2.2.1
  rw [if_neg (fun q => by omega)] at e2
  have n4 : nB P (d + 1) (P 9 n).toNat M4 := kid_nB hA hcc hd hs0 hn w4.1 w4.2.1 ⟨ob.1, ob.2.1, ob.2.2.1⟩ ob.2.2.2 h40 (fun q => by
    rw [h43, h41]
    exact hn.2.2.2.2.2 (by rw [← e2]; exact q)) (fun _ => by omega)
  rw [rd_P s4.1.1 ⟨by omega, by omega⟩ hn7] at e5
  have L1 := ih.2 M4 (P 9 n).toNat M5 k4 n4 (by rw [ebc _ ob.1]; exact e5) t5
  have b5 := bs_lay hd b4 L1 (Or.inr (Or.inr (by omega))) hcc (fun c hc => kid_sf hcc hd hs0 w4.1 w4.2.1 ob.2.2.1 h40 hc)
  obtain ⟨-, s5⟩ := lay_out hcc hd s4 k4 L1 t5
  have K45 := L1.2.2.2.1.1
  obtain ⟨n11, n12, n13, n14, n15⟩ := id L1.2.2.2.2.2.2.2.1
  obtain ⟨s6, g6, D6⟩ := em hcc (by omega) s5 hM6 t6 ⟨⟨by decide, by decide⟩, w2_6 (by omega), fun _ => by omega, fun q => by omega, fun q => by omega, fun q => by omega, fun _ => ⟨by omega, hn.1⟩, by omega, by omega, fun q => absurd q (by decide)⟩
  have hW5 := W5.1
  have b6 := bs_em b5 g6 D6 (Or.inl rfl) (by omega)
  obtain ⟨⟨c61, c62, c63, c64, c65, c66⟩, c6X, ⟨u6a, u6b, u61, u62, u63, u64, u65⟩, u667, u68, u6c, u6p⟩ := id D6
  obtain ⟨s7, g7, o7, x7⟩ := stl hcc (by omega) hN (by omega) s6 ⟨by omega, by omega⟩ W2.1.1 W2.1.2 e7
  have b7 := bs_st b6 g7 o7 x7 (by omega) hcc
  have z70 : M7 cc 0 = M5 cc 0 + 1 := (o7 _ _ (by omega)).trans (by omega)
  have z710 : M7 cc 10 = M5 cc 10 := (o7 _ _ (by omega)).trans (by omega)
  have z77 : M7 96 7 = M5 96 7 := (o7 _ _ (by omega)).trans (by omega)
  have z7l : M7 96 10 = M5 96 10 := (o7 _ _ (by omega)).trans (by omega)
  have z7r : M7 21 1 = M5 21 1 := (o7 _ _ (by omega)).trans (by omega)
  have hT2 := tT_s (x := M0 cc 0 + 1)
  have hT3 := tT_s (x := M5 cc 0)
  rw [f0, show M0 cc 0 + 2 = M0 cc 0 + 1 + 1 by omega, hT2, hT1] at n15
  refine ⟨b7.1.1, W7, lI_b s7.2 (by omega) (by omega) (by omega), b7.1.2.1, b7.2.1, b7.2.2.1, b7.1.2.2, ⟨by omega, by omega, by omega, by omega, by rw [z70, hT3]; omega⟩, lE_eq (lE_em s5.2 D6) (o7 _ _ (by omega)) (fun t => o7 _ _ (by omega)), b7.2.2.2, ?_⟩
  intro tgt k bg ch H G hA1 hC1 hH1 hH2 hG1
  have K34 : lK cc M3 M4 := g4.2.1
  have K57 : lK cc M5 M7 := lK_trans g6.2.1 g7.2.1
  have K47 : lK cc M4 M7 := lK_trans L1.2.2.2.1 K57
  have K37 : lK cc M3 M7 := lK_trans K34 K47
  have K27 : lK cc M2 M7 := lK_trans g3.2.1 K37
  have V57 : lV cc M5 M7 := fun r r1 r2 => absurd r2 (by omega)
  -- its first instruction
  obtain ⟨a1, a2, a3, a4, a5, a6⟩ := hA1 (M0 cc 0).toNat (by omega) (by omega)
  obtain ⟨i1, i2, i3⟩ := K27.2.1 (M0 cc 0).toNat (by omega)
  rw [z10] at u21
  obtain ⟨c1, c2, c3⟩ := bg_at hs0.2 (by omega) hW0.1 hD (lK_trans g1.2.1 (lK_trans g2.2.1 K27)) (by omega) s7.2 a6
  have hz0 := (hI0.2.2.2.2.2.1 (M0 cc 0).toNat (by omega) (by omega)).1
  have h7i := (hD.2.2.1 (by omega)).1
  -- its second one
  obtain ⟨q1, q2, q3, q4, q5, q6⟩ := hA1 ((M0 cc 0).toNat + 1) (by omega) (by omega)
  rw [show (M2 cc 0).toNat = (M0 cc 0).toNat + 1 by omega] at u31 u33 u3b
  obtain ⟨j1, j2, j3⟩ := K37.2.1 ((M0 cc 0).toNat + 1) (by omega)
  have k36 : M6 102 ((M0 cc 0).toNat + 1) = M0 96 10 + 1 := by
    rw [((lK_trans K34 (lK_trans L1.2.2.2.1 g6.2.1)).2.1 ((M0 cc 0).toNat + 1) (by omega)).2.1, u3b]
  rw [j2, u3b, if_neg (by omega), x7, if_pos ⟨by omega, by omega, k36⟩] at q5
  -- its last one
  obtain ⟨p1, p2, p3, p4, p5, p6⟩ := hA1 (M5 cc 0).toNat (by omega) (by omega)
  obtain ⟨y1, y2, y3⟩ := g7.2.1.2.1 (M5 cc 0).toNat (by omega)
  rw [y2, u6b, if_neg (by omega), x7, if_neg (by rw [u6b]; omega), u62] at p5
  refine ⟨c1, nd_6 h7 ⟨?_, ?_, ?_, ?_, ?_, ?_, (M5 cc 0).toNat, ?_, ?_, ?_, ?_, ?_⟩⟩
  · rw [c2, i3 7 (by omega) (by omega) (by omega), (u267 _).1, m1 _ _ (by omega), h7i]; omega
  · rw [a1, i3 1 (by omega) (by omega) (by omega), u21]
  · rw [q6]
    refine bgl_0 ?_
    rw [j3 7 (by omega) (by omega) (by omega), (u367 _).1, (u267 _).1]
    exact s1.2.2.2.2.2.2.2.1 _ (by omega) (by omega)
  · rw [q1, j3 1 (by omega) (by omega) (by omega), u31]
  · rw [q5]; omega
  · rw [q2, j3 3 (by omega) (by omega) (by omega), u33]
  · have A := kid_P (tgt := tgt) (tgt1 := fun l => if l = M0 96 10 + 1 then (M7 cc 0).toNat else tgt l) (G1 := (G.1, G.2.1, G.2.2.1, G.2.2.2.1, some ((M7 cc 0).toNat, G.1.length))) L1 (by omega) (by omega) hi3.1 K57 hA1 (kid_C L1 w4 K57 V57 (by omega) hC1) hH1 (kid_H L1 (by omega) K57 hH2) (fun t t1 t2 => by
      rcases lay_lab (L := M0 96 10 + 1) L1 (fun l hl => by
        by_cases q : l ≤ d
        · rw [lw_pl hcc w4.1 q (by omega) 4]
          have := hs0.1.2.2.2.1 l q
          omega
        · have e : l = d + 1 := by omega
          subst e
          omega) (by omega) t1 t2 with q | q
      · by_cases q' : M5 102 t = M0 96 10 + 1
        · refine Or.inr (Or.inl ⟨by omega, by omega, ?_⟩)
          rw [if_pos q', x7, if_pos ⟨by omega, by omega, by rw [(g6.2.1.2.1 t t2).2.1]; exact q'⟩]
          omega
        · refine Or.inl ⟨by omega, ?_⟩
          rw [if_neg q']
      · exact Or.inr (Or.inr q)) (fun t t1 t2 q => by
        rw [x7, if_neg (by rw [(g6.2.1.2.1 t t2).2.1]; omega), c6X t t2]) (by
      obtain ⟨z1, z2, z3, z4, z5⟩ := hG1
      unfold gG
      rw [h40, h41, h42, h43]
      refine ⟨gR_in hcc hd hs0 w4.1 w4.2.1 (fun _ _ => rfl) (fun l hl => if_neg (by omega)) z1, z2, z3, z4, Or.inr ⟨by omega, G.1.length, 0, ?_, rfl, ?_⟩⟩
      · dsimp only
        rw [hc44, if_pos rfl]
      · exact hc45.symm)
    have z4z : M4 (cc + 7) (M4 cc 0).toNat = 0 := by
      rw [hp4 _ _ (by omega), (u367 _).1]
      exact s2.2.2.2.2.2.2.2.1 _ (by omega) (by omega)
    rw [z4z, f0, show (M0 cc 0 + 2).toNat = (M0 cc 0).toNat + 2 by omega] at A
    exact A
  · rw [p6]
    refine bgl_0 ?_
    rw [y3 7 (by omega) (by omega) (by omega), (u667 _).1]
    exact L1.2.2.2.2.2.2.2.2.1 _ (by omega) (by omega)
  · rw [p1, y3 1 (by omega) (by omega) (by omega), u61]
  · rw [p5]; omega
  · omega
end LpA
