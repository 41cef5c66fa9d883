/-! breaks and returns are laid -/
section LvA
variable {cc d e b i N n n' r o : Nat} {P M M' M0 M1 M2 M3 MB Mc Me : yM} {op x y z nd gd lb v L L1 p u : Int} {tgt tgt1 : Int → Nat} {k : Nat → Nat → Int} {bg : Nat → List Nat} {ch : Nat → List (Int × Int)} {H H1 : Int → List (Int × Int)} {G G1 : aC} {ly : yM → Int → Int → Option yM}
theorem gR_gdr : ∀ (gs : List aG) (x : Int), gR M tgt H x gs → gdr M gs.length x (-1)
  | [], _, h => h
  | _ :: gs, x, h => ⟨h.1, gR_gdr gs _ h.2.2.2.2.2⟩
theorem S_51 (hcc : pC cc) (hN : 1000 ≤ N) (hd : d < 90) (hA : pA P) (hb : beg cc P d n M0 MB) (ih : ihL cc P r d ly) (h7 : P 7 n = 7) (he : f_51 N ly cc MB (n : Int) (d : Int) = some M') (h0 : M' cc 1 = 0) : lay cc P (r + 1) d n M0 M' := by
  obtain ⟨hs0, hn, hs, hg, hD⟩ := hb
  have hr := cc_rg hcc
  have hW0 := hs0.1.2.1.1
  have hn7 := nd_lt hA hn
  obtain ⟨d1, d2, d3, d4, d5⟩ := hD.1
  have hI0 := hs0.2
  have hi1 := hI0.1
  have hi2 := hI0.2.1
  have hi3 := hI0.2.2.1
  have hi4 := hI0.2.2.2.1
  have hgd := hs0.1.2.2.2.1 d (Nat.le_refl d)
  have pl : ∀ j, MB (105 + d) j = M0 (105 + d) j := fun j => lw_pl hcc hg.1 (Nat.le_refl d) (by omega) j
  have pl0 := pl 0
  have pl5 := pl 5
  have hlab : 0 < M0 (105 + d) 4 := hn.2.2.2.2.1 ((hA.2.2.2.2.2.2 n hn.1 hn.2.2.1).1 h7)
  unfold f_51 f_65 at he
  rw [ylet_eq, pz_d (by omega), pl5, pl0] at he
  obtain ⟨M1, e1, v1, W1⟩ := lT_65_9 (N := N) (u := M0 (105 + d) 5) hcc hN hd ih.1 N (M := MB) (r3 := 105 + d) (x4 := M0 (105 + d) 0) (x5 := 90) (by omega) (by omega) (by omega) hs.1.2.1
  rw [e1] at he
  have he : ylet (f_46 cc M1 (M1 (105 + d) 4) 6 0 (n : Int) (M1 (105 + d) 5)) (fun t2 => some t2) = some M' := he
  have q1 : ∀ j, M1 (105 + d) j = M0 (105 + d) j := fun j => (lw_pl hcc v1 (Nat.le_refl d) (by omega) j).trans (pl j)
  rw [ylet_eq, e_46 hcc, q1 4, q1 5] at he
  have he := Option.some.inj he
  have hQ2 : lQ cc d M1 M' := by rw [← he]; exact lQ_eM hcc
  obtain ⟨v2, W2⟩ := hQ2 W1
  have t1 := lw_tl v2 h0
  obtain ⟨s1, b1, g1, x1, n1, p1, w1⟩ := wy_ok (N := N) (u := M0 (105 + d) 5) hcc hN hd hA hs0 hn ih (by omega) N MB M1 (M0 (105 + d) 0) 90 hs (bs_0 (P := P) (n := n) hcc hD hg) (by
    by_cases q : M0 (105 + d) 0 = -1
    · exact Or.inl q
    · refine Or.inr ⟨by omega, ?_⟩
      rw [pl0]
      have e : M0 (105 + d) 0 = (((M0 (105 + d) 0).toNat : Nat) : Int) := by omega
      exact ⟨0, e⟩) (fun q => by
      rw [(hg.2.1.2.2.2.2.1 (M0 (105 + d) 0).toNat (by omega)).2.2]
      have := hgd.2.2.2.2.2.1 q
      omega) (by omega) (by omega) (by omega) e1 t1
  have hc1 := g1.2.1.1
  have hb1 := b1.1.2.1.1
  obtain ⟨s2, g2, D2⟩ := em hcc (by omega) s1 he h0 ⟨⟨by decide, by decide⟩, w2_6 (by decide), fun _ => by have := W1.1; omega, fun q => by omega, fun q => by omega, fun q => by omega, fun _ => ⟨by omega, hn.1⟩, by omega, by omega, fun _ => Or.inr rfl⟩
  have hW1 := W1.1
  have b2 := bs_em b1 g2 D2 (Or.inr (Or.inl ⟨d, Nat.le_refl d, rfl⟩)) (by omega)
  obtain ⟨⟨c1, c2, c3, c4, c5, c6⟩, cX, ⟨ua, ub, u1, u2, u3, u4, u5⟩, u67, u8, uc, up⟩ := id D2
  obtain ⟨m1, m2, m3, m4, m5⟩ := n1
  have hTT := tT_s (x := M1 cc 0)
  rw [d1] at m5
  refine ⟨b2.1.1, W2, lI_b s2.2 (by omega) (by omega) (by omega), b2.1.2.1, b2.2.1, b2.2.2.1, b2.1.2.2, ⟨by omega, by omega, by omega, by omega, by rw [c2, hTT]; omega⟩, lE_em s1.2 D2, b2.2.2.2, ?_⟩
  intro tgt k bg ch H G hA1 hC1 hH1 hH2 hG1
  obtain ⟨k1, k2, k3, k4, k5⟩ := hG1
  rcases k5 with ⟨k6, -⟩ | ⟨k6, lg, kk, k7, k8, k9⟩
  · omega
  have hW2 := W2.1
  have K0 : lK cc MB M' := lK_trans g1.2.1 g2.2.1
  obtain ⟨-, -, -, -, -, q6⟩ := hA1 (M0 cc 0).toNat (by omega) (by omega)
  obtain ⟨c1', c2', c3'⟩ := bg_at hs0.2 (by omega) hW0.1 hD K0 (by omega) s2.2 q6
  have hRB : gR MB tgt H (M0 (105 + d) 0) G.1 := gR_in hcc hd hs0 hg.1 hg.2.1 (fun _ _ => rfl) (fun _ _ => rfl) k1
  have hDB : gdr MB kk (M0 (105 + d) 0) (M0 (105 + d) 5) := gdr_eq (lI_gD hI0) (fun z hz => (hg.2.1.2.2.2.2.1 z hz).2.1) kk _ (by omega) k9
  have W := w1 M' tgt k bg ch H G.1 kk g2.2.1 cX g2.2.2 ⟨by omega, by omega⟩ hA1 hC1 hH1 hH2 hRB hDB
  have h7i := (hD.2.2.1 (by omega)).1
  have hz0 := (hI0.2.2.2.2.2.1 (M0 cc 0).toNat (by omega) (by omega)).1
  rw [d1, h7i, show (M0 (105 + d) 1).toNat = G.2.1 by omega, show (M0 (105 + d) 2).toNat = G.2.2.1 by omega, show (M0 (cc + 7) (M0 cc 0).toNat + 1).toNat = (M0 (cc + 7) (M0 cc 0).toNat).toNat + 1 by omega] at W
  obtain ⟨a1, a2, a3, a4, a5, a6⟩ := hA1 (M1 cc 0).toNat (by omega) (by omega)
  refine ⟨c1', nd_7 h7 ⟨tgt (M0 (105 + d) 4), lg, k7, ?_⟩⟩
  rw [← List.take_append_drop kk G.1]
  refine wy_wb (by rw [List.length_drop]; omega) ?_ (by rw [a1, u1]) (by rw [a5, ub, if_pos ⟨hlab, by omega⟩]) _ _ _ W
  rw [a6]
  unfold bgl
  rw [List.length_map, List.length_range, (u67 _).1]
theorem S_60 (hcc : pC cc) (hN : 1000 ≤ N) (hd : d < 90) (hA : pA P) (hb : beg cc P d n M0 MB) (ih : ihL cc P r d ly) (h7 : P 7 n = 8) (he : f_60 N ly cc MB (n : Int) (d : Int) = some M') (h0 : M' cc 1 = 0) : lay cc P (r + 1) d n M0 M' := by
  obtain ⟨hs0, hn, hs, hg, hD⟩ := hb
  have hr := cc_rg hcc
  have hW0 := hs0.1.2.1.1
  have hn7 := nd_lt hA hn
  obtain ⟨d1, d2, d3, d4, d5⟩ := hD.1
  have hI0 := hs0.2
  have hi1 := hI0.1
  have hi2 := hI0.2.1
  have hi3 := hI0.2.2.1
  have hi4 := hI0.2.2.2.1
  have hgd := hs0.1.2.2.2.1 d (Nat.le_refl d)
  have ob := (hA.2.2.2.1 n hn.1).2.2.1 (Or.inr h7)
  have pl : ∀ j, MB (105 + d) j = M0 (105 + d) j := fun j => lw_pl hcc hg.1 (Nat.le_refl d) (by omega) j
  have pl0 := pl 0
  have pl2 := pl 2
  unfold f_60 f_65 at he
  rw [ylet_eq, pz_d (by omega), pl0, pl2, rd_P hs.1.1 ⟨by omega, by omega⟩ hn7, e_45 hcc, ylet_eq] at he
  generalize hM1 : eM cc MB 7 (P 9 n) (M0 (105 + d) 2) 0 (n : Int) (M0 (105 + d) 0) 0 = M1 at he
  have hQ1 : lQ cc d MB M1 := by rw [← hM1]; exact lQ_eM hcc
  obtain ⟨v1, W1⟩ := hQ1 hs.1.2.1
  have q1 : ∀ j, M1 (105 + d) j = M0 (105 + d) j := fun j => (lw_pl hcc v1 (Nat.le_refl d) (by omega) j).trans (pl j)
  rw [q1 0] at he
  obtain ⟨M2, e2, v2, W2⟩ := lT_65_9 (N := N) (u := -1) hcc hN hd ih.1 N (M := M1) (r3 := 105 + d) (x4 := M0 (105 + d) 0) (x5 := 90) (by omega) (by omega) (by omega) W1
  rw [e2] at he
  have he : ylet (f_45 cc M2 8 (M2 (105 + d) 2) 0 0 (n : Int) (-1)) (fun t3 => some t3) = some M' := he
  have q2 : ∀ j, M2 (105 + d) j = M0 (105 + d) j := fun j => (lw_pl hcc v2 (Nat.le_refl d) (by omega) j).trans (q1 j)
  rw [ylet_eq, e_45 hcc, q2 2] at he
  have he := Option.some.inj he
  have hQ3 : lQ cc d M2 M' := by rw [← he]; exact lQ_eM hcc
  obtain ⟨v3, W3⟩ := hQ3 W2
  have t2 := lw_tl v3 h0
  have t1 := lw_tl v2 t2
  obtain ⟨s1, g1, D1⟩ := em hcc (by omega) hs hM1 t1 ⟨⟨by decide, by decide⟩, w2_7 ⟨ob, by omega, by omega⟩, fun q => by omega, fun q => by omega, fun q => by omega, fun q => by omega, fun _ => ⟨by omega, hn.1⟩, by omega, by omega, fun q => absurd q (by decide)⟩
  have b1 := bs_em (bs_0 (P := P) (n := n) hcc hD hg) g1 D1 (Or.inl rfl) (by omega)
  obtain ⟨⟨y1, y2, y3, y4, y5, y6⟩, yX, ⟨wa, wb, x1, x2, x3, x4, x5⟩, x67, x8, xc, xp⟩ := id D1
  obtain ⟨s2, b2, g2, z2, n2, p2, w2⟩ := wy_ok (N := N) (u := -1) hcc hN hd hA hs0 hn ih (by omega) N M1 M2 (M0 (105 + d) 0) 90 s1 b1 (by
    by_cases q : M0 (105 + d) 0 = -1
    · exact Or.inl q
    · refine Or.inr ⟨by omega, ?_⟩
      rw [q1 0]
      have e : M0 (105 + d) 0 = (((M0 (105 + d) 0).toNat : Nat) : Int) := by omega
      exact ⟨0, e⟩) (fun q => by
      rw [(b1.1.2.1.2.2.2.2.1 (M0 (105 + d) 0).toNat (by omega)).2.2]
      have := hgd.2.2.2.2.2.1 q
      omega) (by omega) (by omega) (by omega) e2 t2
  have hc2 := g2.2.1.1
  have hW2 := W2.1
  have hW3 := W3.1
  obtain ⟨s3, g3, D3⟩ := em hcc (by omega) s2 he h0 ⟨⟨by decide, by decide⟩, w2_8 (by omega), fun q => by omega, fun q => by omega, fun q => by omega, fun q => by omega, fun _ => ⟨by omega, hn.1⟩, by omega, by omega, fun q => absurd q (by decide)⟩
  have b3 := bs_em b2 g3 D3 (Or.inl rfl) (by omega)
  obtain ⟨⟨c1, c2, c3, c4, c5, c6⟩, cX, ⟨ua, ub, u1, u2, u3, u4, u5⟩, u67, u8, uc, up⟩ := id D3
  obtain ⟨m1, m2, m3, m4, m5⟩ := n2
  have hTT := tT_s (x := M2 cc 0)
  have hT0 := tT_s (x := M0 cc 0)
  rw [y2, d1, hT0] at m5
  refine ⟨b3.1.1, W3, lI_b s3.2 (by omega) (by omega) (by omega), b3.1.2.1, b3.2.1, b3.2.2.1, b3.1.2.2, ⟨by omega, by omega, by omega, by omega, by rw [c2, hTT]; omega⟩, lE_em s2.2 D3, b3.2.2.2, ?_⟩
  intro tgt k bg ch H G hA1 hC1 hH1 hH2 hG1
  obtain ⟨k1, k2, k3, k4, k5⟩ := hG1
  have K1 : lK cc M1 M' := lK_trans g2.2.1 g3.2.1
  obtain ⟨i1, i2, i3⟩ := K1.2.1 (M0 cc 0).toNat (by omega)
  obtain ⟨f1, f2, f3, f4, f5, f6⟩ := hA1 (M0 cc 0).toNat (by omega) (by omega)
  rw [d1] at wb x1 x2 x3
  obtain ⟨c1', c2', c3'⟩ := bg_at hs0.2 (by omega) hW0.1 hD (lK_trans g1.2.1 K1) (by omega) s3.2 f6
  have hRB : gR M1 tgt H (M0 (105 + d) 0) G.1 := gR_in hcc hd hs0 b1.1.1 b1.1.2.1 (fun _ _ => rfl) (fun _ _ => rfl) k1
  have W := w2 M' tgt k bg ch H G.1 G.1.length g3.2.1 cX g3.2.2 ⟨by omega, by omega⟩ hA1 hC1 hH1 hH2 hRB (gR_gdr _ _ hRB)
  have h7i := (hD.2.2.1 (by omega)).1
  have hz0 := (hI0.2.2.2.2.2.1 (M0 cc 0).toNat (by omega) (by omega)).1
  have zz : M1 (cc + 7) (M0 cc 0 + 1).toNat = 0 := by
    rw [(x67 _).1]
    exact hs.2.2.2.2.2.2.2.1 _ (by omega) (by omega)
  rw [y2, d1, zz, List.drop_length, List.take_length, show (M0 (105 + d) 1).toNat = G.2.1 by omega, show (M0 (105 + d) 2).toNat = G.2.2.1 by omega, show (M0 cc 0 + 1).toNat = (M0 cc 0).toNat + 1 by omega] at W
  obtain ⟨a1, a2, a3, a4, a5, a6⟩ := hA1 (M2 cc 0).toNat (by omega) (by omega)
  refine ⟨c1', nd_8 h7 ⟨?_, ?_, ?_, ?_, ?_⟩⟩
  · rw [c2', i3 7 (by omega) (by omega) (by omega), (x67 _).1, h7i]; omega
  · rw [f1, i3 1 (by omega) (by omega) (by omega), x1]
  · rw [f5, i2, wb, if_neg (by omega), cX _ (by omega), z2 _ (by omega), x2]
  · rw [f2, i3 3 (by omega) (by omega) (by omega), x3]; omega
  · refine wy_wo ?_ (by rw [a1, u1]) (by rw [a5, ub, if_neg (by omega), u2]; omega) _ _ _ W
    rw [a6]
    unfold bgl
    rw [List.length_map, List.length_range, (u67 _).1]
end LvA
