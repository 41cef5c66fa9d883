/-! sequences, branches, loops are laid -/
section SqA
variable {cc d e b i N n n' r o : Nat} {P M M' M0 M1 M2 M3 MB Mc Me : yM} {op x y z nd gd lb v L L1 p u : Int} {tgt tgt1 : Int → Nat} {k : Nat → Nat → Int} {bg : Nat → List Nat} {ch : Nat → List (Int × Int)} {H H1 : Int → List (Int × Int)} {G G1 : aC} {ly : yM → Int → Int → Option yM}
theorem cpy_K (hcc : pC cc) (hd : d < 90) (hc : cpy d M0 M) (hw : lw cc (d + 1) M M') : cpy d M0 M' := fun j hj => (lw_pl hcc hw (Nat.le_refl (d + 1)) (by omega) j).trans (hc j hj)
theorem cpy_pD (hc : cpy d M0 M) (hp : ∀ j, j < 6 → M' (105 + (d + 1)) j = M (105 + (d + 1)) j) : cpy d M0 M' := fun j hj => (hp j hj).trans (hc j hj)
theorem cp_lab (hcc : pC cc) (hd : d < 90) (hs : sO cc P d b M0) (hw : lw cc d M0 M) (hc : cpy d M0 M) : ∀ l, l ≤ d + 1 → M (105 + l) 4 ≤ M0 96 10 := fun l hl => by
  by_cases q : l ≤ d
  · rw [lw_pl hcc hw q (by omega) 4]
    have := hs.1.2.2.2.1 l q
    omega
  · have e : l = d + 1 := by omega
    subst e
    rw [hc 4 (by omega)]
    have := hs.1.2.2.2.1 d (Nat.le_refl d)
    omega
theorem cp_nB (hA : pA P) (hcc : pC cc) (hd : d < 90) (hs : sO cc P d b M0) (hn : nB P d n M0) (hw : lw cc d M0 M) (hK : lK cc M0 M) (hp : prt P n p) (h6 : P 7 n ≠ 6) (h12 : P 7 n ≠ 12) (hc : cpy d M0 M) : nB P (d + 1) p.toNat M := by
  obtain ⟨d1, d2, d3⟩ := hA.2.2.2.2.2.1 p.toNat n (by have := hp.1; have := hp.2.1; have := hn.1; omega) hp.2.2.1
  rw [if_neg (fun q => h12 q.1)] at d2
  rw [if_neg h6] at d3
  have hnR := hn.2.2.2.2
  refine kid_nB hA hcc hd hs hn hw hK ⟨hp.1, hp.2.1, hp.2.2.1⟩ hp.2.2.2 (hc 0 (by omega)) (fun q => ?_) (fun q => ?_)
  · rw [hc 3 (by omega), hc 1 (by omega)]
    exact hnR.2 (by rw [← d2]; exact q)
  · rw [hc 4 (by omega)]
    exact hnR.1 (by rw [← d3]; exact q)
theorem S_4 (hcc : pC cc) (hd : d < 90) (hA : pA P) (hb : beg cc P d n M0 MB) (ih : ihL cc P r d ly) (h7 : P 7 n = 4) (he : (ylet (f_47 MB (d : Int)) fun t6 => (Option.bind (ly t6 (yrd t6 9 (n : Int)) ((d : Int) + 1)) fun M7 => (Option.bind (ly M7 (yrd M7 10 (n : Int)) ((d : Int) + 1)) fun M8 => some M8))) = some M') (h0 : M' cc 1 = 0) : lay cc P (r + 1) d n M0 M' := by
  obtain ⟨hs0, hn, hs, hg, hD⟩ := hb
  have hW0 := hs0.1.2.1.1
  have hn7 := nd_lt hA hn
  obtain ⟨ob, oc, obc⟩ := (hA.2.2.2.1 n hn.1).2.2.2.1 h7
  obtain ⟨d1, d2, d3, d4, d5⟩ := hD.1
  have ebc : ∀ q : Int, 0 ≤ q → ((q.toNat : Nat) : Int) = q := fun q hq => Int.toNat_of_nonneg hq
  rw [ylet_eq] at he
  obtain ⟨hp1, hc1⟩ := cp_47 (M := MB) hd hg.1 hcc
  obtain ⟨s1, g1, x1⟩ := pl_ok hcc hd hs hp1
  generalize f_47 MB (d : Int) = M1 at he hp1 hc1 s1 g1 x1
  have q1 := qt_pl g1 x1 hp1 hcc
  have w1 := sg_trans hg g1
  have b1 := bs_qt (bs_0 (P := P) (n := n) hcc hD hg) q1
  have k1 := kid_cp hd hcc s1 w1.1 hc1
  have n1 := cp_nB hA hcc hd hs0 hn w1.1 w1.2.1 ob (by omega) (by omega) hc1
  obtain ⟨M2, e2, v2, W2⟩ := lT_ly ih.1 (x := yrd M1 9 (n : Int)) s1.1.2.1
  rw [e2] at he
  obtain ⟨M3, e3, v3, W3⟩ := lT_ly ih.1 (M := M2) (x := yrd M2 10 (n : Int)) W2
  have he : Option.bind (ly M2 (yrd M2 10 (n : Int)) ((d : Int) + 1)) (fun M8 => some M8) = some M' := he
  rw [e3] at he
  have em : M3 = M' := Option.some.inj he
  subst em
  have t2 := lw_tl v3 h0
  rw [rd_P s1.1.1 ⟨by omega, by omega⟩ hn7] at e2
  have L1 := ih.2 M1 (P 9 n).toNat M2 k1 n1 (by rw [ebc _ ob.1]; exact e2) t2
  obtain ⟨k2, s2⟩ := lay_out hcc hd s1 k1 L1 t2
  have w2 := sg_trans w1 (sg_mono (Nat.le_succ d) ⟨L1.1, L1.2.2.2.1, L1.2.2.2.2.2.2.1⟩)
  have hc2 := cpy_K hcc hd hc1 L1.1
  have n2 := cp_nB hA hcc hd hs0 hn w2.1 w2.2.1 oc (by omega) (by omega) hc2
  rw [rd_P s2.1.1 ⟨by omega, by omega⟩ hn7] at e3
  have L2 := ih.2 M2 (P 10 n).toNat M3 k2 n2 (by rw [ebc _ oc.1]; exact e3) h0
  have b2 := bs_lay hd b1 L1 (Or.inl ⟨d, Nat.le_refl d, (hc1 4 (by omega)).symm⟩) hcc (fun c hc => kid_sf hcc hd hs0 w1.1 w1.2.1 ob.2.2.1 (hc1 0 (by omega)) hc)
  have b3 := bs_lay hd b2 L2 (Or.inl ⟨d, Nat.le_refl d, (hc2 4 (by omega)).symm⟩) hcc (fun c hc => kid_sf hcc hd hs0 w2.1 w2.2.1 oc.2.2.1 (hc2 0 (by omega)) hc)
  have f0 : M1 cc 0 = M0 cc 0 := q1.2.2.1.trans d1
  have hr := cc_rg hcc
  have f10 : M1 cc 10 = M0 cc 10 + 1 := (hp1 _ _ (by omega)).trans d2
  have f7 : M1 96 7 = M0 96 7 := (hp1 _ _ (by omega)).trans d3
  have l10 : M1 96 10 = M0 96 10 := (hp1 _ _ (by omega)).trans d4
  have r1 : M1 21 1 = M0 21 1 := (hp1 _ _ (by omega)).trans d5
  have hI0 := hs0.2
  have hi1 := hI0.1
  have hi2 := hI0.2.1
  have hi3 := hI0.2.2.1
  have hi4 := hI0.2.2.2.1
  obtain ⟨n11, n12, n13, n14, n15⟩ := L1.2.2.2.2.2.2.2.1
  obtain ⟨n21, n22, n23, n24, n25⟩ := L2.2.2.2.2.2.2.2.1
  rw [f0] at n11 n12 n13 n14 n15
  refine ⟨b3.1.1, W3, lI_b L2.2.2.1 (by omega) (by omega) (by omega), b3.1.2.1, b3.2.1, b3.2.2.1, b3.1.2.2, ⟨by omega, by omega, by omega, by omega, by omega⟩, L2.2.2.2.2.2.2.2.2.1, b3.2.2.2, ?_⟩
  intro tgt k bg ch H G hA1 hC1 hH1 hH2 hG1
  have K2 := L2.2.2.2.1
  have cK2 := w2.2.1.1
  have hIe := L2.2.2.1
  obtain ⟨-, -, -, -, -, q6⟩ := hA1 (M0 cc 0).toNat (by omega) (by omega)
  have hl3 := W3.1
  obtain ⟨c1, c2, c3⟩ := bg_at hs0.2 (by omega) hW0.1 hD (lK_trans g1.2.1 (lK_trans L1.2.2.2.1 K2)) (by omega) hIe q6
  have z2 : M2 (cc + 7) (M2 cc 0).toNat = 0 := L1.2.2.2.2.2.2.2.2.1 _ (by omega) (by omega)
  have z1 : M1 (cc + 7) (M0 cc 0).toNat = M0 (cc + 7) (M0 cc 0).toNat + 1 := by
    rw [hp1 _ _ (by omega)]
    exact (hD.2.2.1 (by omega)).1
  have hz0 := (hI0.2.2.2.2.2.1 (M0 cc 0).toNat (by omega) (by omega)).1
  refine ⟨c1, nd_4 h7 ⟨(M2 cc 0).toNat, ?_, ?_⟩⟩
  · have A := kid_P (tgt1 := tgt) (G1 := G) L1 (by omega) (by omega) hi3.1 K2 hA1 (kid_C L1 w1 K2 L2.2.2.2.2.2.2.1 (by omega) hC1) hH1 (kid_H L1 (by omega) K2 hH2) (fun t t1 t2 => by
      rcases lay_lab L1 (cp_lab hcc hd hs0 w1.1 hc1) hi3.1 t1 t2 with q | q
      · exact Or.inl ⟨q, rfl⟩
      · exact Or.inr (Or.inr q)) (fun t t1 t2 _ => L2.2.2.2.2.1 t t2) (kid_gG hcc hd hs0 w1.1 w1.2.1 hc1 (fun _ _ => rfl) (fun _ _ => rfl) hG1)
    rw [f0, z1, show (M0 (cc + 7) (M0 cc 0).toNat + 1).toNat = (M0 (cc + 7) (M0 cc 0).toNat).toNat + 1 by omega] at A
    exact A
  · have A := kid_P (tgt1 := tgt) (G1 := G) L2 (by omega) (by omega) hi3.1 lK_refl hA1 (kid_C L2 w2 lK_refl (fun r r1 r2 => absurd r2 (by omega)) (by omega) hC1) hH1 (kid_H L2 (by omega) lK_refl hH2) (fun t t1 t2 => by
      rcases lay_lab L2 (cp_lab hcc hd hs0 w2.1 hc2) hi3.1 t1 t2 with q | q
      · exact Or.inl ⟨q, rfl⟩
      · exact Or.inr (Or.inr q)) (fun t t1 t2 _ => rfl) (kid_gG hcc hd hs0 w2.1 w2.2.1 hc2 (fun _ _ => rfl) (fun _ _ => rfl) hG1)
    rw [z2] at A
    exact A
theorem bgl_0 {t : Nat} (h : M (cc + 7) t = 0) : bgl cc M t = [] := by
  unfold bgl
  rw [h]; rfl
theorem S_57 (hcc : pC cc) (hN : 1000 ≤ N) (hd : d < 90) (hA : pA P) (hb : beg cc P d n M0 MB) (ih : ihL cc P r d ly) (h7 : P 7 n = 5) (he : f_57 N ly cc MB (n : Int) (d : Int) = some M') (h0 : M' cc 1 = 0) : lay cc P (r + 1) d n M0 M' := by
  obtain ⟨hs0, hn, hs, hg, hD⟩ := hb
  have hr := cc_rg hcc
  have hW0 := hs0.1.2.1.1
  have hn7 := nd_lt hA hn
  obtain ⟨oa, ob, oc, obc⟩ := (hA.2.2.2.1 n hn.1).2.2.2.2.1 h7
  obtain ⟨d1, d2, d3, d4, d5⟩ := hD.1
  have ebc : ∀ q : Int, 0 ≤ q → ((q.toNat : Nat) : Int) = q := fun q hq => Int.toNat_of_nonneg hq
  have hI0 := hs0.2
  have hi1 := hI0.1
  have hi2 := hI0.2.1
  have hi3 := hI0.2.2.1
  have hi4 := hI0.2.2.2.1
  have hgd := hs0.1.2.2.2.1 d (Nat.le_refl d)
  have hgd0 : MB (105 + d) 0 = M0 (105 + d) 0 := lw_pl hcc hg.1 (Nat.le_refl d) (by omega) 0
  have hTT := tT_s (x := M0 cc 0)
  unfold f_57 at he
  rw [ylet_eq, ylet_eq, ylet_eq, ylet_eq, ylet_eq, f67, pz_d (by omega), hgd0, d1] at he
  dsimp only at he
  -- a label
  obtain ⟨s1, g1, x1⟩ := nlb hcc (by omega) hs (by omega)
  have q1 := qt_nl g1 x1 hcc
  have l1 : yU MB 96 10 (MB 96 10 + 1) 96 10 = M0 96 10 + 1 := by rw [yU_at, d4]
  have m1 : ∀ a j, (a ≠ 96 ∨ j ≠ 10) → yU MB 96 10 (MB 96 10 + 1) a j = MB a j := fun a j q => yU_ne (by omega)
  rw [d4] at he
  rw [d4] at s1 g1 x1 q1 l1 m1
  generalize yU MB 96 10 (M0 96 10 + 1) = M1 at he s1 g1 x1 q1 l1 m1
  have w1 := sg_trans hg g1
  have b1 := bs_qt (bs_0 (P := P) (n := n) hcc hD hg) q1
  rw [rd_P s1.1.1 ⟨by omega, by omega⟩ hn7, rd_P hs.1.1 ⟨by omega, by omega⟩ hn7, ylet_eq, e_46 hcc] at he
  have z10 : M1 cc 0 = M0 cc 0 := (m1 _ _ (by omega)).trans d1
  have z110 : M1 cc 10 = M0 cc 10 + 1 := (m1 _ _ (by omega)).trans d2
  have z17 : M1 96 7 = M0 96 7 := (m1 _ _ (by omega)).trans d3
  have z1r : M1 21 1 = M0 21 1 := (m1 _ _ (by omega)).trans d5
  -- the branch
  generalize hM2 : eM cc M1 5 0 (P 8 n) 0 (n : Int) (M0 (105 + d) 0) (M0 96 10 + 1) = M2 at he
  have hQ2 : lQ cc d M1 M2 := by rw [← hM2]; exact lQ_eM hcc
  obtain ⟨v2, W2⟩ := hQ2 s1.1.2.1
  -- the place
  rw [ylet_eq] at he
  have hQ3 : lQ cc d M2 (f_47 M2 (d : Int)) := lQ_47 hcc hd
  obtain ⟨v3, W3⟩ := hQ3 W2
  obtain ⟨hp3, hc3'⟩ := cp_47 (M := M2) hd (lw_trans w1.1 v2) hcc
  generalize f_47 M2 (d : Int) = M3 at he v3 W3 hp3 hc3'
  obtain ⟨M4, e4, v4, W4⟩ := lT_ly ih.1 (x := yrd M3 9 (n : Int)) W3
  rw [e4] at he
  have he : cond (yrel 1 (P 10 n) (-1)) (ylet (f_67 M4) fun t10 => ylet t10.2 fun v11 => ylet (f_46 cc t10.1 v11 6 0 (n : Int) (M0 (105 + d) 0)) fun t12 => Option.bind (f_69 N cc t12 (M0 96 10 + 1) (M0 cc 0)) fun t13 => Option.bind (ly t13 (P 10 n) ((d : Int) + 1)) fun M14 => Option.bind (f_69 N cc M14 v11 (M0 cc 0)) fun t15 => some t15) (Option.bind (f_69 N cc M4 (M0 96 10 + 1) (M0 cc 0)) fun t16 => some t16) = some M' := he
  -- all is known once M4 is
  have key : M4 cc 1 = 0 → (sO cc P d (d + 1) M2 ∧ sg cc d M1 M2 ∧ eD cc M1 M2 5 0 (P 8 n) 0 (n : Int) (M0 (105 + d) 0) (M0 96 10 + 1)) ∧ sg cc d M0 M3 ∧ sO cc P d (d + 1) M3 ∧ lX cc M2 M3 ∧ lay cc P r (d + 1) (P 9 n).toNat M3 M4 := by
    intro t4
    have t3 := lw_tl v4 t4
    have t2 := lw_tl v3 t3
    have E := em hcc (by omega) s1 hM2 t2 ⟨⟨by decide, by decide⟩, w2_5 ⟨by decide, oa⟩, fun _ => by omega, fun q => by omega, fun q => by omega, fun q => by omega, fun _ => ⟨by omega, hn.1⟩, by omega, by omega, fun _ => Or.inl rfl⟩
    obtain ⟨s3, g3, x3⟩ := pl_ok hcc hd E.1 hp3
    have w3 := sg_trans w1 (sg_trans E.2.1 g3)
    rw [rd_P s3.1.1 ⟨by omega, by omega⟩ hn7] at e4
    exact ⟨E, w3, s3, x3, ih.2 M3 (P 9 n).toNat M4 (kid_cp hd hcc s3 w3.1 hc3') (cp_nB hA hcc hd hs0 hn w3.1 w3.2.1 ob (by omega) (by omega) hc3') (by rw [ebc _ ob.1]; exact e4) t4⟩
  -- what holds up to M4
  have mid : M4 cc 1 = 0 → bs cc P d n M0 M4 ∧ (M3 cc 0 = M0 cc 0 + 1 ∧ M3 cc 10 = M0 cc 10 + 1 ∧ M3 96 7 = M0 96 7 ∧ M3 96 10 = M0 96 10 + 1 ∧ M3 21 1 = M0 21 1) ∧ (M4 102 (M0 cc 0).toNat = M0 96 10 + 1 ∧ M4 (cc + 1) (M0 cc 0).toNat = 5 ∧ M4 (cc + 3) (M0 cc 0).toNat = P 8 n ∧ M4 (cc + 7) (M0 cc 0).toNat = M0 (cc + 7) (M0 cc 0).toNat + 1) ∧ (M0 cc 0 + 1 < 300 → M3 (cc + 7) (M0 cc 0 + 1).toNat = 0) ∧ M0 cc 0 < 300 := by
    intro t4
    obtain ⟨E, w3, s3, x3, L1⟩ := key t4
    obtain ⟨⟨c1, c2, c3, c4, c5, c6⟩, e2, ⟨p101, p102, p1, p2, p3, p4, p5⟩, e67, -⟩ := id E.2.2
    have b2 := bs_em b1 E.2.1 E.2.2 (Or.inr (Or.inr (by omega))) (by omega)
    have b3 := bs_qt b2 (qt_pl (pl_ok hcc hd E.1 hp3).2.1 x3 hp3 hcc)
    have b4 := bs_lay hd b3 L1 (Or.inl ⟨d, Nat.le_refl d, (hc3' 4 (by omega)).symm⟩) hcc (fun c hc => kid_sf hcc hd hs0 w3.1 w3.2.1 ob.2.2.1 (hc3' 0 (by omega)) hc)
    have f0 : M3 cc 0 = M0 cc 0 + 1 := (hp3 _ _ (by omega)).trans (by omega)
    have K34 := L1.2.2.2.1
    obtain ⟨k1, k2, k3⟩ := K34.2.1 (M0 cc 0).toNat (by omega)
    rw [show (M1 cc 0).toNat = (M0 cc 0).toNat by omega] at p102 p1 p3
    refine ⟨b4, ⟨f0, (hp3 _ _ (by omega)).trans (by omega), (hp3 _ _ (by omega)).trans (by omega), (hp3 _ _ (by omega)).trans (by omega), (hp3 _ _ (by omega)).trans (by omega)⟩, ⟨?_, ?_, ?_, ?_⟩, fun hlt => ?_, by omega⟩
    · rw [k2, hp3 _ _ (by omega), p102]
    · rw [k3 1 (by omega) (by omega) (by omega), hp3 _ _ (by omega), p1]
    · rw [k3 3 (by omega) (by omega) (by omega), hp3 _ _ (by omega), p3]
    · rw [k3 7 (by omega) (by omega) (by omega), hp3 _ _ (by omega), (e67 _).1, m1 _ _ (by omega)]
      exact (hD.2.2.1 (by omega)).1
    · rw [hp3 _ _ (by omega), (e67 _).1]
      exact s1.2.2.2.2.2.2.2.1 _ (by omega) (by omega)
  by_cases hc : P 10 n = -1
  · rw [hc, show yrel 1 (-1) (-1) = false from rfl, cond_false] at he
    obtain ⟨M5, e5, v5, W5⟩ := lT_69 (cc := cc) (d := d) (N := N) (M := M4) (x1 := M0 96 10 + 1) (x2 := M0 cc 0) hcc hN hW0.1 hW0.2 W4
    rw [e5] at he
    have em : M5 = M' := Option.some.inj he
    subst em
    have t4 := lw_tl v5 h0
    obtain ⟨E, w3, s3, x3, L1⟩ := key t4
    obtain ⟨b4, ⟨f0, f10, f7, l10, r1⟩, ⟨p102, p1, p3, p7⟩, z3, hlt⟩ := mid t4
    obtain ⟨-, s4⟩ := lay_out hcc hd s3 (kid_cp hd hcc s3 w3.1 hc3') L1 t4
    have K34 := L1.2.2.2.1.1
    obtain ⟨s5, g5, o5, x5⟩ := stl hcc (by omega) hN (by omega) s4 ⟨by omega, by omega⟩ hW0.1 hW0.2 e5
    have b5 := bs_st b4 g5 o5 x5 (Int.le_refl _) hcc
    have z0 : M5 cc 0 = M4 cc 0 := o5 _ _ (by omega)
    have z10 : M5 cc 10 = M4 cc 10 := o5 _ _ (by omega)
    have z7 : M5 96 7 = M4 96 7 := o5 _ _ (by omega)
    have zl : M5 96 10 = M4 96 10 := o5 _ _ (by omega)
    have zr : M5 21 1 = M4 21 1 := o5 _ _ (by omega)
    obtain ⟨n11, n12, n13, n14, n15⟩ := L1.2.2.2.2.2.2.2.1
    have hT2 := tT_s (x := M0 cc 0)
    rw [f0, hT2] at n15
    refine ⟨b5.1.1, W5, lI_b s5.2 (by omega) (by omega) (by omega), b5.1.2.1, b5.2.1, b5.2.2.1, b5.1.2.2, ⟨by omega, by omega, by omega, by omega, by rw [z0]; omega⟩, lE_eq L1.2.2.2.2.2.2.2.2.1 z0 (fun t => o5 _ _ (by omega)), b5.2.2.2, ?_⟩
    intro tgt k bg ch H G hA1 hC1 hH1 hH2 hG1
    obtain ⟨a1, a2, a3, a4, a5, a6⟩ := hA1 (M0 cc 0).toNat (by omega) (by omega)
    have hW4 := W4.1
    rw [o5 102 _ (by omega), p102, if_neg (by omega), x5, if_pos ⟨by omega, by omega, p102⟩] at a5
    obtain ⟨c1, c2, c3⟩ := bg_at hs0.2 (by omega) hW0.1 hD (lK_trans g1.2.1 (lK_trans E.2.1.2.1 (lK_trans (pl_ok hcc hd E.1 hp3).2.1.2.1 (lK_trans L1.2.2.2.1 g5.2.1)))) (by omega) s5.2 a6
    have hz0 := (hI0.2.2.2.2.2.1 (M0 cc 0).toNat (by omega) (by omega)).1
    refine ⟨c1, nd_5 h7 ⟨?_, ?_, ?_, (M4 cc 0).toNat, ?_, ?_⟩⟩
    · rw [c2, o5 _ _ (by omega), p7]; omega
    · rw [a1, o5 _ _ (by omega), p1]
    · rw [a2, o5 _ _ (by omega), p3]
    · have A := kid_P (tgt1 := tgt) (G1 := G) L1 (by omega) (by omega) hi3.1 g5.2.1 hA1 (kid_C L1 w3 g5.2.1 (fun r r1 r2 => absurd r2 (by omega)) (by omega) hC1) hH1 (kid_H L1 (by omega) g5.2.1 hH2) (fun t t1 t2 => by
        rcases lay_lab L1 (cp_lab hcc hd hs0 w3.1 hc3') hi3.1 t1 t2 with q | q
        · exact Or.inl ⟨q, rfl⟩
        · exact Or.inr (Or.inr q)) (fun t t1 t2 q => by rw [x5, if_neg (by omega)]) (kid_gG hcc hd hs0 w3.1 w3.2.1 hc3' (fun _ _ => rfl) (fun _ _ => rfl) hG1)
      rw [f0, z3 (by omega), show (M0 cc 0 + 1).toNat = (M0 cc 0).toNat + 1 by omega] at A
      exact A
    · rw [if_pos hc]
      exact ⟨by omega, by rw [a5, z0]; omega⟩
  · have hpc : prt P n (P 10 n) := oc.resolve_left hc
    have hcr := hA.1
    rw [rel1 ⟨by have := hpc.1; omega, by have := hpc.2.1; have := hn.1; omega⟩ ⟨by decide, by decide⟩, decide_eq_false hc, show (!false) = true from rfl, cond_true, ylet_eq, ylet_eq, f67] at he
    dsimp only at he
    rw [ylet_eq, e_46 hcc] at he
    have hQ5 : lQ cc d M4 (yU M4 96 10 (M4 96 10 + 1)) := lQ_U hcc (by omega)
    obtain ⟨v5, W5⟩ := hQ5 W4
    have m5 : ∀ a j, (a ≠ 96 ∨ j ≠ 10) → yU M4 96 10 (M4 96 10 + 1) a j = M4 a j := fun a j q => yU_ne (by omega)
    have l5 : yU M4 96 10 (M4 96 10 + 1) 96 10 = M4 96 10 + 1 := yU_at
    generalize hM5 : yU M4 96 10 (M4 96 10 + 1) = M5 at he v5 W5 m5 l5
    generalize hM6 : eM cc M5 6 0 0 0 (n : Int) (M0 (105 + d) 0) (M4 96 10 + 1) = M6 at he
    have hQ6 : lQ cc d M5 M6 := by rw [← hM6]; exact lQ_eM hcc
    obtain ⟨v6, W6⟩ := hQ6 W5
    obtain ⟨M7, e7, v7, W7⟩ := lT_69 (cc := cc) (d := d) (N := N) (M := M6) (x1 := M0 96 10 + 1) (x2 := M0 cc 0) hcc hN hW0.1 hW0.2 W6
    rw [e7] at he
    have he : Option.bind (ly M7 (P 10 n) ((d : Int) + 1)) (fun M14 => Option.bind (f_69 N cc M14 (M4 96 10 + 1) (M0 cc 0)) fun t15 => some t15) = some M' := he
    obtain ⟨M8, e8, v8, W8⟩ := lT_ly ih.1 (x := P 10 n) W7
    rw [e8] at he
    have he : Option.bind (f_69 N cc M8 (M4 96 10 + 1) (M0 cc 0)) (fun t15 => some t15) = some M' := he
    obtain ⟨M9, e9, v9, W9⟩ := lT_69 (cc := cc) (d := d) (N := N) (M := M8) (x1 := M4 96 10 + 1) (x2 := M0 cc 0) hcc hN hW0.1 hW0.2 W8
    rw [e9] at he
    have em9 : M9 = M' := Option.some.inj he
    subst em9
    have t8 := lw_tl v9 h0
    have t7 := lw_tl v8 t8
    have t6 := lw_tl v7 t7
    have t5 := lw_tl v6 t6
    have t4 := lw_tl v5 t5
    obtain ⟨E, w3, s3, x3, L1⟩ := key t4
    obtain ⟨b4, ⟨f0, f10, f7, l10, r1⟩, ⟨p102, p1, p3, p7⟩, z3, hlt⟩ := mid t4
    obtain ⟨-, s4⟩ := lay_out hcc hd s3 (kid_cp hd hcc s3 w3.1 hc3') L1 t4
    obtain ⟨n11, n12, n13, n14, n15⟩ := id L1.2.2.2.2.2.2.2.1
    have K34 := L1.2.2.2.1.1
    have z40 : M5 cc 0 = M4 cc 0 := m5 _ _ (by omega)
    have z410 : M5 cc 10 = M4 cc 10 := m5 _ _ (by omega)
    have z47 : M5 96 7 = M4 96 7 := m5 _ _ (by omega)
    have z4r : M5 21 1 = M4 21 1 := m5 _ _ (by omega)
    have g5all := nlb hcc (by omega) s4 (by omega)
    rw [hM5] at g5all
    obtain ⟨s5, g5, x5⟩ := g5all
    have q5 : qt cc d M4 M5 := ⟨g5, x5, z40, fun k => ⟨m5 _ _ (by omega), m5 _ _ (by omega)⟩⟩
    have b5 := bs_qt b4 q5
    obtain ⟨s6, g6, D6⟩ := em hcc (by omega) s5 hM6 t6 ⟨⟨by decide, by decide⟩, w2_6 (by decide), fun _ => by have := W5.1; omega, fun q => by omega, fun q => by omega, fun q => by omega, fun _ => ⟨by omega, hn.1⟩, by omega, by omega, fun _ => Or.inr rfl⟩
    have b6 := bs_em b5 g6 D6 (Or.inr (Or.inr (by omega))) (by have := W5.1; omega)
    obtain ⟨⟨y1, y2, y3, y4, y5, y6⟩, yX, ⟨u101, u102, u1, u2, u3, u4, u5⟩, u67, u8, u103, u105⟩ := id D6
    have hW4 := W4.1
    obtain ⟨s7, g7, o7, x7⟩ := stl hcc (by omega) hN (by omega) s6 ⟨by omega, by omega⟩ hW0.1 hW0.2 e7
    have b7 := bs_st b6 g7 o7 x7 (Int.le_refl _) hcc
    have z70 : M7 cc 0 = M4 cc 0 + 1 := (o7 _ _ (by omega)).trans (by omega)
    have z710 : M7 cc 10 = M4 cc 10 := (o7 _ _ (by omega)).trans (by omega)
    have z77 : M7 96 7 = M4 96 7 := (o7 _ _ (by omega)).trans (by omega)
    have z7l : M7 96 10 = M4 96 10 + 1 := (o7 _ _ (by omega)).trans (by omega)
    have z7r : M7 21 1 = M4 21 1 := (o7 _ _ (by omega)).trans (by omega)
    have w7 := b7.1
    have hc7 : cpy d M0 M7 := fun j hj => by
      rw [o7 _ _ (by omega), u105 _ _ (by omega), m5 _ _ (by omega)]
      exact cpy_K hcc hd hc3' L1.1 j hj
    have k7 := kid_cp hd hcc s7 w7.1 hc7
    have L2 := ih.2 M7 (P 10 n).toNat M8 k7 (cp_nB hA hcc hd hs0 hn w7.1 w7.2.1 hpc (by omega) (by omega) hc7) (by rw [ebc _ hpc.1]; exact e8) t8
    have b8 := bs_lay hd b7 L2 (Or.inl ⟨d, Nat.le_refl d, (hc7 4 (by omega)).symm⟩) hcc (fun c hc => kid_sf hcc hd hs0 w7.1 w7.2.1 hpc.2.2.1 (hc7 0 (by omega)) hc)
    obtain ⟨-, s8⟩ := lay_out hcc hd s7 k7 L2 t8
    obtain ⟨n21, n22, n23, n24, n25⟩ := id L2.2.2.2.2.2.2.2.1
    have K78 := L2.2.2.2.1.1
    obtain ⟨s9, g9, o9, x9⟩ := stl hcc (by omega) hN (by omega) s8 ⟨by omega, by omega⟩ hW0.1 hW0.2 e9
    have b9 := bs_st b8 g9 o9 x9 (Int.le_refl _) hcc
    have z90 : M9 cc 0 = M8 cc 0 := o9 _ _ (by omega)
    have z910 : M9 cc 10 = M8 cc 10 := o9 _ _ (by omega)
    have z97 : M9 96 7 = M8 96 7 := o9 _ _ (by omega)
    have z9l : M9 96 10 = M8 96 10 := o9 _ _ (by omega)
    have z9r : M9 21 1 = M8 21 1 := o9 _ _ (by omega)
    have hT2 := tT_s (x := M0 cc 0)
    have hT3 := tT_s (x := M4 cc 0)
    rw [f0, hT2] at n15
    rw [z70, hT3] at n25
    refine ⟨b9.1.1, W9, lI_b s9.2 (by omega) (by omega) (by omega), b9.1.2.1, b9.2.1, b9.2.2.1, b9.1.2.2, ⟨by omega, by omega, by omega, by omega, by rw [z90]; omega⟩, lE_eq L2.2.2.2.2.2.2.2.2.1 z90 (fun t => o9 _ _ (by omega)), b9.2.2.2, ?_⟩
    intro tgt k bg ch H G hA1 hC1 hH1 hH2 hG1
    have hW8 := W8.1
    have K47 : lK cc M4 M7 := lK_trans g5.2.1 (lK_trans g6.2.1 g7.2.1)
    have K79 : lK cc M7 M9 := lK_trans L2.2.2.2.1 g9.2.1
    have K49 : lK cc M4 M9 := lK_trans K47 K79
    have V49 : lV cc M4 M9 := (sg_trans g5 (sg_trans g6 (sg_trans g7 (sg_trans (sg_mono (Nat.le_succ d) ⟨L2.1, L2.2.2.2.1, L2.2.2.2.2.2.2.1⟩) g9)))).2.2
    -- the branch
    obtain ⟨a1, a2, a3, a4, a5, a6⟩ := hA1 (M0 cc 0).toNat (by omega) (by omega)
    have K46 : lK cc M4 M6 := lK_trans g5.2.1 g6.2.1
    have K48 : lK cc M4 M8 := lK_trans K47 L2.2.2.2.1
    obtain ⟨i1, i2, i3⟩ := K49.2.1 (M0 cc 0).toNat (by omega)
    have h86 : ∀ t : Nat, (t : Int) < M4 cc 0 → M8 102 t = M4 102 t ∧ M6 102 t = M4 102 t := fun t ht => ⟨(K48.2.1 t ht).2.1, (K46.2.1 t ht).2.1⟩
    have hxs : ∀ t : Nat, (t : Int) < M4 cc 0 → M4 102 t ≠ M4 96 10 + 1 → M9 (cc + 2) t = M7 (cc + 2) t := fun t ht hq => by
      rw [x9, if_neg (by rw [(h86 t ht).1]; omega)]
      exact L2.2.2.2.2.1 t (by omega)
    rw [i2, p102, if_neg (by omega), hxs _ (by omega) (by omega), x7, if_pos ⟨by omega, by omega, by rw [(h86 _ (by omega)).2, p102]⟩] at a5
    obtain ⟨c1, c2, c3⟩ := bg_at hs0.2 (by omega) hW0.1 hD (lK_trans g1.2.1 (lK_trans E.2.1.2.1 (lK_trans (pl_ok hcc hd E.1 hp3).2.1.2.1 (lK_trans L1.2.2.2.1 K49)))) (by omega) s9.2 a6
    have hz0 := (hI0.2.2.2.2.2.1 (M0 cc 0).toNat (by omega) (by omega)).1
    -- the way around
    obtain ⟨e1, e2, e3, e4', e5', e6⟩ := hA1 (M4 cc 0).toNat (by omega) (by omega)
    have K69 : lK cc M6 M9 := lK_trans g7.2.1 K79
    obtain ⟨j1, j2, j3⟩ := K69.2.1 (M4 cc 0).toNat (by omega)
    rw [show (M5 cc 0).toNat = (M4 cc 0).toNat by omega] at u102 u1
    have j8 : M8 102 (M4 cc 0).toNat = M4 96 10 + 1 := by
      rw [((lK_trans g7.2.1 L2.2.2.2.1).2.1 (M4 cc 0).toNat (by omega)).2.1, u102]
    rw [j2, u102, if_neg (by omega), x9, if_pos ⟨by omega, by omega, j8⟩] at e5'
    refine ⟨c1, nd_5 h7 ⟨?_, ?_, ?_, (M4 cc 0).toNat, ?_, ?_⟩⟩
    · rw [c2, i3 7 (by omega) (by omega) (by omega), p7]; omega
    · rw [a1, i3 1 (by omega) (by omega) (by omega), p1]
    · rw [a2, i3 3 (by omega) (by omega) (by omega), p3]
    · have A := kid_P (tgt1 := tgt) (G1 := G) L1 (by omega) (by omega) hi3.1 K49 hA1 (kid_C L1 w3 K49 V49 (by omega) hC1) hH1 (kid_H L1 (by omega) K49 hH2) (fun t t1 t2 => by
        rcases lay_lab L1 (cp_lab hcc hd hs0 w3.1 hc3') hi3.1 t1 t2 with q | q
        · exact Or.inl ⟨q, rfl⟩
        · exact Or.inr (Or.inr q)) (fun t t1 t2 q => by
        have hpg := (L1.2.2.1.2.2.2.2.1 t t2).2.2.2.2.2.2.2.2.2.1
        rw [hxs t t2 (by omega), x7, if_neg (by rw [(h86 t t2).2]; omega), yX t (by omega), x5 t t2]) (kid_gG hcc hd hs0 w3.1 w3.2.1 hc3' (fun _ _ => rfl) (fun _ _ => rfl) hG1)
      rw [f0, z3 (by omega), show (M0 cc 0 + 1).toNat = (M0 cc 0).toNat + 1 by omega] at A
      exact A
    · rw [if_neg hc]
      refine ⟨?_, by rw [e1, j3 1 (by omega) (by omega) (by omega), u1], by rw [e5', z90]; omega, by rw [a5, y2, z40]; omega, ?_⟩
      · rw [e6]
        refine bgl_0 ?_
        rw [j3 7 (by omega) (by omega) (by omega), (u67 _).1, m5 _ _ (by omega)]
        exact L1.2.2.2.2.2.2.2.2.1 _ (by omega) (by omega)
      · have A := kid_P (tgt1 := tgt) (G1 := G) L2 (by omega) (by omega) hi3.1 g9.2.1 hA1 (kid_C L2 w7 g9.2.1 g9.2.2 (by omega) hC1) hH1 (kid_H L2 (by omega) g9.2.1 hH2) (fun t t1 t2 => by
          rcases lay_lab L2 (cp_lab hcc hd hs0 w7.1 hc7) hi3.1 t1 t2 with q | q
          · exact Or.inl ⟨q, rfl⟩
          · exact Or.inr (Or.inr q)) (fun t t1 t2 q => by rw [x9, if_neg (by omega)]) (kid_gG hcc hd hs0 w7.1 w7.2.1 hc7 (fun _ _ => rfl) (fun _ _ => rfl) hG1)
        have z7z : M7 (cc + 7) (M7 cc 0).toNat = 0 := by
          rw [o7 _ _ (by omega), (u67 _).1]
          exact s5.2.2.2.2.2.2.2.1 _ (by omega) (by omega)
        rw [z7z, z70, show (M4 cc 0 + 1).toNat = (M4 cc 0).toNat + 1 by omega] at A
        rw [z90]
        exact A
end SqA
