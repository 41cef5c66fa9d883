/-! USING; any node -/
section NoA
variable {cc d e b i N n n' r o c g lo : Nat} {P M M' M0 M1 M2 M3 M4 M5 M6 MB Mc Me Mp Mq : yM} {op x y z nd gd lb v L L1 p u ca fr to w l : Int} {tgt tgt1 : Int → Nat} {k : Nat → Nat → Int} {bg : Nat → List Nat} {ch : Nat → List (Int × Int)} {H H1 : Int → List (Int × Int)} {hl : List (Int × Int)} {G G1 : aC} {ly : yM → Int → Int → Option yM} {cs : List tC}
theorem lT_27' (hcc : pC cc) (hN : 1000 ≤ N) (hd : d < 90) (hly : ∀ M n, lT cc (d + 1) M (ly M n ((d : Int) + 1))) {r3 : Nat} : lT cc d M (f_64_27 N ly cc M x (d : Int) r3 y) := lT_64_27 hcc hN hd hly
theorem S_64 (hcc : pC cc) (hN : 1000 ≤ N) (hd : d < 90) (hA : pA P) (hb : beg cc P d n M0 MB) (ih : ihL cc P r d ly) (h7 : P 7 n = 13) (he : f_64 N ly cc MB (n : Int) (d : Int) = some M') (h0 : M' cc 1 = 0) : lay cc P (r + 1) d n M0 M' := by
  obtain ⟨hs0, hn, hs, hg, hD⟩ := hb
  have hr := cc_rg hcc
  have hW0 := hs0.1.2.1.1
  have hn7 := nd_lt hA hn
  obtain ⟨ob, oa, oc, oac⟩ := (hA.2.2.2.1 n hn.1).2.2.2.2.2.2.2.2.2.2.1 h7
  obtain ⟨d1, d2, d3, d4, d5⟩ := hD.1
  have hI0 := hs0.2
  have hi1 := hI0.1
  have hi2 := hI0.2.1
  have hi3 := hI0.2.2.1
  have hi4 := hI0.2.2.2.1
  have hnn := hA.1
  have hn1 := hn.1
  have hgd := hs0.1.2.2.2.1 d (Nat.le_refl d)
  have hnB := nB_K hcc (by omega) hs0.1 hs0.2 hg.1 hg.2.1 hn
  obtain ⟨s1, g1, x1, ⟨k7, k98, k99, k100⟩, m1⟩ := ngd hcc (by omega) (by omega) hs (by omega) hnB (Or.inr h7)
  unfold f_64 at he
  rw [f66 (by omega) (by omega) (by omega), pz_d (by omega), ylet_eq] at he
  dsimp only at he
  have eg : M0 96 7 = (((M0 96 7).toNat : Nat) : Int) := by omega
  rw [d3] at k7 k98 k99 k100
  generalize hgg : (M0 96 7).toNat = g at eg k98 k99 k100
  generalize gM MB n d = M1 at he s1 g1 x1 k7 k98 k99 k100 m1
  have pB : ∀ j, MB (105 + d) j = M0 (105 + d) j := fun j => lw_pl hcc hg.1 (Nat.le_refl d) (by omega) j
  rw [pB 0] at k99
  have z10 : M1 cc 0 = M0 cc 0 := (m1 _ _ (by omega) (by omega)).trans d1
  have z110 : M1 cc 10 = M0 cc 10 + 1 := (m1 _ _ (by omega) (by omega)).trans d2
  have z1l : M1 96 10 = M0 96 10 := (m1 _ _ (by omega) (by omega)).trans d4
  have z1r : M1 21 1 = M0 21 1 := (m1 _ _ (by omega) (by omega)).trans d5
  have b1 := bs_qt (bs_0 (P := P) (n := n) hcc hD hg) (show qt cc d MB M1 from ⟨g1, x1, m1 _ _ (by omega) (by omega), fun k => ⟨m1 _ _ (by omega) (by omega), m1 _ _ (by omega) (by omega)⟩⟩)
  have gk1 : gK P d n g M0 M1 := ⟨eg.symm, by omega, k98, k99, k100⟩
  have pl1 : ∀ j, M1 (105 + d) j = M0 (105 + d) j := fun j => (m1 _ _ (by omega) (by omega)).trans (pB j)
  rw [ylet_eq, ylet_eq, rd_P s1.1.1 ⟨by omega, by omega⟩ hn7, d3, eg, pl1 0] at he
  have hz0 := (hI0.2.2.2.2.2.1 (M0 cc 0).toNat)
  by_cases ho : P 8 n = -1
  · rw [ho, show yrel 0 (-1) (-1) = true from rfl, cond_true] at he
    have hc : P 10 n ≠ -1 := fun q => oac ⟨ho, q⟩
    obtain ⟨u1, u2, u3, u4, u5, u6, ⟨c1, c2, c3, c4, c5⟩, u8, u9⟩ := us_27 hcc hN hd hA hs0 hn h7 ih s1 b1 gk1 ⟨by omega, by omega, z1l, z1r⟩ he h0
    have u8 := u8 hc
    rw [z10] at c5
    have hWe := u1.1.2.1.1
    refine ⟨u2.1.1, u1.1.2.1, u1.2, u2.1.2.1, u2.2.1, u2.2.2.1, u2.1.2.2, ⟨by omega, by omega, by omega, by omega, by omega⟩, u3, u2.2.2.2, ?_⟩
    intro tgt k bg ch H G hA1 hC1 hH1 hH2 hG1
    obtain ⟨-, -, -, -, -, q6⟩ := hA1 (M0 cc 0).toNat (by omega) (by omega)
    obtain ⟨b1', b2', b3'⟩ := bg_at hs0.2 (by omega) hW0.1 hD (lK_trans g1.2.1 u4) (by omega) u1.2 q6
    obtain ⟨p, hs', A1, A2⟩ := u9 tgt k bg ch H G hA1 hC1 hH1 hH2 hG1
    have h7i := (hD.2.2.1 (by omega)).1
    have hz0 := (hz0 (by omega) (by omega)).1
    rw [z10, m1 _ _ (by omega) (by omega), h7i, show (M0 (cc + 7) (M0 cc 0).toNat + 1).toNat = (M0 (cc + 7) (M0 cc 0).toNat).toNat + 1 by omega] at A1
    exact ⟨b1', nd_13 h7 ⟨_, _, p, hs', by rw [if_pos (show yq P 1 n = -1 from ho)]; exact ⟨rfl, rfl⟩, A1, A2⟩⟩
  · have oa' := oa.resolve_left ho
    have hnp := hA.2.1
    rw [rel0 ⟨by omega, by omega⟩ ⟨by decide, by decide⟩, cond_df ho, e_45 hcc, ylet_eq] at he
    generalize hM2 : eM cc M1 18 (P 8 n) 0 0 (n : Int) (M0 (105 + d) 0) 0 = M2 at he
    have hQ2 : lQ cc d M1 M2 := by rw [← hM2]; exact lQ_eM hcc
    obtain ⟨v2, W2⟩ := hQ2 s1.1.2.1
    obtain ⟨Mx, ex, vx, -⟩ := lT_64_27 (N := N) (ly := ly) (d := d) (M := M2) (x1 := (n : Int)) (x4 := (g : Int)) (r3 := 105 + d) hcc hN hd ih.1 W2
    have exx : Mx = M' := Option.some.inj (ex.symm.trans he)
    subst exx
    have t2 := lw_tl vx h0
    obtain ⟨s2, g2, D2⟩ := em hcc (by omega) s1 hM2 t2 ⟨⟨by decide, by decide⟩, w2_18 (by omega), fun q => by omega, fun q => by omega, fun _ => by omega, fun q => by omega, fun _ => ⟨by omega, hn1⟩, by omega, by omega, fun q => absurd q (by decide)⟩
    have b2 := bs_em b1 g2 D2 (Or.inl rfl) (by omega)
    obtain ⟨⟨y1, y2, y3, y4, y5, y6⟩, yX, ⟨ua, ub, w1, w2, w3, w4, w5⟩, w67, w8, wc, wp⟩ := id D2
    obtain ⟨u1, u2, u3, u4, u5, u6, ⟨c1, c2, c3, c4, c5⟩, u8, u9⟩ := us_27 hcc hN hd hA hs0 hn h7 ih s2 b2 (gK_K gk1 g2.2.1) ⟨by omega, by omega, by omega, by omega⟩ he h0
    have hT0 := tT_s (x := M0 cc 0)
    rw [y2, z10, hT0] at c5
    have hWe := u1.1.2.1.1
    refine ⟨u2.1.1, u1.1.2.1, u1.2, u2.1.2.1, u2.2.1, u2.2.2.1, u2.1.2.2, ⟨by omega, by omega, by omega, by omega, by omega⟩, u3, u2.2.2.2, ?_⟩
    intro tgt k bg ch H G hA1 hC1 hH1 hH2 hG1
    obtain ⟨a1, a2, a3, a4, a5, a6⟩ := hA1 (M0 cc 0).toNat (by omega) (by omega)
    obtain ⟨b1', b2', b3'⟩ := bg_at hs0.2 (by omega) hW0.1 hD (lK_trans g1.2.1 (lK_trans g2.2.1 u4)) (by omega) u1.2 a6
    obtain ⟨p, hs', A1, A2⟩ := u9 tgt k bg ch H G hA1 hC1 hH1 hH2 hG1
    have h7i := (hD.2.2.1 (by omega)).1
    have hz0 := (hz0 (by omega) (by omega)).1
    obtain ⟨i1, i2, i3⟩ := u4.2.1 (M0 cc 0).toNat (by omega)
    rw [z10] at ua ub w1 w2 w5
    have zz : M2 (cc + 7) (M0 cc 0 + 1).toNat = 0 := by
      rw [(w67 _).1]
      exact s1.2.2.2.2.2.2.2.1 _ (by omega) (by omega)
    rw [y2, z10, zz, show (M0 cc 0 + 1).toNat = (M0 cc 0).toNat + 1 by omega] at A1
    refine ⟨b1', nd_13 h7 ⟨(M0 cc 0).toNat + 1, 0, p, hs', ?_, A1, A2⟩⟩
    rw [if_neg (show ¬ yq P 1 n = -1 from ho)]
    refine ⟨?_, by rw [a1, i3 1 (by omega) (by omega) (by omega), w1], ?_, by rw [a4, i3 5 (by omega) (by omega) (by omega), w5], ?_, rfl, rfl⟩
    · rw [b2', i3 7 (by omega) (by omega) (by omega), (w67 _).1, m1 _ _ (by omega) (by omega), h7i]; omega
    · rw [a5, i2, ub, if_neg (by omega), u5 _ (by omega), w2]; rfl
    · have e1 : Mx (cc + 1) (M0 cc 0).toNat = 18 := by rw [i3 1 (by omega) (by omega) (by omega), w1]
      have e0 : hk Mx (M0 cc 0).toNat (M0 21 1).toNat (Mx 21 1 - M0 21 1).toNat = [] := hk_one (sg_trans hg g1) g2.2.1 y6 y2 u6 u4 (by omega) (by omega)
      rw [hC1 _ (by omega) (by omega) (by rw [e1]; exact Or.inr (Or.inr (Or.inr (Or.inr (Or.inr (Or.inr (Or.inr (Or.inr (Or.inl rfl))))))))), e0, i1, ua]
      exact (gR_hs hH1 _ _ hG1.1).symm
/-- any node -/
theorem S_50 (hcc : pC cc) (hN : 1000 ≤ N) (hd : d ≤ 90) (hA : pA P) (hs0 : sO cc P d d M0) (hn : nB P d n M0) (ih : d < 90 → ihL cc P r d ly) (he : f_50 N ly cc M0 (n : Int) (d : Int) = some M') (h0 : M' cc 1 = 0) : lay cc P (r + 1) d n M0 M' := by
  have hr := cc_rg hcc
  have hn7 := nd_lt hA hn
  unfold f_50 at he
  rw [rel2 ⟨by omega, by omega⟩ ⟨by decide, by decide⟩, cond_df (by omega), rel2 ⟨by omega, by omega⟩ ⟨by decide, by decide⟩] at he
  by_cases h90 : (d : Int) + 1 < 91
  · rw [cond_dt h90] at he
    have hd' : d < 90 := by omega
    have ih := ih hd'
    unfold f_50_13 at he
    rw [hs0.1.2.2.1, show yrel 0 0 0 = true from rfl, cond_true, ylet_eq] at he
    obtain ⟨sB, gB, DB⟩ := bgn (n := n) hcc hd (by omega) hs0 ⟨hn.1, hn.2.2.1⟩
    generalize f_40 M0 cc (n : Int) = MB at he sB gB DB
    have hb : beg cc P d n M0 MB := ⟨hs0, hn, sB, gB, DB⟩
    rw [rd_P sB.1.1 ⟨by omega, by omega⟩ hn7] at he
    have hO := (hA.2.2.2.1 n hn.1).1
    have h12 := hn.2.1
    have bi : ∀ {o : Option yM}, Option.bind o (fun t => some t) = o := fun {o} => by cases o <;> rfl
    rcases (show P 7 n = 0 ∨ P 7 n = 1 ∨ P 7 n = 2 ∨ P 7 n = 3 ∨ P 7 n = 4 ∨ P 7 n = 5 ∨ P 7 n = 6 ∨ P 7 n = 7 ∨ P 7 n = 8 ∨ P 7 n = 9 ∨ P 7 n = 10 ∨ P 7 n = 11 ∨ P 7 n = 13 ∨ P 7 n = 14 ∨ P 7 n = 15 ∨ P 7 n = 16 ∨ P 7 n = 17 ∨ P 7 n = 18 by omega) with q | q | q | q | q | q | q | q | q | q | q | q | q | q | q | q | q | q
    · rw [q] at he; exact S_83 (N := N) (ly := ly) hcc hd' hA hb (by omega) he h0
    · rw [q] at he; exact S_83 (N := N) (ly := ly) hcc hd' hA hb (by omega) he h0
    · rw [q] at he; exact S_83 (N := N) (ly := ly) hcc hd' hA hb (by omega) he h0
    · rw [q] at he; exact S_83 (N := N) (ly := ly) hcc hd' hA hb (by omega) he h0
    · rw [q] at he; exact S_4 hcc hd' hA hb ih q he h0
    · rw [q] at he; exact S_57 hcc hN hd' hA hb ih q (bi.symm.trans he) h0
    · rw [q] at he; exact S_58 hcc hN hd' hA hb ih q (bi.symm.trans he) h0
    · rw [q] at he; exact S_51 hcc hN hd' hA hb ih q (bi.symm.trans he) h0
    · rw [q] at he; exact S_60 hcc hN hd' hA hb ih q (bi.symm.trans he) h0
    · rw [q] at he; exact S_83 (N := N) (ly := ly) hcc hd' hA hb (by omega) he h0
    · rw [q] at he; exact S_83 (N := N) (ly := ly) hcc hd' hA hb (by omega) he h0
    · rw [q] at he; exact S_63 hcc hN hd' hA hb ih q (bi.symm.trans he) h0
    · rw [q] at he; exact S_64 hcc hN hd' hA hb ih q (bi.symm.trans he) h0
    · rw [q] at he; exact S_83 (N := N) (ly := ly) hcc hd' hA hb (by omega) he h0
    · rw [q] at he; exact S_83 (N := N) (ly := ly) hcc hd' hA hb (by omega) he h0
    · rw [q] at he; exact S_83 (N := N) (ly := ly) hcc hd' hA hb (by omega) he h0
    · rw [q] at he; exact S_83 (N := N) (ly := ly) hcc hd' hA hb (by omega) he h0
    · rw [q] at he; exact S_83 (N := N) (ly := ly) hcc hd' hA hb (by omega) he h0
  · rw [cond_df h90] at he
    unfold f_50_9 at he
    rw [ylet_eq] at he
    unfold f_50_13 at he
    rw [yU_at, show yrel 0 1 0 = false from rfl, cond_false] at he
    have e := Option.some.inj he
    rw [← e, yU_at] at h0
    exact absurd h0 (by decide)
/-- what is laid, level by level -/
theorem S_y50 (hcc : pC cc) (hN : 1000 ≤ N) (hA : pA P) : ∀ (r d n : Nat) (M M' : yM), 91 ≤ r + d → d ≤ 90 → sO cc P d d M → nB P d n M → fy_50 N cc r M (n : Int) (d : Int) = some M' → M' cc 1 = 0 → lay cc P r d n M M'
  | 0, d, _, _, _, h, h2, _, _, _, _ => absurd h (by omega)
  | r + 1, d, n, M, M', h, h2, hs, hn, he, h0 => S_50 (ly := fy_50 N cc r) hcc hN h2 hA hs hn (fun hd => ⟨fun M n => lT_y50 hcc hN r (d := d + 1) (by omega) (by omega), fun M n' M' hs' hn' he' h0' => S_y50 hcc hN hA r (d + 1) n' M M' (by omega) (by omega) hs' hn' he' h0'⟩) he h0
end NoA
