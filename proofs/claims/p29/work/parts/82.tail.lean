/-! the end of a TRY: its last CAUGHT, what goes around, its rows -/
section TlA
variable {cc d e b i N n n' r o c g lo : Nat} {P M M' M0 M1 M2 M3 MB Mc Me Mp Mq : yM} {op x y z nd gd lb v L L1 p u ca fr to w : Int} {tgt tgt1 : Int → Nat} {k : Nat → Nat → Int} {bg : Nat → List Nat} {ch : Nat → List (Int × Int)} {H H1 : Int → List (Int × Int)} {hl : List (Int × Int)} {G G1 : aC} {ly : yM → Int → Int → Option yM} {cs : List tC}
theorem bs_rw (h : bs cc P d n M0 M) (hr : rwO cc d M M' w fr to) (hf : M0 cc 0 ≤ fr) (ht : to ≤ M' cc 0) (hcc : pC cc) : bs cc P d n M0 M' := by
  have hrg := cc_rg hcc
  obtain ⟨h1, h2, h3, h4⟩ := h
  obtain ⟨r1, r2, r3, r4, r5, r6⟩ := hr
  have c1 := h1.2.1.1
  have c2 := r2.1
  have z0 : M' cc 0 = M cc 0 := r4 _ _ (by omega) (by omega)
  refine ⟨⟨lw_trans h1.1 r1, lK_trans h1.2.1 r2, fun r q1 q2 => ?_⟩, lX_trans h2 r3 (by omega), fun t t1 t2 => ?_, fun c hc => ?_⟩
  · by_cases q : (r : Int) < M 21 1
    · rw [r2.2.2.2.2.2 (4 * r) (by omega), r2.2.2.2.2.2 (4 * r + 1) (by omega)]
      have := h1.2.2 r q1 q
      omega
    · have := r6 r (by omega) q2
      omega
  · rw [r4 102 t (by omega) (by omega)]; exact h3 t t1 (by omega)
  · rw [r4 103 c (by omega) (by omega), r4 104 c (by omega) (by omega)]; exact h4 c hc
/-- what the last CAUGHT and what it is for are -/
def flP (cc : Nat) (P : yM) (r d n : Nat) (M0 Mc Mq : yM) : Prop := ∀ (Me : yM) (tgt : Int → Nat) (k : Nat → Nat → Int) (bg : Nat → List Nat) (ch : Nat → List (Int × Int)) (H : Int → List (Int × Int)) (G : aC),
  lK cc Mq Me → Me cc 0 = Mq cc 0 → lA cc Me (M0 96 10) tgt k bg (M0 cc 0) (Me cc 0) → lC cc Me (M0 21 1) (Me 21 1) H ch (M0 cc 0) (Me cc 0) → H (-1) = [] → (∀ y : Nat, M0 96 7 ≤ (y : Int) → (y : Int) < Me 96 7 → H (y : Int) = H (Me 99 y)) → gG M0 tgt H d G →
  (∀ t : Nat, Mc cc 0 ≤ (t : Int) → (t : Int) < Mq cc 0 → Mq 102 t ≠ M0 96 10 + 1 → Me (cc + 2) t = Mq (cc + 2) t) → (∀ t : Nat, Mc cc 0 ≤ (t : Int) → (t : Int) < Mq cc 0 → a_may (Mq (cc + 1) t) → hk Me t (Mq 21 1).toNat (Me 21 1 - Mq 21 1).toNat = []) →
  (if P 8 n = -1 then (Me cc 0).toNat = (Mc cc 0).toNat else (bg (Mc cc 0).toNat = [] ∧ k 1 (Mc cc 0).toNat = 11 ∧ k 2 (Mc cc 0).toNat = (G.2.1 : Int) ∧ ∃ l', a_Ld (yq P) k bg ch r (P 8 n).toNat (G.1, G.2.1 + 1, G.2.2.1 + 1, G.2.2.2) ((Mc cc 0).toNat + 1) 0 l' ∧ bg l' = [] ∧ k 1 l' = 12 ∧ k 2 l' = (G.2.1 : Int) ∧ ch l' = a_hs G.1 ∧ (Me cc 0).toNat = l' + 1))
/-- up to the last instruction -/
theorem fl_ok (hC : trC cc P d n M0) (hN : 1000 ≤ N) (ih : ihL cc P r d ly) (hfr : 0 ≤ fr ∧ fr ≤ 300) (hto : 0 ≤ to ∧ to ≤ 300) (hT : trS cc P d n g M0 Mc) (hE : lE cc Mc) (he : f_63_100 N ly cc Mc (n : Int) (d : Int) (105 + d) (g : Int) (M0 96 10 + 1) (P 8 n) fr to = some M') (h0 : M' cc 1 = 0) : ∃ Mq, f_63_135 N ly cc Mq (n : Int) (g : Int) (M0 96 10 + 1) (P 8 n) fr to (Mc cc 0) = some M' ∧ trS cc P d n g M0 Mq ∧ lE cc Mq ∧ sg cc d Mc Mq ∧ lX cc Mc Mq ∧ (∀ c, own P n c → Mq 103 c = Mc 103 c ∧ Mq 104 c = Mc 104 c) ∧ ((P 8 n = -1 ∧ Mq = Mc) ∨ (P 8 n ≠ -1 ∧ Mc cc 0 < Mq cc 0 ∧ 12 * (Mq 21 1 - Mc 21 1) + tT (Mc cc 0) + 6 * Mc cc 0 + 12 ≤ tT (Mq cc 0))) ∧ lNc cc Mc Mq ∧ flP cc P r d n M0 Mc Mq := by
  obtain ⟨hcc, hd, hA, hs0, hn, h11⟩ := id hC
  have hr := cc_rg hcc
  have hgd := hs0.1.2.2.2.1 d (Nat.le_refl d)
  have pl : ∀ j, Mc (105 + d) j = M0 (105 + d) j := fun j => lw_pl hcc hT.2.1.1.1 (Nat.le_refl d) (by omega) j
  have hWc := hT.1.1.2.1
  have hWc1 := hWc.1
  have hi3 := hs0.2.2.2.1
  have hi4 := hs0.2.2.2.2.1
  have hKc := hT.2.1.1.2.1.1
  have hLc := hT.2.2.2.1
  unfold f_63_100 at he
  rw [ylet_eq, pl 0, pl 1] at he
  by_cases hfin : P 8 n = -1
  · rw [hfin, show yrel 0 (-1) (-1) = true from rfl, cond_true] at he
    refine ⟨Mc, by rw [hfin]; exact he, hT, hE, sg_refl, fun _ _ => rfl, fun _ _ => ⟨rfl, rfl⟩, Or.inl ⟨hfin, rfl⟩, ⟨by omega, by omega, by omega⟩, ?_⟩
    intro Me tgt k bg ch H G hK hlen _ _ _ _ _ _ _
    rw [if_pos hfin, hlen]
  · obtain ⟨oa', -⟩ := (hA.2.2.2.1 n hn.1).2.2.2.2.2.2.2.2.1 h11
    have of := oa'.resolve_left hfin
    have hn1 := hn.1
    have hnn := hA.1
    rw [rel0 ⟨by have := of.1; omega, by have := of.2.1; omega⟩ ⟨by decide, by decide⟩, cond_df hfin, e_45 hcc, ylet_eq] at he
    generalize hM1 : eM cc Mc 11 (M0 (105 + d) 1) 0 0 (n : Int) (M0 (105 + d) 0) 0 = M1 at he
    have hQ1 : lQ cc d Mc M1 := by rw [← hM1]; exact lQ_eM hcc
    obtain ⟨v1, W1⟩ := hQ1 hWc
    have pl1 : ∀ j, M1 (105 + d) j = M0 (105 + d) j := fun j => (lw_pl hcc v1 (Nat.le_refl d) (by omega) j).trans (pl j)
    rw [pl1 1] at he
    obtain ⟨M2, e2, v2, W2⟩ := lT_55 (x1 := (n : Int)) (x3 := M0 (105 + d) 1 + 1) hcc hd ih.1 W1
    rw [e2] at he
    have pl2 : ∀ j, M2 (105 + d) j = M0 (105 + d) j := fun j => (lw_pl hcc v2 (Nat.le_refl d) (by omega) j).trans (pl1 j)
    have he : ylet (f_45 cc M2 12 (M2 (105 + d) 1) 0 0 (n : Int) (M2 (105 + d) 0)) (fun t23 => f_63_135 N ly cc t23 (n : Int) (g : Int) (M0 96 10 + 1) (P 8 n) fr to (Mc cc 0)) = some M' := he
    rw [ylet_eq, e_45 hcc, pl2 0, pl2 1] at he
    generalize hM3 : eM cc M2 12 (M0 (105 + d) 1) 0 0 (n : Int) (M0 (105 + d) 0) 0 = M3 at he
    have hQ3 : lQ cc d M2 M3 := by rw [← hM3]; exact lQ_eM hcc
    obtain ⟨v3, W3⟩ := hQ3 W2
    obtain ⟨Mx, ex, vx, -⟩ := lT_63_135 (d := d) (N := N) (ly := ly) (M := M3) (x1 := (n : Int)) (x4 := (g : Int)) (x5 := M0 96 10 + 1) (x6 := P 8 n) (x := Mc cc 0) hcc hN hfr hto W3
    have exx : Mx = M' := Option.some.inj (ex.symm.trans he)
    subst exx
    have t3 := lw_tl vx h0
    have t2 := lw_tl v3 t3
    have t1 := lw_tl v2 t2
    obtain ⟨s1, g1, D1⟩ := em hcc (by omega) hT.1 hM1 t1 ⟨⟨by decide, by decide⟩, w2_11 (by omega), fun q => by omega, fun q => by omega, fun q => by omega, fun q => by omega, fun _ => ⟨by omega, hn.1⟩, by omega, by omega, fun q => absurd q (by decide)⟩
    have T1 : trS cc P d n g M0 M1 := trS_K hC hT s1 (bs_em hT.2.1 g1 D1 (Or.inl rfl) hWc.1.1) g1.2.1
    obtain ⟨⟨c1, c2, c3, c4, c5, c6⟩, cX, ⟨ua, ub, u1, u2, u3, u4, u5⟩, u67, u8, uc, up⟩ := id D1
    obtain ⟨T2, E2, g2, x2, own2, r2, f2, N2, F2⟩ := fn_st hC ih T1 (lE_em hT.1.2 D1) ⟨by omega, by omega⟩ e2 t2
    have f2 := f2.resolve_left (fun q => hfin q.1)
    have hK2 := T2.2.1.1.2.1.1
    have hW2 := T2.1.1.2.1.1
    obtain ⟨s3, g3, D3⟩ := em hcc (by omega) T2.1 hM3 t3 ⟨⟨by decide, by decide⟩, w2_12 (by omega), fun q => by omega, fun q => by omega, fun q => by omega, fun q => by omega, fun _ => ⟨by omega, hn.1⟩, by omega, by omega, fun q => absurd q (by decide)⟩
    have T3 : trS cc P d n g M0 M3 := trS_K hC T2 s3 (bs_em T2.2.1 g3 D3 (Or.inl rfl) hW2.1) g3.2.1
    obtain ⟨⟨y1, y2, y3, y4, y5, y6⟩, yX, ⟨wa, wb, w1, w2, w3, w4, w5⟩, w67, w8, wc, wp⟩ := id D3
    have hTc := tT_s (x := Mc cc 0)
    have hT2 := tT_s (x := M2 cc 0)
    have f23 := f2.2.2
    rw [c2, hTc] at f23
    refine ⟨M3, he, T3, lE_em T2.1.2 D3, sg_trans g1 (sg_trans g2 g3), lX_trans cX (lX_trans x2 yX (by omega)) (by omega), fun c hc => ⟨(wc c).1.trans ((own2 c hc).1.trans (uc c).1), (wc c).2.trans ((own2 c hc).2.trans (uc c).2)⟩, Or.inr ⟨hfin, by omega, by rw [y2, hT2]; omega⟩, ⟨by have := N2.1; omega, by have := N2.2.1; omega, by have := N2.2.2; omega⟩, ?_⟩
    intro Me tgt k bg ch H G hK hlen hA1 hC1 hH1 hH2 hG hx ht
    rw [if_neg hfin]
    have K2e : lK cc M2 Me := lK_trans g3.2.1 hK
    have K1e : lK cc M1 Me := lK_trans g2.2.1 K2e
    have hc2 := g2.2.1.1
    have hG2 := hG.2.1
    have hG1 := hG.1
    obtain ⟨a1, a2, a3, a4, a5, a6⟩ := hA1 (Mc cc 0).toNat (by omega) (by omega)
    obtain ⟨i1, i2, i3⟩ := K1e.2.1 (Mc cc 0).toNat (by omega)
    have l13 := ((lK_trans g2.2.1 g3.2.1).2.1 (Mc cc 0).toNat (by omega)).2.1
    obtain ⟨b1, b2, b3, b4, b5, b6⟩ := hA1 (M2 cc 0).toNat (by omega) (by omega)
    obtain ⟨j1, j2, j3⟩ := hK.2.1 (M2 cc 0).toNat (by omega)
    have hKe := hK.1
    refine ⟨?_, ?_, ?_, (M2 cc 0).toNat, ?_, ?_, ?_, ?_, ?_, by omega⟩
    · rw [a6]
      refine bgl_0 ?_
      rw [i3 7 (by omega) (by omega) (by omega), (u67 _).1]
      exact hE _ (by omega) (by omega)
    · rw [a1, i3 1 (by omega) (by omega) (by omega), u1]
    · rw [a5, i2, ub, if_neg (by omega), hx _ (by omega) (by omega) (by rw [l13, ub]; omega), yX _ (by omega), x2 _ (by omega), u2]; omega
    · have A := F2 M3 Me tgt k bg ch H G g3.2.1 g3.2.2 hK hA1 hC1 hH1 hH2 hG (fun t t1 t2 t3 => by
        rw [hx t (by omega) (by omega) (by rw [(g3.2.1.2.1 t t2).2.1]; exact t3)]
        exact yX t t2) (fun t t1 t2 t3 => ht t (by omega) (by omega) (by rw [(g3.2.1.2.1 t t2).2.2 1 (by omega) (by omega) (by omega)]; exact t3)) hfin
      rw [c2, show (M0 (105 + d) 1 + 1).toNat = G.2.1 + 1 by omega, show (Mc cc 0 + 1).toNat = (Mc cc 0).toNat + 1 by omega] at A
      exact A
    · rw [b6]
      refine bgl_0 ?_
      rw [j3 7 (by omega) (by omega) (by omega), (w67 _).1]
      exact E2 _ (by omega) (by omega)
    · rw [b1, j3 1 (by omega) (by omega) (by omega), w1]
    · rw [b5, j2, wb, if_neg (by omega), hx _ (by omega) (by omega) (by rw [wb]; omega), w2]; omega
    · have hm : a_may (M3 (cc + 1) (M2 cc 0).toNat) := by
        rw [w1]
        exact Or.inr (Or.inr (Or.inr (Or.inl rfl)))
      have e1 : hk Me (M2 cc 0).toNat (M0 21 1).toNat (Me 21 1 - M0 21 1).toNat = [] := by
        have k1 := T2.2.1.1.2.1.1
        rw [show (Me 21 1 - M0 21 1).toNat = (M3 21 1 - M0 21 1).toNat + (Me 21 1 - M3 21 1).toNat by omega, hk_add, show (M0 21 1).toNat + (M3 21 1 - M0 21 1).toNat = (M3 21 1).toNat by omega]
        rw [ht _ (by omega) (by omega) hm, List.append_nil, hk_eq (M := M3) (M' := Me) (M3 21 1 - M0 21 1).toNat (fun j hj => hK.2.2.2.2.2 j (by omega))]
        refine hk_one T2.2.1.1 g3.2.1 y6 y2 (fun r r1 r2 => absurd r2 (by omega)) lK_refl (by omega) (by omega)
      rw [hC1 _ (by omega) (by omega) (by rw [j3 1 (by omega) (by omega) (by omega)]; exact hm), e1, j1, wa]
      exact (gR_hs hH1 _ _ hG1).symm
end TlA
