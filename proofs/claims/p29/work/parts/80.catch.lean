/-! a FINALLY, a CATCH -/
/-- within a TRY, behind its b: n its node, g its guard -/
def trS (cc : Nat) (P : yM) (d n g : Nat) (M0 M : yM) : Prop := sO cc P d d M ∧ bs cc P d n M0 M ∧ gK P d n g M0 M ∧ M0 96 10 < M 96 10 ∧ M0 cc 0 < M cc 0
/-- what is fixed of it -/
def trC (cc : Nat) (P : yM) (d n : Nat) (M0 : yM) : Prop := pC cc ∧ d < 90 ∧ pA P ∧ sO cc P d d M0 ∧ nB P d n M0 ∧ P 7 n = 11
/-- a part of it is laid: M it stands at, Mp with its place, M' it is laid -/
def kdD (cc : Nat) (P : yM) (r d n p : Nat) (M0 M Mp M' : yM) : Prop :=
  (Mp cc 0 = M cc 0 ∧ Mp cc 10 = M cc 10 ∧ Mp 96 7 = M 96 7 ∧ Mp 96 10 = M 96 10 ∧ Mp 21 1 = M 21 1) ∧ (∀ t, Mp (cc + 7) t = M (cc + 7) t) ∧ sg cc d M Mp ∧ lX cc M Mp ∧ lay cc P r (d + 1) p Mp M' ∧ (∀ l, l ≤ d + 1 → Mp (105 + l) 4 ≤ M0 96 10) ∧ (∀ c, own P n c → Mp 103 c = M 103 c ∧ Mp 104 c = M 104 c ∧ M' 103 c = M 103 c ∧ M' 104 c = M 104 c)
section CtA
variable {cc d e b i N n n' r o c g : Nat} {P M M' M0 M1 M2 M3 MB Mc Me Mp : yM} {op x y z nd gd lb v L L1 p u ca to : Int} {tgt tgt1 : Int → Nat} {k : Nat → Nat → Int} {bg : Nat → List Nat} {ch : Nat → List (Int × Int)} {H H1 : Int → List (Int × Int)} {hl : List (Int × Int)} {G G1 : aC} {ly : yM → Int → Int → Option yM}
theorem trS_K (hC : trC cc P d n M0) (h : trS cc P d n g M0 M) (hs : sO cc P d d M') (hb : bs cc P d n M0 M') (hK : lK cc M M') : trS cc P d n g M0 M' := by
  obtain ⟨h1, h2, h3, h4, h5⟩ := h
  have := hK.1
  exact ⟨hs, hb, gK_K h3 hK, by omega, by omega⟩
/-- the FINALLY, within ca CAUGHTS -/
theorem fin_ok (hC : trC cc P d n M0) (ih : ihL cc P r d ly) (h : trS cc P d n g M0 M) (hca : M0 (105 + d) 1 ≤ ca ∧ ca ≤ (d : Int) + 1) (hfin : P 8 n ≠ -1) (he : f_55 ly cc M (n : Int) (d : Int) ca = some M') (h0 : M' cc 1 = 0) : ∃ Mp, kdD cc P r d n (P 8 n).toNat M0 M Mp M' ∧ trS cc P d n g M0 M' ∧ (∀ (tgt tgt1 : Int → Nat) (H : Int → List (Int × Int)) (G : aC), (∀ l : Int, l ≤ M0 96 10 → tgt1 l = tgt l) → gG M0 tgt H d G → gG Mp tgt1 H (d + 1) (G.1, ca.toNat, G.2.2.1 + 1, G.2.2.2)) := by
  obtain ⟨hcc, hd, hA, hs0, hn, h11⟩ := hC
  obtain ⟨hs, hb, hk, hL, hl0⟩ := h
  have hr := cc_rg hcc
  have hn7 := nd_lt hA hn
  have hgd := hs0.1.2.2.2.1 d (Nat.le_refl d)
  have hgdM := hs.1.2.2.2.1 d (Nat.le_refl d)
  have pl : ∀ j, M (105 + d) j = M0 (105 + d) j := fun j => lw_pl hcc hb.1.1 (Nat.le_refl d) (by omega) j
  have ebc : ∀ q : Int, 0 ≤ q → ((q.toNat : Nat) : Int) = q := fun q hq => Int.toNat_of_nonneg hq
  obtain ⟨oa, ob, oc, oab, oac⟩ := (hA.2.2.2.1 n hn.1).2.2.2.2.2.2.2.2.1 h11
  have of := oa.resolve_left hfin
  unfold f_55 at he
  rw [rd_P hs.1.1 ⟨by omega, by omega⟩ hn7, ylet_eq, rel0 ⟨by have := of.1; omega, by have := of.2.1; omega⟩ ⟨by decide, by decide⟩, cond_df hfin, pz_s hd, ylet_eq, ylet_eq, ylet_eq] at he
  obtain ⟨hp1, hc1⟩ := cp_47 (M := M) hd hb.1.1 hcc
  have hQ : lQ cc d M (yU (yU (f_47 M (d : Int)) (105 + (d + 1)) 1 ca) (105 + (d + 1)) 2 (yU (f_47 M (d : Int)) (105 + (d + 1)) 1 ca (105 + (d + 1)) 2 + 1)) := lQ_trans (lQ_47 hcc hd) (lQ_trans (lQ_pl hcc hd) (lQ_pl hcc hd))
  rw [yU_i (a := 105 + (d + 1)) (b := 105 + (d + 1)) (i := 1) (j := 2) (by decide), hc1 2 (by omega)] at he hQ
  have hp2 : pD d M (yU (yU (f_47 M (d : Int)) (105 + (d + 1)) 1 ca) (105 + (d + 1)) 2 (M0 (105 + d) 2 + 1)) := pD_U (pD_U hp1)
  have c20 : ∀ j, j < 6 → j ≠ 1 → j ≠ 2 → yU (yU (f_47 M (d : Int)) (105 + (d + 1)) 1 ca) (105 + (d + 1)) 2 (M0 (105 + d) 2 + 1) (105 + (d + 1)) j = M0 (105 + d) j := fun j h1 h2 h3 => by rw [yU_i h3, yU_i h2, hc1 j h1]
  have c21 : yU (yU (f_47 M (d : Int)) (105 + (d + 1)) 1 ca) (105 + (d + 1)) 2 (M0 (105 + d) 2 + 1) (105 + (d + 1)) 1 = ca := by rw [yU_i (by decide), yU_at]
  have c22 : yU (yU (f_47 M (d : Int)) (105 + (d + 1)) 1 ca) (105 + (d + 1)) 2 (M0 (105 + d) 2 + 1) (105 + (d + 1)) 2 = M0 (105 + d) 2 + 1 := yU_at
  generalize yU (yU (f_47 M (d : Int)) (105 + (d + 1)) 1 ca) (105 + (d + 1)) 2 (M0 (105 + d) 2 + 1) = Mp at he hQ hp2 c20 c21 c22
  obtain ⟨v1, W1⟩ := hQ hs.1.2.1
  obtain ⟨M2, e2, v2, W2⟩ := lT_ly ih.1 (x := P 8 n) W1
  rw [e2] at he
  have e : M2 = M' := Option.some.inj he
  subst e
  obtain ⟨s1, g1, x1⟩ := pl_ok hcc hd hs hp2
  have w1 := sg_trans hb.1 g1
  have h20 := c20 0 (by omega) (by omega) (by omega)
  have h23 := c20 3 (by omega) (by omega) (by omega)
  have h24 := c20 4 (by omega) (by omega) (by omega)
  have h25 := c20 5 (by omega) (by omega) (by omega)
  have f7 : Mp 96 7 = M 96 7 := hp2 _ _ (by omega)
  have fl : Mp 96 10 = M 96 10 := hp2 _ _ (by omega)
  have plp : ∀ j, Mp (105 + d) j = M0 (105 + d) j := fun j => (hp2 _ _ (by omega)).trans (pl j)
  have plp0 := plp 0
  have plp1 := plp 1
  have pl0 := pl 0
  have k1 : sO cc P (d + 1) d Mp := kid_sO hd s1 (by omega) (by omega) (by omega) (by omega) (by omega) (by have := hb.1.2.1.1; omega)
  obtain ⟨o1, o2, o3⟩ := hA.2.2.2.2.2.1 (P 8 n).toNat n (by have := of.1; have := of.2.1; have := hn.1; omega) of.2.2.1
  rw [if_neg (fun q => by omega)] at o2
  rw [if_neg (by omega)] at o3
  have hnR := hn.2.2.2.2
  have n1 : nB P (d + 1) (P 8 n).toNat Mp := kid_nB hA hcc hd hs0 hn w1.1 w1.2.1 ⟨of.1, of.2.1, of.2.2.1⟩ of.2.2.2 h20 (fun q => by
    rw [h23, c21]
    have := hnR.2 (by rw [← o2]; exact q)
    omega) (fun q => by
    rw [h24]
    exact hnR.1 (by rw [← o3]; exact q))
  have L1 := ih.2 Mp (P 8 n).toNat M2 (sO_le k1 (Nat.le_succ d)) n1 (by rw [ebc _ of.1]; exact e2) h0
  have b2 := bs_qt hb (qt_pl g1 x1 hp2 hcc)
  have b3 := bs_lay hd b2 L1 (Or.inl ⟨d, Nat.le_refl d, h24.symm⟩) hcc (fun c hc => kid_sf hcc hd hs0 w1.1 w1.2.1 of.2.2.1 h20 hc)
  obtain ⟨-, s3⟩ := lay_out hcc hd (sO_le s1 (Nat.le_succ d)) (sO_le k1 (Nat.le_succ d)) L1 h0
  obtain ⟨n11, n12, n13, n14, n15⟩ := id L1.2.2.2.2.2.2.2.1
  have z0 : Mp cc 0 = M cc 0 := hp2 _ _ (by omega)
  have z10 : Mp cc 10 = M cc 10 := hp2 _ _ (by omega)
  have zr : Mp 21 1 = M 21 1 := hp2 _ _ (by omega)
  have i1 := hs.2.1
  have i2 := hs.2.2.1
  have i3 := hs.2.2.2.1
  have K3 : lK cc M M2 := lK_trans g1.2.1 L1.2.2.2.1
  have K4 := L1.2.2.2.1.1
  refine ⟨Mp, ⟨⟨z0, z10, f7, fl, zr⟩, fun t => hp2 _ _ (by omega), g1, x1, L1, fun l hl => ?_, fun c hc => ?_⟩, ⟨⟨s3.1, lI_b s3.2 (by omega) (by omega) (by omega)⟩, b3, gK_K hk K3, by omega, by omega⟩, fun tgt tgt1 H G ht hG => ?_⟩
  · by_cases q : l ≤ d
    · rw [lw_pl hcc w1.1 q (by omega) 4]
      have := hs0.1.2.2.2.1 l q
      omega
    · have e : l = d + 1 := by omega
      subst e
      omega
  · have hsf := gd_own hA hcc hd hs0 hn w1 (gK_K hk g1.2.1) (p := P 8 n) ⟨by have := of.1; have := of.2.1; omega, of.2.2.2⟩ (fun _ f hf => by
      have := of.2.1
      have h3 := of.2.2.2
      rw [hf, Int.toNat_natCast] at h3
      exact ⟨by omega, h3⟩) (Or.inr h20) hc
    have := L1.2.2.2.2.2.2.2.2.2.1 c hsf
    have e3 : Mp 103 c = M 103 c := hp2 _ _ (by omega)
    have e4 : Mp 104 c = M 104 c := hp2 _ _ (by omega)
    exact ⟨e3, e4, this.1.trans e3, this.2.trans e4⟩
  · obtain ⟨q1, q2, q3, q4, q5⟩ := hG
    unfold gG
    rw [h20, c21, c22, h23]
    refine ⟨gR_in hcc hd hs0 w1.1 w1.2.1 (fun _ _ => rfl) ht q1, by dsimp only; omega, by dsimp only; omega, q4, ?_⟩
    dsimp only
    exact lpR_2 hs0.2 w1.2.1 (by omega) h24 h25 (ht _ (by omega)) q5
/-- a CATCH is laid: M3 with its CAUGHT, Mp with its place, M5 with its b -/
def ctD (cc : Nat) (P : yM) (r d n g c : Nat) (M0 M Mp M5 M' : yM) : Prop :=
  (M cc 0 + 1 = Mp cc 0 ∧ Mp cc 10 = M cc 10 + 1 ∧ Mp 96 7 = M 96 7 ∧ Mp 96 10 = M 96 10 ∧ Mp 21 1 = M 21 1) ∧ sg cc d M Mp ∧ lX cc M Mp ∧ lay cc P r (d + 1) (P 9 c).toNat Mp M5 ∧ (∀ l, l ≤ d + 1 → Mp (105 + l) 4 ≤ M0 96 10) ∧ (∀ t : Nat, (t : Int) = Mp cc 0 → t < 300 → Mp (cc + 7) t = 0) ∧
  (∀ a j, a ≠ 104 → M' a j = M5 a j) ∧ (M' 103 c = M cc 0 ∧ M' 104 c = M' cc 0) ∧ (∀ c', own P n c' → c' ≠ c → M' 103 c' = M 103 c' ∧ M' 104 c' = M 104 c') ∧
  (M5 (cc + 1) (M cc 0).toNat = 11 ∧ M5 (cc + 2) (M cc 0).toNat = M0 (105 + d) 1 ∧ M5 102 (M cc 0).toNat = 0 ∧ bgl cc M5 (M cc 0).toNat = [c])
theorem ct_ok (hC : trC cc P d n M0) (ih : ihL cc P r d ly) (h : trS cc P d n g M0 M) (hE : lE cc M) (hc : own P n c) (he : f_52 ly cc M (c : Int) (d : Int) (g : Int) = some M') (h0 : M' cc 1 = 0) : ∃ Mp M5, ctD cc P r d n g c M0 M Mp M5 M' ∧ trS cc P d n g M0 M' ∧ lE cc M' ∧ sg cc d M M' ∧
    (∀ (Me : yM) (tgt tgt1 : Int → Nat) (H : Int → List (Int × Int)) (hl : List (Int × Int)) (G : aC), lK cc Mp Me → (∀ l : Int, l ≤ M0 96 10 → tgt1 l = tgt l) → H (g : Int) = H (M0 (105 + d) 0) → gG M0 tgt H d G → gG Mp tgt1 (hU Me g hl H) (d + 1) ((n, G.2.2.2.1, G.2.2.2.2, hl) :: G.1, G.2.1 + 1, G.2.2.1, (G.2.1 : Int), G.2.2.2.2)) := by
  obtain ⟨hcc, hd, hA, hs0, hn, h11⟩ := hC
  obtain ⟨hs, hb, hk, hL, hl0⟩ := h
  have hr := cc_rg hcc
  have hn7 := nd_lt hA hn
  obtain ⟨oc12, ocn⟩ := own_12 hc
  have oclt := own_lt hA hc
  obtain ⟨oin, oin15⟩ := own_in hA h11 hc
  have hgd := hs0.1.2.2.2.1 d (Nat.le_refl d)
  have hgdM := hs.1.2.2.2.1 d (Nat.le_refl d)
  have pl : ∀ j, M (105 + d) j = M0 (105 + d) j := fun j => lw_pl hcc hb.1.1 (Nat.le_refl d) (by omega) j
  have pl1 := pl 1
  have pl0 := pl 0
  have ebc : ∀ q : Int, 0 ≤ q → ((q.toNat : Nat) : Int) = q := fun q hq => Int.toNat_of_nonneg hq
  obtain ⟨oa, ob, oc⟩ := (hA.2.2.2.1 c ocn).2.2.2.2.2.2.2.2.2.1 oc12
  have hoT := (hA.2.2.2.1 n hn.1).2.2.2.2.2.2.2.2.1 h11
  have hc90 : c < 90 := by omega
  have hW := hs.1.2.1
  unfold f_52 at he
  rw [pz_d (by omega), pz_s hd, ylet_eq, ylet_eq, ylet_eq, ylet_eq, e_45 hcc, ylet_eq, ylet_eq, ylet_eq, ylet_eq, pl1] at he
  -- where it begins
  have hw1 : ywr M 103 (c : Int) (M cc 0) = yU M 103 c (M cc 0) := by
    rw [wr_in (a := 103) (by omega) (by show (c : Int) < ((90 : Nat) : Int); omega), Int.toNat_natCast]
  have hQ1 : lQ cc d M (ywr M 103 (c : Int) (M cc 0)) := lQ_wrc hcc (Or.inl rfl) hW.1.1 hW.1.2
  rw [hw1] at he hQ1
  have o1 : ∀ a j, a ≠ 103 → yU M 103 c (M cc 0) a j = M a j := fun a j q => yU_c q
  have o1c : yU M 103 c (M cc 0) 103 c = M cc 0 := yU_at
  have o1n : ∀ c', c' ≠ c → yU M 103 c (M cc 0) 103 c' = M 103 c' := fun c' q => yU_i q
  generalize yU M 103 c (M cc 0) = M1 at he hQ1 o1 o1c o1n
  obtain ⟨v1, W1⟩ := hQ1 hW
  have K1 : lK cc M M1 := by
    have z0 : M1 cc 0 = M cc 0 := o1 _ _ (by omega)
    have z10 : M1 cc 10 = M cc 10 := o1 _ _ (by omega)
    have z7 : M1 96 7 = M 96 7 := o1 _ _ (by omega)
    have zl : M1 96 10 = M 96 10 := o1 _ _ (by omega)
    have zr : M1 21 1 = M 21 1 := o1 _ _ (by omega)
    exact ⟨⟨by omega, by omega, by omega, by omega, by omega⟩, fun t _ => ⟨o1 _ _ (by omega), o1 _ _ (by omega), fun c _ _ _ => o1 _ _ (by omega)⟩, fun t _ _ => ⟨by rw [o1 (cc + 7) t (by omega)]; exact Int.le_refl _, fun _ => o1 _ _ (by omega)⟩, fun k _ => o1 _ _ (by omega), fun y _ => ⟨o1 _ _ (by omega), o1 _ _ (by omega), o1 _ _ (by omega)⟩, fun k _ => o1 _ _ (by omega)⟩
  have hs1 : sO cc P d d M1 := by
    obtain ⟨a1, a2, a3, a4, a5, a6, a7, a8, a9, a10⟩ := id hs.2
    have z0 : M1 cc 0 = M cc 0 := o1 _ _ (by omega)
    have z10 : M1 cc 10 = M cc 10 := o1 _ _ (by omega)
    have z11 : M1 cc 11 = M cc 11 := o1 _ _ (by omega)
    have z7 : M1 96 7 = M 96 7 := o1 _ _ (by omega)
    have zl : M1 96 10 = M 96 10 := o1 _ _ (by omega)
    have zr : M1 21 1 = M 21 1 := o1 _ _ (by omega)
    refine ⟨lB_K hcc (by omega) hs.1 hs.2 v1 W1 ((o1 _ _ (by omega)).trans hs.1.2.2.1) K1, lI_ext hs.2 K1 (fun t ht => Or.inl (o1 _ _ (by omega))) (by omega) (by omega) (by omega) z11 (by rw [z0, zr, z11]; exact a4.2.2.2) (fun t h1 h2 => absurd h2 (by omega)) (fun t h1 h2 => by rw [o1 (cc + 7) t (by omega), o1 (cc + 6) t (by omega), z10]; exact a6 t (by omega) h2) (fun t h1 h2 => by rw [o1 (cc + 7) t (by omega)]; exact a7 t (by omega) h2) (fun k h1 h2 => absurd h2 (by omega)) (fun y h1 h2 => absurd h2 (by omega)) (fun r h1 h2 => absurd h2 (by omega))⟩
  have g1 : sg cc d M M1 := ⟨v1, K1, fun r r1 r2 => by have : M1 21 1 = M 21 1 := o1 _ _ (by omega); omega⟩
  have b1 : bs cc P d n M0 M1 := by
    obtain ⟨p1, p2, p3, p4⟩ := hb
    have z0 : M1 cc 0 = M cc 0 := o1 _ _ (by omega)
    refine ⟨sg_trans p1 g1, fun t ht => (o1 _ _ (by omega)).trans (p2 t ht), fun t t1 t2 => by rw [o1 102 t (by omega)]; exact p3 t t1 (by omega), fun c' hc' => ?_⟩
    have hne : c' ≠ c := fun q => hc'.1 (by rw [q]; exact own_up hc)
    rw [o1n c' hne, o1 104 c' (by omega)]
    exact p4 c' hc'
  -- it begins
  have h13c : P 13 c ≠ -1 := by rw [oin]; exact hn.2.2.1
  obtain ⟨s2, g2, D2⟩ := bgn (n := c) hcc (by omega) (by omega) hs1 ⟨ocn, h13c⟩
  generalize f_40 M1 cc (c : Int) = M2 at he s2 g2 D2
  have b2 := bs_qt b1 ⟨g2, D2.2.1, D2.1.1, D2.2.2.2.1⟩
  obtain ⟨d1, d2, d3, d4, d5⟩ := D2.1
  generalize hM3 : eM cc M2 11 (M0 (105 + d) 1) 0 0 (c : Int) (g : Int) 0 = M3 at he
  have hQ3 : lQ cc d M2 M3 := by rw [← hM3]; exact lQ_eM hcc
  obtain ⟨v3, W3⟩ := hQ3 s2.1.2.1
  -- its place
  have hgg := gK_K hk (lK_trans K1 g2.2.1)
  obtain ⟨hp1, hc1⟩ := cp_47 (M := M3) hd (lw_trans b2.1.1 v3) hcc
  have hQ4 : lQ cc d M3 (yU (yU (yU (f_47 M3 (d : Int)) (105 + (d + 1)) 0 (g : Int)) (105 + (d + 1)) 1 (yU (f_47 M3 (d : Int)) (105 + (d + 1)) 0 (g : Int) (105 + (d + 1)) 1 + 1)) (105 + (d + 1)) 3 (M0 (105 + d) 1)) := lQ_trans (lQ_47 hcc hd) (lQ_trans (lQ_pl hcc hd) (lQ_trans (lQ_pl hcc hd) (lQ_pl hcc hd)))
  rw [yU_i (a := 105 + (d + 1)) (b := 105 + (d + 1)) (i := 0) (j := 1) (by decide), hc1 1 (by omega)] at he hQ4
  have hp2 : pD d M3 (yU (yU (yU (f_47 M3 (d : Int)) (105 + (d + 1)) 0 (g : Int)) (105 + (d + 1)) 1 (M0 (105 + d) 1 + 1)) (105 + (d + 1)) 3 (M0 (105 + d) 1)) := pD_U (pD_U (pD_U hp1))
  have c20 : ∀ j, j < 6 → j ≠ 0 → j ≠ 1 → j ≠ 3 → yU (yU (yU (f_47 M3 (d : Int)) (105 + (d + 1)) 0 (g : Int)) (105 + (d + 1)) 1 (M0 (105 + d) 1 + 1)) (105 + (d + 1)) 3 (M0 (105 + d) 1) (105 + (d + 1)) j = M0 (105 + d) j := fun j h1 h2 h3 h4 => by rw [yU_i h4, yU_i h3, yU_i h2, hc1 j h1]
  have h20 : yU (yU (yU (f_47 M3 (d : Int)) (105 + (d + 1)) 0 (g : Int)) (105 + (d + 1)) 1 (M0 (105 + d) 1 + 1)) (105 + (d + 1)) 3 (M0 (105 + d) 1) (105 + (d + 1)) 0 = (g : Int) := by rw [yU_i (by decide), yU_i (by decide), yU_at]
  have h21 : yU (yU (yU (f_47 M3 (d : Int)) (105 + (d + 1)) 0 (g : Int)) (105 + (d + 1)) 1 (M0 (105 + d) 1 + 1)) (105 + (d + 1)) 3 (M0 (105 + d) 1) (105 + (d + 1)) 1 = M0 (105 + d) 1 + 1 := by rw [yU_i (by decide), yU_at]
  have h23 : yU (yU (yU (f_47 M3 (d : Int)) (105 + (d + 1)) 0 (g : Int)) (105 + (d + 1)) 1 (M0 (105 + d) 1 + 1)) (105 + (d + 1)) 3 (M0 (105 + d) 1) (105 + (d + 1)) 3 = M0 (105 + d) 1 := yU_at
  generalize yU (yU (yU (f_47 M3 (d : Int)) (105 + (d + 1)) 0 (g : Int)) (105 + (d + 1)) 1 (M0 (105 + d) 1 + 1)) (105 + (d + 1)) 3 (M0 (105 + d) 1) = Mp at he hQ4 hp2 c20 h20 h21 h23
  obtain ⟨v4, W4⟩ := hQ4 W3
  obtain ⟨M5, e5, v5, W5⟩ := lT_ly ih.1 (x := yrd Mp 9 (c : Int)) W4
  rw [e5] at he
  have he : ylet (ywr M5 104 (c : Int) (M5 cc 0)) (fun M10 => some M10) = some M' := he
  rw [ylet_eq] at he
  have he := Option.some.inj he
  rw [wr_in (a := 104) (by omega) (by show (c : Int) < ((90 : Nat) : Int); omega), Int.toNat_natCast] at he
  have o6 : ∀ a j, a ≠ 104 → M' a j = M5 a j := fun a j q => by rw [← he]; exact yU_c q
  have o6c : M' 104 c = M5 cc 0 := by rw [← he]; exact yU_at
  have o6n : ∀ c', c' ≠ c → M' 104 c' = M5 104 c' := fun c' q => by rw [← he]; exact yU_i q
  have t5 : M5 cc 1 = 0 := (o6 _ _ (by omega)).symm.trans h0
  have t4 := lw_tl v5 t5
  have t3 := lw_tl v4 t4
  obtain ⟨s3, g3, D3⟩ := em hcc (by omega) s2 hM3 t3 ⟨⟨by decide, by decide⟩, w2_11 (by omega), fun q => by omega, fun q => by omega, fun q => by omega, fun q => by omega, fun _ => ⟨by omega, ocn⟩, ⟨by omega, hgg.2.1⟩, by have := s2.2.2.2.1; omega, fun q => absurd q (by decide)⟩
  have hW1 := s2.1.2.1.1
  have b3 := bs_em b2 g3 D3 (Or.inl rfl) (by omega)
  obtain ⟨⟨y1, y2, y3, y4, y5, y6⟩, yX, ⟨ua, ub, u1, u2, u3, u4, u5⟩, u67, u8, uc, up⟩ := id D3
  obtain ⟨s4, g4, x4⟩ := pl_ok hcc hd s3 hp2
  have b4 := bs_qt b3 (qt_pl g4 x4 hp2 hcc)
  have w4 := b4.1
  have z10 : M1 cc 0 = M cc 0 := o1 _ _ (by omega)
  have z110 : M1 cc 10 = M cc 10 := o1 _ _ (by omega)
  have z17 : M1 96 7 = M 96 7 := o1 _ _ (by omega)
  have z1l : M1 96 10 = M 96 10 := o1 _ _ (by omega)
  have z1r : M1 21 1 = M 21 1 := o1 _ _ (by omega)
  have f0 : Mp cc 0 = M cc 0 + 1 := (hp2 _ _ (by omega)).trans (by omega)
  have f10 : Mp cc 10 = M cc 10 + 1 := (hp2 _ _ (by omega)).trans (by omega)
  have f7 : Mp 96 7 = M 96 7 := (hp2 _ _ (by omega)).trans (by omega)
  have fl : Mp 96 10 = M 96 10 := (hp2 _ _ (by omega)).trans (by omega)
  have fr : Mp 21 1 = M 21 1 := (hp2 _ _ (by omega)).trans (by omega)
  have gk4 : gK P d n g M0 Mp := gK_K hgg (lK_trans g3.2.1 g4.2.1)
  have h22 := c20 2 (by omega) (by omega) (by omega) (by omega)
  have h24 := c20 4 (by omega) (by omega) (by omega) (by omega)
  have h25 := c20 5 (by omega) (by omega) (by omega) (by omega)
  have plp : ∀ j, Mp (105 + d) j = M0 (105 + d) j := fun j => lw_pl hcc w4.1 (Nat.le_refl d) (by omega) j
  have plp1 := plp 1
  have hbK := hb.1.2.1.1
  have k4 : sO cc P (d + 1) (d + 1) Mp := gd_sO hcc hd hs0 hn w4 s4 gk4 h20 (by omega) (by omega) (by omega) (by omega) (by omega)
  obtain ⟨q1, q2, q3⟩ := hA.2.2.2.2.2.1 (P 9 c).toNat c (by have := ob.1; have := ob.2.1; omega) ob.2.2.1
  rw [if_pos ⟨oc12, (ebc _ ob.1).symm⟩] at q2
  rw [if_neg (by omega)] at q3
  have n4 : nB P (d + 1) (P 9 c).toNat Mp := by
    refine gd_nB hA hcc hd hs0 hn w4 gk4 (w := c) (Or.inr hc) ⟨ob.1, ob.2.1, ob.2.2.1, ob.2.2.2⟩ (fun _ f hf => ?_) (by rw [q1, oin]; exact hn.2.2.1) h20 ⟨fun q => ?_, fun _ => by omega⟩
    · rcases hoT.1 with q | q
      · omega
      · refine ⟨q, fun q' => ?_⟩
        have e1 := ob.2.2.1
        have e2 := q.2.2.1
        rw [hf] at e2
        rw [q'] at e1
        omega
    · rw [h24]
      exact hn.2.2.2.2.1 (by rw [← oin15, ← q3]; exact q)
  rw [rd_P s4.1.1 ⟨by omega, by omega⟩ hc90] at e5
  have L1 := ih.2 Mp (P 9 c).toNat M5 k4 n4 (by rw [ebc _ ob.1]; exact e5) t5
  have hanp : an P n (P 9 c).toNat := by
    have e1 : an P c (P 9 c).toNat := an_up ob.2.2.1 an_rfl
    exact an_trans (own_up hc) e1
  have hfin11 : P 7 n = 11 → ∀ f : Nat, P 8 n = (f : Int) → P 11 f = (n : Int) := fun _ f hf => by
    rcases hoT.1 with q | q
    · omega
    · have e2 := q.2.2.1
      rw [hf, Int.toNat_natCast] at e2
      exact e2
  have hfin12 : P 7 n = 11 → ∀ f : Nat, P 8 n = (f : Int) → f < n ∧ P 7 f ≠ 12 := fun _ f hf => by
    rcases hoT.1 with q | q
    · omega
    · have e2 := q.2.2.2
      have e3 := q.2.1
      rw [hf, Int.toNat_natCast] at e2
      exact ⟨by omega, e2⟩
  have b5 := bs_lay hd b4 L1 (Or.inl ⟨d, Nat.le_refl d, h24.symm⟩) hcc (fun c' hc' => gd_sf hA hcc hd hs0 w4 gk4 hanp hfin11 h20 hc')
  obtain ⟨-, s5⟩ := lay_out hcc hd s4 k4 L1 t5
  obtain ⟨n11, n12, n13, n14, n15⟩ := id L1.2.2.2.2.2.2.2.1
  have hsame : ∀ c', own P n c' → M5 103 c' = Mp 103 c' ∧ M5 104 c' = Mp 104 c' := fun c' hc' => L1.2.2.2.2.2.2.2.2.2.1 c' (gd_own hA hcc hd hs0 hn w4 gk4 ⟨by have := ob.1; have := ob.2.1; omega, ob.2.2.2⟩ hfin12 (Or.inl h20) hc')
  have hp103 : ∀ c', Mp 103 c' = M1 103 c' ∧ Mp 104 c' = M1 104 c' := fun c' => ⟨(hp2 _ _ (by omega)).trans ((uc c').1.trans (D2.2.2.2.1 c').1), (hp2 _ _ (by omega)).trans ((uc c').2.trans (D2.2.2.2.1 c').2)⟩
  -- the end is noted
  have z60 : M' cc 0 = M5 cc 0 := o6 _ _ (by omega)
  have z610 : M' cc 10 = M5 cc 10 := o6 _ _ (by omega)
  have z611 : M' cc 11 = M5 cc 11 := o6 _ _ (by omega)
  have z67 : M' 96 7 = M5 96 7 := o6 _ _ (by omega)
  have z6l : M' 96 10 = M5 96 10 := o6 _ _ (by omega)
  have z6r : M' 21 1 = M5 21 1 := o6 _ _ (by omega)
  have K6 : lK cc M5 M' := ⟨⟨by omega, by omega, by omega, by omega, by omega⟩, fun t _ => ⟨o6 _ _ (by omega), o6 _ _ (by omega), fun c _ _ _ => o6 _ _ (by omega)⟩, fun t _ _ => ⟨by rw [o6 (cc + 7) t (by omega)]; exact Int.le_refl _, fun _ => o6 _ _ (by omega)⟩, fun k _ => o6 _ _ (by omega), fun y _ => ⟨o6 _ _ (by omega), o6 _ _ (by omega), o6 _ _ (by omega)⟩, fun k _ => o6 _ _ (by omega)⟩
  have hQ6 : lQ cc d M5 M' := by
    rw [← he]
    intro hW5
    have := lQ_wrc (cc := cc) (d := d) (M := M5) (a := 104) (k := (c : Int)) hcc (Or.inr rfl) hW5.1.1 hW5.1.2 hW5
    rw [wr_in (a := 104) (by omega) (by show (c : Int) < ((90 : Nat) : Int); omega), Int.toNat_natCast] at this
    exact this
  obtain ⟨v6, W6⟩ := hQ6 W5
  have g6 : sg cc d M5 M' := ⟨v6, K6, fun r r1 r2 => absurd r2 (by omega)⟩
  have i1 := hs.2.1
  have i2 := hs.2.2.1
  have i3 := hs.2.2.2.1
  have hs6 : sO cc P d d M' := by
    obtain ⟨a1, a2, a3, a4, a5, a6, a7, a8, a9, a10⟩ := id s5.2
    exact ⟨lB_K hcc (by omega) s5.1 s5.2 v6 W6 h0 K6, lI_ext s5.2 K6 (fun t ht => Or.inl (o6 _ _ (by omega))) (by omega) (by omega) (by omega) z611 (by rw [z60, z6r, z611]; exact a4.2.2.2) (fun t h1 h2 => absurd h2 (by omega)) (fun t h1 h2 => by rw [o6 (cc + 7) t (by omega), o6 (cc + 6) t (by omega), z610]; exact a6 t (by omega) h2) (fun t h1 h2 => by rw [o6 (cc + 7) t (by omega)]; exact a7 t (by omega) h2) (fun k h1 h2 => absurd h2 (by omega)) (fun y h1 h2 => absurd h2 (by omega)) (fun r h1 h2 => absurd h2 (by omega))⟩
  have b6 : bs cc P d n M0 M' := by
    obtain ⟨p1, p2, p3, p4⟩ := b5
    refine ⟨sg_trans p1 g6, fun t ht => (o6 _ _ (by omega)).trans (p2 t ht), fun t t1 t2 => by rw [o6 102 t (by omega)]; exact p3 t t1 (by omega), fun c' hc' => ?_⟩
    have hne : c' ≠ c := fun q => hc'.1 (by rw [q]; exact own_up hc)
    rw [o6 103 c' (by omega), o6n c' hne]
    exact p4 c' hc'
  have K04 : sg cc d M Mp := sg_trans g1 (sg_trans g2 (sg_trans g3 g4))
  have g5 : sg cc d Mp M5 := sg_mono (Nat.le_succ d) ⟨L1.1, L1.2.2.2.1, L1.2.2.2.2.2.2.1⟩
  have K45 := L1.2.2.2.1
  have K45c := K45.1
  refine ⟨Mp, M5, ⟨⟨f0.symm, f10, f7, fl, fr⟩, K04, lX_trans (fun t ht => o1 _ _ (by omega)) (lX_trans (lX_trans D2.2.1 yX (by omega)) x4 (by omega)) (by omega), L1, fun l hl => ?_, fun t t1 t2 => ?_, o6, ⟨?_, o6c.trans z60.symm⟩, fun c' hc' hne => ?_, ?_⟩, trS_K ⟨hcc, hd, hA, hs0, hn, h11⟩ ⟨hs, hb, hk, hL, hl0⟩ hs6 b6 (lK_trans K04.2.1 (lK_trans K45 K6)), lE_eq L1.2.2.2.2.2.2.2.2.1 z60 (fun t => o6 _ _ (by omega)), sg_trans K04 (sg_trans g5 g6), ?_⟩
  · by_cases q : l ≤ d
    · rw [lw_pl hcc w4.1 q (by omega) 4]
      have := hs0.1.2.2.2.1 l q
      omega
    · have e : l = d + 1 := by omega
      subst e
      omega
  · rw [hp2 _ _ (by omega), (u67 _).1]
    exact s2.2.2.2.2.2.2.2.1 _ (by omega) (by omega)
  · rw [o6 103 c (by omega), (hsame c hc).1, (hp103 c).1, o1c]
  · rw [o6 103 c' (by omega), (hsame c' hc').1, (hp103 c').1, o1n c' hne, o6n c' hne, (hsame c' hc').2, (hp103 c').2, o1 104 c' (by omega)]
    exact ⟨rfl, rfl⟩
  · have hlt : M1 cc 0 < 300 := by omega
    obtain ⟨m1, m2, m3⟩ := D2.2.2.1 hlt
    have hz : M1 (cc + 7) (M1 cc 0).toNat = 0 := by
      rw [o1 _ _ (by omega), z10]
      exact hE _ (by omega) (by omega)
    obtain ⟨j1, j2, j3⟩ := K45.2.1 (M cc 0).toNat (by omega)
    rw [show (M2 cc 0).toNat = (M cc 0).toNat by omega] at ub u1 u2
    rw [show (M1 cc 0).toNat = (M cc 0).toNat by omega] at m1 m2 hz
    refine ⟨by rw [j3 1 (by omega) (by omega) (by omega), hp2 _ _ (by omega), u1], ?_, by rw [j2, hp2 _ _ (by omega), ub], ?_⟩
    · rw [L1.2.2.2.2.1 _ (by omega), hp2 _ _ (by omega), u2]
    · have e7 : M5 (cc + 7) (M cc 0).toNat = 1 := by
        rw [j3 7 (by omega) (by omega) (by omega), hp2 _ _ (by omega), (u67 _).1, m1, hz]; rfl
      have e6 : M5 (cc + 6) (M cc 0).toNat = M1 cc 10 := by
        rw [j3 6 (by omega) (by omega) (by omega), hp2 _ _ (by omega), (u67 _).2]
        omega
      have e8 : M5 (cc + 8) (M1 cc 10).toNat = (c : Int) := by
        rw [K45.2.2.2.1 _ (by have := hs1.2.1; omega), hp2 _ _ (by omega), u8, m3]
      unfold bgl
      rw [e7, e6]
      show [(M5 (cc + 8) (M1 cc 10).toNat).toNat] = [c]
      rw [e8, Int.toNat_natCast]
  · intro Me tgt tgt1 H hl G hKe ht hH hG
    have hG2 := hG.2.1
    exact gd_gG hcc hd hs0 w4 gk4 s4 hKe ht hH hG h20 h22 h24 h25 (by rw [h21]; omega) (by rw [h23]; omega)
end CtA
