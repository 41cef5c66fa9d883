/-! nodes of one instruction; what parts give -/
section SgA
variable {cc d e b i N n n' r o : Nat} {P M M' M0 M1 M2 M3 MB Mc Me : yM} {op x y z nd gd lb v L L1 p u : Int} {tgt tgt1 : Int → Nat} {k : Nat → Nat → Int} {bg : Nat → List Nat} {ch : Nat → List (Int × Int)} {H H1 : Int → List (Int × Int)} {G G1 : aC} {ly : yM → Int → Int → Option yM}
theorem f62_0 (h7 : yrd M 7 (n : Int) = 0) (h8 : yrd M 8 (n : Int) = P 8 n) (h9 : yrd M 9 (n : Int) = P 9 n) : f_62 cc M (n : Int) (105 + d) = f_45 cc M 1 (P 8 n) (P 9 n) (0) (n : Int) (M (105 + d) 0) := by
  unfold f_62
  rw [ylet_eq, ylet_eq, ylet_eq, ylet_eq, h7, h8, h9]
  rfl
theorem f62_1 (h7 : yrd M 7 (n : Int) = 1) (h8 : yrd M 8 (n : Int) = P 8 n) (h9 : yrd M 9 (n : Int) = P 9 n) : f_62 cc M (n : Int) (105 + d) = f_45 cc M 2 (P 8 n) (P 9 n) (0) (n : Int) (M (105 + d) 0) := by
  unfold f_62
  rw [ylet_eq, ylet_eq, ylet_eq, ylet_eq, h7, h8, h9]
  rfl
theorem f62_2 (h7 : yrd M 7 (n : Int) = 2) (h8 : yrd M 8 (n : Int) = P 8 n) (h9 : yrd M 9 (n : Int) = P 9 n) : f_62 cc M (n : Int) (105 + d) = f_45 cc M 3 (P 8 n) (P 9 n) (0) (n : Int) (M (105 + d) 0) := by
  unfold f_62
  rw [ylet_eq, ylet_eq, ylet_eq, ylet_eq, h7, h8, h9]
  rfl
theorem f62_3 (h7 : yrd M 7 (n : Int) = 3) (h8 : yrd M 8 (n : Int) = P 8 n) (h9 : yrd M 9 (n : Int) = P 9 n) : f_62 cc M (n : Int) (105 + d) = f_45 cc M 4 (P 9 n) (0) (0) (n : Int) (M (105 + d) 0) := by
  unfold f_62
  rw [ylet_eq, ylet_eq, ylet_eq, ylet_eq, h7, h8, h9]
  rfl
theorem f62_9 (h7 : yrd M 7 (n : Int) = 9) (h8 : yrd M 8 (n : Int) = P 8 n) (h9 : yrd M 9 (n : Int) = P 9 n) : f_62 cc M (n : Int) (105 + d) = f_45 cc M 9 (P 8 n) (P 9 n) (0) (n : Int) (M (105 + d) 0) := by
  unfold f_62
  rw [ylet_eq, ylet_eq, ylet_eq, ylet_eq, h7, h8, h9]
  rfl
theorem f62_10 (h7 : yrd M 7 (n : Int) = 10) (h8 : yrd M 8 (n : Int) = P 8 n) (h9 : yrd M 9 (n : Int) = P 9 n) : f_62 cc M (n : Int) (105 + d) = f_45 cc M 10 (P 8 n) (P 9 n) (0) (n : Int) (M (105 + d) 0) := by
  unfold f_62
  rw [ylet_eq, ylet_eq, ylet_eq, ylet_eq, h7, h8, h9]
  rfl
theorem f62_14 (h7 : yrd M 7 (n : Int) = 14) (h8 : yrd M 8 (n : Int) = P 8 n) (h9 : yrd M 9 (n : Int) = P 9 n) : f_62 cc M (n : Int) (105 + d) = f_45 cc M 12 (M (105 + d) 3) (0) (0) (n : Int) (M (105 + d) 0) := by
  unfold f_62
  rw [ylet_eq, ylet_eq, ylet_eq, ylet_eq, h7, h8, h9]
  rfl
theorem f62_15 (h7 : yrd M 7 (n : Int) = 15) (h8 : yrd M 8 (n : Int) = P 8 n) (h9 : yrd M 9 (n : Int) = P 9 n) : f_62 cc M (n : Int) (105 + d) = f_45 cc M 13 (P 8 n) (P 9 n) (M (105 + d) 3) (n : Int) (M (105 + d) 0) := by
  unfold f_62
  rw [ylet_eq, ylet_eq, ylet_eq, ylet_eq, h7, h8, h9]
  rfl
theorem f62_16 (h7 : yrd M 7 (n : Int) = 16) (h8 : yrd M 8 (n : Int) = P 8 n) (h9 : yrd M 9 (n : Int) = P 9 n) : f_62 cc M (n : Int) (105 + d) = f_45 cc M 14 (P 8 n) (M (105 + d) 3) (0) (n : Int) (M (105 + d) 0) := by
  unfold f_62
  rw [ylet_eq, ylet_eq, ylet_eq, ylet_eq, h7, h8, h9]
  rfl
theorem f62_17 (h7 : yrd M 7 (n : Int) = 17) (h8 : yrd M 8 (n : Int) = P 8 n) (h9 : yrd M 9 (n : Int) = P 9 n) : f_62 cc M (n : Int) (105 + d) = f_45 cc M 15 (P 8 n) (M (105 + d) 3) (0) (n : Int) (M (105 + d) 0) := by
  unfold f_62
  rw [ylet_eq, ylet_eq, ylet_eq, ylet_eq, h7, h8, h9]
  rfl
theorem f62_18 (h7 : yrd M 7 (n : Int) = 18) (h8 : yrd M 8 (n : Int) = P 8 n) (h9 : yrd M 9 (n : Int) = P 9 n) : f_62 cc M (n : Int) (105 + d) = f_45 cc M 16 (P 8 n) (0) (0) (n : Int) (M (105 + d) 0) := by
  unfold f_62
  rw [ylet_eq, ylet_eq, ylet_eq, ylet_eq, h7, h8, h9]
  rfl
/-- a node of one instruction is laid -/
theorem S_83 (hcc : pC cc) (hd : d < 90) (hA : pA P) (hb : beg cc P d n M0 MB) (hs : P 7 n = 0 ∨ P 7 n = 1 ∨ P 7 n = 2 ∨ P 7 n = 3 ∨ P 7 n = 9 ∨ P 7 n = 10 ∨ (14 ≤ P 7 n ∧ P 7 n ≤ 18)) (he : f_50_83 N ly cc MB (n : Int) (d : Int) = some M') (h0 : M' cc 1 = 0) : lay cc P (r + 1) d n M0 M' := by
  have hn7 := nd_lt hA hb.2.1
  have hP := hb.2.2.1.1.1
  have hO := hA.2.2.2.1 n hb.2.1.1
  have e7 := rd_P (a := 7) hP ⟨by omega, by omega⟩ hn7
  have e8 := rd_P (a := 8) hP ⟨by omega, by omega⟩ hn7
  have e9 := rd_P (a := 9) hP ⟨by omega, by omega⟩ hn7
  have hgd := hb.1.1.2.2.2.1 d (Nat.le_refl d)
  have eg : MB (105 + d) 0 = M0 (105 + d) 0 := lw_pl hcc hb.2.2.2.1.1 (Nat.le_refl d) (by omega) 0
  have ec : MB (105 + d) 3 = M0 (105 + d) 3 := lw_pl hcc hb.2.2.2.1.1 (Nat.le_refl d) (by omega) 3
  have hz := (hA.2.2.2.2.2.2 n hb.2.1.1 hb.2.1.2.2.1).2
  have hnR := hb.2.1.2.2.2.2.2
  have np := hA.2.1
  unfold f_50_83 at he
  rw [pz_d (by omega), ylet_eq] at he
  have he := Option.some.inj he
  obtain ⟨o1, o2, o3, o4, o5, o6, o7, o8, o9, o10, o11, o12⟩ := hO
  rcases hs with hs | hs | hs | hs | hs | hs | hs
  · rw [f62_0 (e7.trans hs) e8 e9, e_45 hcc, eg] at he
    exact S_one hcc hd hA hb he h0 ⟨by decide, by decide⟩ (w2_1 (o2 (by omega))) ⟨by decide, by decide, by decide, by decide⟩ (fun q => by omega) (fun q => by omega) (by unfold a_may a_rk; omega) (fun k bg ch G i j e g1 g2 h => nd_0 hs h)
  · rw [f62_1 (e7.trans hs) e8 e9, e_45 hcc, eg] at he
    exact S_one hcc hd hA hb he h0 ⟨by decide, by decide⟩ (w2_2 (o2 (by omega))) ⟨by decide, by decide, by decide, by decide⟩ (fun q => by omega) (fun q => by omega) (by unfold a_may a_rk; omega) (fun k bg ch G i j e g1 g2 h => nd_1 hs h)
  · rw [f62_2 (e7.trans hs) e8 e9, e_45 hcc, eg] at he
    exact S_one hcc hd hA hb he h0 ⟨by decide, by decide⟩ (w2_3 (o2 (by omega))) ⟨by decide, by decide, by decide, by decide⟩ (fun q => by omega) (fun q => by omega) (by unfold a_may a_rk; omega) (fun k bg ch G i j e g1 g2 h => nd_2 hs h)
  · rw [f62_3 (e7.trans hs) e8 e9, e_45 hcc, eg] at he
    exact S_one hcc hd hA hb he h0 ⟨by decide, by decide⟩ (w2_4 (o3 (by omega))) ⟨by decide, by decide, by decide, by decide⟩ (fun q => by omega) (fun q => by omega) (by unfold a_may a_rk; omega) (fun k bg ch G i j e g1 g2 h => nd_3 hs h)
  · rw [f62_9 (e7.trans hs) e8 e9, e_45 hcc, eg] at he
    exact S_one hcc hd hA hb he h0 ⟨by decide, by decide⟩ (w2_9 (by have := o7 hs; omega)) ⟨by decide, by decide, by decide, by decide⟩ (fun _ => (o7 hs).2.2) (fun q => by omega) (by unfold a_may a_rk; omega) (fun k bg ch G i j e g1 g2 h => nd_9 hs h)
  · rw [f62_10 (e7.trans hs) e8 e9, e_45 hcc, eg] at he
    exact S_one hcc hd hA hb he h0 ⟨by decide, by decide⟩ (w2_10) ⟨by decide, by decide, by decide, by decide⟩ (fun q => by omega) (fun _ => (o8 (by omega)).1) (by unfold a_may a_rk; omega) (fun k bg ch G i j e g1 g2 h => nd_10 hs h)
  · rcases (show P 7 n = 14 ∨ P 7 n = 15 ∨ P 7 n = 16 ∨ P 7 n = 17 ∨ P 7 n = 18 by omega) with hs | hs | hs | hs | hs
    · have hcat := hnR (hz (by omega))
      rw [f62_14 (e7.trans hs) e8 e9, e_45 hcc, eg, ec] at he
      exact S_one hcc hd hA hb he h0 ⟨by decide, by decide⟩ (w2_12 (by omega)) ⟨by decide, by decide, by decide, by decide⟩ (fun q => by omega) (fun q => by omega) (by unfold a_may a_rk; omega) (fun k bg ch G i j e g1 g2 h => nd_14 hs (by rw [g2]; exact ⟨by omega, by omega, h⟩))
    · have hcat := hnR (hz (by omega))
      rw [f62_15 (e7.trans hs) e8 e9, e_45 hcc, eg, ec] at he
      exact S_one hcc hd hA hb he h0 ⟨by decide, by decide⟩ (w2_13 (by omega)) ⟨by decide, by decide, by decide, by decide⟩ (fun q => by omega) (fun _ => (o8 (by omega)).1) (by unfold a_may a_rk; omega) (fun k bg ch G i j e g1 g2 h => nd_15 hs (by rw [g2]; exact ⟨by omega, by omega, h⟩))
    · have hcat := hnR (hz (by omega))
      rw [f62_16 (e7.trans hs) e8 e9, e_45 hcc, eg, ec] at he
      exact S_one hcc hd hA hb he h0 ⟨by decide, by decide⟩ (w2_14 (by have := o12 (by omega); omega)) ⟨by decide, by decide, by decide, by decide⟩ (fun q => by omega) (fun q => by omega) (by unfold a_may a_rk; omega) (fun k bg ch G i j e g1 g2 h => nd_16 hs (by rw [g2]; exact ⟨by omega, by omega, h⟩))
    · have hcat := hnR (hz (by omega))
      rw [f62_17 (e7.trans hs) e8 e9, e_45 hcc, eg, ec] at he
      exact S_one hcc hd hA hb he h0 ⟨by decide, by decide⟩ (w2_15 (by have := o12 (by omega); omega)) ⟨by decide, by decide, by decide, by decide⟩ (fun q => by omega) (fun q => by omega) (by unfold a_may a_rk; omega) (fun k bg ch G i j e g1 g2 h => nd_17 hs (by rw [g2]; exact ⟨by omega, by omega, h⟩))
    · rw [f62_18 (e7.trans hs) e8 e9, e_45 hcc, eg] at he
      exact S_one hcc hd hA hb he h0 ⟨by decide, by decide⟩ (w2_16 (o12 (by omega))) ⟨by decide, by decide, by decide, by decide⟩ (fun q => by omega) (fun q => by omega) (by unfold a_may a_rk; omega) (fun k bg ch G i j e g1 g2 h => nd_18 hs h)
/-- labels of what a part lays -/
theorem lay_lab (hl : lay cc P r (d + 1) n' M M') (hp : ∀ l, l ≤ d + 1 → M (105 + l) 4 ≤ L) (hL : 0 ≤ L) {t : Nat} (t1 : M cc 0 ≤ (t : Int)) (t2 : (t : Int) < M' cc 0) : M' 102 t ≤ L ∨ M 96 10 < M' 102 t := by
  rcases hl.2.2.2.2.2.1 t t1 t2 with q | ⟨l, q1, q2⟩ | q
  · exact Or.inl (by omega)
  · exact Or.inl (by have := hp l q1; omega)
  · exact Or.inr q
/-- what a part is -/
theorem kid_P (hl : lay cc P r (d + 1) n' M M') (h0 : M0 cc 0 ≤ M cc 0) (hL : M0 96 10 ≤ M 96 10) (hL0 : 0 ≤ M0 96 10) (hK : lK cc M' Me) (hA1 : lA cc Me (M0 96 10) tgt k bg (M0 cc 0) (Me cc 0)) (hC : lC cc M' (M 21 1) (M' 21 1) H1 ch (M cc 0) (M' cc 0)) (hH1 : H1 (-1) = []) (hH2 : ∀ y : Nat, M 96 7 ≤ (y : Int) → (y : Int) < M' 96 7 → H1 (y : Int) = H1 (M' 99 y))
    (hlab : ∀ t : Nat, M cc 0 ≤ (t : Int) → (t : Int) < M' cc 0 → (M' 102 t ≤ M0 96 10 ∧ tgt1 (M' 102 t) = tgt (M' 102 t)) ∨ (M0 96 10 < M' 102 t ∧ M' 102 t ≤ M 96 10 ∧ Me (cc + 2) t = (tgt1 (M' 102 t) : Int)) ∨ M 96 10 < M' 102 t)
    (hx : ∀ t : Nat, M cc 0 ≤ (t : Int) → (t : Int) < M' cc 0 → M' 102 t ≤ 0 ∨ M 96 10 < M' 102 t → Me (cc + 2) t = M' (cc + 2) t) (hG : gG M tgt1 H1 (d + 1) G1) : a_Ld (yq P) k bg ch r n' G1 (M cc 0).toNat (M (cc + 7) (M cc 0).toNat).toNat (M' cc 0).toNat := by
  have hI := hl.2.2.1
  have hp := hl.2.2.2.2.2.2.2.2.2.2
  have h30 := hI.2.2.1
  refine hp tgt1 k bg ch H1 G1 (lA_sub hI hK hA1 h0 hK.1.1 (Int.le_refl _) fun t t1 t2 => ?_) hC hH1 hH2 hG
  have hpos := (hI.2.2.2.2.1 t t2).2.2.2.2.2.2.2.2.2.1
  rcases hlab t t1 t2 with ⟨q1, q2⟩ | ⟨q1, q2, q3⟩ | q
  · by_cases q : 0 < M' 102 t
    · rw [if_pos ⟨q, q1⟩, if_pos ⟨q, by omega⟩, q2]
    · rw [if_neg (by omega), if_neg (by omega)]
      exact hx t t1 t2 (Or.inl (by omega))
  · rw [if_neg (by omega), if_pos (by omega)]
    exact q3
  · by_cases q4 : M' 102 t ≤ 0
    · rw [if_neg (by omega), if_neg (by omega)]
      exact hx t t1 t2 (Or.inl q4)
    · rw [if_neg (by omega), if_neg (by omega)]
      exact hx t t1 t2 (Or.inr q)
/-- a part sees the same handlers -/
theorem kid_C (hl : lay cc P r (d + 1) n' M M') (h01 : sg cc d M0 M) (hK : lK cc M' Me) (hV : lV cc M' Me) (hR : 0 ≤ M0 21 1) (hC : lC cc Me (M0 21 1) (Me 21 1) H ch (M0 cc 0) (Me cc 0)) : lC cc M' (M 21 1) (M' 21 1) H ch (M cc 0) (M' cc 0) :=
  lC_sub hK hC h01.2.1.1.1 hK.1.1 (Int.le_refl _) fun t t1 t2 _ => by rw [hk_mid h01 hl.2.2.2.1 hV hK hR t1 t2]
theorem kid_H (hl : lay cc P r (d + 1) n' M M') (hg : M0 96 7 ≤ M 96 7) (hK : lK cc M' Me) (hH2 : ∀ y : Nat, M0 96 7 ≤ (y : Int) → (y : Int) < Me 96 7 → H (y : Int) = H (Me 99 y)) : ∀ y : Nat, M 96 7 ≤ (y : Int) → (y : Int) < M' 96 7 → H (y : Int) = H (M' 99 y) := fun y h1 h2 => by
  rw [hH2 y (by omega) (by have := hK.1; omega), (hK.2.2.2.2.1 y h2).2.1]
end SgA
