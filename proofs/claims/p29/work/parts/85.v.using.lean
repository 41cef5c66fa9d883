/-! USING is laid -/
/-- within a USING: n its node, g its guard -/
def usS (cc : Nat) (P : yM) (d n g : Nat) (M0 M : yM) : Prop := sO cc P d d M ∧ bs cc P d n M0 M ∧ gK P d n g M0 M
/-- the USING from behind its OPEN on -/
def usP (cc : Nat) (P : yM) (r d n : Nat) (M0 Ma M' : yM) : Prop := ∀ (tgt : Int → Nat) (k : Nat → Nat → Int) (bg : Nat → List Nat) (ch : Nat → List (Int × Int)) (H : Int → List (Int × Int)) (G : aC),
  lA cc M' (M0 96 10) tgt k bg (M0 cc 0) (M' cc 0) → lC cc M' (M0 21 1) (M' 21 1) H ch (M0 cc 0) (M' cc 0) → H (-1) = [] → (∀ y : Nat, M0 96 7 ≤ (y : Int) → (y : Int) < M' 96 7 → H (y : Int) = H (M' 99 y)) → gG M0 tgt H d G →
  ∃ (p : Nat) (hs : List (Int × Int)), a_Ld (yq P) k bg ch r (P 9 n).toNat ((n, G.2.2.2.1, G.2.2.2.2, hs) :: G.1, G.2) (Ma cc 0).toNat (Ma (cc + 7) (Ma cc 0).toNat).toNat p ∧
    (if P 10 n = -1 then hs = [] ∧ (M' cc 0).toNat = p else (hs = [(-1, ((p + 2 : Nat) : Int))] ∧ (M' cc 0).toNat = p + 6 ∧
      (bg p = [] ∧ k 1 p = 17 ∧ k 2 p = P 10 n ∧ k 5 p = (n : Int) ∧ ch p = a_hs G.1) ∧
      (bg (p + 1) = [] ∧ k 1 (p + 1) = 6 ∧ k 2 (p + 1) = (((M' cc 0).toNat : Nat) : Int)) ∧
      (bg (p + 2) = [] ∧ k 1 (p + 2) = 11 ∧ k 2 (p + 2) = (G.2.1 : Int)) ∧
      (bg (p + 3) = [] ∧ k 1 (p + 3) = 17 ∧ k 2 (p + 3) = P 10 n ∧ k 5 (p + 3) = (n : Int) ∧ ch (p + 3) = (-1, ((p + 5 : Nat) : Int)) :: a_hs G.1) ∧
      (bg (p + 4) = [] ∧ k 1 (p + 4) = 12 ∧ k 2 (p + 4) = (G.2.1 : Int) ∧ ch (p + 4) = a_hs G.1) ∧
      (bg (p + 5) = [] ∧ k 1 (p + 5) = 19 ∧ k 2 (p + 5) = (G.2.1 : Int) ∧ ch (p + 5) = a_hs G.1)))
section UsA
variable {cc d e b i N n n' r o c g lo : Nat} {P M M' M0 Ma M1 M2 M3 M4 M5 M6 MB Mc Me Mp Mq : yM} {op x y z nd gd lb v L L1 p u ca fr to w l : Int} {tgt tgt1 : Int → Nat} {k : Nat → Nat → Int} {bg : Nat → List Nat} {ch : Nat → List (Int × Int)} {H H1 : Int → List (Int × Int)} {hl : List (Int × Int)} {G G1 : aC} {ly : yM → Int → Int → Option yM} {cs : List tC}
/-- an instruction of the USING's own -/
theorem us_em (hcc : pC cc) (hd : d < 90) (h : usS cc P d n g M0 M) (hM' : eM cc M op x y z (n : Int) gd lb = M') (h0 : M' cc 1 = 0) (ho : eO cc P M op x y z (n : Int) gd lb) (hlb : lb = 0 ∨ M0 96 10 < lb) : usS cc P d n g M0 M' ∧ lE cc M' ∧ sg cc d M M' ∧ eD cc M M' op x y z (n : Int) gd lb := by
  obtain ⟨s1, g1, D1⟩ := em hcc (by omega) h.1 hM' h0 ho
  exact ⟨⟨s1, bs_em h.2.1 g1 D1 (by rcases hlb with q | q; exact Or.inl q; exact Or.inr (Or.inr q)) h.1.1.2.1.1.1, gK_K h.2.2 g1.2.1⟩, lE_em h.1.2 D1, g1, D1⟩
theorem lV_rw (h : lV cc M M1) (hk : lK cc M M1) (hr : rwO cc d M1 M2 w fr to) (hf : M cc 0 ≤ fr) (ht : to ≤ M2 cc 0) : lV cc M M2 := fun r q1 q2 => by
  obtain ⟨r1, r2, r3, r4, r5, r6⟩ := hr
  have c1 := hk.1
  have c2 := r2.1
  by_cases q : (r : Int) < M1 21 1
  · rw [r2.2.2.2.2.2 (4 * r) (by omega), r2.2.2.2.2.2 (4 * r + 1) (by omega)]
    have := h r q1 q
    omega
  · have := r6 r (by omega) q2
    omega
set_option maxRecDepth 8000 in
set_option maxHeartbeats 8000000 in
theorem us_27a (hcc : pC cc) (hN : 1000 ≤ N) (hd : d < 90) (hA : pA P) (hs0 : sO cc P d d M0) (hn : nB P d n M0) (h13 : P 7 n = 13) (ih : ihL cc P r d ly) (hs : sO cc P d (d + 1) Ma) (hb : bs cc P d n M0 Ma) (hgk : gK P d n g M0 Ma) (hct : Ma cc 10 ≤ M0 cc 10 + 1 + 2 * (Ma cc 0 - M0 cc 0) ∧ Ma 96 7 ≤ M0 96 7 + 1 + (Ma cc 0 - M0 cc 0) ∧ Ma 96 10 = M0 96 10 ∧ Ma 21 1 = M0 21 1) (he : f_64_27 N ly cc Ma (n : Int) (d : Int) (105 + d) (g : Int) = some M') (h0 : M' cc 1 = 0) (hc : P 10 n = -1) :
    sO cc P d d M' ∧ bs cc P d n M0 M' ∧ lE cc M' ∧ lK cc Ma M' ∧ lX cc Ma M' ∧ lV cc Ma M' ∧ (Ma cc 0 < M' cc 0 ∧ M' cc 10 + 1 ≤ Ma cc 10 + 2 * (M' cc 0 - Ma cc 0) ∧ M' 96 7 + 1 ≤ Ma 96 7 + (M' cc 0 - Ma cc 0) ∧ M' 96 10 + 1 ≤ Ma 96 10 + (M' cc 0 - Ma cc 0) ∧ 12 * (M' 21 1 - Ma 21 1) + tT (Ma cc 0) + 2 * Ma cc 0 + 4 ≤ tT (M' cc 0)) ∧ (P 10 n ≠ -1 → M' cc 10 + 2 ≤ Ma cc 10 + 2 * (M' cc 0 - Ma cc 0) ∧ M' 96 7 + 2 ≤ Ma 96 7 + (M' cc 0 - Ma cc 0)) ∧ usP cc P r d n M0 Ma M' := by
  have hr := cc_rg hcc
  have hn7 := nd_lt hA hn
  obtain ⟨ob, oa, oc, oac⟩ := (hA.2.2.2.1 n hn.1).2.2.2.2.2.2.2.2.2.2.1 h13
  have ebc : ∀ q : Int, 0 ≤ q → ((q.toNat : Nat) : Int) = q := fun q hq => Int.toNat_of_nonneg hq
  have hI0 := hs0.2
  have hi1 := hI0.1
  have hi2 := hI0.2.1
  have hi3 := hI0.2.2.1
  have hi4 := hI0.2.2.2.1
  have hnn := hA.1
  have hn1 := hn.1
  have hW0 := hs0.1.2.1.1
  have hWa := hs.1.2.1.1
  have hgd := hs0.1.2.2.2.1 d (Nat.le_refl d)
  have hbK := hb.1.2.1.1
  unfold f_64_27 at he
  rw [ylet_eq, ylet_eq, ylet_eq, pz_s hd] at he
  obtain ⟨hp1, hc1⟩ := cp_47 (M := Ma) hd hb.1.1 hcc
  have hQ3 : lQ cc d Ma (yU (f_47 Ma (d : Int)) (105 + (d + 1)) 0 (g : Int)) := lQ_trans (lQ_47 hcc hd) (lQ_pl hcc hd)
  obtain ⟨v3, W3⟩ := hQ3 hs.1.2.1
  have hp3 : pD d Ma (yU (f_47 Ma (d : Int)) (105 + (d + 1)) 0 (g : Int)) := pD_U hp1
  have c3 : ∀ j, j < 6 → j ≠ 0 → yU (f_47 Ma (d : Int)) (105 + (d + 1)) 0 (g : Int) (105 + (d + 1)) j = M0 (105 + d) j := fun j h1 h2 => by rw [yU_i h2, hc1 j h1]
  have h30 : yU (f_47 Ma (d : Int)) (105 + (d + 1)) 0 (g : Int) (105 + (d + 1)) 0 = (g : Int) := yU_at
  generalize yU (f_47 Ma (d : Int)) (105 + (d + 1)) 0 (g : Int) = M3 at he v3 W3 hp3 c3 h30
  obtain ⟨s3, g3, x3⟩ := pl_ok hcc hd hs hp3
  have b3 := bs_qt hb (qt_pl g3 x3 hp3 hcc)
  have gk3 := gK_K hgk g3.2.1
  have w3 := b3.1
  obtain ⟨M4, e4, v4, W4⟩ := lT_ly ih.1 (x := yrd M3 9 (n : Int)) W3
  rw [e4] at he
  have hP4 : ∀ a j, a ≤ 17 → M4 a j = P a j := fun a j ha => (lw_prog hcc v4 ha).trans (s3.1.1 a j ha)
  have pl4 : ∀ j, M4 (105 + d) j = M0 (105 + d) j := fun j => (lw_pl hcc v4 (Nat.le_refl d) (by omega) j).trans (lw_pl hcc w3.1 (Nat.le_refl d) (by omega) j)
  -- b, once it is known that nothing is too long
  have h31 := c3 1 (by omega) (by omega)
  have h32 := c3 2 (by omega) (by omega)
  have h33 := c3 3 (by omega) (by omega)
  have h34 := c3 4 (by omega) (by omega)
  have h35 := c3 5 (by omega) (by omega)
  have pl3 : ∀ j, M3 (105 + d) j = M0 (105 + d) j := fun j => lw_pl hcc w3.1 (Nat.le_refl d) (by omega) j
  have pl31 := pl3 1
  have wK := w3.2.1.1
  have f0 : M3 cc 0 = Ma cc 0 := hp3 _ _ (by omega)
  have f10 : M3 cc 10 = Ma cc 10 := hp3 _ _ (by omega)
  have f7 : M3 96 7 = Ma 96 7 := hp3 _ _ (by omega)
  have fl : M3 96 10 = Ma 96 10 := hp3 _ _ (by omega)
  have frr : M3 21 1 = Ma 21 1 := hp3 _ _ (by omega)
  have k3 : sO cc P (d + 1) (d + 1) M3 := gd_sO hcc hd hs0 hn w3 s3 gk3 h30 (by omega) (by omega) (by omega) (by omega) (by omega)
  obtain ⟨o1, o2, o3⟩ := hA.2.2.2.2.2.1 (P 9 n).toNat n (by have := ob.1; have := ob.2.1; omega) ob.2.2.1
  rw [if_neg (fun q => by omega)] at o2
  rw [if_neg (by omega)] at o3
  have hnR := hn.2.2.2.2
  have n3 : nB P (d + 1) (P 9 n).toNat M3 := gd_nB hA hcc hd hs0 hn w3 gk3 (w := n) (Or.inl rfl) ⟨ob.1, ob.2.1, ob.2.2.1, ob.2.2.2⟩ (fun q => by omega) (by rw [o1]; exact hn.2.2.1) h30 ⟨fun q => by
    rw [h34]
    exact hnR.1 (by rw [← o3]; exact q), fun q => by
    rw [h33, h31]
    exact hnR.2 (by rw [← o2]; exact q)⟩
  rw [rd_P s3.1.1 ⟨by omega, by omega⟩ hn7] at e4
  have body : M4 cc 1 = 0 → lay cc P r (d + 1) (P 9 n).toNat M3 M4 := fun t4 => ih.2 M3 (P 9 n).toNat M4 k3 n3 (by rw [ebc _ ob.1]; exact e4) t4
  have after : M4 cc 1 = 0 → bs cc P d n M0 M4 ∧ sO cc P d (d + 1) M4 := fun t4 => ⟨bs_lay hd b3 (body t4) (Or.inl ⟨d, Nat.le_refl d, h34.symm⟩) hcc (fun c hc => gd_sf hA hcc hd hs0 w3 gk3 (an_up ob.2.2.1 an_rfl) (fun q => by omega) h30 hc), (lay_out hcc hd s3 k3 (body t4) t4).2⟩
  have hlab3 : ∀ l, l ≤ d + 1 → M3 (105 + l) 4 ≤ M0 96 10 := fun l hl => by
    by_cases q : l ≤ d
    · rw [lw_pl hcc w3.1 q (by omega) 4]
      have := hs0.1.2.2.2.1 l q
      omega
    · have e : l = d + 1 := by omega
      subst e
      omega
  have z37 : M3 (cc + 7) (Ma cc 0).toNat = Ma (cc + 7) (Ma cc 0).toNat := hp3 _ _ (by omega)
  have hRR : 0 ≤ M0 21 1 := by omega
  have he : ylet (M4 cc 0) (fun v9 => cond (yrel 1 (yrd M4 10 (n : Int)) (-1)) (ylet (f_67 M4) fun t11 => ylet t11.2 fun v12 => ylet (f_54 cc t11.1 (n : Int) (t11.1 (105 + d) 0)) fun t13 => ylet (f_46 cc t13 v12 6 0 (n : Int) (t13 (105 + d) 0)) fun t14 => ylet (t14 cc 0) fun v15 => ylet (f_45 cc t14 11 (t14 (105 + d) 1) 0 0 (n : Int) (t14 (105 + d) 0)) fun t16 => ylet (t16 cc 0) fun v17 => ylet (f_54 cc t16 (n : Int) (t16 (105 + d) 0)) fun t18 => ylet (f_45 cc t18 12 (t18 (105 + d) 1) 0 0 (n : Int) (t18 (105 + d) 0)) fun t19 => ylet (t19 cc 0) fun v20 => ylet (f_45 cc t19 19 (t19 (105 + d) 1) 0 0 (n : Int) (t19 (105 + d) 0)) fun t21 => Option.bind (f_69 N cc t21 v12 v9) fun t22 => Option.bind (f_61 N cc t22 (Ma cc 0) v9 (g : Int) v15 (-1)) fun t23 => Option.bind (f_61 N cc t23 v17 (v17 + 1) (t23 (105 + d) 0) v20 (-1)) fun t24 => some t24) (some M4)) = some M' := he
  rw [ylet_eq, rd_P hP4 ⟨by omega, by omega⟩ hn7] at he
  rw [hc, show yrel 1 (-1) (-1) = false from rfl, cond_false] at he
  have e := Option.some.inj he
  subst e
  have L1 := body h0
  obtain ⟨b4, s4⟩ := after h0
  obtain ⟨n11, n12, n13, n14, n15⟩ := id L1.2.2.2.2.2.2.2.1
  rw [f0] at n11 n12 n13 n14 n15
  have K4 : lK cc Ma M4 := lK_trans g3.2.1 L1.2.2.2.1
  refine ⟨⟨s4.1, lI_b s4.2 (by omega) (by omega) (by omega)⟩, b4, L1.2.2.2.2.2.2.2.2.1, K4, lX_trans x3 L1.2.2.2.2.1 (by omega), lV_comp g3.2.2 g3.2.1 L1.2.2.2.2.2.2.1 L1.2.2.2.1, ⟨by omega, by omega, by omega, by omega, by omega⟩, fun q => absurd hc q, ?_⟩
  intro tgt k bg ch H G hA1 hC1 hH1 hH2 hG1
  have gk4 := gK_K gk3 L1.2.2.2.1
  have hHg : H (g : Int) = H (M0 (105 + d) 0) := by
    rw [hH2 g (by have := gk4.1; omega) (by have := gk4.2.1; omega), gk4.2.2.2.1]
  have hG2 := hG1.2.1
  refine ⟨(M4 cc 0).toNat, [], ?_, by rw [if_pos hc]; exact ⟨rfl, rfl⟩⟩
  have A := kid_P (tgt := tgt) (tgt1 := tgt) (H1 := hU M4 g [] H) (G1 := ((n, G.2.2.2.1, G.2.2.2.2, []) :: G.1, G.2.1, G.2.2.1, G.2.2.2.1, G.2.2.2.2)) (M0 := M0) L1 (by omega) (by omega) hi3.1 lK_refl hA1 (kid_C2 (H1 := hU M4 g [] H) L1 w3 lK_refl (fun r r1 r2 => absurd r2 (by omega)) lK_refl hRR hC1 (fun t t1 t2 t3 => by
    rw [show (M4 21 1 - M4 21 1).toNat = 0 by omega]
    by_cases q : on M4 (M4 101 t) g
    · rw [hU_on q]; rfl
    · rw [hU_off q]; rfl)) (by rw [hU_off on_neg]; exact hH1) (fun y h1 h2 => hU_new (fun y h3 h4 => hH2 y (by have := gk4.1; omega) h4) (by have := gk3.2.1; omega) h2) (fun t t1 t2 => by
    rcases lay_lab L1 hlab3 hi3.1 t1 t2 with q | q
    · exact Or.inl ⟨q, rfl⟩
    · exact Or.inr (Or.inr q)) (fun t t1 t2 _ => rfl) (gd_gG hcc hd hs0 w3 gk3 s3 L1.2.2.2.1 (fun _ _ => rfl) hHg hG1 h30 h32 h34 h35 (by rw [h31]; omega) (by rw [h33]; exact hG1.2.2.2.1.symm))
  rw [f0, z37] at A
  exact A
end UsA
