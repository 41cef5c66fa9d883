/-! USING with a CLOSE: its body is laid -/
section UsA
variable {cc d e b i N n n' r o c g lo : Nat} {P M M' M0 Ma M1 M2 M3 M4 M5 M6 MB Mc Me Mp Mq : yM} {op x y z nd gd lb v L L1 p u ca fr to w l : Int} {tgt tgt1 : Int → Nat} {k : Nat → Nat → Int} {bg : Nat → List Nat} {ch : Nat → List (Int × Int)} {H H1 : Int → List (Int × Int)} {hl : List (Int × Int)} {G G1 : aC} {ly : yM → Int → Int → Option yM} {cs : List tC}
set_option maxHeartbeats 8000000 in
theorem us_27e (hcc : pC cc) (hN : 1000 ≤ N) (hd : d < 90) (hA : pA P) (hs0 : sO cc P d d M0) (hn : nB P d n M0) (h13 : P 7 n = 13) (ih : ihL cc P r d ly) (hs : sO cc P d (d + 1) Ma) (hb : bs cc P d n M0 Ma) (hgk : gK P d n g M0 Ma) (hct : Ma cc 10 ≤ M0 cc 10 + 1 + 2 * (Ma cc 0 - M0 cc 0) ∧ Ma 96 7 ≤ M0 96 7 + 1 + (Ma cc 0 - M0 cc 0) ∧ Ma 96 10 = M0 96 10 ∧ Ma 21 1 = M0 21 1) (he : f_64_27 N ly cc Ma (n : Int) (d : Int) (105 + d) (g : Int) = some M') (h0 : M' cc 1 = 0) (hc : ¬ P 10 n = -1) : ∃ p : Nat, (M' cc 0).toNat = p + 6 ∧ ∀ (tgt : Int → Nat) (k : Nat → Nat → Int) (bg : Nat → List Nat) (ch : Nat → List (Int × Int)) (H : Int → List (Int × Int)) (G : aC), lA cc M' (M0 96 10) tgt k bg (M0 cc 0) (M' cc 0) → lC cc M' (M0 21 1) (M' 21 1) H ch (M0 cc 0) (M' cc 0) → H (-1) = [] → (∀ y : Nat, M0 96 7 ≤ (y : Int) → (y : Int) < M' 96 7 → H (y : Int) = H (M' 99 y)) → gG M0 tgt H d G → a_Ld (yq P) k bg ch r (P 9 n).toNat ((n, G.2.2.2.1, G.2.2.2.2, [(-1, ((p + 2 : Nat) : Int))]) :: G.1, G.2) (Ma cc 0).toNat (Ma (cc + 7) (Ma cc 0).toNat).toNat p := by
  have hr := cc_rg hcc
  have hn7 := nd_lt hA hn
  obtain ⟨ob, oa, oc, oac⟩ := (hA.2.2.2.1 n hn.1).2.2.2.2.2.2.2.2.2.2.1 h13
  have ebc : ∀ q : Int, 0 ≤ q → ((q.toNat : Nat) : Int) = q := fun q hq => Int.toNat_of_nonneg hq
  have hI0 := hs0.2
  have hi1 := hI0.1
  have hi2 := hI0.2.1
  have hi3 := hI0.2.2.1
  have hi4 := hI0.2.2.2.1
  have hnn := hA.1
  have hn1 := hn.1
  have hW0 := hs0.1.2.1.1
  have hWa := hs.1.2.1.1
  have hgd := hs0.1.2.2.2.1 d (Nat.le_refl d)
  have hbK := hb.1.2.1.1
  unfold f_64_27 at he
  rw [ylet_eq, ylet_eq, ylet_eq, pz_s hd] at he
  obtain ⟨hp1, hc1⟩ := cp_47 (M := Ma) hd hb.1.1 hcc
  have hQ3 : lQ cc d Ma (yU (f_47 Ma (d : Int)) (105 + (d + 1)) 0 (g : Int)) := lQ_trans (lQ_47 hcc hd) (lQ_pl hcc hd)
  obtain ⟨v3, W3⟩ := hQ3 hs.1.2.1
  have hp3 : pD d Ma (yU (f_47 Ma (d : Int)) (105 + (d + 1)) 0 (g : Int)) := pD_U hp1
  have c3 : ∀ j, j < 6 → j ≠ 0 → yU (f_47 Ma (d : Int)) (105 + (d + 1)) 0 (g : Int) (105 + (d + 1)) j = M0 (105 + d) j := fun j h1 h2 => by rw [yU_i h2, hc1 j h1]
  have h30 : yU (f_47 Ma (d : Int)) (105 + (d + 1)) 0 (g : Int) (105 + (d + 1)) 0 = (g : Int) := yU_at
  generalize yU (f_47 Ma (d : Int)) (105 + (d + 1)) 0 (g : Int) = M3 at he v3 W3 hp3 c3 h30
  obtain ⟨s3, g3, x3⟩ := pl_ok hcc hd hs hp3
  have b3 := bs_qt hb (qt_pl g3 x3 hp3 hcc)
  have gk3 := gK_K hgk g3.2.1
  have w3 := b3.1
  obtain ⟨M4, e4, v4, W4⟩ := lT_ly ih.1 (x := yrd M3 9 (n : Int)) W3
  rw [e4] at he
  have hP4 : ∀ a j, a ≤ 17 → M4 a j = P a j := fun a j ha => (lw_prog hcc v4 ha).trans (s3.1.1 a j ha)
  have pl4 : ∀ j, M4 (105 + d) j = M0 (105 + d) j := fun j => (lw_pl hcc v4 (Nat.le_refl d) (by omega) j).trans (lw_pl hcc w3.1 (Nat.le_refl d) (by omega) j)
  -- b, once it is known that nothing is too long
  have h31 := c3 1 (by omega) (by omega)
  have h32 := c3 2 (by omega) (by omega)
  have h33 := c3 3 (by omega) (by omega)
  have h34 := c3 4 (by omega) (by omega)
  have h35 := c3 5 (by omega) (by omega)
  have pl3 : ∀ j, M3 (105 + d) j = M0 (105 + d) j := fun j => lw_pl hcc w3.1 (Nat.le_refl d) (by omega) j
  have pl31 := pl3 1
  have wK := w3.2.1.1
  have f0 : M3 cc 0 = Ma cc 0 := hp3 _ _ (by omega)
  have f10 : M3 cc 10 = Ma cc 10 := hp3 _ _ (by omega)
  have f7 : M3 96 7 = Ma 96 7 := hp3 _ _ (by omega)
  have fl : M3 96 10 = Ma 96 10 := hp3 _ _ (by omega)
  have frr : M3 21 1 = Ma 21 1 := hp3 _ _ (by omega)
  have k3 : sO cc P (d + 1) (d + 1) M3 := gd_sO hcc hd hs0 hn w3 s3 gk3 h30 (by omega) (by omega) (by omega) (by omega) (by omega)
  obtain ⟨o1, o2, o3⟩ := hA.2.2.2.2.2.1 (P 9 n).toNat n (by have := ob.1; have := ob.2.1; omega) ob.2.2.1
  rw [if_neg (fun q => by omega)] at o2
  rw [if_neg (by omega)] at o3
  have hnR := hn.2.2.2.2
  have n3 : nB P (d + 1) (P 9 n).toNat M3 := gd_nB hA hcc hd hs0 hn w3 gk3 (w := n) (Or.inl rfl) ⟨ob.1, ob.2.1, ob.2.2.1, ob.2.2.2⟩ (fun q => by omega) (by rw [o1]; exact hn.2.2.1) h30 ⟨fun q => by
    rw [h34]
    exact hnR.1 (by rw [← o3]; exact q), fun q => by
    rw [h33, h31]
    exact hnR.2 (by rw [← o2]; exact q)⟩
  rw [rd_P s3.1.1 ⟨by omega, by omega⟩ hn7] at e4
  have body : M4 cc 1 = 0 → lay cc P r (d + 1) (P 9 n).toNat M3 M4 := fun t4 => ih.2 M3 (P 9 n).toNat M4 k3 n3 (by rw [ebc _ ob.1]; exact e4) t4
  have after : M4 cc 1 = 0 → bs cc P d n M0 M4 ∧ sO cc P d (d + 1) M4 := fun t4 => ⟨bs_lay hd b3 (body t4) (Or.inl ⟨d, Nat.le_refl d, h34.symm⟩) hcc (fun c hc => gd_sf hA hcc hd hs0 w3 gk3 (an_up ob.2.2.1 an_rfl) (fun q => by omega) h30 hc), (lay_out hcc hd s3 k3 (body t4) t4).2⟩
  have hlab3 : ∀ l, l ≤ d + 1 → M3 (105 + l) 4 ≤ M0 96 10 := fun l hl => by
    by_cases q : l ≤ d
    · rw [lw_pl hcc w3.1 q (by omega) 4]
      have := hs0.1.2.2.2.1 l q
      omega
    · have e : l = d + 1 := by omega
      subst e
      omega
  have z37 : M3 (cc + 7) (Ma cc 0).toNat = Ma (cc + 7) (Ma cc 0).toNat := hp3 _ _ (by omega)
  have hRR : 0 ≤ M0 21 1 := by omega
  have he : ylet (M4 cc 0) (fun v9 => cond (yrel 1 (yrd M4 10 (n : Int)) (-1)) (ylet (f_67 M4) fun t11 => ylet t11.2 fun v12 => ylet (f_54 cc t11.1 (n : Int) (t11.1 (105 + d) 0)) fun t13 => ylet (f_46 cc t13 v12 6 0 (n : Int) (t13 (105 + d) 0)) fun t14 => ylet (t14 cc 0) fun v15 => ylet (f_45 cc t14 11 (t14 (105 + d) 1) 0 0 (n : Int) (t14 (105 + d) 0)) fun t16 => ylet (t16 cc 0) fun v17 => ylet (f_54 cc t16 (n : Int) (t16 (105 + d) 0)) fun t18 => ylet (f_45 cc t18 12 (t18 (105 + d) 1) 0 0 (n : Int) (t18 (105 + d) 0)) fun t19 => ylet (t19 cc 0) fun v20 => ylet (f_45 cc t19 19 (t19 (105 + d) 1) 0 0 (n : Int) (t19 (105 + d) 0)) fun t21 => Option.bind (f_69 N cc t21 v12 v9) fun t22 => Option.bind (f_61 N cc t22 (Ma cc 0) v9 (g : Int) v15 (-1)) fun t23 => Option.bind (f_61 N cc t23 v17 (v17 + 1) (t23 (105 + d) 0) v20 (-1)) fun t24 => some t24) (some M4)) = some M' := he
  rw [ylet_eq, rd_P hP4 ⟨by omega, by omega⟩ hn7] at he
  have oc' := oc.resolve_left hc
  have hnp := hA.2.1
  rw [rel1 ⟨by omega, by omega⟩ ⟨by decide, by decide⟩, decide_eq_false hc, show (!false) = true from rfl, cond_true, ylet_eq, f67] at he
  dsimp only at he
  rw [ylet_eq] at he
  have e54 : ∀ M : yM, (∀ a j, a ≤ 17 → M a j = P a j) → ∀ gd : Int, f_54 cc M (n : Int) gd = eM cc M 17 (P 10 n) 0 0 (n : Int) gd 0 := fun M hM gd => by
    unfold f_54
    rw [rd_P hM ⟨by omega, by omega⟩ hn7, ylet_eq, rel0 ⟨by omega, by omega⟩ ⟨by decide, by decide⟩, cond_df hc, ylet_eq, e_45 hcc]
  -- a label
  have hQ5 : lQ cc d M4 (yU M4 96 10 (M4 96 10 + 1)) := lQ_U hcc (by omega)
  obtain ⟨v5, W5⟩ := hQ5 W4
  have m5 : ∀ a j, (a ≠ 96 ∨ j ≠ 10) → yU M4 96 10 (M4 96 10 + 1) a j = M4 a j := fun a j q => yU_ne (by omega)
  have l5 : yU M4 96 10 (M4 96 10 + 1) 96 10 = M4 96 10 + 1 := yU_at
  generalize hM5 : yU M4 96 10 (M4 96 10 + 1) = M5 at he v5 W5 m5 l5
  have hP5 : ∀ a j, a ≤ 17 → M5 a j = P a j := fun a j ha => (lw_prog hcc v5 ha).trans (hP4 a j ha)
  have pl5 : ∀ j, M5 (105 + d) j = M0 (105 + d) j := fun j => (lw_pl hcc v5 (Nat.le_refl d) (by omega) j).trans (pl4 j)
  -- what is laid
  rw [pl5 0, e54 M5 hP5, ylet_eq] at he
  generalize hM6 : eM cc M5 17 (P 10 n) 0 0 (n : Int) (M0 (105 + d) 0) 0 = M6 at he
  have hQ6 : lQ cc d M5 M6 := by rw [← hM6]; exact lQ_eM hcc
  obtain ⟨v6, W6⟩ := hQ6 W5
  have pl6 : ∀ j, M6 (105 + d) j = M0 (105 + d) j := fun j => (lw_pl hcc v6 (Nat.le_refl d) (by omega) j).trans (pl5 j)
  have hP6 : ∀ a j, a ≤ 17 → M6 a j = P a j := fun a j ha => (lw_prog hcc v6 ha).trans (hP5 a j ha)
  rw [pl6 0, e_46 hcc, ylet_eq] at he
  generalize hM7 : eM cc M6 6 0 0 0 (n : Int) (M0 (105 + d) 0) (M4 96 10 + 1) = M7 at he
  have hQ7 : lQ cc d M6 M7 := by rw [← hM7]; exact lQ_eM hcc
  obtain ⟨v7, W7⟩ := hQ7 W6
  have pl7 : ∀ j, M7 (105 + d) j = M0 (105 + d) j := fun j => (lw_pl hcc v7 (Nat.le_refl d) (by omega) j).trans (pl6 j)
  have hP7 : ∀ a j, a ≤ 17 → M7 a j = P a j := fun a j ha => (lw_prog hcc v7 ha).trans (hP6 a j ha)
  rw [ylet_eq, pl7 0, pl7 1, e_45 hcc, ylet_eq] at he
  generalize hM8 : eM cc M7 11 (M0 (105 + d) 1) 0 0 (n : Int) (M0 (105 + d) 0) 0 = M8 at he
  have hQ8 : lQ cc d M7 M8 := by rw [← hM8]; exact lQ_eM hcc
  obtain ⟨v8, W8⟩ := hQ8 W7
  have pl8 : ∀ j, M8 (105 + d) j = M0 (105 + d) j := fun j => (lw_pl hcc v8 (Nat.le_refl d) (by omega) j).trans (pl7 j)
  have hP8 : ∀ a j, a ≤ 17 → M8 a j = P a j := fun a j ha => (lw_prog hcc v8 ha).trans (hP7 a j ha)
  rw [ylet_eq, pl8 0, e54 M8 hP8, ylet_eq] at he
  generalize hM9 : eM cc M8 17 (P 10 n) 0 0 (n : Int) (M0 (105 + d) 0) 0 = M9 at he
  have hQ9 : lQ cc d M8 M9 := by rw [← hM9]; exact lQ_eM hcc
  obtain ⟨v9, W9⟩ := hQ9 W8
  have pl9 : ∀ j, M9 (105 + d) j = M0 (105 + d) j := fun j => (lw_pl hcc v9 (Nat.le_refl d) (by omega) j).trans (pl8 j)
  rw [pl9 0, pl9 1, e_45 hcc, ylet_eq] at he
  generalize hM10 : eM cc M9 12 (M0 (105 + d) 1) 0 0 (n : Int) (M0 (105 + d) 0) 0 = M10 at he
  have hQ10 : lQ cc d M9 M10 := by rw [← hM10]; exact lQ_eM hcc
  obtain ⟨v10, W10⟩ := hQ10 W9
  have pl10 : ∀ j, M10 (105 + d) j = M0 (105 + d) j := fun j => (lw_pl hcc v10 (Nat.le_refl d) (by omega) j).trans (pl9 j)
  rw [ylet_eq, pl10 0, pl10 1, e_45 hcc, ylet_eq] at he
  generalize hM11 : eM cc M10 19 (M0 (105 + d) 1) 0 0 (n : Int) (M0 (105 + d) 0) 0 = M11 at he
  have hQ11 : lQ cc d M10 M11 := by rw [← hM11]; exact lQ_eM hcc
  obtain ⟨v11, W11⟩ := hQ11 W10
  have pl11 : ∀ j, M11 (105 + d) j = M0 (105 + d) j := fun j => (lw_pl hcc v11 (Nat.le_refl d) (by omega) j).trans (pl10 j)
  obtain ⟨M12, e12, v12, W12⟩ := lT_69 (cc := cc) (d := d) (N := N) (M := M11) (x1 := M4 96 10 + 1) (x2 := M4 cc 0) hcc hN W4.1.1 W4.1.2 W11
  rw [e12] at he
  have he : Option.bind (f_61 N cc M12 (Ma cc 0) (M4 cc 0) (g : Int) (M7 cc 0) (-1)) (fun t23 => Option.bind (f_61 N cc t23 (M8 cc 0) (M8 cc 0 + 1) (t23 (105 + d) 0) (M10 cc 0) (-1)) fun t24 => some t24) = some M' := he
  obtain ⟨M13, e13, v13, W13⟩ := lT_61 (cc := cc) (d := d) (N := N) (M := M12) (x1 := Ma cc 0) (x2 := M4 cc 0) (x3 := (g : Int)) (x4 := M7 cc 0) (x5 := -1) hcc hN hWa.1 hWa.2 W4.1.1 (by have := W4.1; omega) W12
  rw [e13] at he
  have he : Option.bind (f_61 N cc M13 (M8 cc 0) (M8 cc 0 + 1) (M13 (105 + d) 0) (M10 cc 0) (-1)) (fun t24 => some t24) = some M' := he
  have pl13 : M13 (105 + d) 0 = M0 (105 + d) 0 := (lw_pl hcc v13 (Nat.le_refl d) (by omega) 0).trans ((lw_pl hcc v12 (Nat.le_refl d) (by omega) 0).trans (pl11 0))
  rw [pl13] at he
  obtain ⟨M14, e14, v14, W14⟩ := lT_61 (cc := cc) (d := d) (N := N) (M := M13) (x1 := M8 cc 0) (x2 := M8 cc 0 + 1) (x3 := M0 (105 + d) 0) (x4 := M10 cc 0) (x5 := -1) hcc hN W8.1.1 W8.1.2 (by have := W8.1; omega) (by have := W8.1; omega) W13
  rw [e14] at he
  have e := Option.some.inj he
  subst e
  have t13 := lw_tl v14 h0
  have t12 := lw_tl v13 t13
  have t11 := lw_tl v12 t12
  have t10 := lw_tl v11 t11
  have t9 := lw_tl v10 t10
  have t8 := lw_tl v9 t9
  have t7 := lw_tl v8 t8
  have t6 := lw_tl v7 t7
  have t5 := lw_tl v6 t6
  have t4 := lw_tl v5 t5
  have L1 := body t4
  obtain ⟨b4, s4⟩ := after t4
  obtain ⟨n11, n12, n13, n14, n15⟩ := id L1.2.2.2.2.2.2.2.1
  rw [f0] at n11 n12 n13 n14 n15
  have K34c := L1.2.2.2.1.1
  have hW4 := W4.1
  have hW5 := W5.1
  have S4 : usS cc P d n g M0 M4 := ⟨⟨s4.1, lI_b s4.2 (by omega) (by omega) (by omega)⟩, b4, gK_K gk3 L1.2.2.2.1⟩
  have E4 : lE cc M4 := L1.2.2.2.2.2.2.2.2.1
  have z50 : M5 cc 0 = M4 cc 0 := m5 _ _ (by omega)
  have z510 : M5 cc 10 = M4 cc 10 := m5 _ _ (by omega)
  have z57 : M5 96 7 = M4 96 7 := m5 _ _ (by omega)
  have z5r : M5 21 1 = M4 21 1 := m5 _ _ (by omega)
  have S5 : usS cc P d n g M0 M5 ∧ sg cc d M4 M5 ∧ lX cc M4 M5 := by
    have h := nlb hcc (by omega) S4.1 (by omega)
    rw [hM5] at h
    obtain ⟨s5, g5, x5⟩ := h
    exact ⟨⟨s5, bs_qt S4.2.1 ⟨g5, x5, z50, fun k => ⟨m5 _ _ (by omega), m5 _ _ (by omega)⟩⟩, gK_K S4.2.2 g5.2.1⟩, g5, x5⟩
  obtain ⟨S5, g5, x5⟩ := S5
  have E5 : lE cc M5 := lE_eq E4 z50 (fun t => m5 _ _ (by omega))
  have hL0 := hs0.2.2.2.1
  obtain ⟨S6, E6, g6, D6⟩ := us_em hcc hd S5 hM6 t6 ⟨⟨by decide, by decide⟩, w2_17 (by omega), fun q => by omega, fun q => by omega, fun _ => by omega, fun q => by omega, fun _ => ⟨by omega, hn1⟩, by omega, by omega, fun q => absurd q (by decide)⟩ (Or.inl rfl)
  obtain ⟨⟨c61, c62, c63, c64, c65, c66⟩, c6X, -⟩ := id D6
  obtain ⟨S7, E7, g7, D7⟩ := us_em hcc hd S6 hM7 t7 ⟨⟨by decide, by decide⟩, w2_6 (by decide), fun _ => by omega, fun q => by omega, fun q => by omega, fun q => by omega, fun _ => ⟨by omega, hn1⟩, by omega, by omega, fun _ => Or.inr rfl⟩ (Or.inr (by omega))
  obtain ⟨⟨c71, c72, c73, c74, c75, c76⟩, c7X, -⟩ := id D7
  obtain ⟨S8, E8, g8, D8⟩ := us_em hcc hd S7 hM8 t8 ⟨⟨by decide, by decide⟩, w2_11 (by omega), fun q => by omega, fun q => by omega, fun q => by omega, fun q => by omega, fun _ => ⟨by omega, hn1⟩, by omega, by omega, fun q => absurd q (by decide)⟩ (Or.inl rfl)
  obtain ⟨⟨c81, c82, c83, c84, c85, c86⟩, c8X, -⟩ := id D8
  obtain ⟨S9, E9, g9, D9⟩ := us_em hcc hd S8 hM9 t9 ⟨⟨by decide, by decide⟩, w2_17 (by omega), fun q => by omega, fun q => by omega, fun _ => by omega, fun q => by omega, fun _ => ⟨by omega, hn1⟩, by omega, by omega, fun q => absurd q (by decide)⟩ (Or.inl rfl)
  obtain ⟨⟨c91, c92, c93, c94, c95, c96⟩, c9X, -⟩ := id D9
  obtain ⟨S10, E10, g10, D10⟩ := us_em hcc hd S9 hM10 t10 ⟨⟨by decide, by decide⟩, w2_12 (by omega), fun q => by omega, fun q => by omega, fun q => by omega, fun q => by omega, fun _ => ⟨by omega, hn1⟩, by omega, by omega, fun q => absurd q (by decide)⟩ (Or.inl rfl)
  obtain ⟨⟨c101, c102, c103, c104, c105, c106⟩, c10X, -⟩ := id D10
  obtain ⟨S11, E11, g11, D11⟩ := us_em hcc hd S10 hM11 t11 ⟨⟨by decide, by decide⟩, w2_19 (by omega), fun q => by omega, fun q => by omega, fun q => by omega, fun q => by omega, fun _ => ⟨by omega, hn1⟩, by omega, by omega, fun q => absurd q (by decide)⟩ (Or.inl rfl)
  obtain ⟨⟨c111, c112, c113, c114, c115, c116⟩, c11X, -⟩ := id D11
  obtain ⟨s12, g12, o12, x12⟩ := stl hcc (by omega) hN (by omega) S11.1 ⟨by omega, by omega⟩ hW4.1 hW4.2 e12
  have b12 := bs_st S11.2.1 g12 o12 x12 (by omega) hcc
  have z120 : M12 cc 0 = M4 cc 0 + 6 := (o12 _ _ (by omega)).trans (by omega)
  have z1210 : M12 cc 10 = M4 cc 10 := (o12 _ _ (by omega)).trans (by omega)
  have z127 : M12 96 7 = M4 96 7 := (o12 _ _ (by omega)).trans (by omega)
  have z12l : M12 96 10 = M4 96 10 + 1 := (o12 _ _ (by omega)).trans (by omega)
  have z12r : M12 21 1 = M4 21 1 := (o12 _ _ (by omega)).trans (by omega)
  have z1211 : M12 cc 11 = M0 cc 11 := b12.1.1.2.2.2
  have gk12 := gK_K S11.2.2 g12.2.1
  have hT4 := tT_s (x := M4 cc 0)
  have hT5 := tT_s (x := M4 cc 0 + 1)
  have hT6 := tT_s (x := M4 cc 0 + 2)
  have hT7 := tT_s (x := M4 cc 0 + 3)
  have hT8 := tT_s (x := M4 cc 0 + 4)
  have hT9 := tT_s (x := M4 cc 0 + 5)
  have hT49 : tT (M4 cc 0 + 6) = tT (M4 cc 0) + 12 * M4 cc 0 + 54 := by
    rw [show M4 cc 0 + 6 = M4 cc 0 + 5 + 1 by omega, hT9, show M4 cc 0 + 5 = M4 cc 0 + 4 + 1 by omega, hT8, show M4 cc 0 + 4 = M4 cc 0 + 3 + 1 by omega, hT7, show M4 cc 0 + 3 = M4 cc 0 + 2 + 1 by omega, hT6, show M4 cc 0 + 2 = M4 cc 0 + 1 + 1 by omega, hT5, hT4]
    omega
  have hI4 := s4.2.2.2.2.1
  have hTa := hs.2.2.2.2.1
  have h11a : Ma cc 11 = M0 cc 11 := hb.1.1.2.2.2
  obtain ⟨s13, w13, k13, x13, D13⟩ := lrw (gb := gbf M12 g) (pl := M7 cc 0) hcc (by omega) hN (by omega) s12 hWa.1 (by omega) (by omega) ⟨by omega, by omega⟩ ⟨Int.le_refl _, by have := hA.2.2.1; omega⟩ (by rw [z120, hT49, z1211, z12r]; omega) (fun t t1 t2 => gb_ok s12.2 (by omega) (by omega) hN gk12.2.1 (by omega)) e13
  have o13 := D13.1
  have D13c := D13.2.1
  have z130 : M13 cc 0 = M4 cc 0 + 6 := (o13 _ _ (by omega) (by omega)).trans z120
  have z1311 : M13 cc 11 = M0 cc 11 := (o13 _ _ (by omega) (by omega)).trans z1211
  have K912 : lK cc M9 M12 := lK_trans g10.2.1 (lK_trans g11.2.1 g12.2.1)
  have h101 : M13 101 (M8 cc 0).toNat = M0 (105 + d) 0 := by
    rw [o13 _ _ (by omega) (by omega), (K912.2.1 (M8 cc 0).toNat (by omega)).1]
    exact D9.2.2.1.1
  obtain ⟨s14, w14, k14, x14, D14⟩ := lrw (gb := fun _ => 1) (pl := M10 cc 0) hcc (by omega) hN (by omega) s13 (by omega) (by omega) (by omega) ⟨by omega, by omega⟩ ⟨Int.le_refl _, by have := hA.2.2.1; omega⟩ (by rw [z130, hT49, z1311]; omega) (fun t t1 t2 => by
    have et : t = (M8 cc 0).toNat := by omega
    subst et
    exact ⟨gd_same hN (by omega) h101 (by omega), Or.inr rfl⟩) e14
  have o14 := D14.1
  have D14c := D14.2.1
  have R13 := rwO_lr (w := 6 * (M4 cc 0 + 1 - Ma cc 0)) (by omega) w13 k13 x13 D13 rfl
  have R14 := rwO_lr (w := 6 * (M8 cc 0 + 1 + 1 - M8 cc 0)) (by omega) w14 k14 x14 D14 rfl
  have z140 : M14 cc 0 = M4 cc 0 + 6 := (o14 _ _ (by omega) (by omega)).trans z130
  have z1410 : M14 cc 10 = M4 cc 10 := (o14 _ _ (by omega) (by omega)).trans ((o13 _ _ (by omega) (by omega)).trans z1210)
  have z147 : M14 96 7 = M4 96 7 := (o14 _ _ (by omega) (by omega)).trans ((o13 _ _ (by omega) (by omega)).trans z127)
  have z14l : M14 96 10 = M4 96 10 + 1 := (o14 _ _ (by omega) (by omega)).trans ((o13 _ _ (by omega) (by omega)).trans z12l)
  have b13 := bs_rw b12 R13 (by omega) (by omega) hcc
  have b14 := bs_rw b13 R14 (by omega) (by omega) hcc
  have K1214 : lK cc M12 M14 := lK_trans k13 k14
  have K5_11 : lK cc M5 M11 := lK_trans g6.2.1 (lK_trans g7.2.1 (lK_trans g8.2.1 (lK_trans g9.2.1 (lK_trans g10.2.1 g11.2.1))))
  have K412 : lK cc M4 M12 := lK_trans g5.2.1 (lK_trans K5_11 g12.2.1)
  have K4e : lK cc M4 M14 := lK_trans K412 K1214
  have Ka4 : lK cc Ma M4 := lK_trans g3.2.1 L1.2.2.2.1
  have g4_12 : sg cc d M4 M12 := sg_trans g5 (sg_trans g6 (sg_trans g7 (sg_trans g8 (sg_trans g9 (sg_trans g10 (sg_trans g11 g12))))))
  have Va4 : lV cc Ma M4 := lV_comp g3.2.2 g3.2.1 L1.2.2.2.2.2.2.1 L1.2.2.2.1
  have Va12 : lV cc Ma M12 := lV_comp Va4 Ka4 g4_12.2.2 g4_12.2.1
  have X5_11 : lX cc M4 M11 := lX_trans x5 (lX_trans c6X (lX_trans c7X (lX_trans c8X (lX_trans c9X (lX_trans c10X c11X (by omega)) (by omega)) (by omega)) (by omega)) (by omega)) (by omega)
  have hxe : ∀ t : Nat, M14 (cc + 2) t = M12 (cc + 2) t := fun t => (o14 _ _ (by omega) (by omega)).trans (o13 _ _ (by omega) (by omega))
  have X4e : lX cc M4 M14 := fun t ht => by
    rw [hxe, x12, if_neg (by omega)]
    exact X5_11 t ht
  refine ⟨(M4 cc 0).toNat, by omega, ?_⟩
  intro tgt k bg ch H G hA1 hC1 hH1 hH2 hG1
  have gk14 := gK_K gk12 K1214
  have hHg : H (g : Int) = H (M0 (105 + d) 0) := by
    rw [hH2 g (by have := gk14.1; omega) (by have := gk14.2.1; omega), gk14.2.2.2.1]
  have hG2 := hG1.2.1
  have hsplit : ∀ t : Nat, hk M14 t (M12 21 1).toNat (M14 21 1 - M12 21 1).toNat = hk M13 t (M12 21 1).toNat (M13 21 1 - M12 21 1).toNat ++ hk M14 t (M13 21 1).toNat (M14 21 1 - M13 21 1).toNat := fun t => hk_two (by omega) D13c.1 k14
  have m12 : ∀ t, M12 (cc + 1) t = M14 (cc + 1) t := fun t => ((o14 _ _ (by omega) (by omega)).trans (o13 _ _ (by omega) (by omega))).symm
  have m13 : ∀ t, M13 (cc + 1) t = M14 (cc + 1) t := fun t => (o14 _ _ (by omega) (by omega)).symm
  have hgt : ∀ t : Nat, on M14 (M14 101 t) g ↔ on M12 (M12 101 t) g := fun t => by
    have e99 : M14 99 = M12 99 := funext fun j => (o14 99 j (by omega) (by omega)).trans (o13 99 j (by omega) (by omega))
    rw [o14 101 t (by omega) (by omega), o13 101 t (by omega) (by omega)]
    have key : ∀ (k : Nat) (u : Int), onc M14 g k u ↔ onc M12 g k u := by
      intro k
      induction k with
      | zero => intro u; exact Iff.rfl
      | succ k ih => intro u; show (0 ≤ u ∧ onc M14 g k (M14 99 u.toNat)) ↔ (0 ≤ u ∧ onc M12 g k (M12 99 u.toNat)); rw [e99, ih]
    exact ⟨fun ⟨k, h⟩ => ⟨k, (key k _).mp h⟩, fun ⟨k, h⟩ => ⟨k, (key k _).mpr h⟩⟩
  have tail1 : ∀ t : Nat, Ma cc 0 ≤ (t : Int) → (t : Int) < M4 cc 0 → a_may (M14 (cc + 1) t) → (on M14 (M14 101 t) g → hk M14 t (M12 21 1).toNat (M14 21 1 - M12 21 1).toNat = [(-1, M7 cc 0)]) ∧ (¬ on M14 (M14 101 t) g → hk M14 t (M12 21 1).toNat (M14 21 1 - M12 21 1).toNat = []) := fun t t1 t2 t3 => by
    obtain ⟨p1, p2⟩ := D13.2.2.2.2 t
    obtain ⟨q1, q2⟩ := D14.2.2.2.2 t
    rw [hsplit, q1 (Or.inl (by omega)), List.append_nil]
    exact ⟨fun q => p2 t1 t2 (gb_on ((hgt t).mp q)) (by rw [m12]; exact t3), fun q => p1 (Or.inr (Or.inr (gb_off fun q2 => q ((hgt t).mpr q2))))⟩
  have A := kid_P (tgt := tgt) (tgt1 := tgt) (H1 := hU M14 g [(-1, M7 cc 0)] H) (G1 := ((n, G.2.2.2.1, G.2.2.2.2, [(-1, M7 cc 0)]) :: G.1, G.2.1, G.2.2.1, G.2.2.2.1, G.2.2.2.2)) (M0 := M0) L1 (by omega) (by omega) hi3.1 K4e hA1 (kid_C2 (Mq := M12) (H1 := hU M14 g [(-1, M7 cc 0)] H) L1 w3 K412 g4_12.2.2 K1214 hRR hC1 (fun t t1 t2 t3 => by
    have f101 : M14 101 t = M4 101 t := (K4e.2.1 t t2).1
    have fm : M14 (cc + 1) t = M4 (cc + 1) t := (K4e.2.1 t t2).2.2 1 (by omega) (by omega) (by omega)
    have T := tail1 t (by omega) t2 (by rw [fm]; exact t3)
    rw [f101] at T
    by_cases q : on M14 (M4 101 t) g
    · rw [T.1 q, hU_on q]
    · rw [T.2 q, hU_off q]; rfl)) (by rw [hU_off on_neg]; exact hH1) (fun y h1 h2 => by
    rw [hU_new (Me := M14) (g := g) (fun y h3 h4 => hH2 y (by have := gk14.1; omega) h4) (by have := gk3.2.1; omega) (by omega), (K4e.2.2.2.2.1 y h2).2.1]) (fun t t1 t2 => by
    rcases lay_lab L1 hlab3 hi3.1 t1 t2 with q | q
    · exact Or.inl ⟨q, rfl⟩
    · exact Or.inr (Or.inr q)) (fun t t1 t2 _ => X4e t t2) (gd_gG hcc hd hs0 w3 gk3 s3 (lK_trans L1.2.2.2.1 K4e) (fun _ _ => rfl) hHg hG1 h30 h32 h34 h35 (by rw [h31]; omega) (by rw [h33]; exact hG1.2.2.2.1.symm))
  rw [f0, z37, show M7 cc 0 = (((M4 cc 0).toNat + 2 : Nat) : Int) by omega] at A
  exact A
end UsA
