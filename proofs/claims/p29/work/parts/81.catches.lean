/-! the CATCHES of a TRY, one by one -/
section ClA
variable {cc d e b i N n n' r o c g : Nat} {P M M' M0 M1 M2 M3 MB Mc Me Mp Mq : yM} {op x y z nd gd lb v L L1 p u ca fr to : Int} {tgt tgt1 : Int → Nat} {k : Nat → Nat → Int} {bg : Nat → List Nat} {ch : Nat → List (Int × Int)} {H H1 : Int → List (Int × Int)} {hl : List (Int × Int)} {G G1 : aC} {ly : yM → Int → Int → Option yM}
/-- handlers of a part: what rows behind all code add -/
theorem kid_C2 (L1 : lay cc P r (d + 1) n' Mp M') (h01 : sg cc d M0 Mp) (hKq : lK cc M' Mq) (hVq : lV cc M' Mq) (hKe : lK cc Mq Me) (hR : 0 ≤ M0 21 1) (hC : lC cc Me (M0 21 1) (Me 21 1) H ch (M0 cc 0) (Me cc 0)) (ht : ∀ t : Nat, Mp cc 0 ≤ (t : Int) → (t : Int) < M' cc 0 → a_may (M' (cc + 1) t) → hk Me t (Mq 21 1).toNat (Me 21 1 - Mq 21 1).toNat ++ H (M' 101 t) = H1 (M' 101 t)) : lC cc M' (Mp 21 1) (M' 21 1) H1 ch (Mp cc 0) (M' cc 0) := by
  have hK := lK_trans hKq hKe
  refine lC_sub hK hC h01.2.1.1.1 hK.1.1 (Int.le_refl _) fun t t1 t2 t3 => ?_
  have c1 := h01.2.1.1
  have c2 := L1.2.2.2.1.1
  have c3 := hKq.1
  have c4 := hKe.1
  rw [show (Me 21 1 - M0 21 1).toNat = (Mq 21 1 - M0 21 1).toNat + (Me 21 1 - Mq 21 1).toNat by omega, hk_add, show (M0 21 1).toNat + (Mq 21 1 - M0 21 1).toNat = (Mq 21 1).toNat by omega]
  rw [hk_eq (M := Mq) (M' := Me) (Mq 21 1 - M0 21 1).toNat (fun j hj => hKe.2.2.2.2.2 j (by omega)), hk_mid h01 L1.2.2.2.1 hVq hKq hR t1 t2, List.append_assoc, ht t t1 t2 t3]
/-- counts, as seen from before -/
def lNc (cc : Nat) (M M' : yM) : Prop := M' cc 10 ≤ M cc 10 + 2 * (M' cc 0 - M cc 0) ∧ M' 96 7 ≤ M 96 7 + (M' cc 0 - M cc 0) ∧ M' 96 10 ≤ M 96 10 + (M' cc 0 - M cc 0)
/-- what a FINALLY is, within ca CAUGHTS -/
def fnP (cc : Nat) (P : yM) (r d n : Nat) (ca : Int) (M0 M M' : yM) : Prop := ∀ (Mq Me : yM) (tgt : Int → Nat) (k : Nat → Nat → Int) (bg : Nat → List Nat) (ch : Nat → List (Int × Int)) (H : Int → List (Int × Int)) (G : aC),
  lK cc M' Mq → lV cc M' Mq → lK cc Mq Me → lA cc Me (M0 96 10) tgt k bg (M0 cc 0) (Me cc 0) → lC cc Me (M0 21 1) (Me 21 1) H ch (M0 cc 0) (Me cc 0) → H (-1) = [] → (∀ y : Nat, M0 96 7 ≤ (y : Int) → (y : Int) < Me 96 7 → H (y : Int) = H (Me 99 y)) → gG M0 tgt H d G →
  (∀ t : Nat, M cc 0 ≤ (t : Int) → (t : Int) < M' cc 0 → M' 102 t ≠ M0 96 10 + 1 → Me (cc + 2) t = M' (cc + 2) t) → (∀ t : Nat, M cc 0 ≤ (t : Int) → (t : Int) < M' cc 0 → a_may (M' (cc + 1) t) → hk Me t (Mq 21 1).toNat (Me 21 1 - Mq 21 1).toNat = []) → P 8 n ≠ -1 →
  a_Ld (yq P) k bg ch r (P 8 n).toNat (G.1, ca.toNat, G.2.2.1 + 1, G.2.2.2) (M cc 0).toNat 0 (M' cc 0).toNat
/-- a FINALLY, if there is one -/
theorem fn_st (hC : trC cc P d n M0) (ih : ihL cc P r d ly) (h : trS cc P d n g M0 M) (hE : lE cc M) (hca : M0 (105 + d) 1 ≤ ca ∧ ca ≤ (d : Int) + 1) (he : f_55 ly cc M (n : Int) (d : Int) ca = some M') (h0 : M' cc 1 = 0) : trS cc P d n g M0 M' ∧ lE cc M' ∧ sg cc d M M' ∧ lX cc M M' ∧ (∀ c, own P n c → M' 103 c = M 103 c ∧ M' 104 c = M 104 c) ∧ 12 * (M' 21 1 - M 21 1) + tT (M cc 0) ≤ tT (M' cc 0) ∧ ((P 8 n = -1 ∧ M' = M) ∨ (P 8 n ≠ -1 ∧ M cc 0 < M' cc 0 ∧ 12 * (M' 21 1 - M 21 1) + tT (M cc 0) + 2 * M cc 0 + 4 ≤ tT (M' cc 0))) ∧ lNc cc M M' ∧ fnP cc P r d n ca M0 M M' := by
  by_cases hfin : P 8 n = -1
  · obtain ⟨hcc, hd, hA, hs0, hn, h11⟩ := hC
    unfold f_55 at he
    rw [rd_P h.1.1.1 ⟨by omega, by omega⟩ (nd_lt hA hn), ylet_eq, hfin, show yrel 0 (-1) (-1) = true from rfl, cond_true] at he
    have e := Option.some.inj he
    subst e
    exact ⟨h, hE, sg_refl, fun _ _ => rfl, fun _ _ => ⟨rfl, rfl⟩, by omega, Or.inl ⟨hfin, rfl⟩, ⟨by omega, by omega, by omega⟩, fun _ _ _ _ _ _ _ _ _ _ _ _ _ _ _ _ _ _ q => absurd hfin q⟩
  · obtain ⟨Mp, ⟨⟨z0, z10, z7, zl, zr⟩, z67, g1, x1, L1, hlab, hown⟩, hT, hGk⟩ := fin_ok hC ih h hca hfin he h0
    obtain ⟨hcc, hd, hA, hs0, hn, h11⟩ := hC
    obtain ⟨n11, n12, n13, n14, n15⟩ := id L1.2.2.2.2.2.2.2.1
    rw [z0] at n15 n11
    have hlt := h.2.2.2.1
    have hlen := h.2.1.1.2.1.1
    have hW := h.1.1.2.1.1
    have hi3 := hs0.2.2.2.1
    have hi4 := hs0.2.2.2.2.1
    have hW2 := hT.1.1.2.1.1
    refine ⟨hT, L1.2.2.2.2.2.2.2.2.1, sg_trans g1 (sg_mono (Nat.le_succ d) ⟨L1.1, L1.2.2.2.1, L1.2.2.2.2.2.2.1⟩), lX_trans x1 L1.2.2.2.2.1 (by omega), fun c hc => ⟨(hown c hc).2.2.1, (hown c hc).2.2.2⟩, by omega, Or.inr ⟨hfin, by omega, by omega⟩, ⟨by omega, by omega, by omega⟩, ?_⟩
    intro Mq Me tgt k bg ch H G hKq hVq hKe hA1 hC1 hH1 hH2 hG hx ht _
    have hK := lK_trans hKq hKe
    have A := kid_P (tgt := tgt) (tgt1 := tgt) (G1 := (G.1, ca.toNat, G.2.2.1 + 1, G.2.2.2)) (M0 := M0) L1 (by omega) (by omega) hi3.1 hK hA1 (kid_C2 (H1 := H) L1 (sg_trans h.2.1.1 g1) hKq hVq hKe (by omega) hC1 (fun t t1 t2 t3 => by rw [ht t (by omega) t2 t3]; rfl)) hH1 (kid_H L1 (by omega) hK hH2) (fun t t1 t2 => by
      rcases lay_lab L1 hlab hi3.1 t1 t2 with q | q
      · exact Or.inl ⟨q, rfl⟩
      · exact Or.inr (Or.inr q)) (fun t t1 t2 q => hx t (by omega) t2 (by omega)) (hGk tgt tgt H G (fun _ _ => rfl) hG)
    rw [z67, z0, hE _ (by omega) (by omega)] at A
    exact A
/-- the way around what comes behind -/
theorem sk_ok (hC : trC cc P d n M0) (h : trS cc P d n g M0 M) (hM' : eM cc M 6 0 0 0 (n : Int) (M0 (105 + d) 0) (M0 96 10 + 1) = M') (h0 : M' cc 1 = 0) : trS cc P d n g M0 M' ∧ lE cc M' ∧ sg cc d M M' ∧ eD cc M M' 6 0 0 0 (n : Int) (M0 (105 + d) 0) (M0 96 10 + 1) := by
  obtain ⟨hcc, hd, hA, hs0, hn, h11⟩ := id hC
  have hgd := hs0.1.2.2.2.1 d (Nat.le_refl d)
  have hW := h.1.1.2.1.1
  have hK := h.2.1.1.2.1.1
  have hL := h.2.2.2.1
  have hi3 := hs0.2.2.2.1
  obtain ⟨s1, g1, D1⟩ := em hcc (by omega) h.1 hM' h0 ⟨⟨by decide, by decide⟩, w2_6 (by decide), fun _ => by omega, fun q => by omega, fun q => by omega, fun q => by omega, fun _ => ⟨by omega, hn.1⟩, by omega, by omega, fun _ => Or.inr rfl⟩
  exact ⟨trS_K hC h s1 (bs_em h.2.1 g1 D1 (Or.inr (Or.inr (by omega))) (by omega)) g1.2.1, lE_em h.1.2 D1, g1, D1⟩
/-- what the CATCHES are -/
def ctP (cc : Nat) (P : yM) (r d n g : Nat) (M0 M Mc : yM) (cs : List tC) : Prop := ∀ (Mq Me : yM) (tgt : Int → Nat) (k : Nat → Nat → Int) (bg : Nat → List Nat) (ch : Nat → List (Int × Int)) (H : Int → List (Int × Int)) (hl : List (Int × Int)) (G : aC),
  lK cc Mc Mq → lV cc Mc Mq → lK cc Mq Me → lA cc Me (M0 96 10) tgt k bg (M0 cc 0) (Me cc 0) → lC cc Me (M0 21 1) (Me 21 1) H ch (M0 cc 0) (Me cc 0) → H (-1) = [] → (∀ y : Nat, M0 96 7 ≤ (y : Int) → (y : Int) < Me 96 7 → H (y : Int) = H (Me 99 y)) → gG M0 tgt H d G →
  (∀ t : Nat, M cc 0 ≤ (t : Int) → (t : Int) < Mc cc 0 → Mc 102 t ≠ M0 96 10 + 1 → Me (cc + 2) t = Mc (cc + 2) t) → (∀ t : Nat, M cc 0 ≤ (t : Int) → (t : Int) < Mc cc 0 → Mc 102 t = M0 96 10 + 1 → Me (cc + 2) t = Me cc 0) →
  (∀ c, c ∈ cs → ∀ t : Nat, c.2.1 ≤ t → t < c.2.2 → a_may (Me (cc + 1) t) → hk Me t (Mq 21 1).toNat (Me 21 1 - Mq 21 1).toNat ++ H (Me 101 t) = hU Me g hl H (Me 101 t)) →
  (∀ t : Nat, M cc 0 ≤ (t : Int) → (t : Int) < Mc cc 0 → (∀ c, c ∈ cs → ¬ (c.2.1 ≤ t ∧ t < c.2.2)) → a_may (Me (cc + 1) t) → hk Me t (Mq 21 1).toNat (Me 21 1 - Mq 21 1).toNat = []) →
  a_ct (yq P) k bg (a_Ld (yq P) k bg ch r) G (n, G.2.2.2.1, G.2.2.2.2, hl) (P 8 n) (Me cc 0).toNat (cs.map fun c => (c.1, c.2.1)) (M cc 0).toNat (Mc cc 0).toNat
theorem ordc_lo : ∀ (cs : List tC) (a b : Nat), a ≤ b → ordc b cs → ordc a cs
  | [], _, _, _, _ => trivial
  | _ :: _, _, _, h, ho => ⟨Nat.le_trans h ho.1, ho.2⟩
theorem ordc_mem : ∀ (cs : List tC) (lo : Nat), ordc lo cs → ∀ c, c ∈ cs → lo ≤ c.2.1 ∧ c.2.1 ≤ c.2.2
  | [], _, _, _, h => absurd h List.not_mem_nil
  | c :: cs, lo, h, c', hc' => by
    obtain ⟨h1, h2, h3⟩ := h
    rcases List.mem_cons.mp hc' with rfl | hc'
    · exact ⟨h1, h2⟩
    · have := ordc_mem cs _ h3 c' hc'
      exact ⟨by omega, this.2⟩
theorem lV_comp (h1 : lV cc M M1) (k1 : lK cc M M1) (h2 : lV cc M1 M2) (k2 : lK cc M1 M2) : lV cc M M2 := fun r r1 r2 => by
  have c1 := k1.1
  have c2 := k2.1
  by_cases q : (r : Int) < M1 21 1
  · rw [k2.2.2.2.2.2 (4 * r) (by omega), k2.2.2.2.2.2 (4 * r + 1) (by omega)]
    have := h1 r r1 q
    omega
  · have := h2 r (by omega) r2
    omega
set_option maxRecDepth 8000 in
theorem cl_ok (hC : trC cc P d n M0) (hN : 1000 ≤ N) (ih : ihL cc P r d ly) (hfr : 0 ≤ fr ∧ fr ≤ 300) (hto : 0 ≤ to ∧ to ≤ 300) : ∀ (fu : Nat) (M M' : yM) (x left : Int), trS cc P d n g M0 M → lE cc M → to ≤ M cc 0 → (x = -1 ∨ (0 ≤ x ∧ own P n x.toNat)) → x < left → 0 ≤ left → left ≤ 90 → left < fu → f_63_63 N ly cc fu M (n : Int) (d : Int) (105 + d) (g : Int) (M0 96 10 + 1) (P 8 n) fr to x left = some M' → M' cc 1 = 0 →
    ∃ (cs : List tC) (Mc : yM), f_63_100 N ly cc Mc (n : Int) (d : Int) (105 + d) (g : Int) (M0 96 10 + 1) (P 8 n) fr to = some M' ∧ trS cc P d n g M0 Mc ∧ lE cc Mc ∧ sg cc d M Mc ∧ lX cc M Mc ∧ a_chain (yq P) x (cs.map fun c => c.1) ∧ (cs.length : Int) ≤ x + 1 ∧ ordc (M cc 0).toNat cs ∧
      (∀ c, c ∈ cs → own P n c.1 ∧ (c.1 : Int) ≤ x ∧ Mc 103 c.1 = (c.2.1 : Int) ∧ Mc 104 c.1 = (c.2.2 : Int) ∧ (c.2.2 : Int) ≤ Mc cc 0 ∧ (c.2.1 : Int) < Mc cc 0) ∧ (∀ c, own P n c → x < (c : Int) → Mc 103 c = M 103 c ∧ Mc 104 c = M 104 c) ∧
      12 * (Mc 21 1 - M 21 1) + tT (M cc 0) + ck (6 * to + 12) cs ≤ tT (Mc cc 0) + (2 * to + 4) ∧ (P 8 n ≠ -1 → cw cs ≤ 6 * (Mc cc 0 - M cc 0)) ∧ (cs = [] → Mc = M) ∧ lNc cc M Mc ∧ ctP cc P r d n g M0 M Mc cs
  | 0, _, _, _, left, _, _, _, _, _, _, _, h, _, _ => absurd h (by omega)
  | fu + 1, M, M', x, left, h, hE, hto2, hx, hxl, hl0, hl9, hlf, he, h0 => by
    obtain ⟨hcc, hd, hA, hs0, hn, h11⟩ := id hC
    have hr := cc_rg hcc
    have hnn := hA.1
    have hn1 := hn.1
    rcases hx with hx | ⟨hx0, hown⟩
    · subst hx
      rw [f_63_63, show yrel 2 (-1) 0 = true from rfl, cond_true] at he
      refine ⟨[], M, he, h, hE, sg_refl, fun _ _ => rfl, rfl, by decide, trivial, fun c hc => absurd hc List.not_mem_nil, fun _ _ _ => ⟨rfl, rfl⟩, ?_, fun _ => by show (0 : Int) ≤ _; omega, fun _ => rfl, ⟨by omega, by omega, by omega⟩, fun _ _ _ _ _ _ _ _ _ _ _ _ _ _ _ _ _ _ _ _ _ => rfl⟩
      show 12 * (M 21 1 - M 21 1) + tT (M cc 0) + 0 ≤ _
      omega
    · have ex : ((x.toNat : Nat) : Int) = x := Int.toNat_of_nonneg hx0
      generalize hcx : x.toNat = c at hown ex
      subst ex
      obtain ⟨oc12, ocn⟩ := own_12 hown
      have oclt := own_lt hA hown
      obtain ⟨oa, ob, oc⟩ := (hA.2.2.2.1 c ocn).2.2.2.2.2.2.2.2.2.1 oc12
      have hc90 : c < 90 := by omega
      rw [f_63_63, rel2 ⟨by omega, by omega⟩ ⟨by decide, by decide⟩, cond_df (by omega), rel5 ⟨by omega, by omega⟩ ⟨by decide, by decide⟩, cond_df (by omega)] at he
      obtain ⟨M1, e1, v1, W1⟩ := lT_52 (x1 := (c : Int)) (x3 := (g : Int)) hcc hd ih.1 h.1.1.2.1
      rw [e1] at he
      have he : Option.bind (f_55 ly cc M1 (n : Int) (d : Int) (M1 (105 + d) 1)) (fun t26 => ylet (yrd t26 10 (c : Int)) fun v27 => cond (yrel 1 v27 (-1)) (f_63_90 N ly cc (f_63_63 N ly cc fu) t26 (n : Int) (d : Int) (105 + d) (g : Int) (M0 96 10 + 1) (P 8 n) fr to v27 left) (cond (yrel 0 (P 8 n) (-1)) (f_63_98 N ly cc (f_63_63 N ly cc fu) t26 (n : Int) (d : Int) (105 + d) (g : Int) (M0 96 10 + 1) (P 8 n) fr to v27 left) (f_63_90 N ly cc (f_63_63 N ly cc fu) t26 (n : Int) (d : Int) (105 + d) (g : Int) (M0 96 10 + 1) (P 8 n) fr to v27 left))) = some M' := he
      have pl1 : ∀ j, M1 (105 + d) j = M0 (105 + d) j := fun j => (lw_pl hcc v1 (Nat.le_refl d) (by omega) j).trans (lw_pl hcc h.2.1.1.1 (Nat.le_refl d) (by omega) j)
      obtain ⟨M2, e2, v2, W2⟩ := lT_55 (x1 := (n : Int)) (x3 := M1 (105 + d) 1) hcc hd ih.1 W1
      rw [e2] at he
      have he : ylet (yrd M2 10 (c : Int)) (fun v27 => cond (yrel 1 v27 (-1)) (f_63_90 N ly cc (f_63_63 N ly cc fu) M2 (n : Int) (d : Int) (105 + d) (g : Int) (M0 96 10 + 1) (P 8 n) fr to v27 left) (cond (yrel 0 (P 8 n) (-1)) (f_63_98 N ly cc (f_63_63 N ly cc fu) M2 (n : Int) (d : Int) (105 + d) (g : Int) (M0 96 10 + 1) (P 8 n) fr to v27 left) (f_63_90 N ly cc (f_63_63 N ly cc fu) M2 (n : Int) (d : Int) (105 + d) (g : Int) (M0 96 10 + 1) (P 8 n) fr to v27 left))) = some M' := he
      have hP2 : ∀ a j, a ≤ 17 → M2 a j = P a j := fun a j ha => ((lw_prog hcc v2 ha).trans (lw_prog hcc v1 ha)).trans (h.1.1.1 a j ha)
      have pl2 : ∀ j, M2 (105 + d) j = M0 (105 + d) j := fun j => (lw_pl hcc v2 (Nat.le_refl d) (by omega) j).trans (pl1 j)
      rw [pl1 1] at e2
      rw [ylet_eq, rd_P hP2 ⟨by omega, by omega⟩ hc90] at he
      have hnx : P 10 c = -1 ∨ (0 ≤ P 10 c ∧ P 10 c < (c : Int) ∧ own P n (P 10 c).toNat) := by
        rcases oc with q | q
        · exact Or.inl q
        · exact Or.inr ⟨q.1, q.2.1, own_next hown q ocn⟩
      -- the state behind what goes around
      have stp : ∃ M3, ((P 10 c = -1 ∧ P 8 n = -1 ∧ M3 = M2) ∨ (¬ (P 10 c = -1 ∧ P 8 n = -1) ∧ eM cc M2 6 0 0 0 (n : Int) (M0 (105 + d) 0) (M0 96 10 + 1) = M3)) ∧ f_63_63 N ly cc fu M3 (n : Int) (d : Int) (105 + d) (g : Int) (M0 96 10 + 1) (P 8 n) fr to (P 10 c) (left + -1) = some M' ∧ lW cc M3 ∧ lw cc d M2 M3 := by
        have h90 : ∀ {X : yM} {w : Int}, f_63_90 N ly cc (f_63_63 N ly cc fu) M2 (n : Int) (d : Int) (105 + d) (g : Int) (M0 96 10 + 1) (P 8 n) fr to w left = f_63_63 N ly cc fu (eM cc M2 6 0 0 0 (n : Int) (M0 (105 + d) 0) (M0 96 10 + 1)) (n : Int) (d : Int) (105 + d) (g : Int) (M0 96 10 + 1) (P 8 n) fr to w (left + -1) := fun {X w} => by
          unfold f_63_90 f_63_98
          rw [ylet_eq, e_46 hcc, pl2 0]
        have hQ := lQ_eM (d := d) (M := M2) (x1 := 6) (x2 := 0) (x3 := 0) (x4 := 0) (x5 := (n : Int)) (x6 := M0 (105 + d) 0) (v := M0 96 10 + 1) hcc W2
        by_cases q1 : P 10 c = -1
        · rw [q1, show yrel 1 (-1) (-1) = false from rfl, cond_false] at he
          by_cases q2 : P 8 n = -1
          · rw [q2, show yrel 0 (-1) (-1) = true from rfl, cond_true] at he
            refine ⟨M2, Or.inl ⟨q1, q2, rfl⟩, ?_, W2, fun _ _ _ _ _ _ _ _ => rfl, rfl, id, rfl⟩
            rw [q1, q2]
            exact he
          · obtain ⟨oa', -⟩ := (hA.2.2.2.1 n hn.1).2.2.2.2.2.2.2.2.1 h11
            have of := oa'.resolve_left q2
            rw [rel0 ⟨by have := of.1; omega, by have := of.2.1; omega⟩ ⟨by decide, by decide⟩, cond_df q2, h90 (X := M2)] at he
            refine ⟨_, Or.inr ⟨fun q => q2 q.2, rfl⟩, ?_, hQ.2, hQ.1⟩
            rw [q1]
            exact he
        · have q3 := hnx.resolve_left q1
          rw [rel1 ⟨by omega, by omega⟩ ⟨by decide, by decide⟩, decide_eq_false q1, show (!false) = true from rfl, cond_true, h90 (X := M2)] at he
          exact ⟨_, Or.inr ⟨fun q => q1 q.1, rfl⟩, he, hQ.2, hQ.1⟩
      obtain ⟨M3, hM3, he3, W3, v3⟩ := stp
      obtain ⟨Mx, ex, vx, -⟩ := lT_63_63 (N := N) (x1 := (n : Int)) (x4 := (g : Int)) (x5 := M0 96 10 + 1) (x6 := P 8 n) (r3 := 105 + d) hcc hN hd ih.1 hfr hto fu (M := M3) (x9 := P 10 c) (x10 := left + -1) (by omega) (by omega) (by omega) W3
      have exx : Mx = M' := Option.some.inj (ex.symm.trans he3)
      subst exx
      have t3 := lw_tl vx h0
      have t2 := lw_tl v3 t3
      have t1 := lw_tl v2 t2
      have hgd := hs0.1.2.2.2.1 d (Nat.le_refl d)
      obtain ⟨Mp, M5, ⟨⟨z0, z10, z7, zl, zr⟩, gMp, xMp, L1, hlab, zz, o6, ⟨k3, k4⟩, kn, ⟨p1, p2, p3, p4⟩⟩, T1, E1, g1, hGk⟩ := ct_ok hC ih h hE hown e1 t1
      obtain ⟨T2, E2, g2, x2, own2, r2, f2, N2, F2⟩ := fn_st hC ih T1 E1 ⟨Int.le_refl _, by omega⟩ e2 t2
      obtain ⟨n11, n12, n13, n14, n15⟩ := id L1.2.2.2.2.2.2.2.1
      have hT1 := tT_s (x := M cc 0)
      have y0 : M1 cc 0 = M5 cc 0 := o6 _ _ (by omega)
      rw [← z0, hT1, ← y0] at n15
      have yr : M1 21 1 = M5 21 1 := o6 _ _ (by omega)
      have K2c := g2.2.1.1
      have K1c := g1.2.1.1
      have W5 := T1.1.1.2.1.1
      have hi3 := hs0.2.2.2.1
      have hi4 := hs0.2.2.2.2.1
      -- in both cases
      have st3 : trS cc P d n g M0 M3 ∧ lE cc M3 ∧ sg cc d M2 M3 ∧ lX cc M2 M3 ∧ (∀ k, M3 103 k = M2 103 k ∧ M3 104 k = M2 104 k) ∧ ((P 10 c = -1 ∧ P 8 n = -1 ∧ M3 = M2) ∨ (¬ (P 10 c = -1 ∧ P 8 n = -1) ∧ eD cc M2 M3 6 0 0 0 (n : Int) (M0 (105 + d) 0) (M0 96 10 + 1))) := by
        rcases hM3 with ⟨q1, q2, rfl⟩ | ⟨q1, q2⟩
        · exact ⟨T2, E2, sg_refl, fun _ _ => rfl, fun _ => ⟨rfl, rfl⟩, Or.inl ⟨q1, q2, rfl⟩⟩
        · obtain ⟨a1, a2, a3, a4⟩ := sk_ok hC T2 q2 t3
          exact ⟨a1, a2, a3, a4.2.1, a4.2.2.2.2.2.1, Or.inr ⟨q1, a4⟩⟩
      obtain ⟨T3, E3, g3, x3, o3, D3⟩ := st3
      have K3c := g3.2.1.1
      have hT3 := tT_s (x := M2 cc 0)
      obtain ⟨cs, Mc, i1, i2, i3, i4, i5, i6, i7, i8, i9, i10, i11, i12, i13, N4, i14⟩ := cl_ok hC hN ih hfr hto fu M3 Mx (P 10 c) (left + -1) T3 E3 (by omega) (by
        rcases hnx with q | q
        · exact Or.inl q
        · exact Or.inr ⟨q.1, q.2.2⟩) (by rcases hnx with q | q <;> omega) (by omega) (by omega) (by omega) he3 h0
      have K4c := i4.2.1.1
      have hnxl : P 10 c < (c : Int) := by rcases hnx with q | q <;> omega
      have hM3len : ∀ {Q : Prop}, (P 10 c = -1 ∧ P 8 n = -1 ∧ M3 = M2 → Q) → (¬ (P 10 c = -1 ∧ P 8 n = -1) ∧ eD cc M2 M3 6 0 0 0 (n : Int) (M0 (105 + d) 0) (M0 96 10 + 1) → Q) → Q := fun {Q} a b => by
        rcases D3 with q | q
        · exact a q
        · exact b q
      have e103 : Mc 103 c = M cc 0 ∧ Mc 104 c = M1 cc 0 := by
        have a1 := i10 c hown hnxl
        have a2 := o3 c
        have a3 := own2 c hown
        constructor
        · rw [a1.1, a2.1, a3.1, k3]
        · rw [a1.2, a2.2, a3.2, k4]
      have hlen : ((((c, (M cc 0).toNat, (M1 cc 0).toNat) : tC) :: cs).length : Int) = cs.length + 1 := by rw [List.length_cons]; omega
      have hWM := h.1.1.2.1.1
      have hWc := i2.1.1.2.1.1
      refine ⟨(c, (M cc 0).toNat, (M1 cc 0).toNat) :: cs, Mc, i1, i2, i3, sg_trans g1 (sg_trans g2 (sg_trans g3 i4)), ?_, ⟨rfl, i6⟩, by rw [hlen]; omega, ⟨Nat.le_refl _, by show (M cc 0).toNat ≤ (M1 cc 0).toNat; omega, ordc_lo cs _ _ (by show (M1 cc 0).toNat ≤ _; omega) i8⟩, fun c' hc' => ?_, fun c' hc' hlt => ?_, ?_, fun hq => ?_, fun q => absurd q (List.cons_ne_nil _ _), ?_, ?_⟩
      · refine lX_trans (fun t ht => (o6 _ _ (by omega)).trans ((L1.2.2.2.2.1 t (by omega)).trans (xMp t ht))) (lX_trans x2 (lX_trans x3 i5 (by omega)) (by omega)) (by omega)
      · rcases List.mem_cons.mp hc' with rfl | hc'
        · refine ⟨hown, Int.le_refl _, by rw [e103.1]; show M cc 0 = (((M cc 0).toNat : Nat) : Int); omega, by rw [e103.2]; show M1 cc 0 = (((M1 cc 0).toNat : Nat) : Int); omega, by show (((M1 cc 0).toNat : Nat) : Int) ≤ _; omega, by show (((M cc 0).toNat : Nat) : Int) < _; omega⟩
        · obtain ⟨a1, a2, a3, a4, a5, a6⟩ := i9 c' hc'
          exact ⟨a1, by omega, a3, a4, a5, a6⟩
      · have a1 := i10 c' hc' (by omega)
        have a2 := o3 c'
        have a3 := own2 c' hc'
        have a4 := kn c' hc' (by omega)
        exact ⟨a1.1.trans (a2.1.trans (a3.1.trans a4.1)), a1.2.trans (a2.2.trans (a3.2.trans a4.2))⟩
      · show _ + (6 * to + 12 + ck (6 * to + 12) cs) ≤ _
        refine hM3len (fun q => ?_) (fun q => ?_)
        · have hcs : cs = [] := by
            rw [q.1] at i6
            cases cs with
            | nil => rfl
            | cons c' cs' => exact absurd (show (-1 : Int) = (c'.1 : Int) from i6.1) (by omega)
          have hck : ck (6 * to + 12) cs = 0 := by rw [hcs]; rfl
          have hMc := i13 hcs
          rw [hMc, q.2.2, hck]
          omega
        · obtain ⟨y1, y2, y3, y4, y5, y6⟩ := q.2.1
          rw [y2, hT3] at i11
          omega
      · show 6 * ((((M1 cc 0).toNat : Nat) : Int) + 1 - (((M cc 0).toNat : Nat) : Int)) + cw cs ≤ _
        have a1 := i12 hq
        refine hM3len (fun q => absurd q.2.1 hq) (fun q => ?_)
        obtain ⟨y1, y2, y3, y4, y5, y6⟩ := q.2.1
        rcases f2 with f2 | f2
        · exact absurd f2.1 hq
        · omega
      · have y10 : M1 cc 10 = M5 cc 10 := o6 _ _ (by omega)
        have y7 : M1 96 7 = M5 96 7 := o6 _ _ (by omega)
        have yl : M1 96 10 = M5 96 10 := o6 _ _ (by omega)
        obtain ⟨b1, b2, b3⟩ := N2
        obtain ⟨b4, b5, b6⟩ := N4
        refine hM3len (fun q => ?_) (fun q => ?_)
        · have hMM := q.2.2
          rw [hMM] at b4 b5 b6
          exact ⟨by omega, by omega, by omega⟩
        · obtain ⟨c1, c2, c3, c4, c5, c6⟩ := q.2.1
          exact ⟨by omega, by omega, by omega⟩
      · intro Mq Me tgt k bg ch H hl G hKq hVq hKe hA1 hC1 hH1 hH2 hG hx1 hx2 ht1 ht2
        have Kce : lK cc Mc Me := lK_trans hKq hKe
        have K3e : lK cc M3 Me := lK_trans i4.2.1 Kce
        have K2e : lK cc M2 Me := lK_trans g3.2.1 K3e
        have K1e : lK cc M1 Me := lK_trans g2.2.1 K2e
        have K51 : lK cc M5 M1 := by
          refine ⟨⟨by omega, by rw [o6 cc 10 (by omega)]; exact Int.le_refl _, by rw [o6 96 7 (by omega)]; exact Int.le_refl _, by rw [o6 96 10 (by omega)]; exact Int.le_refl _, by omega⟩, fun t _ => ⟨o6 _ _ (by omega), o6 _ _ (by omega), fun c _ _ _ => o6 _ _ (by omega)⟩, fun t _ _ => ⟨by rw [o6 (cc + 7) t (by omega)]; exact Int.le_refl _, fun _ => o6 _ _ (by omega)⟩, fun k _ => o6 _ _ (by omega), fun y _ => ⟨o6 _ _ (by omega), o6 _ _ (by omega), o6 _ _ (by omega)⟩, fun k _ => o6 _ _ (by omega)⟩
        have K5e : lK cc M5 Me := lK_trans K51 K1e
        have K5q : lK cc M5 Mq := lK_trans K51 (lK_trans g2.2.1 (lK_trans g3.2.1 (lK_trans i4.2.1 hKq)))
        have V5q : lV cc M5 Mq := by
          have V1 : lV cc M1 Mq := lV_comp g2.2.2 g2.2.1 (lV_comp g3.2.2 g3.2.1 (lV_comp i4.2.2 i4.2.1 hVq hKq) (lK_trans i4.2.1 hKq)) (lK_trans g3.2.1 (lK_trans i4.2.1 hKq))
          exact lV_comp (fun r r1 r2 => absurd r2 (by omega)) K51 V1 (lK_trans g2.2.1 (lK_trans g3.2.1 (lK_trans i4.2.1 hKq)))
        have K5c : lK cc M5 Mc := lK_trans K51 (lK_trans g2.2.1 (lK_trans g3.2.1 i4.2.1))
        have X5c : lX cc M5 Mc := lX_trans (fun t _ => o6 _ _ (by omega)) (lX_trans x2 (lX_trans x3 i5 (by omega)) (by omega)) (by omega)
        have X2c : lX cc M2 Mc := lX_trans x3 i5 (by omega)
        have Kec := Kce.1
        have gK2 := T2.2.2.1
        have gKM := h.2.2.1
        have hM0M := h.2.1.1.2.1.1
        have hcsm := ordc_mem cs _ i8
        -- its CAUGHT
        obtain ⟨a1, a2, a3, a4, a5, a6⟩ := hA1 (M cc 0).toNat (by omega) (by omega)
        obtain ⟨j1, j2, j3⟩ := K5e.2.1 (M cc 0).toNat (by omega)
        have hKc102 : ∀ t : Nat, (t : Int) < M5 cc 0 → Mc 102 t = M5 102 t := fun t ht => (K5c.2.1 t ht).2.1
        have hmex : ∀ t : Nat, M cc 0 ≤ (t : Int) → (t : Int) < M5 cc 0 → M5 102 t ≠ M0 96 10 + 1 → Me (cc + 2) t = M5 (cc + 2) t := fun t t1 t2 t3 => by
          rw [hx1 t t1 (by omega) (by rw [hKc102 t t2]; exact t3)]
          exact X5c t t2
        have hHg : H (g : Int) = H (M0 (105 + d) 0) := by
          have e1 := hH2 g (by have := gK2.1; omega) (by have := gK2.2.1; have := K2e.1; omega)
          rw [e1, (K2e.2.2.2.2.1 g gK2.2.1).2.1, gK2.2.2.2.1]
        have hG2 := hG.2.1
        refine ⟨rfl, ?_, ?_, ?_, (M1 cc 0).toNat, (M2 cc 0).toNat, ?_, ?_, ?_⟩
        · rw [a6, bgl_K (by
            have hI5 := L1.2.2.1
            exact hI5) K5e (by omega), p4]
        · rw [a1, j3 1 (by omega) (by omega) (by omega), p1]
        · rw [a5, j2, p3, if_neg (by omega), hmex _ (by omega) (by omega) (by rw [p3]; omega), p2]; omega
        · have A := kid_P (tgt := tgt) (tgt1 := tgt) (H1 := hU Me g hl H) (G1 := ((n, G.2.2.2.1, G.2.2.2.2, hl) :: G.1, G.2.1 + 1, G.2.2.1, (G.2.1 : Int), G.2.2.2.2)) (M0 := M0) L1 (by omega) (by omega) hi3.1 K5e hA1 (kid_C2 (H1 := hU Me g hl H) L1 (sg_trans h.2.1.1 gMp) K5q V5q hKe (by omega) hC1 (fun t t1 t2 t3 => by
            obtain ⟨f1, f2, f3⟩ := K5e.2.1 t t2
            have := ht1 (c, (M cc 0).toNat, (M1 cc 0).toNat) List.mem_cons_self t (by show (M cc 0).toNat ≤ t; omega) (by show t < (M1 cc 0).toNat; omega) (by rw [f3 1 (by omega) (by omega) (by omega)]; exact t3)
            rw [f1] at this
            exact this)) (by rw [hU_off on_neg]; exact hH1) (fun y h1 h2 => by
            rw [hU_new (Me := Me) (g := g) (fun y h3 h4 => hH2 y (by have := gKM.1; omega) h4) (by have := gKM.2.1; omega) (by have := K5e.1; omega), (K5e.2.2.2.2.1 y h2).2.1]) (fun t t1 t2 => by
            rcases lay_lab L1 hlab hi3.1 t1 t2 with q | q
            · exact Or.inl ⟨q, rfl⟩
            · exact Or.inr (Or.inr q)) (fun t t1 t2 q => hmex t (by omega) t2 (by have := h.2.2.2.1; omega)) (hGk Me tgt tgt H hl G (lK_trans L1.2.2.2.1 K5e) (fun _ _ => rfl) hHg hG)
          rw [zz _ (by omega) (by omega), show (Mp cc 0).toNat = (M cc 0).toNat + 1 by omega, ← y0] at A
          exact A
        · show a_fn _ _ _ _ _
          unfold a_fn
          rcases f2 with f2 | f2
          · rw [if_pos f2.1, f2.2]
          · rw [if_neg f2.1]
            have A := F2 Mq Me tgt k bg ch H G (lK_trans g3.2.1 (lK_trans i4.2.1 hKq)) (lV_comp g3.2.2 g3.2.1 (lV_comp i4.2.2 i4.2.1 hVq hKq) (lK_trans i4.2.1 hKq)) hKe hA1 hC1 hH1 hH2 hG (fun t t1 t2 t3 => by
              have e102 : Mc 102 t = M2 102 t := ((lK_trans g3.2.1 i4.2.1).2.1 t t2).2.1
              rw [hx1 t (by omega) (by omega) (by rw [e102]; exact t3)]
              exact X2c t t2) (fun t t1 t2 t3 => by
              refine ht2 t (by omega) (by omega) (fun c' hc' => ?_) (by rw [(K2e.2.1 t t2).2.2 1 (by omega) (by omega) (by omega)]; exact t3)
              rcases List.mem_cons.mp hc' with rfl | hc'
              · show ¬ ((M cc 0).toNat ≤ t ∧ t < (M1 cc 0).toNat)
                omega
              · have := hcsm c' hc'
                omega) f2.1
            rw [show (M0 (105 + d) 1).toNat = G.2.1 by omega] at A
            exact A
        · refine hM3len (fun q => ?_) (fun q => ?_)
          · have hcs : cs = [] := by
              rw [q.1] at i6
              cases cs with
              | nil => rfl
              | cons c' cs' => exact absurd (show (-1 : Int) = (c'.1 : Int) from i6.1) (by omega)
            rw [if_pos ⟨by rw [hcs]; rfl, q.2.1⟩, i13 hcs, q.2.2]
          · obtain ⟨⟨y1, y2, y3, y4, y5, y6⟩, yX, ⟨ua, ub, u1, u2, u3, u4, u5⟩, u67, u8, uc, up⟩ := q.2
            have hne : ¬ ((List.map (fun c => (c.1, c.2.1)) cs) = [] ∧ P 8 n = -1) := fun q2 => q.1 ⟨by
              have hcs : cs = [] := List.map_eq_nil_iff.mp q2.1
              rw [hcs] at i6
              exact i6, q2.2⟩
            rw [if_neg hne]
            obtain ⟨b1, b2, b3, b4, b5, b6⟩ := hA1 (M2 cc 0).toNat (by omega) (by omega)
            obtain ⟨l1, l2, l3⟩ := K3e.2.1 (M2 cc 0).toNat (by omega)
            have l102 : Mc 102 (M2 cc 0).toNat = M0 96 10 + 1 := by rw [(i4.2.1.2.1 (M2 cc 0).toNat (by omega)).2.1, ub]
            have hMe0 : 0 ≤ Me cc 0 := by omega
            refine ⟨?_, by rw [b1, l3 1 (by omega) (by omega) (by omega), u1], ?_, ?_⟩
            · rw [b6]
              refine bgl_0 ?_
              rw [l3 7 (by omega) (by omega) (by omega), (u67 _).1]
              exact E2 _ (by omega) (by omega)
            · rw [b5, l2, ub, if_neg (by omega), hx2 _ (by omega) (by omega) l102]; omega
            · have A := i14 Mq Me tgt k bg ch H hl G hKq hVq hKe hA1 hC1 hH1 hH2 hG (fun t t1 t2 t3 => hx1 t (by omega) t2 t3) (fun t t1 t2 t3 => hx2 t (by omega) t2 t3) (fun c' hc' => ht1 c' (List.mem_cons_of_mem _ hc')) (fun t t1 t2 t3 t4 => ht2 t (by omega) t2 (fun c' hc' => by
                rcases List.mem_cons.mp hc' with rfl | hc'
                · show ¬ ((M cc 0).toNat ≤ t ∧ t < (M1 cc 0).toNat)
                  omega
                · exact t3 c' hc') t4)
              rw [y2, show (M2 cc 0 + 1).toNat = (M2 cc 0).toNat + 1 by omega] at A
              exact A
end ClA
