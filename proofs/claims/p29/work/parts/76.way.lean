/-! ways out -/
/-- a stretch of a way out: over the guards gs, those further out are rest -/
def a_wy (q : Nat → Nat → Int) (k : Nat → Nat → Int) (bg : Nat → List Nat) (ch : Nat → List (Int × Int)) (P : Nat → aC → Nat → Nat → Nat → Prop) (rest : List aG) (d h : Nat) : List aG → Nat → Nat → Nat → Nat → Prop
  | [], i, j, i', j' => i' = i ∧ j' = j
  | g :: gs, i, j, i', j' =>
    if q 0 g.1 = 13 then (if q 3 g.1 = -1 then a_wy q k bg ch P rest d h gs i j i' j' else ((bg i).length = j ∧ k 1 i = 17 ∧ k 2 i = q 3 g.1 ∧ k 5 i = (g.1 : Int) ∧ ch i = a_hs (gs ++ rest) ∧ a_wy q k bg ch P rest d h gs (i + 1) 0 i' j'))
    else if q 1 g.1 = -1 then a_wy q k bg ch P rest d h gs i j i' j' else ∃ m, P (q 1 g.1).toNat (gs ++ rest, d, h + 1, g.2.1, g.2.2.1) i j m ∧ a_wy q k bg ch P rest d h gs m 0 i' j'
section WyA
variable {q : Nat → Nat → Int} {k : Nat → Nat → Int} {bg : Nat → List Nat} {ch : Nat → List (Int × Int)} {Pd : Nat → aC → Nat → Nat → Nat → Prop} {rest : List aG} {d h lt lg i' j' : Nat}
theorem wy_wo (h1 : (bg i').length = j') (h2 : k 1 i' = 8) (h3 : k 2 i' = (h : Int)) : ∀ (gs : List aG) (i j : Nat), a_wy q k bg ch Pd [] d h gs i j i' j' → a_wo q k bg ch Pd gs d h i j
  | [], i, j, hw => by
    obtain ⟨rfl, rfl⟩ := hw
    exact ⟨h1, h2, h3⟩
  | g :: gs, i, j, hw => by
    unfold a_wy at hw
    unfold a_wo
    by_cases q1 : q 0 g.1 = 13
    · rw [if_pos q1] at hw ⊢
      by_cases q2 : q 3 g.1 = -1
      · rw [if_pos q2] at hw ⊢
        exact wy_wo h1 h2 h3 gs i j hw
      · rw [if_neg q2] at hw ⊢
        obtain ⟨w1, w2, w3, w4, w5, w6⟩ := hw
        rw [List.append_nil] at w5
        exact ⟨w1, w2, w3, w4, w5, wy_wo h1 h2 h3 gs _ _ w6⟩
    · rw [if_neg q1] at hw ⊢
      by_cases q2 : q 1 g.1 = -1
      · rw [if_pos q2] at hw ⊢
        exact wy_wo h1 h2 h3 gs i j hw
      · rw [if_neg q2] at hw ⊢
        obtain ⟨m, w1, w2⟩ := hw
        rw [List.append_nil] at w1
        exact ⟨m, w1, wy_wo h1 h2 h3 gs _ _ w2⟩
theorem wy_wb (hl : rest.length = lg) (h1 : (bg i').length = j') (h2 : k 1 i' = 6) (h3 : k 2 i' = (lt : Int)) : ∀ (gs : List aG) (i j : Nat), a_wy q k bg ch Pd rest d h gs i j i' j' → a_wb q k bg ch Pd lt lg (gs ++ rest) d h i j
  | [], i, j, hw => by
    obtain ⟨rfl, rfl⟩ := hw
    cases rest with
    | nil => exact ⟨hl.symm, h1, h2, h3⟩
    | cons g gs =>
      show a_wb q k bg ch Pd lt lg (g :: gs) d h _ _
      unfold a_wb
      rw [if_pos (show gs.length + 1 = lg from hl)]
      exact ⟨h1, h2, h3⟩
  | g :: gs, i, j, hw => by
    show a_wb q k bg ch Pd lt lg (g :: (gs ++ rest)) d h i j
    unfold a_wy at hw
    unfold a_wb
    rw [if_neg (by rw [List.length_append]; omega)]
    by_cases q1 : q 0 g.1 = 13
    · rw [if_pos q1] at hw ⊢
      by_cases q2 : q 3 g.1 = -1
      · rw [if_pos q2] at hw ⊢
        exact wy_wb hl h1 h2 h3 gs i j hw
      · rw [if_neg q2] at hw ⊢
        obtain ⟨w1, w2, w3, w4, w5, w6⟩ := hw
        exact ⟨w1, w2, w3, w4, w5, wy_wb hl h1 h2 h3 gs _ _ w6⟩
    · rw [if_neg q1] at hw ⊢
      by_cases q2 : q 1 g.1 = -1
      · rw [if_pos q2] at hw ⊢
        exact wy_wb hl h1 h2 h3 gs i j hw
      · rw [if_neg q2] at hw ⊢
        obtain ⟨m, w1, w2⟩ := hw
        exact ⟨m, w1, wy_wb hl h1 h2 h3 gs _ _ w2⟩
end WyA
/-- what a way out was, over the guards from y on that are to be left -/
def wyP (cc : Nat) (P : yM) (r d : Nat) (M0 M M' : yM) (y u : Int) : Prop := ∀ (Me : yM) (tgt : Int → Nat) (k : Nat → Nat → Int) (bg : Nat → List Nat) (ch : Nat → List (Int × Int)) (H : Int → List (Int × Int)) (gs : List aG) (kk : Nat),
  lK cc M' Me → lX cc M' Me → lV cc M' Me → (M' cc 0 < Me cc 0 ∧ Me cc 0 ≤ 300) → lA cc Me (M0 96 10) tgt k bg (M0 cc 0) (Me cc 0) → lC cc Me (M0 21 1) (Me 21 1) H ch (M0 cc 0) (Me cc 0) → H (-1) = [] → (∀ y : Nat, M0 96 7 ≤ (y : Int) → (y : Int) < Me 96 7 → H (y : Int) = H (Me 99 y)) → gR M tgt H y gs → gdr M kk y u →
  a_wy (yq P) k bg ch (a_Ld (yq P) k bg ch r) (gs.drop kk) (M0 (105 + d) 1).toNat (M0 (105 + d) 2).toNat (gs.take kk) (M cc 0).toNat (M (cc + 7) (M cc 0).toNat).toNat (M' cc 0).toNat (M' (cc + 7) (M' cc 0).toNat).toNat
/-- counts of a stretch -/
def lNw (cc : Nat) (M M' : yM) : Prop := M cc 0 ≤ M' cc 0 ∧ M' cc 10 ≤ M cc 10 + 2 * (M' cc 0 - M cc 0) ∧ M' 96 7 ≤ M 96 7 + (M' cc 0 - M cc 0) ∧ M' 96 10 ≤ M 96 10 + (M' cc 0 - M cc 0) ∧ 12 * (M' 21 1 - M 21 1) + tT (M cc 0) ≤ tT (M' cc 0)
section WyB
variable {cc d e b i N n n' r o : Nat} {P M M' M0 M1 M2 M3 MB Mc Me : yM} {op x y z nd gd lb v L L1 p u : Int} {tgt tgt1 : Int → Nat} {k : Nat → Nat → Int} {bg : Nat → List Nat} {ch : Nat → List (Int × Int)} {H H1 : Int → List (Int × Int)} {G G1 : aC} {ly : yM → Int → Int → Option yM}
theorem gdr_le (hI : lI cc P b M) : ∀ (k : Nat) (x u : Int), x < M 96 7 → gdr M k x u → u ≤ x - k
  | 0, x, u, _, h => by
    have h : x = u := h
    omega
  | k + 1, x, u, hx, h => by
    obtain ⟨h0, h1⟩ := h
    have h2 := (hI.2.2.2.2.2.2.2.2.1 x.toNat (by omega)).1
    have := gdr_le hI k (M 99 x.toNat) u (by omega) h1
    omega
/-- no row sees an instruction that stands by itself -/
theorem hk_one (h01 : sg cc d M0 M) (h12 : lK cc M M1) (hR : M1 21 1 = M 21 1) (hl : M1 cc 0 = M cc 0 + 1) (hV2 : lV cc M1 Me) (h2e : lK cc M1 Me) (h0 : 0 ≤ M0 21 1) {t : Nat} (t1 : (t : Int) = M cc 0) : hk Me t (M0 21 1).toNat (Me 21 1 - M0 21 1).toNat = [] := by
  have c1 := h01.2.1.1
  have c3 := h2e.1
  refine hk_nil _ fun r r1 r2 => ?_
  by_cases q : (r : Int) < M 21 1
  · rw [h2e.2.2.2.2.2 (4 * r) (by omega), h2e.2.2.2.2.2 (4 * r + 1) (by omega), h12.2.2.2.2.2 (4 * r) (by omega), h12.2.2.2.2.2 (4 * r + 1) (by omega)]
    have := h01.2.2 r (by omega) q
    omega
  · have := hV2 r (by omega) (by omega)
    omega
theorem lT_65_9 (hcc : pC cc) (hN : 1000 ≤ N) (hd : d < 90) (hly : ∀ M n, lT cc (d + 1) M (ly M n ((d : Int) + 1))) : ∀ (n : Nat) {M : yM} {r3 : Nat} {x4 x5 : Int}, 0 ≤ x5 → x5 ≤ 90 → x5 < n → lT cc d M (f_65_9 N ly cc n M (d : Int) u r3 x4 x5) := by
  intro n
  induction n with
  | zero => intro M r3 x4 x5 q0 _ q; exact absurd q (by omega)
  | succ n ih =>
    intro M r3 x4 x5 q0 q1 q2
    rw [f_65_9]
    refine lT_cond (lT_ret lQ_refl) ?_
    rw [rel5 ⟨by omega, by omega⟩ ⟨by decide, by decide⟩]
    by_cases hc : x5 ≤ 0
    · rw [cond_dt hc]; exact lT_ret lQ_refl
    · rw [cond_df hc]
      have ih' : ∀ {M : yM} {v : Int}, lT cc d M (f_65_71 N ly cc (f_65_9 N ly cc n) M (d : Int) u r3 x5 v) := fun {M v} => by
        unfold f_65_71
        exact ih (by omega) (by omega) (by omega)
      refine lT_val fun v4 => lT_val fun v5 => lT_cond (lT_cond ih' ?_) (lT_step (lQ_54 hcc) fun t => ih')
      rw [pz_s hd]
      exact lT_step (lQ_48 hcc hd) fun t => lT_step (lQ_pl hcc hd) fun t => lT_step (lQ_pl hcc hd) fun t => lT_bind (lT_ly hly) fun t => ih'
theorem lX_trans (h1 : lX cc M M1) (h2 : lX cc M1 M2) (hK : M cc 0 ≤ M1 cc 0) : lX cc M M2 := fun t ht => (h2 t (by omega)).trans (h1 t ht)
theorem lNw_trans (h1 : lNw cc M M1) (h2 : lNw cc M1 M2) : lNw cc M M2 := by
  unfold lNw at *
  omega
theorem wy_ok (hcc : pC cc) (hN : 1000 ≤ N) (hd : d < 90) (hA : pA P) (hs0 : sO cc P d d M0) (hn : nB P d n M0) (ih : ihL cc P r d ly) (hu : -1 ≤ u ∧ u < 400) : ∀ (f : Nat) (M M' : yM) (y left : Int), sO cc P d (d + 1) M → bs cc P d n M0 M → (y = -1 ∨ (0 ≤ y ∧ on M (M (105 + d) 0) y.toNat)) → (0 ≤ y → M 100 y.toNat < left) → 0 ≤ left → left ≤ 90 → left < f → f_65_9 N ly cc f M (d : Int) u (105 + d) y left = some M' → M' cc 1 = 0 →
    sO cc P d (d + 1) M' ∧ bs cc P d n M0 M' ∧ sg cc d M M' ∧ lX cc M M' ∧ lNw cc M M' ∧ (∀ a j, 105 ≤ a → a ≤ 105 + d → M' a j = M a j) ∧ wyP cc P r d M0 M M' y u
  | 0, _, _, _, _, _, _, _, _, _, _, h, _, _ => absurd h (by omega)
  | f + 1, M, M', y, left, hs, hbs, hy, hdep, hl0, hl9, hlf, he, h0 => by
    have hr := cc_rg hcc
    have hI := hs.2
    have hgd := hs.1.2.2.2.1 d (Nat.le_refl d)
    have hg7 := hI.2.1
    have hl := hs.1.2.1.1
    have hPM := hs.1.1
    have hnn := hA.1
    have ebc : ∀ q : Int, 0 ≤ q → ((q.toNat : Nat) : Int) = q := fun q hq => Int.toNat_of_nonneg hq
    have hyr : -1 ≤ y ∧ y < M 96 7 := by
      rcases hy with hy | ⟨hy, hon⟩
      · omega
      · have := on_lt hI (by omega) hon
        omega
    rw [f_65_9, rel5 ⟨by omega, by omega⟩ ⟨by omega, by omega⟩] at he
    by_cases hyu : y ≤ u
    · rw [cond_dt hyu] at he
      have e := Option.some.inj he
      subst e
      refine ⟨hs, hbs, sg_refl, fun _ _ => rfl, ⟨Int.le_refl _, by omega, by omega, by omega, by omega⟩, fun _ _ _ _ => rfl, ?_⟩
      intro Me tgt k bg ch H gs kk _ _ _ _ _ _ _ _ _ hgd
      have hkk : kk = 0 := by
        have := gdr_le hI kk y u (by omega) hgd
        omega
      subst hkk
      exact ⟨rfl, rfl⟩
    · rw [cond_df hyu] at he
      have hy0 : 0 ≤ y := by omega
      have hon := (hy.resolve_left (by omega)).2
      have hdl := hdep hy0
      obtain ⟨r1, r2, r3, r4, r5, r6, r7⟩ := hI.2.2.2.2.2.2.2.2.1 y.toNat (by omega)
      obtain ⟨c1, c2, c3⟩ := hs.1.2.2.2.2 y.toNat hon
      have hdy : M 100 y.toNat < (d : Int) := by
        have h1 := on_dep hI (by omega) hon
        have h2 := hgd.2.2.2.2.2.1 (on_0 hon)
        omega
      rw [rel5 ⟨by omega, by omega⟩ ⟨by decide, by decide⟩, cond_df (by omega), ylet_eq, ylet_eq, rd_in (a := 98) (by omega) (by show y < ((390 : Nat) : Int); omega), rd_in (a := 99) (by omega) (by show y < ((390 : Nat) : Int); omega), rd_in (a := 100) (by omega) (by show y < ((390 : Nat) : Int); omega)] at he
      have hn98 : (M 98 y.toNat).toNat < 90 := by omega
      have e98 := ebc (M 98 y.toNat) (by omega)
      have ed100 := ebc (M 100 y.toNat) (by omega)
      rw [← e98, rd_P hPM ⟨by omega, by omega⟩ hn98, rd_P hPM ⟨by omega, by omega⟩ hn98] at he
      generalize hnd : (M 98 y.toNat).toNat = nd at he hn98 e98
      have hO := hA.2.2.2.1 nd (by omega)
      have hons : ∀ z : Nat, on M (M 99 y.toNat) z → on M (M (105 + d) 0) z := fun z hz => on_tr hon (on_up (by omega) (by rw [Int.toNat_natCast]; exact hz))
      have hynext : M 99 y.toNat = -1 ∨ (0 ≤ M 99 y.toNat ∧ on M (M (105 + d) 0) (M 99 y.toNat).toNat) := by
        by_cases q : 0 ≤ M 99 y.toNat
        · exact Or.inr ⟨q, hons _ (by rw [show M 99 y.toNat = (((M 99 y.toNat).toNat : Nat) : Int) by omega, Int.toNat_natCast]; exact on_rfl)⟩
        · exact Or.inl (by omega)
      have hgs : ∀ {tgt : Int → Nat} {H : Int → List (Int × Int)} {gs : List aG}, gR M tgt H y gs → ∃ g gs', gs = g :: gs' ∧ (g.1 = nd ∧ H y = g.2.2.2 ++ H (M 99 y.toNat) ∧ g.2.1 = M (105 + (M 100 y.toNat).toNat) 3 ∧ lpR M tgt (105 + (M 100 y.toNat).toNat) (M 99 y.toNat) gs'.length g.2.2.1 ∧ gR M tgt H (M 99 y.toNat) gs') := fun {tgt H gs} h => by
        cases gs with
        | nil => exact absurd (show y = -1 from h) (by omega)
        | cons g gs' =>
          obtain ⟨-, k1, k2, k3, k4, k5⟩ := h
          exact ⟨g, gs', rfl, by omega, k2, k3, k4, k5⟩
      have hkk : ∀ {kk : Nat}, gdr M kk y u → ∃ k', kk = k' + 1 ∧ gdr M k' (M 99 y.toNat) u := fun {kk} h => by
        cases kk with
        | zero => exact absurd (show y = u from h) (by omega)
        | succ k' => exact ⟨k', rfl, h.2⟩
      -- to the next guard out, from a state in which this one is left
      have next : ∀ M1 : yM, sO cc P d (d + 1) M1 → bs cc P d n M0 M1 → sg cc d M M1 → lX cc M M1 → lNw cc M M1 → f_65_9 N ly cc f M1 (d : Int) u (105 + d) (M 99 y.toNat) (left + -1) = some M' → sO cc P d (d + 1) M' ∧ bs cc P d n M0 M' ∧ sg cc d M1 M' ∧ lX cc M1 M' ∧ lNw cc M1 M' ∧ (∀ a j, 105 ≤ a → a ≤ 105 + d → M' a j = M1 a j) ∧ wyP cc P r d M0 M1 M' (M 99 y.toNat) u := by
        intro M1 hs1 hb1 hg1 hx1 hn1 he1
        refine wy_ok hcc hN hd hA hs0 hn ih hu f M1 M' (M 99 y.toNat) (left + -1) hs1 hb1 ?_ (fun q => ?_) (by omega) (by omega) (by omega) he1 h0
        · rcases hynext with q | ⟨q1, q2⟩
          · exact Or.inl q
          · refine Or.inr ⟨q1, ?_⟩
            rw [lw_pl hcc hg1.1 (Nat.le_refl d) (by omega) 0]
            exact (on_K hI hg1.2.1 (by omega)).mpr q2
        · rw [(hg1.2.1.2.2.2.2.1 (M 99 y.toNat).toNat (by omega)).2.2]
          have := r3 q
          omega
      have toR : ∀ {M1 : yM} {tgt : Int → Nat} {H : Int → List (Int × Int)} {gs : List aG}, sg cc d M M1 → gR M tgt H (M 99 y.toNat) gs → gR M1 tgt H (M 99 y.toNat) gs := fun {M1 tgt H gs} hg1 h => gR_K hI hg1.2.1 (fun _ _ => rfl) gs _ (by omega) (fun l j hl => lw_pl hcc hg1.1 hl (by omega) j) (fun _ _ => rfl) (fun q => by have := r3 q; omega) h
      have toD : ∀ {M1 : yM} {kk : Nat}, sg cc d M M1 → gdr M kk (M 99 y.toNat) u → gdr M1 kk (M 99 y.toNat) u := fun {M1 kk} hg1 h => gdr_eq (lI_gD hI) (fun z hz => (hg1.2.1.2.2.2.2.1 z hz).2.1) kk _ (by omega) h
      have pls : ∀ {M1 : yM}, sg cc d M M1 → ∀ a j, 105 ≤ a → a ≤ 105 + d → M1 a j = M a j := fun {M1} hg1 a j h1 h2 => by
        obtain ⟨l, rfl⟩ : ∃ l, a = 105 + l := ⟨a - 105, by omega⟩
        exact lw_pl hcc hg1.1 (by omega) (by omega) j
      -- nothing is laid
      have skip : f_65_9 N ly cc f M (d : Int) u (105 + d) (M 99 y.toNat) (left + -1) = some M' → ((P 7 nd = 13 ∧ P 10 nd = -1) ∨ (P 7 nd = 11 ∧ P 8 nd = -1)) → sO cc P d (d + 1) M' ∧ bs cc P d n M0 M' ∧ sg cc d M M' ∧ lX cc M M' ∧ lNw cc M M' ∧ (∀ a j, 105 ≤ a → a ≤ 105 + d → M' a j = M a j) ∧ wyP cc P r d M0 M M' y u := by
        intro he1 hq
        obtain ⟨a1, a2, a3, a4, a5, a6, a7⟩ := next M hs hbs sg_refl (fun _ _ => rfl) ⟨Int.le_refl _, by omega, by omega, by omega, by omega⟩ he1
        refine ⟨a1, a2, a3, a4, a5, a6, ?_⟩
        intro Me tgt k bg ch H gs kk K X V hlt hA1 hC1 hH1 hH2 hG hgd'
        obtain ⟨g, gs', rfl, g1, g2, g3, g4, g5⟩ := hgs hG
        obtain ⟨k', rfl, hgd2⟩ := hkk hgd'
        have W := a7 Me tgt k bg ch H gs' k' K X V hlt hA1 hC1 hH1 hH2 g5 hgd2
        show a_wy _ _ _ _ _ (gs'.drop k') _ _ (g :: gs'.take k') _ _ _ _
        unfold a_wy
        rw [show yq P 0 g.1 = P 7 nd by rw [g1]; rfl, show yq P 3 g.1 = P 10 nd by rw [g1]; rfl, show yq P 1 g.1 = P 8 nd by rw [g1]; rfl]
        rcases hq with ⟨q1, q2⟩ | ⟨q1, q2⟩
        · rw [if_pos q1, if_pos q2]; exact W
        · rw [if_neg (by omega), if_pos q2]; exact W
      rcases r5 with h11 | h13
      · rw [hnd] at h11
        rw [h11, show yrel 1 11 13 = true from rfl, cond_true] at he
        obtain ⟨oa, ob, oc, oab, oac⟩ := hO.2.2.2.2.2.2.2.2.1 h11
        by_cases hfin : P 8 nd = -1
        · rw [hfin, show yrel 0 (-1) (-1) = true from rfl, cond_true] at he
          exact skip he (Or.inr ⟨h11, hfin⟩)
        · have of := oa.resolve_left hfin
          rw [rel0 ⟨by have := of.1; omega, by have := of.2.1; omega⟩ ⟨by decide, by decide⟩, cond_df hfin, pz_s hd, ylet_eq, ylet_eq, ylet_eq] at he
          obtain ⟨hp1, hc1⟩ := f48 (M := M) (o := (M 100 y.toNat).toNat) hd (by omega)
          rw [ed100] at hp1 hc1
          have hQ2 : lQ cc d M (yU (yU (f_48 M (M 100 y.toNat) (d : Int)) (105 + (d + 1)) 1 (f_48 M (M 100 y.toNat) (d : Int) (105 + d) 1)) (105 + (d + 1)) 2 (yU (f_48 M (M 100 y.toNat) (d : Int)) (105 + (d + 1)) 1 (f_48 M (M 100 y.toNat) (d : Int) (105 + d) 1) (105 + d) 2 + 1)) := lQ_trans (lQ_48 hcc hd) (lQ_trans (lQ_pl hcc hd) (lQ_pl hcc hd))
          rw [yU_c (b := 105 + d) (a := 105 + (d + 1)) (by omega), hp1 (105 + d) _ (by omega), hp1 (105 + d) _ (by omega)] at he hQ2
          have hp2 : pD d M (yU (yU (f_48 M (M 100 y.toNat) (d : Int)) (105 + (d + 1)) 1 (M (105 + d) 1)) (105 + (d + 1)) 2 (M (105 + d) 2 + 1)) := pD_U (pD_U hp1)
          have c20 : ∀ j, j < 6 → j ≠ 1 → j ≠ 2 → yU (yU (f_48 M (M 100 y.toNat) (d : Int)) (105 + (d + 1)) 1 (M (105 + d) 1)) (105 + (d + 1)) 2 (M (105 + d) 2 + 1) (105 + (d + 1)) j = M (105 + (M 100 y.toNat).toNat) j := fun j h1 h2 h3 => by rw [yU_i h3, yU_i h2, hc1 j h1]
          have c21 : yU (yU (f_48 M (M 100 y.toNat) (d : Int)) (105 + (d + 1)) 1 (M (105 + d) 1)) (105 + (d + 1)) 2 (M (105 + d) 2 + 1) (105 + (d + 1)) 1 = M (105 + d) 1 := by rw [yU_i (by decide), yU_at]
          have c22 : yU (yU (f_48 M (M 100 y.toNat) (d : Int)) (105 + (d + 1)) 1 (M (105 + d) 1)) (105 + (d + 1)) 2 (M (105 + d) 2 + 1) (105 + (d + 1)) 2 = M (105 + d) 2 + 1 := yU_at
          generalize yU (yU (f_48 M (M 100 y.toNat) (d : Int)) (105 + (d + 1)) 1 (M (105 + d) 1)) (105 + (d + 1)) 2 (M (105 + d) 2 + 1) = M2 at he hQ2 hp2 c20 c21 c22
          obtain ⟨v2, W2⟩ := hQ2 hs.1.2.1
          obtain ⟨M3, e3, v3, W3⟩ := lT_ly ih.1 (x := yrd M2 8 (nd : Int)) W2
          rw [e3] at he
          have he : f_65_9 N ly cc f M3 (d : Int) u (105 + d) (M 99 y.toNat) (left + -1) = some M' := he
          obtain ⟨Mx, ex, vx, -⟩ := lT_65_9 (N := N) (u := u) hcc hN hd ih.1 f (M := M3) (r3 := 105 + d) (x4 := M 99 y.toNat) (x5 := left + -1) (by omega) (by omega) (by omega) W3
          have ee : Mx = M' := Option.some.inj (ex.symm.trans he)
          subst ee
          have t3 := lw_tl vx h0
          obtain ⟨s2, g2, x2⟩ := pl_ok hcc hd hs hp2
          have b2 := bs_qt hbs (qt_pl g2 x2 hp2 hcc)
          rw [rd_P s2.1.1 ⟨by omega, by omega⟩ hn98] at e3
          have hdg := hs.1.2.2.2.1 (M 100 y.toNat).toNat (by omega)
          have h20 := c20 0 (by omega) (by omega) (by omega)
          have h23 := c20 3 (by omega) (by omega) (by omega)
          have h24 := c20 4 (by omega) (by omega) (by omega)
          have h25 := c20 5 (by omega) (by omega) (by omega)
          have f7 : M2 96 7 = M 96 7 := hp2 _ _ (by omega)
          have fl : M2 96 10 = M 96 10 := hp2 _ _ (by omega)
          have f99 : ∀ z, M2 99 z = M 99 z := fun z => hp2 _ _ (by omega)
          have f98 : ∀ z, M2 98 z = M 98 z := fun z => hp2 _ _ (by omega)
          have f100 : ∀ z, M2 100 z = M 100 z := fun z => hp2 _ _ (by omega)
          rw [c1] at h20
          have onM2 : ∀ z : Nat, on M2 (M 99 y.toNat) z ↔ on M (M 99 y.toNat) z := fun z => on_K hI g2.2.1 (by omega)
          have k2 : sO cc P (d + 1) (d + 1) M2 := by
            refine sO_in hd s2 (by omega) (by omega) (by omega) (by omega) (by omega) (by omega) (fun q => ?_) (fun z hz => ?_)
            · rw [h20] at q ⊢
              rw [f100]
              have := r3 q
              omega
            · rw [h20] at hz
              have hz2 := hons z ((onM2 z).mp hz)
              obtain ⟨y1, y2, y3⟩ := hs.1.2.2.2.2 z hz2
              have hdz : M 100 z ≤ (d : Int) := by
                have h1 := on_dep hI (by omega) hz2
                have h2 := hgd.2.2.2.2.2.1 (on_0 hz2)
                omega
              have hdz0 := (hI.2.2.2.2.2.2.2.2.1 z (by have := on_lt hI (by omega) hz2; omega)).2.1
              rw [f98, f99, f100, hp2 _ _ (by omega), hp2 _ _ (by omega), c21]
              refine ⟨y1, ?_, y3⟩
              unfold nR at y2 ⊢
              rw [hp2 _ _ (by omega), hp2 _ _ (by omega), hp2 _ _ (by omega)]
              exact y2
          obtain ⟨o1, o2, o3⟩ := hA.2.2.2.2.2.1 (P 8 nd).toNat nd (by have := of.1; have := of.2.1; omega) of.2.2.1
          rw [if_neg (fun q => by omega)] at o2
          rw [if_neg (by omega)] at o3
          rw [hnd] at c2 r6 r7
          have n2 : nB P (d + 1) (P 8 nd).toNat M2 := by
            refine ⟨by have := of.1; have := of.2.1; omega, of.2.2.2, by rw [o1]; exact r6, ?_, fun q => ?_, fun q => ?_⟩
            · rw [h20]
              exact inv_K hI g2.2.1 (by omega) (inv_in hA hI (by omega) r7 ⟨of.1, of.2.1, of.2.2.1⟩)
            · rw [h24]
              exact c2.1 (by rw [← o3]; exact q)
            · rw [h23, c21]
              have := c2.2 (by rw [← o2]; exact q)
              omega
          have L1 := ih.2 M2 (P 8 nd).toNat M3 k2 n2 (by rw [ebc _ of.1]; exact e3) t3
          have b3 := bs_lay hd b2 L1 (Or.inl ⟨(M 100 y.toNat).toNat, by omega, by rw [h24, lw_pl hcc hbs.1.1 (by omega) (by omega) 4]⟩) hcc (fun c hc => by
            have hon0 : on M0 (M0 (105 + d) 0) y.toNat := by
              rw [lw_pl hcc hbs.1.1 (Nat.le_refl d) (by omega) 0] at hon
              exact (on_K hs0.2 hbs.1.2.1 (by have := hs0.1.2.2.2.1 d (Nat.le_refl d); omega)).mp hon
            have hy7 : (y.toNat : Int) < M0 96 7 := by
              have := on_lt hs0.2 (by have := hs0.1.2.2.2.1 d (Nat.le_refl d); omega) hon0
              have := hs0.1.2.2.2.1 d (Nat.le_refl d)
              omega
            have e98' : M0 98 y.toNat = M 98 y.toNat := ((hbs.1.2.1.2.2.2.2.1 _ hy7).1).symm
            refine ⟨?_, fun z hz => ?_⟩
            · exact hc.2 y.toNat hon0 (by rw [e98', hnd]; exact h11) (P 8 nd).toNat (by rw [e98', hnd, ebc _ of.1])
            · rw [h20] at hz
              have hz2 := hons z ((onM2 z).mp hz)
              rw [lw_pl hcc hbs.1.1 (Nat.le_refl d) (by omega) 0] at hz2
              have hz3 := (on_K hs0.2 hbs.1.2.1 (by have := hs0.1.2.2.2.1 d (Nat.le_refl d); omega)).mp hz2
              have hzl := on_lt hs0.2 (by have := hs0.1.2.2.2.1 d (Nat.le_refl d); omega) hz3
              have := hs0.1.2.2.2.1 d (Nat.le_refl d)
              rw [f98, (hbs.1.2.1.2.2.2.2.1 z (by omega)).1]
              exact hc.2 z hz3)
          obtain ⟨-, s3⟩ := lay_out hcc hd s2 k2 L1 t3
          have g3 := sg_trans g2 (sg_mono (Nat.le_succ d) ⟨L1.1, L1.2.2.2.1, L1.2.2.2.2.2.2.1⟩)
          have f0 : M2 cc 0 = M cc 0 := hp2 _ _ (by omega)
          have f10 : M2 cc 10 = M cc 10 := hp2 _ _ (by omega)
          have fr : M2 21 1 = M 21 1 := hp2 _ _ (by omega)
          have f67 : ∀ t, M2 (cc + 7) t = M (cc + 7) t := fun t => hp2 _ _ (by omega)
          obtain ⟨n11, n12, n13, n14, n15⟩ := id L1.2.2.2.2.2.2.2.1
          rw [f0] at n15
          obtain ⟨a1, a2, a3, a4, a5, a6, a7⟩ := next M3 s3 b3 g3 (lX_trans x2 L1.2.2.2.2.1 (by omega)) ⟨by omega, by omega, by omega, by omega, by omega⟩ he
          refine ⟨a1, a2, sg_trans g3 a3, lX_trans (lX_trans x2 L1.2.2.2.2.1 (by omega)) a4 (by omega), lNw_trans ⟨by omega, by omega, by omega, by omega, by omega⟩ a5, fun a j h1 h2 => (a6 a j h1 h2).trans (pls g3 a j h1 h2), ?_⟩
          intro Me tgt k bg ch H gs kk K X V hlt hA1 hC1 hH1 hH2 hG hgd'
          obtain ⟨g, gs', rfl, y1, y2, y3, y4, y5⟩ := hgs hG
          obtain ⟨k', rfl, hgd2⟩ := hkk hgd'
          have W := a7 Me tgt k bg ch H gs' k' K X V hlt hA1 hC1 hH1 hH2 (toR g3 y5) (toD g3 hgd2)
          have K3 : lK cc M3 Me := lK_trans a3.2.1 K
          have V3 : lV cc M3 Me := by
            refine fun r r1 r2 => ?_
            by_cases q : (r : Int) < Mx 21 1
            · have := a3.2.2 r r1 q
              rw [K.2.2.2.2.2 (4 * r) (by omega), K.2.2.2.2.2 (4 * r + 1) (by omega)]
              have := K.1.1
              omega
            · have := V r (by omega) r2
              have := a3.2.1.1
              omega
          have hb0 := b2.1.2.1.1
          have hR0 := hs0.2.2.2.2.1
          have hL0 := hs0.2.2.2.1
          have hl3 := W3.1
          have hK3 := K3.1
          have h51 := a5.1
          show a_wy _ _ _ _ _ (gs'.drop k') _ _ (g :: gs'.take k') _ _ _ _
          unfold a_wy
          rw [show yq P 0 g.1 = P 7 nd by rw [y1]; rfl, show yq P 1 g.1 = P 8 nd by rw [y1]; rfl, if_neg (by omega), if_neg hfin]
          refine ⟨(M3 cc 0).toNat, ?_, ?_⟩
          · have pl0 : ∀ j, M (105 + d) j = M0 (105 + d) j := fun j => lw_pl hcc hbs.1.1 (Nat.le_refl d) (by omega) j
            have A := kid_P (M0 := M0) (tgt := tgt) (tgt1 := tgt) (G1 := (gs', (M0 (105 + d) 1).toNat, (M0 (105 + d) 2).toNat + 1, g.2.1, g.2.2.1)) L1 (by omega) (by omega) hL0.1 K3 hA1 (kid_C L1 b2.1 K3 V3 (by omega) hC1) hH1 (kid_H L1 (by omega) K3 hH2) (fun t t1 t2 => by
              rcases lay_lab L1 (fun l hl => by
                by_cases q : l ≤ d
                · rw [lw_pl hcc b2.1.1 q (by omega) 4]
                  have := hs0.1.2.2.2.1 l q
                  omega
                · have e : l = d + 1 := by omega
                  subst e
                  rw [h24, lw_pl hcc hbs.1.1 (by omega) (by omega) 4]
                  have := hs0.1.2.2.2.1 (M 100 y.toNat).toNat (by omega)
                  omega) hL0.1 t1 t2 with q | q
              · exact Or.inl ⟨q, rfl⟩
              · exact Or.inr (Or.inr q)) (fun t t1 t2 _ => by rw [X t (by omega), a4 t t2]) (by
              unfold gG
              rw [h20, c21, c22, h23, pl0 1, pl0 2]
              rw [pl0 1, pl0 2] at hgd
              refine ⟨toR g2 y5, by dsimp only; omega, by dsimp only; omega, y3, ?_⟩
              dsimp only
              exact lpR_2 hI g2.2.1 (by omega) h24 h25 rfl y4)
            rw [f0, f67] at A
            rw [List.take_append_drop]
            exact A
          · have zz : M3 (cc + 7) (M3 cc 0).toNat = 0 := L1.2.2.2.2.2.2.2.2.1 _ (by omega) (by omega)
            rw [zz] at W
            exact W
      · rw [hnd] at h13
        rw [h13, show yrel 1 13 13 = false from rfl, cond_false, ylet_eq] at he
        obtain ⟨ob, oa, oc, oac⟩ := hO.2.2.2.2.2.2.2.2.2.2.1 h13
        have e54 : f_54 cc M (nd : Int) (M 99 y.toNat) = cond (yrel 0 (P 10 nd) (-1)) M (eM cc M 17 (P 10 nd) 0 0 (nd : Int) (M 99 y.toNat) 0) := by
          unfold f_54
          rw [ylet_eq, rd_P hPM ⟨by omega, by omega⟩ hn98, ylet_eq, e_45 hcc]
        rw [e54] at he
        by_cases hcl : P 10 nd = -1
        · rw [hcl, show yrel 0 (-1) (-1) = true from rfl, cond_true] at he
          exact skip he (Or.inl ⟨h13, hcl⟩)
        · have oc' := oc.resolve_left hcl
          have hnp := hA.2.1
          rw [rel0 ⟨by omega, by omega⟩ ⟨by decide, by decide⟩, cond_df hcl] at he
          generalize hM1 : eM cc M 17 (P 10 nd) 0 0 (nd : Int) (M 99 y.toNat) 0 = M1 at he
          have hQ1 : lQ cc d M M1 := by rw [← hM1]; exact lQ_eM hcc
          obtain ⟨v1, W1⟩ := hQ1 hs.1.2.1
          obtain ⟨Mx, ex, vx, -⟩ := lT_65_9 (N := N) (u := u) hcc hN hd ih.1 f (M := M1) (r3 := 105 + d) (x4 := M 99 y.toNat) (x5 := left + -1) (by omega) (by omega) (by omega) W1
          have ee : Mx = M' := Option.some.inj (ex.symm.trans he)
          subst ee
          have t1 := lw_tl vx h0
          obtain ⟨s1, g1, D1⟩ := em hcc (by omega) hs hM1 t1 ⟨⟨by decide, by decide⟩, w2_17 (by omega), fun q => by omega, fun q => by omega, fun _ => by omega, fun q => by omega, fun _ => ⟨by omega, by omega⟩, by omega, by omega, fun q => absurd q (by decide)⟩
          obtain ⟨⟨z1, z2, z3, z4, z5, z6⟩, zX, ⟨ua, ub, u1, u2, u3, u4, u5⟩, u67, u8, uc, up⟩ := id D1
          have hTT := tT_s (x := M cc 0)
          have hn1 : lNw cc M M1 := ⟨by omega, by omega, by omega, by omega, by rw [z2, hTT]; omega⟩
          obtain ⟨a1, a2, a3, a4, a5, a6, a7⟩ := next M1 s1 (bs_em hbs g1 D1 (Or.inl rfl) hl.1) g1 zX hn1 he
          refine ⟨a1, a2, sg_trans g1 a3, lX_trans zX a4 (by omega), lNw_trans hn1 a5, fun a j h1 h2 => (a6 a j h1 h2).trans (pls g1 a j h1 h2), ?_⟩
          intro Me tgt k bg ch H gs kk K X V hlt hA1 hC1 hH1 hH2 hG hgd'
          obtain ⟨g, gs', rfl, y1, y2, y3, y4, y5⟩ := hgs hG
          obtain ⟨k', rfl, hgd2⟩ := hkk hgd'
          have W := a7 Me tgt k bg ch H gs' k' K X V hlt hA1 hC1 hH1 hH2 (toR g1 y5) (toD g1 hgd2)
          have K1 : lK cc M1 Me := lK_trans a3.2.1 K
          have V1 : lV cc M1 Me := by
            refine fun r r1 r2 => ?_
            by_cases q : (r : Int) < Mx 21 1
            · have := a3.2.2 r r1 q
              rw [K.2.2.2.2.2 (4 * r) (by omega), K.2.2.2.2.2 (4 * r + 1) (by omega)]
              have := K.1.1
              omega
            · have := V r (by omega) r2
              have := a3.2.1.1
              omega
          have hb0 := hbs.1.2.1.1
          have hR0 := hs0.2.2.2.2.1
          have hc3 := K1.1
          obtain ⟨e1, e2, e3, e4, e5, e6⟩ := hA1 (M cc 0).toNat (by omega) (by omega)
          obtain ⟨i1, i2, i3⟩ := K1.2.1 (M cc 0).toNat (by omega)
          have a51 := a5.1
          have iX : Me (cc + 2) (M cc 0).toNat = P 10 nd := by
            rw [X _ (by omega), a4 _ (by omega), u2]
          show a_wy _ _ _ _ _ (gs'.drop k') _ _ (g :: gs'.take k') _ _ _ _
          unfold a_wy
          rw [show yq P 0 g.1 = P 7 nd by rw [y1]; rfl, show yq P 3 g.1 = P 10 nd by rw [y1]; rfl, if_pos h13, if_neg hcl]
          refine ⟨?_, ?_, ?_, ?_, ?_, ?_⟩
          · rw [e6]
            unfold bgl
            rw [List.length_map, List.length_range, i3 7 (by omega) (by omega) (by omega), (u67 _).1]
          · rw [e1, i3 1 (by omega) (by omega) (by omega), u1]
          · rw [e5, i2, ub, if_neg (by omega), iX]
          · rw [e4, i3 5 (by omega) (by omega) (by omega), u5, y1]
          · rw [hC1 (M cc 0).toNat (by omega) (by omega) (by rw [i3 1 (by omega) (by omega) (by omega), u1]; exact Or.inr (Or.inr (Or.inr (Or.inr (Or.inr (Or.inr (Or.inr (Or.inl rfl)))))))), hk_one hbs.1 g1.2.1 z6 z2 V1 K1 (by omega) (by omega), i1, ua, List.take_append_drop]
            exact (gR_hs hH1 gs' _ y5).symm
          · have zz : M1 (cc + 7) (M1 cc 0).toNat = 0 := by
              rw [(u67 _).1]
              exact hI.2.2.2.2.2.2.1 _ (by omega) (by omega)
            rw [zz, z2, show (M cc 0 + 1).toNat = (M cc 0).toNat + 1 by omega] at W
            exact W
end WyB
