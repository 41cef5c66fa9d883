/-! from where a node began: what its steps leave; its parts, as the abstract machine has them -/
def bs (cc : Nat) (P : yM) (d n : Nat) (M0 M : yM) : Prop := sg cc d M0 M ∧ lX cc M0 M ∧ lLb cc d M0 M ∧ lZ P d n M0 M
/-- a step that lays nothing -/
def qt (cc d : Nat) (M M' : yM) : Prop := sg cc d M M' ∧ lX cc M M' ∧ M' cc 0 = M cc 0 ∧ (∀ k : Nat, M' 103 k = M 103 k ∧ M' 104 k = M 104 k)
section BsA
variable {cc d e b i N n n' r o : Nat} {P M M' M0 M1 M2 M3 Mc Me : yM} {op x y z nd gd lb v L L1 : Int} {tgt tgt1 : Int → Nat} {k : Nat → Nat → Int} {bg : Nat → List Nat} {ch : Nat → List (Int × Int)} {H H1 : Int → List (Int × Int)} {G : aC}
theorem lw_tl (h : lw cc d M M') (h0 : M' cc 1 = 0) : M cc 1 = 0 := Decidable.byContradiction fun q => h.2.2.1 q h0
theorem bs_0 (hcc : pC cc) (hM : bD cc M0 M n') (hs : sg cc d M0 M) : bs cc P d n M0 M := ⟨hs, hM.2.1, fun t h1 h2 => by have := hM.1.1; omega, fun c _ => hM.2.2.2.1 c⟩
theorem bs_qt (h : bs cc P d n M0 M) (hq : qt cc d M M') : bs cc P d n M0 M' := by
  obtain ⟨h1, h2, h3, h4⟩ := h
  obtain ⟨q1, q2, q3, q4⟩ := hq
  have hle := h1.2.1.1
  refine ⟨sg_trans h1 q1, fun t ht => (q2 t (by omega)).trans (h2 t ht), fun t t1 t2 => ?_, fun c hc => ?_⟩
  · rw [(q1.2.1.2.1 t (by omega)).2.1]
    exact h3 t t1 (by omega)
  · rw [(q4 c).1, (q4 c).2]
    exact h4 c hc
theorem bs_em (h : bs cc P d n M0 M) (hs : sg cc d M M') (he : eD cc M M' op x y z nd gd lb) (hlb : lb = 0 ∨ (∃ l, l ≤ d ∧ M0 (105 + l) 4 = lb) ∨ M0 96 10 < lb) (hl : 0 ≤ M cc 0) : bs cc P d n M0 M' := by
  obtain ⟨h1, h2, h3, h4⟩ := h
  obtain ⟨e1, e2, e3, -, -, e6, -⟩ := he
  have hle := h1.2.1.1
  refine ⟨sg_trans h1 hs, fun t ht => (e2 t (by omega)).trans (h2 t ht), fun t t1 t2 => ?_, fun c hc => ?_⟩
  · by_cases q : (t : Int) < M cc 0
    · rw [(hs.2.1.2.1 t q).2.1]
      exact h3 t t1 q
    · have et : t = (M cc 0).toNat := by omega
      rw [et, e3.2.1]
      exact hlb
  · rw [(e6 c).1, (e6 c).2]
    exact h4 c hc
theorem lE_em (hI : lI cc P b M) (he : eD cc M M' op x y z nd gd lb) : lE cc M' := fun t t1 t2 => by
  obtain ⟨e1, -, -, e4, -⟩ := he
  rw [(e4 t).1]
  exact hI.2.2.2.2.2.2.1 t (by omega) t2
theorem lE_eq (h : lE cc M) (h0 : M' cc 0 = M cc 0) (h7 : ∀ t, M' (cc + 7) t = M (cc + 7) t) : lE cc M' := fun t t1 t2 => by
  rw [h7]
  exact h t (by omega) t2
theorem bs_st (h : bs cc P d n M0 M) (hs : sg cc d M M') (h2 : ∀ a j, a ≠ cc + 2 → M' a j = M a j) (h3 : ∀ t : Nat, M' (cc + 2) t = if x ≤ (t : Int) ∧ (t : Int) < M cc 0 ∧ M 102 t = lb then M cc 0 else M (cc + 2) t) (hx : M0 cc 0 ≤ x) (hcc : pC cc) : bs cc P d n M0 M' := by
  have hr := cc_rg hcc
  obtain ⟨h1, g2, g3, g4⟩ := h
  have e0 : M' cc 0 = M cc 0 := h2 _ _ (by omega)
  refine ⟨sg_trans h1 hs, fun t ht => ?_, fun t t1 t2 => ?_, fun c hc => ?_⟩
  · rw [h3, if_neg (by omega)]; exact g2 t ht
  · rw [h2 102 t (by omega)]; exact g3 t t1 (by omega)
  · rw [h2 103 c (by omega), h2 104 c (by omega)]; exact g4 c hc
/-- a part is laid at d + 1 -/
theorem bs_lay (hd : d < 90) (h : bs cc P d n M0 M) (hl : lay cc P r (d + 1) n' M M') (hlab : (∃ l, l ≤ d ∧ M0 (105 + l) 4 = M (105 + (d + 1)) 4) ∨ M (105 + (d + 1)) 4 = 0 ∨ M0 96 10 < M (105 + (d + 1)) 4) (hcc : pC cc) (hsf : ∀ c, sf P M0 d n c → sf P M (d + 1) n' c) : bs cc P d n M0 M' := by
  obtain ⟨h1, h2, h3, h4⟩ := h
  obtain ⟨g1, g2, g3, g4, g5, g6, g7, g8, -, g9, -⟩ := hl
  have hle := h1.2.1.1
  refine ⟨sg_trans h1 ⟨lw_mono (Nat.le_succ d) g1, g4, g7⟩, fun t ht => (g5 t (by omega)).trans (h2 t ht), fun t t1 t2 => ?_, fun c hc => ?_⟩
  · by_cases q : (t : Int) < M cc 0
    · rw [(g4.2.1 t q).2.1]
      exact h3 t t1 q
    · rcases g6 t (by omega) t2 with q | ⟨l, q1, q2⟩ | q
      · exact Or.inl q
      · by_cases q3 : l ≤ d
        · rw [lw_pl hcc h1.1 q3 (by omega) 4] at q2
          exact Or.inr (Or.inl ⟨l, q3, q2⟩)
        · have e : l = d + 1 := by omega
          subst e
          rw [← q2]
          rcases hlab with q4 | q4 | q4
          · exact Or.inr (Or.inl q4)
          · exact Or.inl q4
          · exact Or.inr (Or.inr q4)
      · exact Or.inr (Or.inr (by omega))
  · have := g9 c (hsf c hc)
    rw [this.1, this.2]
    exact h4 c hc
theorem qt_nl (h : sg cc d M (yU M 96 10 v)) (hX : lX cc M (yU M 96 10 v)) (hcc : pC cc) : qt cc d M (yU M 96 10 v) := by
  have hr := cc_rg hcc
  exact ⟨h, hX, yU_c (by omega), fun k => ⟨yU_c (by omega), yU_c (by omega)⟩⟩
theorem qt_pl (h : sg cc d M M') (hX : lX cc M M') (hp : pD d M M') (hcc : pC cc) : qt cc d M M' := by
  have hr := cc_rg hcc
  exact ⟨h, hX, hp _ _ (by omega), fun k => ⟨hp _ _ (by omega), hp _ _ (by omega)⟩⟩
theorem lay_out (hcc : pC cc) (hd : d < 90) (hs : sO cc P d b M) (hs1 : sO cc P (d + 1) b M) (hl : lay cc P r (d + 1) n' M M') (h0 : M' cc 1 = 0) : sO cc P (d + 1) (d + 1) M' ∧ sO cc P d (d + 1) M' := by
  obtain ⟨g1, g2, g3, g4, -⟩ := hl
  exact ⟨⟨lB_K hcc (by omega) hs1.1 hs1.2 g1 g2 h0 g4, g3⟩, lB_K hcc (by omega) hs.1 hs.2 (lw_mono (Nat.le_succ d) g1) g2 h0 g4, g3⟩
/-- the nodes that begin where all is laid -/
theorem bgl_K (hI : lI cc P b M) (hK : lK cc M M') {t : Nat} (ht : (t : Int) < M cc 0) : bgl cc M' t = bgl cc M t := by
  obtain ⟨-, -, k3⟩ := hK.2.1 t ht
  have hp := (hI.2.2.2.2.1 t ht).2.2.2.2.2.2.2.1
  unfold bgl
  rw [k3 6 (by omega) (by omega) (by omega), k3 7 (by omega) (by omega) (by omega)]
  refine List.map_congr_left fun j hj => ?_
  have hj := List.mem_range.mp hj
  have := hp.2 (by omega)
  rw [hK.2.2.2.1 _ (by omega)]
/-- the place where a node begins -/
theorem bg_at (hI0 : lI cc P b M0) (hl : M0 cc 0 < 300) (hl0 : 0 ≤ M0 cc 0) (hb : bD cc M0 M n) (hK : lK cc M Me) (hlt : M cc 0 < Me cc 0) (hIe : lI cc P e Me) {bg : Nat → List Nat} (hbg : bg (M0 cc 0).toNat = bgl cc Me (M0 cc 0).toNat) : (bg (M0 cc 0).toNat)[(M0 (cc + 7) (M0 cc 0).toNat).toNat]? = some n ∧ (bg (M0 cc 0).toNat).length = (Me (cc + 7) (M0 cc 0).toNat).toNat ∧ M0 (cc + 7) (M0 cc 0).toNat + 1 ≤ Me (cc + 7) (M0 cc 0).toNat := by
  obtain ⟨b1, b2, b3, -⟩ := hb
  obtain ⟨p1, p2, p3⟩ := b3 hl
  have h6 := hI0.2.2.2.2.2.1 (M0 cc 0).toNat (by omega) (by omega)
  have hA := hI0.1
  obtain ⟨q1, q2⟩ := hK.2.2.1 (M0 cc 0).toNat (by omega) (by omega)
  have e6 := q2 (by omega)
  have e8 := hK.2.2.2.1 (M0 cc 10).toNat (by omega)
  rw [hbg]
  unfold bgl
  refine ⟨?_, by rw [List.length_map, List.length_range], by omega⟩
  rw [List.getElem?_map, List.getElem?_range (by omega), Option.map_some]
  congr 1
  rw [show (Me (cc + 6) (M0 cc 0).toNat).toNat + (M0 (cc + 7) (M0 cc 0).toNat).toNat = (M0 cc 10).toNat by omega, e8, p3, Int.toNat_natCast]
theorem lA_sub {b : Nat} (hI : lI cc P b M) (hK : lK cc M Me) {i e i1 e1 : Int} (hA : lA cc Me L tgt k bg i e) (h1 : i ≤ i1) (h2 : e1 ≤ e) (h3 : e1 ≤ M cc 0) (hx : ∀ t : Nat, i1 ≤ (t : Int) → (t : Int) < e1 → (if 0 < M 102 t ∧ M 102 t ≤ L then (tgt (M 102 t) : Int) else Me (cc + 2) t) = (if 0 < M 102 t ∧ M 102 t ≤ L1 then (tgt1 (M 102 t) : Int) else M (cc + 2) t)) : lA cc M L1 tgt1 k bg i1 e1 := by
  intro t t1 t2
  obtain ⟨a1, a2, a3, a4, a5, a6⟩ := hA t (by omega) (by omega)
  obtain ⟨k1, k2, k3⟩ := hK.2.1 t (by omega)
  rw [k3 1 (by omega) (by omega) (by omega)] at a1
  rw [k3 3 (by omega) (by omega) (by omega)] at a2
  rw [k3 4 (by omega) (by omega) (by omega)] at a3
  rw [k3 5 (by omega) (by omega) (by omega)] at a4
  rw [k2, hx t t1 t2] at a5
  exact ⟨a1, a2, a3, a4, a5, a6.trans (bgl_K hI hK (by omega))⟩
theorem lC_sub (hK : lK cc M Me) {i e i1 e1 R R' R1 R1' : Int} (hC : lC cc Me R R' H ch i e) (h1 : i ≤ i1) (h2 : e1 ≤ e) (h3 : e1 ≤ M cc 0) (hh : ∀ t : Nat, i1 ≤ (t : Int) → (t : Int) < e1 → a_may (M (cc + 1) t) → hk Me t R.toNat (R' - R).toNat ++ H (M 101 t) = hk M t R1.toNat (R1' - R1).toNat ++ H1 (M 101 t)) : lC cc M R1 R1' H1 ch i1 e1 := by
  intro t t1 t2 t3
  obtain ⟨k1, k2, k3⟩ := hK.2.1 t (by omega)
  have e1 := k3 1 (by omega) (by omega) (by omega)
  rw [hC t (by omega) (by omega) (by rw [e1]; exact t3), k1]
  exact hh t t1 t2 t3
/-- of all rows those that a part laid -/
theorem hk_mid (h01 : sg cc d M0 M1) (h12 : lK cc M1 M2) (hV2 : lV cc M2 Me) (h2e : lK cc M2 Me) (h0 : 0 ≤ M0 21 1) {t : Nat} (t1 : M1 cc 0 ≤ (t : Int)) (t2 : (t : Int) < M2 cc 0) : hk Me t (M0 21 1).toNat (Me 21 1 - M0 21 1).toNat = hk M2 t (M1 21 1).toNat (M2 21 1 - M1 21 1).toNat := by
  have c1 := h01.2.1.1
  have c2 := h12.1
  have c3 := h2e.1
  rw [show (Me 21 1 - M0 21 1).toNat = (M1 21 1 - M0 21 1).toNat + ((M2 21 1 - M1 21 1).toNat + (Me 21 1 - M2 21 1).toNat) by omega, hk_add, hk_add, show (M0 21 1).toNat + (M1 21 1 - M0 21 1).toNat = (M1 21 1).toNat by omega, show (M1 21 1).toNat + (M2 21 1 - M1 21 1).toNat = (M2 21 1).toNat by omega]
  rw [hk_nil (M1 21 1 - M0 21 1).toNat (fun r r1 r2 => by
    rw [h2e.2.2.2.2.2 (4 * r) (by omega), h2e.2.2.2.2.2 (4 * r + 1) (by omega), h12.2.2.2.2.2 (4 * r) (by omega), h12.2.2.2.2.2 (4 * r + 1) (by omega)]
    have := h01.2.2 r (by omega) (by omega)
    omega), List.nil_append]
  rw [hk_nil (Me 21 1 - M2 21 1).toNat (fun r r1 r2 => by
    have := hV2 r (by omega) (by omega)
    omega), List.append_nil]
  exact hk_eq _ fun j hj => h2e.2.2.2.2.2 j (by omega)
theorem lpR_2 {b pl pl' gl : Nat} {u : Int} {lo : Option (Nat × Nat)} (hI : lI cc P b M) (hK : lK cc M M') (hu : u < M 96 7) (h4 : M' pl' 4 = M pl 4) (h5 : M' pl' 5 = M pl 5) (ht : tgt1 (M pl 4) = tgt (M pl 4)) (h : lpR M tgt pl u gl lo) : lpR M' tgt1 pl' u gl lo := by
  rcases h with ⟨h1, h2⟩ | ⟨h1, lg, k, h2, h3, h6⟩
  · exact Or.inl ⟨by rw [h4]; exact h1, h2⟩
  · refine Or.inr ⟨by rw [h4]; exact h1, lg, k, by rw [h4, ht]; exact h2, h3, ?_⟩
    rw [h5]
    exact gdr_eq (lI_gD hI) (fun y hy => (hK.2.2.2.2.1 y hy).2.1) k u hu h6
/-- the guards as they were, for a part -/
theorem gR_in (hcc : pC cc) (hd : d < 90) (hs : sO cc P d b M) (hw : lw cc d M M') (hK : lK cc M M') (hH : ∀ y : Int, y < M 96 7 → H1 y = H y) (ht : ∀ l : Int, l ≤ M 96 10 → tgt1 l = tgt l) (h : gR M tgt H (M (105 + d) 0) G.1) : gR M' tgt1 H1 (M (105 + d) 0) G.1 := by
  have hp := hs.1.2.2.2.1
  have hpd := hp d (Nat.le_refl d)
  exact gR_K hs.2 hK hH G.1 _ (by omega) (fun l j hl => lw_pl hcc hw hl (by omega) j) (fun l hl => ht _ (by have := hp l hl; omega)) (fun q => by have := hpd.2.2.2.2.2.1 q; omega) h
end BsA
