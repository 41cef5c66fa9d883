/-! parts and simple nodes -/
section W2
variable {x y z : Int}
theorem w2_1 (h : (0 ≤ x ∧ x < 10) ∧ a_opd y) : a_w2 1 x y z := ⟨fun _ => h, fun q => by omega, fun q => by omega, fun q => by omega, fun q => by omega, fun q => by omega, fun q => by omega, fun q => by omega, fun q => by omega, fun q => by omega, fun q => by omega⟩
theorem w2_2 (h : (0 ≤ x ∧ x < 10) ∧ a_opd y) : a_w2 2 x y z := ⟨fun _ => h, fun q => by omega, fun q => by omega, fun q => by omega, fun q => by omega, fun q => by omega, fun q => by omega, fun q => by omega, fun q => by omega, fun q => by omega, fun q => by omega⟩
theorem w2_3 (h : (0 ≤ x ∧ x < 10) ∧ a_opd y) : a_w2 3 x y z := ⟨fun _ => h, fun q => by omega, fun q => by omega, fun q => by omega, fun q => by omega, fun q => by omega, fun q => by omega, fun q => by omega, fun q => by omega, fun q => by omega, fun q => by omega⟩
theorem w2_4 (h : a_opd x) : a_w2 4 x y z := ⟨fun q => by omega, fun _ => h, fun q => by omega, fun q => by omega, fun q => by omega, fun q => by omega, fun q => by omega, fun q => by omega, fun q => by omega, fun q => by omega, fun q => by omega⟩
theorem w2_5 (h : 0 ≤ x ∧ a_opd y) : a_w2 5 x y z := ⟨fun q => by omega, fun q => by omega, fun _ => h, fun q => by omega, fun q => by omega, fun q => by omega, fun q => by omega, fun q => by omega, fun q => by omega, fun q => by omega, fun q => by omega⟩
theorem w2_6 (h : 0 ≤ x) : a_w2 6 x y z := ⟨fun q => by omega, fun q => by omega, fun q => by omega, fun _ => h, fun q => by omega, fun q => by omega, fun q => by omega, fun q => by omega, fun q => by omega, fun q => by omega, fun q => by omega⟩
theorem w2_7 (h : a_opd x ∧ 0 ≤ y ∧ y < 90) : a_w2 7 x y z := ⟨fun q => by omega, fun q => by omega, fun q => by omega, fun q => by omega, fun _ => h, fun q => by omega, fun q => by omega, fun q => by omega, fun q => by omega, fun q => by omega, fun q => by omega⟩
theorem w2_8 (h : 0 ≤ x ∧ x < 90) : a_w2 8 x y z := ⟨fun q => by omega, fun q => by omega, fun q => by omega, fun q => by omega, fun q => by omega, fun _ => h, fun q => by omega, fun q => by omega, fun q => by omega, fun q => by omega, fun q => by omega⟩
theorem w2_9 (h : (0 ≤ y ∧ y < 8) ∧ 0 ≤ x ∧ x < 10) : a_w2 9 x y z := ⟨fun q => by omega, fun q => by omega, fun q => by omega, fun q => by omega, fun q => by omega, fun q => by omega, fun _ => h, fun q => by omega, fun q => by omega, fun q => by omega, fun q => by omega⟩
theorem w2_10 : a_w2 10 x y z := ⟨fun q => by omega, fun q => by omega, fun q => by omega, fun q => by omega, fun q => by omega, fun q => by omega, fun q => by omega, fun q => by omega, fun q => by omega, fun q => by omega, fun q => by omega⟩
theorem w2_11 (h : 0 ≤ x ∧ x < 90) : a_w2 11 x y z := ⟨fun q => by omega, fun q => by omega, fun q => by omega, fun q => by omega, fun q => by omega, fun _ => h, fun q => by omega, fun q => by omega, fun q => by omega, fun q => by omega, fun q => by omega⟩
theorem w2_12 (h : 0 ≤ x ∧ x < 90) : a_w2 12 x y z := ⟨fun q => by omega, fun q => by omega, fun q => by omega, fun q => by omega, fun q => by omega, fun _ => h, fun q => by omega, fun q => by omega, fun q => by omega, fun q => by omega, fun q => by omega⟩
theorem w2_13 (h : 0 ≤ z ∧ z < 90) : a_w2 13 x y z := ⟨fun q => by omega, fun q => by omega, fun q => by omega, fun q => by omega, fun q => by omega, fun q => by omega, fun q => by omega, fun _ => h, fun q => by omega, fun q => by omega, fun q => by omega⟩
theorem w2_14 (h : (0 ≤ x ∧ x < 4) ∧ 0 ≤ y ∧ y < 90) : a_w2 14 x y z := ⟨fun q => by omega, fun q => by omega, fun q => by omega, fun q => by omega, fun q => by omega, fun q => by omega, fun q => by omega, fun q => by omega, fun _ => h, fun q => by omega, fun q => by omega⟩
theorem w2_15 (h : (0 ≤ x ∧ x < 4) ∧ 0 ≤ y ∧ y < 90) : a_w2 15 x y z := ⟨fun q => by omega, fun q => by omega, fun q => by omega, fun q => by omega, fun q => by omega, fun q => by omega, fun q => by omega, fun q => by omega, fun _ => h, fun q => by omega, fun q => by omega⟩
theorem w2_16 (h : 0 ≤ x ∧ x < 4) : a_w2 16 x y z := ⟨fun q => by omega, fun q => by omega, fun q => by omega, fun q => by omega, fun q => by omega, fun q => by omega, fun q => by omega, fun q => by omega, fun q => by omega, fun _ => h, fun q => by omega⟩
theorem w2_17 (h : 0 ≤ x ∧ x < 8) : a_w2 17 x y z := ⟨fun q => by omega, fun q => by omega, fun q => by omega, fun q => by omega, fun q => by omega, fun q => by omega, fun q => by omega, fun q => by omega, fun q => by omega, fun q => by omega, fun _ => h⟩
theorem w2_18 (h : 0 ≤ x ∧ x < 8) : a_w2 18 x y z := ⟨fun q => by omega, fun q => by omega, fun q => by omega, fun q => by omega, fun q => by omega, fun q => by omega, fun q => by omega, fun q => by omega, fun q => by omega, fun q => by omega, fun _ => h⟩
theorem w2_19 (h : 0 ≤ x ∧ x < 90) : a_w2 19 x y z := ⟨fun q => by omega, fun q => by omega, fun q => by omega, fun q => by omega, fun q => by omega, fun _ => h, fun q => by omega, fun q => by omega, fun q => by omega, fun q => by omega, fun q => by omega⟩
theorem w2_20 : a_w2 20 x y z := ⟨fun q => by omega, fun q => by omega, fun q => by omega, fun q => by omega, fun q => by omega, fun q => by omega, fun q => by omega, fun q => by omega, fun q => by omega, fun q => by omega, fun q => by omega⟩
end W2
/-- the place at d + 1 is a copy -/
def cpy (d : Nat) (M0 M : yM) : Prop := ∀ j, j < 6 → M (105 + (d + 1)) j = M0 (105 + d) j
/-- laying of parts: it ends, and it is known what it lays -/
def ihL (cc : Nat) (P : yM) (r d : Nat) (ly : yM → Int → Int → Option yM) : Prop :=
  (∀ M n, lT cc (d + 1) M (ly M n ((d : Int) + 1))) ∧ ∀ (M : yM) (n : Nat) (M' : yM), sO cc P (d + 1) (d + 1) M → nB P (d + 1) n M → ly M (n : Int) ((d : Int) + 1) = some M' → M' cc 1 = 0 → lay cc P r (d + 1) n M M'
/-- a node has begun: before it, and behind its beginning -/
def beg (cc : Nat) (P : yM) (d n : Nat) (M0 M : yM) : Prop := sO cc P d d M0 ∧ nB P d n M0 ∧ sO cc P d (d + 1) M ∧ sg cc d M0 M ∧ bD cc M0 M n
section KdA
variable {cc d e b i N n n' r o : Nat} {P M M' M0 M1 M2 M3 MB Mc Me : yM} {op x y z nd gd lb v L L1 p u : Int} {tgt tgt1 : Int → Nat} {k : Nat → Nat → Int} {bg : Nat → List Nat} {ch : Nat → List (Int × Int)} {H H1 : Int → List (Int × Int)} {G : aC} {ly : yM → Int → Int → Option yM}
theorem rd_P (hP : ∀ a j, a ≤ 17 → M a j = P a j) {a : Nat} (ha : 7 ≤ a ∧ a ≤ 17) (hn : n < 90) : yrd M a (n : Int) = P a n := by
  have h90 : yln a = 90 := by
    rcases (show a = 7 ∨ a = 8 ∨ a = 9 ∨ a = 10 ∨ a = 11 ∨ a = 12 ∨ a = 13 ∨ a = 14 ∨ a = 15 ∨ a = 16 ∨ a = 17 by omega) with rfl | rfl | rfl | rfl | rfl | rfl | rfl | rfl | rfl | rfl | rfl <;> rfl
  rw [rd_in (by omega) (by rw [h90]; omega), Int.toNat_natCast, hP a n ha.2]
theorem inv_in (hA : pA P) (hI : lI cc P b M) (hu : u < M 96 7) (h : inv P M n u) (hp : 0 ≤ p ∧ p < (n : Int) ∧ P 11 p.toNat = (n : Int)) : inv P M p.toNat u := by
  intro y hy
  obtain ⟨h1, h2⟩ := h y hy
  have hlt := on_lt hI hu hy
  have hy2 := hI.2.2.2.2.2.2.2.2.1 y (by omega)
  refine ⟨by omega, fun q1 f q2 q3 => ?_⟩
  rcases an_of q3 hp.2.2 with q | q
  · have hO := (hA.2.2.2.1 (M 98 y).toNat (by have := hy2.2.2.2.1; omega)).2.2.2.2.2.2.2.2.1 q1
    rcases hO.1 with q4 | q4
    · omega
    · have e : P 11 p.toNat = ((M 98 y).toNat : Int) := by
        rw [q, show f = (P 8 (M 98 y).toNat).toNat by omega]
        exact q4.2.2.1
      omega
  · exact h2 q1 f q2 q
/-- a part can be laid further in -/
theorem kid_nB (hA : pA P) (hcc : pC cc) (hd : d < 90) (hs : sO cc P d b M0) (hn : nB P d n M0) (hw : lw cc d M0 M) (hK : lK cc M0 M) (hp : 0 ≤ p ∧ p < (n : Int) ∧ P 11 p.toNat = (n : Int)) (h12 : P 7 p.toNat ≠ 12) (h0 : M (105 + (d + 1)) 0 = M0 (105 + d) 0) (h14 : P 14 p.toNat ≠ -1 → 0 ≤ M (105 + (d + 1)) 3 ∧ M (105 + (d + 1)) 3 < M (105 + (d + 1)) 1) (h15 : P 15 p.toNat ≠ -1 → 0 < M (105 + (d + 1)) 4) : nB P (d + 1) p.toNat M := by
  obtain ⟨n1, n2, n3, n4, n5⟩ := hn
  have hgd := hs.1.2.2.2.1 d (Nat.le_refl d)
  have hdv := (hA.2.2.2.2.2.1 p.toNat n (by omega) hp.2.2).1
  refine ⟨by omega, h12, by rw [hdv]; exact n3, ?_, h15, h14⟩
  rw [h0]
  exact inv_K hs.2 hK (by omega) (inv_in hA hs.2 (by omega) n4 hp)
theorem kid_sO (hd : d < 90) (hs : sO cc P d b M) (h0 : M (105 + (d + 1)) 0 = M (105 + d) 0) (h1 : M (105 + d) 1 ≤ M (105 + (d + 1)) 1 ∧ M (105 + (d + 1)) 1 ≤ (d : Int) + 1) (h2 : 0 ≤ M (105 + (d + 1)) 2 ∧ M (105 + (d + 1)) 2 ≤ (d : Int) + 1) (h3 : -1 ≤ M (105 + (d + 1)) 3 ∧ M (105 + (d + 1)) 3 < 90) (h4 : 0 ≤ M (105 + (d + 1)) 4 ∧ M (105 + (d + 1)) 4 ≤ M 96 10) (h5 : -1 ≤ M (105 + (d + 1)) 5 ∧ M (105 + (d + 1)) 5 < M 96 7) : sO cc P (d + 1) b M := by
  have hgd := hs.1.2.2.2.1 d (Nat.le_refl d)
  refine sO_in hd hs (by omega) h2 h3 h4 h5 (by omega) (fun q => ?_) (fun y hy => ?_)
  · rw [h0] at q ⊢
    have := hgd.2.2.2.2.2.1 q
    omega
  · rw [h0] at hy
    obtain ⟨c1, c2, c3⟩ := hs.1.2.2.2.2 y hy
    exact ⟨c1, c2, by omega⟩
theorem kid_sf (hcc : pC cc) (hd : d < 90) (hs : sO cc P d b M0) (hw : lw cc d M0 M) (hK : lK cc M0 M) (hp : P 11 p.toNat = (n : Int)) (h0 : M (105 + (d + 1)) 0 = M0 (105 + d) 0) {c : Nat} (h : sf P M0 d n c) : sf P M (d + 1) p.toNat c := by
  have hgd := hs.1.2.2.2.1 d (Nat.le_refl d)
  refine ⟨fun q => h.1 (an_in q hp), fun y hy => ?_⟩
  rw [h0] at hy
  have hy' := (on_K hs.2 hK (by omega)).mp hy
  have hlt := on_lt hs.2 (by omega) hy'
  rw [(hK.2.2.2.2.1 y (by omega)).1]
  exact h.2 y hy'
/-- a plain part: its place is a copy -/
theorem kid_cp (hd : d < 90) (hcc : pC cc) (hs : sO cc P d b M) (hw : lw cc d M0 M) (hc : cpy d M0 M) : sO cc P (d + 1) b M := by
  have hgd := hs.1.2.2.2.1 d (Nat.le_refl d)
  have e : ∀ j, j < 6 → M (105 + (d + 1)) j = M (105 + d) j := fun j hj => by rw [hc j hj, lw_pl hcc hw (Nat.le_refl d) (by omega) j]
  have e0 := e 0 (by omega)
  have e1 := e 1 (by omega)
  have e2 := e 2 (by omega)
  have e3 := e 3 (by omega)
  have e4 := e 4 (by omega)
  have e5 := e 5 (by omega)
  exact kid_sO hd hs e0 (by omega) (by omega) (by omega) (by omega) (by omega)
theorem kid_gG (hcc : pC cc) (hd : d < 90) (hs : sO cc P d b M0) (hw : lw cc d M0 M) (hK : lK cc M0 M) (hc : cpy d M0 M) (hH : ∀ y : Int, y < M0 96 7 → H1 y = H y) (ht : ∀ l : Int, l ≤ M0 96 10 → tgt1 l = tgt l) (h : gG M0 tgt H d G) : gG M tgt1 H1 (d + 1) G := by
  obtain ⟨g1, g2, g3, g4, g5⟩ := h
  have hgd := hs.1.2.2.2.1 d (Nat.le_refl d)
  unfold gG
  rw [hc 0 (by omega), hc 1 (by omega), hc 2 (by omega), hc 3 (by omega)]
  exact ⟨gR_in hcc hd hs hw hK hH ht g1, g2, g3, g4, lpR_2 hs.2 hK (by omega) (hc 4 (by omega)) (hc 5 (by omega)) (ht _ (by omega)) g5⟩
theorem cp_47 (hd : d < 90) (hw : lw cc d M0 M) (hcc : pC cc) : pD d M (f_47 M (d : Int)) ∧ cpy d M0 (f_47 M (d : Int)) := by
  rw [f47]
  obtain ⟨h1, h2⟩ := f48 (M := M) (o := d) hd (Nat.le_refl d)
  exact ⟨h1, fun j hj => (h2 j hj).trans (lw_pl hcc hw (Nat.le_refl d) (by omega) j)⟩
theorem nd_lt (hA : pA P) (hn : nB P d n M) : n < 90 := by
  have := hA.1
  have := hn.1
  omega
/-- a node of one instruction -/
theorem S_one (hcc : pC cc) (hd : d < 90) (hA : pA P) (hb : beg cc P d n M0 MB) (hM' : eM cc MB op x y z (n : Int) (M0 (105 + d) 0) 0 = M') (h0 : M' cc 1 = 0) (hop : 1 ≤ op ∧ op ≤ 20) (hw2 : a_w2 op x y z) (hj : op ≠ 5 ∧ op ≠ 6 ∧ op ≠ 17 ∧ op ≠ 18) (h9 : op = 9 → y < P 1 4) (h10 : op = 10 ∨ op = 13 → 0 ≤ x ∧ x < P 1 0)
    (hrk : a_may op ↔ a_rk op) (hnode : ∀ (k : Nat → Nat → Int) (bg : Nat → List Nat) (ch : Nat → List (Int × Int)) (G : aC) (i j e : Nat), (G.2.1 : Int) = M0 (105 + d) 1 → G.2.2.2.1 = M0 (105 + d) 3 → a_one k bg ch n G i j e op x y z → a_node (yq P) k bg ch (a_Ld (yq P) k bg ch r) n G i j e) : lay cc P (r + 1) d n M0 M' := by
  obtain ⟨hs0, hn, hs, hg, hD⟩ := hb
  have hr := cc_rg hcc
  have hW0 := hs0.1.2.1.1
  have hn7 := nd_lt hA hn
  have hgd := hs0.1.2.2.2.1 d (Nat.le_refl d)
  obtain ⟨d1, d2, d3, d4, d5⟩ := hD.1
  obtain ⟨s1, s2, s3⟩ := em hcc (by omega) hs hM' h0 ⟨hop, hw2, fun q => by omega, h9, fun q => by omega, h10, fun _ => ⟨by omega, hn.1⟩, by omega, by have := hs.2.2.2.1; omega, fun q => absurd q (by decide)⟩
  have hbs := bs_em (bs_0 (P := P) (n := n) hcc hD hg) s2 s3 (Or.inl rfl) (by omega)
  obtain ⟨⟨c1, c2, c3, c4, c5, c6⟩, e2, ⟨p101, p102, p1, p2, p3, p4, p5⟩, e67, e8, e103, e105⟩ := id s3
  have hTT := tT_s (x := M0 cc 0)
  have hI0 := hs0.2
  have hi1 := hI0.1
  have hi2 := hI0.2.1
  have hi3 := hI0.2.2.1
  refine ⟨hbs.1.1, s1.1.2.1, lI_b s1.2 (by omega) (by omega) (by omega), hbs.1.2.1, hbs.2.1, hbs.2.2.1, hbs.1.2.2, ⟨by omega, by omega, by omega, by omega, by rw [show M' cc 0 = M0 cc 0 + 1 by omega, hTT]; omega⟩, lE_em hs.2 s3, hbs.2.2.2, ?_⟩
  intro tgt k bg ch H G hA1 hC1 hH1 _ hG1
  obtain ⟨q1, q2, q3, q4, q5, q6⟩ := hA1 (M0 cc 0).toNat (by omega) (by omega)
  rw [show (MB cc 0).toNat = (M0 cc 0).toNat by omega] at p101 p102 p1 p2 p3 p4 p5
  rw [p102, if_neg (by omega)] at q5
  obtain ⟨b1, b2, b3⟩ := bg_at hs0.2 (by omega) hW0.1 hD s2.2.1 (by omega) s1.2 q6
  refine ⟨b1, hnode k bg ch G _ _ _ hG1.2.1 hG1.2.2.2.1 ⟨?_, by omega, by omega, by omega, by omega, by omega, by omega, fun hq => ?_⟩⟩
  · have h7 := (hD.2.2.1 (by omega)).1
    have h6 := hI0.2.2.2.2.2.1 (M0 cc 0).toNat (by omega) (by omega)
    rw [b2, (e67 _).1, h7]
    omega
  · rw [hC1 (M0 cc 0).toNat (by omega) (by omega) (by rw [p1]; exact hrk.mpr hq), p101, show (M' 21 1 - M0 21 1).toNat = 0 by omega]
    exact (gR_hs hH1 _ _ hG1.1).symm
end KdA
