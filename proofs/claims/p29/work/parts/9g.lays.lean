/-! two runs side by side: nodes with parts -/
/-- parts laid in two runs -/
def ihQ (cc : Nat) (P : yM) (b : Prop) (d : Nat) (ly : yM → Int → Int → Option yM) : Prop := ∀ (S : Nat → Prop) (v x : Int) (M N : yM), v ≤ (d : Int) + 1 → pq cc P b S (d + 1) v M N → qT cc P b S (d + 1) v M (ly M x ((d : Int) + 1)) (ly N x ((d : Int) + 1))
/-- a guard that was made at depth d -/
def gk (M : yM) (g : Int) (d : Nat) : Prop := (0 ≤ g ∧ g < M 96 7) ∧ M 100 g.toNat = (d : Int)
section PvA
variable {cc d e i n K : Nat} {P M N M' N' M0 N0 X Y : yM} {b : Prop} {S S' S0 : Nat → Prop} {v v' v1 x y z f to g k isT x1 x2 x3 x4 x5 x6 x7 x8 x9 x10 : Int} {ly : yM → Int → Int → Option yM}
theorem gk_mo (h : gk M g d) (m : mo cc M X) : gk X g d := by
  obtain ⟨h1, h2⟩ := h
  exact ⟨⟨h1.1, by have := m.1; omega⟩, (m.2.2 _ (by omega)).trans h2⟩
theorem gk_rg (h : gk M g d) : -1 ≤ g ∧ g < M 96 7 := ⟨by have := h.1.1; omega, h.1.2⟩
theorem rg_mo (h : -1 ≤ g ∧ g < M 96 7) (m : mo cc M X) : -1 ≤ g ∧ g < X 96 7 := ⟨h.1, by have := m.1; omega⟩
theorem pl_eq (h : pq cc P b S e v M N) (l : Nat) (hl : l ≤ e) (j : Nat) (hj : j < 6) : N (105 + l) j = M (105 + l) j := (h.2.2.2.1 l hl).1 j hj
theorem qT_ly {A A' : yM → Option yM} (ih : ihQ cc P b d ly) (hv : v1 ≤ (d : Int) + 1) (h : pq cc P b S' (d + 1) v1 M N) (hx : y = x) (hk : ∀ X Y, pq cc P b S' d v1 X Y → mo cc M X → qT cc P b S e v X (A X) (A' Y)) : qT cc P b S e v M (Option.bind (ly M x ((d : Int) + 1)) A) (Option.bind (ly N y ((d : Int) + 1)) A') := by
  rw [hx]
  exact qT_bind (ih _ _ _ _ _ hv h) fun X Y hX m => hk X Y (pq_e hX (Nat.le_succ d)) m
theorem qT_lx {A A' : yM → Option yM} (ih : ihQ cc P b d ly) (hv : v1 ≤ (d : Int) + 1) (h : pq cc P b S' (d + 1) v1 M N) (hx : y = x) (hk : ∀ X Y, pq cc P b S' (d + 1) v1 X Y → mo cc M X → qT cc P b S e v X (A X) (A' Y)) : qT cc P b S e v M (Option.bind (ly M x ((d : Int) + 1)) A) (Option.bind (ly N y ((d : Int) + 1)) A') := by
  rw [hx]
  exact qT_bind (ih _ _ _ _ _ hv h) hk
theorem no0 {i : Nat} {p : Prop} (h : i ≠ 0) : i = 0 → p := fun q => absurd q h
theorem no5 {i : Nat} {p : Prop} (h : i ≠ 5) : i = 5 → p := fun q => absurd q h
/-- a finally -/
theorem pq_55 (hcc : pC cc) (hd : d < 90) (ih : ihQ cc P b d ly) (h : pq cc P b S d v M N) (hv : v ≤ (d : Int) + 1) (hx : y = x3) : qT cc P b S d v M (f_55 ly cc M x1 (d : Int) x3) (f_55 ly cc N x1 (d : Int) y) := by
  subst hx
  unfold f_55
  rw [pz_s hd]
  refine qT_val (pq_rd h (by decide)) fun v1 _ => qT_cond (fun _ => qT_ret h) fun _ => ?_
  refine qT_st (pr_47 hcc hd h) fun X Y hX _ => ?_
  refine qT_st (pr_pl hcc hd hX (by decide) (no0 (by decide)) (no5 (by decide))) fun X Y hX _ => ?_
  rw [pl_eq hX (d + 1) (Nat.le_refl _) 2 (by decide)]
  refine qT_st (pr_pl hcc hd hX (by decide) (no0 (by decide)) (no5 (by decide))) fun X Y hX _ => ?_
  exact qT_ly ih hv hX rfl fun X Y hX _ => qT_ret hX
theorem ywr_103 {a : Nat} (h : yln a = 90) : (∀ b j, ¬ (b = a ∧ j = (yw x).toNat ∧ j < 90) → ywr M a x v b j = M b j) ∧ (0 ≤ yw x → (yw x).toNat < 90 → ywr M a x v a (yw x).toNat = v) := by
  unfold ywr
  rw [h]
  by_cases q : 0 ≤ yw x ∧ (yw x).toNat < 90
  · rw [if_pos q]
    exact ⟨fun b j r => yU_ne (fun s => r ⟨s.1, s.2, by rw [s.2]; exact q.2⟩), fun _ _ => yU_at⟩
  · rw [if_neg q]
    exact ⟨fun _ _ _ => rfl, fun q1 q2 => absurd ⟨q1, q2⟩ q⟩
/-- a place of a catch -/
theorem pr_cat (hcc : pC cc) (h : pq cc P b S e v M N) {u : Nat} (hu : u = 0 ∨ u = 1) (hx : 0 ≤ yw x) : pr cc P b (fun m => S m ∨ ((yw x).toNat < 90 ∧ m = 2 * (yw x).toNat + u)) e v M (ywr M (103 + u) x (M cc 0)) (ywr N (103 + u) x (N cc 0)) := by
  have hr := cc_rg hcc
  have hl := h.1.1.1.1
  have e0 : N cc 0 = M cc 0 := h.1.2.2.1.1
  have hln : yln (103 + u) = 90 := by rcases hu with rfl | rfl <;> rfl
  rw [e0]
  obtain ⟨k1, k2⟩ := ywr_103 (M := M) (x := x) (v := M cc 0) hln
  obtain ⟨n1, n2⟩ := ywr_103 (M := N) (x := x) (v := M cc 0) hln
  have w1 := (lQ_wrc (d := 0) (k := x) (a := 103 + u) (M := M) hcc (by omega) hl.1 hl.2 h.1.1.1).2
  have w2 := (lQ_wrc (d := 0) (k := x) (a := 103 + u) (M := N) hcc (by omega) hl.1 hl.2 h.1.1.2).2
  generalize ywr M (103 + u) x (M cc 0) = X at *
  generalize ywr N (103 + u) x (M cc 0) = Y at *
  refine ⟨?_, mo_of (k1 _ _ (by omega)) (k1 _ _ (by omega)) (k1 _ _ (by omega)) fun y => k1 _ _ (by omega)⟩
  refine pq_fr hcc h w1 w2 (fun a j q => ⟨k1 a j (by omega), n1 a j (by omega)⟩) ?_ (qC_cg (fun a j q => ⟨k1 a j (by omega), n1 a j (by omega)⟩) h.2.1) (qG_cg (fun a j q => ⟨k1 a j (by omega), n1 a j (by omega)⟩) h.2.2.1) (qL_cg (fun a j q => ⟨k1 a j (by omega), n1 a j (by omega)⟩) h.2.2.2.1) (fun c => ?_) (fun t _ => k1 _ _ (by omega))
  · rw [k1 _ _ (by omega), n1 _ _ (by omega)]
    exact h.1.2.2.1.2.2.2.2
  · obtain ⟨s1, s2⟩ := h.2.2.2.2.1 c
    constructor
    · intro q
      by_cases q2 : u = 0 ∧ c = (yw x).toNat ∧ c < 90
      · obtain ⟨rfl, rfl, q3⟩ := q2
        exact (n2 hx q3).trans (k2 hx q3).symm
      · rw [k1 103 c (by omega), n1 103 c (by omega)]
        exact s1 (by
          rcases q with q | ⟨q3, q4⟩
          · exact q
          · exact absurd (by omega) q2)
    · intro q
      by_cases q2 : u = 1 ∧ c = (yw x).toNat ∧ c < 90
      · obtain ⟨rfl, rfl, q3⟩ := q2
        have e1 : X 104 (yw x).toNat = M cc 0 := k2 hx q3
        have e2 : Y 104 (yw x).toNat = M cc 0 := n2 hx q3
        rw [e1, e2]
        exact ⟨rfl, Int.le_refl _⟩
      · rw [k1 104 c (by omega), n1 104 c (by omega)]
        exact s2 (by
          rcases q with q | ⟨q3, q4⟩
          · exact q
          · exact absurd (by omega) q2)
theorem yw_neg (h : yrel 2 x 0 = false) : 0 ≤ yw x := by
  have h2 := of_decide_eq_false (yrel2 ▸ h)
  have e0 : yw 0 = 0 := rfl
  omega
/-- a catch -/
theorem pq_52 (hcc : pC cc) (hd : d < 90) (ih : ihQ cc P b d ly) (h : pq cc P b S d v M N) (hv : v ≤ (d : Int) + 1) (hg : gk M x3 d) (hx : 0 ≤ yw x1) : qT cc P b (fun m => S m ∨ ((yw x1).toNat < 90 ∧ (m = 2 * (yw x1).toNat ∨ m = 2 * (yw x1).toNat + 1))) d v M (f_52 ly cc M x1 (d : Int) x3) (f_52 ly cc N x1 (d : Int) x3) := by
  unfold f_52
  rw [pz_s hd, pz_d (by omega)]
  refine qT_val (pl_eq h d (Nat.le_refl _) 1 (by decide)) fun v1 _ => ?_
  refine qT_st (pr_cat hcc h (Or.inl rfl) hx) fun X Y hX m1 => ?_
  refine qT_st (pr_40 hcc hX) fun X Y hX m2 => ?_
  have hg2 := gk_mo (gk_mo hg m1) m2
  refine qT_st (pr_45 (v' := v) hcc hX (by decide) (gk_rg hg2) (by omega)).1 fun X Y hX m3 => ?_
  have hg3 := gk_mo hg2 m3
  refine qT_st (pr_47 hcc hd hX) fun X Y hX m4 => ?_
  have hg4 := gk_mo hg3 m4
  refine qT_st (pr_pl hcc hd hX (by decide) (fun _ => ⟨gk_rg hg4, fun _ => by have := hg4.2; omega⟩) (no5 (by decide))) fun X Y hX m5 => ?_
  rw [pl_eq hX (d + 1) (Nat.le_refl _) 1 (by decide)]
  refine qT_st (pr_pl hcc hd hX (by decide) (no0 (by decide)) (no5 (by decide))) fun X Y hX _ => ?_
  refine qT_st (pr_pl hcc hd hX (by decide) (no0 (by decide)) (no5 (by decide))) fun X Y hX _ => ?_
  refine qT_ly ih hv hX (pq_rd hX (by decide)) fun X Y hX _ => ?_
  refine qT_st (pr_cat hcc hX (Or.inr rfl) hx) fun X Y hX _ => ?_
  refine qT_ret (pq_s hX fun m q => ?_)
  rcases q with q | ⟨q1, q2 | q2⟩
  · exact Or.inl (Or.inl q)
  · exact Or.inl (Or.inr ⟨q1, q2⟩)
  · exact Or.inr ⟨q1, q2⟩
/-- the way out -/
theorem pq_65 (hcc : pC cc) (hK : 1000 ≤ K) (hd : d < 90) (ih : ihQ cc P b d ly) (h : pq cc P b S d v M N) (hv : v ≤ (d : Int) + 1) (hx : -1 ≤ x2 ∧ x2 ≤ 390) (hy : y = x2) : qT cc P b S d v M (f_65 K ly cc M (d : Int) x2) (f_65 K ly cc N (d : Int) y) := by
  subst hy
  have key : ∀ (n : Nat) {M N : yM} {x4 x5 : Int}, pq cc P b S d v M N → 0 ≤ x5 → x5 ≤ 90 → x5 < n → -1 ≤ x4 → x4 < M 96 7 → (0 ≤ x4 → M 100 x4.toNat < (d : Int)) → qT cc P b S d v M (f_65_9 K ly cc n M (d : Int) y (105 + d) x4 x5) (f_65_9 K ly cc n N (d : Int) y (105 + d) x4 x5) := by
    intro n
    induction n with
    | zero => intro M N x4 x5 _ q0 _ q; exact absurd q (by omega)
    | succ n ihn =>
      intro M N x4 x5 h q0 q1 q2 g0 g1 g2
      have h390 := h.1.2.2.2.2.2.1
      rw [f_65_9, f_65_9, rel5 ⟨by omega, by omega⟩ ⟨by omega, by omega⟩]
      by_cases hc : x4 ≤ y
      · rw [cond_dt hc, cond_dt hc]
        exact qT_ret h
      rw [cond_df hc, cond_df hc, rel5 ⟨by omega, by omega⟩ ⟨by decide, by decide⟩]
      by_cases hc2 : x5 ≤ 0
      · rw [cond_dt hc2, cond_dt hc2]
        exact qT_ret h
      rw [cond_df hc2, cond_df hc2]
      have hq := h.2.2.1 x4.toNat (by omega)
      have r : ∀ (Q : yM) (a : Nat), yln a = 390 → yrd Q a x4 = Q a x4.toNat := fun Q a q => rd_in (by omega) (by rw [q]; omega)
      rw [r M 98 rfl, r N 98 rfl, r M 99 rfl, r N 99 rfl, hq.1.1, hq.1.2.1]
      refine qT_val rfl fun v4 _ => qT_val rfl fun v5 e5 => ?_
      have ih' : ∀ {X Y : yM}, pq cc P b S d v X Y → mo cc M X → qT cc P b S d v X (f_65_71 K ly cc (f_65_9 K ly cc n) X (d : Int) y (105 + d) x5 v5) (f_65_71 K ly cc (f_65_9 K ly cc n) Y (d : Int) y (105 + d) x5 v5) := fun {X Y} hX m => by
        unfold f_65_71
        have := hq.2.1
        have := m.1
        refine ihn hX (by omega) (by omega) (by omega) (by omega) (by omega) fun z => ?_
        rw [m.2.2 _ (by omega), e5]
        have := hq.2.2.1 (by omega)
        have := g2 (by omega)
        omega
      rw [pq_rd (a := 7) h (by decide)]
      refine qT_cond (fun _ => ?_) fun _ => ?_
      · rw [pq_rd (a := 8) h (by decide)]
        refine qT_cond (fun _ => ih' h mo_rfl) fun _ => ?_
        have hq3 := hq.2.2.2
        have hg2 := g2 (by omega)
        rw [r M 100 rfl, r N 100 rfl, hq.1.2.2, show M 100 x4.toNat = ((M 100 x4.toNat).toNat : Int) by omega, pz_s hd]
        refine qT_st (pr_48 hcc hd h (l := (M 100 x4.toNat).toNat) (by omega)) fun X Y hX m1 => ?_
        rw [pl_eq hX d (by omega) 1 (by decide)]
        refine qT_st (pr_pl hcc hd hX (by decide) (no0 (by decide)) (no5 (by decide))) fun X Y hX m2 => ?_
        rw [pl_eq hX d (by omega) 2 (by decide)]
        refine qT_st (pr_pl hcc hd hX (by decide) (no0 (by decide)) (no5 (by decide))) fun X Y hX m3 => ?_
        exact qT_ly ih hv hX (pq_rd hX (by decide)) fun X Y hX m4 => ih' hX (mo_trans (mo_trans (mo_trans m1 m2) m3) m4)
      · exact qT_st (pr_54 hcc h (by rw [e5]; have := hq.2.1; omega)) fun X Y hX m => ih' hX m
  have hp := h.2.2.2.1 d (Nat.le_refl d)
  unfold f_65
  rw [pz_d (by omega)]
  refine qT_val (hp.1 0 (by decide)) fun t ht => ?_
  subst ht
  exact key K h (by omega) (by omega) (by omega) hp.2.1.1 hp.2.1.2 hp.2.2.1
theorem g390 (h : pq cc P b S e v M N) : M 96 7 ≤ 390 := h.1.2.2.2.2.2.1
/-- a break -/
theorem pq_51 (hcc : pC cc) (hK : 1000 ≤ K) (hd : d < 90) (ih : ihQ cc P b d ly) (h : pq cc P b S d v M N) (hv : v ≤ (d : Int) + 1) : qT cc P b S d v M (f_51 K ly cc M x1 (d : Int)) (f_51 K ly cc N x1 (d : Int)) := by
  have hp := h.2.2.2.1 d (Nat.le_refl d)
  have h390 := g390 h
  unfold f_51
  rw [pz_d (by omega)]
  refine qT_bind (pq_65 hcc hK hd ih h hv ⟨hp.2.2.2.1, by have := hp.2.2.2.2; omega⟩ (hp.1 5 (by decide))) fun X Y hX _ => ?_
  have hp := hX.2.2.2.1 d (Nat.le_refl d)
  rw [hp.1 4 (by decide), hp.1 5 (by decide)]
  exact qT_st (pr_46 (v' := v) hcc hX (by decide) hp.2.2.2 (by omega)).1 fun X Y hX _ => qT_ret hX
/-- a return -/
theorem pq_60 (hcc : pC cc) (hK : 1000 ≤ K) (hd : d < 90) (ih : ihQ cc P b d ly) (h : pq cc P b S d v M N) (hv : v ≤ (d : Int) + 1) : qT cc P b S d v M (f_60 K ly cc M x1 (d : Int)) (f_60 K ly cc N x1 (d : Int)) := by
  have hp := h.2.2.2.1 d (Nat.le_refl d)
  unfold f_60
  rw [pz_d (by omega), hp.1 0 (by decide), hp.1 2 (by decide), pq_rd (a := 9) h (by decide)]
  refine qT_st (pr_45 (v' := v) hcc h (by decide) hp.2.1 (by omega)).1 fun X Y hX _ => ?_
  refine qT_bind (pq_65 hcc hK hd ih hX hv ⟨by omega, by omega⟩ rfl) fun X Y hX _ => ?_
  rw [pl_eq hX d (by omega) 2 (by decide)]
  exact qT_st (pr_45 (v' := v) hcc hX (by decide) ⟨by omega, by have := hX.1.2.2.2.2.1; omega⟩ (by omega)).1 fun X Y hX _ => qT_ret hX
/-- a label more -/
theorem qT_nl {A A' : yM × Int → Option yM} (hcc : pC cc) (h : pq cc P b S' e v' M N) (hk : ∀ (t u : yM × Int), pq cc P b S' e v' t.1 u.1 → mo cc M t.1 → u.2 = t.2 → qT cc P b S d v t.1 (A t) (A' u)) : qT cc P b S d v M (ylet (f_67 M) A) (ylet (f_67 N) A') := by
  obtain ⟨⟨h1, h2⟩, h3⟩ := pr_67 hcc h
  exact qT_mo h2 (hk (f_67 M) (f_67 N) h1 h2 h3)
/-- an if -/
theorem pq_57 (hcc : pC cc) (hK : 1000 ≤ K) (hd : d < 90) (ih : ihQ cc P b d ly) (h : pq cc P b S d v M N) (hv : v ≤ (d : Int) + 1) : qT cc P b S d v M (f_57 K ly cc M x1 (d : Int)) (f_57 K ly cc N x1 (d : Int)) := by
  have hp := h.2.2.2.1 d (Nat.le_refl d)
  have hl := h.1.1.1.1
  unfold f_57
  rw [pz_d (by omega)]
  refine qT_val (hp.1 0 (by decide)) fun v1 e1 => qT_val (pq_rd h (by decide)) fun v2 _ => qT_val h.1.2.2.1.1 fun v3 e3 => qT_nl hcc h fun t u ht m1 eu => qT_val eu fun v5 _ => ?_
  have hg1 : -1 ≤ v1 ∧ v1 < t.1 96 7 := rg_mo (by rw [e1]; exact hp.2.1) m1
  rw [pq_rd (a := 8) ht (by decide)]
  refine qT_st (pr_46 (v' := v) hcc ht (by decide) hg1 (by omega)).1 fun X Y hX m2 => qT_st (pr_47 hcc hd hX) fun X Y hX m3 => qT_lx ih hv hX (pq_rd hX (by decide)) fun X Y hX m4 => ?_
  have hg4 := rg_mo (rg_mo (rg_mo hg1 m2) m3) m4
  refine qT_cond (fun _ => ?_) fun _ => qT_bind (pq_69 hcc hK (by omega) (by omega) hX) fun X Y hX _ => qT_ret (pq_e hX (Nat.le_succ d))
  refine qT_nl hcc hX fun t u ht m5 eu => qT_val eu fun v11 _ => qT_st (pr_46 (v' := v) hcc ht (by decide) (rg_mo hg4 m5) (by omega)).1 fun X Y hX m6 => ?_
  exact qT_bind (pq_69 hcc hK (by omega) (by omega) hX) fun X Y hX _ => qT_lx ih hv hX rfl fun X Y hX _ => qT_bind (pq_69 hcc hK (by omega) (by omega) hX) fun X Y hX _ => qT_ret (pq_e hX (Nat.le_succ d))
/-- a loop -/
theorem pq_58 (hcc : pC cc) (hK : 1000 ≤ K) (hd : d < 90) (ih : ihQ cc P b d ly) (h : pq cc P b S d v M N) (hv : v ≤ (d : Int) + 1) : qT cc P b S d v M (f_58 K ly cc M x1 (d : Int)) (f_58 K ly cc N x1 (d : Int)) := by
  have hp := h.2.2.2.1 d (Nat.le_refl d)
  unfold f_58
  rw [pz_d (by omega), pz_s hd]
  refine qT_val (hp.1 0 (by decide)) fun v1 e1 => qT_nl hcc h fun t u ht m1 eu => qT_val eu fun v3 _ => ?_
  have hg1 : -1 ≤ v1 ∧ v1 < t.1 96 7 := rg_mo (by rw [e1]; exact hp.2.1) m1
  refine qT_st (pr_45 (v' := v) hcc ht (by decide) hg1 (by omega)).1 fun X Y hX m2 => qT_val hX.1.2.2.1.1 fun v5 e5 => ?_
  have hl := hX.1.1.1.1
  have hg2 := rg_mo hg1 m2
  rw [pq_rd (a := 8) hX (by decide)]
  refine qT_st (pr_46 (v' := v) hcc hX (by decide) hg2 (by omega)).1 fun X Y hX m3 => qT_st (pr_47 hcc hd hX) fun X Y hX m4 => qT_st (pr_pl hcc hd hX (by decide) (no0 (by decide)) (no5 (by decide))) fun X Y hX m5 => ?_
  have hg5 := rg_mo (rg_mo (rg_mo hg2 m3) m4) m5
  refine qT_st (pr_pl hcc hd hX (by decide) (no0 (by decide)) (fun _ => hg5)) fun X Y hX m6 => qT_ly ih hv hX (pq_rd hX (by decide)) fun X Y hX m7 => ?_
  have hg7 := rg_mo (rg_mo hg5 m6) m7
  exact qT_st (pr_45 (v' := v) hcc hX (by decide) hg7 (by omega)).1 fun X Y hX _ => qT_bind (pq_69 hcc hK (by omega) (by omega) hX) fun X Y hX _ => qT_ret hX
end PvA
