/-! two runs side by side: TRY, USING, every node -/
section PwA
variable {cc d e i n K : Nat} {P M N M' N' M0 N0 X Y : yM} {b : Prop} {S S' S0 : Nat → Prop} {v v' v1 x y z f to g k isT x1 x2 x3 x4 x5 x6 x7 x8 x9 x10 : Int} {ly : yM → Int → Int → Option yM}
theorem le_mo (h : M cc 1 = 0 → 0 ≤ x ∧ x ≤ M cc 0) (m : mo cc M X) : X cc 1 = 0 → 0 ≤ x ∧ x ≤ X cc 0 := fun z => by
  have c1 := m.2.1 z
  have c2 := h c1.1
  omega
theorem gk_390 (h : pq cc P b S e v M N) (hg : gk M g d) : -1 ≤ g ∧ g ≤ 390 := ⟨by have := hg.1.1; omega, by have := hg.1.2; have := g390 h; omega⟩
theorem pq_63_135 (hcc : pC cc) (hK : 1000 ≤ K) (h : pq cc P b S d v M N) (hg : gk M x4 d) (hx7 : 0 ≤ x7 ∧ x7 ≤ 300) (hx8 : 0 ≤ x8 ∧ x8 ≤ 300) (hL : M cc 1 = 0 → 0 ≤ x8 ∧ x8 ≤ M cc 0) (hS : ∀ c, c < 90 → vis P 90 (yrd P 10 x1) c → S (2 * c) ∧ S (2 * c + 1)) : qT cc P b S d v M (f_63_135 K ly cc M x1 x4 x5 x6 x7 x8 x10) (f_63_135 K ly cc N x1 x4 x5 x6 x7 x8 x10) := by
  unfold f_63_135
  refine qT_bind (pq_69 hcc hK hx8.1 hx8.2 h) fun X Y hX m1 => ?_
  have hL1 := le_mo hL m1
  refine qT_bind (pq_53 hcc hK hX hx7 hL1 (gk_390 hX (gk_mo hg m1)) hS) fun X Y hX m2 => ?_
  exact qT_cond (fun _ => qT_ret hX) fun _ => qT_bind (pq_56 hcc hK hX hx7 (le_mo hL1 m2) (gk_390 hX (gk_mo (gk_mo hg m1) m2)) hS) fun X Y hX _ => qT_ret hX
theorem pq_63_100 (hcc : pC cc) (hK : 1000 ≤ K) (hd : d < 90) (ih : ihQ cc P b d ly) (h : pq cc P b S d v M N) (hv : v ≤ (d : Int) + 1) (hg : gk M x4 d) (hx7 : 0 ≤ x7 ∧ x7 ≤ 300) (hx8 : 0 ≤ x8 ∧ x8 ≤ 300) (hL : M cc 1 = 0 → 0 ≤ x8 ∧ x8 ≤ M cc 0) (hS : ∀ c, c < 90 → vis P 90 (yrd P 10 x1) c → S (2 * c) ∧ S (2 * c + 1)) : qT cc P b S d v M (f_63_100 K ly cc M x1 (d : Int) (105 + d) x4 x5 x6 x7 x8) (f_63_100 K ly cc N x1 (d : Int) (105 + d) x4 x5 x6 x7 x8) := by
  have hp := h.2.2.2.1 d (Nat.le_refl d)
  unfold f_63_100
  refine qT_val h.1.2.2.1.1 fun v15 _ => qT_cond (fun _ => pq_63_135 hcc hK h hg hx7 hx8 hL hS) fun _ => ?_
  rw [hp.1 0 (by decide), hp.1 1 (by decide)]
  refine qT_st (pr_45 (v' := v) hcc h (by decide) hp.2.1 (by omega)).1 fun X Y hX m1 => ?_
  refine qT_bind (pq_55 hcc hd ih hX hv (by rw [pl_eq hX d (Nat.le_refl d) 1 (by decide)])) fun X Y hX m2 => ?_
  have hp := hX.2.2.2.1 d (Nat.le_refl d)
  rw [hp.1 0 (by decide), hp.1 1 (by decide)]
  refine qT_st (pr_45 (v' := v) hcc hX (by decide) hp.2.1 (by omega)).1 fun X Y hX m3 => ?_
  exact pq_63_135 hcc hK hX (gk_mo (gk_mo (gk_mo hg m1) m2) m3) hx7 hx8 (le_mo (le_mo (le_mo hL m1) m2) m3) hS
theorem pq_63_63 (hcc : pC cc) (hK : 1000 ≤ K) (hd : d < 90) (ih : ihQ cc P b d ly) (hv : v ≤ (d : Int) + 1) (hx7 : 0 ≤ x7 ∧ x7 ≤ 300) (hx8 : 0 ≤ x8 ∧ x8 ≤ 300) : ∀ (n k : Nat) {M N : yM} {S : Nat → Prop} {x9 : Int}, k ≤ 90 → k < n → pq cc P b S d v M N → gk M x4 d → (M cc 1 = 0 → 0 ≤ x8 ∧ x8 ≤ M cc 0) → (∀ c, c < 90 → vis P 90 (yrd P 10 x1) c → (S (2 * c) ∧ S (2 * c + 1)) ∨ vis P k x9 c) → (∀ m, S0 m → S m) → qT cc P b S0 d v M (f_63_63 K ly cc n M x1 (d : Int) (105 + d) x4 x5 x6 x7 x8 x9 (k : Int)) (f_63_63 K ly cc n N x1 (d : Int) (105 + d) x4 x5 x6 x7 x8 x9 (k : Int))
  | 0, _, _, _, _, _, _, q, _, _, _, _, _ => absurd q (by omega)
  | n + 1, k, M, N, S, x9, hk, hn, h, hg, hL, hS, hS0 => by
    have fin : (∀ c, ¬ vis P k x9 c) → qT cc P b S0 d v M (f_63_100 K ly cc M x1 (d : Int) (105 + d) x4 x5 x6 x7 x8) (f_63_100 K ly cc N x1 (d : Int) (105 + d) x4 x5 x6 x7 x8) := fun q => by
      obtain ⟨X, Y, e1, e2, r1, r2⟩ := pq_63_100 (x5 := x5) (x6 := x6) hcc hK hd ih h hv hg hx7 hx8 hL fun c c1 c2 => (hS c c1 c2).resolve_right (q c)
      exact ⟨X, Y, e1, e2, pq_s r1 hS0, r2⟩
    rw [f_63_63, f_63_63]
    refine qT_cond (fun hx => fin fun c => ?_) fun hx => ?_
    · cases k with
      | zero => exact id
      | succ k =>
        intro q
        obtain ⟨q1, -⟩ := q
        rw [hx] at q1
        exact absurd q1 (by decide)
    rw [rel5 ⟨by omega, by omega⟩ ⟨by decide, by decide⟩]
    cases k with
    | zero => exact fin fun c => id
    | succ k =>
      rw [cond_df (by omega), cond_df (by omega)]
      refine qT_bind (pq_52 hcc hd ih h hv hg (yw_neg hx)) fun X Y hX m1 => ?_
      refine qT_bind (pq_55 hcc hd ih hX hv (pl_eq hX d (Nat.le_refl d) 1 (by decide))) fun X Y hX m2 => ?_
      refine qT_val (pq_rd hX (by decide)) fun v27 e27 => ?_
      have hg2 := gk_mo (gk_mo hg m1) m2
      have hL2 := le_mo (le_mo hL m1) m2
      have hS2 : ∀ c, c < 90 → vis P 90 (yrd P 10 x1) c → ((S (2 * c) ∨ ((yw x9).toNat < 90 ∧ (2 * c = 2 * (yw x9).toNat ∨ 2 * c = 2 * (yw x9).toNat + 1))) ∧ (S (2 * c + 1) ∨ ((yw x9).toNat < 90 ∧ (2 * c + 1 = 2 * (yw x9).toNat ∨ 2 * c + 1 = 2 * (yw x9).toNat + 1)))) ∨ vis P k v27 c := fun c c1 c2 => by
        rcases hS c c1 c2 with q | ⟨-, q | q⟩
        · exact Or.inl ⟨Or.inl q.1, Or.inl q.2⟩
        · exact Or.inl ⟨Or.inr ⟨by omega, Or.inl (by omega)⟩, Or.inr ⟨by omega, Or.inr (by omega)⟩⟩
        · rw [e27, pq_rdP hX (by decide)]
          exact Or.inr q
      have h98 : ∀ {X' Y' : yM}, pq cc P b (fun m => S m ∨ ((yw x9).toNat < 90 ∧ (m = 2 * (yw x9).toNat ∨ m = 2 * (yw x9).toNat + 1))) d v X' Y' → mo cc X X' → qT cc P b S0 d v X' (f_63_98 K ly cc (f_63_63 K ly cc n) X' x1 (d : Int) (105 + d) x4 x5 x6 x7 x8 v27 ((k + 1 : Nat) : Int)) (f_63_98 K ly cc (f_63_63 K ly cc n) Y' x1 (d : Int) (105 + d) x4 x5 x6 x7 x8 v27 ((k + 1 : Nat) : Int)) := fun {X' Y'} hX' m => by
        unfold f_63_98
        rw [show ((k + 1 : Nat) : Int) + (-1) = (k : Int) by omega]
        exact pq_63_63 hcc hK hd ih hv hx7 hx8 n k (by omega) (by omega) hX' (gk_mo hg2 m) (le_mo hL2 m) hS2 fun m q => Or.inl (hS0 m q)
      have h90 : qT cc P b S0 d v X (f_63_90 K ly cc (f_63_63 K ly cc n) X x1 (d : Int) (105 + d) x4 x5 x6 x7 x8 v27 ((k + 1 : Nat) : Int)) (f_63_90 K ly cc (f_63_63 K ly cc n) Y x1 (d : Int) (105 + d) x4 x5 x6 x7 x8 v27 ((k + 1 : Nat) : Int)) := by
        have hp := hX.2.2.2.1 d (Nat.le_refl d)
        unfold f_63_90
        rw [hp.1 0 (by decide)]
        exact qT_st (pr_46 (v' := v) hcc hX (by decide) hp.2.1 (by omega)).1 fun X' Y' hX' m => h98 hX' m
      exact qT_cond (fun _ => h90) fun _ => qT_cond (fun _ => h98 hX mo_rfl) fun _ => h90
/-- a guard more -/
theorem qT_ng {A A' : yM × Int → Option yM} (hcc : pC cc) (hd : d < 90) (h : pq cc P b S' d v' M N) (h0 : M cc 1 = 0) (hv : v' ≤ (d : Int)) (hk : ∀ (t u : yM × Int), pq cc P b S' d (v' + 1) t.1 u.1 → mo cc M t.1 → gk t.1 t.2 d → u.2 = t.2 → qT cc P b S e v t.1 (A t) (A' u)) : qT cc P b S e v M (ylet (f_66 M x (d : Int)) A) (ylet (f_66 N x (d : Int)) A') := by
  obtain ⟨⟨q1, q2, q3, q4⟩, q5, q6⟩ := pq_66 (x := x) hcc hd h h0 hv
  refine qT_mo q2 (hk _ _ q1 q2 ?_ (q6.trans q5.symm))
  have := h.1.2.2.2.2.1
  rw [q5]
  exact ⟨⟨this, by omega⟩, q4⟩
/-- a TRY -/
theorem pq_63 (hcc : pC cc) (hK : 1000 ≤ K) (hd : d < 90) (ih : ihQ cc P b d ly) (h : pq cc P b S d v M N) (h0 : M cc 1 = 0) (hv : v ≤ (d : Int)) : qT cc P b S d v M (f_63 K ly cc M x1 (d : Int)) (f_63 K ly cc N x1 (d : Int)) := by
  unfold f_63
  rw [pz_d (by omega), pz_s hd]
  refine qT_ng hcc hd h h0 hv fun A B q1 q2 hgk e2 => ?_
  refine qT_val e2 fun v2 e2 => qT_nl hcc q1 fun t u ht m1 eu => qT_val eu fun v4 _ => qT_val (pq_rd ht (by decide)) fun v5 _ => qT_val ht.1.2.2.1.1 fun v6 e6 => ?_
  have hl := ht.1.1.1.1
  have hg1 : gk t.1 v2 d := by rw [e2]; exact gk_mo hgk m1
  refine qT_st (pr_47 hcc hd ht) fun X Y hX m2 => ?_
  have hg2 := gk_mo hg1 m2
  refine qT_st (pr_pl hcc hd hX (by decide) (fun _ => ⟨gk_rg hg2, fun _ => by have := hg2.2; omega⟩) (no5 (by decide))) fun X Y hX m3 => ?_
  refine qT_ly ih (by omega) hX (pq_rd hX (by decide)) fun X Y hX m4 => ?_
  refine qT_val hX.1.2.2.1.1 fun v10 e10 => ?_
  have hl10 := hX.1.1.1.1
  have hL : X cc 1 = 0 → 0 ≤ v10 ∧ v10 ≤ X cc 0 := fun _ => by omega
  have hg4 := gk_mo (gk_mo hg2 m3) m4
  refine qT_bind (pq_55 hcc hd ih hX (by omega) (pl_eq hX d (Nat.le_refl d) 1 (by decide))) fun X Y hX m5 => ?_
  have hp := hX.2.2.2.1 d (Nat.le_refl d)
  rw [hp.1 0 (by decide)]
  refine qT_st (pr_46 (v' := v) hcc hX (by decide) hp.2.1 (by omega)).1 fun X Y hX m6 => ?_
  refine qT_val (pq_rd hX (by decide)) fun v13 e13 => ?_
  refine pq_63_63 hcc hK hd ih (by omega) (by omega) (by omega) K 90 (by omega) (by omega) hX (gk_mo (gk_mo hg4 m5) m6) (le_mo (le_mo hL m5) m6) (fun c _ q => Or.inr ?_) fun m q => q
  rw [e13, pq_rdP hX (by decide)]
  exact q
theorem y10 : yrel 1 x y = !yrel 0 x y := rfl
/-- USING, from its b on -/
theorem pq_64_27 (hcc : pC cc) (hK : 1000 ≤ K) (hd : d < 90) (ih : ihQ cc P b d ly) (h : pq cc P b S d v1 M N) (hg : gk M x4 d) (hv : v1 ≤ (d : Int) + 1) (hvv : v1 ≤ v ∨ (v1 ≤ v + 1 ∧ yrel 0 (yrd P 10 x1) (-1) = false)) : qT cc P b S d v M (f_64_27 K ly cc M x1 (d : Int) (105 + d) x4) (f_64_27 K ly cc N x1 (d : Int) (105 + d) x4) := by
  have hl5 := h.1.1.1.1
  unfold f_64_27
  rw [pz_s hd]
  refine qT_val h.1.2.2.1.1 fun v5 e5 => qT_st (pr_47 hcc hd h) fun X Y hX m1 => ?_
  have hg1 := gk_mo hg m1
  refine qT_st (pr_pl hcc hd hX (by decide) (fun _ => ⟨gk_rg hg1, fun _ => by have := hg1.2; omega⟩) (no5 (by decide))) fun X Y hX m2 => ?_
  refine qT_ly ih hv hX (pq_rd hX (by decide)) fun X Y hX m3 => ?_
  refine qT_val hX.1.2.2.1.1 fun v9 e9 => ?_
  have hg3 := gk_mo (gk_mo hg1 m2) m3
  have hl := hX.1.1.1.1
  have hL : X cc 1 = 0 → 0 ≤ v9 ∧ v9 ≤ X cc 0 := fun _ => by omega
  rw [pq_rd (a := 10) hX (by decide)]
  have hfv : yrel 1 (yrd X 10 x1) (-1) = false → v1 ≤ v := fun hz => by
    rcases hvv with q | ⟨-, q⟩
    · exact q
    · rw [y10, pq_rdP hX (by decide), q] at hz; exact absurd hz (by decide)
  refine qT_cond (fun hz => ?_) fun hz => qT_ret (pq_v hX (hfv hz))
  have hz0 : yrel 0 (yrd X 10 x1) (-1) = false := by
    rw [y10] at hz
    cases hq : yrel 0 (yrd X 10 x1) (-1) with
    | false => rfl
    | true => rw [hq] at hz; cases hz
  rw [pq_rdP hX (by decide)] at hz0
  refine qT_nl hcc hX fun t u ht m4 eu => qT_val eu fun v12 _ => ?_
  have hp := ht.2.2.2.1 d (Nat.le_refl d)
  rw [hp.1 0 (by decide)]
  refine qT_st (pe_54 (v' := v) hcc ht hp.2.1 (by omega) (by rw [pq_rdP ht (by decide)]; exact hz0)).1 fun X Y hX m5 => ?_
  have hp := hX.2.2.2.1 d (Nat.le_refl d)
  rw [hp.1 0 (by decide)]
  refine qT_st (pr_46 (v' := v) hcc hX (by decide) hp.2.1 (by omega)).1 fun X Y hX m6 => qT_val hX.1.2.2.1.1 fun v15 _ => ?_
  have hp := hX.2.2.2.1 d (Nat.le_refl d)
  rw [hp.1 0 (by decide), hp.1 1 (by decide)]
  refine qT_st (pr_45 (v' := v) hcc hX (by decide) hp.2.1 (by omega)).1 fun X Y hX m7 => qT_val hX.1.2.2.1.1 fun v17 e17 => ?_
  have hl17 := hX.1.1.1.1
  have hp := hX.2.2.2.1 d (Nat.le_refl d)
  rw [hp.1 0 (by decide)]
  refine qT_se (pe_54 (v' := v) hcc hX hp.2.1 (by omega) (by rw [pq_rdP hX (by decide)]; exact hz0)) fun X Y hX m8 hinc => ?_
  have hL17 : X cc 1 = 0 → 0 ≤ v17 + 1 ∧ v17 + 1 ≤ X cc 0 := fun z => by have := hinc z; omega
  have hp := hX.2.2.2.1 d (Nat.le_refl d)
  rw [hp.1 0 (by decide), hp.1 1 (by decide)]
  refine qT_st (pr_45 (v' := v) hcc hX (by decide) hp.2.1 (by omega)).1 fun X Y hX m9 => qT_val hX.1.2.2.1.1 fun v20 _ => ?_
  have hp := hX.2.2.2.1 d (Nat.le_refl d)
  rw [hp.1 0 (by decide), hp.1 1 (by decide)]
  refine qT_st (pr_45 (v' := v) hcc hX (by decide) hp.2.1 (by omega)).1 fun X Y hX m10 => ?_
  refine qT_bind (pq_69 hcc hK (by omega) (by omega) hX) fun X Y hX m11 => ?_
  have mm := mo_trans (mo_trans (mo_trans (mo_trans (mo_trans (mo_trans (mo_trans m4 m5) m6) m7) m8) m9) m10) m11
  refine qT_bind (pq_61 hcc hK hX (by omega) (le_mo hL mm) (gk_390 hX (gk_mo hg3 mm))) fun X Y hX m12 => ?_
  have hp := hX.2.2.2.1 d (Nat.le_refl d)
  rw [hp.1 0 (by decide)]
  exact qT_bind (pq_61 hcc hK hX (by omega) (le_mo (le_mo (le_mo (le_mo hL17 m9) m10) m11) m12) ⟨hp.2.1.1, by have := hp.2.1.2; have := g390 hX; omega⟩) fun X Y hX _ => qT_ret hX
/-- a USING has something that opens, or closes -/
def pU (P : yM) : Prop := ∀ x, yrel 0 (yrd P 7 x) 13 = true → yrel 0 (yrd P 8 x) (-1) = true → yrel 0 (yrd P 10 x) (-1) = false
/-- a USING -/
theorem pq_64 (hcc : pC cc) (hK : 1000 ≤ K) (hd : d < 90) (ih : ihQ cc P b d ly) (h : pq cc P b S d v M N) (h0 : M cc 1 = 0) (hv : v ≤ (d : Int)) (hU : yrel 0 (yrd P 8 x1) (-1) = true → yrel 0 (yrd P 10 x1) (-1) = false) : qT cc P b S d v M (f_64 K ly cc M x1 (d : Int)) (f_64 K ly cc N x1 (d : Int)) := by
  unfold f_64
  rw [pz_d (by omega)]
  refine qT_ng hcc hd h h0 hv fun A B q1 q2 hgk e2 => ?_
  have hp := q1.2.2.2.1 d (Nat.le_refl d)
  refine qT_val e2 fun v2 e2 => qT_val (pq_rd q1 (by decide)) fun v3 e3 => ?_
  rw [pq_rdP q1 (by decide)] at e3
  rw [hp.1 0 (by decide)]
  refine qT_cond (fun hz => pq_64_27 hcc hK hd ih q1 (by rw [e2]; exact hgk) (by omega) (Or.inr ⟨Int.le_refl _, hU (by rw [← e3]; exact hz)⟩)) fun _ => ?_
  exact qT_st (pr_45 (v' := v) hcc q1 (by decide) hp.2.1 (by omega)).1 fun X Y hX m => pq_64_27 hcc hK hd ih hX (by rw [e2]; exact gk_mo hgk m) (by omega) (Or.inl (Int.le_refl _))
theorem pq_50_13 (hcc : pC cc) (hK : 1000 ≤ K) (hd : d < 90) (hP : pU P) (ih : ihQ cc P b d ly) (h : pq cc P b S d v M N) (hv : v ≤ (d : Int)) : qT cc P b S d v M (f_50_13 K ly cc M x1 (d : Int)) (f_50_13 K ly cc N x1 (d : Int)) := by
  unfold f_50_13
  rw [h.1.2.2.1.2.1]
  refine qT_cond (fun hz => ?_) fun _ => qT_ret h
  have h0 : M cc 1 = 0 := by
    rcases h.1.1.1.2.1 with q | q
    · exact q
    · rw [q] at hz; exact absurd hz (by decide)
  have hb := (pq_40 (x := x1) hcc h).2.2
  refine qT_mo (pr_40 (x := x1) hcc h).2 ?_
  have hX := (pr_40 (x := x1) hcc h).1
  rw [ylet_eq, ylet_eq (x := f_40 N cc x1)]
  generalize f_40 M cc x1 = X at *
  generalize f_40 N cc x1 = Y at *
  rw [h0] at hb
  have hv1 : v ≤ (d : Int) + 1 := by omega
  have h83 : qT cc P b S d v X (f_50_83 K ly cc X x1 (d : Int)) (f_50_83 K ly cc Y x1 (d : Int)) := by
    unfold f_50_83
    rw [pz_d (by omega)]
    exact qT_st (pr_62 hcc hX) fun X Y hX _ => qT_ret hX
  rw [pq_rd (a := 7) hX (by decide)]
  refine qT_cond (fun _ => qT_st (pr_47 hcc hd hX) fun X Y hX _ => qT_lx ih hv1 hX (pq_rd hX (by decide)) fun X Y hX _ => qT_ly ih hv1 hX (pq_rd hX (by decide)) fun X Y hX _ => qT_ret hX) fun _ => ?_
  refine qT_cond (fun _ => qT_bind (pq_57 hcc hK hd ih hX hv1) fun X Y hX _ => qT_ret hX) fun _ => ?_
  refine qT_cond (fun _ => qT_bind (pq_58 hcc hK hd ih hX hv1) fun X Y hX _ => qT_ret hX) fun _ => ?_
  refine qT_cond (fun _ => qT_bind (pq_51 hcc hK hd ih hX hv1) fun X Y hX _ => qT_ret hX) fun _ => ?_
  refine qT_cond (fun _ => qT_bind (pq_60 hcc hK hd ih hX hv1) fun X Y hX _ => qT_ret hX) fun _ => ?_
  refine qT_cond (fun _ => h83) fun _ => qT_cond (fun _ => h83) fun _ => ?_
  refine qT_cond (fun _ => qT_bind (pq_63 hcc hK hd ih hX hb hv) fun X Y hX _ => qT_ret hX) fun _ => ?_
  refine qT_cond (fun _ => h83) fun _ => ?_
  refine qT_cond (fun h13 => qT_bind (pq_64 hcc hK hd ih hX hb hv (hP x1 ?_)) fun X Y hX _ => qT_ret hX) fun _ => h83
  rw [pq_rdP hX (by decide)] at h13
  exact h13
theorem pq_50 (hcc : pC cc) (hK : 1000 ≤ K) (hd : d ≤ 90) (hP : pU P) (ih : d < 90 → ihQ cc P b d ly) (h : pq cc P b S d v M N) (hv : v ≤ (d : Int)) : qT cc P b S d v M (f_50 K ly cc M x1 (d : Int)) (f_50 K ly cc N x1 (d : Int)) := by
  unfold f_50
  rw [rel2 ⟨by omega, by omega⟩ ⟨by decide, by decide⟩, cond_df (by omega), cond_df (by omega), rel2 ⟨by omega, by omega⟩ ⟨by decide, by decide⟩]
  by_cases h90 : (d : Int) + 1 < 91
  · rw [cond_dt h90, cond_dt h90]
    exact pq_50_13 hcc hK (by omega) hP (ih (by omega)) h hv
  · have hr := cc_rg hcc
    rw [cond_df h90, cond_df h90]
    unfold f_50_9
    rw [ylet_eq, ylet_eq (x := yU N cc 1 1)]
    unfold f_50_13
    rw [yU_at, yU_at, show yrel 0 1 0 = false from rfl, cond_false, cond_false]
    exact qT_mo ⟨by rw [yU_c (by omega)]; exact Int.le_refl _, fun z => by rw [yU_at] at z; omega, fun y _ => yU_c (by omega)⟩ (qT_ret (pq_fl hcc h))
/-- a node is laid twice -/
theorem pq_y50 (hcc : pC cc) (hK : 1000 ≤ K) (hP : pU P) : ∀ (r : Nat) {d : Nat} {S : Nat → Prop} {v x1 : Int} {M N : yM}, 91 ≤ r + d → d ≤ 90 → v ≤ (d : Int) → pq cc P b S d v M N → qT cc P b S d v M (fy_50 K cc r M x1 (d : Int)) (fy_50 K cc r N x1 (d : Int))
  | 0, _, _, _, _, _, _, h, h2, _, _ => absurd h (by omega)
  | r + 1, d, S, v, x1, M, N, h, h2, hv, hq => pq_50 hcc hK h2 hP (fun hd S v x M N hv hq => pq_y50 hcc hK hP r (d := d + 1) (by omega) (by omega) (by omega) hq) hq hv
end PwA
