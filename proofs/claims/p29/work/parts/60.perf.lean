/-! a run from its first call -/
section YPe
variable {M0 M M' : yM} {m N : Nat} {CH : Nat → Nat → List (Int × Int)} {bl : Int → Int → Bool} {Y Y' : yM} {f : aF} {r fr : List aF} {mo de nk v nd q : Int} {bi : Nat} {vp gn : Nat → Prop} {nn np : Nat} {X X' Xe : aX}
/-- a frame more, over any others -/
theorem rel_84' (hm : pM m) (h : rel M m mo de (fr, false, bi, true, Y)) (hl : (fr.length : Int) < de) (hde : de ≤ 30) (hq : 0 ≤ q ∧ q < 8) (h7 : 0 ≤ Y 13 7 ∧ Y 13 7 ≤ de) : ∃ M', f_84 N M m q v nd = some M' ∧ rel M' m mo de ((q.toNat, 0, v, nd, (fun _ => none), (fun _ => none)) :: fr, false, 0, true, a_enterY Y q.toNat ((fr.length : Int) + 1)) ∧ rst M M' m := by
  have ed : M m 12 = (fr.length : Int) := h.2.2.1
  have e14 : M m 14 = de := h.2.2.2.2.1
  unfold f_84
  rw [ed, e14, rel2 ⟨by omega, by omega⟩ ⟨by decide, by decide⟩, cond_df (by omega), rel3 ⟨by omega, by omega⟩ ⟨by omega, by omega⟩, cond_df (by omega), rel2 ⟨by omega, by omega⟩ ⟨by decide, by decide⟩, cond_dt (by omega)]
  unfold yox
  rw [yw_of (by omega) (by omega), if_pos (by omega)]
  dsimp only
  rw [Int.toNat_natCast]
  rw [ylet_eq, ylet_eq, ylet_eq, ylet_eq, ylet_eq, ylet_eq, ylet_eq]
  have c12 : yU (yU (yU (yU M (m + 20 + 3 * fr.length) 0 q) (m + 20 + 3 * fr.length) 1 0) (m + 20 + 3 * fr.length) 2 v) (m + 20 + 3 * fr.length) 3 nd m 12 = (fr.length : Int) := by
    rw [yU_c (by omega), yU_c (by omega), yU_c (by omega), yU_c (by omega), ed]
  rw [c12]
  have p1 := rel_push (bi' := 0) (v := v) (nd := nd) (q0 := q.toNat) h
  rw [Int.toNat_of_nonneg hq.1] at p1
  generalize hM1 : yU (yU (yU (yU (yU M (m + 20 + 3 * fr.length) 0 q) (m + 20 + 3 * fr.length) 1 0) (m + 20 + 3 * fr.length) 2 v) (m + 20 + 3 * fr.length) 3 nd) m 12 ((fr.length : Int) + 1) = M1 at p1 ⊢
  have r1 : rst M M1 m := by
    rw [← hM1]
    have hb : (m ≤ m + 20 + 3 * fr.length ∧ m + 20 + 3 * fr.length < m + 110) ∧ m + 20 + 3 * fr.length ≠ m + 1 ∧ (m + 20 + 3 * fr.length < m + 6 ∨ m + 12 < m + 20 + 3 * fr.length) := by omega
    exact rst_trans (rst_U hb) (rst_trans (rst_U hb) (rst_trans (rst_U hb) (rst_trans (rst_U hb) (rst_U (by omega)))))
  have d5 := rel_rd (k := 5) hm p1 (Or.inl rfl) (by decide) (by rw [ln_13 hm]; decide)
  rw [d5]
  have p2 := rel_wr (k := 5) (v := Y 13 (5 : Int).toNat + 1) (bi' := 0) hm p1 (Or.inl rfl) (by decide) (by rw [ln_13 hm]; decide)
  generalize hM2 : ywr M1 (m + 13) 5 (Y 13 (5 : Int).toNat + 1) = M2 at p2 ⊢
  have r2 : rst M1 M2 m := by rw [← hM2]; exact rst_wr (by omega)
  have d6 := rel_rd (k := q) hm p2 (Or.inr (Or.inr (Or.inr (Or.inr rfl)))) hq.1 (by rw [ln_17 hm]; omega)
  rw [d6]
  have p3 := rel_wr (k := q) (v := yU Y 13 (5 : Int).toNat (Y 13 (5 : Int).toNat + 1) 17 q.toNat + 1) (bi' := 0) hm p2 (Or.inr (Or.inr (Or.inr (Or.inr rfl)))) hq.1 (by rw [ln_17 hm]; omega)
  generalize hM3 : ywr M2 (m + 17) q (yU Y 13 (5 : Int).toNat (Y 13 (5 : Int).toNat + 1) 17 q.toNat + 1) = M3 at p3 ⊢
  have r3 : rst M2 M3 m := by rw [← hM3]; exact rst_wr (by omega)
  have d7 := rel_rd (k := 7) hm p3 (Or.inl rfl) (by decide) (by rw [ln_13 hm]; decide)
  rw [d7]
  have eq : yU Y 13 (5 : Int).toNat (Y 13 (5 : Int).toNat + 1) 17 q.toNat = Y 17 q.toNat := yU_c (by decide)
  rw [eq] at p3 ⊢
  have e7 : yU (yU Y 13 (5 : Int).toNat (Y 13 (5 : Int).toNat + 1)) 17 q.toNat (Y 17 q.toNat + 1) 13 (7 : Int).toNat = Y 13 7 := (yU_c (by decide)).trans (yU_i (by decide))
  have e12 : M3 m 12 = (fr.length : Int) + 1 := by
    have e := p3.2.2.1
    dsimp only at e
    rw [List.length_cons] at e
    omega
  rw [e7, e12, rel5 ⟨by omega, by omega⟩ ⟨by omega, by omega⟩]
  have eY : a_enterY Y q.toNat ((fr.length : Int) + 1) = yU (yU (yU Y 13 (5 : Int).toNat (Y 13 (5 : Int).toNat + 1)) 17 q.toNat (Y 17 q.toNat + 1)) 13 7 (if (fr.length : Int) + 1 ≤ Y 13 7 then Y 13 7 else (fr.length : Int) + 1) := rfl
  rw [eY]
  by_cases hc : (fr.length : Int) + 1 ≤ Y 13 7
  · rw [cond_dt hc, if_pos hc, yU_same (i := 7) e7]
    exact ⟨M3, rfl, p3, rst_trans r1 (rst_trans r2 r3)⟩
  · rw [cond_df hc, if_neg hc, ylet_eq]
    exact ⟨_, rfl, rel_wr (k := 7) (bi' := 0) hm p3 (Or.inl rfl) (by decide) (by rw [ln_13 hm]; decide), rst_trans r1 (rst_trans r2 (rst_trans r3 (rst_wr (by omega))))⟩
theorem fill_in {a j : Nat} (h : j < yln a) : yfill M a v a j = v := if_pos ⟨rfl, h⟩
theorem fill_c {a b j : Nat} (h : b ≠ a) : yfill M a v b j = M b j := if_neg fun q => h q.1
/-- the numbers at a run's start -/
def y0 : yM := fun c i => if c = 13 ∧ i = 0 then 2 else if c = 13 ∧ i = 2 then -1 else if c = 15 then -1 else 0
def r_clr (M : yM) (m : Nat) (mo de : Int) : yM := yU (yU (f_82 M m) m 13 mo) m 14 de
theorem clr_m {b j : Nat} (h : b ≠ m) : r_clr M m mo de b j = f_144 (yfill (yfill (yfill (yfill (ywr (ywr (yfill M (m + 13) 0) (m + 13) 0 2) (m + 13) 2 (-1)) (m + 14) 0) (m + 15) (-1)) (m + 16) 0) (m + 17) 0) (m + 1) b j := by
  unfold r_clr
  rw [yU_c h, yU_c h]
  unfold f_82
  rw [ylet_eq, ylet_eq, ylet_eq, ylet_eq, ylet_eq, ylet_eq, ylet_eq, ylet_eq, ylet_eq, ylet_eq, ylet_eq, ylet_eq, yU_c h, yU_c h, yU_c h, yU_c h]
theorem clr_1 {b j : Nat} (h : b ≠ m) (h1 : b ≠ m + 1) (h4 : b ≠ m + 4) : r_clr M m mo de b j = yfill (yfill (yfill (yfill (ywr (ywr (yfill M (m + 13) 0) (m + 13) 0 2) (m + 13) 2 (-1)) (m + 14) 0) (m + 15) (-1)) (m + 16) 0) (m + 17) 0 b j := by
  rw [clr_m h]
  unfold f_144
  rw [ylet_eq, ylet_eq, ylet_eq, fill_c (by omega), yU_c h1, yU_c h1]
theorem rel_clr (hm : pM m) : rel (r_clr M m mo de) m mo de ([], false, 0, true, y0) ∧ rst M (r_clr M m mo de) m ∧ rJ (r_clr M m mo de) m := by
  suffices hsuf : (rel (r_clr M m mo de) m mo de ([], false, 0, true, y0) ∧ rst M (r_clr M m mo de) m) ∧ rJ (r_clr M m mo de) m from ⟨hsuf.1.1, hsuf.1.2, hsuf.2⟩
  have hJ : rJ (r_clr M m mo de) m := by
    have e1 : ∀ j, j < 2 → r_clr M m mo de (m + 1) j = 0 := fun j hj => by
      rw [clr_m (by omega)]
      unfold f_144
      rw [ylet_eq, ylet_eq, ylet_eq, fill_c (by omega)]
      rcases (show j = 0 ∨ j = 1 by omega) with rfl | rfl
      · rw [yU_i (by decide), yU_at]
      · rw [yU_at]
    have e10 := e1 0 (by decide)
    have e11 := e1 1 (by decide)
    have zs : ∀ (g : Nat → Int) (n : Nat), (∀ i, g i = 0) → a_sum g n = 0 := fun g n hg => by
      induction n with
      | zero => rfl
      | succ n ih =>
        show a_sum g n + g n = 0
        rw [ih, hg]; rfl
    have es : r_sum (r_clr M m mo de) m = 0 := zs _ _ (fun i => by rw [e10, if_neg (by omega)])
    exact ⟨by omega, by omega, fun k hk hl => by omega, by omega, fun _ => by omega, fun _ => ⟨fun _ => 0, fun _ _ => 0, fun k hk hl => by omega⟩⟩
  refine ⟨?_, hJ⟩
  refine ⟨⟨⟨fun h => absurd h (by decide), fun j hj => ?_, fun e _ hl => absurd hl (by show ¬ (e : Int) < 0; omega), fun j hj => ?_, fun j hj => ?_, fun j hj => ?_, fun j hj => ?_, fun j hj => ?_⟩, trivial, ?_, ?_, yU_at, ?_, ?_⟩, ?_⟩
  · dsimp only
    rw [clr_m (by omega)]
    unfold f_144
    rw [ylet_eq, ylet_eq, ylet_eq, fill_c (by omega)]
    rcases (show j = 0 ∨ j = 1 by omega) with rfl | rfl
    · rw [yU_i (by decide), yU_at]; rfl
    · rw [yU_at]; rfl
  · dsimp only
    rw [clr_1 (by omega) (by omega) (by omega), fill_c (by omega), fill_c (by omega), fill_c (by omega), fill_c (by omega), wr_in (by decide) (by rw [ln_13 hm]; decide), wr_in (by decide) (by rw [ln_13 hm]; decide)]
    have e0 : (0 : Int).toNat = 0 := rfl
    have e2 : (2 : Int).toNat = 2 := rfl
    rw [e0, e2]
    by_cases h2 : j = 2
    · rw [h2, yU_at]; rfl
    · rw [yU_i h2]
      by_cases h0 : j = 0
      · rw [h0, yU_at]; rfl
      · rw [yU_i h0, fill_in (by rw [ln_13 hm]; exact hj)]
        unfold y0
        rw [if_neg (fun q => h0 q.2), if_neg (fun q => h2 q.2), if_neg (by decide)]
  · dsimp only
    rw [clr_1 (by omega) (by omega) (by omega), fill_c (by omega), fill_c (by omega), fill_c (by omega), fill_in (by rw [ln_14 hm]; exact hj)]
    unfold y0
    rw [if_neg (fun q => absurd q.1 (by decide)), if_neg (fun q => absurd q.1 (by decide)), if_neg (by decide)]
  · dsimp only
    rw [clr_1 (by omega) (by omega) (by omega), fill_c (by omega), fill_c (by omega), fill_in (by rw [ln_15 hm]; exact hj)]
    unfold y0
    rw [if_neg (fun q => absurd q.1 (by decide)), if_neg (fun q => absurd q.1 (by decide)), if_pos rfl]
  · dsimp only
    rw [clr_1 (by omega) (by omega) (by omega), fill_c (by omega), fill_in (by rw [ln_16 hm]; exact hj)]
    unfold y0
    rw [if_neg (fun q => absurd q.1 (by decide)), if_neg (fun q => absurd q.1 (by decide)), if_neg (by decide)]
  · dsimp only
    rw [clr_1 (by omega) (by omega) (by omega), fill_in (by rw [ln_17 hm]; exact hj)]
    unfold y0
    rw [if_neg (fun q => absurd q.1 (by decide)), if_neg (fun q => absurd q.1 (by decide)), if_neg (by decide)]
  · unfold r_clr f_82
    rw [yU_i (by decide), yU_i (by decide), ylet_eq, ylet_eq, ylet_eq, ylet_eq, ylet_eq, ylet_eq, ylet_eq, ylet_eq, ylet_eq, ylet_eq, ylet_eq, ylet_eq, yU_i (by decide), yU_i (by decide), yU_at]; rfl
  · unfold r_clr
    rw [yU_i (by decide), yU_at]
  · unfold r_clr f_82
    rw [yU_i (by decide), yU_i (by decide), ylet_eq, ylet_eq, ylet_eq, ylet_eq, ylet_eq, ylet_eq, ylet_eq, ylet_eq, ylet_eq, ylet_eq, ylet_eq, ylet_eq, yU_i (by decide), yU_at]; rfl
  · unfold r_clr f_82
    rw [yU_i (by decide), yU_i (by decide), ylet_eq, ylet_eq, ylet_eq, ylet_eq, ylet_eq, ylet_eq, ylet_eq, ylet_eq, ylet_eq, ylet_eq, ylet_eq, ylet_eq, yU_at]; rfl
  · refine ⟨fun b j hn => ?_, fun _ _ => ?_⟩
    · rw [clr_1 (by omega) (by omega) (by omega), fill_c (by omega), fill_c (by omega), fill_c (by omega), fill_c (by omega), wr_c (by omega), wr_c (by omega), fill_c (by omega)]
    · exact hJ
theorem J_y0 (hmo : 0 ≤ mo) (hde : 0 ≤ de) : a_J gn mo de nk nn np y0 := by
  have z16 : ∀ n, y0 16 n = 0 := fun n => by
    unfold y0
    rw [if_neg (fun q => absurd q.1 (by decide)), if_neg (fun q => absurd q.1 (by decide)), if_neg (by decide)]
  have z17 : ∀ n, y0 17 n = 0 := fun n => by
    unfold y0
    rw [if_neg (fun q => absurd q.1 (by decide)), if_neg (fun q => absurd q.1 (by decide)), if_neg (by decide)]
  have zs : ∀ (g : Nat → Int) (n : Nat), (∀ i, g i = 0) → a_sum g n = 0 := fun g n hg => by
    induction n with
    | zero => rfl
    | succ n ih =>
      show a_sum g n + g n = 0
      rw [ih, hg]; rfl
  have e10 : y0 1 0 = 0 := rfl
  refine ⟨by decide, fun h => absurd h (by decide), fun i => Or.inl ?_, fun x h0 h1 => ?_, fun n x hx => ?_, fun x h0 h1 => ?_, fun n => by rw [z16]; exact Int.le_refl _, fun n h => ?_, ?_, fun n => by rw [z17]; exact Int.le_refl _, ?_, by decide, hmo, ⟨by decide, hde⟩, by decide⟩
  · unfold y0
    rw [if_neg (fun q => absurd q.1 (by decide)), if_neg (fun q => absurd q.1 (by decide)), if_pos rfl]
  · rw [e10] at h1; omega
  · have h1 := hx.2.2
    have h2 := hx.1
    rw [e10] at h1
    omega
  · rw [e10] at h1; omega
  · rw [z16] at h; omega
  · rw [zs _ _ z16]; rfl
  · rw [zs _ _ z17]; rfl
/-- the frame of the first body, and its start -/
def x0 : aX := ([(0, 0, -1, -1, (fun _ => none), (fun _ => none))], false, 0, true, a_enterY y0 0 1)
theorem I_x0 (hw : a_wk (kM M0) (bM M0) vp gn nk nn np) (hp : vp 0) (hmo : 0 ≤ mo) (hde : 1 ≤ de) : a_I vp gn mo de nk nn np x0 := by
  refine ⟨J_enter (J_y0 hmo (by omega)) (hw.2.1 0 hp) ⟨by decide, hde⟩, fun f hf => ?_, (fun h => by cases h), hde, fun _ => rfl, (fun h => by cases h)⟩
  rcases List.mem_cons.mp hf with rfl | hf
  · exact ⟨hp, (fun x v hv => by cases hv)⟩
  · exact absurd hf List.not_mem_nil
theorem Q_x0 {K : Nat → Nat → Nat → Int} : a_Q K x0 := by
  refine ⟨fun f hf => ?_, fun f hf => absurd hf List.not_mem_nil, fun h => by cases h⟩
  rcases List.mem_cons.mp hf with rfl | hf
  · exact Or.inl rfl
  · exact absurd hf List.not_mem_nil
/-- a run: it comes to the end that the abstract machine comes to -/
theorem perf {t : Nat} (hm : pM m) (hmo0 : 0 ≤ mo) (hmo : mo ≤ 3000) (hde1 : 1 ≤ de) (hde : de ≤ 30) (hN : 4000 ≤ N) (hcF : cF M0 vp) (hlF : lF N M0 m CH bl vp) (hw : a_wk (kM M0) (bM M0) vp gn nk nn np) (hp : vp 0) (ht : a_run (kM M0) (bM M0) CH bl mo de t x0 = some Xe) (hXe : Xe.2.2.2.1 = false) (hk : t < 1000000) (hn : t < N) :
    ∃ M1, f_89 N M0 m mo de = some (ywr (ywr M1 (m + 13) 6 (Xe.2.2.2.2 1 0)) (m + 13) 8 (Xe.2.2.2.2 1 1)) ∧ rel M1 m mo de Xe ∧ rst M0 M1 m ∧ rJ M1 m := by
  obtain ⟨c1, c2, c3⟩ := rel_clr (M := M0) (mo := mo) (de := de) hm
  obtain ⟨M4, e1, e2, e3⟩ := rel_84' (N := N) (q := 0) (v := -1) (nd := -1) hm c1 (by show ((0 : Nat) : Int) < de; omega) hde ⟨by decide, by decide⟩ ⟨by decide, by show (0 : Int) ≤ de; omega⟩
  have e2' : rel M4 m mo de x0 := e2
  obtain ⟨M1, g1, g2, g3⟩ := l_89 (N := N) hm hmo0 hmo hde hN hcF hlF hw t x0 M4 0 N rfl (Or.inr rfl) e2' (I_x0 hw hp hmo0 hde1) Q_x0 (rst_trans c2 e3) ht hXe (by
    have e : (x0.2.2.2.2 1 0) = 0 := rfl
    omega) (by omega) hn
  refine ⟨M1, ?_, g2, rst_trans c2 (rst_trans e3 g3), (rst_trans e3 g3).2 hm c3⟩
  have h1 : M1 (m + 1) 0 = Xe.2.2.2.2 1 0 := g2.1.2.1 0 (by decide)
  have h2 : ywr M1 (m + 13) 6 (Xe.2.2.2.2 1 0) (m + 1) 1 = Xe.2.2.2.2 1 1 := (wr_c (by omega)).trans (g2.1.2.1 1 (by decide))
  have e89 : f_89 N M0 m mo de = Option.bind (f_84 N (r_clr M0 m mo de) m 0 (-1) (-1)) fun t4 => f_89_15 N N t4 m 0 := rfl
  rw [e89, e1]
  show f_89_15 N N M4 m 0 = _
  rw [show (0 : Int) = ((0 : Nat) : Int) from rfl, g1]
  unfold f_89_30
  rw [ylet_eq, ylet_eq, h1, h2]
/-- the answers of a run: what the machine's numbers are at its end -/
def r_end (M1 : yM) (m : Nat) (Y : yM) (M2 : yM) : Prop :=
  M2 = ywr (ywr M1 (m + 13) 6 (Y 1 0)) (m + 13) 8 (Y 1 1)
/-- a run of the class's machine: its end is the abstract one's -/
theorem run_all {q : Nat → Nat → Int} {nv : Nat → Prop} {cn : Nat → Int → Prop} {kc : Int → Prop} {bd : Nat → Nat} (hm : pM m) (hmo0 : 0 ≤ mo) (hmo : mo ≤ 3000) (hde1 : 1 ≤ de) (hde : de ≤ 30) (hN : 1000000 ≤ N) (A : a_ast q (kM M0) (bM M0) CH bl nv cn kc bd vp) (hcF : cF M0 vp) (hlF : lF N M0 m CH bl vp) (hw : a_wk (kM M0) (bM M0) vp gn nk nn np) (hp : vp 0) :
    ∃ t Xe M1, a_run (kM M0) (bM M0) CH bl mo de t x0 = some Xe ∧ Xe.2.2.2.1 = false ∧ f_89 N M0 m mo de = some (ywr (ywr M1 (m + 13) 6 (Xe.2.2.2.2 1 0)) (m + 13) 8 (Xe.2.2.2.2 1 1)) ∧ rel M1 m mo de Xe ∧ rst M0 M1 m ∧ rJ M1 m ∧ a_I vp gn mo de nk nn np Xe ∧ Xe.2.2.2.2 1 1 ≤ 2 * mo + 3 ∧
      ((Xe.2.2.2.2 13 0 = 2 ∧ Xe.2.2.2.2 13 3 = mo) ∨ a_end q cn kc bd (a_enterY y0 0 1) Xe.2.2.2.2) := by
  obtain ⟨t, Xe, h1, h2, h3, h4, h5, h6, h7⟩ := am_main (v := -1) (nd := -1) (Y0 := a_enterY y0 0 1) A hw hp (I_x0 hw hp hmo0 hde1)
  have e3 : a_enterY y0 0 1 13 3 = 0 := rfl
  have e11 : a_enterY y0 0 1 1 1 = 0 := rfl
  have e130 : a_enterY y0 0 1 13 0 = 2 := rfl
  have hmx := h2.1.2.2.2.2.2.2.2.2.2.2.2.2.1
  rw [e3] at h4 h5
  rw [e11] at h5 h6
  obtain ⟨M1, g1, g2, g3, g4⟩ := perf (N := N) hm hmo0 hmo hde1 hde (by omega) hcF hlF hw hp h1 h3 (by omega) (by omega)
  refine ⟨t, Xe, M1, h1, h3, g1, g2, g3, g4, h2, by omega, ?_⟩
  rcases h7 with ⟨k1, k2⟩ | k1
  · left
    rw [e130] at k1
    exact ⟨k1, by omega⟩
  · exact Or.inr k1
end YPe
