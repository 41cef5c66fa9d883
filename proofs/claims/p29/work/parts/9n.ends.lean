/-! a run's end, as the class tells it -/
/-- what is thrown out of a body is told -/
def clo (M : yM) : Prop := ∀ (p x : Nat), (p : Int) < M 1 4 → x < 32 → tb (M 16 (M 6 p).toNat) x = true → tb (M 5 p) x = true
/-- what holds at the end of a run -/
def rnd (M : yM) (m : Nat) (mo de : Int) : Prop :=
  ((M (m + 13) 0 = 0 ∨ M (m + 13) 0 = 1 ∨ M (m + 13) 0 = 2) ∧ (0 ≤ M (m + 13) 3 ∧ M (m + 13) 3 ≤ mo) ∧ (M (m + 13) 0 = 2 → M (m + 13) 3 = mo) ∧ (0 ≤ M (m + 13) 7 ∧ M (m + 13) 7 ≤ de)) ∧
  ((∀ n : Nat, n < 90 → 0 ≤ M (m + 16) n ∧ (0 < M (m + 16) n → M 13 n ≠ -1)) ∧ a_sum (M (m + 16)) (M 1 7).toNat = M (m + 13) 3) ∧
  ((∀ p : Nat, p < 8 → 0 ≤ M (m + 17) p) ∧ a_sum (M (m + 17)) (M 1 4).toNat = M (m + 13) 5 ∧ 1 ≤ M (m + 17) 0 ∧ M (m + 17) 0 ≤ 1000000) ∧
  (M (m + 13) 0 ≠ 2 → ∀ k f : Nat, k < 90 → f < 90 → M 7 k = 11 → M 8 k = (f : Int) → M (m + 16) f = M (m + 16) k) ∧
  (M (m + 13) 6 = M (m + 1) 0 ∧ M (m + 13) 8 = M (m + 1) 1 ∧ 0 ≤ M (m + 1) 0 ∧ M (m + 1) 0 ≤ 1000000 ∧ 0 ≤ M (m + 1) 1 ∧ M (m + 1) 1 ≤ 3000) ∧
  (ac (fun a => M (m + a)) ∧ ∀ e : Nat, e < 40 → (e : Int) < M (m + 1) 0 → (M (m + 3) e = -1 ∨ (0 ≤ M (m + 3) e ∧ M (m + 3) e < M (m + 1) 0)) ∧ 0 ≤ M (m + 2) e ∧ M (m + 2) e < M 1 0) ∧
  rJ M m ∧
  ((M (m + 13) 0 = 1 ∧ 0 ≤ M (m + 13) 2 ∧ M (m + 13) 2 < M (m + 1) 0 ∧ (M (m + 13) 2 < 40 → kcP M (M (m + 2) (M (m + 13) 2).toNat) ∨ cnP M (bdP M 0) (M (m + 2) (M (m + 13) 2).toNat))) ∨ (M (m + 13) 0 ≠ 1 ∧ M (m + 13) 2 = -1))
section PacA
variable {K m m' p : Nat} {M N X Y : yM} {mo de : Int} {b : Prop}
/-- what a run stands on -/
theorem r_base (hK : 1000000 ≤ K) (hI : pI M) (hf : fresh M) (hz : M 18 4 = 0) (hgW : gW M) (hm : pM m) :
    cF M (vpP M) ∧ lF K M m (cH4 M) (yBl M) (vpP M) ∧ a_wk (kM M) (bM M) (vpP M) (fun n => M 13 n ≠ -1) (M 1 0) (M 1 7).toNat (M 1 4).toNat ∧ vpP M 0 ∧ (clo M → a_ast (yq M) (kM M) (bM M) (cH4 M) (yBl M) (nvP M) (cnP M) (kcP M) (bdP M) (vpP M)) := by
  obtain ⟨f1, f2, f3, f4⟩ := hf
  obtain ⟨g1, g2, g3⟩ := f4 hz
  have h8 := g1.2.1
  have hv8 : ∀ p, vpP M p → p < 8 := fun p hp => by unfold vpP at hp; omega
  refine ⟨cF_ok hv8 g1 rfl fun p hp => (g3 p hp).2.1, lF_ok hm (by omega) hv8 (fun _ _ _ => rfl) hgW.1 (fun p hp => (g3 p hp).2.1) fun p hp => (g3 p hp).2.2.1, wk_ok g1 (fun p => Iff.rfl) fun p hp => (g3 p hp).2.1, by unfold vpP; omega, fun hc => ?_⟩
  exact ast_ok hI f1 (fun p hp => (g3 p hp).1) hc fun p hp => (g3 p hp).2.1.2.2.2.2
theorem nf {m c : Nat} {q : Prop} (h : c ≠ 13) : ¬ (m + c = m + 13 ∧ q) := fun r => h (Nat.add_left_cancel r.1)
theorem sum_of {f g : Nat → Int} {n N : Nat} (hn : n ≤ N) (h : ∀ i, i < N → f i = g i) : a_sum f n = a_sum g n := sum_same fun i hi => h i (Nat.lt_of_lt_of_le hi hn)
/-- the cells of a run's end, out of the abstract machine's -/
theorem rnd_mk {gn : Nat → Prop} {nk : Int} {nn np : Nat} {Y : yM} (fr : ∀ a i, a < 196 → X a i = M a i) (told : ∀ j, j < 9 → X (m + 13) j = if j = 6 then Y 1 0 else if j = 8 then Y 1 1 else Y 13 j) (c1 : ∀ i, i < 2 → X (m + 1) i = Y 1 i) (c2 : ∀ e : Nat, e < 40 → (e : Int) < Y 1 0 → X (m + 2) e = Y 2 e ∧ X (m + 3) e = Y 3 e) (c16 : ∀ i, i < 90 → X (m + 16) i = Y 16 i) (c17 : ∀ i, i < 8 → X (m + 17) i = Y 17 i)
    (hJ : Unit → a_J gn mo de nk nn np Y) (hgn : ∀ n, gn n → M 13 n ≠ -1) (hnk : nk = M 1 0) (hnn : nn = (M 1 7).toNat) (hnp : np = (M 1 4).toNat) (hnn90 : nn ≤ 90) (hnp8 : np ≤ 8) (i6 : Unit → (Y 13 0 = 1 ∨ Y 13 2 = -1)) (hs : Y 1 1 ≤ 3000) (h10 : Y 1 0 ≤ 1000000) (h17 : 1 ≤ Y 17 0 ∧ Y 17 0 ≤ 1000000) (hr : rJ X m)
    (h7 : Unit → ((Y 13 0 = 2 ∧ mo ≤ Y 13 3) ∨ a_end (yq M) (cnP M) (kcP M) (bdP M) (a_enterY y0 0 1) Y)) : rnd X m mo de := by
  have t0 : X (m + 13) 0 = Y 13 0 := (told 0 (by decide)).trans (by rw [if_neg (by decide), if_neg (by decide)])
  have t2 : X (m + 13) 2 = Y 13 2 := (told 2 (by decide)).trans (by rw [if_neg (by decide), if_neg (by decide)])
  have t3 : X (m + 13) 3 = Y 13 3 := (told 3 (by decide)).trans (by rw [if_neg (by decide), if_neg (by decide)])
  have t5 : X (m + 13) 5 = Y 13 5 := (told 5 (by decide)).trans (by rw [if_neg (by decide), if_neg (by decide)])
  have t7 : X (m + 13) 7 = Y 13 7 := (told 7 (by decide)).trans (by rw [if_neg (by decide), if_neg (by decide)])
  have t6 : X (m + 13) 6 = Y 1 0 := (told 6 (by decide)).trans (by rw [if_pos rfl])
  have t8 : X (m + 13) 8 = Y 1 1 := (told 8 (by decide)).trans (by rw [if_neg (by decide), if_pos rfl])
  have c10 := c1 0 (by decide)
  have c11 := c1 1 (by decide)
  have f17 : X 1 7 = M 1 7 := fr 1 7 (by decide)
  have f14 : X 1 4 = M 1 4 := fr 1 4 (by decide)
  have f10 : X 1 0 = M 1 0 := fr 1 0 (by decide)
  refine ⟨⟨?_, ?_, ?_, ?_⟩, ⟨fun n hn => ?_, ?_⟩, ⟨fun p hp => ?_, ?_, ?_⟩, fun hne k f hk hf h11 h8 => ?_, ⟨t6.trans c10.symm, t8.trans c11.symm, ?_, ?_, ?_, ?_⟩, ⟨?_, fun e he hl => ?_⟩, hr, ?_⟩
  · rw [t0]
    rcases h7 () with ⟨q, -⟩ | ⟨-, ⟨q, -⟩ | ⟨q, -⟩⟩
    · exact Or.inr (Or.inr q)
    · exact Or.inl q
    · exact Or.inr (Or.inl q)
  · rw [t3]
    obtain ⟨j1, j2, j3, j4, j5, j6, j7, j8, j9, j10, j11, j12, j13, j14, j15⟩ := hJ ()
    exact ⟨j12, j13⟩
  · rw [t0, t3]
    intro q
    obtain ⟨j1, j2, j3, j4, j5, j6, j7, j8, j9, j10, j11, j12, j13, j14, j15⟩ := hJ ()
    rcases h7 () with ⟨-, q2⟩ | ⟨-, ⟨q2, -⟩ | ⟨q2, -⟩⟩
    · exact Int.le_antisymm j13 q2
    · rw [q] at q2; exact absurd q2 (by decide)
    · rw [q] at q2; exact absurd q2 (by decide)
  · rw [t7]
    obtain ⟨j1, j2, j3, j4, j5, j6, j7, j8, j9, j10, j11, j12, j13, j14, j15⟩ := hJ ()
    exact j14
  · rw [c16 n hn, fr 13 n (by decide)]
    obtain ⟨j1, j2, j3, j4, j5, j6, j7, j8, j9, j10, j11, j12, j13, j14, j15⟩ := hJ ()
    exact ⟨j7 n, fun q => hgn n (j8 n q)⟩
  · rw [f17, t3, ← hnn]
    obtain ⟨j1, j2, j3, j4, j5, j6, j7, j8, j9, j10, j11, j12, j13, j14, j15⟩ := hJ ()
    rw [← j9]
    exact sum_of hnn90 c16
  · rw [c17 p hp]
    obtain ⟨j1, j2, j3, j4, j5, j6, j7, j8, j9, j10, j11, j12, j13, j14, j15⟩ := hJ ()
    exact j10 p
  · rw [f14, t5, ← hnp]
    obtain ⟨j1, j2, j3, j4, j5, j6, j7, j8, j9, j10, j11, j12, j13, j14, j15⟩ := hJ ()
    rw [← j11]
    exact sum_of hnp8 c17
  · rw [c17 0 (by decide)]; exact h17
  · rw [t0] at hne
    rw [fr 7 k (by decide)] at h11
    rw [fr 8 k (by decide)] at h8
    rw [c16 k hk, c16 f hf]
    rcases h7 () with ⟨q, -⟩ | ⟨q, -⟩
    · exact absurd q hne
    · have h := q k f ⟨h11, h8⟩
      have e16 : ∀ n, a_enterY y0 0 1 16 n = 0 := fun n => by
        unfold a_enterY
        rw [yU_c (by decide), yU_c (by decide), yU_c (by decide)]
        unfold y0
        rw [if_neg (fun q => absurd q.1 (by decide)), if_neg (fun q => absurd q.1 (by decide)), if_neg (by decide)]
      rw [e16, e16, Int.sub_zero, Int.sub_zero] at h
      exact h
  · rw [c10]
    obtain ⟨j1, j2, j3, j4, j5, j6, j7, j8, j9, j10, j11, j12, j13, j14, j15⟩ := hJ ()
    exact j1
  · rw [c10]; exact h10
  · rw [c11]
    obtain ⟨j1, j2, j3, j4, j5, j6, j7, j8, j9, j10, j11, j12, j13, j14, j15⟩ := hJ ()
    exact j15
  · rw [c11]; exact hs
  · obtain ⟨j1, j2, j3, j4, j5, j6, j7, j8, j9, j10, j11, j12, j13, j14, j15⟩ := hJ ()
    refine ac_same (Y := Y) (fun x => ?_) (fun x hx => ?_) j5
    · unfold ac_K
      dsimp only
      rw [c10]
    · obtain ⟨q1, q2, q3⟩ := hx
      exact (c2 x.toNat (by omega) (by omega)).2
  · rw [c10] at hl
    rw [(c2 e he hl).1, (c2 e he hl).2, c10, f10, ← hnk]
    obtain ⟨j1, j2, j3, j4, j5, j6, j7, j8, j9, j10, j11, j12, j13, j14, j15⟩ := hJ ()
    have h4' := j4 (e : Int) (Int.natCast_nonneg e) hl
    have h6' := j6 (e : Int) (Int.natCast_nonneg e) hl
    rw [Int.toNat_natCast] at h4' h6'
    exact ⟨h4', h6'⟩
  · rw [t0, t2, c10]
    rcases h7 () with ⟨q, -⟩ | ⟨-, ⟨q, q2⟩ | ⟨q, q2, q3, q4, q5⟩⟩
    · right
      rcases i6 () with q3 | q3
      · rw [q] at q3; exact absurd q3 (by decide)
      · rw [q]; exact ⟨by decide, q3⟩
    · right; rw [q]; exact ⟨by decide, q2⟩
    · left
      rw [q2]
      refine ⟨q, q3, q4, fun q6 => ?_⟩
      rw [(c2 (Y 0 16).toNat (by omega) (by omega)).1]
      rcases q5 with q5 | q5 | q5
      · omega
      · left
        rcases q5 with r | ⟨n, r⟩
        · exact Or.inl r
        · exact Or.inr ⟨n, by rw [fr 7 n (by decide)]; exact r⟩
      · right
        unfold cnP bdP at q5 ⊢
        rw [fr 6 0 (by decide), f17, fr 16 _ (by decide)]
        exact q5
theorem R_89 (hK : 1000000 ≤ K) (hI : pI M) (hf : fresh M) (hz : M 18 4 = 0) (hgW : gW M) (hcl : clo M) (hm : pM m) (hmo : 1 ≤ mo ∧ mo ≤ 900) (hde : 1 ≤ de ∧ de ≤ 30) :
    ∃ t Xe M2, a_run (kM M) (bM M) (cH4 M) (yBl M) mo de t x0 = some Xe ∧ Xe.2.2.2.1 = false ∧ t < 1000000 ∧ f_89 K M m mo de = some M2 ∧ (∀ a i, ¬ (m ≤ a ∧ a < m + 110) → M2 a i = M a i) ∧ rnd M2 m mo de ∧
      (∀ j, j < 9 → M2 (m + 13) j = if j = 6 then Xe.2.2.2.2 1 0 else if j = 8 then Xe.2.2.2.2 1 1 else Xe.2.2.2.2 13 j) := by
  obtain ⟨hcF, hlF, hw, hp, hA⟩ := r_base hK hI hf hz hgW hm
  have A := hA hcl
  have hnn := hI.1
  have hnp := hI.2.1
  have hm196 : 196 ≤ m := by
    have hmm : m = 196 ∨ m = 306 := hm
    omega
  have hIx := I_x0 (mo := mo) (de := de) hw hp (by omega) hde.1
  obtain ⟨t, Xe, h1, h2, h3, h4, h5, h6, h7⟩ := am_main (v := -1) (nd := -1) (Y0 := a_enterY y0 0 1) A hw hp hIx
  have e3 : a_enterY y0 0 1 13 3 = 0 := rfl
  have e11 : a_enterY y0 0 1 1 1 = 0 := rfl
  have e130 : a_enterY y0 0 1 13 0 = 2 := rfl
  rw [e3] at h4 h5
  rw [e11] at h5 h6
  rw [e130] at h7
  have h13 : Xe.2.2.2.2 13 3 ≤ mo := h2.1.2.2.2.2.2.2.2.2.2.2.2.2.1
  have ht : t < 1000000 := by clear h7; omega
  have hs11 : Xe.2.2.2.2 1 1 ≤ 3000 := by clear h7; omega
  obtain ⟨M1, g1, g2, g3, g4⟩ := perf (N := K) hm (by omega) (by omega) hde.1 hde.2 (by omega) hcF hlF hw hp h1 h3 ht (by omega)
  have hQ := (run_Q hcF hw hIx Q_x0 h1).2
  have hx10 : x0.2.2.2.2 1 0 = 0 := rfl
  rw [hx10] at hQ
  have hc : 1 ≤ Xe.2.2.2.2 17 0 ∧ Xe.2.2.2.2 17 0 ≤ 1 + (t : Int) := run_17 t h1 0
  obtain ⟨⟨y1, y2, y3, y4, y5, y6, y7, y8⟩, -⟩ := g2
  have ln9 : yln (m + 13) = 9 := ln_13 hm
  have w6 : ∀ (Q : yM) (v : Int), ywr Q (m + 13) 6 v = yU Q (m + 13) 6 v := fun Q v => wr_in (by decide) (by rw [ln9]; decide)
  have w8 : ∀ (Q : yM) (v : Int), ywr Q (m + 13) 8 v = yU Q (m + 13) 8 v := fun Q v => wr_in (by decide) (by rw [ln9]; decide)
  rw [w6, w8] at g1
  have k2 : ∀ a i, ¬ (a = m + 13 ∧ (i = 6 ∨ i = 8)) → yU (yU M1 (m + 13) 6 (Xe.2.2.2.2 1 0)) (m + 13) 8 (Xe.2.2.2.2 1 1) a i = M1 a i := fun a i q => by
    rw [yU_ne (fun r => q ⟨r.1, Or.inr r.2⟩), yU_ne (fun r => q ⟨r.1, Or.inl r.2⟩)]
  have k6 : yU (yU M1 (m + 13) 6 (Xe.2.2.2.2 1 0)) (m + 13) 8 (Xe.2.2.2.2 1 1) (m + 13) 6 = Xe.2.2.2.2 1 0 := by rw [yU_i (by decide), yU_at]
  have k8 : yU (yU M1 (m + 13) 6 (Xe.2.2.2.2 1 0)) (m + 13) 8 (Xe.2.2.2.2 1 1) (m + 13) 8 = Xe.2.2.2.2 1 1 := yU_at
  have told : ∀ j, j < 9 → yU (yU M1 (m + 13) 6 (Xe.2.2.2.2 1 0)) (m + 13) 8 (Xe.2.2.2.2 1 1) (m + 13) j = if j = 6 then Xe.2.2.2.2 1 0 else if j = 8 then Xe.2.2.2.2 1 1 else Xe.2.2.2.2 13 j := fun j hj => by
    by_cases q6 : j = 6
    · rw [if_pos q6, q6]; exact k6
    · rw [if_neg q6]
      by_cases q8 : j = 8
      · rw [if_pos q8, q8]; exact k8
      · rw [if_neg q8, k2 _ _ (fun r => r.2.elim q6 q8)]; exact y4 j hj
  refine ⟨t, Xe, _, h1, h3, ht, g1, fun a i q => ?_, ?_, told⟩
  · rw [k2 a i (fun r => q (by rw [r.1]; exact ⟨Nat.le_add_right _ _, Nat.add_lt_add_left (by decide) _⟩))]
    exact g3.1 a i q
  · refine rnd_mk (gn := fun n => M 13 n ≠ -1) (nk := M 1 0) (nn := (M 1 7).toNat) (np := (M 1 4).toNat) (Y := Xe.2.2.2.2) (M := M) (fun a i q => ?_) told (fun i hi => (k2 _ _ (nf (by decide))).trans (y2 i hi)) (fun e he hl => ?_) (fun i hi => (k2 _ _ (nf (by decide))).trans (y7 i hi)) (fun i hi => (k2 _ _ (nf (by decide))).trans (y8 i hi)) (fun _ => h2.1) (fun _ q => q) rfl rfl rfl (by clear h7; omega) (by clear h7; omega) (fun _ => h2.2.2.2.2.2 h3) hs11 (by clear h7; omega) (by clear h7; omega) ?_ fun _ => h7
    · rw [k2 a i (fun r => by have := r.1; clear h7; omega)]
      exact g3.1 a i (fun r => by clear h7; omega)
    · rw [k2 _ _ (nf (by decide)), k2 _ _ (nf (by decide))]
      exact y3 e (by clear h7; omega) hl
    · exact rJ_eq g4 (fun j => k2 _ _ (nf (by decide))) (fun a j q1 q2 => k2 _ _ (fun r => by have := r.1; clear h7; omega)) (k2 _ _ (fun r => by have := r.1; clear h7; omega))
theorem kM_s (h : sP b p M N) {c : Nat} (h1 : 1 ≤ c) (h5 : c ≤ 5) : kM N p c = kM M p c := funext fun i => by
  unfold kM
  rw [h.1]
  by_cases q : (i : Int) < M (24 + 9 * p) 0
  · rw [if_pos q, if_pos q]; exact h.2.2.1 i q c h1 h5
  · rw [if_neg q, if_neg q]
/-- two runs tell the same -/
theorem R_89p (hK : 1000000 ≤ K) (hI : pI M) (hIN : pI N) (hf : fresh M) (hfN : fresh N) (hz : M 18 4 = 0) (hgW : gW M) (hgWN : gW N) (hs : same2 b M N) (hcl : clo M) (hclN : clo N) (hm : pM m) (hm' : pM m') (hmo : 1 ≤ mo ∧ mo ≤ 900) (hde : 1 ≤ de ∧ de ≤ 30) (eX : f_89 K M m mo de = some X) (eY : f_89 K N m' mo de = some Y) : ∀ j, j < 9 → Y (m' + 13) j = X (m + 13) j := by
  have hzN : N 18 4 = 0 := hs.2.1.trans hz
  obtain ⟨t, Xe, M2, a1, a2, a3, a4, a5, a6, a7⟩ := R_89 hK hI hf hz hgW hcl hm hmo hde
  obtain ⟨t', Ye, N2, b1, b2, b3, b4, b5, b6, b7⟩ := R_89 hK hIN hfN hzN hgWN hclN hm' hmo hde
  rw [eX] at a4
  rw [eY] at b4
  cases a4
  cases b4
  obtain ⟨hcF, hlF, hw, hp, hA⟩ := r_base hK hI hf hz hgW hm
  have hIx := I_x0 (mo := mo) (de := de) hw hp (by omega) hde.1
  obtain ⟨f1, f2, f3, f4⟩ := hf
  obtain ⟨g1, g2, g3⟩ := f4 hz
  obtain ⟨n1, n2, n3, n4⟩ := hfN
  obtain ⟨o1, o2, o3⟩ := n4 hzN
  have hsP := (hs.2.2 hz).1
  have hbl : yBl N = yBl M := funext fun k => funext fun c => by
    unfold yBl
    rw [f120_cg fun j => hs.1 4 j (by decide)]
  have hrun : ∀ s, a_run (kM N) (bM N) (cH4 N) (yBl N) mo de s x0 = a_run (kM M) (bM M) (cH4 M) (yBl M) mo de s x0 := fun s => by
    rw [hbl]
    refine run_cg (inv_step hw) (fun Z Z' hZ hQ hs => (run_Q hcF hw hZ hQ (run_one hs)).1) (fun p hp c c1 c5 => kM_s (hsP p hp) c1 c5) (fun p hp => funext fun i => ?_) (fun p i hp hmay => ?_) s hIx Q_x0
    · by_cases q : (i : Int) < M (24 + 9 * p) 0
      · exact (hsP p hp).2.2.2.1 (g3 p hp).2.2.2 i q
      · unfold bM
        rw [(hsP p hp).1, if_neg q, if_neg q]
    · by_cases q : (i : Int) < M (24 + 9 * p) 0
      · have e : kM M p 1 i = M (24 + 9 * p + 1) i := if_pos q
        rw [e] at hmay
        exact (hsP p hp).2.2.2.2.1 g2 o2 i q hmay
      · have e : kM M p 1 i = 0 := if_neg q
        rw [e] at hmay
        unfold a_may at hmay
        omega
  rw [hrun] at b1
  have hend : ∀ {s s' : Nat} {A B : aX}, a_run (kM M) (bM M) (cH4 M) (yBl M) mo de s x0 = some A → A.2.2.2.1 = false → a_run (kM M) (bM M) (cH4 M) (yBl M) mo de (s + s') x0 = some B → B = A := fun {s s' A B} q1 q2 q3 => by
    rw [a_run_add _ _ _ _ _ _ q1] at q3
    cases s' with
    | zero => exact (Option.some.inj q3).symm
    | succ s' =>
      have q4 : (a_step (kM M) (bM M) (cH4 M) (yBl M) mo de A).bind (a_run (kM M) (bM M) (cH4 M) (yBl M) mo de s') = some B := q3
      have q5 : a_step (kM M) (bM M) (cH4 M) (yBl M) mo de A = none := by
        unfold a_step
        rw [if_pos q2]
      rw [q5] at q4
      cases q4
  have e : Ye = Xe := by
    rcases Nat.le_total t t' with q | q
    · obtain ⟨s, rfl⟩ := Nat.exists_eq_add_of_le q
      exact hend a1 a2 b1
    · obtain ⟨s, rfl⟩ := Nat.exists_eq_add_of_le q
      exact (hend b1 b2 a1).symm
  intro j hj
  rw [a7 j hj, b7 j hj, e]
end PacA
