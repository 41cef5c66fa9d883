/-! classes, procedures, bodies told; the number of a set -/
/-- what a program that is being told keeps besides -/
def pX (M : yM) : Prop := (∀ p : Nat, M 1 4 ≤ (p : Int) → M 6 p = -1) ∧ ∀ c : Nat, sB (M 1 0) (M 4 c)
section PafA
variable {M N X Y : yM} {s a b c x p q v t k : Int} {n i j : Nat}
theorem bin_sm {op : Nat} {a b : Int} : ysm (ybin op a b) := by
  unfold ybin
  have h1 := Int32.toInt_lt (zbin op (yi a) (yi b))
  have h2 := Int32.le_toInt (zbin op (yi a) (yi b))
  exact ⟨by omega, by omega⟩
theorem set_rg (h : sB k t) (hk : 5 ≤ k ∧ k ≤ 13) : 0 ≤ t ∧ t < 2 ^ k.toNat := by
  obtain ⟨h1, h2⟩ := h
  have e1 : (yi t).toInt = t := sm_w h1
  have hlt : (yi t).toBitVec.toNat < 2 ^ k.toNat := by
    refine Nat.lt_pow_two_of_testBit _ fun i hi => ?_
    rw [BitVec.testBit_toNat]
    by_cases q : i < 32
    · exact h2 i (by omega) q
    · exact BitVec.getLsbD_of_ge _ _ (by omega)
  have h13 : 2 ^ k.toNat ≤ 2 ^ 13 := Nat.pow_le_pow_right (by decide) (by omega)
  have e2 : (yi t).toInt = ((yi t).toBitVec.toNat : Int) := BitVec.toInt_eq_toNat_of_lt (by
    have : (2 : Nat) ^ 13 = 8192 := rfl
    omega)
  have e3 : (((2 : Nat) ^ k.toNat : Nat) : Int) = 2 ^ k.toNat := by rw [Int.natCast_pow]; rfl
  omega
theorem shl_pow : ∀ j : Nat, j < 14 → ybin 28 1 (j : Int) = 2 ^ j := by decide +kernel
theorem f127_1 (hI : pI M) (h : sB (M 1 0) t) : f_127 M t = 1 := by
  have hk := hI.2.2.1
  have hr := set_rg h hk
  have e := shl_pow (M 1 0).toNat (by omega)
  rw [Int.toNat_of_nonneg (by omega)] at e
  have h1 := h.1
  unfold f_127
  rw [rel2 h1 ⟨by decide, by decide⟩, cond_df (by omega), rel3 h1 bin_sm, e, cond_df (by omega)]
theorem sB_mono (h : sB k t) (hk : k ≤ v) : sB v t := ⟨h.1, fun x hx => h.2 x (by omega)⟩
theorem sB_or (h1 : sB k s) (h2 : sB k t) : sB k (ybin 27 s t) := ⟨bin_sm, fun x hx h32 => by rw [tb_or, h1.2 x hx h32, h2.2 x hx h32]; rfl⟩
theorem sB_0 (hk : 0 ≤ k) : sB k 0 := ⟨⟨by decide, by decide⟩, fun x _ _ => tb_0⟩
theorem sB_shl (h : 0 ≤ k ∧ k < 13) : sB (k + 1) (ybin 28 1 k) := ⟨bin_sm, fun x hx h32 => by
  have e := tb_shl k.toNat (by omega) x h32
  rw [Int.toNat_of_nonneg h.1] at e
  rw [e]
  exact decide_eq_false (by omega)⟩
/-- a procedure more -/
def prM (M : yM) (t : Int) : yM := yU (yU (yU M 0 8 1) 1 4 (M 1 4 + 1)) 5 (M 1 4).toNat t
theorem f22_ok (hI : pI M) (hX : pX M) (h : sB (M 1 0) t) (h8 : M 1 4 < 8) : f_22 M t = some (prM M t, M 1 4) := by
  have hnp := hI.2.1
  unfold f_22
  rw [f127_1 hI h, show yrel 1 1 0 = true from rfl, cond_true, rel2 ⟨by omega, by omega⟩ ⟨by decide, by decide⟩, cond_dt (by omega), ylet_eq]
  unfold f_106
  have e : yU M 0 8 1 1 4 = M 1 4 := yU_c (by decide)
  rw [e, ylet_eq, ylet_eq, ylet_eq, ylet_eq, wr_in (a := 5) (by omega) (by show M 1 4 < ((8 : Nat) : Int); omega)]
  rfl
theorem prM_get : (∀ a i, ¬ (a = 0 ∧ i = 8) → ¬ (a = 1 ∧ i = 4) → ¬ (a = 5 ∧ i = (M 1 4).toNat) → prM M t a i = M a i) ∧ prM M t 1 4 = M 1 4 + 1 ∧ prM M t 5 (M 1 4).toNat = t ∧ prM M t 0 8 = 1 := by
  unfold prM
  refine ⟨fun a i h1 h2 h3 => by rw [yU_ne h3, yU_ne h2, yU_ne h1], by rw [yU_c (by decide), yU_at], yU_at, by rw [yU_c (by decide), yU_c (by decide), yU_at]⟩
theorem prM_pI (hI : pI M) (hX : pX M) (h : sB (M 1 0) t) (h8 : M 1 4 < 8) : pI (prM M t) ∧ pX (prM M t) := by
  obtain ⟨g1, g2, g3, g4⟩ := prM_get (M := M) (t := t)
  obtain ⟨i1, i2, i3, i4, i5, i6, i7, i8, i9, i10⟩ := id hI
  have e7 : prM M t 1 7 = M 1 7 := g1 _ _ (by omega) (by omega) (by omega)
  have e0 : prM M t 1 0 = M 1 0 := g1 _ _ (by omega) (by omega) (by omega)
  have er : ∀ a, 6 ≤ a → prM M t a = M a := fun a ha => funext fun i => g1 _ _ (by omega) (by omega) (by omega)
  have e4 : prM M t 4 = M 4 := funext fun i => g1 _ _ (by omega) (by omega) (by omega)
  refine ⟨⟨by rw [e7]; exact i1, by rw [g2]; omega, by rw [e0]; exact i3, fun n hn => ?_, fun n hn => ?_, fun n hn => ?_, fun p hp => ?_, fun n hn => ?_, fun p hp => ?_, fun c hc => ?_⟩, fun p hp => ?_, fun c => ?_⟩
  · rw [e7] at hn
    have o := i4 n hn
    unfold nO prt prc at o ⊢
    rw [er 7 (by decide), er 8 (by decide), er 9 (by decide), er 10 (by decide), er 11 (by decide), e0, g2]
    obtain ⟨o1, o2, o3, o4, o5, o6, o7, o8, o9, o10, o11, o12⟩ := o
    exact ⟨o1, o2, o3, o4, o5, o6, fun q => by have := o7 q; omega, o8, o9, o10, fun q => ⟨(o11 q).1, by have := (o11 q).2.1; omega, by have := (o11 q).2.2.1; omega, (o11 q).2.2.2⟩, o12⟩
  · rw [e7] at hn
    rw [er 7 (by decide)]; exact i5 n hn
  · rw [e7] at hn ⊢
    unfold isP
    rw [er 7 (by decide), er 8 (by decide), er 9 (by decide), er 10 (by decide), er 11 (by decide)]
    exact i6 n hn
  · rw [g2] at hp
    rw [er 6 (by decide), er 7 (by decide), er 11 (by decide), er 12 (by decide), e7]
    by_cases q : (p : Int) < M 1 4
    · exact i7 p q
    · exact Or.inl (hX.1 p (by omega))
  · rw [e7] at hn
    rw [er 12 (by decide), er 6 (by decide), g2]
    rcases i8 n hn with q | ⟨q1, q2, q3⟩
    · exact Or.inl q
    · exact Or.inr ⟨q1, by omega, q3⟩
  · rw [g2] at hp
    rw [e0]
    by_cases q : p = (M 1 4).toNat
    · subst q
      rw [g3]; exact h
    · rw [g1 5 p (by omega) (by omega) (by omega)]
      exact i9 p (by omega)
  · rw [e0] at hc ⊢
    rw [e4]
    exact i10 c hc
  · rw [g2] at hp
    rw [er 6 (by decide)]
    exact hX.1 p (by omega)
  · rw [e0, e4]
    exact hX.2 c
/-- what a procedure tells -/
def teM (M : yM) (p : Nat) (t : Int) : yM := yU (yU M 5 p t) 0 8 1
theorem f35_ok (hI : pI M) (hp : (i : Int) < M 1 4) (h : sB (M 1 0) t) : f_35 M (i : Int) t = some (teM M i t, M 5 i) := by
  have hnp := hI.2.1
  unfold f_35
  rw [f119_1 hI ⟨by omega, hp⟩, show yrel 1 1 0 = true from rfl, cond_true, f127_1 hI h, show yrel 1 1 0 = true from rfl, cond_true, ylet_eq, ylet_eq, ylet_eq, rd_in (a := 5) (by omega) (by show (i : Int) < ((8 : Nat) : Int); omega), wr_in (a := 5) (by omega) (by show (i : Int) < ((8 : Nat) : Int); omega)]
  rfl
theorem teM_get : (∀ a j, ¬ (a = 0 ∧ j = 8) → ¬ (a = 5 ∧ j = i) → teM M i t a j = M a j) ∧ teM M i t 5 i = t ∧ teM M i t 0 8 = 1 := ⟨fun a j h1 h2 => by unfold teM; rw [yU_ne h1, yU_ne h2], by unfold teM; rw [yU_c (by decide), yU_at], yU_at⟩
theorem teM_pI (hI : pI M) (hX : pX M) (h : sB (M 1 0) t) : pI (teM M i t) ∧ pX (teM M i t) := by
  obtain ⟨g1, g2, g3⟩ := teM_get (M := M) (t := t) (i := i)
  obtain ⟨i1, i2, i3, i4, i5, i6, i7, i8, i9, i10⟩ := id hI
  have e1 : teM M i t 1 = M 1 := funext fun j => g1 _ _ (by omega) (by omega)
  have e4 : teM M i t 4 = M 4 := funext fun j => g1 _ _ (by omega) (by omega)
  have er : ∀ a, 6 ≤ a → teM M i t a = M a := fun a ha => funext fun j => g1 _ _ (by omega) (by omega)
  refine ⟨⟨by rw [e1]; exact i1, by rw [e1]; exact i2, by rw [e1]; exact i3, ?_, by rw [e1, er 7 (by decide)]; exact i5, ?_, ?_, by rw [e1, er 12 (by decide), er 6 (by decide)]; exact i8, fun p hp => ?_, by rw [e1, e4]; exact i10⟩, by rw [e1, er 6 (by decide)]; exact hX.1, by rw [e1, e4]; exact hX.2⟩
  · unfold nO prt prc at *
    rw [e1, er 7 (by decide), er 8 (by decide), er 9 (by decide), er 10 (by decide), er 11 (by decide)]
    exact i4
  · unfold isP at *
    rw [e1, er 7 (by decide), er 8 (by decide), er 9 (by decide), er 10 (by decide), er 11 (by decide)]
    exact i6
  · rw [e1, er 6 (by decide), er 7 (by decide), er 11 (by decide), er 12 (by decide)]
    exact i7
  · rw [e1] at hp ⊢
    by_cases q : p = i
    · subst q
      rw [g2]; exact h
    · rw [g1 5 p (by omega) (by omega)]
      exact i9 p hp
/-- a body -/
def boM (M : yM) (p n : Nat) : yM := yU (yU (yU M 0 8 1) 6 p (n : Int)) 12 n (p : Int)
theorem f3_ok (hI : pI M) (hp : (i : Int) < M 1 4) (hb : uS M (n : Int)) (h6 : M 6 i = -1) : f_3 M (i : Int) (n : Int) = some (boM M i n, -1) := by
  have hnp := hI.2.1
  have hnn := hI.1
  have hb1 := hb.1
  unfold f_3
  rw [f119_1 hI ⟨by omega, hp⟩, show yrel 0 1 0 = false from rfl, cond_false, f118_1 hI hb1, show yrel 1 1 0 = true from rfl, cond_true, f128_s hI hb1, if_neg hb.2.1, show yrel 1 1 0 = true from rfl, cond_true, f121_1 hI hb1 hb.2.2.1 hb.2.2.2, show yrel 1 1 0 = true from rfl, cond_true, ylet_eq]
  unfold f_137
  have e6 : yrd (yU M 0 8 1) 6 (i : Int) = -1 := by
    rw [rd_in (a := 6) (by omega) (by show (i : Int) < ((8 : Nat) : Int); omega), yU_c (by decide), Int.toNat_natCast, h6]
  rw [e6, ylet_eq, ylet_eq, ylet_eq, ylet_eq, ylet_eq, wr_out (a := 12) (k := -1) ⟨by decide, by decide⟩ (Or.inl (by decide)), wr_in (a := 6) (k := (i : Int)) (by omega) (by show (i : Int) < ((8 : Nat) : Int); omega), wr_in (a := 12) (k := (n : Int)) (by omega) (by show (n : Int) < ((90 : Nat) : Int); omega)]
  rfl
theorem boM_get : (∀ a j, ¬ (a = 0 ∧ j = 8) → ¬ (a = 6 ∧ j = i) → ¬ (a = 12 ∧ j = n) → boM M i n a j = M a j) ∧ boM M i n 6 i = (n : Int) ∧ boM M i n 12 n = (i : Int) ∧ boM M i n 0 8 = 1 := ⟨fun a j h1 h2 h3 => by unfold boM; rw [yU_ne h3, yU_ne h2, yU_ne h1], by unfold boM; rw [yU_c (by decide), yU_at], yU_at, by unfold boM; rw [yU_c (by decide), yU_c (by decide), yU_at]⟩
theorem boM_pI (hI : pI M) (hX : pX M) (hp : (i : Int) < M 1 4) (hb : uS M (n : Int)) (h6 : M 6 i = -1) : pI (boM M i n) ∧ pX (boM M i n) := by
  obtain ⟨g1, g2, g3, g4⟩ := boM_get (M := M) (i := i) (n := n)
  obtain ⟨i1, i2, i3, i4, i5, i6, i7, i8, i9, i10⟩ := id hI
  obtain ⟨b1, b2, b3, b4⟩ := hb
  rw [Int.toNat_natCast] at b2 b3 b4
  have er : ∀ a, 1 ≤ a → a ≠ 6 → a ≠ 12 → boM M i n a = M a := fun a h1 h2 h3 => funext fun j => g1 _ _ (by omega) (by omega) (by omega)
  refine ⟨⟨by rw [er 1 (by decide) (by decide) (by decide)]; exact i1, by rw [er 1 (by decide) (by decide) (by decide)]; exact i2, by rw [er 1 (by decide) (by decide) (by decide)]; exact i3, ?_, by rw [er 1 (by decide) (by decide) (by decide), er 7 (by decide) (by decide) (by decide)]; exact i5, ?_, fun p hp2 => ?_, fun k hk => ?_, by rw [er 1 (by decide) (by decide) (by decide), er 5 (by decide) (by decide) (by decide)]; exact i9, by rw [er 1 (by decide) (by decide) (by decide), er 4 (by decide) (by decide) (by decide)]; exact i10⟩, fun p hp2 => ?_, by rw [er 1 (by decide) (by decide) (by decide), er 4 (by decide) (by decide) (by decide)]; exact hX.2⟩
  · unfold nO prt prc at *
    rw [er 1 (by decide) (by decide) (by decide), er 7 (by decide) (by decide) (by decide), er 8 (by decide) (by decide) (by decide), er 9 (by decide) (by decide) (by decide), er 10 (by decide) (by decide) (by decide), er 11 (by decide) (by decide) (by decide)]
    exact i4
  · unfold isP at *
    rw [er 1 (by decide) (by decide) (by decide), er 7 (by decide) (by decide) (by decide), er 8 (by decide) (by decide) (by decide), er 9 (by decide) (by decide) (by decide), er 10 (by decide) (by decide) (by decide), er 11 (by decide) (by decide) (by decide)]
    exact i6
  · rw [er 1 (by decide) (by decide) (by decide)] at hp2 ⊢
    rw [er 7 (by decide) (by decide) (by decide), er 11 (by decide) (by decide) (by decide)]
    by_cases q : p = i
    · subst q
      rw [g2]
      refine Or.inr ⟨by omega, b1.2, ?_, ?_, ?_⟩
      · rw [Int.toNat_natCast]; exact b2
      · rw [Int.toNat_natCast]; exact b3
      · rw [Int.toNat_natCast]; exact g3
    · rw [g1 6 p (by omega) (by omega) (by omega)]
      rcases i7 p hp2 with r | ⟨r1, r2, r3, r4, r5⟩
      · exact Or.inl r
      · refine Or.inr ⟨r1, r2, r3, r4, ?_⟩
        rw [g1 12 _ (by omega) (by omega) (fun z => by rw [z.2] at r5; omega)]
        exact r5
  · rw [er 1 (by decide) (by decide) (by decide)] at hk ⊢
    by_cases q : k = n
    · subst q
      rw [g3]
      refine Or.inr ⟨by omega, by omega, ?_⟩
      rw [Int.toNat_natCast]; exact g2
    · rw [g1 12 k (by omega) (by omega) (by omega)]
      rcases i8 k hk with r | ⟨r1, r2, r3⟩
      · exact Or.inl r
      · refine Or.inr ⟨r1, r2, ?_⟩
        rw [g1 6 _ (by omega) (fun z => by rw [z.2] at r3; omega) (by omega)]
        exact r3
  · rw [er 1 (by decide) (by decide) (by decide)] at hp2
    rw [g1 6 p (by omega) (by omega) (by omega)]
    exact hX.1 p hp2
/-- a class more -/
theorem f104_30 {K : Nat} : ∀ (n : Nat) {M : yM} {x4 x5 : Int}, 0 ≤ x5 → x5 ≤ 13 → x5 < n → 0 ≤ k → k < 13 → ∃ M', f_104_30 K n M k x4 x5 = some (M', k) ∧ (∀ a, a ≠ 4 → M' a = M a) ∧ ((∀ c : Nat, sB (k + 1) (M 4 c)) → ∀ c : Nat, sB (k + 1) (M' 4 c))
  | 0, _, _, _, h0, _, h, _, _ => absurd h (by omega)
  | n + 1, M, x4, x5, h0, h1, h2, hk, hk2 => by
    rw [f_104_30, rel5 ⟨by omega, by omega⟩ ⟨by decide, by decide⟩]
    cases yrel 2 x4 0 with
    | true => exact ⟨M, rfl, fun _ _ => rfl, id⟩
    | false =>
      rw [cond_false]
      by_cases hc : x5 ≤ 0
      · rw [cond_dt hc]
        exact ⟨M, rfl, fun _ _ => rfl, id⟩
      · rw [cond_df hc, ylet_eq, ylet_eq]
        obtain ⟨M', e1, e2, e3⟩ := f104_30 (K := K) n (M := ywr M 4 x4 (ybin 27 (yrd M 4 x4) (ybin 28 1 k))) (x4 := yrd (ywr M 4 x4 (ybin 27 (yrd M 4 x4) (ybin 28 1 k))) 2 x4) (x5 := x5 + -1) (by omega) (by omega) (by omega) hk hk2
        refine ⟨M', e1, fun a ha => ?_, fun h => e3 fun c => ?_⟩
        · rw [e2 a ha]
          exact funext fun j => wr_c ha
        · unfold ywr
          by_cases q : 0 ≤ yw x4 ∧ (yw x4).toNat < yln 4
          · rw [if_pos q]
            by_cases r : c = (yw x4).toNat
            · rw [r, yU_at]
              refine sB_or ?_ (sB_shl ⟨hk, hk2⟩)
              unfold yrd
              rw [if_pos q]
              exact h _
            · rw [yU_i r]; exact h c
          · rw [if_neg q]; exact h c
theorem f13_ok {K : Nat} (hK : 100 ≤ K) (hI : pI M) (hX : pX M) (hq : 0 ≤ q ∧ q < M 1 0) (h13 : M 1 0 < 13) : ∃ M', f_13 K M q b = some (M', M 1 0) ∧ pI M' ∧ pX M' ∧ M' 1 0 = M 1 0 + 1 ∧ M' 0 8 = 1 ∧ (∀ a j, ¬ (a = 0 ∧ j = 8) → ¬ (a = 1 ∧ j = 0) → a ≠ 2 → a ≠ 3 → a ≠ 4 → M' a j = M a j) := by
  have hk := hI.2.2.1
  have e0 : yU M 0 8 1 1 0 = M 1 0 := yU_c (by decide)
  have w2 : ywr (yU (yU M 0 8 1) 1 0 (M 1 0 + 1)) 2 (M 1 0) q = yU (yU (yU M 0 8 1) 1 0 (M 1 0 + 1)) 2 (M 1 0).toNat q := wr_in (by omega) (by show M 1 0 < ((13 : Nat) : Int); omega)
  have key : ∀ u : Int, ∃ M', f_104_25 K (yU (yU (yU M 0 8 1) 1 0 (M 1 0 + 1)) 2 (M 1 0).toNat q) (M 1 0) u (M 1 0) = some (M', M 1 0) ∧ (∀ a j, ¬ (a = 0 ∧ j = 8) → ¬ (a = 1 ∧ j = 0) → a ≠ 2 → a ≠ 3 → a ≠ 4 → M' a j = M a j) ∧ M' 1 0 = M 1 0 + 1 ∧ M' 0 8 = 1 ∧ ∀ c : Nat, sB (M 1 0 + 1) (M' 4 c) := fun u => by
    unfold f_104_25
    rw [ylet_eq, wr_in (a := 3) (by omega) (by show M 1 0 < ((13 : Nat) : Int); omega)]
    obtain ⟨M', e1, e2, e3⟩ := f104_30 (K := K) (k := M 1 0) K (M := yU (yU (yU (yU M 0 8 1) 1 0 (M 1 0 + 1)) 2 (M 1 0).toNat q) 3 (M 1 0).toNat u) (x4 := M 1 0) (x5 := 13) (by decide) (by decide) (by omega) (by omega) h13
    refine ⟨M', e1, fun a j h1 h2 h3 h4 h5 => ?_, ?_, ?_, e3 fun c => ?_⟩
    · rw [e2 a h5, yU_c h4, yU_c h3, yU_ne h2, yU_ne h1]
    · rw [e2 1 (by decide), yU_c (by decide), yU_c (by decide), yU_at]
    · rw [e2 0 (by decide), yU_c (by decide), yU_c (by decide), yU_c (by decide), yU_at]
    · rw [yU_c (by decide), yU_c (by decide), yU_c (by decide), yU_c (by decide)]
      exact sB_mono (hX.2 c) (by omega)
  have e13 : ∃ M', f_13 K M q b = some (M', M 1 0) ∧ (∀ a j, ¬ (a = 0 ∧ j = 8) → ¬ (a = 1 ∧ j = 0) → a ≠ 2 → a ≠ 3 → a ≠ 4 → M' a j = M a j) ∧ M' 1 0 = M 1 0 + 1 ∧ M' 0 8 = 1 ∧ ∀ c : Nat, sB (M 1 0 + 1) (M' 4 c) := by
    unfold f_13
    rw [f117_1 hI hq, show yrel 1 1 0 = true from rfl, cond_true, rel2 ⟨by omega, by omega⟩ ⟨by decide, by decide⟩, cond_dt h13, ylet_eq]
    unfold f_104
    rw [e0, ylet_eq, ylet_eq, ylet_eq, w2]
    cases yrel 0 b 0 with
    | true =>
      obtain ⟨M', r1, r2⟩ := key (yrd (yU (yU (yU M 0 8 1) 1 0 (M 1 0 + 1)) 2 (M 1 0).toNat q) 3 q)
      rw [cond_true, r1]
      exact ⟨M', rfl, r2⟩
    | false =>
      obtain ⟨M', r1, r2⟩ := key 1
      rw [cond_false, r1]
      exact ⟨M', rfl, r2⟩
  obtain ⟨M', r1, r2, r3, r4, r5⟩ := e13
  obtain ⟨i1, i2, i3, i4, i5, i6, i7, i8, i9, i10⟩ := id hI
  have er : ∀ a, 5 ≤ a → M' a = M a := fun a ha => funext fun j => r2 a j (by omega) (by omega) (by omega) (by omega) (by omega)
  have e7 : M' 1 7 = M 1 7 := r2 _ _ (by omega) (by omega) (by omega) (by omega) (by omega)
  have e4 : M' 1 4 = M 1 4 := r2 _ _ (by omega) (by omega) (by omega) (by omega) (by omega)
  refine ⟨M', r1, ⟨by rw [e7]; exact i1, by rw [e4]; exact i2, by rw [r3]; omega, fun n hn => ?_, by rw [e7, er 7 (by decide)]; exact i5, ?_, by rw [e7, e4, er 6 (by decide), er 7 (by decide), er 11 (by decide), er 12 (by decide)]; exact i7, by rw [e7, e4, er 6 (by decide), er 12 (by decide)]; exact i8, fun p hp => ?_, fun c hc => ?_⟩, ⟨by rw [e4, er 6 (by decide)]; exact hX.1, by rw [r3]; exact r5⟩, r3, r4, r2⟩
  · rw [e7] at hn
    have o := i4 n hn
    unfold nO prt prc at o ⊢
    rw [er 7 (by decide), er 8 (by decide), er 9 (by decide), er 10 (by decide), er 11 (by decide), r3, e4]
    obtain ⟨o1, o2, o3, o4, o5, o6, o7, o8, o9, o10, o11, o12⟩ := o
    exact ⟨o1, o2, o3, o4, o5, o6, o7, fun q => ⟨by have := (o8 q).1; omega, (o8 q).2⟩, o9, fun q => ⟨by have := (o10 q).1; omega, (o10 q).2⟩, o11, o12⟩
  · unfold isP at *
    rw [e7, er 7 (by decide), er 8 (by decide), er 9 (by decide), er 10 (by decide), er 11 (by decide)]
    exact i6
  · rw [e4] at hp
    rw [r3, er 5 (by decide)]
    exact sB_mono (i9 p hp) (by omega)
  · rw [r3]
    exact r5 c
end PafA
