/-! faults are found in every node of a body -/
/-- two runs of the search over the same program -/
def fR (P M M2 : yM) : Prop := eqP P M ∧ eqP P M2 ∧ M2 18 3 = M 18 3 ∧ M2 18 4 = M 18 4 ∧ (0 ≤ M 18 4 ∧ M 18 4 ≤ 202) ∧ ∀ j : Nat, (j : Int) < M 18 3 → M2 20 j = M 20 j
def fS (M M' : yM) : Prop := ∀ a j, a ≠ 18 → a ≠ 19 → a ≠ 20 → M' a j = M a j
def one (x : Int) : Int := if x = -1 then 0 else 1
section FdA
variable {P M M2 M' : yM} {x y x1 x2 x3 x4 : Int} {N t n : Nat}
theorem fS_refl : fS M M := fun _ _ _ _ _ => rfl
theorem fS_trans {M1 : yM} (h1 : fS M M1) (h2 : fS M1 M') : fS M M' := fun a j a1 a2 a3 => by rw [h2 a j a1 a2 a3, h1 a j a1 a2 a3]
theorem eqP_S (h : eqP P M) (h2 : fS M M') : eqP P M' := fun a ha => funext fun j => by rw [h2 a j (by omega) (by omega) (by omega), h a ha]
theorem f77_1 (h0 : 0 ≤ M 18 3 ∧ M 18 3 ≤ 90) (hx : ysm x) (h1 : x ≠ -1 → M 18 3 < 90) : f_77 M x = if x = -1 then M else yU (yU M 20 (M 18 3).toNat x) 18 3 (M 18 3 + 1) := by
  unfold f_77
  rw [rel0 hx ⟨by decide, by decide⟩, rel3 ⟨by omega, by omega⟩ ⟨by decide, by decide⟩]
  by_cases q : x = -1
  · rw [cond_dt q, if_pos q]
  · have := h1 q
    rw [cond_df q, if_neg q, cond_df (by omega), ylet_eq, ylet_eq, wr_in (a := 20) h0.1 (show M 18 3 < 90 by omega), yU_c (by decide)]
theorem push_ok (h : fR P M M2) (h0 : 0 ≤ M 18 3 ∧ M 18 3 ≤ 90) (hx : ysm x) (h1 : x ≠ -1 → M 18 3 < 90) : fR P (f_77 M x) (f_77 M2 x) ∧ f_77 M x 18 3 = M 18 3 + one x ∧ f_77 M x 18 4 = M 18 4 ∧ (∀ j : Nat, (j : Int) < M 18 3 → f_77 M x 20 j = M 20 j) ∧ (x ≠ -1 → f_77 M x 20 (M 18 3).toNat = x) ∧ fS M (f_77 M x) ∧ fS M2 (f_77 M2 x) := by
  obtain ⟨a1, a2, a3, a4, a5, a6⟩ := h
  rw [f77_1 h0 hx h1, f77_1 (M := M2) (by rw [a3]; exact h0) hx (fun q => by rw [a3]; exact h1 q), a3]
  unfold one
  by_cases q : x = -1
  · rw [if_pos q, if_pos q, if_pos q]
    exact ⟨⟨a1, a2, a3, a4, a5, a6⟩, by omega, rfl, fun _ _ => rfl, fun z => absurd q z, fS_refl, fS_refl⟩
  · rw [if_neg q, if_neg q, if_neg q]
    have g : ∀ (M : yM) (v : Int) a j, a ≠ 20 → ¬ (a = 18 ∧ j = 3) → yU (yU M 20 (M 18 3).toNat x) 18 3 v a j = M a j := fun M v a j h1 h2 => by rw [yU_ne h2, yU_c h1]
    have g20 : ∀ (M : yM) (k : Nat) (v : Int) j, yU (yU M 20 k x) 18 3 v 20 j = if j = k then x else M 20 j := fun M k v j => by
      rw [yU_c (by decide)]
      by_cases e : j = k
      · rw [if_pos e, e, yU_at]
      · rw [if_neg e, yU_i e]
    have g3 : ∀ (M : yM) (k : Nat) (v : Int), yU (yU M 20 k x) 18 3 v 18 3 = v := fun M k v => yU_at
    have gg : ∀ (M : yM) (k : Nat) (v : Int) a j, a ≠ 20 → ¬ (a = 18 ∧ j = 3) → yU (yU M 20 k x) 18 3 v a j = M a j := fun M k v a j h1 h2 => by rw [yU_ne h2, yU_c h1]
    refine ⟨⟨fun a ha => ?_, fun a ha => ?_, ?_, ?_, ?_, fun j hj => ?_⟩, ?_, ?_, fun j hj => ?_, fun _ => ?_, fun a j b1 b2 b3 => ?_, fun a j b1 b2 b3 => ?_⟩
    · funext j
      rw [gg _ _ _ _ _ (by omega) (by omega), a1 a ha]
    · funext j
      rw [gg _ _ _ _ _ (by omega) (by omega), a2 a ha]
    · rw [g3, g3]
    · rw [gg _ _ _ _ _ (by omega) (by omega), gg _ _ _ _ _ (by omega) (by omega), a4]
    · rw [gg _ _ _ _ _ (by omega) (by omega)]; exact a5
    · rw [g3] at hj
      rw [g20, g20]
      by_cases e : j = (M 18 3).toNat
      · rw [if_pos e, if_pos e]
      · rw [if_neg e, if_neg e, a6 j (by omega)]
    · rw [g3]
    · rw [gg _ _ _ _ _ (by omega) (by omega)]
    · rw [g20, if_neg (by omega)]
    · rw [g20, if_pos rfl]
    · rw [gg _ _ _ _ _ (by omega) (by omega)]
    · rw [gg _ _ _ _ _ (by omega) (by omega)]
theorem one_szo (hI : pI P) (h : x = -1 ∨ (0 ≤ x ∧ x < P 1 7)) : one x ≤ (szo P x : Int) := by
  unfold one szo
  by_cases q : x = -1
  · rw [if_pos q, if_pos q]; exact Int.le_refl _
  · rw [if_neg q, if_neg q]
    have := sz_pos hI (n := x.toNat) (by omega)
    omega
theorem one_01 : one x = 0 ∧ x = -1 ∨ one x = 1 ∧ x ≠ -1 := by
  unfold one
  by_cases q : x = -1
  · exact Or.inl ⟨if_pos q, q⟩
  · exact Or.inr ⟨if_neg q, q⟩
theorem pt_e (hI : pI P) (h : eqP P M) (hn : (n : Int) < P 1 7) : f_134 M (n : Int) = ptA P n ∧ f_135 M (n : Int) = ptB P n ∧ f_136 M (n : Int) = ptC P n := by
  have e1 : f_134 M (n : Int) = f_134 P (n : Int) := by
    unfold f_134
    rw [rd_cg (h 7 (by decide)), rd_cg (h 8 (by decide))]
  have e2 : f_135 M (n : Int) = f_135 P (n : Int) := by
    unfold f_135
    rw [rd_cg (h 7 (by decide)), rd_cg (h 9 (by decide))]
  have e3 : f_136 M (n : Int) = f_136 P (n : Int) := by
    unfold f_136
    rw [rd_cg (h 7 (by decide)), rd_cg (h 10 (by decide))]
  exact ⟨by rw [e1, f134 hI hn], by rw [e2, f135 hI hn], by rw [e3, f136 hI hn]⟩
/-- no fault in any node of x -/
def okN (N : Nat) (P : yM) (x : Int) : Prop := x = -1 ∨ ∀ y : Nat, (y : Int) < P 1 7 → an P x.toNat y → f_72 N P (y : Int) = some 0
/-- what the search of a node comes to -/
def dS (N : Nat) (P : yM) (p x : Int) (s : Nat) (M M2 : yM) (F t left : Nat) : Prop := ∃ (M' M2' : yM) (left' : Nat), f_75_8 N (F + left) M p (left : Int) = f_75_8 N (F + left') M' p (left' : Int) ∧ f_75_8 N (F + left) M2 p (left : Int) = f_75_8 N (F + left') M2' p (left' : Int) ∧ left ≤ left' + s ∧ left' ≤ left ∧ fR P M' M2' ∧ M' 18 3 = (t : Int) ∧ (∀ j : Nat, j < t → M' 20 j = M 20 j) ∧ fS M M' ∧ fS M2 M2' ∧ (M' 18 4 = 0 → M 18 4 = 0 ∧ okN N P x)
theorem dfs (hI : pI P) (hk : kn P) (hN : 91 ≤ N) (p : Int) (F : Nat) : ∀ (b x : Nat), x < b → (x : Int) < P 1 7 → ∀ (M M2 : yM) (t left : Nat), fR P M M2 → M 18 3 = (t : Int) + 1 → M 20 t = (x : Int) → t + sz P x ≤ 90 → sz P x ≤ left → left ≤ 90 → dS N P p (x : Int) (sz P x) M M2 F t left
  | 0, x, h, _, _, _, _, _, _, _, _, _, _, _ => absurd h (by omega)
  | b + 1, x, hx, hxn, M, M2, t, left, hR, htop, htx, hcap, hleft, hl9 => by
    have hnn := hI.1
    have hz1 := sz_pos hI hxn
    have hzp := sz_parts hI hxn
    obtain ⟨l, rfl⟩ : ∃ l, left = l + 1 := ⟨left - 1, by omega⟩
    have hA := ptA_rg hI hxn
    have hB := ptB_rg hI hxn
    have hC := ptC_rg hI hxn
    obtain ⟨v, hv, hv2, _⟩ := f72_ok (n := x) hI hxn (d1_r hI (fun n hn => (hk n hn).1) hxn).2 hN
    obtain ⟨a1, a2, a3, a4, a5, a6⟩ := hR
    -- the part that is at the top of the stack, or none
    have ihO : ∀ (x' : Int), (x' = -1 ∨ (0 ≤ x' ∧ x' < (x : Int) ∧ P 11 x'.toNat = (x : Int))) → ∀ (M M2 : yM) (t left : Nat), fR P M M2 → M 18 3 = (t : Int) + one x' → (x' ≠ -1 → M 20 t = x') → t + szo P x' ≤ 90 → szo P x' ≤ left → left ≤ 90 → dS N P p x' (szo P x') M M2 F t left := fun x' hx' M M2 t left r1 r2 r3 r4 r5 r6 => by
      rcases one_01 (x := x') with ⟨o1, o2⟩ | ⟨o1, o2⟩
      · exact ⟨M, M2, left, rfl, rfl, by omega, Nat.le_refl _, r1, by omega, fun _ _ => rfl, fS_refl, fS_refl, fun h => ⟨h, Or.inl o2⟩⟩
      · have e : szo P x' = sz P x'.toNat := if_neg o2
        rw [e] at r4 r5 ⊢
        have hx2 := hx'.resolve_left o2
        have := dfs hI hk hN p F b x'.toNat (by omega) (by omega) M M2 t left r1 (by omega) (by rw [r3 o2]; omega) r4 r5 r6
        rw [Int.toNat_of_nonneg hx2.1] at this
        exact this
    -- one node is taken from the stack
    have hpop : ∀ (L : yM), eqP P L → L 18 3 = (t : Int) + 1 → L 20 t = (x : Int) → (0 ≤ L 18 4 ∧ L 18 4 ≤ 202) → ∃ Lq : yM, f_75_8 N (F + (l + 1)) L p ((l + 1 : Nat) : Int) = f_75_8 N (F + l) (f_77 (f_77 (f_77 Lq (ptC P x)) (ptB P x)) (ptA P x)) p (l : Int) ∧ Lq 18 3 = (t : Int) ∧ Lq 18 4 = (if v = 0 then L 18 4 else if L 18 4 < 202 then L 18 4 + 1 else L 18 4) ∧ (∀ j, Lq 20 j = L 20 j) ∧ fS L Lq := fun L b1 b2 b3 b4 => by
      have e5 : eqP P (yU L 18 3 (L 18 3 - 1)) := fun a ha => funext fun j => by rw [yU_c (by omega), b1 a ha]
      have e6 : yrd (yU L 18 3 (L 18 3 - 1)) 20 (yU L 18 3 (L 18 3 - 1) 18 3) = (x : Int) := by
        rw [yU_at, rd_in (by omega) (show L 18 3 - 1 < 90 by omega), yU_c (by decide), b2, show ((t : Int) + 1 - 1).toNat = t by omega, b3]
      have h37 : ∀ Lq : yM, eqP P Lq → f_75_37 N (f_75_8 N (F + l)) Lq p ((l + 1 : Nat) : Int) (x : Int) = f_75_8 N (F + l) (f_77 (f_77 (f_77 Lq (ptC P x)) (ptB P x)) (ptA P x)) p (l : Int) := fun Lq hq => by
        have keep : ∀ (L : yM) (z : Int), eqP P L → eqP P (f_77 L z) := fun L z h a ha => funext fun j => by
          unfold f_77
          cases yrel 0 z (-1) with
          | true => rw [cond_true, h a ha]
          | false =>
            rw [cond_false]
            cases yrel 3 (L 18 3) 90 with
            | true => rw [cond_true, h a ha]
            | false => rw [cond_false, ylet_eq, ylet_eq, yU_c (by omega), wr_c (by omega), h a ha]
        unfold f_75_37
        rw [ylet_eq, ylet_eq, ylet_eq, (pt_e hI hq hxn).2.2, (pt_e hI (keep _ _ hq) hxn).2.1, (pt_e hI (keep _ _ (keep _ _ hq)) hxn).1, show ((l + 1 : Nat) : Int) + -1 = (l : Int) by omega]
      have hstep : f_75_8 N (F + (l + 1)) L p ((l + 1 : Nat) : Int) = cond (yrel 0 v 0) (f_75_37 N (f_75_8 N (F + l)) (yU L 18 3 (L 18 3 - 1)) p ((l + 1 : Nat) : Int) (x : Int)) (f_75_37 N (f_75_8 N (F + l)) (f_71 (yU L 18 3 (L 18 3 - 1)) v p (x : Int) (-1)) p ((l + 1 : Nat) : Int) (x : Int)) := by
        show f_75_8 N ((F + l) + 1) L p ((l + 1 : Nat) : Int) = _
        rw [f_75_8, rel5 ⟨by omega, by omega⟩ ⟨by decide, by decide⟩, cond_df (by omega), rel5 ⟨by omega, by omega⟩ ⟨by decide, by decide⟩, cond_df (by omega), ylet_eq, ylet_eq, e6, f72_e e5, hv, Option.bind_some, ylet_eq]
      rw [hstep, rel0 ⟨by omega, by omega⟩ ⟨by decide, by decide⟩]
      by_cases q : v = 0
      · rw [cond_dt q, h37 _ e5]
        exact ⟨_, rfl, by rw [yU_at]; omega, by rw [if_pos q, yU_i (by decide)], fun j => by rw [yU_c (by decide)], fun a j c1 c2 c3 => by rw [yU_c c1]⟩
      · have g4 : yU L 18 3 (L 18 3 - 1) 18 4 = L 18 4 := yU_i (by decide)
        obtain ⟨k1, k2⟩ := f71_ok (M := yU L 18 3 (L 18 3 - 1)) (x1 := v) (x2 := p) (x3 := (x : Int)) (x4 := -1) (by rw [g4]; exact b4)
        rw [g4] at k2
        rw [cond_df q, h37 _ (fun a ha => funext fun j => by rw [k1 a j (by omega) (by omega), e5 a ha])]
        exact ⟨_, rfl, by rw [k1 18 3 (by decide) (by decide), yU_at]; omega, by rw [if_neg q, k2], fun j => by rw [k1 20 j (by decide) (by omega), yU_c (by decide)], fun a j c1 c2 c3 => by rw [k1 a j c2 (by omega), yU_c c1]⟩
    obtain ⟨Lq, s1, s2, s3, s4, s5⟩ := hpop M a1 htop htx a5
    obtain ⟨Lq2, u1, u2, u3, u4, u5⟩ := hpop M2 a2 (by rw [a3]; exact htop) (by rw [a6 t (by omega)]; exact htx) (by rw [a4]; exact a5)
    rw [a4] at u3
    have hRq : fR P Lq Lq2 := ⟨eqP_S a1 s5, eqP_S a2 u5, by rw [s2, u2], by rw [s3, u3], by rw [s3]; split <;> first | exact a5 | (split <;> omega), fun j hj => by rw [s4, u4]; exact a6 j (by omega)⟩
    have oA := one_szo (x := ptA P x) hI (by omega)
    have oB := one_szo (x := ptB P x) hI (by omega)
    have oC := one_szo (x := ptC P x) hI (by omega)
    have o0 : ∀ z : Int, 0 ≤ one z ∧ one z ≤ 1 := fun z => by rcases one_01 (x := z) with h | h <;> omega
    have oA0 := o0 (ptA P x)
    have oB0 := o0 (ptB P x)
    have oC0 := o0 (ptC P x)
    have hlt : ∀ z : Int, z ≠ -1 → one z = 1 := fun z h => if_neg h
    obtain ⟨c1, c2, c3, c4, c5, c6, c7⟩ := push_ok (x := ptC P x) hRq (by omega) ⟨by omega, by omega⟩ (fun h => by have := hlt _ h; omega)
    obtain ⟨b1, b2, b3, b4, b5, b6, b7⟩ := push_ok (x := ptB P x) c1 (by omega) ⟨by omega, by omega⟩ (fun h => by have := hlt _ h; omega)
    obtain ⟨e1, e2, e3, e4, e5, e6, e7⟩ := push_ok (x := ptA P x) b1 (by omega) ⟨by omega, by omega⟩ (fun h => by have := hlt _ h; omega)
    obtain ⟨tc, htc⟩ : ∃ tc : Nat, one (ptC P x) = (tc : Int) := ⟨(one (ptC P x)).toNat, by omega⟩
    obtain ⟨tb, htb⟩ : ∃ tb : Nat, one (ptB P x) = (tb : Int) := ⟨(one (ptB P x)).toNat, by omega⟩
    -- the parts, one after another
    obtain ⟨A1, A2, l1, f1, f2, f3, f4, f5, f6, f7, f8, f9, f10⟩ := ihO (ptA P x) hA _ _ (t + tc + tb) l e1 (by omega) (fun h => by have := e5 h; rw [show (f_77 (f_77 Lq (ptC P x)) (ptB P x) 18 3).toNat = t + tc + tb by omega] at this; exact this) (by omega) (by omega) (by omega)
    obtain ⟨B1, B2, l2, g1, g2, g3, g4, g5, g6, g7, g8, g9, g10⟩ := ihO (ptB P x) hB _ _ (t + tc) l1 f5 (by omega) (fun h => by
      have hb := hlt _ h
      have := b5 h
      rw [show (f_77 Lq (ptC P x) 18 3).toNat = t + tc by omega] at this
      rw [f7 _ (by omega), e4 _ (by omega)]
      exact this) (by omega) (by omega) (by omega)
    obtain ⟨C1, C2, l3, i1, i2, i3, i4, i5, i6, i7, i8, i9, i10⟩ := ihO (ptC P x) hC _ _ t l2 g5 (by omega) (fun h => by
      have hb := hlt _ h
      have := c5 h
      rw [show (Lq 18 3).toNat = t by omega] at this
      rw [g7 _ (by omega), f7 _ (by omega), e4 _ (by omega), b4 _ (by omega)]
      exact this) (by omega) (by omega) (by omega)
    refine ⟨C1, C2, l3, by rw [s1, f1, g1, i1], by rw [u1, f2, g2, i2], by omega, by omega, i5, i6, fun j hj => ?_, ?_, ?_, fun h => ?_⟩
    · rw [i7 j hj, g7 j (by omega), f7 j (by omega), e4 j (by omega), b4 j (by omega), c4 j (by omega), s4]
    · exact fS_trans s5 (fS_trans c6 (fS_trans b6 (fS_trans e6 (fS_trans f8 (fS_trans g8 i8)))))
    · exact fS_trans u5 (fS_trans c7 (fS_trans b7 (fS_trans e7 (fS_trans f9 (fS_trans g9 i9)))))
    · obtain ⟨h1, kC⟩ := i10 h
      obtain ⟨h2, kB⟩ := g10 h1
      obtain ⟨h3, kA⟩ := f10 h2
      rw [e3, b3, c3, s3] at h3
      have hv0 : v = 0 := by
        by_cases q : v = 0
        · exact q
        · rw [if_neg q] at h3
          by_cases q2 : M 18 4 < 202
          · rw [if_pos q2] at h3; omega
          · rw [if_neg q2] at h3; omega
      rw [if_pos hv0] at h3
      refine ⟨h3, Or.inr fun y hy hay => ?_⟩
      rw [Int.toNat_natCast] at hay
      obtain ⟨k, hay⟩ := hay
      rcases an_down hI k y hy hay with z | ⟨z1, z2⟩ | ⟨z1, z2⟩ | ⟨z1, z2⟩
      · subst z
        rw [hv, hv0]
      · exact (kA.resolve_left (by omega)) y hy z2
      · exact (kB.resolve_left (by omega)) y hy z2
      · exact (kC.resolve_left (by omega)) y hy z2
end FdA
