/-! the checksum, twice: procedures, nodes, all -/
section PaiA
variable {M N X Y : yM} {a K n m p c c' i j : Nat} {x y z x1 x2 x3 x4 x5 x6 x7 x8 x9 y1 k : Int}
theorem d_14 (h : dA M N) (hp : (p : Int) < M 1 4) : f_14 N (p : Int) = M (24 + 9 * p) 0 ∧ f_14 M (p : Int) = M (24 + 9 * p) 0 := by
  have h8 := h.2.2.2.2.2.1.2.1
  unfold f_14
  rw [h.2.2.1.1, h.2.2.1.2, show yrel 5 0 0 = true from rfl, cond_true, cond_true, ypz_id (by omega), (h.2.2.2.2.2.2.1 p hp).1.1]
  exact ⟨rfl, rfl⟩
theorem d_32 (h : dA M N) (hp : (p : Int) < M 1 4) : f_32 N (p : Int) = M (24 + 9 * p) 12 ∧ f_32 M (p : Int) = M (24 + 9 * p) 12 := by
  have h8 := h.2.2.2.2.2.1.2.1
  unfold f_32
  rw [h.2.2.1.1, h.2.2.1.2, show yrel 5 0 0 = true from rfl, cond_true, cond_true, ypz_id (by omega), ((h.2.2.2.2.2.2.1 p hp).1.2.2.2.2.2 trivial).2.2.1]
  exact ⟨rfl, rfl⟩
theorem d_29 (h : dA M N) (hp : (p : Int) < M 1 4) : f_29 N (p : Int) x = f_29 M (p : Int) x := by
  have e108 : f_108 N (p : Int) = f_108 M (p : Int) := by
    unfold f_108 f_109
    rw [dA_rd (a := 6) h (by decide), dA_rd (a := 16) h (by decide)]
  unfold f_29
  rw [dA_rd (a := 5) h (by decide), dA_rd (a := 6) h (by decide), e108, (d_14 h hp).1, (d_14 h hp).2, (d_32 h hp).1, (d_32 h hp).2, dA_rd (a := 196 + 17) h (by decide)]
theorem d_43 (h : dA M N) (hp : (p : Int) < M 1 4) (hi : (i : Int) < M (24 + 9 * p) 0) : f_43 N (24 + 9 * p) (i : Int) x = f_43 M (24 + 9 * p) (i : Int) x := by
  have h8 := h.2.2.2.2.2.1.2.1
  obtain ⟨s1, s2, -⟩ := h.2.2.2.2.2.2.1 p hp
  have e : ∀ c, 1 ≤ c → c ≤ 5 → yrd N (24 + 9 * p + c) (i : Int) = yrd M (24 + 9 * p + c) (i : Int) := fun c c1 c5 => by
    have hl : yln (24 + 9 * p + c) = 300 := ln_c (by omega) ⟨c1, by omega⟩
    rw [rd_in (by omega) (by rw [hl]; omega), rd_in (by omega) (by rw [hl]; omega), Int.toNat_natCast]
    exact s1.2.2.1 i hi c c1 c5
  have e7 : yrd N (24 + 9 * p + 7) (i : Int) = yrd M (24 + 9 * p + 7) (i : Int) := by
    have hl : yln (24 + 9 * p + 7) = 300 := ln_c (by omega) ⟨by decide, by decide⟩
    rw [rd_in (by omega) (by rw [hl]; omega), rd_in (by omega) (by rw [hl]; omega), Int.toNat_natCast]
    exact s1.2.1 i (by omega)
  unfold f_43
  rw [e 1 (by decide) (by decide), e 2 (by decide) (by decide), e 3 (by decide) (by decide), e 4 (by decide) (by decide), e7]
theorem d_T (h : dA M N) (h0 : 0 ≤ k) (hk : k < 4 * M 21 1) : yrdT N k = yrdT M k := by
  obtain ⟨⟨i1, i2, i3, i4, i5⟩, ⟨j1, j2, j3, j4, j5⟩⟩ := h.2.2.2.2.1
  have e1 := h.2.2.2.1.1
  unfold yrdT
  rw [yw_of (x := k) (by omega) (by omega), if_pos (by omega), if_pos (by omega)]
  exact h.2.2.2.1.2 k.toNat (by omega)
theorem d_8_63 (h : dA M N) (hp : (p : Int) < M 1 4) {ih ih' : yM → Int → Nat → Int → Int → Option Int} (h9 : 0 ≤ x9 ∧ x9 < M (24 + 9 * p) 12) (hi : ∀ y, bo (ih M y (24 + 9 * p) x8 (x9 + 1)) (ih' N y (24 + 9 * p) x8 (x9 + 1))) : ∀ (n : Nat) (y x : Int), 0 ≤ x → x ≤ 4 → 4 - x < n → bo (f_8_63 K ih n M y (24 + 9 * p) x8 x9 x) (f_8_63 K ih' n N y (24 + 9 * p) x8 x9 x)
  | 0, _, _, _, _, q => absurd q (by omega)
  | n + 1, y, x, h0, h1, h2 => by
    rw [f_8_63, f_8_63, rel4 ⟨by omega, by omega⟩ ⟨by decide, by decide⟩]
    by_cases hc : 3 < x
    · rw [cond_dt hc, cond_dt hc]; exact hi y
    · obtain ⟨s1, s2, s3, s4⟩ := h.2.2.2.2.2.2.1 p hp
      rw [cond_df hc, cond_df hc, (s1.2.2.2.2.2 trivial).2.1, d_T h (by omega) (by omega)]
      exact d_8_63 h hp h9 hi n _ _ (by omega) (by omega) (by omega)
theorem d_8_58 (hK : 100000 ≤ K) (h : dA M N) (hp : (p : Int) < M 1 4) : ∀ (n : Nat) (y x : Int), 0 ≤ x → x ≤ M (24 + 9 * p) 12 → M (24 + 9 * p) 12 - x < n → bo (f_8_58 K n M y (24 + 9 * p) (M (24 + 9 * p) 12) x) (f_8_58 K n N y (24 + 9 * p) (M (24 + 9 * p) 12) x)
  | 0, _, _, _, _, q => absurd q (by omega)
  | n + 1, y, x, h0, h1, h2 => by
    obtain ⟨s1, s2, s3, s4⟩ := h.2.2.2.2.2.2.1 p hp
    have hI := h.2.2.2.2.1.1.2.1
    rw [f_8_58, f_8_58, rel3 ⟨by omega, by omega⟩ ⟨by omega, by omega⟩]
    by_cases hc : M (24 + 9 * p) 12 ≤ x
    · rw [cond_dt hc, cond_dt hc]; exact bo_ret
    · rw [cond_df hc, cond_df hc]
      exact d_8_63 h hp ⟨h0, by omega⟩ (fun y => d_8_58 hK h hp n _ _ (by omega) (by omega) (by omega)) K _ _ (by decide) (by decide) (by omega)
theorem d_8_35 (h : dA M N) (hp : (p : Int) < M 1 4) {ih ih' : yM → Int → Int → Nat → Int → Int → Option Int} (h8 : 0 ≤ x8 ∧ x8 < M (24 + 9 * p) 0) (hi : ∀ y, bo (ih M x3 y (24 + 9 * p) x7 (x8 + 1)) (ih' N x3 y (24 + 9 * p) x7 (x8 + 1))) : ∀ (n : Nat) (y x : Int), 0 ≤ x → x ≤ 5 → 5 - x < n → bo (f_8_35 K ih n M x3 y (24 + 9 * p) x7 x8 x) (f_8_35 K ih' n N x3 y (24 + 9 * p) x7 x8 x)
  | 0, _, _, _, _, q => absurd q (by omega)
  | n + 1, y, x, h0, h1, h2 => by
    rw [f_8_35, f_8_35, rel4 ⟨by omega, by omega⟩ ⟨by decide, by decide⟩]
    by_cases hc : 4 < x
    · rw [cond_dt hc, cond_dt hc]; exact hi y
    · have e := d_43 (i := x8.toNat) (x := x) h hp (by omega)
      rw [show ((x8.toNat : Nat) : Int) = x8 by omega] at e
      rw [cond_df hc, cond_df hc, e]
      exact d_8_35 h hp h8 hi n _ _ (by omega) (by omega) (by omega)
theorem d_8_30 (hK : 100000 ≤ K) (h : dA M N) (hp : (p : Int) < M 1 4) : ∀ (n : Nat) (y x : Int), 0 ≤ x → x ≤ M (24 + 9 * p) 0 → M (24 + 9 * p) 0 - x < n → bo (f_8_30 K n M (p : Int) y (24 + 9 * p) (M (24 + 9 * p) 0) x) (f_8_30 K n N (p : Int) y (24 + 9 * p) (M (24 + 9 * p) 0) x)
  | 0, _, _, _, _, q => absurd q (by omega)
  | n + 1, y, x, h0, h1, h2 => by
    obtain ⟨s1, s2, s3, s4⟩ := h.2.2.2.2.2.2.1 p hp
    have hI := h.2.2.2.2.1.1.2.1
    rw [f_8_30, f_8_30, rel3 ⟨by omega, by omega⟩ ⟨by omega, by omega⟩]
    by_cases hc : M (24 + 9 * p) 0 ≤ x
    · rw [cond_dt hc, cond_dt hc, (d_32 h hp).1, (d_32 h hp).2, ylet_eq, ylet_eq]
      exact d_8_58 hK h hp K _ _ (by decide) s3.2 (by omega)
    · rw [cond_df hc, cond_df hc]
      exact d_8_35 h hp ⟨h0, by omega⟩ (fun y => d_8_30 hK h hp n _ _ (by omega) (by omega) (by omega)) K _ _ (by decide) (by decide) (by omega)
theorem d_8_4 (hK : 100000 ≤ K) (h : dA M N) (hp : (p : Int) < M 1 4) : ∀ (n : Nat) (y x : Int), 0 ≤ x → x ≤ 6 → 6 - x < n → bo (f_8_4 K n M (p : Int) y x) (f_8_4 K n N (p : Int) y x)
  | 0, _, _, _, _, q => absurd q (by omega)
  | n + 1, y, x, h0, h1, h2 => by
    obtain ⟨s1, s2, s3, s4⟩ := h.2.2.2.2.2.2.1 p hp
    have h8 := h.2.2.2.2.2.1.2.1
    rw [f_8_4, f_8_4, rel4 ⟨by omega, by omega⟩ ⟨by decide, by decide⟩]
    by_cases hc : 5 < x
    · rw [cond_dt hc, cond_dt hc, (d_14 h hp).1, (d_14 h hp).2, ypz_id (by omega), ylet_eq, ylet_eq]
      exact d_8_30 hK h hp K _ _ (by decide) s2.1 (by omega)
    · rw [cond_df hc, cond_df hc, d_29 h hp]
      exact d_8_4 hK h hp n _ _ (by omega) (by omega) (by omega)
theorem d_8 (hK : 100000 ≤ K) (h : dA M N) (hp : (p : Int) < M 1 4) : bo (f_8 K M y (p : Int)) (f_8 K N y (p : Int)) := d_8_4 hK h hp K _ _ (by decide) (by decide) (by omega)
theorem d_112_4 (h : dA M N) : ∀ (n : Nat) (y x : Int), 0 ≤ x → x ≤ 90 → 90 - x < n → bo (f_112_4 K n M x1 y x) (f_112_4 K n N x1 y x)
  | 0, _, _, _, _, q => absurd q (by omega)
  | n + 1, y, x, h0, h1, h2 => by
    have hnn := h.2.2.2.2.2.1.1
    rw [f_112_4, f_112_4, dA_at (a := 1) h (by decide), rel3 ⟨by omega, by omega⟩ ⟨by omega, by omega⟩]
    by_cases hc : M 1 7 ≤ x
    · rw [cond_dt hc, cond_dt hc]; exact bo_ret
    · rw [cond_df hc, cond_df hc, dA_rd (a := 7) h (by decide), dA_rd (a := 8) h (by decide), dA_rd (a := 13) h (by decide)]
      have ih : ∀ y, bo (f_112_27 K (f_112_4 K n) M x1 y x) (f_112_27 K (f_112_4 K n) N x1 y x) := fun y => d_112_4 h n _ _ (by omega) (by omega) (by omega)
      exact bo_cond (fun _ => ih _) fun _ => bo_cond (fun _ => ih _) fun _ => bo_cond (fun _ => ih _) fun _ => ih _
theorem d_26 (hK : 100000 ≤ K) (h : dA M N) : bo (f_26 K M x1 x2) (f_26 K N x1 x2) := by
  unfold f_26
  rw [dA_rd (a := 2) h (by decide), dA_rd (a := 3) h (by decide), dA_rd (a := 4) h (by decide), dA_rd (a := 196 + 1 + 3) h (by decide)]
  refine bo_cond (fun _ => bo_ret) fun _ => bo_cond (fun _ => bo_ret) fun _ => bo_cond (fun _ => bo_ret) fun _ => bo_cond (fun _ => ?_) fun _ => bo_ret
  exact bo_bind (d_112_4 h K _ _ (by decide) (by decide) (by omega)) fun t => bo_ret
theorem d_116_7 (h : dA M N) : ∀ (n : Nat) (x3 x : Int), 0 ≤ x → x ≤ 90 → x < n → bo (f_116_7 K n M x2 x3 x) (f_116_7 K n N x2 x3 x)
  | 0, _, _, q0, _, q => absurd q (by omega)
  | n + 1, x3, x, h0, h1, h2 => by
    rw [f_116_7, f_116_7, dA_rd (a := 8) h (by decide), dA_rd (a := 10) h (by decide), f120_cg (M := M) (M' := N) (fun j => dA_at h (by decide) j)]
    refine bo_cond (fun _ => bo_ret) fun _ => ?_
    rw [rel5 ⟨by omega, by omega⟩ ⟨by decide, by decide⟩]
    by_cases hc : x ≤ 0
    · rw [cond_dt hc, cond_dt hc]; exact bo_ret
    · rw [cond_df hc, cond_df hc]
      exact bo_cond (fun _ => d_116_7 h n _ _ (by omega) (by omega) (by omega)) fun _ => bo_ret
theorem d_111_12 (hK : 100000 ≤ K) (h : dA M N) : ∀ (n : Nat) (x3 x : Int), 0 ≤ x → x ≤ 90 → x < n → bo (f_111_12 K n M x2 x3 x) (f_111_12 K n N x2 x3 x)
  | 0, _, _, q0, _, q => absurd q (by omega)
  | n + 1, x3, x, h0, h1, h2 => by
    rw [f_111_12, f_111_12, rel5 ⟨by omega, by omega⟩ ⟨by decide, by decide⟩]
    by_cases hc : x ≤ 0
    · rw [cond_dt hc, cond_dt hc]; exact bo_ret
    · rw [cond_df hc, cond_df hc, ylet_eq, ylet_eq, dA_rd (a := 11) h (by decide), dA_rd (a := 7) h (by decide), dA_rd (a := 9) h (by decide)]
      have ih : ∀ v s0, bo (f_111_42 K (f_111_12 K n) M x2 x v s0) (f_111_42 K (f_111_12 K n) N x2 x v s0) := fun v s0 => bo_cond (fun _ => d_111_12 hK h n _ _ (by omega) (by omega) (by omega)) fun _ => bo_ret
      refine bo_cond (fun _ => bo_cond (fun _ => ih _ _) fun _ => bo_cond (fun _ => ih _ _) fun _ => bo_bind ?_ fun t => ih _ _) fun _ => bo_ret
      unfold f_116
      rw [dA_rd (a := 10) h (by decide)]
      exact d_116_7 h K _ _ (by decide) (by decide) (by omega)
theorem d_111 (hK : 100000 ≤ K) (h : dA M N) : bo (f_111 K M x1 x2) (f_111 K N x1 x2) := by
  unfold f_111
  rw [dA_rd (a := 13) h (by decide)]
  exact bo_cond (fun _ => d_111_12 hK h K _ _ (by decide) (by decide) (by omega)) fun _ => bo_ret
theorem d_28 (h : dA M N) : f_28 N x1 x2 = f_28 M x1 x2 := by
  unfold f_28
  rw [dA_rd (a := 7) h (by decide), dA_rd (a := 8) h (by decide), dA_rd (a := 9) h (by decide), dA_rd (a := 10) h (by decide), dA_rd (a := 13) h (by decide), dA_rd (a := 16) h (by decide), dA_rd (a := 17) h (by decide), dA_rd (a := 196 + 16) h (by decide)]
theorem d_113_4 (h : dA M N) : ∀ (n : Nat) (y x : Int), 0 ≤ x → x ≤ 90 → 90 - x < n → bo (f_113_4 K n M y x) (f_113_4 K n N y x)
  | 0, _, _, _, _, q => absurd q (by omega)
  | n + 1, y, x, h0, h1, h2 => by
    have hnn := h.2.2.2.2.2.1.1
    rw [f_113_4, f_113_4, dA_at (a := 1) h (by decide), rel3 ⟨by omega, by omega⟩ ⟨by omega, by omega⟩]
    by_cases hc : M 1 7 ≤ x
    · rw [cond_dt hc, cond_dt hc]; exact bo_ret
    · rw [cond_df hc, cond_df hc, dA_rd (a := 13) h (by decide)]
      have ih : ∀ y, bo (f_113_4 K n M y (x + 1)) (f_113_4 K n N y (x + 1)) := fun y => d_113_4 h n _ _ (by omega) (by omega) (by omega)
      exact bo_cond (fun _ => ih _) fun _ => ih _
theorem d_15_4 (h : dA M N) : ∀ (n : Nat) (y : Int) (j : Nat), (j : Int) ≤ M 1 4 → M 1 4 - j < n → bo (f_15_4 K n M y (j : Int)) (f_15_4 K n N y (j : Int))
  | 0, _, _, _, q => absurd q (by omega)
  | n + 1, y, j, h1, h2 => by
    have h8 := h.2.2.2.2.2.1.2.1
    rw [f_15_4, f_15_4, dA_at (a := 1) h (by decide), rel3 ⟨by omega, by omega⟩ ⟨by omega, by omega⟩]
    by_cases hc : M 1 4 ≤ (j : Int)
    · rw [cond_dt hc, cond_dt hc]; exact bo_ret
    · rw [cond_df hc, cond_df hc, (d_14 h (by omega)).1, (d_14 h (by omega)).2]
      exact d_15_4 h n _ (j + 1) (by omega) (by omega)
theorem d_27 (hK : 100000 ≤ K) (h : dA M N) : bo (f_27 K M x1) (f_27 K N x1) := by
  have h8 := h.2.2.2.2.2.1.2.1
  unfold f_27
  rw [dA_at (a := 1) h (by decide), dA_at (a := 1) h (by decide), dA_at (a := 1) h (by decide), h.2.2.1.1, h.2.2.1.2, h.2.2.2.1.1, h.2.1.1, h.2.1.2.1, h.2.1.2.2.1]
  refine bo_cond (fun _ => bo_ret) fun _ => bo_cond (fun _ => bo_ret) fun _ => bo_cond (fun _ => bo_ret) fun _ => bo_cond (fun _ => ?_) fun _ => bo_cond (fun _ => bo_ret) fun _ => bo_cond (fun _ => ?_) fun _ => bo_cond (fun _ => bo_cond (fun _ => bo_ret) fun _ => bo_ret) fun _ => bo_cond (fun _ => bo_ret) fun _ => bo_cond (fun _ => bo_ret) fun _ => bo_cond (fun _ => bo_ret) fun _ => bo_ret
  · exact bo_bind (d_113_4 h K _ _ (by decide) (by decide) (by omega)) fun t => bo_ret
  · exact bo_bind (d_15_4 h K _ 0 (by omega) (by omega)) fun t => bo_ret
end PaiA
