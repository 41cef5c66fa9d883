/-! the checksum, twice: all of it -/
/-- both end, with one checksum; the spare machine alone has changed -/
def bt (M N : yM) (c c' : Nat) (o o' : Option (yM × Nat × Int)) : Prop := ∃ X Y d, o = some (X, c, d) ∧ o' = some (Y, c', d) ∧ (∀ a i, ¬ (306 ≤ a ∧ a < 416) → X a i = M a i) ∧ ∀ a i, ¬ (306 ≤ a ∧ a < 416) → Y a i = N a i
section PajA
variable {M N X Y : yM} {a K n m p c c' i j : Nat} {x y z x1 x2 x3 x4 x5 x6 x7 x8 x9 y1 k : Int} {b : Prop}
theorem bt_bind {o o' : Option Int} {A A' : Int → Option (yM × Nat × Int)} (h : bo o o') (hk : ∀ t, bt M N c c' (A t) (A' t)) : bt M N c c' (Option.bind o A) (Option.bind o' A') := by
  obtain ⟨d, rfl, rfl⟩ := h
  exact hk d
theorem s_154 (hX : ∀ a i, ¬ (306 ≤ a ∧ a < 416) → X a i = M a i) (hY : ∀ a i, ¬ (306 ≤ a ∧ a < 416) → Y a i = N a i) (ht : ∀ j, j < 9 → Y 319 j = X 319 j) : ∀ (n : Nat) (y x : Int), 0 ≤ x → x ≤ 9 → 9 - x < n → bt M N c c' (f_6_154 K n X c y x) (f_6_154 K n Y c' y x)
  | 0, _, _, _, _, q => absurd q (by omega)
  | n + 1, y, x, h0, h1, h2 => by
    rw [f_6_154, f_6_154, rel4 ⟨by omega, by omega⟩ ⟨by decide, by decide⟩]
    by_cases hc : 8 < x
    · rw [cond_dt hc, cond_dt hc]
      exact ⟨X, Y, y, rfl, rfl, hX, hY⟩
    · have e : yrd Y (306 + 13) x = yrd X (306 + 13) x := by
        rw [rd_in h0 (by show x < ((9 : Nat) : Int); omega), rd_in h0 (by show x < ((9 : Nat) : Int); omega)]
        exact ht x.toNat (by omega)
      rw [cond_df hc, cond_df hc, e]
      exact s_154 hX hY ht n _ _ (by omega) (by omega) (by omega)
/-- the spare runs tell the same -/
def spR (K : Nat) (M N : yM) : Prop := ∃ X Y, f_89 K M 306 150 4 = some X ∧ f_89 K N 306 150 4 = some Y ∧ (∀ a i, ¬ (306 ≤ a ∧ a < 416) → X a i = M a i) ∧ (∀ a i, ¬ (306 ≤ a ∧ a < 416) → Y a i = N a i) ∧ ∀ j, j < 9 → Y 319 j = X 319 j
theorem s_114 (hK : 100000 ≤ K) (h : dA M N) (hs : spR K M N) : ∀ (n : Nat) (y : Int), 0 < n → bt M N c c' (f_6_114 K n M c y 0) (f_6_114 K n N c' y 0)
  | 0, _, q => absurd q (by omega)
  | n + 1, y, _ => by
    obtain ⟨X, Y, e1, e2, e3, e4, e5⟩ := hs
    rw [f_6_114, f_6_114, h.2.2.1.1, h.2.2.1.2, show yrel 3 0 0 = true from rfl, cond_true, cond_true, show yrel 1 0 0 = false from rfl]
    refine bt_bind (d_9 hK h) fun t => ?_
    rw [cond_false, cond_false, e1, e2]
    exact s_154 e3 e4 e5 K _ _ (by decide) (by decide) (by omega)
theorem s_69 (hK : 100000 ≤ K) (h : dA M N) {ih ih' : yM → Nat → Int → Int → Option (yM × Nat × Int)} (hi : ∀ y, bt M N c c' (ih M c y (x3 + 1)) (ih' N c' y (x3 + 1))) : ∀ (n : Nat) (y x : Int), 4 ≤ x → x ≤ 8 → 8 - x < n → bt M N c c' (f_6_69 K ih n M c y x3 x) (f_6_69 K ih' n N c' y x3 x)
  | 0, _, _, _, _, q => absurd q (by omega)
  | n + 1, y, x, h0, h1, h2 => by
    rw [f_6_69, f_6_69, rel4 ⟨by omega, by omega⟩ ⟨by decide, by decide⟩]
    by_cases hc : 7 < x
    · rw [cond_dt hc, cond_dt hc, dA_at (a := 1) h (by decide)]
      refine bt_bind (d_111 hK h) fun t => ?_
      rw [ylet_eq, ylet_eq]
      refine bt_bind (d_111 hK h) fun t2 => ?_
      exact hi _
    · rw [cond_df hc, cond_df hc, d_28 h]
      exact s_69 hK h hi n _ _ (by omega) (by omega) (by omega)
theorem s_62 (hK : 100000 ≤ K) (h : dA M N) (hs : spR K M N) : ∀ (n : Nat) (y x : Int), 0 ≤ x → x ≤ 90 → 90 - x < n → bt M N c c' (f_6_62 K n M c y x) (f_6_62 K n N c' y x)
  | 0, _, _, _, _, q => absurd q (by omega)
  | n + 1, y, x, h0, h1, h2 => by
    have hnn := h.2.2.2.2.2.1.1
    rw [f_6_62, f_6_62, dA_at (a := 1) h (by decide), rel3 ⟨by omega, by omega⟩ ⟨by omega, by omega⟩]
    by_cases hc : M 1 7 ≤ x
    · rw [cond_dt hc, cond_dt hc]
      exact s_114 hK h hs K _ (by omega)
    · rw [cond_df hc, cond_df hc]
      exact s_69 hK h (fun y => s_62 hK h hs n _ _ (by omega) (by omega) (by omega)) K _ _ (by decide) (by decide) (by omega)
theorem s_48 (hK : 100000 ≤ K) (h : dA M N) (hs : spR K M N) : ∀ (n : Nat) (y : Int) (j : Nat), (j : Int) ≤ M 1 4 → M 1 4 - j < n → bt M N c c' (f_6_48 K n M c y (j : Int)) (f_6_48 K n N c' y (j : Int))
  | 0, _, _, _, q => absurd q (by omega)
  | n + 1, y, j, h1, h2 => by
    have h8 := h.2.2.2.2.2.1.2.1
    rw [f_6_48, f_6_48, dA_at (a := 1) h (by decide), rel3 ⟨by omega, by omega⟩ ⟨by omega, by omega⟩]
    by_cases hc : M 1 4 ≤ (j : Int)
    · rw [cond_dt hc, cond_dt hc]
      exact s_62 hK h hs K _ _ (by decide) (by decide) (by omega)
    · rw [cond_df hc, cond_df hc]
      exact bt_bind (d_8 hK h (by omega)) fun t => s_48 hK h hs n _ (j + 1) (by omega) (by omega)
theorem s_29 (hK : 100000 ≤ K) (h : dA M N) {ih ih' : yM → Nat → Int → Int → Option (yM × Nat × Int)} (hi : ∀ y, bt M N c c' (ih M c y (x3 + 1)) (ih' N c' y (x3 + 1))) : ∀ (n : Nat) (y x : Int), 0 ≤ x → x ≤ 5 → 5 - x < n → bt M N c c' (f_6_29 K ih n M c y x3 x) (f_6_29 K ih' n N c' y x3 x)
  | 0, _, _, _, _, q => absurd q (by omega)
  | n + 1, y, x, h0, h1, h2 => by
    rw [f_6_29, f_6_29, rel4 ⟨by omega, by omega⟩ ⟨by decide, by decide⟩]
    by_cases hc : 4 < x
    · rw [cond_dt hc, cond_dt hc]
      exact hi _
    · rw [cond_df hc, cond_df hc]
      refine bt_bind (d_26 hK h) fun t => ?_
      exact s_29 hK h hi n _ _ (by omega) (by omega) (by omega)
theorem s_22 (hK : 100000 ≤ K) (h : dA M N) (hs : spR K M N) : ∀ (n : Nat) (y x : Int), 0 ≤ x → x ≤ 13 → 13 - x < n → bt M N c c' (f_6_22 K n M c y x) (f_6_22 K n N c' y x)
  | 0, _, _, _, _, q => absurd q (by omega)
  | n + 1, y, x, h0, h1, h2 => by
    have hnk := h.2.2.2.2.2.1.2.2.1
    rw [f_6_22, f_6_22, dA_at (a := 1) h (by decide), rel3 ⟨by omega, by omega⟩ ⟨by omega, by omega⟩]
    by_cases hc : M 1 0 ≤ x
    · rw [cond_dt hc, cond_dt hc]
      exact s_48 hK h hs K _ 0 (by have := h.2.2.2.2.2.1.2.1; omega) (by have := h.2.2.2.2.2.1.2.1; omega)
    · rw [cond_df hc, cond_df hc]
      exact s_29 hK h (fun y => s_22 hK h hs n _ _ (by omega) (by omega) (by omega)) K _ _ (by decide) (by decide) (by omega)
theorem s_06 (hK : 100000 ≤ K) (h : dA M N) (hs : spR K M N) : ∀ (n : Nat) (y x : Int), 0 ≤ x → x ≤ 10 → 10 - x < n → bt M N c c' (f_6_6 K n M c y x) (f_6_6 K n N c' y x)
  | 0, _, _, _, _, q => absurd q (by omega)
  | n + 1, y, x, h0, h1, h2 => by
    rw [f_6_6, f_6_6, rel4 ⟨by omega, by omega⟩ ⟨by decide, by decide⟩]
    by_cases hc : 9 < x
    · rw [cond_dt hc, cond_dt hc]
      exact s_22 hK h hs K _ _ (by decide) (by decide) (by omega)
    · rw [cond_df hc, cond_df hc]
      refine bt_bind (d_27 hK h) fun t => ?_
      exact s_06 hK h hs n _ _ (by omega) (by omega) (by omega)
/-- the checksums of two objects that are read alike, and not stale -/
theorem dig2 (hK : 1000000 ≤ K) (h : dA M N) (hs : spR K M N) (hM : M 0 8 = 0) (hN : N 0 8 = 0) : bt M N c c' (f_6 K c M) (f_6 K c' N) := by
  have e : ∀ {Q : yM} {c : Nat}, Q 0 8 = 0 → f_31 K c Q = some (Q, c) := fun {Q c} q => by
    unfold f_31
    rw [q]; rfl
  unfold f_6
  rw [e hM, e hN]
  exact s_06 (by omega) h hs K _ _ (by decide) (by decide) (by omega)
end PajA
