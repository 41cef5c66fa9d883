/-! the checksum, twice -/
/-- both end, with one answer -/
def bo (o o' : Option Int) : Prop := ∃ d, o = some d ∧ o' = some d
/-- two objects that are read alike -/
def dA (M N : yM) : Prop :=
  (∀ a j, (1 ≤ a ∧ a ≤ 17) ∨ (196 ≤ a ∧ a ≤ 305) → N a j = M a j) ∧ (N 0 7 = M 0 7 ∧ N 0 9 = M 0 9 ∧ N 0 10 = M 0 10 ∧ N 0 11 = M 0 11) ∧ (M 18 4 = 0 ∧ N 18 4 = 0) ∧ (N 21 1 = M 21 1 ∧ ∀ k : Nat, (k : Int) < 4 * M 21 1 → N 22 k = M 22 k) ∧ (tI M ∧ tI N) ∧
  pI M ∧ (∀ p : Nat, (p : Int) < M 1 4 → sP True p M N ∧ (0 ≤ M (24 + 9 * p) 0 ∧ M (24 + 9 * p) 0 ≤ 300) ∧ (0 ≤ M (24 + 9 * p) 11 ∧ 0 ≤ M (24 + 9 * p) 12) ∧ M (24 + 9 * p) 11 + M (24 + 9 * p) 12 ≤ M 21 1) ∧
  (rJ M 196 ∧ M 197 1 ≤ 3000)
section PahA
variable {M N X Y : yM} {a K n m p c c' : Nat} {x y z x1 x2 x3 x4 x5 x6 x7 x8 x9 y1 k : Int}
theorem bo_ret : bo (some x) (some x) := ⟨x, rfl, rfl⟩
theorem bo_bind {o o' : Option Int} {A A' : Int → Option Int} (h : bo o o') (hk : ∀ t, bo (A t) (A' t)) : bo (Option.bind o A) (Option.bind o' A') := by
  obtain ⟨d, rfl, rfl⟩ := h
  exact hk d
theorem bo_cond {t : Bool} {o1 o2 o3 o4 : Option Int} (h1 : t = true → bo o1 o3) (h2 : t = false → bo o2 o4) : bo (cond t o1 o2) (cond t o3 o4) := by
  cases t with
  | true => exact h1 rfl
  | false => exact h2 rfl
theorem dA_rd (h : dA M N) (ha : (1 ≤ a ∧ a ≤ 17) ∨ (196 ≤ a ∧ a ≤ 305)) : yrd N a k = yrd M a k := rd_cg (funext fun j => h.1 a j ha)
theorem dA_at (h : dA M N) (ha : (1 ≤ a ∧ a ≤ 17) ∨ (196 ≤ a ∧ a ≤ 305)) (j : Nat) : N a j = M a j := h.1 a j ha
theorem d_7_62 (h : dA M N) (h9 : 0 ≤ x9 ∧ x9 ≤ 6) : ∀ (n : Nat) (y x : Int), 0 ≤ x → x ≤ 7 → 7 - x < n → bo (f_7_62 K n M x3 197 y x9 x) (f_7_62 K n N x3 197 y x9 x)
  | 0, _, _, _, _, q => absurd q (by omega)
  | n + 1, y, x, h0, h1, h2 => by
    rw [f_7_62, f_7_62, rel3 ⟨by omega, by omega⟩ ⟨by omega, by omega⟩]
    by_cases hc : x9 ≤ x
    · rw [cond_dt hc, cond_dt hc]; exact bo_ret
    · rw [cond_df hc, cond_df hc]
      have e : f_149 N 197 x3 x = f_149 M 197 x3 x := dA_rd h (by decide)
      rw [e, ylet_eq, ylet_eq]
      exact d_7_62 h h9 n _ _ (by omega) (by omega) (by omega)
theorem d_7_35 (hK : 100000 ≤ K) (h : dA M N) (h7 : 0 ≤ x7 ∧ x7 ≤ 3000) (h6 : 0 ≤ yrd M 202 x3 ∧ yrd M 202 x3 ≤ 6) : ∀ (n : Nat) (y x8 x : Int), 0 ≤ x → x ≤ 3001 → 3001 - x < n → bo (f_7_35 K n M x3 197 y x7 x8 x) (f_7_35 K n N x3 197 y x7 x8 x)
  | 0, _, _, _, _, _, q => absurd q (by omega)
  | n + 1, y, x8, x, h0, h1, h2 => by
    rw [f_7_35, f_7_35, rel3 ⟨by omega, by omega⟩ ⟨by omega, by omega⟩]
    by_cases hc : x7 ≤ x
    · rw [cond_dt hc, cond_dt hc, ylet_eq, ylet_eq, dA_rd (a := 197 + 5) h (by decide)]
      exact d_7_62 h h6 K _ _ (by decide) (by decide) (by omega)
    · rw [cond_df hc, cond_df hc, dA_rd (a := 197 + 10) h (by decide), dA_rd (a := 197 + 11) h (by decide)]
      exact d_7_35 hK h h7 h6 n _ _ _ (by omega) (by omega) (by omega)
theorem d_7_8 (hK : 100000 ≤ K) (h : dA M N) (h7 : 0 ≤ yrd M 204 x3 ∧ yrd M 204 x3 ≤ 3000) (h6 : 0 ≤ yrd M 202 x3 ∧ yrd M 202 x3 ≤ 6) : ∀ (n : Nat) (y x : Int), 0 ≤ x → x ≤ 5 → 5 - x < n → bo (f_7_8 K n M x3 197 y x) (f_7_8 K n N x3 197 y x)
  | 0, _, _, _, _, q => absurd q (by omega)
  | n + 1, y, x, h0, h1, h2 => by
    rw [f_7_8, f_7_8, rel4 ⟨by omega, by omega⟩ ⟨by decide, by decide⟩]
    by_cases hc : 4 < x
    · rw [cond_dt hc, cond_dt hc, dA_rd (a := 197 + 7) h (by decide), dA_rd (a := 197 + 8) h (by decide)]
      exact d_7_35 hK h h7 h6 K _ _ _ (by decide) (by decide) (by omega)
    · rw [cond_df hc, cond_df hc]
      have e : f_148 N 197 x3 x = f_148 M 197 x3 x := by
        unfold f_148
        rw [dA_rd (a := 197 + 1) h (by decide), dA_rd (a := 197 + 4) h (by decide), dA_rd (a := 197 + 2) h (by decide), dA_rd (a := 197 + 7) h (by decide), dA_rd (a := 197 + 5) h (by decide)]
      rw [e]
      exact d_7_8 hK h h7 h6 n _ _ (by omega) (by omega) (by omega)
theorem sum_ge {g : Nat → Int} (hg : ∀ i, 0 ≤ g i) {j : Nat} : ∀ n, j < n → g j ≤ a_sum g n
  | 0, h => absurd h (Nat.not_lt_zero j)
  | n + 1, h => by
    have h1 := hg n
    show g j ≤ a_sum g n + g n
    by_cases e : j = n
    · subst e
      have h2 : ∀ m, 0 ≤ a_sum g m := fun m => by
        induction m with
        | zero => exact Int.le_refl 0
        | succ m ih =>
          show 0 ≤ a_sum g m + g m
          have := hg m
          omega
      have := h2 j
      omega
    · have := sum_ge (j := j) hg n (by omega)
      omega
theorem d_7 (hK : 100000 ≤ K) (h : dA M N) (hx : 0 ≤ x ∧ x < 40 ∧ x < M 197 0) : bo (f_7 K M y1 x) (f_7 K N y1 x) := by
  obtain ⟨hJ, h3⟩ := h.2.2.2.2.2.2.2
  obtain ⟨j1, j2, j3, j4, j5, j6⟩ := hJ
  obtain ⟨k1, k2, k3⟩ := j3 x.toNat (by omega) (by show (x.toNat : Int) < M 197 0; omega)
  have e7 : yrd M 204 x = M 204 x.toNat := rd_in hx.1 (by show x < ((40 : Nat) : Int); omega)
  have e5 : yrd M 202 x = M 202 x.toNat := rd_in hx.1 (by show x < ((40 : Nat) : Int); omega)
  have hs : M 204 x.toNat ≤ r_sum M 196 := by
    have hg : ∀ i : Nat, 0 ≤ (fun k : Nat => if k < 40 ∧ (k : Int) < M (196 + 1) 0 then M (196 + 8) k else 0) i := fun i => by
      dsimp only
      by_cases q : i < 40 ∧ (i : Int) < M (196 + 1) 0
      · rw [if_pos q]; exact (j3 i q.1 q.2).2.2
      · rw [if_neg q]; exact Int.le_refl 0
    have h1 := sum_ge hg (j := x.toNat) 40 (by omega)
    rw [if_pos ⟨by omega, by show (x.toNat : Int) < M 197 0; omega⟩] at h1
    have h2 : a_sum (fun k : Nat => if k < 40 ∧ (k : Int) < M (196 + 1) 0 then M (196 + 8) k else 0) 40 = r_sum M 196 := sum_same fun i hi => by
      by_cases q : (i : Int) < M (196 + 1) 0
      · rw [if_pos ⟨hi, q⟩, if_pos q]
      · rw [if_neg (fun r => q r.2), if_neg q]
    rw [h2] at h1
    exact h1
  have h31 : M (196 + 1) 1 ≤ 3000 := h3
  refine d_7_8 hK h ?_ ?_ K _ _ (by decide) (by decide) (by omega)
  · rw [e7]; exact ⟨k3, by omega⟩
  · rw [e5]
    have k1' : 1 ≤ M 202 x.toNat ∧ M 202 x.toNat ≤ 6 := k1
    omega
theorem d_9_67 (h : dA M N) : ∀ (n : Nat) (y x : Int), 0 ≤ x → x ≤ 14 → 14 - x < n → bo (f_9_67 K n M y x) (f_9_67 K n N y x)
  | 0, _, _, _, _, q => absurd q (by omega)
  | n + 1, y, x, h0, h1, h2 => by
    rw [f_9_67, f_9_67, rel3 ⟨by omega, by omega⟩ ⟨by decide, by decide⟩]
    by_cases hc : 14 ≤ x
    · rw [cond_dt hc, cond_dt hc]; exact bo_ret
    · rw [cond_df hc, cond_df hc]
      have e : f_25 N x = f_25 M x := by
        unfold f_25
        rw [dA_rd (a := 196 + 15) h (by decide), dA_rd (a := 196 + 14) h (by decide)]
      rw [e]
      exact d_9_67 h n _ _ (by omega) (by omega) (by omega)
theorem d_9_65 (hK : 100000 ≤ K) (h : dA M N) : bo (f_9_65 K M y) (f_9_65 K N y) := d_9_67 h K _ _ (by decide) (by decide) (by omega)
theorem d_9_49 (hK : 100000 ≤ K) (h : dA M N) : ∀ (n : Nat) (y x : Int), 0 ≤ x → x ≤ 40 → 40 - x < n → bo (f_9_49 K n M y x) (f_9_49 K n N y x)
  | 0, _, _, _, _, q => absurd q (by omega)
  | n + 1, y, x, h0, h1, h2 => by
    have e : f_146 N 197 x = f_146 M 197 x := by
      unfold f_146
      rw [dA_at (a := 197) h (by decide)]
    rw [f_9_49, f_9_49, rel3 ⟨by omega, by omega⟩ ⟨by decide, by decide⟩]
    by_cases hc : 40 ≤ x
    · rw [cond_dt hc, cond_dt hc]; exact d_9_65 hK h
    · rw [cond_df hc, cond_df hc, e]
      refine bo_cond (fun _ => d_9_65 hK h) fun hz => bo_bind (d_7 hK h ⟨h0, by omega, ?_⟩) fun t => d_9_49 hK h n _ _ (by omega) (by omega) (by omega)
      have hj := h.2.2.2.2.2.2.2.1.1
      have hj : 0 ≤ M 197 0 := hj
      unfold f_146 at hz
      rw [rel2 ⟨by omega, by omega⟩ ⟨by decide, by decide⟩, cond_df (by omega), rel3 ⟨by omega, by omega⟩ ⟨by decide, by decide⟩, cond_df (by omega)] at hz
      rcases Int.lt_or_le x (M 197 0) with q | q
      · exact q
      · rw [show yrel 3 x (M 197 0) = true from by rw [rel3 ⟨by omega, by omega⟩ ⟨by omega, by omega⟩]; exact decide_eq_true q] at hz
        exact absurd hz (by decide)
theorem d_9_29 (h : dA M N) {ih ih' : yM → Int → Int → Int → Option Int} (hi : ∀ y, bo (ih M y x5 (x6 + 1)) (ih' N y x5 (x6 + 1))) : ∀ (n : Nat) (y x : Int), 0 ≤ x → x ≤ 3 → 3 - x < n → bo (f_9_29 K ih n M y x5 x6 x) (f_9_29 K ih' n N y x5 x6 x)
  | 0, _, _, _, _, q => absurd q (by omega)
  | n + 1, y, x, h0, h1, h2 => by
    rw [f_9_29, f_9_29, rel4 ⟨by omega, by omega⟩ ⟨by decide, by decide⟩]
    by_cases hc : 2 < x
    · rw [cond_dt hc, cond_dt hc]; exact hi y
    · rw [cond_df hc, cond_df hc]
      have e : f_96 N 196 x6 x = f_96 M 196 x6 x := dA_rd (a := 196 + 18) h (by decide)
      rw [e]
      exact d_9_29 h hi n _ _ (by omega) (by omega) (by omega)
theorem d_9_24 (hK : 100000 ≤ K) (h : dA M N) (h5 : yw x5 ≤ 40) : ∀ (n : Nat) (y x : Int), 0 ≤ x → x ≤ 40 → 40 - x < n → bo (f_9_24 K n M y x5 x) (f_9_24 K n N y x5 x)
  | 0, _, _, _, _, q => absurd q (by omega)
  | n + 1, y, x, h0, h1, h2 => by
    have hx : yw x = x := sm_w ⟨by omega, by omega⟩
    rw [f_9_24, f_9_24, yrel3, hx]
    by_cases hc : yw x5 ≤ x
    · rw [cond_dt hc, cond_dt hc]
      exact d_9_49 hK h K _ _ (by decide) (by decide) (by omega)
    · rw [cond_df hc, cond_df hc]
      exact d_9_29 h (fun y => d_9_24 hK h h5 n _ _ (by omega) (by omega) (by omega)) K _ _ (by decide) (by decide) (by omega)
theorem d_9_4 (hK : 100000 ≤ K) (h : dA M N) : ∀ (n : Nat) (y x : Int), 0 ≤ x → x ≤ 10 → 10 - x < n → bo (f_9_4 K n M y x) (f_9_4 K n N y x)
  | 0, _, _, _, _, q => absurd q (by omega)
  | n + 1, y, x, h0, h1, h2 => by
    rw [f_9_4, f_9_4, rel4 ⟨by omega, by omega⟩ ⟨by decide, by decide⟩]
    by_cases hc : 9 < x
    · have e : f_86 N 196 = f_86 M 196 := by
        unfold f_86
        rw [dA_rd (a := 196 + 13) h (by decide)]
      rw [cond_dt hc, cond_dt hc, e]
      refine d_9_24 hK h ?_ K _ _ (by decide) (by decide) (by omega)
      unfold f_86
      rw [ylet_eq]
      cases hz : yrel 3 (yrd M (196 + 13) 4) 40 with
      | true => exact Int.le_refl 40
      | false =>
        have h3 := of_decide_eq_false (yrel3 ▸ hz)
        have e40 : yw 40 = 40 := rfl
        rw [cond_false]
        omega
    · rw [cond_df hc, cond_df hc]
      have e : f_30 N x = f_30 M x := by
        unfold f_30
        rw [dA_rd (a := 196 + 13) h (by decide), h.2.1.2.2.2]
      rw [e]
      exact d_9_4 hK h n _ _ (by omega) (by omega) (by omega)
theorem d_9 (hK : 100000 ≤ K) (h : dA M N) : bo (f_9 K M y) (f_9 K N y) := d_9_4 hK h K _ _ (by decide) (by decide) (by omega)
end PahA
