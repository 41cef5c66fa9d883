/-! what the law reads -/
section PanA
variable {M N O X Y Z W : yM} {a K n m p c c' i j e : Nat} {x y z t mo de v w d x1 x2 x3 x4 : Int} {b : Prop}
theorem A_21 (hj : j < 9) : f_21 M (j : Int) = some (M 209 j) := by
  unfold f_21
  rw [rel2 ⟨by omega, by omega⟩ ⟨by decide, by decide⟩, cond_df (by omega), rel5 ⟨by omega, by omega⟩ ⟨by decide, by decide⟩, cond_dt (by omega)]
  unfold f_30
  rw [rel1 ⟨by omega, by omega⟩ ⟨by decide, by decide⟩, decide_eq_false (by omega)]
  show some (yrd M 209 (j : Int)) = _
  rw [rd_in (by omega) (by show (j : Int) < ((9 : Nat) : Int); omega), Int.toNat_natCast]
theorem f146_1 (h : x < M 197 0) (hm : M 197 0 ≤ 1000000) (h0 : 0 ≤ x) (h4 : x < 40) : f_146 M (196 + 1) x = 1 := by
  unfold f_146
  show cond (yrel 2 x 0) 0 (cond (yrel 3 x 40) 0 (cond (yrel 3 x (M 197 0)) 0 1)) = 1
  rw [rel2 ⟨by omega, by omega⟩ ⟨by decide, by decide⟩, cond_df (by omega), rel3 ⟨by omega, by omega⟩ ⟨by decide, by decide⟩, cond_df (by omega), rel3 ⟨by omega, by omega⟩ ⟨by omega, by omega⟩, cond_df (by omega)]
theorem A_10_2 (h : x < M 197 0) (hm : M 197 0 ≤ 1000000) (h0 : 0 ≤ x) (h4 : x < 40) : f_10 M x 2 = some (M 199 x.toNat) := by
  unfold f_10
  rw [f146_1 h hm h0 h4]
  show some (yrd M 199 x) = _
  rw [rd_in h0 (by show x < ((3000 : Nat) : Int); omega)]
theorem A_10_0 (h : x < M 197 0) (hm : M 197 0 ≤ 1000000) (h0 : 0 ≤ x) (h4 : x < 40) : f_10 M x 0 = some (M 198 x.toNat) := by
  unfold f_10
  rw [f146_1 h hm h0 h4]
  show some (yrd M 198 x) = _
  rw [rd_in h0 (by show x < ((3000 : Nat) : Int); omega)]
theorem A_10_3 (h : x < M 197 0) (hm : M 197 0 ≤ 1000000) (h0 : 0 ≤ x) (h4 : x < 40) : f_10 M x 3 = some (M 204 x.toNat) := by
  unfold f_10
  rw [f146_1 h hm h0 h4]
  show some (yrd M 204 x) = _
  rw [rd_in h0 (by show x < ((40 : Nat) : Int); omega)]
theorem A_36 (h : x < M 197 0) (hm : M 197 0 ≤ 1000000) (h0 : 0 ≤ x) (h4 : x < 40) (h6 : 1 ≤ M 202 x.toNat ∧ M 202 x.toNat ≤ 6) : f_36 M x 0 = some (M 203 (6 * x.toNat)) := by
  unfold f_36
  rw [f146_1 h hm h0 h4]
  show cond (yrel 2 0 (yrd M 202 x)) (some (yrd M 203 (x * 6 + 0))) none = _
  rw [rd_in (a := 202) h0 (by show x < ((40 : Nat) : Int); omega), rel2 ⟨by decide, by decide⟩ ⟨by omega, by omega⟩, cond_dt (by omega), rd_in (by omega) (by show x * 6 + 0 < ((240 : Nat) : Int); omega), show (x * 6 + 0).toNat = 6 * x.toNat by omega]
theorem A_20_5 (h : fst' K M) (hp : 0 ≤ x ∧ x < M 1 4) : f_20 K c M x 5 = some (M, c, M 213 x.toNat) := by
  have := h.1.2.2.2.1
  unfold f_20
  rw [f119_1 h.1.1 hp, f31_0 h.2.1]
  show some (M, c, yrd M 213 x) = _
  rw [rd_in (by omega) (by show x < ((8 : Nat) : Int); omega)]
theorem A_20_2 (hI : pI M) (hp : 0 ≤ x ∧ x < M 1 4) (hX : f_31 K c M = some (X, c')) (h6 : X 6 x.toNat = -1 ∨ (0 ≤ X 6 x.toNat ∧ X 6 x.toNat < 90)) : f_20 K c M x 2 = some (X, c', cpt X (X 6 x.toNat)) := by
  have := hI.2.1
  unfold f_20
  rw [f119_1 hI hp, hX]
  show some (X, c', f_109 X (yrd X 6 x)) = _
  rw [rd_in (by omega) (by show x < ((8 : Nat) : Int); omega)]
  unfold f_109 cpt
  rcases h6 with q | q
  · rw [q]; rfl
  · rw [rel1 ⟨by omega, by omega⟩ ⟨by decide, by decide⟩, decide_eq_false (by omega), if_neg (by omega)]
    show some (X, c', yrd X 16 (X 6 x.toNat)) = _
    rw [rd_in q.1 (by show _ < ((90 : Nat) : Int); omega)]
theorem A_19_7 (h : fst' K M) (hp : 0 ≤ x ∧ x < M 1 7) : f_19 K c M x 7 = some (M, c, M 212 x.toNat) := by
  have := h.1.1.1
  unfold f_19
  rw [f118_1 h.1.1 hp, f31_0 h.2.1]
  show some (M, c, yrd M 212 x) = _
  rw [rd_in (by omega) (by show x < ((90 : Nat) : Int); omega)]
theorem A_19_4 (h : fst' K M) (hp : 0 ≤ x ∧ x < M 1 7) : f_19 K c M x 4 = some (M, c, M 13 x.toNat) := by
  have := h.1.1.1
  unfold f_19
  rw [f118_1 h.1.1 hp, f31_0 h.2.1]
  show some (M, c, yrd M 13 x) = _
  rw [rd_in (by omega) (by show x < ((90 : Nat) : Int); omega)]
/-- the links beneath one, from the first -/
theorem A_34_28 {ow : Nat → Nat} {li : Nat → Nat → Nat} {k : Nat} (h : r_ch M 196 ow li k) (hs : M 197 1 ≤ 3000) (hi : (i : Int) < M 204 k) (hc : M 204 k ≤ 3000) : ∀ (n j : Nat), j ≤ i → i - j < n → f_34_28 K n M (i : Int) (196 + 1) (li k j : Int) (j : Int) = some (M 207 (li k i))
  | 0, j, _, q => absurd q (by omega)
  | n + 1, j, hj, q => by
    obtain ⟨r1, r2, r3, r4⟩ := h
    have r3' : ∀ i : Nat, (i : Int) < M 204 k → (li k i : Int) < M 197 1 ∧ (M 207 (li k i) ≠ (k : Int) ∧ ysm (M 207 (li k i))) ∧ ow (li k i) = k := r3
    have l := (r3' j (by omega)).1
    rw [f_34_28, rel3 ⟨by omega, by omega⟩ ⟨by omega, by omega⟩]
    by_cases hq : (i : Int) ≤ j
    · rw [cond_dt hq]
      have e : j = i := by omega
      rw [e]
      show some (yrd M 207 (li k i : Int)) = _
      rw [← e]
      rw [rd_in (by omega) (by show _ < ((3000 : Nat) : Int); omega), Int.toNat_natCast]
    · rw [cond_df hq, ylet_eq]
      have e2 : M 208 (li k j) = (li k (j + 1) : Int) := r2 j (by show (j : Int) + 1 < M 204 k; omega)
      show f_34_28 K n M (i : Int) (196 + 1) (yrd M 208 (li k j : Int)) ((j : Int) + 1) = _
      rw [rd_in (by omega) (by show _ < ((3000 : Nat) : Int); omega), Int.toNat_natCast, e2]
      exact A_34_28 ⟨r1, r2, r3, r4⟩ hs hi hc n (j + 1) (by omega) (by omega)
theorem li_ge {k : Nat} {li : Nat → Nat → Nat} {q : Int} (h : ∀ i j : Nat, i < j → (j : Int) < q → li k i < li k j) : ∀ i : Nat, (i : Int) < q → i ≤ li k i
  | 0, _ => Nat.zero_le _
  | i + 1, hi => by
    have := li_ge h i (by omega)
    have := h i (i + 1) (by omega) hi
    omega
theorem A_34 (hK : 10000 ≤ K) (hr : rnd M 196 mo de) (h : x < M 197 0) (h0 : 0 ≤ x) (h4 : x < 40) (hi : (i : Int) < M 204 x.toNat) : ∃ v, f_34 K M x (i : Int) = some v ∧ v ≠ x ∧ ysm v := by
  obtain ⟨-, -, -, -, ⟨-, -, -, q1, -, q2⟩, -, hJ, -⟩ := hr
  have q1' : M 197 0 ≤ 1000000 := q1
  have q2' : M 197 1 ≤ 3000 := q2
  obtain ⟨ow, li, hl⟩ := hJ.2.2.2.2.2 q2
  have hl := hl x.toNat (by omega) (by show ((x.toNat : Nat) : Int) < M 197 0; omega)
  have l3 : ∀ i : Nat, (i : Int) < M 204 x.toNat → (li x.toNat i : Int) < M 197 1 ∧ (M 207 (li x.toNat i) ≠ (x.toNat : Int) ∧ ysm (M 207 (li x.toNat i))) ∧ ow (li x.toNat i) = x.toNat := hl.2.2.1
  have l4 : ∀ i j : Nat, i < j → (j : Int) < M 204 x.toNat → li x.toNat i < li x.toNat j := hl.2.2.2
  have hcn : M 204 x.toNat ≤ 3000 := by
    have e := li_ge l4 (M 204 x.toNat - 1).toNat (by omega)
    have e2 := (l3 (M 204 x.toNat - 1).toNat (by omega)).1
    omega
  refine ⟨M 207 (li x.toNat i), ?_, fun q => (l3 i hi).2.1.1 (by omega), (l3 i hi).2.1.2⟩
  unfold f_34
  rw [f146_1 h q1' h0 h4]
  have e5 : M 205 x.toNat = (li x.toNat 0 : Int) := (hl.1 (by show 0 < M 204 x.toNat; omega)).1
  show cond (yrel 2 (i : Int) 0) none (cond (yrel 2 (i : Int) (yrd M 204 x)) (ylet (yrd M 205 x) fun v4 => f_34_28 K K M (i : Int) (196 + 1) v4 0) none) = _
  rw [rel2 ⟨by omega, by omega⟩ ⟨by decide, by decide⟩, cond_df (by omega), rd_in (a := 204) h0 (by show x < ((40 : Nat) : Int); omega), rel2 ⟨by omega, by omega⟩ ⟨by omega, by omega⟩, cond_dt (by omega), rd_in (a := 205) h0 (by show x < ((40 : Nat) : Int); omega), ylet_eq, e5]
  exact A_34_28 hl q2' hi hcn K 0 (by omega) (by omega)
end PanA
