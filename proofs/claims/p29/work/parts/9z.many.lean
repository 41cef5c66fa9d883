/-! how many; a chain of causes; a new object -/
section PaoA
variable {M N O X Y Z W : yM} {a K n m p c c' i j e : Nat} {x y z t mo de v w d x1 x2 x3 x4 : Int} {b : Prop}
theorem A_17_4 (h : f_31 K c M = some (X, c')) : f_17 K c M 4 = some (X, c', X 18 4) := by
  unfold f_17
  rw [h]; rfl
theorem f14_0 (h : fresh X) (hz : 0 < X 18 4) : f_14 X x = 0 := by
  have := h.2.1
  unfold f_14
  rw [rel5 ⟨by omega, by omega⟩ ⟨by decide, by decide⟩, cond_df (by omega)]
theorem f15_0 (h : fresh X) (h4 : 1 ≤ X 1 4 ∧ X 1 4 ≤ 8) (hz : 0 < X 18 4) : ∀ (n j : Nat), j ≤ 8 → 8 - j < n → f_15_4 K n X 0 (j : Int) = some 0
  | 0, j, _, q => absurd q (by omega)
  | n + 1, j, hj, q => by
    by_cases hc : X 1 4 ≤ (j : Int)
    · rw [f_15_4, rel3 ⟨by omega, by omega⟩ ⟨by omega, by omega⟩, cond_dt hc]
    · rw [f_15_4, rel3 ⟨by omega, by omega⟩ ⟨by omega, by omega⟩, cond_df hc, f14_0 h hz, ylet_eq]
      exact f15_0 h h4 hz n (j + 1) (by omega) (by omega)
theorem A_17_5 (h : fst' K M) (hK : 100 ≤ K) (hz : 0 < M 18 4) : f_17 K c M 5 = some (M, c, 0) := by
  have h4 := h.1.1.2.1
  unfold f_17
  rw [f31_0 h.2.1]
  show ((f_15_4 K K M 0 ((0 : Nat) : Int)).bind fun t8 => some t8).bind _ = _
  rw [f15_0 (fresh_of h.1 h.2.1) h4 hz K 0 (by omega) (by omega)]
  rfl
theorem A_17_6 (h : fst' K M) (hz : 0 < M 18 4) : f_17 K c M 6 = some (M, c, 0) := by
  have := (fresh_of h.1 h.2.1).2.1
  unfold f_17
  rw [f31_0 h.2.1]
  show (cond (yrel 5 (M 18 4) 0) (some (M 21 1)) (some 0)).bind _ = _
  rw [rel5 ⟨by omega, by omega⟩ ⟨by decide, by decide⟩, cond_df (by omega)]
  rfl
/-- a chain of causes ends among those that are kept -/
theorem c_end (hr : rnd M 196 mo de) {k kp : Nat} (hkp : kp ≤ 40) (hk1 : (kp : Int) ≤ M 197 0) (hk2 : kp = 40 ∨ (kp : Int) = M 197 0) : ∀ i : Nat, ac_it (fun a => M (196 + a)) i (k : Int) = -1 ∨ 0 ≤ ac_it (fun a => M (196 + a)) i (k : Int) := by
  intro i
  induction i with
  | zero => right; show (0 : Int) ≤ (k : Int); omega
  | succ i ih =>
    rw [ac_succ]
    by_cases hK : ac_K (fun a => M (196 + a)) (ac_it (fun a => M (196 + a)) i (k : Int))
    · rw [ac_in hK]
      obtain ⟨h0, h4, h1⟩ := hK
      have := (hr.2.2.2.2.2.1.2 (ac_it (fun a => M (196 + a)) i (k : Int)).toNat (by omega) (by show _ < M (196 + 1) 0; have : ac_it (fun a => M (196 + a)) i (k : Int) < M (196 + 1) 0 := h1; omega)).1
      rcases this with q | q
      · left; exact q
      · right; exact q.1
    · left; exact ac_out hK
theorem c_end2 (hr : rnd M 196 mo de) {k kp : Nat} (hkp : kp ≤ 40) (hk2 : kp = 40 ∨ (kp : Int) = M 197 0) : ¬ ac_K (fun a => M (196 + a)) (ac_it (fun a => M (196 + a)) kp (k : Int)) :=
  ac_short hr.2.2.2.2.2.1.1 fun x hx => by
    obtain ⟨h0, h4, h1⟩ := hx
    have h1' : x < M 197 0 := h1
    omega
end PaoA
