/-! what is told is a program; what follows from it is derived -/
/-- n is a part of w -/
def isP (M : yM) (w n : Nat) : Prop := (M 7 w = 11 ∧ M 8 w = (n : Int)) ∨ ((M 7 w = 4 ∨ M 7 w = 5 ∨ M 7 w = 6 ∨ M 7 w = 11 ∨ M 7 w = 12 ∨ M 7 w = 13) ∧ M 9 w = (n : Int)) ∨ ((M 7 w = 4 ∨ M 7 w = 5 ∨ M 7 w = 11 ∨ M 7 w = 12) ∧ M 10 w = (n : Int))
/-- a set of the classes that there are -/
def sB (k : Int) (v : Int) : Prop := ysm v ∧ ∀ x : Nat, k ≤ (x : Int) → x < 32 → tb v x = false
/-- what is told is a program -/
def pI (M : yM) : Prop :=
  (0 ≤ M 1 7 ∧ M 1 7 ≤ 90) ∧ (1 ≤ M 1 4 ∧ M 1 4 ≤ 8) ∧ (5 ≤ M 1 0 ∧ M 1 0 ≤ 13) ∧ (∀ n : Nat, (n : Int) < M 1 7 → nO M n) ∧ (∀ n : Nat, M 1 7 ≤ (n : Int) → M 7 n = 0) ∧
  (∀ n : Nat, (n : Int) < M 1 7 → M 11 n = -1 ∨ ((n : Int) < M 11 n ∧ M 11 n < M 1 7 ∧ isP M (M 11 n).toNat n)) ∧
  (∀ p : Nat, (p : Int) < M 1 4 → M 6 p = -1 ∨ (0 ≤ M 6 p ∧ M 6 p < M 1 7 ∧ M 7 (M 6 p).toNat ≠ 12 ∧ M 11 (M 6 p).toNat = -1 ∧ M 12 (M 6 p).toNat = (p : Int))) ∧
  (∀ n : Nat, (n : Int) < M 1 7 → M 12 n = -1 ∨ (0 ≤ M 12 n ∧ M 12 n < M 1 4 ∧ M 6 (M 12 n).toNat = (n : Int))) ∧
  (∀ p : Nat, (p : Int) < M 1 4 → sB (M 1 0) (M 5 p)) ∧ (∀ c : Nat, (c : Int) < M 1 0 → sB (M 1 0) (M 4 c))
section TlA
variable {M M' : yM} {n w : Nat} {x : Int}
theorem pI_cg (h : ∀ a j, 1 ≤ a ∧ a ≤ 12 → M' a j = M a j) (hI : pI M) : pI M' := by
  have e : ∀ a, 1 ≤ a ∧ a ≤ 12 → M' a = M a := fun a ha => funext fun j => h a j ha
  unfold pI isP nO prt prc at *
  rw [e 1 (by decide), e 4 (by decide), e 5 (by decide), e 6 (by decide), e 7 (by decide), e 8 (by decide), e 9 (by decide), e 10 (by decide), e 11 (by decide), e 12 (by decide)]
  exact hI
theorem rd7 {a : Nat} (ha : 7 ≤ a ∧ a ≤ 17) (hn : n < 90) : yrd M a (n : Int) = M a n := rd_P (P := M) (fun _ _ _ => rfl) ha hn
theorem rd7x {a : Nat} (ha : 7 ≤ a ∧ a ≤ 17) (h0 : 0 ≤ x) (hx : x < 90) : yrd M a x = M a x.toNat := by
  have := rd7 (M := M) (n := x.toNat) ha (by omega)
  rw [Int.toNat_of_nonneg h0] at this
  exact this
theorem wr7 {a : Nat} {v : Int} (ha : 7 ≤ a ∧ a ≤ 17) (hn : n < 90) : ywr M a (n : Int) v = yU M a n v := by
  have h90 : yln a = 90 := by
    rcases (show a = 7 ∨ a = 8 ∨ a = 9 ∨ a = 10 ∨ a = 11 ∨ a = 12 ∨ a = 13 ∨ a = 14 ∨ a = 15 ∨ a = 16 ∨ a = 17 by omega) with rfl | rfl | rfl | rfl | rfl | rfl | rfl | rfl | rfl | rfl | rfl <;> rfl
  rw [wr_in (by omega) (by rw [h90]; omega), Int.toNat_natCast]
/-- what comes from around -/
def d1 (M : yM) (n : Nat) : Prop := (M 11 n = -1 → M 13 n = M 12 n ∧ M 14 n = -1 ∧ M 15 n = -1) ∧ ∀ w : Nat, M 11 n = (w : Int) → M 13 n = M 13 w ∧ M 14 n = (if M 7 w = 12 ∧ M 9 w = (n : Int) then (w : Int) else M 14 w) ∧ M 15 n = (if M 7 w = 6 then (w : Int) else M 15 w)
theorem nO_sm (h : nO M n) : ysm (M 7 n) := ⟨by have := h.1; omega, by have := h.1; omega⟩
theorem f115_ok (hI : pI M) (hn : (n : Int) < M 1 7) : ∃ v13 v14 v15, f_115 M (n : Int) = yU (yU (yU M 13 n v13) 14 n v14) 15 n v15 ∧ (M 11 n = -1 → v13 = M 12 n ∧ v14 = -1 ∧ v15 = -1) ∧ ∀ w : Nat, M 11 n = (w : Int) → v13 = M 13 w ∧ v14 = (if M 7 w = 12 ∧ M 9 w = (n : Int) then (w : Int) else M 14 w) ∧ v15 = (if M 7 w = 6 then (w : Int) else M 15 w) := by
  obtain ⟨i1, i2, i3, i4, i5, i6, i7, i8, i9, i10⟩ := hI
  have hn9 : n < 90 := by omega
  have h11 := i6 n hn
  unfold f_115
  rw [ylet_eq, rd7 ⟨by decide, by decide⟩ hn9, rel1 ⟨by omega, by omega⟩ ⟨by decide, by decide⟩]
  by_cases q : M 11 n = -1
  · rw [decide_eq_true q, Bool.not_true, cond_false, ylet_eq, ylet_eq, ylet_eq, rd7 ⟨by decide, by decide⟩ hn9, wr7 ⟨by decide, by decide⟩ hn9, wr7 ⟨by decide, by decide⟩ hn9, wr7 ⟨by decide, by decide⟩ hn9]
    exact ⟨M 12 n, -1, -1, rfl, fun _ => ⟨rfl, rfl, rfl⟩, fun w hw => absurd hw (by omega)⟩
  · obtain ⟨w, hw⟩ : ∃ w : Nat, M 11 n = (w : Int) := ⟨(M 11 n).toNat, by omega⟩
    have hw9 : w < 90 := by omega
    have hnw : n ≠ w := by omega
    rw [decide_eq_false q, Bool.not_false, cond_true, ylet_eq, ylet_eq, hw, rd7 ⟨by decide, by decide⟩ hw9, rd7 ⟨by decide, by decide⟩ hw9, wr7 ⟨by decide, by decide⟩ hn9]
    have hOw := i4 w (by omega)
    have s7 := nO_sm hOw
    have key : ∀ (v14 : Int), f_115_58 (yU M 13 n (M 13 w)) (n : Int) (w : Int) (M 7 w) v14 (n : Int) = yU (yU (yU M 13 n (M 13 w)) 14 n v14) 15 n (if M 7 w = 6 then (w : Int) else M 15 w) := by
      intro v14
      unfold f_115_58
      rw [ylet_eq, wr7 ⟨by decide, by decide⟩ hn9, rel1 s7 ⟨by decide, by decide⟩]
      by_cases h6 : M 7 w = 6
      · rw [decide_eq_true h6, Bool.not_true, cond_false, if_pos h6]
        unfold f_115_71
        rw [ylet_eq, wr7 ⟨by decide, by decide⟩ hn9]
      · rw [decide_eq_false h6, Bool.not_false, cond_true, if_neg h6]
        unfold f_115_71
        rw [ylet_eq, rd7 ⟨by decide, by decide⟩ hw9, wr7 ⟨by decide, by decide⟩ hn9, yU_c (by decide), yU_c (by decide)]
    have key2 : f_115_54 (yU M 13 n (M 13 w)) (n : Int) (w : Int) (M 7 w) (n : Int) = yU (yU (yU M 13 n (M 13 w)) 14 n (M 14 w)) 15 n (if M 7 w = 6 then (w : Int) else M 15 w) := by
      unfold f_115_54
      rw [rd7 ⟨by decide, by decide⟩ hw9, key, yU_c (by decide)]
    rw [rel1 s7 ⟨by decide, by decide⟩]
    by_cases h12 : M 7 w = 12
    · rw [decide_eq_true h12, Bool.not_true, cond_false, rd7 ⟨by decide, by decide⟩ hw9, yU_c (by decide)]
      have h9w : prt M w (M 9 w) := (hOw.2.2.2.2.2.2.2.2.2.1 h12).2.1
      have h9r := h9w.1
      have h9s := h9w.2.1
      rw [rel1 ⟨by omega, by omega⟩ ⟨by omega, by omega⟩]
      by_cases h9 : M 9 w = (n : Int)
      · rw [h9, decide_eq_true rfl, Bool.not_true, cond_false, key]
        refine ⟨_, _, _, rfl, fun q2 => absurd q2 (by omega), fun w' hw' => ?_⟩
        have e : w' = w := by omega
        subst e
        exact ⟨rfl, (if_pos ⟨h12, h9⟩).symm, rfl⟩
      · rw [decide_eq_false (fun e => h9 e.symm), Bool.not_false, cond_true, key2]
        refine ⟨_, _, _, rfl, fun q2 => absurd q2 (by omega), fun w' hw' => ?_⟩
        have e : w' = w := by omega
        subst e
        exact ⟨rfl, (if_neg fun q3 => h9 q3.2).symm, rfl⟩
    · rw [decide_eq_false h12, Bool.not_false, cond_true, key2]
      refine ⟨_, _, _, rfl, fun q2 => absurd q2 (by omega), fun w' hw' => ?_⟩
      have e : w' = w := by omega
      subst e
      exact ⟨rfl, (if_neg fun q3 => h12 q3.1).symm, rfl⟩
theorem l115 {N : Nat} (nn : Int) : ∀ (j k : Nat) (M : yM), pI M → M 1 7 = nn → (j : Int) ≤ nn → j < k → (∀ n : Nat, j ≤ n → (n : Int) < nn → d1 M n) → ∃ M1, f_114_5 N k M ((j : Int) - 1) = f_114_14 N N M1 0 ∧ (∀ a i, a < 13 ∨ 15 < a → M1 a i = M a i) ∧ (∀ (a i : Nat), nn ≤ (i : Int) → M1 a i = M a i) ∧ ∀ n : Nat, (n : Int) < nn → d1 M1 n
  | j, 0, _, _, _, _, h, _ => absurd h (by omega)
  | 0, k + 1, M, _, _, _, _, hd => by
    rw [f_114_5, show yrel 2 (((0 : Nat) : Int) - 1) 0 = true from rfl, cond_true]
    exact ⟨M, rfl, fun _ _ _ => rfl, fun _ _ _ => rfl, fun n hn => hd n (by omega) hn⟩
  | j + 1, k + 1, M, hI, hnn, hj, hk, hd => by
    have hr := hI.1
    obtain ⟨v13, v14, v15, e, h1, h2⟩ := f115_ok (n := j) hI (by omega)
    rw [f_114_5, rel2 ⟨by omega, by omega⟩ ⟨by decide, by decide⟩, cond_df (by omega), ylet_eq, show ((j + 1 : Nat) : Int) - 1 = (j : Int) by omega, e, show (j : Int) + -1 = (j : Int) - 1 by omega]
    have g : ∀ a i, a < 13 ∨ 15 < a ∨ i ≠ j → yU (yU (yU M 13 j v13) 14 j v14) 15 j v15 a i = M a i := fun a i h => by
      rw [yU_ne (by omega), yU_ne (by omega), yU_ne (by omega)]
    have g13 : yU (yU (yU M 13 j v13) 14 j v14) 15 j v15 13 j = v13 := by rw [yU_c (by decide), yU_c (by decide), yU_at]
    have g14 : yU (yU (yU M 13 j v13) 14 j v14) 15 j v15 14 j = v14 := by rw [yU_c (by decide), yU_at]
    have g15 : yU (yU (yU M 13 j v13) 14 j v14) 15 j v15 15 j = v15 := by rw [yU_at]
    have hI2 := pI_cg (M' := yU (yU (yU M 13 j v13) 14 j v14) 15 j v15) (fun a i h => g a i (by omega)) hI
    obtain ⟨M1, q1, q2, q3, q4⟩ := l115 (N := N) nn j k _ hI2 (by rw [g _ _ (by omega)]; exact hnn) (by omega) (by omega) (fun n hn1 hn2 => by
      by_cases hnj : n = j
      · subst hnj
        refine ⟨fun q => ?_, fun w hw => ?_⟩
        · rw [g _ _ (by omega)] at q
          rw [g13, g14, g15, g _ _ (by omega)]
          exact h1 q
        · rw [g _ _ (by omega)] at hw
          have := hI.2.2.2.2.2.1 n (by omega)
          rw [g13, g14, g15, g 13 w (by omega), g 14 w (by omega), g 15 w (by omega), g 7 w (by omega), g 9 w (by omega)]
          exact h2 w hw
      · obtain ⟨p1, p2⟩ := hd n (by omega) hn2
        refine ⟨fun q => ?_, fun w hw => ?_⟩
        · rw [g _ _ (by omega)] at q
          rw [g _ _ (by omega), g _ _ (by omega), g _ _ (by omega), g _ _ (by omega)]
          exact p1 q
        · rw [g _ _ (by omega)] at hw
          have := hI.2.2.2.2.2.1 n (by omega)
          rw [g 13 n (by omega), g 14 n (by omega), g 15 n (by omega), g 13 w (by omega), g 14 w (by omega), g 15 w (by omega), g 7 w (by omega), g 9 w (by omega)]
          exact p2 w hw)
    exact ⟨M1, q1, fun a i h => by rw [q2 a i h, g a i (by omega)], fun a i h => by rw [q3 a i h, g a i (by omega)], q4⟩
end TlA
