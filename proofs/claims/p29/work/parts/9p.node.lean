/-! a node more -/
def pA' (s a : Int) : Int := if s = 11 then a else -1
def pB' (s b : Int) : Int := if s = 4 ∨ s = 5 ∨ s = 6 ∨ s = 11 ∨ s = 12 ∨ s = 13 then b else -1
def pC' (s c : Int) : Int := if s = 4 ∨ s = 5 ∨ s = 11 ∨ s = 12 then c else -1
/-- nothing, or what can become a part -/
def frp (M : yM) (x : Int) : Prop := x = -1 ∨ ((0 ≤ x ∧ x < M 1 7) ∧ M 11 x.toNat = -1 ∧ M 12 x.toNat = -1)
/-- the parts of what is told -/
abbrev isQ (s a b c : Int) (j : Nat) : Prop := (j : Int) = pA' s a ∨ (j : Int) = pB' s b ∨ (j : Int) = pC' s c
/-- the numbers with a node more, but for its parts -/
def nM8 (M : yM) (n : Nat) (s a b c : Int) : yM := yU (yU (yU (yU (yU (yU (yU (yU M 0 8 1) 1 7 ((n : Int) + 1)) 7 n s) 8 n a) 9 n b) 10 n c) 11 n (-1)) 12 n (-1)
/-- the numbers with a node more -/
def nM (M : yM) (n : Nat) (s a b c : Int) : yM := fun i j => if i = 11 ∧ isQ s a b c j then (n : Int) else nM8 M n s a b c i j
section PaeA
variable {M N X Y : yM} {s a b c x p q v : Int} {n k i j : Nat}
theorem f134g (hn : n < 90) (s7 : ysm (M 7 n)) : f_134 M (n : Int) = ptA M n := by
  unfold f_134 ptA
  rw [rd7 ⟨by decide, by decide⟩ (by omega), rd7 ⟨by decide, by decide⟩ (by omega), rel1 s7 ⟨by decide, by decide⟩]
  by_cases q : M 7 n = 11
  · rw [decide_eq_true q, Bool.not_true, cond_false, if_pos q]
  · rw [decide_eq_false q, Bool.not_false, cond_true, if_neg q]
theorem f135g (hn : n < 90) (s7 : ysm (M 7 n)) : f_135 M (n : Int) = ptB M n := by
  have r : ∀ y : Int, ysm y → yrel 0 (M 7 n) y = decide (M 7 n = y) := fun y hy => rel0 s7 hy
  unfold f_135 ptB
  rw [rd7 ⟨by decide, by decide⟩ (by omega), rd7 ⟨by decide, by decide⟩ (by omega), r 4 ⟨by decide, by decide⟩, r (4 + 1) ⟨by decide, by decide⟩, r (4 + 1 + 1) ⟨by decide, by decide⟩, r (4 + 1 + 1 + 1) ⟨by decide, by decide⟩, r (4 + 1 + 1 + 1 + 1) ⟨by decide, by decide⟩, r (4 + 1 + 1 + 1 + 1 + 1) ⟨by decide, by decide⟩, r (4 + 1 + 1 + 1 + 1 + 1 + 1) ⟨by decide, by decide⟩, r (4 + 1 + 1 + 1 + 1 + 1 + 1 + 1) ⟨by decide, by decide⟩, r (4 + 1 + 1 + 1 + 1 + 1 + 1 + 1 + 1) ⟨by decide, by decide⟩, r (4 + 1 + 1 + 1 + 1 + 1 + 1 + 1 + 1 + 1) ⟨by decide, by decide⟩]
  by_cases q4 : M 7 n = 4
  · rw [cond_dt q4, if_pos (by omega)]
  by_cases q5 : M 7 n = 4 + 1
  · rw [cond_df q4, cond_dt q5, if_pos (by omega)]
  by_cases q6 : M 7 n = 4 + 1 + 1
  · rw [cond_df q4, cond_df q5, cond_dt q6, if_pos (by omega)]
  rw [cond_df q4, cond_df q5, cond_df q6]
  by_cases q7 : M 7 n = 4 + 1 + 1 + 1
  · rw [cond_dt q7, if_neg (by omega)]
  by_cases q8 : M 7 n = 4 + 1 + 1 + 1 + 1
  · rw [cond_df q7, cond_dt q8, if_neg (by omega)]
  by_cases q9 : M 7 n = 4 + 1 + 1 + 1 + 1 + 1
  · rw [cond_df q7, cond_df q8, cond_dt q9, if_neg (by omega)]
  by_cases q10 : M 7 n = 4 + 1 + 1 + 1 + 1 + 1 + 1
  · rw [cond_df q7, cond_df q8, cond_df q9, cond_dt q10, if_neg (by omega)]
  rw [cond_df q7, cond_df q8, cond_df q9, cond_df q10]
  by_cases q11 : M 7 n = 4 + 1 + 1 + 1 + 1 + 1 + 1 + 1
  · rw [cond_dt q11, if_pos (by omega)]
  by_cases q12 : M 7 n = 4 + 1 + 1 + 1 + 1 + 1 + 1 + 1 + 1
  · rw [cond_df q11, cond_dt q12, if_pos (by omega)]
  by_cases q13 : M 7 n = 4 + 1 + 1 + 1 + 1 + 1 + 1 + 1 + 1 + 1
  · rw [cond_df q11, cond_df q12, cond_dt q13, if_pos (by omega)]
  rw [cond_df q11, cond_df q12, cond_df q13, if_neg (by omega)]
theorem f136g (hn : n < 90) (s7 : ysm (M 7 n)) : f_136 M (n : Int) = ptC M n := by
  have r : ∀ y : Int, ysm y → yrel 0 (M 7 n) y = decide (M 7 n = y) := fun y hy => rel0 s7 hy
  unfold f_136 ptC
  rw [rd7 ⟨by decide, by decide⟩ (by omega), rd7 ⟨by decide, by decide⟩ (by omega), r 4 ⟨by decide, by decide⟩, r (4 + 1) ⟨by decide, by decide⟩, r (4 + 1 + 1) ⟨by decide, by decide⟩, r (4 + 1 + 1 + 1) ⟨by decide, by decide⟩, r (4 + 1 + 1 + 1 + 1) ⟨by decide, by decide⟩, r (4 + 1 + 1 + 1 + 1 + 1) ⟨by decide, by decide⟩, r (4 + 1 + 1 + 1 + 1 + 1 + 1) ⟨by decide, by decide⟩, r (4 + 1 + 1 + 1 + 1 + 1 + 1 + 1) ⟨by decide, by decide⟩, r (4 + 1 + 1 + 1 + 1 + 1 + 1 + 1 + 1) ⟨by decide, by decide⟩]
  by_cases q4 : M 7 n = 4
  · rw [cond_dt q4, if_pos (by omega)]
  by_cases q5 : M 7 n = 4 + 1
  · rw [cond_df q4, cond_dt q5, if_pos (by omega)]
  by_cases q6 : M 7 n = 4 + 1 + 1
  · rw [cond_df q4, cond_df q5, cond_dt q6, if_neg (by omega)]
  rw [cond_df q4, cond_df q5, cond_df q6]
  by_cases q7 : M 7 n = 4 + 1 + 1 + 1
  · rw [cond_dt q7, if_neg (by omega)]
  by_cases q8 : M 7 n = 4 + 1 + 1 + 1 + 1
  · rw [cond_df q7, cond_dt q8, if_neg (by omega)]
  by_cases q9 : M 7 n = 4 + 1 + 1 + 1 + 1 + 1
  · rw [cond_df q7, cond_df q8, cond_dt q9, if_neg (by omega)]
  by_cases q10 : M 7 n = 4 + 1 + 1 + 1 + 1 + 1 + 1
  · rw [cond_df q7, cond_df q8, cond_df q9, cond_dt q10, if_neg (by omega)]
  rw [cond_df q7, cond_df q8, cond_df q9, cond_df q10]
  by_cases q11 : M 7 n = 4 + 1 + 1 + 1 + 1 + 1 + 1 + 1
  · rw [cond_dt q11, if_pos (by omega)]
  by_cases q12 : M 7 n = 4 + 1 + 1 + 1 + 1 + 1 + 1 + 1 + 1
  · rw [cond_df q11, cond_dt q12, if_pos (by omega)]
  rw [cond_df q11, cond_df q12, if_neg (by omega)]
theorem frp_S (h : uS M x) : frp M x := Or.inr ⟨h.1, h.2.2.1, h.2.2.2⟩
theorem frp_C (h : uC M x) : frp M x := Or.inr ⟨h.1, h.2.2.1, h.2.2.2⟩
theorem uN_s (h : uN M s a b c) : 0 ≤ s ∧ s ≤ 18 := by
  rcases h with ⟨h, -⟩ | ⟨h, -⟩ | ⟨h, -⟩ | ⟨h, -⟩ | ⟨h, -⟩ | ⟨h, -⟩ | ⟨h, -⟩ | ⟨h, -⟩ | ⟨h, -⟩ | ⟨h, -⟩ | ⟨h, -⟩ | ⟨h, -⟩ <;> omega
theorem uN_p (h : uN M s a b c) : frp M (pA' s a) ∧ frp M (pB' s b) ∧ frp M (pC' s c) := by
  have n1 : frp M (-1) := Or.inl rfl
  have ct : ∀ {x : Int}, x = -1 ∨ uS M x → frp M x := fun h => h.elim Or.inl frp_S
  have cc : ∀ {x : Int}, x = -1 ∨ uC M x → frp M x := fun h => h.elim Or.inl frp_C
  have A0 : s ≠ 11 → frp M (pA' s a) := fun q => by unfold pA'; rw [if_neg q]; exact n1
  have B0 : ¬ (s = 4 ∨ s = 5 ∨ s = 6 ∨ s = 11 ∨ s = 12 ∨ s = 13) → frp M (pB' s b) := fun q => by unfold pB'; rw [if_neg q]; exact n1
  have C0 : ¬ (s = 4 ∨ s = 5 ∨ s = 11 ∨ s = 12) → frp M (pC' s c) := fun q => by unfold pC'; rw [if_neg q]; exact n1
  have A1 : s = 11 → frp M a → frp M (pA' s a) := fun q r => by unfold pA'; rw [if_pos q]; exact r
  have B1 : (s = 4 ∨ s = 5 ∨ s = 6 ∨ s = 11 ∨ s = 12 ∨ s = 13) → frp M b → frp M (pB' s b) := fun q r => by unfold pB'; rw [if_pos q]; exact r
  have C1 : (s = 4 ∨ s = 5 ∨ s = 11 ∨ s = 12) → frp M c → frp M (pC' s c) := fun q r => by unfold pC'; rw [if_pos q]; exact r
  rcases h with ⟨h, h1, h2, h3⟩ | ⟨h, h1, h2, h3⟩ | ⟨h, h1, h2, h3, h4⟩ | ⟨h, h1, h2, h3, h4⟩ | ⟨h, h1, h2, h3⟩ | ⟨h, h1, h2, h3⟩ | ⟨h, h1, h2, h3⟩ | ⟨h, h1, h2, h3⟩ | ⟨h, h1, h2, h3, h4, h5⟩ | ⟨h, h1, h2, h3⟩ | ⟨h, h1, h2, h3, h4⟩ | ⟨h, h1, h2, h3⟩
  · exact ⟨A0 (by omega), B0 (by omega), C0 (by omega)⟩
  · exact ⟨A0 (by omega), B0 (by omega), C0 (by omega)⟩
  · exact ⟨A0 (by omega), B1 (by omega) (frp_S h2), C1 (by omega) (frp_S h3)⟩
  · exact ⟨A0 (by omega), B1 (by omega) (frp_S h2), C1 (by omega) (ct h3)⟩
  · exact ⟨A0 (by omega), B1 (by omega) (frp_S h2), C0 (by omega)⟩
  · exact ⟨A0 (by omega), B0 (by omega), C0 (by omega)⟩
  · exact ⟨A0 (by omega), B0 (by omega), C0 (by omega)⟩
  · exact ⟨A0 (by omega), B0 (by omega), C0 (by omega)⟩
  · exact ⟨A1 (by omega) (ct h1), B1 (by omega) (frp_S h2), C1 (by omega) (cc h3)⟩
  · exact ⟨A0 (by omega), B1 (by omega) (frp_S h2), C1 (by omega) (cc h3)⟩
  · exact ⟨A0 (by omega), B1 (by omega) (frp_S h2), C0 (by omega)⟩
  · exact ⟨A0 (by omega), B0 (by omega), C0 (by omega)⟩
theorem nM8_get : (∀ i j, ¬ (i = 0 ∧ j = 8) → ¬ (i = 1 ∧ j = 7) → ¬ (j = n ∧ 7 ≤ i ∧ i ≤ 12) → nM8 M n s a b c i j = M i j) ∧ nM8 M n s a b c 0 8 = 1 ∧ nM8 M n s a b c 1 7 = (n : Int) + 1 ∧ nM8 M n s a b c 7 n = s ∧ nM8 M n s a b c 8 n = a ∧ nM8 M n s a b c 9 n = b ∧ nM8 M n s a b c 10 n = c ∧ nM8 M n s a b c 11 n = -1 ∧ nM8 M n s a b c 12 n = -1 := by
  unfold nM8
  refine ⟨fun i j h1 h2 h3 => ?_, ?_, ?_, ?_, ?_, ?_, ?_, ?_, ?_⟩
  · rw [yU_ne (by omega), yU_ne (by omega), yU_ne (by omega), yU_ne (by omega), yU_ne (by omega), yU_ne (by omega), yU_ne (by omega), yU_ne (by omega)]
  · rw [yU_c (by decide), yU_c (by decide), yU_c (by decide), yU_c (by decide), yU_c (by decide), yU_c (by decide), yU_c (by decide), yU_at]
  · rw [yU_c (by decide), yU_c (by decide), yU_c (by decide), yU_c (by decide), yU_c (by decide), yU_c (by decide), yU_at]
  · rw [yU_c (by decide), yU_c (by decide), yU_c (by decide), yU_c (by decide), yU_c (by decide), yU_at]
  · rw [yU_c (by decide), yU_c (by decide), yU_c (by decide), yU_c (by decide), yU_at]
  · rw [yU_c (by decide), yU_c (by decide), yU_c (by decide), yU_at]
  · rw [yU_c (by decide), yU_c (by decide), yU_at]
  · rw [yU_c (by decide), yU_at]
  · rw [yU_at]
theorem wr11 (hp : p = -1 ∨ (0 ≤ p ∧ p < 90)) : ywr M 11 p v i j = if i = 11 ∧ (j : Int) = p then v else M i j := by
  rcases hp with q | q
  · rw [wr_out ⟨by omega, by omega⟩ (Or.inl (by omega)), if_neg (by omega)]
  · rw [wr_in q.1 (by show p < ((90 : Nat) : Int); omega)]
    by_cases r : i = 11 ∧ (j : Int) = p
    · rw [if_pos r, r.1, show j = p.toNat by omega, yU_at]
    · rw [if_neg r, yU_ne (by omega)]
/-- a node is told -/
theorem f18_ok (hI : pI M) (h : uN M s a b c) (hn : M 1 7 = (n : Int)) (h90 : n < 90) : f_18 M s a b c = some (nM M n s a b c, (n : Int)) := by
  have hs := uN_s h
  obtain ⟨p1, p2, p3⟩ := uN_p h
  have rg : ∀ {x : Int}, frp M x → x = -1 ∨ (0 ≤ x ∧ x < 90) := fun h => by
    rcases h with q | ⟨q, -⟩
    · exact Or.inl q
    · right; omega
  obtain ⟨g1, g2, g3, g4, g5, g6, g7, g8, g9⟩ := nM8_get (M := M) (n := n) (s := s) (a := a) (b := b) (c := c)
  have e7 : nM8 M n s a b c 7 n = s := g4
  have eA : f_134 (nM8 M n s a b c) (n : Int) = pA' s a := by
    rw [f134g h90 (by rw [g4]; exact ⟨by omega, by omega⟩)]
    unfold ptA pA'
    rw [g4, g5]
  have k1 : ∀ Q i, i ≠ 11 → ywr Q 11 (pA' s a) (n : Int) i = Q i := fun Q i hi => funext fun j => by rw [wr11 (rg p1), if_neg (fun r => hi r.1)]
  have k2 : ∀ Q i, i ≠ 11 → ywr Q 11 (pB' s b) (n : Int) i = Q i := fun Q i hi => funext fun j => by rw [wr11 (rg p2), if_neg (fun r => hi r.1)]
  have eB : f_135 (ywr (nM8 M n s a b c) 11 (pA' s a) (n : Int)) (n : Int) = pB' s b := by
    rw [f135g h90 (by rw [k1 _ 7 (by decide), g4]; exact ⟨by omega, by omega⟩)]
    unfold ptB pB'
    rw [k1 _ 7 (by decide), k1 _ 9 (by decide), g4, g6]
  have eC : f_136 (ywr (ywr (nM8 M n s a b c) 11 (pA' s a) (n : Int)) 11 (pB' s b) (n : Int)) (n : Int) = pC' s c := by
    rw [f136g h90 (by rw [k2 _ 7 (by decide), k1 _ 7 (by decide), g4]; exact ⟨by omega, by omega⟩)]
    unfold ptC pC'
    rw [k2 _ 7 (by decide), k2 _ 10 (by decide), k1 _ 7 (by decide), k1 _ 10 (by decide), g4, g7]
  have e17 : yU M 0 8 1 1 7 = (n : Int) := (yU_c (by decide)).trans hn
  have e105 : f_105 (yU M 0 8 1) s a b c = (ywr (ywr (ywr (nM8 M n s a b c) 11 (pA' s a) (n : Int)) 11 (pB' s b) (n : Int)) 11 (pC' s c) (n : Int), (n : Int)) := by
    unfold f_105
    rw [e17, ylet_eq, ylet_eq, ylet_eq, ylet_eq, ylet_eq, ylet_eq, ylet_eq, ylet_eq, wr7 ⟨by decide, by decide⟩ h90, wr7 ⟨by decide, by decide⟩ h90, wr7 ⟨by decide, by decide⟩ h90, wr7 ⟨by decide, by decide⟩ h90, wr7 ⟨by decide, by decide⟩ h90, wr7 ⟨by decide, by decide⟩ h90]
    show ylet (ywr (nM8 M n s a b c) 11 (f_134 (nM8 M n s a b c) (n : Int)) (n : Int)) _ = _
    rw [eA, ylet_eq, eB, ylet_eq, eC, ylet_eq]
  unfold f_18
  rw [f125_1 hI h, show yrel 1 1 0 = true from rfl, cond_true, hn, rel2 ⟨by omega, by omega⟩ ⟨by decide, by decide⟩, cond_dt (by omega), ylet_eq, e105, ylet_eq]
  refine congrArg (fun z => some (z, (n : Int))) (funext fun i => funext fun j => ?_)
  dsimp only
  rw [wr11 (rg p3), wr11 (rg p2), wr11 (rg p1)]
  unfold nM isQ
  by_cases hi : i = 11
  · by_cases q1 : (j : Int) = pA' s a
    · by_cases q3 : (j : Int) = pC' s c
      · rw [if_pos ⟨hi, q3⟩, if_pos ⟨hi, Or.inl q1⟩]
      · by_cases q2 : (j : Int) = pB' s b
        · rw [if_neg (fun r => q3 r.2), if_pos ⟨hi, q2⟩, if_pos ⟨hi, Or.inl q1⟩]
        · rw [if_neg (fun r => q3 r.2), if_neg (fun r => q2 r.2), if_pos ⟨hi, q1⟩, if_pos ⟨hi, Or.inl q1⟩]
    · by_cases q3 : (j : Int) = pC' s c
      · rw [if_pos ⟨hi, q3⟩, if_pos ⟨hi, Or.inr (Or.inr q3)⟩]
      · by_cases q2 : (j : Int) = pB' s b
        · rw [if_neg (fun r => q3 r.2), if_pos ⟨hi, q2⟩, if_pos ⟨hi, Or.inr (Or.inl q2)⟩]
        · rw [if_neg (fun r => q3 r.2), if_neg (fun r => q2 r.2), if_neg (fun r => q1 r.2), if_neg (fun r => r.2.elim q1 (fun r => r.elim q2 q3))]
  · rw [if_neg (fun r => hi r.1), if_neg (fun r => hi r.1), if_neg (fun r => hi r.1), if_neg (fun r => hi r.1)]
theorem nM_get (hi : i ≠ 11) : nM M n s a b c i j = nM8 M n s a b c i j := if_neg fun r => hi r.1
theorem Q_fr (h : uN M s a b c) (hq : isQ s a b c k) : (k : Int) < M 1 7 ∧ M 11 k = -1 ∧ M 12 k = -1 := by
  obtain ⟨p1, p2, p3⟩ := uN_p h
  have key : ∀ {x : Int}, frp M x → (k : Int) = x → (k : Int) < M 1 7 ∧ M 11 k = -1 ∧ M 12 k = -1 := fun h e => by
    rcases h with q | ⟨q1, q2, q3⟩
    · omega
    · rw [← e, Int.toNat_natCast] at q2 q3
      exact ⟨by omega, q2, q3⟩
  rcases hq with q | q | q
  · exact key p1 q
  · exact key p2 q
  · exact key p3 q
/-- what is told is a program still -/
theorem nM_pI (hI : pI M) (h : uN M s a b c) (hn : M 1 7 = (n : Int)) (h90 : n < 90) : pI (nM M n s a b c) := by
  obtain ⟨g1, g2, g3, g4, g5, g6, g7, g8, g9⟩ := nM8_get (M := M) (n := n) (s := s) (a := a) (b := b) (c := c)
  have hs := uN_s h
  have m17 : nM M n s a b c 1 7 = (n : Int) + 1 := (nM_get (by decide)).trans g3
  have m14 : nM M n s a b c 1 4 = M 1 4 := (nM_get (by decide)).trans (g1 1 4 (by omega) (by omega) (by omega))
  have m10 : nM M n s a b c 1 0 = M 1 0 := (nM_get (by decide)).trans (g1 1 0 (by omega) (by omega) (by omega))
  have old : ∀ i k, 2 ≤ i → i ≠ 11 → ¬ (k = n ∧ 7 ≤ i ∧ i ≤ 12) → nM M n s a b c i k = M i k := fun i k h2 h11 hk => (nM_get h11).trans (g1 i k (by omega) (by omega) hk)
  have m7 : nM M n s a b c 7 n = s := (nM_get (by decide)).trans g4
  have m8 : nM M n s a b c 8 n = a := (nM_get (by decide)).trans g5
  have m9 : nM M n s a b c 9 n = b := (nM_get (by decide)).trans g6
  have m1 : nM M n s a b c 10 n = c := (nM_get (by decide)).trans g7
  have m12 : nM M n s a b c 12 n = -1 := (nM_get (by decide)).trans g9
  have o11 : ∀ k, k ≠ n → ¬ isQ s a b c k → nM M n s a b c 11 k = M 11 k := fun k hk hq => (if_neg fun r => hq r.2).trans (g1 11 k (by omega) (by omega) (by omega))
  have q11 : ∀ k, isQ s a b c k → nM M n s a b c 11 k = (n : Int) := fun k hq => if_pos ⟨rfl, hq⟩
  have nQ : ¬ isQ s a b c n := fun q => by have := (Q_fr h q).1; omega
  have n11 : nM M n s a b c 11 n = -1 := (if_neg fun r => nQ r.2).trans g8
  obtain ⟨i1, i2, i3, i4, i5, i6, i7, i8, i9, i10⟩ := id hI
  have keep : ∀ {k : Nat} {p : Int}, (k : Int) < M 1 7 → 0 ≤ p → p < (k : Int) → M 11 p.toNat = (k : Int) → nM M n s a b c 11 p.toNat = (k : Int) := fun {k p} hk h0 h1 h2 => by
    rw [o11 _ (by omega) (fun q => by have := (Q_fr h q).2.1; omega)]
    exact h2
  have kS : ∀ {k : Nat} {p : Int}, (k : Int) < M 1 7 → prt M k p → prt (nM M n s a b c) k p := fun {k p} hk hp => by
    obtain ⟨r1, r2, r3, r4⟩ := hp
    exact ⟨r1, r2, keep hk r1 r2 r3, by rw [old 7 _ (by decide) (by decide) (by omega)]; exact r4⟩
  have kC : ∀ {k : Nat} {p : Int}, (k : Int) < M 1 7 → prc M k p → prc (nM M n s a b c) k p := fun {k p} hk hp => by
    obtain ⟨r1, r2, r3, r4⟩ := hp
    exact ⟨r1, r2, keep hk r1 r2 r3, by rw [old 7 _ (by decide) (by decide) (by omega)]; exact r4⟩
  have nS : ∀ {p : Int}, uS M p → isQ s a b c p.toNat → prt (nM M n s a b c) n p := fun {p} hp hq => by
    obtain ⟨r1, r2, r3, r4⟩ := hp
    exact ⟨r1.1, by omega, q11 _ hq, by rw [old 7 _ (by decide) (by decide) (by omega)]; exact r2⟩
  have nC : ∀ {p : Int}, uC M p → isQ s a b c p.toNat → prc (nM M n s a b c) n p := fun {p} hp hq => by
    obtain ⟨r1, r2, r3, r4⟩ := hp
    exact ⟨r1.1, by omega, q11 _ hq, by rw [old 7 _ (by decide) (by decide) (by omega)]; exact r2⟩
  refine ⟨by rw [m17]; omega, by rw [m14]; exact i2, by rw [m10]; exact i3, fun k hk => ?_, fun k hk => ?_, fun k hk => ?_, fun p hp => ?_, fun k hk => ?_, fun p hp => ?_, fun c' hc' => ?_⟩
  · rw [m17] at hk
    by_cases e : k = n
    · subst e
      unfold nO
      rw [m7, m8, m9, m1, m10, m14]
      have aA : ∀ {x : Int}, s = 11 → 0 ≤ x → x = a → isQ s a b c x.toNat := fun {x} q q0 q2 => Or.inl (by unfold pA'; rw [if_pos q]; omega)
      have aB : ∀ {x : Int}, (s = 4 ∨ s = 5 ∨ s = 6 ∨ s = 11 ∨ s = 12 ∨ s = 13) → 0 ≤ x → x = b → isQ s a b c x.toNat := fun {x} q q0 q2 => Or.inr (Or.inl (by unfold pB'; rw [if_pos q]; omega))
      have aC : ∀ {x : Int}, (s = 4 ∨ s = 5 ∨ s = 11 ∨ s = 12) → 0 ≤ x → x = c → isQ s a b c x.toNat := fun {x} q q0 q2 => Or.inr (Or.inr (by unfold pC'; rw [if_pos q]; omega))
      rcases h with ⟨h, h1, h2, h3⟩ | ⟨h, h1, h2, h3⟩ | ⟨h, h1, h2, h3, h4⟩ | ⟨h, h1, h2, h3, h4⟩ | ⟨h, h1, h2, h3⟩ | ⟨h, h1, h2, h3⟩ | ⟨h, h1, h2, h3⟩ | ⟨h, h1, h2, h3⟩ | ⟨h, h1, h2, h3, h4, h5⟩ | ⟨h, h1, h2, h3⟩ | ⟨h, h1, h2, h3, h4⟩ | ⟨h, h1, h2, h3⟩
      · exact ⟨hs, fun _ => ⟨h1, h2⟩, fun q => absurd q (by omega), fun q => absurd q (by omega), fun q => absurd q (by omega), fun q => absurd q (by omega), fun q => absurd q (by omega), fun q => absurd q (by omega), fun q => absurd q (by omega), fun q => absurd q (by omega), fun q => absurd q (by omega), fun q => absurd q (by omega)⟩
      · exact ⟨hs, fun q => absurd q (by omega), fun _ => h2, fun q => absurd q (by omega), fun q => absurd q (by omega), fun q => absurd q (by omega), fun q => absurd q (by omega), fun q => absurd q (by omega), fun q => absurd q (by omega), fun q => absurd q (by omega), fun q => absurd q (by omega), fun q => absurd q (by omega)⟩
      · exact ⟨hs, fun q => absurd q (by omega), fun q => absurd q (by omega), fun _ => ⟨nS h2 (aB (by omega) h2.1.1 rfl), nS h3 (aC (by omega) h3.1.1 rfl), h4⟩, fun q => absurd q (by omega), fun q => absurd q (by omega), fun q => absurd q (by omega), fun q => absurd q (by omega), fun q => absurd q (by omega), fun q => absurd q (by omega), fun q => absurd q (by omega), fun q => absurd q (by omega)⟩
      · exact ⟨hs, fun q => absurd q (by omega), fun q => absurd q (by omega), fun q => absurd q (by omega), fun _ => ⟨h1, nS h2 (aB (by omega) h2.1.1 rfl), h3.imp id (fun h3 => nS h3 (aC (by omega) h3.1.1 rfl)), h4⟩, fun q => absurd q (by omega), fun q => absurd q (by omega), fun q => absurd q (by omega), fun q => absurd q (by omega), fun q => absurd q (by omega), fun q => absurd q (by omega), fun q => absurd q (by omega)⟩
      · exact ⟨hs, fun q => absurd q (by omega), fun q => absurd q (by omega), fun q => absurd q (by omega), fun q => absurd q (by omega), fun _ => ⟨h1, nS h2 (aB (by omega) h2.1.1 rfl)⟩, fun q => absurd q (by omega), fun q => absurd q (by omega), fun q => absurd q (by omega), fun q => absurd q (by omega), fun q => absurd q (by omega), fun q => absurd q (by omega)⟩
      · exact ⟨hs, fun q => absurd q (by omega), fun q => absurd q (by omega), fun q => absurd q (by omega), fun q => absurd q (by omega), fun q => absurd q (by omega), fun q => absurd q (by omega), fun q => absurd q (by omega), fun q => absurd q (by omega), fun q => absurd q (by omega), fun q => absurd q (by omega), fun q => absurd q (by omega)⟩
      · exact ⟨hs, fun q => absurd q (by omega), fun q => absurd q (by omega), fun q => absurd q (by omega), fun q => absurd q (by omega), fun q => absurd q (by omega), fun _ => ⟨h1, h2⟩, fun q => absurd q (by omega), fun q => absurd q (by omega), fun q => absurd q (by omega), fun q => absurd q (by omega), fun q => absurd q (by omega)⟩
      · exact ⟨hs, fun q => absurd q (by omega), fun q => absurd q (by omega), fun q => absurd q (by omega), fun q => absurd q (by omega), fun q => absurd q (by omega), fun q => absurd q (by omega), fun _ => ⟨h1, h2⟩, fun q => absurd q (by omega), fun q => absurd q (by omega), fun q => absurd q (by omega), fun q => absurd q (by omega)⟩
      · exact ⟨hs, fun q => absurd q (by omega), fun q => absurd q (by omega), fun q => absurd q (by omega), fun q => absurd q (by omega), fun q => absurd q (by omega), fun q => absurd q (by omega), fun q => absurd q (by omega), fun _ => ⟨h1.imp id (fun h1 => nS h1 (aA h h1.1.1 rfl)), nS h2 (aB (by omega) h2.1.1 rfl), h3.imp id (fun h3 => nC h3 (aC (by omega) h3.1.1 rfl)), h4, h5⟩, fun q => absurd q (by omega), fun q => absurd q (by omega), fun q => absurd q (by omega)⟩
      · exact ⟨hs, fun q => absurd q (by omega), fun q => absurd q (by omega), fun q => absurd q (by omega), fun q => absurd q (by omega), fun q => absurd q (by omega), fun q => absurd q (by omega), fun q => absurd q (by omega), fun q => absurd q (by omega), fun _ => ⟨h1, nS h2 (aB (by omega) h2.1.1 rfl), h3.imp id (fun h3 => nC h3 (aC (by omega) h3.1.1 rfl))⟩, fun q => absurd q (by omega), fun q => absurd q (by omega)⟩
      · exact ⟨hs, fun q => absurd q (by omega), fun q => absurd q (by omega), fun q => absurd q (by omega), fun q => absurd q (by omega), fun q => absurd q (by omega), fun q => absurd q (by omega), fun q => absurd q (by omega), fun q => absurd q (by omega), fun q => absurd q (by omega), fun _ => ⟨nS h2 (aB (by omega) h2.1.1 rfl), h1, h3, h4⟩, fun q => absurd q (by omega)⟩
      · exact ⟨hs, fun q => absurd q (by omega), fun q => absurd q (by omega), fun q => absurd q (by omega), fun q => absurd q (by omega), fun q => absurd q (by omega), fun q => absurd q (by omega), fun q => absurd q (by omega), fun q => absurd q (by omega), fun q => absurd q (by omega), fun q => absurd q (by omega), fun _ => h1⟩
    · have hk2 : (k : Int) < M 1 7 := by omega
      have o := i4 k hk2
      unfold nO at o ⊢
      rw [old 7 k (by decide) (by decide) (by omega), old 8 k (by decide) (by decide) (by omega), old 9 k (by decide) (by decide) (by omega), old 10 k (by decide) (by decide) (by omega), m10, m14]
      obtain ⟨o1, o2, o3, o4, o5, o6, o7, o8, o9, o10, o11', o12⟩ := o
      exact ⟨o1, o2, o3, fun q => ⟨kS hk2 (o4 q).1, kS hk2 (o4 q).2.1, (o4 q).2.2⟩, fun q => ⟨(o5 q).1, kS hk2 (o5 q).2.1, (o5 q).2.2.1.imp id (kS hk2), (o5 q).2.2.2⟩, fun q => ⟨(o6 q).1, kS hk2 (o6 q).2⟩, o7, o8, fun q => ⟨(o9 q).1.imp id (kS hk2), kS hk2 (o9 q).2.1, (o9 q).2.2.1.imp id (kC hk2), (o9 q).2.2.2⟩, fun q => ⟨(o10 q).1, kS hk2 (o10 q).2.1, (o10 q).2.2.imp id (kC hk2)⟩, fun q => ⟨kS hk2 (o11' q).1, (o11' q).2⟩, o12⟩
  · rw [m17] at hk
    rw [old 7 k (by decide) (by decide) (by omega)]
    exact i5 k (by omega)
  · rw [m17] at hk ⊢
    by_cases e : k = n
    · subst e
      exact Or.inl n11
    · by_cases hq : isQ s a b c k
      · rw [q11 k hq]
        refine Or.inr ⟨by omega, by omega, ?_⟩
        rw [Int.toNat_natCast]
        unfold isP
        rw [m7, m8, m9, m1]
        rcases hq with q | q | q
        · unfold pA' at q
          split at q
          · rename_i r; exact Or.inl ⟨r, q.symm⟩
          · omega
        · unfold pB' at q
          split at q
          · rename_i r; exact Or.inr (Or.inl ⟨r, q.symm⟩)
          · omega
        · unfold pC' at q
          split at q
          · rename_i r; exact Or.inr (Or.inr ⟨r, q.symm⟩)
          · omega
      · rw [o11 k e hq]
        rcases i6 k (by omega) with q | ⟨q1, q2, q3⟩
        · exact Or.inl q
        · refine Or.inr ⟨q1, by omega, ?_⟩
          unfold isP at q3 ⊢
          rw [old 7 _ (by decide) (by decide) (by omega), old 8 _ (by decide) (by decide) (by omega), old 9 _ (by decide) (by decide) (by omega), old 10 _ (by decide) (by decide) (by omega)]
          exact q3
  · rw [m14] at hp
    rw [old 6 p (by decide) (by decide) (by omega), m17]
    rcases i7 p hp with q | ⟨q1, q2, q3, q4, q5⟩
    · exact Or.inl q
    · refine Or.inr ⟨q1, by omega, ?_, ?_, ?_⟩
      · rw [old 7 _ (by decide) (by decide) (by omega)]; exact q3
      · rw [o11 _ (by omega) (fun q => by have := (Q_fr h q).2.2; omega)]; exact q4
      · rw [old 12 _ (by decide) (by decide) (by omega)]; exact q5
  · rw [m17] at hk
    rw [m14]
    by_cases e : k = n
    · subst e
      exact Or.inl m12
    · rw [old 12 k (by decide) (by decide) (by omega)]
      rcases i8 k (by omega) with q | ⟨q1, q2, q3⟩
      · exact Or.inl q
      · refine Or.inr ⟨q1, q2, ?_⟩
        rw [old 6 _ (by decide) (by decide) (by omega)]; exact q3
  · rw [m14] at hp
    rw [m10, old 5 p (by decide) (by decide) (by omega)]
    exact i9 p hp
  · rw [m10] at hc' ⊢
    rw [old 4 c' (by decide) (by decide) (by omega)]
    exact i10 c' hc'
end PaeA
