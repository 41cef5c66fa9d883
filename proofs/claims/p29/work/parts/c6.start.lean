/-! a new object, for the law -/
theorem yI_sB : ∀ c : Nat, sB 5 (yI 4 c) := fun c => by
  by_cases h : c < 5
  · have h5 : c = 0 ∨ c = 1 ∨ c = 2 ∨ c = 3 ∨ c = 4 := by omega
    have e : ∀ v : Int, 0 ≤ v ∧ v < 2 ^ 5 → sB 5 v := fun v hv => sB_lt (k := 5) hv (by decide)
    rcases h5 with rfl | rfl | rfl | rfl | rfl <;> exact e _ (by decide)
  · have e : yI 4 c = 0 := by
      show (if c = 0 then (31 : Int) else if c = 1 then 2 else if c = 2 then 4 else if c = 3 then 8 else if c = 4 then 16 else 0) = 0
      rw [if_neg (by omega), if_neg (by omega), if_neg (by omega), if_neg (by omega), if_neg (by omega)]
    rw [e]
    exact sB_0 (by decide)
theorem yI_6 (p : Nat) : yI 6 p = -1 := rfl
theorem yI_7 (p : Nat) : yI 7 p = 0 := rfl
theorem yI_5 (p : Nat) : yI 5 p = 0 := rfl
theorem yI_pI : pI yI := by
  have e17 : yI 1 7 = 0 := rfl
  have e14 : yI 1 4 = 1 := rfl
  have e10 : yI 1 0 = 5 := rfl
  refine ⟨by rw [e17]; decide, by rw [e14]; decide, by rw [e10]; decide, fun n h => absurd h (by rw [e17]; omega), fun n _ => yI_7 n, fun n h => absurd h (by rw [e17]; omega), fun p _ => Or.inl (yI_6 p), fun n h => absurd h (by rw [e17]; omega), fun p _ => ?_, fun c _ => ?_⟩
  · rw [yI_5, e10]
    exact sB_0 (by decide)
  · rw [e10]
    exact yI_sB c
theorem yI_pX : pX yI := ⟨fun p _ => yI_6 p, fun c => by
  have e10 : yI 1 0 = 5 := rfl
  rw [e10]
  exact yI_sB c⟩
theorem yI_gW : gW yI := by
  refine ⟨⟨by decide, by decide, by decide, by decide, by decide⟩, fun c _ => ?_⟩
  have e3 : yI 103 c = 0 := rfl
  have e4 : yI 104 c = 0 := rfl
  rw [e3, e4]
  exact ⟨⟨by decide, by decide⟩, by decide, by decide⟩
