/-! what follows from what was told: it ends, its equations, and there is one answer to them -/
section NvA
variable {M M' : yM} {n w N k fu : Nat} {x x1 x2 x3 x4 : Int} {cs : List Nat}
theorem c0 {p : Prop} [Decidable p] {X Z : Option Int} : cond (decide ((if p then (1 : Int) else 0) = 0)) X Z = if p then Z else X := by
  by_cases q : p
  · rw [if_pos q, if_pos q, cond_df (by decide)]
  · rw [if_neg q, if_neg q, cond_dt rfl]
theorem c1 {p : Prop} [Decidable p] {X Z : Option Int} : cond (!decide ((if p then (1 : Int) else 0) = 0)) X Z = if p then X else Z := by
  by_cases q : p
  · rw [if_pos q, if_pos q, decide_eq_false (by decide), Bool.not_false, cond_true]
  · rw [if_neg q, if_neg q, decide_eq_true rfl, Bool.not_true, cond_false]
theorem ifeq {p q : Prop} [Decidable p] [Decidable q] (h : p ↔ q) : (if p then (1 : Int) else 0) = if q then 1 else 0 := ite_congr (propext h) (fun _ => rfl) (fun _ => rfl)
theorem f132_ok (hI : pI M) (hn : (n : Int) < M 1 7) (hN : 91 ≤ N) (hs : ∀ j : Nat, (j : Int) < (n : Int) → ysm (M 17 j)) : f_132 N M (n : Int) = some (if vN M n then 1 else 0) := by
  have h90 := hI.1
  have hO := hI.2.2.2.1 n hn
  have s7 := nO_sm hO
  have r : ∀ y : Int, ysm y → yrel 0 (M 7 n) y = decide (M 7 n = y) := fun y hy => rel0 s7 hy
  unfold f_132
  rw [rd7 (a := 7) ⟨by decide, by decide⟩ (by omega), rd7 (a := 8) ⟨by decide, by decide⟩ (by omega), rd7 (a := 9) ⟨by decide, by decide⟩ (by omega), rd7 (a := 10) ⟨by decide, by decide⟩ (by omega), r 4 ⟨by decide, by decide⟩, r (4 + 1) ⟨by decide, by decide⟩, r (4 + 1 + 1) ⟨by decide, by decide⟩, r (4 + 1 + 1 + 1) ⟨by decide, by decide⟩, r (4 + 1 + 1 + 1 + 1) ⟨by decide, by decide⟩, r (4 + 1 + 1 + 1 + 1 + 1) ⟨by decide, by decide⟩, r (4 + 1 + 1 + 1 + 1 + 1 + 1) ⟨by decide, by decide⟩, r (4 + 1 + 1 + 1 + 1 + 1 + 1 + 1) ⟨by decide, by decide⟩, r (4 + 1 + 1 + 1 + 1 + 1 + 1 + 1 + 1) ⟨by decide, by decide⟩, r (4 + 1 + 1 + 1 + 1 + 1 + 1 + 1 + 1 + 1) ⟨by decide, by decide⟩]
  rw [r (4 + 1 + 1 + 1 + 1 + 1 + 1 + 1 + 1 + 1 + 1) ⟨by decide, by decide⟩, r (4 + 1 + 1 + 1 + 1 + 1 + 1 + 1 + 1 + 1 + 1 + 1) ⟨by decide, by decide⟩, r (4 + 1 + 1 + 1 + 1 + 1 + 1 + 1 + 1 + 1 + 1 + 1 + 1) ⟨by decide, by decide⟩, r (4 + 1 + 1 + 1 + 1 + 1 + 1 + 1 + 1 + 1 + 1 + 1 + 1 + 1) ⟨by decide, by decide⟩, r (4 + 1 + 1 + 1 + 1 + 1 + 1 + 1 + 1 + 1 + 1 + 1 + 1 + 1 + 1) ⟨by decide, by decide⟩]
  have yes : vN M n → some 1 = some (if vN M n then (1 : Int) else 0) := fun h => by rw [if_pos h]
  have no : ¬ vN M n → some 0 = some (if vN M n then (1 : Int) else 0) := fun h => by rw [if_neg h]
  have f9 : prt M n (M 9 n) → f_124 M (M 9 n) = if npt M (M 9 n) then 1 else 0 := fun h => f124 (Or.inr ⟨h.1, by have := h.2.1; omega⟩) (hs _ (by have := h.1; have := h.2.1; omega))
  have f10 : M 10 n = -1 ∨ prt M n (M 10 n) → f_124 M (M 10 n) = if npt M (M 10 n) then 1 else 0 := fun h => by
    rcases h with h | h
    · rw [h]
      show (0 : Int) = _
      rw [if_neg (fun h => h.1 rfl)]
    · exact f124 (Or.inr ⟨h.1, by have := h.2.1; omega⟩) (hs _ (by have := h.1; have := h.2.1; omega))
  have f8 : M 8 n = -1 ∨ prt M n (M 8 n) → f_124 M (M 8 n) = if npt M (M 8 n) then 1 else 0 := fun h => by
    rcases h with h | h
    · rw [h]
      show (0 : Int) = _
      rw [if_neg (fun h => h.1 rfl)]
    · exact f124 (Or.inr ⟨h.1, by have := h.2.1; omega⟩) (hs _ (by have := h.1; have := h.2.1; omega))
  by_cases q4 : M 7 n = 4
  · have o := hO.2.2.2.1 q4
    rw [cond_dt q4, f9 o.1, f10 (Or.inr o.2.1), rel1 nv01 ⟨by decide, by decide⟩, rel0 nv01 ⟨by decide, by decide⟩, c1, c0]
    by_cases a : npt M (M 9 n)
    · rw [if_pos a]; exact yes (Or.inr (Or.inr (Or.inr (Or.inr (Or.inr (Or.inr (Or.inl ⟨q4, Or.inl a⟩)))))))
    · rw [if_neg a]
      by_cases b : npt M (M 10 n)
      · rw [if_pos b]; exact yes (Or.inr (Or.inr (Or.inr (Or.inr (Or.inr (Or.inr (Or.inl ⟨q4, Or.inr b⟩)))))))
      · rw [if_neg b]
        refine no ?_
        rintro (h | h | h | h | h | h | h | h | h | h)
        · omega
        · omega
        · omega
        · omega
        · omega
        · omega
        · rcases h.2 with h | h
          · exact a h
          · exact b h
        · exact absurd h.1 (by omega)
        · exact absurd h.1 (by omega)
        · exact absurd h.1 (by omega)
  rw [cond_df q4]
  by_cases q5 : M 7 n = 4 + 1
  · have o := hO.2.2.2.2.1 q5
    rw [cond_dt q5, f9 o.2.1, f10 o.2.2.1, rel0 nv01 ⟨by decide, by decide⟩, rel0 nv01 ⟨by decide, by decide⟩, c0, c0]
    by_cases a : npt M (M 9 n) ∧ npt M (M 10 n)
    · rw [if_pos a.1, if_pos a.2]; exact yes (Or.inr (Or.inr (Or.inr (Or.inr (Or.inr (Or.inr (Or.inr (Or.inl ⟨q5, a⟩))))))))
    · have e : (if npt M (M 9 n) then if npt M (M 10 n) then some (1 : Int) else some 0 else some 0) = some 0 := by
        by_cases b : npt M (M 9 n)
        · rw [if_pos b, if_neg (fun h => a ⟨b, h⟩)]
        · rw [if_neg b]
      rw [e]
      refine no ?_
      rintro (h | h | h | h | h | h | h | h | h | h)
      · omega
      · omega
      · omega
      · omega
      · omega
      · omega
      · exact absurd h.1 (by omega)
      · exact a h.2
      · exact absurd h.1 (by omega)
      · exact absurd h.1 (by omega)
  rw [cond_df q5]
  by_cases q6 : M 7 n = 4 + 1 + 1
  · rw [cond_dt q6]
    refine no ?_
    rintro (h | h | h | h | h | h | h | h | h | h)
    · omega
    · omega
    · omega
    · omega
    · omega
    · omega
    · exact absurd h.1 (by omega)
    · exact absurd h.1 (by omega)
    · exact absurd h.1 (by omega)
    · exact absurd h.1 (by omega)
  rw [cond_df q6]
  by_cases q7 : M 7 n = 4 + 1 + 1 + 1
  · rw [cond_dt q7]; exact yes (Or.inl q7)
  rw [cond_df q7]
  by_cases q8 : M 7 n = 4 + 1 + 1 + 1 + 1
  · rw [cond_dt q8]; exact yes (Or.inr (Or.inl q8))
  rw [cond_df q8]
  by_cases q9 : M 7 n = 4 + 1 + 1 + 1 + 1 + 1
  · rw [cond_dt q9]
    refine no ?_
    rintro (h | h | h | h | h | h | h | h | h | h)
    · omega
    · omega
    · omega
    · omega
    · omega
    · omega
    · exact absurd h.1 (by omega)
    · exact absurd h.1 (by omega)
    · exact absurd h.1 (by omega)
    · exact absurd h.1 (by omega)
  rw [cond_df q9]
  by_cases q10 : M 7 n = 4 + 1 + 1 + 1 + 1 + 1 + 1
  · rw [cond_dt q10]; exact yes (Or.inr (Or.inr (Or.inl q10)))
  rw [cond_df q10]
  by_cases q11 : M 7 n = 4 + 1 + 1 + 1 + 1 + 1 + 1 + 1
  · have o := hO.2.2.2.2.2.2.2.2.1 q11
    rw [cond_dt q11, f8 o.1, rel1 nv01 ⟨by decide, by decide⟩, c1, f133_ok hI hn hN hs q11, Option.bind_some, rel0 nv01 ⟨by decide, by decide⟩, c0]
    by_cases a : npt M (M 8 n)
    · rw [if_pos a]; exact yes (Or.inr (Or.inr (Or.inr (Or.inr (Or.inr (Or.inr (Or.inr (Or.inr (Or.inr ⟨q11, Or.inl a⟩)))))))))
    · rw [if_neg a]
      by_cases b : vE M n
      · rw [if_pos b]; exact yes (Or.inr (Or.inr (Or.inr (Or.inr (Or.inr (Or.inr (Or.inr (Or.inr (Or.inr ⟨q11, Or.inr b⟩)))))))))
      · rw [if_neg b]
        refine no ?_
        rintro (h | h | h | h | h | h | h | h | h | h)
        · omega
        · omega
        · omega
        · omega
        · omega
        · omega
        · exact absurd h.1 (by omega)
        · exact absurd h.1 (by omega)
        · exact absurd h.1 (by omega)
        · rcases h.2 with h | h
          · exact a h
          · exact b h
  rw [cond_df q11]
  have two : M 7 n = 12 ∨ M 7 n = 13 → ((npt M (M 9 n)) ↔ vN M n) := fun q => ⟨fun h => Or.inr (Or.inr (Or.inr (Or.inr (Or.inr (Or.inr (Or.inr (Or.inr (Or.inl ⟨q, h⟩)))))))), by
    rintro (h | h | h | h | h | h | h | h | h | h)
    · omega
    · omega
    · omega
    · omega
    · omega
    · omega
    · exact absurd h.1 (by omega)
    · exact absurd h.1 (by omega)
    · exact h.2
    · exact absurd h.1 (by omega)⟩
  by_cases q12 : M 7 n = 4 + 1 + 1 + 1 + 1 + 1 + 1 + 1 + 1
  · have o := hO.2.2.2.2.2.2.2.2.2.1 q12
    rw [cond_dt q12, f9 o.2.1, ifeq (two (Or.inl q12))]
  rw [cond_df q12]
  by_cases q13 : M 7 n = 4 + 1 + 1 + 1 + 1 + 1 + 1 + 1 + 1 + 1
  · have o := hO.2.2.2.2.2.2.2.2.2.2.1 q13
    rw [cond_dt q13, f9 o.1, ifeq (two (Or.inr q13))]
  rw [cond_df q13]
  by_cases q14 : M 7 n = 4 + 1 + 1 + 1 + 1 + 1 + 1 + 1 + 1 + 1 + 1
  · rw [cond_dt q14]; exact yes (Or.inr (Or.inr (Or.inr (Or.inl q14))))
  rw [cond_df q14]
  by_cases q15 : M 7 n = 4 + 1 + 1 + 1 + 1 + 1 + 1 + 1 + 1 + 1 + 1 + 1
  · rw [cond_dt q15]; exact yes (Or.inr (Or.inr (Or.inr (Or.inr (Or.inl q15)))))
  rw [cond_df q15]
  have last : ¬ M 7 n = 18 → ¬ vN M n := fun q => by
    rintro (h | h | h | h | h | h | h | h | h | h)
    · omega
    · omega
    · omega
    · omega
    · omega
    · omega
    · exact absurd h.1 (by omega)
    · exact absurd h.1 (by omega)
    · exact absurd h.1 (by omega)
    · exact absurd h.1 (by omega)
  by_cases q16 : M 7 n = 4 + 1 + 1 + 1 + 1 + 1 + 1 + 1 + 1 + 1 + 1 + 1 + 1
  · rw [cond_dt q16]; exact no (last (by omega))
  rw [cond_df q16]
  by_cases q17 : M 7 n = 4 + 1 + 1 + 1 + 1 + 1 + 1 + 1 + 1 + 1 + 1 + 1 + 1 + 1
  · rw [cond_dt q17]; exact no (last (by omega))
  rw [cond_df q17]
  by_cases q18 : M 7 n = 4 + 1 + 1 + 1 + 1 + 1 + 1 + 1 + 1 + 1 + 1 + 1 + 1 + 1 + 1
  · rw [cond_dt q18]; exact yes (Or.inr (Or.inr (Or.inr (Or.inr (Or.inr (Or.inl q18))))))
  rw [cond_df q18]
  exact no (last (by omega))
end NvA
