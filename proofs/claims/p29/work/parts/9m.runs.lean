/-! runs over code that is alike; what is called -/
section PabA
variable {K K' : Nat → Nat → Nat → Int} {BG BG' : Nat → Nat → List Nat} {CH CH' : Nat → Nat → List (Int × Int)} {bl : Int → Int → Bool} {mo de nk : Int} {vp gn : Nat → Prop} {nn np : Nat}
theorem st_cg {X : aX} (hv : ∀ f, f ∈ X.1 → vp f.1) (hQ : X.2.1 = true → ∀ f, f ∈ X.1 → a_may (K f.1 1 f.2.1)) (hK : ∀ p, vp p → ∀ c, 1 ≤ c → c ≤ 5 → K' p c = K p c) (hB : ∀ p, vp p → BG' p = BG p) (hC : ∀ p i, vp p → a_may (K p 1 i) → CH' p i = CH p i) : a_step K' BG' CH' bl mo de X = a_step K BG CH bl mo de X := by
  obtain ⟨fr, fl, bi, rn, Y⟩ := X
  cases fr with
  | nil => rfl
  | cons f r =>
    have hvf := hv f List.mem_cons_self
    unfold a_step
    dsimp only
    rw [hB f.1 hvf, hK f.1 hvf 1 (by omega) (by omega), hK f.1 hvf 2 (by omega) (by omega), hK f.1 hvf 3 (by omega) (by omega), hK f.1 hvf 4 (by omega) (by omega), hK f.1 hvf 5 (by omega) (by omega)]
    cases fl with
    | false => rfl
    | true => rw [hC f.1 f.2.1 hvf (hQ rfl f List.mem_cons_self)]
theorem run_cg (hI : a_inv K BG CH bl mo de (a_I vp gn mo de nk nn np)) (hQs : ∀ X X', a_I vp gn mo de nk nn np X → a_Q K X → a_step K BG CH bl mo de X = some X' → a_Q K X') (hK : ∀ p, vp p → ∀ c, 1 ≤ c → c ≤ 5 → K' p c = K p c) (hB : ∀ p, vp p → BG' p = BG p) (hC : ∀ p i, vp p → a_may (K p 1 i) → CH' p i = CH p i) : ∀ (t : Nat) {X : aX}, a_I vp gn mo de nk nn np X → a_Q K X → a_run K' BG' CH' bl mo de t X = a_run K BG CH bl mo de t X
  | 0, _, _, _ => rfl
  | t + 1, X, hX, hQ => by
    show (a_step K' BG' CH' bl mo de X).bind (a_run K' BG' CH' bl mo de t) = (a_step K BG CH bl mo de X).bind (a_run K BG CH bl mo de t)
    rw [st_cg (fun f hf => (hX.2.1 f hf).1) hQ.2.2 hK hB hC]
    cases e : a_step K BG CH bl mo de X with
    | none => rfl
    | some Z => exact run_cg hI hQs hK hB hC t (hI.1 _ _ hX e) (hQs _ _ hX hQ e)
end PabA
/-- what was called: by one at most, and never less -/
def p17 (Y Y' : yM) : Prop := ∀ p, Y 17 p ≤ Y' 17 p ∧ Y' 17 p ≤ Y 17 p + 1
section PabB
variable {K : Nat → Nat → Nat → Int} {BG : Nat → Nat → List Nat} {CH : Nat → Nat → List (Int × Int)} {bl : Int → Int → Bool} {mo de : Int} {Y Y' : yM} {f : aF} {r : List aF} {o x y z nd : Int} {X X' : aX}
theorem p17_eq (h : ∀ p, Y' 17 p = Y 17 p) : p17 Y Y' := fun p => by rw [h]; omega
theorem p17_new {k c : Int} : ∀ p, a_new Y k c 17 p = Y 17 p := fun p => by
  unfold a_new a_fly
  rw [yU_c (by decide), yU_c (by decide), yU_c (by decide), yU_c (by decide)]
theorem p17_fly {e : Int} : ∀ p, a_fly Y e 17 p = Y 17 p := fun p => yU_c (by decide)
theorem p17_uu {a c i j : Nat} {v w : Int} (ha : 17 ≠ a) (hc : 17 ≠ c) : p17 Y (yU (yU Y a i v) c j w) := p17_eq fun p => (yU_c hc).trans (yU_c ha)
theorem p17_nw (k c : Int) : p17 Y (a_new Y k c) := p17_eq p17_new
theorem p17_fy (e : Int) : p17 Y (a_fly Y e) := p17_eq p17_fly
theorem p17_enter {q v : Int} : p17 Y (a_enter de f r Y q v nd).2.2.2.2 := by
  unfold a_enter
  split
  · exact p17_nw _ _
  · intro p
    show Y 17 p ≤ a_enterY Y q.toNat ((r.length : Int) + 2) 17 p ∧ a_enterY Y q.toNat ((r.length : Int) + 2) 17 p ≤ Y 17 p + 1
    unfold a_enterY
    rw [yU_c (by decide)]
    by_cases e : p = q.toNat
    · subst e
      rw [yU_at]
      omega
    · rw [yU_i e, yU_c (by decide)]
      omega
theorem op_17 (hs : a_op de f r Y o x y z nd = some X') : p17 Y X'.2.2.2.2 := by
  have u : ∀ {a i : Nat} {v : Int}, a ≠ 17 → p17 Y (yU Y a i v) := fun h => p17_eq fun p => yU_c (Ne.symm h)
  unfold a_op at hs
  by_cases h : o = 1
  · rw [if_pos h] at hs
    cases hs; exact u (by decide)
  rw [if_neg h] at hs
  by_cases h : o = 2
  · rw [if_pos h] at hs
    cases hs; exact u (by decide)
  rw [if_neg h] at hs
  by_cases h : o = 3
  · rw [if_pos h] at hs
    by_cases h2 : yw (a_val Y y) = 0
    · rw [if_pos h2] at hs; cases hs; exact p17_nw _ _
    · rw [if_neg h2] at hs; cases hs; exact u (by decide)
  rw [if_neg h] at hs
  by_cases h : o = 4
  · rw [if_pos h] at hs
    cases hs; exact u (by decide)
  rw [if_neg h] at hs
  by_cases h : o = 5
  · rw [if_pos h] at hs
    cases hs; exact p17_eq fun _ => rfl
  rw [if_neg h] at hs
  by_cases h : o = 6
  · rw [if_pos h] at hs
    cases hs; exact p17_eq fun _ => rfl
  rw [if_neg h] at hs
  by_cases h : o = 7
  · rw [if_pos h] at hs
    cases hs; exact p17_eq fun _ => rfl
  rw [if_neg h] at hs
  by_cases h : o = 8
  · rw [if_pos h] at hs
    cases h2 : f.2.2.2.2.2 x.toNat with
    | none => rw [h2] at hs; cases hs
    | some v =>
      rw [h2] at hs
      cases r with
      | nil =>
        cases hs
        exact p17_uu (by decide) (by decide)
      | cons g r' =>
        cases hs
        show p17 Y (if 0 ≤ f.2.2.1 then yU Y 14 f.2.2.1.toNat v else Y)
        by_cases h3 : 0 ≤ f.2.2.1
        · rw [if_pos h3]; exact u (by decide)
        · rw [if_neg h3]; exact p17_eq fun _ => rfl
  rw [if_neg h] at hs
  by_cases h : o = 9
  · rw [if_pos h] at hs
    cases hs; exact p17_enter
  rw [if_neg h] at hs
  by_cases h : o = 10
  · rw [if_pos h] at hs
    cases hs; exact p17_nw _ _
  rw [if_neg h] at hs
  by_cases h : o = 11
  · rw [if_pos h] at hs
    by_cases h2 : 0 < Y 1 0
    · rw [if_pos h2] at hs; cases hs; exact p17_eq fun _ => rfl
    · rw [if_neg h2] at hs; cases hs
  rw [if_neg h] at hs
  by_cases h : o = 12
  · rw [if_pos h] at hs
    obtain ⟨e, -, rfl⟩ := Option.map_eq_some_iff.mp hs
    exact p17_fy _
  rw [if_neg h] at hs
  by_cases h : o = 13
  · rw [if_pos h] at hs
    obtain ⟨e, -, rfl⟩ := Option.map_eq_some_iff.mp hs
    exact p17_nw _ _
  rw [if_neg h] at hs
  by_cases h : o = 14
  · rw [if_pos h] at hs
    obtain ⟨e, -, rfl⟩ := Option.map_eq_some_iff.mp hs
    exact u (by decide)
  rw [if_neg h] at hs
  by_cases h : o = 15
  · rw [if_pos h] at hs
    obtain ⟨e, -, rfl⟩ := Option.map_eq_some_iff.mp hs
    by_cases h2 : Y 15 x.toNat = -1
    · rw [if_pos h2]; exact p17_eq fun _ => rfl
    · rw [if_neg h2]
      by_cases h3 : a_behind Y e 3000 (Y 15 x.toNat) = true
      · rw [if_pos h3]; exact p17_nw _ _
      · rw [if_neg h3]; exact u (by decide)
  rw [if_neg h] at hs
  by_cases h : o = 16
  · rw [if_pos h] at hs
    cases hs
    by_cases h2 : Y 15 x.toNat = -1
    · rw [if_pos h2]; exact p17_nw _ _
    · rw [if_neg h2]; exact p17_fy _
  rw [if_neg h] at hs
  by_cases h : o = 17 ∨ o = 18
  · rw [if_pos h] at hs
    cases hs; exact p17_enter
  rw [if_neg h] at hs
  by_cases h : o = 19
  · rw [if_pos h] at hs
    by_cases h2 : 0 < Y 1 0
    · rw [if_pos h2] at hs
      obtain ⟨e, -, rfl⟩ := Option.map_eq_some_iff.mp hs
      show p17 Y (a_fly (if Y 0 16 = e then Y else yU Y 1 1 (Y 1 1 + 1)) e)
      by_cases h3 : Y 0 16 = e
      · rw [if_pos h3]; exact p17_fy _
      · rw [if_neg h3]; exact p17_eq fun p => (p17_fly p).trans (yU_c (by decide))
    · rw [if_neg h2] at hs; cases hs
  rw [if_neg h] at hs
  by_cases h : o = 20
  · rw [if_pos h] at hs
    cases hs; exact p17_eq fun _ => rfl
  rw [if_neg h] at hs
  cases hs
theorem st_17 (hs : a_step K BG CH bl mo de X = some X') : p17 X.2.2.2.2 X'.2.2.2.2 := by
  unfold a_step at hs
  split at hs
  · cases hs
  split at hs
  · split at hs
    · cases hs
      exact p17_uu (by decide) (by decide)
    · split at hs
      · cases hs; exact p17_eq fun _ => rfl
      · cases hs; exact p17_eq fun _ => rfl
  · split at hs
    · cases hs
    · split at hs
      · split at hs
        · cases hs; exact p17_eq fun _ => rfl
        · cases hs
          exact p17_uu (by decide) (by decide)
      · exact op_17 hs
theorem run_17 : ∀ (t : Nat) {X X' : aX}, a_run K BG CH bl mo de t X = some X' → ∀ p, X.2.2.2.2 17 p ≤ X'.2.2.2.2 17 p ∧ X'.2.2.2.2 17 p ≤ X.2.2.2.2 17 p + (t : Int)
  | 0, X, X', h, p => by cases h; omega
  | t + 1, X, X', h, p => by
    have h' : (a_step K BG CH bl mo de X).bind (a_run K BG CH bl mo de t) = some X' := h
    cases e : a_step K BG CH bl mo de X with
    | none => rw [e] at h'; cases h'
    | some Z =>
      rw [e] at h'
      have h1 := st_17 e p
      have h2 := run_17 t h' p
      omega
end PabB
