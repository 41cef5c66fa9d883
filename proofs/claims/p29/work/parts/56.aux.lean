/-! more that holds at every step: where frames stand, and how many exceptions there are -/
def a_var (f : aF) : Prop := f.2.2.1 = -1 ∨ (0 ≤ f.2.2.1 ∧ f.2.2.1 < 10)
def a_Q (K : Nat → Nat → Nat → Int) (X : aX) : Prop := (∀ f, f ∈ X.1 → a_var f) ∧ (∀ f, f ∈ X.1.tail → a_may (K f.1 1 f.2.1)) ∧ (X.2.1 = true → ∀ f, f ∈ X.1 → a_may (K f.1 1 f.2.1))
section AQu
variable {K : Nat → Nat → Nat → Int} {BG : Nat → Nat → List Nat} {CH : Nat → Nat → List (Int × Int)} {bl : Int → Int → Bool} {mo de : Int} {Y : yM} {f : aF} {r : List aF} {fl : Bool} {bi : Nat} {X' : aX} {o x y z nd : Int}
theorem Q_at {j : Nat} {Y' : yM} {f' : aF} (h : a_Q K (f :: r, fl, bi, true, Y)) (hv : f'.2.2.1 = f.2.2.1) : a_Q K (f' :: r, false, j, true, Y') := by
  obtain ⟨h1, h2, h3⟩ := h
  refine ⟨fun g hg => ?_, h2, (fun q => by cases q)⟩
  rcases List.mem_cons.mp hg with rfl | hg
  · have := h1 f List.mem_cons_self
    unfold a_var at this ⊢
    rw [hv]; exact this
  · exact h1 g (List.mem_cons_of_mem _ hg)
theorem Q_throw {Y' : yM} (h : a_Q K (f :: r, fl, bi, true, Y)) (hm : a_may (K f.1 1 f.2.1)) : a_Q K (a_throw f r Y') := by
  obtain ⟨h1, h2, h3⟩ := h
  refine ⟨h1, h2, fun _ g hg => ?_⟩
  rcases List.mem_cons.mp hg with rfl | hg
  · exact hm
  · exact h2 g hg
theorem Q_enter {q v nd : Int} (h : a_Q K (f :: r, fl, bi, true, Y)) (hm : a_may (K f.1 1 f.2.1)) (hv : v = -1 ∨ (0 ≤ v ∧ v < 10)) : a_Q K (a_enter de f r Y q v nd) ∧ (a_enter de f r Y q v nd).2.2.2.2 1 0 ≤ Y 1 0 + 1 := by
  unfold a_enter
  by_cases hd : de ≤ (r.length : Int) + 1
  · rw [if_pos hd]
    exact ⟨Q_throw h hm, Int.le_of_eq (new_1 (k := 1) (c := -1))⟩
  · rw [if_neg hd]
    obtain ⟨h1, h2, h3⟩ := h
    refine ⟨⟨fun g hg => ?_, fun g hg => ?_, (fun q => by cases q)⟩, ?_⟩
    · rcases List.mem_cons.mp hg with rfl | hg
      · exact hv
      · exact h1 g hg
    · have hg : g ∈ f :: r := hg
      rcases List.mem_cons.mp hg with rfl | hg
      · exact hm
      · exact h2 g hg
    · have e1 : a_enterY Y q.toNat ((r.length : Int) + 2) 1 0 = Y 1 0 := by
        unfold a_enterY
        rw [yU_c (by decide), yU_c (by decide), yU_c (by decide)]
      show a_enterY Y q.toNat ((r.length : Int) + 2) 1 0 ≤ Y 1 0 + 1
      omega
theorem Q_op (h : a_Q K (f :: r, fl, bi, true, Y)) (hK : K f.1 1 f.2.1 = o) (w9 : o = 9 → 0 ≤ x ∧ x < 10) (hs : a_op de f r Y o x y z nd = some X') : a_Q K X' ∧ X'.2.2.2.2 1 0 ≤ Y 1 0 + 1 := by
  have hmap : ∀ {i : Nat} {g : Int → aX}, (f.2.2.2.2.1 i).map g = some X' → ∃ e, f.2.2.2.2.1 i = some e ∧ g e = X' := fun h => by
    cases hq : f.2.2.2.2.1 _ with
    | none => rw [hq] at h; cases h
    | some e => rw [hq] at h; exact ⟨e, rfl, Option.some.inj h⟩
  have hU : ∀ {a i : Nat} {v : Int}, a ≠ 1 → yU Y a i v 1 0 ≤ Y 1 0 + 1 := fun ha => by rw [yU_c ha.symm]; omega
  have hf : ∀ {e : Int} {Z : yM}, Z 1 0 ≤ Y 1 0 + 1 → a_fly Z e 1 0 ≤ Y 1 0 + 1 := fun hz => by
    unfold a_fly
    rw [yU_c (by decide)]; exact hz
  have hn : ∀ {k c : Int}, a_new Y k c 1 0 ≤ Y 1 0 + 1 := Int.le_of_eq new_1
  have hs0 : Y 1 0 ≤ Y 1 0 + 1 := by omega
  have hat : ∀ {j : Nat} {Y' : yM}, Y' 1 0 ≤ Y 1 0 + 1 → a_Q K (a_at f r j Y') ∧ (a_at f r j Y').2.2.2.2 1 0 ≤ Y 1 0 + 1 := fun hz => ⟨Q_at h rfl, hz⟩
  have hth : ∀ {Y' : yM}, a_may (K f.1 1 f.2.1) → Y' 1 0 ≤ Y 1 0 + 1 → a_Q K (a_throw f r Y') ∧ (a_throw f r Y').2.2.2.2 1 0 ≤ Y 1 0 + 1 := fun hm hz => ⟨Q_throw h hm, hz⟩
  unfold a_op at hs
  by_cases h1 : o = 1
  · rw [if_pos h1] at hs
    cases hs
    exact hat (hU (by decide))
  rw [if_neg h1] at hs
  by_cases h2 : o = 2
  · rw [if_pos h2] at hs
    cases hs
    exact hat (hU (by decide))
  rw [if_neg h2] at hs
  by_cases h3 : o = 3
  · rw [if_pos h3] at hs
    by_cases hz : yw (a_val Y y) = 0
    · rw [if_pos hz] at hs; cases hs
      exact hth (by unfold a_may; omega) hn
    · rw [if_neg hz] at hs; cases hs
      exact hat (hU (by decide))
  rw [if_neg h3] at hs
  by_cases h4 : o = 4
  · rw [if_pos h4] at hs
    cases hs
    exact hat (hU (by decide))
  rw [if_neg h4] at hs
  by_cases h5 : o = 5
  · rw [if_pos h5] at hs
    cases hs
    exact ⟨Q_at h rfl, hs0⟩
  rw [if_neg h5] at hs
  by_cases h6 : o = 6
  · rw [if_pos h6] at hs
    cases hs
    exact ⟨Q_at h rfl, hs0⟩
  rw [if_neg h6] at hs
  by_cases h7 : o = 7
  · rw [if_pos h7] at hs
    cases hs
    exact ⟨Q_at h rfl, hs0⟩
  rw [if_neg h7] at hs
  by_cases h8 : o = 8
  · rw [if_pos h8] at hs
    cases hv : f.2.2.2.2.2 x.toNat with
    | none => rw [hv] at hs; cases hs
    | some v =>
      rw [hv] at hs
      dsimp only at hs
      cases r with
      | nil =>
        cases hs
        exact ⟨⟨fun g hg => absurd hg List.not_mem_nil, fun g hg => absurd hg List.not_mem_nil, (fun q => by cases q)⟩, by show yU (yU Y 13 0 0) 13 1 v 1 0 ≤ _; rw [yU_c (by decide), yU_c (by decide)]; omega⟩
      | cons g r' =>
        cases hs
        obtain ⟨h1, h2, h3⟩ := h
        refine ⟨⟨fun g' hg => ?_, fun g' hg => h2 g' (List.mem_cons_of_mem _ hg), (fun q => by cases q)⟩, ?_⟩
        · rcases List.mem_cons.mp hg with rfl | hg
          · exact h1 g (List.mem_cons_of_mem _ List.mem_cons_self)
          · exact h1 g' (List.mem_cons_of_mem _ (List.mem_cons_of_mem _ hg))
        · show (if 0 ≤ f.2.2.1 then yU Y 14 f.2.2.1.toNat v else Y) 1 0 ≤ _
          split
          · exact hU (by decide)
          · exact hs0
  rw [if_neg h8] at hs
  by_cases h9 : o = 9
  · rw [if_pos h9] at hs
    cases hs
    exact Q_enter h (by unfold a_may; omega) (Or.inr (w9 h9))
  rw [if_neg h9] at hs
  by_cases h10 : o = 10
  · rw [if_pos h10] at hs
    cases hs
    exact hth (by unfold a_may; omega) hn
  rw [if_neg h10] at hs
  by_cases h11 : o = 11
  · rw [if_pos h11] at hs
    by_cases hm : 0 < Y 1 0
    · rw [if_pos hm] at hs; cases hs
      exact ⟨Q_at h rfl, hs0⟩
    · rw [if_neg hm] at hs; cases hs
  rw [if_neg h11] at hs
  by_cases h12 : o = 12
  · rw [if_pos h12] at hs
    obtain ⟨e, he, rfl⟩ := hmap hs
    exact hth (by unfold a_may; omega) (hf hs0)
  rw [if_neg h12] at hs
  by_cases h13 : o = 13
  · rw [if_pos h13] at hs
    obtain ⟨e, he, rfl⟩ := hmap hs
    exact hth (by unfold a_may; omega) hn
  rw [if_neg h13] at hs
  by_cases h14 : o = 14
  · rw [if_pos h14] at hs
    obtain ⟨e, he, rfl⟩ := hmap hs
    exact hat (hU (by decide))
  rw [if_neg h14] at hs
  by_cases h15 : o = 15
  · rw [if_pos h15] at hs
    obtain ⟨e, he, hs⟩ := hmap hs
    by_cases hz : Y 15 x.toNat = -1
    · rw [if_pos hz] at hs; subst hs
      exact ⟨Q_at h rfl, hs0⟩
    · rw [if_neg hz] at hs
      by_cases hb : a_behind Y e 3000 (Y 15 x.toNat) = true
      · rw [if_pos hb] at hs; subst hs
        exact hth (by unfold a_may; omega) hn
      · rw [if_neg hb] at hs; subst hs
        exact hat (hU (by decide))
  rw [if_neg h15] at hs
  by_cases h16 : o = 16
  · rw [if_pos h16] at hs
    by_cases hz : Y 15 x.toNat = -1
    · rw [if_pos hz] at hs; cases hs
      exact hth (by unfold a_may; omega) hn
    · rw [if_neg hz] at hs; cases hs
      exact hth (by unfold a_may; omega) (hf hs0)
  rw [if_neg h16] at hs
  by_cases h17 : o = 17 ∨ o = 18
  · rw [if_pos h17] at hs
    cases hs
    exact Q_enter h (by unfold a_may; omega) (Or.inl rfl)
  rw [if_neg h17] at hs
  by_cases h19 : o = 19
  · rw [if_pos h19] at hs
    by_cases hm : 0 < Y 1 0
    · rw [if_pos hm] at hs
      obtain ⟨e, he, rfl⟩ := hmap hs
      refine hth (by unfold a_may; omega) (hf ?_)
      split
      · exact hs0
      · rw [yU_i (by decide)]; exact hs0
    · rw [if_neg hm] at hs; cases hs
  rw [if_neg h19] at hs
  by_cases h20 : o = 20
  · rw [if_pos h20] at hs
    cases hs
    exact ⟨Q_at h rfl, hs0⟩
  rw [if_neg h20] at hs
  cases hs
theorem Q_step {X : aX} (hw : ∀ f, f ∈ X.1 → K f.1 1 f.2.1 = 9 → 0 ≤ K f.1 2 f.2.1 ∧ K f.1 2 f.2.1 < 10) (h : a_Q K X) (hs : a_step K BG CH bl mo de X = some X') : a_Q K X' ∧ X'.2.2.2.2 1 0 ≤ X.2.2.2.2 1 0 + 1 := by
  obtain ⟨fr, fl, bi, ru, Y⟩ := X
  unfold a_step at hs
  dsimp only at hs
  cases ru with
  | false => rw [if_pos rfl] at hs; cases hs
  | true =>
    rw [if_neg (by decide)] at hs
    cases fl with
    | true =>
      rw [if_pos rfl] at hs
      cases fr with
      | nil =>
        cases hs
        exact ⟨⟨fun g hg => absurd hg List.not_mem_nil, fun g hg => absurd hg List.not_mem_nil, (fun q => by cases q)⟩, by show yU (yU Y 13 0 1) 13 2 (Y 0 16) 1 0 ≤ Y 1 0 + 1; rw [yU_c (by decide), yU_c (by decide)]; omega⟩
      | cons f r =>
        dsimp only at hs
        cases hl : a_look bl (a_kd Y (Y 0 16)) (CH f.1 f.2.1) with
        | none =>
          rw [hl] at hs; cases hs
          obtain ⟨h1, h2, h3⟩ := h
          exact ⟨⟨fun g hg => h1 g (List.mem_cons_of_mem _ hg), fun g hg => h2 g (List.mem_of_mem_tail hg), fun _ g hg => h2 g hg⟩, by dsimp only; omega⟩
        | some q =>
          rw [hl] at hs; cases hs
          exact ⟨Q_at h rfl, by show Y 1 0 ≤ Y 1 0 + 1; omega⟩
    | false =>
      rw [if_neg (by decide)] at hs
      cases fr with
      | nil => cases hs
      | cons f r =>
        dsimp only at hs
        cases hq : (BG f.1 f.2.1)[bi]? with
        | some n =>
          rw [hq] at hs
          dsimp only at hs
          by_cases hm : mo ≤ Y 13 3
          · rw [if_pos hm] at hs; cases hs
            obtain ⟨h1, h2, h3⟩ := h
            exact ⟨⟨h1, h2, (fun q => by cases q)⟩, by dsimp only; omega⟩
          · rw [if_neg hm] at hs; cases hs
            refine ⟨Q_at h rfl, ?_⟩
            show a_begin Y n 1 0 ≤ Y 1 0 + 1
            unfold a_begin
            rw [yU_c (by decide), yU_c (by decide)]; omega
        | none =>
          rw [hq] at hs
          exact Q_op h rfl (hw f List.mem_cons_self) hs
end AQu
