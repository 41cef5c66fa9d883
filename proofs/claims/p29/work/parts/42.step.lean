/-! it holds at every step -/
section ASt
variable {K : Nat → Nat → Nat → Int} {BG : Nat → Nat → List Nat} {CH : Nat → Nat → List (Int × Int)} {bl : Int → Int → Bool} {mo de nk : Int} {vp gn : Nat → Prop} {nn np : Nat} {Y Y' : yM} {f f' : aF} {r : List aF} {fl fl' : Bool} {bi bi' : Nat}
theorem ok_mono {a b : Int} (h : a_ok vp a f) (hab : a ≤ b) : a_ok vp b f := ⟨h.1, fun x v hv => by
  have := h.2 x v hv
  omega⟩
theorem I_go (hI : a_I vp gn mo de nk nn np (f :: r, fl, bi, true, Y)) (hf : a_ok vp (Y' 1 0) f') (hJ : a_J gn mo de nk nn np Y') (hm : Y 1 0 ≤ Y' 1 0) (h2 : Y' 13 2 = Y 13 2) (hfl : fl' = true → 0 < Y' 1 0) : a_I vp gn mo de nk nn np (f' :: r, fl', bi', true, Y') := by
  obtain ⟨b1, b2, b3, b4, b5, b6⟩ := hI
  refine ⟨hJ, fun g hg => ?_, hfl, b4, fun _ => h2.trans (b5 rfl), (fun h => by cases h)⟩
  rcases List.mem_cons.mp hg with rfl | hg
  · exact hf
  · exact ok_mono (b2 g (List.mem_cons_of_mem _ hg)) hm
theorem new_132 {k c : Int} : a_new Y k c 13 2 = Y 13 2 := by
  unfold a_new a_fly
  rw [yU_c (by decide), yU_c (by decide), yU_c (by decide), yU_c (by decide)]
theorem I_new (hI : a_I vp gn mo de nk nn np (f :: r, fl, bi, true, Y)) {k c : Int} (hk : 0 ≤ k ∧ k < nk) (hc : c = -1 ∨ (0 ≤ c ∧ c < Y 1 0)) : a_I vp gn mo de nk nn np (a_throw f r (a_new Y k c)) := by
  have h0 := hI.1.1
  dsimp only at h0
  have hf := hI.2.1 f List.mem_cons_self
  dsimp only at hf
  exact I_go hI (by rw [new_1]; exact ok_mono hf (by omega)) (J_new hI.1 hk hc) (by rw [new_1]; omega) new_132 (fun _ => by rw [new_1]; omega)
theorem I_fly (hI : a_I vp gn mo de nk nn np (f :: r, fl, bi, true, Y)) {e : Int} (he : 0 ≤ e ∧ e < Y 1 0) : a_I vp gn mo de nk nn np (a_throw f r (a_fly Y e)) := by
  have hf := hI.2.1 f List.mem_cons_self
  dsimp only at hf
  have e1 : a_fly Y e 1 0 = Y 1 0 := yU_c (by decide)
  exact I_go hI (by rw [e1]; exact hf) (J_fly hI.1 he) (by rw [e1]; exact Int.le_refl _) (yU_c (by decide)) (fun _ => by rw [e1]; omega)
theorem I_enter (hI : a_I vp gn mo de nk nn np (f :: r, fl, bi, true, Y)) (hnk : 5 ≤ nk) (hnp : ∀ p, vp p → p < np) {p v nd : Int} (hp : vp p.toNat) : a_I vp gn mo de nk nn np (a_enter de f r Y p v nd) := by
  unfold a_enter
  by_cases hd : de ≤ (r.length : Int) + 1
  · rw [if_pos hd]
    exact I_new hI ⟨by decide, by omega⟩ (Or.inl rfl)
  · rw [if_neg hd]
    obtain ⟨b1, b2, b3, b4, b5, b6⟩ := hI
    have e1 : a_enterY Y p.toNat ((r.length : Int) + 2) 1 0 = Y 1 0 := by
      unfold a_enterY
      rw [yU_c (by decide), yU_c (by decide), yU_c (by decide)]
    have e2 : a_enterY Y p.toNat ((r.length : Int) + 2) 13 2 = Y 13 2 := by
      unfold a_enterY
      rw [yU_i (by decide), yU_c (by decide), yU_i (by decide)]
    refine ⟨J_enter b1 (hnp _ hp) (by omega), fun g hg => ?_, (fun h => by cases h), ?_, fun _ => e2.trans (b5 rfl), (fun h => by cases h)⟩
    · show a_ok vp (a_enterY Y p.toNat ((r.length : Int) + 2) 1 0) g
      rw [e1]
      rcases List.mem_cons.mp hg with rfl | hg
      · exact ⟨hp, fun x v hv => by cases hv⟩
      · exact b2 g hg
    · show (((_ :: f :: r : List aF).length : Nat) : Int) ≤ de
      rw [List.length_cons, List.length_cons]; omega
theorem I_at (hI : a_I vp gn mo de nk nn np (f :: r, fl, bi, true, Y)) {j : Nat} (hJ : a_J gn mo de nk nn np Y') (hm : Y' 1 0 = Y 1 0) (h2 : Y' 13 2 = Y 13 2) : a_I vp gn mo de nk nn np (a_at f r j Y') := by
  have hf := hI.2.1 f List.mem_cons_self
  dsimp only at hf
  exact I_go hI (by rw [hm]; exact hf) hJ (by omega) h2 (fun h => by cases h)
theorem I_op (hI : a_I vp gn mo de nk nn np (f :: r, fl, bi, true, Y)) {o x y z nd : Int} {X' : aX} (hnk : 5 ≤ nk) (hnp : ∀ p, vp p → p < np) (w9 : o = 9 → vp y.toNat) (w17 : o = 17 ∨ o = 18 → vp x.toNat) (w10 : o = 10 ∨ o = 13 → 0 ≤ x ∧ x < nk) (hs : a_op de f r Y o x y z nd = some X') : a_I vp gn mo de nk nn np X' := by
  have hJ := hI.1
  dsimp only at hJ
  have hf := hI.2.1 f List.mem_cons_self
  dsimp only at hf
  have hc : ∀ {i : Nat} {e : Int}, f.2.2.2.2.1 i = some e → 0 ≤ e ∧ e < Y 1 0 := fun h => hf.2 _ _ h
  have hmap : ∀ {i : Nat} {g : Int → aX}, (f.2.2.2.2.1 i).map g = some X' → ∃ e, f.2.2.2.2.1 i = some e ∧ g e = X' := fun h => by
    cases hq : f.2.2.2.2.1 _ with
    | none => rw [hq] at h; cases h
    | some e => rw [hq] at h; exact ⟨e, rfl, Option.some.inj h⟩
  unfold a_op at hs
  by_cases h1 : o = 1
  · rw [if_pos h1] at hs; cases hs
    exact I_at hI (J_14 hJ) (yU_c (by decide)) (yU_c (by decide))
  rw [if_neg h1] at hs
  by_cases h2 : o = 2
  · rw [if_pos h2] at hs; cases hs
    exact I_at hI (J_14 hJ) (yU_c (by decide)) (yU_c (by decide))
  rw [if_neg h2] at hs
  by_cases h3 : o = 3
  · rw [if_pos h3] at hs
    by_cases hz : yw (a_val Y y) = 0
    · rw [if_pos hz] at hs; cases hs
      exact I_new hI ⟨by decide, by omega⟩ (Or.inl rfl)
    · rw [if_neg hz] at hs; cases hs
      exact I_at hI (J_14 hJ) (yU_c (by decide)) (yU_c (by decide))
  rw [if_neg h3] at hs
  by_cases h4 : o = 4
  · rw [if_pos h4] at hs; cases hs
    exact I_at hI (J_13 hJ (by decide)) (yU_c (by decide)) (yU_i (by decide))
  rw [if_neg h4] at hs
  by_cases h5 : o = 5
  · rw [if_pos h5] at hs; cases hs
    exact I_at hI hJ rfl rfl
  rw [if_neg h5] at hs
  by_cases h6 : o = 6
  · rw [if_pos h6] at hs; cases hs
    exact I_at hI hJ rfl rfl
  rw [if_neg h6] at hs
  by_cases h7 : o = 7
  · rw [if_pos h7] at hs; cases hs
    exact I_go hI (f' := (f.1, f.2.1 + 1, f.2.2.1, f.2.2.2.1, f.2.2.2.2.1, _)) hf hJ (Int.le_refl _) rfl (fun h => by cases h)
  rw [if_neg h7] at hs
  by_cases h8 : o = 8
  · rw [if_pos h8] at hs
    cases hv : f.2.2.2.2.2 x.toNat with
    | none => rw [hv] at hs; cases hs
    | some v =>
      rw [hv] at hs
      dsimp only at hs
      cases r with
      | nil =>
        cases hs
        obtain ⟨b1, b2, b3, b4, b5, b6⟩ := hI
        refine ⟨J_13 (J_13 hJ (by decide)) (by decide), fun g hg => absurd hg List.not_mem_nil, (fun h => by cases h), ?_, (fun h => by cases h), fun _ => Or.inr (show yU (yU Y 13 0 0) 13 1 v 13 2 = -1 by rw [yU_i (by decide), yU_i (by decide)]; exact b5 rfl)⟩
        show ((0 : Nat) : Int) ≤ de
        have b4' : ((1 : Nat) : Int) ≤ de := b4
        omega
      | cons g r' =>
        cases hs
        obtain ⟨b1, b2, b3, b4, b5, b6⟩ := hI
        have e1 : (if 0 ≤ f.2.2.1 then yU Y 14 f.2.2.1.toNat v else Y) 1 0 = Y 1 0 := by
          split
          · exact yU_c (by decide)
          · rfl
        have e2 : (if 0 ≤ f.2.2.1 then yU Y 14 f.2.2.1.toNat v else Y) 13 2 = Y 13 2 := by
          split
          · exact yU_c (by decide)
          · rfl
        refine ⟨?_, fun g' hg => ?_, (fun h => by cases h), ?_, fun _ => e2.trans (b5 rfl), (fun h => by cases h)⟩
        · show a_J gn mo de nk nn np (if 0 ≤ f.2.2.1 then yU Y 14 f.2.2.1.toNat v else Y)
          split
          · exact J_14 hJ
          · exact hJ
        · show a_ok vp ((if 0 ≤ f.2.2.1 then yU Y 14 f.2.2.1.toNat v else Y) 1 0) g'
          rw [e1]
          rcases List.mem_cons.mp hg with rfl | hg
          · exact b2 g (List.mem_cons_of_mem _ List.mem_cons_self)
          · exact b2 g' (List.mem_cons_of_mem _ (List.mem_cons_of_mem _ hg))
        · have b4' : (((f :: g :: r' : List aF).length : Nat) : Int) ≤ de := b4
          rw [List.length_cons] at b4'
          show (((_ :: r' : List aF).length : Nat) : Int) ≤ de
          rw [List.length_cons] at b4' ⊢
          omega
  rw [if_neg h8] at hs
  by_cases h9 : o = 9
  · rw [if_pos h9] at hs; cases hs
    exact I_enter hI hnk hnp (w9 h9)
  rw [if_neg h9] at hs
  by_cases h10 : o = 10
  · rw [if_pos h10] at hs; cases hs
    exact I_new hI (w10 (Or.inl h10)) (Or.inl rfl)
  rw [if_neg h10] at hs
  by_cases h11 : o = 11
  · rw [if_pos h11] at hs
    by_cases hm : 0 < Y 1 0
    · rw [if_pos hm] at hs; cases hs
      refine I_go hI (f' := (f.1, f.2.1 + 1, f.2.2.1, f.2.2.2.1, a_upd f.2.2.2.2.1 x.toNat (Y 0 16), f.2.2.2.2.2)) ⟨hf.1, fun i v hv => ?_⟩ hJ (Int.le_refl _) rfl (fun h => by cases h)
      have hv : a_upd f.2.2.2.2.1 x.toNat (Y 0 16) i = some v := hv
      unfold a_upd at hv
      by_cases hi : i = x.toNat
      · rw [if_pos hi] at hv; cases hv
        exact hJ.2.1 hm
      · rw [if_neg hi] at hv
        exact hc hv
    · rw [if_neg hm] at hs; cases hs
  rw [if_neg h11] at hs
  by_cases h12 : o = 12
  · rw [if_pos h12] at hs
    obtain ⟨e, he, rfl⟩ := hmap hs
    exact I_fly hI (hc he)
  rw [if_neg h12] at hs
  by_cases h13 : o = 13
  · rw [if_pos h13] at hs
    obtain ⟨e, he, rfl⟩ := hmap hs
    exact I_new hI (w10 (Or.inr h13)) (Or.inr (hc he))
  rw [if_neg h13] at hs
  by_cases h14 : o = 14
  · rw [if_pos h14] at hs
    obtain ⟨e, he, rfl⟩ := hmap hs
    exact I_at hI (J_slot hJ (hc he)) (yU_c (by decide)) (yU_c (by decide))
  rw [if_neg h14] at hs
  by_cases h15 : o = 15
  · rw [if_pos h15] at hs
    obtain ⟨e, he, hs⟩ := hmap hs
    by_cases hz : Y 15 x.toNat = -1
    · rw [if_pos hz] at hs; subst hs
      exact I_at hI hJ rfl rfl
    · rw [if_neg hz] at hs
      by_cases hb : a_behind Y e 3000 (Y 15 x.toNat) = true
      · rw [if_pos hb] at hs; subst hs
        exact I_new hI ⟨by decide, by omega⟩ (Or.inl rfl)
      · rw [if_neg hb] at hs; subst hs
        have hsl := hJ.2.2.1 x.toNat
        exact I_at hI (J_link hJ (hc he) (by omega) (by
          cases hq : a_behind Y e 3000 (Y 15 x.toNat) with
          | true => exact absurd hq hb
          | false => rfl)) (yU_c (by decide)) (yU_c (by decide))
  rw [if_neg h15] at hs
  by_cases h16 : o = 16
  · rw [if_pos h16] at hs
    by_cases hz : Y 15 x.toNat = -1
    · rw [if_pos hz] at hs; cases hs
      exact I_new hI ⟨by decide, by omega⟩ (Or.inl rfl)
    · rw [if_neg hz] at hs; cases hs
      have hsl := hJ.2.2.1 x.toNat
      exact I_fly hI (by omega)
  rw [if_neg h16] at hs
  by_cases h17 : o = 17 ∨ o = 18
  · rw [if_pos h17] at hs; cases hs
    exact I_enter hI hnk hnp (w17 h17)
  rw [if_neg h17] at hs
  by_cases h19 : o = 19
  · rw [if_pos h19] at hs
    by_cases hm : 0 < Y 1 0
    · rw [if_pos hm] at hs
      obtain ⟨e, he, rfl⟩ := hmap hs
      by_cases hq : Y 0 16 = e
      · rw [if_pos hq]
        exact I_fly hI (hc he)
      · rw [if_neg hq]
        have e1 : yU Y 1 1 (Y 1 1 + 1) 1 0 = Y 1 0 := yU_i (by decide)
        have e2 : a_fly (yU Y 1 1 (Y 1 1 + 1)) e 1 0 = Y 1 0 := (yU_c (by decide)).trans e1
        refine I_go hI (by rw [e2]; exact hf) (J_fly (J_sup hJ) (by rw [e1]; exact hc he)) (by rw [e2]; exact Int.le_refl _) ((yU_c (by decide)).trans (yU_c (by decide))) (fun _ => by rw [e2]; exact hm)
    · rw [if_neg hm] at hs; cases hs
  rw [if_neg h19] at hs
  by_cases h20 : o = 20
  · rw [if_pos h20] at hs; cases hs
    exact I_at hI hJ rfl rfl
  rw [if_neg h20] at hs
  cases hs
theorem inv_step (hw : a_wk K BG vp gn nk nn np) : a_inv K BG CH bl mo de (a_I vp gn mo de nk nn np) := by
  refine ⟨fun X X' hI hs => ?_, fun X hI => ⟨hI.1.1, hI.1.2.2.2.2.2.2.2.2.2.2.2.2.1, fun h => hI.1.2.1 (hI.2.2.1 h)⟩⟩
  obtain ⟨fr, fl, bi, ru, Y⟩ := X
  unfold a_step at hs
  dsimp only at hs
  cases ru with
  | false => rw [if_pos rfl] at hs; cases hs
  | true =>
    rw [if_neg (by decide)] at hs
    cases fl with
    | true =>
      rw [if_pos rfl] at hs
      cases fr with
      | nil =>
        cases hs
        obtain ⟨b1, b2, b3, b4, b5, b6⟩ := hI
        exact ⟨J_13 (J_13 b1 (by decide)) (by decide), fun g hg => absurd hg List.not_mem_nil, (fun h => by cases h), b4, (fun h => by cases h), fun _ => Or.inl (show yU (yU Y 13 0 1) 13 2 (Y 0 16) 13 0 = 1 by rw [yU_i (by decide), yU_at])⟩
      | cons f r =>
        dsimp only at hs
        cases hl : a_look bl (a_kd Y (Y 0 16)) (CH f.1 f.2.1) with
        | none =>
          rw [hl] at hs; cases hs
          obtain ⟨b1, b2, b3, b4, b5, b6⟩ := hI
          refine ⟨b1, fun g hg => b2 g (List.mem_cons_of_mem _ hg), fun _ => b3 rfl, ?_, fun _ => b5 rfl, (fun h => by cases h)⟩
          have b4' : (((f :: r : List aF).length : Nat) : Int) ≤ de := b4
          rw [List.length_cons] at b4'
          show ((r.length : Nat) : Int) ≤ de
          omega
        | some h =>
          rw [hl] at hs; cases hs
          exact I_at hI hI.1 rfl rfl
    | false =>
      rw [if_neg (by decide)] at hs
      cases fr with
      | nil => cases hs
      | cons f r =>
        dsimp only at hs
        have hf := (hI.2.1 f List.mem_cons_self).1
        obtain ⟨hnk, hnp, hw⟩ := hw
        obtain ⟨hb, w9, w17, w10⟩ := hw f.1 hf f.2.1
        cases hq : (BG f.1 f.2.1)[bi]? with
        | some n =>
          rw [hq] at hs
          dsimp only at hs
          by_cases hm : mo ≤ Y 13 3
          · rw [if_pos hm] at hs; cases hs
            obtain ⟨b1, b2, b3, b4, b5, b6⟩ := hI
            exact ⟨b1, b2, (fun h => by cases h), b4, (fun h => by cases h), fun _ => Or.inr (b5 rfl)⟩
          · rw [if_neg hm] at hs; cases hs
            have hn := hb n (List.mem_of_getElem? hq)
            have e1 : a_begin Y n 1 0 = Y 1 0 := by
              unfold a_begin
              rw [yU_c (by decide), yU_c (by decide)]
            have e2 : a_begin Y n 13 2 = Y 13 2 := by
              unfold a_begin
              rw [yU_c (by decide), yU_i (by decide)]
            have hf2 := hI.2.1 f List.mem_cons_self
            dsimp only at hf2
            exact I_go hI (by rw [e1]; exact hf2) (J_begin hI.1 hn.1 hn.2 hm) (by rw [e1]; exact Int.le_refl _) e2 (fun h => by cases h)
        | none =>
          rw [hq] at hs
          exact I_op hI hnk hnp w9 w17 w10 hs
end ASt
