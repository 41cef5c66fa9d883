/-! an instruction with what begins at it; unwinding; turns -/
section YPf
variable {M0 M M' : yM} {m N : Nat} {CH : Nat → Nat → List (Int × Int)} {bl : Int → Int → Bool} {Y Y' : yM} {f : aF} {r : List aF} {mo de nk : Int} {bi : Nat} {vp gn : Nat → Prop} {nn np : Nat} {X X' Xe : aX}
theorem ypz_id {p : Nat} (h : p < 8) : ypz 8 (p : Int) = p := by
  unfold ypz
  rw [yw_of (by omega) (by omega), if_pos (by omega), Int.toNat_natCast]
theorem run_pos {K : Nat → Nat → Nat → Int} {BG : Nat → Nat → List Nat} {t : Nat} (h : a_run K BG CH bl mo de t X = some Xe) (h1 : X.2.2.2.1 = true) (h2 : Xe.2.2.2.1 = false) : ∃ t' X1, t = t' + 1 ∧ a_step K BG CH bl mo de X = some X1 ∧ a_run K BG CH bl mo de t' X1 = some Xe := by
  cases t with
  | zero =>
    cases h
    rw [h1] at h2; cases h2
  | succ t =>
    have h' : (a_step K BG CH bl mo de X).bind (a_run K BG CH bl mo de t) = some Xe := h
    cases e : a_step K BG CH bl mo de X with
    | none => rw [e] at h'; cases h'
    | some X1 => rw [e] at h'; exact ⟨t, X1, rfl, rfl, h'⟩
theorem op_bi {o x y z nd : Int} (h : a_op de f r Y o x y z nd = some X') : X'.2.2.1 = 0 ∧ (X'.2.1 = true → X'.2.2.2.1 = true) := by
  have hmap : ∀ {i : Nat} {g : Int → aX}, (∀ e, (g e).2.2.1 = 0 ∧ ((g e).2.1 = true → (g e).2.2.2.1 = true)) → (f.2.2.2.2.1 i).map g = some X' → X'.2.2.1 = 0 ∧ (X'.2.1 = true → X'.2.2.2.1 = true) := fun hg h => by
    cases hq : f.2.2.2.2.1 _ with
    | none => rw [hq] at h; cases h
    | some e => rw [hq] at h; cases h; exact hg e
  have hen : ∀ {q v : Int}, (a_enter de f r Y q v nd).2.2.1 = 0 ∧ ((a_enter de f r Y q v nd).2.1 = true → (a_enter de f r Y q v nd).2.2.2.1 = true) := fun {q v} => by
    unfold a_enter
    split <;> exact ⟨rfl, fun _ => rfl⟩
  unfold a_op at h
  by_cases h1 : o = 1
  · rw [if_pos h1] at h; cases h; exact ⟨rfl, fun _ => rfl⟩
  rw [if_neg h1] at h
  by_cases h1 : o = 2
  · rw [if_pos h1] at h; cases h; exact ⟨rfl, fun _ => rfl⟩
  rw [if_neg h1] at h
  by_cases h1 : o = 3
  · rw [if_pos h1] at h
    by_cases hz : yw (a_val Y y) = 0
    · rw [if_pos hz] at h; cases h; exact ⟨rfl, fun _ => rfl⟩
    · rw [if_neg hz] at h; cases h; exact ⟨rfl, fun _ => rfl⟩
  rw [if_neg h1] at h
  by_cases h1 : o = 4
  · rw [if_pos h1] at h; cases h; exact ⟨rfl, fun _ => rfl⟩
  rw [if_neg h1] at h
  by_cases h1 : o = 5
  · rw [if_pos h1] at h; cases h; exact ⟨rfl, fun _ => rfl⟩
  rw [if_neg h1] at h
  by_cases h1 : o = 6
  · rw [if_pos h1] at h; cases h; exact ⟨rfl, fun _ => rfl⟩
  rw [if_neg h1] at h
  by_cases h1 : o = 7
  · rw [if_pos h1] at h; cases h; exact ⟨rfl, fun _ => rfl⟩
  rw [if_neg h1] at h
  by_cases h1 : o = 8
  · rw [if_pos h1] at h
    cases hv : f.2.2.2.2.2 x.toNat with
    | none => rw [hv] at h; cases h
    | some v =>
      rw [hv] at h
      cases r with
      | nil => cases h; exact ⟨rfl, fun q => by cases q⟩
      | cons g r' => cases h; exact ⟨rfl, fun _ => rfl⟩
  rw [if_neg h1] at h
  by_cases h1 : o = 9
  · rw [if_pos h1] at h; cases h; exact hen
  rw [if_neg h1] at h
  by_cases h1 : o = 10
  · rw [if_pos h1] at h; cases h; exact ⟨rfl, fun _ => rfl⟩
  rw [if_neg h1] at h
  by_cases h1 : o = 11
  · rw [if_pos h1] at h
    by_cases hz : 0 < Y 1 0
    · rw [if_pos hz] at h; cases h; exact ⟨rfl, fun _ => rfl⟩
    · rw [if_neg hz] at h; cases h
  rw [if_neg h1] at h
  by_cases h1 : o = 12
  · rw [if_pos h1] at h; exact hmap (fun _ => ⟨rfl, fun _ => rfl⟩) h
  rw [if_neg h1] at h
  by_cases h1 : o = 13
  · rw [if_pos h1] at h; exact hmap (fun _ => ⟨rfl, fun _ => rfl⟩) h
  rw [if_neg h1] at h
  by_cases h1 : o = 14
  · rw [if_pos h1] at h; exact hmap (fun _ => ⟨rfl, fun _ => rfl⟩) h
  rw [if_neg h1] at h
  by_cases h1 : o = 15
  · rw [if_pos h1] at h
    refine hmap (fun e => ?_) h
    split
    · exact ⟨rfl, fun _ => rfl⟩
    · split <;> exact ⟨rfl, fun _ => rfl⟩
  rw [if_neg h1] at h
  by_cases h1 : o = 16
  · rw [if_pos h1] at h
    cases h
    split <;> exact ⟨rfl, fun _ => rfl⟩
  rw [if_neg h1] at h
  by_cases h1 : o = 17 ∨ o = 18
  · rw [if_pos h1] at h; cases h; exact hen
  rw [if_neg h1] at h
  by_cases h1 : o = 19
  · rw [if_pos h1] at h
    by_cases hz : 0 < Y 1 0
    · rw [if_pos hz] at h; exact hmap (fun _ => ⟨rfl, fun _ => rfl⟩) h
    · rw [if_neg hz] at h; cases h
  rw [if_neg h1] at h
  by_cases h1 : o = 20
  · rw [if_pos h1] at h; cases h; exact ⟨rfl, fun _ => rfl⟩
  rw [if_neg h1] at h
  cases h
theorem l_90 {t : Nat} (hm : pM m) (hmo0 : 0 ≤ mo) (hmo : mo ≤ 3000) (hde : de ≤ 30) (hN : 4000 ≤ N) (hcF : cF M0 vp) (h : rel M m mo de (f :: r, false, 0, true, Y)) (hI : a_I vp gn mo de nk nn np (f :: r, false, 0, true, Y)) (hw : a_wk (kM M0) (bM M0) vp gn nk nn np) (hv : a_var f) (hs : Y 1 0 ≤ 2000000000) (hr : rst M0 M m) (ht : a_run (kM M0) (bM M0) CH bl mo de t (f :: r, false, 0, true, Y) = some Xe) (hXe : Xe.2.2.2.1 = false) :
    ∃ s X1 M1, 1 ≤ s ∧ s ≤ t ∧ a_run (kM M0) (bM M0) CH bl mo de s (f :: r, false, 0, true, Y) = some X1 ∧ f_90 N M m = some M1 ∧ rel M1 m mo de X1 ∧ rst M M1 m ∧ (X1.2.2.2.1 = false ∨ X1.2.2.1 = 0) ∧ (X1.2.1 = true → X1.2.2.2.1 = true) := by
  have hp := (hI.2.1 f List.mem_cons_self).1
  have hmm : m = 196 ∨ m = 306 := hm
  obtain ⟨h8, l0, l1, hall⟩ := hcF f.1 hp
  have hi : (f.2.1 : Int) < M0 (24 + 9 * f.1) 0 := by
    obtain ⟨t', X1, -, e1, -⟩ := run_pos ht rfl hXe
    by_cases hi : (f.2.1 : Int) < M0 (24 + 9 * f.1) 0
    · exact hi
    · exfalso
      have e2 : bM M0 f.1 f.2.1 = [] := if_neg hi
      have e3 : ∀ c, kM M0 f.1 c f.2.1 = 0 := fun c => if_neg hi
      rw [st_op (bi := 0) (by rw [e2]; rfl) (e3 1) (e3 2) (e3 3) (e3 4) (e3 5)] at e1
      cases e1
  obtain ⟨⟨w2, wn⟩, q1, q2, q3, q4⟩ := hall f.2.1 hi
  have hle := hI.2.2.2.1
  dsimp only at hle
  rw [List.length_cons] at hle
  have ed : M m 12 = (r.length : Int) + 1 := by
    have e := h.2.2.1
    dsimp only at e
    rw [List.length_cons] at e
    omega
  have ep : M (m + 20 + 3 * r.length) 1 = (f.2.1 : Int) := h.2.1.1.2.1
  have ef : M (m + 20 + 3 * r.length) 0 = (f.1 : Int) := h.2.1.1.1
  have hY := hI.1
  dsimp only at hY
  have hY0 := hY.2.2.2.2.2.2.2.2.2.2.2.1
  have hY1 := hY.2.2.2.2.2.2.2.2.2.2.2.2.1
  have e6 : yrd M (24 + 9 * f.1 + 6) (f.2.1 : Int) = M0 (24 + 9 * f.1 + 6) f.2.1 := by
    rw [rd_st hr (by omega), rd_in (by omega) (by rw [ln_c h8 (by omega)]; omega), Int.toNat_natCast]
  have e7 : yrd M (24 + 9 * f.1 + 7) (f.2.1 : Int) = M0 (24 + 9 * f.1 + 7) f.2.1 := by
    rw [rd_st hr (by omega), rd_in (by omega) (by rw [ln_c h8 (by omega)]; omega), Int.toNat_natCast]
  have e81 : f_81 N M m (24 + 9 * f.1) (f.2.1 : Int) = f_81_12 N N M m (24 + 9 * f.1) (M0 (24 + 9 * f.1 + 6) f.2.1) (M0 (24 + 9 * f.1 + 7) f.2.1) 0 := by
    unfold f_81
    rw [ylet_eq, ylet_eq, e6, e7]
  have e0 : M (24 + 9 * f.1) 0 = M0 (24 + 9 * f.1) 0 := hr.1 _ _ (by omega)
  have e90 : f_90 N M m = Option.bind (f_81_12 N N M m (24 + 9 * f.1) (M0 (24 + 9 * f.1 + 6) f.2.1) (M0 (24 + 9 * f.1 + 7) f.2.1) 0) fun t11 => (cond (yrel 1 (t11.2) 0) (cond (yrel 0 (f_42 t11.1 (yrd t11.1 ((24 + 9 * f.1) + 1) (f.2.1 : Int))) 0) (Option.bind (f_92 t11.1 m (24 + 9 * f.1) (f.2.1 : Int) (m + 20 + 3 * r.length)) fun t14 => some t14) (Option.bind (f_91 N t11.1 m (24 + 9 * f.1) (f.2.1 : Int) (m + 20 + 3 * r.length)) fun t15 => some t15)) (ylet (yU t11.1 m 15 0) fun M16 => some M16)) := by
    unfold f_90
    rw [ed, rel2 ⟨by omega, by omega⟩ ⟨by decide, by decide⟩, cond_df (by omega), rel5 ⟨by omega, by omega⟩ ⟨by decide, by decide⟩, cond_dt (by omega)]
    unfold yox
    rw [yw_of (by omega) (by omega), if_pos (by omega)]
    dsimp only
    rw [show ((r.length : Int) + 1 - 1).toNat = r.length by omega, ylet_eq, ep, ef, ypz_id h8, rel2 ⟨by omega, by omega⟩ ⟨by decide, by decide⟩, cond_df (by omega), rel3 ⟨by omega, by omega⟩ ⟨by omega, by omega⟩, cond_df (by omega), e81]
  rcases l_81 (N := N) (CH := CH) (bl := bl) hm hmo0 hmo hcF hp hi (M0 (24 + 9 * f.1 + 7) f.2.1).toNat N 0 M Y (by omega) (by omega) h hY0 (by omega) hr with ⟨s, Y', M', bi', g1, g2, g3, g4, g5, g6⟩ | ⟨Y', M', g3, g4, g5, g6, hmade⟩
  · have hst : s ≤ t := by
      rcases Nat.lt_or_ge t s with hlt | hge
      · exfalso
        obtain ⟨d, rfl⟩ : ∃ d, s = t + (d + 1) := ⟨s - t - 1, by omega⟩
        rw [a_run_add _ _ _ _ _ _ ht] at g3
        have hX : a_step (kM M0) (bM M0) CH bl mo de Xe = none := by
          unfold a_step
          rw [if_pos hXe]
        have g3' : (a_step (kM M0) (bM M0) CH bl mo de Xe).bind (a_run (kM M0) (bM M0) CH bl mo de d) = _ := g3
        rw [hX] at g3'
        cases g3'
      · exact hge
    refine ⟨s, _, yU M' m 15 0, g1, hst, g3, ?_, rel_run (bi' := bi') g5 false, rst_trans g6 (rst_U (by omega)), Or.inl rfl, fun q => by cases q⟩
    rw [e90, show ((0 : Nat) : Int) = 0 from rfl] at *
    rw [g4]; rfl
  · have hrun := a_run_add (kM M0) (bM M0) CH bl mo de (t := 0) g3
    have hlt : (M0 (24 + 9 * f.1 + 7) f.2.1).toNat < t := by
      rcases Nat.lt_or_ge (M0 (24 + 9 * f.1 + 7) f.2.1).toNat t with hlt | hge
      · exact hlt
      · exfalso
        obtain ⟨d, hd⟩ : ∃ d, (M0 (24 + 9 * f.1 + 7) f.2.1).toNat = t + d := ⟨(M0 (24 + 9 * f.1 + 7) f.2.1).toNat - t, by omega⟩
        rw [hd, a_run_add _ _ _ _ _ _ ht] at g3
        cases d with
        | zero => cases g3; cases hXe
        | succ d =>
          have hX : a_step (kM M0) (bM M0) CH bl mo de Xe = none := by
            unfold a_step
            rw [if_pos hXe]
          have g3' : (a_step (kM M0) (bM M0) CH bl mo de Xe).bind (a_run (kM M0) (bM M0) CH bl mo de d) = _ := g3
          rw [hX] at g3'
          cases g3'
    obtain ⟨d, rfl⟩ : ∃ d, t = (M0 (24 + 9 * f.1 + 7) f.2.1).toNat + d := ⟨t - (M0 (24 + 9 * f.1 + 7) f.2.1).toNat, by omega⟩
    have ht2 := ht
    rw [a_run_add _ _ _ _ _ _ g3] at ht2
    obtain ⟨d', X1, rfl, e1, e2⟩ := run_pos ht2 rfl hXe
    have hlen : (bM M0 f.1 f.2.1).length = (M0 (24 + 9 * f.1 + 7) f.2.1).toNat := by
      unfold bM
      rw [if_pos hi, List.length_map, List.length_range]
    have hk : ∀ c, kM M0 f.1 c f.2.1 = M0 (24 + 9 * f.1 + c) f.2.1 := fun c => if_pos hi
    have hop := e1
    rw [st_op (bi := (M0 (24 + 9 * f.1 + 7) f.2.1).toNat) hlen (hk 1) (hk 2) (hk 3) (hk 4) (hk 5)] at hop
    have hI' := run_inv (inv_step (CH := CH) (bl := bl) (mo := mo) (de := de) hw) hI g3
    have hrd : ∀ c, 1 ≤ c → c ≤ 5 → yrd M' (24 + 9 * f.1 + c) (f.2.1 : Int) = M0 (24 + 9 * f.1 + c) f.2.1 := fun c hc1 hc2 => by
      rw [rd_st (rst_trans hr g6) (by omega), rd_in (by omega) (by rw [ln_c h8 (by omega)]; omega), Int.toNat_natCast]
    obtain ⟨M1, z1, z2, z3⟩ := op_rel (N := N) (c := 24 + 9 * f.1) hm g5 hI' hv (by omega) hde (by omega) (by omega) (hrd 1 (by omega) (by omega)) (hrd 2 (by omega) (by omega)) (hrd 3 (by omega) (by omega)) (hrd 4 (by omega) (by omega)) (hrd 5 (by omega) (by omega)) w2 (fun q => by rw [(rst_trans hr g6).1 1 7 (by omega)]; exact wn q) hop
    refine ⟨(M0 (24 + 9 * f.1 + 7) f.2.1).toNat + 1, X1, M1, by omega, by omega, ?_, ?_, z2, rst_trans g6 z3, Or.inr (op_bi hop).1, (op_bi hop).2⟩
    · rw [a_run_add _ _ _ _ _ _ g3]
      exact run_one e1
    · rw [e90, show (0 : Int) = ((0 : Nat) : Int) from rfl, g4]
      show cond (yrel 0 (f_42 M' (yrd M' (24 + 9 * f.1 + 1) (f.2.1 : Int))) 0) _ _ = _
      rw [bind_id, bind_id, hrd 1 (by omega) (by omega)]
      exact z1
end YPf
