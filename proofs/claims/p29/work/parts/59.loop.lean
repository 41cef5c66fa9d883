/-! unwinding, and turn by turn to the end -/
section YLp
variable {M0 M M' : yM} {m N : Nat} {CH : Nat → Nat → List (Int × Int)} {bl : Int → Int → Bool} {Y Y' : yM} {f : aF} {r : List aF} {mo de nk : Int} {bi : Nat} {vp gn : Nat → Prop} {nn np : Nat} {X X' Xe : aX}
theorem kM_may {p i : Nat} (h : a_may (kM M0 p 1 i)) : (i : Int) < M0 (24 + 9 * p) 0 ∧ a_may (M0 (24 + 9 * p + 1) i) := by
  by_cases hi : (i : Int) < M0 (24 + 9 * p) 0
  · have e : kM M0 p 1 i = M0 (24 + 9 * p + 1) i := if_pos hi
    rw [e] at h
    exact ⟨hi, h⟩
  · have e : kM M0 p 1 i = 0 := if_neg hi
    rw [e] at h
    unfold a_may at h
    omega
theorem l_99 (hm : pM m) (hcF : cF M0 vp) (hlF : lF N M0 m CH bl vp) : ∀ (fr : List aF) (n : Nat) (M Y : yM), rel M m mo de (fr, false, 0, true, Y) → (∀ f, f ∈ fr → vp f.1 ∧ a_may (kM M0 f.1 1 f.2.1)) → 0 ≤ Y 0 16 ∧ Y 0 16 < Y 1 0 → Y 1 0 ≤ 2000000000 → fr.length ≤ 30 → fr.length < n → rst M0 M m →
    ∃ s X1 M1, 1 ≤ s ∧ a_run (kM M0) (bM M0) CH bl mo de s (fr, true, 0, true, Y) = some X1 ∧ f_99_3 N n M m = some M1 ∧ rel M1 m mo de X1 ∧ X1.2.1 = false ∧ X1.2.2.1 = 0 ∧ rst M M1 m
  | _, 0, _, _, _, _, _, _, _, h, _ => absurd h (Nat.not_lt_zero _)
  | [], n + 1, M, Y, h, hf, hfl, hs, hl, hn, hr => by
    have ed : M m 12 = 0 := h.2.2.1
    have e16 : M m 16 = Y 0 16 := h.1.1 (by show 0 < Y 1 0; omega)
    rw [f_99_3, ed, rel5 ⟨by decide, by decide⟩ ⟨by decide, by decide⟩, cond_dt (by decide)]
    unfold f_99_44
    rw [ylet_eq, ylet_eq]
    have p2 := rel_run (bi' := 0) h false
    have p3 := rel_wr (k := 0) (v := 1) (bi' := 0) hm p2 (Or.inl rfl) (by decide) (by rw [ln_13 hm]; decide)
    have e16' : ywr (yU M m 15 0) (m + 13) 0 1 m 16 = Y 0 16 := (wr_c (by omega)).trans ((yU_i (by decide)).trans e16)
    have p4 := rel_wr (k := 2) (v := Y 0 16) (bi' := 0) hm p3 (Or.inl rfl) (by decide) (by rw [ln_13 hm]; decide)
    rw [ylet_eq, e16']
    refine ⟨1, _, _, Nat.le_refl _, run_one rfl, rfl, p4, rfl, rfl, rst_trans (rst_U (by omega)) (rst_trans (rst_wr (by omega)) (rst_wr (by omega)))⟩
  | f :: r, n + 1, M, Y, h, hf, hfl, hs, hl, hn, hr => by
    have hmm : m = 196 ∨ m = 306 := hm
    obtain ⟨hp, hmay⟩ := hf f List.mem_cons_self
    obtain ⟨hi, hmay⟩ := kM_may hmay
    obtain ⟨h8, l0, l1, hall⟩ := hcF f.1 hp
    rw [List.length_cons] at hl hn
    have ed : M m 12 = (r.length : Int) + 1 := by
      have e := h.2.2.1
      dsimp only at e
      rw [List.length_cons] at e
      omega
    have ep : M (m + 20 + 3 * r.length) 1 = (f.2.1 : Int) := h.2.1.1.2.1
    have ef : M (m + 20 + 3 * r.length) 0 = (f.1 : Int) := h.2.1.1.1
    have e16 : M m 16 = Y 0 16 := h.1.1 (by show 0 < Y 1 0; omega)
    obtain ⟨g1, g2⟩ := hlF M hr f.1 hp f.2.1 hi hmay
    have ek : yrd M (m + 1 + 1) (M m 16) = a_kd Y (Y 0 16) := by
      rw [e16]
      unfold a_kd
      by_cases hb : Y 0 16 < 3000
      · rw [rd_in hfl.1 (by rw [ln_2 hm]; omega), if_pos hb]
        exact (h.1.2.2.1 (Y 0 16).toNat (by omega) (by show ((Y 0 16).toNat : Int) < Y 1 0; omega)).1
      · rw [rd_out ⟨by omega, by omega⟩ (Or.inr (by rw [ln_2 hm]; omega)), if_neg hb]
    rw [ek] at g1
    rw [f_99_3, ed, rel5 ⟨by omega, by omega⟩ ⟨by decide, by decide⟩, cond_df (by omega), rel4 ⟨by omega, by omega⟩ ⟨by decide, by decide⟩, cond_df (by omega)]
    unfold yox
    rw [yw_of (by omega) (by omega), if_pos (by omega)]
    dsimp only
    rw [show ((r.length : Int) + 1 - 1).toNat = r.length by omega, show (r.length : Int) + 1 - 1 = (r.length : Int) by omega, ep, ef, ypz_id h8, g1]
    show ∃ s X1 M1, 1 ≤ s ∧ _ ∧ (cond (yrel 0 (a_res (a_look bl (a_kd Y (Y 0 16)) (CH f.1 f.2.1))) (-1)) _ _) = some M1 ∧ _
    cases hk : a_look bl (a_kd Y (Y 0 16)) (CH f.1 f.2.1) with
    | some q =>
      have hq := g2 _ _ hk
      show ∃ s X1 M1, 1 ≤ s ∧ _ ∧ (cond (yrel 0 q (-1)) _ _) = some M1 ∧ _
      rw [rel0 ⟨by omega, by omega⟩ ⟨by decide, by decide⟩, cond_df (by omega), ylet_eq]
      have p2 := rel_place (j := q.toNat) (bi' := 0) h
      rw [Int.toNat_of_nonneg hq.1] at p2
      exact ⟨1, _, _, Nat.le_refl _, run_one (st_look hk), rfl, p2, rfl, rfl, rst_U (by omega)⟩
    | none =>
      show ∃ s X1 M1, 1 ≤ s ∧ _ ∧ (cond (yrel 0 (-1) (-1)) _ _) = some M1 ∧ _
      rw [rel0 ⟨by decide, by decide⟩ ⟨by decide, by decide⟩, cond_dt rfl, ylet_eq]
      obtain ⟨s, X1, M1, k1, k2, k3, k4, k5, k6, k7⟩ := l_99 hm hcF hlF r n (yU M m 12 (r.length : Int)) Y (rel_pop (bi' := 0) h) (fun g hg => hf g (List.mem_cons_of_mem _ hg)) hfl hs (by omega) (by omega) (rst_trans hr (rst_U (by omega)))
      exact ⟨s + 1, X1, M1, by omega, run_cons (st_pop hk) k2, k3, k4, k5, k6, rst_trans (rst_U (by omega)) k7⟩
theorem run_le {K : Nat → Nat → Nat → Int} {BG : Nat → Nat → List Nat} {s t : Nat} {X1 : aX} (h : a_run K BG CH bl mo de t X = some Xe) (h1 : a_run K BG CH bl mo de s X = some X1) (h2 : Xe.2.2.2.1 = false) : s ≤ t ∧ a_run K BG CH bl mo de (t - s) X1 = some Xe := by
  rcases Nat.lt_or_ge t s with hlt | hge
  · exfalso
    obtain ⟨d, rfl⟩ : ∃ d, s = t + (d + 1) := ⟨s - t - 1, by omega⟩
    rw [a_run_add _ _ _ _ _ _ h] at h1
    have hX : a_step K BG CH bl mo de Xe = none := by
      unfold a_step
      rw [if_pos h2]
    have h1' : (a_step K BG CH bl mo de Xe).bind (a_run K BG CH bl mo de d) = _ := h1
    rw [hX] at h1'
    cases h1'
  · refine ⟨hge, ?_⟩
    obtain ⟨d, rfl⟩ : ∃ d, t = s + d := ⟨t - s, by omega⟩
    rw [a_run_add _ _ _ _ _ _ h1] at h
    rw [Nat.add_sub_cancel_left]
    exact h
theorem run_Q (hcF : cF M0 vp) (hw : a_wk (kM M0) (bM M0) vp gn nk nn np) : ∀ {s : Nat} {X X1 : aX}, a_I vp gn mo de nk nn np X → a_Q (kM M0) X → a_run (kM M0) (bM M0) CH bl mo de s X = some X1 → a_Q (kM M0) X1 ∧ X1.2.2.2.2 1 0 ≤ X.2.2.2.2 1 0 + (s : Int)
  | 0, X, X1, _, hQ, h => by
    cases h
    exact ⟨hQ, by omega⟩
  | s + 1, X, X1, hI, hQ, h => by
    have h' : (a_step (kM M0) (bM M0) CH bl mo de X).bind (a_run (kM M0) (bM M0) CH bl mo de s) = some X1 := h
    cases e : a_step (kM M0) (bM M0) CH bl mo de X with
    | none => rw [e] at h'; cases h'
    | some Z =>
      rw [e] at h'
      have q := Q_step (K := kM M0) (fun f hf h9 => by
        have hp := (hI.2.1 f hf).1
        have hi := (kM_may (M0 := M0) (p := f.1) (i := f.2.1) (Or.inr (Or.inl h9))).1
        have e1 : kM M0 f.1 1 f.2.1 = M0 (24 + 9 * f.1 + 1) f.2.1 := if_pos hi
        have e2 : kM M0 f.1 2 f.2.1 = M0 (24 + 9 * f.1 + 2) f.2.1 := if_pos hi
        rw [e1] at h9
        rw [e2]
        obtain ⟨-, -, -, -, -, -, w9, -⟩ := ((hcF f.1 hp).2.2.2 f.2.1 hi).1.1
        exact (w9 h9).2) hQ e
      have r := run_Q hcF hw ((inv_step (CH := CH) (bl := bl) (mo := mo) (de := de) hw).1 _ _ hI e) q.1 h'
      exact ⟨r.1, by omega⟩
/-- turn by turn -/
theorem l_89 (hm : pM m) (hmo0 : 0 ≤ mo) (hmo : mo ≤ 3000) (hde : de ≤ 30) (hN : 4000 ≤ N) (hcF : cF M0 vp) (hlF : lF N M0 m CH bl vp) (hw : a_wk (kM M0) (bM M0) vp gn nk nn np) : ∀ (t : Nat) (X : aX) (M : yM) (k n : Nat), X.2.1 = false → (X.2.2.2.1 = false ∨ X.2.2.1 = 0) → rel M m mo de X → a_I vp gn mo de nk nn np X → a_Q (kM M0) X → rst M0 M m → a_run (kM M0) (bM M0) CH bl mo de t X = some Xe → Xe.2.2.2.1 = false → X.2.2.2.2 1 0 + (t : Int) ≤ 2000000000 → k + t < 1000000 → t < n →
    ∃ M1, f_89_15 N n M m (k : Int) = f_89_30 N M1 m ∧ rel M1 m mo de Xe ∧ rst M M1 m := by
  intro t
  induction t using Nat.strongRecOn with
  | _ t ih =>
    intro X M k n h1 h2 h hI hQ hr ht hXe hs hk hn
    obtain ⟨n, rfl⟩ : ∃ n', n = n' + 1 := ⟨n - 1, by omega⟩
    obtain ⟨fr, fl, bi, ru, Y⟩ := X
    have h1 : fl = false := h1
    subst h1
    rw [f_89_15, rel3 ⟨by omega, by omega⟩ ⟨by decide, by decide⟩, cond_df (by omega)]
    have e15 : M m 15 = b2i ru := h.2.2.2.2.2.1
    rw [e15]
    cases ru with
    | false =>
      have e : Xe = (fr, false, bi, false, Y) := by
        cases t with
        | zero => cases ht; rfl
        | succ t =>
          have ht' : (a_step (kM M0) (bM M0) CH bl mo de (fr, false, bi, false, Y)).bind (a_run (kM M0) (bM M0) CH bl mo de t) = some Xe := ht
          cases ht'
      subst e
      exact ⟨M, rfl, h, rst_refl⟩
    | true =>
      have h2 : bi = 0 := by
        rcases h2 with h2 | h2
        · cases h2
        · exact h2
      subst h2
      cases fr with
      | nil =>
        obtain ⟨t', X1, -, e1, -⟩ := run_pos ht rfl hXe
        cases e1
      | cons f r =>
        have hs : Y 1 0 + (t : Int) ≤ 2000000000 := hs
        obtain ⟨s, X1, M1, g1, g2, g3, g4, g5, g6, g7, g8⟩ := l_90 (N := N) hm hmo0 hmo hde hN hcF h hI hw (hQ.1 f List.mem_cons_self) (by omega) hr ht hXe
        obtain ⟨-, ht1⟩ := run_le ht g3 hXe
        have hI1 := run_inv (inv_step (CH := CH) (bl := bl) (mo := mo) (de := de) hw) hI g3
        obtain ⟨hQ1, hm1⟩ := run_Q hcF hw hI hQ g3
        dsimp only at hm1
        show ∃ M1, cond false _ (Option.bind (f_90 N M m) _) = _ ∧ _
        rw [g4]
        show ∃ M1', cond (yrel 0 (M1 m 17) 0) _ _ = _ ∧ _
        have e17 : M1 m 17 = b2i X1.2.1 := g5.2.2.2.2.2.2
        rw [e17]
        cases hfl : X1.2.1 with
        | false =>
          show ∃ M1', f_89_15 N n M1 m ((k : Int) + 1) = _ ∧ _
          obtain ⟨M2, k1, k2, k3⟩ := ih (t - s) (by omega) X1 M1 (k + 1) n hfl g7 g5 hI1 hQ1 (rst_trans hr g6) ht1 hXe (by omega) (by omega) (by omega)
          exact ⟨M2, by rw [← k1]; rfl, k2, rst_trans g6 k3⟩
        | true =>
          have hru := g8 hfl
          have hbi : X1.2.2.1 = 0 := by
            rcases g7 with g7 | g7
            · rw [hru] at g7; cases g7
            · exact g7
          obtain ⟨fr1, fl1, bi1, ru1, Y1⟩ := X1
          have hfl : fl1 = true := hfl
          have hru : ru1 = true := hru
          have hbi : bi1 = 0 := hbi
          subst hfl hru hbi
          have p1 := rel_flag (bi' := 0) g5 false
          have hle := hI1.2.2.2.1
          dsimp only at hle hm1
          have hmd := hI1.2.2.1 rfl
          dsimp only at hmd
          obtain ⟨s2, X2, M2, z1, z2, z3, z4, z5, z6, z7⟩ := l_99 (N := N) (mo := mo) (de := de) hm hcF hlF fr1 N (yU M1 m 17 0) Y1 p1 (fun g hg => ⟨(hI1.2.1 g hg).1, hQ1.2.2 rfl g hg⟩) (hI1.1.2.1 hmd) (by omega) (by omega) (by omega) (rst_trans hr (rst_trans g6 (rst_U (by omega))))
          obtain ⟨zz, ht2⟩ := run_le ht1 z2 hXe
          have hI2 := run_inv (inv_step (CH := CH) (bl := bl) (mo := mo) (de := de) hw) hI1 z2
          obtain ⟨hQ2, hm2⟩ := run_Q hcF hw hI1 hQ1 z2
          dsimp only at hm2
          show ∃ M1', (Option.bind (f_99 N M1 m) _) = _ ∧ _
          have e99 : f_99 N M1 m = some M2 := z3
          rw [e99]
          show ∃ M1', f_89_15 N n M2 m ((k : Int) + 1) = _ ∧ _
          obtain ⟨M3, k1, k2, k3⟩ := ih (t - s - s2) (by omega) X2 M2 (k + 1) n z5 (Or.inr z6) z4 hI2 hQ2 (rst_trans hr (rst_trans g6 (rst_trans (rst_U (by omega)) z7))) ht2 hXe (by omega) (by omega) (by omega)
          exact ⟨M3, by rw [← k1]; rfl, k2, rst_trans g6 (rst_trans (rst_U (by omega)) (rst_trans z7 k3))⟩
end YLp
