/-! a whole run -/
section AMa
variable {q : Nat → Nat → Int} {K : Nat → Nat → Nat → Int} {BG : Nat → Nat → List Nat} {CH : Nat → Nat → List (Int × Int)} {bl : Int → Int → Bool} {mo de nk : Int} {nv : Nat → Prop} {cn : Nat → Int → Prop} {kc : Int → Prop} {vp gn : Nat → Prop} {nn np : Nat} {bd : Nat → Nat}
/-- how a run ends that is not cut off -/
def a_end (q : Nat → Nat → Int) (cn : Nat → Int → Prop) (kc : Int → Prop) (bd : Nat → Nat) (Y0 Y' : yM) : Prop :=
  (∀ k f, a_tf q k f → Y' 16 f - Y0 16 f = Y' 16 k - Y0 16 k) ∧ ((Y' 13 0 = 0 ∧ Y' 13 2 = -1) ∨ (Y' 13 0 = 1 ∧ Y' 13 2 = Y' 0 16 ∧ 0 ≤ Y' 0 16 ∧ Y' 0 16 < Y' 1 0 ∧ a_ko cn kc (bd 0) Y'))
theorem am_main {v nd : Int} {Y0 : yM} (A : a_ast q K BG CH bl nv cn kc bd vp) (hw : a_wk K BG vp gn nk nn np) (hp : vp 0) (hX : a_I vp gn mo de nk nn np ([(0, 0, v, nd, (fun _ => none), (fun _ => none))], false, 0, true, Y0)) :
    ∃ t Xe, a_run K BG CH bl mo de t ([(0, 0, v, nd, (fun _ => none), (fun _ => none))], false, 0, true, Y0) = some Xe ∧ a_I vp gn mo de nk nn np Xe ∧ Xe.2.2.2.1 = false ∧ Y0 13 3 ≤ Xe.2.2.2.2 13 3 ∧ (t : Int) + 64 * (Xe.2.2.2.2 1 1 - Y0 1 1) ≤ 128 * (Xe.2.2.2.2 13 3 - Y0 13 3) + 132 ∧ Y0 1 1 ≤ Xe.2.2.2.2 1 1 ∧
      ((Xe.2.2.2.2 13 0 = Y0 13 0 ∧ mo ≤ Xe.2.2.2.2 13 3) ∨ a_end q cn kc bd Y0 Xe.2.2.2.2) := by
  have hI := inv_step (CH := CH) (bl := bl) (mo := mo) (de := de) hw
  obtain ⟨hfin, m, e1, hL, q1, q2, q3, q4, q5, q6, q7⟩ := A.2.2.2.2.1 _ hp
  have h0 := to_refl (q := q) (K := K) (BG := BG) (CH := CH) (bl := bl) (mo := mo) (de := de) hX
  rcases to_sub (R := (mo - Y0 13 3).toNat) hI (ex_all A hI _) h0 (Int.le_refl 0) hL (fun x hx => absurd hx (Nat.not_lt_zero x)) (fun lt lg hx => by cases hx) (by omega) with ⟨t, X', h1, h2⟩ | ⟨s', g, fl, bi', Y', h4, h5, h6, h7⟩
  · have h3 := run_inv hI hX h1
    obtain ⟨fr', b', Y', rfl, b1, b2, b3, b4, b5⟩ := h2
    dsimp only at b2 b3 b4 b5
    exact ⟨t, _, h1, h3, rfl, b2, by dsimp only; omega, b4, Or.inl ⟨b5, b1⟩⟩
  · replace h4 := to_drop (e := fun _ _ => 0) h4 hfin
    have hg : g.1 = 0 := h5.1
    have hbal : ∀ {s : Nat} {X : aX} {c : Int}, a_to q K BG CH bl mo de (a_I vp gn mo de nk nn np) ([(0, 0, v, nd, (fun _ => none), (fun _ => none))], false, 0, true, Y0) s X c (fun _ _ => 0) → ∀ k f, a_tf q k f → X.2.2.2.2 16 f - Y0 16 f = X.2.2.2.2 16 k - Y0 16 k := fun h k f hk => by
      have := h.2.2.2.2.2.2.2.2 k f hk
      dsimp only at this
      omega
    have hgive : ∀ {s1 : Nat} {g1 : aF} {b1 : Nat} {Y1 : yM} {w : Int} {x : Int} {c1 : Int}, a_to q K BG CH bl mo de (a_I vp gn mo de nk nn np) ([(0, 0, v, nd, (fun _ => none), (fun _ => none))], false, 0, true, Y0) s1 (g1 :: [], false, b1, true, Y1) c1 (fun _ _ => 0) → c1 ≤ 3 → (BG g1.1 g1.2.1).length = b1 → K g1.1 1 g1.2.1 = 8 → K g1.1 2 g1.2.1 = x → g1.2.2.2.2.2 x.toNat = some w → ∃ t Xe, a_run K BG CH bl mo de t ([(0, 0, v, nd, (fun _ => none), (fun _ => none))], false, 0, true, Y0) = some Xe ∧ a_I vp gn mo de nk nn np Xe ∧ Xe.2.2.2.1 = false ∧ Y0 13 3 ≤ Xe.2.2.2.2 13 3 ∧ (t : Int) + 64 * (Xe.2.2.2.2 1 1 - Y0 1 1) ≤ 128 * (Xe.2.2.2.2 13 3 - Y0 13 3) + 132 ∧ Y0 1 1 ≤ Xe.2.2.2.2 1 1 ∧
      ((Xe.2.2.2.2 13 0 = Y0 13 0 ∧ mo ≤ Xe.2.2.2.2 13 3) ∨ a_end q cn kc bd Y0 Xe.2.2.2.2) := by
      intro s1 g1 b1 Y1 w x c1 k1 k2 k3 k4 k5 k6
      have hst : a_step K BG CH bl mo de (g1 :: [], false, b1, true, Y1) = some ([], false, 0, false, yU (yU Y1 13 0 0) 13 1 w) := by
        rw [st_op k3 k4 k5 rfl rfl rfl]
        show (match g1.2.2.2.2.2 x.toNat with
          | none => none
          | some v => _) = _
        rw [k6]
      have r1 := a_run_add K BG CH bl mo de (t := 1) k1.1
      rw [run_one hst] at r1
      have r2 := hI.1 _ _ k1.2.1 hst
      have r3 := hbal k1
      obtain ⟨a1, a2, a3, a4, a5, a6, a7⟩ := k1.2.2
      dsimp only at a1 a2 a3 r3
      have z3 : yU (yU Y1 13 0 0) 13 1 w 13 3 = Y1 13 3 := (yU_i (by decide)).trans (yU_i (by decide))
      have z11 : yU (yU Y1 13 0 0) 13 1 w 1 1 = Y1 1 1 := (yU_c (by decide)).trans (yU_c (by decide))
      have z0 : yU (yU Y1 13 0 0) 13 1 w 13 0 = 0 := (yU_i (by decide)).trans yU_at
      have z16 : ∀ i, yU (yU Y1 13 0 0) 13 1 w 16 i = Y1 16 i := fun i => (yU_c (by decide)).trans (yU_c (by decide))
      have z2 : yU (yU Y1 13 0 0) 13 1 w 13 2 = -1 := by
        rcases r2.2.2.2.2.2 rfl with h | h
        · dsimp only at h
          omega
        · exact h
      refine ⟨s1 + 1, _, r1, r2, rfl, by dsimp only; omega, by dsimp only; omega, by dsimp only; omega, Or.inr ⟨fun k f hk => ?_, Or.inl ⟨z0, z2⟩⟩⟩
      dsimp only
      rw [z16, z16]
      exact r3 k f hk
    rcases h6 with ⟨rfl, rfl, r1, r2⟩ | ⟨rfl, lt, lg, dd, hh, m', r1, -⟩ | ⟨rfl, dd, hh, m', w, r1, r2, r3, r4, r5⟩ | ⟨rfl, rfl, r1, r2⟩
    · have hst : a_step K BG CH bl mo de (g :: [], false, 0, true, Y') = some (a_at (g.1, g.2.1, g.2.2.1, g.2.2.2.1, g.2.2.2.2.1, a_upd g.2.2.2.2.2 0 (a_val Y' 0)) [] (g.2.1 + 1) Y') := by
        rw [st_op (o := 7) (x := 0) (y := 0) (by rw [hg, r1, q1]; rfl) (by rw [hg, r1]; exact q2) (by rw [hg, r1]; exact q3) (by rw [hg, r1]; exact q4) rfl rfl]
        rfl
      have k1 := to_op hI h4 hst a_D_same
      exact hgive (w := a_val Y' 0) (x := 0) k1 (by omega) (by show (BG g.1 (g.2.1 + 1)).length = 0; rw [hg, r1, q5]; rfl) (by show K g.1 1 (g.2.1 + 1) = 8; rw [hg, r1]; exact q6) (by show K g.1 2 (g.2.1 + 1) = 0; rw [hg, r1]; exact q7) rfl
    · cases r1
    · obtain ⟨u1, u2, u3⟩ := r5
      exact hgive (w := w) (x := (hh : Int)) h4 (by omega) u1 u2 u3 (by rw [Int.toNat_natCast]; exact r4)
    · have hst : a_step K BG CH bl mo de (g :: [], true, 0, true, Y') = some ([], true, 0, true, Y') := st_pop (by rw [r1]; rfl)
      have k1 := to_op hI h4 hst a_D_same
      have hst2 : a_step K BG CH bl mo de ([], true, 0, true, Y') = some ([], false, 0, false, yU (yU Y' 13 0 1) 13 2 (Y' 0 16)) := rfl
      have r1 := a_run_add K BG CH bl mo de (t := 1) k1.1
      rw [run_one hst2] at r1
      have w2 := hI.1 _ _ k1.2.1 hst2
      have r3 := hbal k1
      have hfl := (hI.2 _ k1.2.1).2.2 rfl
      dsimp only at hfl
      obtain ⟨a1, a2, a3, a4, a5, a6, a7⟩ := k1.2.2
      dsimp only at a1 a2 a3 r3
      have z3 : yU (yU Y' 13 0 1) 13 2 (Y' 0 16) 13 3 = Y' 13 3 := (yU_i (by decide)).trans (yU_i (by decide))
      have z11 : ∀ j, yU (yU Y' 13 0 1) 13 2 (Y' 0 16) 1 j = Y' 1 j := fun j => (yU_c (by decide)).trans (yU_c (by decide))
      have z0 : yU (yU Y' 13 0 1) 13 2 (Y' 0 16) 13 0 = 1 := (yU_i (by decide)).trans yU_at
      have z2 : yU (yU Y' 13 0 1) 13 2 (Y' 0 16) 13 2 = Y' 0 16 := yU_at
      have z16 : ∀ i, yU (yU Y' 13 0 1) 13 2 (Y' 0 16) 16 i = Y' 16 i := fun i => (yU_c (by decide)).trans (yU_c (by decide))
      have zf : yU (yU Y' 13 0 1) 13 2 (Y' 0 16) 0 16 = Y' 0 16 := (yU_c (by decide)).trans (yU_c (by decide))
      have zk : ∀ i, yU (yU Y' 13 0 1) 13 2 (Y' 0 16) 2 i = Y' 2 i := fun i => (yU_c (by decide)).trans (yU_c (by decide))
      have z111 := z11 1
      refine ⟨s' + 1 + 1, _, r1, w2, rfl, by dsimp only; omega, by dsimp only; omega, by dsimp only; omega, Or.inr ⟨fun k f hk => ?_, Or.inr ⟨z0, ?_, ?_, ?_, ?_⟩⟩⟩
      · dsimp only
        rw [z16, z16]
        exact r3 k f hk
      · dsimp only
        rw [z2, zf]
      · dsimp only
        rw [zf]; exact hfl.1
      · dsimp only
        rw [zf, z11]; exact hfl.2
      · unfold a_ko
        dsimp only
        rw [zf, zk]
        exact r2
end AMa
