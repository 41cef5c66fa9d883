/-! a turn of the class's machine -/
/-- code as the abstract machine reads it -/
def kM (M : yM) (p c i : Nat) : Int := if (i : Int) < M (24 + 9 * p) 0 then M (24 + 9 * p + c) i else 0
def bM (M : yM) (p i : Nat) : List Nat := if (i : Int) < M (24 + 9 * p) 0 then (List.range (M (24 + 9 * p + 7) i).toNat).map (fun k => (M (24 + 9 * p + 8) ((M (24 + 9 * p + 6) i).toNat + k)).toNat) else []
/-- what holds of the code's numbers -/
def cF (M : yM) (vp : Nat → Prop) : Prop := ∀ p, vp p → p < 8 ∧ 0 ≤ M (24 + 9 * p) 0 ∧ M (24 + 9 * p) 0 ≤ 300 ∧ ∀ i : Nat, (i : Int) < M (24 + 9 * p) 0 →
  (a_w2 (M (24 + 9 * p + 1) i) (M (24 + 9 * p + 2) i) (M (24 + 9 * p + 3) i) (M (24 + 9 * p + 4) i) ∧ (a_may (M (24 + 9 * p + 1) i) → 0 ≤ M (24 + 9 * p + 5) i ∧ M (24 + 9 * p + 5) i < M 1 7)) ∧ 0 ≤ M (24 + 9 * p + 7) i ∧ M (24 + 9 * p + 7) i ≤ 690 ∧ (0 < M (24 + 9 * p + 7) i → 0 ≤ M (24 + 9 * p + 6) i ∧ M (24 + 9 * p + 6) i + M (24 + 9 * p + 7) i ≤ 690) ∧
  ∀ k : Nat, (k : Int) < M (24 + 9 * p + 7) i → 0 ≤ M (24 + 9 * p + 8) ((M (24 + 9 * p + 6) i).toNat + k) ∧ M (24 + 9 * p + 8) ((M (24 + 9 * p + 6) i).toNat + k) < 90
def a_res (o : Option Int) : Int := match o with
  | some h => h
  | none => -1
/-- what holds of the table -/
def lF (N : Nat) (M0 : yM) (m : Nat) (CH : Nat → Nat → List (Int × Int)) (bl : Int → Int → Bool) (vp : Nat → Prop) : Prop :=
  ∀ M, rst M0 M m → ∀ p, vp p → ∀ i : Nat, (i : Int) < M0 (24 + 9 * p) 0 → a_may (M0 (24 + 9 * p + 1) i) →
    f_93 N M m (24 + 9 * p) (i : Int) = some (a_res (a_look bl (yrd M (m + 1 + 1) (M m 16)) (CH p i))) ∧ ∀ k h, a_look bl k (CH p i) = some h → 0 ≤ h ∧ h < 300
section YTn
variable {M0 M M' : yM} {m N : Nat} {CH : Nat → Nat → List (Int × Int)} {bl : Int → Int → Bool} {Y Y' : yM} {f : aF} {r : List aF} {mo de nk : Int} {bi : Nat} {vp gn : Nat → Prop} {nn np : Nat} {X X' : aX}
theorem rd_st {a : Nat} {k : Int} (h : rst M0 M m) (ha : a < m) : yrd M a k = yrd M0 a k := by
  unfold yrd
  split
  · exact h.1 a _ (by omega)
  · rfl
theorem run_cons {s : Nat} {X X1 X2 : aX} {K : Nat → Nat → Nat → Int} {BG : Nat → Nat → List Nat} (h1 : a_step K BG CH bl mo de X = some X1) (h2 : a_run K BG CH bl mo de s X1 = some X2) : a_run K BG CH bl mo de (s + 1) X = some X2 := by
  show (a_step K BG CH bl mo de X).bind (a_run K BG CH bl mo de s) = _
  rw [h1]
  exact h2
theorem l_81 (hm : pM m) (hmo0 : 0 ≤ mo) (hmo : mo ≤ 3000) (hcF : cF M0 vp) (hp : vp f.1) (hi : (f.2.1 : Int) < M0 (24 + 9 * f.1) 0) : ∀ (d n bi : Nat) (M Y : yM), d + bi = (M0 (24 + 9 * f.1 + 7) f.2.1).toNat → d < n → rel M m mo de (f :: r, false, bi, true, Y) → 0 ≤ Y 13 3 → Y 13 3 ≤ 3000 → rst M0 M m →
    (∃ s Y' M' bi', 1 ≤ s ∧ s ≤ d ∧ a_run (kM M0) (bM M0) CH bl mo de s (f :: r, false, bi, true, Y) = some (f :: r, false, bi', false, Y') ∧ f_81_12 N n M m (24 + 9 * f.1) (M0 (24 + 9 * f.1 + 6) f.2.1) (M0 (24 + 9 * f.1 + 7) f.2.1) (bi : Int) = some (M', 0) ∧ rel M' m mo de (f :: r, false, bi', true, Y') ∧ rst M M' m) ∨
    (∃ Y' M', a_run (kM M0) (bM M0) CH bl mo de d (f :: r, false, bi, true, Y) = some (f :: r, false, (M0 (24 + 9 * f.1 + 7) f.2.1).toNat, true, Y') ∧ f_81_12 N n M m (24 + 9 * f.1) (M0 (24 + 9 * f.1 + 6) f.2.1) (M0 (24 + 9 * f.1 + 7) f.2.1) (bi : Int) = some (M', 1) ∧ rel M' m mo de (f :: r, false, (M0 (24 + 9 * f.1 + 7) f.2.1).toNat, true, Y') ∧ rst M M' m ∧ Y' 1 0 = Y 1 0)
  | _, 0, _, _, _, _, h, _, _, _, _ => absurd h (Nat.not_lt_zero _)
  | 0, n + 1, bi, M, Y, e, _, h, _, _, hr => by
    right
    obtain ⟨h8, l0, l1, hall⟩ := hcF f.1 hp
    obtain ⟨-, q2, q3, -, q4⟩ := hall f.2.1 hi
    have eb : (bi : Int) = M0 (24 + 9 * f.1 + 7) f.2.1 := by omega
    refine ⟨Y, M, by rw [show bi = (M0 (24 + 9 * f.1 + 7) f.2.1).toNat by omega]; rfl, ?_, h, rst_refl, rfl⟩
    rw [f_81_12, eb, rel3 ⟨by omega, by omega⟩ ⟨by omega, by omega⟩, cond_dt (Int.le_refl _)]
  | d + 1, n + 1, bi, M, Y, e, hn, h, hY0, hY, hr => by
    obtain ⟨h8, l0, l1, hall⟩ := hcF f.1 hp
    obtain ⟨-, q2, q30, q31, q4⟩ := hall f.2.1 hi
    obtain ⟨q1, q3⟩ := q31 (by omega)
    obtain ⟨q5, q6⟩ := q4 bi (by omega)
    have hl : (bM M0 f.1 f.2.1)[bi]? = some (M0 (24 + 9 * f.1 + 8) ((M0 (24 + 9 * f.1 + 6) f.2.1).toNat + bi)).toNat := by
      unfold bM
      rw [if_pos hi, List.getElem?_map, List.getElem?_range (by omega)]; rfl
    rw [f_81_12, rel3 ⟨by omega, by omega⟩ ⟨by omega, by omega⟩, cond_df (by omega), rel_rd (k := 3) hm h (Or.inl rfl) (by decide) (by rw [ln_13 hm]; decide), show M m 13 = mo from h.2.2.2.1]
    have e3 : Y 13 (3 : Int).toNat = Y 13 3 := rfl
    rw [e3]
    by_cases hmo2 : mo ≤ Y 13 3
    · left
      refine ⟨1, Y, M, bi, Nat.le_refl _, by omega, run_one (st_cut hl hmo2), ?_, h, rst_refl⟩
      rw [rel2 ⟨by omega, by omega⟩ ⟨by omega, by omega⟩, cond_df (by omega)]
    · have hmm : m = 196 ∨ m = 306 := hm
      rw [rel2 ⟨by omega, by omega⟩ ⟨by omega, by omega⟩, cond_dt (by omega), ylet_eq, ylet_eq]
      have p1 := rel_wr (k := 3) (v := Y 13 3 + 1) (bi' := bi) hm h (Or.inl rfl) (by decide) (by rw [ln_13 hm]; decide)
      have r1 : rst M (ywr M (m + 13) 3 (Y 13 3 + 1)) m := rst_wr (by omega)
      generalize ywr M (m + 13) 3 (Y 13 3 + 1) = M5 at p1 r1 ⊢
      have ei : yrd M5 (24 + 9 * f.1 + 8) (M0 (24 + 9 * f.1 + 6) f.2.1 + (bi : Int)) = M0 (24 + 9 * f.1 + 8) ((M0 (24 + 9 * f.1 + 6) f.2.1).toNat + bi) := by
        rw [rd_st (rst_trans hr r1) (by omega), rd_in (by omega) (by rw [ln_c8 h8]; omega)]
        congr 1
        omega
      rw [ei]
      have p2 := rel_wr (c := 16) (k := M0 (24 + 9 * f.1 + 8) ((M0 (24 + 9 * f.1 + 6) f.2.1).toNat + bi)) (v := yrd M5 (m + 16) (M0 (24 + 9 * f.1 + 8) ((M0 (24 + 9 * f.1 + 6) f.2.1).toNat + bi)) + 1) (bi' := bi + 1) hm p1 (Or.inr (Or.inr (Or.inr (Or.inl rfl)))) q5 (by rw [ln_16 hm]; omega)
      have r2 : rst M5 (ywr M5 (m + 16) (M0 (24 + 9 * f.1 + 8) ((M0 (24 + 9 * f.1 + 6) f.2.1).toNat + bi)) (yrd M5 (m + 16) (M0 (24 + 9 * f.1 + 8) ((M0 (24 + 9 * f.1 + 6) f.2.1).toNat + bi)) + 1)) m := rst_wr (by omega)
      rw [rel_rd (c := 16) hm p1 (Or.inr (Or.inr (Or.inr (Or.inl rfl)))) q5 (by rw [ln_16 hm]; omega)] at p2 r2 ⊢
      generalize ywr M5 (m + 16) (M0 (24 + 9 * f.1 + 8) ((M0 (24 + 9 * f.1 + 6) f.2.1).toNat + bi)) (yU Y 13 (3 : Int).toNat (Y 13 3 + 1) 16 (M0 (24 + 9 * f.1 + 8) ((M0 (24 + 9 * f.1 + 6) f.2.1).toNat + bi)).toNat + 1) = M6 at p2 r2 ⊢
      have eY : yU (yU Y 13 (3 : Int).toNat (Y 13 3 + 1)) 16 (M0 (24 + 9 * f.1 + 8) ((M0 (24 + 9 * f.1 + 6) f.2.1).toNat + bi)).toNat (yU Y 13 (3 : Int).toNat (Y 13 3 + 1) 16 (M0 (24 + 9 * f.1 + 8) ((M0 (24 + 9 * f.1 + 6) f.2.1).toNat + bi)).toNat + 1) = a_begin Y (M0 (24 + 9 * f.1 + 8) ((M0 (24 + 9 * f.1 + 6) f.2.1).toNat + bi)).toNat := by
        rw [yU_c (show 16 ≠ 13 by decide)]; rfl
      rw [eY] at p2
      have hst := st_begin (K := kM M0) (BG := bM M0) (CH := CH) (bl := bl) (mo := mo) (de := de) (f := f) (r := r) (Y := Y) hl hmo2
      have e33 : a_begin Y (M0 (24 + 9 * f.1 + 8) ((M0 (24 + 9 * f.1 + 6) f.2.1).toNat + bi)).toNat 13 3 = Y 13 3 + 1 := by
        unfold a_begin
        rw [yU_c (by decide), yU_at]
      have ih := l_81 hm hmo0 hmo hcF hp hi d n (bi + 1) M6 _ (by omega) (by omega) p2 (by omega) (by omega) (rst_trans hr (rst_trans r1 r2))
      rw [show ((bi + 1 : Nat) : Int) = (bi : Int) + 1 by omega] at ih
      rcases ih with ⟨s, Y', M', bi', g1, g2, g3, g4, g5, g6⟩ | ⟨Y', M', g3, g4, g5, g6, g7⟩
      · exact Or.inl ⟨s + 1, Y', M', bi', by omega, by omega, run_cons hst g3, g4, g5, rst_trans r1 (rst_trans r2 g6)⟩
      · exact Or.inr ⟨Y', M', run_cons hst g3, g4, g5, rst_trans r1 (rst_trans r2 g6), g7.trans (by unfold a_begin; rw [yU_c (by decide), yU_c (by decide)])⟩
end YTn
