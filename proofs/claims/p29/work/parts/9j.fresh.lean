/-! faults, code and tables made anew: in one run, in two runs side by side -/
/-- P but for the row 0 -/
def zP0 (M P : yM) : yM := fun a => if a = 0 then M 0 else P a
/-- what laying a procedure leaves, and one more fault -/
def frL (M X : yM) : Prop := ∀ a j, (a ≤ 17 ∨ a = 20 ∨ a = 23 ∨ 196 ≤ a) → X a j = M a j
/-- rows of procedure p are kept -/
def rK (p : Nat) (M : yM) : Prop := M (24 + 9 * p) 11 + M (24 + 9 * p) 12 ≤ M 21 1 ∧ M (24 + 9 * p) 10 ≤ 690
/-- two runs: procedures ahead of j are laid -/
def inL (b : Prop) (P : yM) (j : Nat) (M N : yM) : Prop :=
  (∀ a i, 1 ≤ a ∧ a ≤ 17 → M a i = P a i ∧ N a i = P a i) ∧ (gW M ∧ gW N) ∧ (N 18 4 = M 18 4 ∧ 0 ≤ M 18 4 ∧ M 18 4 ≤ 202) ∧ ((M 0 7 = 0 ∨ M 0 7 = 1) ∧ (N 0 7 = 0 ∨ N 0 7 = 1) ∧ (b → N 0 7 = M 0 7)) ∧
  (b → N 21 1 = M 21 1 ∧ ∀ k : Nat, (k : Int) < 4 * M 21 1 → N 22 k = M 22 k) ∧
  (M 18 4 = 0 → (M 21 1 ≤ 7575 * (j : Int) ∧ N 21 1 ≤ 7575 * (j : Int)) ∧ ∀ p : Nat, p < j → (pO P p M ∧ rK p M) ∧ (pO P p N ∧ rK p N) ∧ sP b p M N)
section PyLd
variable {q k k' : Nat → Nat → Int} {bg : Nat → List Nat} {ch : Nat → List (Int × Int)} {P : Nat → aC → Nat → Nat → Nat → Prop}
theorem wo_cg (h1 : k' 1 = k 1) (h2 : k' 2 = k 2) (h5 : k' 5 = k 5) : a_wo q k' bg ch P = a_wo q k bg ch P := by
  funext gs
  induction gs with
  | nil =>
    funext d h i j
    unfold a_wo
    rw [h1, h2]
  | cons g gs ih =>
    funext d h i j
    unfold a_wo
    rw [h1, h2, h5, ih]
theorem wb_cg (h1 : k' 1 = k 1) (h2 : k' 2 = k 2) (h5 : k' 5 = k 5) {lt lg : Nat} : a_wb q k' bg ch P lt lg = a_wb q k bg ch P lt lg := by
  funext gs
  induction gs with
  | nil =>
    funext d h i j
    unfold a_wb
    rw [h1, h2]
  | cons g gs ih =>
    funext d h i j
    unfold a_wb
    rw [h1, h2, h5, ih]
theorem ct_cg (h1 : k' 1 = k 1) (h2 : k' 2 = k 2) {G : aC} {g2 : aG} {fin : Int} {e : Nat} : a_ct q k' bg P G g2 fin e = a_ct q k bg P G g2 fin e := by
  funext cs
  induction cs with
  | nil =>
    funext s s'
    unfold a_ct
    rfl
  | cons c cs ih =>
    funext s s'
    unfold a_ct
    rw [h1, h2, ih]
theorem nd_cg (h1 : k' 1 = k 1) (h2 : k' 2 = k 2) (h3 : k' 3 = k 3) (h4 : k' 4 = k 4) (h5 : k' 5 = k 5) : a_node q k' bg ch P = a_node q k bg ch P := by
  funext n G i j e
  unfold a_node a_one a_try a_using
  rw [h1, h2, h3, h4, h5, wo_cg h1 h2 h5]
  simp only [wb_cg h1 h2 h5, ct_cg h1 h2]
theorem Ld_cg (h1 : k' 1 = k 1) (h2 : k' 2 = k 2) (h3 : k' 3 = k 3) (h4 : k' 4 = k 4) (h5 : k' 5 = k 5) : ∀ m, a_Ld q k' bg ch m = a_Ld q k bg ch m
  | 0 => rfl
  | m + 1 => by
    funext n G i j e
    unfold a_Ld
    rw [nd_cg h1 h2 h3 h4 h5, Ld_cg h1 h2 h3 h4 h5 m]
end PyLd
section PyA
variable {K p j : Nat} {P M N X Y Z : yM} {b : Prop} {v x y : Int}
theorem zP0_q : yq (zP0 M P) = yq P := funext fun c => by
  unfold yq zP0
  rw [if_neg (by omega)]
theorem pO_z (h : pO (zP0 M P) p X) : pO P p X := by
  unfold pO at h ⊢
  rw [zP0_q] at h
  exact h
theorem pA_z (h : pA P) : pA (zP0 M P) := h
theorem bO_z (h : bO P p) : bO (zP0 M P) p := h
theorem cH4_K (h11 : X (24 + 9 * p) 11 = M (24 + 9 * p) 11) (h12 : X (24 + 9 * p) 12 = M (24 + 9 * p) 12) (h0 : 0 ≤ M (24 + 9 * p) 11 ∧ 0 ≤ M (24 + 9 * p) 12) (hr : M (24 + 9 * p) 11 + M (24 + 9 * p) 12 ≤ v) (h22 : ∀ k : Nat, (k : Int) < 4 * v → X 22 k = M 22 k) (t : Nat) : cH4 X p t = cH4 M p t := by
  unfold cH4
  rw [h11, h12]
  exact hk_eq _ fun k hk => h22 k (by omega)
theorem kM_K (hc : ∀ a i, 24 + 9 * p ≤ a ∧ a ≤ 24 + 9 * p + 8 → X a i = M a i) {c : Nat} (hc8 : c ≤ 8) : kM X p c = kM M p c := funext fun i => by
  unfold kM
  rw [hc (24 + 9 * p) 0 (by omega), hc (24 + 9 * p + c) i (by omega)]
theorem bM_K (hc : ∀ a i, 24 + 9 * p ≤ a ∧ a ≤ 24 + 9 * p + 8 → X a i = M a i) : bM X p = bM M p := funext fun i => by
  have e8 : X (24 + 9 * p + 8) = M (24 + 9 * p + 8) := funext fun j => hc _ _ (by omega)
  unfold bM
  rw [hc (24 + 9 * p) 0 (by omega), hc (24 + 9 * p + 7) i (by omega), hc (24 + 9 * p + 6) i (by omega), e8]
/-- what is laid stays -/
theorem pO_K (hO : pO P p M) (hK : rK p M) (hc : ∀ a i, 24 + 9 * p ≤ a ∧ a ≤ 24 + 9 * p + 8 → X a i = M a i) (h22 : ∀ k : Nat, (k : Int) < 4 * M 21 1 → X 22 k = M 22 k) (h21 : M 21 1 ≤ X 21 1) : pO P p X ∧ rK p X := by
  obtain ⟨k1, k2⟩ := hK
  have h0 := hc (24 + 9 * p) 0 (by omega)
  have h11 := hc (24 + 9 * p) 11 (by omega)
  have h12 := hc (24 + 9 * p) 12 (by omega)
  have eR : ∀ c, c ≤ 8 → X (24 + 9 * p + c) = M (24 + 9 * p + c) := fun c hc8 => funext fun i => hc _ _ (by omega)
  refine ⟨?_, ?_⟩
  · have hO' := hO
    obtain ⟨a1, a2, a3, a4, m, e, a5⟩ := hO
    have eC : cH4 X p = cH4 M p := funext fun t => cH4_K h11 h12 a2 k1 h22 t
    unfold pO at hO' ⊢
    rw [eC, bM_K hc, kM_K hc (by decide : 1 ≤ 8), kM_K hc (by decide : 2 ≤ 8), kM_K hc (by decide : 3 ≤ 8), h0, h11, h12, eR 1 (by decide), eR 2 (by decide), eR 3 (by decide), eR 4 (by decide), eR 5 (by decide), eR 6 (by decide), eR 7 (by decide), eR 8 (by decide)]
    obtain ⟨m', e', b1, b2⟩ := hO'.2.2.2.2
    refine ⟨hO'.1, hO'.2.1, hO'.2.2.1, fun r r1 r2 => ?_, m', e', ?_, b2⟩
    · have := a2.1
      rw [h22 (4 * r) (by omega), h22 (4 * r + 1) (by omega), h22 (4 * r + 2) (by omega), h22 (4 * r + 3) (by omega)]
      exact a4 r r1 r2
    · rw [Ld_cg (kM_K hc (by decide)) (kM_K hc (by decide)) (kM_K hc (by decide)) (kM_K hc (by decide)) (kM_K hc (by decide))]
      exact b1
  · unfold rK
    rw [h11, h12, hc (24 + 9 * p) 10 (by omega)]
    exact ⟨by omega, k2⟩
end PyA
