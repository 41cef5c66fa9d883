/-! the code of a procedure -/
/-- what always holds between procedures -/
def gW (M : yM) : Prop := tI M ∧ ∀ c, c < 90 → (0 ≤ M 103 c ∧ M 103 c ≤ 300) ∧ 0 ≤ M 104 c ∧ M 104 c ≤ 300
/-- handlers that a place of a code has, by the table -/
def cH4 (M : yM) (p t : Nat) : List (Int × Int) := hk M t (M (24 + 9 * p) 11).toNat (M (24 + 9 * p) 12).toNat
/-- a body can be laid -/
def bO (P : yM) (p : Nat) : Prop := 0 ≤ P 6 p ∧ P 6 p < P 1 7 ∧ P 7 (P 6 p).toNat ≠ 12 ∧ P 13 (P 6 p).toNat ≠ -1 ∧ P 14 (P 6 p).toNat = -1 ∧ P 15 (P 6 p).toNat = -1
/-- the code of procedure p, in the end -/
def pO (P : yM) (p : Nat) (M : yM) : Prop :=
  (0 ≤ M (24 + 9 * p) 0 ∧ M (24 + 9 * p) 0 ≤ 300) ∧ (0 ≤ M (24 + 9 * p) 11 ∧ 0 ≤ M (24 + 9 * p) 12) ∧
  (∀ t : Nat, (t : Int) < M (24 + 9 * p) 0 → (1 ≤ M (24 + 9 * p + 1) t ∧ M (24 + 9 * p + 1) t ≤ 20) ∧ a_w2 (M (24 + 9 * p + 1) t) (M (24 + 9 * p + 2) t) (M (24 + 9 * p + 3) t) (M (24 + 9 * p + 4) t) ∧ (M (24 + 9 * p + 1) t = 9 → M (24 + 9 * p + 3) t < P 1 4) ∧ (M (24 + 9 * p + 1) t = 17 ∨ M (24 + 9 * p + 1) t = 18 → M (24 + 9 * p + 2) t < P 1 4) ∧ (M (24 + 9 * p + 1) t = 10 ∨ M (24 + 9 * p + 1) t = 13 → 0 ≤ M (24 + 9 * p + 2) t ∧ M (24 + 9 * p + 2) t < P 1 0) ∧
    (a_may (M (24 + 9 * p + 1) t) → 0 ≤ M (24 + 9 * p + 5) t ∧ M (24 + 9 * p + 5) t < P 1 7) ∧ 0 ≤ M (24 + 9 * p + 7) t ∧ M (24 + 9 * p + 7) t ≤ 690 ∧ (0 < M (24 + 9 * p + 7) t → 0 ≤ M (24 + 9 * p + 6) t ∧ M (24 + 9 * p + 6) t + M (24 + 9 * p + 7) t ≤ 690) ∧
    ∀ k : Nat, (k : Int) < M (24 + 9 * p + 7) t → 0 ≤ M (24 + 9 * p + 8) ((M (24 + 9 * p + 6) t).toNat + k) ∧ M (24 + 9 * p + 8) ((M (24 + 9 * p + 6) t).toNat + k) < P 1 7 ∧ P 13 (M (24 + 9 * p + 8) ((M (24 + 9 * p + 6) t).toNat + k)).toNat ≠ -1) ∧
  (∀ r : Nat, M (24 + 9 * p) 11 ≤ (r : Int) → (r : Int) < M (24 + 9 * p) 11 + M (24 + 9 * p) 12 → (0 ≤ M 22 (4 * r + 2) ∧ M 22 (4 * r + 2) < 300) ∧ (0 ≤ M 22 (4 * r) ∧ M 22 (4 * r) ≤ 300 ∧ 0 ≤ M 22 (4 * r + 1) ∧ M 22 (4 * r + 1) ≤ 300) ∧ -1 ≤ M 22 (4 * r + 3) ∧ M 22 (4 * r + 3) < 13) ∧
  ∃ m e, a_Ld (yq P) (kM M p) (bM M p) (cH4 M p) m (P 6 p).toNat ([], 0, 0, -1, none) 0 0 e ∧ bM M p e = [] ∧ kM M p 1 e = 7 ∧ kM M p 2 e = 0 ∧ kM M p 3 e = 0 ∧ bM M p (e + 1) = [] ∧ kM M p 1 (e + 1) = 8 ∧ kM M p 2 (e + 1) = 0
section PcA
variable {cc d e b i N n p r : Nat} {P M M' M0 M1 M2 M3 Me : yM} {op x y z nd gd lb v : Int}
/-- the numbers as a procedure's laying begins -/
def pIni (M : yM) (c : Nat) (x : Int) : yM :=
  yU (yU (yU (yU (yU (yU (yU (yU (yU (f_41 (yU M 96 14 x) c) c 11 (f_41 (yU M 96 14 x) c 21 1)) 96 7 0) 96 10 0) 105 0 (-1)) 105 1 0) 105 2 0) 105 3 (-1)) 105 4 0) 105 5 (-1)
theorem pM_get (hcc : pC cc) : (∀ a j, ¬ (a = cc ∧ (j = 0 ∨ j = 1 ∨ j = 10 ∨ j = 11 ∨ j = 12)) → ¬ (a = cc + 7 ∧ j < 300) → ¬ (a = 96 ∧ (j = 7 ∨ j = 10 ∨ j = 14)) → ¬ (a = 105 ∧ j < 6) → pIni M cc x a j = M a j) ∧
    (pIni M cc x cc 0 = 0 ∧ pIni M cc x cc 1 = 0 ∧ pIni M cc x cc 10 = 0 ∧ pIni M cc x cc 11 = M 21 1 ∧ pIni M cc x cc 12 = 0) ∧ (∀ j, j < 300 → pIni M cc x (cc + 7) j = 0) ∧ (pIni M cc x 96 7 = 0 ∧ pIni M cc x 96 10 = 0 ∧ pIni M cc x 96 14 = x) ∧ (pIni M cc x 105 0 = -1 ∧ pIni M cc x 105 1 = 0 ∧ pIni M cc x 105 2 = 0 ∧ pIni M cc x 105 3 = -1 ∧ pIni M cc x 105 4 = 0 ∧ pIni M cc x 105 5 = -1) := by
  have hr := cc_rg hcc
  have h7 : yln (cc + 7) = 300 := by
    obtain ⟨p, hp, rfl⟩ := hcc
    exact ln_c hp ⟨by omega, by omega⟩
  have e41 : ∀ M : yM, f_41 M cc = yfill (yU (yU (yU (yU M cc 0 0) cc 1 0) cc 10 0) cc 12 0) (cc + 7) 0 := fun M => by
    unfold f_41
    rw [ylet_eq, ylet_eq, ylet_eq, ylet_eq, ylet_eq]
  have f21 : f_41 (yU M 96 14 x) cc 21 1 = M 21 1 := by
    rw [e41, fill_c (by omega), yU_c (by omega), yU_c (by omega), yU_c (by omega), yU_c (by omega), yU_c (by omega)]
  have f7 : ∀ j, j < 300 → f_41 (yU M 96 14 x) cc (cc + 7) j = 0 := fun j hj => by
    rw [e41, fill_in (by rw [h7]; exact hj)]
  have fo : ∀ a j, ¬ (a = cc ∧ (j = 0 ∨ j = 1 ∨ j = 10 ∨ j = 12)) → ¬ (a = cc + 7 ∧ j < 300) → ¬ (a = 96 ∧ j = 14) → f_41 (yU M 96 14 x) cc a j = M a j := fun a j h1 h2 h3 => by
    rw [e41]
    have hf : ∀ M : yM, yfill M (cc + 7) 0 a j = M a j := fun M => if_neg (by rw [h7]; exact h2)
    rw [hf, yU_ne (by omega), yU_ne (by omega), yU_ne (by omega), yU_ne (by omega), yU_ne h3]
  have fc : ∀ j, (j = 0 ∨ j = 1 ∨ j = 10 ∨ j = 12) → f_41 (yU M 96 14 x) cc cc j = 0 := fun j hj => by
    rw [e41, fill_c (by omega)]
    rcases hj with rfl | rfl | rfl | rfl
    · rw [yU_i (by decide), yU_i (by decide), yU_i (by decide), yU_at]
    · rw [yU_i (by decide), yU_i (by decide), yU_at]
    · rw [yU_i (by decide), yU_at]
    · rw [yU_at]
  have f14 : f_41 (yU M 96 14 x) cc 96 14 = x := by
    rw [e41, fill_c (by omega), yU_c (by omega), yU_c (by omega), yU_c (by omega), yU_c (by omega), yU_at]
  unfold pIni
  rw [f21]
  refine ⟨fun a j h1 h2 h3 h4 => ?_, ⟨?_, ?_, ?_, ?_, ?_⟩, fun j hj => ?_, ⟨?_, ?_, ?_⟩, ?_, ?_, ?_, ?_, ?_, ?_⟩
  · rw [yU_ne (by omega), yU_ne (by omega), yU_ne (by omega), yU_ne (by omega), yU_ne (by omega), yU_ne (by omega), yU_ne (by omega), yU_ne (by omega), yU_ne (by omega), fo a j (by omega) h2 (by omega)]
  · rw [yU_c (by omega), yU_c (by omega), yU_c (by omega), yU_c (by omega), yU_c (by omega), yU_c (by omega), yU_c (by omega), yU_c (by omega), yU_i (by decide), fc 0 (by omega)]
  · rw [yU_c (by omega), yU_c (by omega), yU_c (by omega), yU_c (by omega), yU_c (by omega), yU_c (by omega), yU_c (by omega), yU_c (by omega), yU_i (by decide), fc 1 (by omega)]
  · rw [yU_c (by omega), yU_c (by omega), yU_c (by omega), yU_c (by omega), yU_c (by omega), yU_c (by omega), yU_c (by omega), yU_c (by omega), yU_i (by decide), fc 10 (by omega)]
  · rw [yU_c (by omega), yU_c (by omega), yU_c (by omega), yU_c (by omega), yU_c (by omega), yU_c (by omega), yU_c (by omega), yU_c (by omega), yU_at]
  · rw [yU_c (by omega), yU_c (by omega), yU_c (by omega), yU_c (by omega), yU_c (by omega), yU_c (by omega), yU_c (by omega), yU_c (by omega), yU_i (by decide), fc 12 (by omega)]
  · rw [yU_c (by omega), yU_c (by omega), yU_c (by omega), yU_c (by omega), yU_c (by omega), yU_c (by omega), yU_c (by omega), yU_c (by omega), yU_c (by omega), f7 j hj]
  · rw [yU_c (by omega), yU_c (by omega), yU_c (by omega), yU_c (by omega), yU_c (by omega), yU_c (by omega), yU_i (by decide), yU_at]
  · rw [yU_c (by omega), yU_c (by omega), yU_c (by omega), yU_c (by omega), yU_c (by omega), yU_c (by omega), yU_at]
  · rw [yU_c (by omega), yU_c (by omega), yU_c (by omega), yU_c (by omega), yU_c (by omega), yU_c (by omega), yU_i (by decide), yU_i (by decide), yU_c (by omega), f14]
  · rw [yU_i (by decide), yU_i (by decide), yU_i (by decide), yU_i (by decide), yU_i (by decide), yU_at]
  · rw [yU_i (by decide), yU_i (by decide), yU_i (by decide), yU_i (by decide), yU_at]
  · rw [yU_i (by decide), yU_i (by decide), yU_i (by decide), yU_at]
  · rw [yU_i (by decide), yU_i (by decide), yU_at]
  · rw [yU_i (by decide), yU_at]
  · rw [yU_at]
/-- what laying a procedure leaves -/
def pW (cc : Nat) (M M' : yM) : Prop := (∀ a j, ¬ (cc ≤ a ∧ a ≤ cc + 8) → a ≠ 96 → ¬ (98 ≤ a ∧ a ≤ 195) → a ≠ 21 → a ≠ 22 → M' a j = M a j) ∧ gW M'
/-- it ends; and what is laid is sound, if it isn't too long -/
theorem S_59 (hp : p < 8) (hN : 1000 ≤ N) (hW : gW M) (hx : x = 0 ∨ x = 1) : ∃ M' t, f_59 N cc M (p : Int) x = some (M', 24 + 9 * p, t) ∧ pW (24 + 9 * p) M M' ∧ (t = 0 ∨ t = 1) ∧
    (t = 1 → pA P → (∀ a j, a ≤ 17 → M a j = P a j) → bO P p → M 21 1 ≤ 22725 → pO P p M' ∧ M' 21 1 ≤ M 21 1 + 7575 ∧ M 21 1 ≤ M' 21 1 ∧ M' (24 + 9 * p) 11 = M 21 1 ∧ M' (24 + 9 * p) 11 + M' (24 + 9 * p) 12 = M' 21 1 ∧ (∀ k : Nat, (k : Int) < 4 * M 21 1 → M' 22 k = M 22 k) ∧ M' (24 + 9 * p) 10 ≤ 690) := by
  have hcc : pC (24 + 9 * p) := ⟨p, hp, rfl⟩
  have hr := cc_rg hcc
  have ez : ypz 8 (p : Int) = p := ypz_id hp
  have hybo : ∀ {A : Option (yM × Nat × Int)}, ybo x A = A := fun {A} => by
    unfold ybo
    rw [if_pos (by rcases hx with rfl | rfl; exact Or.inl rfl; exact Or.inr rfl)]
  have e0 : 105 + 1 * ypz 91 0 = 105 := rfl
  have e59 : f_59 N cc M (p : Int) x = Option.bind (f_200 N (24 + 9 * p) (pIni M (24 + 9 * p) x) (yrd (pIni M (24 + 9 * p) x) 6 (p : Int)) 0) fun t13 => (ylet (f_45 (24 + 9 * p) t13 7 0 0 0 (-1) (-1)) fun t14 => (ylet (f_45 (24 + 9 * p) t14 8 0 0 0 (-1) (-1)) fun t15 => (ylet (yU t15 (24 + 9 * p) 12 ((t15 21 1) - (t15 (24 + 9 * p) 11))) fun M16 => (cond (yrel 1 (M16 (24 + 9 * p) 1) 0) (some (M16, (24 + 9 * p), 0)) (some (M16, (24 + 9 * p), 1)))))) := by
    unfold f_59
    rw [hybo, ez, e0]
    rfl
  obtain ⟨q1, ⟨q2, q3, q4, q5, q6⟩, q7, ⟨q8, q9, q10⟩, ⟨q11, q12, q13, q14, q15, q16⟩⟩ := pM_get (M := M) (x := x) hcc
  generalize pIni M (24 + 9 * p) x = M1 at e59 q1 q2 q3 q4 q5 q6 q7 q8 q9 q10 q11 q12 q13 q14 q15 q16
  have t1 : M1 21 1 = M 21 1 := q1 _ _ (by omega) (by omega) (by omega) (by omega)
  have t2 : M1 21 2 = M 21 2 := q1 _ _ (by omega) (by omega) (by omega) (by omega)
  have W1 : lW (24 + 9 * p) M1 := by
    unfold lW tI
    rw [q2, q3, t1, t2]
    refine ⟨⟨Int.le_refl _, by decide⟩, Or.inl rfl, hW.1, fun c hc => ?_⟩
    rw [q1 103 c (by omega) (by omega) (by omega) (by omega), q1 104 c (by omega) (by omega) (by omega) (by omega)]
    exact hW.2 c hc
  obtain ⟨M2, e2, v2, W2⟩ := lT_y50 (N := N) (x1 := yrd M1 6 (p : Int)) hcc hN 100 (d := 0) (M := M1) (by omega) (by omega) W1
  rw [show f_200 N (24 + 9 * p) M1 (yrd M1 6 (p : Int)) 0 = fy_50 N (24 + 9 * p) 100 M1 (yrd M1 6 (p : Int)) ((0 : Nat) : Int) from rfl, e2] at e59
  have e59 : f_59 N cc M (p : Int) x = ylet (f_45 (24 + 9 * p) M2 7 0 0 0 (-1) (-1)) fun t14 => (ylet (f_45 (24 + 9 * p) t14 8 0 0 0 (-1) (-1)) fun t15 => (ylet (yU t15 (24 + 9 * p) 12 ((t15 21 1) - (t15 (24 + 9 * p) 11))) fun M16 => (cond (yrel 1 (M16 (24 + 9 * p) 1) 0) (some (M16, (24 + 9 * p), 0)) (some (M16, (24 + 9 * p), 1))))) := e59
  rw [ylet_eq, e_45 hcc, ylet_eq, e_45 hcc, ylet_eq] at e59
  generalize hM3 : eM (24 + 9 * p) M2 7 0 0 0 (-1) (-1) 0 = M3 at e59
  have hQ3 : lQ (24 + 9 * p) 0 M2 M3 := by rw [← hM3]; exact lQ_eM hcc
  obtain ⟨v3, W3⟩ := hQ3 W2
  generalize hM4 : eM (24 + 9 * p) M3 8 0 0 0 (-1) (-1) 0 = M4 at e59
  have hQ4 : lQ (24 + 9 * p) 0 M3 M4 := by rw [← hM4]; exact lQ_eM hcc
  obtain ⟨v4, W4⟩ := hQ4 W3
  have v14 := lw_trans v2 (lw_trans v3 v4)
  have k5 : ∀ a j, (a ≠ 24 + 9 * p ∨ j ≠ 12) → yU M4 (24 + 9 * p) 12 (M4 21 1 - M4 (24 + 9 * p) 11) a j = M4 a j := fun a j q => yU_ne (by omega)
  have k512 : yU M4 (24 + 9 * p) 12 (M4 21 1 - M4 (24 + 9 * p) 11) (24 + 9 * p) 12 = M4 21 1 - M4 (24 + 9 * p) 11 := yU_at
  generalize yU M4 (24 + 9 * p) 12 (M4 21 1 - M4 (24 + 9 * p) 11) = M5 at e59 k5 k512
  have k51 : M5 (24 + 9 * p) 1 = M4 (24 + 9 * p) 1 := k5 _ _ (by omega)
  have hpw : pW (24 + 9 * p) M M5 := by
    refine ⟨fun a j h1 h2 h3 h4 h5 => ?_, ?_⟩
    · rw [k5 a j (by omega), v14.1 a j h1 h2 (by omega) (by omega) h4 h5]
      exact q1 a j (by omega) (by omega) (by omega) (by omega)
    · unfold gW tI
      rw [k5 21 1 (by omega), k5 21 2 (by omega)]
      refine ⟨W4.2.2.1, fun c hc => ?_⟩
      rw [k5 103 c (by omega), k5 104 c (by omega)]
      exact W4.2.2.2 c hc
  have htl := W4.2.1
  refine ⟨M5, if M4 (24 + 9 * p) 1 = 0 then 1 else 0, ?_, hpw, by split <;> omega, fun h0 hA hP hb hR => ?_⟩
  · rw [e59, k51]
    rcases htl with q | q
    · rw [q, show yrel 1 0 0 = false from rfl, cond_false, if_pos rfl]
    · rw [q, show yrel 1 1 0 = true from rfl, cond_true, if_neg (by decide)]
  · have t4 : M4 (24 + 9 * p) 1 = 0 := Decidable.byContradiction fun q => by
      rw [if_neg q] at h0
      exact absurd h0 (by decide)
    have t3 := lw_tl v4 t4
    have tl2 := lw_tl v3 t3
    obtain ⟨b1, b2, b3, b4, b5, b6⟩ := hb
    have hP1 : ∀ a j, a ≤ 17 → M1 a j = P a j := fun a j ha => (q1 _ _ (by omega) (by omega) (by omega) (by omega)).trans (hP a j ha)
    have h105 : ∀ j, j < 6 → M1 (105 + 0) j = M1 105 j := fun j _ => rfl
    have s1 : sO (24 + 9 * p) P 0 0 M1 := by
      refine ⟨⟨hP1, W1, q3, fun l hl => ?_, fun y hy => ?_⟩, ?_⟩
      · have e : l = 0 := by omega
        subst e
        show (0 ≤ M1 105 1 ∧ M1 105 1 ≤ ((0 : Nat) : Int)) ∧ (0 ≤ M1 105 2 ∧ M1 105 2 ≤ ((0 : Nat) : Int)) ∧ (-1 ≤ M1 105 3 ∧ M1 105 3 < 90) ∧ (0 ≤ M1 105 4 ∧ M1 105 4 ≤ M1 96 10) ∧ (-1 ≤ M1 105 0 ∧ M1 105 0 < M1 96 7) ∧ (0 ≤ M1 105 0 → _) ∧ -1 ≤ M1 105 5 ∧ M1 105 5 < M1 96 7
        rw [q11, q12, q13, q14, q15, q16, q8, q9]
        exact ⟨by decide, by decide, by decide, by decide, by decide, fun h => absurd h (by decide), by decide⟩
      · have hy : on M1 (M1 105 0) y := hy
        rw [q11] at hy
        exact absurd hy on_neg
      · have hT0 : tT 0 = 0 := rfl
        unfold lI
        rw [q2, q4, q8, q9, q5, t1, hT0]
        refine ⟨by decide, by decide, by decide, ⟨hW.1.1, Int.le_refl _, hR, by omega⟩, fun t ht => by omega, fun t ht h3 => ?_, fun t ht h3 => q7 t h3, fun k hk => by omega, fun y hy => by omega, fun r h1 h2 => by omega⟩
        rw [q7 t h3]
        exact ⟨Int.le_refl _, fun h => absurd h (by decide)⟩
    have n1 : nB P 0 (P 6 p).toNat M1 := by
      refine ⟨by omega, b3, b4, fun y hy => ?_, fun h => absurd b6 h, fun h => absurd b5 h⟩
      have hy : on M1 (M1 105 0) y := hy
      rw [q11] at hy
      exact absurd hy on_neg
    have e6 : yrd M1 6 (p : Int) = (((P 6 p).toNat : Nat) : Int) := by
      rw [rd_in (a := 6) (by omega) (by show (p : Int) < ((8 : Nat) : Int); omega), Int.toNat_natCast, hP1 6 p (by omega), Int.toNat_of_nonneg b1]
    rw [e6] at e2
    have L := S_y50 hcc hN hA 100 0 (P 6 p).toNat M1 M2 (by omega) (by omega) s1 n1 e2 tl2
    obtain ⟨l1, l2, l3, l4, l5, l6, l7, l8, l9, l10, l11⟩ := L
    have s2 : sO (24 + 9 * p) P 0 0 M2 := ⟨lB_K hcc (by omega) s1.1 s1.2 l1 l2 tl2 l4, l3⟩
    have hW2 := W2.1
    have hW3 := W3.1
    have hW4 := W4.1
    have i1 := l3.1
    have i2 := l3.2.1
    have i3 := l3.2.2.1
    obtain ⟨s3, g3, D3⟩ := em hcc (by omega) s2 hM3 t3 ⟨⟨by decide, by decide⟩, w2_7 ⟨Or.inl ⟨by decide, by decide⟩, by decide, by decide⟩, fun q => by omega, fun q => by omega, fun q => by omega, fun q => by omega, fun q => by unfold a_may at q; omega, by omega, by omega, fun q => absurd q (by decide)⟩
    obtain ⟨⟨c31, c32, c33, c34, c35, c36⟩, c3X, ⟨u3a, u3b, u31, u32, u33, u34, u35⟩, u367, u38, u3c, u3p⟩ := id D3
    obtain ⟨s4, g4, D4⟩ := em hcc (by omega) s3 hM4 t4 ⟨⟨by decide, by decide⟩, w2_8 (by decide), fun q => by omega, fun q => by omega, fun q => by omega, fun q => by omega, fun q => by unfold a_may at q; omega, by omega, by omega, fun q => absurd q (by decide)⟩
    obtain ⟨⟨c41, c42, c43, c44, c45, c46⟩, c4X, ⟨u4a, u4b, u41, u42, u43, u44, u45⟩, u467, u48, u4c, u4p⟩ := id D4
    have K24 : lK (24 + 9 * p) M2 M4 := lK_trans g3.2.1 g4.2.1
    have X24 : lX (24 + 9 * p) M2 M4 := lX_trans c3X c4X (by omega)
    have m5 : ∀ a j, (a ≠ 24 + 9 * p ∨ j ≠ 12) → M5 a j = M4 a j := k5
    have e50 : M5 (24 + 9 * p) 0 = M4 (24 + 9 * p) 0 := m5 _ _ (by omega)
    have e511 : M5 (24 + 9 * p) 11 = M 21 1 := by
      rw [m5 _ _ (by omega), v4.2.2.2, v3.2.2.2, l1.2.2.2, q5]
    have e411 : M4 (24 + 9 * p) 11 = M 21 1 := by
      rw [v4.2.2.2, v3.2.2.2, l1.2.2.2, q5]
    have e521 : M5 21 1 = M2 21 1 := (m5 _ _ (by omega)).trans (by omega)
    have e512 : M5 (24 + 9 * p) 12 = M2 21 1 - M 21 1 := by
      rw [k512, e411]; omega
    have hl4c := l4.1
    have hI4 := s4.2
    obtain ⟨j1, j2, j3, j4, j5, j6, j7, j8, j9, j10⟩ := id hI4
    have h300 : tT (M4 (24 + 9 * p) 0) ≤ 90900 := by
      rcases Int.lt_or_le (M4 (24 + 9 * p) 0) 300 with q | q
      · have h1 := tT_le hW4.1 q
        have h2 : tT 300 = 90900 := rfl
        omega
      · have h1 : M4 (24 + 9 * p) 0 = 300 := by omega
        rw [h1]; exact Int.le_refl _
    have hrow : ∀ k : Nat, M5 22 k = M4 22 k := fun k => m5 _ _ (by omega)
    have hnk := hA.2.2.1
    have hnn := hA.1
    refine ⟨⟨by rw [e50]; exact hW4, ⟨by rw [e511]; exact hW.1.1, by omega⟩, fun t ht => ?_, fun r h1 h2 => ?_, 100, (M2 (24 + 9 * p) 0).toNat, ?_, ?_, ?_, ?_, ?_, ?_, ?_, ?_⟩, by omega, by omega, e511, by omega, fun k hk => ?_, by rw [m5 (24 + 9 * p) 10 (by omega)]; omega⟩
    · rw [e50] at ht
      obtain ⟨p1, p2, p3, p4, p5, p6, p7, p8, p9, p10⟩ := j5 t ht
      rw [m5 _ _ (by omega), m5 (24 + 9 * p + 2) _ (by omega), m5 (24 + 9 * p + 3) _ (by omega), m5 (24 + 9 * p + 4) _ (by omega), m5 (24 + 9 * p + 5) _ (by omega), m5 (24 + 9 * p + 6) _ (by omega), m5 (24 + 9 * p + 7) _ (by omega)]
      have hmany : 0 < M4 (24 + 9 * p + 7) t → M4 (24 + 9 * p + 7) t ≤ 690 := fun q => by have := p8.2 q; omega
      refine ⟨p1, p2, p4, p5, p6, p7, p8.1, ?_, fun q => by have := p8.2 q; omega, fun k hk => ?_⟩
      · by_cases q : 0 < M4 (24 + 9 * p + 7) t
        · exact hmany q
        · omega
      · have := p8.2 (by omega)
        rw [m5 _ _ (by omega)]
        exact j8 _ (by omega)
    · rw [hrow, hrow, hrow, hrow]
      obtain ⟨r1, r2, r3, r4, r5⟩ := j10 r (by omega) (by omega)
      omega
    · have A := l11 (fun _ => 0) (kM M5 p) (bM M5 p) (cH4 M5 p) (fun _ => []) ([], 0, 0, -1, none) (fun t h1 h2 => by
        obtain ⟨f1, f2, f3⟩ := K24.2.1 t h2
        have hlt : (t : Int) < M5 (24 + 9 * p) 0 := by omega
        have kk : ∀ c, kM M5 p c t = M5 (24 + 9 * p + c) t := fun c => if_pos hlt
        refine ⟨?_, ?_, ?_, ?_, ?_, ?_⟩
        · rw [kk, m5 _ _ (by omega), f3 1 (by omega) (by omega) (by omega)]
        · rw [kk, m5 _ _ (by omega), f3 3 (by omega) (by omega) (by omega)]
        · rw [kk, m5 _ _ (by omega), f3 4 (by omega) (by omega) (by omega)]
        · rw [kk, m5 _ _ (by omega), f3 5 (by omega) (by omega) (by omega)]
        · rw [kk, m5 _ _ (by omega), X24 t h2, if_neg (by rw [q9]; omega)]
        · rw [← bgl_K l3 K24 h2]
          show (if (t : Int) < M5 (24 + 9 * p) 0 then _ else _) = _
          rw [if_pos hlt]
          unfold bgl
          rw [m5 (24 + 9 * p + 7) _ (by omega), m5 (24 + 9 * p + 6) _ (by omega)]
          exact List.map_congr_left fun k _ => by rw [m5 _ _ (by omega)]) (fun t h1 h2 h3 => by
        show hk M5 t (M5 (24 + 9 * p) 11).toNat (M5 (24 + 9 * p) 12).toNat = hk M2 t (M1 21 1).toNat (M2 21 1 - M1 21 1).toNat ++ []
        rw [e511, e512, t1, List.append_nil]
        exact hk_eq _ fun k hk => by rw [hrow, K24.2.2.2.2.2 k (by omega)]) rfl (fun _ _ _ => rfl) (by
        unfold gG
        show gR M1 (fun _ => 0) (fun _ => []) (M1 105 0) [] ∧ (((0 : Nat) : Int) = M1 105 1) ∧ (((0 : Nat) : Int) = M1 105 2) ∧ (-1 = M1 105 3) ∧ lpR M1 (fun _ => 0) 105 (M1 105 0) 0 none
        rw [q11, q12, q13, q14]
        exact ⟨rfl, rfl, rfl, rfl, Or.inl ⟨q15, rfl⟩⟩)
      rw [q2, show (M1 (24 + 9 * p + 7) (0 : Int).toNat).toNat = 0 by rw [q7 _ (by decide)]; rfl] at A
      exact A
    all_goals have hltA : (((M2 (24 + 9 * p) 0).toNat : Nat) : Int) < M5 (24 + 9 * p) 0 := by omega
    all_goals have hltB : (((M2 (24 + 9 * p) 0).toNat + 1 : Nat) : Int) < M5 (24 + 9 * p) 0 := by omega
    all_goals have K34 := g4.2.1.2.1 (M2 (24 + 9 * p) 0).toNat (by omega)
    all_goals have e31 : (M3 (24 + 9 * p) 0).toNat = (M2 (24 + 9 * p) 0).toNat + 1 := by omega
    · show (if _ then _ else _) = _
      rw [if_pos hltA]
      rw [m5 (24 + 9 * p + 7) _ (by omega), K34.2.2 7 (by omega) (by omega) (by omega), (u367 _).1, l9 _ (by omega) (by omega)]
      rfl
    · show (if _ then _ else _) = _
      rw [if_pos hltA, m5 _ _ (by omega), K34.2.2 1 (by omega) (by omega) (by omega), u31]
    · show (if _ then _ else _) = _
      rw [if_pos hltA, m5 _ _ (by omega), c4X _ (by omega), u32]
    · show (if _ then _ else _) = _
      rw [if_pos hltA, m5 _ _ (by omega), K34.2.2 3 (by omega) (by omega) (by omega), u33]
    · show (if _ then _ else _) = _
      rw [if_pos hltB, m5 (24 + 9 * p + 7) _ (by omega), (u467 _).1, (u367 _).1, l3.2.2.2.2.2.2.1 _ (by omega) (by omega)]
      rfl
    · show (if _ then _ else _) = _
      rw [if_pos hltB, m5 _ _ (by omega), ← e31, u41]
    · show (if _ then _ else _) = _
      rw [if_pos hltB, m5 _ _ (by omega), ← e31, u42]
    · rw [hrow, K24.2.2.2.2.2 k (by omega), l4.2.2.2.2.2 k (by omega), q1 22 _ (by omega) (by omega) (by omega) (by omega)]
end PcA
