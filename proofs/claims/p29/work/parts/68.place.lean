/-! a label, a guard, a place further in -/
/-- only the place at d + 1 is another one -/
def pD (d : Nat) (M M' : yM) : Prop := ∀ a j, a ≠ 105 + (d + 1) → M' a j = M a j
section PlA
variable {cc d e b i N n o : Nat} {P M M' M0 M1 M2 : yM} {op x y z nd gd lb v : Int}
/-- numbers that code, guards and rows don't speak of may change -/
theorem nlb (hcc : pC cc) (hd : d ≤ 90) (hs : sO cc P d b M) (hb : M 96 10 + 1 ≤ M cc 0 + b) : sO cc P d b (yU M 96 10 (M 96 10 + 1)) ∧ sg cc d M (yU M 96 10 (M 96 10 + 1)) ∧ lX cc M (yU M 96 10 (M 96 10 + 1)) := by
  have hr := cc_rg hcc
  obtain ⟨hB, hI⟩ := hs
  obtain ⟨hwq, hW⟩ := lQ_U (a := 96) (i := 10) (v := M 96 10 + 1) (d := d) hcc (by omega) hB.2.1
  generalize hM' : yU M 96 10 (M 96 10 + 1) = M' at hwq hW ⊢
  have key : ∀ a j, (a ≠ 96 ∨ j ≠ 10) → M' a j = M a j := fun a j q => by rw [← hM']; exact yU_ne (by omega)
  have k : M' 96 10 = M 96 10 + 1 := by rw [← hM', yU_at]
  have f0 : M' cc 0 = M cc 0 := key _ _ (by omega)
  have f10 : M' cc 10 = M cc 10 := key _ _ (by omega)
  have f7 : M' 96 7 = M 96 7 := key _ _ (by omega)
  have r1 : M' 21 1 = M 21 1 := key _ _ (by omega)
  have c11 : M' cc 11 = M cc 11 := key _ _ (by omega)
  obtain ⟨a1, a2, a3, a4, a5, a6, a7, a8, a9, a10⟩ := id hI
  have hK : lK cc M M' := ⟨⟨by omega, by omega, by omega, by omega, by omega⟩, fun t ht => ⟨key _ _ (by omega), key _ _ (by omega), fun c _ _ _ => key _ _ (by omega)⟩, fun t _ _ => ⟨by rw [key (cc + 7) t (by omega)]; exact Int.le_refl _, fun _ => key _ _ (by omega)⟩, fun k _ => key _ _ (by omega), fun y _ => ⟨key _ _ (by omega), key _ _ (by omega), key _ _ (by omega)⟩, fun k _ => key _ _ (by omega)⟩
  have hX : lX cc M M' := fun t ht => key _ _ (by omega)
  have hI' : lI cc P b M' := lI_ext hI hK (fun t ht => Or.inl (hX t ht)) (by omega) (by omega) (by omega) c11 (by rw [f0, r1, c11]; exact a4.2.2.2) (fun t h1 h2 => absurd h2 (by omega)) (fun t h1 h2 => by rw [key (cc + 7) t (by omega), key (cc + 6) t (by omega), f10]; exact a6 t (by omega) h2) (fun t h1 h2 => by rw [key (cc + 7) t (by omega)]; exact a7 t (by omega) h2) (fun k h1 h2 => absurd h2 (by omega)) (fun y h1 h2 => absurd h2 (by omega)) (fun r h1 h2 => absurd h2 (by omega))
  exact ⟨⟨lB_K hcc hd hB hI hwq hW ((key _ _ (by omega)).trans hB.2.2.1) hK, hI'⟩, ⟨hwq, hK, fun r h1 h2 => absurd h2 (by omega)⟩, hX⟩
theorem f67 : f_67 M = (yU M 96 10 (M 96 10 + 1), M 96 10 + 1) := by
  unfold f_67
  rw [ylet_eq, yU_at]
/-- a guard is made -/
def gM (M : yM) (n d : Nat) : yM := yU (yU (yU (yU M 96 7 (M 96 7 + 1)) 98 (M 96 7).toNat (n : Int)) 99 (M 96 7).toNat (M (105 + d) 0)) 100 (M 96 7).toNat (d : Int)
theorem f66 (hd : d ≤ 90) (h0 : 0 ≤ M 96 7) (h1 : M 96 7 < 390) : f_66 M (n : Int) (d : Int) = (gM M n d, M 96 7) := by
  have e8 : yln 98 = 390 := rfl
  have e9 : yln 99 = 390 := rfl
  have e100 : yln 100 = 390 := rfl
  unfold f_66 gM
  rw [ylet_eq, ylet_eq, ylet_eq, ylet_eq, ylet_eq, pz_d (by omega)]
  rw [wr_in (a := 98) h0 (by rw [e8]; omega), yU_c (b := 105 + d) (by omega), yU_c (b := 105 + d) (by omega), wr_in (a := 99) h0 (by rw [e9]; omega), wr_in (a := 100) h0 (by rw [e100]; omega)]
theorem ngd (hcc : pC cc) (hd : d ≤ 89) (hb90 : b ≤ 90) (hs : sO cc P d b M) (hb : M 96 7 + 1 ≤ M cc 0 + b) (hn : nB P d n M) (h11 : P 7 n = 11 ∨ P 7 n = 13) : sO cc P d b (gM M n d) ∧ sg cc d M (gM M n d) ∧ lX cc M (gM M n d) ∧ (gM M n d 96 7 = M 96 7 + 1 ∧ gM M n d 98 (M 96 7).toNat = (n : Int) ∧ gM M n d 99 (M 96 7).toNat = M (105 + d) 0 ∧ gM M n d 100 (M 96 7).toNat = (d : Int)) ∧ ∀ a j, (a ≠ 96 ∨ j ≠ 7) → ¬ (98 ≤ a ∧ a ≤ 100) → gM M n d a j = M a j := by
  have hr := cc_rg hcc
  obtain ⟨hB, hI⟩ := hs
  obtain ⟨a1, a2, a3, a4, a5, a6, a7, a8, a9, a10⟩ := id hI
  have hW0 := hB.2.1
  have hgd := hB.2.2.2.1 d (Nat.le_refl d)
  have hQ : lQ cc d M (gM M n d) := lQ_trans (lQ_U hcc (by omega)) (lQ_trans (lQ_U hcc (by omega)) (lQ_trans (lQ_U hcc (by omega)) (lQ_U hcc (by omega))))
  obtain ⟨hwq, hW⟩ := hQ hW0
  generalize hM' : gM M n d = M' at hwq hW ⊢
  unfold gM at hM'
  have key0 : ∀ a j, (a ≠ 96 ∨ j ≠ 7) → ¬ ((98 ≤ a ∧ a ≤ 100) ∧ j = (M 96 7).toNat) → M' a j = M a j := fun a j q1 q2 => by rw [← hM', yU_ne (by omega), yU_ne (by omega), yU_ne (by omega), yU_ne (by omega)]
  have k7 : M' 96 7 = M 96 7 + 1 := by rw [← hM', yU_c (by omega), yU_c (by omega), yU_c (by omega), yU_at]
  have k8 : M' 98 (M 96 7).toNat = (n : Int) := by rw [← hM', yU_c (by omega), yU_c (by omega), yU_at]
  have k9 : M' 99 (M 96 7).toNat = M (105 + d) 0 := by rw [← hM', yU_c (by omega), yU_at]
  have k100 : M' 100 (M 96 7).toNat = (d : Int) := by rw [← hM', yU_at]
  have f0 : M' cc 0 = M cc 0 := key0 _ _ (by omega) (by omega)
  have f10 : M' cc 10 = M cc 10 := key0 _ _ (by omega) (by omega)
  have l10 : M' 96 10 = M 96 10 := key0 _ _ (by omega) (by omega)
  have r1 : M' 21 1 = M 21 1 := key0 _ _ (by omega) (by omega)
  have c11 : M' cc 11 = M cc 11 := key0 _ _ (by omega) (by omega)
  have hK : lK cc M M' := ⟨⟨by omega, by omega, by omega, by omega, by omega⟩, fun t ht => ⟨key0 _ _ (by omega) (by omega), key0 _ _ (by omega) (by omega), fun c _ _ _ => key0 _ _ (by omega) (by omega)⟩, fun t _ _ => ⟨by rw [key0 (cc + 7) t (by omega) (by omega)]; exact Int.le_refl _, fun _ => key0 _ _ (by omega) (by omega)⟩, fun k _ => key0 _ _ (by omega) (by omega), fun y _ => ⟨key0 _ _ (by omega) (by omega), key0 _ _ (by omega) (by omega), key0 _ _ (by omega) (by omega)⟩, fun k _ => key0 _ _ (by omega) (by omega)⟩
  have hX : lX cc M M' := fun t ht => key0 _ _ (by omega) (by omega)
  have hI' : lI cc P b M' := by
    refine lI_ext hI hK (fun t ht => Or.inl (hX t ht)) (by omega) (by omega) (by omega) c11 (by rw [f0, r1, c11]; exact a4.2.2.2) (fun t h1 h2 => absurd h2 (by omega)) (fun t h1 h2 => by rw [key0 (cc + 7) t (by omega) (by omega), key0 (cc + 6) t (by omega) (by omega), f10]; exact a6 t (by omega) h2) (fun t h1 h2 => by rw [key0 (cc + 7) t (by omega) (by omega)]; exact a7 t (by omega) h2) (fun k h1 h2 => absurd h2 (by omega)) (fun y h1 h2 => ?_) (fun r h1 h2 => absurd h2 (by omega))
    have ey : y = (M 96 7).toNat := by omega
    subst ey
    unfold pR
    rw [k8, k9, k100, Int.toNat_natCast]
    refine ⟨by omega, by omega, fun q => ?_, ⟨by omega, hn.1⟩, h11, hn.2.2.1, inv_K hI hK (by omega) hn.2.2.2.1⟩
    rw [key0 100 _ (by omega) (by omega)]
    exact hgd.2.2.2.2.2.1 q
  exact ⟨⟨lB_K hcc (by omega) hB hI hwq hW ((key0 _ _ (by omega) (by omega)).trans hB.2.2.1) hK, hI'⟩, ⟨hwq, hK, fun r h1 h2 => absurd h2 (by omega)⟩, hX, ⟨k7, k8, k9, k100⟩, fun a j q1 q2 => key0 a j q1 (by omega)⟩
/-- the place at d + 1 changes -/
theorem pl_ok (hcc : pC cc) (hd : d < 90) (hs : sO cc P d b M) (hp : pD d M M') : sO cc P d b M' ∧ sg cc d M M' ∧ lX cc M M' := by
  have hr := cc_rg hcc
  obtain ⟨hB, hI⟩ := hs
  obtain ⟨a1, a2, a3, a4, a5, a6, a7, a8, a9, a10⟩ := id hI
  have f0 : M' cc 0 = M cc 0 := hp _ _ (by omega)
  have f1 : M' cc 1 = M cc 1 := hp _ _ (by omega)
  have f7 : M' 96 7 = M 96 7 := hp _ _ (by omega)
  have f10 : M' cc 10 = M cc 10 := hp _ _ (by omega)
  have l10 : M' 96 10 = M 96 10 := hp _ _ (by omega)
  have r1 : M' 21 1 = M 21 1 := hp _ _ (by omega)
  have r2 : M' 21 2 = M 21 2 := hp _ _ (by omega)
  have c11 : M' cc 11 = M cc 11 := hp _ _ (by omega)
  have hwq : lw cc d M M' := ⟨fun a j _ _ _ q _ _ => hp _ _ (by omega), hp _ _ (by omega), by rw [f1]; exact id, c11⟩
  have hW : lW cc M' := by
    have h := hB.2.1
    unfold lW tI at h ⊢
    rw [f0, f1, r1, r2]
    refine ⟨h.1, h.2.1, h.2.2.1, fun c hc => ?_⟩
    rw [hp 103 c (by omega), hp 104 c (by omega)]
    exact h.2.2.2 c hc
  have hK : lK cc M M' := ⟨⟨by omega, by omega, by omega, by omega, by omega⟩, fun t ht => ⟨hp _ _ (by omega), hp _ _ (by omega), fun c _ _ _ => hp _ _ (by omega)⟩, fun t _ _ => ⟨by rw [hp (cc + 7) t (by omega)]; exact Int.le_refl _, fun _ => hp _ _ (by omega)⟩, fun k _ => hp _ _ (by omega), fun y _ => ⟨hp _ _ (by omega), hp _ _ (by omega), hp _ _ (by omega)⟩, fun k _ => hp _ _ (by omega)⟩
  have hX : lX cc M M' := fun t ht => hp _ _ (by omega)
  have hI' : lI cc P b M' := lI_ext hI hK (fun t ht => Or.inl (hX t ht)) (by omega) (by omega) (by omega) c11 (by rw [f0, r1, c11]; exact a4.2.2.2) (fun t h1 h2 => absurd h2 (by omega)) (fun t h1 h2 => by rw [hp (cc + 7) t (by omega), hp (cc + 6) t (by omega), f10]; exact a6 t (by omega) h2) (fun t h1 h2 => by rw [hp (cc + 7) t (by omega)]; exact a7 t (by omega) h2) (fun k h1 h2 => absurd h2 (by omega)) (fun y h1 h2 => absurd h2 (by omega)) (fun r h1 h2 => absurd h2 (by omega))
  exact ⟨⟨lB_K hcc (by omega) hB hI hwq hW (f1.trans hB.2.2.1) hK, hI'⟩, ⟨hwq, hK, fun r h1 h2 => absurd h2 (by omega)⟩, hX⟩
/-- what stands at d + 1 -/
theorem sO_in (hd : d < 90) (hs : sO cc P d b M) (h1 : 0 ≤ M (105 + (d + 1)) 1 ∧ M (105 + (d + 1)) 1 ≤ (d : Int) + 1) (h2 : 0 ≤ M (105 + (d + 1)) 2 ∧ M (105 + (d + 1)) 2 ≤ (d : Int) + 1) (h3 : -1 ≤ M (105 + (d + 1)) 3 ∧ M (105 + (d + 1)) 3 < 90) (h4 : 0 ≤ M (105 + (d + 1)) 4 ∧ M (105 + (d + 1)) 4 ≤ M 96 10) (h5 : -1 ≤ M (105 + (d + 1)) 5 ∧ M (105 + (d + 1)) 5 < M 96 7) (h0 : -1 ≤ M (105 + (d + 1)) 0 ∧ M (105 + (d + 1)) 0 < M 96 7) (h00 : 0 ≤ M (105 + (d + 1)) 0 → M 100 (M (105 + (d + 1)) 0).toNat ≤ (d : Int))
    (hc : ∀ y : Nat, on M (M (105 + (d + 1)) 0) y → M (105 + (M 100 y).toNat) 0 = M 99 y ∧ nR P M (M 98 y).toNat (105 + (M 100 y).toNat) ∧ M (105 + (M 100 y).toNat) 1 ≤ M (105 + (d + 1)) 1) : sO cc P (d + 1) b M := by
  obtain ⟨⟨b1, b2, b3, b4, b5⟩, hI⟩ := hs
  refine ⟨⟨b1, b2, b3, fun l hl => ?_, hc⟩, hI⟩
  by_cases q : l ≤ d
  · exact b4 l q
  · have e : l = d + 1 := by omega
    subst e
    exact ⟨by omega, by omega, h3, h4, h0, fun q => by have := h00 q; omega, h5⟩
/-- a copy of place o to d + 1 -/
theorem f48 (hd : d < 90) (ho : o ≤ d) : pD d M (f_48 M (o : Int) (d : Int)) ∧ ∀ j, j < 6 → f_48 M (o : Int) (d : Int) (105 + (d + 1)) j = M (105 + o) j := by
  have e : f_48 M (o : Int) (d : Int) = yU (yU (yU (yU (yU (yU M (105 + (d + 1)) 0 (M (105 + o) 0)) (105 + (d + 1)) 1 (M (105 + o) 1)) (105 + (d + 1)) 2 (M (105 + o) 2)) (105 + (d + 1)) 3 (M (105 + o) 3)) (105 + (d + 1)) 4 (M (105 + o) 4)) (105 + (d + 1)) 5 (M (105 + o) 5) := by
    unfold f_48 f_102
    rw [ylet_eq, ylet_eq, ylet_eq, ylet_eq, ylet_eq, ylet_eq, ylet_eq, pz_s hd, pz_d (by omega)]
    repeat rw [yU_c (b := 105 + o) (a := 105 + (d + 1)) (by omega)]
  rw [e]
  refine ⟨fun a j q => by rw [yU_c q, yU_c q, yU_c q, yU_c q, yU_c q, yU_c q], fun j hj => ?_⟩
  rcases (show j = 0 ∨ j = 1 ∨ j = 2 ∨ j = 3 ∨ j = 4 ∨ j = 5 by omega) with rfl | rfl | rfl | rfl | rfl | rfl
  · rw [yU_i (by decide), yU_i (by decide), yU_i (by decide), yU_i (by decide), yU_i (by decide), yU_at]
  · rw [yU_i (by decide), yU_i (by decide), yU_i (by decide), yU_i (by decide), yU_at]
  · rw [yU_i (by decide), yU_i (by decide), yU_i (by decide), yU_at]
  · rw [yU_i (by decide), yU_i (by decide), yU_at]
  · rw [yU_i (by decide), yU_at]
  · rw [yU_at]
theorem f47 : f_47 M x = f_48 M x x := by
  unfold f_47
  rw [ylet_eq]
theorem pD_U (h : pD d M M') : pD d M (yU M' (105 + (d + 1)) i v) := fun a j q => (yU_c q).trans (h a j q)
end PlA
