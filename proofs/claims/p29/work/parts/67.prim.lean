/-! steps of laying: an instruction, a beginning, a label, a guard, a place -/
def sO (cc : Nat) (P : yM) (d b : Nat) (M : yM) : Prop := lB cc P d M ∧ lI cc P b M
/-- what a step, or more of them, leaves -/
def sg (cc d : Nat) (M M' : yM) : Prop := lw cc d M M' ∧ lK cc M M' ∧ lV cc M M'
/-- labels are as seen from where a node began -/
def lLb (cc d : Nat) (M0 M : yM) : Prop := ∀ t : Nat, M0 cc 0 ≤ (t : Int) → (t : Int) < M cc 0 → M 102 t = 0 ∨ (∃ l, l ≤ d ∧ M0 (105 + l) 4 = M 102 t) ∨ M0 96 10 < M 102 t
section PrA
variable {cc d e b i N n : Nat} {P M M' M0 M1 M2 : yM} {op x y z nd gd lb v : Int}
theorem lw_trans (h1 : lw cc d M M1) (h2 : lw cc d M1 M2) : lw cc d M M2 := by
  obtain ⟨a1, a2, a3, a4⟩ := h1
  obtain ⟨b1, b2, b3, b4⟩ := h2
  exact ⟨fun a j q1 q2 q3 q4 q5 q6 => (b1 a j q1 q2 q3 q4 q5 q6).trans (a1 a j q1 q2 q3 q4 q5 q6), b2.trans a2, fun q => b3 (a3 q), b4.trans a4⟩
theorem lw_mono (h : d ≤ e) (h1 : lw cc e M M1) : lw cc d M M1 := by
  obtain ⟨a1, a2, a3, a4⟩ := h1
  exact ⟨fun a j q1 q2 q3 q4 q5 q6 => a1 a j q1 q2 q3 (by omega) q5 q6, a2, a3, a4⟩
theorem sg_refl : sg cc d M M := ⟨⟨fun _ _ _ _ _ _ _ _ => rfl, rfl, id, rfl⟩, lK_refl, fun r h1 h2 => absurd h2 (by omega)⟩
theorem sg_trans (h1 : sg cc d M M1) (h2 : sg cc d M1 M2) : sg cc d M M2 := by
  obtain ⟨a1, a2, a3⟩ := h1
  obtain ⟨b1, b2, b3⟩ := h2
  refine ⟨lw_trans a1 b1, lK_trans a2 b2, fun r h1 h2 => ?_⟩
  have c1 := a2.1
  have c2 := b2.1
  rcases Int.lt_or_le r (M1 21 1) with q | q
  · have := a3 r h1 q
    rw [b2.2.2.2.2.2 (4 * r) (by omega), b2.2.2.2.2.2 (4 * r + 1) (by omega)]
    omega
  · have := b3 r q h2
    omega
theorem sg_mono (h : d ≤ e) (h1 : sg cc e M M1) : sg cc d M M1 := ⟨lw_mono h h1.1, h1.2⟩
theorem sO_le {b' : Nat} (h : sO cc P d b M) (hb : b ≤ b') : sO cc P d b' M := ⟨h.1, lI_le h.2 hb⟩
theorem eM_in (hcc : pC cc) (h0 : 0 ≤ M cc 0) (hl : M cc 0 < 300) : eM cc M op x y z nd gd lb = yU (yU (yU (yU (yU (yU (yU (yU M 101 (M cc 0).toNat gd) 102 (M cc 0).toNat lb) (cc + 1) (M cc 0).toNat op) (cc + 2) (M cc 0).toNat x) (cc + 3) (M cc 0).toNat y) (cc + 4) (M cc 0).toNat z) (cc + 5) (M cc 0).toNat nd) cc 0 (M cc 0 + 1) := by
  have hr := cc_rg hcc
  have hln : ∀ c, 1 ≤ c → c ≤ 7 → yln (cc + c) = 300 := fun c h1 h2 => by
    obtain ⟨p, hp, rfl⟩ := hcc
    exact ln_c hp ⟨h1, h2⟩
  have e101 : yln 101 = 300 := rfl
  have e102 : yln 102 = 300 := rfl
  unfold eM f_39
  rw [wr_in (a := 101) h0 (by rw [e101]; omega), wr_in (a := 102) h0 (by rw [e102]; omega)]
  rw [yU_c (b := cc) (by omega), yU_c (b := cc) (by omega), rel2 ⟨by omega, by omega⟩ ⟨by decide, by decide⟩, cond_dt hl, ylet_eq, ylet_eq, ylet_eq, ylet_eq, ylet_eq, ylet_eq]
  rw [wr_in (a := cc + 1) h0 (by rw [hln 1 (by omega) (by omega)]; omega), yU_c (b := cc) (by omega), yU_c (b := cc) (by omega), yU_c (b := cc) (by omega)]
  rw [wr_in (a := cc + 2) h0 (by rw [hln 2 (by omega) (by omega)]; omega), yU_c (b := cc) (by omega), yU_c (b := cc) (by omega), yU_c (b := cc) (by omega), yU_c (b := cc) (by omega)]
  rw [wr_in (a := cc + 3) h0 (by rw [hln 3 (by omega) (by omega)]; omega), yU_c (b := cc) (by omega), yU_c (b := cc) (by omega), yU_c (b := cc) (by omega), yU_c (b := cc) (by omega), yU_c (b := cc) (by omega)]
  rw [wr_in (a := cc + 4) h0 (by rw [hln 4 (by omega) (by omega)]; omega), yU_c (b := cc) (by omega), yU_c (b := cc) (by omega), yU_c (b := cc) (by omega), yU_c (b := cc) (by omega), yU_c (b := cc) (by omega), yU_c (b := cc) (by omega)]
  rw [wr_in (a := cc + 5) h0 (by rw [hln 5 (by omega) (by omega)]; omega), yU_c (b := cc) (by omega), yU_c (b := cc) (by omega), yU_c (b := cc) (by omega), yU_c (b := cc) (by omega), yU_c (b := cc) (by omega), yU_c (b := cc) (by omega), yU_c (b := cc) (by omega)]
theorem eM_full (hcc : pC cc) (h0 : 0 ≤ M cc 0) (h3 : M cc 0 ≤ 300) (hl : ¬ M cc 0 < 300) : eM cc M op x y z nd gd lb cc 1 = 1 := by
  have hr := cc_rg hcc
  unfold eM f_39
  rw [wr_c (b := cc) (by omega), wr_c (b := cc) (by omega), rel2 ⟨by omega, by omega⟩ ⟨by decide, by decide⟩, cond_df hl, ylet_eq, yU_at]
/-- what an instruction has to be -/
def eO (cc : Nat) (P M : yM) (op x y z nd gd lb : Int) : Prop :=
  (1 ≤ op ∧ op ≤ 20) ∧ a_w2 op x y z ∧ (op = 5 ∨ op = 6 → x ≤ M cc 0) ∧ (op = 9 → y < P 1 4) ∧ (op = 17 ∨ op = 18 → x < P 1 4) ∧ (op = 10 ∨ op = 13 → 0 ≤ x ∧ x < P 1 0) ∧ (a_may op → 0 ≤ nd ∧ nd < P 1 7) ∧ (-1 ≤ gd ∧ gd < M 96 7) ∧ (0 ≤ lb ∧ lb ≤ M 96 10) ∧ (0 < lb → op = 5 ∨ op = 6)
/-- an instruction is laid -/
def eD (cc : Nat) (M M' : yM) (op x y z nd gd lb : Int) : Prop :=
  (M cc 0 < 300 ∧ M' cc 0 = M cc 0 + 1 ∧ M' cc 10 = M cc 10 ∧ M' 96 7 = M 96 7 ∧ M' 96 10 = M 96 10 ∧ M' 21 1 = M 21 1) ∧ lX cc M M' ∧
  (M' 101 (M cc 0).toNat = gd ∧ M' 102 (M cc 0).toNat = lb ∧ M' (cc + 1) (M cc 0).toNat = op ∧ M' (cc + 2) (M cc 0).toNat = x ∧ M' (cc + 3) (M cc 0).toNat = y ∧ M' (cc + 4) (M cc 0).toNat = z ∧ M' (cc + 5) (M cc 0).toNat = nd) ∧
  (∀ t : Nat, M' (cc + 7) t = M (cc + 7) t ∧ M' (cc + 6) t = M (cc + 6) t) ∧ (∀ k : Nat, M' (cc + 8) k = M (cc + 8) k) ∧ (∀ k : Nat, M' 103 k = M 103 k ∧ M' 104 k = M 104 k) ∧ (∀ a j, 105 ≤ a → M' a j = M a j)
theorem em (hcc : pC cc) (hd : d ≤ 90) (hs : sO cc P d b M) (hM' : eM cc M op x y z nd gd lb = M') (h0 : M' cc 1 = 0) (ho : eO cc P M op x y z nd gd lb) : sO cc P d b M' ∧ sg cc d M M' ∧ eD cc M M' op x y z nd gd lb := by
  have hr := cc_rg hcc
  obtain ⟨hB, hI⟩ := hs
  have hl := hB.2.1.1
  have hlt : M cc 0 < 300 := Decidable.byContradiction fun q => by
    have := eM_full (op := op) (x := x) (y := y) (z := z) (nd := nd) (gd := gd) (lb := lb) hcc hl.1 hl.2 q
    rw [hM'] at this
    omega
  obtain ⟨hwq, hW⟩ := lQ_eM (d := d) (x1 := op) (x2 := x) (x3 := y) (x4 := z) (x5 := nd) (x6 := gd) (v := lb) hcc hB.2.1
  rw [hM'] at hwq hW
  rw [eM_in hcc hl.1 hlt] at hM'
  have hkey : ∀ a j, ¬ (j = (M cc 0).toNat ∧ (a = 101 ∨ a = 102 ∨ (cc + 1 ≤ a ∧ a ≤ cc + 5))) → ¬ (a = cc ∧ j = 0) → M' a j = M a j := fun a j q1 q2 => by
    rw [← hM', yU_ne q2, yU_ne (by omega), yU_ne (by omega), yU_ne (by omega), yU_ne (by omega), yU_ne (by omega), yU_ne (by omega), yU_ne (by omega)]
  have k0 : M' cc 0 = M cc 0 + 1 := by rw [← hM', yU_at]
  have k101 : M' 101 (M cc 0).toNat = gd := by rw [← hM', yU_ne (by omega), yU_ne (by omega), yU_ne (by omega), yU_ne (by omega), yU_ne (by omega), yU_ne (by omega), yU_ne (by omega), yU_at]
  have k102 : M' 102 (M cc 0).toNat = lb := by rw [← hM', yU_ne (by omega), yU_ne (by omega), yU_ne (by omega), yU_ne (by omega), yU_ne (by omega), yU_ne (by omega), yU_at]
  have k1 : M' (cc + 1) (M cc 0).toNat = op := by rw [← hM', yU_ne (by omega), yU_ne (by omega), yU_ne (by omega), yU_ne (by omega), yU_ne (by omega), yU_at]
  have k2 : M' (cc + 2) (M cc 0).toNat = x := by rw [← hM', yU_ne (by omega), yU_ne (by omega), yU_ne (by omega), yU_ne (by omega), yU_at]
  have k3 : M' (cc + 3) (M cc 0).toNat = y := by rw [← hM', yU_ne (by omega), yU_ne (by omega), yU_ne (by omega), yU_at]
  have k4 : M' (cc + 4) (M cc 0).toNat = z := by rw [← hM', yU_ne (by omega), yU_ne (by omega), yU_at]
  have k5 : M' (cc + 5) (M cc 0).toNat = nd := by rw [← hM', yU_ne (by omega), yU_at]
  have f7 : M' 96 7 = M 96 7 := hkey _ _ (by omega) (by omega)
  have f10 : M' 96 10 = M 96 10 := hkey _ _ (by omega) (by omega)
  have c10 : M' cc 10 = M cc 10 := hkey _ _ (by omega) (by omega)
  have c11 : M' cc 11 = M cc 11 := hkey _ _ (by omega) (by omega)
  have r1 : M' 21 1 = M 21 1 := hkey _ _ (by omega) (by omega)
  have f67 : ∀ t : Nat, M' (cc + 7) t = M (cc + 7) t ∧ M' (cc + 6) t = M (cc + 6) t := fun t => ⟨hkey _ _ (by omega) (by omega), hkey _ _ (by omega) (by omega)⟩
  have f8 : ∀ k : Nat, M' (cc + 8) k = M (cc + 8) k := fun t => hkey _ _ (by omega) (by omega)
  have hK : lK cc M M' := by
    refine ⟨⟨by omega, by omega, by omega, by omega, by omega⟩, fun t ht => ⟨hkey _ _ (by omega) (by omega), hkey _ _ (by omega) (by omega), fun c h1 h2 h3 => hkey _ _ (by omega) (by omega)⟩, fun t ht h3 => ⟨by rw [(f67 t).1]; exact Int.le_refl _, fun _ => (f67 t).2⟩, fun k _ => f8 k, fun y _ => ⟨hkey _ _ (by omega) (by omega), hkey _ _ (by omega) (by omega), hkey _ _ (by omega) (by omega)⟩, fun k _ => hkey _ _ (by omega) (by omega)⟩
  have hX : lX cc M M' := fun t ht => hkey _ _ (by omega) (by omega)
  obtain ⟨a1, a2, a3, a4, a5, a6, a7, a8, a9, a10⟩ := id hI
  obtain ⟨o1, o2, o3, o4, o5, o6, o7, o8, o9, o10⟩ := ho
  have hTT := tT_s (x := M cc 0)
  have hI' : lI cc P b M' := by
    refine lI_ext hI hK (fun t ht => Or.inl (hX t ht)) (by omega) (by omega) (by omega) c11 (by rw [k0, hTT, r1, c11]; omega) (fun t h1 h2 => ?_) (fun t h1 h2 => ?_) (fun t h1 h2 => ?_) (fun k h1 h2 => absurd h2 (by omega)) (fun y h1 h2 => absurd h2 (by omega)) (fun r h1 h2 => absurd h2 (by omega))
    · have et : t = (M cc 0).toNat := by omega
      subst et
      have h6 := a6 (M cc 0).toNat (by omega) (by omega)
      unfold pG
      rw [k1, k2, k3, k4, k5, k101, k102, (f67 _).1, (f67 _).2]
      exact ⟨o1, o2, fun q => by have := o3 q; omega, o4, o5, o6, o7, ⟨h6.1, fun q => by have := h6.2 q; omega⟩, by omega, by omega, o10⟩
    · have h7 := a7 t (by omega) h2
      rw [(f67 t).1, h7]
      exact ⟨Int.le_refl _, fun q => absurd q (by decide)⟩
    · rw [(f67 t).1]
      exact a7 t (by omega) h2
  exact ⟨⟨lB_K hcc hd hB hI hwq hW h0 hK, hI'⟩, ⟨hwq, hK, fun r h1 h2 => absurd h2 (by omega)⟩, ⟨hlt, k0, c10, f7, f10, r1⟩, hX, ⟨k101, k102, k1, k2, k3, k4, k5⟩, f67, f8, fun k => ⟨hkey _ _ (by omega) (by omega), hkey _ _ (by omega) (by omega)⟩, fun a j ha => hkey _ _ (by omega) (by omega)⟩
/-- a node begins -/
def bD (cc : Nat) (M M' : yM) (n : Nat) : Prop :=
  (M' cc 0 = M cc 0 ∧ M' cc 10 = M cc 10 + 1 ∧ M' 96 7 = M 96 7 ∧ M' 96 10 = M 96 10 ∧ M' 21 1 = M 21 1) ∧ lX cc M M' ∧
  (M cc 0 < 300 → M' (cc + 7) (M cc 0).toNat = M (cc + 7) (M cc 0).toNat + 1 ∧ M' (cc + 6) (M cc 0).toNat + M (cc + 7) (M cc 0).toNat = M cc 10 ∧ M' (cc + 8) (M cc 10).toNat = (n : Int)) ∧ (∀ k : Nat, M' 103 k = M 103 k ∧ M' 104 k = M 104 k) ∧ (∀ a j, 98 ≤ a → M' a j = M a j)
theorem bgn (hcc : pC cc) (hd : d ≤ 90) (hb : b ≤ 89) (hs : sO cc P d b M) (hn : (n : Int) < P 1 7 ∧ P 13 n ≠ -1) : sO cc P d (b + 1) (f_40 M cc (n : Int)) ∧ sg cc d M (f_40 M cc (n : Int)) ∧ bD cc M (f_40 M cc (n : Int)) n := by
  have hr := cc_rg hcc
  obtain ⟨hB, hI⟩ := hs
  have hl := hB.2.1.1
  obtain ⟨a1, a2, a3, a4, a5, a6, a7, a8, a9, a10⟩ := id hI
  obtain ⟨hwq, hW⟩ := lQ_40 (d := d) (x := (n : Int)) hcc hB.2.1
  have hln : ∀ c, 1 ≤ c → c ≤ 7 → yln (cc + c) = 300 := fun c h1 h2 => by
    obtain ⟨p, hp, rfl⟩ := hcc
    exact ln_c hp ⟨h1, h2⟩
  have hl8 : yln (cc + 8) = 690 := by
    obtain ⟨p, hp, rfl⟩ := hcc
    exact ln_c8 hp
  have h13 : ∀ M1 : yM, M1 cc 0 = M cc 0 → M1 cc 10 = M cc 10 → f_40_13 M1 cc (n : Int) = yU (yU (ywr M1 (cc + 7) (M cc 0) (yrd M1 (cc + 7) (M cc 0) + 1)) (cc + 8) (M cc 10).toNat (n : Int)) cc 10 (M cc 10 + 1) := fun M1 e1 e2 => by
    unfold f_40_13
    rw [ylet_eq, ylet_eq, ylet_eq, e1]
    have e3 : ∀ v, ywr M1 (cc + 7) (M cc 0) v cc 10 = M cc 10 := fun v => (wr_c (by omega)).trans e2
    rw [e3, wr_in (a := cc + 8) a1.1 (by rw [hl8]; omega), yU_c (b := cc) (by omega), e3]
  -- all that stays
  generalize hM' : f_40 M cc (n : Int) = M' at hwq hW ⊢
  have main : (∀ a j, ¬ (j = (M cc 0).toNat ∧ (a = cc + 6 ∨ a = cc + 7)) → ¬ (a = cc + 8 ∧ j = (M cc 10).toNat) → ¬ (a = cc ∧ j = 10) → M' a j = M a j) ∧ M' cc 10 = M cc 10 + 1 ∧ M' (cc + 8) (M cc 10).toNat = (n : Int) ∧ (M cc 0 < 300 → M' (cc + 7) (M cc 0).toNat = M (cc + 7) (M cc 0).toNat + 1 ∧ (M (cc + 7) (M cc 0).toNat = 0 → M' (cc + 6) (M cc 0).toNat = M cc 10) ∧ (M (cc + 7) (M cc 0).toNat ≠ 0 → M' (cc + 6) (M cc 0).toNat = M (cc + 6) (M cc 0).toNat)) ∧ (¬ M cc 0 < 300 → ∀ a j, ¬ (a = cc + 8 ∧ j = (M cc 10).toNat) → ¬ (a = cc ∧ j = 10) → M' a j = M a j) := by
    by_cases hlt : M cc 0 < 300
    · have h6 := a6 (M cc 0).toNat (by omega) (by omega)
      have hA := a1
      have rd : ∀ M1 : yM, yrd M1 (cc + 7) (M cc 0) = M1 (cc + 7) (M cc 0).toNat := fun M1 => rd_in hl.1 (by rw [hln 7 (by omega) (by omega)]; omega)
      have wr7 : ∀ (M1 : yM) (v : Int), ywr M1 (cc + 7) (M cc 0) v = yU M1 (cc + 7) (M cc 0).toNat v := fun M1 v => wr_in hl.1 (by rw [hln 7 (by omega) (by omega)]; omega)
      have hmany : M (cc + 7) (M cc 0).toNat ≤ 690 := by
        rcases Int.lt_or_le 0 (M (cc + 7) (M cc 0).toNat) with q | q
        · have := h6.2 q; omega
        · omega
      unfold f_40 at hM'
      rw [rd, rel1 ⟨by omega, by omega⟩ ⟨by decide, by decide⟩] at hM'
      by_cases hz : M (cc + 7) (M cc 0).toNat = 0
      · rw [decide_eq_true hz] at hM'
        rw [show (!true) = false from rfl, cond_false, ylet_eq, wr_in (a := cc + 6) hl.1 (by rw [hln 6 (by omega) (by omega)]; omega), h13 _ (yU_c (by omega)) (yU_c (by omega)), rd, wr7, yU_c (b := cc + 7) (a := cc + 6) (by omega)] at hM'
        refine ⟨fun a j q1 q2 q3 => ?_, ?_, ?_, fun _ => ⟨?_, fun _ => ?_, fun q => absurd hz q⟩, fun q => absurd hlt q⟩
        · rw [← hM', yU_ne q3, yU_ne q2, yU_ne (by omega), yU_ne (by omega)]
        · rw [← hM', yU_at]
        · rw [← hM', yU_c (by omega), yU_at]
        · rw [← hM', yU_c (by omega), yU_c (by omega), yU_at]
        · rw [← hM', yU_c (by omega), yU_c (by omega), yU_c (by omega), yU_at]
      · rw [decide_eq_false hz] at hM'
        rw [show (!false) = true from rfl, cond_true, h13 M rfl rfl, rd, wr7] at hM'
        refine ⟨fun a j q1 q2 q3 => ?_, ?_, ?_, fun _ => ⟨?_, fun q => absurd q hz, fun _ => ?_⟩, fun q => absurd hlt q⟩
        · rw [← hM', yU_ne q3, yU_ne q2, yU_ne (by omega)]
        · rw [← hM', yU_at]
        · rw [← hM', yU_c (by omega), yU_at]
        · rw [← hM', yU_c (by omega), yU_c (by omega), yU_at]
        · rw [← hM', yU_c (by omega), yU_c (by omega), yU_c (by omega)]
    · have wro : ∀ (M1 : yM) (a : Nat) (v : Int), yln a = 300 → ywr M1 a (M cc 0) v = M1 := fun M1 a v h => wr_out ⟨by omega, by omega⟩ (by rw [h]; omega)
      have e40 : f_40 M cc (n : Int) = f_40_13 M cc (n : Int) := by
        unfold f_40
        rw [rd_out ⟨by omega, by omega⟩ (by rw [hln 7 (by omega) (by omega)]; omega)]
        rw [show yrel 1 0 0 = false from rfl, cond_false, ylet_eq, wro _ _ _ (hln 6 (by omega) (by omega))]
      rw [e40, h13 M rfl rfl, wro _ _ _ (hln 7 (by omega) (by omega))] at hM'
      have h5 : ∀ a j, ¬ (a = cc + 8 ∧ j = (M cc 10).toNat) → ¬ (a = cc ∧ j = 10) → M' a j = M a j := fun a j q2 q3 => by rw [← hM', yU_ne q3, yU_ne q2]
      exact ⟨fun a j _ q2 q3 => h5 a j q2 q3, by rw [← hM', yU_at], by rw [← hM', yU_c (by omega), yU_at], fun q => absurd q hlt, fun _ => h5⟩
  obtain ⟨hkey, c10, c8, hin, hout⟩ := main
  have k0 : M' cc 0 = M cc 0 := hkey _ _ (by omega) (by omega) (by omega)
  have k1 : M' cc 1 = M cc 1 := hkey _ _ (by omega) (by omega) (by omega)
  have c11 : M' cc 11 = M cc 11 := hkey _ _ (by omega) (by omega) (by omega)
  have f7 : M' 96 7 = M 96 7 := hkey _ _ (by omega) (by omega) (by omega)
  have f10 : M' 96 10 = M 96 10 := hkey _ _ (by omega) (by omega) (by omega)
  have r1 : M' 21 1 = M 21 1 := hkey _ _ (by omega) (by omega) (by omega)
  have hK : lK cc M M' := by
    refine ⟨⟨by omega, by omega, by omega, by omega, by omega⟩, fun t ht => ⟨hkey _ _ (by omega) (by omega) (by omega), hkey _ _ (by omega) (by omega) (by omega), fun c h1 h2 h3 => hkey _ _ (by omega) (by omega) (by omega)⟩, fun t ht h3 => ?_, fun k hk => hkey _ _ (by omega) (by omega) (by omega), fun y _ => ⟨hkey _ _ (by omega) (by omega) (by omega), hkey _ _ (by omega) (by omega) (by omega), hkey _ _ (by omega) (by omega) (by omega)⟩, fun k _ => hkey _ _ (by omega) (by omega) (by omega)⟩
    have et : t = (M cc 0).toNat := by omega
    subst et
    obtain ⟨i1, i2, i3⟩ := hin (by omega)
    exact ⟨by omega, fun q => i3 (by omega)⟩
  have hX : lX cc M M' := fun t ht => hkey _ _ (by omega) (by omega) (by omega)
  have hI' : lI cc P (b + 1) M' := by
    refine lI_ext hI hK (fun t ht => Or.inl (hX t ht)) (by omega) (by omega) (by omega) c11 (by rw [k0, r1, c11]; exact a4.2.2.2) (fun t h1 h2 => absurd h2 (by omega)) (fun t h1 h2 => ?_) (fun t h1 h2 => ?_) (fun k h1 h2 => ?_) (fun y h1 h2 => absurd h2 (by omega)) (fun r h1 h2 => absurd h2 (by omega))
    · have et : t = (M cc 0).toNat := by omega
      subst et
      have h6 := a6 (M cc 0).toNat (by omega) (by omega)
      obtain ⟨i1, i2, i3⟩ := hin (by omega)
      refine ⟨by omega, fun _ => ?_⟩
      by_cases hz : M (cc + 7) (M cc 0).toNat = 0
      · rw [i2 hz, i1, c10, hz]
        omega
      · rw [i3 hz, i1, c10]
        have := h6.2 (by omega)
        omega
    · rw [hkey _ _ (by omega) (by omega) (by omega)]
      exact a7 t (by omega) h2
    · have ek : k = (M cc 10).toNat := by omega
      rw [ek, c8, Int.toNat_natCast]
      exact ⟨by omega, hn⟩
  refine ⟨⟨lB_K hcc hd hB hI hwq hW (k1.trans hB.2.2.1) hK, hI'⟩, ⟨hwq, hK, fun r h1 h2 => absurd h2 (by omega)⟩, ⟨k0, c10, f7, f10, r1⟩, hX, fun hlt => ?_, fun k => ⟨hkey _ _ (by omega) (by omega) (by omega), hkey _ _ (by omega) (by omega) (by omega)⟩, fun a j ha => hkey _ _ (by omega) (by omega) (by omega)⟩
  obtain ⟨i1, i2, i3⟩ := hin hlt
  have h6 := a6 (M cc 0).toNat (by omega) (by omega)
  refine ⟨i1, ?_, c8⟩
  by_cases hz : M (cc + 7) (M cc 0).toNat = 0
  · rw [i2 hz, hz]; omega
  · rw [i3 hz]
    exact (h6.2 (by omega)).2
end PrA
