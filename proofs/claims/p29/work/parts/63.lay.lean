/-! laying: what every step of it leaves, and that it ends -/
/-- the table can always grow -/
def tI (M : yM) : Prop := 0 ≤ M 21 1 ∧ M 21 1 ≤ 32768 ∧ 512 ≤ M 21 2 ∧ M 21 2 ≤ 262144 ∧ 4 * M 21 1 ≤ M 21 2
section LyD
variable (cc : Nat)
/-- what always holds as code is laid -/
def lW (M : yM) : Prop := (0 ≤ M cc 0 ∧ M cc 0 ≤ 300) ∧ (M cc 1 = 0 ∨ M cc 1 = 1) ∧ tI M ∧ ∀ c, c < 90 → (0 ≤ M 103 c ∧ M 103 c ≤ 300) ∧ 0 ≤ M 104 c ∧ M 104 c ≤ 300
/-- what is left as it was by what stands at depth d -/
def lw (d : Nat) (M M' : yM) : Prop :=
  (∀ a j, ¬ (cc ≤ a ∧ a ≤ cc + 8) → a ≠ 96 → ¬ (98 ≤ a ∧ a ≤ 104) → ¬ (105 + d < a ∧ a ≤ 195) → a ≠ 21 → a ≠ 22 → M' a j = M a j) ∧
  M' 96 14 = M 96 14 ∧ (M cc 1 ≠ 0 → M' cc 1 ≠ 0) ∧ M' cc 11 = M cc 11
def lQ (d : Nat) (M M' : yM) : Prop := lW cc M → lw cc d M M' ∧ lW cc M'
end LyD
section LyQ
variable {cc d e a i N n : Nat} {M M1 M2 M' : yM} {v k x y z x1 x2 x3 x4 x5 x6 g b nd f u : Int}
theorem cc_rg (h : pC cc) : 24 ≤ cc ∧ cc + 8 ≤ 95 := by
  obtain ⟨p, hp, rfl⟩ := h
  omega
theorem lQ_refl : lQ cc d M M := fun h => ⟨⟨fun _ _ _ _ _ _ _ _ => rfl, rfl, id, rfl⟩, h⟩
theorem lQ_trans (h1 : lQ cc d M M1) (h2 : lQ cc d M1 M2) : lQ cc d M M2 := by
  intro h
  obtain ⟨⟨a1, a2, a3, a4⟩, h⟩ := h1 h
  obtain ⟨⟨b1, b2, b3, b4⟩, h⟩ := h2 h
  exact ⟨⟨fun a j q1 q2 q3 q4 q5 q6 => (b1 a j q1 q2 q3 q4 q5 q6).trans (a1 a j q1 q2 q3 q4 q5 q6), b2.trans a2, fun q => b3 (a3 q), b4.trans a4⟩, h⟩
theorem lQ_mono (h : d ≤ e) (h1 : lQ cc e M M1) : lQ cc d M M1 := by
  intro h0
  obtain ⟨⟨a1, a2, a3, a4⟩, h2⟩ := h1 h0
  exact ⟨⟨fun a j q1 q2 q3 q4 q5 q6 => a1 a j q1 q2 q3 (by omega) q5 q6, a2, a3, a4⟩, h2⟩
theorem lQ_U (hcc : pC cc) (h : (a = 96 ∧ i ≠ 14) ∨ (cc < a ∧ a ≤ cc + 8) ∨ (a = cc ∧ i = 10) ∨ (98 ≤ a ∧ a ≤ 102) ∨ (105 + d < a ∧ a ≤ 195)) : lQ cc d M (yU M a i v) := by
  have hr := cc_rg hcc
  have key : ∀ b j, (b ≠ a ∨ j ≠ i) → yU M a i v b j = M b j := fun b j q => yU_ne (by omega)
  intro h0
  refine ⟨⟨fun b j q1 q2 q3 q4 q5 q6 => key b j (by omega), key _ _ (by omega), ?_, key _ _ (by omega)⟩, ?_⟩
  · rw [key cc 1 (by omega)]; exact id
  · unfold lW tI at h0 ⊢
    rw [key cc 0 (by omega), key cc 1 (by omega), key 21 1 (by omega), key 21 2 (by omega)]
    refine ⟨h0.1, h0.2.1, h0.2.2.1, fun c hc => ?_⟩
    rw [key 103 c (by omega), key 104 c (by omega)]
    exact h0.2.2.2 c hc
theorem lQ_wr (hcc : pC cc) (h : (cc < a ∧ a ≤ cc + 8) ∨ (98 ≤ a ∧ a ≤ 102)) : lQ cc d M (ywr M a k v) := by
  unfold ywr
  split
  · exact lQ_U hcc (by omega)
  · exact lQ_refl
theorem lQ_wrc (hcc : pC cc) (h : a = 103 ∨ a = 104) (h0 : 0 ≤ v) (h1 : v ≤ 300) : lQ cc d M (ywr M a k v) := by
  have hr := cc_rg hcc
  unfold ywr
  split
  · have key : ∀ b j, b ≠ a → yU M a (yw k).toNat v b j = M b j := fun b j q => yU_c q
    have key2 : ∀ b j, (yU M a (yw k).toNat v b j = v) ∨ yU M a (yw k).toNat v b j = M b j := fun b j => by
      by_cases q : b = a ∧ j = (yw k).toNat
      · obtain ⟨rfl, rfl⟩ := q
        exact Or.inl yU_at
      · exact Or.inr (yU_ne q)
    intro hW
    refine ⟨⟨fun b j q1 q2 q3 q4 q5 q6 => key b j (by omega), key _ _ (by omega), ?_, key _ _ (by omega)⟩, ?_⟩
    · rw [key cc 1 (by omega)]; exact id
    · unfold lW tI at hW ⊢
      rw [key cc 0 (by omega), key cc 1 (by omega), key 21 1 (by omega), key 21 2 (by omega)]
      refine ⟨hW.1, hW.2.1, hW.2.2.1, fun c hc => ?_⟩
      obtain ⟨g1, g2⟩ := hW.2.2.2 c hc
      constructor
      · rcases key2 103 c with q | q <;> rw [q] <;> omega
      · rcases key2 104 c with q | q <;> rw [q] <;> omega
  · exact lQ_refl
/-- an instruction -/
def eM (cc : Nat) (M : yM) (op x y z nd gd lb : Int) : yM := f_39 (ywr (ywr M 101 (M cc 0) gd) 102 (M cc 0) lb) cc op x y z nd
theorem e_45 (hcc : pC cc) : f_45 cc M x1 x2 x3 x4 x5 x6 = eM cc M x1 x2 x3 x4 x5 x6 0 := by
  have hr := cc_rg hcc
  unfold f_45 eM
  rw [ylet_eq, ylet_eq, ylet_eq, wr_c (b := cc) (j := 0) (by omega)]
theorem e_46 (hcc : pC cc) : f_46 cc M x1 x2 x3 x4 x5 = eM cc M x2 0 x3 0 x4 x5 x1 := by
  have hr := cc_rg hcc
  unfold f_46 eM
  rw [ylet_eq, ylet_eq, ylet_eq, wr_c (b := cc) (j := 0) (by omega)]
theorem lQ_39 (hcc : pC cc) : lQ cc d M (f_39 M cc x y z u nd) := by
  have hr := cc_rg hcc
  intro hW
  have hl := hW.1
  unfold f_39
  rw [ylet_eq, ylet_eq, ylet_eq, ylet_eq, ylet_eq, ylet_eq, ylet_eq]
  rw [rel2 ⟨by omega, by omega⟩ ⟨by decide, by decide⟩]
  by_cases hlt : M cc 0 < 300
  · rw [cond_dt hlt]
    have q1 : lQ cc d M (ywr M (cc + 1) (M cc 0) x) := lQ_wr hcc (by omega)
    generalize hM1 : ywr M (cc + 1) (M cc 0) x = M1 at q1 ⊢
    have q2 : lQ cc d M1 (ywr M1 (cc + 2) (M1 cc 0) y) := lQ_wr hcc (by omega)
    generalize hM2 : ywr M1 (cc + 2) (M1 cc 0) y = M2 at q2 ⊢
    have q3 : lQ cc d M2 (ywr M2 (cc + 3) (M2 cc 0) z) := lQ_wr hcc (by omega)
    generalize hM3 : ywr M2 (cc + 3) (M2 cc 0) z = M3 at q3 ⊢
    have q4 : lQ cc d M3 (ywr M3 (cc + 4) (M3 cc 0) u) := lQ_wr hcc (by omega)
    generalize hM4 : ywr M3 (cc + 4) (M3 cc 0) u = M4 at q4 ⊢
    have q5 : lQ cc d M4 (ywr M4 (cc + 5) (M4 cc 0) nd) := lQ_wr hcc (by omega)
    generalize hM5 : ywr M4 (cc + 5) (M4 cc 0) nd = M5 at q5 ⊢
    have e5 : M5 cc 0 = M cc 0 := by
      rw [← hM5, wr_c (by omega), ← hM4, wr_c (by omega), ← hM3, wr_c (by omega), ← hM2, wr_c (by omega), ← hM1, wr_c (by omega)]
    obtain ⟨⟨a1, a2, a3, a4⟩, hW5⟩ := lQ_trans q1 (lQ_trans q2 (lQ_trans q3 (lQ_trans q4 q5))) hW
    have key : ∀ b j, (b ≠ cc ∨ j ≠ 0) → yU M5 cc 0 (M5 cc 0 + 1) b j = M5 b j := fun b j q => yU_ne (by omega)
    refine ⟨⟨fun b j q1 q2 q3 q4 q5 q6 => (key b j (by omega)).trans (a1 b j q1 q2 q3 q4 q5 q6), (key _ _ (by omega)).trans a2, ?_, (key _ _ (by omega)).trans a4⟩, ?_⟩
    · rw [key cc 1 (by omega)]; exact a3
    · unfold lW tI at hW5 ⊢
      rw [yU_at, key cc 1 (by omega), key 21 1 (by omega), key 21 2 (by omega)]
      refine ⟨by omega, hW5.2.1, hW5.2.2.1, fun c hc => ?_⟩
      rw [key 103 c (by omega), key 104 c (by omega)]
      exact hW5.2.2.2 c hc
  · rw [cond_df hlt]
    have key : ∀ b j, (b ≠ cc ∨ j ≠ 1) → yU M cc 1 1 b j = M b j := fun b j q => yU_ne (by omega)
    refine ⟨⟨fun b j q1 q2 q3 q4 q5 q6 => key b j (by omega), key _ _ (by omega), ?_, key _ _ (by omega)⟩, ?_⟩
    · rw [yU_at]; exact fun _ => by decide
    · unfold lW tI at hW ⊢
      rw [yU_at, key cc 0 (by omega), key 21 1 (by omega), key 21 2 (by omega)]
      refine ⟨hW.1, Or.inr rfl, hW.2.2.1, fun c hc => ?_⟩
      rw [key 103 c (by omega), key 104 c (by omega)]
      exact hW.2.2.2 c hc
theorem lQ_eM (hcc : pC cc) : lQ cc d M (eM cc M x1 x2 x3 x4 x5 x6 v) := by
  unfold eM
  exact lQ_trans (lQ_wr hcc (by omega)) (lQ_trans (lQ_wr hcc (by omega)) (lQ_39 hcc))
theorem lQ_45 (hcc : pC cc) : lQ cc d M (f_45 cc M x1 x2 x3 x4 x5 x6) := by
  rw [e_45 hcc]; exact lQ_eM hcc
theorem lQ_46 (hcc : pC cc) : lQ cc d M (f_46 cc M x1 x2 x3 x4 x5) := by
  rw [e_46 hcc]; exact lQ_eM hcc
theorem lQ_tl (hcc : pC cc) : lQ cc d M (yU M cc 1 1) := by
  have hr := cc_rg hcc
  intro hW
  have key : ∀ b j, (b ≠ cc ∨ j ≠ 1) → yU M cc 1 1 b j = M b j := fun b j q => yU_ne (by omega)
  refine ⟨⟨fun b j q1 q2 q3 q4 q5 q6 => key b j (by omega), key _ _ (by omega), ?_, key _ _ (by omega)⟩, ?_⟩
  · rw [yU_at]; exact fun _ => by decide
  · unfold lW tI at hW ⊢
    rw [yU_at, key cc 0 (by omega), key 21 1 (by omega), key 21 2 (by omega)]
    refine ⟨hW.1, Or.inr rfl, hW.2.2.1, fun c hc => ?_⟩
    rw [key 103 c (by omega), key 104 c (by omega)]
    exact hW.2.2.2 c hc
theorem lQ_cond {b : Bool} {A B : yM} (h1 : lQ cc d M A) (h2 : lQ cc d M B) : lQ cc d M (cond b A B) := by
  cases b with
  | true => rw [cond_true]; exact h1
  | false => rw [cond_false]; exact h2
theorem lQ_40 (hcc : pC cc) : lQ cc d M (f_40 M cc x) := by
  have hr := cc_rg hcc
  have h13 : ∀ M, lQ cc d M (f_40_13 M cc x) := fun M => by
    unfold f_40_13
    rw [ylet_eq, ylet_eq, ylet_eq]
    exact lQ_trans (lQ_wr hcc (by omega)) (lQ_trans (lQ_wr hcc (by omega)) (lQ_U hcc (by omega)))
  unfold f_40
  refine lQ_cond (h13 M) ?_
  rw [ylet_eq]
  exact lQ_trans (lQ_wr hcc (by omega)) (h13 _)
theorem lQ_67 (hcc : pC cc) : lQ cc d M (f_67 M).1 := by
  unfold f_67
  rw [ylet_eq]
  exact lQ_U hcc (by omega)
theorem lQ_66 (hcc : pC cc) : lQ cc d M (f_66 M x y).1 := by
  unfold f_66
  rw [ylet_eq, ylet_eq, ylet_eq, ylet_eq, ylet_eq]
  exact lQ_trans (lQ_U hcc (by omega)) (lQ_trans (lQ_wr hcc (by omega)) (lQ_trans (lQ_wr hcc (by omega)) (lQ_wr hcc (by omega))))
theorem pz91 {k : Int} (h0 : 0 ≤ k) (h1 : k ≤ 90) : ypz 91 k = k.toNat := by
  unfold ypz
  rw [yw_of (by omega) (by omega), if_pos (by omega)]
theorem lQ_102 (hcc : pC cc) {p q : Nat} (hp : d < p ∧ p ≤ 90) : lQ cc d M (f_102 M (105 + 1 * p) q) := by
  unfold f_102
  rw [ylet_eq, ylet_eq, ylet_eq, ylet_eq, ylet_eq, ylet_eq]
  exact lQ_trans (lQ_U hcc (by omega)) (lQ_trans (lQ_U hcc (by omega)) (lQ_trans (lQ_U hcc (by omega)) (lQ_trans (lQ_U hcc (by omega)) (lQ_trans (lQ_U hcc (by omega)) (lQ_U hcc (by omega))))))
theorem lQ_48 (hcc : pC cc) (hd : d < 90) : lQ cc d M (f_48 M x (d : Int)) := by
  unfold f_48
  rw [ylet_eq, show ((d : Int) + 1) = ((d + 1 : Nat) : Int) from rfl, pz91 (by omega) (by omega), Int.toNat_natCast]
  exact lQ_102 hcc (by omega)
theorem lQ_47 (hcc : pC cc) (hd : d < 90) : lQ cc d M (f_47 M (d : Int)) := by
  unfold f_47
  rw [ylet_eq]
  exact lQ_48 hcc hd
theorem lQ_54 (hcc : pC cc) : lQ cc d M (f_54 cc M x y) := by
  unfold f_54
  rw [ylet_eq, ylet_eq]
  exact lQ_cond lQ_refl (lQ_45 hcc)
theorem lQ_62 (hcc : pC cc) {p : Nat} : lQ cc d M (f_62 cc M x p) := by
  unfold f_62
  simp only [ylet_eq]
  exact (lQ_cond (lQ_45 hcc) (lQ_cond (lQ_45 hcc) (lQ_cond (lQ_45 hcc) (lQ_cond (lQ_45 hcc) (lQ_cond lQ_refl (lQ_cond lQ_refl (lQ_cond lQ_refl (lQ_cond lQ_refl (lQ_cond lQ_refl (lQ_cond (lQ_45 hcc) (lQ_cond (lQ_45 hcc) (lQ_cond lQ_refl (lQ_cond lQ_refl (lQ_cond lQ_refl (lQ_cond (lQ_45 hcc) (lQ_cond (lQ_45 hcc) (lQ_cond (lQ_45 hcc) (lQ_cond (lQ_45 hcc) (lQ_cond (lQ_45 hcc) lQ_refl)))))))))))))))))))
/-- the table takes a row more, if it can -/
theorem f140_ok (hI : tI M) : ∃ M', f_140 M x1 x2 x3 x4 = some M' ∧ tI M' ∧ (∀ a j, a ≠ 21 → a ≠ 22 → M' a j = M a j) ∧ (M 21 1 < 32768 → M' 21 1 = M 21 1 + 1 ∧ (∀ j : Nat, (j : Int) < 4 * M 21 1 → M' 22 j = M 22 j) ∧ M' 22 (4 * M 21 1).toNat = x1 ∧ M' 22 (4 * M 21 1 + 1).toNat = x2 ∧ M' 22 (4 * M 21 1 + 2).toNat = x3 ∧ M' 22 (4 * M 21 1 + 3).toNat = x4) := by
  obtain ⟨i1, i2, i3, i4, i5⟩ := id hI
  have hwr : ∀ {M : yM} {k v : Int}, 0 ≤ k → k < M 21 2 → M 21 2 ≤ 1048576 → ywrT M k v = yU M 22 k.toNat v := fun {M k v} h0 h1 h2 => by
    unfold ywrT
    rw [yw_of (by omega) (by omega), if_pos (by omega)]
  have hput : ∀ {M : yM}, 0 ≤ M 21 1 → 4 * M 21 1 + 4 ≤ M 21 2 → M 21 2 ≤ 1048576 → (∀ a j, a ≠ 21 → a ≠ 22 → yput4 M x1 x2 x3 x4 a j = M a j) ∧ yput4 M x1 x2 x3 x4 21 1 = M 21 1 + 1 ∧ yput4 M x1 x2 x3 x4 21 2 = M 21 2 ∧ (∀ j : Nat, (j : Int) < 4 * M 21 1 → yput4 M x1 x2 x3 x4 22 j = M 22 j) ∧ yput4 M x1 x2 x3 x4 22 (4 * M 21 1).toNat = x1 ∧ yput4 M x1 x2 x3 x4 22 (4 * M 21 1 + 1).toNat = x2 ∧ yput4 M x1 x2 x3 x4 22 (4 * M 21 1 + 2).toNat = x3 ∧ yput4 M x1 x2 x3 x4 22 (4 * M 21 1 + 3).toNat = x4 := by
    intro M h0 h1 h2
    have e : yput4 M x1 x2 x3 x4 = yU (yU (yU (yU (yU M 22 (4 * M 21 1).toNat x1) 22 (4 * M 21 1 + 1).toNat x2) 22 (4 * M 21 1 + 2).toNat x3) 22 (4 * M 21 1 + 3).toNat x4) 21 1 (M 21 1 + 1) := by
      unfold yput4
      dsimp only
      rw [show M 21 1 * 4 = 4 * M 21 1 by omega, hwr (k := 4 * M 21 1) (by omega) (by omega) (by omega)]
      have e1 : yU M 22 (4 * M 21 1).toNat x1 21 1 = M 21 1 := yU_c (by decide)
      have e2 : yU M 22 (4 * M 21 1).toNat x1 21 2 = M 21 2 := yU_c (by decide)
      rw [e1, show M 21 1 * 4 = 4 * M 21 1 by omega, hwr (k := 4 * M 21 1 + 1) (by omega) (by rw [e2]; omega) (by rw [e2]; omega)]
      generalize hM2 : yU (yU M 22 (4 * M 21 1).toNat x1) 22 (4 * M 21 1 + 1).toNat x2 = M2
      have e1 : M2 21 1 = M 21 1 := by rw [← hM2]; exact (yU_c (by decide)).trans e1
      have e2 : M2 21 2 = M 21 2 := by rw [← hM2]; exact (yU_c (by decide)).trans e2
      rw [e1, show M 21 1 * 4 = 4 * M 21 1 by omega, hwr (k := 4 * M 21 1 + 2) (by omega) (by rw [e2]; omega) (by rw [e2]; omega)]
      generalize hM3 : yU M2 22 (4 * M 21 1 + 2).toNat x3 = M3
      have e1 : M3 21 1 = M 21 1 := by rw [← hM3]; exact (yU_c (by decide)).trans e1
      have e2 : M3 21 2 = M 21 2 := by rw [← hM3]; exact (yU_c (by decide)).trans e2
      rw [e1, show M 21 1 * 4 = 4 * M 21 1 by omega, hwr (k := 4 * M 21 1 + 3) (by omega) (by rw [e2]; omega) (by rw [e2]; omega)]
      have e4 : yU M3 22 (4 * M 21 1 + 3).toNat x4 21 1 = M 21 1 := (yU_c (by decide)).trans e1
      rw [e4]
    rw [e]
    refine ⟨fun a j q1 q2 => by rw [yU_c q1, yU_c q2, yU_c q2, yU_c q2, yU_c q2], yU_at, by rw [yU_i (by decide), yU_c (by decide), yU_c (by decide), yU_c (by decide), yU_c (by decide)], fun j hj => ?_, ?_, ?_, ?_, ?_⟩
    · rw [yU_c (by decide), yU_i (by omega), yU_i (by omega), yU_i (by omega), yU_i (by omega)]
    · rw [yU_c (by decide), yU_i (by omega), yU_i (by omega), yU_i (by omega), yU_at]
    · rw [yU_c (by decide), yU_i (by omega), yU_i (by omega), yU_at]
    · rw [yU_c (by decide), yU_i (by omega), yU_at]
    · rw [yU_c (by decide), yU_at]
  unfold f_140
  rw [yw_of (x := M 21 1) (by omega) (by omega)]
  by_cases hc : M 21 1 < 32768
  · rw [if_pos hc, yw_of (x := (M 21 1 + 1) * 4) (by omega) (by omega), yw_of (x := M 21 2) (by omega) (by omega)]
    by_cases hg : (M 21 1 + 1) * 4 ≤ M 21 2
    · rw [if_pos hg]
      obtain ⟨p1, p2, p3, p4⟩ := hput (M := M) i1 (by omega) (by omega)
      exact ⟨_, rfl, ⟨by omega, by omega, by omega, by omega, by omega⟩, p1, fun _ => ⟨p2, p4⟩⟩
    · rw [if_neg hg, if_pos (by omega)]
      have e1 : ygrow M 21 1 = M 21 1 := by
        unfold ygrow
        rw [if_neg (by omega), if_neg (by omega)]
      have e2 : ygrow M 21 2 = M 21 2 * 2 := if_pos ⟨rfl, rfl⟩
      have e3 : ∀ a j, a ≠ 21 → a ≠ 22 → ygrow M a j = M a j := fun a j q1 q2 => by
        unfold ygrow
        rw [if_neg (by omega), if_neg (by omega)]
      have e4 : ∀ j : Nat, (j : Int) < M 21 2 → ygrow M 22 j = M 22 j := fun j hj => by
        unfold ygrow
        rw [if_neg (by omega), if_neg (by omega)]
      obtain ⟨p1, p2, p3, p4, p5, p6, p7, p8⟩ := hput (M := ygrow M) (by rw [e1]; exact i1) (by rw [e1, e2]; omega) (by rw [e2]; omega)
      rw [e1] at p2 p4 p5 p6 p7 p8
      rw [e2] at p3
      refine ⟨_, rfl, ⟨by omega, by omega, by omega, by omega, by omega⟩, fun a j q1 q2 => (p1 a j q1 q2).trans (e3 a j q1 q2), fun _ => ⟨p2, fun j hj => (p4 j hj).trans (e4 j (by omega)), p5, p6, p7, p8⟩⟩
  · rw [if_neg hc]
    exact ⟨M, rfl, hI, fun _ _ _ _ => rfl, fun h => absurd h hc⟩
theorem lQ_140 (hcc : pC cc) (hW : lW cc M) : ∃ M', f_140 M x1 x2 x3 x4 = some M' ∧ lQ cc d M M' := by
  have hr := cc_rg hcc
  obtain ⟨M', e, q1, q2, -⟩ := f140_ok (x1 := x1) (x2 := x2) (x3 := x3) (x4 := x4) hW.2.2.1
  refine ⟨M', e, fun _ => ⟨⟨fun a j _ _ _ _ q5 q6 => q2 a j q5 q6, q2 _ _ (by omega) (by omega), ?_, q2 _ _ (by omega) (by omega)⟩, ?_⟩⟩
  · rw [q2 cc 1 (by omega) (by omega)]; exact id
  · unfold lW
    rw [q2 cc 0 (by omega) (by omega), q2 cc 1 (by omega) (by omega)]
    refine ⟨hW.1, hW.2.1, q1, fun c hc => ?_⟩
    rw [q2 103 c (by omega) (by omega), q2 104 c (by omega) (by omega)]
    exact hW.2.2.2 c hc
end LyQ
