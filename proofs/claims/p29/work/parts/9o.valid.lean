/-! what is told: nodes, classes, procedures, bodies -/
/-- a statement, a catch, that can still become a part -/
def uS (M : yM) (x : Int) : Prop := (0 ≤ x ∧ x < M 1 7) ∧ M 7 x.toNat ≠ 12 ∧ M 11 x.toNat = -1 ∧ M 12 x.toNat = -1
def uC (M : yM) (x : Int) : Prop := (0 ≤ x ∧ x < M 1 7) ∧ M 7 x.toNat = 12 ∧ M 11 x.toNat = -1 ∧ M 12 x.toNat = -1
/-- what a node is told as -/
def uN (M : yM) (s a b c : Int) : Prop :=
  ((s = 0 ∨ s = 1 ∨ s = 2) ∧ (0 ≤ a ∧ a < 10) ∧ a_opd b ∧ c = 0) ∨ ((s = 3 ∨ s = 8) ∧ a = 0 ∧ a_opd b ∧ c = 0) ∨
  (s = 4 ∧ a = 0 ∧ uS M b ∧ uS M c ∧ b ≠ c) ∨ (s = 5 ∧ a_opd a ∧ uS M b ∧ (c = -1 ∨ uS M c) ∧ b ≠ c) ∨ (s = 6 ∧ (0 ≤ a ∧ a < 10) ∧ uS M b ∧ c = 0) ∨
  ((s = 7 ∨ s = 14) ∧ a = 0 ∧ b = 0 ∧ c = 0) ∨ (s = 9 ∧ (0 ≤ a ∧ a < 10) ∧ (0 ≤ b ∧ b < M 1 4) ∧ c = 0) ∨ ((s = 10 ∨ s = 15) ∧ (0 ≤ a ∧ a < M 1 0) ∧ a_opd b ∧ c = 0) ∨
  (s = 11 ∧ (a = -1 ∨ uS M a) ∧ uS M b ∧ (c = -1 ∨ uC M c) ∧ a ≠ b ∧ ¬ (a = -1 ∧ c = -1)) ∨ (s = 12 ∧ (0 ≤ a ∧ a < M 1 0) ∧ uS M b ∧ (c = -1 ∨ uC M c)) ∨
  (s = 13 ∧ (a = -1 ∨ (0 ≤ a ∧ a < M 1 4)) ∧ uS M b ∧ (c = -1 ∨ (0 ≤ c ∧ c < M 1 4)) ∧ ¬ (a = -1 ∧ c = -1)) ∨ ((s = 16 ∨ s = 17 ∨ s = 18) ∧ (0 ≤ a ∧ a < 4) ∧ b = 0 ∧ c = 0)
section PadA
variable {M N X Y : yM} {s a b c x p q : Int} {n k : Nat}
theorem uS_sm (hI : pI M) (h : uS M x) : 0 ≤ x ∧ x < 90 := by
  have := hI.1
  have := h.1
  omega
theorem uC_sm (hI : pI M) (h : uC M x) : 0 ≤ x ∧ x < 90 := by
  have := hI.1
  have := h.1
  omega
theorem f117_1 (hI : pI M) (h : 0 ≤ x ∧ x < M 1 0) : f_117 M x = 1 := by
  have := hI.2.2.1
  unfold f_117
  rw [rel2 ⟨by omega, by omega⟩ ⟨by decide, by decide⟩, cond_df (by omega), rel3 ⟨by omega, by omega⟩ ⟨by omega, by omega⟩, cond_df (by omega)]
theorem f118_1 (hI : pI M) (h : 0 ≤ x ∧ x < M 1 7) : f_118 M x = 1 := by
  have := hI.1
  unfold f_118
  rw [rel2 ⟨by omega, by omega⟩ ⟨by decide, by decide⟩, cond_df (by omega), rel3 ⟨by omega, by omega⟩ ⟨by omega, by omega⟩, cond_df (by omega)]
theorem f119_1 (hI : pI M) (h : 0 ≤ x ∧ x < M 1 4) : f_119 M x = 1 := by
  have := hI.2.1
  unfold f_119
  rw [rel2 ⟨by omega, by omega⟩ ⟨by decide, by decide⟩, cond_df (by omega), rel3 ⟨by omega, by omega⟩ ⟨by omega, by omega⟩, cond_df (by omega)]
theorem f131_1 (h : 0 ≤ x ∧ x < 10) : f_131 M x = 1 := by
  unfold f_131
  rw [rel2 ⟨by omega, by omega⟩ ⟨by decide, by decide⟩, cond_df (by omega), rel3 ⟨by omega, by omega⟩ ⟨by decide, by decide⟩, cond_df (by omega)]
theorem f126_1 (h : a_opd x) : f_126 M x = 1 := by
  unfold a_opd at h
  unfold f_126
  rw [rel2 ⟨by omega, by omega⟩ ⟨by decide, by decide⟩, cond_df (by omega), rel5 ⟨by omega, by omega⟩ ⟨by decide, by decide⟩]
  by_cases q : x ≤ 99
  · rw [cond_dt q]
  · rw [cond_df q, rel2 ⟨by omega, by omega⟩ ⟨by decide, by decide⟩, cond_df (by omega), rel3 ⟨by omega, by omega⟩ ⟨by decide, by decide⟩, cond_df (by omega)]
theorem f121_1 (hI : pI M) (h : 0 ≤ x ∧ x < M 1 7) (h11 : M 11 x.toNat = -1) (h12 : M 12 x.toNat = -1) : f_121 M x = 1 := by
  have := hI.1
  unfold f_121
  rw [f118_1 hI h, show yrel 0 1 0 = false from rfl, cond_false, rd7x ⟨by decide, by decide⟩ (by omega) (by omega), rd7x ⟨by decide, by decide⟩ (by omega) (by omega), h11, h12]
  rfl
theorem f128_s (hI : pI M) (h : 0 ≤ x ∧ x < M 1 7) : f_128 M x = if M 7 x.toNat = 12 then 0 else 1 := by
  have := hI.1
  have h7 := nO_sm (hI.2.2.2.1 x.toNat (by omega))
  unfold f_128
  rw [rd7x ⟨by decide, by decide⟩ (by omega) (by omega), rel0 h7 ⟨by decide, by decide⟩]
  by_cases q : M 7 x.toNat = 12
  · rw [cond_dt q, if_pos q]
  · rw [cond_df q, if_neg q]
theorem f123_1 (hI : pI M) (h : uS M x) : f_123 M x = 1 := by
  unfold f_123
  rw [f121_1 hI h.1 h.2.2.1 h.2.2.2, f128_s hI h.1, if_neg h.2.1]
  rfl
theorem f122_1 (hI : pI M) (h : uC M x) : f_122 M x = 1 := by
  unfold f_122
  rw [f121_1 hI h.1 h.2.2.1 h.2.2.2, f128_s hI h.1, if_pos h.2.1]
  rfl
theorem v125_0 (hI : pI M) (ha : 0 ≤ a ∧ a < 10) (hb : a_opd b) (hc : c = 0) : f_125 M 0 a b c = 1 := by
  unfold f_125
  rw [show yrel 0 0 0 = true from rfl, cond_true]
  rw [f131_1 ha, show yrel 0 1 0 = false from rfl, cond_false, f126_1 hb, show yrel 0 1 0 = false from rfl, cond_false, hc, show yrel 1 0 0 = false from rfl, cond_false]
theorem v125_1 (hI : pI M) (ha : 0 ≤ a ∧ a < 10) (hb : a_opd b) (hc : c = 0) : f_125 M 1 a b c = 1 := by
  unfold f_125
  rw [show yrel 0 1 0 = false from rfl, cond_false, show yrel 0 1 (0 + 1) = true from rfl, cond_true]
  rw [f131_1 ha, show yrel 0 1 0 = false from rfl, cond_false, f126_1 hb, show yrel 0 1 0 = false from rfl, cond_false, hc, show yrel 1 0 0 = false from rfl, cond_false]
theorem v125_2 (hI : pI M) (ha : 0 ≤ a ∧ a < 10) (hb : a_opd b) (hc : c = 0) : f_125 M 2 a b c = 1 := by
  unfold f_125
  rw [show yrel 0 2 0 = false from rfl, cond_false, show yrel 0 2 (0 + 1) = false from rfl, cond_false, show yrel 0 2 (0 + 1 + 1) = true from rfl, cond_true]
  rw [f131_1 ha, show yrel 0 1 0 = false from rfl, cond_false, f126_1 hb, show yrel 0 1 0 = false from rfl, cond_false, hc, show yrel 1 0 0 = false from rfl, cond_false]
theorem v125_3 (hI : pI M) (ha : a = 0) (hb : a_opd b) (hc : c = 0) : f_125 M 3 a b c = 1 := by
  unfold f_125
  rw [show yrel 0 3 0 = false from rfl, cond_false, show yrel 0 3 (0 + 1) = false from rfl, cond_false, show yrel 0 3 (0 + 1 + 1) = false from rfl, cond_false, show yrel 0 3 (0 + 1 + 1 + 1) = true from rfl, cond_true]
  rw [ha, show yrel 1 0 0 = false from rfl, cond_false, f126_1 hb, show yrel 0 1 0 = false from rfl, cond_false, hc, show yrel 1 0 0 = false from rfl, cond_false]
theorem v125_8 (hI : pI M) (ha : a = 0) (hb : a_opd b) (hc : c = 0) : f_125 M 8 a b c = 1 := by
  unfold f_125
  rw [show yrel 0 8 0 = false from rfl, cond_false, show yrel 0 8 (0 + 1) = false from rfl, cond_false, show yrel 0 8 (0 + 1 + 1) = false from rfl, cond_false, show yrel 0 8 (0 + 1 + 1 + 1) = false from rfl, cond_false, show yrel 0 8 (0 + 1 + 1 + 1 + 1) = false from rfl, cond_false, show yrel 0 8 (0 + 1 + 1 + 1 + 1 + 1) = false from rfl, cond_false, show yrel 0 8 (0 + 1 + 1 + 1 + 1 + 1 + 1) = false from rfl, cond_false, show yrel 0 8 (0 + 1 + 1 + 1 + 1 + 1 + 1 + 1) = false from rfl, cond_false, show yrel 0 8 (0 + 1 + 1 + 1 + 1 + 1 + 1 + 1 + 1) = true from rfl, cond_true]
  rw [ha, show yrel 1 0 0 = false from rfl, cond_false, f126_1 hb, show yrel 0 1 0 = false from rfl, cond_false, hc, show yrel 1 0 0 = false from rfl, cond_false]
theorem v125_4 (hI : pI M) (ha : a = 0) (hb : uS M b) (hc : uS M c) (hn : b ≠ c) : f_125 M 4 a b c = 1 := by
  unfold f_125
  rw [show yrel 0 4 0 = false from rfl, cond_false, show yrel 0 4 (0 + 1) = false from rfl, cond_false, show yrel 0 4 (0 + 1 + 1) = false from rfl, cond_false, show yrel 0 4 (0 + 1 + 1 + 1) = false from rfl, cond_false, show yrel 0 4 (0 + 1 + 1 + 1 + 1) = true from rfl, cond_true]
  have hb9 := uS_sm hI hb
  have hc9 := uS_sm hI hc
  rw [ha, show yrel 1 0 0 = false from rfl, cond_false, f123_1 hI hb, show yrel 0 1 0 = false from rfl, cond_false, f123_1 hI hc, show yrel 0 1 0 = false from rfl, cond_false, rel0 ⟨by omega, by omega⟩ ⟨by omega, by omega⟩, cond_df hn]
theorem v125_5 (hI : pI M) (ha : a_opd a) (hb : uS M b) (hc : c = -1 ∨ uS M c) (hn : b ≠ c) : f_125 M 5 a b c = 1 := by
  unfold f_125
  rw [show yrel 0 5 0 = false from rfl, cond_false, show yrel 0 5 (0 + 1) = false from rfl, cond_false, show yrel 0 5 (0 + 1 + 1) = false from rfl, cond_false, show yrel 0 5 (0 + 1 + 1 + 1) = false from rfl, cond_false, show yrel 0 5 (0 + 1 + 1 + 1 + 1) = false from rfl, cond_false, show yrel 0 5 (0 + 1 + 1 + 1 + 1 + 1) = true from rfl, cond_true]
  have hb9 := uS_sm hI hb
  have hc9 : -1 ≤ c ∧ c < 90 := by
    rcases hc with q | q
    · omega
    · have := uS_sm hI q; omega
  rw [f126_1 ha, show yrel 0 1 0 = false from rfl, cond_false, f123_1 hI hb, show yrel 0 1 0 = false from rfl, cond_false, rel0 ⟨by omega, by omega⟩ ⟨by decide, by decide⟩]
  by_cases q : c = -1
  · rw [cond_dt q, rel0 ⟨by omega, by omega⟩ ⟨by omega, by omega⟩, cond_df hn]
  · rw [cond_df q, f123_1 hI (hc.resolve_left q), show yrel 0 1 0 = false from rfl, cond_false, rel0 ⟨by omega, by omega⟩ ⟨by omega, by omega⟩, cond_df hn]
theorem v125_6 (hI : pI M) (ha : 0 ≤ a ∧ a < 10) (hb : uS M b) (hc : c = 0) : f_125 M 6 a b c = 1 := by
  unfold f_125
  rw [show yrel 0 6 0 = false from rfl, cond_false, show yrel 0 6 (0 + 1) = false from rfl, cond_false, show yrel 0 6 (0 + 1 + 1) = false from rfl, cond_false, show yrel 0 6 (0 + 1 + 1 + 1) = false from rfl, cond_false, show yrel 0 6 (0 + 1 + 1 + 1 + 1) = false from rfl, cond_false, show yrel 0 6 (0 + 1 + 1 + 1 + 1 + 1) = false from rfl, cond_false, show yrel 0 6 (0 + 1 + 1 + 1 + 1 + 1 + 1) = true from rfl, cond_true]
  rw [f131_1 ha, show yrel 0 1 0 = false from rfl, cond_false, f123_1 hI hb, show yrel 0 1 0 = false from rfl, cond_false, hc, show yrel 1 0 0 = false from rfl, cond_false]
theorem v125_7 (hI : pI M) (ha : a = 0) (hb : b = 0) (hc : c = 0) : f_125 M 7 a b c = 1 := by
  unfold f_125
  rw [show yrel 0 7 0 = false from rfl, cond_false, show yrel 0 7 (0 + 1) = false from rfl, cond_false, show yrel 0 7 (0 + 1 + 1) = false from rfl, cond_false, show yrel 0 7 (0 + 1 + 1 + 1) = false from rfl, cond_false, show yrel 0 7 (0 + 1 + 1 + 1 + 1) = false from rfl, cond_false, show yrel 0 7 (0 + 1 + 1 + 1 + 1 + 1) = false from rfl, cond_false, show yrel 0 7 (0 + 1 + 1 + 1 + 1 + 1 + 1) = false from rfl, cond_false, show yrel 0 7 (0 + 1 + 1 + 1 + 1 + 1 + 1 + 1) = true from rfl, cond_true]
  rw [ha, show yrel 1 0 0 = false from rfl, cond_false, hb, show yrel 1 0 0 = false from rfl, cond_false, hc, show yrel 1 0 0 = false from rfl, cond_false]
theorem v125_14 (hI : pI M) (ha : a = 0) (hb : b = 0) (hc : c = 0) : f_125 M 14 a b c = 1 := by
  unfold f_125
  rw [show yrel 0 14 0 = false from rfl, cond_false, show yrel 0 14 (0 + 1) = false from rfl, cond_false, show yrel 0 14 (0 + 1 + 1) = false from rfl, cond_false, show yrel 0 14 (0 + 1 + 1 + 1) = false from rfl, cond_false, show yrel 0 14 (0 + 1 + 1 + 1 + 1) = false from rfl, cond_false, show yrel 0 14 (0 + 1 + 1 + 1 + 1 + 1) = false from rfl, cond_false, show yrel 0 14 (0 + 1 + 1 + 1 + 1 + 1 + 1) = false from rfl, cond_false, show yrel 0 14 (0 + 1 + 1 + 1 + 1 + 1 + 1 + 1) = false from rfl, cond_false, show yrel 0 14 (0 + 1 + 1 + 1 + 1 + 1 + 1 + 1 + 1) = false from rfl, cond_false, show yrel 0 14 (0 + 1 + 1 + 1 + 1 + 1 + 1 + 1 + 1 + 1) = false from rfl, cond_false, show yrel 0 14 (0 + 1 + 1 + 1 + 1 + 1 + 1 + 1 + 1 + 1 + 1) = false from rfl, cond_false, show yrel 0 14 (0 + 1 + 1 + 1 + 1 + 1 + 1 + 1 + 1 + 1 + 1 + 1) = false from rfl, cond_false, show yrel 0 14 (0 + 1 + 1 + 1 + 1 + 1 + 1 + 1 + 1 + 1 + 1 + 1 + 1) = false from rfl, cond_false, show yrel 0 14 (0 + 1 + 1 + 1 + 1 + 1 + 1 + 1 + 1 + 1 + 1 + 1 + 1 + 1) = false from rfl, cond_false, show yrel 0 14 (0 + 1 + 1 + 1 + 1 + 1 + 1 + 1 + 1 + 1 + 1 + 1 + 1 + 1 + 1) = true from rfl, cond_true]
  rw [ha, show yrel 1 0 0 = false from rfl, cond_false, hb, show yrel 1 0 0 = false from rfl, cond_false, hc, show yrel 1 0 0 = false from rfl, cond_false]
theorem v125_9 (hI : pI M) (ha : 0 ≤ a ∧ a < 10) (hb : 0 ≤ b ∧ b < M 1 4) (hc : c = 0) : f_125 M 9 a b c = 1 := by
  unfold f_125
  rw [show yrel 0 9 0 = false from rfl, cond_false, show yrel 0 9 (0 + 1) = false from rfl, cond_false, show yrel 0 9 (0 + 1 + 1) = false from rfl, cond_false, show yrel 0 9 (0 + 1 + 1 + 1) = false from rfl, cond_false, show yrel 0 9 (0 + 1 + 1 + 1 + 1) = false from rfl, cond_false, show yrel 0 9 (0 + 1 + 1 + 1 + 1 + 1) = false from rfl, cond_false, show yrel 0 9 (0 + 1 + 1 + 1 + 1 + 1 + 1) = false from rfl, cond_false, show yrel 0 9 (0 + 1 + 1 + 1 + 1 + 1 + 1 + 1) = false from rfl, cond_false, show yrel 0 9 (0 + 1 + 1 + 1 + 1 + 1 + 1 + 1 + 1) = false from rfl, cond_false, show yrel 0 9 (0 + 1 + 1 + 1 + 1 + 1 + 1 + 1 + 1 + 1) = true from rfl, cond_true]
  rw [f131_1 ha, show yrel 0 1 0 = false from rfl, cond_false, f119_1 hI hb, show yrel 0 1 0 = false from rfl, cond_false, hc, show yrel 1 0 0 = false from rfl, cond_false]
theorem v125_10 (hI : pI M) (ha : 0 ≤ a ∧ a < M 1 0) (hb : a_opd b) (hc : c = 0) : f_125 M 10 a b c = 1 := by
  unfold f_125
  rw [show yrel 0 10 0 = false from rfl, cond_false, show yrel 0 10 (0 + 1) = false from rfl, cond_false, show yrel 0 10 (0 + 1 + 1) = false from rfl, cond_false, show yrel 0 10 (0 + 1 + 1 + 1) = false from rfl, cond_false, show yrel 0 10 (0 + 1 + 1 + 1 + 1) = false from rfl, cond_false, show yrel 0 10 (0 + 1 + 1 + 1 + 1 + 1) = false from rfl, cond_false, show yrel 0 10 (0 + 1 + 1 + 1 + 1 + 1 + 1) = false from rfl, cond_false, show yrel 0 10 (0 + 1 + 1 + 1 + 1 + 1 + 1 + 1) = false from rfl, cond_false, show yrel 0 10 (0 + 1 + 1 + 1 + 1 + 1 + 1 + 1 + 1) = false from rfl, cond_false, show yrel 0 10 (0 + 1 + 1 + 1 + 1 + 1 + 1 + 1 + 1 + 1) = false from rfl, cond_false, show yrel 0 10 (0 + 1 + 1 + 1 + 1 + 1 + 1 + 1 + 1 + 1 + 1) = true from rfl, cond_true]
  rw [f117_1 hI ha, show yrel 0 1 0 = false from rfl, cond_false, f126_1 hb, show yrel 0 1 0 = false from rfl, cond_false, hc, show yrel 1 0 0 = false from rfl, cond_false]
theorem v125_15 (hI : pI M) (ha : 0 ≤ a ∧ a < M 1 0) (hb : a_opd b) (hc : c = 0) : f_125 M 15 a b c = 1 := by
  unfold f_125
  rw [show yrel 0 15 0 = false from rfl, cond_false, show yrel 0 15 (0 + 1) = false from rfl, cond_false, show yrel 0 15 (0 + 1 + 1) = false from rfl, cond_false, show yrel 0 15 (0 + 1 + 1 + 1) = false from rfl, cond_false, show yrel 0 15 (0 + 1 + 1 + 1 + 1) = false from rfl, cond_false, show yrel 0 15 (0 + 1 + 1 + 1 + 1 + 1) = false from rfl, cond_false, show yrel 0 15 (0 + 1 + 1 + 1 + 1 + 1 + 1) = false from rfl, cond_false, show yrel 0 15 (0 + 1 + 1 + 1 + 1 + 1 + 1 + 1) = false from rfl, cond_false, show yrel 0 15 (0 + 1 + 1 + 1 + 1 + 1 + 1 + 1 + 1) = false from rfl, cond_false, show yrel 0 15 (0 + 1 + 1 + 1 + 1 + 1 + 1 + 1 + 1 + 1) = false from rfl, cond_false, show yrel 0 15 (0 + 1 + 1 + 1 + 1 + 1 + 1 + 1 + 1 + 1 + 1) = false from rfl, cond_false, show yrel 0 15 (0 + 1 + 1 + 1 + 1 + 1 + 1 + 1 + 1 + 1 + 1 + 1) = false from rfl, cond_false, show yrel 0 15 (0 + 1 + 1 + 1 + 1 + 1 + 1 + 1 + 1 + 1 + 1 + 1 + 1) = false from rfl, cond_false, show yrel 0 15 (0 + 1 + 1 + 1 + 1 + 1 + 1 + 1 + 1 + 1 + 1 + 1 + 1 + 1) = false from rfl, cond_false, show yrel 0 15 (0 + 1 + 1 + 1 + 1 + 1 + 1 + 1 + 1 + 1 + 1 + 1 + 1 + 1 + 1) = false from rfl, cond_false, show yrel 0 15 (0 + 1 + 1 + 1 + 1 + 1 + 1 + 1 + 1 + 1 + 1 + 1 + 1 + 1 + 1 + 1) = true from rfl, cond_true]
  rw [f117_1 hI ha, show yrel 0 1 0 = false from rfl, cond_false, f126_1 hb, show yrel 0 1 0 = false from rfl, cond_false, hc, show yrel 1 0 0 = false from rfl, cond_false]
theorem f129_1 (hI : pI M) (ha : a = -1 ∨ uS M a) (hb : uS M b) (hc : c = -1 ∨ uC M c) (hn : a ≠ b) (hz : ¬ (a = -1 ∧ c = -1)) : f_129 M a b c = 1 := by
  have hb9 := uS_sm hI hb
  have ha9 : -1 ≤ a ∧ a < 90 := by
    rcases ha with q | q
    · omega
    · have := uS_sm hI q; omega
  have hc9 : -1 ≤ c ∧ c < 90 := by
    rcases hc with q | q
    · omega
    · have := uC_sm hI q; omega
  have key : (cond (yrel 0 (f_123 M b) 0) 0 (cond (yrel 0 a b) 0 (cond (yrel 0 a (-1)) (cond (yrel 0 c (-1)) 1 (cond (yrel 0 (f_122 M c) 0) 0 1)) (cond (yrel 0 (f_123 M a) 0) 0 (cond (yrel 0 c (-1)) 1 (cond (yrel 0 (f_122 M c) 0) 0 1)))))) = (1 : Int) := by
    have kc : (cond (yrel 0 c (-1)) 1 (cond (yrel 0 (f_122 M c) 0) 0 1)) = (1 : Int) := by
      rw [rel0 ⟨by omega, by omega⟩ ⟨by decide, by decide⟩]
      by_cases q2 : c = -1
      · rw [cond_dt q2]
      · rw [cond_df q2, f122_1 hI (hc.resolve_left q2)]; rfl
    rw [f123_1 hI hb, show yrel 0 1 0 = false from rfl, cond_false, rel0 ⟨by omega, by omega⟩ ⟨by omega, by omega⟩, cond_df hn, rel0 ⟨by omega, by omega⟩ ⟨by decide, by decide⟩, kc]
    by_cases q : a = -1
    · rw [cond_dt q]
    · rw [cond_df q, f123_1 hI (ha.resolve_left q)]; rfl
  unfold f_129
  rw [key, rel1 ⟨by omega, by omega⟩ ⟨by decide, by decide⟩, rel1 ⟨by omega, by omega⟩ ⟨by decide, by decide⟩]
  by_cases q : a = -1
  · rw [decide_eq_true q, decide_eq_false (fun r => hz ⟨q, r⟩)]; rfl
  · rw [decide_eq_false q]; rfl
theorem f130_1 (hI : pI M) (ha : a = -1 ∨ (0 ≤ a ∧ a < M 1 4)) (hb : uS M b) (hc : c = -1 ∨ (0 ≤ c ∧ c < M 1 4)) (hz : ¬ (a = -1 ∧ c = -1)) : f_130 M a b c = 1 := by
  have h8 := hI.2.1
  have key : (cond (yrel 0 (f_123 M b) 0) 0 (cond (yrel 0 a (-1)) (cond (yrel 0 c (-1)) 1 (cond (yrel 0 (f_119 M c) 0) 0 1)) (cond (yrel 0 (f_119 M a) 0) 0 (cond (yrel 0 c (-1)) 1 (cond (yrel 0 (f_119 M c) 0) 0 1))))) = (1 : Int) := by
    have kc : (cond (yrel 0 c (-1)) 1 (cond (yrel 0 (f_119 M c) 0) 0 1)) = (1 : Int) := by
      rw [rel0 ⟨by omega, by omega⟩ ⟨by decide, by decide⟩]
      by_cases q2 : c = -1
      · rw [cond_dt q2]
      · rw [cond_df q2, f119_1 hI (hc.resolve_left q2)]; rfl
    rw [f123_1 hI hb, show yrel 0 1 0 = false from rfl, cond_false, rel0 ⟨by omega, by omega⟩ ⟨by decide, by decide⟩, kc]
    by_cases q : a = -1
    · rw [cond_dt q]
    · rw [cond_df q, f119_1 hI (ha.resolve_left q)]; rfl
  unfold f_130
  rw [key, rel1 ⟨by omega, by omega⟩ ⟨by decide, by decide⟩, rel1 ⟨by omega, by omega⟩ ⟨by decide, by decide⟩]
  by_cases q : a = -1
  · rw [decide_eq_true q, decide_eq_false (fun r => hz ⟨q, r⟩)]; rfl
  · rw [decide_eq_false q]; rfl
theorem v125_11 (hI : pI M) (ha : a = -1 ∨ uS M a) (hb : uS M b) (hc : c = -1 ∨ uC M c) (hn : a ≠ b) (hz : ¬ (a = -1 ∧ c = -1)) : f_125 M 11 a b c = 1 := by
  unfold f_125
  rw [show yrel 0 11 0 = false from rfl, cond_false, show yrel 0 11 (0 + 1) = false from rfl, cond_false, show yrel 0 11 (0 + 1 + 1) = false from rfl, cond_false, show yrel 0 11 (0 + 1 + 1 + 1) = false from rfl, cond_false, show yrel 0 11 (0 + 1 + 1 + 1 + 1) = false from rfl, cond_false, show yrel 0 11 (0 + 1 + 1 + 1 + 1 + 1) = false from rfl, cond_false, show yrel 0 11 (0 + 1 + 1 + 1 + 1 + 1 + 1) = false from rfl, cond_false, show yrel 0 11 (0 + 1 + 1 + 1 + 1 + 1 + 1 + 1) = false from rfl, cond_false, show yrel 0 11 (0 + 1 + 1 + 1 + 1 + 1 + 1 + 1 + 1) = false from rfl, cond_false, show yrel 0 11 (0 + 1 + 1 + 1 + 1 + 1 + 1 + 1 + 1 + 1) = false from rfl, cond_false, show yrel 0 11 (0 + 1 + 1 + 1 + 1 + 1 + 1 + 1 + 1 + 1 + 1) = false from rfl, cond_false, show yrel 0 11 (0 + 1 + 1 + 1 + 1 + 1 + 1 + 1 + 1 + 1 + 1 + 1) = true from rfl, cond_true]
  exact f129_1 hI ha hb hc hn hz
theorem v125_12 (hI : pI M) (ha : 0 ≤ a ∧ a < M 1 0) (hb : uS M b) (hc : c = -1 ∨ uC M c) : f_125 M 12 a b c = 1 := by
  unfold f_125
  rw [show yrel 0 12 0 = false from rfl, cond_false, show yrel 0 12 (0 + 1) = false from rfl, cond_false, show yrel 0 12 (0 + 1 + 1) = false from rfl, cond_false, show yrel 0 12 (0 + 1 + 1 + 1) = false from rfl, cond_false, show yrel 0 12 (0 + 1 + 1 + 1 + 1) = false from rfl, cond_false, show yrel 0 12 (0 + 1 + 1 + 1 + 1 + 1) = false from rfl, cond_false, show yrel 0 12 (0 + 1 + 1 + 1 + 1 + 1 + 1) = false from rfl, cond_false, show yrel 0 12 (0 + 1 + 1 + 1 + 1 + 1 + 1 + 1) = false from rfl, cond_false, show yrel 0 12 (0 + 1 + 1 + 1 + 1 + 1 + 1 + 1 + 1) = false from rfl, cond_false, show yrel 0 12 (0 + 1 + 1 + 1 + 1 + 1 + 1 + 1 + 1 + 1) = false from rfl, cond_false, show yrel 0 12 (0 + 1 + 1 + 1 + 1 + 1 + 1 + 1 + 1 + 1 + 1) = false from rfl, cond_false, show yrel 0 12 (0 + 1 + 1 + 1 + 1 + 1 + 1 + 1 + 1 + 1 + 1 + 1) = false from rfl, cond_false, show yrel 0 12 (0 + 1 + 1 + 1 + 1 + 1 + 1 + 1 + 1 + 1 + 1 + 1 + 1) = true from rfl, cond_true]
  have hc9 : -1 ≤ c ∧ c < 90 := by
    rcases hc with q | q
    · omega
    · have := uC_sm hI q; omega
  rw [f117_1 hI ha, show yrel 0 1 0 = false from rfl, cond_false, f123_1 hI hb, show yrel 0 1 0 = false from rfl, cond_false, rel0 ⟨by omega, by omega⟩ ⟨by decide, by decide⟩]
  by_cases q2 : c = -1
  · rw [cond_dt q2]
  · rw [cond_df q2, f122_1 hI (hc.resolve_left q2)]; rfl
theorem v125_13 (hI : pI M) (ha : a = -1 ∨ (0 ≤ a ∧ a < M 1 4)) (hb : uS M b) (hc : c = -1 ∨ (0 ≤ c ∧ c < M 1 4)) (hz : ¬ (a = -1 ∧ c = -1)) : f_125 M 13 a b c = 1 := by
  unfold f_125
  rw [show yrel 0 13 0 = false from rfl, cond_false, show yrel 0 13 (0 + 1) = false from rfl, cond_false, show yrel 0 13 (0 + 1 + 1) = false from rfl, cond_false, show yrel 0 13 (0 + 1 + 1 + 1) = false from rfl, cond_false, show yrel 0 13 (0 + 1 + 1 + 1 + 1) = false from rfl, cond_false, show yrel 0 13 (0 + 1 + 1 + 1 + 1 + 1) = false from rfl, cond_false, show yrel 0 13 (0 + 1 + 1 + 1 + 1 + 1 + 1) = false from rfl, cond_false, show yrel 0 13 (0 + 1 + 1 + 1 + 1 + 1 + 1 + 1) = false from rfl, cond_false, show yrel 0 13 (0 + 1 + 1 + 1 + 1 + 1 + 1 + 1 + 1) = false from rfl, cond_false, show yrel 0 13 (0 + 1 + 1 + 1 + 1 + 1 + 1 + 1 + 1 + 1) = false from rfl, cond_false, show yrel 0 13 (0 + 1 + 1 + 1 + 1 + 1 + 1 + 1 + 1 + 1 + 1) = false from rfl, cond_false, show yrel 0 13 (0 + 1 + 1 + 1 + 1 + 1 + 1 + 1 + 1 + 1 + 1 + 1) = false from rfl, cond_false, show yrel 0 13 (0 + 1 + 1 + 1 + 1 + 1 + 1 + 1 + 1 + 1 + 1 + 1 + 1) = false from rfl, cond_false, show yrel 0 13 (0 + 1 + 1 + 1 + 1 + 1 + 1 + 1 + 1 + 1 + 1 + 1 + 1 + 1) = true from rfl, cond_true]
  exact f130_1 hI ha hb hc hz
theorem v125_16 (hI : pI M) (ha : 0 ≤ a ∧ a < 4) (hb : b = 0) (hc : c = 0) : f_125 M 16 a b c = 1 := by
  unfold f_125
  rw [show yrel 0 16 0 = false from rfl, cond_false, show yrel 0 16 (0 + 1) = false from rfl, cond_false, show yrel 0 16 (0 + 1 + 1) = false from rfl, cond_false, show yrel 0 16 (0 + 1 + 1 + 1) = false from rfl, cond_false, show yrel 0 16 (0 + 1 + 1 + 1 + 1) = false from rfl, cond_false, show yrel 0 16 (0 + 1 + 1 + 1 + 1 + 1) = false from rfl, cond_false, show yrel 0 16 (0 + 1 + 1 + 1 + 1 + 1 + 1) = false from rfl, cond_false, show yrel 0 16 (0 + 1 + 1 + 1 + 1 + 1 + 1 + 1) = false from rfl, cond_false, show yrel 0 16 (0 + 1 + 1 + 1 + 1 + 1 + 1 + 1 + 1) = false from rfl, cond_false, show yrel 0 16 (0 + 1 + 1 + 1 + 1 + 1 + 1 + 1 + 1 + 1) = false from rfl, cond_false, show yrel 0 16 (0 + 1 + 1 + 1 + 1 + 1 + 1 + 1 + 1 + 1 + 1) = false from rfl, cond_false, show yrel 0 16 (0 + 1 + 1 + 1 + 1 + 1 + 1 + 1 + 1 + 1 + 1 + 1) = false from rfl, cond_false, show yrel 0 16 (0 + 1 + 1 + 1 + 1 + 1 + 1 + 1 + 1 + 1 + 1 + 1 + 1) = false from rfl, cond_false, show yrel 0 16 (0 + 1 + 1 + 1 + 1 + 1 + 1 + 1 + 1 + 1 + 1 + 1 + 1 + 1) = false from rfl, cond_false, show yrel 0 16 (0 + 1 + 1 + 1 + 1 + 1 + 1 + 1 + 1 + 1 + 1 + 1 + 1 + 1 + 1) = false from rfl, cond_false, show yrel 0 16 (0 + 1 + 1 + 1 + 1 + 1 + 1 + 1 + 1 + 1 + 1 + 1 + 1 + 1 + 1 + 1) = false from rfl, cond_false, show yrel 0 16 (0 + 1 + 1 + 1 + 1 + 1 + 1 + 1 + 1 + 1 + 1 + 1 + 1 + 1 + 1 + 1 + 1) = true from rfl, cond_true]
  rw [rel2 ⟨by omega, by omega⟩ ⟨by decide, by decide⟩, cond_df (by omega), rel3 ⟨by omega, by omega⟩ ⟨by decide, by decide⟩, cond_df (by omega), hb, show yrel 1 0 0 = false from rfl, cond_false, hc, show yrel 1 0 0 = false from rfl, cond_false]
theorem v125_17 (hI : pI M) (ha : 0 ≤ a ∧ a < 4) (hb : b = 0) (hc : c = 0) : f_125 M 17 a b c = 1 := by
  unfold f_125
  rw [show yrel 0 17 0 = false from rfl, cond_false, show yrel 0 17 (0 + 1) = false from rfl, cond_false, show yrel 0 17 (0 + 1 + 1) = false from rfl, cond_false, show yrel 0 17 (0 + 1 + 1 + 1) = false from rfl, cond_false, show yrel 0 17 (0 + 1 + 1 + 1 + 1) = false from rfl, cond_false, show yrel 0 17 (0 + 1 + 1 + 1 + 1 + 1) = false from rfl, cond_false, show yrel 0 17 (0 + 1 + 1 + 1 + 1 + 1 + 1) = false from rfl, cond_false, show yrel 0 17 (0 + 1 + 1 + 1 + 1 + 1 + 1 + 1) = false from rfl, cond_false, show yrel 0 17 (0 + 1 + 1 + 1 + 1 + 1 + 1 + 1 + 1) = false from rfl, cond_false, show yrel 0 17 (0 + 1 + 1 + 1 + 1 + 1 + 1 + 1 + 1 + 1) = false from rfl, cond_false, show yrel 0 17 (0 + 1 + 1 + 1 + 1 + 1 + 1 + 1 + 1 + 1 + 1) = false from rfl, cond_false, show yrel 0 17 (0 + 1 + 1 + 1 + 1 + 1 + 1 + 1 + 1 + 1 + 1 + 1) = false from rfl, cond_false, show yrel 0 17 (0 + 1 + 1 + 1 + 1 + 1 + 1 + 1 + 1 + 1 + 1 + 1 + 1) = false from rfl, cond_false, show yrel 0 17 (0 + 1 + 1 + 1 + 1 + 1 + 1 + 1 + 1 + 1 + 1 + 1 + 1 + 1) = false from rfl, cond_false, show yrel 0 17 (0 + 1 + 1 + 1 + 1 + 1 + 1 + 1 + 1 + 1 + 1 + 1 + 1 + 1 + 1) = false from rfl, cond_false, show yrel 0 17 (0 + 1 + 1 + 1 + 1 + 1 + 1 + 1 + 1 + 1 + 1 + 1 + 1 + 1 + 1 + 1) = false from rfl, cond_false, show yrel 0 17 (0 + 1 + 1 + 1 + 1 + 1 + 1 + 1 + 1 + 1 + 1 + 1 + 1 + 1 + 1 + 1 + 1) = false from rfl, cond_false, show yrel 0 17 (0 + 1 + 1 + 1 + 1 + 1 + 1 + 1 + 1 + 1 + 1 + 1 + 1 + 1 + 1 + 1 + 1 + 1) = true from rfl, cond_true]
  rw [rel2 ⟨by omega, by omega⟩ ⟨by decide, by decide⟩, cond_df (by omega), rel3 ⟨by omega, by omega⟩ ⟨by decide, by decide⟩, cond_df (by omega), hb, show yrel 1 0 0 = false from rfl, cond_false, hc, show yrel 1 0 0 = false from rfl, cond_false]
theorem v125_18 (hI : pI M) (ha : 0 ≤ a ∧ a < 4) (hb : b = 0) (hc : c = 0) : f_125 M 18 a b c = 1 := by
  unfold f_125
  rw [show yrel 0 18 0 = false from rfl, cond_false, show yrel 0 18 (0 + 1) = false from rfl, cond_false, show yrel 0 18 (0 + 1 + 1) = false from rfl, cond_false, show yrel 0 18 (0 + 1 + 1 + 1) = false from rfl, cond_false, show yrel 0 18 (0 + 1 + 1 + 1 + 1) = false from rfl, cond_false, show yrel 0 18 (0 + 1 + 1 + 1 + 1 + 1) = false from rfl, cond_false, show yrel 0 18 (0 + 1 + 1 + 1 + 1 + 1 + 1) = false from rfl, cond_false, show yrel 0 18 (0 + 1 + 1 + 1 + 1 + 1 + 1 + 1) = false from rfl, cond_false, show yrel 0 18 (0 + 1 + 1 + 1 + 1 + 1 + 1 + 1 + 1) = false from rfl, cond_false, show yrel 0 18 (0 + 1 + 1 + 1 + 1 + 1 + 1 + 1 + 1 + 1) = false from rfl, cond_false, show yrel 0 18 (0 + 1 + 1 + 1 + 1 + 1 + 1 + 1 + 1 + 1 + 1) = false from rfl, cond_false, show yrel 0 18 (0 + 1 + 1 + 1 + 1 + 1 + 1 + 1 + 1 + 1 + 1 + 1) = false from rfl, cond_false, show yrel 0 18 (0 + 1 + 1 + 1 + 1 + 1 + 1 + 1 + 1 + 1 + 1 + 1 + 1) = false from rfl, cond_false, show yrel 0 18 (0 + 1 + 1 + 1 + 1 + 1 + 1 + 1 + 1 + 1 + 1 + 1 + 1 + 1) = false from rfl, cond_false, show yrel 0 18 (0 + 1 + 1 + 1 + 1 + 1 + 1 + 1 + 1 + 1 + 1 + 1 + 1 + 1 + 1) = false from rfl, cond_false, show yrel 0 18 (0 + 1 + 1 + 1 + 1 + 1 + 1 + 1 + 1 + 1 + 1 + 1 + 1 + 1 + 1 + 1) = false from rfl, cond_false, show yrel 0 18 (0 + 1 + 1 + 1 + 1 + 1 + 1 + 1 + 1 + 1 + 1 + 1 + 1 + 1 + 1 + 1 + 1) = false from rfl, cond_false, show yrel 0 18 (0 + 1 + 1 + 1 + 1 + 1 + 1 + 1 + 1 + 1 + 1 + 1 + 1 + 1 + 1 + 1 + 1 + 1) = false from rfl, cond_false, show yrel 0 18 (0 + 1 + 1 + 1 + 1 + 1 + 1 + 1 + 1 + 1 + 1 + 1 + 1 + 1 + 1 + 1 + 1 + 1 + 1) = true from rfl, cond_true]
  rw [rel2 ⟨by omega, by omega⟩ ⟨by decide, by decide⟩, cond_df (by omega), rel3 ⟨by omega, by omega⟩ ⟨by decide, by decide⟩, cond_df (by omega), hb, show yrel 1 0 0 = false from rfl, cond_false, hc, show yrel 1 0 0 = false from rfl, cond_false]
theorem f125_1 (hI : pI M) (h : uN M s a b c) : f_125 M s a b c = 1 := by
  rcases h with ⟨rfl | rfl | rfl, h1, h2, h3⟩ | ⟨rfl | rfl, h1, h2, h3⟩ | ⟨rfl, h1, h2, h3, h4⟩ | ⟨rfl, h1, h2, h3, h4⟩ | ⟨rfl, h1, h2, h3⟩ | ⟨rfl | rfl, h1, h2, h3⟩ | ⟨rfl, h1, h2, h3⟩ | ⟨rfl | rfl, h1, h2, h3⟩ | ⟨rfl, h1, h2, h3, h4, h5⟩ | ⟨rfl, h1, h2, h3⟩ | ⟨rfl, h1, h2, h3, h4⟩ | ⟨rfl | rfl | rfl, h1, h2, h3⟩
  · exact v125_0 hI h1 h2 h3
  · exact v125_1 hI h1 h2 h3
  · exact v125_2 hI h1 h2 h3
  · exact v125_3 hI h1 h2 h3
  · exact v125_8 hI h1 h2 h3
  · exact v125_4 hI h1 h2 h3 h4
  · exact v125_5 hI h1 h2 h3 h4
  · exact v125_6 hI h1 h2 h3
  · exact v125_7 hI h1 h2 h3
  · exact v125_14 hI h1 h2 h3
  · exact v125_9 hI h1 h2 h3
  · exact v125_10 hI h1 h2 h3
  · exact v125_15 hI h1 h2 h3
  · exact v125_11 hI h1 h2 h3 h4 h5
  · exact v125_12 hI h1 h2 h3
  · exact v125_13 hI h1 h2 h3 h4
  · exact v125_16 hI h1 h2 h3
  · exact v125_17 hI h1 h2 h3
  · exact v125_18 hI h1 h2 h3
end PadA
