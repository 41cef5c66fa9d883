/-! words by their lists -/
theorem xw_t1 (i : Nat) {w : Cond} (h : tables_1_1[i]? = some w) (hg : (goodWord w || xw_nest w) = true) : w ∈ xw_B := List.mem_filter.mpr ⟨List.mem_append_right _ (List.mem_append_left _ (List.mem_of_getElem? h)), hg⟩
theorem xw_t2 (i : Nat) {w : Cond} (h : tables_1_2[i]? = some w) (hg : (goodWord w || xw_nest w) = true) : w ∈ xw_B := List.mem_filter.mpr ⟨List.mem_append_right _ (List.mem_append_right _ (List.mem_append_left _ (List.mem_of_getElem? h))), hg⟩
theorem xw_t3 (i : Nat) {w : Cond} (h : tables_1_3[i]? = some w) (hg : (goodWord w || xw_nest w) = true) : w ∈ xw_B := List.mem_filter.mpr ⟨List.mem_append_right _ (List.mem_append_right _ (List.mem_append_right _ (List.mem_append_left _ (List.mem_of_getElem? h)))), hg⟩
theorem xw_t4 (i : Nat) {w : Cond} (h : tables_1_4[i]? = some w) (hg : (goodWord w || xw_nest w) = true) : w ∈ xw_B := List.mem_filter.mpr ⟨List.mem_append_right _ (List.mem_append_right _ (List.mem_append_right _ (List.mem_append_right _ (List.mem_append_left _ (List.mem_of_getElem? h))))), hg⟩
theorem xw_t5 (i : Nat) {w : Cond} (h : tables_1_5[i]? = some w) (hg : (goodWord w || xw_nest w) = true) : w ∈ xw_B := List.mem_filter.mpr ⟨List.mem_append_right _ (List.mem_append_right _ (List.mem_append_right _ (List.mem_append_right _ (List.mem_append_right _ (List.mem_append_left _ (List.mem_of_getElem? h)))))), hg⟩
theorem xw_t6 (i : Nat) {w : Cond} (h : tables_1_6[i]? = some w) (hg : (goodWord w || xw_nest w) = true) : w ∈ xw_B := List.mem_filter.mpr ⟨List.mem_append_right _ (List.mem_append_right _ (List.mem_append_right _ (List.mem_append_right _ (List.mem_append_right _ (List.mem_append_right _ (List.mem_append_left _ (List.mem_of_getElem? h))))))), hg⟩
theorem xw_t7 (i : Nat) {w : Cond} (h : tables_1_7[i]? = some w) (hg : (goodWord w || xw_nest w) = true) : w ∈ xw_B := List.mem_filter.mpr ⟨List.mem_append_right _ (List.mem_append_right _ (List.mem_append_right _ (List.mem_append_right _ (List.mem_append_right _ (List.mem_append_right _ (List.mem_append_right _ (List.mem_append_left _ (List.mem_of_getElem? h)))))))), hg⟩
theorem xw_t8 (i : Nat) {w : Cond} (h : tables_1_8[i]? = some w) (hg : (goodWord w || xw_nest w) = true) : w ∈ xw_B := List.mem_filter.mpr ⟨List.mem_append_right _ (List.mem_append_right _ (List.mem_append_right _ (List.mem_append_right _ (List.mem_append_right _ (List.mem_append_right _ (List.mem_append_right _ (List.mem_append_right _ (List.mem_append_left _ (List.mem_of_getElem? h))))))))), hg⟩
theorem xw_t9 (i : Nat) {w : Cond} (h : tables_1_9[i]? = some w) (hg : (goodWord w || xw_nest w) = true) : w ∈ xw_B := List.mem_filter.mpr ⟨List.mem_append_right _ (List.mem_append_right _ (List.mem_append_right _ (List.mem_append_right _ (List.mem_append_right _ (List.mem_append_right _ (List.mem_append_right _ (List.mem_append_right _ (List.mem_append_right _ (List.mem_append_left _ (List.mem_of_getElem? h)))))))))), hg⟩
theorem xw_t10 (i : Nat) {w : Cond} (h : tables_1_10[i]? = some w) (hg : (goodWord w || xw_nest w) = true) : w ∈ xw_B := List.mem_filter.mpr ⟨List.mem_append_right _ (List.mem_append_right _ (List.mem_append_right _ (List.mem_append_right _ (List.mem_append_right _ (List.mem_append_right _ (List.mem_append_right _ (List.mem_append_right _ (List.mem_append_right _ (List.mem_append_right _ (List.mem_append_left _ (List.mem_of_getElem? h))))))))))), hg⟩
theorem xw_t11 (i : Nat) {w : Cond} (h : tables_1_11[i]? = some w) (hg : (goodWord w || xw_nest w) = true) : w ∈ xw_B := List.mem_filter.mpr ⟨List.mem_append_right _ (List.mem_append_right _ (List.mem_append_right _ (List.mem_append_right _ (List.mem_append_right _ (List.mem_append_right _ (List.mem_append_right _ (List.mem_append_right _ (List.mem_append_right _ (List.mem_append_right _ (List.mem_append_right _ (List.mem_append_left _ (List.mem_of_getElem? h)))))))))))), hg⟩
theorem xw_t12 (i : Nat) {w : Cond} (h : tables_1_12[i]? = some w) (hg : (goodWord w || xw_nest w) = true) : w ∈ xw_B := List.mem_filter.mpr ⟨List.mem_append_right _ (List.mem_append_right _ (List.mem_append_right _ (List.mem_append_right _ (List.mem_append_right _ (List.mem_append_right _ (List.mem_append_right _ (List.mem_append_right _ (List.mem_append_right _ (List.mem_append_right _ (List.mem_append_right _ (List.mem_append_right _ (List.mem_of_getElem? h)))))))))))), hg⟩
theorem xw_sl (i : Nat) {w : Cond} (h : (k2_sels lw_privs)[i]? = some w) (hg : (goodWord w || xw_nest w) = true) : w ∈ xw_B := List.mem_filter.mpr ⟨List.mem_append_left _ (List.mem_of_getElem? h), hg⟩
theorem xs_elsT : xs_els := by
  refine ⟨xw_t12 79 (by decide +kernel) (by decide +kernel), ?_, ⟨_, rfl, rfl⟩, ⟨_, rfl, rfl⟩, ⟨_, rfl, rfl⟩⟩
  intro c2 h1 h2
  rcases (show c2 = 17 ∨ c2 = 18 ∨ c2 = 19 by omega) with rfl | rfl | rfl
  · exact ⟨_, rfl, xw_t12 61 (by decide +kernel) (by decide +kernel)⟩
  · exact ⟨_, rfl, xw_t12 72 (by decide +kernel) (by decide +kernel)⟩
  · exact ⟨_, rfl, xw_t12 62 (by decide +kernel) (by decide +kernel)⟩
/-- a thrown class can be cast to itself -/
theorem xg_cast : ∀ k, k < 3 → Cond.castable (xg_EX k) (xg_EX k) ∈ xw_B := by
  intro k hk
  rcases (show k = 0 ∨ k = 1 ∨ k = 2 by omega) with rfl | rfl | rfl
  · exact xw_t5 61 (by decide +kernel) (by decide +kernel)
  · exact xw_t5 158 (by decide +kernel) (by decide +kernel)
  · exact xw_t5 129 (by decide +kernel) (by decide +kernel)
