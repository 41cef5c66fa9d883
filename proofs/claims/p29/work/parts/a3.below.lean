/-! below, cell, operand, plus, with -/
section HrC
variable {sc : List Int32} {n q dd : Nat} {H : Nat → zO} {v : Int32} {m k x : Int}
theorem L_152 (hm : 1 ≤ m ∧ m ≤ 2147483647) : ∃ r : Int, 0 ≤ r ∧ r < m ∧ hP sc (dd + 1) 152 [.int v, .int (yi m)] n q H fun u n' q' H' => u = some (.int (yi r)) ∧ n' = n ∧ q' = q ∧ H' = H := by
  obtain ⟨t, ht, h0, h1⟩ := lw_and v
  refine ⟨t % m, Int.emod_nonneg _ (by omega), Int.emod_lt_of_pos _ (by omega), ?_⟩
  refine h_meth (C := zg_c152) (W := zg_w152) (ml := 2) rfl rfl (Nat.le_of_ble_eq_true rfl) ?_
  refine h_ld (t := 0) rfl (Or.inl ⟨rfl, Or.inl rfl⟩) rfl rfl ?_
  refine h_ic (b := 2147483647) rfl (by decide) (by decide) ?_
  refine h_lift ?_ fun _ _ _ _ h => r_bin rfl (by decide) h
  rw [ht]
  refine h_ld (t := 0) rfl (Or.inl ⟨rfl, Or.inl rfl⟩) rfl rfl ?_
  have hc : ¬ yi m = 0 := fun e => by
    have e2 : (yi m).toInt = m := yw_of (by omega) (by omega)
    rw [e] at e2
    have e3 : (0 : Int32).toInt = 0 := rfl
    omega
  refine h_lift ?_ fun _ _ _ _ h => r_div rfl (by decide) hc h
  rw [if_pos rfl, lw_rem ⟨h0, h1⟩ hm]
  exact h_iret rfl rfl ⟨rfl, rfl, rfl, rfl⟩
theorem L_154 (hk : 0 ≤ k ∧ k ≤ 1048576) (hs : sc.length ≤ 1048576) : ∃ r : Int, hP sc (dd + 1) 154 [.retAddr 0, .int (yi k)] n q H fun u n' q' H' => u = some (.int (yi r)) ∧ n' = n ∧ q' = q ∧ H' = H := by
  obtain ⟨j, rfl⟩ : ∃ j : Nat, k = (j : Int) := ⟨k.toNat, by omega⟩
  by_cases hj : j < sc.length
  · refine ⟨(sc[j]).toInt, ?_⟩
    refine h_meth (C := zg_c154) (W := zg_w154) (ml := 2) rfl rfl (Nat.le_of_ble_eq_true rfl) ?_
    refine h_ld (t := 0) rfl (Or.inl ⟨rfl, Or.inl rfl⟩) rfl rfl ?_
    refine h_ld (t := 2) rfl (Or.inr (Or.inl ⟨rfl, Or.inl rfl⟩)) rfl rfl ?_
    refine h_slen rfl ?_
    refine h_c3 rfl ⟨⟨by omega, by omega⟩, ⟨by omega, by omega⟩⟩ (fun h => absurd h (by omega)) fun _ => ?_
    refine h_ld (t := 2) rfl (Or.inr (Or.inl ⟨rfl, Or.inl rfl⟩)) rfl rfl ?_
    refine h_ld (t := 0) rfl (Or.inl ⟨rfl, Or.inl rfl⟩) rfl rfl ?_
    refine h_sald rfl (by omega) (List.getElem?_eq_getElem hj) ?_
    refine h_go rfl ?_
    exact h_iret rfl rfl ⟨by rw [yi_w], rfl, rfl, rfl⟩
  · refine ⟨(zbin 25 (yi 790386105) (yi ((j : Int) + 3))).toInt, ?_⟩
    refine h_meth (C := zg_c154) (W := zg_w154) (ml := 2) rfl rfl (Nat.le_of_ble_eq_true rfl) ?_
    refine h_ld (t := 0) rfl (Or.inl ⟨rfl, Or.inl rfl⟩) rfl rfl ?_
    refine h_ld (t := 2) rfl (Or.inr (Or.inl ⟨rfl, Or.inl rfl⟩)) rfl rfl ?_
    refine h_slen rfl ?_
    refine h_c3 rfl ⟨⟨by omega, by omega⟩, ⟨by omega, by omega⟩⟩ (fun _ => ?_) fun h => absurd h (by omega)
    refine h_ic (b := 790386105) rfl (by decide) (by decide) ?_
    refine h_ld (t := 0) rfl (Or.inl ⟨rfl, Or.inl rfl⟩) rfl rfl ?_
    refine h_ic (b := 3) rfl (by decide) (by decide) ?_
    refine h_add rfl ?_
    refine h_bin rfl (by decide) fun d hd => ?_
    exact h_iret rfl rfl ⟨by rw [← hd, yi_w], rfl, rfl, rfl⟩
/-- an operand -/
def oprd (r : Int) : Prop := (-3 ≤ r ∧ r ≤ 5) ∨ (100 ≤ r ∧ r ≤ 103)
theorem L_159 : ∃ r : Int, oprd r ∧ hP sc (dd + 2) 159 [.int (yi x)] n q H fun u n' q' H' => u = some (.int (yi r)) ∧ n' = n ∧ q' = q ∧ H' = H := by
  obtain ⟨r1, a1, a2, a3⟩ := L_152 (sc := sc) (dd := dd) (n := n) (q := q) (H := H) (v := yi x) (m := 3) (by decide)
  obtain ⟨r2, b1, b2, b3⟩ := L_152 (sc := sc) (dd := dd) (n := n) (q := q) (H := H) (v := yi (zbin 104 (yi x) (yi 2)).toInt) (m := 4) (by decide)
  obtain ⟨r3, c1, c2, c3⟩ := L_152 (sc := sc) (dd := dd) (n := n) (q := q) (H := H) (v := yi (zbin 104 (yi x) (yi 2)).toInt) (m := 9) (by decide)
  by_cases h1 : r1 = 0
  · refine ⟨100 + r2, Or.inr ⟨by omega, by omega⟩, ?_⟩
    refine h_meth (C := zg_c159) (W := zg_w159) (ml := 1) rfl rfl (Nat.le_of_ble_eq_true rfl) ?_
    refine h_ld (t := 0) rfl (Or.inl ⟨rfl, Or.inl rfl⟩) rfl rfl ?_
    refine h_ic (b := 3) rfl (by decide) (by decide) ?_
    refine h_stat (as := [.int (yi x), .int (yi 3)]) (S := []) rfl (by decide) rfl (Nat.le_of_ble_eq_true rfl) a3 ?_
    rintro u n1 q1 H1 ⟨rfl, rfl, rfl, rfl⟩
    refine h_b1 rfl ⟨by omega, by omega⟩ (fun h => absurd h1 h) fun _ => ?_
    refine h_ic (b := 100) rfl (by decide) (by decide) ?_
    refine h_ld (t := 0) rfl (Or.inl ⟨rfl, Or.inl rfl⟩) rfl rfl ?_
    refine h_ic (b := 2) rfl (by decide) (by decide) ?_
    refine h_bin rfl (by decide) fun d hd => ?_
    refine h_ic (b := 4) rfl (by decide) (by decide) ?_
    have e : d = d := rfl
    refine h_stat (as := [.int (yi d), .int (yi 4)]) (S := [.int (yi 100)]) rfl (by decide) rfl (Nat.le_of_ble_eq_true rfl) (by rw [hd, ← yi_w (x := zbin 104 (yi x) (yi 2))]; exact b3) ?_
    rintro u n1 q1 H1 ⟨rfl, rfl, rfl, rfl⟩
    refine h_add rfl ?_
    refine h_go rfl ?_
    exact h_iret rfl rfl ⟨rfl, rfl, rfl, rfl⟩
  · refine ⟨r3 - 3, Or.inl ⟨by omega, by omega⟩, ?_⟩
    refine h_meth (C := zg_c159) (W := zg_w159) (ml := 1) rfl rfl (Nat.le_of_ble_eq_true rfl) ?_
    refine h_ld (t := 0) rfl (Or.inl ⟨rfl, Or.inl rfl⟩) rfl rfl ?_
    refine h_ic (b := 3) rfl (by decide) (by decide) ?_
    refine h_stat (as := [.int (yi x), .int (yi 3)]) (S := []) rfl (by decide) rfl (Nat.le_of_ble_eq_true rfl) a3 ?_
    rintro u n1 q1 H1 ⟨rfl, rfl, rfl, rfl⟩
    refine h_b1 rfl ⟨by omega, by omega⟩ (fun _ => ?_) fun h => absurd h h1
    refine h_ld (t := 0) rfl (Or.inl ⟨rfl, Or.inl rfl⟩) rfl rfl ?_
    refine h_ic (b := 2) rfl (by decide) (by decide) ?_
    refine h_bin rfl (by decide) fun d hd => ?_
    refine h_ic (b := 9) rfl (by decide) (by decide) ?_
    refine h_stat (as := [.int (yi d), .int (yi 9)]) (S := []) rfl (by decide) rfl (Nat.le_of_ble_eq_true rfl) (by rw [hd, ← yi_w (x := zbin 104 (yi x) (yi 2))]; exact c3) ?_
    rintro u n1 q1 H1 ⟨rfl, rfl, rfl, rfl⟩
    refine h_ic (b := 3) rfl (by decide) (by decide) ?_
    refine h_sub rfl ?_
    exact h_iret rfl rfl ⟨rfl, rfl, rfl, rfl⟩
end HrC
