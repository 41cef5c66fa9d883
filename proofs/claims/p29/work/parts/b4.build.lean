/-! a statement of any levels, by the law -/
section HrN
variable {sc : List Int32} {n q dd e l : Nat} {H : Nat → zO} {M : yM} {x lv hc hl : Int}
theorem P_153 (hd : 92 ≤ dd) (hs : sc.length ≤ 1048576) (hS : sI H n q M e) (hx : 0 ≤ x ∧ x ≤ 100000) (hlv : 0 ≤ lv ∧ lv ≤ 1000) (hcont : ∀ (L : zL) (y kd w : Int), bL L x lv hc hl y kd → 0 ≤ kd ∧ kd < M 1 0 → 0 ≤ w ∧ w < 19 ∧ (lv = 0 → w < 9) → hG sc zg_c153 zg_w153 dd 34 L [.int (yi w)] n q H (bQ M e)) : hP sc (dd + 1) 153 [.ref 0, .ref 416, .retAddr 0, .int (yi x), .int (yi lv), .int (yi hc), .int (yi hl)] n q H (bQ M e) := by
  have h13 := hS.2.1.2.2.1
  have h8 := hS.2.1.2.1
  have h90 := hS.2.1.1
  refine h_meth (C := zg_c153) (W := zg_w153) (ml := 16) rfl rfl (Nat.le_of_ble_eq_true rfl) ?_
  refine h_ld (t := 2) rfl (Or.inr (Or.inl ⟨rfl, Or.inl rfl⟩)) rfl rfl ?_
  refine h_ld (t := 0) rfl (Or.inl ⟨rfl, Or.inl rfl⟩) rfl rfl ?_
  refine h_ic (b := 16) rfl (by decide) (by decide) ?_
  refine h_rem rfl ⟨by omega, by omega⟩ ⟨by omega, by omega⟩ ?_
  refine h_154 rfl (Nat.le_of_ble_eq_true rfl) (by omega) hs ⟨by omega, by omega⟩ fun y0 => ?_
  refine h_ic (b := 5) rfl (by decide) (by decide) ?_
  refine h_ld (t := 0) rfl (Or.inl ⟨rfl, Or.inl rfl⟩) rfl rfl ?_
  refine h_bin rfl (by decide) fun d1 hd1 => ?_
  refine h_add rfl ?_
  refine h_st (t := 0) rfl (Or.inl ⟨rfl, Or.inr rfl⟩) rfl ?_
  generalize y0 + d1 = y
  have c24 : ∀ (L : zL) (w : Int) (m0 : L 0 = some (.ref 0)) (m1 : L 1 = some (.ref 416)) (m2 : L 2 = some (.retAddr 0)) (m3 : L 3 = some (.int (yi x))) (m4 : L 4 = some (.int (yi lv))) (m5 : L 5 = some (.int (yi hc))) (m6 : L 6 = some (.int (yi hl))) (m7 : L 7 = some (.int (yi y))), 0 ≤ w ∧ w < 19 ∧ (lv = 0 → w < 9) → hG sc zg_c153 zg_w153 dd 24 L [.int (yi w)] n q H (bQ M e) := fun L w m0 m1 m2 m3 m4 m5 m6 m7 hw => by
    refine h_st (t := 0) rfl (Or.inl ⟨rfl, Or.inr rfl⟩) rfl ?_
    refine h_ld (t := 0) rfl (Or.inl ⟨rfl, Or.inr rfl⟩) (l_ki (by decide) m7) rfl ?_
    refine h_ic (b := 4) rfl (by decide) (by decide) ?_
    refine h_bin rfl (by decide) fun d2 hd2 => ?_
    refine h_ld (t := 2) rfl (Or.inr (Or.inl ⟨rfl, Or.inl rfl⟩)) (l_kr (by decide) m1) rfl ?_
    refine h_len hS rfl rfl (Or.inr (Or.inl ⟨rfl, rfl⟩)) ?_
    refine h_152 rfl (Nat.le_of_ble_eq_true rfl) (by omega) ⟨by omega, by omega⟩ fun r21 a21 b21 => ?_
    refine h_st (t := 0) rfl (Or.inl ⟨rfl, Or.inr rfl⟩) rfl ?_
    refine h_ld (t := 0) rfl (Or.inl ⟨rfl, Or.inr rfl⟩) (l_ki (by decide) l_s) rfl ?_
    exact hcont _ y r21 w ⟨(l_kr (by decide) (l_kr (by decide) m0)), (l_kr (by decide) (l_kr (by decide) m1)), (l_ka (by decide) (l_ka (by decide) m2)), (l_ki (by decide) (l_ki (by decide) m3)), (l_ki (by decide) (l_ki (by decide) m4)), (l_ki (by decide) (l_ki (by decide) m5)), (l_ki (by decide) (l_ki (by decide) m6)), (l_ki (by decide) (l_ki (by decide) m7)), l_s⟩ ⟨by omega, by omega⟩ hw
  refine h_ld (t := 0) rfl (Or.inl ⟨rfl, Or.inr rfl⟩) rfl rfl ?_
  refine h_b0 rfl ⟨by omega, by omega⟩ (fun _ => ?_) fun g1 => ?_
  · skip
    refine h_ld (t := 0) rfl (Or.inl ⟨rfl, Or.inr rfl⟩) rfl rfl ?_
    refine h_ic (b := 9) rfl (by decide) (by decide) ?_
    refine h_152 rfl (Nat.le_of_ble_eq_true rfl) (by omega) ⟨by omega, by omega⟩ fun r22 a22 b22 => ?_
    refine h_go rfl ?_
    exact c24 _ r22 rfl rfl rfl rfl rfl rfl rfl rfl ⟨by omega, by omega, fun _ => by omega⟩
  refine h_ld (t := 2) rfl (Or.inr (Or.inl ⟨rfl, Or.inl rfl⟩)) rfl rfl ?_
  refine h_len hS rfl rfl (Or.inl ⟨rfl, rfl⟩) ?_
  refine h_ic (b := 70) rfl (by decide) (by decide) ?_
  refine h_c5 rfl ⟨⟨by omega, by omega⟩, ⟨by omega, by omega⟩⟩ (fun _ => ?_) fun _ => ?_
  · skip
    refine h_ld (t := 0) rfl (Or.inl ⟨rfl, Or.inr rfl⟩) rfl rfl ?_
    refine h_ic (b := 19) rfl (by decide) (by decide) ?_
    refine h_152 rfl (Nat.le_of_ble_eq_true rfl) (by omega) ⟨by omega, by omega⟩ fun r23 a23 b23 => ?_
    exact c24 _ r23 rfl rfl rfl rfl rfl rfl rfl rfl ⟨by omega, by omega, fun h => absurd h g1⟩
  · skip
    refine h_ld (t := 0) rfl (Or.inl ⟨rfl, Or.inr rfl⟩) rfl rfl ?_
    refine h_ic (b := 9) rfl (by decide) (by decide) ?_
    refine h_152 rfl (Nat.le_of_ble_eq_true rfl) (by omega) ⟨by omega, by omega⟩ fun r24 a24 b24 => ?_
    refine h_go rfl ?_
    exact c24 _ r24 rfl rfl rfl rfl rfl rfl rfl rfl ⟨by omega, by omega, fun _ => by omega⟩
theorem S_153 {L : zL} {w y kd : Int} (hd : 92 ≤ dd) (hS : sI H n q M e) (hL : bL L x lv hc hl y kd) (hk : 0 ≤ kd ∧ kd < M 1 0) (hw : 0 ≤ w ∧ w < 9) (hh : (hc = 0 ∨ hc = 1) ∧ (hl = 0 ∨ hl = 1)) : hG sc zg_c153 zg_w153 dd 34 L [.int (yi w)] n q H (bQ M e) := by
  have h7 : 7 ≤ dd := by omega
  have hw' : w = 0 ∨ w = 1 ∨ w = 2 ∨ w = 3 ∨ w = 4 ∨ w = 5 ∨ w = 6 ∨ w = 7 ∨ w = 8 := by omega
  rcases hw' with rfl | rfl | rfl | rfl | rfl | rfl | rfl | rfl | rfl
  · exact h_lift (B_35 h7 hS hL hk) fun _ _ _ _ h => g_sw (t := 35) rfl rfl rfl h
  · exact h_lift (B_50 h7 hS hL hk) fun _ _ _ _ h => g_sw (t := 50) rfl rfl rfl h
  · exact h_lift (B_65 h7 hS hL hk) fun _ _ _ _ h => g_sw (t := 65) rfl rfl rfl h
  · exact h_lift (B_76 h7 hS hL hk) fun _ _ _ _ h => g_sw (t := 76) rfl rfl rfl h
  · exact h_lift (B_91 h7 hS hL hk) fun _ _ _ _ h => g_sw (t := 91) rfl rfl rfl h
  · exact h_lift (B_102 h7 hS hL hk hh.1) fun _ _ _ _ h => g_sw (t := 102) rfl rfl rfl h
  · exact h_lift (B_149 h7 hS hL hk hh.1) fun _ _ _ _ h => g_sw (t := 149) rfl rfl rfl h
  · exact h_lift (B_180 h7 hS hL hk hh.2) fun _ _ _ _ h => g_sw (t := 180) rfl rfl rfl h
  · exact h_lift (B_201 h7 hS hL hk) fun _ _ _ _ h => g_sw (t := 201) rfl rfl rfl h
theorem T_153 {L : zL} {w y kd : Int} (hd : 92 ≤ dd) (hs : sc.length ≤ 1048576) (hB : bB sc dd l) (hB' : bB sc (dd - 1) l) (hd' : 93 ≤ dd) (hS : sI H n q M e) (hL : bL L x ((l : Int) + 1) hc hl y kd) (hx : 0 ≤ x ∧ x + 20 * ((l : Int) + 1) ≤ 100000) (hw : 9 ≤ w ∧ w < 19) (hh : (hc = 0 ∨ hc = 1) ∧ (hl = 0 ∨ hl = 1)) : hG sc zg_c153 zg_w153 dd 34 L [.int (yi w)] n q H (bQ M e) := by
  have b219 := B_219 hd hB hS hL hx hh
  have t316 : hG sc zg_c153 zg_w153 dd 316 L [] n q H (bQ M e) := by
    obtain ⟨l0, l1, l2, l3, l4, l5, l6, l7, l9⟩ := hL
    refine h_ld (t := 2) rfl (Or.inr (Or.inl ⟨rfl, Or.inl rfl⟩)) l0 rfl ?_
    refine h_ld (t := 2) rfl (Or.inr (Or.inl ⟨rfl, Or.inl rfl⟩)) l1 rfl ?_
    refine h_ld (t := 2) rfl (Or.inr (Or.inl ⟨rfl, Or.inl rfl⟩)) l2 rfl ?_
    refine h_ld (t := 0) rfl (Or.inl ⟨rfl, Or.inl rfl⟩) l3 rfl ?_
    refine h_ld (t := 0) rfl (Or.inl ⟨rfl, Or.inr rfl⟩) l4 rfl ?_
    refine h_ld (t := 0) rfl (Or.inl ⟨rfl, Or.inr rfl⟩) l5 rfl ?_
    refine h_stat (as := [.ref 0, .ref 416, .retAddr 0, .int (yi x), .int (yi ((l : Int) + 1)), .int (yi hc)]) (S := []) rfl (by decide) rfl (Nat.le_of_ble_eq_true rfl) (hP_dd (dd := dd - 1 + 1) (by omega) (L_157 (dd := dd - 1) (by omega) hB' hS hx hh.1)) ?_
    rintro u n1 q1 H1 ⟨r, M1, rfl, hq⟩
    exact h_iret rfl rfl ⟨r, M1, rfl, hq⟩
  have t375 : hG sc zg_c153 zg_w153 dd 375 L [] n q H (bQ M e) := by
    obtain ⟨l0, l1, l2, l3, l4, l5, l6, l7, l9⟩ := hL
    refine h_ld (t := 2) rfl (Or.inr (Or.inl ⟨rfl, Or.inl rfl⟩)) l0 rfl ?_
    refine h_ld (t := 2) rfl (Or.inr (Or.inl ⟨rfl, Or.inl rfl⟩)) l1 rfl ?_
    refine h_ld (t := 2) rfl (Or.inr (Or.inl ⟨rfl, Or.inl rfl⟩)) l2 rfl ?_
    refine h_ld (t := 0) rfl (Or.inl ⟨rfl, Or.inl rfl⟩) l3 rfl ?_
    refine h_ld (t := 0) rfl (Or.inl ⟨rfl, Or.inr rfl⟩) l4 rfl ?_
    refine h_ld (t := 0) rfl (Or.inl ⟨rfl, Or.inr rfl⟩) l5 rfl ?_
    refine h_ld (t := 0) rfl (Or.inl ⟨rfl, Or.inr rfl⟩) l6 rfl ?_
    refine h_stat (as := [.ref 0, .ref 416, .retAddr 0, .int (yi x), .int (yi ((l : Int) + 1)), .int (yi hc), .int (yi hl)]) (S := []) rfl (by decide) rfl (Nat.le_of_ble_eq_true rfl) (hP_dd (dd := dd - 1 + 1) (by omega) (L_160 (dd := dd - 1) (by omega) hs hB' hS hx hh)) ?_
    rintro u n1 q1 H1 ⟨r, M1, rfl, hq⟩
    exact h_iret rfl rfl ⟨r, M1, rfl, hq⟩
  have hw' : w = 9 ∨ w = 10 ∨ w = 11 ∨ w = 12 ∨ w = 13 ∨ w = 14 ∨ w = 15 ∨ w = 16 ∨ w = 17 ∨ w = 18 := by omega
  rcases hw' with rfl | rfl | rfl | rfl | rfl | rfl | rfl | rfl | rfl | rfl
  · exact h_lift b219 fun _ _ _ _ h => g_sw (t := 219) rfl rfl rfl h
  · exact h_lift b219 fun _ _ _ _ h => g_sw (t := 219) rfl rfl rfl h
  · exact h_lift b219 fun _ _ _ _ h => g_sw (t := 219) rfl rfl rfl h
  · exact h_lift (B_265 hd hB hS hL hx hh) fun _ _ _ _ h => g_sw (t := 265) rfl rfl rfl h
  · exact h_lift t316 fun _ _ _ _ h => g_sw (t := 316) rfl rfl rfl h
  · exact h_lift (B_324 hd hB hS hL hx hh) fun _ _ _ _ h => g_sw (t := 324) rfl rfl rfl h
  · exact h_lift t375 fun _ _ _ _ h => g_sw (t := 375) rfl rfl rfl h
  · exact h_lift t375 fun _ _ _ _ h => g_sw (t := 375) rfl rfl rfl h
  · exact h_lift t375 fun _ _ _ _ h => g_sw (t := 375) rfl rfl rfl h
  · exact h_lift t375 fun _ _ _ _ h => g_sw (t := 375) rfl rfl rfl h
theorem bB_dd {dd' : Nat} (h : bB sc dd l) (hd : dd ≤ dd') : bB sc dd' l := fun h1 h2 h3 h4 h5 => hP_dd hd (h h1 h2 h3 h4 h5)
theorem L_153 (hs : sc.length ≤ 1048576) : ∀ l : Nat, l ≤ 1000 → bB sc (100 + 2 * l) l
  | 0, _ => fun hS hx hx2 h1 h2 => hP_dd (dd := 99 + 1) (by omega) (P_153 (dd := 99) (by omega) hs hS ⟨hx, by omega⟩ ⟨by decide, by decide⟩ fun L y kd w hL hk hw => S_153 (by omega) hS hL hk ⟨hw.1, hw.2.2 rfl⟩ ⟨h1, h2⟩)
  | l + 1, hl => fun hS hx hx2 h1 h2 => by
    have ih : bB sc (100 + 2 * l) l := fun hS => L_153 hs l (by omega) hS
    refine hP_dd (dd := 100 + 2 * l + 1 + 1) (by omega) (P_153 (dd := 100 + 2 * l + 1) (by omega) hs hS ⟨hx, by omega⟩ ⟨by omega, by omega⟩ fun L y kd w hL hk hw => ?_)
    by_cases h9 : w < 9
    · exact S_153 (by omega) hS hL hk ⟨hw.1, h9⟩ ⟨h1, h2⟩
    · exact T_153 (l := l) (by omega) hs (bB_dd ih (by omega)) (bB_dd ih (by omega)) (by omega) hS hL ⟨hx, by omega⟩ ⟨by omega, hw.2.1⟩ ⟨h1, h2⟩
end HrN
