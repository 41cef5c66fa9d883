/-! checks of methods 96 to 111 -/
set_option maxRecDepth 100000 in
theorem xk_m96 : xg_okM 96 xg_m96 := xg_okOf (by decide +kernel) xs_SL (by decide +kernel) ⟨⟨rfl, rfl, rfl, by decide, by decide, xw_t5 50 (by decide +kernel) (by decide +kernel)⟩, trivial⟩
set_option maxRecDepth 100000 in
theorem xk_m97 : xg_okM 97 xg_m97 := xg_okOf (by decide +kernel) xs_SL (by decide +kernel) ⟨⟨rfl, rfl, rfl, by decide, by decide, xw_t5 49 (by decide +kernel) (by decide +kernel)⟩, trivial⟩
set_option maxRecDepth 100000 in
theorem xk_m98 : xg_okM 98 xg_m98 := xg_okOf (by decide +kernel) xs_SL (by decide +kernel) ⟨⟨rfl, rfl, rfl, by decide, by decide, xw_t5 49 (by decide +kernel) (by decide +kernel)⟩, ⟨⟨rfl, rfl, rfl, by decide, by decide, xw_t5 150 (by decide +kernel) (by decide +kernel)⟩, trivial⟩⟩
set_option maxRecDepth 100000 in
theorem xk_m99 : xg_okM 99 xg_m99 := xg_okOf (by decide +kernel) xs_SL (by decide +kernel) ⟨⟨rfl, rfl, rfl, by decide, by decide, xw_t5 49 (by decide +kernel) (by decide +kernel)⟩, trivial⟩
set_option maxRecDepth 100000 in
theorem xk_m100 : xg_okM 100 xg_m100 := xg_okOf (by decide +kernel) xs_SL (by decide +kernel) ⟨⟨rfl, rfl, rfl, by decide, by decide, xw_t5 150 (by decide +kernel) (by decide +kernel)⟩, ⟨⟨rfl, rfl, rfl, by decide, by decide, xw_t5 50 (by decide +kernel) (by decide +kernel)⟩, trivial⟩⟩
set_option maxRecDepth 100000 in
theorem xk_m101 : xg_okM 101 xg_m101 := xg_okOf (by decide +kernel) xs_SX19 (by decide +kernel) trivial
set_option maxRecDepth 100000 in
theorem xk_m102 : xg_okM 102 xg_m102 := xg_okOf (by decide +kernel) xs_SX19 (by decide +kernel) trivial
set_option maxRecDepth 100000 in
theorem xk_m103 : xg_okM 103 xg_m103 := xg_okOf (by decide +kernel) xs_SX19 (by decide +kernel) trivial
set_option maxRecDepth 100000 in
theorem xk_m104 : xg_okM 104 xg_m104 := xg_okOf (by decide +kernel) xs_SX19 (by decide +kernel) trivial
set_option maxRecDepth 100000 in
theorem xk_m105 : xg_okM 105 xg_m105 := xg_okOf (by decide +kernel) xs_SX19 (by decide +kernel) trivial
set_option maxRecDepth 100000 in
theorem xk_m106 : xg_okM 106 xg_m106 := xg_okOf (by decide +kernel) xs_SX19 (by decide +kernel) trivial
set_option maxRecDepth 100000 in
theorem xk_m107 : xg_okM 107 xg_m107 := xg_okOf (by decide +kernel) xs_SX19 (by decide +kernel) trivial
set_option maxRecDepth 100000 in
theorem xk_m108 : xg_okM 108 xg_m108 := xg_okOf (by decide +kernel) xs_SX19 (by decide +kernel) trivial
set_option maxRecDepth 100000 in
theorem xk_m109 : xg_okM 109 xg_m109 := xg_okOf (by decide +kernel) xs_SX19 (by decide +kernel) trivial
set_option maxRecDepth 100000 in
theorem xk_m110 : xg_okM 110 xg_m110 := xg_okOf (by decide +kernel) xs_SX19 (by decide +kernel) trivial
set_option maxRecDepth 100000 in
theorem xk_m111 : xg_okM 111 xg_m111 := xg_okOf (by decide +kernel) xs_SX19 (by decide +kernel) trivial
theorem xk_g6 (i : Nat) (t : xv_M) (h : ([xg_m96, xg_m97, xg_m98, xg_m99, xg_m100, xg_m101, xg_m102, xg_m103, xg_m104, xg_m105, xg_m106, xg_m107, xg_m108, xg_m109, xg_m110, xg_m111] : List xv_M)[i]? = some t) : xg_okM (96 + i) t := by
  match i, h with
  | 0, h => cases h; exact xk_m96
  | 1, h => cases h; exact xk_m97
  | 2, h => cases h; exact xk_m98
  | 3, h => cases h; exact xk_m99
  | 4, h => cases h; exact xk_m100
  | 5, h => cases h; exact xk_m101
  | 6, h => cases h; exact xk_m102
  | 7, h => cases h; exact xk_m103
  | 8, h => cases h; exact xk_m104
  | 9, h => cases h; exact xk_m105
  | 10, h => cases h; exact xk_m106
  | 11, h => cases h; exact xk_m107
  | 12, h => cases h; exact xk_m108
  | 13, h => cases h; exact xk_m109
  | 14, h => cases h; exact xk_m110
  | 15, h => cases h; exact xk_m111
  | i + 16, h => cases h
