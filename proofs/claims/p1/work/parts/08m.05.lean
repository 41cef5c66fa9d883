/-! checks of methods 80 to 95 -/
set_option maxRecDepth 100000 in
theorem xk_m80 : xg_okM 80 xg_m80 := xg_okOf (by decide +kernel) xs_SL (by decide +kernel) ⟨⟨rfl, rfl, rfl, by decide, by decide, xw_t5 49 (by decide +kernel) (by decide +kernel)⟩, ⟨⟨rfl, rfl, rfl, by decide, by decide, xw_t5 150 (by decide +kernel) (by decide +kernel)⟩, trivial⟩⟩
set_option maxRecDepth 100000 in
theorem xk_m81 : xg_okM 81 xg_m81 := xg_okOf (by decide +kernel) xs_SL (by decide +kernel) ⟨⟨rfl, rfl, rfl, by decide, by decide, xw_t5 49 (by decide +kernel) (by decide +kernel)⟩, ⟨⟨rfl, rfl, rfl, by decide, by decide, xw_t5 150 (by decide +kernel) (by decide +kernel)⟩, trivial⟩⟩
set_option maxRecDepth 100000 in
theorem xk_m82 : xg_okM 82 xg_m82 := xg_okOf (by decide +kernel) xs_SL (by decide +kernel) ⟨⟨rfl, rfl, rfl, by decide, by decide, xw_t5 49 (by decide +kernel) (by decide +kernel)⟩, ⟨⟨rfl, rfl, rfl, by decide, by decide, xw_t5 150 (by decide +kernel) (by decide +kernel)⟩, trivial⟩⟩
set_option maxRecDepth 100000 in
theorem xk_m83 : xg_okM 83 xg_m83 := xg_okOf (by decide +kernel) xs_SL (by decide +kernel) ⟨⟨rfl, rfl, rfl, by decide, by decide, xw_t5 49 (by decide +kernel) (by decide +kernel)⟩, ⟨⟨rfl, rfl, rfl, by decide, by decide, xw_t5 150 (by decide +kernel) (by decide +kernel)⟩, trivial⟩⟩
set_option maxRecDepth 100000 in
theorem xk_m84 : xg_okM 84 xg_m84 := xg_okOf (by decide +kernel) xs_SL (by decide +kernel) ⟨⟨rfl, rfl, rfl, by decide, by decide, xw_t5 49 (by decide +kernel) (by decide +kernel)⟩, trivial⟩
set_option maxRecDepth 100000 in
theorem xk_m85 : xg_okM 85 xg_m85 := xg_okOf (by decide +kernel) xs_SL (by decide +kernel) ⟨⟨rfl, rfl, rfl, by decide, by decide, xw_t5 49 (by decide +kernel) (by decide +kernel)⟩, ⟨⟨rfl, rfl, rfl, by decide, by decide, xw_t5 50 (by decide +kernel) (by decide +kernel)⟩, trivial⟩⟩
set_option maxRecDepth 100000 in
theorem xk_m86 : xg_okM 86 xg_m86 := xg_okOf (by decide +kernel) xs_SL (by decide +kernel) ⟨⟨rfl, rfl, rfl, by decide, by decide, xw_t5 150 (by decide +kernel) (by decide +kernel)⟩, trivial⟩
set_option maxRecDepth 100000 in
theorem xk_m87 : xg_okM 87 xg_m87 := xg_okOf (by decide +kernel) xs_SL (by decide +kernel) ⟨⟨rfl, rfl, rfl, by decide, by decide, xw_t5 150 (by decide +kernel) (by decide +kernel)⟩, trivial⟩
set_option maxRecDepth 100000 in
theorem xk_m88 : xg_okM 88 xg_m88 := xg_okOf (by decide +kernel) xs_SL (by decide +kernel) ⟨⟨rfl, rfl, rfl, by decide, by decide, xw_t5 150 (by decide +kernel) (by decide +kernel)⟩, ⟨⟨rfl, rfl, rfl, by decide, by decide, xw_t5 50 (by decide +kernel) (by decide +kernel)⟩, trivial⟩⟩
set_option maxRecDepth 100000 in
theorem xk_m89 : xg_okM 89 xg_m89 := xg_okOf (by decide +kernel) xs_SL (by decide +kernel) ⟨⟨rfl, rfl, rfl, by decide, by decide, xw_t5 49 (by decide +kernel) (by decide +kernel)⟩, ⟨⟨rfl, rfl, rfl, by decide, by decide, xw_t5 150 (by decide +kernel) (by decide +kernel)⟩, trivial⟩⟩
set_option maxRecDepth 100000 in
theorem xk_m90 : xg_okM 90 xg_m90 := xg_okOf (by decide +kernel) xs_SL (by decide +kernel) ⟨⟨rfl, rfl, rfl, by decide, by decide, xw_t5 49 (by decide +kernel) (by decide +kernel)⟩, ⟨⟨rfl, rfl, rfl, by decide, by decide, xw_t5 150 (by decide +kernel) (by decide +kernel)⟩, trivial⟩⟩
set_option maxRecDepth 100000 in
theorem xk_m91 : xg_okM 91 xg_m91 := xg_okOf (by decide +kernel) xs_SL (by decide +kernel) ⟨⟨rfl, rfl, rfl, by decide, by decide, xw_t5 49 (by decide +kernel) (by decide +kernel)⟩, ⟨⟨rfl, rfl, rfl, by decide, by decide, xw_t5 150 (by decide +kernel) (by decide +kernel)⟩, trivial⟩⟩
set_option maxRecDepth 100000 in
theorem xk_m92 : xg_okM 92 xg_m92 := xg_okOf (by decide +kernel) xs_SL (by decide +kernel) ⟨⟨rfl, rfl, rfl, by decide, by decide, xw_t5 150 (by decide +kernel) (by decide +kernel)⟩, trivial⟩
set_option maxRecDepth 100000 in
theorem xk_m93 : xg_okM 93 xg_m93 := xg_okOf (by decide +kernel) xs_SL (by decide +kernel) ⟨⟨rfl, rfl, rfl, by decide, by decide, xw_t5 49 (by decide +kernel) (by decide +kernel)⟩, ⟨⟨rfl, rfl, rfl, by decide, by decide, xw_t5 150 (by decide +kernel) (by decide +kernel)⟩, trivial⟩⟩
set_option maxRecDepth 100000 in
theorem xk_m94 : xg_okM 94 xg_m94 := xg_okOf (by decide +kernel) xs_SL (by decide +kernel) ⟨⟨rfl, rfl, rfl, by decide, by decide, xw_t5 150 (by decide +kernel) (by decide +kernel)⟩, ⟨⟨rfl, rfl, rfl, by decide, by decide, xw_t5 50 (by decide +kernel) (by decide +kernel)⟩, trivial⟩⟩
set_option maxRecDepth 100000 in
theorem xk_m95 : xg_okM 95 xg_m95 := xg_okOf (by decide +kernel) xs_SL (by decide +kernel) ⟨⟨rfl, rfl, rfl, by decide, by decide, xw_t5 49 (by decide +kernel) (by decide +kernel)⟩, ⟨⟨rfl, rfl, rfl, by decide, by decide, xw_t5 150 (by decide +kernel) (by decide +kernel)⟩, trivial⟩⟩
theorem xk_g5 (i : Nat) (t : xv_M) (h : ([xg_m80, xg_m81, xg_m82, xg_m83, xg_m84, xg_m85, xg_m86, xg_m87, xg_m88, xg_m89, xg_m90, xg_m91, xg_m92, xg_m93, xg_m94, xg_m95] : List xv_M)[i]? = some t) : xg_okM (80 + i) t := by
  match i, h with
  | 0, h => cases h; exact xk_m80
  | 1, h => cases h; exact xk_m81
  | 2, h => cases h; exact xk_m82
  | 3, h => cases h; exact xk_m83
  | 4, h => cases h; exact xk_m84
  | 5, h => cases h; exact xk_m85
  | 6, h => cases h; exact xk_m86
  | 7, h => cases h; exact xk_m87
  | 8, h => cases h; exact xk_m88
  | 9, h => cases h; exact xk_m89
  | 10, h => cases h; exact xk_m90
  | 11, h => cases h; exact xk_m91
  | 12, h => cases h; exact xk_m92
  | 13, h => cases h; exact xk_m93
  | 14, h => cases h; exact xk_m94
  | 15, h => cases h; exact xk_m95
  | i + 16, h => cases h
