/-! checks of methods 64 to 79 -/
set_option maxRecDepth 100000 in
theorem xk_m64 : xg_okM 64 xg_m64 := xg_okOf (by decide +kernel) xs_SX6 (by decide +kernel) trivial
set_option maxRecDepth 100000 in
theorem xk_m65 : xg_okM 65 xg_m65 := xg_okOf (by decide +kernel) xs_SX6 (by decide +kernel) trivial
set_option maxRecDepth 100000 in
theorem xk_m66 : xg_okM 66 xg_m66 := xg_okOf (by decide +kernel) xs_SX6 (by decide +kernel) trivial
set_option maxRecDepth 100000 in
theorem xk_m67 : xg_okM 67 xg_m67 := xg_okOf (by decide +kernel) xs_SX6 (by decide +kernel) trivial
set_option maxRecDepth 100000 in
theorem xk_m68 : xg_okM 68 xg_m68 := xg_okOf (by decide +kernel) xs_SX6 (by decide +kernel) trivial
set_option maxRecDepth 100000 in
theorem xk_m69 : xg_okM 69 xg_m69 := xg_okOf (by decide +kernel) xs_SX6 (by decide +kernel) trivial
set_option maxRecDepth 100000 in
theorem xk_m70 : xg_okM 70 xg_m70 := xg_okOf (by decide +kernel) xs_SX6 (by decide +kernel) trivial
set_option maxRecDepth 100000 in
theorem xk_m71 : xg_okM 71 xg_m71 := xg_okOf (by decide +kernel) xs_SX6 (by decide +kernel) trivial
set_option maxRecDepth 100000 in
theorem xk_m72 : xg_okM 72 xg_m72 := xg_okOf (by decide +kernel) xs_SX6 (by decide +kernel) trivial
set_option maxRecDepth 100000 in
theorem xk_m73 : xg_okM 73 xg_m73 := xg_okOf (by decide +kernel) xs_SX6 (by decide +kernel) trivial
set_option maxRecDepth 100000 in
theorem xk_m74 : xg_okM 74 xg_m74 := xg_okOf (by decide +kernel) xs_SX6 (by decide +kernel) trivial
set_option maxRecDepth 100000 in
theorem xk_m75 : xg_okM 75 xg_m75 := xg_okOf (by decide +kernel) xs_SX7 (by decide +kernel) trivial
set_option maxRecDepth 100000 in
theorem xk_m76 : xg_okM 76 xg_m76 := xg_okOf (by decide +kernel) xs_SX8 (by decide +kernel) trivial
set_option maxRecDepth 100000 in
theorem xk_m77 : xg_okM 77 xg_m77 := xg_okOf (by decide +kernel) xs_SX8 (by decide +kernel) trivial
set_option maxRecDepth 100000 in
theorem xk_m78 : xg_okM 78 xg_m78 := xg_okOf (by decide +kernel) xs_SL (by decide +kernel) ⟨⟨rfl, rfl, rfl, by decide, by decide, xw_t5 49 (by decide +kernel) (by decide +kernel)⟩, ⟨⟨rfl, rfl, rfl, by decide, by decide, xw_t5 150 (by decide +kernel) (by decide +kernel)⟩, ⟨⟨rfl, rfl, rfl, by decide, by decide, xw_t5 50 (by decide +kernel) (by decide +kernel)⟩, trivial⟩⟩⟩
set_option maxRecDepth 100000 in
theorem xk_m79 : xg_okM 79 xg_m79 := xg_okOf (by decide +kernel) xs_SL (by decide +kernel) ⟨⟨rfl, rfl, rfl, by decide, by decide, xw_t5 49 (by decide +kernel) (by decide +kernel)⟩, trivial⟩
theorem xk_g4 (i : Nat) (t : xv_M) (h : ([xg_m64, xg_m65, xg_m66, xg_m67, xg_m68, xg_m69, xg_m70, xg_m71, xg_m72, xg_m73, xg_m74, xg_m75, xg_m76, xg_m77, xg_m78, xg_m79] : List xv_M)[i]? = some t) : xg_okM (64 + i) t := by
  match i, h with
  | 0, h => cases h; exact xk_m64
  | 1, h => cases h; exact xk_m65
  | 2, h => cases h; exact xk_m66
  | 3, h => cases h; exact xk_m67
  | 4, h => cases h; exact xk_m68
  | 5, h => cases h; exact xk_m69
  | 6, h => cases h; exact xk_m70
  | 7, h => cases h; exact xk_m71
  | 8, h => cases h; exact xk_m72
  | 9, h => cases h; exact xk_m73
  | 10, h => cases h; exact xk_m74
  | 11, h => cases h; exact xk_m75
  | 12, h => cases h; exact xk_m76
  | 13, h => cases h; exact xk_m77
  | 14, h => cases h; exact xk_m78
  | 15, h => cases h; exact xk_m79
  | i + 16, h => cases h
