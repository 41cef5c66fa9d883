/-! checks of methods 112 to 127 -/
set_option maxRecDepth 100000 in
theorem xk_m112 : xg_okM 112 xg_m112 := xg_okOf (by decide +kernel) xs_SX19 (by decide +kernel) trivial
set_option maxRecDepth 100000 in
theorem xk_m113 : xg_okM 113 xg_m113 := xg_okOf (by decide +kernel) xs_SX19 (by decide +kernel) trivial
set_option maxRecDepth 100000 in
theorem xk_m114 : xg_okM 114 xg_m114 := xg_okOf (by decide +kernel) xs_SX19 (by decide +kernel) trivial
set_option maxRecDepth 100000 in
theorem xk_m115 : xg_okM 115 xg_m115 := xg_okOf (by decide +kernel) xs_SX19 (by decide +kernel) trivial
set_option maxRecDepth 100000 in
theorem xk_m116 : xg_okM 116 xg_m116 := xg_okOf (by decide +kernel) xs_SX19 (by decide +kernel) trivial
set_option maxRecDepth 100000 in
theorem xk_m117 : xg_okM 117 xg_m117 := xg_okOf (by decide +kernel) xs_SX19 (by decide +kernel) trivial
set_option maxRecDepth 100000 in
theorem xk_m118 : xg_okM 118 xg_m118 := xg_okOf (by decide +kernel) xs_SX19 (by decide +kernel) trivial
set_option maxRecDepth 100000 in
theorem xk_m119 : xg_okM 119 xg_m119 := xg_okOf (by decide +kernel) xs_SX19 (by decide +kernel) trivial
set_option maxRecDepth 100000 in
theorem xk_m120 : xg_okM 120 xg_m120 := xg_okOf (by decide +kernel) xs_SX19 (by decide +kernel) trivial
set_option maxRecDepth 100000 in
theorem xk_m121 : xg_okM 121 xg_m121 := xg_okOf (by decide +kernel) xs_SX19 (by decide +kernel) trivial
set_option maxRecDepth 100000 in
theorem xk_m122 : xg_okM 122 xg_m122 := xg_okOf (by decide +kernel) xs_SX19 (by decide +kernel) trivial
set_option maxRecDepth 100000 in
theorem xk_m123 : xg_okM 123 xg_m123 := xg_okOf (by decide +kernel) xs_SX19 (by decide +kernel) trivial
set_option maxRecDepth 100000 in
theorem xk_m124 : xg_okM 124 xg_m124 := xg_okOf (by decide +kernel) xs_SX19 (by decide +kernel) trivial
set_option maxRecDepth 100000 in
theorem xk_m125 : xg_okM 125 xg_m125 := xg_okOf (by decide +kernel) xs_SX19 (by decide +kernel) trivial
set_option maxRecDepth 100000 in
theorem xk_m126 : xg_okM 126 xg_m126 := xg_okOf (by decide +kernel) xs_SX19 (by decide +kernel) trivial
set_option maxRecDepth 100000 in
theorem xk_m127 : xg_okM 127 xg_m127 := xg_okOf (by decide +kernel) xs_SX19 (by decide +kernel) trivial
theorem xk_g7 (i : Nat) (t : xv_M) (h : ([xg_m112, xg_m113, xg_m114, xg_m115, xg_m116, xg_m117, xg_m118, xg_m119, xg_m120, xg_m121, xg_m122, xg_m123, xg_m124, xg_m125, xg_m126, xg_m127] : List xv_M)[i]? = some t) : xg_okM (112 + i) t := by
  match i, h with
  | 0, h => cases h; exact xk_m112
  | 1, h => cases h; exact xk_m113
  | 2, h => cases h; exact xk_m114
  | 3, h => cases h; exact xk_m115
  | 4, h => cases h; exact xk_m116
  | 5, h => cases h; exact xk_m117
  | 6, h => cases h; exact xk_m118
  | 7, h => cases h; exact xk_m119
  | 8, h => cases h; exact xk_m120
  | 9, h => cases h; exact xk_m121
  | 10, h => cases h; exact xk_m122
  | 11, h => cases h; exact xk_m123
  | 12, h => cases h; exact xk_m124
  | 13, h => cases h; exact xk_m125
  | 14, h => cases h; exact xk_m126
  | 15, h => cases h; exact xk_m127
  | i + 16, h => cases h
