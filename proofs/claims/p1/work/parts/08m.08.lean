/-! checks of methods 128 to 143 -/
set_option maxRecDepth 100000 in
theorem xk_m128 : xg_okM 128 xg_m128 := xg_okOf (by decide +kernel) xs_SX19 (by decide +kernel) trivial
set_option maxRecDepth 100000 in
theorem xk_m129 : xg_okM 129 xg_m129 := xg_okOf (by decide +kernel) xs_SX19 (by decide +kernel) trivial
set_option maxRecDepth 100000 in
theorem xk_m130 : xg_okM 130 xg_m130 := xg_okOf (by decide +kernel) xs_SX19 (by decide +kernel) trivial
set_option maxRecDepth 100000 in
theorem xk_m131 : xg_okM 131 xg_m131 := xg_okOf (by decide +kernel) xs_SX19 (by decide +kernel) trivial
set_option maxRecDepth 100000 in
theorem xk_m132 : xg_okM 132 xg_m132 := xg_okOf (by decide +kernel) xs_SX19 (by decide +kernel) trivial
set_option maxRecDepth 100000 in
theorem xk_m133 : xg_okM 133 xg_m133 := xg_okOf (by decide +kernel) xs_SX19 (by decide +kernel) trivial
set_option maxRecDepth 100000 in
theorem xk_m134 : xg_okM 134 xg_m134 := xg_okOf (by decide +kernel) xs_SX19 (by decide +kernel) trivial
set_option maxRecDepth 100000 in
theorem xk_m135 : xg_okM 135 xg_m135 := xg_okOf (by decide +kernel) xs_SX19 (by decide +kernel) trivial
set_option maxRecDepth 100000 in
theorem xk_m136 : xg_okM 136 xg_m136 := xg_okOf (by decide +kernel) xs_SX19 (by decide +kernel) trivial
set_option maxRecDepth 100000 in
theorem xk_m137 : xg_okM 137 xg_m137 := xg_okOf (by decide +kernel) xs_SX19 (by decide +kernel) trivial
set_option maxRecDepth 100000 in
theorem xk_m138 : xg_okM 138 xg_m138 := xg_okOf (by decide +kernel) xs_SX19 (by decide +kernel) trivial
set_option maxRecDepth 100000 in
theorem xk_m139 : xg_okM 139 xg_m139 := xg_okOf (by decide +kernel) xs_SX19 (by decide +kernel) trivial
set_option maxRecDepth 100000 in
theorem xk_m140 : xg_okM 140 xg_m140 := xg_okOf (by decide +kernel) xs_SX19 (by decide +kernel) trivial
set_option maxRecDepth 100000 in
theorem xk_m141 : xg_okM 141 xg_m141 := xg_okOf (by decide +kernel) xs_SX19 (by decide +kernel) trivial
set_option maxRecDepth 100000 in
theorem xk_m142 : xg_okM 142 xg_m142 := xg_okOf (by decide +kernel) xs_SX19 (by decide +kernel) trivial
set_option maxRecDepth 100000 in
theorem xk_m143 : xg_okM 143 xg_m143 := xg_okOf (by decide +kernel) xs_SX19 (by decide +kernel) trivial
theorem xk_g8 (i : Nat) (t : xv_M) (h : ([xg_m128, xg_m129, xg_m130, xg_m131, xg_m132, xg_m133, xg_m134, xg_m135, xg_m136, xg_m137, xg_m138, xg_m139, xg_m140, xg_m141, xg_m142, xg_m143] : List xv_M)[i]? = some t) : xg_okM (128 + i) t := by
  match i, h with
  | 0, h => cases h; exact xk_m128
  | 1, h => cases h; exact xk_m129
  | 2, h => cases h; exact xk_m130
  | 3, h => cases h; exact xk_m131
  | 4, h => cases h; exact xk_m132
  | 5, h => cases h; exact xk_m133
  | 6, h => cases h; exact xk_m134
  | 7, h => cases h; exact xk_m135
  | 8, h => cases h; exact xk_m136
  | 9, h => cases h; exact xk_m137
  | 10, h => cases h; exact xk_m138
  | 11, h => cases h; exact xk_m139
  | 12, h => cases h; exact xk_m140
  | 13, h => cases h; exact xk_m141
  | 14, h => cases h; exact xk_m142
  | 15, h => cases h; exact xk_m143
  | i + 16, h => cases h
