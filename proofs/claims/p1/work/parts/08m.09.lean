/-! checks of methods 144 to 159 -/
set_option maxRecDepth 100000 in
theorem xk_m144 : xg_okM 144 xg_m144 := xg_okOf (by decide +kernel) xs_SX19 (by decide +kernel) trivial
set_option maxRecDepth 100000 in
theorem xk_m145 : xg_okM 145 xg_m145 := xg_okOf (by decide +kernel) xs_SX19 (by decide +kernel) trivial
set_option maxRecDepth 100000 in
theorem xk_m146 : xg_okM 146 xg_m146 := xg_okOf (by decide +kernel) xs_SX19 (by decide +kernel) trivial
set_option maxRecDepth 100000 in
theorem xk_m147 : xg_okM 147 xg_m147 := xg_okOf (by decide +kernel) xs_SX11 (by decide +kernel) trivial
set_option maxRecDepth 100000 in
theorem xk_m148 : xg_okM 148 xg_m148 := xg_okOf (by decide +kernel) xs_SX12 (by decide +kernel) trivial
set_option maxRecDepth 100000 in
theorem xk_m149 : xg_okM 149 xg_m149 := xg_okOf (by decide +kernel) xs_SX12 (by decide +kernel) trivial
set_option maxRecDepth 100000 in
theorem xk_m150 : xg_okM 150 xg_m150 := xg_okOf (by decide +kernel) xs_SX13 (by decide +kernel) trivial
set_option maxRecDepth 100000 in
theorem xk_m151 : xg_okM 151 xg_m151 := xg_okOf (by decide +kernel) xs_SX14 (by decide +kernel) trivial
set_option maxRecDepth 100000 in
theorem xk_m152 : xg_okM 152 xg_m152 := xg_okOf (by decide +kernel) xs_SX14 (by decide +kernel) trivial
set_option maxRecDepth 100000 in
theorem xk_m153 : xg_okM 153 xg_m153 := xg_okOf (by decide +kernel) xs_SX14 (by decide +kernel) trivial
set_option maxRecDepth 100000 in
theorem xk_m154 : xg_okM 154 xg_m154 := xg_okOf (by decide +kernel) xs_SX14 (by decide +kernel) trivial
set_option maxRecDepth 100000 in
theorem xk_m155 : xg_okM 155 xg_m155 := xg_okOf (by decide +kernel) xs_SX14 (by decide +kernel) trivial
set_option maxRecDepth 100000 in
theorem xk_m156 : xg_okM 156 xg_m156 := xg_okOf (by decide +kernel) xs_SX14 (by decide +kernel) trivial
set_option maxRecDepth 100000 in
theorem xk_m157 : xg_okM 157 xg_m157 := xg_okOf (by decide +kernel) xs_SX14 (by decide +kernel) trivial
set_option maxRecDepth 100000 in
theorem xk_m158 : xg_okM 158 xg_m158 := xg_okOf (by decide +kernel) xs_SX14 (by decide +kernel) trivial
set_option maxRecDepth 100000 in
theorem xk_m159 : xg_okM 159 xg_m159 := xg_okOf (by decide +kernel) xs_SX14 (by decide +kernel) trivial
theorem xk_g9 (i : Nat) (t : xv_M) (h : ([xg_m144, xg_m145, xg_m146, xg_m147, xg_m148, xg_m149, xg_m150, xg_m151, xg_m152, xg_m153, xg_m154, xg_m155, xg_m156, xg_m157, xg_m158, xg_m159] : List xv_M)[i]? = some t) : xg_okM (144 + i) t := by
  match i, h with
  | 0, h => cases h; exact xk_m144
  | 1, h => cases h; exact xk_m145
  | 2, h => cases h; exact xk_m146
  | 3, h => cases h; exact xk_m147
  | 4, h => cases h; exact xk_m148
  | 5, h => cases h; exact xk_m149
  | 6, h => cases h; exact xk_m150
  | 7, h => cases h; exact xk_m151
  | 8, h => cases h; exact xk_m152
  | 9, h => cases h; exact xk_m153
  | 10, h => cases h; exact xk_m154
  | 11, h => cases h; exact xk_m155
  | 12, h => cases h; exact xk_m156
  | 13, h => cases h; exact xk_m157
  | 14, h => cases h; exact xk_m158
  | 15, h => cases h; exact xk_m159
  | i + 16, h => cases h
