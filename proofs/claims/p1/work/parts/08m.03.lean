/-! checks of methods 48 to 63 -/
set_option maxRecDepth 100000 in
theorem xk_m48 : xg_okM 48 xg_m48 := xg_okOf (by decide +kernel) xs_SX3 (by decide +kernel) trivial
set_option maxRecDepth 100000 in
theorem xk_m49 : xg_okM 49 xg_m49 := xg_okOf (by decide +kernel) xs_SX4 (by decide +kernel) trivial
set_option maxRecDepth 100000 in
theorem xk_m50 : xg_okM 50 xg_m50 := xg_okOf (by decide +kernel) xs_SX4 (by decide +kernel) trivial
set_option maxRecDepth 100000 in
theorem xk_m51 : xg_okM 51 xg_m51 := xg_okOf (by decide +kernel) xs_SX5 (by decide +kernel) trivial
set_option maxRecDepth 100000 in
theorem xk_m52 : xg_okM 52 xg_m52 := xg_okOf (by decide +kernel) xs_SX6 (by decide +kernel) trivial
set_option maxRecDepth 100000 in
theorem xk_m53 : xg_okM 53 xg_m53 := xg_okOf (by decide +kernel) xs_SX6 (by decide +kernel) trivial
set_option maxRecDepth 100000 in
theorem xk_m54 : xg_okM 54 xg_m54 := xg_okOf (by decide +kernel) xs_SX6 (by decide +kernel) trivial
set_option maxRecDepth 100000 in
theorem xk_m55 : xg_okM 55 xg_m55 := xg_okOf (by decide +kernel) xs_SX6 (by decide +kernel) trivial
set_option maxRecDepth 100000 in
theorem xk_m56 : xg_okM 56 xg_m56 := xg_okOf (by decide +kernel) xs_SX6 (by decide +kernel) trivial
set_option maxRecDepth 100000 in
theorem xk_m57 : xg_okM 57 xg_m57 := xg_okOf (by decide +kernel) xs_SX6 (by decide +kernel) trivial
set_option maxRecDepth 100000 in
theorem xk_m58 : xg_okM 58 xg_m58 := xg_okOf (by decide +kernel) xs_SX6 (by decide +kernel) trivial
set_option maxRecDepth 100000 in
theorem xk_m59 : xg_okM 59 xg_m59 := xg_okOf (by decide +kernel) xs_SX6 (by decide +kernel) trivial
set_option maxRecDepth 100000 in
theorem xk_m60 : xg_okM 60 xg_m60 := xg_okOf (by decide +kernel) xs_SX6 (by decide +kernel) trivial
set_option maxRecDepth 100000 in
theorem xk_m61 : xg_okM 61 xg_m61 := xg_okOf (by decide +kernel) xs_SX6 (by decide +kernel) trivial
set_option maxRecDepth 100000 in
theorem xk_m62 : xg_okM 62 xg_m62 := xg_okOf (by decide +kernel) xs_SX6 (by decide +kernel) trivial
set_option maxRecDepth 100000 in
theorem xk_m63 : xg_okM 63 xg_m63 := xg_okOf (by decide +kernel) xs_SX6 (by decide +kernel) trivial
theorem xk_g3 (i : Nat) (t : xv_M) (h : ([xg_m48, xg_m49, xg_m50, xg_m51, xg_m52, xg_m53, xg_m54, xg_m55, xg_m56, xg_m57, xg_m58, xg_m59, xg_m60, xg_m61, xg_m62, xg_m63] : List xv_M)[i]? = some t) : xg_okM (48 + i) t := by
  match i, h with
  | 0, h => cases h; exact xk_m48
  | 1, h => cases h; exact xk_m49
  | 2, h => cases h; exact xk_m50
  | 3, h => cases h; exact xk_m51
  | 4, h => cases h; exact xk_m52
  | 5, h => cases h; exact xk_m53
  | 6, h => cases h; exact xk_m54
  | 7, h => cases h; exact xk_m55
  | 8, h => cases h; exact xk_m56
  | 9, h => cases h; exact xk_m57
  | 10, h => cases h; exact xk_m58
  | 11, h => cases h; exact xk_m59
  | 12, h => cases h; exact xk_m60
  | 13, h => cases h; exact xk_m61
  | 14, h => cases h; exact xk_m62
  | 15, h => cases h; exact xk_m63
  | i + 16, h => cases h
