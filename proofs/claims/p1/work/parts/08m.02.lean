/-! checks of methods 32 to 47 -/
set_option maxRecDepth 100000 in
theorem xk_m32 : xg_okM 32 xg_m32 := xg_okOf (by decide +kernel) xs_SX9 (by decide +kernel) trivial
set_option maxRecDepth 100000 in
theorem xk_m33 : xg_okM 33 xg_m33 := xg_okOf (by decide +kernel) xs_SX9 (by decide +kernel) trivial
set_option maxRecDepth 100000 in
theorem xk_m34 : xg_okM 34 xg_m34 := xg_okOf (by decide +kernel) xs_SX9 (by decide +kernel) trivial
set_option maxRecDepth 100000 in
theorem xk_m35 : xg_okM 35 xg_m35 := xg_okOf (by decide +kernel) xs_SX9 (by decide +kernel) trivial
set_option maxRecDepth 100000 in
theorem xk_m36 : xg_okM 36 xg_m36 := xg_okOf (by decide +kernel) xs_SX9 (by decide +kernel) trivial
set_option maxRecDepth 100000 in
theorem xk_m37 : xg_okM 37 xg_m37 := xg_okOf (by decide +kernel) xs_SX9 (by decide +kernel) trivial
set_option maxRecDepth 100000 in
theorem xk_m38 : xg_okM 38 xg_m38 := xg_okOf (by decide +kernel) xs_SX9 (by decide +kernel) trivial
set_option maxRecDepth 100000 in
theorem xk_m39 : xg_okM 39 xg_m39 := xg_okOf (by decide +kernel) xs_SX9 (by decide +kernel) trivial
set_option maxRecDepth 100000 in
theorem xk_m40 : xg_okM 40 xg_m40 := xg_okOf (by decide +kernel) xs_SX9 (by decide +kernel) trivial
set_option maxRecDepth 100000 in
theorem xk_m41 : xg_okM 41 xg_m41 := xg_okOf (by decide +kernel) xs_SX9 (by decide +kernel) trivial
set_option maxRecDepth 100000 in
theorem xk_m42 : xg_okM 42 xg_m42 := xg_okOf (by decide +kernel) xs_SX0 (by decide +kernel) trivial
set_option maxRecDepth 100000 in
theorem xk_m43 : xg_okM 43 xg_m43 := xg_okOf (by decide +kernel) xs_SX1 (by decide +kernel) trivial
set_option maxRecDepth 100000 in
theorem xk_m44 : xg_okM 44 xg_m44 := xg_okOf (by decide +kernel) xs_SX2 (by decide +kernel) trivial
set_option maxRecDepth 100000 in
theorem xk_m45 : xg_okM 45 xg_m45 := xg_okOf (by decide +kernel) xs_SX2 (by decide +kernel) trivial
set_option maxRecDepth 100000 in
theorem xk_m46 : xg_okM 46 xg_m46 := xg_okOf (by decide +kernel) xs_SX2 (by decide +kernel) trivial
set_option maxRecDepth 100000 in
theorem xk_m47 : xg_okM 47 xg_m47 := xg_okOf (by decide +kernel) xs_SX2 (by decide +kernel) trivial
theorem xk_g2 (i : Nat) (t : xv_M) (h : ([xg_m32, xg_m33, xg_m34, xg_m35, xg_m36, xg_m37, xg_m38, xg_m39, xg_m40, xg_m41, xg_m42, xg_m43, xg_m44, xg_m45, xg_m46, xg_m47] : List xv_M)[i]? = some t) : xg_okM (32 + i) t := by
  match i, h with
  | 0, h => cases h; exact xk_m32
  | 1, h => cases h; exact xk_m33
  | 2, h => cases h; exact xk_m34
  | 3, h => cases h; exact xk_m35
  | 4, h => cases h; exact xk_m36
  | 5, h => cases h; exact xk_m37
  | 6, h => cases h; exact xk_m38
  | 7, h => cases h; exact xk_m39
  | 8, h => cases h; exact xk_m40
  | 9, h => cases h; exact xk_m41
  | 10, h => cases h; exact xk_m42
  | 11, h => cases h; exact xk_m43
  | 12, h => cases h; exact xk_m44
  | 13, h => cases h; exact xk_m45
  | 14, h => cases h; exact xk_m46
  | 15, h => cases h; exact xk_m47
  | i + 16, h => cases h
