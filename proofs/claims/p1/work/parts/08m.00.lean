/-! checks of methods 0 to 15 -/
set_option maxRecDepth 100000 in
theorem xk_m0 : xg_okM 0 xg_m0 := xg_okOf (by decide +kernel) xs_SX9 (by decide +kernel) trivial
set_option maxRecDepth 100000 in
theorem xk_m1 : xg_okM 1 xg_m1 := xg_okOf (by decide +kernel) xs_SX9 (by decide +kernel) trivial
set_option maxRecDepth 100000 in
theorem xk_m2 : xg_okM 2 xg_m2 := xg_okOf (by decide +kernel) xs_SX9 (by decide +kernel) trivial
set_option maxRecDepth 100000 in
theorem xk_m3 : xg_okM 3 xg_m3 := xg_okOf (by decide +kernel) xs_SX9 (by decide +kernel) trivial
set_option maxRecDepth 100000 in
theorem xk_m4 : xg_okM 4 xg_m4 := xg_okOf (by decide +kernel) xs_SX9 (by decide +kernel) trivial
set_option maxRecDepth 100000 in
theorem xk_m5 : xg_okM 5 xg_m5 := xg_okOf (by decide +kernel) xs_SX9 (by decide +kernel) trivial
set_option maxRecDepth 100000 in
theorem xk_m6 : xg_okM 6 xg_m6 := xg_okOf (by decide +kernel) xs_SX9 (by decide +kernel) trivial
set_option maxRecDepth 100000 in
theorem xk_m7 : xg_okM 7 xg_m7 := xg_okOf (by decide +kernel) xs_SX9 (by decide +kernel) trivial
set_option maxRecDepth 100000 in
theorem xk_m8 : xg_okM 8 xg_m8 := xg_okOf (by decide +kernel) xs_SX9 (by decide +kernel) trivial
set_option maxRecDepth 100000 in
theorem xk_m9 : xg_okM 9 xg_m9 := xg_okOf (by decide +kernel) xs_SX9 (by decide +kernel) trivial
set_option maxRecDepth 100000 in
theorem xk_m10 : xg_okM 10 xg_m10 := xg_okOf (by decide +kernel) xs_SX9 (by decide +kernel) trivial
set_option maxRecDepth 100000 in
theorem xk_m11 : xg_okM 11 xg_m11 := xg_okOf (by decide +kernel) xs_SX9 (by decide +kernel) trivial
set_option maxRecDepth 100000 in
theorem xk_m12 : xg_okM 12 xg_m12 := xg_okOf (by decide +kernel) xs_SX9 (by decide +kernel) trivial
set_option maxRecDepth 100000 in
theorem xk_m13 : xg_okM 13 xg_m13 := xg_okOf (by decide +kernel) xs_SX9 (by decide +kernel) trivial
set_option maxRecDepth 100000 in
theorem xk_m14 : xg_okM 14 xg_m14 := xg_okOf (by decide +kernel) xs_SX9 (by decide +kernel) trivial
set_option maxRecDepth 100000 in
theorem xk_m15 : xg_okM 15 xg_m15 := xg_okOf (by decide +kernel) xs_SX9 (by decide +kernel) trivial
theorem xk_g0 (i : Nat) (t : xv_M) (h : ([xg_m0, xg_m1, xg_m2, xg_m3, xg_m4, xg_m5, xg_m6, xg_m7, xg_m8, xg_m9, xg_m10, xg_m11, xg_m12, xg_m13, xg_m14, xg_m15] : List xv_M)[i]? = some t) : xg_okM (0 + i) t := by
  match i, h with
  | 0, h => cases h; exact xk_m0
  | 1, h => cases h; exact xk_m1
  | 2, h => cases h; exact xk_m2
  | 3, h => cases h; exact xk_m3
  | 4, h => cases h; exact xk_m4
  | 5, h => cases h; exact xk_m5
  | 6, h => cases h; exact xk_m6
  | 7, h => cases h; exact xk_m7
  | 8, h => cases h; exact xk_m8
  | 9, h => cases h; exact xk_m9
  | 10, h => cases h; exact xk_m10
  | 11, h => cases h; exact xk_m11
  | 12, h => cases h; exact xk_m12
  | 13, h => cases h; exact xk_m13
  | 14, h => cases h; exact xk_m14
  | 15, h => cases h; exact xk_m15
  | i + 16, h => cases h
