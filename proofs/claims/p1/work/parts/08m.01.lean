/-! checks of methods 16 to 31 -/
set_option maxRecDepth 100000 in
theorem xk_m16 : xg_okM 16 xg_m16 := xg_okOf (by decide +kernel) xs_SX9 (by decide +kernel) trivial
set_option maxRecDepth 100000 in
theorem xk_m17 : xg_okM 17 xg_m17 := xg_okOf (by decide +kernel) xs_SX9 (by decide +kernel) trivial
set_option maxRecDepth 100000 in
theorem xk_m18 : xg_okM 18 xg_m18 := xg_okOf (by decide +kernel) xs_SX9 (by decide +kernel) trivial
set_option maxRecDepth 100000 in
theorem xk_m19 : xg_okM 19 xg_m19 := xg_okOf (by decide +kernel) xs_SX9 (by decide +kernel) trivial
set_option maxRecDepth 100000 in
theorem xk_m20 : xg_okM 20 xg_m20 := xg_okOf (by decide +kernel) xs_SX9 (by decide +kernel) trivial
set_option maxRecDepth 100000 in
theorem xk_m21 : xg_okM 21 xg_m21 := xg_okOf (by decide +kernel) xs_SX9 (by decide +kernel) trivial
set_option maxRecDepth 100000 in
theorem xk_m22 : xg_okM 22 xg_m22 := xg_okOf (by decide +kernel) xs_SX9 (by decide +kernel) trivial
set_option maxRecDepth 100000 in
theorem xk_m23 : xg_okM 23 xg_m23 := xg_okOf (by decide +kernel) xs_SX9 (by decide +kernel) trivial
set_option maxRecDepth 100000 in
theorem xk_m24 : xg_okM 24 xg_m24 := xg_okOf (by decide +kernel) xs_SX9 (by decide +kernel) trivial
set_option maxRecDepth 100000 in
theorem xk_m25 : xg_okM 25 xg_m25 := xg_okOf (by decide +kernel) xs_SX9 (by decide +kernel) trivial
set_option maxRecDepth 100000 in
theorem xk_m26 : xg_okM 26 xg_m26 := xg_okOf (by decide +kernel) xs_SX9 (by decide +kernel) trivial
set_option maxRecDepth 100000 in
theorem xk_m27 : xg_okM 27 xg_m27 := xg_okOf (by decide +kernel) xs_SX9 (by decide +kernel) trivial
set_option maxRecDepth 100000 in
theorem xk_m28 : xg_okM 28 xg_m28 := xg_okOf (by decide +kernel) xs_SX9 (by decide +kernel) trivial
set_option maxRecDepth 100000 in
theorem xk_m29 : xg_okM 29 xg_m29 := xg_okOf (by decide +kernel) xs_SX9 (by decide +kernel) trivial
set_option maxRecDepth 100000 in
theorem xk_m30 : xg_okM 30 xg_m30 := xg_okOf (by decide +kernel) xs_SX9 (by decide +kernel) trivial
set_option maxRecDepth 100000 in
theorem xk_m31 : xg_okM 31 xg_m31 := xg_okOf (by decide +kernel) xs_SX9 (by decide +kernel) trivial
theorem xk_g1 (i : Nat) (t : xv_M) (h : ([xg_m16, xg_m17, xg_m18, xg_m19, xg_m20, xg_m21, xg_m22, xg_m23, xg_m24, xg_m25, xg_m26, xg_m27, xg_m28, xg_m29, xg_m30, xg_m31] : List xv_M)[i]? = some t) : xg_okM (16 + i) t := by
  match i, h with
  | 0, h => cases h; exact xk_m16
  | 1, h => cases h; exact xk_m17
  | 2, h => cases h; exact xk_m18
  | 3, h => cases h; exact xk_m19
  | 4, h => cases h; exact xk_m20
  | 5, h => cases h; exact xk_m21
  | 6, h => cases h; exact xk_m22
  | 7, h => cases h; exact xk_m23
  | 8, h => cases h; exact xk_m24
  | 9, h => cases h; exact xk_m25
  | 10, h => cases h; exact xk_m26
  | 11, h => cases h; exact xk_m27
  | 12, h => cases h; exact xk_m28
  | 13, h => cases h; exact xk_m29
  | 14, h => cases h; exact xk_m30
  | 15, h => cases h; exact xk_m31
  | i + 16, h => cases h
