/-! checks of methods 16 to 31 -/
set_option maxRecDepth 100000 in
theorem zk_m16 : zokM 16 zg_m16 := zokOf (by decide +kernel) zs_SX9 (by decide +kernel)
set_option maxRecDepth 100000 in
theorem zk_m17 : zokM 17 zg_m17 := zokOf (by decide +kernel) zs_SX9 (by decide +kernel)
set_option maxRecDepth 100000 in
theorem zk_m18 : zokM 18 zg_m18 := zokOf (by decide +kernel) zs_SX9 (by decide +kernel)
set_option maxRecDepth 100000 in
theorem zk_m19 : zokM 19 zg_m19 := zokOf (by decide +kernel) zs_SX9 (by decide +kernel)
set_option maxRecDepth 100000 in
theorem zk_m20 : zokM 20 zg_m20 := zokOf (by decide +kernel) zs_SX9 (by decide +kernel)
set_option maxRecDepth 100000 in
theorem zk_m21 : zokM 21 zg_m21 := zokOf (by decide +kernel) zs_SX9 (by decide +kernel)
set_option maxRecDepth 100000 in
theorem zk_m22 : zokM 22 zg_m22 := zokOf (by decide +kernel) zs_SX9 (by decide +kernel)
set_option maxRecDepth 100000 in
theorem zk_m23 : zokM 23 zg_m23 := zokOf (by decide +kernel) zs_SX9 (by decide +kernel)
set_option maxRecDepth 100000 in
theorem zk_m24 : zokM 24 zg_m24 := zokOf (by decide +kernel) zs_SX9 (by decide +kernel)
set_option maxRecDepth 100000 in
theorem zk_m25 : zokM 25 zg_m25 := zokOf (by decide +kernel) zs_SX9 (by decide +kernel)
set_option maxRecDepth 100000 in
theorem zk_m26 : zokM 26 zg_m26 := zokOf (by decide +kernel) zs_SX9 (by decide +kernel)
set_option maxRecDepth 100000 in
theorem zk_m27 : zokM 27 zg_m27 := zokOf (by decide +kernel) zs_SX9 (by decide +kernel)
set_option maxRecDepth 100000 in
theorem zk_m28 : zokM 28 zg_m28 := zokOf (by decide +kernel) zs_SX9 (by decide +kernel)
set_option maxRecDepth 100000 in
theorem zk_m29 : zokM 29 zg_m29 := zokOf (by decide +kernel) zs_SX9 (by decide +kernel)
set_option maxRecDepth 100000 in
theorem zk_m30 : zokM 30 zg_m30 := zokOf (by decide +kernel) zs_SX9 (by decide +kernel)
set_option maxRecDepth 100000 in
theorem zk_m31 : zokM 31 zg_m31 := zokOf (by decide +kernel) zs_SX9 (by decide +kernel)
theorem zk_g1 (i : Nat) (t : zM) (h : (zg_g1)[i]? = some t) : zokM (16 + i) t := by
  unfold zg_g1 at h
  match i, h with
  | 0, h => cases h; exact zk_m16
  | 1, h => cases h; exact zk_m17
  | 2, h => cases h; exact zk_m18
  | 3, h => cases h; exact zk_m19
  | 4, h => cases h; exact zk_m20
  | 5, h => cases h; exact zk_m21
  | 6, h => cases h; exact zk_m22
  | 7, h => cases h; exact zk_m23
  | 8, h => cases h; exact zk_m24
  | 9, h => cases h; exact zk_m25
  | 10, h => cases h; exact zk_m26
  | 11, h => cases h; exact zk_m27
  | 12, h => cases h; exact zk_m28
  | 13, h => cases h; exact zk_m29
  | 14, h => cases h; exact zk_m30
  | 15, h => cases h; exact zk_m31
  | i + 16, h => cases h
