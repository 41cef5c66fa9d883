/-! checks of methods 0 to 15 -/
set_option maxRecDepth 100000 in
theorem zk_m0 : zokM 0 zg_m0 := zokOf (by decide +kernel) zs_SX9 (by decide +kernel)
set_option maxRecDepth 100000 in
theorem zk_m1 : zokM 1 zg_m1 := zokOf (by decide +kernel) zs_SX9 (by decide +kernel)
set_option maxRecDepth 100000 in
theorem zk_m2 : zokM 2 zg_m2 := zokOf (by decide +kernel) zs_SX9 (by decide +kernel)
set_option maxRecDepth 100000 in
theorem zk_m3 : zokM 3 zg_m3 := zokOf (by decide +kernel) zs_SX9 (by decide +kernel)
set_option maxRecDepth 100000 in
theorem zk_m4 : zokM 4 zg_m4 := zokOf (by decide +kernel) zs_SX9 (by decide +kernel)
set_option maxRecDepth 100000 in
theorem zk_m5 : zokM 5 zg_m5 := zokOf (by decide +kernel) zs_SX9 (by decide +kernel)
set_option maxRecDepth 100000 in
theorem zk_m6 : zokM 6 zg_m6 := zokOf (by decide +kernel) zs_SX9 (by decide +kernel)
set_option maxRecDepth 100000 in
theorem zk_m7 : zokM 7 zg_m7 := zokOf (by decide +kernel) zs_SX9 (by decide +kernel)
set_option maxRecDepth 100000 in
theorem zk_m8 : zokM 8 zg_m8 := zokOf (by decide +kernel) zs_SX9 (by decide +kernel)
set_option maxRecDepth 100000 in
theorem zk_m9 : zokM 9 zg_m9 := zokOf (by decide +kernel) zs_SX9 (by decide +kernel)
set_option maxRecDepth 100000 in
theorem zk_m10 : zokM 10 zg_m10 := zokOf (by decide +kernel) zs_SX9 (by decide +kernel)
set_option maxRecDepth 100000 in
theorem zk_m11 : zokM 11 zg_m11 := zokOf (by decide +kernel) zs_SX9 (by decide +kernel)
set_option maxRecDepth 100000 in
theorem zk_m12 : zokM 12 zg_m12 := zokOf (by decide +kernel) zs_SX9 (by decide +kernel)
set_option maxRecDepth 100000 in
theorem zk_m13 : zokM 13 zg_m13 := zokOf (by decide +kernel) zs_SX9 (by decide +kernel)
set_option maxRecDepth 100000 in
theorem zk_m14 : zokM 14 zg_m14 := zokOf (by decide +kernel) zs_SX9 (by decide +kernel)
set_option maxRecDepth 100000 in
theorem zk_m15 : zokM 15 zg_m15 := zokOf (by decide +kernel) zs_SX9 (by decide +kernel)
theorem zk_g0 (i : Nat) (t : zM) (h : (zg_g0)[i]? = some t) : zokM (0 + i) t := by
  unfold zg_g0 at h
  match i, h with
  | 0, h => cases h; exact zk_m0
  | 1, h => cases h; exact zk_m1
  | 2, h => cases h; exact zk_m2
  | 3, h => cases h; exact zk_m3
  | 4, h => cases h; exact zk_m4
  | 5, h => cases h; exact zk_m5
  | 6, h => cases h; exact zk_m6
  | 7, h => cases h; exact zk_m7
  | 8, h => cases h; exact zk_m8
  | 9, h => cases h; exact zk_m9
  | 10, h => cases h; exact zk_m10
  | 11, h => cases h; exact zk_m11
  | 12, h => cases h; exact zk_m12
  | 13, h => cases h; exact zk_m13
  | 14, h => cases h; exact zk_m14
  | 15, h => cases h; exact zk_m15
  | i + 16, h => cases h
