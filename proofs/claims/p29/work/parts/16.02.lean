/-! checks of methods 32 to 47 -/
set_option maxRecDepth 100000 in
theorem zk_m32 : zokM 32 zg_m32 := zokOf (by decide +kernel) zs_SX9 (by decide +kernel)
set_option maxRecDepth 100000 in
theorem zk_m33 : zokM 33 zg_m33 := zokOf (by decide +kernel) zs_SX9 (by decide +kernel)
set_option maxRecDepth 100000 in
theorem zk_m34 : zokM 34 zg_m34 := zokOf (by decide +kernel) zs_SX9 (by decide +kernel)
set_option maxRecDepth 100000 in
theorem zk_m35 : zokM 35 zg_m35 := zokOf (by decide +kernel) zs_SX9 (by decide +kernel)
set_option maxRecDepth 100000 in
theorem zk_m36 : zokM 36 zg_m36 := zokOf (by decide +kernel) zs_SX9 (by decide +kernel)
set_option maxRecDepth 100000 in
theorem zk_m37 : zokM 37 zg_m37 := zokOf (by decide +kernel) zs_SX9 (by decide +kernel)
set_option maxRecDepth 100000 in
theorem zk_m38 : zokM 38 zg_m38 := zokOf (by decide +kernel) zs_SX0 (by decide +kernel)
set_option maxRecDepth 100000 in
theorem zk_m39 : zokM 39 zg_m39 := zokOf (by decide +kernel) zs_SX0 (by decide +kernel)
set_option maxRecDepth 100000 in
theorem zk_m40 : zokM 40 zg_m40 := zokOf (by decide +kernel) zs_SX0 (by decide +kernel)
set_option maxRecDepth 100000 in
theorem zk_m41 : zokM 41 zg_m41 := zokOf (by decide +kernel) zs_SX0 (by decide +kernel)
set_option maxRecDepth 100000 in
theorem zk_m42 : zokM 42 zg_m42 := zokOf (by decide +kernel) zs_SX0 (by decide +kernel)
set_option maxRecDepth 100000 in
theorem zk_m43 : zokM 43 zg_m43 := zokOf (by decide +kernel) zs_SX0 (by decide +kernel)
set_option maxRecDepth 100000 in
theorem zk_m44 : zokM 44 zg_m44 := zokOf (by decide +kernel) zs_SX1 (by decide +kernel)
set_option maxRecDepth 100000 in
theorem zk_m45 : zokM 45 zg_m45 := zokOf (by decide +kernel) zs_SX1 (by decide +kernel)
set_option maxRecDepth 100000 in
theorem zk_m46 : zokM 46 zg_m46 := zokOf (by decide +kernel) zs_SX1 (by decide +kernel)
set_option maxRecDepth 100000 in
theorem zk_m47 : zokM 47 zg_m47 := zokOf (by decide +kernel) zs_SX1 (by decide +kernel)
theorem zk_g2 (i : Nat) (t : zM) (h : (zg_g2)[i]? = some t) : zokM (32 + i) t := by
  unfold zg_g2 at h
  match i, h with
  | 0, h => cases h; exact zk_m32
  | 1, h => cases h; exact zk_m33
  | 2, h => cases h; exact zk_m34
  | 3, h => cases h; exact zk_m35
  | 4, h => cases h; exact zk_m36
  | 5, h => cases h; exact zk_m37
  | 6, h => cases h; exact zk_m38
  | 7, h => cases h; exact zk_m39
  | 8, h => cases h; exact zk_m40
  | 9, h => cases h; exact zk_m41
  | 10, h => cases h; exact zk_m42
  | 11, h => cases h; exact zk_m43
  | 12, h => cases h; exact zk_m44
  | 13, h => cases h; exact zk_m45
  | 14, h => cases h; exact zk_m46
  | 15, h => cases h; exact zk_m47
  | i + 16, h => cases h
