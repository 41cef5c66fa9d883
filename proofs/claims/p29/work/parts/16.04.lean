/-! checks of methods 64 to 79 -/
set_option maxRecDepth 100000 in
theorem zk_m64 : zokM 64 zg_m64 := zokOf (by decide +kernel) zs_SX1 (by decide +kernel)
set_option maxRecDepth 100000 in
theorem zk_m65 : zokM 65 zg_m65 := zokOf (by decide +kernel) zs_SX1 (by decide +kernel)
set_option maxRecDepth 100000 in
theorem zk_m66 : zokM 66 zg_m66 := zokOf (by decide +kernel) zs_SX1 (by decide +kernel)
set_option maxRecDepth 100000 in
theorem zk_m67 : zokM 67 zg_m67 := zokOf (by decide +kernel) zs_SX1 (by decide +kernel)
set_option maxRecDepth 100000 in
theorem zk_m68 : zokM 68 zg_m68 := zokOf (by decide +kernel) zs_SX1 (by decide +kernel)
set_option maxRecDepth 100000 in
theorem zk_m69 : zokM 69 zg_m69 := zokOf (by decide +kernel) zs_SX1 (by decide +kernel)
set_option maxRecDepth 100000 in
theorem zk_m70 : zokM 70 zg_m70 := zokOf (by decide +kernel) zs_SX2 (by decide +kernel)
set_option maxRecDepth 100000 in
theorem zk_m71 : zokM 71 zg_m71 := zokOf (by decide +kernel) zs_SX2 (by decide +kernel)
set_option maxRecDepth 100000 in
theorem zk_m72 : zokM 72 zg_m72 := zokOf (by decide +kernel) zs_SX2 (by decide +kernel)
set_option maxRecDepth 100000 in
theorem zk_m73 : zokM 73 zg_m73 := zokOf (by decide +kernel) zs_SX2 (by decide +kernel)
set_option maxRecDepth 100000 in
theorem zk_m74 : zokM 74 zg_m74 := zokOf (by decide +kernel) zs_SX2 (by decide +kernel)
set_option maxRecDepth 100000 in
theorem zk_m75 : zokM 75 zg_m75 := zokOf (by decide +kernel) zs_SX2 (by decide +kernel)
set_option maxRecDepth 100000 in
theorem zk_m76 : zokM 76 zg_m76 := zokOf (by decide +kernel) zs_SX2 (by decide +kernel)
set_option maxRecDepth 100000 in
theorem zk_m77 : zokM 77 zg_m77 := zokOf (by decide +kernel) zs_SX2 (by decide +kernel)
set_option maxRecDepth 100000 in
theorem zk_m78 : zokM 78 zg_m78 := zokOf (by decide +kernel) zs_SX2 (by decide +kernel)
set_option maxRecDepth 100000 in
theorem zk_m79 : zokM 79 zg_m79 := zokOf (by decide +kernel) zs_SX3 (by decide +kernel)
theorem zk_g4 (i : Nat) (t : zM) (h : (zg_g4)[i]? = some t) : zokM (64 + i) t := by
  unfold zg_g4 at h
  match i, h with
  | 0, h => cases h; exact zk_m64
  | 1, h => cases h; exact zk_m65
  | 2, h => cases h; exact zk_m66
  | 3, h => cases h; exact zk_m67
  | 4, h => cases h; exact zk_m68
  | 5, h => cases h; exact zk_m69
  | 6, h => cases h; exact zk_m70
  | 7, h => cases h; exact zk_m71
  | 8, h => cases h; exact zk_m72
  | 9, h => cases h; exact zk_m73
  | 10, h => cases h; exact zk_m74
  | 11, h => cases h; exact zk_m75
  | 12, h => cases h; exact zk_m76
  | 13, h => cases h; exact zk_m77
  | 14, h => cases h; exact zk_m78
  | 15, h => cases h; exact zk_m79
  | i + 16, h => cases h
