/-! checks of methods 112 to 127 -/
set_option maxRecDepth 100000 in
theorem zk_m112 : zokM 112 zg_m112 := zokOf (by decide +kernel) zs_SX6 (by decide +kernel)
set_option maxRecDepth 100000 in
theorem zk_m113 : zokM 113 zg_m113 := zokOf (by decide +kernel) zs_SX6 (by decide +kernel)
set_option maxRecDepth 100000 in
theorem zk_m114 : zokM 114 zg_m114 := zokOf (by decide +kernel) zs_SX6 (by decide +kernel)
set_option maxRecDepth 100000 in
theorem zk_m115 : zokM 115 zg_m115 := zokOf (by decide +kernel) zs_SX6 (by decide +kernel)
set_option maxRecDepth 100000 in
theorem zk_m116 : zokM 116 zg_m116 := zokOf (by decide +kernel) zs_SX6 (by decide +kernel)
set_option maxRecDepth 100000 in
theorem zk_m117 : zokM 117 zg_m117 := zokOf (by decide +kernel) zs_SX6 (by decide +kernel)
set_option maxRecDepth 100000 in
theorem zk_m118 : zokM 118 zg_m118 := zokOf (by decide +kernel) zs_SX6 (by decide +kernel)
set_option maxRecDepth 100000 in
theorem zk_m119 : zokM 119 zg_m119 := zokOf (by decide +kernel) zs_SX6 (by decide +kernel)
set_option maxRecDepth 100000 in
theorem zk_m120 : zokM 120 zg_m120 := zokOf (by decide +kernel) zs_SX6 (by decide +kernel)
set_option maxRecDepth 100000 in
theorem zk_m121 : zokM 121 zg_m121 := zokOf (by decide +kernel) zs_SX6 (by decide +kernel)
set_option maxRecDepth 100000 in
theorem zk_m122 : zokM 122 zg_m122 := zokOf (by decide +kernel) zs_SX6 (by decide +kernel)
set_option maxRecDepth 100000 in
theorem zk_m123 : zokM 123 zg_m123 := zokOf (by decide +kernel) zs_SX6 (by decide +kernel)
set_option maxRecDepth 100000 in
theorem zk_m124 : zokM 124 zg_m124 := zokOf (by decide +kernel) zs_SX6 (by decide +kernel)
set_option maxRecDepth 100000 in
theorem zk_m125 : zokM 125 zg_m125 := zokOf (by decide +kernel) zs_SX6 (by decide +kernel)
set_option maxRecDepth 100000 in
theorem zk_m126 : zokM 126 zg_m126 := zokOf (by decide +kernel) zs_SX6 (by decide +kernel)
set_option maxRecDepth 100000 in
theorem zk_m127 : zokM 127 zg_m127 := zokOf (by decide +kernel) zs_SX6 (by decide +kernel)
theorem zk_g7 (i : Nat) (t : zM) (h : (zg_g7)[i]? = some t) : zokM (112 + i) t := by
  unfold zg_g7 at h
  match i, h with
  | 0, h => cases h; exact zk_m112
  | 1, h => cases h; exact zk_m113
  | 2, h => cases h; exact zk_m114
  | 3, h => cases h; exact zk_m115
  | 4, h => cases h; exact zk_m116
  | 5, h => cases h; exact zk_m117
  | 6, h => cases h; exact zk_m118
  | 7, h => cases h; exact zk_m119
  | 8, h => cases h; exact zk_m120
  | 9, h => cases h; exact zk_m121
  | 10, h => cases h; exact zk_m122
  | 11, h => cases h; exact zk_m123
  | 12, h => cases h; exact zk_m124
  | 13, h => cases h; exact zk_m125
  | 14, h => cases h; exact zk_m126
  | 15, h => cases h; exact zk_m127
  | i + 16, h => cases h
