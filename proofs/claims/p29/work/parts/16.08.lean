/-! checks of methods 128 to 143 -/
set_option maxRecDepth 100000 in
theorem zk_m128 : zokM 128 zg_m128 := zokOf (by decide +kernel) zs_SX6 (by decide +kernel)
set_option maxRecDepth 100000 in
theorem zk_m129 : zokM 129 zg_m129 := zokOf (by decide +kernel) zs_SX6 (by decide +kernel)
set_option maxRecDepth 100000 in
theorem zk_m130 : zokM 130 zg_m130 := zokOf (by decide +kernel) zs_SX6 (by decide +kernel)
set_option maxRecDepth 100000 in
theorem zk_m131 : zokM 131 zg_m131 := zokOf (by decide +kernel) zs_SX6 (by decide +kernel)
set_option maxRecDepth 100000 in
theorem zk_m132 : zokM 132 zg_m132 := zokOf (by decide +kernel) zs_SX6 (by decide +kernel)
set_option maxRecDepth 100000 in
theorem zk_m133 : zokM 133 zg_m133 := zokOf (by decide +kernel) zs_SX6 (by decide +kernel)
set_option maxRecDepth 100000 in
theorem zk_m134 : zokM 134 zg_m134 := zokOf (by decide +kernel) zs_SX6 (by decide +kernel)
set_option maxRecDepth 100000 in
theorem zk_m135 : zokM 135 zg_m135 := zokOf (by decide +kernel) zs_SX6 (by decide +kernel)
set_option maxRecDepth 100000 in
theorem zk_m136 : zokM 136 zg_m136 := zokOf (by decide +kernel) zs_SX6 (by decide +kernel)
set_option maxRecDepth 100000 in
theorem zk_m137 : zokM 137 zg_m137 := zokOf (by decide +kernel) zs_SX6 (by decide +kernel)
set_option maxRecDepth 100000 in
theorem zk_m138 : zokM 138 zg_m138 := zokOf (by decide +kernel) zs_SX6 (by decide +kernel)
set_option maxRecDepth 100000 in
theorem zk_m139 : zokM 139 zg_m139 := zokOf (by decide +kernel) zs_SX7 (by decide +kernel)
set_option maxRecDepth 100000 in
theorem zk_m140 : zokM 140 zg_m140 := zokOf (by decide +kernel) zs_SX7 (by decide +kernel)
set_option maxRecDepth 100000 in
theorem zk_m141 : zokM 141 zg_m141 := zokOf (by decide +kernel) zs_SX7 (by decide +kernel)
set_option maxRecDepth 100000 in
theorem zk_m142 : zokM 142 zg_m142 := zokOf (by decide +kernel) zs_SX8 (by decide +kernel)
set_option maxRecDepth 100000 in
theorem zk_m143 : zokM 143 zg_m143 := zokOf (by decide +kernel) zs_SX8 (by decide +kernel)
theorem zk_g8 (i : Nat) (t : zM) (h : (zg_g8)[i]? = some t) : zokM (128 + i) t := by
  unfold zg_g8 at h
  match i, h with
  | 0, h => cases h; exact zk_m128
  | 1, h => cases h; exact zk_m129
  | 2, h => cases h; exact zk_m130
  | 3, h => cases h; exact zk_m131
  | 4, h => cases h; exact zk_m132
  | 5, h => cases h; exact zk_m133
  | 6, h => cases h; exact zk_m134
  | 7, h => cases h; exact zk_m135
  | 8, h => cases h; exact zk_m136
  | 9, h => cases h; exact zk_m137
  | 10, h => cases h; exact zk_m138
  | 11, h => cases h; exact zk_m139
  | 12, h => cases h; exact zk_m140
  | 13, h => cases h; exact zk_m141
  | 14, h => cases h; exact zk_m142
  | 15, h => cases h; exact zk_m143
  | i + 16, h => cases h
