/-! checks of methods 80 to 95 -/
set_option maxRecDepth 100000 in
theorem zk_m80 : zokM 80 zg_m80 := zokOf (by decide +kernel) zs_SX4 (by decide +kernel)
set_option maxRecDepth 100000 in
theorem zk_m81 : zokM 81 zg_m81 := zokOf (by decide +kernel) zs_SX4 (by decide +kernel)
set_option maxRecDepth 100000 in
theorem zk_m82 : zokM 82 zg_m82 := zokOf (by decide +kernel) zs_SX4 (by decide +kernel)
set_option maxRecDepth 100000 in
theorem zk_m83 : zokM 83 zg_m83 := zokOf (by decide +kernel) zs_SX4 (by decide +kernel)
set_option maxRecDepth 100000 in
theorem zk_m84 : zokM 84 zg_m84 := zokOf (by decide +kernel) zs_SX4 (by decide +kernel)
set_option maxRecDepth 100000 in
theorem zk_m85 : zokM 85 zg_m85 := zokOf (by decide +kernel) zs_SX4 (by decide +kernel)
set_option maxRecDepth 100000 in
theorem zk_m86 : zokM 86 zg_m86 := zokOf (by decide +kernel) zs_SX4 (by decide +kernel)
set_option maxRecDepth 100000 in
theorem zk_m87 : zokM 87 zg_m87 := zokOf (by decide +kernel) zs_SX4 (by decide +kernel)
set_option maxRecDepth 100000 in
theorem zk_m88 : zokM 88 zg_m88 := zokOf (by decide +kernel) zs_SX4 (by decide +kernel)
set_option maxRecDepth 100000 in
theorem zk_m89 : zokM 89 zg_m89 := zokOf (by decide +kernel) zs_SX4 (by decide +kernel)
set_option maxRecDepth 100000 in
theorem zk_m90 : zokM 90 zg_m90 := zokOf (by decide +kernel) zs_SX4 (by decide +kernel)
set_option maxRecDepth 100000 in
theorem zk_m91 : zokM 91 zg_m91 := zokOf (by decide +kernel) zs_SX4 (by decide +kernel)
set_option maxRecDepth 100000 in
theorem zk_m92 : zokM 92 zg_m92 := zokOf (by decide +kernel) zs_SX4 (by decide +kernel)
set_option maxRecDepth 100000 in
theorem zk_m93 : zokM 93 zg_m93 := zokOf (by decide +kernel) zs_SX4 (by decide +kernel)
set_option maxRecDepth 100000 in
theorem zk_m94 : zokM 94 zg_m94 := zokOf (by decide +kernel) zs_SX4 (by decide +kernel)
set_option maxRecDepth 100000 in
theorem zk_m95 : zokM 95 zg_m95 := zokOf (by decide +kernel) zs_SX4 (by decide +kernel)
theorem zk_g5 (i : Nat) (t : zM) (h : (zg_g5)[i]? = some t) : zokM (80 + i) t := by
  unfold zg_g5 at h
  match i, h with
  | 0, h => cases h; exact zk_m80
  | 1, h => cases h; exact zk_m81
  | 2, h => cases h; exact zk_m82
  | 3, h => cases h; exact zk_m83
  | 4, h => cases h; exact zk_m84
  | 5, h => cases h; exact zk_m85
  | 6, h => cases h; exact zk_m86
  | 7, h => cases h; exact zk_m87
  | 8, h => cases h; exact zk_m88
  | 9, h => cases h; exact zk_m89
  | 10, h => cases h; exact zk_m90
  | 11, h => cases h; exact zk_m91
  | 12, h => cases h; exact zk_m92
  | 13, h => cases h; exact zk_m93
  | 14, h => cases h; exact zk_m94
  | 15, h => cases h; exact zk_m95
  | i + 16, h => cases h
