/-! checks of methods 96 to 111 -/
set_option maxRecDepth 100000 in
theorem zk_m96 : zokM 96 zg_m96 := zokOf (by decide +kernel) zs_SX4 (by decide +kernel)
set_option maxRecDepth 100000 in
theorem zk_m97 : zokM 97 zg_m97 := zokOf (by decide +kernel) zs_SX4 (by decide +kernel)
set_option maxRecDepth 100000 in
theorem zk_m98 : zokM 98 zg_m98 := zokOf (by decide +kernel) zs_SX4 (by decide +kernel)
set_option maxRecDepth 100000 in
theorem zk_m99 : zokM 99 zg_m99 := zokOf (by decide +kernel) zs_SX4 (by decide +kernel)
set_option maxRecDepth 100000 in
theorem zk_m100 : zokM 100 zg_m100 := zokOf (by decide +kernel) zs_SX4 (by decide +kernel)
set_option maxRecDepth 100000 in
theorem zk_m101 : zokM 101 zg_m101 := zokOf (by decide +kernel) zs_SX5 (by decide +kernel)
set_option maxRecDepth 100000 in
theorem zk_m102 : zokM 102 zg_m102 := zokOf (by decide +kernel) zs_SX5 (by decide +kernel)
set_option maxRecDepth 100000 in
theorem zk_m103 : zokM 103 zg_m103 := zokOf (by decide +kernel) zs_SX6 (by decide +kernel)
set_option maxRecDepth 100000 in
theorem zk_m104 : zokM 104 zg_m104 := zokOf (by decide +kernel) zs_SX6 (by decide +kernel)
set_option maxRecDepth 100000 in
theorem zk_m105 : zokM 105 zg_m105 := zokOf (by decide +kernel) zs_SX6 (by decide +kernel)
set_option maxRecDepth 100000 in
theorem zk_m106 : zokM 106 zg_m106 := zokOf (by decide +kernel) zs_SX6 (by decide +kernel)
set_option maxRecDepth 100000 in
theorem zk_m107 : zokM 107 zg_m107 := zokOf (by decide +kernel) zs_SX6 (by decide +kernel)
set_option maxRecDepth 100000 in
theorem zk_m108 : zokM 108 zg_m108 := zokOf (by decide +kernel) zs_SX6 (by decide +kernel)
set_option maxRecDepth 100000 in
theorem zk_m109 : zokM 109 zg_m109 := zokOf (by decide +kernel) zs_SX6 (by decide +kernel)
set_option maxRecDepth 100000 in
theorem zk_m110 : zokM 110 zg_m110 := zokOf (by decide +kernel) zs_SX6 (by decide +kernel)
set_option maxRecDepth 100000 in
theorem zk_m111 : zokM 111 zg_m111 := zokOf (by decide +kernel) zs_SX6 (by decide +kernel)
theorem zk_g6 (i : Nat) (t : zM) (h : (zg_g6)[i]? = some t) : zokM (96 + i) t := by
  unfold zg_g6 at h
  match i, h with
  | 0, h => cases h; exact zk_m96
  | 1, h => cases h; exact zk_m97
  | 2, h => cases h; exact zk_m98
  | 3, h => cases h; exact zk_m99
  | 4, h => cases h; exact zk_m100
  | 5, h => cases h; exact zk_m101
  | 6, h => cases h; exact zk_m102
  | 7, h => cases h; exact zk_m103
  | 8, h => cases h; exact zk_m104
  | 9, h => cases h; exact zk_m105
  | 10, h => cases h; exact zk_m106
  | 11, h => cases h; exact zk_m107
  | 12, h => cases h; exact zk_m108
  | 13, h => cases h; exact zk_m109
  | 14, h => cases h; exact zk_m110
  | 15, h => cases h; exact zk_m111
  | i + 16, h => cases h
