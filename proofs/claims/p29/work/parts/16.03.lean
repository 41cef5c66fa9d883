/-! checks of methods 48 to 63 -/
set_option maxRecDepth 100000 in
theorem zk_m48 : zokM 48 zg_m48 := zokOf (by decide +kernel) zs_SX1 (by decide +kernel)
set_option maxRecDepth 100000 in
theorem zk_m49 : zokM 49 zg_m49 := zokOf (by decide +kernel) zs_SX1 (by decide +kernel)
set_option maxRecDepth 100000 in
theorem zk_m50 : zokM 50 zg_m50 := zokOf (by decide +kernel) zs_SX1 (by decide +kernel)
set_option maxRecDepth 100000 in
theorem zk_m51 : zokM 51 zg_m51 := zokOf (by decide +kernel) zs_SX1 (by decide +kernel)
set_option maxRecDepth 100000 in
theorem zk_m52 : zokM 52 zg_m52 := zokOf (by decide +kernel) zs_SX1 (by decide +kernel)
set_option maxRecDepth 100000 in
theorem zk_m53 : zokM 53 zg_m53 := zokOf (by decide +kernel) zs_SX1 (by decide +kernel)
set_option maxRecDepth 100000 in
theorem zk_m54 : zokM 54 zg_m54 := zokOf (by decide +kernel) zs_SX1 (by decide +kernel)
set_option maxRecDepth 100000 in
theorem zk_m55 : zokM 55 zg_m55 := zokOf (by decide +kernel) zs_SX1 (by decide +kernel)
set_option maxRecDepth 100000 in
theorem zk_m56 : zokM 56 zg_m56 := zokOf (by decide +kernel) zs_SX1 (by decide +kernel)
set_option maxRecDepth 100000 in
theorem zk_m57 : zokM 57 zg_m57 := zokOf (by decide +kernel) zs_SX1 (by decide +kernel)
set_option maxRecDepth 100000 in
theorem zk_m58 : zokM 58 zg_m58 := zokOf (by decide +kernel) zs_SX1 (by decide +kernel)
set_option maxRecDepth 100000 in
theorem zk_m59 : zokM 59 zg_m59 := zokOf (by decide +kernel) zs_SX1 (by decide +kernel)
set_option maxRecDepth 100000 in
theorem zk_m60 : zokM 60 zg_m60 := zokOf (by decide +kernel) zs_SX1 (by decide +kernel)
set_option maxRecDepth 100000 in
theorem zk_m61 : zokM 61 zg_m61 := zokOf (by decide +kernel) zs_SX1 (by decide +kernel)
set_option maxRecDepth 100000 in
theorem zk_m62 : zokM 62 zg_m62 := zokOf (by decide +kernel) zs_SX1 (by decide +kernel)
set_option maxRecDepth 100000 in
theorem zk_m63 : zokM 63 zg_m63 := zokOf (by decide +kernel) zs_SX1 (by decide +kernel)
theorem zk_g3 (i : Nat) (t : zM) (h : (zg_g3)[i]? = some t) : zokM (48 + i) t := by
  unfold zg_g3 at h
  match i, h with
  | 0, h => cases h; exact zk_m48
  | 1, h => cases h; exact zk_m49
  | 2, h => cases h; exact zk_m50
  | 3, h => cases h; exact zk_m51
  | 4, h => cases h; exact zk_m52
  | 5, h => cases h; exact zk_m53
  | 6, h => cases h; exact zk_m54
  | 7, h => cases h; exact zk_m55
  | 8, h => cases h; exact zk_m56
  | 9, h => cases h; exact zk_m57
  | 10, h => cases h; exact zk_m58
  | 11, h => cases h; exact zk_m59
  | 12, h => cases h; exact zk_m60
  | 13, h => cases h; exact zk_m61
  | 14, h => cases h; exact zk_m62
  | 15, h => cases h; exact zk_m63
  | i + 16, h => cases h
