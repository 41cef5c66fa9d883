/-! checks of methods 160 to 171 -/
set_option maxRecDepth 100000 in
theorem zk_m160 : zokM 160 zg_m160 := zokOf (by decide +kernel) zs_SL (by decide +kernel)
set_option maxRecDepth 100000 in
theorem zk_m161 : zokM 161 zg_m161 := zokOf (by decide +kernel) zs_SL (by decide +kernel)
set_option maxRecDepth 100000 in
theorem zk_m162 : zokM 162 zg_m162 := zokOf (by decide +kernel) zs_SX10 (by decide +kernel)
set_option maxRecDepth 100000 in
theorem zk_m163 : zokM 163 zg_m163 := zokOf (by decide +kernel) zs_SX10 (by decide +kernel)
set_option maxRecDepth 100000 in
theorem zk_m164 : zokM 164 zg_m164 := zokOf (by decide +kernel) zs_SX10 (by decide +kernel)
set_option maxRecDepth 100000 in
theorem zk_m165 : zokM 165 zg_m165 := zokOf (by decide +kernel) zs_SX10 (by decide +kernel)
set_option maxRecDepth 100000 in
theorem zk_m166 : zokM 166 zg_m166 := zokOf (by decide +kernel) zs_SX10 (by decide +kernel)
set_option maxRecDepth 100000 in
theorem zk_m167 : zokM 167 zg_m167 := zokOf (by decide +kernel) zs_SX10 (by decide +kernel)
set_option maxRecDepth 100000 in
theorem zk_m168 : zokM 168 zg_m168 := zokOf (by decide +kernel) zs_SX10 (by decide +kernel)
set_option maxRecDepth 100000 in
theorem zk_m169 : zokM 169 zg_m169 := zokOf (by decide +kernel) zs_SJ7 (by decide +kernel)
set_option maxRecDepth 100000 in
theorem zk_m170 : zokM 170 zg_m170 := zokOf (by decide +kernel) zs_SJ7 (by decide +kernel)
set_option maxRecDepth 100000 in
theorem zk_m171 : zokM 171 zg_m171 := zokOf (by decide +kernel) zs_SL (by decide +kernel)
theorem zk_g10 (i : Nat) (t : zM) (h : (zg_g10)[i]? = some t) : zokM (160 + i) t := by
  unfold zg_g10 at h
  match i, h with
  | 0, h => cases h; exact zk_m160
  | 1, h => cases h; exact zk_m161
  | 2, h => cases h; exact zk_m162
  | 3, h => cases h; exact zk_m163
  | 4, h => cases h; exact zk_m164
  | 5, h => cases h; exact zk_m165
  | 6, h => cases h; exact zk_m166
  | 7, h => cases h; exact zk_m167
  | 8, h => cases h; exact zk_m168
  | 9, h => cases h; exact zk_m169
  | 10, h => cases h; exact zk_m170
  | 11, h => cases h; exact zk_m171
  | i + 12, h => cases h
