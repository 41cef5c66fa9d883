/-! checks of methods 144 to 159 -/
set_option maxRecDepth 100000 in
theorem zk_m144 : zokM 144 zg_m144 := zokOf (by decide +kernel) zs_SX8 (by decide +kernel)
set_option maxRecDepth 100000 in
theorem zk_m145 : zokM 145 zg_m145 := zokOf (by decide +kernel) zs_SX8 (by decide +kernel)
set_option maxRecDepth 100000 in
theorem zk_m146 : zokM 146 zg_m146 := zokOf (by decide +kernel) zs_SX8 (by decide +kernel)
set_option maxRecDepth 100000 in
theorem zk_m147 : zokM 147 zg_m147 := zokOf (by decide +kernel) zs_SX8 (by decide +kernel)
set_option maxRecDepth 100000 in
theorem zk_m148 : zokM 148 zg_m148 := zokOf (by decide +kernel) zs_SX8 (by decide +kernel)
set_option maxRecDepth 100000 in
theorem zk_m149 : zokM 149 zg_m149 := zokOf (by decide +kernel) zs_SX8 (by decide +kernel)
set_option maxRecDepth 100000 in
theorem zk_m150 : zokM 150 zg_m150 := zokOf (by decide +kernel) zs_SX8 (by decide +kernel)
set_option maxRecDepth 100000 in
theorem zk_m151 : zokM 151 zg_m151 := zokOf (by decide +kernel) zs_SX8 (by decide +kernel)
set_option maxRecDepth 100000 in
theorem zk_m152 : zokM 152 zg_m152 := zokOf (by decide +kernel) zs_SL (by decide +kernel)
set_option maxRecDepth 100000 in
theorem zk_m153 : zokM 153 zg_m153 := zokOf (by decide +kernel) zs_SL (by decide +kernel)
set_option maxRecDepth 100000 in
theorem zk_m154 : zokM 154 zg_m154 := zokOf (by decide +kernel) zs_SL (by decide +kernel)
set_option maxRecDepth 100000 in
theorem zk_m155 : zokM 155 zg_m155 := zokOf (by decide +kernel) zs_SL (by decide +kernel)
set_option maxRecDepth 100000 in
theorem zk_m156 : zokM 156 zg_m156 := zokOf (by decide +kernel) zs_SL (by decide +kernel)
set_option maxRecDepth 100000 in
theorem zk_m157 : zokM 157 zg_m157 := zokOf (by decide +kernel) zs_SL (by decide +kernel)
set_option maxRecDepth 100000 in
theorem zk_m158 : zokM 158 zg_m158 := zokOf (by decide +kernel) zs_SL (by decide +kernel)
set_option maxRecDepth 100000 in
theorem zk_m159 : zokM 159 zg_m159 := zokOf (by decide +kernel) zs_SL (by decide +kernel)
theorem zk_g9 (i : Nat) (t : zM) (h : (zg_g9)[i]? = some t) : zokM (144 + i) t := by
  unfold zg_g9 at h
  match i, h with
  | 0, h => cases h; exact zk_m144
  | 1, h => cases h; exact zk_m145
  | 2, h => cases h; exact zk_m146
  | 3, h => cases h; exact zk_m147
  | 4, h => cases h; exact zk_m148
  | 5, h => cases h; exact zk_m149
  | 6, h => cases h; exact zk_m150
  | 7, h => cases h; exact zk_m151
  | 8, h => cases h; exact zk_m152
  | 9, h => cases h; exact zk_m153
  | 10, h => cases h; exact zk_m154
  | 11, h => cases h; exact zk_m155
  | 12, h => cases h; exact zk_m156
  | 13, h => cases h; exact zk_m157
  | 14, h => cases h; exact zk_m158
  | 15, h => cases h; exact zk_m159
  | i + 16, h => cases h
