/-! checks of methods 160 to 175 -/
set_option maxRecDepth 100000 in
theorem xk_m160 : xg_okM 160 xg_m160 := xg_okOf (by decide +kernel) xs_SX14 (by decide +kernel) trivial
set_option maxRecDepth 100000 in
theorem xk_m161 : xg_okM 161 xg_m161 := xg_okOf (by decide +kernel) xs_SX14 (by decide +kernel) trivial
set_option maxRecDepth 100000 in
theorem xk_m162 : xg_okM 162 xg_m162 := xg_okOf (by decide +kernel) xs_SX14 (by decide +kernel) trivial
set_option maxRecDepth 100000 in
theorem xk_m163 : xg_okM 163 xg_m163 := xg_okOf (by decide +kernel) xs_SX14 (by decide +kernel) trivial
set_option maxRecDepth 100000 in
theorem xk_m164 : xg_okM 164 xg_m164 := xg_okOf (by decide +kernel) xs_SX14 (by decide +kernel) trivial
set_option maxRecDepth 100000 in
theorem xk_m165 : xg_okM 165 xg_m165 := xg_okOf (by decide +kernel) xs_SJxa1e45 (by decide +kernel) trivial
set_option maxRecDepth 100000 in
theorem xk_m166 : xg_okM 166 xg_m166 := xg_okOf (by decide +kernel) xs_SJxc12de (by decide +kernel) trivial
set_option maxRecDepth 100000 in
theorem xk_m167 : xg_okM 167 xg_m167 := xg_okOf (by decide +kernel) xs_SJx4a65c (by decide +kernel) trivial
set_option maxRecDepth 100000 in
theorem xk_m168 : xg_okM 168 xg_m168 := xg_okOf (by decide +kernel) xs_SJx4a65c (by decide +kernel) trivial
set_option maxRecDepth 100000 in
theorem xk_m169 : xg_okM 169 xg_m169 := xg_okOf (by decide +kernel) xs_SJx4a65c (by decide +kernel) trivial
set_option maxRecDepth 100000 in
theorem xk_m170 : xg_okM 170 xg_m170 := xg_okOf (by decide +kernel) xs_SJx4a65c (by decide +kernel) trivial
set_option maxRecDepth 100000 in
theorem xk_m171 : xg_okM 171 xg_m171 := xg_okOf (by decide +kernel) xs_SJx4a65c (by decide +kernel) trivial
set_option maxRecDepth 100000 in
theorem xk_m172 : xg_okM 172 xg_m172 := xg_okOf (by decide +kernel) xs_SJx4a65c (by decide +kernel) trivial
set_option maxRecDepth 100000 in
theorem xk_m173 : xg_okM 173 xg_m173 := xg_okOf (by decide +kernel) xs_SJx4a65c (by decide +kernel) trivial
set_option maxRecDepth 100000 in
theorem xk_m174 : xg_okM 174 xg_m174 := xg_okOf (by decide +kernel) xs_SJx4a65c (by decide +kernel) trivial
set_option maxRecDepth 100000 in
theorem xk_m175 : xg_okM 175 xg_m175 := xg_okOf (by decide +kernel) xs_SJx4a65c (by decide +kernel) trivial
theorem xk_g10 (i : Nat) (t : xv_M) (h : ([xg_m160, xg_m161, xg_m162, xg_m163, xg_m164, xg_m165, xg_m166, xg_m167, xg_m168, xg_m169, xg_m170, xg_m171, xg_m172, xg_m173, xg_m174, xg_m175] : List xv_M)[i]? = some t) : xg_okM (160 + i) t := by
  match i, h with
  | 0, h => cases h; exact xk_m160
  | 1, h => cases h; exact xk_m161
  | 2, h => cases h; exact xk_m162
  | 3, h => cases h; exact xk_m163
  | 4, h => cases h; exact xk_m164
  | 5, h => cases h; exact xk_m165
  | 6, h => cases h; exact xk_m166
  | 7, h => cases h; exact xk_m167
  | 8, h => cases h; exact xk_m168
  | 9, h => cases h; exact xk_m169
  | 10, h => cases h; exact xk_m170
  | 11, h => cases h; exact xk_m171
  | 12, h => cases h; exact xk_m172
  | 13, h => cases h; exact xk_m173
  | 14, h => cases h; exact xk_m174
  | 15, h => cases h; exact xk_m175
  | i + 16, h => cases h
