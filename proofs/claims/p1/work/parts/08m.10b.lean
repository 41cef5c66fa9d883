/-! rows of the law -/
set_option maxRecDepth 100000 in
theorem xk_r183_320 : ((xg_c183.drop 320).take 40).all (xe_rowB 183 (xg_CC 183) (xg_ML 183) (xq_ini 183) xg_x183 xg_c183 xg_w183) = true := by decide +kernel
set_option maxRecDepth 100000 in
theorem xk_r183_360 : ((xg_c183.drop 360).take 40).all (xe_rowB 183 (xg_CC 183) (xg_ML 183) (xq_ini 183) xg_x183 xg_c183 xg_w183) = true := by decide +kernel
set_option maxRecDepth 100000 in
theorem xk_r183_400 : ((xg_c183.drop 400).take 40).all (xe_rowB 183 (xg_CC 183) (xg_ML 183) (xq_ini 183) xg_x183 xg_c183 xg_w183) = true := by decide +kernel
set_option maxRecDepth 100000 in
theorem xk_r183_440 : ((xg_c183.drop 440).take 40).all (xe_rowB 183 (xg_CC 183) (xg_ML 183) (xq_ini 183) xg_x183 xg_c183 xg_w183) = true := by decide +kernel
set_option maxRecDepth 100000 in
theorem xk_r183_480 : ((xg_c183.drop 480).take 40).all (xe_rowB 183 (xg_CC 183) (xg_ML 183) (xq_ini 183) xg_x183 xg_c183 xg_w183) = true := by decide +kernel
set_option maxRecDepth 100000 in
theorem xk_r183_520 : ((xg_c183.drop 520).take 40).all (xe_rowB 183 (xg_CC 183) (xg_ML 183) (xq_ini 183) xg_x183 xg_c183 xg_w183) = true := by decide +kernel
set_option maxRecDepth 100000 in
theorem xk_r183_560 : ((xg_c183.drop 560).take 40).all (xe_rowB 183 (xg_CC 183) (xg_ML 183) (xq_ini 183) xg_x183 xg_c183 xg_w183) = true := by decide +kernel
set_option maxRecDepth 100000 in
theorem xk_r183_600 : ((xg_c183.drop 600).take 40).all (xe_rowB 183 (xg_CC 183) (xg_ML 183) (xq_ini 183) xg_x183 xg_c183 xg_w183) = true := by decide +kernel
