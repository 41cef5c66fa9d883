/-! rows of the law -/
set_option maxRecDepth 100000 in
theorem xk_r183_960 : ((xg_c183.drop 960).take 40).all (xe_rowB 183 (xg_CC 183) (xg_ML 183) (xq_ini 183) xg_x183 xg_c183 xg_w183) = true := by decide +kernel
set_option maxRecDepth 100000 in
theorem xk_r183_1000 : ((xg_c183.drop 1000).take 40).all (xe_rowB 183 (xg_CC 183) (xg_ML 183) (xq_ini 183) xg_x183 xg_c183 xg_w183) = true := by decide +kernel
set_option maxRecDepth 100000 in
theorem xk_r183_1040 : ((xg_c183.drop 1040).take 40).all (xe_rowB 183 (xg_CC 183) (xg_ML 183) (xq_ini 183) xg_x183 xg_c183 xg_w183) = true := by decide +kernel
set_option maxRecDepth 100000 in
theorem xk_r183_1080 : ((xg_c183.drop 1080).take 40).all (xe_rowB 183 (xg_CC 183) (xg_ML 183) (xq_ini 183) xg_x183 xg_c183 xg_w183) = true := by decide +kernel
