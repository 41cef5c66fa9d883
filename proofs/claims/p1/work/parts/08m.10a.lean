/-! rows of the law -/
set_option maxRecDepth 100000 in
theorem xk_r183_0 : ((xg_c183.drop 0).take 40).all (xe_rowB 183 (xg_CC 183) (xg_ML 183) (xq_ini 183) xg_x183 xg_c183 xg_w183) = true := by decide +kernel
set_option maxRecDepth 100000 in
theorem xk_r183_40 : ((xg_c183.drop 40).take 40).all (xe_rowB 183 (xg_CC 183) (xg_ML 183) (xq_ini 183) xg_x183 xg_c183 xg_w183) = true := by decide +kernel
set_option maxRecDepth 100000 in
theorem xk_r183_80 : ((xg_c183.drop 80).take 40).all (xe_rowB 183 (xg_CC 183) (xg_ML 183) (xq_ini 183) xg_x183 xg_c183 xg_w183) = true := by decide +kernel
set_option maxRecDepth 100000 in
theorem xk_r183_120 : ((xg_c183.drop 120).take 40).all (xe_rowB 183 (xg_CC 183) (xg_ML 183) (xq_ini 183) xg_x183 xg_c183 xg_w183) = true := by decide +kernel
set_option maxRecDepth 100000 in
theorem xk_r183_160 : ((xg_c183.drop 160).take 40).all (xe_rowB 183 (xg_CC 183) (xg_ML 183) (xq_ini 183) xg_x183 xg_c183 xg_w183) = true := by decide +kernel
set_option maxRecDepth 100000 in
theorem xk_r183_200 : ((xg_c183.drop 200).take 40).all (xe_rowB 183 (xg_CC 183) (xg_ML 183) (xq_ini 183) xg_x183 xg_c183 xg_w183) = true := by decide +kernel
set_option maxRecDepth 100000 in
theorem xk_r183_240 : ((xg_c183.drop 240).take 40).all (xe_rowB 183 (xg_CC 183) (xg_ML 183) (xq_ini 183) xg_x183 xg_c183 xg_w183) = true := by decide +kernel
set_option maxRecDepth 100000 in
theorem xk_r183_280 : ((xg_c183.drop 280).take 40).all (xe_rowB 183 (xg_CC 183) (xg_ML 183) (xq_ini 183) xg_x183 xg_c183 xg_w183) = true := by decide +kernel
