/-! rows of the law -/
set_option maxRecDepth 100000 in
theorem xk_r183_640 : ((xg_c183.drop 640).take 40).all (xe_rowB 183 (xg_CC 183) (xg_ML 183) (xq_ini 183) xg_x183 xg_c183 xg_w183) = true := by decide +kernel
set_option maxRecDepth 100000 in
theorem xk_r183_680 : ((xg_c183.drop 680).take 40).all (xe_rowB 183 (xg_CC 183) (xg_ML 183) (xq_ini 183) xg_x183 xg_c183 xg_w183) = true := by decide +kernel
set_option maxRecDepth 100000 in
theorem xk_r183_720 : ((xg_c183.drop 720).take 40).all (xe_rowB 183 (xg_CC 183) (xg_ML 183) (xq_ini 183) xg_x183 xg_c183 xg_w183) = true := by decide +kernel
set_option maxRecDepth 100000 in
theorem xk_r183_760 : ((xg_c183.drop 760).take 40).all (xe_rowB 183 (xg_CC 183) (xg_ML 183) (xq_ini 183) xg_x183 xg_c183 xg_w183) = true := by decide +kernel
set_option maxRecDepth 100000 in
theorem xk_r183_800 : ((xg_c183.drop 800).take 40).all (xe_rowB 183 (xg_CC 183) (xg_ML 183) (xq_ini 183) xg_x183 xg_c183 xg_w183) = true := by decide +kernel
set_option maxRecDepth 100000 in
theorem xk_r183_840 : ((xg_c183.drop 840).take 40).all (xe_rowB 183 (xg_CC 183) (xg_ML 183) (xq_ini 183) xg_x183 xg_c183 xg_w183) = true := by decide +kernel
set_option maxRecDepth 100000 in
theorem xk_r183_880 : ((xg_c183.drop 880).take 40).all (xe_rowB 183 (xg_CC 183) (xg_ML 183) (xq_ini 183) xg_x183 xg_c183 xg_w183) = true := by decide +kernel
set_option maxRecDepth 100000 in
theorem xk_r183_920 : ((xg_c183.drop 920).take 40).all (xe_rowB 183 (xg_CC 183) (xg_ML 183) (xq_ini 183) xg_x183 xg_c183 xg_w183) = true := by decide +kernel
