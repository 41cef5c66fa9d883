/-! checks of methods 176 to 183 -/
set_option maxRecDepth 100000 in
theorem xk_m176 : xg_okM 176 xg_m176 := xg_okOf (by decide +kernel) xs_SJx4a65c (by decide +kernel) trivial
set_option maxRecDepth 100000 in
theorem xk_m177 : xg_okM 177 xg_m177 := xg_okOf (by decide +kernel) xs_SJx35411 (by decide +kernel) trivial
set_option maxRecDepth 100000 in
theorem xk_m178 : xg_okM 178 xg_m178 := xg_okOf (by decide +kernel) xs_SJx35411 (by decide +kernel) trivial
set_option maxRecDepth 100000 in
theorem xk_m179 : xg_okM 179 xg_m179 := xg_okOf (by decide +kernel) xs_SJx35411 (by decide +kernel) trivial
set_option maxRecDepth 100000 in
theorem xk_m180 : xg_okM 180 xg_m180 := xg_okOf (by decide +kernel) xs_SJx35411 (by decide +kernel) trivial
set_option maxRecDepth 100000 in
theorem xk_m181 : xg_okM 181 xg_m181 := xg_okOf (by decide +kernel) xs_SJ15 (by decide +kernel) trivial
set_option maxRecDepth 100000 in
theorem xk_m182 : xg_okM 182 xg_m182 := xg_okOf (sites := []) (by decide +kernel) (fun _ h => nomatch h) (by decide +kernel) trivial
theorem xe_allCut {α : Type} {l : List α} {p : α → Bool} (n : Nat) (h1 : (l.take n).all p = true) (h2 : (l.drop n).all p = true) : l.all p = true := by
  rw [← List.take_append_drop n l, List.all_append, h1, h2]; rfl
theorem xk_r183 : xg_c183.all (xe_rowB 183 (xg_CC 183) (xg_ML 183) (xq_ini 183) xg_x183 xg_c183 xg_w183) = true := by
  have q1120 : (xg_c183.drop 1120).all (xe_rowB 183 (xg_CC 183) (xg_ML 183) (xq_ini 183) xg_x183 xg_c183 xg_w183) = true := by rw [List.drop_eq_nil_of_le (by decide +kernel)]; rfl
  have q1080 : (xg_c183.drop 1080).all (xe_rowB 183 (xg_CC 183) (xg_ML 183) (xq_ini 183) xg_x183 xg_c183 xg_w183) = true := xe_allCut 40 xk_r183_1080 (by rw [List.drop_drop]; exact q1120)
  have q1040 : (xg_c183.drop 1040).all (xe_rowB 183 (xg_CC 183) (xg_ML 183) (xq_ini 183) xg_x183 xg_c183 xg_w183) = true := xe_allCut 40 xk_r183_1040 (by rw [List.drop_drop]; exact q1080)
  have q1000 : (xg_c183.drop 1000).all (xe_rowB 183 (xg_CC 183) (xg_ML 183) (xq_ini 183) xg_x183 xg_c183 xg_w183) = true := xe_allCut 40 xk_r183_1000 (by rw [List.drop_drop]; exact q1040)
  have q960 : (xg_c183.drop 960).all (xe_rowB 183 (xg_CC 183) (xg_ML 183) (xq_ini 183) xg_x183 xg_c183 xg_w183) = true := xe_allCut 40 xk_r183_960 (by rw [List.drop_drop]; exact q1000)
  have q920 : (xg_c183.drop 920).all (xe_rowB 183 (xg_CC 183) (xg_ML 183) (xq_ini 183) xg_x183 xg_c183 xg_w183) = true := xe_allCut 40 xk_r183_920 (by rw [List.drop_drop]; exact q960)
  have q880 : (xg_c183.drop 880).all (xe_rowB 183 (xg_CC 183) (xg_ML 183) (xq_ini 183) xg_x183 xg_c183 xg_w183) = true := xe_allCut 40 xk_r183_880 (by rw [List.drop_drop]; exact q920)
  have q840 : (xg_c183.drop 840).all (xe_rowB 183 (xg_CC 183) (xg_ML 183) (xq_ini 183) xg_x183 xg_c183 xg_w183) = true := xe_allCut 40 xk_r183_840 (by rw [List.drop_drop]; exact q880)
  have q800 : (xg_c183.drop 800).all (xe_rowB 183 (xg_CC 183) (xg_ML 183) (xq_ini 183) xg_x183 xg_c183 xg_w183) = true := xe_allCut 40 xk_r183_800 (by rw [List.drop_drop]; exact q840)
  have q760 : (xg_c183.drop 760).all (xe_rowB 183 (xg_CC 183) (xg_ML 183) (xq_ini 183) xg_x183 xg_c183 xg_w183) = true := xe_allCut 40 xk_r183_760 (by rw [List.drop_drop]; exact q800)
  have q720 : (xg_c183.drop 720).all (xe_rowB 183 (xg_CC 183) (xg_ML 183) (xq_ini 183) xg_x183 xg_c183 xg_w183) = true := xe_allCut 40 xk_r183_720 (by rw [List.drop_drop]; exact q760)
  have q680 : (xg_c183.drop 680).all (xe_rowB 183 (xg_CC 183) (xg_ML 183) (xq_ini 183) xg_x183 xg_c183 xg_w183) = true := xe_allCut 40 xk_r183_680 (by rw [List.drop_drop]; exact q720)
  have q640 : (xg_c183.drop 640).all (xe_rowB 183 (xg_CC 183) (xg_ML 183) (xq_ini 183) xg_x183 xg_c183 xg_w183) = true := xe_allCut 40 xk_r183_640 (by rw [List.drop_drop]; exact q680)
  have q600 : (xg_c183.drop 600).all (xe_rowB 183 (xg_CC 183) (xg_ML 183) (xq_ini 183) xg_x183 xg_c183 xg_w183) = true := xe_allCut 40 xk_r183_600 (by rw [List.drop_drop]; exact q640)
  have q560 : (xg_c183.drop 560).all (xe_rowB 183 (xg_CC 183) (xg_ML 183) (xq_ini 183) xg_x183 xg_c183 xg_w183) = true := xe_allCut 40 xk_r183_560 (by rw [List.drop_drop]; exact q600)
  have q520 : (xg_c183.drop 520).all (xe_rowB 183 (xg_CC 183) (xg_ML 183) (xq_ini 183) xg_x183 xg_c183 xg_w183) = true := xe_allCut 40 xk_r183_520 (by rw [List.drop_drop]; exact q560)
  have q480 : (xg_c183.drop 480).all (xe_rowB 183 (xg_CC 183) (xg_ML 183) (xq_ini 183) xg_x183 xg_c183 xg_w183) = true := xe_allCut 40 xk_r183_480 (by rw [List.drop_drop]; exact q520)
  have q440 : (xg_c183.drop 440).all (xe_rowB 183 (xg_CC 183) (xg_ML 183) (xq_ini 183) xg_x183 xg_c183 xg_w183) = true := xe_allCut 40 xk_r183_440 (by rw [List.drop_drop]; exact q480)
  have q400 : (xg_c183.drop 400).all (xe_rowB 183 (xg_CC 183) (xg_ML 183) (xq_ini 183) xg_x183 xg_c183 xg_w183) = true := xe_allCut 40 xk_r183_400 (by rw [List.drop_drop]; exact q440)
  have q360 : (xg_c183.drop 360).all (xe_rowB 183 (xg_CC 183) (xg_ML 183) (xq_ini 183) xg_x183 xg_c183 xg_w183) = true := xe_allCut 40 xk_r183_360 (by rw [List.drop_drop]; exact q400)
  have q320 : (xg_c183.drop 320).all (xe_rowB 183 (xg_CC 183) (xg_ML 183) (xq_ini 183) xg_x183 xg_c183 xg_w183) = true := xe_allCut 40 xk_r183_320 (by rw [List.drop_drop]; exact q360)
  have q280 : (xg_c183.drop 280).all (xe_rowB 183 (xg_CC 183) (xg_ML 183) (xq_ini 183) xg_x183 xg_c183 xg_w183) = true := xe_allCut 40 xk_r183_280 (by rw [List.drop_drop]; exact q320)
  have q240 : (xg_c183.drop 240).all (xe_rowB 183 (xg_CC 183) (xg_ML 183) (xq_ini 183) xg_x183 xg_c183 xg_w183) = true := xe_allCut 40 xk_r183_240 (by rw [List.drop_drop]; exact q280)
  have q200 : (xg_c183.drop 200).all (xe_rowB 183 (xg_CC 183) (xg_ML 183) (xq_ini 183) xg_x183 xg_c183 xg_w183) = true := xe_allCut 40 xk_r183_200 (by rw [List.drop_drop]; exact q240)
  have q160 : (xg_c183.drop 160).all (xe_rowB 183 (xg_CC 183) (xg_ML 183) (xq_ini 183) xg_x183 xg_c183 xg_w183) = true := xe_allCut 40 xk_r183_160 (by rw [List.drop_drop]; exact q200)
  have q120 : (xg_c183.drop 120).all (xe_rowB 183 (xg_CC 183) (xg_ML 183) (xq_ini 183) xg_x183 xg_c183 xg_w183) = true := xe_allCut 40 xk_r183_120 (by rw [List.drop_drop]; exact q160)
  have q80 : (xg_c183.drop 80).all (xe_rowB 183 (xg_CC 183) (xg_ML 183) (xq_ini 183) xg_x183 xg_c183 xg_w183) = true := xe_allCut 40 xk_r183_80 (by rw [List.drop_drop]; exact q120)
  have q40 : (xg_c183.drop 40).all (xe_rowB 183 (xg_CC 183) (xg_ML 183) (xq_ini 183) xg_x183 xg_c183 xg_w183) = true := xe_allCut 40 xk_r183_40 (by rw [List.drop_drop]; exact q80)
  have q0 : (xg_c183.drop 0).all (xe_rowB 183 (xg_CC 183) (xg_ML 183) (xq_ini 183) xg_x183 xg_c183 xg_w183) = true := xe_allCut 40 xk_r183_0 (by rw [List.drop_drop]; exact q40)
  exact q0
theorem xk_s183 : and (xe_seqB xg_c183) (and (xe_siteB xg_SL xg_c183) (and (Nat.beq (xe_pc xg_c183) 0) (Nat.beq 9 (xg_ML 183)))) = true := by decide +kernel
theorem xk_m183 : xg_okM 183 xg_m183 := xg_okOf (ml := 9) (sites := xg_SL) (by unfold xe_chk; rw [xk_r183, xk_s183]; rfl) xs_SL (by decide +kernel) trivial
theorem xk_g11 (i : Nat) (t : xv_M) (h : ([xg_m176, xg_m177, xg_m178, xg_m179, xg_m180, xg_m181, xg_m182, xg_m183] : List xv_M)[i]? = some t) : xg_okM (176 + i) t := by
  match i, h with
  | 0, h => cases h; exact xk_m176
  | 1, h => cases h; exact xk_m177
  | 2, h => cases h; exact xk_m178
  | 3, h => cases h; exact xk_m179
  | 4, h => cases h; exact xk_m180
  | 5, h => cases h; exact xk_m181
  | 6, h => cases h; exact xk_m182
  | 7, h => cases h; exact xk_m183
  | i + 8, h => cases h
