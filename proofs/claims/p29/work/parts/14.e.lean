/-! sites -/
theorem zt_285 : zsite RX4 (38, 0, 0, 0, 122) := ⟨RX0, TX0, 13, "UnwindTower$Code", rfl, zu_0, by decide, zw_t1 175 (by decide +kernel) (by decide +kernel), Or.inl rfl⟩
theorem zt_286 : zsite RX4 (38, 0, 2, 0, 131) := ⟨RX0, TX0, 13, "UnwindTower$Code", rfl, zu_0, by decide, zw_t1 180 (by decide +kernel) (by decide +kernel), Or.inl rfl⟩
theorem zt_287 : zsite RX4 (38, 0, 3, 0, 157) := ⟨RX0, TX0, 13, "UnwindTower$Code", rfl, zu_0, by decide, zw_t1 183 (by decide +kernel) (by decide +kernel), Or.inl rfl⟩
theorem zt_288 : zsite RX4 (38, 0, 4, 0, 160) := ⟨RX0, TX0, 13, "UnwindTower$Code", rfl, zu_0, by decide, zw_t1 186 (by decide +kernel) (by decide +kernel), Or.inl rfl⟩
theorem zt_289 : zsite RX4 (38, 0, 5, 0, 195) := ⟨RX0, TX0, 13, "UnwindTower$Code", rfl, zu_0, by decide, zw_t1 188 (by decide +kernel) (by decide +kernel), Or.inl rfl⟩
theorem zt_290 : zsite RX4 (38, 0, 6, 0, 167) := ⟨RX0, TX0, 13, "UnwindTower$Code", rfl, zu_0, by decide, zw_t1 190 (by decide +kernel) (by decide +kernel), Or.inl rfl⟩
theorem zt_291 : zsite RX4 (38, 0, 7, 0, 145) := ⟨RX0, TX0, 13, "UnwindTower$Code", rfl, zu_0, by decide, zw_t1 192 (by decide +kernel) (by decide +kernel), Or.inl rfl⟩
theorem zt_292 : zsite RX4 (38, 0, 8, 0, 148) := ⟨RX0, TX0, 13, "UnwindTower$Code", rfl, zu_0, by decide, zw_t1 194 (by decide +kernel) (by decide +kernel), Or.inl rfl⟩
theorem zt_293 : zsite RX4 (38, 0, 9, 0, 154) := ⟨RX0, TX0, 13, "UnwindTower$Code", rfl, zu_0, by decide, zw_t1 196 (by decide +kernel) (by decide +kernel), Or.inl rfl⟩
theorem zt_294 : zsite RX4 (38, 0, 11, 0, 240) := ⟨RX0, TX0, 13, "UnwindTower$Code", rfl, zu_0, by decide, zw_t1 199 (by decide +kernel) (by decide +kernel), Or.inl rfl⟩
theorem zt_295 : zsite RX4 (38, 0, 12, 0, 243) := ⟨RX0, TX0, 13, "UnwindTower$Code", rfl, zu_0, by decide, zw_t1 203 (by decide +kernel) (by decide +kernel), Or.inl rfl⟩
theorem zt_296 : zsite RX4 (38, 3, 0, 0, 112) := ⟨RX3, TX3, 6, "UnwindTower$Frame", rfl, zu_3, by decide, zw_t2 144 (by decide +kernel) (by decide +kernel), Or.inl rfl⟩
theorem zt_297 : zsite RX4 (38, 3, 1, 0, 119) := ⟨RX3, TX3, 6, "UnwindTower$Frame", rfl, zu_3, by decide, zw_t2 145 (by decide +kernel) (by decide +kernel), Or.inl rfl⟩
theorem zt_298 : zsite RX4 (38, 3, 2, 0, 220) := ⟨RX3, TX3, 6, "UnwindTower$Frame", rfl, zu_3, by decide, zw_t2 146 (by decide +kernel) (by decide +kernel), Or.inl rfl⟩
theorem zt_299 : zsite RX4 (38, 3, 3, 0, 223) := ⟨RX3, TX3, 6, "UnwindTower$Frame", rfl, zu_3, by decide, zw_t2 147 (by decide +kernel) (by decide +kernel), Or.inl rfl⟩
theorem zt_300 : zsite RX4 (38, 3, 4, 0, 181) := ⟨RX3, TX3, 6, "UnwindTower$Frame", rfl, zu_3, by decide, zw_t2 149 (by decide +kernel) (by decide +kernel), Or.inl rfl⟩
theorem zt_301 : zsite RX4 (38, 3, 5, 0, 174) := ⟨RX3, TX3, 6, "UnwindTower$Frame", rfl, zu_3, by decide, zw_t2 151 (by decide +kernel) (by decide +kernel), Or.inl rfl⟩
theorem zt_302 : zsite RX4 (38, 4, 0, 0, 43) := ⟨RX4, TX4, 18, "UnwindTower$Machine", rfl, zu_4, by decide, zw_t2 165 (by decide +kernel) (by decide +kernel), Or.inl rfl⟩
theorem zt_303 : zsite RX4 (38, 4, 1, 0, 47) := ⟨RX4, TX4, 18, "UnwindTower$Machine", rfl, zu_4, by decide, zw_t2 166 (by decide +kernel) (by decide +kernel), Or.inl rfl⟩
theorem zt_304 : zsite RX4 (38, 4, 2, 0, 51) := ⟨RX4, TX4, 18, "UnwindTower$Machine", rfl, zu_4, by decide, zw_t2 167 (by decide +kernel) (by decide +kernel), Or.inl rfl⟩
theorem zt_305 : zsite RX4 (38, 4, 3, 0, 12) := ⟨RX4, TX4, 18, "UnwindTower$Machine", rfl, zu_4, by decide, zw_t2 168 (by decide +kernel) (by decide +kernel), Or.inl rfl⟩
theorem zt_306 : zsite RX4 (38, 4, 4, 0, 18) := ⟨RX4, TX4, 18, "UnwindTower$Machine", rfl, zu_4, by decide, zw_t2 170 (by decide +kernel) (by decide +kernel), Or.inl rfl⟩
theorem zt_307 : zsite RX4 (38, 4, 5, 0, 22) := ⟨RX4, TX4, 18, "UnwindTower$Machine", rfl, zu_4, by decide, zw_t2 172 (by decide +kernel) (by decide +kernel), Or.inl rfl⟩
theorem zt_308 : zsite RX4 (38, 4, 6, 0, 25) := ⟨RX4, TX4, 18, "UnwindTower$Machine", rfl, zu_4, by decide, zw_t2 174 (by decide +kernel) (by decide +kernel), Or.inl rfl⟩
theorem zt_309 : zsite RX4 (38, 4, 7, 0, 28) := ⟨RX4, TX4, 18, "UnwindTower$Machine", rfl, zu_4, by decide, zw_t2 176 (by decide +kernel) (by decide +kernel), Or.inl rfl⟩
theorem zt_310 : zsite RX4 (38, 4, 8, 0, 31) := ⟨RX4, TX4, 18, "UnwindTower$Machine", rfl, zu_4, by decide, zw_t2 178 (by decide +kernel) (by decide +kernel), Or.inl rfl⟩
theorem zt_311 : zsite RX4 (38, 4, 9, 0, 34) := ⟨RX4, TX4, 18, "UnwindTower$Machine", rfl, zu_4, by decide, zw_t2 180 (by decide +kernel) (by decide +kernel), Or.inl rfl⟩
theorem zt_312 : zsite RX4 (38, 4, 10, 0, 105) := ⟨RX4, TX4, 18, "UnwindTower$Machine", rfl, zu_4, by decide, zw_t2 181 (by decide +kernel) (by decide +kernel), Or.inl rfl⟩
theorem zt_313 : zsite RX4 (38, 4, 11, 0, 39) := ⟨RX4, TX4, 18, "UnwindTower$Machine", rfl, zu_4, by decide, zw_t2 182 (by decide +kernel) (by decide +kernel), Or.inl rfl⟩
theorem zt_314 : zsite RX4 (38, 4, 12, 0, 109) := ⟨RX4, TX4, 18, "UnwindTower$Machine", rfl, zu_4, by decide, zw_t2 183 (by decide +kernel) (by decide +kernel), Or.inl rfl⟩
theorem zt_315 : zsite RX4 (38, 4, 13, 0, 63) := ⟨RX4, TX4, 18, "UnwindTower$Machine", rfl, zu_4, by decide, zw_t2 184 (by decide +kernel) (by decide +kernel), Or.inl rfl⟩
theorem zt_316 : zsite RX4 (38, 4, 14, 0, 67) := ⟨RX4, TX4, 18, "UnwindTower$Machine", rfl, zu_4, by decide, zw_t2 185 (by decide +kernel) (by decide +kernel), Or.inl rfl⟩
theorem zt_317 : zsite RX4 (38, 4, 15, 0, 75) := ⟨RX4, TX4, 18, "UnwindTower$Machine", rfl, zu_4, by decide, zw_t2 186 (by decide +kernel) (by decide +kernel), Or.inl rfl⟩
theorem zt_318 : zsite RX4 (38, 4, 16, 0, 184) := ⟨RX4, TX4, 18, "UnwindTower$Machine", rfl, zu_4, by decide, zw_t2 187 (by decide +kernel) (by decide +kernel), Or.inl rfl⟩
theorem zt_319 : zsite RX4 (38, 4, 17, 0, 82) := ⟨RX4, TX4, 18, "UnwindTower$Machine", rfl, zu_4, by decide, zw_t2 188 (by decide +kernel) (by decide +kernel), Or.inl rfl⟩
theorem zt_320 : zsite RX4 (38, 8, 0, 0, 88) := ⟨RX8, TX8, 13, "UnwindTower$Thrown", rfl, zu_8, by decide, zw_t2 89 (by decide +kernel) (by decide +kernel), Or.inl rfl⟩
theorem zt_321 : zsite RX4 (38, 8, 1, 0, 95) := ⟨RX8, TX8, 13, "UnwindTower$Thrown", rfl, zu_8, by decide, zw_t2 91 (by decide +kernel) (by decide +kernel), Or.inl rfl⟩
theorem zt_322 : zsite RX4 (38, 8, 2, 0, 237) := ⟨RX8, TX8, 13, "UnwindTower$Thrown", rfl, zu_8, by decide, zw_t2 93 (by decide +kernel) (by decide +kernel), Or.inl rfl⟩
theorem zt_323 : zsite RX4 (40, 3, 0, 0, 112) := ⟨RX3, TX3, 6, "UnwindTower$Frame", tyX3, rfl, zu_3, by decide, zw_t2 144 (by decide +kernel) (by decide +kernel), Or.inl rfl, tyX3_ok, nmX3, rfl, (fun h => nomatch h), .inl ⟨rfl, rfl⟩⟩
theorem zt_324 : zsite RX4 (40, 3, 1, 0, 119) := ⟨RX3, TX3, 6, "UnwindTower$Frame", tyX3, rfl, zu_3, by decide, zw_t2 145 (by decide +kernel) (by decide +kernel), Or.inl rfl, tyX3_ok, nmX3, rfl, (fun h => nomatch h), .inl ⟨rfl, rfl⟩⟩
theorem zt_325 : zsite RX4 (40, 3, 2, 0, 220) := ⟨RX3, TX3, 6, "UnwindTower$Frame", tyX3, rfl, zu_3, by decide, zw_t2 146 (by decide +kernel) (by decide +kernel), Or.inl rfl, tyX3_ok, nmX3, rfl, (fun h => nomatch h), .inl ⟨rfl, rfl⟩⟩
theorem zt_326 : zsite RX4 (40, 3, 3, 0, 223) := ⟨RX3, TX3, 6, "UnwindTower$Frame", tyX3, rfl, zu_3, by decide, zw_t2 147 (by decide +kernel) (by decide +kernel), Or.inl rfl, tyX3_ok, nmX3, rfl, (fun h => nomatch h), .inl ⟨rfl, rfl⟩⟩
theorem zt_327 : zsite RX4 (40, 4, 10, 3, 105) := ⟨RX4, TX4, 18, "UnwindTower$Machine", tyX4, rfl, zu_4, by decide, zw_t2 181 (by decide +kernel) (by decide +kernel), Or.inl rfl, tyX4_ok, nmX4, rfl, (fun h => nomatch h), .inr (.inr (.inr ⟨rfl, rfl⟩))⟩
theorem zt_328 : zsite RX4 (40, 4, 12, 0, 109) := ⟨RX4, TX4, 18, "UnwindTower$Machine", tyX4, rfl, zu_4, by decide, zw_t2 183 (by decide +kernel) (by decide +kernel), Or.inl rfl, tyX4_ok, nmX4, rfl, (fun h => nomatch h), .inl ⟨rfl, rfl⟩⟩
theorem zt_329 : zsite RX4 (40, 4, 13, 0, 63) := ⟨RX4, TX4, 18, "UnwindTower$Machine", tyX4, rfl, zu_4, by decide, zw_t2 184 (by decide +kernel) (by decide +kernel), Or.inl rfl, tyX4_ok, nmX4, rfl, (fun h => nomatch h), .inl ⟨rfl, rfl⟩⟩
theorem zt_330 : zsite RX4 (40, 4, 14, 0, 67) := ⟨RX4, TX4, 18, "UnwindTower$Machine", tyX4, rfl, zu_4, by decide, zw_t2 185 (by decide +kernel) (by decide +kernel), Or.inl rfl, tyX4_ok, nmX4, rfl, (fun h => nomatch h), .inl ⟨rfl, rfl⟩⟩
theorem zt_331 : zsite RX4 (40, 4, 15, 1, 75) := ⟨RX4, TX4, 18, "UnwindTower$Machine", tyX4, rfl, zu_4, by decide, zw_t2 186 (by decide +kernel) (by decide +kernel), Or.inl rfl, tyX4_ok, nmX4, rfl, (fun h => nomatch h), .inr (.inl ⟨rfl, rfl⟩)⟩
theorem zt_332 : zsite RX4 (40, 4, 16, 0, 184) := ⟨RX4, TX4, 18, "UnwindTower$Machine", tyX4, rfl, zu_4, by decide, zw_t2 187 (by decide +kernel) (by decide +kernel), Or.inl rfl, tyX4_ok, nmX4, rfl, (fun h => nomatch h), .inl ⟨rfl, rfl⟩⟩
theorem zt_333 : zsite RX4 (40, 4, 17, 1, 82) := ⟨RX4, TX4, 18, "UnwindTower$Machine", tyX4, rfl, zu_4, by decide, zw_t2 188 (by decide +kernel) (by decide +kernel), Or.inl rfl, tyX4_ok, nmX4, rfl, (fun h => nomatch h), .inr (.inl ⟨rfl, rfl⟩)⟩
theorem zt_334 : zsite RX4 (41, 4, 0, 2, 43) := ⟨RX4, TX4, 18, "UnwindTower$Machine", tyX4, rfl, zu_4, by decide, zw_t2 165 (by decide +kernel) (by decide +kernel), Or.inl rfl, tyX4_ok, nmX4, rfl, (fun _ => rfl), .inr (.inr (.inl ⟨rfl, .inl ⟨_, rfl⟩⟩))⟩
theorem zt_335 : zsite RX4 (41, 4, 1, 2, 47) := ⟨RX4, TX4, 18, "UnwindTower$Machine", tyX4, rfl, zu_4, by decide, zw_t2 166 (by decide +kernel) (by decide +kernel), Or.inl rfl, tyX4_ok, nmX4, rfl, (fun _ => rfl), .inr (.inr (.inl ⟨rfl, .inr ⟨_, rfl⟩⟩))⟩
theorem zt_336 : zsite RX4 (41, 4, 2, 2, 51) := ⟨RX4, TX4, 18, "UnwindTower$Machine", tyX4, rfl, zu_4, by decide, zw_t2 167 (by decide +kernel) (by decide +kernel), Or.inl rfl, tyX4_ok, nmX4, rfl, (fun _ => rfl), .inr (.inr (.inl ⟨rfl, .inl ⟨_, rfl⟩⟩))⟩
theorem zt_337 : zsite RX4 (41, 4, 3, 2, 12) := ⟨RX4, TX4, 18, "UnwindTower$Machine", tyX4, rfl, zu_4, by decide, zw_t2 168 (by decide +kernel) (by decide +kernel), Or.inl rfl, tyX4_ok, nmX4, rfl, (fun _ => rfl), .inr (.inr (.inl ⟨rfl, .inl ⟨_, rfl⟩⟩))⟩
theorem zt_338 : zsite RX4 (41, 4, 4, 2, 18) := ⟨RX4, TX4, 18, "UnwindTower$Machine", tyX4, rfl, zu_4, by decide, zw_t2 170 (by decide +kernel) (by decide +kernel), Or.inl rfl, tyX4_ok, nmX4, rfl, (fun _ => rfl), .inr (.inr (.inl ⟨rfl, .inr ⟨_, rfl⟩⟩))⟩
theorem zt_339 : zsite RX4 (41, 4, 5, 2, 22) := ⟨RX4, TX4, 18, "UnwindTower$Machine", tyX4, rfl, zu_4, by decide, zw_t2 172 (by decide +kernel) (by decide +kernel), Or.inl rfl, tyX4_ok, nmX4, rfl, (fun _ => rfl), .inr (.inr (.inl ⟨rfl, .inr ⟨_, rfl⟩⟩))⟩
theorem zt_340 : zsite RX4 (41, 4, 6, 2, 25) := ⟨RX4, TX4, 18, "UnwindTower$Machine", tyX4, rfl, zu_4, by decide, zw_t2 174 (by decide +kernel) (by decide +kernel), Or.inl rfl, tyX4_ok, nmX4, rfl, (fun _ => rfl), .inr (.inr (.inl ⟨rfl, .inr ⟨_, rfl⟩⟩))⟩
theorem zt_341 : zsite RX4 (41, 4, 7, 2, 28) := ⟨RX4, TX4, 18, "UnwindTower$Machine", tyX4, rfl, zu_4, by decide, zw_t2 176 (by decide +kernel) (by decide +kernel), Or.inl rfl, tyX4_ok, nmX4, rfl, (fun _ => rfl), .inr (.inr (.inl ⟨rfl, .inr ⟨_, rfl⟩⟩))⟩
theorem zt_342 : zsite RX4 (41, 4, 8, 2, 31) := ⟨RX4, TX4, 18, "UnwindTower$Machine", tyX4, rfl, zu_4, by decide, zw_t2 178 (by decide +kernel) (by decide +kernel), Or.inl rfl, tyX4_ok, nmX4, rfl, (fun _ => rfl), .inr (.inr (.inl ⟨rfl, .inr ⟨_, rfl⟩⟩))⟩
theorem zt_343 : zsite RX4 (41, 4, 9, 2, 34) := ⟨RX4, TX4, 18, "UnwindTower$Machine", tyX4, rfl, zu_4, by decide, zw_t2 180 (by decide +kernel) (by decide +kernel), Or.inl rfl, tyX4_ok, nmX4, rfl, (fun _ => rfl), .inr (.inr (.inl ⟨rfl, .inr ⟨_, rfl⟩⟩))⟩
theorem zt_344 : zsite RX4 (41, 4, 11, 2, 39) := ⟨RX4, TX4, 18, "UnwindTower$Machine", tyX4, rfl, zu_4, by decide, zw_t2 182 (by decide +kernel) (by decide +kernel), Or.inl rfl, tyX4_ok, nmX4, rfl, (fun _ => rfl), .inr (.inr (.inl ⟨rfl, .inr ⟨_, rfl⟩⟩))⟩
theorem zt_345 : zsite RX4 (47, 0, 0, 0, 0) := zv_row
theorem zt_346 : zsite RX4 (51, 0, 0, 0, 3) := ⟨zw_t2 81 (by decide +kernel) (by decide +kernel), zw_t1 27 (by decide +kernel) (by decide +kernel), zw_t1 28 (by decide +kernel) (by decide +kernel)⟩
theorem zt_347 : zsite RX4 (56, 3, 0, 0, 37) := ⟨RX3, TX3, 6, tyX3, _, rfl, tyX3_ok, zw_t2 137 (by decide +kernel) (by decide +kernel), zw_t2 139 (by decide +kernel) (by decide +kernel), zw_t1 10 (by decide +kernel) (by decide +kernel), zu_3, rfl, rfl, by decide +kernel⟩
theorem zt_348 : zsite RX4 (56, 8, 0, 0, 9) := ⟨RX8, TX8, 13, tyX8, _, rfl, tyX8_ok, zw_t2 82 (by decide +kernel) (by decide +kernel), zw_t2 83 (by decide +kernel) (by decide +kernel), zw_t1 9 (by decide +kernel) (by decide +kernel), zu_8, rfl, rfl, by decide +kernel⟩
theorem zt_349 : zsite RX4 (57, 0, 0, 0, 0) := zw_t1 127 (by decide +kernel) (by decide +kernel)
theorem zt_350 : zsite RX4 (58, 3, 0, 0, 37) := .inl ⟨by decide, by decide, "UnwindTower$Frame", rfl, zw_t2 137 (by decide +kernel) (by decide +kernel), zw_t2 138 (by decide +kernel) (by decide +kernel)⟩
theorem zt_351 : zsite RX4 (96, 42, 1, 0, 134) := ⟨zv_42, zw_t4 235 (by decide +kernel) (by decide +kernel), zw_t4 102 (by decide +kernel) (by decide +kernel)⟩
theorem zt_352 : zsite RX4 (96, 170, 2, 0, 98) := ⟨zv_170, zw_t4 193 (by decide +kernel) (by decide +kernel), zw_t3 236 (by decide +kernel) (by decide +kernel)⟩
theorem zt_353 : zsite RX4 (97, 2, 2, 0, 56) := ⟨zv_2, "UnwindTower", zw_t4 224 (by decide +kernel) (by decide +kernel), zw_t3 120 (by decide +kernel) (by decide +kernel)⟩
theorem zt_354 : zsite RX4 (97, 5, 2, 0, 115) := ⟨zv_5, "UnwindTower", zw_t4 230 (by decide +kernel) (by decide +kernel), zw_t3 229 (by decide +kernel) (by decide +kernel)⟩
theorem zt_355 : zsite RX4 (97, 12, 2, 0, 151) := ⟨zv_12, "UnwindTower", zw_t4 223 (by decide +kernel) (by decide +kernel), zw_t4 14 (by decide +kernel) (by decide +kernel)⟩
theorem zt_356 : zsite RX4 (97, 24, 3, 0, 91) := ⟨zv_24, "UnwindTower", zw_t4 194 (by decide +kernel) (by decide +kernel), zw_t3 123 (by decide +kernel) (by decide +kernel)⟩
theorem zv_79 : zs_cl 79 0 := ⟨zw_t2 142 rfl (by decide +kernel), zw_t1 10 (by decide +kernel) (by decide +kernel), ⟨by decide +kernel, by decide +kernel⟩, by decide +kernel, by decide +kernel⟩
theorem zt_357 : zsite RX4 (99, 79, 0, 3, 55) := ⟨zv_79, by decide +kernel, by decide +kernel, "UnwindTower", zw_t2 140 (by decide +kernel) (by decide +kernel), zw_t2 141 (by decide +kernel) (by decide +kernel)⟩
theorem zv_142 : zs_cl 142 0 := ⟨zw_t2 86 rfl (by decide +kernel), zw_t1 9 (by decide +kernel) (by decide +kernel), ⟨by decide +kernel, by decide +kernel⟩, by decide +kernel, by decide +kernel⟩
theorem zt_358 : zsite RX4 (99, 142, 0, 8, 11) := ⟨zv_142, by decide +kernel, by decide +kernel, "UnwindTower", zw_t2 84 (by decide +kernel) (by decide +kernel), zw_t2 85 (by decide +kernel) (by decide +kernel)⟩
theorem zv_81 : zs_cl 81 2 := ⟨zw_t4 234 rfl (by decide +kernel), zw_t1 8 (by decide +kernel) (by decide +kernel), ⟨by decide +kernel, by decide +kernel⟩, by decide +kernel, by decide +kernel⟩
theorem zt_359 : zsite RX4 (100, 81, 2, 4, 127) := ⟨zv_81, zw_t4 231 (by decide +kernel) (by decide +kernel), zw_t4 233 (by decide +kernel) (by decide +kernel), _, rfl, zw_sl 47 (by decide +kernel) (by decide +kernel)⟩
theorem zv_82 : zs_cl 82 0 := ⟨zw_t4 192 rfl (by decide +kernel), zw_t1 8 (by decide +kernel) (by decide +kernel), ⟨by decide +kernel, by decide +kernel⟩, by decide +kernel, by decide +kernel⟩
theorem zt_360 : zsite RX4 (100, 82, 0, 4, 60) := ⟨zv_82, zw_t4 189 (by decide +kernel) (by decide +kernel), zw_t4 191 (by decide +kernel) (by decide +kernel), _, rfl, zw_sl 42 (by decide +kernel) (by decide +kernel)⟩
theorem zv_83 : zs_cl 83 4 := ⟨zw_t5 7 rfl (by decide +kernel), zw_t1 8 (by decide +kernel) (by decide +kernel), ⟨by decide +kernel, by decide +kernel⟩, by decide +kernel, by decide +kernel⟩
theorem zt_361 : zsite RX4 (100, 83, 4, 4, 187) := ⟨zv_83, zw_t5 4 (by decide +kernel) (by decide +kernel), zw_t5 6 (by decide +kernel) (by decide +kernel), _, rfl, zw_sl 50 (by decide +kernel) (by decide +kernel)⟩
theorem zv_84 : zs_cl 84 3 := ⟨zw_t4 203 rfl (by decide +kernel), zw_t1 8 (by decide +kernel) (by decide +kernel), ⟨by decide +kernel, by decide +kernel⟩, by decide +kernel, by decide +kernel⟩
theorem zt_362 : zsite RX4 (100, 84, 3, 4, 70) := ⟨zv_84, zw_t4 200 (by decide +kernel) (by decide +kernel), zw_t4 202 (by decide +kernel) (by decide +kernel), _, rfl, zw_sl 43 (by decide +kernel) (by decide +kernel)⟩
theorem zv_85 : zs_cl 85 1 := ⟨zw_t4 222 rfl (by decide +kernel), zw_t1 8 (by decide +kernel) (by decide +kernel), ⟨by decide +kernel, by decide +kernel⟩, by decide +kernel, by decide +kernel⟩
theorem zt_363 : zsite RX4 (100, 85, 1, 4, 198) := ⟨zv_85, zw_t4 219 (by decide +kernel) (by decide +kernel), zw_t4 221 (by decide +kernel) (by decide +kernel), _, rfl, zw_sl 45 (by decide +kernel) (by decide +kernel)⟩
theorem zv_87 : zs_cl 87 2 := ⟨zw_t5 43 rfl (by decide +kernel), zw_t1 8 (by decide +kernel) (by decide +kernel), ⟨by decide +kernel, by decide +kernel⟩, by decide +kernel, by decide +kernel⟩
theorem zt_364 : zsite RX4 (100, 87, 2, 4, 177) := ⟨zv_87, zw_t5 40 (by decide +kernel) (by decide +kernel), zw_t5 42 (by decide +kernel) (by decide +kernel), _, rfl, zw_sl 56 (by decide +kernel) (by decide +kernel)⟩
theorem zv_88 : zs_cl 88 4 := ⟨zw_t5 19 rfl (by decide +kernel), zw_t1 8 (by decide +kernel) (by decide +kernel), ⟨by decide +kernel, by decide +kernel⟩, by decide +kernel, by decide +kernel⟩
theorem zt_365 : zsite RX4 (100, 88, 4, 4, 205) := ⟨zv_88, zw_t5 16 (by decide +kernel) (by decide +kernel), zw_t5 18 (by decide +kernel) (by decide +kernel), _, rfl, zw_sl 52 (by decide +kernel) (by decide +kernel)⟩
theorem zv_90 : zs_cl 90 0 := ⟨zw_t4 229 rfl (by decide +kernel), zw_t1 8 (by decide +kernel) (by decide +kernel), ⟨by decide +kernel, by decide +kernel⟩, by decide +kernel, by decide +kernel⟩
theorem zt_366 : zsite RX4 (100, 90, 0, 4, 79) := ⟨zv_90, zw_t4 226 (by decide +kernel) (by decide +kernel), zw_t4 228 (by decide +kernel) (by decide +kernel), _, rfl, zw_sl 46 (by decide +kernel) (by decide +kernel)⟩
theorem zv_91 : zs_cl 91 3 := ⟨zw_t4 239 rfl (by decide +kernel), zw_t1 8 (by decide +kernel) (by decide +kernel), ⟨by decide +kernel, by decide +kernel⟩, by decide +kernel, by decide +kernel⟩
theorem zt_367 : zsite RX4 (100, 91, 3, 4, 138) := ⟨zv_91, zw_t4 236 (by decide +kernel) (by decide +kernel), zw_t4 238 (by decide +kernel) (by decide +kernel), _, rfl, zw_sl 48 (by decide +kernel) (by decide +kernel)⟩
theorem zv_92 : zs_cl 92 3 := ⟨zw_t5 35 rfl (by decide +kernel), zw_t1 8 (by decide +kernel) (by decide +kernel), ⟨by decide +kernel, by decide +kernel⟩, by decide +kernel, by decide +kernel⟩
theorem zt_368 : zsite RX4 (100, 92, 3, 4, 142) := ⟨zv_92, zw_t5 32 (by decide +kernel) (by decide +kernel), zw_t5 34 (by decide +kernel) (by decide +kernel), _, rfl, zw_sl 54 (by decide +kernel) (by decide +kernel)⟩
theorem zv_93 : zs_cl 93 2 := ⟨zw_t5 51 rfl (by decide +kernel), zw_t1 8 (by decide +kernel) (by decide +kernel), ⟨by decide +kernel, by decide +kernel⟩, by decide +kernel, by decide +kernel⟩
theorem zt_369 : zsite RX4 (100, 93, 2, 4, 233) := ⟨zv_93, zw_t5 48 (by decide +kernel) (by decide +kernel), zw_t5 50 (by decide +kernel) (by decide +kernel), _, rfl, zw_sl 58 (by decide +kernel) (by decide +kernel)⟩
theorem zv_94 : zs_cl 94 2 := ⟨zw_t5 39 rfl (by decide +kernel), zw_t1 8 (by decide +kernel) (by decide +kernel), ⟨by decide +kernel, by decide +kernel⟩, by decide +kernel, by decide +kernel⟩
theorem zt_370 : zsite RX4 (100, 94, 2, 4, 170) := ⟨zv_94, zw_t5 36 (by decide +kernel) (by decide +kernel), zw_t5 38 (by decide +kernel) (by decide +kernel), _, rfl, zw_sl 55 (by decide +kernel) (by decide +kernel)⟩
theorem zv_95 : zs_cl 95 4 := ⟨zw_t4 207 rfl (by decide +kernel), zw_t1 8 (by decide +kernel) (by decide +kernel), ⟨by decide +kernel, by decide +kernel⟩, by decide +kernel, by decide +kernel⟩
theorem zt_371 : zsite RX4 (100, 95, 4, 4, 191) := ⟨zv_95, zw_t4 204 (by decide +kernel) (by decide +kernel), zw_t4 206 (by decide +kernel) (by decide +kernel), _, rfl, zw_sl 44 (by decide +kernel) (by decide +kernel)⟩
theorem zv_97 : zs_cl 97 1 := ⟨zw_t5 11 rfl (by decide +kernel), zw_t1 8 (by decide +kernel) (by decide +kernel), ⟨by decide +kernel, by decide +kernel⟩, by decide +kernel, by decide +kernel⟩
theorem zt_372 : zsite RX4 (100, 97, 1, 4, 202) := ⟨zv_97, zw_t5 8 (by decide +kernel) (by decide +kernel), zw_t5 10 (by decide +kernel) (by decide +kernel), _, rfl, zw_sl 51 (by decide +kernel) (by decide +kernel)⟩
theorem zv_98 : zs_cl 98 2 := ⟨zw_t5 31 rfl (by decide +kernel), zw_t1 8 (by decide +kernel) (by decide +kernel), ⟨by decide +kernel, by decide +kernel⟩, by decide +kernel, by decide +kernel⟩
theorem zt_373 : zsite RX4 (100, 98, 2, 4, 208) := ⟨zv_98, zw_t5 28 (by decide +kernel) (by decide +kernel), zw_t5 30 (by decide +kernel) (by decide +kernel), _, rfl, zw_sl 53 (by decide +kernel) (by decide +kernel)⟩
theorem zv_99 : zs_cl 99 0 := ⟨zw_t5 47 rfl (by decide +kernel), zw_t1 8 (by decide +kernel) (by decide +kernel), ⟨by decide +kernel, by decide +kernel⟩, by decide +kernel, by decide +kernel⟩
theorem zt_374 : zsite RX4 (100, 99, 0, 4, 85) := ⟨zv_99, zw_t5 44 (by decide +kernel) (by decide +kernel), zw_t5 46 (by decide +kernel) (by decide +kernel), _, rfl, zw_sl 57 (by decide +kernel) (by decide +kernel)⟩
theorem zv_100 : zs_cl 100 1 := ⟨zw_t5 3 rfl (by decide +kernel), zw_t1 8 (by decide +kernel) (by decide +kernel), ⟨by decide +kernel, by decide +kernel⟩, by decide +kernel, by decide +kernel⟩
theorem zt_375 : zsite RX4 (100, 100, 1, 4, 163) := ⟨zv_100, zw_t5 0 (by decide +kernel) (by decide +kernel), zw_t5 2 (by decide +kernel) (by decide +kernel), _, rfl, zw_sl 49 (by decide +kernel) (by decide +kernel)⟩
theorem zt_376 : zsite RX4 (100, 120, 2, 6, 252) := ⟨zv_120, zw_t5 57 (by decide +kernel) (by decide +kernel), zw_t3 207 (by decide +kernel) (by decide +kernel), _, rfl, zw_t3 208 (by decide +kernel) (by decide +kernel)⟩
theorem zt_377 : zsite RX4 (100, 141, 2, 7, 246) := ⟨zv_141, zw_t5 52 (by decide +kernel) (by decide +kernel), zw_t5 53 (by decide +kernel) (by decide +kernel), _, rfl, zw_t5 54 (by decide +kernel) (by decide +kernel)⟩
theorem zv_143 : zs_cl 143 2 := ⟨zw_t4 217 rfl (by decide +kernel), zw_t1 9 (by decide +kernel) (by decide +kernel), ⟨by decide +kernel, by decide +kernel⟩, by decide +kernel, by decide +kernel⟩
theorem zt_378 : zsite RX4 (100, 143, 2, 8, 230) := ⟨zv_143, zw_t4 214 (by decide +kernel) (by decide +kernel), zw_t4 215 (by decide +kernel) (by decide +kernel), _, rfl, zw_t4 216 (by decide +kernel) (by decide +kernel)⟩
theorem zv_144 : zs_cl 144 0 := ⟨zw_t4 198 rfl (by decide +kernel), zw_t1 9 (by decide +kernel) (by decide +kernel), ⟨by decide +kernel, by decide +kernel⟩, by decide +kernel, by decide +kernel⟩
theorem zt_379 : zsite RX4 (100, 144, 0, 8, 104) := ⟨zv_144, zw_t4 195 (by decide +kernel) (by decide +kernel), zw_t4 196 (by decide +kernel) (by decide +kernel), _, rfl, zw_t4 197 (by decide +kernel) (by decide +kernel)⟩
theorem zv_145 : zs_cl 145 2 := ⟨zw_t5 23 rfl (by decide +kernel), zw_t1 9 (by decide +kernel) (by decide +kernel), ⟨by decide +kernel, by decide +kernel⟩, by decide +kernel, by decide +kernel⟩
theorem zt_380 : zsite RX4 (100, 145, 2, 8, 211) := ⟨zv_145, zw_t5 20 (by decide +kernel) (by decide +kernel), zw_t5 21 (by decide +kernel) (by decide +kernel), _, rfl, zw_t5 22 (by decide +kernel) (by decide +kernel)⟩
theorem zv_147 : zs_cl 147 3 := ⟨zw_t4 211 rfl (by decide +kernel), zw_t1 9 (by decide +kernel) (by decide +kernel), ⟨by decide +kernel, by decide +kernel⟩, by decide +kernel, by decide +kernel⟩
theorem zt_381 : zsite RX4 (100, 147, 3, 8, 226) := ⟨zv_147, zw_t4 208 (by decide +kernel) (by decide +kernel), zw_t4 209 (by decide +kernel) (by decide +kernel), _, rfl, zw_t4 210 (by decide +kernel) (by decide +kernel)⟩
theorem zv_150 : zs_cl 150 2 := ⟨zw_t5 27 rfl (by decide +kernel), zw_t1 9 (by decide +kernel) (by decide +kernel), ⟨by decide +kernel, by decide +kernel⟩, by decide +kernel, by decide +kernel⟩
theorem zt_382 : zsite RX4 (100, 150, 2, 8, 215) := ⟨zv_150, zw_t5 24 (by decide +kernel) (by decide +kernel), zw_t5 25 (by decide +kernel) (by decide +kernel), _, rfl, zw_t5 26 (by decide +kernel) (by decide +kernel)⟩
theorem zv_151 : zs_cl 151 2 := ⟨zw_t5 15 rfl (by decide +kernel), zw_t1 9 (by decide +kernel) (by decide +kernel), ⟨by decide +kernel, by decide +kernel⟩, by decide +kernel, by decide +kernel⟩
theorem zt_383 : zsite RX4 (100, 151, 2, 8, 218) := ⟨zv_151, zw_t5 12 (by decide +kernel) (by decide +kernel), zw_t5 13 (by decide +kernel) (by decide +kernel), _, rfl, zw_t5 14 (by decide +kernel) (by decide +kernel)⟩
theorem zt_384 : zsite RX4 (111, 2148483648, 0, 0, 74) := zw_t4 225 (by decide +kernel) (by decide +kernel)
theorem zt_385 : zsite RX5 (38, 5, 0, 0, 7) := ⟨RX5, TX5, 6, "UnwindTower$Place", rfl, zu_5, by decide, zw_t2 5 (by decide +kernel) (by decide +kernel), Or.inl rfl⟩
theorem zt_386 : zsite RX5 (38, 5, 1, 0, 13) := ⟨RX5, TX5, 6, "UnwindTower$Place", rfl, zu_5, by decide, zw_t2 7 (by decide +kernel) (by decide +kernel), Or.inl rfl⟩
theorem zt_387 : zsite RX5 (38, 5, 2, 0, 16) := ⟨RX5, TX5, 6, "UnwindTower$Place", rfl, zu_5, by decide, zw_t2 9 (by decide +kernel) (by decide +kernel), Or.inl rfl⟩
theorem zt_388 : zsite RX5 (38, 5, 3, 0, 19) := ⟨RX5, TX5, 6, "UnwindTower$Place", rfl, zu_5, by decide, zw_t2 11 (by decide +kernel) (by decide +kernel), Or.inl rfl⟩
theorem zt_389 : zsite RX5 (38, 5, 4, 0, 22) := ⟨RX5, TX5, 6, "UnwindTower$Place", rfl, zu_5, by decide, zw_t2 13 (by decide +kernel) (by decide +kernel), Or.inl rfl⟩
