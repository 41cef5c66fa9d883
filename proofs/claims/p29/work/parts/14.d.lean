/-! sites -/
theorem zt_195 : zsite RX1 (41, 1, 3, 2, 11) := ⟨RX1, TX1, 15, "UnwindTower$Compiler", tyX1, rfl, zu_1, by decide, zw_t2 33 (by decide +kernel) (by decide +kernel), Or.inl rfl, tyX1_ok, nmX1, rfl, (fun _ => rfl), .inr (.inr (.inl ⟨rfl, .inr ⟨_, rfl⟩⟩))⟩
theorem zt_196 : zsite RX1 (41, 1, 4, 2, 17) := ⟨RX1, TX1, 15, "UnwindTower$Compiler", tyX1, rfl, zu_1, by decide, zw_t2 34 (by decide +kernel) (by decide +kernel), Or.inl rfl, tyX1_ok, nmX1, rfl, (fun _ => rfl), .inr (.inr (.inl ⟨rfl, .inr ⟨_, rfl⟩⟩))⟩
theorem zt_197 : zsite RX1 (41, 1, 5, 2, 21) := ⟨RX1, TX1, 15, "UnwindTower$Compiler", tyX1, rfl, zu_1, by decide, zw_t2 35 (by decide +kernel) (by decide +kernel), Or.inl rfl, tyX1_ok, nmX1, rfl, (fun _ => rfl), .inr (.inr (.inl ⟨rfl, .inr ⟨_, rfl⟩⟩))⟩
theorem zt_198 : zsite RX1 (41, 1, 6, 2, 24) := ⟨RX1, TX1, 15, "UnwindTower$Compiler", tyX1, rfl, zu_1, by decide, zw_t2 36 (by decide +kernel) (by decide +kernel), Or.inl rfl, tyX1_ok, nmX1, rfl, (fun _ => rfl), .inr (.inr (.inl ⟨rfl, .inr ⟨_, rfl⟩⟩))⟩
theorem zt_199 : zsite RX1 (41, 1, 8, 2, 27) := ⟨RX1, TX1, 15, "UnwindTower$Compiler", tyX1, rfl, zu_1, by decide, zw_t2 38 (by decide +kernel) (by decide +kernel), Or.inl rfl, tyX1_ok, nmX1, rfl, (fun _ => rfl), .inr (.inr (.inl ⟨rfl, .inr ⟨_, rfl⟩⟩))⟩
theorem zt_200 : zsite RX1 (41, 1, 9, 2, 30) := ⟨RX1, TX1, 15, "UnwindTower$Compiler", tyX1, rfl, zu_1, by decide, zw_t2 39 (by decide +kernel) (by decide +kernel), Or.inl rfl, tyX1_ok, nmX1, rfl, (fun _ => rfl), .inr (.inr (.inl ⟨rfl, .inr ⟨_, rfl⟩⟩))⟩
theorem zt_201 : zsite RX1 (41, 1, 11, 2, 33) := ⟨RX1, TX1, 15, "UnwindTower$Compiler", tyX1, rfl, zu_1, by decide, zw_t2 41 (by decide +kernel) (by decide +kernel), Or.inl rfl, tyX1_ok, nmX1, rfl, (fun _ => rfl), .inr (.inr (.inl ⟨rfl, .inr ⟨_, rfl⟩⟩))⟩
theorem zt_202 : zsite RX1 (41, 1, 12, 2, 36) := ⟨RX1, TX1, 15, "UnwindTower$Compiler", tyX1, rfl, zu_1, by decide, zw_t2 42 (by decide +kernel) (by decide +kernel), Or.inl rfl, tyX1_ok, nmX1, rfl, (fun _ => rfl), .inr (.inr (.inl ⟨rfl, .inr ⟨_, rfl⟩⟩))⟩
theorem zt_203 : zsite RX1 (47, 0, 0, 0, 0) := zv_row
theorem zt_204 : zsite RX1 (51, 0, 0, 0, 3) := ⟨zw_t1 237 (by decide +kernel) (by decide +kernel), zw_t1 27 (by decide +kernel) (by decide +kernel), zw_t1 28 (by decide +kernel) (by decide +kernel)⟩
theorem zt_205 : zsite RX1 (56, 5, 0, 0, 9) := ⟨RX5, TX5, 6, tyX5, _, rfl, tyX5_ok, zw_t1 238 (by decide +kernel) (by decide +kernel), zw_t2 0 (by decide +kernel) (by decide +kernel), zw_t1 7 (by decide +kernel) (by decide +kernel), zu_5, rfl, rfl, by decide +kernel⟩
theorem zt_206 : zsite RX1 (57, 0, 0, 0, 0) := zw_t1 127 (by decide +kernel) (by decide +kernel)
theorem zt_207 : zsite RX1 (58, 2, 0, 0, 9) := .inl ⟨by decide, by decide, "UnwindTower$Place", rfl, zw_t1 238 (by decide +kernel) (by decide +kernel), zw_t1 239 (by decide +kernel) (by decide +kernel)⟩
theorem zv_42 : zs_cl 42 1 := ⟨zw_t4 103 rfl (by decide +kernel), zw_t1 5 (by decide +kernel) (by decide +kernel), ⟨by decide +kernel, by decide +kernel⟩, by decide +kernel, by decide +kernel⟩
theorem zt_208 : zsite RX1 (96, 42, 1, 0, 225) := ⟨zv_42, zw_t4 101 (by decide +kernel) (by decide +kernel), zw_t4 102 (by decide +kernel) (by decide +kernel)⟩
theorem zt_209 : zsite RX1 (97, 2, 2, 0, 111) := ⟨zv_2, "UnwindTower", zw_t4 2 (by decide +kernel) (by decide +kernel), zw_t3 120 (by decide +kernel) (by decide +kernel)⟩
theorem zt_210 : zsite RX1 (97, 5, 2, 0, 60) := ⟨zv_5, "UnwindTower", zw_t3 228 (by decide +kernel) (by decide +kernel), zw_t3 229 (by decide +kernel) (by decide +kernel)⟩
theorem zt_211 : zsite RX1 (97, 24, 3, 0, 211) := ⟨zv_24, "UnwindTower", zw_t4 40 (by decide +kernel) (by decide +kernel), zw_t3 123 (by decide +kernel) (by decide +kernel)⟩
theorem zv_101 : zs_cl 101 0 := ⟨zw_t2 3 rfl (by decide +kernel), zw_t1 7 (by decide +kernel) (by decide +kernel), ⟨by decide +kernel, by decide +kernel⟩, by decide +kernel, by decide +kernel⟩
theorem zt_212 : zsite RX1 (99, 101, 0, 5, 55) := ⟨zv_101, by decide +kernel, by decide +kernel, "UnwindTower", zw_t2 1 (by decide +kernel) (by decide +kernel), zw_t2 2 (by decide +kernel) (by decide +kernel)⟩
theorem zv_39 : zs_cl 39 5 := ⟨zw_t4 44 rfl (by decide +kernel), zw_t1 5 (by decide +kernel) (by decide +kernel), ⟨by decide +kernel, by decide +kernel⟩, by decide +kernel, by decide +kernel⟩
theorem zt_213 : zsite RX1 (100, 39, 5, 0, 236) := ⟨zv_39, zw_t4 41 (by decide +kernel) (by decide +kernel), zw_t4 42 (by decide +kernel) (by decide +kernel), _, rfl, zw_t4 43 (by decide +kernel) (by decide +kernel)⟩
theorem zv_40 : zs_cl 40 1 := ⟨zw_t4 10 rfl (by decide +kernel), zw_t1 5 (by decide +kernel) (by decide +kernel), ⟨by decide +kernel, by decide +kernel⟩, by decide +kernel, by decide +kernel⟩
theorem zt_214 : zsite RX1 (100, 40, 1, 0, 129) := ⟨zv_40, zw_t4 7 (by decide +kernel) (by decide +kernel), zw_t4 8 (by decide +kernel) (by decide +kernel), _, rfl, zw_t4 9 (by decide +kernel) (by decide +kernel)⟩
theorem zv_41 : zs_cl 41 0 := ⟨zw_t3 234 rfl (by decide +kernel), zw_t1 5 (by decide +kernel) (by decide +kernel), ⟨by decide +kernel, by decide +kernel⟩, by decide +kernel, by decide +kernel⟩
theorem zt_215 : zsite RX1 (100, 41, 0, 0, 64) := ⟨zv_41, zw_t3 231 (by decide +kernel) (by decide +kernel), zw_t3 232 (by decide +kernel) (by decide +kernel), _, rfl, zw_t3 233 (by decide +kernel) (by decide +kernel)⟩
theorem zv_45 : zs_cl 45 6 := ⟨zw_t4 56 rfl (by decide +kernel), zw_t1 6 (by decide +kernel) (by decide +kernel), ⟨by decide +kernel, by decide +kernel⟩, by decide +kernel, by decide +kernel⟩
theorem zt_216 : zsite RX1 (100, 45, 6, 1, 119) := ⟨zv_45, zw_t4 53 (by decide +kernel) (by decide +kernel), zw_t4 55 (by decide +kernel) (by decide +kernel), _, rfl, zw_sl 24 (by decide +kernel) (by decide +kernel)⟩
theorem zv_46 : zs_cl 46 5 := ⟨zw_t4 39 rfl (by decide +kernel), zw_t1 6 (by decide +kernel) (by decide +kernel), ⟨by decide +kernel, by decide +kernel⟩, by decide +kernel, by decide +kernel⟩
theorem zt_217 : zsite RX1 (100, 46, 5, 1, 177) := ⟨zv_46, zw_t4 36 (by decide +kernel) (by decide +kernel), zw_t4 38 (by decide +kernel) (by decide +kernel), _, rfl, zw_sl 21 (by decide +kernel) (by decide +kernel)⟩
theorem zv_47 : zs_cl 47 1 := ⟨zw_t4 19 rfl (by decide +kernel), zw_t1 6 (by decide +kernel) (by decide +kernel), ⟨by decide +kernel, by decide +kernel⟩, by decide +kernel, by decide +kernel⟩
theorem zt_218 : zsite RX1 (100, 47, 1, 1, 136) := ⟨zv_47, zw_t4 16 (by decide +kernel) (by decide +kernel), zw_t4 18 (by decide +kernel) (by decide +kernel), _, rfl, zw_sl 17 (by decide +kernel) (by decide +kernel)⟩
theorem zv_48 : zs_cl 48 2 := ⟨zw_t4 23 rfl (by decide +kernel), zw_t1 6 (by decide +kernel) (by decide +kernel), ⟨by decide +kernel, by decide +kernel⟩, by decide +kernel, by decide +kernel⟩
theorem zt_219 : zsite RX1 (100, 48, 2, 1, 190) := ⟨zv_48, zw_t4 20 (by decide +kernel) (by decide +kernel), zw_t4 22 (by decide +kernel) (by decide +kernel), _, rfl, zw_sl 18 (by decide +kernel) (by decide +kernel)⟩
theorem zv_49 : zs_cl 49 2 := ⟨zw_t4 100 rfl (by decide +kernel), zw_t1 6 (by decide +kernel) (by decide +kernel), ⟨by decide +kernel, by decide +kernel⟩, by decide +kernel, by decide +kernel⟩
theorem zt_220 : zsite RX1 (100, 49, 2, 1, 218) := ⟨zv_49, zw_t4 97 (by decide +kernel) (by decide +kernel), zw_t4 99 (by decide +kernel) (by decide +kernel), _, rfl, zw_sl 35 (by decide +kernel) (by decide +kernel)⟩
theorem zv_50 : zs_cl 50 2 := ⟨zw_t4 6 rfl (by decide +kernel), zw_t1 6 (by decide +kernel) (by decide +kernel), ⟨by decide +kernel, by decide +kernel⟩, by decide +kernel, by decide +kernel⟩
theorem zt_221 : zsite RX1 (100, 50, 2, 1, 115) := ⟨zv_50, zw_t4 3 (by decide +kernel) (by decide +kernel), zw_t4 5 (by decide +kernel) (by decide +kernel), _, rfl, zw_sl 16 (by decide +kernel) (by decide +kernel)⟩
theorem zv_51 : zs_cl 51 2 := ⟨zw_t4 60 rfl (by decide +kernel), zw_t1 6 (by decide +kernel) (by decide +kernel), ⟨by decide +kernel, by decide +kernel⟩, by decide +kernel, by decide +kernel⟩
theorem zt_222 : zsite RX1 (100, 51, 2, 1, 151) := ⟨zv_51, zw_t4 57 (by decide +kernel) (by decide +kernel), zw_t4 59 (by decide +kernel) (by decide +kernel), _, rfl, zw_sl 25 (by decide +kernel) (by decide +kernel)⟩
theorem zv_52 : zs_cl 52 3 := ⟨zw_t4 88 rfl (by decide +kernel), zw_t1 6 (by decide +kernel) (by decide +kernel), ⟨by decide +kernel, by decide +kernel⟩, by decide +kernel, by decide +kernel⟩
theorem zt_223 : zsite RX1 (100, 52, 3, 1, 201) := ⟨zv_52, zw_t4 85 (by decide +kernel) (by decide +kernel), zw_t4 87 (by decide +kernel) (by decide +kernel), _, rfl, zw_sl 32 (by decide +kernel) (by decide +kernel)⟩
theorem zv_53 : zs_cl 53 4 := ⟨zw_t4 92 rfl (by decide +kernel), zw_t1 6 (by decide +kernel) (by decide +kernel), ⟨by decide +kernel, by decide +kernel⟩, by decide +kernel, by decide +kernel⟩
theorem zt_224 : zsite RX1 (100, 53, 4, 1, 204) := ⟨zv_53, zw_t4 89 (by decide +kernel) (by decide +kernel), zw_t4 91 (by decide +kernel) (by decide +kernel), _, rfl, zw_sl 33 (by decide +kernel) (by decide +kernel)⟩
theorem zv_54 : zs_cl 54 2 := ⟨zw_t4 68 rfl (by decide +kernel), zw_t1 6 (by decide +kernel) (by decide +kernel), ⟨by decide +kernel, by decide +kernel⟩, by decide +kernel, by decide +kernel⟩
theorem zt_225 : zsite RX1 (100, 54, 2, 1, 187) := ⟨zv_54, zw_t4 65 (by decide +kernel) (by decide +kernel), zw_t4 67 (by decide +kernel) (by decide +kernel), _, rfl, zw_sl 27 (by decide +kernel) (by decide +kernel)⟩
theorem zv_55 : zs_cl 55 3 := ⟨zw_t4 84 rfl (by decide +kernel), zw_t1 6 (by decide +kernel) (by decide +kernel), ⟨by decide +kernel, by decide +kernel⟩, by decide +kernel, by decide +kernel⟩
theorem zt_226 : zsite RX1 (100, 55, 3, 1, 197) := ⟨zv_55, zw_t4 81 (by decide +kernel) (by decide +kernel), zw_t4 83 (by decide +kernel) (by decide +kernel), _, rfl, zw_sl 31 (by decide +kernel) (by decide +kernel)⟩
theorem zv_56 : zs_cl 56 5 := ⟨zw_t4 129 rfl (by decide +kernel), zw_t1 6 (by decide +kernel) (by decide +kernel), ⟨by decide +kernel, by decide +kernel⟩, by decide +kernel, by decide +kernel⟩
theorem zt_227 : zsite RX1 (100, 56, 5, 1, 208) := ⟨zv_56, zw_t4 126 (by decide +kernel) (by decide +kernel), zw_t4 128 (by decide +kernel) (by decide +kernel), _, rfl, zw_sl 36 (by decide +kernel) (by decide +kernel)⟩
theorem zv_57 : zs_cl 57 2 := ⟨zw_t4 31 rfl (by decide +kernel), zw_t1 6 (by decide +kernel) (by decide +kernel), ⟨by decide +kernel, by decide +kernel⟩, by decide +kernel, by decide +kernel⟩
theorem zt_228 : zsite RX1 (100, 57, 2, 1, 145) := ⟨zv_57, zw_t4 28 (by decide +kernel) (by decide +kernel), zw_t4 30 (by decide +kernel) (by decide +kernel), _, rfl, zw_sl 19 (by decide +kernel) (by decide +kernel)⟩
theorem zv_58 : zs_cl 58 2 := ⟨zw_t4 52 rfl (by decide +kernel), zw_t1 6 (by decide +kernel) (by decide +kernel), ⟨by decide +kernel, by decide +kernel⟩, by decide +kernel, by decide +kernel⟩
theorem zt_229 : zsite RX1 (100, 58, 2, 1, 148) := ⟨zv_58, zw_t4 49 (by decide +kernel) (by decide +kernel), zw_t4 51 (by decide +kernel) (by decide +kernel), _, rfl, zw_sl 23 (by decide +kernel) (by decide +kernel)⟩
theorem zv_60 : zs_cl 60 2 := ⟨zw_t4 72 rfl (by decide +kernel), zw_t1 6 (by decide +kernel) (by decide +kernel), ⟨by decide +kernel, by decide +kernel⟩, by decide +kernel, by decide +kernel⟩
theorem zt_230 : zsite RX1 (100, 60, 2, 1, 154) := ⟨zv_60, zw_t4 69 (by decide +kernel) (by decide +kernel), zw_t4 71 (by decide +kernel) (by decide +kernel), _, rfl, zw_sl 28 (by decide +kernel) (by decide +kernel)⟩
theorem zv_61 : zs_cl 61 5 := ⟨zw_t4 96 rfl (by decide +kernel), zw_t1 6 (by decide +kernel) (by decide +kernel), ⟨by decide +kernel, by decide +kernel⟩, by decide +kernel, by decide +kernel⟩
theorem zt_231 : zsite RX1 (100, 61, 5, 1, 215) := ⟨zv_61, zw_t4 93 (by decide +kernel) (by decide +kernel), zw_t4 95 (by decide +kernel) (by decide +kernel), _, rfl, zw_sl 34 (by decide +kernel) (by decide +kernel)⟩
theorem zv_62 : zs_cl 62 2 := ⟨zw_t4 137 rfl (by decide +kernel), zw_t1 6 (by decide +kernel) (by decide +kernel), ⟨by decide +kernel, by decide +kernel⟩, by decide +kernel, by decide +kernel⟩
theorem zt_232 : zsite RX1 (100, 62, 2, 1, 163) := ⟨zv_62, zw_t4 134 (by decide +kernel) (by decide +kernel), zw_t4 136 (by decide +kernel) (by decide +kernel), _, rfl, zw_sl 38 (by decide +kernel) (by decide +kernel)⟩
theorem zv_63 : zs_cl 63 2 := ⟨zw_t4 76 rfl (by decide +kernel), zw_t1 6 (by decide +kernel) (by decide +kernel), ⟨by decide +kernel, by decide +kernel⟩, by decide +kernel, by decide +kernel⟩
theorem zt_233 : zsite RX1 (100, 63, 2, 1, 157) := ⟨zv_63, zw_t4 73 (by decide +kernel) (by decide +kernel), zw_t4 75 (by decide +kernel) (by decide +kernel), _, rfl, zw_sl 29 (by decide +kernel) (by decide +kernel)⟩
theorem zv_64 : zs_cl 64 2 := ⟨zw_t4 133 rfl (by decide +kernel), zw_t1 6 (by decide +kernel) (by decide +kernel), ⟨by decide +kernel, by decide +kernel⟩, by decide +kernel, by decide +kernel⟩
theorem zt_234 : zsite RX1 (100, 64, 2, 1, 160) := ⟨zv_64, zw_t4 130 (by decide +kernel) (by decide +kernel), zw_t4 132 (by decide +kernel) (by decide +kernel), _, rfl, zw_sl 37 (by decide +kernel) (by decide +kernel)⟩
theorem zv_65 : zs_cl 65 2 := ⟨zw_t4 64 rfl (by decide +kernel), zw_t1 6 (by decide +kernel) (by decide +kernel), ⟨by decide +kernel, by decide +kernel⟩, by decide +kernel, by decide +kernel⟩
theorem zt_235 : zsite RX1 (100, 65, 2, 1, 184) := ⟨zv_65, zw_t4 61 (by decide +kernel) (by decide +kernel), zw_t4 63 (by decide +kernel) (by decide +kernel), _, rfl, zw_sl 26 (by decide +kernel) (by decide +kernel)⟩
theorem zv_66 : zs_cl 66 2 := ⟨zw_t4 80 rfl (by decide +kernel), zw_t1 6 (by decide +kernel) (by decide +kernel), ⟨by decide +kernel, by decide +kernel⟩, by decide +kernel, by decide +kernel⟩
theorem zt_236 : zsite RX1 (100, 66, 2, 1, 193) := ⟨zv_66, zw_t4 77 (by decide +kernel) (by decide +kernel), zw_t4 79 (by decide +kernel) (by decide +kernel), _, rfl, zw_sl 30 (by decide +kernel) (by decide +kernel)⟩
theorem zv_67 : zs_cl 67 0 := ⟨zw_t4 35 rfl (by decide +kernel), zw_t1 6 (by decide +kernel) (by decide +kernel), ⟨by decide +kernel, by decide +kernel⟩, by decide +kernel, by decide +kernel⟩
theorem zt_237 : zsite RX1 (100, 67, 0, 1, 173) := ⟨zv_67, zw_t4 32 (by decide +kernel) (by decide +kernel), zw_t4 34 (by decide +kernel) (by decide +kernel), _, rfl, zw_sl 20 (by decide +kernel) (by decide +kernel)⟩
theorem zv_68 : zs_cl 68 1 := ⟨zw_t4 1 rfl (by decide +kernel), zw_t1 6 (by decide +kernel) (by decide +kernel), ⟨by decide +kernel, by decide +kernel⟩, by decide +kernel, by decide +kernel⟩
theorem zt_238 : zsite RX1 (100, 68, 1, 1, 84) := ⟨zv_68, zw_t3 238 (by decide +kernel) (by decide +kernel), zw_t4 0 (by decide +kernel) (by decide +kernel), _, rfl, zw_sl 15 (by decide +kernel) (by decide +kernel)⟩
theorem zv_69 : zs_cl 69 2 := ⟨zw_t4 48 rfl (by decide +kernel), zw_t1 6 (by decide +kernel) (by decide +kernel), ⟨by decide +kernel, by decide +kernel⟩, by decide +kernel, by decide +kernel⟩
theorem zt_239 : zsite RX1 (100, 69, 2, 1, 181) := ⟨zv_69, zw_t4 45 (by decide +kernel) (by decide +kernel), zw_t4 47 (by decide +kernel) (by decide +kernel), _, rfl, zw_sl 22 (by decide +kernel) (by decide +kernel)⟩
theorem zv_102 : zs_cl 102 1 := ⟨zw_t4 27 rfl (by decide +kernel), zw_t1 7 (by decide +kernel) (by decide +kernel), ⟨by decide +kernel, by decide +kernel⟩, by decide +kernel, by decide +kernel⟩
theorem zt_240 : zsite RX1 (100, 102, 1, 5, 232) := ⟨zv_102, zw_t4 24 (by decide +kernel) (by decide +kernel), zw_t4 25 (by decide +kernel) (by decide +kernel), _, rfl, zw_t4 26 (by decide +kernel) (by decide +kernel)⟩
theorem zv_140 : zs_cl 140 4 := ⟨zw_t4 107 rfl (by decide +kernel), zw_t1 4 (by decide +kernel) (by decide +kernel), ⟨by decide +kernel, by decide +kernel⟩, by decide +kernel, by decide +kernel⟩
theorem zt_241 : zsite RX1 (100, 140, 4, 7, 229) := ⟨zv_140, zw_t4 104 (by decide +kernel) (by decide +kernel), zw_t4 105 (by decide +kernel) (by decide +kernel), _, rfl, zw_t4 106 (by decide +kernel) (by decide +kernel)⟩
theorem zt_242 : zsite RX2 (38, 2, 0, 0, 18) := ⟨RX2, TX2, 5, "UnwindTower$Faults", rfl, zu_2, by decide, zw_t1 134 (by decide +kernel) (by decide +kernel), Or.inl rfl⟩
theorem zt_243 : zsite RX2 (38, 2, 1, 0, 11) := ⟨RX2, TX2, 5, "UnwindTower$Faults", rfl, zu_2, by decide, zw_t1 135 (by decide +kernel) (by decide +kernel), Or.inl rfl⟩
theorem zt_244 : zsite RX2 (38, 2, 2, 0, 15) := ⟨RX2, TX2, 5, "UnwindTower$Faults", rfl, zu_2, by decide, zw_t1 136 (by decide +kernel) (by decide +kernel), Or.inl rfl⟩
theorem zt_245 : zsite RX2 (38, 2, 3, 0, 54) := ⟨RX2, TX2, 5, "UnwindTower$Faults", rfl, zu_2, by decide, zw_t1 137 (by decide +kernel) (by decide +kernel), Or.inl rfl⟩
theorem zt_246 : zsite RX2 (38, 2, 4, 0, 26) := ⟨RX2, TX2, 5, "UnwindTower$Faults", rfl, zu_2, by decide, zw_t1 138 (by decide +kernel) (by decide +kernel), Or.inl rfl⟩
theorem zt_247 : zsite RX2 (38, 6, 0, 0, 116) := ⟨RX6, TX6, 19, "UnwindTower$Program", rfl, zu_6, by decide, zw_t1 37 (by decide +kernel) (by decide +kernel), Or.inl rfl⟩
theorem zt_248 : zsite RX2 (38, 6, 2, 0, 107) := ⟨RX6, TX6, 19, "UnwindTower$Program", rfl, zu_6, by decide, zw_t1 41 (by decide +kernel) (by decide +kernel), Or.inl rfl⟩
theorem zt_249 : zsite RX2 (38, 6, 3, 0, 104) := ⟨RX6, TX6, 19, "UnwindTower$Program", rfl, zu_6, by decide, zw_t1 44 (by decide +kernel) (by decide +kernel), Or.inl rfl⟩
theorem zt_250 : zsite RX2 (38, 6, 4, 0, 34) := ⟨RX6, TX6, 19, "UnwindTower$Program", rfl, zu_6, by decide, zw_t1 47 (by decide +kernel) (by decide +kernel), Or.inl rfl⟩
theorem zt_251 : zsite RX2 (38, 6, 5, 0, 113) := ⟨RX6, TX6, 19, "UnwindTower$Program", rfl, zu_6, by decide, zw_t1 51 (by decide +kernel) (by decide +kernel), Or.inl rfl⟩
theorem zt_252 : zsite RX2 (38, 6, 6, 0, 39) := ⟨RX6, TX6, 19, "UnwindTower$Program", rfl, zu_6, by decide, zw_t1 54 (by decide +kernel) (by decide +kernel), Or.inl rfl⟩
theorem zt_253 : zsite RX2 (38, 6, 8, 0, 73) := ⟨RX6, TX6, 19, "UnwindTower$Program", rfl, zu_6, by decide, zw_t1 60 (by decide +kernel) (by decide +kernel), Or.inl rfl⟩
theorem zt_254 : zsite RX2 (38, 6, 9, 0, 91) := ⟨RX6, TX6, 19, "UnwindTower$Program", rfl, zu_6, by decide, zw_t1 64 (by decide +kernel) (by decide +kernel), Or.inl rfl⟩
theorem zt_255 : zsite RX2 (38, 6, 10, 0, 88) := ⟨RX6, TX6, 19, "UnwindTower$Program", rfl, zu_6, by decide, zw_t1 68 (by decide +kernel) (by decide +kernel), Or.inl rfl⟩
theorem zt_256 : zsite RX2 (38, 6, 12, 0, 94) := ⟨RX6, TX6, 19, "UnwindTower$Program", rfl, zu_6, by decide, zw_t1 74 (by decide +kernel) (by decide +kernel), Or.inl rfl⟩
theorem zt_257 : zsite RX2 (38, 6, 15, 0, 82) := ⟨RX6, TX6, 19, "UnwindTower$Program", rfl, zu_6, by decide, zw_t1 79 (by decide +kernel) (by decide +kernel), Or.inl rfl⟩
theorem zt_258 : zsite RX2 (38, 6, 16, 0, 79) := ⟨RX6, TX6, 19, "UnwindTower$Program", rfl, zu_6, by decide, zw_t1 81 (by decide +kernel) (by decide +kernel), Or.inl rfl⟩
theorem zt_259 : zsite RX2 (38, 6, 17, 0, 101) := ⟨RX6, TX6, 19, "UnwindTower$Program", rfl, zu_6, by decide, zw_t1 83 (by decide +kernel) (by decide +kernel), Or.inl rfl⟩
theorem zt_260 : zsite RX2 (38, 6, 18, 0, 85) := ⟨RX6, TX6, 19, "UnwindTower$Program", rfl, zu_6, by decide, zw_t1 86 (by decide +kernel) (by decide +kernel), Or.inl rfl⟩
theorem zt_261 : zsite RX2 (40, 2, 3, 0, 54) := ⟨RX2, TX2, 5, "UnwindTower$Faults", tyX2, rfl, zu_2, by decide, zw_t1 137 (by decide +kernel) (by decide +kernel), Or.inl rfl, tyX2_ok, nmX2, rfl, (fun h => nomatch h), .inl ⟨rfl, rfl⟩⟩
theorem zt_262 : zsite RX2 (40, 2, 4, 0, 26) := ⟨RX2, TX2, 5, "UnwindTower$Faults", tyX2, rfl, zu_2, by decide, zw_t1 138 (by decide +kernel) (by decide +kernel), Or.inl rfl, tyX2_ok, nmX2, rfl, (fun h => nomatch h), .inl ⟨rfl, rfl⟩⟩
theorem zt_263 : zsite RX2 (41, 2, 0, 2, 18) := ⟨RX2, TX2, 5, "UnwindTower$Faults", tyX2, rfl, zu_2, by decide, zw_t1 134 (by decide +kernel) (by decide +kernel), Or.inl rfl, tyX2_ok, nmX2, rfl, (fun _ => rfl), .inr (.inr (.inl ⟨rfl, .inl ⟨_, rfl⟩⟩))⟩
theorem zt_264 : zsite RX2 (41, 2, 1, 2, 11) := ⟨RX2, TX2, 5, "UnwindTower$Faults", tyX2, rfl, zu_2, by decide, zw_t1 135 (by decide +kernel) (by decide +kernel), Or.inl rfl, tyX2_ok, nmX2, rfl, (fun _ => rfl), .inr (.inr (.inl ⟨rfl, .inr ⟨_, rfl⟩⟩))⟩
theorem zt_265 : zsite RX2 (41, 2, 2, 2, 15) := ⟨RX2, TX2, 5, "UnwindTower$Faults", tyX2, rfl, zu_2, by decide, zw_t1 136 (by decide +kernel) (by decide +kernel), Or.inl rfl, tyX2_ok, nmX2, rfl, (fun _ => rfl), .inr (.inr (.inl ⟨rfl, .inr ⟨_, rfl⟩⟩))⟩
theorem zt_266 : zsite RX2 (51, 0, 0, 0, 3) := ⟨zw_t1 133 (by decide +kernel) (by decide +kernel), zw_t1 27 (by decide +kernel) (by decide +kernel), zw_t1 28 (by decide +kernel) (by decide +kernel)⟩
theorem zt_267 : zsite RX2 (57, 0, 0, 0, 0) := zw_t1 127 (by decide +kernel) (by decide +kernel)
theorem zt_268 : zsite RX2 (97, 2, 2, 0, 22) := ⟨zv_2, "UnwindTower", zw_t3 184 (by decide +kernel) (by decide +kernel), zw_t3 120 (by decide +kernel) (by decide +kernel)⟩
theorem zt_269 : zsite RX2 (97, 24, 3, 0, 30) := ⟨zv_24, "UnwindTower", zw_t3 189 (by decide +kernel) (by decide +kernel), zw_t3 123 (by decide +kernel) (by decide +kernel)⟩
theorem zt_270 : zsite RX2 (100, 71, 4, 2, 42) := ⟨zv_71, zw_t3 185 (by decide +kernel) (by decide +kernel), zw_t3 186 (by decide +kernel) (by decide +kernel), _, rfl, zw_t3 187 (by decide +kernel) (by decide +kernel)⟩
theorem zv_72 : zs_cl 72 1 := ⟨zw_t3 201 rfl (by decide +kernel), zw_t1 3 (by decide +kernel) (by decide +kernel), ⟨by decide +kernel, by decide +kernel⟩, by decide +kernel, by decide +kernel⟩
theorem zt_271 : zsite RX2 (100, 72, 1, 2, 60) := ⟨zv_72, zw_t3 198 (by decide +kernel) (by decide +kernel), zw_t3 200 (by decide +kernel) (by decide +kernel), _, rfl, zw_sl 12 (by decide +kernel) (by decide +kernel)⟩
theorem zv_73 : zs_cl 73 1 := ⟨zw_t3 205 rfl (by decide +kernel), zw_t1 3 (by decide +kernel) (by decide +kernel), ⟨by decide +kernel, by decide +kernel⟩, by decide +kernel, by decide +kernel⟩
theorem zt_272 : zsite RX2 (100, 73, 1, 2, 76) := ⟨zv_73, zw_t3 202 (by decide +kernel) (by decide +kernel), zw_t3 204 (by decide +kernel) (by decide +kernel), _, rfl, zw_sl 13 (by decide +kernel) (by decide +kernel)⟩
theorem zv_75 : zs_cl 75 2 := ⟨zw_t3 193 rfl (by decide +kernel), zw_t1 3 (by decide +kernel) (by decide +kernel), ⟨by decide +kernel, by decide +kernel⟩, by decide +kernel, by decide +kernel⟩
theorem zt_273 : zsite RX2 (100, 75, 2, 2, 46) := ⟨zv_75, zw_t3 190 (by decide +kernel) (by decide +kernel), zw_t3 192 (by decide +kernel) (by decide +kernel), _, rfl, zw_sl 10 (by decide +kernel) (by decide +kernel)⟩
theorem zv_76 : zs_cl 76 1 := ⟨zw_t3 219 rfl (by decide +kernel), zw_t1 3 (by decide +kernel) (by decide +kernel), ⟨by decide +kernel, by decide +kernel⟩, by decide +kernel, by decide +kernel⟩
theorem zt_274 : zsite RX2 (100, 76, 1, 2, 50) := ⟨zv_76, zw_t3 216 (by decide +kernel) (by decide +kernel), zw_t3 218 (by decide +kernel) (by decide +kernel), _, rfl, zw_sl 14 (by decide +kernel) (by decide +kernel)⟩
theorem zv_77 : zs_cl 77 1 := ⟨zw_t3 197 rfl (by decide +kernel), zw_t1 3 (by decide +kernel) (by decide +kernel), ⟨by decide +kernel, by decide +kernel⟩, by decide +kernel, by decide +kernel⟩
theorem zt_275 : zsite RX2 (100, 77, 1, 2, 57) := ⟨zv_77, zw_t3 194 (by decide +kernel) (by decide +kernel), zw_t3 196 (by decide +kernel) (by decide +kernel), _, rfl, zw_sl 11 (by decide +kernel) (by decide +kernel)⟩
theorem zt_276 : zsite RX2 (100, 108, 1, 6, 110) := ⟨zv_108, zw_t3 220 (by decide +kernel) (by decide +kernel), zw_t3 221 (by decide +kernel) (by decide +kernel), _, rfl, zw_t3 222 (by decide +kernel) (by decide +kernel)⟩
theorem zv_120 : zs_cl 120 2 := ⟨zw_t3 209 rfl (by decide +kernel), zw_t1 2 (by decide +kernel) (by decide +kernel), ⟨by decide +kernel, by decide +kernel⟩, by decide +kernel, by decide +kernel⟩
theorem zt_277 : zsite RX2 (100, 120, 2, 6, 97) := ⟨zv_120, zw_t3 206 (by decide +kernel) (by decide +kernel), zw_t3 207 (by decide +kernel) (by decide +kernel), _, rfl, zw_t3 208 (by decide +kernel) (by decide +kernel)⟩
theorem zv_134 : zs_cl 134 1 := ⟨zw_t3 215 rfl (by decide +kernel), zw_t1 2 (by decide +kernel) (by decide +kernel), ⟨by decide +kernel, by decide +kernel⟩, by decide +kernel, by decide +kernel⟩
theorem zt_278 : zsite RX2 (100, 134, 1, 6, 70) := ⟨zv_134, zw_t3 212 (by decide +kernel) (by decide +kernel), zw_t3 213 (by decide +kernel) (by decide +kernel), _, rfl, zw_t3 214 (by decide +kernel) (by decide +kernel)⟩
theorem zv_135 : zs_cl 135 1 := ⟨zw_t3 163 rfl (by decide +kernel), zw_t1 2 (by decide +kernel) (by decide +kernel), ⟨by decide +kernel, by decide +kernel⟩, by decide +kernel, by decide +kernel⟩
theorem zt_279 : zsite RX2 (100, 135, 1, 6, 67) := ⟨zv_135, zw_t3 211 (by decide +kernel) (by decide +kernel), zw_t3 161 (by decide +kernel) (by decide +kernel), _, rfl, zw_t3 162 (by decide +kernel) (by decide +kernel)⟩
theorem zv_136 : zs_cl 136 1 := ⟨zw_t3 167 rfl (by decide +kernel), zw_t1 2 (by decide +kernel) (by decide +kernel), ⟨by decide +kernel, by decide +kernel⟩, by decide +kernel, by decide +kernel⟩
theorem zt_280 : zsite RX2 (100, 136, 1, 6, 64) := ⟨zv_136, zw_t3 210 (by decide +kernel) (by decide +kernel), zw_t3 165 (by decide +kernel) (by decide +kernel), _, rfl, zw_t3 166 (by decide +kernel) (by decide +kernel)⟩
theorem zt_281 : zsite RX3 (41, 3, 4, 2, 9) := ⟨RX3, TX3, 6, "UnwindTower$Frame", tyX3, rfl, zu_3, by decide, zw_t2 148 (by decide +kernel) (by decide +kernel), Or.inl rfl, tyX3_ok, nmX3, rfl, (fun _ => rfl), .inr (.inr (.inl ⟨rfl, .inr ⟨_, rfl⟩⟩))⟩
theorem zt_282 : zsite RX3 (41, 3, 5, 2, 15) := ⟨RX3, TX3, 6, "UnwindTower$Frame", tyX3, rfl, zu_3, by decide, zw_t2 150 (by decide +kernel) (by decide +kernel), Or.inl rfl, tyX3_ok, nmX3, rfl, (fun _ => rfl), .inr (.inr (.inl ⟨rfl, .inr ⟨_, rfl⟩⟩))⟩
theorem zt_283 : zsite RX3 (51, 0, 0, 0, 3) := ⟨zw_t2 143 (by decide +kernel) (by decide +kernel), zw_t1 27 (by decide +kernel) (by decide +kernel), zw_t1 28 (by decide +kernel) (by decide +kernel)⟩
theorem zt_284 : zsite RX3 (57, 0, 0, 0, 0) := zw_t1 127 (by decide +kernel) (by decide +kernel)
