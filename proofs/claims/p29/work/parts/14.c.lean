/-! sites -/
theorem zv_71 : zs_cl 71 4 := ⟨zw_t3 188 rfl (by decide +kernel), zw_t1 3 (by decide +kernel) (by decide +kernel), ⟨by decide +kernel, by decide +kernel⟩, by decide +kernel, by decide +kernel⟩
theorem zt_93 : zsite RX9 (100, 71, 4, 2, 393) := ⟨zv_71, zw_t4 138 (by decide +kernel) (by decide +kernel), zw_t3 186 (by decide +kernel) (by decide +kernel), _, rfl, zw_t3 187 (by decide +kernel) (by decide +kernel)⟩
theorem zv_74 : zs_cl 74 0 := ⟨zw_t3 183 rfl (by decide +kernel), zw_t1 3 (by decide +kernel) (by decide +kernel), ⟨by decide +kernel, by decide +kernel⟩, by decide +kernel, by decide +kernel⟩
theorem zt_94 : zsite RX9 (100, 74, 0, 2, 386) := ⟨zv_74, zw_t3 180 (by decide +kernel) (by decide +kernel), zw_t3 181 (by decide +kernel) (by decide +kernel), _, rfl, zw_t3 182 (by decide +kernel) (by decide +kernel)⟩
theorem zv_78 : zs_cl 78 2 := ⟨zw_t5 144 rfl (by decide +kernel), zw_t1 3 (by decide +kernel) (by decide +kernel), ⟨by decide +kernel, by decide +kernel⟩, by decide +kernel, by decide +kernel⟩
theorem zt_95 : zsite RX9 (100, 78, 2, 2, 189) := ⟨zv_78, zw_t5 141 (by decide +kernel) (by decide +kernel), zw_t5 142 (by decide +kernel) (by decide +kernel), _, rfl, zw_t5 143 (by decide +kernel) (by decide +kernel)⟩
theorem zv_86 : zs_cl 86 0 := ⟨zw_t5 152 rfl (by decide +kernel), zw_t1 8 (by decide +kernel) (by decide +kernel), ⟨by decide +kernel, by decide +kernel⟩, by decide +kernel, by decide +kernel⟩
theorem zt_96 : zsite RX9 (100, 86, 0, 4, 237) := ⟨zv_86, zw_t5 149 (by decide +kernel) (by decide +kernel), zw_t5 150 (by decide +kernel) (by decide +kernel), _, rfl, zw_t5 151 (by decide +kernel) (by decide +kernel)⟩
theorem zv_89 : zs_cl 89 2 := ⟨zw_t4 188 rfl (by decide +kernel), zw_t1 8 (by decide +kernel) (by decide +kernel), ⟨by decide +kernel, by decide +kernel⟩, by decide +kernel, by decide +kernel⟩
theorem zt_97 : zsite RX9 (100, 89, 2, 4, 222) := ⟨zv_89, zw_t4 185 (by decide +kernel) (by decide +kernel), zw_t4 186 (by decide +kernel) (by decide +kernel), _, rfl, zw_t4 187 (by decide +kernel) (by decide +kernel)⟩
theorem zv_96 : zs_cl 96 2 := ⟨zw_t5 156 rfl (by decide +kernel), zw_t1 8 (by decide +kernel) (by decide +kernel), ⟨by decide +kernel, by decide +kernel⟩, by decide +kernel, by decide +kernel⟩
theorem zt_98 : zsite RX9 (100, 96, 2, 4, 245) := ⟨zv_96, zw_t5 153 (by decide +kernel) (by decide +kernel), zw_t5 154 (by decide +kernel) (by decide +kernel), _, rfl, zw_t5 155 (by decide +kernel) (by decide +kernel)⟩
theorem zv_104 : zs_cl 104 2 := ⟨zw_t5 227 rfl (by decide +kernel), zw_t1 2 (by decide +kernel) (by decide +kernel), ⟨by decide +kernel, by decide +kernel⟩, by decide +kernel, by decide +kernel⟩
theorem zt_99 : zsite RX9 (100, 104, 2, 6, 88) := ⟨zv_104, zw_t5 224 (by decide +kernel) (by decide +kernel), zw_t5 225 (by decide +kernel) (by decide +kernel), _, rfl, zw_t5 226 (by decide +kernel) (by decide +kernel)⟩
theorem zv_105 : zs_cl 105 4 := ⟨zw_t6 58 rfl (by decide +kernel), zw_t1 2 (by decide +kernel) (by decide +kernel), ⟨by decide +kernel, by decide +kernel⟩, by decide +kernel, by decide +kernel⟩
theorem zt_100 : zsite RX9 (100, 105, 4, 6, 153) := ⟨zv_105, zw_t6 55 (by decide +kernel) (by decide +kernel), zw_t6 56 (by decide +kernel) (by decide +kernel), _, rfl, zw_t6 57 (by decide +kernel) (by decide +kernel)⟩
theorem zv_106 : zs_cl 106 1 := ⟨zw_t6 0 rfl (by decide +kernel), zw_t1 2 (by decide +kernel) (by decide +kernel), ⟨by decide +kernel, by decide +kernel⟩, by decide +kernel, by decide +kernel⟩
theorem zt_101 : zsite RX9 (100, 106, 1, 6, 116) := ⟨zv_106, zw_t5 237 (by decide +kernel) (by decide +kernel), zw_t5 238 (by decide +kernel) (by decide +kernel), _, rfl, zw_t5 239 (by decide +kernel) (by decide +kernel)⟩
theorem zv_108 : zs_cl 108 1 := ⟨zw_t3 223 rfl (by decide +kernel), zw_t1 2 (by decide +kernel) (by decide +kernel), ⟨by decide +kernel, by decide +kernel⟩, by decide +kernel, by decide +kernel⟩
theorem zt_102 : zsite RX9 (100, 108, 1, 6, 334) := ⟨zv_108, zw_t4 143 (by decide +kernel) (by decide +kernel), zw_t3 221 (by decide +kernel) (by decide +kernel), _, rfl, zw_t3 222 (by decide +kernel) (by decide +kernel)⟩
theorem zv_111 : zs_cl 111 2 := ⟨zw_t5 104 rfl (by decide +kernel), zw_t1 2 (by decide +kernel) (by decide +kernel), ⟨by decide +kernel, by decide +kernel⟩, by decide +kernel, by decide +kernel⟩
theorem zt_103 : zsite RX9 (100, 111, 2, 6, 298) := ⟨zv_111, zw_t5 101 (by decide +kernel) (by decide +kernel), zw_t5 102 (by decide +kernel) (by decide +kernel), _, rfl, zw_t5 103 (by decide +kernel) (by decide +kernel)⟩
theorem zv_112 : zs_cl 112 1 := ⟨zw_t5 127 rfl (by decide +kernel), zw_t1 2 (by decide +kernel) (by decide +kernel), ⟨by decide +kernel, by decide +kernel⟩, by decide +kernel, by decide +kernel⟩
theorem zt_104 : zsite RX9 (100, 112, 1, 6, 325) := ⟨zv_112, zw_t5 124 (by decide +kernel) (by decide +kernel), zw_t5 125 (by decide +kernel) (by decide +kernel), _, rfl, zw_t5 126 (by decide +kernel) (by decide +kernel)⟩
theorem zv_113 : zs_cl 113 0 := ⟨zw_t5 78 rfl (by decide +kernel), zw_t1 2 (by decide +kernel) (by decide +kernel), ⟨by decide +kernel, by decide +kernel⟩, by decide +kernel, by decide +kernel⟩
theorem zt_105 : zsite RX9 (100, 113, 0, 6, 370) := ⟨zv_113, zw_t5 75 (by decide +kernel) (by decide +kernel), zw_t5 76 (by decide +kernel) (by decide +kernel), _, rfl, zw_t5 77 (by decide +kernel) (by decide +kernel)⟩
theorem zv_114 : zs_cl 114 0 := ⟨zw_t3 137 rfl (by decide +kernel), zw_t1 2 (by decide +kernel) (by decide +kernel), ⟨by decide +kernel, by decide +kernel⟩, by decide +kernel, by decide +kernel⟩
theorem zt_106 : zsite RX9 (100, 114, 0, 6, 383) := ⟨zv_114, zw_t3 134 (by decide +kernel) (by decide +kernel), zw_t3 135 (by decide +kernel) (by decide +kernel), _, rfl, zw_t3 136 (by decide +kernel) (by decide +kernel)⟩
theorem zv_117 : zs_cl 117 1 := ⟨zw_t5 99 rfl (by decide +kernel), zw_t1 2 (by decide +kernel) (by decide +kernel), ⟨by decide +kernel, by decide +kernel⟩, by decide +kernel, by decide +kernel⟩
theorem zt_107 : zsite RX9 (100, 117, 1, 6, 69) := ⟨zv_117, zw_t5 96 (by decide +kernel) (by decide +kernel), zw_t5 97 (by decide +kernel) (by decide +kernel), _, rfl, zw_t5 98 (by decide +kernel) (by decide +kernel)⟩
theorem zv_118 : zs_cl 118 1 := ⟨zw_t5 95 rfl (by decide +kernel), zw_t1 2 (by decide +kernel) (by decide +kernel), ⟨by decide +kernel, by decide +kernel⟩, by decide +kernel, by decide +kernel⟩
theorem zt_108 : zsite RX9 (100, 118, 1, 6, 157) := ⟨zv_118, zw_t5 92 (by decide +kernel) (by decide +kernel), zw_t5 93 (by decide +kernel) (by decide +kernel), _, rfl, zw_t5 94 (by decide +kernel) (by decide +kernel)⟩
theorem zv_119 : zs_cl 119 1 := ⟨zw_t3 30 rfl (by decide +kernel), zw_t1 2 (by decide +kernel) (by decide +kernel), ⟨by decide +kernel, by decide +kernel⟩, by decide +kernel, by decide +kernel⟩
theorem zt_109 : zsite RX9 (100, 119, 1, 6, 120) := ⟨zv_119, zw_t3 27 (by decide +kernel) (by decide +kernel), zw_t3 28 (by decide +kernel) (by decide +kernel), _, rfl, zw_t3 29 (by decide +kernel) (by decide +kernel)⟩
theorem zv_121 : zs_cl 121 1 := ⟨zw_t6 33 rfl (by decide +kernel), zw_t1 2 (by decide +kernel) (by decide +kernel), ⟨by decide +kernel, by decide +kernel⟩, by decide +kernel, by decide +kernel⟩
theorem zt_110 : zsite RX9 (100, 121, 1, 6, 167) := ⟨zv_121, zw_t6 86 (by decide +kernel) (by decide +kernel), zw_t6 31 (by decide +kernel) (by decide +kernel), _, rfl, zw_t6 32 (by decide +kernel) (by decide +kernel)⟩
theorem zv_125 : zs_cl 125 4 := ⟨zw_t6 17 rfl (by decide +kernel), zw_t1 2 (by decide +kernel) (by decide +kernel), ⟨by decide +kernel, by decide +kernel⟩, by decide +kernel, by decide +kernel⟩
theorem zt_111 : zsite RX9 (100, 125, 4, 6, 142) := ⟨zv_125, zw_t6 14 (by decide +kernel) (by decide +kernel), zw_t6 15 (by decide +kernel) (by decide +kernel), _, rfl, zw_t6 16 (by decide +kernel) (by decide +kernel)⟩
theorem zv_127 : zs_cl 127 1 := ⟨zw_t3 102 rfl (by decide +kernel), zw_t1 2 (by decide +kernel) (by decide +kernel), ⟨by decide +kernel, by decide +kernel⟩, by decide +kernel, by decide +kernel⟩
theorem zt_112 : zsite RX9 (100, 127, 1, 6, 106) := ⟨zv_127, zw_t3 99 (by decide +kernel) (by decide +kernel), zw_t3 100 (by decide +kernel) (by decide +kernel), _, rfl, zw_t3 101 (by decide +kernel) (by decide +kernel)⟩
theorem zv_128 : zs_cl 128 1 := ⟨zw_t6 38 rfl (by decide +kernel), zw_t1 2 (by decide +kernel) (by decide +kernel), ⟨by decide +kernel, by decide +kernel⟩, by decide +kernel, by decide +kernel⟩
theorem zt_113 : zsite RX9 (100, 128, 1, 6, 162) := ⟨zv_128, zw_t6 84 (by decide +kernel) (by decide +kernel), zw_t6 36 (by decide +kernel) (by decide +kernel), _, rfl, zw_t6 37 (by decide +kernel) (by decide +kernel)⟩
theorem zv_137 : zs_cl 137 2 := ⟨zw_t6 91 rfl (by decide +kernel), zw_t1 2 (by decide +kernel) (by decide +kernel), ⟨by decide +kernel, by decide +kernel⟩, by decide +kernel, by decide +kernel⟩
theorem zt_114 : zsite RX9 (100, 137, 2, 6, 172) := ⟨zv_137, zw_t6 88 (by decide +kernel) (by decide +kernel), zw_t6 89 (by decide +kernel) (by decide +kernel), _, rfl, zw_t6 90 (by decide +kernel) (by decide +kernel)⟩
theorem zv_141 : zs_cl 141 2 := ⟨zw_t5 55 rfl (by decide +kernel), zw_t1 4 (by decide +kernel) (by decide +kernel), ⟨by decide +kernel, by decide +kernel⟩, by decide +kernel, by decide +kernel⟩
theorem zt_115 : zsite RX9 (100, 141, 2, 7, 213) := ⟨zv_141, zw_t5 136 (by decide +kernel) (by decide +kernel), zw_t5 53 (by decide +kernel) (by decide +kernel), _, rfl, zw_t5 54 (by decide +kernel) (by decide +kernel)⟩
theorem zv_146 : zs_cl 146 1 := ⟨zw_t5 160 rfl (by decide +kernel), zw_t1 9 (by decide +kernel) (by decide +kernel), ⟨by decide +kernel, by decide +kernel⟩, by decide +kernel, by decide +kernel⟩
theorem zt_116 : zsite RX9 (100, 146, 1, 8, 252) := ⟨zv_146, zw_t5 157 (by decide +kernel) (by decide +kernel), zw_t5 158 (by decide +kernel) (by decide +kernel), _, rfl, zw_t5 159 (by decide +kernel) (by decide +kernel)⟩
theorem zv_148 : zs_cl 148 2 := ⟨zw_t5 168 rfl (by decide +kernel), zw_t1 9 (by decide +kernel) (by decide +kernel), ⟨by decide +kernel, by decide +kernel⟩, by decide +kernel, by decide +kernel⟩
theorem zt_117 : zsite RX9 (100, 148, 2, 8, 259) := ⟨zv_148, zw_t5 165 (by decide +kernel) (by decide +kernel), zw_t5 166 (by decide +kernel) (by decide +kernel), _, rfl, zw_t5 167 (by decide +kernel) (by decide +kernel)⟩
theorem zv_149 : zs_cl 149 2 := ⟨zw_t5 172 rfl (by decide +kernel), zw_t1 9 (by decide +kernel) (by decide +kernel), ⟨by decide +kernel, by decide +kernel⟩, by decide +kernel, by decide +kernel⟩
theorem zt_118 : zsite RX9 (100, 149, 2, 8, 279) := ⟨zv_149, zw_t5 169 (by decide +kernel) (by decide +kernel), zw_t5 170 (by decide +kernel) (by decide +kernel), _, rfl, zw_t5 171 (by decide +kernel) (by decide +kernel)⟩
theorem zt_119 : zsite RX0 (38, 0, 0, 0, 36) := ⟨RX0, TX0, 13, "UnwindTower$Code", rfl, zu_0, by decide, zw_t1 173 (by decide +kernel) (by decide +kernel), Or.inl rfl⟩
theorem zt_120 : zsite RX0 (38, 0, 2, 0, 9) := ⟨RX0, TX0, 13, "UnwindTower$Code", rfl, zu_0, by decide, zw_t1 179 (by decide +kernel) (by decide +kernel), Or.inl rfl⟩
theorem zt_121 : zsite RX0 (38, 0, 3, 0, 15) := ⟨RX0, TX0, 13, "UnwindTower$Code", rfl, zu_0, by decide, zw_t1 182 (by decide +kernel) (by decide +kernel), Or.inl rfl⟩
theorem zt_122 : zsite RX0 (38, 0, 4, 0, 18) := ⟨RX0, TX0, 13, "UnwindTower$Code", rfl, zu_0, by decide, zw_t1 185 (by decide +kernel) (by decide +kernel), Or.inl rfl⟩
theorem zt_123 : zsite RX0 (38, 0, 5, 0, 21) := ⟨RX0, TX0, 13, "UnwindTower$Code", rfl, zu_0, by decide, zw_t1 187 (by decide +kernel) (by decide +kernel), Or.inl rfl⟩
theorem zt_124 : zsite RX0 (38, 0, 6, 0, 24) := ⟨RX0, TX0, 13, "UnwindTower$Code", rfl, zu_0, by decide, zw_t1 189 (by decide +kernel) (by decide +kernel), Or.inl rfl⟩
theorem zt_125 : zsite RX0 (38, 0, 7, 0, 27) := ⟨RX0, TX0, 13, "UnwindTower$Code", rfl, zu_0, by decide, zw_t1 191 (by decide +kernel) (by decide +kernel), Or.inl rfl⟩
theorem zt_126 : zsite RX0 (38, 0, 8, 0, 30) := ⟨RX0, TX0, 13, "UnwindTower$Code", rfl, zu_0, by decide, zw_t1 193 (by decide +kernel) (by decide +kernel), Or.inl rfl⟩
theorem zt_127 : zsite RX0 (38, 0, 9, 0, 33) := ⟨RX0, TX0, 13, "UnwindTower$Code", rfl, zu_0, by decide, zw_t1 195 (by decide +kernel) (by decide +kernel), Or.inl rfl⟩
theorem zt_128 : zsite RX0 (38, 0, 10, 0, 44) := ⟨RX0, TX0, 13, "UnwindTower$Code", rfl, zu_0, by decide, zw_t1 197 (by decide +kernel) (by decide +kernel), Or.inl rfl⟩
theorem zt_129 : zsite RX0 (40, 0, 0, 0, 36) := ⟨RX0, TX0, 13, "UnwindTower$Code", tyX0, rfl, zu_0, by decide, zw_t1 173 (by decide +kernel) (by decide +kernel), Or.inl rfl, tyX0_ok, nmX0, rfl, (fun h => nomatch h), .inl ⟨rfl, rfl⟩⟩
theorem zt_130 : zsite RX0 (40, 0, 1, 1, 40) := ⟨RX0, TX0, 13, "UnwindTower$Code", tyX0, rfl, zu_0, by decide, zw_t1 177 (by decide +kernel) (by decide +kernel), Or.inl rfl, tyX0_ok, nmX0, rfl, (fun h => nomatch h), .inr (.inl ⟨rfl, rfl⟩)⟩
theorem zt_131 : zsite RX0 (40, 0, 10, 0, 44) := ⟨RX0, TX0, 13, "UnwindTower$Code", tyX0, rfl, zu_0, by decide, zw_t1 197 (by decide +kernel) (by decide +kernel), Or.inl rfl, tyX0_ok, nmX0, rfl, (fun h => nomatch h), .inl ⟨rfl, rfl⟩⟩
theorem zt_132 : zsite RX0 (40, 0, 12, 0, 47) := ⟨RX0, TX0, 13, "UnwindTower$Code", tyX0, rfl, zu_0, by decide, zw_t1 201 (by decide +kernel) (by decide +kernel), Or.inl rfl, tyX0_ok, nmX0, rfl, (fun h => nomatch h), .inl ⟨rfl, rfl⟩⟩
theorem zt_133 : zsite RX0 (41, 0, 2, 2, 9) := ⟨RX0, TX0, 13, "UnwindTower$Code", tyX0, rfl, zu_0, by decide, zw_t1 179 (by decide +kernel) (by decide +kernel), Or.inl rfl, tyX0_ok, nmX0, rfl, (fun _ => rfl), .inr (.inr (.inl ⟨rfl, .inr ⟨_, rfl⟩⟩))⟩
theorem zt_134 : zsite RX0 (41, 0, 3, 2, 15) := ⟨RX0, TX0, 13, "UnwindTower$Code", tyX0, rfl, zu_0, by decide, zw_t1 182 (by decide +kernel) (by decide +kernel), Or.inl rfl, tyX0_ok, nmX0, rfl, (fun _ => rfl), .inr (.inr (.inl ⟨rfl, .inr ⟨_, rfl⟩⟩))⟩
theorem zt_135 : zsite RX0 (41, 0, 4, 2, 18) := ⟨RX0, TX0, 13, "UnwindTower$Code", tyX0, rfl, zu_0, by decide, zw_t1 185 (by decide +kernel) (by decide +kernel), Or.inl rfl, tyX0_ok, nmX0, rfl, (fun _ => rfl), .inr (.inr (.inl ⟨rfl, .inr ⟨_, rfl⟩⟩))⟩
theorem zt_136 : zsite RX0 (41, 0, 5, 2, 21) := ⟨RX0, TX0, 13, "UnwindTower$Code", tyX0, rfl, zu_0, by decide, zw_t1 187 (by decide +kernel) (by decide +kernel), Or.inl rfl, tyX0_ok, nmX0, rfl, (fun _ => rfl), .inr (.inr (.inl ⟨rfl, .inr ⟨_, rfl⟩⟩))⟩
theorem zt_137 : zsite RX0 (41, 0, 6, 2, 24) := ⟨RX0, TX0, 13, "UnwindTower$Code", tyX0, rfl, zu_0, by decide, zw_t1 189 (by decide +kernel) (by decide +kernel), Or.inl rfl, tyX0_ok, nmX0, rfl, (fun _ => rfl), .inr (.inr (.inl ⟨rfl, .inr ⟨_, rfl⟩⟩))⟩
theorem zt_138 : zsite RX0 (41, 0, 7, 2, 27) := ⟨RX0, TX0, 13, "UnwindTower$Code", tyX0, rfl, zu_0, by decide, zw_t1 191 (by decide +kernel) (by decide +kernel), Or.inl rfl, tyX0_ok, nmX0, rfl, (fun _ => rfl), .inr (.inr (.inl ⟨rfl, .inr ⟨_, rfl⟩⟩))⟩
theorem zt_139 : zsite RX0 (41, 0, 8, 2, 30) := ⟨RX0, TX0, 13, "UnwindTower$Code", tyX0, rfl, zu_0, by decide, zw_t1 193 (by decide +kernel) (by decide +kernel), Or.inl rfl, tyX0_ok, nmX0, rfl, (fun _ => rfl), .inr (.inr (.inl ⟨rfl, .inr ⟨_, rfl⟩⟩))⟩
theorem zt_140 : zsite RX0 (41, 0, 9, 2, 33) := ⟨RX0, TX0, 13, "UnwindTower$Code", tyX0, rfl, zu_0, by decide, zw_t1 195 (by decide +kernel) (by decide +kernel), Or.inl rfl, tyX0_ok, nmX0, rfl, (fun _ => rfl), .inr (.inr (.inl ⟨rfl, .inr ⟨_, rfl⟩⟩))⟩
theorem zt_141 : zsite RX0 (51, 0, 0, 0, 3) := ⟨zw_t1 172 (by decide +kernel) (by decide +kernel), zw_t1 27 (by decide +kernel) (by decide +kernel), zw_t1 28 (by decide +kernel) (by decide +kernel)⟩
theorem zt_142 : zsite RX0 (57, 0, 0, 0, 0) := zw_t1 127 (by decide +kernel) (by decide +kernel)
theorem zv_170 : zs_cl 170 2 := ⟨zw_t3 237 rfl (by decide +kernel), zw_t1 19 (by decide +kernel) (by decide +kernel), ⟨by decide +kernel, by decide +kernel⟩, by decide +kernel, by decide +kernel⟩
theorem zt_143 : zsite RX0 (96, 170, 2, 0, 50) := ⟨zv_170, zw_t3 235 (by decide +kernel) (by decide +kernel), zw_t3 236 (by decide +kernel) (by decide +kernel)⟩
theorem zt_144 : zsite RX0 (97, 2, 2, 0, 56) := ⟨zv_2, "UnwindTower", zw_t4 11 (by decide +kernel) (by decide +kernel), zw_t3 120 (by decide +kernel) (by decide +kernel)⟩
theorem zv_12 : zs_cl 12 2 := ⟨zw_t4 15 rfl (by decide +kernel), zw_t1 1 (by decide +kernel) (by decide +kernel), ⟨by decide +kernel, by decide +kernel⟩, by decide +kernel, by decide +kernel⟩
theorem zt_145 : zsite RX0 (97, 12, 2, 0, 64) := ⟨zv_12, "UnwindTower", zw_t4 13 (by decide +kernel) (by decide +kernel), zw_t4 14 (by decide +kernel) (by decide +kernel)⟩
theorem zt_146 : zsite RX0 (97, 24, 3, 0, 60) := ⟨zv_24, "UnwindTower", zw_t4 12 (by decide +kernel) (by decide +kernel), zw_t3 123 (by decide +kernel) (by decide +kernel)⟩
theorem zt_147 : zsite RX1 (38, 0, 0, 0, 170) := ⟨RX0, TX0, 13, "UnwindTower$Code", rfl, zu_0, by decide, zw_t1 174 (by decide +kernel) (by decide +kernel), Or.inl rfl⟩
theorem zt_148 : zsite RX1 (38, 0, 1, 0, 126) := ⟨RX0, TX0, 13, "UnwindTower$Code", rfl, zu_0, by decide, zw_t1 178 (by decide +kernel) (by decide +kernel), Or.inl rfl⟩
theorem zt_149 : zsite RX1 (38, 0, 2, 0, 222) := ⟨RX0, TX0, 13, "UnwindTower$Code", rfl, zu_0, by decide, zw_t1 181 (by decide +kernel) (by decide +kernel), Or.inl rfl⟩
theorem zt_150 : zsite RX1 (38, 0, 3, 0, 238) := ⟨RX0, TX0, 13, "UnwindTower$Code", rfl, zu_0, by decide, zw_t1 184 (by decide +kernel) (by decide +kernel), Or.inl rfl⟩
theorem zt_151 : zsite RX1 (38, 0, 11, 0, 75) := ⟨RX0, TX0, 13, "UnwindTower$Code", rfl, zu_0, by decide, zw_t1 198 (by decide +kernel) (by decide +kernel), Or.inl rfl⟩
theorem zt_152 : zsite RX1 (38, 1, 0, 0, 39) := ⟨RX1, TX1, 15, "UnwindTower$Compiler", rfl, zu_1, by decide, zw_t2 30 (by decide +kernel) (by decide +kernel), Or.inl rfl⟩
theorem zt_153 : zsite RX1 (38, 1, 1, 0, 43) := ⟨RX1, TX1, 15, "UnwindTower$Compiler", rfl, zu_1, by decide, zw_t2 31 (by decide +kernel) (by decide +kernel), Or.inl rfl⟩
theorem zt_154 : zsite RX1 (38, 1, 2, 0, 47) := ⟨RX1, TX1, 15, "UnwindTower$Compiler", rfl, zu_1, by decide, zw_t2 32 (by decide +kernel) (by decide +kernel), Or.inl rfl⟩
theorem zt_155 : zsite RX1 (38, 1, 3, 0, 11) := ⟨RX1, TX1, 15, "UnwindTower$Compiler", rfl, zu_1, by decide, zw_t2 33 (by decide +kernel) (by decide +kernel), Or.inl rfl⟩
theorem zt_156 : zsite RX1 (38, 1, 4, 0, 17) := ⟨RX1, TX1, 15, "UnwindTower$Compiler", rfl, zu_1, by decide, zw_t2 34 (by decide +kernel) (by decide +kernel), Or.inl rfl⟩
theorem zt_157 : zsite RX1 (38, 1, 5, 0, 21) := ⟨RX1, TX1, 15, "UnwindTower$Compiler", rfl, zu_1, by decide, zw_t2 35 (by decide +kernel) (by decide +kernel), Or.inl rfl⟩
theorem zt_158 : zsite RX1 (38, 1, 6, 0, 24) := ⟨RX1, TX1, 15, "UnwindTower$Compiler", rfl, zu_1, by decide, zw_t2 36 (by decide +kernel) (by decide +kernel), Or.inl rfl⟩
theorem zt_159 : zsite RX1 (38, 1, 7, 0, 78) := ⟨RX1, TX1, 15, "UnwindTower$Compiler", rfl, zu_1, by decide, zw_t2 37 (by decide +kernel) (by decide +kernel), Or.inl rfl⟩
theorem zt_160 : zsite RX1 (38, 1, 8, 0, 27) := ⟨RX1, TX1, 15, "UnwindTower$Compiler", rfl, zu_1, by decide, zw_t2 38 (by decide +kernel) (by decide +kernel), Or.inl rfl⟩
theorem zt_161 : zsite RX1 (38, 1, 9, 0, 30) := ⟨RX1, TX1, 15, "UnwindTower$Compiler", rfl, zu_1, by decide, zw_t2 39 (by decide +kernel) (by decide +kernel), Or.inl rfl⟩
theorem zt_162 : zsite RX1 (38, 1, 10, 0, 81) := ⟨RX1, TX1, 15, "UnwindTower$Compiler", rfl, zu_1, by decide, zw_t2 40 (by decide +kernel) (by decide +kernel), Or.inl rfl⟩
theorem zt_163 : zsite RX1 (38, 1, 11, 0, 33) := ⟨RX1, TX1, 15, "UnwindTower$Compiler", rfl, zu_1, by decide, zw_t2 41 (by decide +kernel) (by decide +kernel), Or.inl rfl⟩
theorem zt_164 : zsite RX1 (38, 1, 12, 0, 36) := ⟨RX1, TX1, 15, "UnwindTower$Compiler", rfl, zu_1, by decide, zw_t2 42 (by decide +kernel) (by decide +kernel), Or.inl rfl⟩
theorem zt_165 : zsite RX1 (38, 1, 13, 0, 51) := ⟨RX1, TX1, 15, "UnwindTower$Compiler", rfl, zu_1, by decide, zw_t2 43 (by decide +kernel) (by decide +kernel), Or.inl rfl⟩
theorem zt_166 : zsite RX1 (38, 1, 14, 0, 56) := ⟨RX1, TX1, 15, "UnwindTower$Compiler", rfl, zu_1, by decide, zw_t2 44 (by decide +kernel) (by decide +kernel), Or.inl rfl⟩
theorem zt_167 : zsite RX1 (38, 5, 0, 0, 88) := ⟨RX5, TX5, 6, "UnwindTower$Place", rfl, zu_5, by decide, zw_t2 6 (by decide +kernel) (by decide +kernel), Or.inl rfl⟩
theorem zt_168 : zsite RX1 (38, 5, 1, 0, 91) := ⟨RX5, TX5, 6, "UnwindTower$Place", rfl, zu_5, by decide, zw_t2 8 (by decide +kernel) (by decide +kernel), Or.inl rfl⟩
theorem zt_169 : zsite RX1 (38, 5, 2, 0, 94) := ⟨RX5, TX5, 6, "UnwindTower$Place", rfl, zu_5, by decide, zw_t2 10 (by decide +kernel) (by decide +kernel), Or.inl rfl⟩
theorem zt_170 : zsite RX1 (38, 5, 3, 0, 97) := ⟨RX5, TX5, 6, "UnwindTower$Place", rfl, zu_5, by decide, zw_t2 12 (by decide +kernel) (by decide +kernel), Or.inl rfl⟩
theorem zt_171 : zsite RX1 (38, 5, 4, 0, 100) := ⟨RX5, TX5, 6, "UnwindTower$Place", rfl, zu_5, by decide, zw_t2 14 (by decide +kernel) (by decide +kernel), Or.inl rfl⟩
theorem zt_172 : zsite RX1 (38, 5, 5, 0, 103) := ⟨RX5, TX5, 6, "UnwindTower$Place", rfl, zu_5, by decide, zw_t2 16 (by decide +kernel) (by decide +kernel), Or.inl rfl⟩
theorem zt_173 : zsite RX1 (38, 6, 6, 0, 106) := ⟨RX6, TX6, 19, "UnwindTower$Program", rfl, zu_6, by decide, zw_t1 53 (by decide +kernel) (by decide +kernel), Or.inl rfl⟩
theorem zt_174 : zsite RX1 (38, 6, 8, 0, 133) := ⟨RX6, TX6, 19, "UnwindTower$Program", rfl, zu_6, by decide, zw_t1 59 (by decide +kernel) (by decide +kernel), Or.inl rfl⟩
theorem zt_175 : zsite RX1 (38, 6, 9, 0, 167) := ⟨RX6, TX6, 19, "UnwindTower$Program", rfl, zu_6, by decide, zw_t1 63 (by decide +kernel) (by decide +kernel), Or.inl rfl⟩
theorem zt_176 : zsite RX1 (38, 6, 10, 0, 139) := ⟨RX6, TX6, 19, "UnwindTower$Program", rfl, zu_6, by decide, zw_t1 67 (by decide +kernel) (by decide +kernel), Or.inl rfl⟩
theorem zt_177 : zsite RX1 (38, 6, 11, 0, 142) := ⟨RX6, TX6, 19, "UnwindTower$Program", rfl, zu_6, by decide, zw_t1 71 (by decide +kernel) (by decide +kernel), Or.inl rfl⟩
theorem zt_178 : zsite RX1 (38, 7, 1, 0, 69) := ⟨RX7, TX7, 2, "UnwindTower$Table", rfl, zu_7, by decide, zw_t1 159 (by decide +kernel) (by decide +kernel), Or.inl rfl⟩
theorem zt_179 : zsite RX1 (40, 0, 1, 1, 126) := ⟨RX0, TX0, 13, "UnwindTower$Code", tyX0, rfl, zu_0, by decide, zw_t1 178 (by decide +kernel) (by decide +kernel), Or.inl rfl, tyX0_ok, nmX0, rfl, (fun h => nomatch h), .inr (.inl ⟨rfl, rfl⟩)⟩
theorem zt_180 : zsite RX1 (40, 0, 11, 0, 75) := ⟨RX0, TX0, 13, "UnwindTower$Code", tyX0, rfl, zu_0, by decide, zw_t1 198 (by decide +kernel) (by decide +kernel), Or.inl rfl, tyX0_ok, nmX0, rfl, (fun h => nomatch h), .inl ⟨rfl, rfl⟩⟩
theorem zt_181 : zsite RX1 (40, 0, 12, 0, 123) := ⟨RX0, TX0, 13, "UnwindTower$Code", tyX0, rfl, zu_0, by decide, zw_t1 202 (by decide +kernel) (by decide +kernel), Or.inl rfl, tyX0_ok, nmX0, rfl, (fun h => nomatch h), .inl ⟨rfl, rfl⟩⟩
theorem zt_182 : zsite RX1 (40, 1, 7, 0, 78) := ⟨RX1, TX1, 15, "UnwindTower$Compiler", tyX1, rfl, zu_1, by decide, zw_t2 37 (by decide +kernel) (by decide +kernel), Or.inl rfl, tyX1_ok, nmX1, rfl, (fun h => nomatch h), .inl ⟨rfl, rfl⟩⟩
theorem zt_183 : zsite RX1 (40, 1, 10, 0, 81) := ⟨RX1, TX1, 15, "UnwindTower$Compiler", tyX1, rfl, zu_1, by decide, zw_t2 40 (by decide +kernel) (by decide +kernel), Or.inl rfl, tyX1_ok, nmX1, rfl, (fun h => nomatch h), .inl ⟨rfl, rfl⟩⟩
theorem zt_184 : zsite RX1 (40, 1, 13, 2, 51) := ⟨RX1, TX1, 15, "UnwindTower$Compiler", tyX1, rfl, zu_1, by decide, zw_t2 43 (by decide +kernel) (by decide +kernel), Or.inl rfl, tyX1_ok, nmX1, rfl, (fun h => nomatch h), .inr (.inr (.inl ⟨rfl, .inl ⟨_, rfl⟩⟩))⟩
theorem zt_185 : zsite RX1 (40, 1, 14, 1, 56) := ⟨RX1, TX1, 15, "UnwindTower$Compiler", tyX1, rfl, zu_1, by decide, zw_t2 44 (by decide +kernel) (by decide +kernel), Or.inl rfl, tyX1_ok, nmX1, rfl, (fun h => nomatch h), .inr (.inl ⟨rfl, rfl⟩)⟩
theorem zt_186 : zsite RX1 (40, 5, 0, 0, 88) := ⟨RX5, TX5, 6, "UnwindTower$Place", tyX5, rfl, zu_5, by decide, zw_t2 6 (by decide +kernel) (by decide +kernel), Or.inl rfl, tyX5_ok, nmX5, rfl, (fun h => nomatch h), .inl ⟨rfl, rfl⟩⟩
theorem zt_187 : zsite RX1 (40, 5, 1, 0, 91) := ⟨RX5, TX5, 6, "UnwindTower$Place", tyX5, rfl, zu_5, by decide, zw_t2 8 (by decide +kernel) (by decide +kernel), Or.inl rfl, tyX5_ok, nmX5, rfl, (fun h => nomatch h), .inl ⟨rfl, rfl⟩⟩
theorem zt_188 : zsite RX1 (40, 5, 2, 0, 94) := ⟨RX5, TX5, 6, "UnwindTower$Place", tyX5, rfl, zu_5, by decide, zw_t2 10 (by decide +kernel) (by decide +kernel), Or.inl rfl, tyX5_ok, nmX5, rfl, (fun h => nomatch h), .inl ⟨rfl, rfl⟩⟩
theorem zt_189 : zsite RX1 (40, 5, 3, 0, 97) := ⟨RX5, TX5, 6, "UnwindTower$Place", tyX5, rfl, zu_5, by decide, zw_t2 12 (by decide +kernel) (by decide +kernel), Or.inl rfl, tyX5_ok, nmX5, rfl, (fun h => nomatch h), .inl ⟨rfl, rfl⟩⟩
theorem zt_190 : zsite RX1 (40, 5, 4, 0, 100) := ⟨RX5, TX5, 6, "UnwindTower$Place", tyX5, rfl, zu_5, by decide, zw_t2 14 (by decide +kernel) (by decide +kernel), Or.inl rfl, tyX5_ok, nmX5, rfl, (fun h => nomatch h), .inl ⟨rfl, rfl⟩⟩
theorem zt_191 : zsite RX1 (40, 5, 5, 0, 103) := ⟨RX5, TX5, 6, "UnwindTower$Place", tyX5, rfl, zu_5, by decide, zw_t2 16 (by decide +kernel) (by decide +kernel), Or.inl rfl, tyX5_ok, nmX5, rfl, (fun h => nomatch h), .inl ⟨rfl, rfl⟩⟩
theorem zt_192 : zsite RX1 (41, 1, 0, 2, 39) := ⟨RX1, TX1, 15, "UnwindTower$Compiler", tyX1, rfl, zu_1, by decide, zw_t2 30 (by decide +kernel) (by decide +kernel), Or.inl rfl, tyX1_ok, nmX1, rfl, (fun _ => rfl), .inr (.inr (.inl ⟨rfl, .inl ⟨_, rfl⟩⟩))⟩
theorem zt_193 : zsite RX1 (41, 1, 1, 2, 43) := ⟨RX1, TX1, 15, "UnwindTower$Compiler", tyX1, rfl, zu_1, by decide, zw_t2 31 (by decide +kernel) (by decide +kernel), Or.inl rfl, tyX1_ok, nmX1, rfl, (fun _ => rfl), .inr (.inr (.inl ⟨rfl, .inr ⟨_, rfl⟩⟩))⟩
theorem zt_194 : zsite RX1 (41, 1, 2, 2, 47) := ⟨RX1, TX1, 15, "UnwindTower$Compiler", tyX1, rfl, zu_1, by decide, zw_t2 32 (by decide +kernel) (by decide +kernel), Or.inl rfl, tyX1_ok, nmX1, rfl, (fun _ => rfl), .inr (.inr (.inl ⟨rfl, .inl ⟨_, rfl⟩⟩))⟩
