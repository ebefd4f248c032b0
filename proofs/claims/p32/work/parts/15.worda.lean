set_option maxRecDepth 100000 in
theorem fl_X6_9 : FL RX6 9 6 0 := ⟨(RX6, TX6, 5), rfl, by decide, in_at 49 (by decide +kernel) (by decide +kernel)⟩
set_option maxRecDepth 100000 in
theorem fl_X5_108 : FL RX5 108 6 0 := ⟨(RX6, TX6, 5), rfl, by decide, in_at 50 (by decide +kernel) (by decide +kernel)⟩
set_option maxRecDepth 100000 in
theorem fl_X6_15 : FL RX6 15 6 1 := ⟨(RX6, TX6, 5), rfl, by decide, in_at 51 (by decide +kernel) (by decide +kernel)⟩
set_option maxRecDepth 100000 in
theorem fl_X5_111 : FL RX5 111 6 1 := ⟨(RX6, TX6, 5), rfl, by decide, in_at 52 (by decide +kernel) (by decide +kernel)⟩
set_option maxRecDepth 100000 in
theorem fl_X6_18 : FL RX6 18 6 2 := ⟨(RX6, TX6, 5), rfl, by decide, in_at 53 (by decide +kernel) (by decide +kernel)⟩
set_option maxRecDepth 100000 in
theorem fl_X5_114 : FL RX5 114 6 2 := ⟨(RX6, TX6, 5), rfl, by decide, in_at 54 (by decide +kernel) (by decide +kernel)⟩
set_option maxRecDepth 100000 in
theorem fl_X6_21 : FL RX6 21 6 3 := ⟨(RX6, TX6, 5), rfl, by decide, in_at 55 (by decide +kernel) (by decide +kernel)⟩
set_option maxRecDepth 100000 in
theorem fl_X5_77 : FL RX5 77 6 3 := ⟨(RX6, TX6, 5), rfl, by decide, in_at 56 (by decide +kernel) (by decide +kernel)⟩
set_option maxRecDepth 100000 in
theorem fl_X6_25 : FL RX6 25 6 4 := ⟨(RX6, TX6, 5), rfl, by decide, in_at 57 (by decide +kernel) (by decide +kernel)⟩
set_option maxRecDepth 100000 in
theorem fl_X5_89 : FL RX5 89 6 4 := ⟨(RX6, TX6, 5), rfl, by decide, in_at 58 (by decide +kernel) (by decide +kernel)⟩
set_option maxRecDepth 100000 in
theorem fl_X4_9 : FL RX4 9 4 0 := ⟨(RX4, TX4, 10), rfl, by decide, in_at 77 (by decide +kernel) (by decide +kernel)⟩
set_option maxRecDepth 100000 in
theorem fl_X5_177 : FL RX5 177 4 0 := ⟨(RX4, TX4, 10), rfl, by decide, in_at 78 (by decide +kernel) (by decide +kernel)⟩
set_option maxRecDepth 100000 in
theorem fl_X4_15 : FL RX4 15 4 1 := ⟨(RX4, TX4, 10), rfl, by decide, in_at 79 (by decide +kernel) (by decide +kernel)⟩
set_option maxRecDepth 100000 in
theorem fl_X5_246 : FL RX5 246 4 1 := ⟨(RX4, TX4, 10), rfl, by decide, in_at 80 (by decide +kernel) (by decide +kernel)⟩
set_option maxRecDepth 100000 in
theorem fl_X4_18 : FL RX4 18 4 2 := ⟨(RX4, TX4, 10), rfl, by decide, in_at 81 (by decide +kernel) (by decide +kernel)⟩
set_option maxRecDepth 100000 in
theorem fl_X5_224 : FL RX5 224 4 2 := ⟨(RX4, TX4, 10), rfl, by decide, in_at 82 (by decide +kernel) (by decide +kernel)⟩
set_option maxRecDepth 100000 in
theorem fl_X4_21 : FL RX4 21 4 3 := ⟨(RX4, TX4, 10), rfl, by decide, in_at 83 (by decide +kernel) (by decide +kernel)⟩
set_option maxRecDepth 100000 in
theorem fl_X5_193 : FL RX5 193 4 3 := ⟨(RX4, TX4, 10), rfl, by decide, in_at 84 (by decide +kernel) (by decide +kernel)⟩
set_option maxRecDepth 100000 in
theorem fl_X4_24 : FL RX4 24 4 4 := ⟨(RX4, TX4, 10), rfl, by decide, in_at 85 (by decide +kernel) (by decide +kernel)⟩
set_option maxRecDepth 100000 in
theorem fl_X5_187 : FL RX5 187 4 4 := ⟨(RX4, TX4, 10), rfl, by decide, in_at 86 (by decide +kernel) (by decide +kernel)⟩
set_option maxRecDepth 100000 in
theorem fl_X4_27 : FL RX4 27 4 5 := ⟨(RX4, TX4, 10), rfl, by decide, in_at 87 (by decide +kernel) (by decide +kernel)⟩
set_option maxRecDepth 100000 in
theorem fl_X5_215 : FL RX5 215 4 5 := ⟨(RX4, TX4, 10), rfl, by decide, in_at 88 (by decide +kernel) (by decide +kernel)⟩
set_option maxRecDepth 100000 in
theorem fl_X4_30 : FL RX4 30 4 6 := ⟨(RX4, TX4, 10), rfl, by decide, in_at 89 (by decide +kernel) (by decide +kernel)⟩
set_option maxRecDepth 100000 in
theorem fl_X5_206 : FL RX5 206 4 6 := ⟨(RX4, TX4, 10), rfl, by decide, in_at 90 (by decide +kernel) (by decide +kernel)⟩
set_option maxRecDepth 100000 in
theorem fl_X7_198 : FL RX7 198 4 6 := ⟨(RX4, TX4, 10), rfl, by decide, in_at 91 (by decide +kernel) (by decide +kernel)⟩
set_option maxRecDepth 100000 in
theorem fl_X4_33 : FL RX4 33 4 7 := ⟨(RX4, TX4, 10), rfl, by decide, in_at 92 (by decide +kernel) (by decide +kernel)⟩
set_option maxRecDepth 100000 in
theorem fl_X5_95 : FL RX5 95 4 7 := ⟨(RX4, TX4, 10), rfl, by decide, in_at 93 (by decide +kernel) (by decide +kernel)⟩
set_option maxRecDepth 100000 in
theorem fl_X7_150 : FL RX7 150 4 7 := ⟨(RX4, TX4, 10), rfl, by decide, in_at 94 (by decide +kernel) (by decide +kernel)⟩
set_option maxRecDepth 100000 in
theorem fl_X4_37 : FL RX4 37 4 8 := ⟨(RX4, TX4, 10), rfl, by decide, in_at 95 (by decide +kernel) (by decide +kernel)⟩
set_option maxRecDepth 100000 in
theorem fl_X7_94 : FL RX7 94 4 8 := ⟨(RX4, TX4, 10), rfl, by decide, in_at 96 (by decide +kernel) (by decide +kernel)⟩
set_option maxRecDepth 100000 in
theorem fl_X5_92 : FL RX5 92 4 8 := ⟨(RX4, TX4, 10), rfl, by decide, in_at 97 (by decide +kernel) (by decide +kernel)⟩
set_option maxRecDepth 100000 in
theorem fl_X4_40 : FL RX4 40 4 9 := ⟨(RX4, TX4, 10), rfl, by decide, in_at 98 (by decide +kernel) (by decide +kernel)⟩
set_option maxRecDepth 100000 in
theorem fl_X5_237 : FL RX5 237 4 9 := ⟨(RX4, TX4, 10), rfl, by decide, in_at 99 (by decide +kernel) (by decide +kernel)⟩
set_option maxRecDepth 100000 in
theorem fl_X3_9 : FL RX3 9 3 0 := ⟨(RX3, TX3, 14), rfl, by decide, in_at 128 (by decide +kernel) (by decide +kernel)⟩
set_option maxRecDepth 100000 in
theorem fl_X3_15 : FL RX3 15 3 1 := ⟨(RX3, TX3, 14), rfl, by decide, in_at 129 (by decide +kernel) (by decide +kernel)⟩
set_option maxRecDepth 100000 in
theorem fl_X3_19 : FL RX3 19 3 2 := ⟨(RX3, TX3, 14), rfl, by decide, in_at 130 (by decide +kernel) (by decide +kernel)⟩
set_option maxRecDepth 100000 in
theorem fl_X7_111 : FL RX7 111 3 2 := ⟨(RX3, TX3, 14), rfl, by decide, in_at 131 (by decide +kernel) (by decide +kernel)⟩
set_option maxRecDepth 100000 in
theorem fl_X3_22 : FL RX3 22 3 3 := ⟨(RX3, TX3, 14), rfl, by decide, in_at 132 (by decide +kernel) (by decide +kernel)⟩
set_option maxRecDepth 100000 in
theorem fl_X5_263 : FL RX5 263 3 3 := ⟨(RX3, TX3, 14), rfl, by decide, in_at 133 (by decide +kernel) (by decide +kernel)⟩
set_option maxRecDepth 100000 in
theorem fl_X3_25 : FL RX3 25 3 4 := ⟨(RX3, TX3, 14), rfl, by decide, in_at 134 (by decide +kernel) (by decide +kernel)⟩
set_option maxRecDepth 100000 in
theorem fl_X3_28 : FL RX3 28 3 5 := ⟨(RX3, TX3, 14), rfl, by decide, in_at 135 (by decide +kernel) (by decide +kernel)⟩
set_option maxRecDepth 100000 in
theorem fl_X3_31 : FL RX3 31 3 6 := ⟨(RX3, TX3, 14), rfl, by decide, in_at 136 (by decide +kernel) (by decide +kernel)⟩
set_option maxRecDepth 100000 in
theorem fl_X5_184 : FL RX5 184 3 6 := ⟨(RX3, TX3, 14), rfl, by decide, in_at 137 (by decide +kernel) (by decide +kernel)⟩
set_option maxRecDepth 100000 in
theorem fl_X3_34 : FL RX3 34 3 7 := ⟨(RX3, TX3, 14), rfl, by decide, in_at 138 (by decide +kernel) (by decide +kernel)⟩
set_option maxRecDepth 100000 in
theorem fl_X5_190 : FL RX5 190 3 7 := ⟨(RX3, TX3, 14), rfl, by decide, in_at 139 (by decide +kernel) (by decide +kernel)⟩
set_option maxRecDepth 100000 in
theorem fl_X3_37 : FL RX3 37 3 8 := ⟨(RX3, TX3, 14), rfl, by decide, in_at 140 (by decide +kernel) (by decide +kernel)⟩
set_option maxRecDepth 100000 in
theorem fl_X3_40 : FL RX3 40 3 9 := ⟨(RX3, TX3, 14), rfl, by decide, in_at 141 (by decide +kernel) (by decide +kernel)⟩
set_option maxRecDepth 100000 in
theorem fl_X5_240 : FL RX5 240 3 9 := ⟨(RX3, TX3, 14), rfl, by decide, in_at 142 (by decide +kernel) (by decide +kernel)⟩
set_option maxRecDepth 100000 in
theorem fl_X3_43 : FL RX3 43 3 10 := ⟨(RX3, TX3, 14), rfl, by decide, in_at 143 (by decide +kernel) (by decide +kernel)⟩
set_option maxRecDepth 100000 in
theorem fl_X5_228 : FL RX5 228 3 10 := ⟨(RX3, TX3, 14), rfl, by decide, in_at 144 (by decide +kernel) (by decide +kernel)⟩
set_option maxRecDepth 100000 in
theorem fl_X3_46 : FL RX3 46 3 11 := ⟨(RX3, TX3, 14), rfl, by decide, in_at 145 (by decide +kernel) (by decide +kernel)⟩
set_option maxRecDepth 100000 in
theorem fl_X5_197 : FL RX5 197 3 11 := ⟨(RX3, TX3, 14), rfl, by decide, in_at 146 (by decide +kernel) (by decide +kernel)⟩
set_option maxRecDepth 100000 in
theorem fl_X3_50 : FL RX3 50 3 12 := ⟨(RX3, TX3, 14), rfl, by decide, in_at 147 (by decide +kernel) (by decide +kernel)⟩
set_option maxRecDepth 100000 in
theorem fl_X5_200 : FL RX5 200 3 12 := ⟨(RX3, TX3, 14), rfl, by decide, in_at 148 (by decide +kernel) (by decide +kernel)⟩
set_option maxRecDepth 100000 in
theorem fl_X3_53 : FL RX3 53 3 13 := ⟨(RX3, TX3, 14), rfl, by decide, in_at 149 (by decide +kernel) (by decide +kernel)⟩
set_option maxRecDepth 100000 in
theorem fl_X5_218 : FL RX5 218 3 13 := ⟨(RX3, TX3, 14), rfl, by decide, in_at 150 (by decide +kernel) (by decide +kernel)⟩
set_option maxRecDepth 100000 in
theorem fl_X1_9 : FL RX1 9 1 0 := ⟨(RX1, TX1, 6), rfl, by decide, in_at 193 (by decide +kernel) (by decide +kernel)⟩
set_option maxRecDepth 100000 in
theorem fl_X5_148 : FL RX5 148 1 0 := ⟨(RX1, TX1, 6), rfl, by decide, in_at 194 (by decide +kernel) (by decide +kernel)⟩
set_option maxRecDepth 100000 in
theorem fl_X1_15 : FL RX1 15 1 1 := ⟨(RX1, TX1, 6), rfl, by decide, in_at 195 (by decide +kernel) (by decide +kernel)⟩
set_option maxRecDepth 100000 in
theorem fl_X0_44 : FL RX0 44 1 1 := ⟨(RX1, TX1, 6), rfl, by decide, in_at 196 (by decide +kernel) (by decide +kernel)⟩
set_option maxRecDepth 100000 in
theorem fl_X5_154 : FL RX5 154 1 1 := ⟨(RX1, TX1, 6), rfl, by decide, in_at 197 (by decide +kernel) (by decide +kernel)⟩
set_option maxRecDepth 100000 in
theorem fl_X1_19 : FL RX1 19 1 2 := ⟨(RX1, TX1, 6), rfl, by decide, in_at 198 (by decide +kernel) (by decide +kernel)⟩
set_option maxRecDepth 100000 in
theorem fl_X0_51 : FL RX0 51 1 2 := ⟨(RX1, TX1, 6), rfl, by decide, in_at 199 (by decide +kernel) (by decide +kernel)⟩
set_option maxRecDepth 100000 in
theorem fl_X5_139 : FL RX5 139 1 2 := ⟨(RX1, TX1, 6), rfl, by decide, in_at 200 (by decide +kernel) (by decide +kernel)⟩
set_option maxRecDepth 100000 in
theorem fl_X1_23 : FL RX1 23 1 3 := ⟨(RX1, TX1, 6), rfl, by decide, in_at 201 (by decide +kernel) (by decide +kernel)⟩
set_option maxRecDepth 100000 in
theorem fl_X0_41 : FL RX0 41 1 3 := ⟨(RX1, TX1, 6), rfl, by decide, in_at 202 (by decide +kernel) (by decide +kernel)⟩
set_option maxRecDepth 100000 in
theorem fl_X1_26 : FL RX1 26 1 4 := ⟨(RX1, TX1, 6), rfl, by decide, in_at 203 (by decide +kernel) (by decide +kernel)⟩
set_option maxRecDepth 100000 in
theorem fl_X0_48 : FL RX0 48 1 4 := ⟨(RX1, TX1, 6), rfl, by decide, in_at 204 (by decide +kernel) (by decide +kernel)⟩
set_option maxRecDepth 100000 in
theorem fl_X5_147 : FL RX5 147 1 4 := ⟨(RX1, TX1, 6), rfl, by decide, in_at 205 (by decide +kernel) (by decide +kernel)⟩
set_option maxRecDepth 100000 in
theorem fl_X1_29 : FL RX1 29 1 5 := ⟨(RX1, TX1, 6), rfl, by decide, in_at 206 (by decide +kernel) (by decide +kernel)⟩
set_option maxRecDepth 100000 in
theorem fl_X5_144 : FL RX5 144 1 5 := ⟨(RX1, TX1, 6), rfl, by decide, in_at 207 (by decide +kernel) (by decide +kernel)⟩
set_option maxRecDepth 100000 in
theorem fl_X0_11 : FL RX0 11 0 0 := ⟨(RX0, TX0, 7), rfl, by decide, in_at 221 (by decide +kernel) (by decide +kernel)⟩
set_option maxRecDepth 100000 in
theorem fl_X5_135 : FL RX5 135 0 0 := ⟨(RX0, TX0, 7), rfl, by decide, in_at 222 (by decide +kernel) (by decide +kernel)⟩
set_option maxRecDepth 100000 in
theorem fl_X7_219 : FL RX7 219 0 0 := ⟨(RX0, TX0, 7), rfl, by decide, in_at 223 (by decide +kernel) (by decide +kernel)⟩
set_option maxRecDepth 100000 in
theorem fl_X0_18 : FL RX0 18 0 1 := ⟨(RX0, TX0, 7), rfl, by decide, in_at 224 (by decide +kernel) (by decide +kernel)⟩
set_option maxRecDepth 100000 in
theorem fl_X7_127 : FL RX7 127 0 1 := ⟨(RX0, TX0, 7), rfl, by decide, in_at 225 (by decide +kernel) (by decide +kernel)⟩
set_option maxRecDepth 100000 in
theorem fl_X5_243 : FL RX5 243 0 1 := ⟨(RX0, TX0, 7), rfl, by decide, in_at 226 (by decide +kernel) (by decide +kernel)⟩
set_option maxRecDepth 100000 in
theorem fl_X0_22 : FL RX0 22 0 2 := ⟨(RX0, TX0, 7), rfl, by decide, in_at 227 (by decide +kernel) (by decide +kernel)⟩
set_option maxRecDepth 100000 in
theorem fl_X5_266 : FL RX5 266 0 2 := ⟨(RX0, TX0, 7), rfl, by decide, in_at 228 (by decide +kernel) (by decide +kernel)⟩
set_option maxRecDepth 100000 in
theorem fl_X0_25 : FL RX0 25 0 3 := ⟨(RX0, TX0, 7), rfl, by decide, in_at 229 (by decide +kernel) (by decide +kernel)⟩
set_option maxRecDepth 100000 in
theorem fl_X7_137 : FL RX7 137 0 3 := ⟨(RX0, TX0, 7), rfl, by decide, in_at 230 (by decide +kernel) (by decide +kernel)⟩
set_option maxRecDepth 100000 in
theorem fl_X5_269 : FL RX5 269 0 3 := ⟨(RX0, TX0, 7), rfl, by decide, in_at 231 (by decide +kernel) (by decide +kernel)⟩
set_option maxRecDepth 100000 in
theorem fl_X0_28 : FL RX0 28 0 4 := ⟨(RX0, TX0, 7), rfl, by decide, in_at 232 (by decide +kernel) (by decide +kernel)⟩
set_option maxRecDepth 100000 in
theorem fl_X5_272 : FL RX5 272 0 4 := ⟨(RX0, TX0, 7), rfl, by decide, in_at 233 (by decide +kernel) (by decide +kernel)⟩
set_option maxRecDepth 100000 in
theorem fl_X0_31 : FL RX0 31 0 5 := ⟨(RX0, TX0, 7), rfl, by decide, in_at 234 (by decide +kernel) (by decide +kernel)⟩
set_option maxRecDepth 100000 in
theorem fl_X0_34 : FL RX0 34 0 6 := ⟨(RX0, TX0, 7), rfl, by decide, in_at 235 (by decide +kernel) (by decide +kernel)⟩
set_option maxRecDepth 100000 in
theorem fl_X5_160 : FL RX5 160 0 6 := ⟨(RX0, TX0, 7), rfl, by decide, in_at 236 (by decide +kernel) (by decide +kernel)⟩
set_option maxRecDepth 100000 in
theorem fl_X5_18 : FL RX5 18 5 0 := ⟨(RX5, TX5, 7), rfl, by decide, in_at 252 (by decide +kernel) (by decide +kernel)⟩
set_option maxRecDepth 100000 in
theorem fl_X7_155 : FL RX7 155 5 0 := ⟨(RX5, TX5, 7), rfl, by decide, in_at 253 (by decide +kernel) (by decide +kernel)⟩
set_option maxRecDepth 100000 in
theorem fl_X5_25 : FL RX5 25 5 1 := ⟨(RX5, TX5, 7), rfl, by decide, in_at 254 (by decide +kernel) (by decide +kernel)⟩
set_option maxRecDepth 100000 in
theorem fl_X7_207 : FL RX7 207 5 1 := ⟨(RX5, TX5, 7), rfl, by decide, in_at 255 (by decide +kernel) (by decide +kernel)⟩
set_option maxRecDepth 100000 in
theorem fl_X5_33 : FL RX5 33 5 2 := ⟨(RX5, TX5, 7), rfl, by decide, in_at 256 (by decide +kernel) (by decide +kernel)⟩
set_option maxRecDepth 100000 in
theorem fl_X7_90 : FL RX7 90 5 2 := ⟨(RX5, TX5, 7), rfl, by decide, in_at 257 (by decide +kernel) (by decide +kernel)⟩
set_option maxRecDepth 100000 in
theorem fl_X5_39 : FL RX5 39 5 3 := ⟨(RX5, TX5, 7), rfl, by decide, in_at 258 (by decide +kernel) (by decide +kernel)⟩
set_option maxRecDepth 100000 in
theorem fl_X7_107 : FL RX7 107 5 3 := ⟨(RX5, TX5, 7), rfl, by decide, in_at 259 (by decide +kernel) (by decide +kernel)⟩
set_option maxRecDepth 100000 in
theorem fl_X5_47 : FL RX5 47 5 4 := ⟨(RX5, TX5, 7), rfl, by decide, in_at 260 (by decide +kernel) (by decide +kernel)⟩
set_option maxRecDepth 100000 in
theorem fl_X7_123 : FL RX7 123 5 4 := ⟨(RX5, TX5, 7), rfl, by decide, in_at 261 (by decide +kernel) (by decide +kernel)⟩
set_option maxRecDepth 100000 in
theorem fl_X5_51 : FL RX5 51 5 5 := ⟨(RX5, TX5, 7), rfl, by decide, in_at 262 (by decide +kernel) (by decide +kernel)⟩
set_option maxRecDepth 100000 in
theorem fl_X7_188 : FL RX7 188 5 5 := ⟨(RX5, TX5, 7), rfl, by decide, in_at 263 (by decide +kernel) (by decide +kernel)⟩
set_option maxRecDepth 100000 in
theorem fl_X5_55 : FL RX5 55 5 6 := ⟨(RX5, TX5, 7), rfl, by decide, in_at 264 (by decide +kernel) (by decide +kernel)⟩
set_option maxRecDepth 100000 in
theorem fl_X2_9 : FL RX2 9 2 0 := ⟨(RX2, TX2, 2), rfl, by decide, in_at 287 (by decide +kernel) (by decide +kernel)⟩
set_option maxRecDepth 100000 in
theorem fl_X2_15 : FL RX2 15 2 1 := ⟨(RX2, TX2, 2), rfl, by decide, in_at 288 (by decide +kernel) (by decide +kernel)⟩
set_option maxRecDepth 100000 in
theorem fl_X7_10 : FL RX7 10 7 0 := ⟨(RX7, TX7, 6), rfl, by decide, in_at 294 (by decide +kernel) (by decide +kernel)⟩
set_option maxRecDepth 100000 in
theorem fl_X7_16 : FL RX7 16 7 1 := ⟨(RX7, TX7, 6), rfl, by decide, in_at 295 (by decide +kernel) (by decide +kernel)⟩
set_option maxRecDepth 100000 in
theorem fl_X7_23 : FL RX7 23 7 2 := ⟨(RX7, TX7, 6), rfl, by decide, in_at 296 (by decide +kernel) (by decide +kernel)⟩
set_option maxRecDepth 100000 in
theorem fl_X7_27 : FL RX7 27 7 3 := ⟨(RX7, TX7, 6), rfl, by decide, in_at 297 (by decide +kernel) (by decide +kernel)⟩
set_option maxRecDepth 100000 in
theorem fl_X7_31 : FL RX7 31 7 4 := ⟨(RX7, TX7, 6), rfl, by decide, in_at 298 (by decide +kernel) (by decide +kernel)⟩
set_option maxRecDepth 100000 in
theorem fl_X7_34 : FL RX7 34 7 5 := ⟨(RX7, TX7, 6), rfl, by decide, in_at 299 (by decide +kernel) (by decide +kernel)⟩
set_option maxRecDepth 100000 in
theorem fs_X7_316 : Cond.fieldLink RX7 316 "OutboxRelay" "SETTING_LEAST" "[I" ∈ wAll := in_at 391 (by decide +kernel) (by decide +kernel)
set_option maxRecDepth 100000 in
theorem fs_X7_319 : Cond.fieldLink RX7 319 "OutboxRelay" "SETTING_MOST" "[I" ∈ wAll := in_at 393 (by decide +kernel) (by decide +kernel)
set_option maxRecDepth 100000 in
theorem ml_L_85 : Cond.methodLink RL 85 yX7_init ∈ wAll := in_at 21 (by decide +kernel) (by decide +kernel)
set_option maxRecDepth 100000 in
theorem ml_X7_9 : Cond.methodLink RX7 9 yX5_init ∈ wAll := in_at 29 (by decide +kernel) (by decide +kernel)
set_option maxRecDepth 100000 in
theorem ml_X5_29 : Cond.methodLink RX5 29 yX6_init ∈ wAll := in_at 45 (by decide +kernel) (by decide +kernel)
set_option maxRecDepth 100000 in
theorem ml_X5_32 : Cond.methodLink RX5 32 yX4_init ∈ wAll := in_at 73 (by decide +kernel) (by decide +kernel)
set_option maxRecDepth 100000 in
theorem ml_X5_43 : Cond.methodLink RX5 43 yX3_init ∈ wAll := in_at 124 (by decide +kernel) (by decide +kernel)
set_option maxRecDepth 100000 in
theorem ml_X5_46 : Cond.methodLink RX5 46 yX0_init ∈ wAll := in_at 182 (by decide +kernel) (by decide +kernel)
set_option maxRecDepth 100000 in
theorem ml_X0_17 : Cond.methodLink RX0 17 yX1_init ∈ wAll := in_at 189 (by decide +kernel) (by decide +kernel)
set_option maxRecDepth 100000 in
theorem ml_X7_22 : Cond.methodLink RX7 22 yX2_init ∈ wAll := in_at 283 (by decide +kernel) (by decide +kernel)
set_option maxRecDepth 100000 in
theorem ml_L_79 : Cond.methodLink RL 79 yX7_set ∈ wAll := in_at 313 (by decide +kernel) (by decide +kernel)
set_option maxRecDepth 100000 in
theorem ml_X7_63 : Cond.methodLink RX7 63 yX7_isBelow ∈ wAll := in_at 317 (by decide +kernel) (by decide +kernel)
set_option maxRecDepth 100000 in
theorem ml_X7_145 : Cond.methodLink RX7 145 yX7_isSettingValue ∈ wAll := in_at 388 (by decide +kernel) (by decide +kernel)
set_option maxRecDepth 100000 in
theorem ml_X7_48 : Cond.methodLink RX7 48 yX7_save ∈ wAll := in_at 427 (by decide +kernel) (by decide +kernel)
set_option maxRecDepth 100000 in
theorem ml_X7_184 : Cond.methodLink RX7 184 yX5_copyFrom ∈ wAll := in_at 431 (by decide +kernel) (by decide +kernel)
set_option maxRecDepth 100000 in
theorem ml_X5_64 : Cond.methodLink RX5 64 yX6_copyFrom ∈ wAll := in_at 438 (by decide +kernel) (by decide +kernel)
set_option maxRecDepth 100000 in
theorem ml_X5_68 : Cond.methodLink RX5 68 yX4_copyFrom ∈ wAll := in_at 443 (by decide +kernel) (by decide +kernel)
set_option maxRecDepth 100000 in
theorem ml_X5_71 : Cond.methodLink RX5 71 yX3_copyFrom ∈ wAll := in_at 448 (by decide +kernel) (by decide +kernel)
set_option maxRecDepth 100000 in
theorem ml_X5_74 : Cond.methodLink RX5 74 yX0_copyFrom ∈ wAll := in_at 453 (by decide +kernel) (by decide +kernel)
set_option maxRecDepth 100000 in
theorem ml_X0_37 : Cond.methodLink RX0 37 yX1_copyFrom ∈ wAll := in_at 457 (by decide +kernel) (by decide +kernel)
set_option maxRecDepth 100000 in
theorem ml_L_50 : Cond.methodLink RL 50 yX7_transaction ∈ wAll := in_at 462 (by decide +kernel) (by decide +kernel)
set_option maxRecDepth 100000 in
theorem ml_X7_211 : Cond.methodLink RX7 211 yX6_tell ∈ wAll := in_at 468 (by decide +kernel) (by decide +kernel)
set_option maxRecDepth 100000 in
theorem ml_L_9 : Cond.methodLink RL 9 yX7_count ∈ wAll := in_at 472 (by decide +kernel) (by decide +kernel)
set_option maxRecDepth 100000 in
theorem ml_X7_227 : Cond.methodLink RX7 227 yX5_counted ∈ wAll := in_at 476 (by decide +kernel) (by decide +kernel)
set_option maxRecDepth 100000 in
theorem ml_X5_275 : Cond.methodLink RX5 275 yX5_openTransactions ∈ wAll := in_at 480 (by decide +kernel) (by decide +kernel)
set_option maxRecDepth 100000 in
theorem ml_L_90 : Cond.methodLink RL 90 yX7_drainIn ∈ wAll := in_at 484 (by decide +kernel) (by decide +kernel)
set_option maxRecDepth 100000 in
theorem ml_X7_230 : Cond.methodLink RX7 230 yX7_freshTrial ∈ wAll := in_at 488 (by decide +kernel) (by decide +kernel)
set_option maxRecDepth 100000 in
theorem ml_X7_234 : Cond.methodLink RX7 234 yX5_isDrained ∈ wAll := in_at 492 (by decide +kernel) (by decide +kernel)
set_option maxRecDepth 100000 in
theorem ml_X5_231 : Cond.methodLink RX5 231 yX5_answeredBy ∈ wAll := in_at 496 (by decide +kernel) (by decide +kernel)
set_option maxRecDepth 100000 in
theorem ml_X5_209 : Cond.methodLink RX5 209 yX5_isFor ∈ wAll := in_at 500 (by decide +kernel) (by decide +kernel)
set_option maxRecDepth 100000 in
theorem ml_X5_225 : Cond.methodLink RX5 225 yX3_wants ∈ wAll := in_at 504 (by decide +kernel) (by decide +kernel)
set_option maxRecDepth 100000 in
theorem ml_X7_237 : Cond.methodLink RX7 237 yX5_passTick ∈ wAll := in_at 508 (by decide +kernel) (by decide +kernel)
set_option maxRecDepth 100000 in
theorem ml_X5_124 : Cond.methodLink RX5 124 yX0_dueAt ∈ wAll := in_at 512 (by decide +kernel) (by decide +kernel)
set_option maxRecDepth 100000 in
theorem ml_X5_128 : Cond.methodLink RX5 128 yX5_firstComes ∈ wAll := in_at 516 (by decide +kernel) (by decide +kernel)
set_option maxRecDepth 100000 in
theorem ml_X5_150 : Cond.methodLink RX5 150 yX5_rowComes ∈ wAll := in_at 520 (by decide +kernel) (by decide +kernel)
set_option maxRecDepth 100000 in
theorem ml_X5_180 : Cond.methodLink RX5 180 yX3_isRepeat ∈ wAll := in_at 524 (by decide +kernel) (by decide +kernel)
set_option maxRecDepth 100000 in
theorem ml_X5_194 : Cond.methodLink RX5 194 yX3_takeEffect ∈ wAll := in_at 528 (by decide +kernel) (by decide +kernel)
set_option maxRecDepth 100000 in
theorem ml_X5_157 : Cond.methodLink RX5 157 yX0_removeFirst ∈ wAll := in_at 532 (by decide +kernel) (by decide +kernel)
set_option maxRecDepth 100000 in
theorem ml_X5_163 : Cond.methodLink RX5 163 yX3_answerComes ∈ wAll := in_at 536 (by decide +kernel) (by decide +kernel)
set_option maxRecDepth 100000 in
theorem ml_X5_166 : Cond.methodLink RX5 166 yX0_draft ∈ wAll := in_at 540 (by decide +kernel) (by decide +kernel)
set_option maxRecDepth 100000 in
theorem ml_X5_170 : Cond.methodLink RX5 170 yX1_becomeAnswer ∈ wAll := in_at 544 (by decide +kernel) (by decide +kernel)
set_option maxRecDepth 100000 in
theorem ml_X5_174 : Cond.methodLink RX5 174 yX5_post ∈ wAll := in_at 548 (by decide +kernel) (by decide +kernel)
set_option maxRecDepth 100000 in
theorem ml_X5_221 : Cond.methodLink RX5 221 yX0_postDraft ∈ wAll := in_at 552 (by decide +kernel) (by decide +kernel)
set_option maxRecDepth 100000 in
theorem ml_X5_131 : Cond.methodLink RX5 131 yX5_sendBatch ∈ wAll := in_at 556 (by decide +kernel) (by decide +kernel)
set_option maxRecDepth 100000 in
theorem ml_X5_203 : Cond.methodLink RX5 203 yX1_becomeBatch ∈ wAll := in_at 560 (by decide +kernel) (by decide +kernel)
set_option maxRecDepth 100000 in
theorem ml_X5_213 : Cond.methodLink RX5 213 yX1_addRow ∈ wAll := in_at 564 (by decide +kernel) (by decide +kernel)
set_option maxRecDepth 100000 in
theorem ml_L_31 : Cond.methodLink RL 31 yX7_slowest ∈ wAll := in_at 568 (by decide +kernel) (by decide +kernel)
set_option maxRecDepth 100000 in
theorem ml_X7_251 : Cond.methodLink RX7 251 yX5_rowsFor ∈ wAll := in_at 572 (by decide +kernel) (by decide +kernel)
set_option maxRecDepth 100000 in
theorem ml_L_86 : Cond.methodLink RL 86 yL_cell ∈ wAll := in_at 576 (by decide +kernel) (by decide +kernel)
set_option maxRecDepth 100000 in
theorem ml_L_47 : Cond.methodLink RL 47 yL_low ∈ wAll := in_at 580 (by decide +kernel) (by decide +kernel)
set_option maxRecDepth 100000 in
theorem ml_L_100 : Cond.methodLink RL 100 yL_rows ∈ wAll := in_at 584 (by decide +kernel) (by decide +kernel)
set_option maxRecDepth 100000 in
theorem ml_L_15 : Cond.methodLink RL 15 yX7_row ∈ wAll := in_at 587 (by decide +kernel) (by decide +kernel)
set_option maxRecDepth 100000 in
theorem ml_X7_201 : Cond.methodLink RX7 201 yX5_rowNumber ∈ wAll := in_at 592 (by decide +kernel) (by decide +kernel)
set_option maxRecDepth 100000 in
theorem ml_X5_247 : Cond.methodLink RX5 247 yX5_whyItStays ∈ wAll := in_at 596 (by decide +kernel) (by decide +kernel)
set_option maxRecDepth 100000 in
theorem ml_L_19 : Cond.methodLink RL 19 yX7_receiver ∈ wAll := in_at 600 (by decide +kernel) (by decide +kernel)
set_option maxRecDepth 100000 in
theorem ml_X7_216 : Cond.methodLink RX7 216 yX5_receiverNumber ∈ wAll := in_at 605 (by decide +kernel) (by decide +kernel)
set_option maxRecDepth 100000 in
theorem ml_X5_250 : Cond.methodLink RX5 250 yX5_rowsFor ∈ wAll := in_at 609 (by decide +kernel) (by decide +kernel)
set_option maxRecDepth 100000 in
theorem ml_X5_253 : Cond.methodLink RX5 253 yX5_sumDue ∈ wAll := in_at 610 (by decide +kernel) (by decide +kernel)
set_option maxRecDepth 100000 in
theorem ml_X5_257 : Cond.methodLink RX5 257 yX0_onWayOf ∈ wAll := in_at 614 (by decide +kernel) (by decide +kernel)
set_option maxRecDepth 100000 in
theorem ml_X5_260 : Cond.methodLink RX5 260 yX3_tell ∈ wAll := in_at 618 (by decide +kernel) (by decide +kernel)
set_option maxRecDepth 100000 in
theorem ml_L_22 : Cond.methodLink RL 22 yX7_setting ∈ wAll := in_at 622 (by decide +kernel) (by decide +kernel)
set_option maxRecDepth 100000 in
theorem ml_L_25 : Cond.methodLink RL 25 yL_in ∈ wAll := in_at 626 (by decide +kernel) (by decide +kernel)
set_option maxRecDepth 100000 in
theorem ml_L_97 : Cond.methodLink RL 97 yL_ways ∈ wAll := in_at 629 (by decide +kernel) (by decide +kernel)
set_option maxRecDepth 100000 in
theorem ml_L_35 : Cond.methodLink RL 35 yX7_message ∈ wAll := in_at 632 (by decide +kernel) (by decide +kernel)
set_option maxRecDepth 100000 in
theorem ml_X7_223 : Cond.methodLink RX7 223 yX1_tell ∈ wAll := in_at 636 (by decide +kernel) (by decide +kernel)
set_option maxRecDepth 100000 in
theorem ml_L_93 : Cond.methodLink RL 93 yL_act ∈ wAll := in_at 640 (by decide +kernel) (by decide +kernel)
set_option maxRecDepth 100000 in
theorem ml_L_53 : Cond.methodLink RL 53 yX7_begin ∈ wAll := in_at 643 (by decide +kernel) (by decide +kernel)
set_option maxRecDepth 100000 in
theorem ml_X7_37 : Cond.methodLink RX7 37 yX5_freePlace ∈ wAll := in_at 647 (by decide +kernel) (by decide +kernel)
set_option maxRecDepth 100000 in
theorem ml_X7_51 : Cond.methodLink RX7 51 yX5_openAt ∈ wAll := in_at 652 (by decide +kernel) (by decide +kernel)
set_option maxRecDepth 100000 in
theorem ml_L_56 : Cond.methodLink RL 56 yX7_skips ∈ wAll := in_at 657 (by decide +kernel) (by decide +kernel)
set_option maxRecDepth 100000 in
theorem ml_X7_248 : Cond.methodLink RX7 248 yX5_skipped ∈ wAll := in_at 662 (by decide +kernel) (by decide +kernel)
set_option maxRecDepth 100000 in
theorem ml_X5_85 : Cond.methodLink RX5 85 yX5_isOpen ∈ wAll := in_at 666 (by decide +kernel) (by decide +kernel)
set_option maxRecDepth 100000 in
theorem ml_L_59 : Cond.methodLink RL 59 yX7_write ∈ wAll := in_at 670 (by decide +kernel) (by decide +kernel)
set_option maxRecDepth 100000 in
theorem ml_X7_55 : Cond.methodLink RX7 55 yX5_isOpen ∈ wAll := in_at 674 (by decide +kernel) (by decide +kernel)
set_option maxRecDepth 100000 in
theorem ml_X7_72 : Cond.methodLink RX7 72 yX5_hasRoomToWrite ∈ wAll := in_at 677 (by decide +kernel) (by decide +kernel)
set_option maxRecDepth 100000 in
theorem ml_X7_77 : Cond.methodLink RX7 77 yX5_writeAt ∈ wAll := in_at 682 (by decide +kernel) (by decide +kernel)
set_option maxRecDepth 100000 in
theorem ml_X5_98 : Cond.methodLink RX5 98 yX5_hasRoomToWrite ∈ wAll := in_at 686 (by decide +kernel) (by decide +kernel)
set_option maxRecDepth 100000 in
theorem ml_X5_101 : Cond.methodLink RX5 101 yX6_addRow ∈ wAll := in_at 687 (by decide +kernel) (by decide +kernel)
set_option maxRecDepth 100000 in
theorem ml_L_63 : Cond.methodLink RL 63 yX7_commit ∈ wAll := in_at 691 (by decide +kernel) (by decide +kernel)
set_option maxRecDepth 100000 in
theorem ml_X7_81 : Cond.methodLink RX7 81 yX5_hasRoomToCommit ∈ wAll := in_at 695 (by decide +kernel) (by decide +kernel)
set_option maxRecDepth 100000 in
theorem ml_X7_86 : Cond.methodLink RX7 86 yX5_commitAt ∈ wAll := in_at 700 (by decide +kernel) (by decide +kernel)
set_option maxRecDepth 100000 in
theorem ml_X5_105 : Cond.methodLink RX5 105 yX5_hasRoomToCommit ∈ wAll := in_at 704 (by decide +kernel) (by decide +kernel)
set_option maxRecDepth 100000 in
theorem ml_X5_117 : Cond.methodLink RX5 117 yX4_addRow ∈ wAll := in_at 705 (by decide +kernel) (by decide +kernel)
set_option maxRecDepth 100000 in
theorem ml_L_66 : Cond.methodLink RL 66 yX7_drop ∈ wAll := in_at 709 (by decide +kernel) (by decide +kernel)
set_option maxRecDepth 100000 in
theorem ml_X7_99 : Cond.methodLink RX7 99 yX5_dropAt ∈ wAll := in_at 713 (by decide +kernel) (by decide +kernel)
set_option maxRecDepth 100000 in
theorem ml_L_69 : Cond.methodLink RL 69 yX7_want ∈ wAll := in_at 717 (by decide +kernel) (by decide +kernel)
set_option maxRecDepth 100000 in
theorem ml_L_72 : Cond.methodLink RL 72 yX7_lose ∈ wAll := in_at 722 (by decide +kernel) (by decide +kernel)
set_option maxRecDepth 100000 in
theorem ml_X7_134 : Cond.methodLink RX7 134 yX0_removeFirst ∈ wAll := in_at 727 (by decide +kernel) (by decide +kernel)
set_option maxRecDepth 100000 in
theorem ml_L_75 : Cond.methodLink RL 75 yL_sweeps ∈ wAll := in_at 728 (by decide +kernel) (by decide +kernel)
set_option maxRecDepth 100000 in
theorem ml_L_44 : Cond.methodLink RL 44 yX7_sweep ∈ wAll := in_at 731 (by decide +kernel) (by decide +kernel)
set_option maxRecDepth 100000 in
theorem ml_X7_140 : Cond.methodLink RX7 140 yX5_sweepRows ∈ wAll := in_at 735 (by decide +kernel) (by decide +kernel)
set_option maxRecDepth 100000 in
theorem ml_X5_234 : Cond.methodLink RX5 234 yX5_loseUnseen ∈ wAll := in_at 739 (by decide +kernel) (by decide +kernel)
set_option maxRecDepth 100000 in
theorem ml_L_82 : Cond.methodLink RL 82 yL_ticks ∈ wAll := in_at 743 (by decide +kernel) (by decide +kernel)
set_option maxRecDepth 100000 in
theorem ml_L_38 : Cond.methodLink RL 38 yL_greater ∈ wAll := in_at 746 (by decide +kernel) (by decide +kernel)
set_option maxRecDepth 100000 in
theorem ml_L_41 : Cond.methodLink RL 41 yX7_pass ∈ wAll := in_at 749 (by decide +kernel) (by decide +kernel)
set_option maxRecDepth 100000 in
theorem ml_X7_115 : Cond.methodLink RX7 115 yX7_isTicks ∈ wAll := in_at 753 (by decide +kernel) (by decide +kernel)
set_option maxRecDepth 100000 in
theorem ml_X7_120 : Cond.methodLink RX7 120 yX5_passTicks ∈ wAll := in_at 757 (by decide +kernel) (by decide +kernel)
set_option maxRecDepth 100000 in
theorem ml_X5_120 : Cond.methodLink RX5 120 yX5_passTick ∈ wAll := in_at 761 (by decide +kernel) (by decide +kernel)
