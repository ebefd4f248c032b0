set_option maxRecDepth 100000 in
theorem fl_X6_9 : FL RX6 9 6 0 := ⟨(RX6, TX6, 5), rfl, by decide, in_at 49 (by decide +kernel) (by decide +kernel)⟩
set_option maxRecDepth 100000 in
theorem fl_X5_108 : FL RX5 108 6 0 := ⟨(RX6, TX6, 5), rfl, by decide, in_at 50 (by decide +kernel) (by decide +kernel)⟩
set_option maxRecDepth 100000 in
theorem fl_X6_15 : FL RX6 15 6 1 := ⟨(RX6, TX6, 5), rfl, by decide, in_at 51 (by decide +kernel) (by decide +kernel)⟩
set_option maxRecDepth 100000 in
theorem fl_X5_111 : FL RX5 111 6 1 := ⟨(RX6, TX6, 5), rfl, by decide, in_at 52 (by decide +kernel) (by decide +kernel)⟩
set_option maxRecDepth 100000 in
theorem fl_X6_18 : FL RX6 18 6 2 := ⟨(RX6, TX6, 5), rfl, by decide, in_at 53 (by decide +kernel) (by decide +kernel)⟩
set_option maxRecDepth 100000 in
theorem fl_X5_114 : FL RX5 114 6 2 := ⟨(RX6, TX6, 5), rfl, by decide, in_at 54 (by decide +kernel) (by decide +kernel)⟩
set_option maxRecDepth 100000 in
theorem fl_X6_21 : FL RX6 21 6 3 := ⟨(RX6, TX6, 5), rfl, by decide, in_at 55 (by decide +kernel) (by decide +kernel)⟩
set_option maxRecDepth 100000 in
theorem fl_X5_77 : FL RX5 77 6 3 := ⟨(RX6, TX6, 5), rfl, by decide, in_at 56 (by decide +kernel) (by decide +kernel)⟩
set_option maxRecDepth 100000 in
theorem fl_X6_25 : FL RX6 25 6 4 := ⟨(RX6, TX6, 5), rfl, by decide, in_at 57 (by decide +kernel) (by decide +kernel)⟩
set_option maxRecDepth 100000 in
theorem fl_X5_89 : FL RX5 89 6 4 := ⟨(RX6, TX6, 5), rfl, by decide, in_at 58 (by decide +kernel) (by decide +kernel)⟩
set_option maxRecDepth 100000 in
theorem fl_X4_9 : FL RX4 9 4 0 := ⟨(RX4, TX4, 10), rfl, by decide, in_at 77 (by decide +kernel) (by decide +kernel)⟩
set_option maxRecDepth 100000 in
theorem fl_X5_177 : FL RX5 177 4 0 := ⟨(RX4, TX4, 10), rfl, by decide, in_at 78 (by decide +kernel) (by decide +kernel)⟩
set_option maxRecDepth 100000 in
theorem fl_X4_15 : FL RX4 15 4 1 := ⟨(RX4, TX4, 10), rfl, by decide, in_at 79 (by decide +kernel) (by decide +kernel)⟩
set_option maxRecDepth 100000 in
theorem fl_X5_246 : FL RX5 246 4 1 := ⟨(RX4, TX4, 10), rfl, by decide, in_at 80 (by decide +kernel) (by decide +kernel)⟩
set_option maxRecDepth 100000 in
theorem fl_X4_18 : FL RX4 18 4 2 := ⟨(RX4, TX4, 10), rfl, by decide, in_at 81 (by decide +kernel) (by decide +kernel)⟩
set_option maxRecDepth 100000 in
theorem fl_X5_224 : FL RX5 224 4 2 := ⟨(RX4, TX4, 10), rfl, by decide, in_at 82 (by decide +kernel) (by decide +kernel)⟩
set_option maxRecDepth 100000 in
theorem fl_X4_21 : FL RX4 21 4 3 := ⟨(RX4, TX4, 10), rfl, by decide, in_at 83 (by decide +kernel) (by decide +kernel)⟩
set_option maxRecDepth 100000 in
theorem fl_X5_193 : FL RX5 193 4 3 := ⟨(RX4, TX4, 10), rfl, by decide, in_at 84 (by decide +kernel) (by decide +kernel)⟩
set_option maxRecDepth 100000 in
theorem fl_X4_24 : FL RX4 24 4 4 := ⟨(RX4, TX4, 10), rfl, by decide, in_at 85 (by decide +kernel) (by decide +kernel)⟩
set_option maxRecDepth 100000 in
theorem fl_X5_187 : FL RX5 187 4 4 := ⟨(RX4, TX4, 10), rfl, by decide, in_at 86 (by decide +kernel) (by decide +kernel)⟩
set_option maxRecDepth 100000 in
theorem fl_X4_27 : FL RX4 27 4 5 := ⟨(RX4, TX4, 10), rfl, by decide, in_at 87 (by decide +kernel) (by decide +kernel)⟩
set_option maxRecDepth 100000 in
theorem fl_X5_215 : FL RX5 215 4 5 := ⟨(RX4, TX4, 10), rfl, by decide, in_at 88 (by decide +kernel) (by decide +kernel)⟩
set_option maxRecDepth 100000 in
theorem fl_X4_30 : FL RX4 30 4 6 := ⟨(RX4, TX4, 10), rfl, by decide, in_at 89 (by decide +kernel) (by decide +kernel)⟩
set_option maxRecDepth 100000 in
theorem fl_X5_206 : FL RX5 206 4 6 := ⟨(RX4, TX4, 10), rfl, by decide, in_at 90 (by decide +kernel) (by decide +kernel)⟩
set_option maxRecDepth 100000 in
theorem fl_X7_198 : FL RX7 198 4 6 := ⟨(RX4, TX4, 10), rfl, by decide, in_at 91 (by decide +kernel) (by decide +kernel)⟩
set_option maxRecDepth 100000 in
theorem fl_X4_33 : FL RX4 33 4 7 := ⟨(RX4, TX4, 10), rfl, by decide, in_at 92 (by decide +kernel) (by decide +kernel)⟩
set_option maxRecDepth 100000 in
theorem fl_X5_95 : FL RX5 95 4 7 := ⟨(RX4, TX4, 10), rfl, by decide, in_at 93 (by decide +kernel) (by decide +kernel)⟩
set_option maxRecDepth 100000 in
theorem fl_X7_150 : FL RX7 150 4 7 := ⟨(RX4, TX4, 10), rfl, by decide, in_at 94 (by decide +kernel) (by decide +kernel)⟩
set_option maxRecDepth 100000 in
theorem fl_X4_37 : FL RX4 37 4 8 := ⟨(RX4, TX4, 10), rfl, by decide, in_at 95 (by decide +kernel) (by decide +kernel)⟩
set_option maxRecDepth 100000 in
theorem fl_X7_94 : FL RX7 94 4 8 := ⟨(RX4, TX4, 10), rfl, by decide, in_at 96 (by decide +kernel) (by decide +kernel)⟩
set_option maxRecDepth 100000 in
theorem fl_X5_92 : FL RX5 92 4 8 := ⟨(RX4, TX4, 10), rfl, by decide, in_at 97 (by decide +kernel) (by decide +kernel)⟩
set_option maxRecDepth 100000 in
theorem fl_X4_40 : FL RX4 40 4 9 := ⟨(RX4, TX4, 10), rfl, by decide, in_at 98 (by decide +kernel) (by decide +kernel)⟩
set_option maxRecDepth 100000 in
theorem fl_X5_237 : FL RX5 237 4 9 := ⟨(RX4, TX4, 10), rfl, by decide, in_at 99 (by decide +kernel) (by decide +kernel)⟩
set_option maxRecDepth 100000 in
theorem fl_X3_9 : FL RX3 9 3 0 := ⟨(RX3, TX3, 14), rfl, by decide, in_at 128 (by decide +kernel) (by decide +kernel)⟩
set_option maxRecDepth 100000 in
theorem fl_X3_15 : FL RX3 15 3 1 := ⟨(RX3, TX3, 14), rfl, by decide, in_at 129 (by decide +kernel) (by decide +kernel)⟩
set_option maxRecDepth 100000 in
theorem fl_X3_19 : FL RX3 19 3 2 := ⟨(RX3, TX3, 14), rfl, by decide, in_at 130 (by decide +kernel) (by decide +kernel)⟩
set_option maxRecDepth 100000 in
theorem fl_X7_111 : FL RX7 111 3 2 := ⟨(RX3, TX3, 14), rfl, by decide, in_at 131 (by decide +kernel) (by decide +kernel)⟩
set_option maxRecDepth 100000 in
theorem fl_X3_22 : FL RX3 22 3 3 := ⟨(RX3, TX3, 14), rfl, by decide, in_at 132 (by decide +kernel) (by decide +kernel)⟩
set_option maxRecDepth 100000 in
theorem fl_X5_263 : FL RX5 263 3 3 := ⟨(RX3, TX3, 14), rfl, by decide, in_at 133 (by decide +kernel) (by decide +kernel)⟩
set_option maxRecDepth 100000 in
theorem fl_X3_25 : FL RX3 25 3 4 := ⟨(RX3, TX3, 14), rfl, by decide, in_at 134 (by decide +kernel) (by decide +kernel)⟩
set_option maxRecDepth 100000 in
theorem fl_X3_28 : FL RX3 28 3 5 := ⟨(RX3, TX3, 14), rfl, by decide, in_at 135 (by decide +kernel) (by decide +kernel)⟩
set_option maxRecDepth 100000 in
theorem fl_X3_31 : FL RX3 31 3 6 := ⟨(RX3, TX3, 14), rfl, by decide, in_at 136 (by decide +kernel) (by decide +kernel)⟩
set_option maxRecDepth 100000 in
theorem fl_X5_184 : FL RX5 184 3 6 := ⟨(RX3, TX3, 14), rfl, by decide, in_at 137 (by decide +kernel) (by decide +kernel)⟩
set_option maxRecDepth 100000 in
theorem fl_X3_34 : FL RX3 34 3 7 := ⟨(RX3, TX3, 14), rfl, by decide, in_at 138 (by decide +kernel) (by decide +kernel)⟩
set_option maxRecDepth 100000 in
theorem fl_X5_190 : FL RX5 190 3 7 := ⟨(RX3, TX3, 14), rfl, by decide, in_at 139 (by decide +kernel) (by decide +kernel)⟩
set_option maxRecDepth 100000 in
theorem fl_X3_37 : FL RX3 37 3 8 := ⟨(RX3, TX3, 14), rfl, by decide, in_at 140 (by decide +kernel) (by decide +kernel)⟩
set_option maxRecDepth 100000 in
theorem fl_X3_40 : FL RX3 40 3 9 := ⟨(RX3, TX3, 14), rfl, by decide, in_at 141 (by decide +kernel) (by decide +kernel)⟩
set_option maxRecDepth 100000 in
theorem fl_X5_240 : FL RX5 240 3 9 := ⟨(RX3, TX3, 14), rfl, by decide, in_at 142 (by decide +kernel) (by decide +kernel)⟩
set_option maxRecDepth 100000 in
theorem fl_X3_43 : FL RX3 43 3 10 := ⟨(RX3, TX3, 14), rfl, by decide, in_at 143 (by decide +kernel) (by decide +kernel)⟩
set_option maxRecDepth 100000 in
theorem fl_X5_228 : FL RX5 228 3 10 := ⟨(RX3, TX3, 14), rfl, by decide, in_at 144 (by decide +kernel) (by decide +kernel)⟩
set_option maxRecDepth 100000 in
theorem fl_X3_46 : FL RX3 46 3 11 := ⟨(RX3, TX3, 14), rfl, by decide, in_at 145 (by decide +kernel) (by decide +kernel)⟩
set_option maxRecDepth 100000 in
theorem fl_X5_197 : FL RX5 197 3 11 := ⟨(RX3, TX3, 14), rfl, by decide, in_at 146 (by decide +kernel) (by decide +kernel)⟩
set_option maxRecDepth 100000 in
theorem fl_X3_50 : FL RX3 50 3 12 := ⟨(RX3, TX3, 14), rfl, by decide, in_at 147 (by decide +kernel) (by decide +kernel)⟩
set_option maxRecDepth 100000 in
theorem fl_X5_200 : FL RX5 200 3 12 := ⟨(RX3, TX3, 14), rfl, by decide, in_at 148 (by decide +kernel) (by decide +kernel)⟩
set_option maxRecDepth 100000 in
theorem fl_X3_53 : FL RX3 53 3 13 := ⟨(RX3, TX3, 14), rfl, by decide, in_at 149 (by decide +kernel) (by decide +kernel)⟩
set_option maxRecDepth 100000 in
theorem fl_X5_218 : FL RX5 218 3 13 := ⟨(RX3, TX3, 14), rfl, by decide, in_at 150 (by decide +kernel) (by decide +kernel)⟩
set_option maxRecDepth 100000 in
theorem fl_X1_9 : FL RX1 9 1 0 := ⟨(RX1, TX1, 6), rfl, by decide, in_at 193 (by decide +kernel) (by decide +kernel)⟩
set_option maxRecDepth 100000 in
theorem fl_X5_148 : FL RX5 148 1 0 := ⟨(RX1, TX1, 6), rfl, by decide, in_at 194 (by decide +kernel) (by decide +kernel)⟩
set_option maxRecDepth 100000 in
theorem fl_X1_15 : FL RX1 15 1 1 := ⟨(RX1, TX1, 6), rfl, by decide, in_at 195 (by decide +kernel) (by decide +kernel)⟩
set_option maxRecDepth 100000 in
theorem fl_X0_44 : FL RX0 44 1 1 := ⟨(RX1, TX1, 6), rfl, by decide, in_at 196 (by decide +kernel) (by decide +kernel)⟩
set_option maxRecDepth 100000 in
theorem fl_X5_154 : FL RX5 154 1 1 := ⟨(RX1, TX1, 6), rfl, by decide, in_at 197 (by decide +kernel) (by decide +kernel)⟩
set_option maxRecDepth 100000 in
theorem fl_X1_19 : FL RX1 19 1 2 := ⟨(RX1, TX1, 6), rfl, by decide, in_at 198 (by decide +kernel) (by decide +kernel)⟩
set_option maxRecDepth 100000 in
theorem fl_X0_51 : FL RX0 51 1 2 := ⟨(RX1, TX1, 6), rfl, by decide, in_at 199 (by decide +kernel) (by decide +kernel)⟩
set_option maxRecDepth 100000 in
theorem fl_X5_139 : FL RX5 139 1 2 := ⟨(RX1, TX1, 6), rfl, by decide, in_at 200 (by decide +kernel) (by decide +kernel)⟩
set_option maxRecDepth 100000 in
theorem fl_X1_23 : FL RX1 23 1 3 := ⟨(RX1, TX1, 6), rfl, by decide, in_at 201 (by decide +kernel) (by decide +kernel)⟩
set_option maxRecDepth 100000 in
theorem fl_X0_41 : FL RX0 41 1 3 := ⟨(RX1, TX1, 6), rfl, by decide, in_at 202 (by decide +kernel) (by decide +kernel)⟩
set_option maxRecDepth 100000 in
theorem fl_X1_26 : FL RX1 26 1 4 := ⟨(RX1, TX1, 6), rfl, by decide, in_at 203 (by decide +kernel) (by decide +kernel)⟩
set_option maxRecDepth 100000 in
theorem fl_X0_48 : FL RX0 48 1 4 := ⟨(RX1, TX1, 6), rfl, by decide, in_at 204 (by decide +kernel) (by decide +kernel)⟩
set_option maxRecDepth 100000 in
theorem fl_X5_147 : FL RX5 147 1 4 := ⟨(RX1, TX1, 6), rfl, by decide, in_at 205 (by decide +kernel) (by decide +kernel)⟩
set_option maxRecDepth 100000 in
theorem fl_X1_29 : FL RX1 29 1 5 := ⟨(RX1, TX1, 6), rfl, by decide, in_at 206 (by decide +kernel) (by decide +kernel)⟩
set_option maxRecDepth 100000 in
theorem fl_X5_144 : FL RX5 144 1 5 := ⟨(RX1, TX1, 6), rfl, by decide, in_at 207 (by decide +kernel) (by decide +kernel)⟩
set_option maxRecDepth 100000 in
theorem fl_X0_11 : FL RX0 11 0 0 := ⟨(RX0, TX0, 7), rfl, by decide, in_at 221 (by decide +kernel) (by decide +kernel)⟩
set_option maxRecDepth 100000 in
theorem fl_X5_135 : FL RX5 135 0 0 := ⟨(RX0, TX0, 7), rfl, by decide, in_at 222 (by decide +kernel) (by decide +kernel)⟩
set_option maxRecDepth 100000 in
theorem fl_X7_219 : FL RX7 219 0 0 := ⟨(RX0, TX0, 7), rfl, by decide, in_at 223 (by decide +kernel) (by decide +kernel)⟩
set_option maxRecDepth 100000 in
theorem fl_X0_18 : FL RX0 18 0 1 := ⟨(RX0, TX0, 7), rfl, by decide, in_at 224 (by decide +kernel) (by decide +kernel)⟩
set_option maxRecDepth 100000 in
theorem fl_X7_127 : FL RX7 127 0 1 := ⟨(RX0, TX0, 7), rfl, by decide, in_at 225 (by decide +kernel) (by decide +kernel)⟩
set_option maxRecDepth 100000 in
theorem fl_X5_243 : FL RX5 243 0 1 := ⟨(RX0, TX0, 7), rfl, by decide, in_at 226 (by decide +kernel) (by decide +kernel)⟩
set_option maxRecDepth 100000 in
theorem fl_X0_22 : FL RX0 22 0 2 := ⟨(RX0, TX0, 7), rfl, by decide, in_at 227 (by decide +kernel) (by decide +kernel)⟩
set_option maxRecDepth 100000 in
theorem fl_X5_266 : FL RX5 266 0 2 := ⟨(RX0, TX0, 7), rfl, by decide, in_at 228 (by decide +kernel) (by decide +kernel)⟩
set_option maxRecDepth 100000 in
theorem fl_X0_25 : FL RX0 25 0 3 := ⟨(RX0, TX0, 7), rfl, by decide, in_at 229 (by decide +kernel) (by decide +kernel)⟩
set_option maxRecDepth 100000 in
theorem fl_X7_137 : FL RX7 137 0 3 := ⟨(RX0, TX0, 7), rfl, by decide, in_at 230 (by decide +kernel) (by decide +kernel)⟩
set_option maxRecDepth 100000 in
theorem fl_X5_269 : FL RX5 269 0 3 := ⟨(RX0, TX0, 7), rfl, by decide, in_at 231 (by decide +kernel) (by decide +kernel)⟩
set_option maxRecDepth 100000 in
theorem fl_X0_28 : FL RX0 28 0 4 := ⟨(RX0, TX0, 7), rfl, by decide, in_at 232 (by decide +kernel) (by decide +kernel)⟩
set_option maxRecDepth 100000 in
theorem fl_X5_272 : FL RX5 272 0 4 := ⟨(RX0, TX0, 7), rfl, by decide, in_at 233 (by decide +kernel) (by decide +kernel)⟩
set_option maxRecDepth 100000 in
theorem fl_X0_31 : FL RX0 31 0 5 := ⟨(RX0, TX0, 7), rfl, by decide, in_at 234 (by decide +kernel) (by decide +kernel)⟩
set_option maxRecDepth 100000 in
theorem fl_X0_34 : FL RX0 34 0 6 := ⟨(RX0, TX0, 7), rfl, by decide, in_at 235 (by decide +kernel) (by decide +kernel)⟩
set_option maxRecDepth 100000 in
theorem fl_X5_160 : FL RX5 160 0 6 := ⟨(RX0, TX0, 7), rfl, by decide, in_at 236 (by decide +kernel) (by decide +kernel)⟩
set_option maxRecDepth 100000 in
theorem fl_X5_18 : FL RX5 18 5 0 := ⟨(RX5, TX5, 7), rfl, by decide, in_at 252 (by decide +kernel) (by decide +kernel)⟩
set_option maxRecDepth 100000 in
theorem fl_X7_155 : FL RX7 155 5 0 := ⟨(RX5, TX5, 7), rfl, by decide, in_at 253 (by decide +kernel) (by decide +kernel)⟩
set_option maxRecDepth 100000 in
theorem fl_X5_25 : FL RX5 25 5 1 := ⟨(RX5, TX5, 7), rfl, by decide, in_at 254 (by decide +kernel) (by decide +kernel)⟩
set_option maxRecDepth 100000 in
theorem fl_X7_207 : FL RX7 207 5 1 := ⟨(RX5, TX5, 7), rfl, by decide, in_at 255 (by decide +kernel) (by decide +kernel)⟩
set_option maxRecDepth 100000 in
theorem fl_X5_33 : FL RX5 33 5 2 := ⟨(RX5, TX5, 7), rfl, by decide, in_at 256 (by decide +kernel) (by decide +kernel)⟩
set_option maxRecDepth 100000 in
theorem fl_X7_90 : FL RX7 90 5 2 := ⟨(RX5, TX5, 7), rfl, by decide, in_at 257 (by decide +kernel) (by decide +kernel)⟩
set_option maxRecDepth 100000 in
theorem fl_X5_39 : FL RX5 39 5 3 := ⟨(RX5, TX5, 7), rfl, by decide, in_at 258 (by decide +kernel) (by decide +kernel)⟩
set_option maxRecDepth 100000 in
theorem fl_X7_107 : FL RX7 107 5 3 := ⟨(RX5, TX5, 7), rfl, by decide, in_at 259 (by decide +kernel) (by decide +kernel)⟩
set_option maxRecDepth 100000 in
theorem fl_X5_47 : FL RX5 47 5 4 := ⟨(RX5, TX5, 7), rfl, by decide, in_at 260 (by decide +kernel) (by decide +kernel)⟩
set_option maxRecDepth 100000 in
theorem fl_X7_123 : FL RX7 123 5 4 := ⟨(RX5, TX5, 7), rfl, by decide, in_at 261 (by decide +kernel) (by decide +kernel)⟩
set_option maxRecDepth 100000 in
theorem fl_X5_51 : FL RX5 51 5 5 := ⟨(RX5, TX5, 7), rfl, by decide, in_at 262 (by decide +kernel) (by decide +kernel)⟩
set_option maxRecDepth 100000 in
theorem fl_X7_188 : FL RX7 188 5 5 := ⟨(RX5, TX5, 7), rfl, by decide, in_at 263 (by decide +kernel) (by decide +kernel)⟩
set_option maxRecDepth 100000 in
theorem fl_X5_55 : FL RX5 55 5 6 := ⟨(RX5, TX5, 7), rfl, by decide, in_at 264 (by decide +kernel) (by decide +kernel)⟩
set_option maxRecDepth 100000 in
theorem fl_X2_9 : FL RX2 9 2 0 := ⟨(RX2, TX2, 2), rfl, by decide, in_at 287 (by decide +kernel) (by decide +kernel)⟩
set_option maxRecDepth 100000 in
theorem fl_X2_15 : FL RX2 15 2 1 := ⟨(RX2, TX2, 2), rfl, by decide, in_at 288 (by decide +kernel) (by decide +kernel)⟩
set_option maxRecDepth 100000 in
theorem fl_X7_10 : FL RX7 10 7 0 := ⟨(RX7, TX7, 6), rfl, by decide, in_at 294 (by decide +kernel) (by decide +kernel)⟩
set_option maxRecDepth 100000 in
theorem fl_X7_16 : FL RX7 16 7 1 := ⟨(RX7, TX7, 6), rfl, by decide, in_at 295 (by decide +kernel) (by decide +kernel)⟩
set_option maxRecDepth 100000 in
theorem fl_X7_23 : FL RX7 23 7 2 := ⟨(RX7, TX7, 6), rfl, by decide, in_at 296 (by decide +kernel) (by decide +kernel)⟩
set_option maxRecDepth 100000 in
theorem fl_X7_27 : FL RX7 27 7 3 := ⟨(RX7, TX7, 6), rfl, by decide, in_at 297 (by decide +kernel) (by decide +kernel)⟩
set_option maxRecDepth 100000 in
theorem fl_X7_31 : FL RX7 31 7 4 := ⟨(RX7, TX7, 6), rfl, by decide, in_at 298 (by decide +kernel) (by decide +kernel)⟩
set_option maxRecDepth 100000 in
theorem fl_X7_34 : FL RX7 34 7 5 := ⟨(RX7, TX7, 6), rfl, by decide, in_at 299 (by decide +kernel) (by decide +kernel)⟩
set_option maxRecDepth 100000 in
theorem fs_X7_316 : Cond.fieldLink RX7 316 "OutboxRelay" "SETTING_LEAST" "[I" ∈ wAll := in_at 391 (by decide +kernel) (by decide +kernel)
set_option maxRecDepth 100000 in
theorem fs_X7_319 : Cond.fieldLink RX7 319 "OutboxRelay" "SETTING_MOST" "[I" ∈ wAll := in_at 393 (by decide +kernel) (by decide +kernel)
set_option maxRecDepth 100000 in
theorem ml_L_85 : Cond.methodLink RL 85 yX7_init ∈ wAll := in_at 21 (by decide +kernel) (by decide +kernel)
set_option maxRecDepth 100000 in
theorem ml_X7_9 : Cond.methodLink RX7 9 yX5_init ∈ wAll := in_at 29 (by decide +kernel) (by decide +kernel)
set_option maxRecDepth 100000 in
theorem ml_X5_29 : Cond.methodLink RX5 29 yX6_init ∈ wAll := in_at 45 (by decide +kernel) (by decide +kernel)
set_option maxRecDepth 100000 in
theorem ml_X5_32 : Cond.methodLink RX5 32 yX4_init ∈ wAll := in_at 73 (by decide +kernel) (by decide +kernel)
set_option maxRecDepth 100000 in
theorem ml_X5_43 : Cond.methodLink RX5 43 yX3_init ∈ wAll := in_at 124 (by decide +kernel) (by decide +kernel)
set_option maxRecDepth 100000 in
theorem ml_X5_46 : Cond.methodLink RX5 46 yX0_init ∈ wAll := in_at 182 (by decide +kernel) (by decide +kernel)
set_option maxRecDepth 100000 in
theorem ml_X0_17 : Cond.methodLink RX0 17 yX1_init ∈ wAll := in_at 189 (by decide +kernel) (by decide +kernel)
set_option maxRecDepth 100000 in
theorem ml_X7_22 : Cond.methodLink RX7 22 yX2_init ∈ wAll := in_at 283 (by decide +kernel) (by decide +kernel)
set_option maxRecDepth 100000 in
theorem ml_L_79 : Cond.methodLink RL 79 yX7_set ∈ wAll := in_at 313 (by decide +kernel) (by decide +kernel)
set_option maxRecDepth 100000 in
theorem ml_X7_63 : Cond.methodLink RX7 63 yX7_isBelow ∈ wAll := in_at 317 (by decide +kernel) (by decide +kernel)
set_option maxRecDepth 100000 in
theorem ml_X7_145 : Cond.methodLink RX7 145 yX7_isSettingValue ∈ wAll := in_at 388 (by decide +kernel) (by decide +kernel)
set_option maxRecDepth 100000 in
theorem ml_X7_48 : Cond.methodLink RX7 48 yX7_save ∈ wAll := in_at 427 (by decide +kernel) (by decide +kernel)
set_option maxRecDepth 100000 in
theorem ml_X7_184 : Cond.methodLink RX7 184 yX5_copyFrom ∈ wAll := in_at 431 (by decide +kernel) (by decide +kernel)
set_option maxRecDepth 100000 in
theorem ml_X5_64 : Cond.methodLink RX5 64 yX6_copyFrom ∈ wAll := in_at 438 (by decide +kernel) (by decide +kernel)
set_option maxRecDepth 100000 in
theorem ml_X5_68 : Cond.methodLink RX5 68 yX4_copyFrom ∈ wAll := in_at 443 (by decide +kernel) (by decide +kernel)
set_option maxRecDepth 100000 in
theorem ml_X5_71 : Cond.methodLink RX5 71 yX3_copyFrom ∈ wAll := in_at 448 (by decide +kernel) (by decide +kernel)
set_option maxRecDepth 100000 in
theorem ml_X5_74 : Cond.methodLink RX5 74 yX0_copyFrom ∈ wAll := in_at 453 (by decide +kernel) (by decide +kernel)
set_option maxRecDepth 100000 in
theorem ml_X0_37 : Cond.methodLink RX0 37 yX1_copyFrom ∈ wAll := in_at 457 (by decide +kernel) (by decide +kernel)
set_option maxRecDepth 100000 in
theorem ml_L_50 : Cond.methodLink RL 50 yX7_transaction ∈ wAll := in_at 462 (by decide +kernel) (by decide +kernel)
set_option maxRecDepth 100000 in
theorem ml_X7_211 : Cond.methodLink RX7 211 yX6_tell ∈ wAll := in_at 468 (by decide +kernel) (by decide +kernel)
set_option maxRecDepth 100000 in
theorem ml_L_9 : Cond.methodLink RL 9 yX7_count ∈ wAll := in_at 472 (by decide +kernel) (by decide +kernel)
set_option maxRecDepth 100000 in
theorem ml_X7_227 : Cond.methodLink RX7 227 yX5_counted ∈ wAll := in_at 476 (by decide +kernel) (by decide +kernel)
set_option maxRecDepth 100000 in
theorem ml_X5_275 : Cond.methodLink RX5 275 yX5_openTransactions ∈ wAll := in_at 480 (by decide +kernel) (by decide +kernel)
set_option maxRecDepth 100000 in
theorem ml_L_90 : Cond.methodLink RL 90 yX7_drainIn ∈ wAll := in_at 484 (by decide +kernel) (by decide +kernel)
set_option maxRecDepth 100000 in
theorem ml_X7_230 : Cond.methodLink RX7 230 yX7_freshTrial ∈ wAll := in_at 488 (by decide +kernel) (by decide +kernel)
set_option maxRecDepth 100000 in
theorem ml_X7_234 : Cond.methodLink RX7 234 yX5_isDrained ∈ wAll := in_at 492 (by decide +kernel) (by decide +kernel)
set_option maxRecDepth 100000 in
theorem ml_X5_231 : Cond.methodLink RX5 231 yX5_answeredBy ∈ wAll := in_at 496 (by decide +kernel) (by decide +kernel)
set_option maxRecDepth 100000 in
theorem ml_X5_209 : Cond.methodLink RX5 209 yX5_isFor ∈ wAll := in_at 500 (by decide +kernel) (by decide +kernel)
set_option maxRecDepth 100000 in
theorem ml_X5_225 : Cond.methodLink RX5 225 yX3_wants ∈ wAll := in_at 504 (by decide +kernel) (by decide +kernel)
set_option maxRecDepth 100000 in
theorem ml_X7_237 : Cond.methodLink RX7 237 yX5_passTick ∈ wAll := in_at 508 (by decide +kernel) (by decide +kernel)
set_option maxRecDepth 100000 in
theorem ml_X5_124 : Cond.methodLink RX5 124 yX0_dueAt ∈ wAll := in_at 512 (by decide +kernel) (by decide +kernel)
set_option maxRecDepth 100000 in
theorem ml_X5_128 : Cond.methodLink RX5 128 yX5_firstComes ∈ wAll := in_at 516 (by decide +kernel) (by decide +kernel)
set_option maxRecDepth 100000 in
theorem ml_X5_150 : Cond.methodLink RX5 150 yX5_rowComes ∈ wAll := in_at 520 (by decide +kernel) (by decide +kernel)
set_option maxRecDepth 100000 in
theorem ml_X5_180 : Cond.methodLink RX5 180 yX3_isRepeat ∈ wAll := in_at 524 (by decide +kernel) (by decide +kernel)
set_option maxRecDepth 100000 in
theorem ml_X5_194 : Cond.methodLink RX5 194 yX3_takeEffect ∈ wAll := in_at 528 (by decide +kernel) (by decide +kernel)
set_option maxRecDepth 100000 in
theorem ml_X5_157 : Cond.methodLink RX5 157 yX0_removeFirst ∈ wAll := in_at 532 (by decide +kernel) (by decide +kernel)
set_option maxRecDepth 100000 in
theorem ml_X5_163 : Cond.methodLink RX5 163 yX3_answerComes ∈ wAll := in_at 536 (by decide +kernel) (by decide +kernel)
set_option maxRecDepth 100000 in
theorem ml_X5_166 : Cond.methodLink RX5 166 yX0_draft ∈ wAll := in_at 540 (by decide +kernel) (by decide +kernel)
set_option maxRecDepth 100000 in
theorem ml_X5_170 : Cond.methodLink RX5 170 yX1_becomeAnswer ∈ wAll := in_at 544 (by decide +kernel) (by decide +kernel)
set_option maxRecDepth 100000 in
theorem ml_X5_174 : Cond.methodLink RX5 174 yX5_post ∈ wAll := in_at 548 (by decide +kernel) (by decide +kernel)
set_option maxRecDepth 100000 in
theorem ml_X5_221 : Cond.methodLink RX5 221 yX0_postDraft ∈ wAll := in_at 552 (by decide +kernel) (by decide +kernel)
set_option maxRecDepth 100000 in
theorem ml_X5_131 : Cond.methodLink RX5 131 yX5_sendBatch ∈ wAll := in_at 556 (by decide +kernel) (by decide +kernel)
set_option maxRecDepth 100000 in
theorem ml_X5_203 : Cond.methodLink RX5 203 yX1_becomeBatch ∈ wAll := in_at 560 (by decide +kernel) (by decide +kernel)
set_option maxRecDepth 100000 in
theorem ml_X5_213 : Cond.methodLink RX5 213 yX1_addRow ∈ wAll := in_at 564 (by decide +kernel) (by decide +kernel)
set_option maxRecDepth 100000 in
theorem ml_L_31 : Cond.methodLink RL 31 yX7_slowest ∈ wAll := in_at 568 (by decide +kernel) (by decide +kernel)
set_option maxRecDepth 100000 in
theorem ml_X7_251 : Cond.methodLink RX7 251 yX5_rowsFor ∈ wAll := in_at 572 (by decide +kernel) (by decide +kernel)
set_option maxRecDepth 100000 in
theorem ml_L_86 : Cond.methodLink RL 86 yL_cell ∈ wAll := in_at 576 (by decide +kernel) (by decide +kernel)
set_option maxRecDepth 100000 in
theorem ml_L_47 : Cond.methodLink RL 47 yL_low ∈ wAll := in_at 580 (by decide +kernel) (by decide +kernel)
set_option maxRecDepth 100000 in
theorem ml_L_100 : Cond.methodLink RL 100 yL_rows ∈ wAll := in_at 584 (by decide +kernel) (by decide +kernel)
set_option maxRecDepth 100000 in
theorem ml_L_15 : Cond.methodLink RL 15 yX7_row ∈ wAll := in_at 587 (by decide +kernel) (by decide +kernel)
set_option maxRecDepth 100000 in
theorem ml_X7_201 : Cond.methodLink RX7 201 yX5_rowNumber ∈ wAll := in_at 592 (by decide +kernel) (by decide +kernel)
set_option maxRecDepth 100000 in
theorem ml_X5_247 : Cond.methodLink RX5 247 yX5_whyItStays ∈ wAll := in_at 596 (by decide +kernel) (by decide +kernel)
set_option maxRecDepth 100000 in
theorem ml_L_19 : Cond.methodLink RL 19 yX7_receiver ∈ wAll := in_at 600 (by decide +kernel) (by decide +kernel)
set_option maxRecDepth 100000 in
theorem ml_X7_216 : Cond.methodLink RX7 216 yX5_receiverNumber ∈ wAll := in_at 605 (by decide +kernel) (by decide +kernel)
set_option maxRecDepth 100000 in
theorem ml_X5_250 : Cond.methodLink RX5 250 yX5_rowsFor ∈ wAll := in_at 609 (by decide +kernel) (by decide +kernel)
set_option maxRecDepth 100000 in
theorem ml_X5_253 : Cond.methodLink RX5 253 yX5_sumDue ∈ wAll := in_at 610 (by decide +kernel) (by decide +kernel)
set_option maxRecDepth 100000 in
theorem ml_X5_257 : Cond.methodLink RX5 257 yX0_onWayOf ∈ wAll := in_at 614 (by decide +kernel) (by decide +kernel)
set_option maxRecDepth 100000 in
theorem ml_X5_260 : Cond.methodLink RX5 260 yX3_tell ∈ wAll := in_at 618 (by decide +kernel) (by decide +kernel)
set_option maxRecDepth 100000 in
theorem ml_L_22 : Cond.methodLink RL 22 yX7_setting ∈ wAll := in_at 622 (by decide +kernel) (by decide +kernel)
set_option maxRecDepth 100000 in
theorem ml_L_25 : Cond.methodLink RL 25 yL_in ∈ wAll := in_at 626 (by decide +kernel) (by decide +kernel)
set_option maxRecDepth 100000 in
theorem ml_L_97 : Cond.methodLink RL 97 yL_ways ∈ wAll := in_at 629 (by decide +kernel) (by decide +kernel)
set_option maxRecDepth 100000 in
theorem ml_L_35 : Cond.methodLink RL 35 yX7_message ∈ wAll := in_at 632 (by decide +kernel) (by decide +kernel)
set_option maxRecDepth 100000 in
theorem ml_X7_223 : Cond.methodLink RX7 223 yX1_tell ∈ wAll := in_at 636 (by decide +kernel) (by decide +kernel)
set_option maxRecDepth 100000 in
theorem ml_L_93 : Cond.methodLink RL 93 yL_act ∈ wAll := in_at 640 (by decide +kernel) (by decide +kernel)
set_option maxRecDepth 100000 in
theorem ml_L_53 : Cond.methodLink RL 53 yX7_begin ∈ wAll := in_at 643 (by decide +kernel) (by decide +kernel)
set_option maxRecDepth 100000 in
theorem ml_X7_37 : Cond.methodLink RX7 37 yX5_freePlace ∈ wAll := in_at 647 (by decide +kernel) (by decide +kernel)
set_option maxRecDepth 100000 in
theorem ml_X7_51 : Cond.methodLink RX7 51 yX5_openAt ∈ wAll := in_at 652 (by decide +kernel) (by decide +kernel)
set_option maxRecDepth 100000 in
theorem ml_L_56 : Cond.methodLink RL 56 yX7_skips ∈ wAll := in_at 657 (by decide +kernel) (by decide +kernel)
set_option maxRecDepth 100000 in
theorem ml_X7_248 : Cond.methodLink RX7 248 yX5_skipped ∈ wAll := in_at 662 (by decide +kernel) (by decide +kernel)
set_option maxRecDepth 100000 in
theorem ml_X5_85 : Cond.methodLink RX5 85 yX5_isOpen ∈ wAll := in_at 666 (by decide +kernel) (by decide +kernel)
set_option maxRecDepth 100000 in
theorem ml_L_59 : Cond.methodLink RL 59 yX7_write ∈ wAll := in_at 670 (by decide +kernel) (by decide +kernel)
set_option maxRecDepth 100000 in
theorem ml_X7_55 : Cond.methodLink RX7 55 yX5_isOpen ∈ wAll := in_at 674 (by decide +kernel) (by decide +kernel)
set_option maxRecDepth 100000 in
theorem ml_X7_72 : Cond.methodLink RX7 72 yX5_hasRoomToWrite ∈ wAll := in_at 677 (by decide +kernel) (by decide +kernel)
set_option maxRecDepth 100000 in
theorem ml_X7_77 : Cond.methodLink RX7 77 yX5_writeAt ∈ wAll := in_at 682 (by decide +kernel) (by decide +kernel)
set_option maxRecDepth 100000 in
theorem ml_X5_98 : Cond.methodLink RX5 98 yX5_hasRoomToWrite ∈ wAll := in_at 686 (by decide +kernel) (by decide +kernel)
set_option maxRecDepth 100000 in
theorem ml_X5_101 : Cond.methodLink RX5 101 yX6_addRow ∈ wAll := in_at 687 (by decide +kernel) (by decide +kernel)
set_option maxRecDepth 100000 in
theorem ml_L_63 : Cond.methodLink RL 63 yX7_commit ∈ wAll := in_at 691 (by decide +kernel) (by decide +kernel)
set_option maxRecDepth 100000 in
theorem ml_X7_81 : Cond.methodLink RX7 81 yX5_hasRoomToCommit ∈ wAll := in_at 695 (by decide +kernel) (by decide +kernel)
set_option maxRecDepth 100000 in
theorem ml_X7_86 : Cond.methodLink RX7 86 yX5_commitAt ∈ wAll := in_at 700 (by decide +kernel) (by decide +kernel)
set_option maxRecDepth 100000 in
theorem ml_X5_105 : Cond.methodLink RX5 105 yX5_hasRoomToCommit ∈ wAll := in_at 704 (by decide +kernel) (by decide +kernel)
set_option maxRecDepth 100000 in
theorem ml_X5_117 : Cond.methodLink RX5 117 yX4_addRow ∈ wAll := in_at 705 (by decide +kernel) (by decide +kernel)
set_option maxRecDepth 100000 in
theorem ml_L_66 : Cond.methodLink RL 66 yX7_drop ∈ wAll := in_at 709 (by decide +kernel) (by decide +kernel)
set_option maxRecDepth 100000 in
theorem ml_X7_99 : Cond.methodLink RX7 99 yX5_dropAt ∈ wAll := in_at 713 (by decide +kernel) (by decide +kernel)
set_option maxRecDepth 100000 in
theorem ml_L_69 : Cond.methodLink RL 69 yX7_want ∈ wAll := in_at 717 (by decide +kernel) (by decide +kernel)
set_option maxRecDepth 100000 in
theorem ml_L_72 : Cond.methodLink RL 72 yX7_lose ∈ wAll := in_at 722 (by decide +kernel) (by decide +kernel)
set_option maxRecDepth 100000 in
theorem ml_X7_134 : Cond.methodLink RX7 134 yX0_removeFirst ∈ wAll := in_at 727 (by decide +kernel) (by decide +kernel)
set_option maxRecDepth 100000 in
theorem ml_L_75 : Cond.methodLink RL 75 yL_sweeps ∈ wAll := in_at 728 (by decide +kernel) (by decide +kernel)
set_option maxRecDepth 100000 in
theorem ml_L_44 : Cond.methodLink RL 44 yX7_sweep ∈ wAll := in_at 731 (by decide +kernel) (by decide +kernel)
set_option maxRecDepth 100000 in
theorem ml_X7_140 : Cond.methodLink RX7 140 yX5_sweepRows ∈ wAll := in_at 735 (by decide +kernel) (by decide +kernel)
set_option maxRecDepth 100000 in
theorem ml_X5_234 : Cond.methodLink RX5 234 yX5_loseUnseen ∈ wAll := in_at 739 (by decide +kernel) (by decide +kernel)
set_option maxRecDepth 100000 in
theorem ml_L_82 : Cond.methodLink RL 82 yL_ticks ∈ wAll := in_at 743 (by decide +kernel) (by decide +kernel)
set_option maxRecDepth 100000 in
theorem ml_L_38 : Cond.methodLink RL 38 yL_greater ∈ wAll := in_at 746 (by decide +kernel) (by decide +kernel)
set_option maxRecDepth 100000 in
theorem ml_L_41 : Cond.methodLink RL 41 yX7_pass ∈ wAll := in_at 749 (by decide +kernel) (by decide +kernel)
set_option maxRecDepth 100000 in
theorem ml_X7_115 : Cond.methodLink RX7 115 yX7_isTicks ∈ wAll := in_at 753 (by decide +kernel) (by decide +kernel)
set_option maxRecDepth 100000 in
theorem ml_X7_120 : Cond.methodLink RX7 120 yX5_passTicks ∈ wAll := in_at 757 (by decide +kernel) (by decide +kernel)
set_option maxRecDepth 100000 in
theorem ml_X5_120 : Cond.methodLink RX5 120 yX5_passTick ∈ wAll := in_at 761 (by decide +kernel) (by decide +kernel)
set_option maxRecDepth 100000 in
theorem mi_X0_init : MI yX0_init cX0_init 2 none 0 := ⟨in_at 9 (by decide +kernel) (by decide +kernel), in_at 184 (by decide +kernel) (by decide +kernel), by decide, by decide, by decide +kernel⟩
set_option maxRecDepth 100000 in
theorem si_X0_init : Cond.instanceMethod yX0_init ∈ wAll := in_at 183 (by decide +kernel) (by decide +kernel)
set_option maxRecDepth 100000 in
theorem mi_X0_copyFrom : MI yX0_copyFrom cX0_copyFrom 3 none 1 := ⟨in_at 9 (by decide +kernel) (by decide +kernel), in_at 456 (by decide +kernel) (by decide +kernel), by decide, by decide, by decide +kernel⟩
set_option maxRecDepth 100000 in
theorem se_X0_copyFrom : Cond.selects yX0_copyFrom.cls yX0_copyFrom yX0_copyFrom ∈ wAll ∧ Cond.instanceMethod yX0_copyFrom ∈ wAll := ⟨in_at 455 (by decide +kernel) (by decide +kernel), in_at 454 (by decide +kernel) (by decide +kernel)⟩
set_option maxRecDepth 100000 in
theorem mi_X0_dueAt : MI yX0_dueAt cX0_dueAt 3 (some .int) 1 := ⟨in_at 9 (by decide +kernel) (by decide +kernel), in_at 515 (by decide +kernel) (by decide +kernel), by decide, by decide, by decide +kernel⟩
set_option maxRecDepth 100000 in
theorem se_X0_dueAt : Cond.selects yX0_dueAt.cls yX0_dueAt yX0_dueAt ∈ wAll ∧ Cond.instanceMethod yX0_dueAt ∈ wAll := ⟨in_at 514 (by decide +kernel) (by decide +kernel), in_at 513 (by decide +kernel) (by decide +kernel)⟩
set_option maxRecDepth 100000 in
theorem mi_X0_removeFirst : MI yX0_removeFirst cX0_removeFirst 3 none 0 := ⟨in_at 9 (by decide +kernel) (by decide +kernel), in_at 535 (by decide +kernel) (by decide +kernel), by decide, by decide, by decide +kernel⟩
set_option maxRecDepth 100000 in
theorem se_X0_removeFirst : Cond.selects yX0_removeFirst.cls yX0_removeFirst yX0_removeFirst ∈ wAll ∧ Cond.instanceMethod yX0_removeFirst ∈ wAll := ⟨in_at 534 (by decide +kernel) (by decide +kernel), in_at 533 (by decide +kernel) (by decide +kernel)⟩
set_option maxRecDepth 100000 in
theorem mi_X0_draft : MI yX0_draft cX0_draft 1 (some (.object "OutboxRelay$Message")) 0 := ⟨in_at 9 (by decide +kernel) (by decide +kernel), in_at 543 (by decide +kernel) (by decide +kernel), by decide, by decide, by decide +kernel⟩
set_option maxRecDepth 100000 in
theorem se_X0_draft : Cond.selects yX0_draft.cls yX0_draft yX0_draft ∈ wAll ∧ Cond.instanceMethod yX0_draft ∈ wAll := ⟨in_at 542 (by decide +kernel) (by decide +kernel), in_at 541 (by decide +kernel) (by decide +kernel)⟩
set_option maxRecDepth 100000 in
theorem mi_X0_postDraft : MI yX0_postDraft cX0_postDraft 5 none 2 := ⟨in_at 9 (by decide +kernel) (by decide +kernel), in_at 555 (by decide +kernel) (by decide +kernel), by decide, by decide, by decide +kernel⟩
set_option maxRecDepth 100000 in
theorem se_X0_postDraft : Cond.selects yX0_postDraft.cls yX0_postDraft yX0_postDraft ∈ wAll ∧ Cond.instanceMethod yX0_postDraft ∈ wAll := ⟨in_at 554 (by decide +kernel) (by decide +kernel), in_at 553 (by decide +kernel) (by decide +kernel)⟩
set_option maxRecDepth 100000 in
theorem mi_X0_onWayOf : MI yX0_onWayOf cX0_onWayOf 4 (some .int) 1 := ⟨in_at 9 (by decide +kernel) (by decide +kernel), in_at 617 (by decide +kernel) (by decide +kernel), by decide, by decide, by decide +kernel⟩
set_option maxRecDepth 100000 in
theorem se_X0_onWayOf : Cond.selects yX0_onWayOf.cls yX0_onWayOf yX0_onWayOf ∈ wAll ∧ Cond.instanceMethod yX0_onWayOf ∈ wAll := ⟨in_at 616 (by decide +kernel) (by decide +kernel), in_at 615 (by decide +kernel) (by decide +kernel)⟩
set_option maxRecDepth 100000 in
theorem mi_X1_init : MI yX1_init cX1_init 1 none 0 := ⟨in_at 10 (by decide +kernel) (by decide +kernel), in_at 191 (by decide +kernel) (by decide +kernel), by decide, by decide, by decide +kernel⟩
set_option maxRecDepth 100000 in
theorem si_X1_init : Cond.instanceMethod yX1_init ∈ wAll := in_at 190 (by decide +kernel) (by decide +kernel)
set_option maxRecDepth 100000 in
theorem mi_X1_copyFrom : MI yX1_copyFrom cX1_copyFrom 2 none 1 := ⟨in_at 10 (by decide +kernel) (by decide +kernel), in_at 460 (by decide +kernel) (by decide +kernel), by decide, by decide, by decide +kernel⟩
set_option maxRecDepth 100000 in
theorem se_X1_copyFrom : Cond.selects yX1_copyFrom.cls yX1_copyFrom yX1_copyFrom ∈ wAll ∧ Cond.instanceMethod yX1_copyFrom ∈ wAll := ⟨in_at 459 (by decide +kernel) (by decide +kernel), in_at 458 (by decide +kernel) (by decide +kernel)⟩
set_option maxRecDepth 100000 in
theorem mi_X1_becomeBatch : MI yX1_becomeBatch cX1_becomeBatch 2 none 1 := ⟨in_at 10 (by decide +kernel) (by decide +kernel), in_at 563 (by decide +kernel) (by decide +kernel), by decide, by decide, by decide +kernel⟩
set_option maxRecDepth 100000 in
theorem se_X1_becomeBatch : Cond.selects yX1_becomeBatch.cls yX1_becomeBatch yX1_becomeBatch ∈ wAll ∧ Cond.instanceMethod yX1_becomeBatch ∈ wAll := ⟨in_at 562 (by decide +kernel) (by decide +kernel), in_at 561 (by decide +kernel) (by decide +kernel)⟩
set_option maxRecDepth 100000 in
theorem mi_X1_becomeAnswer : MI yX1_becomeAnswer cX1_becomeAnswer 3 none 2 := ⟨in_at 10 (by decide +kernel) (by decide +kernel), in_at 547 (by decide +kernel) (by decide +kernel), by decide, by decide, by decide +kernel⟩
set_option maxRecDepth 100000 in
theorem se_X1_becomeAnswer : Cond.selects yX1_becomeAnswer.cls yX1_becomeAnswer yX1_becomeAnswer ∈ wAll ∧ Cond.instanceMethod yX1_becomeAnswer ∈ wAll := ⟨in_at 546 (by decide +kernel) (by decide +kernel), in_at 545 (by decide +kernel) (by decide +kernel)⟩
set_option maxRecDepth 100000 in
theorem mi_X1_addRow : MI yX1_addRow cX1_addRow 3 none 2 := ⟨in_at 10 (by decide +kernel) (by decide +kernel), in_at 567 (by decide +kernel) (by decide +kernel), by decide, by decide, by decide +kernel⟩
set_option maxRecDepth 100000 in
theorem se_X1_addRow : Cond.selects yX1_addRow.cls yX1_addRow yX1_addRow ∈ wAll ∧ Cond.instanceMethod yX1_addRow ∈ wAll := ⟨in_at 566 (by decide +kernel) (by decide +kernel), in_at 565 (by decide +kernel) (by decide +kernel)⟩
set_option maxRecDepth 100000 in
theorem mi_X1_tell : MI yX1_tell cX1_tell 3 (some .int) 2 := ⟨in_at 10 (by decide +kernel) (by decide +kernel), in_at 639 (by decide +kernel) (by decide +kernel), by decide, by decide, by decide +kernel⟩
set_option maxRecDepth 100000 in
theorem se_X1_tell : Cond.selects yX1_tell.cls yX1_tell yX1_tell ∈ wAll ∧ Cond.instanceMethod yX1_tell ∈ wAll := ⟨in_at 638 (by decide +kernel) (by decide +kernel), in_at 637 (by decide +kernel) (by decide +kernel)⟩
set_option maxRecDepth 100000 in
theorem mi_X2_init : MI yX2_init cX2_init 1 none 0 := ⟨in_at 11 (by decide +kernel) (by decide +kernel), in_at 285 (by decide +kernel) (by decide +kernel), by decide, by decide, by decide +kernel⟩
set_option maxRecDepth 100000 in
theorem si_X2_init : Cond.instanceMethod yX2_init ∈ wAll := in_at 284 (by decide +kernel) (by decide +kernel)
set_option maxRecDepth 100000 in
theorem mi_X3_init : MI yX3_init cX3_init 1 none 0 := ⟨in_at 8 (by decide +kernel) (by decide +kernel), in_at 126 (by decide +kernel) (by decide +kernel), by decide, by decide, by decide +kernel⟩
set_option maxRecDepth 100000 in
theorem si_X3_init : Cond.instanceMethod yX3_init ∈ wAll := in_at 125 (by decide +kernel) (by decide +kernel)
set_option maxRecDepth 100000 in
theorem mi_X3_copyFrom : MI yX3_copyFrom cX3_copyFrom 2 none 1 := ⟨in_at 8 (by decide +kernel) (by decide +kernel), in_at 451 (by decide +kernel) (by decide +kernel), by decide, by decide, by decide +kernel⟩
set_option maxRecDepth 100000 in
theorem se_X3_copyFrom : Cond.selects yX3_copyFrom.cls yX3_copyFrom yX3_copyFrom ∈ wAll ∧ Cond.instanceMethod yX3_copyFrom ∈ wAll := ⟨in_at 450 (by decide +kernel) (by decide +kernel), in_at 449 (by decide +kernel) (by decide +kernel)⟩
set_option maxRecDepth 100000 in
theorem mi_X3_wants : MI yX3_wants cX3_wants 2 (some .boolean) 1 := ⟨in_at 8 (by decide +kernel) (by decide +kernel), in_at 507 (by decide +kernel) (by decide +kernel), by decide, by decide, by decide +kernel⟩
set_option maxRecDepth 100000 in
theorem se_X3_wants : Cond.selects yX3_wants.cls yX3_wants yX3_wants ∈ wAll ∧ Cond.instanceMethod yX3_wants ∈ wAll := ⟨in_at 506 (by decide +kernel) (by decide +kernel), in_at 505 (by decide +kernel) (by decide +kernel)⟩
set_option maxRecDepth 100000 in
theorem mi_X3_isRepeat : MI yX3_isRepeat cX3_isRepeat 4 (some .boolean) 2 := ⟨in_at 8 (by decide +kernel) (by decide +kernel), in_at 527 (by decide +kernel) (by decide +kernel), by decide, by decide, by decide +kernel⟩
set_option maxRecDepth 100000 in
theorem se_X3_isRepeat : Cond.selects yX3_isRepeat.cls yX3_isRepeat yX3_isRepeat ∈ wAll ∧ Cond.instanceMethod yX3_isRepeat ∈ wAll := ⟨in_at 526 (by decide +kernel) (by decide +kernel), in_at 525 (by decide +kernel) (by decide +kernel)⟩
set_option maxRecDepth 100000 in
theorem mi_X3_takeEffect : MI yX3_takeEffect cX3_takeEffect 5 none 3 := ⟨in_at 8 (by decide +kernel) (by decide +kernel), in_at 531 (by decide +kernel) (by decide +kernel), by decide, by decide, by decide +kernel⟩
set_option maxRecDepth 100000 in
theorem se_X3_takeEffect : Cond.selects yX3_takeEffect.cls yX3_takeEffect yX3_takeEffect ∈ wAll ∧ Cond.instanceMethod yX3_takeEffect ∈ wAll := ⟨in_at 530 (by decide +kernel) (by decide +kernel), in_at 529 (by decide +kernel) (by decide +kernel)⟩
set_option maxRecDepth 100000 in
theorem mi_X3_answerComes : MI yX3_answerComes cX3_answerComes 2 none 1 := ⟨in_at 8 (by decide +kernel) (by decide +kernel), in_at 539 (by decide +kernel) (by decide +kernel), by decide, by decide, by decide +kernel⟩
set_option maxRecDepth 100000 in
theorem se_X3_answerComes : Cond.selects yX3_answerComes.cls yX3_answerComes yX3_answerComes ∈ wAll ∧ Cond.instanceMethod yX3_answerComes ∈ wAll := ⟨in_at 538 (by decide +kernel) (by decide +kernel), in_at 537 (by decide +kernel) (by decide +kernel)⟩
set_option maxRecDepth 100000 in
theorem mi_X3_tell : MI yX3_tell cX3_tell 2 (some .int) 1 := ⟨in_at 8 (by decide +kernel) (by decide +kernel), in_at 621 (by decide +kernel) (by decide +kernel), by decide, by decide, by decide +kernel⟩
set_option maxRecDepth 100000 in
theorem se_X3_tell : Cond.selects yX3_tell.cls yX3_tell yX3_tell ∈ wAll ∧ Cond.instanceMethod yX3_tell ∈ wAll := ⟨in_at 620 (by decide +kernel) (by decide +kernel), in_at 619 (by decide +kernel) (by decide +kernel)⟩
set_option maxRecDepth 100000 in
theorem mi_X4_init : MI yX4_init cX4_init 1 none 0 := ⟨in_at 7 (by decide +kernel) (by decide +kernel), in_at 75 (by decide +kernel) (by decide +kernel), by decide, by decide, by decide +kernel⟩
set_option maxRecDepth 100000 in
theorem si_X4_init : Cond.instanceMethod yX4_init ∈ wAll := in_at 74 (by decide +kernel) (by decide +kernel)
set_option maxRecDepth 100000 in
theorem mi_X4_copyFrom : MI yX4_copyFrom cX4_copyFrom 2 none 1 := ⟨in_at 7 (by decide +kernel) (by decide +kernel), in_at 446 (by decide +kernel) (by decide +kernel), by decide, by decide, by decide +kernel⟩
set_option maxRecDepth 100000 in
theorem se_X4_copyFrom : Cond.selects yX4_copyFrom.cls yX4_copyFrom yX4_copyFrom ∈ wAll ∧ Cond.instanceMethod yX4_copyFrom ∈ wAll := ⟨in_at 445 (by decide +kernel) (by decide +kernel), in_at 444 (by decide +kernel) (by decide +kernel)⟩
set_option maxRecDepth 100000 in
theorem mi_X4_addRow : MI yX4_addRow cX4_addRow 6 none 4 := ⟨in_at 7 (by decide +kernel) (by decide +kernel), in_at 708 (by decide +kernel) (by decide +kernel), by decide, by decide, by decide +kernel⟩
set_option maxRecDepth 100000 in
theorem se_X4_addRow : Cond.selects yX4_addRow.cls yX4_addRow yX4_addRow ∈ wAll ∧ Cond.instanceMethod yX4_addRow ∈ wAll := ⟨in_at 707 (by decide +kernel) (by decide +kernel), in_at 706 (by decide +kernel) (by decide +kernel)⟩
set_option maxRecDepth 100000 in
theorem mi_X5_init : MI yX5_init cX5_init 2 none 0 := ⟨in_at 5 (by decide +kernel) (by decide +kernel), in_at 31 (by decide +kernel) (by decide +kernel), by decide, by decide, by decide +kernel⟩
set_option maxRecDepth 100000 in
theorem si_X5_init : Cond.instanceMethod yX5_init ∈ wAll := in_at 30 (by decide +kernel) (by decide +kernel)
set_option maxRecDepth 100000 in
theorem mi_X5_copyFrom : MI yX5_copyFrom cX5_copyFrom 3 none 1 := ⟨in_at 5 (by decide +kernel) (by decide +kernel), in_at 434 (by decide +kernel) (by decide +kernel), by decide, by decide, by decide +kernel⟩
set_option maxRecDepth 100000 in
theorem se_X5_copyFrom : Cond.selects yX5_copyFrom.cls yX5_copyFrom yX5_copyFrom ∈ wAll ∧ Cond.instanceMethod yX5_copyFrom ∈ wAll := ⟨in_at 433 (by decide +kernel) (by decide +kernel), in_at 432 (by decide +kernel) (by decide +kernel)⟩
set_option maxRecDepth 100000 in
theorem mi_X5_freePlace : MI yX5_freePlace cX5_freePlace 2 (some .int) 0 := ⟨in_at 5 (by decide +kernel) (by decide +kernel), in_at 650 (by decide +kernel) (by decide +kernel), by decide, by decide, by decide +kernel⟩
set_option maxRecDepth 100000 in
theorem se_X5_freePlace : Cond.selects yX5_freePlace.cls yX5_freePlace yX5_freePlace ∈ wAll ∧ Cond.instanceMethod yX5_freePlace ∈ wAll := ⟨in_at 649 (by decide +kernel) (by decide +kernel), in_at 648 (by decide +kernel) (by decide +kernel)⟩
set_option maxRecDepth 100000 in
theorem mi_X5_isOpen : MI yX5_isOpen cX5_isOpen 2 (some .boolean) 1 := ⟨in_at 5 (by decide +kernel) (by decide +kernel), in_at 669 (by decide +kernel) (by decide +kernel), by decide, by decide, by decide +kernel⟩
set_option maxRecDepth 100000 in
theorem se_X5_isOpen : Cond.selects yX5_isOpen.cls yX5_isOpen yX5_isOpen ∈ wAll ∧ Cond.instanceMethod yX5_isOpen ∈ wAll := ⟨in_at 668 (by decide +kernel) (by decide +kernel), in_at 667 (by decide +kernel) (by decide +kernel)⟩
set_option maxRecDepth 100000 in
theorem mi_X5_hasRoomToWrite : MI yX5_hasRoomToWrite cX5_hasRoomToWrite 2 (some .boolean) 1 := ⟨in_at 5 (by decide +kernel) (by decide +kernel), in_at 680 (by decide +kernel) (by decide +kernel), by decide, by decide, by decide +kernel⟩
set_option maxRecDepth 100000 in
theorem se_X5_hasRoomToWrite : Cond.selects yX5_hasRoomToWrite.cls yX5_hasRoomToWrite yX5_hasRoomToWrite ∈ wAll ∧ Cond.instanceMethod yX5_hasRoomToWrite ∈ wAll := ⟨in_at 679 (by decide +kernel) (by decide +kernel), in_at 678 (by decide +kernel) (by decide +kernel)⟩
set_option maxRecDepth 100000 in
theorem mi_X5_hasRoomToCommit : MI yX5_hasRoomToCommit cX5_hasRoomToCommit 3 (some .boolean) 1 := ⟨in_at 5 (by decide +kernel) (by decide +kernel), in_at 698 (by decide +kernel) (by decide +kernel), by decide, by decide, by decide +kernel⟩
set_option maxRecDepth 100000 in
theorem se_X5_hasRoomToCommit : Cond.selects yX5_hasRoomToCommit.cls yX5_hasRoomToCommit yX5_hasRoomToCommit ∈ wAll ∧ Cond.instanceMethod yX5_hasRoomToCommit ∈ wAll := ⟨in_at 697 (by decide +kernel) (by decide +kernel), in_at 696 (by decide +kernel) (by decide +kernel)⟩
set_option maxRecDepth 100000 in
theorem mi_X5_openAt : MI yX5_openAt cX5_openAt 2 (some .boolean) 1 := ⟨in_at 5 (by decide +kernel) (by decide +kernel), in_at 655 (by decide +kernel) (by decide +kernel), by decide, by decide, by decide +kernel⟩
set_option maxRecDepth 100000 in
theorem se_X5_openAt : Cond.selects yX5_openAt.cls yX5_openAt yX5_openAt ∈ wAll ∧ Cond.instanceMethod yX5_openAt ∈ wAll := ⟨in_at 654 (by decide +kernel) (by decide +kernel), in_at 653 (by decide +kernel) (by decide +kernel)⟩
set_option maxRecDepth 100000 in
theorem mi_X5_writeAt : MI yX5_writeAt cX5_writeAt 4 (some .int) 3 := ⟨in_at 5 (by decide +kernel) (by decide +kernel), in_at 685 (by decide +kernel) (by decide +kernel), by decide, by decide, by decide +kernel⟩
set_option maxRecDepth 100000 in
theorem se_X5_writeAt : Cond.selects yX5_writeAt.cls yX5_writeAt yX5_writeAt ∈ wAll ∧ Cond.instanceMethod yX5_writeAt ∈ wAll := ⟨in_at 684 (by decide +kernel) (by decide +kernel), in_at 683 (by decide +kernel) (by decide +kernel)⟩
set_option maxRecDepth 100000 in
theorem mi_X5_commitAt : MI yX5_commitAt cX5_commitAt 7 none 1 := ⟨in_at 5 (by decide +kernel) (by decide +kernel), in_at 703 (by decide +kernel) (by decide +kernel), by decide, by decide, by decide +kernel⟩
set_option maxRecDepth 100000 in
theorem se_X5_commitAt : Cond.selects yX5_commitAt.cls yX5_commitAt yX5_commitAt ∈ wAll ∧ Cond.instanceMethod yX5_commitAt ∈ wAll := ⟨in_at 702 (by decide +kernel) (by decide +kernel), in_at 701 (by decide +kernel) (by decide +kernel)⟩
set_option maxRecDepth 100000 in
theorem mi_X5_dropAt : MI yX5_dropAt cX5_dropAt 2 (some .int) 1 := ⟨in_at 5 (by decide +kernel) (by decide +kernel), in_at 716 (by decide +kernel) (by decide +kernel), by decide, by decide, by decide +kernel⟩
set_option maxRecDepth 100000 in
theorem se_X5_dropAt : Cond.selects yX5_dropAt.cls yX5_dropAt yX5_dropAt ∈ wAll ∧ Cond.instanceMethod yX5_dropAt ∈ wAll := ⟨in_at 715 (by decide +kernel) (by decide +kernel), in_at 714 (by decide +kernel) (by decide +kernel)⟩
set_option maxRecDepth 100000 in
theorem mi_X5_passTicks : MI yX5_passTicks cX5_passTicks 4 (some .int) 1 := ⟨in_at 5 (by decide +kernel) (by decide +kernel), in_at 760 (by decide +kernel) (by decide +kernel), by decide, by decide, by decide +kernel⟩
set_option maxRecDepth 100000 in
theorem se_X5_passTicks : Cond.selects yX5_passTicks.cls yX5_passTicks yX5_passTicks ∈ wAll ∧ Cond.instanceMethod yX5_passTicks ∈ wAll := ⟨in_at 759 (by decide +kernel) (by decide +kernel), in_at 758 (by decide +kernel) (by decide +kernel)⟩
set_option maxRecDepth 100000 in
theorem mi_X5_passTick : MI yX5_passTick cX5_passTick 4 (some .int) 0 := ⟨in_at 5 (by decide +kernel) (by decide +kernel), in_at 511 (by decide +kernel) (by decide +kernel), by decide, by decide, by decide +kernel⟩
set_option maxRecDepth 100000 in
theorem se_X5_passTick : Cond.selects yX5_passTick.cls yX5_passTick yX5_passTick ∈ wAll ∧ Cond.instanceMethod yX5_passTick ∈ wAll := ⟨in_at 510 (by decide +kernel) (by decide +kernel), in_at 509 (by decide +kernel) (by decide +kernel)⟩
set_option maxRecDepth 100000 in
theorem mi_X5_firstComes : MI yX5_firstComes cX5_firstComes 6 (some .int) 0 := ⟨in_at 5 (by decide +kernel) (by decide +kernel), in_at 519 (by decide +kernel) (by decide +kernel), by decide, by decide, by decide +kernel⟩
set_option maxRecDepth 100000 in
theorem se_X5_firstComes : Cond.selects yX5_firstComes.cls yX5_firstComes yX5_firstComes ∈ wAll ∧ Cond.instanceMethod yX5_firstComes ∈ wAll := ⟨in_at 518 (by decide +kernel) (by decide +kernel), in_at 517 (by decide +kernel) (by decide +kernel)⟩
set_option maxRecDepth 100000 in
theorem mi_X5_rowComes : MI yX5_rowComes cX5_rowComes 6 (some .int) 2 := ⟨in_at 5 (by decide +kernel) (by decide +kernel), in_at 523 (by decide +kernel) (by decide +kernel), by decide, by decide, by decide +kernel⟩
set_option maxRecDepth 100000 in
theorem se_X5_rowComes : Cond.selects yX5_rowComes.cls yX5_rowComes yX5_rowComes ∈ wAll ∧ Cond.instanceMethod yX5_rowComes ∈ wAll := ⟨in_at 522 (by decide +kernel) (by decide +kernel), in_at 521 (by decide +kernel) (by decide +kernel)⟩
set_option maxRecDepth 100000 in
theorem mi_X5_sendBatch : MI yX5_sendBatch cX5_sendBatch 6 none 1 := ⟨in_at 5 (by decide +kernel) (by decide +kernel), in_at 559 (by decide +kernel) (by decide +kernel), by decide, by decide, by decide +kernel⟩
set_option maxRecDepth 100000 in
theorem se_X5_sendBatch : Cond.selects yX5_sendBatch.cls yX5_sendBatch yX5_sendBatch ∈ wAll ∧ Cond.instanceMethod yX5_sendBatch ∈ wAll := ⟨in_at 558 (by decide +kernel) (by decide +kernel), in_at 557 (by decide +kernel) (by decide +kernel)⟩
set_option maxRecDepth 100000 in
theorem mi_X5_post : MI yX5_post cX5_post 1 none 0 := ⟨in_at 5 (by decide +kernel) (by decide +kernel), in_at 551 (by decide +kernel) (by decide +kernel), by decide, by decide, by decide +kernel⟩
set_option maxRecDepth 100000 in
theorem se_X5_post : Cond.selects yX5_post.cls yX5_post yX5_post ∈ wAll ∧ Cond.instanceMethod yX5_post ∈ wAll := ⟨in_at 550 (by decide +kernel) (by decide +kernel), in_at 549 (by decide +kernel) (by decide +kernel)⟩
set_option maxRecDepth 100000 in
theorem mi_X5_isFor : MI yX5_isFor cX5_isFor 3 (some .boolean) 2 := ⟨in_at 5 (by decide +kernel) (by decide +kernel), in_at 503 (by decide +kernel) (by decide +kernel), by decide, by decide, by decide +kernel⟩
set_option maxRecDepth 100000 in
theorem se_X5_isFor : Cond.selects yX5_isFor.cls yX5_isFor yX5_isFor ∈ wAll ∧ Cond.instanceMethod yX5_isFor ∈ wAll := ⟨in_at 502 (by decide +kernel) (by decide +kernel), in_at 501 (by decide +kernel) (by decide +kernel)⟩
set_option maxRecDepth 100000 in
theorem mi_X5_rowsFor : MI yX5_rowsFor cX5_rowsFor 4 (some .int) 1 := ⟨in_at 5 (by decide +kernel) (by decide +kernel), in_at 575 (by decide +kernel) (by decide +kernel), by decide, by decide, by decide +kernel⟩
set_option maxRecDepth 100000 in
theorem se_X5_rowsFor : Cond.selects yX5_rowsFor.cls yX5_rowsFor yX5_rowsFor ∈ wAll ∧ Cond.instanceMethod yX5_rowsFor ∈ wAll := ⟨in_at 574 (by decide +kernel) (by decide +kernel), in_at 573 (by decide +kernel) (by decide +kernel)⟩
set_option maxRecDepth 100000 in
theorem mi_X5_answeredBy : MI yX5_answeredBy cX5_answeredBy 4 (some .int) 1 := ⟨in_at 5 (by decide +kernel) (by decide +kernel), in_at 499 (by decide +kernel) (by decide +kernel), by decide, by decide, by decide +kernel⟩
set_option maxRecDepth 100000 in
theorem se_X5_answeredBy : Cond.selects yX5_answeredBy.cls yX5_answeredBy yX5_answeredBy ∈ wAll ∧ Cond.instanceMethod yX5_answeredBy ∈ wAll := ⟨in_at 498 (by decide +kernel) (by decide +kernel), in_at 497 (by decide +kernel) (by decide +kernel)⟩
set_option maxRecDepth 100000 in
theorem mi_X5_sweepRows : MI yX5_sweepRows cX5_sweepRows 5 (some .int) 0 := ⟨in_at 5 (by decide +kernel) (by decide +kernel), in_at 738 (by decide +kernel) (by decide +kernel), by decide, by decide, by decide +kernel⟩
set_option maxRecDepth 100000 in
theorem se_X5_sweepRows : Cond.selects yX5_sweepRows.cls yX5_sweepRows yX5_sweepRows ∈ wAll ∧ Cond.instanceMethod yX5_sweepRows ∈ wAll := ⟨in_at 737 (by decide +kernel) (by decide +kernel), in_at 736 (by decide +kernel) (by decide +kernel)⟩
set_option maxRecDepth 100000 in
theorem mi_X5_loseUnseen : MI yX5_loseUnseen cX5_loseUnseen 4 none 1 := ⟨in_at 5 (by decide +kernel) (by decide +kernel), in_at 742 (by decide +kernel) (by decide +kernel), by decide, by decide, by decide +kernel⟩
set_option maxRecDepth 100000 in
theorem se_X5_loseUnseen : Cond.selects yX5_loseUnseen.cls yX5_loseUnseen yX5_loseUnseen ∈ wAll ∧ Cond.instanceMethod yX5_loseUnseen ∈ wAll := ⟨in_at 741 (by decide +kernel) (by decide +kernel), in_at 740 (by decide +kernel) (by decide +kernel)⟩
set_option maxRecDepth 100000 in
theorem mi_X5_isDrained : MI yX5_isDrained cX5_isDrained 2 (some .boolean) 0 := ⟨in_at 5 (by decide +kernel) (by decide +kernel), in_at 495 (by decide +kernel) (by decide +kernel), by decide, by decide, by decide +kernel⟩
set_option maxRecDepth 100000 in
theorem se_X5_isDrained : Cond.selects yX5_isDrained.cls yX5_isDrained yX5_isDrained ∈ wAll ∧ Cond.instanceMethod yX5_isDrained ∈ wAll := ⟨in_at 494 (by decide +kernel) (by decide +kernel), in_at 493 (by decide +kernel) (by decide +kernel)⟩
set_option maxRecDepth 100000 in
theorem mi_X5_rowNumber : MI yX5_rowNumber cX5_rowNumber 3 (some .int) 2 := ⟨in_at 5 (by decide +kernel) (by decide +kernel), in_at 595 (by decide +kernel) (by decide +kernel), by decide, by decide, by decide +kernel⟩
set_option maxRecDepth 100000 in
theorem se_X5_rowNumber : Cond.selects yX5_rowNumber.cls yX5_rowNumber yX5_rowNumber ∈ wAll ∧ Cond.instanceMethod yX5_rowNumber ∈ wAll := ⟨in_at 594 (by decide +kernel) (by decide +kernel), in_at 593 (by decide +kernel) (by decide +kernel)⟩
set_option maxRecDepth 100000 in
theorem mi_X5_whyItStays : MI yX5_whyItStays cX5_whyItStays 3 (some .int) 1 := ⟨in_at 5 (by decide +kernel) (by decide +kernel), in_at 599 (by decide +kernel) (by decide +kernel), by decide, by decide, by decide +kernel⟩
set_option maxRecDepth 100000 in
theorem se_X5_whyItStays : Cond.selects yX5_whyItStays.cls yX5_whyItStays yX5_whyItStays ∈ wAll ∧ Cond.instanceMethod yX5_whyItStays ∈ wAll := ⟨in_at 598 (by decide +kernel) (by decide +kernel), in_at 597 (by decide +kernel) (by decide +kernel)⟩
set_option maxRecDepth 100000 in
theorem mi_X5_receiverNumber : MI yX5_receiverNumber cX5_receiverNumber 3 (some .int) 2 := ⟨in_at 5 (by decide +kernel) (by decide +kernel), in_at 608 (by decide +kernel) (by decide +kernel), by decide, by decide, by decide +kernel⟩
set_option maxRecDepth 100000 in
theorem se_X5_receiverNumber : Cond.selects yX5_receiverNumber.cls yX5_receiverNumber yX5_receiverNumber ∈ wAll ∧ Cond.instanceMethod yX5_receiverNumber ∈ wAll := ⟨in_at 607 (by decide +kernel) (by decide +kernel), in_at 606 (by decide +kernel) (by decide +kernel)⟩
set_option maxRecDepth 100000 in
theorem mi_X5_sumDue : MI yX5_sumDue cX5_sumDue 4 (some .int) 1 := ⟨in_at 5 (by decide +kernel) (by decide +kernel), in_at 613 (by decide +kernel) (by decide +kernel), by decide, by decide, by decide +kernel⟩
set_option maxRecDepth 100000 in
theorem se_X5_sumDue : Cond.selects yX5_sumDue.cls yX5_sumDue yX5_sumDue ∈ wAll ∧ Cond.instanceMethod yX5_sumDue ∈ wAll := ⟨in_at 612 (by decide +kernel) (by decide +kernel), in_at 611 (by decide +kernel) (by decide +kernel)⟩
set_option maxRecDepth 100000 in
theorem mi_X5_skipped : MI yX5_skipped cX5_skipped 9 (some .int) 2 := ⟨in_at 5 (by decide +kernel) (by decide +kernel), in_at 665 (by decide +kernel) (by decide +kernel), by decide, by decide, by decide +kernel⟩
set_option maxRecDepth 100000 in
theorem se_X5_skipped : Cond.selects yX5_skipped.cls yX5_skipped yX5_skipped ∈ wAll ∧ Cond.instanceMethod yX5_skipped ∈ wAll := ⟨in_at 664 (by decide +kernel) (by decide +kernel), in_at 663 (by decide +kernel) (by decide +kernel)⟩
set_option maxRecDepth 100000 in
theorem mi_X5_counted : MI yX5_counted cX5_counted 2 (some .int) 1 := ⟨in_at 5 (by decide +kernel) (by decide +kernel), in_at 479 (by decide +kernel) (by decide +kernel), by decide, by decide, by decide +kernel⟩
set_option maxRecDepth 100000 in
theorem se_X5_counted : Cond.selects yX5_counted.cls yX5_counted yX5_counted ∈ wAll ∧ Cond.instanceMethod yX5_counted ∈ wAll := ⟨in_at 478 (by decide +kernel) (by decide +kernel), in_at 477 (by decide +kernel) (by decide +kernel)⟩
set_option maxRecDepth 100000 in
theorem mi_X5_openTransactions : MI yX5_openTransactions cX5_openTransactions 3 (some .int) 0 := ⟨in_at 5 (by decide +kernel) (by decide +kernel), in_at 483 (by decide +kernel) (by decide +kernel), by decide, by decide, by decide +kernel⟩
set_option maxRecDepth 100000 in
theorem se_X5_openTransactions : Cond.selects yX5_openTransactions.cls yX5_openTransactions yX5_openTransactions ∈ wAll ∧ Cond.instanceMethod yX5_openTransactions ∈ wAll := ⟨in_at 482 (by decide +kernel) (by decide +kernel), in_at 481 (by decide +kernel) (by decide +kernel)⟩
set_option maxRecDepth 100000 in
theorem mi_X6_init : MI yX6_init cX6_init 1 none 0 := ⟨in_at 6 (by decide +kernel) (by decide +kernel), in_at 47 (by decide +kernel) (by decide +kernel), by decide, by decide, by decide +kernel⟩
set_option maxRecDepth 100000 in
theorem si_X6_init : Cond.instanceMethod yX6_init ∈ wAll := in_at 46 (by decide +kernel) (by decide +kernel)
set_option maxRecDepth 100000 in
theorem mi_X6_copyFrom : MI yX6_copyFrom cX6_copyFrom 2 none 1 := ⟨in_at 6 (by decide +kernel) (by decide +kernel), in_at 441 (by decide +kernel) (by decide +kernel), by decide, by decide, by decide +kernel⟩
set_option maxRecDepth 100000 in
theorem se_X6_copyFrom : Cond.selects yX6_copyFrom.cls yX6_copyFrom yX6_copyFrom ∈ wAll ∧ Cond.instanceMethod yX6_copyFrom ∈ wAll := ⟨in_at 440 (by decide +kernel) (by decide +kernel), in_at 439 (by decide +kernel) (by decide +kernel)⟩
set_option maxRecDepth 100000 in
theorem mi_X6_addRow : MI yX6_addRow cX6_addRow 4 none 3 := ⟨in_at 6 (by decide +kernel) (by decide +kernel), in_at 690 (by decide +kernel) (by decide +kernel), by decide, by decide, by decide +kernel⟩
set_option maxRecDepth 100000 in
theorem se_X6_addRow : Cond.selects yX6_addRow.cls yX6_addRow yX6_addRow ∈ wAll ∧ Cond.instanceMethod yX6_addRow ∈ wAll := ⟨in_at 689 (by decide +kernel) (by decide +kernel), in_at 688 (by decide +kernel) (by decide +kernel)⟩
set_option maxRecDepth 100000 in
theorem mi_X6_tell : MI yX6_tell cX6_tell 4 (some .int) 1 := ⟨in_at 6 (by decide +kernel) (by decide +kernel), in_at 471 (by decide +kernel) (by decide +kernel), by decide, by decide, by decide +kernel⟩
set_option maxRecDepth 100000 in
theorem se_X6_tell : Cond.selects yX6_tell.cls yX6_tell yX6_tell ∈ wAll ∧ Cond.instanceMethod yX6_tell ∈ wAll := ⟨in_at 470 (by decide +kernel) (by decide +kernel), in_at 469 (by decide +kernel) (by decide +kernel)⟩
set_option maxRecDepth 100000 in
theorem mi_X7_init : MI yX7_init cX7_init 1 none 0 := ⟨in_at 4 (by decide +kernel) (by decide +kernel), in_at 23 (by decide +kernel) (by decide +kernel), by decide, by decide, by decide +kernel⟩
set_option maxRecDepth 100000 in
theorem si_X7_init : Cond.instanceMethod yX7_init ∈ wAll := in_at 22 (by decide +kernel) (by decide +kernel)
set_option maxRecDepth 100000 in
theorem mi_X7_begin : MI yX7_begin cX7_begin 2 (some .int) 0 := ⟨in_at 4 (by decide +kernel) (by decide +kernel), in_at 646 (by decide +kernel) (by decide +kernel), by decide, by decide, by decide +kernel⟩
set_option maxRecDepth 100000 in
theorem se_X7_begin : Cond.selects yX7_begin.cls yX7_begin yX7_begin ∈ wAll ∧ Cond.instanceMethod yX7_begin ∈ wAll := ⟨in_at 645 (by decide +kernel) (by decide +kernel), in_at 644 (by decide +kernel) (by decide +kernel)⟩
set_option maxRecDepth 100000 in
theorem mi_X7_write : MI yX7_write cX7_write 4 (some .int) 3 := ⟨in_at 4 (by decide +kernel) (by decide +kernel), in_at 673 (by decide +kernel) (by decide +kernel), by decide, by decide, by decide +kernel⟩
set_option maxRecDepth 100000 in
theorem se_X7_write : Cond.selects yX7_write.cls yX7_write yX7_write ∈ wAll ∧ Cond.instanceMethod yX7_write ∈ wAll := ⟨in_at 672 (by decide +kernel) (by decide +kernel), in_at 671 (by decide +kernel) (by decide +kernel)⟩
set_option maxRecDepth 100000 in
theorem mi_X7_commit : MI yX7_commit cX7_commit 2 (some .int) 1 := ⟨in_at 4 (by decide +kernel) (by decide +kernel), in_at 694 (by decide +kernel) (by decide +kernel), by decide, by decide, by decide +kernel⟩
set_option maxRecDepth 100000 in
theorem se_X7_commit : Cond.selects yX7_commit.cls yX7_commit yX7_commit ∈ wAll ∧ Cond.instanceMethod yX7_commit ∈ wAll := ⟨in_at 693 (by decide +kernel) (by decide +kernel), in_at 692 (by decide +kernel) (by decide +kernel)⟩
set_option maxRecDepth 100000 in
theorem mi_X7_drop : MI yX7_drop cX7_drop 2 (some .int) 1 := ⟨in_at 4 (by decide +kernel) (by decide +kernel), in_at 712 (by decide +kernel) (by decide +kernel), by decide, by decide, by decide +kernel⟩
set_option maxRecDepth 100000 in
theorem se_X7_drop : Cond.selects yX7_drop.cls yX7_drop yX7_drop ∈ wAll ∧ Cond.instanceMethod yX7_drop ∈ wAll := ⟨in_at 711 (by decide +kernel) (by decide +kernel), in_at 710 (by decide +kernel) (by decide +kernel)⟩
set_option maxRecDepth 100000 in
theorem mi_X7_want : MI yX7_want cX7_want 5 (some .int) 2 := ⟨in_at 4 (by decide +kernel) (by decide +kernel), in_at 720 (by decide +kernel) (by decide +kernel), by decide, by decide, by decide +kernel⟩
set_option maxRecDepth 100000 in
theorem se_X7_want : Cond.selects yX7_want.cls yX7_want yX7_want ∈ wAll ∧ Cond.instanceMethod yX7_want ∈ wAll := ⟨in_at 719 (by decide +kernel) (by decide +kernel), in_at 718 (by decide +kernel) (by decide +kernel)⟩
set_option maxRecDepth 100000 in
theorem mi_X7_pass : MI yX7_pass cX7_pass 2 (some .int) 1 := ⟨in_at 4 (by decide +kernel) (by decide +kernel), in_at 752 (by decide +kernel) (by decide +kernel), by decide, by decide, by decide +kernel⟩
set_option maxRecDepth 100000 in
theorem se_X7_pass : Cond.selects yX7_pass.cls yX7_pass yX7_pass ∈ wAll ∧ Cond.instanceMethod yX7_pass ∈ wAll := ⟨in_at 751 (by decide +kernel) (by decide +kernel), in_at 750 (by decide +kernel) (by decide +kernel)⟩
set_option maxRecDepth 100000 in
theorem mi_X7_lose : MI yX7_lose cX7_lose 1 (some .int) 0 := ⟨in_at 4 (by decide +kernel) (by decide +kernel), in_at 725 (by decide +kernel) (by decide +kernel), by decide, by decide, by decide +kernel⟩
set_option maxRecDepth 100000 in
theorem se_X7_lose : Cond.selects yX7_lose.cls yX7_lose yX7_lose ∈ wAll ∧ Cond.instanceMethod yX7_lose ∈ wAll := ⟨in_at 724 (by decide +kernel) (by decide +kernel), in_at 723 (by decide +kernel) (by decide +kernel)⟩
set_option maxRecDepth 100000 in
theorem mi_X7_sweep : MI yX7_sweep cX7_sweep 1 (some .int) 0 := ⟨in_at 4 (by decide +kernel) (by decide +kernel), in_at 734 (by decide +kernel) (by decide +kernel), by decide, by decide, by decide +kernel⟩
set_option maxRecDepth 100000 in
theorem se_X7_sweep : Cond.selects yX7_sweep.cls yX7_sweep yX7_sweep ∈ wAll ∧ Cond.instanceMethod yX7_sweep ∈ wAll := ⟨in_at 733 (by decide +kernel) (by decide +kernel), in_at 732 (by decide +kernel) (by decide +kernel)⟩
set_option maxRecDepth 100000 in
theorem mi_X7_set : MI yX7_set cX7_set 4 (some .int) 2 := ⟨in_at 4 (by decide +kernel) (by decide +kernel), in_at 316 (by decide +kernel) (by decide +kernel), by decide, by decide, by decide +kernel⟩
set_option maxRecDepth 100000 in
theorem se_X7_set : Cond.selects yX7_set.cls yX7_set yX7_set ∈ wAll ∧ Cond.instanceMethod yX7_set ∈ wAll := ⟨in_at 315 (by decide +kernel) (by decide +kernel), in_at 314 (by decide +kernel) (by decide +kernel)⟩
set_option maxRecDepth 100000 in
theorem mi_X7_row : MI yX7_row cX7_row 3 (some .int) 2 := ⟨in_at 4 (by decide +kernel) (by decide +kernel), in_at 590 (by decide +kernel) (by decide +kernel), by decide, by decide, by decide +kernel⟩
set_option maxRecDepth 100000 in
theorem se_X7_row : Cond.selects yX7_row.cls yX7_row yX7_row ∈ wAll ∧ Cond.instanceMethod yX7_row ∈ wAll := ⟨in_at 589 (by decide +kernel) (by decide +kernel), in_at 588 (by decide +kernel) (by decide +kernel)⟩
set_option maxRecDepth 100000 in
theorem mi_X7_transaction : MI yX7_transaction cX7_transaction 3 (some .int) 2 := ⟨in_at 4 (by decide +kernel) (by decide +kernel), in_at 465 (by decide +kernel) (by decide +kernel), by decide, by decide, by decide +kernel⟩
set_option maxRecDepth 100000 in
theorem se_X7_transaction : Cond.selects yX7_transaction.cls yX7_transaction yX7_transaction ∈ wAll ∧ Cond.instanceMethod yX7_transaction ∈ wAll := ⟨in_at 464 (by decide +kernel) (by decide +kernel), in_at 463 (by decide +kernel) (by decide +kernel)⟩
set_option maxRecDepth 100000 in
theorem mi_X7_receiver : MI yX7_receiver cX7_receiver 3 (some .int) 2 := ⟨in_at 4 (by decide +kernel) (by decide +kernel), in_at 603 (by decide +kernel) (by decide +kernel), by decide, by decide, by decide +kernel⟩
set_option maxRecDepth 100000 in
theorem se_X7_receiver : Cond.selects yX7_receiver.cls yX7_receiver yX7_receiver ∈ wAll ∧ Cond.instanceMethod yX7_receiver ∈ wAll := ⟨in_at 602 (by decide +kernel) (by decide +kernel), in_at 601 (by decide +kernel) (by decide +kernel)⟩
set_option maxRecDepth 100000 in
theorem mi_X7_message : MI yX7_message cX7_message 3 (some .int) 2 := ⟨in_at 4 (by decide +kernel) (by decide +kernel), in_at 635 (by decide +kernel) (by decide +kernel), by decide, by decide, by decide +kernel⟩
set_option maxRecDepth 100000 in
theorem se_X7_message : Cond.selects yX7_message.cls yX7_message yX7_message ∈ wAll ∧ Cond.instanceMethod yX7_message ∈ wAll := ⟨in_at 634 (by decide +kernel) (by decide +kernel), in_at 633 (by decide +kernel) (by decide +kernel)⟩
set_option maxRecDepth 100000 in
theorem mi_X7_count : MI yX7_count cX7_count 2 (some .int) 1 := ⟨in_at 4 (by decide +kernel) (by decide +kernel), in_at 475 (by decide +kernel) (by decide +kernel), by decide, by decide, by decide +kernel⟩
set_option maxRecDepth 100000 in
theorem se_X7_count : Cond.selects yX7_count.cls yX7_count yX7_count ∈ wAll ∧ Cond.instanceMethod yX7_count ∈ wAll := ⟨in_at 474 (by decide +kernel) (by decide +kernel), in_at 473 (by decide +kernel) (by decide +kernel)⟩
set_option maxRecDepth 100000 in
theorem mi_X7_setting : MI yX7_setting cX7_setting 2 (some .int) 1 := ⟨in_at 4 (by decide +kernel) (by decide +kernel), in_at 625 (by decide +kernel) (by decide +kernel), by decide, by decide, by decide +kernel⟩
set_option maxRecDepth 100000 in
theorem se_X7_setting : Cond.selects yX7_setting.cls yX7_setting yX7_setting ∈ wAll ∧ Cond.instanceMethod yX7_setting ∈ wAll := ⟨in_at 624 (by decide +kernel) (by decide +kernel), in_at 623 (by decide +kernel) (by decide +kernel)⟩
set_option maxRecDepth 100000 in
theorem mi_X7_drainIn : MI yX7_drainIn cX7_drainIn 3 (some .int) 0 := ⟨in_at 4 (by decide +kernel) (by decide +kernel), in_at 487 (by decide +kernel) (by decide +kernel), by decide, by decide, by decide +kernel⟩
set_option maxRecDepth 100000 in
theorem se_X7_drainIn : Cond.selects yX7_drainIn.cls yX7_drainIn yX7_drainIn ∈ wAll ∧ Cond.instanceMethod yX7_drainIn ∈ wAll := ⟨in_at 486 (by decide +kernel) (by decide +kernel), in_at 485 (by decide +kernel) (by decide +kernel)⟩
set_option maxRecDepth 100000 in
theorem mi_X7_skips : MI yX7_skips cX7_skips 3 (some .int) 2 := ⟨in_at 4 (by decide +kernel) (by decide +kernel), in_at 660 (by decide +kernel) (by decide +kernel), by decide, by decide, by decide +kernel⟩
set_option maxRecDepth 100000 in
theorem se_X7_skips : Cond.selects yX7_skips.cls yX7_skips yX7_skips ∈ wAll ∧ Cond.instanceMethod yX7_skips ∈ wAll := ⟨in_at 659 (by decide +kernel) (by decide +kernel), in_at 658 (by decide +kernel) (by decide +kernel)⟩
set_option maxRecDepth 100000 in
theorem mi_X7_slowest : MI yX7_slowest cX7_slowest 5 (some .int) 0 := ⟨in_at 4 (by decide +kernel) (by decide +kernel), in_at 571 (by decide +kernel) (by decide +kernel), by decide, by decide, by decide +kernel⟩
set_option maxRecDepth 100000 in
theorem se_X7_slowest : Cond.selects yX7_slowest.cls yX7_slowest yX7_slowest ∈ wAll ∧ Cond.instanceMethod yX7_slowest ∈ wAll := ⟨in_at 570 (by decide +kernel) (by decide +kernel), in_at 569 (by decide +kernel) (by decide +kernel)⟩
set_option maxRecDepth 100000 in
theorem mi_X7_isBelow : MI yX7_isBelow cX7_isBelow 2 (some .boolean) 2 := ⟨in_at 4 (by decide +kernel) (by decide +kernel), in_at 319 (by decide +kernel) (by decide +kernel), by decide, by decide, by decide +kernel⟩
set_option maxRecDepth 100000 in
theorem ss_X7_isBelow : Cond.static yX7_isBelow ∈ wAll := in_at 318 (by decide +kernel) (by decide +kernel)
set_option maxRecDepth 100000 in
theorem mi_X7_isTicks : MI yX7_isTicks cX7_isTicks 1 (some .boolean) 1 := ⟨in_at 4 (by decide +kernel) (by decide +kernel), in_at 755 (by decide +kernel) (by decide +kernel), by decide, by decide, by decide +kernel⟩
set_option maxRecDepth 100000 in
theorem ss_X7_isTicks : Cond.static yX7_isTicks ∈ wAll := in_at 754 (by decide +kernel) (by decide +kernel)
set_option maxRecDepth 100000 in
theorem mi_X7_isSettingValue : MI yX7_isSettingValue cX7_isSettingValue 2 (some .boolean) 2 := ⟨in_at 4 (by decide +kernel) (by decide +kernel), in_at 390 (by decide +kernel) (by decide +kernel), by decide, by decide, by decide +kernel⟩
set_option maxRecDepth 100000 in
theorem ss_X7_isSettingValue : Cond.static yX7_isSettingValue ∈ wAll := in_at 389 (by decide +kernel) (by decide +kernel)
set_option maxRecDepth 100000 in
theorem mi_X7_save : MI yX7_save cX7_save 3 none 0 := ⟨in_at 4 (by decide +kernel) (by decide +kernel), in_at 430 (by decide +kernel) (by decide +kernel), by decide, by decide, by decide +kernel⟩
set_option maxRecDepth 100000 in
theorem se_X7_save : Cond.selects yX7_save.cls yX7_save yX7_save ∈ wAll ∧ Cond.instanceMethod yX7_save ∈ wAll := ⟨in_at 1 (by decide +kernel) (by decide +kernel), in_at 429 (by decide +kernel) (by decide +kernel)⟩
set_option maxRecDepth 100000 in
theorem mi_X7_freshTrial : MI yX7_freshTrial cX7_freshTrial 1 (some (.object "OutboxRelay$State")) 0 := ⟨in_at 4 (by decide +kernel) (by decide +kernel), in_at 491 (by decide +kernel) (by decide +kernel), by decide, by decide, by decide +kernel⟩
set_option maxRecDepth 100000 in
theorem se_X7_freshTrial : Cond.selects yX7_freshTrial.cls yX7_freshTrial yX7_freshTrial ∈ wAll ∧ Cond.instanceMethod yX7_freshTrial ∈ wAll := ⟨in_at 2 (by decide +kernel) (by decide +kernel), in_at 490 (by decide +kernel) (by decide +kernel)⟩
set_option maxRecDepth 100000 in
theorem mi_L_cell : MI yL_cell cL_cell 2 (some .int) 2 := ⟨in_at 3 (by decide +kernel) (by decide +kernel), in_at 578 (by decide +kernel) (by decide +kernel), by decide, by decide, by decide +kernel⟩
set_option maxRecDepth 100000 in
theorem ss_L_cell : Cond.static yL_cell ∈ wAll := in_at 577 (by decide +kernel) (by decide +kernel)
set_option maxRecDepth 100000 in
theorem mi_L_low : MI yL_low cL_low 2 (some .int) 2 := ⟨in_at 3 (by decide +kernel) (by decide +kernel), in_at 582 (by decide +kernel) (by decide +kernel), by decide, by decide, by decide +kernel⟩
set_option maxRecDepth 100000 in
theorem ss_L_low : Cond.static yL_low ∈ wAll := in_at 581 (by decide +kernel) (by decide +kernel)
set_option maxRecDepth 100000 in
theorem mi_L_greater : MI yL_greater cL_greater 2 (some .int) 2 := ⟨in_at 3 (by decide +kernel) (by decide +kernel), in_at 748 (by decide +kernel) (by decide +kernel), by decide, by decide, by decide +kernel⟩
set_option maxRecDepth 100000 in
theorem ss_L_greater : Cond.static yL_greater ∈ wAll := in_at 747 (by decide +kernel) (by decide +kernel)
set_option maxRecDepth 100000 in
theorem mi_L_rows : MI yL_rows cL_rows 12 (some .boolean) 1 := ⟨in_at 3 (by decide +kernel) (by decide +kernel), in_at 586 (by decide +kernel) (by decide +kernel), by decide, by decide, by decide +kernel⟩
set_option maxRecDepth 100000 in
theorem ss_L_rows : Cond.static yL_rows ∈ wAll := in_at 585 (by decide +kernel) (by decide +kernel)
set_option maxRecDepth 100000 in
theorem mi_L_in : MI yL_in cL_in 3 (some .boolean) 3 := ⟨in_at 3 (by decide +kernel) (by decide +kernel), in_at 628 (by decide +kernel) (by decide +kernel), by decide, by decide, by decide +kernel⟩
set_option maxRecDepth 100000 in
theorem ss_L_in : Cond.static yL_in ∈ wAll := in_at 627 (by decide +kernel) (by decide +kernel)
set_option maxRecDepth 100000 in
theorem mi_L_ways : MI yL_ways cL_ways 8 (some .boolean) 1 := ⟨in_at 3 (by decide +kernel) (by decide +kernel), in_at 631 (by decide +kernel) (by decide +kernel), by decide, by decide, by decide +kernel⟩
set_option maxRecDepth 100000 in
theorem ss_L_ways : Cond.static yL_ways ∈ wAll := in_at 630 (by decide +kernel) (by decide +kernel)
set_option maxRecDepth 100000 in
theorem mi_L_ticks : MI yL_ticks cL_ticks 16 (some .boolean) 1 := ⟨in_at 3 (by decide +kernel) (by decide +kernel), in_at 745 (by decide +kernel) (by decide +kernel), by decide, by decide, by decide +kernel⟩
set_option maxRecDepth 100000 in
theorem ss_L_ticks : Cond.static yL_ticks ∈ wAll := in_at 744 (by decide +kernel) (by decide +kernel)
set_option maxRecDepth 100000 in
theorem mi_L_sweeps : MI yL_sweeps cL_sweeps 7 (some .boolean) 1 := ⟨in_at 3 (by decide +kernel) (by decide +kernel), in_at 730 (by decide +kernel) (by decide +kernel), by decide, by decide, by decide +kernel⟩
set_option maxRecDepth 100000 in
theorem ss_L_sweeps : Cond.static yL_sweeps ∈ wAll := in_at 729 (by decide +kernel) (by decide +kernel)
set_option maxRecDepth 100000 in
theorem mi_L_act : MI yL_act cL_act 10 (some .boolean) 3 := ⟨in_at 3 (by decide +kernel) (by decide +kernel), in_at 642 (by decide +kernel) (by decide +kernel), by decide, by decide, by decide +kernel⟩
set_option maxRecDepth 100000 in
theorem ss_L_act : Cond.static yL_act ∈ wAll := in_at 641 (by decide +kernel) (by decide +kernel)
set_option maxRecDepth 100000 in
theorem ml_X7_1 : Cond.methodLink RX7 1 objectInit ∈ wAll := in_at 24 (by decide +kernel) (by decide +kernel)
set_option maxRecDepth 100000 in
theorem ml_X5_3 : Cond.methodLink RX5 3 objectInit ∈ wAll := in_at 32 (by decide +kernel) (by decide +kernel)
set_option maxRecDepth 100000 in
theorem ml_X6_3 : Cond.methodLink RX6 3 objectInit ∈ wAll := in_at 48 (by decide +kernel) (by decide +kernel)
set_option maxRecDepth 100000 in
theorem ml_X4_3 : Cond.methodLink RX4 3 objectInit ∈ wAll := in_at 76 (by decide +kernel) (by decide +kernel)
set_option maxRecDepth 100000 in
theorem ml_X3_3 : Cond.methodLink RX3 3 objectInit ∈ wAll := in_at 127 (by decide +kernel) (by decide +kernel)
set_option maxRecDepth 100000 in
theorem ml_X0_3 : Cond.methodLink RX0 3 objectInit ∈ wAll := in_at 185 (by decide +kernel) (by decide +kernel)
set_option maxRecDepth 100000 in
theorem ml_X1_3 : Cond.methodLink RX1 3 objectInit ∈ wAll := in_at 192 (by decide +kernel) (by decide +kernel)
set_option maxRecDepth 100000 in
theorem ml_X2_3 : Cond.methodLink RX2 3 objectInit ∈ wAll := in_at 286 (by decide +kernel) (by decide +kernel)
set_option maxRecDepth 100000 in
theorem si_obj : Cond.instanceMethod objectInit ∈ wAll := in_at 25 (by decide +kernel) (by decide +kernel)
set_option maxRecDepth 100000 in
theorem co_obj : Cond.code objectInit ⟨#[0xb1]⟩ 1 none ∈ wAll := in_at 26 (by decide +kernel) (by decide +kernel)
set_option maxRecDepth 100000 in
theorem cl_L_10 : Cond.classLink RL 10 RX7 ∈ wAll := in_at 19 (by decide +kernel) (by decide +kernel)
set_option maxRecDepth 100000 in
theorem cl_X7_7 : Cond.classLink RX7 7 RX5 ∈ wAll := in_at 27 (by decide +kernel) (by decide +kernel)
set_option maxRecDepth 100000 in
theorem cl_X5_23 : Cond.classLink RX5 23 RX6 ∈ wAll := in_at 42 (by decide +kernel) (by decide +kernel)
set_option maxRecDepth 100000 in
theorem cl_X5_30 : Cond.classLink RX5 30 RX4 ∈ wAll := in_at 71 (by decide +kernel) (by decide +kernel)
set_option maxRecDepth 100000 in
theorem cl_X5_37 : Cond.classLink RX5 37 RX3 ∈ wAll := in_at 121 (by decide +kernel) (by decide +kernel)
set_option maxRecDepth 100000 in
theorem cl_X5_44 : Cond.classLink RX5 44 RX0 ∈ wAll := in_at 180 (by decide +kernel) (by decide +kernel)
set_option maxRecDepth 100000 in
theorem cl_X0_9 : Cond.classLink RX0 9 RX1 ∈ wAll := in_at 186 (by decide +kernel) (by decide +kernel)
set_option maxRecDepth 100000 in
theorem cl_X7_20 : Cond.classLink RX7 20 RX2 ∈ wAll := in_at 281 (by decide +kernel) (by decide +kernel)
set_option maxRecDepth 100000 in
theorem cn_X7 : Cond.instantiable RX7 6 ∈ wAll := in_at 20 (by decide +kernel) (by decide +kernel)
set_option maxRecDepth 100000 in
theorem cz_X7 : Cond.initialized RX7 ∈ wAll := in_at 4 (by decide +kernel) (by decide +kernel)
set_option maxRecDepth 100000 in
theorem cn_X5 : Cond.instantiable RX5 7 ∈ wAll := in_at 28 (by decide +kernel) (by decide +kernel)
set_option maxRecDepth 100000 in
theorem cz_X5 : Cond.initialized RX5 ∈ wAll := in_at 5 (by decide +kernel) (by decide +kernel)
set_option maxRecDepth 100000 in
theorem cn_X6 : Cond.instantiable RX6 5 ∈ wAll := in_at 44 (by decide +kernel) (by decide +kernel)
set_option maxRecDepth 100000 in
theorem cz_X6 : Cond.initialized RX6 ∈ wAll := in_at 6 (by decide +kernel) (by decide +kernel)
set_option maxRecDepth 100000 in
theorem cn_X4 : Cond.instantiable RX4 10 ∈ wAll := in_at 72 (by decide +kernel) (by decide +kernel)
set_option maxRecDepth 100000 in
theorem cz_X4 : Cond.initialized RX4 ∈ wAll := in_at 7 (by decide +kernel) (by decide +kernel)
set_option maxRecDepth 100000 in
theorem cn_X3 : Cond.instantiable RX3 14 ∈ wAll := in_at 123 (by decide +kernel) (by decide +kernel)
set_option maxRecDepth 100000 in
theorem cz_X3 : Cond.initialized RX3 ∈ wAll := in_at 8 (by decide +kernel) (by decide +kernel)
set_option maxRecDepth 100000 in
theorem cn_X0 : Cond.instantiable RX0 7 ∈ wAll := in_at 181 (by decide +kernel) (by decide +kernel)
set_option maxRecDepth 100000 in
theorem cz_X0 : Cond.initialized RX0 ∈ wAll := in_at 9 (by decide +kernel) (by decide +kernel)
set_option maxRecDepth 100000 in
theorem cn_X1 : Cond.instantiable RX1 6 ∈ wAll := in_at 188 (by decide +kernel) (by decide +kernel)
set_option maxRecDepth 100000 in
theorem cz_X1 : Cond.initialized RX1 ∈ wAll := in_at 10 (by decide +kernel) (by decide +kernel)
set_option maxRecDepth 100000 in
theorem cn_X2 : Cond.instantiable RX2 2 ∈ wAll := in_at 282 (by decide +kernel) (by decide +kernel)
set_option maxRecDepth 100000 in
theorem cz_X2 : Cond.initialized RX2 ∈ wAll := in_at 11 (by decide +kernel) (by decide +kernel)
set_option maxRecDepth 100000 in
theorem ka_int : Cond.arrayClass (aTy 0) ∈ wAll := in_at 70 (by decide +kernel) (by decide +kernel)
