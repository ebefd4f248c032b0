set_option maxRecDepth 100000 in
theorem fl_X6_9 : FL RX6 9 6 0 := ⟨(RX6, TX6, 5), rfl, by decide, in_at 123 (by decide +kernel) (by decide +kernel)⟩
set_option maxRecDepth 100000 in
theorem fl_X5_108 : FL RX5 108 6 0 := ⟨(RX6, TX6, 5), rfl, by decide, in_at 124 (by decide +kernel) (by decide +kernel)⟩
set_option maxRecDepth 100000 in
theorem fl_X6_15 : FL RX6 15 6 1 := ⟨(RX6, TX6, 5), rfl, by decide, in_at 125 (by decide +kernel) (by decide +kernel)⟩
set_option maxRecDepth 100000 in
theorem fl_X5_111 : FL RX5 111 6 1 := ⟨(RX6, TX6, 5), rfl, by decide, in_at 126 (by decide +kernel) (by decide +kernel)⟩
set_option maxRecDepth 100000 in
theorem fl_X6_18 : FL RX6 18 6 2 := ⟨(RX6, TX6, 5), rfl, by decide, in_at 127 (by decide +kernel) (by decide +kernel)⟩
set_option maxRecDepth 100000 in
theorem fl_X5_114 : FL RX5 114 6 2 := ⟨(RX6, TX6, 5), rfl, by decide, in_at 128 (by decide +kernel) (by decide +kernel)⟩
set_option maxRecDepth 100000 in
theorem fl_X6_21 : FL RX6 21 6 3 := ⟨(RX6, TX6, 5), rfl, by decide, in_at 129 (by decide +kernel) (by decide +kernel)⟩
set_option maxRecDepth 100000 in
theorem fl_X5_77 : FL RX5 77 6 3 := ⟨(RX6, TX6, 5), rfl, by decide, in_at 130 (by decide +kernel) (by decide +kernel)⟩
set_option maxRecDepth 100000 in
theorem fl_X6_25 : FL RX6 25 6 4 := ⟨(RX6, TX6, 5), rfl, by decide, in_at 131 (by decide +kernel) (by decide +kernel)⟩
set_option maxRecDepth 100000 in
theorem fl_X5_89 : FL RX5 89 6 4 := ⟨(RX6, TX6, 5), rfl, by decide, in_at 132 (by decide +kernel) (by decide +kernel)⟩
set_option maxRecDepth 100000 in
theorem fl_X4_9 : FL RX4 9 4 0 := ⟨(RX4, TX4, 10), rfl, by decide, in_at 151 (by decide +kernel) (by decide +kernel)⟩
set_option maxRecDepth 100000 in
theorem fl_X5_177 : FL RX5 177 4 0 := ⟨(RX4, TX4, 10), rfl, by decide, in_at 152 (by decide +kernel) (by decide +kernel)⟩
set_option maxRecDepth 100000 in
theorem fl_X4_15 : FL RX4 15 4 1 := ⟨(RX4, TX4, 10), rfl, by decide, in_at 153 (by decide +kernel) (by decide +kernel)⟩
set_option maxRecDepth 100000 in
theorem fl_X5_246 : FL RX5 246 4 1 := ⟨(RX4, TX4, 10), rfl, by decide, in_at 154 (by decide +kernel) (by decide +kernel)⟩
set_option maxRecDepth 100000 in
theorem fl_X4_18 : FL RX4 18 4 2 := ⟨(RX4, TX4, 10), rfl, by decide, in_at 155 (by decide +kernel) (by decide +kernel)⟩
set_option maxRecDepth 100000 in
theorem fl_X5_224 : FL RX5 224 4 2 := ⟨(RX4, TX4, 10), rfl, by decide, in_at 156 (by decide +kernel) (by decide +kernel)⟩
set_option maxRecDepth 100000 in
theorem fl_X4_21 : FL RX4 21 4 3 := ⟨(RX4, TX4, 10), rfl, by decide, in_at 157 (by decide +kernel) (by decide +kernel)⟩
set_option maxRecDepth 100000 in
theorem fl_X5_193 : FL RX5 193 4 3 := ⟨(RX4, TX4, 10), rfl, by decide, in_at 158 (by decide +kernel) (by decide +kernel)⟩
set_option maxRecDepth 100000 in
theorem fl_X4_24 : FL RX4 24 4 4 := ⟨(RX4, TX4, 10), rfl, by decide, in_at 159 (by decide +kernel) (by decide +kernel)⟩
set_option maxRecDepth 100000 in
theorem fl_X5_187 : FL RX5 187 4 4 := ⟨(RX4, TX4, 10), rfl, by decide, in_at 160 (by decide +kernel) (by decide +kernel)⟩
set_option maxRecDepth 100000 in
theorem fl_X4_27 : FL RX4 27 4 5 := ⟨(RX4, TX4, 10), rfl, by decide, in_at 161 (by decide +kernel) (by decide +kernel)⟩
set_option maxRecDepth 100000 in
theorem fl_X5_215 : FL RX5 215 4 5 := ⟨(RX4, TX4, 10), rfl, by decide, in_at 162 (by decide +kernel) (by decide +kernel)⟩
set_option maxRecDepth 100000 in
theorem fl_X4_30 : FL RX4 30 4 6 := ⟨(RX4, TX4, 10), rfl, by decide, in_at 163 (by decide +kernel) (by decide +kernel)⟩
set_option maxRecDepth 100000 in
theorem fl_X5_206 : FL RX5 206 4 6 := ⟨(RX4, TX4, 10), rfl, by decide, in_at 164 (by decide +kernel) (by decide +kernel)⟩
set_option maxRecDepth 100000 in
theorem fl_X7_198 : FL RX7 198 4 6 := ⟨(RX4, TX4, 10), rfl, by decide, in_at 165 (by decide +kernel) (by decide +kernel)⟩
set_option maxRecDepth 100000 in
theorem fl_X4_33 : FL RX4 33 4 7 := ⟨(RX4, TX4, 10), rfl, by decide, in_at 166 (by decide +kernel) (by decide +kernel)⟩
set_option maxRecDepth 100000 in
theorem fl_X5_95 : FL RX5 95 4 7 := ⟨(RX4, TX4, 10), rfl, by decide, in_at 167 (by decide +kernel) (by decide +kernel)⟩
set_option maxRecDepth 100000 in
theorem fl_X7_150 : FL RX7 150 4 7 := ⟨(RX4, TX4, 10), rfl, by decide, in_at 168 (by decide +kernel) (by decide +kernel)⟩
set_option maxRecDepth 100000 in
theorem fl_X4_37 : FL RX4 37 4 8 := ⟨(RX4, TX4, 10), rfl, by decide, in_at 169 (by decide +kernel) (by decide +kernel)⟩
set_option maxRecDepth 100000 in
theorem fl_X7_94 : FL RX7 94 4 8 := ⟨(RX4, TX4, 10), rfl, by decide, in_at 170 (by decide +kernel) (by decide +kernel)⟩
set_option maxRecDepth 100000 in
theorem fl_X5_92 : FL RX5 92 4 8 := ⟨(RX4, TX4, 10), rfl, by decide, in_at 171 (by decide +kernel) (by decide +kernel)⟩
set_option maxRecDepth 100000 in
theorem fl_X4_40 : FL RX4 40 4 9 := ⟨(RX4, TX4, 10), rfl, by decide, in_at 172 (by decide +kernel) (by decide +kernel)⟩
set_option maxRecDepth 100000 in
theorem fl_X5_237 : FL RX5 237 4 9 := ⟨(RX4, TX4, 10), rfl, by decide, in_at 173 (by decide +kernel) (by decide +kernel)⟩
set_option maxRecDepth 100000 in
theorem fl_X3_9 : FL RX3 9 3 0 := ⟨(RX3, TX3, 14), rfl, by decide, in_at 202 (by decide +kernel) (by decide +kernel)⟩
set_option maxRecDepth 100000 in
theorem fl_X7_309 : FL RX7 309 3 0 := ⟨(RX3, TX3, 14), rfl, by decide, in_at 203 (by decide +kernel) (by decide +kernel)⟩
set_option maxRecDepth 100000 in
theorem fl_X3_15 : FL RX3 15 3 1 := ⟨(RX3, TX3, 14), rfl, by decide, in_at 204 (by decide +kernel) (by decide +kernel)⟩
set_option maxRecDepth 100000 in
theorem fl_X7_306 : FL RX7 306 3 1 := ⟨(RX3, TX3, 14), rfl, by decide, in_at 205 (by decide +kernel) (by decide +kernel)⟩
set_option maxRecDepth 100000 in
theorem fl_X3_19 : FL RX3 19 3 2 := ⟨(RX3, TX3, 14), rfl, by decide, in_at 206 (by decide +kernel) (by decide +kernel)⟩
set_option maxRecDepth 100000 in
theorem fl_X7_111 : FL RX7 111 3 2 := ⟨(RX3, TX3, 14), rfl, by decide, in_at 207 (by decide +kernel) (by decide +kernel)⟩
set_option maxRecDepth 100000 in
theorem fl_X3_22 : FL RX3 22 3 3 := ⟨(RX3, TX3, 14), rfl, by decide, in_at 208 (by decide +kernel) (by decide +kernel)⟩
set_option maxRecDepth 100000 in
theorem fl_X5_263 : FL RX5 263 3 3 := ⟨(RX3, TX3, 14), rfl, by decide, in_at 209 (by decide +kernel) (by decide +kernel)⟩
set_option maxRecDepth 100000 in
theorem fl_X3_25 : FL RX3 25 3 4 := ⟨(RX3, TX3, 14), rfl, by decide, in_at 210 (by decide +kernel) (by decide +kernel)⟩
set_option maxRecDepth 100000 in
theorem fl_X3_28 : FL RX3 28 3 5 := ⟨(RX3, TX3, 14), rfl, by decide, in_at 211 (by decide +kernel) (by decide +kernel)⟩
set_option maxRecDepth 100000 in
theorem fl_X3_31 : FL RX3 31 3 6 := ⟨(RX3, TX3, 14), rfl, by decide, in_at 212 (by decide +kernel) (by decide +kernel)⟩
set_option maxRecDepth 100000 in
theorem fl_X5_184 : FL RX5 184 3 6 := ⟨(RX3, TX3, 14), rfl, by decide, in_at 213 (by decide +kernel) (by decide +kernel)⟩
set_option maxRecDepth 100000 in
theorem fl_X3_34 : FL RX3 34 3 7 := ⟨(RX3, TX3, 14), rfl, by decide, in_at 214 (by decide +kernel) (by decide +kernel)⟩
set_option maxRecDepth 100000 in
theorem fl_X5_190 : FL RX5 190 3 7 := ⟨(RX3, TX3, 14), rfl, by decide, in_at 215 (by decide +kernel) (by decide +kernel)⟩
set_option maxRecDepth 100000 in
theorem fl_X3_37 : FL RX3 37 3 8 := ⟨(RX3, TX3, 14), rfl, by decide, in_at 216 (by decide +kernel) (by decide +kernel)⟩
set_option maxRecDepth 100000 in
theorem fl_X3_40 : FL RX3 40 3 9 := ⟨(RX3, TX3, 14), rfl, by decide, in_at 217 (by decide +kernel) (by decide +kernel)⟩
set_option maxRecDepth 100000 in
theorem fl_X5_240 : FL RX5 240 3 9 := ⟨(RX3, TX3, 14), rfl, by decide, in_at 218 (by decide +kernel) (by decide +kernel)⟩
set_option maxRecDepth 100000 in
theorem fl_X3_43 : FL RX3 43 3 10 := ⟨(RX3, TX3, 14), rfl, by decide, in_at 219 (by decide +kernel) (by decide +kernel)⟩
set_option maxRecDepth 100000 in
theorem fl_X5_228 : FL RX5 228 3 10 := ⟨(RX3, TX3, 14), rfl, by decide, in_at 220 (by decide +kernel) (by decide +kernel)⟩
set_option maxRecDepth 100000 in
theorem fl_X3_46 : FL RX3 46 3 11 := ⟨(RX3, TX3, 14), rfl, by decide, in_at 221 (by decide +kernel) (by decide +kernel)⟩
set_option maxRecDepth 100000 in
theorem fl_X5_197 : FL RX5 197 3 11 := ⟨(RX3, TX3, 14), rfl, by decide, in_at 222 (by decide +kernel) (by decide +kernel)⟩
set_option maxRecDepth 100000 in
theorem fl_X3_50 : FL RX3 50 3 12 := ⟨(RX3, TX3, 14), rfl, by decide, in_at 223 (by decide +kernel) (by decide +kernel)⟩
set_option maxRecDepth 100000 in
theorem fl_X5_200 : FL RX5 200 3 12 := ⟨(RX3, TX3, 14), rfl, by decide, in_at 224 (by decide +kernel) (by decide +kernel)⟩
set_option maxRecDepth 100000 in
theorem fl_X3_53 : FL RX3 53 3 13 := ⟨(RX3, TX3, 14), rfl, by decide, in_at 225 (by decide +kernel) (by decide +kernel)⟩
set_option maxRecDepth 100000 in
theorem fl_X5_218 : FL RX5 218 3 13 := ⟨(RX3, TX3, 14), rfl, by decide, in_at 226 (by decide +kernel) (by decide +kernel)⟩
set_option maxRecDepth 100000 in
theorem fl_X1_9 : FL RX1 9 1 0 := ⟨(RX1, TX1, 6), rfl, by decide, in_at 269 (by decide +kernel) (by decide +kernel)⟩
set_option maxRecDepth 100000 in
theorem fl_X5_148 : FL RX5 148 1 0 := ⟨(RX1, TX1, 6), rfl, by decide, in_at 270 (by decide +kernel) (by decide +kernel)⟩
set_option maxRecDepth 100000 in
theorem fl_X1_15 : FL RX1 15 1 1 := ⟨(RX1, TX1, 6), rfl, by decide, in_at 271 (by decide +kernel) (by decide +kernel)⟩
set_option maxRecDepth 100000 in
theorem fl_X0_44 : FL RX0 44 1 1 := ⟨(RX1, TX1, 6), rfl, by decide, in_at 272 (by decide +kernel) (by decide +kernel)⟩
set_option maxRecDepth 100000 in
theorem fl_X5_154 : FL RX5 154 1 1 := ⟨(RX1, TX1, 6), rfl, by decide, in_at 273 (by decide +kernel) (by decide +kernel)⟩
set_option maxRecDepth 100000 in
theorem fl_X1_19 : FL RX1 19 1 2 := ⟨(RX1, TX1, 6), rfl, by decide, in_at 274 (by decide +kernel) (by decide +kernel)⟩
set_option maxRecDepth 100000 in
theorem fl_X0_51 : FL RX0 51 1 2 := ⟨(RX1, TX1, 6), rfl, by decide, in_at 275 (by decide +kernel) (by decide +kernel)⟩
set_option maxRecDepth 100000 in
theorem fl_X5_139 : FL RX5 139 1 2 := ⟨(RX1, TX1, 6), rfl, by decide, in_at 276 (by decide +kernel) (by decide +kernel)⟩
set_option maxRecDepth 100000 in
theorem fl_X1_23 : FL RX1 23 1 3 := ⟨(RX1, TX1, 6), rfl, by decide, in_at 277 (by decide +kernel) (by decide +kernel)⟩
set_option maxRecDepth 100000 in
theorem fl_X0_41 : FL RX0 41 1 3 := ⟨(RX1, TX1, 6), rfl, by decide, in_at 278 (by decide +kernel) (by decide +kernel)⟩
set_option maxRecDepth 100000 in
theorem fl_X1_26 : FL RX1 26 1 4 := ⟨(RX1, TX1, 6), rfl, by decide, in_at 279 (by decide +kernel) (by decide +kernel)⟩
set_option maxRecDepth 100000 in
theorem fl_X0_48 : FL RX0 48 1 4 := ⟨(RX1, TX1, 6), rfl, by decide, in_at 280 (by decide +kernel) (by decide +kernel)⟩
set_option maxRecDepth 100000 in
theorem fl_X5_147 : FL RX5 147 1 4 := ⟨(RX1, TX1, 6), rfl, by decide, in_at 281 (by decide +kernel) (by decide +kernel)⟩
set_option maxRecDepth 100000 in
theorem fl_X1_29 : FL RX1 29 1 5 := ⟨(RX1, TX1, 6), rfl, by decide, in_at 282 (by decide +kernel) (by decide +kernel)⟩
set_option maxRecDepth 100000 in
theorem fl_X5_144 : FL RX5 144 1 5 := ⟨(RX1, TX1, 6), rfl, by decide, in_at 283 (by decide +kernel) (by decide +kernel)⟩
set_option maxRecDepth 100000 in
theorem fl_X0_11 : FL RX0 11 0 0 := ⟨(RX0, TX0, 7), rfl, by decide, in_at 297 (by decide +kernel) (by decide +kernel)⟩
set_option maxRecDepth 100000 in
theorem fl_X5_135 : FL RX5 135 0 0 := ⟨(RX0, TX0, 7), rfl, by decide, in_at 298 (by decide +kernel) (by decide +kernel)⟩
set_option maxRecDepth 100000 in
theorem fl_X7_219 : FL RX7 219 0 0 := ⟨(RX0, TX0, 7), rfl, by decide, in_at 299 (by decide +kernel) (by decide +kernel)⟩
set_option maxRecDepth 100000 in
theorem fl_X0_18 : FL RX0 18 0 1 := ⟨(RX0, TX0, 7), rfl, by decide, in_at 300 (by decide +kernel) (by decide +kernel)⟩
set_option maxRecDepth 100000 in
theorem fl_X7_127 : FL RX7 127 0 1 := ⟨(RX0, TX0, 7), rfl, by decide, in_at 301 (by decide +kernel) (by decide +kernel)⟩
set_option maxRecDepth 100000 in
theorem fl_X5_243 : FL RX5 243 0 1 := ⟨(RX0, TX0, 7), rfl, by decide, in_at 302 (by decide +kernel) (by decide +kernel)⟩
set_option maxRecDepth 100000 in
theorem fl_X0_22 : FL RX0 22 0 2 := ⟨(RX0, TX0, 7), rfl, by decide, in_at 303 (by decide +kernel) (by decide +kernel)⟩
set_option maxRecDepth 100000 in
theorem fl_X7_254 : FL RX7 254 0 2 := ⟨(RX0, TX0, 7), rfl, by decide, in_at 304 (by decide +kernel) (by decide +kernel)⟩
set_option maxRecDepth 100000 in
theorem fl_X5_266 : FL RX5 266 0 2 := ⟨(RX0, TX0, 7), rfl, by decide, in_at 305 (by decide +kernel) (by decide +kernel)⟩
set_option maxRecDepth 100000 in
theorem fl_X0_25 : FL RX0 25 0 3 := ⟨(RX0, TX0, 7), rfl, by decide, in_at 306 (by decide +kernel) (by decide +kernel)⟩
set_option maxRecDepth 100000 in
theorem fl_X7_137 : FL RX7 137 0 3 := ⟨(RX0, TX0, 7), rfl, by decide, in_at 307 (by decide +kernel) (by decide +kernel)⟩
set_option maxRecDepth 100000 in
theorem fl_X5_269 : FL RX5 269 0 3 := ⟨(RX0, TX0, 7), rfl, by decide, in_at 308 (by decide +kernel) (by decide +kernel)⟩
set_option maxRecDepth 100000 in
theorem fl_X0_28 : FL RX0 28 0 4 := ⟨(RX0, TX0, 7), rfl, by decide, in_at 309 (by decide +kernel) (by decide +kernel)⟩
set_option maxRecDepth 100000 in
theorem fl_X5_272 : FL RX5 272 0 4 := ⟨(RX0, TX0, 7), rfl, by decide, in_at 310 (by decide +kernel) (by decide +kernel)⟩
set_option maxRecDepth 100000 in
theorem fl_X7_257 : FL RX7 257 0 4 := ⟨(RX0, TX0, 7), rfl, by decide, in_at 311 (by decide +kernel) (by decide +kernel)⟩
set_option maxRecDepth 100000 in
theorem fl_X0_31 : FL RX0 31 0 5 := ⟨(RX0, TX0, 7), rfl, by decide, in_at 312 (by decide +kernel) (by decide +kernel)⟩
set_option maxRecDepth 100000 in
theorem fl_X7_260 : FL RX7 260 0 5 := ⟨(RX0, TX0, 7), rfl, by decide, in_at 313 (by decide +kernel) (by decide +kernel)⟩
set_option maxRecDepth 100000 in
theorem fl_X0_34 : FL RX0 34 0 6 := ⟨(RX0, TX0, 7), rfl, by decide, in_at 314 (by decide +kernel) (by decide +kernel)⟩
set_option maxRecDepth 100000 in
theorem fl_X5_160 : FL RX5 160 0 6 := ⟨(RX0, TX0, 7), rfl, by decide, in_at 315 (by decide +kernel) (by decide +kernel)⟩
set_option maxRecDepth 100000 in
theorem fl_X5_18 : FL RX5 18 5 0 := ⟨(RX5, TX5, 7), rfl, by decide, in_at 331 (by decide +kernel) (by decide +kernel)⟩
set_option maxRecDepth 100000 in
theorem fl_X7_155 : FL RX7 155 5 0 := ⟨(RX5, TX5, 7), rfl, by decide, in_at 332 (by decide +kernel) (by decide +kernel)⟩
set_option maxRecDepth 100000 in
theorem fl_X5_25 : FL RX5 25 5 1 := ⟨(RX5, TX5, 7), rfl, by decide, in_at 333 (by decide +kernel) (by decide +kernel)⟩
set_option maxRecDepth 100000 in
theorem fl_X7_207 : FL RX7 207 5 1 := ⟨(RX5, TX5, 7), rfl, by decide, in_at 334 (by decide +kernel) (by decide +kernel)⟩
set_option maxRecDepth 100000 in
theorem fl_X5_33 : FL RX5 33 5 2 := ⟨(RX5, TX5, 7), rfl, by decide, in_at 335 (by decide +kernel) (by decide +kernel)⟩
set_option maxRecDepth 100000 in
theorem fl_X7_90 : FL RX7 90 5 2 := ⟨(RX5, TX5, 7), rfl, by decide, in_at 336 (by decide +kernel) (by decide +kernel)⟩
set_option maxRecDepth 100000 in
theorem fl_X5_39 : FL RX5 39 5 3 := ⟨(RX5, TX5, 7), rfl, by decide, in_at 337 (by decide +kernel) (by decide +kernel)⟩
set_option maxRecDepth 100000 in
theorem fl_X7_107 : FL RX7 107 5 3 := ⟨(RX5, TX5, 7), rfl, by decide, in_at 338 (by decide +kernel) (by decide +kernel)⟩
set_option maxRecDepth 100000 in
theorem fl_X5_47 : FL RX5 47 5 4 := ⟨(RX5, TX5, 7), rfl, by decide, in_at 339 (by decide +kernel) (by decide +kernel)⟩
set_option maxRecDepth 100000 in
theorem fl_X7_123 : FL RX7 123 5 4 := ⟨(RX5, TX5, 7), rfl, by decide, in_at 340 (by decide +kernel) (by decide +kernel)⟩
set_option maxRecDepth 100000 in
theorem fl_X5_51 : FL RX5 51 5 5 := ⟨(RX5, TX5, 7), rfl, by decide, in_at 341 (by decide +kernel) (by decide +kernel)⟩
set_option maxRecDepth 100000 in
theorem fl_X7_188 : FL RX7 188 5 5 := ⟨(RX5, TX5, 7), rfl, by decide, in_at 342 (by decide +kernel) (by decide +kernel)⟩
set_option maxRecDepth 100000 in
theorem fl_X5_55 : FL RX5 55 5 6 := ⟨(RX5, TX5, 7), rfl, by decide, in_at 343 (by decide +kernel) (by decide +kernel)⟩
set_option maxRecDepth 100000 in
theorem fl_X2_9 : FL RX2 9 2 0 := ⟨(RX2, TX2, 2), rfl, by decide, in_at 366 (by decide +kernel) (by decide +kernel)⟩
set_option maxRecDepth 100000 in
theorem fl_X7_166 : FL RX7 166 2 0 := ⟨(RX2, TX2, 2), rfl, by decide, in_at 367 (by decide +kernel) (by decide +kernel)⟩
set_option maxRecDepth 100000 in
theorem fl_X2_15 : FL RX2 15 2 1 := ⟨(RX2, TX2, 2), rfl, by decide, in_at 368 (by decide +kernel) (by decide +kernel)⟩
set_option maxRecDepth 100000 in
theorem fl_X7_161 : FL RX7 161 2 1 := ⟨(RX2, TX2, 2), rfl, by decide, in_at 369 (by decide +kernel) (by decide +kernel)⟩
set_option maxRecDepth 100000 in
theorem fl_X7_10 : FL RX7 10 7 0 := ⟨(RX7, TX7, 6), rfl, by decide, in_at 375 (by decide +kernel) (by decide +kernel)⟩
set_option maxRecDepth 100000 in
theorem fl_X7_16 : FL RX7 16 7 1 := ⟨(RX7, TX7, 6), rfl, by decide, in_at 376 (by decide +kernel) (by decide +kernel)⟩
set_option maxRecDepth 100000 in
theorem fl_X7_23 : FL RX7 23 7 2 := ⟨(RX7, TX7, 6), rfl, by decide, in_at 377 (by decide +kernel) (by decide +kernel)⟩
set_option maxRecDepth 100000 in
theorem fl_X7_27 : FL RX7 27 7 3 := ⟨(RX7, TX7, 6), rfl, by decide, in_at 378 (by decide +kernel) (by decide +kernel)⟩
set_option maxRecDepth 100000 in
theorem fl_X7_31 : FL RX7 31 7 4 := ⟨(RX7, TX7, 6), rfl, by decide, in_at 379 (by decide +kernel) (by decide +kernel)⟩
set_option maxRecDepth 100000 in
theorem fl_X7_34 : FL RX7 34 7 5 := ⟨(RX7, TX7, 6), rfl, by decide, in_at 380 (by decide +kernel) (by decide +kernel)⟩
set_option maxRecDepth 100000 in
theorem fs_X7_316 : Cond.fieldLink RX7 316 "OutboxRelay" "SETTING_LEAST" "[I" ∈ wAll := in_at 888 (by decide +kernel) (by decide +kernel)
set_option maxRecDepth 100000 in
theorem fs_X7_319 : Cond.fieldLink RX7 319 "OutboxRelay" "SETTING_MOST" "[I" ∈ wAll := in_at 890 (by decide +kernel) (by decide +kernel)
set_option maxRecDepth 100000 in
theorem fl_X8_7 : FL RX8 7 8 0 := ⟨(RX8, TX8, 12), rfl, by decide, in_at 1021 (by decide +kernel) (by decide +kernel)⟩
set_option maxRecDepth 100000 in
theorem fl_X8_13 : FL RX8 13 8 1 := ⟨(RX8, TX8, 12), rfl, by decide, in_at 1022 (by decide +kernel) (by decide +kernel)⟩
set_option maxRecDepth 100000 in
theorem fl_X8_16 : FL RX8 16 8 2 := ⟨(RX8, TX8, 12), rfl, by decide, in_at 1023 (by decide +kernel) (by decide +kernel)⟩
set_option maxRecDepth 100000 in
theorem fl_X8_19 : FL RX8 19 8 3 := ⟨(RX8, TX8, 12), rfl, by decide, in_at 1024 (by decide +kernel) (by decide +kernel)⟩
set_option maxRecDepth 100000 in
theorem fl_X8_70 : FL RX8 70 8 4 := ⟨(RX8, TX8, 12), rfl, by decide, in_at 1025 (by decide +kernel) (by decide +kernel)⟩
set_option maxRecDepth 100000 in
theorem fl_X8_76 : FL RX8 76 8 5 := ⟨(RX8, TX8, 12), rfl, by decide, in_at 1026 (by decide +kernel) (by decide +kernel)⟩
set_option maxRecDepth 100000 in
theorem fl_X8_22 : FL RX8 22 8 6 := ⟨(RX8, TX8, 12), rfl, by decide, in_at 1027 (by decide +kernel) (by decide +kernel)⟩
set_option maxRecDepth 100000 in
theorem fl_X8_176 : FL RX8 176 8 7 := ⟨(RX8, TX8, 12), rfl, by decide, in_at 1028 (by decide +kernel) (by decide +kernel)⟩
set_option maxRecDepth 100000 in
theorem fl_X8_179 : FL RX8 179 8 8 := ⟨(RX8, TX8, 12), rfl, by decide, in_at 1029 (by decide +kernel) (by decide +kernel)⟩
set_option maxRecDepth 100000 in
theorem fl_X8_25 : FL RX8 25 8 9 := ⟨(RX8, TX8, 12), rfl, by decide, in_at 1030 (by decide +kernel) (by decide +kernel)⟩
set_option maxRecDepth 100000 in
theorem fl_X8_28 : FL RX8 28 8 10 := ⟨(RX8, TX8, 12), rfl, by decide, in_at 1031 (by decide +kernel) (by decide +kernel)⟩
set_option maxRecDepth 100000 in
theorem fl_X8_35 : FL RX8 35 8 11 := ⟨(RX8, TX8, 12), rfl, by decide, in_at 1032 (by decide +kernel) (by decide +kernel)⟩
set_option maxRecDepth 100000 in
theorem ml_L_79 : Cond.methodLink RL 79 yX7_init ∈ wAll := in_at 95 (by decide +kernel) (by decide +kernel)
set_option maxRecDepth 100000 in
theorem ml_X7_9 : Cond.methodLink RX7 9 yX5_init ∈ wAll := in_at 103 (by decide +kernel) (by decide +kernel)
set_option maxRecDepth 100000 in
theorem ml_X5_29 : Cond.methodLink RX5 29 yX6_init ∈ wAll := in_at 119 (by decide +kernel) (by decide +kernel)
set_option maxRecDepth 100000 in
theorem ml_X5_32 : Cond.methodLink RX5 32 yX4_init ∈ wAll := in_at 147 (by decide +kernel) (by decide +kernel)
set_option maxRecDepth 100000 in
theorem ml_X5_43 : Cond.methodLink RX5 43 yX3_init ∈ wAll := in_at 198 (by decide +kernel) (by decide +kernel)
set_option maxRecDepth 100000 in
theorem ml_X5_46 : Cond.methodLink RX5 46 yX0_init ∈ wAll := in_at 258 (by decide +kernel) (by decide +kernel)
set_option maxRecDepth 100000 in
theorem ml_X0_17 : Cond.methodLink RX0 17 yX1_init ∈ wAll := in_at 265 (by decide +kernel) (by decide +kernel)
set_option maxRecDepth 100000 in
theorem ml_X7_22 : Cond.methodLink RX7 22 yX2_init ∈ wAll := in_at 362 (by decide +kernel) (by decide +kernel)
set_option maxRecDepth 100000 in
theorem ml_L_113 : Cond.methodLink RL 113 yX7_sweep ∈ wAll := in_at 394 (by decide +kernel) (by decide +kernel)
set_option maxRecDepth 100000 in
theorem ml_X7_48 : Cond.methodLink RX7 48 yX7_save ∈ wAll := in_at 398 (by decide +kernel) (by decide +kernel)
set_option maxRecDepth 100000 in
theorem ml_X7_184 : Cond.methodLink RX7 184 yX5_copyFrom ∈ wAll := in_at 402 (by decide +kernel) (by decide +kernel)
set_option maxRecDepth 100000 in
theorem ml_X5_64 : Cond.methodLink RX5 64 yX6_copyFrom ∈ wAll := in_at 409 (by decide +kernel) (by decide +kernel)
set_option maxRecDepth 100000 in
theorem ml_X5_68 : Cond.methodLink RX5 68 yX4_copyFrom ∈ wAll := in_at 414 (by decide +kernel) (by decide +kernel)
set_option maxRecDepth 100000 in
theorem ml_X5_71 : Cond.methodLink RX5 71 yX3_copyFrom ∈ wAll := in_at 419 (by decide +kernel) (by decide +kernel)
set_option maxRecDepth 100000 in
theorem ml_X5_74 : Cond.methodLink RX5 74 yX0_copyFrom ∈ wAll := in_at 424 (by decide +kernel) (by decide +kernel)
set_option maxRecDepth 100000 in
theorem ml_X0_37 : Cond.methodLink RX0 37 yX1_copyFrom ∈ wAll := in_at 428 (by decide +kernel) (by decide +kernel)
set_option maxRecDepth 100000 in
theorem ml_X7_140 : Cond.methodLink RX7 140 yX5_sweepRows ∈ wAll := in_at 433 (by decide +kernel) (by decide +kernel)
set_option maxRecDepth 100000 in
theorem ml_X5_231 : Cond.methodLink RX5 231 yX5_answeredBy ∈ wAll := in_at 437 (by decide +kernel) (by decide +kernel)
set_option maxRecDepth 100000 in
theorem ml_X5_209 : Cond.methodLink RX5 209 yX5_isFor ∈ wAll := in_at 441 (by decide +kernel) (by decide +kernel)
set_option maxRecDepth 100000 in
theorem ml_X5_225 : Cond.methodLink RX5 225 yX3_wants ∈ wAll := in_at 445 (by decide +kernel) (by decide +kernel)
set_option maxRecDepth 100000 in
theorem ml_X5_234 : Cond.methodLink RX5 234 yX5_loseUnseen ∈ wAll := in_at 449 (by decide +kernel) (by decide +kernel)
set_option maxRecDepth 100000 in
theorem ml_L_123 : Cond.methodLink RL 123 yX7_clearBuffer ∈ wAll := in_at 453 (by decide +kernel) (by decide +kernel)
set_option maxRecDepth 100000 in
theorem ml_L_127 : Cond.methodLink RL 127 yX7_firstError ∈ wAll := in_at 457 (by decide +kernel) (by decide +kernel)
set_option maxRecDepth 100000 in
theorem ml_X7_169 : Cond.methodLink RX7 169 yX2_errorIndex ∈ wAll := in_at 461 (by decide +kernel) (by decide +kernel)
set_option maxRecDepth 100000 in
theorem ml_X2_19 : Cond.methodLink RX2 19 yX2_after ∈ wAll := in_at 465 (by decide +kernel) (by decide +kernel)
set_option maxRecDepth 100000 in
theorem ml_X2_38 : Cond.methodLink RX2 38 yX2_afterPartSign ∈ wAll := in_at 468 (by decide +kernel) (by decide +kernel)
set_option maxRecDepth 100000 in
theorem ml_X2_31 : Cond.methodLink RX2 31 yX2_isBetween ∈ wAll := in_at 471 (by decide +kernel) (by decide +kernel)
set_option maxRecDepth 100000 in
theorem ml_X2_41 : Cond.methodLink RX2 41 yX2_afterFirstDigit ∈ wAll := in_at 474 (by decide +kernel) (by decide +kernel)
set_option maxRecDepth 100000 in
theorem ml_X2_44 : Cond.methodLink RX2 44 yX2_afterEnd ∈ wAll := in_at 477 (by decide +kernel) (by decide +kernel)
set_option maxRecDepth 100000 in
theorem ml_L_134 : Cond.methodLink RL 134 yX7_keep ∈ wAll := in_at 480 (by decide +kernel) (by decide +kernel)
set_option maxRecDepth 100000 in
theorem ml_L_162 : Cond.methodLink RL 162 yX7_drainIn ∈ wAll := in_at 484 (by decide +kernel) (by decide +kernel)
set_option maxRecDepth 100000 in
theorem ml_X7_230 : Cond.methodLink RX7 230 yX7_freshTrial ∈ wAll := in_at 488 (by decide +kernel) (by decide +kernel)
set_option maxRecDepth 100000 in
theorem ml_X7_234 : Cond.methodLink RX7 234 yX5_isDrained ∈ wAll := in_at 492 (by decide +kernel) (by decide +kernel)
set_option maxRecDepth 100000 in
theorem ml_X7_237 : Cond.methodLink RX7 237 yX5_passTick ∈ wAll := in_at 496 (by decide +kernel) (by decide +kernel)
set_option maxRecDepth 100000 in
theorem ml_X5_124 : Cond.methodLink RX5 124 yX0_dueAt ∈ wAll := in_at 500 (by decide +kernel) (by decide +kernel)
set_option maxRecDepth 100000 in
theorem ml_X5_128 : Cond.methodLink RX5 128 yX5_firstComes ∈ wAll := in_at 504 (by decide +kernel) (by decide +kernel)
set_option maxRecDepth 100000 in
theorem ml_X5_150 : Cond.methodLink RX5 150 yX5_rowComes ∈ wAll := in_at 508 (by decide +kernel) (by decide +kernel)
set_option maxRecDepth 100000 in
theorem ml_X5_180 : Cond.methodLink RX5 180 yX3_isRepeat ∈ wAll := in_at 512 (by decide +kernel) (by decide +kernel)
set_option maxRecDepth 100000 in
theorem ml_X5_194 : Cond.methodLink RX5 194 yX3_takeEffect ∈ wAll := in_at 516 (by decide +kernel) (by decide +kernel)
set_option maxRecDepth 100000 in
theorem ml_X5_157 : Cond.methodLink RX5 157 yX0_removeFirst ∈ wAll := in_at 520 (by decide +kernel) (by decide +kernel)
set_option maxRecDepth 100000 in
theorem ml_X5_163 : Cond.methodLink RX5 163 yX3_answerComes ∈ wAll := in_at 524 (by decide +kernel) (by decide +kernel)
set_option maxRecDepth 100000 in
theorem ml_X5_166 : Cond.methodLink RX5 166 yX0_draft ∈ wAll := in_at 528 (by decide +kernel) (by decide +kernel)
set_option maxRecDepth 100000 in
theorem ml_X5_170 : Cond.methodLink RX5 170 yX1_becomeAnswer ∈ wAll := in_at 532 (by decide +kernel) (by decide +kernel)
set_option maxRecDepth 100000 in
theorem ml_X5_174 : Cond.methodLink RX5 174 yX5_post ∈ wAll := in_at 536 (by decide +kernel) (by decide +kernel)
set_option maxRecDepth 100000 in
theorem ml_X5_221 : Cond.methodLink RX5 221 yX0_postDraft ∈ wAll := in_at 540 (by decide +kernel) (by decide +kernel)
set_option maxRecDepth 100000 in
theorem ml_X5_131 : Cond.methodLink RX5 131 yX5_sendBatch ∈ wAll := in_at 544 (by decide +kernel) (by decide +kernel)
set_option maxRecDepth 100000 in
theorem ml_X5_203 : Cond.methodLink RX5 203 yX1_becomeBatch ∈ wAll := in_at 548 (by decide +kernel) (by decide +kernel)
set_option maxRecDepth 100000 in
theorem ml_X5_213 : Cond.methodLink RX5 213 yX1_addRow ∈ wAll := in_at 552 (by decide +kernel) (by decide +kernel)
set_option maxRecDepth 100000 in
theorem ml_L_172 : Cond.methodLink RL 172 yX7_slowest ∈ wAll := in_at 556 (by decide +kernel) (by decide +kernel)
set_option maxRecDepth 100000 in
theorem ml_X7_251 : Cond.methodLink RX7 251 yX5_rowsFor ∈ wAll := in_at 560 (by decide +kernel) (by decide +kernel)
set_option maxRecDepth 100000 in
theorem ml_L_176 : Cond.methodLink RL 176 yX7_goodShare ∈ wAll := in_at 564 (by decide +kernel) (by decide +kernel)
set_option maxRecDepth 100000 in
theorem ml_L_181 : Cond.methodLink RL 181 yX7_meanBatch ∈ wAll := in_at 568 (by decide +kernel) (by decide +kernel)
set_option maxRecDepth 100000 in
theorem ml_L_186 : Cond.methodLink RL 186 yX7_digest ∈ wAll := in_at 572 (by decide +kernel) (by decide +kernel)
set_option maxRecDepth 100000 in
theorem ml_X7_265 : Cond.methodLink RX7 265 yX7_count ∈ wAll := in_at 577 (by decide +kernel) (by decide +kernel)
set_option maxRecDepth 100000 in
theorem ml_X7_63 : Cond.methodLink RX7 63 yX7_isBelow ∈ wAll := in_at 581 (by decide +kernel) (by decide +kernel)
set_option maxRecDepth 100000 in
theorem ml_X7_227 : Cond.methodLink RX7 227 yX5_counted ∈ wAll := in_at 652 (by decide +kernel) (by decide +kernel)
set_option maxRecDepth 100000 in
theorem ml_X5_275 : Cond.methodLink RX5 275 yX5_openTransactions ∈ wAll := in_at 656 (by decide +kernel) (by decide +kernel)
set_option maxRecDepth 100000 in
theorem ml_X7_268 : Cond.methodLink RX7 268 yX7_mixed ∈ wAll := in_at 660 (by decide +kernel) (by decide +kernel)
set_option maxRecDepth 100000 in
theorem ml_X7_272 : Cond.methodLink RX7 272 yX7_withRows ∈ wAll := in_at 664 (by decide +kernel) (by decide +kernel)
set_option maxRecDepth 100000 in
theorem ml_X7_201 : Cond.methodLink RX7 201 yX5_rowNumber ∈ wAll := in_at 668 (by decide +kernel) (by decide +kernel)
set_option maxRecDepth 100000 in
theorem ml_X5_247 : Cond.methodLink RX5 247 yX5_whyItStays ∈ wAll := in_at 672 (by decide +kernel) (by decide +kernel)
set_option maxRecDepth 100000 in
theorem ml_X7_276 : Cond.methodLink RX7 276 yX7_withPlaces ∈ wAll := in_at 676 (by decide +kernel) (by decide +kernel)
set_option maxRecDepth 100000 in
theorem ml_X7_211 : Cond.methodLink RX7 211 yX6_tell ∈ wAll := in_at 680 (by decide +kernel) (by decide +kernel)
set_option maxRecDepth 100000 in
theorem ml_X7_248 : Cond.methodLink RX7 248 yX5_skipped ∈ wAll := in_at 684 (by decide +kernel) (by decide +kernel)
set_option maxRecDepth 100000 in
theorem ml_X5_85 : Cond.methodLink RX5 85 yX5_isOpen ∈ wAll := in_at 688 (by decide +kernel) (by decide +kernel)
set_option maxRecDepth 100000 in
theorem ml_X7_279 : Cond.methodLink RX7 279 yX7_withReceivers ∈ wAll := in_at 693 (by decide +kernel) (by decide +kernel)
set_option maxRecDepth 100000 in
theorem ml_X7_120 : Cond.methodLink RX7 120 yX5_passTicks ∈ wAll := in_at 697 (by decide +kernel) (by decide +kernel)
set_option maxRecDepth 100000 in
theorem ml_X5_120 : Cond.methodLink RX5 120 yX5_passTick ∈ wAll := in_at 701 (by decide +kernel) (by decide +kernel)
set_option maxRecDepth 100000 in
theorem ml_X7_216 : Cond.methodLink RX7 216 yX5_receiverNumber ∈ wAll := in_at 702 (by decide +kernel) (by decide +kernel)
set_option maxRecDepth 100000 in
theorem ml_X5_250 : Cond.methodLink RX5 250 yX5_rowsFor ∈ wAll := in_at 706 (by decide +kernel) (by decide +kernel)
set_option maxRecDepth 100000 in
theorem ml_X5_253 : Cond.methodLink RX5 253 yX5_sumDue ∈ wAll := in_at 707 (by decide +kernel) (by decide +kernel)
set_option maxRecDepth 100000 in
theorem ml_X5_257 : Cond.methodLink RX5 257 yX0_onWayOf ∈ wAll := in_at 711 (by decide +kernel) (by decide +kernel)
set_option maxRecDepth 100000 in
theorem ml_X5_260 : Cond.methodLink RX5 260 yX3_tell ∈ wAll := in_at 715 (by decide +kernel) (by decide +kernel)
set_option maxRecDepth 100000 in
theorem ml_X7_242 : Cond.methodLink RX7 242 yX3_sinceThen ∈ wAll := in_at 719 (by decide +kernel) (by decide +kernel)
set_option maxRecDepth 100000 in
theorem ml_X7_282 : Cond.methodLink RX7 282 yX7_withMessages ∈ wAll := in_at 723 (by decide +kernel) (by decide +kernel)
set_option maxRecDepth 100000 in
theorem ml_X7_223 : Cond.methodLink RX7 223 yX1_tell ∈ wAll := in_at 727 (by decide +kernel) (by decide +kernel)
set_option maxRecDepth 100000 in
theorem ml_X7_285 : Cond.methodLink RX7 285 yX7_drainIn ∈ wAll := in_at 731 (by decide +kernel) (by decide +kernel)
set_option maxRecDepth 100000 in
theorem ml_X7_288 : Cond.methodLink RX7 288 yX7_slowest ∈ wAll := in_at 732 (by decide +kernel) (by decide +kernel)
set_option maxRecDepth 100000 in
theorem ml_X7_291 : Cond.methodLink RX7 291 yX7_goodShare ∈ wAll := in_at 733 (by decide +kernel) (by decide +kernel)
set_option maxRecDepth 100000 in
theorem ml_X7_295 : Cond.methodLink RX7 295 yX7_bitsOf ∈ wAll := in_at 734 (by decide +kernel) (by decide +kernel)
set_option maxRecDepth 100000 in
theorem ml_X7_299 : Cond.methodLink RX7 299 yX7_meanBatch ∈ wAll := in_at 738 (by decide +kernel) (by decide +kernel)
set_option maxRecDepth 100000 in
theorem ml_X7_303 : Cond.methodLink RX7 303 yX7_withText ∈ wAll := in_at 739 (by decide +kernel) (by decide +kernel)
set_option maxRecDepth 100000 in
theorem ml_L_83 : Cond.methodLink RL 83 yL_begin ∈ wAll := in_at 743 (by decide +kernel) (by decide +kernel)
set_option maxRecDepth 100000 in
theorem ml_L_7 : Cond.methodLink RL 7 yX7_begin ∈ wAll := in_at 747 (by decide +kernel) (by decide +kernel)
set_option maxRecDepth 100000 in
theorem ml_X7_37 : Cond.methodLink RX7 37 yX5_freePlace ∈ wAll := in_at 751 (by decide +kernel) (by decide +kernel)
set_option maxRecDepth 100000 in
theorem ml_X7_51 : Cond.methodLink RX7 51 yX5_openAt ∈ wAll := in_at 771 (by decide +kernel) (by decide +kernel)
set_option maxRecDepth 100000 in
theorem ml_L_92 : Cond.methodLink RL 92 yL_write ∈ wAll := in_at 775 (by decide +kernel) (by decide +kernel)
set_option maxRecDepth 100000 in
theorem ml_L_15 : Cond.methodLink RL 15 yX7_write ∈ wAll := in_at 780 (by decide +kernel) (by decide +kernel)
set_option maxRecDepth 100000 in
theorem ml_X7_55 : Cond.methodLink RX7 55 yX5_isOpen ∈ wAll := in_at 784 (by decide +kernel) (by decide +kernel)
set_option maxRecDepth 100000 in
theorem ml_X7_72 : Cond.methodLink RX7 72 yX5_hasRoomToWrite ∈ wAll := in_at 802 (by decide +kernel) (by decide +kernel)
set_option maxRecDepth 100000 in
theorem ml_X7_77 : Cond.methodLink RX7 77 yX5_writeAt ∈ wAll := in_at 807 (by decide +kernel) (by decide +kernel)
set_option maxRecDepth 100000 in
theorem ml_X5_98 : Cond.methodLink RX5 98 yX5_hasRoomToWrite ∈ wAll := in_at 811 (by decide +kernel) (by decide +kernel)
set_option maxRecDepth 100000 in
theorem ml_X5_101 : Cond.methodLink RX5 101 yX6_addRow ∈ wAll := in_at 812 (by decide +kernel) (by decide +kernel)
set_option maxRecDepth 100000 in
theorem ml_L_96 : Cond.methodLink RL 96 yL_commit ∈ wAll := in_at 816 (by decide +kernel) (by decide +kernel)
set_option maxRecDepth 100000 in
theorem ml_L_23 : Cond.methodLink RL 23 yX7_commit ∈ wAll := in_at 819 (by decide +kernel) (by decide +kernel)
set_option maxRecDepth 100000 in
theorem ml_X7_81 : Cond.methodLink RX7 81 yX5_hasRoomToCommit ∈ wAll := in_at 823 (by decide +kernel) (by decide +kernel)
set_option maxRecDepth 100000 in
theorem ml_X7_86 : Cond.methodLink RX7 86 yX5_commitAt ∈ wAll := in_at 828 (by decide +kernel) (by decide +kernel)
set_option maxRecDepth 100000 in
theorem ml_X5_105 : Cond.methodLink RX5 105 yX5_hasRoomToCommit ∈ wAll := in_at 832 (by decide +kernel) (by decide +kernel)
set_option maxRecDepth 100000 in
theorem ml_X5_117 : Cond.methodLink RX5 117 yX4_addRow ∈ wAll := in_at 833 (by decide +kernel) (by decide +kernel)
set_option maxRecDepth 100000 in
theorem ml_L_100 : Cond.methodLink RL 100 yL_drop ∈ wAll := in_at 837 (by decide +kernel) (by decide +kernel)
set_option maxRecDepth 100000 in
theorem ml_L_27 : Cond.methodLink RL 27 yX7_drop ∈ wAll := in_at 840 (by decide +kernel) (by decide +kernel)
set_option maxRecDepth 100000 in
theorem ml_X7_99 : Cond.methodLink RX7 99 yX5_dropAt ∈ wAll := in_at 844 (by decide +kernel) (by decide +kernel)
set_option maxRecDepth 100000 in
theorem ml_L_103 : Cond.methodLink RL 103 yL_want ∈ wAll := in_at 848 (by decide +kernel) (by decide +kernel)
set_option maxRecDepth 100000 in
theorem ml_L_30 : Cond.methodLink RL 30 yX7_want ∈ wAll := in_at 851 (by decide +kernel) (by decide +kernel)
set_option maxRecDepth 100000 in
theorem ml_L_107 : Cond.methodLink RL 107 yL_pass ∈ wAll := in_at 857 (by decide +kernel) (by decide +kernel)
set_option maxRecDepth 100000 in
theorem ml_L_34 : Cond.methodLink RL 34 yX7_pass ∈ wAll := in_at 860 (by decide +kernel) (by decide +kernel)
set_option maxRecDepth 100000 in
theorem ml_X7_115 : Cond.methodLink RX7 115 yX7_isTicks ∈ wAll := in_at 864 (by decide +kernel) (by decide +kernel)
set_option maxRecDepth 100000 in
theorem ml_L_110 : Cond.methodLink RL 110 yL_lose ∈ wAll := in_at 868 (by decide +kernel) (by decide +kernel)
set_option maxRecDepth 100000 in
theorem ml_L_37 : Cond.methodLink RL 37 yX7_lose ∈ wAll := in_at 871 (by decide +kernel) (by decide +kernel)
set_option maxRecDepth 100000 in
theorem ml_X7_134 : Cond.methodLink RX7 134 yX0_removeFirst ∈ wAll := in_at 876 (by decide +kernel) (by decide +kernel)
set_option maxRecDepth 100000 in
theorem ml_L_117 : Cond.methodLink RL 117 yL_set ∈ wAll := in_at 877 (by decide +kernel) (by decide +kernel)
set_option maxRecDepth 100000 in
theorem ml_L_40 : Cond.methodLink RL 40 yX7_set ∈ wAll := in_at 880 (by decide +kernel) (by decide +kernel)
set_option maxRecDepth 100000 in
theorem ml_X7_145 : Cond.methodLink RX7 145 yX7_isSettingValue ∈ wAll := in_at 885 (by decide +kernel) (by decide +kernel)
set_option maxRecDepth 100000 in
theorem ml_L_120 : Cond.methodLink RL 120 yL_append ∈ wAll := in_at 894 (by decide +kernel) (by decide +kernel)
set_option maxRecDepth 100000 in
theorem ml_L_43 : Cond.methodLink RL 43 yX7_append ∈ wAll := in_at 897 (by decide +kernel) (by decide +kernel)
set_option maxRecDepth 100000 in
theorem ml_L_131 : Cond.methodLink RL 131 yL_obey ∈ wAll := in_at 903 (by decide +kernel) (by decide +kernel)
set_option maxRecDepth 100000 in
theorem ml_L_46 : Cond.methodLink RL 46 yX7_obey ∈ wAll := in_at 906 (by decide +kernel) (by decide +kernel)
set_option maxRecDepth 100000 in
theorem ml_X7_172 : Cond.methodLink RX7 172 yX2_isComplete ∈ wAll := in_at 910 (by decide +kernel) (by decide +kernel)
set_option maxRecDepth 100000 in
theorem ml_X7_178 : Cond.methodLink RX7 178 yX2_beginsPart ∈ wAll := in_at 915 (by decide +kernel) (by decide +kernel)
set_option maxRecDepth 100000 in
theorem ml_X2_23 : Cond.methodLink RX2 23 yX2_signAt ∈ wAll := in_at 919 (by decide +kernel) (by decide +kernel)
set_option maxRecDepth 100000 in
theorem ml_X7_181 : Cond.methodLink RX7 181 yX7_doOrder ∈ wAll := in_at 924 (by decide +kernel) (by decide +kernel)
set_option maxRecDepth 100000 in
theorem ml_X7_322 : Cond.methodLink RX7 322 yX2_digitAt ∈ wAll := in_at 928 (by decide +kernel) (by decide +kernel)
set_option maxRecDepth 100000 in
theorem ml_X7_325 : Cond.methodLink RX7 325 yX2_signAt ∈ wAll := in_at 932 (by decide +kernel) (by decide +kernel)
set_option maxRecDepth 100000 in
theorem ml_X7_328 : Cond.methodLink RX7 328 yX2_numberAt ∈ wAll := in_at 933 (by decide +kernel) (by decide +kernel)
set_option maxRecDepth 100000 in
theorem ml_X2_35 : Cond.methodLink RX2 35 yX2_digitAt ∈ wAll := in_at 937 (by decide +kernel) (by decide +kernel)
set_option maxRecDepth 100000 in
theorem ml_L_138 : Cond.methodLink RL 138 yL_goBack ∈ wAll := in_at 938 (by decide +kernel) (by decide +kernel)
set_option maxRecDepth 100000 in
theorem ml_L_49 : Cond.methodLink RL 49 yX7_goBack ∈ wAll := in_at 941 (by decide +kernel) (by decide +kernel)
set_option maxRecDepth 100000 in
theorem ml_L_141 : Cond.methodLink RL 141 yL_undo ∈ wAll := in_at 946 (by decide +kernel) (by decide +kernel)
set_option maxRecDepth 100000 in
theorem ml_L_52 : Cond.methodLink RL 52 yX7_undo ∈ wAll := in_at 949 (by decide +kernel) (by decide +kernel)
set_option maxRecDepth 100000 in
theorem ml_L_144 : Cond.methodLink RL 144 yL_row ∈ wAll := in_at 954 (by decide +kernel) (by decide +kernel)
set_option maxRecDepth 100000 in
theorem ml_L_55 : Cond.methodLink RL 55 yX7_row ∈ wAll := in_at 957 (by decide +kernel) (by decide +kernel)
set_option maxRecDepth 100000 in
theorem ml_L_147 : Cond.methodLink RL 147 yL_transaction ∈ wAll := in_at 962 (by decide +kernel) (by decide +kernel)
set_option maxRecDepth 100000 in
theorem ml_L_58 : Cond.methodLink RL 58 yX7_transaction ∈ wAll := in_at 965 (by decide +kernel) (by decide +kernel)
set_option maxRecDepth 100000 in
theorem ml_L_150 : Cond.methodLink RL 150 yL_receiver ∈ wAll := in_at 970 (by decide +kernel) (by decide +kernel)
set_option maxRecDepth 100000 in
theorem ml_L_61 : Cond.methodLink RL 61 yX7_receiver ∈ wAll := in_at 973 (by decide +kernel) (by decide +kernel)
set_option maxRecDepth 100000 in
theorem ml_L_153 : Cond.methodLink RL 153 yL_message ∈ wAll := in_at 977 (by decide +kernel) (by decide +kernel)
set_option maxRecDepth 100000 in
theorem ml_L_64 : Cond.methodLink RL 64 yX7_message ∈ wAll := in_at 980 (by decide +kernel) (by decide +kernel)
set_option maxRecDepth 100000 in
theorem ml_L_156 : Cond.methodLink RL 156 yL_count ∈ wAll := in_at 984 (by decide +kernel) (by decide +kernel)
set_option maxRecDepth 100000 in
theorem ml_L_67 : Cond.methodLink RL 67 yX7_count ∈ wAll := in_at 987 (by decide +kernel) (by decide +kernel)
set_option maxRecDepth 100000 in
theorem ml_L_159 : Cond.methodLink RL 159 yL_setting ∈ wAll := in_at 988 (by decide +kernel) (by decide +kernel)
set_option maxRecDepth 100000 in
theorem ml_L_70 : Cond.methodLink RL 70 yX7_setting ∈ wAll := in_at 991 (by decide +kernel) (by decide +kernel)
set_option maxRecDepth 100000 in
theorem ml_L_166 : Cond.methodLink RL 166 yL_ifPassed ∈ wAll := in_at 995 (by decide +kernel) (by decide +kernel)
set_option maxRecDepth 100000 in
theorem ml_L_73 : Cond.methodLink RL 73 yX7_ifPassed ∈ wAll := in_at 998 (by decide +kernel) (by decide +kernel)
set_option maxRecDepth 100000 in
theorem ml_L_169 : Cond.methodLink RL 169 yL_skips ∈ wAll := in_at 1003 (by decide +kernel) (by decide +kernel)
set_option maxRecDepth 100000 in
theorem ml_L_76 : Cond.methodLink RL 76 yX7_skips ∈ wAll := in_at 1006 (by decide +kernel) (by decide +kernel)
set_option maxRecDepth 100000 in
theorem ml_L_82 : Cond.methodLink RL 82 yX8_init ∈ wAll := in_at 1013 (by decide +kernel) (by decide +kernel)
set_option maxRecDepth 100000 in
theorem ml_X8_31 : Cond.methodLink RX8 31 yX8_lay ∈ wAll := in_at 1017 (by decide +kernel) (by decide +kernel)
set_option maxRecDepth 100000 in
theorem ml_L_89 : Cond.methodLink RL 89 yX8_thrown ∈ wAll := in_at 1058 (by decide +kernel) (by decide +kernel)
set_option maxRecDepth 100000 in
theorem ml_L_143 : Cond.methodLink RL 143 yX8_undo ∈ wAll := in_at 1062 (by decide +kernel) (by decide +kernel)
set_option maxRecDepth 100000 in
theorem ml_X8_73 : Cond.methodLink RX8 73 yX8_fails ∈ wAll := in_at 1066 (by decide +kernel) (by decide +kernel)
set_option maxRecDepth 100000 in
theorem ml_L_137 : Cond.methodLink RL 137 yX8_keep ∈ wAll := in_at 1070 (by decide +kernel) (by decide +kernel)
set_option maxRecDepth 100000 in
theorem ml_L_140 : Cond.methodLink RL 140 yX8_goBack ∈ wAll := in_at 1074 (by decide +kernel) (by decide +kernel)
set_option maxRecDepth 100000 in
theorem ml_X8_80 : Cond.methodLink RX8 80 yX8_save ∈ wAll := in_at 1078 (by decide +kernel) (by decide +kernel)
set_option maxRecDepth 100000 in
theorem ml_L_88 : Cond.methodLink RL 88 yX8_begin ∈ wAll := in_at 1082 (by decide +kernel) (by decide +kernel)
set_option maxRecDepth 100000 in
theorem ml_X8_83 : Cond.methodLink RX8 83 yX8_freePlace ∈ wAll := in_at 1086 (by decide +kernel) (by decide +kernel)
set_option maxRecDepth 100000 in
theorem ml_X8_43 : Cond.methodLink RX8 43 yX8_its ∈ wAll := in_at 1090 (by decide +kernel) (by decide +kernel)
set_option maxRecDepth 100000 in
theorem ml_X8_148 : Cond.methodLink RX8 148 yX8_begins ∈ wAll := in_at 1094 (by decide +kernel) (by decide +kernel)
set_option maxRecDepth 100000 in
theorem ml_L_95 : Cond.methodLink RL 95 yX8_write ∈ wAll := in_at 1098 (by decide +kernel) (by decide +kernel)
set_option maxRecDepth 100000 in
theorem ml_X8_87 : Cond.methodLink RX8 87 yX8_isOpen ∈ wAll := in_at 1102 (by decide +kernel) (by decide +kernel)
set_option maxRecDepth 100000 in
theorem ml_X8_39 : Cond.methodLink RX8 39 yX8_in ∈ wAll := in_at 1106 (by decide +kernel) (by decide +kernel)
set_option maxRecDepth 100000 in
theorem ml_X8_151 : Cond.methodLink RX8 151 yX8_writes ∈ wAll := in_at 1109 (by decide +kernel) (by decide +kernel)
set_option maxRecDepth 100000 in
theorem ml_L_99 : Cond.methodLink RL 99 yX8_commit ∈ wAll := in_at 1113 (by decide +kernel) (by decide +kernel)
set_option maxRecDepth 100000 in
theorem ml_X8_91 : Cond.methodLink RX8 91 yX8_keptRows ∈ wAll := in_at 1117 (by decide +kernel) (by decide +kernel)
set_option maxRecDepth 100000 in
theorem ml_X8_155 : Cond.methodLink RX8 155 yX8_commits ∈ wAll := in_at 1121 (by decide +kernel) (by decide +kernel)
set_option maxRecDepth 100000 in
theorem ml_L_102 : Cond.methodLink RL 102 yX8_drop ∈ wAll := in_at 1125 (by decide +kernel) (by decide +kernel)
set_option maxRecDepth 100000 in
theorem ml_X8_158 : Cond.methodLink RX8 158 yX8_drops ∈ wAll := in_at 1129 (by decide +kernel) (by decide +kernel)
set_option maxRecDepth 100000 in
theorem ml_L_106 : Cond.methodLink RL 106 yX8_want ∈ wAll := in_at 1133 (by decide +kernel) (by decide +kernel)
set_option maxRecDepth 100000 in
theorem ml_X8_58 : Cond.methodLink RX8 58 yX8_of ∈ wAll := in_at 1137 (by decide +kernel) (by decide +kernel)
set_option maxRecDepth 100000 in
theorem ml_L_109 : Cond.methodLink RL 109 yX8_pass ∈ wAll := in_at 1141 (by decide +kernel) (by decide +kernel)
set_option maxRecDepth 100000 in
theorem ml_X8_161 : Cond.methodLink RX8 161 yX8_passes ∈ wAll := in_at 1145 (by decide +kernel) (by decide +kernel)
set_option maxRecDepth 100000 in
theorem ml_X8_142 : Cond.methodLink RX8 142 yX8_effects ∈ wAll := in_at 1149 (by decide +kernel) (by decide +kernel)
set_option maxRecDepth 100000 in
theorem ml_X8_145 : Cond.methodLink RX8 145 yX8_tick ∈ wAll := in_at 1153 (by decide +kernel) (by decide +kernel)
set_option maxRecDepth 100000 in
theorem ml_X8_130 : Cond.methodLink RX8 130 yX8_due ∈ wAll := in_at 1157 (by decide +kernel) (by decide +kernel)
set_option maxRecDepth 100000 in
theorem ml_X8_101 : Cond.methodLink RX8 101 yX8_way ∈ wAll := in_at 1161 (by decide +kernel) (by decide +kernel)
set_option maxRecDepth 100000 in
theorem ml_X8_133 : Cond.methodLink RX8 133 yX8_batchComes ∈ wAll := in_at 1165 (by decide +kernel) (by decide +kernel)
set_option maxRecDepth 100000 in
theorem ml_X8_107 : Cond.methodLink RX8 107 yX8_rowOf ∈ wAll := in_at 1169 (by decide +kernel) (by decide +kernel)
set_option maxRecDepth 100000 in
theorem ml_X8_55 : Cond.methodLink RX8 55 yX8_numberOf ∈ wAll := in_at 1173 (by decide +kernel) (by decide +kernel)
set_option maxRecDepth 100000 in
theorem ml_X8_47 : Cond.methodLink RX8 47 yX8_writeOf ∈ wAll := in_at 1177 (by decide +kernel) (by decide +kernel)
set_option maxRecDepth 100000 in
theorem ml_X8_110 : Cond.methodLink RX8 110 yX8_remembers ∈ wAll := in_at 1181 (by decide +kernel) (by decide +kernel)
set_option maxRecDepth 100000 in
theorem ml_X8_113 : Cond.methodLink RX8 113 yX8_works ∈ wAll := in_at 1185 (by decide +kernel) (by decide +kernel)
set_option maxRecDepth 100000 in
theorem ml_X8_104 : Cond.methodLink RX8 104 yX8_valueOf ∈ wAll := in_at 1189 (by decide +kernel) (by decide +kernel)
set_option maxRecDepth 100000 in
theorem ml_X8_51 : Cond.methodLink RX8 51 yX8_hasMark ∈ wAll := in_at 1193 (by decide +kernel) (by decide +kernel)
set_option maxRecDepth 100000 in
theorem ml_X8_97 : Cond.methodLink RX8 97 yX8_mark ∈ wAll := in_at 1197 (by decide +kernel) (by decide +kernel)
set_option maxRecDepth 100000 in
theorem ml_X8_116 : Cond.methodLink RX8 116 yX8_takeOff ∈ wAll := in_at 1201 (by decide +kernel) (by decide +kernel)
set_option maxRecDepth 100000 in
theorem ml_X8_120 : Cond.methodLink RX8 120 yX8_sends ∈ wAll := in_at 1205 (by decide +kernel) (by decide +kernel)
set_option maxRecDepth 100000 in
theorem ml_X8_136 : Cond.methodLink RX8 136 yX8_answerComes ∈ wAll := in_at 1209 (by decide +kernel) (by decide +kernel)
set_option maxRecDepth 100000 in
theorem ml_X8_139 : Cond.methodLink RX8 139 yX8_relays ∈ wAll := in_at 1213 (by decide +kernel) (by decide +kernel)
set_option maxRecDepth 100000 in
theorem ml_X8_127 : Cond.methodLink RX8 127 yX8_gather ∈ wAll := in_at 1217 (by decide +kernel) (by decide +kernel)
set_option maxRecDepth 100000 in
theorem ml_X8_124 : Cond.methodLink RX8 124 yX8_next ∈ wAll := in_at 1221 (by decide +kernel) (by decide +kernel)
set_option maxRecDepth 100000 in
theorem ml_X8_61 : Cond.methodLink RX8 61 yX8_topicOf ∈ wAll := in_at 1225 (by decide +kernel) (by decide +kernel)
set_option maxRecDepth 100000 in
theorem ml_X8_64 : Cond.methodLink RX8 64 yX8_wants ∈ wAll := in_at 1229 (by decide +kernel) (by decide +kernel)
set_option maxRecDepth 100000 in
theorem ml_L_112 : Cond.methodLink RL 112 yX8_lose ∈ wAll := in_at 1233 (by decide +kernel) (by decide +kernel)
set_option maxRecDepth 100000 in
theorem ml_X8_164 : Cond.methodLink RX8 164 yX8_ranked ∈ wAll := in_at 1237 (by decide +kernel) (by decide +kernel)
set_option maxRecDepth 100000 in
theorem ml_L_116 : Cond.methodLink RL 116 yX8_sweep ∈ wAll := in_at 1241 (by decide +kernel) (by decide +kernel)
set_option maxRecDepth 100000 in
theorem ml_X8_167 : Cond.methodLink RX8 167 yX8_sweeps ∈ wAll := in_at 1245 (by decide +kernel) (by decide +kernel)
set_option maxRecDepth 100000 in
theorem ml_X8_94 : Cond.methodLink RX8 94 yX8_answeredBy ∈ wAll := in_at 1249 (by decide +kernel) (by decide +kernel)
set_option maxRecDepth 100000 in
theorem ml_X8_67 : Cond.methodLink RX8 67 yX8_isAnswered ∈ wAll := in_at 1253 (by decide +kernel) (by decide +kernel)
set_option maxRecDepth 100000 in
theorem ml_L_119 : Cond.methodLink RL 119 yX8_set ∈ wAll := in_at 1257 (by decide +kernel) (by decide +kernel)
set_option maxRecDepth 100000 in
theorem ml_X8_170 : Cond.methodLink RX8 170 yX8_leastOf ∈ wAll := in_at 1261 (by decide +kernel) (by decide +kernel)
set_option maxRecDepth 100000 in
theorem ml_X8_173 : Cond.methodLink RX8 173 yX8_mostOf ∈ wAll := in_at 1264 (by decide +kernel) (by decide +kernel)
set_option maxRecDepth 100000 in
theorem ml_L_122 : Cond.methodLink RL 122 yX8_append ∈ wAll := in_at 1267 (by decide +kernel) (by decide +kernel)
set_option maxRecDepth 100000 in
theorem ml_L_126 : Cond.methodLink RL 126 yX8_clearBuffer ∈ wAll := in_at 1271 (by decide +kernel) (by decide +kernel)
set_option maxRecDepth 100000 in
theorem ml_L_130 : Cond.methodLink RL 130 yX8_firstError ∈ wAll := in_at 1275 (by decide +kernel) (by decide +kernel)
set_option maxRecDepth 100000 in
theorem ml_X8_203 : Cond.methodLink RX8 203 yX8_isWell ∈ wAll := in_at 1279 (by decide +kernel) (by decide +kernel)
set_option maxRecDepth 100000 in
theorem ml_X8_200 : Cond.methodLink RX8 200 yX8_order ∈ wAll := in_at 1283 (by decide +kernel) (by decide +kernel)
set_option maxRecDepth 100000 in
theorem ml_X8_194 : Cond.methodLink RX8 194 yX8_isKind ∈ wAll := in_at 1287 (by decide +kernel) (by decide +kernel)
set_option maxRecDepth 100000 in
theorem ml_X8_197 : Cond.methodLink RX8 197 yX8_reads ∈ wAll := in_at 1290 (by decide +kernel) (by decide +kernel)
set_option maxRecDepth 100000 in
theorem ml_X8_185 : Cond.methodLink RX8 185 yX8_digit ∈ wAll := in_at 1294 (by decide +kernel) (by decide +kernel)
set_option maxRecDepth 100000 in
theorem ml_X8_182 : Cond.methodLink RX8 182 yX8_sees ∈ wAll := in_at 1298 (by decide +kernel) (by decide +kernel)
set_option maxRecDepth 100000 in
theorem ml_X8_188 : Cond.methodLink RX8 188 yX8_takes ∈ wAll := in_at 1302 (by decide +kernel) (by decide +kernel)
set_option maxRecDepth 100000 in
theorem ml_X8_191 : Cond.methodLink RX8 191 yX8_number ∈ wAll := in_at 1306 (by decide +kernel) (by decide +kernel)
set_option maxRecDepth 100000 in
theorem ml_L_133 : Cond.methodLink RL 133 yX8_obey ∈ wAll := in_at 1310 (by decide +kernel) (by decide +kernel)
set_option maxRecDepth 100000 in
theorem ml_X8_207 : Cond.methodLink RX8 207 yX8_does ∈ wAll := in_at 1314 (by decide +kernel) (by decide +kernel)
set_option maxRecDepth 100000 in
theorem ml_L_146 : Cond.methodLink RL 146 yX8_row ∈ wAll := in_at 1318 (by decide +kernel) (by decide +kernel)
set_option maxRecDepth 100000 in
theorem ml_X8_210 : Cond.methodLink RX8 210 yX8_keptAt ∈ wAll := in_at 1322 (by decide +kernel) (by decide +kernel)
set_option maxRecDepth 100000 in
theorem ml_X8_213 : Cond.methodLink RX8 213 yX8_why ∈ wAll := in_at 1326 (by decide +kernel) (by decide +kernel)
set_option maxRecDepth 100000 in
theorem ml_L_149 : Cond.methodLink RL 149 yX8_transaction ∈ wAll := in_at 1330 (by decide +kernel) (by decide +kernel)
set_option maxRecDepth 100000 in
theorem ml_X8_216 : Cond.methodLink RX8 216 yX8_valuesAt ∈ wAll := in_at 1334 (by decide +kernel) (by decide +kernel)
set_option maxRecDepth 100000 in
theorem ml_L_152 : Cond.methodLink RL 152 yX8_receiver ∈ wAll := in_at 1338 (by decide +kernel) (by decide +kernel)
set_option maxRecDepth 100000 in
theorem ml_X8_219 : Cond.methodLink RX8 219 yX8_rowsFor ∈ wAll := in_at 1342 (by decide +kernel) (by decide +kernel)
set_option maxRecDepth 100000 in
theorem ml_X8_222 : Cond.methodLink RX8 222 yX8_shouldHave ∈ wAll := in_at 1346 (by decide +kernel) (by decide +kernel)
set_option maxRecDepth 100000 in
theorem ml_X8_225 : Cond.methodLink RX8 225 yX8_onWay ∈ wAll := in_at 1350 (by decide +kernel) (by decide +kernel)
set_option maxRecDepth 100000 in
theorem ml_L_155 : Cond.methodLink RL 155 yX8_message ∈ wAll := in_at 1354 (by decide +kernel) (by decide +kernel)
set_option maxRecDepth 100000 in
theorem ml_L_158 : Cond.methodLink RL 158 yX8_count ∈ wAll := in_at 1358 (by decide +kernel) (by decide +kernel)
set_option maxRecDepth 100000 in
theorem ml_X8_228 : Cond.methodLink RX8 228 yX8_openOnes ∈ wAll := in_at 1362 (by decide +kernel) (by decide +kernel)
set_option maxRecDepth 100000 in
theorem ml_L_161 : Cond.methodLink RL 161 yX8_setting ∈ wAll := in_at 1366 (by decide +kernel) (by decide +kernel)
set_option maxRecDepth 100000 in
theorem ml_L_165 : Cond.methodLink RL 165 yX8_drainIn ∈ wAll := in_at 1370 (by decide +kernel) (by decide +kernel)
set_option maxRecDepth 100000 in
theorem ml_X8_240 : Cond.methodLink RX8 240 yX8_drains ∈ wAll := in_at 1374 (by decide +kernel) (by decide +kernel)
set_option maxRecDepth 100000 in
theorem ml_X8_231 : Cond.methodLink RX8 231 yX8_layAside ∈ wAll := in_at 1378 (by decide +kernel) (by decide +kernel)
set_option maxRecDepth 100000 in
theorem ml_X8_234 : Cond.methodLink RX8 234 yX8_isDrained ∈ wAll := in_at 1382 (by decide +kernel) (by decide +kernel)
set_option maxRecDepth 100000 in
theorem ml_X8_237 : Cond.methodLink RX8 237 yX8_putBack ∈ wAll := in_at 1386 (by decide +kernel) (by decide +kernel)
set_option maxRecDepth 100000 in
theorem ml_L_168 : Cond.methodLink RL 168 yX8_ifPassed ∈ wAll := in_at 1390 (by decide +kernel) (by decide +kernel)
set_option maxRecDepth 100000 in
theorem ml_X8_243 : Cond.methodLink RX8 243 yX8_afterTicks ∈ wAll := in_at 1394 (by decide +kernel) (by decide +kernel)
set_option maxRecDepth 100000 in
theorem ml_L_171 : Cond.methodLink RL 171 yX8_skips ∈ wAll := in_at 1398 (by decide +kernel) (by decide +kernel)
set_option maxRecDepth 100000 in
theorem ml_X8_246 : Cond.methodLink RX8 246 yX8_skipped ∈ wAll := in_at 1402 (by decide +kernel) (by decide +kernel)
set_option maxRecDepth 100000 in
theorem ml_L_175 : Cond.methodLink RL 175 yX8_slowest ∈ wAll := in_at 1406 (by decide +kernel) (by decide +kernel)
set_option maxRecDepth 100000 in
theorem ml_X8_249 : Cond.methodLink RX8 249 yX8_farthest ∈ wAll := in_at 1410 (by decide +kernel) (by decide +kernel)
set_option maxRecDepth 100000 in
theorem ml_L_180 : Cond.methodLink RL 180 yX8_goodShare ∈ wAll := in_at 1414 (by decide +kernel) (by decide +kernel)
set_option maxRecDepth 100000 in
theorem ml_X8_252 : Cond.methodLink RX8 252 yX8_good ∈ wAll := in_at 1418 (by decide +kernel) (by decide +kernel)
set_option maxRecDepth 100000 in
theorem ml_L_185 : Cond.methodLink RL 185 yX8_meanBatch ∈ wAll := in_at 1422 (by decide +kernel) (by decide +kernel)
set_option maxRecDepth 100000 in
theorem ml_X8_256 : Cond.methodLink RX8 256 yX8_mean ∈ wAll := in_at 1426 (by decide +kernel) (by decide +kernel)
set_option maxRecDepth 100000 in
theorem ml_L_190 : Cond.methodLink RL 190 yX8_digest ∈ wAll := in_at 1430 (by decide +kernel) (by decide +kernel)
set_option maxRecDepth 100000 in
theorem ml_X8_270 : Cond.methodLink RX8 270 yX8_count ∈ wAll := in_at 1436 (by decide +kernel) (by decide +kernel)
set_option maxRecDepth 100000 in
theorem ml_X8_273 : Cond.methodLink RX8 273 yX8_ofRows ∈ wAll := in_at 1437 (by decide +kernel) (by decide +kernel)
set_option maxRecDepth 100000 in
theorem ml_X8_277 : Cond.methodLink RX8 277 yX8_ofPlaces ∈ wAll := in_at 1441 (by decide +kernel) (by decide +kernel)
set_option maxRecDepth 100000 in
theorem ml_X8_262 : Cond.methodLink RX8 262 yX8_transaction ∈ wAll := in_at 1445 (by decide +kernel) (by decide +kernel)
set_option maxRecDepth 100000 in
theorem ml_X8_280 : Cond.methodLink RX8 280 yX8_ofReceivers ∈ wAll := in_at 1446 (by decide +kernel) (by decide +kernel)
set_option maxRecDepth 100000 in
theorem ml_X8_265 : Cond.methodLink RX8 265 yX8_receiver ∈ wAll := in_at 1450 (by decide +kernel) (by decide +kernel)
set_option maxRecDepth 100000 in
theorem ml_X8_283 : Cond.methodLink RX8 283 yX8_message ∈ wAll := in_at 1451 (by decide +kernel) (by decide +kernel)
set_option maxRecDepth 100000 in
theorem mi_X0_init : MI yX0_init cX0_init 2 none 0 := ⟨in_at 80 (by decide +kernel) (by decide +kernel), in_at 260 (by decide +kernel) (by decide +kernel), by decide, by decide, by decide +kernel⟩
set_option maxRecDepth 100000 in
theorem si_X0_init : Cond.instanceMethod yX0_init ∈ wAll := in_at 259 (by decide +kernel) (by decide +kernel)
set_option maxRecDepth 100000 in
theorem mi_X0_copyFrom : MI yX0_copyFrom cX0_copyFrom 3 none 1 := ⟨in_at 80 (by decide +kernel) (by decide +kernel), in_at 427 (by decide +kernel) (by decide +kernel), by decide, by decide, by decide +kernel⟩
set_option maxRecDepth 100000 in
theorem se_X0_copyFrom : Cond.selects yX0_copyFrom.cls yX0_copyFrom yX0_copyFrom ∈ wAll ∧ Cond.instanceMethod yX0_copyFrom ∈ wAll := ⟨in_at 426 (by decide +kernel) (by decide +kernel), in_at 425 (by decide +kernel) (by decide +kernel)⟩
set_option maxRecDepth 100000 in
theorem mi_X0_dueAt : MI yX0_dueAt cX0_dueAt 3 (some .int) 1 := ⟨in_at 80 (by decide +kernel) (by decide +kernel), in_at 503 (by decide +kernel) (by decide +kernel), by decide, by decide, by decide +kernel⟩
set_option maxRecDepth 100000 in
theorem se_X0_dueAt : Cond.selects yX0_dueAt.cls yX0_dueAt yX0_dueAt ∈ wAll ∧ Cond.instanceMethod yX0_dueAt ∈ wAll := ⟨in_at 502 (by decide +kernel) (by decide +kernel), in_at 501 (by decide +kernel) (by decide +kernel)⟩
set_option maxRecDepth 100000 in
theorem mi_X0_removeFirst : MI yX0_removeFirst cX0_removeFirst 3 none 0 := ⟨in_at 80 (by decide +kernel) (by decide +kernel), in_at 523 (by decide +kernel) (by decide +kernel), by decide, by decide, by decide +kernel⟩
set_option maxRecDepth 100000 in
theorem se_X0_removeFirst : Cond.selects yX0_removeFirst.cls yX0_removeFirst yX0_removeFirst ∈ wAll ∧ Cond.instanceMethod yX0_removeFirst ∈ wAll := ⟨in_at 522 (by decide +kernel) (by decide +kernel), in_at 521 (by decide +kernel) (by decide +kernel)⟩
set_option maxRecDepth 100000 in
theorem mi_X0_draft : MI yX0_draft cX0_draft 1 (some (.object "OutboxRelay$Message")) 0 := ⟨in_at 80 (by decide +kernel) (by decide +kernel), in_at 531 (by decide +kernel) (by decide +kernel), by decide, by decide, by decide +kernel⟩
set_option maxRecDepth 100000 in
theorem se_X0_draft : Cond.selects yX0_draft.cls yX0_draft yX0_draft ∈ wAll ∧ Cond.instanceMethod yX0_draft ∈ wAll := ⟨in_at 530 (by decide +kernel) (by decide +kernel), in_at 529 (by decide +kernel) (by decide +kernel)⟩
set_option maxRecDepth 100000 in
theorem mi_X0_postDraft : MI yX0_postDraft cX0_postDraft 5 none 2 := ⟨in_at 80 (by decide +kernel) (by decide +kernel), in_at 543 (by decide +kernel) (by decide +kernel), by decide, by decide, by decide +kernel⟩
set_option maxRecDepth 100000 in
theorem se_X0_postDraft : Cond.selects yX0_postDraft.cls yX0_postDraft yX0_postDraft ∈ wAll ∧ Cond.instanceMethod yX0_postDraft ∈ wAll := ⟨in_at 542 (by decide +kernel) (by decide +kernel), in_at 541 (by decide +kernel) (by decide +kernel)⟩
set_option maxRecDepth 100000 in
theorem mi_X0_onWayOf : MI yX0_onWayOf cX0_onWayOf 4 (some .int) 1 := ⟨in_at 80 (by decide +kernel) (by decide +kernel), in_at 714 (by decide +kernel) (by decide +kernel), by decide, by decide, by decide +kernel⟩
set_option maxRecDepth 100000 in
theorem se_X0_onWayOf : Cond.selects yX0_onWayOf.cls yX0_onWayOf yX0_onWayOf ∈ wAll ∧ Cond.instanceMethod yX0_onWayOf ∈ wAll := ⟨in_at 713 (by decide +kernel) (by decide +kernel), in_at 712 (by decide +kernel) (by decide +kernel)⟩
set_option maxRecDepth 100000 in
theorem mi_X1_init : MI yX1_init cX1_init 1 none 0 := ⟨in_at 81 (by decide +kernel) (by decide +kernel), in_at 267 (by decide +kernel) (by decide +kernel), by decide, by decide, by decide +kernel⟩
set_option maxRecDepth 100000 in
theorem si_X1_init : Cond.instanceMethod yX1_init ∈ wAll := in_at 266 (by decide +kernel) (by decide +kernel)
set_option maxRecDepth 100000 in
theorem mi_X1_copyFrom : MI yX1_copyFrom cX1_copyFrom 2 none 1 := ⟨in_at 81 (by decide +kernel) (by decide +kernel), in_at 431 (by decide +kernel) (by decide +kernel), by decide, by decide, by decide +kernel⟩
set_option maxRecDepth 100000 in
theorem se_X1_copyFrom : Cond.selects yX1_copyFrom.cls yX1_copyFrom yX1_copyFrom ∈ wAll ∧ Cond.instanceMethod yX1_copyFrom ∈ wAll := ⟨in_at 430 (by decide +kernel) (by decide +kernel), in_at 429 (by decide +kernel) (by decide +kernel)⟩
set_option maxRecDepth 100000 in
theorem mi_X1_becomeBatch : MI yX1_becomeBatch cX1_becomeBatch 2 none 1 := ⟨in_at 81 (by decide +kernel) (by decide +kernel), in_at 551 (by decide +kernel) (by decide +kernel), by decide, by decide, by decide +kernel⟩
set_option maxRecDepth 100000 in
theorem se_X1_becomeBatch : Cond.selects yX1_becomeBatch.cls yX1_becomeBatch yX1_becomeBatch ∈ wAll ∧ Cond.instanceMethod yX1_becomeBatch ∈ wAll := ⟨in_at 550 (by decide +kernel) (by decide +kernel), in_at 549 (by decide +kernel) (by decide +kernel)⟩
set_option maxRecDepth 100000 in
theorem mi_X1_becomeAnswer : MI yX1_becomeAnswer cX1_becomeAnswer 3 none 2 := ⟨in_at 81 (by decide +kernel) (by decide +kernel), in_at 535 (by decide +kernel) (by decide +kernel), by decide, by decide, by decide +kernel⟩
set_option maxRecDepth 100000 in
theorem se_X1_becomeAnswer : Cond.selects yX1_becomeAnswer.cls yX1_becomeAnswer yX1_becomeAnswer ∈ wAll ∧ Cond.instanceMethod yX1_becomeAnswer ∈ wAll := ⟨in_at 534 (by decide +kernel) (by decide +kernel), in_at 533 (by decide +kernel) (by decide +kernel)⟩
set_option maxRecDepth 100000 in
theorem mi_X1_addRow : MI yX1_addRow cX1_addRow 3 none 2 := ⟨in_at 81 (by decide +kernel) (by decide +kernel), in_at 555 (by decide +kernel) (by decide +kernel), by decide, by decide, by decide +kernel⟩
set_option maxRecDepth 100000 in
theorem se_X1_addRow : Cond.selects yX1_addRow.cls yX1_addRow yX1_addRow ∈ wAll ∧ Cond.instanceMethod yX1_addRow ∈ wAll := ⟨in_at 554 (by decide +kernel) (by decide +kernel), in_at 553 (by decide +kernel) (by decide +kernel)⟩
set_option maxRecDepth 100000 in
theorem mi_X1_tell : MI yX1_tell cX1_tell 3 (some .int) 2 := ⟨in_at 81 (by decide +kernel) (by decide +kernel), in_at 730 (by decide +kernel) (by decide +kernel), by decide, by decide, by decide +kernel⟩
set_option maxRecDepth 100000 in
theorem se_X1_tell : Cond.selects yX1_tell.cls yX1_tell yX1_tell ∈ wAll ∧ Cond.instanceMethod yX1_tell ∈ wAll := ⟨in_at 729 (by decide +kernel) (by decide +kernel), in_at 728 (by decide +kernel) (by decide +kernel)⟩
set_option maxRecDepth 100000 in
theorem mi_X2_init : MI yX2_init cX2_init 1 none 0 := ⟨in_at 82 (by decide +kernel) (by decide +kernel), in_at 364 (by decide +kernel) (by decide +kernel), by decide, by decide, by decide +kernel⟩
set_option maxRecDepth 100000 in
theorem si_X2_init : Cond.instanceMethod yX2_init ∈ wAll := in_at 363 (by decide +kernel) (by decide +kernel)
set_option maxRecDepth 100000 in
theorem mi_X2_errorIndex : MI yX2_errorIndex cX2_errorIndex 3 (some .int) 0 := ⟨in_at 82 (by decide +kernel) (by decide +kernel), in_at 464 (by decide +kernel) (by decide +kernel), by decide, by decide, by decide +kernel⟩
set_option maxRecDepth 100000 in
theorem se_X2_errorIndex : Cond.selects yX2_errorIndex.cls yX2_errorIndex yX2_errorIndex ∈ wAll ∧ Cond.instanceMethod yX2_errorIndex ∈ wAll := ⟨in_at 463 (by decide +kernel) (by decide +kernel), in_at 462 (by decide +kernel) (by decide +kernel)⟩
set_option maxRecDepth 100000 in
theorem mi_X2_isComplete : MI yX2_isComplete cX2_isComplete 3 (some .boolean) 0 := ⟨in_at 82 (by decide +kernel) (by decide +kernel), in_at 913 (by decide +kernel) (by decide +kernel), by decide, by decide, by decide +kernel⟩
set_option maxRecDepth 100000 in
theorem se_X2_isComplete : Cond.selects yX2_isComplete.cls yX2_isComplete yX2_isComplete ∈ wAll ∧ Cond.instanceMethod yX2_isComplete ∈ wAll := ⟨in_at 912 (by decide +kernel) (by decide +kernel), in_at 911 (by decide +kernel) (by decide +kernel)⟩
set_option maxRecDepth 100000 in
theorem mi_X2_beginsPart : MI yX2_beginsPart cX2_beginsPart 2 (some .boolean) 1 := ⟨in_at 82 (by decide +kernel) (by decide +kernel), in_at 918 (by decide +kernel) (by decide +kernel), by decide, by decide, by decide +kernel⟩
set_option maxRecDepth 100000 in
theorem se_X2_beginsPart : Cond.selects yX2_beginsPart.cls yX2_beginsPart yX2_beginsPart ∈ wAll ∧ Cond.instanceMethod yX2_beginsPart ∈ wAll := ⟨in_at 917 (by decide +kernel) (by decide +kernel), in_at 916 (by decide +kernel) (by decide +kernel)⟩
set_option maxRecDepth 100000 in
theorem mi_X2_signAt : MI yX2_signAt cX2_signAt 2 (some .int) 1 := ⟨in_at 82 (by decide +kernel) (by decide +kernel), in_at 922 (by decide +kernel) (by decide +kernel), by decide, by decide, by decide +kernel⟩
set_option maxRecDepth 100000 in
theorem se_X2_signAt : Cond.selects yX2_signAt.cls yX2_signAt yX2_signAt ∈ wAll ∧ Cond.instanceMethod yX2_signAt ∈ wAll := ⟨in_at 921 (by decide +kernel) (by decide +kernel), in_at 920 (by decide +kernel) (by decide +kernel)⟩
set_option maxRecDepth 100000 in
theorem mi_X2_digitAt : MI yX2_digitAt cX2_digitAt 3 (some .int) 1 := ⟨in_at 82 (by decide +kernel) (by decide +kernel), in_at 931 (by decide +kernel) (by decide +kernel), by decide, by decide, by decide +kernel⟩
set_option maxRecDepth 100000 in
theorem se_X2_digitAt : Cond.selects yX2_digitAt.cls yX2_digitAt yX2_digitAt ∈ wAll ∧ Cond.instanceMethod yX2_digitAt ∈ wAll := ⟨in_at 930 (by decide +kernel) (by decide +kernel), in_at 929 (by decide +kernel) (by decide +kernel)⟩
set_option maxRecDepth 100000 in
theorem mi_X2_numberAt : MI yX2_numberAt cX2_numberAt 4 (some .int) 1 := ⟨in_at 82 (by decide +kernel) (by decide +kernel), in_at 936 (by decide +kernel) (by decide +kernel), by decide, by decide, by decide +kernel⟩
set_option maxRecDepth 100000 in
theorem se_X2_numberAt : Cond.selects yX2_numberAt.cls yX2_numberAt yX2_numberAt ∈ wAll ∧ Cond.instanceMethod yX2_numberAt ∈ wAll := ⟨in_at 935 (by decide +kernel) (by decide +kernel), in_at 934 (by decide +kernel) (by decide +kernel)⟩
set_option maxRecDepth 100000 in
theorem mi_X2_after : MI yX2_after cX2_after 2 (some .int) 2 := ⟨in_at 82 (by decide +kernel) (by decide +kernel), in_at 467 (by decide +kernel) (by decide +kernel), by decide, by decide, by decide +kernel⟩
set_option maxRecDepth 100000 in
theorem ss_X2_after : Cond.static yX2_after ∈ wAll := in_at 466 (by decide +kernel) (by decide +kernel)
set_option maxRecDepth 100000 in
theorem mi_X2_afterPartSign : MI yX2_afterPartSign cX2_afterPartSign 1 (some .int) 1 := ⟨in_at 82 (by decide +kernel) (by decide +kernel), in_at 470 (by decide +kernel) (by decide +kernel), by decide, by decide, by decide +kernel⟩
set_option maxRecDepth 100000 in
theorem ss_X2_afterPartSign : Cond.static yX2_afterPartSign ∈ wAll := in_at 469 (by decide +kernel) (by decide +kernel)
set_option maxRecDepth 100000 in
theorem mi_X2_afterFirstDigit : MI yX2_afterFirstDigit cX2_afterFirstDigit 1 (some .int) 1 := ⟨in_at 82 (by decide +kernel) (by decide +kernel), in_at 476 (by decide +kernel) (by decide +kernel), by decide, by decide, by decide +kernel⟩
set_option maxRecDepth 100000 in
theorem ss_X2_afterFirstDigit : Cond.static yX2_afterFirstDigit ∈ wAll := in_at 475 (by decide +kernel) (by decide +kernel)
set_option maxRecDepth 100000 in
theorem mi_X2_afterEnd : MI yX2_afterEnd cX2_afterEnd 1 (some .int) 1 := ⟨in_at 82 (by decide +kernel) (by decide +kernel), in_at 479 (by decide +kernel) (by decide +kernel), by decide, by decide, by decide +kernel⟩
set_option maxRecDepth 100000 in
theorem ss_X2_afterEnd : Cond.static yX2_afterEnd ∈ wAll := in_at 478 (by decide +kernel) (by decide +kernel)
set_option maxRecDepth 100000 in
theorem mi_X2_isBetween : MI yX2_isBetween cX2_isBetween 3 (some .boolean) 3 := ⟨in_at 82 (by decide +kernel) (by decide +kernel), in_at 473 (by decide +kernel) (by decide +kernel), by decide, by decide, by decide +kernel⟩
set_option maxRecDepth 100000 in
theorem ss_X2_isBetween : Cond.static yX2_isBetween ∈ wAll := in_at 472 (by decide +kernel) (by decide +kernel)
set_option maxRecDepth 100000 in
theorem mi_X3_init : MI yX3_init cX3_init 1 none 0 := ⟨in_at 79 (by decide +kernel) (by decide +kernel), in_at 200 (by decide +kernel) (by decide +kernel), by decide, by decide, by decide +kernel⟩
set_option maxRecDepth 100000 in
theorem si_X3_init : Cond.instanceMethod yX3_init ∈ wAll := in_at 199 (by decide +kernel) (by decide +kernel)
set_option maxRecDepth 100000 in
theorem mi_X3_copyFrom : MI yX3_copyFrom cX3_copyFrom 2 none 1 := ⟨in_at 79 (by decide +kernel) (by decide +kernel), in_at 422 (by decide +kernel) (by decide +kernel), by decide, by decide, by decide +kernel⟩
set_option maxRecDepth 100000 in
theorem se_X3_copyFrom : Cond.selects yX3_copyFrom.cls yX3_copyFrom yX3_copyFrom ∈ wAll ∧ Cond.instanceMethod yX3_copyFrom ∈ wAll := ⟨in_at 421 (by decide +kernel) (by decide +kernel), in_at 420 (by decide +kernel) (by decide +kernel)⟩
set_option maxRecDepth 100000 in
theorem mi_X3_wants : MI yX3_wants cX3_wants 2 (some .boolean) 1 := ⟨in_at 79 (by decide +kernel) (by decide +kernel), in_at 448 (by decide +kernel) (by decide +kernel), by decide, by decide, by decide +kernel⟩
set_option maxRecDepth 100000 in
theorem se_X3_wants : Cond.selects yX3_wants.cls yX3_wants yX3_wants ∈ wAll ∧ Cond.instanceMethod yX3_wants ∈ wAll := ⟨in_at 447 (by decide +kernel) (by decide +kernel), in_at 446 (by decide +kernel) (by decide +kernel)⟩
set_option maxRecDepth 100000 in
theorem mi_X3_isRepeat : MI yX3_isRepeat cX3_isRepeat 4 (some .boolean) 2 := ⟨in_at 79 (by decide +kernel) (by decide +kernel), in_at 515 (by decide +kernel) (by decide +kernel), by decide, by decide, by decide +kernel⟩
set_option maxRecDepth 100000 in
theorem se_X3_isRepeat : Cond.selects yX3_isRepeat.cls yX3_isRepeat yX3_isRepeat ∈ wAll ∧ Cond.instanceMethod yX3_isRepeat ∈ wAll := ⟨in_at 514 (by decide +kernel) (by decide +kernel), in_at 513 (by decide +kernel) (by decide +kernel)⟩
set_option maxRecDepth 100000 in
theorem mi_X3_takeEffect : MI yX3_takeEffect cX3_takeEffect 5 none 3 := ⟨in_at 79 (by decide +kernel) (by decide +kernel), in_at 519 (by decide +kernel) (by decide +kernel), by decide, by decide, by decide +kernel⟩
set_option maxRecDepth 100000 in
theorem se_X3_takeEffect : Cond.selects yX3_takeEffect.cls yX3_takeEffect yX3_takeEffect ∈ wAll ∧ Cond.instanceMethod yX3_takeEffect ∈ wAll := ⟨in_at 518 (by decide +kernel) (by decide +kernel), in_at 517 (by decide +kernel) (by decide +kernel)⟩
set_option maxRecDepth 100000 in
theorem mi_X3_answerComes : MI yX3_answerComes cX3_answerComes 2 none 1 := ⟨in_at 79 (by decide +kernel) (by decide +kernel), in_at 527 (by decide +kernel) (by decide +kernel), by decide, by decide, by decide +kernel⟩
set_option maxRecDepth 100000 in
theorem se_X3_answerComes : Cond.selects yX3_answerComes.cls yX3_answerComes yX3_answerComes ∈ wAll ∧ Cond.instanceMethod yX3_answerComes ∈ wAll := ⟨in_at 526 (by decide +kernel) (by decide +kernel), in_at 525 (by decide +kernel) (by decide +kernel)⟩
set_option maxRecDepth 100000 in
theorem mi_X3_tell : MI yX3_tell cX3_tell 2 (some .int) 1 := ⟨in_at 79 (by decide +kernel) (by decide +kernel), in_at 718 (by decide +kernel) (by decide +kernel), by decide, by decide, by decide +kernel⟩
set_option maxRecDepth 100000 in
theorem se_X3_tell : Cond.selects yX3_tell.cls yX3_tell yX3_tell ∈ wAll ∧ Cond.instanceMethod yX3_tell ∈ wAll := ⟨in_at 717 (by decide +kernel) (by decide +kernel), in_at 716 (by decide +kernel) (by decide +kernel)⟩
set_option maxRecDepth 100000 in
theorem mi_X3_sinceThen : MI yX3_sinceThen cX3_sinceThen 3 (some .int) 2 := ⟨in_at 79 (by decide +kernel) (by decide +kernel), in_at 722 (by decide +kernel) (by decide +kernel), by decide, by decide, by decide +kernel⟩
set_option maxRecDepth 100000 in
theorem se_X3_sinceThen : Cond.selects yX3_sinceThen.cls yX3_sinceThen yX3_sinceThen ∈ wAll ∧ Cond.instanceMethod yX3_sinceThen ∈ wAll := ⟨in_at 721 (by decide +kernel) (by decide +kernel), in_at 720 (by decide +kernel) (by decide +kernel)⟩
set_option maxRecDepth 100000 in
theorem mi_X4_init : MI yX4_init cX4_init 1 none 0 := ⟨in_at 78 (by decide +kernel) (by decide +kernel), in_at 149 (by decide +kernel) (by decide +kernel), by decide, by decide, by decide +kernel⟩
set_option maxRecDepth 100000 in
theorem si_X4_init : Cond.instanceMethod yX4_init ∈ wAll := in_at 148 (by decide +kernel) (by decide +kernel)
set_option maxRecDepth 100000 in
theorem mi_X4_copyFrom : MI yX4_copyFrom cX4_copyFrom 2 none 1 := ⟨in_at 78 (by decide +kernel) (by decide +kernel), in_at 417 (by decide +kernel) (by decide +kernel), by decide, by decide, by decide +kernel⟩
set_option maxRecDepth 100000 in
theorem se_X4_copyFrom : Cond.selects yX4_copyFrom.cls yX4_copyFrom yX4_copyFrom ∈ wAll ∧ Cond.instanceMethod yX4_copyFrom ∈ wAll := ⟨in_at 416 (by decide +kernel) (by decide +kernel), in_at 415 (by decide +kernel) (by decide +kernel)⟩
set_option maxRecDepth 100000 in
theorem mi_X4_addRow : MI yX4_addRow cX4_addRow 6 none 4 := ⟨in_at 78 (by decide +kernel) (by decide +kernel), in_at 836 (by decide +kernel) (by decide +kernel), by decide, by decide, by decide +kernel⟩
set_option maxRecDepth 100000 in
theorem se_X4_addRow : Cond.selects yX4_addRow.cls yX4_addRow yX4_addRow ∈ wAll ∧ Cond.instanceMethod yX4_addRow ∈ wAll := ⟨in_at 835 (by decide +kernel) (by decide +kernel), in_at 834 (by decide +kernel) (by decide +kernel)⟩
set_option maxRecDepth 100000 in
theorem mi_X5_init : MI yX5_init cX5_init 2 none 0 := ⟨in_at 76 (by decide +kernel) (by decide +kernel), in_at 105 (by decide +kernel) (by decide +kernel), by decide, by decide, by decide +kernel⟩
set_option maxRecDepth 100000 in
theorem si_X5_init : Cond.instanceMethod yX5_init ∈ wAll := in_at 104 (by decide +kernel) (by decide +kernel)
set_option maxRecDepth 100000 in
theorem mi_X5_copyFrom : MI yX5_copyFrom cX5_copyFrom 3 none 1 := ⟨in_at 76 (by decide +kernel) (by decide +kernel), in_at 405 (by decide +kernel) (by decide +kernel), by decide, by decide, by decide +kernel⟩
set_option maxRecDepth 100000 in
theorem se_X5_copyFrom : Cond.selects yX5_copyFrom.cls yX5_copyFrom yX5_copyFrom ∈ wAll ∧ Cond.instanceMethod yX5_copyFrom ∈ wAll := ⟨in_at 404 (by decide +kernel) (by decide +kernel), in_at 403 (by decide +kernel) (by decide +kernel)⟩
set_option maxRecDepth 100000 in
theorem mi_X5_freePlace : MI yX5_freePlace cX5_freePlace 2 (some .int) 0 := ⟨in_at 76 (by decide +kernel) (by decide +kernel), in_at 754 (by decide +kernel) (by decide +kernel), by decide, by decide, by decide +kernel⟩
set_option maxRecDepth 100000 in
theorem se_X5_freePlace : Cond.selects yX5_freePlace.cls yX5_freePlace yX5_freePlace ∈ wAll ∧ Cond.instanceMethod yX5_freePlace ∈ wAll := ⟨in_at 753 (by decide +kernel) (by decide +kernel), in_at 752 (by decide +kernel) (by decide +kernel)⟩
set_option maxRecDepth 100000 in
theorem mi_X5_isOpen : MI yX5_isOpen cX5_isOpen 2 (some .boolean) 1 := ⟨in_at 76 (by decide +kernel) (by decide +kernel), in_at 691 (by decide +kernel) (by decide +kernel), by decide, by decide, by decide +kernel⟩
set_option maxRecDepth 100000 in
theorem se_X5_isOpen : Cond.selects yX5_isOpen.cls yX5_isOpen yX5_isOpen ∈ wAll ∧ Cond.instanceMethod yX5_isOpen ∈ wAll := ⟨in_at 690 (by decide +kernel) (by decide +kernel), in_at 689 (by decide +kernel) (by decide +kernel)⟩
set_option maxRecDepth 100000 in
theorem mi_X5_hasRoomToWrite : MI yX5_hasRoomToWrite cX5_hasRoomToWrite 2 (some .boolean) 1 := ⟨in_at 76 (by decide +kernel) (by decide +kernel), in_at 805 (by decide +kernel) (by decide +kernel), by decide, by decide, by decide +kernel⟩
set_option maxRecDepth 100000 in
theorem se_X5_hasRoomToWrite : Cond.selects yX5_hasRoomToWrite.cls yX5_hasRoomToWrite yX5_hasRoomToWrite ∈ wAll ∧ Cond.instanceMethod yX5_hasRoomToWrite ∈ wAll := ⟨in_at 804 (by decide +kernel) (by decide +kernel), in_at 803 (by decide +kernel) (by decide +kernel)⟩
set_option maxRecDepth 100000 in
theorem mi_X5_hasRoomToCommit : MI yX5_hasRoomToCommit cX5_hasRoomToCommit 3 (some .boolean) 1 := ⟨in_at 76 (by decide +kernel) (by decide +kernel), in_at 826 (by decide +kernel) (by decide +kernel), by decide, by decide, by decide +kernel⟩
set_option maxRecDepth 100000 in
theorem se_X5_hasRoomToCommit : Cond.selects yX5_hasRoomToCommit.cls yX5_hasRoomToCommit yX5_hasRoomToCommit ∈ wAll ∧ Cond.instanceMethod yX5_hasRoomToCommit ∈ wAll := ⟨in_at 825 (by decide +kernel) (by decide +kernel), in_at 824 (by decide +kernel) (by decide +kernel)⟩
set_option maxRecDepth 100000 in
theorem mi_X5_openAt : MI yX5_openAt cX5_openAt 2 (some .boolean) 1 := ⟨in_at 76 (by decide +kernel) (by decide +kernel), in_at 774 (by decide +kernel) (by decide +kernel), by decide, by decide, by decide +kernel⟩
set_option maxRecDepth 100000 in
theorem se_X5_openAt : Cond.selects yX5_openAt.cls yX5_openAt yX5_openAt ∈ wAll ∧ Cond.instanceMethod yX5_openAt ∈ wAll := ⟨in_at 773 (by decide +kernel) (by decide +kernel), in_at 772 (by decide +kernel) (by decide +kernel)⟩
set_option maxRecDepth 100000 in
theorem mi_X5_writeAt : MI yX5_writeAt cX5_writeAt 4 (some .int) 3 := ⟨in_at 76 (by decide +kernel) (by decide +kernel), in_at 810 (by decide +kernel) (by decide +kernel), by decide, by decide, by decide +kernel⟩
set_option maxRecDepth 100000 in
theorem se_X5_writeAt : Cond.selects yX5_writeAt.cls yX5_writeAt yX5_writeAt ∈ wAll ∧ Cond.instanceMethod yX5_writeAt ∈ wAll := ⟨in_at 809 (by decide +kernel) (by decide +kernel), in_at 808 (by decide +kernel) (by decide +kernel)⟩
set_option maxRecDepth 100000 in
theorem mi_X5_commitAt : MI yX5_commitAt cX5_commitAt 7 none 1 := ⟨in_at 76 (by decide +kernel) (by decide +kernel), in_at 831 (by decide +kernel) (by decide +kernel), by decide, by decide, by decide +kernel⟩
set_option maxRecDepth 100000 in
theorem se_X5_commitAt : Cond.selects yX5_commitAt.cls yX5_commitAt yX5_commitAt ∈ wAll ∧ Cond.instanceMethod yX5_commitAt ∈ wAll := ⟨in_at 830 (by decide +kernel) (by decide +kernel), in_at 829 (by decide +kernel) (by decide +kernel)⟩
set_option maxRecDepth 100000 in
theorem mi_X5_dropAt : MI yX5_dropAt cX5_dropAt 2 (some .int) 1 := ⟨in_at 76 (by decide +kernel) (by decide +kernel), in_at 847 (by decide +kernel) (by decide +kernel), by decide, by decide, by decide +kernel⟩
set_option maxRecDepth 100000 in
theorem se_X5_dropAt : Cond.selects yX5_dropAt.cls yX5_dropAt yX5_dropAt ∈ wAll ∧ Cond.instanceMethod yX5_dropAt ∈ wAll := ⟨in_at 846 (by decide +kernel) (by decide +kernel), in_at 845 (by decide +kernel) (by decide +kernel)⟩
set_option maxRecDepth 100000 in
theorem mi_X5_passTicks : MI yX5_passTicks cX5_passTicks 4 (some .int) 1 := ⟨in_at 76 (by decide +kernel) (by decide +kernel), in_at 700 (by decide +kernel) (by decide +kernel), by decide, by decide, by decide +kernel⟩
set_option maxRecDepth 100000 in
theorem se_X5_passTicks : Cond.selects yX5_passTicks.cls yX5_passTicks yX5_passTicks ∈ wAll ∧ Cond.instanceMethod yX5_passTicks ∈ wAll := ⟨in_at 699 (by decide +kernel) (by decide +kernel), in_at 698 (by decide +kernel) (by decide +kernel)⟩
set_option maxRecDepth 100000 in
theorem mi_X5_passTick : MI yX5_passTick cX5_passTick 4 (some .int) 0 := ⟨in_at 76 (by decide +kernel) (by decide +kernel), in_at 499 (by decide +kernel) (by decide +kernel), by decide, by decide, by decide +kernel⟩
set_option maxRecDepth 100000 in
theorem se_X5_passTick : Cond.selects yX5_passTick.cls yX5_passTick yX5_passTick ∈ wAll ∧ Cond.instanceMethod yX5_passTick ∈ wAll := ⟨in_at 498 (by decide +kernel) (by decide +kernel), in_at 497 (by decide +kernel) (by decide +kernel)⟩
set_option maxRecDepth 100000 in
theorem mi_X5_firstComes : MI yX5_firstComes cX5_firstComes 6 (some .int) 0 := ⟨in_at 76 (by decide +kernel) (by decide +kernel), in_at 507 (by decide +kernel) (by decide +kernel), by decide, by decide, by decide +kernel⟩
set_option maxRecDepth 100000 in
theorem se_X5_firstComes : Cond.selects yX5_firstComes.cls yX5_firstComes yX5_firstComes ∈ wAll ∧ Cond.instanceMethod yX5_firstComes ∈ wAll := ⟨in_at 506 (by decide +kernel) (by decide +kernel), in_at 505 (by decide +kernel) (by decide +kernel)⟩
set_option maxRecDepth 100000 in
theorem mi_X5_rowComes : MI yX5_rowComes cX5_rowComes 6 (some .int) 2 := ⟨in_at 76 (by decide +kernel) (by decide +kernel), in_at 511 (by decide +kernel) (by decide +kernel), by decide, by decide, by decide +kernel⟩
set_option maxRecDepth 100000 in
theorem se_X5_rowComes : Cond.selects yX5_rowComes.cls yX5_rowComes yX5_rowComes ∈ wAll ∧ Cond.instanceMethod yX5_rowComes ∈ wAll := ⟨in_at 510 (by decide +kernel) (by decide +kernel), in_at 509 (by decide +kernel) (by decide +kernel)⟩
set_option maxRecDepth 100000 in
theorem mi_X5_sendBatch : MI yX5_sendBatch cX5_sendBatch 6 none 1 := ⟨in_at 76 (by decide +kernel) (by decide +kernel), in_at 547 (by decide +kernel) (by decide +kernel), by decide, by decide, by decide +kernel⟩
set_option maxRecDepth 100000 in
theorem se_X5_sendBatch : Cond.selects yX5_sendBatch.cls yX5_sendBatch yX5_sendBatch ∈ wAll ∧ Cond.instanceMethod yX5_sendBatch ∈ wAll := ⟨in_at 546 (by decide +kernel) (by decide +kernel), in_at 545 (by decide +kernel) (by decide +kernel)⟩
set_option maxRecDepth 100000 in
theorem mi_X5_post : MI yX5_post cX5_post 1 none 0 := ⟨in_at 76 (by decide +kernel) (by decide +kernel), in_at 539 (by decide +kernel) (by decide +kernel), by decide, by decide, by decide +kernel⟩
set_option maxRecDepth 100000 in
theorem se_X5_post : Cond.selects yX5_post.cls yX5_post yX5_post ∈ wAll ∧ Cond.instanceMethod yX5_post ∈ wAll := ⟨in_at 538 (by decide +kernel) (by decide +kernel), in_at 537 (by decide +kernel) (by decide +kernel)⟩
set_option maxRecDepth 100000 in
theorem mi_X5_isFor : MI yX5_isFor cX5_isFor 3 (some .boolean) 2 := ⟨in_at 76 (by decide +kernel) (by decide +kernel), in_at 444 (by decide +kernel) (by decide +kernel), by decide, by decide, by decide +kernel⟩
set_option maxRecDepth 100000 in
theorem se_X5_isFor : Cond.selects yX5_isFor.cls yX5_isFor yX5_isFor ∈ wAll ∧ Cond.instanceMethod yX5_isFor ∈ wAll := ⟨in_at 443 (by decide +kernel) (by decide +kernel), in_at 442 (by decide +kernel) (by decide +kernel)⟩
set_option maxRecDepth 100000 in
theorem mi_X5_rowsFor : MI yX5_rowsFor cX5_rowsFor 4 (some .int) 1 := ⟨in_at 76 (by decide +kernel) (by decide +kernel), in_at 563 (by decide +kernel) (by decide +kernel), by decide, by decide, by decide +kernel⟩
set_option maxRecDepth 100000 in
theorem se_X5_rowsFor : Cond.selects yX5_rowsFor.cls yX5_rowsFor yX5_rowsFor ∈ wAll ∧ Cond.instanceMethod yX5_rowsFor ∈ wAll := ⟨in_at 562 (by decide +kernel) (by decide +kernel), in_at 561 (by decide +kernel) (by decide +kernel)⟩
set_option maxRecDepth 100000 in
theorem mi_X5_answeredBy : MI yX5_answeredBy cX5_answeredBy 4 (some .int) 1 := ⟨in_at 76 (by decide +kernel) (by decide +kernel), in_at 440 (by decide +kernel) (by decide +kernel), by decide, by decide, by decide +kernel⟩
set_option maxRecDepth 100000 in
theorem se_X5_answeredBy : Cond.selects yX5_answeredBy.cls yX5_answeredBy yX5_answeredBy ∈ wAll ∧ Cond.instanceMethod yX5_answeredBy ∈ wAll := ⟨in_at 439 (by decide +kernel) (by decide +kernel), in_at 438 (by decide +kernel) (by decide +kernel)⟩
set_option maxRecDepth 100000 in
theorem mi_X5_sweepRows : MI yX5_sweepRows cX5_sweepRows 5 (some .int) 0 := ⟨in_at 76 (by decide +kernel) (by decide +kernel), in_at 436 (by decide +kernel) (by decide +kernel), by decide, by decide, by decide +kernel⟩
set_option maxRecDepth 100000 in
theorem se_X5_sweepRows : Cond.selects yX5_sweepRows.cls yX5_sweepRows yX5_sweepRows ∈ wAll ∧ Cond.instanceMethod yX5_sweepRows ∈ wAll := ⟨in_at 435 (by decide +kernel) (by decide +kernel), in_at 434 (by decide +kernel) (by decide +kernel)⟩
set_option maxRecDepth 100000 in
theorem mi_X5_loseUnseen : MI yX5_loseUnseen cX5_loseUnseen 4 none 1 := ⟨in_at 76 (by decide +kernel) (by decide +kernel), in_at 452 (by decide +kernel) (by decide +kernel), by decide, by decide, by decide +kernel⟩
set_option maxRecDepth 100000 in
theorem se_X5_loseUnseen : Cond.selects yX5_loseUnseen.cls yX5_loseUnseen yX5_loseUnseen ∈ wAll ∧ Cond.instanceMethod yX5_loseUnseen ∈ wAll := ⟨in_at 451 (by decide +kernel) (by decide +kernel), in_at 450 (by decide +kernel) (by decide +kernel)⟩
set_option maxRecDepth 100000 in
theorem mi_X5_isDrained : MI yX5_isDrained cX5_isDrained 2 (some .boolean) 0 := ⟨in_at 76 (by decide +kernel) (by decide +kernel), in_at 495 (by decide +kernel) (by decide +kernel), by decide, by decide, by decide +kernel⟩
set_option maxRecDepth 100000 in
theorem se_X5_isDrained : Cond.selects yX5_isDrained.cls yX5_isDrained yX5_isDrained ∈ wAll ∧ Cond.instanceMethod yX5_isDrained ∈ wAll := ⟨in_at 494 (by decide +kernel) (by decide +kernel), in_at 493 (by decide +kernel) (by decide +kernel)⟩
set_option maxRecDepth 100000 in
theorem mi_X5_rowNumber : MI yX5_rowNumber cX5_rowNumber 3 (some .int) 2 := ⟨in_at 76 (by decide +kernel) (by decide +kernel), in_at 671 (by decide +kernel) (by decide +kernel), by decide, by decide, by decide +kernel⟩
set_option maxRecDepth 100000 in
theorem se_X5_rowNumber : Cond.selects yX5_rowNumber.cls yX5_rowNumber yX5_rowNumber ∈ wAll ∧ Cond.instanceMethod yX5_rowNumber ∈ wAll := ⟨in_at 670 (by decide +kernel) (by decide +kernel), in_at 669 (by decide +kernel) (by decide +kernel)⟩
set_option maxRecDepth 100000 in
theorem mi_X5_whyItStays : MI yX5_whyItStays cX5_whyItStays 3 (some .int) 1 := ⟨in_at 76 (by decide +kernel) (by decide +kernel), in_at 675 (by decide +kernel) (by decide +kernel), by decide, by decide, by decide +kernel⟩
set_option maxRecDepth 100000 in
theorem se_X5_whyItStays : Cond.selects yX5_whyItStays.cls yX5_whyItStays yX5_whyItStays ∈ wAll ∧ Cond.instanceMethod yX5_whyItStays ∈ wAll := ⟨in_at 674 (by decide +kernel) (by decide +kernel), in_at 673 (by decide +kernel) (by decide +kernel)⟩
set_option maxRecDepth 100000 in
theorem mi_X5_receiverNumber : MI yX5_receiverNumber cX5_receiverNumber 3 (some .int) 2 := ⟨in_at 76 (by decide +kernel) (by decide +kernel), in_at 705 (by decide +kernel) (by decide +kernel), by decide, by decide, by decide +kernel⟩
set_option maxRecDepth 100000 in
theorem se_X5_receiverNumber : Cond.selects yX5_receiverNumber.cls yX5_receiverNumber yX5_receiverNumber ∈ wAll ∧ Cond.instanceMethod yX5_receiverNumber ∈ wAll := ⟨in_at 704 (by decide +kernel) (by decide +kernel), in_at 703 (by decide +kernel) (by decide +kernel)⟩
set_option maxRecDepth 100000 in
theorem mi_X5_sumDue : MI yX5_sumDue cX5_sumDue 4 (some .int) 1 := ⟨in_at 76 (by decide +kernel) (by decide +kernel), in_at 710 (by decide +kernel) (by decide +kernel), by decide, by decide, by decide +kernel⟩
set_option maxRecDepth 100000 in
theorem se_X5_sumDue : Cond.selects yX5_sumDue.cls yX5_sumDue yX5_sumDue ∈ wAll ∧ Cond.instanceMethod yX5_sumDue ∈ wAll := ⟨in_at 709 (by decide +kernel) (by decide +kernel), in_at 708 (by decide +kernel) (by decide +kernel)⟩
set_option maxRecDepth 100000 in
theorem mi_X5_skipped : MI yX5_skipped cX5_skipped 9 (some .int) 2 := ⟨in_at 76 (by decide +kernel) (by decide +kernel), in_at 687 (by decide +kernel) (by decide +kernel), by decide, by decide, by decide +kernel⟩
set_option maxRecDepth 100000 in
theorem se_X5_skipped : Cond.selects yX5_skipped.cls yX5_skipped yX5_skipped ∈ wAll ∧ Cond.instanceMethod yX5_skipped ∈ wAll := ⟨in_at 686 (by decide +kernel) (by decide +kernel), in_at 685 (by decide +kernel) (by decide +kernel)⟩
set_option maxRecDepth 100000 in
theorem mi_X5_counted : MI yX5_counted cX5_counted 2 (some .int) 1 := ⟨in_at 76 (by decide +kernel) (by decide +kernel), in_at 655 (by decide +kernel) (by decide +kernel), by decide, by decide, by decide +kernel⟩
set_option maxRecDepth 100000 in
theorem se_X5_counted : Cond.selects yX5_counted.cls yX5_counted yX5_counted ∈ wAll ∧ Cond.instanceMethod yX5_counted ∈ wAll := ⟨in_at 654 (by decide +kernel) (by decide +kernel), in_at 653 (by decide +kernel) (by decide +kernel)⟩
set_option maxRecDepth 100000 in
theorem mi_X5_openTransactions : MI yX5_openTransactions cX5_openTransactions 3 (some .int) 0 := ⟨in_at 76 (by decide +kernel) (by decide +kernel), in_at 659 (by decide +kernel) (by decide +kernel), by decide, by decide, by decide +kernel⟩
set_option maxRecDepth 100000 in
theorem se_X5_openTransactions : Cond.selects yX5_openTransactions.cls yX5_openTransactions yX5_openTransactions ∈ wAll ∧ Cond.instanceMethod yX5_openTransactions ∈ wAll := ⟨in_at 658 (by decide +kernel) (by decide +kernel), in_at 657 (by decide +kernel) (by decide +kernel)⟩
set_option maxRecDepth 100000 in
theorem mi_X6_init : MI yX6_init cX6_init 1 none 0 := ⟨in_at 77 (by decide +kernel) (by decide +kernel), in_at 121 (by decide +kernel) (by decide +kernel), by decide, by decide, by decide +kernel⟩
set_option maxRecDepth 100000 in
theorem si_X6_init : Cond.instanceMethod yX6_init ∈ wAll := in_at 120 (by decide +kernel) (by decide +kernel)
set_option maxRecDepth 100000 in
theorem mi_X6_copyFrom : MI yX6_copyFrom cX6_copyFrom 2 none 1 := ⟨in_at 77 (by decide +kernel) (by decide +kernel), in_at 412 (by decide +kernel) (by decide +kernel), by decide, by decide, by decide +kernel⟩
set_option maxRecDepth 100000 in
theorem se_X6_copyFrom : Cond.selects yX6_copyFrom.cls yX6_copyFrom yX6_copyFrom ∈ wAll ∧ Cond.instanceMethod yX6_copyFrom ∈ wAll := ⟨in_at 411 (by decide +kernel) (by decide +kernel), in_at 410 (by decide +kernel) (by decide +kernel)⟩
set_option maxRecDepth 100000 in
theorem mi_X6_addRow : MI yX6_addRow cX6_addRow 4 none 3 := ⟨in_at 77 (by decide +kernel) (by decide +kernel), in_at 815 (by decide +kernel) (by decide +kernel), by decide, by decide, by decide +kernel⟩
set_option maxRecDepth 100000 in
theorem se_X6_addRow : Cond.selects yX6_addRow.cls yX6_addRow yX6_addRow ∈ wAll ∧ Cond.instanceMethod yX6_addRow ∈ wAll := ⟨in_at 814 (by decide +kernel) (by decide +kernel), in_at 813 (by decide +kernel) (by decide +kernel)⟩
set_option maxRecDepth 100000 in
theorem mi_X6_tell : MI yX6_tell cX6_tell 4 (some .int) 1 := ⟨in_at 77 (by decide +kernel) (by decide +kernel), in_at 683 (by decide +kernel) (by decide +kernel), by decide, by decide, by decide +kernel⟩
set_option maxRecDepth 100000 in
theorem se_X6_tell : Cond.selects yX6_tell.cls yX6_tell yX6_tell ∈ wAll ∧ Cond.instanceMethod yX6_tell ∈ wAll := ⟨in_at 682 (by decide +kernel) (by decide +kernel), in_at 681 (by decide +kernel) (by decide +kernel)⟩
set_option maxRecDepth 100000 in
theorem mi_X7_init : MI yX7_init cX7_init 1 none 0 := ⟨in_at 75 (by decide +kernel) (by decide +kernel), in_at 97 (by decide +kernel) (by decide +kernel), by decide, by decide, by decide +kernel⟩
set_option maxRecDepth 100000 in
theorem si_X7_init : Cond.instanceMethod yX7_init ∈ wAll := in_at 96 (by decide +kernel) (by decide +kernel)
set_option maxRecDepth 100000 in
theorem mi_X7_begin : MI yX7_begin cX7_begin 2 (some .int) 0 := ⟨in_at 75 (by decide +kernel) (by decide +kernel), in_at 750 (by decide +kernel) (by decide +kernel), by decide, by decide, by decide +kernel⟩
set_option maxRecDepth 100000 in
theorem se_X7_begin : Cond.selects yX7_begin.cls yX7_begin yX7_begin ∈ wAll ∧ Cond.instanceMethod yX7_begin ∈ wAll := ⟨in_at 749 (by decide +kernel) (by decide +kernel), in_at 748 (by decide +kernel) (by decide +kernel)⟩
set_option maxRecDepth 100000 in
theorem mi_X7_write : MI yX7_write cX7_write 4 (some .int) 3 := ⟨in_at 75 (by decide +kernel) (by decide +kernel), in_at 783 (by decide +kernel) (by decide +kernel), by decide, by decide, by decide +kernel⟩
set_option maxRecDepth 100000 in
theorem se_X7_write : Cond.selects yX7_write.cls yX7_write yX7_write ∈ wAll ∧ Cond.instanceMethod yX7_write ∈ wAll := ⟨in_at 782 (by decide +kernel) (by decide +kernel), in_at 781 (by decide +kernel) (by decide +kernel)⟩
set_option maxRecDepth 100000 in
theorem mi_X7_commit : MI yX7_commit cX7_commit 2 (some .int) 1 := ⟨in_at 75 (by decide +kernel) (by decide +kernel), in_at 822 (by decide +kernel) (by decide +kernel), by decide, by decide, by decide +kernel⟩
set_option maxRecDepth 100000 in
theorem se_X7_commit : Cond.selects yX7_commit.cls yX7_commit yX7_commit ∈ wAll ∧ Cond.instanceMethod yX7_commit ∈ wAll := ⟨in_at 821 (by decide +kernel) (by decide +kernel), in_at 820 (by decide +kernel) (by decide +kernel)⟩
set_option maxRecDepth 100000 in
theorem mi_X7_drop : MI yX7_drop cX7_drop 2 (some .int) 1 := ⟨in_at 75 (by decide +kernel) (by decide +kernel), in_at 843 (by decide +kernel) (by decide +kernel), by decide, by decide, by decide +kernel⟩
set_option maxRecDepth 100000 in
theorem se_X7_drop : Cond.selects yX7_drop.cls yX7_drop yX7_drop ∈ wAll ∧ Cond.instanceMethod yX7_drop ∈ wAll := ⟨in_at 842 (by decide +kernel) (by decide +kernel), in_at 841 (by decide +kernel) (by decide +kernel)⟩
set_option maxRecDepth 100000 in
theorem mi_X7_want : MI yX7_want cX7_want 5 (some .int) 2 := ⟨in_at 75 (by decide +kernel) (by decide +kernel), in_at 854 (by decide +kernel) (by decide +kernel), by decide, by decide, by decide +kernel⟩
set_option maxRecDepth 100000 in
theorem se_X7_want : Cond.selects yX7_want.cls yX7_want yX7_want ∈ wAll ∧ Cond.instanceMethod yX7_want ∈ wAll := ⟨in_at 853 (by decide +kernel) (by decide +kernel), in_at 852 (by decide +kernel) (by decide +kernel)⟩
set_option maxRecDepth 100000 in
theorem mi_X7_pass : MI yX7_pass cX7_pass 2 (some .int) 1 := ⟨in_at 75 (by decide +kernel) (by decide +kernel), in_at 863 (by decide +kernel) (by decide +kernel), by decide, by decide, by decide +kernel⟩
set_option maxRecDepth 100000 in
theorem se_X7_pass : Cond.selects yX7_pass.cls yX7_pass yX7_pass ∈ wAll ∧ Cond.instanceMethod yX7_pass ∈ wAll := ⟨in_at 862 (by decide +kernel) (by decide +kernel), in_at 861 (by decide +kernel) (by decide +kernel)⟩
set_option maxRecDepth 100000 in
theorem mi_X7_lose : MI yX7_lose cX7_lose 1 (some .int) 0 := ⟨in_at 75 (by decide +kernel) (by decide +kernel), in_at 874 (by decide +kernel) (by decide +kernel), by decide, by decide, by decide +kernel⟩
set_option maxRecDepth 100000 in
theorem se_X7_lose : Cond.selects yX7_lose.cls yX7_lose yX7_lose ∈ wAll ∧ Cond.instanceMethod yX7_lose ∈ wAll := ⟨in_at 873 (by decide +kernel) (by decide +kernel), in_at 872 (by decide +kernel) (by decide +kernel)⟩
set_option maxRecDepth 100000 in
theorem mi_X7_sweep : MI yX7_sweep cX7_sweep 1 (some .int) 0 := ⟨in_at 75 (by decide +kernel) (by decide +kernel), in_at 397 (by decide +kernel) (by decide +kernel), by decide, by decide, by decide +kernel⟩
set_option maxRecDepth 100000 in
theorem se_X7_sweep : Cond.selects yX7_sweep.cls yX7_sweep yX7_sweep ∈ wAll ∧ Cond.instanceMethod yX7_sweep ∈ wAll := ⟨in_at 396 (by decide +kernel) (by decide +kernel), in_at 395 (by decide +kernel) (by decide +kernel)⟩
set_option maxRecDepth 100000 in
theorem mi_X7_set : MI yX7_set cX7_set 4 (some .int) 2 := ⟨in_at 75 (by decide +kernel) (by decide +kernel), in_at 883 (by decide +kernel) (by decide +kernel), by decide, by decide, by decide +kernel⟩
set_option maxRecDepth 100000 in
theorem se_X7_set : Cond.selects yX7_set.cls yX7_set yX7_set ∈ wAll ∧ Cond.instanceMethod yX7_set ∈ wAll := ⟨in_at 882 (by decide +kernel) (by decide +kernel), in_at 881 (by decide +kernel) (by decide +kernel)⟩
set_option maxRecDepth 100000 in
theorem mi_X7_append : MI yX7_append cX7_append 2 (some .int) 1 := ⟨in_at 75 (by decide +kernel) (by decide +kernel), in_at 900 (by decide +kernel) (by decide +kernel), by decide, by decide, by decide +kernel⟩
set_option maxRecDepth 100000 in
theorem se_X7_append : Cond.selects yX7_append.cls yX7_append yX7_append ∈ wAll ∧ Cond.instanceMethod yX7_append ∈ wAll := ⟨in_at 899 (by decide +kernel) (by decide +kernel), in_at 898 (by decide +kernel) (by decide +kernel)⟩
set_option maxRecDepth 100000 in
theorem mi_X7_clearBuffer : MI yX7_clearBuffer cX7_clearBuffer 2 (some .int) 0 := ⟨in_at 75 (by decide +kernel) (by decide +kernel), in_at 456 (by decide +kernel) (by decide +kernel), by decide, by decide, by decide +kernel⟩
set_option maxRecDepth 100000 in
theorem se_X7_clearBuffer : Cond.selects yX7_clearBuffer.cls yX7_clearBuffer yX7_clearBuffer ∈ wAll ∧ Cond.instanceMethod yX7_clearBuffer ∈ wAll := ⟨in_at 455 (by decide +kernel) (by decide +kernel), in_at 454 (by decide +kernel) (by decide +kernel)⟩
set_option maxRecDepth 100000 in
theorem mi_X7_firstError : MI yX7_firstError cX7_firstError 1 (some .int) 0 := ⟨in_at 75 (by decide +kernel) (by decide +kernel), in_at 460 (by decide +kernel) (by decide +kernel), by decide, by decide, by decide +kernel⟩
set_option maxRecDepth 100000 in
theorem se_X7_firstError : Cond.selects yX7_firstError.cls yX7_firstError yX7_firstError ∈ wAll ∧ Cond.instanceMethod yX7_firstError ∈ wAll := ⟨in_at 459 (by decide +kernel) (by decide +kernel), in_at 458 (by decide +kernel) (by decide +kernel)⟩
set_option maxRecDepth 100000 in
theorem mi_X7_obey : MI yX7_obey cX7_obey 3 (some .int) 0 := ⟨in_at 75 (by decide +kernel) (by decide +kernel), in_at 909 (by decide +kernel) (by decide +kernel), by decide, by decide, by decide +kernel⟩
set_option maxRecDepth 100000 in
theorem se_X7_obey : Cond.selects yX7_obey.cls yX7_obey yX7_obey ∈ wAll ∧ Cond.instanceMethod yX7_obey ∈ wAll := ⟨in_at 908 (by decide +kernel) (by decide +kernel), in_at 907 (by decide +kernel) (by decide +kernel)⟩
set_option maxRecDepth 100000 in
theorem mi_X7_keep : MI yX7_keep cX7_keep 1 (some .int) 0 := ⟨in_at 75 (by decide +kernel) (by decide +kernel), in_at 483 (by decide +kernel) (by decide +kernel), by decide, by decide, by decide +kernel⟩
set_option maxRecDepth 100000 in
theorem se_X7_keep : Cond.selects yX7_keep.cls yX7_keep yX7_keep ∈ wAll ∧ Cond.instanceMethod yX7_keep ∈ wAll := ⟨in_at 482 (by decide +kernel) (by decide +kernel), in_at 481 (by decide +kernel) (by decide +kernel)⟩
set_option maxRecDepth 100000 in
theorem mi_X7_goBack : MI yX7_goBack cX7_goBack 1 (some .int) 0 := ⟨in_at 75 (by decide +kernel) (by decide +kernel), in_at 944 (by decide +kernel) (by decide +kernel), by decide, by decide, by decide +kernel⟩
set_option maxRecDepth 100000 in
theorem se_X7_goBack : Cond.selects yX7_goBack.cls yX7_goBack yX7_goBack ∈ wAll ∧ Cond.instanceMethod yX7_goBack ∈ wAll := ⟨in_at 943 (by decide +kernel) (by decide +kernel), in_at 942 (by decide +kernel) (by decide +kernel)⟩
set_option maxRecDepth 100000 in
theorem mi_X7_undo : MI yX7_undo cX7_undo 2 (some .int) 0 := ⟨in_at 75 (by decide +kernel) (by decide +kernel), in_at 952 (by decide +kernel) (by decide +kernel), by decide, by decide, by decide +kernel⟩
set_option maxRecDepth 100000 in
theorem se_X7_undo : Cond.selects yX7_undo.cls yX7_undo yX7_undo ∈ wAll ∧ Cond.instanceMethod yX7_undo ∈ wAll := ⟨in_at 951 (by decide +kernel) (by decide +kernel), in_at 950 (by decide +kernel) (by decide +kernel)⟩
set_option maxRecDepth 100000 in
theorem mi_X7_row : MI yX7_row cX7_row 3 (some .int) 2 := ⟨in_at 75 (by decide +kernel) (by decide +kernel), in_at 960 (by decide +kernel) (by decide +kernel), by decide, by decide, by decide +kernel⟩
set_option maxRecDepth 100000 in
theorem se_X7_row : Cond.selects yX7_row.cls yX7_row yX7_row ∈ wAll ∧ Cond.instanceMethod yX7_row ∈ wAll := ⟨in_at 959 (by decide +kernel) (by decide +kernel), in_at 958 (by decide +kernel) (by decide +kernel)⟩
set_option maxRecDepth 100000 in
theorem mi_X7_transaction : MI yX7_transaction cX7_transaction 3 (some .int) 2 := ⟨in_at 75 (by decide +kernel) (by decide +kernel), in_at 968 (by decide +kernel) (by decide +kernel), by decide, by decide, by decide +kernel⟩
set_option maxRecDepth 100000 in
theorem se_X7_transaction : Cond.selects yX7_transaction.cls yX7_transaction yX7_transaction ∈ wAll ∧ Cond.instanceMethod yX7_transaction ∈ wAll := ⟨in_at 967 (by decide +kernel) (by decide +kernel), in_at 966 (by decide +kernel) (by decide +kernel)⟩
set_option maxRecDepth 100000 in
theorem mi_X7_receiver : MI yX7_receiver cX7_receiver 3 (some .int) 2 := ⟨in_at 75 (by decide +kernel) (by decide +kernel), in_at 976 (by decide +kernel) (by decide +kernel), by decide, by decide, by decide +kernel⟩
set_option maxRecDepth 100000 in
theorem se_X7_receiver : Cond.selects yX7_receiver.cls yX7_receiver yX7_receiver ∈ wAll ∧ Cond.instanceMethod yX7_receiver ∈ wAll := ⟨in_at 975 (by decide +kernel) (by decide +kernel), in_at 974 (by decide +kernel) (by decide +kernel)⟩
set_option maxRecDepth 100000 in
theorem mi_X7_message : MI yX7_message cX7_message 3 (some .int) 2 := ⟨in_at 75 (by decide +kernel) (by decide +kernel), in_at 983 (by decide +kernel) (by decide +kernel), by decide, by decide, by decide +kernel⟩
set_option maxRecDepth 100000 in
theorem se_X7_message : Cond.selects yX7_message.cls yX7_message yX7_message ∈ wAll ∧ Cond.instanceMethod yX7_message ∈ wAll := ⟨in_at 982 (by decide +kernel) (by decide +kernel), in_at 981 (by decide +kernel) (by decide +kernel)⟩
set_option maxRecDepth 100000 in
theorem mi_X7_count : MI yX7_count cX7_count 2 (some .int) 1 := ⟨in_at 75 (by decide +kernel) (by decide +kernel), in_at 580 (by decide +kernel) (by decide +kernel), by decide, by decide, by decide +kernel⟩
set_option maxRecDepth 100000 in
theorem se_X7_count : Cond.selects yX7_count.cls yX7_count yX7_count ∈ wAll ∧ Cond.instanceMethod yX7_count ∈ wAll := ⟨in_at 579 (by decide +kernel) (by decide +kernel), in_at 578 (by decide +kernel) (by decide +kernel)⟩
set_option maxRecDepth 100000 in
theorem mi_X7_setting : MI yX7_setting cX7_setting 2 (some .int) 1 := ⟨in_at 75 (by decide +kernel) (by decide +kernel), in_at 994 (by decide +kernel) (by decide +kernel), by decide, by decide, by decide +kernel⟩
set_option maxRecDepth 100000 in
theorem se_X7_setting : Cond.selects yX7_setting.cls yX7_setting yX7_setting ∈ wAll ∧ Cond.instanceMethod yX7_setting ∈ wAll := ⟨in_at 993 (by decide +kernel) (by decide +kernel), in_at 992 (by decide +kernel) (by decide +kernel)⟩
set_option maxRecDepth 100000 in
theorem mi_X7_drainIn : MI yX7_drainIn cX7_drainIn 3 (some .int) 0 := ⟨in_at 75 (by decide +kernel) (by decide +kernel), in_at 487 (by decide +kernel) (by decide +kernel), by decide, by decide, by decide +kernel⟩
set_option maxRecDepth 100000 in
theorem se_X7_drainIn : Cond.selects yX7_drainIn.cls yX7_drainIn yX7_drainIn ∈ wAll ∧ Cond.instanceMethod yX7_drainIn ∈ wAll := ⟨in_at 486 (by decide +kernel) (by decide +kernel), in_at 485 (by decide +kernel) (by decide +kernel)⟩
set_option maxRecDepth 100000 in
theorem mi_X7_ifPassed : MI yX7_ifPassed cX7_ifPassed 5 (some .int) 3 := ⟨in_at 75 (by decide +kernel) (by decide +kernel), in_at 1001 (by decide +kernel) (by decide +kernel), by decide, by decide, by decide +kernel⟩
set_option maxRecDepth 100000 in
theorem se_X7_ifPassed : Cond.selects yX7_ifPassed.cls yX7_ifPassed yX7_ifPassed ∈ wAll ∧ Cond.instanceMethod yX7_ifPassed ∈ wAll := ⟨in_at 1000 (by decide +kernel) (by decide +kernel), in_at 999 (by decide +kernel) (by decide +kernel)⟩
set_option maxRecDepth 100000 in
theorem mi_X7_skips : MI yX7_skips cX7_skips 3 (some .int) 2 := ⟨in_at 75 (by decide +kernel) (by decide +kernel), in_at 1009 (by decide +kernel) (by decide +kernel), by decide, by decide, by decide +kernel⟩
set_option maxRecDepth 100000 in
theorem se_X7_skips : Cond.selects yX7_skips.cls yX7_skips yX7_skips ∈ wAll ∧ Cond.instanceMethod yX7_skips ∈ wAll := ⟨in_at 1008 (by decide +kernel) (by decide +kernel), in_at 1007 (by decide +kernel) (by decide +kernel)⟩
set_option maxRecDepth 100000 in
theorem mi_X7_slowest : MI yX7_slowest cX7_slowest 5 (some .int) 0 := ⟨in_at 75 (by decide +kernel) (by decide +kernel), in_at 559 (by decide +kernel) (by decide +kernel), by decide, by decide, by decide +kernel⟩
set_option maxRecDepth 100000 in
theorem se_X7_slowest : Cond.selects yX7_slowest.cls yX7_slowest yX7_slowest ∈ wAll ∧ Cond.instanceMethod yX7_slowest ∈ wAll := ⟨in_at 558 (by decide +kernel) (by decide +kernel), in_at 557 (by decide +kernel) (by decide +kernel)⟩
set_option maxRecDepth 100000 in
theorem mi_X7_goodShare : MI yX7_goodShare cX7_goodShare 2 (some .double) 0 := ⟨in_at 75 (by decide +kernel) (by decide +kernel), in_at 567 (by decide +kernel) (by decide +kernel), by decide, by decide, by decide +kernel⟩
set_option maxRecDepth 100000 in
theorem se_X7_goodShare : Cond.selects yX7_goodShare.cls yX7_goodShare yX7_goodShare ∈ wAll ∧ Cond.instanceMethod yX7_goodShare ∈ wAll := ⟨in_at 566 (by decide +kernel) (by decide +kernel), in_at 565 (by decide +kernel) (by decide +kernel)⟩
set_option maxRecDepth 100000 in
theorem mi_X7_meanBatch : MI yX7_meanBatch cX7_meanBatch 2 (some .float) 0 := ⟨in_at 75 (by decide +kernel) (by decide +kernel), in_at 571 (by decide +kernel) (by decide +kernel), by decide, by decide, by decide +kernel⟩
set_option maxRecDepth 100000 in
theorem se_X7_meanBatch : Cond.selects yX7_meanBatch.cls yX7_meanBatch yX7_meanBatch ∈ wAll ∧ Cond.instanceMethod yX7_meanBatch ∈ wAll := ⟨in_at 570 (by decide +kernel) (by decide +kernel), in_at 569 (by decide +kernel) (by decide +kernel)⟩
set_option maxRecDepth 100000 in
theorem mi_X7_digest : MI yX7_digest cX7_digest 4 (some .long) 0 := ⟨in_at 75 (by decide +kernel) (by decide +kernel), in_at 575 (by decide +kernel) (by decide +kernel), by decide, by decide, by decide +kernel⟩
set_option maxRecDepth 100000 in
theorem se_X7_digest : Cond.selects yX7_digest.cls yX7_digest yX7_digest ∈ wAll ∧ Cond.instanceMethod yX7_digest ∈ wAll := ⟨in_at 574 (by decide +kernel) (by decide +kernel), in_at 573 (by decide +kernel) (by decide +kernel)⟩
set_option maxRecDepth 100000 in
theorem mi_X7_withRows : MI yX7_withRows cX7_withRows 7 (some .long) 1 := ⟨in_at 75 (by decide +kernel) (by decide +kernel), in_at 667 (by decide +kernel) (by decide +kernel), by decide, by decide, by decide +kernel⟩
set_option maxRecDepth 100000 in
theorem se_X7_withRows : Cond.selects yX7_withRows.cls yX7_withRows yX7_withRows ∈ wAll ∧ Cond.instanceMethod yX7_withRows ∈ wAll := ⟨in_at 3 (by decide +kernel) (by decide +kernel), in_at 666 (by decide +kernel) (by decide +kernel)⟩
set_option maxRecDepth 100000 in
theorem mi_X7_withPlaces : MI yX7_withPlaces cX7_withPlaces 7 (some .long) 1 := ⟨in_at 75 (by decide +kernel) (by decide +kernel), in_at 679 (by decide +kernel) (by decide +kernel), by decide, by decide, by decide +kernel⟩
set_option maxRecDepth 100000 in
theorem se_X7_withPlaces : Cond.selects yX7_withPlaces.cls yX7_withPlaces yX7_withPlaces ∈ wAll ∧ Cond.instanceMethod yX7_withPlaces ∈ wAll := ⟨in_at 4 (by decide +kernel) (by decide +kernel), in_at 678 (by decide +kernel) (by decide +kernel)⟩
set_option maxRecDepth 100000 in
theorem mi_X7_withReceivers : MI yX7_withReceivers cX7_withReceivers 9 (some .long) 1 := ⟨in_at 75 (by decide +kernel) (by decide +kernel), in_at 696 (by decide +kernel) (by decide +kernel), by decide, by decide, by decide +kernel⟩
set_option maxRecDepth 100000 in
theorem se_X7_withReceivers : Cond.selects yX7_withReceivers.cls yX7_withReceivers yX7_withReceivers ∈ wAll ∧ Cond.instanceMethod yX7_withReceivers ∈ wAll := ⟨in_at 5 (by decide +kernel) (by decide +kernel), in_at 695 (by decide +kernel) (by decide +kernel)⟩
set_option maxRecDepth 100000 in
theorem mi_X7_withMessages : MI yX7_withMessages cX7_withMessages 7 (some .long) 1 := ⟨in_at 75 (by decide +kernel) (by decide +kernel), in_at 726 (by decide +kernel) (by decide +kernel), by decide, by decide, by decide +kernel⟩
set_option maxRecDepth 100000 in
theorem se_X7_withMessages : Cond.selects yX7_withMessages.cls yX7_withMessages yX7_withMessages ∈ wAll ∧ Cond.instanceMethod yX7_withMessages ∈ wAll := ⟨in_at 6 (by decide +kernel) (by decide +kernel), in_at 725 (by decide +kernel) (by decide +kernel)⟩
set_option maxRecDepth 100000 in
theorem mi_X7_withText : MI yX7_withText cX7_withText 6 (some .long) 1 := ⟨in_at 75 (by decide +kernel) (by decide +kernel), in_at 742 (by decide +kernel) (by decide +kernel), by decide, by decide, by decide +kernel⟩
set_option maxRecDepth 100000 in
theorem se_X7_withText : Cond.selects yX7_withText.cls yX7_withText yX7_withText ∈ wAll ∧ Cond.instanceMethod yX7_withText ∈ wAll := ⟨in_at 7 (by decide +kernel) (by decide +kernel), in_at 741 (by decide +kernel) (by decide +kernel)⟩
set_option maxRecDepth 100000 in
theorem mi_X7_mixed : MI yX7_mixed cX7_mixed 4 (some .long) 2 := ⟨in_at 75 (by decide +kernel) (by decide +kernel), in_at 662 (by decide +kernel) (by decide +kernel), by decide, by decide, by decide +kernel⟩
set_option maxRecDepth 100000 in
theorem ss_X7_mixed : Cond.static yX7_mixed ∈ wAll := in_at 661 (by decide +kernel) (by decide +kernel)
set_option maxRecDepth 100000 in
theorem mi_X7_bitsOf : MI yX7_bitsOf cX7_bitsOf 9 (some .long) 3 := ⟨in_at 75 (by decide +kernel) (by decide +kernel), in_at 736 (by decide +kernel) (by decide +kernel), by decide, by decide, by decide +kernel⟩
set_option maxRecDepth 100000 in
theorem ss_X7_bitsOf : Cond.static yX7_bitsOf ∈ wAll := in_at 735 (by decide +kernel) (by decide +kernel)
set_option maxRecDepth 100000 in
theorem mi_X7_isBelow : MI yX7_isBelow cX7_isBelow 2 (some .boolean) 2 := ⟨in_at 75 (by decide +kernel) (by decide +kernel), in_at 583 (by decide +kernel) (by decide +kernel), by decide, by decide, by decide +kernel⟩
set_option maxRecDepth 100000 in
theorem ss_X7_isBelow : Cond.static yX7_isBelow ∈ wAll := in_at 582 (by decide +kernel) (by decide +kernel)
set_option maxRecDepth 100000 in
theorem mi_X7_isTicks : MI yX7_isTicks cX7_isTicks 1 (some .boolean) 1 := ⟨in_at 75 (by decide +kernel) (by decide +kernel), in_at 866 (by decide +kernel) (by decide +kernel), by decide, by decide, by decide +kernel⟩
set_option maxRecDepth 100000 in
theorem ss_X7_isTicks : Cond.static yX7_isTicks ∈ wAll := in_at 865 (by decide +kernel) (by decide +kernel)
set_option maxRecDepth 100000 in
theorem mi_X7_isSettingValue : MI yX7_isSettingValue cX7_isSettingValue 2 (some .boolean) 2 := ⟨in_at 75 (by decide +kernel) (by decide +kernel), in_at 887 (by decide +kernel) (by decide +kernel), by decide, by decide, by decide +kernel⟩
set_option maxRecDepth 100000 in
theorem ss_X7_isSettingValue : Cond.static yX7_isSettingValue ∈ wAll := in_at 886 (by decide +kernel) (by decide +kernel)
set_option maxRecDepth 100000 in
theorem mi_X7_save : MI yX7_save cX7_save 3 none 0 := ⟨in_at 75 (by decide +kernel) (by decide +kernel), in_at 401 (by decide +kernel) (by decide +kernel), by decide, by decide, by decide +kernel⟩
set_option maxRecDepth 100000 in
theorem se_X7_save : Cond.selects yX7_save.cls yX7_save yX7_save ∈ wAll ∧ Cond.instanceMethod yX7_save ∈ wAll := ⟨in_at 0 (by decide +kernel) (by decide +kernel), in_at 400 (by decide +kernel) (by decide +kernel)⟩
set_option maxRecDepth 100000 in
theorem mi_X7_freshTrial : MI yX7_freshTrial cX7_freshTrial 1 (some (.object "OutboxRelay$State")) 0 := ⟨in_at 75 (by decide +kernel) (by decide +kernel), in_at 491 (by decide +kernel) (by decide +kernel), by decide, by decide, by decide +kernel⟩
set_option maxRecDepth 100000 in
theorem se_X7_freshTrial : Cond.selects yX7_freshTrial.cls yX7_freshTrial yX7_freshTrial ∈ wAll ∧ Cond.instanceMethod yX7_freshTrial ∈ wAll := ⟨in_at 1 (by decide +kernel) (by decide +kernel), in_at 490 (by decide +kernel) (by decide +kernel)⟩
set_option maxRecDepth 100000 in
theorem mi_X7_doOrder : MI yX7_doOrder cX7_doOrder 3 (some .boolean) 1 := ⟨in_at 75 (by decide +kernel) (by decide +kernel), in_at 927 (by decide +kernel) (by decide +kernel), by decide, by decide, by decide +kernel⟩
set_option maxRecDepth 100000 in
theorem se_X7_doOrder : Cond.selects yX7_doOrder.cls yX7_doOrder yX7_doOrder ∈ wAll ∧ Cond.instanceMethod yX7_doOrder ∈ wAll := ⟨in_at 8 (by decide +kernel) (by decide +kernel), in_at 926 (by decide +kernel) (by decide +kernel)⟩
set_option maxRecDepth 100000 in
theorem mi_X8_init : MI yX8_init cX8_init 2 none 0 := ⟨in_at 83 (by decide +kernel) (by decide +kernel), in_at 1015 (by decide +kernel) (by decide +kernel), by decide, by decide, by decide +kernel⟩
set_option maxRecDepth 100000 in
theorem si_X8_init : Cond.instanceMethod yX8_init ∈ wAll := in_at 1014 (by decide +kernel) (by decide +kernel)
set_option maxRecDepth 100000 in
theorem mi_X8_thrown : MI yX8_thrown cX8_thrown 1 (some .int) 0 := ⟨in_at 83 (by decide +kernel) (by decide +kernel), in_at 1061 (by decide +kernel) (by decide +kernel), by decide, by decide, by decide +kernel⟩
set_option maxRecDepth 100000 in
theorem se_X8_thrown : Cond.selects yX8_thrown.cls yX8_thrown yX8_thrown ∈ wAll ∧ Cond.instanceMethod yX8_thrown ∈ wAll := ⟨in_at 1060 (by decide +kernel) (by decide +kernel), in_at 1059 (by decide +kernel) (by decide +kernel)⟩
set_option maxRecDepth 100000 in
theorem mi_X8_fails : MI yX8_fails cX8_fails 2 (some .int) 1 := ⟨in_at 83 (by decide +kernel) (by decide +kernel), in_at 1069 (by decide +kernel) (by decide +kernel), by decide, by decide, by decide +kernel⟩
set_option maxRecDepth 100000 in
theorem se_X8_fails : Cond.selects yX8_fails.cls yX8_fails yX8_fails ∈ wAll ∧ Cond.instanceMethod yX8_fails ∈ wAll := ⟨in_at 10 (by decide +kernel) (by decide +kernel), in_at 1068 (by decide +kernel) (by decide +kernel)⟩
set_option maxRecDepth 100000 in
theorem mi_X8_in : MI yX8_in cX8_in 3 (some .boolean) 3 := ⟨in_at 83 (by decide +kernel) (by decide +kernel), in_at 1108 (by decide +kernel) (by decide +kernel), by decide, by decide, by decide +kernel⟩
set_option maxRecDepth 100000 in
theorem ss_X8_in : Cond.static yX8_in ∈ wAll := in_at 1107 (by decide +kernel) (by decide +kernel)
set_option maxRecDepth 100000 in
theorem mi_X8_of : MI yX8_of cX8_of 3 (some .int) 2 := ⟨in_at 83 (by decide +kernel) (by decide +kernel), in_at 1140 (by decide +kernel) (by decide +kernel), by decide, by decide, by decide +kernel⟩
set_option maxRecDepth 100000 in
theorem se_X8_of : Cond.selects yX8_of.cls yX8_of yX8_of ∈ wAll ∧ Cond.instanceMethod yX8_of ∈ wAll := ⟨in_at 20 (by decide +kernel) (by decide +kernel), in_at 1139 (by decide +kernel) (by decide +kernel)⟩
set_option maxRecDepth 100000 in
theorem mi_X8_lay : MI yX8_lay cX8_lay 4 none 3 := ⟨in_at 83 (by decide +kernel) (by decide +kernel), in_at 1020 (by decide +kernel) (by decide +kernel), by decide, by decide, by decide +kernel⟩
set_option maxRecDepth 100000 in
theorem se_X8_lay : Cond.selects yX8_lay.cls yX8_lay yX8_lay ∈ wAll ∧ Cond.instanceMethod yX8_lay ∈ wAll := ⟨in_at 9 (by decide +kernel) (by decide +kernel), in_at 1019 (by decide +kernel) (by decide +kernel)⟩
set_option maxRecDepth 100000 in
theorem mi_X8_its : MI yX8_its cX8_its 3 (some .int) 2 := ⟨in_at 83 (by decide +kernel) (by decide +kernel), in_at 1093 (by decide +kernel) (by decide +kernel), by decide, by decide, by decide +kernel⟩
set_option maxRecDepth 100000 in
theorem se_X8_its : Cond.selects yX8_its.cls yX8_its yX8_its ∈ wAll ∧ Cond.instanceMethod yX8_its ∈ wAll := ⟨in_at 13 (by decide +kernel) (by decide +kernel), in_at 1092 (by decide +kernel) (by decide +kernel)⟩
set_option maxRecDepth 100000 in
theorem mi_X8_isOpen : MI yX8_isOpen cX8_isOpen 2 (some .boolean) 1 := ⟨in_at 83 (by decide +kernel) (by decide +kernel), in_at 1105 (by decide +kernel) (by decide +kernel), by decide, by decide, by decide +kernel⟩
set_option maxRecDepth 100000 in
theorem se_X8_isOpen : Cond.selects yX8_isOpen.cls yX8_isOpen yX8_isOpen ∈ wAll ∧ Cond.instanceMethod yX8_isOpen ∈ wAll := ⟨in_at 15 (by decide +kernel) (by decide +kernel), in_at 1104 (by decide +kernel) (by decide +kernel)⟩
set_option maxRecDepth 100000 in
theorem mi_X8_topicOf : MI yX8_topicOf cX8_topicOf 2 (some .int) 1 := ⟨in_at 83 (by decide +kernel) (by decide +kernel), in_at 1228 (by decide +kernel) (by decide +kernel), by decide, by decide, by decide +kernel⟩
set_option maxRecDepth 100000 in
theorem se_X8_topicOf : Cond.selects yX8_topicOf.cls yX8_topicOf yX8_topicOf ∈ wAll ∧ Cond.instanceMethod yX8_topicOf ∈ wAll := ⟨in_at 41 (by decide +kernel) (by decide +kernel), in_at 1227 (by decide +kernel) (by decide +kernel)⟩
set_option maxRecDepth 100000 in
theorem mi_X8_valueOf : MI yX8_valueOf cX8_valueOf 2 (some .int) 1 := ⟨in_at 83 (by decide +kernel) (by decide +kernel), in_at 1192 (by decide +kernel) (by decide +kernel), by decide, by decide, by decide +kernel⟩
set_option maxRecDepth 100000 in
theorem se_X8_valueOf : Cond.selects yX8_valueOf.cls yX8_valueOf yX8_valueOf ∈ wAll ∧ Cond.instanceMethod yX8_valueOf ∈ wAll := ⟨in_at 32 (by decide +kernel) (by decide +kernel), in_at 1191 (by decide +kernel) (by decide +kernel)⟩
set_option maxRecDepth 100000 in
theorem mi_X8_writeOf : MI yX8_writeOf cX8_writeOf 2 (some .int) 1 := ⟨in_at 83 (by decide +kernel) (by decide +kernel), in_at 1180 (by decide +kernel) (by decide +kernel), by decide, by decide, by decide +kernel⟩
set_option maxRecDepth 100000 in
theorem se_X8_writeOf : Cond.selects yX8_writeOf.cls yX8_writeOf yX8_writeOf ∈ wAll ∧ Cond.instanceMethod yX8_writeOf ∈ wAll := ⟨in_at 29 (by decide +kernel) (by decide +kernel), in_at 1179 (by decide +kernel) (by decide +kernel)⟩
set_option maxRecDepth 100000 in
theorem mi_X8_hasMark : MI yX8_hasMark cX8_hasMark 3 (some .boolean) 2 := ⟨in_at 83 (by decide +kernel) (by decide +kernel), in_at 1196 (by decide +kernel) (by decide +kernel), by decide, by decide, by decide +kernel⟩
set_option maxRecDepth 100000 in
theorem se_X8_hasMark : Cond.selects yX8_hasMark.cls yX8_hasMark yX8_hasMark ∈ wAll ∧ Cond.instanceMethod yX8_hasMark ∈ wAll := ⟨in_at 33 (by decide +kernel) (by decide +kernel), in_at 1195 (by decide +kernel) (by decide +kernel)⟩
set_option maxRecDepth 100000 in
theorem mi_X8_mark : MI yX8_mark cX8_mark 3 none 2 := ⟨in_at 83 (by decide +kernel) (by decide +kernel), in_at 1200 (by decide +kernel) (by decide +kernel), by decide, by decide, by decide +kernel⟩
set_option maxRecDepth 100000 in
theorem se_X8_mark : Cond.selects yX8_mark.cls yX8_mark yX8_mark ∈ wAll ∧ Cond.instanceMethod yX8_mark ∈ wAll := ⟨in_at 34 (by decide +kernel) (by decide +kernel), in_at 1199 (by decide +kernel) (by decide +kernel)⟩
set_option maxRecDepth 100000 in
theorem mi_X8_numberOf : MI yX8_numberOf cX8_numberOf 2 (some .int) 1 := ⟨in_at 83 (by decide +kernel) (by decide +kernel), in_at 1176 (by decide +kernel) (by decide +kernel), by decide, by decide, by decide +kernel⟩
set_option maxRecDepth 100000 in
theorem se_X8_numberOf : Cond.selects yX8_numberOf.cls yX8_numberOf yX8_numberOf ∈ wAll ∧ Cond.instanceMethod yX8_numberOf ∈ wAll := ⟨in_at 28 (by decide +kernel) (by decide +kernel), in_at 1175 (by decide +kernel) (by decide +kernel)⟩
set_option maxRecDepth 100000 in
theorem mi_X8_next : MI yX8_next cX8_next 5 (some .int) 1 := ⟨in_at 83 (by decide +kernel) (by decide +kernel), in_at 1224 (by decide +kernel) (by decide +kernel), by decide, by decide, by decide +kernel⟩
set_option maxRecDepth 100000 in
theorem se_X8_next : Cond.selects yX8_next.cls yX8_next yX8_next ∈ wAll ∧ Cond.instanceMethod yX8_next ∈ wAll := ⟨in_at 40 (by decide +kernel) (by decide +kernel), in_at 1223 (by decide +kernel) (by decide +kernel)⟩
set_option maxRecDepth 100000 in
theorem mi_X8_keptRows : MI yX8_keptRows cX8_keptRows 1 (some .int) 0 := ⟨in_at 83 (by decide +kernel) (by decide +kernel), in_at 1120 (by decide +kernel) (by decide +kernel), by decide, by decide, by decide +kernel⟩
set_option maxRecDepth 100000 in
theorem se_X8_keptRows : Cond.selects yX8_keptRows.cls yX8_keptRows yX8_keptRows ∈ wAll ∧ Cond.instanceMethod yX8_keptRows ∈ wAll := ⟨in_at 17 (by decide +kernel) (by decide +kernel), in_at 1119 (by decide +kernel) (by decide +kernel)⟩
set_option maxRecDepth 100000 in
theorem mi_X8_wants : MI yX8_wants cX8_wants 3 (some .boolean) 2 := ⟨in_at 83 (by decide +kernel) (by decide +kernel), in_at 1232 (by decide +kernel) (by decide +kernel), by decide, by decide, by decide +kernel⟩
set_option maxRecDepth 100000 in
theorem se_X8_wants : Cond.selects yX8_wants.cls yX8_wants yX8_wants ∈ wAll ∧ Cond.instanceMethod yX8_wants ∈ wAll := ⟨in_at 42 (by decide +kernel) (by decide +kernel), in_at 1231 (by decide +kernel) (by decide +kernel)⟩
set_option maxRecDepth 100000 in
theorem mi_X8_isAnswered : MI yX8_isAnswered cX8_isAnswered 3 (some .boolean) 2 := ⟨in_at 83 (by decide +kernel) (by decide +kernel), in_at 1256 (by decide +kernel) (by decide +kernel), by decide, by decide, by decide +kernel⟩
set_option maxRecDepth 100000 in
theorem se_X8_isAnswered : Cond.selects yX8_isAnswered.cls yX8_isAnswered yX8_isAnswered ∈ wAll ∧ Cond.instanceMethod yX8_isAnswered ∈ wAll := ⟨in_at 46 (by decide +kernel) (by decide +kernel), in_at 1255 (by decide +kernel) (by decide +kernel)⟩
set_option maxRecDepth 100000 in
theorem mi_X8_answeredBy : MI yX8_answeredBy cX8_answeredBy 4 (some .int) 1 := ⟨in_at 83 (by decide +kernel) (by decide +kernel), in_at 1252 (by decide +kernel) (by decide +kernel), by decide, by decide, by decide +kernel⟩
set_option maxRecDepth 100000 in
theorem se_X8_answeredBy : Cond.selects yX8_answeredBy.cls yX8_answeredBy yX8_answeredBy ∈ wAll ∧ Cond.instanceMethod yX8_answeredBy ∈ wAll := ⟨in_at 45 (by decide +kernel) (by decide +kernel), in_at 1251 (by decide +kernel) (by decide +kernel)⟩
set_option maxRecDepth 100000 in
theorem mi_X8_rowsFor : MI yX8_rowsFor cX8_rowsFor 4 (some .int) 1 := ⟨in_at 83 (by decide +kernel) (by decide +kernel), in_at 1345 (by decide +kernel) (by decide +kernel), by decide, by decide, by decide +kernel⟩
set_option maxRecDepth 100000 in
theorem se_X8_rowsFor : Cond.selects yX8_rowsFor.cls yX8_rowsFor yX8_rowsFor ∈ wAll ∧ Cond.instanceMethod yX8_rowsFor ∈ wAll := ⟨in_at 58 (by decide +kernel) (by decide +kernel), in_at 1344 (by decide +kernel) (by decide +kernel)⟩
set_option maxRecDepth 100000 in
theorem mi_X8_save : MI yX8_save cX8_save 2 none 0 := ⟨in_at 83 (by decide +kernel) (by decide +kernel), in_at 1081 (by decide +kernel) (by decide +kernel), by decide, by decide, by decide +kernel⟩
set_option maxRecDepth 100000 in
theorem se_X8_save : Cond.selects yX8_save.cls yX8_save yX8_save ∈ wAll ∧ Cond.instanceMethod yX8_save ∈ wAll := ⟨in_at 11 (by decide +kernel) (by decide +kernel), in_at 1080 (by decide +kernel) (by decide +kernel)⟩
set_option maxRecDepth 100000 in
theorem mi_X8_undo : MI yX8_undo cX8_undo 2 (some .int) 0 := ⟨in_at 83 (by decide +kernel) (by decide +kernel), in_at 1065 (by decide +kernel) (by decide +kernel), by decide, by decide, by decide +kernel⟩
set_option maxRecDepth 100000 in
theorem se_X8_undo : Cond.selects yX8_undo.cls yX8_undo yX8_undo ∈ wAll ∧ Cond.instanceMethod yX8_undo ∈ wAll := ⟨in_at 1064 (by decide +kernel) (by decide +kernel), in_at 1063 (by decide +kernel) (by decide +kernel)⟩
set_option maxRecDepth 100000 in
theorem mi_X8_keep : MI yX8_keep cX8_keep 2 (some .int) 0 := ⟨in_at 83 (by decide +kernel) (by decide +kernel), in_at 1073 (by decide +kernel) (by decide +kernel), by decide, by decide, by decide +kernel⟩
set_option maxRecDepth 100000 in
theorem se_X8_keep : Cond.selects yX8_keep.cls yX8_keep yX8_keep ∈ wAll ∧ Cond.instanceMethod yX8_keep ∈ wAll := ⟨in_at 1072 (by decide +kernel) (by decide +kernel), in_at 1071 (by decide +kernel) (by decide +kernel)⟩
set_option maxRecDepth 100000 in
theorem mi_X8_goBack : MI yX8_goBack cX8_goBack 2 (some .int) 0 := ⟨in_at 83 (by decide +kernel) (by decide +kernel), in_at 1077 (by decide +kernel) (by decide +kernel), by decide, by decide, by decide +kernel⟩
set_option maxRecDepth 100000 in
theorem se_X8_goBack : Cond.selects yX8_goBack.cls yX8_goBack yX8_goBack ∈ wAll ∧ Cond.instanceMethod yX8_goBack ∈ wAll := ⟨in_at 1076 (by decide +kernel) (by decide +kernel), in_at 1075 (by decide +kernel) (by decide +kernel)⟩
set_option maxRecDepth 100000 in
theorem mi_X8_layAside : MI yX8_layAside cX8_layAside 2 none 0 := ⟨in_at 83 (by decide +kernel) (by decide +kernel), in_at 1381 (by decide +kernel) (by decide +kernel), by decide, by decide, by decide +kernel⟩
set_option maxRecDepth 100000 in
theorem se_X8_layAside : Cond.selects yX8_layAside.cls yX8_layAside yX8_layAside ∈ wAll ∧ Cond.instanceMethod yX8_layAside ∈ wAll := ⟨in_at 63 (by decide +kernel) (by decide +kernel), in_at 1380 (by decide +kernel) (by decide +kernel)⟩
set_option maxRecDepth 100000 in
theorem mi_X8_putBack : MI yX8_putBack cX8_putBack 2 none 0 := ⟨in_at 83 (by decide +kernel) (by decide +kernel), in_at 1389 (by decide +kernel) (by decide +kernel), by decide, by decide, by decide +kernel⟩
set_option maxRecDepth 100000 in
theorem se_X8_putBack : Cond.selects yX8_putBack.cls yX8_putBack yX8_putBack ∈ wAll ∧ Cond.instanceMethod yX8_putBack ∈ wAll := ⟨in_at 65 (by decide +kernel) (by decide +kernel), in_at 1388 (by decide +kernel) (by decide +kernel)⟩
set_option maxRecDepth 100000 in
theorem mi_X8_freePlace : MI yX8_freePlace cX8_freePlace 2 (some .int) 0 := ⟨in_at 83 (by decide +kernel) (by decide +kernel), in_at 1089 (by decide +kernel) (by decide +kernel), by decide, by decide, by decide +kernel⟩
set_option maxRecDepth 100000 in
theorem se_X8_freePlace : Cond.selects yX8_freePlace.cls yX8_freePlace yX8_freePlace ∈ wAll ∧ Cond.instanceMethod yX8_freePlace ∈ wAll := ⟨in_at 12 (by decide +kernel) (by decide +kernel), in_at 1088 (by decide +kernel) (by decide +kernel)⟩
set_option maxRecDepth 100000 in
theorem mi_X8_begins : MI yX8_begins cX8_begins 2 (some .int) 0 := ⟨in_at 83 (by decide +kernel) (by decide +kernel), in_at 1097 (by decide +kernel) (by decide +kernel), by decide, by decide, by decide +kernel⟩
set_option maxRecDepth 100000 in
theorem se_X8_begins : Cond.selects yX8_begins.cls yX8_begins yX8_begins ∈ wAll ∧ Cond.instanceMethod yX8_begins ∈ wAll := ⟨in_at 14 (by decide +kernel) (by decide +kernel), in_at 1096 (by decide +kernel) (by decide +kernel)⟩
set_option maxRecDepth 100000 in
theorem mi_X8_writes : MI yX8_writes cX8_writes 6 (some .int) 3 := ⟨in_at 83 (by decide +kernel) (by decide +kernel), in_at 1112 (by decide +kernel) (by decide +kernel), by decide, by decide, by decide +kernel⟩
set_option maxRecDepth 100000 in
theorem se_X8_writes : Cond.selects yX8_writes.cls yX8_writes yX8_writes ∈ wAll ∧ Cond.instanceMethod yX8_writes ∈ wAll := ⟨in_at 16 (by decide +kernel) (by decide +kernel), in_at 1111 (by decide +kernel) (by decide +kernel)⟩
set_option maxRecDepth 100000 in
theorem mi_X8_commits : MI yX8_commits cX8_commits 6 (some .int) 1 := ⟨in_at 83 (by decide +kernel) (by decide +kernel), in_at 1124 (by decide +kernel) (by decide +kernel), by decide, by decide, by decide +kernel⟩
set_option maxRecDepth 100000 in
theorem se_X8_commits : Cond.selects yX8_commits.cls yX8_commits yX8_commits ∈ wAll ∧ Cond.instanceMethod yX8_commits ∈ wAll := ⟨in_at 18 (by decide +kernel) (by decide +kernel), in_at 1123 (by decide +kernel) (by decide +kernel)⟩
set_option maxRecDepth 100000 in
theorem mi_X8_drops : MI yX8_drops cX8_drops 2 (some .int) 1 := ⟨in_at 83 (by decide +kernel) (by decide +kernel), in_at 1132 (by decide +kernel) (by decide +kernel), by decide, by decide, by decide +kernel⟩
set_option maxRecDepth 100000 in
theorem se_X8_drops : Cond.selects yX8_drops.cls yX8_drops yX8_drops ∈ wAll ∧ Cond.instanceMethod yX8_drops ∈ wAll := ⟨in_at 19 (by decide +kernel) (by decide +kernel), in_at 1131 (by decide +kernel) (by decide +kernel)⟩
set_option maxRecDepth 100000 in
theorem mi_X8_sweeps : MI yX8_sweeps cX8_sweeps 5 (some .int) 0 := ⟨in_at 83 (by decide +kernel) (by decide +kernel), in_at 1248 (by decide +kernel) (by decide +kernel), by decide, by decide, by decide +kernel⟩
set_option maxRecDepth 100000 in
theorem se_X8_sweeps : Cond.selects yX8_sweeps.cls yX8_sweeps yX8_sweeps ∈ wAll ∧ Cond.instanceMethod yX8_sweeps ∈ wAll := ⟨in_at 44 (by decide +kernel) (by decide +kernel), in_at 1247 (by decide +kernel) (by decide +kernel)⟩
set_option maxRecDepth 100000 in
theorem mi_X8_way : MI yX8_way cX8_way 3 (some .int) 2 := ⟨in_at 83 (by decide +kernel) (by decide +kernel), in_at 1164 (by decide +kernel) (by decide +kernel), by decide, by decide, by decide +kernel⟩
set_option maxRecDepth 100000 in
theorem se_X8_way : Cond.selects yX8_way.cls yX8_way yX8_way ∈ wAll ∧ Cond.instanceMethod yX8_way ∈ wAll := ⟨in_at 25 (by decide +kernel) (by decide +kernel), in_at 1163 (by decide +kernel) (by decide +kernel)⟩
set_option maxRecDepth 100000 in
theorem mi_X8_rowOf : MI yX8_rowOf cX8_rowOf 3 (some .int) 2 := ⟨in_at 83 (by decide +kernel) (by decide +kernel), in_at 1172 (by decide +kernel) (by decide +kernel), by decide, by decide, by decide +kernel⟩
set_option maxRecDepth 100000 in
theorem se_X8_rowOf : Cond.selects yX8_rowOf.cls yX8_rowOf yX8_rowOf ∈ wAll ∧ Cond.instanceMethod yX8_rowOf ∈ wAll := ⟨in_at 27 (by decide +kernel) (by decide +kernel), in_at 1171 (by decide +kernel) (by decide +kernel)⟩
set_option maxRecDepth 100000 in
theorem mi_X8_takeOff : MI yX8_takeOff cX8_takeOff 3 none 1 := ⟨in_at 83 (by decide +kernel) (by decide +kernel), in_at 1204 (by decide +kernel) (by decide +kernel), by decide, by decide, by decide +kernel⟩
set_option maxRecDepth 100000 in
theorem se_X8_takeOff : Cond.selects yX8_takeOff.cls yX8_takeOff yX8_takeOff ∈ wAll ∧ Cond.instanceMethod yX8_takeOff ∈ wAll := ⟨in_at 35 (by decide +kernel) (by decide +kernel), in_at 1203 (by decide +kernel) (by decide +kernel)⟩
set_option maxRecDepth 100000 in
theorem mi_X8_sends : MI yX8_sends cX8_sends 7 none 4 := ⟨in_at 83 (by decide +kernel) (by decide +kernel), in_at 1208 (by decide +kernel) (by decide +kernel), by decide, by decide, by decide +kernel⟩
set_option maxRecDepth 100000 in
theorem se_X8_sends : Cond.selects yX8_sends.cls yX8_sends yX8_sends ∈ wAll ∧ Cond.instanceMethod yX8_sends ∈ wAll := ⟨in_at 36 (by decide +kernel) (by decide +kernel), in_at 1207 (by decide +kernel) (by decide +kernel)⟩
set_option maxRecDepth 100000 in
theorem mi_X8_remembers : MI yX8_remembers cX8_remembers 5 (some .boolean) 2 := ⟨in_at 83 (by decide +kernel) (by decide +kernel), in_at 1184 (by decide +kernel) (by decide +kernel), by decide, by decide, by decide +kernel⟩
set_option maxRecDepth 100000 in
theorem se_X8_remembers : Cond.selects yX8_remembers.cls yX8_remembers yX8_remembers ∈ wAll ∧ Cond.instanceMethod yX8_remembers ∈ wAll := ⟨in_at 30 (by decide +kernel) (by decide +kernel), in_at 1183 (by decide +kernel) (by decide +kernel)⟩
set_option maxRecDepth 100000 in
theorem mi_X8_works : MI yX8_works cX8_works 6 none 2 := ⟨in_at 83 (by decide +kernel) (by decide +kernel), in_at 1188 (by decide +kernel) (by decide +kernel), by decide, by decide, by decide +kernel⟩
set_option maxRecDepth 100000 in
theorem se_X8_works : Cond.selects yX8_works.cls yX8_works yX8_works ∈ wAll ∧ Cond.instanceMethod yX8_works ∈ wAll := ⟨in_at 31 (by decide +kernel) (by decide +kernel), in_at 1187 (by decide +kernel) (by decide +kernel)⟩
set_option maxRecDepth 100000 in
theorem mi_X8_batchComes : MI yX8_batchComes cX8_batchComes 6 none 1 := ⟨in_at 83 (by decide +kernel) (by decide +kernel), in_at 1168 (by decide +kernel) (by decide +kernel), by decide, by decide, by decide +kernel⟩
set_option maxRecDepth 100000 in
theorem se_X8_batchComes : Cond.selects yX8_batchComes.cls yX8_batchComes yX8_batchComes ∈ wAll ∧ Cond.instanceMethod yX8_batchComes ∈ wAll := ⟨in_at 26 (by decide +kernel) (by decide +kernel), in_at 1167 (by decide +kernel) (by decide +kernel)⟩
set_option maxRecDepth 100000 in
theorem mi_X8_answerComes : MI yX8_answerComes cX8_answerComes 4 none 1 := ⟨in_at 83 (by decide +kernel) (by decide +kernel), in_at 1212 (by decide +kernel) (by decide +kernel), by decide, by decide, by decide +kernel⟩
set_option maxRecDepth 100000 in
theorem se_X8_answerComes : Cond.selects yX8_answerComes.cls yX8_answerComes yX8_answerComes ∈ wAll ∧ Cond.instanceMethod yX8_answerComes ∈ wAll := ⟨in_at 37 (by decide +kernel) (by decide +kernel), in_at 1211 (by decide +kernel) (by decide +kernel)⟩
set_option maxRecDepth 100000 in
theorem mi_X8_due : MI yX8_due cX8_due 2 (some .int) 0 := ⟨in_at 83 (by decide +kernel) (by decide +kernel), in_at 1160 (by decide +kernel) (by decide +kernel), by decide, by decide, by decide +kernel⟩
set_option maxRecDepth 100000 in
theorem se_X8_due : Cond.selects yX8_due.cls yX8_due yX8_due ∈ wAll ∧ Cond.instanceMethod yX8_due ∈ wAll := ⟨in_at 24 (by decide +kernel) (by decide +kernel), in_at 1159 (by decide +kernel) (by decide +kernel)⟩
set_option maxRecDepth 100000 in
theorem mi_X8_gather : MI yX8_gather cX8_gather 4 (some .int) 1 := ⟨in_at 83 (by decide +kernel) (by decide +kernel), in_at 1220 (by decide +kernel) (by decide +kernel), by decide, by decide, by decide +kernel⟩
set_option maxRecDepth 100000 in
theorem se_X8_gather : Cond.selects yX8_gather.cls yX8_gather yX8_gather ∈ wAll ∧ Cond.instanceMethod yX8_gather ∈ wAll := ⟨in_at 39 (by decide +kernel) (by decide +kernel), in_at 1219 (by decide +kernel) (by decide +kernel)⟩
set_option maxRecDepth 100000 in
theorem mi_X8_relays : MI yX8_relays cX8_relays 5 none 1 := ⟨in_at 83 (by decide +kernel) (by decide +kernel), in_at 1216 (by decide +kernel) (by decide +kernel), by decide, by decide, by decide +kernel⟩
set_option maxRecDepth 100000 in
theorem se_X8_relays : Cond.selects yX8_relays.cls yX8_relays yX8_relays ∈ wAll ∧ Cond.instanceMethod yX8_relays ∈ wAll := ⟨in_at 38 (by decide +kernel) (by decide +kernel), in_at 1215 (by decide +kernel) (by decide +kernel)⟩
set_option maxRecDepth 100000 in
theorem mi_X8_tick : MI yX8_tick cX8_tick 3 none 0 := ⟨in_at 83 (by decide +kernel) (by decide +kernel), in_at 1156 (by decide +kernel) (by decide +kernel), by decide, by decide, by decide +kernel⟩
set_option maxRecDepth 100000 in
theorem se_X8_tick : Cond.selects yX8_tick.cls yX8_tick yX8_tick ∈ wAll ∧ Cond.instanceMethod yX8_tick ∈ wAll := ⟨in_at 23 (by decide +kernel) (by decide +kernel), in_at 1155 (by decide +kernel) (by decide +kernel)⟩
set_option maxRecDepth 100000 in
theorem mi_X8_effects : MI yX8_effects cX8_effects 1 (some .int) 0 := ⟨in_at 83 (by decide +kernel) (by decide +kernel), in_at 1152 (by decide +kernel) (by decide +kernel), by decide, by decide, by decide +kernel⟩
set_option maxRecDepth 100000 in
theorem se_X8_effects : Cond.selects yX8_effects.cls yX8_effects yX8_effects ∈ wAll ∧ Cond.instanceMethod yX8_effects ∈ wAll := ⟨in_at 22 (by decide +kernel) (by decide +kernel), in_at 1151 (by decide +kernel) (by decide +kernel)⟩
set_option maxRecDepth 100000 in
theorem mi_X8_passes : MI yX8_passes cX8_passes 4 (some .int) 1 := ⟨in_at 83 (by decide +kernel) (by decide +kernel), in_at 1148 (by decide +kernel) (by decide +kernel), by decide, by decide, by decide +kernel⟩
set_option maxRecDepth 100000 in
theorem se_X8_passes : Cond.selects yX8_passes.cls yX8_passes yX8_passes ∈ wAll ∧ Cond.instanceMethod yX8_passes ∈ wAll := ⟨in_at 21 (by decide +kernel) (by decide +kernel), in_at 1147 (by decide +kernel) (by decide +kernel)⟩
set_option maxRecDepth 100000 in
theorem mi_X8_begin : MI yX8_begin cX8_begin 1 (some .int) 0 := ⟨in_at 83 (by decide +kernel) (by decide +kernel), in_at 1085 (by decide +kernel) (by decide +kernel), by decide, by decide, by decide +kernel⟩
set_option maxRecDepth 100000 in
theorem se_X8_begin : Cond.selects yX8_begin.cls yX8_begin yX8_begin ∈ wAll ∧ Cond.instanceMethod yX8_begin ∈ wAll := ⟨in_at 1084 (by decide +kernel) (by decide +kernel), in_at 1083 (by decide +kernel) (by decide +kernel)⟩
set_option maxRecDepth 100000 in
theorem mi_X8_write : MI yX8_write cX8_write 4 (some .int) 3 := ⟨in_at 83 (by decide +kernel) (by decide +kernel), in_at 1101 (by decide +kernel) (by decide +kernel), by decide, by decide, by decide +kernel⟩
set_option maxRecDepth 100000 in
theorem se_X8_write : Cond.selects yX8_write.cls yX8_write yX8_write ∈ wAll ∧ Cond.instanceMethod yX8_write ∈ wAll := ⟨in_at 1100 (by decide +kernel) (by decide +kernel), in_at 1099 (by decide +kernel) (by decide +kernel)⟩
set_option maxRecDepth 100000 in
theorem mi_X8_commit : MI yX8_commit cX8_commit 2 (some .int) 1 := ⟨in_at 83 (by decide +kernel) (by decide +kernel), in_at 1116 (by decide +kernel) (by decide +kernel), by decide, by decide, by decide +kernel⟩
set_option maxRecDepth 100000 in
theorem se_X8_commit : Cond.selects yX8_commit.cls yX8_commit yX8_commit ∈ wAll ∧ Cond.instanceMethod yX8_commit ∈ wAll := ⟨in_at 1115 (by decide +kernel) (by decide +kernel), in_at 1114 (by decide +kernel) (by decide +kernel)⟩
set_option maxRecDepth 100000 in
theorem mi_X8_drop : MI yX8_drop cX8_drop 2 (some .int) 1 := ⟨in_at 83 (by decide +kernel) (by decide +kernel), in_at 1128 (by decide +kernel) (by decide +kernel), by decide, by decide, by decide +kernel⟩
set_option maxRecDepth 100000 in
theorem se_X8_drop : Cond.selects yX8_drop.cls yX8_drop yX8_drop ∈ wAll ∧ Cond.instanceMethod yX8_drop ∈ wAll := ⟨in_at 1127 (by decide +kernel) (by decide +kernel), in_at 1126 (by decide +kernel) (by decide +kernel)⟩
set_option maxRecDepth 100000 in
theorem mi_X8_want : MI yX8_want cX8_want 4 (some .int) 2 := ⟨in_at 83 (by decide +kernel) (by decide +kernel), in_at 1136 (by decide +kernel) (by decide +kernel), by decide, by decide, by decide +kernel⟩
set_option maxRecDepth 100000 in
theorem se_X8_want : Cond.selects yX8_want.cls yX8_want yX8_want ∈ wAll ∧ Cond.instanceMethod yX8_want ∈ wAll := ⟨in_at 1135 (by decide +kernel) (by decide +kernel), in_at 1134 (by decide +kernel) (by decide +kernel)⟩
set_option maxRecDepth 100000 in
theorem mi_X8_pass : MI yX8_pass cX8_pass 2 (some .int) 1 := ⟨in_at 83 (by decide +kernel) (by decide +kernel), in_at 1144 (by decide +kernel) (by decide +kernel), by decide, by decide, by decide +kernel⟩
set_option maxRecDepth 100000 in
theorem se_X8_pass : Cond.selects yX8_pass.cls yX8_pass yX8_pass ∈ wAll ∧ Cond.instanceMethod yX8_pass ∈ wAll := ⟨in_at 1143 (by decide +kernel) (by decide +kernel), in_at 1142 (by decide +kernel) (by decide +kernel)⟩
set_option maxRecDepth 100000 in
theorem mi_X8_ranked : MI yX8_ranked cX8_ranked 5 (some .int) 1 := ⟨in_at 83 (by decide +kernel) (by decide +kernel), in_at 1240 (by decide +kernel) (by decide +kernel), by decide, by decide, by decide +kernel⟩
set_option maxRecDepth 100000 in
theorem se_X8_ranked : Cond.selects yX8_ranked.cls yX8_ranked yX8_ranked ∈ wAll ∧ Cond.instanceMethod yX8_ranked ∈ wAll := ⟨in_at 43 (by decide +kernel) (by decide +kernel), in_at 1239 (by decide +kernel) (by decide +kernel)⟩
set_option maxRecDepth 100000 in
theorem mi_X8_lose : MI yX8_lose cX8_lose 1 (some .int) 0 := ⟨in_at 83 (by decide +kernel) (by decide +kernel), in_at 1236 (by decide +kernel) (by decide +kernel), by decide, by decide, by decide +kernel⟩
set_option maxRecDepth 100000 in
theorem se_X8_lose : Cond.selects yX8_lose.cls yX8_lose yX8_lose ∈ wAll ∧ Cond.instanceMethod yX8_lose ∈ wAll := ⟨in_at 1235 (by decide +kernel) (by decide +kernel), in_at 1234 (by decide +kernel) (by decide +kernel)⟩
set_option maxRecDepth 100000 in
theorem mi_X8_sweep : MI yX8_sweep cX8_sweep 1 (some .int) 0 := ⟨in_at 83 (by decide +kernel) (by decide +kernel), in_at 1244 (by decide +kernel) (by decide +kernel), by decide, by decide, by decide +kernel⟩
set_option maxRecDepth 100000 in
theorem se_X8_sweep : Cond.selects yX8_sweep.cls yX8_sweep yX8_sweep ∈ wAll ∧ Cond.instanceMethod yX8_sweep ∈ wAll := ⟨in_at 1243 (by decide +kernel) (by decide +kernel), in_at 1242 (by decide +kernel) (by decide +kernel)⟩
set_option maxRecDepth 100000 in
theorem mi_X8_leastOf : MI yX8_leastOf cX8_leastOf 1 (some .int) 1 := ⟨in_at 83 (by decide +kernel) (by decide +kernel), in_at 1263 (by decide +kernel) (by decide +kernel), by decide, by decide, by decide +kernel⟩
set_option maxRecDepth 100000 in
theorem ss_X8_leastOf : Cond.static yX8_leastOf ∈ wAll := in_at 1262 (by decide +kernel) (by decide +kernel)
set_option maxRecDepth 100000 in
theorem mi_X8_mostOf : MI yX8_mostOf cX8_mostOf 1 (some .int) 1 := ⟨in_at 83 (by decide +kernel) (by decide +kernel), in_at 1266 (by decide +kernel) (by decide +kernel), by decide, by decide, by decide +kernel⟩
set_option maxRecDepth 100000 in
theorem ss_X8_mostOf : Cond.static yX8_mostOf ∈ wAll := in_at 1265 (by decide +kernel) (by decide +kernel)
set_option maxRecDepth 100000 in
theorem mi_X8_set : MI yX8_set cX8_set 4 (some .int) 2 := ⟨in_at 83 (by decide +kernel) (by decide +kernel), in_at 1260 (by decide +kernel) (by decide +kernel), by decide, by decide, by decide +kernel⟩
set_option maxRecDepth 100000 in
theorem se_X8_set : Cond.selects yX8_set.cls yX8_set yX8_set ∈ wAll ∧ Cond.instanceMethod yX8_set ∈ wAll := ⟨in_at 1259 (by decide +kernel) (by decide +kernel), in_at 1258 (by decide +kernel) (by decide +kernel)⟩
set_option maxRecDepth 100000 in
theorem mi_X8_append : MI yX8_append cX8_append 2 (some .int) 1 := ⟨in_at 83 (by decide +kernel) (by decide +kernel), in_at 1270 (by decide +kernel) (by decide +kernel), by decide, by decide, by decide +kernel⟩
set_option maxRecDepth 100000 in
theorem se_X8_append : Cond.selects yX8_append.cls yX8_append yX8_append ∈ wAll ∧ Cond.instanceMethod yX8_append ∈ wAll := ⟨in_at 1269 (by decide +kernel) (by decide +kernel), in_at 1268 (by decide +kernel) (by decide +kernel)⟩
set_option maxRecDepth 100000 in
theorem mi_X8_clearBuffer : MI yX8_clearBuffer cX8_clearBuffer 2 (some .int) 0 := ⟨in_at 83 (by decide +kernel) (by decide +kernel), in_at 1274 (by decide +kernel) (by decide +kernel), by decide, by decide, by decide +kernel⟩
set_option maxRecDepth 100000 in
theorem se_X8_clearBuffer : Cond.selects yX8_clearBuffer.cls yX8_clearBuffer yX8_clearBuffer ∈ wAll ∧ Cond.instanceMethod yX8_clearBuffer ∈ wAll := ⟨in_at 1273 (by decide +kernel) (by decide +kernel), in_at 1272 (by decide +kernel) (by decide +kernel)⟩
set_option maxRecDepth 100000 in
theorem mi_X8_sees : MI yX8_sees cX8_sees 3 (some .boolean) 2 := ⟨in_at 83 (by decide +kernel) (by decide +kernel), in_at 1301 (by decide +kernel) (by decide +kernel), by decide, by decide, by decide +kernel⟩
set_option maxRecDepth 100000 in
theorem se_X8_sees : Cond.selects yX8_sees.cls yX8_sees yX8_sees ∈ wAll ∧ Cond.instanceMethod yX8_sees ∈ wAll := ⟨in_at 51 (by decide +kernel) (by decide +kernel), in_at 1300 (by decide +kernel) (by decide +kernel)⟩
set_option maxRecDepth 100000 in
theorem mi_X8_takes : MI yX8_takes cX8_takes 3 (some .boolean) 1 := ⟨in_at 83 (by decide +kernel) (by decide +kernel), in_at 1305 (by decide +kernel) (by decide +kernel), by decide, by decide, by decide +kernel⟩
set_option maxRecDepth 100000 in
theorem se_X8_takes : Cond.selects yX8_takes.cls yX8_takes yX8_takes ∈ wAll ∧ Cond.instanceMethod yX8_takes ∈ wAll := ⟨in_at 52 (by decide +kernel) (by decide +kernel), in_at 1304 (by decide +kernel) (by decide +kernel)⟩
set_option maxRecDepth 100000 in
theorem mi_X8_digit : MI yX8_digit cX8_digit 4 (some .boolean) 3 := ⟨in_at 83 (by decide +kernel) (by decide +kernel), in_at 1297 (by decide +kernel) (by decide +kernel), by decide, by decide, by decide +kernel⟩
set_option maxRecDepth 100000 in
theorem se_X8_digit : Cond.selects yX8_digit.cls yX8_digit yX8_digit ∈ wAll ∧ Cond.instanceMethod yX8_digit ∈ wAll := ⟨in_at 50 (by decide +kernel) (by decide +kernel), in_at 1296 (by decide +kernel) (by decide +kernel)⟩
set_option maxRecDepth 100000 in
theorem mi_X8_number : MI yX8_number cX8_number 3 (some .boolean) 2 := ⟨in_at 83 (by decide +kernel) (by decide +kernel), in_at 1309 (by decide +kernel) (by decide +kernel), by decide, by decide, by decide +kernel⟩
set_option maxRecDepth 100000 in
theorem se_X8_number : Cond.selects yX8_number.cls yX8_number yX8_number ∈ wAll ∧ Cond.instanceMethod yX8_number ∈ wAll := ⟨in_at 53 (by decide +kernel) (by decide +kernel), in_at 1308 (by decide +kernel) (by decide +kernel)⟩
set_option maxRecDepth 100000 in
theorem mi_X8_reads : MI yX8_reads cX8_reads 2 (some .boolean) 1 := ⟨in_at 83 (by decide +kernel) (by decide +kernel), in_at 1293 (by decide +kernel) (by decide +kernel), by decide, by decide, by decide +kernel⟩
set_option maxRecDepth 100000 in
theorem se_X8_reads : Cond.selects yX8_reads.cls yX8_reads yX8_reads ∈ wAll ∧ Cond.instanceMethod yX8_reads ∈ wAll := ⟨in_at 49 (by decide +kernel) (by decide +kernel), in_at 1292 (by decide +kernel) (by decide +kernel)⟩
set_option maxRecDepth 100000 in
theorem mi_X8_isKind : MI yX8_isKind cX8_isKind 1 (some .boolean) 1 := ⟨in_at 83 (by decide +kernel) (by decide +kernel), in_at 1289 (by decide +kernel) (by decide +kernel), by decide, by decide, by decide +kernel⟩
set_option maxRecDepth 100000 in
theorem ss_X8_isKind : Cond.static yX8_isKind ∈ wAll := in_at 1288 (by decide +kernel) (by decide +kernel)
set_option maxRecDepth 100000 in
theorem mi_X8_order : MI yX8_order cX8_order 2 (some .int) 0 := ⟨in_at 83 (by decide +kernel) (by decide +kernel), in_at 1286 (by decide +kernel) (by decide +kernel), by decide, by decide, by decide +kernel⟩
set_option maxRecDepth 100000 in
theorem se_X8_order : Cond.selects yX8_order.cls yX8_order yX8_order ∈ wAll ∧ Cond.instanceMethod yX8_order ∈ wAll := ⟨in_at 48 (by decide +kernel) (by decide +kernel), in_at 1285 (by decide +kernel) (by decide +kernel)⟩
set_option maxRecDepth 100000 in
theorem mi_X8_isWell : MI yX8_isWell cX8_isWell 2 (some .boolean) 0 := ⟨in_at 83 (by decide +kernel) (by decide +kernel), in_at 1282 (by decide +kernel) (by decide +kernel), by decide, by decide, by decide +kernel⟩
set_option maxRecDepth 100000 in
theorem se_X8_isWell : Cond.selects yX8_isWell.cls yX8_isWell yX8_isWell ∈ wAll ∧ Cond.instanceMethod yX8_isWell ∈ wAll := ⟨in_at 47 (by decide +kernel) (by decide +kernel), in_at 1281 (by decide +kernel) (by decide +kernel)⟩
set_option maxRecDepth 100000 in
theorem mi_X8_firstError : MI yX8_firstError cX8_firstError 1 (some .int) 0 := ⟨in_at 83 (by decide +kernel) (by decide +kernel), in_at 1278 (by decide +kernel) (by decide +kernel), by decide, by decide, by decide +kernel⟩
set_option maxRecDepth 100000 in
theorem se_X8_firstError : Cond.selects yX8_firstError.cls yX8_firstError yX8_firstError ∈ wAll ∧ Cond.instanceMethod yX8_firstError ∈ wAll := ⟨in_at 1277 (by decide +kernel) (by decide +kernel), in_at 1276 (by decide +kernel) (by decide +kernel)⟩
set_option maxRecDepth 100000 in
theorem mi_X8_does : MI yX8_does cX8_does 2 (some .int) 1 := ⟨in_at 83 (by decide +kernel) (by decide +kernel), in_at 1317 (by decide +kernel) (by decide +kernel), by decide, by decide, by decide +kernel⟩
set_option maxRecDepth 100000 in
theorem se_X8_does : Cond.selects yX8_does.cls yX8_does yX8_does ∈ wAll ∧ Cond.instanceMethod yX8_does ∈ wAll := ⟨in_at 54 (by decide +kernel) (by decide +kernel), in_at 1316 (by decide +kernel) (by decide +kernel)⟩
set_option maxRecDepth 100000 in
theorem mi_X8_obey : MI yX8_obey cX8_obey 3 (some .int) 0 := ⟨in_at 83 (by decide +kernel) (by decide +kernel), in_at 1313 (by decide +kernel) (by decide +kernel), by decide, by decide, by decide +kernel⟩
set_option maxRecDepth 100000 in
theorem se_X8_obey : Cond.selects yX8_obey.cls yX8_obey yX8_obey ∈ wAll ∧ Cond.instanceMethod yX8_obey ∈ wAll := ⟨in_at 1312 (by decide +kernel) (by decide +kernel), in_at 1311 (by decide +kernel) (by decide +kernel)⟩
set_option maxRecDepth 100000 in
theorem mi_X8_why : MI yX8_why cX8_why 3 (some .int) 1 := ⟨in_at 83 (by decide +kernel) (by decide +kernel), in_at 1329 (by decide +kernel) (by decide +kernel), by decide, by decide, by decide +kernel⟩
set_option maxRecDepth 100000 in
theorem se_X8_why : Cond.selects yX8_why.cls yX8_why yX8_why ∈ wAll ∧ Cond.instanceMethod yX8_why ∈ wAll := ⟨in_at 56 (by decide +kernel) (by decide +kernel), in_at 1328 (by decide +kernel) (by decide +kernel)⟩
set_option maxRecDepth 100000 in
theorem mi_X8_keptAt : MI yX8_keptAt cX8_keptAt 4 (some .int) 1 := ⟨in_at 83 (by decide +kernel) (by decide +kernel), in_at 1325 (by decide +kernel) (by decide +kernel), by decide, by decide, by decide +kernel⟩
set_option maxRecDepth 100000 in
theorem se_X8_keptAt : Cond.selects yX8_keptAt.cls yX8_keptAt yX8_keptAt ∈ wAll ∧ Cond.instanceMethod yX8_keptAt ∈ wAll := ⟨in_at 55 (by decide +kernel) (by decide +kernel), in_at 1324 (by decide +kernel) (by decide +kernel)⟩
set_option maxRecDepth 100000 in
theorem mi_X8_row : MI yX8_row cX8_row 4 (some .int) 2 := ⟨in_at 83 (by decide +kernel) (by decide +kernel), in_at 1321 (by decide +kernel) (by decide +kernel), by decide, by decide, by decide +kernel⟩
set_option maxRecDepth 100000 in
theorem se_X8_row : Cond.selects yX8_row.cls yX8_row yX8_row ∈ wAll ∧ Cond.instanceMethod yX8_row ∈ wAll := ⟨in_at 1320 (by decide +kernel) (by decide +kernel), in_at 1319 (by decide +kernel) (by decide +kernel)⟩
set_option maxRecDepth 100000 in
theorem mi_X8_valuesAt : MI yX8_valuesAt cX8_valuesAt 4 (some .int) 1 := ⟨in_at 83 (by decide +kernel) (by decide +kernel), in_at 1337 (by decide +kernel) (by decide +kernel), by decide, by decide, by decide +kernel⟩
set_option maxRecDepth 100000 in
theorem se_X8_valuesAt : Cond.selects yX8_valuesAt.cls yX8_valuesAt yX8_valuesAt ∈ wAll ∧ Cond.instanceMethod yX8_valuesAt ∈ wAll := ⟨in_at 57 (by decide +kernel) (by decide +kernel), in_at 1336 (by decide +kernel) (by decide +kernel)⟩
set_option maxRecDepth 100000 in
theorem mi_X8_transaction : MI yX8_transaction cX8_transaction 4 (some .int) 2 := ⟨in_at 83 (by decide +kernel) (by decide +kernel), in_at 1333 (by decide +kernel) (by decide +kernel), by decide, by decide, by decide +kernel⟩
set_option maxRecDepth 100000 in
theorem se_X8_transaction : Cond.selects yX8_transaction.cls yX8_transaction yX8_transaction ∈ wAll ∧ Cond.instanceMethod yX8_transaction ∈ wAll := ⟨in_at 1332 (by decide +kernel) (by decide +kernel), in_at 1331 (by decide +kernel) (by decide +kernel)⟩
set_option maxRecDepth 100000 in
theorem mi_X8_shouldHave : MI yX8_shouldHave cX8_shouldHave 4 (some .int) 1 := ⟨in_at 83 (by decide +kernel) (by decide +kernel), in_at 1349 (by decide +kernel) (by decide +kernel), by decide, by decide, by decide +kernel⟩
set_option maxRecDepth 100000 in
theorem se_X8_shouldHave : Cond.selects yX8_shouldHave.cls yX8_shouldHave yX8_shouldHave ∈ wAll ∧ Cond.instanceMethod yX8_shouldHave ∈ wAll := ⟨in_at 59 (by decide +kernel) (by decide +kernel), in_at 1348 (by decide +kernel) (by decide +kernel)⟩
set_option maxRecDepth 100000 in
theorem mi_X8_onWay : MI yX8_onWay cX8_onWay 4 (some .int) 1 := ⟨in_at 83 (by decide +kernel) (by decide +kernel), in_at 1353 (by decide +kernel) (by decide +kernel), by decide, by decide, by decide +kernel⟩
set_option maxRecDepth 100000 in
theorem se_X8_onWay : Cond.selects yX8_onWay.cls yX8_onWay yX8_onWay ∈ wAll ∧ Cond.instanceMethod yX8_onWay ∈ wAll := ⟨in_at 60 (by decide +kernel) (by decide +kernel), in_at 1352 (by decide +kernel) (by decide +kernel)⟩
set_option maxRecDepth 100000 in
theorem mi_X8_receiver : MI yX8_receiver cX8_receiver 3 (some .int) 2 := ⟨in_at 83 (by decide +kernel) (by decide +kernel), in_at 1341 (by decide +kernel) (by decide +kernel), by decide, by decide, by decide +kernel⟩
set_option maxRecDepth 100000 in
theorem se_X8_receiver : Cond.selects yX8_receiver.cls yX8_receiver yX8_receiver ∈ wAll ∧ Cond.instanceMethod yX8_receiver ∈ wAll := ⟨in_at 1340 (by decide +kernel) (by decide +kernel), in_at 1339 (by decide +kernel) (by decide +kernel)⟩
set_option maxRecDepth 100000 in
theorem mi_X8_message : MI yX8_message cX8_message 4 (some .int) 2 := ⟨in_at 83 (by decide +kernel) (by decide +kernel), in_at 1357 (by decide +kernel) (by decide +kernel), by decide, by decide, by decide +kernel⟩
set_option maxRecDepth 100000 in
theorem se_X8_message : Cond.selects yX8_message.cls yX8_message yX8_message ∈ wAll ∧ Cond.instanceMethod yX8_message ∈ wAll := ⟨in_at 1356 (by decide +kernel) (by decide +kernel), in_at 1355 (by decide +kernel) (by decide +kernel)⟩
set_option maxRecDepth 100000 in
theorem mi_X8_openOnes : MI yX8_openOnes cX8_openOnes 1 (some .int) 0 := ⟨in_at 83 (by decide +kernel) (by decide +kernel), in_at 1365 (by decide +kernel) (by decide +kernel), by decide, by decide, by decide +kernel⟩
set_option maxRecDepth 100000 in
theorem se_X8_openOnes : Cond.selects yX8_openOnes.cls yX8_openOnes yX8_openOnes ∈ wAll ∧ Cond.instanceMethod yX8_openOnes ∈ wAll := ⟨in_at 61 (by decide +kernel) (by decide +kernel), in_at 1364 (by decide +kernel) (by decide +kernel)⟩
set_option maxRecDepth 100000 in
theorem mi_X8_count : MI yX8_count cX8_count 2 (some .int) 1 := ⟨in_at 83 (by decide +kernel) (by decide +kernel), in_at 1361 (by decide +kernel) (by decide +kernel), by decide, by decide, by decide +kernel⟩
set_option maxRecDepth 100000 in
theorem se_X8_count : Cond.selects yX8_count.cls yX8_count yX8_count ∈ wAll ∧ Cond.instanceMethod yX8_count ∈ wAll := ⟨in_at 1360 (by decide +kernel) (by decide +kernel), in_at 1359 (by decide +kernel) (by decide +kernel)⟩
set_option maxRecDepth 100000 in
theorem mi_X8_setting : MI yX8_setting cX8_setting 2 (some .int) 1 := ⟨in_at 83 (by decide +kernel) (by decide +kernel), in_at 1369 (by decide +kernel) (by decide +kernel), by decide, by decide, by decide +kernel⟩
set_option maxRecDepth 100000 in
theorem se_X8_setting : Cond.selects yX8_setting.cls yX8_setting yX8_setting ∈ wAll ∧ Cond.instanceMethod yX8_setting ∈ wAll := ⟨in_at 1368 (by decide +kernel) (by decide +kernel), in_at 1367 (by decide +kernel) (by decide +kernel)⟩
set_option maxRecDepth 100000 in
theorem mi_X8_isDrained : MI yX8_isDrained cX8_isDrained 1 (some .boolean) 0 := ⟨in_at 83 (by decide +kernel) (by decide +kernel), in_at 1385 (by decide +kernel) (by decide +kernel), by decide, by decide, by decide +kernel⟩
set_option maxRecDepth 100000 in
theorem se_X8_isDrained : Cond.selects yX8_isDrained.cls yX8_isDrained yX8_isDrained ∈ wAll ∧ Cond.instanceMethod yX8_isDrained ∈ wAll := ⟨in_at 64 (by decide +kernel) (by decide +kernel), in_at 1384 (by decide +kernel) (by decide +kernel)⟩
set_option maxRecDepth 100000 in
theorem mi_X8_drains : MI yX8_drains cX8_drains 3 (some .int) 0 := ⟨in_at 83 (by decide +kernel) (by decide +kernel), in_at 1377 (by decide +kernel) (by decide +kernel), by decide, by decide, by decide +kernel⟩
set_option maxRecDepth 100000 in
theorem se_X8_drains : Cond.selects yX8_drains.cls yX8_drains yX8_drains ∈ wAll ∧ Cond.instanceMethod yX8_drains ∈ wAll := ⟨in_at 62 (by decide +kernel) (by decide +kernel), in_at 1376 (by decide +kernel) (by decide +kernel)⟩
set_option maxRecDepth 100000 in
theorem mi_X8_drainIn : MI yX8_drainIn cX8_drainIn 1 (some .int) 0 := ⟨in_at 83 (by decide +kernel) (by decide +kernel), in_at 1373 (by decide +kernel) (by decide +kernel), by decide, by decide, by decide +kernel⟩
set_option maxRecDepth 100000 in
theorem se_X8_drainIn : Cond.selects yX8_drainIn.cls yX8_drainIn yX8_drainIn ∈ wAll ∧ Cond.instanceMethod yX8_drainIn ∈ wAll := ⟨in_at 1372 (by decide +kernel) (by decide +kernel), in_at 1371 (by decide +kernel) (by decide +kernel)⟩
set_option maxRecDepth 100000 in
theorem mi_X8_afterTicks : MI yX8_afterTicks cX8_afterTicks 7 (some .int) 3 := ⟨in_at 83 (by decide +kernel) (by decide +kernel), in_at 1397 (by decide +kernel) (by decide +kernel), by decide, by decide, by decide +kernel⟩
set_option maxRecDepth 100000 in
theorem se_X8_afterTicks : Cond.selects yX8_afterTicks.cls yX8_afterTicks yX8_afterTicks ∈ wAll ∧ Cond.instanceMethod yX8_afterTicks ∈ wAll := ⟨in_at 66 (by decide +kernel) (by decide +kernel), in_at 1396 (by decide +kernel) (by decide +kernel)⟩
set_option maxRecDepth 100000 in
theorem mi_X8_ifPassed : MI yX8_ifPassed cX8_ifPassed 4 (some .int) 3 := ⟨in_at 83 (by decide +kernel) (by decide +kernel), in_at 1393 (by decide +kernel) (by decide +kernel), by decide, by decide, by decide +kernel⟩
set_option maxRecDepth 100000 in
theorem se_X8_ifPassed : Cond.selects yX8_ifPassed.cls yX8_ifPassed yX8_ifPassed ∈ wAll ∧ Cond.instanceMethod yX8_ifPassed ∈ wAll := ⟨in_at 1392 (by decide +kernel) (by decide +kernel), in_at 1391 (by decide +kernel) (by decide +kernel)⟩
set_option maxRecDepth 100000 in
theorem mi_X8_skipped : MI yX8_skipped cX8_skipped 6 (some .int) 2 := ⟨in_at 83 (by decide +kernel) (by decide +kernel), in_at 1405 (by decide +kernel) (by decide +kernel), by decide, by decide, by decide +kernel⟩
set_option maxRecDepth 100000 in
theorem se_X8_skipped : Cond.selects yX8_skipped.cls yX8_skipped yX8_skipped ∈ wAll ∧ Cond.instanceMethod yX8_skipped ∈ wAll := ⟨in_at 67 (by decide +kernel) (by decide +kernel), in_at 1404 (by decide +kernel) (by decide +kernel)⟩
set_option maxRecDepth 100000 in
theorem mi_X8_skips : MI yX8_skips cX8_skips 3 (some .int) 2 := ⟨in_at 83 (by decide +kernel) (by decide +kernel), in_at 1401 (by decide +kernel) (by decide +kernel), by decide, by decide, by decide +kernel⟩
set_option maxRecDepth 100000 in
theorem se_X8_skips : Cond.selects yX8_skips.cls yX8_skips yX8_skips ∈ wAll ∧ Cond.instanceMethod yX8_skips ∈ wAll := ⟨in_at 1400 (by decide +kernel) (by decide +kernel), in_at 1399 (by decide +kernel) (by decide +kernel)⟩
set_option maxRecDepth 100000 in
theorem mi_X8_farthest : MI yX8_farthest cX8_farthest 3 (some .int) 0 := ⟨in_at 83 (by decide +kernel) (by decide +kernel), in_at 1413 (by decide +kernel) (by decide +kernel), by decide, by decide, by decide +kernel⟩
set_option maxRecDepth 100000 in
theorem se_X8_farthest : Cond.selects yX8_farthest.cls yX8_farthest yX8_farthest ∈ wAll ∧ Cond.instanceMethod yX8_farthest ∈ wAll := ⟨in_at 68 (by decide +kernel) (by decide +kernel), in_at 1412 (by decide +kernel) (by decide +kernel)⟩
set_option maxRecDepth 100000 in
theorem mi_X8_slowest : MI yX8_slowest cX8_slowest 1 (some .int) 0 := ⟨in_at 83 (by decide +kernel) (by decide +kernel), in_at 1409 (by decide +kernel) (by decide +kernel), by decide, by decide, by decide +kernel⟩
set_option maxRecDepth 100000 in
theorem se_X8_slowest : Cond.selects yX8_slowest.cls yX8_slowest yX8_slowest ∈ wAll ∧ Cond.instanceMethod yX8_slowest ∈ wAll := ⟨in_at 1408 (by decide +kernel) (by decide +kernel), in_at 1407 (by decide +kernel) (by decide +kernel)⟩
set_option maxRecDepth 100000 in
theorem mi_X8_good : MI yX8_good cX8_good 1 (some .double) 0 := ⟨in_at 83 (by decide +kernel) (by decide +kernel), in_at 1421 (by decide +kernel) (by decide +kernel), by decide, by decide, by decide +kernel⟩
set_option maxRecDepth 100000 in
theorem se_X8_good : Cond.selects yX8_good.cls yX8_good yX8_good ∈ wAll ∧ Cond.instanceMethod yX8_good ∈ wAll := ⟨in_at 69 (by decide +kernel) (by decide +kernel), in_at 1420 (by decide +kernel) (by decide +kernel)⟩
set_option maxRecDepth 100000 in
theorem mi_X8_goodShare : MI yX8_goodShare cX8_goodShare 1 (some .double) 0 := ⟨in_at 83 (by decide +kernel) (by decide +kernel), in_at 1417 (by decide +kernel) (by decide +kernel), by decide, by decide, by decide +kernel⟩
set_option maxRecDepth 100000 in
theorem se_X8_goodShare : Cond.selects yX8_goodShare.cls yX8_goodShare yX8_goodShare ∈ wAll ∧ Cond.instanceMethod yX8_goodShare ∈ wAll := ⟨in_at 1416 (by decide +kernel) (by decide +kernel), in_at 1415 (by decide +kernel) (by decide +kernel)⟩
set_option maxRecDepth 100000 in
theorem mi_X8_mean : MI yX8_mean cX8_mean 1 (some .float) 0 := ⟨in_at 83 (by decide +kernel) (by decide +kernel), in_at 1429 (by decide +kernel) (by decide +kernel), by decide, by decide, by decide +kernel⟩
set_option maxRecDepth 100000 in
theorem se_X8_mean : Cond.selects yX8_mean.cls yX8_mean yX8_mean ∈ wAll ∧ Cond.instanceMethod yX8_mean ∈ wAll := ⟨in_at 70 (by decide +kernel) (by decide +kernel), in_at 1428 (by decide +kernel) (by decide +kernel)⟩
set_option maxRecDepth 100000 in
theorem mi_X8_meanBatch : MI yX8_meanBatch cX8_meanBatch 1 (some .float) 0 := ⟨in_at 83 (by decide +kernel) (by decide +kernel), in_at 1425 (by decide +kernel) (by decide +kernel), by decide, by decide, by decide +kernel⟩
set_option maxRecDepth 100000 in
theorem se_X8_meanBatch : Cond.selects yX8_meanBatch.cls yX8_meanBatch yX8_meanBatch ∈ wAll ∧ Cond.instanceMethod yX8_meanBatch ∈ wAll := ⟨in_at 1424 (by decide +kernel) (by decide +kernel), in_at 1423 (by decide +kernel) (by decide +kernel)⟩
set_option maxRecDepth 100000 in
theorem mi_X8_ofRows : MI yX8_ofRows cX8_ofRows 6 (some .long) 1 := ⟨in_at 83 (by decide +kernel) (by decide +kernel), in_at 1440 (by decide +kernel) (by decide +kernel), by decide, by decide, by decide +kernel⟩
set_option maxRecDepth 100000 in
theorem se_X8_ofRows : Cond.selects yX8_ofRows.cls yX8_ofRows yX8_ofRows ∈ wAll ∧ Cond.instanceMethod yX8_ofRows ∈ wAll := ⟨in_at 71 (by decide +kernel) (by decide +kernel), in_at 1439 (by decide +kernel) (by decide +kernel)⟩
set_option maxRecDepth 100000 in
theorem mi_X8_ofPlaces : MI yX8_ofPlaces cX8_ofPlaces 7 (some .long) 1 := ⟨in_at 83 (by decide +kernel) (by decide +kernel), in_at 1444 (by decide +kernel) (by decide +kernel), by decide, by decide, by decide +kernel⟩
set_option maxRecDepth 100000 in
theorem se_X8_ofPlaces : Cond.selects yX8_ofPlaces.cls yX8_ofPlaces yX8_ofPlaces ∈ wAll ∧ Cond.instanceMethod yX8_ofPlaces ∈ wAll := ⟨in_at 72 (by decide +kernel) (by decide +kernel), in_at 1443 (by decide +kernel) (by decide +kernel)⟩
set_option maxRecDepth 100000 in
theorem mi_X8_ofReceivers : MI yX8_ofReceivers cX8_ofReceivers 7 (some .long) 1 := ⟨in_at 83 (by decide +kernel) (by decide +kernel), in_at 1449 (by decide +kernel) (by decide +kernel), by decide, by decide, by decide +kernel⟩
set_option maxRecDepth 100000 in
theorem se_X8_ofReceivers : Cond.selects yX8_ofReceivers.cls yX8_ofReceivers yX8_ofReceivers ∈ wAll ∧ Cond.instanceMethod yX8_ofReceivers ∈ wAll := ⟨in_at 73 (by decide +kernel) (by decide +kernel), in_at 1448 (by decide +kernel) (by decide +kernel)⟩
set_option maxRecDepth 100000 in
theorem mi_X8_digest : MI yX8_digest cX8_digest 5 (some .long) 0 := ⟨in_at 83 (by decide +kernel) (by decide +kernel), in_at 1433 (by decide +kernel) (by decide +kernel), by decide, by decide, by decide +kernel⟩
set_option maxRecDepth 100000 in
theorem se_X8_digest : Cond.selects yX8_digest.cls yX8_digest yX8_digest ∈ wAll ∧ Cond.instanceMethod yX8_digest ∈ wAll := ⟨in_at 1432 (by decide +kernel) (by decide +kernel), in_at 1431 (by decide +kernel) (by decide +kernel)⟩
set_option maxRecDepth 100000 in
theorem ml_X7_1 : Cond.methodLink RX7 1 objectInit ∈ wAll := in_at 98 (by decide +kernel) (by decide +kernel)
set_option maxRecDepth 100000 in
theorem ml_X5_3 : Cond.methodLink RX5 3 objectInit ∈ wAll := in_at 106 (by decide +kernel) (by decide +kernel)
set_option maxRecDepth 100000 in
theorem ml_X6_3 : Cond.methodLink RX6 3 objectInit ∈ wAll := in_at 122 (by decide +kernel) (by decide +kernel)
set_option maxRecDepth 100000 in
theorem ml_X4_3 : Cond.methodLink RX4 3 objectInit ∈ wAll := in_at 150 (by decide +kernel) (by decide +kernel)
set_option maxRecDepth 100000 in
theorem ml_X3_3 : Cond.methodLink RX3 3 objectInit ∈ wAll := in_at 201 (by decide +kernel) (by decide +kernel)
set_option maxRecDepth 100000 in
theorem ml_X0_3 : Cond.methodLink RX0 3 objectInit ∈ wAll := in_at 261 (by decide +kernel) (by decide +kernel)
set_option maxRecDepth 100000 in
theorem ml_X1_3 : Cond.methodLink RX1 3 objectInit ∈ wAll := in_at 268 (by decide +kernel) (by decide +kernel)
set_option maxRecDepth 100000 in
theorem ml_X2_3 : Cond.methodLink RX2 3 objectInit ∈ wAll := in_at 365 (by decide +kernel) (by decide +kernel)
set_option maxRecDepth 100000 in
theorem ml_X8_1 : Cond.methodLink RX8 1 objectInit ∈ wAll := in_at 1016 (by decide +kernel) (by decide +kernel)
set_option maxRecDepth 100000 in
theorem si_obj : Cond.instanceMethod objectInit ∈ wAll := in_at 99 (by decide +kernel) (by decide +kernel)
set_option maxRecDepth 100000 in
theorem co_obj : Cond.code objectInit ⟨#[0xb1]⟩ 1 none ∈ wAll := in_at 100 (by decide +kernel) (by decide +kernel)
set_option maxRecDepth 100000 in
theorem cl_L_8 : Cond.classLink RL 8 RX7 ∈ wAll := in_at 93 (by decide +kernel) (by decide +kernel)
set_option maxRecDepth 100000 in
theorem cl_X7_7 : Cond.classLink RX7 7 RX5 ∈ wAll := in_at 101 (by decide +kernel) (by decide +kernel)
set_option maxRecDepth 100000 in
theorem cl_X5_23 : Cond.classLink RX5 23 RX6 ∈ wAll := in_at 116 (by decide +kernel) (by decide +kernel)
set_option maxRecDepth 100000 in
theorem cl_X5_30 : Cond.classLink RX5 30 RX4 ∈ wAll := in_at 145 (by decide +kernel) (by decide +kernel)
set_option maxRecDepth 100000 in
theorem cl_X5_37 : Cond.classLink RX5 37 RX3 ∈ wAll := in_at 195 (by decide +kernel) (by decide +kernel)
set_option maxRecDepth 100000 in
theorem cl_X5_44 : Cond.classLink RX5 44 RX0 ∈ wAll := in_at 256 (by decide +kernel) (by decide +kernel)
set_option maxRecDepth 100000 in
theorem cl_X0_9 : Cond.classLink RX0 9 RX1 ∈ wAll := in_at 262 (by decide +kernel) (by decide +kernel)
set_option maxRecDepth 100000 in
theorem cl_X7_20 : Cond.classLink RX7 20 RX2 ∈ wAll := in_at 360 (by decide +kernel) (by decide +kernel)
set_option maxRecDepth 100000 in
theorem cl_L_80 : Cond.classLink RL 80 RX8 ∈ wAll := in_at 1011 (by decide +kernel) (by decide +kernel)
set_option maxRecDepth 100000 in
theorem cn_X7 : Cond.instantiable RX7 6 ∈ wAll := in_at 94 (by decide +kernel) (by decide +kernel)
set_option maxRecDepth 100000 in
theorem cz_X7 : Cond.initialized RX7 ∈ wAll := in_at 75 (by decide +kernel) (by decide +kernel)
set_option maxRecDepth 100000 in
theorem cn_X5 : Cond.instantiable RX5 7 ∈ wAll := in_at 102 (by decide +kernel) (by decide +kernel)
set_option maxRecDepth 100000 in
theorem cz_X5 : Cond.initialized RX5 ∈ wAll := in_at 76 (by decide +kernel) (by decide +kernel)
set_option maxRecDepth 100000 in
theorem cn_X6 : Cond.instantiable RX6 5 ∈ wAll := in_at 118 (by decide +kernel) (by decide +kernel)
set_option maxRecDepth 100000 in
theorem cz_X6 : Cond.initialized RX6 ∈ wAll := in_at 77 (by decide +kernel) (by decide +kernel)
set_option maxRecDepth 100000 in
theorem cn_X4 : Cond.instantiable RX4 10 ∈ wAll := in_at 146 (by decide +kernel) (by decide +kernel)
set_option maxRecDepth 100000 in
theorem cz_X4 : Cond.initialized RX4 ∈ wAll := in_at 78 (by decide +kernel) (by decide +kernel)
set_option maxRecDepth 100000 in
theorem cn_X3 : Cond.instantiable RX3 14 ∈ wAll := in_at 197 (by decide +kernel) (by decide +kernel)
set_option maxRecDepth 100000 in
theorem cz_X3 : Cond.initialized RX3 ∈ wAll := in_at 79 (by decide +kernel) (by decide +kernel)
set_option maxRecDepth 100000 in
theorem cn_X0 : Cond.instantiable RX0 7 ∈ wAll := in_at 257 (by decide +kernel) (by decide +kernel)
set_option maxRecDepth 100000 in
theorem cz_X0 : Cond.initialized RX0 ∈ wAll := in_at 80 (by decide +kernel) (by decide +kernel)
set_option maxRecDepth 100000 in
theorem cn_X1 : Cond.instantiable RX1 6 ∈ wAll := in_at 264 (by decide +kernel) (by decide +kernel)
set_option maxRecDepth 100000 in
theorem cz_X1 : Cond.initialized RX1 ∈ wAll := in_at 81 (by decide +kernel) (by decide +kernel)
set_option maxRecDepth 100000 in
theorem cn_X2 : Cond.instantiable RX2 2 ∈ wAll := in_at 361 (by decide +kernel) (by decide +kernel)
set_option maxRecDepth 100000 in
theorem cz_X2 : Cond.initialized RX2 ∈ wAll := in_at 82 (by decide +kernel) (by decide +kernel)
set_option maxRecDepth 100000 in
theorem cn_X8 : Cond.instantiable RX8 12 ∈ wAll := in_at 1012 (by decide +kernel) (by decide +kernel)
set_option maxRecDepth 100000 in
theorem cz_X8 : Cond.initialized RX8 ∈ wAll := in_at 83 (by decide +kernel) (by decide +kernel)
set_option maxRecDepth 100000 in
theorem kj_X7_263 : Cond.constantLong RX7 263 3623 ∈ wAll := in_at 576 (by decide +kernel) (by decide +kernel)
set_option maxRecDepth 100000 in
theorem kj_X7_312 : Cond.constantLong RX7 312 31 ∈ wAll := in_at 663 (by decide +kernel) (by decide +kernel)
set_option maxRecDepth 100000 in
theorem kj_X8_268 : Cond.constantLong RX8 268 3623 ∈ wAll := in_at 1434 (by decide +kernel) (by decide +kernel)
set_option maxRecDepth 100000 in
theorem kj_X8_260 : Cond.constantLong RX8 260 31 ∈ wAll := in_at 1435 (by decide +kernel) (by decide +kernel)
set_option maxRecDepth 100000 in
theorem kj_Jxe99ae_137 : Cond.constantLong RJxe99ae 137 9221120237041090560 ∈ wAll := in_at 1461 (by decide +kernel) (by decide +kernel)
set_option maxRecDepth 100000 in
theorem ka_int : Cond.arrayClass (aTy 0) ∈ wAll := in_at 144 (by decide +kernel) (by decide +kernel)
set_option maxRecDepth 100000 in
theorem ka_long : Cond.arrayClass (aTy 1) ∈ wAll := in_at 1472 (by decide +kernel) (by decide +kernel)
