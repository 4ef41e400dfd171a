theorem dX12_init_0 : decode cX12_init 0 = .ok (.aload_n 0, 1) := by decide +kernel
theorem dX12_init_1 : decode cX12_init 1 = .ok (.invokespecial 1, 3) := by decide +kernel
theorem dX12_init_4 : decode cX12_init 4 = .ok (.aload_n 0, 1) := by decide +kernel
theorem dX12_init_5 : decode cX12_init 5 = .ok (.iconst 1, 1) := by decide +kernel
theorem dX12_init_6 : decode cX12_init 6 = .ok (.putfield 7, 3) := by decide +kernel
theorem dX12_init_9 : decode cX12_init 9 = .ok (.aload_n 0, 1) := by decide +kernel
theorem dX12_init_10 : decode cX12_init 10 = .ok (.iconst (-1), 1) := by decide +kernel
theorem dX12_init_11 : decode cX12_init 11 = .ok (.putfield 13, 3) := by decide +kernel
theorem dX12_init_14 : decode cX12_init 14 = .ok (.aload_n 0, 1) := by decide +kernel
theorem dX12_init_15 : decode cX12_init 15 = .ok (.bipush 8, 2) := by decide +kernel
theorem dX12_init_17 : decode cX12_init 17 = .ok (.newarray .int, 2) := by decide +kernel
theorem dX12_init_19 : decode cX12_init 19 = .ok (.putfield 16, 3) := by decide +kernel
theorem dX12_init_22 : decode cX12_init 22 = .ok (.aload_n 0, 1) := by decide +kernel
theorem dX12_init_23 : decode cX12_init 23 = .ok (.bipush 48, 2) := by decide +kernel
theorem dX12_init_25 : decode cX12_init 25 = .ok (.newarray .int, 2) := by decide +kernel
theorem dX12_init_27 : decode cX12_init 27 = .ok (.putfield 20, 3) := by decide +kernel
theorem dX12_init_30 : decode cX12_init 30 = .ok (.aload_n 0, 1) := by decide +kernel
theorem dX12_init_31 : decode cX12_init 31 = .ok (.iconst 4, 1) := by decide +kernel
theorem dX12_init_32 : decode cX12_init 32 = .ok (.newarray .int, 2) := by decide +kernel
theorem dX12_init_34 : decode cX12_init 34 = .ok (.putfield 23, 3) := by decide +kernel
theorem dX12_init_37 : decode cX12_init 37 = .ok (.aload_n 0, 1) := by decide +kernel
theorem dX12_init_38 : decode cX12_init 38 = .ok (.iconst 4, 1) := by decide +kernel
theorem dX12_init_39 : decode cX12_init 39 = .ok (.newarray .int, 2) := by decide +kernel
theorem dX12_init_41 : decode cX12_init 41 = .ok (.putfield 26, 3) := by decide +kernel
theorem dX12_init_44 : decode cX12_init 44 = .ok (.aload_n 0, 1) := by decide +kernel
theorem dX12_init_45 : decode cX12_init 45 = .ok (.iconst 4, 1) := by decide +kernel
theorem dX12_init_46 : decode cX12_init 46 = .ok (.newarray .int, 2) := by decide +kernel
theorem dX12_init_48 : decode cX12_init 48 = .ok (.putfield 29, 3) := by decide +kernel
theorem dX12_init_51 : decode cX12_init 51 = .ok (.aload_n 0, 1) := by decide +kernel
theorem dX12_init_52 : decode cX12_init 52 = .ok (.iconst 4, 1) := by decide +kernel
theorem dX12_init_53 : decode cX12_init 53 = .ok (.newarray .int, 2) := by decide +kernel
theorem dX12_init_55 : decode cX12_init 55 = .ok (.putfield 32, 3) := by decide +kernel
theorem dX12_init_58 : decode cX12_init 58 = .ok (.aload_n 0, 1) := by decide +kernel
theorem dX12_init_59 : decode cX12_init 59 = .ok (.bipush 8, 2) := by decide +kernel
theorem dX12_init_61 : decode cX12_init 61 = .ok (.newarray .int, 2) := by decide +kernel
theorem dX12_init_63 : decode cX12_init 63 = .ok (.putfield 35, 3) := by decide +kernel
theorem dX12_init_66 : decode cX12_init 66 = .ok (.aload_n 0, 1) := by decide +kernel
theorem dX12_init_67 : decode cX12_init 67 = .ok (.bipush 8, 2) := by decide +kernel
theorem dX12_init_69 : decode cX12_init 69 = .ok (.newarray .int, 2) := by decide +kernel
theorem dX12_init_71 : decode cX12_init 71 = .ok (.putfield 38, 3) := by decide +kernel
theorem dX12_init_74 : decode cX12_init 74 = .ok (.aload_n 0, 1) := by decide +kernel
theorem dX12_init_75 : decode cX12_init 75 = .ok (.bipush 8, 2) := by decide +kernel
theorem dX12_init_77 : decode cX12_init 77 = .ok (.newarray .int, 2) := by decide +kernel
theorem dX12_init_79 : decode cX12_init 79 = .ok (.putfield 41, 3) := by decide +kernel
theorem dX12_init_82 : decode cX12_init 82 = .ok (.aload_n 0, 1) := by decide +kernel
theorem dX12_init_83 : decode cX12_init 83 = .ok (.bipush 8, 2) := by decide +kernel
theorem dX12_init_85 : decode cX12_init 85 = .ok (.newarray .int, 2) := by decide +kernel
theorem dX12_init_87 : decode cX12_init 87 = .ok (.putfield 44, 3) := by decide +kernel
theorem dX12_init_90 : decode cX12_init 90 = .ok (.aload_n 0, 1) := by decide +kernel
theorem dX12_init_91 : decode cX12_init 91 = .ok (.bipush 8, 2) := by decide +kernel
theorem dX12_init_93 : decode cX12_init 93 = .ok (.newarray .int, 2) := by decide +kernel
theorem dX12_init_95 : decode cX12_init 95 = .ok (.putfield 47, 3) := by decide +kernel
theorem dX12_init_98 : decode cX12_init 98 = .ok (.aload_n 0, 1) := by decide +kernel
theorem dX12_init_99 : decode cX12_init 99 = .ok (.bipush 8, 2) := by decide +kernel
theorem dX12_init_101 : decode cX12_init 101 = .ok (.newarray .int, 2) := by decide +kernel
theorem dX12_init_103 : decode cX12_init 103 = .ok (.putfield 50, 3) := by decide +kernel
theorem dX12_init_106 : decode cX12_init 106 = .ok (.aload_n 0, 1) := by decide +kernel
theorem dX12_init_107 : decode cX12_init 107 = .ok (.sipush 1280, 3) := by decide +kernel
theorem dX12_init_110 : decode cX12_init 110 = .ok (.newarray .long, 2) := by decide +kernel
theorem dX12_init_112 : decode cX12_init 112 = .ok (.putfield 53, 3) := by decide +kernel
theorem dX12_init_115 : decode cX12_init 115 = .ok (.aload_n 0, 1) := by decide +kernel
theorem dX12_init_116 : decode cX12_init 116 = .ok (.sipush 160, 3) := by decide +kernel
theorem dX12_init_119 : decode cX12_init 119 = .ok (.newarray .long, 2) := by decide +kernel
theorem dX12_init_121 : decode cX12_init 121 = .ok (.putfield 57, 3) := by decide +kernel
theorem dX12_init_124 : decode cX12_init 124 = .ok (.aload_n 0, 1) := by decide +kernel
theorem dX12_init_125 : decode cX12_init 125 = .ok (.bipush 26, 2) := by decide +kernel
theorem dX12_init_127 : decode cX12_init 127 = .ok (.newarray .int, 2) := by decide +kernel
theorem dX12_init_129 : decode cX12_init 129 = .ok (.dup, 1) := by decide +kernel
theorem dX12_init_130 : decode cX12_init 130 = .ok (.iconst 0, 1) := by decide +kernel
theorem dX12_init_131 : decode cX12_init 131 = .ok (.bipush 99, 2) := by decide +kernel
theorem dX12_init_133 : decode cX12_init 133 = .ok (.iastore, 1) := by decide +kernel
theorem dX12_init_134 : decode cX12_init 134 = .ok (.dup, 1) := by decide +kernel
theorem dX12_init_135 : decode cX12_init 135 = .ok (.iconst 1, 1) := by decide +kernel
theorem dX12_init_136 : decode cX12_init 136 = .ok (.bipush 111, 2) := by decide +kernel
theorem dX12_init_138 : decode cX12_init 138 = .ok (.iastore, 1) := by decide +kernel
theorem dX12_init_139 : decode cX12_init 139 = .ok (.dup, 1) := by decide +kernel
theorem dX12_init_140 : decode cX12_init 140 = .ok (.iconst 2, 1) := by decide +kernel
theorem dX12_init_141 : decode cX12_init 141 = .ok (.bipush 109, 2) := by decide +kernel
theorem dX12_init_143 : decode cX12_init 143 = .ok (.iastore, 1) := by decide +kernel
theorem dX12_init_144 : decode cX12_init 144 = .ok (.dup, 1) := by decide +kernel
theorem dX12_init_145 : decode cX12_init 145 = .ok (.iconst 3, 1) := by decide +kernel
theorem dX12_init_146 : decode cX12_init 146 = .ok (.bipush 101, 2) := by decide +kernel
theorem dX12_init_148 : decode cX12_init 148 = .ok (.iastore, 1) := by decide +kernel
theorem dX12_init_149 : decode cX12_init 149 = .ok (.dup, 1) := by decide +kernel
theorem dX12_init_150 : decode cX12_init 150 = .ok (.iconst 4, 1) := by decide +kernel
theorem dX12_init_151 : decode cX12_init 151 = .ok (.bipush 114, 2) := by decide +kernel
theorem dX12_init_153 : decode cX12_init 153 = .ok (.iastore, 1) := by decide +kernel
theorem dX12_init_154 : decode cX12_init 154 = .ok (.dup, 1) := by decide +kernel
theorem dX12_init_155 : decode cX12_init 155 = .ok (.iconst 5, 1) := by decide +kernel
theorem dX12_init_156 : decode cX12_init 156 = .ok (.bipush 32, 2) := by decide +kernel
theorem dX12_init_158 : decode cX12_init 158 = .ok (.iastore, 1) := by decide +kernel
theorem dX12_init_159 : decode cX12_init 159 = .ok (.dup, 1) := by decide +kernel
theorem dX12_init_160 : decode cX12_init 160 = .ok (.bipush 6, 2) := by decide +kernel
theorem dX12_init_162 : decode cX12_init 162 = .ok (.iconst 0, 1) := by decide +kernel
theorem dX12_init_163 : decode cX12_init 163 = .ok (.iastore, 1) := by decide +kernel
theorem dX12_init_164 : decode cX12_init 164 = .ok (.dup, 1) := by decide +kernel
theorem dX12_init_165 : decode cX12_init 165 = .ok (.bipush 7, 2) := by decide +kernel
theorem dX12_init_167 : decode cX12_init 167 = .ok (.bipush 97, 2) := by decide +kernel
theorem dX12_init_169 : decode cX12_init 169 = .ok (.iastore, 1) := by decide +kernel
theorem dX12_init_170 : decode cX12_init 170 = .ok (.dup, 1) := by decide +kernel
theorem dX12_init_171 : decode cX12_init 171 = .ok (.bipush 8, 2) := by decide +kernel
theorem dX12_init_173 : decode cX12_init 173 = .ok (.bipush 115, 2) := by decide +kernel
theorem dX12_init_175 : decode cX12_init 175 = .ok (.iastore, 1) := by decide +kernel
theorem dX12_init_176 : decode cX12_init 176 = .ok (.dup, 1) := by decide +kernel
theorem dX12_init_177 : decode cX12_init 177 = .ok (.bipush 9, 2) := by decide +kernel
theorem dX12_init_179 : decode cX12_init 179 = .ok (.bipush 107, 2) := by decide +kernel
theorem dX12_init_181 : decode cX12_init 181 = .ok (.iastore, 1) := by decide +kernel
theorem dX12_init_182 : decode cX12_init 182 = .ok (.dup, 1) := by decide +kernel
theorem dX12_init_183 : decode cX12_init 183 = .ok (.bipush 10, 2) := by decide +kernel
theorem dX12_init_185 : decode cX12_init 185 = .ok (.bipush 101, 2) := by decide +kernel
theorem dX12_init_187 : decode cX12_init 187 = .ok (.iastore, 1) := by decide +kernel
theorem dX12_init_188 : decode cX12_init 188 = .ok (.dup, 1) := by decide +kernel
theorem dX12_init_189 : decode cX12_init 189 = .ok (.bipush 11, 2) := by decide +kernel
theorem dX12_init_191 : decode cX12_init 191 = .ok (.bipush 114, 2) := by decide +kernel
theorem dX12_init_193 : decode cX12_init 193 = .ok (.iastore, 1) := by decide +kernel
theorem dX12_init_194 : decode cX12_init 194 = .ok (.dup, 1) := by decide +kernel
theorem dX12_init_195 : decode cX12_init 195 = .ok (.bipush 12, 2) := by decide +kernel
theorem dX12_init_197 : decode cX12_init 197 = .ok (.bipush 32, 2) := by decide +kernel
theorem dX12_init_199 : decode cX12_init 199 = .ok (.iastore, 1) := by decide +kernel
theorem dX12_init_200 : decode cX12_init 200 = .ok (.dup, 1) := by decide +kernel
theorem dX12_init_201 : decode cX12_init 201 = .ok (.bipush 13, 2) := by decide +kernel
theorem dX12_init_203 : decode cX12_init 203 = .ok (.iconst 0, 1) := by decide +kernel
theorem dX12_init_204 : decode cX12_init 204 = .ok (.iastore, 1) := by decide +kernel
theorem dX12_init_205 : decode cX12_init 205 = .ok (.dup, 1) := by decide +kernel
theorem dX12_init_206 : decode cX12_init 206 = .ok (.bipush 14, 2) := by decide +kernel
theorem dX12_init_208 : decode cX12_init 208 = .ok (.bipush 119, 2) := by decide +kernel
theorem dX12_init_210 : decode cX12_init 210 = .ok (.iastore, 1) := by decide +kernel
theorem dX12_init_211 : decode cX12_init 211 = .ok (.dup, 1) := by decide +kernel
theorem dX12_init_212 : decode cX12_init 212 = .ok (.bipush 15, 2) := by decide +kernel
theorem dX12_init_214 : decode cX12_init 214 = .ok (.bipush 97, 2) := by decide +kernel
theorem dX12_init_216 : decode cX12_init 216 = .ok (.iastore, 1) := by decide +kernel
theorem dX12_init_217 : decode cX12_init 217 = .ok (.dup, 1) := by decide +kernel
theorem dX12_init_218 : decode cX12_init 218 = .ok (.bipush 16, 2) := by decide +kernel
theorem dX12_init_220 : decode cX12_init 220 = .ok (.bipush 121, 2) := by decide +kernel
theorem dX12_init_222 : decode cX12_init 222 = .ok (.iastore, 1) := by decide +kernel
theorem dX12_init_223 : decode cX12_init 223 = .ok (.dup, 1) := by decide +kernel
theorem dX12_init_224 : decode cX12_init 224 = .ok (.bipush 17, 2) := by decide +kernel
theorem dX12_init_226 : decode cX12_init 226 = .ok (.bipush 32, 2) := by decide +kernel
theorem dX12_init_228 : decode cX12_init 228 = .ok (.iastore, 1) := by decide +kernel
theorem dX12_init_229 : decode cX12_init 229 = .ok (.dup, 1) := by decide +kernel
theorem dX12_init_230 : decode cX12_init 230 = .ok (.bipush 18, 2) := by decide +kernel
theorem dX12_init_232 : decode cX12_init 232 = .ok (.iconst 0, 1) := by decide +kernel
theorem dX12_init_233 : decode cX12_init 233 = .ok (.iastore, 1) := by decide +kernel
theorem dX12_init_234 : decode cX12_init 234 = .ok (.dup, 1) := by decide +kernel
theorem dX12_init_235 : decode cX12_init 235 = .ok (.bipush 19, 2) := by decide +kernel
theorem dX12_init_237 : decode cX12_init 237 = .ok (.bipush 99, 2) := by decide +kernel
theorem dX12_init_239 : decode cX12_init 239 = .ok (.iastore, 1) := by decide +kernel
theorem dX12_init_240 : decode cX12_init 240 = .ok (.dup, 1) := by decide +kernel
theorem dX12_init_241 : decode cX12_init 241 = .ok (.bipush 20, 2) := by decide +kernel
theorem dX12_init_243 : decode cX12_init 243 = .ok (.bipush 104, 2) := by decide +kernel
theorem dX12_init_245 : decode cX12_init 245 = .ok (.iastore, 1) := by decide +kernel
theorem dX12_init_246 : decode cX12_init 246 = .ok (.dup, 1) := by decide +kernel
theorem dX12_init_247 : decode cX12_init 247 = .ok (.bipush 21, 2) := by decide +kernel
theorem dX12_init_249 : decode cX12_init 249 = .ok (.bipush 105, 2) := by decide +kernel
theorem dX12_init_251 : decode cX12_init 251 = .ok (.iastore, 1) := by decide +kernel
theorem dX12_init_252 : decode cX12_init 252 = .ok (.dup, 1) := by decide +kernel
theorem dX12_init_253 : decode cX12_init 253 = .ok (.bipush 22, 2) := by decide +kernel
theorem dX12_init_255 : decode cX12_init 255 = .ok (.bipush 101, 2) := by decide +kernel
theorem dX12_init_257 : decode cX12_init 257 = .ok (.iastore, 1) := by decide +kernel
theorem dX12_init_258 : decode cX12_init 258 = .ok (.dup, 1) := by decide +kernel
theorem dX12_init_259 : decode cX12_init 259 = .ok (.bipush 23, 2) := by decide +kernel
theorem dX12_init_261 : decode cX12_init 261 = .ok (.bipush 102, 2) := by decide +kernel
theorem dX12_init_263 : decode cX12_init 263 = .ok (.iastore, 1) := by decide +kernel
theorem dX12_init_264 : decode cX12_init 264 = .ok (.dup, 1) := by decide +kernel
theorem dX12_init_265 : decode cX12_init 265 = .ok (.bipush 24, 2) := by decide +kernel
theorem dX12_init_267 : decode cX12_init 267 = .ok (.bipush 32, 2) := by decide +kernel
theorem dX12_init_269 : decode cX12_init 269 = .ok (.iastore, 1) := by decide +kernel
theorem dX12_init_270 : decode cX12_init 270 = .ok (.dup, 1) := by decide +kernel
theorem dX12_init_271 : decode cX12_init 271 = .ok (.bipush 25, 2) := by decide +kernel
theorem dX12_init_273 : decode cX12_init 273 = .ok (.iconst 0, 1) := by decide +kernel
theorem dX12_init_274 : decode cX12_init 274 = .ok (.iastore, 1) := by decide +kernel
theorem dX12_init_275 : decode cX12_init 275 = .ok (.putfield 60, 3) := by decide +kernel
theorem dX12_init_278 : decode cX12_init 278 = .ok (.aload_n 0, 1) := by decide +kernel
theorem dX12_init_279 : decode cX12_init 279 = .ok (.bipush 6, 2) := by decide +kernel
theorem dX12_init_281 : decode cX12_init 281 = .ok (.newarray .int, 2) := by decide +kernel
theorem dX12_init_283 : decode cX12_init 283 = .ok (.putfield 63, 3) := by decide +kernel
theorem dX12_init_286 : decode cX12_init 286 = .ok (.aload_n 0, 1) := by decide +kernel
theorem dX12_init_287 : decode cX12_init 287 = .ok (.bipush 90, 2) := by decide +kernel
theorem dX12_init_289 : decode cX12_init 289 = .ok (.newarray .int, 2) := by decide +kernel
theorem dX12_init_291 : decode cX12_init 291 = .ok (.putfield 66, 3) := by decide +kernel
theorem dX12_init_294 : decode cX12_init 294 = .ok (.aload_n 0, 1) := by decide +kernel
theorem dX12_init_295 : decode cX12_init 295 = .ok (.bipush 90, 2) := by decide +kernel
theorem dX12_init_297 : decode cX12_init 297 = .ok (.newarray .int, 2) := by decide +kernel
theorem dX12_init_299 : decode cX12_init 299 = .ok (.putfield 69, 3) := by decide +kernel
theorem dX12_init_302 : decode cX12_init 302 = .ok (.aload_n 0, 1) := by decide +kernel
theorem dX12_init_303 : decode cX12_init 303 = .ok (.iconst (-1), 1) := by decide +kernel
theorem dX12_init_304 : decode cX12_init 304 = .ok (.putfield 72, 3) := by decide +kernel
theorem dX12_init_307 : decode cX12_init 307 = .ok (.aload_n 0, 1) := by decide +kernel
theorem dX12_init_308 : decode cX12_init 308 = .ok (.bipush 8, 2) := by decide +kernel
theorem dX12_init_310 : decode cX12_init 310 = .ok (.newarray .int, 2) := by decide +kernel
theorem dX12_init_312 : decode cX12_init 312 = .ok (.putfield 75, 3) := by decide +kernel
theorem dX12_init_315 : decode cX12_init 315 = .ok (.aload_n 0, 1) := by decide +kernel
theorem dX12_init_316 : decode cX12_init 316 = .ok (.bipush 20, 2) := by decide +kernel
theorem dX12_init_318 : decode cX12_init 318 = .ok (.newarray .int, 2) := by decide +kernel
theorem dX12_init_320 : decode cX12_init 320 = .ok (.putfield 78, 3) := by decide +kernel
theorem dX12_init_323 : decode cX12_init 323 = .ok (.return_, 1) := by decide +kernel
theorem dX12_no_0 : decode cX12_no 0 = .ok (.aload_n 0, 1) := by decide +kernel
theorem dX12_no_1 : decode cX12_no 1 = .ok (.getfield 16, 3) := by decide +kernel
theorem dX12_no_4 : decode cX12_no 4 = .ok (.iload_n 1, 1) := by decide +kernel
theorem dX12_no_5 : decode cX12_no 5 = .ok (.ineg, 1) := by decide +kernel
theorem dX12_no_6 : decode cX12_no 6 = .ok (.dup2, 1) := by decide +kernel
theorem dX12_no_7 : decode cX12_no 7 = .ok (.iaload, 1) := by decide +kernel
theorem dX12_no_8 : decode cX12_no 8 = .ok (.iconst 1, 1) := by decide +kernel
theorem dX12_no_9 : decode cX12_no 9 = .ok (.iadd, 1) := by decide +kernel
theorem dX12_no_10 : decode cX12_no 10 = .ok (.iastore, 1) := by decide +kernel
theorem dX12_no_11 : decode cX12_no 11 = .ok (.iload_n 1, 1) := by decide +kernel
theorem dX12_no_12 : decode cX12_no 12 = .ok (.ireturn, 1) := by decide +kernel
theorem dX12_noTen_0 : decode cX12_noTen 0 = .ok (.aload_n 0, 1) := by decide +kernel
theorem dX12_noTen_1 : decode cX12_noTen 1 = .ok (.getfield 16, 3) := by decide +kernel
theorem dX12_noTen_4 : decode cX12_noTen 4 = .ok (.iload_n 1, 1) := by decide +kernel
theorem dX12_noTen_5 : decode cX12_noTen 5 = .ok (.ineg, 1) := by decide +kernel
theorem dX12_noTen_6 : decode cX12_noTen 6 = .ok (.dup2, 1) := by decide +kernel
theorem dX12_noTen_7 : decode cX12_noTen 7 = .ok (.iaload, 1) := by decide +kernel
theorem dX12_noTen_8 : decode cX12_noTen 8 = .ok (.iconst 1, 1) := by decide +kernel
theorem dX12_noTen_9 : decode cX12_noTen 9 = .ok (.iadd, 1) := by decide +kernel
theorem dX12_noTen_10 : decode cX12_noTen 10 = .ok (.iastore, 1) := by decide +kernel
theorem dX12_noTen_11 : decode cX12_noTen 11 = .ok (.iload_n 1, 1) := by decide +kernel
theorem dX12_noTen_12 : decode cX12_noTen 12 = .ok (.bipush 10, 2) := by decide +kernel
theorem dX12_noTen_14 : decode cX12_noTen 14 = .ok (.isub, 1) := by decide +kernel
theorem dX12_noTen_15 : decode cX12_noTen 15 = .ok (.ireturn, 1) := by decide +kernel
theorem dX12_noLow_0 : decode cX12_noLow 0 = .ok (.aload_n 0, 1) := by decide +kernel
theorem dX12_noLow_1 : decode cX12_noLow 1 = .ok (.getfield 16, 3) := by decide +kernel
theorem dX12_noLow_4 : decode cX12_noLow 4 = .ok (.iload_n 1, 1) := by decide +kernel
theorem dX12_noLow_5 : decode cX12_noLow 5 = .ok (.ineg, 1) := by decide +kernel
theorem dX12_noLow_6 : decode cX12_noLow 6 = .ok (.dup2, 1) := by decide +kernel
theorem dX12_noLow_7 : decode cX12_noLow 7 = .ok (.iaload, 1) := by decide +kernel
theorem dX12_noLow_8 : decode cX12_noLow 8 = .ok (.iconst 1, 1) := by decide +kernel
theorem dX12_noLow_9 : decode cX12_noLow 9 = .ok (.iadd, 1) := by decide +kernel
theorem dX12_noLow_10 : decode cX12_noLow 10 = .ok (.iastore, 1) := by decide +kernel
theorem dX12_noLow_11 : decode cX12_noLow 11 = .ok (.iload_n 1, 1) := by decide +kernel
theorem dX12_noLow_12 : decode cX12_noLow 12 = .ok (.sipush 1000, 3) := by decide +kernel
theorem dX12_noLow_15 : decode cX12_noLow 15 = .ok (.isub, 1) := by decide +kernel
theorem dX12_noLow_16 : decode cX12_noLow 16 = .ok (.ireturn, 1) := by decide +kernel
theorem dX12_isShelf_0 : decode cX12_isShelf 0 = .ok (.iload_n 1, 1) := by decide +kernel
theorem dX12_isShelf_1 : decode cX12_isShelf 1 = .ok (.ifCond .lt 13, 3) := by decide +kernel
theorem dX12_isShelf_4 : decode cX12_isShelf 4 = .ok (.iload_n 1, 1) := by decide +kernel
theorem dX12_isShelf_5 : decode cX12_isShelf 5 = .ok (.bipush 8, 2) := by decide +kernel
theorem dX12_isShelf_7 : decode cX12_isShelf 7 = .ok (.if_icmp .ge 7, 3) := by decide +kernel
theorem dX12_isShelf_10 : decode cX12_isShelf 10 = .ok (.iconst 1, 1) := by decide +kernel
theorem dX12_isShelf_11 : decode cX12_isShelf 11 = .ok (.goto 4, 3) := by decide +kernel
theorem dX12_isShelf_14 : decode cX12_isShelf 14 = .ok (.iconst 0, 1) := by decide +kernel
theorem dX12_isShelf_15 : decode cX12_isShelf 15 = .ok (.ireturn, 1) := by decide +kernel
theorem dX12_isComer_0 : decode cX12_isComer 0 = .ok (.iload_n 1, 1) := by decide +kernel
theorem dX12_isComer_1 : decode cX12_isComer 1 = .ok (.ifCond .lt 15, 3) := by decide +kernel
theorem dX12_isComer_4 : decode cX12_isComer 4 = .ok (.iload_n 1, 1) := by decide +kernel
theorem dX12_isComer_5 : decode cX12_isComer 5 = .ok (.aload_n 0, 1) := by decide +kernel
theorem dX12_isComer_6 : decode cX12_isComer 6 = .ok (.getfield 81, 3) := by decide +kernel
theorem dX12_isComer_9 : decode cX12_isComer 9 = .ok (.if_icmp .ge 7, 3) := by decide +kernel
theorem dX12_isComer_12 : decode cX12_isComer 12 = .ok (.iconst 1, 1) := by decide +kernel
theorem dX12_isComer_13 : decode cX12_isComer 13 = .ok (.goto 4, 3) := by decide +kernel
theorem dX12_isComer_16 : decode cX12_isComer 16 = .ok (.iconst 0, 1) := by decide +kernel
theorem dX12_isComer_17 : decode cX12_isComer 17 = .ok (.ireturn, 1) := by decide +kernel
theorem dX12_isAsker_0 : decode cX12_isAsker 0 = .ok (.iload_n 1, 1) := by decide +kernel
theorem dX12_isAsker_1 : decode cX12_isAsker 1 = .ok (.ifCond .lt 15, 3) := by decide +kernel
theorem dX12_isAsker_4 : decode cX12_isAsker 4 = .ok (.iload_n 1, 1) := by decide +kernel
theorem dX12_isAsker_5 : decode cX12_isAsker 5 = .ok (.aload_n 0, 1) := by decide +kernel
theorem dX12_isAsker_6 : decode cX12_isAsker 6 = .ok (.getfield 84, 3) := by decide +kernel
theorem dX12_isAsker_9 : decode cX12_isAsker 9 = .ok (.if_icmp .ge 7, 3) := by decide +kernel
theorem dX12_isAsker_12 : decode cX12_isAsker 12 = .ok (.iconst 1, 1) := by decide +kernel
theorem dX12_isAsker_13 : decode cX12_isAsker 13 = .ok (.goto 4, 3) := by decide +kernel
theorem dX12_isAsker_16 : decode cX12_isAsker 16 = .ok (.iconst 0, 1) := by decide +kernel
theorem dX12_isAsker_17 : decode cX12_isAsker 17 = .ok (.ireturn, 1) := by decide +kernel
theorem dX12_isWay_0 : decode cX12_isWay 0 = .ok (.iload_n 1, 1) := by decide +kernel
theorem dX12_isWay_1 : decode cX12_isWay 1 = .ok (.ifCond .lt 15, 3) := by decide +kernel
theorem dX12_isWay_4 : decode cX12_isWay 4 = .ok (.iload_n 1, 1) := by decide +kernel
theorem dX12_isWay_5 : decode cX12_isWay 5 = .ok (.aload_n 0, 1) := by decide +kernel
theorem dX12_isWay_6 : decode cX12_isWay 6 = .ok (.getfield 87, 3) := by decide +kernel
theorem dX12_isWay_9 : decode cX12_isWay 9 = .ok (.if_icmp .ge 7, 3) := by decide +kernel
theorem dX12_isWay_12 : decode cX12_isWay 12 = .ok (.iconst 1, 1) := by decide +kernel
theorem dX12_isWay_13 : decode cX12_isWay 13 = .ok (.goto 4, 3) := by decide +kernel
theorem dX12_isWay_16 : decode cX12_isWay 16 = .ok (.iconst 0, 1) := by decide +kernel
theorem dX12_isWay_17 : decode cX12_isWay 17 = .ok (.ireturn, 1) := by decide +kernel
theorem dX12_row_0 : decode cX12_row 0 = .ok (.aload_n 0, 1) := by decide +kernel
theorem dX12_row_1 : decode cX12_row 1 = .ok (.iload_n 1, 1) := by decide +kernel
theorem dX12_row_2 : decode cX12_row 2 = .ok (.invokevirtual 90, 3) := by decide +kernel
theorem dX12_row_5 : decode cX12_row 5 = .ok (.ifCond .ne 9, 3) := by decide +kernel
theorem dX12_row_8 : decode cX12_row 8 = .ok (.aload_n 0, 1) := by decide +kernel
theorem dX12_row_9 : decode cX12_row 9 = .ok (.iconst (-1), 1) := by decide +kernel
theorem dX12_row_10 : decode cX12_row 10 = .ok (.invokevirtual 94, 3) := by decide +kernel
theorem dX12_row_13 : decode cX12_row 13 = .ok (.ireturn, 1) := by decide +kernel
theorem dX12_row_14 : decode cX12_row 14 = .ok (.iload_n 3, 1) := by decide +kernel
theorem dX12_row_15 : decode cX12_row 15 = .ok (.ifCond .ge 10, 3) := by decide +kernel
theorem dX12_row_18 : decode cX12_row 18 = .ok (.aload_n 0, 1) := by decide +kernel
theorem dX12_row_19 : decode cX12_row 19 = .ok (.bipush (-4), 2) := by decide +kernel
theorem dX12_row_21 : decode cX12_row 21 = .ok (.invokevirtual 94, 3) := by decide +kernel
theorem dX12_row_24 : decode cX12_row 24 = .ok (.ireturn, 1) := by decide +kernel
theorem dX12_row_25 : decode cX12_row 25 = .ok (.iload_n 2, 1) := by decide +kernel
theorem dX12_row_26 : decode cX12_row 26 = .ok (.ifCond .lt 8, 3) := by decide +kernel
theorem dX12_row_29 : decode cX12_row 29 = .ok (.iload_n 2, 1) := by decide +kernel
theorem dX12_row_30 : decode cX12_row 30 = .ok (.iconst 3, 1) := by decide +kernel
theorem dX12_row_31 : decode cX12_row 31 = .ok (.if_icmp .le 10, 3) := by decide +kernel
theorem dX12_row_34 : decode cX12_row 34 = .ok (.aload_n 0, 1) := by decide +kernel
theorem dX12_row_35 : decode cX12_row 35 = .ok (.bipush (-6), 2) := by decide +kernel
theorem dX12_row_37 : decode cX12_row 37 = .ok (.invokevirtual 94, 3) := by decide +kernel
theorem dX12_row_40 : decode cX12_row 40 = .ok (.ireturn, 1) := by decide +kernel
theorem dX12_row_41 : decode cX12_row 41 = .ok (.iload_n 3, 1) := by decide +kernel
theorem dX12_row_42 : decode cX12_row 42 = .ok (.sipush 160, 3) := by decide +kernel
theorem dX12_row_45 : decode cX12_row 45 = .ok (.if_icmp .le 10, 3) := by decide +kernel
theorem dX12_row_48 : decode cX12_row 48 = .ok (.aload_n 0, 1) := by decide +kernel
theorem dX12_row_49 : decode cX12_row 49 = .ok (.bipush (-7), 2) := by decide +kernel
theorem dX12_row_51 : decode cX12_row 51 = .ok (.invokevirtual 94, 3) := by decide +kernel
theorem dX12_row_54 : decode cX12_row 54 = .ok (.ireturn, 1) := by decide +kernel
theorem dX12_row_55 : decode cX12_row 55 = .ok (.aload_n 0, 1) := by decide +kernel
theorem dX12_row_56 : decode cX12_row 56 = .ok (.getfield 41, 3) := by decide +kernel
theorem dX12_row_59 : decode cX12_row 59 = .ok (.iload_n 1, 1) := by decide +kernel
theorem dX12_row_60 : decode cX12_row 60 = .ok (.iconst 1, 1) := by decide +kernel
theorem dX12_row_61 : decode cX12_row 61 = .ok (.iastore, 1) := by decide +kernel
theorem dX12_row_62 : decode cX12_row 62 = .ok (.aload_n 0, 1) := by decide +kernel
theorem dX12_row_63 : decode cX12_row 63 = .ok (.getfield 44, 3) := by decide +kernel
theorem dX12_row_66 : decode cX12_row 66 = .ok (.iload_n 1, 1) := by decide +kernel
theorem dX12_row_67 : decode cX12_row 67 = .ok (.iload_n 2, 1) := by decide +kernel
theorem dX12_row_68 : decode cX12_row 68 = .ok (.iastore, 1) := by decide +kernel
theorem dX12_row_69 : decode cX12_row 69 = .ok (.aload_n 0, 1) := by decide +kernel
theorem dX12_row_70 : decode cX12_row 70 = .ok (.getfield 47, 3) := by decide +kernel
theorem dX12_row_73 : decode cX12_row 73 = .ok (.iload_n 1, 1) := by decide +kernel
theorem dX12_row_74 : decode cX12_row 74 = .ok (.iload_n 3, 1) := by decide +kernel
theorem dX12_row_75 : decode cX12_row 75 = .ok (.iastore, 1) := by decide +kernel
theorem dX12_row_76 : decode cX12_row 76 = .ok (.iconst 0, 1) := by decide +kernel
theorem dX12_row_77 : decode cX12_row 77 = .ok (.istore 4, 2) := by decide +kernel
theorem dX12_row_79 : decode cX12_row 79 = .ok (.iload 4, 2) := by decide +kernel
theorem dX12_row_81 : decode cX12_row 81 = .ok (.sipush 160, 3) := by decide +kernel
theorem dX12_row_84 : decode cX12_row 84 = .ok (.if_icmp .ge 23, 3) := by decide +kernel
theorem dX12_row_87 : decode cX12_row 87 = .ok (.aload_n 0, 1) := by decide +kernel
theorem dX12_row_88 : decode cX12_row 88 = .ok (.getfield 53, 3) := by decide +kernel
theorem dX12_row_91 : decode cX12_row 91 = .ok (.sipush 160, 3) := by decide +kernel
theorem dX12_row_94 : decode cX12_row 94 = .ok (.iload_n 1, 1) := by decide +kernel
theorem dX12_row_95 : decode cX12_row 95 = .ok (.imul, 1) := by decide +kernel
theorem dX12_row_96 : decode cX12_row 96 = .ok (.iload 4, 2) := by decide +kernel
theorem dX12_row_98 : decode cX12_row 98 = .ok (.iadd, 1) := by decide +kernel
theorem dX12_row_99 : decode cX12_row 99 = .ok (.lconst 0, 1) := by decide +kernel
theorem dX12_row_100 : decode cX12_row 100 = .ok (.lastore, 1) := by decide +kernel
theorem dX12_row_101 : decode cX12_row 101 = .ok (.iinc 4 1, 3) := by decide +kernel
theorem dX12_row_104 : decode cX12_row 104 = .ok (.goto (-25), 3) := by decide +kernel
theorem dX12_row_107 : decode cX12_row 107 = .ok (.iconst 1, 1) := by decide +kernel
theorem dX12_row_108 : decode cX12_row 108 = .ok (.ireturn, 1) := by decide +kernel
theorem dX12_set_0 : decode cX12_set 0 = .ok (.aload_n 0, 1) := by decide +kernel
theorem dX12_set_1 : decode cX12_set 1 = .ok (.iload_n 1, 1) := by decide +kernel
theorem dX12_set_2 : decode cX12_set 2 = .ok (.invokevirtual 90, 3) := by decide +kernel
theorem dX12_set_5 : decode cX12_set 5 = .ok (.ifCond .ne 9, 3) := by decide +kernel
theorem dX12_set_8 : decode cX12_set 8 = .ok (.aload_n 0, 1) := by decide +kernel
theorem dX12_set_9 : decode cX12_set 9 = .ok (.iconst (-1), 1) := by decide +kernel
theorem dX12_set_10 : decode cX12_set 10 = .ok (.invokevirtual 94, 3) := by decide +kernel
theorem dX12_set_13 : decode cX12_set 13 = .ok (.ireturn, 1) := by decide +kernel
theorem dX12_set_14 : decode cX12_set 14 = .ok (.aload_n 0, 1) := by decide +kernel
theorem dX12_set_15 : decode cX12_set 15 = .ok (.getfield 41, 3) := by decide +kernel
theorem dX12_set_18 : decode cX12_set 18 = .ok (.iload_n 1, 1) := by decide +kernel
theorem dX12_set_19 : decode cX12_set 19 = .ok (.iaload, 1) := by decide +kernel
theorem dX12_set_20 : decode cX12_set 20 = .ok (.iconst 2, 1) := by decide +kernel
theorem dX12_set_21 : decode cX12_set 21 = .ok (.if_icmp .ne 10, 3) := by decide +kernel
theorem dX12_set_24 : decode cX12_set 24 = .ok (.aload_n 0, 1) := by decide +kernel
theorem dX12_set_25 : decode cX12_set 25 = .ok (.bipush (-2), 2) := by decide +kernel
theorem dX12_set_27 : decode cX12_set 27 = .ok (.invokevirtual 94, 3) := by decide +kernel
theorem dX12_set_30 : decode cX12_set 30 = .ok (.ireturn, 1) := by decide +kernel
theorem dX12_set_31 : decode cX12_set 31 = .ok (.aload_n 0, 1) := by decide +kernel
theorem dX12_set_32 : decode cX12_set 32 = .ok (.getfield 41, 3) := by decide +kernel
theorem dX12_set_35 : decode cX12_set 35 = .ok (.iload_n 1, 1) := by decide +kernel
theorem dX12_set_36 : decode cX12_set 36 = .ok (.iaload, 1) := by decide +kernel
theorem dX12_set_37 : decode cX12_set 37 = .ok (.ifCond .ne 10, 3) := by decide +kernel
theorem dX12_set_40 : decode cX12_set 40 = .ok (.aload_n 0, 1) := by decide +kernel
theorem dX12_set_41 : decode cX12_set 41 = .ok (.bipush (-3), 2) := by decide +kernel
theorem dX12_set_43 : decode cX12_set 43 = .ok (.invokevirtual 94, 3) := by decide +kernel
theorem dX12_set_46 : decode cX12_set 46 = .ok (.ireturn, 1) := by decide +kernel
theorem dX12_set_47 : decode cX12_set 47 = .ok (.iload_n 2, 1) := by decide +kernel
theorem dX12_set_48 : decode cX12_set 48 = .ok (.ifCond .lt 13, 3) := by decide +kernel
theorem dX12_set_51 : decode cX12_set 51 = .ok (.iload_n 2, 1) := by decide +kernel
theorem dX12_set_52 : decode cX12_set 52 = .ok (.aload_n 0, 1) := by decide +kernel
theorem dX12_set_53 : decode cX12_set 53 = .ok (.getfield 47, 3) := by decide +kernel
theorem dX12_set_56 : decode cX12_set 56 = .ok (.iload_n 1, 1) := by decide +kernel
theorem dX12_set_57 : decode cX12_set 57 = .ok (.iaload, 1) := by decide +kernel
theorem dX12_set_58 : decode cX12_set 58 = .ok (.if_icmp .lt 10, 3) := by decide +kernel
theorem dX12_set_61 : decode cX12_set 61 = .ok (.aload_n 0, 1) := by decide +kernel
theorem dX12_set_62 : decode cX12_set 62 = .ok (.bipush (-5), 2) := by decide +kernel
theorem dX12_set_64 : decode cX12_set 64 = .ok (.invokevirtual 94, 3) := by decide +kernel
theorem dX12_set_67 : decode cX12_set 67 = .ok (.ireturn, 1) := by decide +kernel
theorem dX12_set_68 : decode cX12_set 68 = .ok (.aload_n 0, 1) := by decide +kernel
theorem dX12_set_69 : decode cX12_set 69 = .ok (.getfield 53, 3) := by decide +kernel
theorem dX12_set_72 : decode cX12_set 72 = .ok (.sipush 160, 3) := by decide +kernel
theorem dX12_set_75 : decode cX12_set 75 = .ok (.iload_n 1, 1) := by decide +kernel
theorem dX12_set_76 : decode cX12_set 76 = .ok (.imul, 1) := by decide +kernel
theorem dX12_set_77 : decode cX12_set 77 = .ok (.iload_n 2, 1) := by decide +kernel
theorem dX12_set_78 : decode cX12_set 78 = .ok (.iadd, 1) := by decide +kernel
theorem dX12_set_79 : decode cX12_set 79 = .ok (.aload_n 0, 1) := by decide +kernel
theorem dX12_set_80 : decode cX12_set 80 = .ok (.getfield 44, 3) := by decide +kernel
theorem dX12_set_83 : decode cX12_set 83 = .ok (.iload_n 1, 1) := by decide +kernel
theorem dX12_set_84 : decode cX12_set 84 = .ok (.iaload, 1) := by decide +kernel
theorem dX12_set_85 : decode cX12_set 85 = .ok (.ifCond .ne 10, 3) := by decide +kernel
theorem dX12_set_88 : decode cX12_set 88 = .ok (.lload_n 3, 1) := by decide +kernel
theorem dX12_set_89 : decode cX12_set 89 = .ok (.l2i, 1) := by decide +kernel
theorem dX12_set_90 : decode cX12_set 90 = .ok (.i2b, 1) := by decide +kernel
theorem dX12_set_91 : decode cX12_set 91 = .ok (.i2l, 1) := by decide +kernel
theorem dX12_set_92 : decode cX12_set 92 = .ok (.goto 37, 3) := by decide +kernel
theorem dX12_set_95 : decode cX12_set 95 = .ok (.aload_n 0, 1) := by decide +kernel
theorem dX12_set_96 : decode cX12_set 96 = .ok (.getfield 44, 3) := by decide +kernel
theorem dX12_set_99 : decode cX12_set 99 = .ok (.iload_n 1, 1) := by decide +kernel
theorem dX12_set_100 : decode cX12_set 100 = .ok (.iaload, 1) := by decide +kernel
theorem dX12_set_101 : decode cX12_set 101 = .ok (.iconst 1, 1) := by decide +kernel
theorem dX12_set_102 : decode cX12_set 102 = .ok (.if_icmp .ne 10, 3) := by decide +kernel
theorem dX12_set_105 : decode cX12_set 105 = .ok (.lload_n 3, 1) := by decide +kernel
theorem dX12_set_106 : decode cX12_set 106 = .ok (.l2i, 1) := by decide +kernel
theorem dX12_set_107 : decode cX12_set 107 = .ok (.i2s, 1) := by decide +kernel
theorem dX12_set_108 : decode cX12_set 108 = .ok (.i2l, 1) := by decide +kernel
theorem dX12_set_109 : decode cX12_set 109 = .ok (.goto 20, 3) := by decide +kernel
theorem dX12_set_112 : decode cX12_set 112 = .ok (.aload_n 0, 1) := by decide +kernel
theorem dX12_set_113 : decode cX12_set 113 = .ok (.getfield 44, 3) := by decide +kernel
theorem dX12_set_116 : decode cX12_set 116 = .ok (.iload_n 1, 1) := by decide +kernel
theorem dX12_set_117 : decode cX12_set 117 = .ok (.iaload, 1) := by decide +kernel
theorem dX12_set_118 : decode cX12_set 118 = .ok (.iconst 2, 1) := by decide +kernel
theorem dX12_set_119 : decode cX12_set 119 = .ok (.if_icmp .ne 9, 3) := by decide +kernel
theorem dX12_set_122 : decode cX12_set 122 = .ok (.lload_n 3, 1) := by decide +kernel
theorem dX12_set_123 : decode cX12_set 123 = .ok (.l2i, 1) := by decide +kernel
theorem dX12_set_124 : decode cX12_set 124 = .ok (.i2l, 1) := by decide +kernel
theorem dX12_set_125 : decode cX12_set 125 = .ok (.goto 4, 3) := by decide +kernel
theorem dX12_set_128 : decode cX12_set 128 = .ok (.lload_n 3, 1) := by decide +kernel
theorem dX12_set_129 : decode cX12_set 129 = .ok (.lastore, 1) := by decide +kernel
theorem dX12_set_130 : decode cX12_set 130 = .ok (.iconst 1, 1) := by decide +kernel
theorem dX12_set_131 : decode cX12_set 131 = .ok (.ireturn, 1) := by decide +kernel
theorem dX12_copy_0 : decode cX12_copy 0 = .ok (.aload_n 0, 1) := by decide +kernel
theorem dX12_copy_1 : decode cX12_copy 1 = .ok (.iload_n 1, 1) := by decide +kernel
theorem dX12_copy_2 : decode cX12_copy 2 = .ok (.invokevirtual 90, 3) := by decide +kernel
theorem dX12_copy_5 : decode cX12_copy 5 = .ok (.ifCond .eq 11, 3) := by decide +kernel
theorem dX12_copy_8 : decode cX12_copy 8 = .ok (.aload_n 0, 1) := by decide +kernel
theorem dX12_copy_9 : decode cX12_copy 9 = .ok (.iload_n 2, 1) := by decide +kernel
theorem dX12_copy_10 : decode cX12_copy 10 = .ok (.invokevirtual 90, 3) := by decide +kernel
theorem dX12_copy_13 : decode cX12_copy 13 = .ok (.ifCond .ne 9, 3) := by decide +kernel
theorem dX12_copy_16 : decode cX12_copy 16 = .ok (.aload_n 0, 1) := by decide +kernel
theorem dX12_copy_17 : decode cX12_copy 17 = .ok (.iconst (-1), 1) := by decide +kernel
theorem dX12_copy_18 : decode cX12_copy 18 = .ok (.invokevirtual 94, 3) := by decide +kernel
theorem dX12_copy_21 : decode cX12_copy 21 = .ok (.ireturn, 1) := by decide +kernel
theorem dX12_copy_22 : decode cX12_copy 22 = .ok (.aload_n 0, 1) := by decide +kernel
theorem dX12_copy_23 : decode cX12_copy 23 = .ok (.getfield 41, 3) := by decide +kernel
theorem dX12_copy_26 : decode cX12_copy 26 = .ok (.iload_n 1, 1) := by decide +kernel
theorem dX12_copy_27 : decode cX12_copy 27 = .ok (.iaload, 1) := by decide +kernel
theorem dX12_copy_28 : decode cX12_copy 28 = .ok (.iconst 2, 1) := by decide +kernel
theorem dX12_copy_29 : decode cX12_copy 29 = .ok (.if_icmp .eq 48, 3) := by decide +kernel
theorem dX12_copy_32 : decode cX12_copy 32 = .ok (.aload_n 0, 1) := by decide +kernel
theorem dX12_copy_33 : decode cX12_copy 33 = .ok (.getfield 41, 3) := by decide +kernel
theorem dX12_copy_36 : decode cX12_copy 36 = .ok (.iload_n 2, 1) := by decide +kernel
theorem dX12_copy_37 : decode cX12_copy 37 = .ok (.iaload, 1) := by decide +kernel
theorem dX12_copy_38 : decode cX12_copy 38 = .ok (.iconst 2, 1) := by decide +kernel
theorem dX12_copy_39 : decode cX12_copy 39 = .ok (.if_icmp .eq 38, 3) := by decide +kernel
theorem dX12_copy_42 : decode cX12_copy 42 = .ok (.aload_n 0, 1) := by decide +kernel
theorem dX12_copy_43 : decode cX12_copy 43 = .ok (.getfield 41, 3) := by decide +kernel
theorem dX12_copy_46 : decode cX12_copy 46 = .ok (.iload_n 1, 1) := by decide +kernel
theorem dX12_copy_47 : decode cX12_copy 47 = .ok (.iaload, 1) := by decide +kernel
theorem dX12_copy_48 : decode cX12_copy 48 = .ok (.iconst 1, 1) := by decide +kernel
theorem dX12_copy_49 : decode cX12_copy 49 = .ok (.if_icmp .ne 35, 3) := by decide +kernel
theorem dX12_copy_52 : decode cX12_copy 52 = .ok (.aload_n 0, 1) := by decide +kernel
theorem dX12_copy_53 : decode cX12_copy 53 = .ok (.getfield 41, 3) := by decide +kernel
theorem dX12_copy_56 : decode cX12_copy 56 = .ok (.iload_n 2, 1) := by decide +kernel
theorem dX12_copy_57 : decode cX12_copy 57 = .ok (.iaload, 1) := by decide +kernel
theorem dX12_copy_58 : decode cX12_copy 58 = .ok (.iconst 1, 1) := by decide +kernel
theorem dX12_copy_59 : decode cX12_copy 59 = .ok (.if_icmp .ne 25, 3) := by decide +kernel
theorem dX12_copy_62 : decode cX12_copy 62 = .ok (.aload_n 0, 1) := by decide +kernel
theorem dX12_copy_63 : decode cX12_copy 63 = .ok (.getfield 44, 3) := by decide +kernel
theorem dX12_copy_66 : decode cX12_copy 66 = .ok (.iload_n 1, 1) := by decide +kernel
theorem dX12_copy_67 : decode cX12_copy 67 = .ok (.iaload, 1) := by decide +kernel
theorem dX12_copy_68 : decode cX12_copy 68 = .ok (.aload_n 0, 1) := by decide +kernel
theorem dX12_copy_69 : decode cX12_copy 69 = .ok (.getfield 44, 3) := by decide +kernel
theorem dX12_copy_72 : decode cX12_copy 72 = .ok (.iload_n 2, 1) := by decide +kernel
theorem dX12_copy_73 : decode cX12_copy 73 = .ok (.iaload, 1) := by decide +kernel
theorem dX12_copy_74 : decode cX12_copy 74 = .ok (.if_icmp .eq 10, 3) := by decide +kernel
theorem dX12_copy_77 : decode cX12_copy 77 = .ok (.aload_n 0, 1) := by decide +kernel
theorem dX12_copy_78 : decode cX12_copy 78 = .ok (.bipush (-2), 2) := by decide +kernel
theorem dX12_copy_80 : decode cX12_copy 80 = .ok (.invokevirtual 94, 3) := by decide +kernel
theorem dX12_copy_83 : decode cX12_copy 83 = .ok (.ireturn, 1) := by decide +kernel
theorem dX12_copy_84 : decode cX12_copy 84 = .ok (.aload_n 0, 1) := by decide +kernel
theorem dX12_copy_85 : decode cX12_copy 85 = .ok (.getfield 41, 3) := by decide +kernel
theorem dX12_copy_88 : decode cX12_copy 88 = .ok (.iload_n 1, 1) := by decide +kernel
theorem dX12_copy_89 : decode cX12_copy 89 = .ok (.iaload, 1) := by decide +kernel
theorem dX12_copy_90 : decode cX12_copy 90 = .ok (.ifCond .eq 12, 3) := by decide +kernel
theorem dX12_copy_93 : decode cX12_copy 93 = .ok (.aload_n 0, 1) := by decide +kernel
theorem dX12_copy_94 : decode cX12_copy 94 = .ok (.getfield 41, 3) := by decide +kernel
theorem dX12_copy_97 : decode cX12_copy 97 = .ok (.iload_n 2, 1) := by decide +kernel
theorem dX12_copy_98 : decode cX12_copy 98 = .ok (.iaload, 1) := by decide +kernel
theorem dX12_copy_99 : decode cX12_copy 99 = .ok (.ifCond .ne 10, 3) := by decide +kernel
theorem dX12_copy_102 : decode cX12_copy 102 = .ok (.aload_n 0, 1) := by decide +kernel
theorem dX12_copy_103 : decode cX12_copy 103 = .ok (.bipush (-3), 2) := by decide +kernel
theorem dX12_copy_105 : decode cX12_copy 105 = .ok (.invokevirtual 94, 3) := by decide +kernel
theorem dX12_copy_108 : decode cX12_copy 108 = .ok (.ireturn, 1) := by decide +kernel
theorem dX12_copy_109 : decode cX12_copy 109 = .ok (.iload 5, 2) := by decide +kernel
theorem dX12_copy_111 : decode cX12_copy 111 = .ok (.ifCond .ge 10, 3) := by decide +kernel
theorem dX12_copy_114 : decode cX12_copy 114 = .ok (.aload_n 0, 1) := by decide +kernel
theorem dX12_copy_115 : decode cX12_copy 115 = .ok (.bipush (-4), 2) := by decide +kernel
theorem dX12_copy_117 : decode cX12_copy 117 = .ok (.invokevirtual 94, 3) := by decide +kernel
theorem dX12_copy_120 : decode cX12_copy 120 = .ok (.ireturn, 1) := by decide +kernel
theorem dX12_copy_121 : decode cX12_copy 121 = .ok (.iload_n 3, 1) := by decide +kernel
theorem dX12_copy_122 : decode cX12_copy 122 = .ok (.ifCond .lt 35, 3) := by decide +kernel
theorem dX12_copy_125 : decode cX12_copy 125 = .ok (.iload 4, 2) := by decide +kernel
theorem dX12_copy_127 : decode cX12_copy 127 = .ok (.ifCond .lt 30, 3) := by decide +kernel
theorem dX12_copy_130 : decode cX12_copy 130 = .ok (.iload_n 3, 1) := by decide +kernel
theorem dX12_copy_131 : decode cX12_copy 131 = .ok (.aload_n 0, 1) := by decide +kernel
theorem dX12_copy_132 : decode cX12_copy 132 = .ok (.getfield 47, 3) := by decide +kernel
theorem dX12_copy_135 : decode cX12_copy 135 = .ok (.iload_n 1, 1) := by decide +kernel
theorem dX12_copy_136 : decode cX12_copy 136 = .ok (.iaload, 1) := by decide +kernel
theorem dX12_copy_137 : decode cX12_copy 137 = .ok (.iload 5, 2) := by decide +kernel
theorem dX12_copy_139 : decode cX12_copy 139 = .ok (.isub, 1) := by decide +kernel
theorem dX12_copy_140 : decode cX12_copy 140 = .ok (.if_icmp .gt 17, 3) := by decide +kernel
theorem dX12_copy_143 : decode cX12_copy 143 = .ok (.iload 4, 2) := by decide +kernel
theorem dX12_copy_145 : decode cX12_copy 145 = .ok (.aload_n 0, 1) := by decide +kernel
theorem dX12_copy_146 : decode cX12_copy 146 = .ok (.getfield 47, 3) := by decide +kernel
theorem dX12_copy_149 : decode cX12_copy 149 = .ok (.iload_n 2, 1) := by decide +kernel
theorem dX12_copy_150 : decode cX12_copy 150 = .ok (.iaload, 1) := by decide +kernel
theorem dX12_copy_151 : decode cX12_copy 151 = .ok (.iload 5, 2) := by decide +kernel
theorem dX12_copy_153 : decode cX12_copy 153 = .ok (.isub, 1) := by decide +kernel
theorem dX12_copy_154 : decode cX12_copy 154 = .ok (.if_icmp .le 10, 3) := by decide +kernel
theorem dX12_copy_157 : decode cX12_copy 157 = .ok (.aload_n 0, 1) := by decide +kernel
theorem dX12_copy_158 : decode cX12_copy 158 = .ok (.bipush (-5), 2) := by decide +kernel
theorem dX12_copy_160 : decode cX12_copy 160 = .ok (.invokevirtual 94, 3) := by decide +kernel
theorem dX12_copy_163 : decode cX12_copy 163 = .ok (.ireturn, 1) := by decide +kernel
theorem dX12_copy_164 : decode cX12_copy 164 = .ok (.iconst 0, 1) := by decide +kernel
theorem dX12_copy_165 : decode cX12_copy 165 = .ok (.istore 6, 2) := by decide +kernel
theorem dX12_copy_167 : decode cX12_copy 167 = .ok (.iload 6, 2) := by decide +kernel
theorem dX12_copy_169 : decode cX12_copy 169 = .ok (.iload 5, 2) := by decide +kernel
theorem dX12_copy_171 : decode cX12_copy 171 = .ok (.if_icmp .ge 31, 3) := by decide +kernel
theorem dX12_copy_174 : decode cX12_copy 174 = .ok (.aload_n 0, 1) := by decide +kernel
theorem dX12_copy_175 : decode cX12_copy 175 = .ok (.getfield 57, 3) := by decide +kernel
theorem dX12_copy_178 : decode cX12_copy 178 = .ok (.iload 6, 2) := by decide +kernel
theorem dX12_copy_180 : decode cX12_copy 180 = .ok (.aload_n 0, 1) := by decide +kernel
theorem dX12_copy_181 : decode cX12_copy 181 = .ok (.getfield 53, 3) := by decide +kernel
theorem dX12_copy_184 : decode cX12_copy 184 = .ok (.sipush 160, 3) := by decide +kernel
theorem dX12_copy_187 : decode cX12_copy 187 = .ok (.iload_n 1, 1) := by decide +kernel
theorem dX12_copy_188 : decode cX12_copy 188 = .ok (.imul, 1) := by decide +kernel
theorem dX12_copy_189 : decode cX12_copy 189 = .ok (.iload_n 3, 1) := by decide +kernel
theorem dX12_copy_190 : decode cX12_copy 190 = .ok (.iadd, 1) := by decide +kernel
theorem dX12_copy_191 : decode cX12_copy 191 = .ok (.iload 6, 2) := by decide +kernel
theorem dX12_copy_193 : decode cX12_copy 193 = .ok (.iadd, 1) := by decide +kernel
theorem dX12_copy_194 : decode cX12_copy 194 = .ok (.laload, 1) := by decide +kernel
theorem dX12_copy_195 : decode cX12_copy 195 = .ok (.lastore, 1) := by decide +kernel
theorem dX12_copy_196 : decode cX12_copy 196 = .ok (.iinc 6 1, 3) := by decide +kernel
theorem dX12_copy_199 : decode cX12_copy 199 = .ok (.goto (-32), 3) := by decide +kernel
theorem dX12_copy_202 : decode cX12_copy 202 = .ok (.iconst 0, 1) := by decide +kernel
theorem dX12_copy_203 : decode cX12_copy 203 = .ok (.istore 6, 2) := by decide +kernel
theorem dX12_copy_205 : decode cX12_copy 205 = .ok (.iload 6, 2) := by decide +kernel
theorem dX12_copy_207 : decode cX12_copy 207 = .ok (.iload 5, 2) := by decide +kernel
theorem dX12_copy_209 : decode cX12_copy 209 = .ok (.if_icmp .ge 32, 3) := by decide +kernel
theorem dX12_copy_212 : decode cX12_copy 212 = .ok (.aload_n 0, 1) := by decide +kernel
theorem dX12_copy_213 : decode cX12_copy 213 = .ok (.getfield 53, 3) := by decide +kernel
theorem dX12_copy_216 : decode cX12_copy 216 = .ok (.sipush 160, 3) := by decide +kernel
theorem dX12_copy_219 : decode cX12_copy 219 = .ok (.iload_n 2, 1) := by decide +kernel
theorem dX12_copy_220 : decode cX12_copy 220 = .ok (.imul, 1) := by decide +kernel
theorem dX12_copy_221 : decode cX12_copy 221 = .ok (.iload 4, 2) := by decide +kernel
theorem dX12_copy_223 : decode cX12_copy 223 = .ok (.iadd, 1) := by decide +kernel
theorem dX12_copy_224 : decode cX12_copy 224 = .ok (.iload 6, 2) := by decide +kernel
theorem dX12_copy_226 : decode cX12_copy 226 = .ok (.iadd, 1) := by decide +kernel
theorem dX12_copy_227 : decode cX12_copy 227 = .ok (.aload_n 0, 1) := by decide +kernel
theorem dX12_copy_228 : decode cX12_copy 228 = .ok (.getfield 57, 3) := by decide +kernel
theorem dX12_copy_231 : decode cX12_copy 231 = .ok (.iload 6, 2) := by decide +kernel
theorem dX12_copy_233 : decode cX12_copy 233 = .ok (.laload, 1) := by decide +kernel
theorem dX12_copy_234 : decode cX12_copy 234 = .ok (.lastore, 1) := by decide +kernel
theorem dX12_copy_235 : decode cX12_copy 235 = .ok (.iinc 6 1, 3) := by decide +kernel
theorem dX12_copy_238 : decode cX12_copy 238 = .ok (.goto (-33), 3) := by decide +kernel
theorem dX12_copy_241 : decode cX12_copy 241 = .ok (.iconst 1, 1) := by decide +kernel
theorem dX12_copy_242 : decode cX12_copy 242 = .ok (.ireturn, 1) := by decide +kernel
theorem dX12_element_0 : decode cX12_element 0 = .ok (.aload_n 0, 1) := by decide +kernel
theorem dX12_element_1 : decode cX12_element 1 = .ok (.iload_n 1, 1) := by decide +kernel
theorem dX12_element_2 : decode cX12_element 2 = .ok (.invokevirtual 90, 3) := by decide +kernel
theorem dX12_element_5 : decode cX12_element 5 = .ok (.ifCond .eq 42, 3) := by decide +kernel
theorem dX12_element_8 : decode cX12_element 8 = .ok (.aload_n 0, 1) := by decide +kernel
theorem dX12_element_9 : decode cX12_element 9 = .ok (.getfield 41, 3) := by decide +kernel
theorem dX12_element_12 : decode cX12_element 12 = .ok (.iload_n 1, 1) := by decide +kernel
theorem dX12_element_13 : decode cX12_element 13 = .ok (.iaload, 1) := by decide +kernel
theorem dX12_element_14 : decode cX12_element 14 = .ok (.iconst 1, 1) := by decide +kernel
theorem dX12_element_15 : decode cX12_element 15 = .ok (.if_icmp .ne 32, 3) := by decide +kernel
theorem dX12_element_18 : decode cX12_element 18 = .ok (.iload_n 2, 1) := by decide +kernel
theorem dX12_element_19 : decode cX12_element 19 = .ok (.ifCond .lt 28, 3) := by decide +kernel
theorem dX12_element_22 : decode cX12_element 22 = .ok (.iload_n 2, 1) := by decide +kernel
theorem dX12_element_23 : decode cX12_element 23 = .ok (.aload_n 0, 1) := by decide +kernel
theorem dX12_element_24 : decode cX12_element 24 = .ok (.getfield 47, 3) := by decide +kernel
theorem dX12_element_27 : decode cX12_element 27 = .ok (.iload_n 1, 1) := by decide +kernel
theorem dX12_element_28 : decode cX12_element 28 = .ok (.iaload, 1) := by decide +kernel
theorem dX12_element_29 : decode cX12_element 29 = .ok (.if_icmp .ge 18, 3) := by decide +kernel
theorem dX12_element_32 : decode cX12_element 32 = .ok (.aload_n 0, 1) := by decide +kernel
theorem dX12_element_33 : decode cX12_element 33 = .ok (.getfield 53, 3) := by decide +kernel
theorem dX12_element_36 : decode cX12_element 36 = .ok (.sipush 160, 3) := by decide +kernel
theorem dX12_element_39 : decode cX12_element 39 = .ok (.iload_n 1, 1) := by decide +kernel
theorem dX12_element_40 : decode cX12_element 40 = .ok (.imul, 1) := by decide +kernel
theorem dX12_element_41 : decode cX12_element 41 = .ok (.iload_n 2, 1) := by decide +kernel
theorem dX12_element_42 : decode cX12_element 42 = .ok (.iadd, 1) := by decide +kernel
theorem dX12_element_43 : decode cX12_element 43 = .ok (.laload, 1) := by decide +kernel
theorem dX12_element_44 : decode cX12_element 44 = .ok (.goto 4, 3) := by decide +kernel
theorem dX12_element_47 : decode cX12_element 47 = .ok (.lconst 0, 1) := by decide +kernel
theorem dX12_element_48 : decode cX12_element 48 = .ok (.lreturn, 1) := by decide +kernel
theorem dX12_show_0 : decode cX12_show 0 = .ok (.aload_n 0, 1) := by decide +kernel
theorem dX12_show_1 : decode cX12_show 1 = .ok (.iload_n 1, 1) := by decide +kernel
theorem dX12_show_2 : decode cX12_show 2 = .ok (.invokevirtual 90, 3) := by decide +kernel
theorem dX12_show_5 : decode cX12_show 5 = .ok (.ifCond .eq 16, 3) := by decide +kernel
theorem dX12_show_8 : decode cX12_show 8 = .ok (.iload_n 2, 1) := by decide +kernel
theorem dX12_show_9 : decode cX12_show 9 = .ok (.iconst (-1), 1) := by decide +kernel
theorem dX12_show_10 : decode cX12_show 10 = .ok (.if_icmp .eq 17, 3) := by decide +kernel
theorem dX12_show_13 : decode cX12_show 13 = .ok (.aload_n 0, 1) := by decide +kernel
theorem dX12_show_14 : decode cX12_show 14 = .ok (.iload_n 2, 1) := by decide +kernel
theorem dX12_show_15 : decode cX12_show 15 = .ok (.invokevirtual 98, 3) := by decide +kernel
theorem dX12_show_18 : decode cX12_show 18 = .ok (.ifCond .ne 9, 3) := by decide +kernel
theorem dX12_show_21 : decode cX12_show 21 = .ok (.aload_n 0, 1) := by decide +kernel
theorem dX12_show_22 : decode cX12_show 22 = .ok (.iconst (-1), 1) := by decide +kernel
theorem dX12_show_23 : decode cX12_show 23 = .ok (.invokevirtual 94, 3) := by decide +kernel
theorem dX12_show_26 : decode cX12_show 26 = .ok (.ireturn, 1) := by decide +kernel
theorem dX12_show_27 : decode cX12_show 27 = .ok (.aload_n 0, 1) := by decide +kernel
theorem dX12_show_28 : decode cX12_show 28 = .ok (.getfield 41, 3) := by decide +kernel
theorem dX12_show_31 : decode cX12_show 31 = .ok (.iload_n 1, 1) := by decide +kernel
theorem dX12_show_32 : decode cX12_show 32 = .ok (.iload_n 2, 1) := by decide +kernel
theorem dX12_show_33 : decode cX12_show 33 = .ok (.iconst (-1), 1) := by decide +kernel
theorem dX12_show_34 : decode cX12_show 34 = .ok (.if_icmp .ne 7, 3) := by decide +kernel
theorem dX12_show_37 : decode cX12_show 37 = .ok (.iconst 0, 1) := by decide +kernel
theorem dX12_show_38 : decode cX12_show 38 = .ok (.goto 4, 3) := by decide +kernel
theorem dX12_show_41 : decode cX12_show 41 = .ok (.iconst 2, 1) := by decide +kernel
theorem dX12_show_42 : decode cX12_show 42 = .ok (.iastore, 1) := by decide +kernel
theorem dX12_show_43 : decode cX12_show 43 = .ok (.aload_n 0, 1) := by decide +kernel
theorem dX12_show_44 : decode cX12_show 44 = .ok (.getfield 50, 3) := by decide +kernel
theorem dX12_show_47 : decode cX12_show 47 = .ok (.iload_n 1, 1) := by decide +kernel
theorem dX12_show_48 : decode cX12_show 48 = .ok (.iload_n 2, 1) := by decide +kernel
theorem dX12_show_49 : decode cX12_show 49 = .ok (.iastore, 1) := by decide +kernel
theorem dX12_show_50 : decode cX12_show 50 = .ok (.iload_n 2, 1) := by decide +kernel
theorem dX12_show_51 : decode cX12_show 51 = .ok (.iconst (-1), 1) := by decide +kernel
theorem dX12_show_52 : decode cX12_show 52 = .ok (.if_icmp .ne 7, 3) := by decide +kernel
theorem dX12_show_55 : decode cX12_show 55 = .ok (.iconst 0, 1) := by decide +kernel
theorem dX12_show_56 : decode cX12_show 56 = .ok (.goto 4, 3) := by decide +kernel
theorem dX12_show_59 : decode cX12_show 59 = .ok (.iconst 1, 1) := by decide +kernel
theorem dX12_show_60 : decode cX12_show 60 = .ok (.ireturn, 1) := by decide +kernel
theorem dX12_holds_0 : decode cX12_holds 0 = .ok (.aload_n 0, 1) := by decide +kernel
theorem dX12_holds_1 : decode cX12_holds 1 = .ok (.iload_n 1, 1) := by decide +kernel
theorem dX12_holds_2 : decode cX12_holds 2 = .ok (.invokevirtual 90, 3) := by decide +kernel
theorem dX12_holds_5 : decode cX12_holds 5 = .ok (.ifCond .eq 12, 3) := by decide +kernel
theorem dX12_holds_8 : decode cX12_holds 8 = .ok (.aload_n 0, 1) := by decide +kernel
theorem dX12_holds_9 : decode cX12_holds 9 = .ok (.getfield 41, 3) := by decide +kernel
theorem dX12_holds_12 : decode cX12_holds 12 = .ok (.iload_n 1, 1) := by decide +kernel
theorem dX12_holds_13 : decode cX12_holds 13 = .ok (.iaload, 1) := by decide +kernel
theorem dX12_holds_14 : decode cX12_holds 14 = .ok (.ifCond .ne 5, 3) := by decide +kernel
theorem dX12_holds_17 : decode cX12_holds 17 = .ok (.iconst (-1), 1) := by decide +kernel
theorem dX12_holds_18 : decode cX12_holds 18 = .ok (.ireturn, 1) := by decide +kernel
theorem dX12_holds_19 : decode cX12_holds 19 = .ok (.aload_n 0, 1) := by decide +kernel
theorem dX12_holds_20 : decode cX12_holds 20 = .ok (.getfield 41, 3) := by decide +kernel
theorem dX12_holds_23 : decode cX12_holds 23 = .ok (.iload_n 1, 1) := by decide +kernel
theorem dX12_holds_24 : decode cX12_holds 24 = .ok (.iaload, 1) := by decide +kernel
theorem dX12_holds_25 : decode cX12_holds 25 = .ok (.iconst 1, 1) := by decide +kernel
theorem dX12_holds_26 : decode cX12_holds 26 = .ok (.if_icmp .ne 15, 3) := by decide +kernel
theorem dX12_holds_29 : decode cX12_holds 29 = .ok (.bipush 100, 2) := by decide +kernel
theorem dX12_holds_31 : decode cX12_holds 31 = .ok (.aload_n 0, 1) := by decide +kernel
theorem dX12_holds_32 : decode cX12_holds 32 = .ok (.getfield 44, 3) := by decide +kernel
theorem dX12_holds_35 : decode cX12_holds 35 = .ok (.iload_n 1, 1) := by decide +kernel
theorem dX12_holds_36 : decode cX12_holds 36 = .ok (.iaload, 1) := by decide +kernel
theorem dX12_holds_37 : decode cX12_holds 37 = .ok (.iadd, 1) := by decide +kernel
theorem dX12_holds_38 : decode cX12_holds 38 = .ok (.goto 9, 3) := by decide +kernel
theorem dX12_holds_41 : decode cX12_holds 41 = .ok (.aload_n 0, 1) := by decide +kernel
theorem dX12_holds_42 : decode cX12_holds 42 = .ok (.getfield 50, 3) := by decide +kernel
theorem dX12_holds_45 : decode cX12_holds 45 = .ok (.iload_n 1, 1) := by decide +kernel
theorem dX12_holds_46 : decode cX12_holds 46 = .ok (.iaload, 1) := by decide +kernel
theorem dX12_holds_47 : decode cX12_holds 47 = .ok (.ireturn, 1) := by decide +kernel
theorem dX12_says_0 : decode cX12_says 0 = .ok (.aload_n 0, 1) := by decide +kernel
theorem dX12_says_1 : decode cX12_says 1 = .ok (.iload_n 1, 1) := by decide +kernel
theorem dX12_says_2 : decode cX12_says 2 = .ok (.invokevirtual 90, 3) := by decide +kernel
theorem dX12_says_5 : decode cX12_says 5 = .ok (.ifCond .eq 13, 3) := by decide +kernel
theorem dX12_says_8 : decode cX12_says 8 = .ok (.iload_n 2, 1) := by decide +kernel
theorem dX12_says_9 : decode cX12_says 9 = .ok (.ifCond .lt 9, 3) := by decide +kernel
theorem dX12_says_12 : decode cX12_says 12 = .ok (.iload_n 2, 1) := by decide +kernel
theorem dX12_says_13 : decode cX12_says 13 = .ok (.bipush 6, 2) := by decide +kernel
theorem dX12_says_15 : decode cX12_says 15 = .ok (.if_icmp .le 9, 3) := by decide +kernel
theorem dX12_says_18 : decode cX12_says 18 = .ok (.aload_n 0, 1) := by decide +kernel
theorem dX12_says_19 : decode cX12_says 19 = .ok (.iconst (-1), 1) := by decide +kernel
theorem dX12_says_20 : decode cX12_says 20 = .ok (.invokevirtual 94, 3) := by decide +kernel
theorem dX12_says_23 : decode cX12_says 23 = .ok (.ireturn, 1) := by decide +kernel
theorem dX12_says_24 : decode cX12_says 24 = .ok (.aload_n 0, 1) := by decide +kernel
theorem dX12_says_25 : decode cX12_says 25 = .ok (.getfield 41, 3) := by decide +kernel
theorem dX12_says_28 : decode cX12_says 28 = .ok (.iload_n 1, 1) := by decide +kernel
theorem dX12_says_29 : decode cX12_says 29 = .ok (.iaload, 1) := by decide +kernel
theorem dX12_says_30 : decode cX12_says 30 = .ok (.iconst 1, 1) := by decide +kernel
theorem dX12_says_31 : decode cX12_says 31 = .ok (.if_icmp .ne 10, 3) := by decide +kernel
theorem dX12_says_34 : decode cX12_says 34 = .ok (.aload_n 0, 1) := by decide +kernel
theorem dX12_says_35 : decode cX12_says 35 = .ok (.bipush (-2), 2) := by decide +kernel
theorem dX12_says_37 : decode cX12_says 37 = .ok (.invokevirtual 94, 3) := by decide +kernel
theorem dX12_says_40 : decode cX12_says 40 = .ok (.ireturn, 1) := by decide +kernel
theorem dX12_says_41 : decode cX12_says 41 = .ok (.aload_n 0, 1) := by decide +kernel
theorem dX12_says_42 : decode cX12_says 42 = .ok (.getfield 41, 3) := by decide +kernel
theorem dX12_says_45 : decode cX12_says 45 = .ok (.iload_n 1, 1) := by decide +kernel
theorem dX12_says_46 : decode cX12_says 46 = .ok (.iaload, 1) := by decide +kernel
theorem dX12_says_47 : decode cX12_says 47 = .ok (.ifCond .ne 10, 3) := by decide +kernel
theorem dX12_says_50 : decode cX12_says 50 = .ok (.aload_n 0, 1) := by decide +kernel
theorem dX12_says_51 : decode cX12_says 51 = .ok (.bipush (-3), 2) := by decide +kernel
theorem dX12_says_53 : decode cX12_says 53 = .ok (.invokevirtual 94, 3) := by decide +kernel
theorem dX12_says_56 : decode cX12_says 56 = .ok (.ireturn, 1) := by decide +kernel
theorem dX12_says_57 : decode cX12_says 57 = .ok (.aload_n 0, 1) := by decide +kernel
theorem dX12_says_58 : decode cX12_says 58 = .ok (.getfield 50, 3) := by decide +kernel
theorem dX12_says_61 : decode cX12_says 61 = .ok (.iload_n 1, 1) := by decide +kernel
theorem dX12_says_62 : decode cX12_says 62 = .ok (.iaload, 1) := by decide +kernel
theorem dX12_says_63 : decode cX12_says 63 = .ok (.istore_n 3, 1) := by decide +kernel
theorem dX12_says_64 : decode cX12_says 64 = .ok (.aload_n 0, 1) := by decide +kernel
theorem dX12_says_65 : decode cX12_says 65 = .ok (.getfield 35, 3) := by decide +kernel
theorem dX12_says_68 : decode cX12_says 68 = .ok (.iload_n 3, 1) := by decide +kernel
theorem dX12_says_69 : decode cX12_says 69 = .ok (.iaload, 1) := by decide +kernel
theorem dX12_says_70 : decode cX12_says 70 = .ok (.istore 4, 2) := by decide +kernel
theorem dX12_says_72 : decode cX12_says 72 = .ok (.iload_n 2, 1) := by decide +kernel
theorem dX12_says_73 : decode cX12_says 73 = .ok (.ifCond .eq 39, 3) := by decide +kernel
theorem dX12_says_76 : decode cX12_says 76 = .ok (.iload_n 2, 1) := by decide +kernel
theorem dX12_says_77 : decode cX12_says 77 = .ok (.iload 4, 2) := by decide +kernel
theorem dX12_says_79 : decode cX12_says 79 = .ok (.if_icmp .eq 33, 3) := by decide +kernel
theorem dX12_says_82 : decode cX12_says 82 = .ok (.iload_n 2, 1) := by decide +kernel
theorem dX12_says_83 : decode cX12_says 83 = .ok (.iconst 1, 1) := by decide +kernel
theorem dX12_says_84 : decode cX12_says 84 = .ok (.if_icmp .ne 9, 3) := by decide +kernel
theorem dX12_says_87 : decode cX12_says 87 = .ok (.iload 4, 2) := by decide +kernel
theorem dX12_says_89 : decode cX12_says 89 = .ok (.iconst 2, 1) := by decide +kernel
theorem dX12_says_90 : decode cX12_says 90 = .ok (.if_icmp .eq 22, 3) := by decide +kernel
theorem dX12_says_93 : decode cX12_says 93 = .ok (.iload_n 2, 1) := by decide +kernel
theorem dX12_says_94 : decode cX12_says 94 = .ok (.iconst 5, 1) := by decide +kernel
theorem dX12_says_95 : decode cX12_says 95 = .ok (.if_icmp .ne 10, 3) := by decide +kernel
theorem dX12_says_98 : decode cX12_says 98 = .ok (.iload 4, 2) := by decide +kernel
theorem dX12_says_100 : decode cX12_says 100 = .ok (.bipush 6, 2) := by decide +kernel
theorem dX12_says_102 : decode cX12_says 102 = .ok (.if_icmp .eq 10, 3) := by decide +kernel
theorem dX12_says_105 : decode cX12_says 105 = .ok (.aload_n 0, 1) := by decide +kernel
theorem dX12_says_106 : decode cX12_says 106 = .ok (.bipush (-2), 2) := by decide +kernel
theorem dX12_says_108 : decode cX12_says 108 = .ok (.invokevirtual 94, 3) := by decide +kernel
theorem dX12_says_111 : decode cX12_says 111 = .ok (.ireturn, 1) := by decide +kernel
theorem dX12_says_112 : decode cX12_says 112 = .ok (.iload_n 2, 1) := by decide +kernel
theorem dX12_says_113 : decode cX12_says 113 = .ok (.tableswitch 206 0 6 #[43, 206, 206, 50, 59, 101, 162], 43) := by decide +kernel
theorem dX12_says_156 : decode cX12_says 156 = .ok (.aload_n 0, 1) := by decide +kernel
theorem dX12_says_157 : decode cX12_says 157 = .ok (.getfield 38, 3) := by decide +kernel
theorem dX12_says_160 : decode cX12_says 160 = .ok (.iload_n 3, 1) := by decide +kernel
theorem dX12_says_161 : decode cX12_says 161 = .ok (.iaload, 1) := by decide +kernel
theorem dX12_says_162 : decode cX12_says 162 = .ok (.ireturn, 1) := by decide +kernel
theorem dX12_says_163 : decode cX12_says 163 = .ok (.aload_n 0, 1) := by decide +kernel
theorem dX12_says_164 : decode cX12_says 164 = .ok (.getfield 38, 3) := by decide +kernel
theorem dX12_says_167 : decode cX12_says 167 = .ok (.iload_n 3, 1) := by decide +kernel
theorem dX12_says_168 : decode cX12_says 168 = .ok (.iaload, 1) := by decide +kernel
theorem dX12_says_169 : decode cX12_says 169 = .ok (.iconst 3, 1) := by decide +kernel
theorem dX12_says_170 : decode cX12_says 170 = .ok (.irem, 1) := by decide +kernel
theorem dX12_says_171 : decode cX12_says 171 = .ok (.ireturn, 1) := by decide +kernel
theorem dX12_says_172 : decode cX12_says 172 = .ok (.iconst 0, 1) := by decide +kernel
theorem dX12_says_173 : decode cX12_says 173 = .ok (.istore 5, 2) := by decide +kernel
theorem dX12_says_175 : decode cX12_says 175 = .ok (.iconst 0, 1) := by decide +kernel
theorem dX12_says_176 : decode cX12_says 176 = .ok (.istore 6, 2) := by decide +kernel
theorem dX12_says_178 : decode cX12_says 178 = .ok (.iload 6, 2) := by decide +kernel
theorem dX12_says_180 : decode cX12_says 180 = .ok (.aload_n 0, 1) := by decide +kernel
theorem dX12_says_181 : decode cX12_says 181 = .ok (.getfield 81, 3) := by decide +kernel
theorem dX12_says_184 : decode cX12_says 184 = .ok (.if_icmp .ge 27, 3) := by decide +kernel
theorem dX12_says_187 : decode cX12_says 187 = .ok (.aload_n 0, 1) := by decide +kernel
theorem dX12_says_188 : decode cX12_says 188 = .ok (.iload 6, 2) := by decide +kernel
theorem dX12_says_190 : decode cX12_says 190 = .ok (.invokevirtual 101, 3) := by decide +kernel
theorem dX12_says_193 : decode cX12_says 193 = .ok (.aload_n 0, 1) := by decide +kernel
theorem dX12_says_194 : decode cX12_says 194 = .ok (.getfield 38, 3) := by decide +kernel
theorem dX12_says_197 : decode cX12_says 197 = .ok (.iload_n 3, 1) := by decide +kernel
theorem dX12_says_198 : decode cX12_says 198 = .ok (.iaload, 1) := by decide +kernel
theorem dX12_says_199 : decode cX12_says 199 = .ok (.if_icmp .ge 6, 3) := by decide +kernel
theorem dX12_says_202 : decode cX12_says 202 = .ok (.iinc 5 1, 3) := by decide +kernel
theorem dX12_says_205 : decode cX12_says 205 = .ok (.iinc 6 1, 3) := by decide +kernel
theorem dX12_says_208 : decode cX12_says 208 = .ok (.goto (-30), 3) := by decide +kernel
theorem dX12_says_211 : decode cX12_says 211 = .ok (.iload 5, 2) := by decide +kernel
theorem dX12_says_213 : decode cX12_says 213 = .ok (.ireturn, 1) := by decide +kernel
theorem dX12_says_214 : decode cX12_says 214 = .ok (.iconst (-1), 1) := by decide +kernel
theorem dX12_says_215 : decode cX12_says 215 = .ok (.istore 5, 2) := by decide +kernel
theorem dX12_says_217 : decode cX12_says 217 = .ok (.iconst 0, 1) := by decide +kernel
theorem dX12_says_218 : decode cX12_says 218 = .ok (.istore 6, 2) := by decide +kernel
theorem dX12_says_220 : decode cX12_says 220 = .ok (.iload 6, 2) := by decide +kernel
theorem dX12_says_222 : decode cX12_says 222 = .ok (.aload_n 0, 1) := by decide +kernel
theorem dX12_says_223 : decode cX12_says 223 = .ok (.getfield 81, 3) := by decide +kernel
theorem dX12_says_226 : decode cX12_says 226 = .ok (.if_icmp .ge 46, 3) := by decide +kernel
theorem dX12_says_229 : decode cX12_says 229 = .ok (.iload 5, 2) := by decide +kernel
theorem dX12_says_231 : decode cX12_says 231 = .ok (.iconst (-1), 1) := by decide +kernel
theorem dX12_says_232 : decode cX12_says 232 = .ok (.if_icmp .eq 30, 3) := by decide +kernel
theorem dX12_says_235 : decode cX12_says 235 = .ok (.aload_n 0, 1) := by decide +kernel
theorem dX12_says_236 : decode cX12_says 236 = .ok (.getfield 20, 3) := by decide +kernel
theorem dX12_says_239 : decode cX12_says 239 = .ok (.bipush 6, 2) := by decide +kernel
theorem dX12_says_241 : decode cX12_says 241 = .ok (.iload 6, 2) := by decide +kernel
theorem dX12_says_243 : decode cX12_says 243 = .ok (.imul, 1) := by decide +kernel
theorem dX12_says_244 : decode cX12_says 244 = .ok (.iconst 5, 1) := by decide +kernel
theorem dX12_says_245 : decode cX12_says 245 = .ok (.iadd, 1) := by decide +kernel
theorem dX12_says_246 : decode cX12_says 246 = .ok (.iaload, 1) := by decide +kernel
theorem dX12_says_247 : decode cX12_says 247 = .ok (.aload_n 0, 1) := by decide +kernel
theorem dX12_says_248 : decode cX12_says 248 = .ok (.getfield 20, 3) := by decide +kernel
theorem dX12_says_251 : decode cX12_says 251 = .ok (.bipush 6, 2) := by decide +kernel
theorem dX12_says_253 : decode cX12_says 253 = .ok (.iload 5, 2) := by decide +kernel
theorem dX12_says_255 : decode cX12_says 255 = .ok (.imul, 1) := by decide +kernel
theorem dX12_says_256 : decode cX12_says 256 = .ok (.iconst 5, 1) := by decide +kernel
theorem dX12_says_257 : decode cX12_says 257 = .ok (.iadd, 1) := by decide +kernel
theorem dX12_says_258 : decode cX12_says 258 = .ok (.iaload, 1) := by decide +kernel
theorem dX12_says_259 : decode cX12_says 259 = .ok (.if_icmp .le 7, 3) := by decide +kernel
theorem dX12_says_262 : decode cX12_says 262 = .ok (.iload 6, 2) := by decide +kernel
theorem dX12_says_264 : decode cX12_says 264 = .ok (.istore 5, 2) := by decide +kernel
theorem dX12_says_266 : decode cX12_says 266 = .ok (.iinc 6 1, 3) := by decide +kernel
theorem dX12_says_269 : decode cX12_says 269 = .ok (.goto (-49), 3) := by decide +kernel
theorem dX12_says_272 : decode cX12_says 272 = .ok (.iload 5, 2) := by decide +kernel
theorem dX12_says_274 : decode cX12_says 274 = .ok (.ireturn, 1) := by decide +kernel
theorem dX12_says_275 : decode cX12_says 275 = .ok (.aload_n 0, 1) := by decide +kernel
theorem dX12_says_276 : decode cX12_says 276 = .ok (.iload_n 3, 1) := by decide +kernel
theorem dX12_says_277 : decode cX12_says 277 = .ok (.iconst 1, 1) := by decide +kernel
theorem dX12_says_278 : decode cX12_says 278 = .ok (.invokevirtual 104, 3) := by decide +kernel
theorem dX12_says_281 : decode cX12_says 281 = .ok (.istore 5, 2) := by decide +kernel
theorem dX12_says_283 : decode cX12_says 283 = .ok (.aload_n 0, 1) := by decide +kernel
theorem dX12_says_284 : decode cX12_says 284 = .ok (.getfield 35, 3) := by decide +kernel
theorem dX12_says_287 : decode cX12_says 287 = .ok (.iload_n 3, 1) := by decide +kernel
theorem dX12_says_288 : decode cX12_says 288 = .ok (.iconst 5, 1) := by decide +kernel
theorem dX12_says_289 : decode cX12_says 289 = .ok (.iastore, 1) := by decide +kernel
theorem dX12_says_290 : decode cX12_says 290 = .ok (.aload_n 0, 1) := by decide +kernel
theorem dX12_says_291 : decode cX12_says 291 = .ok (.iload_n 3, 1) := by decide +kernel
theorem dX12_says_292 : decode cX12_says 292 = .ok (.iconst 1, 1) := by decide +kernel
theorem dX12_says_293 : decode cX12_says 293 = .ok (.invokevirtual 104, 3) := by decide +kernel
theorem dX12_says_296 : decode cX12_says 296 = .ok (.istore 6, 2) := by decide +kernel
theorem dX12_says_298 : decode cX12_says 298 = .ok (.aload_n 0, 1) := by decide +kernel
theorem dX12_says_299 : decode cX12_says 299 = .ok (.getfield 35, 3) := by decide +kernel
theorem dX12_says_302 : decode cX12_says 302 = .ok (.iload_n 3, 1) := by decide +kernel
theorem dX12_says_303 : decode cX12_says 303 = .ok (.bipush 6, 2) := by decide +kernel
theorem dX12_says_305 : decode cX12_says 305 = .ok (.iastore, 1) := by decide +kernel
theorem dX12_says_306 : decode cX12_says 306 = .ok (.iload 5, 2) := by decide +kernel
theorem dX12_says_308 : decode cX12_says 308 = .ok (.iload 6, 2) := by decide +kernel
theorem dX12_says_310 : decode cX12_says 310 = .ok (.if_icmp .ne 7, 3) := by decide +kernel
theorem dX12_says_313 : decode cX12_says 313 = .ok (.iconst 0, 1) := by decide +kernel
theorem dX12_says_314 : decode cX12_says 314 = .ok (.goto 4, 3) := by decide +kernel
theorem dX12_says_317 : decode cX12_says 317 = .ok (.iconst 1, 1) := by decide +kernel
theorem dX12_says_318 : decode cX12_says 318 = .ok (.ireturn, 1) := by decide +kernel
theorem dX12_says_319 : decode cX12_says 319 = .ok (.aload_n 0, 1) := by decide +kernel
theorem dX12_says_320 : decode cX12_says 320 = .ok (.iload_n 3, 1) := by decide +kernel
theorem dX12_says_321 : decode cX12_says 321 = .ok (.invokevirtual 108, 3) := by decide +kernel
theorem dX12_says_324 : decode cX12_says 324 = .ok (.ireturn, 1) := by decide +kernel
theorem dX12_wants_0 : decode cX12_wants 0 = .ok (.aload_n 0, 1) := by decide +kernel
theorem dX12_wants_1 : decode cX12_wants 1 = .ok (.iload_n 1, 1) := by decide +kernel
theorem dX12_wants_2 : decode cX12_wants 2 = .ok (.invokevirtual 90, 3) := by decide +kernel
theorem dX12_wants_5 : decode cX12_wants 5 = .ok (.ifCond .ne 7, 3) := by decide +kernel
theorem dX12_wants_8 : decode cX12_wants 8 = .ok (.iconst (-1), 1) := by decide +kernel
theorem dX12_wants_9 : decode cX12_wants 9 = .ok (.goto 33, 3) := by decide +kernel
theorem dX12_wants_12 : decode cX12_wants 12 = .ok (.aload_n 0, 1) := by decide +kernel
theorem dX12_wants_13 : decode cX12_wants 13 = .ok (.getfield 41, 3) := by decide +kernel
theorem dX12_wants_16 : decode cX12_wants 16 = .ok (.iload_n 1, 1) := by decide +kernel
theorem dX12_wants_17 : decode cX12_wants 17 = .ok (.iaload, 1) := by decide +kernel
theorem dX12_wants_18 : decode cX12_wants 18 = .ok (.iconst 2, 1) := by decide +kernel
theorem dX12_wants_19 : decode cX12_wants 19 = .ok (.if_icmp .ne 8, 3) := by decide +kernel
theorem dX12_wants_22 : decode cX12_wants 22 = .ok (.bipush (-2), 2) := by decide +kernel
theorem dX12_wants_24 : decode cX12_wants 24 = .ok (.goto 18, 3) := by decide +kernel
theorem dX12_wants_27 : decode cX12_wants 27 = .ok (.aload_n 0, 1) := by decide +kernel
theorem dX12_wants_28 : decode cX12_wants 28 = .ok (.getfield 41, 3) := by decide +kernel
theorem dX12_wants_31 : decode cX12_wants 31 = .ok (.iload_n 1, 1) := by decide +kernel
theorem dX12_wants_32 : decode cX12_wants 32 = .ok (.iaload, 1) := by decide +kernel
theorem dX12_wants_33 : decode cX12_wants 33 = .ok (.ifCond .ne 8, 3) := by decide +kernel
theorem dX12_wants_36 : decode cX12_wants 36 = .ok (.bipush (-3), 2) := by decide +kernel
theorem dX12_wants_38 : decode cX12_wants 38 = .ok (.goto 4, 3) := by decide +kernel
theorem dX12_wants_41 : decode cX12_wants 41 = .ok (.iconst 0, 1) := by decide +kernel
theorem dX12_wants_42 : decode cX12_wants 42 = .ok (.ireturn, 1) := by decide +kernel
theorem dX12_intAt_0 : decode cX12_intAt 0 = .ok (.aload_n 0, 1) := by decide +kernel
theorem dX12_intAt_1 : decode cX12_intAt 1 = .ok (.getfield 53, 3) := by decide +kernel
theorem dX12_intAt_4 : decode cX12_intAt 4 = .ok (.sipush 160, 3) := by decide +kernel
theorem dX12_intAt_7 : decode cX12_intAt 7 = .ok (.iload_n 1, 1) := by decide +kernel
theorem dX12_intAt_8 : decode cX12_intAt 8 = .ok (.imul, 1) := by decide +kernel
theorem dX12_intAt_9 : decode cX12_intAt 9 = .ok (.iload_n 2, 1) := by decide +kernel
theorem dX12_intAt_10 : decode cX12_intAt 10 = .ok (.iadd, 1) := by decide +kernel
theorem dX12_intAt_11 : decode cX12_intAt 11 = .ok (.laload, 1) := by decide +kernel
theorem dX12_intAt_12 : decode cX12_intAt 12 = .ok (.l2i, 1) := by decide +kernel
theorem dX12_intAt_13 : decode cX12_intAt 13 = .ok (.ireturn, 1) := by decide +kernel
theorem dX12_top_0 : decode cX12_top 0 = .ok (.iload_n 1, 1) := by decide +kernel
theorem dX12_top_1 : decode cX12_top 1 = .ok (.iconst 4, 1) := by decide +kernel
theorem dX12_top_2 : decode cX12_top 2 = .ok (.if_icmp .ne 7, 3) := by decide +kernel
theorem dX12_top_5 : decode cX12_top 5 = .ok (.iconst 3, 1) := by decide +kernel
theorem dX12_top_6 : decode cX12_top 6 = .ok (.goto 5, 3) := by decide +kernel
theorem dX12_top_9 : decode cX12_top 9 = .ok (.bipush 9, 2) := by decide +kernel
theorem dX12_top_11 : decode cX12_top 11 = .ok (.ireturn, 1) := by decide +kernel
theorem dX12_comer_0 : decode cX12_comer 0 = .ok (.aload_n 0, 1) := by decide +kernel
theorem dX12_comer_1 : decode cX12_comer 1 = .ok (.iload_n 1, 1) := by decide +kernel
theorem dX12_comer_2 : decode cX12_comer 2 = .ok (.invokevirtual 111, 3) := by decide +kernel
theorem dX12_comer_5 : decode cX12_comer 5 = .ok (.istore_n 3, 1) := by decide +kernel
theorem dX12_comer_6 : decode cX12_comer 6 = .ok (.iload_n 3, 1) := by decide +kernel
theorem dX12_comer_7 : decode cX12_comer 7 = .ok (.ifCond .eq 9, 3) := by decide +kernel
theorem dX12_comer_10 : decode cX12_comer 10 = .ok (.aload_n 0, 1) := by decide +kernel
theorem dX12_comer_11 : decode cX12_comer 11 = .ok (.iload_n 3, 1) := by decide +kernel
theorem dX12_comer_12 : decode cX12_comer 12 = .ok (.invokevirtual 94, 3) := by decide +kernel
theorem dX12_comer_15 : decode cX12_comer 15 = .ok (.ireturn, 1) := by decide +kernel
theorem dX12_comer_16 : decode cX12_comer 16 = .ok (.iload_n 2, 1) := by decide +kernel
theorem dX12_comer_17 : decode cX12_comer 17 = .ok (.ifCond .lt 16, 3) := by decide +kernel
theorem dX12_comer_20 : decode cX12_comer 20 = .ok (.iload_n 2, 1) := by decide +kernel
theorem dX12_comer_21 : decode cX12_comer 21 = .ok (.aload_n 0, 1) := by decide +kernel
theorem dX12_comer_22 : decode cX12_comer 22 = .ok (.getfield 47, 3) := by decide +kernel
theorem dX12_comer_25 : decode cX12_comer 25 = .ok (.iload_n 1, 1) := by decide +kernel
theorem dX12_comer_26 : decode cX12_comer 26 = .ok (.iaload, 1) := by decide +kernel
theorem dX12_comer_27 : decode cX12_comer 27 = .ok (.bipush 6, 2) := by decide +kernel
theorem dX12_comer_29 : decode cX12_comer 29 = .ok (.isub, 1) := by decide +kernel
theorem dX12_comer_30 : decode cX12_comer 30 = .ok (.if_icmp .le 10, 3) := by decide +kernel
theorem dX12_comer_33 : decode cX12_comer 33 = .ok (.aload_n 0, 1) := by decide +kernel
theorem dX12_comer_34 : decode cX12_comer 34 = .ok (.bipush (-5), 2) := by decide +kernel
theorem dX12_comer_36 : decode cX12_comer 36 = .ok (.invokevirtual 94, 3) := by decide +kernel
theorem dX12_comer_39 : decode cX12_comer 39 = .ok (.ireturn, 1) := by decide +kernel
theorem dX12_comer_40 : decode cX12_comer 40 = .ok (.iconst 0, 1) := by decide +kernel
theorem dX12_comer_41 : decode cX12_comer 41 = .ok (.istore 4, 2) := by decide +kernel
theorem dX12_comer_43 : decode cX12_comer 43 = .ok (.iload 4, 2) := by decide +kernel
theorem dX12_comer_45 : decode cX12_comer 45 = .ok (.bipush 6, 2) := by decide +kernel
theorem dX12_comer_47 : decode cX12_comer 47 = .ok (.if_icmp .ge 43, 3) := by decide +kernel
theorem dX12_comer_50 : decode cX12_comer 50 = .ok (.aload_n 0, 1) := by decide +kernel
theorem dX12_comer_51 : decode cX12_comer 51 = .ok (.iload_n 1, 1) := by decide +kernel
theorem dX12_comer_52 : decode cX12_comer 52 = .ok (.iload_n 2, 1) := by decide +kernel
theorem dX12_comer_53 : decode cX12_comer 53 = .ok (.iload 4, 2) := by decide +kernel
theorem dX12_comer_55 : decode cX12_comer 55 = .ok (.iadd, 1) := by decide +kernel
theorem dX12_comer_56 : decode cX12_comer 56 = .ok (.invokevirtual 114, 3) := by decide +kernel
theorem dX12_comer_59 : decode cX12_comer 59 = .ok (.istore 5, 2) := by decide +kernel
theorem dX12_comer_61 : decode cX12_comer 61 = .ok (.iload 5, 2) := by decide +kernel
theorem dX12_comer_63 : decode cX12_comer 63 = .ok (.ifCond .lt 14, 3) := by decide +kernel
theorem dX12_comer_66 : decode cX12_comer 66 = .ok (.iload 5, 2) := by decide +kernel
theorem dX12_comer_68 : decode cX12_comer 68 = .ok (.aload_n 0, 1) := by decide +kernel
theorem dX12_comer_69 : decode cX12_comer 69 = .ok (.iload 4, 2) := by decide +kernel
theorem dX12_comer_71 : decode cX12_comer 71 = .ok (.invokevirtual 118, 3) := by decide +kernel
theorem dX12_comer_74 : decode cX12_comer 74 = .ok (.if_icmp .le 10, 3) := by decide +kernel
theorem dX12_comer_77 : decode cX12_comer 77 = .ok (.aload_n 0, 1) := by decide +kernel
theorem dX12_comer_78 : decode cX12_comer 78 = .ok (.bipush (-6), 2) := by decide +kernel
theorem dX12_comer_80 : decode cX12_comer 80 = .ok (.invokevirtual 94, 3) := by decide +kernel
theorem dX12_comer_83 : decode cX12_comer 83 = .ok (.ireturn, 1) := by decide +kernel
theorem dX12_comer_84 : decode cX12_comer 84 = .ok (.iinc 4 1, 3) := by decide +kernel
theorem dX12_comer_87 : decode cX12_comer 87 = .ok (.goto (-44), 3) := by decide +kernel
theorem dX12_comer_90 : decode cX12_comer 90 = .ok (.aload_n 0, 1) := by decide +kernel
theorem dX12_comer_91 : decode cX12_comer 91 = .ok (.getfield 81, 3) := by decide +kernel
theorem dX12_comer_94 : decode cX12_comer 94 = .ok (.bipush 8, 2) := by decide +kernel
theorem dX12_comer_96 : decode cX12_comer 96 = .ok (.if_icmp .ne 10, 3) := by decide +kernel
theorem dX12_comer_99 : decode cX12_comer 99 = .ok (.aload_n 0, 1) := by decide +kernel
theorem dX12_comer_100 : decode cX12_comer 100 = .ok (.bipush (-7), 2) := by decide +kernel
theorem dX12_comer_102 : decode cX12_comer 102 = .ok (.invokevirtual 94, 3) := by decide +kernel
theorem dX12_comer_105 : decode cX12_comer 105 = .ok (.ireturn, 1) := by decide +kernel
theorem dX12_comer_106 : decode cX12_comer 106 = .ok (.iconst 0, 1) := by decide +kernel
theorem dX12_comer_107 : decode cX12_comer 107 = .ok (.istore 4, 2) := by decide +kernel
theorem dX12_comer_109 : decode cX12_comer 109 = .ok (.iload 4, 2) := by decide +kernel
theorem dX12_comer_111 : decode cX12_comer 111 = .ok (.bipush 6, 2) := by decide +kernel
theorem dX12_comer_113 : decode cX12_comer 113 = .ok (.if_icmp .ge 33, 3) := by decide +kernel
theorem dX12_comer_116 : decode cX12_comer 116 = .ok (.aload_n 0, 1) := by decide +kernel
theorem dX12_comer_117 : decode cX12_comer 117 = .ok (.getfield 20, 3) := by decide +kernel
theorem dX12_comer_120 : decode cX12_comer 120 = .ok (.bipush 6, 2) := by decide +kernel
theorem dX12_comer_122 : decode cX12_comer 122 = .ok (.aload_n 0, 1) := by decide +kernel
theorem dX12_comer_123 : decode cX12_comer 123 = .ok (.getfield 81, 3) := by decide +kernel
theorem dX12_comer_126 : decode cX12_comer 126 = .ok (.imul, 1) := by decide +kernel
theorem dX12_comer_127 : decode cX12_comer 127 = .ok (.iload 4, 2) := by decide +kernel
theorem dX12_comer_129 : decode cX12_comer 129 = .ok (.iadd, 1) := by decide +kernel
theorem dX12_comer_130 : decode cX12_comer 130 = .ok (.aload_n 0, 1) := by decide +kernel
theorem dX12_comer_131 : decode cX12_comer 131 = .ok (.iload_n 1, 1) := by decide +kernel
theorem dX12_comer_132 : decode cX12_comer 132 = .ok (.iload_n 2, 1) := by decide +kernel
theorem dX12_comer_133 : decode cX12_comer 133 = .ok (.iload 4, 2) := by decide +kernel
theorem dX12_comer_135 : decode cX12_comer 135 = .ok (.iadd, 1) := by decide +kernel
theorem dX12_comer_136 : decode cX12_comer 136 = .ok (.invokevirtual 114, 3) := by decide +kernel
theorem dX12_comer_139 : decode cX12_comer 139 = .ok (.iastore, 1) := by decide +kernel
theorem dX12_comer_140 : decode cX12_comer 140 = .ok (.iinc 4 1, 3) := by decide +kernel
theorem dX12_comer_143 : decode cX12_comer 143 = .ok (.goto (-34), 3) := by decide +kernel
theorem dX12_comer_146 : decode cX12_comer 146 = .ok (.aload_n 0, 1) := by decide +kernel
theorem dX12_comer_147 : decode cX12_comer 147 = .ok (.dup, 1) := by decide +kernel
theorem dX12_comer_148 : decode cX12_comer 148 = .ok (.getfield 81, 3) := by decide +kernel
theorem dX12_comer_151 : decode cX12_comer 151 = .ok (.dup_x1, 1) := by decide +kernel
theorem dX12_comer_152 : decode cX12_comer 152 = .ok (.iconst 1, 1) := by decide +kernel
theorem dX12_comer_153 : decode cX12_comer 153 = .ok (.iadd, 1) := by decide +kernel
theorem dX12_comer_154 : decode cX12_comer 154 = .ok (.putfield 81, 3) := by decide +kernel
theorem dX12_comer_157 : decode cX12_comer 157 = .ok (.ireturn, 1) := by decide +kernel
theorem dX12_askers_0 : decode cX12_askers 0 = .ok (.aload_n 0, 1) := by decide +kernel
theorem dX12_askers_1 : decode cX12_askers 1 = .ok (.getfield 23, 3) := by decide +kernel
theorem dX12_askers_4 : decode cX12_askers 4 = .ok (.aload_n 0, 1) := by decide +kernel
theorem dX12_askers_5 : decode cX12_askers 5 = .ok (.getfield 84, 3) := by decide +kernel
theorem dX12_askers_8 : decode cX12_askers 8 = .ok (.iload_n 1, 1) := by decide +kernel
theorem dX12_askers_9 : decode cX12_askers 9 = .ok (.iastore, 1) := by decide +kernel
theorem dX12_askers_10 : decode cX12_askers 10 = .ok (.aload_n 0, 1) := by decide +kernel
theorem dX12_askers_11 : decode cX12_askers 11 = .ok (.getfield 26, 3) := by decide +kernel
theorem dX12_askers_14 : decode cX12_askers 14 = .ok (.aload_n 0, 1) := by decide +kernel
theorem dX12_askers_15 : decode cX12_askers 15 = .ok (.getfield 84, 3) := by decide +kernel
theorem dX12_askers_18 : decode cX12_askers 18 = .ok (.iload_n 2, 1) := by decide +kernel
theorem dX12_askers_19 : decode cX12_askers 19 = .ok (.iastore, 1) := by decide +kernel
theorem dX12_askers_20 : decode cX12_askers 20 = .ok (.aload_n 0, 1) := by decide +kernel
theorem dX12_askers_21 : decode cX12_askers 21 = .ok (.getfield 29, 3) := by decide +kernel
theorem dX12_askers_24 : decode cX12_askers 24 = .ok (.aload_n 0, 1) := by decide +kernel
theorem dX12_askers_25 : decode cX12_askers 25 = .ok (.getfield 84, 3) := by decide +kernel
theorem dX12_askers_28 : decode cX12_askers 28 = .ok (.iload_n 3, 1) := by decide +kernel
theorem dX12_askers_29 : decode cX12_askers 29 = .ok (.iastore, 1) := by decide +kernel
theorem dX12_askers_30 : decode cX12_askers 30 = .ok (.aload_n 0, 1) := by decide +kernel
theorem dX12_askers_31 : decode cX12_askers 31 = .ok (.getfield 32, 3) := by decide +kernel
theorem dX12_askers_34 : decode cX12_askers 34 = .ok (.aload_n 0, 1) := by decide +kernel
theorem dX12_askers_35 : decode cX12_askers 35 = .ok (.getfield 84, 3) := by decide +kernel
theorem dX12_askers_38 : decode cX12_askers 38 = .ok (.aload_n 0, 1) := by decide +kernel
theorem dX12_askers_39 : decode cX12_askers 39 = .ok (.getfield 84, 3) := by decide +kernel
theorem dX12_askers_42 : decode cX12_askers 42 = .ok (.iastore, 1) := by decide +kernel
theorem dX12_askers_43 : decode cX12_askers 43 = .ok (.aload_n 0, 1) := by decide +kernel
theorem dX12_askers_44 : decode cX12_askers 44 = .ok (.dup, 1) := by decide +kernel
theorem dX12_askers_45 : decode cX12_askers 45 = .ok (.getfield 84, 3) := by decide +kernel
theorem dX12_askers_48 : decode cX12_askers 48 = .ok (.dup_x1, 1) := by decide +kernel
theorem dX12_askers_49 : decode cX12_askers 49 = .ok (.iconst 1, 1) := by decide +kernel
theorem dX12_askers_50 : decode cX12_askers 50 = .ok (.iadd, 1) := by decide +kernel
theorem dX12_askers_51 : decode cX12_askers 51 = .ok (.putfield 84, 3) := by decide +kernel
theorem dX12_askers_54 : decode cX12_askers 54 = .ok (.ireturn, 1) := by decide +kernel
theorem dX12_asker_0 : decode cX12_asker 0 = .ok (.iload_n 1, 1) := by decide +kernel
theorem dX12_asker_1 : decode cX12_asker 1 = .ok (.ifCond .lt 28, 3) := by decide +kernel
theorem dX12_asker_4 : decode cX12_asker 4 = .ok (.iload_n 1, 1) := by decide +kernel
theorem dX12_asker_5 : decode cX12_asker 5 = .ok (.iconst 3, 1) := by decide +kernel
theorem dX12_asker_6 : decode cX12_asker 6 = .ok (.if_icmp .gt 23, 3) := by decide +kernel
theorem dX12_asker_9 : decode cX12_asker 9 = .ok (.iload_n 2, 1) := by decide +kernel
theorem dX12_asker_10 : decode cX12_asker 10 = .ok (.ifCond .lt 19, 3) := by decide +kernel
theorem dX12_asker_13 : decode cX12_asker 13 = .ok (.iload_n 2, 1) := by decide +kernel
theorem dX12_asker_14 : decode cX12_asker 14 = .ok (.bipush 9, 2) := by decide +kernel
theorem dX12_asker_16 : decode cX12_asker 16 = .ok (.if_icmp .gt 13, 3) := by decide +kernel
theorem dX12_asker_19 : decode cX12_asker 19 = .ok (.iload_n 3, 1) := by decide +kernel
theorem dX12_asker_20 : decode cX12_asker 20 = .ok (.ifCond .lt 9, 3) := by decide +kernel
theorem dX12_asker_23 : decode cX12_asker 23 = .ok (.iload_n 3, 1) := by decide +kernel
theorem dX12_asker_24 : decode cX12_asker 24 = .ok (.bipush 10, 2) := by decide +kernel
theorem dX12_asker_26 : decode cX12_asker 26 = .ok (.if_icmp .le 10, 3) := by decide +kernel
theorem dX12_asker_29 : decode cX12_asker 29 = .ok (.aload_n 0, 1) := by decide +kernel
theorem dX12_asker_30 : decode cX12_asker 30 = .ok (.bipush (-6), 2) := by decide +kernel
theorem dX12_asker_32 : decode cX12_asker 32 = .ok (.invokevirtual 94, 3) := by decide +kernel
theorem dX12_asker_35 : decode cX12_asker 35 = .ok (.ireturn, 1) := by decide +kernel
theorem dX12_asker_36 : decode cX12_asker 36 = .ok (.aload_n 0, 1) := by decide +kernel
theorem dX12_asker_37 : decode cX12_asker 37 = .ok (.getfield 84, 3) := by decide +kernel
theorem dX12_asker_40 : decode cX12_asker 40 = .ok (.iconst 4, 1) := by decide +kernel
theorem dX12_asker_41 : decode cX12_asker 41 = .ok (.if_icmp .ne 12, 3) := by decide +kernel
theorem dX12_asker_44 : decode cX12_asker 44 = .ok (.aload_n 0, 1) := by decide +kernel
theorem dX12_asker_45 : decode cX12_asker 45 = .ok (.bipush (-7), 2) := by decide +kernel
theorem dX12_asker_47 : decode cX12_asker 47 = .ok (.invokevirtual 94, 3) := by decide +kernel
theorem dX12_asker_50 : decode cX12_asker 50 = .ok (.goto 10, 3) := by decide +kernel
theorem dX12_asker_53 : decode cX12_asker 53 = .ok (.aload_n 0, 1) := by decide +kernel
theorem dX12_asker_54 : decode cX12_asker 54 = .ok (.iload_n 1, 1) := by decide +kernel
theorem dX12_asker_55 : decode cX12_asker 55 = .ok (.iload_n 2, 1) := by decide +kernel
theorem dX12_asker_56 : decode cX12_asker 56 = .ok (.iload_n 3, 1) := by decide +kernel
theorem dX12_asker_57 : decode cX12_asker 57 = .ok (.invokevirtual 121, 3) := by decide +kernel
theorem dX12_asker_60 : decode cX12_asker 60 = .ok (.ireturn, 1) := by decide +kernel
theorem dX12_ways_0 : decode cX12_ways 0 = .ok (.aload_n 0, 1) := by decide +kernel
theorem dX12_ways_1 : decode cX12_ways 1 = .ok (.getfield 35, 3) := by decide +kernel
theorem dX12_ways_4 : decode cX12_ways 4 = .ok (.aload_n 0, 1) := by decide +kernel
theorem dX12_ways_5 : decode cX12_ways 5 = .ok (.getfield 87, 3) := by decide +kernel
theorem dX12_ways_8 : decode cX12_ways 8 = .ok (.iload_n 1, 1) := by decide +kernel
theorem dX12_ways_9 : decode cX12_ways 9 = .ok (.iastore, 1) := by decide +kernel
theorem dX12_ways_10 : decode cX12_ways 10 = .ok (.aload_n 0, 1) := by decide +kernel
theorem dX12_ways_11 : decode cX12_ways 11 = .ok (.getfield 38, 3) := by decide +kernel
theorem dX12_ways_14 : decode cX12_ways 14 = .ok (.aload_n 0, 1) := by decide +kernel
theorem dX12_ways_15 : decode cX12_ways 15 = .ok (.getfield 87, 3) := by decide +kernel
theorem dX12_ways_18 : decode cX12_ways 18 = .ok (.iload_n 2, 1) := by decide +kernel
theorem dX12_ways_19 : decode cX12_ways 19 = .ok (.iastore, 1) := by decide +kernel
theorem dX12_ways_20 : decode cX12_ways 20 = .ok (.aload_n 0, 1) := by decide +kernel
theorem dX12_ways_21 : decode cX12_ways 21 = .ok (.dup, 1) := by decide +kernel
theorem dX12_ways_22 : decode cX12_ways 22 = .ok (.getfield 87, 3) := by decide +kernel
theorem dX12_ways_25 : decode cX12_ways 25 = .ok (.dup_x1, 1) := by decide +kernel
theorem dX12_ways_26 : decode cX12_ways 26 = .ok (.iconst 1, 1) := by decide +kernel
theorem dX12_ways_27 : decode cX12_ways 27 = .ok (.iadd, 1) := by decide +kernel
theorem dX12_ways_28 : decode cX12_ways 28 = .ok (.putfield 87, 3) := by decide +kernel
theorem dX12_ways_31 : decode cX12_ways 31 = .ok (.ireturn, 1) := by decide +kernel
theorem dX12_way_0 : decode cX12_way 0 = .ok (.iload_n 1, 1) := by decide +kernel
theorem dX12_way_1 : decode cX12_way 1 = .ok (.ifCond .lt 9, 3) := by decide +kernel
theorem dX12_way_4 : decode cX12_way 4 = .ok (.iload_n 1, 1) := by decide +kernel
theorem dX12_way_5 : decode cX12_way 5 = .ok (.bipush 6, 2) := by decide +kernel
theorem dX12_way_7 : decode cX12_way 7 = .ok (.if_icmp .le 9, 3) := by decide +kernel
theorem dX12_way_10 : decode cX12_way 10 = .ok (.aload_n 0, 1) := by decide +kernel
theorem dX12_way_11 : decode cX12_way 11 = .ok (.iconst (-1), 1) := by decide +kernel
theorem dX12_way_12 : decode cX12_way 12 = .ok (.invokevirtual 94, 3) := by decide +kernel
theorem dX12_way_15 : decode cX12_way 15 = .ok (.ireturn, 1) := by decide +kernel
theorem dX12_way_16 : decode cX12_way 16 = .ok (.iload_n 2, 1) := by decide +kernel
theorem dX12_way_17 : decode cX12_way 17 = .ok (.ifCond .lt 9, 3) := by decide +kernel
theorem dX12_way_20 : decode cX12_way 20 = .ok (.iload_n 2, 1) := by decide +kernel
theorem dX12_way_21 : decode cX12_way 21 = .ok (.bipush 99, 2) := by decide +kernel
theorem dX12_way_23 : decode cX12_way 23 = .ok (.if_icmp .le 10, 3) := by decide +kernel
theorem dX12_way_26 : decode cX12_way 26 = .ok (.aload_n 0, 1) := by decide +kernel
theorem dX12_way_27 : decode cX12_way 27 = .ok (.bipush (-6), 2) := by decide +kernel
theorem dX12_way_29 : decode cX12_way 29 = .ok (.invokevirtual 94, 3) := by decide +kernel
theorem dX12_way_32 : decode cX12_way 32 = .ok (.ireturn, 1) := by decide +kernel
theorem dX12_way_33 : decode cX12_way 33 = .ok (.aload_n 0, 1) := by decide +kernel
theorem dX12_way_34 : decode cX12_way 34 = .ok (.getfield 87, 3) := by decide +kernel
theorem dX12_way_37 : decode cX12_way 37 = .ok (.bipush 8, 2) := by decide +kernel
theorem dX12_way_39 : decode cX12_way 39 = .ok (.if_icmp .ne 12, 3) := by decide +kernel
theorem dX12_way_42 : decode cX12_way 42 = .ok (.aload_n 0, 1) := by decide +kernel
theorem dX12_way_43 : decode cX12_way 43 = .ok (.bipush (-7), 2) := by decide +kernel
theorem dX12_way_45 : decode cX12_way 45 = .ok (.invokevirtual 94, 3) := by decide +kernel
theorem dX12_way_48 : decode cX12_way 48 = .ok (.goto 9, 3) := by decide +kernel
theorem dX12_way_51 : decode cX12_way 51 = .ok (.aload_n 0, 1) := by decide +kernel
theorem dX12_way_52 : decode cX12_way 52 = .ok (.iload_n 1, 1) := by decide +kernel
theorem dX12_way_53 : decode cX12_way 53 = .ok (.iload_n 2, 1) := by decide +kernel
theorem dX12_way_54 : decode cX12_way 54 = .ok (.invokevirtual 124, 3) := by decide +kernel
theorem dX12_way_57 : decode cX12_way 57 = .ok (.ireturn, 1) := by decide +kernel
theorem dX12_sumOf_0 : decode cX12_sumOf 0 = .ok (.aload_n 0, 1) := by decide +kernel
theorem dX12_sumOf_1 : decode cX12_sumOf 1 = .ok (.getfield 20, 3) := by decide +kernel
theorem dX12_sumOf_4 : decode cX12_sumOf 4 = .ok (.bipush 6, 2) := by decide +kernel
theorem dX12_sumOf_6 : decode cX12_sumOf 6 = .ok (.iload_n 1, 1) := by decide +kernel
theorem dX12_sumOf_7 : decode cX12_sumOf 7 = .ok (.imul, 1) := by decide +kernel
theorem dX12_sumOf_8 : decode cX12_sumOf 8 = .ok (.iaload, 1) := by decide +kernel
theorem dX12_sumOf_9 : decode cX12_sumOf 9 = .ok (.aload_n 0, 1) := by decide +kernel
theorem dX12_sumOf_10 : decode cX12_sumOf 10 = .ok (.getfield 20, 3) := by decide +kernel
theorem dX12_sumOf_13 : decode cX12_sumOf 13 = .ok (.bipush 6, 2) := by decide +kernel
theorem dX12_sumOf_15 : decode cX12_sumOf 15 = .ok (.iload_n 1, 1) := by decide +kernel
theorem dX12_sumOf_16 : decode cX12_sumOf 16 = .ok (.imul, 1) := by decide +kernel
theorem dX12_sumOf_17 : decode cX12_sumOf 17 = .ok (.iconst 1, 1) := by decide +kernel
theorem dX12_sumOf_18 : decode cX12_sumOf 18 = .ok (.iadd, 1) := by decide +kernel
theorem dX12_sumOf_19 : decode cX12_sumOf 19 = .ok (.iaload, 1) := by decide +kernel
theorem dX12_sumOf_20 : decode cX12_sumOf 20 = .ok (.iadd, 1) := by decide +kernel
theorem dX12_sumOf_21 : decode cX12_sumOf 21 = .ok (.aload_n 0, 1) := by decide +kernel
theorem dX12_sumOf_22 : decode cX12_sumOf 22 = .ok (.getfield 20, 3) := by decide +kernel
theorem dX12_sumOf_25 : decode cX12_sumOf 25 = .ok (.bipush 6, 2) := by decide +kernel
theorem dX12_sumOf_27 : decode cX12_sumOf 27 = .ok (.iload_n 1, 1) := by decide +kernel
theorem dX12_sumOf_28 : decode cX12_sumOf 28 = .ok (.imul, 1) := by decide +kernel
theorem dX12_sumOf_29 : decode cX12_sumOf 29 = .ok (.iconst 2, 1) := by decide +kernel
theorem dX12_sumOf_30 : decode cX12_sumOf 30 = .ok (.iadd, 1) := by decide +kernel
theorem dX12_sumOf_31 : decode cX12_sumOf 31 = .ok (.iaload, 1) := by decide +kernel
theorem dX12_sumOf_32 : decode cX12_sumOf 32 = .ok (.iadd, 1) := by decide +kernel
theorem dX12_sumOf_33 : decode cX12_sumOf 33 = .ok (.ireturn, 1) := by decide +kernel
theorem dX12_comerOf_0 : decode cX12_comerOf 0 = .ok (.aload_n 0, 1) := by decide +kernel
theorem dX12_comerOf_1 : decode cX12_comerOf 1 = .ok (.iload_n 1, 1) := by decide +kernel
theorem dX12_comerOf_2 : decode cX12_comerOf 2 = .ok (.invokevirtual 126, 3) := by decide +kernel
theorem dX12_comerOf_5 : decode cX12_comerOf 5 = .ok (.ifCond .eq 13, 3) := by decide +kernel
theorem dX12_comerOf_8 : decode cX12_comerOf 8 = .ok (.iload_n 2, 1) := by decide +kernel
theorem dX12_comerOf_9 : decode cX12_comerOf 9 = .ok (.ifCond .lt 9, 3) := by decide +kernel
theorem dX12_comerOf_12 : decode cX12_comerOf 12 = .ok (.iload_n 2, 1) := by decide +kernel
theorem dX12_comerOf_13 : decode cX12_comerOf 13 = .ok (.bipush 6, 2) := by decide +kernel
theorem dX12_comerOf_15 : decode cX12_comerOf 15 = .ok (.if_icmp .le 10, 3) := by decide +kernel
theorem dX12_comerOf_18 : decode cX12_comerOf 18 = .ok (.aload_n 0, 1) := by decide +kernel
theorem dX12_comerOf_19 : decode cX12_comerOf 19 = .ok (.bipush (-5), 2) := by decide +kernel
theorem dX12_comerOf_21 : decode cX12_comerOf 21 = .ok (.invokevirtual 94, 3) := by decide +kernel
theorem dX12_comerOf_24 : decode cX12_comerOf 24 = .ok (.ireturn, 1) := by decide +kernel
theorem dX12_comerOf_25 : decode cX12_comerOf 25 = .ok (.iload_n 2, 1) := by decide +kernel
theorem dX12_comerOf_26 : decode cX12_comerOf 26 = .ok (.bipush 6, 2) := by decide +kernel
theorem dX12_comerOf_28 : decode cX12_comerOf 28 = .ok (.if_icmp .ne 11, 3) := by decide +kernel
theorem dX12_comerOf_31 : decode cX12_comerOf 31 = .ok (.aload_n 0, 1) := by decide +kernel
theorem dX12_comerOf_32 : decode cX12_comerOf 32 = .ok (.iload_n 1, 1) := by decide +kernel
theorem dX12_comerOf_33 : decode cX12_comerOf 33 = .ok (.invokevirtual 101, 3) := by decide +kernel
theorem dX12_comerOf_36 : decode cX12_comerOf 36 = .ok (.goto 14, 3) := by decide +kernel
theorem dX12_comerOf_39 : decode cX12_comerOf 39 = .ok (.aload_n 0, 1) := by decide +kernel
theorem dX12_comerOf_40 : decode cX12_comerOf 40 = .ok (.getfield 20, 3) := by decide +kernel
theorem dX12_comerOf_43 : decode cX12_comerOf 43 = .ok (.bipush 6, 2) := by decide +kernel
theorem dX12_comerOf_45 : decode cX12_comerOf 45 = .ok (.iload_n 1, 1) := by decide +kernel
theorem dX12_comerOf_46 : decode cX12_comerOf 46 = .ok (.imul, 1) := by decide +kernel
theorem dX12_comerOf_47 : decode cX12_comerOf 47 = .ok (.iload_n 2, 1) := by decide +kernel
theorem dX12_comerOf_48 : decode cX12_comerOf 48 = .ok (.iadd, 1) := by decide +kernel
theorem dX12_comerOf_49 : decode cX12_comerOf 49 = .ok (.iaload, 1) := by decide +kernel
theorem dX12_comerOf_50 : decode cX12_comerOf 50 = .ok (.ireturn, 1) := by decide +kernel
theorem dX12_placeOf_0 : decode cX12_placeOf 0 = .ok (.iconst 0, 1) := by decide +kernel
theorem dX12_placeOf_1 : decode cX12_placeOf 1 = .ok (.istore_n 2, 1) := by decide +kernel
theorem dX12_placeOf_2 : decode cX12_placeOf 2 = .ok (.aload_n 0, 1) := by decide +kernel
theorem dX12_placeOf_3 : decode cX12_placeOf 3 = .ok (.getfield 32, 3) := by decide +kernel
theorem dX12_placeOf_6 : decode cX12_placeOf 6 = .ok (.iload_n 2, 1) := by decide +kernel
theorem dX12_placeOf_7 : decode cX12_placeOf 7 = .ok (.iaload, 1) := by decide +kernel
theorem dX12_placeOf_8 : decode cX12_placeOf 8 = .ok (.iload_n 1, 1) := by decide +kernel
theorem dX12_placeOf_9 : decode cX12_placeOf 9 = .ok (.if_icmp .eq 9, 3) := by decide +kernel
theorem dX12_placeOf_12 : decode cX12_placeOf 12 = .ok (.iinc 2 1, 3) := by decide +kernel
theorem dX12_placeOf_15 : decode cX12_placeOf 15 = .ok (.goto (-13), 3) := by decide +kernel
theorem dX12_placeOf_18 : decode cX12_placeOf 18 = .ok (.iload_n 2, 1) := by decide +kernel
theorem dX12_placeOf_19 : decode cX12_placeOf 19 = .ok (.ireturn, 1) := by decide +kernel
theorem dX12_askerOf_0 : decode cX12_askerOf 0 = .ok (.aload_n 0, 1) := by decide +kernel
theorem dX12_askerOf_1 : decode cX12_askerOf 1 = .ok (.iload_n 1, 1) := by decide +kernel
theorem dX12_askerOf_2 : decode cX12_askerOf 2 = .ok (.invokevirtual 129, 3) := by decide +kernel
theorem dX12_askerOf_5 : decode cX12_askerOf 5 = .ok (.ifCond .eq 12, 3) := by decide +kernel
theorem dX12_askerOf_8 : decode cX12_askerOf 8 = .ok (.iload_n 2, 1) := by decide +kernel
theorem dX12_askerOf_9 : decode cX12_askerOf 9 = .ok (.ifCond .lt 8, 3) := by decide +kernel
theorem dX12_askerOf_12 : decode cX12_askerOf 12 = .ok (.iload_n 2, 1) := by decide +kernel
theorem dX12_askerOf_13 : decode cX12_askerOf 13 = .ok (.iconst 3, 1) := by decide +kernel
theorem dX12_askerOf_14 : decode cX12_askerOf 14 = .ok (.if_icmp .le 10, 3) := by decide +kernel
theorem dX12_askerOf_17 : decode cX12_askerOf 17 = .ok (.aload_n 0, 1) := by decide +kernel
theorem dX12_askerOf_18 : decode cX12_askerOf 18 = .ok (.bipush (-5), 2) := by decide +kernel
theorem dX12_askerOf_20 : decode cX12_askerOf 20 = .ok (.invokevirtual 94, 3) := by decide +kernel
theorem dX12_askerOf_23 : decode cX12_askerOf 23 = .ok (.ireturn, 1) := by decide +kernel
theorem dX12_askerOf_24 : decode cX12_askerOf 24 = .ok (.iload_n 2, 1) := by decide +kernel
theorem dX12_askerOf_25 : decode cX12_askerOf 25 = .ok (.ifCond .ne 12, 3) := by decide +kernel
theorem dX12_askerOf_28 : decode cX12_askerOf 28 = .ok (.aload_n 0, 1) := by decide +kernel
theorem dX12_askerOf_29 : decode cX12_askerOf 29 = .ok (.getfield 23, 3) := by decide +kernel
theorem dX12_askerOf_32 : decode cX12_askerOf 32 = .ok (.iload_n 1, 1) := by decide +kernel
theorem dX12_askerOf_33 : decode cX12_askerOf 33 = .ok (.iaload, 1) := by decide +kernel
theorem dX12_askerOf_34 : decode cX12_askerOf 34 = .ok (.goto 36, 3) := by decide +kernel
theorem dX12_askerOf_37 : decode cX12_askerOf 37 = .ok (.iload_n 2, 1) := by decide +kernel
theorem dX12_askerOf_38 : decode cX12_askerOf 38 = .ok (.iconst 1, 1) := by decide +kernel
theorem dX12_askerOf_39 : decode cX12_askerOf 39 = .ok (.if_icmp .ne 12, 3) := by decide +kernel
theorem dX12_askerOf_42 : decode cX12_askerOf 42 = .ok (.aload_n 0, 1) := by decide +kernel
theorem dX12_askerOf_43 : decode cX12_askerOf 43 = .ok (.getfield 26, 3) := by decide +kernel
theorem dX12_askerOf_46 : decode cX12_askerOf 46 = .ok (.iload_n 1, 1) := by decide +kernel
theorem dX12_askerOf_47 : decode cX12_askerOf 47 = .ok (.iaload, 1) := by decide +kernel
theorem dX12_askerOf_48 : decode cX12_askerOf 48 = .ok (.goto 22, 3) := by decide +kernel
theorem dX12_askerOf_51 : decode cX12_askerOf 51 = .ok (.iload_n 2, 1) := by decide +kernel
theorem dX12_askerOf_52 : decode cX12_askerOf 52 = .ok (.iconst 2, 1) := by decide +kernel
theorem dX12_askerOf_53 : decode cX12_askerOf 53 = .ok (.if_icmp .ne 12, 3) := by decide +kernel
theorem dX12_askerOf_56 : decode cX12_askerOf 56 = .ok (.aload_n 0, 1) := by decide +kernel
theorem dX12_askerOf_57 : decode cX12_askerOf 57 = .ok (.getfield 29, 3) := by decide +kernel
theorem dX12_askerOf_60 : decode cX12_askerOf 60 = .ok (.iload_n 1, 1) := by decide +kernel
theorem dX12_askerOf_61 : decode cX12_askerOf 61 = .ok (.iaload, 1) := by decide +kernel
theorem dX12_askerOf_62 : decode cX12_askerOf 62 = .ok (.goto 8, 3) := by decide +kernel
theorem dX12_askerOf_65 : decode cX12_askerOf 65 = .ok (.aload_n 0, 1) := by decide +kernel
theorem dX12_askerOf_66 : decode cX12_askerOf 66 = .ok (.iload_n 1, 1) := by decide +kernel
theorem dX12_askerOf_67 : decode cX12_askerOf 67 = .ok (.invokevirtual 132, 3) := by decide +kernel
theorem dX12_askerOf_70 : decode cX12_askerOf 70 = .ok (.ireturn, 1) := by decide +kernel
theorem dX12_wayOf_0 : decode cX12_wayOf 0 = .ok (.aload_n 0, 1) := by decide +kernel
theorem dX12_wayOf_1 : decode cX12_wayOf 1 = .ok (.iload_n 1, 1) := by decide +kernel
theorem dX12_wayOf_2 : decode cX12_wayOf 2 = .ok (.invokevirtual 98, 3) := by decide +kernel
theorem dX12_wayOf_5 : decode cX12_wayOf 5 = .ok (.ifCond .eq 12, 3) := by decide +kernel
theorem dX12_wayOf_8 : decode cX12_wayOf 8 = .ok (.iload_n 2, 1) := by decide +kernel
theorem dX12_wayOf_9 : decode cX12_wayOf 9 = .ok (.ifCond .lt 8, 3) := by decide +kernel
theorem dX12_wayOf_12 : decode cX12_wayOf 12 = .ok (.iload_n 2, 1) := by decide +kernel
theorem dX12_wayOf_13 : decode cX12_wayOf 13 = .ok (.iconst 1, 1) := by decide +kernel
theorem dX12_wayOf_14 : decode cX12_wayOf 14 = .ok (.if_icmp .le 10, 3) := by decide +kernel
theorem dX12_wayOf_17 : decode cX12_wayOf 17 = .ok (.aload_n 0, 1) := by decide +kernel
theorem dX12_wayOf_18 : decode cX12_wayOf 18 = .ok (.bipush (-5), 2) := by decide +kernel
theorem dX12_wayOf_20 : decode cX12_wayOf 20 = .ok (.invokevirtual 94, 3) := by decide +kernel
theorem dX12_wayOf_23 : decode cX12_wayOf 23 = .ok (.ireturn, 1) := by decide +kernel
theorem dX12_wayOf_24 : decode cX12_wayOf 24 = .ok (.iload_n 2, 1) := by decide +kernel
theorem dX12_wayOf_25 : decode cX12_wayOf 25 = .ok (.ifCond .ne 12, 3) := by decide +kernel
theorem dX12_wayOf_28 : decode cX12_wayOf 28 = .ok (.aload_n 0, 1) := by decide +kernel
theorem dX12_wayOf_29 : decode cX12_wayOf 29 = .ok (.getfield 35, 3) := by decide +kernel
theorem dX12_wayOf_32 : decode cX12_wayOf 32 = .ok (.iload_n 1, 1) := by decide +kernel
theorem dX12_wayOf_33 : decode cX12_wayOf 33 = .ok (.iaload, 1) := by decide +kernel
theorem dX12_wayOf_34 : decode cX12_wayOf 34 = .ok (.goto 9, 3) := by decide +kernel
theorem dX12_wayOf_37 : decode cX12_wayOf 37 = .ok (.aload_n 0, 1) := by decide +kernel
theorem dX12_wayOf_38 : decode cX12_wayOf 38 = .ok (.getfield 38, 3) := by decide +kernel
theorem dX12_wayOf_41 : decode cX12_wayOf 41 = .ok (.iload_n 1, 1) := by decide +kernel
theorem dX12_wayOf_42 : decode cX12_wayOf 42 = .ok (.iaload, 1) := by decide +kernel
theorem dX12_wayOf_43 : decode cX12_wayOf 43 = .ok (.ireturn, 1) := by decide +kernel
theorem dX12_change_0 : decode cX12_change 0 = .ok (.aload_n 0, 1) := by decide +kernel
theorem dX12_change_1 : decode cX12_change 1 = .ok (.iload_n 1, 1) := by decide +kernel
theorem dX12_change_2 : decode cX12_change 2 = .ok (.invokevirtual 126, 3) := by decide +kernel
theorem dX12_change_5 : decode cX12_change 5 = .ok (.ifCond .ne 9, 3) := by decide +kernel
theorem dX12_change_8 : decode cX12_change 8 = .ok (.aload_n 0, 1) := by decide +kernel
theorem dX12_change_9 : decode cX12_change 9 = .ok (.iconst (-1), 1) := by decide +kernel
theorem dX12_change_10 : decode cX12_change 10 = .ok (.invokevirtual 94, 3) := by decide +kernel
theorem dX12_change_13 : decode cX12_change 13 = .ok (.ireturn, 1) := by decide +kernel
theorem dX12_change_14 : decode cX12_change 14 = .ok (.iload_n 2, 1) := by decide +kernel
theorem dX12_change_15 : decode cX12_change 15 = .ok (.ifCond .lt 8, 3) := by decide +kernel
theorem dX12_change_18 : decode cX12_change 18 = .ok (.iload_n 2, 1) := by decide +kernel
theorem dX12_change_19 : decode cX12_change 19 = .ok (.iconst 5, 1) := by decide +kernel
theorem dX12_change_20 : decode cX12_change 20 = .ok (.if_icmp .le 10, 3) := by decide +kernel
theorem dX12_change_23 : decode cX12_change 23 = .ok (.aload_n 0, 1) := by decide +kernel
theorem dX12_change_24 : decode cX12_change 24 = .ok (.bipush (-5), 2) := by decide +kernel
theorem dX12_change_26 : decode cX12_change 26 = .ok (.invokevirtual 94, 3) := by decide +kernel
theorem dX12_change_29 : decode cX12_change 29 = .ok (.ireturn, 1) := by decide +kernel
theorem dX12_change_30 : decode cX12_change 30 = .ok (.iload_n 3, 1) := by decide +kernel
theorem dX12_change_31 : decode cX12_change 31 = .ok (.ifCond .lt 12, 3) := by decide +kernel
theorem dX12_change_34 : decode cX12_change 34 = .ok (.iload_n 3, 1) := by decide +kernel
theorem dX12_change_35 : decode cX12_change 35 = .ok (.aload_n 0, 1) := by decide +kernel
theorem dX12_change_36 : decode cX12_change 36 = .ok (.iload_n 2, 1) := by decide +kernel
theorem dX12_change_37 : decode cX12_change 37 = .ok (.invokevirtual 118, 3) := by decide +kernel
theorem dX12_change_40 : decode cX12_change 40 = .ok (.if_icmp .le 10, 3) := by decide +kernel
theorem dX12_change_43 : decode cX12_change 43 = .ok (.aload_n 0, 1) := by decide +kernel
theorem dX12_change_44 : decode cX12_change 44 = .ok (.bipush (-6), 2) := by decide +kernel
theorem dX12_change_46 : decode cX12_change 46 = .ok (.invokevirtual 94, 3) := by decide +kernel
theorem dX12_change_49 : decode cX12_change 49 = .ok (.ireturn, 1) := by decide +kernel
theorem dX12_change_50 : decode cX12_change 50 = .ok (.aload_n 0, 1) := by decide +kernel
theorem dX12_change_51 : decode cX12_change 51 = .ok (.getfield 20, 3) := by decide +kernel
theorem dX12_change_54 : decode cX12_change 54 = .ok (.bipush 6, 2) := by decide +kernel
theorem dX12_change_56 : decode cX12_change 56 = .ok (.iload_n 1, 1) := by decide +kernel
theorem dX12_change_57 : decode cX12_change 57 = .ok (.imul, 1) := by decide +kernel
theorem dX12_change_58 : decode cX12_change 58 = .ok (.iload_n 2, 1) := by decide +kernel
theorem dX12_change_59 : decode cX12_change 59 = .ok (.iadd, 1) := by decide +kernel
theorem dX12_change_60 : decode cX12_change 60 = .ok (.iaload, 1) := by decide +kernel
theorem dX12_change_61 : decode cX12_change 61 = .ok (.istore 4, 2) := by decide +kernel
theorem dX12_change_63 : decode cX12_change 63 = .ok (.aload_n 0, 1) := by decide +kernel
theorem dX12_change_64 : decode cX12_change 64 = .ok (.getfield 20, 3) := by decide +kernel
theorem dX12_change_67 : decode cX12_change 67 = .ok (.bipush 6, 2) := by decide +kernel
theorem dX12_change_69 : decode cX12_change 69 = .ok (.iload_n 1, 1) := by decide +kernel
theorem dX12_change_70 : decode cX12_change 70 = .ok (.imul, 1) := by decide +kernel
theorem dX12_change_71 : decode cX12_change 71 = .ok (.iload_n 2, 1) := by decide +kernel
theorem dX12_change_72 : decode cX12_change 72 = .ok (.iadd, 1) := by decide +kernel
theorem dX12_change_73 : decode cX12_change 73 = .ok (.iload_n 3, 1) := by decide +kernel
theorem dX12_change_74 : decode cX12_change 74 = .ok (.iastore, 1) := by decide +kernel
theorem dX12_change_75 : decode cX12_change 75 = .ok (.iload 4, 2) := by decide +kernel
theorem dX12_change_77 : decode cX12_change 77 = .ok (.ireturn, 1) := by decide +kernel
theorem dX12_drawn_0 : decode cX12_drawn 0 = .ok (.aload_n 0, 1) := by decide +kernel
theorem dX12_drawn_1 : decode cX12_drawn 1 = .ok (.iload_n 1, 1) := by decide +kernel
theorem dX12_drawn_2 : decode cX12_drawn 2 = .ok (.invokevirtual 129, 3) := by decide +kernel
theorem dX12_drawn_5 : decode cX12_drawn 5 = .ok (.ifCond .ne 9, 3) := by decide +kernel
theorem dX12_drawn_8 : decode cX12_drawn 8 = .ok (.aload_n 0, 1) := by decide +kernel
theorem dX12_drawn_9 : decode cX12_drawn 9 = .ok (.iconst (-1), 1) := by decide +kernel
theorem dX12_drawn_10 : decode cX12_drawn 10 = .ok (.invokevirtual 94, 3) := by decide +kernel
theorem dX12_drawn_13 : decode cX12_drawn 13 = .ok (.ireturn, 1) := by decide +kernel
theorem dX12_drawn_14 : decode cX12_drawn 14 = .ok (.iload_n 2, 1) := by decide +kernel
theorem dX12_drawn_15 : decode cX12_drawn 15 = .ok (.ifCond .lt 9, 3) := by decide +kernel
theorem dX12_drawn_18 : decode cX12_drawn 18 = .ok (.iload_n 2, 1) := by decide +kernel
theorem dX12_drawn_19 : decode cX12_drawn 19 = .ok (.bipush 10, 2) := by decide +kernel
theorem dX12_drawn_21 : decode cX12_drawn 21 = .ok (.if_icmp .le 10, 3) := by decide +kernel
theorem dX12_drawn_24 : decode cX12_drawn 24 = .ok (.aload_n 0, 1) := by decide +kernel
theorem dX12_drawn_25 : decode cX12_drawn 25 = .ok (.bipush (-6), 2) := by decide +kernel
theorem dX12_drawn_27 : decode cX12_drawn 27 = .ok (.invokevirtual 94, 3) := by decide +kernel
theorem dX12_drawn_30 : decode cX12_drawn 30 = .ok (.ireturn, 1) := by decide +kernel
theorem dX12_drawn_31 : decode cX12_drawn 31 = .ok (.aload_n 0, 1) := by decide +kernel
theorem dX12_drawn_32 : decode cX12_drawn 32 = .ok (.getfield 29, 3) := by decide +kernel
theorem dX12_drawn_35 : decode cX12_drawn 35 = .ok (.iload_n 1, 1) := by decide +kernel
theorem dX12_drawn_36 : decode cX12_drawn 36 = .ok (.iaload, 1) := by decide +kernel
theorem dX12_drawn_37 : decode cX12_drawn 37 = .ok (.istore_n 3, 1) := by decide +kernel
theorem dX12_drawn_38 : decode cX12_drawn 38 = .ok (.aload_n 0, 1) := by decide +kernel
theorem dX12_drawn_39 : decode cX12_drawn 39 = .ok (.getfield 29, 3) := by decide +kernel
theorem dX12_drawn_42 : decode cX12_drawn 42 = .ok (.iload_n 1, 1) := by decide +kernel
theorem dX12_drawn_43 : decode cX12_drawn 43 = .ok (.iload_n 2, 1) := by decide +kernel
theorem dX12_drawn_44 : decode cX12_drawn 44 = .ok (.iastore, 1) := by decide +kernel
theorem dX12_drawn_45 : decode cX12_drawn 45 = .ok (.iload_n 3, 1) := by decide +kernel
theorem dX12_drawn_46 : decode cX12_drawn 46 = .ok (.ireturn, 1) := by decide +kernel
theorem dX12_first_0 : decode cX12_first 0 = .ok (.aload_n 0, 1) := by decide +kernel
theorem dX12_first_1 : decode cX12_first 1 = .ok (.iload_n 1, 1) := by decide +kernel
theorem dX12_first_2 : decode cX12_first 2 = .ok (.invokevirtual 132, 3) := by decide +kernel
theorem dX12_first_5 : decode cX12_first 5 = .ok (.istore_n 2, 1) := by decide +kernel
theorem dX12_first_6 : decode cX12_first 6 = .ok (.iload_n 2, 1) := by decide +kernel
theorem dX12_first_7 : decode cX12_first 7 = .ok (.istore_n 3, 1) := by decide +kernel
theorem dX12_first_8 : decode cX12_first 8 = .ok (.iload_n 3, 1) := by decide +kernel
theorem dX12_first_9 : decode cX12_first 9 = .ok (.ifCond .le 23, 3) := by decide +kernel
theorem dX12_first_12 : decode cX12_first 12 = .ok (.aload_n 0, 1) := by decide +kernel
theorem dX12_first_13 : decode cX12_first 13 = .ok (.getfield 32, 3) := by decide +kernel
theorem dX12_first_16 : decode cX12_first 16 = .ok (.iload_n 3, 1) := by decide +kernel
theorem dX12_first_17 : decode cX12_first 17 = .ok (.aload_n 0, 1) := by decide +kernel
theorem dX12_first_18 : decode cX12_first 18 = .ok (.getfield 32, 3) := by decide +kernel
theorem dX12_first_21 : decode cX12_first 21 = .ok (.iload_n 3, 1) := by decide +kernel
theorem dX12_first_22 : decode cX12_first 22 = .ok (.iconst 1, 1) := by decide +kernel
theorem dX12_first_23 : decode cX12_first 23 = .ok (.isub, 1) := by decide +kernel
theorem dX12_first_24 : decode cX12_first 24 = .ok (.iaload, 1) := by decide +kernel
theorem dX12_first_25 : decode cX12_first 25 = .ok (.iastore, 1) := by decide +kernel
theorem dX12_first_26 : decode cX12_first 26 = .ok (.iinc 3 (-1), 3) := by decide +kernel
theorem dX12_first_29 : decode cX12_first 29 = .ok (.goto (-21), 3) := by decide +kernel
theorem dX12_first_32 : decode cX12_first 32 = .ok (.aload_n 0, 1) := by decide +kernel
theorem dX12_first_33 : decode cX12_first 33 = .ok (.getfield 32, 3) := by decide +kernel
theorem dX12_first_36 : decode cX12_first 36 = .ok (.iconst 0, 1) := by decide +kernel
theorem dX12_first_37 : decode cX12_first 37 = .ok (.iload_n 1, 1) := by decide +kernel
theorem dX12_first_38 : decode cX12_first 38 = .ok (.iastore, 1) := by decide +kernel
theorem dX12_first_39 : decode cX12_first 39 = .ok (.iload_n 2, 1) := by decide +kernel
theorem dX12_first_40 : decode cX12_first 40 = .ok (.ireturn, 1) := by decide +kernel
theorem dX12_chief_0 : decode cX12_chief 0 = .ok (.aload_n 0, 1) := by decide +kernel
theorem dX12_chief_1 : decode cX12_chief 1 = .ok (.iload_n 1, 1) := by decide +kernel
theorem dX12_chief_2 : decode cX12_chief 2 = .ok (.invokevirtual 129, 3) := by decide +kernel
theorem dX12_chief_5 : decode cX12_chief 5 = .ok (.ifCond .eq 11, 3) := by decide +kernel
theorem dX12_chief_8 : decode cX12_chief 8 = .ok (.aload_n 0, 1) := by decide +kernel
theorem dX12_chief_9 : decode cX12_chief 9 = .ok (.iload_n 1, 1) := by decide +kernel
theorem dX12_chief_10 : decode cX12_chief 10 = .ok (.invokevirtual 135, 3) := by decide +kernel
theorem dX12_chief_13 : decode cX12_chief 13 = .ok (.goto 8, 3) := by decide +kernel
theorem dX12_chief_16 : decode cX12_chief 16 = .ok (.aload_n 0, 1) := by decide +kernel
theorem dX12_chief_17 : decode cX12_chief 17 = .ok (.iconst (-1), 1) := by decide +kernel
theorem dX12_chief_18 : decode cX12_chief 18 = .ok (.invokevirtual 94, 3) := by decide +kernel
theorem dX12_chief_21 : decode cX12_chief 21 = .ok (.ireturn, 1) := by decide +kernel
theorem dX12_wrong_0 : decode cX12_wrong 0 = .ok (.aload_n 0, 1) := by decide +kernel
theorem dX12_wrong_1 : decode cX12_wrong 1 = .ok (.iload_n 1, 1) := by decide +kernel
theorem dX12_wrong_2 : decode cX12_wrong 2 = .ok (.putfield 138, 3) := by decide +kernel
theorem dX12_wrong_5 : decode cX12_wrong 5 = .ok (.iconst 0, 1) := by decide +kernel
theorem dX12_wrong_6 : decode cX12_wrong 6 = .ok (.ireturn, 1) := by decide +kernel
theorem dX12_word_0 : decode cX12_word 0 = .ok (.iconst 0, 1) := by decide +kernel
theorem dX12_word_1 : decode cX12_word 1 = .ok (.istore_n 1, 1) := by decide +kernel
theorem dX12_word_2 : decode cX12_word 2 = .ok (.aload_n 0, 1) := by decide +kernel
theorem dX12_word_3 : decode cX12_word 3 = .ok (.getfield 141, 3) := by decide +kernel
theorem dX12_word_6 : decode cX12_word 6 = .ok (.istore_n 2, 1) := by decide +kernel
theorem dX12_word_7 : decode cX12_word 7 = .ok (.iconst 0, 1) := by decide +kernel
theorem dX12_word_8 : decode cX12_word 8 = .ok (.istore_n 3, 1) := by decide +kernel
theorem dX12_word_9 : decode cX12_word 9 = .ok (.iload_n 3, 1) := by decide +kernel
theorem dX12_word_10 : decode cX12_word 10 = .ok (.iconst 4, 1) := by decide +kernel
theorem dX12_word_11 : decode cX12_word 11 = .ok (.if_icmp .ge 118, 3) := by decide +kernel
theorem dX12_word_14 : decode cX12_word 14 = .ok (.aload_n 0, 1) := by decide +kernel
theorem dX12_word_15 : decode cX12_word 15 = .ok (.getfield 141, 3) := by decide +kernel
theorem dX12_word_18 : decode cX12_word 18 = .ok (.istore 4, 2) := by decide +kernel
theorem dX12_word_20 : decode cX12_word 20 = .ok (.iload_n 1, 1) := by decide +kernel
theorem dX12_word_21 : decode cX12_word 21 = .ok (.istore 5, 2) := by decide +kernel
theorem dX12_word_23 : decode cX12_word 23 = .ok (.aload_n 0, 1) := by decide +kernel
theorem dX12_word_24 : decode cX12_word 24 = .ok (.getfield 60, 3) := by decide +kernel
theorem dX12_word_27 : decode cX12_word 27 = .ok (.iload 5, 2) := by decide +kernel
theorem dX12_word_29 : decode cX12_word 29 = .ok (.iaload, 1) := by decide +kernel
theorem dX12_word_30 : decode cX12_word 30 = .ok (.ifCond .eq 44, 3) := by decide +kernel
theorem dX12_word_33 : decode cX12_word 33 = .ok (.iload 4, 2) := by decide +kernel
theorem dX12_word_35 : decode cX12_word 35 = .ok (.aload_n 0, 1) := by decide +kernel
theorem dX12_word_36 : decode cX12_word 36 = .ok (.getfield 144, 3) := by decide +kernel
theorem dX12_word_39 : decode cX12_word 39 = .ok (.if_icmp .ge 35, 3) := by decide +kernel
theorem dX12_word_42 : decode cX12_word 42 = .ok (.aload_n 0, 1) := by decide +kernel
theorem dX12_word_43 : decode cX12_word 43 = .ok (.getfield 53, 3) := by decide +kernel
theorem dX12_word_46 : decode cX12_word 46 = .ok (.aload_n 0, 1) := by decide +kernel
theorem dX12_word_47 : decode cX12_word 47 = .ok (.getfield 147, 3) := by decide +kernel
theorem dX12_word_50 : decode cX12_word 50 = .ok (.iload 4, 2) := by decide +kernel
theorem dX12_word_52 : decode cX12_word 52 = .ok (.iadd, 1) := by decide +kernel
theorem dX12_word_53 : decode cX12_word 53 = .ok (.laload, 1) := by decide +kernel
theorem dX12_word_54 : decode cX12_word 54 = .ok (.l2i, 1) := by decide +kernel
theorem dX12_word_55 : decode cX12_word 55 = .ok (.aload_n 0, 1) := by decide +kernel
theorem dX12_word_56 : decode cX12_word 56 = .ok (.getfield 60, 3) := by decide +kernel
theorem dX12_word_59 : decode cX12_word 59 = .ok (.iload 5, 2) := by decide +kernel
theorem dX12_word_61 : decode cX12_word 61 = .ok (.iaload, 1) := by decide +kernel
theorem dX12_word_62 : decode cX12_word 62 = .ok (.if_icmp .ne 12, 3) := by decide +kernel
theorem dX12_word_65 : decode cX12_word 65 = .ok (.iinc 4 1, 3) := by decide +kernel
theorem dX12_word_68 : decode cX12_word 68 = .ok (.iinc 5 1, 3) := by decide +kernel
theorem dX12_word_71 : decode cX12_word 71 = .ok (.goto (-48), 3) := by decide +kernel
theorem dX12_word_74 : decode cX12_word 74 = .ok (.aload_n 0, 1) := by decide +kernel
theorem dX12_word_75 : decode cX12_word 75 = .ok (.getfield 60, 3) := by decide +kernel
theorem dX12_word_78 : decode cX12_word 78 = .ok (.iload 5, 2) := by decide +kernel
theorem dX12_word_80 : decode cX12_word 80 = .ok (.iaload, 1) := by decide +kernel
theorem dX12_word_81 : decode cX12_word 81 = .ok (.ifCond .ne 11, 3) := by decide +kernel
theorem dX12_word_84 : decode cX12_word 84 = .ok (.aload_n 0, 1) := by decide +kernel
theorem dX12_word_85 : decode cX12_word 85 = .ok (.iload 4, 2) := by decide +kernel
theorem dX12_word_87 : decode cX12_word 87 = .ok (.putfield 141, 3) := by decide +kernel
theorem dX12_word_90 : decode cX12_word 90 = .ok (.iload_n 3, 1) := by decide +kernel
theorem dX12_word_91 : decode cX12_word 91 = .ok (.ireturn, 1) := by decide +kernel
theorem dX12_word_92 : decode cX12_word 92 = .ok (.iload 4, 2) := by decide +kernel
theorem dX12_word_94 : decode cX12_word 94 = .ok (.iload_n 2, 1) := by decide +kernel
theorem dX12_word_95 : decode cX12_word 95 = .ok (.if_icmp .le 8, 3) := by decide +kernel
theorem dX12_word_98 : decode cX12_word 98 = .ok (.iload 4, 2) := by decide +kernel
theorem dX12_word_100 : decode cX12_word 100 = .ok (.goto 4, 3) := by decide +kernel
theorem dX12_word_103 : decode cX12_word 103 = .ok (.iload_n 2, 1) := by decide +kernel
theorem dX12_word_104 : decode cX12_word 104 = .ok (.istore_n 2, 1) := by decide +kernel
theorem dX12_word_105 : decode cX12_word 105 = .ok (.aload_n 0, 1) := by decide +kernel
theorem dX12_word_106 : decode cX12_word 106 = .ok (.getfield 60, 3) := by decide +kernel
theorem dX12_word_109 : decode cX12_word 109 = .ok (.iload_n 1, 1) := by decide +kernel
theorem dX12_word_110 : decode cX12_word 110 = .ok (.iaload, 1) := by decide +kernel
theorem dX12_word_111 : decode cX12_word 111 = .ok (.ifCond .eq 9, 3) := by decide +kernel
theorem dX12_word_114 : decode cX12_word 114 = .ok (.iinc 1 1, 3) := by decide +kernel
theorem dX12_word_117 : decode cX12_word 117 = .ok (.goto (-12), 3) := by decide +kernel
theorem dX12_word_120 : decode cX12_word 120 = .ok (.iinc 1 1, 3) := by decide +kernel
theorem dX12_word_123 : decode cX12_word 123 = .ok (.iinc 3 1, 3) := by decide +kernel
theorem dX12_word_126 : decode cX12_word 126 = .ok (.goto (-117), 3) := by decide +kernel
theorem dX12_word_129 : decode cX12_word 129 = .ok (.aload_n 0, 1) := by decide +kernel
theorem dX12_word_130 : decode cX12_word 130 = .ok (.iload_n 2, 1) := by decide +kernel
theorem dX12_word_131 : decode cX12_word 131 = .ok (.putfield 138, 3) := by decide +kernel
theorem dX12_word_134 : decode cX12_word 134 = .ok (.iconst (-1), 1) := by decide +kernel
theorem dX12_word_135 : decode cX12_word 135 = .ok (.ireturn, 1) := by decide +kernel
theorem dX12_isDigit_0 : decode cX12_isDigit 0 = .ok (.aload_n 0, 1) := by decide +kernel
theorem dX12_isDigit_1 : decode cX12_isDigit 1 = .ok (.getfield 141, 3) := by decide +kernel
theorem dX12_isDigit_4 : decode cX12_isDigit 4 = .ok (.aload_n 0, 1) := by decide +kernel
theorem dX12_isDigit_5 : decode cX12_isDigit 5 = .ok (.getfield 144, 3) := by decide +kernel
theorem dX12_isDigit_8 : decode cX12_isDigit 8 = .ok (.if_icmp .ge 47, 3) := by decide +kernel
theorem dX12_isDigit_11 : decode cX12_isDigit 11 = .ok (.aload_n 0, 1) := by decide +kernel
theorem dX12_isDigit_12 : decode cX12_isDigit 12 = .ok (.getfield 53, 3) := by decide +kernel
theorem dX12_isDigit_15 : decode cX12_isDigit 15 = .ok (.aload_n 0, 1) := by decide +kernel
theorem dX12_isDigit_16 : decode cX12_isDigit 16 = .ok (.getfield 147, 3) := by decide +kernel
theorem dX12_isDigit_19 : decode cX12_isDigit 19 = .ok (.aload_n 0, 1) := by decide +kernel
theorem dX12_isDigit_20 : decode cX12_isDigit 20 = .ok (.getfield 141, 3) := by decide +kernel
theorem dX12_isDigit_23 : decode cX12_isDigit 23 = .ok (.iadd, 1) := by decide +kernel
theorem dX12_isDigit_24 : decode cX12_isDigit 24 = .ok (.laload, 1) := by decide +kernel
theorem dX12_isDigit_25 : decode cX12_isDigit 25 = .ok (.l2i, 1) := by decide +kernel
theorem dX12_isDigit_26 : decode cX12_isDigit 26 = .ok (.bipush 48, 2) := by decide +kernel
theorem dX12_isDigit_28 : decode cX12_isDigit 28 = .ok (.if_icmp .lt 27, 3) := by decide +kernel
theorem dX12_isDigit_31 : decode cX12_isDigit 31 = .ok (.aload_n 0, 1) := by decide +kernel
theorem dX12_isDigit_32 : decode cX12_isDigit 32 = .ok (.getfield 53, 3) := by decide +kernel
theorem dX12_isDigit_35 : decode cX12_isDigit 35 = .ok (.aload_n 0, 1) := by decide +kernel
theorem dX12_isDigit_36 : decode cX12_isDigit 36 = .ok (.getfield 147, 3) := by decide +kernel
theorem dX12_isDigit_39 : decode cX12_isDigit 39 = .ok (.aload_n 0, 1) := by decide +kernel
theorem dX12_isDigit_40 : decode cX12_isDigit 40 = .ok (.getfield 141, 3) := by decide +kernel
theorem dX12_isDigit_43 : decode cX12_isDigit 43 = .ok (.iadd, 1) := by decide +kernel
theorem dX12_isDigit_44 : decode cX12_isDigit 44 = .ok (.laload, 1) := by decide +kernel
theorem dX12_isDigit_45 : decode cX12_isDigit 45 = .ok (.l2i, 1) := by decide +kernel
theorem dX12_isDigit_46 : decode cX12_isDigit 46 = .ok (.bipush 57, 2) := by decide +kernel
theorem dX12_isDigit_48 : decode cX12_isDigit 48 = .ok (.if_icmp .gt 7, 3) := by decide +kernel
theorem dX12_isDigit_51 : decode cX12_isDigit 51 = .ok (.iconst 1, 1) := by decide +kernel
theorem dX12_isDigit_52 : decode cX12_isDigit 52 = .ok (.goto 4, 3) := by decide +kernel
theorem dX12_isDigit_55 : decode cX12_isDigit 55 = .ok (.iconst 0, 1) := by decide +kernel
theorem dX12_isDigit_56 : decode cX12_isDigit 56 = .ok (.ireturn, 1) := by decide +kernel
theorem dX12_number_0 : decode cX12_number 0 = .ok (.aload_n 0, 1) := by decide +kernel
theorem dX12_number_1 : decode cX12_number 1 = .ok (.getfield 141, 3) := by decide +kernel
theorem dX12_number_4 : decode cX12_number 4 = .ok (.istore_n 2, 1) := by decide +kernel
theorem dX12_number_5 : decode cX12_number 5 = .ok (.aload_n 0, 1) := by decide +kernel
theorem dX12_number_6 : decode cX12_number 6 = .ok (.invokevirtual 150, 3) := by decide +kernel
theorem dX12_number_9 : decode cX12_number 9 = .ok (.ifCond .ne 12, 3) := by decide +kernel
theorem dX12_number_12 : decode cX12_number 12 = .ok (.aload_n 0, 1) := by decide +kernel
theorem dX12_number_13 : decode cX12_number 13 = .ok (.aload_n 0, 1) := by decide +kernel
theorem dX12_number_14 : decode cX12_number 14 = .ok (.getfield 141, 3) := by decide +kernel
theorem dX12_number_17 : decode cX12_number 17 = .ok (.invokevirtual 154, 3) := by decide +kernel
theorem dX12_number_20 : decode cX12_number 20 = .ok (.ireturn, 1) := by decide +kernel
theorem dX12_number_21 : decode cX12_number 21 = .ok (.aload_n 0, 1) := by decide +kernel
theorem dX12_number_22 : decode cX12_number 22 = .ok (.aload_n 0, 1) := by decide +kernel
theorem dX12_number_23 : decode cX12_number 23 = .ok (.getfield 53, 3) := by decide +kernel
theorem dX12_number_26 : decode cX12_number 26 = .ok (.aload_n 0, 1) := by decide +kernel
theorem dX12_number_27 : decode cX12_number 27 = .ok (.getfield 147, 3) := by decide +kernel
theorem dX12_number_30 : decode cX12_number 30 = .ok (.aload_n 0, 1) := by decide +kernel
theorem dX12_number_31 : decode cX12_number 31 = .ok (.getfield 141, 3) := by decide +kernel
theorem dX12_number_34 : decode cX12_number 34 = .ok (.iadd, 1) := by decide +kernel
theorem dX12_number_35 : decode cX12_number 35 = .ok (.laload, 1) := by decide +kernel
theorem dX12_number_36 : decode cX12_number 36 = .ok (.l2i, 1) := by decide +kernel
theorem dX12_number_37 : decode cX12_number 37 = .ok (.bipush 48, 2) := by decide +kernel
theorem dX12_number_39 : decode cX12_number 39 = .ok (.isub, 1) := by decide +kernel
theorem dX12_number_40 : decode cX12_number 40 = .ok (.putfield 157, 3) := by decide +kernel
theorem dX12_number_43 : decode cX12_number 43 = .ok (.aload_n 0, 1) := by decide +kernel
theorem dX12_number_44 : decode cX12_number 44 = .ok (.dup, 1) := by decide +kernel
theorem dX12_number_45 : decode cX12_number 45 = .ok (.getfield 141, 3) := by decide +kernel
theorem dX12_number_48 : decode cX12_number 48 = .ok (.iconst 1, 1) := by decide +kernel
theorem dX12_number_49 : decode cX12_number 49 = .ok (.iadd, 1) := by decide +kernel
theorem dX12_number_50 : decode cX12_number 50 = .ok (.putfield 141, 3) := by decide +kernel
theorem dX12_number_53 : decode cX12_number 53 = .ok (.aload_n 0, 1) := by decide +kernel
theorem dX12_number_54 : decode cX12_number 54 = .ok (.invokevirtual 150, 3) := by decide +kernel
theorem dX12_number_57 : decode cX12_number 57 = .ok (.ifCond .eq 43, 3) := by decide +kernel
theorem dX12_number_60 : decode cX12_number 60 = .ok (.aload_n 0, 1) := by decide +kernel
theorem dX12_number_61 : decode cX12_number 61 = .ok (.bipush 10, 2) := by decide +kernel
theorem dX12_number_63 : decode cX12_number 63 = .ok (.aload_n 0, 1) := by decide +kernel
theorem dX12_number_64 : decode cX12_number 64 = .ok (.getfield 157, 3) := by decide +kernel
theorem dX12_number_67 : decode cX12_number 67 = .ok (.imul, 1) := by decide +kernel
theorem dX12_number_68 : decode cX12_number 68 = .ok (.aload_n 0, 1) := by decide +kernel
theorem dX12_number_69 : decode cX12_number 69 = .ok (.getfield 53, 3) := by decide +kernel
theorem dX12_number_72 : decode cX12_number 72 = .ok (.aload_n 0, 1) := by decide +kernel
theorem dX12_number_73 : decode cX12_number 73 = .ok (.getfield 147, 3) := by decide +kernel
theorem dX12_number_76 : decode cX12_number 76 = .ok (.aload_n 0, 1) := by decide +kernel
theorem dX12_number_77 : decode cX12_number 77 = .ok (.getfield 141, 3) := by decide +kernel
theorem dX12_number_80 : decode cX12_number 80 = .ok (.iadd, 1) := by decide +kernel
theorem dX12_number_81 : decode cX12_number 81 = .ok (.laload, 1) := by decide +kernel
theorem dX12_number_82 : decode cX12_number 82 = .ok (.l2i, 1) := by decide +kernel
theorem dX12_number_83 : decode cX12_number 83 = .ok (.iadd, 1) := by decide +kernel
theorem dX12_number_84 : decode cX12_number 84 = .ok (.bipush 48, 2) := by decide +kernel
theorem dX12_number_86 : decode cX12_number 86 = .ok (.isub, 1) := by decide +kernel
theorem dX12_number_87 : decode cX12_number 87 = .ok (.putfield 157, 3) := by decide +kernel
theorem dX12_number_90 : decode cX12_number 90 = .ok (.aload_n 0, 1) := by decide +kernel
theorem dX12_number_91 : decode cX12_number 91 = .ok (.dup, 1) := by decide +kernel
theorem dX12_number_92 : decode cX12_number 92 = .ok (.getfield 141, 3) := by decide +kernel
theorem dX12_number_95 : decode cX12_number 95 = .ok (.iconst 1, 1) := by decide +kernel
theorem dX12_number_96 : decode cX12_number 96 = .ok (.iadd, 1) := by decide +kernel
theorem dX12_number_97 : decode cX12_number 97 = .ok (.putfield 141, 3) := by decide +kernel
theorem dX12_number_100 : decode cX12_number 100 = .ok (.aload_n 0, 1) := by decide +kernel
theorem dX12_number_101 : decode cX12_number 101 = .ok (.getfield 157, 3) := by decide +kernel
theorem dX12_number_104 : decode cX12_number 104 = .ok (.iload_n 1, 1) := by decide +kernel
theorem dX12_number_105 : decode cX12_number 105 = .ok (.if_icmp .le 11, 3) := by decide +kernel
theorem dX12_number_108 : decode cX12_number 108 = .ok (.aload_n 0, 1) := by decide +kernel
theorem dX12_number_109 : decode cX12_number 109 = .ok (.iload_n 2, 1) := by decide +kernel
theorem dX12_number_110 : decode cX12_number 110 = .ok (.invokevirtual 154, 3) := by decide +kernel
theorem dX12_number_113 : decode cX12_number 113 = .ok (.ifCond .eq 7, 3) := by decide +kernel
theorem dX12_number_116 : decode cX12_number 116 = .ok (.iconst 1, 1) := by decide +kernel
theorem dX12_number_117 : decode cX12_number 117 = .ok (.goto 4, 3) := by decide +kernel
theorem dX12_number_120 : decode cX12_number 120 = .ok (.iconst 0, 1) := by decide +kernel
theorem dX12_number_121 : decode cX12_number 121 = .ok (.ireturn, 1) := by decide +kernel
theorem dX12_high_0 : decode cX12_high 0 = .ok (.iload_n 1, 1) := by decide +kernel
theorem dX12_high_1 : decode cX12_high 1 = .ok (.tableswitch 66 0 2 #[27, 33, 54], 27) := by decide +kernel
theorem dX12_high_28 : decode cX12_high 28 = .ok (.aload_n 0, 1) := by decide +kernel
theorem dX12_high_29 : decode cX12_high 29 = .ok (.iload_n 2, 1) := by decide +kernel
theorem dX12_high_30 : decode cX12_high 30 = .ok (.invokevirtual 118, 3) := by decide +kernel
theorem dX12_high_33 : decode cX12_high 33 = .ok (.ireturn, 1) := by decide +kernel
theorem dX12_high_34 : decode cX12_high 34 = .ok (.iload_n 2, 1) := by decide +kernel
theorem dX12_high_35 : decode cX12_high 35 = .ok (.ifCond .ne 7, 3) := by decide +kernel
theorem dX12_high_38 : decode cX12_high 38 = .ok (.iconst 3, 1) := by decide +kernel
theorem dX12_high_39 : decode cX12_high 39 = .ok (.goto 15, 3) := by decide +kernel
theorem dX12_high_42 : decode cX12_high 42 = .ok (.iload_n 2, 1) := by decide +kernel
theorem dX12_high_43 : decode cX12_high 43 = .ok (.iconst 1, 1) := by decide +kernel
theorem dX12_high_44 : decode cX12_high 44 = .ok (.if_icmp .ne 8, 3) := by decide +kernel
theorem dX12_high_47 : decode cX12_high 47 = .ok (.bipush 9, 2) := by decide +kernel
theorem dX12_high_49 : decode cX12_high 49 = .ok (.goto 5, 3) := by decide +kernel
theorem dX12_high_52 : decode cX12_high 52 = .ok (.bipush 10, 2) := by decide +kernel
theorem dX12_high_54 : decode cX12_high 54 = .ok (.ireturn, 1) := by decide +kernel
theorem dX12_high_55 : decode cX12_high 55 = .ok (.iload_n 2, 1) := by decide +kernel
theorem dX12_high_56 : decode cX12_high 56 = .ok (.ifCond .ne 8, 3) := by decide +kernel
theorem dX12_high_59 : decode cX12_high 59 = .ok (.bipush 6, 2) := by decide +kernel
theorem dX12_high_61 : decode cX12_high 61 = .ok (.goto 5, 3) := by decide +kernel
theorem dX12_high_64 : decode cX12_high 64 = .ok (.bipush 99, 2) := by decide +kernel
theorem dX12_high_66 : decode cX12_high 66 = .ok (.ireturn, 1) := by decide +kernel
theorem dX12_high_67 : decode cX12_high 67 = .ok (.aload_n 0, 1) := by decide +kernel
theorem dX12_high_68 : decode cX12_high 68 = .ok (.getfield 84, 3) := by decide +kernel
theorem dX12_high_71 : decode cX12_high 71 = .ok (.iconst 1, 1) := by decide +kernel
theorem dX12_high_72 : decode cX12_high 72 = .ok (.isub, 1) := by decide +kernel
theorem dX12_high_73 : decode cX12_high 73 = .ok (.ireturn, 1) := by decide +kernel
theorem dX12_isFull_0 : decode cX12_isFull 0 = .ok (.iload_n 1, 1) := by decide +kernel
theorem dX12_isFull_1 : decode cX12_isFull 1 = .ok (.ifCond .ne 12, 3) := by decide +kernel
theorem dX12_isFull_4 : decode cX12_isFull 4 = .ok (.aload_n 0, 1) := by decide +kernel
theorem dX12_isFull_5 : decode cX12_isFull 5 = .ok (.getfield 81, 3) := by decide +kernel
theorem dX12_isFull_8 : decode cX12_isFull 8 = .ok (.bipush 8, 2) := by decide +kernel
theorem dX12_isFull_10 : decode cX12_isFull 10 = .ok (.if_icmp .eq 30, 3) := by decide +kernel
theorem dX12_isFull_13 : decode cX12_isFull 13 = .ok (.iload_n 1, 1) := by decide +kernel
theorem dX12_isFull_14 : decode cX12_isFull 14 = .ok (.iconst 1, 1) := by decide +kernel
theorem dX12_isFull_15 : decode cX12_isFull 15 = .ok (.if_icmp .ne 11, 3) := by decide +kernel
theorem dX12_isFull_18 : decode cX12_isFull 18 = .ok (.aload_n 0, 1) := by decide +kernel
theorem dX12_isFull_19 : decode cX12_isFull 19 = .ok (.getfield 84, 3) := by decide +kernel
theorem dX12_isFull_22 : decode cX12_isFull 22 = .ok (.iconst 4, 1) := by decide +kernel
theorem dX12_isFull_23 : decode cX12_isFull 23 = .ok (.if_icmp .eq 17, 3) := by decide +kernel
theorem dX12_isFull_26 : decode cX12_isFull 26 = .ok (.iload_n 1, 1) := by decide +kernel
theorem dX12_isFull_27 : decode cX12_isFull 27 = .ok (.iconst 2, 1) := by decide +kernel
theorem dX12_isFull_28 : decode cX12_isFull 28 = .ok (.if_icmp .ne 16, 3) := by decide +kernel
theorem dX12_isFull_31 : decode cX12_isFull 31 = .ok (.aload_n 0, 1) := by decide +kernel
theorem dX12_isFull_32 : decode cX12_isFull 32 = .ok (.getfield 87, 3) := by decide +kernel
theorem dX12_isFull_35 : decode cX12_isFull 35 = .ok (.bipush 8, 2) := by decide +kernel
theorem dX12_isFull_37 : decode cX12_isFull 37 = .ok (.if_icmp .ne 7, 3) := by decide +kernel
theorem dX12_isFull_40 : decode cX12_isFull 40 = .ok (.iconst 1, 1) := by decide +kernel
theorem dX12_isFull_41 : decode cX12_isFull 41 = .ok (.goto 4, 3) := by decide +kernel
theorem dX12_isFull_44 : decode cX12_isFull 44 = .ok (.iconst 0, 1) := by decide +kernel
theorem dX12_isFull_45 : decode cX12_isFull 45 = .ok (.ireturn, 1) := by decide +kernel
theorem dX12_isWordAt_0 : decode cX12_isWordAt 0 = .ok (.iconst 0, 1) := by decide +kernel
theorem dX12_isWordAt_1 : decode cX12_isWordAt 1 = .ok (.istore_n 2, 1) := by decide +kernel
theorem dX12_isWordAt_2 : decode cX12_isWordAt 2 = .ok (.iconst 0, 1) := by decide +kernel
theorem dX12_isWordAt_3 : decode cX12_isWordAt 3 = .ok (.istore_n 3, 1) := by decide +kernel
theorem dX12_isWordAt_4 : decode cX12_isWordAt 4 = .ok (.iload_n 3, 1) := by decide +kernel
theorem dX12_isWordAt_5 : decode cX12_isWordAt 5 = .ok (.iload_n 1, 1) := by decide +kernel
theorem dX12_isWordAt_6 : decode cX12_isWordAt 6 = .ok (.if_icmp .ge 26, 3) := by decide +kernel
theorem dX12_isWordAt_9 : decode cX12_isWordAt 9 = .ok (.iload_n 3, 1) := by decide +kernel
theorem dX12_isWordAt_10 : decode cX12_isWordAt 10 = .ok (.aload_n 0, 1) := by decide +kernel
theorem dX12_isWordAt_11 : decode cX12_isWordAt 11 = .ok (.getfield 60, 3) := by decide +kernel
theorem dX12_isWordAt_14 : decode cX12_isWordAt 14 = .ok (.iload_n 2, 1) := by decide +kernel
theorem dX12_isWordAt_15 : decode cX12_isWordAt 15 = .ok (.iaload, 1) := by decide +kernel
theorem dX12_isWordAt_16 : decode cX12_isWordAt 16 = .ok (.ifCond .ne 7, 3) := by decide +kernel
theorem dX12_isWordAt_19 : decode cX12_isWordAt 19 = .ok (.iconst 1, 1) := by decide +kernel
theorem dX12_isWordAt_20 : decode cX12_isWordAt 20 = .ok (.goto 4, 3) := by decide +kernel
theorem dX12_isWordAt_23 : decode cX12_isWordAt 23 = .ok (.iconst 0, 1) := by decide +kernel
theorem dX12_isWordAt_24 : decode cX12_isWordAt 24 = .ok (.iadd, 1) := by decide +kernel
theorem dX12_isWordAt_25 : decode cX12_isWordAt 25 = .ok (.istore_n 3, 1) := by decide +kernel
theorem dX12_isWordAt_26 : decode cX12_isWordAt 26 = .ok (.iinc 2 1, 3) := by decide +kernel
theorem dX12_isWordAt_29 : decode cX12_isWordAt 29 = .ok (.goto (-25), 3) := by decide +kernel
theorem dX12_isWordAt_32 : decode cX12_isWordAt 32 = .ok (.aload_n 0, 1) := by decide +kernel
theorem dX12_isWordAt_33 : decode cX12_isWordAt 33 = .ok (.getfield 141, 3) := by decide +kernel
theorem dX12_isWordAt_36 : decode cX12_isWordAt 36 = .ok (.istore_n 3, 1) := by decide +kernel
theorem dX12_isWordAt_37 : decode cX12_isWordAt 37 = .ok (.aload_n 0, 1) := by decide +kernel
theorem dX12_isWordAt_38 : decode cX12_isWordAt 38 = .ok (.getfield 60, 3) := by decide +kernel
theorem dX12_isWordAt_41 : decode cX12_isWordAt 41 = .ok (.iload_n 2, 1) := by decide +kernel
theorem dX12_isWordAt_42 : decode cX12_isWordAt 42 = .ok (.iaload, 1) := by decide +kernel
theorem dX12_isWordAt_43 : decode cX12_isWordAt 43 = .ok (.bipush 32, 2) := by decide +kernel
theorem dX12_isWordAt_45 : decode cX12_isWordAt 45 = .ok (.if_icmp .le 41, 3) := by decide +kernel
theorem dX12_isWordAt_48 : decode cX12_isWordAt 48 = .ok (.iload_n 3, 1) := by decide +kernel
theorem dX12_isWordAt_49 : decode cX12_isWordAt 49 = .ok (.aload_n 0, 1) := by decide +kernel
theorem dX12_isWordAt_50 : decode cX12_isWordAt 50 = .ok (.getfield 144, 3) := by decide +kernel
theorem dX12_isWordAt_53 : decode cX12_isWordAt 53 = .ok (.if_icmp .ge 33, 3) := by decide +kernel
theorem dX12_isWordAt_56 : decode cX12_isWordAt 56 = .ok (.aload_n 0, 1) := by decide +kernel
theorem dX12_isWordAt_57 : decode cX12_isWordAt 57 = .ok (.getfield 53, 3) := by decide +kernel
theorem dX12_isWordAt_60 : decode cX12_isWordAt 60 = .ok (.aload_n 0, 1) := by decide +kernel
theorem dX12_isWordAt_61 : decode cX12_isWordAt 61 = .ok (.getfield 147, 3) := by decide +kernel
theorem dX12_isWordAt_64 : decode cX12_isWordAt 64 = .ok (.iload_n 3, 1) := by decide +kernel
theorem dX12_isWordAt_65 : decode cX12_isWordAt 65 = .ok (.iadd, 1) := by decide +kernel
theorem dX12_isWordAt_66 : decode cX12_isWordAt 66 = .ok (.laload, 1) := by decide +kernel
theorem dX12_isWordAt_67 : decode cX12_isWordAt 67 = .ok (.l2i, 1) := by decide +kernel
theorem dX12_isWordAt_68 : decode cX12_isWordAt 68 = .ok (.aload_n 0, 1) := by decide +kernel
theorem dX12_isWordAt_69 : decode cX12_isWordAt 69 = .ok (.getfield 60, 3) := by decide +kernel
theorem dX12_isWordAt_72 : decode cX12_isWordAt 72 = .ok (.iload_n 2, 1) := by decide +kernel
theorem dX12_isWordAt_73 : decode cX12_isWordAt 73 = .ok (.iaload, 1) := by decide +kernel
theorem dX12_isWordAt_74 : decode cX12_isWordAt 74 = .ok (.if_icmp .ne 12, 3) := by decide +kernel
theorem dX12_isWordAt_77 : decode cX12_isWordAt 77 = .ok (.iinc 3 1, 3) := by decide +kernel
theorem dX12_isWordAt_80 : decode cX12_isWordAt 80 = .ok (.iinc 2 1, 3) := by decide +kernel
theorem dX12_isWordAt_83 : decode cX12_isWordAt 83 = .ok (.goto (-46), 3) := by decide +kernel
theorem dX12_isWordAt_86 : decode cX12_isWordAt 86 = .ok (.aload_n 0, 1) := by decide +kernel
theorem dX12_isWordAt_87 : decode cX12_isWordAt 87 = .ok (.getfield 60, 3) := by decide +kernel
theorem dX12_isWordAt_90 : decode cX12_isWordAt 90 = .ok (.iload_n 2, 1) := by decide +kernel
theorem dX12_isWordAt_91 : decode cX12_isWordAt 91 = .ok (.iaload, 1) := by decide +kernel
theorem dX12_isWordAt_92 : decode cX12_isWordAt 92 = .ok (.bipush 32, 2) := by decide +kernel
theorem dX12_isWordAt_94 : decode cX12_isWordAt 94 = .ok (.if_icmp .gt 7, 3) := by decide +kernel
theorem dX12_isWordAt_97 : decode cX12_isWordAt 97 = .ok (.iconst 1, 1) := by decide +kernel
theorem dX12_isWordAt_98 : decode cX12_isWordAt 98 = .ok (.goto 4, 3) := by decide +kernel
theorem dX12_isWordAt_101 : decode cX12_isWordAt 101 = .ok (.iconst 0, 1) := by decide +kernel
theorem dX12_isWordAt_102 : decode cX12_isWordAt 102 = .ok (.ireturn, 1) := by decide +kernel
theorem dX12_item_0 : decode cX12_item 0 = .ok (.iconst 0, 1) := by decide +kernel
theorem dX12_item_1 : decode cX12_item 1 = .ok (.istore_n 1, 1) := by decide +kernel
theorem dX12_item_2 : decode cX12_item 2 = .ok (.iload_n 1, 1) := by decide +kernel
theorem dX12_item_3 : decode cX12_item 3 = .ok (.iconst 4, 1) := by decide +kernel
theorem dX12_item_4 : decode cX12_item 4 = .ok (.if_icmp .ge 34, 3) := by decide +kernel
theorem dX12_item_7 : decode cX12_item 7 = .ok (.aload_n 0, 1) := by decide +kernel
theorem dX12_item_8 : decode cX12_item 8 = .ok (.iload_n 1, 1) := by decide +kernel
theorem dX12_item_9 : decode cX12_item 9 = .ok (.invokevirtual 160, 3) := by decide +kernel
theorem dX12_item_12 : decode cX12_item 12 = .ok (.ifCond .eq 20, 3) := by decide +kernel
theorem dX12_item_15 : decode cX12_item 15 = .ok (.aload_n 0, 1) := by decide +kernel
theorem dX12_item_16 : decode cX12_item 16 = .ok (.iload_n 1, 1) := by decide +kernel
theorem dX12_item_17 : decode cX12_item 17 = .ok (.invokevirtual 163, 3) := by decide +kernel
theorem dX12_item_20 : decode cX12_item 20 = .ok (.ifCond .eq 12, 3) := by decide +kernel
theorem dX12_item_23 : decode cX12_item 23 = .ok (.aload_n 0, 1) := by decide +kernel
theorem dX12_item_24 : decode cX12_item 24 = .ok (.aload_n 0, 1) := by decide +kernel
theorem dX12_item_25 : decode cX12_item 25 = .ok (.getfield 141, 3) := by decide +kernel
theorem dX12_item_28 : decode cX12_item 28 = .ok (.invokevirtual 154, 3) := by decide +kernel
theorem dX12_item_31 : decode cX12_item 31 = .ok (.ireturn, 1) := by decide +kernel
theorem dX12_item_32 : decode cX12_item 32 = .ok (.iinc 1 1, 3) := by decide +kernel
theorem dX12_item_35 : decode cX12_item 35 = .ok (.goto (-33), 3) := by decide +kernel
theorem dX12_item_38 : decode cX12_item 38 = .ok (.aload_n 0, 1) := by decide +kernel
theorem dX12_item_39 : decode cX12_item 39 = .ok (.getfield 141, 3) := by decide +kernel
theorem dX12_item_42 : decode cX12_item 42 = .ok (.istore_n 1, 1) := by decide +kernel
theorem dX12_item_43 : decode cX12_item 43 = .ok (.aload_n 0, 1) := by decide +kernel
theorem dX12_item_44 : decode cX12_item 44 = .ok (.invokevirtual 166, 3) := by decide +kernel
theorem dX12_item_47 : decode cX12_item 47 = .ok (.istore_n 2, 1) := by decide +kernel
theorem dX12_item_48 : decode cX12_item 48 = .ok (.iload_n 2, 1) := by decide +kernel
theorem dX12_item_49 : decode cX12_item 49 = .ok (.iconst (-1), 1) := by decide +kernel
theorem dX12_item_50 : decode cX12_item 50 = .ok (.if_icmp .ne 5, 3) := by decide +kernel
theorem dX12_item_53 : decode cX12_item 53 = .ok (.iconst 0, 1) := by decide +kernel
theorem dX12_item_54 : decode cX12_item 54 = .ok (.ireturn, 1) := by decide +kernel
theorem dX12_item_55 : decode cX12_item 55 = .ok (.iload_n 2, 1) := by decide +kernel
theorem dX12_item_56 : decode cX12_item 56 = .ok (.ifCond .ne 12, 3) := by decide +kernel
theorem dX12_item_59 : decode cX12_item 59 = .ok (.aload_n 0, 1) := by decide +kernel
theorem dX12_item_60 : decode cX12_item 60 = .ok (.getfield 81, 3) := by decide +kernel
theorem dX12_item_63 : decode cX12_item 63 = .ok (.bipush 8, 2) := by decide +kernel
theorem dX12_item_65 : decode cX12_item 65 = .ok (.if_icmp .eq 30, 3) := by decide +kernel
theorem dX12_item_68 : decode cX12_item 68 = .ok (.iload_n 2, 1) := by decide +kernel
theorem dX12_item_69 : decode cX12_item 69 = .ok (.iconst 1, 1) := by decide +kernel
theorem dX12_item_70 : decode cX12_item 70 = .ok (.if_icmp .ne 11, 3) := by decide +kernel
theorem dX12_item_73 : decode cX12_item 73 = .ok (.aload_n 0, 1) := by decide +kernel
theorem dX12_item_74 : decode cX12_item 74 = .ok (.getfield 84, 3) := by decide +kernel
theorem dX12_item_77 : decode cX12_item 77 = .ok (.iconst 4, 1) := by decide +kernel
theorem dX12_item_78 : decode cX12_item 78 = .ok (.if_icmp .eq 17, 3) := by decide +kernel
theorem dX12_item_81 : decode cX12_item 81 = .ok (.iload_n 2, 1) := by decide +kernel
theorem dX12_item_82 : decode cX12_item 82 = .ok (.iconst 2, 1) := by decide +kernel
theorem dX12_item_83 : decode cX12_item 83 = .ok (.if_icmp .ne 18, 3) := by decide +kernel
theorem dX12_item_86 : decode cX12_item 86 = .ok (.aload_n 0, 1) := by decide +kernel
theorem dX12_item_87 : decode cX12_item 87 = .ok (.getfield 87, 3) := by decide +kernel
theorem dX12_item_90 : decode cX12_item 90 = .ok (.bipush 8, 2) := by decide +kernel
theorem dX12_item_92 : decode cX12_item 92 = .ok (.if_icmp .ne 9, 3) := by decide +kernel
theorem dX12_item_95 : decode cX12_item 95 = .ok (.aload_n 0, 1) := by decide +kernel
theorem dX12_item_96 : decode cX12_item 96 = .ok (.iload_n 1, 1) := by decide +kernel
theorem dX12_item_97 : decode cX12_item 97 = .ok (.invokevirtual 154, 3) := by decide +kernel
theorem dX12_item_100 : decode cX12_item 100 = .ok (.ireturn, 1) := by decide +kernel
theorem dX12_item_101 : decode cX12_item 101 = .ok (.iload_n 2, 1) := by decide +kernel
theorem dX12_item_102 : decode cX12_item 102 = .ok (.ifCond .ne 8, 3) := by decide +kernel
theorem dX12_item_105 : decode cX12_item 105 = .ok (.bipush 6, 2) := by decide +kernel
theorem dX12_item_107 : decode cX12_item 107 = .ok (.goto 22, 3) := by decide +kernel
theorem dX12_item_110 : decode cX12_item 110 = .ok (.iload_n 2, 1) := by decide +kernel
theorem dX12_item_111 : decode cX12_item 111 = .ok (.iconst 1, 1) := by decide +kernel
theorem dX12_item_112 : decode cX12_item 112 = .ok (.if_icmp .ne 7, 3) := by decide +kernel
theorem dX12_item_115 : decode cX12_item 115 = .ok (.iconst 3, 1) := by decide +kernel
theorem dX12_item_116 : decode cX12_item 116 = .ok (.goto 13, 3) := by decide +kernel
theorem dX12_item_119 : decode cX12_item 119 = .ok (.iload_n 2, 1) := by decide +kernel
theorem dX12_item_120 : decode cX12_item 120 = .ok (.iconst 2, 1) := by decide +kernel
theorem dX12_item_121 : decode cX12_item 121 = .ok (.if_icmp .ne 7, 3) := by decide +kernel
theorem dX12_item_124 : decode cX12_item 124 = .ok (.iconst 2, 1) := by decide +kernel
theorem dX12_item_125 : decode cX12_item 125 = .ok (.goto 4, 3) := by decide +kernel
theorem dX12_item_128 : decode cX12_item 128 = .ok (.iconst 1, 1) := by decide +kernel
theorem dX12_item_129 : decode cX12_item 129 = .ok (.istore_n 3, 1) := by decide +kernel
theorem dX12_item_130 : decode cX12_item 130 = .ok (.iconst 0, 1) := by decide +kernel
theorem dX12_item_131 : decode cX12_item 131 = .ok (.istore 4, 2) := by decide +kernel
theorem dX12_item_133 : decode cX12_item 133 = .ok (.iload 4, 2) := by decide +kernel
theorem dX12_item_135 : decode cX12_item 135 = .ok (.iload_n 3, 1) := by decide +kernel
theorem dX12_item_136 : decode cX12_item 136 = .ok (.if_icmp .ge 91, 3) := by decide +kernel
theorem dX12_item_139 : decode cX12_item 139 = .ok (.iload 4, 2) := by decide +kernel
theorem dX12_item_141 : decode cX12_item 141 = .ok (.ifCond .le 53, 3) := by decide +kernel
theorem dX12_item_144 : decode cX12_item 144 = .ok (.aload_n 0, 1) := by decide +kernel
theorem dX12_item_145 : decode cX12_item 145 = .ok (.getfield 141, 3) := by decide +kernel
theorem dX12_item_148 : decode cX12_item 148 = .ok (.aload_n 0, 1) := by decide +kernel
theorem dX12_item_149 : decode cX12_item 149 = .ok (.getfield 144, 3) := by decide +kernel
theorem dX12_item_152 : decode cX12_item 152 = .ok (.if_icmp .ge 23, 3) := by decide +kernel
theorem dX12_item_155 : decode cX12_item 155 = .ok (.aload_n 0, 1) := by decide +kernel
theorem dX12_item_156 : decode cX12_item 156 = .ok (.getfield 53, 3) := by decide +kernel
theorem dX12_item_159 : decode cX12_item 159 = .ok (.aload_n 0, 1) := by decide +kernel
theorem dX12_item_160 : decode cX12_item 160 = .ok (.getfield 147, 3) := by decide +kernel
theorem dX12_item_163 : decode cX12_item 163 = .ok (.aload_n 0, 1) := by decide +kernel
theorem dX12_item_164 : decode cX12_item 164 = .ok (.getfield 141, 3) := by decide +kernel
theorem dX12_item_167 : decode cX12_item 167 = .ok (.iadd, 1) := by decide +kernel
theorem dX12_item_168 : decode cX12_item 168 = .ok (.laload, 1) := by decide +kernel
theorem dX12_item_169 : decode cX12_item 169 = .ok (.l2i, 1) := by decide +kernel
theorem dX12_item_170 : decode cX12_item 170 = .ok (.bipush 32, 2) := by decide +kernel
theorem dX12_item_172 : decode cX12_item 172 = .ok (.if_icmp .eq 12, 3) := by decide +kernel
theorem dX12_item_175 : decode cX12_item 175 = .ok (.aload_n 0, 1) := by decide +kernel
theorem dX12_item_176 : decode cX12_item 176 = .ok (.aload_n 0, 1) := by decide +kernel
theorem dX12_item_177 : decode cX12_item 177 = .ok (.getfield 141, 3) := by decide +kernel
theorem dX12_item_180 : decode cX12_item 180 = .ok (.invokevirtual 154, 3) := by decide +kernel
theorem dX12_item_183 : decode cX12_item 183 = .ok (.ireturn, 1) := by decide +kernel
theorem dX12_item_184 : decode cX12_item 184 = .ok (.aload_n 0, 1) := by decide +kernel
theorem dX12_item_185 : decode cX12_item 185 = .ok (.dup, 1) := by decide +kernel
theorem dX12_item_186 : decode cX12_item 186 = .ok (.getfield 141, 3) := by decide +kernel
theorem dX12_item_189 : decode cX12_item 189 = .ok (.iconst 1, 1) := by decide +kernel
theorem dX12_item_190 : decode cX12_item 190 = .ok (.iadd, 1) := by decide +kernel
theorem dX12_item_191 : decode cX12_item 191 = .ok (.putfield 141, 3) := by decide +kernel
theorem dX12_item_194 : decode cX12_item 194 = .ok (.aload_n 0, 1) := by decide +kernel
theorem dX12_item_195 : decode cX12_item 195 = .ok (.aload_n 0, 1) := by decide +kernel
theorem dX12_item_196 : decode cX12_item 196 = .ok (.iload_n 2, 1) := by decide +kernel
theorem dX12_item_197 : decode cX12_item 197 = .ok (.iload 4, 2) := by decide +kernel
theorem dX12_item_199 : decode cX12_item 199 = .ok (.invokevirtual 170, 3) := by decide +kernel
theorem dX12_item_202 : decode cX12_item 202 = .ok (.invokevirtual 173, 3) := by decide +kernel
theorem dX12_item_205 : decode cX12_item 205 = .ok (.ifCond .ne 5, 3) := by decide +kernel
theorem dX12_item_208 : decode cX12_item 208 = .ok (.iconst 0, 1) := by decide +kernel
theorem dX12_item_209 : decode cX12_item 209 = .ok (.ireturn, 1) := by decide +kernel
theorem dX12_item_210 : decode cX12_item 210 = .ok (.aload_n 0, 1) := by decide +kernel
theorem dX12_item_211 : decode cX12_item 211 = .ok (.getfield 63, 3) := by decide +kernel
theorem dX12_item_214 : decode cX12_item 214 = .ok (.iload 4, 2) := by decide +kernel
theorem dX12_item_216 : decode cX12_item 216 = .ok (.aload_n 0, 1) := by decide +kernel
theorem dX12_item_217 : decode cX12_item 217 = .ok (.getfield 157, 3) := by decide +kernel
theorem dX12_item_220 : decode cX12_item 220 = .ok (.iastore, 1) := by decide +kernel
theorem dX12_item_221 : decode cX12_item 221 = .ok (.iinc 4 1, 3) := by decide +kernel
theorem dX12_item_224 : decode cX12_item 224 = .ok (.goto (-91), 3) := by decide +kernel
theorem dX12_item_227 : decode cX12_item 227 = .ok (.iload_n 2, 1) := by decide +kernel
theorem dX12_item_228 : decode cX12_item 228 = .ok (.tableswitch 125 0 2 #[28, 79, 105], 28) := by decide +kernel
theorem dX12_item_256 : decode cX12_item 256 = .ok (.iconst 0, 1) := by decide +kernel
theorem dX12_item_257 : decode cX12_item 257 = .ok (.istore 4, 2) := by decide +kernel
theorem dX12_item_259 : decode cX12_item 259 = .ok (.iload 4, 2) := by decide +kernel
theorem dX12_item_261 : decode cX12_item 261 = .ok (.bipush 6, 2) := by decide +kernel
theorem dX12_item_263 : decode cX12_item 263 = .ok (.if_icmp .ge 31, 3) := by decide +kernel
theorem dX12_item_266 : decode cX12_item 266 = .ok (.aload_n 0, 1) := by decide +kernel
theorem dX12_item_267 : decode cX12_item 267 = .ok (.getfield 20, 3) := by decide +kernel
theorem dX12_item_270 : decode cX12_item 270 = .ok (.bipush 6, 2) := by decide +kernel
theorem dX12_item_272 : decode cX12_item 272 = .ok (.aload_n 0, 1) := by decide +kernel
theorem dX12_item_273 : decode cX12_item 273 = .ok (.getfield 81, 3) := by decide +kernel
theorem dX12_item_276 : decode cX12_item 276 = .ok (.imul, 1) := by decide +kernel
theorem dX12_item_277 : decode cX12_item 277 = .ok (.iload 4, 2) := by decide +kernel
theorem dX12_item_279 : decode cX12_item 279 = .ok (.iadd, 1) := by decide +kernel
theorem dX12_item_280 : decode cX12_item 280 = .ok (.aload_n 0, 1) := by decide +kernel
theorem dX12_item_281 : decode cX12_item 281 = .ok (.getfield 63, 3) := by decide +kernel
theorem dX12_item_284 : decode cX12_item 284 = .ok (.iload 4, 2) := by decide +kernel
theorem dX12_item_286 : decode cX12_item 286 = .ok (.iaload, 1) := by decide +kernel
theorem dX12_item_287 : decode cX12_item 287 = .ok (.iastore, 1) := by decide +kernel
theorem dX12_item_288 : decode cX12_item 288 = .ok (.iinc 4 1, 3) := by decide +kernel
theorem dX12_item_291 : decode cX12_item 291 = .ok (.goto (-32), 3) := by decide +kernel
theorem dX12_item_294 : decode cX12_item 294 = .ok (.aload_n 0, 1) := by decide +kernel
theorem dX12_item_295 : decode cX12_item 295 = .ok (.dup, 1) := by decide +kernel
theorem dX12_item_296 : decode cX12_item 296 = .ok (.getfield 81, 3) := by decide +kernel
theorem dX12_item_299 : decode cX12_item 299 = .ok (.iconst 1, 1) := by decide +kernel
theorem dX12_item_300 : decode cX12_item 300 = .ok (.iadd, 1) := by decide +kernel
theorem dX12_item_301 : decode cX12_item 301 = .ok (.putfield 81, 3) := by decide +kernel
theorem dX12_item_304 : decode cX12_item 304 = .ok (.goto 60, 3) := by decide +kernel
theorem dX12_item_307 : decode cX12_item 307 = .ok (.aload_n 0, 1) := by decide +kernel
theorem dX12_item_308 : decode cX12_item 308 = .ok (.aload_n 0, 1) := by decide +kernel
theorem dX12_item_309 : decode cX12_item 309 = .ok (.getfield 63, 3) := by decide +kernel
theorem dX12_item_312 : decode cX12_item 312 = .ok (.iconst 0, 1) := by decide +kernel
theorem dX12_item_313 : decode cX12_item 313 = .ok (.iaload, 1) := by decide +kernel
theorem dX12_item_314 : decode cX12_item 314 = .ok (.aload_n 0, 1) := by decide +kernel
theorem dX12_item_315 : decode cX12_item 315 = .ok (.getfield 63, 3) := by decide +kernel
theorem dX12_item_318 : decode cX12_item 318 = .ok (.iconst 1, 1) := by decide +kernel
theorem dX12_item_319 : decode cX12_item 319 = .ok (.iaload, 1) := by decide +kernel
theorem dX12_item_320 : decode cX12_item 320 = .ok (.aload_n 0, 1) := by decide +kernel
theorem dX12_item_321 : decode cX12_item 321 = .ok (.getfield 63, 3) := by decide +kernel
theorem dX12_item_324 : decode cX12_item 324 = .ok (.iconst 2, 1) := by decide +kernel
theorem dX12_item_325 : decode cX12_item 325 = .ok (.iaload, 1) := by decide +kernel
theorem dX12_item_326 : decode cX12_item 326 = .ok (.invokevirtual 121, 3) := by decide +kernel
theorem dX12_item_329 : decode cX12_item 329 = .ok (.pop, 1) := by decide +kernel
theorem dX12_item_330 : decode cX12_item 330 = .ok (.goto 34, 3) := by decide +kernel
theorem dX12_item_333 : decode cX12_item 333 = .ok (.aload_n 0, 1) := by decide +kernel
theorem dX12_item_334 : decode cX12_item 334 = .ok (.aload_n 0, 1) := by decide +kernel
theorem dX12_item_335 : decode cX12_item 335 = .ok (.getfield 63, 3) := by decide +kernel
theorem dX12_item_338 : decode cX12_item 338 = .ok (.iconst 0, 1) := by decide +kernel
theorem dX12_item_339 : decode cX12_item 339 = .ok (.iaload, 1) := by decide +kernel
theorem dX12_item_340 : decode cX12_item 340 = .ok (.aload_n 0, 1) := by decide +kernel
theorem dX12_item_341 : decode cX12_item 341 = .ok (.getfield 63, 3) := by decide +kernel
theorem dX12_item_344 : decode cX12_item 344 = .ok (.iconst 1, 1) := by decide +kernel
theorem dX12_item_345 : decode cX12_item 345 = .ok (.iaload, 1) := by decide +kernel
theorem dX12_item_346 : decode cX12_item 346 = .ok (.invokevirtual 124, 3) := by decide +kernel
theorem dX12_item_349 : decode cX12_item 349 = .ok (.pop, 1) := by decide +kernel
theorem dX12_item_350 : decode cX12_item 350 = .ok (.goto 14, 3) := by decide +kernel
theorem dX12_item_353 : decode cX12_item 353 = .ok (.aload_n 0, 1) := by decide +kernel
theorem dX12_item_354 : decode cX12_item 354 = .ok (.aload_n 0, 1) := by decide +kernel
theorem dX12_item_355 : decode cX12_item 355 = .ok (.getfield 63, 3) := by decide +kernel
theorem dX12_item_358 : decode cX12_item 358 = .ok (.iconst 0, 1) := by decide +kernel
theorem dX12_item_359 : decode cX12_item 359 = .ok (.iaload, 1) := by decide +kernel
theorem dX12_item_360 : decode cX12_item 360 = .ok (.invokevirtual 135, 3) := by decide +kernel
theorem dX12_item_363 : decode cX12_item 363 = .ok (.pop, 1) := by decide +kernel
theorem dX12_item_364 : decode cX12_item 364 = .ok (.iconst 1, 1) := by decide +kernel
theorem dX12_item_365 : decode cX12_item 365 = .ok (.ireturn, 1) := by decide +kernel
theorem dX12_keeps_0 : decode cX12_keeps 0 = .ok (.iconst 0, 1) := by decide +kernel
theorem dX12_keeps_1 : decode cX12_keeps 1 = .ok (.istore 6, 2) := by decide +kernel
theorem dX12_keeps_3 : decode cX12_keeps 3 = .ok (.iload 6, 2) := by decide +kernel
theorem dX12_keeps_5 : decode cX12_keeps 5 = .ok (.iload_n 2, 1) := by decide +kernel
theorem dX12_keeps_6 : decode cX12_keeps 6 = .ok (.if_icmp .ge 39, 3) := by decide +kernel
theorem dX12_keeps_9 : decode cX12_keeps 9 = .ok (.iload 5, 2) := by decide +kernel
theorem dX12_keeps_11 : decode cX12_keeps 11 = .ok (.ifCond .eq 17, 3) := by decide +kernel
theorem dX12_keeps_14 : decode cX12_keeps 14 = .ok (.aload_n 1, 1) := by decide +kernel
theorem dX12_keeps_15 : decode cX12_keeps 15 = .ok (.iload 6, 2) := by decide +kernel
theorem dX12_keeps_17 : decode cX12_keeps 17 = .ok (.aload_n 3, 1) := by decide +kernel
theorem dX12_keeps_18 : decode cX12_keeps 18 = .ok (.iload 4, 2) := by decide +kernel
theorem dX12_keeps_20 : decode cX12_keeps 20 = .ok (.iload 6, 2) := by decide +kernel
theorem dX12_keeps_22 : decode cX12_keeps 22 = .ok (.iadd, 1) := by decide +kernel
theorem dX12_keeps_23 : decode cX12_keeps 23 = .ok (.iaload, 1) := by decide +kernel
theorem dX12_keeps_24 : decode cX12_keeps 24 = .ok (.iastore, 1) := by decide +kernel
theorem dX12_keeps_25 : decode cX12_keeps 25 = .ok (.goto 14, 3) := by decide +kernel
theorem dX12_keeps_28 : decode cX12_keeps 28 = .ok (.aload_n 3, 1) := by decide +kernel
theorem dX12_keeps_29 : decode cX12_keeps 29 = .ok (.iload 4, 2) := by decide +kernel
theorem dX12_keeps_31 : decode cX12_keeps 31 = .ok (.iload 6, 2) := by decide +kernel
theorem dX12_keeps_33 : decode cX12_keeps 33 = .ok (.iadd, 1) := by decide +kernel
theorem dX12_keeps_34 : decode cX12_keeps 34 = .ok (.aload_n 1, 1) := by decide +kernel
theorem dX12_keeps_35 : decode cX12_keeps 35 = .ok (.iload 6, 2) := by decide +kernel
theorem dX12_keeps_37 : decode cX12_keeps 37 = .ok (.iaload, 1) := by decide +kernel
theorem dX12_keeps_38 : decode cX12_keeps 38 = .ok (.iastore, 1) := by decide +kernel
theorem dX12_keeps_39 : decode cX12_keeps 39 = .ok (.iinc 6 1, 3) := by decide +kernel
theorem dX12_keeps_42 : decode cX12_keeps 42 = .ok (.goto (-39), 3) := by decide +kernel
theorem dX12_keeps_45 : decode cX12_keeps 45 = .ok (.iload 4, 2) := by decide +kernel
theorem dX12_keeps_47 : decode cX12_keeps 47 = .ok (.iload_n 2, 1) := by decide +kernel
theorem dX12_keeps_48 : decode cX12_keeps 48 = .ok (.iadd, 1) := by decide +kernel
theorem dX12_keeps_49 : decode cX12_keeps 49 = .ok (.ireturn, 1) := by decide +kernel
theorem dX12_all_0 : decode cX12_all 0 = .ok (.aload_n 0, 1) := by decide +kernel
theorem dX12_all_1 : decode cX12_all 1 = .ok (.aload_n 0, 1) := by decide +kernel
theorem dX12_all_2 : decode cX12_all 2 = .ok (.getfield 20, 3) := by decide +kernel
theorem dX12_all_5 : decode cX12_all 5 = .ok (.bipush 48, 2) := by decide +kernel
theorem dX12_all_7 : decode cX12_all 7 = .ok (.aload_n 1, 1) := by decide +kernel
theorem dX12_all_8 : decode cX12_all 8 = .ok (.iconst 0, 1) := by decide +kernel
theorem dX12_all_9 : decode cX12_all 9 = .ok (.iload_n 2, 1) := by decide +kernel
theorem dX12_all_10 : decode cX12_all 10 = .ok (.invokevirtual 175, 3) := by decide +kernel
theorem dX12_all_13 : decode cX12_all 13 = .ok (.istore_n 3, 1) := by decide +kernel
theorem dX12_all_14 : decode cX12_all 14 = .ok (.aload_n 0, 1) := by decide +kernel
theorem dX12_all_15 : decode cX12_all 15 = .ok (.aload_n 0, 1) := by decide +kernel
theorem dX12_all_16 : decode cX12_all 16 = .ok (.getfield 23, 3) := by decide +kernel
theorem dX12_all_19 : decode cX12_all 19 = .ok (.iconst 4, 1) := by decide +kernel
theorem dX12_all_20 : decode cX12_all 20 = .ok (.aload_n 1, 1) := by decide +kernel
theorem dX12_all_21 : decode cX12_all 21 = .ok (.iload_n 3, 1) := by decide +kernel
theorem dX12_all_22 : decode cX12_all 22 = .ok (.iload_n 2, 1) := by decide +kernel
theorem dX12_all_23 : decode cX12_all 23 = .ok (.invokevirtual 175, 3) := by decide +kernel
theorem dX12_all_26 : decode cX12_all 26 = .ok (.istore_n 3, 1) := by decide +kernel
theorem dX12_all_27 : decode cX12_all 27 = .ok (.aload_n 0, 1) := by decide +kernel
theorem dX12_all_28 : decode cX12_all 28 = .ok (.aload_n 0, 1) := by decide +kernel
theorem dX12_all_29 : decode cX12_all 29 = .ok (.getfield 26, 3) := by decide +kernel
theorem dX12_all_32 : decode cX12_all 32 = .ok (.iconst 4, 1) := by decide +kernel
theorem dX12_all_33 : decode cX12_all 33 = .ok (.aload_n 1, 1) := by decide +kernel
theorem dX12_all_34 : decode cX12_all 34 = .ok (.iload_n 3, 1) := by decide +kernel
theorem dX12_all_35 : decode cX12_all 35 = .ok (.iload_n 2, 1) := by decide +kernel
theorem dX12_all_36 : decode cX12_all 36 = .ok (.invokevirtual 175, 3) := by decide +kernel
theorem dX12_all_39 : decode cX12_all 39 = .ok (.istore_n 3, 1) := by decide +kernel
theorem dX12_all_40 : decode cX12_all 40 = .ok (.aload_n 0, 1) := by decide +kernel
theorem dX12_all_41 : decode cX12_all 41 = .ok (.aload_n 0, 1) := by decide +kernel
theorem dX12_all_42 : decode cX12_all 42 = .ok (.getfield 29, 3) := by decide +kernel
theorem dX12_all_45 : decode cX12_all 45 = .ok (.iconst 4, 1) := by decide +kernel
theorem dX12_all_46 : decode cX12_all 46 = .ok (.aload_n 1, 1) := by decide +kernel
theorem dX12_all_47 : decode cX12_all 47 = .ok (.iload_n 3, 1) := by decide +kernel
theorem dX12_all_48 : decode cX12_all 48 = .ok (.iload_n 2, 1) := by decide +kernel
theorem dX12_all_49 : decode cX12_all 49 = .ok (.invokevirtual 175, 3) := by decide +kernel
theorem dX12_all_52 : decode cX12_all 52 = .ok (.istore_n 3, 1) := by decide +kernel
theorem dX12_all_53 : decode cX12_all 53 = .ok (.aload_n 0, 1) := by decide +kernel
theorem dX12_all_54 : decode cX12_all 54 = .ok (.aload_n 0, 1) := by decide +kernel
theorem dX12_all_55 : decode cX12_all 55 = .ok (.getfield 32, 3) := by decide +kernel
theorem dX12_all_58 : decode cX12_all 58 = .ok (.iconst 4, 1) := by decide +kernel
theorem dX12_all_59 : decode cX12_all 59 = .ok (.aload_n 1, 1) := by decide +kernel
theorem dX12_all_60 : decode cX12_all 60 = .ok (.iload_n 3, 1) := by decide +kernel
theorem dX12_all_61 : decode cX12_all 61 = .ok (.iload_n 2, 1) := by decide +kernel
theorem dX12_all_62 : decode cX12_all 62 = .ok (.invokevirtual 175, 3) := by decide +kernel
theorem dX12_all_65 : decode cX12_all 65 = .ok (.istore_n 3, 1) := by decide +kernel
theorem dX12_all_66 : decode cX12_all 66 = .ok (.aload_n 0, 1) := by decide +kernel
theorem dX12_all_67 : decode cX12_all 67 = .ok (.aload_n 0, 1) := by decide +kernel
theorem dX12_all_68 : decode cX12_all 68 = .ok (.getfield 35, 3) := by decide +kernel
theorem dX12_all_71 : decode cX12_all 71 = .ok (.bipush 8, 2) := by decide +kernel
theorem dX12_all_73 : decode cX12_all 73 = .ok (.aload_n 1, 1) := by decide +kernel
theorem dX12_all_74 : decode cX12_all 74 = .ok (.iload_n 3, 1) := by decide +kernel
theorem dX12_all_75 : decode cX12_all 75 = .ok (.iload_n 2, 1) := by decide +kernel
theorem dX12_all_76 : decode cX12_all 76 = .ok (.invokevirtual 175, 3) := by decide +kernel
theorem dX12_all_79 : decode cX12_all 79 = .ok (.istore_n 3, 1) := by decide +kernel
theorem dX12_all_80 : decode cX12_all 80 = .ok (.aload_n 0, 1) := by decide +kernel
theorem dX12_all_81 : decode cX12_all 81 = .ok (.aload_n 0, 1) := by decide +kernel
theorem dX12_all_82 : decode cX12_all 82 = .ok (.getfield 38, 3) := by decide +kernel
theorem dX12_all_85 : decode cX12_all 85 = .ok (.bipush 8, 2) := by decide +kernel
theorem dX12_all_87 : decode cX12_all 87 = .ok (.aload_n 1, 1) := by decide +kernel
theorem dX12_all_88 : decode cX12_all 88 = .ok (.iload_n 3, 1) := by decide +kernel
theorem dX12_all_89 : decode cX12_all 89 = .ok (.iload_n 2, 1) := by decide +kernel
theorem dX12_all_90 : decode cX12_all 90 = .ok (.invokevirtual 175, 3) := by decide +kernel
theorem dX12_all_93 : decode cX12_all 93 = .ok (.istore_n 3, 1) := by decide +kernel
theorem dX12_all_94 : decode cX12_all 94 = .ok (.iload_n 2, 1) := by decide +kernel
theorem dX12_all_95 : decode cX12_all 95 = .ok (.ifCond .eq 40, 3) := by decide +kernel
theorem dX12_all_98 : decode cX12_all 98 = .ok (.aload_n 0, 1) := by decide +kernel
theorem dX12_all_99 : decode cX12_all 99 = .ok (.aload_n 1, 1) := by decide +kernel
theorem dX12_all_100 : decode cX12_all 100 = .ok (.iload_n 3, 1) := by decide +kernel
theorem dX12_all_101 : decode cX12_all 101 = .ok (.iaload, 1) := by decide +kernel
theorem dX12_all_102 : decode cX12_all 102 = .ok (.putfield 81, 3) := by decide +kernel
theorem dX12_all_105 : decode cX12_all 105 = .ok (.aload_n 0, 1) := by decide +kernel
theorem dX12_all_106 : decode cX12_all 106 = .ok (.aload_n 1, 1) := by decide +kernel
theorem dX12_all_107 : decode cX12_all 107 = .ok (.iload_n 3, 1) := by decide +kernel
theorem dX12_all_108 : decode cX12_all 108 = .ok (.iconst 1, 1) := by decide +kernel
theorem dX12_all_109 : decode cX12_all 109 = .ok (.iadd, 1) := by decide +kernel
theorem dX12_all_110 : decode cX12_all 110 = .ok (.iaload, 1) := by decide +kernel
theorem dX12_all_111 : decode cX12_all 111 = .ok (.putfield 84, 3) := by decide +kernel
theorem dX12_all_114 : decode cX12_all 114 = .ok (.aload_n 0, 1) := by decide +kernel
theorem dX12_all_115 : decode cX12_all 115 = .ok (.aload_n 1, 1) := by decide +kernel
theorem dX12_all_116 : decode cX12_all 116 = .ok (.iload_n 3, 1) := by decide +kernel
theorem dX12_all_117 : decode cX12_all 117 = .ok (.iconst 2, 1) := by decide +kernel
theorem dX12_all_118 : decode cX12_all 118 = .ok (.iadd, 1) := by decide +kernel
theorem dX12_all_119 : decode cX12_all 119 = .ok (.iaload, 1) := by decide +kernel
theorem dX12_all_120 : decode cX12_all 120 = .ok (.putfield 87, 3) := by decide +kernel
theorem dX12_all_123 : decode cX12_all 123 = .ok (.aload_n 0, 1) := by decide +kernel
theorem dX12_all_124 : decode cX12_all 124 = .ok (.aload_n 1, 1) := by decide +kernel
theorem dX12_all_125 : decode cX12_all 125 = .ok (.iload_n 3, 1) := by decide +kernel
theorem dX12_all_126 : decode cX12_all 126 = .ok (.iconst 3, 1) := by decide +kernel
theorem dX12_all_127 : decode cX12_all 127 = .ok (.iadd, 1) := by decide +kernel
theorem dX12_all_128 : decode cX12_all 128 = .ok (.iaload, 1) := by decide +kernel
theorem dX12_all_129 : decode cX12_all 129 = .ok (.putfield 7, 3) := by decide +kernel
theorem dX12_all_132 : decode cX12_all 132 = .ok (.goto 37, 3) := by decide +kernel
theorem dX12_all_135 : decode cX12_all 135 = .ok (.aload_n 1, 1) := by decide +kernel
theorem dX12_all_136 : decode cX12_all 136 = .ok (.iload_n 3, 1) := by decide +kernel
theorem dX12_all_137 : decode cX12_all 137 = .ok (.aload_n 0, 1) := by decide +kernel
theorem dX12_all_138 : decode cX12_all 138 = .ok (.getfield 81, 3) := by decide +kernel
theorem dX12_all_141 : decode cX12_all 141 = .ok (.iastore, 1) := by decide +kernel
theorem dX12_all_142 : decode cX12_all 142 = .ok (.aload_n 1, 1) := by decide +kernel
theorem dX12_all_143 : decode cX12_all 143 = .ok (.iload_n 3, 1) := by decide +kernel
theorem dX12_all_144 : decode cX12_all 144 = .ok (.iconst 1, 1) := by decide +kernel
theorem dX12_all_145 : decode cX12_all 145 = .ok (.iadd, 1) := by decide +kernel
theorem dX12_all_146 : decode cX12_all 146 = .ok (.aload_n 0, 1) := by decide +kernel
theorem dX12_all_147 : decode cX12_all 147 = .ok (.getfield 84, 3) := by decide +kernel
theorem dX12_all_150 : decode cX12_all 150 = .ok (.iastore, 1) := by decide +kernel
theorem dX12_all_151 : decode cX12_all 151 = .ok (.aload_n 1, 1) := by decide +kernel
theorem dX12_all_152 : decode cX12_all 152 = .ok (.iload_n 3, 1) := by decide +kernel
theorem dX12_all_153 : decode cX12_all 153 = .ok (.iconst 2, 1) := by decide +kernel
theorem dX12_all_154 : decode cX12_all 154 = .ok (.iadd, 1) := by decide +kernel
theorem dX12_all_155 : decode cX12_all 155 = .ok (.aload_n 0, 1) := by decide +kernel
theorem dX12_all_156 : decode cX12_all 156 = .ok (.getfield 87, 3) := by decide +kernel
theorem dX12_all_159 : decode cX12_all 159 = .ok (.iastore, 1) := by decide +kernel
theorem dX12_all_160 : decode cX12_all 160 = .ok (.aload_n 1, 1) := by decide +kernel
theorem dX12_all_161 : decode cX12_all 161 = .ok (.iload_n 3, 1) := by decide +kernel
theorem dX12_all_162 : decode cX12_all 162 = .ok (.iconst 3, 1) := by decide +kernel
theorem dX12_all_163 : decode cX12_all 163 = .ok (.iadd, 1) := by decide +kernel
theorem dX12_all_164 : decode cX12_all 164 = .ok (.aload_n 0, 1) := by decide +kernel
theorem dX12_all_165 : decode cX12_all 165 = .ok (.getfield 7, 3) := by decide +kernel
theorem dX12_all_168 : decode cX12_all 168 = .ok (.iastore, 1) := by decide +kernel
theorem dX12_all_169 : decode cX12_all 169 = .ok (.return_, 1) := by decide +kernel
theorem dX12_house_0 : decode cX12_house 0 = .ok (.aload_n 0, 1) := by decide +kernel
theorem dX12_house_1 : decode cX12_house 1 = .ok (.iload_n 1, 1) := by decide +kernel
theorem dX12_house_2 : decode cX12_house 2 = .ok (.invokevirtual 111, 3) := by decide +kernel
theorem dX12_house_5 : decode cX12_house 5 = .ok (.istore_n 2, 1) := by decide +kernel
theorem dX12_house_6 : decode cX12_house 6 = .ok (.iload_n 2, 1) := by decide +kernel
theorem dX12_house_7 : decode cX12_house 7 = .ok (.ifCond .eq 9, 3) := by decide +kernel
theorem dX12_house_10 : decode cX12_house 10 = .ok (.aload_n 0, 1) := by decide +kernel
theorem dX12_house_11 : decode cX12_house 11 = .ok (.iload_n 2, 1) := by decide +kernel
theorem dX12_house_12 : decode cX12_house 12 = .ok (.invokevirtual 94, 3) := by decide +kernel
theorem dX12_house_15 : decode cX12_house 15 = .ok (.ireturn, 1) := by decide +kernel
theorem dX12_house_16 : decode cX12_house 16 = .ok (.aload_n 0, 1) := by decide +kernel
theorem dX12_house_17 : decode cX12_house 17 = .ok (.aload_n 0, 1) := by decide +kernel
theorem dX12_house_18 : decode cX12_house 18 = .ok (.getfield 66, 3) := by decide +kernel
theorem dX12_house_21 : decode cX12_house 21 = .ok (.iconst 0, 1) := by decide +kernel
theorem dX12_house_22 : decode cX12_house 22 = .ok (.invokevirtual 179, 3) := by decide +kernel
theorem dX12_house_25 : decode cX12_house 25 = .ok (.aload_n 0, 1) := by decide +kernel
theorem dX12_house_26 : decode cX12_house 26 = .ok (.sipush 160, 3) := by decide +kernel
theorem dX12_house_29 : decode cX12_house 29 = .ok (.iload_n 1, 1) := by decide +kernel
theorem dX12_house_30 : decode cX12_house 30 = .ok (.imul, 1) := by decide +kernel
theorem dX12_house_31 : decode cX12_house 31 = .ok (.putfield 147, 3) := by decide +kernel
theorem dX12_house_34 : decode cX12_house 34 = .ok (.aload_n 0, 1) := by decide +kernel
theorem dX12_house_35 : decode cX12_house 35 = .ok (.iconst 0, 1) := by decide +kernel
theorem dX12_house_36 : decode cX12_house 36 = .ok (.putfield 141, 3) := by decide +kernel
theorem dX12_house_39 : decode cX12_house 39 = .ok (.aload_n 0, 1) := by decide +kernel
theorem dX12_house_40 : decode cX12_house 40 = .ok (.aload_n 0, 1) := by decide +kernel
theorem dX12_house_41 : decode cX12_house 41 = .ok (.getfield 47, 3) := by decide +kernel
theorem dX12_house_44 : decode cX12_house 44 = .ok (.iload_n 1, 1) := by decide +kernel
theorem dX12_house_45 : decode cX12_house 45 = .ok (.iaload, 1) := by decide +kernel
theorem dX12_house_46 : decode cX12_house 46 = .ok (.putfield 144, 3) := by decide +kernel
theorem dX12_house_49 : decode cX12_house 49 = .ok (.aload_n 0, 1) := by decide +kernel
theorem dX12_house_50 : decode cX12_house 50 = .ok (.iconst (-1), 1) := by decide +kernel
theorem dX12_house_51 : decode cX12_house 51 = .ok (.putfield 13, 3) := by decide +kernel
theorem dX12_house_54 : decode cX12_house 54 = .ok (.iconst 1, 1) := by decide +kernel
theorem dX12_house_55 : decode cX12_house 55 = .ok (.istore_n 3, 1) := by decide +kernel
theorem dX12_house_56 : decode cX12_house 56 = .ok (.aload_n 0, 1) := by decide +kernel
theorem dX12_house_57 : decode cX12_house 57 = .ok (.invokevirtual 183, 3) := by decide +kernel
theorem dX12_house_60 : decode cX12_house 60 = .ok (.istore 4, 2) := by decide +kernel
theorem dX12_house_62 : decode cX12_house 62 = .ok (.iload 4, 2) := by decide +kernel
theorem dX12_house_64 : decode cX12_house 64 = .ok (.ifCond .eq 69, 3) := by decide +kernel
theorem dX12_house_67 : decode cX12_house 67 = .ok (.aload_n 0, 1) := by decide +kernel
theorem dX12_house_68 : decode cX12_house 68 = .ok (.getfield 141, 3) := by decide +kernel
theorem dX12_house_71 : decode cX12_house 71 = .ok (.aload_n 0, 1) := by decide +kernel
theorem dX12_house_72 : decode cX12_house 72 = .ok (.getfield 144, 3) := by decide +kernel
theorem dX12_house_75 : decode cX12_house 75 = .ok (.if_icmp .ge 58, 3) := by decide +kernel
theorem dX12_house_78 : decode cX12_house 78 = .ok (.aload_n 0, 1) := by decide +kernel
theorem dX12_house_79 : decode cX12_house 79 = .ok (.getfield 53, 3) := by decide +kernel
theorem dX12_house_82 : decode cX12_house 82 = .ok (.aload_n 0, 1) := by decide +kernel
theorem dX12_house_83 : decode cX12_house 83 = .ok (.getfield 147, 3) := by decide +kernel
theorem dX12_house_86 : decode cX12_house 86 = .ok (.aload_n 0, 1) := by decide +kernel
theorem dX12_house_87 : decode cX12_house 87 = .ok (.getfield 141, 3) := by decide +kernel
theorem dX12_house_90 : decode cX12_house 90 = .ok (.iadd, 1) := by decide +kernel
theorem dX12_house_91 : decode cX12_house 91 = .ok (.laload, 1) := by decide +kernel
theorem dX12_house_92 : decode cX12_house 92 = .ok (.l2i, 1) := by decide +kernel
theorem dX12_house_93 : decode cX12_house 93 = .ok (.bipush 59, 2) := by decide +kernel
theorem dX12_house_95 : decode cX12_house 95 = .ok (.if_icmp .eq 16, 3) := by decide +kernel
theorem dX12_house_98 : decode cX12_house 98 = .ok (.aload_n 0, 1) := by decide +kernel
theorem dX12_house_99 : decode cX12_house 99 = .ok (.aload_n 0, 1) := by decide +kernel
theorem dX12_house_100 : decode cX12_house 100 = .ok (.getfield 141, 3) := by decide +kernel
theorem dX12_house_103 : decode cX12_house 103 = .ok (.invokevirtual 154, 3) := by decide +kernel
theorem dX12_house_106 : decode cX12_house 106 = .ok (.istore 4, 2) := by decide +kernel
theorem dX12_house_108 : decode cX12_house 108 = .ok (.goto (-46), 3) := by decide +kernel
theorem dX12_house_111 : decode cX12_house 111 = .ok (.aload_n 0, 1) := by decide +kernel
theorem dX12_house_112 : decode cX12_house 112 = .ok (.dup, 1) := by decide +kernel
theorem dX12_house_113 : decode cX12_house 113 = .ok (.getfield 141, 3) := by decide +kernel
theorem dX12_house_116 : decode cX12_house 116 = .ok (.iconst 1, 1) := by decide +kernel
theorem dX12_house_117 : decode cX12_house 117 = .ok (.iadd, 1) := by decide +kernel
theorem dX12_house_118 : decode cX12_house 118 = .ok (.putfield 141, 3) := by decide +kernel
theorem dX12_house_121 : decode cX12_house 121 = .ok (.iinc 3 1, 3) := by decide +kernel
theorem dX12_house_124 : decode cX12_house 124 = .ok (.aload_n 0, 1) := by decide +kernel
theorem dX12_house_125 : decode cX12_house 125 = .ok (.invokevirtual 183, 3) := by decide +kernel
theorem dX12_house_128 : decode cX12_house 128 = .ok (.istore 4, 2) := by decide +kernel
theorem dX12_house_130 : decode cX12_house 130 = .ok (.goto (-68), 3) := by decide +kernel
theorem dX12_house_133 : decode cX12_house 133 = .ok (.iload 4, 2) := by decide +kernel
theorem dX12_house_135 : decode cX12_house 135 = .ok (.ifCond .eq 5, 3) := by decide +kernel
theorem dX12_house_138 : decode cX12_house 138 = .ok (.iload_n 3, 1) := by decide +kernel
theorem dX12_house_139 : decode cX12_house 139 = .ok (.ireturn, 1) := by decide +kernel
theorem dX12_house_140 : decode cX12_house 140 = .ok (.aload_n 0, 1) := by decide +kernel
theorem dX12_house_141 : decode cX12_house 141 = .ok (.aload_n 0, 1) := by decide +kernel
theorem dX12_house_142 : decode cX12_house 142 = .ok (.getfield 66, 3) := by decide +kernel
theorem dX12_house_145 : decode cX12_house 145 = .ok (.iconst 1, 1) := by decide +kernel
theorem dX12_house_146 : decode cX12_house 146 = .ok (.invokevirtual 179, 3) := by decide +kernel
theorem dX12_house_149 : decode cX12_house 149 = .ok (.aload_n 0, 1) := by decide +kernel
theorem dX12_house_150 : decode cX12_house 150 = .ok (.aload_n 0, 1) := by decide +kernel
theorem dX12_house_151 : decode cX12_house 151 = .ok (.getfield 138, 3) := by decide +kernel
theorem dX12_house_154 : decode cX12_house 154 = .ok (.putfield 13, 3) := by decide +kernel
theorem dX12_house_157 : decode cX12_house 157 = .ok (.aload_n 0, 1) := by decide +kernel
theorem dX12_house_158 : decode cX12_house 158 = .ok (.bipush (-6), 2) := by decide +kernel
theorem dX12_house_160 : decode cX12_house 160 = .ok (.invokevirtual 94, 3) := by decide +kernel
theorem dX12_house_163 : decode cX12_house 163 = .ok (.ireturn, 1) := by decide +kernel
theorem dX12_fault_0 : decode cX12_fault 0 = .ok (.aload_n 0, 1) := by decide +kernel
theorem dX12_fault_1 : decode cX12_fault 1 = .ok (.getfield 13, 3) := by decide +kernel
theorem dX12_fault_4 : decode cX12_fault 4 = .ok (.ireturn, 1) := by decide +kernel
theorem dX12_feeling_0 : decode cX12_feeling 0 = .ok (.aload_n 0, 1) := by decide +kernel
theorem dX12_feeling_1 : decode cX12_feeling 1 = .ok (.getfield 38, 3) := by decide +kernel
theorem dX12_feeling_4 : decode cX12_feeling 4 = .ok (.iload_n 1, 1) := by decide +kernel
theorem dX12_feeling_5 : decode cX12_feeling 5 = .ok (.iaload, 1) := by decide +kernel
theorem dX12_feeling_6 : decode cX12_feeling 6 = .ok (.bipush 11, 2) := by decide +kernel
theorem dX12_feeling_8 : decode cX12_feeling 8 = .ok (.irem, 1) := by decide +kernel
theorem dX12_feeling_9 : decode cX12_feeling 9 = .ok (.istore_n 2, 1) := by decide +kernel
theorem dX12_feeling_10 : decode cX12_feeling 10 = .ok (.aload_n 0, 1) := by decide +kernel
theorem dX12_feeling_11 : decode cX12_feeling 11 = .ok (.getfield 35, 3) := by decide +kernel
theorem dX12_feeling_14 : decode cX12_feeling 14 = .ok (.iload_n 1, 1) := by decide +kernel
theorem dX12_feeling_15 : decode cX12_feeling 15 = .ok (.iaload, 1) := by decide +kernel
theorem dX12_feeling_16 : decode cX12_feeling 16 = .ok (.iconst 2, 1) := by decide +kernel
theorem dX12_feeling_17 : decode cX12_feeling 17 = .ok (.if_icmp .ne 9, 3) := by decide +kernel
theorem dX12_feeling_20 : decode cX12_feeling 20 = .ok (.iload_n 2, 1) := by decide +kernel
theorem dX12_feeling_21 : decode cX12_feeling 21 = .ok (.iconst 2, 1) := by decide +kernel
theorem dX12_feeling_22 : decode cX12_feeling 22 = .ok (.idiv, 1) := by decide +kernel
theorem dX12_feeling_23 : decode cX12_feeling 23 = .ok (.goto 4, 3) := by decide +kernel
theorem dX12_feeling_26 : decode cX12_feeling 26 = .ok (.iload_n 2, 1) := by decide +kernel
theorem dX12_feeling_27 : decode cX12_feeling 27 = .ok (.ireturn, 1) := by decide +kernel
theorem dX12_showsBy_0 : decode cX12_showsBy 0 = .ok (.aload_n 0, 1) := by decide +kernel
theorem dX12_showsBy_1 : decode cX12_showsBy 1 = .ok (.getfield 23, 3) := by decide +kernel
theorem dX12_showsBy_4 : decode cX12_showsBy 4 = .ok (.iload_n 2, 1) := by decide +kernel
theorem dX12_showsBy_5 : decode cX12_showsBy 5 = .ok (.iaload, 1) := by decide +kernel
theorem dX12_showsBy_6 : decode cX12_showsBy 6 = .ok (.aload_n 0, 1) := by decide +kernel
theorem dX12_showsBy_7 : decode cX12_showsBy 7 = .ok (.getfield 20, 3) := by decide +kernel
theorem dX12_showsBy_10 : decode cX12_showsBy 10 = .ok (.bipush 6, 2) := by decide +kernel
theorem dX12_showsBy_12 : decode cX12_showsBy 12 = .ok (.iload_n 3, 1) := by decide +kernel
theorem dX12_showsBy_13 : decode cX12_showsBy 13 = .ok (.imul, 1) := by decide +kernel
theorem dX12_showsBy_14 : decode cX12_showsBy 14 = .ok (.iconst 4, 1) := by decide +kernel
theorem dX12_showsBy_15 : decode cX12_showsBy 15 = .ok (.iadd, 1) := by decide +kernel
theorem dX12_showsBy_16 : decode cX12_showsBy 16 = .ok (.iaload, 1) := by decide +kernel
theorem dX12_showsBy_17 : decode cX12_showsBy 17 = .ok (.if_icmp .ne 15, 3) := by decide +kernel
theorem dX12_showsBy_20 : decode cX12_showsBy 20 = .ok (.bipush 10, 2) := by decide +kernel
theorem dX12_showsBy_22 : decode cX12_showsBy 22 = .ok (.aload_n 0, 1) := by decide +kernel
theorem dX12_showsBy_23 : decode cX12_showsBy 23 = .ok (.getfield 26, 3) := by decide +kernel
theorem dX12_showsBy_26 : decode cX12_showsBy 26 = .ok (.iload_n 2, 1) := by decide +kernel
theorem dX12_showsBy_27 : decode cX12_showsBy 27 = .ok (.iaload, 1) := by decide +kernel
theorem dX12_showsBy_28 : decode cX12_showsBy 28 = .ok (.imul, 1) := by decide +kernel
theorem dX12_showsBy_29 : decode cX12_showsBy 29 = .ok (.goto 4, 3) := by decide +kernel
theorem dX12_showsBy_32 : decode cX12_showsBy 32 = .ok (.iconst 0, 1) := by decide +kernel
theorem dX12_showsBy_33 : decode cX12_showsBy 33 = .ok (.istore 4, 2) := by decide +kernel
theorem dX12_showsBy_35 : decode cX12_showsBy 35 = .ok (.bipush 30, 2) := by decide +kernel
theorem dX12_showsBy_37 : decode cX12_showsBy 37 = .ok (.aload_n 0, 1) := by decide +kernel
theorem dX12_showsBy_38 : decode cX12_showsBy 38 = .ok (.getfield 20, 3) := by decide +kernel
theorem dX12_showsBy_41 : decode cX12_showsBy 41 = .ok (.bipush 6, 2) := by decide +kernel
theorem dX12_showsBy_43 : decode cX12_showsBy 43 = .ok (.iload_n 3, 1) := by decide +kernel
theorem dX12_showsBy_44 : decode cX12_showsBy 44 = .ok (.imul, 1) := by decide +kernel
theorem dX12_showsBy_45 : decode cX12_showsBy 45 = .ok (.iconst 3, 1) := by decide +kernel
theorem dX12_showsBy_46 : decode cX12_showsBy 46 = .ok (.iadd, 1) := by decide +kernel
theorem dX12_showsBy_47 : decode cX12_showsBy 47 = .ok (.iaload, 1) := by decide +kernel
theorem dX12_showsBy_48 : decode cX12_showsBy 48 = .ok (.imul, 1) := by decide +kernel
theorem dX12_showsBy_49 : decode cX12_showsBy 49 = .ok (.iload 4, 2) := by decide +kernel
theorem dX12_showsBy_51 : decode cX12_showsBy 51 = .ok (.iadd, 1) := by decide +kernel
theorem dX12_showsBy_52 : decode cX12_showsBy 52 = .ok (.istore 5, 2) := by decide +kernel
theorem dX12_showsBy_54 : decode cX12_showsBy 54 = .ok (.aload_n 0, 1) := by decide +kernel
theorem dX12_showsBy_55 : decode cX12_showsBy 55 = .ok (.getfield 35, 3) := by decide +kernel
theorem dX12_showsBy_58 : decode cX12_showsBy 58 = .ok (.iload_n 1, 1) := by decide +kernel
theorem dX12_showsBy_59 : decode cX12_showsBy 59 = .ok (.iaload, 1) := by decide +kernel
theorem dX12_showsBy_60 : decode cX12_showsBy 60 = .ok (.tableswitch 150 1 6 #[40, 40, 71, 93, 117, 135], 40) := by decide +kernel
theorem dX12_showsBy_100 : decode cX12_showsBy 100 = .ok (.aload_n 0, 1) := by decide +kernel
theorem dX12_showsBy_101 : decode cX12_showsBy 101 = .ok (.iload_n 1, 1) := by decide +kernel
theorem dX12_showsBy_102 : decode cX12_showsBy 102 = .ok (.invokevirtual 108, 3) := by decide +kernel
theorem dX12_showsBy_105 : decode cX12_showsBy 105 = .ok (.istore 6, 2) := by decide +kernel
theorem dX12_showsBy_107 : decode cX12_showsBy 107 = .ok (.iload 6, 2) := by decide +kernel
theorem dX12_showsBy_109 : decode cX12_showsBy 109 = .ok (.iload 5, 2) := by decide +kernel
theorem dX12_showsBy_111 : decode cX12_showsBy 111 = .ok (.imul, 1) := by decide +kernel
theorem dX12_showsBy_112 : decode cX12_showsBy 112 = .ok (.bipush 10, 2) := by decide +kernel
theorem dX12_showsBy_114 : decode cX12_showsBy 114 = .ok (.iload 6, 2) := by decide +kernel
theorem dX12_showsBy_116 : decode cX12_showsBy 116 = .ok (.isub, 1) := by decide +kernel
theorem dX12_showsBy_117 : decode cX12_showsBy 117 = .ok (.bipush 10, 2) := by decide +kernel
theorem dX12_showsBy_119 : decode cX12_showsBy 119 = .ok (.imul, 1) := by decide +kernel
theorem dX12_showsBy_120 : decode cX12_showsBy 120 = .ok (.aload_n 0, 1) := by decide +kernel
theorem dX12_showsBy_121 : decode cX12_showsBy 121 = .ok (.iload_n 3, 1) := by decide +kernel
theorem dX12_showsBy_122 : decode cX12_showsBy 122 = .ok (.invokevirtual 101, 3) := by decide +kernel
theorem dX12_showsBy_125 : decode cX12_showsBy 125 = .ok (.imul, 1) := by decide +kernel
theorem dX12_showsBy_126 : decode cX12_showsBy 126 = .ok (.iadd, 1) := by decide +kernel
theorem dX12_showsBy_127 : decode cX12_showsBy 127 = .ok (.bipush 10, 2) := by decide +kernel
theorem dX12_showsBy_129 : decode cX12_showsBy 129 = .ok (.idiv, 1) := by decide +kernel
theorem dX12_showsBy_130 : decode cX12_showsBy 130 = .ok (.ireturn, 1) := by decide +kernel
theorem dX12_showsBy_131 : decode cX12_showsBy 131 = .ok (.bipush 30, 2) := by decide +kernel
theorem dX12_showsBy_133 : decode cX12_showsBy 133 = .ok (.aload_n 0, 1) := by decide +kernel
theorem dX12_showsBy_134 : decode cX12_showsBy 134 = .ok (.getfield 20, 3) := by decide +kernel
theorem dX12_showsBy_137 : decode cX12_showsBy 137 = .ok (.bipush 6, 2) := by decide +kernel
theorem dX12_showsBy_139 : decode cX12_showsBy 139 = .ok (.iload_n 3, 1) := by decide +kernel
theorem dX12_showsBy_140 : decode cX12_showsBy 140 = .ok (.imul, 1) := by decide +kernel
theorem dX12_showsBy_141 : decode cX12_showsBy 141 = .ok (.aload_n 0, 1) := by decide +kernel
theorem dX12_showsBy_142 : decode cX12_showsBy 142 = .ok (.getfield 38, 3) := by decide +kernel
theorem dX12_showsBy_145 : decode cX12_showsBy 145 = .ok (.iload_n 1, 1) := by decide +kernel
theorem dX12_showsBy_146 : decode cX12_showsBy 146 = .ok (.iaload, 1) := by decide +kernel
theorem dX12_showsBy_147 : decode cX12_showsBy 147 = .ok (.iconst 3, 1) := by decide +kernel
theorem dX12_showsBy_148 : decode cX12_showsBy 148 = .ok (.irem, 1) := by decide +kernel
theorem dX12_showsBy_149 : decode cX12_showsBy 149 = .ok (.iadd, 1) := by decide +kernel
theorem dX12_showsBy_150 : decode cX12_showsBy 150 = .ok (.iaload, 1) := by decide +kernel
theorem dX12_showsBy_151 : decode cX12_showsBy 151 = .ok (.imul, 1) := by decide +kernel
theorem dX12_showsBy_152 : decode cX12_showsBy 152 = .ok (.ireturn, 1) := by decide +kernel
theorem dX12_showsBy_153 : decode cX12_showsBy 153 = .ok (.aload_n 0, 1) := by decide +kernel
theorem dX12_showsBy_154 : decode cX12_showsBy 154 = .ok (.iload_n 3, 1) := by decide +kernel
theorem dX12_showsBy_155 : decode cX12_showsBy 155 = .ok (.invokevirtual 101, 3) := by decide +kernel
theorem dX12_showsBy_158 : decode cX12_showsBy 158 = .ok (.aload_n 0, 1) := by decide +kernel
theorem dX12_showsBy_159 : decode cX12_showsBy 159 = .ok (.getfield 38, 3) := by decide +kernel
theorem dX12_showsBy_162 : decode cX12_showsBy 162 = .ok (.iload_n 1, 1) := by decide +kernel
theorem dX12_showsBy_163 : decode cX12_showsBy 163 = .ok (.iaload, 1) := by decide +kernel
theorem dX12_showsBy_164 : decode cX12_showsBy 164 = .ok (.if_icmp .ge 9, 3) := by decide +kernel
theorem dX12_showsBy_167 : decode cX12_showsBy 167 = .ok (.sipush 260, 3) := by decide +kernel
theorem dX12_showsBy_170 : decode cX12_showsBy 170 = .ok (.goto 6, 3) := by decide +kernel
theorem dX12_showsBy_173 : decode cX12_showsBy 173 = .ok (.sipush 270, 3) := by decide +kernel
theorem dX12_showsBy_176 : decode cX12_showsBy 176 = .ok (.ireturn, 1) := by decide +kernel
theorem dX12_showsBy_177 : decode cX12_showsBy 177 = .ok (.bipush 30, 2) := by decide +kernel
theorem dX12_showsBy_179 : decode cX12_showsBy 179 = .ok (.aload_n 0, 1) := by decide +kernel
theorem dX12_showsBy_180 : decode cX12_showsBy 180 = .ok (.getfield 20, 3) := by decide +kernel
theorem dX12_showsBy_183 : decode cX12_showsBy 183 = .ok (.bipush 6, 2) := by decide +kernel
theorem dX12_showsBy_185 : decode cX12_showsBy 185 = .ok (.iload_n 3, 1) := by decide +kernel
theorem dX12_showsBy_186 : decode cX12_showsBy 186 = .ok (.imul, 1) := by decide +kernel
theorem dX12_showsBy_187 : decode cX12_showsBy 187 = .ok (.iconst 5, 1) := by decide +kernel
theorem dX12_showsBy_188 : decode cX12_showsBy 188 = .ok (.iadd, 1) := by decide +kernel
theorem dX12_showsBy_189 : decode cX12_showsBy 189 = .ok (.iaload, 1) := by decide +kernel
theorem dX12_showsBy_190 : decode cX12_showsBy 190 = .ok (.imul, 1) := by decide +kernel
theorem dX12_showsBy_191 : decode cX12_showsBy 191 = .ok (.iload 4, 2) := by decide +kernel
theorem dX12_showsBy_193 : decode cX12_showsBy 193 = .ok (.iadd, 1) := by decide +kernel
theorem dX12_showsBy_194 : decode cX12_showsBy 194 = .ok (.ireturn, 1) := by decide +kernel
theorem dX12_showsBy_195 : decode cX12_showsBy 195 = .ok (.bipush 30, 2) := by decide +kernel
theorem dX12_showsBy_197 : decode cX12_showsBy 197 = .ok (.aload_n 0, 1) := by decide +kernel
theorem dX12_showsBy_198 : decode cX12_showsBy 198 = .ok (.getfield 20, 3) := by decide +kernel
theorem dX12_showsBy_201 : decode cX12_showsBy 201 = .ok (.bipush 6, 2) := by decide +kernel
theorem dX12_showsBy_203 : decode cX12_showsBy 203 = .ok (.iload_n 3, 1) := by decide +kernel
theorem dX12_showsBy_204 : decode cX12_showsBy 204 = .ok (.imul, 1) := by decide +kernel
theorem dX12_showsBy_205 : decode cX12_showsBy 205 = .ok (.iconst 5, 1) := by decide +kernel
theorem dX12_showsBy_206 : decode cX12_showsBy 206 = .ok (.iadd, 1) := by decide +kernel
theorem dX12_showsBy_207 : decode cX12_showsBy 207 = .ok (.iaload, 1) := by decide +kernel
theorem dX12_showsBy_208 : decode cX12_showsBy 208 = .ok (.imul, 1) := by decide +kernel
theorem dX12_showsBy_209 : decode cX12_showsBy 209 = .ok (.ireturn, 1) := by decide +kernel
theorem dX12_showsBy_210 : decode cX12_showsBy 210 = .ok (.iload 5, 2) := by decide +kernel
theorem dX12_showsBy_212 : decode cX12_showsBy 212 = .ok (.ireturn, 1) := by decide +kernel
theorem dX12_shows_0 : decode cX12_shows 0 = .ok (.aload_n 0, 1) := by decide +kernel
theorem dX12_shows_1 : decode cX12_shows 1 = .ok (.iload_n 1, 1) := by decide +kernel
theorem dX12_shows_2 : decode cX12_shows 2 = .ok (.invokevirtual 98, 3) := by decide +kernel
theorem dX12_shows_5 : decode cX12_shows 5 = .ok (.ifCond .eq 29, 3) := by decide +kernel
theorem dX12_shows_8 : decode cX12_shows 8 = .ok (.aload_n 0, 1) := by decide +kernel
theorem dX12_shows_9 : decode cX12_shows 9 = .ok (.iload_n 2, 1) := by decide +kernel
theorem dX12_shows_10 : decode cX12_shows 10 = .ok (.invokevirtual 129, 3) := by decide +kernel
theorem dX12_shows_13 : decode cX12_shows 13 = .ok (.ifCond .eq 21, 3) := by decide +kernel
theorem dX12_shows_16 : decode cX12_shows 16 = .ok (.aload_n 0, 1) := by decide +kernel
theorem dX12_shows_17 : decode cX12_shows 17 = .ok (.iload_n 3, 1) := by decide +kernel
theorem dX12_shows_18 : decode cX12_shows 18 = .ok (.invokevirtual 126, 3) := by decide +kernel
theorem dX12_shows_21 : decode cX12_shows 21 = .ok (.ifCond .eq 13, 3) := by decide +kernel
theorem dX12_shows_24 : decode cX12_shows 24 = .ok (.aload_n 0, 1) := by decide +kernel
theorem dX12_shows_25 : decode cX12_shows 25 = .ok (.iload_n 1, 1) := by decide +kernel
theorem dX12_shows_26 : decode cX12_shows 26 = .ok (.iload_n 2, 1) := by decide +kernel
theorem dX12_shows_27 : decode cX12_shows 27 = .ok (.iload_n 3, 1) := by decide +kernel
theorem dX12_shows_28 : decode cX12_shows 28 = .ok (.invokevirtual 186, 3) := by decide +kernel
theorem dX12_shows_31 : decode cX12_shows 31 = .ok (.goto 8, 3) := by decide +kernel
theorem dX12_shows_34 : decode cX12_shows 34 = .ok (.aload_n 0, 1) := by decide +kernel
theorem dX12_shows_35 : decode cX12_shows 35 = .ok (.iconst (-1), 1) := by decide +kernel
theorem dX12_shows_36 : decode cX12_shows 36 = .ok (.invokevirtual 94, 3) := by decide +kernel
theorem dX12_shows_39 : decode cX12_shows 39 = .ok (.ireturn, 1) := by decide +kernel
theorem dX12_saidBy_0 : decode cX12_saidBy 0 = .ok (.iload_n 2, 1) := by decide +kernel
theorem dX12_saidBy_1 : decode cX12_saidBy 1 = .ok (.ifCond .eq 12, 3) := by decide +kernel
theorem dX12_saidBy_4 : decode cX12_saidBy 4 = .ok (.aload_n 0, 1) := by decide +kernel
theorem dX12_saidBy_5 : decode cX12_saidBy 5 = .ok (.iload_n 1, 1) := by decide +kernel
theorem dX12_saidBy_6 : decode cX12_saidBy 6 = .ok (.iload_n 3, 1) := by decide +kernel
theorem dX12_saidBy_7 : decode cX12_saidBy 7 = .ok (.iload 4, 2) := by decide +kernel
theorem dX12_saidBy_9 : decode cX12_saidBy 9 = .ok (.invokevirtual 186, 3) := by decide +kernel
theorem dX12_saidBy_12 : decode cX12_saidBy 12 = .ok (.ireturn, 1) := by decide +kernel
theorem dX12_saidBy_13 : decode cX12_saidBy 13 = .ok (.iconst 0, 1) := by decide +kernel
theorem dX12_saidBy_14 : decode cX12_saidBy 14 = .ok (.istore 5, 2) := by decide +kernel
theorem dX12_saidBy_16 : decode cX12_saidBy 16 = .ok (.iconst 0, 1) := by decide +kernel
theorem dX12_saidBy_17 : decode cX12_saidBy 17 = .ok (.istore 6, 2) := by decide +kernel
theorem dX12_saidBy_19 : decode cX12_saidBy 19 = .ok (.iload 6, 2) := by decide +kernel
theorem dX12_saidBy_21 : decode cX12_saidBy 21 = .ok (.aload_n 0, 1) := by decide +kernel
theorem dX12_saidBy_22 : decode cX12_saidBy 22 = .ok (.getfield 84, 3) := by decide +kernel
theorem dX12_saidBy_25 : decode cX12_saidBy 25 = .ok (.if_icmp .ge 77, 3) := by decide +kernel
theorem dX12_saidBy_28 : decode cX12_saidBy 28 = .ok (.aload_n 0, 1) := by decide +kernel
theorem dX12_saidBy_29 : decode cX12_saidBy 29 = .ok (.getfield 32, 3) := by decide +kernel
theorem dX12_saidBy_32 : decode cX12_saidBy 32 = .ok (.iload 6, 2) := by decide +kernel
theorem dX12_saidBy_34 : decode cX12_saidBy 34 = .ok (.iaload, 1) := by decide +kernel
theorem dX12_saidBy_35 : decode cX12_saidBy 35 = .ok (.istore 7, 2) := by decide +kernel
theorem dX12_saidBy_37 : decode cX12_saidBy 37 = .ok (.aload_n 0, 1) := by decide +kernel
theorem dX12_saidBy_38 : decode cX12_saidBy 38 = .ok (.iload_n 1, 1) := by decide +kernel
theorem dX12_saidBy_39 : decode cX12_saidBy 39 = .ok (.iload 7, 2) := by decide +kernel
theorem dX12_saidBy_41 : decode cX12_saidBy 41 = .ok (.iload 4, 2) := by decide +kernel
theorem dX12_saidBy_43 : decode cX12_saidBy 43 = .ok (.invokevirtual 186, 3) := by decide +kernel
theorem dX12_saidBy_46 : decode cX12_saidBy 46 = .ok (.istore 8, 2) := by decide +kernel
theorem dX12_saidBy_48 : decode cX12_saidBy 48 = .ok (.iload 6, 2) := by decide +kernel
theorem dX12_saidBy_50 : decode cX12_saidBy 50 = .ok (.ifCond .ne 8, 3) := by decide +kernel
theorem dX12_saidBy_53 : decode cX12_saidBy 53 = .ok (.iload 8, 2) := by decide +kernel
theorem dX12_saidBy_55 : decode cX12_saidBy 55 = .ok (.goto 30, 3) := by decide +kernel
theorem dX12_saidBy_58 : decode cX12_saidBy 58 = .ok (.bipush 10, 2) := by decide +kernel
theorem dX12_saidBy_60 : decode cX12_saidBy 60 = .ok (.aload_n 0, 1) := by decide +kernel
theorem dX12_saidBy_61 : decode cX12_saidBy 61 = .ok (.getfield 29, 3) := by decide +kernel
theorem dX12_saidBy_64 : decode cX12_saidBy 64 = .ok (.iload 7, 2) := by decide +kernel
theorem dX12_saidBy_66 : decode cX12_saidBy 66 = .ok (.iaload, 1) := by decide +kernel
theorem dX12_saidBy_67 : decode cX12_saidBy 67 = .ok (.isub, 1) := by decide +kernel
theorem dX12_saidBy_68 : decode cX12_saidBy 68 = .ok (.iload 8, 2) := by decide +kernel
theorem dX12_saidBy_70 : decode cX12_saidBy 70 = .ok (.imul, 1) := by decide +kernel
theorem dX12_saidBy_71 : decode cX12_saidBy 71 = .ok (.aload_n 0, 1) := by decide +kernel
theorem dX12_saidBy_72 : decode cX12_saidBy 72 = .ok (.getfield 29, 3) := by decide +kernel
theorem dX12_saidBy_75 : decode cX12_saidBy 75 = .ok (.iload 7, 2) := by decide +kernel
theorem dX12_saidBy_77 : decode cX12_saidBy 77 = .ok (.iaload, 1) := by decide +kernel
theorem dX12_saidBy_78 : decode cX12_saidBy 78 = .ok (.iload 5, 2) := by decide +kernel
theorem dX12_saidBy_80 : decode cX12_saidBy 80 = .ok (.imul, 1) := by decide +kernel
theorem dX12_saidBy_81 : decode cX12_saidBy 81 = .ok (.iadd, 1) := by decide +kernel
theorem dX12_saidBy_82 : decode cX12_saidBy 82 = .ok (.bipush 10, 2) := by decide +kernel
theorem dX12_saidBy_84 : decode cX12_saidBy 84 = .ok (.idiv, 1) := by decide +kernel
theorem dX12_saidBy_85 : decode cX12_saidBy 85 = .ok (.istore 5, 2) := by decide +kernel
theorem dX12_saidBy_87 : decode cX12_saidBy 87 = .ok (.iload 7, 2) := by decide +kernel
theorem dX12_saidBy_89 : decode cX12_saidBy 89 = .ok (.iload_n 3, 1) := by decide +kernel
theorem dX12_saidBy_90 : decode cX12_saidBy 90 = .ok (.if_icmp .ne 6, 3) := by decide +kernel
theorem dX12_saidBy_93 : decode cX12_saidBy 93 = .ok (.iload 5, 2) := by decide +kernel
theorem dX12_saidBy_95 : decode cX12_saidBy 95 = .ok (.ireturn, 1) := by decide +kernel
theorem dX12_saidBy_96 : decode cX12_saidBy 96 = .ok (.iinc 6 1, 3) := by decide +kernel
theorem dX12_saidBy_99 : decode cX12_saidBy 99 = .ok (.goto (-80), 3) := by decide +kernel
theorem dX12_saidBy_102 : decode cX12_saidBy 102 = .ok (.iload 5, 2) := by decide +kernel
theorem dX12_saidBy_104 : decode cX12_saidBy 104 = .ok (.ireturn, 1) := by decide +kernel
theorem dX12_said_0 : decode cX12_said 0 = .ok (.aload_n 0, 1) := by decide +kernel
theorem dX12_said_1 : decode cX12_said 1 = .ok (.iload_n 1, 1) := by decide +kernel
theorem dX12_said_2 : decode cX12_said 2 = .ok (.invokevirtual 98, 3) := by decide +kernel
theorem dX12_said_5 : decode cX12_said 5 = .ok (.ifCond .eq 32, 3) := by decide +kernel
theorem dX12_said_8 : decode cX12_said 8 = .ok (.aload_n 0, 1) := by decide +kernel
theorem dX12_said_9 : decode cX12_said 9 = .ok (.iload_n 3, 1) := by decide +kernel
theorem dX12_said_10 : decode cX12_said 10 = .ok (.invokevirtual 129, 3) := by decide +kernel
theorem dX12_said_13 : decode cX12_said 13 = .ok (.ifCond .eq 24, 3) := by decide +kernel
theorem dX12_said_16 : decode cX12_said 16 = .ok (.aload_n 0, 1) := by decide +kernel
theorem dX12_said_17 : decode cX12_said 17 = .ok (.iload 4, 2) := by decide +kernel
theorem dX12_said_19 : decode cX12_said 19 = .ok (.invokevirtual 126, 3) := by decide +kernel
theorem dX12_said_22 : decode cX12_said 22 = .ok (.ifCond .eq 15, 3) := by decide +kernel
theorem dX12_said_25 : decode cX12_said 25 = .ok (.aload_n 0, 1) := by decide +kernel
theorem dX12_said_26 : decode cX12_said 26 = .ok (.iload_n 1, 1) := by decide +kernel
theorem dX12_said_27 : decode cX12_said 27 = .ok (.iload_n 2, 1) := by decide +kernel
theorem dX12_said_28 : decode cX12_said 28 = .ok (.iload_n 3, 1) := by decide +kernel
theorem dX12_said_29 : decode cX12_said 29 = .ok (.iload 4, 2) := by decide +kernel
theorem dX12_said_31 : decode cX12_said 31 = .ok (.invokevirtual 189, 3) := by decide +kernel
theorem dX12_said_34 : decode cX12_said 34 = .ok (.goto 8, 3) := by decide +kernel
theorem dX12_said_37 : decode cX12_said 37 = .ok (.aload_n 0, 1) := by decide +kernel
theorem dX12_said_38 : decode cX12_said 38 = .ok (.iconst (-1), 1) := by decide +kernel
theorem dX12_said_39 : decode cX12_said 39 = .ok (.invokevirtual 94, 3) := by decide +kernel
theorem dX12_said_42 : decode cX12_said 42 = .ok (.ireturn, 1) := by decide +kernel
theorem dX12_totalBy_0 : decode cX12_totalBy 0 = .ok (.iconst 0, 1) := by decide +kernel
theorem dX12_totalBy_1 : decode cX12_totalBy 1 = .ok (.istore 4, 2) := by decide +kernel
theorem dX12_totalBy_3 : decode cX12_totalBy 3 = .ok (.iconst 0, 1) := by decide +kernel
theorem dX12_totalBy_4 : decode cX12_totalBy 4 = .ok (.istore 5, 2) := by decide +kernel
theorem dX12_totalBy_6 : decode cX12_totalBy 6 = .ok (.iload 5, 2) := by decide +kernel
theorem dX12_totalBy_8 : decode cX12_totalBy 8 = .ok (.aload_n 0, 1) := by decide +kernel
theorem dX12_totalBy_9 : decode cX12_totalBy 9 = .ok (.getfield 84, 3) := by decide +kernel
theorem dX12_totalBy_12 : decode cX12_totalBy 12 = .ok (.if_icmp .ge 32, 3) := by decide +kernel
theorem dX12_totalBy_15 : decode cX12_totalBy 15 = .ok (.iload 5, 2) := by decide +kernel
theorem dX12_totalBy_17 : decode cX12_totalBy 17 = .ok (.aload_n 0, 1) := by decide +kernel
theorem dX12_totalBy_18 : decode cX12_totalBy 18 = .ok (.getfield 72, 3) := by decide +kernel
theorem dX12_totalBy_21 : decode cX12_totalBy 21 = .ok (.if_icmp .eq 17, 3) := by decide +kernel
theorem dX12_totalBy_24 : decode cX12_totalBy 24 = .ok (.iload 4, 2) := by decide +kernel
theorem dX12_totalBy_26 : decode cX12_totalBy 26 = .ok (.aload_n 0, 1) := by decide +kernel
theorem dX12_totalBy_27 : decode cX12_totalBy 27 = .ok (.iload_n 1, 1) := by decide +kernel
theorem dX12_totalBy_28 : decode cX12_totalBy 28 = .ok (.iload_n 2, 1) := by decide +kernel
theorem dX12_totalBy_29 : decode cX12_totalBy 29 = .ok (.iload 5, 2) := by decide +kernel
theorem dX12_totalBy_31 : decode cX12_totalBy 31 = .ok (.iload_n 3, 1) := by decide +kernel
theorem dX12_totalBy_32 : decode cX12_totalBy 32 = .ok (.invokevirtual 189, 3) := by decide +kernel
theorem dX12_totalBy_35 : decode cX12_totalBy 35 = .ok (.iadd, 1) := by decide +kernel
theorem dX12_totalBy_36 : decode cX12_totalBy 36 = .ok (.istore 4, 2) := by decide +kernel
theorem dX12_totalBy_38 : decode cX12_totalBy 38 = .ok (.iinc 5 1, 3) := by decide +kernel
theorem dX12_totalBy_41 : decode cX12_totalBy 41 = .ok (.goto (-35), 3) := by decide +kernel
theorem dX12_totalBy_44 : decode cX12_totalBy 44 = .ok (.iload 4, 2) := by decide +kernel
theorem dX12_totalBy_46 : decode cX12_totalBy 46 = .ok (.ireturn, 1) := by decide +kernel
theorem dX12_total_0 : decode cX12_total 0 = .ok (.aload_n 0, 1) := by decide +kernel
theorem dX12_total_1 : decode cX12_total 1 = .ok (.iload_n 1, 1) := by decide +kernel
theorem dX12_total_2 : decode cX12_total 2 = .ok (.invokevirtual 98, 3) := by decide +kernel
theorem dX12_total_5 : decode cX12_total 5 = .ok (.ifCond .eq 21, 3) := by decide +kernel
theorem dX12_total_8 : decode cX12_total 8 = .ok (.aload_n 0, 1) := by decide +kernel
theorem dX12_total_9 : decode cX12_total 9 = .ok (.iload_n 3, 1) := by decide +kernel
theorem dX12_total_10 : decode cX12_total 10 = .ok (.invokevirtual 126, 3) := by decide +kernel
theorem dX12_total_13 : decode cX12_total 13 = .ok (.ifCond .eq 13, 3) := by decide +kernel
theorem dX12_total_16 : decode cX12_total 16 = .ok (.aload_n 0, 1) := by decide +kernel
theorem dX12_total_17 : decode cX12_total 17 = .ok (.iload_n 1, 1) := by decide +kernel
theorem dX12_total_18 : decode cX12_total 18 = .ok (.iload_n 2, 1) := by decide +kernel
theorem dX12_total_19 : decode cX12_total 19 = .ok (.iload_n 3, 1) := by decide +kernel
theorem dX12_total_20 : decode cX12_total 20 = .ok (.invokevirtual 193, 3) := by decide +kernel
theorem dX12_total_23 : decode cX12_total 23 = .ok (.goto 8, 3) := by decide +kernel
theorem dX12_total_26 : decode cX12_total 26 = .ok (.aload_n 0, 1) := by decide +kernel
theorem dX12_total_27 : decode cX12_total 27 = .ok (.iconst (-1), 1) := by decide +kernel
theorem dX12_total_28 : decode cX12_total 28 = .ok (.invokevirtual 94, 3) := by decide +kernel
theorem dX12_total_31 : decode cX12_total 31 = .ok (.ireturn, 1) := by decide +kernel
theorem dX12_takenBy_0 : decode cX12_takenBy 0 = .ok (.iconst (-1), 1) := by decide +kernel
theorem dX12_takenBy_1 : decode cX12_takenBy 1 = .ok (.istore_n 3, 1) := by decide +kernel
theorem dX12_takenBy_2 : decode cX12_takenBy 2 = .ok (.iconst 0, 1) := by decide +kernel
theorem dX12_takenBy_3 : decode cX12_takenBy 3 = .ok (.istore 4, 2) := by decide +kernel
theorem dX12_takenBy_5 : decode cX12_takenBy 5 = .ok (.iconst 0, 1) := by decide +kernel
theorem dX12_takenBy_6 : decode cX12_takenBy 6 = .ok (.istore 5, 2) := by decide +kernel
theorem dX12_takenBy_8 : decode cX12_takenBy 8 = .ok (.iload 5, 2) := by decide +kernel
theorem dX12_takenBy_10 : decode cX12_takenBy 10 = .ok (.aload_n 0, 1) := by decide +kernel
theorem dX12_takenBy_11 : decode cX12_takenBy 11 = .ok (.getfield 81, 3) := by decide +kernel
theorem dX12_takenBy_14 : decode cX12_takenBy 14 = .ok (.if_icmp .ge 41, 3) := by decide +kernel
theorem dX12_takenBy_17 : decode cX12_takenBy 17 = .ok (.aload_n 0, 1) := by decide +kernel
theorem dX12_takenBy_18 : decode cX12_takenBy 18 = .ok (.iload_n 1, 1) := by decide +kernel
theorem dX12_takenBy_19 : decode cX12_takenBy 19 = .ok (.iload_n 2, 1) := by decide +kernel
theorem dX12_takenBy_20 : decode cX12_takenBy 20 = .ok (.iload 5, 2) := by decide +kernel
theorem dX12_takenBy_22 : decode cX12_takenBy 22 = .ok (.invokevirtual 193, 3) := by decide +kernel
theorem dX12_takenBy_25 : decode cX12_takenBy 25 = .ok (.istore 6, 2) := by decide +kernel
theorem dX12_takenBy_27 : decode cX12_takenBy 27 = .ok (.iload_n 3, 1) := by decide +kernel
theorem dX12_takenBy_28 : decode cX12_takenBy 28 = .ok (.iconst (-1), 1) := by decide +kernel
theorem dX12_takenBy_29 : decode cX12_takenBy 29 = .ok (.if_icmp .eq 13, 3) := by decide +kernel
theorem dX12_takenBy_32 : decode cX12_takenBy 32 = .ok (.iload 6, 2) := by decide +kernel
theorem dX12_takenBy_34 : decode cX12_takenBy 34 = .ok (.iload 4, 2) := by decide +kernel
theorem dX12_takenBy_36 : decode cX12_takenBy 36 = .ok (.if_icmp .gt 6, 3) := by decide +kernel
theorem dX12_takenBy_39 : decode cX12_takenBy 39 = .ok (.goto 10, 3) := by decide +kernel
theorem dX12_takenBy_42 : decode cX12_takenBy 42 = .ok (.iload 5, 2) := by decide +kernel
theorem dX12_takenBy_44 : decode cX12_takenBy 44 = .ok (.istore_n 3, 1) := by decide +kernel
theorem dX12_takenBy_45 : decode cX12_takenBy 45 = .ok (.iload 6, 2) := by decide +kernel
theorem dX12_takenBy_47 : decode cX12_takenBy 47 = .ok (.istore 4, 2) := by decide +kernel
theorem dX12_takenBy_49 : decode cX12_takenBy 49 = .ok (.iinc 5 1, 3) := by decide +kernel
theorem dX12_takenBy_52 : decode cX12_takenBy 52 = .ok (.goto (-44), 3) := by decide +kernel
theorem dX12_takenBy_55 : decode cX12_takenBy 55 = .ok (.iload_n 3, 1) := by decide +kernel
theorem dX12_takenBy_56 : decode cX12_takenBy 56 = .ok (.ireturn, 1) := by decide +kernel
theorem dX12_taken_0 : decode cX12_taken 0 = .ok (.aload_n 0, 1) := by decide +kernel
theorem dX12_taken_1 : decode cX12_taken 1 = .ok (.iload_n 1, 1) := by decide +kernel
theorem dX12_taken_2 : decode cX12_taken 2 = .ok (.invokevirtual 98, 3) := by decide +kernel
theorem dX12_taken_5 : decode cX12_taken 5 = .ok (.ifCond .eq 12, 3) := by decide +kernel
theorem dX12_taken_8 : decode cX12_taken 8 = .ok (.aload_n 0, 1) := by decide +kernel
theorem dX12_taken_9 : decode cX12_taken 9 = .ok (.iload_n 1, 1) := by decide +kernel
theorem dX12_taken_10 : decode cX12_taken 10 = .ok (.iload_n 2, 1) := by decide +kernel
theorem dX12_taken_11 : decode cX12_taken 11 = .ok (.invokevirtual 104, 3) := by decide +kernel
theorem dX12_taken_14 : decode cX12_taken 14 = .ok (.goto 8, 3) := by decide +kernel
theorem dX12_taken_17 : decode cX12_taken 17 = .ok (.aload_n 0, 1) := by decide +kernel
theorem dX12_taken_18 : decode cX12_taken 18 = .ok (.iconst (-1), 1) := by decide +kernel
theorem dX12_taken_19 : decode cX12_taken 19 = .ok (.invokevirtual 197, 3) := by decide +kernel
theorem dX12_taken_22 : decode cX12_taken 22 = .ok (.ireturn, 1) := by decide +kernel
theorem dX12_bestNow_0 : decode cX12_bestNow 0 = .ok (.iconst 0, 1) := by decide +kernel
theorem dX12_bestNow_1 : decode cX12_bestNow 1 = .ok (.istore_n 1, 1) := by decide +kernel
theorem dX12_bestNow_2 : decode cX12_bestNow 2 = .ok (.iconst 1, 1) := by decide +kernel
theorem dX12_bestNow_3 : decode cX12_bestNow 3 = .ok (.istore_n 2, 1) := by decide +kernel
theorem dX12_bestNow_4 : decode cX12_bestNow 4 = .ok (.iload_n 2, 1) := by decide +kernel
theorem dX12_bestNow_5 : decode cX12_bestNow 5 = .ok (.aload_n 0, 1) := by decide +kernel
theorem dX12_bestNow_6 : decode cX12_bestNow 6 = .ok (.getfield 81, 3) := by decide +kernel
theorem dX12_bestNow_9 : decode cX12_bestNow 9 = .ok (.if_icmp .ge 24, 3) := by decide +kernel
theorem dX12_bestNow_12 : decode cX12_bestNow 12 = .ok (.aload_n 0, 1) := by decide +kernel
theorem dX12_bestNow_13 : decode cX12_bestNow 13 = .ok (.iload_n 2, 1) := by decide +kernel
theorem dX12_bestNow_14 : decode cX12_bestNow 14 = .ok (.invokevirtual 101, 3) := by decide +kernel
theorem dX12_bestNow_17 : decode cX12_bestNow 17 = .ok (.aload_n 0, 1) := by decide +kernel
theorem dX12_bestNow_18 : decode cX12_bestNow 18 = .ok (.iload_n 1, 1) := by decide +kernel
theorem dX12_bestNow_19 : decode cX12_bestNow 19 = .ok (.invokevirtual 101, 3) := by decide +kernel
theorem dX12_bestNow_22 : decode cX12_bestNow 22 = .ok (.if_icmp .le 5, 3) := by decide +kernel
theorem dX12_bestNow_25 : decode cX12_bestNow 25 = .ok (.iload_n 2, 1) := by decide +kernel
theorem dX12_bestNow_26 : decode cX12_bestNow 26 = .ok (.istore_n 1, 1) := by decide +kernel
theorem dX12_bestNow_27 : decode cX12_bestNow 27 = .ok (.iinc 2 1, 3) := by decide +kernel
theorem dX12_bestNow_30 : decode cX12_bestNow 30 = .ok (.goto (-26), 3) := by decide +kernel
theorem dX12_bestNow_33 : decode cX12_bestNow 33 = .ok (.iload_n 1, 1) := by decide +kernel
theorem dX12_bestNow_34 : decode cX12_bestNow 34 = .ok (.ireturn, 1) := by decide +kernel
theorem dX12_best_0 : decode cX12_best 0 = .ok (.aload_n 0, 1) := by decide +kernel
theorem dX12_best_1 : decode cX12_best 1 = .ok (.getfield 81, 3) := by decide +kernel
theorem dX12_best_4 : decode cX12_best 4 = .ok (.ifCond .ne 12, 3) := by decide +kernel
theorem dX12_best_7 : decode cX12_best 7 = .ok (.aload_n 0, 1) := by decide +kernel
theorem dX12_best_8 : decode cX12_best 8 = .ok (.bipush (-5), 2) := by decide +kernel
theorem dX12_best_10 : decode cX12_best 10 = .ok (.invokevirtual 94, 3) := by decide +kernel
theorem dX12_best_13 : decode cX12_best 13 = .ok (.goto 7, 3) := by decide +kernel
theorem dX12_best_16 : decode cX12_best 16 = .ok (.aload_n 0, 1) := by decide +kernel
theorem dX12_best_17 : decode cX12_best 17 = .ok (.invokevirtual 200, 3) := by decide +kernel
theorem dX12_best_20 : decode cX12_best 20 = .ok (.ireturn, 1) := by decide +kernel
theorem dX12_tellsBy_0 : decode cX12_tellsBy 0 = .ok (.iconst 0, 1) := by decide +kernel
theorem dX12_tellsBy_1 : decode cX12_tellsBy 1 = .ok (.istore_n 2, 1) := by decide +kernel
theorem dX12_tellsBy_2 : decode cX12_tellsBy 2 = .ok (.iconst 0, 1) := by decide +kernel
theorem dX12_tellsBy_3 : decode cX12_tellsBy 3 = .ok (.istore_n 3, 1) := by decide +kernel
theorem dX12_tellsBy_4 : decode cX12_tellsBy 4 = .ok (.iload_n 3, 1) := by decide +kernel
theorem dX12_tellsBy_5 : decode cX12_tellsBy 5 = .ok (.aload_n 0, 1) := by decide +kernel
theorem dX12_tellsBy_6 : decode cX12_tellsBy 6 = .ok (.getfield 81, 3) := by decide +kernel
theorem dX12_tellsBy_9 : decode cX12_tellsBy 9 = .ok (.if_icmp .ge 129, 3) := by decide +kernel
theorem dX12_tellsBy_12 : decode cX12_tellsBy 12 = .ok (.iconst 0, 1) := by decide +kernel
theorem dX12_tellsBy_13 : decode cX12_tellsBy 13 = .ok (.istore 4, 2) := by decide +kernel
theorem dX12_tellsBy_15 : decode cX12_tellsBy 15 = .ok (.iload 4, 2) := by decide +kernel
theorem dX12_tellsBy_17 : decode cX12_tellsBy 17 = .ok (.iload_n 3, 1) := by decide +kernel
theorem dX12_tellsBy_18 : decode cX12_tellsBy 18 = .ok (.if_icmp .ge 114, 3) := by decide +kernel
theorem dX12_tellsBy_21 : decode cX12_tellsBy 21 = .ok (.iload_n 1, 1) := by decide +kernel
theorem dX12_tellsBy_22 : decode cX12_tellsBy 22 = .ok (.iload_n 3, 1) := by decide +kernel
theorem dX12_tellsBy_23 : decode cX12_tellsBy 23 = .ok (.ishr, 1) := by decide +kernel
theorem dX12_tellsBy_24 : decode cX12_tellsBy 24 = .ok (.iconst 1, 1) := by decide +kernel
theorem dX12_tellsBy_25 : decode cX12_tellsBy 25 = .ok (.iand, 1) := by decide +kernel
theorem dX12_tellsBy_26 : decode cX12_tellsBy 26 = .ok (.ifCond .eq 100, 3) := by decide +kernel
theorem dX12_tellsBy_29 : decode cX12_tellsBy 29 = .ok (.iload_n 1, 1) := by decide +kernel
theorem dX12_tellsBy_30 : decode cX12_tellsBy 30 = .ok (.iload 4, 2) := by decide +kernel
theorem dX12_tellsBy_32 : decode cX12_tellsBy 32 = .ok (.ishr, 1) := by decide +kernel
theorem dX12_tellsBy_33 : decode cX12_tellsBy 33 = .ok (.iconst 1, 1) := by decide +kernel
theorem dX12_tellsBy_34 : decode cX12_tellsBy 34 = .ok (.iand, 1) := by decide +kernel
theorem dX12_tellsBy_35 : decode cX12_tellsBy 35 = .ok (.ifCond .eq 91, 3) := by decide +kernel
theorem dX12_tellsBy_38 : decode cX12_tellsBy 38 = .ok (.aload_n 0, 1) := by decide +kernel
theorem dX12_tellsBy_39 : decode cX12_tellsBy 39 = .ok (.getfield 75, 3) := by decide +kernel
theorem dX12_tellsBy_42 : decode cX12_tellsBy 42 = .ok (.iload_n 3, 1) := by decide +kernel
theorem dX12_tellsBy_43 : decode cX12_tellsBy 43 = .ok (.iaload, 1) := by decide +kernel
theorem dX12_tellsBy_44 : decode cX12_tellsBy 44 = .ok (.aload_n 0, 1) := by decide +kernel
theorem dX12_tellsBy_45 : decode cX12_tellsBy 45 = .ok (.getfield 75, 3) := by decide +kernel
theorem dX12_tellsBy_48 : decode cX12_tellsBy 48 = .ok (.iload 4, 2) := by decide +kernel
theorem dX12_tellsBy_50 : decode cX12_tellsBy 50 = .ok (.iaload, 1) := by decide +kernel
theorem dX12_tellsBy_51 : decode cX12_tellsBy 51 = .ok (.if_icmp .ne 6, 3) := by decide +kernel
theorem dX12_tellsBy_54 : decode cX12_tellsBy 54 = .ok (.goto 72, 3) := by decide +kernel
theorem dX12_tellsBy_57 : decode cX12_tellsBy 57 = .ok (.aload_n 0, 1) := by decide +kernel
theorem dX12_tellsBy_58 : decode cX12_tellsBy 58 = .ok (.iload_n 3, 1) := by decide +kernel
theorem dX12_tellsBy_59 : decode cX12_tellsBy 59 = .ok (.invokevirtual 101, 3) := by decide +kernel
theorem dX12_tellsBy_62 : decode cX12_tellsBy 62 = .ok (.istore 5, 2) := by decide +kernel
theorem dX12_tellsBy_64 : decode cX12_tellsBy 64 = .ok (.aload_n 0, 1) := by decide +kernel
theorem dX12_tellsBy_65 : decode cX12_tellsBy 65 = .ok (.iload 4, 2) := by decide +kernel
theorem dX12_tellsBy_67 : decode cX12_tellsBy 67 = .ok (.invokevirtual 101, 3) := by decide +kernel
theorem dX12_tellsBy_70 : decode cX12_tellsBy 70 = .ok (.istore 6, 2) := by decide +kernel
theorem dX12_tellsBy_72 : decode cX12_tellsBy 72 = .ok (.iload 5, 2) := by decide +kernel
theorem dX12_tellsBy_74 : decode cX12_tellsBy 74 = .ok (.iload 6, 2) := by decide +kernel
theorem dX12_tellsBy_76 : decode cX12_tellsBy 76 = .ok (.if_icmp .ne 6, 3) := by decide +kernel
theorem dX12_tellsBy_79 : decode cX12_tellsBy 79 = .ok (.goto 47, 3) := by decide +kernel
theorem dX12_tellsBy_82 : decode cX12_tellsBy 82 = .ok (.iload_n 2, 1) := by decide +kernel
theorem dX12_tellsBy_83 : decode cX12_tellsBy 83 = .ok (.iload 5, 2) := by decide +kernel
theorem dX12_tellsBy_85 : decode cX12_tellsBy 85 = .ok (.iload 6, 2) := by decide +kernel
theorem dX12_tellsBy_87 : decode cX12_tellsBy 87 = .ok (.if_icmp .le 7, 3) := by decide +kernel
theorem dX12_tellsBy_90 : decode cX12_tellsBy 90 = .ok (.iconst 1, 1) := by decide +kernel
theorem dX12_tellsBy_91 : decode cX12_tellsBy 91 = .ok (.goto 4, 3) := by decide +kernel
theorem dX12_tellsBy_94 : decode cX12_tellsBy 94 = .ok (.iconst 0, 1) := by decide +kernel
theorem dX12_tellsBy_95 : decode cX12_tellsBy 95 = .ok (.aload_n 0, 1) := by decide +kernel
theorem dX12_tellsBy_96 : decode cX12_tellsBy 96 = .ok (.getfield 75, 3) := by decide +kernel
theorem dX12_tellsBy_99 : decode cX12_tellsBy 99 = .ok (.iload_n 3, 1) := by decide +kernel
theorem dX12_tellsBy_100 : decode cX12_tellsBy 100 = .ok (.iaload, 1) := by decide +kernel
theorem dX12_tellsBy_101 : decode cX12_tellsBy 101 = .ok (.aload_n 0, 1) := by decide +kernel
theorem dX12_tellsBy_102 : decode cX12_tellsBy 102 = .ok (.getfield 75, 3) := by decide +kernel
theorem dX12_tellsBy_105 : decode cX12_tellsBy 105 = .ok (.iload 4, 2) := by decide +kernel
theorem dX12_tellsBy_107 : decode cX12_tellsBy 107 = .ok (.iaload, 1) := by decide +kernel
theorem dX12_tellsBy_108 : decode cX12_tellsBy 108 = .ok (.if_icmp .le 7, 3) := by decide +kernel
theorem dX12_tellsBy_111 : decode cX12_tellsBy 111 = .ok (.iconst 1, 1) := by decide +kernel
theorem dX12_tellsBy_112 : decode cX12_tellsBy 112 = .ok (.goto 4, 3) := by decide +kernel
theorem dX12_tellsBy_115 : decode cX12_tellsBy 115 = .ok (.iconst 0, 1) := by decide +kernel
theorem dX12_tellsBy_116 : decode cX12_tellsBy 116 = .ok (.if_icmp .ne 7, 3) := by decide +kernel
theorem dX12_tellsBy_119 : decode cX12_tellsBy 119 = .ok (.iconst 1, 1) := by decide +kernel
theorem dX12_tellsBy_120 : decode cX12_tellsBy 120 = .ok (.goto 4, 3) := by decide +kernel
theorem dX12_tellsBy_123 : decode cX12_tellsBy 123 = .ok (.iconst (-1), 1) := by decide +kernel
theorem dX12_tellsBy_124 : decode cX12_tellsBy 124 = .ok (.iadd, 1) := by decide +kernel
theorem dX12_tellsBy_125 : decode cX12_tellsBy 125 = .ok (.istore_n 2, 1) := by decide +kernel
theorem dX12_tellsBy_126 : decode cX12_tellsBy 126 = .ok (.iinc 4 1, 3) := by decide +kernel
theorem dX12_tellsBy_129 : decode cX12_tellsBy 129 = .ok (.goto (-114), 3) := by decide +kernel
theorem dX12_tellsBy_132 : decode cX12_tellsBy 132 = .ok (.iinc 3 1, 3) := by decide +kernel
theorem dX12_tellsBy_135 : decode cX12_tellsBy 135 = .ok (.goto (-131), 3) := by decide +kernel
theorem dX12_tellsBy_138 : decode cX12_tellsBy 138 = .ok (.iload_n 2, 1) := by decide +kernel
theorem dX12_tellsBy_139 : decode cX12_tellsBy 139 = .ok (.ireturn, 1) := by decide +kernel
theorem dX12_totals_0 : decode cX12_totals 0 = .ok (.iconst 0, 1) := by decide +kernel
theorem dX12_totals_1 : decode cX12_totals 1 = .ok (.istore_n 3, 1) := by decide +kernel
theorem dX12_totals_2 : decode cX12_totals 2 = .ok (.iload_n 3, 1) := by decide +kernel
theorem dX12_totals_3 : decode cX12_totals 3 = .ok (.aload_n 0, 1) := by decide +kernel
theorem dX12_totals_4 : decode cX12_totals 4 = .ok (.getfield 81, 3) := by decide +kernel
theorem dX12_totals_7 : decode cX12_totals 7 = .ok (.if_icmp .ge 22, 3) := by decide +kernel
theorem dX12_totals_10 : decode cX12_totals 10 = .ok (.aload_n 0, 1) := by decide +kernel
theorem dX12_totals_11 : decode cX12_totals 11 = .ok (.getfield 75, 3) := by decide +kernel
theorem dX12_totals_14 : decode cX12_totals 14 = .ok (.iload_n 3, 1) := by decide +kernel
theorem dX12_totals_15 : decode cX12_totals 15 = .ok (.aload_n 0, 1) := by decide +kernel
theorem dX12_totals_16 : decode cX12_totals 16 = .ok (.iload_n 1, 1) := by decide +kernel
theorem dX12_totals_17 : decode cX12_totals 17 = .ok (.iload_n 2, 1) := by decide +kernel
theorem dX12_totals_18 : decode cX12_totals 18 = .ok (.iload_n 3, 1) := by decide +kernel
theorem dX12_totals_19 : decode cX12_totals 19 = .ok (.invokevirtual 193, 3) := by decide +kernel
theorem dX12_totals_22 : decode cX12_totals 22 = .ok (.iastore, 1) := by decide +kernel
theorem dX12_totals_23 : decode cX12_totals 23 = .ok (.iinc 3 1, 3) := by decide +kernel
theorem dX12_totals_26 : decode cX12_totals 26 = .ok (.goto (-24), 3) := by decide +kernel
theorem dX12_totals_29 : decode cX12_totals 29 = .ok (.return_, 1) := by decide +kernel
theorem dX12_tells_0 : decode cX12_tells 0 = .ok (.aload_n 0, 1) := by decide +kernel
theorem dX12_tells_1 : decode cX12_tells 1 = .ok (.iload_n 1, 1) := by decide +kernel
theorem dX12_tells_2 : decode cX12_tells 2 = .ok (.invokevirtual 98, 3) := by decide +kernel
theorem dX12_tells_5 : decode cX12_tells 5 = .ok (.ifCond .ne 9, 3) := by decide +kernel
theorem dX12_tells_8 : decode cX12_tells 8 = .ok (.aload_n 0, 1) := by decide +kernel
theorem dX12_tells_9 : decode cX12_tells 9 = .ok (.iconst (-1), 1) := by decide +kernel
theorem dX12_tells_10 : decode cX12_tells 10 = .ok (.invokevirtual 203, 3) := by decide +kernel
theorem dX12_tells_13 : decode cX12_tells 13 = .ok (.ireturn, 1) := by decide +kernel
theorem dX12_tells_14 : decode cX12_tells 14 = .ok (.aload_n 0, 1) := by decide +kernel
theorem dX12_tells_15 : decode cX12_tells 15 = .ok (.iload_n 1, 1) := by decide +kernel
theorem dX12_tells_16 : decode cX12_tells 16 = .ok (.iload_n 2, 1) := by decide +kernel
theorem dX12_tells_17 : decode cX12_tells 17 = .ok (.invokevirtual 206, 3) := by decide +kernel
theorem dX12_tells_20 : decode cX12_tells 20 = .ok (.aload_n 0, 1) := by decide +kernel
theorem dX12_tells_21 : decode cX12_tells 21 = .ok (.sipush 255, 3) := by decide +kernel
theorem dX12_tells_24 : decode cX12_tells 24 = .ok (.invokevirtual 210, 3) := by decide +kernel
theorem dX12_tells_27 : decode cX12_tells 27 = .ok (.ireturn, 1) := by decide +kernel
theorem dX12_righted_0 : decode cX12_righted 0 = .ok (.aload_n 0, 1) := by decide +kernel
theorem dX12_righted_1 : decode cX12_righted 1 = .ok (.iload_n 1, 1) := by decide +kernel
theorem dX12_righted_2 : decode cX12_righted 2 = .ok (.invokevirtual 98, 3) := by decide +kernel
theorem dX12_righted_5 : decode cX12_righted 5 = .ok (.ifCond .ne 9, 3) := by decide +kernel
theorem dX12_righted_8 : decode cX12_righted 8 = .ok (.aload_n 0, 1) := by decide +kernel
theorem dX12_righted_9 : decode cX12_righted 9 = .ok (.iconst (-1), 1) := by decide +kernel
theorem dX12_righted_10 : decode cX12_righted 10 = .ok (.invokevirtual 203, 3) := by decide +kernel
theorem dX12_righted_13 : decode cX12_righted 13 = .ok (.ireturn, 1) := by decide +kernel
theorem dX12_righted_14 : decode cX12_righted 14 = .ok (.iload_n 2, 1) := by decide +kernel
theorem dX12_righted_15 : decode cX12_righted 15 = .ok (.iconst 2, 1) := by decide +kernel
theorem dX12_righted_16 : decode cX12_righted 16 = .ok (.if_icmp .lt 9, 3) := by decide +kernel
theorem dX12_righted_19 : decode cX12_righted 19 = .ok (.iload_n 2, 1) := by decide +kernel
theorem dX12_righted_20 : decode cX12_righted 20 = .ok (.bipush 8, 2) := by decide +kernel
theorem dX12_righted_22 : decode cX12_righted 22 = .ok (.if_icmp .le 10, 3) := by decide +kernel
theorem dX12_righted_25 : decode cX12_righted 25 = .ok (.aload_n 0, 1) := by decide +kernel
theorem dX12_righted_26 : decode cX12_righted 26 = .ok (.bipush (-6), 2) := by decide +kernel
theorem dX12_righted_28 : decode cX12_righted 28 = .ok (.invokevirtual 203, 3) := by decide +kernel
theorem dX12_righted_31 : decode cX12_righted 31 = .ok (.ireturn, 1) := by decide +kernel
theorem dX12_righted_32 : decode cX12_righted 32 = .ok (.iconst 0, 1) := by decide +kernel
theorem dX12_righted_33 : decode cX12_righted 33 = .ok (.istore_n 3, 1) := by decide +kernel
theorem dX12_righted_34 : decode cX12_righted 34 = .ok (.iconst 0, 1) := by decide +kernel
theorem dX12_righted_35 : decode cX12_righted 35 = .ok (.istore 4, 2) := by decide +kernel
theorem dX12_righted_37 : decode cX12_righted 37 = .ok (.iload 4, 2) := by decide +kernel
theorem dX12_righted_39 : decode cX12_righted 39 = .ok (.iload_n 2, 1) := by decide +kernel
theorem dX12_righted_40 : decode cX12_righted 40 = .ok (.if_icmp .ge 96, 3) := by decide +kernel
theorem dX12_righted_43 : decode cX12_righted 43 = .ok (.iload 4, 2) := by decide +kernel
theorem dX12_righted_45 : decode cX12_righted 45 = .ok (.aload_n 0, 1) := by decide +kernel
theorem dX12_righted_46 : decode cX12_righted 46 = .ok (.getfield 81, 3) := by decide +kernel
theorem dX12_righted_49 : decode cX12_righted 49 = .ok (.if_icmp .ge 87, 3) := by decide +kernel
theorem dX12_righted_52 : decode cX12_righted 52 = .ok (.iconst (-1), 1) := by decide +kernel
theorem dX12_righted_53 : decode cX12_righted 53 = .ok (.istore 5, 2) := by decide +kernel
theorem dX12_righted_55 : decode cX12_righted 55 = .ok (.iconst 0, 1) := by decide +kernel
theorem dX12_righted_56 : decode cX12_righted 56 = .ok (.istore 6, 2) := by decide +kernel
theorem dX12_righted_58 : decode cX12_righted 58 = .ok (.iload 6, 2) := by decide +kernel
theorem dX12_righted_60 : decode cX12_righted 60 = .ok (.aload_n 0, 1) := by decide +kernel
theorem dX12_righted_61 : decode cX12_righted 61 = .ok (.getfield 81, 3) := by decide +kernel
theorem dX12_righted_64 : decode cX12_righted 64 = .ok (.if_icmp .ge 59, 3) := by decide +kernel
theorem dX12_righted_67 : decode cX12_righted 67 = .ok (.iload_n 3, 1) := by decide +kernel
theorem dX12_righted_68 : decode cX12_righted 68 = .ok (.iload 6, 2) := by decide +kernel
theorem dX12_righted_70 : decode cX12_righted 70 = .ok (.ishr, 1) := by decide +kernel
theorem dX12_righted_71 : decode cX12_righted 71 = .ok (.iconst 1, 1) := by decide +kernel
theorem dX12_righted_72 : decode cX12_righted 72 = .ok (.iand, 1) := by decide +kernel
theorem dX12_righted_73 : decode cX12_righted 73 = .ok (.iconst 1, 1) := by decide +kernel
theorem dX12_righted_74 : decode cX12_righted 74 = .ok (.if_icmp .ne 6, 3) := by decide +kernel
theorem dX12_righted_77 : decode cX12_righted 77 = .ok (.goto 40, 3) := by decide +kernel
theorem dX12_righted_80 : decode cX12_righted 80 = .ok (.iload 5, 2) := by decide +kernel
theorem dX12_righted_82 : decode cX12_righted 82 = .ok (.iconst (-1), 1) := by decide +kernel
theorem dX12_righted_83 : decode cX12_righted 83 = .ok (.if_icmp .eq 30, 3) := by decide +kernel
theorem dX12_righted_86 : decode cX12_righted 86 = .ok (.aload_n 0, 1) := by decide +kernel
theorem dX12_righted_87 : decode cX12_righted 87 = .ok (.getfield 20, 3) := by decide +kernel
theorem dX12_righted_90 : decode cX12_righted 90 = .ok (.bipush 6, 2) := by decide +kernel
theorem dX12_righted_92 : decode cX12_righted 92 = .ok (.iload 6, 2) := by decide +kernel
theorem dX12_righted_94 : decode cX12_righted 94 = .ok (.imul, 1) := by decide +kernel
theorem dX12_righted_95 : decode cX12_righted 95 = .ok (.iconst 5, 1) := by decide +kernel
theorem dX12_righted_96 : decode cX12_righted 96 = .ok (.iadd, 1) := by decide +kernel
theorem dX12_righted_97 : decode cX12_righted 97 = .ok (.iaload, 1) := by decide +kernel
theorem dX12_righted_98 : decode cX12_righted 98 = .ok (.aload_n 0, 1) := by decide +kernel
theorem dX12_righted_99 : decode cX12_righted 99 = .ok (.getfield 20, 3) := by decide +kernel
theorem dX12_righted_102 : decode cX12_righted 102 = .ok (.bipush 6, 2) := by decide +kernel
theorem dX12_righted_104 : decode cX12_righted 104 = .ok (.iload 5, 2) := by decide +kernel
theorem dX12_righted_106 : decode cX12_righted 106 = .ok (.imul, 1) := by decide +kernel
theorem dX12_righted_107 : decode cX12_righted 107 = .ok (.iconst 5, 1) := by decide +kernel
theorem dX12_righted_108 : decode cX12_righted 108 = .ok (.iadd, 1) := by decide +kernel
theorem dX12_righted_109 : decode cX12_righted 109 = .ok (.iaload, 1) := by decide +kernel
theorem dX12_righted_110 : decode cX12_righted 110 = .ok (.if_icmp .le 7, 3) := by decide +kernel
theorem dX12_righted_113 : decode cX12_righted 113 = .ok (.iload 6, 2) := by decide +kernel
theorem dX12_righted_115 : decode cX12_righted 115 = .ok (.istore 5, 2) := by decide +kernel
theorem dX12_righted_117 : decode cX12_righted 117 = .ok (.iinc 6 1, 3) := by decide +kernel
theorem dX12_righted_120 : decode cX12_righted 120 = .ok (.goto (-62), 3) := by decide +kernel
theorem dX12_righted_123 : decode cX12_righted 123 = .ok (.iload_n 3, 1) := by decide +kernel
theorem dX12_righted_124 : decode cX12_righted 124 = .ok (.iconst 1, 1) := by decide +kernel
theorem dX12_righted_125 : decode cX12_righted 125 = .ok (.iload 5, 2) := by decide +kernel
theorem dX12_righted_127 : decode cX12_righted 127 = .ok (.ishl, 1) := by decide +kernel
theorem dX12_righted_128 : decode cX12_righted 128 = .ok (.ior, 1) := by decide +kernel
theorem dX12_righted_129 : decode cX12_righted 129 = .ok (.istore_n 3, 1) := by decide +kernel
theorem dX12_righted_130 : decode cX12_righted 130 = .ok (.iinc 4 1, 3) := by decide +kernel
theorem dX12_righted_133 : decode cX12_righted 133 = .ok (.goto (-96), 3) := by decide +kernel
theorem dX12_righted_136 : decode cX12_righted 136 = .ok (.aload_n 0, 1) := by decide +kernel
theorem dX12_righted_137 : decode cX12_righted 137 = .ok (.iload_n 1, 1) := by decide +kernel
theorem dX12_righted_138 : decode cX12_righted 138 = .ok (.iconst 1, 1) := by decide +kernel
theorem dX12_righted_139 : decode cX12_righted 139 = .ok (.invokevirtual 206, 3) := by decide +kernel
theorem dX12_righted_142 : decode cX12_righted 142 = .ok (.aload_n 0, 1) := by decide +kernel
theorem dX12_righted_143 : decode cX12_righted 143 = .ok (.iload_n 3, 1) := by decide +kernel
theorem dX12_righted_144 : decode cX12_righted 144 = .ok (.invokevirtual 210, 3) := by decide +kernel
theorem dX12_righted_147 : decode cX12_righted 147 = .ok (.ireturn, 1) := by decide +kernel
theorem dX12_head_0 : decode cX12_head 0 = .ok (.aload_n 0, 1) := by decide +kernel
theorem dX12_head_1 : decode cX12_head 1 = .ok (.getfield 87, 3) := by decide +kernel
theorem dX12_head_4 : decode cX12_head 4 = .ok (.ifCond .ne 10, 3) := by decide +kernel
theorem dX12_head_7 : decode cX12_head 7 = .ok (.aload_n 0, 1) := by decide +kernel
theorem dX12_head_8 : decode cX12_head 8 = .ok (.bipush (-5), 2) := by decide +kernel
theorem dX12_head_10 : decode cX12_head 10 = .ok (.invokevirtual 94, 3) := by decide +kernel
theorem dX12_head_13 : decode cX12_head 13 = .ok (.ireturn, 1) := by decide +kernel
theorem dX12_head_14 : decode cX12_head 14 = .ok (.iconst (-1), 1) := by decide +kernel
theorem dX12_head_15 : decode cX12_head 15 = .ok (.istore_n 1, 1) := by decide +kernel
theorem dX12_head_16 : decode cX12_head 16 = .ok (.iconst 0, 1) := by decide +kernel
theorem dX12_head_17 : decode cX12_head 17 = .ok (.istore_n 2, 1) := by decide +kernel
theorem dX12_head_18 : decode cX12_head 18 = .ok (.iconst 0, 1) := by decide +kernel
theorem dX12_head_19 : decode cX12_head 19 = .ok (.istore_n 3, 1) := by decide +kernel
theorem dX12_head_20 : decode cX12_head 20 = .ok (.iload_n 3, 1) := by decide +kernel
theorem dX12_head_21 : decode cX12_head 21 = .ok (.aload_n 0, 1) := by decide +kernel
theorem dX12_head_22 : decode cX12_head 22 = .ok (.getfield 87, 3) := by decide +kernel
theorem dX12_head_25 : decode cX12_head 25 = .ok (.if_icmp .ge 43, 3) := by decide +kernel
theorem dX12_head_28 : decode cX12_head 28 = .ok (.aload_n 0, 1) := by decide +kernel
theorem dX12_head_29 : decode cX12_head 29 = .ok (.iload_n 3, 1) := by decide +kernel
theorem dX12_head_30 : decode cX12_head 30 = .ok (.iconst 1, 1) := by decide +kernel
theorem dX12_head_31 : decode cX12_head 31 = .ok (.invokevirtual 206, 3) := by decide +kernel
theorem dX12_head_34 : decode cX12_head 34 = .ok (.aload_n 0, 1) := by decide +kernel
theorem dX12_head_35 : decode cX12_head 35 = .ok (.sipush 255, 3) := by decide +kernel
theorem dX12_head_38 : decode cX12_head 38 = .ok (.invokevirtual 210, 3) := by decide +kernel
theorem dX12_head_41 : decode cX12_head 41 = .ok (.istore 4, 2) := by decide +kernel
theorem dX12_head_43 : decode cX12_head 43 = .ok (.iload_n 1, 1) := by decide +kernel
theorem dX12_head_44 : decode cX12_head 44 = .ok (.iconst (-1), 1) := by decide +kernel
theorem dX12_head_45 : decode cX12_head 45 = .ok (.if_icmp .eq 12, 3) := by decide +kernel
theorem dX12_head_48 : decode cX12_head 48 = .ok (.iload 4, 2) := by decide +kernel
theorem dX12_head_50 : decode cX12_head 50 = .ok (.iload_n 2, 1) := by decide +kernel
theorem dX12_head_51 : decode cX12_head 51 = .ok (.if_icmp .gt 6, 3) := by decide +kernel
theorem dX12_head_54 : decode cX12_head 54 = .ok (.goto 8, 3) := by decide +kernel
theorem dX12_head_57 : decode cX12_head 57 = .ok (.iload_n 3, 1) := by decide +kernel
theorem dX12_head_58 : decode cX12_head 58 = .ok (.istore_n 1, 1) := by decide +kernel
theorem dX12_head_59 : decode cX12_head 59 = .ok (.iload 4, 2) := by decide +kernel
theorem dX12_head_61 : decode cX12_head 61 = .ok (.istore_n 2, 1) := by decide +kernel
theorem dX12_head_62 : decode cX12_head 62 = .ok (.iinc 3 1, 3) := by decide +kernel
theorem dX12_head_65 : decode cX12_head 65 = .ok (.goto (-45), 3) := by decide +kernel
theorem dX12_head_68 : decode cX12_head 68 = .ok (.iload_n 1, 1) := by decide +kernel
theorem dX12_head_69 : decode cX12_head 69 = .ok (.ireturn, 1) := by decide +kernel
theorem dX12_joins_0 : decode cX12_joins 0 = .ok (.iconst 0, 1) := by decide +kernel
theorem dX12_joins_1 : decode cX12_joins 1 = .ok (.istore 4, 2) := by decide +kernel
theorem dX12_joins_3 : decode cX12_joins 3 = .ok (.iload 4, 2) := by decide +kernel
theorem dX12_joins_5 : decode cX12_joins 5 = .ok (.aload_n 0, 1) := by decide +kernel
theorem dX12_joins_6 : decode cX12_joins 6 = .ok (.getfield 81, 3) := by decide +kernel
theorem dX12_joins_9 : decode cX12_joins 9 = .ok (.if_icmp .ge 40, 3) := by decide +kernel
theorem dX12_joins_12 : decode cX12_joins 12 = .ok (.aload_n 0, 1) := by decide +kernel
theorem dX12_joins_13 : decode cX12_joins 13 = .ok (.getfield 75, 3) := by decide +kernel
theorem dX12_joins_16 : decode cX12_joins 16 = .ok (.iload 4, 2) := by decide +kernel
theorem dX12_joins_18 : decode cX12_joins 18 = .ok (.iload_n 3, 1) := by decide +kernel
theorem dX12_joins_19 : decode cX12_joins 19 = .ok (.aload_n 0, 1) := by decide +kernel
theorem dX12_joins_20 : decode cX12_joins 20 = .ok (.iload_n 1, 1) := by decide +kernel
theorem dX12_joins_21 : decode cX12_joins 21 = .ok (.iconst 1, 1) := by decide +kernel
theorem dX12_joins_22 : decode cX12_joins 22 = .ok (.iload 4, 2) := by decide +kernel
theorem dX12_joins_24 : decode cX12_joins 24 = .ok (.invokevirtual 193, 3) := by decide +kernel
theorem dX12_joins_27 : decode cX12_joins 27 = .ok (.imul, 1) := by decide +kernel
theorem dX12_joins_28 : decode cX12_joins 28 = .ok (.bipush 10, 2) := by decide +kernel
theorem dX12_joins_30 : decode cX12_joins 30 = .ok (.iload_n 3, 1) := by decide +kernel
theorem dX12_joins_31 : decode cX12_joins 31 = .ok (.isub, 1) := by decide +kernel
theorem dX12_joins_32 : decode cX12_joins 32 = .ok (.aload_n 0, 1) := by decide +kernel
theorem dX12_joins_33 : decode cX12_joins 33 = .ok (.iload_n 2, 1) := by decide +kernel
theorem dX12_joins_34 : decode cX12_joins 34 = .ok (.iconst 1, 1) := by decide +kernel
theorem dX12_joins_35 : decode cX12_joins 35 = .ok (.iload 4, 2) := by decide +kernel
theorem dX12_joins_37 : decode cX12_joins 37 = .ok (.invokevirtual 193, 3) := by decide +kernel
theorem dX12_joins_40 : decode cX12_joins 40 = .ok (.imul, 1) := by decide +kernel
theorem dX12_joins_41 : decode cX12_joins 41 = .ok (.iadd, 1) := by decide +kernel
theorem dX12_joins_42 : decode cX12_joins 42 = .ok (.iastore, 1) := by decide +kernel
theorem dX12_joins_43 : decode cX12_joins 43 = .ok (.iinc 4 1, 3) := by decide +kernel
theorem dX12_joins_46 : decode cX12_joins 46 = .ok (.goto (-43), 3) := by decide +kernel
theorem dX12_joins_49 : decode cX12_joins 49 = .ok (.aload_n 0, 1) := by decide +kernel
theorem dX12_joins_50 : decode cX12_joins 50 = .ok (.sipush 255, 3) := by decide +kernel
theorem dX12_joins_53 : decode cX12_joins 53 = .ok (.invokevirtual 210, 3) := by decide +kernel
theorem dX12_joins_56 : decode cX12_joins 56 = .ok (.ireturn, 1) := by decide +kernel
theorem dX12_joined_0 : decode cX12_joined 0 = .ok (.aload_n 0, 1) := by decide +kernel
theorem dX12_joined_1 : decode cX12_joined 1 = .ok (.iload_n 1, 1) := by decide +kernel
theorem dX12_joined_2 : decode cX12_joined 2 = .ok (.invokevirtual 98, 3) := by decide +kernel
theorem dX12_joined_5 : decode cX12_joined 5 = .ok (.ifCond .eq 11, 3) := by decide +kernel
theorem dX12_joined_8 : decode cX12_joined 8 = .ok (.aload_n 0, 1) := by decide +kernel
theorem dX12_joined_9 : decode cX12_joined 9 = .ok (.iload_n 2, 1) := by decide +kernel
theorem dX12_joined_10 : decode cX12_joined 10 = .ok (.invokevirtual 98, 3) := by decide +kernel
theorem dX12_joined_13 : decode cX12_joined 13 = .ok (.ifCond .ne 9, 3) := by decide +kernel
theorem dX12_joined_16 : decode cX12_joined 16 = .ok (.aload_n 0, 1) := by decide +kernel
theorem dX12_joined_17 : decode cX12_joined 17 = .ok (.iconst (-1), 1) := by decide +kernel
theorem dX12_joined_18 : decode cX12_joined 18 = .ok (.invokevirtual 203, 3) := by decide +kernel
theorem dX12_joined_21 : decode cX12_joined 21 = .ok (.ireturn, 1) := by decide +kernel
theorem dX12_joined_22 : decode cX12_joined 22 = .ok (.iload_n 3, 1) := by decide +kernel
theorem dX12_joined_23 : decode cX12_joined 23 = .ok (.ifCond .lt 9, 3) := by decide +kernel
theorem dX12_joined_26 : decode cX12_joined 26 = .ok (.iload_n 3, 1) := by decide +kernel
theorem dX12_joined_27 : decode cX12_joined 27 = .ok (.bipush 10, 2) := by decide +kernel
theorem dX12_joined_29 : decode cX12_joined 29 = .ok (.if_icmp .le 12, 3) := by decide +kernel
theorem dX12_joined_32 : decode cX12_joined 32 = .ok (.aload_n 0, 1) := by decide +kernel
theorem dX12_joined_33 : decode cX12_joined 33 = .ok (.bipush (-6), 2) := by decide +kernel
theorem dX12_joined_35 : decode cX12_joined 35 = .ok (.invokevirtual 203, 3) := by decide +kernel
theorem dX12_joined_38 : decode cX12_joined 38 = .ok (.goto 10, 3) := by decide +kernel
theorem dX12_joined_41 : decode cX12_joined 41 = .ok (.aload_n 0, 1) := by decide +kernel
theorem dX12_joined_42 : decode cX12_joined 42 = .ok (.iload_n 1, 1) := by decide +kernel
theorem dX12_joined_43 : decode cX12_joined 43 = .ok (.iload_n 2, 1) := by decide +kernel
theorem dX12_joined_44 : decode cX12_joined 44 = .ok (.iload_n 3, 1) := by decide +kernel
theorem dX12_joined_45 : decode cX12_joined 45 = .ok (.invokevirtual 213, 3) := by decide +kernel
theorem dX12_joined_48 : decode cX12_joined 48 = .ok (.ireturn, 1) := by decide +kernel
theorem dX12_weights_0 : decode cX12_weights 0 = .ok (.aload_n 0, 1) := by decide +kernel
theorem dX12_weights_1 : decode cX12_weights 1 = .ok (.iload_n 1, 1) := by decide +kernel
theorem dX12_weights_2 : decode cX12_weights 2 = .ok (.invokevirtual 98, 3) := by decide +kernel
theorem dX12_weights_5 : decode cX12_weights 5 = .ok (.ifCond .eq 11, 3) := by decide +kernel
theorem dX12_weights_8 : decode cX12_weights 8 = .ok (.aload_n 0, 1) := by decide +kernel
theorem dX12_weights_9 : decode cX12_weights 9 = .ok (.iload_n 2, 1) := by decide +kernel
theorem dX12_weights_10 : decode cX12_weights 10 = .ok (.invokevirtual 98, 3) := by decide +kernel
theorem dX12_weights_13 : decode cX12_weights 13 = .ok (.ifCond .ne 9, 3) := by decide +kernel
theorem dX12_weights_16 : decode cX12_weights 16 = .ok (.aload_n 0, 1) := by decide +kernel
theorem dX12_weights_17 : decode cX12_weights 17 = .ok (.iconst (-1), 1) := by decide +kernel
theorem dX12_weights_18 : decode cX12_weights 18 = .ok (.invokevirtual 94, 3) := by decide +kernel
theorem dX12_weights_21 : decode cX12_weights 21 = .ok (.ireturn, 1) := by decide +kernel
theorem dX12_weights_22 : decode cX12_weights 22 = .ok (.iconst 0, 1) := by decide +kernel
theorem dX12_weights_23 : decode cX12_weights 23 = .ok (.istore_n 3, 1) := by decide +kernel
theorem dX12_weights_24 : decode cX12_weights 24 = .ok (.aload_n 0, 1) := by decide +kernel
theorem dX12_weights_25 : decode cX12_weights 25 = .ok (.iload_n 1, 1) := by decide +kernel
theorem dX12_weights_26 : decode cX12_weights 26 = .ok (.iload_n 2, 1) := by decide +kernel
theorem dX12_weights_27 : decode cX12_weights 27 = .ok (.iconst 0, 1) := by decide +kernel
theorem dX12_weights_28 : decode cX12_weights 28 = .ok (.invokevirtual 213, 3) := by decide +kernel
theorem dX12_weights_31 : decode cX12_weights 31 = .ok (.istore 4, 2) := by decide +kernel
theorem dX12_weights_33 : decode cX12_weights 33 = .ok (.iconst 1, 1) := by decide +kernel
theorem dX12_weights_34 : decode cX12_weights 34 = .ok (.istore 5, 2) := by decide +kernel
theorem dX12_weights_36 : decode cX12_weights 36 = .ok (.iload 5, 2) := by decide +kernel
theorem dX12_weights_38 : decode cX12_weights 38 = .ok (.bipush 10, 2) := by decide +kernel
theorem dX12_weights_40 : decode cX12_weights 40 = .ok (.if_icmp .gt 36, 3) := by decide +kernel
theorem dX12_weights_43 : decode cX12_weights 43 = .ok (.aload_n 0, 1) := by decide +kernel
theorem dX12_weights_44 : decode cX12_weights 44 = .ok (.iload_n 1, 1) := by decide +kernel
theorem dX12_weights_45 : decode cX12_weights 45 = .ok (.iload_n 2, 1) := by decide +kernel
theorem dX12_weights_46 : decode cX12_weights 46 = .ok (.iload 5, 2) := by decide +kernel
theorem dX12_weights_48 : decode cX12_weights 48 = .ok (.invokevirtual 213, 3) := by decide +kernel
theorem dX12_weights_51 : decode cX12_weights 51 = .ok (.istore 6, 2) := by decide +kernel
theorem dX12_weights_53 : decode cX12_weights 53 = .ok (.iload 6, 2) := by decide +kernel
theorem dX12_weights_55 : decode cX12_weights 55 = .ok (.iload 4, 2) := by decide +kernel
theorem dX12_weights_57 : decode cX12_weights 57 = .ok (.if_icmp .gt 6, 3) := by decide +kernel
theorem dX12_weights_60 : decode cX12_weights 60 = .ok (.goto 10, 3) := by decide +kernel
theorem dX12_weights_63 : decode cX12_weights 63 = .ok (.iload 5, 2) := by decide +kernel
theorem dX12_weights_65 : decode cX12_weights 65 = .ok (.istore_n 3, 1) := by decide +kernel
theorem dX12_weights_66 : decode cX12_weights 66 = .ok (.iload 6, 2) := by decide +kernel
theorem dX12_weights_68 : decode cX12_weights 68 = .ok (.istore 4, 2) := by decide +kernel
theorem dX12_weights_70 : decode cX12_weights 70 = .ok (.iinc 5 1, 3) := by decide +kernel
theorem dX12_weights_73 : decode cX12_weights 73 = .ok (.goto (-37), 3) := by decide +kernel
theorem dX12_weights_76 : decode cX12_weights 76 = .ok (.iload_n 3, 1) := by decide +kernel
theorem dX12_weights_77 : decode cX12_weights 77 = .ok (.ireturn, 1) := by decide +kernel
theorem dX12_heads_0 : decode cX12_heads 0 = .ok (.aload_n 0, 1) := by decide +kernel
theorem dX12_heads_1 : decode cX12_heads 1 = .ok (.iload_n 1, 1) := by decide +kernel
theorem dX12_heads_2 : decode cX12_heads 2 = .ok (.invokevirtual 129, 3) := by decide +kernel
theorem dX12_heads_5 : decode cX12_heads 5 = .ok (.ifCond .ne 9, 3) := by decide +kernel
theorem dX12_heads_8 : decode cX12_heads 8 = .ok (.aload_n 0, 1) := by decide +kernel
theorem dX12_heads_9 : decode cX12_heads 9 = .ok (.iconst (-1), 1) := by decide +kernel
theorem dX12_heads_10 : decode cX12_heads 10 = .ok (.invokevirtual 94, 3) := by decide +kernel
theorem dX12_heads_13 : decode cX12_heads 13 = .ok (.ireturn, 1) := by decide +kernel
theorem dX12_heads_14 : decode cX12_heads 14 = .ok (.aload_n 0, 1) := by decide +kernel
theorem dX12_heads_15 : decode cX12_heads 15 = .ok (.iload_n 1, 1) := by decide +kernel
theorem dX12_heads_16 : decode cX12_heads 16 = .ok (.invokevirtual 132, 3) := by decide +kernel
theorem dX12_heads_19 : decode cX12_heads 19 = .ok (.istore_n 2, 1) := by decide +kernel
theorem dX12_heads_20 : decode cX12_heads 20 = .ok (.iload_n 2, 1) := by decide +kernel
theorem dX12_heads_21 : decode cX12_heads 21 = .ok (.ifCond .ne 8, 3) := by decide +kernel
theorem dX12_heads_24 : decode cX12_heads 24 = .ok (.bipush 10, 2) := by decide +kernel
theorem dX12_heads_26 : decode cX12_heads 26 = .ok (.goto 12, 3) := by decide +kernel
theorem dX12_heads_29 : decode cX12_heads 29 = .ok (.bipush 10, 2) := by decide +kernel
theorem dX12_heads_31 : decode cX12_heads 31 = .ok (.aload_n 0, 1) := by decide +kernel
theorem dX12_heads_32 : decode cX12_heads 32 = .ok (.getfield 29, 3) := by decide +kernel
theorem dX12_heads_35 : decode cX12_heads 35 = .ok (.iload_n 1, 1) := by decide +kernel
theorem dX12_heads_36 : decode cX12_heads 36 = .ok (.iaload, 1) := by decide +kernel
theorem dX12_heads_37 : decode cX12_heads 37 = .ok (.isub, 1) := by decide +kernel
theorem dX12_heads_38 : decode cX12_heads 38 = .ok (.istore_n 3, 1) := by decide +kernel
theorem dX12_heads_39 : decode cX12_heads 39 = .ok (.iconst 0, 1) := by decide +kernel
theorem dX12_heads_40 : decode cX12_heads 40 = .ok (.istore 4, 2) := by decide +kernel
theorem dX12_heads_42 : decode cX12_heads 42 = .ok (.sipush 1000, 3) := by decide +kernel
theorem dX12_heads_45 : decode cX12_heads 45 = .ok (.istore 5, 2) := by decide +kernel
theorem dX12_heads_47 : decode cX12_heads 47 = .ok (.iload_n 2, 1) := by decide +kernel
theorem dX12_heads_48 : decode cX12_heads 48 = .ok (.istore 6, 2) := by decide +kernel
theorem dX12_heads_50 : decode cX12_heads 50 = .ok (.iload 6, 2) := by decide +kernel
theorem dX12_heads_52 : decode cX12_heads 52 = .ok (.aload_n 0, 1) := by decide +kernel
theorem dX12_heads_53 : decode cX12_heads 53 = .ok (.getfield 84, 3) := by decide +kernel
theorem dX12_heads_56 : decode cX12_heads 56 = .ok (.if_icmp .ge 42, 3) := by decide +kernel
theorem dX12_heads_59 : decode cX12_heads 59 = .ok (.iload 6, 2) := by decide +kernel
theorem dX12_heads_61 : decode cX12_heads 61 = .ok (.iload_n 2, 1) := by decide +kernel
theorem dX12_heads_62 : decode cX12_heads 62 = .ok (.if_icmp .le 23, 3) := by decide +kernel
theorem dX12_heads_65 : decode cX12_heads 65 = .ok (.iload 5, 2) := by decide +kernel
theorem dX12_heads_67 : decode cX12_heads 67 = .ok (.aload_n 0, 1) := by decide +kernel
theorem dX12_heads_68 : decode cX12_heads 68 = .ok (.getfield 29, 3) := by decide +kernel
theorem dX12_heads_71 : decode cX12_heads 71 = .ok (.aload_n 0, 1) := by decide +kernel
theorem dX12_heads_72 : decode cX12_heads 72 = .ok (.getfield 32, 3) := by decide +kernel
theorem dX12_heads_75 : decode cX12_heads 75 = .ok (.iload 6, 2) := by decide +kernel
theorem dX12_heads_77 : decode cX12_heads 77 = .ok (.iaload, 1) := by decide +kernel
theorem dX12_heads_78 : decode cX12_heads 78 = .ok (.iaload, 1) := by decide +kernel
theorem dX12_heads_79 : decode cX12_heads 79 = .ok (.imul, 1) := by decide +kernel
theorem dX12_heads_80 : decode cX12_heads 80 = .ok (.bipush 10, 2) := by decide +kernel
theorem dX12_heads_82 : decode cX12_heads 82 = .ok (.idiv, 1) := by decide +kernel
theorem dX12_heads_83 : decode cX12_heads 83 = .ok (.istore 5, 2) := by decide +kernel
theorem dX12_heads_85 : decode cX12_heads 85 = .ok (.iload 4, 2) := by decide +kernel
theorem dX12_heads_87 : decode cX12_heads 87 = .ok (.iload 5, 2) := by decide +kernel
theorem dX12_heads_89 : decode cX12_heads 89 = .ok (.iadd, 1) := by decide +kernel
theorem dX12_heads_90 : decode cX12_heads 90 = .ok (.istore 4, 2) := by decide +kernel
theorem dX12_heads_92 : decode cX12_heads 92 = .ok (.iinc 6 1, 3) := by decide +kernel
theorem dX12_heads_95 : decode cX12_heads 95 = .ok (.goto (-45), 3) := by decide +kernel
theorem dX12_heads_98 : decode cX12_heads 98 = .ok (.iload_n 3, 1) := by decide +kernel
theorem dX12_heads_99 : decode cX12_heads 99 = .ok (.iload 4, 2) := by decide +kernel
theorem dX12_heads_101 : decode cX12_heads 101 = .ok (.imul, 1) := by decide +kernel
theorem dX12_heads_102 : decode cX12_heads 102 = .ok (.ireturn, 1) := by decide +kernel
theorem dX12_agree_0 : decode cX12_agree 0 = .ok (.aload_n 0, 1) := by decide +kernel
theorem dX12_agree_1 : decode cX12_agree 1 = .ok (.iload_n 1, 1) := by decide +kernel
theorem dX12_agree_2 : decode cX12_agree 2 = .ok (.invokevirtual 98, 3) := by decide +kernel
theorem dX12_agree_5 : decode cX12_agree 5 = .ok (.ifCond .ne 9, 3) := by decide +kernel
theorem dX12_agree_8 : decode cX12_agree 8 = .ok (.aload_n 0, 1) := by decide +kernel
theorem dX12_agree_9 : decode cX12_agree 9 = .ok (.iconst (-1), 1) := by decide +kernel
theorem dX12_agree_10 : decode cX12_agree 10 = .ok (.invokevirtual 94, 3) := by decide +kernel
theorem dX12_agree_13 : decode cX12_agree 13 = .ok (.ireturn, 1) := by decide +kernel
theorem dX12_agree_14 : decode cX12_agree 14 = .ok (.aload_n 0, 1) := by decide +kernel
theorem dX12_agree_15 : decode cX12_agree 15 = .ok (.getfield 81, 3) := by decide +kernel
theorem dX12_agree_18 : decode cX12_agree 18 = .ok (.ifCond .ne 10, 3) := by decide +kernel
theorem dX12_agree_21 : decode cX12_agree 21 = .ok (.aload_n 0, 1) := by decide +kernel
theorem dX12_agree_22 : decode cX12_agree 22 = .ok (.bipush (-5), 2) := by decide +kernel
theorem dX12_agree_24 : decode cX12_agree 24 = .ok (.invokevirtual 94, 3) := by decide +kernel
theorem dX12_agree_27 : decode cX12_agree 27 = .ok (.ireturn, 1) := by decide +kernel
theorem dX12_agree_28 : decode cX12_agree 28 = .ok (.aload_n 0, 1) := by decide +kernel
theorem dX12_agree_29 : decode cX12_agree 29 = .ok (.iload_n 1, 1) := by decide +kernel
theorem dX12_agree_30 : decode cX12_agree 30 = .ok (.iconst 0, 1) := by decide +kernel
theorem dX12_agree_31 : decode cX12_agree 31 = .ok (.invokevirtual 104, 3) := by decide +kernel
theorem dX12_agree_34 : decode cX12_agree 34 = .ok (.istore_n 2, 1) := by decide +kernel
theorem dX12_agree_35 : decode cX12_agree 35 = .ok (.iconst 0, 1) := by decide +kernel
theorem dX12_agree_36 : decode cX12_agree 36 = .ok (.istore_n 3, 1) := by decide +kernel
theorem dX12_agree_37 : decode cX12_agree 37 = .ok (.iconst 0, 1) := by decide +kernel
theorem dX12_agree_38 : decode cX12_agree 38 = .ok (.istore 4, 2) := by decide +kernel
theorem dX12_agree_40 : decode cX12_agree 40 = .ok (.iload 4, 2) := by decide +kernel
theorem dX12_agree_42 : decode cX12_agree 42 = .ok (.aload_n 0, 1) := by decide +kernel
theorem dX12_agree_43 : decode cX12_agree 43 = .ok (.getfield 84, 3) := by decide +kernel
theorem dX12_agree_46 : decode cX12_agree 46 = .ok (.if_icmp .ge 64, 3) := by decide +kernel
theorem dX12_agree_49 : decode cX12_agree 49 = .ok (.iconst 0, 1) := by decide +kernel
theorem dX12_agree_50 : decode cX12_agree 50 = .ok (.istore 5, 2) := by decide +kernel
theorem dX12_agree_52 : decode cX12_agree 52 = .ok (.iconst 1, 1) := by decide +kernel
theorem dX12_agree_53 : decode cX12_agree 53 = .ok (.istore 6, 2) := by decide +kernel
theorem dX12_agree_55 : decode cX12_agree 55 = .ok (.iload 6, 2) := by decide +kernel
theorem dX12_agree_57 : decode cX12_agree 57 = .ok (.aload_n 0, 1) := by decide +kernel
theorem dX12_agree_58 : decode cX12_agree 58 = .ok (.getfield 81, 3) := by decide +kernel
theorem dX12_agree_61 : decode cX12_agree 61 = .ok (.if_icmp .ge 34, 3) := by decide +kernel
theorem dX12_agree_64 : decode cX12_agree 64 = .ok (.aload_n 0, 1) := by decide +kernel
theorem dX12_agree_65 : decode cX12_agree 65 = .ok (.iload_n 1, 1) := by decide +kernel
theorem dX12_agree_66 : decode cX12_agree 66 = .ok (.iload 4, 2) := by decide +kernel
theorem dX12_agree_68 : decode cX12_agree 68 = .ok (.iload 6, 2) := by decide +kernel
theorem dX12_agree_70 : decode cX12_agree 70 = .ok (.invokevirtual 186, 3) := by decide +kernel
theorem dX12_agree_73 : decode cX12_agree 73 = .ok (.aload_n 0, 1) := by decide +kernel
theorem dX12_agree_74 : decode cX12_agree 74 = .ok (.iload_n 1, 1) := by decide +kernel
theorem dX12_agree_75 : decode cX12_agree 75 = .ok (.iload 4, 2) := by decide +kernel
theorem dX12_agree_77 : decode cX12_agree 77 = .ok (.iload 5, 2) := by decide +kernel
theorem dX12_agree_79 : decode cX12_agree 79 = .ok (.invokevirtual 186, 3) := by decide +kernel
theorem dX12_agree_82 : decode cX12_agree 82 = .ok (.if_icmp .le 7, 3) := by decide +kernel
theorem dX12_agree_85 : decode cX12_agree 85 = .ok (.iload 6, 2) := by decide +kernel
theorem dX12_agree_87 : decode cX12_agree 87 = .ok (.istore 5, 2) := by decide +kernel
theorem dX12_agree_89 : decode cX12_agree 89 = .ok (.iinc 6 1, 3) := by decide +kernel
theorem dX12_agree_92 : decode cX12_agree 92 = .ok (.goto (-37), 3) := by decide +kernel
theorem dX12_agree_95 : decode cX12_agree 95 = .ok (.iload 5, 2) := by decide +kernel
theorem dX12_agree_97 : decode cX12_agree 97 = .ok (.iload_n 2, 1) := by decide +kernel
theorem dX12_agree_98 : decode cX12_agree 98 = .ok (.if_icmp .ne 6, 3) := by decide +kernel
theorem dX12_agree_101 : decode cX12_agree 101 = .ok (.iinc 3 1, 3) := by decide +kernel
theorem dX12_agree_104 : decode cX12_agree 104 = .ok (.iinc 4 1, 3) := by decide +kernel
theorem dX12_agree_107 : decode cX12_agree 107 = .ok (.goto (-67), 3) := by decide +kernel
theorem dX12_agree_110 : decode cX12_agree 110 = .ok (.iload_n 3, 1) := by decide +kernel
theorem dX12_agree_111 : decode cX12_agree 111 = .ok (.ireturn, 1) := by decide +kernel
theorem dX12_wrong__0 : decode cX12_wrong_ 0 = .ok (.aload_n 0, 1) := by decide +kernel
theorem dX12_wrong__1 : decode cX12_wrong_ 1 = .ok (.iload_n 1, 1) := by decide +kernel
theorem dX12_wrong__2 : decode cX12_wrong_ 2 = .ok (.invokevirtual 98, 3) := by decide +kernel
theorem dX12_wrong__5 : decode cX12_wrong_ 5 = .ok (.ifCond .ne 9, 3) := by decide +kernel
theorem dX12_wrong__8 : decode cX12_wrong_ 8 = .ok (.aload_n 0, 1) := by decide +kernel
theorem dX12_wrong__9 : decode cX12_wrong_ 9 = .ok (.iconst (-1), 1) := by decide +kernel
theorem dX12_wrong__10 : decode cX12_wrong_ 10 = .ok (.invokevirtual 94, 3) := by decide +kernel
theorem dX12_wrong__13 : decode cX12_wrong_ 13 = .ok (.ireturn, 1) := by decide +kernel
theorem dX12_wrong__14 : decode cX12_wrong_ 14 = .ok (.aload_n 0, 1) := by decide +kernel
theorem dX12_wrong__15 : decode cX12_wrong_ 15 = .ok (.getfield 81, 3) := by decide +kernel
theorem dX12_wrong__18 : decode cX12_wrong_ 18 = .ok (.ifCond .ne 10, 3) := by decide +kernel
theorem dX12_wrong__21 : decode cX12_wrong_ 21 = .ok (.aload_n 0, 1) := by decide +kernel
theorem dX12_wrong__22 : decode cX12_wrong_ 22 = .ok (.bipush (-5), 2) := by decide +kernel
theorem dX12_wrong__24 : decode cX12_wrong_ 24 = .ok (.invokevirtual 94, 3) := by decide +kernel
theorem dX12_wrong__27 : decode cX12_wrong_ 27 = .ok (.ireturn, 1) := by decide +kernel
theorem dX12_wrong__28 : decode cX12_wrong_ 28 = .ok (.aload_n 0, 1) := by decide +kernel
theorem dX12_wrong__29 : decode cX12_wrong_ 29 = .ok (.aload_n 0, 1) := by decide +kernel
theorem dX12_wrong__30 : decode cX12_wrong_ 30 = .ok (.invokevirtual 200, 3) := by decide +kernel
theorem dX12_wrong__33 : decode cX12_wrong_ 33 = .ok (.invokevirtual 101, 3) := by decide +kernel
theorem dX12_wrong__36 : decode cX12_wrong_ 36 = .ok (.aload_n 0, 1) := by decide +kernel
theorem dX12_wrong__37 : decode cX12_wrong_ 37 = .ok (.aload_n 0, 1) := by decide +kernel
theorem dX12_wrong__38 : decode cX12_wrong_ 38 = .ok (.iload_n 1, 1) := by decide +kernel
theorem dX12_wrong__39 : decode cX12_wrong_ 39 = .ok (.iload_n 2, 1) := by decide +kernel
theorem dX12_wrong__40 : decode cX12_wrong_ 40 = .ok (.invokevirtual 104, 3) := by decide +kernel
theorem dX12_wrong__43 : decode cX12_wrong_ 43 = .ok (.invokevirtual 101, 3) := by decide +kernel
theorem dX12_wrong__46 : decode cX12_wrong_ 46 = .ok (.isub, 1) := by decide +kernel
theorem dX12_wrong__47 : decode cX12_wrong_ 47 = .ok (.ireturn, 1) := by decide +kernel
theorem dX12_lost_0 : decode cX12_lost 0 = .ok (.aload_n 0, 1) := by decide +kernel
theorem dX12_lost_1 : decode cX12_lost 1 = .ok (.iload_n 1, 1) := by decide +kernel
theorem dX12_lost_2 : decode cX12_lost 2 = .ok (.invokevirtual 98, 3) := by decide +kernel
theorem dX12_lost_5 : decode cX12_lost 5 = .ok (.ifCond .ne 9, 3) := by decide +kernel
theorem dX12_lost_8 : decode cX12_lost 8 = .ok (.aload_n 0, 1) := by decide +kernel
theorem dX12_lost_9 : decode cX12_lost 9 = .ok (.iconst (-1), 1) := by decide +kernel
theorem dX12_lost_10 : decode cX12_lost 10 = .ok (.invokevirtual 94, 3) := by decide +kernel
theorem dX12_lost_13 : decode cX12_lost 13 = .ok (.ireturn, 1) := by decide +kernel
theorem dX12_lost_14 : decode cX12_lost 14 = .ok (.aload_n 0, 1) := by decide +kernel
theorem dX12_lost_15 : decode cX12_lost 15 = .ok (.getfield 81, 3) := by decide +kernel
theorem dX12_lost_18 : decode cX12_lost 18 = .ok (.iload_n 2, 1) := by decide +kernel
theorem dX12_lost_19 : decode cX12_lost 19 = .ok (.if_icmp .ge 10, 3) := by decide +kernel
theorem dX12_lost_22 : decode cX12_lost 22 = .ok (.aload_n 0, 1) := by decide +kernel
theorem dX12_lost_23 : decode cX12_lost 23 = .ok (.bipush (-5), 2) := by decide +kernel
theorem dX12_lost_25 : decode cX12_lost 25 = .ok (.invokevirtual 94, 3) := by decide +kernel
theorem dX12_lost_28 : decode cX12_lost 28 = .ok (.ireturn, 1) := by decide +kernel
theorem dX12_lost_29 : decode cX12_lost 29 = .ok (.iload_n 2, 1) := by decide +kernel
theorem dX12_lost_30 : decode cX12_lost 30 = .ok (.iconst 1, 1) := by decide +kernel
theorem dX12_lost_31 : decode cX12_lost 31 = .ok (.if_icmp .lt 9, 3) := by decide +kernel
theorem dX12_lost_34 : decode cX12_lost 34 = .ok (.iload_n 2, 1) := by decide +kernel
theorem dX12_lost_35 : decode cX12_lost 35 = .ok (.bipush 8, 2) := by decide +kernel
theorem dX12_lost_37 : decode cX12_lost 37 = .ok (.if_icmp .le 10, 3) := by decide +kernel
theorem dX12_lost_40 : decode cX12_lost 40 = .ok (.aload_n 0, 1) := by decide +kernel
theorem dX12_lost_41 : decode cX12_lost 41 = .ok (.bipush (-6), 2) := by decide +kernel
theorem dX12_lost_43 : decode cX12_lost 43 = .ok (.invokevirtual 94, 3) := by decide +kernel
theorem dX12_lost_46 : decode cX12_lost 46 = .ok (.ireturn, 1) := by decide +kernel
theorem dX12_lost_47 : decode cX12_lost 47 = .ok (.iconst 0, 1) := by decide +kernel
theorem dX12_lost_48 : decode cX12_lost 48 = .ok (.istore_n 3, 1) := by decide +kernel
theorem dX12_lost_49 : decode cX12_lost 49 = .ok (.iconst 0, 1) := by decide +kernel
theorem dX12_lost_50 : decode cX12_lost 50 = .ok (.istore 4, 2) := by decide +kernel
theorem dX12_lost_52 : decode cX12_lost 52 = .ok (.iconst 0, 1) := by decide +kernel
theorem dX12_lost_53 : decode cX12_lost 53 = .ok (.istore 5, 2) := by decide +kernel
theorem dX12_lost_55 : decode cX12_lost 55 = .ok (.iload 5, 2) := by decide +kernel
theorem dX12_lost_57 : decode cX12_lost 57 = .ok (.iload_n 2, 1) := by decide +kernel
theorem dX12_lost_58 : decode cX12_lost 58 = .ok (.if_icmp .ge 90, 3) := by decide +kernel
theorem dX12_lost_61 : decode cX12_lost 61 = .ok (.iconst (-1), 1) := by decide +kernel
theorem dX12_lost_62 : decode cX12_lost 62 = .ok (.istore 6, 2) := by decide +kernel
theorem dX12_lost_64 : decode cX12_lost 64 = .ok (.iconst 0, 1) := by decide +kernel
theorem dX12_lost_65 : decode cX12_lost 65 = .ok (.istore 7, 2) := by decide +kernel
theorem dX12_lost_67 : decode cX12_lost 67 = .ok (.iload 7, 2) := by decide +kernel
theorem dX12_lost_69 : decode cX12_lost 69 = .ok (.aload_n 0, 1) := by decide +kernel
theorem dX12_lost_70 : decode cX12_lost 70 = .ok (.getfield 81, 3) := by decide +kernel
theorem dX12_lost_73 : decode cX12_lost 73 = .ok (.if_icmp .ge 51, 3) := by decide +kernel
theorem dX12_lost_76 : decode cX12_lost 76 = .ok (.iload_n 3, 1) := by decide +kernel
theorem dX12_lost_77 : decode cX12_lost 77 = .ok (.iload 7, 2) := by decide +kernel
theorem dX12_lost_79 : decode cX12_lost 79 = .ok (.ishr, 1) := by decide +kernel
theorem dX12_lost_80 : decode cX12_lost 80 = .ok (.iconst 1, 1) := by decide +kernel
theorem dX12_lost_81 : decode cX12_lost 81 = .ok (.iand, 1) := by decide +kernel
theorem dX12_lost_82 : decode cX12_lost 82 = .ok (.iconst 1, 1) := by decide +kernel
theorem dX12_lost_83 : decode cX12_lost 83 = .ok (.if_icmp .ne 6, 3) := by decide +kernel
theorem dX12_lost_86 : decode cX12_lost 86 = .ok (.goto 32, 3) := by decide +kernel
theorem dX12_lost_89 : decode cX12_lost 89 = .ok (.iload 6, 2) := by decide +kernel
theorem dX12_lost_91 : decode cX12_lost 91 = .ok (.iconst (-1), 1) := by decide +kernel
theorem dX12_lost_92 : decode cX12_lost 92 = .ok (.if_icmp .eq 22, 3) := by decide +kernel
theorem dX12_lost_95 : decode cX12_lost 95 = .ok (.aload_n 0, 1) := by decide +kernel
theorem dX12_lost_96 : decode cX12_lost 96 = .ok (.iload_n 1, 1) := by decide +kernel
theorem dX12_lost_97 : decode cX12_lost 97 = .ok (.iconst 1, 1) := by decide +kernel
theorem dX12_lost_98 : decode cX12_lost 98 = .ok (.iload 7, 2) := by decide +kernel
theorem dX12_lost_100 : decode cX12_lost 100 = .ok (.invokevirtual 193, 3) := by decide +kernel
theorem dX12_lost_103 : decode cX12_lost 103 = .ok (.aload_n 0, 1) := by decide +kernel
theorem dX12_lost_104 : decode cX12_lost 104 = .ok (.iload_n 1, 1) := by decide +kernel
theorem dX12_lost_105 : decode cX12_lost 105 = .ok (.iconst 1, 1) := by decide +kernel
theorem dX12_lost_106 : decode cX12_lost 106 = .ok (.iload 6, 2) := by decide +kernel
theorem dX12_lost_108 : decode cX12_lost 108 = .ok (.invokevirtual 193, 3) := by decide +kernel
theorem dX12_lost_111 : decode cX12_lost 111 = .ok (.if_icmp .le 7, 3) := by decide +kernel
theorem dX12_lost_114 : decode cX12_lost 114 = .ok (.iload 7, 2) := by decide +kernel
theorem dX12_lost_116 : decode cX12_lost 116 = .ok (.istore 6, 2) := by decide +kernel
theorem dX12_lost_118 : decode cX12_lost 118 = .ok (.iinc 7 1, 3) := by decide +kernel
theorem dX12_lost_121 : decode cX12_lost 121 = .ok (.goto (-54), 3) := by decide +kernel
theorem dX12_lost_124 : decode cX12_lost 124 = .ok (.iload_n 3, 1) := by decide +kernel
theorem dX12_lost_125 : decode cX12_lost 125 = .ok (.iconst 1, 1) := by decide +kernel
theorem dX12_lost_126 : decode cX12_lost 126 = .ok (.iload 6, 2) := by decide +kernel
theorem dX12_lost_128 : decode cX12_lost 128 = .ok (.ishl, 1) := by decide +kernel
theorem dX12_lost_129 : decode cX12_lost 129 = .ok (.ior, 1) := by decide +kernel
theorem dX12_lost_130 : decode cX12_lost 130 = .ok (.istore_n 3, 1) := by decide +kernel
theorem dX12_lost_131 : decode cX12_lost 131 = .ok (.iload 4, 2) := by decide +kernel
theorem dX12_lost_133 : decode cX12_lost 133 = .ok (.aload_n 0, 1) := by decide +kernel
theorem dX12_lost_134 : decode cX12_lost 134 = .ok (.iload 6, 2) := by decide +kernel
theorem dX12_lost_136 : decode cX12_lost 136 = .ok (.invokevirtual 101, 3) := by decide +kernel
theorem dX12_lost_139 : decode cX12_lost 139 = .ok (.iadd, 1) := by decide +kernel
theorem dX12_lost_140 : decode cX12_lost 140 = .ok (.istore 4, 2) := by decide +kernel
theorem dX12_lost_142 : decode cX12_lost 142 = .ok (.iinc 5 1, 3) := by decide +kernel
theorem dX12_lost_145 : decode cX12_lost 145 = .ok (.goto (-90), 3) := by decide +kernel
theorem dX12_lost_148 : decode cX12_lost 148 = .ok (.iload_n 2, 1) := by decide +kernel
theorem dX12_lost_149 : decode cX12_lost 149 = .ok (.aload_n 0, 1) := by decide +kernel
theorem dX12_lost_150 : decode cX12_lost 150 = .ok (.aload_n 0, 1) := by decide +kernel
theorem dX12_lost_151 : decode cX12_lost 151 = .ok (.invokevirtual 200, 3) := by decide +kernel
theorem dX12_lost_154 : decode cX12_lost 154 = .ok (.invokevirtual 101, 3) := by decide +kernel
theorem dX12_lost_157 : decode cX12_lost 157 = .ok (.imul, 1) := by decide +kernel
theorem dX12_lost_158 : decode cX12_lost 158 = .ok (.iload 4, 2) := by decide +kernel
theorem dX12_lost_160 : decode cX12_lost 160 = .ok (.isub, 1) := by decide +kernel
theorem dX12_lost_161 : decode cX12_lost 161 = .ok (.ireturn, 1) := by decide +kernel
theorem dX12_turned_0 : decode cX12_turned 0 = .ok (.aload_n 0, 1) := by decide +kernel
theorem dX12_turned_1 : decode cX12_turned 1 = .ok (.iload_n 1, 1) := by decide +kernel
theorem dX12_turned_2 : decode cX12_turned 2 = .ok (.invokevirtual 98, 3) := by decide +kernel
theorem dX12_turned_5 : decode cX12_turned 5 = .ok (.ifCond .ne 9, 3) := by decide +kernel
theorem dX12_turned_8 : decode cX12_turned 8 = .ok (.aload_n 0, 1) := by decide +kernel
theorem dX12_turned_9 : decode cX12_turned 9 = .ok (.iconst (-1), 1) := by decide +kernel
theorem dX12_turned_10 : decode cX12_turned 10 = .ok (.invokevirtual 94, 3) := by decide +kernel
theorem dX12_turned_13 : decode cX12_turned 13 = .ok (.ireturn, 1) := by decide +kernel
theorem dX12_turned_14 : decode cX12_turned 14 = .ok (.iconst 0, 1) := by decide +kernel
theorem dX12_turned_15 : decode cX12_turned 15 = .ok (.istore_n 2, 1) := by decide +kernel
theorem dX12_turned_16 : decode cX12_turned 16 = .ok (.iconst 0, 1) := by decide +kernel
theorem dX12_turned_17 : decode cX12_turned 17 = .ok (.istore_n 3, 1) := by decide +kernel
theorem dX12_turned_18 : decode cX12_turned 18 = .ok (.iload_n 3, 1) := by decide +kernel
theorem dX12_turned_19 : decode cX12_turned 19 = .ok (.aload_n 0, 1) := by decide +kernel
theorem dX12_turned_20 : decode cX12_turned 20 = .ok (.getfield 84, 3) := by decide +kernel
theorem dX12_turned_23 : decode cX12_turned 23 = .ok (.if_icmp .ge 32, 3) := by decide +kernel
theorem dX12_turned_26 : decode cX12_turned 26 = .ok (.aload_n 0, 1) := by decide +kernel
theorem dX12_turned_27 : decode cX12_turned 27 = .ok (.getfield 81, 3) := by decide +kernel
theorem dX12_turned_30 : decode cX12_turned 30 = .ok (.ifCond .le 25, 3) := by decide +kernel
theorem dX12_turned_33 : decode cX12_turned 33 = .ok (.aload_n 0, 1) := by decide +kernel
theorem dX12_turned_34 : decode cX12_turned 34 = .ok (.iload_n 3, 1) := by decide +kernel
theorem dX12_turned_35 : decode cX12_turned 35 = .ok (.putfield 72, 3) := by decide +kernel
theorem dX12_turned_38 : decode cX12_turned 38 = .ok (.iload_n 2, 1) := by decide +kernel
theorem dX12_turned_39 : decode cX12_turned 39 = .ok (.iconst 1, 1) := by decide +kernel
theorem dX12_turned_40 : decode cX12_turned 40 = .ok (.aload_n 0, 1) := by decide +kernel
theorem dX12_turned_41 : decode cX12_turned 41 = .ok (.iload_n 1, 1) := by decide +kernel
theorem dX12_turned_42 : decode cX12_turned 42 = .ok (.iconst 1, 1) := by decide +kernel
theorem dX12_turned_43 : decode cX12_turned 43 = .ok (.invokevirtual 104, 3) := by decide +kernel
theorem dX12_turned_46 : decode cX12_turned 46 = .ok (.ishl, 1) := by decide +kernel
theorem dX12_turned_47 : decode cX12_turned 47 = .ok (.ior, 1) := by decide +kernel
theorem dX12_turned_48 : decode cX12_turned 48 = .ok (.istore_n 2, 1) := by decide +kernel
theorem dX12_turned_49 : decode cX12_turned 49 = .ok (.iinc 3 1, 3) := by decide +kernel
theorem dX12_turned_52 : decode cX12_turned 52 = .ok (.goto (-34), 3) := by decide +kernel
theorem dX12_turned_55 : decode cX12_turned 55 = .ok (.aload_n 0, 1) := by decide +kernel
theorem dX12_turned_56 : decode cX12_turned 56 = .ok (.iconst (-1), 1) := by decide +kernel
theorem dX12_turned_57 : decode cX12_turned 57 = .ok (.putfield 72, 3) := by decide +kernel
theorem dX12_turned_60 : decode cX12_turned 60 = .ok (.iload_n 2, 1) := by decide +kernel
theorem dX12_turned_61 : decode cX12_turned 61 = .ok (.ireturn, 1) := by decide +kernel
theorem dX12_piece_0 : decode cX12_piece 0 = .ok (.iconst (-1), 1) := by decide +kernel
theorem dX12_piece_1 : decode cX12_piece 1 = .ok (.istore_n 1, 1) := by decide +kernel
theorem dX12_piece_2 : decode cX12_piece 2 = .ok (.iconst 0, 1) := by decide +kernel
theorem dX12_piece_3 : decode cX12_piece 3 = .ok (.istore_n 2, 1) := by decide +kernel
theorem dX12_piece_4 : decode cX12_piece 4 = .ok (.iconst 0, 1) := by decide +kernel
theorem dX12_piece_5 : decode cX12_piece 5 = .ok (.istore_n 3, 1) := by decide +kernel
theorem dX12_piece_6 : decode cX12_piece 6 = .ok (.iload_n 3, 1) := by decide +kernel
theorem dX12_piece_7 : decode cX12_piece 7 = .ok (.iconst 3, 1) := by decide +kernel
theorem dX12_piece_8 : decode cX12_piece 8 = .ok (.if_icmp .ge 74, 3) := by decide +kernel
theorem dX12_piece_11 : decode cX12_piece 11 = .ok (.iconst 0, 1) := by decide +kernel
theorem dX12_piece_12 : decode cX12_piece 12 = .ok (.istore 4, 2) := by decide +kernel
theorem dX12_piece_14 : decode cX12_piece 14 = .ok (.iload 4, 2) := by decide +kernel
theorem dX12_piece_16 : decode cX12_piece 16 = .ok (.aload_n 0, 1) := by decide +kernel
theorem dX12_piece_17 : decode cX12_piece 17 = .ok (.getfield 81, 3) := by decide +kernel
theorem dX12_piece_20 : decode cX12_piece 20 = .ok (.if_icmp .ge 28, 3) := by decide +kernel
theorem dX12_piece_23 : decode cX12_piece 23 = .ok (.aload_n 0, 1) := by decide +kernel
theorem dX12_piece_24 : decode cX12_piece 24 = .ok (.getfield 75, 3) := by decide +kernel
theorem dX12_piece_27 : decode cX12_piece 27 = .ok (.iload 4, 2) := by decide +kernel
theorem dX12_piece_29 : decode cX12_piece 29 = .ok (.aload_n 0, 1) := by decide +kernel
theorem dX12_piece_30 : decode cX12_piece 30 = .ok (.getfield 20, 3) := by decide +kernel
theorem dX12_piece_33 : decode cX12_piece 33 = .ok (.bipush 6, 2) := by decide +kernel
theorem dX12_piece_35 : decode cX12_piece 35 = .ok (.iload 4, 2) := by decide +kernel
theorem dX12_piece_37 : decode cX12_piece 37 = .ok (.imul, 1) := by decide +kernel
theorem dX12_piece_38 : decode cX12_piece 38 = .ok (.iload_n 3, 1) := by decide +kernel
theorem dX12_piece_39 : decode cX12_piece 39 = .ok (.iadd, 1) := by decide +kernel
theorem dX12_piece_40 : decode cX12_piece 40 = .ok (.iaload, 1) := by decide +kernel
theorem dX12_piece_41 : decode cX12_piece 41 = .ok (.iastore, 1) := by decide +kernel
theorem dX12_piece_42 : decode cX12_piece 42 = .ok (.iinc 4 1, 3) := by decide +kernel
theorem dX12_piece_45 : decode cX12_piece 45 = .ok (.goto (-31), 3) := by decide +kernel
theorem dX12_piece_48 : decode cX12_piece 48 = .ok (.aload_n 0, 1) := by decide +kernel
theorem dX12_piece_49 : decode cX12_piece 49 = .ok (.sipush 255, 3) := by decide +kernel
theorem dX12_piece_52 : decode cX12_piece 52 = .ok (.invokevirtual 210, 3) := by decide +kernel
theorem dX12_piece_55 : decode cX12_piece 55 = .ok (.istore 4, 2) := by decide +kernel
theorem dX12_piece_57 : decode cX12_piece 57 = .ok (.iload_n 1, 1) := by decide +kernel
theorem dX12_piece_58 : decode cX12_piece 58 = .ok (.iconst (-1), 1) := by decide +kernel
theorem dX12_piece_59 : decode cX12_piece 59 = .ok (.if_icmp .eq 12, 3) := by decide +kernel
theorem dX12_piece_62 : decode cX12_piece 62 = .ok (.iload 4, 2) := by decide +kernel
theorem dX12_piece_64 : decode cX12_piece 64 = .ok (.iload_n 2, 1) := by decide +kernel
theorem dX12_piece_65 : decode cX12_piece 65 = .ok (.if_icmp .gt 6, 3) := by decide +kernel
theorem dX12_piece_68 : decode cX12_piece 68 = .ok (.goto 8, 3) := by decide +kernel
theorem dX12_piece_71 : decode cX12_piece 71 = .ok (.iload_n 3, 1) := by decide +kernel
theorem dX12_piece_72 : decode cX12_piece 72 = .ok (.istore_n 1, 1) := by decide +kernel
theorem dX12_piece_73 : decode cX12_piece 73 = .ok (.iload 4, 2) := by decide +kernel
theorem dX12_piece_75 : decode cX12_piece 75 = .ok (.istore_n 2, 1) := by decide +kernel
theorem dX12_piece_76 : decode cX12_piece 76 = .ok (.iinc 3 1, 3) := by decide +kernel
theorem dX12_piece_79 : decode cX12_piece 79 = .ok (.goto (-73), 3) := by decide +kernel
theorem dX12_piece_82 : decode cX12_piece 82 = .ok (.iload_n 1, 1) := by decide +kernel
theorem dX12_piece_83 : decode cX12_piece 83 = .ok (.ireturn, 1) := by decide +kernel
theorem dX12_comesBy_0 : decode cX12_comesBy 0 = .ok (.iconst 1, 1) := by decide +kernel
theorem dX12_comesBy_1 : decode cX12_comesBy 1 = .ok (.istore_n 3, 1) := by decide +kernel
theorem dX12_comesBy_2 : decode cX12_comesBy 2 = .ok (.iconst 2, 1) := by decide +kernel
theorem dX12_comesBy_3 : decode cX12_comesBy 3 = .ok (.istore 4, 2) := by decide +kernel
theorem dX12_comesBy_5 : decode cX12_comesBy 5 = .ok (.iload 4, 2) := by decide +kernel
theorem dX12_comesBy_7 : decode cX12_comesBy 7 = .ok (.iload_n 1, 1) := by decide +kernel
theorem dX12_comesBy_8 : decode cX12_comesBy 8 = .ok (.if_icmp .ge 14, 3) := by decide +kernel
theorem dX12_comesBy_11 : decode cX12_comesBy 11 = .ok (.iload_n 3, 1) := by decide +kernel
theorem dX12_comesBy_12 : decode cX12_comesBy 12 = .ok (.iload 4, 2) := by decide +kernel
theorem dX12_comesBy_14 : decode cX12_comesBy 14 = .ok (.imul, 1) := by decide +kernel
theorem dX12_comesBy_15 : decode cX12_comesBy 15 = .ok (.istore_n 3, 1) := by decide +kernel
theorem dX12_comesBy_16 : decode cX12_comesBy 16 = .ok (.iinc 4 1, 3) := by decide +kernel
theorem dX12_comesBy_19 : decode cX12_comesBy 19 = .ok (.goto (-14), 3) := by decide +kernel
theorem dX12_comesBy_22 : decode cX12_comesBy 22 = .ok (.iload_n 2, 1) := by decide +kernel
theorem dX12_comesBy_23 : decode cX12_comesBy 23 = .ok (.ifCond .ne 5, 3) := by decide +kernel
theorem dX12_comesBy_26 : decode cX12_comesBy 26 = .ok (.iload_n 3, 1) := by decide +kernel
theorem dX12_comesBy_27 : decode cX12_comesBy 27 = .ok (.ireturn, 1) := by decide +kernel
theorem dX12_comesBy_28 : decode cX12_comesBy 28 = .ok (.iconst 0, 1) := by decide +kernel
theorem dX12_comesBy_29 : decode cX12_comesBy 29 = .ok (.istore 4, 2) := by decide +kernel
theorem dX12_comesBy_31 : decode cX12_comesBy 31 = .ok (.iload_n 2, 1) := by decide +kernel
theorem dX12_comesBy_32 : decode cX12_comesBy 32 = .ok (.istore 5, 2) := by decide +kernel
theorem dX12_comesBy_34 : decode cX12_comesBy 34 = .ok (.iload 5, 2) := by decide +kernel
theorem dX12_comesBy_36 : decode cX12_comesBy 36 = .ok (.iload_n 1, 1) := by decide +kernel
theorem dX12_comesBy_37 : decode cX12_comesBy 37 = .ok (.if_icmp .ge 20, 3) := by decide +kernel
theorem dX12_comesBy_40 : decode cX12_comesBy 40 = .ok (.iload 4, 2) := by decide +kernel
theorem dX12_comesBy_42 : decode cX12_comesBy 42 = .ok (.iload_n 3, 1) := by decide +kernel
theorem dX12_comesBy_43 : decode cX12_comesBy 43 = .ok (.iload 5, 2) := by decide +kernel
theorem dX12_comesBy_45 : decode cX12_comesBy 45 = .ok (.idiv, 1) := by decide +kernel
theorem dX12_comesBy_46 : decode cX12_comesBy 46 = .ok (.iload_n 2, 1) := by decide +kernel
theorem dX12_comesBy_47 : decode cX12_comesBy 47 = .ok (.imul, 1) := by decide +kernel
theorem dX12_comesBy_48 : decode cX12_comesBy 48 = .ok (.iadd, 1) := by decide +kernel
theorem dX12_comesBy_49 : decode cX12_comesBy 49 = .ok (.istore 4, 2) := by decide +kernel
theorem dX12_comesBy_51 : decode cX12_comesBy 51 = .ok (.iinc 5 1, 3) := by decide +kernel
theorem dX12_comesBy_54 : decode cX12_comesBy 54 = .ok (.goto (-20), 3) := by decide +kernel
theorem dX12_comesBy_57 : decode cX12_comesBy 57 = .ok (.iload 4, 2) := by decide +kernel
theorem dX12_comesBy_59 : decode cX12_comesBy 59 = .ok (.ireturn, 1) := by decide +kernel
theorem dX12_comes_0 : decode cX12_comes 0 = .ok (.iload_n 1, 1) := by decide +kernel
theorem dX12_comes_1 : decode cX12_comes 1 = .ok (.iconst 1, 1) := by decide +kernel
theorem dX12_comes_2 : decode cX12_comes 2 = .ok (.if_icmp .lt 18, 3) := by decide +kernel
theorem dX12_comes_5 : decode cX12_comes 5 = .ok (.iload_n 1, 1) := by decide +kernel
theorem dX12_comes_6 : decode cX12_comes 6 = .ok (.bipush 8, 2) := by decide +kernel
theorem dX12_comes_8 : decode cX12_comes 8 = .ok (.if_icmp .gt 12, 3) := by decide +kernel
theorem dX12_comes_11 : decode cX12_comes 11 = .ok (.iload_n 2, 1) := by decide +kernel
theorem dX12_comes_12 : decode cX12_comes 12 = .ok (.ifCond .lt 8, 3) := by decide +kernel
theorem dX12_comes_15 : decode cX12_comes 15 = .ok (.iload_n 2, 1) := by decide +kernel
theorem dX12_comes_16 : decode cX12_comes 16 = .ok (.iload_n 1, 1) := by decide +kernel
theorem dX12_comes_17 : decode cX12_comes 17 = .ok (.if_icmp .lt 10, 3) := by decide +kernel
theorem dX12_comes_20 : decode cX12_comes 20 = .ok (.aload_n 0, 1) := by decide +kernel
theorem dX12_comes_21 : decode cX12_comes 21 = .ok (.bipush (-6), 2) := by decide +kernel
theorem dX12_comes_23 : decode cX12_comes 23 = .ok (.invokevirtual 94, 3) := by decide +kernel
theorem dX12_comes_26 : decode cX12_comes 26 = .ok (.ireturn, 1) := by decide +kernel
theorem dX12_comes_27 : decode cX12_comes 27 = .ok (.aload_n 0, 1) := by decide +kernel
theorem dX12_comes_28 : decode cX12_comes 28 = .ok (.iload_n 1, 1) := by decide +kernel
theorem dX12_comes_29 : decode cX12_comes 29 = .ok (.iload_n 2, 1) := by decide +kernel
theorem dX12_comes_30 : decode cX12_comes 30 = .ok (.invokevirtual 216, 3) := by decide +kernel
theorem dX12_comes_33 : decode cX12_comes 33 = .ok (.ireturn, 1) := by decide +kernel
theorem dX12_lets_0 : decode cX12_lets 0 = .ok (.iload_n 1, 1) := by decide +kernel
theorem dX12_lets_1 : decode cX12_lets 1 = .ok (.iconst 1, 1) := by decide +kernel
theorem dX12_lets_2 : decode cX12_lets 2 = .ok (.if_icmp .lt 9, 3) := by decide +kernel
theorem dX12_lets_5 : decode cX12_lets 5 = .ok (.iload_n 1, 1) := by decide +kernel
theorem dX12_lets_6 : decode cX12_lets 6 = .ok (.bipush 8, 2) := by decide +kernel
theorem dX12_lets_8 : decode cX12_lets 8 = .ok (.if_icmp .le 10, 3) := by decide +kernel
theorem dX12_lets_11 : decode cX12_lets 11 = .ok (.aload_n 0, 1) := by decide +kernel
theorem dX12_lets_12 : decode cX12_lets 12 = .ok (.bipush (-6), 2) := by decide +kernel
theorem dX12_lets_14 : decode cX12_lets 14 = .ok (.invokevirtual 94, 3) := by decide +kernel
theorem dX12_lets_17 : decode cX12_lets 17 = .ok (.ireturn, 1) := by decide +kernel
theorem dX12_lets_18 : decode cX12_lets 18 = .ok (.iconst 0, 1) := by decide +kernel
theorem dX12_lets_19 : decode cX12_lets 19 = .ok (.istore_n 2, 1) := by decide +kernel
theorem dX12_lets_20 : decode cX12_lets 20 = .ok (.iconst 1, 1) := by decide +kernel
theorem dX12_lets_21 : decode cX12_lets 21 = .ok (.istore_n 3, 1) := by decide +kernel
theorem dX12_lets_22 : decode cX12_lets 22 = .ok (.iload_n 3, 1) := by decide +kernel
theorem dX12_lets_23 : decode cX12_lets 23 = .ok (.iload_n 1, 1) := by decide +kernel
theorem dX12_lets_24 : decode cX12_lets 24 = .ok (.if_icmp .ge 26, 3) := by decide +kernel
theorem dX12_lets_27 : decode cX12_lets 27 = .ok (.aload_n 0, 1) := by decide +kernel
theorem dX12_lets_28 : decode cX12_lets 28 = .ok (.iload_n 1, 1) := by decide +kernel
theorem dX12_lets_29 : decode cX12_lets 29 = .ok (.iload_n 3, 1) := by decide +kernel
theorem dX12_lets_30 : decode cX12_lets 30 = .ok (.invokevirtual 216, 3) := by decide +kernel
theorem dX12_lets_33 : decode cX12_lets 33 = .ok (.aload_n 0, 1) := by decide +kernel
theorem dX12_lets_34 : decode cX12_lets 34 = .ok (.iload_n 1, 1) := by decide +kernel
theorem dX12_lets_35 : decode cX12_lets 35 = .ok (.iload_n 2, 1) := by decide +kernel
theorem dX12_lets_36 : decode cX12_lets 36 = .ok (.invokevirtual 216, 3) := by decide +kernel
theorem dX12_lets_39 : decode cX12_lets 39 = .ok (.if_icmp .le 5, 3) := by decide +kernel
theorem dX12_lets_42 : decode cX12_lets 42 = .ok (.iload_n 3, 1) := by decide +kernel
theorem dX12_lets_43 : decode cX12_lets 43 = .ok (.istore_n 2, 1) := by decide +kernel
theorem dX12_lets_44 : decode cX12_lets 44 = .ok (.iinc 3 1, 3) := by decide +kernel
theorem dX12_lets_47 : decode cX12_lets 47 = .ok (.goto (-25), 3) := by decide +kernel
theorem dX12_lets_50 : decode cX12_lets 50 = .ok (.iload_n 2, 1) := by decide +kernel
theorem dX12_lets_51 : decode cX12_lets 51 = .ok (.ireturn, 1) := by decide +kernel
theorem dX12_ranked_0 : decode cX12_ranked 0 = .ok (.iconst 0, 1) := by decide +kernel
theorem dX12_ranked_1 : decode cX12_ranked 1 = .ok (.istore_n 2, 1) := by decide +kernel
theorem dX12_ranked_2 : decode cX12_ranked 2 = .ok (.iconst 0, 1) := by decide +kernel
theorem dX12_ranked_3 : decode cX12_ranked 3 = .ok (.istore_n 3, 1) := by decide +kernel
theorem dX12_ranked_4 : decode cX12_ranked 4 = .ok (.iload_n 3, 1) := by decide +kernel
theorem dX12_ranked_5 : decode cX12_ranked 5 = .ok (.aload_n 0, 1) := by decide +kernel
theorem dX12_ranked_6 : decode cX12_ranked 6 = .ok (.getfield 81, 3) := by decide +kernel
theorem dX12_ranked_9 : decode cX12_ranked 9 = .ok (.if_icmp .ge 66, 3) := by decide +kernel
theorem dX12_ranked_12 : decode cX12_ranked 12 = .ok (.iload_n 3, 1) := by decide +kernel
theorem dX12_ranked_13 : decode cX12_ranked 13 = .ok (.aload_n 0, 1) := by decide +kernel
theorem dX12_ranked_14 : decode cX12_ranked 14 = .ok (.getfield 47, 3) := by decide +kernel
theorem dX12_ranked_17 : decode cX12_ranked 17 = .ok (.iload_n 1, 1) := by decide +kernel
theorem dX12_ranked_18 : decode cX12_ranked 18 = .ok (.iaload, 1) := by decide +kernel
theorem dX12_ranked_19 : decode cX12_ranked 19 = .ok (.if_icmp .lt 5, 3) := by decide +kernel
theorem dX12_ranked_22 : decode cX12_ranked 22 = .ok (.iload_n 3, 1) := by decide +kernel
theorem dX12_ranked_23 : decode cX12_ranked 23 = .ok (.ireturn, 1) := by decide +kernel
theorem dX12_ranked_24 : decode cX12_ranked 24 = .ok (.aload_n 0, 1) := by decide +kernel
theorem dX12_ranked_25 : decode cX12_ranked 25 = .ok (.iload_n 1, 1) := by decide +kernel
theorem dX12_ranked_26 : decode cX12_ranked 26 = .ok (.iload_n 3, 1) := by decide +kernel
theorem dX12_ranked_27 : decode cX12_ranked 27 = .ok (.invokevirtual 114, 3) := by decide +kernel
theorem dX12_ranked_30 : decode cX12_ranked 30 = .ok (.istore 4, 2) := by decide +kernel
theorem dX12_ranked_32 : decode cX12_ranked 32 = .ok (.aload_n 0, 1) := by decide +kernel
theorem dX12_ranked_33 : decode cX12_ranked 33 = .ok (.iload 4, 2) := by decide +kernel
theorem dX12_ranked_35 : decode cX12_ranked 35 = .ok (.invokevirtual 126, 3) := by decide +kernel
theorem dX12_ranked_38 : decode cX12_ranked 38 = .ok (.ifCond .eq 13, 3) := by decide +kernel
theorem dX12_ranked_41 : decode cX12_ranked 41 = .ok (.iload_n 2, 1) := by decide +kernel
theorem dX12_ranked_42 : decode cX12_ranked 42 = .ok (.iload 4, 2) := by decide +kernel
theorem dX12_ranked_44 : decode cX12_ranked 44 = .ok (.ishr, 1) := by decide +kernel
theorem dX12_ranked_45 : decode cX12_ranked 45 = .ok (.iconst 1, 1) := by decide +kernel
theorem dX12_ranked_46 : decode cX12_ranked 46 = .ok (.iand, 1) := by decide +kernel
theorem dX12_ranked_47 : decode cX12_ranked 47 = .ok (.iconst 1, 1) := by decide +kernel
theorem dX12_ranked_48 : decode cX12_ranked 48 = .ok (.if_icmp .ne 5, 3) := by decide +kernel
theorem dX12_ranked_51 : decode cX12_ranked 51 = .ok (.iload_n 3, 1) := by decide +kernel
theorem dX12_ranked_52 : decode cX12_ranked 52 = .ok (.ireturn, 1) := by decide +kernel
theorem dX12_ranked_53 : decode cX12_ranked 53 = .ok (.iload_n 2, 1) := by decide +kernel
theorem dX12_ranked_54 : decode cX12_ranked 54 = .ok (.iconst 1, 1) := by decide +kernel
theorem dX12_ranked_55 : decode cX12_ranked 55 = .ok (.iload 4, 2) := by decide +kernel
theorem dX12_ranked_57 : decode cX12_ranked 57 = .ok (.ishl, 1) := by decide +kernel
theorem dX12_ranked_58 : decode cX12_ranked 58 = .ok (.ior, 1) := by decide +kernel
theorem dX12_ranked_59 : decode cX12_ranked 59 = .ok (.istore_n 2, 1) := by decide +kernel
theorem dX12_ranked_60 : decode cX12_ranked 60 = .ok (.aload_n 0, 1) := by decide +kernel
theorem dX12_ranked_61 : decode cX12_ranked 61 = .ok (.getfield 75, 3) := by decide +kernel
theorem dX12_ranked_64 : decode cX12_ranked 64 = .ok (.iload 4, 2) := by decide +kernel
theorem dX12_ranked_66 : decode cX12_ranked 66 = .ok (.iload_n 3, 1) := by decide +kernel
theorem dX12_ranked_67 : decode cX12_ranked 67 = .ok (.ineg, 1) := by decide +kernel
theorem dX12_ranked_68 : decode cX12_ranked 68 = .ok (.iastore, 1) := by decide +kernel
theorem dX12_ranked_69 : decode cX12_ranked 69 = .ok (.iinc 3 1, 3) := by decide +kernel
theorem dX12_ranked_72 : decode cX12_ranked 72 = .ok (.goto (-68), 3) := by decide +kernel
theorem dX12_ranked_75 : decode cX12_ranked 75 = .ok (.aload_n 0, 1) := by decide +kernel
theorem dX12_ranked_76 : decode cX12_ranked 76 = .ok (.getfield 47, 3) := by decide +kernel
theorem dX12_ranked_79 : decode cX12_ranked 79 = .ok (.iload_n 1, 1) := by decide +kernel
theorem dX12_ranked_80 : decode cX12_ranked 80 = .ok (.iaload, 1) := by decide +kernel
theorem dX12_ranked_81 : decode cX12_ranked 81 = .ok (.aload_n 0, 1) := by decide +kernel
theorem dX12_ranked_82 : decode cX12_ranked 82 = .ok (.getfield 81, 3) := by decide +kernel
theorem dX12_ranked_85 : decode cX12_ranked 85 = .ok (.if_icmp .le 10, 3) := by decide +kernel
theorem dX12_ranked_88 : decode cX12_ranked 88 = .ok (.aload_n 0, 1) := by decide +kernel
theorem dX12_ranked_89 : decode cX12_ranked 89 = .ok (.getfield 81, 3) := by decide +kernel
theorem dX12_ranked_92 : decode cX12_ranked 92 = .ok (.goto 4, 3) := by decide +kernel
theorem dX12_ranked_95 : decode cX12_ranked 95 = .ok (.iconst (-1), 1) := by decide +kernel
theorem dX12_ranked_96 : decode cX12_ranked 96 = .ok (.ireturn, 1) := by decide +kernel
theorem dX12_judge_0 : decode cX12_judge 0 = .ok (.aload_n 0, 1) := by decide +kernel
theorem dX12_judge_1 : decode cX12_judge 1 = .ok (.iload_n 1, 1) := by decide +kernel
theorem dX12_judge_2 : decode cX12_judge 2 = .ok (.invokevirtual 111, 3) := by decide +kernel
theorem dX12_judge_5 : decode cX12_judge 5 = .ok (.istore_n 2, 1) := by decide +kernel
theorem dX12_judge_6 : decode cX12_judge 6 = .ok (.iload_n 2, 1) := by decide +kernel
theorem dX12_judge_7 : decode cX12_judge 7 = .ok (.ifCond .eq 11, 3) := by decide +kernel
theorem dX12_judge_10 : decode cX12_judge 10 = .ok (.aload_n 0, 1) := by decide +kernel
theorem dX12_judge_11 : decode cX12_judge 11 = .ok (.iload_n 2, 1) := by decide +kernel
theorem dX12_judge_12 : decode cX12_judge 12 = .ok (.invokevirtual 94, 3) := by decide +kernel
theorem dX12_judge_15 : decode cX12_judge 15 = .ok (.goto 8, 3) := by decide +kernel
theorem dX12_judge_18 : decode cX12_judge 18 = .ok (.aload_n 0, 1) := by decide +kernel
theorem dX12_judge_19 : decode cX12_judge 19 = .ok (.iload_n 1, 1) := by decide +kernel
theorem dX12_judge_20 : decode cX12_judge 20 = .ok (.invokevirtual 219, 3) := by decide +kernel
theorem dX12_judge_23 : decode cX12_judge 23 = .ok (.ireturn, 1) := by decide +kernel
theorem dX12_told_0 : decode cX12_told 0 = .ok (.aload_n 0, 1) := by decide +kernel
theorem dX12_told_1 : decode cX12_told 1 = .ok (.iload_n 1, 1) := by decide +kernel
theorem dX12_told_2 : decode cX12_told 2 = .ok (.invokevirtual 111, 3) := by decide +kernel
theorem dX12_told_5 : decode cX12_told 5 = .ok (.istore_n 2, 1) := by decide +kernel
theorem dX12_told_6 : decode cX12_told 6 = .ok (.iload_n 2, 1) := by decide +kernel
theorem dX12_told_7 : decode cX12_told 7 = .ok (.ifCond .eq 9, 3) := by decide +kernel
theorem dX12_told_10 : decode cX12_told 10 = .ok (.aload_n 0, 1) := by decide +kernel
theorem dX12_told_11 : decode cX12_told 11 = .ok (.iload_n 2, 1) := by decide +kernel
theorem dX12_told_12 : decode cX12_told 12 = .ok (.invokevirtual 203, 3) := by decide +kernel
theorem dX12_told_15 : decode cX12_told 15 = .ok (.ireturn, 1) := by decide +kernel
theorem dX12_told_16 : decode cX12_told 16 = .ok (.aload_n 0, 1) := by decide +kernel
theorem dX12_told_17 : decode cX12_told 17 = .ok (.iload_n 1, 1) := by decide +kernel
theorem dX12_told_18 : decode cX12_told 18 = .ok (.invokevirtual 219, 3) := by decide +kernel
theorem dX12_told_21 : decode cX12_told 21 = .ok (.iconst (-1), 1) := by decide +kernel
theorem dX12_told_22 : decode cX12_told 22 = .ok (.if_icmp .eq 12, 3) := by decide +kernel
theorem dX12_told_25 : decode cX12_told 25 = .ok (.aload_n 0, 1) := by decide +kernel
theorem dX12_told_26 : decode cX12_told 26 = .ok (.bipush (-6), 2) := by decide +kernel
theorem dX12_told_28 : decode cX12_told 28 = .ok (.invokevirtual 203, 3) := by decide +kernel
theorem dX12_told_31 : decode cX12_told 31 = .ok (.goto 10, 3) := by decide +kernel
theorem dX12_told_34 : decode cX12_told 34 = .ok (.aload_n 0, 1) := by decide +kernel
theorem dX12_told_35 : decode cX12_told 35 = .ok (.sipush 255, 3) := by decide +kernel
theorem dX12_told_38 : decode cX12_told 38 = .ok (.invokevirtual 210, 3) := by decide +kernel
theorem dX12_told_41 : decode cX12_told 41 = .ok (.ireturn, 1) := by decide +kernel
theorem dX12_draw_0 : decode cX12_draw 0 = .ok (.aload_n 0, 1) := by decide +kernel
theorem dX12_draw_1 : decode cX12_draw 1 = .ok (.aload_n 0, 1) := by decide +kernel
theorem dX12_draw_2 : decode cX12_draw 2 = .ok (.getfield 7, 3) := by decide +kernel
theorem dX12_draw_5 : decode cX12_draw 5 = .ok (.ldc 222, 2) := by decide +kernel
theorem dX12_draw_7 : decode cX12_draw 7 = .ok (.imul, 1) := by decide +kernel
theorem dX12_draw_8 : decode cX12_draw 8 = .ok (.sipush 12345, 3) := by decide +kernel
theorem dX12_draw_11 : decode cX12_draw 11 = .ok (.iadd, 1) := by decide +kernel
theorem dX12_draw_12 : decode cX12_draw 12 = .ok (.putfield 7, 3) := by decide +kernel
theorem dX12_draw_15 : decode cX12_draw 15 = .ok (.aload_n 0, 1) := by decide +kernel
theorem dX12_draw_16 : decode cX12_draw 16 = .ok (.getfield 7, 3) := by decide +kernel
theorem dX12_draw_19 : decode cX12_draw 19 = .ok (.bipush 16, 2) := by decide +kernel
theorem dX12_draw_21 : decode cX12_draw 21 = .ok (.iushr, 1) := by decide +kernel
theorem dX12_draw_22 : decode cX12_draw 22 = .ok (.iload_n 1, 1) := by decide +kernel
theorem dX12_draw_23 : decode cX12_draw 23 = .ok (.irem, 1) := by decide +kernel
theorem dX12_draw_24 : decode cX12_draw 24 = .ok (.ireturn, 1) := by decide +kernel
theorem dX12_come_0 : decode cX12_come 0 = .ok (.iload_n 1, 1) := by decide +kernel
theorem dX12_come_1 : decode cX12_come 1 = .ok (.iconst 1, 1) := by decide +kernel
theorem dX12_come_2 : decode cX12_come 2 = .ok (.if_icmp .lt 9, 3) := by decide +kernel
theorem dX12_come_5 : decode cX12_come 5 = .ok (.iload_n 1, 1) := by decide +kernel
theorem dX12_come_6 : decode cX12_come 6 = .ok (.bipush 8, 2) := by decide +kernel
theorem dX12_come_8 : decode cX12_come 8 = .ok (.if_icmp .le 10, 3) := by decide +kernel
theorem dX12_come_11 : decode cX12_come 11 = .ok (.aload_n 0, 1) := by decide +kernel
theorem dX12_come_12 : decode cX12_come 12 = .ok (.bipush (-6), 2) := by decide +kernel
theorem dX12_come_14 : decode cX12_come 14 = .ok (.invokevirtual 94, 3) := by decide +kernel
theorem dX12_come_17 : decode cX12_come 17 = .ok (.ireturn, 1) := by decide +kernel
theorem dX12_come_18 : decode cX12_come 18 = .ok (.iconst 0, 1) := by decide +kernel
theorem dX12_come_19 : decode cX12_come 19 = .ok (.istore_n 2, 1) := by decide +kernel
theorem dX12_come_20 : decode cX12_come 20 = .ok (.iload_n 2, 1) := by decide +kernel
theorem dX12_come_21 : decode cX12_come 21 = .ok (.iload_n 1, 1) := by decide +kernel
theorem dX12_come_22 : decode cX12_come 22 = .ok (.if_icmp .ge 67, 3) := by decide +kernel
theorem dX12_come_25 : decode cX12_come 25 = .ok (.aload_n 0, 1) := by decide +kernel
theorem dX12_come_26 : decode cX12_come 26 = .ok (.getfield 81, 3) := by decide +kernel
theorem dX12_come_29 : decode cX12_come 29 = .ok (.bipush 8, 2) := by decide +kernel
theorem dX12_come_31 : decode cX12_come 31 = .ok (.if_icmp .ge 58, 3) := by decide +kernel
theorem dX12_come_34 : decode cX12_come 34 = .ok (.iconst 0, 1) := by decide +kernel
theorem dX12_come_35 : decode cX12_come 35 = .ok (.istore_n 3, 1) := by decide +kernel
theorem dX12_come_36 : decode cX12_come 36 = .ok (.iload_n 3, 1) := by decide +kernel
theorem dX12_come_37 : decode cX12_come 37 = .ok (.bipush 6, 2) := by decide +kernel
theorem dX12_come_39 : decode cX12_come 39 = .ok (.if_icmp .ge 34, 3) := by decide +kernel
theorem dX12_come_42 : decode cX12_come 42 = .ok (.aload_n 0, 1) := by decide +kernel
theorem dX12_come_43 : decode cX12_come 43 = .ok (.getfield 20, 3) := by decide +kernel
theorem dX12_come_46 : decode cX12_come 46 = .ok (.bipush 6, 2) := by decide +kernel
theorem dX12_come_48 : decode cX12_come 48 = .ok (.aload_n 0, 1) := by decide +kernel
theorem dX12_come_49 : decode cX12_come 49 = .ok (.getfield 81, 3) := by decide +kernel
theorem dX12_come_52 : decode cX12_come 52 = .ok (.imul, 1) := by decide +kernel
theorem dX12_come_53 : decode cX12_come 53 = .ok (.iload_n 3, 1) := by decide +kernel
theorem dX12_come_54 : decode cX12_come 54 = .ok (.iadd, 1) := by decide +kernel
theorem dX12_come_55 : decode cX12_come 55 = .ok (.aload_n 0, 1) := by decide +kernel
theorem dX12_come_56 : decode cX12_come 56 = .ok (.aload_n 0, 1) := by decide +kernel
theorem dX12_come_57 : decode cX12_come 57 = .ok (.iload_n 3, 1) := by decide +kernel
theorem dX12_come_58 : decode cX12_come 58 = .ok (.invokevirtual 118, 3) := by decide +kernel
theorem dX12_come_61 : decode cX12_come 61 = .ok (.iconst 1, 1) := by decide +kernel
theorem dX12_come_62 : decode cX12_come 62 = .ok (.iadd, 1) := by decide +kernel
theorem dX12_come_63 : decode cX12_come 63 = .ok (.invokevirtual 223, 3) := by decide +kernel
theorem dX12_come_66 : decode cX12_come 66 = .ok (.iastore, 1) := by decide +kernel
theorem dX12_come_67 : decode cX12_come 67 = .ok (.iinc 3 1, 3) := by decide +kernel
theorem dX12_come_70 : decode cX12_come 70 = .ok (.goto (-34), 3) := by decide +kernel
theorem dX12_come_73 : decode cX12_come 73 = .ok (.aload_n 0, 1) := by decide +kernel
theorem dX12_come_74 : decode cX12_come 74 = .ok (.dup, 1) := by decide +kernel
theorem dX12_come_75 : decode cX12_come 75 = .ok (.getfield 81, 3) := by decide +kernel
theorem dX12_come_78 : decode cX12_come 78 = .ok (.iconst 1, 1) := by decide +kernel
theorem dX12_come_79 : decode cX12_come 79 = .ok (.iadd, 1) := by decide +kernel
theorem dX12_come_80 : decode cX12_come 80 = .ok (.putfield 81, 3) := by decide +kernel
theorem dX12_come_83 : decode cX12_come 83 = .ok (.iinc 2 1, 3) := by decide +kernel
theorem dX12_come_86 : decode cX12_come 86 = .ok (.goto (-66), 3) := by decide +kernel
theorem dX12_come_89 : decode cX12_come 89 = .ok (.iload_n 2, 1) := by decide +kernel
theorem dX12_come_90 : decode cX12_come 90 = .ok (.ireturn, 1) := by decide +kernel
theorem dX12_clear_0 : decode cX12_clear 0 = .ok (.aload_n 0, 1) := by decide +kernel
theorem dX12_clear_1 : decode cX12_clear 1 = .ok (.getfield 81, 3) := by decide +kernel
theorem dX12_clear_4 : decode cX12_clear 4 = .ok (.istore_n 1, 1) := by decide +kernel
theorem dX12_clear_5 : decode cX12_clear 5 = .ok (.aload_n 0, 1) := by decide +kernel
theorem dX12_clear_6 : decode cX12_clear 6 = .ok (.iconst 0, 1) := by decide +kernel
theorem dX12_clear_7 : decode cX12_clear 7 = .ok (.putfield 81, 3) := by decide +kernel
theorem dX12_clear_10 : decode cX12_clear 10 = .ok (.iload_n 1, 1) := by decide +kernel
theorem dX12_clear_11 : decode cX12_clear 11 = .ok (.ireturn, 1) := by decide +kernel
theorem dX12_seed_0 : decode cX12_seed 0 = .ok (.aload_n 0, 1) := by decide +kernel
theorem dX12_seed_1 : decode cX12_seed 1 = .ok (.getfield 7, 3) := by decide +kernel
theorem dX12_seed_4 : decode cX12_seed 4 = .ok (.istore_n 2, 1) := by decide +kernel
theorem dX12_seed_5 : decode cX12_seed 5 = .ok (.aload_n 0, 1) := by decide +kernel
theorem dX12_seed_6 : decode cX12_seed 6 = .ok (.iload_n 1, 1) := by decide +kernel
theorem dX12_seed_7 : decode cX12_seed 7 = .ok (.putfield 7, 3) := by decide +kernel
theorem dX12_seed_10 : decode cX12_seed 10 = .ok (.iload_n 2, 1) := by decide +kernel
theorem dX12_seed_11 : decode cX12_seed 11 = .ok (.ireturn, 1) := by decide +kernel
theorem dX12_body_0 : decode cX12_body 0 = .ok (.aload_n 0, 1) := by decide +kernel
theorem dX12_body_1 : decode cX12_body 1 = .ok (.getfield 226, 3) := by decide +kernel
theorem dX12_body_4 : decode cX12_body 4 = .ok (.bipush 20, 2) := by decide +kernel
theorem dX12_body_6 : decode cX12_body 6 = .ok (.if_icmp .ge 13, 3) := by decide +kernel
theorem dX12_body_9 : decode cX12_body 9 = .ok (.aload_n 0, 1) := by decide +kernel
theorem dX12_body_10 : decode cX12_body 10 = .ok (.getfield 78, 3) := by decide +kernel
theorem dX12_body_13 : decode cX12_body 13 = .ok (.aload_n 0, 1) := by decide +kernel
theorem dX12_body_14 : decode cX12_body 14 = .ok (.getfield 226, 3) := by decide +kernel
theorem dX12_body_17 : decode cX12_body 17 = .ok (.iload_n 1, 1) := by decide +kernel
theorem dX12_body_18 : decode cX12_body 18 = .ok (.iastore, 1) := by decide +kernel
theorem dX12_body_19 : decode cX12_body 19 = .ok (.aload_n 0, 1) := by decide +kernel
theorem dX12_body_20 : decode cX12_body 20 = .ok (.dup, 1) := by decide +kernel
theorem dX12_body_21 : decode cX12_body 21 = .ok (.getfield 226, 3) := by decide +kernel
theorem dX12_body_24 : decode cX12_body 24 = .ok (.iconst 1, 1) := by decide +kernel
theorem dX12_body_25 : decode cX12_body 25 = .ok (.iadd, 1) := by decide +kernel
theorem dX12_body_26 : decode cX12_body 26 = .ok (.putfield 226, 3) := by decide +kernel
theorem dX12_body_29 : decode cX12_body 29 = .ok (.return_, 1) := by decide +kernel
theorem dX12_feels_0 : decode cX12_feels 0 = .ok (.aload_n 0, 1) := by decide +kernel
theorem dX12_feels_1 : decode cX12_feels 1 = .ok (.getfield 35, 3) := by decide +kernel
theorem dX12_feels_4 : decode cX12_feels 4 = .ok (.iload_n 1, 1) := by decide +kernel
theorem dX12_feels_5 : decode cX12_feels 5 = .ok (.iaload, 1) := by decide +kernel
theorem dX12_feels_6 : decode cX12_feels 6 = .ok (.istore_n 3, 1) := by decide +kernel
theorem dX12_feels_7 : decode cX12_feels 7 = .ok (.iload_n 3, 1) := by decide +kernel
theorem dX12_feels_8 : decode cX12_feels 8 = .ok (.iconst 1, 1) := by decide +kernel
theorem dX12_feels_9 : decode cX12_feels 9 = .ok (.if_icmp .eq 8, 3) := by decide +kernel
theorem dX12_feels_12 : decode cX12_feels 12 = .ok (.iload_n 3, 1) := by decide +kernel
theorem dX12_feels_13 : decode cX12_feels 13 = .ok (.iconst 2, 1) := by decide +kernel
theorem dX12_feels_14 : decode cX12_feels 14 = .ok (.if_icmp .ne 7, 3) := by decide +kernel
theorem dX12_feels_17 : decode cX12_feels 17 = .ok (.iconst 1, 1) := by decide +kernel
theorem dX12_feels_18 : decode cX12_feels 18 = .ok (.goto 4, 3) := by decide +kernel
theorem dX12_feels_21 : decode cX12_feels 21 = .ok (.iconst 0, 1) := by decide +kernel
theorem dX12_feels_22 : decode cX12_feels 22 = .ok (.istore 4, 2) := by decide +kernel
theorem dX12_feels_24 : decode cX12_feels 24 = .ok (.iload_n 3, 1) := by decide +kernel
theorem dX12_feels_25 : decode cX12_feels 25 = .ok (.iconst 5, 1) := by decide +kernel
theorem dX12_feels_26 : decode cX12_feels 26 = .ok (.if_icmp .eq 9, 3) := by decide +kernel
theorem dX12_feels_29 : decode cX12_feels 29 = .ok (.iload_n 3, 1) := by decide +kernel
theorem dX12_feels_30 : decode cX12_feels 30 = .ok (.bipush 6, 2) := by decide +kernel
theorem dX12_feels_32 : decode cX12_feels 32 = .ok (.if_icmp .ne 7, 3) := by decide +kernel
theorem dX12_feels_35 : decode cX12_feels 35 = .ok (.iconst 1, 1) := by decide +kernel
theorem dX12_feels_36 : decode cX12_feels 36 = .ok (.goto 4, 3) := by decide +kernel
theorem dX12_feels_39 : decode cX12_feels 39 = .ok (.iconst 0, 1) := by decide +kernel
theorem dX12_feels_40 : decode cX12_feels 40 = .ok (.istore 5, 2) := by decide +kernel
theorem dX12_feels_42 : decode cX12_feels 42 = .ok (.iload 4, 2) := by decide +kernel
theorem dX12_feels_44 : decode cX12_feels 44 = .ok (.ifCond .eq 9, 3) := by decide +kernel
theorem dX12_feels_47 : decode cX12_feels 47 = .ok (.aload_n 0, 1) := by decide +kernel
theorem dX12_feels_48 : decode cX12_feels 48 = .ok (.bipush 20, 2) := by decide +kernel
theorem dX12_feels_50 : decode cX12_feels 50 = .ok (.invokevirtual 229, 3) := by decide +kernel
theorem dX12_feels_53 : decode cX12_feels 53 = .ok (.iload 5, 2) := by decide +kernel
theorem dX12_feels_55 : decode cX12_feels 55 = .ok (.ifCond .eq 9, 3) := by decide +kernel
theorem dX12_feels_58 : decode cX12_feels 58 = .ok (.aload_n 0, 1) := by decide +kernel
theorem dX12_feels_59 : decode cX12_feels 59 = .ok (.bipush 60, 2) := by decide +kernel
theorem dX12_feels_61 : decode cX12_feels 61 = .ok (.invokevirtual 229, 3) := by decide +kernel
theorem dX12_feels_64 : decode cX12_feels 64 = .ok (.aload_n 0, 1) := by decide +kernel
theorem dX12_feels_65 : decode cX12_feels 65 = .ok (.bipush 10, 2) := by decide +kernel
theorem dX12_feels_67 : decode cX12_feels 67 = .ok (.invokevirtual 229, 3) := by decide +kernel
theorem dX12_feels_70 : decode cX12_feels 70 = .ok (.iload_n 2, 1) := by decide +kernel
theorem dX12_feels_71 : decode cX12_feels 71 = .ok (.iload_n 1, 1) := by decide +kernel
theorem dX12_feels_72 : decode cX12_feels 72 = .ok (.iadd, 1) := by decide +kernel
theorem dX12_feels_73 : decode cX12_feels 73 = .ok (.istore 6, 2) := by decide +kernel
theorem dX12_feels_75 : decode cX12_feels 75 = .ok (.iload 4, 2) := by decide +kernel
theorem dX12_feels_77 : decode cX12_feels 77 = .ok (.ifCond .eq 15, 3) := by decide +kernel
theorem dX12_feels_80 : decode cX12_feels 80 = .ok (.iload 6, 2) := by decide +kernel
theorem dX12_feels_82 : decode cX12_feels 82 = .ok (.aload_n 0, 1) := by decide +kernel
theorem dX12_feels_83 : decode cX12_feels 83 = .ok (.getfield 38, 3) := by decide +kernel
theorem dX12_feels_86 : decode cX12_feels 86 = .ok (.iload_n 1, 1) := by decide +kernel
theorem dX12_feels_87 : decode cX12_feels 87 = .ok (.iaload, 1) := by decide +kernel
theorem dX12_feels_88 : decode cX12_feels 88 = .ok (.iadd, 1) := by decide +kernel
theorem dX12_feels_89 : decode cX12_feels 89 = .ok (.goto 17, 3) := by decide +kernel
theorem dX12_feels_92 : decode cX12_feels 92 = .ok (.iload 5, 2) := by decide +kernel
theorem dX12_feels_94 : decode cX12_feels 94 = .ok (.ifCond .eq 10, 3) := by decide +kernel
theorem dX12_feels_97 : decode cX12_feels 97 = .ok (.iload 6, 2) := by decide +kernel
theorem dX12_feels_99 : decode cX12_feels 99 = .ok (.iconst 2, 1) := by decide +kernel
theorem dX12_feels_100 : decode cX12_feels 100 = .ok (.imul, 1) := by decide +kernel
theorem dX12_feels_101 : decode cX12_feels 101 = .ok (.goto 5, 3) := by decide +kernel
theorem dX12_feels_104 : decode cX12_feels 104 = .ok (.iload 6, 2) := by decide +kernel
theorem dX12_feels_106 : decode cX12_feels 106 = .ok (.ireturn, 1) := by decide +kernel
theorem dX12_asks_0 : decode cX12_asks 0 = .ok (.aload_n 0, 1) := by decide +kernel
theorem dX12_asks_1 : decode cX12_asks 1 = .ok (.getfield 35, 3) := by decide +kernel
theorem dX12_asks_4 : decode cX12_asks 4 = .ok (.iload_n 1, 1) := by decide +kernel
theorem dX12_asks_5 : decode cX12_asks 5 = .ok (.iaload, 1) := by decide +kernel
theorem dX12_asks_6 : decode cX12_asks 6 = .ok (.istore_n 3, 1) := by decide +kernel
theorem dX12_asks_7 : decode cX12_asks 7 = .ok (.iload_n 2, 1) := by decide +kernel
theorem dX12_asks_8 : decode cX12_asks 8 = .ok (.istore 4, 2) := by decide +kernel
theorem dX12_asks_10 : decode cX12_asks 10 = .ok (.iload_n 3, 1) := by decide +kernel
theorem dX12_asks_11 : decode cX12_asks 11 = .ok (.iconst 2, 1) := by decide +kernel
theorem dX12_asks_12 : decode cX12_asks 12 = .ok (.if_icmp .ne 9, 3) := by decide +kernel
theorem dX12_asks_15 : decode cX12_asks 15 = .ok (.aload_n 0, 1) := by decide +kernel
theorem dX12_asks_16 : decode cX12_asks 16 = .ok (.bipush 30, 2) := by decide +kernel
theorem dX12_asks_18 : decode cX12_asks 18 = .ok (.invokevirtual 229, 3) := by decide +kernel
theorem dX12_asks_21 : decode cX12_asks 21 = .ok (.iload_n 3, 1) := by decide +kernel
theorem dX12_asks_22 : decode cX12_asks 22 = .ok (.iconst 3, 1) := by decide +kernel
theorem dX12_asks_23 : decode cX12_asks 23 = .ok (.if_icmp .ne 14, 3) := by decide +kernel
theorem dX12_asks_26 : decode cX12_asks 26 = .ok (.aload_n 0, 1) := by decide +kernel
theorem dX12_asks_27 : decode cX12_asks 27 = .ok (.bipush 40, 2) := by decide +kernel
theorem dX12_asks_29 : decode cX12_asks 29 = .ok (.invokevirtual 229, 3) := by decide +kernel
theorem dX12_asks_32 : decode cX12_asks 32 = .ok (.iload_n 2, 1) := by decide +kernel
theorem dX12_asks_33 : decode cX12_asks 33 = .ok (.iconst 1, 1) := by decide +kernel
theorem dX12_asks_34 : decode cX12_asks 34 = .ok (.iadd, 1) := by decide +kernel
theorem dX12_asks_35 : decode cX12_asks 35 = .ok (.istore 4, 2) := by decide +kernel
theorem dX12_asks_37 : decode cX12_asks 37 = .ok (.iload_n 3, 1) := by decide +kernel
theorem dX12_asks_38 : decode cX12_asks 38 = .ok (.bipush 6, 2) := by decide +kernel
theorem dX12_asks_40 : decode cX12_asks 40 = .ok (.if_icmp .ne 19, 3) := by decide +kernel
theorem dX12_asks_43 : decode cX12_asks 43 = .ok (.aload_n 0, 1) := by decide +kernel
theorem dX12_asks_44 : decode cX12_asks 44 = .ok (.bipush 71, 2) := by decide +kernel
theorem dX12_asks_46 : decode cX12_asks 46 = .ok (.invokevirtual 229, 3) := by decide +kernel
theorem dX12_asks_49 : decode cX12_asks 49 = .ok (.iload_n 2, 1) := by decide +kernel
theorem dX12_asks_50 : decode cX12_asks 50 = .ok (.aload_n 0, 1) := by decide +kernel
theorem dX12_asks_51 : decode cX12_asks 51 = .ok (.getfield 38, 3) := by decide +kernel
theorem dX12_asks_54 : decode cX12_asks 54 = .ok (.iload_n 1, 1) := by decide +kernel
theorem dX12_asks_55 : decode cX12_asks 55 = .ok (.iaload, 1) := by decide +kernel
theorem dX12_asks_56 : decode cX12_asks 56 = .ok (.isub, 1) := by decide +kernel
theorem dX12_asks_57 : decode cX12_asks 57 = .ok (.istore 4, 2) := by decide +kernel
theorem dX12_asks_59 : decode cX12_asks 59 = .ok (.aload_n 0, 1) := by decide +kernel
theorem dX12_asks_60 : decode cX12_asks 60 = .ok (.bipush 11, 2) := by decide +kernel
theorem dX12_asks_62 : decode cX12_asks 62 = .ok (.invokevirtual 229, 3) := by decide +kernel
theorem dX12_asks_65 : decode cX12_asks 65 = .ok (.aload_n 0, 1) := by decide +kernel
theorem dX12_asks_66 : decode cX12_asks 66 = .ok (.iload_n 1, 1) := by decide +kernel
theorem dX12_asks_67 : decode cX12_asks 67 = .ok (.iload 4, 2) := by decide +kernel
theorem dX12_asks_69 : decode cX12_asks 69 = .ok (.invokevirtual 233, 3) := by decide +kernel
theorem dX12_asks_72 : decode cX12_asks 72 = .ok (.iconst 2, 1) := by decide +kernel
theorem dX12_asks_73 : decode cX12_asks 73 = .ok (.imul, 1) := by decide +kernel
theorem dX12_asks_74 : decode cX12_asks 74 = .ok (.istore 5, 2) := by decide +kernel
theorem dX12_asks_76 : decode cX12_asks 76 = .ok (.iload_n 3, 1) := by decide +kernel
theorem dX12_asks_77 : decode cX12_asks 77 = .ok (.iconst 2, 1) := by decide +kernel
theorem dX12_asks_78 : decode cX12_asks 78 = .ok (.if_icmp .ne 10, 3) := by decide +kernel
theorem dX12_asks_81 : decode cX12_asks 81 = .ok (.iload 5, 2) := by decide +kernel
theorem dX12_asks_83 : decode cX12_asks 83 = .ok (.iconst 3, 1) := by decide +kernel
theorem dX12_asks_84 : decode cX12_asks 84 = .ok (.imul, 1) := by decide +kernel
theorem dX12_asks_85 : decode cX12_asks 85 = .ok (.goto 5, 3) := by decide +kernel
theorem dX12_asks_88 : decode cX12_asks 88 = .ok (.iload 5, 2) := by decide +kernel
theorem dX12_asks_90 : decode cX12_asks 90 = .ok (.ireturn, 1) := by decide +kernel
theorem dX12_sums_0 : decode cX12_sums 0 = .ok (.aload_n 0, 1) := by decide +kernel
theorem dX12_sums_1 : decode cX12_sums 1 = .ok (.getfield 35, 3) := by decide +kernel
theorem dX12_sums_4 : decode cX12_sums 4 = .ok (.iload_n 1, 1) := by decide +kernel
theorem dX12_sums_5 : decode cX12_sums 5 = .ok (.iaload, 1) := by decide +kernel
theorem dX12_sums_6 : decode cX12_sums 6 = .ok (.istore_n 3, 1) := by decide +kernel
theorem dX12_sums_7 : decode cX12_sums 7 = .ok (.iload_n 3, 1) := by decide +kernel
theorem dX12_sums_8 : decode cX12_sums 8 = .ok (.iconst 3, 1) := by decide +kernel
theorem dX12_sums_9 : decode cX12_sums 9 = .ok (.if_icmp .ne 9, 3) := by decide +kernel
theorem dX12_sums_12 : decode cX12_sums 12 = .ok (.aload_n 0, 1) := by decide +kernel
theorem dX12_sums_13 : decode cX12_sums 13 = .ok (.bipush 41, 2) := by decide +kernel
theorem dX12_sums_15 : decode cX12_sums 15 = .ok (.invokevirtual 229, 3) := by decide +kernel
theorem dX12_sums_18 : decode cX12_sums 18 = .ok (.iload_n 3, 1) := by decide +kernel
theorem dX12_sums_19 : decode cX12_sums 19 = .ok (.iconst 4, 1) := by decide +kernel
theorem dX12_sums_20 : decode cX12_sums 20 = .ok (.if_icmp .ne 9, 3) := by decide +kernel
theorem dX12_sums_23 : decode cX12_sums 23 = .ok (.aload_n 0, 1) := by decide +kernel
theorem dX12_sums_24 : decode cX12_sums 24 = .ok (.bipush 50, 2) := by decide +kernel
theorem dX12_sums_26 : decode cX12_sums 26 = .ok (.invokevirtual 229, 3) := by decide +kernel
theorem dX12_sums_29 : decode cX12_sums 29 = .ok (.iload_n 3, 1) := by decide +kernel
theorem dX12_sums_30 : decode cX12_sums 30 = .ok (.bipush 6, 2) := by decide +kernel
theorem dX12_sums_32 : decode cX12_sums 32 = .ok (.if_icmp .ne 9, 3) := by decide +kernel
theorem dX12_sums_35 : decode cX12_sums 35 = .ok (.aload_n 0, 1) := by decide +kernel
theorem dX12_sums_36 : decode cX12_sums 36 = .ok (.bipush 70, 2) := by decide +kernel
theorem dX12_sums_38 : decode cX12_sums 38 = .ok (.invokevirtual 229, 3) := by decide +kernel
theorem dX12_sums_41 : decode cX12_sums 41 = .ok (.aload_n 0, 1) := by decide +kernel
theorem dX12_sums_42 : decode cX12_sums 42 = .ok (.bipush 12, 2) := by decide +kernel
theorem dX12_sums_44 : decode cX12_sums 44 = .ok (.invokevirtual 229, 3) := by decide +kernel
theorem dX12_sums_47 : decode cX12_sums 47 = .ok (.aload_n 0, 1) := by decide +kernel
theorem dX12_sums_48 : decode cX12_sums 48 = .ok (.iload_n 1, 1) := by decide +kernel
theorem dX12_sums_49 : decode cX12_sums 49 = .ok (.iload_n 2, 1) := by decide +kernel
theorem dX12_sums_50 : decode cX12_sums 50 = .ok (.invokevirtual 236, 3) := by decide +kernel
theorem dX12_sums_53 : decode cX12_sums 53 = .ok (.istore 4, 2) := by decide +kernel
theorem dX12_sums_55 : decode cX12_sums 55 = .ok (.iload 4, 2) := by decide +kernel
theorem dX12_sums_57 : decode cX12_sums 57 = .ok (.aload_n 0, 1) := by decide +kernel
theorem dX12_sums_58 : decode cX12_sums 58 = .ok (.iload_n 1, 1) := by decide +kernel
theorem dX12_sums_59 : decode cX12_sums 59 = .ok (.iload_n 2, 1) := by decide +kernel
theorem dX12_sums_60 : decode cX12_sums 60 = .ok (.aload_n 0, 1) := by decide +kernel
theorem dX12_sums_61 : decode cX12_sums 61 = .ok (.getfield 38, 3) := by decide +kernel
theorem dX12_sums_64 : decode cX12_sums 64 = .ok (.iload_n 1, 1) := by decide +kernel
theorem dX12_sums_65 : decode cX12_sums 65 = .ok (.iaload, 1) := by decide +kernel
theorem dX12_sums_66 : decode cX12_sums 66 = .ok (.isub, 1) := by decide +kernel
theorem dX12_sums_67 : decode cX12_sums 67 = .ok (.invokevirtual 233, 3) := by decide +kernel
theorem dX12_sums_70 : decode cX12_sums 70 = .ok (.ixor, 1) := by decide +kernel
theorem dX12_sums_71 : decode cX12_sums 71 = .ok (.istore 4, 2) := by decide +kernel
theorem dX12_sums_73 : decode cX12_sums 73 = .ok (.iload_n 3, 1) := by decide +kernel
theorem dX12_sums_74 : decode cX12_sums 74 = .ok (.iconst 3, 1) := by decide +kernel
theorem dX12_sums_75 : decode cX12_sums 75 = .ok (.if_icmp .ne 10, 3) := by decide +kernel
theorem dX12_sums_78 : decode cX12_sums 78 = .ok (.iload 4, 2) := by decide +kernel
theorem dX12_sums_80 : decode cX12_sums 80 = .ok (.iload_n 1, 1) := by decide +kernel
theorem dX12_sums_81 : decode cX12_sums 81 = .ok (.isub, 1) := by decide +kernel
theorem dX12_sums_82 : decode cX12_sums 82 = .ok (.goto 29, 3) := by decide +kernel
theorem dX12_sums_85 : decode cX12_sums 85 = .ok (.iload_n 3, 1) := by decide +kernel
theorem dX12_sums_86 : decode cX12_sums 86 = .ok (.iconst 4, 1) := by decide +kernel
theorem dX12_sums_87 : decode cX12_sums 87 = .ok (.if_icmp .ne 9, 3) := by decide +kernel
theorem dX12_sums_90 : decode cX12_sums 90 = .ok (.iload 4, 2) := by decide +kernel
theorem dX12_sums_92 : decode cX12_sums 92 = .ok (.ineg, 1) := by decide +kernel
theorem dX12_sums_93 : decode cX12_sums 93 = .ok (.goto 18, 3) := by decide +kernel
theorem dX12_sums_96 : decode cX12_sums 96 = .ok (.iload_n 3, 1) := by decide +kernel
theorem dX12_sums_97 : decode cX12_sums 97 = .ok (.bipush 6, 2) := by decide +kernel
theorem dX12_sums_99 : decode cX12_sums 99 = .ok (.if_icmp .ne 10, 3) := by decide +kernel
theorem dX12_sums_102 : decode cX12_sums 102 = .ok (.iload 4, 2) := by decide +kernel
theorem dX12_sums_104 : decode cX12_sums 104 = .ok (.iconst 5, 1) := by decide +kernel
theorem dX12_sums_105 : decode cX12_sums 105 = .ok (.ixor, 1) := by decide +kernel
theorem dX12_sums_106 : decode cX12_sums 106 = .ok (.goto 5, 3) := by decide +kernel
theorem dX12_sums_109 : decode cX12_sums 109 = .ok (.iload 4, 2) := by decide +kernel
theorem dX12_sums_111 : decode cX12_sums 111 = .ok (.ireturn, 1) := by decide +kernel
theorem dX12_act_0 : decode cX12_act 0 = .ok (.aload_n 0, 1) := by decide +kernel
theorem dX12_act_1 : decode cX12_act 1 = .ok (.iconst 0, 1) := by decide +kernel
theorem dX12_act_2 : decode cX12_act 2 = .ok (.putfield 226, 3) := by decide +kernel
theorem dX12_act_5 : decode cX12_act 5 = .ok (.aload_n 0, 1) := by decide +kernel
theorem dX12_act_6 : decode cX12_act 6 = .ok (.iload_n 1, 1) := by decide +kernel
theorem dX12_act_7 : decode cX12_act 7 = .ok (.invokevirtual 98, 3) := by decide +kernel
theorem dX12_act_10 : decode cX12_act 10 = .ok (.ifCond .eq 12, 3) := by decide +kernel
theorem dX12_act_13 : decode cX12_act 13 = .ok (.iload_n 2, 1) := by decide +kernel
theorem dX12_act_14 : decode cX12_act 14 = .ok (.ifCond .lt 8, 3) := by decide +kernel
theorem dX12_act_17 : decode cX12_act 17 = .ok (.iload_n 2, 1) := by decide +kernel
theorem dX12_act_18 : decode cX12_act 18 = .ok (.iconst 2, 1) := by decide +kernel
theorem dX12_act_19 : decode cX12_act 19 = .ok (.if_icmp .le 5, 3) := by decide +kernel
theorem dX12_act_22 : decode cX12_act 22 = .ok (.iconst 0, 1) := by decide +kernel
theorem dX12_act_23 : decode cX12_act 23 = .ok (.ireturn, 1) := by decide +kernel
theorem dX12_act_24 : decode cX12_act 24 = .ok (.iload_n 2, 1) := by decide +kernel
theorem dX12_act_25 : decode cX12_act 25 = .ok (.ifCond .ne 12, 3) := by decide +kernel
theorem dX12_act_28 : decode cX12_act 28 = .ok (.aload_n 0, 1) := by decide +kernel
theorem dX12_act_29 : decode cX12_act 29 = .ok (.iload_n 1, 1) := by decide +kernel
theorem dX12_act_30 : decode cX12_act 30 = .ok (.iload_n 3, 1) := by decide +kernel
theorem dX12_act_31 : decode cX12_act 31 = .ok (.invokevirtual 233, 3) := by decide +kernel
theorem dX12_act_34 : decode cX12_act 34 = .ok (.goto 23, 3) := by decide +kernel
theorem dX12_act_37 : decode cX12_act 37 = .ok (.iload_n 2, 1) := by decide +kernel
theorem dX12_act_38 : decode cX12_act 38 = .ok (.iconst 1, 1) := by decide +kernel
theorem dX12_act_39 : decode cX12_act 39 = .ok (.if_icmp .ne 12, 3) := by decide +kernel
theorem dX12_act_42 : decode cX12_act 42 = .ok (.aload_n 0, 1) := by decide +kernel
theorem dX12_act_43 : decode cX12_act 43 = .ok (.iload_n 1, 1) := by decide +kernel
theorem dX12_act_44 : decode cX12_act 44 = .ok (.iload_n 3, 1) := by decide +kernel
theorem dX12_act_45 : decode cX12_act 45 = .ok (.invokevirtual 236, 3) := by decide +kernel
theorem dX12_act_48 : decode cX12_act 48 = .ok (.goto 9, 3) := by decide +kernel
theorem dX12_act_51 : decode cX12_act 51 = .ok (.aload_n 0, 1) := by decide +kernel
theorem dX12_act_52 : decode cX12_act 52 = .ok (.iload_n 1, 1) := by decide +kernel
theorem dX12_act_53 : decode cX12_act 53 = .ok (.iload_n 3, 1) := by decide +kernel
theorem dX12_act_54 : decode cX12_act 54 = .ok (.invokevirtual 239, 3) := by decide +kernel
theorem dX12_act_57 : decode cX12_act 57 = .ok (.ireturn, 1) := by decide +kernel
theorem dX12_trace_0 : decode cX12_trace 0 = .ok (.iload_n 1, 1) := by decide +kernel
theorem dX12_trace_1 : decode cX12_trace 1 = .ok (.ifCond .lt 26, 3) := by decide +kernel
theorem dX12_trace_4 : decode cX12_trace 4 = .ok (.iload_n 1, 1) := by decide +kernel
theorem dX12_trace_5 : decode cX12_trace 5 = .ok (.bipush 20, 2) := by decide +kernel
theorem dX12_trace_7 : decode cX12_trace 7 = .ok (.if_icmp .ge 20, 3) := by decide +kernel
theorem dX12_trace_10 : decode cX12_trace 10 = .ok (.iload_n 1, 1) := by decide +kernel
theorem dX12_trace_11 : decode cX12_trace 11 = .ok (.aload_n 0, 1) := by decide +kernel
theorem dX12_trace_12 : decode cX12_trace 12 = .ok (.getfield 226, 3) := by decide +kernel
theorem dX12_trace_15 : decode cX12_trace 15 = .ok (.if_icmp .ge 12, 3) := by decide +kernel
theorem dX12_trace_18 : decode cX12_trace 18 = .ok (.aload_n 0, 1) := by decide +kernel
theorem dX12_trace_19 : decode cX12_trace 19 = .ok (.getfield 78, 3) := by decide +kernel
theorem dX12_trace_22 : decode cX12_trace 22 = .ok (.iload_n 1, 1) := by decide +kernel
theorem dX12_trace_23 : decode cX12_trace 23 = .ok (.iaload, 1) := by decide +kernel
theorem dX12_trace_24 : decode cX12_trace 24 = .ok (.goto 4, 3) := by decide +kernel
theorem dX12_trace_27 : decode cX12_trace 27 = .ok (.iconst (-1), 1) := by decide +kernel
theorem dX12_trace_28 : decode cX12_trace 28 = .ok (.ireturn, 1) := by decide +kernel
theorem dX12_image_0 : decode cX12_image 0 = .ok (.aload_n 0, 1) := by decide +kernel
theorem dX12_image_1 : decode cX12_image 1 = .ok (.iconst 1, 1) := by decide +kernel
theorem dX12_image_2 : decode cX12_image 2 = .ok (.putfield 242, 3) := by decide +kernel
theorem dX12_image_5 : decode cX12_image 5 = .ok (.aload_n 0, 1) := by decide +kernel
theorem dX12_image_6 : decode cX12_image 6 = .ok (.aload_n 0, 1) := by decide +kernel
theorem dX12_image_7 : decode cX12_image 7 = .ok (.getfield 69, 3) := by decide +kernel
theorem dX12_image_10 : decode cX12_image 10 = .ok (.iconst 0, 1) := by decide +kernel
theorem dX12_image_11 : decode cX12_image 11 = .ok (.invokevirtual 179, 3) := by decide +kernel
theorem dX12_image_14 : decode cX12_image 14 = .ok (.aload_n 0, 1) := by decide +kernel
theorem dX12_image_15 : decode cX12_image 15 = .ok (.getfield 87, 3) := by decide +kernel
theorem dX12_image_18 : decode cX12_image 18 = .ok (.ireturn, 1) := by decide +kernel
theorem dX12_restore_0 : decode cX12_restore 0 = .ok (.aload_n 0, 1) := by decide +kernel
theorem dX12_restore_1 : decode cX12_restore 1 = .ok (.getfield 242, 3) := by decide +kernel
theorem dX12_restore_4 : decode cX12_restore 4 = .ok (.ifCond .ne 10, 3) := by decide +kernel
theorem dX12_restore_7 : decode cX12_restore 7 = .ok (.aload_n 0, 1) := by decide +kernel
theorem dX12_restore_8 : decode cX12_restore 8 = .ok (.bipush (-6), 2) := by decide +kernel
theorem dX12_restore_10 : decode cX12_restore 10 = .ok (.invokevirtual 94, 3) := by decide +kernel
theorem dX12_restore_13 : decode cX12_restore 13 = .ok (.ireturn, 1) := by decide +kernel
theorem dX12_restore_14 : decode cX12_restore 14 = .ok (.aload_n 0, 1) := by decide +kernel
theorem dX12_restore_15 : decode cX12_restore 15 = .ok (.aload_n 0, 1) := by decide +kernel
theorem dX12_restore_16 : decode cX12_restore 16 = .ok (.getfield 69, 3) := by decide +kernel
theorem dX12_restore_19 : decode cX12_restore 19 = .ok (.iconst 1, 1) := by decide +kernel
theorem dX12_restore_20 : decode cX12_restore 20 = .ok (.invokevirtual 179, 3) := by decide +kernel
theorem dX12_restore_23 : decode cX12_restore 23 = .ok (.iconst 0, 1) := by decide +kernel
theorem dX12_restore_24 : decode cX12_restore 24 = .ok (.istore_n 1, 1) := by decide +kernel
theorem dX12_restore_25 : decode cX12_restore 25 = .ok (.iload_n 1, 1) := by decide +kernel
theorem dX12_restore_26 : decode cX12_restore 26 = .ok (.bipush 8, 2) := by decide +kernel
theorem dX12_restore_28 : decode cX12_restore 28 = .ok (.if_icmp .ge 39, 3) := by decide +kernel
theorem dX12_restore_31 : decode cX12_restore 31 = .ok (.aload_n 0, 1) := by decide +kernel
theorem dX12_restore_32 : decode cX12_restore 32 = .ok (.getfield 41, 3) := by decide +kernel
theorem dX12_restore_35 : decode cX12_restore 35 = .ok (.iload_n 1, 1) := by decide +kernel
theorem dX12_restore_36 : decode cX12_restore 36 = .ok (.iaload, 1) := by decide +kernel
theorem dX12_restore_37 : decode cX12_restore 37 = .ok (.iconst 2, 1) := by decide +kernel
theorem dX12_restore_38 : decode cX12_restore 38 = .ok (.if_icmp .ne 23, 3) := by decide +kernel
theorem dX12_restore_41 : decode cX12_restore 41 = .ok (.aload_n 0, 1) := by decide +kernel
theorem dX12_restore_42 : decode cX12_restore 42 = .ok (.getfield 50, 3) := by decide +kernel
theorem dX12_restore_45 : decode cX12_restore 45 = .ok (.iload_n 1, 1) := by decide +kernel
theorem dX12_restore_46 : decode cX12_restore 46 = .ok (.iaload, 1) := by decide +kernel
theorem dX12_restore_47 : decode cX12_restore 47 = .ok (.aload_n 0, 1) := by decide +kernel
theorem dX12_restore_48 : decode cX12_restore 48 = .ok (.getfield 87, 3) := by decide +kernel
theorem dX12_restore_51 : decode cX12_restore 51 = .ok (.if_icmp .lt 10, 3) := by decide +kernel
theorem dX12_restore_54 : decode cX12_restore 54 = .ok (.aload_n 0, 1) := by decide +kernel
theorem dX12_restore_55 : decode cX12_restore 55 = .ok (.getfield 41, 3) := by decide +kernel
theorem dX12_restore_58 : decode cX12_restore 58 = .ok (.iload_n 1, 1) := by decide +kernel
theorem dX12_restore_59 : decode cX12_restore 59 = .ok (.iconst 0, 1) := by decide +kernel
theorem dX12_restore_60 : decode cX12_restore 60 = .ok (.iastore, 1) := by decide +kernel
theorem dX12_restore_61 : decode cX12_restore 61 = .ok (.iinc 1 1, 3) := by decide +kernel
theorem dX12_restore_64 : decode cX12_restore 64 = .ok (.goto (-39), 3) := by decide +kernel
theorem dX12_restore_67 : decode cX12_restore 67 = .ok (.aload_n 0, 1) := by decide +kernel
theorem dX12_restore_68 : decode cX12_restore 68 = .ok (.getfield 87, 3) := by decide +kernel
theorem dX12_restore_71 : decode cX12_restore 71 = .ok (.ireturn, 1) := by decide +kernel
theorem dX12_status_0 : decode cX12_status 0 = .ok (.iload_n 1, 1) := by decide +kernel
theorem dX12_status_1 : decode cX12_status 1 = .ok (.bipush 11, 2) := by decide +kernel
theorem dX12_status_3 : decode cX12_status 3 = .ok (.if_icmp .lt 19, 3) := by decide +kernel
theorem dX12_status_6 : decode cX12_status 6 = .ok (.iload_n 1, 1) := by decide +kernel
theorem dX12_status_7 : decode cX12_status 7 = .ok (.bipush 17, 2) := by decide +kernel
theorem dX12_status_9 : decode cX12_status 9 = .ok (.if_icmp .gt 13, 3) := by decide +kernel
theorem dX12_status_12 : decode cX12_status 12 = .ok (.aload_n 0, 1) := by decide +kernel
theorem dX12_status_13 : decode cX12_status 13 = .ok (.getfield 16, 3) := by decide +kernel
theorem dX12_status_16 : decode cX12_status 16 = .ok (.iload_n 1, 1) := by decide +kernel
theorem dX12_status_17 : decode cX12_status 17 = .ok (.bipush 10, 2) := by decide +kernel
theorem dX12_status_19 : decode cX12_status 19 = .ok (.isub, 1) := by decide +kernel
theorem dX12_status_20 : decode cX12_status 20 = .ok (.iaload, 1) := by decide +kernel
theorem dX12_status_21 : decode cX12_status 21 = .ok (.ireturn, 1) := by decide +kernel
theorem dX12_status_22 : decode cX12_status 22 = .ok (.iconst 0, 1) := by decide +kernel
theorem dX12_status_23 : decode cX12_status 23 = .ok (.istore_n 2, 1) := by decide +kernel
theorem dX12_status_24 : decode cX12_status 24 = .ok (.iload_n 1, 1) := by decide +kernel
theorem dX12_status_25 : decode cX12_status 25 = .ok (.tableswitch 112 0 6 #[43, 48, 53, 58, 84, 102, 107], 43) := by decide +kernel
theorem dX12_status_68 : decode cX12_status 68 = .ok (.aload_n 0, 1) := by decide +kernel
theorem dX12_status_69 : decode cX12_status 69 = .ok (.getfield 81, 3) := by decide +kernel
theorem dX12_status_72 : decode cX12_status 72 = .ok (.ireturn, 1) := by decide +kernel
theorem dX12_status_73 : decode cX12_status 73 = .ok (.aload_n 0, 1) := by decide +kernel
theorem dX12_status_74 : decode cX12_status 74 = .ok (.getfield 84, 3) := by decide +kernel
theorem dX12_status_77 : decode cX12_status 77 = .ok (.ireturn, 1) := by decide +kernel
theorem dX12_status_78 : decode cX12_status 78 = .ok (.aload_n 0, 1) := by decide +kernel
theorem dX12_status_79 : decode cX12_status 79 = .ok (.getfield 87, 3) := by decide +kernel
theorem dX12_status_82 : decode cX12_status 82 = .ok (.ireturn, 1) := by decide +kernel
theorem dX12_status_83 : decode cX12_status 83 = .ok (.iconst 0, 1) := by decide +kernel
theorem dX12_status_84 : decode cX12_status 84 = .ok (.istore_n 3, 1) := by decide +kernel
theorem dX12_status_85 : decode cX12_status 85 = .ok (.iload_n 3, 1) := by decide +kernel
theorem dX12_status_86 : decode cX12_status 86 = .ok (.aload_n 0, 1) := by decide +kernel
theorem dX12_status_87 : decode cX12_status 87 = .ok (.getfield 81, 3) := by decide +kernel
theorem dX12_status_90 : decode cX12_status 90 = .ok (.if_icmp .ge 17, 3) := by decide +kernel
theorem dX12_status_93 : decode cX12_status 93 = .ok (.iload_n 2, 1) := by decide +kernel
theorem dX12_status_94 : decode cX12_status 94 = .ok (.aload_n 0, 1) := by decide +kernel
theorem dX12_status_95 : decode cX12_status 95 = .ok (.iload_n 3, 1) := by decide +kernel
theorem dX12_status_96 : decode cX12_status 96 = .ok (.invokevirtual 101, 3) := by decide +kernel
theorem dX12_status_99 : decode cX12_status 99 = .ok (.iadd, 1) := by decide +kernel
theorem dX12_status_100 : decode cX12_status 100 = .ok (.istore_n 2, 1) := by decide +kernel
theorem dX12_status_101 : decode cX12_status 101 = .ok (.iinc 3 1, 3) := by decide +kernel
theorem dX12_status_104 : decode cX12_status 104 = .ok (.goto (-19), 3) := by decide +kernel
theorem dX12_status_107 : decode cX12_status 107 = .ok (.iload_n 2, 1) := by decide +kernel
theorem dX12_status_108 : decode cX12_status 108 = .ok (.ireturn, 1) := by decide +kernel
theorem dX12_status_109 : decode cX12_status 109 = .ok (.aload_n 0, 1) := by decide +kernel
theorem dX12_status_110 : decode cX12_status 110 = .ok (.getfield 84, 3) := by decide +kernel
theorem dX12_status_113 : decode cX12_status 113 = .ok (.ifCond .ne 7, 3) := by decide +kernel
theorem dX12_status_116 : decode cX12_status 116 = .ok (.iconst (-1), 1) := by decide +kernel
theorem dX12_status_117 : decode cX12_status 117 = .ok (.goto 9, 3) := by decide +kernel
theorem dX12_status_120 : decode cX12_status 120 = .ok (.aload_n 0, 1) := by decide +kernel
theorem dX12_status_121 : decode cX12_status 121 = .ok (.getfield 32, 3) := by decide +kernel
theorem dX12_status_124 : decode cX12_status 124 = .ok (.iconst 0, 1) := by decide +kernel
theorem dX12_status_125 : decode cX12_status 125 = .ok (.iaload, 1) := by decide +kernel
theorem dX12_status_126 : decode cX12_status 126 = .ok (.ireturn, 1) := by decide +kernel
theorem dX12_status_127 : decode cX12_status 127 = .ok (.aload_n 0, 1) := by decide +kernel
theorem dX12_status_128 : decode cX12_status 128 = .ok (.getfield 7, 3) := by decide +kernel
theorem dX12_status_131 : decode cX12_status 131 = .ok (.ireturn, 1) := by decide +kernel
theorem dX12_status_132 : decode cX12_status 132 = .ok (.aload_n 0, 1) := by decide +kernel
theorem dX12_status_133 : decode cX12_status 133 = .ok (.getfield 226, 3) := by decide +kernel
theorem dX12_status_136 : decode cX12_status 136 = .ok (.ireturn, 1) := by decide +kernel
theorem dX12_status_137 : decode cX12_status 137 = .ok (.iconst (-1), 1) := by decide +kernel
theorem dX12_status_138 : decode cX12_status 138 = .ok (.ireturn, 1) := by decide +kernel
