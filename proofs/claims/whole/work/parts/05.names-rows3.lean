theorem dX7_init_89 : decode cX7_init 89 = .ok (.iastore, 1) := by decide +kernel
theorem dX7_init_90 : decode cX7_init 90 = .ok (.dup, 1) := by decide +kernel
theorem dX7_init_91 : decode cX7_init 91 = .ok (.bipush 9, 2) := by decide +kernel
theorem dX7_init_93 : decode cX7_init 93 = .ok (.bipush 97, 2) := by decide +kernel
theorem dX7_init_95 : decode cX7_init 95 = .ok (.iastore, 1) := by decide +kernel
theorem dX7_init_96 : decode cX7_init 96 = .ok (.dup, 1) := by decide +kernel
theorem dX7_init_97 : decode cX7_init 97 = .ok (.bipush 10, 2) := by decide +kernel
theorem dX7_init_99 : decode cX7_init 99 = .ok (.bipush 103, 2) := by decide +kernel
theorem dX7_init_101 : decode cX7_init 101 = .ok (.iastore, 1) := by decide +kernel
theorem dX7_init_102 : decode cX7_init 102 = .ok (.dup, 1) := by decide +kernel
theorem dX7_init_103 : decode cX7_init 103 = .ok (.bipush 11, 2) := by decide +kernel
theorem dX7_init_105 : decode cX7_init 105 = .ok (.bipush 101, 2) := by decide +kernel
theorem dX7_init_107 : decode cX7_init 107 = .ok (.iastore, 1) := by decide +kernel
theorem dX7_init_108 : decode cX7_init 108 = .ok (.dup, 1) := by decide +kernel
theorem dX7_init_109 : decode cX7_init 109 = .ok (.bipush 12, 2) := by decide +kernel
theorem dX7_init_111 : decode cX7_init 111 = .ok (.bipush 115, 2) := by decide +kernel
theorem dX7_init_113 : decode cX7_init 113 = .ok (.iastore, 1) := by decide +kernel
theorem dX7_init_114 : decode cX7_init 114 = .ok (.dup, 1) := by decide +kernel
theorem dX7_init_115 : decode cX7_init 115 = .ok (.bipush 13, 2) := by decide +kernel
theorem dX7_init_117 : decode cX7_init 117 = .ok (.iconst 0, 1) := by decide +kernel
theorem dX7_init_118 : decode cX7_init 118 = .ok (.iastore, 1) := by decide +kernel
theorem dX7_init_119 : decode cX7_init 119 = .ok (.dup, 1) := by decide +kernel
theorem dX7_init_120 : decode cX7_init 120 = .ok (.bipush 14, 2) := by decide +kernel
theorem dX7_init_122 : decode cX7_init 122 = .ok (.iconst 0, 1) := by decide +kernel
theorem dX7_init_123 : decode cX7_init 123 = .ok (.iastore, 1) := by decide +kernel
theorem dX7_init_124 : decode cX7_init 124 = .ok (.dup, 1) := by decide +kernel
theorem dX7_init_125 : decode cX7_init 125 = .ok (.bipush 15, 2) := by decide +kernel
theorem dX7_init_127 : decode cX7_init 127 = .ok (.iconst 0, 1) := by decide +kernel
theorem dX7_init_128 : decode cX7_init 128 = .ok (.iastore, 1) := by decide +kernel
theorem dX7_init_129 : decode cX7_init 129 = .ok (.dup, 1) := by decide +kernel
theorem dX7_init_130 : decode cX7_init 130 = .ok (.bipush 16, 2) := by decide +kernel
theorem dX7_init_132 : decode cX7_init 132 = .ok (.bipush 104, 2) := by decide +kernel
theorem dX7_init_134 : decode cX7_init 134 = .ok (.iastore, 1) := by decide +kernel
theorem dX7_init_135 : decode cX7_init 135 = .ok (.dup, 1) := by decide +kernel
theorem dX7_init_136 : decode cX7_init 136 = .ok (.bipush 17, 2) := by decide +kernel
theorem dX7_init_138 : decode cX7_init 138 = .ok (.bipush 111, 2) := by decide +kernel
theorem dX7_init_140 : decode cX7_init 140 = .ok (.iastore, 1) := by decide +kernel
theorem dX7_init_141 : decode cX7_init 141 = .ok (.dup, 1) := by decide +kernel
theorem dX7_init_142 : decode cX7_init 142 = .ok (.bipush 18, 2) := by decide +kernel
theorem dX7_init_144 : decode cX7_init 144 = .ok (.bipush 109, 2) := by decide +kernel
theorem dX7_init_146 : decode cX7_init 146 = .ok (.iastore, 1) := by decide +kernel
theorem dX7_init_147 : decode cX7_init 147 = .ok (.dup, 1) := by decide +kernel
theorem dX7_init_148 : decode cX7_init 148 = .ok (.bipush 19, 2) := by decide +kernel
theorem dX7_init_150 : decode cX7_init 150 = .ok (.bipush 101, 2) := by decide +kernel
theorem dX7_init_152 : decode cX7_init 152 = .ok (.iastore, 1) := by decide +kernel
theorem dX7_init_153 : decode cX7_init 153 = .ok (.dup, 1) := by decide +kernel
theorem dX7_init_154 : decode cX7_init 154 = .ok (.bipush 20, 2) := by decide +kernel
theorem dX7_init_156 : decode cX7_init 156 = .ok (.iconst 0, 1) := by decide +kernel
theorem dX7_init_157 : decode cX7_init 157 = .ok (.iastore, 1) := by decide +kernel
theorem dX7_init_158 : decode cX7_init 158 = .ok (.dup, 1) := by decide +kernel
theorem dX7_init_159 : decode cX7_init 159 = .ok (.bipush 21, 2) := by decide +kernel
theorem dX7_init_161 : decode cX7_init 161 = .ok (.iconst 0, 1) := by decide +kernel
theorem dX7_init_162 : decode cX7_init 162 = .ok (.iastore, 1) := by decide +kernel
theorem dX7_init_163 : decode cX7_init 163 = .ok (.dup, 1) := by decide +kernel
theorem dX7_init_164 : decode cX7_init 164 = .ok (.bipush 22, 2) := by decide +kernel
theorem dX7_init_166 : decode cX7_init 166 = .ok (.iconst 0, 1) := by decide +kernel
theorem dX7_init_167 : decode cX7_init 167 = .ok (.iastore, 1) := by decide +kernel
theorem dX7_init_168 : decode cX7_init 168 = .ok (.dup, 1) := by decide +kernel
theorem dX7_init_169 : decode cX7_init 169 = .ok (.bipush 23, 2) := by decide +kernel
theorem dX7_init_171 : decode cX7_init 171 = .ok (.iconst 0, 1) := by decide +kernel
theorem dX7_init_172 : decode cX7_init 172 = .ok (.iastore, 1) := by decide +kernel
theorem dX7_init_173 : decode cX7_init 173 = .ok (.dup, 1) := by decide +kernel
theorem dX7_init_174 : decode cX7_init 174 = .ok (.bipush 24, 2) := by decide +kernel
theorem dX7_init_176 : decode cX7_init 176 = .ok (.bipush 117, 2) := by decide +kernel
theorem dX7_init_178 : decode cX7_init 178 = .ok (.iastore, 1) := by decide +kernel
theorem dX7_init_179 : decode cX7_init 179 = .ok (.dup, 1) := by decide +kernel
theorem dX7_init_180 : decode cX7_init 180 = .ok (.bipush 25, 2) := by decide +kernel
theorem dX7_init_182 : decode cX7_init 182 = .ok (.bipush 115, 2) := by decide +kernel
theorem dX7_init_184 : decode cX7_init 184 = .ok (.iastore, 1) := by decide +kernel
theorem dX7_init_185 : decode cX7_init 185 = .ok (.dup, 1) := by decide +kernel
theorem dX7_init_186 : decode cX7_init 186 = .ok (.bipush 26, 2) := by decide +kernel
theorem dX7_init_188 : decode cX7_init 188 = .ok (.bipush 101, 2) := by decide +kernel
theorem dX7_init_190 : decode cX7_init 190 = .ok (.iastore, 1) := by decide +kernel
theorem dX7_init_191 : decode cX7_init 191 = .ok (.dup, 1) := by decide +kernel
theorem dX7_init_192 : decode cX7_init 192 = .ok (.bipush 27, 2) := by decide +kernel
theorem dX7_init_194 : decode cX7_init 194 = .ok (.bipush 115, 2) := by decide +kernel
theorem dX7_init_196 : decode cX7_init 196 = .ok (.iastore, 1) := by decide +kernel
theorem dX7_init_197 : decode cX7_init 197 = .ok (.dup, 1) := by decide +kernel
theorem dX7_init_198 : decode cX7_init 198 = .ok (.bipush 28, 2) := by decide +kernel
theorem dX7_init_200 : decode cX7_init 200 = .ok (.iconst 0, 1) := by decide +kernel
theorem dX7_init_201 : decode cX7_init 201 = .ok (.iastore, 1) := by decide +kernel
theorem dX7_init_202 : decode cX7_init 202 = .ok (.dup, 1) := by decide +kernel
theorem dX7_init_203 : decode cX7_init 203 = .ok (.bipush 29, 2) := by decide +kernel
theorem dX7_init_205 : decode cX7_init 205 = .ok (.iconst 0, 1) := by decide +kernel
theorem dX7_init_206 : decode cX7_init 206 = .ok (.iastore, 1) := by decide +kernel
theorem dX7_init_207 : decode cX7_init 207 = .ok (.dup, 1) := by decide +kernel
theorem dX7_init_208 : decode cX7_init 208 = .ok (.bipush 30, 2) := by decide +kernel
theorem dX7_init_210 : decode cX7_init 210 = .ok (.iconst 0, 1) := by decide +kernel
theorem dX7_init_211 : decode cX7_init 211 = .ok (.iastore, 1) := by decide +kernel
theorem dX7_init_212 : decode cX7_init 212 = .ok (.dup, 1) := by decide +kernel
theorem dX7_init_213 : decode cX7_init 213 = .ok (.bipush 31, 2) := by decide +kernel
theorem dX7_init_215 : decode cX7_init 215 = .ok (.iconst 0, 1) := by decide +kernel
theorem dX7_init_216 : decode cX7_init 216 = .ok (.iastore, 1) := by decide +kernel
theorem dX7_init_217 : decode cX7_init 217 = .ok (.dup, 1) := by decide +kernel
theorem dX7_init_218 : decode cX7_init 218 = .ok (.bipush 32, 2) := by decide +kernel
theorem dX7_init_220 : decode cX7_init 220 = .ok (.bipush 97, 2) := by decide +kernel
theorem dX7_init_222 : decode cX7_init 222 = .ok (.iastore, 1) := by decide +kernel
theorem dX7_init_223 : decode cX7_init 223 = .ok (.dup, 1) := by decide +kernel
theorem dX7_init_224 : decode cX7_init 224 = .ok (.bipush 33, 2) := by decide +kernel
theorem dX7_init_226 : decode cX7_init 226 = .ok (.bipush 104, 2) := by decide +kernel
theorem dX7_init_228 : decode cX7_init 228 = .ok (.iastore, 1) := by decide +kernel
theorem dX7_init_229 : decode cX7_init 229 = .ok (.dup, 1) := by decide +kernel
theorem dX7_init_230 : decode cX7_init 230 = .ok (.bipush 34, 2) := by decide +kernel
theorem dX7_init_232 : decode cX7_init 232 = .ok (.bipush 101, 2) := by decide +kernel
theorem dX7_init_234 : decode cX7_init 234 = .ok (.iastore, 1) := by decide +kernel
theorem dX7_init_235 : decode cX7_init 235 = .ok (.dup, 1) := by decide +kernel
theorem dX7_init_236 : decode cX7_init 236 = .ok (.bipush 35, 2) := by decide +kernel
theorem dX7_init_238 : decode cX7_init 238 = .ok (.bipush 97, 2) := by decide +kernel
theorem dX7_init_240 : decode cX7_init 240 = .ok (.iastore, 1) := by decide +kernel
theorem dX7_init_241 : decode cX7_init 241 = .ok (.dup, 1) := by decide +kernel
theorem dX7_init_242 : decode cX7_init 242 = .ok (.bipush 36, 2) := by decide +kernel
theorem dX7_init_244 : decode cX7_init 244 = .ok (.bipush 100, 2) := by decide +kernel
theorem dX7_init_246 : decode cX7_init 246 = .ok (.iastore, 1) := by decide +kernel
theorem dX7_init_247 : decode cX7_init 247 = .ok (.dup, 1) := by decide +kernel
theorem dX7_init_248 : decode cX7_init 248 = .ok (.bipush 37, 2) := by decide +kernel
theorem dX7_init_250 : decode cX7_init 250 = .ok (.iconst 0, 1) := by decide +kernel
theorem dX7_init_251 : decode cX7_init 251 = .ok (.iastore, 1) := by decide +kernel
theorem dX7_init_252 : decode cX7_init 252 = .ok (.dup, 1) := by decide +kernel
theorem dX7_init_253 : decode cX7_init 253 = .ok (.bipush 38, 2) := by decide +kernel
theorem dX7_init_255 : decode cX7_init 255 = .ok (.iconst 0, 1) := by decide +kernel
theorem dX7_init_256 : decode cX7_init 256 = .ok (.iastore, 1) := by decide +kernel
theorem dX7_init_257 : decode cX7_init 257 = .ok (.dup, 1) := by decide +kernel
theorem dX7_init_258 : decode cX7_init 258 = .ok (.bipush 39, 2) := by decide +kernel
theorem dX7_init_260 : decode cX7_init 260 = .ok (.iconst 0, 1) := by decide +kernel
theorem dX7_init_261 : decode cX7_init 261 = .ok (.iastore, 1) := by decide +kernel
theorem dX7_init_262 : decode cX7_init 262 = .ok (.dup, 1) := by decide +kernel
theorem dX7_init_263 : decode cX7_init 263 = .ok (.bipush 40, 2) := by decide +kernel
theorem dX7_init_265 : decode cX7_init 265 = .ok (.bipush 111, 2) := by decide +kernel
theorem dX7_init_267 : decode cX7_init 267 = .ok (.iastore, 1) := by decide +kernel
theorem dX7_init_268 : decode cX7_init 268 = .ok (.dup, 1) := by decide +kernel
theorem dX7_init_269 : decode cX7_init 269 = .ok (.bipush 41, 2) := by decide +kernel
theorem dX7_init_271 : decode cX7_init 271 = .ok (.bipush 114, 2) := by decide +kernel
theorem dX7_init_273 : decode cX7_init 273 = .ok (.iastore, 1) := by decide +kernel
theorem dX7_init_274 : decode cX7_init 274 = .ok (.dup, 1) := by decide +kernel
theorem dX7_init_275 : decode cX7_init 275 = .ok (.bipush 42, 2) := by decide +kernel
theorem dX7_init_277 : decode cX7_init 277 = .ok (.bipush 100, 2) := by decide +kernel
theorem dX7_init_279 : decode cX7_init 279 = .ok (.iastore, 1) := by decide +kernel
theorem dX7_init_280 : decode cX7_init 280 = .ok (.dup, 1) := by decide +kernel
theorem dX7_init_281 : decode cX7_init 281 = .ok (.bipush 43, 2) := by decide +kernel
theorem dX7_init_283 : decode cX7_init 283 = .ok (.bipush 101, 2) := by decide +kernel
theorem dX7_init_285 : decode cX7_init 285 = .ok (.iastore, 1) := by decide +kernel
theorem dX7_init_286 : decode cX7_init 286 = .ok (.dup, 1) := by decide +kernel
theorem dX7_init_287 : decode cX7_init 287 = .ok (.bipush 44, 2) := by decide +kernel
theorem dX7_init_289 : decode cX7_init 289 = .ok (.bipush 114, 2) := by decide +kernel
theorem dX7_init_291 : decode cX7_init 291 = .ok (.iastore, 1) := by decide +kernel
theorem dX7_init_292 : decode cX7_init 292 = .ok (.dup, 1) := by decide +kernel
theorem dX7_init_293 : decode cX7_init 293 = .ok (.bipush 45, 2) := by decide +kernel
theorem dX7_init_295 : decode cX7_init 295 = .ok (.iconst 0, 1) := by decide +kernel
theorem dX7_init_296 : decode cX7_init 296 = .ok (.iastore, 1) := by decide +kernel
theorem dX7_init_297 : decode cX7_init 297 = .ok (.dup, 1) := by decide +kernel
theorem dX7_init_298 : decode cX7_init 298 = .ok (.bipush 46, 2) := by decide +kernel
theorem dX7_init_300 : decode cX7_init 300 = .ok (.iconst 0, 1) := by decide +kernel
theorem dX7_init_301 : decode cX7_init 301 = .ok (.iastore, 1) := by decide +kernel
theorem dX7_init_302 : decode cX7_init 302 = .ok (.dup, 1) := by decide +kernel
theorem dX7_init_303 : decode cX7_init 303 = .ok (.bipush 47, 2) := by decide +kernel
theorem dX7_init_305 : decode cX7_init 305 = .ok (.iconst 0, 1) := by decide +kernel
theorem dX7_init_306 : decode cX7_init 306 = .ok (.iastore, 1) := by decide +kernel
theorem dX7_init_307 : decode cX7_init 307 = .ok (.putfield 23, 3) := by decide +kernel
theorem dX7_init_310 : decode cX7_init 310 = .ok (.aload_n 0, 1) := by decide +kernel
theorem dX7_init_311 : decode cX7_init 311 = .ok (.sipush 1024, 3) := by decide +kernel
theorem dX7_init_314 : decode cX7_init 314 = .ok (.newarray .int, 2) := by decide +kernel
theorem dX7_init_316 : decode cX7_init 316 = .ok (.putfield 26, 3) := by decide +kernel
theorem dX7_init_319 : decode cX7_init 319 = .ok (.aload_n 0, 1) := by decide +kernel
theorem dX7_init_320 : decode cX7_init 320 = .ok (.sipush 1024, 3) := by decide +kernel
theorem dX7_init_323 : decode cX7_init 323 = .ok (.newarray .int, 2) := by decide +kernel
theorem dX7_init_325 : decode cX7_init 325 = .ok (.putfield 29, 3) := by decide +kernel
theorem dX7_init_328 : decode cX7_init 328 = .ok (.aload_n 0, 1) := by decide +kernel
theorem dX7_init_329 : decode cX7_init 329 = .ok (.iconst 4, 1) := by decide +kernel
theorem dX7_init_330 : decode cX7_init 330 = .ok (.invokevirtual 32, 3) := by decide +kernel
theorem dX7_init_333 : decode cX7_init 333 = .ok (.return_, 1) := by decide +kernel
theorem dX7_begins_0 : decode cX7_begins 0 = .ok (.aload_n 0, 1) := by decide +kernel
theorem dX7_begins_1 : decode cX7_begins 1 = .ok (.getfield 7, 3) := by decide +kernel
theorem dX7_begins_4 : decode cX7_begins 4 = .ok (.iconst 0, 1) := by decide +kernel
theorem dX7_begins_5 : decode cX7_begins 5 = .ok (.iload_n 1, 1) := by decide +kernel
theorem dX7_begins_6 : decode cX7_begins 6 = .ok (.iastore, 1) := by decide +kernel
theorem dX7_begins_7 : decode cX7_begins 7 = .ok (.iconst 0, 1) := by decide +kernel
theorem dX7_begins_8 : decode cX7_begins 8 = .ok (.istore_n 2, 1) := by decide +kernel
theorem dX7_begins_9 : decode cX7_begins 9 = .ok (.iload_n 2, 1) := by decide +kernel
theorem dX7_begins_10 : decode cX7_begins 10 = .ok (.bipush 10, 2) := by decide +kernel
theorem dX7_begins_12 : decode cX7_begins 12 = .ok (.if_icmp .ge 48, 3) := by decide +kernel
theorem dX7_begins_15 : decode cX7_begins 15 = .ok (.aload_n 0, 1) := by decide +kernel
theorem dX7_begins_16 : decode cX7_begins 16 = .ok (.getfield 7, 3) := by decide +kernel
theorem dX7_begins_19 : decode cX7_begins 19 = .ok (.iconst 1, 1) := by decide +kernel
theorem dX7_begins_20 : decode cX7_begins 20 = .ok (.iload_n 2, 1) := by decide +kernel
theorem dX7_begins_21 : decode cX7_begins 21 = .ok (.iadd, 1) := by decide +kernel
theorem dX7_begins_22 : decode cX7_begins 22 = .ok (.iconst 1, 1) := by decide +kernel
theorem dX7_begins_23 : decode cX7_begins 23 = .ok (.iastore, 1) := by decide +kernel
theorem dX7_begins_24 : decode cX7_begins 24 = .ok (.aload_n 0, 1) := by decide +kernel
theorem dX7_begins_25 : decode cX7_begins 25 = .ok (.getfield 7, 3) := by decide +kernel
theorem dX7_begins_28 : decode cX7_begins 28 = .ok (.bipush 23, 2) := by decide +kernel
theorem dX7_begins_30 : decode cX7_begins 30 = .ok (.iload_n 2, 1) := by decide +kernel
theorem dX7_begins_31 : decode cX7_begins 31 = .ok (.iadd, 1) := by decide +kernel
theorem dX7_begins_32 : decode cX7_begins 32 = .ok (.iconst 0, 1) := by decide +kernel
theorem dX7_begins_33 : decode cX7_begins 33 = .ok (.iastore, 1) := by decide +kernel
theorem dX7_begins_34 : decode cX7_begins 34 = .ok (.aload_n 0, 1) := by decide +kernel
theorem dX7_begins_35 : decode cX7_begins 35 = .ok (.getfield 7, 3) := by decide +kernel
theorem dX7_begins_38 : decode cX7_begins 38 = .ok (.bipush 33, 2) := by decide +kernel
theorem dX7_begins_40 : decode cX7_begins 40 = .ok (.iload_n 2, 1) := by decide +kernel
theorem dX7_begins_41 : decode cX7_begins 41 = .ok (.iadd, 1) := by decide +kernel
theorem dX7_begins_42 : decode cX7_begins 42 = .ok (.iload_n 2, 1) := by decide +kernel
theorem dX7_begins_43 : decode cX7_begins 43 = .ok (.iastore, 1) := by decide +kernel
theorem dX7_begins_44 : decode cX7_begins 44 = .ok (.aload_n 0, 1) := by decide +kernel
theorem dX7_begins_45 : decode cX7_begins 45 = .ok (.getfield 7, 3) := by decide +kernel
theorem dX7_begins_48 : decode cX7_begins 48 = .ok (.bipush 43, 2) := by decide +kernel
theorem dX7_begins_50 : decode cX7_begins 50 = .ok (.iload_n 2, 1) := by decide +kernel
theorem dX7_begins_51 : decode cX7_begins 51 = .ok (.iadd, 1) := by decide +kernel
theorem dX7_begins_52 : decode cX7_begins 52 = .ok (.iconst 0, 1) := by decide +kernel
theorem dX7_begins_53 : decode cX7_begins 53 = .ok (.iastore, 1) := by decide +kernel
theorem dX7_begins_54 : decode cX7_begins 54 = .ok (.iinc 2 1, 3) := by decide +kernel
theorem dX7_begins_57 : decode cX7_begins 57 = .ok (.goto (-48), 3) := by decide +kernel
theorem dX7_begins_60 : decode cX7_begins 60 = .ok (.iconst 0, 1) := by decide +kernel
theorem dX7_begins_61 : decode cX7_begins 61 = .ok (.istore_n 2, 1) := by decide +kernel
theorem dX7_begins_62 : decode cX7_begins 62 = .ok (.iload_n 2, 1) := by decide +kernel
theorem dX7_begins_63 : decode cX7_begins 63 = .ok (.bipush 12, 2) := by decide +kernel
theorem dX7_begins_65 : decode cX7_begins 65 = .ok (.if_icmp .ge 19, 3) := by decide +kernel
theorem dX7_begins_68 : decode cX7_begins 68 = .ok (.aload_n 0, 1) := by decide +kernel
theorem dX7_begins_69 : decode cX7_begins 69 = .ok (.getfield 7, 3) := by decide +kernel
theorem dX7_begins_72 : decode cX7_begins 72 = .ok (.bipush 11, 2) := by decide +kernel
theorem dX7_begins_74 : decode cX7_begins 74 = .ok (.iload_n 2, 1) := by decide +kernel
theorem dX7_begins_75 : decode cX7_begins 75 = .ok (.iadd, 1) := by decide +kernel
theorem dX7_begins_76 : decode cX7_begins 76 = .ok (.iconst (-1), 1) := by decide +kernel
theorem dX7_begins_77 : decode cX7_begins 77 = .ok (.iastore, 1) := by decide +kernel
theorem dX7_begins_78 : decode cX7_begins 78 = .ok (.iinc 2 1, 3) := by decide +kernel
theorem dX7_begins_81 : decode cX7_begins 81 = .ok (.goto (-19), 3) := by decide +kernel
theorem dX7_begins_84 : decode cX7_begins 84 = .ok (.return_, 1) := by decide +kernel
theorem dX7_in_0 : decode cX7_in 0 = .ok (.lload_n 0, 1) := by decide +kernel
theorem dX7_in_1 : decode cX7_in 1 = .ok (.lload_n 2, 1) := by decide +kernel
theorem dX7_in_2 : decode cX7_in 2 = .ok (.lcmp, 1) := by decide +kernel
theorem dX7_in_3 : decode cX7_in 3 = .ok (.ifCond .lt 14, 3) := by decide +kernel
theorem dX7_in_6 : decode cX7_in 6 = .ok (.lload_n 0, 1) := by decide +kernel
theorem dX7_in_7 : decode cX7_in 7 = .ok (.lload 4, 2) := by decide +kernel
theorem dX7_in_9 : decode cX7_in 9 = .ok (.lcmp, 1) := by decide +kernel
theorem dX7_in_10 : decode cX7_in 10 = .ok (.ifCond .gt 7, 3) := by decide +kernel
theorem dX7_in_13 : decode cX7_in 13 = .ok (.iconst 1, 1) := by decide +kernel
theorem dX7_in_14 : decode cX7_in 14 = .ok (.goto 4, 3) := by decide +kernel
theorem dX7_in_17 : decode cX7_in 17 = .ok (.iconst 0, 1) := by decide +kernel
theorem dX7_in_18 : decode cX7_in 18 = .ok (.ireturn, 1) := by decide +kernel
theorem dX7_has_0 : decode cX7_has 0 = .ok (.iload_n 0, 1) := by decide +kernel
theorem dX7_has_1 : decode cX7_has 1 = .ok (.iload_n 1, 1) := by decide +kernel
theorem dX7_has_2 : decode cX7_has 2 = .ok (.ishr, 1) := by decide +kernel
theorem dX7_has_3 : decode cX7_has 3 = .ok (.iconst 1, 1) := by decide +kernel
theorem dX7_has_4 : decode cX7_has 4 = .ok (.iand, 1) := by decide +kernel
theorem dX7_has_5 : decode cX7_has 5 = .ok (.iconst 1, 1) := by decide +kernel
theorem dX7_has_6 : decode cX7_has 6 = .ok (.if_icmp .ne 7, 3) := by decide +kernel
theorem dX7_has_9 : decode cX7_has 9 = .ok (.iconst 1, 1) := by decide +kernel
theorem dX7_has_10 : decode cX7_has 10 = .ok (.goto 4, 3) := by decide +kernel
theorem dX7_has_13 : decode cX7_has 13 = .ok (.iconst 0, 1) := by decide +kernel
theorem dX7_has_14 : decode cX7_has 14 = .ok (.ireturn, 1) := by decide +kernel
theorem dX7_ones_0 : decode cX7_ones 0 = .ok (.iconst 0, 1) := by decide +kernel
theorem dX7_ones_1 : decode cX7_ones 1 = .ok (.istore_n 1, 1) := by decide +kernel
theorem dX7_ones_2 : decode cX7_ones 2 = .ok (.iconst 0, 1) := by decide +kernel
theorem dX7_ones_3 : decode cX7_ones 3 = .ok (.istore_n 2, 1) := by decide +kernel
theorem dX7_ones_4 : decode cX7_ones 4 = .ok (.iload_n 2, 1) := by decide +kernel
theorem dX7_ones_5 : decode cX7_ones 5 = .ok (.bipush 12, 2) := by decide +kernel
theorem dX7_ones_7 : decode cX7_ones 7 = .ok (.if_icmp .ge 17, 3) := by decide +kernel
theorem dX7_ones_10 : decode cX7_ones 10 = .ok (.iload_n 1, 1) := by decide +kernel
theorem dX7_ones_11 : decode cX7_ones 11 = .ok (.iload_n 0, 1) := by decide +kernel
theorem dX7_ones_12 : decode cX7_ones 12 = .ok (.iload_n 2, 1) := by decide +kernel
theorem dX7_ones_13 : decode cX7_ones 13 = .ok (.ishr, 1) := by decide +kernel
theorem dX7_ones_14 : decode cX7_ones 14 = .ok (.iconst 1, 1) := by decide +kernel
theorem dX7_ones_15 : decode cX7_ones 15 = .ok (.iand, 1) := by decide +kernel
theorem dX7_ones_16 : decode cX7_ones 16 = .ok (.iadd, 1) := by decide +kernel
theorem dX7_ones_17 : decode cX7_ones 17 = .ok (.istore_n 1, 1) := by decide +kernel
theorem dX7_ones_18 : decode cX7_ones 18 = .ok (.iinc 2 1, 3) := by decide +kernel
theorem dX7_ones_21 : decode cX7_ones 21 = .ok (.goto (-17), 3) := by decide +kernel
theorem dX7_ones_24 : decode cX7_ones 24 = .ok (.iload_n 1, 1) := by decide +kernel
theorem dX7_ones_25 : decode cX7_ones 25 = .ok (.ireturn, 1) := by decide +kernel
set_option maxRecDepth 20000 in
theorem ggX7_isSection_X7_in : GoodIn wsX7_isSection wsX7_in := goodIn_r _ [5] (by decide +kernel) (by decide +kernel)
set_option maxRecDepth 20000 in
theorem gX7_isSection_X7_in : GoodIn wsX7_isSection (va_wsS RX7 36 yX7_in wsX7_in) := goodIn_app (goodIn_of _ (by decide +kernel)) ggX7_isSection_X7_in
theorem dX7_isSection_0 : decode cX7_isSection 0 = .ok (.iload_n 1, 1) := by decide +kernel
theorem dX7_isSection_1 : decode cX7_isSection 1 = .ok (.i2l, 1) := by decide +kernel
theorem dX7_isSection_2 : decode cX7_isSection 2 = .ok (.lconst 0, 1) := by decide +kernel
theorem dX7_isSection_3 : decode cX7_isSection 3 = .ok (.aload_n 0, 1) := by decide +kernel
theorem dX7_isSection_4 : decode cX7_isSection 4 = .ok (.getfield 7, 3) := by decide +kernel
theorem dX7_isSection_7 : decode cX7_isSection 7 = .ok (.iconst 0, 1) := by decide +kernel
theorem dX7_isSection_8 : decode cX7_isSection 8 = .ok (.iaload, 1) := by decide +kernel
theorem dX7_isSection_9 : decode cX7_isSection 9 = .ok (.iconst 1, 1) := by decide +kernel
theorem dX7_isSection_10 : decode cX7_isSection 10 = .ok (.isub, 1) := by decide +kernel
theorem dX7_isSection_11 : decode cX7_isSection 11 = .ok (.i2l, 1) := by decide +kernel
theorem dX7_isSection_12 : decode cX7_isSection 12 = .ok (.invokestatic 36, 3) := by decide +kernel
theorem dX7_isSection_15 : decode cX7_isSection 15 = .ok (.ireturn, 1) := by decide +kernel
set_option maxRecDepth 20000 in
theorem ggX7_isTerm_X7_in : GoodIn wsX7_isTerm wsX7_in := goodIn_r _ [5] (by decide +kernel) (by decide +kernel)
set_option maxRecDepth 20000 in
theorem gX7_isTerm_X7_in : GoodIn wsX7_isTerm (va_wsS RX7 36 yX7_in wsX7_in) := goodIn_app (goodIn_of _ (by decide +kernel)) ggX7_isTerm_X7_in
theorem dX7_isTerm_0 : decode cX7_isTerm 0 = .ok (.iload_n 0, 1) := by decide +kernel
theorem dX7_isTerm_1 : decode cX7_isTerm 1 = .ok (.i2l, 1) := by decide +kernel
theorem dX7_isTerm_2 : decode cX7_isTerm 2 = .ok (.lconst 0, 1) := by decide +kernel
theorem dX7_isTerm_3 : decode cX7_isTerm 3 = .ok (.ldc2_w 40, 3) := by decide +kernel
theorem dX7_isTerm_6 : decode cX7_isTerm 6 = .ok (.invokestatic 36, 3) := by decide +kernel
theorem dX7_isTerm_9 : decode cX7_isTerm 9 = .ok (.ireturn, 1) := by decide +kernel
theorem dX7_placeOf_0 : decode cX7_placeOf 0 = .ok (.iconst 0, 1) := by decide +kernel
theorem dX7_placeOf_1 : decode cX7_placeOf 1 = .ok (.istore_n 2, 1) := by decide +kernel
theorem dX7_placeOf_2 : decode cX7_placeOf 2 = .ok (.aload_n 0, 1) := by decide +kernel
theorem dX7_placeOf_3 : decode cX7_placeOf 3 = .ok (.getfield 7, 3) := by decide +kernel
theorem dX7_placeOf_6 : decode cX7_placeOf 6 = .ok (.bipush 33, 2) := by decide +kernel
theorem dX7_placeOf_8 : decode cX7_placeOf 8 = .ok (.iload_n 2, 1) := by decide +kernel
theorem dX7_placeOf_9 : decode cX7_placeOf 9 = .ok (.iadd, 1) := by decide +kernel
theorem dX7_placeOf_10 : decode cX7_placeOf 10 = .ok (.iaload, 1) := by decide +kernel
theorem dX7_placeOf_11 : decode cX7_placeOf 11 = .ok (.iload_n 1, 1) := by decide +kernel
theorem dX7_placeOf_12 : decode cX7_placeOf 12 = .ok (.if_icmp .eq 9, 3) := by decide +kernel
theorem dX7_placeOf_15 : decode cX7_placeOf 15 = .ok (.iinc 2 1, 3) := by decide +kernel
theorem dX7_placeOf_18 : decode cX7_placeOf 18 = .ok (.goto (-16), 3) := by decide +kernel
theorem dX7_placeOf_21 : decode cX7_placeOf 21 = .ok (.iload_n 2, 1) := by decide +kernel
theorem dX7_placeOf_22 : decode cX7_placeOf 22 = .ok (.ireturn, 1) := by decide +kernel
set_option maxRecDepth 20000 in
theorem ggX7_write_X7_in : GoodIn wsX7_write wsX7_in := goodIn_r _ [7] (by decide +kernel) (by decide +kernel)
set_option maxRecDepth 20000 in
theorem gX7_write_X7_in : GoodIn wsX7_write (va_wsS RX7 36 yX7_in wsX7_in) := goodIn_app (goodIn_of _ (by decide +kernel)) ggX7_write_X7_in
theorem dX7_write_0 : decode cX7_write 0 = .ok (.iload_n 1, 1) := by decide +kernel
theorem dX7_write_1 : decode cX7_write 1 = .ok (.i2l, 1) := by decide +kernel
theorem dX7_write_2 : decode cX7_write 2 = .ok (.lconst 0, 1) := by decide +kernel
theorem dX7_write_3 : decode cX7_write 3 = .ok (.ldc2_w 42, 3) := by decide +kernel
theorem dX7_write_6 : decode cX7_write 6 = .ok (.invokestatic 36, 3) := by decide +kernel
theorem dX7_write_9 : decode cX7_write 9 = .ok (.ifCond .ne 6, 3) := by decide +kernel
theorem dX7_write_12 : decode cX7_write 12 = .ok (.bipush (-3), 2) := by decide +kernel
theorem dX7_write_14 : decode cX7_write 14 = .ok (.ireturn, 1) := by decide +kernel
theorem dX7_write_15 : decode cX7_write 15 = .ok (.aload_n 0, 1) := by decide +kernel
theorem dX7_write_16 : decode cX7_write 16 = .ok (.getfield 44, 3) := by decide +kernel
theorem dX7_write_19 : decode cX7_write 19 = .ok (.sipush 200, 3) := by decide +kernel
theorem dX7_write_22 : decode cX7_write 22 = .ok (.if_icmp .ne 6, 3) := by decide +kernel
theorem dX7_write_25 : decode cX7_write 25 = .ok (.bipush (-5), 2) := by decide +kernel
theorem dX7_write_27 : decode cX7_write 27 = .ok (.ireturn, 1) := by decide +kernel
theorem dX7_write_28 : decode cX7_write 28 = .ok (.aload_n 0, 1) := by decide +kernel
theorem dX7_write_29 : decode cX7_write 29 = .ok (.getfield 17, 3) := by decide +kernel
theorem dX7_write_32 : decode cX7_write 32 = .ok (.aload_n 0, 1) := by decide +kernel
theorem dX7_write_33 : decode cX7_write 33 = .ok (.getfield 44, 3) := by decide +kernel
theorem dX7_write_36 : decode cX7_write 36 = .ok (.iload_n 1, 1) := by decide +kernel
theorem dX7_write_37 : decode cX7_write 37 = .ok (.iastore, 1) := by decide +kernel
theorem dX7_write_38 : decode cX7_write 38 = .ok (.aload_n 0, 1) := by decide +kernel
theorem dX7_write_39 : decode cX7_write 39 = .ok (.dup, 1) := by decide +kernel
theorem dX7_write_40 : decode cX7_write 40 = .ok (.getfield 44, 3) := by decide +kernel
theorem dX7_write_43 : decode cX7_write 43 = .ok (.iconst 1, 1) := by decide +kernel
theorem dX7_write_44 : decode cX7_write 44 = .ok (.iadd, 1) := by decide +kernel
theorem dX7_write_45 : decode cX7_write 45 = .ok (.putfield 44, 3) := by decide +kernel
theorem dX7_write_48 : decode cX7_write 48 = .ok (.aload_n 0, 1) := by decide +kernel
theorem dX7_write_49 : decode cX7_write 49 = .ok (.getfield 44, 3) := by decide +kernel
theorem dX7_write_52 : decode cX7_write 52 = .ok (.ireturn, 1) := by decide +kernel
theorem dX7_erase_0 : decode cX7_erase 0 = .ok (.aload_n 0, 1) := by decide +kernel
theorem dX7_erase_1 : decode cX7_erase 1 = .ok (.getfield 44, 3) := by decide +kernel
theorem dX7_erase_4 : decode cX7_erase 4 = .ok (.istore_n 1, 1) := by decide +kernel
theorem dX7_erase_5 : decode cX7_erase 5 = .ok (.aload_n 0, 1) := by decide +kernel
theorem dX7_erase_6 : decode cX7_erase 6 = .ok (.iconst 0, 1) := by decide +kernel
theorem dX7_erase_7 : decode cX7_erase 7 = .ok (.putfield 44, 3) := by decide +kernel
theorem dX7_erase_10 : decode cX7_erase 10 = .ok (.iload_n 1, 1) := by decide +kernel
theorem dX7_erase_11 : decode cX7_erase 11 = .ok (.ireturn, 1) := by decide +kernel
set_option maxRecDepth 20000 in
theorem ggX7_isSmall_X7_in : GoodIn wsX7_isSmall wsX7_in := goodIn_r _ [6] (by decide +kernel) (by decide +kernel)
set_option maxRecDepth 20000 in
theorem gX7_isSmall_X7_in : GoodIn wsX7_isSmall (va_wsS RX7 36 yX7_in wsX7_in) := goodIn_app (goodIn_of _ (by decide +kernel)) ggX7_isSmall_X7_in
theorem dX7_isSmall_0 : decode cX7_isSmall 0 = .ok (.iload_n 0, 1) := by decide +kernel
theorem dX7_isSmall_1 : decode cX7_isSmall 1 = .ok (.i2l, 1) := by decide +kernel
theorem dX7_isSmall_2 : decode cX7_isSmall 2 = .ok (.ldc2_w 48, 3) := by decide +kernel
theorem dX7_isSmall_5 : decode cX7_isSmall 5 = .ok (.ldc2_w 50, 3) := by decide +kernel
theorem dX7_isSmall_8 : decode cX7_isSmall 8 = .ok (.invokestatic 36, 3) := by decide +kernel
theorem dX7_isSmall_11 : decode cX7_isSmall 11 = .ok (.ireturn, 1) := by decide +kernel
set_option maxRecDepth 20000 in
theorem ggX7_isDigit_X7_in : GoodIn wsX7_isDigit wsX7_in := goodIn_r _ [6] (by decide +kernel) (by decide +kernel)
set_option maxRecDepth 20000 in
theorem gX7_isDigit_X7_in : GoodIn wsX7_isDigit (va_wsS RX7 36 yX7_in wsX7_in) := goodIn_app (goodIn_of _ (by decide +kernel)) ggX7_isDigit_X7_in
theorem dX7_isDigit_0 : decode cX7_isDigit 0 = .ok (.iload_n 0, 1) := by decide +kernel
theorem dX7_isDigit_1 : decode cX7_isDigit 1 = .ok (.i2l, 1) := by decide +kernel
theorem dX7_isDigit_2 : decode cX7_isDigit 2 = .ok (.ldc2_w 52, 3) := by decide +kernel
theorem dX7_isDigit_5 : decode cX7_isDigit 5 = .ok (.ldc2_w 54, 3) := by decide +kernel
theorem dX7_isDigit_8 : decode cX7_isDigit 8 = .ok (.invokestatic 36, 3) := by decide +kernel
theorem dX7_isDigit_11 : decode cX7_isDigit 11 = .ok (.ireturn, 1) := by decide +kernel
set_option maxRecDepth 20000 in
theorem ggX7_next_X7_isSmall : GoodIn wsX7_next wsX7_isSmall := goodIn_r _ [8, 9, 10, 11, 12, 7, 13] (by decide +kernel) (by decide +kernel)
set_option maxRecDepth 20000 in
theorem gX7_next_X7_isSmall : GoodIn wsX7_next (va_wsS RX7 62 yX7_isSmall wsX7_isSmall) := goodIn_app (goodIn_of _ (by decide +kernel)) ggX7_next_X7_isSmall
set_option maxRecDepth 20000 in
theorem ggX7_next_X7_isDigit : GoodIn wsX7_next wsX7_isDigit := goodIn_r _ [16, 17, 18, 11, 12, 7, 13] (by decide +kernel) (by decide +kernel)
set_option maxRecDepth 20000 in
theorem gX7_next_X7_isDigit : GoodIn wsX7_next (va_wsS RX7 66 yX7_isDigit wsX7_isDigit) := goodIn_app (goodIn_of _ (by decide +kernel)) ggX7_next_X7_isDigit
theorem dX7_next_0 : decode cX7_next 0 = .ok (.aload_n 0, 1) := by decide +kernel
theorem dX7_next_1 : decode cX7_next 1 = .ok (.aload_n 0, 1) := by decide +kernel
theorem dX7_next_2 : decode cX7_next 2 = .ok (.getfield 56, 3) := by decide +kernel
theorem dX7_next_5 : decode cX7_next 5 = .ok (.putfield 59, 3) := by decide +kernel
theorem dX7_next_8 : decode cX7_next 8 = .ok (.aload_n 0, 1) := by decide +kernel
theorem dX7_next_9 : decode cX7_next 9 = .ok (.getfield 59, 3) := by decide +kernel
theorem dX7_next_12 : decode cX7_next 12 = .ok (.aload_n 0, 1) := by decide +kernel
theorem dX7_next_13 : decode cX7_next 13 = .ok (.getfield 44, 3) := by decide +kernel
theorem dX7_next_16 : decode cX7_next 16 = .ok (.if_icmp .ge 30, 3) := by decide +kernel
theorem dX7_next_19 : decode cX7_next 19 = .ok (.aload_n 0, 1) := by decide +kernel
theorem dX7_next_20 : decode cX7_next 20 = .ok (.getfield 17, 3) := by decide +kernel
theorem dX7_next_23 : decode cX7_next 23 = .ok (.aload_n 0, 1) := by decide +kernel
theorem dX7_next_24 : decode cX7_next 24 = .ok (.getfield 59, 3) := by decide +kernel
theorem dX7_next_27 : decode cX7_next 27 = .ok (.iaload, 1) := by decide +kernel
theorem dX7_next_28 : decode cX7_next 28 = .ok (.bipush 32, 2) := by decide +kernel
theorem dX7_next_30 : decode cX7_next 30 = .ok (.if_icmp .ne 16, 3) := by decide +kernel
theorem dX7_next_33 : decode cX7_next 33 = .ok (.aload_n 0, 1) := by decide +kernel
theorem dX7_next_34 : decode cX7_next 34 = .ok (.dup, 1) := by decide +kernel
theorem dX7_next_35 : decode cX7_next 35 = .ok (.getfield 59, 3) := by decide +kernel
theorem dX7_next_38 : decode cX7_next 38 = .ok (.iconst 1, 1) := by decide +kernel
theorem dX7_next_39 : decode cX7_next 39 = .ok (.iadd, 1) := by decide +kernel
theorem dX7_next_40 : decode cX7_next 40 = .ok (.putfield 59, 3) := by decide +kernel
theorem dX7_next_43 : decode cX7_next 43 = .ok (.goto (-35), 3) := by decide +kernel
theorem dX7_next_46 : decode cX7_next 46 = .ok (.aload_n 0, 1) := by decide +kernel
theorem dX7_next_47 : decode cX7_next 47 = .ok (.aload_n 0, 1) := by decide +kernel
theorem dX7_next_48 : decode cX7_next 48 = .ok (.getfield 59, 3) := by decide +kernel
theorem dX7_next_51 : decode cX7_next 51 = .ok (.aload_n 0, 1) := by decide +kernel
theorem dX7_next_52 : decode cX7_next 52 = .ok (.getfield 44, 3) := by decide +kernel
theorem dX7_next_55 : decode cX7_next 55 = .ok (.if_icmp .ge 12, 3) := by decide +kernel
theorem dX7_next_58 : decode cX7_next 58 = .ok (.aload_n 0, 1) := by decide +kernel
theorem dX7_next_59 : decode cX7_next 59 = .ok (.getfield 59, 3) := by decide +kernel
theorem dX7_next_62 : decode cX7_next 62 = .ok (.iconst 1, 1) := by decide +kernel
theorem dX7_next_63 : decode cX7_next 63 = .ok (.iadd, 1) := by decide +kernel
theorem dX7_next_64 : decode cX7_next 64 = .ok (.goto 7, 3) := by decide +kernel
theorem dX7_next_67 : decode cX7_next 67 = .ok (.aload_n 0, 1) := by decide +kernel
theorem dX7_next_68 : decode cX7_next 68 = .ok (.getfield 59, 3) := by decide +kernel
theorem dX7_next_71 : decode cX7_next 71 = .ok (.putfield 56, 3) := by decide +kernel
theorem dX7_next_74 : decode cX7_next 74 = .ok (.aload_n 0, 1) := by decide +kernel
theorem dX7_next_75 : decode cX7_next 75 = .ok (.getfield 59, 3) := by decide +kernel
theorem dX7_next_78 : decode cX7_next 78 = .ok (.aload_n 0, 1) := by decide +kernel
theorem dX7_next_79 : decode cX7_next 79 = .ok (.getfield 44, 3) := by decide +kernel
theorem dX7_next_82 : decode cX7_next 82 = .ok (.if_icmp .ge 22, 3) := by decide +kernel
theorem dX7_next_85 : decode cX7_next 85 = .ok (.aload_n 0, 1) := by decide +kernel
theorem dX7_next_86 : decode cX7_next 86 = .ok (.getfield 17, 3) := by decide +kernel
theorem dX7_next_89 : decode cX7_next 89 = .ok (.aload_n 0, 1) := by decide +kernel
theorem dX7_next_90 : decode cX7_next 90 = .ok (.getfield 59, 3) := by decide +kernel
theorem dX7_next_93 : decode cX7_next 93 = .ok (.iaload, 1) := by decide +kernel
theorem dX7_next_94 : decode cX7_next 94 = .ok (.invokestatic 62, 3) := by decide +kernel
theorem dX7_next_97 : decode cX7_next 97 = .ok (.ifCond .eq 7, 3) := by decide +kernel
theorem dX7_next_100 : decode cX7_next 100 = .ok (.iconst 1, 1) := by decide +kernel
theorem dX7_next_101 : decode cX7_next 101 = .ok (.goto 4, 3) := by decide +kernel
theorem dX7_next_104 : decode cX7_next 104 = .ok (.iconst 0, 1) := by decide +kernel
theorem dX7_next_105 : decode cX7_next 105 = .ok (.istore_n 1, 1) := by decide +kernel
theorem dX7_next_106 : decode cX7_next 106 = .ok (.aload_n 0, 1) := by decide +kernel
theorem dX7_next_107 : decode cX7_next 107 = .ok (.getfield 59, 3) := by decide +kernel
theorem dX7_next_110 : decode cX7_next 110 = .ok (.aload_n 0, 1) := by decide +kernel
theorem dX7_next_111 : decode cX7_next 111 = .ok (.getfield 44, 3) := by decide +kernel
theorem dX7_next_114 : decode cX7_next 114 = .ok (.if_icmp .ge 22, 3) := by decide +kernel
theorem dX7_next_117 : decode cX7_next 117 = .ok (.aload_n 0, 1) := by decide +kernel
theorem dX7_next_118 : decode cX7_next 118 = .ok (.getfield 17, 3) := by decide +kernel
theorem dX7_next_121 : decode cX7_next 121 = .ok (.aload_n 0, 1) := by decide +kernel
theorem dX7_next_122 : decode cX7_next 122 = .ok (.getfield 59, 3) := by decide +kernel
theorem dX7_next_125 : decode cX7_next 125 = .ok (.iaload, 1) := by decide +kernel
theorem dX7_next_126 : decode cX7_next 126 = .ok (.invokestatic 66, 3) := by decide +kernel
theorem dX7_next_129 : decode cX7_next 129 = .ok (.ifCond .eq 7, 3) := by decide +kernel
theorem dX7_next_132 : decode cX7_next 132 = .ok (.iconst 1, 1) := by decide +kernel
theorem dX7_next_133 : decode cX7_next 133 = .ok (.goto 4, 3) := by decide +kernel
theorem dX7_next_136 : decode cX7_next 136 = .ok (.iconst 0, 1) := by decide +kernel
theorem dX7_next_137 : decode cX7_next 137 = .ok (.istore_n 2, 1) := by decide +kernel
theorem dX7_next_138 : decode cX7_next 138 = .ok (.aload_n 0, 1) := by decide +kernel
theorem dX7_next_139 : decode cX7_next 139 = .ok (.getfield 56, 3) := by decide +kernel
theorem dX7_next_142 : decode cX7_next 142 = .ok (.aload_n 0, 1) := by decide +kernel
theorem dX7_next_143 : decode cX7_next 143 = .ok (.getfield 44, 3) := by decide +kernel
theorem dX7_next_146 : decode cX7_next 146 = .ok (.if_icmp .ge 54, 3) := by decide +kernel
theorem dX7_next_149 : decode cX7_next 149 = .ok (.iload_n 1, 1) := by decide +kernel
theorem dX7_next_150 : decode cX7_next 150 = .ok (.ifCond .eq 18, 3) := by decide +kernel
theorem dX7_next_153 : decode cX7_next 153 = .ok (.aload_n 0, 1) := by decide +kernel
theorem dX7_next_154 : decode cX7_next 154 = .ok (.getfield 17, 3) := by decide +kernel
theorem dX7_next_157 : decode cX7_next 157 = .ok (.aload_n 0, 1) := by decide +kernel
theorem dX7_next_158 : decode cX7_next 158 = .ok (.getfield 56, 3) := by decide +kernel
theorem dX7_next_161 : decode cX7_next 161 = .ok (.iaload, 1) := by decide +kernel
theorem dX7_next_162 : decode cX7_next 162 = .ok (.invokestatic 62, 3) := by decide +kernel
theorem dX7_next_165 : decode cX7_next 165 = .ok (.ifCond .ne 22, 3) := by decide +kernel
theorem dX7_next_168 : decode cX7_next 168 = .ok (.iload_n 2, 1) := by decide +kernel
theorem dX7_next_169 : decode cX7_next 169 = .ok (.ifCond .eq 31, 3) := by decide +kernel
theorem dX7_next_172 : decode cX7_next 172 = .ok (.aload_n 0, 1) := by decide +kernel
theorem dX7_next_173 : decode cX7_next 173 = .ok (.getfield 17, 3) := by decide +kernel
theorem dX7_next_176 : decode cX7_next 176 = .ok (.aload_n 0, 1) := by decide +kernel
theorem dX7_next_177 : decode cX7_next 177 = .ok (.getfield 56, 3) := by decide +kernel
theorem dX7_next_180 : decode cX7_next 180 = .ok (.iaload, 1) := by decide +kernel
theorem dX7_next_181 : decode cX7_next 181 = .ok (.invokestatic 66, 3) := by decide +kernel
theorem dX7_next_184 : decode cX7_next 184 = .ok (.ifCond .eq 16, 3) := by decide +kernel
theorem dX7_next_187 : decode cX7_next 187 = .ok (.aload_n 0, 1) := by decide +kernel
theorem dX7_next_188 : decode cX7_next 188 = .ok (.dup, 1) := by decide +kernel
theorem dX7_next_189 : decode cX7_next 189 = .ok (.getfield 56, 3) := by decide +kernel
theorem dX7_next_192 : decode cX7_next 192 = .ok (.iconst 1, 1) := by decide +kernel
theorem dX7_next_193 : decode cX7_next 193 = .ok (.iadd, 1) := by decide +kernel
theorem dX7_next_194 : decode cX7_next 194 = .ok (.putfield 56, 3) := by decide +kernel
theorem dX7_next_197 : decode cX7_next 197 = .ok (.goto (-59), 3) := by decide +kernel
theorem dX7_next_200 : decode cX7_next 200 = .ok (.return_, 1) := by decide +kernel
theorem dX7_nameHere_0 : decode cX7_nameHere 0 = .ok (.iconst 0, 1) := by decide +kernel
theorem dX7_nameHere_1 : decode cX7_nameHere 1 = .ok (.istore_n 1, 1) := by decide +kernel
theorem dX7_nameHere_2 : decode cX7_nameHere 2 = .ok (.iload_n 1, 1) := by decide +kernel
theorem dX7_nameHere_3 : decode cX7_nameHere 3 = .ok (.bipush 6, 2) := by decide +kernel
theorem dX7_nameHere_5 : decode cX7_nameHere 5 = .ok (.if_icmp .ge 112, 3) := by decide +kernel
theorem dX7_nameHere_8 : decode cX7_nameHere 8 = .ok (.aload_n 0, 1) := by decide +kernel
theorem dX7_nameHere_9 : decode cX7_nameHere 9 = .ok (.getfield 56, 3) := by decide +kernel
theorem dX7_nameHere_12 : decode cX7_nameHere 12 = .ok (.aload_n 0, 1) := by decide +kernel
theorem dX7_nameHere_13 : decode cX7_nameHere 13 = .ok (.getfield 59, 3) := by decide +kernel
theorem dX7_nameHere_16 : decode cX7_nameHere 16 = .ok (.if_icmp .le 21, 3) := by decide +kernel
theorem dX7_nameHere_19 : decode cX7_nameHere 19 = .ok (.aload_n 0, 1) := by decide +kernel
theorem dX7_nameHere_20 : decode cX7_nameHere 20 = .ok (.getfield 56, 3) := by decide +kernel
theorem dX7_nameHere_23 : decode cX7_nameHere 23 = .ok (.aload_n 0, 1) := by decide +kernel
theorem dX7_nameHere_24 : decode cX7_nameHere 24 = .ok (.getfield 59, 3) := by decide +kernel
theorem dX7_nameHere_27 : decode cX7_nameHere 27 = .ok (.isub, 1) := by decide +kernel
theorem dX7_nameHere_28 : decode cX7_nameHere 28 = .ok (.bipush 9, 2) := by decide +kernel
theorem dX7_nameHere_30 : decode cX7_nameHere 30 = .ok (.if_icmp .ge 7, 3) := by decide +kernel
theorem dX7_nameHere_33 : decode cX7_nameHere 33 = .ok (.iconst 1, 1) := by decide +kernel
theorem dX7_nameHere_34 : decode cX7_nameHere 34 = .ok (.goto 4, 3) := by decide +kernel
theorem dX7_nameHere_37 : decode cX7_nameHere 37 = .ok (.iconst 0, 1) := by decide +kernel
theorem dX7_nameHere_38 : decode cX7_nameHere 38 = .ok (.istore_n 2, 1) := by decide +kernel
theorem dX7_nameHere_39 : decode cX7_nameHere 39 = .ok (.iconst 0, 1) := by decide +kernel
theorem dX7_nameHere_40 : decode cX7_nameHere 40 = .ok (.istore_n 3, 1) := by decide +kernel
theorem dX7_nameHere_41 : decode cX7_nameHere 41 = .ok (.iload_n 3, 1) := by decide +kernel
theorem dX7_nameHere_42 : decode cX7_nameHere 42 = .ok (.bipush 8, 2) := by decide +kernel
theorem dX7_nameHere_44 : decode cX7_nameHere 44 = .ok (.if_icmp .ge 61, 3) := by decide +kernel
theorem dX7_nameHere_47 : decode cX7_nameHere 47 = .ok (.iload_n 2, 1) := by decide +kernel
theorem dX7_nameHere_48 : decode cX7_nameHere 48 = .ok (.ifCond .eq 57, 3) := by decide +kernel
theorem dX7_nameHere_51 : decode cX7_nameHere 51 = .ok (.aload_n 0, 1) := by decide +kernel
theorem dX7_nameHere_52 : decode cX7_nameHere 52 = .ok (.getfield 23, 3) := by decide +kernel
theorem dX7_nameHere_55 : decode cX7_nameHere 55 = .ok (.bipush 8, 2) := by decide +kernel
theorem dX7_nameHere_57 : decode cX7_nameHere 57 = .ok (.iload_n 1, 1) := by decide +kernel
theorem dX7_nameHere_58 : decode cX7_nameHere 58 = .ok (.imul, 1) := by decide +kernel
theorem dX7_nameHere_59 : decode cX7_nameHere 59 = .ok (.iload_n 3, 1) := by decide +kernel
theorem dX7_nameHere_60 : decode cX7_nameHere 60 = .ok (.iadd, 1) := by decide +kernel
theorem dX7_nameHere_61 : decode cX7_nameHere 61 = .ok (.iaload, 1) := by decide +kernel
theorem dX7_nameHere_62 : decode cX7_nameHere 62 = .ok (.aload_n 0, 1) := by decide +kernel
theorem dX7_nameHere_63 : decode cX7_nameHere 63 = .ok (.getfield 59, 3) := by decide +kernel
theorem dX7_nameHere_66 : decode cX7_nameHere 66 = .ok (.iload_n 3, 1) := by decide +kernel
theorem dX7_nameHere_67 : decode cX7_nameHere 67 = .ok (.iadd, 1) := by decide +kernel
theorem dX7_nameHere_68 : decode cX7_nameHere 68 = .ok (.aload_n 0, 1) := by decide +kernel
theorem dX7_nameHere_69 : decode cX7_nameHere 69 = .ok (.getfield 56, 3) := by decide +kernel
theorem dX7_nameHere_72 : decode cX7_nameHere 72 = .ok (.if_icmp .ge 17, 3) := by decide +kernel
theorem dX7_nameHere_75 : decode cX7_nameHere 75 = .ok (.aload_n 0, 1) := by decide +kernel
theorem dX7_nameHere_76 : decode cX7_nameHere 76 = .ok (.getfield 17, 3) := by decide +kernel
theorem dX7_nameHere_79 : decode cX7_nameHere 79 = .ok (.aload_n 0, 1) := by decide +kernel
theorem dX7_nameHere_80 : decode cX7_nameHere 80 = .ok (.getfield 59, 3) := by decide +kernel
theorem dX7_nameHere_83 : decode cX7_nameHere 83 = .ok (.iload_n 3, 1) := by decide +kernel
theorem dX7_nameHere_84 : decode cX7_nameHere 84 = .ok (.iadd, 1) := by decide +kernel
theorem dX7_nameHere_85 : decode cX7_nameHere 85 = .ok (.iaload, 1) := by decide +kernel
theorem dX7_nameHere_86 : decode cX7_nameHere 86 = .ok (.goto 4, 3) := by decide +kernel
theorem dX7_nameHere_89 : decode cX7_nameHere 89 = .ok (.iconst 0, 1) := by decide +kernel
theorem dX7_nameHere_90 : decode cX7_nameHere 90 = .ok (.if_icmp .ne 7, 3) := by decide +kernel
theorem dX7_nameHere_93 : decode cX7_nameHere 93 = .ok (.iconst 1, 1) := by decide +kernel
theorem dX7_nameHere_94 : decode cX7_nameHere 94 = .ok (.goto 4, 3) := by decide +kernel
theorem dX7_nameHere_97 : decode cX7_nameHere 97 = .ok (.iconst 0, 1) := by decide +kernel
theorem dX7_nameHere_98 : decode cX7_nameHere 98 = .ok (.istore_n 2, 1) := by decide +kernel
theorem dX7_nameHere_99 : decode cX7_nameHere 99 = .ok (.iinc 3 1, 3) := by decide +kernel
theorem dX7_nameHere_102 : decode cX7_nameHere 102 = .ok (.goto (-61), 3) := by decide +kernel
theorem dX7_nameHere_105 : decode cX7_nameHere 105 = .ok (.iload_n 2, 1) := by decide +kernel
theorem dX7_nameHere_106 : decode cX7_nameHere 106 = .ok (.ifCond .eq 5, 3) := by decide +kernel
theorem dX7_nameHere_109 : decode cX7_nameHere 109 = .ok (.iload_n 1, 1) := by decide +kernel
theorem dX7_nameHere_110 : decode cX7_nameHere 110 = .ok (.ireturn, 1) := by decide +kernel
theorem dX7_nameHere_111 : decode cX7_nameHere 111 = .ok (.iinc 1 1, 3) := by decide +kernel
theorem dX7_nameHere_114 : decode cX7_nameHere 114 = .ok (.goto (-112), 3) := by decide +kernel
theorem dX7_nameHere_117 : decode cX7_nameHere 117 = .ok (.iconst (-1), 1) := by decide +kernel
theorem dX7_nameHere_118 : decode cX7_nameHere 118 = .ok (.ireturn, 1) := by decide +kernel
set_option maxRecDepth 20000 in
theorem ggX7_reads_X7_isDigit : GoodIn wsX7_reads wsX7_isDigit := goodIn_r _ [9, 10, 11, 12, 13, 8, 14] (by decide +kernel) (by decide +kernel)
set_option maxRecDepth 20000 in
theorem gX7_reads_X7_isDigit : GoodIn wsX7_reads (va_wsS RX7 66 yX7_isDigit wsX7_isDigit) := goodIn_app (goodIn_of _ (by decide +kernel)) ggX7_reads_X7_isDigit
set_option maxRecDepth 20000 in
theorem ggX7_reads_X7_in : GoodIn wsX7_reads wsX7_in := goodIn_r _ [14] (by decide +kernel) (by decide +kernel)
set_option maxRecDepth 20000 in
theorem gX7_reads_X7_in : GoodIn wsX7_reads (va_wsS RX7 36 yX7_in wsX7_in) := goodIn_app (goodIn_of _ (by decide +kernel)) ggX7_reads_X7_in
set_option maxRecDepth 20000 in
theorem ggX7_reads_X7_next : GoodIn wsX7_reads wsX7_next := goodIn_r _ [18, 4, 1, 2, 3, 19, 20, 8, 21, 22, 23, 12, 13, 14, 6, 7, 9, 10, 11, 24, 25, 26, 27, 28, 29, 30, 31, 32, 33, 34, 35, 36, 37] (by decide +kernel) (by decide +kernel)
set_option maxRecDepth 20000 in
theorem gX7_reads_X7_next : GoodIn wsX7_reads (wsV RX7 69 RX7 yX7_next wsX7_next) := goodIn_app (goodIn_of _ (by decide +kernel)) ggX7_reads_X7_next
theorem dX7_reads_0 : decode cX7_reads 0 = .ok (.aload_n 0, 1) := by decide +kernel
theorem dX7_reads_1 : decode cX7_reads 1 = .ok (.getfield 59, 3) := by decide +kernel
theorem dX7_reads_4 : decode cX7_reads 4 = .ok (.aload_n 0, 1) := by decide +kernel
theorem dX7_reads_5 : decode cX7_reads 5 = .ok (.getfield 44, 3) := by decide +kernel
theorem dX7_reads_8 : decode cX7_reads 8 = .ok (.if_icmp .eq 31, 3) := by decide +kernel
theorem dX7_reads_11 : decode cX7_reads 11 = .ok (.aload_n 0, 1) := by decide +kernel
theorem dX7_reads_12 : decode cX7_reads 12 = .ok (.getfield 17, 3) := by decide +kernel
theorem dX7_reads_15 : decode cX7_reads 15 = .ok (.aload_n 0, 1) := by decide +kernel
theorem dX7_reads_16 : decode cX7_reads 16 = .ok (.getfield 59, 3) := by decide +kernel
theorem dX7_reads_19 : decode cX7_reads 19 = .ok (.iaload, 1) := by decide +kernel
theorem dX7_reads_20 : decode cX7_reads 20 = .ok (.invokestatic 66, 3) := by decide +kernel
theorem dX7_reads_23 : decode cX7_reads 23 = .ok (.ifCond .eq 16, 3) := by decide +kernel
theorem dX7_reads_26 : decode cX7_reads 26 = .ok (.aload_n 0, 1) := by decide +kernel
theorem dX7_reads_27 : decode cX7_reads 27 = .ok (.getfield 56, 3) := by decide +kernel
theorem dX7_reads_30 : decode cX7_reads 30 = .ok (.aload_n 0, 1) := by decide +kernel
theorem dX7_reads_31 : decode cX7_reads 31 = .ok (.getfield 59, 3) := by decide +kernel
theorem dX7_reads_34 : decode cX7_reads 34 = .ok (.isub, 1) := by decide +kernel
theorem dX7_reads_35 : decode cX7_reads 35 = .ok (.iconst 2, 1) := by decide +kernel
theorem dX7_reads_36 : decode cX7_reads 36 = .ok (.if_icmp .le 5, 3) := by decide +kernel
theorem dX7_reads_39 : decode cX7_reads 39 = .ok (.iconst 0, 1) := by decide +kernel
theorem dX7_reads_40 : decode cX7_reads 40 = .ok (.ireturn, 1) := by decide +kernel
theorem dX7_reads_41 : decode cX7_reads 41 = .ok (.iconst 0, 1) := by decide +kernel
theorem dX7_reads_42 : decode cX7_reads 42 = .ok (.istore 5, 2) := by decide +kernel
theorem dX7_reads_44 : decode cX7_reads 44 = .ok (.aload_n 0, 1) := by decide +kernel
theorem dX7_reads_45 : decode cX7_reads 45 = .ok (.getfield 59, 3) := by decide +kernel
theorem dX7_reads_48 : decode cX7_reads 48 = .ok (.istore 6, 2) := by decide +kernel
theorem dX7_reads_50 : decode cX7_reads 50 = .ok (.iload 6, 2) := by decide +kernel
theorem dX7_reads_52 : decode cX7_reads 52 = .ok (.aload_n 0, 1) := by decide +kernel
theorem dX7_reads_53 : decode cX7_reads 53 = .ok (.getfield 56, 3) := by decide +kernel
theorem dX7_reads_56 : decode cX7_reads 56 = .ok (.if_icmp .ge 27, 3) := by decide +kernel
theorem dX7_reads_59 : decode cX7_reads 59 = .ok (.bipush 10, 2) := by decide +kernel
theorem dX7_reads_61 : decode cX7_reads 61 = .ok (.iload 5, 2) := by decide +kernel
theorem dX7_reads_63 : decode cX7_reads 63 = .ok (.imul, 1) := by decide +kernel
theorem dX7_reads_64 : decode cX7_reads 64 = .ok (.aload_n 0, 1) := by decide +kernel
theorem dX7_reads_65 : decode cX7_reads 65 = .ok (.getfield 17, 3) := by decide +kernel
theorem dX7_reads_68 : decode cX7_reads 68 = .ok (.iload 6, 2) := by decide +kernel
theorem dX7_reads_70 : decode cX7_reads 70 = .ok (.iaload, 1) := by decide +kernel
theorem dX7_reads_71 : decode cX7_reads 71 = .ok (.iadd, 1) := by decide +kernel
theorem dX7_reads_72 : decode cX7_reads 72 = .ok (.bipush 48, 2) := by decide +kernel
theorem dX7_reads_74 : decode cX7_reads 74 = .ok (.isub, 1) := by decide +kernel
theorem dX7_reads_75 : decode cX7_reads 75 = .ok (.istore 5, 2) := by decide +kernel
theorem dX7_reads_77 : decode cX7_reads 77 = .ok (.iinc 6 1, 3) := by decide +kernel
theorem dX7_reads_80 : decode cX7_reads 80 = .ok (.goto (-30), 3) := by decide +kernel
theorem dX7_reads_83 : decode cX7_reads 83 = .ok (.iload 5, 2) := by decide +kernel
theorem dX7_reads_85 : decode cX7_reads 85 = .ok (.i2l, 1) := by decide +kernel
theorem dX7_reads_86 : decode cX7_reads 86 = .ok (.iload_n 2, 1) := by decide +kernel
theorem dX7_reads_87 : decode cX7_reads 87 = .ok (.i2l, 1) := by decide +kernel
theorem dX7_reads_88 : decode cX7_reads 88 = .ok (.iload_n 3, 1) := by decide +kernel
theorem dX7_reads_89 : decode cX7_reads 89 = .ok (.i2l, 1) := by decide +kernel
theorem dX7_reads_90 : decode cX7_reads 90 = .ok (.invokestatic 36, 3) := by decide +kernel
theorem dX7_reads_93 : decode cX7_reads 93 = .ok (.ifCond .eq 10, 3) := by decide +kernel
theorem dX7_reads_96 : decode cX7_reads 96 = .ok (.iload 5, 2) := by decide +kernel
theorem dX7_reads_98 : decode cX7_reads 98 = .ok (.iload 4, 2) := by decide +kernel
theorem dX7_reads_100 : decode cX7_reads 100 = .ok (.if_icmp .ne 5, 3) := by decide +kernel
theorem dX7_reads_103 : decode cX7_reads 103 = .ok (.iconst 0, 1) := by decide +kernel
theorem dX7_reads_104 : decode cX7_reads 104 = .ok (.ireturn, 1) := by decide +kernel
theorem dX7_reads_105 : decode cX7_reads 105 = .ok (.aload_n 0, 1) := by decide +kernel
theorem dX7_reads_106 : decode cX7_reads 106 = .ok (.getfield 20, 3) := by decide +kernel
theorem dX7_reads_109 : decode cX7_reads 109 = .ok (.iload_n 1, 1) := by decide +kernel
theorem dX7_reads_110 : decode cX7_reads 110 = .ok (.iload 5, 2) := by decide +kernel
theorem dX7_reads_112 : decode cX7_reads 112 = .ok (.iastore, 1) := by decide +kernel
theorem dX7_reads_113 : decode cX7_reads 113 = .ok (.aload_n 0, 1) := by decide +kernel
theorem dX7_reads_114 : decode cX7_reads 114 = .ok (.invokevirtual 69, 3) := by decide +kernel
theorem dX7_reads_117 : decode cX7_reads 117 = .ok (.iconst 1, 1) := by decide +kernel
theorem dX7_reads_118 : decode cX7_reads 118 = .ok (.ireturn, 1) := by decide +kernel
set_option maxRecDepth 20000 in
theorem ggX7_readsSection_X7_reads : GoodIn wsX7_readsSection wsX7_reads := goodIn_r _ [6, 7, 8, 9, 10, 11, 12, 13, 5, 14, 15, 16, 17, 18, 19, 20, 21, 22, 23, 24, 25, 26, 27, 28, 29, 30, 31, 32, 33, 34, 35, 36, 37, 38, 39, 40, 41, 42] (by decide +kernel) (by decide +kernel)
set_option maxRecDepth 20000 in
theorem gX7_readsSection_X7_reads : GoodIn wsX7_readsSection (wsV RX7 75 RX7 yX7_reads wsX7_reads) := goodIn_app (goodIn_of _ (by decide +kernel)) ggX7_readsSection_X7_reads
theorem dX7_readsSection_0 : decode cX7_readsSection 0 = .ok (.aload_n 0, 1) := by decide +kernel
theorem dX7_readsSection_1 : decode cX7_readsSection 1 = .ok (.iload_n 1, 1) := by decide +kernel
theorem dX7_readsSection_2 : decode cX7_readsSection 2 = .ok (.iconst 0, 1) := by decide +kernel
theorem dX7_readsSection_3 : decode cX7_readsSection 3 = .ok (.aload_n 0, 1) := by decide +kernel
theorem dX7_readsSection_4 : decode cX7_readsSection 4 = .ok (.getfield 72, 3) := by decide +kernel
theorem dX7_readsSection_7 : decode cX7_readsSection 7 = .ok (.iconst 1, 1) := by decide +kernel
theorem dX7_readsSection_8 : decode cX7_readsSection 8 = .ok (.isub, 1) := by decide +kernel
theorem dX7_readsSection_9 : decode cX7_readsSection 9 = .ok (.iload_n 2, 1) := by decide +kernel
theorem dX7_readsSection_10 : decode cX7_readsSection 10 = .ok (.invokevirtual 75, 3) := by decide +kernel
theorem dX7_readsSection_13 : decode cX7_readsSection 13 = .ok (.ireturn, 1) := by decide +kernel
set_option maxRecDepth 20000 in
theorem ggX7_termsHere_X7_in : GoodIn wsX7_termsHere wsX7_in := goodIn_r _ [10] (by decide +kernel) (by decide +kernel)
set_option maxRecDepth 20000 in
theorem gX7_termsHere_X7_in : GoodIn wsX7_termsHere (va_wsS RX7 36 yX7_in wsX7_in) := goodIn_app (goodIn_of _ (by decide +kernel)) ggX7_termsHere_X7_in
theorem dX7_termsHere_0 : decode cX7_termsHere 0 = .ok (.iconst 0, 1) := by decide +kernel
theorem dX7_termsHere_1 : decode cX7_termsHere 1 = .ok (.istore_n 2, 1) := by decide +kernel
theorem dX7_termsHere_2 : decode cX7_termsHere 2 = .ok (.aload_n 0, 1) := by decide +kernel
theorem dX7_termsHere_3 : decode cX7_termsHere 3 = .ok (.getfield 59, 3) := by decide +kernel
theorem dX7_termsHere_6 : decode cX7_termsHere 6 = .ok (.aload_n 0, 1) := by decide +kernel
theorem dX7_termsHere_7 : decode cX7_termsHere 7 = .ok (.getfield 44, 3) := by decide +kernel
theorem dX7_termsHere_10 : decode cX7_termsHere 10 = .ok (.if_icmp .ge 20, 3) := by decide +kernel
theorem dX7_termsHere_13 : decode cX7_termsHere 13 = .ok (.aload_n 0, 1) := by decide +kernel
theorem dX7_termsHere_14 : decode cX7_termsHere 14 = .ok (.getfield 56, 3) := by decide +kernel
theorem dX7_termsHere_17 : decode cX7_termsHere 17 = .ok (.aload_n 0, 1) := by decide +kernel
theorem dX7_termsHere_18 : decode cX7_termsHere 18 = .ok (.getfield 59, 3) := by decide +kernel
theorem dX7_termsHere_21 : decode cX7_termsHere 21 = .ok (.isub, 1) := by decide +kernel
theorem dX7_termsHere_22 : decode cX7_termsHere 22 = .ok (.iload_n 1, 1) := by decide +kernel
theorem dX7_termsHere_23 : decode cX7_termsHere 23 = .ok (.if_icmp .gt 7, 3) := by decide +kernel
theorem dX7_termsHere_26 : decode cX7_termsHere 26 = .ok (.iconst 1, 1) := by decide +kernel
theorem dX7_termsHere_27 : decode cX7_termsHere 27 = .ok (.goto 4, 3) := by decide +kernel
theorem dX7_termsHere_30 : decode cX7_termsHere 30 = .ok (.iconst 0, 1) := by decide +kernel
theorem dX7_termsHere_31 : decode cX7_termsHere 31 = .ok (.istore_n 3, 1) := by decide +kernel
theorem dX7_termsHere_32 : decode cX7_termsHere 32 = .ok (.aload_n 0, 1) := by decide +kernel
theorem dX7_termsHere_33 : decode cX7_termsHere 33 = .ok (.getfield 59, 3) := by decide +kernel
theorem dX7_termsHere_36 : decode cX7_termsHere 36 = .ok (.istore 4, 2) := by decide +kernel
theorem dX7_termsHere_38 : decode cX7_termsHere 38 = .ok (.iload 4, 2) := by decide +kernel
theorem dX7_termsHere_40 : decode cX7_termsHere 40 = .ok (.aload_n 0, 1) := by decide +kernel
theorem dX7_termsHere_41 : decode cX7_termsHere 41 = .ok (.getfield 56, 3) := by decide +kernel
theorem dX7_termsHere_44 : decode cX7_termsHere 44 = .ok (.if_icmp .ge 54, 3) := by decide +kernel
theorem dX7_termsHere_47 : decode cX7_termsHere 47 = .ok (.iload_n 3, 1) := by decide +kernel
theorem dX7_termsHere_48 : decode cX7_termsHere 48 = .ok (.ifCond .eq 50, 3) := by decide +kernel
theorem dX7_termsHere_51 : decode cX7_termsHere 51 = .ok (.aload_n 0, 1) := by decide +kernel
theorem dX7_termsHere_52 : decode cX7_termsHere 52 = .ok (.getfield 17, 3) := by decide +kernel
theorem dX7_termsHere_55 : decode cX7_termsHere 55 = .ok (.iload 4, 2) := by decide +kernel
theorem dX7_termsHere_57 : decode cX7_termsHere 57 = .ok (.iaload, 1) := by decide +kernel
theorem dX7_termsHere_58 : decode cX7_termsHere 58 = .ok (.i2l, 1) := by decide +kernel
theorem dX7_termsHere_59 : decode cX7_termsHere 59 = .ok (.ldc2_w 48, 3) := by decide +kernel
theorem dX7_termsHere_62 : decode cX7_termsHere 62 = .ok (.ldc2_w 79, 3) := by decide +kernel
theorem dX7_termsHere_65 : decode cX7_termsHere 65 = .ok (.invokestatic 36, 3) := by decide +kernel
theorem dX7_termsHere_68 : decode cX7_termsHere 68 = .ok (.istore_n 3, 1) := by decide +kernel
theorem dX7_termsHere_69 : decode cX7_termsHere 69 = .ok (.iload_n 2, 1) := by decide +kernel
theorem dX7_termsHere_70 : decode cX7_termsHere 70 = .ok (.iload_n 3, 1) := by decide +kernel
theorem dX7_termsHere_71 : decode cX7_termsHere 71 = .ok (.ifCond .eq 18, 3) := by decide +kernel
theorem dX7_termsHere_74 : decode cX7_termsHere 74 = .ok (.iconst 1, 1) := by decide +kernel
theorem dX7_termsHere_75 : decode cX7_termsHere 75 = .ok (.aload_n 0, 1) := by decide +kernel
theorem dX7_termsHere_76 : decode cX7_termsHere 76 = .ok (.getfield 17, 3) := by decide +kernel
theorem dX7_termsHere_79 : decode cX7_termsHere 79 = .ok (.iload 4, 2) := by decide +kernel
theorem dX7_termsHere_81 : decode cX7_termsHere 81 = .ok (.iaload, 1) := by decide +kernel
theorem dX7_termsHere_82 : decode cX7_termsHere 82 = .ok (.bipush 97, 2) := by decide +kernel
theorem dX7_termsHere_84 : decode cX7_termsHere 84 = .ok (.isub, 1) := by decide +kernel
theorem dX7_termsHere_85 : decode cX7_termsHere 85 = .ok (.ishl, 1) := by decide +kernel
theorem dX7_termsHere_86 : decode cX7_termsHere 86 = .ok (.goto 4, 3) := by decide +kernel
theorem dX7_termsHere_89 : decode cX7_termsHere 89 = .ok (.iconst 0, 1) := by decide +kernel
theorem dX7_termsHere_90 : decode cX7_termsHere 90 = .ok (.ior, 1) := by decide +kernel
theorem dX7_termsHere_91 : decode cX7_termsHere 91 = .ok (.istore_n 2, 1) := by decide +kernel
theorem dX7_termsHere_92 : decode cX7_termsHere 92 = .ok (.iinc 4 1, 3) := by decide +kernel
theorem dX7_termsHere_95 : decode cX7_termsHere 95 = .ok (.goto (-57), 3) := by decide +kernel
theorem dX7_termsHere_98 : decode cX7_termsHere 98 = .ok (.iload_n 3, 1) := by decide +kernel
theorem dX7_termsHere_99 : decode cX7_termsHere 99 = .ok (.ifCond .eq 7, 3) := by decide +kernel
theorem dX7_termsHere_102 : decode cX7_termsHere 102 = .ok (.iload_n 2, 1) := by decide +kernel
theorem dX7_termsHere_103 : decode cX7_termsHere 103 = .ok (.goto 4, 3) := by decide +kernel
theorem dX7_termsHere_106 : decode cX7_termsHere 106 = .ok (.iconst 0, 1) := by decide +kernel
theorem dX7_termsHere_107 : decode cX7_termsHere 107 = .ok (.ireturn, 1) := by decide +kernel
set_option maxRecDepth 20000 in
theorem ggX7_readsHome_X7_termsHere : GoodIn wsX7_readsHome wsX7_termsHere := goodIn_r _ [8, 9, 10, 11, 12, 13, 14, 15, 16, 7, 17, 43, 44, 45, 46, 47, 48, 49, 50, 51, 52, 53, 54, 55, 56] (by decide +kernel) (by decide +kernel)
set_option maxRecDepth 20000 in
theorem gX7_readsHome_X7_termsHere : GoodIn wsX7_readsHome (wsV RX7 81 RX7 yX7_termsHere wsX7_termsHere) := goodIn_app (goodIn_of _ (by decide +kernel)) ggX7_readsHome_X7_termsHere
set_option maxRecDepth 20000 in
theorem ggX7_readsHome_X7_next : GoodIn wsX7_readsHome wsX7_next := goodIn_r _ [21, 11, 9, 10, 12, 22, 23, 7, 24, 13, 25, 15, 16, 17, 26, 27, 28, 29, 30, 43, 44, 45, 46, 47, 48, 49, 50, 51, 52, 53, 54, 55, 56] (by decide +kernel) (by decide +kernel)
set_option maxRecDepth 20000 in
theorem gX7_readsHome_X7_next : GoodIn wsX7_readsHome (wsV RX7 69 RX7 yX7_next wsX7_next) := goodIn_app (goodIn_of _ (by decide +kernel)) ggX7_readsHome_X7_next
set_option maxRecDepth 20000 in
theorem ggX7_readsHome_X7_readsSection : GoodIn wsX7_readsHome wsX7_readsSection := goodIn_r _ [34, 35, 36, 37, 38, 7, 39, 9, 10, 12, 11, 3, 26, 27, 28, 29, 30, 15, 16, 17, 18, 19, 20, 21, 22, 23, 24, 13, 25, 43, 44, 45, 46, 47, 48, 49, 50, 51, 52, 53, 54, 55, 56] (by decide +kernel) (by decide +kernel)
set_option maxRecDepth 20000 in
theorem gX7_readsHome_X7_readsSection : GoodIn wsX7_readsHome (wsV RX7 85 RX7 yX7_readsSection wsX7_readsSection) := goodIn_app (goodIn_of _ (by decide +kernel)) ggX7_readsHome_X7_readsSection
set_option maxRecDepth 20000 in
theorem ggX7_readsHome_X7_has : GoodIn wsX7_readsHome wsX7_has := goodIn_r _ [42] (by decide +kernel) (by decide +kernel)
set_option maxRecDepth 20000 in
theorem gX7_readsHome_X7_has : GoodIn wsX7_readsHome (va_wsS RX7 93 yX7_has wsX7_has) := goodIn_app (goodIn_of _ (by decide +kernel)) ggX7_readsHome_X7_has
theorem dX7_readsHome_0 : decode cX7_readsHome 0 = .ok (.aload_n 0, 1) := by decide +kernel
theorem dX7_readsHome_1 : decode cX7_readsHome 1 = .ok (.iconst 1, 1) := by decide +kernel
theorem dX7_readsHome_2 : decode cX7_readsHome 2 = .ok (.invokevirtual 81, 3) := by decide +kernel
theorem dX7_readsHome_5 : decode cX7_readsHome 5 = .ok (.istore_n 1, 1) := by decide +kernel
theorem dX7_readsHome_6 : decode cX7_readsHome 6 = .ok (.iload_n 1, 1) := by decide +kernel
theorem dX7_readsHome_7 : decode cX7_readsHome 7 = .ok (.ifCond .ne 5, 3) := by decide +kernel
theorem dX7_readsHome_10 : decode cX7_readsHome 10 = .ok (.iconst 0, 1) := by decide +kernel
theorem dX7_readsHome_11 : decode cX7_readsHome 11 = .ok (.ireturn, 1) := by decide +kernel
theorem dX7_readsHome_12 : decode cX7_readsHome 12 = .ok (.aload_n 0, 1) := by decide +kernel
theorem dX7_readsHome_13 : decode cX7_readsHome 13 = .ok (.invokevirtual 69, 3) := by decide +kernel
theorem dX7_readsHome_16 : decode cX7_readsHome 16 = .ok (.aload_n 0, 1) := by decide +kernel
theorem dX7_readsHome_17 : decode cX7_readsHome 17 = .ok (.iconst 0, 1) := by decide +kernel
theorem dX7_readsHome_18 : decode cX7_readsHome 18 = .ok (.iconst (-1), 1) := by decide +kernel
theorem dX7_readsHome_19 : decode cX7_readsHome 19 = .ok (.invokevirtual 85, 3) := by decide +kernel
theorem dX7_readsHome_22 : decode cX7_readsHome 22 = .ok (.ifCond .ne 5, 3) := by decide +kernel
theorem dX7_readsHome_25 : decode cX7_readsHome 25 = .ok (.iconst 0, 1) := by decide +kernel
theorem dX7_readsHome_26 : decode cX7_readsHome 26 = .ok (.ireturn, 1) := by decide +kernel
theorem dX7_readsHome_27 : decode cX7_readsHome 27 = .ok (.iconst 0, 1) := by decide +kernel
theorem dX7_readsHome_28 : decode cX7_readsHome 28 = .ok (.istore_n 2, 1) := by decide +kernel
theorem dX7_readsHome_29 : decode cX7_readsHome 29 = .ok (.iload_n 2, 1) := by decide +kernel
theorem dX7_readsHome_30 : decode cX7_readsHome 30 = .ok (.bipush 12, 2) := by decide +kernel
theorem dX7_readsHome_32 : decode cX7_readsHome 32 = .ok (.if_icmp .ge 51, 3) := by decide +kernel
theorem dX7_readsHome_35 : decode cX7_readsHome 35 = .ok (.aload_n 0, 1) := by decide +kernel
theorem dX7_readsHome_36 : decode cX7_readsHome 36 = .ok (.getfield 89, 3) := by decide +kernel
theorem dX7_readsHome_39 : decode cX7_readsHome 39 = .ok (.ifCond .eq 44, 3) := by decide +kernel
theorem dX7_readsHome_42 : decode cX7_readsHome 42 = .ok (.aload_n 0, 1) := by decide +kernel
theorem dX7_readsHome_43 : decode cX7_readsHome 43 = .ok (.getfield 7, 3) := by decide +kernel
theorem dX7_readsHome_46 : decode cX7_readsHome 46 = .ok (.bipush 11, 2) := by decide +kernel
theorem dX7_readsHome_48 : decode cX7_readsHome 48 = .ok (.iload_n 2, 1) := by decide +kernel
theorem dX7_readsHome_49 : decode cX7_readsHome 49 = .ok (.iadd, 1) := by decide +kernel
theorem dX7_readsHome_50 : decode cX7_readsHome 50 = .ok (.iload_n 1, 1) := by decide +kernel
theorem dX7_readsHome_51 : decode cX7_readsHome 51 = .ok (.iload_n 2, 1) := by decide +kernel
theorem dX7_readsHome_52 : decode cX7_readsHome 52 = .ok (.invokestatic 93, 3) := by decide +kernel
theorem dX7_readsHome_55 : decode cX7_readsHome 55 = .ok (.ifCond .eq 12, 3) := by decide +kernel
theorem dX7_readsHome_58 : decode cX7_readsHome 58 = .ok (.aload_n 0, 1) := by decide +kernel
theorem dX7_readsHome_59 : decode cX7_readsHome 59 = .ok (.getfield 20, 3) := by decide +kernel
theorem dX7_readsHome_62 : decode cX7_readsHome 62 = .ok (.iconst 0, 1) := by decide +kernel
theorem dX7_readsHome_63 : decode cX7_readsHome 63 = .ok (.iaload, 1) := by decide +kernel
theorem dX7_readsHome_64 : decode cX7_readsHome 64 = .ok (.goto 12, 3) := by decide +kernel
theorem dX7_readsHome_67 : decode cX7_readsHome 67 = .ok (.aload_n 0, 1) := by decide +kernel
theorem dX7_readsHome_68 : decode cX7_readsHome 68 = .ok (.getfield 7, 3) := by decide +kernel
theorem dX7_readsHome_71 : decode cX7_readsHome 71 = .ok (.bipush 11, 2) := by decide +kernel
theorem dX7_readsHome_73 : decode cX7_readsHome 73 = .ok (.iload_n 2, 1) := by decide +kernel
theorem dX7_readsHome_74 : decode cX7_readsHome 74 = .ok (.iadd, 1) := by decide +kernel
theorem dX7_readsHome_75 : decode cX7_readsHome 75 = .ok (.iaload, 1) := by decide +kernel
theorem dX7_readsHome_76 : decode cX7_readsHome 76 = .ok (.iastore, 1) := by decide +kernel
theorem dX7_readsHome_77 : decode cX7_readsHome 77 = .ok (.iinc 2 1, 3) := by decide +kernel
theorem dX7_readsHome_80 : decode cX7_readsHome 80 = .ok (.goto (-51), 3) := by decide +kernel
theorem dX7_readsHome_83 : decode cX7_readsHome 83 = .ok (.iconst 1, 1) := by decide +kernel
theorem dX7_readsHome_84 : decode cX7_readsHome 84 = .ok (.ireturn, 1) := by decide +kernel
set_option maxRecDepth 20000 in
theorem ggX7_readsUses_X7_readsSection : GoodIn wsX7_readsUses wsX7_readsSection := goodIn_r _ [8, 9, 10, 11, 12, 7, 13, 14, 15, 16, 17, 3, 18, 19, 20, 21, 22, 23, 24, 25, 26, 27, 28, 29, 30, 31, 32, 33, 34, 40, 41, 42, 43, 44, 45, 46, 47, 48, 49, 50, 51, 52, 53] (by decide +kernel) (by decide +kernel)
set_option maxRecDepth 20000 in
theorem gX7_readsUses_X7_readsSection : GoodIn wsX7_readsUses (wsV RX7 85 RX7 yX7_readsSection wsX7_readsSection) := goodIn_app (goodIn_of _ (by decide +kernel)) ggX7_readsUses_X7_readsSection
set_option maxRecDepth 20000 in
theorem ggX7_readsUses_X7_termsHere : GoodIn wsX7_readsUses wsX7_termsHere := goodIn_r _ [38, 14, 15, 17, 16, 33, 39, 23, 24, 7, 25, 40, 41, 42, 43, 44, 45, 46, 47, 48, 49, 50, 51, 52, 53] (by decide +kernel) (by decide +kernel)
set_option maxRecDepth 20000 in
theorem gX7_readsUses_X7_termsHere : GoodIn wsX7_readsUses (wsV RX7 81 RX7 yX7_termsHere wsX7_termsHere) := goodIn_app (goodIn_of _ (by decide +kernel)) ggX7_readsUses_X7_termsHere
set_option maxRecDepth 20000 in
theorem ggX7_readsUses_X7_next : GoodIn wsX7_readsUses wsX7_next := goodIn_r _ [29, 17, 14, 15, 16, 30, 31, 7, 32, 33, 34, 23, 24, 25, 18, 19, 20, 21, 22, 40, 41, 42, 43, 44, 45, 46, 47, 48, 49, 50, 51, 52, 53] (by decide +kernel) (by decide +kernel)
set_option maxRecDepth 20000 in
theorem gX7_readsUses_X7_next : GoodIn wsX7_readsUses (wsV RX7 69 RX7 yX7_next wsX7_next) := goodIn_app (goodIn_of _ (by decide +kernel)) ggX7_readsUses_X7_next
theorem dX7_readsUses_0 : decode cX7_readsUses 0 = .ok (.aload_n 0, 1) := by decide +kernel
theorem dX7_readsUses_1 : decode cX7_readsUses 1 = .ok (.iconst 0, 1) := by decide +kernel
theorem dX7_readsUses_2 : decode cX7_readsUses 2 = .ok (.iconst (-1), 1) := by decide +kernel
theorem dX7_readsUses_3 : decode cX7_readsUses 3 = .ok (.invokevirtual 85, 3) := by decide +kernel
theorem dX7_readsUses_6 : decode cX7_readsUses 6 = .ok (.ifCond .ne 5, 3) := by decide +kernel
theorem dX7_readsUses_9 : decode cX7_readsUses 9 = .ok (.iconst 0, 1) := by decide +kernel
theorem dX7_readsUses_10 : decode cX7_readsUses 10 = .ok (.ireturn, 1) := by decide +kernel
theorem dX7_readsUses_11 : decode cX7_readsUses 11 = .ok (.aload_n 0, 1) := by decide +kernel
theorem dX7_readsUses_12 : decode cX7_readsUses 12 = .ok (.bipush 12, 2) := by decide +kernel
theorem dX7_readsUses_14 : decode cX7_readsUses 14 = .ok (.invokevirtual 81, 3) := by decide +kernel
theorem dX7_readsUses_17 : decode cX7_readsUses 17 = .ok (.istore_n 1, 1) := by decide +kernel
theorem dX7_readsUses_18 : decode cX7_readsUses 18 = .ok (.iload_n 1, 1) := by decide +kernel
theorem dX7_readsUses_19 : decode cX7_readsUses 19 = .ok (.ifCond .ne 5, 3) := by decide +kernel
theorem dX7_readsUses_22 : decode cX7_readsUses 22 = .ok (.iconst 0, 1) := by decide +kernel
theorem dX7_readsUses_23 : decode cX7_readsUses 23 = .ok (.ireturn, 1) := by decide +kernel
theorem dX7_readsUses_24 : decode cX7_readsUses 24 = .ok (.aload_n 0, 1) := by decide +kernel
theorem dX7_readsUses_25 : decode cX7_readsUses 25 = .ok (.getfield 89, 3) := by decide +kernel
theorem dX7_readsUses_28 : decode cX7_readsUses 28 = .ok (.ifCond .eq 21, 3) := by decide +kernel
theorem dX7_readsUses_31 : decode cX7_readsUses 31 = .ok (.aload_n 0, 1) := by decide +kernel
theorem dX7_readsUses_32 : decode cX7_readsUses 32 = .ok (.getfield 7, 3) := by decide +kernel
theorem dX7_readsUses_35 : decode cX7_readsUses 35 = .ok (.bipush 23, 2) := by decide +kernel
theorem dX7_readsUses_37 : decode cX7_readsUses 37 = .ok (.aload_n 0, 1) := by decide +kernel
theorem dX7_readsUses_38 : decode cX7_readsUses 38 = .ok (.getfield 20, 3) := by decide +kernel
theorem dX7_readsUses_41 : decode cX7_readsUses 41 = .ok (.iconst 0, 1) := by decide +kernel
theorem dX7_readsUses_42 : decode cX7_readsUses 42 = .ok (.iaload, 1) := by decide +kernel
theorem dX7_readsUses_43 : decode cX7_readsUses 43 = .ok (.iadd, 1) := by decide +kernel
theorem dX7_readsUses_44 : decode cX7_readsUses 44 = .ok (.dup2, 1) := by decide +kernel
theorem dX7_readsUses_45 : decode cX7_readsUses 45 = .ok (.iaload, 1) := by decide +kernel
theorem dX7_readsUses_46 : decode cX7_readsUses 46 = .ok (.iload_n 1, 1) := by decide +kernel
theorem dX7_readsUses_47 : decode cX7_readsUses 47 = .ok (.ior, 1) := by decide +kernel
theorem dX7_readsUses_48 : decode cX7_readsUses 48 = .ok (.iastore, 1) := by decide +kernel
theorem dX7_readsUses_49 : decode cX7_readsUses 49 = .ok (.aload_n 0, 1) := by decide +kernel
theorem dX7_readsUses_50 : decode cX7_readsUses 50 = .ok (.invokevirtual 69, 3) := by decide +kernel
theorem dX7_readsUses_53 : decode cX7_readsUses 53 = .ok (.iconst 1, 1) := by decide +kernel
theorem dX7_readsUses_54 : decode cX7_readsUses 54 = .ok (.ireturn, 1) := by decide +kernel
theorem dX7_isKeeping_0 : decode cX7_isKeeping 0 = .ok (.iconst 0, 1) := by decide +kernel
theorem dX7_isKeeping_1 : decode cX7_isKeeping 1 = .ok (.istore_n 1, 1) := by decide +kernel
theorem dX7_isKeeping_2 : decode cX7_isKeeping 2 = .ok (.iconst 1, 1) := by decide +kernel
theorem dX7_isKeeping_3 : decode cX7_isKeeping 3 = .ok (.istore_n 2, 1) := by decide +kernel
theorem dX7_isKeeping_4 : decode cX7_isKeeping 4 = .ok (.iconst 0, 1) := by decide +kernel
theorem dX7_isKeeping_5 : decode cX7_isKeeping 5 = .ok (.istore_n 3, 1) := by decide +kernel
theorem dX7_isKeeping_6 : decode cX7_isKeeping 6 = .ok (.iload_n 3, 1) := by decide +kernel
theorem dX7_isKeeping_7 : decode cX7_isKeeping 7 = .ok (.aload_n 0, 1) := by decide +kernel
theorem dX7_isKeeping_8 : decode cX7_isKeeping 8 = .ok (.getfield 7, 3) := by decide +kernel
theorem dX7_isKeeping_11 : decode cX7_isKeeping 11 = .ok (.iconst 0, 1) := by decide +kernel
theorem dX7_isKeeping_12 : decode cX7_isKeeping 12 = .ok (.iaload, 1) := by decide +kernel
theorem dX7_isKeeping_13 : decode cX7_isKeeping 13 = .ok (.if_icmp .ge 51, 3) := by decide +kernel
theorem dX7_isKeeping_16 : decode cX7_isKeeping 16 = .ok (.iload_n 2, 1) := by decide +kernel
theorem dX7_isKeeping_17 : decode cX7_isKeeping 17 = .ok (.ifCond .eq 28, 3) := by decide +kernel
theorem dX7_isKeeping_20 : decode cX7_isKeeping 20 = .ok (.aload_n 0, 1) := by decide +kernel
theorem dX7_isKeeping_21 : decode cX7_isKeeping 21 = .ok (.getfield 7, 3) := by decide +kernel
theorem dX7_isKeeping_24 : decode cX7_isKeeping 24 = .ok (.bipush 43, 2) := by decide +kernel
theorem dX7_isKeeping_26 : decode cX7_isKeeping 26 = .ok (.aload_n 0, 1) := by decide +kernel
theorem dX7_isKeeping_27 : decode cX7_isKeeping 27 = .ok (.getfield 20, 3) := by decide +kernel
theorem dX7_isKeeping_30 : decode cX7_isKeeping 30 = .ok (.iload_n 3, 1) := by decide +kernel
theorem dX7_isKeeping_31 : decode cX7_isKeeping 31 = .ok (.iaload, 1) := by decide +kernel
theorem dX7_isKeeping_32 : decode cX7_isKeeping 32 = .ok (.iadd, 1) := by decide +kernel
theorem dX7_isKeeping_33 : decode cX7_isKeeping 33 = .ok (.iaload, 1) := by decide +kernel
theorem dX7_isKeeping_34 : decode cX7_isKeeping 34 = .ok (.iload_n 1, 1) := by decide +kernel
theorem dX7_isKeeping_35 : decode cX7_isKeeping 35 = .ok (.iconst (-1), 1) := by decide +kernel
theorem dX7_isKeeping_36 : decode cX7_isKeeping 36 = .ok (.ixor, 1) := by decide +kernel
theorem dX7_isKeeping_37 : decode cX7_isKeeping 37 = .ok (.iand, 1) := by decide +kernel
theorem dX7_isKeeping_38 : decode cX7_isKeeping 38 = .ok (.ifCond .ne 7, 3) := by decide +kernel
theorem dX7_isKeeping_41 : decode cX7_isKeeping 41 = .ok (.iconst 1, 1) := by decide +kernel
theorem dX7_isKeeping_42 : decode cX7_isKeeping 42 = .ok (.goto 4, 3) := by decide +kernel
theorem dX7_isKeeping_45 : decode cX7_isKeeping 45 = .ok (.iconst 0, 1) := by decide +kernel
theorem dX7_isKeeping_46 : decode cX7_isKeeping 46 = .ok (.istore_n 2, 1) := by decide +kernel
theorem dX7_isKeeping_47 : decode cX7_isKeeping 47 = .ok (.iload_n 1, 1) := by decide +kernel
theorem dX7_isKeeping_48 : decode cX7_isKeeping 48 = .ok (.iconst 1, 1) := by decide +kernel
theorem dX7_isKeeping_49 : decode cX7_isKeeping 49 = .ok (.aload_n 0, 1) := by decide +kernel
theorem dX7_isKeeping_50 : decode cX7_isKeeping 50 = .ok (.getfield 20, 3) := by decide +kernel
theorem dX7_isKeeping_53 : decode cX7_isKeeping 53 = .ok (.iload_n 3, 1) := by decide +kernel
theorem dX7_isKeeping_54 : decode cX7_isKeeping 54 = .ok (.iaload, 1) := by decide +kernel
theorem dX7_isKeeping_55 : decode cX7_isKeeping 55 = .ok (.ishl, 1) := by decide +kernel
theorem dX7_isKeeping_56 : decode cX7_isKeeping 56 = .ok (.ior, 1) := by decide +kernel
theorem dX7_isKeeping_57 : decode cX7_isKeeping 57 = .ok (.istore_n 1, 1) := by decide +kernel
theorem dX7_isKeeping_58 : decode cX7_isKeeping 58 = .ok (.iinc 3 1, 3) := by decide +kernel
theorem dX7_isKeeping_61 : decode cX7_isKeeping 61 = .ok (.goto (-55), 3) := by decide +kernel
theorem dX7_isKeeping_64 : decode cX7_isKeeping 64 = .ok (.iload_n 2, 1) := by decide +kernel
theorem dX7_isKeeping_65 : decode cX7_isKeeping 65 = .ok (.ireturn, 1) := by decide +kernel
set_option maxRecDepth 20000 in
theorem ggX7_readsOrder_X7_isDigit : GoodIn wsX7_readsOrder wsX7_isDigit := goodIn_r _ [12, 13, 14, 15, 16, 11, 17] (by decide +kernel) (by decide +kernel)
set_option maxRecDepth 20000 in
theorem gX7_readsOrder_X7_isDigit : GoodIn wsX7_readsOrder (va_wsS RX7 66 yX7_isDigit wsX7_isDigit) := goodIn_app (goodIn_of _ (by decide +kernel)) ggX7_readsOrder_X7_isDigit
set_option maxRecDepth 20000 in
theorem ggX7_readsOrder_X7_valueHere : GoodIn wsX7_readsOrder wsX7_valueHere := goodIn_r _ [21, 2, 5, 4, 46, 47, 48, 49, 50, 51, 52, 53, 54, 55, 56, 57, 58, 59] (by decide +kernel) (by decide +kernel)
set_option maxRecDepth 20000 in
theorem gX7_readsOrder_X7_valueHere : GoodIn wsX7_readsOrder (wsV RX7 96 RX7 yX7_valueHere wsX7_valueHere) := goodIn_app (goodIn_of _ (by decide +kernel)) ggX7_readsOrder_X7_valueHere
set_option maxRecDepth 20000 in
theorem ggX7_readsOrder_X7_has : GoodIn wsX7_readsOrder wsX7_has := goodIn_r _ [24] (by decide +kernel) (by decide +kernel)
set_option maxRecDepth 20000 in
theorem gX7_readsOrder_X7_has : GoodIn wsX7_readsOrder (va_wsS RX7 93 yX7_has wsX7_has) := goodIn_app (goodIn_of _ (by decide +kernel)) ggX7_readsOrder_X7_has
set_option maxRecDepth 20000 in
theorem ggX7_readsOrder_X7_readsSection : GoodIn wsX7_readsOrder wsX7_readsSection := goodIn_r _ [28, 1, 29, 30, 31, 11, 32, 2, 3, 4, 5, 6, 9, 10, 12, 13, 14, 15, 16, 17, 33, 34, 35, 36, 37, 38, 39, 40, 41, 46, 47, 48, 49, 50, 51, 52, 53, 54, 55, 56, 57, 58, 59] (by decide +kernel) (by decide +kernel)
set_option maxRecDepth 20000 in
theorem gX7_readsOrder_X7_readsSection : GoodIn wsX7_readsOrder (wsV RX7 85 RX7 yX7_readsSection wsX7_readsSection) := goodIn_app (goodIn_of _ (by decide +kernel)) ggX7_readsOrder_X7_readsSection
set_option maxRecDepth 20000 in
theorem ggX7_readsOrder_X7_isKeeping : GoodIn wsX7_readsOrder wsX7_isKeeping := goodIn_r _ [45, 8, 6, 46, 47, 48, 49, 50, 51, 52, 53, 54, 55, 56, 57, 58, 59] (by decide +kernel) (by decide +kernel)
set_option maxRecDepth 20000 in
theorem gX7_readsOrder_X7_isKeeping : GoodIn wsX7_readsOrder (wsV RX7 100 RX7 yX7_isKeeping wsX7_isKeeping) := goodIn_app (goodIn_of _ (by decide +kernel)) ggX7_readsOrder_X7_isKeeping
theorem dX7_readsOrder_0 : decode cX7_readsOrder 0 = .ok (.iconst 0, 1) := by decide +kernel
theorem dX7_readsOrder_1 : decode cX7_readsOrder 1 = .ok (.istore_n 1, 1) := by decide +kernel
theorem dX7_readsOrder_2 : decode cX7_readsOrder 2 = .ok (.iconst 0, 1) := by decide +kernel
theorem dX7_readsOrder_3 : decode cX7_readsOrder 3 = .ok (.istore_n 2, 1) := by decide +kernel
theorem dX7_readsOrder_4 : decode cX7_readsOrder 4 = .ok (.iload_n 2, 1) := by decide +kernel
theorem dX7_readsOrder_5 : decode cX7_readsOrder 5 = .ok (.aload_n 0, 1) := by decide +kernel
theorem dX7_readsOrder_6 : decode cX7_readsOrder 6 = .ok (.getfield 72, 3) := by decide +kernel
theorem dX7_readsOrder_9 : decode cX7_readsOrder 9 = .ok (.if_icmp .ge 100, 3) := by decide +kernel
theorem dX7_readsOrder_12 : decode cX7_readsOrder 12 = .ok (.aload_n 0, 1) := by decide +kernel
theorem dX7_readsOrder_13 : decode cX7_readsOrder 13 = .ok (.getfield 59, 3) := by decide +kernel
theorem dX7_readsOrder_16 : decode cX7_readsOrder 16 = .ok (.aload_n 0, 1) := by decide +kernel
theorem dX7_readsOrder_17 : decode cX7_readsOrder 17 = .ok (.getfield 44, 3) := by decide +kernel
theorem dX7_readsOrder_20 : decode cX7_readsOrder 20 = .ok (.if_icmp .ge 38, 3) := by decide +kernel
theorem dX7_readsOrder_23 : decode cX7_readsOrder 23 = .ok (.aload_n 0, 1) := by decide +kernel
theorem dX7_readsOrder_24 : decode cX7_readsOrder 24 = .ok (.getfield 17, 3) := by decide +kernel
theorem dX7_readsOrder_27 : decode cX7_readsOrder 27 = .ok (.aload_n 0, 1) := by decide +kernel
theorem dX7_readsOrder_28 : decode cX7_readsOrder 28 = .ok (.getfield 59, 3) := by decide +kernel
theorem dX7_readsOrder_31 : decode cX7_readsOrder 31 = .ok (.iaload, 1) := by decide +kernel
theorem dX7_readsOrder_32 : decode cX7_readsOrder 32 = .ok (.invokestatic 66, 3) := by decide +kernel
theorem dX7_readsOrder_35 : decode cX7_readsOrder 35 = .ok (.ifCond .eq 23, 3) := by decide +kernel
theorem dX7_readsOrder_38 : decode cX7_readsOrder 38 = .ok (.aload_n 0, 1) := by decide +kernel
theorem dX7_readsOrder_39 : decode cX7_readsOrder 39 = .ok (.getfield 56, 3) := by decide +kernel
theorem dX7_readsOrder_42 : decode cX7_readsOrder 42 = .ok (.aload_n 0, 1) := by decide +kernel
theorem dX7_readsOrder_43 : decode cX7_readsOrder 43 = .ok (.getfield 59, 3) := by decide +kernel
theorem dX7_readsOrder_46 : decode cX7_readsOrder 46 = .ok (.isub, 1) := by decide +kernel
theorem dX7_readsOrder_47 : decode cX7_readsOrder 47 = .ok (.iconst 3, 1) := by decide +kernel
theorem dX7_readsOrder_48 : decode cX7_readsOrder 48 = .ok (.if_icmp .ge 10, 3) := by decide +kernel
theorem dX7_readsOrder_51 : decode cX7_readsOrder 51 = .ok (.aload_n 0, 1) := by decide +kernel
theorem dX7_readsOrder_52 : decode cX7_readsOrder 52 = .ok (.invokevirtual 96, 3) := by decide +kernel
theorem dX7_readsOrder_55 : decode cX7_readsOrder 55 = .ok (.goto 4, 3) := by decide +kernel
theorem dX7_readsOrder_58 : decode cX7_readsOrder 58 = .ok (.iconst (-1), 1) := by decide +kernel
theorem dX7_readsOrder_59 : decode cX7_readsOrder 59 = .ok (.istore_n 3, 1) := by decide +kernel
theorem dX7_readsOrder_60 : decode cX7_readsOrder 60 = .ok (.iload_n 3, 1) := by decide +kernel
theorem dX7_readsOrder_61 : decode cX7_readsOrder 61 = .ok (.iconst (-1), 1) := by decide +kernel
theorem dX7_readsOrder_62 : decode cX7_readsOrder 62 = .ok (.if_icmp .eq 28, 3) := by decide +kernel
theorem dX7_readsOrder_65 : decode cX7_readsOrder 65 = .ok (.iload_n 3, 1) := by decide +kernel
theorem dX7_readsOrder_66 : decode cX7_readsOrder 66 = .ok (.aload_n 0, 1) := by decide +kernel
theorem dX7_readsOrder_67 : decode cX7_readsOrder 67 = .ok (.getfield 72, 3) := by decide +kernel
theorem dX7_readsOrder_70 : decode cX7_readsOrder 70 = .ok (.if_icmp .ge 20, 3) := by decide +kernel
theorem dX7_readsOrder_73 : decode cX7_readsOrder 73 = .ok (.iload_n 1, 1) := by decide +kernel
theorem dX7_readsOrder_74 : decode cX7_readsOrder 74 = .ok (.iload_n 3, 1) := by decide +kernel
theorem dX7_readsOrder_75 : decode cX7_readsOrder 75 = .ok (.invokestatic 93, 3) := by decide +kernel
theorem dX7_readsOrder_78 : decode cX7_readsOrder 78 = .ok (.ifCond .ne 12, 3) := by decide +kernel
theorem dX7_readsOrder_81 : decode cX7_readsOrder 81 = .ok (.aload_n 0, 1) := by decide +kernel
theorem dX7_readsOrder_82 : decode cX7_readsOrder 82 = .ok (.iload_n 2, 1) := by decide +kernel
theorem dX7_readsOrder_83 : decode cX7_readsOrder 83 = .ok (.iconst (-1), 1) := by decide +kernel
theorem dX7_readsOrder_84 : decode cX7_readsOrder 84 = .ok (.invokevirtual 85, 3) := by decide +kernel
theorem dX7_readsOrder_87 : decode cX7_readsOrder 87 = .ok (.ifCond .ne 5, 3) := by decide +kernel
theorem dX7_readsOrder_90 : decode cX7_readsOrder 90 = .ok (.iconst 0, 1) := by decide +kernel
theorem dX7_readsOrder_91 : decode cX7_readsOrder 91 = .ok (.ireturn, 1) := by decide +kernel
theorem dX7_readsOrder_92 : decode cX7_readsOrder 92 = .ok (.iload_n 1, 1) := by decide +kernel
theorem dX7_readsOrder_93 : decode cX7_readsOrder 93 = .ok (.iconst 1, 1) := by decide +kernel
theorem dX7_readsOrder_94 : decode cX7_readsOrder 94 = .ok (.aload_n 0, 1) := by decide +kernel
theorem dX7_readsOrder_95 : decode cX7_readsOrder 95 = .ok (.getfield 20, 3) := by decide +kernel
theorem dX7_readsOrder_98 : decode cX7_readsOrder 98 = .ok (.iload_n 2, 1) := by decide +kernel
theorem dX7_readsOrder_99 : decode cX7_readsOrder 99 = .ok (.iaload, 1) := by decide +kernel
theorem dX7_readsOrder_100 : decode cX7_readsOrder 100 = .ok (.ishl, 1) := by decide +kernel
theorem dX7_readsOrder_101 : decode cX7_readsOrder 101 = .ok (.ior, 1) := by decide +kernel
theorem dX7_readsOrder_102 : decode cX7_readsOrder 102 = .ok (.istore_n 1, 1) := by decide +kernel
theorem dX7_readsOrder_103 : decode cX7_readsOrder 103 = .ok (.iinc 2 1, 3) := by decide +kernel
theorem dX7_readsOrder_106 : decode cX7_readsOrder 106 = .ok (.goto (-102), 3) := by decide +kernel
theorem dX7_readsOrder_109 : decode cX7_readsOrder 109 = .ok (.aload_n 0, 1) := by decide +kernel
theorem dX7_readsOrder_110 : decode cX7_readsOrder 110 = .ok (.getfield 89, 3) := by decide +kernel
theorem dX7_readsOrder_113 : decode cX7_readsOrder 113 = .ok (.ifCond .eq 41, 3) := by decide +kernel
theorem dX7_readsOrder_116 : decode cX7_readsOrder 116 = .ok (.aload_n 0, 1) := by decide +kernel
theorem dX7_readsOrder_117 : decode cX7_readsOrder 117 = .ok (.invokevirtual 100, 3) := by decide +kernel
theorem dX7_readsOrder_120 : decode cX7_readsOrder 120 = .ok (.ifCond .eq 34, 3) := by decide +kernel
theorem dX7_readsOrder_123 : decode cX7_readsOrder 123 = .ok (.iconst 0, 1) := by decide +kernel
theorem dX7_readsOrder_124 : decode cX7_readsOrder 124 = .ok (.istore_n 2, 1) := by decide +kernel
theorem dX7_readsOrder_125 : decode cX7_readsOrder 125 = .ok (.iload_n 2, 1) := by decide +kernel
theorem dX7_readsOrder_126 : decode cX7_readsOrder 126 = .ok (.aload_n 0, 1) := by decide +kernel
theorem dX7_readsOrder_127 : decode cX7_readsOrder 127 = .ok (.getfield 72, 3) := by decide +kernel
theorem dX7_readsOrder_130 : decode cX7_readsOrder 130 = .ok (.if_icmp .ge 24, 3) := by decide +kernel
theorem dX7_readsOrder_133 : decode cX7_readsOrder 133 = .ok (.aload_n 0, 1) := by decide +kernel
theorem dX7_readsOrder_134 : decode cX7_readsOrder 134 = .ok (.getfield 7, 3) := by decide +kernel
theorem dX7_readsOrder_137 : decode cX7_readsOrder 137 = .ok (.bipush 33, 2) := by decide +kernel
theorem dX7_readsOrder_139 : decode cX7_readsOrder 139 = .ok (.iload_n 2, 1) := by decide +kernel
theorem dX7_readsOrder_140 : decode cX7_readsOrder 140 = .ok (.iadd, 1) := by decide +kernel
theorem dX7_readsOrder_141 : decode cX7_readsOrder 141 = .ok (.aload_n 0, 1) := by decide +kernel
theorem dX7_readsOrder_142 : decode cX7_readsOrder 142 = .ok (.getfield 20, 3) := by decide +kernel
theorem dX7_readsOrder_145 : decode cX7_readsOrder 145 = .ok (.iload_n 2, 1) := by decide +kernel
theorem dX7_readsOrder_146 : decode cX7_readsOrder 146 = .ok (.iaload, 1) := by decide +kernel
theorem dX7_readsOrder_147 : decode cX7_readsOrder 147 = .ok (.iastore, 1) := by decide +kernel
theorem dX7_readsOrder_148 : decode cX7_readsOrder 148 = .ok (.iinc 2 1, 3) := by decide +kernel
theorem dX7_readsOrder_151 : decode cX7_readsOrder 151 = .ok (.goto (-26), 3) := by decide +kernel
theorem dX7_readsOrder_154 : decode cX7_readsOrder 154 = .ok (.iconst 1, 1) := by decide +kernel
theorem dX7_readsOrder_155 : decode cX7_readsOrder 155 = .ok (.ireturn, 1) := by decide +kernel
theorem dX7_valueHere_0 : decode cX7_valueHere 0 = .ok (.iconst 0, 1) := by decide +kernel
theorem dX7_valueHere_1 : decode cX7_valueHere 1 = .ok (.istore_n 1, 1) := by decide +kernel
theorem dX7_valueHere_2 : decode cX7_valueHere 2 = .ok (.aload_n 0, 1) := by decide +kernel
theorem dX7_valueHere_3 : decode cX7_valueHere 3 = .ok (.getfield 59, 3) := by decide +kernel
theorem dX7_valueHere_6 : decode cX7_valueHere 6 = .ok (.istore_n 2, 1) := by decide +kernel
theorem dX7_valueHere_7 : decode cX7_valueHere 7 = .ok (.iload_n 2, 1) := by decide +kernel
theorem dX7_valueHere_8 : decode cX7_valueHere 8 = .ok (.aload_n 0, 1) := by decide +kernel
theorem dX7_valueHere_9 : decode cX7_valueHere 9 = .ok (.getfield 56, 3) := by decide +kernel
theorem dX7_valueHere_12 : decode cX7_valueHere 12 = .ok (.if_icmp .ge 24, 3) := by decide +kernel
theorem dX7_valueHere_15 : decode cX7_valueHere 15 = .ok (.bipush 10, 2) := by decide +kernel
theorem dX7_valueHere_17 : decode cX7_valueHere 17 = .ok (.iload_n 1, 1) := by decide +kernel
theorem dX7_valueHere_18 : decode cX7_valueHere 18 = .ok (.imul, 1) := by decide +kernel
theorem dX7_valueHere_19 : decode cX7_valueHere 19 = .ok (.aload_n 0, 1) := by decide +kernel
theorem dX7_valueHere_20 : decode cX7_valueHere 20 = .ok (.getfield 17, 3) := by decide +kernel
theorem dX7_valueHere_23 : decode cX7_valueHere 23 = .ok (.iload_n 2, 1) := by decide +kernel
theorem dX7_valueHere_24 : decode cX7_valueHere 24 = .ok (.iaload, 1) := by decide +kernel
theorem dX7_valueHere_25 : decode cX7_valueHere 25 = .ok (.iadd, 1) := by decide +kernel
theorem dX7_valueHere_26 : decode cX7_valueHere 26 = .ok (.bipush 48, 2) := by decide +kernel
theorem dX7_valueHere_28 : decode cX7_valueHere 28 = .ok (.isub, 1) := by decide +kernel
theorem dX7_valueHere_29 : decode cX7_valueHere 29 = .ok (.istore_n 1, 1) := by decide +kernel
theorem dX7_valueHere_30 : decode cX7_valueHere 30 = .ok (.iinc 2 1, 3) := by decide +kernel
theorem dX7_valueHere_33 : decode cX7_valueHere 33 = .ok (.goto (-26), 3) := by decide +kernel
theorem dX7_valueHere_36 : decode cX7_valueHere 36 = .ok (.iload_n 1, 1) := by decide +kernel
theorem dX7_valueHere_37 : decode cX7_valueHere 37 = .ok (.ireturn, 1) := by decide +kernel
set_option maxRecDepth 20000 in
theorem ggX7_readsAfter_X7_reads : GoodIn wsX7_readsAfter wsX7_reads := goodIn_r _ [9, 10, 11, 12, 13, 1, 14, 15, 8, 16, 17, 18, 19, 20, 21, 22, 23, 24, 25, 26, 27, 28, 29, 30, 75, 76, 77, 78, 79, 80, 81, 82, 83, 84, 85, 86, 87, 88] (by decide +kernel) (by decide +kernel)
set_option maxRecDepth 20000 in
theorem gX7_readsAfter_X7_reads : GoodIn wsX7_readsAfter (wsV RX7 75 RX7 yX7_reads wsX7_reads) := goodIn_app (goodIn_of _ (by decide +kernel)) ggX7_readsAfter_X7_reads
set_option maxRecDepth 20000 in
theorem ggX7_readsAfter_X7_begins : GoodIn wsX7_readsAfter wsX7_begins := goodIn_r _ [34, 4, 75, 76, 77, 78, 79, 80, 81, 82, 83, 84, 85, 86, 87, 88] (by decide +kernel) (by decide +kernel)
set_option maxRecDepth 20000 in
theorem gX7_readsAfter_X7_begins : GoodIn wsX7_readsAfter (wsV RX7 32 RX7 yX7_begins wsX7_begins) := goodIn_app (goodIn_of _ (by decide +kernel)) ggX7_readsAfter_X7_begins
set_option maxRecDepth 20000 in
theorem ggX7_readsAfter_X7_readsSection : GoodIn wsX7_readsAfter wsX7_readsSection := goodIn_r _ [38, 2, 5, 6, 7, 8, 9, 10, 11, 12, 13, 1, 14, 15, 16, 17, 18, 19, 20, 21, 22, 23, 24, 25, 26, 27, 28, 29, 30, 75, 76, 77, 78, 79, 80, 81, 82, 83, 84, 85, 86, 87, 88] (by decide +kernel) (by decide +kernel)
set_option maxRecDepth 20000 in
theorem gX7_readsAfter_X7_readsSection : GoodIn wsX7_readsAfter (wsV RX7 85 RX7 yX7_readsSection wsX7_readsSection) := goodIn_app (goodIn_of _ (by decide +kernel)) ggX7_readsAfter_X7_readsSection
set_option maxRecDepth 20000 in
theorem ggX7_readsAfter_X7_readsHome : GoodIn wsX7_readsAfter wsX7_readsHome := goodIn_r _ [42, 3, 4, 1, 43, 44, 45, 8, 46, 10, 11, 13, 12, 29, 47, 19, 20, 21, 22, 23, 24, 25, 26, 27, 28, 30, 14, 15, 16, 17, 18, 35, 36, 37, 38, 2, 5, 6, 7, 9, 48, 49, 50, 75, 76, 77, 78, 79, 80, 81, 82, 83, 84, 85, 86, 87, 88] (by decide +kernel) (by decide +kernel)
set_option maxRecDepth 20000 in
theorem gX7_readsAfter_X7_readsHome : GoodIn wsX7_readsAfter (wsV RX7 104 RX7 yX7_readsHome wsX7_readsHome) := goodIn_app (goodIn_of _ (by decide +kernel)) ggX7_readsAfter_X7_readsHome
set_option maxRecDepth 20000 in
theorem ggX7_readsAfter_X7_readsUses : GoodIn wsX7_readsAfter wsX7_readsUses := goodIn_r _ [54, 3, 4, 1, 35, 36, 37, 8, 38, 2, 5, 6, 7, 9, 10, 11, 12, 13, 14, 15, 16, 17, 18, 19, 20, 21, 22, 23, 24, 25, 26, 27, 28, 29, 30, 43, 44, 45, 46, 47, 75, 76, 77, 78, 79, 80, 81, 82, 83, 84, 85, 86, 87, 88] (by decide +kernel) (by decide +kernel)
set_option maxRecDepth 20000 in
theorem gX7_readsAfter_X7_readsUses : GoodIn wsX7_readsAfter (wsV RX7 107 RX7 yX7_readsUses wsX7_readsUses) := goodIn_app (goodIn_of _ (by decide +kernel)) ggX7_readsAfter_X7_readsUses
set_option maxRecDepth 20000 in
theorem ggX7_readsAfter_X7_canPair : GoodIn wsX7_readsAfter wsX7_canPair := goodIn_r _ [58, 4, 59, 60, 61, 8, 62, 48, 49, 50, 75, 76, 77, 78, 79, 80, 81, 82, 83, 84, 85, 86, 87, 88] (by decide +kernel) (by decide +kernel)
set_option maxRecDepth 20000 in
theorem gX7_readsAfter_X7_canPair : GoodIn wsX7_readsAfter (wsV RX7 110 RX7 yX7_canPair wsX7_canPair) := goodIn_app (goodIn_of _ (by decide +kernel)) ggX7_readsAfter_X7_canPair
set_option maxRecDepth 20000 in
theorem ggX7_readsAfter_X7_readsOrder : GoodIn wsX7_readsAfter wsX7_readsOrder := goodIn_r _ [66, 2, 10, 11, 12, 13, 1, 3, 4, 14, 15, 8, 16, 17, 18, 19, 20, 21, 67, 68, 69, 70, 48, 49, 50, 35, 36, 37, 38, 5, 6, 7, 9, 22, 23, 24, 25, 26, 27, 28, 29, 30, 71, 72, 73, 74, 75, 76, 77, 78, 79, 80, 81, 82, 83, 84, 85, 86, 87, 88] (by decide +kernel) (by decide +kernel)
set_option maxRecDepth 20000 in
theorem gX7_readsAfter_X7_readsOrder : GoodIn wsX7_readsAfter (wsV RX7 113 RX7 yX7_readsOrder wsX7_readsOrder) := goodIn_app (goodIn_of _ (by decide +kernel)) ggX7_readsAfter_X7_readsOrder
theorem dX7_readsAfter_0 : decode cX7_readsAfter 0 = .ok (.iload_n 1, 1) := by decide +kernel
theorem dX7_readsAfter_1 : decode cX7_readsAfter 1 = .ok (.tableswitch 215 0 4 #[35, 76, 127, 132, 137], 35) := by decide +kernel
theorem dX7_readsAfter_36 : decode cX7_readsAfter 36 = .ok (.aload_n 0, 1) := by decide +kernel
theorem dX7_readsAfter_37 : decode cX7_readsAfter 37 = .ok (.iconst 0, 1) := by decide +kernel
theorem dX7_readsAfter_38 : decode cX7_readsAfter 38 = .ok (.iconst 2, 1) := by decide +kernel
theorem dX7_readsAfter_39 : decode cX7_readsAfter 39 = .ok (.bipush 10, 2) := by decide +kernel
theorem dX7_readsAfter_41 : decode cX7_readsAfter 41 = .ok (.iconst (-1), 1) := by decide +kernel
theorem dX7_readsAfter_42 : decode cX7_readsAfter 42 = .ok (.invokevirtual 75, 3) := by decide +kernel
theorem dX7_readsAfter_45 : decode cX7_readsAfter 45 = .ok (.ifCond .ne 5, 3) := by decide +kernel
theorem dX7_readsAfter_48 : decode cX7_readsAfter 48 = .ok (.iconst 0, 1) := by decide +kernel
theorem dX7_readsAfter_49 : decode cX7_readsAfter 49 = .ok (.ireturn, 1) := by decide +kernel
theorem dX7_readsAfter_50 : decode cX7_readsAfter 50 = .ok (.aload_n 0, 1) := by decide +kernel
theorem dX7_readsAfter_51 : decode cX7_readsAfter 51 = .ok (.aload_n 0, 1) := by decide +kernel
theorem dX7_readsAfter_52 : decode cX7_readsAfter 52 = .ok (.getfield 20, 3) := by decide +kernel
theorem dX7_readsAfter_55 : decode cX7_readsAfter 55 = .ok (.iconst 0, 1) := by decide +kernel
theorem dX7_readsAfter_56 : decode cX7_readsAfter 56 = .ok (.iaload, 1) := by decide +kernel
theorem dX7_readsAfter_57 : decode cX7_readsAfter 57 = .ok (.putfield 72, 3) := by decide +kernel
theorem dX7_readsAfter_60 : decode cX7_readsAfter 60 = .ok (.aload_n 0, 1) := by decide +kernel
theorem dX7_readsAfter_61 : decode cX7_readsAfter 61 = .ok (.getfield 89, 3) := by decide +kernel
theorem dX7_readsAfter_64 : decode cX7_readsAfter 64 = .ok (.ifCond .eq 11, 3) := by decide +kernel
theorem dX7_readsAfter_67 : decode cX7_readsAfter 67 = .ok (.aload_n 0, 1) := by decide +kernel
theorem dX7_readsAfter_68 : decode cX7_readsAfter 68 = .ok (.aload_n 0, 1) := by decide +kernel
theorem dX7_readsAfter_69 : decode cX7_readsAfter 69 = .ok (.getfield 72, 3) := by decide +kernel
theorem dX7_readsAfter_72 : decode cX7_readsAfter 72 = .ok (.invokevirtual 32, 3) := by decide +kernel
theorem dX7_readsAfter_75 : decode cX7_readsAfter 75 = .ok (.iconst 1, 1) := by decide +kernel
theorem dX7_readsAfter_76 : decode cX7_readsAfter 76 = .ok (.ireturn, 1) := by decide +kernel
theorem dX7_readsAfter_77 : decode cX7_readsAfter 77 = .ok (.aload_n 0, 1) := by decide +kernel
theorem dX7_readsAfter_78 : decode cX7_readsAfter 78 = .ok (.iconst 0, 1) := by decide +kernel
theorem dX7_readsAfter_79 : decode cX7_readsAfter 79 = .ok (.iconst (-1), 1) := by decide +kernel
theorem dX7_readsAfter_80 : decode cX7_readsAfter 80 = .ok (.invokevirtual 85, 3) := by decide +kernel
theorem dX7_readsAfter_83 : decode cX7_readsAfter 83 = .ok (.ifCond .eq 15, 3) := by decide +kernel
theorem dX7_readsAfter_86 : decode cX7_readsAfter 86 = .ok (.aload_n 0, 1) := by decide +kernel
theorem dX7_readsAfter_87 : decode cX7_readsAfter 87 = .ok (.iconst 1, 1) := by decide +kernel
theorem dX7_readsAfter_88 : decode cX7_readsAfter 88 = .ok (.iconst 1, 1) := by decide +kernel
theorem dX7_readsAfter_89 : decode cX7_readsAfter 89 = .ok (.bipush 9, 2) := by decide +kernel
theorem dX7_readsAfter_91 : decode cX7_readsAfter 91 = .ok (.iconst (-1), 1) := by decide +kernel
theorem dX7_readsAfter_92 : decode cX7_readsAfter 92 = .ok (.invokevirtual 75, 3) := by decide +kernel
theorem dX7_readsAfter_95 : decode cX7_readsAfter 95 = .ok (.ifCond .ne 5, 3) := by decide +kernel
theorem dX7_readsAfter_98 : decode cX7_readsAfter 98 = .ok (.iconst 0, 1) := by decide +kernel
theorem dX7_readsAfter_99 : decode cX7_readsAfter 99 = .ok (.ireturn, 1) := by decide +kernel
theorem dX7_readsAfter_100 : decode cX7_readsAfter 100 = .ok (.aload_n 0, 1) := by decide +kernel
theorem dX7_readsAfter_101 : decode cX7_readsAfter 101 = .ok (.getfield 89, 3) := by decide +kernel
theorem dX7_readsAfter_104 : decode cX7_readsAfter 104 = .ok (.ifCond .eq 22, 3) := by decide +kernel
theorem dX7_readsAfter_107 : decode cX7_readsAfter 107 = .ok (.aload_n 0, 1) := by decide +kernel
theorem dX7_readsAfter_108 : decode cX7_readsAfter 108 = .ok (.getfield 7, 3) := by decide +kernel
theorem dX7_readsAfter_111 : decode cX7_readsAfter 111 = .ok (.iconst 1, 1) := by decide +kernel
theorem dX7_readsAfter_112 : decode cX7_readsAfter 112 = .ok (.aload_n 0, 1) := by decide +kernel
theorem dX7_readsAfter_113 : decode cX7_readsAfter 113 = .ok (.getfield 20, 3) := by decide +kernel
theorem dX7_readsAfter_116 : decode cX7_readsAfter 116 = .ok (.iconst 0, 1) := by decide +kernel
theorem dX7_readsAfter_117 : decode cX7_readsAfter 117 = .ok (.iaload, 1) := by decide +kernel
theorem dX7_readsAfter_118 : decode cX7_readsAfter 118 = .ok (.iadd, 1) := by decide +kernel
theorem dX7_readsAfter_119 : decode cX7_readsAfter 119 = .ok (.aload_n 0, 1) := by decide +kernel
theorem dX7_readsAfter_120 : decode cX7_readsAfter 120 = .ok (.getfield 20, 3) := by decide +kernel
theorem dX7_readsAfter_123 : decode cX7_readsAfter 123 = .ok (.iconst 1, 1) := by decide +kernel
theorem dX7_readsAfter_124 : decode cX7_readsAfter 124 = .ok (.iaload, 1) := by decide +kernel
theorem dX7_readsAfter_125 : decode cX7_readsAfter 125 = .ok (.iastore, 1) := by decide +kernel
theorem dX7_readsAfter_126 : decode cX7_readsAfter 126 = .ok (.iconst 1, 1) := by decide +kernel
theorem dX7_readsAfter_127 : decode cX7_readsAfter 127 = .ok (.ireturn, 1) := by decide +kernel
theorem dX7_readsAfter_128 : decode cX7_readsAfter 128 = .ok (.aload_n 0, 1) := by decide +kernel
theorem dX7_readsAfter_129 : decode cX7_readsAfter 129 = .ok (.invokevirtual 104, 3) := by decide +kernel
theorem dX7_readsAfter_132 : decode cX7_readsAfter 132 = .ok (.ireturn, 1) := by decide +kernel
theorem dX7_readsAfter_133 : decode cX7_readsAfter 133 = .ok (.aload_n 0, 1) := by decide +kernel
theorem dX7_readsAfter_134 : decode cX7_readsAfter 134 = .ok (.invokevirtual 107, 3) := by decide +kernel
theorem dX7_readsAfter_137 : decode cX7_readsAfter 137 = .ok (.ireturn, 1) := by decide +kernel
theorem dX7_readsAfter_138 : decode cX7_readsAfter 138 = .ok (.aload_n 0, 1) := by decide +kernel
theorem dX7_readsAfter_139 : decode cX7_readsAfter 139 = .ok (.iconst 0, 1) := by decide +kernel
theorem dX7_readsAfter_140 : decode cX7_readsAfter 140 = .ok (.iconst (-1), 1) := by decide +kernel
theorem dX7_readsAfter_141 : decode cX7_readsAfter 141 = .ok (.invokevirtual 85, 3) := by decide +kernel
theorem dX7_readsAfter_144 : decode cX7_readsAfter 144 = .ok (.ifCond .eq 17, 3) := by decide +kernel
theorem dX7_readsAfter_147 : decode cX7_readsAfter 147 = .ok (.aload_n 0, 1) := by decide +kernel
theorem dX7_readsAfter_148 : decode cX7_readsAfter 148 = .ok (.iconst 1, 1) := by decide +kernel
theorem dX7_readsAfter_149 : decode cX7_readsAfter 149 = .ok (.aload_n 0, 1) := by decide +kernel
theorem dX7_readsAfter_150 : decode cX7_readsAfter 150 = .ok (.getfield 20, 3) := by decide +kernel
theorem dX7_readsAfter_153 : decode cX7_readsAfter 153 = .ok (.iconst 0, 1) := by decide +kernel
theorem dX7_readsAfter_154 : decode cX7_readsAfter 154 = .ok (.iaload, 1) := by decide +kernel
theorem dX7_readsAfter_155 : decode cX7_readsAfter 155 = .ok (.invokevirtual 85, 3) := by decide +kernel
theorem dX7_readsAfter_158 : decode cX7_readsAfter 158 = .ok (.ifCond .ne 5, 3) := by decide +kernel
theorem dX7_readsAfter_161 : decode cX7_readsAfter 161 = .ok (.iconst 0, 1) := by decide +kernel
theorem dX7_readsAfter_162 : decode cX7_readsAfter 162 = .ok (.ireturn, 1) := by decide +kernel
theorem dX7_readsAfter_163 : decode cX7_readsAfter 163 = .ok (.aload_n 0, 1) := by decide +kernel
theorem dX7_readsAfter_164 : decode cX7_readsAfter 164 = .ok (.getfield 89, 3) := by decide +kernel
theorem dX7_readsAfter_167 : decode cX7_readsAfter 167 = .ok (.ifCond .eq 47, 3) := by decide +kernel
theorem dX7_readsAfter_170 : decode cX7_readsAfter 170 = .ok (.aload_n 0, 1) := by decide +kernel
theorem dX7_readsAfter_171 : decode cX7_readsAfter 171 = .ok (.aload_n 0, 1) := by decide +kernel
theorem dX7_readsAfter_172 : decode cX7_readsAfter 172 = .ok (.getfield 20, 3) := by decide +kernel
theorem dX7_readsAfter_175 : decode cX7_readsAfter 175 = .ok (.iconst 0, 1) := by decide +kernel
theorem dX7_readsAfter_176 : decode cX7_readsAfter 176 = .ok (.iaload, 1) := by decide +kernel
theorem dX7_readsAfter_177 : decode cX7_readsAfter 177 = .ok (.aload_n 0, 1) := by decide +kernel
theorem dX7_readsAfter_178 : decode cX7_readsAfter 178 = .ok (.getfield 20, 3) := by decide +kernel
theorem dX7_readsAfter_181 : decode cX7_readsAfter 181 = .ok (.iconst 1, 1) := by decide +kernel
theorem dX7_readsAfter_182 : decode cX7_readsAfter 182 = .ok (.iaload, 1) := by decide +kernel
theorem dX7_readsAfter_183 : decode cX7_readsAfter 183 = .ok (.invokevirtual 110, 3) := by decide +kernel
theorem dX7_readsAfter_186 : decode cX7_readsAfter 186 = .ok (.ifCond .eq 28, 3) := by decide +kernel
theorem dX7_readsAfter_189 : decode cX7_readsAfter 189 = .ok (.aload_n 0, 1) := by decide +kernel
theorem dX7_readsAfter_190 : decode cX7_readsAfter 190 = .ok (.getfield 7, 3) := by decide +kernel
theorem dX7_readsAfter_193 : decode cX7_readsAfter 193 = .ok (.bipush 43, 2) := by decide +kernel
theorem dX7_readsAfter_195 : decode cX7_readsAfter 195 = .ok (.aload_n 0, 1) := by decide +kernel
theorem dX7_readsAfter_196 : decode cX7_readsAfter 196 = .ok (.getfield 20, 3) := by decide +kernel
theorem dX7_readsAfter_199 : decode cX7_readsAfter 199 = .ok (.iconst 1, 1) := by decide +kernel
theorem dX7_readsAfter_200 : decode cX7_readsAfter 200 = .ok (.iaload, 1) := by decide +kernel
theorem dX7_readsAfter_201 : decode cX7_readsAfter 201 = .ok (.iadd, 1) := by decide +kernel
theorem dX7_readsAfter_202 : decode cX7_readsAfter 202 = .ok (.dup2, 1) := by decide +kernel
theorem dX7_readsAfter_203 : decode cX7_readsAfter 203 = .ok (.iaload, 1) := by decide +kernel
theorem dX7_readsAfter_204 : decode cX7_readsAfter 204 = .ok (.iconst 1, 1) := by decide +kernel
theorem dX7_readsAfter_205 : decode cX7_readsAfter 205 = .ok (.aload_n 0, 1) := by decide +kernel
theorem dX7_readsAfter_206 : decode cX7_readsAfter 206 = .ok (.getfield 20, 3) := by decide +kernel
theorem dX7_readsAfter_209 : decode cX7_readsAfter 209 = .ok (.iconst 0, 1) := by decide +kernel
theorem dX7_readsAfter_210 : decode cX7_readsAfter 210 = .ok (.iaload, 1) := by decide +kernel
theorem dX7_readsAfter_211 : decode cX7_readsAfter 211 = .ok (.ishl, 1) := by decide +kernel
theorem dX7_readsAfter_212 : decode cX7_readsAfter 212 = .ok (.ior, 1) := by decide +kernel
theorem dX7_readsAfter_213 : decode cX7_readsAfter 213 = .ok (.iastore, 1) := by decide +kernel
theorem dX7_readsAfter_214 : decode cX7_readsAfter 214 = .ok (.iconst 1, 1) := by decide +kernel
theorem dX7_readsAfter_215 : decode cX7_readsAfter 215 = .ok (.ireturn, 1) := by decide +kernel
theorem dX7_readsAfter_216 : decode cX7_readsAfter 216 = .ok (.aload_n 0, 1) := by decide +kernel
theorem dX7_readsAfter_217 : decode cX7_readsAfter 217 = .ok (.invokevirtual 113, 3) := by decide +kernel
theorem dX7_readsAfter_220 : decode cX7_readsAfter 220 = .ok (.ireturn, 1) := by decide +kernel
set_option maxRecDepth 20000 in
theorem ggX7_readsClause_X7_nameHere : GoodIn wsX7_readsClause wsX7_nameHere := goodIn_r _ [5, 6, 7, 8, 9, 84, 85, 86, 87, 88, 89, 90, 91, 92, 93, 94, 95, 96, 97] (by decide +kernel) (by decide +kernel)
set_option maxRecDepth 20000 in
theorem gX7_readsClause_X7_nameHere : GoodIn wsX7_readsClause (wsV RX7 116 RX7 yX7_nameHere wsX7_nameHere) := goodIn_app (goodIn_of _ (by decide +kernel)) ggX7_readsClause_X7_nameHere
set_option maxRecDepth 20000 in
theorem ggX7_readsClause_X7_next : GoodIn wsX7_readsClause wsX7_next := goodIn_r _ [13, 6, 7, 14, 9, 15, 16, 4, 17, 18, 19, 20, 21, 22, 23, 24, 25, 26, 27, 84, 85, 86, 87, 88, 89, 90, 91, 92, 93, 94, 95, 96, 97] (by decide +kernel) (by decide +kernel)
set_option maxRecDepth 20000 in
theorem gX7_readsClause_X7_next : GoodIn wsX7_readsClause (wsV RX7 69 RX7 yX7_next wsX7_next) := goodIn_app (goodIn_of _ (by decide +kernel)) ggX7_readsClause_X7_next
set_option maxRecDepth 20000 in
theorem ggX7_readsClause_X7_readsAfter : GoodIn wsX7_readsClause wsX7_readsAfter := goodIn_r _ [31, 32, 33, 34, 35, 36, 37, 38, 4, 39, 7, 14, 9, 6, 23, 24, 25, 26, 27, 20, 21, 22, 10, 11, 12, 13, 15, 16, 17, 18, 19, 40, 41, 42, 43, 44, 45, 46, 47, 48, 49, 50, 51, 52, 53, 54, 55, 56, 57, 58, 59, 60, 61, 62, 63, 64, 65, 66, 67, 68, 69, 70, 71, 72, 73, 74, 75, 76, 77, 78, 79, 80, 81, 82, 83, 84, 85, 86, 87, 88, 89, 90, 91, 92, 93, 94, 95, 96, 97] (by decide +kernel) (by decide +kernel)
set_option maxRecDepth 20000 in
theorem gX7_readsClause_X7_readsAfter : GoodIn wsX7_readsClause (wsV RX7 119 RX7 yX7_readsAfter wsX7_readsAfter) := goodIn_app (goodIn_of _ (by decide +kernel)) ggX7_readsClause_X7_readsAfter
theorem dX7_readsClause_0 : decode cX7_readsClause 0 = .ok (.aload_n 0, 1) := by decide +kernel
theorem dX7_readsClause_1 : decode cX7_readsClause 1 = .ok (.invokevirtual 116, 3) := by decide +kernel
theorem dX7_readsClause_4 : decode cX7_readsClause 4 = .ok (.istore_n 1, 1) := by decide +kernel
theorem dX7_readsClause_5 : decode cX7_readsClause 5 = .ok (.iload_n 1, 1) := by decide +kernel
theorem dX7_readsClause_6 : decode cX7_readsClause 6 = .ok (.iconst (-1), 1) := by decide +kernel
theorem dX7_readsClause_7 : decode cX7_readsClause 7 = .ok (.if_icmp .ne 5, 3) := by decide +kernel
theorem dX7_readsClause_10 : decode cX7_readsClause 10 = .ok (.iconst 0, 1) := by decide +kernel
theorem dX7_readsClause_11 : decode cX7_readsClause 11 = .ok (.ireturn, 1) := by decide +kernel
theorem dX7_readsClause_12 : decode cX7_readsClause 12 = .ok (.aload_n 0, 1) := by decide +kernel
theorem dX7_readsClause_13 : decode cX7_readsClause 13 = .ok (.invokevirtual 69, 3) := by decide +kernel
theorem dX7_readsClause_16 : decode cX7_readsClause 16 = .ok (.aload_n 0, 1) := by decide +kernel
theorem dX7_readsClause_17 : decode cX7_readsClause 17 = .ok (.iload_n 1, 1) := by decide +kernel
theorem dX7_readsClause_18 : decode cX7_readsClause 18 = .ok (.invokevirtual 119, 3) := by decide +kernel
theorem dX7_readsClause_21 : decode cX7_readsClause 21 = .ok (.ireturn, 1) := by decide +kernel
set_option maxRecDepth 20000 in
theorem ggX7_readsAll_X7_next : GoodIn wsX7_readsAll wsX7_next := goodIn_r _ [13, 2, 6, 7, 8, 14, 15, 12, 16, 17, 18, 19, 20, 21, 22, 23, 24, 25, 26, 89, 90, 91, 92, 93, 94, 95, 96, 97, 98, 99, 100, 101, 102] (by decide +kernel) (by decide +kernel)
set_option maxRecDepth 20000 in
theorem gX7_readsAll_X7_next : GoodIn wsX7_readsAll (wsV RX7 69 RX7 yX7_next wsX7_next) := goodIn_app (goodIn_of _ (by decide +kernel)) ggX7_readsAll_X7_next
set_option maxRecDepth 20000 in
theorem ggX7_readsAll_X7_readsClause : GoodIn wsX7_readsAll wsX7_readsClause := goodIn_r _ [30, 31, 32, 33, 12, 34, 2, 6, 35, 8, 9, 10, 11, 13, 7, 14, 15, 16, 17, 18, 19, 20, 21, 22, 23, 24, 25, 26, 36, 37, 38, 39, 40, 5, 1, 4, 41, 42, 43, 44, 45, 46, 47, 48, 49, 50, 51, 52, 53, 54, 55, 56, 57, 58, 59, 60, 61, 62, 63, 64, 65, 66, 67, 68, 69, 70, 71, 72, 73, 74, 75, 76, 77, 78, 79, 80, 81, 82, 83, 84, 85, 86, 87, 88, 89, 90, 91, 92, 93, 94, 95, 96, 97, 98, 99, 100, 101, 102] (by decide +kernel) (by decide +kernel)
set_option maxRecDepth 20000 in
theorem gX7_readsAll_X7_readsClause : GoodIn wsX7_readsAll (wsV RX7 125 RX7 yX7_readsClause wsX7_readsClause) := goodIn_app (goodIn_of _ (by decide +kernel)) ggX7_readsAll_X7_readsClause
theorem dX7_readsAll_0 : decode cX7_readsAll 0 = .ok (.aload_n 0, 1) := by decide +kernel
theorem dX7_readsAll_1 : decode cX7_readsAll 1 = .ok (.iload_n 1, 1) := by decide +kernel
theorem dX7_readsAll_2 : decode cX7_readsAll 2 = .ok (.putfield 89, 3) := by decide +kernel
theorem dX7_readsAll_5 : decode cX7_readsAll 5 = .ok (.aload_n 0, 1) := by decide +kernel
theorem dX7_readsAll_6 : decode cX7_readsAll 6 = .ok (.iconst 0, 1) := by decide +kernel
theorem dX7_readsAll_7 : decode cX7_readsAll 7 = .ok (.putfield 56, 3) := by decide +kernel
theorem dX7_readsAll_10 : decode cX7_readsAll 10 = .ok (.aload_n 0, 1) := by decide +kernel
theorem dX7_readsAll_11 : decode cX7_readsAll 11 = .ok (.iconst 1, 1) := by decide +kernel
