set_option maxRecDepth 20000 in
theorem ggX6_init_X6_starts : GoodIn wsX6_init wsX6_starts := goodIn_r _ [22, 8, 10, 23, 12, 15, 24, 25, 26, 27, 28, 29, 30, 31, 32, 33, 34, 35, 36, 37, 38, 39, 40, 41, 42, 43, 44, 45, 46] (by decide +kernel) (by decide +kernel)
set_option maxRecDepth 20000 in
theorem gX6_init_X6_starts : GoodIn wsX6_init (wsV RX6 46 RX6 yX6_starts wsX6_starts) := goodIn_app (goodIn_of _ (by decide +kernel)) ggX6_init_X6_starts
theorem dX6_init_0 : decode cX6_init 0 = .ok (.aload_n 0, 1) := by decide +kernel
theorem dX6_init_1 : decode cX6_init 1 = .ok (.invokespecial 1, 3) := by decide +kernel
theorem dX6_init_4 : decode cX6_init 4 = .ok (.aload_n 0, 1) := by decide +kernel
theorem dX6_init_5 : decode cX6_init 5 = .ok (.bipush 16, 2) := by decide +kernel
theorem dX6_init_7 : decode cX6_init 7 = .ok (.putfield 7, 3) := by decide +kernel
theorem dX6_init_10 : decode cX6_init 10 = .ok (.aload_n 0, 1) := by decide +kernel
theorem dX6_init_11 : decode cX6_init 11 = .ok (.bipush 24, 2) := by decide +kernel
theorem dX6_init_13 : decode cX6_init 13 = .ok (.newarray .int, 2) := by decide +kernel
theorem dX6_init_15 : decode cX6_init 15 = .ok (.putfield 13, 3) := by decide +kernel
theorem dX6_init_18 : decode cX6_init 18 = .ok (.aload_n 0, 1) := by decide +kernel
theorem dX6_init_19 : decode cX6_init 19 = .ok (.bipush 96, 2) := by decide +kernel
theorem dX6_init_21 : decode cX6_init 21 = .ok (.newarray .int, 2) := by decide +kernel
theorem dX6_init_23 : decode cX6_init 23 = .ok (.putfield 17, 3) := by decide +kernel
theorem dX6_init_26 : decode cX6_init 26 = .ok (.aload_n 0, 1) := by decide +kernel
theorem dX6_init_27 : decode cX6_init 27 = .ok (.sipush 168, 3) := by decide +kernel
theorem dX6_init_30 : decode cX6_init 30 = .ok (.newarray .int, 2) := by decide +kernel
theorem dX6_init_32 : decode cX6_init 32 = .ok (.putfield 20, 3) := by decide +kernel
theorem dX6_init_35 : decode cX6_init 35 = .ok (.aload_n 0, 1) := by decide +kernel
theorem dX6_init_36 : decode cX6_init 36 = .ok (.sipush 288, 3) := by decide +kernel
theorem dX6_init_39 : decode cX6_init 39 = .ok (.newarray .float, 2) := by decide +kernel
theorem dX6_init_41 : decode cX6_init 41 = .ok (.putfield 23, 3) := by decide +kernel
theorem dX6_init_44 : decode cX6_init 44 = .ok (.aload_n 0, 1) := by decide +kernel
theorem dX6_init_45 : decode cX6_init 45 = .ok (.iconst 2, 1) := by decide +kernel
theorem dX6_init_46 : decode cX6_init 46 = .ok (.newarray .boolean, 2) := by decide +kernel
theorem dX6_init_48 : decode cX6_init 48 = .ok (.putfield 27, 3) := by decide +kernel
theorem dX6_init_51 : decode cX6_init 51 = .ok (.aload_n 0, 1) := by decide +kernel
theorem dX6_init_52 : decode cX6_init 52 = .ok (.sipush 200, 3) := by decide +kernel
theorem dX6_init_55 : decode cX6_init 55 = .ok (.newarray .int, 2) := by decide +kernel
theorem dX6_init_57 : decode cX6_init 57 = .ok (.putfield 31, 3) := by decide +kernel
theorem dX6_init_60 : decode cX6_init 60 = .ok (.aload_n 0, 1) := by decide +kernel
theorem dX6_init_61 : decode cX6_init 61 = .ok (.bipush 56, 2) := by decide +kernel
theorem dX6_init_63 : decode cX6_init 63 = .ok (.newarray .int, 2) := by decide +kernel
theorem dX6_init_65 : decode cX6_init 65 = .ok (.dup, 1) := by decide +kernel
theorem dX6_init_66 : decode cX6_init 66 = .ok (.iconst 0, 1) := by decide +kernel
theorem dX6_init_67 : decode cX6_init 67 = .ok (.bipush 102, 2) := by decide +kernel
theorem dX6_init_69 : decode cX6_init 69 = .ok (.iastore, 1) := by decide +kernel
theorem dX6_init_70 : decode cX6_init 70 = .ok (.dup, 1) := by decide +kernel
theorem dX6_init_71 : decode cX6_init 71 = .ok (.iconst 1, 1) := by decide +kernel
theorem dX6_init_72 : decode cX6_init 72 = .ok (.bipush 105, 2) := by decide +kernel
theorem dX6_init_74 : decode cX6_init 74 = .ok (.iastore, 1) := by decide +kernel
theorem dX6_init_75 : decode cX6_init 75 = .ok (.dup, 1) := by decide +kernel
theorem dX6_init_76 : decode cX6_init 76 = .ok (.iconst 2, 1) := by decide +kernel
theorem dX6_init_77 : decode cX6_init 77 = .ok (.bipush 103, 2) := by decide +kernel
theorem dX6_init_79 : decode cX6_init 79 = .ok (.iastore, 1) := by decide +kernel
theorem dX6_init_80 : decode cX6_init 80 = .ok (.dup, 1) := by decide +kernel
theorem dX6_init_81 : decode cX6_init 81 = .ok (.iconst 3, 1) := by decide +kernel
theorem dX6_init_82 : decode cX6_init 82 = .ok (.bipush 117, 2) := by decide +kernel
theorem dX6_init_84 : decode cX6_init 84 = .ok (.iastore, 1) := by decide +kernel
theorem dX6_init_85 : decode cX6_init 85 = .ok (.dup, 1) := by decide +kernel
theorem dX6_init_86 : decode cX6_init 86 = .ok (.iconst 4, 1) := by decide +kernel
theorem dX6_init_87 : decode cX6_init 87 = .ok (.bipush 114, 2) := by decide +kernel
theorem dX6_init_89 : decode cX6_init 89 = .ok (.iastore, 1) := by decide +kernel
theorem dX6_init_90 : decode cX6_init 90 = .ok (.dup, 1) := by decide +kernel
theorem dX6_init_91 : decode cX6_init 91 = .ok (.iconst 5, 1) := by decide +kernel
theorem dX6_init_92 : decode cX6_init 92 = .ok (.bipush 101, 2) := by decide +kernel
theorem dX6_init_94 : decode cX6_init 94 = .ok (.iastore, 1) := by decide +kernel
theorem dX6_init_95 : decode cX6_init 95 = .ok (.dup, 1) := by decide +kernel
theorem dX6_init_96 : decode cX6_init 96 = .ok (.bipush 6, 2) := by decide +kernel
theorem dX6_init_98 : decode cX6_init 98 = .ok (.bipush 32, 2) := by decide +kernel
theorem dX6_init_100 : decode cX6_init 100 = .ok (.iastore, 1) := by decide +kernel
theorem dX6_init_101 : decode cX6_init 101 = .ok (.dup, 1) := by decide +kernel
theorem dX6_init_102 : decode cX6_init 102 = .ok (.bipush 7, 2) := by decide +kernel
theorem dX6_init_104 : decode cX6_init 104 = .ok (.bipush 115, 2) := by decide +kernel
theorem dX6_init_106 : decode cX6_init 106 = .ok (.iastore, 1) := by decide +kernel
theorem dX6_init_107 : decode cX6_init 107 = .ok (.dup, 1) := by decide +kernel
theorem dX6_init_108 : decode cX6_init 108 = .ok (.bipush 8, 2) := by decide +kernel
theorem dX6_init_110 : decode cX6_init 110 = .ok (.bipush 116, 2) := by decide +kernel
theorem dX6_init_112 : decode cX6_init 112 = .ok (.iastore, 1) := by decide +kernel
theorem dX6_init_113 : decode cX6_init 113 = .ok (.dup, 1) := by decide +kernel
theorem dX6_init_114 : decode cX6_init 114 = .ok (.bipush 9, 2) := by decide +kernel
theorem dX6_init_116 : decode cX6_init 116 = .ok (.bipush 97, 2) := by decide +kernel
theorem dX6_init_118 : decode cX6_init 118 = .ok (.iastore, 1) := by decide +kernel
theorem dX6_init_119 : decode cX6_init 119 = .ok (.dup, 1) := by decide +kernel
theorem dX6_init_120 : decode cX6_init 120 = .ok (.bipush 10, 2) := by decide +kernel
theorem dX6_init_122 : decode cX6_init 122 = .ok (.bipush 116, 2) := by decide +kernel
theorem dX6_init_124 : decode cX6_init 124 = .ok (.iastore, 1) := by decide +kernel
theorem dX6_init_125 : decode cX6_init 125 = .ok (.dup, 1) := by decide +kernel
theorem dX6_init_126 : decode cX6_init 126 = .ok (.bipush 11, 2) := by decide +kernel
theorem dX6_init_128 : decode cX6_init 128 = .ok (.bipush 101, 2) := by decide +kernel
theorem dX6_init_130 : decode cX6_init 130 = .ok (.iastore, 1) := by decide +kernel
theorem dX6_init_131 : decode cX6_init 131 = .ok (.dup, 1) := by decide +kernel
theorem dX6_init_132 : decode cX6_init 132 = .ok (.bipush 12, 2) := by decide +kernel
theorem dX6_init_134 : decode cX6_init 134 = .ok (.bipush 32, 2) := by decide +kernel
theorem dX6_init_136 : decode cX6_init 136 = .ok (.iastore, 1) := by decide +kernel
theorem dX6_init_137 : decode cX6_init 137 = .ok (.dup, 1) := by decide +kernel
theorem dX6_init_138 : decode cX6_init 138 = .ok (.bipush 13, 2) := by decide +kernel
theorem dX6_init_140 : decode cX6_init 140 = .ok (.bipush 119, 2) := by decide +kernel
theorem dX6_init_142 : decode cX6_init 142 = .ok (.iastore, 1) := by decide +kernel
theorem dX6_init_143 : decode cX6_init 143 = .ok (.dup, 1) := by decide +kernel
theorem dX6_init_144 : decode cX6_init 144 = .ok (.bipush 14, 2) := by decide +kernel
theorem dX6_init_146 : decode cX6_init 146 = .ok (.bipush 97, 2) := by decide +kernel
theorem dX6_init_148 : decode cX6_init 148 = .ok (.iastore, 1) := by decide +kernel
theorem dX6_init_149 : decode cX6_init 149 = .ok (.dup, 1) := by decide +kernel
theorem dX6_init_150 : decode cX6_init 150 = .ok (.bipush 15, 2) := by decide +kernel
theorem dX6_init_152 : decode cX6_init 152 = .ok (.bipush 121, 2) := by decide +kernel
theorem dX6_init_154 : decode cX6_init 154 = .ok (.iastore, 1) := by decide +kernel
theorem dX6_init_155 : decode cX6_init 155 = .ok (.dup, 1) := by decide +kernel
theorem dX6_init_156 : decode cX6_init 156 = .ok (.bipush 16, 2) := by decide +kernel
theorem dX6_init_158 : decode cX6_init 158 = .ok (.bipush 32, 2) := by decide +kernel
theorem dX6_init_160 : decode cX6_init 160 = .ok (.iastore, 1) := by decide +kernel
theorem dX6_init_161 : decode cX6_init 161 = .ok (.dup, 1) := by decide +kernel
theorem dX6_init_162 : decode cX6_init 162 = .ok (.bipush 17, 2) := by decide +kernel
theorem dX6_init_164 : decode cX6_init 164 = .ok (.bipush 98, 2) := by decide +kernel
theorem dX6_init_166 : decode cX6_init 166 = .ok (.iastore, 1) := by decide +kernel
theorem dX6_init_167 : decode cX6_init 167 = .ok (.dup, 1) := by decide +kernel
theorem dX6_init_168 : decode cX6_init 168 = .ok (.bipush 18, 2) := by decide +kernel
theorem dX6_init_170 : decode cX6_init 170 = .ok (.bipush 114, 2) := by decide +kernel
theorem dX6_init_172 : decode cX6_init 172 = .ok (.iastore, 1) := by decide +kernel
theorem dX6_init_173 : decode cX6_init 173 = .ok (.dup, 1) := by decide +kernel
theorem dX6_init_174 : decode cX6_init 174 = .ok (.bipush 19, 2) := by decide +kernel
theorem dX6_init_176 : decode cX6_init 176 = .ok (.bipush 101, 2) := by decide +kernel
theorem dX6_init_178 : decode cX6_init 178 = .ok (.iastore, 1) := by decide +kernel
theorem dX6_init_179 : decode cX6_init 179 = .ok (.dup, 1) := by decide +kernel
theorem dX6_init_180 : decode cX6_init 180 = .ok (.bipush 20, 2) := by decide +kernel
theorem dX6_init_182 : decode cX6_init 182 = .ok (.bipush 97, 2) := by decide +kernel
theorem dX6_init_184 : decode cX6_init 184 = .ok (.iastore, 1) := by decide +kernel
theorem dX6_init_185 : decode cX6_init 185 = .ok (.dup, 1) := by decide +kernel
theorem dX6_init_186 : decode cX6_init 186 = .ok (.bipush 21, 2) := by decide +kernel
theorem dX6_init_188 : decode cX6_init 188 = .ok (.bipush 107, 2) := by decide +kernel
theorem dX6_init_190 : decode cX6_init 190 = .ok (.iastore, 1) := by decide +kernel
theorem dX6_init_191 : decode cX6_init 191 = .ok (.dup, 1) := by decide +kernel
theorem dX6_init_192 : decode cX6_init 192 = .ok (.bipush 22, 2) := by decide +kernel
theorem dX6_init_194 : decode cX6_init 194 = .ok (.bipush 105, 2) := by decide +kernel
theorem dX6_init_196 : decode cX6_init 196 = .ok (.iastore, 1) := by decide +kernel
theorem dX6_init_197 : decode cX6_init 197 = .ok (.dup, 1) := by decide +kernel
theorem dX6_init_198 : decode cX6_init 198 = .ok (.bipush 23, 2) := by decide +kernel
theorem dX6_init_200 : decode cX6_init 200 = .ok (.bipush 110, 2) := by decide +kernel
theorem dX6_init_202 : decode cX6_init 202 = .ok (.iastore, 1) := by decide +kernel
theorem dX6_init_203 : decode cX6_init 203 = .ok (.dup, 1) := by decide +kernel
theorem dX6_init_204 : decode cX6_init 204 = .ok (.bipush 24, 2) := by decide +kernel
theorem dX6_init_206 : decode cX6_init 206 = .ok (.bipush 103, 2) := by decide +kernel
theorem dX6_init_208 : decode cX6_init 208 = .ok (.iastore, 1) := by decide +kernel
theorem dX6_init_209 : decode cX6_init 209 = .ok (.dup, 1) := by decide +kernel
theorem dX6_init_210 : decode cX6_init 210 = .ok (.bipush 25, 2) := by decide +kernel
theorem dX6_init_212 : decode cX6_init 212 = .ok (.bipush 32, 2) := by decide +kernel
theorem dX6_init_214 : decode cX6_init 214 = .ok (.iastore, 1) := by decide +kernel
theorem dX6_init_215 : decode cX6_init 215 = .ok (.dup, 1) := by decide +kernel
theorem dX6_init_216 : decode cX6_init 216 = .ok (.bipush 26, 2) := by decide +kernel
theorem dX6_init_218 : decode cX6_init 218 = .ok (.bipush 109, 2) := by decide +kernel
theorem dX6_init_220 : decode cX6_init 220 = .ok (.iastore, 1) := by decide +kernel
theorem dX6_init_221 : decode cX6_init 221 = .ok (.dup, 1) := by decide +kernel
theorem dX6_init_222 : decode cX6_init 222 = .ok (.bipush 27, 2) := by decide +kernel
theorem dX6_init_224 : decode cX6_init 224 = .ok (.bipush 97, 2) := by decide +kernel
theorem dX6_init_226 : decode cX6_init 226 = .ok (.iastore, 1) := by decide +kernel
theorem dX6_init_227 : decode cX6_init 227 = .ok (.dup, 1) := by decide +kernel
theorem dX6_init_228 : decode cX6_init 228 = .ok (.bipush 28, 2) := by decide +kernel
theorem dX6_init_230 : decode cX6_init 230 = .ok (.bipush 115, 2) := by decide +kernel
theorem dX6_init_232 : decode cX6_init 232 = .ok (.iastore, 1) := by decide +kernel
theorem dX6_init_233 : decode cX6_init 233 = .ok (.dup, 1) := by decide +kernel
theorem dX6_init_234 : decode cX6_init 234 = .ok (.bipush 29, 2) := by decide +kernel
theorem dX6_init_236 : decode cX6_init 236 = .ok (.bipush 107, 2) := by decide +kernel
theorem dX6_init_238 : decode cX6_init 238 = .ok (.iastore, 1) := by decide +kernel
theorem dX6_init_239 : decode cX6_init 239 = .ok (.dup, 1) := by decide +kernel
theorem dX6_init_240 : decode cX6_init 240 = .ok (.bipush 30, 2) := by decide +kernel
theorem dX6_init_242 : decode cX6_init 242 = .ok (.bipush 32, 2) := by decide +kernel
theorem dX6_init_244 : decode cX6_init 244 = .ok (.iastore, 1) := by decide +kernel
theorem dX6_init_245 : decode cX6_init 245 = .ok (.dup, 1) := by decide +kernel
theorem dX6_init_246 : decode cX6_init 246 = .ok (.bipush 31, 2) := by decide +kernel
theorem dX6_init_248 : decode cX6_init 248 = .ok (.bipush 97, 2) := by decide +kernel
theorem dX6_init_250 : decode cX6_init 250 = .ok (.iastore, 1) := by decide +kernel
theorem dX6_init_251 : decode cX6_init 251 = .ok (.dup, 1) := by decide +kernel
theorem dX6_init_252 : decode cX6_init 252 = .ok (.bipush 32, 2) := by decide +kernel
theorem dX6_init_254 : decode cX6_init 254 = .ok (.bipush 102, 2) := by decide +kernel
theorem dX6_init_256 : decode cX6_init 256 = .ok (.iastore, 1) := by decide +kernel
theorem dX6_init_257 : decode cX6_init 257 = .ok (.dup, 1) := by decide +kernel
theorem dX6_init_258 : decode cX6_init 258 = .ok (.bipush 33, 2) := by decide +kernel
theorem dX6_init_260 : decode cX6_init 260 = .ok (.bipush 116, 2) := by decide +kernel
theorem dX6_init_262 : decode cX6_init 262 = .ok (.iastore, 1) := by decide +kernel
theorem dX6_init_263 : decode cX6_init 263 = .ok (.dup, 1) := by decide +kernel
theorem dX6_init_264 : decode cX6_init 264 = .ok (.bipush 34, 2) := by decide +kernel
theorem dX6_init_266 : decode cX6_init 266 = .ok (.bipush 101, 2) := by decide +kernel
theorem dX6_init_268 : decode cX6_init 268 = .ok (.iastore, 1) := by decide +kernel
theorem dX6_init_269 : decode cX6_init 269 = .ok (.dup, 1) := by decide +kernel
theorem dX6_init_270 : decode cX6_init 270 = .ok (.bipush 35, 2) := by decide +kernel
theorem dX6_init_272 : decode cX6_init 272 = .ok (.bipush 114, 2) := by decide +kernel
theorem dX6_init_274 : decode cX6_init 274 = .ok (.iastore, 1) := by decide +kernel
theorem dX6_init_275 : decode cX6_init 275 = .ok (.dup, 1) := by decide +kernel
theorem dX6_init_276 : decode cX6_init 276 = .ok (.bipush 36, 2) := by decide +kernel
theorem dX6_init_278 : decode cX6_init 278 = .ok (.bipush 32, 2) := by decide +kernel
theorem dX6_init_280 : decode cX6_init 280 = .ok (.iastore, 1) := by decide +kernel
theorem dX6_init_281 : decode cX6_init 281 = .ok (.dup, 1) := by decide +kernel
theorem dX6_init_282 : decode cX6_init 282 = .ok (.bipush 37, 2) := by decide +kernel
theorem dX6_init_284 : decode cX6_init 284 = .ok (.bipush 111, 2) := by decide +kernel
theorem dX6_init_286 : decode cX6_init 286 = .ok (.iastore, 1) := by decide +kernel
theorem dX6_init_287 : decode cX6_init 287 = .ok (.dup, 1) := by decide +kernel
theorem dX6_init_288 : decode cX6_init 288 = .ok (.bipush 38, 2) := by decide +kernel
theorem dX6_init_290 : decode cX6_init 290 = .ok (.bipush 118, 2) := by decide +kernel
theorem dX6_init_292 : decode cX6_init 292 = .ok (.iastore, 1) := by decide +kernel
theorem dX6_init_293 : decode cX6_init 293 = .ok (.dup, 1) := by decide +kernel
theorem dX6_init_294 : decode cX6_init 294 = .ok (.bipush 39, 2) := by decide +kernel
theorem dX6_init_296 : decode cX6_init 296 = .ok (.bipush 101, 2) := by decide +kernel
theorem dX6_init_298 : decode cX6_init 298 = .ok (.iastore, 1) := by decide +kernel
theorem dX6_init_299 : decode cX6_init 299 = .ok (.dup, 1) := by decide +kernel
theorem dX6_init_300 : decode cX6_init 300 = .ok (.bipush 40, 2) := by decide +kernel
theorem dX6_init_302 : decode cX6_init 302 = .ok (.bipush 114, 2) := by decide +kernel
theorem dX6_init_304 : decode cX6_init 304 = .ok (.iastore, 1) := by decide +kernel
theorem dX6_init_305 : decode cX6_init 305 = .ok (.dup, 1) := by decide +kernel
theorem dX6_init_306 : decode cX6_init 306 = .ok (.bipush 41, 2) := by decide +kernel
theorem dX6_init_308 : decode cX6_init 308 = .ok (.bipush 32, 2) := by decide +kernel
theorem dX6_init_310 : decode cX6_init 310 = .ok (.iastore, 1) := by decide +kernel
theorem dX6_init_311 : decode cX6_init 311 = .ok (.dup, 1) := by decide +kernel
theorem dX6_init_312 : decode cX6_init 312 = .ok (.bipush 42, 2) := by decide +kernel
theorem dX6_init_314 : decode cX6_init 314 = .ok (.bipush 117, 2) := by decide +kernel
theorem dX6_init_316 : decode cX6_init 316 = .ok (.iastore, 1) := by decide +kernel
theorem dX6_init_317 : decode cX6_init 317 = .ok (.dup, 1) := by decide +kernel
theorem dX6_init_318 : decode cX6_init 318 = .ok (.bipush 43, 2) := by decide +kernel
theorem dX6_init_320 : decode cX6_init 320 = .ok (.bipush 110, 2) := by decide +kernel
theorem dX6_init_322 : decode cX6_init 322 = .ok (.iastore, 1) := by decide +kernel
theorem dX6_init_323 : decode cX6_init 323 = .ok (.dup, 1) := by decide +kernel
theorem dX6_init_324 : decode cX6_init 324 = .ok (.bipush 44, 2) := by decide +kernel
theorem dX6_init_326 : decode cX6_init 326 = .ok (.bipush 100, 2) := by decide +kernel
theorem dX6_init_328 : decode cX6_init 328 = .ok (.iastore, 1) := by decide +kernel
theorem dX6_init_329 : decode cX6_init 329 = .ok (.dup, 1) := by decide +kernel
theorem dX6_init_330 : decode cX6_init 330 = .ok (.bipush 45, 2) := by decide +kernel
theorem dX6_init_332 : decode cX6_init 332 = .ok (.bipush 101, 2) := by decide +kernel
theorem dX6_init_334 : decode cX6_init 334 = .ok (.iastore, 1) := by decide +kernel
theorem dX6_init_335 : decode cX6_init 335 = .ok (.dup, 1) := by decide +kernel
theorem dX6_init_336 : decode cX6_init 336 = .ok (.bipush 46, 2) := by decide +kernel
theorem dX6_init_338 : decode cX6_init 338 = .ok (.bipush 114, 2) := by decide +kernel
theorem dX6_init_340 : decode cX6_init 340 = .ok (.iastore, 1) := by decide +kernel
theorem dX6_init_341 : decode cX6_init 341 = .ok (.dup, 1) := by decide +kernel
theorem dX6_init_342 : decode cX6_init 342 = .ok (.bipush 47, 2) := by decide +kernel
theorem dX6_init_344 : decode cX6_init 344 = .ok (.bipush 32, 2) := by decide +kernel
theorem dX6_init_346 : decode cX6_init 346 = .ok (.iastore, 1) := by decide +kernel
theorem dX6_init_347 : decode cX6_init 347 = .ok (.dup, 1) := by decide +kernel
theorem dX6_init_348 : decode cX6_init 348 = .ok (.bipush 48, 2) := by decide +kernel
theorem dX6_init_350 : decode cX6_init 350 = .ok (.bipush 116, 2) := by decide +kernel
theorem dX6_init_352 : decode cX6_init 352 = .ok (.iastore, 1) := by decide +kernel
theorem dX6_init_353 : decode cX6_init 353 = .ok (.dup, 1) := by decide +kernel
theorem dX6_init_354 : decode cX6_init 354 = .ok (.bipush 49, 2) := by decide +kernel
theorem dX6_init_356 : decode cX6_init 356 = .ok (.bipush 114, 2) := by decide +kernel
theorem dX6_init_358 : decode cX6_init 358 = .ok (.iastore, 1) := by decide +kernel
theorem dX6_init_359 : decode cX6_init 359 = .ok (.dup, 1) := by decide +kernel
theorem dX6_init_360 : decode cX6_init 360 = .ok (.bipush 50, 2) := by decide +kernel
theorem dX6_init_362 : decode cX6_init 362 = .ok (.bipush 105, 2) := by decide +kernel
theorem dX6_init_364 : decode cX6_init 364 = .ok (.iastore, 1) := by decide +kernel
theorem dX6_init_365 : decode cX6_init 365 = .ok (.dup, 1) := by decide +kernel
theorem dX6_init_366 : decode cX6_init 366 = .ok (.bipush 51, 2) := by decide +kernel
theorem dX6_init_368 : decode cX6_init 368 = .ok (.bipush 103, 2) := by decide +kernel
theorem dX6_init_370 : decode cX6_init 370 = .ok (.iastore, 1) := by decide +kernel
theorem dX6_init_371 : decode cX6_init 371 = .ok (.dup, 1) := by decide +kernel
theorem dX6_init_372 : decode cX6_init 372 = .ok (.bipush 52, 2) := by decide +kernel
theorem dX6_init_374 : decode cX6_init 374 = .ok (.bipush 103, 2) := by decide +kernel
theorem dX6_init_376 : decode cX6_init 376 = .ok (.iastore, 1) := by decide +kernel
theorem dX6_init_377 : decode cX6_init 377 = .ok (.dup, 1) := by decide +kernel
theorem dX6_init_378 : decode cX6_init 378 = .ok (.bipush 53, 2) := by decide +kernel
theorem dX6_init_380 : decode cX6_init 380 = .ok (.bipush 101, 2) := by decide +kernel
theorem dX6_init_382 : decode cX6_init 382 = .ok (.iastore, 1) := by decide +kernel
theorem dX6_init_383 : decode cX6_init 383 = .ok (.dup, 1) := by decide +kernel
theorem dX6_init_384 : decode cX6_init 384 = .ok (.bipush 54, 2) := by decide +kernel
theorem dX6_init_386 : decode cX6_init 386 = .ok (.bipush 114, 2) := by decide +kernel
theorem dX6_init_388 : decode cX6_init 388 = .ok (.iastore, 1) := by decide +kernel
theorem dX6_init_389 : decode cX6_init 389 = .ok (.dup, 1) := by decide +kernel
theorem dX6_init_390 : decode cX6_init 390 = .ok (.bipush 55, 2) := by decide +kernel
theorem dX6_init_392 : decode cX6_init 392 = .ok (.bipush 32, 2) := by decide +kernel
theorem dX6_init_394 : decode cX6_init 394 = .ok (.iastore, 1) := by decide +kernel
theorem dX6_init_395 : decode cX6_init 395 = .ok (.putfield 34, 3) := by decide +kernel
theorem dX6_init_398 : decode cX6_init 398 = .ok (.aload_n 0, 1) := by decide +kernel
theorem dX6_init_399 : decode cX6_init 399 = .ok (.iconst 3, 1) := by decide +kernel
theorem dX6_init_400 : decode cX6_init 400 = .ok (.newarray .int, 2) := by decide +kernel
theorem dX6_init_402 : decode cX6_init 402 = .ok (.dup, 1) := by decide +kernel
theorem dX6_init_403 : decode cX6_init 403 = .ok (.iconst 0, 1) := by decide +kernel
theorem dX6_init_404 : decode cX6_init 404 = .ok (.iconst (-1), 1) := by decide +kernel
theorem dX6_init_405 : decode cX6_init 405 = .ok (.iastore, 1) := by decide +kernel
theorem dX6_init_406 : decode cX6_init 406 = .ok (.dup, 1) := by decide +kernel
theorem dX6_init_407 : decode cX6_init 407 = .ok (.iconst 1, 1) := by decide +kernel
theorem dX6_init_408 : decode cX6_init 408 = .ok (.iconst (-1), 1) := by decide +kernel
theorem dX6_init_409 : decode cX6_init 409 = .ok (.iastore, 1) := by decide +kernel
theorem dX6_init_410 : decode cX6_init 410 = .ok (.dup, 1) := by decide +kernel
theorem dX6_init_411 : decode cX6_init 411 = .ok (.iconst 2, 1) := by decide +kernel
theorem dX6_init_412 : decode cX6_init 412 = .ok (.iconst (-1), 1) := by decide +kernel
theorem dX6_init_413 : decode cX6_init 413 = .ok (.iastore, 1) := by decide +kernel
theorem dX6_init_414 : decode cX6_init 414 = .ok (.putfield 37, 3) := by decide +kernel
theorem dX6_init_417 : decode cX6_init 417 = .ok (.aload_n 0, 1) := by decide +kernel
theorem dX6_init_418 : decode cX6_init 418 = .ok (.iconst 3, 1) := by decide +kernel
theorem dX6_init_419 : decode cX6_init 419 = .ok (.newarray .int, 2) := by decide +kernel
theorem dX6_init_421 : decode cX6_init 421 = .ok (.putfield 40, 3) := by decide +kernel
theorem dX6_init_424 : decode cX6_init 424 = .ok (.aload_n 0, 1) := by decide +kernel
theorem dX6_init_425 : decode cX6_init 425 = .ok (.bipush 24, 2) := by decide +kernel
theorem dX6_init_427 : decode cX6_init 427 = .ok (.newarray .int, 2) := by decide +kernel
theorem dX6_init_429 : decode cX6_init 429 = .ok (.putfield 43, 3) := by decide +kernel
theorem dX6_init_432 : decode cX6_init 432 = .ok (.aload_n 0, 1) := by decide +kernel
theorem dX6_init_433 : decode cX6_init 433 = .ok (.invokevirtual 46, 3) := by decide +kernel
theorem dX6_init_436 : decode cX6_init 436 = .ok (.return_, 1) := by decide +kernel
theorem dX6_in_0 : decode cX6_in 0 = .ok (.lload_n 0, 1) := by decide +kernel
theorem dX6_in_1 : decode cX6_in 1 = .ok (.lload_n 2, 1) := by decide +kernel
theorem dX6_in_2 : decode cX6_in 2 = .ok (.lcmp, 1) := by decide +kernel
theorem dX6_in_3 : decode cX6_in 3 = .ok (.ifCond .lt 14, 3) := by decide +kernel
theorem dX6_in_6 : decode cX6_in 6 = .ok (.lload_n 0, 1) := by decide +kernel
theorem dX6_in_7 : decode cX6_in 7 = .ok (.lload 4, 2) := by decide +kernel
theorem dX6_in_9 : decode cX6_in 9 = .ok (.lcmp, 1) := by decide +kernel
theorem dX6_in_10 : decode cX6_in 10 = .ok (.ifCond .gt 7, 3) := by decide +kernel
theorem dX6_in_13 : decode cX6_in 13 = .ok (.iconst 1, 1) := by decide +kernel
theorem dX6_in_14 : decode cX6_in 14 = .ok (.goto 4, 3) := by decide +kernel
theorem dX6_in_17 : decode cX6_in 17 = .ok (.iconst 0, 1) := by decide +kernel
theorem dX6_in_18 : decode cX6_in 18 = .ok (.ireturn, 1) := by decide +kernel
theorem dX6_has_0 : decode cX6_has 0 = .ok (.iload_n 0, 1) := by decide +kernel
theorem dX6_has_1 : decode cX6_has 1 = .ok (.iload_n 1, 1) := by decide +kernel
theorem dX6_has_2 : decode cX6_has 2 = .ok (.ishr, 1) := by decide +kernel
theorem dX6_has_3 : decode cX6_has 3 = .ok (.iconst 1, 1) := by decide +kernel
theorem dX6_has_4 : decode cX6_has 4 = .ok (.iand, 1) := by decide +kernel
theorem dX6_has_5 : decode cX6_has 5 = .ok (.iconst 1, 1) := by decide +kernel
theorem dX6_has_6 : decode cX6_has 6 = .ok (.if_icmp .ne 7, 3) := by decide +kernel
theorem dX6_has_9 : decode cX6_has 9 = .ok (.iconst 1, 1) := by decide +kernel
theorem dX6_has_10 : decode cX6_has 10 = .ok (.goto 4, 3) := by decide +kernel
theorem dX6_has_13 : decode cX6_has 13 = .ok (.iconst 0, 1) := by decide +kernel
theorem dX6_has_14 : decode cX6_has 14 = .ok (.ireturn, 1) := by decide +kernel
theorem dX6_copy_0 : decode cX6_copy 0 = .ok (.iconst 0, 1) := by decide +kernel
theorem dX6_copy_1 : decode cX6_copy 1 = .ok (.istore_n 3, 1) := by decide +kernel
theorem dX6_copy_2 : decode cX6_copy 2 = .ok (.iload_n 3, 1) := by decide +kernel
theorem dX6_copy_3 : decode cX6_copy 3 = .ok (.bipush 14, 2) := by decide +kernel
theorem dX6_copy_5 : decode cX6_copy 5 = .ok (.if_icmp .ge 31, 3) := by decide +kernel
theorem dX6_copy_8 : decode cX6_copy 8 = .ok (.aload_n 0, 1) := by decide +kernel
theorem dX6_copy_9 : decode cX6_copy 9 = .ok (.getfield 20, 3) := by decide +kernel
theorem dX6_copy_12 : decode cX6_copy 12 = .ok (.bipush 14, 2) := by decide +kernel
theorem dX6_copy_14 : decode cX6_copy 14 = .ok (.iload_n 2, 1) := by decide +kernel
theorem dX6_copy_15 : decode cX6_copy 15 = .ok (.imul, 1) := by decide +kernel
theorem dX6_copy_16 : decode cX6_copy 16 = .ok (.iload_n 3, 1) := by decide +kernel
theorem dX6_copy_17 : decode cX6_copy 17 = .ok (.iadd, 1) := by decide +kernel
theorem dX6_copy_18 : decode cX6_copy 18 = .ok (.aload_n 0, 1) := by decide +kernel
theorem dX6_copy_19 : decode cX6_copy 19 = .ok (.getfield 20, 3) := by decide +kernel
theorem dX6_copy_22 : decode cX6_copy 22 = .ok (.bipush 14, 2) := by decide +kernel
theorem dX6_copy_24 : decode cX6_copy 24 = .ok (.iload_n 1, 1) := by decide +kernel
theorem dX6_copy_25 : decode cX6_copy 25 = .ok (.imul, 1) := by decide +kernel
theorem dX6_copy_26 : decode cX6_copy 26 = .ok (.iload_n 3, 1) := by decide +kernel
theorem dX6_copy_27 : decode cX6_copy 27 = .ok (.iadd, 1) := by decide +kernel
theorem dX6_copy_28 : decode cX6_copy 28 = .ok (.iaload, 1) := by decide +kernel
theorem dX6_copy_29 : decode cX6_copy 29 = .ok (.iastore, 1) := by decide +kernel
theorem dX6_copy_30 : decode cX6_copy 30 = .ok (.iinc 3 1, 3) := by decide +kernel
theorem dX6_copy_33 : decode cX6_copy 33 = .ok (.goto (-31), 3) := by decide +kernel
theorem dX6_copy_36 : decode cX6_copy 36 = .ok (.iconst 0, 1) := by decide +kernel
theorem dX6_copy_37 : decode cX6_copy 37 = .ok (.istore_n 3, 1) := by decide +kernel
theorem dX6_copy_38 : decode cX6_copy 38 = .ok (.iload_n 3, 1) := by decide +kernel
theorem dX6_copy_39 : decode cX6_copy 39 = .ok (.bipush 24, 2) := by decide +kernel
theorem dX6_copy_41 : decode cX6_copy 41 = .ok (.if_icmp .ge 31, 3) := by decide +kernel
theorem dX6_copy_44 : decode cX6_copy 44 = .ok (.aload_n 0, 1) := by decide +kernel
theorem dX6_copy_45 : decode cX6_copy 45 = .ok (.getfield 23, 3) := by decide +kernel
theorem dX6_copy_48 : decode cX6_copy 48 = .ok (.bipush 24, 2) := by decide +kernel
theorem dX6_copy_50 : decode cX6_copy 50 = .ok (.iload_n 2, 1) := by decide +kernel
theorem dX6_copy_51 : decode cX6_copy 51 = .ok (.imul, 1) := by decide +kernel
theorem dX6_copy_52 : decode cX6_copy 52 = .ok (.iload_n 3, 1) := by decide +kernel
theorem dX6_copy_53 : decode cX6_copy 53 = .ok (.iadd, 1) := by decide +kernel
theorem dX6_copy_54 : decode cX6_copy 54 = .ok (.aload_n 0, 1) := by decide +kernel
theorem dX6_copy_55 : decode cX6_copy 55 = .ok (.getfield 23, 3) := by decide +kernel
theorem dX6_copy_58 : decode cX6_copy 58 = .ok (.bipush 24, 2) := by decide +kernel
theorem dX6_copy_60 : decode cX6_copy 60 = .ok (.iload_n 1, 1) := by decide +kernel
theorem dX6_copy_61 : decode cX6_copy 61 = .ok (.imul, 1) := by decide +kernel
theorem dX6_copy_62 : decode cX6_copy 62 = .ok (.iload_n 3, 1) := by decide +kernel
theorem dX6_copy_63 : decode cX6_copy 63 = .ok (.iadd, 1) := by decide +kernel
theorem dX6_copy_64 : decode cX6_copy 64 = .ok (.faload, 1) := by decide +kernel
theorem dX6_copy_65 : decode cX6_copy 65 = .ok (.fastore, 1) := by decide +kernel
theorem dX6_copy_66 : decode cX6_copy 66 = .ok (.iinc 3 1, 3) := by decide +kernel
theorem dX6_copy_69 : decode cX6_copy 69 = .ok (.goto (-31), 3) := by decide +kernel
theorem dX6_copy_72 : decode cX6_copy 72 = .ok (.return_, 1) := by decide +kernel
theorem dX6_starts_0 : decode cX6_starts 0 = .ok (.iconst 0, 1) := by decide +kernel
theorem dX6_starts_1 : decode cX6_starts 1 = .ok (.istore_n 1, 1) := by decide +kernel
theorem dX6_starts_2 : decode cX6_starts 2 = .ok (.iload_n 1, 1) := by decide +kernel
theorem dX6_starts_3 : decode cX6_starts 3 = .ok (.bipush 14, 2) := by decide +kernel
theorem dX6_starts_5 : decode cX6_starts 5 = .ok (.if_icmp .ge 16, 3) := by decide +kernel
theorem dX6_starts_8 : decode cX6_starts 8 = .ok (.aload_n 0, 1) := by decide +kernel
theorem dX6_starts_9 : decode cX6_starts 9 = .ok (.getfield 20, 3) := by decide +kernel
theorem dX6_starts_12 : decode cX6_starts 12 = .ok (.iload_n 1, 1) := by decide +kernel
theorem dX6_starts_13 : decode cX6_starts 13 = .ok (.iconst 0, 1) := by decide +kernel
theorem dX6_starts_14 : decode cX6_starts 14 = .ok (.iastore, 1) := by decide +kernel
theorem dX6_starts_15 : decode cX6_starts 15 = .ok (.iinc 1 1, 3) := by decide +kernel
theorem dX6_starts_18 : decode cX6_starts 18 = .ok (.goto (-16), 3) := by decide +kernel
theorem dX6_starts_21 : decode cX6_starts 21 = .ok (.iconst 0, 1) := by decide +kernel
theorem dX6_starts_22 : decode cX6_starts 22 = .ok (.istore_n 1, 1) := by decide +kernel
theorem dX6_starts_23 : decode cX6_starts 23 = .ok (.iload_n 1, 1) := by decide +kernel
theorem dX6_starts_24 : decode cX6_starts 24 = .ok (.bipush 24, 2) := by decide +kernel
theorem dX6_starts_26 : decode cX6_starts 26 = .ok (.if_icmp .ge 16, 3) := by decide +kernel
theorem dX6_starts_29 : decode cX6_starts 29 = .ok (.aload_n 0, 1) := by decide +kernel
theorem dX6_starts_30 : decode cX6_starts 30 = .ok (.getfield 23, 3) := by decide +kernel
theorem dX6_starts_33 : decode cX6_starts 33 = .ok (.iload_n 1, 1) := by decide +kernel
theorem dX6_starts_34 : decode cX6_starts 34 = .ok (.fconst 0, 1) := by decide +kernel
theorem dX6_starts_35 : decode cX6_starts 35 = .ok (.fastore, 1) := by decide +kernel
theorem dX6_starts_36 : decode cX6_starts 36 = .ok (.iinc 1 1, 3) := by decide +kernel
theorem dX6_starts_39 : decode cX6_starts 39 = .ok (.goto (-16), 3) := by decide +kernel
theorem dX6_starts_42 : decode cX6_starts 42 = .ok (.iconst 0, 1) := by decide +kernel
theorem dX6_starts_43 : decode cX6_starts 43 = .ok (.istore_n 1, 1) := by decide +kernel
theorem dX6_starts_44 : decode cX6_starts 44 = .ok (.iload_n 1, 1) := by decide +kernel
theorem dX6_starts_45 : decode cX6_starts 45 = .ok (.iconst 2, 1) := by decide +kernel
theorem dX6_starts_46 : decode cX6_starts 46 = .ok (.if_icmp .ge 30, 3) := by decide +kernel
theorem dX6_starts_49 : decode cX6_starts 49 = .ok (.aload_n 0, 1) := by decide +kernel
theorem dX6_starts_50 : decode cX6_starts 50 = .ok (.getfield 20, 3) := by decide +kernel
theorem dX6_starts_53 : decode cX6_starts 53 = .ok (.iconst 5, 1) := by decide +kernel
theorem dX6_starts_54 : decode cX6_starts 54 = .ok (.iload_n 1, 1) := by decide +kernel
theorem dX6_starts_55 : decode cX6_starts 55 = .ok (.imul, 1) := by decide +kernel
theorem dX6_starts_56 : decode cX6_starts 56 = .ok (.iconst 4, 1) := by decide +kernel
theorem dX6_starts_57 : decode cX6_starts 57 = .ok (.iadd, 1) := by decide +kernel
theorem dX6_starts_58 : decode cX6_starts 58 = .ok (.iconst (-1), 1) := by decide +kernel
theorem dX6_starts_59 : decode cX6_starts 59 = .ok (.iastore, 1) := by decide +kernel
theorem dX6_starts_60 : decode cX6_starts 60 = .ok (.aload_n 0, 1) := by decide +kernel
theorem dX6_starts_61 : decode cX6_starts 61 = .ok (.getfield 23, 3) := by decide +kernel
theorem dX6_starts_64 : decode cX6_starts 64 = .ok (.bipush 6, 2) := by decide +kernel
theorem dX6_starts_66 : decode cX6_starts 66 = .ok (.iload_n 1, 1) := by decide +kernel
theorem dX6_starts_67 : decode cX6_starts 67 = .ok (.imul, 1) := by decide +kernel
theorem dX6_starts_68 : decode cX6_starts 68 = .ok (.fconst 1, 1) := by decide +kernel
theorem dX6_starts_69 : decode cX6_starts 69 = .ok (.fastore, 1) := by decide +kernel
theorem dX6_starts_70 : decode cX6_starts 70 = .ok (.iinc 1 1, 3) := by decide +kernel
theorem dX6_starts_73 : decode cX6_starts 73 = .ok (.goto (-29), 3) := by decide +kernel
theorem dX6_starts_76 : decode cX6_starts 76 = .ok (.aload_n 0, 1) := by decide +kernel
theorem dX6_starts_77 : decode cX6_starts 77 = .ok (.iconst 0, 1) := by decide +kernel
theorem dX6_starts_78 : decode cX6_starts 78 = .ok (.putfield 49, 3) := by decide +kernel
theorem dX6_starts_81 : decode cX6_starts 81 = .ok (.iconst 0, 1) := by decide +kernel
theorem dX6_starts_82 : decode cX6_starts 82 = .ok (.istore_n 1, 1) := by decide +kernel
theorem dX6_starts_83 : decode cX6_starts 83 = .ok (.iload_n 1, 1) := by decide +kernel
theorem dX6_starts_84 : decode cX6_starts 84 = .ok (.iconst 2, 1) := by decide +kernel
theorem dX6_starts_85 : decode cX6_starts 85 = .ok (.if_icmp .ge 16, 3) := by decide +kernel
theorem dX6_starts_88 : decode cX6_starts 88 = .ok (.aload_n 0, 1) := by decide +kernel
theorem dX6_starts_89 : decode cX6_starts 89 = .ok (.getfield 27, 3) := by decide +kernel
theorem dX6_starts_92 : decode cX6_starts 92 = .ok (.iload_n 1, 1) := by decide +kernel
theorem dX6_starts_93 : decode cX6_starts 93 = .ok (.iconst 0, 1) := by decide +kernel
theorem dX6_starts_94 : decode cX6_starts 94 = .ok (.bastore, 1) := by decide +kernel
theorem dX6_starts_95 : decode cX6_starts 95 = .ok (.iinc 1 1, 3) := by decide +kernel
theorem dX6_starts_98 : decode cX6_starts 98 = .ok (.goto (-15), 3) := by decide +kernel
theorem dX6_starts_101 : decode cX6_starts 101 = .ok (.iconst 0, 1) := by decide +kernel
theorem dX6_starts_102 : decode cX6_starts 102 = .ok (.istore_n 1, 1) := by decide +kernel
theorem dX6_starts_103 : decode cX6_starts 103 = .ok (.iload_n 1, 1) := by decide +kernel
theorem dX6_starts_104 : decode cX6_starts 104 = .ok (.iconst 3, 1) := by decide +kernel
theorem dX6_starts_105 : decode cX6_starts 105 = .ok (.if_icmp .ge 16, 3) := by decide +kernel
theorem dX6_starts_108 : decode cX6_starts 108 = .ok (.aload_n 0, 1) := by decide +kernel
theorem dX6_starts_109 : decode cX6_starts 109 = .ok (.getfield 37, 3) := by decide +kernel
theorem dX6_starts_112 : decode cX6_starts 112 = .ok (.iload_n 1, 1) := by decide +kernel
theorem dX6_starts_113 : decode cX6_starts 113 = .ok (.iconst (-1), 1) := by decide +kernel
theorem dX6_starts_114 : decode cX6_starts 114 = .ok (.iastore, 1) := by decide +kernel
theorem dX6_starts_115 : decode cX6_starts 115 = .ok (.iinc 1 1, 3) := by decide +kernel
theorem dX6_starts_118 : decode cX6_starts 118 = .ok (.goto (-15), 3) := by decide +kernel
theorem dX6_starts_121 : decode cX6_starts 121 = .ok (.return_, 1) := by decide +kernel
set_option maxRecDepth 20000 in
theorem ggX6_write_X6_in : GoodIn wsX6_write wsX6_in := goodIn_r _ [7] (by decide +kernel) (by decide +kernel)
set_option maxRecDepth 20000 in
theorem gX6_write_X6_in : GoodIn wsX6_write (va_wsS RX6 54 yX6_in wsX6_in) := goodIn_app (goodIn_of _ (by decide +kernel)) ggX6_write_X6_in
theorem dX6_write_0 : decode cX6_write 0 = .ok (.iload_n 1, 1) := by decide +kernel
theorem dX6_write_1 : decode cX6_write 1 = .ok (.i2l, 1) := by decide +kernel
theorem dX6_write_2 : decode cX6_write 2 = .ok (.lconst 0, 1) := by decide +kernel
theorem dX6_write_3 : decode cX6_write 3 = .ok (.ldc2_w 52, 3) := by decide +kernel
theorem dX6_write_6 : decode cX6_write 6 = .ok (.invokestatic 54, 3) := by decide +kernel
theorem dX6_write_9 : decode cX6_write 9 = .ok (.ifCond .ne 6, 3) := by decide +kernel
theorem dX6_write_12 : decode cX6_write 12 = .ok (.bipush (-3), 2) := by decide +kernel
theorem dX6_write_14 : decode cX6_write 14 = .ok (.ireturn, 1) := by decide +kernel
theorem dX6_write_15 : decode cX6_write 15 = .ok (.aload_n 0, 1) := by decide +kernel
theorem dX6_write_16 : decode cX6_write 16 = .ok (.getfield 58, 3) := by decide +kernel
theorem dX6_write_19 : decode cX6_write 19 = .ok (.sipush 200, 3) := by decide +kernel
theorem dX6_write_22 : decode cX6_write 22 = .ok (.if_icmp .ne 6, 3) := by decide +kernel
theorem dX6_write_25 : decode cX6_write 25 = .ok (.bipush (-5), 2) := by decide +kernel
theorem dX6_write_27 : decode cX6_write 27 = .ok (.ireturn, 1) := by decide +kernel
theorem dX6_write_28 : decode cX6_write 28 = .ok (.aload_n 0, 1) := by decide +kernel
theorem dX6_write_29 : decode cX6_write 29 = .ok (.getfield 31, 3) := by decide +kernel
theorem dX6_write_32 : decode cX6_write 32 = .ok (.aload_n 0, 1) := by decide +kernel
theorem dX6_write_33 : decode cX6_write 33 = .ok (.getfield 58, 3) := by decide +kernel
theorem dX6_write_36 : decode cX6_write 36 = .ok (.iload_n 1, 1) := by decide +kernel
theorem dX6_write_37 : decode cX6_write 37 = .ok (.iastore, 1) := by decide +kernel
theorem dX6_write_38 : decode cX6_write 38 = .ok (.aload_n 0, 1) := by decide +kernel
theorem dX6_write_39 : decode cX6_write 39 = .ok (.dup, 1) := by decide +kernel
theorem dX6_write_40 : decode cX6_write 40 = .ok (.getfield 58, 3) := by decide +kernel
theorem dX6_write_43 : decode cX6_write 43 = .ok (.iconst 1, 1) := by decide +kernel
theorem dX6_write_44 : decode cX6_write 44 = .ok (.iadd, 1) := by decide +kernel
theorem dX6_write_45 : decode cX6_write 45 = .ok (.putfield 58, 3) := by decide +kernel
theorem dX6_write_48 : decode cX6_write 48 = .ok (.aload_n 0, 1) := by decide +kernel
theorem dX6_write_49 : decode cX6_write 49 = .ok (.getfield 58, 3) := by decide +kernel
theorem dX6_write_52 : decode cX6_write 52 = .ok (.ireturn, 1) := by decide +kernel
theorem dX6_erase_0 : decode cX6_erase 0 = .ok (.aload_n 0, 1) := by decide +kernel
theorem dX6_erase_1 : decode cX6_erase 1 = .ok (.getfield 58, 3) := by decide +kernel
theorem dX6_erase_4 : decode cX6_erase 4 = .ok (.istore_n 1, 1) := by decide +kernel
theorem dX6_erase_5 : decode cX6_erase 5 = .ok (.aload_n 0, 1) := by decide +kernel
theorem dX6_erase_6 : decode cX6_erase 6 = .ok (.iconst 0, 1) := by decide +kernel
theorem dX6_erase_7 : decode cX6_erase 7 = .ok (.putfield 58, 3) := by decide +kernel
theorem dX6_erase_10 : decode cX6_erase 10 = .ok (.iload_n 1, 1) := by decide +kernel
theorem dX6_erase_11 : decode cX6_erase 11 = .ok (.ireturn, 1) := by decide +kernel
set_option maxRecDepth 20000 in
theorem ggX6_isLetter_X6_in : GoodIn wsX6_isLetter wsX6_in := goodIn_r _ [6] (by decide +kernel) (by decide +kernel)
set_option maxRecDepth 20000 in
theorem gX6_isLetter_X6_in : GoodIn wsX6_isLetter (va_wsS RX6 54 yX6_in wsX6_in) := goodIn_app (goodIn_of _ (by decide +kernel)) ggX6_isLetter_X6_in
theorem dX6_isLetter_0 : decode cX6_isLetter 0 = .ok (.iload_n 0, 1) := by decide +kernel
theorem dX6_isLetter_1 : decode cX6_isLetter 1 = .ok (.i2l, 1) := by decide +kernel
theorem dX6_isLetter_2 : decode cX6_isLetter 2 = .ok (.ldc2_w 61, 3) := by decide +kernel
theorem dX6_isLetter_5 : decode cX6_isLetter 5 = .ok (.ldc2_w 63, 3) := by decide +kernel
theorem dX6_isLetter_8 : decode cX6_isLetter 8 = .ok (.invokestatic 54, 3) := by decide +kernel
theorem dX6_isLetter_11 : decode cX6_isLetter 11 = .ok (.ireturn, 1) := by decide +kernel
set_option maxRecDepth 20000 in
theorem ggX6_isDigit_X6_in : GoodIn wsX6_isDigit wsX6_in := goodIn_r _ [6] (by decide +kernel) (by decide +kernel)
set_option maxRecDepth 20000 in
theorem gX6_isDigit_X6_in : GoodIn wsX6_isDigit (va_wsS RX6 54 yX6_in wsX6_in) := goodIn_app (goodIn_of _ (by decide +kernel)) ggX6_isDigit_X6_in
theorem dX6_isDigit_0 : decode cX6_isDigit 0 = .ok (.iload_n 0, 1) := by decide +kernel
theorem dX6_isDigit_1 : decode cX6_isDigit 1 = .ok (.i2l, 1) := by decide +kernel
theorem dX6_isDigit_2 : decode cX6_isDigit 2 = .ok (.ldc2_w 65, 3) := by decide +kernel
theorem dX6_isDigit_5 : decode cX6_isDigit 5 = .ok (.ldc2_w 67, 3) := by decide +kernel
theorem dX6_isDigit_8 : decode cX6_isDigit 8 = .ok (.invokestatic 54, 3) := by decide +kernel
theorem dX6_isDigit_11 : decode cX6_isDigit 11 = .ok (.ireturn, 1) := by decide +kernel
set_option maxRecDepth 20000 in
theorem ggX6_nextToken_X6_isLetter : GoodIn wsX6_nextToken wsX6_isLetter := goodIn_r _ [8, 9, 10, 11, 12, 7, 13] (by decide +kernel) (by decide +kernel)
set_option maxRecDepth 20000 in
theorem gX6_nextToken_X6_isLetter : GoodIn wsX6_nextToken (va_wsS RX6 75 yX6_isLetter wsX6_isLetter) := goodIn_app (goodIn_of _ (by decide +kernel)) ggX6_nextToken_X6_isLetter
set_option maxRecDepth 20000 in
theorem ggX6_nextToken_X6_isDigit : GoodIn wsX6_nextToken wsX6_isDigit := goodIn_r _ [16, 17, 18, 11, 12, 7, 13] (by decide +kernel) (by decide +kernel)
set_option maxRecDepth 20000 in
theorem gX6_nextToken_X6_isDigit : GoodIn wsX6_nextToken (va_wsS RX6 79 yX6_isDigit wsX6_isDigit) := goodIn_app (goodIn_of _ (by decide +kernel)) ggX6_nextToken_X6_isDigit
theorem dX6_nextToken_0 : decode cX6_nextToken 0 = .ok (.aload_n 0, 1) := by decide +kernel
theorem dX6_nextToken_1 : decode cX6_nextToken 1 = .ok (.aload_n 0, 1) := by decide +kernel
theorem dX6_nextToken_2 : decode cX6_nextToken 2 = .ok (.getfield 69, 3) := by decide +kernel
theorem dX6_nextToken_5 : decode cX6_nextToken 5 = .ok (.putfield 72, 3) := by decide +kernel
theorem dX6_nextToken_8 : decode cX6_nextToken 8 = .ok (.aload_n 0, 1) := by decide +kernel
theorem dX6_nextToken_9 : decode cX6_nextToken 9 = .ok (.getfield 72, 3) := by decide +kernel
theorem dX6_nextToken_12 : decode cX6_nextToken 12 = .ok (.aload_n 0, 1) := by decide +kernel
theorem dX6_nextToken_13 : decode cX6_nextToken 13 = .ok (.getfield 58, 3) := by decide +kernel
theorem dX6_nextToken_16 : decode cX6_nextToken 16 = .ok (.if_icmp .ge 30, 3) := by decide +kernel
theorem dX6_nextToken_19 : decode cX6_nextToken 19 = .ok (.aload_n 0, 1) := by decide +kernel
theorem dX6_nextToken_20 : decode cX6_nextToken 20 = .ok (.getfield 31, 3) := by decide +kernel
theorem dX6_nextToken_23 : decode cX6_nextToken 23 = .ok (.aload_n 0, 1) := by decide +kernel
theorem dX6_nextToken_24 : decode cX6_nextToken 24 = .ok (.getfield 72, 3) := by decide +kernel
theorem dX6_nextToken_27 : decode cX6_nextToken 27 = .ok (.iaload, 1) := by decide +kernel
theorem dX6_nextToken_28 : decode cX6_nextToken 28 = .ok (.bipush 32, 2) := by decide +kernel
theorem dX6_nextToken_30 : decode cX6_nextToken 30 = .ok (.if_icmp .ne 16, 3) := by decide +kernel
theorem dX6_nextToken_33 : decode cX6_nextToken 33 = .ok (.aload_n 0, 1) := by decide +kernel
theorem dX6_nextToken_34 : decode cX6_nextToken 34 = .ok (.dup, 1) := by decide +kernel
theorem dX6_nextToken_35 : decode cX6_nextToken 35 = .ok (.getfield 72, 3) := by decide +kernel
theorem dX6_nextToken_38 : decode cX6_nextToken 38 = .ok (.iconst 1, 1) := by decide +kernel
theorem dX6_nextToken_39 : decode cX6_nextToken 39 = .ok (.iadd, 1) := by decide +kernel
theorem dX6_nextToken_40 : decode cX6_nextToken 40 = .ok (.putfield 72, 3) := by decide +kernel
theorem dX6_nextToken_43 : decode cX6_nextToken 43 = .ok (.goto (-35), 3) := by decide +kernel
theorem dX6_nextToken_46 : decode cX6_nextToken 46 = .ok (.aload_n 0, 1) := by decide +kernel
theorem dX6_nextToken_47 : decode cX6_nextToken 47 = .ok (.aload_n 0, 1) := by decide +kernel
theorem dX6_nextToken_48 : decode cX6_nextToken 48 = .ok (.getfield 72, 3) := by decide +kernel
theorem dX6_nextToken_51 : decode cX6_nextToken 51 = .ok (.putfield 69, 3) := by decide +kernel
theorem dX6_nextToken_54 : decode cX6_nextToken 54 = .ok (.aload_n 0, 1) := by decide +kernel
theorem dX6_nextToken_55 : decode cX6_nextToken 55 = .ok (.getfield 72, 3) := by decide +kernel
theorem dX6_nextToken_58 : decode cX6_nextToken 58 = .ok (.aload_n 0, 1) := by decide +kernel
theorem dX6_nextToken_59 : decode cX6_nextToken 59 = .ok (.getfield 58, 3) := by decide +kernel
theorem dX6_nextToken_62 : decode cX6_nextToken 62 = .ok (.if_icmp .ge 91, 3) := by decide +kernel
theorem dX6_nextToken_65 : decode cX6_nextToken 65 = .ok (.aload_n 0, 1) := by decide +kernel
theorem dX6_nextToken_66 : decode cX6_nextToken 66 = .ok (.getfield 31, 3) := by decide +kernel
theorem dX6_nextToken_69 : decode cX6_nextToken 69 = .ok (.aload_n 0, 1) := by decide +kernel
theorem dX6_nextToken_70 : decode cX6_nextToken 70 = .ok (.getfield 72, 3) := by decide +kernel
theorem dX6_nextToken_73 : decode cX6_nextToken 73 = .ok (.iaload, 1) := by decide +kernel
theorem dX6_nextToken_74 : decode cX6_nextToken 74 = .ok (.istore_n 1, 1) := by decide +kernel
theorem dX6_nextToken_75 : decode cX6_nextToken 75 = .ok (.aload_n 0, 1) := by decide +kernel
theorem dX6_nextToken_76 : decode cX6_nextToken 76 = .ok (.dup, 1) := by decide +kernel
theorem dX6_nextToken_77 : decode cX6_nextToken 77 = .ok (.getfield 69, 3) := by decide +kernel
theorem dX6_nextToken_80 : decode cX6_nextToken 80 = .ok (.iconst 1, 1) := by decide +kernel
theorem dX6_nextToken_81 : decode cX6_nextToken 81 = .ok (.iadd, 1) := by decide +kernel
theorem dX6_nextToken_82 : decode cX6_nextToken 82 = .ok (.putfield 69, 3) := by decide +kernel
theorem dX6_nextToken_85 : decode cX6_nextToken 85 = .ok (.aload_n 0, 1) := by decide +kernel
theorem dX6_nextToken_86 : decode cX6_nextToken 86 = .ok (.getfield 69, 3) := by decide +kernel
theorem dX6_nextToken_89 : decode cX6_nextToken 89 = .ok (.aload_n 0, 1) := by decide +kernel
theorem dX6_nextToken_90 : decode cX6_nextToken 90 = .ok (.getfield 58, 3) := by decide +kernel
theorem dX6_nextToken_93 : decode cX6_nextToken 93 = .ok (.if_icmp .ge 60, 3) := by decide +kernel
theorem dX6_nextToken_96 : decode cX6_nextToken 96 = .ok (.iload_n 1, 1) := by decide +kernel
theorem dX6_nextToken_97 : decode cX6_nextToken 97 = .ok (.invokestatic 75, 3) := by decide +kernel
theorem dX6_nextToken_100 : decode cX6_nextToken 100 = .ok (.ifCond .eq 18, 3) := by decide +kernel
theorem dX6_nextToken_103 : decode cX6_nextToken 103 = .ok (.aload_n 0, 1) := by decide +kernel
theorem dX6_nextToken_104 : decode cX6_nextToken 104 = .ok (.getfield 31, 3) := by decide +kernel
theorem dX6_nextToken_107 : decode cX6_nextToken 107 = .ok (.aload_n 0, 1) := by decide +kernel
theorem dX6_nextToken_108 : decode cX6_nextToken 108 = .ok (.getfield 69, 3) := by decide +kernel
theorem dX6_nextToken_111 : decode cX6_nextToken 111 = .ok (.iaload, 1) := by decide +kernel
theorem dX6_nextToken_112 : decode cX6_nextToken 112 = .ok (.invokestatic 75, 3) := by decide +kernel
theorem dX6_nextToken_115 : decode cX6_nextToken 115 = .ok (.ifCond .ne 25, 3) := by decide +kernel
theorem dX6_nextToken_118 : decode cX6_nextToken 118 = .ok (.iload_n 1, 1) := by decide +kernel
theorem dX6_nextToken_119 : decode cX6_nextToken 119 = .ok (.invokestatic 79, 3) := by decide +kernel
theorem dX6_nextToken_122 : decode cX6_nextToken 122 = .ok (.ifCond .eq 31, 3) := by decide +kernel
theorem dX6_nextToken_125 : decode cX6_nextToken 125 = .ok (.aload_n 0, 1) := by decide +kernel
theorem dX6_nextToken_126 : decode cX6_nextToken 126 = .ok (.getfield 31, 3) := by decide +kernel
theorem dX6_nextToken_129 : decode cX6_nextToken 129 = .ok (.aload_n 0, 1) := by decide +kernel
theorem dX6_nextToken_130 : decode cX6_nextToken 130 = .ok (.getfield 69, 3) := by decide +kernel
theorem dX6_nextToken_133 : decode cX6_nextToken 133 = .ok (.iaload, 1) := by decide +kernel
theorem dX6_nextToken_134 : decode cX6_nextToken 134 = .ok (.invokestatic 79, 3) := by decide +kernel
theorem dX6_nextToken_137 : decode cX6_nextToken 137 = .ok (.ifCond .eq 16, 3) := by decide +kernel
theorem dX6_nextToken_140 : decode cX6_nextToken 140 = .ok (.aload_n 0, 1) := by decide +kernel
theorem dX6_nextToken_141 : decode cX6_nextToken 141 = .ok (.dup, 1) := by decide +kernel
theorem dX6_nextToken_142 : decode cX6_nextToken 142 = .ok (.getfield 69, 3) := by decide +kernel
theorem dX6_nextToken_145 : decode cX6_nextToken 145 = .ok (.iconst 1, 1) := by decide +kernel
theorem dX6_nextToken_146 : decode cX6_nextToken 146 = .ok (.iadd, 1) := by decide +kernel
theorem dX6_nextToken_147 : decode cX6_nextToken 147 = .ok (.putfield 69, 3) := by decide +kernel
theorem dX6_nextToken_150 : decode cX6_nextToken 150 = .ok (.goto (-65), 3) := by decide +kernel
theorem dX6_nextToken_153 : decode cX6_nextToken 153 = .ok (.return_, 1) := by decide +kernel
theorem dX6_wordHere_0 : decode cX6_wordHere 0 = .ok (.iconst (-1), 1) := by decide +kernel
theorem dX6_wordHere_1 : decode cX6_wordHere 1 = .ok (.istore_n 3, 1) := by decide +kernel
theorem dX6_wordHere_2 : decode cX6_wordHere 2 = .ok (.iconst 0, 1) := by decide +kernel
theorem dX6_wordHere_3 : decode cX6_wordHere 3 = .ok (.istore 4, 2) := by decide +kernel
theorem dX6_wordHere_5 : decode cX6_wordHere 5 = .ok (.iconst 0, 1) := by decide +kernel
theorem dX6_wordHere_6 : decode cX6_wordHere 6 = .ok (.istore 5, 2) := by decide +kernel
theorem dX6_wordHere_8 : decode cX6_wordHere 8 = .ok (.iload 5, 2) := by decide +kernel
theorem dX6_wordHere_10 : decode cX6_wordHere 10 = .ok (.iload_n 1, 1) := by decide +kernel
theorem dX6_wordHere_11 : decode cX6_wordHere 11 = .ok (.iload_n 2, 1) := by decide +kernel
theorem dX6_wordHere_12 : decode cX6_wordHere 12 = .ok (.iadd, 1) := by decide +kernel
theorem dX6_wordHere_13 : decode cX6_wordHere 13 = .ok (.if_icmp .ge 145, 3) := by decide +kernel
theorem dX6_wordHere_16 : decode cX6_wordHere 16 = .ok (.iconst 0, 1) := by decide +kernel
theorem dX6_wordHere_17 : decode cX6_wordHere 17 = .ok (.istore 6, 2) := by decide +kernel
theorem dX6_wordHere_19 : decode cX6_wordHere 19 = .ok (.aload_n 0, 1) := by decide +kernel
theorem dX6_wordHere_20 : decode cX6_wordHere 20 = .ok (.getfield 72, 3) := by decide +kernel
theorem dX6_wordHere_23 : decode cX6_wordHere 23 = .ok (.aload_n 0, 1) := by decide +kernel
theorem dX6_wordHere_24 : decode cX6_wordHere 24 = .ok (.getfield 58, 3) := by decide +kernel
theorem dX6_wordHere_27 : decode cX6_wordHere 27 = .ok (.if_icmp .ge 7, 3) := by decide +kernel
theorem dX6_wordHere_30 : decode cX6_wordHere 30 = .ok (.iconst 1, 1) := by decide +kernel
theorem dX6_wordHere_31 : decode cX6_wordHere 31 = .ok (.goto 4, 3) := by decide +kernel
theorem dX6_wordHere_34 : decode cX6_wordHere 34 = .ok (.iconst 0, 1) := by decide +kernel
theorem dX6_wordHere_35 : decode cX6_wordHere 35 = .ok (.istore 7, 2) := by decide +kernel
theorem dX6_wordHere_37 : decode cX6_wordHere 37 = .ok (.aload_n 0, 1) := by decide +kernel
theorem dX6_wordHere_38 : decode cX6_wordHere 38 = .ok (.getfield 34, 3) := by decide +kernel
theorem dX6_wordHere_41 : decode cX6_wordHere 41 = .ok (.iload 4, 2) := by decide +kernel
theorem dX6_wordHere_43 : decode cX6_wordHere 43 = .ok (.iload 6, 2) := by decide +kernel
theorem dX6_wordHere_45 : decode cX6_wordHere 45 = .ok (.iadd, 1) := by decide +kernel
theorem dX6_wordHere_46 : decode cX6_wordHere 46 = .ok (.iaload, 1) := by decide +kernel
theorem dX6_wordHere_47 : decode cX6_wordHere 47 = .ok (.bipush 32, 2) := by decide +kernel
theorem dX6_wordHere_49 : decode cX6_wordHere 49 = .ok (.if_icmp .eq 60, 3) := by decide +kernel
theorem dX6_wordHere_52 : decode cX6_wordHere 52 = .ok (.iload 7, 2) := by decide +kernel
theorem dX6_wordHere_54 : decode cX6_wordHere 54 = .ok (.ifCond .eq 46, 3) := by decide +kernel
theorem dX6_wordHere_57 : decode cX6_wordHere 57 = .ok (.aload_n 0, 1) := by decide +kernel
theorem dX6_wordHere_58 : decode cX6_wordHere 58 = .ok (.getfield 72, 3) := by decide +kernel
theorem dX6_wordHere_61 : decode cX6_wordHere 61 = .ok (.iload 6, 2) := by decide +kernel
theorem dX6_wordHere_63 : decode cX6_wordHere 63 = .ok (.iadd, 1) := by decide +kernel
theorem dX6_wordHere_64 : decode cX6_wordHere 64 = .ok (.aload_n 0, 1) := by decide +kernel
theorem dX6_wordHere_65 : decode cX6_wordHere 65 = .ok (.getfield 69, 3) := by decide +kernel
theorem dX6_wordHere_68 : decode cX6_wordHere 68 = .ok (.if_icmp .ge 32, 3) := by decide +kernel
theorem dX6_wordHere_71 : decode cX6_wordHere 71 = .ok (.aload_n 0, 1) := by decide +kernel
theorem dX6_wordHere_72 : decode cX6_wordHere 72 = .ok (.getfield 31, 3) := by decide +kernel
theorem dX6_wordHere_75 : decode cX6_wordHere 75 = .ok (.aload_n 0, 1) := by decide +kernel
theorem dX6_wordHere_76 : decode cX6_wordHere 76 = .ok (.getfield 72, 3) := by decide +kernel
theorem dX6_wordHere_79 : decode cX6_wordHere 79 = .ok (.iload 6, 2) := by decide +kernel
theorem dX6_wordHere_81 : decode cX6_wordHere 81 = .ok (.iadd, 1) := by decide +kernel
theorem dX6_wordHere_82 : decode cX6_wordHere 82 = .ok (.iaload, 1) := by decide +kernel
theorem dX6_wordHere_83 : decode cX6_wordHere 83 = .ok (.aload_n 0, 1) := by decide +kernel
theorem dX6_wordHere_84 : decode cX6_wordHere 84 = .ok (.getfield 34, 3) := by decide +kernel
theorem dX6_wordHere_87 : decode cX6_wordHere 87 = .ok (.iload 4, 2) := by decide +kernel
theorem dX6_wordHere_89 : decode cX6_wordHere 89 = .ok (.iload 6, 2) := by decide +kernel
theorem dX6_wordHere_91 : decode cX6_wordHere 91 = .ok (.iadd, 1) := by decide +kernel
theorem dX6_wordHere_92 : decode cX6_wordHere 92 = .ok (.iaload, 1) := by decide +kernel
theorem dX6_wordHere_93 : decode cX6_wordHere 93 = .ok (.if_icmp .ne 7, 3) := by decide +kernel
theorem dX6_wordHere_96 : decode cX6_wordHere 96 = .ok (.iconst 1, 1) := by decide +kernel
theorem dX6_wordHere_97 : decode cX6_wordHere 97 = .ok (.goto 4, 3) := by decide +kernel
theorem dX6_wordHere_100 : decode cX6_wordHere 100 = .ok (.iconst 0, 1) := by decide +kernel
theorem dX6_wordHere_101 : decode cX6_wordHere 101 = .ok (.istore 7, 2) := by decide +kernel
theorem dX6_wordHere_103 : decode cX6_wordHere 103 = .ok (.iinc 6 1, 3) := by decide +kernel
theorem dX6_wordHere_106 : decode cX6_wordHere 106 = .ok (.goto (-69), 3) := by decide +kernel
theorem dX6_wordHere_109 : decode cX6_wordHere 109 = .ok (.iload 7, 2) := by decide +kernel
theorem dX6_wordHere_111 : decode cX6_wordHere 111 = .ok (.ifCond .eq 30, 3) := by decide +kernel
theorem dX6_wordHere_114 : decode cX6_wordHere 114 = .ok (.aload_n 0, 1) := by decide +kernel
theorem dX6_wordHere_115 : decode cX6_wordHere 115 = .ok (.getfield 69, 3) := by decide +kernel
theorem dX6_wordHere_118 : decode cX6_wordHere 118 = .ok (.aload_n 0, 1) := by decide +kernel
theorem dX6_wordHere_119 : decode cX6_wordHere 119 = .ok (.getfield 72, 3) := by decide +kernel
theorem dX6_wordHere_122 : decode cX6_wordHere 122 = .ok (.isub, 1) := by decide +kernel
theorem dX6_wordHere_123 : decode cX6_wordHere 123 = .ok (.iload 6, 2) := by decide +kernel
theorem dX6_wordHere_125 : decode cX6_wordHere 125 = .ok (.if_icmp .ne 16, 3) := by decide +kernel
theorem dX6_wordHere_128 : decode cX6_wordHere 128 = .ok (.iload 5, 2) := by decide +kernel
theorem dX6_wordHere_130 : decode cX6_wordHere 130 = .ok (.iload_n 1, 1) := by decide +kernel
theorem dX6_wordHere_131 : decode cX6_wordHere 131 = .ok (.if_icmp .lt 10, 3) := by decide +kernel
theorem dX6_wordHere_134 : decode cX6_wordHere 134 = .ok (.iload 5, 2) := by decide +kernel
theorem dX6_wordHere_136 : decode cX6_wordHere 136 = .ok (.iload_n 1, 1) := by decide +kernel
theorem dX6_wordHere_137 : decode cX6_wordHere 137 = .ok (.isub, 1) := by decide +kernel
theorem dX6_wordHere_138 : decode cX6_wordHere 138 = .ok (.goto 4, 3) := by decide +kernel
theorem dX6_wordHere_141 : decode cX6_wordHere 141 = .ok (.iload_n 3, 1) := by decide +kernel
theorem dX6_wordHere_142 : decode cX6_wordHere 142 = .ok (.istore_n 3, 1) := by decide +kernel
theorem dX6_wordHere_143 : decode cX6_wordHere 143 = .ok (.iload 4, 2) := by decide +kernel
theorem dX6_wordHere_145 : decode cX6_wordHere 145 = .ok (.iload 6, 2) := by decide +kernel
theorem dX6_wordHere_147 : decode cX6_wordHere 147 = .ok (.iconst 1, 1) := by decide +kernel
theorem dX6_wordHere_148 : decode cX6_wordHere 148 = .ok (.iadd, 1) := by decide +kernel
theorem dX6_wordHere_149 : decode cX6_wordHere 149 = .ok (.iadd, 1) := by decide +kernel
theorem dX6_wordHere_150 : decode cX6_wordHere 150 = .ok (.istore 4, 2) := by decide +kernel
theorem dX6_wordHere_152 : decode cX6_wordHere 152 = .ok (.iinc 5 1, 3) := by decide +kernel
theorem dX6_wordHere_155 : decode cX6_wordHere 155 = .ok (.goto (-147), 3) := by decide +kernel
theorem dX6_wordHere_158 : decode cX6_wordHere 158 = .ok (.iload_n 3, 1) := by decide +kernel
theorem dX6_wordHere_159 : decode cX6_wordHere 159 = .ok (.ireturn, 1) := by decide +kernel
set_option maxRecDepth 20000 in
theorem ggX6_takesNumber_X6_isDigit : GoodIn wsX6_takesNumber wsX6_isDigit := goodIn_r _ [9, 10, 11, 12, 13, 8, 14] (by decide +kernel) (by decide +kernel)
set_option maxRecDepth 20000 in
theorem gX6_takesNumber_X6_isDigit : GoodIn wsX6_takesNumber (va_wsS RX6 79 yX6_isDigit wsX6_isDigit) := goodIn_app (goodIn_of _ (by decide +kernel)) ggX6_takesNumber_X6_isDigit
set_option maxRecDepth 20000 in
theorem ggX6_takesNumber_X6_in : GoodIn wsX6_takesNumber wsX6_in := goodIn_r _ [14] (by decide +kernel) (by decide +kernel)
set_option maxRecDepth 20000 in
theorem gX6_takesNumber_X6_in : GoodIn wsX6_takesNumber (va_wsS RX6 54 yX6_in wsX6_in) := goodIn_app (goodIn_of _ (by decide +kernel)) ggX6_takesNumber_X6_in
set_option maxRecDepth 20000 in
theorem ggX6_takesNumber_X6_nextToken : GoodIn wsX6_takesNumber wsX6_nextToken := goodIn_r _ [18, 4, 1, 2, 3, 19, 20, 8, 21, 22, 23, 12, 13, 14, 6, 7, 9, 10, 11, 24, 25, 26, 27, 28, 29, 30, 31, 32, 33, 34, 35, 36, 37, 38, 39, 40, 41, 42, 43, 44, 45, 46] (by decide +kernel) (by decide +kernel)
set_option maxRecDepth 20000 in
theorem gX6_takesNumber_X6_nextToken : GoodIn wsX6_takesNumber (wsV RX6 85 RX6 yX6_nextToken wsX6_nextToken) := goodIn_app (goodIn_of _ (by decide +kernel)) ggX6_takesNumber_X6_nextToken
theorem dX6_takesNumber_0 : decode cX6_takesNumber 0 = .ok (.aload_n 0, 1) := by decide +kernel
theorem dX6_takesNumber_1 : decode cX6_takesNumber 1 = .ok (.getfield 72, 3) := by decide +kernel
theorem dX6_takesNumber_4 : decode cX6_takesNumber 4 = .ok (.aload_n 0, 1) := by decide +kernel
theorem dX6_takesNumber_5 : decode cX6_takesNumber 5 = .ok (.getfield 58, 3) := by decide +kernel
theorem dX6_takesNumber_8 : decode cX6_takesNumber 8 = .ok (.if_icmp .eq 31, 3) := by decide +kernel
theorem dX6_takesNumber_11 : decode cX6_takesNumber 11 = .ok (.aload_n 0, 1) := by decide +kernel
theorem dX6_takesNumber_12 : decode cX6_takesNumber 12 = .ok (.getfield 31, 3) := by decide +kernel
theorem dX6_takesNumber_15 : decode cX6_takesNumber 15 = .ok (.aload_n 0, 1) := by decide +kernel
theorem dX6_takesNumber_16 : decode cX6_takesNumber 16 = .ok (.getfield 72, 3) := by decide +kernel
theorem dX6_takesNumber_19 : decode cX6_takesNumber 19 = .ok (.iaload, 1) := by decide +kernel
theorem dX6_takesNumber_20 : decode cX6_takesNumber 20 = .ok (.invokestatic 79, 3) := by decide +kernel
theorem dX6_takesNumber_23 : decode cX6_takesNumber 23 = .ok (.ifCond .eq 16, 3) := by decide +kernel
theorem dX6_takesNumber_26 : decode cX6_takesNumber 26 = .ok (.aload_n 0, 1) := by decide +kernel
theorem dX6_takesNumber_27 : decode cX6_takesNumber 27 = .ok (.getfield 69, 3) := by decide +kernel
theorem dX6_takesNumber_30 : decode cX6_takesNumber 30 = .ok (.aload_n 0, 1) := by decide +kernel
theorem dX6_takesNumber_31 : decode cX6_takesNumber 31 = .ok (.getfield 72, 3) := by decide +kernel
theorem dX6_takesNumber_34 : decode cX6_takesNumber 34 = .ok (.isub, 1) := by decide +kernel
theorem dX6_takesNumber_35 : decode cX6_takesNumber 35 = .ok (.iconst 2, 1) := by decide +kernel
theorem dX6_takesNumber_36 : decode cX6_takesNumber 36 = .ok (.if_icmp .le 5, 3) := by decide +kernel
theorem dX6_takesNumber_39 : decode cX6_takesNumber 39 = .ok (.iconst 0, 1) := by decide +kernel
theorem dX6_takesNumber_40 : decode cX6_takesNumber 40 = .ok (.ireturn, 1) := by decide +kernel
theorem dX6_takesNumber_41 : decode cX6_takesNumber 41 = .ok (.aload_n 0, 1) := by decide +kernel
theorem dX6_takesNumber_42 : decode cX6_takesNumber 42 = .ok (.getfield 31, 3) := by decide +kernel
theorem dX6_takesNumber_45 : decode cX6_takesNumber 45 = .ok (.aload_n 0, 1) := by decide +kernel
theorem dX6_takesNumber_46 : decode cX6_takesNumber 46 = .ok (.getfield 72, 3) := by decide +kernel
theorem dX6_takesNumber_49 : decode cX6_takesNumber 49 = .ok (.iaload, 1) := by decide +kernel
theorem dX6_takesNumber_50 : decode cX6_takesNumber 50 = .ok (.bipush 48, 2) := by decide +kernel
theorem dX6_takesNumber_52 : decode cX6_takesNumber 52 = .ok (.isub, 1) := by decide +kernel
theorem dX6_takesNumber_53 : decode cX6_takesNumber 53 = .ok (.istore_n 3, 1) := by decide +kernel
theorem dX6_takesNumber_54 : decode cX6_takesNumber 54 = .ok (.aload_n 0, 1) := by decide +kernel
theorem dX6_takesNumber_55 : decode cX6_takesNumber 55 = .ok (.getfield 69, 3) := by decide +kernel
theorem dX6_takesNumber_58 : decode cX6_takesNumber 58 = .ok (.aload_n 0, 1) := by decide +kernel
theorem dX6_takesNumber_59 : decode cX6_takesNumber 59 = .ok (.getfield 72, 3) := by decide +kernel
theorem dX6_takesNumber_62 : decode cX6_takesNumber 62 = .ok (.isub, 1) := by decide +kernel
theorem dX6_takesNumber_63 : decode cX6_takesNumber 63 = .ok (.iconst 2, 1) := by decide +kernel
theorem dX6_takesNumber_64 : decode cX6_takesNumber 64 = .ok (.if_icmp .ne 25, 3) := by decide +kernel
theorem dX6_takesNumber_67 : decode cX6_takesNumber 67 = .ok (.bipush 10, 2) := by decide +kernel
theorem dX6_takesNumber_69 : decode cX6_takesNumber 69 = .ok (.iload_n 3, 1) := by decide +kernel
theorem dX6_takesNumber_70 : decode cX6_takesNumber 70 = .ok (.imul, 1) := by decide +kernel
theorem dX6_takesNumber_71 : decode cX6_takesNumber 71 = .ok (.aload_n 0, 1) := by decide +kernel
theorem dX6_takesNumber_72 : decode cX6_takesNumber 72 = .ok (.getfield 31, 3) := by decide +kernel
theorem dX6_takesNumber_75 : decode cX6_takesNumber 75 = .ok (.aload_n 0, 1) := by decide +kernel
theorem dX6_takesNumber_76 : decode cX6_takesNumber 76 = .ok (.getfield 72, 3) := by decide +kernel
theorem dX6_takesNumber_79 : decode cX6_takesNumber 79 = .ok (.iconst 1, 1) := by decide +kernel
theorem dX6_takesNumber_80 : decode cX6_takesNumber 80 = .ok (.iadd, 1) := by decide +kernel
theorem dX6_takesNumber_81 : decode cX6_takesNumber 81 = .ok (.iaload, 1) := by decide +kernel
theorem dX6_takesNumber_82 : decode cX6_takesNumber 82 = .ok (.iadd, 1) := by decide +kernel
theorem dX6_takesNumber_83 : decode cX6_takesNumber 83 = .ok (.bipush 48, 2) := by decide +kernel
theorem dX6_takesNumber_85 : decode cX6_takesNumber 85 = .ok (.isub, 1) := by decide +kernel
theorem dX6_takesNumber_86 : decode cX6_takesNumber 86 = .ok (.goto 4, 3) := by decide +kernel
theorem dX6_takesNumber_89 : decode cX6_takesNumber 89 = .ok (.iload_n 3, 1) := by decide +kernel
theorem dX6_takesNumber_90 : decode cX6_takesNumber 90 = .ok (.istore_n 3, 1) := by decide +kernel
theorem dX6_takesNumber_91 : decode cX6_takesNumber 91 = .ok (.iload_n 3, 1) := by decide +kernel
theorem dX6_takesNumber_92 : decode cX6_takesNumber 92 = .ok (.i2l, 1) := by decide +kernel
theorem dX6_takesNumber_93 : decode cX6_takesNumber 93 = .ok (.iload_n 1, 1) := by decide +kernel
theorem dX6_takesNumber_94 : decode cX6_takesNumber 94 = .ok (.i2l, 1) := by decide +kernel
theorem dX6_takesNumber_95 : decode cX6_takesNumber 95 = .ok (.iload_n 2, 1) := by decide +kernel
theorem dX6_takesNumber_96 : decode cX6_takesNumber 96 = .ok (.i2l, 1) := by decide +kernel
theorem dX6_takesNumber_97 : decode cX6_takesNumber 97 = .ok (.invokestatic 54, 3) := by decide +kernel
theorem dX6_takesNumber_100 : decode cX6_takesNumber 100 = .ok (.ifCond .ne 5, 3) := by decide +kernel
theorem dX6_takesNumber_103 : decode cX6_takesNumber 103 = .ok (.iconst 0, 1) := by decide +kernel
theorem dX6_takesNumber_104 : decode cX6_takesNumber 104 = .ok (.ireturn, 1) := by decide +kernel
theorem dX6_takesNumber_105 : decode cX6_takesNumber 105 = .ok (.aload_n 0, 1) := by decide +kernel
theorem dX6_takesNumber_106 : decode cX6_takesNumber 106 = .ok (.iload_n 3, 1) := by decide +kernel
theorem dX6_takesNumber_107 : decode cX6_takesNumber 107 = .ok (.putfield 82, 3) := by decide +kernel
theorem dX6_takesNumber_110 : decode cX6_takesNumber 110 = .ok (.aload_n 0, 1) := by decide +kernel
theorem dX6_takesNumber_111 : decode cX6_takesNumber 111 = .ok (.invokevirtual 85, 3) := by decide +kernel
theorem dX6_takesNumber_114 : decode cX6_takesNumber 114 = .ok (.iconst 1, 1) := by decide +kernel
theorem dX6_takesNumber_115 : decode cX6_takesNumber 115 = .ok (.ireturn, 1) := by decide +kernel
set_option maxRecDepth 20000 in
theorem ggX6_takesValue_X6_nextToken : GoodIn wsX6_takesValue wsX6_nextToken := goodIn_r _ [9, 10, 1, 2, 3, 11, 12, 8, 13, 14, 15, 16, 17, 18, 19, 20, 21, 22, 23, 28, 29, 30, 31, 32, 33, 34, 35, 36, 37, 38, 39, 40, 41, 42, 43, 44, 45, 46, 47, 48, 49, 50] (by decide +kernel) (by decide +kernel)
set_option maxRecDepth 20000 in
theorem gX6_takesValue_X6_nextToken : GoodIn wsX6_takesValue (wsV RX6 85 RX6 yX6_nextToken wsX6_nextToken) := goodIn_app (goodIn_of _ (by decide +kernel)) ggX6_takesValue_X6_nextToken
set_option maxRecDepth 20000 in
theorem ggX6_takesValue_X6_takesNumber : GoodIn wsX6_takesValue wsX6_takesNumber := goodIn_r _ [27, 1, 2, 3, 10, 4, 19, 20, 8, 21, 22, 23, 16, 17, 18, 5, 6, 7, 9, 11, 12, 13, 14, 15, 28, 29, 30, 31, 32, 33, 34, 35, 36, 37, 38, 39, 40, 41, 42, 43, 44, 45, 46, 47, 48, 49, 50] (by decide +kernel) (by decide +kernel)
set_option maxRecDepth 20000 in
theorem gX6_takesValue_X6_takesNumber : GoodIn wsX6_takesValue (wsV RX6 88 RX6 yX6_takesNumber wsX6_takesNumber) := goodIn_app (goodIn_of _ (by decide +kernel)) ggX6_takesValue_X6_takesNumber
theorem dX6_takesValue_0 : decode cX6_takesValue 0 = .ok (.aload_n 0, 1) := by decide +kernel
theorem dX6_takesValue_1 : decode cX6_takesValue 1 = .ok (.getfield 72, 3) := by decide +kernel
theorem dX6_takesValue_4 : decode cX6_takesValue 4 = .ok (.aload_n 0, 1) := by decide +kernel
theorem dX6_takesValue_5 : decode cX6_takesValue 5 = .ok (.getfield 58, 3) := by decide +kernel
theorem dX6_takesValue_8 : decode cX6_takesValue 8 = .ok (.if_icmp .ge 21, 3) := by decide +kernel
theorem dX6_takesValue_11 : decode cX6_takesValue 11 = .ok (.aload_n 0, 1) := by decide +kernel
theorem dX6_takesValue_12 : decode cX6_takesValue 12 = .ok (.getfield 31, 3) := by decide +kernel
theorem dX6_takesValue_15 : decode cX6_takesValue 15 = .ok (.aload_n 0, 1) := by decide +kernel
theorem dX6_takesValue_16 : decode cX6_takesValue 16 = .ok (.getfield 72, 3) := by decide +kernel
theorem dX6_takesValue_19 : decode cX6_takesValue 19 = .ok (.iaload, 1) := by decide +kernel
theorem dX6_takesValue_20 : decode cX6_takesValue 20 = .ok (.bipush 45, 2) := by decide +kernel
theorem dX6_takesValue_22 : decode cX6_takesValue 22 = .ok (.if_icmp .ne 7, 3) := by decide +kernel
theorem dX6_takesValue_25 : decode cX6_takesValue 25 = .ok (.iconst 1, 1) := by decide +kernel
theorem dX6_takesValue_26 : decode cX6_takesValue 26 = .ok (.goto 4, 3) := by decide +kernel
theorem dX6_takesValue_29 : decode cX6_takesValue 29 = .ok (.iconst 0, 1) := by decide +kernel
theorem dX6_takesValue_30 : decode cX6_takesValue 30 = .ok (.istore_n 1, 1) := by decide +kernel
theorem dX6_takesValue_31 : decode cX6_takesValue 31 = .ok (.iload_n 1, 1) := by decide +kernel
theorem dX6_takesValue_32 : decode cX6_takesValue 32 = .ok (.ifCond .eq 7, 3) := by decide +kernel
theorem dX6_takesValue_35 : decode cX6_takesValue 35 = .ok (.aload_n 0, 1) := by decide +kernel
theorem dX6_takesValue_36 : decode cX6_takesValue 36 = .ok (.invokevirtual 85, 3) := by decide +kernel
theorem dX6_takesValue_39 : decode cX6_takesValue 39 = .ok (.aload_n 0, 1) := by decide +kernel
theorem dX6_takesValue_40 : decode cX6_takesValue 40 = .ok (.iconst 0, 1) := by decide +kernel
theorem dX6_takesValue_41 : decode cX6_takesValue 41 = .ok (.bipush 99, 2) := by decide +kernel
theorem dX6_takesValue_43 : decode cX6_takesValue 43 = .ok (.invokevirtual 88, 3) := by decide +kernel
theorem dX6_takesValue_46 : decode cX6_takesValue 46 = .ok (.ifCond .ne 5, 3) := by decide +kernel
theorem dX6_takesValue_49 : decode cX6_takesValue 49 = .ok (.iconst 0, 1) := by decide +kernel
theorem dX6_takesValue_50 : decode cX6_takesValue 50 = .ok (.ireturn, 1) := by decide +kernel
theorem dX6_takesValue_51 : decode cX6_takesValue 51 = .ok (.aload_n 0, 1) := by decide +kernel
theorem dX6_takesValue_52 : decode cX6_takesValue 52 = .ok (.iload_n 1, 1) := by decide +kernel
theorem dX6_takesValue_53 : decode cX6_takesValue 53 = .ok (.ifCond .eq 11, 3) := by decide +kernel
theorem dX6_takesValue_56 : decode cX6_takesValue 56 = .ok (.aload_n 0, 1) := by decide +kernel
theorem dX6_takesValue_57 : decode cX6_takesValue 57 = .ok (.getfield 82, 3) := by decide +kernel
theorem dX6_takesValue_60 : decode cX6_takesValue 60 = .ok (.ineg, 1) := by decide +kernel
theorem dX6_takesValue_61 : decode cX6_takesValue 61 = .ok (.goto 7, 3) := by decide +kernel
theorem dX6_takesValue_64 : decode cX6_takesValue 64 = .ok (.aload_n 0, 1) := by decide +kernel
theorem dX6_takesValue_65 : decode cX6_takesValue 65 = .ok (.getfield 82, 3) := by decide +kernel
theorem dX6_takesValue_68 : decode cX6_takesValue 68 = .ok (.putfield 82, 3) := by decide +kernel
theorem dX6_takesValue_71 : decode cX6_takesValue 71 = .ok (.iconst 1, 1) := by decide +kernel
theorem dX6_takesValue_72 : decode cX6_takesValue 72 = .ok (.ireturn, 1) := by decide +kernel
set_option maxRecDepth 20000 in
theorem ggX6_takesState_X6_takesValue : GoodIn wsX6_takesState wsX6_takesValue := goodIn_r _ [9, 10, 11, 12, 4, 13, 14, 15, 8, 16, 17, 18, 19, 20, 21, 22, 23, 24, 25, 26, 27, 28, 29, 30, 31, 32, 33, 34, 35, 36, 37, 38, 39, 40, 41, 42, 43, 44, 45, 46, 47, 48, 49, 50, 51, 52, 53, 54, 55, 56, 57] (by decide +kernel) (by decide +kernel)
set_option maxRecDepth 20000 in
theorem gX6_takesState_X6_takesValue : GoodIn wsX6_takesState (wsV RX6 92 RX6 yX6_takesValue wsX6_takesValue) := goodIn_app (goodIn_of _ (by decide +kernel)) ggX6_takesState_X6_takesValue
theorem dX6_takesState_0 : decode cX6_takesState 0 = .ok (.iconst 0, 1) := by decide +kernel
theorem dX6_takesState_1 : decode cX6_takesState 1 = .ok (.istore_n 1, 1) := by decide +kernel
theorem dX6_takesState_2 : decode cX6_takesState 2 = .ok (.iload_n 1, 1) := by decide +kernel
theorem dX6_takesState_3 : decode cX6_takesState 3 = .ok (.iconst 4, 1) := by decide +kernel
theorem dX6_takesState_4 : decode cX6_takesState 4 = .ok (.if_icmp .ge 42, 3) := by decide +kernel
theorem dX6_takesState_7 : decode cX6_takesState 7 = .ok (.aload_n 0, 1) := by decide +kernel
theorem dX6_takesState_8 : decode cX6_takesState 8 = .ok (.invokevirtual 92, 3) := by decide +kernel
theorem dX6_takesState_11 : decode cX6_takesState 11 = .ok (.ifCond .ne 5, 3) := by decide +kernel
theorem dX6_takesState_14 : decode cX6_takesState 14 = .ok (.iconst 0, 1) := by decide +kernel
theorem dX6_takesState_15 : decode cX6_takesState 15 = .ok (.ireturn, 1) := by decide +kernel
theorem dX6_takesState_16 : decode cX6_takesState 16 = .ok (.aload_n 0, 1) := by decide +kernel
theorem dX6_takesState_17 : decode cX6_takesState 17 = .ok (.getfield 96, 3) := by decide +kernel
theorem dX6_takesState_20 : decode cX6_takesState 20 = .ok (.ifCond .eq 20, 3) := by decide +kernel
theorem dX6_takesState_23 : decode cX6_takesState 23 = .ok (.aload_n 0, 1) := by decide +kernel
theorem dX6_takesState_24 : decode cX6_takesState 24 = .ok (.getfield 13, 3) := by decide +kernel
theorem dX6_takesState_27 : decode cX6_takesState 27 = .ok (.iconst 4, 1) := by decide +kernel
theorem dX6_takesState_28 : decode cX6_takesState 28 = .ok (.aload_n 0, 1) := by decide +kernel
theorem dX6_takesState_29 : decode cX6_takesState 29 = .ok (.getfield 100, 3) := by decide +kernel
theorem dX6_takesState_32 : decode cX6_takesState 32 = .ok (.imul, 1) := by decide +kernel
theorem dX6_takesState_33 : decode cX6_takesState 33 = .ok (.iload_n 1, 1) := by decide +kernel
theorem dX6_takesState_34 : decode cX6_takesState 34 = .ok (.iadd, 1) := by decide +kernel
theorem dX6_takesState_35 : decode cX6_takesState 35 = .ok (.aload_n 0, 1) := by decide +kernel
theorem dX6_takesState_36 : decode cX6_takesState 36 = .ok (.getfield 82, 3) := by decide +kernel
theorem dX6_takesState_39 : decode cX6_takesState 39 = .ok (.iastore, 1) := by decide +kernel
theorem dX6_takesState_40 : decode cX6_takesState 40 = .ok (.iinc 1 1, 3) := by decide +kernel
theorem dX6_takesState_43 : decode cX6_takesState 43 = .ok (.goto (-41), 3) := by decide +kernel
theorem dX6_takesState_46 : decode cX6_takesState 46 = .ok (.aload_n 0, 1) := by decide +kernel
theorem dX6_takesState_47 : decode cX6_takesState 47 = .ok (.dup, 1) := by decide +kernel
theorem dX6_takesState_48 : decode cX6_takesState 48 = .ok (.getfield 100, 3) := by decide +kernel
theorem dX6_takesState_51 : decode cX6_takesState 51 = .ok (.iconst 1, 1) := by decide +kernel
theorem dX6_takesState_52 : decode cX6_takesState 52 = .ok (.iadd, 1) := by decide +kernel
theorem dX6_takesState_53 : decode cX6_takesState 53 = .ok (.putfield 100, 3) := by decide +kernel
theorem dX6_takesState_56 : decode cX6_takesState 56 = .ok (.iconst 1, 1) := by decide +kernel
theorem dX6_takesState_57 : decode cX6_takesState 57 = .ok (.ireturn, 1) := by decide +kernel
theorem dX6_keeps_0 : decode cX6_keeps 0 = .ok (.aload_n 0, 1) := by decide +kernel
theorem dX6_keeps_1 : decode cX6_keeps 1 = .ok (.getfield 96, 3) := by decide +kernel
theorem dX6_keeps_4 : decode cX6_keeps 4 = .ok (.ifCond .eq 18, 3) := by decide +kernel
theorem dX6_keeps_7 : decode cX6_keeps 7 = .ok (.aload_n 0, 1) := by decide +kernel
theorem dX6_keeps_8 : decode cX6_keeps 8 = .ok (.getfield 17, 3) := by decide +kernel
theorem dX6_keeps_11 : decode cX6_keeps 11 = .ok (.bipush 8, 2) := by decide +kernel
theorem dX6_keeps_13 : decode cX6_keeps 13 = .ok (.aload_n 0, 1) := by decide +kernel
theorem dX6_keeps_14 : decode cX6_keeps 14 = .ok (.getfield 103, 3) := by decide +kernel
theorem dX6_keeps_17 : decode cX6_keeps 17 = .ok (.imul, 1) := by decide +kernel
theorem dX6_keeps_18 : decode cX6_keeps 18 = .ok (.iload_n 1, 1) := by decide +kernel
theorem dX6_keeps_19 : decode cX6_keeps 19 = .ok (.iadd, 1) := by decide +kernel
theorem dX6_keeps_20 : decode cX6_keeps 20 = .ok (.iload_n 2, 1) := by decide +kernel
theorem dX6_keeps_21 : decode cX6_keeps 21 = .ok (.iastore, 1) := by decide +kernel
theorem dX6_keeps_22 : decode cX6_keeps 22 = .ok (.return_, 1) := by decide +kernel
set_option maxRecDepth 20000 in
theorem ggX6_takesFrom_X6_takesNumber : GoodIn wsX6_takesFrom wsX6_takesNumber := goodIn_r _ [9, 1, 10, 11, 2, 3, 12, 13, 8, 14, 15, 16, 17, 18, 19, 20, 21, 22, 23, 24, 25, 26, 27, 28, 29, 30, 31, 32, 33, 34, 35, 36, 37, 38, 39, 40, 41, 42, 43, 44, 45, 46, 47, 48, 49, 50, 51] (by decide +kernel) (by decide +kernel)
set_option maxRecDepth 20000 in
theorem gX6_takesFrom_X6_takesNumber : GoodIn wsX6_takesFrom (wsV RX6 88 RX6 yX6_takesNumber wsX6_takesNumber) := goodIn_app (goodIn_of _ (by decide +kernel)) ggX6_takesFrom_X6_takesNumber
theorem dX6_takesFrom_0 : decode cX6_takesFrom 0 = .ok (.aload_n 0, 1) := by decide +kernel
theorem dX6_takesFrom_1 : decode cX6_takesFrom 1 = .ok (.getfield 72, 3) := by decide +kernel
theorem dX6_takesFrom_4 : decode cX6_takesFrom 4 = .ok (.istore_n 1, 1) := by decide +kernel
theorem dX6_takesFrom_5 : decode cX6_takesFrom 5 = .ok (.aload_n 0, 1) := by decide +kernel
theorem dX6_takesFrom_6 : decode cX6_takesFrom 6 = .ok (.getfield 69, 3) := by decide +kernel
theorem dX6_takesFrom_9 : decode cX6_takesFrom 9 = .ok (.istore_n 2, 1) := by decide +kernel
theorem dX6_takesFrom_10 : decode cX6_takesFrom 10 = .ok (.aload_n 0, 1) := by decide +kernel
theorem dX6_takesFrom_11 : decode cX6_takesFrom 11 = .ok (.iconst 0, 1) := by decide +kernel
theorem dX6_takesFrom_12 : decode cX6_takesFrom 12 = .ok (.bipush 9, 2) := by decide +kernel
theorem dX6_takesFrom_14 : decode cX6_takesFrom 14 = .ok (.invokevirtual 88, 3) := by decide +kernel
theorem dX6_takesFrom_17 : decode cX6_takesFrom 17 = .ok (.ifCond .ne 5, 3) := by decide +kernel
theorem dX6_takesFrom_20 : decode cX6_takesFrom 20 = .ok (.iconst 0, 1) := by decide +kernel
theorem dX6_takesFrom_21 : decode cX6_takesFrom 21 = .ok (.ireturn, 1) := by decide +kernel
theorem dX6_takesFrom_22 : decode cX6_takesFrom 22 = .ok (.aload_n 0, 1) := by decide +kernel
theorem dX6_takesFrom_23 : decode cX6_takesFrom 23 = .ok (.getfield 82, 3) := by decide +kernel
theorem dX6_takesFrom_26 : decode cX6_takesFrom 26 = .ok (.bipush 9, 2) := by decide +kernel
theorem dX6_takesFrom_28 : decode cX6_takesFrom 28 = .ok (.if_icmp .eq 26, 3) := by decide +kernel
theorem dX6_takesFrom_31 : decode cX6_takesFrom 31 = .ok (.aload_n 0, 1) := by decide +kernel
theorem dX6_takesFrom_32 : decode cX6_takesFrom 32 = .ok (.getfield 82, 3) := by decide +kernel
theorem dX6_takesFrom_35 : decode cX6_takesFrom 35 = .ok (.aload_n 0, 1) := by decide +kernel
theorem dX6_takesFrom_36 : decode cX6_takesFrom 36 = .ok (.getfield 100, 3) := by decide +kernel
theorem dX6_takesFrom_39 : decode cX6_takesFrom 39 = .ok (.if_icmp .lt 15, 3) := by decide +kernel
theorem dX6_takesFrom_42 : decode cX6_takesFrom 42 = .ok (.aload_n 0, 1) := by decide +kernel
theorem dX6_takesFrom_43 : decode cX6_takesFrom 43 = .ok (.iload_n 1, 1) := by decide +kernel
theorem dX6_takesFrom_44 : decode cX6_takesFrom 44 = .ok (.putfield 72, 3) := by decide +kernel
theorem dX6_takesFrom_47 : decode cX6_takesFrom 47 = .ok (.aload_n 0, 1) := by decide +kernel
theorem dX6_takesFrom_48 : decode cX6_takesFrom 48 = .ok (.iload_n 2, 1) := by decide +kernel
theorem dX6_takesFrom_49 : decode cX6_takesFrom 49 = .ok (.putfield 69, 3) := by decide +kernel
theorem dX6_takesFrom_52 : decode cX6_takesFrom 52 = .ok (.iconst 0, 1) := by decide +kernel
theorem dX6_takesFrom_53 : decode cX6_takesFrom 53 = .ok (.ireturn, 1) := by decide +kernel
theorem dX6_takesFrom_54 : decode cX6_takesFrom 54 = .ok (.iconst 1, 1) := by decide +kernel
theorem dX6_takesFrom_55 : decode cX6_takesFrom 55 = .ok (.ireturn, 1) := by decide +kernel
theorem dX6_isFrames_0 : decode cX6_isFrames 0 = .ok (.iload_n 0, 1) := by decide +kernel
theorem dX6_isFrames_1 : decode cX6_isFrames 1 = .ok (.iconst 3, 1) := by decide +kernel
theorem dX6_isFrames_2 : decode cX6_isFrames 2 = .ok (.if_icmp .lt 20, 3) := by decide +kernel
theorem dX6_isFrames_5 : decode cX6_isFrames 5 = .ok (.iload_n 0, 1) := by decide +kernel
theorem dX6_isFrames_6 : decode cX6_isFrames 6 = .ok (.iconst 4, 1) := by decide +kernel
theorem dX6_isFrames_7 : decode cX6_isFrames 7 = .ok (.if_icmp .eq 15, 3) := by decide +kernel
theorem dX6_isFrames_10 : decode cX6_isFrames 10 = .ok (.iload_n 0, 1) := by decide +kernel
theorem dX6_isFrames_11 : decode cX6_isFrames 11 = .ok (.bipush 8, 2) := by decide +kernel
theorem dX6_isFrames_13 : decode cX6_isFrames 13 = .ok (.if_icmp .eq 9, 3) := by decide +kernel
theorem dX6_isFrames_16 : decode cX6_isFrames 16 = .ok (.iload_n 0, 1) := by decide +kernel
theorem dX6_isFrames_17 : decode cX6_isFrames 17 = .ok (.bipush 16, 2) := by decide +kernel
theorem dX6_isFrames_19 : decode cX6_isFrames 19 = .ok (.if_icmp .ne 7, 3) := by decide +kernel
theorem dX6_isFrames_22 : decode cX6_isFrames 22 = .ok (.iconst 1, 1) := by decide +kernel
theorem dX6_isFrames_23 : decode cX6_isFrames 23 = .ok (.goto 4, 3) := by decide +kernel
theorem dX6_isFrames_26 : decode cX6_isFrames 26 = .ok (.iconst 0, 1) := by decide +kernel
theorem dX6_isFrames_27 : decode cX6_isFrames 27 = .ok (.ireturn, 1) := by decide +kernel
set_option maxRecDepth 20000 in
theorem ggX6_takesFrames_X6_takesNumber : GoodIn wsX6_takesFrames wsX6_takesNumber := goodIn_r _ [8, 1, 9, 10, 2, 3, 11, 12, 7, 13, 14, 15, 16, 17, 18, 19, 20, 21, 22, 23, 24, 25, 26, 27, 31, 32, 33, 34, 35, 36, 37, 38, 39, 40, 41, 42, 43, 44, 45, 46, 47, 48, 49, 50, 51, 52, 53] (by decide +kernel) (by decide +kernel)
set_option maxRecDepth 20000 in
theorem gX6_takesFrames_X6_takesNumber : GoodIn wsX6_takesFrames (wsV RX6 88 RX6 yX6_takesNumber wsX6_takesNumber) := goodIn_app (goodIn_of _ (by decide +kernel)) ggX6_takesFrames_X6_takesNumber
set_option maxRecDepth 20000 in
theorem ggX6_takesFrames_X6_isFrames : GoodIn wsX6_takesFrames wsX6_isFrames := goodIn_r _ [30] (by decide +kernel) (by decide +kernel)
set_option maxRecDepth 20000 in
theorem gX6_takesFrames_X6_isFrames : GoodIn wsX6_takesFrames (va_wsS RX6 106 yX6_isFrames wsX6_isFrames) := goodIn_app (goodIn_of _ (by decide +kernel)) ggX6_takesFrames_X6_isFrames
theorem dX6_takesFrames_0 : decode cX6_takesFrames 0 = .ok (.aload_n 0, 1) := by decide +kernel
theorem dX6_takesFrames_1 : decode cX6_takesFrames 1 = .ok (.getfield 72, 3) := by decide +kernel
theorem dX6_takesFrames_4 : decode cX6_takesFrames 4 = .ok (.istore_n 1, 1) := by decide +kernel
theorem dX6_takesFrames_5 : decode cX6_takesFrames 5 = .ok (.aload_n 0, 1) := by decide +kernel
theorem dX6_takesFrames_6 : decode cX6_takesFrames 6 = .ok (.getfield 69, 3) := by decide +kernel
theorem dX6_takesFrames_9 : decode cX6_takesFrames 9 = .ok (.istore_n 2, 1) := by decide +kernel
theorem dX6_takesFrames_10 : decode cX6_takesFrames 10 = .ok (.aload_n 0, 1) := by decide +kernel
theorem dX6_takesFrames_11 : decode cX6_takesFrames 11 = .ok (.iconst 0, 1) := by decide +kernel
theorem dX6_takesFrames_12 : decode cX6_takesFrames 12 = .ok (.bipush 16, 2) := by decide +kernel
theorem dX6_takesFrames_14 : decode cX6_takesFrames 14 = .ok (.invokevirtual 88, 3) := by decide +kernel
theorem dX6_takesFrames_17 : decode cX6_takesFrames 17 = .ok (.ifCond .ne 5, 3) := by decide +kernel
theorem dX6_takesFrames_20 : decode cX6_takesFrames 20 = .ok (.iconst 0, 1) := by decide +kernel
theorem dX6_takesFrames_21 : decode cX6_takesFrames 21 = .ok (.ireturn, 1) := by decide +kernel
theorem dX6_takesFrames_22 : decode cX6_takesFrames 22 = .ok (.aload_n 0, 1) := by decide +kernel
theorem dX6_takesFrames_23 : decode cX6_takesFrames 23 = .ok (.getfield 82, 3) := by decide +kernel
theorem dX6_takesFrames_26 : decode cX6_takesFrames 26 = .ok (.invokestatic 106, 3) := by decide +kernel
theorem dX6_takesFrames_29 : decode cX6_takesFrames 29 = .ok (.ifCond .ne 15, 3) := by decide +kernel
theorem dX6_takesFrames_32 : decode cX6_takesFrames 32 = .ok (.aload_n 0, 1) := by decide +kernel
theorem dX6_takesFrames_33 : decode cX6_takesFrames 33 = .ok (.iload_n 1, 1) := by decide +kernel
theorem dX6_takesFrames_34 : decode cX6_takesFrames 34 = .ok (.putfield 72, 3) := by decide +kernel
theorem dX6_takesFrames_37 : decode cX6_takesFrames 37 = .ok (.aload_n 0, 1) := by decide +kernel
theorem dX6_takesFrames_38 : decode cX6_takesFrames 38 = .ok (.iload_n 2, 1) := by decide +kernel
theorem dX6_takesFrames_39 : decode cX6_takesFrames 39 = .ok (.putfield 69, 3) := by decide +kernel
theorem dX6_takesFrames_42 : decode cX6_takesFrames 42 = .ok (.iconst 0, 1) := by decide +kernel
theorem dX6_takesFrames_43 : decode cX6_takesFrames 43 = .ok (.ireturn, 1) := by decide +kernel
theorem dX6_takesFrames_44 : decode cX6_takesFrames 44 = .ok (.iconst 1, 1) := by decide +kernel
theorem dX6_takesFrames_45 : decode cX6_takesFrames 45 = .ok (.ireturn, 1) := by decide +kernel
set_option maxRecDepth 20000 in
theorem ggX6_takesCondition_X6_wordHere : GoodIn wsX6_takesCondition wsX6_wordHere := goodIn_r _ [6, 7, 8, 9, 10, 11, 44, 45, 46, 47, 48, 49, 50, 51, 52, 53, 54, 55, 56, 57, 58, 59, 60, 61, 62, 63, 64, 65, 66] (by decide +kernel) (by decide +kernel)
set_option maxRecDepth 20000 in
theorem gX6_takesCondition_X6_wordHere : GoodIn wsX6_takesCondition (wsV RX6 109 RX6 yX6_wordHere wsX6_wordHere) := goodIn_app (goodIn_of _ (by decide +kernel)) ggX6_takesCondition_X6_wordHere
set_option maxRecDepth 20000 in
theorem ggX6_takesCondition_X6_nextToken : GoodIn wsX6_takesCondition wsX6_nextToken := goodIn_r _ [15, 10, 7, 8, 11, 16, 17, 5, 18, 19, 20, 21, 22, 23, 24, 25, 26, 27, 28, 44, 45, 46, 47, 48, 49, 50, 51, 52, 53, 54, 55, 56, 57, 58, 59, 60, 61, 62, 63, 64, 65, 66] (by decide +kernel) (by decide +kernel)
set_option maxRecDepth 20000 in
theorem gX6_takesCondition_X6_nextToken : GoodIn wsX6_takesCondition (wsV RX6 85 RX6 yX6_nextToken wsX6_nextToken) := goodIn_app (goodIn_of _ (by decide +kernel)) ggX6_takesCondition_X6_nextToken
set_option maxRecDepth 20000 in
theorem ggX6_takesCondition_X6_keeps : GoodIn wsX6_takesCondition wsX6_keeps := goodIn_r _ [32, 33, 34, 35, 44, 45, 46, 47, 48, 49, 50, 51, 52, 53, 54, 55, 56, 57, 58, 59, 60, 61, 62, 63, 64, 65, 66] (by decide +kernel) (by decide +kernel)
set_option maxRecDepth 20000 in
theorem gX6_takesCondition_X6_keeps : GoodIn wsX6_takesCondition (wsV RX6 113 RX6 yX6_keeps wsX6_keeps) := goodIn_app (goodIn_of _ (by decide +kernel)) ggX6_takesCondition_X6_keeps
set_option maxRecDepth 20000 in
theorem ggX6_takesCondition_X6_takesNumber : GoodIn wsX6_takesCondition wsX6_takesNumber := goodIn_r _ [39, 7, 8, 11, 10, 1, 24, 25, 5, 26, 27, 28, 21, 22, 23, 12, 13, 14, 15, 16, 17, 18, 19, 20, 44, 45, 46, 47, 48, 49, 50, 51, 52, 53, 54, 55, 56, 57, 58, 59, 60, 61, 62, 63, 64, 65, 66] (by decide +kernel) (by decide +kernel)
set_option maxRecDepth 20000 in
theorem gX6_takesCondition_X6_takesNumber : GoodIn wsX6_takesCondition (wsV RX6 88 RX6 yX6_takesNumber wsX6_takesNumber) := goodIn_app (goodIn_of _ (by decide +kernel)) ggX6_takesCondition_X6_takesNumber
set_option maxRecDepth 20000 in
theorem ggX6_takesCondition_X6_takesValue : GoodIn wsX6_takesCondition wsX6_takesValue := goodIn_r _ [43, 7, 8, 11, 1, 12, 13, 14, 5, 15, 10, 16, 17, 18, 19, 20, 21, 22, 23, 24, 25, 26, 27, 28, 36, 37, 38, 39, 44, 45, 46, 47, 48, 49, 50, 51, 52, 53, 54, 55, 56, 57, 58, 59, 60, 61, 62, 63, 64, 65, 66] (by decide +kernel) (by decide +kernel)
set_option maxRecDepth 20000 in
theorem gX6_takesCondition_X6_takesValue : GoodIn wsX6_takesCondition (wsV RX6 92 RX6 yX6_takesValue wsX6_takesValue) := goodIn_app (goodIn_of _ (by decide +kernel)) ggX6_takesCondition_X6_takesValue
theorem dX6_takesCondition_0 : decode cX6_takesCondition 0 = .ok (.aload_n 0, 1) := by decide +kernel
theorem dX6_takesCondition_1 : decode cX6_takesCondition 1 = .ok (.iconst 5, 1) := by decide +kernel
theorem dX6_takesCondition_2 : decode cX6_takesCondition 2 = .ok (.iconst 4, 1) := by decide +kernel
theorem dX6_takesCondition_3 : decode cX6_takesCondition 3 = .ok (.invokevirtual 109, 3) := by decide +kernel
theorem dX6_takesCondition_6 : decode cX6_takesCondition 6 = .ok (.istore_n 1, 1) := by decide +kernel
theorem dX6_takesCondition_7 : decode cX6_takesCondition 7 = .ok (.iload_n 1, 1) := by decide +kernel
theorem dX6_takesCondition_8 : decode cX6_takesCondition 8 = .ok (.iconst (-1), 1) := by decide +kernel
theorem dX6_takesCondition_9 : decode cX6_takesCondition 9 = .ok (.if_icmp .ne 5, 3) := by decide +kernel
theorem dX6_takesCondition_12 : decode cX6_takesCondition 12 = .ok (.iconst 0, 1) := by decide +kernel
theorem dX6_takesCondition_13 : decode cX6_takesCondition 13 = .ok (.ireturn, 1) := by decide +kernel
theorem dX6_takesCondition_14 : decode cX6_takesCondition 14 = .ok (.aload_n 0, 1) := by decide +kernel
theorem dX6_takesCondition_15 : decode cX6_takesCondition 15 = .ok (.invokevirtual 85, 3) := by decide +kernel
theorem dX6_takesCondition_18 : decode cX6_takesCondition 18 = .ok (.aload_n 0, 1) := by decide +kernel
theorem dX6_takesCondition_19 : decode cX6_takesCondition 19 = .ok (.iconst 4, 1) := by decide +kernel
theorem dX6_takesCondition_20 : decode cX6_takesCondition 20 = .ok (.iload_n 1, 1) := by decide +kernel
theorem dX6_takesCondition_21 : decode cX6_takesCondition 21 = .ok (.invokevirtual 113, 3) := by decide +kernel
theorem dX6_takesCondition_24 : decode cX6_takesCondition 24 = .ok (.aload_n 0, 1) := by decide +kernel
theorem dX6_takesCondition_25 : decode cX6_takesCondition 25 = .ok (.iconst 5, 1) := by decide +kernel
theorem dX6_takesCondition_26 : decode cX6_takesCondition 26 = .ok (.iconst 0, 1) := by decide +kernel
theorem dX6_takesCondition_27 : decode cX6_takesCondition 27 = .ok (.invokevirtual 113, 3) := by decide +kernel
theorem dX6_takesCondition_30 : decode cX6_takesCondition 30 = .ok (.aload_n 0, 1) := by decide +kernel
theorem dX6_takesCondition_31 : decode cX6_takesCondition 31 = .ok (.bipush 6, 2) := by decide +kernel
theorem dX6_takesCondition_33 : decode cX6_takesCondition 33 = .ok (.iconst 0, 1) := by decide +kernel
theorem dX6_takesCondition_34 : decode cX6_takesCondition 34 = .ok (.invokevirtual 113, 3) := by decide +kernel
theorem dX6_takesCondition_37 : decode cX6_takesCondition 37 = .ok (.iload_n 1, 1) := by decide +kernel
theorem dX6_takesCondition_38 : decode cX6_takesCondition 38 = .ok (.ifCond .ne 23, 3) := by decide +kernel
theorem dX6_takesCondition_41 : decode cX6_takesCondition 41 = .ok (.aload_n 0, 1) := by decide +kernel
theorem dX6_takesCondition_42 : decode cX6_takesCondition 42 = .ok (.iconst 0, 1) := by decide +kernel
theorem dX6_takesCondition_43 : decode cX6_takesCondition 43 = .ok (.bipush 99, 2) := by decide +kernel
theorem dX6_takesCondition_45 : decode cX6_takesCondition 45 = .ok (.invokevirtual 88, 3) := by decide +kernel
theorem dX6_takesCondition_48 : decode cX6_takesCondition 48 = .ok (.istore_n 2, 1) := by decide +kernel
theorem dX6_takesCondition_49 : decode cX6_takesCondition 49 = .ok (.aload_n 0, 1) := by decide +kernel
theorem dX6_takesCondition_50 : decode cX6_takesCondition 50 = .ok (.bipush 6, 2) := by decide +kernel
theorem dX6_takesCondition_52 : decode cX6_takesCondition 52 = .ok (.aload_n 0, 1) := by decide +kernel
theorem dX6_takesCondition_53 : decode cX6_takesCondition 53 = .ok (.getfield 82, 3) := by decide +kernel
theorem dX6_takesCondition_56 : decode cX6_takesCondition 56 = .ok (.invokevirtual 113, 3) := by decide +kernel
theorem dX6_takesCondition_59 : decode cX6_takesCondition 59 = .ok (.iload_n 2, 1) := by decide +kernel
theorem dX6_takesCondition_60 : decode cX6_takesCondition 60 = .ok (.ireturn, 1) := by decide +kernel
theorem dX6_takesCondition_61 : decode cX6_takesCondition 61 = .ok (.aload_n 0, 1) := by decide +kernel
theorem dX6_takesCondition_62 : decode cX6_takesCondition 62 = .ok (.iconst 0, 1) := by decide +kernel
theorem dX6_takesCondition_63 : decode cX6_takesCondition 63 = .ok (.iconst 2, 1) := by decide +kernel
theorem dX6_takesCondition_64 : decode cX6_takesCondition 64 = .ok (.invokevirtual 88, 3) := by decide +kernel
theorem dX6_takesCondition_67 : decode cX6_takesCondition 67 = .ok (.ifCond .ne 5, 3) := by decide +kernel
theorem dX6_takesCondition_70 : decode cX6_takesCondition 70 = .ok (.iconst 0, 1) := by decide +kernel
theorem dX6_takesCondition_71 : decode cX6_takesCondition 71 = .ok (.ireturn, 1) := by decide +kernel
theorem dX6_takesCondition_72 : decode cX6_takesCondition 72 = .ok (.aload_n 0, 1) := by decide +kernel
theorem dX6_takesCondition_73 : decode cX6_takesCondition 73 = .ok (.iconst 5, 1) := by decide +kernel
theorem dX6_takesCondition_74 : decode cX6_takesCondition 74 = .ok (.aload_n 0, 1) := by decide +kernel
theorem dX6_takesCondition_75 : decode cX6_takesCondition 75 = .ok (.getfield 82, 3) := by decide +kernel
theorem dX6_takesCondition_78 : decode cX6_takesCondition 78 = .ok (.invokevirtual 113, 3) := by decide +kernel
theorem dX6_takesCondition_81 : decode cX6_takesCondition 81 = .ok (.iload_n 1, 1) := by decide +kernel
theorem dX6_takesCondition_82 : decode cX6_takesCondition 82 = .ok (.iconst 3, 1) := by decide +kernel
theorem dX6_takesCondition_83 : decode cX6_takesCondition 83 = .ok (.if_icmp .eq 20, 3) := by decide +kernel
theorem dX6_takesCondition_86 : decode cX6_takesCondition 86 = .ok (.aload_n 0, 1) := by decide +kernel
theorem dX6_takesCondition_87 : decode cX6_takesCondition 87 = .ok (.invokevirtual 92, 3) := by decide +kernel
theorem dX6_takesCondition_90 : decode cX6_takesCondition 90 = .ok (.istore_n 2, 1) := by decide +kernel
theorem dX6_takesCondition_91 : decode cX6_takesCondition 91 = .ok (.aload_n 0, 1) := by decide +kernel
theorem dX6_takesCondition_92 : decode cX6_takesCondition 92 = .ok (.bipush 6, 2) := by decide +kernel
theorem dX6_takesCondition_94 : decode cX6_takesCondition 94 = .ok (.aload_n 0, 1) := by decide +kernel
theorem dX6_takesCondition_95 : decode cX6_takesCondition 95 = .ok (.getfield 82, 3) := by decide +kernel
theorem dX6_takesCondition_98 : decode cX6_takesCondition 98 = .ok (.invokevirtual 113, 3) := by decide +kernel
theorem dX6_takesCondition_101 : decode cX6_takesCondition 101 = .ok (.iload_n 2, 1) := by decide +kernel
theorem dX6_takesCondition_102 : decode cX6_takesCondition 102 = .ok (.ireturn, 1) := by decide +kernel
theorem dX6_takesCondition_103 : decode cX6_takesCondition 103 = .ok (.iconst 1, 1) := by decide +kernel
theorem dX6_takesCondition_104 : decode cX6_takesCondition 104 = .ok (.ireturn, 1) := by decide +kernel
set_option maxRecDepth 20000 in
theorem ggX6_takesWay_X6_takesFrom : GoodIn wsX6_takesWay wsX6_takesFrom := goodIn_r _ [8, 9, 10, 1, 2, 11, 12, 13, 7, 14, 15, 16, 17, 18, 19, 20, 21, 22, 23, 24, 25, 26, 27, 28, 29, 30, 31, 32, 33, 60, 61, 62, 63, 64, 65, 66, 67, 68, 69, 70, 71, 72, 73, 74, 75, 76, 77, 78, 79, 80, 81, 82] (by decide +kernel) (by decide +kernel)
set_option maxRecDepth 20000 in
theorem gX6_takesWay_X6_takesFrom : GoodIn wsX6_takesWay (wsV RX6 117 RX6 yX6_takesFrom wsX6_takesFrom) := goodIn_app (goodIn_of _ (by decide +kernel)) ggX6_takesWay_X6_takesFrom
set_option maxRecDepth 20000 in
theorem ggX6_takesWay_X6_keeps : GoodIn wsX6_takesWay wsX6_keeps := goodIn_r _ [37, 38, 39, 3, 60, 61, 62, 63, 64, 65, 66, 67, 68, 69, 70, 71, 72, 73, 74, 75, 76, 77, 78, 79, 80, 81, 82] (by decide +kernel) (by decide +kernel)
set_option maxRecDepth 20000 in
theorem gX6_takesWay_X6_keeps : GoodIn wsX6_takesWay (wsV RX6 113 RX6 yX6_keeps wsX6_keeps) := goodIn_app (goodIn_of _ (by decide +kernel)) ggX6_takesWay_X6_keeps
set_option maxRecDepth 20000 in
theorem ggX6_takesWay_X6_takesNumber : GoodIn wsX6_takesWay wsX6_takesNumber := goodIn_r _ [14, 9, 15, 16, 10, 1, 17, 18, 7, 19, 20, 21, 22, 23, 24, 25, 26, 27, 28, 29, 30, 31, 32, 33, 60, 61, 62, 63, 64, 65, 66, 67, 68, 69, 70, 71, 72, 73, 74, 75, 76, 77, 78, 79, 80, 81, 82] (by decide +kernel) (by decide +kernel)
set_option maxRecDepth 20000 in
theorem gX6_takesWay_X6_takesNumber : GoodIn wsX6_takesWay (wsV RX6 88 RX6 yX6_takesNumber wsX6_takesNumber) := goodIn_app (goodIn_of _ (by decide +kernel)) ggX6_takesWay_X6_takesNumber
set_option maxRecDepth 20000 in
theorem ggX6_takesWay_X6_takesFrames : GoodIn wsX6_takesWay wsX6_takesFrames := goodIn_r _ [43, 9, 10, 1, 11, 12, 13, 7, 14, 15, 16, 17, 18, 19, 20, 21, 22, 23, 24, 25, 26, 27, 28, 29, 30, 31, 32, 33, 44, 45, 46, 60, 61, 62, 63, 64, 65, 66, 67, 68, 69, 70, 71, 72, 73, 74, 75, 76, 77, 78, 79, 80, 81, 82] (by decide +kernel) (by decide +kernel)
set_option maxRecDepth 20000 in
theorem gX6_takesWay_X6_takesFrames : GoodIn wsX6_takesWay (wsV RX6 120 RX6 yX6_takesFrames wsX6_takesFrames) := goodIn_app (goodIn_of _ (by decide +kernel)) ggX6_takesWay_X6_takesFrames
set_option maxRecDepth 20000 in
theorem ggX6_takesWay_X6_takesCondition : GoodIn wsX6_takesWay wsX6_takesCondition := goodIn_r _ [50, 1, 51, 52, 53, 7, 54, 9, 15, 55, 10, 16, 25, 26, 27, 28, 29, 30, 31, 32, 33, 22, 23, 24, 17, 18, 19, 20, 21, 34, 35, 36, 37, 38, 39, 3, 11, 12, 13, 14, 56, 57, 58, 59, 60, 61, 62, 63, 64, 65, 66, 67, 68, 69, 70, 71, 72, 73, 74, 75, 76, 77, 78, 79, 80, 81, 82] (by decide +kernel) (by decide +kernel)
set_option maxRecDepth 20000 in
theorem gX6_takesWay_X6_takesCondition : GoodIn wsX6_takesWay (wsV RX6 123 RX6 yX6_takesCondition wsX6_takesCondition) := goodIn_app (goodIn_of _ (by decide +kernel)) ggX6_takesWay_X6_takesCondition
theorem dX6_takesWay_0 : decode cX6_takesWay 0 = .ok (.aload_n 0, 1) := by decide +kernel
theorem dX6_takesWay_1 : decode cX6_takesWay 1 = .ok (.invokevirtual 117, 3) := by decide +kernel
theorem dX6_takesWay_4 : decode cX6_takesWay 4 = .ok (.ifCond .ne 5, 3) := by decide +kernel
theorem dX6_takesWay_7 : decode cX6_takesWay 7 = .ok (.iconst 0, 1) := by decide +kernel
theorem dX6_takesWay_8 : decode cX6_takesWay 8 = .ok (.ireturn, 1) := by decide +kernel
theorem dX6_takesWay_9 : decode cX6_takesWay 9 = .ok (.aload_n 0, 1) := by decide +kernel
theorem dX6_takesWay_10 : decode cX6_takesWay 10 = .ok (.iconst 0, 1) := by decide +kernel
theorem dX6_takesWay_11 : decode cX6_takesWay 11 = .ok (.aload_n 0, 1) := by decide +kernel
theorem dX6_takesWay_12 : decode cX6_takesWay 12 = .ok (.getfield 82, 3) := by decide +kernel
theorem dX6_takesWay_15 : decode cX6_takesWay 15 = .ok (.invokevirtual 113, 3) := by decide +kernel
theorem dX6_takesWay_18 : decode cX6_takesWay 18 = .ok (.aload_n 0, 1) := by decide +kernel
theorem dX6_takesWay_19 : decode cX6_takesWay 19 = .ok (.iconst 0, 1) := by decide +kernel
theorem dX6_takesWay_20 : decode cX6_takesWay 20 = .ok (.aload_n 0, 1) := by decide +kernel
theorem dX6_takesWay_21 : decode cX6_takesWay 21 = .ok (.getfield 100, 3) := by decide +kernel
theorem dX6_takesWay_24 : decode cX6_takesWay 24 = .ok (.iconst 1, 1) := by decide +kernel
theorem dX6_takesWay_25 : decode cX6_takesWay 25 = .ok (.isub, 1) := by decide +kernel
theorem dX6_takesWay_26 : decode cX6_takesWay 26 = .ok (.invokevirtual 88, 3) := by decide +kernel
theorem dX6_takesWay_29 : decode cX6_takesWay 29 = .ok (.ifCond .ne 5, 3) := by decide +kernel
theorem dX6_takesWay_32 : decode cX6_takesWay 32 = .ok (.iconst 0, 1) := by decide +kernel
theorem dX6_takesWay_33 : decode cX6_takesWay 33 = .ok (.ireturn, 1) := by decide +kernel
theorem dX6_takesWay_34 : decode cX6_takesWay 34 = .ok (.aload_n 0, 1) := by decide +kernel
theorem dX6_takesWay_35 : decode cX6_takesWay 35 = .ok (.iconst 1, 1) := by decide +kernel
theorem dX6_takesWay_36 : decode cX6_takesWay 36 = .ok (.aload_n 0, 1) := by decide +kernel
theorem dX6_takesWay_37 : decode cX6_takesWay 37 = .ok (.getfield 82, 3) := by decide +kernel
theorem dX6_takesWay_40 : decode cX6_takesWay 40 = .ok (.invokevirtual 113, 3) := by decide +kernel
theorem dX6_takesWay_43 : decode cX6_takesWay 43 = .ok (.aload_n 0, 1) := by decide +kernel
theorem dX6_takesWay_44 : decode cX6_takesWay 44 = .ok (.invokevirtual 120, 3) := by decide +kernel
theorem dX6_takesWay_47 : decode cX6_takesWay 47 = .ok (.ifCond .ne 5, 3) := by decide +kernel
theorem dX6_takesWay_50 : decode cX6_takesWay 50 = .ok (.iconst 0, 1) := by decide +kernel
theorem dX6_takesWay_51 : decode cX6_takesWay 51 = .ok (.ireturn, 1) := by decide +kernel
theorem dX6_takesWay_52 : decode cX6_takesWay 52 = .ok (.aload_n 0, 1) := by decide +kernel
theorem dX6_takesWay_53 : decode cX6_takesWay 53 = .ok (.iconst 2, 1) := by decide +kernel
theorem dX6_takesWay_54 : decode cX6_takesWay 54 = .ok (.aload_n 0, 1) := by decide +kernel
theorem dX6_takesWay_55 : decode cX6_takesWay 55 = .ok (.getfield 82, 3) := by decide +kernel
theorem dX6_takesWay_58 : decode cX6_takesWay 58 = .ok (.invokevirtual 113, 3) := by decide +kernel
theorem dX6_takesWay_61 : decode cX6_takesWay 61 = .ok (.aload_n 0, 1) := by decide +kernel
theorem dX6_takesWay_62 : decode cX6_takesWay 62 = .ok (.iconst 3, 1) := by decide +kernel
theorem dX6_takesWay_63 : decode cX6_takesWay 63 = .ok (.iconst 0, 1) := by decide +kernel
theorem dX6_takesWay_64 : decode cX6_takesWay 64 = .ok (.invokevirtual 113, 3) := by decide +kernel
theorem dX6_takesWay_67 : decode cX6_takesWay 67 = .ok (.aload_n 0, 1) := by decide +kernel
theorem dX6_takesWay_68 : decode cX6_takesWay 68 = .ok (.invokevirtual 123, 3) := by decide +kernel
theorem dX6_takesWay_71 : decode cX6_takesWay 71 = .ok (.ifCond .ne 5, 3) := by decide +kernel
theorem dX6_takesWay_74 : decode cX6_takesWay 74 = .ok (.iconst 0, 1) := by decide +kernel
theorem dX6_takesWay_75 : decode cX6_takesWay 75 = .ok (.ireturn, 1) := by decide +kernel
theorem dX6_takesWay_76 : decode cX6_takesWay 76 = .ok (.aload_n 0, 1) := by decide +kernel
theorem dX6_takesWay_77 : decode cX6_takesWay 77 = .ok (.dup, 1) := by decide +kernel
theorem dX6_takesWay_78 : decode cX6_takesWay 78 = .ok (.getfield 103, 3) := by decide +kernel
theorem dX6_takesWay_81 : decode cX6_takesWay 81 = .ok (.iconst 1, 1) := by decide +kernel
theorem dX6_takesWay_82 : decode cX6_takesWay 82 = .ok (.iadd, 1) := by decide +kernel
theorem dX6_takesWay_83 : decode cX6_takesWay 83 = .ok (.putfield 103, 3) := by decide +kernel
theorem dX6_takesWay_86 : decode cX6_takesWay 86 = .ok (.iconst 1, 1) := by decide +kernel
theorem dX6_takesWay_87 : decode cX6_takesWay 87 = .ok (.ireturn, 1) := by decide +kernel
set_option maxRecDepth 20000 in
theorem ggX6_takesMask_X6_takesNumber : GoodIn wsX6_takesMask wsX6_takesNumber := goodIn_r _ [9, 10, 11, 12, 13, 1, 14, 15, 8, 16, 17, 18, 19, 20, 21, 22, 23, 24, 25, 26, 27, 28, 29, 30, 31, 32, 33, 34, 35, 36, 37, 38, 39, 40, 41, 42, 43, 44, 45, 46, 47, 48, 49, 50, 51, 52, 53] (by decide +kernel) (by decide +kernel)
set_option maxRecDepth 20000 in
theorem gX6_takesMask_X6_takesNumber : GoodIn wsX6_takesMask (wsV RX6 88 RX6 yX6_takesNumber wsX6_takesNumber) := goodIn_app (goodIn_of _ (by decide +kernel)) ggX6_takesMask_X6_takesNumber
theorem dX6_takesMask_0 : decode cX6_takesMask 0 = .ok (.aload_n 0, 1) := by decide +kernel
theorem dX6_takesMask_1 : decode cX6_takesMask 1 = .ok (.iconst 0, 1) := by decide +kernel
theorem dX6_takesMask_2 : decode cX6_takesMask 2 = .ok (.bipush 15, 2) := by decide +kernel
theorem dX6_takesMask_4 : decode cX6_takesMask 4 = .ok (.invokevirtual 88, 3) := by decide +kernel
theorem dX6_takesMask_7 : decode cX6_takesMask 7 = .ok (.ifCond .ne 5, 3) := by decide +kernel
theorem dX6_takesMask_10 : decode cX6_takesMask 10 = .ok (.iconst 0, 1) := by decide +kernel
theorem dX6_takesMask_11 : decode cX6_takesMask 11 = .ok (.ireturn, 1) := by decide +kernel
theorem dX6_takesMask_12 : decode cX6_takesMask 12 = .ok (.aload_n 0, 1) := by decide +kernel
theorem dX6_takesMask_13 : decode cX6_takesMask 13 = .ok (.getfield 82, 3) := by decide +kernel
theorem dX6_takesMask_16 : decode cX6_takesMask 16 = .ok (.istore_n 1, 1) := by decide +kernel
theorem dX6_takesMask_17 : decode cX6_takesMask 17 = .ok (.aload_n 0, 1) := by decide +kernel
theorem dX6_takesMask_18 : decode cX6_takesMask 18 = .ok (.iconst 0, 1) := by decide +kernel
theorem dX6_takesMask_19 : decode cX6_takesMask 19 = .ok (.bipush 16, 2) := by decide +kernel
theorem dX6_takesMask_21 : decode cX6_takesMask 21 = .ok (.invokevirtual 88, 3) := by decide +kernel
theorem dX6_takesMask_24 : decode cX6_takesMask 24 = .ok (.ifCond .ne 5, 3) := by decide +kernel
theorem dX6_takesMask_27 : decode cX6_takesMask 27 = .ok (.iconst 0, 1) := by decide +kernel
theorem dX6_takesMask_28 : decode cX6_takesMask 28 = .ok (.ireturn, 1) := by decide +kernel
theorem dX6_takesMask_29 : decode cX6_takesMask 29 = .ok (.aload_n 0, 1) := by decide +kernel
theorem dX6_takesMask_30 : decode cX6_takesMask 30 = .ok (.getfield 96, 3) := by decide +kernel
theorem dX6_takesMask_33 : decode cX6_takesMask 33 = .ok (.ifCond .eq 16, 3) := by decide +kernel
theorem dX6_takesMask_36 : decode cX6_takesMask 36 = .ok (.aload_n 0, 1) := by decide +kernel
theorem dX6_takesMask_37 : decode cX6_takesMask 37 = .ok (.iload_n 1, 1) := by decide +kernel
theorem dX6_takesMask_38 : decode cX6_takesMask 38 = .ok (.putfield 126, 3) := by decide +kernel
theorem dX6_takesMask_41 : decode cX6_takesMask 41 = .ok (.aload_n 0, 1) := by decide +kernel
theorem dX6_takesMask_42 : decode cX6_takesMask 42 = .ok (.aload_n 0, 1) := by decide +kernel
theorem dX6_takesMask_43 : decode cX6_takesMask 43 = .ok (.getfield 82, 3) := by decide +kernel
theorem dX6_takesMask_46 : decode cX6_takesMask 46 = .ok (.putfield 7, 3) := by decide +kernel
theorem dX6_takesMask_49 : decode cX6_takesMask 49 = .ok (.iconst 1, 1) := by decide +kernel
theorem dX6_takesMask_50 : decode cX6_takesMask 50 = .ok (.ireturn, 1) := by decide +kernel
theorem dX6_clears_0 : decode cX6_clears 0 = .ok (.aload_n 0, 1) := by decide +kernel
theorem dX6_clears_1 : decode cX6_clears 1 = .ok (.iconst 0, 1) := by decide +kernel
theorem dX6_clears_2 : decode cX6_clears 2 = .ok (.putfield 100, 3) := by decide +kernel
theorem dX6_clears_5 : decode cX6_clears 5 = .ok (.aload_n 0, 1) := by decide +kernel
theorem dX6_clears_6 : decode cX6_clears 6 = .ok (.iconst 0, 1) := by decide +kernel
theorem dX6_clears_7 : decode cX6_clears 7 = .ok (.putfield 103, 3) := by decide +kernel
theorem dX6_clears_10 : decode cX6_clears 10 = .ok (.aload_n 0, 1) := by decide +kernel
theorem dX6_clears_11 : decode cX6_clears 11 = .ok (.getfield 96, 3) := by decide +kernel
theorem dX6_clears_14 : decode cX6_clears 14 = .ok (.ifCond .eq 14, 3) := by decide +kernel
theorem dX6_clears_17 : decode cX6_clears 17 = .ok (.aload_n 0, 1) := by decide +kernel
theorem dX6_clears_18 : decode cX6_clears 18 = .ok (.iconst 0, 1) := by decide +kernel
theorem dX6_clears_19 : decode cX6_clears 19 = .ok (.putfield 126, 3) := by decide +kernel
theorem dX6_clears_22 : decode cX6_clears 22 = .ok (.aload_n 0, 1) := by decide +kernel
theorem dX6_clears_23 : decode cX6_clears 23 = .ok (.bipush 16, 2) := by decide +kernel
theorem dX6_clears_25 : decode cX6_clears 25 = .ok (.putfield 7, 3) := by decide +kernel
theorem dX6_clears_28 : decode cX6_clears 28 = .ok (.return_, 1) := by decide +kernel
set_option maxRecDepth 20000 in
theorem ggX6_takesClause_X6_wordHere : GoodIn wsX6_takesClause wsX6_wordHere := goodIn_r _ [9, 10, 11, 12, 13, 14, 79, 80, 81, 82, 83, 84, 85, 86, 87, 88, 89, 90, 91, 92, 93, 94, 95, 96, 97, 98, 99, 100, 101] (by decide +kernel) (by decide +kernel)
set_option maxRecDepth 20000 in
theorem gX6_takesClause_X6_wordHere : GoodIn wsX6_takesClause (wsV RX6 109 RX6 yX6_wordHere wsX6_wordHere) := goodIn_app (goodIn_of _ (by decide +kernel)) ggX6_takesClause_X6_wordHere
set_option maxRecDepth 20000 in
theorem ggX6_takesClause_X6_nextToken : GoodIn wsX6_takesClause wsX6_nextToken := goodIn_r _ [18, 13, 10, 11, 14, 19, 20, 8, 21, 22, 23, 24, 25, 26, 27, 28, 29, 30, 31, 79, 80, 81, 82, 83, 84, 85, 86, 87, 88, 89, 90, 91, 92, 93, 94, 95, 96, 97, 98, 99, 100, 101] (by decide +kernel) (by decide +kernel)
set_option maxRecDepth 20000 in
theorem gX6_takesClause_X6_nextToken : GoodIn wsX6_takesClause (wsV RX6 85 RX6 yX6_nextToken wsX6_nextToken) := goodIn_app (goodIn_of _ (by decide +kernel)) ggX6_takesClause_X6_nextToken
set_option maxRecDepth 20000 in
theorem ggX6_takesClause_X6_clears : GoodIn wsX6_takesClause wsX6_clears := goodIn_r _ [35, 1, 2, 3, 36, 37, 79, 80, 81, 82, 83, 84, 85, 86, 87, 88, 89, 90, 91, 92, 93, 94, 95, 96, 97, 98, 99, 100, 101] (by decide +kernel) (by decide +kernel)
set_option maxRecDepth 20000 in
theorem gX6_takesClause_X6_clears : GoodIn wsX6_takesClause (wsV RX6 129 RX6 yX6_clears wsX6_clears) := goodIn_app (goodIn_of _ (by decide +kernel)) ggX6_takesClause_X6_clears
set_option maxRecDepth 20000 in
theorem ggX6_takesClause_X6_takesState : GoodIn wsX6_takesClause wsX6_takesState := goodIn_r _ [41, 3, 42, 1, 43, 44, 45, 46, 8, 47, 10, 11, 14, 15, 16, 17, 18, 13, 19, 20, 21, 22, 23, 24, 25, 26, 27, 28, 29, 30, 31, 48, 49, 50, 51, 79, 80, 81, 82, 83, 84, 85, 86, 87, 88, 89, 90, 91, 92, 93, 94, 95, 96, 97, 98, 99, 100, 101] (by decide +kernel) (by decide +kernel)
set_option maxRecDepth 20000 in
theorem gX6_takesClause_X6_takesState : GoodIn wsX6_takesClause (wsV RX6 132 RX6 yX6_takesState wsX6_takesState) := goodIn_app (goodIn_of _ (by decide +kernel)) ggX6_takesClause_X6_takesState
set_option maxRecDepth 20000 in
theorem ggX6_takesClause_X6_takesWay : GoodIn wsX6_takesClause wsX6_takesWay := goodIn_r _ [55, 43, 1, 2, 56, 57, 58, 8, 59, 10, 13, 48, 49, 50, 51, 11, 14, 27, 28, 29, 30, 31, 24, 25, 26, 15, 16, 17, 18, 19, 20, 21, 22, 23, 60, 61, 62, 63, 3, 4, 64, 65, 66, 67, 68, 69, 70, 71, 72, 73, 74, 5, 6, 7, 9, 12, 44, 45, 46, 47, 79, 80, 81, 82, 83, 84, 85, 86, 87, 88, 89, 90, 91, 92, 93, 94, 95, 96, 97, 98, 99, 100, 101] (by decide +kernel) (by decide +kernel)
set_option maxRecDepth 20000 in
theorem gX6_takesClause_X6_takesWay : GoodIn wsX6_takesClause (wsV RX6 135 RX6 yX6_takesWay wsX6_takesWay) := goodIn_app (goodIn_of _ (by decide +kernel)) ggX6_takesClause_X6_takesWay
set_option maxRecDepth 20000 in
theorem ggX6_takesClause_X6_takesMask : GoodIn wsX6_takesClause wsX6_takesMask := goodIn_r _ [78, 43, 3, 36, 37, 48, 49, 50, 8, 51, 10, 11, 14, 13, 27, 28, 29, 30, 31, 24, 25, 26, 15, 16, 17, 18, 19, 20, 21, 22, 23, 79, 80, 81, 82, 83, 84, 85, 86, 87, 88, 89, 90, 91, 92, 93, 94, 95, 96, 97, 98, 99, 100, 101] (by decide +kernel) (by decide +kernel)
set_option maxRecDepth 20000 in
theorem gX6_takesClause_X6_takesMask : GoodIn wsX6_takesClause (wsV RX6 138 RX6 yX6_takesMask wsX6_takesMask) := goodIn_app (goodIn_of _ (by decide +kernel)) ggX6_takesClause_X6_takesMask
theorem dX6_takesClause_0 : decode cX6_takesClause 0 = .ok (.aload_n 0, 1) := by decide +kernel
theorem dX6_takesClause_1 : decode cX6_takesClause 1 = .ok (.iconst 0, 1) := by decide +kernel
theorem dX6_takesClause_2 : decode cX6_takesClause 2 = .ok (.iconst 5, 1) := by decide +kernel
theorem dX6_takesClause_3 : decode cX6_takesClause 3 = .ok (.invokevirtual 109, 3) := by decide +kernel
theorem dX6_takesClause_6 : decode cX6_takesClause 6 = .ok (.istore_n 1, 1) := by decide +kernel
theorem dX6_takesClause_7 : decode cX6_takesClause 7 = .ok (.iload_n 1, 1) := by decide +kernel
theorem dX6_takesClause_8 : decode cX6_takesClause 8 = .ok (.iconst (-1), 1) := by decide +kernel
theorem dX6_takesClause_9 : decode cX6_takesClause 9 = .ok (.if_icmp .eq 47, 3) := by decide +kernel
theorem dX6_takesClause_12 : decode cX6_takesClause 12 = .ok (.iload_n 1, 1) := by decide +kernel
theorem dX6_takesClause_13 : decode cX6_takesClause 13 = .ok (.iconst 1, 1) := by decide +kernel
theorem dX6_takesClause_14 : decode cX6_takesClause 14 = .ok (.if_icmp .ne 12, 3) := by decide +kernel
theorem dX6_takesClause_17 : decode cX6_takesClause 17 = .ok (.aload_n 0, 1) := by decide +kernel
theorem dX6_takesClause_18 : decode cX6_takesClause 18 = .ok (.getfield 100, 3) := by decide +kernel
theorem dX6_takesClause_21 : decode cX6_takesClause 21 = .ok (.bipush 6, 2) := by decide +kernel
theorem dX6_takesClause_23 : decode cX6_takesClause 23 = .ok (.if_icmp .ge 33, 3) := by decide +kernel
theorem dX6_takesClause_26 : decode cX6_takesClause 26 = .ok (.iload_n 1, 1) := by decide +kernel
theorem dX6_takesClause_27 : decode cX6_takesClause 27 = .ok (.iconst 2, 1) := by decide +kernel
theorem dX6_takesClause_28 : decode cX6_takesClause 28 = .ok (.if_icmp .ne 12, 3) := by decide +kernel
theorem dX6_takesClause_31 : decode cX6_takesClause 31 = .ok (.aload_n 0, 1) := by decide +kernel
theorem dX6_takesClause_32 : decode cX6_takesClause 32 = .ok (.getfield 103, 3) := by decide +kernel
theorem dX6_takesClause_35 : decode cX6_takesClause 35 = .ok (.bipush 12, 2) := by decide +kernel
theorem dX6_takesClause_37 : decode cX6_takesClause 37 = .ok (.if_icmp .ge 19, 3) := by decide +kernel
theorem dX6_takesClause_40 : decode cX6_takesClause 40 = .ok (.iload_n 1, 1) := by decide +kernel
theorem dX6_takesClause_41 : decode cX6_takesClause 41 = .ok (.iconst 3, 1) := by decide +kernel
theorem dX6_takesClause_42 : decode cX6_takesClause 42 = .ok (.if_icmp .ne 10, 3) := by decide +kernel
theorem dX6_takesClause_45 : decode cX6_takesClause 45 = .ok (.aload_n 0, 1) := by decide +kernel
theorem dX6_takesClause_46 : decode cX6_takesClause 46 = .ok (.getfield 103, 3) := by decide +kernel
theorem dX6_takesClause_49 : decode cX6_takesClause 49 = .ok (.ifCond .le 7, 3) := by decide +kernel
theorem dX6_takesClause_52 : decode cX6_takesClause 52 = .ok (.iconst 1, 1) := by decide +kernel
theorem dX6_takesClause_53 : decode cX6_takesClause 53 = .ok (.goto 4, 3) := by decide +kernel
theorem dX6_takesClause_56 : decode cX6_takesClause 56 = .ok (.iconst 0, 1) := by decide +kernel
theorem dX6_takesClause_57 : decode cX6_takesClause 57 = .ok (.istore_n 2, 1) := by decide +kernel
theorem dX6_takesClause_58 : decode cX6_takesClause 58 = .ok (.iload_n 2, 1) := by decide +kernel
theorem dX6_takesClause_59 : decode cX6_takesClause 59 = .ok (.ifCond .ne 5, 3) := by decide +kernel
theorem dX6_takesClause_62 : decode cX6_takesClause 62 = .ok (.iconst 0, 1) := by decide +kernel
theorem dX6_takesClause_63 : decode cX6_takesClause 63 = .ok (.ireturn, 1) := by decide +kernel
theorem dX6_takesClause_64 : decode cX6_takesClause 64 = .ok (.aload_n 0, 1) := by decide +kernel
theorem dX6_takesClause_65 : decode cX6_takesClause 65 = .ok (.invokevirtual 85, 3) := by decide +kernel
theorem dX6_takesClause_68 : decode cX6_takesClause 68 = .ok (.iload_n 1, 1) := by decide +kernel
theorem dX6_takesClause_69 : decode cX6_takesClause 69 = .ok (.tableswitch 74 0 3 #[31, 37, 42, 47], 31) := by decide +kernel
theorem dX6_takesClause_100 : decode cX6_takesClause 100 = .ok (.aload_n 0, 1) := by decide +kernel
theorem dX6_takesClause_101 : decode cX6_takesClause 101 = .ok (.invokevirtual 129, 3) := by decide +kernel
theorem dX6_takesClause_104 : decode cX6_takesClause 104 = .ok (.iconst 1, 1) := by decide +kernel
theorem dX6_takesClause_105 : decode cX6_takesClause 105 = .ok (.ireturn, 1) := by decide +kernel
theorem dX6_takesClause_106 : decode cX6_takesClause 106 = .ok (.aload_n 0, 1) := by decide +kernel
theorem dX6_takesClause_107 : decode cX6_takesClause 107 = .ok (.invokevirtual 132, 3) := by decide +kernel
theorem dX6_takesClause_110 : decode cX6_takesClause 110 = .ok (.ireturn, 1) := by decide +kernel
theorem dX6_takesClause_111 : decode cX6_takesClause 111 = .ok (.aload_n 0, 1) := by decide +kernel
theorem dX6_takesClause_112 : decode cX6_takesClause 112 = .ok (.invokevirtual 135, 3) := by decide +kernel
theorem dX6_takesClause_115 : decode cX6_takesClause 115 = .ok (.ireturn, 1) := by decide +kernel
theorem dX6_takesClause_116 : decode cX6_takesClause 116 = .ok (.aload_n 0, 1) := by decide +kernel
theorem dX6_takesClause_117 : decode cX6_takesClause 117 = .ok (.getfield 96, 3) := by decide +kernel
theorem dX6_takesClause_120 : decode cX6_takesClause 120 = .ok (.ifCond .eq 21, 3) := by decide +kernel
theorem dX6_takesClause_123 : decode cX6_takesClause 123 = .ok (.aload_n 0, 1) := by decide +kernel
theorem dX6_takesClause_124 : decode cX6_takesClause 124 = .ok (.getfield 17, 3) := by decide +kernel
theorem dX6_takesClause_127 : decode cX6_takesClause 127 = .ok (.bipush 8, 2) := by decide +kernel
theorem dX6_takesClause_129 : decode cX6_takesClause 129 = .ok (.aload_n 0, 1) := by decide +kernel
theorem dX6_takesClause_130 : decode cX6_takesClause 130 = .ok (.getfield 103, 3) := by decide +kernel
theorem dX6_takesClause_133 : decode cX6_takesClause 133 = .ok (.imul, 1) := by decide +kernel
theorem dX6_takesClause_134 : decode cX6_takesClause 134 = .ok (.bipush 8, 2) := by decide +kernel
theorem dX6_takesClause_136 : decode cX6_takesClause 136 = .ok (.isub, 1) := by decide +kernel
theorem dX6_takesClause_137 : decode cX6_takesClause 137 = .ok (.iconst 3, 1) := by decide +kernel
theorem dX6_takesClause_138 : decode cX6_takesClause 138 = .ok (.iadd, 1) := by decide +kernel
theorem dX6_takesClause_139 : decode cX6_takesClause 139 = .ok (.iconst 1, 1) := by decide +kernel
theorem dX6_takesClause_140 : decode cX6_takesClause 140 = .ok (.iastore, 1) := by decide +kernel
theorem dX6_takesClause_141 : decode cX6_takesClause 141 = .ok (.iconst 1, 1) := by decide +kernel
theorem dX6_takesClause_142 : decode cX6_takesClause 142 = .ok (.ireturn, 1) := by decide +kernel
theorem dX6_takesClause_143 : decode cX6_takesClause 143 = .ok (.aload_n 0, 1) := by decide +kernel
theorem dX6_takesClause_144 : decode cX6_takesClause 144 = .ok (.invokevirtual 138, 3) := by decide +kernel
theorem dX6_takesClause_147 : decode cX6_takesClause 147 = .ok (.ireturn, 1) := by decide +kernel
set_option maxRecDepth 20000 in
theorem ggX6_reads_X6_nextToken : GoodIn wsX6_reads wsX6_nextToken := goodIn_r _ [15, 2, 8, 9, 10, 16, 17, 14, 18, 19, 20, 21, 22, 23, 24, 25, 26, 27, 28, 86, 87, 88, 89, 90, 91, 92, 93, 94, 95, 96, 97, 98, 99, 100, 101, 102, 103, 104, 105, 106, 107, 108] (by decide +kernel) (by decide +kernel)
set_option maxRecDepth 20000 in
theorem gX6_reads_X6_nextToken : GoodIn wsX6_reads (wsV RX6 85 RX6 yX6_nextToken wsX6_nextToken) := goodIn_app (goodIn_of _ (by decide +kernel)) ggX6_reads_X6_nextToken
set_option maxRecDepth 20000 in
theorem ggX6_reads_X6_takesClause : GoodIn wsX6_reads wsX6_takesClause := goodIn_r _ [32, 5, 7, 1, 33, 34, 35, 36, 14, 37, 8, 9, 38, 2, 10, 11, 12, 13, 15, 16, 17, 18, 19, 20, 21, 22, 23, 24, 25, 26, 27, 28, 39, 40, 41, 42, 43, 44, 45, 46, 47, 48, 49, 50, 51, 52, 53, 54, 55, 56, 57, 58, 59, 60, 61, 62, 63, 64, 65, 66, 67, 68, 69, 70, 71, 72, 73, 74, 75, 76, 77, 78, 79, 80, 81, 82, 83, 84, 85, 86, 87, 88, 89, 90, 91, 92, 93, 94, 95, 96, 97, 98, 99, 100, 101, 102, 103, 104, 105, 106, 107, 108] (by decide +kernel) (by decide +kernel)
set_option maxRecDepth 20000 in
theorem gX6_reads_X6_takesClause : GoodIn wsX6_reads (wsV RX6 150 RX6 yX6_takesClause wsX6_takesClause) := goodIn_app (goodIn_of _ (by decide +kernel)) ggX6_reads_X6_takesClause
theorem dX6_reads_0 : decode cX6_reads 0 = .ok (.aload_n 0, 1) := by decide +kernel
theorem dX6_reads_1 : decode cX6_reads 1 = .ok (.iload_n 1, 1) := by decide +kernel
theorem dX6_reads_2 : decode cX6_reads 2 = .ok (.putfield 96, 3) := by decide +kernel
theorem dX6_reads_5 : decode cX6_reads 5 = .ok (.aload_n 0, 1) := by decide +kernel
theorem dX6_reads_6 : decode cX6_reads 6 = .ok (.iconst 0, 1) := by decide +kernel
theorem dX6_reads_7 : decode cX6_reads 7 = .ok (.putfield 69, 3) := by decide +kernel
theorem dX6_reads_10 : decode cX6_reads 10 = .ok (.aload_n 0, 1) := by decide +kernel
theorem dX6_reads_11 : decode cX6_reads 11 = .ok (.iconst 1, 1) := by decide +kernel
theorem dX6_reads_12 : decode cX6_reads 12 = .ok (.putfield 141, 3) := by decide +kernel
theorem dX6_reads_15 : decode cX6_reads 15 = .ok (.aload_n 0, 1) := by decide +kernel
theorem dX6_reads_16 : decode cX6_reads 16 = .ok (.aload_n 0, 1) := by decide +kernel
theorem dX6_reads_17 : decode cX6_reads 17 = .ok (.getfield 144, 3) := by decide +kernel
theorem dX6_reads_20 : decode cX6_reads 20 = .ok (.putfield 100, 3) := by decide +kernel
theorem dX6_reads_23 : decode cX6_reads 23 = .ok (.aload_n 0, 1) := by decide +kernel
theorem dX6_reads_24 : decode cX6_reads 24 = .ok (.aload_n 0, 1) := by decide +kernel
theorem dX6_reads_25 : decode cX6_reads 25 = .ok (.getfield 147, 3) := by decide +kernel
theorem dX6_reads_28 : decode cX6_reads 28 = .ok (.putfield 103, 3) := by decide +kernel
theorem dX6_reads_31 : decode cX6_reads 31 = .ok (.aload_n 0, 1) := by decide +kernel
theorem dX6_reads_32 : decode cX6_reads 32 = .ok (.invokevirtual 85, 3) := by decide +kernel
theorem dX6_reads_35 : decode cX6_reads 35 = .ok (.aload_n 0, 1) := by decide +kernel
theorem dX6_reads_36 : decode cX6_reads 36 = .ok (.invokevirtual 150, 3) := by decide +kernel
theorem dX6_reads_39 : decode cX6_reads 39 = .ok (.istore_n 2, 1) := by decide +kernel
theorem dX6_reads_40 : decode cX6_reads 40 = .ok (.iload_n 2, 1) := by decide +kernel
theorem dX6_reads_41 : decode cX6_reads 41 = .ok (.ifCond .eq 69, 3) := by decide +kernel
theorem dX6_reads_44 : decode cX6_reads 44 = .ok (.aload_n 0, 1) := by decide +kernel
theorem dX6_reads_45 : decode cX6_reads 45 = .ok (.getfield 72, 3) := by decide +kernel
theorem dX6_reads_48 : decode cX6_reads 48 = .ok (.aload_n 0, 1) := by decide +kernel
theorem dX6_reads_49 : decode cX6_reads 49 = .ok (.getfield 58, 3) := by decide +kernel
theorem dX6_reads_52 : decode cX6_reads 52 = .ok (.if_icmp .ge 58, 3) := by decide +kernel
theorem dX6_reads_55 : decode cX6_reads 55 = .ok (.aload_n 0, 1) := by decide +kernel
theorem dX6_reads_56 : decode cX6_reads 56 = .ok (.getfield 141, 3) := by decide +kernel
theorem dX6_reads_59 : decode cX6_reads 59 = .ok (.bipush 24, 2) := by decide +kernel
theorem dX6_reads_61 : decode cX6_reads 61 = .ok (.if_icmp .ge 21, 3) := by decide +kernel
theorem dX6_reads_64 : decode cX6_reads 64 = .ok (.aload_n 0, 1) := by decide +kernel
theorem dX6_reads_65 : decode cX6_reads 65 = .ok (.getfield 31, 3) := by decide +kernel
theorem dX6_reads_68 : decode cX6_reads 68 = .ok (.aload_n 0, 1) := by decide +kernel
theorem dX6_reads_69 : decode cX6_reads 69 = .ok (.getfield 72, 3) := by decide +kernel
theorem dX6_reads_72 : decode cX6_reads 72 = .ok (.iaload, 1) := by decide +kernel
theorem dX6_reads_73 : decode cX6_reads 73 = .ok (.bipush 59, 2) := by decide +kernel
theorem dX6_reads_75 : decode cX6_reads 75 = .ok (.if_icmp .ne 7, 3) := by decide +kernel
theorem dX6_reads_78 : decode cX6_reads 78 = .ok (.iconst 1, 1) := by decide +kernel
theorem dX6_reads_79 : decode cX6_reads 79 = .ok (.goto 4, 3) := by decide +kernel
theorem dX6_reads_82 : decode cX6_reads 82 = .ok (.iconst 0, 1) := by decide +kernel
theorem dX6_reads_83 : decode cX6_reads 83 = .ok (.istore_n 2, 1) := by decide +kernel
theorem dX6_reads_84 : decode cX6_reads 84 = .ok (.iload_n 2, 1) := by decide +kernel
theorem dX6_reads_85 : decode cX6_reads 85 = .ok (.ifCond .eq (-45), 3) := by decide +kernel
theorem dX6_reads_88 : decode cX6_reads 88 = .ok (.aload_n 0, 1) := by decide +kernel
theorem dX6_reads_89 : decode cX6_reads 89 = .ok (.invokevirtual 85, 3) := by decide +kernel
theorem dX6_reads_92 : decode cX6_reads 92 = .ok (.aload_n 0, 1) := by decide +kernel
theorem dX6_reads_93 : decode cX6_reads 93 = .ok (.invokevirtual 150, 3) := by decide +kernel
theorem dX6_reads_96 : decode cX6_reads 96 = .ok (.istore_n 2, 1) := by decide +kernel
theorem dX6_reads_97 : decode cX6_reads 97 = .ok (.aload_n 0, 1) := by decide +kernel
theorem dX6_reads_98 : decode cX6_reads 98 = .ok (.dup, 1) := by decide +kernel
theorem dX6_reads_99 : decode cX6_reads 99 = .ok (.getfield 141, 3) := by decide +kernel
theorem dX6_reads_102 : decode cX6_reads 102 = .ok (.iconst 1, 1) := by decide +kernel
theorem dX6_reads_103 : decode cX6_reads 103 = .ok (.iadd, 1) := by decide +kernel
theorem dX6_reads_104 : decode cX6_reads 104 = .ok (.putfield 141, 3) := by decide +kernel
theorem dX6_reads_107 : decode cX6_reads 107 = .ok (.goto (-67), 3) := by decide +kernel
theorem dX6_reads_110 : decode cX6_reads 110 = .ok (.iload_n 2, 1) := by decide +kernel
theorem dX6_reads_111 : decode cX6_reads 111 = .ok (.ireturn, 1) := by decide +kernel
set_option maxRecDepth 20000 in
theorem ggX6_fault_X6_reads : GoodIn wsX6_fault wsX6_reads := goodIn_r _ [6, 7, 8, 9, 10, 11, 12, 13, 1, 14, 15, 16, 17, 18, 5, 19, 20, 21, 22, 23, 24, 25, 26, 27, 28, 29, 30, 31, 32, 33, 34, 35, 36, 37, 38, 39, 40, 41, 42, 43, 44, 45, 46, 47, 48, 49, 50, 51, 52, 53, 54, 55, 56, 57, 58, 59, 60, 61, 62, 63, 64, 65, 66, 67, 68, 69, 70, 71, 72, 73, 74, 75, 76, 77, 78, 79, 80, 81, 82, 83, 84, 85, 86, 87, 88, 89, 90, 91, 92, 93, 94, 95, 96, 97, 98, 99, 100, 101, 102, 103, 104, 105, 106, 107, 108, 109, 110, 111, 112] (by decide +kernel) (by decide +kernel)
set_option maxRecDepth 20000 in
theorem gX6_fault_X6_reads : GoodIn wsX6_fault (wsV RX6 153 RX6 yX6_reads wsX6_reads) := goodIn_app (goodIn_of _ (by decide +kernel)) ggX6_fault_X6_reads
theorem dX6_fault_0 : decode cX6_fault 0 = .ok (.aload_n 0, 1) := by decide +kernel
theorem dX6_fault_1 : decode cX6_fault 1 = .ok (.iconst 0, 1) := by decide +kernel
theorem dX6_fault_2 : decode cX6_fault 2 = .ok (.invokevirtual 153, 3) := by decide +kernel
theorem dX6_fault_5 : decode cX6_fault 5 = .ok (.ifCond .eq 7, 3) := by decide +kernel
theorem dX6_fault_8 : decode cX6_fault 8 = .ok (.iconst (-1), 1) := by decide +kernel
theorem dX6_fault_9 : decode cX6_fault 9 = .ok (.goto 7, 3) := by decide +kernel
theorem dX6_fault_12 : decode cX6_fault 12 = .ok (.aload_n 0, 1) := by decide +kernel
theorem dX6_fault_13 : decode cX6_fault 13 = .ok (.getfield 72, 3) := by decide +kernel
theorem dX6_fault_16 : decode cX6_fault 16 = .ok (.ireturn, 1) := by decide +kernel
set_option maxRecDepth 20000 in
theorem ggX6_figure_X6_reads : GoodIn wsX6_figure wsX6_reads := goodIn_r _ [11, 12, 13, 6, 2, 1, 4, 3, 14, 5, 15, 16, 17, 18, 10, 19, 20, 21, 22, 23, 24, 25, 26, 27, 28, 29, 30, 31, 32, 33, 34, 35, 36, 37, 38, 39, 40, 41, 42, 43, 44, 45, 46, 47, 48, 49, 50, 51, 52, 53, 54, 55, 56, 57, 58, 59, 60, 61, 62, 63, 64, 65, 66, 67, 68, 69, 70, 71, 72, 73, 74, 75, 76, 77, 78, 79, 80, 81, 82, 83, 84, 85, 86, 87, 88, 89, 99, 100, 101, 102, 103, 104, 105, 106, 107, 108, 109, 110, 111, 112, 113, 114, 115, 116, 117, 118, 119, 120, 121] (by decide +kernel) (by decide +kernel)
set_option maxRecDepth 20000 in
theorem gX6_figure_X6_reads : GoodIn wsX6_figure (wsV RX6 153 RX6 yX6_reads wsX6_reads) := goodIn_app (goodIn_of _ (by decide +kernel)) ggX6_figure_X6_reads
set_option maxRecDepth 20000 in
theorem ggX6_figure_X6_starts : GoodIn wsX6_figure wsX6_starts := goodIn_r _ [93, 94, 95, 96, 97, 98, 99, 100, 101, 102, 103, 104, 105, 106, 107, 108, 109, 110, 111, 112, 113, 114, 115, 116, 117, 118, 119, 120, 121] (by decide +kernel) (by decide +kernel)
set_option maxRecDepth 20000 in
theorem gX6_figure_X6_starts : GoodIn wsX6_figure (wsV RX6 46 RX6 yX6_starts wsX6_starts) := goodIn_app (goodIn_of _ (by decide +kernel)) ggX6_figure_X6_starts
theorem dX6_figure_0 : decode cX6_figure 0 = .ok (.aload_n 0, 1) := by decide +kernel
theorem dX6_figure_1 : decode cX6_figure 1 = .ok (.iconst 0, 1) := by decide +kernel
theorem dX6_figure_2 : decode cX6_figure 2 = .ok (.invokevirtual 153, 3) := by decide +kernel
theorem dX6_figure_5 : decode cX6_figure 5 = .ok (.ifCond .ne 6, 3) := by decide +kernel
theorem dX6_figure_8 : decode cX6_figure 8 = .ok (.bipush (-4), 2) := by decide +kernel
theorem dX6_figure_10 : decode cX6_figure 10 = .ok (.ireturn, 1) := by decide +kernel
theorem dX6_figure_11 : decode cX6_figure 11 = .ok (.aload_n 0, 1) := by decide +kernel
theorem dX6_figure_12 : decode cX6_figure 12 = .ok (.iconst 1, 1) := by decide +kernel
theorem dX6_figure_13 : decode cX6_figure 13 = .ok (.invokevirtual 153, 3) := by decide +kernel
theorem dX6_figure_16 : decode cX6_figure 16 = .ok (.istore_n 1, 1) := by decide +kernel
theorem dX6_figure_17 : decode cX6_figure 17 = .ok (.aload_n 0, 1) := by decide +kernel
theorem dX6_figure_18 : decode cX6_figure 18 = .ok (.aload_n 0, 1) := by decide +kernel
theorem dX6_figure_19 : decode cX6_figure 19 = .ok (.getfield 100, 3) := by decide +kernel
theorem dX6_figure_22 : decode cX6_figure 22 = .ok (.putfield 144, 3) := by decide +kernel
theorem dX6_figure_25 : decode cX6_figure 25 = .ok (.aload_n 0, 1) := by decide +kernel
theorem dX6_figure_26 : decode cX6_figure 26 = .ok (.aload_n 0, 1) := by decide +kernel
theorem dX6_figure_27 : decode cX6_figure 27 = .ok (.getfield 103, 3) := by decide +kernel
theorem dX6_figure_30 : decode cX6_figure 30 = .ok (.putfield 147, 3) := by decide +kernel
theorem dX6_figure_33 : decode cX6_figure 33 = .ok (.aload_n 0, 1) := by decide +kernel
theorem dX6_figure_34 : decode cX6_figure 34 = .ok (.iconst 0, 1) := by decide +kernel
theorem dX6_figure_35 : decode cX6_figure 35 = .ok (.putfield 58, 3) := by decide +kernel
theorem dX6_figure_38 : decode cX6_figure 38 = .ok (.aload_n 0, 1) := by decide +kernel
theorem dX6_figure_39 : decode cX6_figure 39 = .ok (.invokevirtual 46, 3) := by decide +kernel
theorem dX6_figure_42 : decode cX6_figure 42 = .ok (.iload_n 1, 1) := by decide +kernel
theorem dX6_figure_43 : decode cX6_figure 43 = .ok (.ifCond .eq 10, 3) := by decide +kernel
theorem dX6_figure_46 : decode cX6_figure 46 = .ok (.aload_n 0, 1) := by decide +kernel
theorem dX6_figure_47 : decode cX6_figure 47 = .ok (.getfield 141, 3) := by decide +kernel
theorem dX6_figure_50 : decode cX6_figure 50 = .ok (.goto 5, 3) := by decide +kernel
theorem dX6_figure_53 : decode cX6_figure 53 = .ok (.bipush (-4), 2) := by decide +kernel
theorem dX6_figure_55 : decode cX6_figure 55 = .ok (.ireturn, 1) := by decide +kernel
set_option maxRecDepth 20000 in
theorem ggX6_isState_X6_in : GoodIn wsX6_isState wsX6_in := goodIn_r _ [5] (by decide +kernel) (by decide +kernel)
set_option maxRecDepth 20000 in
theorem gX6_isState_X6_in : GoodIn wsX6_isState (va_wsS RX6 54 yX6_in wsX6_in) := goodIn_app (goodIn_of _ (by decide +kernel)) ggX6_isState_X6_in
theorem dX6_isState_0 : decode cX6_isState 0 = .ok (.iload_n 1, 1) := by decide +kernel
theorem dX6_isState_1 : decode cX6_isState 1 = .ok (.i2l, 1) := by decide +kernel
theorem dX6_isState_2 : decode cX6_isState 2 = .ok (.lconst 0, 1) := by decide +kernel
theorem dX6_isState_3 : decode cX6_isState 3 = .ok (.aload_n 0, 1) := by decide +kernel
theorem dX6_isState_4 : decode cX6_isState 4 = .ok (.getfield 144, 3) := by decide +kernel
theorem dX6_isState_7 : decode cX6_isState 7 = .ok (.iconst 1, 1) := by decide +kernel
theorem dX6_isState_8 : decode cX6_isState 8 = .ok (.isub, 1) := by decide +kernel
theorem dX6_isState_9 : decode cX6_isState 9 = .ok (.i2l, 1) := by decide +kernel
theorem dX6_isState_10 : decode cX6_isState 10 = .ok (.invokestatic 54, 3) := by decide +kernel
theorem dX6_isState_13 : decode cX6_isState 13 = .ok (.ireturn, 1) := by decide +kernel
set_option maxRecDepth 20000 in
theorem ggX6_isLayer_X6_in : GoodIn wsX6_isLayer wsX6_in := goodIn_r _ [4] (by decide +kernel) (by decide +kernel)
set_option maxRecDepth 20000 in
theorem gX6_isLayer_X6_in : GoodIn wsX6_isLayer (va_wsS RX6 54 yX6_in wsX6_in) := goodIn_app (goodIn_of _ (by decide +kernel)) ggX6_isLayer_X6_in
theorem dX6_isLayer_0 : decode cX6_isLayer 0 = .ok (.iload_n 0, 1) := by decide +kernel
theorem dX6_isLayer_1 : decode cX6_isLayer 1 = .ok (.i2l, 1) := by decide +kernel
theorem dX6_isLayer_2 : decode cX6_isLayer 2 = .ok (.lconst 0, 1) := by decide +kernel
theorem dX6_isLayer_3 : decode cX6_isLayer 3 = .ok (.lconst 1, 1) := by decide +kernel
theorem dX6_isLayer_4 : decode cX6_isLayer 4 = .ok (.invokestatic 54, 3) := by decide +kernel
theorem dX6_isLayer_7 : decode cX6_isLayer 7 = .ok (.ireturn, 1) := by decide +kernel
set_option maxRecDepth 20000 in
theorem ggX6_isThird_X6_in : GoodIn wsX6_isThird wsX6_in := goodIn_r _ [5] (by decide +kernel) (by decide +kernel)
set_option maxRecDepth 20000 in
theorem gX6_isThird_X6_in : GoodIn wsX6_isThird (va_wsS RX6 54 yX6_in wsX6_in) := goodIn_app (goodIn_of _ (by decide +kernel)) ggX6_isThird_X6_in
theorem dX6_isThird_0 : decode cX6_isThird 0 = .ok (.iload_n 0, 1) := by decide +kernel
theorem dX6_isThird_1 : decode cX6_isThird 1 = .ok (.i2l, 1) := by decide +kernel
theorem dX6_isThird_2 : decode cX6_isThird 2 = .ok (.lconst 0, 1) := by decide +kernel
theorem dX6_isThird_3 : decode cX6_isThird 3 = .ok (.ldc2_w 157, 3) := by decide +kernel
theorem dX6_isThird_6 : decode cX6_isThird 6 = .ok (.invokestatic 54, 3) := by decide +kernel
theorem dX6_isThird_9 : decode cX6_isThird 9 = .ok (.ireturn, 1) := by decide +kernel
set_option maxRecDepth 20000 in
theorem ggX6_value_X6_isState : GoodIn wsX6_value wsX6_isState := goodIn_r _ [7, 8, 9, 10, 6, 11, 12, 13, 14, 15, 16, 17, 18, 19, 20, 21, 22, 23, 24, 25, 26, 27, 28, 29, 30, 31, 32, 33, 34] (by decide +kernel) (by decide +kernel)
set_option maxRecDepth 20000 in
theorem gX6_value_X6_isState : GoodIn wsX6_value (wsV RX6 159 RX6 yX6_isState wsX6_isState) := goodIn_app (goodIn_of _ (by decide +kernel)) ggX6_value_X6_isState
set_option maxRecDepth 20000 in
theorem ggX6_value_X6_in : GoodIn wsX6_value wsX6_in := goodIn_r _ [11] (by decide +kernel) (by decide +kernel)
set_option maxRecDepth 20000 in
theorem gX6_value_X6_in : GoodIn wsX6_value (va_wsS RX6 54 yX6_in wsX6_in) := goodIn_app (goodIn_of _ (by decide +kernel)) ggX6_value_X6_in
theorem dX6_value_0 : decode cX6_value 0 = .ok (.aload_n 0, 1) := by decide +kernel
theorem dX6_value_1 : decode cX6_value 1 = .ok (.iload_n 1, 1) := by decide +kernel
theorem dX6_value_2 : decode cX6_value 2 = .ok (.invokevirtual 159, 3) := by decide +kernel
theorem dX6_value_5 : decode cX6_value 5 = .ok (.ifCond .eq 31, 3) := by decide +kernel
theorem dX6_value_8 : decode cX6_value 8 = .ok (.iload_n 2, 1) := by decide +kernel
theorem dX6_value_9 : decode cX6_value 9 = .ok (.i2l, 1) := by decide +kernel
theorem dX6_value_10 : decode cX6_value 10 = .ok (.lconst 0, 1) := by decide +kernel
theorem dX6_value_11 : decode cX6_value 11 = .ok (.ldc2_w 162, 3) := by decide +kernel
theorem dX6_value_14 : decode cX6_value 14 = .ok (.invokestatic 54, 3) := by decide +kernel
theorem dX6_value_17 : decode cX6_value 17 = .ok (.ifCond .eq 19, 3) := by decide +kernel
theorem dX6_value_20 : decode cX6_value 20 = .ok (.aload_n 0, 1) := by decide +kernel
theorem dX6_value_21 : decode cX6_value 21 = .ok (.getfield 13, 3) := by decide +kernel
theorem dX6_value_24 : decode cX6_value 24 = .ok (.iconst 4, 1) := by decide +kernel
theorem dX6_value_25 : decode cX6_value 25 = .ok (.iload_n 1, 1) := by decide +kernel
theorem dX6_value_26 : decode cX6_value 26 = .ok (.imul, 1) := by decide +kernel
theorem dX6_value_27 : decode cX6_value 27 = .ok (.iload_n 2, 1) := by decide +kernel
theorem dX6_value_28 : decode cX6_value 28 = .ok (.iadd, 1) := by decide +kernel
theorem dX6_value_29 : decode cX6_value 29 = .ok (.iaload, 1) := by decide +kernel
theorem dX6_value_30 : decode cX6_value 30 = .ok (.bipush 100, 2) := by decide +kernel
theorem dX6_value_32 : decode cX6_value 32 = .ok (.iadd, 1) := by decide +kernel
theorem dX6_value_33 : decode cX6_value 33 = .ok (.goto 5, 3) := by decide +kernel
theorem dX6_value_36 : decode cX6_value 36 = .ok (.bipush (-2), 2) := by decide +kernel
theorem dX6_value_38 : decode cX6_value 38 = .ok (.ireturn, 1) := by decide +kernel
set_option maxRecDepth 20000 in
theorem ggX6_way_X6_in : GoodIn wsX6_way wsX6_in := goodIn_r _ [7] (by decide +kernel) (by decide +kernel)
set_option maxRecDepth 20000 in
theorem gX6_way_X6_in : GoodIn wsX6_way (va_wsS RX6 54 yX6_in wsX6_in) := goodIn_app (goodIn_of _ (by decide +kernel)) ggX6_way_X6_in
theorem dX6_way_0 : decode cX6_way 0 = .ok (.iload_n 1, 1) := by decide +kernel
theorem dX6_way_1 : decode cX6_way 1 = .ok (.i2l, 1) := by decide +kernel
theorem dX6_way_2 : decode cX6_way 2 = .ok (.lconst 0, 1) := by decide +kernel
theorem dX6_way_3 : decode cX6_way 3 = .ok (.aload_n 0, 1) := by decide +kernel
theorem dX6_way_4 : decode cX6_way 4 = .ok (.getfield 147, 3) := by decide +kernel
theorem dX6_way_7 : decode cX6_way 7 = .ok (.iconst 1, 1) := by decide +kernel
theorem dX6_way_8 : decode cX6_way 8 = .ok (.isub, 1) := by decide +kernel
theorem dX6_way_9 : decode cX6_way 9 = .ok (.i2l, 1) := by decide +kernel
theorem dX6_way_10 : decode cX6_way 10 = .ok (.invokestatic 54, 3) := by decide +kernel
theorem dX6_way_13 : decode cX6_way 13 = .ok (.ifCond .ne 6, 3) := by decide +kernel
theorem dX6_way_16 : decode cX6_way 16 = .ok (.bipush (-2), 2) := by decide +kernel
theorem dX6_way_18 : decode cX6_way 18 = .ok (.ireturn, 1) := by decide +kernel
theorem dX6_way_19 : decode cX6_way 19 = .ok (.iload_n 2, 1) := by decide +kernel
theorem dX6_way_20 : decode cX6_way 20 = .ok (.i2l, 1) := by decide +kernel
theorem dX6_way_21 : decode cX6_way 21 = .ok (.lconst 0, 1) := by decide +kernel
theorem dX6_way_22 : decode cX6_way 22 = .ok (.ldc2_w 164, 3) := by decide +kernel
theorem dX6_way_25 : decode cX6_way 25 = .ok (.invokestatic 54, 3) := by decide +kernel
theorem dX6_way_28 : decode cX6_way 28 = .ok (.ifCond .eq 30, 3) := by decide +kernel
theorem dX6_way_31 : decode cX6_way 31 = .ok (.aload_n 0, 1) := by decide +kernel
theorem dX6_way_32 : decode cX6_way 32 = .ok (.getfield 17, 3) := by decide +kernel
theorem dX6_way_35 : decode cX6_way 35 = .ok (.bipush 8, 2) := by decide +kernel
theorem dX6_way_37 : decode cX6_way 37 = .ok (.iload_n 1, 1) := by decide +kernel
theorem dX6_way_38 : decode cX6_way 38 = .ok (.imul, 1) := by decide +kernel
theorem dX6_way_39 : decode cX6_way 39 = .ok (.iload_n 2, 1) := by decide +kernel
theorem dX6_way_40 : decode cX6_way 40 = .ok (.iadd, 1) := by decide +kernel
theorem dX6_way_41 : decode cX6_way 41 = .ok (.iaload, 1) := by decide +kernel
theorem dX6_way_42 : decode cX6_way 42 = .ok (.iload_n 2, 1) := by decide +kernel
theorem dX6_way_43 : decode cX6_way 43 = .ok (.bipush 6, 2) := by decide +kernel
theorem dX6_way_45 : decode cX6_way 45 = .ok (.if_icmp .ne 8, 3) := by decide +kernel
theorem dX6_way_48 : decode cX6_way 48 = .ok (.bipush 100, 2) := by decide +kernel
theorem dX6_way_50 : decode cX6_way 50 = .ok (.goto 4, 3) := by decide +kernel
theorem dX6_way_53 : decode cX6_way 53 = .ok (.iconst 0, 1) := by decide +kernel
theorem dX6_way_54 : decode cX6_way 54 = .ok (.iadd, 1) := by decide +kernel
theorem dX6_way_55 : decode cX6_way 55 = .ok (.goto 5, 3) := by decide +kernel
theorem dX6_way_58 : decode cX6_way 58 = .ok (.bipush (-3), 2) := by decide +kernel
theorem dX6_way_60 : decode cX6_way 60 = .ok (.ireturn, 1) := by decide +kernel
set_option maxRecDepth 20000 in
theorem ggX6_minds_X6_copy : GoodIn wsX6_minds wsX6_copy := goodIn_r _ [6, 7, 8, 9, 10, 11, 12, 13, 14, 15, 16, 17, 18, 19, 20, 21, 22, 23, 24, 25, 26, 27, 28, 29, 30, 31] (by decide +kernel) (by decide +kernel)
set_option maxRecDepth 20000 in
theorem gX6_minds_X6_copy : GoodIn wsX6_minds (wsV RX6 166 RX6 yX6_copy wsX6_copy) := goodIn_app (goodIn_of _ (by decide +kernel)) ggX6_minds_X6_copy
theorem dX6_minds_0 : decode cX6_minds 0 = .ok (.aload_n 0, 1) := by decide +kernel
theorem dX6_minds_1 : decode cX6_minds 1 = .ok (.getfield 49, 3) := by decide +kernel
theorem dX6_minds_4 : decode cX6_minds 4 = .ok (.bipush 8, 2) := by decide +kernel
theorem dX6_minds_6 : decode cX6_minds 6 = .ok (.if_icmp .ne 39, 3) := by decide +kernel
theorem dX6_minds_9 : decode cX6_minds 9 = .ok (.iconst 0, 1) := by decide +kernel
theorem dX6_minds_10 : decode cX6_minds 10 = .ok (.istore_n 1, 1) := by decide +kernel
theorem dX6_minds_11 : decode cX6_minds 11 = .ok (.iload_n 1, 1) := by decide +kernel
theorem dX6_minds_12 : decode cX6_minds 12 = .ok (.bipush 7, 2) := by decide +kernel
theorem dX6_minds_14 : decode cX6_minds 14 = .ok (.if_icmp .ge 21, 3) := by decide +kernel
theorem dX6_minds_17 : decode cX6_minds 17 = .ok (.aload_n 0, 1) := by decide +kernel
theorem dX6_minds_18 : decode cX6_minds 18 = .ok (.iconst 4, 1) := by decide +kernel
theorem dX6_minds_19 : decode cX6_minds 19 = .ok (.iload_n 1, 1) := by decide +kernel
theorem dX6_minds_20 : decode cX6_minds 20 = .ok (.iadd, 1) := by decide +kernel
theorem dX6_minds_21 : decode cX6_minds 21 = .ok (.iconst 1, 1) := by decide +kernel
theorem dX6_minds_22 : decode cX6_minds 22 = .ok (.iadd, 1) := by decide +kernel
theorem dX6_minds_23 : decode cX6_minds 23 = .ok (.iconst 4, 1) := by decide +kernel
theorem dX6_minds_24 : decode cX6_minds 24 = .ok (.iload_n 1, 1) := by decide +kernel
theorem dX6_minds_25 : decode cX6_minds 25 = .ok (.iadd, 1) := by decide +kernel
theorem dX6_minds_26 : decode cX6_minds 26 = .ok (.invokevirtual 166, 3) := by decide +kernel
theorem dX6_minds_29 : decode cX6_minds 29 = .ok (.iinc 1 1, 3) := by decide +kernel
theorem dX6_minds_32 : decode cX6_minds 32 = .ok (.goto (-21), 3) := by decide +kernel
theorem dX6_minds_35 : decode cX6_minds 35 = .ok (.aload_n 0, 1) := by decide +kernel
theorem dX6_minds_36 : decode cX6_minds 36 = .ok (.dup, 1) := by decide +kernel
theorem dX6_minds_37 : decode cX6_minds 37 = .ok (.getfield 49, 3) := by decide +kernel
theorem dX6_minds_40 : decode cX6_minds 40 = .ok (.iconst 1, 1) := by decide +kernel
theorem dX6_minds_41 : decode cX6_minds 41 = .ok (.isub, 1) := by decide +kernel
theorem dX6_minds_42 : decode cX6_minds 42 = .ok (.putfield 49, 3) := by decide +kernel
theorem dX6_minds_45 : decode cX6_minds 45 = .ok (.aload_n 0, 1) := by decide +kernel
theorem dX6_minds_46 : decode cX6_minds 46 = .ok (.iconst 0, 1) := by decide +kernel
theorem dX6_minds_47 : decode cX6_minds 47 = .ok (.iconst 4, 1) := by decide +kernel
theorem dX6_minds_48 : decode cX6_minds 48 = .ok (.aload_n 0, 1) := by decide +kernel
theorem dX6_minds_49 : decode cX6_minds 49 = .ok (.getfield 49, 3) := by decide +kernel
theorem dX6_minds_52 : decode cX6_minds 52 = .ok (.iadd, 1) := by decide +kernel
theorem dX6_minds_53 : decode cX6_minds 53 = .ok (.invokevirtual 166, 3) := by decide +kernel
theorem dX6_minds_56 : decode cX6_minds 56 = .ok (.aload_n 0, 1) := by decide +kernel
theorem dX6_minds_57 : decode cX6_minds 57 = .ok (.dup, 1) := by decide +kernel
theorem dX6_minds_58 : decode cX6_minds 58 = .ok (.getfield 49, 3) := by decide +kernel
theorem dX6_minds_61 : decode cX6_minds 61 = .ok (.iconst 1, 1) := by decide +kernel
theorem dX6_minds_62 : decode cX6_minds 62 = .ok (.iadd, 1) := by decide +kernel
theorem dX6_minds_63 : decode cX6_minds 63 = .ok (.putfield 49, 3) := by decide +kernel
theorem dX6_minds_66 : decode cX6_minds 66 = .ok (.return_, 1) := by decide +kernel
set_option maxRecDepth 20000 in
theorem ggX6_set_X6_isThird : GoodIn wsX6_set wsX6_isThird := goodIn_r _ [7, 8, 9, 10, 6, 11] (by decide +kernel) (by decide +kernel)
set_option maxRecDepth 20000 in
theorem gX6_set_X6_isThird : GoodIn wsX6_set (va_wsS RX6 169 yX6_isThird wsX6_isThird) := goodIn_app (goodIn_of _ (by decide +kernel)) ggX6_set_X6_isThird
set_option maxRecDepth 20000 in
theorem ggX6_set_X6_in : GoodIn wsX6_set wsX6_in := goodIn_r _ [11] (by decide +kernel) (by decide +kernel)
set_option maxRecDepth 20000 in
theorem gX6_set_X6_in : GoodIn wsX6_set (va_wsS RX6 54 yX6_in wsX6_in) := goodIn_app (goodIn_of _ (by decide +kernel)) ggX6_set_X6_in
set_option maxRecDepth 20000 in
theorem ggX6_set_X6_minds : GoodIn wsX6_set wsX6_minds := goodIn_r _ [15, 16, 17, 18, 19, 6, 20, 3, 21, 22, 23, 24, 25, 26, 27, 28, 29, 30, 31, 32, 33, 34, 35, 36, 37, 38, 39, 40, 41, 42, 43, 44] (by decide +kernel) (by decide +kernel)
set_option maxRecDepth 20000 in
theorem gX6_set_X6_minds : GoodIn wsX6_set (wsV RX6 176 RX6 yX6_minds wsX6_minds) := goodIn_app (goodIn_of _ (by decide +kernel)) ggX6_set_X6_minds
theorem dX6_set_0 : decode cX6_set 0 = .ok (.iload_n 1, 1) := by decide +kernel
theorem dX6_set_1 : decode cX6_set 1 = .ok (.invokestatic 169, 3) := by decide +kernel
theorem dX6_set_4 : decode cX6_set 4 = .ok (.ifCond .ne 6, 3) := by decide +kernel
theorem dX6_set_7 : decode cX6_set 7 = .ok (.bipush (-2), 2) := by decide +kernel
theorem dX6_set_9 : decode cX6_set 9 = .ok (.ireturn, 1) := by decide +kernel
theorem dX6_set_10 : decode cX6_set 10 = .ok (.iload_n 2, 1) := by decide +kernel
theorem dX6_set_11 : decode cX6_set 11 = .ok (.i2l, 1) := by decide +kernel
theorem dX6_set_12 : decode cX6_set 12 = .ok (.ldc2_w 172, 3) := by decide +kernel
theorem dX6_set_15 : decode cX6_set 15 = .ok (.ldc2_w 174, 3) := by decide +kernel
theorem dX6_set_18 : decode cX6_set 18 = .ok (.invokestatic 54, 3) := by decide +kernel
theorem dX6_set_21 : decode cX6_set 21 = .ok (.ifCond .ne 6, 3) := by decide +kernel
theorem dX6_set_24 : decode cX6_set 24 = .ok (.bipush (-3), 2) := by decide +kernel
theorem dX6_set_26 : decode cX6_set 26 = .ok (.ireturn, 1) := by decide +kernel
theorem dX6_set_27 : decode cX6_set 27 = .ok (.aload_n 0, 1) := by decide +kernel
theorem dX6_set_28 : decode cX6_set 28 = .ok (.getfield 20, 3) := by decide +kernel
theorem dX6_set_31 : decode cX6_set 31 = .ok (.bipush 10, 2) := by decide +kernel
theorem dX6_set_33 : decode cX6_set 33 = .ok (.iload_n 1, 1) := by decide +kernel
theorem dX6_set_34 : decode cX6_set 34 = .ok (.iadd, 1) := by decide +kernel
theorem dX6_set_35 : decode cX6_set 35 = .ok (.iaload, 1) := by decide +kernel
theorem dX6_set_36 : decode cX6_set 36 = .ok (.istore_n 3, 1) := by decide +kernel
theorem dX6_set_37 : decode cX6_set 37 = .ok (.iload_n 3, 1) := by decide +kernel
theorem dX6_set_38 : decode cX6_set 38 = .ok (.iload_n 2, 1) := by decide +kernel
theorem dX6_set_39 : decode cX6_set 39 = .ok (.if_icmp .ne 6, 3) := by decide +kernel
theorem dX6_set_42 : decode cX6_set 42 = .ok (.bipush (-4), 2) := by decide +kernel
theorem dX6_set_44 : decode cX6_set 44 = .ok (.ireturn, 1) := by decide +kernel
theorem dX6_set_45 : decode cX6_set 45 = .ok (.aload_n 0, 1) := by decide +kernel
theorem dX6_set_46 : decode cX6_set 46 = .ok (.invokevirtual 176, 3) := by decide +kernel
theorem dX6_set_49 : decode cX6_set 49 = .ok (.aload_n 0, 1) := by decide +kernel
theorem dX6_set_50 : decode cX6_set 50 = .ok (.getfield 20, 3) := by decide +kernel
theorem dX6_set_53 : decode cX6_set 53 = .ok (.bipush 10, 2) := by decide +kernel
theorem dX6_set_55 : decode cX6_set 55 = .ok (.iload_n 1, 1) := by decide +kernel
theorem dX6_set_56 : decode cX6_set 56 = .ok (.iadd, 1) := by decide +kernel
theorem dX6_set_57 : decode cX6_set 57 = .ok (.iload_n 2, 1) := by decide +kernel
theorem dX6_set_58 : decode cX6_set 58 = .ok (.iastore, 1) := by decide +kernel
theorem dX6_set_59 : decode cX6_set 59 = .ok (.iload_n 3, 1) := by decide +kernel
theorem dX6_set_60 : decode cX6_set 60 = .ok (.bipush 100, 2) := by decide +kernel
theorem dX6_set_62 : decode cX6_set 62 = .ok (.iadd, 1) := by decide +kernel
theorem dX6_set_63 : decode cX6_set 63 = .ok (.ireturn, 1) := by decide +kernel
set_option maxRecDepth 20000 in
theorem ggX6_pull_X6_isThird : GoodIn wsX6_pull wsX6_isThird := goodIn_r _ [5, 6, 7, 8, 4, 9] (by decide +kernel) (by decide +kernel)
set_option maxRecDepth 20000 in
theorem gX6_pull_X6_isThird : GoodIn wsX6_pull (va_wsS RX6 169 yX6_isThird wsX6_isThird) := goodIn_app (goodIn_of _ (by decide +kernel)) ggX6_pull_X6_isThird
set_option maxRecDepth 20000 in
theorem ggX6_pull_X6_has : GoodIn wsX6_pull wsX6_has := goodIn_r _ [12] (by decide +kernel) (by decide +kernel)
set_option maxRecDepth 20000 in
theorem gX6_pull_X6_has : GoodIn wsX6_pull (va_wsS RX6 179 yX6_has wsX6_has) := goodIn_app (goodIn_of _ (by decide +kernel)) ggX6_pull_X6_has
set_option maxRecDepth 20000 in
theorem ggX6_pull_X6_minds : GoodIn wsX6_pull wsX6_minds := goodIn_r _ [16, 17, 18, 19, 20, 4, 21, 1, 22, 23, 24, 25, 26, 27, 28, 29, 30, 31, 32, 33, 34, 35, 36, 37, 38, 39, 40, 41, 42, 43, 44, 45] (by decide +kernel) (by decide +kernel)
set_option maxRecDepth 20000 in
theorem gX6_pull_X6_minds : GoodIn wsX6_pull (wsV RX6 176 RX6 yX6_minds wsX6_minds) := goodIn_app (goodIn_of _ (by decide +kernel)) ggX6_pull_X6_minds
theorem dX6_pull_0 : decode cX6_pull 0 = .ok (.iload_n 1, 1) := by decide +kernel
theorem dX6_pull_1 : decode cX6_pull 1 = .ok (.invokestatic 169, 3) := by decide +kernel
theorem dX6_pull_4 : decode cX6_pull 4 = .ok (.ifCond .ne 6, 3) := by decide +kernel
theorem dX6_pull_7 : decode cX6_pull 7 = .ok (.bipush (-2), 2) := by decide +kernel
theorem dX6_pull_9 : decode cX6_pull 9 = .ok (.ireturn, 1) := by decide +kernel
theorem dX6_pull_10 : decode cX6_pull 10 = .ok (.aload_n 0, 1) := by decide +kernel
theorem dX6_pull_11 : decode cX6_pull 11 = .ok (.getfield 20, 3) := by decide +kernel
theorem dX6_pull_14 : decode cX6_pull 14 = .ok (.bipush 13, 2) := by decide +kernel
theorem dX6_pull_16 : decode cX6_pull 16 = .ok (.iaload, 1) := by decide +kernel
theorem dX6_pull_17 : decode cX6_pull 17 = .ok (.iload_n 1, 1) := by decide +kernel
theorem dX6_pull_18 : decode cX6_pull 18 = .ok (.invokestatic 179, 3) := by decide +kernel
theorem dX6_pull_21 : decode cX6_pull 21 = .ok (.ifCond .eq 6, 3) := by decide +kernel
theorem dX6_pull_24 : decode cX6_pull 24 = .ok (.bipush (-4), 2) := by decide +kernel
theorem dX6_pull_26 : decode cX6_pull 26 = .ok (.ireturn, 1) := by decide +kernel
theorem dX6_pull_27 : decode cX6_pull 27 = .ok (.aload_n 0, 1) := by decide +kernel
theorem dX6_pull_28 : decode cX6_pull 28 = .ok (.invokevirtual 176, 3) := by decide +kernel
theorem dX6_pull_31 : decode cX6_pull 31 = .ok (.aload_n 0, 1) := by decide +kernel
theorem dX6_pull_32 : decode cX6_pull 32 = .ok (.getfield 20, 3) := by decide +kernel
theorem dX6_pull_35 : decode cX6_pull 35 = .ok (.bipush 13, 2) := by decide +kernel
theorem dX6_pull_37 : decode cX6_pull 37 = .ok (.dup2, 1) := by decide +kernel
theorem dX6_pull_38 : decode cX6_pull 38 = .ok (.iaload, 1) := by decide +kernel
theorem dX6_pull_39 : decode cX6_pull 39 = .ok (.iconst 1, 1) := by decide +kernel
theorem dX6_pull_40 : decode cX6_pull 40 = .ok (.iload_n 1, 1) := by decide +kernel
theorem dX6_pull_41 : decode cX6_pull 41 = .ok (.ishl, 1) := by decide +kernel
theorem dX6_pull_42 : decode cX6_pull 42 = .ok (.ior, 1) := by decide +kernel
theorem dX6_pull_43 : decode cX6_pull 43 = .ok (.iastore, 1) := by decide +kernel
theorem dX6_pull_44 : decode cX6_pull 44 = .ok (.iconst 1, 1) := by decide +kernel
theorem dX6_pull_45 : decode cX6_pull 45 = .ok (.ireturn, 1) := by decide +kernel
set_option maxRecDepth 20000 in
theorem ggX6_holds_X6_has : GoodIn wsX6_holds wsX6_has := goodIn_r _ [6] (by decide +kernel) (by decide +kernel)
set_option maxRecDepth 20000 in
theorem gX6_holds_X6_has : GoodIn wsX6_holds (va_wsS RX6 179 yX6_has wsX6_has) := goodIn_app (goodIn_of _ (by decide +kernel)) ggX6_holds_X6_has
theorem dX6_holds_0 : decode cX6_holds 0 = .ok (.bipush 14, 2) := by decide +kernel
theorem dX6_holds_2 : decode cX6_holds 2 = .ok (.iload_n 1, 1) := by decide +kernel
theorem dX6_holds_3 : decode cX6_holds 3 = .ok (.imul, 1) := by decide +kernel
theorem dX6_holds_4 : decode cX6_holds 4 = .ok (.istore 4, 2) := by decide +kernel
theorem dX6_holds_6 : decode cX6_holds 6 = .ok (.aload_n 0, 1) := by decide +kernel
theorem dX6_holds_7 : decode cX6_holds 7 = .ok (.getfield 17, 3) := by decide +kernel
theorem dX6_holds_10 : decode cX6_holds 10 = .ok (.bipush 8, 2) := by decide +kernel
theorem dX6_holds_12 : decode cX6_holds 12 = .ok (.iload_n 3, 1) := by decide +kernel
theorem dX6_holds_13 : decode cX6_holds 13 = .ok (.imul, 1) := by decide +kernel
theorem dX6_holds_14 : decode cX6_holds 14 = .ok (.iconst 5, 1) := by decide +kernel
theorem dX6_holds_15 : decode cX6_holds 15 = .ok (.iadd, 1) := by decide +kernel
theorem dX6_holds_16 : decode cX6_holds 16 = .ok (.iaload, 1) := by decide +kernel
theorem dX6_holds_17 : decode cX6_holds 17 = .ok (.istore 5, 2) := by decide +kernel
theorem dX6_holds_19 : decode cX6_holds 19 = .ok (.aload_n 0, 1) := by decide +kernel
theorem dX6_holds_20 : decode cX6_holds 20 = .ok (.getfield 17, 3) := by decide +kernel
theorem dX6_holds_23 : decode cX6_holds 23 = .ok (.bipush 8, 2) := by decide +kernel
theorem dX6_holds_25 : decode cX6_holds 25 = .ok (.iload_n 3, 1) := by decide +kernel
theorem dX6_holds_26 : decode cX6_holds 26 = .ok (.imul, 1) := by decide +kernel
theorem dX6_holds_27 : decode cX6_holds 27 = .ok (.bipush 6, 2) := by decide +kernel
theorem dX6_holds_29 : decode cX6_holds 29 = .ok (.iadd, 1) := by decide +kernel
theorem dX6_holds_30 : decode cX6_holds 30 = .ok (.iaload, 1) := by decide +kernel
theorem dX6_holds_31 : decode cX6_holds 31 = .ok (.istore 6, 2) := by decide +kernel
theorem dX6_holds_33 : decode cX6_holds 33 = .ok (.aload_n 0, 1) := by decide +kernel
theorem dX6_holds_34 : decode cX6_holds 34 = .ok (.getfield 17, 3) := by decide +kernel
theorem dX6_holds_37 : decode cX6_holds 37 = .ok (.bipush 8, 2) := by decide +kernel
theorem dX6_holds_39 : decode cX6_holds 39 = .ok (.iload_n 3, 1) := by decide +kernel
theorem dX6_holds_40 : decode cX6_holds 40 = .ok (.imul, 1) := by decide +kernel
theorem dX6_holds_41 : decode cX6_holds 41 = .ok (.iconst 4, 1) := by decide +kernel
theorem dX6_holds_42 : decode cX6_holds 42 = .ok (.iadd, 1) := by decide +kernel
theorem dX6_holds_43 : decode cX6_holds 43 = .ok (.iaload, 1) := by decide +kernel
theorem dX6_holds_44 : decode cX6_holds 44 = .ok (.tableswitch 100 0 2 #[28, 52, 76], 28) := by decide +kernel
theorem dX6_holds_72 : decode cX6_holds 72 = .ok (.aload_n 0, 1) := by decide +kernel
theorem dX6_holds_73 : decode cX6_holds 73 = .ok (.getfield 20, 3) := by decide +kernel
theorem dX6_holds_76 : decode cX6_holds 76 = .ok (.iload 4, 2) := by decide +kernel
theorem dX6_holds_78 : decode cX6_holds 78 = .ok (.iconst 5, 1) := by decide +kernel
theorem dX6_holds_79 : decode cX6_holds 79 = .ok (.iload_n 2, 1) := by decide +kernel
theorem dX6_holds_80 : decode cX6_holds 80 = .ok (.imul, 1) := by decide +kernel
theorem dX6_holds_81 : decode cX6_holds 81 = .ok (.iadd, 1) := by decide +kernel
theorem dX6_holds_82 : decode cX6_holds 82 = .ok (.iconst 1, 1) := by decide +kernel
theorem dX6_holds_83 : decode cX6_holds 83 = .ok (.iadd, 1) := by decide +kernel
theorem dX6_holds_84 : decode cX6_holds 84 = .ok (.iaload, 1) := by decide +kernel
theorem dX6_holds_85 : decode cX6_holds 85 = .ok (.iload 6, 2) := by decide +kernel
theorem dX6_holds_87 : decode cX6_holds 87 = .ok (.if_icmp .lt 7, 3) := by decide +kernel
theorem dX6_holds_90 : decode cX6_holds 90 = .ok (.iconst 1, 1) := by decide +kernel
theorem dX6_holds_91 : decode cX6_holds 91 = .ok (.goto 4, 3) := by decide +kernel
theorem dX6_holds_94 : decode cX6_holds 94 = .ok (.iconst 0, 1) := by decide +kernel
theorem dX6_holds_95 : decode cX6_holds 95 = .ok (.ireturn, 1) := by decide +kernel
theorem dX6_holds_96 : decode cX6_holds 96 = .ok (.aload_n 0, 1) := by decide +kernel
theorem dX6_holds_97 : decode cX6_holds 97 = .ok (.getfield 20, 3) := by decide +kernel
theorem dX6_holds_100 : decode cX6_holds 100 = .ok (.iload 4, 2) := by decide +kernel
theorem dX6_holds_102 : decode cX6_holds 102 = .ok (.bipush 10, 2) := by decide +kernel
theorem dX6_holds_104 : decode cX6_holds 104 = .ok (.iadd, 1) := by decide +kernel
theorem dX6_holds_105 : decode cX6_holds 105 = .ok (.iload 5, 2) := by decide +kernel
theorem dX6_holds_107 : decode cX6_holds 107 = .ok (.iadd, 1) := by decide +kernel
theorem dX6_holds_108 : decode cX6_holds 108 = .ok (.iaload, 1) := by decide +kernel
theorem dX6_holds_109 : decode cX6_holds 109 = .ok (.iload 6, 2) := by decide +kernel
theorem dX6_holds_111 : decode cX6_holds 111 = .ok (.if_icmp .le 7, 3) := by decide +kernel
theorem dX6_holds_114 : decode cX6_holds 114 = .ok (.iconst 1, 1) := by decide +kernel
theorem dX6_holds_115 : decode cX6_holds 115 = .ok (.goto 4, 3) := by decide +kernel
theorem dX6_holds_118 : decode cX6_holds 118 = .ok (.iconst 0, 1) := by decide +kernel
theorem dX6_holds_119 : decode cX6_holds 119 = .ok (.ireturn, 1) := by decide +kernel
theorem dX6_holds_120 : decode cX6_holds 120 = .ok (.aload_n 0, 1) := by decide +kernel
theorem dX6_holds_121 : decode cX6_holds 121 = .ok (.getfield 20, 3) := by decide +kernel
theorem dX6_holds_124 : decode cX6_holds 124 = .ok (.iload 4, 2) := by decide +kernel
theorem dX6_holds_126 : decode cX6_holds 126 = .ok (.bipush 10, 2) := by decide +kernel
theorem dX6_holds_128 : decode cX6_holds 128 = .ok (.iadd, 1) := by decide +kernel
theorem dX6_holds_129 : decode cX6_holds 129 = .ok (.iload 5, 2) := by decide +kernel
theorem dX6_holds_131 : decode cX6_holds 131 = .ok (.iadd, 1) := by decide +kernel
theorem dX6_holds_132 : decode cX6_holds 132 = .ok (.iaload, 1) := by decide +kernel
theorem dX6_holds_133 : decode cX6_holds 133 = .ok (.iload 6, 2) := by decide +kernel
theorem dX6_holds_135 : decode cX6_holds 135 = .ok (.if_icmp .ge 7, 3) := by decide +kernel
theorem dX6_holds_138 : decode cX6_holds 138 = .ok (.iconst 1, 1) := by decide +kernel
theorem dX6_holds_139 : decode cX6_holds 139 = .ok (.goto 4, 3) := by decide +kernel
theorem dX6_holds_142 : decode cX6_holds 142 = .ok (.iconst 0, 1) := by decide +kernel
theorem dX6_holds_143 : decode cX6_holds 143 = .ok (.ireturn, 1) := by decide +kernel
theorem dX6_holds_144 : decode cX6_holds 144 = .ok (.aload_n 0, 1) := by decide +kernel
theorem dX6_holds_145 : decode cX6_holds 145 = .ok (.getfield 20, 3) := by decide +kernel
theorem dX6_holds_148 : decode cX6_holds 148 = .ok (.iload 4, 2) := by decide +kernel
theorem dX6_holds_150 : decode cX6_holds 150 = .ok (.bipush 13, 2) := by decide +kernel
theorem dX6_holds_152 : decode cX6_holds 152 = .ok (.iadd, 1) := by decide +kernel
theorem dX6_holds_153 : decode cX6_holds 153 = .ok (.iaload, 1) := by decide +kernel
theorem dX6_holds_154 : decode cX6_holds 154 = .ok (.iload 5, 2) := by decide +kernel
theorem dX6_holds_156 : decode cX6_holds 156 = .ok (.invokestatic 179, 3) := by decide +kernel
theorem dX6_holds_159 : decode cX6_holds 159 = .ok (.ireturn, 1) := by decide +kernel
set_option maxRecDepth 20000 in
theorem ggX6_taken_X6_holds : GoodIn wsX6_taken wsX6_holds := goodIn_r _ [8, 3, 1, 9, 10, 7, 11, 12, 13, 14, 15, 16, 17, 18, 19, 20, 21, 22, 23, 24, 25, 26, 27, 28, 29, 30, 31, 32, 33, 34] (by decide +kernel) (by decide +kernel)
set_option maxRecDepth 20000 in
theorem gX6_taken_X6_holds : GoodIn wsX6_taken (wsV RX6 182 RX6 yX6_holds wsX6_holds) := goodIn_app (goodIn_of _ (by decide +kernel)) ggX6_taken_X6_holds
