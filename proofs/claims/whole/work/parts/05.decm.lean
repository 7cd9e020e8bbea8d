theorem dX11_init_0 : decode cX11_init 0 = .ok (.aload_n 0, 1) := by decide +kernel
theorem dX11_init_1 : decode cX11_init 1 = .ok (.invokespecial 1, 3) := by decide +kernel
theorem dX11_init_4 : decode cX11_init 4 = .ok (.aload_n 0, 1) := by decide +kernel
theorem dX11_init_5 : decode cX11_init 5 = .ok (.sipush 269, 3) := by decide +kernel
theorem dX11_init_8 : decode cX11_init 8 = .ok (.newarray .int, 2) := by decide +kernel
theorem dX11_init_10 : decode cX11_init 10 = .ok (.putfield 9, 3) := by decide +kernel
theorem dX11_init_13 : decode cX11_init 13 = .ok (.aload_n 0, 1) := by decide +kernel
theorem dX11_init_14 : decode cX11_init 14 = .ok (.sipush 269, 3) := by decide +kernel
theorem dX11_init_17 : decode cX11_init 17 = .ok (.newarray .int, 2) := by decide +kernel
theorem dX11_init_19 : decode cX11_init 19 = .ok (.putfield 13, 3) := by decide +kernel
theorem dX11_init_22 : decode cX11_init 22 = .ok (.aload_n 0, 1) := by decide +kernel
theorem dX11_init_23 : decode cX11_init 23 = .ok (.sipush 269, 3) := by decide +kernel
theorem dX11_init_26 : decode cX11_init 26 = .ok (.newarray .int, 2) := by decide +kernel
theorem dX11_init_28 : decode cX11_init 28 = .ok (.putfield 16, 3) := by decide +kernel
theorem dX11_init_31 : decode cX11_init 31 = .ok (.aload_n 0, 1) := by decide +kernel
theorem dX11_init_32 : decode cX11_init 32 = .ok (.sipush 2152, 3) := by decide +kernel
theorem dX11_init_35 : decode cX11_init 35 = .ok (.newarray .int, 2) := by decide +kernel
theorem dX11_init_37 : decode cX11_init 37 = .ok (.putfield 19, 3) := by decide +kernel
theorem dX11_init_40 : decode cX11_init 40 = .ok (.aload_n 0, 1) := by decide +kernel
theorem dX11_init_41 : decode cX11_init 41 = .ok (.iconst (-1), 1) := by decide +kernel
theorem dX11_init_42 : decode cX11_init 42 = .ok (.putfield 22, 3) := by decide +kernel
theorem dX11_init_45 : decode cX11_init 45 = .ok (.aload_n 0, 1) := by decide +kernel
theorem dX11_init_46 : decode cX11_init 46 = .ok (.iconst (-1), 1) := by decide +kernel
theorem dX11_init_47 : decode cX11_init 47 = .ok (.putfield 26, 3) := by decide +kernel
theorem dX11_init_50 : decode cX11_init 50 = .ok (.aload_n 0, 1) := by decide +kernel
theorem dX11_init_51 : decode cX11_init 51 = .ok (.bipush 60, 2) := by decide +kernel
theorem dX11_init_53 : decode cX11_init 53 = .ok (.newarray .int, 2) := by decide +kernel
theorem dX11_init_55 : decode cX11_init 55 = .ok (.putfield 29, 3) := by decide +kernel
theorem dX11_init_58 : decode cX11_init 58 = .ok (.aload_n 0, 1) := by decide +kernel
theorem dX11_init_59 : decode cX11_init 59 = .ok (.bipush 32, 2) := by decide +kernel
theorem dX11_init_61 : decode cX11_init 61 = .ok (.newarray .int, 2) := by decide +kernel
theorem dX11_init_63 : decode cX11_init 63 = .ok (.putfield 32, 3) := by decide +kernel
theorem dX11_init_66 : decode cX11_init 66 = .ok (.aload_n 0, 1) := by decide +kernel
theorem dX11_init_67 : decode cX11_init 67 = .ok (.sipush 576, 3) := by decide +kernel
theorem dX11_init_70 : decode cX11_init 70 = .ok (.newarray .int, 2) := by decide +kernel
theorem dX11_init_72 : decode cX11_init 72 = .ok (.putfield 35, 3) := by decide +kernel
theorem dX11_init_75 : decode cX11_init 75 = .ok (.aload_n 0, 1) := by decide +kernel
theorem dX11_init_76 : decode cX11_init 76 = .ok (.bipush 8, 2) := by decide +kernel
theorem dX11_init_78 : decode cX11_init 78 = .ok (.newarray .int, 2) := by decide +kernel
theorem dX11_init_80 : decode cX11_init 80 = .ok (.putfield 38, 3) := by decide +kernel
theorem dX11_init_83 : decode cX11_init 83 = .ok (.aload_n 0, 1) := by decide +kernel
theorem dX11_init_84 : decode cX11_init 84 = .ok (.sipush 2048, 3) := by decide +kernel
theorem dX11_init_87 : decode cX11_init 87 = .ok (.newarray .int, 2) := by decide +kernel
theorem dX11_init_89 : decode cX11_init 89 = .ok (.putfield 41, 3) := by decide +kernel
theorem dX11_init_92 : decode cX11_init 92 = .ok (.aload_n 0, 1) := by decide +kernel
theorem dX11_init_93 : decode cX11_init 93 = .ok (.bipush 59, 2) := by decide +kernel
theorem dX11_init_95 : decode cX11_init 95 = .ok (.newarray .char, 2) := by decide +kernel
theorem dX11_init_97 : decode cX11_init 97 = .ok (.dup, 1) := by decide +kernel
theorem dX11_init_98 : decode cX11_init 98 = .ok (.iconst 0, 1) := by decide +kernel
theorem dX11_init_99 : decode cX11_init 99 = .ok (.bipush 101, 2) := by decide +kernel
theorem dX11_init_101 : decode cX11_init 101 = .ok (.castore, 1) := by decide +kernel
theorem dX11_init_102 : decode cX11_init 102 = .ok (.dup, 1) := by decide +kernel
theorem dX11_init_103 : decode cX11_init 103 = .ok (.iconst 1, 1) := by decide +kernel
theorem dX11_init_104 : decode cX11_init 104 = .ok (.bipush 110, 2) := by decide +kernel
theorem dX11_init_106 : decode cX11_init 106 = .ok (.castore, 1) := by decide +kernel
theorem dX11_init_107 : decode cX11_init 107 = .ok (.dup, 1) := by decide +kernel
theorem dX11_init_108 : decode cX11_init 108 = .ok (.iconst 2, 1) := by decide +kernel
theorem dX11_init_109 : decode cX11_init 109 = .ok (.bipush 103, 2) := by decide +kernel
theorem dX11_init_111 : decode cX11_init 111 = .ok (.castore, 1) := by decide +kernel
theorem dX11_init_112 : decode cX11_init 112 = .ok (.dup, 1) := by decide +kernel
theorem dX11_init_113 : decode cX11_init 113 = .ok (.iconst 3, 1) := by decide +kernel
theorem dX11_init_114 : decode cX11_init 114 = .ok (.bipush 105, 2) := by decide +kernel
theorem dX11_init_116 : decode cX11_init 116 = .ok (.castore, 1) := by decide +kernel
theorem dX11_init_117 : decode cX11_init 117 = .ok (.dup, 1) := by decide +kernel
theorem dX11_init_118 : decode cX11_init 118 = .ok (.iconst 4, 1) := by decide +kernel
theorem dX11_init_119 : decode cX11_init 119 = .ok (.bipush 110, 2) := by decide +kernel
theorem dX11_init_121 : decode cX11_init 121 = .ok (.castore, 1) := by decide +kernel
theorem dX11_init_122 : decode cX11_init 122 = .ok (.dup, 1) := by decide +kernel
theorem dX11_init_123 : decode cX11_init 123 = .ok (.iconst 5, 1) := by decide +kernel
theorem dX11_init_124 : decode cX11_init 124 = .ok (.bipush 101, 2) := by decide +kernel
theorem dX11_init_126 : decode cX11_init 126 = .ok (.castore, 1) := by decide +kernel
theorem dX11_init_127 : decode cX11_init 127 = .ok (.dup, 1) := by decide +kernel
theorem dX11_init_128 : decode cX11_init 128 = .ok (.bipush 6, 2) := by decide +kernel
theorem dX11_init_130 : decode cX11_init 130 = .ok (.bipush 32, 2) := by decide +kernel
theorem dX11_init_132 : decode cX11_init 132 = .ok (.castore, 1) := by decide +kernel
theorem dX11_init_133 : decode cX11_init 133 = .ok (.dup, 1) := by decide +kernel
theorem dX11_init_134 : decode cX11_init 134 = .ok (.bipush 7, 2) := by decide +kernel
theorem dX11_init_136 : decode cX11_init 136 = .ok (.bipush 115, 2) := by decide +kernel
theorem dX11_init_138 : decode cX11_init 138 = .ok (.castore, 1) := by decide +kernel
theorem dX11_init_139 : decode cX11_init 139 = .ok (.dup, 1) := by decide +kernel
theorem dX11_init_140 : decode cX11_init 140 = .ok (.bipush 8, 2) := by decide +kernel
theorem dX11_init_142 : decode cX11_init 142 = .ok (.bipush 119, 2) := by decide +kernel
theorem dX11_init_144 : decode cX11_init 144 = .ok (.castore, 1) := by decide +kernel
theorem dX11_init_145 : decode cX11_init 145 = .ok (.dup, 1) := by decide +kernel
theorem dX11_init_146 : decode cX11_init 146 = .ok (.bipush 9, 2) := by decide +kernel
theorem dX11_init_148 : decode cX11_init 148 = .ok (.bipush 97, 2) := by decide +kernel
theorem dX11_init_150 : decode cX11_init 150 = .ok (.castore, 1) := by decide +kernel
theorem dX11_init_151 : decode cX11_init 151 = .ok (.dup, 1) := by decide +kernel
theorem dX11_init_152 : decode cX11_init 152 = .ok (.bipush 10, 2) := by decide +kernel
theorem dX11_init_154 : decode cX11_init 154 = .ok (.bipush 112, 2) := by decide +kernel
theorem dX11_init_156 : decode cX11_init 156 = .ok (.castore, 1) := by decide +kernel
theorem dX11_init_157 : decode cX11_init 157 = .ok (.dup, 1) := by decide +kernel
theorem dX11_init_158 : decode cX11_init 158 = .ok (.bipush 11, 2) := by decide +kernel
theorem dX11_init_160 : decode cX11_init 160 = .ok (.bipush 32, 2) := by decide +kernel
theorem dX11_init_162 : decode cX11_init 162 = .ok (.castore, 1) := by decide +kernel
theorem dX11_init_163 : decode cX11_init 163 = .ok (.dup, 1) := by decide +kernel
theorem dX11_init_164 : decode cX11_init 164 = .ok (.bipush 12, 2) := by decide +kernel
theorem dX11_init_166 : decode cX11_init 166 = .ok (.bipush 114, 2) := by decide +kernel
theorem dX11_init_168 : decode cX11_init 168 = .ok (.castore, 1) := by decide +kernel
theorem dX11_init_169 : decode cX11_init 169 = .ok (.dup, 1) := by decide +kernel
theorem dX11_init_170 : decode cX11_init 170 = .ok (.bipush 13, 2) := by decide +kernel
theorem dX11_init_172 : decode cX11_init 172 = .ok (.bipush 97, 2) := by decide +kernel
theorem dX11_init_174 : decode cX11_init 174 = .ok (.castore, 1) := by decide +kernel
theorem dX11_init_175 : decode cX11_init 175 = .ok (.dup, 1) := by decide +kernel
theorem dX11_init_176 : decode cX11_init 176 = .ok (.bipush 14, 2) := by decide +kernel
theorem dX11_init_178 : decode cX11_init 178 = .ok (.bipush 116, 2) := by decide +kernel
theorem dX11_init_180 : decode cX11_init 180 = .ok (.castore, 1) := by decide +kernel
theorem dX11_init_181 : decode cX11_init 181 = .ok (.dup, 1) := by decide +kernel
theorem dX11_init_182 : decode cX11_init 182 = .ok (.bipush 15, 2) := by decide +kernel
theorem dX11_init_184 : decode cX11_init 184 = .ok (.bipush 101, 2) := by decide +kernel
theorem dX11_init_186 : decode cX11_init 186 = .ok (.castore, 1) := by decide +kernel
theorem dX11_init_187 : decode cX11_init 187 = .ok (.dup, 1) := by decide +kernel
theorem dX11_init_188 : decode cX11_init 188 = .ok (.bipush 16, 2) := by decide +kernel
theorem dX11_init_190 : decode cX11_init 190 = .ok (.bipush 32, 2) := by decide +kernel
theorem dX11_init_192 : decode cX11_init 192 = .ok (.castore, 1) := by decide +kernel
theorem dX11_init_193 : decode cX11_init 193 = .ok (.dup, 1) := by decide +kernel
theorem dX11_init_194 : decode cX11_init 194 = .ok (.bipush 17, 2) := by decide +kernel
theorem dX11_init_196 : decode cX11_init 196 = .ok (.bipush 114, 2) := by decide +kernel
theorem dX11_init_198 : decode cX11_init 198 = .ok (.castore, 1) := by decide +kernel
theorem dX11_init_199 : decode cX11_init 199 = .ok (.dup, 1) := by decide +kernel
theorem dX11_init_200 : decode cX11_init 200 = .ok (.bipush 18, 2) := by decide +kernel
theorem dX11_init_202 : decode cX11_init 202 = .ok (.bipush 117, 2) := by decide +kernel
theorem dX11_init_204 : decode cX11_init 204 = .ok (.castore, 1) := by decide +kernel
theorem dX11_init_205 : decode cX11_init 205 = .ok (.dup, 1) := by decide +kernel
theorem dX11_init_206 : decode cX11_init 206 = .ok (.bipush 19, 2) := by decide +kernel
theorem dX11_init_208 : decode cX11_init 208 = .ok (.bipush 110, 2) := by decide +kernel
theorem dX11_init_210 : decode cX11_init 210 = .ok (.castore, 1) := by decide +kernel
theorem dX11_init_211 : decode cX11_init 211 = .ok (.dup, 1) := by decide +kernel
theorem dX11_init_212 : decode cX11_init 212 = .ok (.bipush 20, 2) := by decide +kernel
theorem dX11_init_214 : decode cX11_init 214 = .ok (.bipush 32, 2) := by decide +kernel
theorem dX11_init_216 : decode cX11_init 216 = .ok (.castore, 1) := by decide +kernel
theorem dX11_init_217 : decode cX11_init 217 = .ok (.dup, 1) := by decide +kernel
theorem dX11_init_218 : decode cX11_init 218 = .ok (.bipush 21, 2) := by decide +kernel
theorem dX11_init_220 : decode cX11_init 220 = .ok (.bipush 111, 2) := by decide +kernel
theorem dX11_init_222 : decode cX11_init 222 = .ok (.castore, 1) := by decide +kernel
theorem dX11_init_223 : decode cX11_init 223 = .ok (.dup, 1) := by decide +kernel
theorem dX11_init_224 : decode cX11_init 224 = .ok (.bipush 22, 2) := by decide +kernel
theorem dX11_init_226 : decode cX11_init 226 = .ok (.bipush 105, 2) := by decide +kernel
theorem dX11_init_228 : decode cX11_init 228 = .ok (.castore, 1) := by decide +kernel
theorem dX11_init_229 : decode cX11_init 229 = .ok (.dup, 1) := by decide +kernel
theorem dX11_init_230 : decode cX11_init 230 = .ok (.bipush 23, 2) := by decide +kernel
theorem dX11_init_232 : decode cX11_init 232 = .ok (.bipush 108, 2) := by decide +kernel
theorem dX11_init_234 : decode cX11_init 234 = .ok (.castore, 1) := by decide +kernel
theorem dX11_init_235 : decode cX11_init 235 = .ok (.dup, 1) := by decide +kernel
theorem dX11_init_236 : decode cX11_init 236 = .ok (.bipush 24, 2) := by decide +kernel
theorem dX11_init_238 : decode cX11_init 238 = .ok (.bipush 32, 2) := by decide +kernel
theorem dX11_init_240 : decode cX11_init 240 = .ok (.castore, 1) := by decide +kernel
theorem dX11_init_241 : decode cX11_init 241 = .ok (.dup, 1) := by decide +kernel
theorem dX11_init_242 : decode cX11_init 242 = .ok (.bipush 25, 2) := by decide +kernel
theorem dX11_init_244 : decode cX11_init 244 = .ok (.bipush 102, 2) := by decide +kernel
theorem dX11_init_246 : decode cX11_init 246 = .ok (.castore, 1) := by decide +kernel
theorem dX11_init_247 : decode cX11_init 247 = .ok (.dup, 1) := by decide +kernel
theorem dX11_init_248 : decode cX11_init 248 = .ok (.bipush 26, 2) := by decide +kernel
theorem dX11_init_250 : decode cX11_init 250 = .ok (.bipush 105, 2) := by decide +kernel
theorem dX11_init_252 : decode cX11_init 252 = .ok (.castore, 1) := by decide +kernel
theorem dX11_init_253 : decode cX11_init 253 = .ok (.dup, 1) := by decide +kernel
theorem dX11_init_254 : decode cX11_init 254 = .ok (.bipush 27, 2) := by decide +kernel
theorem dX11_init_256 : decode cX11_init 256 = .ok (.bipush 108, 2) := by decide +kernel
theorem dX11_init_258 : decode cX11_init 258 = .ok (.castore, 1) := by decide +kernel
theorem dX11_init_259 : decode cX11_init 259 = .ok (.dup, 1) := by decide +kernel
theorem dX11_init_260 : decode cX11_init 260 = .ok (.bipush 28, 2) := by decide +kernel
theorem dX11_init_262 : decode cX11_init 262 = .ok (.bipush 108, 2) := by decide +kernel
theorem dX11_init_264 : decode cX11_init 264 = .ok (.castore, 1) := by decide +kernel
theorem dX11_init_265 : decode cX11_init 265 = .ok (.dup, 1) := by decide +kernel
theorem dX11_init_266 : decode cX11_init 266 = .ok (.bipush 29, 2) := by decide +kernel
theorem dX11_init_268 : decode cX11_init 268 = .ok (.bipush 32, 2) := by decide +kernel
theorem dX11_init_270 : decode cX11_init 270 = .ok (.castore, 1) := by decide +kernel
theorem dX11_init_271 : decode cX11_init 271 = .ok (.dup, 1) := by decide +kernel
theorem dX11_init_272 : decode cX11_init 272 = .ok (.bipush 30, 2) := by decide +kernel
theorem dX11_init_274 : decode cX11_init 274 = .ok (.bipush 98, 2) := by decide +kernel
theorem dX11_init_276 : decode cX11_init 276 = .ok (.castore, 1) := by decide +kernel
theorem dX11_init_277 : decode cX11_init 277 = .ok (.dup, 1) := by decide +kernel
theorem dX11_init_278 : decode cX11_init 278 = .ok (.bipush 31, 2) := by decide +kernel
theorem dX11_init_280 : decode cX11_init 280 = .ok (.bipush 117, 2) := by decide +kernel
theorem dX11_init_282 : decode cX11_init 282 = .ok (.castore, 1) := by decide +kernel
theorem dX11_init_283 : decode cX11_init 283 = .ok (.dup, 1) := by decide +kernel
theorem dX11_init_284 : decode cX11_init 284 = .ok (.bipush 32, 2) := by decide +kernel
theorem dX11_init_286 : decode cX11_init 286 = .ok (.bipush 121, 2) := by decide +kernel
theorem dX11_init_288 : decode cX11_init 288 = .ok (.castore, 1) := by decide +kernel
theorem dX11_init_289 : decode cX11_init 289 = .ok (.dup, 1) := by decide +kernel
theorem dX11_init_290 : decode cX11_init 290 = .ok (.bipush 33, 2) := by decide +kernel
theorem dX11_init_292 : decode cX11_init 292 = .ok (.bipush 32, 2) := by decide +kernel
theorem dX11_init_294 : decode cX11_init 294 = .ok (.castore, 1) := by decide +kernel
theorem dX11_init_295 : decode cX11_init 295 = .ok (.dup, 1) := by decide +kernel
theorem dX11_init_296 : decode cX11_init 296 = .ok (.bipush 34, 2) := by decide +kernel
theorem dX11_init_298 : decode cX11_init 298 = .ok (.bipush 109, 2) := by decide +kernel
theorem dX11_init_300 : decode cX11_init 300 = .ok (.castore, 1) := by decide +kernel
theorem dX11_init_301 : decode cX11_init 301 = .ok (.dup, 1) := by decide +kernel
theorem dX11_init_302 : decode cX11_init 302 = .ok (.bipush 35, 2) := by decide +kernel
theorem dX11_init_304 : decode cX11_init 304 = .ok (.bipush 111, 2) := by decide +kernel
theorem dX11_init_306 : decode cX11_init 306 = .ok (.castore, 1) := by decide +kernel
theorem dX11_init_307 : decode cX11_init 307 = .ok (.dup, 1) := by decide +kernel
theorem dX11_init_308 : decode cX11_init 308 = .ok (.bipush 36, 2) := by decide +kernel
theorem dX11_init_310 : decode cX11_init 310 = .ok (.bipush 110, 2) := by decide +kernel
theorem dX11_init_312 : decode cX11_init 312 = .ok (.castore, 1) := by decide +kernel
theorem dX11_init_313 : decode cX11_init 313 = .ok (.dup, 1) := by decide +kernel
theorem dX11_init_314 : decode cX11_init 314 = .ok (.bipush 37, 2) := by decide +kernel
theorem dX11_init_316 : decode cX11_init 316 = .ok (.bipush 107, 2) := by decide +kernel
theorem dX11_init_318 : decode cX11_init 318 = .ok (.castore, 1) := by decide +kernel
theorem dX11_init_319 : decode cX11_init 319 = .ok (.dup, 1) := by decide +kernel
theorem dX11_init_320 : decode cX11_init 320 = .ok (.bipush 38, 2) := by decide +kernel
theorem dX11_init_322 : decode cX11_init 322 = .ok (.bipush 97, 2) := by decide +kernel
theorem dX11_init_324 : decode cX11_init 324 = .ok (.castore, 1) := by decide +kernel
theorem dX11_init_325 : decode cX11_init 325 = .ok (.dup, 1) := by decide +kernel
theorem dX11_init_326 : decode cX11_init 326 = .ok (.bipush 39, 2) := by decide +kernel
theorem dX11_init_328 : decode cX11_init 328 = .ok (.bipush 98, 2) := by decide +kernel
theorem dX11_init_330 : decode cX11_init 330 = .ok (.castore, 1) := by decide +kernel
theorem dX11_init_331 : decode cX11_init 331 = .ok (.dup, 1) := by decide +kernel
theorem dX11_init_332 : decode cX11_init 332 = .ok (.bipush 40, 2) := by decide +kernel
theorem dX11_init_334 : decode cX11_init 334 = .ok (.bipush 108, 2) := by decide +kernel
theorem dX11_init_336 : decode cX11_init 336 = .ok (.castore, 1) := by decide +kernel
theorem dX11_init_337 : decode cX11_init 337 = .ok (.dup, 1) := by decide +kernel
theorem dX11_init_338 : decode cX11_init 338 = .ok (.bipush 41, 2) := by decide +kernel
theorem dX11_init_340 : decode cX11_init 340 = .ok (.bipush 101, 2) := by decide +kernel
theorem dX11_init_342 : decode cX11_init 342 = .ok (.castore, 1) := by decide +kernel
theorem dX11_init_343 : decode cX11_init 343 = .ok (.dup, 1) := by decide +kernel
theorem dX11_init_344 : decode cX11_init 344 = .ok (.bipush 42, 2) := by decide +kernel
theorem dX11_init_346 : decode cX11_init 346 = .ok (.bipush 32, 2) := by decide +kernel
theorem dX11_init_348 : decode cX11_init 348 = .ok (.castore, 1) := by decide +kernel
theorem dX11_init_349 : decode cX11_init 349 = .ok (.dup, 1) := by decide +kernel
theorem dX11_init_350 : decode cX11_init 350 = .ok (.bipush 43, 2) := by decide +kernel
theorem dX11_init_352 : decode cX11_init 352 = .ok (.bipush 109, 2) := by decide +kernel
theorem dX11_init_354 : decode cX11_init 354 = .ok (.castore, 1) := by decide +kernel
theorem dX11_init_355 : decode cX11_init 355 = .ok (.dup, 1) := by decide +kernel
theorem dX11_init_356 : decode cX11_init 356 = .ok (.bipush 44, 2) := by decide +kernel
theorem dX11_init_358 : decode cX11_init 358 = .ok (.bipush 101, 2) := by decide +kernel
theorem dX11_init_360 : decode cX11_init 360 = .ok (.castore, 1) := by decide +kernel
theorem dX11_init_361 : decode cX11_init 361 = .ok (.dup, 1) := by decide +kernel
theorem dX11_init_362 : decode cX11_init 362 = .ok (.bipush 45, 2) := by decide +kernel
theorem dX11_init_364 : decode cX11_init 364 = .ok (.bipush 110, 2) := by decide +kernel
theorem dX11_init_366 : decode cX11_init 366 = .ok (.castore, 1) := by decide +kernel
theorem dX11_init_367 : decode cX11_init 367 = .ok (.dup, 1) := by decide +kernel
theorem dX11_init_368 : decode cX11_init 368 = .ok (.bipush 46, 2) := by decide +kernel
theorem dX11_init_370 : decode cX11_init 370 = .ok (.bipush 100, 2) := by decide +kernel
theorem dX11_init_372 : decode cX11_init 372 = .ok (.castore, 1) := by decide +kernel
theorem dX11_init_373 : decode cX11_init 373 = .ok (.dup, 1) := by decide +kernel
theorem dX11_init_374 : decode cX11_init 374 = .ok (.bipush 47, 2) := by decide +kernel
theorem dX11_init_376 : decode cX11_init 376 = .ok (.bipush 32, 2) := by decide +kernel
theorem dX11_init_378 : decode cX11_init 378 = .ok (.castore, 1) := by decide +kernel
theorem dX11_init_379 : decode cX11_init 379 = .ok (.dup, 1) := by decide +kernel
theorem dX11_init_380 : decode cX11_init 380 = .ok (.bipush 48, 2) := by decide +kernel
theorem dX11_init_382 : decode cX11_init 382 = .ok (.bipush 114, 2) := by decide +kernel
theorem dX11_init_384 : decode cX11_init 384 = .ok (.castore, 1) := by decide +kernel
theorem dX11_init_385 : decode cX11_init 385 = .ok (.dup, 1) := by decide +kernel
theorem dX11_init_386 : decode cX11_init 386 = .ok (.bipush 49, 2) := by decide +kernel
theorem dX11_init_388 : decode cX11_init 388 = .ok (.bipush 101, 2) := by decide +kernel
theorem dX11_init_390 : decode cX11_init 390 = .ok (.castore, 1) := by decide +kernel
theorem dX11_init_391 : decode cX11_init 391 = .ok (.dup, 1) := by decide +kernel
theorem dX11_init_392 : decode cX11_init 392 = .ok (.bipush 50, 2) := by decide +kernel
theorem dX11_init_394 : decode cX11_init 394 = .ok (.bipush 112, 2) := by decide +kernel
theorem dX11_init_396 : decode cX11_init 396 = .ok (.castore, 1) := by decide +kernel
theorem dX11_init_397 : decode cX11_init 397 = .ok (.dup, 1) := by decide +kernel
theorem dX11_init_398 : decode cX11_init 398 = .ok (.bipush 51, 2) := by decide +kernel
theorem dX11_init_400 : decode cX11_init 400 = .ok (.bipush 97, 2) := by decide +kernel
theorem dX11_init_402 : decode cX11_init 402 = .ok (.castore, 1) := by decide +kernel
theorem dX11_init_403 : decode cX11_init 403 = .ok (.dup, 1) := by decide +kernel
theorem dX11_init_404 : decode cX11_init 404 = .ok (.bipush 52, 2) := by decide +kernel
theorem dX11_init_406 : decode cX11_init 406 = .ok (.bipush 105, 2) := by decide +kernel
theorem dX11_init_408 : decode cX11_init 408 = .ok (.castore, 1) := by decide +kernel
theorem dX11_init_409 : decode cX11_init 409 = .ok (.dup, 1) := by decide +kernel
theorem dX11_init_410 : decode cX11_init 410 = .ok (.bipush 53, 2) := by decide +kernel
theorem dX11_init_412 : decode cX11_init 412 = .ok (.bipush 114, 2) := by decide +kernel
theorem dX11_init_414 : decode cX11_init 414 = .ok (.castore, 1) := by decide +kernel
theorem dX11_init_415 : decode cX11_init 415 = .ok (.dup, 1) := by decide +kernel
theorem dX11_init_416 : decode cX11_init 416 = .ok (.bipush 54, 2) := by decide +kernel
theorem dX11_init_418 : decode cX11_init 418 = .ok (.bipush 112, 2) := by decide +kernel
theorem dX11_init_420 : decode cX11_init 420 = .ok (.castore, 1) := by decide +kernel
theorem dX11_init_421 : decode cX11_init 421 = .ok (.dup, 1) := by decide +kernel
theorem dX11_init_422 : decode cX11_init 422 = .ok (.bipush 55, 2) := by decide +kernel
theorem dX11_init_424 : decode cX11_init 424 = .ok (.bipush 97, 2) := by decide +kernel
theorem dX11_init_426 : decode cX11_init 426 = .ok (.castore, 1) := by decide +kernel
theorem dX11_init_427 : decode cX11_init 427 = .ok (.dup, 1) := by decide +kernel
theorem dX11_init_428 : decode cX11_init 428 = .ok (.bipush 56, 2) := by decide +kernel
theorem dX11_init_430 : decode cX11_init 430 = .ok (.bipush 115, 2) := by decide +kernel
theorem dX11_init_432 : decode cX11_init 432 = .ok (.castore, 1) := by decide +kernel
theorem dX11_init_433 : decode cX11_init 433 = .ok (.dup, 1) := by decide +kernel
theorem dX11_init_434 : decode cX11_init 434 = .ok (.bipush 57, 2) := by decide +kernel
theorem dX11_init_436 : decode cX11_init 436 = .ok (.bipush 115, 2) := by decide +kernel
theorem dX11_init_438 : decode cX11_init 438 = .ok (.castore, 1) := by decide +kernel
theorem dX11_init_439 : decode cX11_init 439 = .ok (.dup, 1) := by decide +kernel
theorem dX11_init_440 : decode cX11_init 440 = .ok (.bipush 58, 2) := by decide +kernel
theorem dX11_init_442 : decode cX11_init 442 = .ok (.bipush 32, 2) := by decide +kernel
theorem dX11_init_444 : decode cX11_init 444 = .ok (.castore, 1) := by decide +kernel
theorem dX11_init_445 : decode cX11_init 445 = .ok (.putfield 44, 3) := by decide +kernel
theorem dX11_init_448 : decode cX11_init 448 = .ok (.aload_n 0, 1) := by decide +kernel
theorem dX11_init_449 : decode cX11_init 449 = .ok (.bipush 13, 2) := by decide +kernel
theorem dX11_init_451 : decode cX11_init 451 = .ok (.newarray .int, 2) := by decide +kernel
theorem dX11_init_453 : decode cX11_init 453 = .ok (.dup, 1) := by decide +kernel
theorem dX11_init_454 : decode cX11_init 454 = .ok (.iconst 0, 1) := by decide +kernel
theorem dX11_init_455 : decode cX11_init 455 = .ok (.iconst 0, 1) := by decide +kernel
theorem dX11_init_456 : decode cX11_init 456 = .ok (.iastore, 1) := by decide +kernel
theorem dX11_init_457 : decode cX11_init 457 = .ok (.dup, 1) := by decide +kernel
theorem dX11_init_458 : decode cX11_init 458 = .ok (.iconst 1, 1) := by decide +kernel
theorem dX11_init_459 : decode cX11_init 459 = .ok (.bipush 7, 2) := by decide +kernel
theorem dX11_init_461 : decode cX11_init 461 = .ok (.iastore, 1) := by decide +kernel
theorem dX11_init_462 : decode cX11_init 462 = .ok (.dup, 1) := by decide +kernel
theorem dX11_init_463 : decode cX11_init 463 = .ok (.iconst 2, 1) := by decide +kernel
theorem dX11_init_464 : decode cX11_init 464 = .ok (.bipush 12, 2) := by decide +kernel
theorem dX11_init_466 : decode cX11_init 466 = .ok (.iastore, 1) := by decide +kernel
theorem dX11_init_467 : decode cX11_init 467 = .ok (.dup, 1) := by decide +kernel
theorem dX11_init_468 : decode cX11_init 468 = .ok (.iconst 3, 1) := by decide +kernel
theorem dX11_init_469 : decode cX11_init 469 = .ok (.bipush 17, 2) := by decide +kernel
theorem dX11_init_471 : decode cX11_init 471 = .ok (.iastore, 1) := by decide +kernel
theorem dX11_init_472 : decode cX11_init 472 = .ok (.dup, 1) := by decide +kernel
theorem dX11_init_473 : decode cX11_init 473 = .ok (.iconst 4, 1) := by decide +kernel
theorem dX11_init_474 : decode cX11_init 474 = .ok (.bipush 21, 2) := by decide +kernel
theorem dX11_init_476 : decode cX11_init 476 = .ok (.iastore, 1) := by decide +kernel
theorem dX11_init_477 : decode cX11_init 477 = .ok (.dup, 1) := by decide +kernel
theorem dX11_init_478 : decode cX11_init 478 = .ok (.iconst 5, 1) := by decide +kernel
theorem dX11_init_479 : decode cX11_init 479 = .ok (.bipush 25, 2) := by decide +kernel
theorem dX11_init_481 : decode cX11_init 481 = .ok (.iastore, 1) := by decide +kernel
theorem dX11_init_482 : decode cX11_init 482 = .ok (.dup, 1) := by decide +kernel
theorem dX11_init_483 : decode cX11_init 483 = .ok (.bipush 6, 2) := by decide +kernel
theorem dX11_init_485 : decode cX11_init 485 = .ok (.bipush 30, 2) := by decide +kernel
theorem dX11_init_487 : decode cX11_init 487 = .ok (.iastore, 1) := by decide +kernel
theorem dX11_init_488 : decode cX11_init 488 = .ok (.dup, 1) := by decide +kernel
theorem dX11_init_489 : decode cX11_init 489 = .ok (.bipush 7, 2) := by decide +kernel
theorem dX11_init_491 : decode cX11_init 491 = .ok (.bipush 34, 2) := by decide +kernel
theorem dX11_init_493 : decode cX11_init 493 = .ok (.iastore, 1) := by decide +kernel
theorem dX11_init_494 : decode cX11_init 494 = .ok (.dup, 1) := by decide +kernel
theorem dX11_init_495 : decode cX11_init 495 = .ok (.bipush 8, 2) := by decide +kernel
theorem dX11_init_497 : decode cX11_init 497 = .ok (.bipush 38, 2) := by decide +kernel
theorem dX11_init_499 : decode cX11_init 499 = .ok (.iastore, 1) := by decide +kernel
theorem dX11_init_500 : decode cX11_init 500 = .ok (.dup, 1) := by decide +kernel
theorem dX11_init_501 : decode cX11_init 501 = .ok (.bipush 9, 2) := by decide +kernel
theorem dX11_init_503 : decode cX11_init 503 = .ok (.bipush 43, 2) := by decide +kernel
theorem dX11_init_505 : decode cX11_init 505 = .ok (.iastore, 1) := by decide +kernel
theorem dX11_init_506 : decode cX11_init 506 = .ok (.dup, 1) := by decide +kernel
theorem dX11_init_507 : decode cX11_init 507 = .ok (.bipush 10, 2) := by decide +kernel
theorem dX11_init_509 : decode cX11_init 509 = .ok (.bipush 48, 2) := by decide +kernel
theorem dX11_init_511 : decode cX11_init 511 = .ok (.iastore, 1) := by decide +kernel
theorem dX11_init_512 : decode cX11_init 512 = .ok (.dup, 1) := by decide +kernel
theorem dX11_init_513 : decode cX11_init 513 = .ok (.bipush 11, 2) := by decide +kernel
theorem dX11_init_515 : decode cX11_init 515 = .ok (.bipush 54, 2) := by decide +kernel
theorem dX11_init_517 : decode cX11_init 517 = .ok (.iastore, 1) := by decide +kernel
theorem dX11_init_518 : decode cX11_init 518 = .ok (.dup, 1) := by decide +kernel
theorem dX11_init_519 : decode cX11_init 519 = .ok (.bipush 12, 2) := by decide +kernel
theorem dX11_init_521 : decode cX11_init 521 = .ok (.bipush 59, 2) := by decide +kernel
theorem dX11_init_523 : decode cX11_init 523 = .ok (.iastore, 1) := by decide +kernel
theorem dX11_init_524 : decode cX11_init 524 = .ok (.putfield 48, 3) := by decide +kernel
theorem dX11_init_527 : decode cX11_init 527 = .ok (.aload_n 0, 1) := by decide +kernel
theorem dX11_init_528 : decode cX11_init 528 = .ok (.sipush 244, 3) := by decide +kernel
theorem dX11_init_531 : decode cX11_init 531 = .ok (.newarray .int, 2) := by decide +kernel
theorem dX11_init_533 : decode cX11_init 533 = .ok (.putfield 51, 3) := by decide +kernel
theorem dX11_init_536 : decode cX11_init 536 = .ok (.aload_n 0, 1) := by decide +kernel
theorem dX11_init_537 : decode cX11_init 537 = .ok (.bipush 40, 2) := by decide +kernel
theorem dX11_init_539 : decode cX11_init 539 = .ok (.newarray .int, 2) := by decide +kernel
theorem dX11_init_541 : decode cX11_init 541 = .ok (.putfield 54, 3) := by decide +kernel
theorem dX11_init_544 : decode cX11_init 544 = .ok (.aload_n 0, 1) := by decide +kernel
theorem dX11_init_545 : decode cX11_init 545 = .ok (.getfield 9, 3) := by decide +kernel
theorem dX11_init_548 : decode cX11_init 548 = .ok (.iconst 2, 1) := by decide +kernel
theorem dX11_init_549 : decode cX11_init 549 = .ok (.bipush 20, 2) := by decide +kernel
theorem dX11_init_551 : decode cX11_init 551 = .ok (.iastore, 1) := by decide +kernel
theorem dX11_init_552 : decode cX11_init 552 = .ok (.return_, 1) := by decide +kernel
theorem dX11_thrown_0 : decode cX11_thrown 0 = .ok (.aload_n 0, 1) := by decide +kernel
theorem dX11_thrown_1 : decode cX11_thrown 1 = .ok (.getfield 57, 3) := by decide +kernel
theorem dX11_thrown_4 : decode cX11_thrown 4 = .ok (.ireturn, 1) := by decide +kernel
theorem dX11_throwing_0 : decode cX11_throwing 0 = .ok (.aload_n 0, 1) := by decide +kernel
theorem dX11_throwing_1 : decode cX11_throwing 1 = .ok (.iload_n 1, 1) := by decide +kernel
theorem dX11_throwing_2 : decode cX11_throwing 2 = .ok (.putfield 57, 3) := by decide +kernel
theorem dX11_throwing_5 : decode cX11_throwing 5 = .ok (.iconst (-1), 1) := by decide +kernel
theorem dX11_throwing_6 : decode cX11_throwing 6 = .ok (.ireturn, 1) := by decide +kernel
theorem dX11_in_0 : decode cX11_in 0 = .ok (.lload_n 0, 1) := by decide +kernel
theorem dX11_in_1 : decode cX11_in 1 = .ok (.lload_n 2, 1) := by decide +kernel
theorem dX11_in_2 : decode cX11_in 2 = .ok (.lcmp, 1) := by decide +kernel
theorem dX11_in_3 : decode cX11_in 3 = .ok (.ifCond .lt 14, 3) := by decide +kernel
theorem dX11_in_6 : decode cX11_in 6 = .ok (.lload_n 0, 1) := by decide +kernel
theorem dX11_in_7 : decode cX11_in 7 = .ok (.lload 4, 2) := by decide +kernel
theorem dX11_in_9 : decode cX11_in 9 = .ok (.lcmp, 1) := by decide +kernel
theorem dX11_in_10 : decode cX11_in 10 = .ok (.ifCond .gt 7, 3) := by decide +kernel
theorem dX11_in_13 : decode cX11_in 13 = .ok (.iconst 1, 1) := by decide +kernel
theorem dX11_in_14 : decode cX11_in 14 = .ok (.goto 4, 3) := by decide +kernel
theorem dX11_in_17 : decode cX11_in 17 = .ok (.iconst 0, 1) := by decide +kernel
theorem dX11_in_18 : decode cX11_in 18 = .ok (.ireturn, 1) := by decide +kernel
theorem dX11_starts_0 : decode cX11_starts 0 = .ok (.aload_n 0, 1) := by decide +kernel
theorem dX11_starts_1 : decode cX11_starts 1 = .ok (.iconst 0, 1) := by decide +kernel
theorem dX11_starts_2 : decode cX11_starts 2 = .ok (.putfield 57, 3) := by decide +kernel
theorem dX11_starts_5 : decode cX11_starts 5 = .ok (.iconst 0, 1) := by decide +kernel
theorem dX11_starts_6 : decode cX11_starts 6 = .ok (.istore_n 1, 1) := by decide +kernel
theorem dX11_starts_7 : decode cX11_starts 7 = .ok (.iload_n 1, 1) := by decide +kernel
theorem dX11_starts_8 : decode cX11_starts 8 = .ok (.sipush 269, 3) := by decide +kernel
theorem dX11_starts_11 : decode cX11_starts 11 = .ok (.if_icmp .ge 21, 3) := by decide +kernel
theorem dX11_starts_14 : decode cX11_starts 14 = .ok (.aload_n 0, 1) := by decide +kernel
theorem dX11_starts_15 : decode cX11_starts 15 = .ok (.getfield 13, 3) := by decide +kernel
theorem dX11_starts_18 : decode cX11_starts 18 = .ok (.iload_n 1, 1) := by decide +kernel
theorem dX11_starts_19 : decode cX11_starts 19 = .ok (.aload_n 0, 1) := by decide +kernel
theorem dX11_starts_20 : decode cX11_starts 20 = .ok (.getfield 9, 3) := by decide +kernel
theorem dX11_starts_23 : decode cX11_starts 23 = .ok (.iload_n 1, 1) := by decide +kernel
theorem dX11_starts_24 : decode cX11_starts 24 = .ok (.iaload, 1) := by decide +kernel
theorem dX11_starts_25 : decode cX11_starts 25 = .ok (.iastore, 1) := by decide +kernel
theorem dX11_starts_26 : decode cX11_starts 26 = .ok (.iinc 1 1, 3) := by decide +kernel
theorem dX11_starts_29 : decode cX11_starts 29 = .ok (.goto (-22), 3) := by decide +kernel
theorem dX11_starts_32 : decode cX11_starts 32 = .ok (.return_, 1) := by decide +kernel
theorem dX11_changed_0 : decode cX11_changed 0 = .ok (.aload_n 0, 1) := by decide +kernel
theorem dX11_changed_1 : decode cX11_changed 1 = .ok (.getfield 57, 3) := by decide +kernel
theorem dX11_changed_4 : decode cX11_changed 4 = .ok (.ifCond .le 5, 3) := by decide +kernel
theorem dX11_changed_7 : decode cX11_changed 7 = .ok (.iload_n 1, 1) := by decide +kernel
theorem dX11_changed_8 : decode cX11_changed 8 = .ok (.ireturn, 1) := by decide +kernel
theorem dX11_changed_9 : decode cX11_changed 9 = .ok (.aload_n 0, 1) := by decide +kernel
theorem dX11_changed_10 : decode cX11_changed 10 = .ok (.getfield 60, 3) := by decide +kernel
theorem dX11_changed_13 : decode cX11_changed 13 = .ok (.bipush 8, 2) := by decide +kernel
theorem dX11_changed_15 : decode cX11_changed 15 = .ok (.if_icmp .ne 44, 3) := by decide +kernel
theorem dX11_changed_18 : decode cX11_changed 18 = .ok (.iconst 0, 1) := by decide +kernel
theorem dX11_changed_19 : decode cX11_changed 19 = .ok (.istore_n 2, 1) := by decide +kernel
theorem dX11_changed_20 : decode cX11_changed 20 = .ok (.iload_n 2, 1) := by decide +kernel
theorem dX11_changed_21 : decode cX11_changed 21 = .ok (.sipush 1883, 3) := by decide +kernel
theorem dX11_changed_24 : decode cX11_changed 24 = .ok (.if_icmp .ge 25, 3) := by decide +kernel
theorem dX11_changed_27 : decode cX11_changed 27 = .ok (.aload_n 0, 1) := by decide +kernel
theorem dX11_changed_28 : decode cX11_changed 28 = .ok (.getfield 19, 3) := by decide +kernel
theorem dX11_changed_31 : decode cX11_changed 31 = .ok (.iload_n 2, 1) := by decide +kernel
theorem dX11_changed_32 : decode cX11_changed 32 = .ok (.aload_n 0, 1) := by decide +kernel
theorem dX11_changed_33 : decode cX11_changed 33 = .ok (.getfield 19, 3) := by decide +kernel
theorem dX11_changed_36 : decode cX11_changed 36 = .ok (.iload_n 2, 1) := by decide +kernel
theorem dX11_changed_37 : decode cX11_changed 37 = .ok (.sipush 269, 3) := by decide +kernel
theorem dX11_changed_40 : decode cX11_changed 40 = .ok (.iadd, 1) := by decide +kernel
theorem dX11_changed_41 : decode cX11_changed 41 = .ok (.iaload, 1) := by decide +kernel
theorem dX11_changed_42 : decode cX11_changed 42 = .ok (.iastore, 1) := by decide +kernel
theorem dX11_changed_43 : decode cX11_changed 43 = .ok (.iinc 2 1, 3) := by decide +kernel
theorem dX11_changed_46 : decode cX11_changed 46 = .ok (.goto (-26), 3) := by decide +kernel
theorem dX11_changed_49 : decode cX11_changed 49 = .ok (.aload_n 0, 1) := by decide +kernel
theorem dX11_changed_50 : decode cX11_changed 50 = .ok (.dup, 1) := by decide +kernel
theorem dX11_changed_51 : decode cX11_changed 51 = .ok (.getfield 60, 3) := by decide +kernel
theorem dX11_changed_54 : decode cX11_changed 54 = .ok (.iconst 1, 1) := by decide +kernel
theorem dX11_changed_55 : decode cX11_changed 55 = .ok (.isub, 1) := by decide +kernel
theorem dX11_changed_56 : decode cX11_changed 56 = .ok (.putfield 60, 3) := by decide +kernel
theorem dX11_changed_59 : decode cX11_changed 59 = .ok (.iconst 0, 1) := by decide +kernel
theorem dX11_changed_60 : decode cX11_changed 60 = .ok (.istore_n 2, 1) := by decide +kernel
theorem dX11_changed_61 : decode cX11_changed 61 = .ok (.iload_n 2, 1) := by decide +kernel
theorem dX11_changed_62 : decode cX11_changed 62 = .ok (.sipush 269, 3) := by decide +kernel
theorem dX11_changed_65 : decode cX11_changed 65 = .ok (.if_icmp .ge 30, 3) := by decide +kernel
theorem dX11_changed_68 : decode cX11_changed 68 = .ok (.aload_n 0, 1) := by decide +kernel
theorem dX11_changed_69 : decode cX11_changed 69 = .ok (.getfield 19, 3) := by decide +kernel
theorem dX11_changed_72 : decode cX11_changed 72 = .ok (.sipush 269, 3) := by decide +kernel
theorem dX11_changed_75 : decode cX11_changed 75 = .ok (.aload_n 0, 1) := by decide +kernel
theorem dX11_changed_76 : decode cX11_changed 76 = .ok (.getfield 60, 3) := by decide +kernel
theorem dX11_changed_79 : decode cX11_changed 79 = .ok (.imul, 1) := by decide +kernel
theorem dX11_changed_80 : decode cX11_changed 80 = .ok (.iload_n 2, 1) := by decide +kernel
theorem dX11_changed_81 : decode cX11_changed 81 = .ok (.iadd, 1) := by decide +kernel
theorem dX11_changed_82 : decode cX11_changed 82 = .ok (.aload_n 0, 1) := by decide +kernel
theorem dX11_changed_83 : decode cX11_changed 83 = .ok (.getfield 13, 3) := by decide +kernel
theorem dX11_changed_86 : decode cX11_changed 86 = .ok (.iload_n 2, 1) := by decide +kernel
theorem dX11_changed_87 : decode cX11_changed 87 = .ok (.iaload, 1) := by decide +kernel
theorem dX11_changed_88 : decode cX11_changed 88 = .ok (.iastore, 1) := by decide +kernel
theorem dX11_changed_89 : decode cX11_changed 89 = .ok (.iinc 2 1, 3) := by decide +kernel
theorem dX11_changed_92 : decode cX11_changed 92 = .ok (.goto (-31), 3) := by decide +kernel
theorem dX11_changed_95 : decode cX11_changed 95 = .ok (.aload_n 0, 1) := by decide +kernel
theorem dX11_changed_96 : decode cX11_changed 96 = .ok (.dup, 1) := by decide +kernel
theorem dX11_changed_97 : decode cX11_changed 97 = .ok (.getfield 60, 3) := by decide +kernel
theorem dX11_changed_100 : decode cX11_changed 100 = .ok (.iconst 1, 1) := by decide +kernel
theorem dX11_changed_101 : decode cX11_changed 101 = .ok (.iadd, 1) := by decide +kernel
theorem dX11_changed_102 : decode cX11_changed 102 = .ok (.putfield 60, 3) := by decide +kernel
theorem dX11_changed_105 : decode cX11_changed 105 = .ok (.iload_n 1, 1) := by decide +kernel
theorem dX11_changed_106 : decode cX11_changed 106 = .ok (.ireturn, 1) := by decide +kernel
theorem dX11_engineAt_0 : decode cX11_engineAt 0 = .ok (.bipush 7, 2) := by decide +kernel
theorem dX11_engineAt_2 : decode cX11_engineAt 2 = .ok (.bipush 52, 2) := by decide +kernel
theorem dX11_engineAt_4 : decode cX11_engineAt 4 = .ok (.iload_n 0, 1) := by decide +kernel
theorem dX11_engineAt_5 : decode cX11_engineAt 5 = .ok (.imul, 1) := by decide +kernel
theorem dX11_engineAt_6 : decode cX11_engineAt 6 = .ok (.iadd, 1) := by decide +kernel
theorem dX11_engineAt_7 : decode cX11_engineAt 7 = .ok (.ireturn, 1) := by decide +kernel
theorem dX11_isEngine_0 : decode cX11_isEngine 0 = .ok (.iload_n 1, 1) := by decide +kernel
theorem dX11_isEngine_1 : decode cX11_isEngine 1 = .ok (.i2l, 1) := by decide +kernel
theorem dX11_isEngine_2 : decode cX11_isEngine 2 = .ok (.lconst 0, 1) := by decide +kernel
theorem dX11_isEngine_3 : decode cX11_isEngine 3 = .ok (.aload_n 0, 1) := by decide +kernel
theorem dX11_isEngine_4 : decode cX11_isEngine 4 = .ok (.getfield 9, 3) := by decide +kernel
theorem dX11_isEngine_7 : decode cX11_isEngine 7 = .ok (.iconst 0, 1) := by decide +kernel
theorem dX11_isEngine_8 : decode cX11_isEngine 8 = .ok (.iaload, 1) := by decide +kernel
theorem dX11_isEngine_9 : decode cX11_isEngine 9 = .ok (.iconst 1, 1) := by decide +kernel
theorem dX11_isEngine_10 : decode cX11_isEngine 10 = .ok (.isub, 1) := by decide +kernel
theorem dX11_isEngine_11 : decode cX11_isEngine 11 = .ok (.i2l, 1) := by decide +kernel
theorem dX11_isEngine_12 : decode cX11_isEngine 12 = .ok (.invokestatic 63, 3) := by decide +kernel
theorem dX11_isEngine_15 : decode cX11_isEngine 15 = .ok (.ireturn, 1) := by decide +kernel
theorem dX11_many_0 : decode cX11_many 0 = .ok (.aload_n 0, 1) := by decide +kernel
theorem dX11_many_1 : decode cX11_many 1 = .ok (.getfield 9, 3) := by decide +kernel
theorem dX11_many_4 : decode cX11_many 4 = .ok (.iload_n 1, 1) := by decide +kernel
theorem dX11_many_5 : decode cX11_many 5 = .ok (.invokestatic 67, 3) := by decide +kernel
theorem dX11_many_8 : decode cX11_many 8 = .ok (.iaload, 1) := by decide +kernel
theorem dX11_many_9 : decode cX11_many 9 = .ok (.ireturn, 1) := by decide +kernel
theorem dX11_isPart_0 : decode cX11_isPart 0 = .ok (.aload_n 0, 1) := by decide +kernel
theorem dX11_isPart_1 : decode cX11_isPart 1 = .ok (.iload_n 1, 1) := by decide +kernel
theorem dX11_isPart_2 : decode cX11_isPart 2 = .ok (.invokevirtual 71, 3) := by decide +kernel
theorem dX11_isPart_5 : decode cX11_isPart 5 = .ok (.ifCond .eq 24, 3) := by decide +kernel
theorem dX11_isPart_8 : decode cX11_isPart 8 = .ok (.iload_n 2, 1) := by decide +kernel
theorem dX11_isPart_9 : decode cX11_isPart 9 = .ok (.i2l, 1) := by decide +kernel
theorem dX11_isPart_10 : decode cX11_isPart 10 = .ok (.lconst 0, 1) := by decide +kernel
theorem dX11_isPart_11 : decode cX11_isPart 11 = .ok (.aload_n 0, 1) := by decide +kernel
theorem dX11_isPart_12 : decode cX11_isPart 12 = .ok (.iload_n 1, 1) := by decide +kernel
theorem dX11_isPart_13 : decode cX11_isPart 13 = .ok (.invokevirtual 75, 3) := by decide +kernel
theorem dX11_isPart_16 : decode cX11_isPart 16 = .ok (.iconst 1, 1) := by decide +kernel
theorem dX11_isPart_17 : decode cX11_isPart 17 = .ok (.isub, 1) := by decide +kernel
theorem dX11_isPart_18 : decode cX11_isPart 18 = .ok (.i2l, 1) := by decide +kernel
theorem dX11_isPart_19 : decode cX11_isPart 19 = .ok (.invokestatic 63, 3) := by decide +kernel
theorem dX11_isPart_22 : decode cX11_isPart 22 = .ok (.ifCond .eq 7, 3) := by decide +kernel
theorem dX11_isPart_25 : decode cX11_isPart 25 = .ok (.iconst 1, 1) := by decide +kernel
theorem dX11_isPart_26 : decode cX11_isPart 26 = .ok (.goto 4, 3) := by decide +kernel
theorem dX11_isPart_29 : decode cX11_isPart 29 = .ok (.iconst 0, 1) := by decide +kernel
theorem dX11_isPart_30 : decode cX11_isPart 30 = .ok (.ireturn, 1) := by decide +kernel
theorem dX11_order_0 : decode cX11_order 0 = .ok (.aload_n 0, 1) := by decide +kernel
theorem dX11_order_1 : decode cX11_order 1 = .ok (.getfield 9, 3) := by decide +kernel
theorem dX11_order_4 : decode cX11_order 4 = .ok (.iload_n 1, 1) := by decide +kernel
theorem dX11_order_5 : decode cX11_order 5 = .ok (.invokestatic 67, 3) := by decide +kernel
theorem dX11_order_8 : decode cX11_order 8 = .ok (.iconst 4, 1) := by decide +kernel
theorem dX11_order_9 : decode cX11_order 9 = .ok (.iadd, 1) := by decide +kernel
theorem dX11_order_10 : decode cX11_order 10 = .ok (.iload_n 2, 1) := by decide +kernel
theorem dX11_order_11 : decode cX11_order 11 = .ok (.iadd, 1) := by decide +kernel
theorem dX11_order_12 : decode cX11_order 12 = .ok (.iaload, 1) := by decide +kernel
theorem dX11_order_13 : decode cX11_order 13 = .ok (.ireturn, 1) := by decide +kernel
theorem dX11_keepsKnock_0 : decode cX11_keepsKnock 0 = .ok (.iload_n 1, 1) := by decide +kernel
theorem dX11_keepsKnock_1 : decode cX11_keepsKnock 1 = .ok (.invokestatic 67, 3) := by decide +kernel
theorem dX11_keepsKnock_4 : decode cX11_keepsKnock 4 = .ok (.istore_n 3, 1) := by decide +kernel
theorem dX11_keepsKnock_5 : decode cX11_keepsKnock 5 = .ok (.aload_n 0, 1) := by decide +kernel
theorem dX11_keepsKnock_6 : decode cX11_keepsKnock 6 = .ok (.getfield 9, 3) := by decide +kernel
theorem dX11_keepsKnock_9 : decode cX11_keepsKnock 9 = .ok (.iload_n 3, 1) := by decide +kernel
theorem dX11_keepsKnock_10 : decode cX11_keepsKnock 10 = .ok (.iconst 3, 1) := by decide +kernel
theorem dX11_keepsKnock_11 : decode cX11_keepsKnock 11 = .ok (.iadd, 1) := by decide +kernel
theorem dX11_keepsKnock_12 : decode cX11_keepsKnock 12 = .ok (.iaload, 1) := by decide +kernel
theorem dX11_keepsKnock_13 : decode cX11_keepsKnock 13 = .ok (.bipush 24, 2) := by decide +kernel
theorem dX11_keepsKnock_15 : decode cX11_keepsKnock 15 = .ok (.if_icmp .ne 57, 3) := by decide +kernel
theorem dX11_keepsKnock_18 : decode cX11_keepsKnock 18 = .ok (.iconst 1, 1) := by decide +kernel
theorem dX11_keepsKnock_19 : decode cX11_keepsKnock 19 = .ok (.istore 4, 2) := by decide +kernel
theorem dX11_keepsKnock_21 : decode cX11_keepsKnock 21 = .ok (.iload 4, 2) := by decide +kernel
theorem dX11_keepsKnock_23 : decode cX11_keepsKnock 23 = .ok (.bipush 24, 2) := by decide +kernel
theorem dX11_keepsKnock_25 : decode cX11_keepsKnock 25 = .ok (.if_icmp .ge 35, 3) := by decide +kernel
theorem dX11_keepsKnock_28 : decode cX11_keepsKnock 28 = .ok (.aload_n 0, 1) := by decide +kernel
theorem dX11_keepsKnock_29 : decode cX11_keepsKnock 29 = .ok (.getfield 9, 3) := by decide +kernel
theorem dX11_keepsKnock_32 : decode cX11_keepsKnock 32 = .ok (.iload_n 3, 1) := by decide +kernel
theorem dX11_keepsKnock_33 : decode cX11_keepsKnock 33 = .ok (.bipush 28, 2) := by decide +kernel
theorem dX11_keepsKnock_35 : decode cX11_keepsKnock 35 = .ok (.iadd, 1) := by decide +kernel
theorem dX11_keepsKnock_36 : decode cX11_keepsKnock 36 = .ok (.iload 4, 2) := by decide +kernel
theorem dX11_keepsKnock_38 : decode cX11_keepsKnock 38 = .ok (.iadd, 1) := by decide +kernel
theorem dX11_keepsKnock_39 : decode cX11_keepsKnock 39 = .ok (.iconst 1, 1) := by decide +kernel
theorem dX11_keepsKnock_40 : decode cX11_keepsKnock 40 = .ok (.isub, 1) := by decide +kernel
theorem dX11_keepsKnock_41 : decode cX11_keepsKnock 41 = .ok (.aload_n 0, 1) := by decide +kernel
theorem dX11_keepsKnock_42 : decode cX11_keepsKnock 42 = .ok (.getfield 9, 3) := by decide +kernel
theorem dX11_keepsKnock_45 : decode cX11_keepsKnock 45 = .ok (.iload_n 3, 1) := by decide +kernel
theorem dX11_keepsKnock_46 : decode cX11_keepsKnock 46 = .ok (.bipush 28, 2) := by decide +kernel
theorem dX11_keepsKnock_48 : decode cX11_keepsKnock 48 = .ok (.iadd, 1) := by decide +kernel
theorem dX11_keepsKnock_49 : decode cX11_keepsKnock 49 = .ok (.iload 4, 2) := by decide +kernel
theorem dX11_keepsKnock_51 : decode cX11_keepsKnock 51 = .ok (.iadd, 1) := by decide +kernel
theorem dX11_keepsKnock_52 : decode cX11_keepsKnock 52 = .ok (.iaload, 1) := by decide +kernel
theorem dX11_keepsKnock_53 : decode cX11_keepsKnock 53 = .ok (.iastore, 1) := by decide +kernel
theorem dX11_keepsKnock_54 : decode cX11_keepsKnock 54 = .ok (.iinc 4 1, 3) := by decide +kernel
theorem dX11_keepsKnock_57 : decode cX11_keepsKnock 57 = .ok (.goto (-36), 3) := by decide +kernel
theorem dX11_keepsKnock_60 : decode cX11_keepsKnock 60 = .ok (.aload_n 0, 1) := by decide +kernel
theorem dX11_keepsKnock_61 : decode cX11_keepsKnock 61 = .ok (.getfield 9, 3) := by decide +kernel
theorem dX11_keepsKnock_64 : decode cX11_keepsKnock 64 = .ok (.iload_n 3, 1) := by decide +kernel
theorem dX11_keepsKnock_65 : decode cX11_keepsKnock 65 = .ok (.iconst 3, 1) := by decide +kernel
theorem dX11_keepsKnock_66 : decode cX11_keepsKnock 66 = .ok (.iadd, 1) := by decide +kernel
theorem dX11_keepsKnock_67 : decode cX11_keepsKnock 67 = .ok (.dup2, 1) := by decide +kernel
theorem dX11_keepsKnock_68 : decode cX11_keepsKnock 68 = .ok (.iaload, 1) := by decide +kernel
theorem dX11_keepsKnock_69 : decode cX11_keepsKnock 69 = .ok (.iconst 1, 1) := by decide +kernel
theorem dX11_keepsKnock_70 : decode cX11_keepsKnock 70 = .ok (.isub, 1) := by decide +kernel
theorem dX11_keepsKnock_71 : decode cX11_keepsKnock 71 = .ok (.iastore, 1) := by decide +kernel
theorem dX11_keepsKnock_72 : decode cX11_keepsKnock 72 = .ok (.aload_n 0, 1) := by decide +kernel
theorem dX11_keepsKnock_73 : decode cX11_keepsKnock 73 = .ok (.getfield 9, 3) := by decide +kernel
theorem dX11_keepsKnock_76 : decode cX11_keepsKnock 76 = .ok (.iload_n 3, 1) := by decide +kernel
theorem dX11_keepsKnock_77 : decode cX11_keepsKnock 77 = .ok (.bipush 28, 2) := by decide +kernel
theorem dX11_keepsKnock_79 : decode cX11_keepsKnock 79 = .ok (.iadd, 1) := by decide +kernel
theorem dX11_keepsKnock_80 : decode cX11_keepsKnock 80 = .ok (.aload_n 0, 1) := by decide +kernel
theorem dX11_keepsKnock_81 : decode cX11_keepsKnock 81 = .ok (.getfield 9, 3) := by decide +kernel
theorem dX11_keepsKnock_84 : decode cX11_keepsKnock 84 = .ok (.iload_n 3, 1) := by decide +kernel
theorem dX11_keepsKnock_85 : decode cX11_keepsKnock 85 = .ok (.iconst 3, 1) := by decide +kernel
theorem dX11_keepsKnock_86 : decode cX11_keepsKnock 86 = .ok (.iadd, 1) := by decide +kernel
theorem dX11_keepsKnock_87 : decode cX11_keepsKnock 87 = .ok (.iaload, 1) := by decide +kernel
theorem dX11_keepsKnock_88 : decode cX11_keepsKnock 88 = .ok (.iadd, 1) := by decide +kernel
theorem dX11_keepsKnock_89 : decode cX11_keepsKnock 89 = .ok (.iload_n 2, 1) := by decide +kernel
theorem dX11_keepsKnock_90 : decode cX11_keepsKnock 90 = .ok (.iastore, 1) := by decide +kernel
theorem dX11_keepsKnock_91 : decode cX11_keepsKnock 91 = .ok (.aload_n 0, 1) := by decide +kernel
theorem dX11_keepsKnock_92 : decode cX11_keepsKnock 92 = .ok (.getfield 9, 3) := by decide +kernel
theorem dX11_keepsKnock_95 : decode cX11_keepsKnock 95 = .ok (.iload_n 3, 1) := by decide +kernel
theorem dX11_keepsKnock_96 : decode cX11_keepsKnock 96 = .ok (.iconst 3, 1) := by decide +kernel
theorem dX11_keepsKnock_97 : decode cX11_keepsKnock 97 = .ok (.iadd, 1) := by decide +kernel
theorem dX11_keepsKnock_98 : decode cX11_keepsKnock 98 = .ok (.dup2, 1) := by decide +kernel
theorem dX11_keepsKnock_99 : decode cX11_keepsKnock 99 = .ok (.iaload, 1) := by decide +kernel
theorem dX11_keepsKnock_100 : decode cX11_keepsKnock 100 = .ok (.iconst 1, 1) := by decide +kernel
theorem dX11_keepsKnock_101 : decode cX11_keepsKnock 101 = .ok (.iadd, 1) := by decide +kernel
theorem dX11_keepsKnock_102 : decode cX11_keepsKnock 102 = .ok (.iastore, 1) := by decide +kernel
theorem dX11_keepsKnock_103 : decode cX11_keepsKnock 103 = .ok (.aload_n 0, 1) := by decide +kernel
theorem dX11_keepsKnock_104 : decode cX11_keepsKnock 104 = .ok (.invokevirtual 78, 3) := by decide +kernel
theorem dX11_keepsKnock_107 : decode cX11_keepsKnock 107 = .ok (.return_, 1) := by decide +kernel
theorem dX11_keepsHour_0 : decode cX11_keepsHour 0 = .ok (.aload_n 0, 1) := by decide +kernel
theorem dX11_keepsHour_1 : decode cX11_keepsHour 1 = .ok (.getfield 9, 3) := by decide +kernel
theorem dX11_keepsHour_4 : decode cX11_keepsHour 4 = .ok (.bipush 6, 2) := by decide +kernel
theorem dX11_keepsHour_6 : decode cX11_keepsHour 6 = .ok (.iaload, 1) := by decide +kernel
theorem dX11_keepsHour_7 : decode cX11_keepsHour 7 = .ok (.ifCond .le 36, 3) := by decide +kernel
theorem dX11_keepsHour_10 : decode cX11_keepsHour 10 = .ok (.aload_n 0, 1) := by decide +kernel
theorem dX11_keepsHour_11 : decode cX11_keepsHour 11 = .ok (.getfield 9, 3) := by decide +kernel
theorem dX11_keepsHour_14 : decode cX11_keepsHour 14 = .ok (.sipush 245, 3) := by decide +kernel
theorem dX11_keepsHour_17 : decode cX11_keepsHour 17 = .ok (.iconst 2, 1) := by decide +kernel
theorem dX11_keepsHour_18 : decode cX11_keepsHour 18 = .ok (.aload_n 0, 1) := by decide +kernel
theorem dX11_keepsHour_19 : decode cX11_keepsHour 19 = .ok (.getfield 9, 3) := by decide +kernel
theorem dX11_keepsHour_22 : decode cX11_keepsHour 22 = .ok (.bipush 6, 2) := by decide +kernel
theorem dX11_keepsHour_24 : decode cX11_keepsHour 24 = .ok (.iaload, 1) := by decide +kernel
theorem dX11_keepsHour_25 : decode cX11_keepsHour 25 = .ok (.iconst 1, 1) := by decide +kernel
theorem dX11_keepsHour_26 : decode cX11_keepsHour 26 = .ok (.isub, 1) := by decide +kernel
theorem dX11_keepsHour_27 : decode cX11_keepsHour 27 = .ok (.imul, 1) := by decide +kernel
theorem dX11_keepsHour_28 : decode cX11_keepsHour 28 = .ok (.iadd, 1) := by decide +kernel
theorem dX11_keepsHour_29 : decode cX11_keepsHour 29 = .ok (.iaload, 1) := by decide +kernel
theorem dX11_keepsHour_30 : decode cX11_keepsHour 30 = .ok (.aload_n 0, 1) := by decide +kernel
theorem dX11_keepsHour_31 : decode cX11_keepsHour 31 = .ok (.getfield 9, 3) := by decide +kernel
theorem dX11_keepsHour_34 : decode cX11_keepsHour 34 = .ok (.iconst 1, 1) := by decide +kernel
theorem dX11_keepsHour_35 : decode cX11_keepsHour 35 = .ok (.iaload, 1) := by decide +kernel
theorem dX11_keepsHour_36 : decode cX11_keepsHour 36 = .ok (.if_icmp .ne 7, 3) := by decide +kernel
theorem dX11_keepsHour_39 : decode cX11_keepsHour 39 = .ok (.iconst 1, 1) := by decide +kernel
theorem dX11_keepsHour_40 : decode cX11_keepsHour 40 = .ok (.goto 4, 3) := by decide +kernel
theorem dX11_keepsHour_43 : decode cX11_keepsHour 43 = .ok (.iconst 0, 1) := by decide +kernel
theorem dX11_keepsHour_44 : decode cX11_keepsHour 44 = .ok (.istore_n 1, 1) := by decide +kernel
theorem dX11_keepsHour_45 : decode cX11_keepsHour 45 = .ok (.iload_n 1, 1) := by decide +kernel
theorem dX11_keepsHour_46 : decode cX11_keepsHour 46 = .ok (.ifCond .ne 57, 3) := by decide +kernel
theorem dX11_keepsHour_49 : decode cX11_keepsHour 49 = .ok (.aload_n 0, 1) := by decide +kernel
theorem dX11_keepsHour_50 : decode cX11_keepsHour 50 = .ok (.getfield 9, 3) := by decide +kernel
theorem dX11_keepsHour_53 : decode cX11_keepsHour 53 = .ok (.bipush 6, 2) := by decide +kernel
theorem dX11_keepsHour_55 : decode cX11_keepsHour 55 = .ok (.iaload, 1) := by decide +kernel
theorem dX11_keepsHour_56 : decode cX11_keepsHour 56 = .ok (.bipush 12, 2) := by decide +kernel
theorem dX11_keepsHour_58 : decode cX11_keepsHour 58 = .ok (.if_icmp .ne 45, 3) := by decide +kernel
theorem dX11_keepsHour_61 : decode cX11_keepsHour 61 = .ok (.sipush 245, 3) := by decide +kernel
theorem dX11_keepsHour_64 : decode cX11_keepsHour 64 = .ok (.istore_n 2, 1) := by decide +kernel
theorem dX11_keepsHour_65 : decode cX11_keepsHour 65 = .ok (.iload_n 2, 1) := by decide +kernel
theorem dX11_keepsHour_66 : decode cX11_keepsHour 66 = .ok (.sipush 267, 3) := by decide +kernel
theorem dX11_keepsHour_69 : decode cX11_keepsHour 69 = .ok (.if_icmp .ge 23, 3) := by decide +kernel
theorem dX11_keepsHour_72 : decode cX11_keepsHour 72 = .ok (.aload_n 0, 1) := by decide +kernel
theorem dX11_keepsHour_73 : decode cX11_keepsHour 73 = .ok (.getfield 9, 3) := by decide +kernel
theorem dX11_keepsHour_76 : decode cX11_keepsHour 76 = .ok (.iload_n 2, 1) := by decide +kernel
theorem dX11_keepsHour_77 : decode cX11_keepsHour 77 = .ok (.aload_n 0, 1) := by decide +kernel
theorem dX11_keepsHour_78 : decode cX11_keepsHour 78 = .ok (.getfield 9, 3) := by decide +kernel
theorem dX11_keepsHour_81 : decode cX11_keepsHour 81 = .ok (.iload_n 2, 1) := by decide +kernel
theorem dX11_keepsHour_82 : decode cX11_keepsHour 82 = .ok (.iconst 2, 1) := by decide +kernel
theorem dX11_keepsHour_83 : decode cX11_keepsHour 83 = .ok (.iadd, 1) := by decide +kernel
theorem dX11_keepsHour_84 : decode cX11_keepsHour 84 = .ok (.iaload, 1) := by decide +kernel
theorem dX11_keepsHour_85 : decode cX11_keepsHour 85 = .ok (.iastore, 1) := by decide +kernel
theorem dX11_keepsHour_86 : decode cX11_keepsHour 86 = .ok (.iinc 2 1, 3) := by decide +kernel
theorem dX11_keepsHour_89 : decode cX11_keepsHour 89 = .ok (.goto (-24), 3) := by decide +kernel
theorem dX11_keepsHour_92 : decode cX11_keepsHour 92 = .ok (.aload_n 0, 1) := by decide +kernel
theorem dX11_keepsHour_93 : decode cX11_keepsHour 93 = .ok (.getfield 9, 3) := by decide +kernel
theorem dX11_keepsHour_96 : decode cX11_keepsHour 96 = .ok (.bipush 6, 2) := by decide +kernel
theorem dX11_keepsHour_98 : decode cX11_keepsHour 98 = .ok (.dup2, 1) := by decide +kernel
theorem dX11_keepsHour_99 : decode cX11_keepsHour 99 = .ok (.iaload, 1) := by decide +kernel
theorem dX11_keepsHour_100 : decode cX11_keepsHour 100 = .ok (.iconst 1, 1) := by decide +kernel
theorem dX11_keepsHour_101 : decode cX11_keepsHour 101 = .ok (.isub, 1) := by decide +kernel
theorem dX11_keepsHour_102 : decode cX11_keepsHour 102 = .ok (.iastore, 1) := by decide +kernel
theorem dX11_keepsHour_103 : decode cX11_keepsHour 103 = .ok (.iload_n 1, 1) := by decide +kernel
theorem dX11_keepsHour_104 : decode cX11_keepsHour 104 = .ok (.ifCond .ne 59, 3) := by decide +kernel
theorem dX11_keepsHour_107 : decode cX11_keepsHour 107 = .ok (.aload_n 0, 1) := by decide +kernel
theorem dX11_keepsHour_108 : decode cX11_keepsHour 108 = .ok (.getfield 9, 3) := by decide +kernel
theorem dX11_keepsHour_111 : decode cX11_keepsHour 111 = .ok (.sipush 245, 3) := by decide +kernel
theorem dX11_keepsHour_114 : decode cX11_keepsHour 114 = .ok (.iconst 2, 1) := by decide +kernel
theorem dX11_keepsHour_115 : decode cX11_keepsHour 115 = .ok (.aload_n 0, 1) := by decide +kernel
theorem dX11_keepsHour_116 : decode cX11_keepsHour 116 = .ok (.getfield 9, 3) := by decide +kernel
theorem dX11_keepsHour_119 : decode cX11_keepsHour 119 = .ok (.bipush 6, 2) := by decide +kernel
theorem dX11_keepsHour_121 : decode cX11_keepsHour 121 = .ok (.iaload, 1) := by decide +kernel
theorem dX11_keepsHour_122 : decode cX11_keepsHour 122 = .ok (.imul, 1) := by decide +kernel
theorem dX11_keepsHour_123 : decode cX11_keepsHour 123 = .ok (.iadd, 1) := by decide +kernel
theorem dX11_keepsHour_124 : decode cX11_keepsHour 124 = .ok (.aload_n 0, 1) := by decide +kernel
theorem dX11_keepsHour_125 : decode cX11_keepsHour 125 = .ok (.getfield 9, 3) := by decide +kernel
theorem dX11_keepsHour_128 : decode cX11_keepsHour 128 = .ok (.iconst 1, 1) := by decide +kernel
theorem dX11_keepsHour_129 : decode cX11_keepsHour 129 = .ok (.iaload, 1) := by decide +kernel
theorem dX11_keepsHour_130 : decode cX11_keepsHour 130 = .ok (.iastore, 1) := by decide +kernel
theorem dX11_keepsHour_131 : decode cX11_keepsHour 131 = .ok (.aload_n 0, 1) := by decide +kernel
theorem dX11_keepsHour_132 : decode cX11_keepsHour 132 = .ok (.getfield 9, 3) := by decide +kernel
theorem dX11_keepsHour_135 : decode cX11_keepsHour 135 = .ok (.sipush 245, 3) := by decide +kernel
theorem dX11_keepsHour_138 : decode cX11_keepsHour 138 = .ok (.iconst 2, 1) := by decide +kernel
theorem dX11_keepsHour_139 : decode cX11_keepsHour 139 = .ok (.aload_n 0, 1) := by decide +kernel
theorem dX11_keepsHour_140 : decode cX11_keepsHour 140 = .ok (.getfield 9, 3) := by decide +kernel
theorem dX11_keepsHour_143 : decode cX11_keepsHour 143 = .ok (.bipush 6, 2) := by decide +kernel
theorem dX11_keepsHour_145 : decode cX11_keepsHour 145 = .ok (.iaload, 1) := by decide +kernel
theorem dX11_keepsHour_146 : decode cX11_keepsHour 146 = .ok (.imul, 1) := by decide +kernel
theorem dX11_keepsHour_147 : decode cX11_keepsHour 147 = .ok (.iadd, 1) := by decide +kernel
theorem dX11_keepsHour_148 : decode cX11_keepsHour 148 = .ok (.iconst 1, 1) := by decide +kernel
theorem dX11_keepsHour_149 : decode cX11_keepsHour 149 = .ok (.iadd, 1) := by decide +kernel
theorem dX11_keepsHour_150 : decode cX11_keepsHour 150 = .ok (.iconst 0, 1) := by decide +kernel
theorem dX11_keepsHour_151 : decode cX11_keepsHour 151 = .ok (.iastore, 1) := by decide +kernel
theorem dX11_keepsHour_152 : decode cX11_keepsHour 152 = .ok (.aload_n 0, 1) := by decide +kernel
theorem dX11_keepsHour_153 : decode cX11_keepsHour 153 = .ok (.getfield 9, 3) := by decide +kernel
theorem dX11_keepsHour_156 : decode cX11_keepsHour 156 = .ok (.bipush 6, 2) := by decide +kernel
theorem dX11_keepsHour_158 : decode cX11_keepsHour 158 = .ok (.dup2, 1) := by decide +kernel
theorem dX11_keepsHour_159 : decode cX11_keepsHour 159 = .ok (.iaload, 1) := by decide +kernel
theorem dX11_keepsHour_160 : decode cX11_keepsHour 160 = .ok (.iconst 1, 1) := by decide +kernel
theorem dX11_keepsHour_161 : decode cX11_keepsHour 161 = .ok (.iadd, 1) := by decide +kernel
theorem dX11_keepsHour_162 : decode cX11_keepsHour 162 = .ok (.iastore, 1) := by decide +kernel
theorem dX11_keepsHour_163 : decode cX11_keepsHour 163 = .ok (.aload_n 0, 1) := by decide +kernel
theorem dX11_keepsHour_164 : decode cX11_keepsHour 164 = .ok (.getfield 9, 3) := by decide +kernel
theorem dX11_keepsHour_167 : decode cX11_keepsHour 167 = .ok (.sipush 245, 3) := by decide +kernel
theorem dX11_keepsHour_170 : decode cX11_keepsHour 170 = .ok (.iconst 2, 1) := by decide +kernel
theorem dX11_keepsHour_171 : decode cX11_keepsHour 171 = .ok (.aload_n 0, 1) := by decide +kernel
theorem dX11_keepsHour_172 : decode cX11_keepsHour 172 = .ok (.getfield 9, 3) := by decide +kernel
theorem dX11_keepsHour_175 : decode cX11_keepsHour 175 = .ok (.bipush 6, 2) := by decide +kernel
theorem dX11_keepsHour_177 : decode cX11_keepsHour 177 = .ok (.iaload, 1) := by decide +kernel
theorem dX11_keepsHour_178 : decode cX11_keepsHour 178 = .ok (.imul, 1) := by decide +kernel
theorem dX11_keepsHour_179 : decode cX11_keepsHour 179 = .ok (.iadd, 1) := by decide +kernel
theorem dX11_keepsHour_180 : decode cX11_keepsHour 180 = .ok (.iconst 1, 1) := by decide +kernel
theorem dX11_keepsHour_181 : decode cX11_keepsHour 181 = .ok (.isub, 1) := by decide +kernel
theorem dX11_keepsHour_182 : decode cX11_keepsHour 182 = .ok (.dup2, 1) := by decide +kernel
theorem dX11_keepsHour_183 : decode cX11_keepsHour 183 = .ok (.iaload, 1) := by decide +kernel
theorem dX11_keepsHour_184 : decode cX11_keepsHour 184 = .ok (.iconst 1, 1) := by decide +kernel
theorem dX11_keepsHour_185 : decode cX11_keepsHour 185 = .ok (.iadd, 1) := by decide +kernel
theorem dX11_keepsHour_186 : decode cX11_keepsHour 186 = .ok (.iastore, 1) := by decide +kernel
theorem dX11_keepsHour_187 : decode cX11_keepsHour 187 = .ok (.return_, 1) := by decide +kernel
theorem dX11_strokes_0 : decode cX11_strokes 0 = .ok (.iload_n 1, 1) := by decide +kernel
theorem dX11_strokes_1 : decode cX11_strokes 1 = .ok (.invokestatic 67, 3) := by decide +kernel
theorem dX11_strokes_4 : decode cX11_strokes 4 = .ok (.istore_n 3, 1) := by decide +kernel
theorem dX11_strokes_5 : decode cX11_strokes 5 = .ok (.iconst 0, 1) := by decide +kernel
theorem dX11_strokes_6 : decode cX11_strokes 6 = .ok (.istore 4, 2) := by decide +kernel
theorem dX11_strokes_8 : decode cX11_strokes 8 = .ok (.iconst 0, 1) := by decide +kernel
theorem dX11_strokes_9 : decode cX11_strokes 9 = .ok (.istore 5, 2) := by decide +kernel
theorem dX11_strokes_11 : decode cX11_strokes 11 = .ok (.iload 5, 2) := by decide +kernel
theorem dX11_strokes_13 : decode cX11_strokes 13 = .ok (.iload_n 2, 1) := by decide +kernel
theorem dX11_strokes_14 : decode cX11_strokes 14 = .ok (.if_icmp .ge 108, 3) := by decide +kernel
theorem dX11_strokes_17 : decode cX11_strokes 17 = .ok (.aload_n 0, 1) := by decide +kernel
theorem dX11_strokes_18 : decode cX11_strokes 18 = .ok (.iload_n 1, 1) := by decide +kernel
theorem dX11_strokes_19 : decode cX11_strokes 19 = .ok (.aload_n 0, 1) := by decide +kernel
theorem dX11_strokes_20 : decode cX11_strokes 20 = .ok (.getfield 9, 3) := by decide +kernel
theorem dX11_strokes_23 : decode cX11_strokes 23 = .ok (.iload_n 3, 1) := by decide +kernel
theorem dX11_strokes_24 : decode cX11_strokes 24 = .ok (.iconst 1, 1) := by decide +kernel
theorem dX11_strokes_25 : decode cX11_strokes 25 = .ok (.iadd, 1) := by decide +kernel
theorem dX11_strokes_26 : decode cX11_strokes 26 = .ok (.iaload, 1) := by decide +kernel
theorem dX11_strokes_27 : decode cX11_strokes 27 = .ok (.invokevirtual 81, 3) := by decide +kernel
theorem dX11_strokes_30 : decode cX11_strokes 30 = .ok (.istore 6, 2) := by decide +kernel
theorem dX11_strokes_32 : decode cX11_strokes 32 = .ok (.aload_n 0, 1) := by decide +kernel
theorem dX11_strokes_33 : decode cX11_strokes 33 = .ok (.getfield 9, 3) := by decide +kernel
theorem dX11_strokes_36 : decode cX11_strokes 36 = .ok (.iload_n 3, 1) := by decide +kernel
theorem dX11_strokes_37 : decode cX11_strokes 37 = .ok (.bipush 12, 2) := by decide +kernel
theorem dX11_strokes_39 : decode cX11_strokes 39 = .ok (.iadd, 1) := by decide +kernel
theorem dX11_strokes_40 : decode cX11_strokes 40 = .ok (.iload 6, 2) := by decide +kernel
theorem dX11_strokes_42 : decode cX11_strokes 42 = .ok (.iadd, 1) := by decide +kernel
theorem dX11_strokes_43 : decode cX11_strokes 43 = .ok (.iaload, 1) := by decide +kernel
theorem dX11_strokes_44 : decode cX11_strokes 44 = .ok (.ifCond .le 38, 3) := by decide +kernel
theorem dX11_strokes_47 : decode cX11_strokes 47 = .ok (.aload_n 0, 1) := by decide +kernel
theorem dX11_strokes_48 : decode cX11_strokes 48 = .ok (.getfield 9, 3) := by decide +kernel
theorem dX11_strokes_51 : decode cX11_strokes 51 = .ok (.iload_n 3, 1) := by decide +kernel
theorem dX11_strokes_52 : decode cX11_strokes 52 = .ok (.bipush 12, 2) := by decide +kernel
theorem dX11_strokes_54 : decode cX11_strokes 54 = .ok (.iadd, 1) := by decide +kernel
theorem dX11_strokes_55 : decode cX11_strokes 55 = .ok (.iload 6, 2) := by decide +kernel
theorem dX11_strokes_57 : decode cX11_strokes 57 = .ok (.iadd, 1) := by decide +kernel
theorem dX11_strokes_58 : decode cX11_strokes 58 = .ok (.dup2, 1) := by decide +kernel
theorem dX11_strokes_59 : decode cX11_strokes 59 = .ok (.iaload, 1) := by decide +kernel
theorem dX11_strokes_60 : decode cX11_strokes 60 = .ok (.iconst 1, 1) := by decide +kernel
theorem dX11_strokes_61 : decode cX11_strokes 61 = .ok (.isub, 1) := by decide +kernel
theorem dX11_strokes_62 : decode cX11_strokes 62 = .ok (.iastore, 1) := by decide +kernel
theorem dX11_strokes_63 : decode cX11_strokes 63 = .ok (.aload_n 0, 1) := by decide +kernel
theorem dX11_strokes_64 : decode cX11_strokes 64 = .ok (.getfield 9, 3) := by decide +kernel
theorem dX11_strokes_67 : decode cX11_strokes 67 = .ok (.iload_n 3, 1) := by decide +kernel
theorem dX11_strokes_68 : decode cX11_strokes 68 = .ok (.bipush 20, 2) := by decide +kernel
theorem dX11_strokes_70 : decode cX11_strokes 70 = .ok (.iadd, 1) := by decide +kernel
theorem dX11_strokes_71 : decode cX11_strokes 71 = .ok (.iload 6, 2) := by decide +kernel
theorem dX11_strokes_73 : decode cX11_strokes 73 = .ok (.iadd, 1) := by decide +kernel
theorem dX11_strokes_74 : decode cX11_strokes 74 = .ok (.dup2, 1) := by decide +kernel
theorem dX11_strokes_75 : decode cX11_strokes 75 = .ok (.iaload, 1) := by decide +kernel
theorem dX11_strokes_76 : decode cX11_strokes 76 = .ok (.iconst 1, 1) := by decide +kernel
theorem dX11_strokes_77 : decode cX11_strokes 77 = .ok (.iadd, 1) := by decide +kernel
theorem dX11_strokes_78 : decode cX11_strokes 78 = .ok (.iastore, 1) := by decide +kernel
theorem dX11_strokes_79 : decode cX11_strokes 79 = .ok (.goto 13, 3) := by decide +kernel
theorem dX11_strokes_82 : decode cX11_strokes 82 = .ok (.aload_n 0, 1) := by decide +kernel
theorem dX11_strokes_83 : decode cX11_strokes 83 = .ok (.iload_n 1, 1) := by decide +kernel
theorem dX11_strokes_84 : decode cX11_strokes 84 = .ok (.iload 6, 2) := by decide +kernel
theorem dX11_strokes_86 : decode cX11_strokes 86 = .ok (.invokevirtual 85, 3) := by decide +kernel
theorem dX11_strokes_89 : decode cX11_strokes 89 = .ok (.iinc 4 1, 3) := by decide +kernel
theorem dX11_strokes_92 : decode cX11_strokes 92 = .ok (.aload_n 0, 1) := by decide +kernel
theorem dX11_strokes_93 : decode cX11_strokes 93 = .ok (.getfield 9, 3) := by decide +kernel
theorem dX11_strokes_96 : decode cX11_strokes 96 = .ok (.iload_n 3, 1) := by decide +kernel
theorem dX11_strokes_97 : decode cX11_strokes 97 = .ok (.iconst 1, 1) := by decide +kernel
theorem dX11_strokes_98 : decode cX11_strokes 98 = .ok (.iadd, 1) := by decide +kernel
theorem dX11_strokes_99 : decode cX11_strokes 99 = .ok (.aload_n 0, 1) := by decide +kernel
theorem dX11_strokes_100 : decode cX11_strokes 100 = .ok (.getfield 9, 3) := by decide +kernel
theorem dX11_strokes_103 : decode cX11_strokes 103 = .ok (.iload_n 3, 1) := by decide +kernel
theorem dX11_strokes_104 : decode cX11_strokes 104 = .ok (.iconst 1, 1) := by decide +kernel
theorem dX11_strokes_105 : decode cX11_strokes 105 = .ok (.iadd, 1) := by decide +kernel
theorem dX11_strokes_106 : decode cX11_strokes 106 = .ok (.iaload, 1) := by decide +kernel
theorem dX11_strokes_107 : decode cX11_strokes 107 = .ok (.iconst 1, 1) := by decide +kernel
theorem dX11_strokes_108 : decode cX11_strokes 108 = .ok (.iadd, 1) := by decide +kernel
theorem dX11_strokes_109 : decode cX11_strokes 109 = .ok (.aload_n 0, 1) := by decide +kernel
theorem dX11_strokes_110 : decode cX11_strokes 110 = .ok (.iload_n 1, 1) := by decide +kernel
theorem dX11_strokes_111 : decode cX11_strokes 111 = .ok (.invokevirtual 75, 3) := by decide +kernel
theorem dX11_strokes_114 : decode cX11_strokes 114 = .ok (.irem, 1) := by decide +kernel
theorem dX11_strokes_115 : decode cX11_strokes 115 = .ok (.iastore, 1) := by decide +kernel
theorem dX11_strokes_116 : decode cX11_strokes 116 = .ok (.iinc 5 1, 3) := by decide +kernel
theorem dX11_strokes_119 : decode cX11_strokes 119 = .ok (.goto (-108), 3) := by decide +kernel
theorem dX11_strokes_122 : decode cX11_strokes 122 = .ok (.iload 4, 2) := by decide +kernel
theorem dX11_strokes_124 : decode cX11_strokes 124 = .ok (.ireturn, 1) := by decide +kernel
theorem dX11_passesHours_0 : decode cX11_passesHours 0 = .ok (.iconst 0, 1) := by decide +kernel
theorem dX11_passesHours_1 : decode cX11_passesHours 1 = .ok (.istore_n 2, 1) := by decide +kernel
theorem dX11_passesHours_2 : decode cX11_passesHours 2 = .ok (.iconst 0, 1) := by decide +kernel
theorem dX11_passesHours_3 : decode cX11_passesHours 3 = .ok (.istore_n 3, 1) := by decide +kernel
theorem dX11_passesHours_4 : decode cX11_passesHours 4 = .ok (.iload_n 3, 1) := by decide +kernel
theorem dX11_passesHours_5 : decode cX11_passesHours 5 = .ok (.iload_n 1, 1) := by decide +kernel
theorem dX11_passesHours_6 : decode cX11_passesHours 6 = .ok (.if_icmp .ge 60, 3) := by decide +kernel
theorem dX11_passesHours_9 : decode cX11_passesHours 9 = .ok (.aload_n 0, 1) := by decide +kernel
theorem dX11_passesHours_10 : decode cX11_passesHours 10 = .ok (.getfield 9, 3) := by decide +kernel
theorem dX11_passesHours_13 : decode cX11_passesHours 13 = .ok (.iconst 1, 1) := by decide +kernel
theorem dX11_passesHours_14 : decode cX11_passesHours 14 = .ok (.dup2, 1) := by decide +kernel
theorem dX11_passesHours_15 : decode cX11_passesHours 15 = .ok (.iaload, 1) := by decide +kernel
theorem dX11_passesHours_16 : decode cX11_passesHours 16 = .ok (.iconst 1, 1) := by decide +kernel
theorem dX11_passesHours_17 : decode cX11_passesHours 17 = .ok (.iadd, 1) := by decide +kernel
theorem dX11_passesHours_18 : decode cX11_passesHours 18 = .ok (.iastore, 1) := by decide +kernel
theorem dX11_passesHours_19 : decode cX11_passesHours 19 = .ok (.iconst 0, 1) := by decide +kernel
theorem dX11_passesHours_20 : decode cX11_passesHours 20 = .ok (.istore 4, 2) := by decide +kernel
theorem dX11_passesHours_22 : decode cX11_passesHours 22 = .ok (.iload 4, 2) := by decide +kernel
theorem dX11_passesHours_24 : decode cX11_passesHours 24 = .ok (.aload_n 0, 1) := by decide +kernel
theorem dX11_passesHours_25 : decode cX11_passesHours 25 = .ok (.getfield 9, 3) := by decide +kernel
theorem dX11_passesHours_28 : decode cX11_passesHours 28 = .ok (.iconst 0, 1) := by decide +kernel
theorem dX11_passesHours_29 : decode cX11_passesHours 29 = .ok (.iaload, 1) := by decide +kernel
theorem dX11_passesHours_30 : decode cX11_passesHours 30 = .ok (.if_icmp .ge 30, 3) := by decide +kernel
theorem dX11_passesHours_33 : decode cX11_passesHours 33 = .ok (.iload_n 2, 1) := by decide +kernel
theorem dX11_passesHours_34 : decode cX11_passesHours 34 = .ok (.aload_n 0, 1) := by decide +kernel
theorem dX11_passesHours_35 : decode cX11_passesHours 35 = .ok (.iload 4, 2) := by decide +kernel
theorem dX11_passesHours_37 : decode cX11_passesHours 37 = .ok (.aload_n 0, 1) := by decide +kernel
theorem dX11_passesHours_38 : decode cX11_passesHours 38 = .ok (.getfield 9, 3) := by decide +kernel
theorem dX11_passesHours_41 : decode cX11_passesHours 41 = .ok (.iload 4, 2) := by decide +kernel
theorem dX11_passesHours_43 : decode cX11_passesHours 43 = .ok (.invokestatic 67, 3) := by decide +kernel
theorem dX11_passesHours_46 : decode cX11_passesHours 46 = .ok (.iconst 2, 1) := by decide +kernel
theorem dX11_passesHours_47 : decode cX11_passesHours 47 = .ok (.iadd, 1) := by decide +kernel
theorem dX11_passesHours_48 : decode cX11_passesHours 48 = .ok (.iaload, 1) := by decide +kernel
theorem dX11_passesHours_49 : decode cX11_passesHours 49 = .ok (.invokevirtual 89, 3) := by decide +kernel
theorem dX11_passesHours_52 : decode cX11_passesHours 52 = .ok (.iadd, 1) := by decide +kernel
theorem dX11_passesHours_53 : decode cX11_passesHours 53 = .ok (.istore_n 2, 1) := by decide +kernel
theorem dX11_passesHours_54 : decode cX11_passesHours 54 = .ok (.iinc 4 1, 3) := by decide +kernel
theorem dX11_passesHours_57 : decode cX11_passesHours 57 = .ok (.goto (-35), 3) := by decide +kernel
theorem dX11_passesHours_60 : decode cX11_passesHours 60 = .ok (.iinc 3 1, 3) := by decide +kernel
theorem dX11_passesHours_63 : decode cX11_passesHours 63 = .ok (.goto (-59), 3) := by decide +kernel
theorem dX11_passesHours_66 : decode cX11_passesHours 66 = .ok (.iload_n 2, 1) := by decide +kernel
theorem dX11_passesHours_67 : decode cX11_passesHours 67 = .ok (.ireturn, 1) := by decide +kernel
theorem dX11_takesOils_0 : decode cX11_takesOils 0 = .ok (.aload_n 0, 1) := by decide +kernel
theorem dX11_takesOils_1 : decode cX11_takesOils 1 = .ok (.iconst 0, 1) := by decide +kernel
theorem dX11_takesOils_2 : decode cX11_takesOils 2 = .ok (.putfield 92, 3) := by decide +kernel
theorem dX11_takesOils_5 : decode cX11_takesOils 5 = .ok (.iconst 0, 1) := by decide +kernel
theorem dX11_takesOils_6 : decode cX11_takesOils 6 = .ok (.istore_n 1, 1) := by decide +kernel
theorem dX11_takesOils_7 : decode cX11_takesOils 7 = .ok (.iload_n 1, 1) := by decide +kernel
theorem dX11_takesOils_8 : decode cX11_takesOils 8 = .ok (.aload_n 0, 1) := by decide +kernel
theorem dX11_takesOils_9 : decode cX11_takesOils 9 = .ok (.getfield 9, 3) := by decide +kernel
theorem dX11_takesOils_12 : decode cX11_takesOils 12 = .ok (.iconst 0, 1) := by decide +kernel
theorem dX11_takesOils_13 : decode cX11_takesOils 13 = .ok (.iaload, 1) := by decide +kernel
theorem dX11_takesOils_14 : decode cX11_takesOils 14 = .ok (.if_icmp .ge 59, 3) := by decide +kernel
theorem dX11_takesOils_17 : decode cX11_takesOils 17 = .ok (.iconst 0, 1) := by decide +kernel
theorem dX11_takesOils_18 : decode cX11_takesOils 18 = .ok (.istore_n 2, 1) := by decide +kernel
theorem dX11_takesOils_19 : decode cX11_takesOils 19 = .ok (.iload_n 2, 1) := by decide +kernel
theorem dX11_takesOils_20 : decode cX11_takesOils 20 = .ok (.aload_n 0, 1) := by decide +kernel
theorem dX11_takesOils_21 : decode cX11_takesOils 21 = .ok (.iload_n 1, 1) := by decide +kernel
theorem dX11_takesOils_22 : decode cX11_takesOils 22 = .ok (.invokevirtual 75, 3) := by decide +kernel
theorem dX11_takesOils_25 : decode cX11_takesOils 25 = .ok (.if_icmp .ge 42, 3) := by decide +kernel
theorem dX11_takesOils_28 : decode cX11_takesOils 28 = .ok (.aload_n 0, 1) := by decide +kernel
theorem dX11_takesOils_29 : decode cX11_takesOils 29 = .ok (.getfield 32, 3) := by decide +kernel
theorem dX11_takesOils_32 : decode cX11_takesOils 32 = .ok (.aload_n 0, 1) := by decide +kernel
theorem dX11_takesOils_33 : decode cX11_takesOils 33 = .ok (.getfield 92, 3) := by decide +kernel
theorem dX11_takesOils_36 : decode cX11_takesOils 36 = .ok (.aload_n 0, 1) := by decide +kernel
theorem dX11_takesOils_37 : decode cX11_takesOils 37 = .ok (.getfield 9, 3) := by decide +kernel
theorem dX11_takesOils_40 : decode cX11_takesOils 40 = .ok (.iload_n 1, 1) := by decide +kernel
theorem dX11_takesOils_41 : decode cX11_takesOils 41 = .ok (.invokestatic 67, 3) := by decide +kernel
theorem dX11_takesOils_44 : decode cX11_takesOils 44 = .ok (.bipush 12, 2) := by decide +kernel
theorem dX11_takesOils_46 : decode cX11_takesOils 46 = .ok (.iadd, 1) := by decide +kernel
theorem dX11_takesOils_47 : decode cX11_takesOils 47 = .ok (.iload_n 2, 1) := by decide +kernel
theorem dX11_takesOils_48 : decode cX11_takesOils 48 = .ok (.iadd, 1) := by decide +kernel
theorem dX11_takesOils_49 : decode cX11_takesOils 49 = .ok (.iaload, 1) := by decide +kernel
theorem dX11_takesOils_50 : decode cX11_takesOils 50 = .ok (.iastore, 1) := by decide +kernel
theorem dX11_takesOils_51 : decode cX11_takesOils 51 = .ok (.aload_n 0, 1) := by decide +kernel
theorem dX11_takesOils_52 : decode cX11_takesOils 52 = .ok (.dup, 1) := by decide +kernel
theorem dX11_takesOils_53 : decode cX11_takesOils 53 = .ok (.getfield 92, 3) := by decide +kernel
theorem dX11_takesOils_56 : decode cX11_takesOils 56 = .ok (.iconst 1, 1) := by decide +kernel
theorem dX11_takesOils_57 : decode cX11_takesOils 57 = .ok (.iadd, 1) := by decide +kernel
theorem dX11_takesOils_58 : decode cX11_takesOils 58 = .ok (.putfield 92, 3) := by decide +kernel
theorem dX11_takesOils_61 : decode cX11_takesOils 61 = .ok (.iinc 2 1, 3) := by decide +kernel
theorem dX11_takesOils_64 : decode cX11_takesOils 64 = .ok (.goto (-45), 3) := by decide +kernel
theorem dX11_takesOils_67 : decode cX11_takesOils 67 = .ok (.iinc 1 1, 3) := by decide +kernel
theorem dX11_takesOils_70 : decode cX11_takesOils 70 = .ok (.goto (-63), 3) := by decide +kernel
theorem dX11_takesOils_73 : decode cX11_takesOils 73 = .ok (.return_, 1) := by decide +kernel
theorem dX11_driest_0 : decode cX11_driest 0 = .ok (.iconst 0, 1) := by decide +kernel
theorem dX11_driest_1 : decode cX11_driest 1 = .ok (.istore_n 1, 1) := by decide +kernel
theorem dX11_driest_2 : decode cX11_driest 2 = .ok (.iconst 1, 1) := by decide +kernel
theorem dX11_driest_3 : decode cX11_driest 3 = .ok (.istore_n 2, 1) := by decide +kernel
theorem dX11_driest_4 : decode cX11_driest 4 = .ok (.iload_n 2, 1) := by decide +kernel
theorem dX11_driest_5 : decode cX11_driest 5 = .ok (.aload_n 0, 1) := by decide +kernel
theorem dX11_driest_6 : decode cX11_driest 6 = .ok (.getfield 92, 3) := by decide +kernel
theorem dX11_driest_9 : decode cX11_driest 9 = .ok (.if_icmp .ge 30, 3) := by decide +kernel
theorem dX11_driest_12 : decode cX11_driest 12 = .ok (.aload_n 0, 1) := by decide +kernel
theorem dX11_driest_13 : decode cX11_driest 13 = .ok (.getfield 32, 3) := by decide +kernel
theorem dX11_driest_16 : decode cX11_driest 16 = .ok (.iload_n 2, 1) := by decide +kernel
theorem dX11_driest_17 : decode cX11_driest 17 = .ok (.iaload, 1) := by decide +kernel
theorem dX11_driest_18 : decode cX11_driest 18 = .ok (.aload_n 0, 1) := by decide +kernel
theorem dX11_driest_19 : decode cX11_driest 19 = .ok (.getfield 32, 3) := by decide +kernel
theorem dX11_driest_22 : decode cX11_driest 22 = .ok (.iload_n 1, 1) := by decide +kernel
theorem dX11_driest_23 : decode cX11_driest 23 = .ok (.iaload, 1) := by decide +kernel
theorem dX11_driest_24 : decode cX11_driest 24 = .ok (.if_icmp .ge 7, 3) := by decide +kernel
theorem dX11_driest_27 : decode cX11_driest 27 = .ok (.iload_n 2, 1) := by decide +kernel
theorem dX11_driest_28 : decode cX11_driest 28 = .ok (.goto 4, 3) := by decide +kernel
theorem dX11_driest_31 : decode cX11_driest 31 = .ok (.iload_n 1, 1) := by decide +kernel
theorem dX11_driest_32 : decode cX11_driest 32 = .ok (.istore_n 1, 1) := by decide +kernel
theorem dX11_driest_33 : decode cX11_driest 33 = .ok (.iinc 2 1, 3) := by decide +kernel
theorem dX11_driest_36 : decode cX11_driest 36 = .ok (.goto (-32), 3) := by decide +kernel
theorem dX11_driest_39 : decode cX11_driest 39 = .ok (.iload_n 1, 1) := by decide +kernel
theorem dX11_driest_40 : decode cX11_driest 40 = .ok (.ireturn, 1) := by decide +kernel
theorem dX11_bringsOils_0 : decode cX11_bringsOils 0 = .ok (.iconst 0, 1) := by decide +kernel
theorem dX11_bringsOils_1 : decode cX11_bringsOils 1 = .ok (.istore_n 1, 1) := by decide +kernel
theorem dX11_bringsOils_2 : decode cX11_bringsOils 2 = .ok (.iconst 0, 1) := by decide +kernel
theorem dX11_bringsOils_3 : decode cX11_bringsOils 3 = .ok (.istore_n 2, 1) := by decide +kernel
theorem dX11_bringsOils_4 : decode cX11_bringsOils 4 = .ok (.iload_n 2, 1) := by decide +kernel
theorem dX11_bringsOils_5 : decode cX11_bringsOils 5 = .ok (.aload_n 0, 1) := by decide +kernel
theorem dX11_bringsOils_6 : decode cX11_bringsOils 6 = .ok (.getfield 9, 3) := by decide +kernel
theorem dX11_bringsOils_9 : decode cX11_bringsOils 9 = .ok (.iconst 0, 1) := by decide +kernel
theorem dX11_bringsOils_10 : decode cX11_bringsOils 10 = .ok (.iaload, 1) := by decide +kernel
theorem dX11_bringsOils_11 : decode cX11_bringsOils 11 = .ok (.if_icmp .ge 49, 3) := by decide +kernel
theorem dX11_bringsOils_14 : decode cX11_bringsOils 14 = .ok (.iconst 0, 1) := by decide +kernel
theorem dX11_bringsOils_15 : decode cX11_bringsOils 15 = .ok (.istore_n 3, 1) := by decide +kernel
theorem dX11_bringsOils_16 : decode cX11_bringsOils 16 = .ok (.iload_n 3, 1) := by decide +kernel
theorem dX11_bringsOils_17 : decode cX11_bringsOils 17 = .ok (.aload_n 0, 1) := by decide +kernel
theorem dX11_bringsOils_18 : decode cX11_bringsOils 18 = .ok (.iload_n 2, 1) := by decide +kernel
theorem dX11_bringsOils_19 : decode cX11_bringsOils 19 = .ok (.invokevirtual 75, 3) := by decide +kernel
theorem dX11_bringsOils_22 : decode cX11_bringsOils 22 = .ok (.if_icmp .ge 32, 3) := by decide +kernel
theorem dX11_bringsOils_25 : decode cX11_bringsOils 25 = .ok (.aload_n 0, 1) := by decide +kernel
theorem dX11_bringsOils_26 : decode cX11_bringsOils 26 = .ok (.getfield 9, 3) := by decide +kernel
theorem dX11_bringsOils_29 : decode cX11_bringsOils 29 = .ok (.iload_n 2, 1) := by decide +kernel
theorem dX11_bringsOils_30 : decode cX11_bringsOils 30 = .ok (.invokestatic 67, 3) := by decide +kernel
theorem dX11_bringsOils_33 : decode cX11_bringsOils 33 = .ok (.bipush 12, 2) := by decide +kernel
theorem dX11_bringsOils_35 : decode cX11_bringsOils 35 = .ok (.iadd, 1) := by decide +kernel
theorem dX11_bringsOils_36 : decode cX11_bringsOils 36 = .ok (.iload_n 3, 1) := by decide +kernel
theorem dX11_bringsOils_37 : decode cX11_bringsOils 37 = .ok (.iadd, 1) := by decide +kernel
theorem dX11_bringsOils_38 : decode cX11_bringsOils 38 = .ok (.aload_n 0, 1) := by decide +kernel
theorem dX11_bringsOils_39 : decode cX11_bringsOils 39 = .ok (.getfield 32, 3) := by decide +kernel
theorem dX11_bringsOils_42 : decode cX11_bringsOils 42 = .ok (.iload_n 1, 1) := by decide +kernel
theorem dX11_bringsOils_43 : decode cX11_bringsOils 43 = .ok (.iaload, 1) := by decide +kernel
theorem dX11_bringsOils_44 : decode cX11_bringsOils 44 = .ok (.iastore, 1) := by decide +kernel
theorem dX11_bringsOils_45 : decode cX11_bringsOils 45 = .ok (.iinc 1 1, 3) := by decide +kernel
theorem dX11_bringsOils_48 : decode cX11_bringsOils 48 = .ok (.iinc 3 1, 3) := by decide +kernel
theorem dX11_bringsOils_51 : decode cX11_bringsOils 51 = .ok (.goto (-35), 3) := by decide +kernel
theorem dX11_bringsOils_54 : decode cX11_bringsOils 54 = .ok (.iinc 2 1, 3) := by decide +kernel
theorem dX11_bringsOils_57 : decode cX11_bringsOils 57 = .ok (.goto (-53), 3) := by decide +kernel
theorem dX11_bringsOils_60 : decode cX11_bringsOils 60 = .ok (.return_, 1) := by decide +kernel
theorem dX11_least_0 : decode cX11_least 0 = .ok (.aload_n 0, 1) := by decide +kernel
theorem dX11_least_1 : decode cX11_least 1 = .ok (.invokevirtual 95, 3) := by decide +kernel
theorem dX11_least_4 : decode cX11_least 4 = .ok (.iconst 0, 1) := by decide +kernel
theorem dX11_least_5 : decode cX11_least 5 = .ok (.istore_n 2, 1) := by decide +kernel
theorem dX11_least_6 : decode cX11_least 6 = .ok (.iload_n 2, 1) := by decide +kernel
theorem dX11_least_7 : decode cX11_least 7 = .ok (.iload_n 1, 1) := by decide +kernel
theorem dX11_least_8 : decode cX11_least 8 = .ok (.if_icmp .ge 22, 3) := by decide +kernel
theorem dX11_least_11 : decode cX11_least 11 = .ok (.aload_n 0, 1) := by decide +kernel
theorem dX11_least_12 : decode cX11_least 12 = .ok (.getfield 32, 3) := by decide +kernel
theorem dX11_least_15 : decode cX11_least 15 = .ok (.aload_n 0, 1) := by decide +kernel
theorem dX11_least_16 : decode cX11_least 16 = .ok (.invokevirtual 98, 3) := by decide +kernel
theorem dX11_least_19 : decode cX11_least 19 = .ok (.dup2, 1) := by decide +kernel
theorem dX11_least_20 : decode cX11_least 20 = .ok (.iaload, 1) := by decide +kernel
theorem dX11_least_21 : decode cX11_least 21 = .ok (.iconst 1, 1) := by decide +kernel
theorem dX11_least_22 : decode cX11_least 22 = .ok (.iadd, 1) := by decide +kernel
theorem dX11_least_23 : decode cX11_least 23 = .ok (.iastore, 1) := by decide +kernel
theorem dX11_least_24 : decode cX11_least 24 = .ok (.iinc 2 1, 3) := by decide +kernel
theorem dX11_least_27 : decode cX11_least 27 = .ok (.goto (-21), 3) := by decide +kernel
theorem dX11_least_30 : decode cX11_least 30 = .ok (.aload_n 0, 1) := by decide +kernel
theorem dX11_least_31 : decode cX11_least 31 = .ok (.getfield 32, 3) := by decide +kernel
theorem dX11_least_34 : decode cX11_least 34 = .ok (.aload_n 0, 1) := by decide +kernel
theorem dX11_least_35 : decode cX11_least 35 = .ok (.invokevirtual 98, 3) := by decide +kernel
theorem dX11_least_38 : decode cX11_least 38 = .ok (.iaload, 1) := by decide +kernel
theorem dX11_least_39 : decode cX11_least 39 = .ok (.ireturn, 1) := by decide +kernel
theorem dX11_isAble_0 : decode cX11_isAble 0 = .ok (.aload_n 0, 1) := by decide +kernel
theorem dX11_isAble_1 : decode cX11_isAble 1 = .ok (.getfield 9, 3) := by decide +kernel
theorem dX11_isAble_4 : decode cX11_isAble 4 = .ok (.sipush 215, 3) := by decide +kernel
theorem dX11_isAble_7 : decode cX11_isAble 7 = .ok (.iload_n 1, 1) := by decide +kernel
theorem dX11_isAble_8 : decode cX11_isAble 8 = .ok (.iadd, 1) := by decide +kernel
theorem dX11_isAble_9 : decode cX11_isAble 9 = .ok (.iaload, 1) := by decide +kernel
theorem dX11_isAble_10 : decode cX11_isAble 10 = .ok (.iload_n 2, 1) := by decide +kernel
theorem dX11_isAble_11 : decode cX11_isAble 11 = .ok (.ishr, 1) := by decide +kernel
theorem dX11_isAble_12 : decode cX11_isAble 12 = .ok (.iconst 1, 1) := by decide +kernel
theorem dX11_isAble_13 : decode cX11_isAble 13 = .ok (.iand, 1) := by decide +kernel
theorem dX11_isAble_14 : decode cX11_isAble 14 = .ok (.iconst 1, 1) := by decide +kernel
theorem dX11_isAble_15 : decode cX11_isAble 15 = .ok (.if_icmp .ne 7, 3) := by decide +kernel
theorem dX11_isAble_18 : decode cX11_isAble 18 = .ok (.iconst 1, 1) := by decide +kernel
theorem dX11_isAble_19 : decode cX11_isAble 19 = .ok (.goto 4, 3) := by decide +kernel
theorem dX11_isAble_22 : decode cX11_isAble 22 = .ok (.iconst 0, 1) := by decide +kernel
theorem dX11_isAble_23 : decode cX11_isAble 23 = .ok (.ireturn, 1) := by decide +kernel
theorem dX11_behind_0 : decode cX11_behind 0 = .ok (.iload_n 2, 1) := by decide +kernel
theorem dX11_behind_1 : decode cX11_behind 1 = .ok (.iload_n 3, 1) := by decide +kernel
theorem dX11_behind_2 : decode cX11_behind 2 = .ok (.ishr, 1) := by decide +kernel
theorem dX11_behind_3 : decode cX11_behind 3 = .ok (.iconst 1, 1) := by decide +kernel
theorem dX11_behind_4 : decode cX11_behind 4 = .ok (.iand, 1) := by decide +kernel
theorem dX11_behind_5 : decode cX11_behind 5 = .ok (.iconst 1, 1) := by decide +kernel
theorem dX11_behind_6 : decode cX11_behind 6 = .ok (.if_icmp .ne 16, 3) := by decide +kernel
theorem dX11_behind_9 : decode cX11_behind 9 = .ok (.aload_n 0, 1) := by decide +kernel
theorem dX11_behind_10 : decode cX11_behind 10 = .ok (.iload_n 3, 1) := by decide +kernel
theorem dX11_behind_11 : decode cX11_behind 11 = .ok (.iload_n 1, 1) := by decide +kernel
theorem dX11_behind_12 : decode cX11_behind 12 = .ok (.invokevirtual 102, 3) := by decide +kernel
theorem dX11_behind_15 : decode cX11_behind 15 = .ok (.ifCond .eq 7, 3) := by decide +kernel
theorem dX11_behind_18 : decode cX11_behind 18 = .ok (.iconst 1, 1) := by decide +kernel
theorem dX11_behind_19 : decode cX11_behind 19 = .ok (.goto 4, 3) := by decide +kernel
theorem dX11_behind_22 : decode cX11_behind 22 = .ok (.iconst 0, 1) := by decide +kernel
theorem dX11_behind_23 : decode cX11_behind 23 = .ok (.istore 4, 2) := by decide +kernel
theorem dX11_behind_25 : decode cX11_behind 25 = .ok (.iload 4, 2) := by decide +kernel
theorem dX11_behind_27 : decode cX11_behind 27 = .ok (.ifCond .eq 27, 3) := by decide +kernel
theorem dX11_behind_30 : decode cX11_behind 30 = .ok (.iconst 1, 1) := by decide +kernel
theorem dX11_behind_31 : decode cX11_behind 31 = .ok (.aload_n 0, 1) := by decide +kernel
theorem dX11_behind_32 : decode cX11_behind 32 = .ok (.getfield 35, 3) := by decide +kernel
theorem dX11_behind_35 : decode cX11_behind 35 = .ok (.bipush 64, 2) := by decide +kernel
theorem dX11_behind_37 : decode cX11_behind 37 = .ok (.iload_n 1, 1) := by decide +kernel
theorem dX11_behind_38 : decode cX11_behind 38 = .ok (.iconst 1, 1) := by decide +kernel
theorem dX11_behind_39 : decode cX11_behind 39 = .ok (.iadd, 1) := by decide +kernel
theorem dX11_behind_40 : decode cX11_behind 40 = .ok (.imul, 1) := by decide +kernel
theorem dX11_behind_41 : decode cX11_behind 41 = .ok (.iload_n 2, 1) := by decide +kernel
theorem dX11_behind_42 : decode cX11_behind 42 = .ok (.iconst 1, 1) := by decide +kernel
theorem dX11_behind_43 : decode cX11_behind 43 = .ok (.iload_n 3, 1) := by decide +kernel
theorem dX11_behind_44 : decode cX11_behind 44 = .ok (.ishl, 1) := by decide +kernel
theorem dX11_behind_45 : decode cX11_behind 45 = .ok (.iconst (-1), 1) := by decide +kernel
theorem dX11_behind_46 : decode cX11_behind 46 = .ok (.ixor, 1) := by decide +kernel
theorem dX11_behind_47 : decode cX11_behind 47 = .ok (.iand, 1) := by decide +kernel
theorem dX11_behind_48 : decode cX11_behind 48 = .ok (.iadd, 1) := by decide +kernel
theorem dX11_behind_49 : decode cX11_behind 49 = .ok (.iaload, 1) := by decide +kernel
theorem dX11_behind_50 : decode cX11_behind 50 = .ok (.iadd, 1) := by decide +kernel
theorem dX11_behind_51 : decode cX11_behind 51 = .ok (.goto 4, 3) := by decide +kernel
theorem dX11_behind_54 : decode cX11_behind 54 = .ok (.iconst (-1), 1) := by decide +kernel
theorem dX11_behind_55 : decode cX11_behind 55 = .ok (.ireturn, 1) := by decide +kernel
theorem dX11_rotas_0 : decode cX11_rotas 0 = .ok (.iconst 0, 1) := by decide +kernel
theorem dX11_rotas_1 : decode cX11_rotas 1 = .ok (.istore_n 1, 1) := by decide +kernel
theorem dX11_rotas_2 : decode cX11_rotas 2 = .ok (.iload_n 1, 1) := by decide +kernel
theorem dX11_rotas_3 : decode cX11_rotas 3 = .ok (.bipush 64, 2) := by decide +kernel
theorem dX11_rotas_5 : decode cX11_rotas 5 = .ok (.if_icmp .ge 20, 3) := by decide +kernel
theorem dX11_rotas_8 : decode cX11_rotas 8 = .ok (.aload_n 0, 1) := by decide +kernel
theorem dX11_rotas_9 : decode cX11_rotas 9 = .ok (.getfield 35, 3) := by decide +kernel
theorem dX11_rotas_12 : decode cX11_rotas 12 = .ok (.sipush 512, 3) := by decide +kernel
theorem dX11_rotas_15 : decode cX11_rotas 15 = .ok (.iload_n 1, 1) := by decide +kernel
theorem dX11_rotas_16 : decode cX11_rotas 16 = .ok (.iadd, 1) := by decide +kernel
theorem dX11_rotas_17 : decode cX11_rotas 17 = .ok (.iconst 0, 1) := by decide +kernel
theorem dX11_rotas_18 : decode cX11_rotas 18 = .ok (.iastore, 1) := by decide +kernel
theorem dX11_rotas_19 : decode cX11_rotas 19 = .ok (.iinc 1 1, 3) := by decide +kernel
theorem dX11_rotas_22 : decode cX11_rotas 22 = .ok (.goto (-20), 3) := by decide +kernel
theorem dX11_rotas_25 : decode cX11_rotas 25 = .ok (.bipush 7, 2) := by decide +kernel
theorem dX11_rotas_27 : decode cX11_rotas 27 = .ok (.istore_n 1, 1) := by decide +kernel
theorem dX11_rotas_28 : decode cX11_rotas 28 = .ok (.iload_n 1, 1) := by decide +kernel
theorem dX11_rotas_29 : decode cX11_rotas 29 = .ok (.ifCond .lt 82, 3) := by decide +kernel
theorem dX11_rotas_32 : decode cX11_rotas 32 = .ok (.iconst 0, 1) := by decide +kernel
theorem dX11_rotas_33 : decode cX11_rotas 33 = .ok (.istore_n 2, 1) := by decide +kernel
theorem dX11_rotas_34 : decode cX11_rotas 34 = .ok (.iload_n 2, 1) := by decide +kernel
theorem dX11_rotas_35 : decode cX11_rotas 35 = .ok (.bipush 64, 2) := by decide +kernel
theorem dX11_rotas_37 : decode cX11_rotas 37 = .ok (.if_icmp .ge 68, 3) := by decide +kernel
theorem dX11_rotas_40 : decode cX11_rotas 40 = .ok (.aload_n 0, 1) := by decide +kernel
theorem dX11_rotas_41 : decode cX11_rotas 41 = .ok (.getfield 35, 3) := by decide +kernel
theorem dX11_rotas_44 : decode cX11_rotas 44 = .ok (.bipush 64, 2) := by decide +kernel
theorem dX11_rotas_46 : decode cX11_rotas 46 = .ok (.iload_n 1, 1) := by decide +kernel
theorem dX11_rotas_47 : decode cX11_rotas 47 = .ok (.iconst 1, 1) := by decide +kernel
theorem dX11_rotas_48 : decode cX11_rotas 48 = .ok (.iadd, 1) := by decide +kernel
theorem dX11_rotas_49 : decode cX11_rotas 49 = .ok (.imul, 1) := by decide +kernel
theorem dX11_rotas_50 : decode cX11_rotas 50 = .ok (.iload_n 2, 1) := by decide +kernel
theorem dX11_rotas_51 : decode cX11_rotas 51 = .ok (.iadd, 1) := by decide +kernel
theorem dX11_rotas_52 : decode cX11_rotas 52 = .ok (.iaload, 1) := by decide +kernel
theorem dX11_rotas_53 : decode cX11_rotas 53 = .ok (.istore_n 3, 1) := by decide +kernel
theorem dX11_rotas_54 : decode cX11_rotas 54 = .ok (.iconst 0, 1) := by decide +kernel
theorem dX11_rotas_55 : decode cX11_rotas 55 = .ok (.istore 4, 2) := by decide +kernel
theorem dX11_rotas_57 : decode cX11_rotas 57 = .ok (.iload 4, 2) := by decide +kernel
theorem dX11_rotas_59 : decode cX11_rotas 59 = .ok (.aload_n 0, 1) := by decide +kernel
theorem dX11_rotas_60 : decode cX11_rotas 60 = .ok (.getfield 9, 3) := by decide +kernel
theorem dX11_rotas_63 : decode cX11_rotas 63 = .ok (.iconst 3, 1) := by decide +kernel
theorem dX11_rotas_64 : decode cX11_rotas 64 = .ok (.iaload, 1) := by decide +kernel
theorem dX11_rotas_65 : decode cX11_rotas 65 = .ok (.if_icmp .ge 22, 3) := by decide +kernel
theorem dX11_rotas_68 : decode cX11_rotas 68 = .ok (.iload_n 3, 1) := by decide +kernel
theorem dX11_rotas_69 : decode cX11_rotas 69 = .ok (.aload_n 0, 1) := by decide +kernel
theorem dX11_rotas_70 : decode cX11_rotas 70 = .ok (.iload_n 1, 1) := by decide +kernel
theorem dX11_rotas_71 : decode cX11_rotas 71 = .ok (.iload_n 2, 1) := by decide +kernel
theorem dX11_rotas_72 : decode cX11_rotas 72 = .ok (.iload 4, 2) := by decide +kernel
theorem dX11_rotas_74 : decode cX11_rotas 74 = .ok (.invokevirtual 106, 3) := by decide +kernel
theorem dX11_rotas_77 : decode cX11_rotas 77 = .ok (.invokestatic 110, 3) := by decide +kernel
theorem dX11_rotas_80 : decode cX11_rotas 80 = .ok (.istore_n 3, 1) := by decide +kernel
theorem dX11_rotas_81 : decode cX11_rotas 81 = .ok (.iinc 4 1, 3) := by decide +kernel
theorem dX11_rotas_84 : decode cX11_rotas 84 = .ok (.goto (-27), 3) := by decide +kernel
theorem dX11_rotas_87 : decode cX11_rotas 87 = .ok (.aload_n 0, 1) := by decide +kernel
theorem dX11_rotas_88 : decode cX11_rotas 88 = .ok (.getfield 35, 3) := by decide +kernel
theorem dX11_rotas_91 : decode cX11_rotas 91 = .ok (.bipush 64, 2) := by decide +kernel
theorem dX11_rotas_93 : decode cX11_rotas 93 = .ok (.iload_n 1, 1) := by decide +kernel
theorem dX11_rotas_94 : decode cX11_rotas 94 = .ok (.imul, 1) := by decide +kernel
theorem dX11_rotas_95 : decode cX11_rotas 95 = .ok (.iload_n 2, 1) := by decide +kernel
theorem dX11_rotas_96 : decode cX11_rotas 96 = .ok (.iadd, 1) := by decide +kernel
theorem dX11_rotas_97 : decode cX11_rotas 97 = .ok (.iload_n 3, 1) := by decide +kernel
theorem dX11_rotas_98 : decode cX11_rotas 98 = .ok (.iastore, 1) := by decide +kernel
theorem dX11_rotas_99 : decode cX11_rotas 99 = .ok (.iinc 2 1, 3) := by decide +kernel
theorem dX11_rotas_102 : decode cX11_rotas 102 = .ok (.goto (-68), 3) := by decide +kernel
theorem dX11_rotas_105 : decode cX11_rotas 105 = .ok (.iinc 1 (-1), 3) := by decide +kernel
theorem dX11_rotas_108 : decode cX11_rotas 108 = .ok (.goto (-80), 3) := by decide +kernel
theorem dX11_rotas_111 : decode cX11_rotas 111 = .ok (.iconst 1, 1) := by decide +kernel
theorem dX11_rotas_112 : decode cX11_rotas 112 = .ok (.aload_n 0, 1) := by decide +kernel
theorem dX11_rotas_113 : decode cX11_rotas 113 = .ok (.getfield 9, 3) := by decide +kernel
theorem dX11_rotas_116 : decode cX11_rotas 116 = .ok (.iconst 3, 1) := by decide +kernel
theorem dX11_rotas_117 : decode cX11_rotas 117 = .ok (.iaload, 1) := by decide +kernel
theorem dX11_rotas_118 : decode cX11_rotas 118 = .ok (.ishl, 1) := by decide +kernel
theorem dX11_rotas_119 : decode cX11_rotas 119 = .ok (.iconst 1, 1) := by decide +kernel
theorem dX11_rotas_120 : decode cX11_rotas 120 = .ok (.isub, 1) := by decide +kernel
theorem dX11_rotas_121 : decode cX11_rotas 121 = .ok (.istore_n 1, 1) := by decide +kernel
theorem dX11_rotas_122 : decode cX11_rotas 122 = .ok (.aload_n 0, 1) := by decide +kernel
theorem dX11_rotas_123 : decode cX11_rotas 123 = .ok (.getfield 35, 3) := by decide +kernel
theorem dX11_rotas_126 : decode cX11_rotas 126 = .ok (.iload_n 1, 1) := by decide +kernel
theorem dX11_rotas_127 : decode cX11_rotas 127 = .ok (.iaload, 1) := by decide +kernel
theorem dX11_rotas_128 : decode cX11_rotas 128 = .ok (.istore_n 2, 1) := by decide +kernel
theorem dX11_rotas_129 : decode cX11_rotas 129 = .ok (.iconst 0, 1) := by decide +kernel
theorem dX11_rotas_130 : decode cX11_rotas 130 = .ok (.istore_n 3, 1) := by decide +kernel
theorem dX11_rotas_131 : decode cX11_rotas 131 = .ok (.iload_n 3, 1) := by decide +kernel
theorem dX11_rotas_132 : decode cX11_rotas 132 = .ok (.bipush 8, 2) := by decide +kernel
theorem dX11_rotas_134 : decode cX11_rotas 134 = .ok (.if_icmp .ge 103, 3) := by decide +kernel
theorem dX11_rotas_137 : decode cX11_rotas 137 = .ok (.aload_n 0, 1) := by decide +kernel
theorem dX11_rotas_138 : decode cX11_rotas 138 = .ok (.getfield 38, 3) := by decide +kernel
theorem dX11_rotas_141 : decode cX11_rotas 141 = .ok (.iload_n 3, 1) := by decide +kernel
theorem dX11_rotas_142 : decode cX11_rotas 142 = .ok (.iconst (-1), 1) := by decide +kernel
theorem dX11_rotas_143 : decode cX11_rotas 143 = .ok (.iastore, 1) := by decide +kernel
theorem dX11_rotas_144 : decode cX11_rotas 144 = .ok (.aload_n 0, 1) := by decide +kernel
theorem dX11_rotas_145 : decode cX11_rotas 145 = .ok (.getfield 9, 3) := by decide +kernel
theorem dX11_rotas_148 : decode cX11_rotas 148 = .ok (.iconst 3, 1) := by decide +kernel
theorem dX11_rotas_149 : decode cX11_rotas 149 = .ok (.iaload, 1) := by decide +kernel
theorem dX11_rotas_150 : decode cX11_rotas 150 = .ok (.iconst 1, 1) := by decide +kernel
theorem dX11_rotas_151 : decode cX11_rotas 151 = .ok (.isub, 1) := by decide +kernel
theorem dX11_rotas_152 : decode cX11_rotas 152 = .ok (.istore 4, 2) := by decide +kernel
theorem dX11_rotas_154 : decode cX11_rotas 154 = .ok (.iload 4, 2) := by decide +kernel
theorem dX11_rotas_156 : decode cX11_rotas 156 = .ok (.ifCond .lt 48, 3) := by decide +kernel
theorem dX11_rotas_159 : decode cX11_rotas 159 = .ok (.aload_n 0, 1) := by decide +kernel
theorem dX11_rotas_160 : decode cX11_rotas 160 = .ok (.getfield 38, 3) := by decide +kernel
theorem dX11_rotas_163 : decode cX11_rotas 163 = .ok (.iload_n 3, 1) := by decide +kernel
theorem dX11_rotas_164 : decode cX11_rotas 164 = .ok (.aload_n 0, 1) := by decide +kernel
theorem dX11_rotas_165 : decode cX11_rotas 165 = .ok (.iload_n 3, 1) := by decide +kernel
theorem dX11_rotas_166 : decode cX11_rotas 166 = .ok (.iload_n 1, 1) := by decide +kernel
theorem dX11_rotas_167 : decode cX11_rotas 167 = .ok (.iload 4, 2) := by decide +kernel
theorem dX11_rotas_169 : decode cX11_rotas 169 = .ok (.invokevirtual 106, 3) := by decide +kernel
theorem dX11_rotas_172 : decode cX11_rotas 172 = .ok (.aload_n 0, 1) := by decide +kernel
theorem dX11_rotas_173 : decode cX11_rotas 173 = .ok (.getfield 35, 3) := by decide +kernel
theorem dX11_rotas_176 : decode cX11_rotas 176 = .ok (.bipush 64, 2) := by decide +kernel
theorem dX11_rotas_178 : decode cX11_rotas 178 = .ok (.iload_n 3, 1) := by decide +kernel
theorem dX11_rotas_179 : decode cX11_rotas 179 = .ok (.imul, 1) := by decide +kernel
theorem dX11_rotas_180 : decode cX11_rotas 180 = .ok (.iload_n 1, 1) := by decide +kernel
theorem dX11_rotas_181 : decode cX11_rotas 181 = .ok (.iadd, 1) := by decide +kernel
theorem dX11_rotas_182 : decode cX11_rotas 182 = .ok (.iaload, 1) := by decide +kernel
theorem dX11_rotas_183 : decode cX11_rotas 183 = .ok (.if_icmp .ne 8, 3) := by decide +kernel
theorem dX11_rotas_186 : decode cX11_rotas 186 = .ok (.iload 4, 2) := by decide +kernel
theorem dX11_rotas_188 : decode cX11_rotas 188 = .ok (.goto 9, 3) := by decide +kernel
theorem dX11_rotas_191 : decode cX11_rotas 191 = .ok (.aload_n 0, 1) := by decide +kernel
theorem dX11_rotas_192 : decode cX11_rotas 192 = .ok (.getfield 38, 3) := by decide +kernel
theorem dX11_rotas_195 : decode cX11_rotas 195 = .ok (.iload_n 3, 1) := by decide +kernel
theorem dX11_rotas_196 : decode cX11_rotas 196 = .ok (.iaload, 1) := by decide +kernel
theorem dX11_rotas_197 : decode cX11_rotas 197 = .ok (.iastore, 1) := by decide +kernel
theorem dX11_rotas_198 : decode cX11_rotas 198 = .ok (.iinc 4 (-1), 3) := by decide +kernel
theorem dX11_rotas_201 : decode cX11_rotas 201 = .ok (.goto (-47), 3) := by decide +kernel
theorem dX11_rotas_204 : decode cX11_rotas 204 = .ok (.iload_n 1, 1) := by decide +kernel
theorem dX11_rotas_205 : decode cX11_rotas 205 = .ok (.aload_n 0, 1) := by decide +kernel
theorem dX11_rotas_206 : decode cX11_rotas 206 = .ok (.getfield 38, 3) := by decide +kernel
theorem dX11_rotas_209 : decode cX11_rotas 209 = .ok (.iload_n 3, 1) := by decide +kernel
theorem dX11_rotas_210 : decode cX11_rotas 210 = .ok (.iaload, 1) := by decide +kernel
theorem dX11_rotas_211 : decode cX11_rotas 211 = .ok (.iconst (-1), 1) := by decide +kernel
theorem dX11_rotas_212 : decode cX11_rotas 212 = .ok (.if_icmp .ne 7, 3) := by decide +kernel
theorem dX11_rotas_215 : decode cX11_rotas 215 = .ok (.iload_n 1, 1) := by decide +kernel
theorem dX11_rotas_216 : decode cX11_rotas 216 = .ok (.goto 13, 3) := by decide +kernel
theorem dX11_rotas_219 : decode cX11_rotas 219 = .ok (.iconst 1, 1) := by decide +kernel
theorem dX11_rotas_220 : decode cX11_rotas 220 = .ok (.aload_n 0, 1) := by decide +kernel
theorem dX11_rotas_221 : decode cX11_rotas 221 = .ok (.getfield 38, 3) := by decide +kernel
theorem dX11_rotas_224 : decode cX11_rotas 224 = .ok (.iload_n 3, 1) := by decide +kernel
theorem dX11_rotas_225 : decode cX11_rotas 225 = .ok (.iaload, 1) := by decide +kernel
theorem dX11_rotas_226 : decode cX11_rotas 226 = .ok (.ishl, 1) := by decide +kernel
theorem dX11_rotas_227 : decode cX11_rotas 227 = .ok (.iconst (-1), 1) := by decide +kernel
theorem dX11_rotas_228 : decode cX11_rotas 228 = .ok (.ixor, 1) := by decide +kernel
theorem dX11_rotas_229 : decode cX11_rotas 229 = .ok (.iand, 1) := by decide +kernel
theorem dX11_rotas_230 : decode cX11_rotas 230 = .ok (.istore_n 1, 1) := by decide +kernel
theorem dX11_rotas_231 : decode cX11_rotas 231 = .ok (.iinc 3 1, 3) := by decide +kernel
theorem dX11_rotas_234 : decode cX11_rotas 234 = .ok (.goto (-103), 3) := by decide +kernel
theorem dX11_rotas_237 : decode cX11_rotas 237 = .ok (.iload_n 2, 1) := by decide +kernel
theorem dX11_rotas_238 : decode cX11_rotas 238 = .ok (.ireturn, 1) := by decide +kernel
theorem dX11_repairAt_0 : decode cX11_repairAt 0 = .ok (.aload_n 0, 1) := by decide +kernel
theorem dX11_repairAt_1 : decode cX11_repairAt 1 = .ok (.getfield 9, 3) := by decide +kernel
theorem dX11_repairAt_4 : decode cX11_repairAt 4 = .ok (.sipush 221, 3) := by decide +kernel
theorem dX11_repairAt_7 : decode cX11_repairAt 7 = .ok (.iconst 3, 1) := by decide +kernel
theorem dX11_repairAt_8 : decode cX11_repairAt 8 = .ok (.iload_n 1, 1) := by decide +kernel
theorem dX11_repairAt_9 : decode cX11_repairAt 9 = .ok (.imul, 1) := by decide +kernel
theorem dX11_repairAt_10 : decode cX11_repairAt 10 = .ok (.iadd, 1) := by decide +kernel
theorem dX11_repairAt_11 : decode cX11_repairAt 11 = .ok (.iload_n 2, 1) := by decide +kernel
theorem dX11_repairAt_12 : decode cX11_repairAt 12 = .ok (.iadd, 1) := by decide +kernel
theorem dX11_repairAt_13 : decode cX11_repairAt 13 = .ok (.iaload, 1) := by decide +kernel
theorem dX11_repairAt_14 : decode cX11_repairAt 14 = .ok (.ireturn, 1) := by decide +kernel
theorem dX11_isSooner_0 : decode cX11_isSooner 0 = .ok (.aload_n 0, 1) := by decide +kernel
theorem dX11_isSooner_1 : decode cX11_isSooner 1 = .ok (.iload_n 1, 1) := by decide +kernel
theorem dX11_isSooner_2 : decode cX11_isSooner 2 = .ok (.iconst 1, 1) := by decide +kernel
theorem dX11_isSooner_3 : decode cX11_isSooner 3 = .ok (.invokevirtual 115, 3) := by decide +kernel
theorem dX11_isSooner_6 : decode cX11_isSooner 6 = .ok (.aload_n 0, 1) := by decide +kernel
theorem dX11_isSooner_7 : decode cX11_isSooner 7 = .ok (.iload_n 2, 1) := by decide +kernel
theorem dX11_isSooner_8 : decode cX11_isSooner 8 = .ok (.iconst 2, 1) := by decide +kernel
theorem dX11_isSooner_9 : decode cX11_isSooner 9 = .ok (.invokevirtual 115, 3) := by decide +kernel
theorem dX11_isSooner_12 : decode cX11_isSooner 12 = .ok (.imul, 1) := by decide +kernel
theorem dX11_isSooner_13 : decode cX11_isSooner 13 = .ok (.aload_n 0, 1) := by decide +kernel
theorem dX11_isSooner_14 : decode cX11_isSooner 14 = .ok (.iload_n 2, 1) := by decide +kernel
theorem dX11_isSooner_15 : decode cX11_isSooner 15 = .ok (.iconst 1, 1) := by decide +kernel
theorem dX11_isSooner_16 : decode cX11_isSooner 16 = .ok (.invokevirtual 115, 3) := by decide +kernel
theorem dX11_isSooner_19 : decode cX11_isSooner 19 = .ok (.aload_n 0, 1) := by decide +kernel
theorem dX11_isSooner_20 : decode cX11_isSooner 20 = .ok (.iload_n 1, 1) := by decide +kernel
theorem dX11_isSooner_21 : decode cX11_isSooner 21 = .ok (.iconst 2, 1) := by decide +kernel
theorem dX11_isSooner_22 : decode cX11_isSooner 22 = .ok (.invokevirtual 115, 3) := by decide +kernel
theorem dX11_isSooner_25 : decode cX11_isSooner 25 = .ok (.imul, 1) := by decide +kernel
theorem dX11_isSooner_26 : decode cX11_isSooner 26 = .ok (.isub, 1) := by decide +kernel
theorem dX11_isSooner_27 : decode cX11_isSooner 27 = .ok (.istore_n 3, 1) := by decide +kernel
theorem dX11_isSooner_28 : decode cX11_isSooner 28 = .ok (.iload_n 3, 1) := by decide +kernel
theorem dX11_isSooner_29 : decode cX11_isSooner 29 = .ok (.ifCond .lt 12, 3) := by decide +kernel
theorem dX11_isSooner_32 : decode cX11_isSooner 32 = .ok (.iload_n 3, 1) := by decide +kernel
theorem dX11_isSooner_33 : decode cX11_isSooner 33 = .ok (.ifCond .ne 12, 3) := by decide +kernel
theorem dX11_isSooner_36 : decode cX11_isSooner 36 = .ok (.iload_n 1, 1) := by decide +kernel
theorem dX11_isSooner_37 : decode cX11_isSooner 37 = .ok (.iload_n 2, 1) := by decide +kernel
theorem dX11_isSooner_38 : decode cX11_isSooner 38 = .ok (.if_icmp .ge 7, 3) := by decide +kernel
theorem dX11_isSooner_41 : decode cX11_isSooner 41 = .ok (.iconst 1, 1) := by decide +kernel
theorem dX11_isSooner_42 : decode cX11_isSooner 42 = .ok (.goto 4, 3) := by decide +kernel
theorem dX11_isSooner_45 : decode cX11_isSooner 45 = .ok (.iconst 0, 1) := by decide +kernel
theorem dX11_isSooner_46 : decode cX11_isSooner 46 = .ok (.ireturn, 1) := by decide +kernel
theorem dX11_before_0 : decode cX11_before 0 = .ok (.iconst 0, 1) := by decide +kernel
theorem dX11_before_1 : decode cX11_before 1 = .ok (.istore_n 2, 1) := by decide +kernel
theorem dX11_before_2 : decode cX11_before 2 = .ok (.iconst 0, 1) := by decide +kernel
theorem dX11_before_3 : decode cX11_before 3 = .ok (.istore_n 3, 1) := by decide +kernel
theorem dX11_before_4 : decode cX11_before 4 = .ok (.iload_n 3, 1) := by decide +kernel
theorem dX11_before_5 : decode cX11_before 5 = .ok (.aload_n 0, 1) := by decide +kernel
theorem dX11_before_6 : decode cX11_before 6 = .ok (.getfield 9, 3) := by decide +kernel
theorem dX11_before_9 : decode cX11_before 9 = .ok (.iconst 4, 1) := by decide +kernel
theorem dX11_before_10 : decode cX11_before 10 = .ok (.iaload, 1) := by decide +kernel
theorem dX11_before_11 : decode cX11_before 11 = .ok (.if_icmp .ge 31, 3) := by decide +kernel
theorem dX11_before_14 : decode cX11_before 14 = .ok (.iload_n 2, 1) := by decide +kernel
theorem dX11_before_15 : decode cX11_before 15 = .ok (.aload_n 0, 1) := by decide +kernel
theorem dX11_before_16 : decode cX11_before 16 = .ok (.iload_n 3, 1) := by decide +kernel
theorem dX11_before_17 : decode cX11_before 17 = .ok (.iload_n 1, 1) := by decide +kernel
theorem dX11_before_18 : decode cX11_before 18 = .ok (.invokevirtual 118, 3) := by decide +kernel
theorem dX11_before_21 : decode cX11_before 21 = .ok (.ifCond .eq 12, 3) := by decide +kernel
theorem dX11_before_24 : decode cX11_before 24 = .ok (.aload_n 0, 1) := by decide +kernel
theorem dX11_before_25 : decode cX11_before 25 = .ok (.iload_n 3, 1) := by decide +kernel
theorem dX11_before_26 : decode cX11_before 26 = .ok (.iconst 1, 1) := by decide +kernel
theorem dX11_before_27 : decode cX11_before 27 = .ok (.invokevirtual 115, 3) := by decide +kernel
theorem dX11_before_30 : decode cX11_before 30 = .ok (.goto 4, 3) := by decide +kernel
theorem dX11_before_33 : decode cX11_before 33 = .ok (.iconst 0, 1) := by decide +kernel
theorem dX11_before_34 : decode cX11_before 34 = .ok (.iadd, 1) := by decide +kernel
theorem dX11_before_35 : decode cX11_before 35 = .ok (.istore_n 2, 1) := by decide +kernel
theorem dX11_before_36 : decode cX11_before 36 = .ok (.iinc 3 1, 3) := by decide +kernel
theorem dX11_before_39 : decode cX11_before 39 = .ok (.goto (-35), 3) := by decide +kernel
theorem dX11_before_42 : decode cX11_before 42 = .ok (.iload_n 2, 1) := by decide +kernel
theorem dX11_before_43 : decode cX11_before 43 = .ok (.ireturn, 1) := by decide +kernel
theorem dX11_dropsRepair_0 : decode cX11_dropsRepair 0 = .ok (.sipush 221, 3) := by decide +kernel
theorem dX11_dropsRepair_3 : decode cX11_dropsRepair 3 = .ok (.iconst 3, 1) := by decide +kernel
theorem dX11_dropsRepair_4 : decode cX11_dropsRepair 4 = .ok (.iload_n 1, 1) := by decide +kernel
theorem dX11_dropsRepair_5 : decode cX11_dropsRepair 5 = .ok (.imul, 1) := by decide +kernel
theorem dX11_dropsRepair_6 : decode cX11_dropsRepair 6 = .ok (.iadd, 1) := by decide +kernel
theorem dX11_dropsRepair_7 : decode cX11_dropsRepair 7 = .ok (.istore_n 2, 1) := by decide +kernel
theorem dX11_dropsRepair_8 : decode cX11_dropsRepair 8 = .ok (.iload_n 2, 1) := by decide +kernel
theorem dX11_dropsRepair_9 : decode cX11_dropsRepair 9 = .ok (.sipush 242, 3) := by decide +kernel
theorem dX11_dropsRepair_12 : decode cX11_dropsRepair 12 = .ok (.if_icmp .ge 23, 3) := by decide +kernel
theorem dX11_dropsRepair_15 : decode cX11_dropsRepair 15 = .ok (.aload_n 0, 1) := by decide +kernel
theorem dX11_dropsRepair_16 : decode cX11_dropsRepair 16 = .ok (.getfield 9, 3) := by decide +kernel
theorem dX11_dropsRepair_19 : decode cX11_dropsRepair 19 = .ok (.iload_n 2, 1) := by decide +kernel
theorem dX11_dropsRepair_20 : decode cX11_dropsRepair 20 = .ok (.aload_n 0, 1) := by decide +kernel
theorem dX11_dropsRepair_21 : decode cX11_dropsRepair 21 = .ok (.getfield 9, 3) := by decide +kernel
theorem dX11_dropsRepair_24 : decode cX11_dropsRepair 24 = .ok (.iload_n 2, 1) := by decide +kernel
theorem dX11_dropsRepair_25 : decode cX11_dropsRepair 25 = .ok (.iconst 3, 1) := by decide +kernel
theorem dX11_dropsRepair_26 : decode cX11_dropsRepair 26 = .ok (.iadd, 1) := by decide +kernel
theorem dX11_dropsRepair_27 : decode cX11_dropsRepair 27 = .ok (.iaload, 1) := by decide +kernel
theorem dX11_dropsRepair_28 : decode cX11_dropsRepair 28 = .ok (.iastore, 1) := by decide +kernel
theorem dX11_dropsRepair_29 : decode cX11_dropsRepair 29 = .ok (.iinc 2 1, 3) := by decide +kernel
theorem dX11_dropsRepair_32 : decode cX11_dropsRepair 32 = .ok (.goto (-24), 3) := by decide +kernel
theorem dX11_dropsRepair_35 : decode cX11_dropsRepair 35 = .ok (.sipush 242, 3) := by decide +kernel
theorem dX11_dropsRepair_38 : decode cX11_dropsRepair 38 = .ok (.istore_n 2, 1) := by decide +kernel
theorem dX11_dropsRepair_39 : decode cX11_dropsRepair 39 = .ok (.iload_n 2, 1) := by decide +kernel
theorem dX11_dropsRepair_40 : decode cX11_dropsRepair 40 = .ok (.sipush 245, 3) := by decide +kernel
theorem dX11_dropsRepair_43 : decode cX11_dropsRepair 43 = .ok (.if_icmp .ge 16, 3) := by decide +kernel
theorem dX11_dropsRepair_46 : decode cX11_dropsRepair 46 = .ok (.aload_n 0, 1) := by decide +kernel
theorem dX11_dropsRepair_47 : decode cX11_dropsRepair 47 = .ok (.getfield 9, 3) := by decide +kernel
theorem dX11_dropsRepair_50 : decode cX11_dropsRepair 50 = .ok (.iload_n 2, 1) := by decide +kernel
theorem dX11_dropsRepair_51 : decode cX11_dropsRepair 51 = .ok (.iconst 0, 1) := by decide +kernel
theorem dX11_dropsRepair_52 : decode cX11_dropsRepair 52 = .ok (.iastore, 1) := by decide +kernel
theorem dX11_dropsRepair_53 : decode cX11_dropsRepair 53 = .ok (.iinc 2 1, 3) := by decide +kernel
theorem dX11_dropsRepair_56 : decode cX11_dropsRepair 56 = .ok (.goto (-17), 3) := by decide +kernel
theorem dX11_dropsRepair_59 : decode cX11_dropsRepair 59 = .ok (.aload_n 0, 1) := by decide +kernel
theorem dX11_dropsRepair_60 : decode cX11_dropsRepair 60 = .ok (.getfield 9, 3) := by decide +kernel
theorem dX11_dropsRepair_63 : decode cX11_dropsRepair 63 = .ok (.iconst 4, 1) := by decide +kernel
theorem dX11_dropsRepair_64 : decode cX11_dropsRepair 64 = .ok (.dup2, 1) := by decide +kernel
theorem dX11_dropsRepair_65 : decode cX11_dropsRepair 65 = .ok (.iaload, 1) := by decide +kernel
theorem dX11_dropsRepair_66 : decode cX11_dropsRepair 66 = .ok (.iconst 1, 1) := by decide +kernel
theorem dX11_dropsRepair_67 : decode cX11_dropsRepair 67 = .ok (.isub, 1) := by decide +kernel
theorem dX11_dropsRepair_68 : decode cX11_dropsRepair 68 = .ok (.iastore, 1) := by decide +kernel
theorem dX11_dropsRepair_69 : decode cX11_dropsRepair 69 = .ok (.return_, 1) := by decide +kernel
theorem dX11_engineIt_0 : decode cX11_engineIt 0 = .ok (.iload_n 1, 1) := by decide +kernel
theorem dX11_engineIt_1 : decode cX11_engineIt 1 = .ok (.i2l, 1) := by decide +kernel
theorem dX11_engineIt_2 : decode cX11_engineIt 2 = .ok (.ldc2_w 121, 3) := by decide +kernel
theorem dX11_engineIt_5 : decode cX11_engineIt 5 = .ok (.ldc2_w 123, 3) := by decide +kernel
theorem dX11_engineIt_8 : decode cX11_engineIt 8 = .ok (.invokestatic 63, 3) := by decide +kernel
theorem dX11_engineIt_11 : decode cX11_engineIt 11 = .ok (.ifCond .ne 9, 3) := by decide +kernel
theorem dX11_engineIt_14 : decode cX11_engineIt 14 = .ok (.aload_n 0, 1) := by decide +kernel
theorem dX11_engineIt_15 : decode cX11_engineIt 15 = .ok (.iconst 1, 1) := by decide +kernel
theorem dX11_engineIt_16 : decode cX11_engineIt 16 = .ok (.invokevirtual 125, 3) := by decide +kernel
theorem dX11_engineIt_19 : decode cX11_engineIt 19 = .ok (.ireturn, 1) := by decide +kernel
theorem dX11_engineIt_20 : decode cX11_engineIt 20 = .ok (.aload_n 0, 1) := by decide +kernel
theorem dX11_engineIt_21 : decode cX11_engineIt 21 = .ok (.getfield 9, 3) := by decide +kernel
theorem dX11_engineIt_24 : decode cX11_engineIt 24 = .ok (.iconst 0, 1) := by decide +kernel
theorem dX11_engineIt_25 : decode cX11_engineIt 25 = .ok (.iaload, 1) := by decide +kernel
theorem dX11_engineIt_26 : decode cX11_engineIt 26 = .ok (.iconst 4, 1) := by decide +kernel
theorem dX11_engineIt_27 : decode cX11_engineIt 27 = .ok (.if_icmp .ne 9, 3) := by decide +kernel
theorem dX11_engineIt_30 : decode cX11_engineIt 30 = .ok (.aload_n 0, 1) := by decide +kernel
theorem dX11_engineIt_31 : decode cX11_engineIt 31 = .ok (.iconst 2, 1) := by decide +kernel
theorem dX11_engineIt_32 : decode cX11_engineIt 32 = .ok (.invokevirtual 125, 3) := by decide +kernel
theorem dX11_engineIt_35 : decode cX11_engineIt 35 = .ok (.ireturn, 1) := by decide +kernel
theorem dX11_engineIt_36 : decode cX11_engineIt 36 = .ok (.aload_n 0, 1) := by decide +kernel
theorem dX11_engineIt_37 : decode cX11_engineIt 37 = .ok (.getfield 9, 3) := by decide +kernel
theorem dX11_engineIt_40 : decode cX11_engineIt 40 = .ok (.iconst 0, 1) := by decide +kernel
theorem dX11_engineIt_41 : decode cX11_engineIt 41 = .ok (.iaload, 1) := by decide +kernel
theorem dX11_engineIt_42 : decode cX11_engineIt 42 = .ok (.invokestatic 67, 3) := by decide +kernel
theorem dX11_engineIt_45 : decode cX11_engineIt 45 = .ok (.istore_n 2, 1) := by decide +kernel
theorem dX11_engineIt_46 : decode cX11_engineIt 46 = .ok (.aload_n 0, 1) := by decide +kernel
theorem dX11_engineIt_47 : decode cX11_engineIt 47 = .ok (.getfield 9, 3) := by decide +kernel
theorem dX11_engineIt_50 : decode cX11_engineIt 50 = .ok (.iload_n 2, 1) := by decide +kernel
theorem dX11_engineIt_51 : decode cX11_engineIt 51 = .ok (.iload_n 1, 1) := by decide +kernel
theorem dX11_engineIt_52 : decode cX11_engineIt 52 = .ok (.iastore, 1) := by decide +kernel
theorem dX11_engineIt_53 : decode cX11_engineIt 53 = .ok (.iconst 0, 1) := by decide +kernel
theorem dX11_engineIt_54 : decode cX11_engineIt 54 = .ok (.istore_n 3, 1) := by decide +kernel
theorem dX11_engineIt_55 : decode cX11_engineIt 55 = .ok (.iload_n 3, 1) := by decide +kernel
theorem dX11_engineIt_56 : decode cX11_engineIt 56 = .ok (.iload_n 1, 1) := by decide +kernel
theorem dX11_engineIt_57 : decode cX11_engineIt 57 = .ok (.if_icmp .ge 32, 3) := by decide +kernel
theorem dX11_engineIt_60 : decode cX11_engineIt 60 = .ok (.aload_n 0, 1) := by decide +kernel
theorem dX11_engineIt_61 : decode cX11_engineIt 61 = .ok (.getfield 9, 3) := by decide +kernel
theorem dX11_engineIt_64 : decode cX11_engineIt 64 = .ok (.iload_n 2, 1) := by decide +kernel
theorem dX11_engineIt_65 : decode cX11_engineIt 65 = .ok (.iconst 4, 1) := by decide +kernel
theorem dX11_engineIt_66 : decode cX11_engineIt 66 = .ok (.iadd, 1) := by decide +kernel
theorem dX11_engineIt_67 : decode cX11_engineIt 67 = .ok (.iload_n 3, 1) := by decide +kernel
theorem dX11_engineIt_68 : decode cX11_engineIt 68 = .ok (.iadd, 1) := by decide +kernel
theorem dX11_engineIt_69 : decode cX11_engineIt 69 = .ok (.iload_n 3, 1) := by decide +kernel
theorem dX11_engineIt_70 : decode cX11_engineIt 70 = .ok (.iastore, 1) := by decide +kernel
theorem dX11_engineIt_71 : decode cX11_engineIt 71 = .ok (.aload_n 0, 1) := by decide +kernel
theorem dX11_engineIt_72 : decode cX11_engineIt 72 = .ok (.getfield 9, 3) := by decide +kernel
theorem dX11_engineIt_75 : decode cX11_engineIt 75 = .ok (.iload_n 2, 1) := by decide +kernel
theorem dX11_engineIt_76 : decode cX11_engineIt 76 = .ok (.bipush 12, 2) := by decide +kernel
theorem dX11_engineIt_78 : decode cX11_engineIt 78 = .ok (.iadd, 1) := by decide +kernel
theorem dX11_engineIt_79 : decode cX11_engineIt 79 = .ok (.iload_n 3, 1) := by decide +kernel
theorem dX11_engineIt_80 : decode cX11_engineIt 80 = .ok (.iadd, 1) := by decide +kernel
theorem dX11_engineIt_81 : decode cX11_engineIt 81 = .ok (.iconst 5, 1) := by decide +kernel
theorem dX11_engineIt_82 : decode cX11_engineIt 82 = .ok (.iastore, 1) := by decide +kernel
theorem dX11_engineIt_83 : decode cX11_engineIt 83 = .ok (.iinc 3 1, 3) := by decide +kernel
theorem dX11_engineIt_86 : decode cX11_engineIt 86 = .ok (.goto (-31), 3) := by decide +kernel
theorem dX11_engineIt_89 : decode cX11_engineIt 89 = .ok (.aload_n 0, 1) := by decide +kernel
theorem dX11_engineIt_90 : decode cX11_engineIt 90 = .ok (.getfield 9, 3) := by decide +kernel
theorem dX11_engineIt_93 : decode cX11_engineIt 93 = .ok (.iconst 0, 1) := by decide +kernel
theorem dX11_engineIt_94 : decode cX11_engineIt 94 = .ok (.dup2, 1) := by decide +kernel
theorem dX11_engineIt_95 : decode cX11_engineIt 95 = .ok (.iaload, 1) := by decide +kernel
theorem dX11_engineIt_96 : decode cX11_engineIt 96 = .ok (.iconst 1, 1) := by decide +kernel
theorem dX11_engineIt_97 : decode cX11_engineIt 97 = .ok (.iadd, 1) := by decide +kernel
theorem dX11_engineIt_98 : decode cX11_engineIt 98 = .ok (.iastore, 1) := by decide +kernel
theorem dX11_engineIt_99 : decode cX11_engineIt 99 = .ok (.aload_n 0, 1) := by decide +kernel
theorem dX11_engineIt_100 : decode cX11_engineIt 100 = .ok (.getfield 9, 3) := by decide +kernel
theorem dX11_engineIt_103 : decode cX11_engineIt 103 = .ok (.iconst 0, 1) := by decide +kernel
theorem dX11_engineIt_104 : decode cX11_engineIt 104 = .ok (.iaload, 1) := by decide +kernel
theorem dX11_engineIt_105 : decode cX11_engineIt 105 = .ok (.iconst 1, 1) := by decide +kernel
theorem dX11_engineIt_106 : decode cX11_engineIt 106 = .ok (.isub, 1) := by decide +kernel
theorem dX11_engineIt_107 : decode cX11_engineIt 107 = .ok (.ireturn, 1) := by decide +kernel
theorem dX11_addEngine_0 : decode cX11_addEngine 0 = .ok (.aload_n 0, 1) := by decide +kernel
theorem dX11_addEngine_1 : decode cX11_addEngine 1 = .ok (.invokevirtual 128, 3) := by decide +kernel
theorem dX11_addEngine_4 : decode cX11_addEngine 4 = .ok (.aload_n 0, 1) := by decide +kernel
theorem dX11_addEngine_5 : decode cX11_addEngine 5 = .ok (.aload_n 0, 1) := by decide +kernel
theorem dX11_addEngine_6 : decode cX11_addEngine 6 = .ok (.iload_n 1, 1) := by decide +kernel
theorem dX11_addEngine_7 : decode cX11_addEngine 7 = .ok (.invokevirtual 131, 3) := by decide +kernel
theorem dX11_addEngine_10 : decode cX11_addEngine 10 = .ok (.invokevirtual 134, 3) := by decide +kernel
theorem dX11_addEngine_13 : decode cX11_addEngine 13 = .ok (.ireturn, 1) := by decide +kernel
theorem dX11_swapIt_0 : decode cX11_swapIt 0 = .ok (.aload_n 0, 1) := by decide +kernel
theorem dX11_swapIt_1 : decode cX11_swapIt 1 = .ok (.iload_n 1, 1) := by decide +kernel
theorem dX11_swapIt_2 : decode cX11_swapIt 2 = .ok (.iload_n 2, 1) := by decide +kernel
theorem dX11_swapIt_3 : decode cX11_swapIt 3 = .ok (.invokevirtual 137, 3) := by decide +kernel
theorem dX11_swapIt_6 : decode cX11_swapIt 6 = .ok (.ifCond .eq 12, 3) := by decide +kernel
theorem dX11_swapIt_9 : decode cX11_swapIt 9 = .ok (.aload_n 0, 1) := by decide +kernel
theorem dX11_swapIt_10 : decode cX11_swapIt 10 = .ok (.iload_n 1, 1) := by decide +kernel
theorem dX11_swapIt_11 : decode cX11_swapIt 11 = .ok (.iload_n 3, 1) := by decide +kernel
theorem dX11_swapIt_12 : decode cX11_swapIt 12 = .ok (.invokevirtual 137, 3) := by decide +kernel
theorem dX11_swapIt_15 : decode cX11_swapIt 15 = .ok (.ifCond .ne 9, 3) := by decide +kernel
theorem dX11_swapIt_18 : decode cX11_swapIt 18 = .ok (.aload_n 0, 1) := by decide +kernel
theorem dX11_swapIt_19 : decode cX11_swapIt 19 = .ok (.iconst 1, 1) := by decide +kernel
theorem dX11_swapIt_20 : decode cX11_swapIt 20 = .ok (.invokevirtual 125, 3) := by decide +kernel
theorem dX11_swapIt_23 : decode cX11_swapIt 23 = .ok (.ireturn, 1) := by decide +kernel
theorem dX11_swapIt_24 : decode cX11_swapIt 24 = .ok (.iload_n 1, 1) := by decide +kernel
theorem dX11_swapIt_25 : decode cX11_swapIt 25 = .ok (.invokestatic 67, 3) := by decide +kernel
theorem dX11_swapIt_28 : decode cX11_swapIt 28 = .ok (.iconst 4, 1) := by decide +kernel
theorem dX11_swapIt_29 : decode cX11_swapIt 29 = .ok (.iadd, 1) := by decide +kernel
theorem dX11_swapIt_30 : decode cX11_swapIt 30 = .ok (.istore 4, 2) := by decide +kernel
theorem dX11_swapIt_32 : decode cX11_swapIt 32 = .ok (.aload_n 0, 1) := by decide +kernel
theorem dX11_swapIt_33 : decode cX11_swapIt 33 = .ok (.getfield 9, 3) := by decide +kernel
theorem dX11_swapIt_36 : decode cX11_swapIt 36 = .ok (.iload 4, 2) := by decide +kernel
theorem dX11_swapIt_38 : decode cX11_swapIt 38 = .ok (.iload_n 2, 1) := by decide +kernel
theorem dX11_swapIt_39 : decode cX11_swapIt 39 = .ok (.iadd, 1) := by decide +kernel
theorem dX11_swapIt_40 : decode cX11_swapIt 40 = .ok (.iaload, 1) := by decide +kernel
theorem dX11_swapIt_41 : decode cX11_swapIt 41 = .ok (.istore 5, 2) := by decide +kernel
theorem dX11_swapIt_43 : decode cX11_swapIt 43 = .ok (.aload_n 0, 1) := by decide +kernel
theorem dX11_swapIt_44 : decode cX11_swapIt 44 = .ok (.getfield 9, 3) := by decide +kernel
theorem dX11_swapIt_47 : decode cX11_swapIt 47 = .ok (.iload 4, 2) := by decide +kernel
theorem dX11_swapIt_49 : decode cX11_swapIt 49 = .ok (.iload_n 2, 1) := by decide +kernel
theorem dX11_swapIt_50 : decode cX11_swapIt 50 = .ok (.iadd, 1) := by decide +kernel
theorem dX11_swapIt_51 : decode cX11_swapIt 51 = .ok (.aload_n 0, 1) := by decide +kernel
theorem dX11_swapIt_52 : decode cX11_swapIt 52 = .ok (.getfield 9, 3) := by decide +kernel
theorem dX11_swapIt_55 : decode cX11_swapIt 55 = .ok (.iload 4, 2) := by decide +kernel
theorem dX11_swapIt_57 : decode cX11_swapIt 57 = .ok (.iload_n 3, 1) := by decide +kernel
theorem dX11_swapIt_58 : decode cX11_swapIt 58 = .ok (.iadd, 1) := by decide +kernel
theorem dX11_swapIt_59 : decode cX11_swapIt 59 = .ok (.iaload, 1) := by decide +kernel
theorem dX11_swapIt_60 : decode cX11_swapIt 60 = .ok (.iastore, 1) := by decide +kernel
theorem dX11_swapIt_61 : decode cX11_swapIt 61 = .ok (.aload_n 0, 1) := by decide +kernel
theorem dX11_swapIt_62 : decode cX11_swapIt 62 = .ok (.getfield 9, 3) := by decide +kernel
theorem dX11_swapIt_65 : decode cX11_swapIt 65 = .ok (.iload 4, 2) := by decide +kernel
theorem dX11_swapIt_67 : decode cX11_swapIt 67 = .ok (.iload_n 3, 1) := by decide +kernel
theorem dX11_swapIt_68 : decode cX11_swapIt 68 = .ok (.iadd, 1) := by decide +kernel
theorem dX11_swapIt_69 : decode cX11_swapIt 69 = .ok (.iload 5, 2) := by decide +kernel
theorem dX11_swapIt_71 : decode cX11_swapIt 71 = .ok (.iastore, 1) := by decide +kernel
theorem dX11_swapIt_72 : decode cX11_swapIt 72 = .ok (.aload_n 0, 1) := by decide +kernel
theorem dX11_swapIt_73 : decode cX11_swapIt 73 = .ok (.getfield 9, 3) := by decide +kernel
theorem dX11_swapIt_76 : decode cX11_swapIt 76 = .ok (.iload 4, 2) := by decide +kernel
theorem dX11_swapIt_78 : decode cX11_swapIt 78 = .ok (.iload_n 2, 1) := by decide +kernel
theorem dX11_swapIt_79 : decode cX11_swapIt 79 = .ok (.iadd, 1) := by decide +kernel
theorem dX11_swapIt_80 : decode cX11_swapIt 80 = .ok (.iaload, 1) := by decide +kernel
theorem dX11_swapIt_81 : decode cX11_swapIt 81 = .ok (.ireturn, 1) := by decide +kernel
theorem dX11_exchange_0 : decode cX11_exchange 0 = .ok (.aload_n 0, 1) := by decide +kernel
theorem dX11_exchange_1 : decode cX11_exchange 1 = .ok (.invokevirtual 128, 3) := by decide +kernel
theorem dX11_exchange_4 : decode cX11_exchange 4 = .ok (.aload_n 0, 1) := by decide +kernel
theorem dX11_exchange_5 : decode cX11_exchange 5 = .ok (.aload_n 0, 1) := by decide +kernel
theorem dX11_exchange_6 : decode cX11_exchange 6 = .ok (.iload_n 1, 1) := by decide +kernel
theorem dX11_exchange_7 : decode cX11_exchange 7 = .ok (.iload_n 2, 1) := by decide +kernel
theorem dX11_exchange_8 : decode cX11_exchange 8 = .ok (.iload_n 3, 1) := by decide +kernel
theorem dX11_exchange_9 : decode cX11_exchange 9 = .ok (.invokevirtual 140, 3) := by decide +kernel
theorem dX11_exchange_12 : decode cX11_exchange 12 = .ok (.invokevirtual 134, 3) := by decide +kernel
theorem dX11_exchange_15 : decode cX11_exchange 15 = .ok (.ireturn, 1) := by decide +kernel
theorem dX11_rateIt_0 : decode cX11_rateIt 0 = .ok (.aload_n 0, 1) := by decide +kernel
theorem dX11_rateIt_1 : decode cX11_rateIt 1 = .ok (.iload_n 1, 1) := by decide +kernel
theorem dX11_rateIt_2 : decode cX11_rateIt 2 = .ok (.invokevirtual 71, 3) := by decide +kernel
theorem dX11_rateIt_5 : decode cX11_rateIt 5 = .ok (.ifCond .ne 9, 3) := by decide +kernel
theorem dX11_rateIt_8 : decode cX11_rateIt 8 = .ok (.aload_n 0, 1) := by decide +kernel
theorem dX11_rateIt_9 : decode cX11_rateIt 9 = .ok (.iconst 1, 1) := by decide +kernel
theorem dX11_rateIt_10 : decode cX11_rateIt 10 = .ok (.invokevirtual 125, 3) := by decide +kernel
theorem dX11_rateIt_13 : decode cX11_rateIt 13 = .ok (.ireturn, 1) := by decide +kernel
theorem dX11_rateIt_14 : decode cX11_rateIt 14 = .ok (.iload_n 2, 1) := by decide +kernel
theorem dX11_rateIt_15 : decode cX11_rateIt 15 = .ok (.i2l, 1) := by decide +kernel
theorem dX11_rateIt_16 : decode cX11_rateIt 16 = .ok (.lconst 0, 1) := by decide +kernel
theorem dX11_rateIt_17 : decode cX11_rateIt 17 = .ok (.ldc2_w 143, 3) := by decide +kernel
theorem dX11_rateIt_20 : decode cX11_rateIt 20 = .ok (.invokestatic 63, 3) := by decide +kernel
theorem dX11_rateIt_23 : decode cX11_rateIt 23 = .ok (.ifCond .ne 9, 3) := by decide +kernel
theorem dX11_rateIt_26 : decode cX11_rateIt 26 = .ok (.aload_n 0, 1) := by decide +kernel
theorem dX11_rateIt_27 : decode cX11_rateIt 27 = .ok (.iconst 2, 1) := by decide +kernel
theorem dX11_rateIt_28 : decode cX11_rateIt 28 = .ok (.invokevirtual 125, 3) := by decide +kernel
theorem dX11_rateIt_31 : decode cX11_rateIt 31 = .ok (.ireturn, 1) := by decide +kernel
theorem dX11_rateIt_32 : decode cX11_rateIt 32 = .ok (.aload_n 0, 1) := by decide +kernel
theorem dX11_rateIt_33 : decode cX11_rateIt 33 = .ok (.getfield 9, 3) := by decide +kernel
theorem dX11_rateIt_36 : decode cX11_rateIt 36 = .ok (.iload_n 1, 1) := by decide +kernel
theorem dX11_rateIt_37 : decode cX11_rateIt 37 = .ok (.invokestatic 67, 3) := by decide +kernel
theorem dX11_rateIt_40 : decode cX11_rateIt 40 = .ok (.iconst 2, 1) := by decide +kernel
theorem dX11_rateIt_41 : decode cX11_rateIt 41 = .ok (.iadd, 1) := by decide +kernel
theorem dX11_rateIt_42 : decode cX11_rateIt 42 = .ok (.iaload, 1) := by decide +kernel
theorem dX11_rateIt_43 : decode cX11_rateIt 43 = .ok (.istore_n 3, 1) := by decide +kernel
theorem dX11_rateIt_44 : decode cX11_rateIt 44 = .ok (.aload_n 0, 1) := by decide +kernel
theorem dX11_rateIt_45 : decode cX11_rateIt 45 = .ok (.getfield 9, 3) := by decide +kernel
theorem dX11_rateIt_48 : decode cX11_rateIt 48 = .ok (.iload_n 1, 1) := by decide +kernel
theorem dX11_rateIt_49 : decode cX11_rateIt 49 = .ok (.invokestatic 67, 3) := by decide +kernel
theorem dX11_rateIt_52 : decode cX11_rateIt 52 = .ok (.iconst 2, 1) := by decide +kernel
theorem dX11_rateIt_53 : decode cX11_rateIt 53 = .ok (.iadd, 1) := by decide +kernel
theorem dX11_rateIt_54 : decode cX11_rateIt 54 = .ok (.iload_n 2, 1) := by decide +kernel
theorem dX11_rateIt_55 : decode cX11_rateIt 55 = .ok (.iastore, 1) := by decide +kernel
theorem dX11_rateIt_56 : decode cX11_rateIt 56 = .ok (.iload_n 3, 1) := by decide +kernel
theorem dX11_rateIt_57 : decode cX11_rateIt 57 = .ok (.ireturn, 1) := by decide +kernel
theorem dX11_setRate_0 : decode cX11_setRate 0 = .ok (.aload_n 0, 1) := by decide +kernel
theorem dX11_setRate_1 : decode cX11_setRate 1 = .ok (.invokevirtual 128, 3) := by decide +kernel
theorem dX11_setRate_4 : decode cX11_setRate 4 = .ok (.aload_n 0, 1) := by decide +kernel
theorem dX11_setRate_5 : decode cX11_setRate 5 = .ok (.aload_n 0, 1) := by decide +kernel
theorem dX11_setRate_6 : decode cX11_setRate 6 = .ok (.iload_n 1, 1) := by decide +kernel
theorem dX11_setRate_7 : decode cX11_setRate 7 = .ok (.iload_n 2, 1) := by decide +kernel
theorem dX11_setRate_8 : decode cX11_setRate 8 = .ok (.invokevirtual 145, 3) := by decide +kernel
theorem dX11_setRate_11 : decode cX11_setRate 11 = .ok (.invokevirtual 134, 3) := by decide +kernel
theorem dX11_setRate_14 : decode cX11_setRate 14 = .ok (.ireturn, 1) := by decide +kernel
theorem dX11_runIt_0 : decode cX11_runIt 0 = .ok (.aload_n 0, 1) := by decide +kernel
theorem dX11_runIt_1 : decode cX11_runIt 1 = .ok (.iload_n 1, 1) := by decide +kernel
theorem dX11_runIt_2 : decode cX11_runIt 2 = .ok (.invokevirtual 71, 3) := by decide +kernel
theorem dX11_runIt_5 : decode cX11_runIt 5 = .ok (.ifCond .ne 9, 3) := by decide +kernel
theorem dX11_runIt_8 : decode cX11_runIt 8 = .ok (.aload_n 0, 1) := by decide +kernel
theorem dX11_runIt_9 : decode cX11_runIt 9 = .ok (.iconst 1, 1) := by decide +kernel
theorem dX11_runIt_10 : decode cX11_runIt 10 = .ok (.invokevirtual 125, 3) := by decide +kernel
theorem dX11_runIt_13 : decode cX11_runIt 13 = .ok (.ireturn, 1) := by decide +kernel
theorem dX11_runIt_14 : decode cX11_runIt 14 = .ok (.iload_n 2, 1) := by decide +kernel
theorem dX11_runIt_15 : decode cX11_runIt 15 = .ok (.i2l, 1) := by decide +kernel
theorem dX11_runIt_16 : decode cX11_runIt 16 = .ok (.lconst 1, 1) := by decide +kernel
theorem dX11_runIt_17 : decode cX11_runIt 17 = .ok (.ldc2_w 148, 3) := by decide +kernel
theorem dX11_runIt_20 : decode cX11_runIt 20 = .ok (.invokestatic 63, 3) := by decide +kernel
theorem dX11_runIt_23 : decode cX11_runIt 23 = .ok (.ifCond .eq 12, 3) := by decide +kernel
theorem dX11_runIt_26 : decode cX11_runIt 26 = .ok (.aload_n 0, 1) := by decide +kernel
theorem dX11_runIt_27 : decode cX11_runIt 27 = .ok (.iload_n 1, 1) := by decide +kernel
theorem dX11_runIt_28 : decode cX11_runIt 28 = .ok (.iload_n 2, 1) := by decide +kernel
theorem dX11_runIt_29 : decode cX11_runIt 29 = .ok (.invokevirtual 89, 3) := by decide +kernel
theorem dX11_runIt_32 : decode cX11_runIt 32 = .ok (.goto 8, 3) := by decide +kernel
theorem dX11_runIt_35 : decode cX11_runIt 35 = .ok (.aload_n 0, 1) := by decide +kernel
theorem dX11_runIt_36 : decode cX11_runIt 36 = .ok (.iconst 2, 1) := by decide +kernel
theorem dX11_runIt_37 : decode cX11_runIt 37 = .ok (.invokevirtual 125, 3) := by decide +kernel
theorem dX11_runIt_40 : decode cX11_runIt 40 = .ok (.ireturn, 1) := by decide +kernel
theorem dX11_run_0 : decode cX11_run 0 = .ok (.aload_n 0, 1) := by decide +kernel
theorem dX11_run_1 : decode cX11_run 1 = .ok (.invokevirtual 128, 3) := by decide +kernel
theorem dX11_run_4 : decode cX11_run 4 = .ok (.aload_n 0, 1) := by decide +kernel
theorem dX11_run_5 : decode cX11_run 5 = .ok (.aload_n 0, 1) := by decide +kernel
theorem dX11_run_6 : decode cX11_run 6 = .ok (.iload_n 1, 1) := by decide +kernel
theorem dX11_run_7 : decode cX11_run 7 = .ok (.iload_n 2, 1) := by decide +kernel
theorem dX11_run_8 : decode cX11_run 8 = .ok (.invokevirtual 150, 3) := by decide +kernel
theorem dX11_run_11 : decode cX11_run 11 = .ok (.invokevirtual 134, 3) := by decide +kernel
theorem dX11_run_14 : decode cX11_run 14 = .ok (.ireturn, 1) := by decide +kernel
theorem dX11_oilIt_0 : decode cX11_oilIt 0 = .ok (.aload_n 0, 1) := by decide +kernel
theorem dX11_oilIt_1 : decode cX11_oilIt 1 = .ok (.iload_n 1, 1) := by decide +kernel
theorem dX11_oilIt_2 : decode cX11_oilIt 2 = .ok (.iload_n 2, 1) := by decide +kernel
theorem dX11_oilIt_3 : decode cX11_oilIt 3 = .ok (.invokevirtual 137, 3) := by decide +kernel
theorem dX11_oilIt_6 : decode cX11_oilIt 6 = .ok (.ifCond .ne 9, 3) := by decide +kernel
theorem dX11_oilIt_9 : decode cX11_oilIt 9 = .ok (.aload_n 0, 1) := by decide +kernel
theorem dX11_oilIt_10 : decode cX11_oilIt 10 = .ok (.iconst 1, 1) := by decide +kernel
theorem dX11_oilIt_11 : decode cX11_oilIt 11 = .ok (.invokevirtual 125, 3) := by decide +kernel
theorem dX11_oilIt_14 : decode cX11_oilIt 14 = .ok (.ireturn, 1) := by decide +kernel
theorem dX11_oilIt_15 : decode cX11_oilIt 15 = .ok (.iload_n 3, 1) := by decide +kernel
theorem dX11_oilIt_16 : decode cX11_oilIt 16 = .ok (.i2l, 1) := by decide +kernel
theorem dX11_oilIt_17 : decode cX11_oilIt 17 = .ok (.lconst 1, 1) := by decide +kernel
theorem dX11_oilIt_18 : decode cX11_oilIt 18 = .ok (.ldc2_w 148, 3) := by decide +kernel
theorem dX11_oilIt_21 : decode cX11_oilIt 21 = .ok (.invokestatic 63, 3) := by decide +kernel
theorem dX11_oilIt_24 : decode cX11_oilIt 24 = .ok (.ifCond .ne 9, 3) := by decide +kernel
theorem dX11_oilIt_27 : decode cX11_oilIt 27 = .ok (.aload_n 0, 1) := by decide +kernel
theorem dX11_oilIt_28 : decode cX11_oilIt 28 = .ok (.iconst 2, 1) := by decide +kernel
theorem dX11_oilIt_29 : decode cX11_oilIt 29 = .ok (.invokevirtual 125, 3) := by decide +kernel
theorem dX11_oilIt_32 : decode cX11_oilIt 32 = .ok (.ireturn, 1) := by decide +kernel
theorem dX11_oilIt_33 : decode cX11_oilIt 33 = .ok (.iload_n 3, 1) := by decide +kernel
theorem dX11_oilIt_34 : decode cX11_oilIt 34 = .ok (.aload_n 0, 1) := by decide +kernel
theorem dX11_oilIt_35 : decode cX11_oilIt 35 = .ok (.getfield 9, 3) := by decide +kernel
theorem dX11_oilIt_38 : decode cX11_oilIt 38 = .ok (.iconst 2, 1) := by decide +kernel
theorem dX11_oilIt_39 : decode cX11_oilIt 39 = .ok (.iaload, 1) := by decide +kernel
theorem dX11_oilIt_40 : decode cX11_oilIt 40 = .ok (.if_icmp .le 9, 3) := by decide +kernel
theorem dX11_oilIt_43 : decode cX11_oilIt 43 = .ok (.aload_n 0, 1) := by decide +kernel
theorem dX11_oilIt_44 : decode cX11_oilIt 44 = .ok (.iconst 3, 1) := by decide +kernel
theorem dX11_oilIt_45 : decode cX11_oilIt 45 = .ok (.invokevirtual 125, 3) := by decide +kernel
theorem dX11_oilIt_48 : decode cX11_oilIt 48 = .ok (.ireturn, 1) := by decide +kernel
theorem dX11_oilIt_49 : decode cX11_oilIt 49 = .ok (.aload_n 0, 1) := by decide +kernel
theorem dX11_oilIt_50 : decode cX11_oilIt 50 = .ok (.getfield 9, 3) := by decide +kernel
theorem dX11_oilIt_53 : decode cX11_oilIt 53 = .ok (.iconst 2, 1) := by decide +kernel
theorem dX11_oilIt_54 : decode cX11_oilIt 54 = .ok (.dup2, 1) := by decide +kernel
theorem dX11_oilIt_55 : decode cX11_oilIt 55 = .ok (.iaload, 1) := by decide +kernel
theorem dX11_oilIt_56 : decode cX11_oilIt 56 = .ok (.iload_n 3, 1) := by decide +kernel
theorem dX11_oilIt_57 : decode cX11_oilIt 57 = .ok (.isub, 1) := by decide +kernel
theorem dX11_oilIt_58 : decode cX11_oilIt 58 = .ok (.iastore, 1) := by decide +kernel
theorem dX11_oilIt_59 : decode cX11_oilIt 59 = .ok (.aload_n 0, 1) := by decide +kernel
theorem dX11_oilIt_60 : decode cX11_oilIt 60 = .ok (.getfield 9, 3) := by decide +kernel
theorem dX11_oilIt_63 : decode cX11_oilIt 63 = .ok (.iload_n 1, 1) := by decide +kernel
theorem dX11_oilIt_64 : decode cX11_oilIt 64 = .ok (.invokestatic 67, 3) := by decide +kernel
theorem dX11_oilIt_67 : decode cX11_oilIt 67 = .ok (.bipush 12, 2) := by decide +kernel
theorem dX11_oilIt_69 : decode cX11_oilIt 69 = .ok (.iadd, 1) := by decide +kernel
theorem dX11_oilIt_70 : decode cX11_oilIt 70 = .ok (.iload_n 2, 1) := by decide +kernel
theorem dX11_oilIt_71 : decode cX11_oilIt 71 = .ok (.iadd, 1) := by decide +kernel
theorem dX11_oilIt_72 : decode cX11_oilIt 72 = .ok (.dup2, 1) := by decide +kernel
theorem dX11_oilIt_73 : decode cX11_oilIt 73 = .ok (.iaload, 1) := by decide +kernel
theorem dX11_oilIt_74 : decode cX11_oilIt 74 = .ok (.iload_n 3, 1) := by decide +kernel
theorem dX11_oilIt_75 : decode cX11_oilIt 75 = .ok (.iadd, 1) := by decide +kernel
theorem dX11_oilIt_76 : decode cX11_oilIt 76 = .ok (.iastore, 1) := by decide +kernel
theorem dX11_oilIt_77 : decode cX11_oilIt 77 = .ok (.aload_n 0, 1) := by decide +kernel
theorem dX11_oilIt_78 : decode cX11_oilIt 78 = .ok (.getfield 9, 3) := by decide +kernel
theorem dX11_oilIt_81 : decode cX11_oilIt 81 = .ok (.iload_n 1, 1) := by decide +kernel
theorem dX11_oilIt_82 : decode cX11_oilIt 82 = .ok (.invokestatic 67, 3) := by decide +kernel
theorem dX11_oilIt_85 : decode cX11_oilIt 85 = .ok (.bipush 12, 2) := by decide +kernel
theorem dX11_oilIt_87 : decode cX11_oilIt 87 = .ok (.iadd, 1) := by decide +kernel
theorem dX11_oilIt_88 : decode cX11_oilIt 88 = .ok (.iload_n 2, 1) := by decide +kernel
theorem dX11_oilIt_89 : decode cX11_oilIt 89 = .ok (.iadd, 1) := by decide +kernel
theorem dX11_oilIt_90 : decode cX11_oilIt 90 = .ok (.iaload, 1) := by decide +kernel
theorem dX11_oilIt_91 : decode cX11_oilIt 91 = .ok (.ireturn, 1) := by decide +kernel
theorem dX11_oil_0 : decode cX11_oil 0 = .ok (.aload_n 0, 1) := by decide +kernel
theorem dX11_oil_1 : decode cX11_oil 1 = .ok (.invokevirtual 128, 3) := by decide +kernel
theorem dX11_oil_4 : decode cX11_oil 4 = .ok (.aload_n 0, 1) := by decide +kernel
theorem dX11_oil_5 : decode cX11_oil 5 = .ok (.aload_n 0, 1) := by decide +kernel
theorem dX11_oil_6 : decode cX11_oil 6 = .ok (.iload_n 1, 1) := by decide +kernel
theorem dX11_oil_7 : decode cX11_oil 7 = .ok (.iload_n 2, 1) := by decide +kernel
theorem dX11_oil_8 : decode cX11_oil 8 = .ok (.iload_n 3, 1) := by decide +kernel
theorem dX11_oil_9 : decode cX11_oil 9 = .ok (.invokevirtual 153, 3) := by decide +kernel
theorem dX11_oil_12 : decode cX11_oil 12 = .ok (.invokevirtual 134, 3) := by decide +kernel
theorem dX11_oil_15 : decode cX11_oil 15 = .ok (.ireturn, 1) := by decide +kernel
theorem dX11_fillIt_0 : decode cX11_fillIt 0 = .ok (.iload_n 1, 1) := by decide +kernel
theorem dX11_fillIt_1 : decode cX11_fillIt 1 = .ok (.i2l, 1) := by decide +kernel
theorem dX11_fillIt_2 : decode cX11_fillIt 2 = .ok (.lconst 1, 1) := by decide +kernel
theorem dX11_fillIt_3 : decode cX11_fillIt 3 = .ok (.ldc2_w 148, 3) := by decide +kernel
theorem dX11_fillIt_6 : decode cX11_fillIt 6 = .ok (.invokestatic 63, 3) := by decide +kernel
theorem dX11_fillIt_9 : decode cX11_fillIt 9 = .ok (.ifCond .ne 9, 3) := by decide +kernel
theorem dX11_fillIt_12 : decode cX11_fillIt 12 = .ok (.aload_n 0, 1) := by decide +kernel
theorem dX11_fillIt_13 : decode cX11_fillIt 13 = .ok (.iconst 1, 1) := by decide +kernel
theorem dX11_fillIt_14 : decode cX11_fillIt 14 = .ok (.invokevirtual 125, 3) := by decide +kernel
theorem dX11_fillIt_17 : decode cX11_fillIt 17 = .ok (.ireturn, 1) := by decide +kernel
theorem dX11_fillIt_18 : decode cX11_fillIt 18 = .ok (.iload_n 1, 1) := by decide +kernel
theorem dX11_fillIt_19 : decode cX11_fillIt 19 = .ok (.aload_n 0, 1) := by decide +kernel
theorem dX11_fillIt_20 : decode cX11_fillIt 20 = .ok (.getfield 9, 3) := by decide +kernel
theorem dX11_fillIt_23 : decode cX11_fillIt 23 = .ok (.iconst 2, 1) := by decide +kernel
theorem dX11_fillIt_24 : decode cX11_fillIt 24 = .ok (.iaload, 1) := by decide +kernel
theorem dX11_fillIt_25 : decode cX11_fillIt 25 = .ok (.if_icmp .gt 12, 3) := by decide +kernel
theorem dX11_fillIt_28 : decode cX11_fillIt 28 = .ok (.aload_n 0, 1) := by decide +kernel
theorem dX11_fillIt_29 : decode cX11_fillIt 29 = .ok (.getfield 9, 3) := by decide +kernel
theorem dX11_fillIt_32 : decode cX11_fillIt 32 = .ok (.iconst 0, 1) := by decide +kernel
theorem dX11_fillIt_33 : decode cX11_fillIt 33 = .ok (.iaload, 1) := by decide +kernel
theorem dX11_fillIt_34 : decode cX11_fillIt 34 = .ok (.ifCond .ne 9, 3) := by decide +kernel
theorem dX11_fillIt_37 : decode cX11_fillIt 37 = .ok (.aload_n 0, 1) := by decide +kernel
theorem dX11_fillIt_38 : decode cX11_fillIt 38 = .ok (.iconst 2, 1) := by decide +kernel
theorem dX11_fillIt_39 : decode cX11_fillIt 39 = .ok (.invokevirtual 125, 3) := by decide +kernel
theorem dX11_fillIt_42 : decode cX11_fillIt 42 = .ok (.ireturn, 1) := by decide +kernel
theorem dX11_fillIt_43 : decode cX11_fillIt 43 = .ok (.aload_n 0, 1) := by decide +kernel
theorem dX11_fillIt_44 : decode cX11_fillIt 44 = .ok (.iload_n 1, 1) := by decide +kernel
theorem dX11_fillIt_45 : decode cX11_fillIt 45 = .ok (.invokevirtual 156, 3) := by decide +kernel
theorem dX11_fillIt_48 : decode cX11_fillIt 48 = .ok (.istore_n 2, 1) := by decide +kernel
theorem dX11_fillIt_49 : decode cX11_fillIt 49 = .ok (.aload_n 0, 1) := by decide +kernel
theorem dX11_fillIt_50 : decode cX11_fillIt 50 = .ok (.getfield 9, 3) := by decide +kernel
theorem dX11_fillIt_53 : decode cX11_fillIt 53 = .ok (.iconst 2, 1) := by decide +kernel
theorem dX11_fillIt_54 : decode cX11_fillIt 54 = .ok (.dup2, 1) := by decide +kernel
theorem dX11_fillIt_55 : decode cX11_fillIt 55 = .ok (.iaload, 1) := by decide +kernel
theorem dX11_fillIt_56 : decode cX11_fillIt 56 = .ok (.iload_n 1, 1) := by decide +kernel
theorem dX11_fillIt_57 : decode cX11_fillIt 57 = .ok (.isub, 1) := by decide +kernel
theorem dX11_fillIt_58 : decode cX11_fillIt 58 = .ok (.iastore, 1) := by decide +kernel
theorem dX11_fillIt_59 : decode cX11_fillIt 59 = .ok (.aload_n 0, 1) := by decide +kernel
theorem dX11_fillIt_60 : decode cX11_fillIt 60 = .ok (.invokevirtual 159, 3) := by decide +kernel
theorem dX11_fillIt_63 : decode cX11_fillIt 63 = .ok (.iload_n 2, 1) := by decide +kernel
theorem dX11_fillIt_64 : decode cX11_fillIt 64 = .ok (.ireturn, 1) := by decide +kernel
theorem dX11_oilDriest_0 : decode cX11_oilDriest 0 = .ok (.aload_n 0, 1) := by decide +kernel
theorem dX11_oilDriest_1 : decode cX11_oilDriest 1 = .ok (.invokevirtual 128, 3) := by decide +kernel
theorem dX11_oilDriest_4 : decode cX11_oilDriest 4 = .ok (.aload_n 0, 1) := by decide +kernel
theorem dX11_oilDriest_5 : decode cX11_oilDriest 5 = .ok (.aload_n 0, 1) := by decide +kernel
theorem dX11_oilDriest_6 : decode cX11_oilDriest 6 = .ok (.iload_n 1, 1) := by decide +kernel
theorem dX11_oilDriest_7 : decode cX11_oilDriest 7 = .ok (.invokevirtual 162, 3) := by decide +kernel
theorem dX11_oilDriest_10 : decode cX11_oilDriest 10 = .ok (.invokevirtual 134, 3) := by decide +kernel
theorem dX11_oilDriest_13 : decode cX11_oilDriest 13 = .ok (.ireturn, 1) := by decide +kernel
theorem dX11_buyIt_0 : decode cX11_buyIt 0 = .ok (.iload_n 1, 1) := by decide +kernel
theorem dX11_buyIt_1 : decode cX11_buyIt 1 = .ok (.i2l, 1) := by decide +kernel
theorem dX11_buyIt_2 : decode cX11_buyIt 2 = .ok (.lconst 1, 1) := by decide +kernel
theorem dX11_buyIt_3 : decode cX11_buyIt 3 = .ok (.ldc2_w 148, 3) := by decide +kernel
theorem dX11_buyIt_6 : decode cX11_buyIt 6 = .ok (.invokestatic 63, 3) := by decide +kernel
theorem dX11_buyIt_9 : decode cX11_buyIt 9 = .ok (.ifCond .ne 9, 3) := by decide +kernel
theorem dX11_buyIt_12 : decode cX11_buyIt 12 = .ok (.aload_n 0, 1) := by decide +kernel
theorem dX11_buyIt_13 : decode cX11_buyIt 13 = .ok (.iconst 1, 1) := by decide +kernel
theorem dX11_buyIt_14 : decode cX11_buyIt 14 = .ok (.invokevirtual 125, 3) := by decide +kernel
theorem dX11_buyIt_17 : decode cX11_buyIt 17 = .ok (.ireturn, 1) := by decide +kernel
theorem dX11_buyIt_18 : decode cX11_buyIt 18 = .ok (.aload_n 0, 1) := by decide +kernel
theorem dX11_buyIt_19 : decode cX11_buyIt 19 = .ok (.getfield 9, 3) := by decide +kernel
theorem dX11_buyIt_22 : decode cX11_buyIt 22 = .ok (.iconst 2, 1) := by decide +kernel
theorem dX11_buyIt_23 : decode cX11_buyIt 23 = .ok (.iaload, 1) := by decide +kernel
theorem dX11_buyIt_24 : decode cX11_buyIt 24 = .ok (.iload_n 1, 1) := by decide +kernel
theorem dX11_buyIt_25 : decode cX11_buyIt 25 = .ok (.iadd, 1) := by decide +kernel
theorem dX11_buyIt_26 : decode cX11_buyIt 26 = .ok (.sipush 500, 3) := by decide +kernel
theorem dX11_buyIt_29 : decode cX11_buyIt 29 = .ok (.if_icmp .le 9, 3) := by decide +kernel
theorem dX11_buyIt_32 : decode cX11_buyIt 32 = .ok (.aload_n 0, 1) := by decide +kernel
theorem dX11_buyIt_33 : decode cX11_buyIt 33 = .ok (.iconst 2, 1) := by decide +kernel
theorem dX11_buyIt_34 : decode cX11_buyIt 34 = .ok (.invokevirtual 125, 3) := by decide +kernel
theorem dX11_buyIt_37 : decode cX11_buyIt 37 = .ok (.ireturn, 1) := by decide +kernel
theorem dX11_buyIt_38 : decode cX11_buyIt 38 = .ok (.aload_n 0, 1) := by decide +kernel
theorem dX11_buyIt_39 : decode cX11_buyIt 39 = .ok (.getfield 9, 3) := by decide +kernel
theorem dX11_buyIt_42 : decode cX11_buyIt 42 = .ok (.iconst 2, 1) := by decide +kernel
theorem dX11_buyIt_43 : decode cX11_buyIt 43 = .ok (.dup2, 1) := by decide +kernel
theorem dX11_buyIt_44 : decode cX11_buyIt 44 = .ok (.iaload, 1) := by decide +kernel
theorem dX11_buyIt_45 : decode cX11_buyIt 45 = .ok (.iload_n 1, 1) := by decide +kernel
theorem dX11_buyIt_46 : decode cX11_buyIt 46 = .ok (.iadd, 1) := by decide +kernel
theorem dX11_buyIt_47 : decode cX11_buyIt 47 = .ok (.iastore, 1) := by decide +kernel
theorem dX11_buyIt_48 : decode cX11_buyIt 48 = .ok (.aload_n 0, 1) := by decide +kernel
theorem dX11_buyIt_49 : decode cX11_buyIt 49 = .ok (.getfield 9, 3) := by decide +kernel
theorem dX11_buyIt_52 : decode cX11_buyIt 52 = .ok (.iconst 2, 1) := by decide +kernel
theorem dX11_buyIt_53 : decode cX11_buyIt 53 = .ok (.iaload, 1) := by decide +kernel
theorem dX11_buyIt_54 : decode cX11_buyIt 54 = .ok (.ireturn, 1) := by decide +kernel
theorem dX11_buyOil_0 : decode cX11_buyOil 0 = .ok (.aload_n 0, 1) := by decide +kernel
theorem dX11_buyOil_1 : decode cX11_buyOil 1 = .ok (.invokevirtual 128, 3) := by decide +kernel
theorem dX11_buyOil_4 : decode cX11_buyOil 4 = .ok (.aload_n 0, 1) := by decide +kernel
theorem dX11_buyOil_5 : decode cX11_buyOil 5 = .ok (.aload_n 0, 1) := by decide +kernel
theorem dX11_buyOil_6 : decode cX11_buyOil 6 = .ok (.iload_n 1, 1) := by decide +kernel
theorem dX11_buyOil_7 : decode cX11_buyOil 7 = .ok (.invokevirtual 165, 3) := by decide +kernel
theorem dX11_buyOil_10 : decode cX11_buyOil 10 = .ok (.invokevirtual 134, 3) := by decide +kernel
theorem dX11_buyOil_13 : decode cX11_buyOil 13 = .ok (.ireturn, 1) := by decide +kernel
theorem dX11_monkIt_0 : decode cX11_monkIt 0 = .ok (.aload_n 0, 1) := by decide +kernel
theorem dX11_monkIt_1 : decode cX11_monkIt 1 = .ok (.getfield 9, 3) := by decide +kernel
theorem dX11_monkIt_4 : decode cX11_monkIt 4 = .ok (.iconst 3, 1) := by decide +kernel
theorem dX11_monkIt_5 : decode cX11_monkIt 5 = .ok (.iaload, 1) := by decide +kernel
theorem dX11_monkIt_6 : decode cX11_monkIt 6 = .ok (.bipush 6, 2) := by decide +kernel
theorem dX11_monkIt_8 : decode cX11_monkIt 8 = .ok (.if_icmp .ne 9, 3) := by decide +kernel
theorem dX11_monkIt_11 : decode cX11_monkIt 11 = .ok (.aload_n 0, 1) := by decide +kernel
theorem dX11_monkIt_12 : decode cX11_monkIt 12 = .ok (.iconst 1, 1) := by decide +kernel
theorem dX11_monkIt_13 : decode cX11_monkIt 13 = .ok (.invokevirtual 125, 3) := by decide +kernel
theorem dX11_monkIt_16 : decode cX11_monkIt 16 = .ok (.ireturn, 1) := by decide +kernel
theorem dX11_monkIt_17 : decode cX11_monkIt 17 = .ok (.aload_n 0, 1) := by decide +kernel
theorem dX11_monkIt_18 : decode cX11_monkIt 18 = .ok (.getfield 9, 3) := by decide +kernel
theorem dX11_monkIt_21 : decode cX11_monkIt 21 = .ok (.iconst 3, 1) := by decide +kernel
theorem dX11_monkIt_22 : decode cX11_monkIt 22 = .ok (.dup2, 1) := by decide +kernel
theorem dX11_monkIt_23 : decode cX11_monkIt 23 = .ok (.iaload, 1) := by decide +kernel
theorem dX11_monkIt_24 : decode cX11_monkIt 24 = .ok (.iconst 1, 1) := by decide +kernel
theorem dX11_monkIt_25 : decode cX11_monkIt 25 = .ok (.iadd, 1) := by decide +kernel
theorem dX11_monkIt_26 : decode cX11_monkIt 26 = .ok (.iastore, 1) := by decide +kernel
theorem dX11_monkIt_27 : decode cX11_monkIt 27 = .ok (.aload_n 0, 1) := by decide +kernel
theorem dX11_monkIt_28 : decode cX11_monkIt 28 = .ok (.getfield 9, 3) := by decide +kernel
theorem dX11_monkIt_31 : decode cX11_monkIt 31 = .ok (.iconst 3, 1) := by decide +kernel
theorem dX11_monkIt_32 : decode cX11_monkIt 32 = .ok (.iaload, 1) := by decide +kernel
theorem dX11_monkIt_33 : decode cX11_monkIt 33 = .ok (.iconst 1, 1) := by decide +kernel
theorem dX11_monkIt_34 : decode cX11_monkIt 34 = .ok (.isub, 1) := by decide +kernel
theorem dX11_monkIt_35 : decode cX11_monkIt 35 = .ok (.ireturn, 1) := by decide +kernel
theorem dX11_addMonk_0 : decode cX11_addMonk 0 = .ok (.aload_n 0, 1) := by decide +kernel
theorem dX11_addMonk_1 : decode cX11_addMonk 1 = .ok (.invokevirtual 128, 3) := by decide +kernel
theorem dX11_addMonk_4 : decode cX11_addMonk 4 = .ok (.aload_n 0, 1) := by decide +kernel
theorem dX11_addMonk_5 : decode cX11_addMonk 5 = .ok (.aload_n 0, 1) := by decide +kernel
theorem dX11_addMonk_6 : decode cX11_addMonk 6 = .ok (.invokevirtual 168, 3) := by decide +kernel
theorem dX11_addMonk_9 : decode cX11_addMonk 9 = .ok (.invokevirtual 134, 3) := by decide +kernel
theorem dX11_addMonk_12 : decode cX11_addMonk 12 = .ok (.ireturn, 1) := by decide +kernel
theorem dX11_ableIt_0 : decode cX11_ableIt 0 = .ok (.iload_n 1, 1) := by decide +kernel
theorem dX11_ableIt_1 : decode cX11_ableIt 1 = .ok (.i2l, 1) := by decide +kernel
theorem dX11_ableIt_2 : decode cX11_ableIt 2 = .ok (.lconst 0, 1) := by decide +kernel
theorem dX11_ableIt_3 : decode cX11_ableIt 3 = .ok (.aload_n 0, 1) := by decide +kernel
theorem dX11_ableIt_4 : decode cX11_ableIt 4 = .ok (.getfield 9, 3) := by decide +kernel
theorem dX11_ableIt_7 : decode cX11_ableIt 7 = .ok (.iconst 3, 1) := by decide +kernel
theorem dX11_ableIt_8 : decode cX11_ableIt 8 = .ok (.iaload, 1) := by decide +kernel
theorem dX11_ableIt_9 : decode cX11_ableIt 9 = .ok (.iconst 1, 1) := by decide +kernel
theorem dX11_ableIt_10 : decode cX11_ableIt 10 = .ok (.isub, 1) := by decide +kernel
theorem dX11_ableIt_11 : decode cX11_ableIt 11 = .ok (.i2l, 1) := by decide +kernel
theorem dX11_ableIt_12 : decode cX11_ableIt 12 = .ok (.invokestatic 63, 3) := by decide +kernel
theorem dX11_ableIt_15 : decode cX11_ableIt 15 = .ok (.ifCond .eq 15, 3) := by decide +kernel
theorem dX11_ableIt_18 : decode cX11_ableIt 18 = .ok (.iload_n 2, 1) := by decide +kernel
theorem dX11_ableIt_19 : decode cX11_ableIt 19 = .ok (.i2l, 1) := by decide +kernel
theorem dX11_ableIt_20 : decode cX11_ableIt 20 = .ok (.lconst 0, 1) := by decide +kernel
theorem dX11_ableIt_21 : decode cX11_ableIt 21 = .ok (.ldc2_w 171, 3) := by decide +kernel
theorem dX11_ableIt_24 : decode cX11_ableIt 24 = .ok (.invokestatic 63, 3) := by decide +kernel
theorem dX11_ableIt_27 : decode cX11_ableIt 27 = .ok (.ifCond .ne 9, 3) := by decide +kernel
theorem dX11_ableIt_30 : decode cX11_ableIt 30 = .ok (.aload_n 0, 1) := by decide +kernel
theorem dX11_ableIt_31 : decode cX11_ableIt 31 = .ok (.iconst 1, 1) := by decide +kernel
theorem dX11_ableIt_32 : decode cX11_ableIt 32 = .ok (.invokevirtual 125, 3) := by decide +kernel
theorem dX11_ableIt_35 : decode cX11_ableIt 35 = .ok (.ireturn, 1) := by decide +kernel
theorem dX11_ableIt_36 : decode cX11_ableIt 36 = .ok (.aload_n 0, 1) := by decide +kernel
theorem dX11_ableIt_37 : decode cX11_ableIt 37 = .ok (.getfield 9, 3) := by decide +kernel
theorem dX11_ableIt_40 : decode cX11_ableIt 40 = .ok (.sipush 215, 3) := by decide +kernel
theorem dX11_ableIt_43 : decode cX11_ableIt 43 = .ok (.iload_n 1, 1) := by decide +kernel
theorem dX11_ableIt_44 : decode cX11_ableIt 44 = .ok (.iadd, 1) := by decide +kernel
theorem dX11_ableIt_45 : decode cX11_ableIt 45 = .ok (.iaload, 1) := by decide +kernel
theorem dX11_ableIt_46 : decode cX11_ableIt 46 = .ok (.iload_n 2, 1) := by decide +kernel
theorem dX11_ableIt_47 : decode cX11_ableIt 47 = .ok (.ishr, 1) := by decide +kernel
theorem dX11_ableIt_48 : decode cX11_ableIt 48 = .ok (.iconst 1, 1) := by decide +kernel
theorem dX11_ableIt_49 : decode cX11_ableIt 49 = .ok (.iand, 1) := by decide +kernel
theorem dX11_ableIt_50 : decode cX11_ableIt 50 = .ok (.istore 4, 2) := by decide +kernel
theorem dX11_ableIt_52 : decode cX11_ableIt 52 = .ok (.aload_n 0, 1) := by decide +kernel
theorem dX11_ableIt_53 : decode cX11_ableIt 53 = .ok (.getfield 9, 3) := by decide +kernel
theorem dX11_ableIt_56 : decode cX11_ableIt 56 = .ok (.sipush 215, 3) := by decide +kernel
theorem dX11_ableIt_59 : decode cX11_ableIt 59 = .ok (.iload_n 1, 1) := by decide +kernel
theorem dX11_ableIt_60 : decode cX11_ableIt 60 = .ok (.iadd, 1) := by decide +kernel
theorem dX11_ableIt_61 : decode cX11_ableIt 61 = .ok (.iload_n 3, 1) := by decide +kernel
theorem dX11_ableIt_62 : decode cX11_ableIt 62 = .ok (.ifCond .eq 20, 3) := by decide +kernel
theorem dX11_ableIt_65 : decode cX11_ableIt 65 = .ok (.aload_n 0, 1) := by decide +kernel
theorem dX11_ableIt_66 : decode cX11_ableIt 66 = .ok (.getfield 9, 3) := by decide +kernel
theorem dX11_ableIt_69 : decode cX11_ableIt 69 = .ok (.sipush 215, 3) := by decide +kernel
theorem dX11_ableIt_72 : decode cX11_ableIt 72 = .ok (.iload_n 1, 1) := by decide +kernel
theorem dX11_ableIt_73 : decode cX11_ableIt 73 = .ok (.iadd, 1) := by decide +kernel
theorem dX11_ableIt_74 : decode cX11_ableIt 74 = .ok (.iaload, 1) := by decide +kernel
theorem dX11_ableIt_75 : decode cX11_ableIt 75 = .ok (.iconst 1, 1) := by decide +kernel
theorem dX11_ableIt_76 : decode cX11_ableIt 76 = .ok (.iload_n 2, 1) := by decide +kernel
theorem dX11_ableIt_77 : decode cX11_ableIt 77 = .ok (.ishl, 1) := by decide +kernel
theorem dX11_ableIt_78 : decode cX11_ableIt 78 = .ok (.ior, 1) := by decide +kernel
theorem dX11_ableIt_79 : decode cX11_ableIt 79 = .ok (.goto 19, 3) := by decide +kernel
theorem dX11_ableIt_82 : decode cX11_ableIt 82 = .ok (.aload_n 0, 1) := by decide +kernel
theorem dX11_ableIt_83 : decode cX11_ableIt 83 = .ok (.getfield 9, 3) := by decide +kernel
theorem dX11_ableIt_86 : decode cX11_ableIt 86 = .ok (.sipush 215, 3) := by decide +kernel
theorem dX11_ableIt_89 : decode cX11_ableIt 89 = .ok (.iload_n 1, 1) := by decide +kernel
theorem dX11_ableIt_90 : decode cX11_ableIt 90 = .ok (.iadd, 1) := by decide +kernel
theorem dX11_ableIt_91 : decode cX11_ableIt 91 = .ok (.iaload, 1) := by decide +kernel
theorem dX11_ableIt_92 : decode cX11_ableIt 92 = .ok (.iconst 1, 1) := by decide +kernel
theorem dX11_ableIt_93 : decode cX11_ableIt 93 = .ok (.iload_n 2, 1) := by decide +kernel
theorem dX11_ableIt_94 : decode cX11_ableIt 94 = .ok (.ishl, 1) := by decide +kernel
theorem dX11_ableIt_95 : decode cX11_ableIt 95 = .ok (.iconst (-1), 1) := by decide +kernel
theorem dX11_ableIt_96 : decode cX11_ableIt 96 = .ok (.ixor, 1) := by decide +kernel
theorem dX11_ableIt_97 : decode cX11_ableIt 97 = .ok (.iand, 1) := by decide +kernel
theorem dX11_ableIt_98 : decode cX11_ableIt 98 = .ok (.iastore, 1) := by decide +kernel
theorem dX11_ableIt_99 : decode cX11_ableIt 99 = .ok (.iload 4, 2) := by decide +kernel
theorem dX11_ableIt_101 : decode cX11_ableIt 101 = .ok (.ireturn, 1) := by decide +kernel
theorem dX11_setAble_0 : decode cX11_setAble 0 = .ok (.aload_n 0, 1) := by decide +kernel
theorem dX11_setAble_1 : decode cX11_setAble 1 = .ok (.invokevirtual 128, 3) := by decide +kernel
theorem dX11_setAble_4 : decode cX11_setAble 4 = .ok (.aload_n 0, 1) := by decide +kernel
theorem dX11_setAble_5 : decode cX11_setAble 5 = .ok (.aload_n 0, 1) := by decide +kernel
theorem dX11_setAble_6 : decode cX11_setAble 6 = .ok (.iload_n 1, 1) := by decide +kernel
theorem dX11_setAble_7 : decode cX11_setAble 7 = .ok (.iload_n 2, 1) := by decide +kernel
theorem dX11_setAble_8 : decode cX11_setAble 8 = .ok (.iload_n 3, 1) := by decide +kernel
theorem dX11_setAble_9 : decode cX11_setAble 9 = .ok (.invokevirtual 173, 3) := by decide +kernel
theorem dX11_setAble_12 : decode cX11_setAble 12 = .ok (.invokevirtual 134, 3) := by decide +kernel
theorem dX11_setAble_15 : decode cX11_setAble 15 = .ok (.istore 4, 2) := by decide +kernel
theorem dX11_setAble_17 : decode cX11_setAble 17 = .ok (.iload 4, 2) := by decide +kernel
theorem dX11_setAble_19 : decode cX11_setAble 19 = .ok (.iconst 1, 1) := by decide +kernel
theorem dX11_setAble_20 : decode cX11_setAble 20 = .ok (.if_icmp .ne 7, 3) := by decide +kernel
theorem dX11_setAble_23 : decode cX11_setAble 23 = .ok (.iconst 1, 1) := by decide +kernel
theorem dX11_setAble_24 : decode cX11_setAble 24 = .ok (.goto 4, 3) := by decide +kernel
theorem dX11_setAble_27 : decode cX11_setAble 27 = .ok (.iconst 0, 1) := by decide +kernel
theorem dX11_setAble_28 : decode cX11_setAble 28 = .ok (.ireturn, 1) := by decide +kernel
theorem dX11_mendIt_0 : decode cX11_mendIt 0 = .ok (.aload_n 0, 1) := by decide +kernel
theorem dX11_mendIt_1 : decode cX11_mendIt 1 = .ok (.iload_n 1, 1) := by decide +kernel
theorem dX11_mendIt_2 : decode cX11_mendIt 2 = .ok (.invokevirtual 71, 3) := by decide +kernel
theorem dX11_mendIt_5 : decode cX11_mendIt 5 = .ok (.ifCond .ne 9, 3) := by decide +kernel
theorem dX11_mendIt_8 : decode cX11_mendIt 8 = .ok (.aload_n 0, 1) := by decide +kernel
theorem dX11_mendIt_9 : decode cX11_mendIt 9 = .ok (.iconst 1, 1) := by decide +kernel
theorem dX11_mendIt_10 : decode cX11_mendIt 10 = .ok (.invokevirtual 125, 3) := by decide +kernel
theorem dX11_mendIt_13 : decode cX11_mendIt 13 = .ok (.ireturn, 1) := by decide +kernel
theorem dX11_mendIt_14 : decode cX11_mendIt 14 = .ok (.iload_n 2, 1) := by decide +kernel
theorem dX11_mendIt_15 : decode cX11_mendIt 15 = .ok (.i2l, 1) := by decide +kernel
theorem dX11_mendIt_16 : decode cX11_mendIt 16 = .ok (.lconst 1, 1) := by decide +kernel
theorem dX11_mendIt_17 : decode cX11_mendIt 17 = .ok (.ldc2_w 143, 3) := by decide +kernel
theorem dX11_mendIt_20 : decode cX11_mendIt 20 = .ok (.invokestatic 63, 3) := by decide +kernel
theorem dX11_mendIt_23 : decode cX11_mendIt 23 = .ok (.ifCond .eq 15, 3) := by decide +kernel
theorem dX11_mendIt_26 : decode cX11_mendIt 26 = .ok (.iload_n 3, 1) := by decide +kernel
theorem dX11_mendIt_27 : decode cX11_mendIt 27 = .ok (.i2l, 1) := by decide +kernel
theorem dX11_mendIt_28 : decode cX11_mendIt 28 = .ok (.lconst 1, 1) := by decide +kernel
theorem dX11_mendIt_29 : decode cX11_mendIt 29 = .ok (.ldc2_w 143, 3) := by decide +kernel
theorem dX11_mendIt_32 : decode cX11_mendIt 32 = .ok (.invokestatic 63, 3) := by decide +kernel
theorem dX11_mendIt_35 : decode cX11_mendIt 35 = .ok (.ifCond .ne 9, 3) := by decide +kernel
theorem dX11_mendIt_38 : decode cX11_mendIt 38 = .ok (.aload_n 0, 1) := by decide +kernel
theorem dX11_mendIt_39 : decode cX11_mendIt 39 = .ok (.iconst 2, 1) := by decide +kernel
theorem dX11_mendIt_40 : decode cX11_mendIt 40 = .ok (.invokevirtual 125, 3) := by decide +kernel
theorem dX11_mendIt_43 : decode cX11_mendIt 43 = .ok (.ireturn, 1) := by decide +kernel
theorem dX11_mendIt_44 : decode cX11_mendIt 44 = .ok (.aload_n 0, 1) := by decide +kernel
theorem dX11_mendIt_45 : decode cX11_mendIt 45 = .ok (.getfield 9, 3) := by decide +kernel
theorem dX11_mendIt_48 : decode cX11_mendIt 48 = .ok (.iconst 4, 1) := by decide +kernel
theorem dX11_mendIt_49 : decode cX11_mendIt 49 = .ok (.iaload, 1) := by decide +kernel
theorem dX11_mendIt_50 : decode cX11_mendIt 50 = .ok (.bipush 8, 2) := by decide +kernel
theorem dX11_mendIt_52 : decode cX11_mendIt 52 = .ok (.if_icmp .ne 9, 3) := by decide +kernel
theorem dX11_mendIt_55 : decode cX11_mendIt 55 = .ok (.aload_n 0, 1) := by decide +kernel
theorem dX11_mendIt_56 : decode cX11_mendIt 56 = .ok (.iconst 3, 1) := by decide +kernel
theorem dX11_mendIt_57 : decode cX11_mendIt 57 = .ok (.invokevirtual 125, 3) := by decide +kernel
theorem dX11_mendIt_60 : decode cX11_mendIt 60 = .ok (.ireturn, 1) := by decide +kernel
theorem dX11_mendIt_61 : decode cX11_mendIt 61 = .ok (.sipush 221, 3) := by decide +kernel
theorem dX11_mendIt_64 : decode cX11_mendIt 64 = .ok (.iconst 3, 1) := by decide +kernel
theorem dX11_mendIt_65 : decode cX11_mendIt 65 = .ok (.aload_n 0, 1) := by decide +kernel
theorem dX11_mendIt_66 : decode cX11_mendIt 66 = .ok (.getfield 9, 3) := by decide +kernel
theorem dX11_mendIt_69 : decode cX11_mendIt 69 = .ok (.iconst 4, 1) := by decide +kernel
theorem dX11_mendIt_70 : decode cX11_mendIt 70 = .ok (.iaload, 1) := by decide +kernel
theorem dX11_mendIt_71 : decode cX11_mendIt 71 = .ok (.imul, 1) := by decide +kernel
theorem dX11_mendIt_72 : decode cX11_mendIt 72 = .ok (.iadd, 1) := by decide +kernel
theorem dX11_mendIt_73 : decode cX11_mendIt 73 = .ok (.istore 4, 2) := by decide +kernel
theorem dX11_mendIt_75 : decode cX11_mendIt 75 = .ok (.aload_n 0, 1) := by decide +kernel
theorem dX11_mendIt_76 : decode cX11_mendIt 76 = .ok (.getfield 9, 3) := by decide +kernel
theorem dX11_mendIt_79 : decode cX11_mendIt 79 = .ok (.iload 4, 2) := by decide +kernel
theorem dX11_mendIt_81 : decode cX11_mendIt 81 = .ok (.iload_n 1, 1) := by decide +kernel
theorem dX11_mendIt_82 : decode cX11_mendIt 82 = .ok (.iastore, 1) := by decide +kernel
theorem dX11_mendIt_83 : decode cX11_mendIt 83 = .ok (.aload_n 0, 1) := by decide +kernel
theorem dX11_mendIt_84 : decode cX11_mendIt 84 = .ok (.getfield 9, 3) := by decide +kernel
theorem dX11_mendIt_87 : decode cX11_mendIt 87 = .ok (.iload 4, 2) := by decide +kernel
theorem dX11_mendIt_89 : decode cX11_mendIt 89 = .ok (.iconst 1, 1) := by decide +kernel
theorem dX11_mendIt_90 : decode cX11_mendIt 90 = .ok (.iadd, 1) := by decide +kernel
theorem dX11_mendIt_91 : decode cX11_mendIt 91 = .ok (.iload_n 2, 1) := by decide +kernel
theorem dX11_mendIt_92 : decode cX11_mendIt 92 = .ok (.iastore, 1) := by decide +kernel
theorem dX11_mendIt_93 : decode cX11_mendIt 93 = .ok (.aload_n 0, 1) := by decide +kernel
theorem dX11_mendIt_94 : decode cX11_mendIt 94 = .ok (.getfield 9, 3) := by decide +kernel
theorem dX11_mendIt_97 : decode cX11_mendIt 97 = .ok (.iload 4, 2) := by decide +kernel
theorem dX11_mendIt_99 : decode cX11_mendIt 99 = .ok (.iconst 2, 1) := by decide +kernel
theorem dX11_mendIt_100 : decode cX11_mendIt 100 = .ok (.iadd, 1) := by decide +kernel
theorem dX11_mendIt_101 : decode cX11_mendIt 101 = .ok (.iload_n 3, 1) := by decide +kernel
theorem dX11_mendIt_102 : decode cX11_mendIt 102 = .ok (.iastore, 1) := by decide +kernel
theorem dX11_mendIt_103 : decode cX11_mendIt 103 = .ok (.aload_n 0, 1) := by decide +kernel
theorem dX11_mendIt_104 : decode cX11_mendIt 104 = .ok (.getfield 9, 3) := by decide +kernel
theorem dX11_mendIt_107 : decode cX11_mendIt 107 = .ok (.iconst 4, 1) := by decide +kernel
theorem dX11_mendIt_108 : decode cX11_mendIt 108 = .ok (.dup2, 1) := by decide +kernel
theorem dX11_mendIt_109 : decode cX11_mendIt 109 = .ok (.iaload, 1) := by decide +kernel
theorem dX11_mendIt_110 : decode cX11_mendIt 110 = .ok (.iconst 1, 1) := by decide +kernel
theorem dX11_mendIt_111 : decode cX11_mendIt 111 = .ok (.iadd, 1) := by decide +kernel
theorem dX11_mendIt_112 : decode cX11_mendIt 112 = .ok (.iastore, 1) := by decide +kernel
theorem dX11_mendIt_113 : decode cX11_mendIt 113 = .ok (.aload_n 0, 1) := by decide +kernel
theorem dX11_mendIt_114 : decode cX11_mendIt 114 = .ok (.getfield 9, 3) := by decide +kernel
theorem dX11_mendIt_117 : decode cX11_mendIt 117 = .ok (.iconst 4, 1) := by decide +kernel
theorem dX11_mendIt_118 : decode cX11_mendIt 118 = .ok (.iaload, 1) := by decide +kernel
theorem dX11_mendIt_119 : decode cX11_mendIt 119 = .ok (.iconst 1, 1) := by decide +kernel
theorem dX11_mendIt_120 : decode cX11_mendIt 120 = .ok (.isub, 1) := by decide +kernel
theorem dX11_mendIt_121 : decode cX11_mendIt 121 = .ok (.ireturn, 1) := by decide +kernel
theorem dX11_addRepair_0 : decode cX11_addRepair 0 = .ok (.aload_n 0, 1) := by decide +kernel
theorem dX11_addRepair_1 : decode cX11_addRepair 1 = .ok (.invokevirtual 128, 3) := by decide +kernel
theorem dX11_addRepair_4 : decode cX11_addRepair 4 = .ok (.aload_n 0, 1) := by decide +kernel
theorem dX11_addRepair_5 : decode cX11_addRepair 5 = .ok (.aload_n 0, 1) := by decide +kernel
theorem dX11_addRepair_6 : decode cX11_addRepair 6 = .ok (.iload_n 1, 1) := by decide +kernel
theorem dX11_addRepair_7 : decode cX11_addRepair 7 = .ok (.iload_n 2, 1) := by decide +kernel
theorem dX11_addRepair_8 : decode cX11_addRepair 8 = .ok (.iload_n 3, 1) := by decide +kernel
theorem dX11_addRepair_9 : decode cX11_addRepair 9 = .ok (.invokevirtual 177, 3) := by decide +kernel
theorem dX11_addRepair_12 : decode cX11_addRepair 12 = .ok (.invokevirtual 134, 3) := by decide +kernel
theorem dX11_addRepair_15 : decode cX11_addRepair 15 = .ok (.ireturn, 1) := by decide +kernel
theorem dX11_removeRepair_0 : decode cX11_removeRepair 0 = .ok (.aload_n 0, 1) := by decide +kernel
theorem dX11_removeRepair_1 : decode cX11_removeRepair 1 = .ok (.invokevirtual 128, 3) := by decide +kernel
theorem dX11_removeRepair_4 : decode cX11_removeRepair 4 = .ok (.iload_n 1, 1) := by decide +kernel
theorem dX11_removeRepair_5 : decode cX11_removeRepair 5 = .ok (.i2l, 1) := by decide +kernel
theorem dX11_removeRepair_6 : decode cX11_removeRepair 6 = .ok (.lconst 0, 1) := by decide +kernel
theorem dX11_removeRepair_7 : decode cX11_removeRepair 7 = .ok (.aload_n 0, 1) := by decide +kernel
theorem dX11_removeRepair_8 : decode cX11_removeRepair 8 = .ok (.getfield 9, 3) := by decide +kernel
theorem dX11_removeRepair_11 : decode cX11_removeRepair 11 = .ok (.iconst 4, 1) := by decide +kernel
theorem dX11_removeRepair_12 : decode cX11_removeRepair 12 = .ok (.iaload, 1) := by decide +kernel
theorem dX11_removeRepair_13 : decode cX11_removeRepair 13 = .ok (.iconst 1, 1) := by decide +kernel
theorem dX11_removeRepair_14 : decode cX11_removeRepair 14 = .ok (.isub, 1) := by decide +kernel
theorem dX11_removeRepair_15 : decode cX11_removeRepair 15 = .ok (.i2l, 1) := by decide +kernel
theorem dX11_removeRepair_16 : decode cX11_removeRepair 16 = .ok (.invokestatic 63, 3) := by decide +kernel
theorem dX11_removeRepair_19 : decode cX11_removeRepair 19 = .ok (.ifCond .ne 9, 3) := by decide +kernel
theorem dX11_removeRepair_22 : decode cX11_removeRepair 22 = .ok (.aload_n 0, 1) := by decide +kernel
theorem dX11_removeRepair_23 : decode cX11_removeRepair 23 = .ok (.iconst 1, 1) := by decide +kernel
theorem dX11_removeRepair_24 : decode cX11_removeRepair 24 = .ok (.invokevirtual 125, 3) := by decide +kernel
theorem dX11_removeRepair_27 : decode cX11_removeRepair 27 = .ok (.ireturn, 1) := by decide +kernel
theorem dX11_removeRepair_28 : decode cX11_removeRepair 28 = .ok (.aload_n 0, 1) := by decide +kernel
theorem dX11_removeRepair_29 : decode cX11_removeRepair 29 = .ok (.iload_n 1, 1) := by decide +kernel
theorem dX11_removeRepair_30 : decode cX11_removeRepair 30 = .ok (.invokevirtual 180, 3) := by decide +kernel
theorem dX11_removeRepair_33 : decode cX11_removeRepair 33 = .ok (.aload_n 0, 1) := by decide +kernel
theorem dX11_removeRepair_34 : decode cX11_removeRepair 34 = .ok (.aload_n 0, 1) := by decide +kernel
theorem dX11_removeRepair_35 : decode cX11_removeRepair 35 = .ok (.getfield 9, 3) := by decide +kernel
theorem dX11_removeRepair_38 : decode cX11_removeRepair 38 = .ok (.iconst 4, 1) := by decide +kernel
theorem dX11_removeRepair_39 : decode cX11_removeRepair 39 = .ok (.iaload, 1) := by decide +kernel
theorem dX11_removeRepair_40 : decode cX11_removeRepair 40 = .ok (.invokevirtual 134, 3) := by decide +kernel
theorem dX11_removeRepair_43 : decode cX11_removeRepair 43 = .ok (.ireturn, 1) := by decide +kernel
theorem dX11_repairIt_0 : decode cX11_repairIt 0 = .ok (.aload_n 0, 1) := by decide +kernel
theorem dX11_repairIt_1 : decode cX11_repairIt 1 = .ok (.getfield 9, 3) := by decide +kernel
theorem dX11_repairIt_4 : decode cX11_repairIt 4 = .ok (.iconst 4, 1) := by decide +kernel
theorem dX11_repairIt_5 : decode cX11_repairIt 5 = .ok (.iaload, 1) := by decide +kernel
theorem dX11_repairIt_6 : decode cX11_repairIt 6 = .ok (.ifCond .ne 9, 3) := by decide +kernel
theorem dX11_repairIt_9 : decode cX11_repairIt 9 = .ok (.aload_n 0, 1) := by decide +kernel
theorem dX11_repairIt_10 : decode cX11_repairIt 10 = .ok (.iconst 1, 1) := by decide +kernel
theorem dX11_repairIt_11 : decode cX11_repairIt 11 = .ok (.invokevirtual 125, 3) := by decide +kernel
theorem dX11_repairIt_14 : decode cX11_repairIt 14 = .ok (.ireturn, 1) := by decide +kernel
theorem dX11_repairIt_15 : decode cX11_repairIt 15 = .ok (.iconst 0, 1) := by decide +kernel
theorem dX11_repairIt_16 : decode cX11_repairIt 16 = .ok (.istore_n 1, 1) := by decide +kernel
theorem dX11_repairIt_17 : decode cX11_repairIt 17 = .ok (.iconst 0, 1) := by decide +kernel
theorem dX11_repairIt_18 : decode cX11_repairIt 18 = .ok (.istore_n 2, 1) := by decide +kernel
theorem dX11_repairIt_19 : decode cX11_repairIt 19 = .ok (.iconst 0, 1) := by decide +kernel
theorem dX11_repairIt_20 : decode cX11_repairIt 20 = .ok (.istore_n 3, 1) := by decide +kernel
theorem dX11_repairIt_21 : decode cX11_repairIt 21 = .ok (.iload_n 3, 1) := by decide +kernel
theorem dX11_repairIt_22 : decode cX11_repairIt 22 = .ok (.aload_n 0, 1) := by decide +kernel
theorem dX11_repairIt_23 : decode cX11_repairIt 23 = .ok (.getfield 9, 3) := by decide +kernel
theorem dX11_repairIt_26 : decode cX11_repairIt 26 = .ok (.iconst 4, 1) := by decide +kernel
theorem dX11_repairIt_27 : decode cX11_repairIt 27 = .ok (.iaload, 1) := by decide +kernel
theorem dX11_repairIt_28 : decode cX11_repairIt 28 = .ok (.if_icmp .ge 33, 3) := by decide +kernel
theorem dX11_repairIt_31 : decode cX11_repairIt 31 = .ok (.aload_n 0, 1) := by decide +kernel
theorem dX11_repairIt_32 : decode cX11_repairIt 32 = .ok (.iload_n 3, 1) := by decide +kernel
theorem dX11_repairIt_33 : decode cX11_repairIt 33 = .ok (.iload_n 1, 1) := by decide +kernel
theorem dX11_repairIt_34 : decode cX11_repairIt 34 = .ok (.invokevirtual 118, 3) := by decide +kernel
theorem dX11_repairIt_37 : decode cX11_repairIt 37 = .ok (.ifCond .eq 7, 3) := by decide +kernel
theorem dX11_repairIt_40 : decode cX11_repairIt 40 = .ok (.iload_n 3, 1) := by decide +kernel
theorem dX11_repairIt_41 : decode cX11_repairIt 41 = .ok (.goto 4, 3) := by decide +kernel
theorem dX11_repairIt_44 : decode cX11_repairIt 44 = .ok (.iload_n 1, 1) := by decide +kernel
theorem dX11_repairIt_45 : decode cX11_repairIt 45 = .ok (.istore_n 1, 1) := by decide +kernel
theorem dX11_repairIt_46 : decode cX11_repairIt 46 = .ok (.iload_n 2, 1) := by decide +kernel
theorem dX11_repairIt_47 : decode cX11_repairIt 47 = .ok (.aload_n 0, 1) := by decide +kernel
theorem dX11_repairIt_48 : decode cX11_repairIt 48 = .ok (.iload_n 3, 1) := by decide +kernel
theorem dX11_repairIt_49 : decode cX11_repairIt 49 = .ok (.iconst 2, 1) := by decide +kernel
theorem dX11_repairIt_50 : decode cX11_repairIt 50 = .ok (.invokevirtual 115, 3) := by decide +kernel
theorem dX11_repairIt_53 : decode cX11_repairIt 53 = .ok (.iadd, 1) := by decide +kernel
theorem dX11_repairIt_54 : decode cX11_repairIt 54 = .ok (.istore_n 2, 1) := by decide +kernel
theorem dX11_repairIt_55 : decode cX11_repairIt 55 = .ok (.iinc 3 1, 3) := by decide +kernel
theorem dX11_repairIt_58 : decode cX11_repairIt 58 = .ok (.goto (-37), 3) := by decide +kernel
theorem dX11_repairIt_61 : decode cX11_repairIt 61 = .ok (.aload_n 0, 1) := by decide +kernel
theorem dX11_repairIt_62 : decode cX11_repairIt 62 = .ok (.iload_n 1, 1) := by decide +kernel
theorem dX11_repairIt_63 : decode cX11_repairIt 63 = .ok (.iconst 0, 1) := by decide +kernel
theorem dX11_repairIt_64 : decode cX11_repairIt 64 = .ok (.invokevirtual 115, 3) := by decide +kernel
theorem dX11_repairIt_67 : decode cX11_repairIt 67 = .ok (.istore_n 3, 1) := by decide +kernel
theorem dX11_repairIt_68 : decode cX11_repairIt 68 = .ok (.aload_n 0, 1) := by decide +kernel
theorem dX11_repairIt_69 : decode cX11_repairIt 69 = .ok (.getfield 9, 3) := by decide +kernel
theorem dX11_repairIt_72 : decode cX11_repairIt 72 = .ok (.iconst 5, 1) := by decide +kernel
theorem dX11_repairIt_73 : decode cX11_repairIt 73 = .ok (.dup2, 1) := by decide +kernel
theorem dX11_repairIt_74 : decode cX11_repairIt 74 = .ok (.iaload, 1) := by decide +kernel
theorem dX11_repairIt_75 : decode cX11_repairIt 75 = .ok (.aload_n 0, 1) := by decide +kernel
theorem dX11_repairIt_76 : decode cX11_repairIt 76 = .ok (.iload_n 1, 1) := by decide +kernel
theorem dX11_repairIt_77 : decode cX11_repairIt 77 = .ok (.iconst 1, 1) := by decide +kernel
theorem dX11_repairIt_78 : decode cX11_repairIt 78 = .ok (.invokevirtual 115, 3) := by decide +kernel
theorem dX11_repairIt_81 : decode cX11_repairIt 81 = .ok (.iload_n 2, 1) := by decide +kernel
theorem dX11_repairIt_82 : decode cX11_repairIt 82 = .ok (.imul, 1) := by decide +kernel
theorem dX11_repairIt_83 : decode cX11_repairIt 83 = .ok (.iadd, 1) := by decide +kernel
theorem dX11_repairIt_84 : decode cX11_repairIt 84 = .ok (.iastore, 1) := by decide +kernel
theorem dX11_repairIt_85 : decode cX11_repairIt 85 = .ok (.aload_n 0, 1) := by decide +kernel
theorem dX11_repairIt_86 : decode cX11_repairIt 86 = .ok (.aload_n 0, 1) := by decide +kernel
theorem dX11_repairIt_87 : decode cX11_repairIt 87 = .ok (.iload_n 1, 1) := by decide +kernel
theorem dX11_repairIt_88 : decode cX11_repairIt 88 = .ok (.iconst 1, 1) := by decide +kernel
theorem dX11_repairIt_89 : decode cX11_repairIt 89 = .ok (.invokevirtual 115, 3) := by decide +kernel
theorem dX11_repairIt_92 : decode cX11_repairIt 92 = .ok (.invokevirtual 184, 3) := by decide +kernel
theorem dX11_repairIt_95 : decode cX11_repairIt 95 = .ok (.pop, 1) := by decide +kernel
theorem dX11_repairIt_96 : decode cX11_repairIt 96 = .ok (.iconst 0, 1) := by decide +kernel
theorem dX11_repairIt_97 : decode cX11_repairIt 97 = .ok (.istore 4, 2) := by decide +kernel
theorem dX11_repairIt_99 : decode cX11_repairIt 99 = .ok (.iload 4, 2) := by decide +kernel
theorem dX11_repairIt_101 : decode cX11_repairIt 101 = .ok (.aload_n 0, 1) := by decide +kernel
theorem dX11_repairIt_102 : decode cX11_repairIt 102 = .ok (.iload_n 3, 1) := by decide +kernel
theorem dX11_repairIt_103 : decode cX11_repairIt 103 = .ok (.invokevirtual 75, 3) := by decide +kernel
theorem dX11_repairIt_106 : decode cX11_repairIt 106 = .ok (.if_icmp .ge 25, 3) := by decide +kernel
theorem dX11_repairIt_109 : decode cX11_repairIt 109 = .ok (.aload_n 0, 1) := by decide +kernel
theorem dX11_repairIt_110 : decode cX11_repairIt 110 = .ok (.getfield 9, 3) := by decide +kernel
theorem dX11_repairIt_113 : decode cX11_repairIt 113 = .ok (.iload_n 3, 1) := by decide +kernel
theorem dX11_repairIt_114 : decode cX11_repairIt 114 = .ok (.invokestatic 67, 3) := by decide +kernel
theorem dX11_repairIt_117 : decode cX11_repairIt 117 = .ok (.bipush 20, 2) := by decide +kernel
theorem dX11_repairIt_119 : decode cX11_repairIt 119 = .ok (.iadd, 1) := by decide +kernel
theorem dX11_repairIt_120 : decode cX11_repairIt 120 = .ok (.iload 4, 2) := by decide +kernel
theorem dX11_repairIt_122 : decode cX11_repairIt 122 = .ok (.iadd, 1) := by decide +kernel
theorem dX11_repairIt_123 : decode cX11_repairIt 123 = .ok (.iconst 0, 1) := by decide +kernel
theorem dX11_repairIt_124 : decode cX11_repairIt 124 = .ok (.iastore, 1) := by decide +kernel
theorem dX11_repairIt_125 : decode cX11_repairIt 125 = .ok (.iinc 4 1, 3) := by decide +kernel
theorem dX11_repairIt_128 : decode cX11_repairIt 128 = .ok (.goto (-29), 3) := by decide +kernel
theorem dX11_repairIt_131 : decode cX11_repairIt 131 = .ok (.aload_n 0, 1) := by decide +kernel
theorem dX11_repairIt_132 : decode cX11_repairIt 132 = .ok (.iload_n 1, 1) := by decide +kernel
theorem dX11_repairIt_133 : decode cX11_repairIt 133 = .ok (.invokevirtual 180, 3) := by decide +kernel
theorem dX11_repairIt_136 : decode cX11_repairIt 136 = .ok (.iload_n 3, 1) := by decide +kernel
theorem dX11_repairIt_137 : decode cX11_repairIt 137 = .ok (.ireturn, 1) := by decide +kernel
theorem dX11_repair_0 : decode cX11_repair 0 = .ok (.aload_n 0, 1) := by decide +kernel
theorem dX11_repair_1 : decode cX11_repair 1 = .ok (.invokevirtual 128, 3) := by decide +kernel
theorem dX11_repair_4 : decode cX11_repair 4 = .ok (.aload_n 0, 1) := by decide +kernel
theorem dX11_repair_5 : decode cX11_repair 5 = .ok (.aload_n 0, 1) := by decide +kernel
theorem dX11_repair_6 : decode cX11_repair 6 = .ok (.invokevirtual 187, 3) := by decide +kernel
theorem dX11_repair_9 : decode cX11_repair 9 = .ok (.invokevirtual 134, 3) := by decide +kernel
theorem dX11_repair_12 : decode cX11_repair 12 = .ok (.ireturn, 1) := by decide +kernel
theorem dX11_passIt_0 : decode cX11_passIt 0 = .ok (.iload_n 1, 1) := by decide +kernel
theorem dX11_passIt_1 : decode cX11_passIt 1 = .ok (.i2l, 1) := by decide +kernel
theorem dX11_passIt_2 : decode cX11_passIt 2 = .ok (.lconst 1, 1) := by decide +kernel
theorem dX11_passIt_3 : decode cX11_passIt 3 = .ok (.ldc2_w 190, 3) := by decide +kernel
theorem dX11_passIt_6 : decode cX11_passIt 6 = .ok (.invokestatic 63, 3) := by decide +kernel
theorem dX11_passIt_9 : decode cX11_passIt 9 = .ok (.ifCond .eq 11, 3) := by decide +kernel
theorem dX11_passIt_12 : decode cX11_passIt 12 = .ok (.aload_n 0, 1) := by decide +kernel
theorem dX11_passIt_13 : decode cX11_passIt 13 = .ok (.iload_n 1, 1) := by decide +kernel
theorem dX11_passIt_14 : decode cX11_passIt 14 = .ok (.invokevirtual 184, 3) := by decide +kernel
theorem dX11_passIt_17 : decode cX11_passIt 17 = .ok (.goto 8, 3) := by decide +kernel
theorem dX11_passIt_20 : decode cX11_passIt 20 = .ok (.aload_n 0, 1) := by decide +kernel
theorem dX11_passIt_21 : decode cX11_passIt 21 = .ok (.iconst 1, 1) := by decide +kernel
theorem dX11_passIt_22 : decode cX11_passIt 22 = .ok (.invokevirtual 125, 3) := by decide +kernel
theorem dX11_passIt_25 : decode cX11_passIt 25 = .ok (.ireturn, 1) := by decide +kernel
theorem dX11_pass_0 : decode cX11_pass 0 = .ok (.aload_n 0, 1) := by decide +kernel
theorem dX11_pass_1 : decode cX11_pass 1 = .ok (.invokevirtual 128, 3) := by decide +kernel
theorem dX11_pass_4 : decode cX11_pass 4 = .ok (.aload_n 0, 1) := by decide +kernel
theorem dX11_pass_5 : decode cX11_pass 5 = .ok (.aload_n 0, 1) := by decide +kernel
theorem dX11_pass_6 : decode cX11_pass 6 = .ok (.iload_n 1, 1) := by decide +kernel
theorem dX11_pass_7 : decode cX11_pass 7 = .ok (.invokevirtual 192, 3) := by decide +kernel
theorem dX11_pass_10 : decode cX11_pass 10 = .ok (.invokevirtual 134, 3) := by decide +kernel
theorem dX11_pass_13 : decode cX11_pass 13 = .ok (.ireturn, 1) := by decide +kernel
theorem dX11_engineCount_0 : decode cX11_engineCount 0 = .ok (.aload_n 0, 1) := by decide +kernel
theorem dX11_engineCount_1 : decode cX11_engineCount 1 = .ok (.iconst 0, 1) := by decide +kernel
theorem dX11_engineCount_2 : decode cX11_engineCount 2 = .ok (.putfield 57, 3) := by decide +kernel
theorem dX11_engineCount_5 : decode cX11_engineCount 5 = .ok (.aload_n 0, 1) := by decide +kernel
theorem dX11_engineCount_6 : decode cX11_engineCount 6 = .ok (.getfield 9, 3) := by decide +kernel
theorem dX11_engineCount_9 : decode cX11_engineCount 9 = .ok (.iconst 0, 1) := by decide +kernel
theorem dX11_engineCount_10 : decode cX11_engineCount 10 = .ok (.iaload, 1) := by decide +kernel
theorem dX11_engineCount_11 : decode cX11_engineCount 11 = .ok (.ireturn, 1) := by decide +kernel
theorem dX11_cylinderCount_0 : decode cX11_cylinderCount 0 = .ok (.aload_n 0, 1) := by decide +kernel
theorem dX11_cylinderCount_1 : decode cX11_cylinderCount 1 = .ok (.iconst 0, 1) := by decide +kernel
theorem dX11_cylinderCount_2 : decode cX11_cylinderCount 2 = .ok (.putfield 57, 3) := by decide +kernel
theorem dX11_cylinderCount_5 : decode cX11_cylinderCount 5 = .ok (.aload_n 0, 1) := by decide +kernel
theorem dX11_cylinderCount_6 : decode cX11_cylinderCount 6 = .ok (.iload_n 1, 1) := by decide +kernel
theorem dX11_cylinderCount_7 : decode cX11_cylinderCount 7 = .ok (.invokevirtual 71, 3) := by decide +kernel
theorem dX11_cylinderCount_10 : decode cX11_cylinderCount 10 = .ok (.ifCond .eq 11, 3) := by decide +kernel
theorem dX11_cylinderCount_13 : decode cX11_cylinderCount 13 = .ok (.aload_n 0, 1) := by decide +kernel
theorem dX11_cylinderCount_14 : decode cX11_cylinderCount 14 = .ok (.iload_n 1, 1) := by decide +kernel
theorem dX11_cylinderCount_15 : decode cX11_cylinderCount 15 = .ok (.invokevirtual 75, 3) := by decide +kernel
theorem dX11_cylinderCount_18 : decode cX11_cylinderCount 18 = .ok (.goto 8, 3) := by decide +kernel
theorem dX11_cylinderCount_21 : decode cX11_cylinderCount 21 = .ok (.aload_n 0, 1) := by decide +kernel
theorem dX11_cylinderCount_22 : decode cX11_cylinderCount 22 = .ok (.iconst 1, 1) := by decide +kernel
theorem dX11_cylinderCount_23 : decode cX11_cylinderCount 23 = .ok (.invokevirtual 125, 3) := by decide +kernel
theorem dX11_cylinderCount_26 : decode cX11_cylinderCount 26 = .ok (.ireturn, 1) := by decide +kernel
theorem dX11_orderAt_0 : decode cX11_orderAt 0 = .ok (.aload_n 0, 1) := by decide +kernel
theorem dX11_orderAt_1 : decode cX11_orderAt 1 = .ok (.iconst 0, 1) := by decide +kernel
theorem dX11_orderAt_2 : decode cX11_orderAt 2 = .ok (.putfield 57, 3) := by decide +kernel
theorem dX11_orderAt_5 : decode cX11_orderAt 5 = .ok (.aload_n 0, 1) := by decide +kernel
theorem dX11_orderAt_6 : decode cX11_orderAt 6 = .ok (.iload_n 1, 1) := by decide +kernel
theorem dX11_orderAt_7 : decode cX11_orderAt 7 = .ok (.iload_n 2, 1) := by decide +kernel
theorem dX11_orderAt_8 : decode cX11_orderAt 8 = .ok (.invokevirtual 137, 3) := by decide +kernel
theorem dX11_orderAt_11 : decode cX11_orderAt 11 = .ok (.ifCond .eq 12, 3) := by decide +kernel
theorem dX11_orderAt_14 : decode cX11_orderAt 14 = .ok (.aload_n 0, 1) := by decide +kernel
theorem dX11_orderAt_15 : decode cX11_orderAt 15 = .ok (.iload_n 1, 1) := by decide +kernel
theorem dX11_orderAt_16 : decode cX11_orderAt 16 = .ok (.iload_n 2, 1) := by decide +kernel
theorem dX11_orderAt_17 : decode cX11_orderAt 17 = .ok (.invokevirtual 81, 3) := by decide +kernel
theorem dX11_orderAt_20 : decode cX11_orderAt 20 = .ok (.goto 8, 3) := by decide +kernel
theorem dX11_orderAt_23 : decode cX11_orderAt 23 = .ok (.aload_n 0, 1) := by decide +kernel
theorem dX11_orderAt_24 : decode cX11_orderAt 24 = .ok (.iconst 1, 1) := by decide +kernel
theorem dX11_orderAt_25 : decode cX11_orderAt 25 = .ok (.invokevirtual 125, 3) := by decide +kernel
theorem dX11_orderAt_28 : decode cX11_orderAt 28 = .ok (.ireturn, 1) := by decide +kernel
theorem dX11_dueAfter_0 : decode cX11_dueAfter 0 = .ok (.aload_n 0, 1) := by decide +kernel
theorem dX11_dueAfter_1 : decode cX11_dueAfter 1 = .ok (.iconst 0, 1) := by decide +kernel
theorem dX11_dueAfter_2 : decode cX11_dueAfter 2 = .ok (.putfield 57, 3) := by decide +kernel
theorem dX11_dueAfter_5 : decode cX11_dueAfter 5 = .ok (.aload_n 0, 1) := by decide +kernel
theorem dX11_dueAfter_6 : decode cX11_dueAfter 6 = .ok (.iload_n 1, 1) := by decide +kernel
theorem dX11_dueAfter_7 : decode cX11_dueAfter 7 = .ok (.invokevirtual 71, 3) := by decide +kernel
theorem dX11_dueAfter_10 : decode cX11_dueAfter 10 = .ok (.ifCond .ne 9, 3) := by decide +kernel
theorem dX11_dueAfter_13 : decode cX11_dueAfter 13 = .ok (.aload_n 0, 1) := by decide +kernel
theorem dX11_dueAfter_14 : decode cX11_dueAfter 14 = .ok (.iconst 1, 1) := by decide +kernel
theorem dX11_dueAfter_15 : decode cX11_dueAfter 15 = .ok (.invokevirtual 125, 3) := by decide +kernel
theorem dX11_dueAfter_18 : decode cX11_dueAfter 18 = .ok (.ireturn, 1) := by decide +kernel
theorem dX11_dueAfter_19 : decode cX11_dueAfter 19 = .ok (.iload_n 2, 1) := by decide +kernel
theorem dX11_dueAfter_20 : decode cX11_dueAfter 20 = .ok (.i2l, 1) := by decide +kernel
theorem dX11_dueAfter_21 : decode cX11_dueAfter 21 = .ok (.lconst 0, 1) := by decide +kernel
theorem dX11_dueAfter_22 : decode cX11_dueAfter 22 = .ok (.ldc2_w 195, 3) := by decide +kernel
theorem dX11_dueAfter_25 : decode cX11_dueAfter 25 = .ok (.invokestatic 63, 3) := by decide +kernel
theorem dX11_dueAfter_28 : decode cX11_dueAfter 28 = .ok (.ifCond .ne 9, 3) := by decide +kernel
theorem dX11_dueAfter_31 : decode cX11_dueAfter 31 = .ok (.aload_n 0, 1) := by decide +kernel
theorem dX11_dueAfter_32 : decode cX11_dueAfter 32 = .ok (.iconst 2, 1) := by decide +kernel
theorem dX11_dueAfter_33 : decode cX11_dueAfter 33 = .ok (.invokevirtual 125, 3) := by decide +kernel
theorem dX11_dueAfter_36 : decode cX11_dueAfter 36 = .ok (.ireturn, 1) := by decide +kernel
theorem dX11_dueAfter_37 : decode cX11_dueAfter 37 = .ok (.aload_n 0, 1) := by decide +kernel
theorem dX11_dueAfter_38 : decode cX11_dueAfter 38 = .ok (.iload_n 1, 1) := by decide +kernel
theorem dX11_dueAfter_39 : decode cX11_dueAfter 39 = .ok (.aload_n 0, 1) := by decide +kernel
theorem dX11_dueAfter_40 : decode cX11_dueAfter 40 = .ok (.getfield 9, 3) := by decide +kernel
theorem dX11_dueAfter_43 : decode cX11_dueAfter 43 = .ok (.iload_n 1, 1) := by decide +kernel
theorem dX11_dueAfter_44 : decode cX11_dueAfter 44 = .ok (.invokestatic 67, 3) := by decide +kernel
theorem dX11_dueAfter_47 : decode cX11_dueAfter 47 = .ok (.iconst 1, 1) := by decide +kernel
theorem dX11_dueAfter_48 : decode cX11_dueAfter 48 = .ok (.iadd, 1) := by decide +kernel
theorem dX11_dueAfter_49 : decode cX11_dueAfter 49 = .ok (.iaload, 1) := by decide +kernel
theorem dX11_dueAfter_50 : decode cX11_dueAfter 50 = .ok (.iload_n 2, 1) := by decide +kernel
theorem dX11_dueAfter_51 : decode cX11_dueAfter 51 = .ok (.iadd, 1) := by decide +kernel
theorem dX11_dueAfter_52 : decode cX11_dueAfter 52 = .ok (.aload_n 0, 1) := by decide +kernel
theorem dX11_dueAfter_53 : decode cX11_dueAfter 53 = .ok (.iload_n 1, 1) := by decide +kernel
theorem dX11_dueAfter_54 : decode cX11_dueAfter 54 = .ok (.invokevirtual 75, 3) := by decide +kernel
theorem dX11_dueAfter_57 : decode cX11_dueAfter 57 = .ok (.irem, 1) := by decide +kernel
theorem dX11_dueAfter_58 : decode cX11_dueAfter 58 = .ok (.invokevirtual 81, 3) := by decide +kernel
theorem dX11_dueAfter_61 : decode cX11_dueAfter 61 = .ok (.ireturn, 1) := by decide +kernel
theorem dX11_dueAfterByStrokes_0 : decode cX11_dueAfterByStrokes 0 = .ok (.aload_n 0, 1) := by decide +kernel
theorem dX11_dueAfterByStrokes_1 : decode cX11_dueAfterByStrokes 1 = .ok (.iload_n 1, 1) := by decide +kernel
theorem dX11_dueAfterByStrokes_2 : decode cX11_dueAfterByStrokes 2 = .ok (.iload_n 2, 1) := by decide +kernel
theorem dX11_dueAfterByStrokes_3 : decode cX11_dueAfterByStrokes 3 = .ok (.invokevirtual 197, 3) := by decide +kernel
theorem dX11_dueAfterByStrokes_6 : decode cX11_dueAfterByStrokes 6 = .ok (.ireturn, 1) := by decide +kernel
theorem dX11_turnOf_0 : decode cX11_turnOf 0 = .ok (.aload_n 0, 1) := by decide +kernel
theorem dX11_turnOf_1 : decode cX11_turnOf 1 = .ok (.iconst 0, 1) := by decide +kernel
theorem dX11_turnOf_2 : decode cX11_turnOf 2 = .ok (.putfield 57, 3) := by decide +kernel
theorem dX11_turnOf_5 : decode cX11_turnOf 5 = .ok (.aload_n 0, 1) := by decide +kernel
theorem dX11_turnOf_6 : decode cX11_turnOf 6 = .ok (.iload_n 1, 1) := by decide +kernel
theorem dX11_turnOf_7 : decode cX11_turnOf 7 = .ok (.invokevirtual 71, 3) := by decide +kernel
theorem dX11_turnOf_10 : decode cX11_turnOf 10 = .ok (.ifCond .ne 9, 3) := by decide +kernel
theorem dX11_turnOf_13 : decode cX11_turnOf 13 = .ok (.aload_n 0, 1) := by decide +kernel
theorem dX11_turnOf_14 : decode cX11_turnOf 14 = .ok (.iconst 1, 1) := by decide +kernel
theorem dX11_turnOf_15 : decode cX11_turnOf 15 = .ok (.invokevirtual 125, 3) := by decide +kernel
theorem dX11_turnOf_18 : decode cX11_turnOf 18 = .ok (.ireturn, 1) := by decide +kernel
theorem dX11_turnOf_19 : decode cX11_turnOf 19 = .ok (.iconst 0, 1) := by decide +kernel
theorem dX11_turnOf_20 : decode cX11_turnOf 20 = .ok (.istore_n 2, 1) := by decide +kernel
theorem dX11_turnOf_21 : decode cX11_turnOf 21 = .ok (.iconst 0, 1) := by decide +kernel
theorem dX11_turnOf_22 : decode cX11_turnOf 22 = .ok (.istore_n 3, 1) := by decide +kernel
theorem dX11_turnOf_23 : decode cX11_turnOf 23 = .ok (.iload_n 3, 1) := by decide +kernel
theorem dX11_turnOf_24 : decode cX11_turnOf 24 = .ok (.ifCond .ne 52, 3) := by decide +kernel
theorem dX11_turnOf_27 : decode cX11_turnOf 27 = .ok (.iinc 2 1, 3) := by decide +kernel
theorem dX11_turnOf_30 : decode cX11_turnOf 30 = .ok (.iconst 1, 1) := by decide +kernel
theorem dX11_turnOf_31 : decode cX11_turnOf 31 = .ok (.istore_n 3, 1) := by decide +kernel
theorem dX11_turnOf_32 : decode cX11_turnOf 32 = .ok (.iconst 0, 1) := by decide +kernel
theorem dX11_turnOf_33 : decode cX11_turnOf 33 = .ok (.istore 4, 2) := by decide +kernel
theorem dX11_turnOf_35 : decode cX11_turnOf 35 = .ok (.iload 4, 2) := by decide +kernel
theorem dX11_turnOf_37 : decode cX11_turnOf 37 = .ok (.aload_n 0, 1) := by decide +kernel
theorem dX11_turnOf_38 : decode cX11_turnOf 38 = .ok (.iload_n 1, 1) := by decide +kernel
theorem dX11_turnOf_39 : decode cX11_turnOf 39 = .ok (.invokevirtual 75, 3) := by decide +kernel
theorem dX11_turnOf_42 : decode cX11_turnOf 42 = .ok (.if_icmp .ge 31, 3) := by decide +kernel
theorem dX11_turnOf_45 : decode cX11_turnOf 45 = .ok (.iload_n 3, 1) := by decide +kernel
theorem dX11_turnOf_46 : decode cX11_turnOf 46 = .ok (.ifCond .eq 19, 3) := by decide +kernel
theorem dX11_turnOf_49 : decode cX11_turnOf 49 = .ok (.iload_n 2, 1) := by decide +kernel
theorem dX11_turnOf_50 : decode cX11_turnOf 50 = .ok (.aload_n 0, 1) := by decide +kernel
theorem dX11_turnOf_51 : decode cX11_turnOf 51 = .ok (.iload_n 1, 1) := by decide +kernel
theorem dX11_turnOf_52 : decode cX11_turnOf 52 = .ok (.iload 4, 2) := by decide +kernel
theorem dX11_turnOf_54 : decode cX11_turnOf 54 = .ok (.invokevirtual 200, 3) := by decide +kernel
theorem dX11_turnOf_57 : decode cX11_turnOf 57 = .ok (.irem, 1) := by decide +kernel
theorem dX11_turnOf_58 : decode cX11_turnOf 58 = .ok (.ifCond .ne 7, 3) := by decide +kernel
theorem dX11_turnOf_61 : decode cX11_turnOf 61 = .ok (.iconst 1, 1) := by decide +kernel
theorem dX11_turnOf_62 : decode cX11_turnOf 62 = .ok (.goto 4, 3) := by decide +kernel
theorem dX11_turnOf_65 : decode cX11_turnOf 65 = .ok (.iconst 0, 1) := by decide +kernel
theorem dX11_turnOf_66 : decode cX11_turnOf 66 = .ok (.istore_n 3, 1) := by decide +kernel
theorem dX11_turnOf_67 : decode cX11_turnOf 67 = .ok (.iinc 4 1, 3) := by decide +kernel
theorem dX11_turnOf_70 : decode cX11_turnOf 70 = .ok (.goto (-35), 3) := by decide +kernel
theorem dX11_turnOf_73 : decode cX11_turnOf 73 = .ok (.goto (-50), 3) := by decide +kernel
theorem dX11_turnOf_76 : decode cX11_turnOf 76 = .ok (.iload_n 2, 1) := by decide +kernel
theorem dX11_turnOf_77 : decode cX11_turnOf 77 = .ok (.ireturn, 1) := by decide +kernel
theorem dX11_cycle_0 : decode cX11_cycle 0 = .ok (.aload_n 0, 1) := by decide +kernel
theorem dX11_cycle_1 : decode cX11_cycle 1 = .ok (.iload_n 1, 1) := by decide +kernel
theorem dX11_cycle_2 : decode cX11_cycle 2 = .ok (.iload_n 2, 1) := by decide +kernel
theorem dX11_cycle_3 : decode cX11_cycle 3 = .ok (.invokevirtual 81, 3) := by decide +kernel
theorem dX11_cycle_6 : decode cX11_cycle 6 = .ok (.istore_n 3, 1) := by decide +kernel
theorem dX11_cycle_7 : decode cX11_cycle 7 = .ok (.iconst 1, 1) := by decide +kernel
theorem dX11_cycle_8 : decode cX11_cycle 8 = .ok (.istore 4, 2) := by decide +kernel
theorem dX11_cycle_10 : decode cX11_cycle 10 = .ok (.iload_n 3, 1) := by decide +kernel
theorem dX11_cycle_11 : decode cX11_cycle 11 = .ok (.iload_n 2, 1) := by decide +kernel
theorem dX11_cycle_12 : decode cX11_cycle 12 = .ok (.if_icmp .eq 16, 3) := by decide +kernel
theorem dX11_cycle_15 : decode cX11_cycle 15 = .ok (.aload_n 0, 1) := by decide +kernel
theorem dX11_cycle_16 : decode cX11_cycle 16 = .ok (.iload_n 1, 1) := by decide +kernel
theorem dX11_cycle_17 : decode cX11_cycle 17 = .ok (.iload_n 3, 1) := by decide +kernel
theorem dX11_cycle_18 : decode cX11_cycle 18 = .ok (.invokevirtual 81, 3) := by decide +kernel
theorem dX11_cycle_21 : decode cX11_cycle 21 = .ok (.istore_n 3, 1) := by decide +kernel
theorem dX11_cycle_22 : decode cX11_cycle 22 = .ok (.iinc 4 1, 3) := by decide +kernel
theorem dX11_cycle_25 : decode cX11_cycle 25 = .ok (.goto (-15), 3) := by decide +kernel
theorem dX11_cycle_28 : decode cX11_cycle 28 = .ok (.iload 4, 2) := by decide +kernel
theorem dX11_cycle_30 : decode cX11_cycle 30 = .ok (.ireturn, 1) := by decide +kernel
theorem dX11_turnByRepeating_0 : decode cX11_turnByRepeating 0 = .ok (.aload_n 0, 1) := by decide +kernel
theorem dX11_turnByRepeating_1 : decode cX11_turnByRepeating 1 = .ok (.iload_n 1, 1) := by decide +kernel
theorem dX11_turnByRepeating_2 : decode cX11_turnByRepeating 2 = .ok (.invokevirtual 203, 3) := by decide +kernel
theorem dX11_turnByRepeating_5 : decode cX11_turnByRepeating 5 = .ok (.ireturn, 1) := by decide +kernel
theorem dX11_far_0 : decode cX11_far 0 = .ok (.iload_n 0, 1) := by decide +kernel
theorem dX11_far_1 : decode cX11_far 1 = .ok (.iload_n 1, 1) := by decide +kernel
theorem dX11_far_2 : decode cX11_far 2 = .ok (.isub, 1) := by decide +kernel
theorem dX11_far_3 : decode cX11_far 3 = .ok (.invokestatic 206, 3) := by decide +kernel
theorem dX11_far_6 : decode cX11_far 6 = .ok (.istore_n 3, 1) := by decide +kernel
theorem dX11_far_7 : decode cX11_far 7 = .ok (.iload_n 3, 1) := by decide +kernel
theorem dX11_far_8 : decode cX11_far 8 = .ok (.iload_n 2, 1) := by decide +kernel
theorem dX11_far_9 : decode cX11_far 9 = .ok (.iload_n 3, 1) := by decide +kernel
theorem dX11_far_10 : decode cX11_far 10 = .ok (.isub, 1) := by decide +kernel
theorem dX11_far_11 : decode cX11_far 11 = .ok (.invokestatic 209, 3) := by decide +kernel
theorem dX11_far_14 : decode cX11_far 14 = .ok (.ireturn, 1) := by decide +kernel
theorem dX11_evenness_0 : decode cX11_evenness 0 = .ok (.aload_n 0, 1) := by decide +kernel
theorem dX11_evenness_1 : decode cX11_evenness 1 = .ok (.iconst 0, 1) := by decide +kernel
theorem dX11_evenness_2 : decode cX11_evenness 2 = .ok (.putfield 57, 3) := by decide +kernel
theorem dX11_evenness_5 : decode cX11_evenness 5 = .ok (.aload_n 0, 1) := by decide +kernel
theorem dX11_evenness_6 : decode cX11_evenness 6 = .ok (.iload_n 1, 1) := by decide +kernel
theorem dX11_evenness_7 : decode cX11_evenness 7 = .ok (.invokevirtual 71, 3) := by decide +kernel
theorem dX11_evenness_10 : decode cX11_evenness 10 = .ok (.ifCond .ne 9, 3) := by decide +kernel
theorem dX11_evenness_13 : decode cX11_evenness 13 = .ok (.aload_n 0, 1) := by decide +kernel
theorem dX11_evenness_14 : decode cX11_evenness 14 = .ok (.iconst 1, 1) := by decide +kernel
theorem dX11_evenness_15 : decode cX11_evenness 15 = .ok (.invokevirtual 125, 3) := by decide +kernel
theorem dX11_evenness_18 : decode cX11_evenness 18 = .ok (.ireturn, 1) := by decide +kernel
theorem dX11_evenness_19 : decode cX11_evenness 19 = .ok (.aload_n 0, 1) := by decide +kernel
theorem dX11_evenness_20 : decode cX11_evenness 20 = .ok (.iload_n 1, 1) := by decide +kernel
theorem dX11_evenness_21 : decode cX11_evenness 21 = .ok (.invokevirtual 75, 3) := by decide +kernel
theorem dX11_evenness_24 : decode cX11_evenness 24 = .ok (.istore_n 2, 1) := by decide +kernel
theorem dX11_evenness_25 : decode cX11_evenness 25 = .ok (.iload_n 2, 1) := by decide +kernel
theorem dX11_evenness_26 : decode cX11_evenness 26 = .ok (.istore_n 3, 1) := by decide +kernel
theorem dX11_evenness_27 : decode cX11_evenness 27 = .ok (.iconst 0, 1) := by decide +kernel
theorem dX11_evenness_28 : decode cX11_evenness 28 = .ok (.istore 4, 2) := by decide +kernel
theorem dX11_evenness_30 : decode cX11_evenness 30 = .ok (.iload 4, 2) := by decide +kernel
theorem dX11_evenness_32 : decode cX11_evenness 32 = .ok (.iload_n 2, 1) := by decide +kernel
theorem dX11_evenness_33 : decode cX11_evenness 33 = .ok (.if_icmp .ge 36, 3) := by decide +kernel
theorem dX11_evenness_36 : decode cX11_evenness 36 = .ok (.iload_n 3, 1) := by decide +kernel
theorem dX11_evenness_37 : decode cX11_evenness 37 = .ok (.aload_n 0, 1) := by decide +kernel
theorem dX11_evenness_38 : decode cX11_evenness 38 = .ok (.iload_n 1, 1) := by decide +kernel
theorem dX11_evenness_39 : decode cX11_evenness 39 = .ok (.iload 4, 2) := by decide +kernel
theorem dX11_evenness_41 : decode cX11_evenness 41 = .ok (.invokevirtual 81, 3) := by decide +kernel
theorem dX11_evenness_44 : decode cX11_evenness 44 = .ok (.aload_n 0, 1) := by decide +kernel
theorem dX11_evenness_45 : decode cX11_evenness 45 = .ok (.iload_n 1, 1) := by decide +kernel
theorem dX11_evenness_46 : decode cX11_evenness 46 = .ok (.iload 4, 2) := by decide +kernel
theorem dX11_evenness_48 : decode cX11_evenness 48 = .ok (.iconst 1, 1) := by decide +kernel
theorem dX11_evenness_49 : decode cX11_evenness 49 = .ok (.iadd, 1) := by decide +kernel
theorem dX11_evenness_50 : decode cX11_evenness 50 = .ok (.iload_n 2, 1) := by decide +kernel
theorem dX11_evenness_51 : decode cX11_evenness 51 = .ok (.irem, 1) := by decide +kernel
theorem dX11_evenness_52 : decode cX11_evenness 52 = .ok (.invokevirtual 81, 3) := by decide +kernel
theorem dX11_evenness_55 : decode cX11_evenness 55 = .ok (.iload_n 2, 1) := by decide +kernel
theorem dX11_evenness_56 : decode cX11_evenness 56 = .ok (.invokestatic 212, 3) := by decide +kernel
theorem dX11_evenness_59 : decode cX11_evenness 59 = .ok (.invokestatic 209, 3) := by decide +kernel
theorem dX11_evenness_62 : decode cX11_evenness 62 = .ok (.istore_n 3, 1) := by decide +kernel
theorem dX11_evenness_63 : decode cX11_evenness 63 = .ok (.iinc 4 1, 3) := by decide +kernel
theorem dX11_evenness_66 : decode cX11_evenness 66 = .ok (.goto (-36), 3) := by decide +kernel
theorem dX11_evenness_69 : decode cX11_evenness 69 = .ok (.iload_n 3, 1) := by decide +kernel
theorem dX11_evenness_70 : decode cX11_evenness 70 = .ok (.ireturn, 1) := by decide +kernel
theorem dX11_evenOrders_0 : decode cX11_evenOrders 0 = .ok (.aload_n 0, 1) := by decide +kernel
theorem dX11_evenOrders_1 : decode cX11_evenOrders 1 = .ok (.iconst 0, 1) := by decide +kernel
theorem dX11_evenOrders_2 : decode cX11_evenOrders 2 = .ok (.putfield 57, 3) := by decide +kernel
theorem dX11_evenOrders_5 : decode cX11_evenOrders 5 = .ok (.aload_n 0, 1) := by decide +kernel
theorem dX11_evenOrders_6 : decode cX11_evenOrders 6 = .ok (.iload_n 1, 1) := by decide +kernel
theorem dX11_evenOrders_7 : decode cX11_evenOrders 7 = .ok (.invokevirtual 71, 3) := by decide +kernel
theorem dX11_evenOrders_10 : decode cX11_evenOrders 10 = .ok (.ifCond .ne 9, 3) := by decide +kernel
theorem dX11_evenOrders_13 : decode cX11_evenOrders 13 = .ok (.aload_n 0, 1) := by decide +kernel
theorem dX11_evenOrders_14 : decode cX11_evenOrders 14 = .ok (.iconst 1, 1) := by decide +kernel
theorem dX11_evenOrders_15 : decode cX11_evenOrders 15 = .ok (.invokevirtual 125, 3) := by decide +kernel
theorem dX11_evenOrders_18 : decode cX11_evenOrders 18 = .ok (.ireturn, 1) := by decide +kernel
theorem dX11_evenOrders_19 : decode cX11_evenOrders 19 = .ok (.iload_n 2, 1) := by decide +kernel
theorem dX11_evenOrders_20 : decode cX11_evenOrders 20 = .ok (.i2l, 1) := by decide +kernel
theorem dX11_evenOrders_21 : decode cX11_evenOrders 21 = .ok (.lconst 1, 1) := by decide +kernel
theorem dX11_evenOrders_22 : decode cX11_evenOrders 22 = .ok (.ldc2_w 215, 3) := by decide +kernel
theorem dX11_evenOrders_25 : decode cX11_evenOrders 25 = .ok (.invokestatic 63, 3) := by decide +kernel
theorem dX11_evenOrders_28 : decode cX11_evenOrders 28 = .ok (.ifCond .ne 9, 3) := by decide +kernel
theorem dX11_evenOrders_31 : decode cX11_evenOrders 31 = .ok (.aload_n 0, 1) := by decide +kernel
theorem dX11_evenOrders_32 : decode cX11_evenOrders 32 = .ok (.iconst 2, 1) := by decide +kernel
theorem dX11_evenOrders_33 : decode cX11_evenOrders 33 = .ok (.invokevirtual 125, 3) := by decide +kernel
theorem dX11_evenOrders_36 : decode cX11_evenOrders 36 = .ok (.ireturn, 1) := by decide +kernel
theorem dX11_evenOrders_37 : decode cX11_evenOrders 37 = .ok (.aload_n 0, 1) := by decide +kernel
theorem dX11_evenOrders_38 : decode cX11_evenOrders 38 = .ok (.iload_n 1, 1) := by decide +kernel
theorem dX11_evenOrders_39 : decode cX11_evenOrders 39 = .ok (.invokevirtual 75, 3) := by decide +kernel
theorem dX11_evenOrders_42 : decode cX11_evenOrders 42 = .ok (.istore_n 3, 1) := by decide +kernel
theorem dX11_evenOrders_43 : decode cX11_evenOrders 43 = .ok (.iconst 0, 1) := by decide +kernel
theorem dX11_evenOrders_44 : decode cX11_evenOrders 44 = .ok (.istore 4, 2) := by decide +kernel
theorem dX11_evenOrders_46 : decode cX11_evenOrders 46 = .ok (.iload 4, 2) := by decide +kernel
theorem dX11_evenOrders_48 : decode cX11_evenOrders 48 = .ok (.sipush 2048, 3) := by decide +kernel
theorem dX11_evenOrders_51 : decode cX11_evenOrders 51 = .ok (.if_icmp .ge 28, 3) := by decide +kernel
theorem dX11_evenOrders_54 : decode cX11_evenOrders 54 = .ok (.aload_n 0, 1) := by decide +kernel
theorem dX11_evenOrders_55 : decode cX11_evenOrders 55 = .ok (.getfield 41, 3) := by decide +kernel
theorem dX11_evenOrders_58 : decode cX11_evenOrders 58 = .ok (.iload 4, 2) := by decide +kernel
theorem dX11_evenOrders_60 : decode cX11_evenOrders 60 = .ok (.iload 4, 2) := by decide +kernel
theorem dX11_evenOrders_62 : decode cX11_evenOrders 62 = .ok (.bipush 8, 2) := by decide +kernel
theorem dX11_evenOrders_64 : decode cX11_evenOrders 64 = .ok (.if_icmp .ne 7, 3) := by decide +kernel
theorem dX11_evenOrders_67 : decode cX11_evenOrders 67 = .ok (.iconst 1, 1) := by decide +kernel
theorem dX11_evenOrders_68 : decode cX11_evenOrders 68 = .ok (.goto 4, 3) := by decide +kernel
theorem dX11_evenOrders_71 : decode cX11_evenOrders 71 = .ok (.iconst 0, 1) := by decide +kernel
theorem dX11_evenOrders_72 : decode cX11_evenOrders 72 = .ok (.iastore, 1) := by decide +kernel
theorem dX11_evenOrders_73 : decode cX11_evenOrders 73 = .ok (.iinc 4 1, 3) := by decide +kernel
theorem dX11_evenOrders_76 : decode cX11_evenOrders 76 = .ok (.goto (-30), 3) := by decide +kernel
theorem dX11_evenOrders_79 : decode cX11_evenOrders 79 = .ok (.iconst 1, 1) := by decide +kernel
theorem dX11_evenOrders_80 : decode cX11_evenOrders 80 = .ok (.istore 4, 2) := by decide +kernel
theorem dX11_evenOrders_82 : decode cX11_evenOrders 82 = .ok (.iload 4, 2) := by decide +kernel
theorem dX11_evenOrders_84 : decode cX11_evenOrders 84 = .ok (.iconst 1, 1) := by decide +kernel
theorem dX11_evenOrders_85 : decode cX11_evenOrders 85 = .ok (.iload_n 3, 1) := by decide +kernel
theorem dX11_evenOrders_86 : decode cX11_evenOrders 86 = .ok (.ishl, 1) := by decide +kernel
theorem dX11_evenOrders_87 : decode cX11_evenOrders 87 = .ok (.if_icmp .ge 95, 3) := by decide +kernel
theorem dX11_evenOrders_90 : decode cX11_evenOrders 90 = .ok (.iconst 0, 1) := by decide +kernel
theorem dX11_evenOrders_91 : decode cX11_evenOrders 91 = .ok (.istore 5, 2) := by decide +kernel
theorem dX11_evenOrders_93 : decode cX11_evenOrders 93 = .ok (.iload 5, 2) := by decide +kernel
theorem dX11_evenOrders_95 : decode cX11_evenOrders 95 = .ok (.iload_n 3, 1) := by decide +kernel
theorem dX11_evenOrders_96 : decode cX11_evenOrders 96 = .ok (.if_icmp .ge 80, 3) := by decide +kernel
theorem dX11_evenOrders_99 : decode cX11_evenOrders 99 = .ok (.iconst 1, 1) := by decide +kernel
theorem dX11_evenOrders_100 : decode cX11_evenOrders 100 = .ok (.istore 6, 2) := by decide +kernel
theorem dX11_evenOrders_102 : decode cX11_evenOrders 102 = .ok (.iload 6, 2) := by decide +kernel
theorem dX11_evenOrders_104 : decode cX11_evenOrders 104 = .ok (.iload_n 3, 1) := by decide +kernel
theorem dX11_evenOrders_105 : decode cX11_evenOrders 105 = .ok (.if_icmp .ge 65, 3) := by decide +kernel
theorem dX11_evenOrders_108 : decode cX11_evenOrders 108 = .ok (.iload 4, 2) := by decide +kernel
theorem dX11_evenOrders_110 : decode cX11_evenOrders 110 = .ok (.iload 6, 2) := by decide +kernel
theorem dX11_evenOrders_112 : decode cX11_evenOrders 112 = .ok (.ishr, 1) := by decide +kernel
theorem dX11_evenOrders_113 : decode cX11_evenOrders 113 = .ok (.iconst 1, 1) := by decide +kernel
theorem dX11_evenOrders_114 : decode cX11_evenOrders 114 = .ok (.iand, 1) := by decide +kernel
theorem dX11_evenOrders_115 : decode cX11_evenOrders 115 = .ok (.ifCond .ne 49, 3) := by decide +kernel
theorem dX11_evenOrders_118 : decode cX11_evenOrders 118 = .ok (.iload 5, 2) := by decide +kernel
theorem dX11_evenOrders_120 : decode cX11_evenOrders 120 = .ok (.iload 6, 2) := by decide +kernel
theorem dX11_evenOrders_122 : decode cX11_evenOrders 122 = .ok (.iload_n 3, 1) := by decide +kernel
theorem dX11_evenOrders_123 : decode cX11_evenOrders 123 = .ok (.invokestatic 212, 3) := by decide +kernel
theorem dX11_evenOrders_126 : decode cX11_evenOrders 126 = .ok (.iload_n 2, 1) := by decide +kernel
theorem dX11_evenOrders_127 : decode cX11_evenOrders 127 = .ok (.if_icmp .lt 37, 3) := by decide +kernel
theorem dX11_evenOrders_130 : decode cX11_evenOrders 130 = .ok (.aload_n 0, 1) := by decide +kernel
theorem dX11_evenOrders_131 : decode cX11_evenOrders 131 = .ok (.getfield 41, 3) := by decide +kernel
theorem dX11_evenOrders_134 : decode cX11_evenOrders 134 = .ok (.bipush 8, 2) := by decide +kernel
theorem dX11_evenOrders_136 : decode cX11_evenOrders 136 = .ok (.iload 4, 2) := by decide +kernel
theorem dX11_evenOrders_138 : decode cX11_evenOrders 138 = .ok (.iconst 1, 1) := by decide +kernel
theorem dX11_evenOrders_139 : decode cX11_evenOrders 139 = .ok (.iload 6, 2) := by decide +kernel
theorem dX11_evenOrders_141 : decode cX11_evenOrders 141 = .ok (.ishl, 1) := by decide +kernel
theorem dX11_evenOrders_142 : decode cX11_evenOrders 142 = .ok (.ior, 1) := by decide +kernel
theorem dX11_evenOrders_143 : decode cX11_evenOrders 143 = .ok (.imul, 1) := by decide +kernel
theorem dX11_evenOrders_144 : decode cX11_evenOrders 144 = .ok (.iload 6, 2) := by decide +kernel
theorem dX11_evenOrders_146 : decode cX11_evenOrders 146 = .ok (.iadd, 1) := by decide +kernel
theorem dX11_evenOrders_147 : decode cX11_evenOrders 147 = .ok (.dup2, 1) := by decide +kernel
theorem dX11_evenOrders_148 : decode cX11_evenOrders 148 = .ok (.iaload, 1) := by decide +kernel
theorem dX11_evenOrders_149 : decode cX11_evenOrders 149 = .ok (.aload_n 0, 1) := by decide +kernel
theorem dX11_evenOrders_150 : decode cX11_evenOrders 150 = .ok (.getfield 41, 3) := by decide +kernel
theorem dX11_evenOrders_153 : decode cX11_evenOrders 153 = .ok (.bipush 8, 2) := by decide +kernel
theorem dX11_evenOrders_155 : decode cX11_evenOrders 155 = .ok (.iload 4, 2) := by decide +kernel
theorem dX11_evenOrders_157 : decode cX11_evenOrders 157 = .ok (.imul, 1) := by decide +kernel
theorem dX11_evenOrders_158 : decode cX11_evenOrders 158 = .ok (.iload 5, 2) := by decide +kernel
theorem dX11_evenOrders_160 : decode cX11_evenOrders 160 = .ok (.iadd, 1) := by decide +kernel
theorem dX11_evenOrders_161 : decode cX11_evenOrders 161 = .ok (.iaload, 1) := by decide +kernel
theorem dX11_evenOrders_162 : decode cX11_evenOrders 162 = .ok (.iadd, 1) := by decide +kernel
theorem dX11_evenOrders_163 : decode cX11_evenOrders 163 = .ok (.iastore, 1) := by decide +kernel
theorem dX11_evenOrders_164 : decode cX11_evenOrders 164 = .ok (.iinc 6 1, 3) := by decide +kernel
theorem dX11_evenOrders_167 : decode cX11_evenOrders 167 = .ok (.goto (-65), 3) := by decide +kernel
theorem dX11_evenOrders_170 : decode cX11_evenOrders 170 = .ok (.iinc 5 1, 3) := by decide +kernel
theorem dX11_evenOrders_173 : decode cX11_evenOrders 173 = .ok (.goto (-80), 3) := by decide +kernel
theorem dX11_evenOrders_176 : decode cX11_evenOrders 176 = .ok (.iinc 4 2, 3) := by decide +kernel
theorem dX11_evenOrders_179 : decode cX11_evenOrders 179 = .ok (.goto (-97), 3) := by decide +kernel
theorem dX11_evenOrders_182 : decode cX11_evenOrders 182 = .ok (.iconst 0, 1) := by decide +kernel
theorem dX11_evenOrders_183 : decode cX11_evenOrders 183 = .ok (.istore 4, 2) := by decide +kernel
theorem dX11_evenOrders_185 : decode cX11_evenOrders 185 = .ok (.iconst 1, 1) := by decide +kernel
theorem dX11_evenOrders_186 : decode cX11_evenOrders 186 = .ok (.istore 5, 2) := by decide +kernel
theorem dX11_evenOrders_188 : decode cX11_evenOrders 188 = .ok (.iload 5, 2) := by decide +kernel
theorem dX11_evenOrders_190 : decode cX11_evenOrders 190 = .ok (.iload_n 3, 1) := by decide +kernel
theorem dX11_evenOrders_191 : decode cX11_evenOrders 191 = .ok (.if_icmp .ge 45, 3) := by decide +kernel
theorem dX11_evenOrders_194 : decode cX11_evenOrders 194 = .ok (.iload 4, 2) := by decide +kernel
theorem dX11_evenOrders_196 : decode cX11_evenOrders 196 = .ok (.iload 5, 2) := by decide +kernel
theorem dX11_evenOrders_198 : decode cX11_evenOrders 198 = .ok (.iconst 0, 1) := by decide +kernel
theorem dX11_evenOrders_199 : decode cX11_evenOrders 199 = .ok (.iload_n 3, 1) := by decide +kernel
theorem dX11_evenOrders_200 : decode cX11_evenOrders 200 = .ok (.invokestatic 212, 3) := by decide +kernel
theorem dX11_evenOrders_203 : decode cX11_evenOrders 203 = .ok (.iload_n 2, 1) := by decide +kernel
theorem dX11_evenOrders_204 : decode cX11_evenOrders 204 = .ok (.if_icmp .lt 22, 3) := by decide +kernel
theorem dX11_evenOrders_207 : decode cX11_evenOrders 207 = .ok (.aload_n 0, 1) := by decide +kernel
theorem dX11_evenOrders_208 : decode cX11_evenOrders 208 = .ok (.getfield 41, 3) := by decide +kernel
theorem dX11_evenOrders_211 : decode cX11_evenOrders 211 = .ok (.bipush 8, 2) := by decide +kernel
theorem dX11_evenOrders_213 : decode cX11_evenOrders 213 = .ok (.iconst 1, 1) := by decide +kernel
theorem dX11_evenOrders_214 : decode cX11_evenOrders 214 = .ok (.iload_n 3, 1) := by decide +kernel
theorem dX11_evenOrders_215 : decode cX11_evenOrders 215 = .ok (.ishl, 1) := by decide +kernel
theorem dX11_evenOrders_216 : decode cX11_evenOrders 216 = .ok (.iconst 1, 1) := by decide +kernel
theorem dX11_evenOrders_217 : decode cX11_evenOrders 217 = .ok (.isub, 1) := by decide +kernel
theorem dX11_evenOrders_218 : decode cX11_evenOrders 218 = .ok (.imul, 1) := by decide +kernel
theorem dX11_evenOrders_219 : decode cX11_evenOrders 219 = .ok (.iload 5, 2) := by decide +kernel
theorem dX11_evenOrders_221 : decode cX11_evenOrders 221 = .ok (.iadd, 1) := by decide +kernel
theorem dX11_evenOrders_222 : decode cX11_evenOrders 222 = .ok (.iaload, 1) := by decide +kernel
theorem dX11_evenOrders_223 : decode cX11_evenOrders 223 = .ok (.goto 4, 3) := by decide +kernel
theorem dX11_evenOrders_226 : decode cX11_evenOrders 226 = .ok (.iconst 0, 1) := by decide +kernel
theorem dX11_evenOrders_227 : decode cX11_evenOrders 227 = .ok (.iadd, 1) := by decide +kernel
theorem dX11_evenOrders_228 : decode cX11_evenOrders 228 = .ok (.istore 4, 2) := by decide +kernel
theorem dX11_evenOrders_230 : decode cX11_evenOrders 230 = .ok (.iinc 5 1, 3) := by decide +kernel
theorem dX11_evenOrders_233 : decode cX11_evenOrders 233 = .ok (.goto (-45), 3) := by decide +kernel
theorem dX11_evenOrders_236 : decode cX11_evenOrders 236 = .ok (.iload 4, 2) := by decide +kernel
theorem dX11_evenOrders_238 : decode cX11_evenOrders 238 = .ok (.ireturn, 1) := by decide +kernel
theorem dX11_evenOrdersByTrying_0 : decode cX11_evenOrdersByTrying 0 = .ok (.aload_n 0, 1) := by decide +kernel
theorem dX11_evenOrdersByTrying_1 : decode cX11_evenOrdersByTrying 1 = .ok (.iload_n 1, 1) := by decide +kernel
theorem dX11_evenOrdersByTrying_2 : decode cX11_evenOrdersByTrying 2 = .ok (.iload_n 2, 1) := by decide +kernel
theorem dX11_evenOrdersByTrying_3 : decode cX11_evenOrdersByTrying 3 = .ok (.invokevirtual 217, 3) := by decide +kernel
theorem dX11_evenOrdersByTrying_6 : decode cX11_evenOrdersByTrying 6 = .ok (.ireturn, 1) := by decide +kernel
theorem dX11_leastOilAfter_0 : decode cX11_leastOilAfter 0 = .ok (.aload_n 0, 1) := by decide +kernel
theorem dX11_leastOilAfter_1 : decode cX11_leastOilAfter 1 = .ok (.iconst 0, 1) := by decide +kernel
theorem dX11_leastOilAfter_2 : decode cX11_leastOilAfter 2 = .ok (.putfield 57, 3) := by decide +kernel
theorem dX11_leastOilAfter_5 : decode cX11_leastOilAfter 5 = .ok (.iload_n 1, 1) := by decide +kernel
theorem dX11_leastOilAfter_6 : decode cX11_leastOilAfter 6 = .ok (.i2l, 1) := by decide +kernel
theorem dX11_leastOilAfter_7 : decode cX11_leastOilAfter 7 = .ok (.lconst 0, 1) := by decide +kernel
theorem dX11_leastOilAfter_8 : decode cX11_leastOilAfter 8 = .ok (.ldc2_w 220, 3) := by decide +kernel
theorem dX11_leastOilAfter_11 : decode cX11_leastOilAfter 11 = .ok (.invokestatic 63, 3) := by decide +kernel
theorem dX11_leastOilAfter_14 : decode cX11_leastOilAfter 14 = .ok (.ifCond .ne 9, 3) := by decide +kernel
theorem dX11_leastOilAfter_17 : decode cX11_leastOilAfter 17 = .ok (.aload_n 0, 1) := by decide +kernel
theorem dX11_leastOilAfter_18 : decode cX11_leastOilAfter 18 = .ok (.iconst 1, 1) := by decide +kernel
theorem dX11_leastOilAfter_19 : decode cX11_leastOilAfter 19 = .ok (.invokevirtual 125, 3) := by decide +kernel
theorem dX11_leastOilAfter_22 : decode cX11_leastOilAfter 22 = .ok (.ireturn, 1) := by decide +kernel
theorem dX11_leastOilAfter_23 : decode cX11_leastOilAfter 23 = .ok (.aload_n 0, 1) := by decide +kernel
theorem dX11_leastOilAfter_24 : decode cX11_leastOilAfter 24 = .ok (.getfield 9, 3) := by decide +kernel
theorem dX11_leastOilAfter_27 : decode cX11_leastOilAfter 27 = .ok (.iconst 0, 1) := by decide +kernel
theorem dX11_leastOilAfter_28 : decode cX11_leastOilAfter 28 = .ok (.iaload, 1) := by decide +kernel
theorem dX11_leastOilAfter_29 : decode cX11_leastOilAfter 29 = .ok (.ifCond .ne 11, 3) := by decide +kernel
theorem dX11_leastOilAfter_32 : decode cX11_leastOilAfter 32 = .ok (.aload_n 0, 1) := by decide +kernel
theorem dX11_leastOilAfter_33 : decode cX11_leastOilAfter 33 = .ok (.iconst 2, 1) := by decide +kernel
theorem dX11_leastOilAfter_34 : decode cX11_leastOilAfter 34 = .ok (.invokevirtual 125, 3) := by decide +kernel
theorem dX11_leastOilAfter_37 : decode cX11_leastOilAfter 37 = .ok (.goto 8, 3) := by decide +kernel
theorem dX11_leastOilAfter_40 : decode cX11_leastOilAfter 40 = .ok (.aload_n 0, 1) := by decide +kernel
theorem dX11_leastOilAfter_41 : decode cX11_leastOilAfter 41 = .ok (.iload_n 1, 1) := by decide +kernel
theorem dX11_leastOilAfter_42 : decode cX11_leastOilAfter 42 = .ok (.invokevirtual 156, 3) := by decide +kernel
theorem dX11_leastOilAfter_45 : decode cX11_leastOilAfter 45 = .ok (.ireturn, 1) := by decide +kernel
theorem dX11_leastOilAfterByGiving_0 : decode cX11_leastOilAfterByGiving 0 = .ok (.aload_n 0, 1) := by decide +kernel
theorem dX11_leastOilAfterByGiving_1 : decode cX11_leastOilAfterByGiving 1 = .ok (.iload_n 1, 1) := by decide +kernel
theorem dX11_leastOilAfterByGiving_2 : decode cX11_leastOilAfterByGiving 2 = .ok (.invokevirtual 222, 3) := by decide +kernel
theorem dX11_leastOilAfterByGiving_5 : decode cX11_leastOilAfterByGiving 5 = .ok (.ireturn, 1) := by decide +kernel
theorem dX11_ofCylinder_0 : decode cX11_ofCylinder 0 = .ok (.aload_n 0, 1) := by decide +kernel
theorem dX11_ofCylinder_1 : decode cX11_ofCylinder 1 = .ok (.iconst 0, 1) := by decide +kernel
theorem dX11_ofCylinder_2 : decode cX11_ofCylinder 2 = .ok (.putfield 57, 3) := by decide +kernel
theorem dX11_ofCylinder_5 : decode cX11_ofCylinder 5 = .ok (.aload_n 0, 1) := by decide +kernel
theorem dX11_ofCylinder_6 : decode cX11_ofCylinder 6 = .ok (.iload_n 1, 1) := by decide +kernel
theorem dX11_ofCylinder_7 : decode cX11_ofCylinder 7 = .ok (.iload_n 2, 1) := by decide +kernel
theorem dX11_ofCylinder_8 : decode cX11_ofCylinder 8 = .ok (.invokevirtual 137, 3) := by decide +kernel
theorem dX11_ofCylinder_11 : decode cX11_ofCylinder 11 = .ok (.ifCond .eq 19, 3) := by decide +kernel
theorem dX11_ofCylinder_14 : decode cX11_ofCylinder 14 = .ok (.aload_n 0, 1) := by decide +kernel
theorem dX11_ofCylinder_15 : decode cX11_ofCylinder 15 = .ok (.getfield 9, 3) := by decide +kernel
theorem dX11_ofCylinder_18 : decode cX11_ofCylinder 18 = .ok (.iload_n 1, 1) := by decide +kernel
theorem dX11_ofCylinder_19 : decode cX11_ofCylinder 19 = .ok (.invokestatic 67, 3) := by decide +kernel
theorem dX11_ofCylinder_22 : decode cX11_ofCylinder 22 = .ok (.iload_n 3, 1) := by decide +kernel
theorem dX11_ofCylinder_23 : decode cX11_ofCylinder 23 = .ok (.iadd, 1) := by decide +kernel
theorem dX11_ofCylinder_24 : decode cX11_ofCylinder 24 = .ok (.iload_n 2, 1) := by decide +kernel
theorem dX11_ofCylinder_25 : decode cX11_ofCylinder 25 = .ok (.iadd, 1) := by decide +kernel
theorem dX11_ofCylinder_26 : decode cX11_ofCylinder 26 = .ok (.iaload, 1) := by decide +kernel
theorem dX11_ofCylinder_27 : decode cX11_ofCylinder 27 = .ok (.goto 8, 3) := by decide +kernel
theorem dX11_ofCylinder_30 : decode cX11_ofCylinder 30 = .ok (.aload_n 0, 1) := by decide +kernel
theorem dX11_ofCylinder_31 : decode cX11_ofCylinder 31 = .ok (.iconst 1, 1) := by decide +kernel
theorem dX11_ofCylinder_32 : decode cX11_ofCylinder 32 = .ok (.invokevirtual 125, 3) := by decide +kernel
theorem dX11_ofCylinder_35 : decode cX11_ofCylinder 35 = .ok (.ireturn, 1) := by decide +kernel
theorem dX11_oilOf_0 : decode cX11_oilOf 0 = .ok (.aload_n 0, 1) := by decide +kernel
theorem dX11_oilOf_1 : decode cX11_oilOf 1 = .ok (.iload_n 1, 1) := by decide +kernel
theorem dX11_oilOf_2 : decode cX11_oilOf 2 = .ok (.iload_n 2, 1) := by decide +kernel
theorem dX11_oilOf_3 : decode cX11_oilOf 3 = .ok (.bipush 12, 2) := by decide +kernel
theorem dX11_oilOf_5 : decode cX11_oilOf 5 = .ok (.invokevirtual 225, 3) := by decide +kernel
theorem dX11_oilOf_8 : decode cX11_oilOf 8 = .ok (.ireturn, 1) := by decide +kernel
theorem dX11_wearOf_0 : decode cX11_wearOf 0 = .ok (.aload_n 0, 1) := by decide +kernel
theorem dX11_wearOf_1 : decode cX11_wearOf 1 = .ok (.iload_n 1, 1) := by decide +kernel
theorem dX11_wearOf_2 : decode cX11_wearOf 2 = .ok (.iload_n 2, 1) := by decide +kernel
theorem dX11_wearOf_3 : decode cX11_wearOf 3 = .ok (.bipush 20, 2) := by decide +kernel
theorem dX11_wearOf_5 : decode cX11_wearOf 5 = .ok (.invokevirtual 225, 3) := by decide +kernel
theorem dX11_wearOf_8 : decode cX11_wearOf 8 = .ok (.ireturn, 1) := by decide +kernel
theorem dX11_inEngines_0 : decode cX11_inEngines 0 = .ok (.aload_n 0, 1) := by decide +kernel
theorem dX11_inEngines_1 : decode cX11_inEngines 1 = .ok (.invokevirtual 95, 3) := by decide +kernel
theorem dX11_inEngines_4 : decode cX11_inEngines 4 = .ok (.iconst 0, 1) := by decide +kernel
theorem dX11_inEngines_5 : decode cX11_inEngines 5 = .ok (.istore_n 1, 1) := by decide +kernel
theorem dX11_inEngines_6 : decode cX11_inEngines 6 = .ok (.iconst 0, 1) := by decide +kernel
theorem dX11_inEngines_7 : decode cX11_inEngines 7 = .ok (.istore_n 2, 1) := by decide +kernel
theorem dX11_inEngines_8 : decode cX11_inEngines 8 = .ok (.iload_n 2, 1) := by decide +kernel
theorem dX11_inEngines_9 : decode cX11_inEngines 9 = .ok (.aload_n 0, 1) := by decide +kernel
theorem dX11_inEngines_10 : decode cX11_inEngines 10 = .ok (.getfield 92, 3) := by decide +kernel
theorem dX11_inEngines_13 : decode cX11_inEngines 13 = .ok (.if_icmp .ge 18, 3) := by decide +kernel
theorem dX11_inEngines_16 : decode cX11_inEngines 16 = .ok (.iload_n 1, 1) := by decide +kernel
theorem dX11_inEngines_17 : decode cX11_inEngines 17 = .ok (.aload_n 0, 1) := by decide +kernel
theorem dX11_inEngines_18 : decode cX11_inEngines 18 = .ok (.getfield 32, 3) := by decide +kernel
theorem dX11_inEngines_21 : decode cX11_inEngines 21 = .ok (.iload_n 2, 1) := by decide +kernel
theorem dX11_inEngines_22 : decode cX11_inEngines 22 = .ok (.iaload, 1) := by decide +kernel
theorem dX11_inEngines_23 : decode cX11_inEngines 23 = .ok (.iadd, 1) := by decide +kernel
theorem dX11_inEngines_24 : decode cX11_inEngines 24 = .ok (.istore_n 1, 1) := by decide +kernel
theorem dX11_inEngines_25 : decode cX11_inEngines 25 = .ok (.iinc 2 1, 3) := by decide +kernel
theorem dX11_inEngines_28 : decode cX11_inEngines 28 = .ok (.goto (-20), 3) := by decide +kernel
theorem dX11_inEngines_31 : decode cX11_inEngines 31 = .ok (.iload_n 1, 1) := by decide +kernel
theorem dX11_inEngines_32 : decode cX11_inEngines 32 = .ok (.ireturn, 1) := by decide +kernel
theorem dX11_allOil_0 : decode cX11_allOil 0 = .ok (.aload_n 0, 1) := by decide +kernel
theorem dX11_allOil_1 : decode cX11_allOil 1 = .ok (.iconst 0, 1) := by decide +kernel
theorem dX11_allOil_2 : decode cX11_allOil 2 = .ok (.putfield 57, 3) := by decide +kernel
theorem dX11_allOil_5 : decode cX11_allOil 5 = .ok (.aload_n 0, 1) := by decide +kernel
theorem dX11_allOil_6 : decode cX11_allOil 6 = .ok (.getfield 9, 3) := by decide +kernel
theorem dX11_allOil_9 : decode cX11_allOil 9 = .ok (.iconst 2, 1) := by decide +kernel
theorem dX11_allOil_10 : decode cX11_allOil 10 = .ok (.iaload, 1) := by decide +kernel
theorem dX11_allOil_11 : decode cX11_allOil 11 = .ok (.aload_n 0, 1) := by decide +kernel
theorem dX11_allOil_12 : decode cX11_allOil 12 = .ok (.invokevirtual 228, 3) := by decide +kernel
theorem dX11_allOil_15 : decode cX11_allOil 15 = .ok (.iadd, 1) := by decide +kernel
theorem dX11_allOil_16 : decode cX11_allOil 16 = .ok (.ireturn, 1) := by decide +kernel
theorem dX11_allOilByAccounts_0 : decode cX11_allOilByAccounts 0 = .ok (.aload_n 0, 1) := by decide +kernel
theorem dX11_allOilByAccounts_1 : decode cX11_allOilByAccounts 1 = .ok (.invokevirtual 231, 3) := by decide +kernel
theorem dX11_allOilByAccounts_4 : decode cX11_allOilByAccounts 4 = .ok (.ireturn, 1) := by decide +kernel
theorem dX11_knockCount_0 : decode cX11_knockCount 0 = .ok (.aload_n 0, 1) := by decide +kernel
theorem dX11_knockCount_1 : decode cX11_knockCount 1 = .ok (.iconst 0, 1) := by decide +kernel
theorem dX11_knockCount_2 : decode cX11_knockCount 2 = .ok (.putfield 57, 3) := by decide +kernel
theorem dX11_knockCount_5 : decode cX11_knockCount 5 = .ok (.aload_n 0, 1) := by decide +kernel
theorem dX11_knockCount_6 : decode cX11_knockCount 6 = .ok (.iload_n 1, 1) := by decide +kernel
theorem dX11_knockCount_7 : decode cX11_knockCount 7 = .ok (.invokevirtual 71, 3) := by decide +kernel
theorem dX11_knockCount_10 : decode cX11_knockCount 10 = .ok (.ifCond .eq 17, 3) := by decide +kernel
theorem dX11_knockCount_13 : decode cX11_knockCount 13 = .ok (.aload_n 0, 1) := by decide +kernel
theorem dX11_knockCount_14 : decode cX11_knockCount 14 = .ok (.getfield 9, 3) := by decide +kernel
theorem dX11_knockCount_17 : decode cX11_knockCount 17 = .ok (.iload_n 1, 1) := by decide +kernel
theorem dX11_knockCount_18 : decode cX11_knockCount 18 = .ok (.invokestatic 67, 3) := by decide +kernel
theorem dX11_knockCount_21 : decode cX11_knockCount 21 = .ok (.iconst 3, 1) := by decide +kernel
theorem dX11_knockCount_22 : decode cX11_knockCount 22 = .ok (.iadd, 1) := by decide +kernel
theorem dX11_knockCount_23 : decode cX11_knockCount 23 = .ok (.iaload, 1) := by decide +kernel
theorem dX11_knockCount_24 : decode cX11_knockCount 24 = .ok (.goto 8, 3) := by decide +kernel
theorem dX11_knockCount_27 : decode cX11_knockCount 27 = .ok (.aload_n 0, 1) := by decide +kernel
theorem dX11_knockCount_28 : decode cX11_knockCount 28 = .ok (.iconst 1, 1) := by decide +kernel
theorem dX11_knockCount_29 : decode cX11_knockCount 29 = .ok (.invokevirtual 125, 3) := by decide +kernel
theorem dX11_knockCount_32 : decode cX11_knockCount 32 = .ok (.ireturn, 1) := by decide +kernel
theorem dX11_knockAt_0 : decode cX11_knockAt 0 = .ok (.aload_n 0, 1) := by decide +kernel
theorem dX11_knockAt_1 : decode cX11_knockAt 1 = .ok (.iconst 0, 1) := by decide +kernel
theorem dX11_knockAt_2 : decode cX11_knockAt 2 = .ok (.putfield 57, 3) := by decide +kernel
theorem dX11_knockAt_5 : decode cX11_knockAt 5 = .ok (.aload_n 0, 1) := by decide +kernel
theorem dX11_knockAt_6 : decode cX11_knockAt 6 = .ok (.iload_n 1, 1) := by decide +kernel
theorem dX11_knockAt_7 : decode cX11_knockAt 7 = .ok (.invokevirtual 71, 3) := by decide +kernel
theorem dX11_knockAt_10 : decode cX11_knockAt 10 = .ok (.ifCond .ne 9, 3) := by decide +kernel
theorem dX11_knockAt_13 : decode cX11_knockAt 13 = .ok (.aload_n 0, 1) := by decide +kernel
theorem dX11_knockAt_14 : decode cX11_knockAt 14 = .ok (.iconst 1, 1) := by decide +kernel
theorem dX11_knockAt_15 : decode cX11_knockAt 15 = .ok (.invokevirtual 125, 3) := by decide +kernel
theorem dX11_knockAt_18 : decode cX11_knockAt 18 = .ok (.ireturn, 1) := by decide +kernel
theorem dX11_knockAt_19 : decode cX11_knockAt 19 = .ok (.iload_n 2, 1) := by decide +kernel
theorem dX11_knockAt_20 : decode cX11_knockAt 20 = .ok (.i2l, 1) := by decide +kernel
theorem dX11_knockAt_21 : decode cX11_knockAt 21 = .ok (.lconst 0, 1) := by decide +kernel
theorem dX11_knockAt_22 : decode cX11_knockAt 22 = .ok (.aload_n 0, 1) := by decide +kernel
theorem dX11_knockAt_23 : decode cX11_knockAt 23 = .ok (.getfield 9, 3) := by decide +kernel
theorem dX11_knockAt_26 : decode cX11_knockAt 26 = .ok (.iload_n 1, 1) := by decide +kernel
theorem dX11_knockAt_27 : decode cX11_knockAt 27 = .ok (.invokestatic 67, 3) := by decide +kernel
theorem dX11_knockAt_30 : decode cX11_knockAt 30 = .ok (.iconst 3, 1) := by decide +kernel
theorem dX11_knockAt_31 : decode cX11_knockAt 31 = .ok (.iadd, 1) := by decide +kernel
theorem dX11_knockAt_32 : decode cX11_knockAt 32 = .ok (.iaload, 1) := by decide +kernel
theorem dX11_knockAt_33 : decode cX11_knockAt 33 = .ok (.iconst 1, 1) := by decide +kernel
theorem dX11_knockAt_34 : decode cX11_knockAt 34 = .ok (.isub, 1) := by decide +kernel
theorem dX11_knockAt_35 : decode cX11_knockAt 35 = .ok (.i2l, 1) := by decide +kernel
theorem dX11_knockAt_36 : decode cX11_knockAt 36 = .ok (.invokestatic 63, 3) := by decide +kernel
theorem dX11_knockAt_39 : decode cX11_knockAt 39 = .ok (.istore_n 3, 1) := by decide +kernel
theorem dX11_knockAt_40 : decode cX11_knockAt 40 = .ok (.iload_n 3, 1) := by decide +kernel
theorem dX11_knockAt_41 : decode cX11_knockAt 41 = .ok (.ifCond .eq 20, 3) := by decide +kernel
theorem dX11_knockAt_44 : decode cX11_knockAt 44 = .ok (.aload_n 0, 1) := by decide +kernel
theorem dX11_knockAt_45 : decode cX11_knockAt 45 = .ok (.getfield 9, 3) := by decide +kernel
theorem dX11_knockAt_48 : decode cX11_knockAt 48 = .ok (.iload_n 1, 1) := by decide +kernel
theorem dX11_knockAt_49 : decode cX11_knockAt 49 = .ok (.invokestatic 67, 3) := by decide +kernel
theorem dX11_knockAt_52 : decode cX11_knockAt 52 = .ok (.bipush 28, 2) := by decide +kernel
theorem dX11_knockAt_54 : decode cX11_knockAt 54 = .ok (.iadd, 1) := by decide +kernel
theorem dX11_knockAt_55 : decode cX11_knockAt 55 = .ok (.iload_n 2, 1) := by decide +kernel
theorem dX11_knockAt_56 : decode cX11_knockAt 56 = .ok (.iadd, 1) := by decide +kernel
theorem dX11_knockAt_57 : decode cX11_knockAt 57 = .ok (.iaload, 1) := by decide +kernel
theorem dX11_knockAt_58 : decode cX11_knockAt 58 = .ok (.goto 8, 3) := by decide +kernel
theorem dX11_knockAt_61 : decode cX11_knockAt 61 = .ok (.aload_n 0, 1) := by decide +kernel
theorem dX11_knockAt_62 : decode cX11_knockAt 62 = .ok (.iconst 2, 1) := by decide +kernel
theorem dX11_knockAt_63 : decode cX11_knockAt 63 = .ok (.invokevirtual 125, 3) := by decide +kernel
theorem dX11_knockAt_66 : decode cX11_knockAt 66 = .ok (.ireturn, 1) := by decide +kernel
theorem dX11_knockPeriod_0 : decode cX11_knockPeriod 0 = .ok (.aload_n 0, 1) := by decide +kernel
theorem dX11_knockPeriod_1 : decode cX11_knockPeriod 1 = .ok (.iconst 0, 1) := by decide +kernel
theorem dX11_knockPeriod_2 : decode cX11_knockPeriod 2 = .ok (.putfield 57, 3) := by decide +kernel
theorem dX11_knockPeriod_5 : decode cX11_knockPeriod 5 = .ok (.aload_n 0, 1) := by decide +kernel
theorem dX11_knockPeriod_6 : decode cX11_knockPeriod 6 = .ok (.iload_n 1, 1) := by decide +kernel
theorem dX11_knockPeriod_7 : decode cX11_knockPeriod 7 = .ok (.invokevirtual 71, 3) := by decide +kernel
theorem dX11_knockPeriod_10 : decode cX11_knockPeriod 10 = .ok (.ifCond .ne 9, 3) := by decide +kernel
theorem dX11_knockPeriod_13 : decode cX11_knockPeriod 13 = .ok (.aload_n 0, 1) := by decide +kernel
theorem dX11_knockPeriod_14 : decode cX11_knockPeriod 14 = .ok (.iconst 1, 1) := by decide +kernel
theorem dX11_knockPeriod_15 : decode cX11_knockPeriod 15 = .ok (.invokevirtual 125, 3) := by decide +kernel
theorem dX11_knockPeriod_18 : decode cX11_knockPeriod 18 = .ok (.ireturn, 1) := by decide +kernel
theorem dX11_knockPeriod_19 : decode cX11_knockPeriod 19 = .ok (.iload_n 1, 1) := by decide +kernel
theorem dX11_knockPeriod_20 : decode cX11_knockPeriod 20 = .ok (.invokestatic 67, 3) := by decide +kernel
theorem dX11_knockPeriod_23 : decode cX11_knockPeriod 23 = .ok (.istore_n 2, 1) := by decide +kernel
theorem dX11_knockPeriod_24 : decode cX11_knockPeriod 24 = .ok (.aload_n 0, 1) := by decide +kernel
theorem dX11_knockPeriod_25 : decode cX11_knockPeriod 25 = .ok (.getfield 9, 3) := by decide +kernel
theorem dX11_knockPeriod_28 : decode cX11_knockPeriod 28 = .ok (.iload_n 2, 1) := by decide +kernel
theorem dX11_knockPeriod_29 : decode cX11_knockPeriod 29 = .ok (.iconst 3, 1) := by decide +kernel
theorem dX11_knockPeriod_30 : decode cX11_knockPeriod 30 = .ok (.iadd, 1) := by decide +kernel
theorem dX11_knockPeriod_31 : decode cX11_knockPeriod 31 = .ok (.iaload, 1) := by decide +kernel
theorem dX11_knockPeriod_32 : decode cX11_knockPeriod 32 = .ok (.ifCond .ne 9, 3) := by decide +kernel
theorem dX11_knockPeriod_35 : decode cX11_knockPeriod 35 = .ok (.aload_n 0, 1) := by decide +kernel
theorem dX11_knockPeriod_36 : decode cX11_knockPeriod 36 = .ok (.iconst 2, 1) := by decide +kernel
theorem dX11_knockPeriod_37 : decode cX11_knockPeriod 37 = .ok (.invokevirtual 125, 3) := by decide +kernel
theorem dX11_knockPeriod_40 : decode cX11_knockPeriod 40 = .ok (.ireturn, 1) := by decide +kernel
theorem dX11_knockPeriod_41 : decode cX11_knockPeriod 41 = .ok (.iconst 0, 1) := by decide +kernel
theorem dX11_knockPeriod_42 : decode cX11_knockPeriod 42 = .ok (.istore_n 3, 1) := by decide +kernel
theorem dX11_knockPeriod_43 : decode cX11_knockPeriod 43 = .ok (.iconst 0, 1) := by decide +kernel
theorem dX11_knockPeriod_44 : decode cX11_knockPeriod 44 = .ok (.istore 4, 2) := by decide +kernel
theorem dX11_knockPeriod_46 : decode cX11_knockPeriod 46 = .ok (.iload 4, 2) := by decide +kernel
theorem dX11_knockPeriod_48 : decode cX11_knockPeriod 48 = .ok (.ifCond .ne 75, 3) := by decide +kernel
theorem dX11_knockPeriod_51 : decode cX11_knockPeriod 51 = .ok (.iinc 3 1, 3) := by decide +kernel
theorem dX11_knockPeriod_54 : decode cX11_knockPeriod 54 = .ok (.iconst 1, 1) := by decide +kernel
theorem dX11_knockPeriod_55 : decode cX11_knockPeriod 55 = .ok (.istore 4, 2) := by decide +kernel
theorem dX11_knockPeriod_57 : decode cX11_knockPeriod 57 = .ok (.iload_n 3, 1) := by decide +kernel
theorem dX11_knockPeriod_58 : decode cX11_knockPeriod 58 = .ok (.istore 5, 2) := by decide +kernel
theorem dX11_knockPeriod_60 : decode cX11_knockPeriod 60 = .ok (.iload 5, 2) := by decide +kernel
theorem dX11_knockPeriod_62 : decode cX11_knockPeriod 62 = .ok (.aload_n 0, 1) := by decide +kernel
theorem dX11_knockPeriod_63 : decode cX11_knockPeriod 63 = .ok (.getfield 9, 3) := by decide +kernel
theorem dX11_knockPeriod_66 : decode cX11_knockPeriod 66 = .ok (.iload_n 2, 1) := by decide +kernel
theorem dX11_knockPeriod_67 : decode cX11_knockPeriod 67 = .ok (.iconst 3, 1) := by decide +kernel
theorem dX11_knockPeriod_68 : decode cX11_knockPeriod 68 = .ok (.iadd, 1) := by decide +kernel
theorem dX11_knockPeriod_69 : decode cX11_knockPeriod 69 = .ok (.iaload, 1) := by decide +kernel
theorem dX11_knockPeriod_70 : decode cX11_knockPeriod 70 = .ok (.if_icmp .ge 50, 3) := by decide +kernel
theorem dX11_knockPeriod_73 : decode cX11_knockPeriod 73 = .ok (.iload 4, 2) := by decide +kernel
theorem dX11_knockPeriod_75 : decode cX11_knockPeriod 75 = .ok (.ifCond .eq 36, 3) := by decide +kernel
theorem dX11_knockPeriod_78 : decode cX11_knockPeriod 78 = .ok (.aload_n 0, 1) := by decide +kernel
theorem dX11_knockPeriod_79 : decode cX11_knockPeriod 79 = .ok (.getfield 9, 3) := by decide +kernel
theorem dX11_knockPeriod_82 : decode cX11_knockPeriod 82 = .ok (.iload_n 2, 1) := by decide +kernel
theorem dX11_knockPeriod_83 : decode cX11_knockPeriod 83 = .ok (.bipush 28, 2) := by decide +kernel
theorem dX11_knockPeriod_85 : decode cX11_knockPeriod 85 = .ok (.iadd, 1) := by decide +kernel
theorem dX11_knockPeriod_86 : decode cX11_knockPeriod 86 = .ok (.iload 5, 2) := by decide +kernel
theorem dX11_knockPeriod_88 : decode cX11_knockPeriod 88 = .ok (.iadd, 1) := by decide +kernel
theorem dX11_knockPeriod_89 : decode cX11_knockPeriod 89 = .ok (.iaload, 1) := by decide +kernel
theorem dX11_knockPeriod_90 : decode cX11_knockPeriod 90 = .ok (.aload_n 0, 1) := by decide +kernel
theorem dX11_knockPeriod_91 : decode cX11_knockPeriod 91 = .ok (.getfield 9, 3) := by decide +kernel
theorem dX11_knockPeriod_94 : decode cX11_knockPeriod 94 = .ok (.iload_n 2, 1) := by decide +kernel
theorem dX11_knockPeriod_95 : decode cX11_knockPeriod 95 = .ok (.bipush 28, 2) := by decide +kernel
theorem dX11_knockPeriod_97 : decode cX11_knockPeriod 97 = .ok (.iadd, 1) := by decide +kernel
theorem dX11_knockPeriod_98 : decode cX11_knockPeriod 98 = .ok (.iload 5, 2) := by decide +kernel
theorem dX11_knockPeriod_100 : decode cX11_knockPeriod 100 = .ok (.iadd, 1) := by decide +kernel
theorem dX11_knockPeriod_101 : decode cX11_knockPeriod 101 = .ok (.iload_n 3, 1) := by decide +kernel
theorem dX11_knockPeriod_102 : decode cX11_knockPeriod 102 = .ok (.isub, 1) := by decide +kernel
theorem dX11_knockPeriod_103 : decode cX11_knockPeriod 103 = .ok (.iaload, 1) := by decide +kernel
theorem dX11_knockPeriod_104 : decode cX11_knockPeriod 104 = .ok (.if_icmp .ne 7, 3) := by decide +kernel
theorem dX11_knockPeriod_107 : decode cX11_knockPeriod 107 = .ok (.iconst 1, 1) := by decide +kernel
theorem dX11_knockPeriod_108 : decode cX11_knockPeriod 108 = .ok (.goto 4, 3) := by decide +kernel
theorem dX11_knockPeriod_111 : decode cX11_knockPeriod 111 = .ok (.iconst 0, 1) := by decide +kernel
theorem dX11_knockPeriod_112 : decode cX11_knockPeriod 112 = .ok (.istore 4, 2) := by decide +kernel
theorem dX11_knockPeriod_114 : decode cX11_knockPeriod 114 = .ok (.iinc 5 1, 3) := by decide +kernel
theorem dX11_knockPeriod_117 : decode cX11_knockPeriod 117 = .ok (.goto (-57), 3) := by decide +kernel
theorem dX11_knockPeriod_120 : decode cX11_knockPeriod 120 = .ok (.goto (-74), 3) := by decide +kernel
theorem dX11_knockPeriod_123 : decode cX11_knockPeriod 123 = .ok (.iload_n 3, 1) := by decide +kernel
theorem dX11_knockPeriod_124 : decode cX11_knockPeriod 124 = .ok (.ireturn, 1) := by decide +kernel
theorem dX11_knockPeriodByTrying_0 : decode cX11_knockPeriodByTrying 0 = .ok (.aload_n 0, 1) := by decide +kernel
theorem dX11_knockPeriodByTrying_1 : decode cX11_knockPeriodByTrying 1 = .ok (.iload_n 1, 1) := by decide +kernel
theorem dX11_knockPeriodByTrying_2 : decode cX11_knockPeriodByTrying 2 = .ok (.invokevirtual 234, 3) := by decide +kernel
theorem dX11_knockPeriodByTrying_5 : decode cX11_knockPeriodByTrying 5 = .ok (.ireturn, 1) := by decide +kernel
theorem dX11_worn_0 : decode cX11_worn 0 = .ok (.iconst 0, 1) := by decide +kernel
theorem dX11_worn_1 : decode cX11_worn 1 = .ok (.istore_n 2, 1) := by decide +kernel
theorem dX11_worn_2 : decode cX11_worn 2 = .ok (.iconst 0, 1) := by decide +kernel
theorem dX11_worn_3 : decode cX11_worn 3 = .ok (.istore_n 3, 1) := by decide +kernel
theorem dX11_worn_4 : decode cX11_worn 4 = .ok (.iload_n 3, 1) := by decide +kernel
theorem dX11_worn_5 : decode cX11_worn 5 = .ok (.aload_n 0, 1) := by decide +kernel
theorem dX11_worn_6 : decode cX11_worn 6 = .ok (.iload_n 1, 1) := by decide +kernel
theorem dX11_worn_7 : decode cX11_worn 7 = .ok (.invokevirtual 75, 3) := by decide +kernel
theorem dX11_worn_10 : decode cX11_worn 10 = .ok (.if_icmp .ge 26, 3) := by decide +kernel
theorem dX11_worn_13 : decode cX11_worn 13 = .ok (.iload_n 2, 1) := by decide +kernel
theorem dX11_worn_14 : decode cX11_worn 14 = .ok (.aload_n 0, 1) := by decide +kernel
theorem dX11_worn_15 : decode cX11_worn 15 = .ok (.getfield 9, 3) := by decide +kernel
theorem dX11_worn_18 : decode cX11_worn 18 = .ok (.iload_n 1, 1) := by decide +kernel
theorem dX11_worn_19 : decode cX11_worn 19 = .ok (.invokestatic 67, 3) := by decide +kernel
theorem dX11_worn_22 : decode cX11_worn 22 = .ok (.bipush 20, 2) := by decide +kernel
theorem dX11_worn_24 : decode cX11_worn 24 = .ok (.iadd, 1) := by decide +kernel
theorem dX11_worn_25 : decode cX11_worn 25 = .ok (.iload_n 3, 1) := by decide +kernel
theorem dX11_worn_26 : decode cX11_worn 26 = .ok (.iadd, 1) := by decide +kernel
theorem dX11_worn_27 : decode cX11_worn 27 = .ok (.iaload, 1) := by decide +kernel
theorem dX11_worn_28 : decode cX11_worn 28 = .ok (.iadd, 1) := by decide +kernel
theorem dX11_worn_29 : decode cX11_worn 29 = .ok (.istore_n 2, 1) := by decide +kernel
theorem dX11_worn_30 : decode cX11_worn 30 = .ok (.iinc 3 1, 3) := by decide +kernel
theorem dX11_worn_33 : decode cX11_worn 33 = .ok (.goto (-29), 3) := by decide +kernel
theorem dX11_worn_36 : decode cX11_worn 36 = .ok (.iload_n 2, 1) := by decide +kernel
theorem dX11_worn_37 : decode cX11_worn 37 = .ok (.ireturn, 1) := by decide +kernel
theorem dX11_engineAtRank_0 : decode cX11_engineAtRank 0 = .ok (.aload_n 0, 1) := by decide +kernel
theorem dX11_engineAtRank_1 : decode cX11_engineAtRank 1 = .ok (.iconst 0, 1) := by decide +kernel
theorem dX11_engineAtRank_2 : decode cX11_engineAtRank 2 = .ok (.putfield 57, 3) := by decide +kernel
theorem dX11_engineAtRank_5 : decode cX11_engineAtRank 5 = .ok (.iconst 0, 1) := by decide +kernel
theorem dX11_engineAtRank_6 : decode cX11_engineAtRank 6 = .ok (.istore_n 2, 1) := by decide +kernel
theorem dX11_engineAtRank_7 : decode cX11_engineAtRank 7 = .ok (.iload_n 2, 1) := by decide +kernel
theorem dX11_engineAtRank_8 : decode cX11_engineAtRank 8 = .ok (.aload_n 0, 1) := by decide +kernel
theorem dX11_engineAtRank_9 : decode cX11_engineAtRank 9 = .ok (.getfield 9, 3) := by decide +kernel
theorem dX11_engineAtRank_12 : decode cX11_engineAtRank 12 = .ok (.iconst 0, 1) := by decide +kernel
theorem dX11_engineAtRank_13 : decode cX11_engineAtRank 13 = .ok (.iaload, 1) := by decide +kernel
theorem dX11_engineAtRank_14 : decode cX11_engineAtRank 14 = .ok (.if_icmp .ge 76, 3) := by decide +kernel
theorem dX11_engineAtRank_17 : decode cX11_engineAtRank 17 = .ok (.iconst 0, 1) := by decide +kernel
theorem dX11_engineAtRank_18 : decode cX11_engineAtRank 18 = .ok (.istore_n 3, 1) := by decide +kernel
theorem dX11_engineAtRank_19 : decode cX11_engineAtRank 19 = .ok (.iconst 0, 1) := by decide +kernel
theorem dX11_engineAtRank_20 : decode cX11_engineAtRank 20 = .ok (.istore 4, 2) := by decide +kernel
theorem dX11_engineAtRank_22 : decode cX11_engineAtRank 22 = .ok (.iload 4, 2) := by decide +kernel
theorem dX11_engineAtRank_24 : decode cX11_engineAtRank 24 = .ok (.aload_n 0, 1) := by decide +kernel
theorem dX11_engineAtRank_25 : decode cX11_engineAtRank 25 = .ok (.getfield 9, 3) := by decide +kernel
theorem dX11_engineAtRank_28 : decode cX11_engineAtRank 28 = .ok (.iconst 0, 1) := by decide +kernel
theorem dX11_engineAtRank_29 : decode cX11_engineAtRank 29 = .ok (.iaload, 1) := by decide +kernel
theorem dX11_engineAtRank_30 : decode cX11_engineAtRank 30 = .ok (.if_icmp .ge 47, 3) := by decide +kernel
theorem dX11_engineAtRank_33 : decode cX11_engineAtRank 33 = .ok (.aload_n 0, 1) := by decide +kernel
theorem dX11_engineAtRank_34 : decode cX11_engineAtRank 34 = .ok (.iload 4, 2) := by decide +kernel
theorem dX11_engineAtRank_36 : decode cX11_engineAtRank 36 = .ok (.invokevirtual 237, 3) := by decide +kernel
theorem dX11_engineAtRank_39 : decode cX11_engineAtRank 39 = .ok (.aload_n 0, 1) := by decide +kernel
theorem dX11_engineAtRank_40 : decode cX11_engineAtRank 40 = .ok (.iload_n 2, 1) := by decide +kernel
theorem dX11_engineAtRank_41 : decode cX11_engineAtRank 41 = .ok (.invokevirtual 237, 3) := by decide +kernel
theorem dX11_engineAtRank_44 : decode cX11_engineAtRank 44 = .ok (.isub, 1) := by decide +kernel
theorem dX11_engineAtRank_45 : decode cX11_engineAtRank 45 = .ok (.istore 5, 2) := by decide +kernel
theorem dX11_engineAtRank_47 : decode cX11_engineAtRank 47 = .ok (.iload_n 3, 1) := by decide +kernel
theorem dX11_engineAtRank_48 : decode cX11_engineAtRank 48 = .ok (.iload 5, 2) := by decide +kernel
theorem dX11_engineAtRank_50 : decode cX11_engineAtRank 50 = .ok (.ifCond .gt 14, 3) := by decide +kernel
theorem dX11_engineAtRank_53 : decode cX11_engineAtRank 53 = .ok (.iload 5, 2) := by decide +kernel
theorem dX11_engineAtRank_55 : decode cX11_engineAtRank 55 = .ok (.ifCond .ne 13, 3) := by decide +kernel
theorem dX11_engineAtRank_58 : decode cX11_engineAtRank 58 = .ok (.iload 4, 2) := by decide +kernel
theorem dX11_engineAtRank_60 : decode cX11_engineAtRank 60 = .ok (.iload_n 2, 1) := by decide +kernel
theorem dX11_engineAtRank_61 : decode cX11_engineAtRank 61 = .ok (.if_icmp .ge 7, 3) := by decide +kernel
theorem dX11_engineAtRank_64 : decode cX11_engineAtRank 64 = .ok (.iconst 1, 1) := by decide +kernel
theorem dX11_engineAtRank_65 : decode cX11_engineAtRank 65 = .ok (.goto 4, 3) := by decide +kernel
theorem dX11_engineAtRank_68 : decode cX11_engineAtRank 68 = .ok (.iconst 0, 1) := by decide +kernel
theorem dX11_engineAtRank_69 : decode cX11_engineAtRank 69 = .ok (.iadd, 1) := by decide +kernel
theorem dX11_engineAtRank_70 : decode cX11_engineAtRank 70 = .ok (.istore_n 3, 1) := by decide +kernel
theorem dX11_engineAtRank_71 : decode cX11_engineAtRank 71 = .ok (.iinc 4 1, 3) := by decide +kernel
theorem dX11_engineAtRank_74 : decode cX11_engineAtRank 74 = .ok (.goto (-52), 3) := by decide +kernel
theorem dX11_engineAtRank_77 : decode cX11_engineAtRank 77 = .ok (.iload_n 3, 1) := by decide +kernel
theorem dX11_engineAtRank_78 : decode cX11_engineAtRank 78 = .ok (.iload_n 1, 1) := by decide +kernel
theorem dX11_engineAtRank_79 : decode cX11_engineAtRank 79 = .ok (.if_icmp .ne 5, 3) := by decide +kernel
theorem dX11_engineAtRank_82 : decode cX11_engineAtRank 82 = .ok (.iload_n 2, 1) := by decide +kernel
theorem dX11_engineAtRank_83 : decode cX11_engineAtRank 83 = .ok (.ireturn, 1) := by decide +kernel
theorem dX11_engineAtRank_84 : decode cX11_engineAtRank 84 = .ok (.iinc 2 1, 3) := by decide +kernel
theorem dX11_engineAtRank_87 : decode cX11_engineAtRank 87 = .ok (.goto (-80), 3) := by decide +kernel
theorem dX11_engineAtRank_90 : decode cX11_engineAtRank 90 = .ok (.aload_n 0, 1) := by decide +kernel
theorem dX11_engineAtRank_91 : decode cX11_engineAtRank 91 = .ok (.iconst 1, 1) := by decide +kernel
theorem dX11_engineAtRank_92 : decode cX11_engineAtRank 92 = .ok (.invokevirtual 125, 3) := by decide +kernel
theorem dX11_engineAtRank_95 : decode cX11_engineAtRank 95 = .ok (.ireturn, 1) := by decide +kernel
theorem dX11_mostVigils_0 : decode cX11_mostVigils 0 = .ok (.aload_n 0, 1) := by decide +kernel
theorem dX11_mostVigils_1 : decode cX11_mostVigils 1 = .ok (.iconst 0, 1) := by decide +kernel
theorem dX11_mostVigils_2 : decode cX11_mostVigils 2 = .ok (.putfield 57, 3) := by decide +kernel
theorem dX11_mostVigils_5 : decode cX11_mostVigils 5 = .ok (.aload_n 0, 1) := by decide +kernel
theorem dX11_mostVigils_6 : decode cX11_mostVigils 6 = .ok (.invokevirtual 240, 3) := by decide +kernel
theorem dX11_mostVigils_9 : decode cX11_mostVigils 9 = .ok (.ireturn, 1) := by decide +kernel
theorem dX11_mostVigilsByTable_0 : decode cX11_mostVigilsByTable 0 = .ok (.aload_n 0, 1) := by decide +kernel
theorem dX11_mostVigilsByTable_1 : decode cX11_mostVigilsByTable 1 = .ok (.invokevirtual 243, 3) := by decide +kernel
theorem dX11_mostVigilsByTable_4 : decode cX11_mostVigilsByTable 4 = .ok (.ireturn, 1) := by decide +kernel
theorem dX11_keeperOf_0 : decode cX11_keeperOf 0 = .ok (.aload_n 0, 1) := by decide +kernel
theorem dX11_keeperOf_1 : decode cX11_keeperOf 1 = .ok (.iconst 0, 1) := by decide +kernel
theorem dX11_keeperOf_2 : decode cX11_keeperOf 2 = .ok (.putfield 57, 3) := by decide +kernel
theorem dX11_keeperOf_5 : decode cX11_keeperOf 5 = .ok (.iload_n 1, 1) := by decide +kernel
theorem dX11_keeperOf_6 : decode cX11_keeperOf 6 = .ok (.i2l, 1) := by decide +kernel
theorem dX11_keeperOf_7 : decode cX11_keeperOf 7 = .ok (.lconst 0, 1) := by decide +kernel
theorem dX11_keeperOf_8 : decode cX11_keeperOf 8 = .ok (.ldc2_w 171, 3) := by decide +kernel
theorem dX11_keeperOf_11 : decode cX11_keeperOf 11 = .ok (.invokestatic 63, 3) := by decide +kernel
theorem dX11_keeperOf_14 : decode cX11_keeperOf 14 = .ok (.ifCond .ne 9, 3) := by decide +kernel
theorem dX11_keeperOf_17 : decode cX11_keeperOf 17 = .ok (.aload_n 0, 1) := by decide +kernel
theorem dX11_keeperOf_18 : decode cX11_keeperOf 18 = .ok (.iconst 1, 1) := by decide +kernel
theorem dX11_keeperOf_19 : decode cX11_keeperOf 19 = .ok (.invokevirtual 125, 3) := by decide +kernel
theorem dX11_keeperOf_22 : decode cX11_keeperOf 22 = .ok (.ireturn, 1) := by decide +kernel
theorem dX11_keeperOf_23 : decode cX11_keeperOf 23 = .ok (.aload_n 0, 1) := by decide +kernel
theorem dX11_keeperOf_24 : decode cX11_keeperOf 24 = .ok (.invokevirtual 240, 3) := by decide +kernel
theorem dX11_keeperOf_27 : decode cX11_keeperOf 27 = .ok (.pop, 1) := by decide +kernel
theorem dX11_keeperOf_28 : decode cX11_keeperOf 28 = .ok (.aload_n 0, 1) := by decide +kernel
theorem dX11_keeperOf_29 : decode cX11_keeperOf 29 = .ok (.getfield 38, 3) := by decide +kernel
theorem dX11_keeperOf_32 : decode cX11_keeperOf 32 = .ok (.iload_n 1, 1) := by decide +kernel
theorem dX11_keeperOf_33 : decode cX11_keeperOf 33 = .ok (.iaload, 1) := by decide +kernel
theorem dX11_keeperOf_34 : decode cX11_keeperOf 34 = .ok (.iconst (-1), 1) := by decide +kernel
theorem dX11_keeperOf_35 : decode cX11_keeperOf 35 = .ok (.if_icmp .ne 11, 3) := by decide +kernel
theorem dX11_keeperOf_38 : decode cX11_keeperOf 38 = .ok (.aload_n 0, 1) := by decide +kernel
theorem dX11_keeperOf_39 : decode cX11_keeperOf 39 = .ok (.iconst 2, 1) := by decide +kernel
theorem dX11_keeperOf_40 : decode cX11_keeperOf 40 = .ok (.invokevirtual 125, 3) := by decide +kernel
theorem dX11_keeperOf_43 : decode cX11_keeperOf 43 = .ok (.goto 9, 3) := by decide +kernel
theorem dX11_keeperOf_46 : decode cX11_keeperOf 46 = .ok (.aload_n 0, 1) := by decide +kernel
theorem dX11_keeperOf_47 : decode cX11_keeperOf 47 = .ok (.getfield 38, 3) := by decide +kernel
theorem dX11_keeperOf_50 : decode cX11_keeperOf 50 = .ok (.iload_n 1, 1) := by decide +kernel
theorem dX11_keeperOf_51 : decode cX11_keeperOf 51 = .ok (.iaload, 1) := by decide +kernel
theorem dX11_keeperOf_52 : decode cX11_keeperOf 52 = .ok (.ireturn, 1) := by decide +kernel
theorem dX11_repairCount_0 : decode cX11_repairCount 0 = .ok (.aload_n 0, 1) := by decide +kernel
theorem dX11_repairCount_1 : decode cX11_repairCount 1 = .ok (.iconst 0, 1) := by decide +kernel
theorem dX11_repairCount_2 : decode cX11_repairCount 2 = .ok (.putfield 57, 3) := by decide +kernel
theorem dX11_repairCount_5 : decode cX11_repairCount 5 = .ok (.aload_n 0, 1) := by decide +kernel
theorem dX11_repairCount_6 : decode cX11_repairCount 6 = .ok (.getfield 9, 3) := by decide +kernel
theorem dX11_repairCount_9 : decode cX11_repairCount 9 = .ok (.iconst 4, 1) := by decide +kernel
theorem dX11_repairCount_10 : decode cX11_repairCount 10 = .ok (.iaload, 1) := by decide +kernel
theorem dX11_repairCount_11 : decode cX11_repairCount 11 = .ok (.ireturn, 1) := by decide +kernel
theorem dX11_leastPenance_0 : decode cX11_leastPenance 0 = .ok (.aload_n 0, 1) := by decide +kernel
theorem dX11_leastPenance_1 : decode cX11_leastPenance 1 = .ok (.iconst 0, 1) := by decide +kernel
theorem dX11_leastPenance_2 : decode cX11_leastPenance 2 = .ok (.putfield 57, 3) := by decide +kernel
theorem dX11_leastPenance_5 : decode cX11_leastPenance 5 = .ok (.iconst 0, 1) := by decide +kernel
theorem dX11_leastPenance_6 : decode cX11_leastPenance 6 = .ok (.istore_n 1, 1) := by decide +kernel
theorem dX11_leastPenance_7 : decode cX11_leastPenance 7 = .ok (.iconst 0, 1) := by decide +kernel
theorem dX11_leastPenance_8 : decode cX11_leastPenance 8 = .ok (.istore_n 2, 1) := by decide +kernel
theorem dX11_leastPenance_9 : decode cX11_leastPenance 9 = .ok (.iload_n 2, 1) := by decide +kernel
theorem dX11_leastPenance_10 : decode cX11_leastPenance 10 = .ok (.aload_n 0, 1) := by decide +kernel
theorem dX11_leastPenance_11 : decode cX11_leastPenance 11 = .ok (.getfield 9, 3) := by decide +kernel
theorem dX11_leastPenance_14 : decode cX11_leastPenance 14 = .ok (.iconst 4, 1) := by decide +kernel
theorem dX11_leastPenance_15 : decode cX11_leastPenance 15 = .ok (.iaload, 1) := by decide +kernel
theorem dX11_leastPenance_16 : decode cX11_leastPenance 16 = .ok (.if_icmp .ge 31, 3) := by decide +kernel
theorem dX11_leastPenance_19 : decode cX11_leastPenance 19 = .ok (.iload_n 1, 1) := by decide +kernel
theorem dX11_leastPenance_20 : decode cX11_leastPenance 20 = .ok (.aload_n 0, 1) := by decide +kernel
theorem dX11_leastPenance_21 : decode cX11_leastPenance 21 = .ok (.iload_n 2, 1) := by decide +kernel
theorem dX11_leastPenance_22 : decode cX11_leastPenance 22 = .ok (.iconst 2, 1) := by decide +kernel
theorem dX11_leastPenance_23 : decode cX11_leastPenance 23 = .ok (.invokevirtual 115, 3) := by decide +kernel
theorem dX11_leastPenance_26 : decode cX11_leastPenance 26 = .ok (.aload_n 0, 1) := by decide +kernel
theorem dX11_leastPenance_27 : decode cX11_leastPenance 27 = .ok (.iload_n 2, 1) := by decide +kernel
theorem dX11_leastPenance_28 : decode cX11_leastPenance 28 = .ok (.invokevirtual 246, 3) := by decide +kernel
theorem dX11_leastPenance_31 : decode cX11_leastPenance 31 = .ok (.aload_n 0, 1) := by decide +kernel
theorem dX11_leastPenance_32 : decode cX11_leastPenance 32 = .ok (.iload_n 2, 1) := by decide +kernel
theorem dX11_leastPenance_33 : decode cX11_leastPenance 33 = .ok (.iconst 1, 1) := by decide +kernel
theorem dX11_leastPenance_34 : decode cX11_leastPenance 34 = .ok (.invokevirtual 115, 3) := by decide +kernel
theorem dX11_leastPenance_37 : decode cX11_leastPenance 37 = .ok (.iadd, 1) := by decide +kernel
theorem dX11_leastPenance_38 : decode cX11_leastPenance 38 = .ok (.imul, 1) := by decide +kernel
theorem dX11_leastPenance_39 : decode cX11_leastPenance 39 = .ok (.iadd, 1) := by decide +kernel
theorem dX11_leastPenance_40 : decode cX11_leastPenance 40 = .ok (.istore_n 1, 1) := by decide +kernel
theorem dX11_leastPenance_41 : decode cX11_leastPenance 41 = .ok (.iinc 2 1, 3) := by decide +kernel
theorem dX11_leastPenance_44 : decode cX11_leastPenance 44 = .ok (.goto (-35), 3) := by decide +kernel
theorem dX11_leastPenance_47 : decode cX11_leastPenance 47 = .ok (.iload_n 1, 1) := by decide +kernel
theorem dX11_leastPenance_48 : decode cX11_leastPenance 48 = .ok (.ireturn, 1) := by decide +kernel
theorem dX11_leastPenanceByTable_0 : decode cX11_leastPenanceByTable 0 = .ok (.aload_n 0, 1) := by decide +kernel
theorem dX11_leastPenanceByTable_1 : decode cX11_leastPenanceByTable 1 = .ok (.invokevirtual 249, 3) := by decide +kernel
theorem dX11_leastPenanceByTable_4 : decode cX11_leastPenanceByTable 4 = .ok (.ireturn, 1) := by decide +kernel
theorem dX11_penanceDone_0 : decode cX11_penanceDone 0 = .ok (.aload_n 0, 1) := by decide +kernel
theorem dX11_penanceDone_1 : decode cX11_penanceDone 1 = .ok (.iconst 0, 1) := by decide +kernel
theorem dX11_penanceDone_2 : decode cX11_penanceDone 2 = .ok (.putfield 57, 3) := by decide +kernel
theorem dX11_penanceDone_5 : decode cX11_penanceDone 5 = .ok (.aload_n 0, 1) := by decide +kernel
theorem dX11_penanceDone_6 : decode cX11_penanceDone 6 = .ok (.getfield 9, 3) := by decide +kernel
theorem dX11_penanceDone_9 : decode cX11_penanceDone 9 = .ok (.iconst 5, 1) := by decide +kernel
theorem dX11_penanceDone_10 : decode cX11_penanceDone 10 = .ok (.iaload, 1) := by decide +kernel
theorem dX11_penanceDone_11 : decode cX11_penanceDone 11 = .ok (.ireturn, 1) := by decide +kernel
theorem dX11_hour_0 : decode cX11_hour 0 = .ok (.aload_n 0, 1) := by decide +kernel
theorem dX11_hour_1 : decode cX11_hour 1 = .ok (.iconst 0, 1) := by decide +kernel
theorem dX11_hour_2 : decode cX11_hour 2 = .ok (.putfield 57, 3) := by decide +kernel
theorem dX11_hour_5 : decode cX11_hour 5 = .ok (.aload_n 0, 1) := by decide +kernel
theorem dX11_hour_6 : decode cX11_hour 6 = .ok (.getfield 9, 3) := by decide +kernel
theorem dX11_hour_9 : decode cX11_hour 9 = .ok (.iconst 1, 1) := by decide +kernel
theorem dX11_hour_10 : decode cX11_hour 10 = .ok (.iaload, 1) := by decide +kernel
theorem dX11_hour_11 : decode cX11_hour 11 = .ok (.ireturn, 1) := by decide +kernel
theorem dX11_knocksIn_0 : decode cX11_knocksIn 0 = .ok (.aload_n 0, 1) := by decide +kernel
theorem dX11_knocksIn_1 : decode cX11_knocksIn 1 = .ok (.iconst 0, 1) := by decide +kernel
theorem dX11_knocksIn_2 : decode cX11_knocksIn 2 = .ok (.putfield 57, 3) := by decide +kernel
theorem dX11_knocksIn_5 : decode cX11_knocksIn 5 = .ok (.iconst 0, 1) := by decide +kernel
theorem dX11_knocksIn_6 : decode cX11_knocksIn 6 = .ok (.istore_n 2, 1) := by decide +kernel
theorem dX11_knocksIn_7 : decode cX11_knocksIn 7 = .ok (.iload_n 2, 1) := by decide +kernel
theorem dX11_knocksIn_8 : decode cX11_knocksIn 8 = .ok (.aload_n 0, 1) := by decide +kernel
theorem dX11_knocksIn_9 : decode cX11_knocksIn 9 = .ok (.getfield 9, 3) := by decide +kernel
theorem dX11_knocksIn_12 : decode cX11_knocksIn 12 = .ok (.bipush 6, 2) := by decide +kernel
theorem dX11_knocksIn_14 : decode cX11_knocksIn 14 = .ok (.iaload, 1) := by decide +kernel
theorem dX11_knocksIn_15 : decode cX11_knocksIn 15 = .ok (.if_icmp .ge 40, 3) := by decide +kernel
theorem dX11_knocksIn_18 : decode cX11_knocksIn 18 = .ok (.aload_n 0, 1) := by decide +kernel
theorem dX11_knocksIn_19 : decode cX11_knocksIn 19 = .ok (.getfield 9, 3) := by decide +kernel
theorem dX11_knocksIn_22 : decode cX11_knocksIn 22 = .ok (.sipush 245, 3) := by decide +kernel
theorem dX11_knocksIn_25 : decode cX11_knocksIn 25 = .ok (.iconst 2, 1) := by decide +kernel
theorem dX11_knocksIn_26 : decode cX11_knocksIn 26 = .ok (.iload_n 2, 1) := by decide +kernel
theorem dX11_knocksIn_27 : decode cX11_knocksIn 27 = .ok (.imul, 1) := by decide +kernel
theorem dX11_knocksIn_28 : decode cX11_knocksIn 28 = .ok (.iadd, 1) := by decide +kernel
theorem dX11_knocksIn_29 : decode cX11_knocksIn 29 = .ok (.iaload, 1) := by decide +kernel
theorem dX11_knocksIn_30 : decode cX11_knocksIn 30 = .ok (.iload_n 1, 1) := by decide +kernel
theorem dX11_knocksIn_31 : decode cX11_knocksIn 31 = .ok (.if_icmp .ne 18, 3) := by decide +kernel
theorem dX11_knocksIn_34 : decode cX11_knocksIn 34 = .ok (.aload_n 0, 1) := by decide +kernel
theorem dX11_knocksIn_35 : decode cX11_knocksIn 35 = .ok (.getfield 9, 3) := by decide +kernel
theorem dX11_knocksIn_38 : decode cX11_knocksIn 38 = .ok (.sipush 245, 3) := by decide +kernel
theorem dX11_knocksIn_41 : decode cX11_knocksIn 41 = .ok (.iconst 2, 1) := by decide +kernel
theorem dX11_knocksIn_42 : decode cX11_knocksIn 42 = .ok (.iload_n 2, 1) := by decide +kernel
theorem dX11_knocksIn_43 : decode cX11_knocksIn 43 = .ok (.imul, 1) := by decide +kernel
theorem dX11_knocksIn_44 : decode cX11_knocksIn 44 = .ok (.iadd, 1) := by decide +kernel
theorem dX11_knocksIn_45 : decode cX11_knocksIn 45 = .ok (.iconst 1, 1) := by decide +kernel
theorem dX11_knocksIn_46 : decode cX11_knocksIn 46 = .ok (.iadd, 1) := by decide +kernel
theorem dX11_knocksIn_47 : decode cX11_knocksIn 47 = .ok (.iaload, 1) := by decide +kernel
theorem dX11_knocksIn_48 : decode cX11_knocksIn 48 = .ok (.ireturn, 1) := by decide +kernel
theorem dX11_knocksIn_49 : decode cX11_knocksIn 49 = .ok (.iinc 2 1, 3) := by decide +kernel
theorem dX11_knocksIn_52 : decode cX11_knocksIn 52 = .ok (.goto (-45), 3) := by decide +kernel
theorem dX11_knocksIn_55 : decode cX11_knocksIn 55 = .ok (.aload_n 0, 1) := by decide +kernel
theorem dX11_knocksIn_56 : decode cX11_knocksIn 56 = .ok (.iconst 1, 1) := by decide +kernel
theorem dX11_knocksIn_57 : decode cX11_knocksIn 57 = .ok (.invokevirtual 125, 3) := by decide +kernel
theorem dX11_knocksIn_60 : decode cX11_knocksIn 60 = .ok (.ireturn, 1) := by decide +kernel
theorem dX11_hourOfKnocks_0 : decode cX11_hourOfKnocks 0 = .ok (.aload_n 0, 1) := by decide +kernel
theorem dX11_hourOfKnocks_1 : decode cX11_hourOfKnocks 1 = .ok (.iconst 0, 1) := by decide +kernel
theorem dX11_hourOfKnocks_2 : decode cX11_hourOfKnocks 2 = .ok (.putfield 57, 3) := by decide +kernel
theorem dX11_hourOfKnocks_5 : decode cX11_hourOfKnocks 5 = .ok (.iconst 0, 1) := by decide +kernel
theorem dX11_hourOfKnocks_6 : decode cX11_hourOfKnocks 6 = .ok (.istore_n 2, 1) := by decide +kernel
theorem dX11_hourOfKnocks_7 : decode cX11_hourOfKnocks 7 = .ok (.iload_n 2, 1) := by decide +kernel
theorem dX11_hourOfKnocks_8 : decode cX11_hourOfKnocks 8 = .ok (.aload_n 0, 1) := by decide +kernel
theorem dX11_hourOfKnocks_9 : decode cX11_hourOfKnocks 9 = .ok (.getfield 9, 3) := by decide +kernel
theorem dX11_hourOfKnocks_12 : decode cX11_hourOfKnocks 12 = .ok (.bipush 6, 2) := by decide +kernel
theorem dX11_hourOfKnocks_14 : decode cX11_hourOfKnocks 14 = .ok (.iaload, 1) := by decide +kernel
theorem dX11_hourOfKnocks_15 : decode cX11_hourOfKnocks 15 = .ok (.if_icmp .ge 38, 3) := by decide +kernel
theorem dX11_hourOfKnocks_18 : decode cX11_hourOfKnocks 18 = .ok (.aload_n 0, 1) := by decide +kernel
theorem dX11_hourOfKnocks_19 : decode cX11_hourOfKnocks 19 = .ok (.getfield 9, 3) := by decide +kernel
theorem dX11_hourOfKnocks_22 : decode cX11_hourOfKnocks 22 = .ok (.sipush 245, 3) := by decide +kernel
theorem dX11_hourOfKnocks_25 : decode cX11_hourOfKnocks 25 = .ok (.iconst 2, 1) := by decide +kernel
theorem dX11_hourOfKnocks_26 : decode cX11_hourOfKnocks 26 = .ok (.iload_n 2, 1) := by decide +kernel
theorem dX11_hourOfKnocks_27 : decode cX11_hourOfKnocks 27 = .ok (.imul, 1) := by decide +kernel
theorem dX11_hourOfKnocks_28 : decode cX11_hourOfKnocks 28 = .ok (.iadd, 1) := by decide +kernel
theorem dX11_hourOfKnocks_29 : decode cX11_hourOfKnocks 29 = .ok (.iaload, 1) := by decide +kernel
theorem dX11_hourOfKnocks_30 : decode cX11_hourOfKnocks 30 = .ok (.iload_n 1, 1) := by decide +kernel
theorem dX11_hourOfKnocks_31 : decode cX11_hourOfKnocks 31 = .ok (.if_icmp .lt 16, 3) := by decide +kernel
theorem dX11_hourOfKnocks_34 : decode cX11_hourOfKnocks 34 = .ok (.aload_n 0, 1) := by decide +kernel
theorem dX11_hourOfKnocks_35 : decode cX11_hourOfKnocks 35 = .ok (.getfield 9, 3) := by decide +kernel
theorem dX11_hourOfKnocks_38 : decode cX11_hourOfKnocks 38 = .ok (.sipush 245, 3) := by decide +kernel
theorem dX11_hourOfKnocks_41 : decode cX11_hourOfKnocks 41 = .ok (.iconst 2, 1) := by decide +kernel
theorem dX11_hourOfKnocks_42 : decode cX11_hourOfKnocks 42 = .ok (.iload_n 2, 1) := by decide +kernel
theorem dX11_hourOfKnocks_43 : decode cX11_hourOfKnocks 43 = .ok (.imul, 1) := by decide +kernel
theorem dX11_hourOfKnocks_44 : decode cX11_hourOfKnocks 44 = .ok (.iadd, 1) := by decide +kernel
theorem dX11_hourOfKnocks_45 : decode cX11_hourOfKnocks 45 = .ok (.iaload, 1) := by decide +kernel
theorem dX11_hourOfKnocks_46 : decode cX11_hourOfKnocks 46 = .ok (.ireturn, 1) := by decide +kernel
theorem dX11_hourOfKnocks_47 : decode cX11_hourOfKnocks 47 = .ok (.iinc 2 1, 3) := by decide +kernel
theorem dX11_hourOfKnocks_50 : decode cX11_hourOfKnocks 50 = .ok (.goto (-43), 3) := by decide +kernel
theorem dX11_hourOfKnocks_53 : decode cX11_hourOfKnocks 53 = .ok (.aload_n 0, 1) := by decide +kernel
theorem dX11_hourOfKnocks_54 : decode cX11_hourOfKnocks 54 = .ok (.iconst 1, 1) := by decide +kernel
theorem dX11_hourOfKnocks_55 : decode cX11_hourOfKnocks 55 = .ok (.invokevirtual 125, 3) := by decide +kernel
theorem dX11_hourOfKnocks_58 : decode cX11_hourOfKnocks 58 = .ok (.ireturn, 1) := by decide +kernel
theorem dX11_append_0 : decode cX11_append 0 = .ok (.aload_n 0, 1) := by decide +kernel
theorem dX11_append_1 : decode cX11_append 1 = .ok (.iconst 0, 1) := by decide +kernel
theorem dX11_append_2 : decode cX11_append 2 = .ok (.putfield 57, 3) := by decide +kernel
theorem dX11_append_5 : decode cX11_append 5 = .ok (.iload_n 1, 1) := by decide +kernel
theorem dX11_append_6 : decode cX11_append 6 = .ok (.i2l, 1) := by decide +kernel
theorem dX11_append_7 : decode cX11_append 7 = .ok (.ldc2_w 252, 3) := by decide +kernel
theorem dX11_append_10 : decode cX11_append 10 = .ok (.ldc2_w 254, 3) := by decide +kernel
theorem dX11_append_13 : decode cX11_append 13 = .ok (.invokestatic 63, 3) := by decide +kernel
theorem dX11_append_16 : decode cX11_append 16 = .ok (.ifCond .ne 9, 3) := by decide +kernel
theorem dX11_append_19 : decode cX11_append 19 = .ok (.aload_n 0, 1) := by decide +kernel
theorem dX11_append_20 : decode cX11_append 20 = .ok (.iconst 1, 1) := by decide +kernel
theorem dX11_append_21 : decode cX11_append 21 = .ok (.invokevirtual 125, 3) := by decide +kernel
theorem dX11_append_24 : decode cX11_append 24 = .ok (.ireturn, 1) := by decide +kernel
theorem dX11_append_25 : decode cX11_append 25 = .ok (.aload_n 0, 1) := by decide +kernel
theorem dX11_append_26 : decode cX11_append 26 = .ok (.getfield 256, 3) := by decide +kernel
theorem dX11_append_29 : decode cX11_append 29 = .ok (.bipush 60, 2) := by decide +kernel
theorem dX11_append_31 : decode cX11_append 31 = .ok (.if_icmp .ne 9, 3) := by decide +kernel
theorem dX11_append_34 : decode cX11_append 34 = .ok (.aload_n 0, 1) := by decide +kernel
theorem dX11_append_35 : decode cX11_append 35 = .ok (.iconst 2, 1) := by decide +kernel
theorem dX11_append_36 : decode cX11_append 36 = .ok (.invokevirtual 125, 3) := by decide +kernel
theorem dX11_append_39 : decode cX11_append 39 = .ok (.ireturn, 1) := by decide +kernel
theorem dX11_append_40 : decode cX11_append 40 = .ok (.aload_n 0, 1) := by decide +kernel
theorem dX11_append_41 : decode cX11_append 41 = .ok (.getfield 29, 3) := by decide +kernel
theorem dX11_append_44 : decode cX11_append 44 = .ok (.aload_n 0, 1) := by decide +kernel
theorem dX11_append_45 : decode cX11_append 45 = .ok (.getfield 256, 3) := by decide +kernel
theorem dX11_append_48 : decode cX11_append 48 = .ok (.iload_n 1, 1) := by decide +kernel
theorem dX11_append_49 : decode cX11_append 49 = .ok (.iastore, 1) := by decide +kernel
theorem dX11_append_50 : decode cX11_append 50 = .ok (.aload_n 0, 1) := by decide +kernel
theorem dX11_append_51 : decode cX11_append 51 = .ok (.dup, 1) := by decide +kernel
theorem dX11_append_52 : decode cX11_append 52 = .ok (.getfield 256, 3) := by decide +kernel
theorem dX11_append_55 : decode cX11_append 55 = .ok (.iconst 1, 1) := by decide +kernel
theorem dX11_append_56 : decode cX11_append 56 = .ok (.iadd, 1) := by decide +kernel
theorem dX11_append_57 : decode cX11_append 57 = .ok (.putfield 256, 3) := by decide +kernel
theorem dX11_append_60 : decode cX11_append 60 = .ok (.aload_n 0, 1) := by decide +kernel
theorem dX11_append_61 : decode cX11_append 61 = .ok (.getfield 256, 3) := by decide +kernel
theorem dX11_append_64 : decode cX11_append 64 = .ok (.ireturn, 1) := by decide +kernel
theorem dX11_here_0 : decode cX11_here 0 = .ok (.aload_n 0, 1) := by decide +kernel
theorem dX11_here_1 : decode cX11_here 1 = .ok (.getfield 259, 3) := by decide +kernel
theorem dX11_here_4 : decode cX11_here 4 = .ok (.aload_n 0, 1) := by decide +kernel
theorem dX11_here_5 : decode cX11_here 5 = .ok (.getfield 262, 3) := by decide +kernel
theorem dX11_here_8 : decode cX11_here 8 = .ok (.if_icmp .ge 15, 3) := by decide +kernel
theorem dX11_here_11 : decode cX11_here 11 = .ok (.aload_n 0, 1) := by decide +kernel
theorem dX11_here_12 : decode cX11_here 12 = .ok (.getfield 29, 3) := by decide +kernel
theorem dX11_here_15 : decode cX11_here 15 = .ok (.aload_n 0, 1) := by decide +kernel
theorem dX11_here_16 : decode cX11_here 16 = .ok (.getfield 259, 3) := by decide +kernel
theorem dX11_here_19 : decode cX11_here 19 = .ok (.iaload, 1) := by decide +kernel
theorem dX11_here_20 : decode cX11_here 20 = .ok (.goto 4, 3) := by decide +kernel
theorem dX11_here_23 : decode cX11_here 23 = .ok (.iconst (-1), 1) := by decide +kernel
theorem dX11_here_24 : decode cX11_here 24 = .ok (.ireturn, 1) := by decide +kernel
theorem dX11_expects_0 : decode cX11_expects 0 = .ok (.aload_n 0, 1) := by decide +kernel
theorem dX11_expects_1 : decode cX11_expects 1 = .ok (.aload_n 0, 1) := by decide +kernel
theorem dX11_expects_2 : decode cX11_expects 2 = .ok (.getfield 265, 3) := by decide +kernel
theorem dX11_expects_5 : decode cX11_expects 5 = .ok (.ifCond .ne 11, 3) := by decide +kernel
theorem dX11_expects_8 : decode cX11_expects 8 = .ok (.aload_n 0, 1) := by decide +kernel
theorem dX11_expects_9 : decode cX11_expects 9 = .ok (.invokevirtual 269, 3) := by decide +kernel
theorem dX11_expects_12 : decode cX11_expects 12 = .ok (.iload_n 1, 1) := by decide +kernel
theorem dX11_expects_13 : decode cX11_expects 13 = .ok (.if_icmp .eq 7, 3) := by decide +kernel
theorem dX11_expects_16 : decode cX11_expects 16 = .ok (.iconst 1, 1) := by decide +kernel
theorem dX11_expects_17 : decode cX11_expects 17 = .ok (.goto 4, 3) := by decide +kernel
theorem dX11_expects_20 : decode cX11_expects 20 = .ok (.iconst 0, 1) := by decide +kernel
theorem dX11_expects_21 : decode cX11_expects 21 = .ok (.putfield 265, 3) := by decide +kernel
theorem dX11_expects_24 : decode cX11_expects 24 = .ok (.aload_n 0, 1) := by decide +kernel
theorem dX11_expects_25 : decode cX11_expects 25 = .ok (.dup, 1) := by decide +kernel
theorem dX11_expects_26 : decode cX11_expects 26 = .ok (.getfield 259, 3) := by decide +kernel
theorem dX11_expects_29 : decode cX11_expects 29 = .ok (.aload_n 0, 1) := by decide +kernel
theorem dX11_expects_30 : decode cX11_expects 30 = .ok (.getfield 265, 3) := by decide +kernel
theorem dX11_expects_33 : decode cX11_expects 33 = .ok (.ifCond .eq 7, 3) := by decide +kernel
theorem dX11_expects_36 : decode cX11_expects 36 = .ok (.iconst 0, 1) := by decide +kernel
theorem dX11_expects_37 : decode cX11_expects 37 = .ok (.goto 4, 3) := by decide +kernel
theorem dX11_expects_40 : decode cX11_expects 40 = .ok (.iconst 1, 1) := by decide +kernel
theorem dX11_expects_41 : decode cX11_expects 41 = .ok (.iadd, 1) := by decide +kernel
theorem dX11_expects_42 : decode cX11_expects 42 = .ok (.putfield 259, 3) := by decide +kernel
theorem dX11_expects_45 : decode cX11_expects 45 = .ok (.return_, 1) := by decide +kernel
theorem dX11_digit_0 : decode cX11_digit 0 = .ok (.aload_n 0, 1) := by decide +kernel
theorem dX11_digit_1 : decode cX11_digit 1 = .ok (.aload_n 0, 1) := by decide +kernel
theorem dX11_digit_2 : decode cX11_digit 2 = .ok (.getfield 265, 3) := by decide +kernel
theorem dX11_digit_5 : decode cX11_digit 5 = .ok (.ifCond .ne 20, 3) := by decide +kernel
theorem dX11_digit_8 : decode cX11_digit 8 = .ok (.aload_n 0, 1) := by decide +kernel
theorem dX11_digit_9 : decode cX11_digit 9 = .ok (.invokevirtual 269, 3) := by decide +kernel
theorem dX11_digit_12 : decode cX11_digit 12 = .ok (.i2l, 1) := by decide +kernel
theorem dX11_digit_13 : decode cX11_digit 13 = .ok (.ldc2_w 190, 3) := by decide +kernel
theorem dX11_digit_16 : decode cX11_digit 16 = .ok (.ldc2_w 272, 3) := by decide +kernel
theorem dX11_digit_19 : decode cX11_digit 19 = .ok (.invokestatic 63, 3) := by decide +kernel
theorem dX11_digit_22 : decode cX11_digit 22 = .ok (.ifCond .ne 7, 3) := by decide +kernel
theorem dX11_digit_25 : decode cX11_digit 25 = .ok (.iconst 1, 1) := by decide +kernel
theorem dX11_digit_26 : decode cX11_digit 26 = .ok (.goto 4, 3) := by decide +kernel
theorem dX11_digit_29 : decode cX11_digit 29 = .ok (.iconst 0, 1) := by decide +kernel
theorem dX11_digit_30 : decode cX11_digit 30 = .ok (.putfield 265, 3) := by decide +kernel
theorem dX11_digit_33 : decode cX11_digit 33 = .ok (.aload_n 0, 1) := by decide +kernel
theorem dX11_digit_34 : decode cX11_digit 34 = .ok (.getfield 265, 3) := by decide +kernel
theorem dX11_digit_37 : decode cX11_digit 37 = .ok (.ifCond .eq 7, 3) := by decide +kernel
theorem dX11_digit_40 : decode cX11_digit 40 = .ok (.iconst 0, 1) := by decide +kernel
theorem dX11_digit_41 : decode cX11_digit 41 = .ok (.goto 10, 3) := by decide +kernel
theorem dX11_digit_44 : decode cX11_digit 44 = .ok (.aload_n 0, 1) := by decide +kernel
theorem dX11_digit_45 : decode cX11_digit 45 = .ok (.invokevirtual 269, 3) := by decide +kernel
theorem dX11_digit_48 : decode cX11_digit 48 = .ok (.bipush 48, 2) := by decide +kernel
theorem dX11_digit_50 : decode cX11_digit 50 = .ok (.isub, 1) := by decide +kernel
theorem dX11_digit_51 : decode cX11_digit 51 = .ok (.istore_n 1, 1) := by decide +kernel
theorem dX11_digit_52 : decode cX11_digit 52 = .ok (.aload_n 0, 1) := by decide +kernel
theorem dX11_digit_53 : decode cX11_digit 53 = .ok (.dup, 1) := by decide +kernel
theorem dX11_digit_54 : decode cX11_digit 54 = .ok (.getfield 259, 3) := by decide +kernel
theorem dX11_digit_57 : decode cX11_digit 57 = .ok (.aload_n 0, 1) := by decide +kernel
theorem dX11_digit_58 : decode cX11_digit 58 = .ok (.getfield 265, 3) := by decide +kernel
theorem dX11_digit_61 : decode cX11_digit 61 = .ok (.ifCond .eq 7, 3) := by decide +kernel
theorem dX11_digit_64 : decode cX11_digit 64 = .ok (.iconst 0, 1) := by decide +kernel
theorem dX11_digit_65 : decode cX11_digit 65 = .ok (.goto 4, 3) := by decide +kernel
theorem dX11_digit_68 : decode cX11_digit 68 = .ok (.iconst 1, 1) := by decide +kernel
theorem dX11_digit_69 : decode cX11_digit 69 = .ok (.iadd, 1) := by decide +kernel
theorem dX11_digit_70 : decode cX11_digit 70 = .ok (.putfield 259, 3) := by decide +kernel
theorem dX11_digit_73 : decode cX11_digit 73 = .ok (.iload_n 1, 1) := by decide +kernel
theorem dX11_digit_74 : decode cX11_digit 74 = .ok (.ireturn, 1) := by decide +kernel
theorem dX11_number_0 : decode cX11_number 0 = .ok (.aload_n 0, 1) := by decide +kernel
theorem dX11_number_1 : decode cX11_number 1 = .ok (.invokevirtual 274, 3) := by decide +kernel
theorem dX11_number_4 : decode cX11_number 4 = .ok (.istore_n 1, 1) := by decide +kernel
theorem dX11_number_5 : decode cX11_number 5 = .ok (.aload_n 0, 1) := by decide +kernel
theorem dX11_number_6 : decode cX11_number 6 = .ok (.getfield 265, 3) := by decide +kernel
theorem dX11_number_9 : decode cX11_number 9 = .ok (.ifCond .ne 32, 3) := by decide +kernel
theorem dX11_number_12 : decode cX11_number 12 = .ok (.aload_n 0, 1) := by decide +kernel
theorem dX11_number_13 : decode cX11_number 13 = .ok (.invokevirtual 269, 3) := by decide +kernel
theorem dX11_number_16 : decode cX11_number 16 = .ok (.i2l, 1) := by decide +kernel
theorem dX11_number_17 : decode cX11_number 17 = .ok (.ldc2_w 190, 3) := by decide +kernel
theorem dX11_number_20 : decode cX11_number 20 = .ok (.ldc2_w 272, 3) := by decide +kernel
theorem dX11_number_23 : decode cX11_number 23 = .ok (.invokestatic 63, 3) := by decide +kernel
theorem dX11_number_26 : decode cX11_number 26 = .ok (.ifCond .eq 15, 3) := by decide +kernel
theorem dX11_number_29 : decode cX11_number 29 = .ok (.bipush 10, 2) := by decide +kernel
theorem dX11_number_31 : decode cX11_number 31 = .ok (.iload_n 1, 1) := by decide +kernel
theorem dX11_number_32 : decode cX11_number 32 = .ok (.imul, 1) := by decide +kernel
theorem dX11_number_33 : decode cX11_number 33 = .ok (.aload_n 0, 1) := by decide +kernel
theorem dX11_number_34 : decode cX11_number 34 = .ok (.invokevirtual 274, 3) := by decide +kernel
theorem dX11_number_37 : decode cX11_number 37 = .ok (.iadd, 1) := by decide +kernel
theorem dX11_number_38 : decode cX11_number 38 = .ok (.goto 4, 3) := by decide +kernel
theorem dX11_number_41 : decode cX11_number 41 = .ok (.iload_n 1, 1) := by decide +kernel
theorem dX11_number_42 : decode cX11_number 42 = .ok (.ireturn, 1) := by decide +kernel
theorem dX11_digitBehind_0 : decode cX11_digitBehind 0 = .ok (.aload_n 0, 1) := by decide +kernel
theorem dX11_digitBehind_1 : decode cX11_digitBehind 1 = .ok (.iload_n 1, 1) := by decide +kernel
theorem dX11_digitBehind_2 : decode cX11_digitBehind 2 = .ok (.invokevirtual 277, 3) := by decide +kernel
theorem dX11_digitBehind_5 : decode cX11_digitBehind 5 = .ok (.aload_n 0, 1) := by decide +kernel
theorem dX11_digitBehind_6 : decode cX11_digitBehind 6 = .ok (.invokevirtual 274, 3) := by decide +kernel
theorem dX11_digitBehind_9 : decode cX11_digitBehind 9 = .ok (.ireturn, 1) := by decide +kernel
theorem dX11_numberBehind_0 : decode cX11_numberBehind 0 = .ok (.aload_n 0, 1) := by decide +kernel
theorem dX11_numberBehind_1 : decode cX11_numberBehind 1 = .ok (.iload_n 1, 1) := by decide +kernel
theorem dX11_numberBehind_2 : decode cX11_numberBehind 2 = .ok (.invokevirtual 277, 3) := by decide +kernel
theorem dX11_numberBehind_5 : decode cX11_numberBehind 5 = .ok (.aload_n 0, 1) := by decide +kernel
theorem dX11_numberBehind_6 : decode cX11_numberBehind 6 = .ok (.invokevirtual 280, 3) := by decide +kernel
theorem dX11_numberBehind_9 : decode cX11_numberBehind 9 = .ok (.ireturn, 1) := by decide +kernel
theorem dX11_likeness_0 : decode cX11_likeness 0 = .ok (.iconst 0, 1) := by decide +kernel
theorem dX11_likeness_1 : decode cX11_likeness 1 = .ok (.istore_n 2, 1) := by decide +kernel
theorem dX11_likeness_2 : decode cX11_likeness 2 = .ok (.aload_n 0, 1) := by decide +kernel
theorem dX11_likeness_3 : decode cX11_likeness 3 = .ok (.getfield 48, 3) := by decide +kernel
theorem dX11_likeness_6 : decode cX11_likeness 6 = .ok (.iload_n 1, 1) := by decide +kernel
theorem dX11_likeness_7 : decode cX11_likeness 7 = .ok (.iconst 1, 1) := by decide +kernel
theorem dX11_likeness_8 : decode cX11_likeness 8 = .ok (.iadd, 1) := by decide +kernel
theorem dX11_likeness_9 : decode cX11_likeness 9 = .ok (.iaload, 1) := by decide +kernel
theorem dX11_likeness_10 : decode cX11_likeness 10 = .ok (.aload_n 0, 1) := by decide +kernel
theorem dX11_likeness_11 : decode cX11_likeness 11 = .ok (.getfield 48, 3) := by decide +kernel
theorem dX11_likeness_14 : decode cX11_likeness 14 = .ok (.iload_n 1, 1) := by decide +kernel
theorem dX11_likeness_15 : decode cX11_likeness 15 = .ok (.iaload, 1) := by decide +kernel
theorem dX11_likeness_16 : decode cX11_likeness 16 = .ok (.isub, 1) := by decide +kernel
theorem dX11_likeness_17 : decode cX11_likeness 17 = .ok (.istore_n 3, 1) := by decide +kernel
theorem dX11_likeness_18 : decode cX11_likeness 18 = .ok (.iload_n 2, 1) := by decide +kernel
theorem dX11_likeness_19 : decode cX11_likeness 19 = .ok (.iload_n 3, 1) := by decide +kernel
theorem dX11_likeness_20 : decode cX11_likeness 20 = .ok (.if_icmp .ge 49, 3) := by decide +kernel
theorem dX11_likeness_23 : decode cX11_likeness 23 = .ok (.aload_n 0, 1) := by decide +kernel
theorem dX11_likeness_24 : decode cX11_likeness 24 = .ok (.getfield 259, 3) := by decide +kernel
theorem dX11_likeness_27 : decode cX11_likeness 27 = .ok (.iload_n 2, 1) := by decide +kernel
theorem dX11_likeness_28 : decode cX11_likeness 28 = .ok (.iadd, 1) := by decide +kernel
theorem dX11_likeness_29 : decode cX11_likeness 29 = .ok (.aload_n 0, 1) := by decide +kernel
theorem dX11_likeness_30 : decode cX11_likeness 30 = .ok (.getfield 262, 3) := by decide +kernel
theorem dX11_likeness_33 : decode cX11_likeness 33 = .ok (.if_icmp .ge 36, 3) := by decide +kernel
theorem dX11_likeness_36 : decode cX11_likeness 36 = .ok (.aload_n 0, 1) := by decide +kernel
theorem dX11_likeness_37 : decode cX11_likeness 37 = .ok (.getfield 29, 3) := by decide +kernel
theorem dX11_likeness_40 : decode cX11_likeness 40 = .ok (.aload_n 0, 1) := by decide +kernel
theorem dX11_likeness_41 : decode cX11_likeness 41 = .ok (.getfield 259, 3) := by decide +kernel
theorem dX11_likeness_44 : decode cX11_likeness 44 = .ok (.iload_n 2, 1) := by decide +kernel
theorem dX11_likeness_45 : decode cX11_likeness 45 = .ok (.iadd, 1) := by decide +kernel
theorem dX11_likeness_46 : decode cX11_likeness 46 = .ok (.iaload, 1) := by decide +kernel
theorem dX11_likeness_47 : decode cX11_likeness 47 = .ok (.aload_n 0, 1) := by decide +kernel
theorem dX11_likeness_48 : decode cX11_likeness 48 = .ok (.getfield 44, 3) := by decide +kernel
theorem dX11_likeness_51 : decode cX11_likeness 51 = .ok (.aload_n 0, 1) := by decide +kernel
theorem dX11_likeness_52 : decode cX11_likeness 52 = .ok (.getfield 48, 3) := by decide +kernel
theorem dX11_likeness_55 : decode cX11_likeness 55 = .ok (.iload_n 1, 1) := by decide +kernel
theorem dX11_likeness_56 : decode cX11_likeness 56 = .ok (.iaload, 1) := by decide +kernel
theorem dX11_likeness_57 : decode cX11_likeness 57 = .ok (.iload_n 2, 1) := by decide +kernel
theorem dX11_likeness_58 : decode cX11_likeness 58 = .ok (.iadd, 1) := by decide +kernel
theorem dX11_likeness_59 : decode cX11_likeness 59 = .ok (.caload, 1) := by decide +kernel
theorem dX11_likeness_60 : decode cX11_likeness 60 = .ok (.if_icmp .ne 9, 3) := by decide +kernel
theorem dX11_likeness_63 : decode cX11_likeness 63 = .ok (.iinc 2 1, 3) := by decide +kernel
theorem dX11_likeness_66 : decode cX11_likeness 66 = .ok (.goto (-48), 3) := by decide +kernel
theorem dX11_likeness_69 : decode cX11_likeness 69 = .ok (.iload_n 2, 1) := by decide +kernel
theorem dX11_likeness_70 : decode cX11_likeness 70 = .ok (.ireturn, 1) := by decide +kernel
theorem dX11_readArguments_0 : decode cX11_readArguments 0 = .ok (.iload_n 1, 1) := by decide +kernel
theorem dX11_readArguments_1 : decode cX11_readArguments 1 = .ok (.bipush 7, 2) := by decide +kernel
theorem dX11_readArguments_3 : decode cX11_readArguments 3 = .ok (.if_icmp .eq 9, 3) := by decide +kernel
theorem dX11_readArguments_6 : decode cX11_readArguments 6 = .ok (.iload_n 1, 1) := by decide +kernel
theorem dX11_readArguments_7 : decode cX11_readArguments 7 = .ok (.bipush 10, 2) := by decide +kernel
theorem dX11_readArguments_9 : decode cX11_readArguments 9 = .ok (.if_icmp .ne 7, 3) := by decide +kernel
theorem dX11_readArguments_12 : decode cX11_readArguments 12 = .ok (.iconst 1, 1) := by decide +kernel
theorem dX11_readArguments_13 : decode cX11_readArguments 13 = .ok (.goto 4, 3) := by decide +kernel
theorem dX11_readArguments_16 : decode cX11_readArguments 16 = .ok (.iconst 0, 1) := by decide +kernel
theorem dX11_readArguments_17 : decode cX11_readArguments 17 = .ok (.istore_n 3, 1) := by decide +kernel
theorem dX11_readArguments_18 : decode cX11_readArguments 18 = .ok (.iload_n 1, 1) := by decide +kernel
theorem dX11_readArguments_19 : decode cX11_readArguments 19 = .ok (.iconst 5, 1) := by decide +kernel
theorem dX11_readArguments_20 : decode cX11_readArguments 20 = .ok (.if_icmp .eq 15, 3) := by decide +kernel
theorem dX11_readArguments_23 : decode cX11_readArguments 23 = .ok (.iload_n 1, 1) := by decide +kernel
theorem dX11_readArguments_24 : decode cX11_readArguments 24 = .ok (.bipush 6, 2) := by decide +kernel
theorem dX11_readArguments_26 : decode cX11_readArguments 26 = .ok (.if_icmp .eq 9, 3) := by decide +kernel
theorem dX11_readArguments_29 : decode cX11_readArguments 29 = .ok (.iload_n 1, 1) := by decide +kernel
theorem dX11_readArguments_30 : decode cX11_readArguments 30 = .ok (.bipush 11, 2) := by decide +kernel
theorem dX11_readArguments_32 : decode cX11_readArguments 32 = .ok (.if_icmp .ne 7, 3) := by decide +kernel
theorem dX11_readArguments_35 : decode cX11_readArguments 35 = .ok (.iconst 1, 1) := by decide +kernel
theorem dX11_readArguments_36 : decode cX11_readArguments 36 = .ok (.goto 4, 3) := by decide +kernel
theorem dX11_readArguments_39 : decode cX11_readArguments 39 = .ok (.iconst 0, 1) := by decide +kernel
theorem dX11_readArguments_40 : decode cX11_readArguments 40 = .ok (.istore 4, 2) := by decide +kernel
theorem dX11_readArguments_42 : decode cX11_readArguments 42 = .ok (.aload_n 0, 1) := by decide +kernel
theorem dX11_readArguments_43 : decode cX11_readArguments 43 = .ok (.getfield 51, 3) := by decide +kernel
theorem dX11_readArguments_46 : decode cX11_readArguments 46 = .ok (.iload_n 2, 1) := by decide +kernel
theorem dX11_readArguments_47 : decode cX11_readArguments 47 = .ok (.iload_n 3, 1) := by decide +kernel
theorem dX11_readArguments_48 : decode cX11_readArguments 48 = .ok (.ifCond .eq 7, 3) := by decide +kernel
theorem dX11_readArguments_51 : decode cX11_readArguments 51 = .ok (.iconst 0, 1) := by decide +kernel
theorem dX11_readArguments_52 : decode cX11_readArguments 52 = .ok (.goto 19, 3) := by decide +kernel
theorem dX11_readArguments_55 : decode cX11_readArguments 55 = .ok (.iload 4, 2) := by decide +kernel
theorem dX11_readArguments_57 : decode cX11_readArguments 57 = .ok (.ifCond .eq 10, 3) := by decide +kernel
theorem dX11_readArguments_60 : decode cX11_readArguments 60 = .ok (.aload_n 0, 1) := by decide +kernel
theorem dX11_readArguments_61 : decode cX11_readArguments 61 = .ok (.invokevirtual 280, 3) := by decide +kernel
theorem dX11_readArguments_64 : decode cX11_readArguments 64 = .ok (.goto 7, 3) := by decide +kernel
theorem dX11_readArguments_67 : decode cX11_readArguments 67 = .ok (.aload_n 0, 1) := by decide +kernel
theorem dX11_readArguments_68 : decode cX11_readArguments 68 = .ok (.invokevirtual 274, 3) := by decide +kernel
theorem dX11_readArguments_71 : decode cX11_readArguments 71 = .ok (.iastore, 1) := by decide +kernel
theorem dX11_readArguments_72 : decode cX11_readArguments 72 = .ok (.iload_n 1, 1) := by decide +kernel
theorem dX11_readArguments_73 : decode cX11_readArguments 73 = .ok (.tableswitch 160 1 9 #[51, 80, 97, 114, 160, 160, 160, 145, 51], 51) := by decide +kernel
theorem dX11_readArguments_124 : decode cX11_readArguments 124 = .ok (.aload_n 0, 1) := by decide +kernel
theorem dX11_readArguments_125 : decode cX11_readArguments 125 = .ok (.getfield 51, 3) := by decide +kernel
theorem dX11_readArguments_128 : decode cX11_readArguments 128 = .ok (.iload_n 2, 1) := by decide +kernel
theorem dX11_readArguments_129 : decode cX11_readArguments 129 = .ok (.iconst 1, 1) := by decide +kernel
theorem dX11_readArguments_130 : decode cX11_readArguments 130 = .ok (.iadd, 1) := by decide +kernel
theorem dX11_readArguments_131 : decode cX11_readArguments 131 = .ok (.aload_n 0, 1) := by decide +kernel
theorem dX11_readArguments_132 : decode cX11_readArguments 132 = .ok (.bipush 32, 2) := by decide +kernel
theorem dX11_readArguments_134 : decode cX11_readArguments 134 = .ok (.invokevirtual 283, 3) := by decide +kernel
theorem dX11_readArguments_137 : decode cX11_readArguments 137 = .ok (.iastore, 1) := by decide +kernel
theorem dX11_readArguments_138 : decode cX11_readArguments 138 = .ok (.aload_n 0, 1) := by decide +kernel
theorem dX11_readArguments_139 : decode cX11_readArguments 139 = .ok (.getfield 51, 3) := by decide +kernel
theorem dX11_readArguments_142 : decode cX11_readArguments 142 = .ok (.iload_n 2, 1) := by decide +kernel
theorem dX11_readArguments_143 : decode cX11_readArguments 143 = .ok (.iconst 2, 1) := by decide +kernel
theorem dX11_readArguments_144 : decode cX11_readArguments 144 = .ok (.iadd, 1) := by decide +kernel
theorem dX11_readArguments_145 : decode cX11_readArguments 145 = .ok (.aload_n 0, 1) := by decide +kernel
theorem dX11_readArguments_146 : decode cX11_readArguments 146 = .ok (.invokevirtual 274, 3) := by decide +kernel
theorem dX11_readArguments_149 : decode cX11_readArguments 149 = .ok (.iastore, 1) := by decide +kernel
theorem dX11_readArguments_150 : decode cX11_readArguments 150 = .ok (.goto 83, 3) := by decide +kernel
theorem dX11_readArguments_153 : decode cX11_readArguments 153 = .ok (.aload_n 0, 1) := by decide +kernel
theorem dX11_readArguments_154 : decode cX11_readArguments 154 = .ok (.getfield 51, 3) := by decide +kernel
theorem dX11_readArguments_157 : decode cX11_readArguments 157 = .ok (.iload_n 2, 1) := by decide +kernel
theorem dX11_readArguments_158 : decode cX11_readArguments 158 = .ok (.iconst 1, 1) := by decide +kernel
theorem dX11_readArguments_159 : decode cX11_readArguments 159 = .ok (.iadd, 1) := by decide +kernel
theorem dX11_readArguments_160 : decode cX11_readArguments 160 = .ok (.aload_n 0, 1) := by decide +kernel
theorem dX11_readArguments_161 : decode cX11_readArguments 161 = .ok (.bipush 61, 2) := by decide +kernel
theorem dX11_readArguments_163 : decode cX11_readArguments 163 = .ok (.invokevirtual 283, 3) := by decide +kernel
theorem dX11_readArguments_166 : decode cX11_readArguments 166 = .ok (.iastore, 1) := by decide +kernel
theorem dX11_readArguments_167 : decode cX11_readArguments 167 = .ok (.goto 66, 3) := by decide +kernel
theorem dX11_readArguments_170 : decode cX11_readArguments 170 = .ok (.aload_n 0, 1) := by decide +kernel
theorem dX11_readArguments_171 : decode cX11_readArguments 171 = .ok (.getfield 51, 3) := by decide +kernel
theorem dX11_readArguments_174 : decode cX11_readArguments 174 = .ok (.iload_n 2, 1) := by decide +kernel
theorem dX11_readArguments_175 : decode cX11_readArguments 175 = .ok (.iconst 1, 1) := by decide +kernel
theorem dX11_readArguments_176 : decode cX11_readArguments 176 = .ok (.iadd, 1) := by decide +kernel
theorem dX11_readArguments_177 : decode cX11_readArguments 177 = .ok (.aload_n 0, 1) := by decide +kernel
theorem dX11_readArguments_178 : decode cX11_readArguments 178 = .ok (.bipush 42, 2) := by decide +kernel
theorem dX11_readArguments_180 : decode cX11_readArguments 180 = .ok (.invokevirtual 286, 3) := by decide +kernel
theorem dX11_readArguments_183 : decode cX11_readArguments 183 = .ok (.iastore, 1) := by decide +kernel
theorem dX11_readArguments_184 : decode cX11_readArguments 184 = .ok (.goto 49, 3) := by decide +kernel
theorem dX11_readArguments_187 : decode cX11_readArguments 187 = .ok (.aload_n 0, 1) := by decide +kernel
theorem dX11_readArguments_188 : decode cX11_readArguments 188 = .ok (.getfield 51, 3) := by decide +kernel
theorem dX11_readArguments_191 : decode cX11_readArguments 191 = .ok (.iload_n 2, 1) := by decide +kernel
theorem dX11_readArguments_192 : decode cX11_readArguments 192 = .ok (.iconst 1, 1) := by decide +kernel
theorem dX11_readArguments_193 : decode cX11_readArguments 193 = .ok (.iadd, 1) := by decide +kernel
theorem dX11_readArguments_194 : decode cX11_readArguments 194 = .ok (.aload_n 0, 1) := by decide +kernel
theorem dX11_readArguments_195 : decode cX11_readArguments 195 = .ok (.bipush 46, 2) := by decide +kernel
theorem dX11_readArguments_197 : decode cX11_readArguments 197 = .ok (.invokevirtual 283, 3) := by decide +kernel
theorem dX11_readArguments_200 : decode cX11_readArguments 200 = .ok (.iastore, 1) := by decide +kernel
theorem dX11_readArguments_201 : decode cX11_readArguments 201 = .ok (.aload_n 0, 1) := by decide +kernel
theorem dX11_readArguments_202 : decode cX11_readArguments 202 = .ok (.getfield 51, 3) := by decide +kernel
theorem dX11_readArguments_205 : decode cX11_readArguments 205 = .ok (.iload_n 2, 1) := by decide +kernel
theorem dX11_readArguments_206 : decode cX11_readArguments 206 = .ok (.iconst 2, 1) := by decide +kernel
theorem dX11_readArguments_207 : decode cX11_readArguments 207 = .ok (.iadd, 1) := by decide +kernel
theorem dX11_readArguments_208 : decode cX11_readArguments 208 = .ok (.aload_n 0, 1) := by decide +kernel
theorem dX11_readArguments_209 : decode cX11_readArguments 209 = .ok (.bipush 43, 2) := by decide +kernel
theorem dX11_readArguments_211 : decode cX11_readArguments 211 = .ok (.invokevirtual 286, 3) := by decide +kernel
theorem dX11_readArguments_214 : decode cX11_readArguments 214 = .ok (.iastore, 1) := by decide +kernel
theorem dX11_readArguments_215 : decode cX11_readArguments 215 = .ok (.goto 18, 3) := by decide +kernel
theorem dX11_readArguments_218 : decode cX11_readArguments 218 = .ok (.aload_n 0, 1) := by decide +kernel
theorem dX11_readArguments_219 : decode cX11_readArguments 219 = .ok (.getfield 51, 3) := by decide +kernel
theorem dX11_readArguments_222 : decode cX11_readArguments 222 = .ok (.iload_n 2, 1) := by decide +kernel
theorem dX11_readArguments_223 : decode cX11_readArguments 223 = .ok (.iconst 1, 1) := by decide +kernel
theorem dX11_readArguments_224 : decode cX11_readArguments 224 = .ok (.iadd, 1) := by decide +kernel
theorem dX11_readArguments_225 : decode cX11_readArguments 225 = .ok (.aload_n 0, 1) := by decide +kernel
theorem dX11_readArguments_226 : decode cX11_readArguments 226 = .ok (.invokevirtual 274, 3) := by decide +kernel
theorem dX11_readArguments_229 : decode cX11_readArguments 229 = .ok (.iastore, 1) := by decide +kernel
theorem dX11_readArguments_230 : decode cX11_readArguments 230 = .ok (.goto 3, 3) := by decide +kernel
theorem dX11_readArguments_233 : decode cX11_readArguments 233 = .ok (.return_, 1) := by decide +kernel
theorem dX11_readCommand_0 : decode cX11_readCommand 0 = .ok (.iconst 4, 1) := by decide +kernel
theorem dX11_readCommand_1 : decode cX11_readCommand 1 = .ok (.aload_n 0, 1) := by decide +kernel
theorem dX11_readCommand_2 : decode cX11_readCommand 2 = .ok (.getfield 289, 3) := by decide +kernel
theorem dX11_readCommand_5 : decode cX11_readCommand 5 = .ok (.imul, 1) := by decide +kernel
theorem dX11_readCommand_6 : decode cX11_readCommand 6 = .ok (.istore_n 1, 1) := by decide +kernel
theorem dX11_readCommand_7 : decode cX11_readCommand 7 = .ok (.iconst 0, 1) := by decide +kernel
theorem dX11_readCommand_8 : decode cX11_readCommand 8 = .ok (.istore_n 2, 1) := by decide +kernel
theorem dX11_readCommand_9 : decode cX11_readCommand 9 = .ok (.iconst 1, 1) := by decide +kernel
theorem dX11_readCommand_10 : decode cX11_readCommand 10 = .ok (.istore_n 3, 1) := by decide +kernel
theorem dX11_readCommand_11 : decode cX11_readCommand 11 = .ok (.iload_n 3, 1) := by decide +kernel
theorem dX11_readCommand_12 : decode cX11_readCommand 12 = .ok (.bipush 12, 2) := by decide +kernel
theorem dX11_readCommand_14 : decode cX11_readCommand 14 = .ok (.if_icmp .ge 28, 3) := by decide +kernel
theorem dX11_readCommand_17 : decode cX11_readCommand 17 = .ok (.aload_n 0, 1) := by decide +kernel
theorem dX11_readCommand_18 : decode cX11_readCommand 18 = .ok (.iload_n 3, 1) := by decide +kernel
theorem dX11_readCommand_19 : decode cX11_readCommand 19 = .ok (.invokevirtual 292, 3) := by decide +kernel
theorem dX11_readCommand_22 : decode cX11_readCommand 22 = .ok (.aload_n 0, 1) := by decide +kernel
theorem dX11_readCommand_23 : decode cX11_readCommand 23 = .ok (.iload_n 2, 1) := by decide +kernel
theorem dX11_readCommand_24 : decode cX11_readCommand 24 = .ok (.invokevirtual 292, 3) := by decide +kernel
theorem dX11_readCommand_27 : decode cX11_readCommand 27 = .ok (.if_icmp .le 7, 3) := by decide +kernel
theorem dX11_readCommand_30 : decode cX11_readCommand 30 = .ok (.iload_n 3, 1) := by decide +kernel
theorem dX11_readCommand_31 : decode cX11_readCommand 31 = .ok (.goto 4, 3) := by decide +kernel
theorem dX11_readCommand_34 : decode cX11_readCommand 34 = .ok (.iload_n 2, 1) := by decide +kernel
theorem dX11_readCommand_35 : decode cX11_readCommand 35 = .ok (.istore_n 2, 1) := by decide +kernel
theorem dX11_readCommand_36 : decode cX11_readCommand 36 = .ok (.iinc 3 1, 3) := by decide +kernel
theorem dX11_readCommand_39 : decode cX11_readCommand 39 = .ok (.goto (-28), 3) := by decide +kernel
theorem dX11_readCommand_42 : decode cX11_readCommand 42 = .ok (.aload_n 0, 1) := by decide +kernel
theorem dX11_readCommand_43 : decode cX11_readCommand 43 = .ok (.iload_n 2, 1) := by decide +kernel
theorem dX11_readCommand_44 : decode cX11_readCommand 44 = .ok (.invokevirtual 292, 3) := by decide +kernel
theorem dX11_readCommand_47 : decode cX11_readCommand 47 = .ok (.istore_n 3, 1) := by decide +kernel
theorem dX11_readCommand_48 : decode cX11_readCommand 48 = .ok (.aload_n 0, 1) := by decide +kernel
theorem dX11_readCommand_49 : decode cX11_readCommand 49 = .ok (.dup, 1) := by decide +kernel
theorem dX11_readCommand_50 : decode cX11_readCommand 50 = .ok (.getfield 259, 3) := by decide +kernel
theorem dX11_readCommand_53 : decode cX11_readCommand 53 = .ok (.iload_n 3, 1) := by decide +kernel
theorem dX11_readCommand_54 : decode cX11_readCommand 54 = .ok (.iadd, 1) := by decide +kernel
theorem dX11_readCommand_55 : decode cX11_readCommand 55 = .ok (.putfield 259, 3) := by decide +kernel
theorem dX11_readCommand_58 : decode cX11_readCommand 58 = .ok (.aload_n 0, 1) := by decide +kernel
theorem dX11_readCommand_59 : decode cX11_readCommand 59 = .ok (.iload_n 3, 1) := by decide +kernel
theorem dX11_readCommand_60 : decode cX11_readCommand 60 = .ok (.aload_n 0, 1) := by decide +kernel
theorem dX11_readCommand_61 : decode cX11_readCommand 61 = .ok (.getfield 48, 3) := by decide +kernel
theorem dX11_readCommand_64 : decode cX11_readCommand 64 = .ok (.iload_n 2, 1) := by decide +kernel
theorem dX11_readCommand_65 : decode cX11_readCommand 65 = .ok (.iconst 1, 1) := by decide +kernel
theorem dX11_readCommand_66 : decode cX11_readCommand 66 = .ok (.iadd, 1) := by decide +kernel
theorem dX11_readCommand_67 : decode cX11_readCommand 67 = .ok (.iaload, 1) := by decide +kernel
theorem dX11_readCommand_68 : decode cX11_readCommand 68 = .ok (.aload_n 0, 1) := by decide +kernel
theorem dX11_readCommand_69 : decode cX11_readCommand 69 = .ok (.getfield 48, 3) := by decide +kernel
theorem dX11_readCommand_72 : decode cX11_readCommand 72 = .ok (.iload_n 2, 1) := by decide +kernel
theorem dX11_readCommand_73 : decode cX11_readCommand 73 = .ok (.iaload, 1) := by decide +kernel
theorem dX11_readCommand_74 : decode cX11_readCommand 74 = .ok (.isub, 1) := by decide +kernel
theorem dX11_readCommand_75 : decode cX11_readCommand 75 = .ok (.if_icmp .ge 7, 3) := by decide +kernel
theorem dX11_readCommand_78 : decode cX11_readCommand 78 = .ok (.iconst 1, 1) := by decide +kernel
theorem dX11_readCommand_79 : decode cX11_readCommand 79 = .ok (.goto 4, 3) := by decide +kernel
theorem dX11_readCommand_82 : decode cX11_readCommand 82 = .ok (.iconst 0, 1) := by decide +kernel
theorem dX11_readCommand_83 : decode cX11_readCommand 83 = .ok (.putfield 265, 3) := by decide +kernel
theorem dX11_readCommand_86 : decode cX11_readCommand 86 = .ok (.aload_n 0, 1) := by decide +kernel
theorem dX11_readCommand_87 : decode cX11_readCommand 87 = .ok (.getfield 265, 3) := by decide +kernel
theorem dX11_readCommand_90 : decode cX11_readCommand 90 = .ok (.ifCond .ne 28, 3) := by decide +kernel
theorem dX11_readCommand_93 : decode cX11_readCommand 93 = .ok (.aload_n 0, 1) := by decide +kernel
theorem dX11_readCommand_94 : decode cX11_readCommand 94 = .ok (.getfield 51, 3) := by decide +kernel
theorem dX11_readCommand_97 : decode cX11_readCommand 97 = .ok (.iload_n 1, 1) := by decide +kernel
theorem dX11_readCommand_98 : decode cX11_readCommand 98 = .ok (.iload_n 2, 1) := by decide +kernel
theorem dX11_readCommand_99 : decode cX11_readCommand 99 = .ok (.iastore, 1) := by decide +kernel
theorem dX11_readCommand_100 : decode cX11_readCommand 100 = .ok (.aload_n 0, 1) := by decide +kernel
theorem dX11_readCommand_101 : decode cX11_readCommand 101 = .ok (.dup, 1) := by decide +kernel
theorem dX11_readCommand_102 : decode cX11_readCommand 102 = .ok (.getfield 289, 3) := by decide +kernel
theorem dX11_readCommand_105 : decode cX11_readCommand 105 = .ok (.iconst 1, 1) := by decide +kernel
theorem dX11_readCommand_106 : decode cX11_readCommand 106 = .ok (.iadd, 1) := by decide +kernel
theorem dX11_readCommand_107 : decode cX11_readCommand 107 = .ok (.putfield 289, 3) := by decide +kernel
theorem dX11_readCommand_110 : decode cX11_readCommand 110 = .ok (.aload_n 0, 1) := by decide +kernel
theorem dX11_readCommand_111 : decode cX11_readCommand 111 = .ok (.iload_n 2, 1) := by decide +kernel
theorem dX11_readCommand_112 : decode cX11_readCommand 112 = .ok (.iload_n 1, 1) := by decide +kernel
theorem dX11_readCommand_113 : decode cX11_readCommand 113 = .ok (.iconst 1, 1) := by decide +kernel
theorem dX11_readCommand_114 : decode cX11_readCommand 114 = .ok (.iadd, 1) := by decide +kernel
theorem dX11_readCommand_115 : decode cX11_readCommand 115 = .ok (.invokevirtual 295, 3) := by decide +kernel
theorem dX11_readCommand_118 : decode cX11_readCommand 118 = .ok (.return_, 1) := by decide +kernel
theorem dX11_does_0 : decode cX11_does 0 = .ok (.aload_n 0, 1) := by decide +kernel
theorem dX11_does_1 : decode cX11_does 1 = .ok (.getfield 51, 3) := by decide +kernel
theorem dX11_does_4 : decode cX11_does 4 = .ok (.iload_n 1, 1) := by decide +kernel
theorem dX11_does_5 : decode cX11_does 5 = .ok (.iconst 1, 1) := by decide +kernel
theorem dX11_does_6 : decode cX11_does 6 = .ok (.iadd, 1) := by decide +kernel
theorem dX11_does_7 : decode cX11_does 7 = .ok (.iaload, 1) := by decide +kernel
theorem dX11_does_8 : decode cX11_does 8 = .ok (.istore_n 2, 1) := by decide +kernel
theorem dX11_does_9 : decode cX11_does 9 = .ok (.aload_n 0, 1) := by decide +kernel
theorem dX11_does_10 : decode cX11_does 10 = .ok (.getfield 51, 3) := by decide +kernel
theorem dX11_does_13 : decode cX11_does 13 = .ok (.iload_n 1, 1) := by decide +kernel
theorem dX11_does_14 : decode cX11_does 14 = .ok (.iconst 2, 1) := by decide +kernel
theorem dX11_does_15 : decode cX11_does 15 = .ok (.iadd, 1) := by decide +kernel
theorem dX11_does_16 : decode cX11_does 16 = .ok (.iaload, 1) := by decide +kernel
theorem dX11_does_17 : decode cX11_does 17 = .ok (.istore_n 3, 1) := by decide +kernel
theorem dX11_does_18 : decode cX11_does 18 = .ok (.aload_n 0, 1) := by decide +kernel
theorem dX11_does_19 : decode cX11_does 19 = .ok (.getfield 51, 3) := by decide +kernel
theorem dX11_does_22 : decode cX11_does 22 = .ok (.iload_n 1, 1) := by decide +kernel
theorem dX11_does_23 : decode cX11_does 23 = .ok (.iconst 3, 1) := by decide +kernel
theorem dX11_does_24 : decode cX11_does 24 = .ok (.iadd, 1) := by decide +kernel
theorem dX11_does_25 : decode cX11_does 25 = .ok (.iaload, 1) := by decide +kernel
theorem dX11_does_26 : decode cX11_does 26 = .ok (.istore 4, 2) := by decide +kernel
theorem dX11_does_28 : decode cX11_does 28 = .ok (.aload_n 0, 1) := by decide +kernel
theorem dX11_does_29 : decode cX11_does 29 = .ok (.getfield 51, 3) := by decide +kernel
theorem dX11_does_32 : decode cX11_does 32 = .ok (.iload_n 1, 1) := by decide +kernel
theorem dX11_does_33 : decode cX11_does 33 = .ok (.iaload, 1) := by decide +kernel
theorem dX11_does_34 : decode cX11_does 34 = .ok (.tableswitch 168 0 10 #[58, 67, 79, 89, 99, 111, 120, 129, 137, 148, 160], 58) := by decide +kernel
theorem dX11_does_92 : decode cX11_does 92 = .ok (.aload_n 0, 1) := by decide +kernel
theorem dX11_does_93 : decode cX11_does 93 = .ok (.iload_n 2, 1) := by decide +kernel
theorem dX11_does_94 : decode cX11_does 94 = .ok (.invokevirtual 131, 3) := by decide +kernel
theorem dX11_does_97 : decode cX11_does 97 = .ok (.pop, 1) := by decide +kernel
theorem dX11_does_98 : decode cX11_does 98 = .ok (.goto 110, 3) := by decide +kernel
theorem dX11_does_101 : decode cX11_does 101 = .ok (.aload_n 0, 1) := by decide +kernel
theorem dX11_does_102 : decode cX11_does 102 = .ok (.iload_n 2, 1) := by decide +kernel
theorem dX11_does_103 : decode cX11_does 103 = .ok (.iload_n 3, 1) := by decide +kernel
theorem dX11_does_104 : decode cX11_does 104 = .ok (.iload 4, 2) := by decide +kernel
theorem dX11_does_106 : decode cX11_does 106 = .ok (.invokevirtual 140, 3) := by decide +kernel
theorem dX11_does_109 : decode cX11_does 109 = .ok (.pop, 1) := by decide +kernel
theorem dX11_does_110 : decode cX11_does 110 = .ok (.goto 98, 3) := by decide +kernel
theorem dX11_does_113 : decode cX11_does 113 = .ok (.aload_n 0, 1) := by decide +kernel
theorem dX11_does_114 : decode cX11_does 114 = .ok (.iload_n 2, 1) := by decide +kernel
theorem dX11_does_115 : decode cX11_does 115 = .ok (.iload_n 3, 1) := by decide +kernel
theorem dX11_does_116 : decode cX11_does 116 = .ok (.invokevirtual 145, 3) := by decide +kernel
theorem dX11_does_119 : decode cX11_does 119 = .ok (.pop, 1) := by decide +kernel
theorem dX11_does_120 : decode cX11_does 120 = .ok (.goto 88, 3) := by decide +kernel
theorem dX11_does_123 : decode cX11_does 123 = .ok (.aload_n 0, 1) := by decide +kernel
theorem dX11_does_124 : decode cX11_does 124 = .ok (.iload_n 2, 1) := by decide +kernel
theorem dX11_does_125 : decode cX11_does 125 = .ok (.iload_n 3, 1) := by decide +kernel
theorem dX11_does_126 : decode cX11_does 126 = .ok (.invokevirtual 150, 3) := by decide +kernel
theorem dX11_does_129 : decode cX11_does 129 = .ok (.pop, 1) := by decide +kernel
theorem dX11_does_130 : decode cX11_does 130 = .ok (.goto 78, 3) := by decide +kernel
theorem dX11_does_133 : decode cX11_does 133 = .ok (.aload_n 0, 1) := by decide +kernel
theorem dX11_does_134 : decode cX11_does 134 = .ok (.iload_n 2, 1) := by decide +kernel
theorem dX11_does_135 : decode cX11_does 135 = .ok (.iload_n 3, 1) := by decide +kernel
theorem dX11_does_136 : decode cX11_does 136 = .ok (.iload 4, 2) := by decide +kernel
theorem dX11_does_138 : decode cX11_does 138 = .ok (.invokevirtual 153, 3) := by decide +kernel
theorem dX11_does_141 : decode cX11_does 141 = .ok (.pop, 1) := by decide +kernel
theorem dX11_does_142 : decode cX11_does 142 = .ok (.goto 66, 3) := by decide +kernel
theorem dX11_does_145 : decode cX11_does 145 = .ok (.aload_n 0, 1) := by decide +kernel
theorem dX11_does_146 : decode cX11_does 146 = .ok (.iload_n 2, 1) := by decide +kernel
theorem dX11_does_147 : decode cX11_does 147 = .ok (.invokevirtual 162, 3) := by decide +kernel
theorem dX11_does_150 : decode cX11_does 150 = .ok (.pop, 1) := by decide +kernel
theorem dX11_does_151 : decode cX11_does 151 = .ok (.goto 57, 3) := by decide +kernel
theorem dX11_does_154 : decode cX11_does 154 = .ok (.aload_n 0, 1) := by decide +kernel
theorem dX11_does_155 : decode cX11_does 155 = .ok (.iload_n 2, 1) := by decide +kernel
theorem dX11_does_156 : decode cX11_does 156 = .ok (.invokevirtual 165, 3) := by decide +kernel
theorem dX11_does_159 : decode cX11_does 159 = .ok (.pop, 1) := by decide +kernel
theorem dX11_does_160 : decode cX11_does 160 = .ok (.goto 48, 3) := by decide +kernel
theorem dX11_does_163 : decode cX11_does 163 = .ok (.aload_n 0, 1) := by decide +kernel
theorem dX11_does_164 : decode cX11_does 164 = .ok (.invokevirtual 168, 3) := by decide +kernel
theorem dX11_does_167 : decode cX11_does 167 = .ok (.pop, 1) := by decide +kernel
theorem dX11_does_168 : decode cX11_does 168 = .ok (.goto 40, 3) := by decide +kernel
theorem dX11_does_171 : decode cX11_does 171 = .ok (.aload_n 0, 1) := by decide +kernel
theorem dX11_does_172 : decode cX11_does 172 = .ok (.iload_n 2, 1) := by decide +kernel
theorem dX11_does_173 : decode cX11_does 173 = .ok (.iload_n 3, 1) := by decide +kernel
theorem dX11_does_174 : decode cX11_does 174 = .ok (.iconst 1, 1) := by decide +kernel
theorem dX11_does_175 : decode cX11_does 175 = .ok (.invokevirtual 173, 3) := by decide +kernel
theorem dX11_does_178 : decode cX11_does 178 = .ok (.pop, 1) := by decide +kernel
theorem dX11_does_179 : decode cX11_does 179 = .ok (.goto 29, 3) := by decide +kernel
theorem dX11_does_182 : decode cX11_does 182 = .ok (.aload_n 0, 1) := by decide +kernel
theorem dX11_does_183 : decode cX11_does 183 = .ok (.iload_n 2, 1) := by decide +kernel
theorem dX11_does_184 : decode cX11_does 184 = .ok (.iload_n 3, 1) := by decide +kernel
theorem dX11_does_185 : decode cX11_does 185 = .ok (.iload 4, 2) := by decide +kernel
theorem dX11_does_187 : decode cX11_does 187 = .ok (.invokevirtual 177, 3) := by decide +kernel
theorem dX11_does_190 : decode cX11_does 190 = .ok (.pop, 1) := by decide +kernel
theorem dX11_does_191 : decode cX11_does 191 = .ok (.goto 17, 3) := by decide +kernel
theorem dX11_does_194 : decode cX11_does 194 = .ok (.aload_n 0, 1) := by decide +kernel
theorem dX11_does_195 : decode cX11_does 195 = .ok (.invokevirtual 187, 3) := by decide +kernel
theorem dX11_does_198 : decode cX11_does 198 = .ok (.pop, 1) := by decide +kernel
theorem dX11_does_199 : decode cX11_does 199 = .ok (.goto 9, 3) := by decide +kernel
theorem dX11_does_202 : decode cX11_does 202 = .ok (.aload_n 0, 1) := by decide +kernel
theorem dX11_does_203 : decode cX11_does 203 = .ok (.iload_n 2, 1) := by decide +kernel
theorem dX11_does_204 : decode cX11_does 204 = .ok (.invokevirtual 192, 3) := by decide +kernel
theorem dX11_does_207 : decode cX11_does 207 = .ok (.pop, 1) := by decide +kernel
theorem dX11_does_208 : decode cX11_does 208 = .ok (.return_, 1) := by decide +kernel
theorem dX11_execute_0 : decode cX11_execute 0 = .ok (.aload_n 0, 1) := by decide +kernel
theorem dX11_execute_1 : decode cX11_execute 1 = .ok (.invokevirtual 128, 3) := by decide +kernel
theorem dX11_execute_4 : decode cX11_execute 4 = .ok (.aload_n 0, 1) := by decide +kernel
theorem dX11_execute_5 : decode cX11_execute 5 = .ok (.aload_n 0, 1) := by decide +kernel
theorem dX11_execute_6 : decode cX11_execute 6 = .ok (.getfield 256, 3) := by decide +kernel
theorem dX11_execute_9 : decode cX11_execute 9 = .ok (.putfield 262, 3) := by decide +kernel
theorem dX11_execute_12 : decode cX11_execute 12 = .ok (.aload_n 0, 1) := by decide +kernel
theorem dX11_execute_13 : decode cX11_execute 13 = .ok (.iconst 0, 1) := by decide +kernel
theorem dX11_execute_14 : decode cX11_execute 14 = .ok (.putfield 256, 3) := by decide +kernel
theorem dX11_execute_17 : decode cX11_execute 17 = .ok (.aload_n 0, 1) := by decide +kernel
theorem dX11_execute_18 : decode cX11_execute 18 = .ok (.iconst 0, 1) := by decide +kernel
theorem dX11_execute_19 : decode cX11_execute 19 = .ok (.putfield 259, 3) := by decide +kernel
theorem dX11_execute_22 : decode cX11_execute 22 = .ok (.aload_n 0, 1) := by decide +kernel
theorem dX11_execute_23 : decode cX11_execute 23 = .ok (.iconst 0, 1) := by decide +kernel
theorem dX11_execute_24 : decode cX11_execute 24 = .ok (.putfield 289, 3) := by decide +kernel
theorem dX11_execute_27 : decode cX11_execute 27 = .ok (.aload_n 0, 1) := by decide +kernel
theorem dX11_execute_28 : decode cX11_execute 28 = .ok (.iconst 0, 1) := by decide +kernel
theorem dX11_execute_29 : decode cX11_execute 29 = .ok (.putfield 265, 3) := by decide +kernel
theorem dX11_execute_32 : decode cX11_execute 32 = .ok (.iconst 1, 1) := by decide +kernel
theorem dX11_execute_33 : decode cX11_execute 33 = .ok (.istore_n 1, 1) := by decide +kernel
theorem dX11_execute_34 : decode cX11_execute 34 = .ok (.iload_n 1, 1) := by decide +kernel
theorem dX11_execute_35 : decode cX11_execute 35 = .ok (.ifCond .eq 57, 3) := by decide +kernel
theorem dX11_execute_38 : decode cX11_execute 38 = .ok (.aload_n 0, 1) := by decide +kernel
theorem dX11_execute_39 : decode cX11_execute 39 = .ok (.invokevirtual 298, 3) := by decide +kernel
theorem dX11_execute_42 : decode cX11_execute 42 = .ok (.aload_n 0, 1) := by decide +kernel
theorem dX11_execute_43 : decode cX11_execute 43 = .ok (.getfield 265, 3) := by decide +kernel
theorem dX11_execute_46 : decode cX11_execute 46 = .ok (.ifCond .ne 18, 3) := by decide +kernel
theorem dX11_execute_49 : decode cX11_execute 49 = .ok (.aload_n 0, 1) := by decide +kernel
theorem dX11_execute_50 : decode cX11_execute 50 = .ok (.getfield 259, 3) := by decide +kernel
theorem dX11_execute_53 : decode cX11_execute 53 = .ok (.aload_n 0, 1) := by decide +kernel
theorem dX11_execute_54 : decode cX11_execute 54 = .ok (.getfield 262, 3) := by decide +kernel
theorem dX11_execute_57 : decode cX11_execute 57 = .ok (.if_icmp .ge 7, 3) := by decide +kernel
theorem dX11_execute_60 : decode cX11_execute 60 = .ok (.iconst 1, 1) := by decide +kernel
theorem dX11_execute_61 : decode cX11_execute 61 = .ok (.goto 4, 3) := by decide +kernel
theorem dX11_execute_64 : decode cX11_execute 64 = .ok (.iconst 0, 1) := by decide +kernel
theorem dX11_execute_65 : decode cX11_execute 65 = .ok (.istore_n 1, 1) := by decide +kernel
theorem dX11_execute_66 : decode cX11_execute 66 = .ok (.iload_n 1, 1) := by decide +kernel
theorem dX11_execute_67 : decode cX11_execute 67 = .ok (.ifCond .eq (-33), 3) := by decide +kernel
theorem dX11_execute_70 : decode cX11_execute 70 = .ok (.aload_n 0, 1) := by decide +kernel
theorem dX11_execute_71 : decode cX11_execute 71 = .ok (.bipush 59, 2) := by decide +kernel
theorem dX11_execute_73 : decode cX11_execute 73 = .ok (.invokevirtual 277, 3) := by decide +kernel
theorem dX11_execute_76 : decode cX11_execute 76 = .ok (.aload_n 0, 1) := by decide +kernel
theorem dX11_execute_77 : decode cX11_execute 77 = .ok (.getfield 265, 3) := by decide +kernel
theorem dX11_execute_80 : decode cX11_execute 80 = .ok (.ifCond .ne 7, 3) := by decide +kernel
theorem dX11_execute_83 : decode cX11_execute 83 = .ok (.iconst 1, 1) := by decide +kernel
theorem dX11_execute_84 : decode cX11_execute 84 = .ok (.goto 4, 3) := by decide +kernel
theorem dX11_execute_87 : decode cX11_execute 87 = .ok (.iconst 0, 1) := by decide +kernel
theorem dX11_execute_88 : decode cX11_execute 88 = .ok (.istore_n 1, 1) := by decide +kernel
theorem dX11_execute_89 : decode cX11_execute 89 = .ok (.goto (-55), 3) := by decide +kernel
theorem dX11_execute_92 : decode cX11_execute 92 = .ok (.aload_n 0, 1) := by decide +kernel
theorem dX11_execute_93 : decode cX11_execute 93 = .ok (.getfield 265, 3) := by decide +kernel
theorem dX11_execute_96 : decode cX11_execute 96 = .ok (.ifCond .eq 17, 3) := by decide +kernel
theorem dX11_execute_99 : decode cX11_execute 99 = .ok (.aload_n 0, 1) := by decide +kernel
theorem dX11_execute_100 : decode cX11_execute 100 = .ok (.aload_n 0, 1) := by decide +kernel
theorem dX11_execute_101 : decode cX11_execute 101 = .ok (.getfield 259, 3) := by decide +kernel
theorem dX11_execute_104 : decode cX11_execute 104 = .ok (.putfield 22, 3) := by decide +kernel
theorem dX11_execute_107 : decode cX11_execute 107 = .ok (.aload_n 0, 1) := by decide +kernel
theorem dX11_execute_108 : decode cX11_execute 108 = .ok (.iconst 1, 1) := by decide +kernel
theorem dX11_execute_109 : decode cX11_execute 109 = .ok (.invokevirtual 125, 3) := by decide +kernel
theorem dX11_execute_112 : decode cX11_execute 112 = .ok (.ireturn, 1) := by decide +kernel
theorem dX11_execute_113 : decode cX11_execute 113 = .ok (.iconst 0, 1) := by decide +kernel
theorem dX11_execute_114 : decode cX11_execute 114 = .ok (.istore_n 2, 1) := by decide +kernel
theorem dX11_execute_115 : decode cX11_execute 115 = .ok (.iload_n 2, 1) := by decide +kernel
theorem dX11_execute_116 : decode cX11_execute 116 = .ok (.aload_n 0, 1) := by decide +kernel
theorem dX11_execute_117 : decode cX11_execute 117 = .ok (.getfield 289, 3) := by decide +kernel
theorem dX11_execute_120 : decode cX11_execute 120 = .ok (.if_icmp .ge 61, 3) := by decide +kernel
theorem dX11_execute_123 : decode cX11_execute 123 = .ok (.aload_n 0, 1) := by decide +kernel
theorem dX11_execute_124 : decode cX11_execute 124 = .ok (.iconst 4, 1) := by decide +kernel
theorem dX11_execute_125 : decode cX11_execute 125 = .ok (.iload_n 2, 1) := by decide +kernel
theorem dX11_execute_126 : decode cX11_execute 126 = .ok (.imul, 1) := by decide +kernel
theorem dX11_execute_127 : decode cX11_execute 127 = .ok (.invokevirtual 301, 3) := by decide +kernel
theorem dX11_execute_130 : decode cX11_execute 130 = .ok (.aload_n 0, 1) := by decide +kernel
theorem dX11_execute_131 : decode cX11_execute 131 = .ok (.getfield 57, 3) := by decide +kernel
theorem dX11_execute_134 : decode cX11_execute 134 = .ok (.ifCond .le 41, 3) := by decide +kernel
theorem dX11_execute_137 : decode cX11_execute 137 = .ok (.iconst 0, 1) := by decide +kernel
theorem dX11_execute_138 : decode cX11_execute 138 = .ok (.istore_n 3, 1) := by decide +kernel
theorem dX11_execute_139 : decode cX11_execute 139 = .ok (.iload_n 3, 1) := by decide +kernel
theorem dX11_execute_140 : decode cX11_execute 140 = .ok (.sipush 269, 3) := by decide +kernel
theorem dX11_execute_143 : decode cX11_execute 143 = .ok (.if_icmp .ge 21, 3) := by decide +kernel
theorem dX11_execute_146 : decode cX11_execute 146 = .ok (.aload_n 0, 1) := by decide +kernel
theorem dX11_execute_147 : decode cX11_execute 147 = .ok (.getfield 9, 3) := by decide +kernel
theorem dX11_execute_150 : decode cX11_execute 150 = .ok (.iload_n 3, 1) := by decide +kernel
theorem dX11_execute_151 : decode cX11_execute 151 = .ok (.aload_n 0, 1) := by decide +kernel
theorem dX11_execute_152 : decode cX11_execute 152 = .ok (.getfield 13, 3) := by decide +kernel
theorem dX11_execute_155 : decode cX11_execute 155 = .ok (.iload_n 3, 1) := by decide +kernel
theorem dX11_execute_156 : decode cX11_execute 156 = .ok (.iaload, 1) := by decide +kernel
theorem dX11_execute_157 : decode cX11_execute 157 = .ok (.iastore, 1) := by decide +kernel
theorem dX11_execute_158 : decode cX11_execute 158 = .ok (.iinc 3 1, 3) := by decide +kernel
theorem dX11_execute_161 : decode cX11_execute 161 = .ok (.goto (-22), 3) := by decide +kernel
theorem dX11_execute_164 : decode cX11_execute 164 = .ok (.aload_n 0, 1) := by decide +kernel
theorem dX11_execute_165 : decode cX11_execute 165 = .ok (.iload_n 2, 1) := by decide +kernel
theorem dX11_execute_166 : decode cX11_execute 166 = .ok (.putfield 26, 3) := by decide +kernel
theorem dX11_execute_169 : decode cX11_execute 169 = .ok (.aload_n 0, 1) := by decide +kernel
theorem dX11_execute_170 : decode cX11_execute 170 = .ok (.iconst 2, 1) := by decide +kernel
theorem dX11_execute_171 : decode cX11_execute 171 = .ok (.invokevirtual 125, 3) := by decide +kernel
theorem dX11_execute_174 : decode cX11_execute 174 = .ok (.ireturn, 1) := by decide +kernel
theorem dX11_execute_175 : decode cX11_execute 175 = .ok (.iinc 2 1, 3) := by decide +kernel
theorem dX11_execute_178 : decode cX11_execute 178 = .ok (.goto (-63), 3) := by decide +kernel
theorem dX11_execute_181 : decode cX11_execute 181 = .ok (.aload_n 0, 1) := by decide +kernel
theorem dX11_execute_182 : decode cX11_execute 182 = .ok (.aload_n 0, 1) := by decide +kernel
theorem dX11_execute_183 : decode cX11_execute 183 = .ok (.getfield 289, 3) := by decide +kernel
theorem dX11_execute_186 : decode cX11_execute 186 = .ok (.invokevirtual 134, 3) := by decide +kernel
theorem dX11_execute_189 : decode cX11_execute 189 = .ok (.ireturn, 1) := by decide +kernel
theorem dX11_errorPosition_0 : decode cX11_errorPosition 0 = .ok (.aload_n 0, 1) := by decide +kernel
theorem dX11_errorPosition_1 : decode cX11_errorPosition 1 = .ok (.iconst 0, 1) := by decide +kernel
theorem dX11_errorPosition_2 : decode cX11_errorPosition 2 = .ok (.putfield 57, 3) := by decide +kernel
theorem dX11_errorPosition_5 : decode cX11_errorPosition 5 = .ok (.aload_n 0, 1) := by decide +kernel
theorem dX11_errorPosition_6 : decode cX11_errorPosition 6 = .ok (.getfield 22, 3) := by decide +kernel
theorem dX11_errorPosition_9 : decode cX11_errorPosition 9 = .ok (.iconst (-1), 1) := by decide +kernel
theorem dX11_errorPosition_10 : decode cX11_errorPosition 10 = .ok (.if_icmp .ne 11, 3) := by decide +kernel
theorem dX11_errorPosition_13 : decode cX11_errorPosition 13 = .ok (.aload_n 0, 1) := by decide +kernel
theorem dX11_errorPosition_14 : decode cX11_errorPosition 14 = .ok (.iconst 1, 1) := by decide +kernel
theorem dX11_errorPosition_15 : decode cX11_errorPosition 15 = .ok (.invokevirtual 125, 3) := by decide +kernel
theorem dX11_errorPosition_18 : decode cX11_errorPosition 18 = .ok (.goto 7, 3) := by decide +kernel
theorem dX11_errorPosition_21 : decode cX11_errorPosition 21 = .ok (.aload_n 0, 1) := by decide +kernel
theorem dX11_errorPosition_22 : decode cX11_errorPosition 22 = .ok (.getfield 22, 3) := by decide +kernel
theorem dX11_errorPosition_25 : decode cX11_errorPosition 25 = .ok (.ireturn, 1) := by decide +kernel
theorem dX11_failedCommand_0 : decode cX11_failedCommand 0 = .ok (.aload_n 0, 1) := by decide +kernel
theorem dX11_failedCommand_1 : decode cX11_failedCommand 1 = .ok (.iconst 0, 1) := by decide +kernel
theorem dX11_failedCommand_2 : decode cX11_failedCommand 2 = .ok (.putfield 57, 3) := by decide +kernel
theorem dX11_failedCommand_5 : decode cX11_failedCommand 5 = .ok (.aload_n 0, 1) := by decide +kernel
theorem dX11_failedCommand_6 : decode cX11_failedCommand 6 = .ok (.getfield 26, 3) := by decide +kernel
theorem dX11_failedCommand_9 : decode cX11_failedCommand 9 = .ok (.iconst (-1), 1) := by decide +kernel
theorem dX11_failedCommand_10 : decode cX11_failedCommand 10 = .ok (.if_icmp .ne 11, 3) := by decide +kernel
theorem dX11_failedCommand_13 : decode cX11_failedCommand 13 = .ok (.aload_n 0, 1) := by decide +kernel
theorem dX11_failedCommand_14 : decode cX11_failedCommand 14 = .ok (.iconst 1, 1) := by decide +kernel
theorem dX11_failedCommand_15 : decode cX11_failedCommand 15 = .ok (.invokevirtual 125, 3) := by decide +kernel
theorem dX11_failedCommand_18 : decode cX11_failedCommand 18 = .ok (.goto 7, 3) := by decide +kernel
theorem dX11_failedCommand_21 : decode cX11_failedCommand 21 = .ok (.aload_n 0, 1) := by decide +kernel
theorem dX11_failedCommand_22 : decode cX11_failedCommand 22 = .ok (.getfield 26, 3) := by decide +kernel
theorem dX11_failedCommand_25 : decode cX11_failedCommand 25 = .ok (.ireturn, 1) := by decide +kernel
theorem dX11_sign_0 : decode cX11_sign 0 = .ok (.aload_n 0, 1) := by decide +kernel
theorem dX11_sign_1 : decode cX11_sign 1 = .ok (.getfield 54, 3) := by decide +kernel
theorem dX11_sign_4 : decode cX11_sign 4 = .ok (.aload_n 0, 1) := by decide +kernel
theorem dX11_sign_5 : decode cX11_sign 5 = .ok (.getfield 304, 3) := by decide +kernel
theorem dX11_sign_8 : decode cX11_sign 8 = .ok (.iload_n 1, 1) := by decide +kernel
theorem dX11_sign_9 : decode cX11_sign 9 = .ok (.iastore, 1) := by decide +kernel
theorem dX11_sign_10 : decode cX11_sign 10 = .ok (.aload_n 0, 1) := by decide +kernel
theorem dX11_sign_11 : decode cX11_sign 11 = .ok (.dup, 1) := by decide +kernel
theorem dX11_sign_12 : decode cX11_sign 12 = .ok (.getfield 304, 3) := by decide +kernel
theorem dX11_sign_15 : decode cX11_sign 15 = .ok (.iconst 1, 1) := by decide +kernel
theorem dX11_sign_16 : decode cX11_sign 16 = .ok (.iadd, 1) := by decide +kernel
theorem dX11_sign_17 : decode cX11_sign 17 = .ok (.putfield 304, 3) := by decide +kernel
theorem dX11_sign_20 : decode cX11_sign 20 = .ok (.return_, 1) := by decide +kernel
theorem dX11_describeEngine_0 : decode cX11_describeEngine 0 = .ok (.aload_n 0, 1) := by decide +kernel
theorem dX11_describeEngine_1 : decode cX11_describeEngine 1 = .ok (.iconst 0, 1) := by decide +kernel
theorem dX11_describeEngine_2 : decode cX11_describeEngine 2 = .ok (.putfield 57, 3) := by decide +kernel
theorem dX11_describeEngine_5 : decode cX11_describeEngine 5 = .ok (.aload_n 0, 1) := by decide +kernel
theorem dX11_describeEngine_6 : decode cX11_describeEngine 6 = .ok (.iload_n 1, 1) := by decide +kernel
theorem dX11_describeEngine_7 : decode cX11_describeEngine 7 = .ok (.invokevirtual 71, 3) := by decide +kernel
theorem dX11_describeEngine_10 : decode cX11_describeEngine 10 = .ok (.ifCond .ne 9, 3) := by decide +kernel
theorem dX11_describeEngine_13 : decode cX11_describeEngine 13 = .ok (.aload_n 0, 1) := by decide +kernel
theorem dX11_describeEngine_14 : decode cX11_describeEngine 14 = .ok (.iconst 1, 1) := by decide +kernel
theorem dX11_describeEngine_15 : decode cX11_describeEngine 15 = .ok (.invokevirtual 125, 3) := by decide +kernel
theorem dX11_describeEngine_18 : decode cX11_describeEngine 18 = .ok (.ireturn, 1) := by decide +kernel
theorem dX11_describeEngine_19 : decode cX11_describeEngine 19 = .ok (.iload_n 1, 1) := by decide +kernel
theorem dX11_describeEngine_20 : decode cX11_describeEngine 20 = .ok (.invokestatic 67, 3) := by decide +kernel
theorem dX11_describeEngine_23 : decode cX11_describeEngine 23 = .ok (.istore_n 2, 1) := by decide +kernel
theorem dX11_describeEngine_24 : decode cX11_describeEngine 24 = .ok (.aload_n 0, 1) := by decide +kernel
theorem dX11_describeEngine_25 : decode cX11_describeEngine 25 = .ok (.iconst 0, 1) := by decide +kernel
theorem dX11_describeEngine_26 : decode cX11_describeEngine 26 = .ok (.putfield 304, 3) := by decide +kernel
theorem dX11_describeEngine_29 : decode cX11_describeEngine 29 = .ok (.aload_n 0, 1) := by decide +kernel
theorem dX11_describeEngine_30 : decode cX11_describeEngine 30 = .ok (.bipush 48, 2) := by decide +kernel
theorem dX11_describeEngine_32 : decode cX11_describeEngine 32 = .ok (.iload_n 1, 1) := by decide +kernel
theorem dX11_describeEngine_33 : decode cX11_describeEngine 33 = .ok (.iadd, 1) := by decide +kernel
theorem dX11_describeEngine_34 : decode cX11_describeEngine 34 = .ok (.invokevirtual 307, 3) := by decide +kernel
theorem dX11_describeEngine_37 : decode cX11_describeEngine 37 = .ok (.aload_n 0, 1) := by decide +kernel
theorem dX11_describeEngine_38 : decode cX11_describeEngine 38 = .ok (.bipush 58, 2) := by decide +kernel
theorem dX11_describeEngine_40 : decode cX11_describeEngine 40 = .ok (.invokevirtual 307, 3) := by decide +kernel
theorem dX11_describeEngine_43 : decode cX11_describeEngine 43 = .ok (.iconst 0, 1) := by decide +kernel
theorem dX11_describeEngine_44 : decode cX11_describeEngine 44 = .ok (.istore_n 3, 1) := by decide +kernel
theorem dX11_describeEngine_45 : decode cX11_describeEngine 45 = .ok (.iload_n 3, 1) := by decide +kernel
theorem dX11_describeEngine_46 : decode cX11_describeEngine 46 = .ok (.aload_n 0, 1) := by decide +kernel
theorem dX11_describeEngine_47 : decode cX11_describeEngine 47 = .ok (.iload_n 1, 1) := by decide +kernel
theorem dX11_describeEngine_48 : decode cX11_describeEngine 48 = .ok (.invokevirtual 75, 3) := by decide +kernel
theorem dX11_describeEngine_51 : decode cX11_describeEngine 51 = .ok (.if_icmp .ge 65, 3) := by decide +kernel
theorem dX11_describeEngine_54 : decode cX11_describeEngine 54 = .ok (.iload_n 3, 1) := by decide +kernel
theorem dX11_describeEngine_55 : decode cX11_describeEngine 55 = .ok (.aload_n 0, 1) := by decide +kernel
theorem dX11_describeEngine_56 : decode cX11_describeEngine 56 = .ok (.getfield 9, 3) := by decide +kernel
theorem dX11_describeEngine_59 : decode cX11_describeEngine 59 = .ok (.iload_n 2, 1) := by decide +kernel
theorem dX11_describeEngine_60 : decode cX11_describeEngine 60 = .ok (.iconst 1, 1) := by decide +kernel
theorem dX11_describeEngine_61 : decode cX11_describeEngine 61 = .ok (.iadd, 1) := by decide +kernel
theorem dX11_describeEngine_62 : decode cX11_describeEngine 62 = .ok (.iaload, 1) := by decide +kernel
theorem dX11_describeEngine_63 : decode cX11_describeEngine 63 = .ok (.if_icmp .ne 9, 3) := by decide +kernel
theorem dX11_describeEngine_66 : decode cX11_describeEngine 66 = .ok (.aload_n 0, 1) := by decide +kernel
theorem dX11_describeEngine_67 : decode cX11_describeEngine 67 = .ok (.bipush 42, 2) := by decide +kernel
theorem dX11_describeEngine_69 : decode cX11_describeEngine 69 = .ok (.invokevirtual 307, 3) := by decide +kernel
theorem dX11_describeEngine_72 : decode cX11_describeEngine 72 = .ok (.aload_n 0, 1) := by decide +kernel
theorem dX11_describeEngine_73 : decode cX11_describeEngine 73 = .ok (.bipush 48, 2) := by decide +kernel
theorem dX11_describeEngine_75 : decode cX11_describeEngine 75 = .ok (.aload_n 0, 1) := by decide +kernel
theorem dX11_describeEngine_76 : decode cX11_describeEngine 76 = .ok (.iload_n 1, 1) := by decide +kernel
theorem dX11_describeEngine_77 : decode cX11_describeEngine 77 = .ok (.iload_n 3, 1) := by decide +kernel
theorem dX11_describeEngine_78 : decode cX11_describeEngine 78 = .ok (.invokevirtual 81, 3) := by decide +kernel
theorem dX11_describeEngine_81 : decode cX11_describeEngine 81 = .ok (.iadd, 1) := by decide +kernel
theorem dX11_describeEngine_82 : decode cX11_describeEngine 82 = .ok (.invokevirtual 307, 3) := by decide +kernel
theorem dX11_describeEngine_85 : decode cX11_describeEngine 85 = .ok (.aload_n 0, 1) := by decide +kernel
theorem dX11_describeEngine_86 : decode cX11_describeEngine 86 = .ok (.getfield 9, 3) := by decide +kernel
theorem dX11_describeEngine_89 : decode cX11_describeEngine 89 = .ok (.iload_n 2, 1) := by decide +kernel
theorem dX11_describeEngine_90 : decode cX11_describeEngine 90 = .ok (.bipush 12, 2) := by decide +kernel
theorem dX11_describeEngine_92 : decode cX11_describeEngine 92 = .ok (.iadd, 1) := by decide +kernel
theorem dX11_describeEngine_93 : decode cX11_describeEngine 93 = .ok (.aload_n 0, 1) := by decide +kernel
theorem dX11_describeEngine_94 : decode cX11_describeEngine 94 = .ok (.iload_n 1, 1) := by decide +kernel
theorem dX11_describeEngine_95 : decode cX11_describeEngine 95 = .ok (.iload_n 3, 1) := by decide +kernel
theorem dX11_describeEngine_96 : decode cX11_describeEngine 96 = .ok (.invokevirtual 81, 3) := by decide +kernel
theorem dX11_describeEngine_99 : decode cX11_describeEngine 99 = .ok (.iadd, 1) := by decide +kernel
theorem dX11_describeEngine_100 : decode cX11_describeEngine 100 = .ok (.iaload, 1) := by decide +kernel
theorem dX11_describeEngine_101 : decode cX11_describeEngine 101 = .ok (.ifCond .ne 9, 3) := by decide +kernel
theorem dX11_describeEngine_104 : decode cX11_describeEngine 104 = .ok (.aload_n 0, 1) := by decide +kernel
theorem dX11_describeEngine_105 : decode cX11_describeEngine 105 = .ok (.bipush 33, 2) := by decide +kernel
theorem dX11_describeEngine_107 : decode cX11_describeEngine 107 = .ok (.invokevirtual 307, 3) := by decide +kernel
theorem dX11_describeEngine_110 : decode cX11_describeEngine 110 = .ok (.iinc 3 1, 3) := by decide +kernel
theorem dX11_describeEngine_113 : decode cX11_describeEngine 113 = .ok (.goto (-68), 3) := by decide +kernel
theorem dX11_describeEngine_116 : decode cX11_describeEngine 116 = .ok (.aload_n 0, 1) := by decide +kernel
theorem dX11_describeEngine_117 : decode cX11_describeEngine 117 = .ok (.getfield 304, 3) := by decide +kernel
theorem dX11_describeEngine_120 : decode cX11_describeEngine 120 = .ok (.ireturn, 1) := by decide +kernel
theorem dX11_describeRota_0 : decode cX11_describeRota 0 = .ok (.aload_n 0, 1) := by decide +kernel
theorem dX11_describeRota_1 : decode cX11_describeRota 1 = .ok (.iconst 0, 1) := by decide +kernel
theorem dX11_describeRota_2 : decode cX11_describeRota 2 = .ok (.putfield 57, 3) := by decide +kernel
theorem dX11_describeRota_5 : decode cX11_describeRota 5 = .ok (.aload_n 0, 1) := by decide +kernel
theorem dX11_describeRota_6 : decode cX11_describeRota 6 = .ok (.invokevirtual 240, 3) := by decide +kernel
theorem dX11_describeRota_9 : decode cX11_describeRota 9 = .ok (.pop, 1) := by decide +kernel
theorem dX11_describeRota_10 : decode cX11_describeRota 10 = .ok (.aload_n 0, 1) := by decide +kernel
theorem dX11_describeRota_11 : decode cX11_describeRota 11 = .ok (.iconst 0, 1) := by decide +kernel
theorem dX11_describeRota_12 : decode cX11_describeRota 12 = .ok (.putfield 304, 3) := by decide +kernel
theorem dX11_describeRota_15 : decode cX11_describeRota 15 = .ok (.iconst 0, 1) := by decide +kernel
theorem dX11_describeRota_16 : decode cX11_describeRota 16 = .ok (.istore_n 1, 1) := by decide +kernel
theorem dX11_describeRota_17 : decode cX11_describeRota 17 = .ok (.iload_n 1, 1) := by decide +kernel
theorem dX11_describeRota_18 : decode cX11_describeRota 18 = .ok (.bipush 8, 2) := by decide +kernel
theorem dX11_describeRota_20 : decode cX11_describeRota 20 = .ok (.if_icmp .ge 37, 3) := by decide +kernel
theorem dX11_describeRota_23 : decode cX11_describeRota 23 = .ok (.aload_n 0, 1) := by decide +kernel
theorem dX11_describeRota_24 : decode cX11_describeRota 24 = .ok (.aload_n 0, 1) := by decide +kernel
theorem dX11_describeRota_25 : decode cX11_describeRota 25 = .ok (.getfield 38, 3) := by decide +kernel
theorem dX11_describeRota_28 : decode cX11_describeRota 28 = .ok (.iload_n 1, 1) := by decide +kernel
theorem dX11_describeRota_29 : decode cX11_describeRota 29 = .ok (.iaload, 1) := by decide +kernel
theorem dX11_describeRota_30 : decode cX11_describeRota 30 = .ok (.iconst (-1), 1) := by decide +kernel
theorem dX11_describeRota_31 : decode cX11_describeRota 31 = .ok (.if_icmp .ne 8, 3) := by decide +kernel
theorem dX11_describeRota_34 : decode cX11_describeRota 34 = .ok (.bipush 45, 2) := by decide +kernel
theorem dX11_describeRota_36 : decode cX11_describeRota 36 = .ok (.goto 12, 3) := by decide +kernel
theorem dX11_describeRota_39 : decode cX11_describeRota 39 = .ok (.bipush 48, 2) := by decide +kernel
theorem dX11_describeRota_41 : decode cX11_describeRota 41 = .ok (.aload_n 0, 1) := by decide +kernel
theorem dX11_describeRota_42 : decode cX11_describeRota 42 = .ok (.getfield 38, 3) := by decide +kernel
theorem dX11_describeRota_45 : decode cX11_describeRota 45 = .ok (.iload_n 1, 1) := by decide +kernel
theorem dX11_describeRota_46 : decode cX11_describeRota 46 = .ok (.iaload, 1) := by decide +kernel
theorem dX11_describeRota_47 : decode cX11_describeRota 47 = .ok (.iadd, 1) := by decide +kernel
theorem dX11_describeRota_48 : decode cX11_describeRota 48 = .ok (.invokevirtual 307, 3) := by decide +kernel
theorem dX11_describeRota_51 : decode cX11_describeRota 51 = .ok (.iinc 1 1, 3) := by decide +kernel
theorem dX11_describeRota_54 : decode cX11_describeRota 54 = .ok (.goto (-37), 3) := by decide +kernel
theorem dX11_describeRota_57 : decode cX11_describeRota 57 = .ok (.aload_n 0, 1) := by decide +kernel
theorem dX11_describeRota_58 : decode cX11_describeRota 58 = .ok (.getfield 304, 3) := by decide +kernel
theorem dX11_describeRota_61 : decode cX11_describeRota 61 = .ok (.ireturn, 1) := by decide +kernel
theorem dX11_lineAt_0 : decode cX11_lineAt 0 = .ok (.aload_n 0, 1) := by decide +kernel
theorem dX11_lineAt_1 : decode cX11_lineAt 1 = .ok (.iconst 0, 1) := by decide +kernel
theorem dX11_lineAt_2 : decode cX11_lineAt 2 = .ok (.putfield 57, 3) := by decide +kernel
theorem dX11_lineAt_5 : decode cX11_lineAt 5 = .ok (.iload_n 1, 1) := by decide +kernel
theorem dX11_lineAt_6 : decode cX11_lineAt 6 = .ok (.i2l, 1) := by decide +kernel
theorem dX11_lineAt_7 : decode cX11_lineAt 7 = .ok (.lconst 0, 1) := by decide +kernel
theorem dX11_lineAt_8 : decode cX11_lineAt 8 = .ok (.aload_n 0, 1) := by decide +kernel
theorem dX11_lineAt_9 : decode cX11_lineAt 9 = .ok (.getfield 304, 3) := by decide +kernel
theorem dX11_lineAt_12 : decode cX11_lineAt 12 = .ok (.iconst 1, 1) := by decide +kernel
theorem dX11_lineAt_13 : decode cX11_lineAt 13 = .ok (.isub, 1) := by decide +kernel
theorem dX11_lineAt_14 : decode cX11_lineAt 14 = .ok (.i2l, 1) := by decide +kernel
theorem dX11_lineAt_15 : decode cX11_lineAt 15 = .ok (.invokestatic 63, 3) := by decide +kernel
theorem dX11_lineAt_18 : decode cX11_lineAt 18 = .ok (.ifCond .eq 13, 3) := by decide +kernel
theorem dX11_lineAt_21 : decode cX11_lineAt 21 = .ok (.aload_n 0, 1) := by decide +kernel
theorem dX11_lineAt_22 : decode cX11_lineAt 22 = .ok (.getfield 54, 3) := by decide +kernel
theorem dX11_lineAt_25 : decode cX11_lineAt 25 = .ok (.iload_n 1, 1) := by decide +kernel
theorem dX11_lineAt_26 : decode cX11_lineAt 26 = .ok (.iaload, 1) := by decide +kernel
theorem dX11_lineAt_27 : decode cX11_lineAt 27 = .ok (.i2c, 1) := by decide +kernel
theorem dX11_lineAt_28 : decode cX11_lineAt 28 = .ok (.goto 9, 3) := by decide +kernel
theorem dX11_lineAt_31 : decode cX11_lineAt 31 = .ok (.aload_n 0, 1) := by decide +kernel
theorem dX11_lineAt_32 : decode cX11_lineAt 32 = .ok (.iconst 1, 1) := by decide +kernel
theorem dX11_lineAt_33 : decode cX11_lineAt 33 = .ok (.invokevirtual 125, 3) := by decide +kernel
theorem dX11_lineAt_36 : decode cX11_lineAt 36 = .ok (.i2c, 1) := by decide +kernel
theorem dX11_lineAt_37 : decode cX11_lineAt 37 = .ok (.ireturn, 1) := by decide +kernel
theorem dX11_meanOil_0 : decode cX11_meanOil 0 = .ok (.aload_n 0, 1) := by decide +kernel
theorem dX11_meanOil_1 : decode cX11_meanOil 1 = .ok (.iconst 0, 1) := by decide +kernel
theorem dX11_meanOil_2 : decode cX11_meanOil 2 = .ok (.putfield 57, 3) := by decide +kernel
theorem dX11_meanOil_5 : decode cX11_meanOil 5 = .ok (.aload_n 0, 1) := by decide +kernel
theorem dX11_meanOil_6 : decode cX11_meanOil 6 = .ok (.invokevirtual 228, 3) := by decide +kernel
theorem dX11_meanOil_9 : decode cX11_meanOil 9 = .ok (.istore_n 1, 1) := by decide +kernel
theorem dX11_meanOil_10 : decode cX11_meanOil 10 = .ok (.aload_n 0, 1) := by decide +kernel
theorem dX11_meanOil_11 : decode cX11_meanOil 11 = .ok (.getfield 92, 3) := by decide +kernel
theorem dX11_meanOil_14 : decode cX11_meanOil 14 = .ok (.ifCond .ne 11, 3) := by decide +kernel
theorem dX11_meanOil_17 : decode cX11_meanOil 17 = .ok (.aload_n 0, 1) := by decide +kernel
theorem dX11_meanOil_18 : decode cX11_meanOil 18 = .ok (.iconst 1, 1) := by decide +kernel
theorem dX11_meanOil_19 : decode cX11_meanOil 19 = .ok (.invokevirtual 125, 3) := by decide +kernel
theorem dX11_meanOil_22 : decode cX11_meanOil 22 = .ok (.pop, 1) := by decide +kernel
theorem dX11_meanOil_23 : decode cX11_meanOil 23 = .ok (.dconst 0, 1) := by decide +kernel
theorem dX11_meanOil_24 : decode cX11_meanOil 24 = .ok (.dreturn, 1) := by decide +kernel
theorem dX11_meanOil_25 : decode cX11_meanOil 25 = .ok (.iload_n 1, 1) := by decide +kernel
theorem dX11_meanOil_26 : decode cX11_meanOil 26 = .ok (.i2d, 1) := by decide +kernel
theorem dX11_meanOil_27 : decode cX11_meanOil 27 = .ok (.aload_n 0, 1) := by decide +kernel
theorem dX11_meanOil_28 : decode cX11_meanOil 28 = .ok (.getfield 92, 3) := by decide +kernel
theorem dX11_meanOil_31 : decode cX11_meanOil 31 = .ok (.i2d, 1) := by decide +kernel
theorem dX11_meanOil_32 : decode cX11_meanOil 32 = .ok (.ddiv, 1) := by decide +kernel
theorem dX11_meanOil_33 : decode cX11_meanOil 33 = .ok (.dreturn, 1) := by decide +kernel
theorem dX11_vigilShare_0 : decode cX11_vigilShare 0 = .ok (.aload_n 0, 1) := by decide +kernel
theorem dX11_vigilShare_1 : decode cX11_vigilShare 1 = .ok (.iconst 0, 1) := by decide +kernel
theorem dX11_vigilShare_2 : decode cX11_vigilShare 2 = .ok (.putfield 57, 3) := by decide +kernel
theorem dX11_vigilShare_5 : decode cX11_vigilShare 5 = .ok (.aload_n 0, 1) := by decide +kernel
theorem dX11_vigilShare_6 : decode cX11_vigilShare 6 = .ok (.invokevirtual 240, 3) := by decide +kernel
theorem dX11_vigilShare_9 : decode cX11_vigilShare 9 = .ok (.i2f, 1) := by decide +kernel
theorem dX11_vigilShare_10 : decode cX11_vigilShare 10 = .ok (.ldc_w 310, 3) := by decide +kernel
theorem dX11_vigilShare_13 : decode cX11_vigilShare 13 = .ok (.fdiv, 1) := by decide +kernel
theorem dX11_vigilShare_14 : decode cX11_vigilShare 14 = .ok (.freturn, 1) := by decide +kernel
theorem dX11_isConsistent_0 : decode cX11_isConsistent 0 = .ok (.aload_n 0, 1) := by decide +kernel
theorem dX11_isConsistent_1 : decode cX11_isConsistent 1 = .ok (.iconst 0, 1) := by decide +kernel
theorem dX11_isConsistent_2 : decode cX11_isConsistent 2 = .ok (.putfield 57, 3) := by decide +kernel
theorem dX11_isConsistent_5 : decode cX11_isConsistent 5 = .ok (.iconst 1, 1) := by decide +kernel
theorem dX11_isConsistent_6 : decode cX11_isConsistent 6 = .ok (.ireturn, 1) := by decide +kernel
theorem dX11_undo_0 : decode cX11_undo 0 = .ok (.aload_n 0, 1) := by decide +kernel
theorem dX11_undo_1 : decode cX11_undo 1 = .ok (.iconst 0, 1) := by decide +kernel
theorem dX11_undo_2 : decode cX11_undo 2 = .ok (.putfield 57, 3) := by decide +kernel
theorem dX11_undo_5 : decode cX11_undo 5 = .ok (.aload_n 0, 1) := by decide +kernel
theorem dX11_undo_6 : decode cX11_undo 6 = .ok (.getfield 60, 3) := by decide +kernel
theorem dX11_undo_9 : decode cX11_undo 9 = .ok (.ifCond .ne 9, 3) := by decide +kernel
theorem dX11_undo_12 : decode cX11_undo 12 = .ok (.aload_n 0, 1) := by decide +kernel
theorem dX11_undo_13 : decode cX11_undo 13 = .ok (.iconst 1, 1) := by decide +kernel
theorem dX11_undo_14 : decode cX11_undo 14 = .ok (.invokevirtual 125, 3) := by decide +kernel
theorem dX11_undo_17 : decode cX11_undo 17 = .ok (.ireturn, 1) := by decide +kernel
theorem dX11_undo_18 : decode cX11_undo 18 = .ok (.aload_n 0, 1) := by decide +kernel
theorem dX11_undo_19 : decode cX11_undo 19 = .ok (.dup, 1) := by decide +kernel
theorem dX11_undo_20 : decode cX11_undo 20 = .ok (.getfield 60, 3) := by decide +kernel
theorem dX11_undo_23 : decode cX11_undo 23 = .ok (.iconst 1, 1) := by decide +kernel
theorem dX11_undo_24 : decode cX11_undo 24 = .ok (.isub, 1) := by decide +kernel
theorem dX11_undo_25 : decode cX11_undo 25 = .ok (.putfield 60, 3) := by decide +kernel
theorem dX11_undo_28 : decode cX11_undo 28 = .ok (.iconst 0, 1) := by decide +kernel
theorem dX11_undo_29 : decode cX11_undo 29 = .ok (.istore_n 1, 1) := by decide +kernel
theorem dX11_undo_30 : decode cX11_undo 30 = .ok (.iload_n 1, 1) := by decide +kernel
theorem dX11_undo_31 : decode cX11_undo 31 = .ok (.sipush 269, 3) := by decide +kernel
theorem dX11_undo_34 : decode cX11_undo 34 = .ok (.if_icmp .ge 30, 3) := by decide +kernel
theorem dX11_undo_37 : decode cX11_undo 37 = .ok (.aload_n 0, 1) := by decide +kernel
theorem dX11_undo_38 : decode cX11_undo 38 = .ok (.getfield 9, 3) := by decide +kernel
theorem dX11_undo_41 : decode cX11_undo 41 = .ok (.iload_n 1, 1) := by decide +kernel
theorem dX11_undo_42 : decode cX11_undo 42 = .ok (.aload_n 0, 1) := by decide +kernel
theorem dX11_undo_43 : decode cX11_undo 43 = .ok (.getfield 19, 3) := by decide +kernel
theorem dX11_undo_46 : decode cX11_undo 46 = .ok (.sipush 269, 3) := by decide +kernel
theorem dX11_undo_49 : decode cX11_undo 49 = .ok (.aload_n 0, 1) := by decide +kernel
theorem dX11_undo_50 : decode cX11_undo 50 = .ok (.getfield 60, 3) := by decide +kernel
theorem dX11_undo_53 : decode cX11_undo 53 = .ok (.imul, 1) := by decide +kernel
theorem dX11_undo_54 : decode cX11_undo 54 = .ok (.iload_n 1, 1) := by decide +kernel
theorem dX11_undo_55 : decode cX11_undo 55 = .ok (.iadd, 1) := by decide +kernel
theorem dX11_undo_56 : decode cX11_undo 56 = .ok (.iaload, 1) := by decide +kernel
theorem dX11_undo_57 : decode cX11_undo 57 = .ok (.iastore, 1) := by decide +kernel
theorem dX11_undo_58 : decode cX11_undo 58 = .ok (.iinc 1 1, 3) := by decide +kernel
theorem dX11_undo_61 : decode cX11_undo 61 = .ok (.goto (-31), 3) := by decide +kernel
theorem dX11_undo_64 : decode cX11_undo 64 = .ok (.aload_n 0, 1) := by decide +kernel
theorem dX11_undo_65 : decode cX11_undo 65 = .ok (.getfield 60, 3) := by decide +kernel
theorem dX11_undo_68 : decode cX11_undo 68 = .ok (.ireturn, 1) := by decide +kernel
theorem dX11_save_0 : decode cX11_save 0 = .ok (.aload_n 0, 1) := by decide +kernel
theorem dX11_save_1 : decode cX11_save 1 = .ok (.iconst 0, 1) := by decide +kernel
theorem dX11_save_2 : decode cX11_save 2 = .ok (.putfield 57, 3) := by decide +kernel
theorem dX11_save_5 : decode cX11_save 5 = .ok (.iconst 0, 1) := by decide +kernel
theorem dX11_save_6 : decode cX11_save 6 = .ok (.istore_n 1, 1) := by decide +kernel
theorem dX11_save_7 : decode cX11_save 7 = .ok (.iload_n 1, 1) := by decide +kernel
theorem dX11_save_8 : decode cX11_save 8 = .ok (.sipush 269, 3) := by decide +kernel
theorem dX11_save_11 : decode cX11_save 11 = .ok (.if_icmp .ge 21, 3) := by decide +kernel
theorem dX11_save_14 : decode cX11_save 14 = .ok (.aload_n 0, 1) := by decide +kernel
theorem dX11_save_15 : decode cX11_save 15 = .ok (.getfield 16, 3) := by decide +kernel
theorem dX11_save_18 : decode cX11_save 18 = .ok (.iload_n 1, 1) := by decide +kernel
theorem dX11_save_19 : decode cX11_save 19 = .ok (.aload_n 0, 1) := by decide +kernel
theorem dX11_save_20 : decode cX11_save 20 = .ok (.getfield 9, 3) := by decide +kernel
theorem dX11_save_23 : decode cX11_save 23 = .ok (.iload_n 1, 1) := by decide +kernel
theorem dX11_save_24 : decode cX11_save 24 = .ok (.iaload, 1) := by decide +kernel
theorem dX11_save_25 : decode cX11_save 25 = .ok (.iastore, 1) := by decide +kernel
theorem dX11_save_26 : decode cX11_save 26 = .ok (.iinc 1 1, 3) := by decide +kernel
theorem dX11_save_29 : decode cX11_save 29 = .ok (.goto (-22), 3) := by decide +kernel
theorem dX11_save_32 : decode cX11_save 32 = .ok (.aload_n 0, 1) := by decide +kernel
theorem dX11_save_33 : decode cX11_save 33 = .ok (.iconst 1, 1) := by decide +kernel
theorem dX11_save_34 : decode cX11_save 34 = .ok (.putfield 311, 3) := by decide +kernel
theorem dX11_save_37 : decode cX11_save 37 = .ok (.aload_n 0, 1) := by decide +kernel
theorem dX11_save_38 : decode cX11_save 38 = .ok (.getfield 9, 3) := by decide +kernel
theorem dX11_save_41 : decode cX11_save 41 = .ok (.iconst 0, 1) := by decide +kernel
theorem dX11_save_42 : decode cX11_save 42 = .ok (.iaload, 1) := by decide +kernel
theorem dX11_save_43 : decode cX11_save 43 = .ok (.ireturn, 1) := by decide +kernel
theorem dX11_restore_0 : decode cX11_restore 0 = .ok (.aload_n 0, 1) := by decide +kernel
theorem dX11_restore_1 : decode cX11_restore 1 = .ok (.iconst 0, 1) := by decide +kernel
theorem dX11_restore_2 : decode cX11_restore 2 = .ok (.putfield 57, 3) := by decide +kernel
theorem dX11_restore_5 : decode cX11_restore 5 = .ok (.aload_n 0, 1) := by decide +kernel
theorem dX11_restore_6 : decode cX11_restore 6 = .ok (.getfield 311, 3) := by decide +kernel
theorem dX11_restore_9 : decode cX11_restore 9 = .ok (.ifCond .ne 9, 3) := by decide +kernel
theorem dX11_restore_12 : decode cX11_restore 12 = .ok (.aload_n 0, 1) := by decide +kernel
theorem dX11_restore_13 : decode cX11_restore 13 = .ok (.iconst 1, 1) := by decide +kernel
theorem dX11_restore_14 : decode cX11_restore 14 = .ok (.invokevirtual 125, 3) := by decide +kernel
theorem dX11_restore_17 : decode cX11_restore 17 = .ok (.ireturn, 1) := by decide +kernel
theorem dX11_restore_18 : decode cX11_restore 18 = .ok (.iconst 0, 1) := by decide +kernel
theorem dX11_restore_19 : decode cX11_restore 19 = .ok (.istore_n 1, 1) := by decide +kernel
theorem dX11_restore_20 : decode cX11_restore 20 = .ok (.iload_n 1, 1) := by decide +kernel
theorem dX11_restore_21 : decode cX11_restore 21 = .ok (.sipush 269, 3) := by decide +kernel
theorem dX11_restore_24 : decode cX11_restore 24 = .ok (.if_icmp .ge 21, 3) := by decide +kernel
theorem dX11_restore_27 : decode cX11_restore 27 = .ok (.aload_n 0, 1) := by decide +kernel
theorem dX11_restore_28 : decode cX11_restore 28 = .ok (.getfield 9, 3) := by decide +kernel
theorem dX11_restore_31 : decode cX11_restore 31 = .ok (.iload_n 1, 1) := by decide +kernel
theorem dX11_restore_32 : decode cX11_restore 32 = .ok (.aload_n 0, 1) := by decide +kernel
theorem dX11_restore_33 : decode cX11_restore 33 = .ok (.getfield 16, 3) := by decide +kernel
theorem dX11_restore_36 : decode cX11_restore 36 = .ok (.iload_n 1, 1) := by decide +kernel
theorem dX11_restore_37 : decode cX11_restore 37 = .ok (.iaload, 1) := by decide +kernel
theorem dX11_restore_38 : decode cX11_restore 38 = .ok (.iastore, 1) := by decide +kernel
theorem dX11_restore_39 : decode cX11_restore 39 = .ok (.iinc 1 1, 3) := by decide +kernel
theorem dX11_restore_42 : decode cX11_restore 42 = .ok (.goto (-22), 3) := by decide +kernel
theorem dX11_restore_45 : decode cX11_restore 45 = .ok (.aload_n 0, 1) := by decide +kernel
theorem dX11_restore_46 : decode cX11_restore 46 = .ok (.iconst 0, 1) := by decide +kernel
theorem dX11_restore_47 : decode cX11_restore 47 = .ok (.putfield 60, 3) := by decide +kernel
theorem dX11_restore_50 : decode cX11_restore 50 = .ok (.aload_n 0, 1) := by decide +kernel
theorem dX11_restore_51 : decode cX11_restore 51 = .ok (.getfield 9, 3) := by decide +kernel
theorem dX11_restore_54 : decode cX11_restore 54 = .ok (.iconst 0, 1) := by decide +kernel
theorem dX11_restore_55 : decode cX11_restore 55 = .ok (.iaload, 1) := by decide +kernel
theorem dX11_restore_56 : decode cX11_restore 56 = .ok (.ireturn, 1) := by decide +kernel
