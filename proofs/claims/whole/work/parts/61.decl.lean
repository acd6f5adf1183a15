theorem d_Law_law_0 : decode code 0 = .ok (.new 7, 3) := by decide +kernel
theorem d_Law_law_3 : decode code 3 = .ok (.dup, 1) := by decide +kernel
theorem d_Law_law_4 : decode code 4 = .ok (.invokespecial 9, 3) := by decide +kernel
theorem d_Law_law_7 : decode code 7 = .ok (.astore_n 1, 1) := by decide +kernel
theorem d_Law_law_8 : decode code 8 = .ok (.new 10, 3) := by decide +kernel
theorem d_Law_law_11 : decode code 11 = .ok (.dup, 1) := by decide +kernel
theorem d_Law_law_12 : decode code 12 = .ok (.invokespecial 12, 3) := by decide +kernel
theorem d_Law_law_15 : decode code 15 = .ok (.astore_n 2, 1) := by decide +kernel
theorem d_Law_law_16 : decode code 16 = .ok (.iconst 0, 1) := by decide +kernel
theorem d_Law_law_17 : decode code 17 = .ok (.istore_n 3, 1) := by decide +kernel
theorem d_Law_law_18 : decode code 18 = .ok (.iload_n 3, 1) := by decide +kernel
theorem d_Law_law_19 : decode code 19 = .ok (.aload_n 0, 1) := by decide +kernel
theorem d_Law_law_20 : decode code 20 = .ok (.arraylength, 1) := by decide +kernel
theorem d_Law_law_21 : decode code 21 = .ok (.bipush 9, 2) := by decide +kernel
theorem d_Law_law_23 : decode code 23 = .ok (.isub, 1) := by decide +kernel
theorem d_Law_law_24 : decode code 24 = .ok (.if_icmp .gt 514, 3) := by decide +kernel
theorem d_Law_law_27 : decode code 27 = .ok (.aload_n 0, 1) := by decide +kernel
theorem d_Law_law_28 : decode code 28 = .ok (.iload_n 3, 1) := by decide +kernel
theorem d_Law_law_29 : decode code 29 = .ok (.iaload, 1) := by decide +kernel
theorem d_Law_law_30 : decode code 30 = .ok (.bipush 15, 2) := by decide +kernel
theorem d_Law_law_32 : decode code 32 = .ok (.iand, 1) := by decide +kernel
theorem d_Law_law_33 : decode code 33 = .ok (.tableswitch 499 0 10 #[59, 236, 259, 332, 345, 358, 381, 405, 428, 462, 485], 59) := by decide +kernel
theorem d_Law_law_92 : decode code 92 = .ok (.aload_n 1, 1) := by decide +kernel
theorem d_Law_law_93 : decode code 93 = .ok (.aload_n 0, 1) := by decide +kernel
theorem d_Law_law_94 : decode code 94 = .ok (.iload_n 3, 1) := by decide +kernel
theorem d_Law_law_95 : decode code 95 = .ok (.iconst 1, 1) := by decide +kernel
theorem d_Law_law_96 : decode code 96 = .ok (.iadd, 1) := by decide +kernel
theorem d_Law_law_97 : decode code 97 = .ok (.iaload, 1) := by decide +kernel
theorem d_Law_law_98 : decode code 98 = .ok (.i2l, 1) := by decide +kernel
theorem d_Law_law_99 : decode code 99 = .ok (.bipush 32, 2) := by decide +kernel
theorem d_Law_law_101 : decode code 101 = .ok (.lshl, 1) := by decide +kernel
theorem d_Law_law_102 : decode code 102 = .ok (.aload_n 0, 1) := by decide +kernel
theorem d_Law_law_103 : decode code 103 = .ok (.iload_n 3, 1) := by decide +kernel
theorem d_Law_law_104 : decode code 104 = .ok (.iconst 2, 1) := by decide +kernel
theorem d_Law_law_105 : decode code 105 = .ok (.iadd, 1) := by decide +kernel
theorem d_Law_law_106 : decode code 106 = .ok (.iaload, 1) := by decide +kernel
theorem d_Law_law_107 : decode code 107 = .ok (.i2l, 1) := by decide +kernel
theorem d_Law_law_108 : decode code 108 = .ok (.ldc2_w 13, 3) := by decide +kernel
theorem d_Law_law_111 : decode code 111 = .ok (.land, 1) := by decide +kernel
theorem d_Law_law_112 : decode code 112 = .ok (.lor, 1) := by decide +kernel
theorem d_Law_law_113 : decode code 113 = .ok (.aload_n 0, 1) := by decide +kernel
theorem d_Law_law_114 : decode code 114 = .ok (.iload_n 3, 1) := by decide +kernel
theorem d_Law_law_115 : decode code 115 = .ok (.iconst 3, 1) := by decide +kernel
theorem d_Law_law_116 : decode code 116 = .ok (.iadd, 1) := by decide +kernel
theorem d_Law_law_117 : decode code 117 = .ok (.iaload, 1) := by decide +kernel
theorem d_Law_law_118 : decode code 118 = .ok (.i2l, 1) := by decide +kernel
theorem d_Law_law_119 : decode code 119 = .ok (.bipush 32, 2) := by decide +kernel
theorem d_Law_law_121 : decode code 121 = .ok (.lshl, 1) := by decide +kernel
theorem d_Law_law_122 : decode code 122 = .ok (.aload_n 0, 1) := by decide +kernel
theorem d_Law_law_123 : decode code 123 = .ok (.iload_n 3, 1) := by decide +kernel
theorem d_Law_law_124 : decode code 124 = .ok (.iconst 4, 1) := by decide +kernel
theorem d_Law_law_125 : decode code 125 = .ok (.iadd, 1) := by decide +kernel
theorem d_Law_law_126 : decode code 126 = .ok (.iaload, 1) := by decide +kernel
theorem d_Law_law_127 : decode code 127 = .ok (.i2l, 1) := by decide +kernel
theorem d_Law_law_128 : decode code 128 = .ok (.ldc2_w 13, 3) := by decide +kernel
theorem d_Law_law_131 : decode code 131 = .ok (.land, 1) := by decide +kernel
theorem d_Law_law_132 : decode code 132 = .ok (.lor, 1) := by decide +kernel
theorem d_Law_law_133 : decode code 133 = .ok (.aload_n 0, 1) := by decide +kernel
theorem d_Law_law_134 : decode code 134 = .ok (.iload_n 3, 1) := by decide +kernel
theorem d_Law_law_135 : decode code 135 = .ok (.iconst 5, 1) := by decide +kernel
theorem d_Law_law_136 : decode code 136 = .ok (.iadd, 1) := by decide +kernel
theorem d_Law_law_137 : decode code 137 = .ok (.iaload, 1) := by decide +kernel
theorem d_Law_law_138 : decode code 138 = .ok (.i2l, 1) := by decide +kernel
theorem d_Law_law_139 : decode code 139 = .ok (.bipush 32, 2) := by decide +kernel
theorem d_Law_law_141 : decode code 141 = .ok (.lshl, 1) := by decide +kernel
theorem d_Law_law_142 : decode code 142 = .ok (.aload_n 0, 1) := by decide +kernel
theorem d_Law_law_143 : decode code 143 = .ok (.iload_n 3, 1) := by decide +kernel
theorem d_Law_law_144 : decode code 144 = .ok (.bipush 6, 2) := by decide +kernel
theorem d_Law_law_146 : decode code 146 = .ok (.iadd, 1) := by decide +kernel
theorem d_Law_law_147 : decode code 147 = .ok (.iaload, 1) := by decide +kernel
theorem d_Law_law_148 : decode code 148 = .ok (.i2l, 1) := by decide +kernel
theorem d_Law_law_149 : decode code 149 = .ok (.ldc2_w 13, 3) := by decide +kernel
theorem d_Law_law_152 : decode code 152 = .ok (.land, 1) := by decide +kernel
theorem d_Law_law_153 : decode code 153 = .ok (.lor, 1) := by decide +kernel
theorem d_Law_law_154 : decode code 154 = .ok (.aload_n 0, 1) := by decide +kernel
theorem d_Law_law_155 : decode code 155 = .ok (.iload_n 3, 1) := by decide +kernel
theorem d_Law_law_156 : decode code 156 = .ok (.bipush 7, 2) := by decide +kernel
theorem d_Law_law_158 : decode code 158 = .ok (.iadd, 1) := by decide +kernel
theorem d_Law_law_159 : decode code 159 = .ok (.iaload, 1) := by decide +kernel
theorem d_Law_law_160 : decode code 160 = .ok (.i2l, 1) := by decide +kernel
theorem d_Law_law_161 : decode code 161 = .ok (.bipush 32, 2) := by decide +kernel
theorem d_Law_law_163 : decode code 163 = .ok (.lshl, 1) := by decide +kernel
theorem d_Law_law_164 : decode code 164 = .ok (.aload_n 0, 1) := by decide +kernel
theorem d_Law_law_165 : decode code 165 = .ok (.iload_n 3, 1) := by decide +kernel
theorem d_Law_law_166 : decode code 166 = .ok (.bipush 8, 2) := by decide +kernel
theorem d_Law_law_168 : decode code 168 = .ok (.iadd, 1) := by decide +kernel
theorem d_Law_law_169 : decode code 169 = .ok (.iaload, 1) := by decide +kernel
theorem d_Law_law_170 : decode code 170 = .ok (.i2l, 1) := by decide +kernel
theorem d_Law_law_171 : decode code 171 = .ok (.ldc2_w 13, 3) := by decide +kernel
theorem d_Law_law_174 : decode code 174 = .ok (.land, 1) := by decide +kernel
theorem d_Law_law_175 : decode code 175 = .ok (.lor, 1) := by decide +kernel
theorem d_Law_law_176 : decode code 176 = .ok (.invokevirtual 15, 3) := by decide +kernel
theorem d_Law_law_179 : decode code 179 = .ok (.aload_n 2, 1) := by decide +kernel
theorem d_Law_law_180 : decode code 180 = .ok (.aload_n 0, 1) := by decide +kernel
theorem d_Law_law_181 : decode code 181 = .ok (.iload_n 3, 1) := by decide +kernel
theorem d_Law_law_182 : decode code 182 = .ok (.iconst 1, 1) := by decide +kernel
theorem d_Law_law_183 : decode code 183 = .ok (.iadd, 1) := by decide +kernel
theorem d_Law_law_184 : decode code 184 = .ok (.iaload, 1) := by decide +kernel
theorem d_Law_law_185 : decode code 185 = .ok (.i2l, 1) := by decide +kernel
theorem d_Law_law_186 : decode code 186 = .ok (.bipush 32, 2) := by decide +kernel
theorem d_Law_law_188 : decode code 188 = .ok (.lshl, 1) := by decide +kernel
theorem d_Law_law_189 : decode code 189 = .ok (.aload_n 0, 1) := by decide +kernel
theorem d_Law_law_190 : decode code 190 = .ok (.iload_n 3, 1) := by decide +kernel
theorem d_Law_law_191 : decode code 191 = .ok (.iconst 2, 1) := by decide +kernel
theorem d_Law_law_192 : decode code 192 = .ok (.iadd, 1) := by decide +kernel
theorem d_Law_law_193 : decode code 193 = .ok (.iaload, 1) := by decide +kernel
theorem d_Law_law_194 : decode code 194 = .ok (.i2l, 1) := by decide +kernel
theorem d_Law_law_195 : decode code 195 = .ok (.ldc2_w 13, 3) := by decide +kernel
theorem d_Law_law_198 : decode code 198 = .ok (.land, 1) := by decide +kernel
theorem d_Law_law_199 : decode code 199 = .ok (.lor, 1) := by decide +kernel
theorem d_Law_law_200 : decode code 200 = .ok (.aload_n 0, 1) := by decide +kernel
theorem d_Law_law_201 : decode code 201 = .ok (.iload_n 3, 1) := by decide +kernel
theorem d_Law_law_202 : decode code 202 = .ok (.iconst 3, 1) := by decide +kernel
theorem d_Law_law_203 : decode code 203 = .ok (.iadd, 1) := by decide +kernel
theorem d_Law_law_204 : decode code 204 = .ok (.iaload, 1) := by decide +kernel
theorem d_Law_law_205 : decode code 205 = .ok (.i2l, 1) := by decide +kernel
theorem d_Law_law_206 : decode code 206 = .ok (.bipush 32, 2) := by decide +kernel
theorem d_Law_law_208 : decode code 208 = .ok (.lshl, 1) := by decide +kernel
theorem d_Law_law_209 : decode code 209 = .ok (.aload_n 0, 1) := by decide +kernel
theorem d_Law_law_210 : decode code 210 = .ok (.iload_n 3, 1) := by decide +kernel
theorem d_Law_law_211 : decode code 211 = .ok (.iconst 4, 1) := by decide +kernel
theorem d_Law_law_212 : decode code 212 = .ok (.iadd, 1) := by decide +kernel
theorem d_Law_law_213 : decode code 213 = .ok (.iaload, 1) := by decide +kernel
theorem d_Law_law_214 : decode code 214 = .ok (.i2l, 1) := by decide +kernel
theorem d_Law_law_215 : decode code 215 = .ok (.ldc2_w 13, 3) := by decide +kernel
theorem d_Law_law_218 : decode code 218 = .ok (.land, 1) := by decide +kernel
theorem d_Law_law_219 : decode code 219 = .ok (.lor, 1) := by decide +kernel
theorem d_Law_law_220 : decode code 220 = .ok (.aload_n 0, 1) := by decide +kernel
theorem d_Law_law_221 : decode code 221 = .ok (.iload_n 3, 1) := by decide +kernel
theorem d_Law_law_222 : decode code 222 = .ok (.iconst 5, 1) := by decide +kernel
theorem d_Law_law_223 : decode code 223 = .ok (.iadd, 1) := by decide +kernel
theorem d_Law_law_224 : decode code 224 = .ok (.iaload, 1) := by decide +kernel
theorem d_Law_law_225 : decode code 225 = .ok (.i2l, 1) := by decide +kernel
theorem d_Law_law_226 : decode code 226 = .ok (.bipush 32, 2) := by decide +kernel
theorem d_Law_law_228 : decode code 228 = .ok (.lshl, 1) := by decide +kernel
theorem d_Law_law_229 : decode code 229 = .ok (.aload_n 0, 1) := by decide +kernel
theorem d_Law_law_230 : decode code 230 = .ok (.iload_n 3, 1) := by decide +kernel
theorem d_Law_law_231 : decode code 231 = .ok (.bipush 6, 2) := by decide +kernel
theorem d_Law_law_233 : decode code 233 = .ok (.iadd, 1) := by decide +kernel
theorem d_Law_law_234 : decode code 234 = .ok (.iaload, 1) := by decide +kernel
theorem d_Law_law_235 : decode code 235 = .ok (.i2l, 1) := by decide +kernel
theorem d_Law_law_236 : decode code 236 = .ok (.ldc2_w 13, 3) := by decide +kernel
theorem d_Law_law_239 : decode code 239 = .ok (.land, 1) := by decide +kernel
theorem d_Law_law_240 : decode code 240 = .ok (.lor, 1) := by decide +kernel
theorem d_Law_law_241 : decode code 241 = .ok (.aload_n 0, 1) := by decide +kernel
theorem d_Law_law_242 : decode code 242 = .ok (.iload_n 3, 1) := by decide +kernel
theorem d_Law_law_243 : decode code 243 = .ok (.bipush 7, 2) := by decide +kernel
theorem d_Law_law_245 : decode code 245 = .ok (.iadd, 1) := by decide +kernel
theorem d_Law_law_246 : decode code 246 = .ok (.iaload, 1) := by decide +kernel
theorem d_Law_law_247 : decode code 247 = .ok (.i2l, 1) := by decide +kernel
theorem d_Law_law_248 : decode code 248 = .ok (.bipush 32, 2) := by decide +kernel
theorem d_Law_law_250 : decode code 250 = .ok (.lshl, 1) := by decide +kernel
theorem d_Law_law_251 : decode code 251 = .ok (.aload_n 0, 1) := by decide +kernel
theorem d_Law_law_252 : decode code 252 = .ok (.iload_n 3, 1) := by decide +kernel
theorem d_Law_law_253 : decode code 253 = .ok (.bipush 8, 2) := by decide +kernel
theorem d_Law_law_255 : decode code 255 = .ok (.iadd, 1) := by decide +kernel
theorem d_Law_law_256 : decode code 256 = .ok (.iaload, 1) := by decide +kernel
theorem d_Law_law_257 : decode code 257 = .ok (.i2l, 1) := by decide +kernel
theorem d_Law_law_258 : decode code 258 = .ok (.ldc2_w 13, 3) := by decide +kernel
theorem d_Law_law_261 : decode code 261 = .ok (.land, 1) := by decide +kernel
theorem d_Law_law_262 : decode code 262 = .ok (.lor, 1) := by decide +kernel
theorem d_Law_law_263 : decode code 263 = .ok (.invokevirtual 19, 3) := by decide +kernel
theorem d_Law_law_266 : decode code 266 = .ok (.goto 266, 3) := by decide +kernel
theorem d_Law_law_269 : decode code 269 = .ok (.aload_n 1, 1) := by decide +kernel
theorem d_Law_law_270 : decode code 270 = .ok (.aload_n 0, 1) := by decide +kernel
theorem d_Law_law_271 : decode code 271 = .ok (.iload_n 3, 1) := by decide +kernel
theorem d_Law_law_272 : decode code 272 = .ok (.iconst 1, 1) := by decide +kernel
theorem d_Law_law_273 : decode code 273 = .ok (.iadd, 1) := by decide +kernel
theorem d_Law_law_274 : decode code 274 = .ok (.iaload, 1) := by decide +kernel
theorem d_Law_law_275 : decode code 275 = .ok (.invokevirtual 20, 3) := by decide +kernel
theorem d_Law_law_278 : decode code 278 = .ok (.aload_n 2, 1) := by decide +kernel
theorem d_Law_law_279 : decode code 279 = .ok (.aload_n 0, 1) := by decide +kernel
theorem d_Law_law_280 : decode code 280 = .ok (.iload_n 3, 1) := by decide +kernel
theorem d_Law_law_281 : decode code 281 = .ok (.iconst 1, 1) := by decide +kernel
theorem d_Law_law_282 : decode code 282 = .ok (.iadd, 1) := by decide +kernel
theorem d_Law_law_283 : decode code 283 = .ok (.iaload, 1) := by decide +kernel
theorem d_Law_law_284 : decode code 284 = .ok (.invokevirtual 24, 3) := by decide +kernel
theorem d_Law_law_287 : decode code 287 = .ok (.if_icmp .eq 245, 3) := by decide +kernel
theorem d_Law_law_290 : decode code 290 = .ok (.iconst 0, 1) := by decide +kernel
theorem d_Law_law_291 : decode code 291 = .ok (.ireturn, 1) := by decide +kernel
theorem d_Law_law_292 : decode code 292 = .ok (.aload_n 1, 1) := by decide +kernel
theorem d_Law_law_293 : decode code 293 = .ok (.aload_n 0, 1) := by decide +kernel
theorem d_Law_law_294 : decode code 294 = .ok (.iload_n 3, 1) := by decide +kernel
theorem d_Law_law_295 : decode code 295 = .ok (.iconst 1, 1) := by decide +kernel
theorem d_Law_law_296 : decode code 296 = .ok (.iadd, 1) := by decide +kernel
theorem d_Law_law_297 : decode code 297 = .ok (.iaload, 1) := by decide +kernel
theorem d_Law_law_298 : decode code 298 = .ok (.i2l, 1) := by decide +kernel
theorem d_Law_law_299 : decode code 299 = .ok (.bipush 32, 2) := by decide +kernel
theorem d_Law_law_301 : decode code 301 = .ok (.lshl, 1) := by decide +kernel
theorem d_Law_law_302 : decode code 302 = .ok (.aload_n 0, 1) := by decide +kernel
theorem d_Law_law_303 : decode code 303 = .ok (.iload_n 3, 1) := by decide +kernel
theorem d_Law_law_304 : decode code 304 = .ok (.iconst 2, 1) := by decide +kernel
theorem d_Law_law_305 : decode code 305 = .ok (.iadd, 1) := by decide +kernel
theorem d_Law_law_306 : decode code 306 = .ok (.iaload, 1) := by decide +kernel
theorem d_Law_law_307 : decode code 307 = .ok (.i2l, 1) := by decide +kernel
theorem d_Law_law_308 : decode code 308 = .ok (.ldc2_w 13, 3) := by decide +kernel
theorem d_Law_law_311 : decode code 311 = .ok (.land, 1) := by decide +kernel
theorem d_Law_law_312 : decode code 312 = .ok (.lor, 1) := by decide +kernel
theorem d_Law_law_313 : decode code 313 = .ok (.aload_n 0, 1) := by decide +kernel
theorem d_Law_law_314 : decode code 314 = .ok (.iload_n 3, 1) := by decide +kernel
theorem d_Law_law_315 : decode code 315 = .ok (.iconst 3, 1) := by decide +kernel
theorem d_Law_law_316 : decode code 316 = .ok (.iadd, 1) := by decide +kernel
theorem d_Law_law_317 : decode code 317 = .ok (.iaload, 1) := by decide +kernel
theorem d_Law_law_318 : decode code 318 = .ok (.aload_n 0, 1) := by decide +kernel
theorem d_Law_law_319 : decode code 319 = .ok (.iload_n 3, 1) := by decide +kernel
theorem d_Law_law_320 : decode code 320 = .ok (.iconst 4, 1) := by decide +kernel
theorem d_Law_law_321 : decode code 321 = .ok (.iadd, 1) := by decide +kernel
theorem d_Law_law_322 : decode code 322 = .ok (.iaload, 1) := by decide +kernel
theorem d_Law_law_323 : decode code 323 = .ok (.invokevirtual 25, 3) := by decide +kernel
theorem d_Law_law_326 : decode code 326 = .ok (.aload_n 2, 1) := by decide +kernel
theorem d_Law_law_327 : decode code 327 = .ok (.aload_n 0, 1) := by decide +kernel
theorem d_Law_law_328 : decode code 328 = .ok (.iload_n 3, 1) := by decide +kernel
theorem d_Law_law_329 : decode code 329 = .ok (.iconst 1, 1) := by decide +kernel
theorem d_Law_law_330 : decode code 330 = .ok (.iadd, 1) := by decide +kernel
theorem d_Law_law_331 : decode code 331 = .ok (.iaload, 1) := by decide +kernel
theorem d_Law_law_332 : decode code 332 = .ok (.i2l, 1) := by decide +kernel
theorem d_Law_law_333 : decode code 333 = .ok (.bipush 32, 2) := by decide +kernel
theorem d_Law_law_335 : decode code 335 = .ok (.lshl, 1) := by decide +kernel
theorem d_Law_law_336 : decode code 336 = .ok (.aload_n 0, 1) := by decide +kernel
theorem d_Law_law_337 : decode code 337 = .ok (.iload_n 3, 1) := by decide +kernel
theorem d_Law_law_338 : decode code 338 = .ok (.iconst 2, 1) := by decide +kernel
theorem d_Law_law_339 : decode code 339 = .ok (.iadd, 1) := by decide +kernel
theorem d_Law_law_340 : decode code 340 = .ok (.iaload, 1) := by decide +kernel
theorem d_Law_law_341 : decode code 341 = .ok (.i2l, 1) := by decide +kernel
theorem d_Law_law_342 : decode code 342 = .ok (.ldc2_w 13, 3) := by decide +kernel
theorem d_Law_law_345 : decode code 345 = .ok (.land, 1) := by decide +kernel
theorem d_Law_law_346 : decode code 346 = .ok (.lor, 1) := by decide +kernel
theorem d_Law_law_347 : decode code 347 = .ok (.aload_n 0, 1) := by decide +kernel
theorem d_Law_law_348 : decode code 348 = .ok (.iload_n 3, 1) := by decide +kernel
theorem d_Law_law_349 : decode code 349 = .ok (.iconst 3, 1) := by decide +kernel
theorem d_Law_law_350 : decode code 350 = .ok (.iadd, 1) := by decide +kernel
theorem d_Law_law_351 : decode code 351 = .ok (.iaload, 1) := by decide +kernel
theorem d_Law_law_352 : decode code 352 = .ok (.aload_n 0, 1) := by decide +kernel
theorem d_Law_law_353 : decode code 353 = .ok (.iload_n 3, 1) := by decide +kernel
theorem d_Law_law_354 : decode code 354 = .ok (.iconst 4, 1) := by decide +kernel
theorem d_Law_law_355 : decode code 355 = .ok (.iadd, 1) := by decide +kernel
theorem d_Law_law_356 : decode code 356 = .ok (.iaload, 1) := by decide +kernel
theorem d_Law_law_357 : decode code 357 = .ok (.invokevirtual 29, 3) := by decide +kernel
theorem d_Law_law_360 : decode code 360 = .ok (.if_icmp .eq 172, 3) := by decide +kernel
theorem d_Law_law_363 : decode code 363 = .ok (.iconst 0, 1) := by decide +kernel
theorem d_Law_law_364 : decode code 364 = .ok (.ireturn, 1) := by decide +kernel
theorem d_Law_law_365 : decode code 365 = .ok (.aload_n 1, 1) := by decide +kernel
theorem d_Law_law_366 : decode code 366 = .ok (.invokevirtual 30, 3) := by decide +kernel
theorem d_Law_law_369 : decode code 369 = .ok (.aload_n 2, 1) := by decide +kernel
theorem d_Law_law_370 : decode code 370 = .ok (.invokevirtual 34, 3) := by decide +kernel
theorem d_Law_law_373 : decode code 373 = .ok (.if_icmp .eq 159, 3) := by decide +kernel
theorem d_Law_law_376 : decode code 376 = .ok (.iconst 0, 1) := by decide +kernel
theorem d_Law_law_377 : decode code 377 = .ok (.ireturn, 1) := by decide +kernel
theorem d_Law_law_378 : decode code 378 = .ok (.aload_n 1, 1) := by decide +kernel
theorem d_Law_law_379 : decode code 379 = .ok (.invokevirtual 35, 3) := by decide +kernel
theorem d_Law_law_382 : decode code 382 = .ok (.aload_n 2, 1) := by decide +kernel
theorem d_Law_law_383 : decode code 383 = .ok (.invokevirtual 39, 3) := by decide +kernel
theorem d_Law_law_386 : decode code 386 = .ok (.if_icmp .eq 146, 3) := by decide +kernel
theorem d_Law_law_389 : decode code 389 = .ok (.iconst 0, 1) := by decide +kernel
theorem d_Law_law_390 : decode code 390 = .ok (.ireturn, 1) := by decide +kernel
theorem d_Law_law_391 : decode code 391 = .ok (.aload_n 1, 1) := by decide +kernel
theorem d_Law_law_392 : decode code 392 = .ok (.aload_n 0, 1) := by decide +kernel
theorem d_Law_law_393 : decode code 393 = .ok (.iload_n 3, 1) := by decide +kernel
theorem d_Law_law_394 : decode code 394 = .ok (.iconst 1, 1) := by decide +kernel
theorem d_Law_law_395 : decode code 395 = .ok (.iadd, 1) := by decide +kernel
theorem d_Law_law_396 : decode code 396 = .ok (.iaload, 1) := by decide +kernel
theorem d_Law_law_397 : decode code 397 = .ok (.invokevirtual 40, 3) := by decide +kernel
theorem d_Law_law_400 : decode code 400 = .ok (.aload_n 2, 1) := by decide +kernel
theorem d_Law_law_401 : decode code 401 = .ok (.aload_n 0, 1) := by decide +kernel
theorem d_Law_law_402 : decode code 402 = .ok (.iload_n 3, 1) := by decide +kernel
theorem d_Law_law_403 : decode code 403 = .ok (.iconst 1, 1) := by decide +kernel
theorem d_Law_law_404 : decode code 404 = .ok (.iadd, 1) := by decide +kernel
theorem d_Law_law_405 : decode code 405 = .ok (.iaload, 1) := by decide +kernel
theorem d_Law_law_406 : decode code 406 = .ok (.invokevirtual 44, 3) := by decide +kernel
theorem d_Law_law_409 : decode code 409 = .ok (.if_icmp .eq 123, 3) := by decide +kernel
theorem d_Law_law_412 : decode code 412 = .ok (.iconst 0, 1) := by decide +kernel
theorem d_Law_law_413 : decode code 413 = .ok (.ireturn, 1) := by decide +kernel
theorem d_Law_law_414 : decode code 414 = .ok (.aload_n 1, 1) := by decide +kernel
theorem d_Law_law_415 : decode code 415 = .ok (.aload_n 0, 1) := by decide +kernel
theorem d_Law_law_416 : decode code 416 = .ok (.iload_n 3, 1) := by decide +kernel
theorem d_Law_law_417 : decode code 417 = .ok (.iconst 1, 1) := by decide +kernel
theorem d_Law_law_418 : decode code 418 = .ok (.iadd, 1) := by decide +kernel
theorem d_Law_law_419 : decode code 419 = .ok (.iaload, 1) := by decide +kernel
theorem d_Law_law_420 : decode code 420 = .ok (.invokevirtual 45, 3) := by decide +kernel
theorem d_Law_law_423 : decode code 423 = .ok (.aload_n 2, 1) := by decide +kernel
theorem d_Law_law_424 : decode code 424 = .ok (.aload_n 0, 1) := by decide +kernel
theorem d_Law_law_425 : decode code 425 = .ok (.iload_n 3, 1) := by decide +kernel
theorem d_Law_law_426 : decode code 426 = .ok (.iconst 1, 1) := by decide +kernel
theorem d_Law_law_427 : decode code 427 = .ok (.iadd, 1) := by decide +kernel
theorem d_Law_law_428 : decode code 428 = .ok (.iaload, 1) := by decide +kernel
theorem d_Law_law_429 : decode code 429 = .ok (.invokevirtual 49, 3) := by decide +kernel
theorem d_Law_law_432 : decode code 432 = .ok (.lcmp, 1) := by decide +kernel
theorem d_Law_law_433 : decode code 433 = .ok (.ifCond .eq 99, 3) := by decide +kernel
theorem d_Law_law_436 : decode code 436 = .ok (.iconst 0, 1) := by decide +kernel
theorem d_Law_law_437 : decode code 437 = .ok (.ireturn, 1) := by decide +kernel
theorem d_Law_law_438 : decode code 438 = .ok (.aload_n 1, 1) := by decide +kernel
theorem d_Law_law_439 : decode code 439 = .ok (.aload_n 0, 1) := by decide +kernel
theorem d_Law_law_440 : decode code 440 = .ok (.iload_n 3, 1) := by decide +kernel
theorem d_Law_law_441 : decode code 441 = .ok (.iconst 1, 1) := by decide +kernel
theorem d_Law_law_442 : decode code 442 = .ok (.iadd, 1) := by decide +kernel
theorem d_Law_law_443 : decode code 443 = .ok (.iaload, 1) := by decide +kernel
theorem d_Law_law_444 : decode code 444 = .ok (.invokevirtual 50, 3) := by decide +kernel
theorem d_Law_law_447 : decode code 447 = .ok (.aload_n 2, 1) := by decide +kernel
theorem d_Law_law_448 : decode code 448 = .ok (.aload_n 0, 1) := by decide +kernel
theorem d_Law_law_449 : decode code 449 = .ok (.iload_n 3, 1) := by decide +kernel
theorem d_Law_law_450 : decode code 450 = .ok (.iconst 1, 1) := by decide +kernel
theorem d_Law_law_451 : decode code 451 = .ok (.iadd, 1) := by decide +kernel
theorem d_Law_law_452 : decode code 452 = .ok (.iaload, 1) := by decide +kernel
theorem d_Law_law_453 : decode code 453 = .ok (.invokevirtual 53, 3) := by decide +kernel
theorem d_Law_law_456 : decode code 456 = .ok (.if_icmp .eq 76, 3) := by decide +kernel
theorem d_Law_law_459 : decode code 459 = .ok (.iconst 0, 1) := by decide +kernel
theorem d_Law_law_460 : decode code 460 = .ok (.ireturn, 1) := by decide +kernel
theorem d_Law_law_461 : decode code 461 = .ok (.aload_n 1, 1) := by decide +kernel
theorem d_Law_law_462 : decode code 462 = .ok (.aload_n 0, 1) := by decide +kernel
theorem d_Law_law_463 : decode code 463 = .ok (.iload_n 3, 1) := by decide +kernel
theorem d_Law_law_464 : decode code 464 = .ok (.iconst 1, 1) := by decide +kernel
theorem d_Law_law_465 : decode code 465 = .ok (.iadd, 1) := by decide +kernel
theorem d_Law_law_466 : decode code 466 = .ok (.iaload, 1) := by decide +kernel
theorem d_Law_law_467 : decode code 467 = .ok (.aload_n 0, 1) := by decide +kernel
theorem d_Law_law_468 : decode code 468 = .ok (.iload_n 3, 1) := by decide +kernel
theorem d_Law_law_469 : decode code 469 = .ok (.iconst 2, 1) := by decide +kernel
theorem d_Law_law_470 : decode code 470 = .ok (.iadd, 1) := by decide +kernel
theorem d_Law_law_471 : decode code 471 = .ok (.iaload, 1) := by decide +kernel
theorem d_Law_law_472 : decode code 472 = .ok (.invokevirtual 54, 3) := by decide +kernel
theorem d_Law_law_475 : decode code 475 = .ok (.aload_n 2, 1) := by decide +kernel
theorem d_Law_law_476 : decode code 476 = .ok (.aload_n 0, 1) := by decide +kernel
theorem d_Law_law_477 : decode code 477 = .ok (.iload_n 3, 1) := by decide +kernel
theorem d_Law_law_478 : decode code 478 = .ok (.iconst 1, 1) := by decide +kernel
theorem d_Law_law_479 : decode code 479 = .ok (.iadd, 1) := by decide +kernel
theorem d_Law_law_480 : decode code 480 = .ok (.iaload, 1) := by decide +kernel
theorem d_Law_law_481 : decode code 481 = .ok (.aload_n 0, 1) := by decide +kernel
theorem d_Law_law_482 : decode code 482 = .ok (.iload_n 3, 1) := by decide +kernel
theorem d_Law_law_483 : decode code 483 = .ok (.iconst 2, 1) := by decide +kernel
theorem d_Law_law_484 : decode code 484 = .ok (.iadd, 1) := by decide +kernel
theorem d_Law_law_485 : decode code 485 = .ok (.iaload, 1) := by decide +kernel
theorem d_Law_law_486 : decode code 486 = .ok (.invokevirtual 58, 3) := by decide +kernel
theorem d_Law_law_489 : decode code 489 = .ok (.lcmp, 1) := by decide +kernel
theorem d_Law_law_490 : decode code 490 = .ok (.ifCond .eq 42, 3) := by decide +kernel
theorem d_Law_law_493 : decode code 493 = .ok (.iconst 0, 1) := by decide +kernel
theorem d_Law_law_494 : decode code 494 = .ok (.ireturn, 1) := by decide +kernel
theorem d_Law_law_495 : decode code 495 = .ok (.aload_n 1, 1) := by decide +kernel
theorem d_Law_law_496 : decode code 496 = .ok (.aload_n 0, 1) := by decide +kernel
theorem d_Law_law_497 : decode code 497 = .ok (.iload_n 3, 1) := by decide +kernel
theorem d_Law_law_498 : decode code 498 = .ok (.iconst 1, 1) := by decide +kernel
theorem d_Law_law_499 : decode code 499 = .ok (.iadd, 1) := by decide +kernel
theorem d_Law_law_500 : decode code 500 = .ok (.iaload, 1) := by decide +kernel
theorem d_Law_law_501 : decode code 501 = .ok (.invokevirtual 59, 3) := by decide +kernel
theorem d_Law_law_504 : decode code 504 = .ok (.aload_n 2, 1) := by decide +kernel
theorem d_Law_law_505 : decode code 505 = .ok (.aload_n 0, 1) := by decide +kernel
theorem d_Law_law_506 : decode code 506 = .ok (.iload_n 3, 1) := by decide +kernel
theorem d_Law_law_507 : decode code 507 = .ok (.iconst 1, 1) := by decide +kernel
theorem d_Law_law_508 : decode code 508 = .ok (.iadd, 1) := by decide +kernel
theorem d_Law_law_509 : decode code 509 = .ok (.iaload, 1) := by decide +kernel
theorem d_Law_law_510 : decode code 510 = .ok (.invokevirtual 62, 3) := by decide +kernel
theorem d_Law_law_513 : decode code 513 = .ok (.if_icmp .eq 19, 3) := by decide +kernel
theorem d_Law_law_516 : decode code 516 = .ok (.iconst 0, 1) := by decide +kernel
theorem d_Law_law_517 : decode code 517 = .ok (.ireturn, 1) := by decide +kernel
theorem d_Law_law_518 : decode code 518 = .ok (.aload_n 1, 1) := by decide +kernel
theorem d_Law_law_519 : decode code 519 = .ok (.invokevirtual 63, 3) := by decide +kernel
theorem d_Law_law_522 : decode code 522 = .ok (.aload_n 2, 1) := by decide +kernel
theorem d_Law_law_523 : decode code 523 = .ok (.invokevirtual 67, 3) := by decide +kernel
theorem d_Law_law_526 : decode code 526 = .ok (.lcmp, 1) := by decide +kernel
theorem d_Law_law_527 : decode code 527 = .ok (.ifCond .eq 5, 3) := by decide +kernel
theorem d_Law_law_530 : decode code 530 = .ok (.iconst 0, 1) := by decide +kernel
theorem d_Law_law_531 : decode code 531 = .ok (.ireturn, 1) := by decide +kernel
theorem d_Law_law_532 : decode code 532 = .ok (.iinc 3 9, 3) := by decide +kernel
theorem d_Law_law_535 : decode code 535 = .ok (.goto (-517), 3) := by decide +kernel
theorem d_Law_law_538 : decode code 538 = .ok (.iconst 1, 1) := by decide +kernel
theorem d_Law_law_539 : decode code 539 = .ok (.ireturn, 1) := by decide +kernel
