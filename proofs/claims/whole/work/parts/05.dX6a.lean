theorem dX6_init_0 : decode cX6_init 0 = .ok (.aload_n 0, 1) := by decide +kernel
theorem dX6_init_1 : decode cX6_init 1 = .ok (.invokespecial 1, 3) := by decide +kernel
theorem dX6_init_4 : decode cX6_init 4 = .ok (.aload_n 0, 1) := by decide +kernel
theorem dX6_init_5 : decode cX6_init 5 = .ok (.bipush 6, 2) := by decide +kernel
theorem dX6_init_7 : decode cX6_init 7 = .ok (.newarray .int, 2) := by decide +kernel
theorem dX6_init_9 : decode cX6_init 9 = .ok (.putfield 7, 3) := by decide +kernel
theorem dX6_init_12 : decode cX6_init 12 = .ok (.aload_n 0, 1) := by decide +kernel
theorem dX6_init_13 : decode cX6_init 13 = .ok (.bipush 6, 2) := by decide +kernel
theorem dX6_init_15 : decode cX6_init 15 = .ok (.newarray .int, 2) := by decide +kernel
theorem dX6_init_17 : decode cX6_init 17 = .ok (.putfield 13, 3) := by decide +kernel
theorem dX6_init_20 : decode cX6_init 20 = .ok (.aload_n 0, 1) := by decide +kernel
theorem dX6_init_21 : decode cX6_init 21 = .ok (.bipush 30, 2) := by decide +kernel
theorem dX6_init_23 : decode cX6_init 23 = .ok (.newarray .int, 2) := by decide +kernel
theorem dX6_init_25 : decode cX6_init 25 = .ok (.putfield 16, 3) := by decide +kernel
theorem dX6_init_28 : decode cX6_init 28 = .ok (.aload_n 0, 1) := by decide +kernel
theorem dX6_init_29 : decode cX6_init 29 = .ok (.bipush 96, 2) := by decide +kernel
theorem dX6_init_31 : decode cX6_init 31 = .ok (.newarray .int, 2) := by decide +kernel
theorem dX6_init_33 : decode cX6_init 33 = .ok (.putfield 19, 3) := by decide +kernel
theorem dX6_init_36 : decode cX6_init 36 = .ok (.aload_n 0, 1) := by decide +kernel
theorem dX6_init_37 : decode cX6_init 37 = .ok (.bipush 6, 2) := by decide +kernel
theorem dX6_init_39 : decode cX6_init 39 = .ok (.newarray .int, 2) := by decide +kernel
theorem dX6_init_41 : decode cX6_init 41 = .ok (.putfield 22, 3) := by decide +kernel
theorem dX6_init_44 : decode cX6_init 44 = .ok (.aload_n 0, 1) := by decide +kernel
theorem dX6_init_45 : decode cX6_init 45 = .ok (.sipush 160, 3) := by decide +kernel
theorem dX6_init_48 : decode cX6_init 48 = .ok (.newarray .int, 2) := by decide +kernel
theorem dX6_init_50 : decode cX6_init 50 = .ok (.putfield 25, 3) := by decide +kernel
theorem dX6_init_53 : decode cX6_init 53 = .ok (.aload_n 0, 1) := by decide +kernel
theorem dX6_init_54 : decode cX6_init 54 = .ok (.sipush 1200, 3) := by decide +kernel
theorem dX6_init_57 : decode cX6_init 57 = .ok (.newarray .int, 2) := by decide +kernel
theorem dX6_init_59 : decode cX6_init 59 = .ok (.putfield 28, 3) := by decide +kernel
theorem dX6_init_62 : decode cX6_init 62 = .ok (.aload_n 0, 1) := by decide +kernel
theorem dX6_init_63 : decode cX6_init 63 = .ok (.bipush 24, 2) := by decide +kernel
theorem dX6_init_65 : decode cX6_init 65 = .ok (.newarray .int, 2) := by decide +kernel
theorem dX6_init_67 : decode cX6_init 67 = .ok (.putfield 31, 3) := by decide +kernel
theorem dX6_init_70 : decode cX6_init 70 = .ok (.aload_n 0, 1) := by decide +kernel
theorem dX6_init_71 : decode cX6_init 71 = .ok (.sipush 132, 3) := by decide +kernel
theorem dX6_init_74 : decode cX6_init 74 = .ok (.newarray .int, 2) := by decide +kernel
theorem dX6_init_76 : decode cX6_init 76 = .ok (.putfield 34, 3) := by decide +kernel
theorem dX6_init_79 : decode cX6_init 79 = .ok (.aload_n 0, 1) := by decide +kernel
theorem dX6_init_80 : decode cX6_init 80 = .ok (.iconst 3, 1) := by decide +kernel
theorem dX6_init_81 : decode cX6_init 81 = .ok (.newarray .int, 2) := by decide +kernel
theorem dX6_init_83 : decode cX6_init 83 = .ok (.putfield 37, 3) := by decide +kernel
theorem dX6_init_86 : decode cX6_init 86 = .ok (.aload_n 0, 1) := by decide +kernel
theorem dX6_init_87 : decode cX6_init 87 = .ok (.iconst 4, 1) := by decide +kernel
theorem dX6_init_88 : decode cX6_init 88 = .ok (.newarray .int, 2) := by decide +kernel
theorem dX6_init_90 : decode cX6_init 90 = .ok (.dup, 1) := by decide +kernel
theorem dX6_init_91 : decode cX6_init 91 = .ok (.iconst 0, 1) := by decide +kernel
theorem dX6_init_92 : decode cX6_init 92 = .ok (.iconst (-1), 1) := by decide +kernel
theorem dX6_init_93 : decode cX6_init 93 = .ok (.iastore, 1) := by decide +kernel
theorem dX6_init_94 : decode cX6_init 94 = .ok (.dup, 1) := by decide +kernel
theorem dX6_init_95 : decode cX6_init 95 = .ok (.iconst 1, 1) := by decide +kernel
theorem dX6_init_96 : decode cX6_init 96 = .ok (.iconst (-1), 1) := by decide +kernel
theorem dX6_init_97 : decode cX6_init 97 = .ok (.iastore, 1) := by decide +kernel
theorem dX6_init_98 : decode cX6_init 98 = .ok (.dup, 1) := by decide +kernel
theorem dX6_init_99 : decode cX6_init 99 = .ok (.iconst 2, 1) := by decide +kernel
theorem dX6_init_100 : decode cX6_init 100 = .ok (.iconst (-1), 1) := by decide +kernel
theorem dX6_init_101 : decode cX6_init 101 = .ok (.iastore, 1) := by decide +kernel
theorem dX6_init_102 : decode cX6_init 102 = .ok (.dup, 1) := by decide +kernel
theorem dX6_init_103 : decode cX6_init 103 = .ok (.iconst 3, 1) := by decide +kernel
theorem dX6_init_104 : decode cX6_init 104 = .ok (.iconst (-1), 1) := by decide +kernel
theorem dX6_init_105 : decode cX6_init 105 = .ok (.iastore, 1) := by decide +kernel
theorem dX6_init_106 : decode cX6_init 106 = .ok (.putfield 40, 3) := by decide +kernel
theorem dX6_init_109 : decode cX6_init 109 = .ok (.aload_n 0, 1) := by decide +kernel
theorem dX6_init_110 : decode cX6_init 110 = .ok (.iconst 4, 1) := by decide +kernel
theorem dX6_init_111 : decode cX6_init 111 = .ok (.newarray .int, 2) := by decide +kernel
theorem dX6_init_113 : decode cX6_init 113 = .ok (.putfield 43, 3) := by decide +kernel
theorem dX6_init_116 : decode cX6_init 116 = .ok (.aload_n 0, 1) := by decide +kernel
theorem dX6_init_117 : decode cX6_init 117 = .ok (.sipush 160, 3) := by decide +kernel
theorem dX6_init_120 : decode cX6_init 120 = .ok (.newarray .int, 2) := by decide +kernel
theorem dX6_init_122 : decode cX6_init 122 = .ok (.putfield 46, 3) := by decide +kernel
theorem dX6_init_125 : decode cX6_init 125 = .ok (.aload_n 0, 1) := by decide +kernel
theorem dX6_init_126 : decode cX6_init 126 = .ok (.bipush 34, 2) := by decide +kernel
theorem dX6_init_128 : decode cX6_init 128 = .ok (.newarray .int, 2) := by decide +kernel
theorem dX6_init_130 : decode cX6_init 130 = .ok (.dup, 1) := by decide +kernel
theorem dX6_init_131 : decode cX6_init 131 = .ok (.iconst 0, 1) := by decide +kernel
theorem dX6_init_132 : decode cX6_init 132 = .ok (.bipush 103, 2) := by decide +kernel
theorem dX6_init_134 : decode cX6_init 134 = .ok (.iastore, 1) := by decide +kernel
theorem dX6_init_135 : decode cX6_init 135 = .ok (.dup, 1) := by decide +kernel
theorem dX6_init_136 : decode cX6_init 136 = .ok (.iconst 1, 1) := by decide +kernel
theorem dX6_init_137 : decode cX6_init 137 = .ok (.bipush 111, 2) := by decide +kernel
theorem dX6_init_139 : decode cX6_init 139 = .ok (.iastore, 1) := by decide +kernel
theorem dX6_init_140 : decode cX6_init 140 = .ok (.dup, 1) := by decide +kernel
theorem dX6_init_141 : decode cX6_init 141 = .ok (.iconst 2, 1) := by decide +kernel
theorem dX6_init_142 : decode cX6_init 142 = .ok (.bipush 101, 2) := by decide +kernel
theorem dX6_init_144 : decode cX6_init 144 = .ok (.iastore, 1) := by decide +kernel
theorem dX6_init_145 : decode cX6_init 145 = .ok (.dup, 1) := by decide +kernel
theorem dX6_init_146 : decode cX6_init 146 = .ok (.iconst 3, 1) := by decide +kernel
theorem dX6_init_147 : decode cX6_init 147 = .ok (.bipush 115, 2) := by decide +kernel
theorem dX6_init_149 : decode cX6_init 149 = .ok (.iastore, 1) := by decide +kernel
theorem dX6_init_150 : decode cX6_init 150 = .ok (.dup, 1) := by decide +kernel
theorem dX6_init_151 : decode cX6_init 151 = .ok (.iconst 4, 1) := by decide +kernel
theorem dX6_init_152 : decode cX6_init 152 = .ok (.bipush 32, 2) := by decide +kernel
theorem dX6_init_154 : decode cX6_init 154 = .ok (.iastore, 1) := by decide +kernel
theorem dX6_init_155 : decode cX6_init 155 = .ok (.dup, 1) := by decide +kernel
theorem dX6_init_156 : decode cX6_init 156 = .ok (.iconst 5, 1) := by decide +kernel
theorem dX6_init_157 : decode cX6_init 157 = .ok (.bipush 52, 2) := by decide +kernel
theorem dX6_init_159 : decode cX6_init 159 = .ok (.iastore, 1) := by decide +kernel
theorem dX6_init_160 : decode cX6_init 160 = .ok (.dup, 1) := by decide +kernel
theorem dX6_init_161 : decode cX6_init 161 = .ok (.bipush 6, 2) := by decide +kernel
theorem dX6_init_163 : decode cX6_init 163 = .ok (.bipush 32, 2) := by decide +kernel
theorem dX6_init_165 : decode cX6_init 165 = .ok (.iastore, 1) := by decide +kernel
theorem dX6_init_166 : decode cX6_init 166 = .ok (.dup, 1) := by decide +kernel
theorem dX6_init_167 : decode cX6_init 167 = .ok (.bipush 7, 2) := by decide +kernel
theorem dX6_init_169 : decode cX6_init 169 = .ok (.bipush 59, 2) := by decide +kernel
theorem dX6_init_171 : decode cX6_init 171 = .ok (.iastore, 1) := by decide +kernel
theorem dX6_init_172 : decode cX6_init 172 = .ok (.dup, 1) := by decide +kernel
theorem dX6_init_173 : decode cX6_init 173 = .ok (.bipush 8, 2) := by decide +kernel
theorem dX6_init_175 : decode cX6_init 175 = .ok (.bipush 32, 2) := by decide +kernel
theorem dX6_init_177 : decode cX6_init 177 = .ok (.iastore, 1) := by decide +kernel
theorem dX6_init_178 : decode cX6_init 178 = .ok (.dup, 1) := by decide +kernel
theorem dX6_init_179 : decode cX6_init 179 = .ok (.bipush 9, 2) := by decide +kernel
theorem dX6_init_181 : decode cX6_init 181 = .ok (.bipush 109, 2) := by decide +kernel
theorem dX6_init_183 : decode cX6_init 183 = .ok (.iastore, 1) := by decide +kernel
theorem dX6_init_184 : decode cX6_init 184 = .ok (.dup, 1) := by decide +kernel
theorem dX6_init_185 : decode cX6_init 185 = .ok (.bipush 10, 2) := by decide +kernel
theorem dX6_init_187 : decode cX6_init 187 = .ok (.bipush 105, 2) := by decide +kernel
theorem dX6_init_189 : decode cX6_init 189 = .ok (.iastore, 1) := by decide +kernel
theorem dX6_init_190 : decode cX6_init 190 = .ok (.dup, 1) := by decide +kernel
theorem dX6_init_191 : decode cX6_init 191 = .ok (.bipush 11, 2) := by decide +kernel
theorem dX6_init_193 : decode cX6_init 193 = .ok (.bipush 110, 2) := by decide +kernel
theorem dX6_init_195 : decode cX6_init 195 = .ok (.iastore, 1) := by decide +kernel
theorem dX6_init_196 : decode cX6_init 196 = .ok (.dup, 1) := by decide +kernel
theorem dX6_init_197 : decode cX6_init 197 = .ok (.bipush 12, 2) := by decide +kernel
theorem dX6_init_199 : decode cX6_init 199 = .ok (.bipush 100, 2) := by decide +kernel
theorem dX6_init_201 : decode cX6_init 201 = .ok (.iastore, 1) := by decide +kernel
theorem dX6_init_202 : decode cX6_init 202 = .ok (.dup, 1) := by decide +kernel
theorem dX6_init_203 : decode cX6_init 203 = .ok (.bipush 13, 2) := by decide +kernel
theorem dX6_init_205 : decode cX6_init 205 = .ok (.bipush 115, 2) := by decide +kernel
theorem dX6_init_207 : decode cX6_init 207 = .ok (.iastore, 1) := by decide +kernel
theorem dX6_init_208 : decode cX6_init 208 = .ok (.dup, 1) := by decide +kernel
theorem dX6_init_209 : decode cX6_init 209 = .ok (.bipush 14, 2) := by decide +kernel
theorem dX6_init_211 : decode cX6_init 211 = .ok (.bipush 32, 2) := by decide +kernel
theorem dX6_init_213 : decode cX6_init 213 = .ok (.iastore, 1) := by decide +kernel
theorem dX6_init_214 : decode cX6_init 214 = .ok (.dup, 1) := by decide +kernel
theorem dX6_init_215 : decode cX6_init 215 = .ok (.bipush 15, 2) := by decide +kernel
theorem dX6_init_217 : decode cX6_init 217 = .ok (.bipush 119, 2) := by decide +kernel
theorem dX6_init_219 : decode cX6_init 219 = .ok (.iastore, 1) := by decide +kernel
theorem dX6_init_220 : decode cX6_init 220 = .ok (.dup, 1) := by decide +kernel
theorem dX6_init_221 : decode cX6_init 221 = .ok (.bipush 16, 2) := by decide +kernel
theorem dX6_init_223 : decode cX6_init 223 = .ok (.bipush 101, 2) := by decide +kernel
theorem dX6_init_225 : decode cX6_init 225 = .ok (.iastore, 1) := by decide +kernel
theorem dX6_init_226 : decode cX6_init 226 = .ok (.dup, 1) := by decide +kernel
theorem dX6_init_227 : decode cX6_init 227 = .ok (.bipush 17, 2) := by decide +kernel
theorem dX6_init_229 : decode cX6_init 229 = .ok (.bipush 116, 2) := by decide +kernel
theorem dX6_init_231 : decode cX6_init 231 = .ok (.iastore, 1) := by decide +kernel
theorem dX6_init_232 : decode cX6_init 232 = .ok (.dup, 1) := by decide +kernel
theorem dX6_init_233 : decode cX6_init 233 = .ok (.bipush 18, 2) := by decide +kernel
theorem dX6_init_235 : decode cX6_init 235 = .ok (.bipush 32, 2) := by decide +kernel
theorem dX6_init_237 : decode cX6_init 237 = .ok (.iastore, 1) := by decide +kernel
theorem dX6_init_238 : decode cX6_init 238 = .ok (.dup, 1) := by decide +kernel
theorem dX6_init_239 : decode cX6_init 239 = .ok (.bipush 19, 2) := by decide +kernel
theorem dX6_init_241 : decode cX6_init 241 = .ok (.bipush 42, 2) := by decide +kernel
theorem dX6_init_243 : decode cX6_init 243 = .ok (.iastore, 1) := by decide +kernel
theorem dX6_init_244 : decode cX6_init 244 = .ok (.dup, 1) := by decide +kernel
theorem dX6_init_245 : decode cX6_init 245 = .ok (.bipush 20, 2) := by decide +kernel
theorem dX6_init_247 : decode cX6_init 247 = .ok (.bipush 32, 2) := by decide +kernel
theorem dX6_init_249 : decode cX6_init 249 = .ok (.iastore, 1) := by decide +kernel
theorem dX6_init_250 : decode cX6_init 250 = .ok (.dup, 1) := by decide +kernel
theorem dX6_init_251 : decode cX6_init 251 = .ok (.bipush 21, 2) := by decide +kernel
theorem dX6_init_253 : decode cX6_init 253 = .ok (.bipush 50, 2) := by decide +kernel
theorem dX6_init_255 : decode cX6_init 255 = .ok (.iastore, 1) := by decide +kernel
theorem dX6_init_256 : decode cX6_init 256 = .ok (.dup, 1) := by decide +kernel
theorem dX6_init_257 : decode cX6_init 257 = .ok (.bipush 22, 2) := by decide +kernel
theorem dX6_init_259 : decode cX6_init 259 = .ok (.bipush 32, 2) := by decide +kernel
theorem dX6_init_261 : decode cX6_init 261 = .ok (.iastore, 1) := by decide +kernel
theorem dX6_init_262 : decode cX6_init 262 = .ok (.dup, 1) := by decide +kernel
theorem dX6_init_263 : decode cX6_init 263 = .ok (.bipush 23, 2) := by decide +kernel
theorem dX6_init_265 : decode cX6_init 265 = .ok (.bipush 59, 2) := by decide +kernel
theorem dX6_init_267 : decode cX6_init 267 = .ok (.iastore, 1) := by decide +kernel
theorem dX6_init_268 : decode cX6_init 268 = .ok (.dup, 1) := by decide +kernel
theorem dX6_init_269 : decode cX6_init 269 = .ok (.bipush 24, 2) := by decide +kernel
theorem dX6_init_271 : decode cX6_init 271 = .ok (.bipush 32, 2) := by decide +kernel
theorem dX6_init_273 : decode cX6_init 273 = .ok (.iastore, 1) := by decide +kernel
theorem dX6_init_274 : decode cX6_init 274 = .ok (.dup, 1) := by decide +kernel
theorem dX6_init_275 : decode cX6_init 275 = .ok (.bipush 25, 2) := by decide +kernel
theorem dX6_init_277 : decode cX6_init 277 = .ok (.bipush 119, 2) := by decide +kernel
theorem dX6_init_279 : decode cX6_init 279 = .ok (.iastore, 1) := by decide +kernel
theorem dX6_init_280 : decode cX6_init 280 = .ok (.dup, 1) := by decide +kernel
theorem dX6_init_281 : decode cX6_init 281 = .ok (.bipush 26, 2) := by decide +kernel
theorem dX6_init_283 : decode cX6_init 283 = .ok (.bipush 101, 2) := by decide +kernel
theorem dX6_init_285 : decode cX6_init 285 = .ok (.iastore, 1) := by decide +kernel
theorem dX6_init_286 : decode cX6_init 286 = .ok (.dup, 1) := by decide +kernel
theorem dX6_init_287 : decode cX6_init 287 = .ok (.bipush 27, 2) := by decide +kernel
theorem dX6_init_289 : decode cX6_init 289 = .ok (.bipush 97, 2) := by decide +kernel
theorem dX6_init_291 : decode cX6_init 291 = .ok (.iastore, 1) := by decide +kernel
theorem dX6_init_292 : decode cX6_init 292 = .ok (.dup, 1) := by decide +kernel
theorem dX6_init_293 : decode cX6_init 293 = .ok (.bipush 28, 2) := by decide +kernel
theorem dX6_init_295 : decode cX6_init 295 = .ok (.bipush 114, 2) := by decide +kernel
theorem dX6_init_297 : decode cX6_init 297 = .ok (.iastore, 1) := by decide +kernel
theorem dX6_init_298 : decode cX6_init 298 = .ok (.dup, 1) := by decide +kernel
theorem dX6_init_299 : decode cX6_init 299 = .ok (.bipush 29, 2) := by decide +kernel
theorem dX6_init_301 : decode cX6_init 301 = .ok (.bipush 115, 2) := by decide +kernel
theorem dX6_init_303 : decode cX6_init 303 = .ok (.iastore, 1) := by decide +kernel
theorem dX6_init_304 : decode cX6_init 304 = .ok (.dup, 1) := by decide +kernel
theorem dX6_init_305 : decode cX6_init 305 = .ok (.bipush 30, 2) := by decide +kernel
theorem dX6_init_307 : decode cX6_init 307 = .ok (.bipush 32, 2) := by decide +kernel
theorem dX6_init_309 : decode cX6_init 309 = .ok (.iastore, 1) := by decide +kernel
theorem dX6_init_310 : decode cX6_init 310 = .ok (.dup, 1) := by decide +kernel
theorem dX6_init_311 : decode cX6_init 311 = .ok (.bipush 31, 2) := by decide +kernel
theorem dX6_init_313 : decode cX6_init 313 = .ok (.bipush 49, 2) := by decide +kernel
theorem dX6_init_315 : decode cX6_init 315 = .ok (.iastore, 1) := by decide +kernel
theorem dX6_init_316 : decode cX6_init 316 = .ok (.dup, 1) := by decide +kernel
theorem dX6_init_317 : decode cX6_init 317 = .ok (.bipush 32, 2) := by decide +kernel
theorem dX6_init_319 : decode cX6_init 319 = .ok (.bipush 32, 2) := by decide +kernel
theorem dX6_init_321 : decode cX6_init 321 = .ok (.iastore, 1) := by decide +kernel
theorem dX6_init_322 : decode cX6_init 322 = .ok (.dup, 1) := by decide +kernel
theorem dX6_init_323 : decode cX6_init 323 = .ok (.bipush 33, 2) := by decide +kernel
theorem dX6_init_325 : decode cX6_init 325 = .ok (.bipush 59, 2) := by decide +kernel
theorem dX6_init_327 : decode cX6_init 327 = .ok (.iastore, 1) := by decide +kernel
theorem dX6_init_328 : decode cX6_init 328 = .ok (.putfield 49, 3) := by decide +kernel
theorem dX6_init_331 : decode cX6_init 331 = .ok (.aload_n 0, 1) := by decide +kernel
theorem dX6_init_332 : decode cX6_init 332 = .ok (.bipush 96, 2) := by decide +kernel
theorem dX6_init_334 : decode cX6_init 334 = .ok (.newarray .int, 2) := by decide +kernel
theorem dX6_init_336 : decode cX6_init 336 = .ok (.dup, 1) := by decide +kernel
theorem dX6_init_337 : decode cX6_init 337 = .ok (.iconst 0, 1) := by decide +kernel
theorem dX6_init_338 : decode cX6_init 338 = .ok (.bipush 103, 2) := by decide +kernel
theorem dX6_init_340 : decode cX6_init 340 = .ok (.iastore, 1) := by decide +kernel
theorem dX6_init_341 : decode cX6_init 341 = .ok (.dup, 1) := by decide +kernel
theorem dX6_init_342 : decode cX6_init 342 = .ok (.iconst 1, 1) := by decide +kernel
theorem dX6_init_343 : decode cX6_init 343 = .ok (.bipush 111, 2) := by decide +kernel
theorem dX6_init_345 : decode cX6_init 345 = .ok (.iastore, 1) := by decide +kernel
theorem dX6_init_346 : decode cX6_init 346 = .ok (.dup, 1) := by decide +kernel
theorem dX6_init_347 : decode cX6_init 347 = .ok (.iconst 2, 1) := by decide +kernel
theorem dX6_init_348 : decode cX6_init 348 = .ok (.bipush 101, 2) := by decide +kernel
theorem dX6_init_350 : decode cX6_init 350 = .ok (.iastore, 1) := by decide +kernel
theorem dX6_init_351 : decode cX6_init 351 = .ok (.dup, 1) := by decide +kernel
theorem dX6_init_352 : decode cX6_init 352 = .ok (.iconst 3, 1) := by decide +kernel
theorem dX6_init_353 : decode cX6_init 353 = .ok (.bipush 115, 2) := by decide +kernel
theorem dX6_init_355 : decode cX6_init 355 = .ok (.iastore, 1) := by decide +kernel
theorem dX6_init_356 : decode cX6_init 356 = .ok (.dup, 1) := by decide +kernel
theorem dX6_init_357 : decode cX6_init 357 = .ok (.iconst 4, 1) := by decide +kernel
theorem dX6_init_358 : decode cX6_init 358 = .ok (.bipush 32, 2) := by decide +kernel
theorem dX6_init_360 : decode cX6_init 360 = .ok (.iastore, 1) := by decide +kernel
theorem dX6_init_361 : decode cX6_init 361 = .ok (.dup, 1) := by decide +kernel
theorem dX6_init_362 : decode cX6_init 362 = .ok (.iconst 5, 1) := by decide +kernel
theorem dX6_init_363 : decode cX6_init 363 = .ok (.bipush 32, 2) := by decide +kernel
theorem dX6_init_365 : decode cX6_init 365 = .ok (.iastore, 1) := by decide +kernel
theorem dX6_init_366 : decode cX6_init 366 = .ok (.dup, 1) := by decide +kernel
theorem dX6_init_367 : decode cX6_init 367 = .ok (.bipush 6, 2) := by decide +kernel
theorem dX6_init_369 : decode cX6_init 369 = .ok (.bipush 32, 2) := by decide +kernel
theorem dX6_init_371 : decode cX6_init 371 = .ok (.iastore, 1) := by decide +kernel
theorem dX6_init_372 : decode cX6_init 372 = .ok (.dup, 1) := by decide +kernel
theorem dX6_init_373 : decode cX6_init 373 = .ok (.bipush 7, 2) := by decide +kernel
theorem dX6_init_375 : decode cX6_init 375 = .ok (.bipush 32, 2) := by decide +kernel
theorem dX6_init_377 : decode cX6_init 377 = .ok (.iastore, 1) := by decide +kernel
theorem dX6_init_378 : decode cX6_init 378 = .ok (.dup, 1) := by decide +kernel
theorem dX6_init_379 : decode cX6_init 379 = .ok (.bipush 8, 2) := by decide +kernel
theorem dX6_init_381 : decode cX6_init 381 = .ok (.bipush 109, 2) := by decide +kernel
theorem dX6_init_383 : decode cX6_init 383 = .ok (.iastore, 1) := by decide +kernel
theorem dX6_init_384 : decode cX6_init 384 = .ok (.dup, 1) := by decide +kernel
theorem dX6_init_385 : decode cX6_init 385 = .ok (.bipush 9, 2) := by decide +kernel
theorem dX6_init_387 : decode cX6_init 387 = .ok (.bipush 105, 2) := by decide +kernel
theorem dX6_init_389 : decode cX6_init 389 = .ok (.iastore, 1) := by decide +kernel
theorem dX6_init_390 : decode cX6_init 390 = .ok (.dup, 1) := by decide +kernel
theorem dX6_init_391 : decode cX6_init 391 = .ok (.bipush 10, 2) := by decide +kernel
theorem dX6_init_393 : decode cX6_init 393 = .ok (.bipush 110, 2) := by decide +kernel
theorem dX6_init_395 : decode cX6_init 395 = .ok (.iastore, 1) := by decide +kernel
theorem dX6_init_396 : decode cX6_init 396 = .ok (.dup, 1) := by decide +kernel
theorem dX6_init_397 : decode cX6_init 397 = .ok (.bipush 11, 2) := by decide +kernel
theorem dX6_init_399 : decode cX6_init 399 = .ok (.bipush 100, 2) := by decide +kernel
theorem dX6_init_401 : decode cX6_init 401 = .ok (.iastore, 1) := by decide +kernel
theorem dX6_init_402 : decode cX6_init 402 = .ok (.dup, 1) := by decide +kernel
theorem dX6_init_403 : decode cX6_init 403 = .ok (.bipush 12, 2) := by decide +kernel
theorem dX6_init_405 : decode cX6_init 405 = .ok (.bipush 115, 2) := by decide +kernel
theorem dX6_init_407 : decode cX6_init 407 = .ok (.iastore, 1) := by decide +kernel
theorem dX6_init_408 : decode cX6_init 408 = .ok (.dup, 1) := by decide +kernel
theorem dX6_init_409 : decode cX6_init 409 = .ok (.bipush 13, 2) := by decide +kernel
theorem dX6_init_411 : decode cX6_init 411 = .ok (.bipush 32, 2) := by decide +kernel
theorem dX6_init_413 : decode cX6_init 413 = .ok (.iastore, 1) := by decide +kernel
theorem dX6_init_414 : decode cX6_init 414 = .ok (.dup, 1) := by decide +kernel
theorem dX6_init_415 : decode cX6_init 415 = .ok (.bipush 14, 2) := by decide +kernel
theorem dX6_init_417 : decode cX6_init 417 = .ok (.bipush 32, 2) := by decide +kernel
theorem dX6_init_419 : decode cX6_init 419 = .ok (.iastore, 1) := by decide +kernel
theorem dX6_init_420 : decode cX6_init 420 = .ok (.dup, 1) := by decide +kernel
theorem dX6_init_421 : decode cX6_init 421 = .ok (.bipush 15, 2) := by decide +kernel
theorem dX6_init_423 : decode cX6_init 423 = .ok (.bipush 32, 2) := by decide +kernel
theorem dX6_init_425 : decode cX6_init 425 = .ok (.iastore, 1) := by decide +kernel
theorem dX6_init_426 : decode cX6_init 426 = .ok (.dup, 1) := by decide +kernel
theorem dX6_init_427 : decode cX6_init 427 = .ok (.bipush 16, 2) := by decide +kernel
theorem dX6_init_429 : decode cX6_init 429 = .ok (.bipush 119, 2) := by decide +kernel
theorem dX6_init_431 : decode cX6_init 431 = .ok (.iastore, 1) := by decide +kernel
theorem dX6_init_432 : decode cX6_init 432 = .ok (.dup, 1) := by decide +kernel
theorem dX6_init_433 : decode cX6_init 433 = .ok (.bipush 17, 2) := by decide +kernel
theorem dX6_init_435 : decode cX6_init 435 = .ok (.bipush 101, 2) := by decide +kernel
theorem dX6_init_437 : decode cX6_init 437 = .ok (.iastore, 1) := by decide +kernel
theorem dX6_init_438 : decode cX6_init 438 = .ok (.dup, 1) := by decide +kernel
theorem dX6_init_439 : decode cX6_init 439 = .ok (.bipush 18, 2) := by decide +kernel
theorem dX6_init_441 : decode cX6_init 441 = .ok (.bipush 97, 2) := by decide +kernel
theorem dX6_init_443 : decode cX6_init 443 = .ok (.iastore, 1) := by decide +kernel
theorem dX6_init_444 : decode cX6_init 444 = .ok (.dup, 1) := by decide +kernel
theorem dX6_init_445 : decode cX6_init 445 = .ok (.bipush 19, 2) := by decide +kernel
theorem dX6_init_447 : decode cX6_init 447 = .ok (.bipush 114, 2) := by decide +kernel
theorem dX6_init_449 : decode cX6_init 449 = .ok (.iastore, 1) := by decide +kernel
theorem dX6_init_450 : decode cX6_init 450 = .ok (.dup, 1) := by decide +kernel
theorem dX6_init_451 : decode cX6_init 451 = .ok (.bipush 20, 2) := by decide +kernel
theorem dX6_init_453 : decode cX6_init 453 = .ok (.bipush 115, 2) := by decide +kernel
theorem dX6_init_455 : decode cX6_init 455 = .ok (.iastore, 1) := by decide +kernel
theorem dX6_init_456 : decode cX6_init 456 = .ok (.dup, 1) := by decide +kernel
theorem dX6_init_457 : decode cX6_init 457 = .ok (.bipush 21, 2) := by decide +kernel
theorem dX6_init_459 : decode cX6_init 459 = .ok (.bipush 32, 2) := by decide +kernel
theorem dX6_init_461 : decode cX6_init 461 = .ok (.iastore, 1) := by decide +kernel
theorem dX6_init_462 : decode cX6_init 462 = .ok (.dup, 1) := by decide +kernel
theorem dX6_init_463 : decode cX6_init 463 = .ok (.bipush 22, 2) := by decide +kernel
theorem dX6_init_465 : decode cX6_init 465 = .ok (.bipush 32, 2) := by decide +kernel
theorem dX6_init_467 : decode cX6_init 467 = .ok (.iastore, 1) := by decide +kernel
theorem dX6_init_468 : decode cX6_init 468 = .ok (.dup, 1) := by decide +kernel
theorem dX6_init_469 : decode cX6_init 469 = .ok (.bipush 23, 2) := by decide +kernel
theorem dX6_init_471 : decode cX6_init 471 = .ok (.bipush 32, 2) := by decide +kernel
theorem dX6_init_473 : decode cX6_init 473 = .ok (.iastore, 1) := by decide +kernel
theorem dX6_init_474 : decode cX6_init 474 = .ok (.dup, 1) := by decide +kernel
theorem dX6_init_475 : decode cX6_init 475 = .ok (.bipush 24, 2) := by decide +kernel
theorem dX6_init_477 : decode cX6_init 477 = .ok (.bipush 115, 2) := by decide +kernel
theorem dX6_init_479 : decode cX6_init 479 = .ok (.iastore, 1) := by decide +kernel
theorem dX6_init_480 : decode cX6_init 480 = .ok (.dup, 1) := by decide +kernel
theorem dX6_init_481 : decode cX6_init 481 = .ok (.bipush 25, 2) := by decide +kernel
theorem dX6_init_483 : decode cX6_init 483 = .ok (.bipush 116, 2) := by decide +kernel
theorem dX6_init_485 : decode cX6_init 485 = .ok (.iastore, 1) := by decide +kernel
theorem dX6_init_486 : decode cX6_init 486 = .ok (.dup, 1) := by decide +kernel
theorem dX6_init_487 : decode cX6_init 487 = .ok (.bipush 26, 2) := by decide +kernel
theorem dX6_init_489 : decode cX6_init 489 = .ok (.bipush 105, 2) := by decide +kernel
theorem dX6_init_491 : decode cX6_init 491 = .ok (.iastore, 1) := by decide +kernel
theorem dX6_init_492 : decode cX6_init 492 = .ok (.dup, 1) := by decide +kernel
theorem dX6_init_493 : decode cX6_init 493 = .ok (.bipush 27, 2) := by decide +kernel
theorem dX6_init_495 : decode cX6_init 495 = .ok (.bipush 116, 2) := by decide +kernel
theorem dX6_init_497 : decode cX6_init 497 = .ok (.iastore, 1) := by decide +kernel
theorem dX6_init_498 : decode cX6_init 498 = .ok (.dup, 1) := by decide +kernel
theorem dX6_init_499 : decode cX6_init 499 = .ok (.bipush 28, 2) := by decide +kernel
theorem dX6_init_501 : decode cX6_init 501 = .ok (.bipush 99, 2) := by decide +kernel
theorem dX6_init_503 : decode cX6_init 503 = .ok (.iastore, 1) := by decide +kernel
theorem dX6_init_504 : decode cX6_init 504 = .ok (.dup, 1) := by decide +kernel
theorem dX6_init_505 : decode cX6_init 505 = .ok (.bipush 29, 2) := by decide +kernel
theorem dX6_init_507 : decode cX6_init 507 = .ok (.bipush 104, 2) := by decide +kernel
theorem dX6_init_509 : decode cX6_init 509 = .ok (.iastore, 1) := by decide +kernel
theorem dX6_init_510 : decode cX6_init 510 = .ok (.dup, 1) := by decide +kernel
theorem dX6_init_511 : decode cX6_init 511 = .ok (.bipush 30, 2) := by decide +kernel
theorem dX6_init_513 : decode cX6_init 513 = .ok (.bipush 32, 2) := by decide +kernel
theorem dX6_init_515 : decode cX6_init 515 = .ok (.iastore, 1) := by decide +kernel
theorem dX6_init_516 : decode cX6_init 516 = .ok (.dup, 1) := by decide +kernel
theorem dX6_init_517 : decode cX6_init 517 = .ok (.bipush 31, 2) := by decide +kernel
theorem dX6_init_519 : decode cX6_init 519 = .ok (.bipush 32, 2) := by decide +kernel
theorem dX6_init_521 : decode cX6_init 521 = .ok (.iastore, 1) := by decide +kernel
theorem dX6_init_522 : decode cX6_init 522 = .ok (.dup, 1) := by decide +kernel
theorem dX6_init_523 : decode cX6_init 523 = .ok (.bipush 32, 2) := by decide +kernel
theorem dX6_init_525 : decode cX6_init 525 = .ok (.bipush 99, 2) := by decide +kernel
theorem dX6_init_527 : decode cX6_init 527 = .ok (.iastore, 1) := by decide +kernel
theorem dX6_init_528 : decode cX6_init 528 = .ok (.dup, 1) := by decide +kernel
theorem dX6_init_529 : decode cX6_init 529 = .ok (.bipush 33, 2) := by decide +kernel
theorem dX6_init_531 : decode cX6_init 531 = .ok (.bipush 111, 2) := by decide +kernel
theorem dX6_init_533 : decode cX6_init 533 = .ok (.iastore, 1) := by decide +kernel
theorem dX6_init_534 : decode cX6_init 534 = .ok (.dup, 1) := by decide +kernel
theorem dX6_init_535 : decode cX6_init 535 = .ok (.bipush 34, 2) := by decide +kernel
theorem dX6_init_537 : decode cX6_init 537 = .ok (.bipush 108, 2) := by decide +kernel
theorem dX6_init_539 : decode cX6_init 539 = .ok (.iastore, 1) := by decide +kernel
theorem dX6_init_540 : decode cX6_init 540 = .ok (.dup, 1) := by decide +kernel
theorem dX6_init_541 : decode cX6_init 541 = .ok (.bipush 35, 2) := by decide +kernel
theorem dX6_init_543 : decode cX6_init 543 = .ok (.bipush 117, 2) := by decide +kernel
theorem dX6_init_545 : decode cX6_init 545 = .ok (.iastore, 1) := by decide +kernel
theorem dX6_init_546 : decode cX6_init 546 = .ok (.dup, 1) := by decide +kernel
theorem dX6_init_547 : decode cX6_init 547 = .ok (.bipush 36, 2) := by decide +kernel
theorem dX6_init_549 : decode cX6_init 549 = .ok (.bipush 109, 2) := by decide +kernel
theorem dX6_init_551 : decode cX6_init 551 = .ok (.iastore, 1) := by decide +kernel
theorem dX6_init_552 : decode cX6_init 552 = .ok (.dup, 1) := by decide +kernel
theorem dX6_init_553 : decode cX6_init 553 = .ok (.bipush 37, 2) := by decide +kernel
theorem dX6_init_555 : decode cX6_init 555 = .ok (.bipush 110, 2) := by decide +kernel
theorem dX6_init_557 : decode cX6_init 557 = .ok (.iastore, 1) := by decide +kernel
theorem dX6_init_558 : decode cX6_init 558 = .ok (.dup, 1) := by decide +kernel
theorem dX6_init_559 : decode cX6_init 559 = .ok (.bipush 38, 2) := by decide +kernel
theorem dX6_init_561 : decode cX6_init 561 = .ok (.bipush 32, 2) := by decide +kernel
theorem dX6_init_563 : decode cX6_init 563 = .ok (.iastore, 1) := by decide +kernel
theorem dX6_init_564 : decode cX6_init 564 = .ok (.dup, 1) := by decide +kernel
theorem dX6_init_565 : decode cX6_init 565 = .ok (.bipush 39, 2) := by decide +kernel
theorem dX6_init_567 : decode cX6_init 567 = .ok (.bipush 32, 2) := by decide +kernel
theorem dX6_init_569 : decode cX6_init 569 = .ok (.iastore, 1) := by decide +kernel
theorem dX6_init_570 : decode cX6_init 570 = .ok (.dup, 1) := by decide +kernel
theorem dX6_init_571 : decode cX6_init 571 = .ok (.bipush 40, 2) := by decide +kernel
theorem dX6_init_573 : decode cX6_init 573 = .ok (.bipush 114, 2) := by decide +kernel
theorem dX6_init_575 : decode cX6_init 575 = .ok (.iastore, 1) := by decide +kernel
theorem dX6_init_576 : decode cX6_init 576 = .ok (.dup, 1) := by decide +kernel
theorem dX6_init_577 : decode cX6_init 577 = .ok (.bipush 41, 2) := by decide +kernel
theorem dX6_init_579 : decode cX6_init 579 = .ok (.bipush 111, 2) := by decide +kernel
theorem dX6_init_581 : decode cX6_init 581 = .ok (.iastore, 1) := by decide +kernel
theorem dX6_init_582 : decode cX6_init 582 = .ok (.dup, 1) := by decide +kernel
theorem dX6_init_583 : decode cX6_init 583 = .ok (.bipush 42, 2) := by decide +kernel
theorem dX6_init_585 : decode cX6_init 585 = .ok (.bipush 119, 2) := by decide +kernel
theorem dX6_init_587 : decode cX6_init 587 = .ok (.iastore, 1) := by decide +kernel
theorem dX6_init_588 : decode cX6_init 588 = .ok (.dup, 1) := by decide +kernel
theorem dX6_init_589 : decode cX6_init 589 = .ok (.bipush 43, 2) := by decide +kernel
theorem dX6_init_591 : decode cX6_init 591 = .ok (.bipush 32, 2) := by decide +kernel
theorem dX6_init_593 : decode cX6_init 593 = .ok (.iastore, 1) := by decide +kernel
theorem dX6_init_594 : decode cX6_init 594 = .ok (.dup, 1) := by decide +kernel
theorem dX6_init_595 : decode cX6_init 595 = .ok (.bipush 44, 2) := by decide +kernel
theorem dX6_init_597 : decode cX6_init 597 = .ok (.bipush 32, 2) := by decide +kernel
theorem dX6_init_599 : decode cX6_init 599 = .ok (.iastore, 1) := by decide +kernel
theorem dX6_init_600 : decode cX6_init 600 = .ok (.dup, 1) := by decide +kernel
theorem dX6_init_601 : decode cX6_init 601 = .ok (.bipush 45, 2) := by decide +kernel
theorem dX6_init_603 : decode cX6_init 603 = .ok (.bipush 32, 2) := by decide +kernel
theorem dX6_init_605 : decode cX6_init 605 = .ok (.iastore, 1) := by decide +kernel
theorem dX6_init_606 : decode cX6_init 606 = .ok (.dup, 1) := by decide +kernel
theorem dX6_init_607 : decode cX6_init 607 = .ok (.bipush 46, 2) := by decide +kernel
theorem dX6_init_609 : decode cX6_init 609 = .ok (.bipush 32, 2) := by decide +kernel
theorem dX6_init_611 : decode cX6_init 611 = .ok (.iastore, 1) := by decide +kernel
theorem dX6_init_612 : decode cX6_init 612 = .ok (.dup, 1) := by decide +kernel
theorem dX6_init_613 : decode cX6_init 613 = .ok (.bipush 47, 2) := by decide +kernel
theorem dX6_init_615 : decode cX6_init 615 = .ok (.bipush 32, 2) := by decide +kernel
theorem dX6_init_617 : decode cX6_init 617 = .ok (.iastore, 1) := by decide +kernel
theorem dX6_init_618 : decode cX6_init 618 = .ok (.dup, 1) := by decide +kernel
theorem dX6_init_619 : decode cX6_init 619 = .ok (.bipush 48, 2) := by decide +kernel
theorem dX6_init_621 : decode cX6_init 621 = .ok (.bipush 119, 2) := by decide +kernel
theorem dX6_init_623 : decode cX6_init 623 = .ok (.iastore, 1) := by decide +kernel
theorem dX6_init_624 : decode cX6_init 624 = .ok (.dup, 1) := by decide +kernel
theorem dX6_init_625 : decode cX6_init 625 = .ok (.bipush 49, 2) := by decide +kernel
theorem dX6_init_627 : decode cX6_init 627 = .ok (.bipush 101, 2) := by decide +kernel
theorem dX6_init_629 : decode cX6_init 629 = .ok (.iastore, 1) := by decide +kernel
theorem dX6_init_630 : decode cX6_init 630 = .ok (.dup, 1) := by decide +kernel
theorem dX6_init_631 : decode cX6_init 631 = .ok (.bipush 50, 2) := by decide +kernel
theorem dX6_init_633 : decode cX6_init 633 = .ok (.bipush 116, 2) := by decide +kernel
theorem dX6_init_635 : decode cX6_init 635 = .ok (.iastore, 1) := by decide +kernel
theorem dX6_init_636 : decode cX6_init 636 = .ok (.dup, 1) := by decide +kernel
theorem dX6_init_637 : decode cX6_init 637 = .ok (.bipush 51, 2) := by decide +kernel
theorem dX6_init_639 : decode cX6_init 639 = .ok (.bipush 32, 2) := by decide +kernel
theorem dX6_init_641 : decode cX6_init 641 = .ok (.iastore, 1) := by decide +kernel
theorem dX6_init_642 : decode cX6_init 642 = .ok (.dup, 1) := by decide +kernel
theorem dX6_init_643 : decode cX6_init 643 = .ok (.bipush 52, 2) := by decide +kernel
theorem dX6_init_645 : decode cX6_init 645 = .ok (.bipush 32, 2) := by decide +kernel
theorem dX6_init_647 : decode cX6_init 647 = .ok (.iastore, 1) := by decide +kernel
theorem dX6_init_648 : decode cX6_init 648 = .ok (.dup, 1) := by decide +kernel
theorem dX6_init_649 : decode cX6_init 649 = .ok (.bipush 53, 2) := by decide +kernel
theorem dX6_init_651 : decode cX6_init 651 = .ok (.bipush 32, 2) := by decide +kernel
theorem dX6_init_653 : decode cX6_init 653 = .ok (.iastore, 1) := by decide +kernel
theorem dX6_init_654 : decode cX6_init 654 = .ok (.dup, 1) := by decide +kernel
theorem dX6_init_655 : decode cX6_init 655 = .ok (.bipush 54, 2) := by decide +kernel
theorem dX6_init_657 : decode cX6_init 657 = .ok (.bipush 32, 2) := by decide +kernel
theorem dX6_init_659 : decode cX6_init 659 = .ok (.iastore, 1) := by decide +kernel
theorem dX6_init_660 : decode cX6_init 660 = .ok (.dup, 1) := by decide +kernel
theorem dX6_init_661 : decode cX6_init 661 = .ok (.bipush 55, 2) := by decide +kernel
theorem dX6_init_663 : decode cX6_init 663 = .ok (.bipush 32, 2) := by decide +kernel
theorem dX6_init_665 : decode cX6_init 665 = .ok (.iastore, 1) := by decide +kernel
theorem dX6_init_666 : decode cX6_init 666 = .ok (.dup, 1) := by decide +kernel
theorem dX6_init_667 : decode cX6_init 667 = .ok (.bipush 56, 2) := by decide +kernel
theorem dX6_init_669 : decode cX6_init 669 = .ok (.bipush 119, 2) := by decide +kernel
theorem dX6_init_671 : decode cX6_init 671 = .ok (.iastore, 1) := by decide +kernel
theorem dX6_init_672 : decode cX6_init 672 = .ok (.dup, 1) := by decide +kernel
theorem dX6_init_673 : decode cX6_init 673 = .ok (.bipush 57, 2) := by decide +kernel
theorem dX6_init_675 : decode cX6_init 675 = .ok (.bipush 111, 2) := by decide +kernel
theorem dX6_init_677 : decode cX6_init 677 = .ok (.iastore, 1) := by decide +kernel
theorem dX6_init_678 : decode cX6_init 678 = .ok (.dup, 1) := by decide +kernel
theorem dX6_init_679 : decode cX6_init 679 = .ok (.bipush 58, 2) := by decide +kernel
theorem dX6_init_681 : decode cX6_init 681 = .ok (.bipush 111, 2) := by decide +kernel
theorem dX6_init_683 : decode cX6_init 683 = .ok (.iastore, 1) := by decide +kernel
theorem dX6_init_684 : decode cX6_init 684 = .ok (.dup, 1) := by decide +kernel
theorem dX6_init_685 : decode cX6_init 685 = .ok (.bipush 59, 2) := by decide +kernel
theorem dX6_init_687 : decode cX6_init 687 = .ok (.bipush 108, 2) := by decide +kernel
theorem dX6_init_689 : decode cX6_init 689 = .ok (.iastore, 1) := by decide +kernel
theorem dX6_init_690 : decode cX6_init 690 = .ok (.dup, 1) := by decide +kernel
theorem dX6_init_691 : decode cX6_init 691 = .ok (.bipush 60, 2) := by decide +kernel
theorem dX6_init_693 : decode cX6_init 693 = .ok (.bipush 32, 2) := by decide +kernel
theorem dX6_init_695 : decode cX6_init 695 = .ok (.iastore, 1) := by decide +kernel
theorem dX6_init_696 : decode cX6_init 696 = .ok (.dup, 1) := by decide +kernel
theorem dX6_init_697 : decode cX6_init 697 = .ok (.bipush 61, 2) := by decide +kernel
theorem dX6_init_699 : decode cX6_init 699 = .ok (.bipush 32, 2) := by decide +kernel
theorem dX6_init_701 : decode cX6_init 701 = .ok (.iastore, 1) := by decide +kernel
theorem dX6_init_702 : decode cX6_init 702 = .ok (.dup, 1) := by decide +kernel
theorem dX6_init_703 : decode cX6_init 703 = .ok (.bipush 62, 2) := by decide +kernel
theorem dX6_init_705 : decode cX6_init 705 = .ok (.bipush 32, 2) := by decide +kernel
theorem dX6_init_707 : decode cX6_init 707 = .ok (.iastore, 1) := by decide +kernel
theorem dX6_init_708 : decode cX6_init 708 = .ok (.dup, 1) := by decide +kernel
theorem dX6_init_709 : decode cX6_init 709 = .ok (.bipush 63, 2) := by decide +kernel
theorem dX6_init_711 : decode cX6_init 711 = .ok (.bipush 32, 2) := by decide +kernel
theorem dX6_init_713 : decode cX6_init 713 = .ok (.iastore, 1) := by decide +kernel
theorem dX6_init_714 : decode cX6_init 714 = .ok (.dup, 1) := by decide +kernel
theorem dX6_init_715 : decode cX6_init 715 = .ok (.bipush 64, 2) := by decide +kernel
theorem dX6_init_717 : decode cX6_init 717 = .ok (.bipush 109, 2) := by decide +kernel
theorem dX6_init_719 : decode cX6_init 719 = .ok (.iastore, 1) := by decide +kernel
theorem dX6_init_720 : decode cX6_init 720 = .ok (.dup, 1) := by decide +kernel
theorem dX6_init_721 : decode cX6_init 721 = .ok (.bipush 65, 2) := by decide +kernel
theorem dX6_init_723 : decode cX6_init 723 = .ok (.bipush 111, 2) := by decide +kernel
theorem dX6_init_725 : decode cX6_init 725 = .ok (.iastore, 1) := by decide +kernel
theorem dX6_init_726 : decode cX6_init 726 = .ok (.dup, 1) := by decide +kernel
theorem dX6_init_727 : decode cX6_init 727 = .ok (.bipush 66, 2) := by decide +kernel
theorem dX6_init_729 : decode cX6_init 729 = .ok (.bipush 114, 2) := by decide +kernel
theorem dX6_init_731 : decode cX6_init 731 = .ok (.iastore, 1) := by decide +kernel
theorem dX6_init_732 : decode cX6_init 732 = .ok (.dup, 1) := by decide +kernel
theorem dX6_init_733 : decode cX6_init 733 = .ok (.bipush 67, 2) := by decide +kernel
theorem dX6_init_735 : decode cX6_init 735 = .ok (.bipush 101, 2) := by decide +kernel
theorem dX6_init_737 : decode cX6_init 737 = .ok (.iastore, 1) := by decide +kernel
theorem dX6_init_738 : decode cX6_init 738 = .ok (.dup, 1) := by decide +kernel
theorem dX6_init_739 : decode cX6_init 739 = .ok (.bipush 68, 2) := by decide +kernel
theorem dX6_init_741 : decode cX6_init 741 = .ok (.bipush 32, 2) := by decide +kernel
theorem dX6_init_743 : decode cX6_init 743 = .ok (.iastore, 1) := by decide +kernel
theorem dX6_init_744 : decode cX6_init 744 = .ok (.dup, 1) := by decide +kernel
theorem dX6_init_745 : decode cX6_init 745 = .ok (.bipush 69, 2) := by decide +kernel
theorem dX6_init_747 : decode cX6_init 747 = .ok (.bipush 32, 2) := by decide +kernel
theorem dX6_init_749 : decode cX6_init 749 = .ok (.iastore, 1) := by decide +kernel
theorem dX6_init_750 : decode cX6_init 750 = .ok (.dup, 1) := by decide +kernel
theorem dX6_init_751 : decode cX6_init 751 = .ok (.bipush 70, 2) := by decide +kernel
theorem dX6_init_753 : decode cX6_init 753 = .ok (.bipush 32, 2) := by decide +kernel
theorem dX6_init_755 : decode cX6_init 755 = .ok (.iastore, 1) := by decide +kernel
theorem dX6_init_756 : decode cX6_init 756 = .ok (.dup, 1) := by decide +kernel
theorem dX6_init_757 : decode cX6_init 757 = .ok (.bipush 71, 2) := by decide +kernel
theorem dX6_init_759 : decode cX6_init 759 = .ok (.bipush 32, 2) := by decide +kernel
theorem dX6_init_761 : decode cX6_init 761 = .ok (.iastore, 1) := by decide +kernel
theorem dX6_init_762 : decode cX6_init 762 = .ok (.dup, 1) := by decide +kernel
theorem dX6_init_763 : decode cX6_init 763 = .ok (.bipush 72, 2) := by decide +kernel
theorem dX6_init_765 : decode cX6_init 765 = .ok (.bipush 111, 2) := by decide +kernel
theorem dX6_init_767 : decode cX6_init 767 = .ok (.iastore, 1) := by decide +kernel
theorem dX6_init_768 : decode cX6_init 768 = .ok (.dup, 1) := by decide +kernel
theorem dX6_init_769 : decode cX6_init 769 = .ok (.bipush 73, 2) := by decide +kernel
theorem dX6_init_771 : decode cX6_init 771 = .ok (.bipush 114, 2) := by decide +kernel
theorem dX6_init_773 : decode cX6_init 773 = .ok (.iastore, 1) := by decide +kernel
theorem dX6_init_774 : decode cX6_init 774 = .ok (.dup, 1) := by decide +kernel
theorem dX6_init_775 : decode cX6_init 775 = .ok (.bipush 74, 2) := by decide +kernel
theorem dX6_init_777 : decode cX6_init 777 = .ok (.bipush 32, 2) := by decide +kernel
theorem dX6_init_779 : decode cX6_init 779 = .ok (.iastore, 1) := by decide +kernel
theorem dX6_init_780 : decode cX6_init 780 = .ok (.dup, 1) := by decide +kernel
theorem dX6_init_781 : decode cX6_init 781 = .ok (.bipush 75, 2) := by decide +kernel
theorem dX6_init_783 : decode cX6_init 783 = .ok (.bipush 32, 2) := by decide +kernel
theorem dX6_init_785 : decode cX6_init 785 = .ok (.iastore, 1) := by decide +kernel
theorem dX6_init_786 : decode cX6_init 786 = .ok (.dup, 1) := by decide +kernel
theorem dX6_init_787 : decode cX6_init 787 = .ok (.bipush 76, 2) := by decide +kernel
theorem dX6_init_789 : decode cX6_init 789 = .ok (.bipush 32, 2) := by decide +kernel
theorem dX6_init_791 : decode cX6_init 791 = .ok (.iastore, 1) := by decide +kernel
theorem dX6_init_792 : decode cX6_init 792 = .ok (.dup, 1) := by decide +kernel
theorem dX6_init_793 : decode cX6_init 793 = .ok (.bipush 77, 2) := by decide +kernel
theorem dX6_init_795 : decode cX6_init 795 = .ok (.bipush 32, 2) := by decide +kernel
theorem dX6_init_797 : decode cX6_init 797 = .ok (.iastore, 1) := by decide +kernel
theorem dX6_init_798 : decode cX6_init 798 = .ok (.dup, 1) := by decide +kernel
theorem dX6_init_799 : decode cX6_init 799 = .ok (.bipush 78, 2) := by decide +kernel
theorem dX6_init_801 : decode cX6_init 801 = .ok (.bipush 32, 2) := by decide +kernel
theorem dX6_init_803 : decode cX6_init 803 = .ok (.iastore, 1) := by decide +kernel
theorem dX6_init_804 : decode cX6_init 804 = .ok (.dup, 1) := by decide +kernel
theorem dX6_init_805 : decode cX6_init 805 = .ok (.bipush 79, 2) := by decide +kernel
theorem dX6_init_807 : decode cX6_init 807 = .ok (.bipush 32, 2) := by decide +kernel
theorem dX6_init_809 : decode cX6_init 809 = .ok (.iastore, 1) := by decide +kernel
theorem dX6_init_810 : decode cX6_init 810 = .ok (.dup, 1) := by decide +kernel
theorem dX6_init_811 : decode cX6_init 811 = .ok (.bipush 80, 2) := by decide +kernel
theorem dX6_init_813 : decode cX6_init 813 = .ok (.bipush 97, 2) := by decide +kernel
theorem dX6_init_815 : decode cX6_init 815 = .ok (.iastore, 1) := by decide +kernel
theorem dX6_init_816 : decode cX6_init 816 = .ok (.dup, 1) := by decide +kernel
theorem dX6_init_817 : decode cX6_init 817 = .ok (.bipush 81, 2) := by decide +kernel
theorem dX6_init_819 : decode cX6_init 819 = .ok (.bipush 110, 2) := by decide +kernel
theorem dX6_init_821 : decode cX6_init 821 = .ok (.iastore, 1) := by decide +kernel
theorem dX6_init_822 : decode cX6_init 822 = .ok (.dup, 1) := by decide +kernel
theorem dX6_init_823 : decode cX6_init 823 = .ok (.bipush 82, 2) := by decide +kernel
theorem dX6_init_825 : decode cX6_init 825 = .ok (.bipush 100, 2) := by decide +kernel
theorem dX6_init_827 : decode cX6_init 827 = .ok (.iastore, 1) := by decide +kernel
theorem dX6_init_828 : decode cX6_init 828 = .ok (.dup, 1) := by decide +kernel
theorem dX6_init_829 : decode cX6_init 829 = .ok (.bipush 83, 2) := by decide +kernel
theorem dX6_init_831 : decode cX6_init 831 = .ok (.bipush 32, 2) := by decide +kernel
theorem dX6_init_833 : decode cX6_init 833 = .ok (.iastore, 1) := by decide +kernel
theorem dX6_init_834 : decode cX6_init 834 = .ok (.dup, 1) := by decide +kernel
theorem dX6_init_835 : decode cX6_init 835 = .ok (.bipush 84, 2) := by decide +kernel
theorem dX6_init_837 : decode cX6_init 837 = .ok (.bipush 32, 2) := by decide +kernel
theorem dX6_init_839 : decode cX6_init 839 = .ok (.iastore, 1) := by decide +kernel
theorem dX6_init_840 : decode cX6_init 840 = .ok (.dup, 1) := by decide +kernel
theorem dX6_init_841 : decode cX6_init 841 = .ok (.bipush 85, 2) := by decide +kernel
theorem dX6_init_843 : decode cX6_init 843 = .ok (.bipush 32, 2) := by decide +kernel
theorem dX6_init_845 : decode cX6_init 845 = .ok (.iastore, 1) := by decide +kernel
theorem dX6_init_846 : decode cX6_init 846 = .ok (.dup, 1) := by decide +kernel
theorem dX6_init_847 : decode cX6_init 847 = .ok (.bipush 86, 2) := by decide +kernel
theorem dX6_init_849 : decode cX6_init 849 = .ok (.bipush 32, 2) := by decide +kernel
theorem dX6_init_851 : decode cX6_init 851 = .ok (.iastore, 1) := by decide +kernel
theorem dX6_init_852 : decode cX6_init 852 = .ok (.dup, 1) := by decide +kernel
theorem dX6_init_853 : decode cX6_init 853 = .ok (.bipush 87, 2) := by decide +kernel
theorem dX6_init_855 : decode cX6_init 855 = .ok (.bipush 32, 2) := by decide +kernel
theorem dX6_init_857 : decode cX6_init 857 = .ok (.iastore, 1) := by decide +kernel
theorem dX6_init_858 : decode cX6_init 858 = .ok (.dup, 1) := by decide +kernel
theorem dX6_init_859 : decode cX6_init 859 = .ok (.bipush 88, 2) := by decide +kernel
theorem dX6_init_861 : decode cX6_init 861 = .ok (.bipush 110, 2) := by decide +kernel
theorem dX6_init_863 : decode cX6_init 863 = .ok (.iastore, 1) := by decide +kernel
theorem dX6_init_864 : decode cX6_init 864 = .ok (.dup, 1) := by decide +kernel
theorem dX6_init_865 : decode cX6_init 865 = .ok (.bipush 89, 2) := by decide +kernel
theorem dX6_init_867 : decode cX6_init 867 = .ok (.bipush 111, 2) := by decide +kernel
theorem dX6_init_869 : decode cX6_init 869 = .ok (.iastore, 1) := by decide +kernel
theorem dX6_init_870 : decode cX6_init 870 = .ok (.dup, 1) := by decide +kernel
theorem dX6_init_871 : decode cX6_init 871 = .ok (.bipush 90, 2) := by decide +kernel
theorem dX6_init_873 : decode cX6_init 873 = .ok (.bipush 116, 2) := by decide +kernel
theorem dX6_init_875 : decode cX6_init 875 = .ok (.iastore, 1) := by decide +kernel
theorem dX6_init_876 : decode cX6_init 876 = .ok (.dup, 1) := by decide +kernel
theorem dX6_init_877 : decode cX6_init 877 = .ok (.bipush 91, 2) := by decide +kernel
theorem dX6_init_879 : decode cX6_init 879 = .ok (.bipush 32, 2) := by decide +kernel
theorem dX6_init_881 : decode cX6_init 881 = .ok (.iastore, 1) := by decide +kernel
theorem dX6_init_882 : decode cX6_init 882 = .ok (.dup, 1) := by decide +kernel
theorem dX6_init_883 : decode cX6_init 883 = .ok (.bipush 92, 2) := by decide +kernel
theorem dX6_init_885 : decode cX6_init 885 = .ok (.bipush 32, 2) := by decide +kernel
theorem dX6_init_887 : decode cX6_init 887 = .ok (.iastore, 1) := by decide +kernel
theorem dX6_init_888 : decode cX6_init 888 = .ok (.dup, 1) := by decide +kernel
theorem dX6_init_889 : decode cX6_init 889 = .ok (.bipush 93, 2) := by decide +kernel
theorem dX6_init_891 : decode cX6_init 891 = .ok (.bipush 32, 2) := by decide +kernel
theorem dX6_init_893 : decode cX6_init 893 = .ok (.iastore, 1) := by decide +kernel
theorem dX6_init_894 : decode cX6_init 894 = .ok (.dup, 1) := by decide +kernel
theorem dX6_init_895 : decode cX6_init 895 = .ok (.bipush 94, 2) := by decide +kernel
theorem dX6_init_897 : decode cX6_init 897 = .ok (.bipush 32, 2) := by decide +kernel
theorem dX6_init_899 : decode cX6_init 899 = .ok (.iastore, 1) := by decide +kernel
theorem dX6_init_900 : decode cX6_init 900 = .ok (.dup, 1) := by decide +kernel
theorem dX6_init_901 : decode cX6_init 901 = .ok (.bipush 95, 2) := by decide +kernel
theorem dX6_init_903 : decode cX6_init 903 = .ok (.bipush 32, 2) := by decide +kernel
theorem dX6_init_905 : decode cX6_init 905 = .ok (.iastore, 1) := by decide +kernel
theorem dX6_init_906 : decode cX6_init 906 = .ok (.putfield 52, 3) := by decide +kernel
theorem dX6_init_909 : decode cX6_init 909 = .ok (.aload_n 0, 1) := by decide +kernel
theorem dX6_init_910 : decode cX6_init 910 = .ok (.sipush 200, 3) := by decide +kernel
theorem dX6_init_913 : decode cX6_init 913 = .ok (.newarray .int, 2) := by decide +kernel
theorem dX6_init_915 : decode cX6_init 915 = .ok (.putfield 55, 3) := by decide +kernel
theorem dX6_init_918 : decode cX6_init 918 = .ok (.aload_n 0, 1) := by decide +kernel
theorem dX6_init_919 : decode cX6_init 919 = .ok (.sipush 200, 3) := by decide +kernel
theorem dX6_init_922 : decode cX6_init 922 = .ok (.newarray .int, 2) := by decide +kernel
theorem dX6_init_924 : decode cX6_init 924 = .ok (.putfield 58, 3) := by decide +kernel
theorem dX6_init_927 : decode cX6_init 927 = .ok (.aload_n 0, 1) := by decide +kernel
theorem dX6_init_928 : decode cX6_init 928 = .ok (.bipush 6, 2) := by decide +kernel
theorem dX6_init_930 : decode cX6_init 930 = .ok (.newarray .int, 2) := by decide +kernel
theorem dX6_init_932 : decode cX6_init 932 = .ok (.putfield 61, 3) := by decide +kernel
theorem dX6_init_935 : decode cX6_init 935 = .ok (.aload_n 0, 1) := by decide +kernel
theorem dX6_init_936 : decode cX6_init 936 = .ok (.bipush 6, 2) := by decide +kernel
theorem dX6_init_938 : decode cX6_init 938 = .ok (.newarray .long, 2) := by decide +kernel
theorem dX6_init_940 : decode cX6_init 940 = .ok (.putfield 64, 3) := by decide +kernel
theorem dX6_init_943 : decode cX6_init 943 = .ok (.aload_n 0, 1) := by decide +kernel
theorem dX6_init_944 : decode cX6_init 944 = .ok (.bipush 31, 2) := by decide +kernel
theorem dX6_init_946 : decode cX6_init 946 = .ok (.newarray .int, 2) := by decide +kernel
theorem dX6_init_948 : decode cX6_init 948 = .ok (.putfield 68, 3) := by decide +kernel
theorem dX6_init_951 : decode cX6_init 951 = .ok (.iconst 0, 1) := by decide +kernel
theorem dX6_init_952 : decode cX6_init 952 = .ok (.istore_n 1, 1) := by decide +kernel
theorem dX6_init_953 : decode cX6_init 953 = .ok (.iload_n 1, 1) := by decide +kernel
theorem dX6_init_954 : decode cX6_init 954 = .ok (.bipush 34, 2) := by decide +kernel
theorem dX6_init_956 : decode cX6_init 956 = .ok (.if_icmp .ge 21, 3) := by decide +kernel
theorem dX6_init_959 : decode cX6_init 959 = .ok (.aload_n 0, 1) := by decide +kernel
theorem dX6_init_960 : decode cX6_init 960 = .ok (.getfield 25, 3) := by decide +kernel
theorem dX6_init_963 : decode cX6_init 963 = .ok (.iload_n 1, 1) := by decide +kernel
theorem dX6_init_964 : decode cX6_init 964 = .ok (.aload_n 0, 1) := by decide +kernel
theorem dX6_init_965 : decode cX6_init 965 = .ok (.getfield 49, 3) := by decide +kernel
theorem dX6_init_968 : decode cX6_init 968 = .ok (.iload_n 1, 1) := by decide +kernel
theorem dX6_init_969 : decode cX6_init 969 = .ok (.iaload, 1) := by decide +kernel
theorem dX6_init_970 : decode cX6_init 970 = .ok (.iastore, 1) := by decide +kernel
theorem dX6_init_971 : decode cX6_init 971 = .ok (.iinc 1 1, 3) := by decide +kernel
theorem dX6_init_974 : decode cX6_init 974 = .ok (.goto (-21), 3) := by decide +kernel
theorem dX6_init_977 : decode cX6_init 977 = .ok (.aload_n 0, 1) := by decide +kernel
theorem dX6_init_978 : decode cX6_init 978 = .ok (.bipush 34, 2) := by decide +kernel
theorem dX6_init_980 : decode cX6_init 980 = .ok (.putfield 71, 3) := by decide +kernel
theorem dX6_init_983 : decode cX6_init 983 = .ok (.aload_n 0, 1) := by decide +kernel
theorem dX6_init_984 : decode cX6_init 984 = .ok (.invokevirtual 75, 3) := by decide +kernel
theorem dX6_init_987 : decode cX6_init 987 = .ok (.pop, 1) := by decide +kernel
theorem dX6_init_988 : decode cX6_init 988 = .ok (.return_, 1) := by decide +kernel
theorem dX6_in_0 : decode cX6_in 0 = .ok (.iload_n 0, 1) := by decide +kernel
theorem dX6_in_1 : decode cX6_in 1 = .ok (.iload_n 1, 1) := by decide +kernel
theorem dX6_in_2 : decode cX6_in 2 = .ok (.if_icmp .lt 12, 3) := by decide +kernel
theorem dX6_in_5 : decode cX6_in 5 = .ok (.iload_n 0, 1) := by decide +kernel
theorem dX6_in_6 : decode cX6_in 6 = .ok (.iload_n 2, 1) := by decide +kernel
theorem dX6_in_7 : decode cX6_in 7 = .ok (.if_icmp .gt 7, 3) := by decide +kernel
theorem dX6_in_10 : decode cX6_in 10 = .ok (.iconst 1, 1) := by decide +kernel
theorem dX6_in_11 : decode cX6_in 11 = .ok (.goto 4, 3) := by decide +kernel
theorem dX6_in_14 : decode cX6_in 14 = .ok (.iconst 0, 1) := by decide +kernel
theorem dX6_in_15 : decode cX6_in 15 = .ok (.ireturn, 1) := by decide +kernel
theorem dX6_within_0 : decode cX6_within 0 = .ok (.iload_n 0, 1) := by decide +kernel
theorem dX6_within_1 : decode cX6_within 1 = .ok (.iload_n 1, 1) := by decide +kernel
theorem dX6_within_2 : decode cX6_within 2 = .ok (.if_icmp .ge 7, 3) := by decide +kernel
theorem dX6_within_5 : decode cX6_within 5 = .ok (.iload_n 1, 1) := by decide +kernel
theorem dX6_within_6 : decode cX6_within 6 = .ok (.goto 13, 3) := by decide +kernel
theorem dX6_within_9 : decode cX6_within 9 = .ok (.iload_n 0, 1) := by decide +kernel
theorem dX6_within_10 : decode cX6_within 10 = .ok (.iload_n 2, 1) := by decide +kernel
theorem dX6_within_11 : decode cX6_within 11 = .ok (.if_icmp .le 7, 3) := by decide +kernel
theorem dX6_within_14 : decode cX6_within 14 = .ok (.iload_n 2, 1) := by decide +kernel
theorem dX6_within_15 : decode cX6_within 15 = .ok (.goto 4, 3) := by decide +kernel
theorem dX6_within_18 : decode cX6_within 18 = .ok (.iload_n 0, 1) := by decide +kernel
theorem dX6_within_19 : decode cX6_within 19 = .ok (.ireturn, 1) := by decide +kernel
theorem dX6_isCell_0 : decode cX6_isCell 0 = .ok (.iload_n 0, 1) := by decide +kernel
theorem dX6_isCell_1 : decode cX6_isCell 1 = .ok (.iconst 0, 1) := by decide +kernel
theorem dX6_isCell_2 : decode cX6_isCell 2 = .ok (.bipush 63, 2) := by decide +kernel
theorem dX6_isCell_4 : decode cX6_isCell 4 = .ok (.invokestatic 79, 3) := by decide +kernel
theorem dX6_isCell_7 : decode cX6_isCell 7 = .ok (.ireturn, 1) := by decide +kernel
theorem dX6_isOne_0 : decode cX6_isOne 0 = .ok (.iload_n 1, 1) := by decide +kernel
theorem dX6_isOne_1 : decode cX6_isOne 1 = .ok (.iconst 0, 1) := by decide +kernel
theorem dX6_isOne_2 : decode cX6_isOne 2 = .ok (.aload_n 0, 1) := by decide +kernel
theorem dX6_isOne_3 : decode cX6_isOne 3 = .ok (.getfield 83, 3) := by decide +kernel
theorem dX6_isOne_6 : decode cX6_isOne 6 = .ok (.iconst 1, 1) := by decide +kernel
theorem dX6_isOne_7 : decode cX6_isOne 7 = .ok (.isub, 1) := by decide +kernel
theorem dX6_isOne_8 : decode cX6_isOne 8 = .ok (.invokestatic 79, 3) := by decide +kernel
theorem dX6_isOne_11 : decode cX6_isOne 11 = .ok (.ireturn, 1) := by decide +kernel
theorem dX6_isWet_0 : decode cX6_isWet 0 = .ok (.aload_n 0, 1) := by decide +kernel
theorem dX6_isWet_1 : decode cX6_isWet 1 = .ok (.getfield 86, 3) := by decide +kernel
theorem dX6_isWet_4 : decode cX6_isWet 4 = .ok (.iload_n 1, 1) := by decide +kernel
theorem dX6_isWet_5 : decode cX6_isWet 5 = .ok (.lshr, 1) := by decide +kernel
theorem dX6_isWet_6 : decode cX6_isWet 6 = .ok (.lconst 1, 1) := by decide +kernel
theorem dX6_isWet_7 : decode cX6_isWet 7 = .ok (.land, 1) := by decide +kernel
theorem dX6_isWet_8 : decode cX6_isWet 8 = .ok (.lconst 1, 1) := by decide +kernel
theorem dX6_isWet_9 : decode cX6_isWet 9 = .ok (.lcmp, 1) := by decide +kernel
theorem dX6_isWet_10 : decode cX6_isWet 10 = .ok (.ifCond .ne 7, 3) := by decide +kernel
theorem dX6_isWet_13 : decode cX6_isWet 13 = .ok (.iconst 1, 1) := by decide +kernel
theorem dX6_isWet_14 : decode cX6_isWet 14 = .ok (.goto 4, 3) := by decide +kernel
theorem dX6_isWet_17 : decode cX6_isWet 17 = .ok (.iconst 0, 1) := by decide +kernel
theorem dX6_isWet_18 : decode cX6_isWet 18 = .ok (.ireturn, 1) := by decide +kernel
theorem dX6_bitsOf_0 : decode cX6_bitsOf 0 = .ok (.iconst 0, 1) := by decide +kernel
theorem dX6_bitsOf_1 : decode cX6_bitsOf 1 = .ok (.istore_n 2, 1) := by decide +kernel
theorem dX6_bitsOf_2 : decode cX6_bitsOf 2 = .ok (.iconst 0, 1) := by decide +kernel
theorem dX6_bitsOf_3 : decode cX6_bitsOf 3 = .ok (.istore_n 3, 1) := by decide +kernel
theorem dX6_bitsOf_4 : decode cX6_bitsOf 4 = .ok (.iload_n 3, 1) := by decide +kernel
theorem dX6_bitsOf_5 : decode cX6_bitsOf 5 = .ok (.bipush 64, 2) := by decide +kernel
theorem dX6_bitsOf_7 : decode cX6_bitsOf 7 = .ok (.if_icmp .ge 27, 3) := by decide +kernel
theorem dX6_bitsOf_10 : decode cX6_bitsOf 10 = .ok (.iload_n 2, 1) := by decide +kernel
theorem dX6_bitsOf_11 : decode cX6_bitsOf 11 = .ok (.lload_n 0, 1) := by decide +kernel
theorem dX6_bitsOf_12 : decode cX6_bitsOf 12 = .ok (.iload_n 3, 1) := by decide +kernel
theorem dX6_bitsOf_13 : decode cX6_bitsOf 13 = .ok (.lshr, 1) := by decide +kernel
theorem dX6_bitsOf_14 : decode cX6_bitsOf 14 = .ok (.lconst 1, 1) := by decide +kernel
theorem dX6_bitsOf_15 : decode cX6_bitsOf 15 = .ok (.land, 1) := by decide +kernel
theorem dX6_bitsOf_16 : decode cX6_bitsOf 16 = .ok (.lconst 1, 1) := by decide +kernel
theorem dX6_bitsOf_17 : decode cX6_bitsOf 17 = .ok (.lcmp, 1) := by decide +kernel
theorem dX6_bitsOf_18 : decode cX6_bitsOf 18 = .ok (.ifCond .ne 7, 3) := by decide +kernel
theorem dX6_bitsOf_21 : decode cX6_bitsOf 21 = .ok (.iconst 1, 1) := by decide +kernel
theorem dX6_bitsOf_22 : decode cX6_bitsOf 22 = .ok (.goto 4, 3) := by decide +kernel
theorem dX6_bitsOf_25 : decode cX6_bitsOf 25 = .ok (.iconst 0, 1) := by decide +kernel
theorem dX6_bitsOf_26 : decode cX6_bitsOf 26 = .ok (.iadd, 1) := by decide +kernel
theorem dX6_bitsOf_27 : decode cX6_bitsOf 27 = .ok (.istore_n 2, 1) := by decide +kernel
theorem dX6_bitsOf_28 : decode cX6_bitsOf 28 = .ok (.iinc 3 1, 3) := by decide +kernel
theorem dX6_bitsOf_31 : decode cX6_bitsOf 31 = .ok (.goto (-27), 3) := by decide +kernel
theorem dX6_bitsOf_34 : decode cX6_bitsOf 34 = .ok (.iload_n 2, 1) := by decide +kernel
theorem dX6_bitsOf_35 : decode cX6_bitsOf 35 = .ok (.ireturn, 1) := by decide +kernel
theorem dX6_count_0 : decode cX6_count 0 = .ok (.iload_n 1, 1) := by decide +kernel
theorem dX6_count_1 : decode cX6_count 1 = .ok (.tableswitch 72 0 5 #[39, 44, 52, 57, 62, 67], 39) := by decide +kernel
theorem dX6_count_40 : decode cX6_count 40 = .ok (.aload_n 0, 1) := by decide +kernel
theorem dX6_count_41 : decode cX6_count 41 = .ok (.getfield 83, 3) := by decide +kernel
theorem dX6_count_44 : decode cX6_count 44 = .ok (.ireturn, 1) := by decide +kernel
theorem dX6_count_45 : decode cX6_count 45 = .ok (.aload_n 0, 1) := by decide +kernel
theorem dX6_count_46 : decode cX6_count 46 = .ok (.getfield 86, 3) := by decide +kernel
theorem dX6_count_49 : decode cX6_count 49 = .ok (.invokestatic 90, 3) := by decide +kernel
theorem dX6_count_52 : decode cX6_count 52 = .ok (.ireturn, 1) := by decide +kernel
theorem dX6_count_53 : decode cX6_count 53 = .ok (.aload_n 0, 1) := by decide +kernel
theorem dX6_count_54 : decode cX6_count 54 = .ok (.getfield 94, 3) := by decide +kernel
theorem dX6_count_57 : decode cX6_count 57 = .ok (.ireturn, 1) := by decide +kernel
theorem dX6_count_58 : decode cX6_count 58 = .ok (.aload_n 0, 1) := by decide +kernel
theorem dX6_count_59 : decode cX6_count 59 = .ok (.getfield 97, 3) := by decide +kernel
theorem dX6_count_62 : decode cX6_count 62 = .ok (.ireturn, 1) := by decide +kernel
theorem dX6_count_63 : decode cX6_count 63 = .ok (.aload_n 0, 1) := by decide +kernel
theorem dX6_count_64 : decode cX6_count 64 = .ok (.getfield 100, 3) := by decide +kernel
theorem dX6_count_67 : decode cX6_count 67 = .ok (.ireturn, 1) := by decide +kernel
theorem dX6_count_68 : decode cX6_count 68 = .ok (.aload_n 0, 1) := by decide +kernel
theorem dX6_count_69 : decode cX6_count 69 = .ok (.getfield 71, 3) := by decide +kernel
theorem dX6_count_72 : decode cX6_count 72 = .ok (.ireturn, 1) := by decide +kernel
theorem dX6_count_73 : decode cX6_count 73 = .ok (.bipush (-2), 2) := by decide +kernel
theorem dX6_count_75 : decode cX6_count 75 = .ok (.ireturn, 1) := by decide +kernel
theorem dX6_dusk_0 : decode cX6_dusk 0 = .ok (.iload_n 1, 1) := by decide +kernel
theorem dX6_dusk_1 : decode cX6_dusk 1 = .ok (.iconst 0, 1) := by decide +kernel
theorem dX6_dusk_2 : decode cX6_dusk 2 = .ok (.sipush 999, 3) := by decide +kernel
theorem dX6_dusk_5 : decode cX6_dusk 5 = .ok (.invokestatic 79, 3) := by decide +kernel
theorem dX6_dusk_8 : decode cX6_dusk 8 = .ok (.ifCond .ne 6, 3) := by decide +kernel
theorem dX6_dusk_11 : decode cX6_dusk 11 = .ok (.bipush (-2), 2) := by decide +kernel
theorem dX6_dusk_13 : decode cX6_dusk 13 = .ok (.ireturn, 1) := by decide +kernel
theorem dX6_dusk_14 : decode cX6_dusk 14 = .ok (.aload_n 0, 1) := by decide +kernel
theorem dX6_dusk_15 : decode cX6_dusk 15 = .ok (.getfield 94, 3) := by decide +kernel
theorem dX6_dusk_18 : decode cX6_dusk 18 = .ok (.istore_n 2, 1) := by decide +kernel
theorem dX6_dusk_19 : decode cX6_dusk 19 = .ok (.aload_n 0, 1) := by decide +kernel
theorem dX6_dusk_20 : decode cX6_dusk 20 = .ok (.iload_n 1, 1) := by decide +kernel
theorem dX6_dusk_21 : decode cX6_dusk 21 = .ok (.putfield 94, 3) := by decide +kernel
theorem dX6_dusk_24 : decode cX6_dusk 24 = .ok (.iload_n 2, 1) := by decide +kernel
theorem dX6_dusk_25 : decode cX6_dusk 25 = .ok (.ireturn, 1) := by decide +kernel
theorem dX6_flood_0 : decode cX6_flood 0 = .ok (.iload_n 1, 1) := by decide +kernel
theorem dX6_flood_1 : decode cX6_flood 1 = .ok (.invokestatic 103, 3) := by decide +kernel
theorem dX6_flood_4 : decode cX6_flood 4 = .ok (.ifCond .ne 6, 3) := by decide +kernel
theorem dX6_flood_7 : decode cX6_flood 7 = .ok (.bipush (-5), 2) := by decide +kernel
theorem dX6_flood_9 : decode cX6_flood 9 = .ok (.ireturn, 1) := by decide +kernel
theorem dX6_flood_10 : decode cX6_flood 10 = .ok (.iload_n 2, 1) := by decide +kernel
theorem dX6_flood_11 : decode cX6_flood 11 = .ok (.iconst 0, 1) := by decide +kernel
theorem dX6_flood_12 : decode cX6_flood 12 = .ok (.iconst 1, 1) := by decide +kernel
theorem dX6_flood_13 : decode cX6_flood 13 = .ok (.invokestatic 79, 3) := by decide +kernel
theorem dX6_flood_16 : decode cX6_flood 16 = .ok (.ifCond .ne 6, 3) := by decide +kernel
theorem dX6_flood_19 : decode cX6_flood 19 = .ok (.bipush (-7), 2) := by decide +kernel
theorem dX6_flood_21 : decode cX6_flood 21 = .ok (.ireturn, 1) := by decide +kernel
theorem dX6_flood_22 : decode cX6_flood 22 = .ok (.aload_n 0, 1) := by decide +kernel
theorem dX6_flood_23 : decode cX6_flood 23 = .ok (.iload_n 1, 1) := by decide +kernel
theorem dX6_flood_24 : decode cX6_flood 24 = .ok (.invokevirtual 107, 3) := by decide +kernel
theorem dX6_flood_27 : decode cX6_flood 27 = .ok (.ifCond .eq 7, 3) := by decide +kernel
theorem dX6_flood_30 : decode cX6_flood 30 = .ok (.iconst 1, 1) := by decide +kernel
theorem dX6_flood_31 : decode cX6_flood 31 = .ok (.goto 4, 3) := by decide +kernel
theorem dX6_flood_34 : decode cX6_flood 34 = .ok (.iconst 0, 1) := by decide +kernel
theorem dX6_flood_35 : decode cX6_flood 35 = .ok (.istore_n 3, 1) := by decide +kernel
theorem dX6_flood_36 : decode cX6_flood 36 = .ok (.aload_n 0, 1) := by decide +kernel
theorem dX6_flood_37 : decode cX6_flood 37 = .ok (.iload_n 2, 1) := by decide +kernel
theorem dX6_flood_38 : decode cX6_flood 38 = .ok (.iconst 1, 1) := by decide +kernel
theorem dX6_flood_39 : decode cX6_flood 39 = .ok (.if_icmp .ne 14, 3) := by decide +kernel
theorem dX6_flood_42 : decode cX6_flood 42 = .ok (.aload_n 0, 1) := by decide +kernel
theorem dX6_flood_43 : decode cX6_flood 43 = .ok (.getfield 86, 3) := by decide +kernel
theorem dX6_flood_46 : decode cX6_flood 46 = .ok (.lconst 1, 1) := by decide +kernel
theorem dX6_flood_47 : decode cX6_flood 47 = .ok (.iload_n 1, 1) := by decide +kernel
theorem dX6_flood_48 : decode cX6_flood 48 = .ok (.lshl, 1) := by decide +kernel
theorem dX6_flood_49 : decode cX6_flood 49 = .ok (.lor, 1) := by decide +kernel
theorem dX6_flood_50 : decode cX6_flood 50 = .ok (.goto 15, 3) := by decide +kernel
theorem dX6_flood_53 : decode cX6_flood 53 = .ok (.aload_n 0, 1) := by decide +kernel
theorem dX6_flood_54 : decode cX6_flood 54 = .ok (.getfield 86, 3) := by decide +kernel
theorem dX6_flood_57 : decode cX6_flood 57 = .ok (.lconst 1, 1) := by decide +kernel
theorem dX6_flood_58 : decode cX6_flood 58 = .ok (.iload_n 1, 1) := by decide +kernel
theorem dX6_flood_59 : decode cX6_flood 59 = .ok (.lshl, 1) := by decide +kernel
theorem dX6_flood_60 : decode cX6_flood 60 = .ok (.ldc2_w 110, 3) := by decide +kernel
theorem dX6_flood_63 : decode cX6_flood 63 = .ok (.lxor, 1) := by decide +kernel
theorem dX6_flood_64 : decode cX6_flood 64 = .ok (.land, 1) := by decide +kernel
theorem dX6_flood_65 : decode cX6_flood 65 = .ok (.putfield 86, 3) := by decide +kernel
theorem dX6_flood_68 : decode cX6_flood 68 = .ok (.iload_n 3, 1) := by decide +kernel
theorem dX6_flood_69 : decode cX6_flood 69 = .ok (.ireturn, 1) := by decide +kernel
theorem dX6_isByte_0 : decode cX6_isByte 0 = .ok (.iload_n 0, 1) := by decide +kernel
theorem dX6_isByte_1 : decode cX6_isByte 1 = .ok (.iconst 0, 1) := by decide +kernel
theorem dX6_isByte_2 : decode cX6_isByte 2 = .ok (.sipush 255, 3) := by decide +kernel
theorem dX6_isByte_5 : decode cX6_isByte 5 = .ok (.invokestatic 79, 3) := by decide +kernel
theorem dX6_isByte_8 : decode cX6_isByte 8 = .ok (.ireturn, 1) := by decide +kernel
theorem dX6_feed_0 : decode cX6_feed 0 = .ok (.iload_n 1, 1) := by decide +kernel
theorem dX6_feed_1 : decode cX6_feed 1 = .ok (.iconst 1, 1) := by decide +kernel
theorem dX6_feed_2 : decode cX6_feed 2 = .ok (.iconst 5, 1) := by decide +kernel
theorem dX6_feed_3 : decode cX6_feed 3 = .ok (.invokestatic 79, 3) := by decide +kernel
theorem dX6_feed_6 : decode cX6_feed 6 = .ok (.ifCond .eq 41, 3) := by decide +kernel
theorem dX6_feed_9 : decode cX6_feed 9 = .ok (.iload_n 2, 1) := by decide +kernel
theorem dX6_feed_10 : decode cX6_feed 10 = .ok (.invokestatic 112, 3) := by decide +kernel
theorem dX6_feed_13 : decode cX6_feed 13 = .ok (.ifCond .eq 34, 3) := by decide +kernel
theorem dX6_feed_16 : decode cX6_feed 16 = .ok (.iload_n 3, 1) := by decide +kernel
theorem dX6_feed_17 : decode cX6_feed 17 = .ok (.invokestatic 112, 3) := by decide +kernel
theorem dX6_feed_20 : decode cX6_feed 20 = .ok (.ifCond .eq 27, 3) := by decide +kernel
theorem dX6_feed_23 : decode cX6_feed 23 = .ok (.iload 4, 2) := by decide +kernel
theorem dX6_feed_25 : decode cX6_feed 25 = .ok (.invokestatic 112, 3) := by decide +kernel
theorem dX6_feed_28 : decode cX6_feed 28 = .ok (.ifCond .eq 19, 3) := by decide +kernel
theorem dX6_feed_31 : decode cX6_feed 31 = .ok (.iload 5, 2) := by decide +kernel
theorem dX6_feed_33 : decode cX6_feed 33 = .ok (.invokestatic 112, 3) := by decide +kernel
theorem dX6_feed_36 : decode cX6_feed 36 = .ok (.ifCond .eq 11, 3) := by decide +kernel
theorem dX6_feed_39 : decode cX6_feed 39 = .ok (.iload 6, 2) := by decide +kernel
theorem dX6_feed_41 : decode cX6_feed 41 = .ok (.invokestatic 112, 3) := by decide +kernel
theorem dX6_feed_44 : decode cX6_feed 44 = .ok (.ifCond .ne 6, 3) := by decide +kernel
theorem dX6_feed_47 : decode cX6_feed 47 = .ok (.bipush (-2), 2) := by decide +kernel
theorem dX6_feed_49 : decode cX6_feed 49 = .ok (.ireturn, 1) := by decide +kernel
theorem dX6_feed_50 : decode cX6_feed 50 = .ok (.aload_n 0, 1) := by decide +kernel
theorem dX6_feed_51 : decode cX6_feed 51 = .ok (.getfield 71, 3) := by decide +kernel
theorem dX6_feed_54 : decode cX6_feed 54 = .ok (.iload_n 1, 1) := by decide +kernel
theorem dX6_feed_55 : decode cX6_feed 55 = .ok (.iadd, 1) := by decide +kernel
theorem dX6_feed_56 : decode cX6_feed 56 = .ok (.sipush 160, 3) := by decide +kernel
theorem dX6_feed_59 : decode cX6_feed 59 = .ok (.if_icmp .le 6, 3) := by decide +kernel
theorem dX6_feed_62 : decode cX6_feed 62 = .ok (.bipush (-4), 2) := by decide +kernel
theorem dX6_feed_64 : decode cX6_feed 64 = .ok (.ireturn, 1) := by decide +kernel
theorem dX6_feed_65 : decode cX6_feed 65 = .ok (.iconst 0, 1) := by decide +kernel
theorem dX6_feed_66 : decode cX6_feed 66 = .ok (.istore 7, 2) := by decide +kernel
theorem dX6_feed_68 : decode cX6_feed 68 = .ok (.iload 7, 2) := by decide +kernel
theorem dX6_feed_70 : decode cX6_feed 70 = .ok (.iload_n 1, 1) := by decide +kernel
theorem dX6_feed_71 : decode cX6_feed 71 = .ok (.if_icmp .ge 71, 3) := by decide +kernel
theorem dX6_feed_74 : decode cX6_feed 74 = .ok (.aload_n 0, 1) := by decide +kernel
theorem dX6_feed_75 : decode cX6_feed 75 = .ok (.getfield 25, 3) := by decide +kernel
theorem dX6_feed_78 : decode cX6_feed 78 = .ok (.aload_n 0, 1) := by decide +kernel
theorem dX6_feed_79 : decode cX6_feed 79 = .ok (.getfield 71, 3) := by decide +kernel
theorem dX6_feed_82 : decode cX6_feed 82 = .ok (.iload 7, 2) := by decide +kernel
theorem dX6_feed_84 : decode cX6_feed 84 = .ok (.ifCond .ne 7, 3) := by decide +kernel
theorem dX6_feed_87 : decode cX6_feed 87 = .ok (.iload_n 2, 1) := by decide +kernel
theorem dX6_feed_88 : decode cX6_feed 88 = .ok (.goto 37, 3) := by decide +kernel
theorem dX6_feed_91 : decode cX6_feed 91 = .ok (.iload 7, 2) := by decide +kernel
theorem dX6_feed_93 : decode cX6_feed 93 = .ok (.iconst 1, 1) := by decide +kernel
theorem dX6_feed_94 : decode cX6_feed 94 = .ok (.if_icmp .ne 7, 3) := by decide +kernel
theorem dX6_feed_97 : decode cX6_feed 97 = .ok (.iload_n 3, 1) := by decide +kernel
theorem dX6_feed_98 : decode cX6_feed 98 = .ok (.goto 27, 3) := by decide +kernel
theorem dX6_feed_101 : decode cX6_feed 101 = .ok (.iload 7, 2) := by decide +kernel
theorem dX6_feed_103 : decode cX6_feed 103 = .ok (.iconst 2, 1) := by decide +kernel
theorem dX6_feed_104 : decode cX6_feed 104 = .ok (.if_icmp .ne 8, 3) := by decide +kernel
theorem dX6_feed_107 : decode cX6_feed 107 = .ok (.iload 4, 2) := by decide +kernel
theorem dX6_feed_109 : decode cX6_feed 109 = .ok (.goto 16, 3) := by decide +kernel
theorem dX6_feed_112 : decode cX6_feed 112 = .ok (.iload 7, 2) := by decide +kernel
theorem dX6_feed_114 : decode cX6_feed 114 = .ok (.iconst 3, 1) := by decide +kernel
theorem dX6_feed_115 : decode cX6_feed 115 = .ok (.if_icmp .ne 8, 3) := by decide +kernel
theorem dX6_feed_118 : decode cX6_feed 118 = .ok (.iload 5, 2) := by decide +kernel
theorem dX6_feed_120 : decode cX6_feed 120 = .ok (.goto 5, 3) := by decide +kernel
theorem dX6_feed_123 : decode cX6_feed 123 = .ok (.iload 6, 2) := by decide +kernel
theorem dX6_feed_125 : decode cX6_feed 125 = .ok (.iastore, 1) := by decide +kernel
theorem dX6_feed_126 : decode cX6_feed 126 = .ok (.aload_n 0, 1) := by decide +kernel
theorem dX6_feed_127 : decode cX6_feed 127 = .ok (.dup, 1) := by decide +kernel
theorem dX6_feed_128 : decode cX6_feed 128 = .ok (.getfield 71, 3) := by decide +kernel
theorem dX6_feed_131 : decode cX6_feed 131 = .ok (.iconst 1, 1) := by decide +kernel
theorem dX6_feed_132 : decode cX6_feed 132 = .ok (.iadd, 1) := by decide +kernel
theorem dX6_feed_133 : decode cX6_feed 133 = .ok (.putfield 71, 3) := by decide +kernel
theorem dX6_feed_136 : decode cX6_feed 136 = .ok (.iinc 7 1, 3) := by decide +kernel
theorem dX6_feed_139 : decode cX6_feed 139 = .ok (.goto (-71), 3) := by decide +kernel
theorem dX6_feed_142 : decode cX6_feed 142 = .ok (.aload_n 0, 1) := by decide +kernel
theorem dX6_feed_143 : decode cX6_feed 143 = .ok (.getfield 71, 3) := by decide +kernel
theorem dX6_feed_146 : decode cX6_feed 146 = .ok (.ireturn, 1) := by decide +kernel
theorem dX6_wordFrom_0 : decode cX6_wordFrom 0 = .ok (.iconst 0, 1) := by decide +kernel
theorem dX6_wordFrom_1 : decode cX6_wordFrom 1 = .ok (.istore_n 3, 1) := by decide +kernel
theorem dX6_wordFrom_2 : decode cX6_wordFrom 2 = .ok (.iload_n 3, 1) := by decide +kernel
theorem dX6_wordFrom_3 : decode cX6_wordFrom 3 = .ok (.bipush 12, 2) := by decide +kernel
theorem dX6_wordFrom_5 : decode cX6_wordFrom 5 = .ok (.if_icmp .ge 96, 3) := by decide +kernel
theorem dX6_wordFrom_8 : decode cX6_wordFrom 8 = .ok (.iload_n 2, 1) := by decide +kernel
theorem dX6_wordFrom_9 : decode cX6_wordFrom 9 = .ok (.iload_n 1, 1) := by decide +kernel
theorem dX6_wordFrom_10 : decode cX6_wordFrom 10 = .ok (.isub, 1) := by decide +kernel
theorem dX6_wordFrom_11 : decode cX6_wordFrom 11 = .ok (.bipush 8, 2) := by decide +kernel
theorem dX6_wordFrom_13 : decode cX6_wordFrom 13 = .ok (.if_icmp .gt 7, 3) := by decide +kernel
theorem dX6_wordFrom_16 : decode cX6_wordFrom 16 = .ok (.iconst 1, 1) := by decide +kernel
theorem dX6_wordFrom_17 : decode cX6_wordFrom 17 = .ok (.goto 4, 3) := by decide +kernel
theorem dX6_wordFrom_20 : decode cX6_wordFrom 20 = .ok (.iconst 0, 1) := by decide +kernel
theorem dX6_wordFrom_21 : decode cX6_wordFrom 21 = .ok (.istore 4, 2) := by decide +kernel
theorem dX6_wordFrom_23 : decode cX6_wordFrom 23 = .ok (.iconst 0, 1) := by decide +kernel
theorem dX6_wordFrom_24 : decode cX6_wordFrom 24 = .ok (.istore 5, 2) := by decide +kernel
theorem dX6_wordFrom_26 : decode cX6_wordFrom 26 = .ok (.iload 5, 2) := by decide +kernel
theorem dX6_wordFrom_28 : decode cX6_wordFrom 28 = .ok (.bipush 8, 2) := by decide +kernel
theorem dX6_wordFrom_30 : decode cX6_wordFrom 30 = .ok (.if_icmp .ge 58, 3) := by decide +kernel
theorem dX6_wordFrom_33 : decode cX6_wordFrom 33 = .ok (.iload 4, 2) := by decide +kernel
theorem dX6_wordFrom_35 : decode cX6_wordFrom 35 = .ok (.ifCond .eq 53, 3) := by decide +kernel
theorem dX6_wordFrom_38 : decode cX6_wordFrom 38 = .ok (.aload_n 0, 1) := by decide +kernel
theorem dX6_wordFrom_39 : decode cX6_wordFrom 39 = .ok (.getfield 52, 3) := by decide +kernel
theorem dX6_wordFrom_42 : decode cX6_wordFrom 42 = .ok (.bipush 8, 2) := by decide +kernel
theorem dX6_wordFrom_44 : decode cX6_wordFrom 44 = .ok (.iload_n 3, 1) := by decide +kernel
theorem dX6_wordFrom_45 : decode cX6_wordFrom 45 = .ok (.imul, 1) := by decide +kernel
theorem dX6_wordFrom_46 : decode cX6_wordFrom 46 = .ok (.iload 5, 2) := by decide +kernel
theorem dX6_wordFrom_48 : decode cX6_wordFrom 48 = .ok (.iadd, 1) := by decide +kernel
theorem dX6_wordFrom_49 : decode cX6_wordFrom 49 = .ok (.iaload, 1) := by decide +kernel
theorem dX6_wordFrom_50 : decode cX6_wordFrom 50 = .ok (.iload_n 1, 1) := by decide +kernel
theorem dX6_wordFrom_51 : decode cX6_wordFrom 51 = .ok (.iload 5, 2) := by decide +kernel
theorem dX6_wordFrom_53 : decode cX6_wordFrom 53 = .ok (.iadd, 1) := by decide +kernel
theorem dX6_wordFrom_54 : decode cX6_wordFrom 54 = .ok (.iload_n 2, 1) := by decide +kernel
theorem dX6_wordFrom_55 : decode cX6_wordFrom 55 = .ok (.if_icmp .ge 15, 3) := by decide +kernel
theorem dX6_wordFrom_58 : decode cX6_wordFrom 58 = .ok (.aload_n 0, 1) := by decide +kernel
theorem dX6_wordFrom_59 : decode cX6_wordFrom 59 = .ok (.getfield 25, 3) := by decide +kernel
theorem dX6_wordFrom_62 : decode cX6_wordFrom 62 = .ok (.iload_n 1, 1) := by decide +kernel
theorem dX6_wordFrom_63 : decode cX6_wordFrom 63 = .ok (.iload 5, 2) := by decide +kernel
theorem dX6_wordFrom_65 : decode cX6_wordFrom 65 = .ok (.iadd, 1) := by decide +kernel
theorem dX6_wordFrom_66 : decode cX6_wordFrom 66 = .ok (.iaload, 1) := by decide +kernel
theorem dX6_wordFrom_67 : decode cX6_wordFrom 67 = .ok (.goto 5, 3) := by decide +kernel
theorem dX6_wordFrom_70 : decode cX6_wordFrom 70 = .ok (.bipush 32, 2) := by decide +kernel
theorem dX6_wordFrom_72 : decode cX6_wordFrom 72 = .ok (.if_icmp .ne 7, 3) := by decide +kernel
theorem dX6_wordFrom_75 : decode cX6_wordFrom 75 = .ok (.iconst 1, 1) := by decide +kernel
theorem dX6_wordFrom_76 : decode cX6_wordFrom 76 = .ok (.goto 4, 3) := by decide +kernel
theorem dX6_wordFrom_79 : decode cX6_wordFrom 79 = .ok (.iconst 0, 1) := by decide +kernel
theorem dX6_wordFrom_80 : decode cX6_wordFrom 80 = .ok (.istore 4, 2) := by decide +kernel
theorem dX6_wordFrom_82 : decode cX6_wordFrom 82 = .ok (.iinc 5 1, 3) := by decide +kernel
theorem dX6_wordFrom_85 : decode cX6_wordFrom 85 = .ok (.goto (-59), 3) := by decide +kernel
theorem dX6_wordFrom_88 : decode cX6_wordFrom 88 = .ok (.iload 4, 2) := by decide +kernel
theorem dX6_wordFrom_90 : decode cX6_wordFrom 90 = .ok (.ifCond .eq 5, 3) := by decide +kernel
theorem dX6_wordFrom_93 : decode cX6_wordFrom 93 = .ok (.iload_n 3, 1) := by decide +kernel
theorem dX6_wordFrom_94 : decode cX6_wordFrom 94 = .ok (.ireturn, 1) := by decide +kernel
theorem dX6_wordFrom_95 : decode cX6_wordFrom 95 = .ok (.iinc 3 1, 3) := by decide +kernel
theorem dX6_wordFrom_98 : decode cX6_wordFrom 98 = .ok (.goto (-96), 3) := by decide +kernel
theorem dX6_wordFrom_101 : decode cX6_wordFrom 101 = .ok (.bipush 12, 2) := by decide +kernel
theorem dX6_wordFrom_103 : decode cX6_wordFrom 103 = .ok (.ireturn, 1) := by decide +kernel
theorem dX6_next_0 : decode cX6_next 0 = .ok (.aload_n 0, 1) := by decide +kernel
theorem dX6_next_1 : decode cX6_next 1 = .ok (.getfield 115, 3) := by decide +kernel
theorem dX6_next_4 : decode cX6_next 4 = .ok (.aload_n 0, 1) := by decide +kernel
theorem dX6_next_5 : decode cX6_next 5 = .ok (.getfield 71, 3) := by decide +kernel
theorem dX6_next_8 : decode cX6_next 8 = .ok (.if_icmp .ge 44, 3) := by decide +kernel
theorem dX6_next_11 : decode cX6_next 11 = .ok (.aload_n 0, 1) := by decide +kernel
theorem dX6_next_12 : decode cX6_next 12 = .ok (.getfield 25, 3) := by decide +kernel
theorem dX6_next_15 : decode cX6_next 15 = .ok (.aload_n 0, 1) := by decide +kernel
theorem dX6_next_16 : decode cX6_next 16 = .ok (.getfield 115, 3) := by decide +kernel
theorem dX6_next_19 : decode cX6_next 19 = .ok (.iaload, 1) := by decide +kernel
theorem dX6_next_20 : decode cX6_next 20 = .ok (.bipush 32, 2) := by decide +kernel
theorem dX6_next_22 : decode cX6_next 22 = .ok (.if_icmp .eq 17, 3) := by decide +kernel
theorem dX6_next_25 : decode cX6_next 25 = .ok (.aload_n 0, 1) := by decide +kernel
theorem dX6_next_26 : decode cX6_next 26 = .ok (.getfield 25, 3) := by decide +kernel
theorem dX6_next_29 : decode cX6_next 29 = .ok (.aload_n 0, 1) := by decide +kernel
theorem dX6_next_30 : decode cX6_next 30 = .ok (.getfield 115, 3) := by decide +kernel
theorem dX6_next_33 : decode cX6_next 33 = .ok (.iaload, 1) := by decide +kernel
theorem dX6_next_34 : decode cX6_next 34 = .ok (.bipush 10, 2) := by decide +kernel
theorem dX6_next_36 : decode cX6_next 36 = .ok (.if_icmp .ne 16, 3) := by decide +kernel
theorem dX6_next_39 : decode cX6_next 39 = .ok (.aload_n 0, 1) := by decide +kernel
theorem dX6_next_40 : decode cX6_next 40 = .ok (.dup, 1) := by decide +kernel
theorem dX6_next_41 : decode cX6_next 41 = .ok (.getfield 115, 3) := by decide +kernel
theorem dX6_next_44 : decode cX6_next 44 = .ok (.iconst 1, 1) := by decide +kernel
theorem dX6_next_45 : decode cX6_next 45 = .ok (.iadd, 1) := by decide +kernel
theorem dX6_next_46 : decode cX6_next 46 = .ok (.putfield 115, 3) := by decide +kernel
theorem dX6_next_49 : decode cX6_next 49 = .ok (.goto (-49), 3) := by decide +kernel
theorem dX6_next_52 : decode cX6_next 52 = .ok (.aload_n 0, 1) := by decide +kernel
theorem dX6_next_53 : decode cX6_next 53 = .ok (.aload_n 0, 1) := by decide +kernel
theorem dX6_next_54 : decode cX6_next 54 = .ok (.getfield 115, 3) := by decide +kernel
theorem dX6_next_57 : decode cX6_next 57 = .ok (.putfield 118, 3) := by decide +kernel
theorem dX6_next_60 : decode cX6_next 60 = .ok (.aload_n 0, 1) := by decide +kernel
theorem dX6_next_61 : decode cX6_next 61 = .ok (.iconst 0, 1) := by decide +kernel
theorem dX6_next_62 : decode cX6_next 62 = .ok (.putfield 121, 3) := by decide +kernel
theorem dX6_next_65 : decode cX6_next 65 = .ok (.aload_n 0, 1) := by decide +kernel
theorem dX6_next_66 : decode cX6_next 66 = .ok (.iconst 0, 1) := by decide +kernel
theorem dX6_next_67 : decode cX6_next 67 = .ok (.putfield 124, 3) := by decide +kernel
theorem dX6_next_70 : decode cX6_next 70 = .ok (.aload_n 0, 1) := by decide +kernel
theorem dX6_next_71 : decode cX6_next 71 = .ok (.getfield 115, 3) := by decide +kernel
theorem dX6_next_74 : decode cX6_next 74 = .ok (.aload_n 0, 1) := by decide +kernel
theorem dX6_next_75 : decode cX6_next 75 = .ok (.getfield 71, 3) := by decide +kernel
theorem dX6_next_78 : decode cX6_next 78 = .ok (.if_icmp .ne 4, 3) := by decide +kernel
theorem dX6_next_81 : decode cX6_next 81 = .ok (.return_, 1) := by decide +kernel
theorem dX6_next_82 : decode cX6_next 82 = .ok (.aload_n 0, 1) := by decide +kernel
theorem dX6_next_83 : decode cX6_next 83 = .ok (.getfield 25, 3) := by decide +kernel
theorem dX6_next_86 : decode cX6_next 86 = .ok (.aload_n 0, 1) := by decide +kernel
theorem dX6_next_87 : decode cX6_next 87 = .ok (.getfield 115, 3) := by decide +kernel
theorem dX6_next_90 : decode cX6_next 90 = .ok (.iaload, 1) := by decide +kernel
theorem dX6_next_91 : decode cX6_next 91 = .ok (.istore_n 1, 1) := by decide +kernel
theorem dX6_next_92 : decode cX6_next 92 = .ok (.iload_n 1, 1) := by decide +kernel
theorem dX6_next_93 : decode cX6_next 93 = .ok (.bipush 97, 2) := by decide +kernel
theorem dX6_next_95 : decode cX6_next 95 = .ok (.bipush 122, 2) := by decide +kernel
theorem dX6_next_97 : decode cX6_next 97 = .ok (.invokestatic 79, 3) := by decide +kernel
theorem dX6_next_100 : decode cX6_next 100 = .ok (.ifCond .eq 117, 3) := by decide +kernel
theorem dX6_next_103 : decode cX6_next 103 = .ok (.aload_n 0, 1) := by decide +kernel
theorem dX6_next_104 : decode cX6_next 104 = .ok (.getfield 115, 3) := by decide +kernel
theorem dX6_next_107 : decode cX6_next 107 = .ok (.aload_n 0, 1) := by decide +kernel
theorem dX6_next_108 : decode cX6_next 108 = .ok (.getfield 71, 3) := by decide +kernel
theorem dX6_next_111 : decode cX6_next 111 = .ok (.if_icmp .ge 35, 3) := by decide +kernel
theorem dX6_next_114 : decode cX6_next 114 = .ok (.aload_n 0, 1) := by decide +kernel
theorem dX6_next_115 : decode cX6_next 115 = .ok (.getfield 25, 3) := by decide +kernel
theorem dX6_next_118 : decode cX6_next 118 = .ok (.aload_n 0, 1) := by decide +kernel
theorem dX6_next_119 : decode cX6_next 119 = .ok (.getfield 115, 3) := by decide +kernel
theorem dX6_next_122 : decode cX6_next 122 = .ok (.iaload, 1) := by decide +kernel
theorem dX6_next_123 : decode cX6_next 123 = .ok (.bipush 97, 2) := by decide +kernel
theorem dX6_next_125 : decode cX6_next 125 = .ok (.bipush 122, 2) := by decide +kernel
theorem dX6_next_127 : decode cX6_next 127 = .ok (.invokestatic 79, 3) := by decide +kernel
theorem dX6_next_130 : decode cX6_next 130 = .ok (.ifCond .eq 16, 3) := by decide +kernel
theorem dX6_next_133 : decode cX6_next 133 = .ok (.aload_n 0, 1) := by decide +kernel
theorem dX6_next_134 : decode cX6_next 134 = .ok (.dup, 1) := by decide +kernel
theorem dX6_next_135 : decode cX6_next 135 = .ok (.getfield 115, 3) := by decide +kernel
theorem dX6_next_138 : decode cX6_next 138 = .ok (.iconst 1, 1) := by decide +kernel
theorem dX6_next_139 : decode cX6_next 139 = .ok (.iadd, 1) := by decide +kernel
theorem dX6_next_140 : decode cX6_next 140 = .ok (.putfield 115, 3) := by decide +kernel
theorem dX6_next_143 : decode cX6_next 143 = .ok (.goto (-40), 3) := by decide +kernel
theorem dX6_next_146 : decode cX6_next 146 = .ok (.aload_n 0, 1) := by decide +kernel
theorem dX6_next_147 : decode cX6_next 147 = .ok (.aload_n 0, 1) := by decide +kernel
theorem dX6_next_148 : decode cX6_next 148 = .ok (.getfield 118, 3) := by decide +kernel
theorem dX6_next_151 : decode cX6_next 151 = .ok (.aload_n 0, 1) := by decide +kernel
theorem dX6_next_152 : decode cX6_next 152 = .ok (.getfield 115, 3) := by decide +kernel
theorem dX6_next_155 : decode cX6_next 155 = .ok (.invokevirtual 127, 3) := by decide +kernel
theorem dX6_next_158 : decode cX6_next 158 = .ok (.istore_n 2, 1) := by decide +kernel
theorem dX6_next_159 : decode cX6_next 159 = .ok (.aload_n 0, 1) := by decide +kernel
theorem dX6_next_160 : decode cX6_next 160 = .ok (.iload_n 2, 1) := by decide +kernel
theorem dX6_next_161 : decode cX6_next 161 = .ok (.iconst 3, 1) := by decide +kernel
theorem dX6_next_162 : decode cX6_next 162 = .ok (.if_icmp .ge 7, 3) := by decide +kernel
theorem dX6_next_165 : decode cX6_next 165 = .ok (.iconst 3, 1) := by decide +kernel
theorem dX6_next_166 : decode cX6_next 166 = .ok (.goto 29, 3) := by decide +kernel
theorem dX6_next_169 : decode cX6_next 169 = .ok (.iload_n 2, 1) := by decide +kernel
theorem dX6_next_170 : decode cX6_next 170 = .ok (.bipush 9, 2) := by decide +kernel
theorem dX6_next_172 : decode cX6_next 172 = .ok (.if_icmp .ge 7, 3) := by decide +kernel
theorem dX6_next_175 : decode cX6_next 175 = .ok (.iconst 2, 1) := by decide +kernel
theorem dX6_next_176 : decode cX6_next 176 = .ok (.goto 19, 3) := by decide +kernel
theorem dX6_next_179 : decode cX6_next 179 = .ok (.iload_n 2, 1) := by decide +kernel
theorem dX6_next_180 : decode cX6_next 180 = .ok (.bipush 12, 2) := by decide +kernel
theorem dX6_next_182 : decode cX6_next 182 = .ok (.if_icmp .ne 7, 3) := by decide +kernel
theorem dX6_next_185 : decode cX6_next 185 = .ok (.iconst (-1), 1) := by decide +kernel
theorem dX6_next_186 : decode cX6_next 186 = .ok (.goto 9, 3) := by decide +kernel
theorem dX6_next_189 : decode cX6_next 189 = .ok (.iconst 4, 1) := by decide +kernel
theorem dX6_next_190 : decode cX6_next 190 = .ok (.iload_n 2, 1) := by decide +kernel
theorem dX6_next_191 : decode cX6_next 191 = .ok (.iadd, 1) := by decide +kernel
theorem dX6_next_192 : decode cX6_next 192 = .ok (.bipush 9, 2) := by decide +kernel
theorem dX6_next_194 : decode cX6_next 194 = .ok (.isub, 1) := by decide +kernel
theorem dX6_next_195 : decode cX6_next 195 = .ok (.putfield 121, 3) := by decide +kernel
theorem dX6_next_198 : decode cX6_next 198 = .ok (.aload_n 0, 1) := by decide +kernel
theorem dX6_next_199 : decode cX6_next 199 = .ok (.iload_n 2, 1) := by decide +kernel
theorem dX6_next_200 : decode cX6_next 200 = .ok (.iconst 3, 1) := by decide +kernel
theorem dX6_next_201 : decode cX6_next 201 = .ok (.if_icmp .ge 7, 3) := by decide +kernel
theorem dX6_next_204 : decode cX6_next 204 = .ok (.iload_n 2, 1) := by decide +kernel
theorem dX6_next_205 : decode cX6_next 205 = .ok (.goto 6, 3) := by decide +kernel
theorem dX6_next_208 : decode cX6_next 208 = .ok (.iload_n 2, 1) := by decide +kernel
theorem dX6_next_209 : decode cX6_next 209 = .ok (.iconst 3, 1) := by decide +kernel
theorem dX6_next_210 : decode cX6_next 210 = .ok (.isub, 1) := by decide +kernel
theorem dX6_next_211 : decode cX6_next 211 = .ok (.putfield 124, 3) := by decide +kernel
theorem dX6_next_214 : decode cX6_next 214 = .ok (.goto 189, 3) := by decide +kernel
theorem dX6_next_217 : decode cX6_next 217 = .ok (.iload_n 1, 1) := by decide +kernel
theorem dX6_next_218 : decode cX6_next 218 = .ok (.bipush 48, 2) := by decide +kernel
theorem dX6_next_220 : decode cX6_next 220 = .ok (.bipush 57, 2) := by decide +kernel
theorem dX6_next_222 : decode cX6_next 222 = .ok (.invokestatic 79, 3) := by decide +kernel
theorem dX6_next_225 : decode cX6_next 225 = .ok (.ifCond .eq 101, 3) := by decide +kernel
theorem dX6_next_228 : decode cX6_next 228 = .ok (.iconst 0, 1) := by decide +kernel
theorem dX6_next_229 : decode cX6_next 229 = .ok (.istore_n 2, 1) := by decide +kernel
theorem dX6_next_230 : decode cX6_next 230 = .ok (.aload_n 0, 1) := by decide +kernel
theorem dX6_next_231 : decode cX6_next 231 = .ok (.getfield 115, 3) := by decide +kernel
theorem dX6_next_234 : decode cX6_next 234 = .ok (.aload_n 0, 1) := by decide +kernel
theorem dX6_next_235 : decode cX6_next 235 = .ok (.getfield 71, 3) := by decide +kernel
theorem dX6_next_238 : decode cX6_next 238 = .ok (.if_icmp .ge 71, 3) := by decide +kernel
theorem dX6_next_241 : decode cX6_next 241 = .ok (.aload_n 0, 1) := by decide +kernel
theorem dX6_next_242 : decode cX6_next 242 = .ok (.getfield 25, 3) := by decide +kernel
theorem dX6_next_245 : decode cX6_next 245 = .ok (.aload_n 0, 1) := by decide +kernel
theorem dX6_next_246 : decode cX6_next 246 = .ok (.getfield 115, 3) := by decide +kernel
theorem dX6_next_249 : decode cX6_next 249 = .ok (.iaload, 1) := by decide +kernel
theorem dX6_next_250 : decode cX6_next 250 = .ok (.bipush 48, 2) := by decide +kernel
theorem dX6_next_252 : decode cX6_next 252 = .ok (.bipush 57, 2) := by decide +kernel
theorem dX6_next_254 : decode cX6_next 254 = .ok (.invokestatic 79, 3) := by decide +kernel
theorem dX6_next_257 : decode cX6_next 257 = .ok (.ifCond .eq 52, 3) := by decide +kernel
theorem dX6_next_260 : decode cX6_next 260 = .ok (.aload_n 0, 1) := by decide +kernel
theorem dX6_next_261 : decode cX6_next 261 = .ok (.iload_n 2, 1) := by decide +kernel
theorem dX6_next_262 : decode cX6_next 262 = .ok (.iconst 4, 1) := by decide +kernel
theorem dX6_next_263 : decode cX6_next 263 = .ok (.if_icmp .ge 26, 3) := by decide +kernel
theorem dX6_next_266 : decode cX6_next 266 = .ok (.bipush 10, 2) := by decide +kernel
theorem dX6_next_268 : decode cX6_next 268 = .ok (.aload_n 0, 1) := by decide +kernel
theorem dX6_next_269 : decode cX6_next 269 = .ok (.getfield 124, 3) := by decide +kernel
theorem dX6_next_272 : decode cX6_next 272 = .ok (.imul, 1) := by decide +kernel
theorem dX6_next_273 : decode cX6_next 273 = .ok (.aload_n 0, 1) := by decide +kernel
theorem dX6_next_274 : decode cX6_next 274 = .ok (.getfield 25, 3) := by decide +kernel
theorem dX6_next_277 : decode cX6_next 277 = .ok (.aload_n 0, 1) := by decide +kernel
theorem dX6_next_278 : decode cX6_next 278 = .ok (.getfield 115, 3) := by decide +kernel
theorem dX6_next_281 : decode cX6_next 281 = .ok (.iaload, 1) := by decide +kernel
theorem dX6_next_282 : decode cX6_next 282 = .ok (.iadd, 1) := by decide +kernel
theorem dX6_next_283 : decode cX6_next 283 = .ok (.bipush 48, 2) := by decide +kernel
theorem dX6_next_285 : decode cX6_next 285 = .ok (.isub, 1) := by decide +kernel
theorem dX6_next_286 : decode cX6_next 286 = .ok (.goto 4, 3) := by decide +kernel
theorem dX6_next_289 : decode cX6_next 289 = .ok (.iconst 0, 1) := by decide +kernel
theorem dX6_next_290 : decode cX6_next 290 = .ok (.putfield 124, 3) := by decide +kernel
theorem dX6_next_293 : decode cX6_next 293 = .ok (.iinc 2 1, 3) := by decide +kernel
theorem dX6_next_296 : decode cX6_next 296 = .ok (.aload_n 0, 1) := by decide +kernel
theorem dX6_next_297 : decode cX6_next 297 = .ok (.dup, 1) := by decide +kernel
theorem dX6_next_298 : decode cX6_next 298 = .ok (.getfield 115, 3) := by decide +kernel
theorem dX6_next_301 : decode cX6_next 301 = .ok (.iconst 1, 1) := by decide +kernel
theorem dX6_next_302 : decode cX6_next 302 = .ok (.iadd, 1) := by decide +kernel
theorem dX6_next_303 : decode cX6_next 303 = .ok (.putfield 115, 3) := by decide +kernel
theorem dX6_next_306 : decode cX6_next 306 = .ok (.goto (-76), 3) := by decide +kernel
theorem dX6_next_309 : decode cX6_next 309 = .ok (.aload_n 0, 1) := by decide +kernel
theorem dX6_next_310 : decode cX6_next 310 = .ok (.iload_n 2, 1) := by decide +kernel
theorem dX6_next_311 : decode cX6_next 311 = .ok (.iconst 4, 1) := by decide +kernel
theorem dX6_next_312 : decode cX6_next 312 = .ok (.if_icmp .le 7, 3) := by decide +kernel
theorem dX6_next_315 : decode cX6_next 315 = .ok (.iconst (-1), 1) := by decide +kernel
theorem dX6_next_316 : decode cX6_next 316 = .ok (.goto 4, 3) := by decide +kernel
theorem dX6_next_319 : decode cX6_next 319 = .ok (.iconst 1, 1) := by decide +kernel
theorem dX6_next_320 : decode cX6_next 320 = .ok (.putfield 121, 3) := by decide +kernel
theorem dX6_next_323 : decode cX6_next 323 = .ok (.goto 80, 3) := by decide +kernel
theorem dX6_next_326 : decode cX6_next 326 = .ok (.iload_n 1, 1) := by decide +kernel
theorem dX6_next_327 : decode cX6_next 327 = .ok (.bipush 40, 2) := by decide +kernel
theorem dX6_next_329 : decode cX6_next 329 = .ok (.if_icmp .eq 45, 3) := by decide +kernel
theorem dX6_next_332 : decode cX6_next 332 = .ok (.iload_n 1, 1) := by decide +kernel
theorem dX6_next_333 : decode cX6_next 333 = .ok (.bipush 41, 2) := by decide +kernel
theorem dX6_next_335 : decode cX6_next 335 = .ok (.if_icmp .eq 39, 3) := by decide +kernel
theorem dX6_next_338 : decode cX6_next 338 = .ok (.iload_n 1, 1) := by decide +kernel
theorem dX6_next_339 : decode cX6_next 339 = .ok (.bipush 59, 2) := by decide +kernel
theorem dX6_next_341 : decode cX6_next 341 = .ok (.if_icmp .eq 33, 3) := by decide +kernel
theorem dX6_next_344 : decode cX6_next 344 = .ok (.iload_n 1, 1) := by decide +kernel
theorem dX6_next_345 : decode cX6_next 345 = .ok (.bipush 43, 2) := by decide +kernel
theorem dX6_next_347 : decode cX6_next 347 = .ok (.if_icmp .eq 27, 3) := by decide +kernel
theorem dX6_next_350 : decode cX6_next 350 = .ok (.iload_n 1, 1) := by decide +kernel
theorem dX6_next_351 : decode cX6_next 351 = .ok (.bipush 45, 2) := by decide +kernel
theorem dX6_next_353 : decode cX6_next 353 = .ok (.if_icmp .eq 21, 3) := by decide +kernel
theorem dX6_next_356 : decode cX6_next 356 = .ok (.iload_n 1, 1) := by decide +kernel
theorem dX6_next_357 : decode cX6_next 357 = .ok (.bipush 42, 2) := by decide +kernel
theorem dX6_next_359 : decode cX6_next 359 = .ok (.if_icmp .eq 15, 3) := by decide +kernel
theorem dX6_next_362 : decode cX6_next 362 = .ok (.iload_n 1, 1) := by decide +kernel
theorem dX6_next_363 : decode cX6_next 363 = .ok (.bipush 60, 2) := by decide +kernel
theorem dX6_next_365 : decode cX6_next 365 = .ok (.if_icmp .eq 9, 3) := by decide +kernel
theorem dX6_next_368 : decode cX6_next 368 = .ok (.iload_n 1, 1) := by decide +kernel
theorem dX6_next_369 : decode cX6_next 369 = .ok (.bipush 61, 2) := by decide +kernel
theorem dX6_next_371 : decode cX6_next 371 = .ok (.if_icmp .ne 7, 3) := by decide +kernel
theorem dX6_next_374 : decode cX6_next 374 = .ok (.iconst 1, 1) := by decide +kernel
theorem dX6_next_375 : decode cX6_next 375 = .ok (.goto 4, 3) := by decide +kernel
theorem dX6_next_378 : decode cX6_next 378 = .ok (.iconst 0, 1) := by decide +kernel
theorem dX6_next_379 : decode cX6_next 379 = .ok (.istore_n 2, 1) := by decide +kernel
theorem dX6_next_380 : decode cX6_next 380 = .ok (.aload_n 0, 1) := by decide +kernel
theorem dX6_next_381 : decode cX6_next 381 = .ok (.iload_n 2, 1) := by decide +kernel
theorem dX6_next_382 : decode cX6_next 382 = .ok (.ifCond .eq 7, 3) := by decide +kernel
theorem dX6_next_385 : decode cX6_next 385 = .ok (.iload_n 1, 1) := by decide +kernel
theorem dX6_next_386 : decode cX6_next 386 = .ok (.goto 4, 3) := by decide +kernel
theorem dX6_next_389 : decode cX6_next 389 = .ok (.iconst (-1), 1) := by decide +kernel
theorem dX6_next_390 : decode cX6_next 390 = .ok (.putfield 121, 3) := by decide +kernel
theorem dX6_next_393 : decode cX6_next 393 = .ok (.aload_n 0, 1) := by decide +kernel
theorem dX6_next_394 : decode cX6_next 394 = .ok (.dup, 1) := by decide +kernel
theorem dX6_next_395 : decode cX6_next 395 = .ok (.getfield 115, 3) := by decide +kernel
theorem dX6_next_398 : decode cX6_next 398 = .ok (.iconst 1, 1) := by decide +kernel
theorem dX6_next_399 : decode cX6_next 399 = .ok (.iadd, 1) := by decide +kernel
theorem dX6_next_400 : decode cX6_next 400 = .ok (.putfield 115, 3) := by decide +kernel
theorem dX6_next_403 : decode cX6_next 403 = .ok (.return_, 1) := by decide +kernel
theorem dX6_rank_0 : decode cX6_rank 0 = .ok (.iload_n 0, 1) := by decide +kernel
theorem dX6_rank_1 : decode cX6_rank 1 = .ok (.ifCond .ne 7, 3) := by decide +kernel
theorem dX6_rank_4 : decode cX6_rank 4 = .ok (.iconst 0, 1) := by decide +kernel
theorem dX6_rank_5 : decode cX6_rank 5 = .ok (.goto 66, 3) := by decide +kernel
theorem dX6_rank_8 : decode cX6_rank 8 = .ok (.iload_n 0, 1) := by decide +kernel
theorem dX6_rank_9 : decode cX6_rank 9 = .ok (.bipush 11, 2) := by decide +kernel
theorem dX6_rank_11 : decode cX6_rank 11 = .ok (.if_icmp .ne 7, 3) := by decide +kernel
theorem dX6_rank_14 : decode cX6_rank 14 = .ok (.iconst 1, 1) := by decide +kernel
theorem dX6_rank_15 : decode cX6_rank 15 = .ok (.goto 56, 3) := by decide +kernel
theorem dX6_rank_18 : decode cX6_rank 18 = .ok (.iload_n 0, 1) := by decide +kernel
theorem dX6_rank_19 : decode cX6_rank 19 = .ok (.bipush 12, 2) := by decide +kernel
theorem dX6_rank_21 : decode cX6_rank 21 = .ok (.if_icmp .ne 7, 3) := by decide +kernel
theorem dX6_rank_24 : decode cX6_rank 24 = .ok (.iconst 2, 1) := by decide +kernel
theorem dX6_rank_25 : decode cX6_rank 25 = .ok (.goto 46, 3) := by decide +kernel
theorem dX6_rank_28 : decode cX6_rank 28 = .ok (.iload_n 0, 1) := by decide +kernel
theorem dX6_rank_29 : decode cX6_rank 29 = .ok (.bipush 13, 2) := by decide +kernel
theorem dX6_rank_31 : decode cX6_rank 31 = .ok (.if_icmp .ne 7, 3) := by decide +kernel
theorem dX6_rank_34 : decode cX6_rank 34 = .ok (.iconst 3, 1) := by decide +kernel
theorem dX6_rank_35 : decode cX6_rank 35 = .ok (.goto 36, 3) := by decide +kernel
theorem dX6_rank_38 : decode cX6_rank 38 = .ok (.iload_n 0, 1) := by decide +kernel
theorem dX6_rank_39 : decode cX6_rank 39 = .ok (.bipush 15, 2) := by decide +kernel
theorem dX6_rank_41 : decode cX6_rank 41 = .ok (.if_icmp .gt 7, 3) := by decide +kernel
theorem dX6_rank_44 : decode cX6_rank 44 = .ok (.iconst 4, 1) := by decide +kernel
theorem dX6_rank_45 : decode cX6_rank 45 = .ok (.goto 26, 3) := by decide +kernel
theorem dX6_rank_48 : decode cX6_rank 48 = .ok (.iload_n 0, 1) := by decide +kernel
theorem dX6_rank_49 : decode cX6_rank 49 = .ok (.bipush 17, 2) := by decide +kernel
theorem dX6_rank_51 : decode cX6_rank 51 = .ok (.if_icmp .gt 7, 3) := by decide +kernel
theorem dX6_rank_54 : decode cX6_rank 54 = .ok (.iconst 5, 1) := by decide +kernel
theorem dX6_rank_55 : decode cX6_rank 55 = .ok (.goto 16, 3) := by decide +kernel
theorem dX6_rank_58 : decode cX6_rank 58 = .ok (.iload_n 0, 1) := by decide +kernel
theorem dX6_rank_59 : decode cX6_rank 59 = .ok (.bipush 18, 2) := by decide +kernel
theorem dX6_rank_61 : decode cX6_rank 61 = .ok (.if_icmp .ne 8, 3) := by decide +kernel
theorem dX6_rank_64 : decode cX6_rank 64 = .ok (.bipush 6, 2) := by decide +kernel
theorem dX6_rank_66 : decode cX6_rank 66 = .ok (.goto 5, 3) := by decide +kernel
theorem dX6_rank_69 : decode cX6_rank 69 = .ok (.bipush 7, 2) := by decide +kernel
theorem dX6_rank_71 : decode cX6_rank 71 = .ok (.ireturn, 1) := by decide +kernel
theorem dX6_puts_0 : decode cX6_puts 0 = .ok (.aload_n 0, 1) := by decide +kernel
theorem dX6_puts_1 : decode cX6_puts 1 = .ok (.getfield 28, 3) := by decide +kernel
theorem dX6_puts_4 : decode cX6_puts 4 = .ok (.sipush 200, 3) := by decide +kernel
theorem dX6_puts_7 : decode cX6_puts 7 = .ok (.aload_n 0, 1) := by decide +kernel
theorem dX6_puts_8 : decode cX6_puts 8 = .ok (.getfield 97, 3) := by decide +kernel
theorem dX6_puts_11 : decode cX6_puts 11 = .ok (.imul, 1) := by decide +kernel
theorem dX6_puts_12 : decode cX6_puts 12 = .ok (.aload_n 0, 1) := by decide +kernel
theorem dX6_puts_13 : decode cX6_puts 13 = .ok (.getfield 131, 3) := by decide +kernel
theorem dX6_puts_16 : decode cX6_puts 16 = .ok (.iadd, 1) := by decide +kernel
theorem dX6_puts_17 : decode cX6_puts 17 = .ok (.iload_n 1, 1) := by decide +kernel
theorem dX6_puts_18 : decode cX6_puts 18 = .ok (.iastore, 1) := by decide +kernel
theorem dX6_puts_19 : decode cX6_puts 19 = .ok (.aload_n 0, 1) := by decide +kernel
theorem dX6_puts_20 : decode cX6_puts 20 = .ok (.dup, 1) := by decide +kernel
theorem dX6_puts_21 : decode cX6_puts 21 = .ok (.getfield 131, 3) := by decide +kernel
theorem dX6_puts_24 : decode cX6_puts 24 = .ok (.iconst 1, 1) := by decide +kernel
theorem dX6_puts_25 : decode cX6_puts 25 = .ok (.iadd, 1) := by decide +kernel
theorem dX6_puts_26 : decode cX6_puts 26 = .ok (.putfield 131, 3) := by decide +kernel
theorem dX6_puts_29 : decode cX6_puts 29 = .ok (.return_, 1) := by decide +kernel
theorem dX6_unwinds_0 : decode cX6_unwinds 0 = .ok (.aload_n 0, 1) := by decide +kernel
theorem dX6_unwinds_1 : decode cX6_unwinds 1 = .ok (.getfield 134, 3) := by decide +kernel
theorem dX6_unwinds_4 : decode cX6_unwinds 4 = .ok (.ifCond .le 75, 3) := by decide +kernel
theorem dX6_unwinds_7 : decode cX6_unwinds 7 = .ok (.aload_n 0, 1) := by decide +kernel
theorem dX6_unwinds_8 : decode cX6_unwinds 8 = .ok (.getfield 55, 3) := by decide +kernel
theorem dX6_unwinds_11 : decode cX6_unwinds 11 = .ok (.aload_n 0, 1) := by decide +kernel
theorem dX6_unwinds_12 : decode cX6_unwinds 12 = .ok (.getfield 134, 3) := by decide +kernel
theorem dX6_unwinds_15 : decode cX6_unwinds 15 = .ok (.iconst 1, 1) := by decide +kernel
theorem dX6_unwinds_16 : decode cX6_unwinds 16 = .ok (.isub, 1) := by decide +kernel
theorem dX6_unwinds_17 : decode cX6_unwinds 17 = .ok (.iaload, 1) := by decide +kernel
theorem dX6_unwinds_18 : decode cX6_unwinds 18 = .ok (.invokestatic 137, 3) := by decide +kernel
theorem dX6_unwinds_21 : decode cX6_unwinds 21 = .ok (.iload_n 1, 1) := by decide +kernel
theorem dX6_unwinds_22 : decode cX6_unwinds 22 = .ok (.if_icmp .lt 57, 3) := by decide +kernel
theorem dX6_unwinds_25 : decode cX6_unwinds 25 = .ok (.aload_n 0, 1) := by decide +kernel
theorem dX6_unwinds_26 : decode cX6_unwinds 26 = .ok (.dup, 1) := by decide +kernel
theorem dX6_unwinds_27 : decode cX6_unwinds 27 = .ok (.getfield 134, 3) := by decide +kernel
theorem dX6_unwinds_30 : decode cX6_unwinds 30 = .ok (.iconst 1, 1) := by decide +kernel
theorem dX6_unwinds_31 : decode cX6_unwinds 31 = .ok (.isub, 1) := by decide +kernel
theorem dX6_unwinds_32 : decode cX6_unwinds 32 = .ok (.putfield 134, 3) := by decide +kernel
theorem dX6_unwinds_35 : decode cX6_unwinds 35 = .ok (.aload_n 0, 1) := by decide +kernel
theorem dX6_unwinds_36 : decode cX6_unwinds 36 = .ok (.getfield 55, 3) := by decide +kernel
theorem dX6_unwinds_39 : decode cX6_unwinds 39 = .ok (.aload_n 0, 1) := by decide +kernel
theorem dX6_unwinds_40 : decode cX6_unwinds 40 = .ok (.getfield 134, 3) := by decide +kernel
theorem dX6_unwinds_43 : decode cX6_unwinds 43 = .ok (.iaload, 1) := by decide +kernel
theorem dX6_unwinds_44 : decode cX6_unwinds 44 = .ok (.istore_n 2, 1) := by decide +kernel
theorem dX6_unwinds_45 : decode cX6_unwinds 45 = .ok (.aload_n 0, 1) := by decide +kernel
theorem dX6_unwinds_46 : decode cX6_unwinds 46 = .ok (.dup, 1) := by decide +kernel
theorem dX6_unwinds_47 : decode cX6_unwinds 47 = .ok (.getfield 141, 3) := by decide +kernel
theorem dX6_unwinds_50 : decode cX6_unwinds 50 = .ok (.iload_n 2, 1) := by decide +kernel
theorem dX6_unwinds_51 : decode cX6_unwinds 51 = .ok (.bipush 13, 2) := by decide +kernel
theorem dX6_unwinds_53 : decode cX6_unwinds 53 = .ok (.if_icmp .eq 9, 3) := by decide +kernel
theorem dX6_unwinds_56 : decode cX6_unwinds 56 = .ok (.iload_n 2, 1) := by decide +kernel
theorem dX6_unwinds_57 : decode cX6_unwinds 57 = .ok (.bipush 19, 2) := by decide +kernel
theorem dX6_unwinds_59 : decode cX6_unwinds 59 = .ok (.if_icmp .ne 7, 3) := by decide +kernel
theorem dX6_unwinds_62 : decode cX6_unwinds 62 = .ok (.iconst 1, 1) := by decide +kernel
theorem dX6_unwinds_63 : decode cX6_unwinds 63 = .ok (.goto 4, 3) := by decide +kernel
theorem dX6_unwinds_66 : decode cX6_unwinds 66 = .ok (.iconst 0, 1) := by decide +kernel
theorem dX6_unwinds_67 : decode cX6_unwinds 67 = .ok (.isub, 1) := by decide +kernel
theorem dX6_unwinds_68 : decode cX6_unwinds 68 = .ok (.putfield 141, 3) := by decide +kernel
theorem dX6_unwinds_71 : decode cX6_unwinds 71 = .ok (.aload_n 0, 1) := by decide +kernel
theorem dX6_unwinds_72 : decode cX6_unwinds 72 = .ok (.iload_n 2, 1) := by decide +kernel
theorem dX6_unwinds_73 : decode cX6_unwinds 73 = .ok (.invokevirtual 144, 3) := by decide +kernel
theorem dX6_unwinds_76 : decode cX6_unwinds 76 = .ok (.goto (-76), 3) := by decide +kernel
theorem dX6_unwinds_79 : decode cX6_unwinds 79 = .ok (.return_, 1) := by decide +kernel
theorem dX6_holds_0 : decode cX6_holds 0 = .ok (.aload_n 0, 1) := by decide +kernel
theorem dX6_holds_1 : decode cX6_holds 1 = .ok (.getfield 55, 3) := by decide +kernel
theorem dX6_holds_4 : decode cX6_holds 4 = .ok (.aload_n 0, 1) := by decide +kernel
theorem dX6_holds_5 : decode cX6_holds 5 = .ok (.getfield 134, 3) := by decide +kernel
theorem dX6_holds_8 : decode cX6_holds 8 = .ok (.iload_n 1, 1) := by decide +kernel
theorem dX6_holds_9 : decode cX6_holds 9 = .ok (.iastore, 1) := by decide +kernel
theorem dX6_holds_10 : decode cX6_holds 10 = .ok (.aload_n 0, 1) := by decide +kernel
theorem dX6_holds_11 : decode cX6_holds 11 = .ok (.dup, 1) := by decide +kernel
theorem dX6_holds_12 : decode cX6_holds 12 = .ok (.getfield 134, 3) := by decide +kernel
theorem dX6_holds_15 : decode cX6_holds 15 = .ok (.iconst 1, 1) := by decide +kernel
theorem dX6_holds_16 : decode cX6_holds 16 = .ok (.iadd, 1) := by decide +kernel
theorem dX6_holds_17 : decode cX6_holds 17 = .ok (.putfield 134, 3) := by decide +kernel
theorem dX6_holds_20 : decode cX6_holds 20 = .ok (.return_, 1) := by decide +kernel
theorem dX6_opensOne_0 : decode cX6_opensOne 0 = .ok (.aload_n 0, 1) := by decide +kernel
theorem dX6_opensOne_1 : decode cX6_opensOne 1 = .ok (.getfield 141, 3) := by decide +kernel
theorem dX6_opensOne_4 : decode cX6_opensOne 4 = .ok (.iconst 5, 1) := by decide +kernel
theorem dX6_opensOne_5 : decode cX6_opensOne 5 = .ok (.if_icmp .ne 5, 3) := by decide +kernel
theorem dX6_opensOne_8 : decode cX6_opensOne 8 = .ok (.iconst 0, 1) := by decide +kernel
theorem dX6_opensOne_9 : decode cX6_opensOne 9 = .ok (.ireturn, 1) := by decide +kernel
theorem dX6_opensOne_10 : decode cX6_opensOne 10 = .ok (.aload_n 0, 1) := by decide +kernel
theorem dX6_opensOne_11 : decode cX6_opensOne 11 = .ok (.dup, 1) := by decide +kernel
theorem dX6_opensOne_12 : decode cX6_opensOne 12 = .ok (.getfield 141, 3) := by decide +kernel
theorem dX6_opensOne_15 : decode cX6_opensOne 15 = .ok (.iconst 1, 1) := by decide +kernel
theorem dX6_opensOne_16 : decode cX6_opensOne 16 = .ok (.iadd, 1) := by decide +kernel
theorem dX6_opensOne_17 : decode cX6_opensOne 17 = .ok (.putfield 141, 3) := by decide +kernel
theorem dX6_opensOne_20 : decode cX6_opensOne 20 = .ok (.aload_n 0, 1) := by decide +kernel
theorem dX6_opensOne_21 : decode cX6_opensOne 21 = .ok (.iload_n 1, 1) := by decide +kernel
theorem dX6_opensOne_22 : decode cX6_opensOne 22 = .ok (.invokevirtual 148, 3) := by decide +kernel
theorem dX6_opensOne_25 : decode cX6_opensOne 25 = .ok (.iconst 1, 1) := by decide +kernel
theorem dX6_opensOne_26 : decode cX6_opensOne 26 = .ok (.ireturn, 1) := by decide +kernel
theorem dX6_between_0 : decode cX6_between 0 = .ok (.aload_n 0, 1) := by decide +kernel
theorem dX6_between_1 : decode cX6_between 1 = .ok (.iload_n 1, 1) := by decide +kernel
theorem dX6_between_2 : decode cX6_between 2 = .ok (.invokestatic 137, 3) := by decide +kernel
theorem dX6_between_5 : decode cX6_between 5 = .ok (.iconst 4, 1) := by decide +kernel
theorem dX6_between_6 : decode cX6_between 6 = .ok (.if_icmp .ne 7, 3) := by decide +kernel
theorem dX6_between_9 : decode cX6_between 9 = .ok (.iconst 5, 1) := by decide +kernel
theorem dX6_between_10 : decode cX6_between 10 = .ok (.goto 7, 3) := by decide +kernel
theorem dX6_between_13 : decode cX6_between 13 = .ok (.iload_n 1, 1) := by decide +kernel
theorem dX6_between_14 : decode cX6_between 14 = .ok (.invokestatic 137, 3) := by decide +kernel
theorem dX6_between_17 : decode cX6_between 17 = .ok (.invokevirtual 151, 3) := by decide +kernel
theorem dX6_between_20 : decode cX6_between 20 = .ok (.iload_n 1, 1) := by decide +kernel
theorem dX6_between_21 : decode cX6_between 21 = .ok (.invokestatic 137, 3) := by decide +kernel
theorem dX6_between_24 : decode cX6_between 24 = .ok (.iconst 4, 1) := by decide +kernel
theorem dX6_between_25 : decode cX6_between 25 = .ok (.if_icmp .ne 30, 3) := by decide +kernel
theorem dX6_between_28 : decode cX6_between 28 = .ok (.aload_n 0, 1) := by decide +kernel
theorem dX6_between_29 : decode cX6_between 29 = .ok (.getfield 134, 3) := by decide +kernel
theorem dX6_between_32 : decode cX6_between 32 = .ok (.ifCond .le 23, 3) := by decide +kernel
theorem dX6_between_35 : decode cX6_between 35 = .ok (.aload_n 0, 1) := by decide +kernel
theorem dX6_between_36 : decode cX6_between 36 = .ok (.getfield 55, 3) := by decide +kernel
theorem dX6_between_39 : decode cX6_between 39 = .ok (.aload_n 0, 1) := by decide +kernel
theorem dX6_between_40 : decode cX6_between 40 = .ok (.getfield 134, 3) := by decide +kernel
theorem dX6_between_43 : decode cX6_between 43 = .ok (.iconst 1, 1) := by decide +kernel
theorem dX6_between_44 : decode cX6_between 44 = .ok (.isub, 1) := by decide +kernel
theorem dX6_between_45 : decode cX6_between 45 = .ok (.iaload, 1) := by decide +kernel
theorem dX6_between_46 : decode cX6_between 46 = .ok (.invokestatic 137, 3) := by decide +kernel
theorem dX6_between_49 : decode cX6_between 49 = .ok (.iconst 4, 1) := by decide +kernel
theorem dX6_between_50 : decode cX6_between 50 = .ok (.if_icmp .ne 5, 3) := by decide +kernel
theorem dX6_between_53 : decode cX6_between 53 = .ok (.iconst 0, 1) := by decide +kernel
theorem dX6_between_54 : decode cX6_between 54 = .ok (.ireturn, 1) := by decide +kernel
theorem dX6_between_55 : decode cX6_between 55 = .ok (.aload_n 0, 1) := by decide +kernel
theorem dX6_between_56 : decode cX6_between 56 = .ok (.iload_n 1, 1) := by decide +kernel
theorem dX6_between_57 : decode cX6_between 57 = .ok (.invokevirtual 148, 3) := by decide +kernel
theorem dX6_between_60 : decode cX6_between 60 = .ok (.iconst 1, 1) := by decide +kernel
theorem dX6_between_61 : decode cX6_between 61 = .ok (.ireturn, 1) := by decide +kernel
theorem dX6_signOf_0 : decode cX6_signOf 0 = .ok (.aload_n 0, 1) := by decide +kernel
theorem dX6_signOf_1 : decode cX6_signOf 1 = .ok (.getfield 121, 3) := by decide +kernel
theorem dX6_signOf_4 : decode cX6_signOf 4 = .ok (.iconst 4, 1) := by decide +kernel
theorem dX6_signOf_5 : decode cX6_signOf 5 = .ok (.if_icmp .ne 8, 3) := by decide +kernel
theorem dX6_signOf_8 : decode cX6_signOf 8 = .ok (.bipush 11, 2) := by decide +kernel
theorem dX6_signOf_10 : decode cX6_signOf 10 = .ok (.goto 87, 3) := by decide +kernel
theorem dX6_signOf_13 : decode cX6_signOf 13 = .ok (.aload_n 0, 1) := by decide +kernel
theorem dX6_signOf_14 : decode cX6_signOf 14 = .ok (.getfield 121, 3) := by decide +kernel
theorem dX6_signOf_17 : decode cX6_signOf 17 = .ok (.iconst 5, 1) := by decide +kernel
theorem dX6_signOf_18 : decode cX6_signOf 18 = .ok (.if_icmp .ne 8, 3) := by decide +kernel
theorem dX6_signOf_21 : decode cX6_signOf 21 = .ok (.bipush 12, 2) := by decide +kernel
theorem dX6_signOf_23 : decode cX6_signOf 23 = .ok (.goto 74, 3) := by decide +kernel
theorem dX6_signOf_26 : decode cX6_signOf 26 = .ok (.aload_n 0, 1) := by decide +kernel
theorem dX6_signOf_27 : decode cX6_signOf 27 = .ok (.getfield 121, 3) := by decide +kernel
theorem dX6_signOf_30 : decode cX6_signOf 30 = .ok (.bipush 60, 2) := by decide +kernel
theorem dX6_signOf_32 : decode cX6_signOf 32 = .ok (.if_icmp .ne 8, 3) := by decide +kernel
theorem dX6_signOf_35 : decode cX6_signOf 35 = .ok (.bipush 14, 2) := by decide +kernel
theorem dX6_signOf_37 : decode cX6_signOf 37 = .ok (.goto 60, 3) := by decide +kernel
theorem dX6_signOf_40 : decode cX6_signOf 40 = .ok (.aload_n 0, 1) := by decide +kernel
theorem dX6_signOf_41 : decode cX6_signOf 41 = .ok (.getfield 121, 3) := by decide +kernel
theorem dX6_signOf_44 : decode cX6_signOf 44 = .ok (.bipush 61, 2) := by decide +kernel
theorem dX6_signOf_46 : decode cX6_signOf 46 = .ok (.if_icmp .ne 8, 3) := by decide +kernel
theorem dX6_signOf_49 : decode cX6_signOf 49 = .ok (.bipush 15, 2) := by decide +kernel
theorem dX6_signOf_51 : decode cX6_signOf 51 = .ok (.goto 46, 3) := by decide +kernel
theorem dX6_signOf_54 : decode cX6_signOf 54 = .ok (.aload_n 0, 1) := by decide +kernel
theorem dX6_signOf_55 : decode cX6_signOf 55 = .ok (.getfield 121, 3) := by decide +kernel
theorem dX6_signOf_58 : decode cX6_signOf 58 = .ok (.bipush 43, 2) := by decide +kernel
theorem dX6_signOf_60 : decode cX6_signOf 60 = .ok (.if_icmp .ne 8, 3) := by decide +kernel
theorem dX6_signOf_63 : decode cX6_signOf 63 = .ok (.bipush 16, 2) := by decide +kernel
theorem dX6_signOf_65 : decode cX6_signOf 65 = .ok (.goto 32, 3) := by decide +kernel
theorem dX6_signOf_68 : decode cX6_signOf 68 = .ok (.aload_n 0, 1) := by decide +kernel
theorem dX6_signOf_69 : decode cX6_signOf 69 = .ok (.getfield 121, 3) := by decide +kernel
theorem dX6_signOf_72 : decode cX6_signOf 72 = .ok (.bipush 45, 2) := by decide +kernel
theorem dX6_signOf_74 : decode cX6_signOf 74 = .ok (.if_icmp .ne 8, 3) := by decide +kernel
theorem dX6_signOf_77 : decode cX6_signOf 77 = .ok (.bipush 17, 2) := by decide +kernel
theorem dX6_signOf_79 : decode cX6_signOf 79 = .ok (.goto 18, 3) := by decide +kernel
theorem dX6_signOf_82 : decode cX6_signOf 82 = .ok (.aload_n 0, 1) := by decide +kernel
theorem dX6_signOf_83 : decode cX6_signOf 83 = .ok (.getfield 121, 3) := by decide +kernel
theorem dX6_signOf_86 : decode cX6_signOf 86 = .ok (.bipush 42, 2) := by decide +kernel
theorem dX6_signOf_88 : decode cX6_signOf 88 = .ok (.if_icmp .ne 8, 3) := by decide +kernel
theorem dX6_signOf_91 : decode cX6_signOf 91 = .ok (.bipush 18, 2) := by decide +kernel
theorem dX6_signOf_93 : decode cX6_signOf 93 = .ok (.goto 4, 3) := by decide +kernel
theorem dX6_signOf_96 : decode cX6_signOf 96 = .ok (.iconst (-1), 1) := by decide +kernel
theorem dX6_signOf_97 : decode cX6_signOf 97 = .ok (.ireturn, 1) := by decide +kernel
theorem dX6_eRead_0 : decode cX6_eRead 0 = .ok (.aload_n 0, 1) := by decide +kernel
theorem dX6_eRead_1 : decode cX6_eRead 1 = .ok (.iconst 0, 1) := by decide +kernel
theorem dX6_eRead_2 : decode cX6_eRead 2 = .ok (.putfield 134, 3) := by decide +kernel
theorem dX6_eRead_5 : decode cX6_eRead 5 = .ok (.aload_n 0, 1) := by decide +kernel
theorem dX6_eRead_6 : decode cX6_eRead 6 = .ok (.iconst 0, 1) := by decide +kernel
theorem dX6_eRead_7 : decode cX6_eRead 7 = .ok (.putfield 141, 3) := by decide +kernel
theorem dX6_eRead_10 : decode cX6_eRead 10 = .ok (.iconst 1, 1) := by decide +kernel
theorem dX6_eRead_11 : decode cX6_eRead 11 = .ok (.istore_n 1, 1) := by decide +kernel
theorem dX6_eRead_12 : decode cX6_eRead 12 = .ok (.iconst 1, 1) := by decide +kernel
theorem dX6_eRead_13 : decode cX6_eRead 13 = .ok (.istore_n 2, 1) := by decide +kernel
theorem dX6_eRead_14 : decode cX6_eRead 14 = .ok (.aload_n 0, 1) := by decide +kernel
theorem dX6_eRead_15 : decode cX6_eRead 15 = .ok (.invokevirtual 154, 3) := by decide +kernel
theorem dX6_eRead_18 : decode cX6_eRead 18 = .ok (.iload_n 1, 1) := by decide +kernel
theorem dX6_eRead_19 : decode cX6_eRead 19 = .ok (.ifCond .eq 131, 3) := by decide +kernel
theorem dX6_eRead_22 : decode cX6_eRead 22 = .ok (.aload_n 0, 1) := by decide +kernel
theorem dX6_eRead_23 : decode cX6_eRead 23 = .ok (.getfield 121, 3) := by decide +kernel
theorem dX6_eRead_26 : decode cX6_eRead 26 = .ok (.iconst 1, 1) := by decide +kernel
theorem dX6_eRead_27 : decode cX6_eRead 27 = .ok (.if_icmp .eq 11, 3) := by decide +kernel
theorem dX6_eRead_30 : decode cX6_eRead 30 = .ok (.aload_n 0, 1) := by decide +kernel
theorem dX6_eRead_31 : decode cX6_eRead 31 = .ok (.getfield 121, 3) := by decide +kernel
theorem dX6_eRead_34 : decode cX6_eRead 34 = .ok (.iconst 2, 1) := by decide +kernel
theorem dX6_eRead_35 : decode cX6_eRead 35 = .ok (.if_icmp .ne 40, 3) := by decide +kernel
theorem dX6_eRead_38 : decode cX6_eRead 38 = .ok (.aload_n 0, 1) := by decide +kernel
theorem dX6_eRead_39 : decode cX6_eRead 39 = .ok (.aload_n 0, 1) := by decide +kernel
theorem dX6_eRead_40 : decode cX6_eRead 40 = .ok (.getfield 121, 3) := by decide +kernel
theorem dX6_eRead_43 : decode cX6_eRead 43 = .ok (.iconst 1, 1) := by decide +kernel
theorem dX6_eRead_44 : decode cX6_eRead 44 = .ok (.if_icmp .ne 13, 3) := by decide +kernel
theorem dX6_eRead_47 : decode cX6_eRead 47 = .ok (.ldc 157, 2) := by decide +kernel
theorem dX6_eRead_49 : decode cX6_eRead 49 = .ok (.aload_n 0, 1) := by decide +kernel
theorem dX6_eRead_50 : decode cX6_eRead 50 = .ok (.getfield 124, 3) := by decide +kernel
theorem dX6_eRead_53 : decode cX6_eRead 53 = .ok (.iadd, 1) := by decide +kernel
theorem dX6_eRead_54 : decode cX6_eRead 54 = .ok (.goto 7, 3) := by decide +kernel
theorem dX6_eRead_57 : decode cX6_eRead 57 = .ok (.aload_n 0, 1) := by decide +kernel
theorem dX6_eRead_58 : decode cX6_eRead 58 = .ok (.getfield 124, 3) := by decide +kernel
theorem dX6_eRead_61 : decode cX6_eRead 61 = .ok (.invokevirtual 144, 3) := by decide +kernel
theorem dX6_eRead_64 : decode cX6_eRead 64 = .ok (.aload_n 0, 1) := by decide +kernel
theorem dX6_eRead_65 : decode cX6_eRead 65 = .ok (.bipush 7, 2) := by decide +kernel
theorem dX6_eRead_67 : decode cX6_eRead 67 = .ok (.invokevirtual 151, 3) := by decide +kernel
theorem dX6_eRead_70 : decode cX6_eRead 70 = .ok (.iconst 0, 1) := by decide +kernel
theorem dX6_eRead_71 : decode cX6_eRead 71 = .ok (.istore_n 1, 1) := by decide +kernel
theorem dX6_eRead_72 : decode cX6_eRead 72 = .ok (.goto (-58), 3) := by decide +kernel
theorem dX6_eRead_75 : decode cX6_eRead 75 = .ok (.aload_n 0, 1) := by decide +kernel
theorem dX6_eRead_76 : decode cX6_eRead 76 = .ok (.getfield 121, 3) := by decide +kernel
theorem dX6_eRead_79 : decode cX6_eRead 79 = .ok (.bipush 6, 2) := by decide +kernel
theorem dX6_eRead_81 : decode cX6_eRead 81 = .ok (.if_icmp .ne 18, 3) := by decide +kernel
theorem dX6_eRead_84 : decode cX6_eRead 84 = .ok (.iload_n 2, 1) := by decide +kernel
theorem dX6_eRead_85 : decode cX6_eRead 85 = .ok (.ifCond .eq 14, 3) := by decide +kernel
theorem dX6_eRead_88 : decode cX6_eRead 88 = .ok (.aload_n 0, 1) := by decide +kernel
theorem dX6_eRead_89 : decode cX6_eRead 89 = .ok (.bipush 13, 2) := by decide +kernel
theorem dX6_eRead_91 : decode cX6_eRead 91 = .ok (.invokevirtual 158, 3) := by decide +kernel
theorem dX6_eRead_94 : decode cX6_eRead 94 = .ok (.ifCond .ne (-80), 3) := by decide +kernel
theorem dX6_eRead_97 : decode cX6_eRead 97 = .ok (.iconst 0, 1) := by decide +kernel
theorem dX6_eRead_98 : decode cX6_eRead 98 = .ok (.ireturn, 1) := by decide +kernel
theorem dX6_eRead_99 : decode cX6_eRead 99 = .ok (.aload_n 0, 1) := by decide +kernel
theorem dX6_eRead_100 : decode cX6_eRead 100 = .ok (.getfield 121, 3) := by decide +kernel
theorem dX6_eRead_103 : decode cX6_eRead 103 = .ok (.bipush 45, 2) := by decide +kernel
theorem dX6_eRead_105 : decode cX6_eRead 105 = .ok (.if_icmp .ne 19, 3) := by decide +kernel
theorem dX6_eRead_108 : decode cX6_eRead 108 = .ok (.aload_n 0, 1) := by decide +kernel
theorem dX6_eRead_109 : decode cX6_eRead 109 = .ok (.bipush 19, 2) := by decide +kernel
theorem dX6_eRead_111 : decode cX6_eRead 111 = .ok (.invokevirtual 158, 3) := by decide +kernel
theorem dX6_eRead_114 : decode cX6_eRead 114 = .ok (.ifCond .ne 5, 3) := by decide +kernel
theorem dX6_eRead_117 : decode cX6_eRead 117 = .ok (.iconst 0, 1) := by decide +kernel
theorem dX6_eRead_118 : decode cX6_eRead 118 = .ok (.ireturn, 1) := by decide +kernel
theorem dX6_eRead_119 : decode cX6_eRead 119 = .ok (.iconst 0, 1) := by decide +kernel
theorem dX6_eRead_120 : decode cX6_eRead 120 = .ok (.istore_n 2, 1) := by decide +kernel
theorem dX6_eRead_121 : decode cX6_eRead 121 = .ok (.goto (-107), 3) := by decide +kernel
theorem dX6_eRead_124 : decode cX6_eRead 124 = .ok (.aload_n 0, 1) := by decide +kernel
theorem dX6_eRead_125 : decode cX6_eRead 125 = .ok (.getfield 121, 3) := by decide +kernel
theorem dX6_eRead_128 : decode cX6_eRead 128 = .ok (.bipush 40, 2) := by decide +kernel
theorem dX6_eRead_130 : decode cX6_eRead 130 = .ok (.if_icmp .ne 18, 3) := by decide +kernel
theorem dX6_eRead_133 : decode cX6_eRead 133 = .ok (.aload_n 0, 1) := by decide +kernel
theorem dX6_eRead_134 : decode cX6_eRead 134 = .ok (.iconst 0, 1) := by decide +kernel
theorem dX6_eRead_135 : decode cX6_eRead 135 = .ok (.invokevirtual 158, 3) := by decide +kernel
theorem dX6_eRead_138 : decode cX6_eRead 138 = .ok (.ifCond .ne 5, 3) := by decide +kernel
theorem dX6_eRead_141 : decode cX6_eRead 141 = .ok (.iconst 0, 1) := by decide +kernel
theorem dX6_eRead_142 : decode cX6_eRead 142 = .ok (.ireturn, 1) := by decide +kernel
theorem dX6_eRead_143 : decode cX6_eRead 143 = .ok (.iconst 1, 1) := by decide +kernel
theorem dX6_eRead_144 : decode cX6_eRead 144 = .ok (.istore_n 2, 1) := by decide +kernel
theorem dX6_eRead_145 : decode cX6_eRead 145 = .ok (.goto (-131), 3) := by decide +kernel
theorem dX6_eRead_148 : decode cX6_eRead 148 = .ok (.iconst 0, 1) := by decide +kernel
theorem dX6_eRead_149 : decode cX6_eRead 149 = .ok (.ireturn, 1) := by decide +kernel
theorem dX6_eRead_150 : decode cX6_eRead 150 = .ok (.aload_n 0, 1) := by decide +kernel
theorem dX6_eRead_151 : decode cX6_eRead 151 = .ok (.getfield 121, 3) := by decide +kernel
theorem dX6_eRead_154 : decode cX6_eRead 154 = .ok (.bipush 59, 2) := by decide +kernel
theorem dX6_eRead_156 : decode cX6_eRead 156 = .ok (.if_icmp .ne 21, 3) := by decide +kernel
theorem dX6_eRead_159 : decode cX6_eRead 159 = .ok (.aload_n 0, 1) := by decide +kernel
theorem dX6_eRead_160 : decode cX6_eRead 160 = .ok (.iconst 1, 1) := by decide +kernel
theorem dX6_eRead_161 : decode cX6_eRead 161 = .ok (.invokevirtual 151, 3) := by decide +kernel
theorem dX6_eRead_164 : decode cX6_eRead 164 = .ok (.aload_n 0, 1) := by decide +kernel
theorem dX6_eRead_165 : decode cX6_eRead 165 = .ok (.getfield 134, 3) := by decide +kernel
theorem dX6_eRead_168 : decode cX6_eRead 168 = .ok (.ifCond .ne 7, 3) := by decide +kernel
theorem dX6_eRead_171 : decode cX6_eRead 171 = .ok (.iconst 1, 1) := by decide +kernel
theorem dX6_eRead_172 : decode cX6_eRead 172 = .ok (.goto 4, 3) := by decide +kernel
theorem dX6_eRead_175 : decode cX6_eRead 175 = .ok (.iconst 0, 1) := by decide +kernel
theorem dX6_eRead_176 : decode cX6_eRead 176 = .ok (.ireturn, 1) := by decide +kernel
theorem dX6_eRead_177 : decode cX6_eRead 177 = .ok (.aload_n 0, 1) := by decide +kernel
theorem dX6_eRead_178 : decode cX6_eRead 178 = .ok (.getfield 121, 3) := by decide +kernel
theorem dX6_eRead_181 : decode cX6_eRead 181 = .ok (.bipush 41, 2) := by decide +kernel
theorem dX6_eRead_183 : decode cX6_eRead 183 = .ok (.if_icmp .ne 46, 3) := by decide +kernel
theorem dX6_eRead_186 : decode cX6_eRead 186 = .ok (.aload_n 0, 1) := by decide +kernel
theorem dX6_eRead_187 : decode cX6_eRead 187 = .ok (.iconst 1, 1) := by decide +kernel
theorem dX6_eRead_188 : decode cX6_eRead 188 = .ok (.invokevirtual 151, 3) := by decide +kernel
theorem dX6_eRead_191 : decode cX6_eRead 191 = .ok (.aload_n 0, 1) := by decide +kernel
theorem dX6_eRead_192 : decode cX6_eRead 192 = .ok (.getfield 134, 3) := by decide +kernel
theorem dX6_eRead_195 : decode cX6_eRead 195 = .ok (.ifCond .ne 5, 3) := by decide +kernel
theorem dX6_eRead_198 : decode cX6_eRead 198 = .ok (.iconst 0, 1) := by decide +kernel
theorem dX6_eRead_199 : decode cX6_eRead 199 = .ok (.ireturn, 1) := by decide +kernel
theorem dX6_eRead_200 : decode cX6_eRead 200 = .ok (.aload_n 0, 1) := by decide +kernel
theorem dX6_eRead_201 : decode cX6_eRead 201 = .ok (.dup, 1) := by decide +kernel
theorem dX6_eRead_202 : decode cX6_eRead 202 = .ok (.getfield 134, 3) := by decide +kernel
theorem dX6_eRead_205 : decode cX6_eRead 205 = .ok (.iconst 1, 1) := by decide +kernel
theorem dX6_eRead_206 : decode cX6_eRead 206 = .ok (.isub, 1) := by decide +kernel
theorem dX6_eRead_207 : decode cX6_eRead 207 = .ok (.putfield 134, 3) := by decide +kernel
theorem dX6_eRead_210 : decode cX6_eRead 210 = .ok (.aload_n 0, 1) := by decide +kernel
theorem dX6_eRead_211 : decode cX6_eRead 211 = .ok (.dup, 1) := by decide +kernel
theorem dX6_eRead_212 : decode cX6_eRead 212 = .ok (.getfield 141, 3) := by decide +kernel
theorem dX6_eRead_215 : decode cX6_eRead 215 = .ok (.iconst 1, 1) := by decide +kernel
theorem dX6_eRead_216 : decode cX6_eRead 216 = .ok (.isub, 1) := by decide +kernel
theorem dX6_eRead_217 : decode cX6_eRead 217 = .ok (.putfield 141, 3) := by decide +kernel
theorem dX6_eRead_220 : decode cX6_eRead 220 = .ok (.aload_n 0, 1) := by decide +kernel
theorem dX6_eRead_221 : decode cX6_eRead 221 = .ok (.bipush 7, 2) := by decide +kernel
theorem dX6_eRead_223 : decode cX6_eRead 223 = .ok (.invokevirtual 151, 3) := by decide +kernel
theorem dX6_eRead_226 : decode cX6_eRead 226 = .ok (.goto (-212), 3) := by decide +kernel
theorem dX6_eRead_229 : decode cX6_eRead 229 = .ok (.aload_n 0, 1) := by decide +kernel
theorem dX6_eRead_230 : decode cX6_eRead 230 = .ok (.invokevirtual 161, 3) := by decide +kernel
theorem dX6_eRead_233 : decode cX6_eRead 233 = .ok (.istore_n 3, 1) := by decide +kernel
theorem dX6_eRead_234 : decode cX6_eRead 234 = .ok (.iload_n 3, 1) := by decide +kernel
theorem dX6_eRead_235 : decode cX6_eRead 235 = .ok (.iconst (-1), 1) := by decide +kernel
theorem dX6_eRead_236 : decode cX6_eRead 236 = .ok (.if_icmp .eq 11, 3) := by decide +kernel
theorem dX6_eRead_239 : decode cX6_eRead 239 = .ok (.aload_n 0, 1) := by decide +kernel
theorem dX6_eRead_240 : decode cX6_eRead 240 = .ok (.iload_n 3, 1) := by decide +kernel
theorem dX6_eRead_241 : decode cX6_eRead 241 = .ok (.invokevirtual 164, 3) := by decide +kernel
theorem dX6_eRead_244 : decode cX6_eRead 244 = .ok (.ifCond .ne 5, 3) := by decide +kernel
theorem dX6_eRead_247 : decode cX6_eRead 247 = .ok (.iconst 0, 1) := by decide +kernel
theorem dX6_eRead_248 : decode cX6_eRead 248 = .ok (.ireturn, 1) := by decide +kernel
theorem dX6_eRead_249 : decode cX6_eRead 249 = .ok (.iconst 1, 1) := by decide +kernel
theorem dX6_eRead_250 : decode cX6_eRead 250 = .ok (.istore_n 1, 1) := by decide +kernel
theorem dX6_eRead_251 : decode cX6_eRead 251 = .ok (.iload_n 3, 1) := by decide +kernel
theorem dX6_eRead_252 : decode cX6_eRead 252 = .ok (.bipush 12, 2) := by decide +kernel
theorem dX6_eRead_254 : decode cX6_eRead 254 = .ok (.if_icmp .gt 7, 3) := by decide +kernel
theorem dX6_eRead_257 : decode cX6_eRead 257 = .ok (.iconst 1, 1) := by decide +kernel
theorem dX6_eRead_258 : decode cX6_eRead 258 = .ok (.goto 4, 3) := by decide +kernel
theorem dX6_eRead_261 : decode cX6_eRead 261 = .ok (.iconst 0, 1) := by decide +kernel
theorem dX6_eRead_262 : decode cX6_eRead 262 = .ok (.istore_n 2, 1) := by decide +kernel
theorem dX6_eRead_263 : decode cX6_eRead 263 = .ok (.goto (-249), 3) := by decide +kernel
theorem dX6_text_0 : decode cX6_text 0 = .ok (.aload_n 0, 1) := by decide +kernel
theorem dX6_text_1 : decode cX6_text 1 = .ok (.getfield 97, 3) := by decide +kernel
theorem dX6_text_4 : decode cX6_text 4 = .ok (.bipush 6, 2) := by decide +kernel
theorem dX6_text_6 : decode cX6_text 6 = .ok (.if_icmp .ne 6, 3) := by decide +kernel
theorem dX6_text_9 : decode cX6_text 9 = .ok (.bipush (-4), 2) := by decide +kernel
theorem dX6_text_11 : decode cX6_text 11 = .ok (.ireturn, 1) := by decide +kernel
theorem dX6_text_12 : decode cX6_text 12 = .ok (.aload_n 0, 1) := by decide +kernel
theorem dX6_text_13 : decode cX6_text 13 = .ok (.iconst 0, 1) := by decide +kernel
theorem dX6_text_14 : decode cX6_text 14 = .ok (.putfield 115, 3) := by decide +kernel
theorem dX6_text_17 : decode cX6_text 17 = .ok (.aload_n 0, 1) := by decide +kernel
theorem dX6_text_18 : decode cX6_text 18 = .ok (.iconst 0, 1) := by decide +kernel
theorem dX6_text_19 : decode cX6_text 19 = .ok (.putfield 131, 3) := by decide +kernel
theorem dX6_text_22 : decode cX6_text 22 = .ok (.iconst 1, 1) := by decide +kernel
theorem dX6_text_23 : decode cX6_text 23 = .ok (.istore_n 1, 1) := by decide +kernel
theorem dX6_text_24 : decode cX6_text 24 = .ok (.iconst 0, 1) := by decide +kernel
theorem dX6_text_25 : decode cX6_text 25 = .ok (.istore_n 2, 1) := by decide +kernel
theorem dX6_text_26 : decode cX6_text 26 = .ok (.iload_n 2, 1) := by decide +kernel
theorem dX6_text_27 : decode cX6_text 27 = .ok (.iconst 3, 1) := by decide +kernel
theorem dX6_text_28 : decode cX6_text 28 = .ok (.if_icmp .ge 73, 3) := by decide +kernel
theorem dX6_text_31 : decode cX6_text 31 = .ok (.iload_n 1, 1) := by decide +kernel
theorem dX6_text_32 : decode cX6_text 32 = .ok (.ifCond .eq 69, 3) := by decide +kernel
theorem dX6_text_35 : decode cX6_text 35 = .ok (.aload_n 0, 1) := by decide +kernel
theorem dX6_text_36 : decode cX6_text 36 = .ok (.invokevirtual 154, 3) := by decide +kernel
theorem dX6_text_39 : decode cX6_text 39 = .ok (.aload_n 0, 1) := by decide +kernel
theorem dX6_text_40 : decode cX6_text 40 = .ok (.getfield 121, 3) := by decide +kernel
theorem dX6_text_43 : decode cX6_text 43 = .ok (.iconst 3, 1) := by decide +kernel
theorem dX6_text_44 : decode cX6_text 44 = .ok (.if_icmp .ne 15, 3) := by decide +kernel
theorem dX6_text_47 : decode cX6_text 47 = .ok (.aload_n 0, 1) := by decide +kernel
theorem dX6_text_48 : decode cX6_text 48 = .ok (.getfield 124, 3) := by decide +kernel
theorem dX6_text_51 : decode cX6_text 51 = .ok (.iload_n 2, 1) := by decide +kernel
theorem dX6_text_52 : decode cX6_text 52 = .ok (.if_icmp .ne 7, 3) := by decide +kernel
theorem dX6_text_55 : decode cX6_text 55 = .ok (.iconst 1, 1) := by decide +kernel
theorem dX6_text_56 : decode cX6_text 56 = .ok (.goto 4, 3) := by decide +kernel
theorem dX6_text_59 : decode cX6_text 59 = .ok (.iconst 0, 1) := by decide +kernel
theorem dX6_text_60 : decode cX6_text 60 = .ok (.istore_n 1, 1) := by decide +kernel
theorem dX6_text_61 : decode cX6_text 61 = .ok (.aload_n 0, 1) := by decide +kernel
theorem dX6_text_62 : decode cX6_text 62 = .ok (.getfield 31, 3) := by decide +kernel
theorem dX6_text_65 : decode cX6_text 65 = .ok (.iconst 4, 1) := by decide +kernel
theorem dX6_text_66 : decode cX6_text 66 = .ok (.aload_n 0, 1) := by decide +kernel
theorem dX6_text_67 : decode cX6_text 67 = .ok (.getfield 97, 3) := by decide +kernel
theorem dX6_text_70 : decode cX6_text 70 = .ok (.imul, 1) := by decide +kernel
theorem dX6_text_71 : decode cX6_text 71 = .ok (.iload_n 2, 1) := by decide +kernel
theorem dX6_text_72 : decode cX6_text 72 = .ok (.iadd, 1) := by decide +kernel
theorem dX6_text_73 : decode cX6_text 73 = .ok (.aload_n 0, 1) := by decide +kernel
theorem dX6_text_74 : decode cX6_text 74 = .ok (.getfield 131, 3) := by decide +kernel
theorem dX6_text_77 : decode cX6_text 77 = .ok (.iastore, 1) := by decide +kernel
theorem dX6_text_78 : decode cX6_text 78 = .ok (.iload_n 1, 1) := by decide +kernel
theorem dX6_text_79 : decode cX6_text 79 = .ok (.ifCond .eq 14, 3) := by decide +kernel
theorem dX6_text_82 : decode cX6_text 82 = .ok (.aload_n 0, 1) := by decide +kernel
theorem dX6_text_83 : decode cX6_text 83 = .ok (.invokevirtual 167, 3) := by decide +kernel
theorem dX6_text_86 : decode cX6_text 86 = .ok (.ifCond .eq 7, 3) := by decide +kernel
theorem dX6_text_89 : decode cX6_text 89 = .ok (.iconst 1, 1) := by decide +kernel
theorem dX6_text_90 : decode cX6_text 90 = .ok (.goto 4, 3) := by decide +kernel
theorem dX6_text_93 : decode cX6_text 93 = .ok (.iconst 0, 1) := by decide +kernel
theorem dX6_text_94 : decode cX6_text 94 = .ok (.istore_n 1, 1) := by decide +kernel
theorem dX6_text_95 : decode cX6_text 95 = .ok (.iinc 2 1, 3) := by decide +kernel
theorem dX6_text_98 : decode cX6_text 98 = .ok (.goto (-72), 3) := by decide +kernel
theorem dX6_text_101 : decode cX6_text 101 = .ok (.iload_n 1, 1) := by decide +kernel
theorem dX6_text_102 : decode cX6_text 102 = .ok (.ifCond .eq 20, 3) := by decide +kernel
theorem dX6_text_105 : decode cX6_text 105 = .ok (.aload_n 0, 1) := by decide +kernel
theorem dX6_text_106 : decode cX6_text 106 = .ok (.invokevirtual 154, 3) := by decide +kernel
theorem dX6_text_109 : decode cX6_text 109 = .ok (.aload_n 0, 1) := by decide +kernel
theorem dX6_text_110 : decode cX6_text 110 = .ok (.getfield 121, 3) := by decide +kernel
theorem dX6_text_113 : decode cX6_text 113 = .ok (.ifCond .ne 7, 3) := by decide +kernel
theorem dX6_text_116 : decode cX6_text 116 = .ok (.iconst 1, 1) := by decide +kernel
theorem dX6_text_117 : decode cX6_text 117 = .ok (.goto 4, 3) := by decide +kernel
theorem dX6_text_120 : decode cX6_text 120 = .ok (.iconst 0, 1) := by decide +kernel
theorem dX6_text_121 : decode cX6_text 121 = .ok (.istore_n 1, 1) := by decide +kernel
theorem dX6_text_122 : decode cX6_text 122 = .ok (.aload_n 0, 1) := by decide +kernel
theorem dX6_text_123 : decode cX6_text 123 = .ok (.getfield 31, 3) := by decide +kernel
theorem dX6_text_126 : decode cX6_text 126 = .ok (.iconst 4, 1) := by decide +kernel
theorem dX6_text_127 : decode cX6_text 127 = .ok (.aload_n 0, 1) := by decide +kernel
theorem dX6_text_128 : decode cX6_text 128 = .ok (.getfield 97, 3) := by decide +kernel
theorem dX6_text_131 : decode cX6_text 131 = .ok (.imul, 1) := by decide +kernel
theorem dX6_text_132 : decode cX6_text 132 = .ok (.iconst 3, 1) := by decide +kernel
theorem dX6_text_133 : decode cX6_text 133 = .ok (.iadd, 1) := by decide +kernel
theorem dX6_text_134 : decode cX6_text 134 = .ok (.aload_n 0, 1) := by decide +kernel
theorem dX6_text_135 : decode cX6_text 135 = .ok (.getfield 131, 3) := by decide +kernel
theorem dX6_text_138 : decode cX6_text 138 = .ok (.iastore, 1) := by decide +kernel
theorem dX6_text_139 : decode cX6_text 139 = .ok (.aload_n 0, 1) := by decide +kernel
theorem dX6_text_140 : decode cX6_text 140 = .ok (.iconst 0, 1) := by decide +kernel
theorem dX6_text_141 : decode cX6_text 141 = .ok (.putfield 71, 3) := by decide +kernel
theorem dX6_text_144 : decode cX6_text 144 = .ok (.iload_n 1, 1) := by decide +kernel
theorem dX6_text_145 : decode cX6_text 145 = .ok (.ifCond .ne 11, 3) := by decide +kernel
theorem dX6_text_148 : decode cX6_text 148 = .ok (.bipush (-100), 2) := by decide +kernel
theorem dX6_text_150 : decode cX6_text 150 = .ok (.aload_n 0, 1) := by decide +kernel
theorem dX6_text_151 : decode cX6_text 151 = .ok (.getfield 118, 3) := by decide +kernel
theorem dX6_text_154 : decode cX6_text 154 = .ok (.isub, 1) := by decide +kernel
theorem dX6_text_155 : decode cX6_text 155 = .ok (.ireturn, 1) := by decide +kernel
theorem dX6_text_156 : decode cX6_text 156 = .ok (.aload_n 0, 1) := by decide +kernel
theorem dX6_text_157 : decode cX6_text 157 = .ok (.dup, 1) := by decide +kernel
theorem dX6_text_158 : decode cX6_text 158 = .ok (.getfield 97, 3) := by decide +kernel
theorem dX6_text_161 : decode cX6_text 161 = .ok (.iconst 1, 1) := by decide +kernel
theorem dX6_text_162 : decode cX6_text 162 = .ok (.iadd, 1) := by decide +kernel
theorem dX6_text_163 : decode cX6_text 163 = .ok (.putfield 97, 3) := by decide +kernel
theorem dX6_text_166 : decode cX6_text 166 = .ok (.aload_n 0, 1) := by decide +kernel
theorem dX6_text_167 : decode cX6_text 167 = .ok (.getfield 97, 3) := by decide +kernel
theorem dX6_text_170 : decode cX6_text 170 = .ok (.iconst 1, 1) := by decide +kernel
theorem dX6_text_171 : decode cX6_text 171 = .ok (.isub, 1) := by decide +kernel
theorem dX6_text_172 : decode cX6_text 172 = .ok (.ireturn, 1) := by decide +kernel
theorem dX6_two_0 : decode cX6_two 0 = .ok (.iload_n 0, 1) := by decide +kernel
theorem dX6_two_1 : decode cX6_two 1 = .ok (.tableswitch 101 11 17 #[43, 57, 101, 71, 82, 93, 97], 43) := by decide +kernel
theorem dX6_two_44 : decode cX6_two 44 = .ok (.iload_n 1, 1) := by decide +kernel
theorem dX6_two_45 : decode cX6_two 45 = .ok (.ifCond .ne 7, 3) := by decide +kernel
theorem dX6_two_48 : decode cX6_two 48 = .ok (.iload_n 2, 1) := by decide +kernel
theorem dX6_two_49 : decode cX6_two 49 = .ok (.ifCond .eq 7, 3) := by decide +kernel
theorem dX6_two_52 : decode cX6_two 52 = .ok (.iconst 1, 1) := by decide +kernel
theorem dX6_two_53 : decode cX6_two 53 = .ok (.goto 4, 3) := by decide +kernel
theorem dX6_two_56 : decode cX6_two 56 = .ok (.iconst 0, 1) := by decide +kernel
theorem dX6_two_57 : decode cX6_two 57 = .ok (.ireturn, 1) := by decide +kernel
theorem dX6_two_58 : decode cX6_two 58 = .ok (.iload_n 1, 1) := by decide +kernel
theorem dX6_two_59 : decode cX6_two 59 = .ok (.ifCond .eq 11, 3) := by decide +kernel
theorem dX6_two_62 : decode cX6_two 62 = .ok (.iload_n 2, 1) := by decide +kernel
theorem dX6_two_63 : decode cX6_two 63 = .ok (.ifCond .eq 7, 3) := by decide +kernel
theorem dX6_two_66 : decode cX6_two 66 = .ok (.iconst 1, 1) := by decide +kernel
theorem dX6_two_67 : decode cX6_two 67 = .ok (.goto 4, 3) := by decide +kernel
theorem dX6_two_70 : decode cX6_two 70 = .ok (.iconst 0, 1) := by decide +kernel
theorem dX6_two_71 : decode cX6_two 71 = .ok (.ireturn, 1) := by decide +kernel
theorem dX6_two_72 : decode cX6_two 72 = .ok (.iload_n 1, 1) := by decide +kernel
theorem dX6_two_73 : decode cX6_two 73 = .ok (.iload_n 2, 1) := by decide +kernel
theorem dX6_two_74 : decode cX6_two 74 = .ok (.if_icmp .ge 7, 3) := by decide +kernel
theorem dX6_two_77 : decode cX6_two 77 = .ok (.iconst 1, 1) := by decide +kernel
theorem dX6_two_78 : decode cX6_two 78 = .ok (.goto 4, 3) := by decide +kernel
theorem dX6_two_81 : decode cX6_two 81 = .ok (.iconst 0, 1) := by decide +kernel
theorem dX6_two_82 : decode cX6_two 82 = .ok (.ireturn, 1) := by decide +kernel
theorem dX6_two_83 : decode cX6_two 83 = .ok (.iload_n 1, 1) := by decide +kernel
theorem dX6_two_84 : decode cX6_two 84 = .ok (.iload_n 2, 1) := by decide +kernel
theorem dX6_two_85 : decode cX6_two 85 = .ok (.if_icmp .ne 7, 3) := by decide +kernel
theorem dX6_two_88 : decode cX6_two 88 = .ok (.iconst 1, 1) := by decide +kernel
theorem dX6_two_89 : decode cX6_two 89 = .ok (.goto 4, 3) := by decide +kernel
theorem dX6_two_92 : decode cX6_two 92 = .ok (.iconst 0, 1) := by decide +kernel
theorem dX6_two_93 : decode cX6_two 93 = .ok (.ireturn, 1) := by decide +kernel
theorem dX6_two_94 : decode cX6_two 94 = .ok (.iload_n 1, 1) := by decide +kernel
theorem dX6_two_95 : decode cX6_two 95 = .ok (.iload_n 2, 1) := by decide +kernel
theorem dX6_two_96 : decode cX6_two 96 = .ok (.iadd, 1) := by decide +kernel
theorem dX6_two_97 : decode cX6_two 97 = .ok (.ireturn, 1) := by decide +kernel
theorem dX6_two_98 : decode cX6_two 98 = .ok (.iload_n 1, 1) := by decide +kernel
theorem dX6_two_99 : decode cX6_two 99 = .ok (.iload_n 2, 1) := by decide +kernel
theorem dX6_two_100 : decode cX6_two 100 = .ok (.isub, 1) := by decide +kernel
theorem dX6_two_101 : decode cX6_two 101 = .ok (.ireturn, 1) := by decide +kernel
theorem dX6_two_102 : decode cX6_two 102 = .ok (.iload_n 1, 1) := by decide +kernel
theorem dX6_two_103 : decode cX6_two 103 = .ok (.iload_n 2, 1) := by decide +kernel
theorem dX6_two_104 : decode cX6_two 104 = .ok (.imul, 1) := by decide +kernel
theorem dX6_two_105 : decode cX6_two 105 = .ok (.ireturn, 1) := by decide +kernel
theorem dX6_says_0 : decode cX6_says 0 = .ok (.iconst 0, 1) := by decide +kernel
theorem dX6_says_1 : decode cX6_says 1 = .ok (.istore_n 2, 1) := by decide +kernel
theorem dX6_says_2 : decode cX6_says 2 = .ok (.aload_n 0, 1) := by decide +kernel
theorem dX6_says_3 : decode cX6_says 3 = .ok (.getfield 31, 3) := by decide +kernel
theorem dX6_says_6 : decode cX6_says 6 = .ok (.iconst 4, 1) := by decide +kernel
theorem dX6_says_7 : decode cX6_says 7 = .ok (.aload_n 0, 1) := by decide +kernel
theorem dX6_says_8 : decode cX6_says 8 = .ok (.getfield 100, 3) := by decide +kernel
theorem dX6_says_11 : decode cX6_says 11 = .ok (.imul, 1) := by decide +kernel
theorem dX6_says_12 : decode cX6_says 12 = .ok (.iload_n 1, 1) := by decide +kernel
theorem dX6_says_13 : decode cX6_says 13 = .ok (.iadd, 1) := by decide +kernel
theorem dX6_says_14 : decode cX6_says 14 = .ok (.iaload, 1) := by decide +kernel
theorem dX6_says_15 : decode cX6_says 15 = .ok (.istore_n 3, 1) := by decide +kernel
theorem dX6_says_16 : decode cX6_says 16 = .ok (.iload_n 3, 1) := by decide +kernel
theorem dX6_says_17 : decode cX6_says 17 = .ok (.aload_n 0, 1) := by decide +kernel
theorem dX6_says_18 : decode cX6_says 18 = .ok (.getfield 31, 3) := by decide +kernel
theorem dX6_says_21 : decode cX6_says 21 = .ok (.iconst 4, 1) := by decide +kernel
theorem dX6_says_22 : decode cX6_says 22 = .ok (.aload_n 0, 1) := by decide +kernel
theorem dX6_says_23 : decode cX6_says 23 = .ok (.getfield 100, 3) := by decide +kernel
theorem dX6_says_26 : decode cX6_says 26 = .ok (.imul, 1) := by decide +kernel
theorem dX6_says_27 : decode cX6_says 27 = .ok (.iload_n 1, 1) := by decide +kernel
theorem dX6_says_28 : decode cX6_says 28 = .ok (.iadd, 1) := by decide +kernel
theorem dX6_says_29 : decode cX6_says 29 = .ok (.iconst 1, 1) := by decide +kernel
theorem dX6_says_30 : decode cX6_says 30 = .ok (.iadd, 1) := by decide +kernel
theorem dX6_says_31 : decode cX6_says 31 = .ok (.iaload, 1) := by decide +kernel
theorem dX6_says_32 : decode cX6_says 32 = .ok (.if_icmp .ge 165, 3) := by decide +kernel
theorem dX6_says_35 : decode cX6_says 35 = .ok (.aload_n 0, 1) := by decide +kernel
theorem dX6_says_36 : decode cX6_says 36 = .ok (.getfield 28, 3) := by decide +kernel
theorem dX6_says_39 : decode cX6_says 39 = .ok (.sipush 200, 3) := by decide +kernel
theorem dX6_says_42 : decode cX6_says 42 = .ok (.aload_n 0, 1) := by decide +kernel
theorem dX6_says_43 : decode cX6_says 43 = .ok (.getfield 100, 3) := by decide +kernel
theorem dX6_says_46 : decode cX6_says 46 = .ok (.imul, 1) := by decide +kernel
theorem dX6_says_47 : decode cX6_says 47 = .ok (.iload_n 3, 1) := by decide +kernel
theorem dX6_says_48 : decode cX6_says 48 = .ok (.iadd, 1) := by decide +kernel
theorem dX6_says_49 : decode cX6_says 49 = .ok (.iaload, 1) := by decide +kernel
theorem dX6_says_50 : decode cX6_says 50 = .ok (.istore 4, 2) := by decide +kernel
theorem dX6_says_52 : decode cX6_says 52 = .ok (.iload 4, 2) := by decide +kernel
theorem dX6_says_54 : decode cX6_says 54 = .ok (.ldc 157, 2) := by decide +kernel
theorem dX6_says_56 : decode cX6_says 56 = .ok (.if_icmp .ge 10, 3) := by decide +kernel
theorem dX6_says_59 : decode cX6_says 59 = .ok (.iload 4, 2) := by decide +kernel
theorem dX6_says_61 : decode cX6_says 61 = .ok (.bipush 11, 2) := by decide +kernel
theorem dX6_says_63 : decode cX6_says 63 = .ok (.if_icmp .ge 37, 3) := by decide +kernel
theorem dX6_says_66 : decode cX6_says 66 = .ok (.aload_n 0, 1) := by decide +kernel
theorem dX6_says_67 : decode cX6_says 67 = .ok (.getfield 58, 3) := by decide +kernel
theorem dX6_says_70 : decode cX6_says 70 = .ok (.iload_n 2, 1) := by decide +kernel
theorem dX6_says_71 : decode cX6_says 71 = .ok (.iload 4, 2) := by decide +kernel
theorem dX6_says_73 : decode cX6_says 73 = .ok (.bipush 11, 2) := by decide +kernel
theorem dX6_says_75 : decode cX6_says 75 = .ok (.if_icmp .ge 13, 3) := by decide +kernel
theorem dX6_says_78 : decode cX6_says 78 = .ok (.aload_n 0, 1) := by decide +kernel
theorem dX6_says_79 : decode cX6_says 79 = .ok (.getfield 61, 3) := by decide +kernel
theorem dX6_says_82 : decode cX6_says 82 = .ok (.iload 4, 2) := by decide +kernel
theorem dX6_says_84 : decode cX6_says 84 = .ok (.iaload, 1) := by decide +kernel
theorem dX6_says_85 : decode cX6_says 85 = .ok (.goto 8, 3) := by decide +kernel
theorem dX6_says_88 : decode cX6_says 88 = .ok (.iload 4, 2) := by decide +kernel
theorem dX6_says_90 : decode cX6_says 90 = .ok (.ldc 157, 2) := by decide +kernel
theorem dX6_says_92 : decode cX6_says 92 = .ok (.isub, 1) := by decide +kernel
theorem dX6_says_93 : decode cX6_says 93 = .ok (.iastore, 1) := by decide +kernel
theorem dX6_says_94 : decode cX6_says 94 = .ok (.iinc 2 1, 3) := by decide +kernel
theorem dX6_says_97 : decode cX6_says 97 = .ok (.goto 94, 3) := by decide +kernel
theorem dX6_says_100 : decode cX6_says 100 = .ok (.iload 4, 2) := by decide +kernel
theorem dX6_says_102 : decode cX6_says 102 = .ok (.bipush 13, 2) := by decide +kernel
theorem dX6_says_104 : decode cX6_says 104 = .ok (.if_icmp .ne 30, 3) := by decide +kernel
theorem dX6_says_107 : decode cX6_says 107 = .ok (.aload_n 0, 1) := by decide +kernel
theorem dX6_says_108 : decode cX6_says 108 = .ok (.getfield 58, 3) := by decide +kernel
theorem dX6_says_111 : decode cX6_says 111 = .ok (.iload_n 2, 1) := by decide +kernel
theorem dX6_says_112 : decode cX6_says 112 = .ok (.iconst 1, 1) := by decide +kernel
theorem dX6_says_113 : decode cX6_says 113 = .ok (.isub, 1) := by decide +kernel
theorem dX6_says_114 : decode cX6_says 114 = .ok (.aload_n 0, 1) := by decide +kernel
theorem dX6_says_115 : decode cX6_says 115 = .ok (.getfield 58, 3) := by decide +kernel
theorem dX6_says_118 : decode cX6_says 118 = .ok (.iload_n 2, 1) := by decide +kernel
theorem dX6_says_119 : decode cX6_says 119 = .ok (.iconst 1, 1) := by decide +kernel
theorem dX6_says_120 : decode cX6_says 120 = .ok (.isub, 1) := by decide +kernel
theorem dX6_says_121 : decode cX6_says 121 = .ok (.iaload, 1) := by decide +kernel
theorem dX6_says_122 : decode cX6_says 122 = .ok (.ifCond .ne 7, 3) := by decide +kernel
theorem dX6_says_125 : decode cX6_says 125 = .ok (.iconst 1, 1) := by decide +kernel
theorem dX6_says_126 : decode cX6_says 126 = .ok (.goto 4, 3) := by decide +kernel
theorem dX6_says_129 : decode cX6_says 129 = .ok (.iconst 0, 1) := by decide +kernel
theorem dX6_says_130 : decode cX6_says 130 = .ok (.iastore, 1) := by decide +kernel
theorem dX6_says_131 : decode cX6_says 131 = .ok (.goto 60, 3) := by decide +kernel
theorem dX6_says_134 : decode cX6_says 134 = .ok (.iload 4, 2) := by decide +kernel
theorem dX6_says_136 : decode cX6_says 136 = .ok (.bipush 19, 2) := by decide +kernel
theorem dX6_says_138 : decode cX6_says 138 = .ok (.if_icmp .ne 23, 3) := by decide +kernel
theorem dX6_says_141 : decode cX6_says 141 = .ok (.aload_n 0, 1) := by decide +kernel
theorem dX6_says_142 : decode cX6_says 142 = .ok (.getfield 58, 3) := by decide +kernel
theorem dX6_says_145 : decode cX6_says 145 = .ok (.iload_n 2, 1) := by decide +kernel
theorem dX6_says_146 : decode cX6_says 146 = .ok (.iconst 1, 1) := by decide +kernel
theorem dX6_says_147 : decode cX6_says 147 = .ok (.isub, 1) := by decide +kernel
theorem dX6_says_148 : decode cX6_says 148 = .ok (.aload_n 0, 1) := by decide +kernel
theorem dX6_says_149 : decode cX6_says 149 = .ok (.getfield 58, 3) := by decide +kernel
theorem dX6_says_152 : decode cX6_says 152 = .ok (.iload_n 2, 1) := by decide +kernel
theorem dX6_says_153 : decode cX6_says 153 = .ok (.iconst 1, 1) := by decide +kernel
theorem dX6_says_154 : decode cX6_says 154 = .ok (.isub, 1) := by decide +kernel
theorem dX6_says_155 : decode cX6_says 155 = .ok (.iaload, 1) := by decide +kernel
theorem dX6_says_156 : decode cX6_says 156 = .ok (.ineg, 1) := by decide +kernel
theorem dX6_says_157 : decode cX6_says 157 = .ok (.iastore, 1) := by decide +kernel
theorem dX6_says_158 : decode cX6_says 158 = .ok (.goto 33, 3) := by decide +kernel
theorem dX6_says_161 : decode cX6_says 161 = .ok (.iinc 2 (-1), 3) := by decide +kernel
theorem dX6_says_164 : decode cX6_says 164 = .ok (.aload_n 0, 1) := by decide +kernel
theorem dX6_says_165 : decode cX6_says 165 = .ok (.getfield 58, 3) := by decide +kernel
theorem dX6_says_168 : decode cX6_says 168 = .ok (.iload_n 2, 1) := by decide +kernel
theorem dX6_says_169 : decode cX6_says 169 = .ok (.iconst 1, 1) := by decide +kernel
theorem dX6_says_170 : decode cX6_says 170 = .ok (.isub, 1) := by decide +kernel
theorem dX6_says_171 : decode cX6_says 171 = .ok (.iload 4, 2) := by decide +kernel
theorem dX6_says_173 : decode cX6_says 173 = .ok (.aload_n 0, 1) := by decide +kernel
theorem dX6_says_174 : decode cX6_says 174 = .ok (.getfield 58, 3) := by decide +kernel
theorem dX6_says_177 : decode cX6_says 177 = .ok (.iload_n 2, 1) := by decide +kernel
theorem dX6_says_178 : decode cX6_says 178 = .ok (.iconst 1, 1) := by decide +kernel
theorem dX6_says_179 : decode cX6_says 179 = .ok (.isub, 1) := by decide +kernel
theorem dX6_says_180 : decode cX6_says 180 = .ok (.iaload, 1) := by decide +kernel
theorem dX6_says_181 : decode cX6_says 181 = .ok (.aload_n 0, 1) := by decide +kernel
theorem dX6_says_182 : decode cX6_says 182 = .ok (.getfield 58, 3) := by decide +kernel
theorem dX6_says_185 : decode cX6_says 185 = .ok (.iload_n 2, 1) := by decide +kernel
theorem dX6_says_186 : decode cX6_says 186 = .ok (.iaload, 1) := by decide +kernel
theorem dX6_says_187 : decode cX6_says 187 = .ok (.invokestatic 171, 3) := by decide +kernel
theorem dX6_says_190 : decode cX6_says 190 = .ok (.iastore, 1) := by decide +kernel
theorem dX6_says_191 : decode cX6_says 191 = .ok (.iinc 3 1, 3) := by decide +kernel
theorem dX6_says_194 : decode cX6_says 194 = .ok (.goto (-178), 3) := by decide +kernel
theorem dX6_says_197 : decode cX6_says 197 = .ok (.aload_n 0, 1) := by decide +kernel
theorem dX6_says_198 : decode cX6_says 198 = .ok (.getfield 58, 3) := by decide +kernel
theorem dX6_says_201 : decode cX6_says 201 = .ok (.iconst 0, 1) := by decide +kernel
theorem dX6_says_202 : decode cX6_says 202 = .ok (.iaload, 1) := by decide +kernel
theorem dX6_says_203 : decode cX6_says 203 = .ok (.ireturn, 1) := by decide +kernel
theorem dX6_force_0 : decode cX6_force 0 = .ok (.iload_n 1, 1) := by decide +kernel
theorem dX6_force_1 : decode cX6_force 1 = .ok (.iconst 0, 1) := by decide +kernel
theorem dX6_force_2 : decode cX6_force 2 = .ok (.aload_n 0, 1) := by decide +kernel
theorem dX6_force_3 : decode cX6_force 3 = .ok (.getfield 97, 3) := by decide +kernel
theorem dX6_force_6 : decode cX6_force 6 = .ok (.iconst 1, 1) := by decide +kernel
theorem dX6_force_7 : decode cX6_force 7 = .ok (.isub, 1) := by decide +kernel
theorem dX6_force_8 : decode cX6_force 8 = .ok (.invokestatic 79, 3) := by decide +kernel
theorem dX6_force_11 : decode cX6_force 11 = .ok (.ifCond .ne 6, 3) := by decide +kernel
theorem dX6_force_14 : decode cX6_force 14 = .ok (.bipush (-2), 2) := by decide +kernel
theorem dX6_force_16 : decode cX6_force 16 = .ok (.ireturn, 1) := by decide +kernel
theorem dX6_force_17 : decode cX6_force 17 = .ok (.aload_n 0, 1) := by decide +kernel
theorem dX6_force_18 : decode cX6_force 18 = .ok (.getfield 100, 3) := by decide +kernel
theorem dX6_force_21 : decode cX6_force 21 = .ok (.istore_n 2, 1) := by decide +kernel
theorem dX6_force_22 : decode cX6_force 22 = .ok (.aload_n 0, 1) := by decide +kernel
theorem dX6_force_23 : decode cX6_force 23 = .ok (.iload_n 1, 1) := by decide +kernel
theorem dX6_force_24 : decode cX6_force 24 = .ok (.putfield 100, 3) := by decide +kernel
theorem dX6_force_27 : decode cX6_force 27 = .ok (.iload_n 2, 1) := by decide +kernel
theorem dX6_force_28 : decode cX6_force 28 = .ok (.ireturn, 1) := by decide +kernel
theorem dX6_asksOf_0 : decode cX6_asksOf 0 = .ok (.aload_n 0, 1) := by decide +kernel
theorem dX6_asksOf_1 : decode cX6_asksOf 1 = .ok (.getfield 61, 3) := by decide +kernel
theorem dX6_asksOf_4 : decode cX6_asksOf 4 = .ok (.iconst 0, 1) := by decide +kernel
theorem dX6_asksOf_5 : decode cX6_asksOf 5 = .ok (.aload_n 0, 1) := by decide +kernel
theorem dX6_asksOf_6 : decode cX6_asksOf 6 = .ok (.getfield 16, 3) := by decide +kernel
theorem dX6_asksOf_9 : decode cX6_asksOf 9 = .ok (.iconst 5, 1) := by decide +kernel
theorem dX6_asksOf_10 : decode cX6_asksOf 10 = .ok (.iload_n 2, 1) := by decide +kernel
theorem dX6_asksOf_11 : decode cX6_asksOf 11 = .ok (.imul, 1) := by decide +kernel
theorem dX6_asksOf_12 : decode cX6_asksOf 12 = .ok (.iconst 2, 1) := by decide +kernel
theorem dX6_asksOf_13 : decode cX6_asksOf 13 = .ok (.iadd, 1) := by decide +kernel
theorem dX6_asksOf_14 : decode cX6_asksOf 14 = .ok (.iaload, 1) := by decide +kernel
theorem dX6_asksOf_15 : decode cX6_asksOf 15 = .ok (.iastore, 1) := by decide +kernel
theorem dX6_asksOf_16 : decode cX6_asksOf 16 = .ok (.aload_n 0, 1) := by decide +kernel
theorem dX6_asksOf_17 : decode cX6_asksOf 17 = .ok (.getfield 61, 3) := by decide +kernel
theorem dX6_asksOf_20 : decode cX6_asksOf 20 = .ok (.iconst 1, 1) := by decide +kernel
theorem dX6_asksOf_21 : decode cX6_asksOf 21 = .ok (.aload_n 0, 1) := by decide +kernel
theorem dX6_asksOf_22 : decode cX6_asksOf 22 = .ok (.getfield 16, 3) := by decide +kernel
theorem dX6_asksOf_25 : decode cX6_asksOf 25 = .ok (.iconst 5, 1) := by decide +kernel
theorem dX6_asksOf_26 : decode cX6_asksOf 26 = .ok (.iload_n 2, 1) := by decide +kernel
theorem dX6_asksOf_27 : decode cX6_asksOf 27 = .ok (.imul, 1) := by decide +kernel
theorem dX6_asksOf_28 : decode cX6_asksOf 28 = .ok (.iaload, 1) := by decide +kernel
theorem dX6_asksOf_29 : decode cX6_asksOf 29 = .ok (.bipush 8, 2) := by decide +kernel
theorem dX6_asksOf_31 : decode cX6_asksOf 31 = .ok (.irem, 1) := by decide +kernel
theorem dX6_asksOf_32 : decode cX6_asksOf 32 = .ok (.iastore, 1) := by decide +kernel
theorem dX6_asksOf_33 : decode cX6_asksOf 33 = .ok (.aload_n 0, 1) := by decide +kernel
theorem dX6_asksOf_34 : decode cX6_asksOf 34 = .ok (.getfield 61, 3) := by decide +kernel
theorem dX6_asksOf_37 : decode cX6_asksOf 37 = .ok (.iconst 2, 1) := by decide +kernel
theorem dX6_asksOf_38 : decode cX6_asksOf 38 = .ok (.aload_n 0, 1) := by decide +kernel
theorem dX6_asksOf_39 : decode cX6_asksOf 39 = .ok (.getfield 16, 3) := by decide +kernel
theorem dX6_asksOf_42 : decode cX6_asksOf 42 = .ok (.iconst 5, 1) := by decide +kernel
theorem dX6_asksOf_43 : decode cX6_asksOf 43 = .ok (.iload_n 2, 1) := by decide +kernel
theorem dX6_asksOf_44 : decode cX6_asksOf 44 = .ok (.imul, 1) := by decide +kernel
theorem dX6_asksOf_45 : decode cX6_asksOf 45 = .ok (.iaload, 1) := by decide +kernel
theorem dX6_asksOf_46 : decode cX6_asksOf 46 = .ok (.bipush 8, 2) := by decide +kernel
theorem dX6_asksOf_48 : decode cX6_asksOf 48 = .ok (.idiv, 1) := by decide +kernel
theorem dX6_asksOf_49 : decode cX6_asksOf 49 = .ok (.iastore, 1) := by decide +kernel
theorem dX6_asksOf_50 : decode cX6_asksOf 50 = .ok (.aload_n 0, 1) := by decide +kernel
theorem dX6_asksOf_51 : decode cX6_asksOf 51 = .ok (.getfield 61, 3) := by decide +kernel
theorem dX6_asksOf_54 : decode cX6_asksOf 54 = .ok (.iconst 3, 1) := by decide +kernel
theorem dX6_asksOf_55 : decode cX6_asksOf 55 = .ok (.aload_n 0, 1) := by decide +kernel
theorem dX6_asksOf_56 : decode cX6_asksOf 56 = .ok (.getfield 16, 3) := by decide +kernel
theorem dX6_asksOf_59 : decode cX6_asksOf 59 = .ok (.iconst 5, 1) := by decide +kernel
theorem dX6_asksOf_60 : decode cX6_asksOf 60 = .ok (.iload_n 2, 1) := by decide +kernel
theorem dX6_asksOf_61 : decode cX6_asksOf 61 = .ok (.imul, 1) := by decide +kernel
theorem dX6_asksOf_62 : decode cX6_asksOf 62 = .ok (.iconst 3, 1) := by decide +kernel
theorem dX6_asksOf_63 : decode cX6_asksOf 63 = .ok (.iadd, 1) := by decide +kernel
theorem dX6_asksOf_64 : decode cX6_asksOf 64 = .ok (.iaload, 1) := by decide +kernel
theorem dX6_asksOf_65 : decode cX6_asksOf 65 = .ok (.iastore, 1) := by decide +kernel
theorem dX6_asksOf_66 : decode cX6_asksOf 66 = .ok (.aload_n 0, 1) := by decide +kernel
theorem dX6_asksOf_67 : decode cX6_asksOf 67 = .ok (.getfield 61, 3) := by decide +kernel
theorem dX6_asksOf_70 : decode cX6_asksOf 70 = .ok (.iconst 4, 1) := by decide +kernel
theorem dX6_asksOf_71 : decode cX6_asksOf 71 = .ok (.aload_n 0, 1) := by decide +kernel
theorem dX6_asksOf_72 : decode cX6_asksOf 72 = .ok (.getfield 16, 3) := by decide +kernel
theorem dX6_asksOf_75 : decode cX6_asksOf 75 = .ok (.iconst 5, 1) := by decide +kernel
theorem dX6_asksOf_76 : decode cX6_asksOf 76 = .ok (.iload_n 2, 1) := by decide +kernel
theorem dX6_asksOf_77 : decode cX6_asksOf 77 = .ok (.imul, 1) := by decide +kernel
theorem dX6_asksOf_78 : decode cX6_asksOf 78 = .ok (.iconst 4, 1) := by decide +kernel
theorem dX6_asksOf_79 : decode cX6_asksOf 79 = .ok (.iadd, 1) := by decide +kernel
theorem dX6_asksOf_80 : decode cX6_asksOf 80 = .ok (.iaload, 1) := by decide +kernel
theorem dX6_asksOf_81 : decode cX6_asksOf 81 = .ok (.iastore, 1) := by decide +kernel
theorem dX6_asksOf_82 : decode cX6_asksOf 82 = .ok (.aload_n 0, 1) := by decide +kernel
theorem dX6_asksOf_83 : decode cX6_asksOf 83 = .ok (.getfield 61, 3) := by decide +kernel
theorem dX6_asksOf_86 : decode cX6_asksOf 86 = .ok (.iconst 5, 1) := by decide +kernel
theorem dX6_asksOf_87 : decode cX6_asksOf 87 = .ok (.aload_n 0, 1) := by decide +kernel
theorem dX6_asksOf_88 : decode cX6_asksOf 88 = .ok (.getfield 13, 3) := by decide +kernel
theorem dX6_asksOf_91 : decode cX6_asksOf 91 = .ok (.iload_n 2, 1) := by decide +kernel
theorem dX6_asksOf_92 : decode cX6_asksOf 92 = .ok (.iaload, 1) := by decide +kernel
theorem dX6_asksOf_93 : decode cX6_asksOf 93 = .ok (.iastore, 1) := by decide +kernel
theorem dX6_asksOf_94 : decode cX6_asksOf 94 = .ok (.aload_n 0, 1) := by decide +kernel
theorem dX6_asksOf_95 : decode cX6_asksOf 95 = .ok (.iload_n 1, 1) := by decide +kernel
theorem dX6_asksOf_96 : decode cX6_asksOf 96 = .ok (.invokevirtual 175, 3) := by decide +kernel
theorem dX6_asksOf_99 : decode cX6_asksOf 99 = .ok (.iload_n 1, 1) := by decide +kernel
theorem dX6_asksOf_100 : decode cX6_asksOf 100 = .ok (.iconst 1, 1) := by decide +kernel
theorem dX6_asksOf_101 : decode cX6_asksOf 101 = .ok (.if_icmp .ne 8, 3) := by decide +kernel
theorem dX6_asksOf_104 : decode cX6_asksOf 104 = .ok (.bipush (-99), 2) := by decide +kernel
theorem dX6_asksOf_106 : decode cX6_asksOf 106 = .ok (.goto 4, 3) := by decide +kernel
theorem dX6_asksOf_109 : decode cX6_asksOf 109 = .ok (.iconst 0, 1) := by decide +kernel
theorem dX6_asksOf_110 : decode cX6_asksOf 110 = .ok (.iload_n 1, 1) := by decide +kernel
theorem dX6_asksOf_111 : decode cX6_asksOf 111 = .ok (.ifCond .ne 8, 3) := by decide +kernel
theorem dX6_asksOf_114 : decode cX6_asksOf 114 = .ok (.bipush 20, 2) := by decide +kernel
theorem dX6_asksOf_116 : decode cX6_asksOf 116 = .ok (.goto 5, 3) := by decide +kernel
theorem dX6_asksOf_119 : decode cX6_asksOf 119 = .ok (.bipush 99, 2) := by decide +kernel
theorem dX6_asksOf_121 : decode cX6_asksOf 121 = .ok (.invokestatic 178, 3) := by decide +kernel
theorem dX6_asksOf_124 : decode cX6_asksOf 124 = .ok (.ireturn, 1) := by decide +kernel
theorem dX6_asks_0 : decode cX6_asks 0 = .ok (.iload_n 1, 1) := by decide +kernel
theorem dX6_asks_1 : decode cX6_asks 1 = .ok (.iconst 0, 1) := by decide +kernel
theorem dX6_asks_2 : decode cX6_asks 2 = .ok (.iconst 2, 1) := by decide +kernel
theorem dX6_asks_3 : decode cX6_asks 3 = .ok (.invokestatic 79, 3) := by decide +kernel
theorem dX6_asks_6 : decode cX6_asks 6 = .ok (.ifCond .eq 20, 3) := by decide +kernel
theorem dX6_asks_9 : decode cX6_asks 9 = .ok (.aload_n 0, 1) := by decide +kernel
theorem dX6_asks_10 : decode cX6_asks 10 = .ok (.iload_n 2, 1) := by decide +kernel
theorem dX6_asks_11 : decode cX6_asks 11 = .ok (.invokevirtual 181, 3) := by decide +kernel
theorem dX6_asks_14 : decode cX6_asks 14 = .ok (.ifCond .eq 12, 3) := by decide +kernel
theorem dX6_asks_17 : decode cX6_asks 17 = .ok (.aload_n 0, 1) := by decide +kernel
theorem dX6_asks_18 : decode cX6_asks 18 = .ok (.iload_n 1, 1) := by decide +kernel
theorem dX6_asks_19 : decode cX6_asks 19 = .ok (.iload_n 2, 1) := by decide +kernel
theorem dX6_asks_20 : decode cX6_asks 20 = .ok (.invokevirtual 184, 3) := by decide +kernel
theorem dX6_asks_23 : decode cX6_asks 23 = .ok (.goto 6, 3) := by decide +kernel
theorem dX6_asks_26 : decode cX6_asks 26 = .ok (.sipush (-1000), 3) := by decide +kernel
theorem dX6_asks_29 : decode cX6_asks 29 = .ok (.ireturn, 1) := by decide +kernel
theorem dX6_sleeper_0 : decode cX6_sleeper 0 = .ok (.iload_n 1, 1) := by decide +kernel
theorem dX6_sleeper_1 : decode cX6_sleeper 1 = .ok (.iconst 0, 1) := by decide +kernel
theorem dX6_sleeper_2 : decode cX6_sleeper 2 = .ok (.bipush 59, 2) := by decide +kernel
theorem dX6_sleeper_4 : decode cX6_sleeper 4 = .ok (.invokestatic 79, 3) := by decide +kernel
theorem dX6_sleeper_7 : decode cX6_sleeper 7 = .ok (.ifCond .eq 22, 3) := by decide +kernel
theorem dX6_sleeper_10 : decode cX6_sleeper 10 = .ok (.iload_n 2, 1) := by decide +kernel
theorem dX6_sleeper_11 : decode cX6_sleeper 11 = .ok (.iconst 0, 1) := by decide +kernel
theorem dX6_sleeper_12 : decode cX6_sleeper 12 = .ok (.sipush 633, 3) := by decide +kernel
theorem dX6_sleeper_15 : decode cX6_sleeper 15 = .ok (.invokestatic 79, 3) := by decide +kernel
theorem dX6_sleeper_18 : decode cX6_sleeper 18 = .ok (.ifCond .eq 11, 3) := by decide +kernel
theorem dX6_sleeper_21 : decode cX6_sleeper 21 = .ok (.iload_n 2, 1) := by decide +kernel
theorem dX6_sleeper_22 : decode cX6_sleeper 22 = .ok (.bipush 10, 2) := by decide +kernel
theorem dX6_sleeper_24 : decode cX6_sleeper 24 = .ok (.irem, 1) := by decide +kernel
theorem dX6_sleeper_25 : decode cX6_sleeper 25 = .ok (.iconst 3, 1) := by decide +kernel
theorem dX6_sleeper_26 : decode cX6_sleeper 26 = .ok (.if_icmp .le 6, 3) := by decide +kernel
theorem dX6_sleeper_29 : decode cX6_sleeper 29 = .ok (.bipush (-2), 2) := by decide +kernel
theorem dX6_sleeper_31 : decode cX6_sleeper 31 = .ok (.ireturn, 1) := by decide +kernel
theorem dX6_sleeper_32 : decode cX6_sleeper 32 = .ok (.aload_n 0, 1) := by decide +kernel
theorem dX6_sleeper_33 : decode cX6_sleeper 33 = .ok (.getfield 83, 3) := by decide +kernel
theorem dX6_sleeper_36 : decode cX6_sleeper 36 = .ok (.bipush 6, 2) := by decide +kernel
theorem dX6_sleeper_38 : decode cX6_sleeper 38 = .ok (.if_icmp .ne 6, 3) := by decide +kernel
theorem dX6_sleeper_41 : decode cX6_sleeper 41 = .ok (.bipush (-4), 2) := by decide +kernel
theorem dX6_sleeper_43 : decode cX6_sleeper 43 = .ok (.ireturn, 1) := by decide +kernel
theorem dX6_sleeper_44 : decode cX6_sleeper 44 = .ok (.aload_n 0, 1) := by decide +kernel
theorem dX6_sleeper_45 : decode cX6_sleeper 45 = .ok (.getfield 7, 3) := by decide +kernel
theorem dX6_sleeper_48 : decode cX6_sleeper 48 = .ok (.aload_n 0, 1) := by decide +kernel
theorem dX6_sleeper_49 : decode cX6_sleeper 49 = .ok (.getfield 83, 3) := by decide +kernel
theorem dX6_sleeper_52 : decode cX6_sleeper 52 = .ok (.iload_n 1, 1) := by decide +kernel
theorem dX6_sleeper_53 : decode cX6_sleeper 53 = .ok (.bipush 10, 2) := by decide +kernel
theorem dX6_sleeper_55 : decode cX6_sleeper 55 = .ok (.idiv, 1) := by decide +kernel
theorem dX6_sleeper_56 : decode cX6_sleeper 56 = .ok (.iastore, 1) := by decide +kernel
theorem dX6_sleeper_57 : decode cX6_sleeper 57 = .ok (.aload_n 0, 1) := by decide +kernel
theorem dX6_sleeper_58 : decode cX6_sleeper 58 = .ok (.getfield 13, 3) := by decide +kernel
theorem dX6_sleeper_61 : decode cX6_sleeper 61 = .ok (.aload_n 0, 1) := by decide +kernel
theorem dX6_sleeper_62 : decode cX6_sleeper 62 = .ok (.getfield 83, 3) := by decide +kernel
theorem dX6_sleeper_65 : decode cX6_sleeper 65 = .ok (.iload_n 1, 1) := by decide +kernel
theorem dX6_sleeper_66 : decode cX6_sleeper 66 = .ok (.bipush 10, 2) := by decide +kernel
theorem dX6_sleeper_68 : decode cX6_sleeper 68 = .ok (.irem, 1) := by decide +kernel
theorem dX6_sleeper_69 : decode cX6_sleeper 69 = .ok (.iastore, 1) := by decide +kernel
theorem dX6_sleeper_70 : decode cX6_sleeper 70 = .ok (.aload_n 0, 1) := by decide +kernel
theorem dX6_sleeper_71 : decode cX6_sleeper 71 = .ok (.getfield 16, 3) := by decide +kernel
theorem dX6_sleeper_74 : decode cX6_sleeper 74 = .ok (.iconst 5, 1) := by decide +kernel
theorem dX6_sleeper_75 : decode cX6_sleeper 75 = .ok (.aload_n 0, 1) := by decide +kernel
theorem dX6_sleeper_76 : decode cX6_sleeper 76 = .ok (.getfield 83, 3) := by decide +kernel
theorem dX6_sleeper_79 : decode cX6_sleeper 79 = .ok (.imul, 1) := by decide +kernel
theorem dX6_sleeper_80 : decode cX6_sleeper 80 = .ok (.iload_n 2, 1) := by decide +kernel
theorem dX6_sleeper_81 : decode cX6_sleeper 81 = .ok (.bipush 10, 2) := by decide +kernel
theorem dX6_sleeper_83 : decode cX6_sleeper 83 = .ok (.idiv, 1) := by decide +kernel
theorem dX6_sleeper_84 : decode cX6_sleeper 84 = .ok (.iastore, 1) := by decide +kernel
theorem dX6_sleeper_85 : decode cX6_sleeper 85 = .ok (.aload_n 0, 1) := by decide +kernel
theorem dX6_sleeper_86 : decode cX6_sleeper 86 = .ok (.getfield 16, 3) := by decide +kernel
theorem dX6_sleeper_89 : decode cX6_sleeper 89 = .ok (.iconst 5, 1) := by decide +kernel
theorem dX6_sleeper_90 : decode cX6_sleeper 90 = .ok (.aload_n 0, 1) := by decide +kernel
theorem dX6_sleeper_91 : decode cX6_sleeper 91 = .ok (.getfield 83, 3) := by decide +kernel
theorem dX6_sleeper_94 : decode cX6_sleeper 94 = .ok (.imul, 1) := by decide +kernel
theorem dX6_sleeper_95 : decode cX6_sleeper 95 = .ok (.iconst 1, 1) := by decide +kernel
theorem dX6_sleeper_96 : decode cX6_sleeper 96 = .ok (.iadd, 1) := by decide +kernel
theorem dX6_sleeper_97 : decode cX6_sleeper 97 = .ok (.iload_n 2, 1) := by decide +kernel
theorem dX6_sleeper_98 : decode cX6_sleeper 98 = .ok (.bipush 10, 2) := by decide +kernel
theorem dX6_sleeper_100 : decode cX6_sleeper 100 = .ok (.irem, 1) := by decide +kernel
theorem dX6_sleeper_101 : decode cX6_sleeper 101 = .ok (.iastore, 1) := by decide +kernel
theorem dX6_sleeper_102 : decode cX6_sleeper 102 = .ok (.aload_n 0, 1) := by decide +kernel
theorem dX6_sleeper_103 : decode cX6_sleeper 103 = .ok (.getfield 16, 3) := by decide +kernel
theorem dX6_sleeper_106 : decode cX6_sleeper 106 = .ok (.iconst 5, 1) := by decide +kernel
theorem dX6_sleeper_107 : decode cX6_sleeper 107 = .ok (.aload_n 0, 1) := by decide +kernel
theorem dX6_sleeper_108 : decode cX6_sleeper 108 = .ok (.getfield 83, 3) := by decide +kernel
theorem dX6_sleeper_111 : decode cX6_sleeper 111 = .ok (.imul, 1) := by decide +kernel
theorem dX6_sleeper_112 : decode cX6_sleeper 112 = .ok (.iconst 2, 1) := by decide +kernel
theorem dX6_sleeper_113 : decode cX6_sleeper 113 = .ok (.iadd, 1) := by decide +kernel
theorem dX6_sleeper_114 : decode cX6_sleeper 114 = .ok (.iconst 0, 1) := by decide +kernel
theorem dX6_sleeper_115 : decode cX6_sleeper 115 = .ok (.iastore, 1) := by decide +kernel
theorem dX6_sleeper_116 : decode cX6_sleeper 116 = .ok (.aload_n 0, 1) := by decide +kernel
theorem dX6_sleeper_117 : decode cX6_sleeper 117 = .ok (.getfield 16, 3) := by decide +kernel
theorem dX6_sleeper_120 : decode cX6_sleeper 120 = .ok (.iconst 5, 1) := by decide +kernel
theorem dX6_sleeper_121 : decode cX6_sleeper 121 = .ok (.aload_n 0, 1) := by decide +kernel
theorem dX6_sleeper_122 : decode cX6_sleeper 122 = .ok (.getfield 83, 3) := by decide +kernel
theorem dX6_sleeper_125 : decode cX6_sleeper 125 = .ok (.imul, 1) := by decide +kernel
theorem dX6_sleeper_126 : decode cX6_sleeper 126 = .ok (.iconst 3, 1) := by decide +kernel
theorem dX6_sleeper_127 : decode cX6_sleeper 127 = .ok (.iadd, 1) := by decide +kernel
theorem dX6_sleeper_128 : decode cX6_sleeper 128 = .ok (.iconst 0, 1) := by decide +kernel
theorem dX6_sleeper_129 : decode cX6_sleeper 129 = .ok (.iastore, 1) := by decide +kernel
theorem dX6_sleeper_130 : decode cX6_sleeper 130 = .ok (.aload_n 0, 1) := by decide +kernel
theorem dX6_sleeper_131 : decode cX6_sleeper 131 = .ok (.getfield 16, 3) := by decide +kernel
theorem dX6_sleeper_134 : decode cX6_sleeper 134 = .ok (.iconst 5, 1) := by decide +kernel
theorem dX6_sleeper_135 : decode cX6_sleeper 135 = .ok (.aload_n 0, 1) := by decide +kernel
theorem dX6_sleeper_136 : decode cX6_sleeper 136 = .ok (.getfield 83, 3) := by decide +kernel
theorem dX6_sleeper_139 : decode cX6_sleeper 139 = .ok (.imul, 1) := by decide +kernel
theorem dX6_sleeper_140 : decode cX6_sleeper 140 = .ok (.iconst 4, 1) := by decide +kernel
theorem dX6_sleeper_141 : decode cX6_sleeper 141 = .ok (.iadd, 1) := by decide +kernel
theorem dX6_sleeper_142 : decode cX6_sleeper 142 = .ok (.bipush 99, 2) := by decide +kernel
theorem dX6_sleeper_144 : decode cX6_sleeper 144 = .ok (.iastore, 1) := by decide +kernel
theorem dX6_sleeper_145 : decode cX6_sleeper 145 = .ok (.aload_n 0, 1) := by decide +kernel
theorem dX6_sleeper_146 : decode cX6_sleeper 146 = .ok (.getfield 22, 3) := by decide +kernel
theorem dX6_sleeper_149 : decode cX6_sleeper 149 = .ok (.aload_n 0, 1) := by decide +kernel
theorem dX6_sleeper_150 : decode cX6_sleeper 150 = .ok (.getfield 83, 3) := by decide +kernel
theorem dX6_sleeper_153 : decode cX6_sleeper 153 = .ok (.iconst 1, 1) := by decide +kernel
theorem dX6_sleeper_154 : decode cX6_sleeper 154 = .ok (.iastore, 1) := by decide +kernel
theorem dX6_sleeper_155 : decode cX6_sleeper 155 = .ok (.aload_n 0, 1) := by decide +kernel
theorem dX6_sleeper_156 : decode cX6_sleeper 156 = .ok (.getfield 19, 3) := by decide +kernel
theorem dX6_sleeper_159 : decode cX6_sleeper 159 = .ok (.bipush 16, 2) := by decide +kernel
theorem dX6_sleeper_161 : decode cX6_sleeper 161 = .ok (.aload_n 0, 1) := by decide +kernel
theorem dX6_sleeper_162 : decode cX6_sleeper 162 = .ok (.getfield 83, 3) := by decide +kernel
theorem dX6_sleeper_165 : decode cX6_sleeper 165 = .ok (.imul, 1) := by decide +kernel
theorem dX6_sleeper_166 : decode cX6_sleeper 166 = .ok (.iconst 0, 1) := by decide +kernel
theorem dX6_sleeper_167 : decode cX6_sleeper 167 = .ok (.iastore, 1) := by decide +kernel
theorem dX6_sleeper_168 : decode cX6_sleeper 168 = .ok (.aload_n 0, 1) := by decide +kernel
theorem dX6_sleeper_169 : decode cX6_sleeper 169 = .ok (.dup, 1) := by decide +kernel
theorem dX6_sleeper_170 : decode cX6_sleeper 170 = .ok (.getfield 83, 3) := by decide +kernel
theorem dX6_sleeper_173 : decode cX6_sleeper 173 = .ok (.iconst 1, 1) := by decide +kernel
theorem dX6_sleeper_174 : decode cX6_sleeper 174 = .ok (.iadd, 1) := by decide +kernel
theorem dX6_sleeper_175 : decode cX6_sleeper 175 = .ok (.putfield 83, 3) := by decide +kernel
theorem dX6_sleeper_178 : decode cX6_sleeper 178 = .ok (.aload_n 0, 1) := by decide +kernel
theorem dX6_sleeper_179 : decode cX6_sleeper 179 = .ok (.getfield 83, 3) := by decide +kernel
theorem dX6_sleeper_182 : decode cX6_sleeper 182 = .ok (.iconst 1, 1) := by decide +kernel
theorem dX6_sleeper_183 : decode cX6_sleeper 183 = .ok (.isub, 1) := by decide +kernel
theorem dX6_sleeper_184 : decode cX6_sleeper 184 = .ok (.ireturn, 1) := by decide +kernel
theorem dX6_put_0 : decode cX6_put 0 = .ok (.aload_n 0, 1) := by decide +kernel
theorem dX6_put_1 : decode cX6_put 1 = .ok (.iload_n 1, 1) := by decide +kernel
theorem dX6_put_2 : decode cX6_put 2 = .ok (.invokevirtual 181, 3) := by decide +kernel
theorem dX6_put_5 : decode cX6_put 5 = .ok (.ifCond .ne 6, 3) := by decide +kernel
theorem dX6_put_8 : decode cX6_put 8 = .ok (.bipush (-5), 2) := by decide +kernel
theorem dX6_put_10 : decode cX6_put 10 = .ok (.ireturn, 1) := by decide +kernel
theorem dX6_put_11 : decode cX6_put 11 = .ok (.iload_n 2, 1) := by decide +kernel
theorem dX6_put_12 : decode cX6_put 12 = .ok (.ifCond .ne 8, 3) := by decide +kernel
theorem dX6_put_15 : decode cX6_put 15 = .ok (.bipush 63, 2) := by decide +kernel
theorem dX6_put_17 : decode cX6_put 17 = .ok (.goto 30, 3) := by decide +kernel
theorem dX6_put_20 : decode cX6_put 20 = .ok (.iload_n 2, 1) := by decide +kernel
theorem dX6_put_21 : decode cX6_put 21 = .ok (.iconst 1, 1) := by decide +kernel
theorem dX6_put_22 : decode cX6_put 22 = .ok (.if_icmp .ne 7, 3) := by decide +kernel
theorem dX6_put_25 : decode cX6_put 25 = .ok (.iconst 3, 1) := by decide +kernel
theorem dX6_put_26 : decode cX6_put 26 = .ok (.goto 21, 3) := by decide +kernel
theorem dX6_put_29 : decode cX6_put 29 = .ok (.iload_n 2, 1) := by decide +kernel
theorem dX6_put_30 : decode cX6_put 30 = .ok (.iconst 2, 1) := by decide +kernel
theorem dX6_put_31 : decode cX6_put 31 = .ok (.if_icmp .ne 14, 3) := by decide +kernel
theorem dX6_put_34 : decode cX6_put 34 = .ok (.aload_n 0, 1) := by decide +kernel
theorem dX6_put_35 : decode cX6_put 35 = .ok (.getfield 22, 3) := by decide +kernel
theorem dX6_put_38 : decode cX6_put 38 = .ok (.iload_n 1, 1) := by decide +kernel
theorem dX6_put_39 : decode cX6_put 39 = .ok (.iaload, 1) := by decide +kernel
theorem dX6_put_40 : decode cX6_put 40 = .ok (.iconst 1, 1) := by decide +kernel
theorem dX6_put_41 : decode cX6_put 41 = .ok (.isub, 1) := by decide +kernel
theorem dX6_put_42 : decode cX6_put 42 = .ok (.goto 5, 3) := by decide +kernel
theorem dX6_put_45 : decode cX6_put 45 = .ok (.bipush 99, 2) := by decide +kernel
theorem dX6_put_47 : decode cX6_put 47 = .ok (.istore 4, 2) := by decide +kernel
theorem dX6_put_49 : decode cX6_put 49 = .ok (.iload_n 2, 1) := by decide +kernel
theorem dX6_put_50 : decode cX6_put 50 = .ok (.iconst 0, 1) := by decide +kernel
theorem dX6_put_51 : decode cX6_put 51 = .ok (.iconst 4, 1) := by decide +kernel
theorem dX6_put_52 : decode cX6_put 52 = .ok (.invokestatic 79, 3) := by decide +kernel
theorem dX6_put_55 : decode cX6_put 55 = .ok (.ifCond .eq 13, 3) := by decide +kernel
theorem dX6_put_58 : decode cX6_put 58 = .ok (.iload_n 3, 1) := by decide +kernel
theorem dX6_put_59 : decode cX6_put 59 = .ok (.iconst 0, 1) := by decide +kernel
theorem dX6_put_60 : decode cX6_put 60 = .ok (.iload 4, 2) := by decide +kernel
theorem dX6_put_62 : decode cX6_put 62 = .ok (.invokestatic 79, 3) := by decide +kernel
theorem dX6_put_65 : decode cX6_put 65 = .ok (.ifCond .ne 6, 3) := by decide +kernel
theorem dX6_put_68 : decode cX6_put 68 = .ok (.bipush (-7), 2) := by decide +kernel
theorem dX6_put_70 : decode cX6_put 70 = .ok (.ireturn, 1) := by decide +kernel
theorem dX6_put_71 : decode cX6_put 71 = .ok (.aload_n 0, 1) := by decide +kernel
theorem dX6_put_72 : decode cX6_put 72 = .ok (.getfield 16, 3) := by decide +kernel
theorem dX6_put_75 : decode cX6_put 75 = .ok (.iconst 5, 1) := by decide +kernel
theorem dX6_put_76 : decode cX6_put 76 = .ok (.iload_n 1, 1) := by decide +kernel
theorem dX6_put_77 : decode cX6_put 77 = .ok (.imul, 1) := by decide +kernel
theorem dX6_put_78 : decode cX6_put 78 = .ok (.iload_n 2, 1) := by decide +kernel
theorem dX6_put_79 : decode cX6_put 79 = .ok (.iadd, 1) := by decide +kernel
theorem dX6_put_80 : decode cX6_put 80 = .ok (.iaload, 1) := by decide +kernel
theorem dX6_put_81 : decode cX6_put 81 = .ok (.istore 5, 2) := by decide +kernel
theorem dX6_put_83 : decode cX6_put 83 = .ok (.aload_n 0, 1) := by decide +kernel
theorem dX6_put_84 : decode cX6_put 84 = .ok (.getfield 16, 3) := by decide +kernel
theorem dX6_put_87 : decode cX6_put 87 = .ok (.iconst 5, 1) := by decide +kernel
theorem dX6_put_88 : decode cX6_put 88 = .ok (.iload_n 1, 1) := by decide +kernel
theorem dX6_put_89 : decode cX6_put 89 = .ok (.imul, 1) := by decide +kernel
theorem dX6_put_90 : decode cX6_put 90 = .ok (.iload_n 2, 1) := by decide +kernel
theorem dX6_put_91 : decode cX6_put 91 = .ok (.iadd, 1) := by decide +kernel
theorem dX6_put_92 : decode cX6_put 92 = .ok (.iload_n 3, 1) := by decide +kernel
theorem dX6_put_93 : decode cX6_put 93 = .ok (.iastore, 1) := by decide +kernel
theorem dX6_put_94 : decode cX6_put 94 = .ok (.iload 5, 2) := by decide +kernel
theorem dX6_put_96 : decode cX6_put 96 = .ok (.ireturn, 1) := by decide +kernel
theorem dX6_goesOf_0 : decode cX6_goesOf 0 = .ok (.aload_n 0, 1) := by decide +kernel
theorem dX6_goesOf_1 : decode cX6_goesOf 1 = .ok (.iconst 0, 1) := by decide +kernel
theorem dX6_goesOf_2 : decode cX6_goesOf 2 = .ok (.iload_n 1, 1) := by decide +kernel
theorem dX6_goesOf_3 : decode cX6_goesOf 3 = .ok (.invokevirtual 184, 3) := by decide +kernel
theorem dX6_goesOf_6 : decode cX6_goesOf 6 = .ok (.istore_n 2, 1) := by decide +kernel
theorem dX6_goesOf_7 : decode cX6_goesOf 7 = .ok (.aload_n 0, 1) := by decide +kernel
theorem dX6_goesOf_8 : decode cX6_goesOf 8 = .ok (.getfield 16, 3) := by decide +kernel
theorem dX6_goesOf_11 : decode cX6_goesOf 11 = .ok (.iconst 5, 1) := by decide +kernel
theorem dX6_goesOf_12 : decode cX6_goesOf 12 = .ok (.iload_n 1, 1) := by decide +kernel
theorem dX6_goesOf_13 : decode cX6_goesOf 13 = .ok (.imul, 1) := by decide +kernel
theorem dX6_goesOf_14 : decode cX6_goesOf 14 = .ok (.iconst 4, 1) := by decide +kernel
theorem dX6_goesOf_15 : decode cX6_goesOf 15 = .ok (.iadd, 1) := by decide +kernel
theorem dX6_goesOf_16 : decode cX6_goesOf 16 = .ok (.iaload, 1) := by decide +kernel
theorem dX6_goesOf_17 : decode cX6_goesOf 17 = .ok (.istore_n 3, 1) := by decide +kernel
theorem dX6_goesOf_18 : decode cX6_goesOf 18 = .ok (.iload_n 3, 1) := by decide +kernel
theorem dX6_goesOf_19 : decode cX6_goesOf 19 = .ok (.ifCond .ne 7, 3) := by decide +kernel
theorem dX6_goesOf_22 : decode cX6_goesOf 22 = .ok (.iconst 0, 1) := by decide +kernel
theorem dX6_goesOf_23 : decode cX6_goesOf 23 = .ok (.goto 4, 3) := by decide +kernel
theorem dX6_goesOf_26 : decode cX6_goesOf 26 = .ok (.iload_n 2, 1) := by decide +kernel
theorem dX6_goesOf_27 : decode cX6_goesOf 27 = .ok (.istore 4, 2) := by decide +kernel
theorem dX6_goesOf_29 : decode cX6_goesOf 29 = .ok (.iconst 2, 1) := by decide +kernel
theorem dX6_goesOf_30 : decode cX6_goesOf 30 = .ok (.iload 4, 2) := by decide +kernel
theorem dX6_goesOf_32 : decode cX6_goesOf 32 = .ok (.imul, 1) := by decide +kernel
theorem dX6_goesOf_33 : decode cX6_goesOf 33 = .ok (.aload_n 0, 1) := by decide +kernel
theorem dX6_goesOf_34 : decode cX6_goesOf 34 = .ok (.getfield 13, 3) := by decide +kernel
theorem dX6_goesOf_37 : decode cX6_goesOf 37 = .ok (.iload_n 1, 1) := by decide +kernel
theorem dX6_goesOf_38 : decode cX6_goesOf 38 = .ok (.iaload, 1) := by decide +kernel
theorem dX6_goesOf_39 : decode cX6_goesOf 39 = .ok (.iconst 1, 1) := by decide +kernel
theorem dX6_goesOf_40 : decode cX6_goesOf 40 = .ok (.iadd, 1) := by decide +kernel
theorem dX6_goesOf_41 : decode cX6_goesOf 41 = .ok (.irem, 1) := by decide +kernel
theorem dX6_goesOf_42 : decode cX6_goesOf 42 = .ok (.istore 5, 2) := by decide +kernel
theorem dX6_goesOf_44 : decode cX6_goesOf 44 = .ok (.aload_n 0, 1) := by decide +kernel
theorem dX6_goesOf_45 : decode cX6_goesOf 45 = .ok (.getfield 7, 3) := by decide +kernel
theorem dX6_goesOf_48 : decode cX6_goesOf 48 = .ok (.iload_n 1, 1) := by decide +kernel
theorem dX6_goesOf_49 : decode cX6_goesOf 49 = .ok (.iaload, 1) := by decide +kernel
theorem dX6_goesOf_50 : decode cX6_goesOf 50 = .ok (.tableswitch 86 1 5 #[34, 37, 60, 37, 65], 34) := by decide +kernel
theorem dX6_goesOf_84 : decode cX6_goesOf 84 = .ok (.iload 5, 2) := by decide +kernel
theorem dX6_goesOf_86 : decode cX6_goesOf 86 = .ok (.ireturn, 1) := by decide +kernel
theorem dX6_goesOf_87 : decode cX6_goesOf 87 = .ok (.iload 4, 2) := by decide +kernel
theorem dX6_goesOf_89 : decode cX6_goesOf 89 = .ok (.iconst 1, 1) := by decide +kernel
theorem dX6_goesOf_90 : decode cX6_goesOf 90 = .ok (.iload_n 3, 1) := by decide +kernel
theorem dX6_goesOf_91 : decode cX6_goesOf 91 = .ok (.bipush 10, 2) := by decide +kernel
theorem dX6_goesOf_93 : decode cX6_goesOf 93 = .ok (.idiv, 1) := by decide +kernel
theorem dX6_goesOf_94 : decode cX6_goesOf 94 = .ok (.iadd, 1) := by decide +kernel
theorem dX6_goesOf_95 : decode cX6_goesOf 95 = .ok (.if_icmp .ge 8, 3) := by decide +kernel
theorem dX6_goesOf_98 : decode cX6_goesOf 98 = .ok (.iload 4, 2) := by decide +kernel
theorem dX6_goesOf_100 : decode cX6_goesOf 100 = .ok (.goto 9, 3) := by decide +kernel
theorem dX6_goesOf_103 : decode cX6_goesOf 103 = .ok (.iconst 1, 1) := by decide +kernel
theorem dX6_goesOf_104 : decode cX6_goesOf 104 = .ok (.iload_n 3, 1) := by decide +kernel
theorem dX6_goesOf_105 : decode cX6_goesOf 105 = .ok (.bipush 10, 2) := by decide +kernel
theorem dX6_goesOf_107 : decode cX6_goesOf 107 = .ok (.idiv, 1) := by decide +kernel
theorem dX6_goesOf_108 : decode cX6_goesOf 108 = .ok (.iadd, 1) := by decide +kernel
theorem dX6_goesOf_109 : decode cX6_goesOf 109 = .ok (.ireturn, 1) := by decide +kernel
theorem dX6_goesOf_110 : decode cX6_goesOf 110 = .ok (.iload 5, 2) := by decide +kernel
theorem dX6_goesOf_112 : decode cX6_goesOf 112 = .ok (.iconst 1, 1) := by decide +kernel
theorem dX6_goesOf_113 : decode cX6_goesOf 113 = .ok (.iadd, 1) := by decide +kernel
theorem dX6_goesOf_114 : decode cX6_goesOf 114 = .ok (.ireturn, 1) := by decide +kernel
theorem dX6_goesOf_115 : decode cX6_goesOf 115 = .ok (.iload_n 2, 1) := by decide +kernel
theorem dX6_goesOf_116 : decode cX6_goesOf 116 = .ok (.aload_n 0, 1) := by decide +kernel
theorem dX6_goesOf_117 : decode cX6_goesOf 117 = .ok (.getfield 13, 3) := by decide +kernel
theorem dX6_goesOf_120 : decode cX6_goesOf 120 = .ok (.iload_n 1, 1) := by decide +kernel
theorem dX6_goesOf_121 : decode cX6_goesOf 121 = .ok (.iaload, 1) := by decide +kernel
theorem dX6_goesOf_122 : decode cX6_goesOf 122 = .ok (.if_icmp .ge 7, 3) := by decide +kernel
theorem dX6_goesOf_125 : decode cX6_goesOf 125 = .ok (.iload_n 2, 1) := by decide +kernel
theorem dX6_goesOf_126 : decode cX6_goesOf 126 = .ok (.goto 9, 3) := by decide +kernel
theorem dX6_goesOf_129 : decode cX6_goesOf 129 = .ok (.aload_n 0, 1) := by decide +kernel
theorem dX6_goesOf_130 : decode cX6_goesOf 130 = .ok (.getfield 13, 3) := by decide +kernel
theorem dX6_goesOf_133 : decode cX6_goesOf 133 = .ok (.iload_n 1, 1) := by decide +kernel
theorem dX6_goesOf_134 : decode cX6_goesOf 134 = .ok (.iaload, 1) := by decide +kernel
theorem dX6_goesOf_135 : decode cX6_goesOf 135 = .ok (.ireturn, 1) := by decide +kernel
theorem dX6_goesOf_136 : decode cX6_goesOf 136 = .ok (.iload 4, 2) := by decide +kernel
theorem dX6_goesOf_138 : decode cX6_goesOf 138 = .ok (.ireturn, 1) := by decide +kernel
theorem dX6_mindsOf_0 : decode cX6_mindsOf 0 = .ok (.aload_n 0, 1) := by decide +kernel
theorem dX6_mindsOf_1 : decode cX6_mindsOf 1 = .ok (.iconst 1, 1) := by decide +kernel
theorem dX6_mindsOf_2 : decode cX6_mindsOf 2 = .ok (.iload_n 1, 1) := by decide +kernel
theorem dX6_mindsOf_3 : decode cX6_mindsOf 3 = .ok (.invokevirtual 184, 3) := by decide +kernel
theorem dX6_mindsOf_6 : decode cX6_mindsOf 6 = .ok (.istore_n 2, 1) := by decide +kernel
theorem dX6_mindsOf_7 : decode cX6_mindsOf 7 = .ok (.aload_n 0, 1) := by decide +kernel
theorem dX6_mindsOf_8 : decode cX6_mindsOf 8 = .ok (.getfield 7, 3) := by decide +kernel
theorem dX6_mindsOf_11 : decode cX6_mindsOf 11 = .ok (.iload_n 1, 1) := by decide +kernel
theorem dX6_mindsOf_12 : decode cX6_mindsOf 12 = .ok (.iaload, 1) := by decide +kernel
theorem dX6_mindsOf_13 : decode cX6_mindsOf 13 = .ok (.tableswitch 61 1 4 #[31, 61, 31, 36], 31) := by decide +kernel
theorem dX6_mindsOf_44 : decode cX6_mindsOf 44 = .ok (.iload_n 2, 1) := by decide +kernel
theorem dX6_mindsOf_45 : decode cX6_mindsOf 45 = .ok (.bipush 10, 2) := by decide +kernel
theorem dX6_mindsOf_47 : decode cX6_mindsOf 47 = .ok (.iadd, 1) := by decide +kernel
theorem dX6_mindsOf_48 : decode cX6_mindsOf 48 = .ok (.ireturn, 1) := by decide +kernel
theorem dX6_mindsOf_49 : decode cX6_mindsOf 49 = .ok (.aload_n 0, 1) := by decide +kernel
theorem dX6_mindsOf_50 : decode cX6_mindsOf 50 = .ok (.getfield 16, 3) := by decide +kernel
theorem dX6_mindsOf_53 : decode cX6_mindsOf 53 = .ok (.iconst 5, 1) := by decide +kernel
theorem dX6_mindsOf_54 : decode cX6_mindsOf 54 = .ok (.iload_n 1, 1) := by decide +kernel
theorem dX6_mindsOf_55 : decode cX6_mindsOf 55 = .ok (.imul, 1) := by decide +kernel
theorem dX6_mindsOf_56 : decode cX6_mindsOf 56 = .ok (.iconst 3, 1) := by decide +kernel
theorem dX6_mindsOf_57 : decode cX6_mindsOf 57 = .ok (.iadd, 1) := by decide +kernel
theorem dX6_mindsOf_58 : decode cX6_mindsOf 58 = .ok (.iaload, 1) := by decide +kernel
theorem dX6_mindsOf_59 : decode cX6_mindsOf 59 = .ok (.aload_n 0, 1) := by decide +kernel
theorem dX6_mindsOf_60 : decode cX6_mindsOf 60 = .ok (.getfield 13, 3) := by decide +kernel
theorem dX6_mindsOf_63 : decode cX6_mindsOf 63 = .ok (.iload_n 1, 1) := by decide +kernel
theorem dX6_mindsOf_64 : decode cX6_mindsOf 64 = .ok (.iaload, 1) := by decide +kernel
theorem dX6_mindsOf_65 : decode cX6_mindsOf 65 = .ok (.if_icmp .le 7, 3) := by decide +kernel
theorem dX6_mindsOf_68 : decode cX6_mindsOf 68 = .ok (.iload_n 2, 1) := by decide +kernel
theorem dX6_mindsOf_69 : decode cX6_mindsOf 69 = .ok (.goto 4, 3) := by decide +kernel
theorem dX6_mindsOf_72 : decode cX6_mindsOf 72 = .ok (.iconst 0, 1) := by decide +kernel
theorem dX6_mindsOf_73 : decode cX6_mindsOf 73 = .ok (.ireturn, 1) := by decide +kernel
theorem dX6_mindsOf_74 : decode cX6_mindsOf 74 = .ok (.iload_n 2, 1) := by decide +kernel
theorem dX6_mindsOf_75 : decode cX6_mindsOf 75 = .ok (.ireturn, 1) := by decide +kernel
theorem dX6_wearsOf_0 : decode cX6_wearsOf 0 = .ok (.aload_n 0, 1) := by decide +kernel
theorem dX6_wearsOf_1 : decode cX6_wearsOf 1 = .ok (.getfield 7, 3) := by decide +kernel
theorem dX6_wearsOf_4 : decode cX6_wearsOf 4 = .ok (.iload_n 1, 1) := by decide +kernel
theorem dX6_wearsOf_5 : decode cX6_wearsOf 5 = .ok (.iaload, 1) := by decide +kernel
theorem dX6_wearsOf_6 : decode cX6_wearsOf 6 = .ok (.iconst 4, 1) := by decide +kernel
theorem dX6_wearsOf_7 : decode cX6_wearsOf 7 = .ok (.if_icmp .ne 5, 3) := by decide +kernel
theorem dX6_wearsOf_10 : decode cX6_wearsOf 10 = .ok (.iconst 0, 1) := by decide +kernel
theorem dX6_wearsOf_11 : decode cX6_wearsOf 11 = .ok (.ireturn, 1) := by decide +kernel
theorem dX6_wearsOf_12 : decode cX6_wearsOf 12 = .ok (.aload_n 0, 1) := by decide +kernel
theorem dX6_wearsOf_13 : decode cX6_wearsOf 13 = .ok (.iconst 2, 1) := by decide +kernel
theorem dX6_wearsOf_14 : decode cX6_wearsOf 14 = .ok (.iload_n 1, 1) := by decide +kernel
theorem dX6_wearsOf_15 : decode cX6_wearsOf 15 = .ok (.invokevirtual 184, 3) := by decide +kernel
theorem dX6_wearsOf_18 : decode cX6_wearsOf 18 = .ok (.istore_n 2, 1) := by decide +kernel
theorem dX6_wearsOf_19 : decode cX6_wearsOf 19 = .ok (.aload_n 0, 1) := by decide +kernel
theorem dX6_wearsOf_20 : decode cX6_wearsOf 20 = .ok (.getfield 7, 3) := by decide +kernel
theorem dX6_wearsOf_23 : decode cX6_wearsOf 23 = .ok (.iload_n 1, 1) := by decide +kernel
theorem dX6_wearsOf_24 : decode cX6_wearsOf 24 = .ok (.iaload, 1) := by decide +kernel
theorem dX6_wearsOf_25 : decode cX6_wearsOf 25 = .ok (.tableswitch 59 2 5 #[31, 40, 59, 55], 31) := by decide +kernel
theorem dX6_wearsOf_56 : decode cX6_wearsOf 56 = .ok (.iload_n 2, 1) := by decide +kernel
theorem dX6_wearsOf_57 : decode cX6_wearsOf 57 = .ok (.aload_n 0, 1) := by decide +kernel
theorem dX6_wearsOf_58 : decode cX6_wearsOf 58 = .ok (.getfield 13, 3) := by decide +kernel
theorem dX6_wearsOf_61 : decode cX6_wearsOf 61 = .ok (.iload_n 1, 1) := by decide +kernel
theorem dX6_wearsOf_62 : decode cX6_wearsOf 62 = .ok (.iaload, 1) := by decide +kernel
theorem dX6_wearsOf_63 : decode cX6_wearsOf 63 = .ok (.iadd, 1) := by decide +kernel
theorem dX6_wearsOf_64 : decode cX6_wearsOf 64 = .ok (.ireturn, 1) := by decide +kernel
theorem dX6_wearsOf_65 : decode cX6_wearsOf 65 = .ok (.aload_n 0, 1) := by decide +kernel
theorem dX6_wearsOf_66 : decode cX6_wearsOf 66 = .ok (.getfield 94, 3) := by decide +kernel
theorem dX6_wearsOf_69 : decode cX6_wearsOf 69 = .ok (.iconst 3, 1) := by decide +kernel
theorem dX6_wearsOf_70 : decode cX6_wearsOf 70 = .ok (.irem, 1) := by decide +kernel
theorem dX6_wearsOf_71 : decode cX6_wearsOf 71 = .ok (.ifCond .ne 7, 3) := by decide +kernel
theorem dX6_wearsOf_74 : decode cX6_wearsOf 74 = .ok (.iload_n 2, 1) := by decide +kernel
theorem dX6_wearsOf_75 : decode cX6_wearsOf 75 = .ok (.goto 4, 3) := by decide +kernel
theorem dX6_wearsOf_78 : decode cX6_wearsOf 78 = .ok (.iconst 0, 1) := by decide +kernel
theorem dX6_wearsOf_79 : decode cX6_wearsOf 79 = .ok (.ireturn, 1) := by decide +kernel
theorem dX6_wearsOf_80 : decode cX6_wearsOf 80 = .ok (.iconst 2, 1) := by decide +kernel
theorem dX6_wearsOf_81 : decode cX6_wearsOf 81 = .ok (.iload_n 2, 1) := by decide +kernel
theorem dX6_wearsOf_82 : decode cX6_wearsOf 82 = .ok (.imul, 1) := by decide +kernel
theorem dX6_wearsOf_83 : decode cX6_wearsOf 83 = .ok (.ireturn, 1) := by decide +kernel
theorem dX6_wearsOf_84 : decode cX6_wearsOf 84 = .ok (.iload_n 2, 1) := by decide +kernel
theorem dX6_wearsOf_85 : decode cX6_wearsOf 85 = .ok (.ireturn, 1) := by decide +kernel
theorem dX6_told_0 : decode cX6_told 0 = .ok (.aload_n 0, 1) := by decide +kernel
theorem dX6_told_1 : decode cX6_told 1 = .ok (.iload_n 1, 1) := by decide +kernel
theorem dX6_told_2 : decode cX6_told 2 = .ok (.invokevirtual 181, 3) := by decide +kernel
theorem dX6_told_5 : decode cX6_told 5 = .ok (.ifCond .ne 7, 3) := by decide +kernel
theorem dX6_told_8 : decode cX6_told 8 = .ok (.sipush (-5000), 3) := by decide +kernel
theorem dX6_told_11 : decode cX6_told 11 = .ok (.ireturn, 1) := by decide +kernel
theorem dX6_told_12 : decode cX6_told 12 = .ok (.iload_n 2, 1) := by decide +kernel
theorem dX6_told_13 : decode cX6_told 13 = .ok (.iconst 0, 1) := by decide +kernel
theorem dX6_told_14 : decode cX6_told 14 = .ok (.iconst 4, 1) := by decide +kernel
theorem dX6_told_15 : decode cX6_told 15 = .ok (.invokestatic 79, 3) := by decide +kernel
theorem dX6_told_18 : decode cX6_told 18 = .ok (.ifCond .eq 14, 3) := by decide +kernel
theorem dX6_told_21 : decode cX6_told 21 = .ok (.aload_n 0, 1) := by decide +kernel
theorem dX6_told_22 : decode cX6_told 22 = .ok (.getfield 16, 3) := by decide +kernel
theorem dX6_told_25 : decode cX6_told 25 = .ok (.iconst 5, 1) := by decide +kernel
theorem dX6_told_26 : decode cX6_told 26 = .ok (.iload_n 1, 1) := by decide +kernel
theorem dX6_told_27 : decode cX6_told 27 = .ok (.imul, 1) := by decide +kernel
theorem dX6_told_28 : decode cX6_told 28 = .ok (.iload_n 2, 1) := by decide +kernel
theorem dX6_told_29 : decode cX6_told 29 = .ok (.iadd, 1) := by decide +kernel
theorem dX6_told_30 : decode cX6_told 30 = .ok (.iaload, 1) := by decide +kernel
theorem dX6_told_31 : decode cX6_told 31 = .ok (.ireturn, 1) := by decide +kernel
theorem dX6_told_32 : decode cX6_told 32 = .ok (.iload_n 2, 1) := by decide +kernel
theorem dX6_told_33 : decode cX6_told 33 = .ok (.bipush 20, 2) := by decide +kernel
theorem dX6_told_35 : decode cX6_told 35 = .ok (.bipush 19, 2) := by decide +kernel
theorem dX6_told_37 : decode cX6_told 37 = .ok (.aload_n 0, 1) := by decide +kernel
theorem dX6_told_38 : decode cX6_told 38 = .ok (.getfield 22, 3) := by decide +kernel
theorem dX6_told_41 : decode cX6_told 41 = .ok (.iload_n 1, 1) := by decide +kernel
theorem dX6_told_42 : decode cX6_told 42 = .ok (.iaload, 1) := by decide +kernel
theorem dX6_told_43 : decode cX6_told 43 = .ok (.iadd, 1) := by decide +kernel
theorem dX6_told_44 : decode cX6_told 44 = .ok (.invokestatic 79, 3) := by decide +kernel
theorem dX6_told_47 : decode cX6_told 47 = .ok (.ifCond .eq 18, 3) := by decide +kernel
theorem dX6_told_50 : decode cX6_told 50 = .ok (.aload_n 0, 1) := by decide +kernel
theorem dX6_told_51 : decode cX6_told 51 = .ok (.getfield 19, 3) := by decide +kernel
theorem dX6_told_54 : decode cX6_told 54 = .ok (.bipush 16, 2) := by decide +kernel
theorem dX6_told_56 : decode cX6_told 56 = .ok (.iload_n 1, 1) := by decide +kernel
theorem dX6_told_57 : decode cX6_told 57 = .ok (.imul, 1) := by decide +kernel
theorem dX6_told_58 : decode cX6_told 58 = .ok (.iload_n 2, 1) := by decide +kernel
theorem dX6_told_59 : decode cX6_told 59 = .ok (.iadd, 1) := by decide +kernel
theorem dX6_told_60 : decode cX6_told 60 = .ok (.bipush 20, 2) := by decide +kernel
theorem dX6_told_62 : decode cX6_told 62 = .ok (.isub, 1) := by decide +kernel
theorem dX6_told_63 : decode cX6_told 63 = .ok (.iaload, 1) := by decide +kernel
theorem dX6_told_64 : decode cX6_told 64 = .ok (.ireturn, 1) := by decide +kernel
theorem dX6_told_65 : decode cX6_told 65 = .ok (.iload_n 2, 1) := by decide +kernel
theorem dX6_told_66 : decode cX6_told 66 = .ok (.tableswitch 77 5 10 #[38, 45, 52, 58, 64, 70], 38) := by decide +kernel
theorem dX6_told_104 : decode cX6_told 104 = .ok (.aload_n 0, 1) := by decide +kernel
theorem dX6_told_105 : decode cX6_told 105 = .ok (.getfield 7, 3) := by decide +kernel
theorem dX6_told_108 : decode cX6_told 108 = .ok (.iload_n 1, 1) := by decide +kernel
theorem dX6_told_109 : decode cX6_told 109 = .ok (.iaload, 1) := by decide +kernel
theorem dX6_told_110 : decode cX6_told 110 = .ok (.ireturn, 1) := by decide +kernel
theorem dX6_told_111 : decode cX6_told 111 = .ok (.aload_n 0, 1) := by decide +kernel
theorem dX6_told_112 : decode cX6_told 112 = .ok (.getfield 13, 3) := by decide +kernel
theorem dX6_told_115 : decode cX6_told 115 = .ok (.iload_n 1, 1) := by decide +kernel
theorem dX6_told_116 : decode cX6_told 116 = .ok (.iaload, 1) := by decide +kernel
theorem dX6_told_117 : decode cX6_told 117 = .ok (.ireturn, 1) := by decide +kernel
theorem dX6_told_118 : decode cX6_told 118 = .ok (.aload_n 0, 1) := by decide +kernel
theorem dX6_told_119 : decode cX6_told 119 = .ok (.iload_n 1, 1) := by decide +kernel
theorem dX6_told_120 : decode cX6_told 120 = .ok (.invokevirtual 187, 3) := by decide +kernel
theorem dX6_told_123 : decode cX6_told 123 = .ok (.ireturn, 1) := by decide +kernel
theorem dX6_told_124 : decode cX6_told 124 = .ok (.aload_n 0, 1) := by decide +kernel
theorem dX6_told_125 : decode cX6_told 125 = .ok (.iload_n 1, 1) := by decide +kernel
theorem dX6_told_126 : decode cX6_told 126 = .ok (.invokevirtual 190, 3) := by decide +kernel
theorem dX6_told_129 : decode cX6_told 129 = .ok (.ireturn, 1) := by decide +kernel
theorem dX6_told_130 : decode cX6_told 130 = .ok (.aload_n 0, 1) := by decide +kernel
theorem dX6_told_131 : decode cX6_told 131 = .ok (.iload_n 1, 1) := by decide +kernel
theorem dX6_told_132 : decode cX6_told 132 = .ok (.invokevirtual 193, 3) := by decide +kernel
theorem dX6_told_135 : decode cX6_told 135 = .ok (.ireturn, 1) := by decide +kernel
theorem dX6_told_136 : decode cX6_told 136 = .ok (.aload_n 0, 1) := by decide +kernel
theorem dX6_told_137 : decode cX6_told 137 = .ok (.getfield 22, 3) := by decide +kernel
theorem dX6_told_140 : decode cX6_told 140 = .ok (.iload_n 1, 1) := by decide +kernel
theorem dX6_told_141 : decode cX6_told 141 = .ok (.iaload, 1) := by decide +kernel
theorem dX6_told_142 : decode cX6_told 142 = .ok (.ireturn, 1) := by decide +kernel
theorem dX6_told_143 : decode cX6_told 143 = .ok (.sipush (-7000), 3) := by decide +kernel
theorem dX6_told_146 : decode cX6_told 146 = .ok (.ireturn, 1) := by decide +kernel
theorem dX6_knit_0 : decode cX6_knit 0 = .ok (.iload_n 1, 1) := by decide +kernel
theorem dX6_knit_1 : decode cX6_knit 1 = .ok (.iconst 0, 1) := by decide +kernel
theorem dX6_knit_2 : decode cX6_knit 2 = .ok (.iconst 3, 1) := by decide +kernel
theorem dX6_knit_3 : decode cX6_knit 3 = .ok (.invokestatic 79, 3) := by decide +kernel
theorem dX6_knit_6 : decode cX6_knit 6 = .ok (.ifCond .ne 6, 3) := by decide +kernel
theorem dX6_knit_9 : decode cX6_knit 9 = .ok (.bipush (-2), 2) := by decide +kernel
theorem dX6_knit_11 : decode cX6_knit 11 = .ok (.ireturn, 1) := by decide +kernel
theorem dX6_knit_12 : decode cX6_knit 12 = .ok (.aload_n 0, 1) := by decide +kernel
theorem dX6_knit_13 : decode cX6_knit 13 = .ok (.getfield 40, 3) := by decide +kernel
theorem dX6_knit_16 : decode cX6_knit 16 = .ok (.iload_n 1, 1) := by decide +kernel
theorem dX6_knit_17 : decode cX6_knit 17 = .ok (.iaload, 1) := by decide +kernel
theorem dX6_knit_18 : decode cX6_knit 18 = .ok (.iconst (-1), 1) := by decide +kernel
theorem dX6_knit_19 : decode cX6_knit 19 = .ok (.if_icmp .ne 6, 3) := by decide +kernel
theorem dX6_knit_22 : decode cX6_knit 22 = .ok (.bipush (-11), 2) := by decide +kernel
theorem dX6_knit_24 : decode cX6_knit 24 = .ok (.ireturn, 1) := by decide +kernel
theorem dX6_knit_25 : decode cX6_knit 25 = .ok (.aload_n 0, 1) := by decide +kernel
theorem dX6_knit_26 : decode cX6_knit 26 = .ok (.getfield 43, 3) := by decide +kernel
theorem dX6_knit_29 : decode cX6_knit 29 = .ok (.iload_n 1, 1) := by decide +kernel
theorem dX6_knit_30 : decode cX6_knit 30 = .ok (.iaload, 1) := by decide +kernel
theorem dX6_knit_31 : decode cX6_knit 31 = .ok (.istore_n 3, 1) := by decide +kernel
theorem dX6_knit_32 : decode cX6_knit 32 = .ok (.iload_n 3, 1) := by decide +kernel
theorem dX6_knit_33 : decode cX6_knit 33 = .ok (.iconst 1, 1) := by decide +kernel
theorem dX6_knit_34 : decode cX6_knit 34 = .ok (.bipush 16, 2) := by decide +kernel
theorem dX6_knit_36 : decode cX6_knit 36 = .ok (.invokestatic 79, 3) := by decide +kernel
theorem dX6_knit_39 : decode cX6_knit 39 = .ok (.istore 4, 2) := by decide +kernel
theorem dX6_knit_41 : decode cX6_knit 41 = .ok (.iconst 0, 1) := by decide +kernel
theorem dX6_knit_42 : decode cX6_knit 42 = .ok (.istore 5, 2) := by decide +kernel
theorem dX6_knit_44 : decode cX6_knit 44 = .ok (.iload 5, 2) := by decide +kernel
theorem dX6_knit_46 : decode cX6_knit 46 = .ok (.iload_n 3, 1) := by decide +kernel
theorem dX6_knit_47 : decode cX6_knit 47 = .ok (.if_icmp .ge 33, 3) := by decide +kernel
theorem dX6_knit_50 : decode cX6_knit 50 = .ok (.iload 4, 2) := by decide +kernel
theorem dX6_knit_52 : decode cX6_knit 52 = .ok (.ifCond .eq 28, 3) := by decide +kernel
theorem dX6_knit_55 : decode cX6_knit 55 = .ok (.aload_n 0, 1) := by decide +kernel
theorem dX6_knit_56 : decode cX6_knit 56 = .ok (.getfield 46, 3) := by decide +kernel
theorem dX6_knit_59 : decode cX6_knit 59 = .ok (.bipush 40, 2) := by decide +kernel
theorem dX6_knit_61 : decode cX6_knit 61 = .ok (.iload_n 1, 1) := by decide +kernel
theorem dX6_knit_62 : decode cX6_knit 62 = .ok (.imul, 1) := by decide +kernel
theorem dX6_knit_63 : decode cX6_knit 63 = .ok (.iload 5, 2) := by decide +kernel
theorem dX6_knit_65 : decode cX6_knit 65 = .ok (.iadd, 1) := by decide +kernel
theorem dX6_knit_66 : decode cX6_knit 66 = .ok (.iaload, 1) := by decide +kernel
theorem dX6_knit_67 : decode cX6_knit 67 = .ok (.iconst 0, 1) := by decide +kernel
theorem dX6_knit_68 : decode cX6_knit 68 = .ok (.iconst 4, 1) := by decide +kernel
theorem dX6_knit_69 : decode cX6_knit 69 = .ok (.invokestatic 79, 3) := by decide +kernel
theorem dX6_knit_72 : decode cX6_knit 72 = .ok (.istore 4, 2) := by decide +kernel
theorem dX6_knit_74 : decode cX6_knit 74 = .ok (.iinc 5 1, 3) := by decide +kernel
theorem dX6_knit_77 : decode cX6_knit 77 = .ok (.goto (-33), 3) := by decide +kernel
theorem dX6_knit_80 : decode cX6_knit 80 = .ok (.iload 4, 2) := by decide +kernel
theorem dX6_knit_82 : decode cX6_knit 82 = .ok (.ifCond .ne 6, 3) := by decide +kernel
theorem dX6_knit_85 : decode cX6_knit 85 = .ok (.bipush (-2), 2) := by decide +kernel
theorem dX6_knit_87 : decode cX6_knit 87 = .ok (.ireturn, 1) := by decide +kernel
theorem dX6_knit_88 : decode cX6_knit 88 = .ok (.aload_n 0, 1) := by decide +kernel
theorem dX6_knit_89 : decode cX6_knit 89 = .ok (.iload_n 2, 1) := by decide +kernel
theorem dX6_knit_90 : decode cX6_knit 90 = .ok (.invokevirtual 181, 3) := by decide +kernel
theorem dX6_knit_93 : decode cX6_knit 93 = .ok (.ifCond .ne 6, 3) := by decide +kernel
theorem dX6_knit_96 : decode cX6_knit 96 = .ok (.bipush (-5), 2) := by decide +kernel
theorem dX6_knit_98 : decode cX6_knit 98 = .ok (.ireturn, 1) := by decide +kernel
theorem dX6_knit_99 : decode cX6_knit 99 = .ok (.iconst 0, 1) := by decide +kernel
theorem dX6_knit_100 : decode cX6_knit 100 = .ok (.istore 5, 2) := by decide +kernel
theorem dX6_knit_102 : decode cX6_knit 102 = .ok (.iload 5, 2) := by decide +kernel
theorem dX6_knit_104 : decode cX6_knit 104 = .ok (.iload_n 3, 1) := by decide +kernel
theorem dX6_knit_105 : decode cX6_knit 105 = .ok (.if_icmp .ge 40, 3) := by decide +kernel
theorem dX6_knit_108 : decode cX6_knit 108 = .ok (.iload 5, 2) := by decide +kernel
theorem dX6_knit_110 : decode cX6_knit 110 = .ok (.bipush 16, 2) := by decide +kernel
theorem dX6_knit_112 : decode cX6_knit 112 = .ok (.if_icmp .ge 33, 3) := by decide +kernel
theorem dX6_knit_115 : decode cX6_knit 115 = .ok (.aload_n 0, 1) := by decide +kernel
theorem dX6_knit_116 : decode cX6_knit 116 = .ok (.getfield 19, 3) := by decide +kernel
theorem dX6_knit_119 : decode cX6_knit 119 = .ok (.bipush 16, 2) := by decide +kernel
theorem dX6_knit_121 : decode cX6_knit 121 = .ok (.iload_n 2, 1) := by decide +kernel
theorem dX6_knit_122 : decode cX6_knit 122 = .ok (.imul, 1) := by decide +kernel
theorem dX6_knit_123 : decode cX6_knit 123 = .ok (.iload 5, 2) := by decide +kernel
theorem dX6_knit_125 : decode cX6_knit 125 = .ok (.iadd, 1) := by decide +kernel
theorem dX6_knit_126 : decode cX6_knit 126 = .ok (.aload_n 0, 1) := by decide +kernel
theorem dX6_knit_127 : decode cX6_knit 127 = .ok (.getfield 46, 3) := by decide +kernel
theorem dX6_knit_130 : decode cX6_knit 130 = .ok (.bipush 40, 2) := by decide +kernel
theorem dX6_knit_132 : decode cX6_knit 132 = .ok (.iload_n 1, 1) := by decide +kernel
theorem dX6_knit_133 : decode cX6_knit 133 = .ok (.imul, 1) := by decide +kernel
theorem dX6_knit_134 : decode cX6_knit 134 = .ok (.iload 5, 2) := by decide +kernel
theorem dX6_knit_136 : decode cX6_knit 136 = .ok (.iadd, 1) := by decide +kernel
theorem dX6_knit_137 : decode cX6_knit 137 = .ok (.iaload, 1) := by decide +kernel
theorem dX6_knit_138 : decode cX6_knit 138 = .ok (.iastore, 1) := by decide +kernel
theorem dX6_knit_139 : decode cX6_knit 139 = .ok (.iinc 5 1, 3) := by decide +kernel
theorem dX6_knit_142 : decode cX6_knit 142 = .ok (.goto (-40), 3) := by decide +kernel
theorem dX6_knit_145 : decode cX6_knit 145 = .ok (.aload_n 0, 1) := by decide +kernel
theorem dX6_knit_146 : decode cX6_knit 146 = .ok (.getfield 22, 3) := by decide +kernel
theorem dX6_knit_149 : decode cX6_knit 149 = .ok (.iload_n 2, 1) := by decide +kernel
theorem dX6_knit_150 : decode cX6_knit 150 = .ok (.iload_n 3, 1) := by decide +kernel
theorem dX6_knit_151 : decode cX6_knit 151 = .ok (.iastore, 1) := by decide +kernel
theorem dX6_knit_152 : decode cX6_knit 152 = .ok (.aload_n 0, 1) := by decide +kernel
theorem dX6_knit_153 : decode cX6_knit 153 = .ok (.getfield 16, 3) := by decide +kernel
theorem dX6_knit_156 : decode cX6_knit 156 = .ok (.iconst 5, 1) := by decide +kernel
theorem dX6_knit_157 : decode cX6_knit 157 = .ok (.iload_n 2, 1) := by decide +kernel
theorem dX6_knit_158 : decode cX6_knit 158 = .ok (.imul, 1) := by decide +kernel
theorem dX6_knit_159 : decode cX6_knit 159 = .ok (.iconst 2, 1) := by decide +kernel
theorem dX6_knit_160 : decode cX6_knit 160 = .ok (.iadd, 1) := by decide +kernel
theorem dX6_knit_161 : decode cX6_knit 161 = .ok (.iconst 0, 1) := by decide +kernel
theorem dX6_knit_162 : decode cX6_knit 162 = .ok (.iastore, 1) := by decide +kernel
theorem dX6_knit_163 : decode cX6_knit 163 = .ok (.iload_n 3, 1) := by decide +kernel
theorem dX6_knit_164 : decode cX6_knit 164 = .ok (.ireturn, 1) := by decide +kernel
theorem dX6_darn_0 : decode cX6_darn 0 = .ok (.aload_n 0, 1) := by decide +kernel
theorem dX6_darn_1 : decode cX6_darn 1 = .ok (.iload_n 1, 1) := by decide +kernel
theorem dX6_darn_2 : decode cX6_darn 2 = .ok (.invokevirtual 181, 3) := by decide +kernel
theorem dX6_darn_5 : decode cX6_darn 5 = .ok (.ifCond .ne 6, 3) := by decide +kernel
theorem dX6_darn_8 : decode cX6_darn 8 = .ok (.bipush (-5), 2) := by decide +kernel
theorem dX6_darn_10 : decode cX6_darn 10 = .ok (.ireturn, 1) := by decide +kernel
theorem dX6_darn_11 : decode cX6_darn 11 = .ok (.iload_n 2, 1) := by decide +kernel
theorem dX6_darn_12 : decode cX6_darn 12 = .ok (.iconst 0, 1) := by decide +kernel
theorem dX6_darn_13 : decode cX6_darn 13 = .ok (.aload_n 0, 1) := by decide +kernel
theorem dX6_darn_14 : decode cX6_darn 14 = .ok (.getfield 22, 3) := by decide +kernel
theorem dX6_darn_17 : decode cX6_darn 17 = .ok (.iload_n 1, 1) := by decide +kernel
theorem dX6_darn_18 : decode cX6_darn 18 = .ok (.iaload, 1) := by decide +kernel
theorem dX6_darn_19 : decode cX6_darn 19 = .ok (.iconst 1, 1) := by decide +kernel
theorem dX6_darn_20 : decode cX6_darn 20 = .ok (.isub, 1) := by decide +kernel
theorem dX6_darn_21 : decode cX6_darn 21 = .ok (.invokestatic 79, 3) := by decide +kernel
theorem dX6_darn_24 : decode cX6_darn 24 = .ok (.ifCond .eq 12, 3) := by decide +kernel
theorem dX6_darn_27 : decode cX6_darn 27 = .ok (.iload_n 3, 1) := by decide +kernel
theorem dX6_darn_28 : decode cX6_darn 28 = .ok (.iconst 0, 1) := by decide +kernel
theorem dX6_darn_29 : decode cX6_darn 29 = .ok (.iconst 4, 1) := by decide +kernel
theorem dX6_darn_30 : decode cX6_darn 30 = .ok (.invokestatic 79, 3) := by decide +kernel
theorem dX6_darn_33 : decode cX6_darn 33 = .ok (.ifCond .ne 6, 3) := by decide +kernel
theorem dX6_darn_36 : decode cX6_darn 36 = .ok (.bipush (-7), 2) := by decide +kernel
theorem dX6_darn_38 : decode cX6_darn 38 = .ok (.ireturn, 1) := by decide +kernel
theorem dX6_darn_39 : decode cX6_darn 39 = .ok (.aload_n 0, 1) := by decide +kernel
theorem dX6_darn_40 : decode cX6_darn 40 = .ok (.getfield 19, 3) := by decide +kernel
theorem dX6_darn_43 : decode cX6_darn 43 = .ok (.bipush 16, 2) := by decide +kernel
theorem dX6_darn_45 : decode cX6_darn 45 = .ok (.iload_n 1, 1) := by decide +kernel
theorem dX6_darn_46 : decode cX6_darn 46 = .ok (.imul, 1) := by decide +kernel
theorem dX6_darn_47 : decode cX6_darn 47 = .ok (.iload_n 2, 1) := by decide +kernel
theorem dX6_darn_48 : decode cX6_darn 48 = .ok (.iadd, 1) := by decide +kernel
theorem dX6_darn_49 : decode cX6_darn 49 = .ok (.iaload, 1) := by decide +kernel
theorem dX6_darn_50 : decode cX6_darn 50 = .ok (.istore 4, 2) := by decide +kernel
theorem dX6_darn_52 : decode cX6_darn 52 = .ok (.aload_n 0, 1) := by decide +kernel
theorem dX6_darn_53 : decode cX6_darn 53 = .ok (.getfield 19, 3) := by decide +kernel
theorem dX6_darn_56 : decode cX6_darn 56 = .ok (.bipush 16, 2) := by decide +kernel
theorem dX6_darn_58 : decode cX6_darn 58 = .ok (.iload_n 1, 1) := by decide +kernel
theorem dX6_darn_59 : decode cX6_darn 59 = .ok (.imul, 1) := by decide +kernel
