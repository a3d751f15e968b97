/-! instructions of Mod (written by wip/whole/gen_dec.py) -/
theorem e_Mod_init_0 : decode M_Mod_init.2.1 0 = .ok (.aload_n 0, 1) := by decide +kernel
theorem e_Mod_init_1 : decode M_Mod_init.2.1 1 = .ok (.invokespecial 3, 3) := by decide +kernel
theorem e_Mod_init_4 : decode M_Mod_init.2.1 4 = .ok (.aload_n 0, 1) := by decide +kernel
theorem e_Mod_init_5 : decode M_Mod_init.2.1 5 = .ok (.sipush 18060, 3) := by decide +kernel
theorem e_Mod_init_8 : decode M_Mod_init.2.1 8 = .ok (.newarray .int, 2) := by decide +kernel
theorem e_Mod_init_10 : decode M_Mod_init.2.1 10 = .ok (.putfield 9, 3) := by decide +kernel
theorem e_Mod_init_13 : decode M_Mod_init.2.1 13 = .ok (.aload_n 0, 1) := by decide +kernel
theorem e_Mod_init_14 : decode M_Mod_init.2.1 14 = .ok (.bipush 10, 2) := by decide +kernel
theorem e_Mod_init_16 : decode M_Mod_init.2.1 16 = .ok (.newarray .int, 2) := by decide +kernel
theorem e_Mod_init_18 : decode M_Mod_init.2.1 18 = .ok (.putfield 13, 3) := by decide +kernel
theorem e_Mod_init_21 : decode M_Mod_init.2.1 21 = .ok (.aload_n 0, 1) := by decide +kernel
theorem e_Mod_init_22 : decode M_Mod_init.2.1 22 = .ok (.bipush 10, 2) := by decide +kernel
theorem e_Mod_init_24 : decode M_Mod_init.2.1 24 = .ok (.newarray .int, 2) := by decide +kernel
theorem e_Mod_init_26 : decode M_Mod_init.2.1 26 = .ok (.putfield 16, 3) := by decide +kernel
theorem e_Mod_init_29 : decode M_Mod_init.2.1 29 = .ok (.aload_n 0, 1) := by decide +kernel
theorem e_Mod_init_30 : decode M_Mod_init.2.1 30 = .ok (.bipush 10, 2) := by decide +kernel
theorem e_Mod_init_32 : decode M_Mod_init.2.1 32 = .ok (.newarray .int, 2) := by decide +kernel
theorem e_Mod_init_34 : decode M_Mod_init.2.1 34 = .ok (.putfield 19, 3) := by decide +kernel
theorem e_Mod_init_37 : decode M_Mod_init.2.1 37 = .ok (.aload_n 0, 1) := by decide +kernel
theorem e_Mod_init_38 : decode M_Mod_init.2.1 38 = .ok (.bipush 10, 2) := by decide +kernel
theorem e_Mod_init_40 : decode M_Mod_init.2.1 40 = .ok (.newarray .int, 2) := by decide +kernel
theorem e_Mod_init_42 : decode M_Mod_init.2.1 42 = .ok (.putfield 22, 3) := by decide +kernel
theorem e_Mod_init_45 : decode M_Mod_init.2.1 45 = .ok (.aload_n 0, 1) := by decide +kernel
theorem e_Mod_init_46 : decode M_Mod_init.2.1 46 = .ok (.bipush 10, 2) := by decide +kernel
theorem e_Mod_init_48 : decode M_Mod_init.2.1 48 = .ok (.newarray .int, 2) := by decide +kernel
theorem e_Mod_init_50 : decode M_Mod_init.2.1 50 = .ok (.putfield 25, 3) := by decide +kernel
theorem e_Mod_init_53 : decode M_Mod_init.2.1 53 = .ok (.aload_n 0, 1) := by decide +kernel
theorem e_Mod_init_54 : decode M_Mod_init.2.1 54 = .ok (.bipush 10, 2) := by decide +kernel
theorem e_Mod_init_56 : decode M_Mod_init.2.1 56 = .ok (.newarray .int, 2) := by decide +kernel
theorem e_Mod_init_58 : decode M_Mod_init.2.1 58 = .ok (.putfield 28, 3) := by decide +kernel
theorem e_Mod_init_61 : decode M_Mod_init.2.1 61 = .ok (.aload_n 0, 1) := by decide +kernel
theorem e_Mod_init_62 : decode M_Mod_init.2.1 62 = .ok (.bipush 10, 2) := by decide +kernel
theorem e_Mod_init_64 : decode M_Mod_init.2.1 64 = .ok (.newarray .int, 2) := by decide +kernel
theorem e_Mod_init_66 : decode M_Mod_init.2.1 66 = .ok (.putfield 31, 3) := by decide +kernel
theorem e_Mod_init_69 : decode M_Mod_init.2.1 69 = .ok (.aload_n 0, 1) := by decide +kernel
theorem e_Mod_init_70 : decode M_Mod_init.2.1 70 = .ok (.bipush 12, 2) := by decide +kernel
theorem e_Mod_init_72 : decode M_Mod_init.2.1 72 = .ok (.newarray .int, 2) := by decide +kernel
theorem e_Mod_init_74 : decode M_Mod_init.2.1 74 = .ok (.putfield 34, 3) := by decide +kernel
theorem e_Mod_init_77 : decode M_Mod_init.2.1 77 = .ok (.aload_n 0, 1) := by decide +kernel
theorem e_Mod_init_78 : decode M_Mod_init.2.1 78 = .ok (.bipush 12, 2) := by decide +kernel
theorem e_Mod_init_80 : decode M_Mod_init.2.1 80 = .ok (.newarray .int, 2) := by decide +kernel
theorem e_Mod_init_82 : decode M_Mod_init.2.1 82 = .ok (.putfield 37, 3) := by decide +kernel
theorem e_Mod_init_85 : decode M_Mod_init.2.1 85 = .ok (.aload_n 0, 1) := by decide +kernel
theorem e_Mod_init_86 : decode M_Mod_init.2.1 86 = .ok (.bipush 12, 2) := by decide +kernel
theorem e_Mod_init_88 : decode M_Mod_init.2.1 88 = .ok (.newarray .int, 2) := by decide +kernel
theorem e_Mod_init_90 : decode M_Mod_init.2.1 90 = .ok (.putfield 40, 3) := by decide +kernel
theorem e_Mod_init_93 : decode M_Mod_init.2.1 93 = .ok (.aload_n 0, 1) := by decide +kernel
theorem e_Mod_init_94 : decode M_Mod_init.2.1 94 = .ok (.iconst 4, 1) := by decide +kernel
theorem e_Mod_init_95 : decode M_Mod_init.2.1 95 = .ok (.newarray .int, 2) := by decide +kernel
theorem e_Mod_init_97 : decode M_Mod_init.2.1 97 = .ok (.putfield 43, 3) := by decide +kernel
theorem e_Mod_init_100 : decode M_Mod_init.2.1 100 = .ok (.aload_n 0, 1) := by decide +kernel
theorem e_Mod_init_101 : decode M_Mod_init.2.1 101 = .ok (.iconst 4, 1) := by decide +kernel
theorem e_Mod_init_102 : decode M_Mod_init.2.1 102 = .ok (.newarray .int, 2) := by decide +kernel
theorem e_Mod_init_104 : decode M_Mod_init.2.1 104 = .ok (.putfield 46, 3) := by decide +kernel
theorem e_Mod_init_107 : decode M_Mod_init.2.1 107 = .ok (.aload_n 0, 1) := by decide +kernel
theorem e_Mod_init_108 : decode M_Mod_init.2.1 108 = .ok (.iconst 4, 1) := by decide +kernel
theorem e_Mod_init_109 : decode M_Mod_init.2.1 109 = .ok (.newarray .int, 2) := by decide +kernel
theorem e_Mod_init_111 : decode M_Mod_init.2.1 111 = .ok (.putfield 49, 3) := by decide +kernel
theorem e_Mod_init_114 : decode M_Mod_init.2.1 114 = .ok (.aload_n 0, 1) := by decide +kernel
theorem e_Mod_init_115 : decode M_Mod_init.2.1 115 = .ok (.bipush 12, 2) := by decide +kernel
theorem e_Mod_init_117 : decode M_Mod_init.2.1 117 = .ok (.newarray .int, 2) := by decide +kernel
theorem e_Mod_init_119 : decode M_Mod_init.2.1 119 = .ok (.putfield 52, 3) := by decide +kernel
theorem e_Mod_init_122 : decode M_Mod_init.2.1 122 = .ok (.aload_n 0, 1) := by decide +kernel
theorem e_Mod_init_123 : decode M_Mod_init.2.1 123 = .ok (.bipush 12, 2) := by decide +kernel
theorem e_Mod_init_125 : decode M_Mod_init.2.1 125 = .ok (.newarray .int, 2) := by decide +kernel
theorem e_Mod_init_127 : decode M_Mod_init.2.1 127 = .ok (.putfield 55, 3) := by decide +kernel
theorem e_Mod_init_130 : decode M_Mod_init.2.1 130 = .ok (.aload_n 0, 1) := by decide +kernel
theorem e_Mod_init_131 : decode M_Mod_init.2.1 131 = .ok (.bipush 12, 2) := by decide +kernel
theorem e_Mod_init_133 : decode M_Mod_init.2.1 133 = .ok (.newarray .int, 2) := by decide +kernel
theorem e_Mod_init_135 : decode M_Mod_init.2.1 135 = .ok (.putfield 58, 3) := by decide +kernel
theorem e_Mod_init_138 : decode M_Mod_init.2.1 138 = .ok (.aload_n 0, 1) := by decide +kernel
theorem e_Mod_init_139 : decode M_Mod_init.2.1 139 = .ok (.bipush 6, 2) := by decide +kernel
theorem e_Mod_init_141 : decode M_Mod_init.2.1 141 = .ok (.newarray .int, 2) := by decide +kernel
theorem e_Mod_init_143 : decode M_Mod_init.2.1 143 = .ok (.putfield 61, 3) := by decide +kernel
theorem e_Mod_init_146 : decode M_Mod_init.2.1 146 = .ok (.aload_n 0, 1) := by decide +kernel
theorem e_Mod_init_147 : decode M_Mod_init.2.1 147 = .ok (.iconst 2, 1) := by decide +kernel
theorem e_Mod_init_148 : decode M_Mod_init.2.1 148 = .ok (.putfield 64, 3) := by decide +kernel
theorem e_Mod_init_151 : decode M_Mod_init.2.1 151 = .ok (.aload_n 0, 1) := by decide +kernel
theorem e_Mod_init_152 : decode M_Mod_init.2.1 152 = .ok (.iconst 3, 1) := by decide +kernel
theorem e_Mod_init_153 : decode M_Mod_init.2.1 153 = .ok (.putfield 68, 3) := by decide +kernel
theorem e_Mod_init_156 : decode M_Mod_init.2.1 156 = .ok (.aload_n 0, 1) := by decide +kernel
theorem e_Mod_init_157 : decode M_Mod_init.2.1 157 = .ok (.iconst 2, 1) := by decide +kernel
theorem e_Mod_init_158 : decode M_Mod_init.2.1 158 = .ok (.putfield 71, 3) := by decide +kernel
theorem e_Mod_init_161 : decode M_Mod_init.2.1 161 = .ok (.aload_n 0, 1) := by decide +kernel
theorem e_Mod_init_162 : decode M_Mod_init.2.1 162 = .ok (.sipush 900, 3) := by decide +kernel
theorem e_Mod_init_165 : decode M_Mod_init.2.1 165 = .ok (.newarray .int, 2) := by decide +kernel
theorem e_Mod_init_167 : decode M_Mod_init.2.1 167 = .ok (.putfield 74, 3) := by decide +kernel
theorem e_Mod_init_170 : decode M_Mod_init.2.1 170 = .ok (.aload_n 0, 1) := by decide +kernel
theorem e_Mod_init_171 : decode M_Mod_init.2.1 171 = .ok (.iconst (-1), 1) := by decide +kernel
theorem e_Mod_init_172 : decode M_Mod_init.2.1 172 = .ok (.putfield 77, 3) := by decide +kernel
theorem e_Mod_init_175 : decode M_Mod_init.2.1 175 = .ok (.aload_n 0, 1) := by decide +kernel
theorem e_Mod_init_176 : decode M_Mod_init.2.1 176 = .ok (.bipush 10, 2) := by decide +kernel
theorem e_Mod_init_178 : decode M_Mod_init.2.1 178 = .ok (.newarray .int, 2) := by decide +kernel
theorem e_Mod_init_180 : decode M_Mod_init.2.1 180 = .ok (.putfield 80, 3) := by decide +kernel
theorem e_Mod_init_183 : decode M_Mod_init.2.1 183 = .ok (.aload_n 0, 1) := by decide +kernel
theorem e_Mod_init_184 : decode M_Mod_init.2.1 184 = .ok (.bipush 10, 2) := by decide +kernel
theorem e_Mod_init_186 : decode M_Mod_init.2.1 186 = .ok (.newarray .int, 2) := by decide +kernel
theorem e_Mod_init_188 : decode M_Mod_init.2.1 188 = .ok (.putfield 83, 3) := by decide +kernel
theorem e_Mod_init_191 : decode M_Mod_init.2.1 191 = .ok (.aload_n 0, 1) := by decide +kernel
theorem e_Mod_init_192 : decode M_Mod_init.2.1 192 = .ok (.bipush 10, 2) := by decide +kernel
theorem e_Mod_init_194 : decode M_Mod_init.2.1 194 = .ok (.newarray .int, 2) := by decide +kernel
theorem e_Mod_init_196 : decode M_Mod_init.2.1 196 = .ok (.putfield 86, 3) := by decide +kernel
theorem e_Mod_init_199 : decode M_Mod_init.2.1 199 = .ok (.aload_n 0, 1) := by decide +kernel
theorem e_Mod_init_200 : decode M_Mod_init.2.1 200 = .ok (.bipush 12, 2) := by decide +kernel
theorem e_Mod_init_202 : decode M_Mod_init.2.1 202 = .ok (.newarray .int, 2) := by decide +kernel
theorem e_Mod_init_204 : decode M_Mod_init.2.1 204 = .ok (.putfield 89, 3) := by decide +kernel
theorem e_Mod_init_207 : decode M_Mod_init.2.1 207 = .ok (.aload_n 0, 1) := by decide +kernel
theorem e_Mod_init_208 : decode M_Mod_init.2.1 208 = .ok (.bipush 12, 2) := by decide +kernel
theorem e_Mod_init_210 : decode M_Mod_init.2.1 210 = .ok (.newarray .int, 2) := by decide +kernel
theorem e_Mod_init_212 : decode M_Mod_init.2.1 212 = .ok (.putfield 92, 3) := by decide +kernel
theorem e_Mod_init_215 : decode M_Mod_init.2.1 215 = .ok (.aload_n 0, 1) := by decide +kernel
theorem e_Mod_init_216 : decode M_Mod_init.2.1 216 = .ok (.iconst 5, 1) := by decide +kernel
theorem e_Mod_init_217 : decode M_Mod_init.2.1 217 = .ok (.newarray .int, 2) := by decide +kernel
theorem e_Mod_init_219 : decode M_Mod_init.2.1 219 = .ok (.putfield 95, 3) := by decide +kernel
theorem e_Mod_init_222 : decode M_Mod_init.2.1 222 = .ok (.aload_n 0, 1) := by decide +kernel
theorem e_Mod_init_223 : decode M_Mod_init.2.1 223 = .ok (.bipush 10, 2) := by decide +kernel
theorem e_Mod_init_225 : decode M_Mod_init.2.1 225 = .ok (.newarray .boolean, 2) := by decide +kernel
theorem e_Mod_init_227 : decode M_Mod_init.2.1 227 = .ok (.putfield 98, 3) := by decide +kernel
theorem e_Mod_init_230 : decode M_Mod_init.2.1 230 = .ok (.aload_n 0, 1) := by decide +kernel
theorem e_Mod_init_231 : decode M_Mod_init.2.1 231 = .ok (.sipush 1000, 3) := by decide +kernel
theorem e_Mod_init_234 : decode M_Mod_init.2.1 234 = .ok (.newarray .boolean, 2) := by decide +kernel
theorem e_Mod_init_236 : decode M_Mod_init.2.1 236 = .ok (.putfield 102, 3) := by decide +kernel
theorem e_Mod_init_239 : decode M_Mod_init.2.1 239 = .ok (.aload_n 0, 1) := by decide +kernel
theorem e_Mod_init_240 : decode M_Mod_init.2.1 240 = .ok (.iconst (-1), 1) := by decide +kernel
theorem e_Mod_init_241 : decode M_Mod_init.2.1 241 = .ok (.putfield 105, 3) := by decide +kernel
theorem e_Mod_init_244 : decode M_Mod_init.2.1 244 = .ok (.aload_n 0, 1) := by decide +kernel
theorem e_Mod_init_245 : decode M_Mod_init.2.1 245 = .ok (.bipush 10, 2) := by decide +kernel
theorem e_Mod_init_247 : decode M_Mod_init.2.1 247 = .ok (.newarray .int, 2) := by decide +kernel
theorem e_Mod_init_249 : decode M_Mod_init.2.1 249 = .ok (.putfield 108, 3) := by decide +kernel
theorem e_Mod_init_252 : decode M_Mod_init.2.1 252 = .ok (.aload_n 0, 1) := by decide +kernel
theorem e_Mod_init_253 : decode M_Mod_init.2.1 253 = .ok (.bipush 10, 2) := by decide +kernel
theorem e_Mod_init_255 : decode M_Mod_init.2.1 255 = .ok (.newarray .int, 2) := by decide +kernel
theorem e_Mod_init_257 : decode M_Mod_init.2.1 257 = .ok (.putfield 111, 3) := by decide +kernel
theorem e_Mod_init_260 : decode M_Mod_init.2.1 260 = .ok (.aload_n 0, 1) := by decide +kernel
theorem e_Mod_init_261 : decode M_Mod_init.2.1 261 = .ok (.bipush 10, 2) := by decide +kernel
theorem e_Mod_init_263 : decode M_Mod_init.2.1 263 = .ok (.newarray .int, 2) := by decide +kernel
theorem e_Mod_init_265 : decode M_Mod_init.2.1 265 = .ok (.putfield 114, 3) := by decide +kernel
theorem e_Mod_init_268 : decode M_Mod_init.2.1 268 = .ok (.aload_n 0, 1) := by decide +kernel
theorem e_Mod_init_269 : decode M_Mod_init.2.1 269 = .ok (.bipush 10, 2) := by decide +kernel
theorem e_Mod_init_271 : decode M_Mod_init.2.1 271 = .ok (.newarray .int, 2) := by decide +kernel
theorem e_Mod_init_273 : decode M_Mod_init.2.1 273 = .ok (.putfield 117, 3) := by decide +kernel
theorem e_Mod_init_276 : decode M_Mod_init.2.1 276 = .ok (.aload_n 0, 1) := by decide +kernel
theorem e_Mod_init_277 : decode M_Mod_init.2.1 277 = .ok (.bipush 10, 2) := by decide +kernel
theorem e_Mod_init_279 : decode M_Mod_init.2.1 279 = .ok (.newarray .int, 2) := by decide +kernel
theorem e_Mod_init_281 : decode M_Mod_init.2.1 281 = .ok (.putfield 120, 3) := by decide +kernel
theorem e_Mod_init_284 : decode M_Mod_init.2.1 284 = .ok (.aload_n 0, 1) := by decide +kernel
theorem e_Mod_init_285 : decode M_Mod_init.2.1 285 = .ok (.bipush 10, 2) := by decide +kernel
theorem e_Mod_init_287 : decode M_Mod_init.2.1 287 = .ok (.newarray .int, 2) := by decide +kernel
theorem e_Mod_init_289 : decode M_Mod_init.2.1 289 = .ok (.putfield 123, 3) := by decide +kernel
theorem e_Mod_init_292 : decode M_Mod_init.2.1 292 = .ok (.aload_n 0, 1) := by decide +kernel
theorem e_Mod_init_293 : decode M_Mod_init.2.1 293 = .ok (.bipush 10, 2) := by decide +kernel
theorem e_Mod_init_295 : decode M_Mod_init.2.1 295 = .ok (.newarray .int, 2) := by decide +kernel
theorem e_Mod_init_297 : decode M_Mod_init.2.1 297 = .ok (.putfield 126, 3) := by decide +kernel
theorem e_Mod_init_300 : decode M_Mod_init.2.1 300 = .ok (.aload_n 0, 1) := by decide +kernel
theorem e_Mod_init_301 : decode M_Mod_init.2.1 301 = .ok (.bipush 12, 2) := by decide +kernel
theorem e_Mod_init_303 : decode M_Mod_init.2.1 303 = .ok (.newarray .int, 2) := by decide +kernel
theorem e_Mod_init_305 : decode M_Mod_init.2.1 305 = .ok (.putfield 129, 3) := by decide +kernel
theorem e_Mod_init_308 : decode M_Mod_init.2.1 308 = .ok (.aload_n 0, 1) := by decide +kernel
theorem e_Mod_init_309 : decode M_Mod_init.2.1 309 = .ok (.bipush 12, 2) := by decide +kernel
theorem e_Mod_init_311 : decode M_Mod_init.2.1 311 = .ok (.newarray .int, 2) := by decide +kernel
theorem e_Mod_init_313 : decode M_Mod_init.2.1 313 = .ok (.putfield 132, 3) := by decide +kernel
theorem e_Mod_init_316 : decode M_Mod_init.2.1 316 = .ok (.aload_n 0, 1) := by decide +kernel
theorem e_Mod_init_317 : decode M_Mod_init.2.1 317 = .ok (.bipush 12, 2) := by decide +kernel
theorem e_Mod_init_319 : decode M_Mod_init.2.1 319 = .ok (.newarray .int, 2) := by decide +kernel
theorem e_Mod_init_321 : decode M_Mod_init.2.1 321 = .ok (.putfield 135, 3) := by decide +kernel
theorem e_Mod_init_324 : decode M_Mod_init.2.1 324 = .ok (.aload_n 0, 1) := by decide +kernel
theorem e_Mod_init_325 : decode M_Mod_init.2.1 325 = .ok (.iconst 4, 1) := by decide +kernel
theorem e_Mod_init_326 : decode M_Mod_init.2.1 326 = .ok (.newarray .int, 2) := by decide +kernel
theorem e_Mod_init_328 : decode M_Mod_init.2.1 328 = .ok (.putfield 138, 3) := by decide +kernel
theorem e_Mod_init_331 : decode M_Mod_init.2.1 331 = .ok (.aload_n 0, 1) := by decide +kernel
theorem e_Mod_init_332 : decode M_Mod_init.2.1 332 = .ok (.iconst 4, 1) := by decide +kernel
theorem e_Mod_init_333 : decode M_Mod_init.2.1 333 = .ok (.newarray .int, 2) := by decide +kernel
theorem e_Mod_init_335 : decode M_Mod_init.2.1 335 = .ok (.putfield 141, 3) := by decide +kernel
theorem e_Mod_init_338 : decode M_Mod_init.2.1 338 = .ok (.aload_n 0, 1) := by decide +kernel
theorem e_Mod_init_339 : decode M_Mod_init.2.1 339 = .ok (.iconst 4, 1) := by decide +kernel
theorem e_Mod_init_340 : decode M_Mod_init.2.1 340 = .ok (.newarray .int, 2) := by decide +kernel
theorem e_Mod_init_342 : decode M_Mod_init.2.1 342 = .ok (.putfield 144, 3) := by decide +kernel
theorem e_Mod_init_345 : decode M_Mod_init.2.1 345 = .ok (.aload_n 0, 1) := by decide +kernel
theorem e_Mod_init_346 : decode M_Mod_init.2.1 346 = .ok (.bipush 10, 2) := by decide +kernel
theorem e_Mod_init_348 : decode M_Mod_init.2.1 348 = .ok (.newarray .int, 2) := by decide +kernel
theorem e_Mod_init_350 : decode M_Mod_init.2.1 350 = .ok (.putfield 147, 3) := by decide +kernel
theorem e_Mod_init_353 : decode M_Mod_init.2.1 353 = .ok (.aload_n 0, 1) := by decide +kernel
theorem e_Mod_init_354 : decode M_Mod_init.2.1 354 = .ok (.bipush 10, 2) := by decide +kernel
theorem e_Mod_init_356 : decode M_Mod_init.2.1 356 = .ok (.newarray .int, 2) := by decide +kernel
theorem e_Mod_init_358 : decode M_Mod_init.2.1 358 = .ok (.putfield 150, 3) := by decide +kernel
theorem e_Mod_init_361 : decode M_Mod_init.2.1 361 = .ok (.iconst 0, 1) := by decide +kernel
theorem e_Mod_init_362 : decode M_Mod_init.2.1 362 = .ok (.istore_n 1, 1) := by decide +kernel
theorem e_Mod_init_363 : decode M_Mod_init.2.1 363 = .ok (.iload_n 1, 1) := by decide +kernel
theorem e_Mod_init_364 : decode M_Mod_init.2.1 364 = .ok (.iconst 4, 1) := by decide +kernel
theorem e_Mod_init_365 : decode M_Mod_init.2.1 365 = .ok (.if_icmp .ge 16, 3) := by decide +kernel
theorem e_Mod_init_368 : decode M_Mod_init.2.1 368 = .ok (.aload_n 0, 1) := by decide +kernel
theorem e_Mod_init_369 : decode M_Mod_init.2.1 369 = .ok (.getfield 43, 3) := by decide +kernel
theorem e_Mod_init_372 : decode M_Mod_init.2.1 372 = .ok (.iload_n 1, 1) := by decide +kernel
theorem e_Mod_init_373 : decode M_Mod_init.2.1 373 = .ok (.iconst (-1), 1) := by decide +kernel
theorem e_Mod_init_374 : decode M_Mod_init.2.1 374 = .ok (.iastore, 1) := by decide +kernel
theorem e_Mod_init_375 : decode M_Mod_init.2.1 375 = .ok (.iinc 1 1, 3) := by decide +kernel
theorem e_Mod_init_378 : decode M_Mod_init.2.1 378 = .ok (.goto (-15), 3) := by decide +kernel
theorem e_Mod_init_381 : decode M_Mod_init.2.1 381 = .ok (.aload_n 0, 1) := by decide +kernel
theorem e_Mod_init_382 : decode M_Mod_init.2.1 382 = .ok (.invokevirtual 153, 3) := by decide +kernel
theorem e_Mod_init_385 : decode M_Mod_init.2.1 385 = .ok (.aload_n 0, 1) := by decide +kernel
theorem e_Mod_init_386 : decode M_Mod_init.2.1 386 = .ok (.invokevirtual 156, 3) := by decide +kernel
theorem e_Mod_init_389 : decode M_Mod_init.2.1 389 = .ok (.return_, 1) := by decide +kernel
theorem e_Mod_laysCycle_0 : decode M_Mod_laysCycle.2.1 0 = .ok (.aload_n 0, 1) := by decide +kernel
theorem e_Mod_laysCycle_1 : decode M_Mod_laysCycle.2.1 1 = .ok (.aload_n 0, 1) := by decide +kernel
theorem e_Mod_laysCycle_2 : decode M_Mod_laysCycle.2.1 2 = .ok (.iconst 0, 1) := by decide +kernel
theorem e_Mod_laysCycle_3 : decode M_Mod_laysCycle.2.1 3 = .ok (.dup_x1, 1) := by decide +kernel
theorem e_Mod_laysCycle_4 : decode M_Mod_laysCycle.2.1 4 = .ok (.putfield 165, 3) := by decide +kernel
theorem e_Mod_laysCycle_7 : decode M_Mod_laysCycle.2.1 7 = .ok (.putfield 168, 3) := by decide +kernel
theorem e_Mod_laysCycle_10 : decode M_Mod_laysCycle.2.1 10 = .ok (.iconst 0, 1) := by decide +kernel
theorem e_Mod_laysCycle_11 : decode M_Mod_laysCycle.2.1 11 = .ok (.istore_n 1, 1) := by decide +kernel
theorem e_Mod_laysCycle_12 : decode M_Mod_laysCycle.2.1 12 = .ok (.iload_n 1, 1) := by decide +kernel
theorem e_Mod_laysCycle_13 : decode M_Mod_laysCycle.2.1 13 = .ok (.sipush 1000, 3) := by decide +kernel
theorem e_Mod_laysCycle_16 : decode M_Mod_laysCycle.2.1 16 = .ok (.if_icmp .ge 16, 3) := by decide +kernel
theorem e_Mod_laysCycle_19 : decode M_Mod_laysCycle.2.1 19 = .ok (.aload_n 0, 1) := by decide +kernel
theorem e_Mod_laysCycle_20 : decode M_Mod_laysCycle.2.1 20 = .ok (.getfield 102, 3) := by decide +kernel
theorem e_Mod_laysCycle_23 : decode M_Mod_laysCycle.2.1 23 = .ok (.iload_n 1, 1) := by decide +kernel
theorem e_Mod_laysCycle_24 : decode M_Mod_laysCycle.2.1 24 = .ok (.iconst 0, 1) := by decide +kernel
theorem e_Mod_laysCycle_25 : decode M_Mod_laysCycle.2.1 25 = .ok (.bastore, 1) := by decide +kernel
theorem e_Mod_laysCycle_26 : decode M_Mod_laysCycle.2.1 26 = .ok (.iinc 1 1, 3) := by decide +kernel
theorem e_Mod_laysCycle_29 : decode M_Mod_laysCycle.2.1 29 = .ok (.goto (-17), 3) := by decide +kernel
theorem e_Mod_laysCycle_32 : decode M_Mod_laysCycle.2.1 32 = .ok (.iconst 0, 1) := by decide +kernel
theorem e_Mod_laysCycle_33 : decode M_Mod_laysCycle.2.1 33 = .ok (.istore_n 1, 1) := by decide +kernel
theorem e_Mod_laysCycle_34 : decode M_Mod_laysCycle.2.1 34 = .ok (.iload_n 1, 1) := by decide +kernel
theorem e_Mod_laysCycle_35 : decode M_Mod_laysCycle.2.1 35 = .ok (.iconst 5, 1) := by decide +kernel
theorem e_Mod_laysCycle_36 : decode M_Mod_laysCycle.2.1 36 = .ok (.if_icmp .ge 16, 3) := by decide +kernel
theorem e_Mod_laysCycle_39 : decode M_Mod_laysCycle.2.1 39 = .ok (.aload_n 0, 1) := by decide +kernel
theorem e_Mod_laysCycle_40 : decode M_Mod_laysCycle.2.1 40 = .ok (.getfield 95, 3) := by decide +kernel
theorem e_Mod_laysCycle_43 : decode M_Mod_laysCycle.2.1 43 = .ok (.iload_n 1, 1) := by decide +kernel
theorem e_Mod_laysCycle_44 : decode M_Mod_laysCycle.2.1 44 = .ok (.iconst 0, 1) := by decide +kernel
theorem e_Mod_laysCycle_45 : decode M_Mod_laysCycle.2.1 45 = .ok (.iastore, 1) := by decide +kernel
theorem e_Mod_laysCycle_46 : decode M_Mod_laysCycle.2.1 46 = .ok (.iinc 1 1, 3) := by decide +kernel
theorem e_Mod_laysCycle_49 : decode M_Mod_laysCycle.2.1 49 = .ok (.goto (-15), 3) := by decide +kernel
theorem e_Mod_laysCycle_52 : decode M_Mod_laysCycle.2.1 52 = .ok (.iconst 0, 1) := by decide +kernel
theorem e_Mod_laysCycle_53 : decode M_Mod_laysCycle.2.1 53 = .ok (.istore_n 1, 1) := by decide +kernel
theorem e_Mod_laysCycle_54 : decode M_Mod_laysCycle.2.1 54 = .ok (.iload_n 1, 1) := by decide +kernel
theorem e_Mod_laysCycle_55 : decode M_Mod_laysCycle.2.1 55 = .ok (.bipush 10, 2) := by decide +kernel
theorem e_Mod_laysCycle_57 : decode M_Mod_laysCycle.2.1 57 = .ok (.if_icmp .ge 16, 3) := by decide +kernel
theorem e_Mod_laysCycle_60 : decode M_Mod_laysCycle.2.1 60 = .ok (.aload_n 0, 1) := by decide +kernel
theorem e_Mod_laysCycle_61 : decode M_Mod_laysCycle.2.1 61 = .ok (.getfield 98, 3) := by decide +kernel
theorem e_Mod_laysCycle_64 : decode M_Mod_laysCycle.2.1 64 = .ok (.iload_n 1, 1) := by decide +kernel
theorem e_Mod_laysCycle_65 : decode M_Mod_laysCycle.2.1 65 = .ok (.iconst 0, 1) := by decide +kernel
theorem e_Mod_laysCycle_66 : decode M_Mod_laysCycle.2.1 66 = .ok (.bastore, 1) := by decide +kernel
theorem e_Mod_laysCycle_67 : decode M_Mod_laysCycle.2.1 67 = .ok (.iinc 1 1, 3) := by decide +kernel
theorem e_Mod_laysCycle_70 : decode M_Mod_laysCycle.2.1 70 = .ok (.goto (-16), 3) := by decide +kernel
theorem e_Mod_laysCycle_73 : decode M_Mod_laysCycle.2.1 73 = .ok (.iconst 0, 1) := by decide +kernel
theorem e_Mod_laysCycle_74 : decode M_Mod_laysCycle.2.1 74 = .ok (.istore_n 1, 1) := by decide +kernel
theorem e_Mod_laysCycle_75 : decode M_Mod_laysCycle.2.1 75 = .ok (.iload_n 1, 1) := by decide +kernel
theorem e_Mod_laysCycle_76 : decode M_Mod_laysCycle.2.1 76 = .ok (.aload_n 0, 1) := by decide +kernel
theorem e_Mod_laysCycle_77 : decode M_Mod_laysCycle.2.1 77 = .ok (.getfield 183, 3) := by decide +kernel
theorem e_Mod_laysCycle_80 : decode M_Mod_laysCycle.2.1 80 = .ok (.if_icmp .ge 37, 3) := by decide +kernel
theorem e_Mod_laysCycle_83 : decode M_Mod_laysCycle.2.1 83 = .ok (.iconst 0, 1) := by decide +kernel
theorem e_Mod_laysCycle_84 : decode M_Mod_laysCycle.2.1 84 = .ok (.istore_n 2, 1) := by decide +kernel
theorem e_Mod_laysCycle_85 : decode M_Mod_laysCycle.2.1 85 = .ok (.aload_n 0, 1) := by decide +kernel
theorem e_Mod_laysCycle_86 : decode M_Mod_laysCycle.2.1 86 = .ok (.iload_n 2, 1) := by decide +kernel
theorem e_Mod_laysCycle_87 : decode M_Mod_laysCycle.2.1 87 = .ok (.invokevirtual 186, 3) := by decide +kernel
theorem e_Mod_laysCycle_90 : decode M_Mod_laysCycle.2.1 90 = .ok (.ifCond .ne 9, 3) := by decide +kernel
theorem e_Mod_laysCycle_93 : decode M_Mod_laysCycle.2.1 93 = .ok (.iinc 2 1, 3) := by decide +kernel
theorem e_Mod_laysCycle_96 : decode M_Mod_laysCycle.2.1 96 = .ok (.goto (-11), 3) := by decide +kernel
theorem e_Mod_laysCycle_99 : decode M_Mod_laysCycle.2.1 99 = .ok (.aload_n 0, 1) := by decide +kernel
theorem e_Mod_laysCycle_100 : decode M_Mod_laysCycle.2.1 100 = .ok (.getfield 80, 3) := by decide +kernel
theorem e_Mod_laysCycle_103 : decode M_Mod_laysCycle.2.1 103 = .ok (.iload_n 1, 1) := by decide +kernel
theorem e_Mod_laysCycle_104 : decode M_Mod_laysCycle.2.1 104 = .ok (.iload_n 2, 1) := by decide +kernel
theorem e_Mod_laysCycle_105 : decode M_Mod_laysCycle.2.1 105 = .ok (.iastore, 1) := by decide +kernel
theorem e_Mod_laysCycle_106 : decode M_Mod_laysCycle.2.1 106 = .ok (.aload_n 0, 1) := by decide +kernel
theorem e_Mod_laysCycle_107 : decode M_Mod_laysCycle.2.1 107 = .ok (.iload_n 2, 1) := by decide +kernel
theorem e_Mod_laysCycle_108 : decode M_Mod_laysCycle.2.1 108 = .ok (.invokevirtual 189, 3) := by decide +kernel
theorem e_Mod_laysCycle_111 : decode M_Mod_laysCycle.2.1 111 = .ok (.iinc 1 1, 3) := by decide +kernel
theorem e_Mod_laysCycle_114 : decode M_Mod_laysCycle.2.1 114 = .ok (.goto (-39), 3) := by decide +kernel
theorem e_Mod_laysCycle_117 : decode M_Mod_laysCycle.2.1 117 = .ok (.iconst 0, 1) := by decide +kernel
theorem e_Mod_laysCycle_118 : decode M_Mod_laysCycle.2.1 118 = .ok (.istore_n 1, 1) := by decide +kernel
theorem e_Mod_laysCycle_119 : decode M_Mod_laysCycle.2.1 119 = .ok (.iload_n 1, 1) := by decide +kernel
theorem e_Mod_laysCycle_120 : decode M_Mod_laysCycle.2.1 120 = .ok (.aload_n 0, 1) := by decide +kernel
theorem e_Mod_laysCycle_121 : decode M_Mod_laysCycle.2.1 121 = .ok (.getfield 162, 3) := by decide +kernel
theorem e_Mod_laysCycle_124 : decode M_Mod_laysCycle.2.1 124 = .ok (.if_icmp .ge 52, 3) := by decide +kernel
theorem e_Mod_laysCycle_127 : decode M_Mod_laysCycle.2.1 127 = .ok (.aload_n 0, 1) := by decide +kernel
theorem e_Mod_laysCycle_128 : decode M_Mod_laysCycle.2.1 128 = .ok (.getfield 92, 3) := by decide +kernel
theorem e_Mod_laysCycle_131 : decode M_Mod_laysCycle.2.1 131 = .ok (.iload_n 1, 1) := by decide +kernel
theorem e_Mod_laysCycle_132 : decode M_Mod_laysCycle.2.1 132 = .ok (.aload_n 0, 1) := by decide +kernel
theorem e_Mod_laysCycle_133 : decode M_Mod_laysCycle.2.1 133 = .ok (.getfield 40, 3) := by decide +kernel
theorem e_Mod_laysCycle_136 : decode M_Mod_laysCycle.2.1 136 = .ok (.iload_n 1, 1) := by decide +kernel
theorem e_Mod_laysCycle_137 : decode M_Mod_laysCycle.2.1 137 = .ok (.iaload, 1) := by decide +kernel
theorem e_Mod_laysCycle_138 : decode M_Mod_laysCycle.2.1 138 = .ok (.iconst 2, 1) := by decide +kernel
theorem e_Mod_laysCycle_139 : decode M_Mod_laysCycle.2.1 139 = .ok (.if_icmp .ne 11, 3) := by decide +kernel
theorem e_Mod_laysCycle_142 : decode M_Mod_laysCycle.2.1 142 = .ok (.aload_n 0, 1) := by decide +kernel
theorem e_Mod_laysCycle_143 : decode M_Mod_laysCycle.2.1 143 = .ok (.iload_n 1, 1) := by decide +kernel
theorem e_Mod_laysCycle_144 : decode M_Mod_laysCycle.2.1 144 = .ok (.invokevirtual 175, 3) := by decide +kernel
theorem e_Mod_laysCycle_147 : decode M_Mod_laysCycle.2.1 147 = .ok (.ifCond .eq 7, 3) := by decide +kernel
theorem e_Mod_laysCycle_150 : decode M_Mod_laysCycle.2.1 150 = .ok (.iconst (-1), 1) := by decide +kernel
theorem e_Mod_laysCycle_151 : decode M_Mod_laysCycle.2.1 151 = .ok (.goto 18, 3) := by decide +kernel
theorem e_Mod_laysCycle_154 : decode M_Mod_laysCycle.2.1 154 = .ok (.aload_n 0, 1) := by decide +kernel
theorem e_Mod_laysCycle_155 : decode M_Mod_laysCycle.2.1 155 = .ok (.aload_n 0, 1) := by decide +kernel
theorem e_Mod_laysCycle_156 : decode M_Mod_laysCycle.2.1 156 = .ok (.getfield 86, 3) := by decide +kernel
theorem e_Mod_laysCycle_159 : decode M_Mod_laysCycle.2.1 159 = .ok (.aload_n 0, 1) := by decide +kernel
theorem e_Mod_laysCycle_160 : decode M_Mod_laysCycle.2.1 160 = .ok (.getfield 37, 3) := by decide +kernel
theorem e_Mod_laysCycle_163 : decode M_Mod_laysCycle.2.1 163 = .ok (.iload_n 1, 1) := by decide +kernel
theorem e_Mod_laysCycle_164 : decode M_Mod_laysCycle.2.1 164 = .ok (.iaload, 1) := by decide +kernel
theorem e_Mod_laysCycle_165 : decode M_Mod_laysCycle.2.1 165 = .ok (.iaload, 1) := by decide +kernel
theorem e_Mod_laysCycle_166 : decode M_Mod_laysCycle.2.1 166 = .ok (.invokevirtual 179, 3) := by decide +kernel
theorem e_Mod_laysCycle_169 : decode M_Mod_laysCycle.2.1 169 = .ok (.iastore, 1) := by decide +kernel
theorem e_Mod_laysCycle_170 : decode M_Mod_laysCycle.2.1 170 = .ok (.iinc 1 1, 3) := by decide +kernel
theorem e_Mod_laysCycle_173 : decode M_Mod_laysCycle.2.1 173 = .ok (.goto (-54), 3) := by decide +kernel
theorem e_Mod_laysCycle_176 : decode M_Mod_laysCycle.2.1 176 = .ok (.return_, 1) := by decide +kernel
theorem e_Mod_canBeTaken_0 : decode M_Mod_canBeTaken.2.1 0 = .ok (.aload_n 0, 1) := by decide +kernel
theorem e_Mod_canBeTaken_1 : decode M_Mod_canBeTaken.2.1 1 = .ok (.getfield 98, 3) := by decide +kernel
theorem e_Mod_canBeTaken_4 : decode M_Mod_canBeTaken.2.1 4 = .ok (.iload_n 1, 1) := by decide +kernel
theorem e_Mod_canBeTaken_5 : decode M_Mod_canBeTaken.2.1 5 = .ok (.baload, 1) := by decide +kernel
theorem e_Mod_canBeTaken_6 : decode M_Mod_canBeTaken.2.1 6 = .ok (.ifCond .eq 5, 3) := by decide +kernel
theorem e_Mod_canBeTaken_9 : decode M_Mod_canBeTaken.2.1 9 = .ok (.iconst 0, 1) := by decide +kernel
theorem e_Mod_canBeTaken_10 : decode M_Mod_canBeTaken.2.1 10 = .ok (.ireturn, 1) := by decide +kernel
theorem e_Mod_canBeTaken_11 : decode M_Mod_canBeTaken.2.1 11 = .ok (.iconst 0, 1) := by decide +kernel
theorem e_Mod_canBeTaken_12 : decode M_Mod_canBeTaken.2.1 12 = .ok (.istore_n 2, 1) := by decide +kernel
theorem e_Mod_canBeTaken_13 : decode M_Mod_canBeTaken.2.1 13 = .ok (.iload_n 2, 1) := by decide +kernel
theorem e_Mod_canBeTaken_14 : decode M_Mod_canBeTaken.2.1 14 = .ok (.aload_n 0, 1) := by decide +kernel
theorem e_Mod_canBeTaken_15 : decode M_Mod_canBeTaken.2.1 15 = .ok (.getfield 162, 3) := by decide +kernel
theorem e_Mod_canBeTaken_18 : decode M_Mod_canBeTaken.2.1 18 = .ok (.if_icmp .ge 35, 3) := by decide +kernel
theorem e_Mod_canBeTaken_21 : decode M_Mod_canBeTaken.2.1 21 = .ok (.aload_n 0, 1) := by decide +kernel
theorem e_Mod_canBeTaken_22 : decode M_Mod_canBeTaken.2.1 22 = .ok (.getfield 37, 3) := by decide +kernel
theorem e_Mod_canBeTaken_25 : decode M_Mod_canBeTaken.2.1 25 = .ok (.iload_n 2, 1) := by decide +kernel
theorem e_Mod_canBeTaken_26 : decode M_Mod_canBeTaken.2.1 26 = .ok (.iaload, 1) := by decide +kernel
theorem e_Mod_canBeTaken_27 : decode M_Mod_canBeTaken.2.1 27 = .ok (.iload_n 1, 1) := by decide +kernel
theorem e_Mod_canBeTaken_28 : decode M_Mod_canBeTaken.2.1 28 = .ok (.if_icmp .ne 19, 3) := by decide +kernel
theorem e_Mod_canBeTaken_31 : decode M_Mod_canBeTaken.2.1 31 = .ok (.aload_n 0, 1) := by decide +kernel
theorem e_Mod_canBeTaken_32 : decode M_Mod_canBeTaken.2.1 32 = .ok (.getfield 98, 3) := by decide +kernel
theorem e_Mod_canBeTaken_35 : decode M_Mod_canBeTaken.2.1 35 = .ok (.aload_n 0, 1) := by decide +kernel
theorem e_Mod_canBeTaken_36 : decode M_Mod_canBeTaken.2.1 36 = .ok (.getfield 34, 3) := by decide +kernel
theorem e_Mod_canBeTaken_39 : decode M_Mod_canBeTaken.2.1 39 = .ok (.iload_n 2, 1) := by decide +kernel
theorem e_Mod_canBeTaken_40 : decode M_Mod_canBeTaken.2.1 40 = .ok (.iaload, 1) := by decide +kernel
theorem e_Mod_canBeTaken_41 : decode M_Mod_canBeTaken.2.1 41 = .ok (.baload, 1) := by decide +kernel
theorem e_Mod_canBeTaken_42 : decode M_Mod_canBeTaken.2.1 42 = .ok (.ifCond .ne 5, 3) := by decide +kernel
theorem e_Mod_canBeTaken_45 : decode M_Mod_canBeTaken.2.1 45 = .ok (.iconst 0, 1) := by decide +kernel
theorem e_Mod_canBeTaken_46 : decode M_Mod_canBeTaken.2.1 46 = .ok (.ireturn, 1) := by decide +kernel
theorem e_Mod_canBeTaken_47 : decode M_Mod_canBeTaken.2.1 47 = .ok (.iinc 2 1, 3) := by decide +kernel
theorem e_Mod_canBeTaken_50 : decode M_Mod_canBeTaken.2.1 50 = .ok (.goto (-37), 3) := by decide +kernel
theorem e_Mod_canBeTaken_53 : decode M_Mod_canBeTaken.2.1 53 = .ok (.iconst 1, 1) := by decide +kernel
theorem e_Mod_canBeTaken_54 : decode M_Mod_canBeTaken.2.1 54 = .ok (.ireturn, 1) := by decide +kernel
theorem e_Mod_takes_0 : decode M_Mod_takes.2.1 0 = .ok (.aload_n 0, 1) := by decide +kernel
theorem e_Mod_takes_1 : decode M_Mod_takes.2.1 1 = .ok (.getfield 95, 3) := by decide +kernel
theorem e_Mod_takes_4 : decode M_Mod_takes.2.1 4 = .ok (.aload_n 0, 1) := by decide +kernel
theorem e_Mod_takes_5 : decode M_Mod_takes.2.1 5 = .ok (.getfield 13, 3) := by decide +kernel
theorem e_Mod_takes_8 : decode M_Mod_takes.2.1 8 = .ok (.iload_n 1, 1) := by decide +kernel
theorem e_Mod_takes_9 : decode M_Mod_takes.2.1 9 = .ok (.iaload, 1) := by decide +kernel
theorem e_Mod_takes_10 : decode M_Mod_takes.2.1 10 = .ok (.iaload, 1) := by decide +kernel
theorem e_Mod_takes_11 : decode M_Mod_takes.2.1 11 = .ok (.istore_n 2, 1) := by decide +kernel
theorem e_Mod_takes_12 : decode M_Mod_takes.2.1 12 = .ok (.iconst 0, 1) := by decide +kernel
theorem e_Mod_takes_13 : decode M_Mod_takes.2.1 13 = .ok (.istore_n 3, 1) := by decide +kernel
theorem e_Mod_takes_14 : decode M_Mod_takes.2.1 14 = .ok (.iload_n 3, 1) := by decide +kernel
theorem e_Mod_takes_15 : decode M_Mod_takes.2.1 15 = .ok (.aload_n 0, 1) := by decide +kernel
theorem e_Mod_takes_16 : decode M_Mod_takes.2.1 16 = .ok (.getfield 162, 3) := by decide +kernel
theorem e_Mod_takes_19 : decode M_Mod_takes.2.1 19 = .ok (.if_icmp .ge 90, 3) := by decide +kernel
theorem e_Mod_takes_22 : decode M_Mod_takes.2.1 22 = .ok (.aload_n 0, 1) := by decide +kernel
theorem e_Mod_takes_23 : decode M_Mod_takes.2.1 23 = .ok (.getfield 37, 3) := by decide +kernel
theorem e_Mod_takes_26 : decode M_Mod_takes.2.1 26 = .ok (.iload_n 3, 1) := by decide +kernel
theorem e_Mod_takes_27 : decode M_Mod_takes.2.1 27 = .ok (.iaload, 1) := by decide +kernel
theorem e_Mod_takes_28 : decode M_Mod_takes.2.1 28 = .ok (.iload_n 1, 1) := by decide +kernel
theorem e_Mod_takes_29 : decode M_Mod_takes.2.1 29 = .ok (.if_icmp .eq 6, 3) := by decide +kernel
theorem e_Mod_takes_32 : decode M_Mod_takes.2.1 32 = .ok (.goto 71, 3) := by decide +kernel
theorem e_Mod_takes_35 : decode M_Mod_takes.2.1 35 = .ok (.aload_n 0, 1) := by decide +kernel
theorem e_Mod_takes_36 : decode M_Mod_takes.2.1 36 = .ok (.getfield 89, 3) := by decide +kernel
theorem e_Mod_takes_39 : decode M_Mod_takes.2.1 39 = .ok (.iload_n 3, 1) := by decide +kernel
theorem e_Mod_takes_40 : decode M_Mod_takes.2.1 40 = .ok (.aload_n 0, 1) := by decide +kernel
theorem e_Mod_takes_41 : decode M_Mod_takes.2.1 41 = .ok (.iload_n 3, 1) := by decide +kernel
theorem e_Mod_takes_42 : decode M_Mod_takes.2.1 42 = .ok (.invokevirtual 175, 3) := by decide +kernel
theorem e_Mod_takes_45 : decode M_Mod_takes.2.1 45 = .ok (.ifCond .eq 7, 3) := by decide +kernel
theorem e_Mod_takes_48 : decode M_Mod_takes.2.1 48 = .ok (.iconst (-1), 1) := by decide +kernel
theorem e_Mod_takes_49 : decode M_Mod_takes.2.1 49 = .ok (.goto 18, 3) := by decide +kernel
theorem e_Mod_takes_52 : decode M_Mod_takes.2.1 52 = .ok (.aload_n 0, 1) := by decide +kernel
theorem e_Mod_takes_53 : decode M_Mod_takes.2.1 53 = .ok (.aload_n 0, 1) := by decide +kernel
theorem e_Mod_takes_54 : decode M_Mod_takes.2.1 54 = .ok (.getfield 86, 3) := by decide +kernel
theorem e_Mod_takes_57 : decode M_Mod_takes.2.1 57 = .ok (.aload_n 0, 1) := by decide +kernel
theorem e_Mod_takes_58 : decode M_Mod_takes.2.1 58 = .ok (.getfield 34, 3) := by decide +kernel
theorem e_Mod_takes_61 : decode M_Mod_takes.2.1 61 = .ok (.iload_n 3, 1) := by decide +kernel
theorem e_Mod_takes_62 : decode M_Mod_takes.2.1 62 = .ok (.iaload, 1) := by decide +kernel
theorem e_Mod_takes_63 : decode M_Mod_takes.2.1 63 = .ok (.iaload, 1) := by decide +kernel
theorem e_Mod_takes_64 : decode M_Mod_takes.2.1 64 = .ok (.invokevirtual 179, 3) := by decide +kernel
theorem e_Mod_takes_67 : decode M_Mod_takes.2.1 67 = .ok (.iastore, 1) := by decide +kernel
theorem e_Mod_takes_68 : decode M_Mod_takes.2.1 68 = .ok (.iload_n 2, 1) := by decide +kernel
theorem e_Mod_takes_69 : decode M_Mod_takes.2.1 69 = .ok (.aload_n 0, 1) := by decide +kernel
theorem e_Mod_takes_70 : decode M_Mod_takes.2.1 70 = .ok (.iload_n 3, 1) := by decide +kernel
theorem e_Mod_takes_71 : decode M_Mod_takes.2.1 71 = .ok (.invokevirtual 175, 3) := by decide +kernel
theorem e_Mod_takes_74 : decode M_Mod_takes.2.1 74 = .ok (.ifCond .eq 17, 3) := by decide +kernel
theorem e_Mod_takes_77 : decode M_Mod_takes.2.1 77 = .ok (.aload_n 0, 1) := by decide +kernel
theorem e_Mod_takes_78 : decode M_Mod_takes.2.1 78 = .ok (.getfield 86, 3) := by decide +kernel
theorem e_Mod_takes_81 : decode M_Mod_takes.2.1 81 = .ok (.aload_n 0, 1) := by decide +kernel
theorem e_Mod_takes_82 : decode M_Mod_takes.2.1 82 = .ok (.getfield 34, 3) := by decide +kernel
theorem e_Mod_takes_85 : decode M_Mod_takes.2.1 85 = .ok (.iload_n 3, 1) := by decide +kernel
theorem e_Mod_takes_86 : decode M_Mod_takes.2.1 86 = .ok (.iaload, 1) := by decide +kernel
theorem e_Mod_takes_87 : decode M_Mod_takes.2.1 87 = .ok (.iaload, 1) := by decide +kernel
theorem e_Mod_takes_88 : decode M_Mod_takes.2.1 88 = .ok (.goto 11, 3) := by decide +kernel
theorem e_Mod_takes_91 : decode M_Mod_takes.2.1 91 = .ok (.aload_n 0, 1) := by decide +kernel
theorem e_Mod_takes_92 : decode M_Mod_takes.2.1 92 = .ok (.getfield 89, 3) := by decide +kernel
theorem e_Mod_takes_95 : decode M_Mod_takes.2.1 95 = .ok (.iload_n 3, 1) := by decide +kernel
theorem e_Mod_takes_96 : decode M_Mod_takes.2.1 96 = .ok (.iaload, 1) := by decide +kernel
theorem e_Mod_takes_97 : decode M_Mod_takes.2.1 97 = .ok (.iconst 1, 1) := by decide +kernel
theorem e_Mod_takes_98 : decode M_Mod_takes.2.1 98 = .ok (.iadd, 1) := by decide +kernel
theorem e_Mod_takes_99 : decode M_Mod_takes.2.1 99 = .ok (.invokestatic 171, 3) := by decide +kernel
theorem e_Mod_takes_102 : decode M_Mod_takes.2.1 102 = .ok (.istore_n 2, 1) := by decide +kernel
theorem e_Mod_takes_103 : decode M_Mod_takes.2.1 103 = .ok (.iinc 3 1, 3) := by decide +kernel
theorem e_Mod_takes_106 : decode M_Mod_takes.2.1 106 = .ok (.goto (-92), 3) := by decide +kernel
theorem e_Mod_takes_109 : decode M_Mod_takes.2.1 109 = .ok (.aload_n 0, 1) := by decide +kernel
theorem e_Mod_takes_110 : decode M_Mod_takes.2.1 110 = .ok (.getfield 83, 3) := by decide +kernel
theorem e_Mod_takes_113 : decode M_Mod_takes.2.1 113 = .ok (.iload_n 1, 1) := by decide +kernel
theorem e_Mod_takes_114 : decode M_Mod_takes.2.1 114 = .ok (.iload_n 2, 1) := by decide +kernel
theorem e_Mod_takes_115 : decode M_Mod_takes.2.1 115 = .ok (.iastore, 1) := by decide +kernel
theorem e_Mod_takes_116 : decode M_Mod_takes.2.1 116 = .ok (.aload_n 0, 1) := by decide +kernel
theorem e_Mod_takes_117 : decode M_Mod_takes.2.1 117 = .ok (.getfield 86, 3) := by decide +kernel
theorem e_Mod_takes_120 : decode M_Mod_takes.2.1 120 = .ok (.iload_n 1, 1) := by decide +kernel
theorem e_Mod_takes_121 : decode M_Mod_takes.2.1 121 = .ok (.iload_n 2, 1) := by decide +kernel
theorem e_Mod_takes_122 : decode M_Mod_takes.2.1 122 = .ok (.aload_n 0, 1) := by decide +kernel
theorem e_Mod_takes_123 : decode M_Mod_takes.2.1 123 = .ok (.getfield 16, 3) := by decide +kernel
theorem e_Mod_takes_126 : decode M_Mod_takes.2.1 126 = .ok (.iload_n 1, 1) := by decide +kernel
theorem e_Mod_takes_127 : decode M_Mod_takes.2.1 127 = .ok (.iaload, 1) := by decide +kernel
theorem e_Mod_takes_128 : decode M_Mod_takes.2.1 128 = .ok (.iadd, 1) := by decide +kernel
theorem e_Mod_takes_129 : decode M_Mod_takes.2.1 129 = .ok (.iastore, 1) := by decide +kernel
theorem e_Mod_takes_130 : decode M_Mod_takes.2.1 130 = .ok (.aload_n 0, 1) := by decide +kernel
theorem e_Mod_takes_131 : decode M_Mod_takes.2.1 131 = .ok (.getfield 95, 3) := by decide +kernel
theorem e_Mod_takes_134 : decode M_Mod_takes.2.1 134 = .ok (.aload_n 0, 1) := by decide +kernel
theorem e_Mod_takes_135 : decode M_Mod_takes.2.1 135 = .ok (.getfield 13, 3) := by decide +kernel
theorem e_Mod_takes_138 : decode M_Mod_takes.2.1 138 = .ok (.iload_n 1, 1) := by decide +kernel
theorem e_Mod_takes_139 : decode M_Mod_takes.2.1 139 = .ok (.iaload, 1) := by decide +kernel
theorem e_Mod_takes_140 : decode M_Mod_takes.2.1 140 = .ok (.aload_n 0, 1) := by decide +kernel
theorem e_Mod_takes_141 : decode M_Mod_takes.2.1 141 = .ok (.getfield 86, 3) := by decide +kernel
theorem e_Mod_takes_144 : decode M_Mod_takes.2.1 144 = .ok (.iload_n 1, 1) := by decide +kernel
theorem e_Mod_takes_145 : decode M_Mod_takes.2.1 145 = .ok (.iaload, 1) := by decide +kernel
theorem e_Mod_takes_146 : decode M_Mod_takes.2.1 146 = .ok (.iastore, 1) := by decide +kernel
theorem e_Mod_takes_147 : decode M_Mod_takes.2.1 147 = .ok (.aload_n 0, 1) := by decide +kernel
theorem e_Mod_takes_148 : decode M_Mod_takes.2.1 148 = .ok (.aload_n 0, 1) := by decide +kernel
theorem e_Mod_takes_149 : decode M_Mod_takes.2.1 149 = .ok (.getfield 168, 3) := by decide +kernel
theorem e_Mod_takes_152 : decode M_Mod_takes.2.1 152 = .ok (.aload_n 0, 1) := by decide +kernel
theorem e_Mod_takes_153 : decode M_Mod_takes.2.1 153 = .ok (.getfield 86, 3) := by decide +kernel
theorem e_Mod_takes_156 : decode M_Mod_takes.2.1 156 = .ok (.iload_n 1, 1) := by decide +kernel
theorem e_Mod_takes_157 : decode M_Mod_takes.2.1 157 = .ok (.iaload, 1) := by decide +kernel
theorem e_Mod_takes_158 : decode M_Mod_takes.2.1 158 = .ok (.invokestatic 171, 3) := by decide +kernel
theorem e_Mod_takes_161 : decode M_Mod_takes.2.1 161 = .ok (.putfield 168, 3) := by decide +kernel
theorem e_Mod_takes_164 : decode M_Mod_takes.2.1 164 = .ok (.aload_n 0, 1) := by decide +kernel
theorem e_Mod_takes_165 : decode M_Mod_takes.2.1 165 = .ok (.getfield 98, 3) := by decide +kernel
theorem e_Mod_takes_168 : decode M_Mod_takes.2.1 168 = .ok (.iload_n 1, 1) := by decide +kernel
theorem e_Mod_takes_169 : decode M_Mod_takes.2.1 169 = .ok (.iconst 1, 1) := by decide +kernel
theorem e_Mod_takes_170 : decode M_Mod_takes.2.1 170 = .ok (.bastore, 1) := by decide +kernel
theorem e_Mod_takes_171 : decode M_Mod_takes.2.1 171 = .ok (.return_, 1) := by decide +kernel
theorem e_Mod_isWithin_0 : decode M_Mod_isWithin.2.1 0 = .ok (.aload_n 0, 1) := by decide +kernel
theorem e_Mod_isWithin_1 : decode M_Mod_isWithin.2.1 1 = .ok (.getfield 13, 3) := by decide +kernel
theorem e_Mod_isWithin_4 : decode M_Mod_isWithin.2.1 4 = .ok (.aload_n 0, 1) := by decide +kernel
theorem e_Mod_isWithin_5 : decode M_Mod_isWithin.2.1 5 = .ok (.getfield 34, 3) := by decide +kernel
theorem e_Mod_isWithin_8 : decode M_Mod_isWithin.2.1 8 = .ok (.iload_n 1, 1) := by decide +kernel
theorem e_Mod_isWithin_9 : decode M_Mod_isWithin.2.1 9 = .ok (.iaload, 1) := by decide +kernel
theorem e_Mod_isWithin_10 : decode M_Mod_isWithin.2.1 10 = .ok (.iaload, 1) := by decide +kernel
theorem e_Mod_isWithin_11 : decode M_Mod_isWithin.2.1 11 = .ok (.aload_n 0, 1) := by decide +kernel
theorem e_Mod_isWithin_12 : decode M_Mod_isWithin.2.1 12 = .ok (.getfield 13, 3) := by decide +kernel
theorem e_Mod_isWithin_15 : decode M_Mod_isWithin.2.1 15 = .ok (.aload_n 0, 1) := by decide +kernel
theorem e_Mod_isWithin_16 : decode M_Mod_isWithin.2.1 16 = .ok (.getfield 37, 3) := by decide +kernel
theorem e_Mod_isWithin_19 : decode M_Mod_isWithin.2.1 19 = .ok (.iload_n 1, 1) := by decide +kernel
theorem e_Mod_isWithin_20 : decode M_Mod_isWithin.2.1 20 = .ok (.iaload, 1) := by decide +kernel
theorem e_Mod_isWithin_21 : decode M_Mod_isWithin.2.1 21 = .ok (.iaload, 1) := by decide +kernel
theorem e_Mod_isWithin_22 : decode M_Mod_isWithin.2.1 22 = .ok (.if_icmp .ne 7, 3) := by decide +kernel
theorem e_Mod_isWithin_25 : decode M_Mod_isWithin.2.1 25 = .ok (.iconst 1, 1) := by decide +kernel
theorem e_Mod_isWithin_26 : decode M_Mod_isWithin.2.1 26 = .ok (.goto 4, 3) := by decide +kernel
theorem e_Mod_isWithin_29 : decode M_Mod_isWithin.2.1 29 = .ok (.iconst 0, 1) := by decide +kernel
theorem e_Mod_isWithin_30 : decode M_Mod_isWithin.2.1 30 = .ok (.ireturn, 1) := by decide +kernel
theorem e_Mod_slotFrom_0 : decode M_Mod_slotFrom.2.1 0 = .ok (.iload_n 1, 1) := by decide +kernel
theorem e_Mod_slotFrom_1 : decode M_Mod_slotFrom.2.1 1 = .ok (.istore_n 2, 1) := by decide +kernel
theorem e_Mod_slotFrom_2 : decode M_Mod_slotFrom.2.1 2 = .ok (.aload_n 0, 1) := by decide +kernel
theorem e_Mod_slotFrom_3 : decode M_Mod_slotFrom.2.1 3 = .ok (.getfield 102, 3) := by decide +kernel
theorem e_Mod_slotFrom_6 : decode M_Mod_slotFrom.2.1 6 = .ok (.iload_n 2, 1) := by decide +kernel
theorem e_Mod_slotFrom_7 : decode M_Mod_slotFrom.2.1 7 = .ok (.baload, 1) := by decide +kernel
theorem e_Mod_slotFrom_8 : decode M_Mod_slotFrom.2.1 8 = .ok (.ifCond .eq 9, 3) := by decide +kernel
theorem e_Mod_slotFrom_11 : decode M_Mod_slotFrom.2.1 11 = .ok (.iinc 2 1, 3) := by decide +kernel
theorem e_Mod_slotFrom_14 : decode M_Mod_slotFrom.2.1 14 = .ok (.goto (-12), 3) := by decide +kernel
theorem e_Mod_slotFrom_17 : decode M_Mod_slotFrom.2.1 17 = .ok (.aload_n 0, 1) := by decide +kernel
theorem e_Mod_slotFrom_18 : decode M_Mod_slotFrom.2.1 18 = .ok (.getfield 102, 3) := by decide +kernel
theorem e_Mod_slotFrom_21 : decode M_Mod_slotFrom.2.1 21 = .ok (.iload_n 2, 1) := by decide +kernel
theorem e_Mod_slotFrom_22 : decode M_Mod_slotFrom.2.1 22 = .ok (.iconst 1, 1) := by decide +kernel
theorem e_Mod_slotFrom_23 : decode M_Mod_slotFrom.2.1 23 = .ok (.bastore, 1) := by decide +kernel
theorem e_Mod_slotFrom_24 : decode M_Mod_slotFrom.2.1 24 = .ok (.aload_n 0, 1) := by decide +kernel
theorem e_Mod_slotFrom_25 : decode M_Mod_slotFrom.2.1 25 = .ok (.dup, 1) := by decide +kernel
theorem e_Mod_slotFrom_26 : decode M_Mod_slotFrom.2.1 26 = .ok (.getfield 165, 3) := by decide +kernel
theorem e_Mod_slotFrom_29 : decode M_Mod_slotFrom.2.1 29 = .ok (.iconst 1, 1) := by decide +kernel
theorem e_Mod_slotFrom_30 : decode M_Mod_slotFrom.2.1 30 = .ok (.iadd, 1) := by decide +kernel
theorem e_Mod_slotFrom_31 : decode M_Mod_slotFrom.2.1 31 = .ok (.putfield 165, 3) := by decide +kernel
theorem e_Mod_slotFrom_34 : decode M_Mod_slotFrom.2.1 34 = .ok (.aload_n 0, 1) := by decide +kernel
theorem e_Mod_slotFrom_35 : decode M_Mod_slotFrom.2.1 35 = .ok (.aload_n 0, 1) := by decide +kernel
theorem e_Mod_slotFrom_36 : decode M_Mod_slotFrom.2.1 36 = .ok (.getfield 168, 3) := by decide +kernel
theorem e_Mod_slotFrom_39 : decode M_Mod_slotFrom.2.1 39 = .ok (.iload_n 2, 1) := by decide +kernel
theorem e_Mod_slotFrom_40 : decode M_Mod_slotFrom.2.1 40 = .ok (.iconst 1, 1) := by decide +kernel
theorem e_Mod_slotFrom_41 : decode M_Mod_slotFrom.2.1 41 = .ok (.iadd, 1) := by decide +kernel
theorem e_Mod_slotFrom_42 : decode M_Mod_slotFrom.2.1 42 = .ok (.invokestatic 171, 3) := by decide +kernel
theorem e_Mod_slotFrom_45 : decode M_Mod_slotFrom.2.1 45 = .ok (.putfield 168, 3) := by decide +kernel
theorem e_Mod_slotFrom_48 : decode M_Mod_slotFrom.2.1 48 = .ok (.iload_n 2, 1) := by decide +kernel
theorem e_Mod_slotFrom_49 : decode M_Mod_slotFrom.2.1 49 = .ok (.ireturn, 1) := by decide +kernel
theorem e_Mod_greater_0 : decode M_Mod_greater.2.1 0 = .ok (.iload_n 0, 1) := by decide +kernel
theorem e_Mod_greater_1 : decode M_Mod_greater.2.1 1 = .ok (.iload_n 1, 1) := by decide +kernel
theorem e_Mod_greater_2 : decode M_Mod_greater.2.1 2 = .ok (.if_icmp .le 7, 3) := by decide +kernel
theorem e_Mod_greater_5 : decode M_Mod_greater.2.1 5 = .ok (.iload_n 0, 1) := by decide +kernel
theorem e_Mod_greater_6 : decode M_Mod_greater.2.1 6 = .ok (.goto 4, 3) := by decide +kernel
theorem e_Mod_greater_9 : decode M_Mod_greater.2.1 9 = .ok (.iload_n 1, 1) := by decide +kernel
theorem e_Mod_greater_10 : decode M_Mod_greater.2.1 10 = .ok (.ireturn, 1) := by decide +kernel
theorem e_Mod_begins_0 : decode M_Mod_begins.2.1 0 = .ok (.iconst 0, 1) := by decide +kernel
theorem e_Mod_begins_1 : decode M_Mod_begins.2.1 1 = .ok (.istore_n 1, 1) := by decide +kernel
theorem e_Mod_begins_2 : decode M_Mod_begins.2.1 2 = .ok (.iload_n 1, 1) := by decide +kernel
theorem e_Mod_begins_3 : decode M_Mod_begins.2.1 3 = .ok (.sipush 210, 3) := by decide +kernel
theorem e_Mod_begins_6 : decode M_Mod_begins.2.1 6 = .ok (.if_icmp .ge 16, 3) := by decide +kernel
theorem e_Mod_begins_9 : decode M_Mod_begins.2.1 9 = .ok (.aload_n 0, 1) := by decide +kernel
theorem e_Mod_begins_10 : decode M_Mod_begins.2.1 10 = .ok (.getfield 9, 3) := by decide +kernel
theorem e_Mod_begins_13 : decode M_Mod_begins.2.1 13 = .ok (.iload_n 1, 1) := by decide +kernel
theorem e_Mod_begins_14 : decode M_Mod_begins.2.1 14 = .ok (.iconst 0, 1) := by decide +kernel
theorem e_Mod_begins_15 : decode M_Mod_begins.2.1 15 = .ok (.iastore, 1) := by decide +kernel
theorem e_Mod_begins_16 : decode M_Mod_begins.2.1 16 = .ok (.iinc 1 1, 3) := by decide +kernel
theorem e_Mod_begins_19 : decode M_Mod_begins.2.1 19 = .ok (.goto (-17), 3) := by decide +kernel
theorem e_Mod_begins_22 : decode M_Mod_begins.2.1 22 = .ok (.iconst 0, 1) := by decide +kernel
theorem e_Mod_begins_23 : decode M_Mod_begins.2.1 23 = .ok (.istore_n 1, 1) := by decide +kernel
theorem e_Mod_begins_24 : decode M_Mod_begins.2.1 24 = .ok (.iload_n 1, 1) := by decide +kernel
theorem e_Mod_begins_25 : decode M_Mod_begins.2.1 25 = .ok (.aload_n 0, 1) := by decide +kernel
theorem e_Mod_begins_26 : decode M_Mod_begins.2.1 26 = .ok (.getfield 183, 3) := by decide +kernel
theorem e_Mod_begins_29 : decode M_Mod_begins.2.1 29 = .ok (.if_icmp .ge 62, 3) := by decide +kernel
theorem e_Mod_begins_32 : decode M_Mod_begins.2.1 32 = .ok (.aload_n 0, 1) := by decide +kernel
theorem e_Mod_begins_33 : decode M_Mod_begins.2.1 33 = .ok (.getfield 9, 3) := by decide +kernel
theorem e_Mod_begins_36 : decode M_Mod_begins.2.1 36 = .ok (.iconst 0, 1) := by decide +kernel
theorem e_Mod_begins_37 : decode M_Mod_begins.2.1 37 = .ok (.iload_n 1, 1) := by decide +kernel
theorem e_Mod_begins_38 : decode M_Mod_begins.2.1 38 = .ok (.invokestatic 193, 3) := by decide +kernel
theorem e_Mod_begins_41 : decode M_Mod_begins.2.1 41 = .ok (.iconst 0, 1) := by decide +kernel
theorem e_Mod_begins_42 : decode M_Mod_begins.2.1 42 = .ok (.iadd, 1) := by decide +kernel
theorem e_Mod_begins_43 : decode M_Mod_begins.2.1 43 = .ok (.aload_n 0, 1) := by decide +kernel
theorem e_Mod_begins_44 : decode M_Mod_begins.2.1 44 = .ok (.iload_n 1, 1) := by decide +kernel
theorem e_Mod_begins_45 : decode M_Mod_begins.2.1 45 = .ok (.iconst 2, 1) := by decide +kernel
theorem e_Mod_begins_46 : decode M_Mod_begins.2.1 46 = .ok (.invokevirtual 196, 3) := by decide +kernel
theorem e_Mod_begins_49 : decode M_Mod_begins.2.1 49 = .ok (.iconst (-1), 1) := by decide +kernel
theorem e_Mod_begins_50 : decode M_Mod_begins.2.1 50 = .ok (.if_icmp .ne 7, 3) := by decide +kernel
theorem e_Mod_begins_53 : decode M_Mod_begins.2.1 53 = .ok (.iconst 2, 1) := by decide +kernel
theorem e_Mod_begins_54 : decode M_Mod_begins.2.1 54 = .ok (.goto 4, 3) := by decide +kernel
theorem e_Mod_begins_57 : decode M_Mod_begins.2.1 57 = .ok (.iconst 3, 1) := by decide +kernel
theorem e_Mod_begins_58 : decode M_Mod_begins.2.1 58 = .ok (.iastore, 1) := by decide +kernel
theorem e_Mod_begins_59 : decode M_Mod_begins.2.1 59 = .ok (.aload_n 0, 1) := by decide +kernel
theorem e_Mod_begins_60 : decode M_Mod_begins.2.1 60 = .ok (.getfield 9, 3) := by decide +kernel
theorem e_Mod_begins_63 : decode M_Mod_begins.2.1 63 = .ok (.iconst 0, 1) := by decide +kernel
theorem e_Mod_begins_64 : decode M_Mod_begins.2.1 64 = .ok (.iload_n 1, 1) := by decide +kernel
theorem e_Mod_begins_65 : decode M_Mod_begins.2.1 65 = .ok (.invokestatic 193, 3) := by decide +kernel
theorem e_Mod_begins_68 : decode M_Mod_begins.2.1 68 = .ok (.iconst 1, 1) := by decide +kernel
theorem e_Mod_begins_69 : decode M_Mod_begins.2.1 69 = .ok (.iadd, 1) := by decide +kernel
theorem e_Mod_begins_70 : decode M_Mod_begins.2.1 70 = .ok (.iconst 1, 1) := by decide +kernel
theorem e_Mod_begins_71 : decode M_Mod_begins.2.1 71 = .ok (.iastore, 1) := by decide +kernel
theorem e_Mod_begins_72 : decode M_Mod_begins.2.1 72 = .ok (.aload_n 0, 1) := by decide +kernel
theorem e_Mod_begins_73 : decode M_Mod_begins.2.1 73 = .ok (.getfield 9, 3) := by decide +kernel
theorem e_Mod_begins_76 : decode M_Mod_begins.2.1 76 = .ok (.iconst 0, 1) := by decide +kernel
theorem e_Mod_begins_77 : decode M_Mod_begins.2.1 77 = .ok (.iload_n 1, 1) := by decide +kernel
theorem e_Mod_begins_78 : decode M_Mod_begins.2.1 78 = .ok (.invokestatic 193, 3) := by decide +kernel
theorem e_Mod_begins_81 : decode M_Mod_begins.2.1 81 = .ok (.iconst 5, 1) := by decide +kernel
theorem e_Mod_begins_82 : decode M_Mod_begins.2.1 82 = .ok (.iadd, 1) := by decide +kernel
theorem e_Mod_begins_83 : decode M_Mod_begins.2.1 83 = .ok (.iconst 1, 1) := by decide +kernel
theorem e_Mod_begins_84 : decode M_Mod_begins.2.1 84 = .ok (.iastore, 1) := by decide +kernel
theorem e_Mod_begins_85 : decode M_Mod_begins.2.1 85 = .ok (.iinc 1 1, 3) := by decide +kernel
theorem e_Mod_begins_88 : decode M_Mod_begins.2.1 88 = .ok (.goto (-64), 3) := by decide +kernel
theorem e_Mod_begins_91 : decode M_Mod_begins.2.1 91 = .ok (.iconst 0, 1) := by decide +kernel
theorem e_Mod_begins_92 : decode M_Mod_begins.2.1 92 = .ok (.istore_n 1, 1) := by decide +kernel
theorem e_Mod_begins_93 : decode M_Mod_begins.2.1 93 = .ok (.iload_n 1, 1) := by decide +kernel
theorem e_Mod_begins_94 : decode M_Mod_begins.2.1 94 = .ok (.aload_n 0, 1) := by decide +kernel
theorem e_Mod_begins_95 : decode M_Mod_begins.2.1 95 = .ok (.getfield 162, 3) := by decide +kernel
theorem e_Mod_begins_98 : decode M_Mod_begins.2.1 98 = .ok (.if_icmp .ge 23, 3) := by decide +kernel
theorem e_Mod_begins_101 : decode M_Mod_begins.2.1 101 = .ok (.aload_n 0, 1) := by decide +kernel
theorem e_Mod_begins_102 : decode M_Mod_begins.2.1 102 = .ok (.getfield 9, 3) := by decide +kernel
theorem e_Mod_begins_105 : decode M_Mod_begins.2.1 105 = .ok (.iconst 0, 1) := by decide +kernel
theorem e_Mod_begins_106 : decode M_Mod_begins.2.1 106 = .ok (.iload_n 1, 1) := by decide +kernel
theorem e_Mod_begins_107 : decode M_Mod_begins.2.1 107 = .ok (.invokestatic 199, 3) := by decide +kernel
theorem e_Mod_begins_110 : decode M_Mod_begins.2.1 110 = .ok (.bipush 8, 2) := by decide +kernel
theorem e_Mod_begins_112 : decode M_Mod_begins.2.1 112 = .ok (.iadd, 1) := by decide +kernel
theorem e_Mod_begins_113 : decode M_Mod_begins.2.1 113 = .ok (.iconst 1, 1) := by decide +kernel
theorem e_Mod_begins_114 : decode M_Mod_begins.2.1 114 = .ok (.iastore, 1) := by decide +kernel
theorem e_Mod_begins_115 : decode M_Mod_begins.2.1 115 = .ok (.iinc 1 1, 3) := by decide +kernel
theorem e_Mod_begins_118 : decode M_Mod_begins.2.1 118 = .ok (.goto (-25), 3) := by decide +kernel
theorem e_Mod_begins_121 : decode M_Mod_begins.2.1 121 = .ok (.aload_n 0, 1) := by decide +kernel
theorem e_Mod_begins_122 : decode M_Mod_begins.2.1 122 = .ok (.getfield 9, 3) := by decide +kernel
theorem e_Mod_begins_125 : decode M_Mod_begins.2.1 125 = .ok (.sipush 205, 3) := by decide +kernel
theorem e_Mod_begins_128 : decode M_Mod_begins.2.1 128 = .ok (.iconst 1, 1) := by decide +kernel
theorem e_Mod_begins_129 : decode M_Mod_begins.2.1 129 = .ok (.aload_n 0, 1) := by decide +kernel
theorem e_Mod_begins_130 : decode M_Mod_begins.2.1 130 = .ok (.getfield 64, 3) := by decide +kernel
theorem e_Mod_begins_133 : decode M_Mod_begins.2.1 133 = .ok (.ishl, 1) := by decide +kernel
theorem e_Mod_begins_134 : decode M_Mod_begins.2.1 134 = .ok (.iconst 1, 1) := by decide +kernel
theorem e_Mod_begins_135 : decode M_Mod_begins.2.1 135 = .ok (.isub, 1) := by decide +kernel
theorem e_Mod_begins_136 : decode M_Mod_begins.2.1 136 = .ok (.iastore, 1) := by decide +kernel
theorem e_Mod_begins_137 : decode M_Mod_begins.2.1 137 = .ok (.return_, 1) := by decide +kernel
theorem e_Mod_at_0 : decode M_Mod_at.2.1 0 = .ok (.iload_n 0, 1) := by decide +kernel
theorem e_Mod_at_1 : decode M_Mod_at.2.1 1 = .ok (.bipush 8, 2) := by decide +kernel
theorem e_Mod_at_3 : decode M_Mod_at.2.1 3 = .ok (.iload_n 1, 1) := by decide +kernel
theorem e_Mod_at_4 : decode M_Mod_at.2.1 4 = .ok (.imul, 1) := by decide +kernel
theorem e_Mod_at_5 : decode M_Mod_at.2.1 5 = .ok (.iadd, 1) := by decide +kernel
theorem e_Mod_at_6 : decode M_Mod_at.2.1 6 = .ok (.ireturn, 1) := by decide +kernel
theorem e_Mod_linkTo_0 : decode M_Mod_linkTo.2.1 0 = .ok (.iconst 0, 1) := by decide +kernel
theorem e_Mod_linkTo_1 : decode M_Mod_linkTo.2.1 1 = .ok (.istore_n 3, 1) := by decide +kernel
theorem e_Mod_linkTo_2 : decode M_Mod_linkTo.2.1 2 = .ok (.iload_n 3, 1) := by decide +kernel
theorem e_Mod_linkTo_3 : decode M_Mod_linkTo.2.1 3 = .ok (.aload_n 0, 1) := by decide +kernel
theorem e_Mod_linkTo_4 : decode M_Mod_linkTo.2.1 4 = .ok (.getfield 162, 3) := by decide +kernel
theorem e_Mod_linkTo_7 : decode M_Mod_linkTo.2.1 7 = .ok (.if_icmp .ge 31, 3) := by decide +kernel
theorem e_Mod_linkTo_10 : decode M_Mod_linkTo.2.1 10 = .ok (.aload_n 0, 1) := by decide +kernel
theorem e_Mod_linkTo_11 : decode M_Mod_linkTo.2.1 11 = .ok (.getfield 37, 3) := by decide +kernel
theorem e_Mod_linkTo_14 : decode M_Mod_linkTo.2.1 14 = .ok (.iload_n 3, 1) := by decide +kernel
theorem e_Mod_linkTo_15 : decode M_Mod_linkTo.2.1 15 = .ok (.iaload, 1) := by decide +kernel
theorem e_Mod_linkTo_16 : decode M_Mod_linkTo.2.1 16 = .ok (.iload_n 1, 1) := by decide +kernel
theorem e_Mod_linkTo_17 : decode M_Mod_linkTo.2.1 17 = .ok (.if_icmp .ne 15, 3) := by decide +kernel
theorem e_Mod_linkTo_20 : decode M_Mod_linkTo.2.1 20 = .ok (.aload_n 0, 1) := by decide +kernel
theorem e_Mod_linkTo_21 : decode M_Mod_linkTo.2.1 21 = .ok (.getfield 40, 3) := by decide +kernel
theorem e_Mod_linkTo_24 : decode M_Mod_linkTo.2.1 24 = .ok (.iload_n 3, 1) := by decide +kernel
theorem e_Mod_linkTo_25 : decode M_Mod_linkTo.2.1 25 = .ok (.iaload, 1) := by decide +kernel
theorem e_Mod_linkTo_26 : decode M_Mod_linkTo.2.1 26 = .ok (.iload_n 2, 1) := by decide +kernel
theorem e_Mod_linkTo_27 : decode M_Mod_linkTo.2.1 27 = .ok (.if_icmp .ne 5, 3) := by decide +kernel
theorem e_Mod_linkTo_30 : decode M_Mod_linkTo.2.1 30 = .ok (.iload_n 3, 1) := by decide +kernel
theorem e_Mod_linkTo_31 : decode M_Mod_linkTo.2.1 31 = .ok (.ireturn, 1) := by decide +kernel
theorem e_Mod_linkTo_32 : decode M_Mod_linkTo.2.1 32 = .ok (.iinc 3 1, 3) := by decide +kernel
theorem e_Mod_linkTo_35 : decode M_Mod_linkTo.2.1 35 = .ok (.goto (-33), 3) := by decide +kernel
theorem e_Mod_linkTo_38 : decode M_Mod_linkTo.2.1 38 = .ok (.iconst (-1), 1) := by decide +kernel
theorem e_Mod_linkTo_39 : decode M_Mod_linkTo.2.1 39 = .ok (.ireturn, 1) := by decide +kernel
theorem e_Mod_linkAt_0 : decode M_Mod_linkAt.2.1 0 = .ok (.iload_n 0, 1) := by decide +kernel
theorem e_Mod_linkAt_1 : decode M_Mod_linkAt.2.1 1 = .ok (.bipush 80, 2) := by decide +kernel
theorem e_Mod_linkAt_3 : decode M_Mod_linkAt.2.1 3 = .ok (.iadd, 1) := by decide +kernel
theorem e_Mod_linkAt_4 : decode M_Mod_linkAt.2.1 4 = .ok (.bipush 10, 2) := by decide +kernel
theorem e_Mod_linkAt_6 : decode M_Mod_linkAt.2.1 6 = .ok (.iload_n 1, 1) := by decide +kernel
theorem e_Mod_linkAt_7 : decode M_Mod_linkAt.2.1 7 = .ok (.imul, 1) := by decide +kernel
theorem e_Mod_linkAt_8 : decode M_Mod_linkAt.2.1 8 = .ok (.iadd, 1) := by decide +kernel
theorem e_Mod_linkAt_9 : decode M_Mod_linkAt.2.1 9 = .ok (.ireturn, 1) := by decide +kernel
theorem e_Mod_thrown_0 : decode M_Mod_thrown.2.1 0 = .ok (.aload_n 0, 1) := by decide +kernel
theorem e_Mod_thrown_1 : decode M_Mod_thrown.2.1 1 = .ok (.getfield 159, 3) := by decide +kernel
theorem e_Mod_thrown_4 : decode M_Mod_thrown.2.1 4 = .ok (.ireturn, 1) := by decide +kernel
theorem e_Mod_feed_0 : decode M_Mod_feed.2.1 0 = .ok (.aload_n 0, 1) := by decide +kernel
theorem e_Mod_feed_1 : decode M_Mod_feed.2.1 1 = .ok (.iconst 0, 1) := by decide +kernel
theorem e_Mod_feed_2 : decode M_Mod_feed.2.1 2 = .ok (.putfield 159, 3) := by decide +kernel
theorem e_Mod_feed_5 : decode M_Mod_feed.2.1 5 = .ok (.aload_n 0, 1) := by decide +kernel
theorem e_Mod_feed_6 : decode M_Mod_feed.2.1 6 = .ok (.getfield 369, 3) := by decide +kernel
theorem e_Mod_feed_9 : decode M_Mod_feed.2.1 9 = .ok (.bipush 20, 2) := by decide +kernel
theorem e_Mod_feed_11 : decode M_Mod_feed.2.1 11 = .ok (.iadd, 1) := by decide +kernel
theorem e_Mod_feed_12 : decode M_Mod_feed.2.1 12 = .ok (.sipush 900, 3) := by decide +kernel
theorem e_Mod_feed_15 : decode M_Mod_feed.2.1 15 = .ok (.if_icmp .le 5, 3) := by decide +kernel
theorem e_Mod_feed_18 : decode M_Mod_feed.2.1 18 = .ok (.iconst (-1), 1) := by decide +kernel
theorem e_Mod_feed_19 : decode M_Mod_feed.2.1 19 = .ok (.ireturn, 1) := by decide +kernel
theorem e_Mod_feed_20 : decode M_Mod_feed.2.1 20 = .ok (.iconst 0, 1) := by decide +kernel
theorem e_Mod_feed_21 : decode M_Mod_feed.2.1 21 = .ok (.istore 6, 2) := by decide +kernel
theorem e_Mod_feed_23 : decode M_Mod_feed.2.1 23 = .ok (.iload 6, 2) := by decide +kernel
theorem e_Mod_feed_25 : decode M_Mod_feed.2.1 25 = .ok (.bipush 20, 2) := by decide +kernel
theorem e_Mod_feed_27 : decode M_Mod_feed.2.1 27 = .ok (.if_icmp .ge 86, 3) := by decide +kernel
theorem e_Mod_feed_30 : decode M_Mod_feed.2.1 30 = .ok (.iload 6, 2) := by decide +kernel
theorem e_Mod_feed_32 : decode M_Mod_feed.2.1 32 = .ok (.iconst 4, 1) := by decide +kernel
theorem e_Mod_feed_33 : decode M_Mod_feed.2.1 33 = .ok (.if_icmp .ge 7, 3) := by decide +kernel
theorem e_Mod_feed_36 : decode M_Mod_feed.2.1 36 = .ok (.iload_n 1, 1) := by decide +kernel
theorem e_Mod_feed_37 : decode M_Mod_feed.2.1 37 = .ok (.goto 39, 3) := by decide +kernel
theorem e_Mod_feed_40 : decode M_Mod_feed.2.1 40 = .ok (.iload 6, 2) := by decide +kernel
theorem e_Mod_feed_42 : decode M_Mod_feed.2.1 42 = .ok (.bipush 8, 2) := by decide +kernel
theorem e_Mod_feed_44 : decode M_Mod_feed.2.1 44 = .ok (.if_icmp .ge 7, 3) := by decide +kernel
theorem e_Mod_feed_47 : decode M_Mod_feed.2.1 47 = .ok (.iload_n 2, 1) := by decide +kernel
theorem e_Mod_feed_48 : decode M_Mod_feed.2.1 48 = .ok (.goto 28, 3) := by decide +kernel
theorem e_Mod_feed_51 : decode M_Mod_feed.2.1 51 = .ok (.iload 6, 2) := by decide +kernel
theorem e_Mod_feed_53 : decode M_Mod_feed.2.1 53 = .ok (.bipush 12, 2) := by decide +kernel
theorem e_Mod_feed_55 : decode M_Mod_feed.2.1 55 = .ok (.if_icmp .ge 7, 3) := by decide +kernel
theorem e_Mod_feed_58 : decode M_Mod_feed.2.1 58 = .ok (.iload_n 3, 1) := by decide +kernel
theorem e_Mod_feed_59 : decode M_Mod_feed.2.1 59 = .ok (.goto 17, 3) := by decide +kernel
theorem e_Mod_feed_62 : decode M_Mod_feed.2.1 62 = .ok (.iload 6, 2) := by decide +kernel
theorem e_Mod_feed_64 : decode M_Mod_feed.2.1 64 = .ok (.bipush 16, 2) := by decide +kernel
theorem e_Mod_feed_66 : decode M_Mod_feed.2.1 66 = .ok (.if_icmp .ge 8, 3) := by decide +kernel
theorem e_Mod_feed_69 : decode M_Mod_feed.2.1 69 = .ok (.iload 4, 2) := by decide +kernel
theorem e_Mod_feed_71 : decode M_Mod_feed.2.1 71 = .ok (.goto 5, 3) := by decide +kernel
theorem e_Mod_feed_74 : decode M_Mod_feed.2.1 74 = .ok (.iload 5, 2) := by decide +kernel
theorem e_Mod_feed_76 : decode M_Mod_feed.2.1 76 = .ok (.istore 7, 2) := by decide +kernel
theorem e_Mod_feed_78 : decode M_Mod_feed.2.1 78 = .ok (.aload_n 0, 1) := by decide +kernel
theorem e_Mod_feed_79 : decode M_Mod_feed.2.1 79 = .ok (.getfield 74, 3) := by decide +kernel
theorem e_Mod_feed_82 : decode M_Mod_feed.2.1 82 = .ok (.aload_n 0, 1) := by decide +kernel
theorem e_Mod_feed_83 : decode M_Mod_feed.2.1 83 = .ok (.getfield 369, 3) := by decide +kernel
theorem e_Mod_feed_86 : decode M_Mod_feed.2.1 86 = .ok (.iload 6, 2) := by decide +kernel
theorem e_Mod_feed_88 : decode M_Mod_feed.2.1 88 = .ok (.iadd, 1) := by decide +kernel
theorem e_Mod_feed_89 : decode M_Mod_feed.2.1 89 = .ok (.iload 7, 2) := by decide +kernel
theorem e_Mod_feed_91 : decode M_Mod_feed.2.1 91 = .ok (.bipush 24, 2) := by decide +kernel
theorem e_Mod_feed_93 : decode M_Mod_feed.2.1 93 = .ok (.bipush 8, 2) := by decide +kernel
theorem e_Mod_feed_95 : decode M_Mod_feed.2.1 95 = .ok (.iload 6, 2) := by decide +kernel
theorem e_Mod_feed_97 : decode M_Mod_feed.2.1 97 = .ok (.iconst 4, 1) := by decide +kernel
theorem e_Mod_feed_98 : decode M_Mod_feed.2.1 98 = .ok (.irem, 1) := by decide +kernel
theorem e_Mod_feed_99 : decode M_Mod_feed.2.1 99 = .ok (.imul, 1) := by decide +kernel
theorem e_Mod_feed_100 : decode M_Mod_feed.2.1 100 = .ok (.isub, 1) := by decide +kernel
theorem e_Mod_feed_101 : decode M_Mod_feed.2.1 101 = .ok (.ishr, 1) := by decide +kernel
theorem e_Mod_feed_102 : decode M_Mod_feed.2.1 102 = .ok (.sipush 255, 3) := by decide +kernel
theorem e_Mod_feed_105 : decode M_Mod_feed.2.1 105 = .ok (.iand, 1) := by decide +kernel
theorem e_Mod_feed_106 : decode M_Mod_feed.2.1 106 = .ok (.iastore, 1) := by decide +kernel
theorem e_Mod_feed_107 : decode M_Mod_feed.2.1 107 = .ok (.iinc 6 1, 3) := by decide +kernel
theorem e_Mod_feed_110 : decode M_Mod_feed.2.1 110 = .ok (.goto (-87), 3) := by decide +kernel
theorem e_Mod_feed_113 : decode M_Mod_feed.2.1 113 = .ok (.aload_n 0, 1) := by decide +kernel
theorem e_Mod_feed_114 : decode M_Mod_feed.2.1 114 = .ok (.dup, 1) := by decide +kernel
theorem e_Mod_feed_115 : decode M_Mod_feed.2.1 115 = .ok (.getfield 369, 3) := by decide +kernel
theorem e_Mod_feed_118 : decode M_Mod_feed.2.1 118 = .ok (.bipush 20, 2) := by decide +kernel
theorem e_Mod_feed_120 : decode M_Mod_feed.2.1 120 = .ok (.iadd, 1) := by decide +kernel
theorem e_Mod_feed_121 : decode M_Mod_feed.2.1 121 = .ok (.putfield 369, 3) := by decide +kernel
theorem e_Mod_feed_124 : decode M_Mod_feed.2.1 124 = .ok (.aload_n 0, 1) := by decide +kernel
theorem e_Mod_feed_125 : decode M_Mod_feed.2.1 125 = .ok (.getfield 369, 3) := by decide +kernel
theorem e_Mod_feed_128 : decode M_Mod_feed.2.1 128 = .ok (.ireturn, 1) := by decide +kernel
theorem e_Mod_bus_0 : decode M_Mod_bus.2.1 0 = .ok (.aload_n 0, 1) := by decide +kernel
theorem e_Mod_bus_1 : decode M_Mod_bus.2.1 1 = .ok (.iconst 0, 1) := by decide +kernel
theorem e_Mod_bus_2 : decode M_Mod_bus.2.1 2 = .ok (.putfield 159, 3) := by decide +kernel
theorem e_Mod_bus_5 : decode M_Mod_bus.2.1 5 = .ok (.aload_n 0, 1) := by decide +kernel
theorem e_Mod_bus_6 : decode M_Mod_bus.2.1 6 = .ok (.iload_n 1, 1) := by decide +kernel
theorem e_Mod_bus_7 : decode M_Mod_bus.2.1 7 = .ok (.ifCond .lt 15, 3) := by decide +kernel
theorem e_Mod_bus_10 : decode M_Mod_bus.2.1 10 = .ok (.iload_n 1, 1) := by decide +kernel
theorem e_Mod_bus_11 : decode M_Mod_bus.2.1 11 = .ok (.aload_n 0, 1) := by decide +kernel
theorem e_Mod_bus_12 : decode M_Mod_bus.2.1 12 = .ok (.getfield 369, 3) := by decide +kernel
theorem e_Mod_bus_15 : decode M_Mod_bus.2.1 15 = .ok (.if_icmp .gt 7, 3) := by decide +kernel
theorem e_Mod_bus_18 : decode M_Mod_bus.2.1 18 = .ok (.iconst 1, 1) := by decide +kernel
theorem e_Mod_bus_19 : decode M_Mod_bus.2.1 19 = .ok (.goto 4, 3) := by decide +kernel
theorem e_Mod_bus_22 : decode M_Mod_bus.2.1 22 = .ok (.iconst 0, 1) := by decide +kernel
theorem e_Mod_bus_23 : decode M_Mod_bus.2.1 23 = .ok (.iconst 1, 1) := by decide +kernel
theorem e_Mod_bus_24 : decode M_Mod_bus.2.1 24 = .ok (.invokevirtual 372, 3) := by decide +kernel
theorem e_Mod_bus_27 : decode M_Mod_bus.2.1 27 = .ok (.ifCond .ne 5, 3) := by decide +kernel
theorem e_Mod_bus_30 : decode M_Mod_bus.2.1 30 = .ok (.iconst 0, 1) := by decide +kernel
theorem e_Mod_bus_31 : decode M_Mod_bus.2.1 31 = .ok (.ireturn, 1) := by decide +kernel
theorem e_Mod_bus_32 : decode M_Mod_bus.2.1 32 = .ok (.aload_n 0, 1) := by decide +kernel
theorem e_Mod_bus_33 : decode M_Mod_bus.2.1 33 = .ok (.iconst 0, 1) := by decide +kernel
theorem e_Mod_bus_34 : decode M_Mod_bus.2.1 34 = .ok (.putfield 369, 3) := by decide +kernel
theorem e_Mod_bus_37 : decode M_Mod_bus.2.1 37 = .ok (.aload_n 0, 1) := by decide +kernel
theorem e_Mod_bus_38 : decode M_Mod_bus.2.1 38 = .ok (.iload_n 1, 1) := by decide +kernel
theorem e_Mod_bus_39 : decode M_Mod_bus.2.1 39 = .ok (.putfield 273, 3) := by decide +kernel
theorem e_Mod_bus_42 : decode M_Mod_bus.2.1 42 = .ok (.aload_n 0, 1) := by decide +kernel
theorem e_Mod_bus_43 : decode M_Mod_bus.2.1 43 = .ok (.iconst 0, 1) := by decide +kernel
theorem e_Mod_bus_44 : decode M_Mod_bus.2.1 44 = .ok (.putfield 283, 3) := by decide +kernel
theorem e_Mod_bus_47 : decode M_Mod_bus.2.1 47 = .ok (.aload_n 0, 1) := by decide +kernel
theorem e_Mod_bus_48 : decode M_Mod_bus.2.1 48 = .ok (.iconst 0, 1) := by decide +kernel
theorem e_Mod_bus_49 : decode M_Mod_bus.2.1 49 = .ok (.putfield 305, 3) := by decide +kernel
theorem e_Mod_bus_52 : decode M_Mod_bus.2.1 52 = .ok (.aload_n 0, 1) := by decide +kernel
theorem e_Mod_bus_53 : decode M_Mod_bus.2.1 53 = .ok (.iconst (-1), 1) := by decide +kernel
theorem e_Mod_bus_54 : decode M_Mod_bus.2.1 54 = .ok (.putfield 77, 3) := by decide +kernel
theorem e_Mod_bus_57 : decode M_Mod_bus.2.1 57 = .ok (.aload_n 0, 1) := by decide +kernel
theorem e_Mod_bus_58 : decode M_Mod_bus.2.1 58 = .ok (.aload_n 0, 1) := by decide +kernel
theorem e_Mod_bus_59 : decode M_Mod_bus.2.1 59 = .ok (.iconst 2, 1) := by decide +kernel
theorem e_Mod_bus_60 : decode M_Mod_bus.2.1 60 = .ok (.dup_x1, 1) := by decide +kernel
theorem e_Mod_bus_61 : decode M_Mod_bus.2.1 61 = .ok (.putfield 351, 3) := by decide +kernel
theorem e_Mod_bus_64 : decode M_Mod_bus.2.1 64 = .ok (.putfield 321, 3) := by decide +kernel
theorem e_Mod_bus_67 : decode M_Mod_bus.2.1 67 = .ok (.aload_n 0, 1) := by decide +kernel
theorem e_Mod_bus_68 : decode M_Mod_bus.2.1 68 = .ok (.iconst 3, 1) := by decide +kernel
theorem e_Mod_bus_69 : decode M_Mod_bus.2.1 69 = .ok (.putfield 348, 3) := by decide +kernel
theorem e_Mod_bus_72 : decode M_Mod_bus.2.1 72 = .ok (.aload_n 0, 1) := by decide +kernel
theorem e_Mod_bus_73 : decode M_Mod_bus.2.1 73 = .ok (.aload_n 0, 1) := by decide +kernel
theorem e_Mod_bus_74 : decode M_Mod_bus.2.1 74 = .ok (.aload_n 0, 1) := by decide +kernel
theorem e_Mod_bus_75 : decode M_Mod_bus.2.1 75 = .ok (.aload_n 0, 1) := by decide +kernel
theorem e_Mod_bus_76 : decode M_Mod_bus.2.1 76 = .ok (.iconst 0, 1) := by decide +kernel
theorem e_Mod_bus_77 : decode M_Mod_bus.2.1 77 = .ok (.dup_x1, 1) := by decide +kernel
theorem e_Mod_bus_78 : decode M_Mod_bus.2.1 78 = .ok (.putfield 366, 3) := by decide +kernel
theorem e_Mod_bus_81 : decode M_Mod_bus.2.1 81 = .ok (.dup_x1, 1) := by decide +kernel
theorem e_Mod_bus_82 : decode M_Mod_bus.2.1 82 = .ok (.putfield 345, 3) := by decide +kernel
theorem e_Mod_bus_85 : decode M_Mod_bus.2.1 85 = .ok (.dup_x1, 1) := by decide +kernel
theorem e_Mod_bus_86 : decode M_Mod_bus.2.1 86 = .ok (.putfield 333, 3) := by decide +kernel
theorem e_Mod_bus_89 : decode M_Mod_bus.2.1 89 = .ok (.putfield 318, 3) := by decide +kernel
theorem e_Mod_bus_92 : decode M_Mod_bus.2.1 92 = .ok (.iconst 0, 1) := by decide +kernel
theorem e_Mod_bus_93 : decode M_Mod_bus.2.1 93 = .ok (.istore_n 2, 1) := by decide +kernel
theorem e_Mod_bus_94 : decode M_Mod_bus.2.1 94 = .ok (.iload_n 2, 1) := by decide +kernel
theorem e_Mod_bus_95 : decode M_Mod_bus.2.1 95 = .ok (.iconst 4, 1) := by decide +kernel
theorem e_Mod_bus_96 : decode M_Mod_bus.2.1 96 = .ok (.if_icmp .ge 16, 3) := by decide +kernel
theorem e_Mod_bus_99 : decode M_Mod_bus.2.1 99 = .ok (.aload_n 0, 1) := by decide +kernel
theorem e_Mod_bus_100 : decode M_Mod_bus.2.1 100 = .ok (.getfield 138, 3) := by decide +kernel
theorem e_Mod_bus_103 : decode M_Mod_bus.2.1 103 = .ok (.iload_n 2, 1) := by decide +kernel
theorem e_Mod_bus_104 : decode M_Mod_bus.2.1 104 = .ok (.iconst (-1), 1) := by decide +kernel
theorem e_Mod_bus_105 : decode M_Mod_bus.2.1 105 = .ok (.iastore, 1) := by decide +kernel
theorem e_Mod_bus_106 : decode M_Mod_bus.2.1 106 = .ok (.iinc 2 1, 3) := by decide +kernel
theorem e_Mod_bus_109 : decode M_Mod_bus.2.1 109 = .ok (.goto (-15), 3) := by decide +kernel
theorem e_Mod_bus_112 : decode M_Mod_bus.2.1 112 = .ok (.aload_n 0, 1) := by decide +kernel
theorem e_Mod_bus_113 : decode M_Mod_bus.2.1 113 = .ok (.invokevirtual 315, 3) := by decide +kernel
theorem e_Mod_bus_116 : decode M_Mod_bus.2.1 116 = .ok (.aload_n 0, 1) := by decide +kernel
theorem e_Mod_bus_117 : decode M_Mod_bus.2.1 117 = .ok (.getfield 305, 3) := by decide +kernel
theorem e_Mod_bus_120 : decode M_Mod_bus.2.1 120 = .ok (.ifCond .ne 59, 3) := by decide +kernel
theorem e_Mod_bus_123 : decode M_Mod_bus.2.1 123 = .ok (.aload_n 0, 1) := by decide +kernel
theorem e_Mod_bus_124 : decode M_Mod_bus.2.1 124 = .ok (.getfield 295, 3) := by decide +kernel
theorem e_Mod_bus_127 : decode M_Mod_bus.2.1 127 = .ok (.ifCond .eq 52, 3) := by decide +kernel
theorem e_Mod_bus_130 : decode M_Mod_bus.2.1 130 = .ok (.aload_n 0, 1) := by decide +kernel
theorem e_Mod_bus_131 : decode M_Mod_bus.2.1 131 = .ok (.invokevirtual 375, 3) := by decide +kernel
theorem e_Mod_bus_134 : decode M_Mod_bus.2.1 134 = .ok (.aload_n 0, 1) := by decide +kernel
theorem e_Mod_bus_135 : decode M_Mod_bus.2.1 135 = .ok (.dup, 1) := by decide +kernel
theorem e_Mod_bus_136 : decode M_Mod_bus.2.1 136 = .ok (.getfield 366, 3) := by decide +kernel
theorem e_Mod_bus_139 : decode M_Mod_bus.2.1 139 = .ok (.iconst 1, 1) := by decide +kernel
theorem e_Mod_bus_140 : decode M_Mod_bus.2.1 140 = .ok (.iadd, 1) := by decide +kernel
theorem e_Mod_bus_141 : decode M_Mod_bus.2.1 141 = .ok (.putfield 366, 3) := by decide +kernel
theorem e_Mod_bus_144 : decode M_Mod_bus.2.1 144 = .ok (.aload_n 0, 1) := by decide +kernel
theorem e_Mod_bus_145 : decode M_Mod_bus.2.1 145 = .ok (.getfield 305, 3) := by decide +kernel
theorem e_Mod_bus_148 : decode M_Mod_bus.2.1 148 = .ok (.ifCond .ne (-32), 3) := by decide +kernel
theorem e_Mod_bus_151 : decode M_Mod_bus.2.1 151 = .ok (.aload_n 0, 1) := by decide +kernel
theorem e_Mod_bus_152 : decode M_Mod_bus.2.1 152 = .ok (.aload_n 0, 1) := by decide +kernel
theorem e_Mod_bus_153 : decode M_Mod_bus.2.1 153 = .ok (.getfield 295, 3) := by decide +kernel
theorem e_Mod_bus_156 : decode M_Mod_bus.2.1 156 = .ok (.iconst 3, 1) := by decide +kernel
theorem e_Mod_bus_157 : decode M_Mod_bus.2.1 157 = .ok (.if_icmp .ne 7, 3) := by decide +kernel
theorem e_Mod_bus_160 : decode M_Mod_bus.2.1 160 = .ok (.iconst 1, 1) := by decide +kernel
theorem e_Mod_bus_161 : decode M_Mod_bus.2.1 161 = .ok (.goto 4, 3) := by decide +kernel
theorem e_Mod_bus_164 : decode M_Mod_bus.2.1 164 = .ok (.iconst 0, 1) := by decide +kernel
theorem e_Mod_bus_165 : decode M_Mod_bus.2.1 165 = .ok (.iconst 1, 1) := by decide +kernel
theorem e_Mod_bus_166 : decode M_Mod_bus.2.1 166 = .ok (.invokevirtual 308, 3) := by decide +kernel
theorem e_Mod_bus_169 : decode M_Mod_bus.2.1 169 = .ok (.ifCond .eq (-53), 3) := by decide +kernel
theorem e_Mod_bus_172 : decode M_Mod_bus.2.1 172 = .ok (.aload_n 0, 1) := by decide +kernel
theorem e_Mod_bus_173 : decode M_Mod_bus.2.1 173 = .ok (.invokevirtual 315, 3) := by decide +kernel
theorem e_Mod_bus_176 : decode M_Mod_bus.2.1 176 = .ok (.goto (-60), 3) := by decide +kernel
theorem e_Mod_bus_179 : decode M_Mod_bus.2.1 179 = .ok (.aload_n 0, 1) := by decide +kernel
theorem e_Mod_bus_180 : decode M_Mod_bus.2.1 180 = .ok (.getfield 305, 3) := by decide +kernel
theorem e_Mod_bus_183 : decode M_Mod_bus.2.1 183 = .ok (.ifCond .eq 18, 3) := by decide +kernel
theorem e_Mod_bus_186 : decode M_Mod_bus.2.1 186 = .ok (.aload_n 0, 1) := by decide +kernel
theorem e_Mod_bus_187 : decode M_Mod_bus.2.1 187 = .ok (.getfield 61, 3) := by decide +kernel
theorem e_Mod_bus_190 : decode M_Mod_bus.2.1 190 = .ok (.iconst 0, 1) := by decide +kernel
theorem e_Mod_bus_191 : decode M_Mod_bus.2.1 191 = .ok (.dup2, 1) := by decide +kernel
theorem e_Mod_bus_192 : decode M_Mod_bus.2.1 192 = .ok (.iaload, 1) := by decide +kernel
theorem e_Mod_bus_193 : decode M_Mod_bus.2.1 193 = .ok (.iconst 1, 1) := by decide +kernel
theorem e_Mod_bus_194 : decode M_Mod_bus.2.1 194 = .ok (.iadd, 1) := by decide +kernel
theorem e_Mod_bus_195 : decode M_Mod_bus.2.1 195 = .ok (.iastore, 1) := by decide +kernel
theorem e_Mod_bus_196 : decode M_Mod_bus.2.1 196 = .ok (.aload_n 0, 1) := by decide +kernel
theorem e_Mod_bus_197 : decode M_Mod_bus.2.1 197 = .ok (.getfield 305, 3) := by decide +kernel
theorem e_Mod_bus_200 : decode M_Mod_bus.2.1 200 = .ok (.ireturn, 1) := by decide +kernel
theorem e_Mod_bus_201 : decode M_Mod_bus.2.1 201 = .ok (.aload_n 0, 1) := by decide +kernel
theorem e_Mod_bus_202 : decode M_Mod_bus.2.1 202 = .ok (.invokevirtual 378, 3) := by decide +kernel
theorem e_Mod_bus_205 : decode M_Mod_bus.2.1 205 = .ok (.iconst 0, 1) := by decide +kernel
theorem e_Mod_bus_206 : decode M_Mod_bus.2.1 206 = .ok (.ireturn, 1) := by decide +kernel
theorem e_Mod_right_0 : decode M_Mod_right.2.1 0 = .ok (.aload_n 0, 1) := by decide +kernel
theorem e_Mod_right_1 : decode M_Mod_right.2.1 1 = .ok (.getfield 159, 3) := by decide +kernel
theorem e_Mod_right_4 : decode M_Mod_right.2.1 4 = .ok (.ifCond .ne 12, 3) := by decide +kernel
theorem e_Mod_right_7 : decode M_Mod_right.2.1 7 = .ok (.iload_n 1, 1) := by decide +kernel
theorem e_Mod_right_8 : decode M_Mod_right.2.1 8 = .ok (.ifCond .ne 8, 3) := by decide +kernel
theorem e_Mod_right_11 : decode M_Mod_right.2.1 11 = .ok (.aload_n 0, 1) := by decide +kernel
theorem e_Mod_right_12 : decode M_Mod_right.2.1 12 = .ok (.iload_n 2, 1) := by decide +kernel
theorem e_Mod_right_13 : decode M_Mod_right.2.1 13 = .ok (.putfield 159, 3) := by decide +kernel
theorem e_Mod_right_16 : decode M_Mod_right.2.1 16 = .ok (.aload_n 0, 1) := by decide +kernel
theorem e_Mod_right_17 : decode M_Mod_right.2.1 17 = .ok (.getfield 159, 3) := by decide +kernel
theorem e_Mod_right_20 : decode M_Mod_right.2.1 20 = .ok (.ifCond .ne 7, 3) := by decide +kernel
theorem e_Mod_right_23 : decode M_Mod_right.2.1 23 = .ok (.iconst 1, 1) := by decide +kernel
theorem e_Mod_right_24 : decode M_Mod_right.2.1 24 = .ok (.goto 4, 3) := by decide +kernel
theorem e_Mod_right_27 : decode M_Mod_right.2.1 27 = .ok (.iconst 0, 1) := by decide +kernel
theorem e_Mod_right_28 : decode M_Mod_right.2.1 28 = .ok (.ireturn, 1) := by decide +kernel
theorem e_Mod_go_0 : decode M_Mod_go.2.1 0 = .ok (.aload_n 0, 1) := by decide +kernel
theorem e_Mod_go_1 : decode M_Mod_go.2.1 1 = .ok (.getfield 283, 3) := by decide +kernel
theorem e_Mod_go_4 : decode M_Mod_go.2.1 4 = .ok (.aload_n 0, 1) := by decide +kernel
theorem e_Mod_go_5 : decode M_Mod_go.2.1 5 = .ok (.getfield 273, 3) := by decide +kernel
theorem e_Mod_go_8 : decode M_Mod_go.2.1 8 = .ok (.if_icmp .ge 42, 3) := by decide +kernel
theorem e_Mod_go_11 : decode M_Mod_go.2.1 11 = .ok (.aload_n 0, 1) := by decide +kernel
theorem e_Mod_go_12 : decode M_Mod_go.2.1 12 = .ok (.aload_n 0, 1) := by decide +kernel
theorem e_Mod_go_13 : decode M_Mod_go.2.1 13 = .ok (.getfield 283, 3) := by decide +kernel
theorem e_Mod_go_16 : decode M_Mod_go.2.1 16 = .ok (.invokevirtual 280, 3) := by decide +kernel
theorem e_Mod_go_19 : decode M_Mod_go.2.1 19 = .ok (.bipush 32, 2) := by decide +kernel
theorem e_Mod_go_21 : decode M_Mod_go.2.1 21 = .ok (.if_icmp .eq 16, 3) := by decide +kernel
theorem e_Mod_go_24 : decode M_Mod_go.2.1 24 = .ok (.aload_n 0, 1) := by decide +kernel
theorem e_Mod_go_25 : decode M_Mod_go.2.1 25 = .ok (.aload_n 0, 1) := by decide +kernel
theorem e_Mod_go_26 : decode M_Mod_go.2.1 26 = .ok (.getfield 283, 3) := by decide +kernel
theorem e_Mod_go_29 : decode M_Mod_go.2.1 29 = .ok (.invokevirtual 280, 3) := by decide +kernel
theorem e_Mod_go_32 : decode M_Mod_go.2.1 32 = .ok (.bipush 10, 2) := by decide +kernel
theorem e_Mod_go_34 : decode M_Mod_go.2.1 34 = .ok (.if_icmp .ne 16, 3) := by decide +kernel
theorem e_Mod_go_37 : decode M_Mod_go.2.1 37 = .ok (.aload_n 0, 1) := by decide +kernel
theorem e_Mod_go_38 : decode M_Mod_go.2.1 38 = .ok (.dup, 1) := by decide +kernel
theorem e_Mod_go_39 : decode M_Mod_go.2.1 39 = .ok (.getfield 283, 3) := by decide +kernel
theorem e_Mod_go_42 : decode M_Mod_go.2.1 42 = .ok (.iconst 1, 1) := by decide +kernel
theorem e_Mod_go_43 : decode M_Mod_go.2.1 43 = .ok (.iadd, 1) := by decide +kernel
theorem e_Mod_go_44 : decode M_Mod_go.2.1 44 = .ok (.putfield 283, 3) := by decide +kernel
theorem e_Mod_go_47 : decode M_Mod_go.2.1 47 = .ok (.goto (-47), 3) := by decide +kernel
theorem e_Mod_go_50 : decode M_Mod_go.2.1 50 = .ok (.aload_n 0, 1) := by decide +kernel
theorem e_Mod_go_51 : decode M_Mod_go.2.1 51 = .ok (.aload_n 0, 1) := by decide +kernel
theorem e_Mod_go_52 : decode M_Mod_go.2.1 52 = .ok (.getfield 283, 3) := by decide +kernel
theorem e_Mod_go_55 : decode M_Mod_go.2.1 55 = .ok (.putfield 286, 3) := by decide +kernel
theorem e_Mod_go_58 : decode M_Mod_go.2.1 58 = .ok (.aload_n 0, 1) := by decide +kernel
theorem e_Mod_go_59 : decode M_Mod_go.2.1 59 = .ok (.aload_n 0, 1) := by decide +kernel
theorem e_Mod_go_60 : decode M_Mod_go.2.1 60 = .ok (.getfield 283, 3) := by decide +kernel
theorem e_Mod_go_63 : decode M_Mod_go.2.1 63 = .ok (.invokevirtual 280, 3) := by decide +kernel
theorem e_Mod_go_66 : decode M_Mod_go.2.1 66 = .ok (.istore_n 1, 1) := by decide +kernel
theorem e_Mod_go_67 : decode M_Mod_go.2.1 67 = .ok (.aload_n 0, 1) := by decide +kernel
theorem e_Mod_go_68 : decode M_Mod_go.2.1 68 = .ok (.iconst (-1), 1) := by decide +kernel
theorem e_Mod_go_69 : decode M_Mod_go.2.1 69 = .ok (.putfield 289, 3) := by decide +kernel
theorem e_Mod_go_72 : decode M_Mod_go.2.1 72 = .ok (.aload_n 0, 1) := by decide +kernel
theorem e_Mod_go_73 : decode M_Mod_go.2.1 73 = .ok (.iconst 0, 1) := by decide +kernel
theorem e_Mod_go_74 : decode M_Mod_go.2.1 74 = .ok (.putfield 292, 3) := by decide +kernel
theorem e_Mod_go_77 : decode M_Mod_go.2.1 77 = .ok (.aload_n 0, 1) := by decide +kernel
theorem e_Mod_go_78 : decode M_Mod_go.2.1 78 = .ok (.getfield 283, 3) := by decide +kernel
theorem e_Mod_go_81 : decode M_Mod_go.2.1 81 = .ok (.aload_n 0, 1) := by decide +kernel
theorem e_Mod_go_82 : decode M_Mod_go.2.1 82 = .ok (.getfield 273, 3) := by decide +kernel
theorem e_Mod_go_85 : decode M_Mod_go.2.1 85 = .ok (.if_icmp .lt 11, 3) := by decide +kernel
theorem e_Mod_go_88 : decode M_Mod_go.2.1 88 = .ok (.aload_n 0, 1) := by decide +kernel
theorem e_Mod_go_89 : decode M_Mod_go.2.1 89 = .ok (.iconst 0, 1) := by decide +kernel
theorem e_Mod_go_90 : decode M_Mod_go.2.1 90 = .ok (.putfield 295, 3) := by decide +kernel
theorem e_Mod_go_93 : decode M_Mod_go.2.1 93 = .ok (.goto 187, 3) := by decide +kernel
theorem e_Mod_go_96 : decode M_Mod_go.2.1 96 = .ok (.iload_n 1, 1) := by decide +kernel
theorem e_Mod_go_97 : decode M_Mod_go.2.1 97 = .ok (.invokestatic 298, 3) := by decide +kernel
theorem e_Mod_go_100 : decode M_Mod_go.2.1 100 = .ok (.ifCond .eq 54, 3) := by decide +kernel
theorem e_Mod_go_103 : decode M_Mod_go.2.1 103 = .ok (.aload_n 0, 1) := by decide +kernel
theorem e_Mod_go_104 : decode M_Mod_go.2.1 104 = .ok (.aload_n 0, 1) := by decide +kernel
theorem e_Mod_go_105 : decode M_Mod_go.2.1 105 = .ok (.getfield 283, 3) := by decide +kernel
theorem e_Mod_go_108 : decode M_Mod_go.2.1 108 = .ok (.invokevirtual 280, 3) := by decide +kernel
theorem e_Mod_go_111 : decode M_Mod_go.2.1 111 = .ok (.invokestatic 298, 3) := by decide +kernel
theorem e_Mod_go_114 : decode M_Mod_go.2.1 114 = .ok (.ifCond .eq 16, 3) := by decide +kernel
theorem e_Mod_go_117 : decode M_Mod_go.2.1 117 = .ok (.aload_n 0, 1) := by decide +kernel
theorem e_Mod_go_118 : decode M_Mod_go.2.1 118 = .ok (.dup, 1) := by decide +kernel
theorem e_Mod_go_119 : decode M_Mod_go.2.1 119 = .ok (.getfield 283, 3) := by decide +kernel
theorem e_Mod_go_122 : decode M_Mod_go.2.1 122 = .ok (.iconst 1, 1) := by decide +kernel
theorem e_Mod_go_123 : decode M_Mod_go.2.1 123 = .ok (.iadd, 1) := by decide +kernel
theorem e_Mod_go_124 : decode M_Mod_go.2.1 124 = .ok (.putfield 283, 3) := by decide +kernel
theorem e_Mod_go_127 : decode M_Mod_go.2.1 127 = .ok (.goto (-24), 3) := by decide +kernel
theorem e_Mod_go_130 : decode M_Mod_go.2.1 130 = .ok (.aload_n 0, 1) := by decide +kernel
theorem e_Mod_go_131 : decode M_Mod_go.2.1 131 = .ok (.iconst 1, 1) := by decide +kernel
theorem e_Mod_go_132 : decode M_Mod_go.2.1 132 = .ok (.putfield 295, 3) := by decide +kernel
theorem e_Mod_go_135 : decode M_Mod_go.2.1 135 = .ok (.aload_n 0, 1) := by decide +kernel
theorem e_Mod_go_136 : decode M_Mod_go.2.1 136 = .ok (.aload_n 0, 1) := by decide +kernel
theorem e_Mod_go_137 : decode M_Mod_go.2.1 137 = .ok (.aload_n 0, 1) := by decide +kernel
theorem e_Mod_go_138 : decode M_Mod_go.2.1 138 = .ok (.getfield 286, 3) := by decide +kernel
theorem e_Mod_go_141 : decode M_Mod_go.2.1 141 = .ok (.aload_n 0, 1) := by decide +kernel
theorem e_Mod_go_142 : decode M_Mod_go.2.1 142 = .ok (.getfield 283, 3) := by decide +kernel
theorem e_Mod_go_145 : decode M_Mod_go.2.1 145 = .ok (.invokevirtual 301, 3) := by decide +kernel
theorem e_Mod_go_148 : decode M_Mod_go.2.1 148 = .ok (.putfield 289, 3) := by decide +kernel
theorem e_Mod_go_151 : decode M_Mod_go.2.1 151 = .ok (.goto 129, 3) := by decide +kernel
theorem e_Mod_go_154 : decode M_Mod_go.2.1 154 = .ok (.iload_n 1, 1) := by decide +kernel
theorem e_Mod_go_155 : decode M_Mod_go.2.1 155 = .ok (.bipush 48, 2) := by decide +kernel
theorem e_Mod_go_157 : decode M_Mod_go.2.1 157 = .ok (.if_icmp .lt 98, 3) := by decide +kernel
theorem e_Mod_go_160 : decode M_Mod_go.2.1 160 = .ok (.iload_n 1, 1) := by decide +kernel
theorem e_Mod_go_161 : decode M_Mod_go.2.1 161 = .ok (.bipush 57, 2) := by decide +kernel
theorem e_Mod_go_163 : decode M_Mod_go.2.1 163 = .ok (.if_icmp .gt 92, 3) := by decide +kernel
theorem e_Mod_go_166 : decode M_Mod_go.2.1 166 = .ok (.aload_n 0, 1) := by decide +kernel
theorem e_Mod_go_167 : decode M_Mod_go.2.1 167 = .ok (.aload_n 0, 1) := by decide +kernel
theorem e_Mod_go_168 : decode M_Mod_go.2.1 168 = .ok (.getfield 283, 3) := by decide +kernel
theorem e_Mod_go_171 : decode M_Mod_go.2.1 171 = .ok (.invokevirtual 280, 3) := by decide +kernel
theorem e_Mod_go_174 : decode M_Mod_go.2.1 174 = .ok (.bipush 48, 2) := by decide +kernel
theorem e_Mod_go_176 : decode M_Mod_go.2.1 176 = .ok (.if_icmp .lt 71, 3) := by decide +kernel
theorem e_Mod_go_179 : decode M_Mod_go.2.1 179 = .ok (.aload_n 0, 1) := by decide +kernel
theorem e_Mod_go_180 : decode M_Mod_go.2.1 180 = .ok (.aload_n 0, 1) := by decide +kernel
theorem e_Mod_go_181 : decode M_Mod_go.2.1 181 = .ok (.getfield 283, 3) := by decide +kernel
theorem e_Mod_go_184 : decode M_Mod_go.2.1 184 = .ok (.invokevirtual 280, 3) := by decide +kernel
theorem e_Mod_go_187 : decode M_Mod_go.2.1 187 = .ok (.bipush 57, 2) := by decide +kernel
theorem e_Mod_go_189 : decode M_Mod_go.2.1 189 = .ok (.if_icmp .gt 58, 3) := by decide +kernel
theorem e_Mod_go_192 : decode M_Mod_go.2.1 192 = .ok (.aload_n 0, 1) := by decide +kernel
theorem e_Mod_go_193 : decode M_Mod_go.2.1 193 = .ok (.aload_n 0, 1) := by decide +kernel
theorem e_Mod_go_194 : decode M_Mod_go.2.1 194 = .ok (.getfield 283, 3) := by decide +kernel
theorem e_Mod_go_197 : decode M_Mod_go.2.1 197 = .ok (.aload_n 0, 1) := by decide +kernel
theorem e_Mod_go_198 : decode M_Mod_go.2.1 198 = .ok (.getfield 286, 3) := by decide +kernel
theorem e_Mod_go_201 : decode M_Mod_go.2.1 201 = .ok (.isub, 1) := by decide +kernel
theorem e_Mod_go_202 : decode M_Mod_go.2.1 202 = .ok (.iconst 4, 1) := by decide +kernel
theorem e_Mod_go_203 : decode M_Mod_go.2.1 203 = .ok (.if_icmp .ge 25, 3) := by decide +kernel
theorem e_Mod_go_206 : decode M_Mod_go.2.1 206 = .ok (.bipush 10, 2) := by decide +kernel
theorem e_Mod_go_208 : decode M_Mod_go.2.1 208 = .ok (.aload_n 0, 1) := by decide +kernel
theorem e_Mod_go_209 : decode M_Mod_go.2.1 209 = .ok (.getfield 292, 3) := by decide +kernel
theorem e_Mod_go_212 : decode M_Mod_go.2.1 212 = .ok (.imul, 1) := by decide +kernel
theorem e_Mod_go_213 : decode M_Mod_go.2.1 213 = .ok (.aload_n 0, 1) := by decide +kernel
theorem e_Mod_go_214 : decode M_Mod_go.2.1 214 = .ok (.aload_n 0, 1) := by decide +kernel
theorem e_Mod_go_215 : decode M_Mod_go.2.1 215 = .ok (.getfield 283, 3) := by decide +kernel
theorem e_Mod_go_218 : decode M_Mod_go.2.1 218 = .ok (.invokevirtual 280, 3) := by decide +kernel
theorem e_Mod_go_221 : decode M_Mod_go.2.1 221 = .ok (.iadd, 1) := by decide +kernel
theorem e_Mod_go_222 : decode M_Mod_go.2.1 222 = .ok (.bipush 48, 2) := by decide +kernel
theorem e_Mod_go_224 : decode M_Mod_go.2.1 224 = .ok (.isub, 1) := by decide +kernel
theorem e_Mod_go_225 : decode M_Mod_go.2.1 225 = .ok (.goto 6, 3) := by decide +kernel
theorem e_Mod_go_228 : decode M_Mod_go.2.1 228 = .ok (.ldc_w 304, 3) := by decide +kernel
theorem e_Mod_go_231 : decode M_Mod_go.2.1 231 = .ok (.putfield 292, 3) := by decide +kernel
theorem e_Mod_go_234 : decode M_Mod_go.2.1 234 = .ok (.aload_n 0, 1) := by decide +kernel
theorem e_Mod_go_235 : decode M_Mod_go.2.1 235 = .ok (.dup, 1) := by decide +kernel
theorem e_Mod_go_236 : decode M_Mod_go.2.1 236 = .ok (.getfield 283, 3) := by decide +kernel
theorem e_Mod_go_239 : decode M_Mod_go.2.1 239 = .ok (.iconst 1, 1) := by decide +kernel
theorem e_Mod_go_240 : decode M_Mod_go.2.1 240 = .ok (.iadd, 1) := by decide +kernel
theorem e_Mod_go_241 : decode M_Mod_go.2.1 241 = .ok (.putfield 283, 3) := by decide +kernel
theorem e_Mod_go_244 : decode M_Mod_go.2.1 244 = .ok (.goto (-78), 3) := by decide +kernel
theorem e_Mod_go_247 : decode M_Mod_go.2.1 247 = .ok (.aload_n 0, 1) := by decide +kernel
theorem e_Mod_go_248 : decode M_Mod_go.2.1 248 = .ok (.iconst 2, 1) := by decide +kernel
theorem e_Mod_go_249 : decode M_Mod_go.2.1 249 = .ok (.putfield 295, 3) := by decide +kernel
theorem e_Mod_go_252 : decode M_Mod_go.2.1 252 = .ok (.goto 28, 3) := by decide +kernel
theorem e_Mod_go_255 : decode M_Mod_go.2.1 255 = .ok (.aload_n 0, 1) := by decide +kernel
theorem e_Mod_go_256 : decode M_Mod_go.2.1 256 = .ok (.dup, 1) := by decide +kernel
theorem e_Mod_go_257 : decode M_Mod_go.2.1 257 = .ok (.getfield 283, 3) := by decide +kernel
theorem e_Mod_go_260 : decode M_Mod_go.2.1 260 = .ok (.iconst 1, 1) := by decide +kernel
theorem e_Mod_go_261 : decode M_Mod_go.2.1 261 = .ok (.iadd, 1) := by decide +kernel
theorem e_Mod_go_262 : decode M_Mod_go.2.1 262 = .ok (.putfield 283, 3) := by decide +kernel
theorem e_Mod_go_265 : decode M_Mod_go.2.1 265 = .ok (.aload_n 0, 1) := by decide +kernel
theorem e_Mod_go_266 : decode M_Mod_go.2.1 266 = .ok (.iload_n 1, 1) := by decide +kernel
theorem e_Mod_go_267 : decode M_Mod_go.2.1 267 = .ok (.bipush 59, 2) := by decide +kernel
theorem e_Mod_go_269 : decode M_Mod_go.2.1 269 = .ok (.if_icmp .ne 7, 3) := by decide +kernel
theorem e_Mod_go_272 : decode M_Mod_go.2.1 272 = .ok (.iconst 3, 1) := by decide +kernel
theorem e_Mod_go_273 : decode M_Mod_go.2.1 273 = .ok (.goto 4, 3) := by decide +kernel
theorem e_Mod_go_276 : decode M_Mod_go.2.1 276 = .ok (.iconst 4, 1) := by decide +kernel
theorem e_Mod_go_277 : decode M_Mod_go.2.1 277 = .ok (.putfield 295, 3) := by decide +kernel
theorem e_Mod_go_280 : decode M_Mod_go.2.1 280 = .ok (.return_, 1) := by decide +kernel
theorem e_Mod_byteAt_0 : decode M_Mod_byteAt.2.1 0 = .ok (.iload_n 1, 1) := by decide +kernel
theorem e_Mod_byteAt_1 : decode M_Mod_byteAt.2.1 1 = .ok (.aload_n 0, 1) := by decide +kernel
theorem e_Mod_byteAt_2 : decode M_Mod_byteAt.2.1 2 = .ok (.getfield 273, 3) := by decide +kernel
theorem e_Mod_byteAt_5 : decode M_Mod_byteAt.2.1 5 = .ok (.if_icmp .ge 12, 3) := by decide +kernel
theorem e_Mod_byteAt_8 : decode M_Mod_byteAt.2.1 8 = .ok (.aload_n 0, 1) := by decide +kernel
theorem e_Mod_byteAt_9 : decode M_Mod_byteAt.2.1 9 = .ok (.getfield 74, 3) := by decide +kernel
theorem e_Mod_byteAt_12 : decode M_Mod_byteAt.2.1 12 = .ok (.iload_n 1, 1) := by decide +kernel
theorem e_Mod_byteAt_13 : decode M_Mod_byteAt.2.1 13 = .ok (.iaload, 1) := by decide +kernel
theorem e_Mod_byteAt_14 : decode M_Mod_byteAt.2.1 14 = .ok (.goto 4, 3) := by decide +kernel
theorem e_Mod_byteAt_17 : decode M_Mod_byteAt.2.1 17 = .ok (.iconst 0, 1) := by decide +kernel
theorem e_Mod_byteAt_18 : decode M_Mod_byteAt.2.1 18 = .ok (.ireturn, 1) := by decide +kernel
theorem e_Mod_isLetter_0 : decode M_Mod_isLetter.2.1 0 = .ok (.iload_n 0, 1) := by decide +kernel
theorem e_Mod_isLetter_1 : decode M_Mod_isLetter.2.1 1 = .ok (.bipush 97, 2) := by decide +kernel
theorem e_Mod_isLetter_3 : decode M_Mod_isLetter.2.1 3 = .ok (.if_icmp .lt 13, 3) := by decide +kernel
theorem e_Mod_isLetter_6 : decode M_Mod_isLetter.2.1 6 = .ok (.iload_n 0, 1) := by decide +kernel
theorem e_Mod_isLetter_7 : decode M_Mod_isLetter.2.1 7 = .ok (.bipush 122, 2) := by decide +kernel
theorem e_Mod_isLetter_9 : decode M_Mod_isLetter.2.1 9 = .ok (.if_icmp .gt 7, 3) := by decide +kernel
theorem e_Mod_isLetter_12 : decode M_Mod_isLetter.2.1 12 = .ok (.iconst 1, 1) := by decide +kernel
theorem e_Mod_isLetter_13 : decode M_Mod_isLetter.2.1 13 = .ok (.goto 4, 3) := by decide +kernel
theorem e_Mod_isLetter_16 : decode M_Mod_isLetter.2.1 16 = .ok (.iconst 0, 1) := by decide +kernel
theorem e_Mod_isLetter_17 : decode M_Mod_isLetter.2.1 17 = .ok (.ireturn, 1) := by decide +kernel
theorem e_Mod_wordFrom_0 : decode M_Mod_wordFrom.2.1 0 = .ok (.iconst 0, 1) := by decide +kernel
theorem e_Mod_wordFrom_1 : decode M_Mod_wordFrom.2.1 1 = .ok (.istore_n 3, 1) := by decide +kernel
theorem e_Mod_wordFrom_2 : decode M_Mod_wordFrom.2.1 2 = .ok (.iload_n 1, 1) := by decide +kernel
theorem e_Mod_wordFrom_3 : decode M_Mod_wordFrom.2.1 3 = .ok (.istore 4, 2) := by decide +kernel
theorem e_Mod_wordFrom_5 : decode M_Mod_wordFrom.2.1 5 = .ok (.iconst 1, 1) := by decide +kernel
theorem e_Mod_wordFrom_6 : decode M_Mod_wordFrom.2.1 6 = .ok (.istore 5, 2) := by decide +kernel
theorem e_Mod_wordFrom_8 : decode M_Mod_wordFrom.2.1 8 = .ok (.iconst 0, 1) := by decide +kernel
theorem e_Mod_wordFrom_9 : decode M_Mod_wordFrom.2.1 9 = .ok (.istore 6, 2) := by decide +kernel
theorem e_Mod_wordFrom_11 : decode M_Mod_wordFrom.2.1 11 = .ok (.iload 6, 2) := by decide +kernel
theorem e_Mod_wordFrom_13 : decode M_Mod_wordFrom.2.1 13 = .ok (.getstatic 276, 3) := by decide +kernel
theorem e_Mod_wordFrom_16 : decode M_Mod_wordFrom.2.1 16 = .ok (.arraylength, 1) := by decide +kernel
theorem e_Mod_wordFrom_17 : decode M_Mod_wordFrom.2.1 17 = .ok (.if_icmp .ge 81, 3) := by decide +kernel
theorem e_Mod_wordFrom_20 : decode M_Mod_wordFrom.2.1 20 = .ok (.getstatic 276, 3) := by decide +kernel
theorem e_Mod_wordFrom_23 : decode M_Mod_wordFrom.2.1 23 = .ok (.iload 6, 2) := by decide +kernel
theorem e_Mod_wordFrom_25 : decode M_Mod_wordFrom.2.1 25 = .ok (.baload, 1) := by decide +kernel
theorem e_Mod_wordFrom_26 : decode M_Mod_wordFrom.2.1 26 = .ok (.bipush 32, 2) := by decide +kernel
theorem e_Mod_wordFrom_28 : decode M_Mod_wordFrom.2.1 28 = .ok (.if_icmp .ne 28, 3) := by decide +kernel
theorem e_Mod_wordFrom_31 : decode M_Mod_wordFrom.2.1 31 = .ok (.iload 5, 2) := by decide +kernel
theorem e_Mod_wordFrom_33 : decode M_Mod_wordFrom.2.1 33 = .ok (.ifCond .eq 11, 3) := by decide +kernel
theorem e_Mod_wordFrom_36 : decode M_Mod_wordFrom.2.1 36 = .ok (.iload 4, 2) := by decide +kernel
theorem e_Mod_wordFrom_38 : decode M_Mod_wordFrom.2.1 38 = .ok (.iload_n 2, 1) := by decide +kernel
theorem e_Mod_wordFrom_39 : decode M_Mod_wordFrom.2.1 39 = .ok (.if_icmp .ne 5, 3) := by decide +kernel
theorem e_Mod_wordFrom_42 : decode M_Mod_wordFrom.2.1 42 = .ok (.iload_n 3, 1) := by decide +kernel
theorem e_Mod_wordFrom_43 : decode M_Mod_wordFrom.2.1 43 = .ok (.ireturn, 1) := by decide +kernel
theorem e_Mod_wordFrom_44 : decode M_Mod_wordFrom.2.1 44 = .ok (.iinc 3 1, 3) := by decide +kernel
theorem e_Mod_wordFrom_47 : decode M_Mod_wordFrom.2.1 47 = .ok (.iload_n 1, 1) := by decide +kernel
theorem e_Mod_wordFrom_48 : decode M_Mod_wordFrom.2.1 48 = .ok (.istore 4, 2) := by decide +kernel
theorem e_Mod_wordFrom_50 : decode M_Mod_wordFrom.2.1 50 = .ok (.iconst 1, 1) := by decide +kernel
theorem e_Mod_wordFrom_51 : decode M_Mod_wordFrom.2.1 51 = .ok (.istore 5, 2) := by decide +kernel
theorem e_Mod_wordFrom_53 : decode M_Mod_wordFrom.2.1 53 = .ok (.goto 39, 3) := by decide +kernel
theorem e_Mod_wordFrom_56 : decode M_Mod_wordFrom.2.1 56 = .ok (.iload 5, 2) := by decide +kernel
theorem e_Mod_wordFrom_58 : decode M_Mod_wordFrom.2.1 58 = .ok (.ifCond .eq 28, 3) := by decide +kernel
theorem e_Mod_wordFrom_61 : decode M_Mod_wordFrom.2.1 61 = .ok (.iload 4, 2) := by decide +kernel
theorem e_Mod_wordFrom_63 : decode M_Mod_wordFrom.2.1 63 = .ok (.iload_n 2, 1) := by decide +kernel
theorem e_Mod_wordFrom_64 : decode M_Mod_wordFrom.2.1 64 = .ok (.if_icmp .ge 22, 3) := by decide +kernel
theorem e_Mod_wordFrom_67 : decode M_Mod_wordFrom.2.1 67 = .ok (.aload_n 0, 1) := by decide +kernel
theorem e_Mod_wordFrom_68 : decode M_Mod_wordFrom.2.1 68 = .ok (.iload 4, 2) := by decide +kernel
theorem e_Mod_wordFrom_70 : decode M_Mod_wordFrom.2.1 70 = .ok (.invokevirtual 280, 3) := by decide +kernel
theorem e_Mod_wordFrom_73 : decode M_Mod_wordFrom.2.1 73 = .ok (.getstatic 276, 3) := by decide +kernel
theorem e_Mod_wordFrom_76 : decode M_Mod_wordFrom.2.1 76 = .ok (.iload 6, 2) := by decide +kernel
theorem e_Mod_wordFrom_78 : decode M_Mod_wordFrom.2.1 78 = .ok (.baload, 1) := by decide +kernel
theorem e_Mod_wordFrom_79 : decode M_Mod_wordFrom.2.1 79 = .ok (.if_icmp .ne 7, 3) := by decide +kernel
theorem e_Mod_wordFrom_82 : decode M_Mod_wordFrom.2.1 82 = .ok (.iconst 1, 1) := by decide +kernel
theorem e_Mod_wordFrom_83 : decode M_Mod_wordFrom.2.1 83 = .ok (.goto 4, 3) := by decide +kernel
theorem e_Mod_wordFrom_86 : decode M_Mod_wordFrom.2.1 86 = .ok (.iconst 0, 1) := by decide +kernel
theorem e_Mod_wordFrom_87 : decode M_Mod_wordFrom.2.1 87 = .ok (.istore 5, 2) := by decide +kernel
theorem e_Mod_wordFrom_89 : decode M_Mod_wordFrom.2.1 89 = .ok (.iinc 4 1, 3) := by decide +kernel
theorem e_Mod_wordFrom_92 : decode M_Mod_wordFrom.2.1 92 = .ok (.iinc 6 1, 3) := by decide +kernel
theorem e_Mod_wordFrom_95 : decode M_Mod_wordFrom.2.1 95 = .ok (.goto (-84), 3) := by decide +kernel
theorem e_Mod_wordFrom_98 : decode M_Mod_wordFrom.2.1 98 = .ok (.iconst (-1), 1) := by decide +kernel
theorem e_Mod_wordFrom_99 : decode M_Mod_wordFrom.2.1 99 = .ok (.ireturn, 1) := by decide +kernel
theorem e_Mod_clause1_0 : decode M_Mod_clause1.2.1 0 = .ok (.aload_n 0, 1) := by decide +kernel
theorem e_Mod_clause1_1 : decode M_Mod_clause1.2.1 1 = .ok (.getfield 295, 3) := by decide +kernel
theorem e_Mod_clause1_4 : decode M_Mod_clause1.2.1 4 = .ok (.iconst 1, 1) := by decide +kernel
theorem e_Mod_clause1_5 : decode M_Mod_clause1.2.1 5 = .ok (.if_icmp .ne 10, 3) := by decide +kernel
theorem e_Mod_clause1_8 : decode M_Mod_clause1.2.1 8 = .ok (.aload_n 0, 1) := by decide +kernel
theorem e_Mod_clause1_9 : decode M_Mod_clause1.2.1 9 = .ok (.getfield 289, 3) := by decide +kernel
theorem e_Mod_clause1_12 : decode M_Mod_clause1.2.1 12 = .ok (.goto 4, 3) := by decide +kernel
theorem e_Mod_clause1_15 : decode M_Mod_clause1.2.1 15 = .ok (.iconst (-1), 1) := by decide +kernel
theorem e_Mod_clause1_16 : decode M_Mod_clause1.2.1 16 = .ok (.istore_n 1, 1) := by decide +kernel
theorem e_Mod_clause1_17 : decode M_Mod_clause1.2.1 17 = .ok (.iload_n 1, 1) := by decide +kernel
theorem e_Mod_clause1_18 : decode M_Mod_clause1.2.1 18 = .ok (.iconst 1, 1) := by decide +kernel
theorem e_Mod_clause1_19 : decode M_Mod_clause1.2.1 19 = .ok (.if_icmp .ne 10, 3) := by decide +kernel
theorem e_Mod_clause1_22 : decode M_Mod_clause1.2.1 22 = .ok (.aload_n 0, 1) := by decide +kernel
theorem e_Mod_clause1_23 : decode M_Mod_clause1.2.1 23 = .ok (.invokevirtual 354, 3) := by decide +kernel
theorem e_Mod_clause1_26 : decode M_Mod_clause1.2.1 26 = .ok (.goto 96, 3) := by decide +kernel
theorem e_Mod_clause1_29 : decode M_Mod_clause1.2.1 29 = .ok (.iload_n 1, 1) := by decide +kernel
theorem e_Mod_clause1_30 : decode M_Mod_clause1.2.1 30 = .ok (.iconst 2, 1) := by decide +kernel
theorem e_Mod_clause1_31 : decode M_Mod_clause1.2.1 31 = .ok (.if_icmp .ne 10, 3) := by decide +kernel
theorem e_Mod_clause1_34 : decode M_Mod_clause1.2.1 34 = .ok (.aload_n 0, 1) := by decide +kernel
theorem e_Mod_clause1_35 : decode M_Mod_clause1.2.1 35 = .ok (.invokevirtual 357, 3) := by decide +kernel
theorem e_Mod_clause1_38 : decode M_Mod_clause1.2.1 38 = .ok (.goto 84, 3) := by decide +kernel
theorem e_Mod_clause1_41 : decode M_Mod_clause1.2.1 41 = .ok (.iload_n 1, 1) := by decide +kernel
theorem e_Mod_clause1_42 : decode M_Mod_clause1.2.1 42 = .ok (.iconst 3, 1) := by decide +kernel
theorem e_Mod_clause1_43 : decode M_Mod_clause1.2.1 43 = .ok (.if_icmp .ne 10, 3) := by decide +kernel
theorem e_Mod_clause1_46 : decode M_Mod_clause1.2.1 46 = .ok (.aload_n 0, 1) := by decide +kernel
theorem e_Mod_clause1_47 : decode M_Mod_clause1.2.1 47 = .ok (.invokevirtual 360, 3) := by decide +kernel
theorem e_Mod_clause1_50 : decode M_Mod_clause1.2.1 50 = .ok (.goto 72, 3) := by decide +kernel
theorem e_Mod_clause1_53 : decode M_Mod_clause1.2.1 53 = .ok (.iload_n 1, 1) := by decide +kernel
theorem e_Mod_clause1_54 : decode M_Mod_clause1.2.1 54 = .ok (.iconst 4, 1) := by decide +kernel
theorem e_Mod_clause1_55 : decode M_Mod_clause1.2.1 55 = .ok (.if_icmp .eq 8, 3) := by decide +kernel
theorem e_Mod_clause1_58 : decode M_Mod_clause1.2.1 58 = .ok (.iload_n 1, 1) := by decide +kernel
theorem e_Mod_clause1_59 : decode M_Mod_clause1.2.1 59 = .ok (.iconst 5, 1) := by decide +kernel
theorem e_Mod_clause1_60 : decode M_Mod_clause1.2.1 60 = .ok (.if_icmp .ne 11, 3) := by decide +kernel
theorem e_Mod_clause1_63 : decode M_Mod_clause1.2.1 63 = .ok (.aload_n 0, 1) := by decide +kernel
theorem e_Mod_clause1_64 : decode M_Mod_clause1.2.1 64 = .ok (.iload_n 1, 1) := by decide +kernel
theorem e_Mod_clause1_65 : decode M_Mod_clause1.2.1 65 = .ok (.invokevirtual 363, 3) := by decide +kernel
theorem e_Mod_clause1_68 : decode M_Mod_clause1.2.1 68 = .ok (.goto 54, 3) := by decide +kernel
theorem e_Mod_clause1_71 : decode M_Mod_clause1.2.1 71 = .ok (.aload_n 0, 1) := by decide +kernel
theorem e_Mod_clause1_72 : decode M_Mod_clause1.2.1 72 = .ok (.iload_n 1, 1) := by decide +kernel
theorem e_Mod_clause1_73 : decode M_Mod_clause1.2.1 73 = .ok (.ifCond .ne 7, 3) := by decide +kernel
theorem e_Mod_clause1_76 : decode M_Mod_clause1.2.1 76 = .ok (.iconst 1, 1) := by decide +kernel
theorem e_Mod_clause1_77 : decode M_Mod_clause1.2.1 77 = .ok (.goto 4, 3) := by decide +kernel
theorem e_Mod_clause1_80 : decode M_Mod_clause1.2.1 80 = .ok (.iconst 0, 1) := by decide +kernel
theorem e_Mod_clause1_81 : decode M_Mod_clause1.2.1 81 = .ok (.iconst 1, 1) := by decide +kernel
theorem e_Mod_clause1_82 : decode M_Mod_clause1.2.1 82 = .ok (.invokevirtual 308, 3) := by decide +kernel
theorem e_Mod_clause1_85 : decode M_Mod_clause1.2.1 85 = .ok (.ifCond .eq 37, 3) := by decide +kernel
theorem e_Mod_clause1_88 : decode M_Mod_clause1.2.1 88 = .ok (.aload_n 0, 1) := by decide +kernel
theorem e_Mod_clause1_89 : decode M_Mod_clause1.2.1 89 = .ok (.aload_n 0, 1) := by decide +kernel
theorem e_Mod_clause1_90 : decode M_Mod_clause1.2.1 90 = .ok (.getfield 366, 3) := by decide +kernel
theorem e_Mod_clause1_93 : decode M_Mod_clause1.2.1 93 = .ok (.ifCond .ne 7, 3) := by decide +kernel
theorem e_Mod_clause1_96 : decode M_Mod_clause1.2.1 96 = .ok (.iconst 1, 1) := by decide +kernel
theorem e_Mod_clause1_97 : decode M_Mod_clause1.2.1 97 = .ok (.goto 4, 3) := by decide +kernel
theorem e_Mod_clause1_100 : decode M_Mod_clause1.2.1 100 = .ok (.iconst 0, 1) := by decide +kernel
theorem e_Mod_clause1_101 : decode M_Mod_clause1.2.1 101 = .ok (.iconst 4, 1) := by decide +kernel
theorem e_Mod_clause1_102 : decode M_Mod_clause1.2.1 102 = .ok (.invokevirtual 308, 3) := by decide +kernel
theorem e_Mod_clause1_105 : decode M_Mod_clause1.2.1 105 = .ok (.ifCond .eq 17, 3) := by decide +kernel
theorem e_Mod_clause1_108 : decode M_Mod_clause1.2.1 108 = .ok (.aload_n 0, 1) := by decide +kernel
theorem e_Mod_clause1_109 : decode M_Mod_clause1.2.1 109 = .ok (.invokevirtual 315, 3) := by decide +kernel
theorem e_Mod_clause1_112 : decode M_Mod_clause1.2.1 112 = .ok (.aload_n 0, 1) := by decide +kernel
theorem e_Mod_clause1_113 : decode M_Mod_clause1.2.1 113 = .ok (.aload_n 0, 1) := by decide +kernel
theorem e_Mod_clause1_114 : decode M_Mod_clause1.2.1 114 = .ok (.iconst 1, 1) := by decide +kernel
theorem e_Mod_clause1_115 : decode M_Mod_clause1.2.1 115 = .ok (.iconst 5, 1) := by decide +kernel
theorem e_Mod_clause1_116 : decode M_Mod_clause1.2.1 116 = .ok (.invokevirtual 327, 3) := by decide +kernel
theorem e_Mod_clause1_119 : decode M_Mod_clause1.2.1 119 = .ok (.putfield 321, 3) := by decide +kernel
theorem e_Mod_clause1_122 : decode M_Mod_clause1.2.1 122 = .ok (.return_, 1) := by decide +kernel
theorem e_Mod_block1_0 : decode M_Mod_block1.2.1 0 = .ok (.aload_n 0, 1) := by decide +kernel
theorem e_Mod_block1_1 : decode M_Mod_block1.2.1 1 = .ok (.aload_n 0, 1) := by decide +kernel
theorem e_Mod_block1_2 : decode M_Mod_block1.2.1 2 = .ok (.getfield 318, 3) := by decide +kernel
theorem e_Mod_block1_5 : decode M_Mod_block1.2.1 5 = .ok (.bipush 10, 2) := by decide +kernel
theorem e_Mod_block1_7 : decode M_Mod_block1.2.1 7 = .ok (.if_icmp .ge 7, 3) := by decide +kernel
theorem e_Mod_block1_10 : decode M_Mod_block1.2.1 10 = .ok (.iconst 1, 1) := by decide +kernel
theorem e_Mod_block1_11 : decode M_Mod_block1.2.1 11 = .ok (.goto 4, 3) := by decide +kernel
theorem e_Mod_block1_14 : decode M_Mod_block1.2.1 14 = .ok (.iconst 0, 1) := by decide +kernel
theorem e_Mod_block1_15 : decode M_Mod_block1.2.1 15 = .ok (.iconst 2, 1) := by decide +kernel
theorem e_Mod_block1_16 : decode M_Mod_block1.2.1 16 = .ok (.invokevirtual 308, 3) := by decide +kernel
theorem e_Mod_block1_19 : decode M_Mod_block1.2.1 19 = .ok (.ifCond .ne 4, 3) := by decide +kernel
theorem e_Mod_block1_22 : decode M_Mod_block1.2.1 22 = .ok (.return_, 1) := by decide +kernel
theorem e_Mod_block1_23 : decode M_Mod_block1.2.1 23 = .ok (.aload_n 0, 1) := by decide +kernel
theorem e_Mod_block1_24 : decode M_Mod_block1.2.1 24 = .ok (.invokevirtual 315, 3) := by decide +kernel
theorem e_Mod_block1_27 : decode M_Mod_block1.2.1 27 = .ok (.aload_n 0, 1) := by decide +kernel
theorem e_Mod_block1_28 : decode M_Mod_block1.2.1 28 = .ok (.getfield 318, 3) := by decide +kernel
theorem e_Mod_block1_31 : decode M_Mod_block1.2.1 31 = .ok (.istore_n 1, 1) := by decide +kernel
theorem e_Mod_block1_32 : decode M_Mod_block1.2.1 32 = .ok (.aload_n 0, 1) := by decide +kernel
theorem e_Mod_block1_33 : decode M_Mod_block1.2.1 33 = .ok (.getfield 108, 3) := by decide +kernel
theorem e_Mod_block1_36 : decode M_Mod_block1.2.1 36 = .ok (.iload_n 1, 1) := by decide +kernel
theorem e_Mod_block1_37 : decode M_Mod_block1.2.1 37 = .ok (.aload_n 0, 1) := by decide +kernel
theorem e_Mod_block1_38 : decode M_Mod_block1.2.1 38 = .ok (.iconst 4, 1) := by decide +kernel
theorem e_Mod_block1_39 : decode M_Mod_block1.2.1 39 = .ok (.aload_n 0, 1) := by decide +kernel
theorem e_Mod_block1_40 : decode M_Mod_block1.2.1 40 = .ok (.getfield 321, 3) := by decide +kernel
theorem e_Mod_block1_43 : decode M_Mod_block1.2.1 43 = .ok (.invokevirtual 324, 3) := by decide +kernel
theorem e_Mod_block1_46 : decode M_Mod_block1.2.1 46 = .ok (.iastore, 1) := by decide +kernel
theorem e_Mod_block1_47 : decode M_Mod_block1.2.1 47 = .ok (.aload_n 0, 1) := by decide +kernel
theorem e_Mod_block1_48 : decode M_Mod_block1.2.1 48 = .ok (.getfield 111, 3) := by decide +kernel
theorem e_Mod_block1_51 : decode M_Mod_block1.2.1 51 = .ok (.iload_n 1, 1) := by decide +kernel
theorem e_Mod_block1_52 : decode M_Mod_block1.2.1 52 = .ok (.aload_n 0, 1) := by decide +kernel
theorem e_Mod_block1_53 : decode M_Mod_block1.2.1 53 = .ok (.iconst 1, 1) := by decide +kernel
theorem e_Mod_block1_54 : decode M_Mod_block1.2.1 54 = .ok (.bipush 9, 2) := by decide +kernel
theorem e_Mod_block1_56 : decode M_Mod_block1.2.1 56 = .ok (.invokevirtual 327, 3) := by decide +kernel
theorem e_Mod_block1_59 : decode M_Mod_block1.2.1 59 = .ok (.iastore, 1) := by decide +kernel
theorem e_Mod_block1_60 : decode M_Mod_block1.2.1 60 = .ok (.aload_n 0, 1) := by decide +kernel
theorem e_Mod_block1_61 : decode M_Mod_block1.2.1 61 = .ok (.getfield 305, 3) := by decide +kernel
theorem e_Mod_block1_64 : decode M_Mod_block1.2.1 64 = .ok (.ifCond .eq 4, 3) := by decide +kernel
theorem e_Mod_block1_67 : decode M_Mod_block1.2.1 67 = .ok (.return_, 1) := by decide +kernel
theorem e_Mod_block1_68 : decode M_Mod_block1.2.1 68 = .ok (.aload_n 0, 1) := by decide +kernel
theorem e_Mod_block1_69 : decode M_Mod_block1.2.1 69 = .ok (.getfield 114, 3) := by decide +kernel
theorem e_Mod_block1_72 : decode M_Mod_block1.2.1 72 = .ok (.iload_n 1, 1) := by decide +kernel
theorem e_Mod_block1_73 : decode M_Mod_block1.2.1 73 = .ok (.aload_n 0, 1) := by decide +kernel
theorem e_Mod_block1_74 : decode M_Mod_block1.2.1 74 = .ok (.bipush 6, 2) := by decide +kernel
theorem e_Mod_block1_76 : decode M_Mod_block1.2.1 76 = .ok (.iconst 4, 1) := by decide +kernel
theorem e_Mod_block1_77 : decode M_Mod_block1.2.1 77 = .ok (.invokevirtual 330, 3) := by decide +kernel
theorem e_Mod_block1_80 : decode M_Mod_block1.2.1 80 = .ok (.iastore, 1) := by decide +kernel
theorem e_Mod_block1_81 : decode M_Mod_block1.2.1 81 = .ok (.aload_n 0, 1) := by decide +kernel
theorem e_Mod_block1_82 : decode M_Mod_block1.2.1 82 = .ok (.getfield 117, 3) := by decide +kernel
theorem e_Mod_block1_85 : decode M_Mod_block1.2.1 85 = .ok (.iload_n 1, 1) := by decide +kernel
theorem e_Mod_block1_86 : decode M_Mod_block1.2.1 86 = .ok (.aload_n 0, 1) := by decide +kernel
theorem e_Mod_block1_87 : decode M_Mod_block1.2.1 87 = .ok (.getfield 120, 3) := by decide +kernel
theorem e_Mod_block1_90 : decode M_Mod_block1.2.1 90 = .ok (.iload_n 1, 1) := by decide +kernel
theorem e_Mod_block1_91 : decode M_Mod_block1.2.1 91 = .ok (.aload_n 0, 1) := by decide +kernel
theorem e_Mod_block1_92 : decode M_Mod_block1.2.1 92 = .ok (.getfield 123, 3) := by decide +kernel
theorem e_Mod_block1_95 : decode M_Mod_block1.2.1 95 = .ok (.iload_n 1, 1) := by decide +kernel
theorem e_Mod_block1_96 : decode M_Mod_block1.2.1 96 = .ok (.aload_n 0, 1) := by decide +kernel
theorem e_Mod_block1_97 : decode M_Mod_block1.2.1 97 = .ok (.getfield 126, 3) := by decide +kernel
theorem e_Mod_block1_100 : decode M_Mod_block1.2.1 100 = .ok (.iload_n 1, 1) := by decide +kernel
theorem e_Mod_block1_101 : decode M_Mod_block1.2.1 101 = .ok (.iconst 0, 1) := by decide +kernel
theorem e_Mod_block1_102 : decode M_Mod_block1.2.1 102 = .ok (.dup_x2, 1) := by decide +kernel
theorem e_Mod_block1_103 : decode M_Mod_block1.2.1 103 = .ok (.iastore, 1) := by decide +kernel
theorem e_Mod_block1_104 : decode M_Mod_block1.2.1 104 = .ok (.dup_x2, 1) := by decide +kernel
theorem e_Mod_block1_105 : decode M_Mod_block1.2.1 105 = .ok (.iastore, 1) := by decide +kernel
theorem e_Mod_block1_106 : decode M_Mod_block1.2.1 106 = .ok (.dup_x2, 1) := by decide +kernel
theorem e_Mod_block1_107 : decode M_Mod_block1.2.1 107 = .ok (.iastore, 1) := by decide +kernel
theorem e_Mod_block1_108 : decode M_Mod_block1.2.1 108 = .ok (.iastore, 1) := by decide +kernel
theorem e_Mod_block1_109 : decode M_Mod_block1.2.1 109 = .ok (.aload_n 0, 1) := by decide +kernel
theorem e_Mod_block1_110 : decode M_Mod_block1.2.1 110 = .ok (.getfield 114, 3) := by decide +kernel
theorem e_Mod_block1_113 : decode M_Mod_block1.2.1 113 = .ok (.iload_n 1, 1) := by decide +kernel
theorem e_Mod_block1_114 : decode M_Mod_block1.2.1 114 = .ok (.iaload, 1) := by decide +kernel
theorem e_Mod_block1_115 : decode M_Mod_block1.2.1 115 = .ok (.ifCond .ne 18, 3) := by decide +kernel
theorem e_Mod_block1_118 : decode M_Mod_block1.2.1 118 = .ok (.aload_n 0, 1) := by decide +kernel
theorem e_Mod_block1_119 : decode M_Mod_block1.2.1 119 = .ok (.getfield 117, 3) := by decide +kernel
theorem e_Mod_block1_122 : decode M_Mod_block1.2.1 122 = .ok (.iload_n 1, 1) := by decide +kernel
theorem e_Mod_block1_123 : decode M_Mod_block1.2.1 123 = .ok (.aload_n 0, 1) := by decide +kernel
theorem e_Mod_block1_124 : decode M_Mod_block1.2.1 124 = .ok (.iconst 0, 1) := by decide +kernel
theorem e_Mod_block1_125 : decode M_Mod_block1.2.1 125 = .ok (.iconst 3, 1) := by decide +kernel
theorem e_Mod_block1_126 : decode M_Mod_block1.2.1 126 = .ok (.invokevirtual 327, 3) := by decide +kernel
theorem e_Mod_block1_129 : decode M_Mod_block1.2.1 129 = .ok (.iastore, 1) := by decide +kernel
theorem e_Mod_block1_130 : decode M_Mod_block1.2.1 130 = .ok (.goto 125, 3) := by decide +kernel
theorem e_Mod_block1_133 : decode M_Mod_block1.2.1 133 = .ok (.aload_n 0, 1) := by decide +kernel
theorem e_Mod_block1_134 : decode M_Mod_block1.2.1 134 = .ok (.getfield 114, 3) := by decide +kernel
theorem e_Mod_block1_137 : decode M_Mod_block1.2.1 137 = .ok (.iload_n 1, 1) := by decide +kernel
theorem e_Mod_block1_138 : decode M_Mod_block1.2.1 138 = .ok (.iaload, 1) := by decide +kernel
theorem e_Mod_block1_139 : decode M_Mod_block1.2.1 139 = .ok (.iconst 1, 1) := by decide +kernel
theorem e_Mod_block1_140 : decode M_Mod_block1.2.1 140 = .ok (.if_icmp .ne 61, 3) := by decide +kernel
theorem e_Mod_block1_143 : decode M_Mod_block1.2.1 143 = .ok (.aload_n 0, 1) := by decide +kernel
theorem e_Mod_block1_144 : decode M_Mod_block1.2.1 144 = .ok (.getfield 117, 3) := by decide +kernel
theorem e_Mod_block1_147 : decode M_Mod_block1.2.1 147 = .ok (.iload_n 1, 1) := by decide +kernel
theorem e_Mod_block1_148 : decode M_Mod_block1.2.1 148 = .ok (.aload_n 0, 1) := by decide +kernel
theorem e_Mod_block1_149 : decode M_Mod_block1.2.1 149 = .ok (.iconst 0, 1) := by decide +kernel
theorem e_Mod_block1_150 : decode M_Mod_block1.2.1 150 = .ok (.sipush 300, 3) := by decide +kernel
theorem e_Mod_block1_153 : decode M_Mod_block1.2.1 153 = .ok (.invokevirtual 327, 3) := by decide +kernel
theorem e_Mod_block1_156 : decode M_Mod_block1.2.1 156 = .ok (.iastore, 1) := by decide +kernel
theorem e_Mod_block1_157 : decode M_Mod_block1.2.1 157 = .ok (.aload_n 0, 1) := by decide +kernel
theorem e_Mod_block1_158 : decode M_Mod_block1.2.1 158 = .ok (.getfield 120, 3) := by decide +kernel
theorem e_Mod_block1_161 : decode M_Mod_block1.2.1 161 = .ok (.iload_n 1, 1) := by decide +kernel
theorem e_Mod_block1_162 : decode M_Mod_block1.2.1 162 = .ok (.aload_n 0, 1) := by decide +kernel
theorem e_Mod_block1_163 : decode M_Mod_block1.2.1 163 = .ok (.iconst 0, 1) := by decide +kernel
theorem e_Mod_block1_164 : decode M_Mod_block1.2.1 164 = .ok (.bipush 100, 2) := by decide +kernel
theorem e_Mod_block1_166 : decode M_Mod_block1.2.1 166 = .ok (.invokevirtual 327, 3) := by decide +kernel
theorem e_Mod_block1_169 : decode M_Mod_block1.2.1 169 = .ok (.iastore, 1) := by decide +kernel
theorem e_Mod_block1_170 : decode M_Mod_block1.2.1 170 = .ok (.aload_n 0, 1) := by decide +kernel
theorem e_Mod_block1_171 : decode M_Mod_block1.2.1 171 = .ok (.getfield 123, 3) := by decide +kernel
theorem e_Mod_block1_174 : decode M_Mod_block1.2.1 174 = .ok (.iload_n 1, 1) := by decide +kernel
theorem e_Mod_block1_175 : decode M_Mod_block1.2.1 175 = .ok (.iconst 1, 1) := by decide +kernel
theorem e_Mod_block1_176 : decode M_Mod_block1.2.1 176 = .ok (.aload_n 0, 1) := by decide +kernel
theorem e_Mod_block1_177 : decode M_Mod_block1.2.1 177 = .ok (.bipush 10, 2) := by decide +kernel
theorem e_Mod_block1_179 : decode M_Mod_block1.2.1 179 = .ok (.iconst 2, 1) := by decide +kernel
theorem e_Mod_block1_180 : decode M_Mod_block1.2.1 180 = .ok (.invokevirtual 330, 3) := by decide +kernel
theorem e_Mod_block1_183 : decode M_Mod_block1.2.1 183 = .ok (.iadd, 1) := by decide +kernel
theorem e_Mod_block1_184 : decode M_Mod_block1.2.1 184 = .ok (.iastore, 1) := by decide +kernel
theorem e_Mod_block1_185 : decode M_Mod_block1.2.1 185 = .ok (.aload_n 0, 1) := by decide +kernel
theorem e_Mod_block1_186 : decode M_Mod_block1.2.1 186 = .ok (.getfield 126, 3) := by decide +kernel
theorem e_Mod_block1_189 : decode M_Mod_block1.2.1 189 = .ok (.iload_n 1, 1) := by decide +kernel
theorem e_Mod_block1_190 : decode M_Mod_block1.2.1 190 = .ok (.aload_n 0, 1) := by decide +kernel
theorem e_Mod_block1_191 : decode M_Mod_block1.2.1 191 = .ok (.bipush 12, 2) := by decide +kernel
theorem e_Mod_block1_193 : decode M_Mod_block1.2.1 193 = .ok (.iconst 2, 1) := by decide +kernel
theorem e_Mod_block1_194 : decode M_Mod_block1.2.1 194 = .ok (.invokevirtual 330, 3) := by decide +kernel
theorem e_Mod_block1_197 : decode M_Mod_block1.2.1 197 = .ok (.iastore, 1) := by decide +kernel
theorem e_Mod_block1_198 : decode M_Mod_block1.2.1 198 = .ok (.goto 57, 3) := by decide +kernel
theorem e_Mod_block1_201 : decode M_Mod_block1.2.1 201 = .ok (.aload_n 0, 1) := by decide +kernel
theorem e_Mod_block1_202 : decode M_Mod_block1.2.1 202 = .ok (.getfield 114, 3) := by decide +kernel
theorem e_Mod_block1_205 : decode M_Mod_block1.2.1 205 = .ok (.iload_n 1, 1) := by decide +kernel
theorem e_Mod_block1_206 : decode M_Mod_block1.2.1 206 = .ok (.iaload, 1) := by decide +kernel
theorem e_Mod_block1_207 : decode M_Mod_block1.2.1 207 = .ok (.iconst 2, 1) := by decide +kernel
theorem e_Mod_block1_208 : decode M_Mod_block1.2.1 208 = .ok (.if_icmp .ne 32, 3) := by decide +kernel
theorem e_Mod_block1_211 : decode M_Mod_block1.2.1 211 = .ok (.aload_n 0, 1) := by decide +kernel
theorem e_Mod_block1_212 : decode M_Mod_block1.2.1 212 = .ok (.getfield 117, 3) := by decide +kernel
theorem e_Mod_block1_215 : decode M_Mod_block1.2.1 215 = .ok (.iload_n 1, 1) := by decide +kernel
theorem e_Mod_block1_216 : decode M_Mod_block1.2.1 216 = .ok (.aload_n 0, 1) := by decide +kernel
theorem e_Mod_block1_217 : decode M_Mod_block1.2.1 217 = .ok (.iconst 0, 1) := by decide +kernel
theorem e_Mod_block1_218 : decode M_Mod_block1.2.1 218 = .ok (.iconst 3, 1) := by decide +kernel
theorem e_Mod_block1_219 : decode M_Mod_block1.2.1 219 = .ok (.invokevirtual 327, 3) := by decide +kernel
theorem e_Mod_block1_222 : decode M_Mod_block1.2.1 222 = .ok (.iastore, 1) := by decide +kernel
theorem e_Mod_block1_223 : decode M_Mod_block1.2.1 223 = .ok (.aload_n 0, 1) := by decide +kernel
theorem e_Mod_block1_224 : decode M_Mod_block1.2.1 224 = .ok (.getfield 120, 3) := by decide +kernel
theorem e_Mod_block1_227 : decode M_Mod_block1.2.1 227 = .ok (.iload_n 1, 1) := by decide +kernel
theorem e_Mod_block1_228 : decode M_Mod_block1.2.1 228 = .ok (.aload_n 0, 1) := by decide +kernel
theorem e_Mod_block1_229 : decode M_Mod_block1.2.1 229 = .ok (.iconst 1, 1) := by decide +kernel
theorem e_Mod_block1_230 : decode M_Mod_block1.2.1 230 = .ok (.sipush 1000, 3) := by decide +kernel
theorem e_Mod_block1_233 : decode M_Mod_block1.2.1 233 = .ok (.invokevirtual 327, 3) := by decide +kernel
theorem e_Mod_block1_236 : decode M_Mod_block1.2.1 236 = .ok (.iastore, 1) := by decide +kernel
theorem e_Mod_block1_237 : decode M_Mod_block1.2.1 237 = .ok (.goto 18, 3) := by decide +kernel
theorem e_Mod_block1_240 : decode M_Mod_block1.2.1 240 = .ok (.aload_n 0, 1) := by decide +kernel
theorem e_Mod_block1_241 : decode M_Mod_block1.2.1 241 = .ok (.getfield 117, 3) := by decide +kernel
theorem e_Mod_block1_244 : decode M_Mod_block1.2.1 244 = .ok (.iload_n 1, 1) := by decide +kernel
theorem e_Mod_block1_245 : decode M_Mod_block1.2.1 245 = .ok (.iconst 1, 1) := by decide +kernel
theorem e_Mod_block1_246 : decode M_Mod_block1.2.1 246 = .ok (.aload_n 0, 1) := by decide +kernel
theorem e_Mod_block1_247 : decode M_Mod_block1.2.1 247 = .ok (.bipush 14, 2) := by decide +kernel
theorem e_Mod_block1_249 : decode M_Mod_block1.2.1 249 = .ok (.iconst 2, 1) := by decide +kernel
theorem e_Mod_block1_250 : decode M_Mod_block1.2.1 250 = .ok (.invokevirtual 330, 3) := by decide +kernel
theorem e_Mod_block1_253 : decode M_Mod_block1.2.1 253 = .ok (.isub, 1) := by decide +kernel
theorem e_Mod_block1_254 : decode M_Mod_block1.2.1 254 = .ok (.iastore, 1) := by decide +kernel
theorem e_Mod_block1_255 : decode M_Mod_block1.2.1 255 = .ok (.aload_n 0, 1) := by decide +kernel
theorem e_Mod_block1_256 : decode M_Mod_block1.2.1 256 = .ok (.dup, 1) := by decide +kernel
theorem e_Mod_block1_257 : decode M_Mod_block1.2.1 257 = .ok (.getfield 318, 3) := by decide +kernel
theorem e_Mod_block1_260 : decode M_Mod_block1.2.1 260 = .ok (.iconst 1, 1) := by decide +kernel
theorem e_Mod_block1_261 : decode M_Mod_block1.2.1 261 = .ok (.iadd, 1) := by decide +kernel
theorem e_Mod_block1_262 : decode M_Mod_block1.2.1 262 = .ok (.putfield 318, 3) := by decide +kernel
theorem e_Mod_block1_265 : decode M_Mod_block1.2.1 265 = .ok (.return_, 1) := by decide +kernel
theorem e_Mod_wants_0 : decode M_Mod_wants.2.1 0 = .ok (.aload_n 0, 1) := by decide +kernel
theorem e_Mod_wants_1 : decode M_Mod_wants.2.1 1 = .ok (.getfield 305, 3) := by decide +kernel
theorem e_Mod_wants_4 : decode M_Mod_wants.2.1 4 = .ok (.ifCond .ne 20, 3) := by decide +kernel
theorem e_Mod_wants_7 : decode M_Mod_wants.2.1 7 = .ok (.iload_n 1, 1) := by decide +kernel
theorem e_Mod_wants_8 : decode M_Mod_wants.2.1 8 = .ok (.ifCond .ne 16, 3) := by decide +kernel
theorem e_Mod_wants_11 : decode M_Mod_wants.2.1 11 = .ok (.aload_n 0, 1) := by decide +kernel
theorem e_Mod_wants_12 : decode M_Mod_wants.2.1 12 = .ok (.iload_n 2, 1) := by decide +kernel
theorem e_Mod_wants_13 : decode M_Mod_wants.2.1 13 = .ok (.putfield 305, 3) := by decide +kernel
theorem e_Mod_wants_16 : decode M_Mod_wants.2.1 16 = .ok (.aload_n 0, 1) := by decide +kernel
theorem e_Mod_wants_17 : decode M_Mod_wants.2.1 17 = .ok (.aload_n 0, 1) := by decide +kernel
theorem e_Mod_wants_18 : decode M_Mod_wants.2.1 18 = .ok (.getfield 286, 3) := by decide +kernel
theorem e_Mod_wants_21 : decode M_Mod_wants.2.1 21 = .ok (.putfield 77, 3) := by decide +kernel
theorem e_Mod_wants_24 : decode M_Mod_wants.2.1 24 = .ok (.aload_n 0, 1) := by decide +kernel
theorem e_Mod_wants_25 : decode M_Mod_wants.2.1 25 = .ok (.getfield 305, 3) := by decide +kernel
theorem e_Mod_wants_28 : decode M_Mod_wants.2.1 28 = .ok (.ifCond .ne 7, 3) := by decide +kernel
theorem e_Mod_wants_31 : decode M_Mod_wants.2.1 31 = .ok (.iconst 1, 1) := by decide +kernel
theorem e_Mod_wants_32 : decode M_Mod_wants.2.1 32 = .ok (.goto 4, 3) := by decide +kernel
theorem e_Mod_wants_35 : decode M_Mod_wants.2.1 35 = .ok (.iconst 0, 1) := by decide +kernel
theorem e_Mod_wants_36 : decode M_Mod_wants.2.1 36 = .ok (.ireturn, 1) := by decide +kernel
theorem e_Mod_named_0 : decode M_Mod_named.2.1 0 = .ok (.aload_n 0, 1) := by decide +kernel
theorem e_Mod_named_1 : decode M_Mod_named.2.1 1 = .ok (.getfield 305, 3) := by decide +kernel
theorem e_Mod_named_4 : decode M_Mod_named.2.1 4 = .ok (.ifCond .ne 66, 3) := by decide +kernel
theorem e_Mod_named_7 : decode M_Mod_named.2.1 7 = .ok (.aload_n 0, 1) := by decide +kernel
theorem e_Mod_named_8 : decode M_Mod_named.2.1 8 = .ok (.aload_n 0, 1) := by decide +kernel
theorem e_Mod_named_9 : decode M_Mod_named.2.1 9 = .ok (.getfield 295, 3) := by decide +kernel
theorem e_Mod_named_12 : decode M_Mod_named.2.1 12 = .ok (.iconst 2, 1) := by decide +kernel
theorem e_Mod_named_13 : decode M_Mod_named.2.1 13 = .ok (.if_icmp .ne 7, 3) := by decide +kernel
theorem e_Mod_named_16 : decode M_Mod_named.2.1 16 = .ok (.iconst 1, 1) := by decide +kernel
theorem e_Mod_named_17 : decode M_Mod_named.2.1 17 = .ok (.goto 4, 3) := by decide +kernel
theorem e_Mod_named_20 : decode M_Mod_named.2.1 20 = .ok (.iconst 0, 1) := by decide +kernel
theorem e_Mod_named_21 : decode M_Mod_named.2.1 21 = .ok (.iconst 1, 1) := by decide +kernel
theorem e_Mod_named_22 : decode M_Mod_named.2.1 22 = .ok (.invokevirtual 308, 3) := by decide +kernel
theorem e_Mod_named_25 : decode M_Mod_named.2.1 25 = .ok (.ifCond .eq 45, 3) := by decide +kernel
theorem e_Mod_named_28 : decode M_Mod_named.2.1 28 = .ok (.aload_n 0, 1) := by decide +kernel
theorem e_Mod_named_29 : decode M_Mod_named.2.1 29 = .ok (.aload_n 0, 1) := by decide +kernel
theorem e_Mod_named_30 : decode M_Mod_named.2.1 30 = .ok (.getfield 292, 3) := by decide +kernel
theorem e_Mod_named_33 : decode M_Mod_named.2.1 33 = .ok (.iload_n 1, 1) := by decide +kernel
theorem e_Mod_named_34 : decode M_Mod_named.2.1 34 = .ok (.if_icmp .gt 7, 3) := by decide +kernel
theorem e_Mod_named_37 : decode M_Mod_named.2.1 37 = .ok (.iconst 1, 1) := by decide +kernel
theorem e_Mod_named_38 : decode M_Mod_named.2.1 38 = .ok (.goto 4, 3) := by decide +kernel
theorem e_Mod_named_41 : decode M_Mod_named.2.1 41 = .ok (.iconst 0, 1) := by decide +kernel
theorem e_Mod_named_42 : decode M_Mod_named.2.1 42 = .ok (.iconst 2, 1) := by decide +kernel
theorem e_Mod_named_43 : decode M_Mod_named.2.1 43 = .ok (.invokevirtual 308, 3) := by decide +kernel
theorem e_Mod_named_46 : decode M_Mod_named.2.1 46 = .ok (.ifCond .eq 24, 3) := by decide +kernel
theorem e_Mod_named_49 : decode M_Mod_named.2.1 49 = .ok (.aload_n 0, 1) := by decide +kernel
theorem e_Mod_named_50 : decode M_Mod_named.2.1 50 = .ok (.aload_n 0, 1) := by decide +kernel
theorem e_Mod_named_51 : decode M_Mod_named.2.1 51 = .ok (.getfield 292, 3) := by decide +kernel
theorem e_Mod_named_54 : decode M_Mod_named.2.1 54 = .ok (.iload_n 2, 1) := by decide +kernel
theorem e_Mod_named_55 : decode M_Mod_named.2.1 55 = .ok (.if_icmp .ge 7, 3) := by decide +kernel
theorem e_Mod_named_58 : decode M_Mod_named.2.1 58 = .ok (.iconst 1, 1) := by decide +kernel
theorem e_Mod_named_59 : decode M_Mod_named.2.1 59 = .ok (.goto 4, 3) := by decide +kernel
theorem e_Mod_named_62 : decode M_Mod_named.2.1 62 = .ok (.iconst 0, 1) := by decide +kernel
theorem e_Mod_named_63 : decode M_Mod_named.2.1 63 = .ok (.iconst 3, 1) := by decide +kernel
theorem e_Mod_named_64 : decode M_Mod_named.2.1 64 = .ok (.invokevirtual 308, 3) := by decide +kernel
theorem e_Mod_named_67 : decode M_Mod_named.2.1 67 = .ok (.ifCond .ne 5, 3) := by decide +kernel
theorem e_Mod_named_70 : decode M_Mod_named.2.1 70 = .ok (.iconst 0, 1) := by decide +kernel
theorem e_Mod_named_71 : decode M_Mod_named.2.1 71 = .ok (.ireturn, 1) := by decide +kernel
theorem e_Mod_named_72 : decode M_Mod_named.2.1 72 = .ok (.aload_n 0, 1) := by decide +kernel
theorem e_Mod_named_73 : decode M_Mod_named.2.1 73 = .ok (.getfield 292, 3) := by decide +kernel
theorem e_Mod_named_76 : decode M_Mod_named.2.1 76 = .ok (.istore_n 3, 1) := by decide +kernel
theorem e_Mod_named_77 : decode M_Mod_named.2.1 77 = .ok (.aload_n 0, 1) := by decide +kernel
theorem e_Mod_named_78 : decode M_Mod_named.2.1 78 = .ok (.invokevirtual 315, 3) := by decide +kernel
theorem e_Mod_named_81 : decode M_Mod_named.2.1 81 = .ok (.iload_n 3, 1) := by decide +kernel
theorem e_Mod_named_82 : decode M_Mod_named.2.1 82 = .ok (.ireturn, 1) := by decide +kernel
theorem e_Mod_number_0 : decode M_Mod_number.2.1 0 = .ok (.aload_n 0, 1) := by decide +kernel
theorem e_Mod_number_1 : decode M_Mod_number.2.1 1 = .ok (.getfield 305, 3) := by decide +kernel
theorem e_Mod_number_4 : decode M_Mod_number.2.1 4 = .ok (.ifCond .ne 41, 3) := by decide +kernel
theorem e_Mod_number_7 : decode M_Mod_number.2.1 7 = .ok (.aload_n 0, 1) := by decide +kernel
theorem e_Mod_number_8 : decode M_Mod_number.2.1 8 = .ok (.aload_n 0, 1) := by decide +kernel
theorem e_Mod_number_9 : decode M_Mod_number.2.1 9 = .ok (.getfield 295, 3) := by decide +kernel
theorem e_Mod_number_12 : decode M_Mod_number.2.1 12 = .ok (.iconst 2, 1) := by decide +kernel
theorem e_Mod_number_13 : decode M_Mod_number.2.1 13 = .ok (.if_icmp .ne 7, 3) := by decide +kernel
theorem e_Mod_number_16 : decode M_Mod_number.2.1 16 = .ok (.iconst 1, 1) := by decide +kernel
theorem e_Mod_number_17 : decode M_Mod_number.2.1 17 = .ok (.goto 4, 3) := by decide +kernel
theorem e_Mod_number_20 : decode M_Mod_number.2.1 20 = .ok (.iconst 0, 1) := by decide +kernel
theorem e_Mod_number_21 : decode M_Mod_number.2.1 21 = .ok (.iconst 1, 1) := by decide +kernel
theorem e_Mod_number_22 : decode M_Mod_number.2.1 22 = .ok (.invokevirtual 308, 3) := by decide +kernel
theorem e_Mod_number_25 : decode M_Mod_number.2.1 25 = .ok (.ifCond .eq 20, 3) := by decide +kernel
theorem e_Mod_number_28 : decode M_Mod_number.2.1 28 = .ok (.aload_n 0, 1) := by decide +kernel
theorem e_Mod_number_29 : decode M_Mod_number.2.1 29 = .ok (.aload_n 0, 1) := by decide +kernel
theorem e_Mod_number_30 : decode M_Mod_number.2.1 30 = .ok (.getfield 292, 3) := by decide +kernel
theorem e_Mod_number_33 : decode M_Mod_number.2.1 33 = .ok (.iload_n 1, 1) := by decide +kernel
theorem e_Mod_number_34 : decode M_Mod_number.2.1 34 = .ok (.iload_n 2, 1) := by decide +kernel
theorem e_Mod_number_35 : decode M_Mod_number.2.1 35 = .ok (.invokestatic 312, 3) := by decide +kernel
theorem e_Mod_number_38 : decode M_Mod_number.2.1 38 = .ok (.iconst 2, 1) := by decide +kernel
theorem e_Mod_number_39 : decode M_Mod_number.2.1 39 = .ok (.invokevirtual 308, 3) := by decide +kernel
theorem e_Mod_number_42 : decode M_Mod_number.2.1 42 = .ok (.ifCond .ne 5, 3) := by decide +kernel
theorem e_Mod_number_45 : decode M_Mod_number.2.1 45 = .ok (.iload_n 1, 1) := by decide +kernel
theorem e_Mod_number_46 : decode M_Mod_number.2.1 46 = .ok (.ireturn, 1) := by decide +kernel
theorem e_Mod_number_47 : decode M_Mod_number.2.1 47 = .ok (.aload_n 0, 1) := by decide +kernel
theorem e_Mod_number_48 : decode M_Mod_number.2.1 48 = .ok (.getfield 292, 3) := by decide +kernel
theorem e_Mod_number_51 : decode M_Mod_number.2.1 51 = .ok (.istore_n 3, 1) := by decide +kernel
theorem e_Mod_number_52 : decode M_Mod_number.2.1 52 = .ok (.aload_n 0, 1) := by decide +kernel
theorem e_Mod_number_53 : decode M_Mod_number.2.1 53 = .ok (.invokevirtual 315, 3) := by decide +kernel
theorem e_Mod_number_56 : decode M_Mod_number.2.1 56 = .ok (.iload_n 3, 1) := by decide +kernel
theorem e_Mod_number_57 : decode M_Mod_number.2.1 57 = .ok (.ireturn, 1) := by decide +kernel
theorem e_Mod_within_0 : decode M_Mod_within.2.1 0 = .ok (.iload_n 0, 1) := by decide +kernel
theorem e_Mod_within_1 : decode M_Mod_within.2.1 1 = .ok (.iload_n 1, 1) := by decide +kernel
theorem e_Mod_within_2 : decode M_Mod_within.2.1 2 = .ok (.if_icmp .lt 12, 3) := by decide +kernel
theorem e_Mod_within_5 : decode M_Mod_within.2.1 5 = .ok (.iload_n 0, 1) := by decide +kernel
theorem e_Mod_within_6 : decode M_Mod_within.2.1 6 = .ok (.iload_n 2, 1) := by decide +kernel
theorem e_Mod_within_7 : decode M_Mod_within.2.1 7 = .ok (.if_icmp .gt 7, 3) := by decide +kernel
theorem e_Mod_within_10 : decode M_Mod_within.2.1 10 = .ok (.iconst 1, 1) := by decide +kernel
theorem e_Mod_within_11 : decode M_Mod_within.2.1 11 = .ok (.goto 4, 3) := by decide +kernel
theorem e_Mod_within_14 : decode M_Mod_within.2.1 14 = .ok (.iconst 0, 1) := by decide +kernel
theorem e_Mod_within_15 : decode M_Mod_within.2.1 15 = .ok (.ireturn, 1) := by decide +kernel
theorem e_Mod_oneOf_0 : decode M_Mod_oneOf.2.1 0 = .ok (.aload_n 0, 1) := by decide +kernel
theorem e_Mod_oneOf_1 : decode M_Mod_oneOf.2.1 1 = .ok (.getfield 305, 3) := by decide +kernel
theorem e_Mod_oneOf_4 : decode M_Mod_oneOf.2.1 4 = .ok (.ifCond .ne 40, 3) := by decide +kernel
theorem e_Mod_oneOf_7 : decode M_Mod_oneOf.2.1 7 = .ok (.aload_n 0, 1) := by decide +kernel
theorem e_Mod_oneOf_8 : decode M_Mod_oneOf.2.1 8 = .ok (.aload_n 0, 1) := by decide +kernel
theorem e_Mod_oneOf_9 : decode M_Mod_oneOf.2.1 9 = .ok (.getfield 295, 3) := by decide +kernel
theorem e_Mod_oneOf_12 : decode M_Mod_oneOf.2.1 12 = .ok (.iconst 1, 1) := by decide +kernel
theorem e_Mod_oneOf_13 : decode M_Mod_oneOf.2.1 13 = .ok (.if_icmp .ne 23, 3) := by decide +kernel
theorem e_Mod_oneOf_16 : decode M_Mod_oneOf.2.1 16 = .ok (.aload_n 0, 1) := by decide +kernel
theorem e_Mod_oneOf_17 : decode M_Mod_oneOf.2.1 17 = .ok (.getfield 289, 3) := by decide +kernel
theorem e_Mod_oneOf_20 : decode M_Mod_oneOf.2.1 20 = .ok (.iload_n 1, 1) := by decide +kernel
theorem e_Mod_oneOf_21 : decode M_Mod_oneOf.2.1 21 = .ok (.iload_n 1, 1) := by decide +kernel
theorem e_Mod_oneOf_22 : decode M_Mod_oneOf.2.1 22 = .ok (.iload_n 2, 1) := by decide +kernel
theorem e_Mod_oneOf_23 : decode M_Mod_oneOf.2.1 23 = .ok (.iadd, 1) := by decide +kernel
theorem e_Mod_oneOf_24 : decode M_Mod_oneOf.2.1 24 = .ok (.iconst 1, 1) := by decide +kernel
theorem e_Mod_oneOf_25 : decode M_Mod_oneOf.2.1 25 = .ok (.isub, 1) := by decide +kernel
theorem e_Mod_oneOf_26 : decode M_Mod_oneOf.2.1 26 = .ok (.invokestatic 312, 3) := by decide +kernel
theorem e_Mod_oneOf_29 : decode M_Mod_oneOf.2.1 29 = .ok (.ifCond .eq 7, 3) := by decide +kernel
theorem e_Mod_oneOf_32 : decode M_Mod_oneOf.2.1 32 = .ok (.iconst 1, 1) := by decide +kernel
theorem e_Mod_oneOf_33 : decode M_Mod_oneOf.2.1 33 = .ok (.goto 4, 3) := by decide +kernel
theorem e_Mod_oneOf_36 : decode M_Mod_oneOf.2.1 36 = .ok (.iconst 0, 1) := by decide +kernel
theorem e_Mod_oneOf_37 : decode M_Mod_oneOf.2.1 37 = .ok (.iconst 1, 1) := by decide +kernel
theorem e_Mod_oneOf_38 : decode M_Mod_oneOf.2.1 38 = .ok (.invokevirtual 308, 3) := by decide +kernel
theorem e_Mod_oneOf_41 : decode M_Mod_oneOf.2.1 41 = .ok (.ifCond .ne 5, 3) := by decide +kernel
theorem e_Mod_oneOf_44 : decode M_Mod_oneOf.2.1 44 = .ok (.iconst 0, 1) := by decide +kernel
theorem e_Mod_oneOf_45 : decode M_Mod_oneOf.2.1 45 = .ok (.ireturn, 1) := by decide +kernel
theorem e_Mod_oneOf_46 : decode M_Mod_oneOf.2.1 46 = .ok (.aload_n 0, 1) := by decide +kernel
theorem e_Mod_oneOf_47 : decode M_Mod_oneOf.2.1 47 = .ok (.getfield 289, 3) := by decide +kernel
theorem e_Mod_oneOf_50 : decode M_Mod_oneOf.2.1 50 = .ok (.iload_n 1, 1) := by decide +kernel
theorem e_Mod_oneOf_51 : decode M_Mod_oneOf.2.1 51 = .ok (.isub, 1) := by decide +kernel
theorem e_Mod_oneOf_52 : decode M_Mod_oneOf.2.1 52 = .ok (.istore_n 3, 1) := by decide +kernel
theorem e_Mod_oneOf_53 : decode M_Mod_oneOf.2.1 53 = .ok (.aload_n 0, 1) := by decide +kernel
theorem e_Mod_oneOf_54 : decode M_Mod_oneOf.2.1 54 = .ok (.invokevirtual 315, 3) := by decide +kernel
theorem e_Mod_oneOf_57 : decode M_Mod_oneOf.2.1 57 = .ok (.iload_n 3, 1) := by decide +kernel
theorem e_Mod_oneOf_58 : decode M_Mod_oneOf.2.1 58 = .ok (.ireturn, 1) := by decide +kernel
theorem e_Mod_link1_0 : decode M_Mod_link1.2.1 0 = .ok (.aload_n 0, 1) := by decide +kernel
theorem e_Mod_link1_1 : decode M_Mod_link1.2.1 1 = .ok (.aload_n 0, 1) := by decide +kernel
theorem e_Mod_link1_2 : decode M_Mod_link1.2.1 2 = .ok (.getfield 333, 3) := by decide +kernel
theorem e_Mod_link1_5 : decode M_Mod_link1.2.1 5 = .ok (.bipush 12, 2) := by decide +kernel
theorem e_Mod_link1_7 : decode M_Mod_link1.2.1 7 = .ok (.if_icmp .ge 7, 3) := by decide +kernel
theorem e_Mod_link1_10 : decode M_Mod_link1.2.1 10 = .ok (.iconst 1, 1) := by decide +kernel
theorem e_Mod_link1_11 : decode M_Mod_link1.2.1 11 = .ok (.goto 4, 3) := by decide +kernel
theorem e_Mod_link1_14 : decode M_Mod_link1.2.1 14 = .ok (.iconst 0, 1) := by decide +kernel
theorem e_Mod_link1_15 : decode M_Mod_link1.2.1 15 = .ok (.iconst 2, 1) := by decide +kernel
theorem e_Mod_link1_16 : decode M_Mod_link1.2.1 16 = .ok (.invokevirtual 308, 3) := by decide +kernel
theorem e_Mod_link1_19 : decode M_Mod_link1.2.1 19 = .ok (.ifCond .ne 4, 3) := by decide +kernel
theorem e_Mod_link1_22 : decode M_Mod_link1.2.1 22 = .ok (.return_, 1) := by decide +kernel
theorem e_Mod_link1_23 : decode M_Mod_link1.2.1 23 = .ok (.aload_n 0, 1) := by decide +kernel
theorem e_Mod_link1_24 : decode M_Mod_link1.2.1 24 = .ok (.invokevirtual 315, 3) := by decide +kernel
theorem e_Mod_link1_27 : decode M_Mod_link1.2.1 27 = .ok (.aload_n 0, 1) := by decide +kernel
theorem e_Mod_link1_28 : decode M_Mod_link1.2.1 28 = .ok (.bipush 9, 2) := by decide +kernel
theorem e_Mod_link1_30 : decode M_Mod_link1.2.1 30 = .ok (.aload_n 0, 1) := by decide +kernel
theorem e_Mod_link1_31 : decode M_Mod_link1.2.1 31 = .ok (.getfield 318, 3) := by decide +kernel
theorem e_Mod_link1_34 : decode M_Mod_link1.2.1 34 = .ok (.invokevirtual 324, 3) := by decide +kernel
theorem e_Mod_link1_37 : decode M_Mod_link1.2.1 37 = .ok (.istore_n 1, 1) := by decide +kernel
theorem e_Mod_link1_38 : decode M_Mod_link1.2.1 38 = .ok (.aload_n 0, 1) := by decide +kernel
theorem e_Mod_link1_39 : decode M_Mod_link1.2.1 39 = .ok (.bipush 9, 2) := by decide +kernel
theorem e_Mod_link1_41 : decode M_Mod_link1.2.1 41 = .ok (.aload_n 0, 1) := by decide +kernel
theorem e_Mod_link1_42 : decode M_Mod_link1.2.1 42 = .ok (.getfield 318, 3) := by decide +kernel
theorem e_Mod_link1_45 : decode M_Mod_link1.2.1 45 = .ok (.invokevirtual 324, 3) := by decide +kernel
theorem e_Mod_link1_48 : decode M_Mod_link1.2.1 48 = .ok (.istore_n 2, 1) := by decide +kernel
theorem e_Mod_link1_49 : decode M_Mod_link1.2.1 49 = .ok (.aload_n 0, 1) := by decide +kernel
theorem e_Mod_link1_50 : decode M_Mod_link1.2.1 50 = .ok (.getfield 305, 3) := by decide +kernel
theorem e_Mod_link1_53 : decode M_Mod_link1.2.1 53 = .ok (.ifCond .ne 38, 3) := by decide +kernel
theorem e_Mod_link1_56 : decode M_Mod_link1.2.1 56 = .ok (.aload_n 0, 1) := by decide +kernel
theorem e_Mod_link1_57 : decode M_Mod_link1.2.1 57 = .ok (.aload_n 0, 1) := by decide +kernel
theorem e_Mod_link1_58 : decode M_Mod_link1.2.1 58 = .ok (.getfield 295, 3) := by decide +kernel
theorem e_Mod_link1_61 : decode M_Mod_link1.2.1 61 = .ok (.iconst 1, 1) := by decide +kernel
theorem e_Mod_link1_62 : decode M_Mod_link1.2.1 62 = .ok (.if_icmp .ne 21, 3) := by decide +kernel
theorem e_Mod_link1_65 : decode M_Mod_link1.2.1 65 = .ok (.aload_n 0, 1) := by decide +kernel
theorem e_Mod_link1_66 : decode M_Mod_link1.2.1 66 = .ok (.getfield 289, 3) := by decide +kernel
theorem e_Mod_link1_69 : decode M_Mod_link1.2.1 69 = .ok (.bipush 16, 2) := by decide +kernel
theorem e_Mod_link1_71 : decode M_Mod_link1.2.1 71 = .ok (.bipush 18, 2) := by decide +kernel
theorem e_Mod_link1_73 : decode M_Mod_link1.2.1 73 = .ok (.invokestatic 312, 3) := by decide +kernel
theorem e_Mod_link1_76 : decode M_Mod_link1.2.1 76 = .ok (.ifCond .eq 7, 3) := by decide +kernel
theorem e_Mod_link1_79 : decode M_Mod_link1.2.1 79 = .ok (.iconst 1, 1) := by decide +kernel
theorem e_Mod_link1_80 : decode M_Mod_link1.2.1 80 = .ok (.goto 4, 3) := by decide +kernel
theorem e_Mod_link1_83 : decode M_Mod_link1.2.1 83 = .ok (.iconst 0, 1) := by decide +kernel
theorem e_Mod_link1_84 : decode M_Mod_link1.2.1 84 = .ok (.iconst 1, 1) := by decide +kernel
theorem e_Mod_link1_85 : decode M_Mod_link1.2.1 85 = .ok (.invokevirtual 308, 3) := by decide +kernel
theorem e_Mod_link1_88 : decode M_Mod_link1.2.1 88 = .ok (.ifCond .ne 4, 3) := by decide +kernel
theorem e_Mod_link1_91 : decode M_Mod_link1.2.1 91 = .ok (.return_, 1) := by decide +kernel
theorem e_Mod_link1_92 : decode M_Mod_link1.2.1 92 = .ok (.aload_n 0, 1) := by decide +kernel
theorem e_Mod_link1_93 : decode M_Mod_link1.2.1 93 = .ok (.getfield 289, 3) := by decide +kernel
theorem e_Mod_link1_96 : decode M_Mod_link1.2.1 96 = .ok (.bipush 16, 2) := by decide +kernel
theorem e_Mod_link1_98 : decode M_Mod_link1.2.1 98 = .ok (.isub, 1) := by decide +kernel
theorem e_Mod_link1_99 : decode M_Mod_link1.2.1 99 = .ok (.istore_n 3, 1) := by decide +kernel
theorem e_Mod_link1_100 : decode M_Mod_link1.2.1 100 = .ok (.aload_n 0, 1) := by decide +kernel
theorem e_Mod_link1_101 : decode M_Mod_link1.2.1 101 = .ok (.aload_n 0, 1) := by decide +kernel
theorem e_Mod_link1_102 : decode M_Mod_link1.2.1 102 = .ok (.getfield 114, 3) := by decide +kernel
theorem e_Mod_link1_105 : decode M_Mod_link1.2.1 105 = .ok (.iload_n 1, 1) := by decide +kernel
theorem e_Mod_link1_106 : decode M_Mod_link1.2.1 106 = .ok (.iaload, 1) := by decide +kernel
theorem e_Mod_link1_107 : decode M_Mod_link1.2.1 107 = .ok (.aload_n 0, 1) := by decide +kernel
theorem e_Mod_link1_108 : decode M_Mod_link1.2.1 108 = .ok (.getfield 114, 3) := by decide +kernel
theorem e_Mod_link1_111 : decode M_Mod_link1.2.1 111 = .ok (.iload_n 2, 1) := by decide +kernel
theorem e_Mod_link1_112 : decode M_Mod_link1.2.1 112 = .ok (.iaload, 1) := by decide +kernel
theorem e_Mod_link1_113 : decode M_Mod_link1.2.1 113 = .ok (.iload_n 3, 1) := by decide +kernel
theorem e_Mod_link1_114 : decode M_Mod_link1.2.1 114 = .ok (.invokestatic 339, 3) := by decide +kernel
theorem e_Mod_link1_117 : decode M_Mod_link1.2.1 117 = .ok (.iconst 3, 1) := by decide +kernel
theorem e_Mod_link1_118 : decode M_Mod_link1.2.1 118 = .ok (.invokevirtual 308, 3) := by decide +kernel
theorem e_Mod_link1_121 : decode M_Mod_link1.2.1 121 = .ok (.ifCond .eq 18, 3) := by decide +kernel
theorem e_Mod_link1_124 : decode M_Mod_link1.2.1 124 = .ok (.aload_n 0, 1) := by decide +kernel
theorem e_Mod_link1_125 : decode M_Mod_link1.2.1 125 = .ok (.aload_n 0, 1) := by decide +kernel
theorem e_Mod_link1_126 : decode M_Mod_link1.2.1 126 = .ok (.iload_n 1, 1) := by decide +kernel
theorem e_Mod_link1_127 : decode M_Mod_link1.2.1 127 = .ok (.iload_n 2, 1) := by decide +kernel
theorem e_Mod_link1_128 : decode M_Mod_link1.2.1 128 = .ok (.iload_n 3, 1) := by decide +kernel
theorem e_Mod_link1_129 : decode M_Mod_link1.2.1 129 = .ok (.invokevirtual 342, 3) := by decide +kernel
theorem e_Mod_link1_132 : decode M_Mod_link1.2.1 132 = .ok (.iconst 5, 1) := by decide +kernel
theorem e_Mod_link1_133 : decode M_Mod_link1.2.1 133 = .ok (.invokevirtual 308, 3) := by decide +kernel
theorem e_Mod_link1_136 : decode M_Mod_link1.2.1 136 = .ok (.ifCond .ne 4, 3) := by decide +kernel
theorem e_Mod_link1_139 : decode M_Mod_link1.2.1 139 = .ok (.return_, 1) := by decide +kernel
theorem e_Mod_link1_140 : decode M_Mod_link1.2.1 140 = .ok (.aload_n 0, 1) := by decide +kernel
theorem e_Mod_link1_141 : decode M_Mod_link1.2.1 141 = .ok (.invokevirtual 315, 3) := by decide +kernel
theorem e_Mod_link1_144 : decode M_Mod_link1.2.1 144 = .ok (.aload_n 0, 1) := by decide +kernel
theorem e_Mod_link1_145 : decode M_Mod_link1.2.1 145 = .ok (.getfield 129, 3) := by decide +kernel
theorem e_Mod_link1_148 : decode M_Mod_link1.2.1 148 = .ok (.aload_n 0, 1) := by decide +kernel
theorem e_Mod_link1_149 : decode M_Mod_link1.2.1 149 = .ok (.getfield 333, 3) := by decide +kernel
theorem e_Mod_link1_152 : decode M_Mod_link1.2.1 152 = .ok (.iload_n 1, 1) := by decide +kernel
theorem e_Mod_link1_153 : decode M_Mod_link1.2.1 153 = .ok (.iastore, 1) := by decide +kernel
theorem e_Mod_link1_154 : decode M_Mod_link1.2.1 154 = .ok (.aload_n 0, 1) := by decide +kernel
theorem e_Mod_link1_155 : decode M_Mod_link1.2.1 155 = .ok (.getfield 132, 3) := by decide +kernel
theorem e_Mod_link1_158 : decode M_Mod_link1.2.1 158 = .ok (.aload_n 0, 1) := by decide +kernel
theorem e_Mod_link1_159 : decode M_Mod_link1.2.1 159 = .ok (.getfield 333, 3) := by decide +kernel
theorem e_Mod_link1_162 : decode M_Mod_link1.2.1 162 = .ok (.iload_n 2, 1) := by decide +kernel
theorem e_Mod_link1_163 : decode M_Mod_link1.2.1 163 = .ok (.iastore, 1) := by decide +kernel
theorem e_Mod_link1_164 : decode M_Mod_link1.2.1 164 = .ok (.aload_n 0, 1) := by decide +kernel
theorem e_Mod_link1_165 : decode M_Mod_link1.2.1 165 = .ok (.getfield 135, 3) := by decide +kernel
theorem e_Mod_link1_168 : decode M_Mod_link1.2.1 168 = .ok (.aload_n 0, 1) := by decide +kernel
theorem e_Mod_link1_169 : decode M_Mod_link1.2.1 169 = .ok (.getfield 333, 3) := by decide +kernel
theorem e_Mod_link1_172 : decode M_Mod_link1.2.1 172 = .ok (.iload_n 3, 1) := by decide +kernel
theorem e_Mod_link1_173 : decode M_Mod_link1.2.1 173 = .ok (.iastore, 1) := by decide +kernel
theorem e_Mod_link1_174 : decode M_Mod_link1.2.1 174 = .ok (.aload_n 0, 1) := by decide +kernel
theorem e_Mod_link1_175 : decode M_Mod_link1.2.1 175 = .ok (.dup, 1) := by decide +kernel
theorem e_Mod_link1_176 : decode M_Mod_link1.2.1 176 = .ok (.getfield 333, 3) := by decide +kernel
theorem e_Mod_link1_179 : decode M_Mod_link1.2.1 179 = .ok (.iconst 1, 1) := by decide +kernel
theorem e_Mod_link1_180 : decode M_Mod_link1.2.1 180 = .ok (.iadd, 1) := by decide +kernel
theorem e_Mod_link1_181 : decode M_Mod_link1.2.1 181 = .ok (.putfield 333, 3) := by decide +kernel
theorem e_Mod_link1_184 : decode M_Mod_link1.2.1 184 = .ok (.return_, 1) := by decide +kernel
theorem e_Mod_isPlace_0 : decode M_Mod_isPlace.2.1 0 = .ok (.iload_n 2, 1) := by decide +kernel
theorem e_Mod_isPlace_1 : decode M_Mod_isPlace.2.1 1 = .ok (.ifCond .ne 19, 3) := by decide +kernel
theorem e_Mod_isPlace_4 : decode M_Mod_isPlace.2.1 4 = .ok (.iload_n 1, 1) := by decide +kernel
theorem e_Mod_isPlace_5 : decode M_Mod_isPlace.2.1 5 = .ok (.iconst 1, 1) := by decide +kernel
theorem e_Mod_isPlace_6 : decode M_Mod_isPlace.2.1 6 = .ok (.if_icmp .eq 8, 3) := by decide +kernel
theorem e_Mod_isPlace_9 : decode M_Mod_isPlace.2.1 9 = .ok (.iload_n 1, 1) := by decide +kernel
theorem e_Mod_isPlace_10 : decode M_Mod_isPlace.2.1 10 = .ok (.iconst 3, 1) := by decide +kernel
theorem e_Mod_isPlace_11 : decode M_Mod_isPlace.2.1 11 = .ok (.if_icmp .ne 7, 3) := by decide +kernel
theorem e_Mod_isPlace_14 : decode M_Mod_isPlace.2.1 14 = .ok (.iconst 1, 1) := by decide +kernel
theorem e_Mod_isPlace_15 : decode M_Mod_isPlace.2.1 15 = .ok (.goto 4, 3) := by decide +kernel
theorem e_Mod_isPlace_18 : decode M_Mod_isPlace.2.1 18 = .ok (.iconst 0, 1) := by decide +kernel
theorem e_Mod_isPlace_19 : decode M_Mod_isPlace.2.1 19 = .ok (.ireturn, 1) := by decide +kernel
theorem e_Mod_isPlace_20 : decode M_Mod_isPlace.2.1 20 = .ok (.iload_n 2, 1) := by decide +kernel
theorem e_Mod_isPlace_21 : decode M_Mod_isPlace.2.1 21 = .ok (.iconst 1, 1) := by decide +kernel
theorem e_Mod_isPlace_22 : decode M_Mod_isPlace.2.1 22 = .ok (.if_icmp .ne 16, 3) := by decide +kernel
theorem e_Mod_isPlace_25 : decode M_Mod_isPlace.2.1 25 = .ok (.iload_n 1, 1) := by decide +kernel
theorem e_Mod_isPlace_26 : decode M_Mod_isPlace.2.1 26 = .ok (.iconst 3, 1) := by decide +kernel
theorem e_Mod_isPlace_27 : decode M_Mod_isPlace.2.1 27 = .ok (.if_icmp .ne 7, 3) := by decide +kernel
theorem e_Mod_isPlace_30 : decode M_Mod_isPlace.2.1 30 = .ok (.iconst 1, 1) := by decide +kernel
theorem e_Mod_isPlace_31 : decode M_Mod_isPlace.2.1 31 = .ok (.goto 27, 3) := by decide +kernel
theorem e_Mod_isPlace_34 : decode M_Mod_isPlace.2.1 34 = .ok (.iconst 0, 1) := by decide +kernel
theorem e_Mod_isPlace_35 : decode M_Mod_isPlace.2.1 35 = .ok (.goto 23, 3) := by decide +kernel
theorem e_Mod_isPlace_38 : decode M_Mod_isPlace.2.1 38 = .ok (.iload_n 0, 1) := by decide +kernel
theorem e_Mod_isPlace_39 : decode M_Mod_isPlace.2.1 39 = .ok (.iconst 1, 1) := by decide +kernel
theorem e_Mod_isPlace_40 : decode M_Mod_isPlace.2.1 40 = .ok (.if_icmp .ne 17, 3) := by decide +kernel
theorem e_Mod_isPlace_43 : decode M_Mod_isPlace.2.1 43 = .ok (.iload_n 1, 1) := by decide +kernel
theorem e_Mod_isPlace_44 : decode M_Mod_isPlace.2.1 44 = .ok (.iconst 1, 1) := by decide +kernel
theorem e_Mod_isPlace_45 : decode M_Mod_isPlace.2.1 45 = .ok (.if_icmp .eq 8, 3) := by decide +kernel
theorem e_Mod_isPlace_48 : decode M_Mod_isPlace.2.1 48 = .ok (.iload_n 1, 1) := by decide +kernel
theorem e_Mod_isPlace_49 : decode M_Mod_isPlace.2.1 49 = .ok (.iconst 2, 1) := by decide +kernel
theorem e_Mod_isPlace_50 : decode M_Mod_isPlace.2.1 50 = .ok (.if_icmp .ne 7, 3) := by decide +kernel
theorem e_Mod_isPlace_53 : decode M_Mod_isPlace.2.1 53 = .ok (.iconst 1, 1) := by decide +kernel
theorem e_Mod_isPlace_54 : decode M_Mod_isPlace.2.1 54 = .ok (.goto 4, 3) := by decide +kernel
theorem e_Mod_isPlace_57 : decode M_Mod_isPlace.2.1 57 = .ok (.iconst 0, 1) := by decide +kernel
theorem e_Mod_isPlace_58 : decode M_Mod_isPlace.2.1 58 = .ok (.ireturn, 1) := by decide +kernel
theorem e_Mod_isFree_0 : decode M_Mod_isFree.2.1 0 = .ok (.iconst 0, 1) := by decide +kernel
theorem e_Mod_isFree_1 : decode M_Mod_isFree.2.1 1 = .ok (.istore 4, 2) := by decide +kernel
theorem e_Mod_isFree_3 : decode M_Mod_isFree.2.1 3 = .ok (.iload 4, 2) := by decide +kernel
theorem e_Mod_isFree_5 : decode M_Mod_isFree.2.1 5 = .ok (.aload_n 0, 1) := by decide +kernel
theorem e_Mod_isFree_6 : decode M_Mod_isFree.2.1 6 = .ok (.getfield 333, 3) := by decide +kernel
theorem e_Mod_isFree_9 : decode M_Mod_isFree.2.1 9 = .ok (.if_icmp .ge 60, 3) := by decide +kernel
theorem e_Mod_isFree_12 : decode M_Mod_isFree.2.1 12 = .ok (.aload_n 0, 1) := by decide +kernel
theorem e_Mod_isFree_13 : decode M_Mod_isFree.2.1 13 = .ok (.getfield 132, 3) := by decide +kernel
theorem e_Mod_isFree_16 : decode M_Mod_isFree.2.1 16 = .ok (.iload 4, 2) := by decide +kernel
theorem e_Mod_isFree_18 : decode M_Mod_isFree.2.1 18 = .ok (.iaload, 1) := by decide +kernel
theorem e_Mod_isFree_19 : decode M_Mod_isFree.2.1 19 = .ok (.iload_n 2, 1) := by decide +kernel
theorem e_Mod_isFree_20 : decode M_Mod_isFree.2.1 20 = .ok (.if_icmp .ne 14, 3) := by decide +kernel
theorem e_Mod_isFree_23 : decode M_Mod_isFree.2.1 23 = .ok (.aload_n 0, 1) := by decide +kernel
theorem e_Mod_isFree_24 : decode M_Mod_isFree.2.1 24 = .ok (.getfield 135, 3) := by decide +kernel
theorem e_Mod_isFree_27 : decode M_Mod_isFree.2.1 27 = .ok (.iload 4, 2) := by decide +kernel
theorem e_Mod_isFree_29 : decode M_Mod_isFree.2.1 29 = .ok (.iaload, 1) := by decide +kernel
theorem e_Mod_isFree_30 : decode M_Mod_isFree.2.1 30 = .ok (.iload_n 3, 1) := by decide +kernel
theorem e_Mod_isFree_31 : decode M_Mod_isFree.2.1 31 = .ok (.if_icmp .eq 30, 3) := by decide +kernel
theorem e_Mod_isFree_34 : decode M_Mod_isFree.2.1 34 = .ok (.iload_n 3, 1) := by decide +kernel
theorem e_Mod_isFree_35 : decode M_Mod_isFree.2.1 35 = .ok (.iconst 2, 1) := by decide +kernel
theorem e_Mod_isFree_36 : decode M_Mod_isFree.2.1 36 = .ok (.if_icmp .ne 27, 3) := by decide +kernel
theorem e_Mod_isFree_39 : decode M_Mod_isFree.2.1 39 = .ok (.aload_n 0, 1) := by decide +kernel
theorem e_Mod_isFree_40 : decode M_Mod_isFree.2.1 40 = .ok (.getfield 135, 3) := by decide +kernel
theorem e_Mod_isFree_43 : decode M_Mod_isFree.2.1 43 = .ok (.iload 4, 2) := by decide +kernel
theorem e_Mod_isFree_45 : decode M_Mod_isFree.2.1 45 = .ok (.iaload, 1) := by decide +kernel
theorem e_Mod_isFree_46 : decode M_Mod_isFree.2.1 46 = .ok (.iconst 2, 1) := by decide +kernel
theorem e_Mod_isFree_47 : decode M_Mod_isFree.2.1 47 = .ok (.if_icmp .ne 16, 3) := by decide +kernel
theorem e_Mod_isFree_50 : decode M_Mod_isFree.2.1 50 = .ok (.aload_n 0, 1) := by decide +kernel
theorem e_Mod_isFree_51 : decode M_Mod_isFree.2.1 51 = .ok (.getfield 129, 3) := by decide +kernel
theorem e_Mod_isFree_54 : decode M_Mod_isFree.2.1 54 = .ok (.iload 4, 2) := by decide +kernel
theorem e_Mod_isFree_56 : decode M_Mod_isFree.2.1 56 = .ok (.iaload, 1) := by decide +kernel
theorem e_Mod_isFree_57 : decode M_Mod_isFree.2.1 57 = .ok (.iload_n 1, 1) := by decide +kernel
theorem e_Mod_isFree_58 : decode M_Mod_isFree.2.1 58 = .ok (.if_icmp .ne 5, 3) := by decide +kernel
theorem e_Mod_isFree_61 : decode M_Mod_isFree.2.1 61 = .ok (.iconst 0, 1) := by decide +kernel
theorem e_Mod_isFree_62 : decode M_Mod_isFree.2.1 62 = .ok (.ireturn, 1) := by decide +kernel
theorem e_Mod_isFree_63 : decode M_Mod_isFree.2.1 63 = .ok (.iinc 4 1, 3) := by decide +kernel
theorem e_Mod_isFree_66 : decode M_Mod_isFree.2.1 66 = .ok (.goto (-63), 3) := by decide +kernel
theorem e_Mod_isFree_69 : decode M_Mod_isFree.2.1 69 = .ok (.aload_n 0, 1) := by decide +kernel
theorem e_Mod_isFree_70 : decode M_Mod_isFree.2.1 70 = .ok (.iload_n 1, 1) := by decide +kernel
theorem e_Mod_isFree_71 : decode M_Mod_isFree.2.1 71 = .ok (.invokevirtual 336, 3) := by decide +kernel
theorem e_Mod_isFree_74 : decode M_Mod_isFree.2.1 74 = .ok (.iload_n 2, 1) := by decide +kernel
theorem e_Mod_isFree_75 : decode M_Mod_isFree.2.1 75 = .ok (.ishr, 1) := by decide +kernel
theorem e_Mod_isFree_76 : decode M_Mod_isFree.2.1 76 = .ok (.iconst 1, 1) := by decide +kernel
theorem e_Mod_isFree_77 : decode M_Mod_isFree.2.1 77 = .ok (.iand, 1) := by decide +kernel
theorem e_Mod_isFree_78 : decode M_Mod_isFree.2.1 78 = .ok (.ifCond .ne 7, 3) := by decide +kernel
theorem e_Mod_isFree_81 : decode M_Mod_isFree.2.1 81 = .ok (.iconst 1, 1) := by decide +kernel
theorem e_Mod_isFree_82 : decode M_Mod_isFree.2.1 82 = .ok (.goto 4, 3) := by decide +kernel
theorem e_Mod_isFree_85 : decode M_Mod_isFree.2.1 85 = .ok (.iconst 0, 1) := by decide +kernel
theorem e_Mod_isFree_86 : decode M_Mod_isFree.2.1 86 = .ok (.ireturn, 1) := by decide +kernel
theorem e_Mod_aheadOf_0 : decode M_Mod_aheadOf.2.1 0 = .ok (.iconst 1, 1) := by decide +kernel
theorem e_Mod_aheadOf_1 : decode M_Mod_aheadOf.2.1 1 = .ok (.iload_n 1, 1) := by decide +kernel
theorem e_Mod_aheadOf_2 : decode M_Mod_aheadOf.2.1 2 = .ok (.ishl, 1) := by decide +kernel
theorem e_Mod_aheadOf_3 : decode M_Mod_aheadOf.2.1 3 = .ok (.istore_n 2, 1) := by decide +kernel
theorem e_Mod_aheadOf_4 : decode M_Mod_aheadOf.2.1 4 = .ok (.iconst 0, 1) := by decide +kernel
theorem e_Mod_aheadOf_5 : decode M_Mod_aheadOf.2.1 5 = .ok (.istore_n 3, 1) := by decide +kernel
theorem e_Mod_aheadOf_6 : decode M_Mod_aheadOf.2.1 6 = .ok (.iload_n 3, 1) := by decide +kernel
theorem e_Mod_aheadOf_7 : decode M_Mod_aheadOf.2.1 7 = .ok (.bipush 10, 2) := by decide +kernel
theorem e_Mod_aheadOf_9 : decode M_Mod_aheadOf.2.1 9 = .ok (.if_icmp .ge 54, 3) := by decide +kernel
theorem e_Mod_aheadOf_12 : decode M_Mod_aheadOf.2.1 12 = .ok (.iconst 0, 1) := by decide +kernel
theorem e_Mod_aheadOf_13 : decode M_Mod_aheadOf.2.1 13 = .ok (.istore 4, 2) := by decide +kernel
theorem e_Mod_aheadOf_15 : decode M_Mod_aheadOf.2.1 15 = .ok (.iload 4, 2) := by decide +kernel
theorem e_Mod_aheadOf_17 : decode M_Mod_aheadOf.2.1 17 = .ok (.aload_n 0, 1) := by decide +kernel
theorem e_Mod_aheadOf_18 : decode M_Mod_aheadOf.2.1 18 = .ok (.getfield 333, 3) := by decide +kernel
theorem e_Mod_aheadOf_21 : decode M_Mod_aheadOf.2.1 21 = .ok (.if_icmp .ge 36, 3) := by decide +kernel
theorem e_Mod_aheadOf_24 : decode M_Mod_aheadOf.2.1 24 = .ok (.iload_n 2, 1) := by decide +kernel
theorem e_Mod_aheadOf_25 : decode M_Mod_aheadOf.2.1 25 = .ok (.aload_n 0, 1) := by decide +kernel
theorem e_Mod_aheadOf_26 : decode M_Mod_aheadOf.2.1 26 = .ok (.getfield 132, 3) := by decide +kernel
theorem e_Mod_aheadOf_29 : decode M_Mod_aheadOf.2.1 29 = .ok (.iload 4, 2) := by decide +kernel
theorem e_Mod_aheadOf_31 : decode M_Mod_aheadOf.2.1 31 = .ok (.iaload, 1) := by decide +kernel
theorem e_Mod_aheadOf_32 : decode M_Mod_aheadOf.2.1 32 = .ok (.ishr, 1) := by decide +kernel
theorem e_Mod_aheadOf_33 : decode M_Mod_aheadOf.2.1 33 = .ok (.iconst 1, 1) := by decide +kernel
theorem e_Mod_aheadOf_34 : decode M_Mod_aheadOf.2.1 34 = .ok (.iand, 1) := by decide +kernel
theorem e_Mod_aheadOf_35 : decode M_Mod_aheadOf.2.1 35 = .ok (.iconst 1, 1) := by decide +kernel
theorem e_Mod_aheadOf_36 : decode M_Mod_aheadOf.2.1 36 = .ok (.if_icmp .ne 15, 3) := by decide +kernel
theorem e_Mod_aheadOf_39 : decode M_Mod_aheadOf.2.1 39 = .ok (.iload_n 2, 1) := by decide +kernel
theorem e_Mod_aheadOf_40 : decode M_Mod_aheadOf.2.1 40 = .ok (.iconst 1, 1) := by decide +kernel
theorem e_Mod_aheadOf_41 : decode M_Mod_aheadOf.2.1 41 = .ok (.aload_n 0, 1) := by decide +kernel
theorem e_Mod_aheadOf_42 : decode M_Mod_aheadOf.2.1 42 = .ok (.getfield 129, 3) := by decide +kernel
theorem e_Mod_aheadOf_45 : decode M_Mod_aheadOf.2.1 45 = .ok (.iload 4, 2) := by decide +kernel
theorem e_Mod_aheadOf_47 : decode M_Mod_aheadOf.2.1 47 = .ok (.iaload, 1) := by decide +kernel
theorem e_Mod_aheadOf_48 : decode M_Mod_aheadOf.2.1 48 = .ok (.ishl, 1) := by decide +kernel
theorem e_Mod_aheadOf_49 : decode M_Mod_aheadOf.2.1 49 = .ok (.ior, 1) := by decide +kernel
theorem e_Mod_aheadOf_50 : decode M_Mod_aheadOf.2.1 50 = .ok (.istore_n 2, 1) := by decide +kernel
theorem e_Mod_aheadOf_51 : decode M_Mod_aheadOf.2.1 51 = .ok (.iinc 4 1, 3) := by decide +kernel
theorem e_Mod_aheadOf_54 : decode M_Mod_aheadOf.2.1 54 = .ok (.goto (-39), 3) := by decide +kernel
theorem e_Mod_aheadOf_57 : decode M_Mod_aheadOf.2.1 57 = .ok (.iinc 3 1, 3) := by decide +kernel
theorem e_Mod_aheadOf_60 : decode M_Mod_aheadOf.2.1 60 = .ok (.goto (-54), 3) := by decide +kernel
theorem e_Mod_aheadOf_63 : decode M_Mod_aheadOf.2.1 63 = .ok (.iload_n 2, 1) := by decide +kernel
theorem e_Mod_aheadOf_64 : decode M_Mod_aheadOf.2.1 64 = .ok (.ireturn, 1) := by decide +kernel
theorem e_Mod_plant1_0 : decode M_Mod_plant1.2.1 0 = .ok (.aload_n 0, 1) := by decide +kernel
theorem e_Mod_plant1_1 : decode M_Mod_plant1.2.1 1 = .ok (.invokevirtual 315, 3) := by decide +kernel
theorem e_Mod_plant1_4 : decode M_Mod_plant1.2.1 4 = .ok (.aload_n 0, 1) := by decide +kernel
theorem e_Mod_plant1_5 : decode M_Mod_plant1.2.1 5 = .ok (.aload_n 0, 1) := by decide +kernel
theorem e_Mod_plant1_6 : decode M_Mod_plant1.2.1 6 = .ok (.getfield 295, 3) := by decide +kernel
theorem e_Mod_plant1_9 : decode M_Mod_plant1.2.1 9 = .ok (.iconst 2, 1) := by decide +kernel
theorem e_Mod_plant1_10 : decode M_Mod_plant1.2.1 10 = .ok (.if_icmp .ne 7, 3) := by decide +kernel
theorem e_Mod_plant1_13 : decode M_Mod_plant1.2.1 13 = .ok (.iconst 1, 1) := by decide +kernel
theorem e_Mod_plant1_14 : decode M_Mod_plant1.2.1 14 = .ok (.goto 4, 3) := by decide +kernel
theorem e_Mod_plant1_17 : decode M_Mod_plant1.2.1 17 = .ok (.iconst 0, 1) := by decide +kernel
theorem e_Mod_plant1_18 : decode M_Mod_plant1.2.1 18 = .ok (.iconst 1, 1) := by decide +kernel
theorem e_Mod_plant1_19 : decode M_Mod_plant1.2.1 19 = .ok (.invokevirtual 308, 3) := by decide +kernel
theorem e_Mod_plant1_22 : decode M_Mod_plant1.2.1 22 = .ok (.ifCond .eq 50, 3) := by decide +kernel
theorem e_Mod_plant1_25 : decode M_Mod_plant1.2.1 25 = .ok (.aload_n 0, 1) := by decide +kernel
theorem e_Mod_plant1_26 : decode M_Mod_plant1.2.1 26 = .ok (.aload_n 0, 1) := by decide +kernel
theorem e_Mod_plant1_27 : decode M_Mod_plant1.2.1 27 = .ok (.getfield 292, 3) := by decide +kernel
theorem e_Mod_plant1_30 : decode M_Mod_plant1.2.1 30 = .ok (.iconst 4, 1) := by decide +kernel
theorem e_Mod_plant1_31 : decode M_Mod_plant1.2.1 31 = .ok (.if_icmp .ge 7, 3) := by decide +kernel
theorem e_Mod_plant1_34 : decode M_Mod_plant1.2.1 34 = .ok (.iconst 1, 1) := by decide +kernel
theorem e_Mod_plant1_35 : decode M_Mod_plant1.2.1 35 = .ok (.goto 4, 3) := by decide +kernel
theorem e_Mod_plant1_38 : decode M_Mod_plant1.2.1 38 = .ok (.iconst 0, 1) := by decide +kernel
theorem e_Mod_plant1_39 : decode M_Mod_plant1.2.1 39 = .ok (.iconst 2, 1) := by decide +kernel
theorem e_Mod_plant1_40 : decode M_Mod_plant1.2.1 40 = .ok (.invokevirtual 308, 3) := by decide +kernel
theorem e_Mod_plant1_43 : decode M_Mod_plant1.2.1 43 = .ok (.ifCond .eq 29, 3) := by decide +kernel
theorem e_Mod_plant1_46 : decode M_Mod_plant1.2.1 46 = .ok (.aload_n 0, 1) := by decide +kernel
theorem e_Mod_plant1_47 : decode M_Mod_plant1.2.1 47 = .ok (.aload_n 0, 1) := by decide +kernel
theorem e_Mod_plant1_48 : decode M_Mod_plant1.2.1 48 = .ok (.getfield 138, 3) := by decide +kernel
theorem e_Mod_plant1_51 : decode M_Mod_plant1.2.1 51 = .ok (.aload_n 0, 1) := by decide +kernel
theorem e_Mod_plant1_52 : decode M_Mod_plant1.2.1 52 = .ok (.getfield 292, 3) := by decide +kernel
theorem e_Mod_plant1_55 : decode M_Mod_plant1.2.1 55 = .ok (.iaload, 1) := by decide +kernel
theorem e_Mod_plant1_56 : decode M_Mod_plant1.2.1 56 = .ok (.iconst (-1), 1) := by decide +kernel
theorem e_Mod_plant1_57 : decode M_Mod_plant1.2.1 57 = .ok (.if_icmp .ne 7, 3) := by decide +kernel
theorem e_Mod_plant1_60 : decode M_Mod_plant1.2.1 60 = .ok (.iconst 1, 1) := by decide +kernel
theorem e_Mod_plant1_61 : decode M_Mod_plant1.2.1 61 = .ok (.goto 4, 3) := by decide +kernel
theorem e_Mod_plant1_64 : decode M_Mod_plant1.2.1 64 = .ok (.iconst 0, 1) := by decide +kernel
theorem e_Mod_plant1_65 : decode M_Mod_plant1.2.1 65 = .ok (.iconst 4, 1) := by decide +kernel
theorem e_Mod_plant1_66 : decode M_Mod_plant1.2.1 66 = .ok (.invokevirtual 308, 3) := by decide +kernel
theorem e_Mod_plant1_69 : decode M_Mod_plant1.2.1 69 = .ok (.ifCond .ne 4, 3) := by decide +kernel
theorem e_Mod_plant1_72 : decode M_Mod_plant1.2.1 72 = .ok (.return_, 1) := by decide +kernel
theorem e_Mod_plant1_73 : decode M_Mod_plant1.2.1 73 = .ok (.aload_n 0, 1) := by decide +kernel
theorem e_Mod_plant1_74 : decode M_Mod_plant1.2.1 74 = .ok (.getfield 292, 3) := by decide +kernel
theorem e_Mod_plant1_77 : decode M_Mod_plant1.2.1 77 = .ok (.istore_n 1, 1) := by decide +kernel
theorem e_Mod_plant1_78 : decode M_Mod_plant1.2.1 78 = .ok (.aload_n 0, 1) := by decide +kernel
theorem e_Mod_plant1_79 : decode M_Mod_plant1.2.1 79 = .ok (.invokevirtual 315, 3) := by decide +kernel
theorem e_Mod_plant1_82 : decode M_Mod_plant1.2.1 82 = .ok (.aload_n 0, 1) := by decide +kernel
theorem e_Mod_plant1_83 : decode M_Mod_plant1.2.1 83 = .ok (.iconst 0, 1) := by decide +kernel
theorem e_Mod_plant1_84 : decode M_Mod_plant1.2.1 84 = .ok (.iconst 3, 1) := by decide +kernel
theorem e_Mod_plant1_85 : decode M_Mod_plant1.2.1 85 = .ok (.invokevirtual 327, 3) := by decide +kernel
theorem e_Mod_plant1_88 : decode M_Mod_plant1.2.1 88 = .ok (.istore_n 2, 1) := by decide +kernel
theorem e_Mod_plant1_89 : decode M_Mod_plant1.2.1 89 = .ok (.aload_n 0, 1) := by decide +kernel
theorem e_Mod_plant1_90 : decode M_Mod_plant1.2.1 90 = .ok (.getfield 141, 3) := by decide +kernel
theorem e_Mod_plant1_93 : decode M_Mod_plant1.2.1 93 = .ok (.iload_n 1, 1) := by decide +kernel
theorem e_Mod_plant1_94 : decode M_Mod_plant1.2.1 94 = .ok (.aload_n 0, 1) := by decide +kernel
theorem e_Mod_plant1_95 : decode M_Mod_plant1.2.1 95 = .ok (.iconst 0, 1) := by decide +kernel
theorem e_Mod_plant1_96 : decode M_Mod_plant1.2.1 96 = .ok (.sipush 300, 3) := by decide +kernel
theorem e_Mod_plant1_99 : decode M_Mod_plant1.2.1 99 = .ok (.invokevirtual 327, 3) := by decide +kernel
theorem e_Mod_plant1_102 : decode M_Mod_plant1.2.1 102 = .ok (.iastore, 1) := by decide +kernel
theorem e_Mod_plant1_103 : decode M_Mod_plant1.2.1 103 = .ok (.aload_n 0, 1) := by decide +kernel
theorem e_Mod_plant1_104 : decode M_Mod_plant1.2.1 104 = .ok (.getfield 144, 3) := by decide +kernel
theorem e_Mod_plant1_107 : decode M_Mod_plant1.2.1 107 = .ok (.iload_n 1, 1) := by decide +kernel
theorem e_Mod_plant1_108 : decode M_Mod_plant1.2.1 108 = .ok (.aload_n 0, 1) := by decide +kernel
theorem e_Mod_plant1_109 : decode M_Mod_plant1.2.1 109 = .ok (.iconst 1, 1) := by decide +kernel
theorem e_Mod_plant1_110 : decode M_Mod_plant1.2.1 110 = .ok (.bipush 50, 2) := by decide +kernel
theorem e_Mod_plant1_112 : decode M_Mod_plant1.2.1 112 = .ok (.invokevirtual 327, 3) := by decide +kernel
theorem e_Mod_plant1_115 : decode M_Mod_plant1.2.1 115 = .ok (.iastore, 1) := by decide +kernel
theorem e_Mod_plant1_116 : decode M_Mod_plant1.2.1 116 = .ok (.aload_n 0, 1) := by decide +kernel
theorem e_Mod_plant1_117 : decode M_Mod_plant1.2.1 117 = .ok (.getfield 138, 3) := by decide +kernel
theorem e_Mod_plant1_120 : decode M_Mod_plant1.2.1 120 = .ok (.iload_n 1, 1) := by decide +kernel
theorem e_Mod_plant1_121 : decode M_Mod_plant1.2.1 121 = .ok (.iload_n 2, 1) := by decide +kernel
theorem e_Mod_plant1_122 : decode M_Mod_plant1.2.1 122 = .ok (.iastore, 1) := by decide +kernel
theorem e_Mod_plant1_123 : decode M_Mod_plant1.2.1 123 = .ok (.return_, 1) := by decide +kernel
theorem e_Mod_once1_0 : decode M_Mod_once1.2.1 0 = .ok (.aload_n 0, 1) := by decide +kernel
theorem e_Mod_once1_1 : decode M_Mod_once1.2.1 1 = .ok (.aload_n 0, 1) := by decide +kernel
theorem e_Mod_once1_2 : decode M_Mod_once1.2.1 2 = .ok (.getfield 345, 3) := by decide +kernel
theorem e_Mod_once1_5 : decode M_Mod_once1.2.1 5 = .ok (.iload_n 1, 1) := by decide +kernel
theorem e_Mod_once1_6 : decode M_Mod_once1.2.1 6 = .ok (.ishr, 1) := by decide +kernel
theorem e_Mod_once1_7 : decode M_Mod_once1.2.1 7 = .ok (.iconst 1, 1) := by decide +kernel
theorem e_Mod_once1_8 : decode M_Mod_once1.2.1 8 = .ok (.iand, 1) := by decide +kernel
theorem e_Mod_once1_9 : decode M_Mod_once1.2.1 9 = .ok (.ifCond .ne 7, 3) := by decide +kernel
theorem e_Mod_once1_12 : decode M_Mod_once1.2.1 12 = .ok (.iconst 1, 1) := by decide +kernel
theorem e_Mod_once1_13 : decode M_Mod_once1.2.1 13 = .ok (.goto 4, 3) := by decide +kernel
theorem e_Mod_once1_16 : decode M_Mod_once1.2.1 16 = .ok (.iconst 0, 1) := by decide +kernel
theorem e_Mod_once1_17 : decode M_Mod_once1.2.1 17 = .ok (.iconst 4, 1) := by decide +kernel
theorem e_Mod_once1_18 : decode M_Mod_once1.2.1 18 = .ok (.invokevirtual 308, 3) := by decide +kernel
theorem e_Mod_once1_21 : decode M_Mod_once1.2.1 21 = .ok (.ifCond .ne 4, 3) := by decide +kernel
theorem e_Mod_once1_24 : decode M_Mod_once1.2.1 24 = .ok (.return_, 1) := by decide +kernel
theorem e_Mod_once1_25 : decode M_Mod_once1.2.1 25 = .ok (.aload_n 0, 1) := by decide +kernel
theorem e_Mod_once1_26 : decode M_Mod_once1.2.1 26 = .ok (.dup, 1) := by decide +kernel
theorem e_Mod_once1_27 : decode M_Mod_once1.2.1 27 = .ok (.getfield 345, 3) := by decide +kernel
theorem e_Mod_once1_30 : decode M_Mod_once1.2.1 30 = .ok (.iconst 1, 1) := by decide +kernel
theorem e_Mod_once1_31 : decode M_Mod_once1.2.1 31 = .ok (.iload_n 1, 1) := by decide +kernel
theorem e_Mod_once1_32 : decode M_Mod_once1.2.1 32 = .ok (.ishl, 1) := by decide +kernel
theorem e_Mod_once1_33 : decode M_Mod_once1.2.1 33 = .ok (.ior, 1) := by decide +kernel
theorem e_Mod_once1_34 : decode M_Mod_once1.2.1 34 = .ok (.putfield 345, 3) := by decide +kernel
theorem e_Mod_once1_37 : decode M_Mod_once1.2.1 37 = .ok (.aload_n 0, 1) := by decide +kernel
theorem e_Mod_once1_38 : decode M_Mod_once1.2.1 38 = .ok (.invokevirtual 315, 3) := by decide +kernel
theorem e_Mod_once1_41 : decode M_Mod_once1.2.1 41 = .ok (.iload_n 1, 1) := by decide +kernel
theorem e_Mod_once1_42 : decode M_Mod_once1.2.1 42 = .ok (.iconst 4, 1) := by decide +kernel
theorem e_Mod_once1_43 : decode M_Mod_once1.2.1 43 = .ok (.if_icmp .ne 17, 3) := by decide +kernel
theorem e_Mod_once1_46 : decode M_Mod_once1.2.1 46 = .ok (.aload_n 0, 1) := by decide +kernel
theorem e_Mod_once1_47 : decode M_Mod_once1.2.1 47 = .ok (.aload_n 0, 1) := by decide +kernel
theorem e_Mod_once1_48 : decode M_Mod_once1.2.1 48 = .ok (.iconst 1, 1) := by decide +kernel
theorem e_Mod_once1_49 : decode M_Mod_once1.2.1 49 = .ok (.bipush 9, 2) := by decide +kernel
theorem e_Mod_once1_51 : decode M_Mod_once1.2.1 51 = .ok (.invokevirtual 327, 3) := by decide +kernel
theorem e_Mod_once1_54 : decode M_Mod_once1.2.1 54 = .ok (.putfield 348, 3) := by decide +kernel
theorem e_Mod_once1_57 : decode M_Mod_once1.2.1 57 = .ok (.goto 14, 3) := by decide +kernel
theorem e_Mod_once1_60 : decode M_Mod_once1.2.1 60 = .ok (.aload_n 0, 1) := by decide +kernel
theorem e_Mod_once1_61 : decode M_Mod_once1.2.1 61 = .ok (.aload_n 0, 1) := by decide +kernel
theorem e_Mod_once1_62 : decode M_Mod_once1.2.1 62 = .ok (.iconst 0, 1) := by decide +kernel
theorem e_Mod_once1_63 : decode M_Mod_once1.2.1 63 = .ok (.bipush 9, 2) := by decide +kernel
theorem e_Mod_once1_65 : decode M_Mod_once1.2.1 65 = .ok (.invokevirtual 327, 3) := by decide +kernel
theorem e_Mod_once1_68 : decode M_Mod_once1.2.1 68 = .ok (.putfield 351, 3) := by decide +kernel
theorem e_Mod_once1_71 : decode M_Mod_once1.2.1 71 = .ok (.return_, 1) := by decide +kernel
theorem e_Mod_becomes_0 : decode M_Mod_becomes.2.1 0 = .ok (.aload_n 0, 1) := by decide +kernel
theorem e_Mod_becomes_1 : decode M_Mod_becomes.2.1 1 = .ok (.aload_n 0, 1) := by decide +kernel
theorem e_Mod_becomes_2 : decode M_Mod_becomes.2.1 2 = .ok (.getfield 321, 3) := by decide +kernel
theorem e_Mod_becomes_5 : decode M_Mod_becomes.2.1 5 = .ok (.putfield 64, 3) := by decide +kernel
theorem e_Mod_becomes_8 : decode M_Mod_becomes.2.1 8 = .ok (.aload_n 0, 1) := by decide +kernel
theorem e_Mod_becomes_9 : decode M_Mod_becomes.2.1 9 = .ok (.aload_n 0, 1) := by decide +kernel
theorem e_Mod_becomes_10 : decode M_Mod_becomes.2.1 10 = .ok (.getfield 318, 3) := by decide +kernel
theorem e_Mod_becomes_13 : decode M_Mod_becomes.2.1 13 = .ok (.putfield 183, 3) := by decide +kernel
theorem e_Mod_becomes_16 : decode M_Mod_becomes.2.1 16 = .ok (.aload_n 0, 1) := by decide +kernel
theorem e_Mod_becomes_17 : decode M_Mod_becomes.2.1 17 = .ok (.aload_n 0, 1) := by decide +kernel
theorem e_Mod_becomes_18 : decode M_Mod_becomes.2.1 18 = .ok (.getfield 333, 3) := by decide +kernel
theorem e_Mod_becomes_21 : decode M_Mod_becomes.2.1 21 = .ok (.putfield 162, 3) := by decide +kernel
theorem e_Mod_becomes_24 : decode M_Mod_becomes.2.1 24 = .ok (.aload_n 0, 1) := by decide +kernel
theorem e_Mod_becomes_25 : decode M_Mod_becomes.2.1 25 = .ok (.aload_n 0, 1) := by decide +kernel
theorem e_Mod_becomes_26 : decode M_Mod_becomes.2.1 26 = .ok (.getfield 348, 3) := by decide +kernel
theorem e_Mod_becomes_29 : decode M_Mod_becomes.2.1 29 = .ok (.putfield 68, 3) := by decide +kernel
theorem e_Mod_becomes_32 : decode M_Mod_becomes.2.1 32 = .ok (.aload_n 0, 1) := by decide +kernel
theorem e_Mod_becomes_33 : decode M_Mod_becomes.2.1 33 = .ok (.aload_n 0, 1) := by decide +kernel
theorem e_Mod_becomes_34 : decode M_Mod_becomes.2.1 34 = .ok (.getfield 351, 3) := by decide +kernel
theorem e_Mod_becomes_37 : decode M_Mod_becomes.2.1 37 = .ok (.putfield 71, 3) := by decide +kernel
theorem e_Mod_becomes_40 : decode M_Mod_becomes.2.1 40 = .ok (.aload_n 0, 1) := by decide +kernel
theorem e_Mod_becomes_41 : decode M_Mod_becomes.2.1 41 = .ok (.getfield 108, 3) := by decide +kernel
theorem e_Mod_becomes_44 : decode M_Mod_becomes.2.1 44 = .ok (.aload_n 0, 1) := by decide +kernel
theorem e_Mod_becomes_45 : decode M_Mod_becomes.2.1 45 = .ok (.getfield 13, 3) := by decide +kernel
theorem e_Mod_becomes_48 : decode M_Mod_becomes.2.1 48 = .ok (.invokestatic 381, 3) := by decide +kernel
theorem e_Mod_becomes_51 : decode M_Mod_becomes.2.1 51 = .ok (.aload_n 0, 1) := by decide +kernel
theorem e_Mod_becomes_52 : decode M_Mod_becomes.2.1 52 = .ok (.getfield 111, 3) := by decide +kernel
theorem e_Mod_becomes_55 : decode M_Mod_becomes.2.1 55 = .ok (.aload_n 0, 1) := by decide +kernel
theorem e_Mod_becomes_56 : decode M_Mod_becomes.2.1 56 = .ok (.getfield 16, 3) := by decide +kernel
theorem e_Mod_becomes_59 : decode M_Mod_becomes.2.1 59 = .ok (.invokestatic 381, 3) := by decide +kernel
theorem e_Mod_becomes_62 : decode M_Mod_becomes.2.1 62 = .ok (.aload_n 0, 1) := by decide +kernel
theorem e_Mod_becomes_63 : decode M_Mod_becomes.2.1 63 = .ok (.getfield 114, 3) := by decide +kernel
theorem e_Mod_becomes_66 : decode M_Mod_becomes.2.1 66 = .ok (.aload_n 0, 1) := by decide +kernel
theorem e_Mod_becomes_67 : decode M_Mod_becomes.2.1 67 = .ok (.getfield 19, 3) := by decide +kernel
theorem e_Mod_becomes_70 : decode M_Mod_becomes.2.1 70 = .ok (.invokestatic 381, 3) := by decide +kernel
theorem e_Mod_becomes_73 : decode M_Mod_becomes.2.1 73 = .ok (.aload_n 0, 1) := by decide +kernel
theorem e_Mod_becomes_74 : decode M_Mod_becomes.2.1 74 = .ok (.getfield 117, 3) := by decide +kernel
theorem e_Mod_becomes_77 : decode M_Mod_becomes.2.1 77 = .ok (.aload_n 0, 1) := by decide +kernel
theorem e_Mod_becomes_78 : decode M_Mod_becomes.2.1 78 = .ok (.getfield 22, 3) := by decide +kernel
theorem e_Mod_becomes_81 : decode M_Mod_becomes.2.1 81 = .ok (.invokestatic 381, 3) := by decide +kernel
theorem e_Mod_becomes_84 : decode M_Mod_becomes.2.1 84 = .ok (.aload_n 0, 1) := by decide +kernel
theorem e_Mod_becomes_85 : decode M_Mod_becomes.2.1 85 = .ok (.getfield 120, 3) := by decide +kernel
theorem e_Mod_becomes_88 : decode M_Mod_becomes.2.1 88 = .ok (.aload_n 0, 1) := by decide +kernel
theorem e_Mod_becomes_89 : decode M_Mod_becomes.2.1 89 = .ok (.getfield 25, 3) := by decide +kernel
theorem e_Mod_becomes_92 : decode M_Mod_becomes.2.1 92 = .ok (.invokestatic 381, 3) := by decide +kernel
theorem e_Mod_becomes_95 : decode M_Mod_becomes.2.1 95 = .ok (.aload_n 0, 1) := by decide +kernel
theorem e_Mod_becomes_96 : decode M_Mod_becomes.2.1 96 = .ok (.getfield 123, 3) := by decide +kernel
theorem e_Mod_becomes_99 : decode M_Mod_becomes.2.1 99 = .ok (.aload_n 0, 1) := by decide +kernel
theorem e_Mod_becomes_100 : decode M_Mod_becomes.2.1 100 = .ok (.getfield 28, 3) := by decide +kernel
theorem e_Mod_becomes_103 : decode M_Mod_becomes.2.1 103 = .ok (.invokestatic 381, 3) := by decide +kernel
theorem e_Mod_becomes_106 : decode M_Mod_becomes.2.1 106 = .ok (.aload_n 0, 1) := by decide +kernel
theorem e_Mod_becomes_107 : decode M_Mod_becomes.2.1 107 = .ok (.getfield 126, 3) := by decide +kernel
theorem e_Mod_becomes_110 : decode M_Mod_becomes.2.1 110 = .ok (.aload_n 0, 1) := by decide +kernel
theorem e_Mod_becomes_111 : decode M_Mod_becomes.2.1 111 = .ok (.getfield 31, 3) := by decide +kernel
theorem e_Mod_becomes_114 : decode M_Mod_becomes.2.1 114 = .ok (.invokestatic 381, 3) := by decide +kernel
theorem e_Mod_becomes_117 : decode M_Mod_becomes.2.1 117 = .ok (.aload_n 0, 1) := by decide +kernel
theorem e_Mod_becomes_118 : decode M_Mod_becomes.2.1 118 = .ok (.getfield 129, 3) := by decide +kernel
theorem e_Mod_becomes_121 : decode M_Mod_becomes.2.1 121 = .ok (.aload_n 0, 1) := by decide +kernel
theorem e_Mod_becomes_122 : decode M_Mod_becomes.2.1 122 = .ok (.getfield 34, 3) := by decide +kernel
theorem e_Mod_becomes_125 : decode M_Mod_becomes.2.1 125 = .ok (.invokestatic 381, 3) := by decide +kernel
theorem e_Mod_becomes_128 : decode M_Mod_becomes.2.1 128 = .ok (.aload_n 0, 1) := by decide +kernel
theorem e_Mod_becomes_129 : decode M_Mod_becomes.2.1 129 = .ok (.getfield 132, 3) := by decide +kernel
theorem e_Mod_becomes_132 : decode M_Mod_becomes.2.1 132 = .ok (.aload_n 0, 1) := by decide +kernel
theorem e_Mod_becomes_133 : decode M_Mod_becomes.2.1 133 = .ok (.getfield 37, 3) := by decide +kernel
theorem e_Mod_becomes_136 : decode M_Mod_becomes.2.1 136 = .ok (.invokestatic 381, 3) := by decide +kernel
theorem e_Mod_becomes_139 : decode M_Mod_becomes.2.1 139 = .ok (.aload_n 0, 1) := by decide +kernel
theorem e_Mod_becomes_140 : decode M_Mod_becomes.2.1 140 = .ok (.getfield 135, 3) := by decide +kernel
theorem e_Mod_becomes_143 : decode M_Mod_becomes.2.1 143 = .ok (.aload_n 0, 1) := by decide +kernel
theorem e_Mod_becomes_144 : decode M_Mod_becomes.2.1 144 = .ok (.getfield 40, 3) := by decide +kernel
theorem e_Mod_becomes_147 : decode M_Mod_becomes.2.1 147 = .ok (.invokestatic 381, 3) := by decide +kernel
theorem e_Mod_becomes_150 : decode M_Mod_becomes.2.1 150 = .ok (.aload_n 0, 1) := by decide +kernel
theorem e_Mod_becomes_151 : decode M_Mod_becomes.2.1 151 = .ok (.getfield 138, 3) := by decide +kernel
theorem e_Mod_becomes_154 : decode M_Mod_becomes.2.1 154 = .ok (.aload_n 0, 1) := by decide +kernel
theorem e_Mod_becomes_155 : decode M_Mod_becomes.2.1 155 = .ok (.getfield 43, 3) := by decide +kernel
theorem e_Mod_becomes_158 : decode M_Mod_becomes.2.1 158 = .ok (.invokestatic 381, 3) := by decide +kernel
theorem e_Mod_becomes_161 : decode M_Mod_becomes.2.1 161 = .ok (.aload_n 0, 1) := by decide +kernel
theorem e_Mod_becomes_162 : decode M_Mod_becomes.2.1 162 = .ok (.getfield 141, 3) := by decide +kernel
theorem e_Mod_becomes_165 : decode M_Mod_becomes.2.1 165 = .ok (.aload_n 0, 1) := by decide +kernel
theorem e_Mod_becomes_166 : decode M_Mod_becomes.2.1 166 = .ok (.getfield 46, 3) := by decide +kernel
theorem e_Mod_becomes_169 : decode M_Mod_becomes.2.1 169 = .ok (.invokestatic 381, 3) := by decide +kernel
theorem e_Mod_becomes_172 : decode M_Mod_becomes.2.1 172 = .ok (.aload_n 0, 1) := by decide +kernel
theorem e_Mod_becomes_173 : decode M_Mod_becomes.2.1 173 = .ok (.getfield 144, 3) := by decide +kernel
theorem e_Mod_becomes_176 : decode M_Mod_becomes.2.1 176 = .ok (.aload_n 0, 1) := by decide +kernel
theorem e_Mod_becomes_177 : decode M_Mod_becomes.2.1 177 = .ok (.getfield 49, 3) := by decide +kernel
theorem e_Mod_becomes_180 : decode M_Mod_becomes.2.1 180 = .ok (.invokestatic 381, 3) := by decide +kernel
theorem e_Mod_becomes_183 : decode M_Mod_becomes.2.1 183 = .ok (.aload_n 0, 1) := by decide +kernel
theorem e_Mod_becomes_184 : decode M_Mod_becomes.2.1 184 = .ok (.invokevirtual 153, 3) := by decide +kernel
theorem e_Mod_becomes_187 : decode M_Mod_becomes.2.1 187 = .ok (.aload_n 0, 1) := by decide +kernel
theorem e_Mod_becomes_188 : decode M_Mod_becomes.2.1 188 = .ok (.invokevirtual 156, 3) := by decide +kernel
theorem e_Mod_becomes_191 : decode M_Mod_becomes.2.1 191 = .ok (.aload_n 0, 1) := by decide +kernel
theorem e_Mod_becomes_192 : decode M_Mod_becomes.2.1 192 = .ok (.aload_n 0, 1) := by decide +kernel
theorem e_Mod_becomes_193 : decode M_Mod_becomes.2.1 193 = .ok (.aload_n 0, 1) := by decide +kernel
theorem e_Mod_becomes_194 : decode M_Mod_becomes.2.1 194 = .ok (.aload_n 0, 1) := by decide +kernel
theorem e_Mod_becomes_195 : decode M_Mod_becomes.2.1 195 = .ok (.iconst 0, 1) := by decide +kernel
theorem e_Mod_becomes_196 : decode M_Mod_becomes.2.1 196 = .ok (.dup_x1, 1) := by decide +kernel
theorem e_Mod_becomes_197 : decode M_Mod_becomes.2.1 197 = .ok (.putfield 385, 3) := by decide +kernel
theorem e_Mod_becomes_200 : decode M_Mod_becomes.2.1 200 = .ok (.dup_x1, 1) := by decide +kernel
theorem e_Mod_becomes_201 : decode M_Mod_becomes.2.1 201 = .ok (.putfield 388, 3) := by decide +kernel
theorem e_Mod_becomes_204 : decode M_Mod_becomes.2.1 204 = .ok (.dup_x1, 1) := by decide +kernel
theorem e_Mod_becomes_205 : decode M_Mod_becomes.2.1 205 = .ok (.putfield 391, 3) := by decide +kernel
theorem e_Mod_becomes_208 : decode M_Mod_becomes.2.1 208 = .ok (.putfield 394, 3) := by decide +kernel
theorem e_Mod_becomes_211 : decode M_Mod_becomes.2.1 211 = .ok (.return_, 1) := by decide +kernel
theorem e_Mod_moves_0 : decode M_Mod_moves.2.1 0 = .ok (.iconst 0, 1) := by decide +kernel
theorem e_Mod_moves_1 : decode M_Mod_moves.2.1 1 = .ok (.istore_n 2, 1) := by decide +kernel
theorem e_Mod_moves_2 : decode M_Mod_moves.2.1 2 = .ok (.iload_n 2, 1) := by decide +kernel
theorem e_Mod_moves_3 : decode M_Mod_moves.2.1 3 = .ok (.aload_n 0, 1) := by decide +kernel
theorem e_Mod_moves_4 : decode M_Mod_moves.2.1 4 = .ok (.arraylength, 1) := by decide +kernel
theorem e_Mod_moves_5 : decode M_Mod_moves.2.1 5 = .ok (.if_icmp .ge 15, 3) := by decide +kernel
theorem e_Mod_moves_8 : decode M_Mod_moves.2.1 8 = .ok (.aload_n 1, 1) := by decide +kernel
theorem e_Mod_moves_9 : decode M_Mod_moves.2.1 9 = .ok (.iload_n 2, 1) := by decide +kernel
theorem e_Mod_moves_10 : decode M_Mod_moves.2.1 10 = .ok (.aload_n 0, 1) := by decide +kernel
theorem e_Mod_moves_11 : decode M_Mod_moves.2.1 11 = .ok (.iload_n 2, 1) := by decide +kernel
theorem e_Mod_moves_12 : decode M_Mod_moves.2.1 12 = .ok (.iaload, 1) := by decide +kernel
theorem e_Mod_moves_13 : decode M_Mod_moves.2.1 13 = .ok (.iastore, 1) := by decide +kernel
theorem e_Mod_moves_14 : decode M_Mod_moves.2.1 14 = .ok (.iinc 2 1, 3) := by decide +kernel
theorem e_Mod_moves_17 : decode M_Mod_moves.2.1 17 = .ok (.goto (-15), 3) := by decide +kernel
theorem e_Mod_moves_20 : decode M_Mod_moves.2.1 20 = .ok (.return_, 1) := by decide +kernel
theorem e_Mod_fault_0 : decode M_Mod_fault.2.1 0 = .ok (.aload_n 0, 1) := by decide +kernel
theorem e_Mod_fault_1 : decode M_Mod_fault.2.1 1 = .ok (.iconst 0, 1) := by decide +kernel
theorem e_Mod_fault_2 : decode M_Mod_fault.2.1 2 = .ok (.putfield 159, 3) := by decide +kernel
theorem e_Mod_fault_5 : decode M_Mod_fault.2.1 5 = .ok (.aload_n 0, 1) := by decide +kernel
theorem e_Mod_fault_6 : decode M_Mod_fault.2.1 6 = .ok (.getfield 77, 3) := by decide +kernel
theorem e_Mod_fault_9 : decode M_Mod_fault.2.1 9 = .ok (.ireturn, 1) := by decide +kernel
theorem e_Mod_count_0 : decode M_Mod_count.2.1 0 = .ok (.aload_n 0, 1) := by decide +kernel
theorem e_Mod_count_1 : decode M_Mod_count.2.1 1 = .ok (.iconst 0, 1) := by decide +kernel
theorem e_Mod_count_2 : decode M_Mod_count.2.1 2 = .ok (.putfield 159, 3) := by decide +kernel
theorem e_Mod_count_5 : decode M_Mod_count.2.1 5 = .ok (.aload_n 0, 1) := by decide +kernel
theorem e_Mod_count_6 : decode M_Mod_count.2.1 6 = .ok (.iload_n 1, 1) := by decide +kernel
theorem e_Mod_count_7 : decode M_Mod_count.2.1 7 = .ok (.iconst 0, 1) := by decide +kernel
theorem e_Mod_count_8 : decode M_Mod_count.2.1 8 = .ok (.bipush 15, 2) := by decide +kernel
theorem e_Mod_count_10 : decode M_Mod_count.2.1 10 = .ok (.invokestatic 312, 3) := by decide +kernel
theorem e_Mod_count_13 : decode M_Mod_count.2.1 13 = .ok (.iconst 1, 1) := by decide +kernel
theorem e_Mod_count_14 : decode M_Mod_count.2.1 14 = .ok (.invokevirtual 372, 3) := by decide +kernel
theorem e_Mod_count_17 : decode M_Mod_count.2.1 17 = .ok (.ifCond .ne 5, 3) := by decide +kernel
theorem e_Mod_count_20 : decode M_Mod_count.2.1 20 = .ok (.iconst 0, 1) := by decide +kernel
theorem e_Mod_count_21 : decode M_Mod_count.2.1 21 = .ok (.ireturn, 1) := by decide +kernel
theorem e_Mod_count_22 : decode M_Mod_count.2.1 22 = .ok (.iload_n 1, 1) := by decide +kernel
theorem e_Mod_count_23 : decode M_Mod_count.2.1 23 = .ok (.tableswitch 166 0 12 #[65, 70, 75, 80, 89, 98, 123, 132, 137, 142, 151, 156, 161], 65) := by decide +kernel
theorem e_Mod_count_88 : decode M_Mod_count.2.1 88 = .ok (.aload_n 0, 1) := by decide +kernel
theorem e_Mod_count_89 : decode M_Mod_count.2.1 89 = .ok (.getfield 64, 3) := by decide +kernel
theorem e_Mod_count_92 : decode M_Mod_count.2.1 92 = .ok (.ireturn, 1) := by decide +kernel
theorem e_Mod_count_93 : decode M_Mod_count.2.1 93 = .ok (.aload_n 0, 1) := by decide +kernel
theorem e_Mod_count_94 : decode M_Mod_count.2.1 94 = .ok (.getfield 183, 3) := by decide +kernel
theorem e_Mod_count_97 : decode M_Mod_count.2.1 97 = .ok (.ireturn, 1) := by decide +kernel
theorem e_Mod_count_98 : decode M_Mod_count.2.1 98 = .ok (.aload_n 0, 1) := by decide +kernel
theorem e_Mod_count_99 : decode M_Mod_count.2.1 99 = .ok (.getfield 162, 3) := by decide +kernel
theorem e_Mod_count_102 : decode M_Mod_count.2.1 102 = .ok (.ireturn, 1) := by decide +kernel
theorem e_Mod_count_103 : decode M_Mod_count.2.1 103 = .ok (.aload_n 0, 1) := by decide +kernel
theorem e_Mod_count_104 : decode M_Mod_count.2.1 104 = .ok (.getfield 9, 3) := by decide +kernel
theorem e_Mod_count_107 : decode M_Mod_count.2.1 107 = .ok (.sipush 208, 3) := by decide +kernel
theorem e_Mod_count_110 : decode M_Mod_count.2.1 110 = .ok (.iaload, 1) := by decide +kernel
theorem e_Mod_count_111 : decode M_Mod_count.2.1 111 = .ok (.ireturn, 1) := by decide +kernel
theorem e_Mod_count_112 : decode M_Mod_count.2.1 112 = .ok (.aload_n 0, 1) := by decide +kernel
theorem e_Mod_count_113 : decode M_Mod_count.2.1 113 = .ok (.getfield 9, 3) := by decide +kernel
theorem e_Mod_count_116 : decode M_Mod_count.2.1 116 = .ok (.sipush 206, 3) := by decide +kernel
theorem e_Mod_count_119 : decode M_Mod_count.2.1 119 = .ok (.iaload, 1) := by decide +kernel
theorem e_Mod_count_120 : decode M_Mod_count.2.1 120 = .ok (.ireturn, 1) := by decide +kernel
theorem e_Mod_count_121 : decode M_Mod_count.2.1 121 = .ok (.aload_n 0, 1) := by decide +kernel
theorem e_Mod_count_122 : decode M_Mod_count.2.1 122 = .ok (.getfield 9, 3) := by decide +kernel
theorem e_Mod_count_125 : decode M_Mod_count.2.1 125 = .ok (.sipush 206, 3) := by decide +kernel
theorem e_Mod_count_128 : decode M_Mod_count.2.1 128 = .ok (.iaload, 1) := by decide +kernel
theorem e_Mod_count_129 : decode M_Mod_count.2.1 129 = .ok (.iconst (-1), 1) := by decide +kernel
theorem e_Mod_count_130 : decode M_Mod_count.2.1 130 = .ok (.if_icmp .ne 14, 3) := by decide +kernel
theorem e_Mod_count_133 : decode M_Mod_count.2.1 133 = .ok (.aload_n 0, 1) := by decide +kernel
theorem e_Mod_count_134 : decode M_Mod_count.2.1 134 = .ok (.getfield 9, 3) := by decide +kernel
theorem e_Mod_count_137 : decode M_Mod_count.2.1 137 = .ok (.sipush 207, 3) := by decide +kernel
theorem e_Mod_count_140 : decode M_Mod_count.2.1 140 = .ok (.iaload, 1) := by decide +kernel
theorem e_Mod_count_141 : decode M_Mod_count.2.1 141 = .ok (.goto 4, 3) := by decide +kernel
theorem e_Mod_count_144 : decode M_Mod_count.2.1 144 = .ok (.iconst 0, 1) := by decide +kernel
theorem e_Mod_count_145 : decode M_Mod_count.2.1 145 = .ok (.ireturn, 1) := by decide +kernel
theorem e_Mod_count_146 : decode M_Mod_count.2.1 146 = .ok (.aload_n 0, 1) := by decide +kernel
theorem e_Mod_count_147 : decode M_Mod_count.2.1 147 = .ok (.getfield 9, 3) := by decide +kernel
theorem e_Mod_count_150 : decode M_Mod_count.2.1 150 = .ok (.sipush 205, 3) := by decide +kernel
theorem e_Mod_count_153 : decode M_Mod_count.2.1 153 = .ok (.iaload, 1) := by decide +kernel
theorem e_Mod_count_154 : decode M_Mod_count.2.1 154 = .ok (.ireturn, 1) := by decide +kernel
theorem e_Mod_count_155 : decode M_Mod_count.2.1 155 = .ok (.aload_n 0, 1) := by decide +kernel
theorem e_Mod_count_156 : decode M_Mod_count.2.1 156 = .ok (.getfield 168, 3) := by decide +kernel
theorem e_Mod_count_159 : decode M_Mod_count.2.1 159 = .ok (.ireturn, 1) := by decide +kernel
theorem e_Mod_count_160 : decode M_Mod_count.2.1 160 = .ok (.aload_n 0, 1) := by decide +kernel
theorem e_Mod_count_161 : decode M_Mod_count.2.1 161 = .ok (.getfield 165, 3) := by decide +kernel
theorem e_Mod_count_164 : decode M_Mod_count.2.1 164 = .ok (.ireturn, 1) := by decide +kernel
theorem e_Mod_count_165 : decode M_Mod_count.2.1 165 = .ok (.aload_n 0, 1) := by decide +kernel
theorem e_Mod_count_166 : decode M_Mod_count.2.1 166 = .ok (.getfield 9, 3) := by decide +kernel
theorem e_Mod_count_169 : decode M_Mod_count.2.1 169 = .ok (.sipush 204, 3) := by decide +kernel
theorem e_Mod_count_172 : decode M_Mod_count.2.1 172 = .ok (.iaload, 1) := by decide +kernel
theorem e_Mod_count_173 : decode M_Mod_count.2.1 173 = .ok (.ireturn, 1) := by decide +kernel
theorem e_Mod_count_174 : decode M_Mod_count.2.1 174 = .ok (.aload_n 0, 1) := by decide +kernel
theorem e_Mod_count_175 : decode M_Mod_count.2.1 175 = .ok (.getfield 394, 3) := by decide +kernel
theorem e_Mod_count_178 : decode M_Mod_count.2.1 178 = .ok (.ireturn, 1) := by decide +kernel
theorem e_Mod_count_179 : decode M_Mod_count.2.1 179 = .ok (.aload_n 0, 1) := by decide +kernel
theorem e_Mod_count_180 : decode M_Mod_count.2.1 180 = .ok (.getfield 388, 3) := by decide +kernel
theorem e_Mod_count_183 : decode M_Mod_count.2.1 183 = .ok (.ireturn, 1) := by decide +kernel
theorem e_Mod_count_184 : decode M_Mod_count.2.1 184 = .ok (.aload_n 0, 1) := by decide +kernel
theorem e_Mod_count_185 : decode M_Mod_count.2.1 185 = .ok (.getfield 369, 3) := by decide +kernel
theorem e_Mod_count_188 : decode M_Mod_count.2.1 188 = .ok (.ireturn, 1) := by decide +kernel
theorem e_Mod_count_189 : decode M_Mod_count.2.1 189 = .ok (.aload_n 0, 1) := by decide +kernel
theorem e_Mod_count_190 : decode M_Mod_count.2.1 190 = .ok (.getfield 61, 3) := by decide +kernel
theorem e_Mod_count_193 : decode M_Mod_count.2.1 193 = .ok (.iload_n 1, 1) := by decide +kernel
theorem e_Mod_count_194 : decode M_Mod_count.2.1 194 = .ok (.bipush 13, 2) := by decide +kernel
theorem e_Mod_count_196 : decode M_Mod_count.2.1 196 = .ok (.isub, 1) := by decide +kernel
theorem e_Mod_count_197 : decode M_Mod_count.2.1 197 = .ok (.iaload, 1) := by decide +kernel
theorem e_Mod_count_198 : decode M_Mod_count.2.1 198 = .ok (.ireturn, 1) := by decide +kernel
theorem e_Mod_block_0 : decode M_Mod_block.2.1 0 = .ok (.aload_n 0, 1) := by decide +kernel
theorem e_Mod_block_1 : decode M_Mod_block.2.1 1 = .ok (.iconst 0, 1) := by decide +kernel
theorem e_Mod_block_2 : decode M_Mod_block.2.1 2 = .ok (.putfield 159, 3) := by decide +kernel
theorem e_Mod_block_5 : decode M_Mod_block.2.1 5 = .ok (.aload_n 0, 1) := by decide +kernel
theorem e_Mod_block_6 : decode M_Mod_block.2.1 6 = .ok (.iload_n 1, 1) := by decide +kernel
theorem e_Mod_block_7 : decode M_Mod_block.2.1 7 = .ok (.invokevirtual 397, 3) := by decide +kernel
theorem e_Mod_block_10 : decode M_Mod_block.2.1 10 = .ok (.ifCond .eq 18, 3) := by decide +kernel
theorem e_Mod_block_13 : decode M_Mod_block.2.1 13 = .ok (.aload_n 0, 1) := by decide +kernel
theorem e_Mod_block_14 : decode M_Mod_block.2.1 14 = .ok (.iload_n 2, 1) := by decide +kernel
theorem e_Mod_block_15 : decode M_Mod_block.2.1 15 = .ok (.iconst 0, 1) := by decide +kernel
theorem e_Mod_block_16 : decode M_Mod_block.2.1 16 = .ok (.bipush 13, 2) := by decide +kernel
theorem e_Mod_block_18 : decode M_Mod_block.2.1 18 = .ok (.invokestatic 312, 3) := by decide +kernel
theorem e_Mod_block_21 : decode M_Mod_block.2.1 21 = .ok (.iconst 1, 1) := by decide +kernel
theorem e_Mod_block_22 : decode M_Mod_block.2.1 22 = .ok (.invokevirtual 372, 3) := by decide +kernel
theorem e_Mod_block_25 : decode M_Mod_block.2.1 25 = .ok (.ifCond .ne 5, 3) := by decide +kernel
theorem e_Mod_block_28 : decode M_Mod_block.2.1 28 = .ok (.iconst 0, 1) := by decide +kernel
theorem e_Mod_block_29 : decode M_Mod_block.2.1 29 = .ok (.ireturn, 1) := by decide +kernel
theorem e_Mod_block_30 : decode M_Mod_block.2.1 30 = .ok (.iload_n 2, 1) := by decide +kernel
theorem e_Mod_block_31 : decode M_Mod_block.2.1 31 = .ok (.tableswitch 110 0 13 #[69, 76, 83, 90, 97, 110, 110, 110, 110, 110, 110, 110, 110, 104], 69) := by decide +kernel
theorem e_Mod_block_100 : decode M_Mod_block.2.1 100 = .ok (.aload_n 0, 1) := by decide +kernel
theorem e_Mod_block_101 : decode M_Mod_block.2.1 101 = .ok (.getfield 19, 3) := by decide +kernel
theorem e_Mod_block_104 : decode M_Mod_block.2.1 104 = .ok (.iload_n 1, 1) := by decide +kernel
theorem e_Mod_block_105 : decode M_Mod_block.2.1 105 = .ok (.iaload, 1) := by decide +kernel
theorem e_Mod_block_106 : decode M_Mod_block.2.1 106 = .ok (.ireturn, 1) := by decide +kernel
theorem e_Mod_block_107 : decode M_Mod_block.2.1 107 = .ok (.aload_n 0, 1) := by decide +kernel
theorem e_Mod_block_108 : decode M_Mod_block.2.1 108 = .ok (.getfield 13, 3) := by decide +kernel
theorem e_Mod_block_111 : decode M_Mod_block.2.1 111 = .ok (.iload_n 1, 1) := by decide +kernel
theorem e_Mod_block_112 : decode M_Mod_block.2.1 112 = .ok (.iaload, 1) := by decide +kernel
theorem e_Mod_block_113 : decode M_Mod_block.2.1 113 = .ok (.ireturn, 1) := by decide +kernel
theorem e_Mod_block_114 : decode M_Mod_block.2.1 114 = .ok (.aload_n 0, 1) := by decide +kernel
theorem e_Mod_block_115 : decode M_Mod_block.2.1 115 = .ok (.getfield 16, 3) := by decide +kernel
theorem e_Mod_block_118 : decode M_Mod_block.2.1 118 = .ok (.iload_n 1, 1) := by decide +kernel
theorem e_Mod_block_119 : decode M_Mod_block.2.1 119 = .ok (.iaload, 1) := by decide +kernel
theorem e_Mod_block_120 : decode M_Mod_block.2.1 120 = .ok (.ireturn, 1) := by decide +kernel
theorem e_Mod_block_121 : decode M_Mod_block.2.1 121 = .ok (.aload_n 0, 1) := by decide +kernel
theorem e_Mod_block_122 : decode M_Mod_block.2.1 122 = .ok (.getfield 83, 3) := by decide +kernel
theorem e_Mod_block_125 : decode M_Mod_block.2.1 125 = .ok (.iload_n 1, 1) := by decide +kernel
theorem e_Mod_block_126 : decode M_Mod_block.2.1 126 = .ok (.iaload, 1) := by decide +kernel
theorem e_Mod_block_127 : decode M_Mod_block.2.1 127 = .ok (.ireturn, 1) := by decide +kernel
theorem e_Mod_block_128 : decode M_Mod_block.2.1 128 = .ok (.aload_n 0, 1) := by decide +kernel
theorem e_Mod_block_129 : decode M_Mod_block.2.1 129 = .ok (.getfield 86, 3) := by decide +kernel
theorem e_Mod_block_132 : decode M_Mod_block.2.1 132 = .ok (.iload_n 1, 1) := by decide +kernel
theorem e_Mod_block_133 : decode M_Mod_block.2.1 133 = .ok (.iaload, 1) := by decide +kernel
theorem e_Mod_block_134 : decode M_Mod_block.2.1 134 = .ok (.ireturn, 1) := by decide +kernel
theorem e_Mod_block_135 : decode M_Mod_block.2.1 135 = .ok (.aload_n 0, 1) := by decide +kernel
theorem e_Mod_block_136 : decode M_Mod_block.2.1 136 = .ok (.iload_n 1, 1) := by decide +kernel
theorem e_Mod_block_137 : decode M_Mod_block.2.1 137 = .ok (.invokevirtual 400, 3) := by decide +kernel
theorem e_Mod_block_140 : decode M_Mod_block.2.1 140 = .ok (.ireturn, 1) := by decide +kernel
theorem e_Mod_block_141 : decode M_Mod_block.2.1 141 = .ok (.aload_n 0, 1) := by decide +kernel
theorem e_Mod_block_142 : decode M_Mod_block.2.1 142 = .ok (.getfield 9, 3) := by decide +kernel
theorem e_Mod_block_145 : decode M_Mod_block.2.1 145 = .ok (.iconst 0, 1) := by decide +kernel
theorem e_Mod_block_146 : decode M_Mod_block.2.1 146 = .ok (.iload_n 1, 1) := by decide +kernel
theorem e_Mod_block_147 : decode M_Mod_block.2.1 147 = .ok (.invokestatic 193, 3) := by decide +kernel
theorem e_Mod_block_150 : decode M_Mod_block.2.1 150 = .ok (.iload_n 2, 1) := by decide +kernel
theorem e_Mod_block_151 : decode M_Mod_block.2.1 151 = .ok (.iadd, 1) := by decide +kernel
theorem e_Mod_block_152 : decode M_Mod_block.2.1 152 = .ok (.iconst 5, 1) := by decide +kernel
theorem e_Mod_block_153 : decode M_Mod_block.2.1 153 = .ok (.isub, 1) := by decide +kernel
theorem e_Mod_block_154 : decode M_Mod_block.2.1 154 = .ok (.iaload, 1) := by decide +kernel
theorem e_Mod_block_155 : decode M_Mod_block.2.1 155 = .ok (.ireturn, 1) := by decide +kernel
theorem e_Mod_isBlock_0 : decode M_Mod_isBlock.2.1 0 = .ok (.aload_n 0, 1) := by decide +kernel
theorem e_Mod_isBlock_1 : decode M_Mod_isBlock.2.1 1 = .ok (.iload_n 1, 1) := by decide +kernel
theorem e_Mod_isBlock_2 : decode M_Mod_isBlock.2.1 2 = .ok (.iconst 0, 1) := by decide +kernel
theorem e_Mod_isBlock_3 : decode M_Mod_isBlock.2.1 3 = .ok (.aload_n 0, 1) := by decide +kernel
theorem e_Mod_isBlock_4 : decode M_Mod_isBlock.2.1 4 = .ok (.getfield 183, 3) := by decide +kernel
theorem e_Mod_isBlock_7 : decode M_Mod_isBlock.2.1 7 = .ok (.iconst 1, 1) := by decide +kernel
theorem e_Mod_isBlock_8 : decode M_Mod_isBlock.2.1 8 = .ok (.isub, 1) := by decide +kernel
theorem e_Mod_isBlock_9 : decode M_Mod_isBlock.2.1 9 = .ok (.invokestatic 312, 3) := by decide +kernel
theorem e_Mod_isBlock_12 : decode M_Mod_isBlock.2.1 12 = .ok (.iconst 1, 1) := by decide +kernel
theorem e_Mod_isBlock_13 : decode M_Mod_isBlock.2.1 13 = .ok (.invokevirtual 372, 3) := by decide +kernel
theorem e_Mod_isBlock_16 : decode M_Mod_isBlock.2.1 16 = .ok (.ireturn, 1) := by decide +kernel
theorem e_Mod_takenAt_0 : decode M_Mod_takenAt.2.1 0 = .ok (.iconst 0, 1) := by decide +kernel
theorem e_Mod_takenAt_1 : decode M_Mod_takenAt.2.1 1 = .ok (.istore_n 2, 1) := by decide +kernel
theorem e_Mod_takenAt_2 : decode M_Mod_takenAt.2.1 2 = .ok (.aload_n 0, 1) := by decide +kernel
theorem e_Mod_takenAt_3 : decode M_Mod_takenAt.2.1 3 = .ok (.getfield 80, 3) := by decide +kernel
theorem e_Mod_takenAt_6 : decode M_Mod_takenAt.2.1 6 = .ok (.iload_n 2, 1) := by decide +kernel
theorem e_Mod_takenAt_7 : decode M_Mod_takenAt.2.1 7 = .ok (.iaload, 1) := by decide +kernel
theorem e_Mod_takenAt_8 : decode M_Mod_takenAt.2.1 8 = .ok (.iload_n 1, 1) := by decide +kernel
theorem e_Mod_takenAt_9 : decode M_Mod_takenAt.2.1 9 = .ok (.if_icmp .eq 9, 3) := by decide +kernel
theorem e_Mod_takenAt_12 : decode M_Mod_takenAt.2.1 12 = .ok (.iinc 2 1, 3) := by decide +kernel
theorem e_Mod_takenAt_15 : decode M_Mod_takenAt.2.1 15 = .ok (.goto (-13), 3) := by decide +kernel
theorem e_Mod_takenAt_18 : decode M_Mod_takenAt.2.1 18 = .ok (.iload_n 2, 1) := by decide +kernel
theorem e_Mod_takenAt_19 : decode M_Mod_takenAt.2.1 19 = .ok (.ireturn, 1) := by decide +kernel
theorem e_Mod_link_0 : decode M_Mod_link.2.1 0 = .ok (.aload_n 0, 1) := by decide +kernel
theorem e_Mod_link_1 : decode M_Mod_link.2.1 1 = .ok (.iconst 0, 1) := by decide +kernel
theorem e_Mod_link_2 : decode M_Mod_link.2.1 2 = .ok (.putfield 159, 3) := by decide +kernel
theorem e_Mod_link_5 : decode M_Mod_link.2.1 5 = .ok (.aload_n 0, 1) := by decide +kernel
theorem e_Mod_link_6 : decode M_Mod_link.2.1 6 = .ok (.iload_n 1, 1) := by decide +kernel
theorem e_Mod_link_7 : decode M_Mod_link.2.1 7 = .ok (.iconst 0, 1) := by decide +kernel
theorem e_Mod_link_8 : decode M_Mod_link.2.1 8 = .ok (.aload_n 0, 1) := by decide +kernel
theorem e_Mod_link_9 : decode M_Mod_link.2.1 9 = .ok (.getfield 162, 3) := by decide +kernel
theorem e_Mod_link_12 : decode M_Mod_link.2.1 12 = .ok (.iconst 1, 1) := by decide +kernel
theorem e_Mod_link_13 : decode M_Mod_link.2.1 13 = .ok (.isub, 1) := by decide +kernel
theorem e_Mod_link_14 : decode M_Mod_link.2.1 14 = .ok (.invokestatic 312, 3) := by decide +kernel
theorem e_Mod_link_17 : decode M_Mod_link.2.1 17 = .ok (.ifCond .eq 17, 3) := by decide +kernel
theorem e_Mod_link_20 : decode M_Mod_link.2.1 20 = .ok (.iload_n 2, 1) := by decide +kernel
theorem e_Mod_link_21 : decode M_Mod_link.2.1 21 = .ok (.iconst 0, 1) := by decide +kernel
theorem e_Mod_link_22 : decode M_Mod_link.2.1 22 = .ok (.bipush 14, 2) := by decide +kernel
theorem e_Mod_link_24 : decode M_Mod_link.2.1 24 = .ok (.invokestatic 312, 3) := by decide +kernel
theorem e_Mod_link_27 : decode M_Mod_link.2.1 27 = .ok (.ifCond .eq 7, 3) := by decide +kernel
theorem e_Mod_link_30 : decode M_Mod_link.2.1 30 = .ok (.iconst 1, 1) := by decide +kernel
theorem e_Mod_link_31 : decode M_Mod_link.2.1 31 = .ok (.goto 4, 3) := by decide +kernel
theorem e_Mod_link_34 : decode M_Mod_link.2.1 34 = .ok (.iconst 0, 1) := by decide +kernel
theorem e_Mod_link_35 : decode M_Mod_link.2.1 35 = .ok (.iconst 1, 1) := by decide +kernel
theorem e_Mod_link_36 : decode M_Mod_link.2.1 36 = .ok (.invokevirtual 372, 3) := by decide +kernel
theorem e_Mod_link_39 : decode M_Mod_link.2.1 39 = .ok (.ifCond .ne 5, 3) := by decide +kernel
theorem e_Mod_link_42 : decode M_Mod_link.2.1 42 = .ok (.iconst 0, 1) := by decide +kernel
theorem e_Mod_link_43 : decode M_Mod_link.2.1 43 = .ok (.ireturn, 1) := by decide +kernel
theorem e_Mod_link_44 : decode M_Mod_link.2.1 44 = .ok (.iload_n 2, 1) := by decide +kernel
theorem e_Mod_link_45 : decode M_Mod_link.2.1 45 = .ok (.bipush 8, 2) := by decide +kernel
theorem e_Mod_link_47 : decode M_Mod_link.2.1 47 = .ok (.if_icmp .le 15, 3) := by decide +kernel
theorem e_Mod_link_50 : decode M_Mod_link.2.1 50 = .ok (.aload_n 0, 1) := by decide +kernel
theorem e_Mod_link_51 : decode M_Mod_link.2.1 51 = .ok (.getfield 40, 3) := by decide +kernel
theorem e_Mod_link_54 : decode M_Mod_link.2.1 54 = .ok (.iload_n 1, 1) := by decide +kernel
theorem e_Mod_link_55 : decode M_Mod_link.2.1 55 = .ok (.iaload, 1) := by decide +kernel
theorem e_Mod_link_56 : decode M_Mod_link.2.1 56 = .ok (.iconst 2, 1) := by decide +kernel
theorem e_Mod_link_57 : decode M_Mod_link.2.1 57 = .ok (.if_icmp .eq 5, 3) := by decide +kernel
theorem e_Mod_link_60 : decode M_Mod_link.2.1 60 = .ok (.iconst (-1), 1) := by decide +kernel
theorem e_Mod_link_61 : decode M_Mod_link.2.1 61 = .ok (.ireturn, 1) := by decide +kernel
theorem e_Mod_link_62 : decode M_Mod_link.2.1 62 = .ok (.iload_n 2, 1) := by decide +kernel
theorem e_Mod_link_63 : decode M_Mod_link.2.1 63 = .ok (.tableswitch 88 0 9 #[53, 60, 67, 74, 88, 88, 88, 88, 88, 81], 53) := by decide +kernel
theorem e_Mod_link_116 : decode M_Mod_link.2.1 116 = .ok (.aload_n 0, 1) := by decide +kernel
theorem e_Mod_link_117 : decode M_Mod_link.2.1 117 = .ok (.getfield 34, 3) := by decide +kernel
theorem e_Mod_link_120 : decode M_Mod_link.2.1 120 = .ok (.iload_n 1, 1) := by decide +kernel
theorem e_Mod_link_121 : decode M_Mod_link.2.1 121 = .ok (.iaload, 1) := by decide +kernel
theorem e_Mod_link_122 : decode M_Mod_link.2.1 122 = .ok (.ireturn, 1) := by decide +kernel
theorem e_Mod_link_123 : decode M_Mod_link.2.1 123 = .ok (.aload_n 0, 1) := by decide +kernel
theorem e_Mod_link_124 : decode M_Mod_link.2.1 124 = .ok (.getfield 37, 3) := by decide +kernel
theorem e_Mod_link_127 : decode M_Mod_link.2.1 127 = .ok (.iload_n 1, 1) := by decide +kernel
theorem e_Mod_link_128 : decode M_Mod_link.2.1 128 = .ok (.iaload, 1) := by decide +kernel
theorem e_Mod_link_129 : decode M_Mod_link.2.1 129 = .ok (.ireturn, 1) := by decide +kernel
theorem e_Mod_link_130 : decode M_Mod_link.2.1 130 = .ok (.aload_n 0, 1) := by decide +kernel
theorem e_Mod_link_131 : decode M_Mod_link.2.1 131 = .ok (.getfield 40, 3) := by decide +kernel
theorem e_Mod_link_134 : decode M_Mod_link.2.1 134 = .ok (.iload_n 1, 1) := by decide +kernel
theorem e_Mod_link_135 : decode M_Mod_link.2.1 135 = .ok (.iaload, 1) := by decide +kernel
theorem e_Mod_link_136 : decode M_Mod_link.2.1 136 = .ok (.ireturn, 1) := by decide +kernel
theorem e_Mod_link_137 : decode M_Mod_link.2.1 137 = .ok (.aload_n 0, 1) := by decide +kernel
theorem e_Mod_link_138 : decode M_Mod_link.2.1 138 = .ok (.getfield 89, 3) := by decide +kernel
theorem e_Mod_link_141 : decode M_Mod_link.2.1 141 = .ok (.iload_n 1, 1) := by decide +kernel
theorem e_Mod_link_142 : decode M_Mod_link.2.1 142 = .ok (.iaload, 1) := by decide +kernel
theorem e_Mod_link_143 : decode M_Mod_link.2.1 143 = .ok (.ireturn, 1) := by decide +kernel
theorem e_Mod_link_144 : decode M_Mod_link.2.1 144 = .ok (.aload_n 0, 1) := by decide +kernel
theorem e_Mod_link_145 : decode M_Mod_link.2.1 145 = .ok (.getfield 92, 3) := by decide +kernel
theorem e_Mod_link_148 : decode M_Mod_link.2.1 148 = .ok (.iload_n 1, 1) := by decide +kernel
theorem e_Mod_link_149 : decode M_Mod_link.2.1 149 = .ok (.iaload, 1) := by decide +kernel
theorem e_Mod_link_150 : decode M_Mod_link.2.1 150 = .ok (.ireturn, 1) := by decide +kernel
theorem e_Mod_link_151 : decode M_Mod_link.2.1 151 = .ok (.aload_n 0, 1) := by decide +kernel
theorem e_Mod_link_152 : decode M_Mod_link.2.1 152 = .ok (.getfield 9, 3) := by decide +kernel
theorem e_Mod_link_155 : decode M_Mod_link.2.1 155 = .ok (.iconst 0, 1) := by decide +kernel
theorem e_Mod_link_156 : decode M_Mod_link.2.1 156 = .ok (.iload_n 1, 1) := by decide +kernel
theorem e_Mod_link_157 : decode M_Mod_link.2.1 157 = .ok (.invokestatic 199, 3) := by decide +kernel
theorem e_Mod_link_160 : decode M_Mod_link.2.1 160 = .ok (.iload_n 2, 1) := by decide +kernel
theorem e_Mod_link_161 : decode M_Mod_link.2.1 161 = .ok (.bipush 9, 2) := by decide +kernel
theorem e_Mod_link_163 : decode M_Mod_link.2.1 163 = .ok (.if_icmp .ge 9, 3) := by decide +kernel
theorem e_Mod_link_166 : decode M_Mod_link.2.1 166 = .ok (.iload_n 2, 1) := by decide +kernel
theorem e_Mod_link_167 : decode M_Mod_link.2.1 167 = .ok (.iconst 4, 1) := by decide +kernel
theorem e_Mod_link_168 : decode M_Mod_link.2.1 168 = .ok (.isub, 1) := by decide +kernel
theorem e_Mod_link_169 : decode M_Mod_link.2.1 169 = .ok (.goto 6, 3) := by decide +kernel
theorem e_Mod_link_172 : decode M_Mod_link.2.1 172 = .ok (.iload_n 2, 1) := by decide +kernel
theorem e_Mod_link_173 : decode M_Mod_link.2.1 173 = .ok (.iconst 5, 1) := by decide +kernel
theorem e_Mod_link_174 : decode M_Mod_link.2.1 174 = .ok (.isub, 1) := by decide +kernel
theorem e_Mod_link_175 : decode M_Mod_link.2.1 175 = .ok (.iadd, 1) := by decide +kernel
theorem e_Mod_link_176 : decode M_Mod_link.2.1 176 = .ok (.iaload, 1) := by decide +kernel
theorem e_Mod_link_177 : decode M_Mod_link.2.1 177 = .ok (.ireturn, 1) := by decide +kernel
theorem e_Mod_plant_0 : decode M_Mod_plant.2.1 0 = .ok (.aload_n 0, 1) := by decide +kernel
theorem e_Mod_plant_1 : decode M_Mod_plant.2.1 1 = .ok (.iconst 0, 1) := by decide +kernel
theorem e_Mod_plant_2 : decode M_Mod_plant.2.1 2 = .ok (.putfield 159, 3) := by decide +kernel
theorem e_Mod_plant_5 : decode M_Mod_plant.2.1 5 = .ok (.aload_n 0, 1) := by decide +kernel
theorem e_Mod_plant_6 : decode M_Mod_plant.2.1 6 = .ok (.iload_n 1, 1) := by decide +kernel
theorem e_Mod_plant_7 : decode M_Mod_plant.2.1 7 = .ok (.iconst 0, 1) := by decide +kernel
theorem e_Mod_plant_8 : decode M_Mod_plant.2.1 8 = .ok (.iconst 3, 1) := by decide +kernel
theorem e_Mod_plant_9 : decode M_Mod_plant.2.1 9 = .ok (.invokestatic 312, 3) := by decide +kernel
theorem e_Mod_plant_12 : decode M_Mod_plant.2.1 12 = .ok (.ifCond .eq 16, 3) := by decide +kernel
theorem e_Mod_plant_15 : decode M_Mod_plant.2.1 15 = .ok (.iload_n 2, 1) := by decide +kernel
theorem e_Mod_plant_16 : decode M_Mod_plant.2.1 16 = .ok (.iconst 0, 1) := by decide +kernel
theorem e_Mod_plant_17 : decode M_Mod_plant.2.1 17 = .ok (.iconst 2, 1) := by decide +kernel
theorem e_Mod_plant_18 : decode M_Mod_plant.2.1 18 = .ok (.invokestatic 312, 3) := by decide +kernel
theorem e_Mod_plant_21 : decode M_Mod_plant.2.1 21 = .ok (.ifCond .eq 7, 3) := by decide +kernel
theorem e_Mod_plant_24 : decode M_Mod_plant.2.1 24 = .ok (.iconst 1, 1) := by decide +kernel
theorem e_Mod_plant_25 : decode M_Mod_plant.2.1 25 = .ok (.goto 4, 3) := by decide +kernel
theorem e_Mod_plant_28 : decode M_Mod_plant.2.1 28 = .ok (.iconst 0, 1) := by decide +kernel
theorem e_Mod_plant_29 : decode M_Mod_plant.2.1 29 = .ok (.iconst 1, 1) := by decide +kernel
theorem e_Mod_plant_30 : decode M_Mod_plant.2.1 30 = .ok (.invokevirtual 372, 3) := by decide +kernel
theorem e_Mod_plant_33 : decode M_Mod_plant.2.1 33 = .ok (.ifCond .ne 5, 3) := by decide +kernel
theorem e_Mod_plant_36 : decode M_Mod_plant.2.1 36 = .ok (.iconst 0, 1) := by decide +kernel
theorem e_Mod_plant_37 : decode M_Mod_plant.2.1 37 = .ok (.ireturn, 1) := by decide +kernel
theorem e_Mod_plant_38 : decode M_Mod_plant.2.1 38 = .ok (.iload_n 2, 1) := by decide +kernel
theorem e_Mod_plant_39 : decode M_Mod_plant.2.1 39 = .ok (.ifCond .ne 16, 3) := by decide +kernel
theorem e_Mod_plant_42 : decode M_Mod_plant.2.1 42 = .ok (.aload_n 0, 1) := by decide +kernel
theorem e_Mod_plant_43 : decode M_Mod_plant.2.1 43 = .ok (.getfield 9, 3) := by decide +kernel
theorem e_Mod_plant_46 : decode M_Mod_plant.2.1 46 = .ok (.sipush 200, 3) := by decide +kernel
theorem e_Mod_plant_49 : decode M_Mod_plant.2.1 49 = .ok (.iload_n 1, 1) := by decide +kernel
theorem e_Mod_plant_50 : decode M_Mod_plant.2.1 50 = .ok (.iadd, 1) := by decide +kernel
theorem e_Mod_plant_51 : decode M_Mod_plant.2.1 51 = .ok (.iaload, 1) := by decide +kernel
theorem e_Mod_plant_52 : decode M_Mod_plant.2.1 52 = .ok (.goto 23, 3) := by decide +kernel
theorem e_Mod_plant_55 : decode M_Mod_plant.2.1 55 = .ok (.iload_n 2, 1) := by decide +kernel
theorem e_Mod_plant_56 : decode M_Mod_plant.2.1 56 = .ok (.iconst 1, 1) := by decide +kernel
theorem e_Mod_plant_57 : decode M_Mod_plant.2.1 57 = .ok (.if_icmp .ne 12, 3) := by decide +kernel
theorem e_Mod_plant_60 : decode M_Mod_plant.2.1 60 = .ok (.aload_n 0, 1) := by decide +kernel
theorem e_Mod_plant_61 : decode M_Mod_plant.2.1 61 = .ok (.getfield 43, 3) := by decide +kernel
theorem e_Mod_plant_64 : decode M_Mod_plant.2.1 64 = .ok (.iload_n 1, 1) := by decide +kernel
theorem e_Mod_plant_65 : decode M_Mod_plant.2.1 65 = .ok (.iaload, 1) := by decide +kernel
theorem e_Mod_plant_66 : decode M_Mod_plant.2.1 66 = .ok (.goto 9, 3) := by decide +kernel
theorem e_Mod_plant_69 : decode M_Mod_plant.2.1 69 = .ok (.aload_n 0, 1) := by decide +kernel
theorem e_Mod_plant_70 : decode M_Mod_plant.2.1 70 = .ok (.iconst 0, 1) := by decide +kernel
theorem e_Mod_plant_71 : decode M_Mod_plant.2.1 71 = .ok (.iload_n 1, 1) := by decide +kernel
theorem e_Mod_plant_72 : decode M_Mod_plant.2.1 72 = .ok (.invokevirtual 255, 3) := by decide +kernel
theorem e_Mod_plant_75 : decode M_Mod_plant.2.1 75 = .ok (.ireturn, 1) := by decide +kernel
theorem e_Mod_actuated_0 : decode M_Mod_actuated.2.1 0 = .ok (.iconst 0, 1) := by decide +kernel
theorem e_Mod_actuated_1 : decode M_Mod_actuated.2.1 1 = .ok (.istore_n 3, 1) := by decide +kernel
theorem e_Mod_actuated_2 : decode M_Mod_actuated.2.1 2 = .ok (.iconst 0, 1) := by decide +kernel
theorem e_Mod_actuated_3 : decode M_Mod_actuated.2.1 3 = .ok (.istore 4, 2) := by decide +kernel
theorem e_Mod_actuated_5 : decode M_Mod_actuated.2.1 5 = .ok (.iload 4, 2) := by decide +kernel
theorem e_Mod_actuated_7 : decode M_Mod_actuated.2.1 7 = .ok (.aload_n 0, 1) := by decide +kernel
theorem e_Mod_actuated_8 : decode M_Mod_actuated.2.1 8 = .ok (.getfield 183, 3) := by decide +kernel
theorem e_Mod_actuated_11 : decode M_Mod_actuated.2.1 11 = .ok (.if_icmp .ge 45, 3) := by decide +kernel
theorem e_Mod_actuated_14 : decode M_Mod_actuated.2.1 14 = .ok (.aload_n 0, 1) := by decide +kernel
theorem e_Mod_actuated_15 : decode M_Mod_actuated.2.1 15 = .ok (.getfield 19, 3) := by decide +kernel
theorem e_Mod_actuated_18 : decode M_Mod_actuated.2.1 18 = .ok (.iload 4, 2) := by decide +kernel
theorem e_Mod_actuated_20 : decode M_Mod_actuated.2.1 20 = .ok (.iaload, 1) := by decide +kernel
theorem e_Mod_actuated_21 : decode M_Mod_actuated.2.1 21 = .ok (.iconst 2, 1) := by decide +kernel
theorem e_Mod_actuated_22 : decode M_Mod_actuated.2.1 22 = .ok (.if_icmp .ne 28, 3) := by decide +kernel
theorem e_Mod_actuated_25 : decode M_Mod_actuated.2.1 25 = .ok (.aload_n 0, 1) := by decide +kernel
theorem e_Mod_actuated_26 : decode M_Mod_actuated.2.1 26 = .ok (.getfield 22, 3) := by decide +kernel
theorem e_Mod_actuated_29 : decode M_Mod_actuated.2.1 29 = .ok (.iload 4, 2) := by decide +kernel
theorem e_Mod_actuated_31 : decode M_Mod_actuated.2.1 31 = .ok (.iaload, 1) := by decide +kernel
theorem e_Mod_actuated_32 : decode M_Mod_actuated.2.1 32 = .ok (.iload_n 2, 1) := by decide +kernel
theorem e_Mod_actuated_33 : decode M_Mod_actuated.2.1 33 = .ok (.if_icmp .ne 17, 3) := by decide +kernel
theorem e_Mod_actuated_36 : decode M_Mod_actuated.2.1 36 = .ok (.aload_n 0, 1) := by decide +kernel
theorem e_Mod_actuated_37 : decode M_Mod_actuated.2.1 37 = .ok (.getfield 9, 3) := by decide +kernel
theorem e_Mod_actuated_40 : decode M_Mod_actuated.2.1 40 = .ok (.iload_n 1, 1) := by decide +kernel
theorem e_Mod_actuated_41 : decode M_Mod_actuated.2.1 41 = .ok (.iload 4, 2) := by decide +kernel
theorem e_Mod_actuated_43 : decode M_Mod_actuated.2.1 43 = .ok (.invokestatic 193, 3) := by decide +kernel
theorem e_Mod_actuated_46 : decode M_Mod_actuated.2.1 46 = .ok (.iconst 3, 1) := by decide +kernel
theorem e_Mod_actuated_47 : decode M_Mod_actuated.2.1 47 = .ok (.iadd, 1) := by decide +kernel
theorem e_Mod_actuated_48 : decode M_Mod_actuated.2.1 48 = .ok (.iaload, 1) := by decide +kernel
theorem e_Mod_actuated_49 : decode M_Mod_actuated.2.1 49 = .ok (.istore_n 3, 1) := by decide +kernel
theorem e_Mod_actuated_50 : decode M_Mod_actuated.2.1 50 = .ok (.iinc 4 1, 3) := by decide +kernel
theorem e_Mod_actuated_53 : decode M_Mod_actuated.2.1 53 = .ok (.goto (-48), 3) := by decide +kernel
theorem e_Mod_actuated_56 : decode M_Mod_actuated.2.1 56 = .ok (.iload_n 3, 1) := by decide +kernel
theorem e_Mod_actuated_57 : decode M_Mod_actuated.2.1 57 = .ok (.ireturn, 1) := by decide +kernel
theorem e_Mod_target_0 : decode M_Mod_target.2.1 0 = .ok (.aload_n 0, 1) := by decide +kernel
theorem e_Mod_target_1 : decode M_Mod_target.2.1 1 = .ok (.iconst 0, 1) := by decide +kernel
theorem e_Mod_target_2 : decode M_Mod_target.2.1 2 = .ok (.putfield 159, 3) := by decide +kernel
theorem e_Mod_target_5 : decode M_Mod_target.2.1 5 = .ok (.aload_n 0, 1) := by decide +kernel
theorem e_Mod_target_6 : decode M_Mod_target.2.1 6 = .ok (.iconst 0, 1) := by decide +kernel
theorem e_Mod_target_7 : decode M_Mod_target.2.1 7 = .ok (.iload_n 1, 1) := by decide +kernel
theorem e_Mod_target_8 : decode M_Mod_target.2.1 8 = .ok (.iload_n 2, 1) := by decide +kernel
theorem e_Mod_target_9 : decode M_Mod_target.2.1 9 = .ok (.invokevirtual 410, 3) := by decide +kernel
theorem e_Mod_target_12 : decode M_Mod_target.2.1 12 = .ok (.ifCond .ne 9, 3) := by decide +kernel
theorem e_Mod_target_15 : decode M_Mod_target.2.1 15 = .ok (.aload_n 0, 1) := by decide +kernel
theorem e_Mod_target_16 : decode M_Mod_target.2.1 16 = .ok (.iconst 1, 1) := by decide +kernel
theorem e_Mod_target_17 : decode M_Mod_target.2.1 17 = .ok (.invokevirtual 413, 3) := by decide +kernel
theorem e_Mod_target_20 : decode M_Mod_target.2.1 20 = .ok (.ireturn, 1) := by decide +kernel
theorem e_Mod_target_21 : decode M_Mod_target.2.1 21 = .ok (.aload_n 0, 1) := by decide +kernel
theorem e_Mod_target_22 : decode M_Mod_target.2.1 22 = .ok (.invokevirtual 416, 3) := by decide +kernel
theorem e_Mod_target_25 : decode M_Mod_target.2.1 25 = .ok (.aload_n 0, 1) := by decide +kernel
theorem e_Mod_target_26 : decode M_Mod_target.2.1 26 = .ok (.getfield 9, 3) := by decide +kernel
theorem e_Mod_target_29 : decode M_Mod_target.2.1 29 = .ok (.iconst 0, 1) := by decide +kernel
theorem e_Mod_target_30 : decode M_Mod_target.2.1 30 = .ok (.iload_n 1, 1) := by decide +kernel
theorem e_Mod_target_31 : decode M_Mod_target.2.1 31 = .ok (.invokestatic 193, 3) := by decide +kernel
theorem e_Mod_target_34 : decode M_Mod_target.2.1 34 = .ok (.iconst 0, 1) := by decide +kernel
theorem e_Mod_target_35 : decode M_Mod_target.2.1 35 = .ok (.iadd, 1) := by decide +kernel
theorem e_Mod_target_36 : decode M_Mod_target.2.1 36 = .ok (.iaload, 1) := by decide +kernel
theorem e_Mod_target_37 : decode M_Mod_target.2.1 37 = .ok (.istore_n 3, 1) := by decide +kernel
theorem e_Mod_target_38 : decode M_Mod_target.2.1 38 = .ok (.aload_n 0, 1) := by decide +kernel
theorem e_Mod_target_39 : decode M_Mod_target.2.1 39 = .ok (.getfield 9, 3) := by decide +kernel
theorem e_Mod_target_42 : decode M_Mod_target.2.1 42 = .ok (.iconst 0, 1) := by decide +kernel
theorem e_Mod_target_43 : decode M_Mod_target.2.1 43 = .ok (.iload_n 1, 1) := by decide +kernel
theorem e_Mod_target_44 : decode M_Mod_target.2.1 44 = .ok (.invokestatic 193, 3) := by decide +kernel
theorem e_Mod_target_47 : decode M_Mod_target.2.1 47 = .ok (.iconst 0, 1) := by decide +kernel
theorem e_Mod_target_48 : decode M_Mod_target.2.1 48 = .ok (.iadd, 1) := by decide +kernel
theorem e_Mod_target_49 : decode M_Mod_target.2.1 49 = .ok (.iload_n 2, 1) := by decide +kernel
theorem e_Mod_target_50 : decode M_Mod_target.2.1 50 = .ok (.iastore, 1) := by decide +kernel
theorem e_Mod_target_51 : decode M_Mod_target.2.1 51 = .ok (.iload_n 3, 1) := by decide +kernel
theorem e_Mod_target_52 : decode M_Mod_target.2.1 52 = .ok (.ireturn, 1) := by decide +kernel
theorem e_Mod_canTarget_0 : decode M_Mod_canTarget.2.1 0 = .ok (.iload_n 2, 1) := by decide +kernel
theorem e_Mod_canTarget_1 : decode M_Mod_canTarget.2.1 1 = .ok (.iconst 0, 1) := by decide +kernel
theorem e_Mod_canTarget_2 : decode M_Mod_canTarget.2.1 2 = .ok (.aload_n 0, 1) := by decide +kernel
theorem e_Mod_canTarget_3 : decode M_Mod_canTarget.2.1 3 = .ok (.getfield 183, 3) := by decide +kernel
theorem e_Mod_canTarget_6 : decode M_Mod_canTarget.2.1 6 = .ok (.iconst 1, 1) := by decide +kernel
theorem e_Mod_canTarget_7 : decode M_Mod_canTarget.2.1 7 = .ok (.isub, 1) := by decide +kernel
theorem e_Mod_canTarget_8 : decode M_Mod_canTarget.2.1 8 = .ok (.invokestatic 312, 3) := by decide +kernel
theorem e_Mod_canTarget_11 : decode M_Mod_canTarget.2.1 11 = .ok (.ifCond .eq 36, 3) := by decide +kernel
theorem e_Mod_canTarget_14 : decode M_Mod_canTarget.2.1 14 = .ok (.iload_n 3, 1) := by decide +kernel
theorem e_Mod_canTarget_15 : decode M_Mod_canTarget.2.1 15 = .ok (.iconst 0, 1) := by decide +kernel
theorem e_Mod_canTarget_16 : decode M_Mod_canTarget.2.1 16 = .ok (.aload_n 0, 1) := by decide +kernel
theorem e_Mod_canTarget_17 : decode M_Mod_canTarget.2.1 17 = .ok (.getfield 19, 3) := by decide +kernel
theorem e_Mod_canTarget_20 : decode M_Mod_canTarget.2.1 20 = .ok (.iload_n 2, 1) := by decide +kernel
theorem e_Mod_canTarget_21 : decode M_Mod_canTarget.2.1 21 = .ok (.iaload, 1) := by decide +kernel
theorem e_Mod_canTarget_22 : decode M_Mod_canTarget.2.1 22 = .ok (.iconst 1, 1) := by decide +kernel
theorem e_Mod_canTarget_23 : decode M_Mod_canTarget.2.1 23 = .ok (.if_icmp .eq 13, 3) := by decide +kernel
theorem e_Mod_canTarget_26 : decode M_Mod_canTarget.2.1 26 = .ok (.aload_n 0, 1) := by decide +kernel
theorem e_Mod_canTarget_27 : decode M_Mod_canTarget.2.1 27 = .ok (.getfield 19, 3) := by decide +kernel
theorem e_Mod_canTarget_30 : decode M_Mod_canTarget.2.1 30 = .ok (.iload_n 2, 1) := by decide +kernel
theorem e_Mod_canTarget_31 : decode M_Mod_canTarget.2.1 31 = .ok (.iaload, 1) := by decide +kernel
theorem e_Mod_canTarget_32 : decode M_Mod_canTarget.2.1 32 = .ok (.iconst 2, 1) := by decide +kernel
theorem e_Mod_canTarget_33 : decode M_Mod_canTarget.2.1 33 = .ok (.if_icmp .ne 7, 3) := by decide +kernel
theorem e_Mod_canTarget_36 : decode M_Mod_canTarget.2.1 36 = .ok (.iconst 3, 1) := by decide +kernel
theorem e_Mod_canTarget_37 : decode M_Mod_canTarget.2.1 37 = .ok (.goto 4, 3) := by decide +kernel
theorem e_Mod_canTarget_40 : decode M_Mod_canTarget.2.1 40 = .ok (.iconst 2, 1) := by decide +kernel
theorem e_Mod_canTarget_41 : decode M_Mod_canTarget.2.1 41 = .ok (.invokestatic 312, 3) := by decide +kernel
theorem e_Mod_canTarget_44 : decode M_Mod_canTarget.2.1 44 = .ok (.ifCond .ne 5, 3) := by decide +kernel
theorem e_Mod_canTarget_47 : decode M_Mod_canTarget.2.1 47 = .ok (.iconst 0, 1) := by decide +kernel
theorem e_Mod_canTarget_48 : decode M_Mod_canTarget.2.1 48 = .ok (.ireturn, 1) := by decide +kernel
theorem e_Mod_canTarget_49 : decode M_Mod_canTarget.2.1 49 = .ok (.aload_n 0, 1) := by decide +kernel
theorem e_Mod_canTarget_50 : decode M_Mod_canTarget.2.1 50 = .ok (.getfield 9, 3) := by decide +kernel
theorem e_Mod_canTarget_53 : decode M_Mod_canTarget.2.1 53 = .ok (.iload_n 1, 1) := by decide +kernel
theorem e_Mod_canTarget_54 : decode M_Mod_canTarget.2.1 54 = .ok (.iload_n 2, 1) := by decide +kernel
theorem e_Mod_canTarget_55 : decode M_Mod_canTarget.2.1 55 = .ok (.invokestatic 193, 3) := by decide +kernel
theorem e_Mod_canTarget_58 : decode M_Mod_canTarget.2.1 58 = .ok (.iconst 0, 1) := by decide +kernel
theorem e_Mod_canTarget_59 : decode M_Mod_canTarget.2.1 59 = .ok (.iadd, 1) := by decide +kernel
theorem e_Mod_canTarget_60 : decode M_Mod_canTarget.2.1 60 = .ok (.iaload, 1) := by decide +kernel
theorem e_Mod_canTarget_61 : decode M_Mod_canTarget.2.1 61 = .ok (.iload_n 3, 1) := by decide +kernel
theorem e_Mod_canTarget_62 : decode M_Mod_canTarget.2.1 62 = .ok (.if_icmp .eq 7, 3) := by decide +kernel
theorem e_Mod_canTarget_65 : decode M_Mod_canTarget.2.1 65 = .ok (.iconst 1, 1) := by decide +kernel
theorem e_Mod_canTarget_66 : decode M_Mod_canTarget.2.1 66 = .ok (.goto 4, 3) := by decide +kernel
theorem e_Mod_canTarget_69 : decode M_Mod_canTarget.2.1 69 = .ok (.iconst 0, 1) := by decide +kernel
theorem e_Mod_canTarget_70 : decode M_Mod_canTarget.2.1 70 = .ok (.ireturn, 1) := by decide +kernel
theorem e_Mod_refuses_0 : decode M_Mod_refuses.2.1 0 = .ok (.aload_n 0, 1) := by decide +kernel
theorem e_Mod_refuses_1 : decode M_Mod_refuses.2.1 1 = .ok (.getfield 61, 3) := by decide +kernel
theorem e_Mod_refuses_4 : decode M_Mod_refuses.2.1 4 = .ok (.iload_n 1, 1) := by decide +kernel
theorem e_Mod_refuses_5 : decode M_Mod_refuses.2.1 5 = .ok (.dup2, 1) := by decide +kernel
theorem e_Mod_refuses_6 : decode M_Mod_refuses.2.1 6 = .ok (.iaload, 1) := by decide +kernel
theorem e_Mod_refuses_7 : decode M_Mod_refuses.2.1 7 = .ok (.iconst 1, 1) := by decide +kernel
theorem e_Mod_refuses_8 : decode M_Mod_refuses.2.1 8 = .ok (.iadd, 1) := by decide +kernel
theorem e_Mod_refuses_9 : decode M_Mod_refuses.2.1 9 = .ok (.iastore, 1) := by decide +kernel
theorem e_Mod_refuses_10 : decode M_Mod_refuses.2.1 10 = .ok (.iconst (-1), 1) := by decide +kernel
theorem e_Mod_refuses_11 : decode M_Mod_refuses.2.1 11 = .ok (.ireturn, 1) := by decide +kernel
theorem e_Mod_keeps_0 : decode M_Mod_keeps.2.1 0 = .ok (.aload_n 0, 1) := by decide +kernel
theorem e_Mod_keeps_1 : decode M_Mod_keeps.2.1 1 = .ok (.getfield 394, 3) := by decide +kernel
theorem e_Mod_keeps_4 : decode M_Mod_keeps.2.1 4 = .ok (.bipush 40, 2) := by decide +kernel
theorem e_Mod_keeps_6 : decode M_Mod_keeps.2.1 6 = .ok (.if_icmp .ne 26, 3) := by decide +kernel
theorem e_Mod_keeps_9 : decode M_Mod_keeps.2.1 9 = .ok (.aload_n 0, 1) := by decide +kernel
theorem e_Mod_keeps_10 : decode M_Mod_keeps.2.1 10 = .ok (.aload_n 0, 1) := by decide +kernel
theorem e_Mod_keeps_11 : decode M_Mod_keeps.2.1 11 = .ok (.getfield 391, 3) := by decide +kernel
theorem e_Mod_keeps_14 : decode M_Mod_keeps.2.1 14 = .ok (.iconst 1, 1) := by decide +kernel
theorem e_Mod_keeps_15 : decode M_Mod_keeps.2.1 15 = .ok (.iadd, 1) := by decide +kernel
theorem e_Mod_keeps_16 : decode M_Mod_keeps.2.1 16 = .ok (.bipush 40, 2) := by decide +kernel
theorem e_Mod_keeps_18 : decode M_Mod_keeps.2.1 18 = .ok (.irem, 1) := by decide +kernel
theorem e_Mod_keeps_19 : decode M_Mod_keeps.2.1 19 = .ok (.putfield 391, 3) := by decide +kernel
theorem e_Mod_keeps_22 : decode M_Mod_keeps.2.1 22 = .ok (.aload_n 0, 1) := by decide +kernel
theorem e_Mod_keeps_23 : decode M_Mod_keeps.2.1 23 = .ok (.dup, 1) := by decide +kernel
theorem e_Mod_keeps_24 : decode M_Mod_keeps.2.1 24 = .ok (.getfield 394, 3) := by decide +kernel
theorem e_Mod_keeps_27 : decode M_Mod_keeps.2.1 27 = .ok (.iconst 1, 1) := by decide +kernel
theorem e_Mod_keeps_28 : decode M_Mod_keeps.2.1 28 = .ok (.isub, 1) := by decide +kernel
theorem e_Mod_keeps_29 : decode M_Mod_keeps.2.1 29 = .ok (.putfield 394, 3) := by decide +kernel
theorem e_Mod_keeps_32 : decode M_Mod_keeps.2.1 32 = .ok (.aload_n 0, 1) := by decide +kernel
theorem e_Mod_keeps_33 : decode M_Mod_keeps.2.1 33 = .ok (.iconst 0, 1) := by decide +kernel
theorem e_Mod_keeps_34 : decode M_Mod_keeps.2.1 34 = .ok (.aload_n 0, 1) := by decide +kernel
theorem e_Mod_keeps_35 : decode M_Mod_keeps.2.1 35 = .ok (.getfield 391, 3) := by decide +kernel
theorem e_Mod_keeps_38 : decode M_Mod_keeps.2.1 38 = .ok (.aload_n 0, 1) := by decide +kernel
theorem e_Mod_keeps_39 : decode M_Mod_keeps.2.1 39 = .ok (.getfield 394, 3) := by decide +kernel
theorem e_Mod_keeps_42 : decode M_Mod_keeps.2.1 42 = .ok (.invokestatic 403, 3) := by decide +kernel
theorem e_Mod_keeps_45 : decode M_Mod_keeps.2.1 45 = .ok (.sipush 210, 3) := by decide +kernel
theorem e_Mod_keeps_48 : decode M_Mod_keeps.2.1 48 = .ok (.invokevirtual 406, 3) := by decide +kernel
theorem e_Mod_keeps_51 : decode M_Mod_keeps.2.1 51 = .ok (.aload_n 0, 1) := by decide +kernel
theorem e_Mod_keeps_52 : decode M_Mod_keeps.2.1 52 = .ok (.dup, 1) := by decide +kernel
theorem e_Mod_keeps_53 : decode M_Mod_keeps.2.1 53 = .ok (.getfield 394, 3) := by decide +kernel
theorem e_Mod_keeps_56 : decode M_Mod_keeps.2.1 56 = .ok (.iconst 1, 1) := by decide +kernel
theorem e_Mod_keeps_57 : decode M_Mod_keeps.2.1 57 = .ok (.iadd, 1) := by decide +kernel
theorem e_Mod_keeps_58 : decode M_Mod_keeps.2.1 58 = .ok (.putfield 394, 3) := by decide +kernel
theorem e_Mod_keeps_61 : decode M_Mod_keeps.2.1 61 = .ok (.return_, 1) := by decide +kernel
theorem e_Mod_keptAt_0 : decode M_Mod_keptAt.2.1 0 = .ok (.sipush 630, 3) := by decide +kernel
theorem e_Mod_keptAt_3 : decode M_Mod_keptAt.2.1 3 = .ok (.sipush 210, 3) := by decide +kernel
theorem e_Mod_keptAt_6 : decode M_Mod_keptAt.2.1 6 = .ok (.iload_n 0, 1) := by decide +kernel
theorem e_Mod_keptAt_7 : decode M_Mod_keptAt.2.1 7 = .ok (.iload_n 1, 1) := by decide +kernel
theorem e_Mod_keptAt_8 : decode M_Mod_keptAt.2.1 8 = .ok (.iadd, 1) := by decide +kernel
theorem e_Mod_keptAt_9 : decode M_Mod_keptAt.2.1 9 = .ok (.bipush 40, 2) := by decide +kernel
theorem e_Mod_keptAt_11 : decode M_Mod_keptAt.2.1 11 = .ok (.irem, 1) := by decide +kernel
theorem e_Mod_keptAt_12 : decode M_Mod_keptAt.2.1 12 = .ok (.imul, 1) := by decide +kernel
theorem e_Mod_keptAt_13 : decode M_Mod_keptAt.2.1 13 = .ok (.iadd, 1) := by decide +kernel
theorem e_Mod_keptAt_14 : decode M_Mod_keptAt.2.1 14 = .ok (.ireturn, 1) := by decide +kernel
theorem e_Mod_copies_0 : decode M_Mod_copies.2.1 0 = .ok (.iconst 0, 1) := by decide +kernel
theorem e_Mod_copies_1 : decode M_Mod_copies.2.1 1 = .ok (.istore 4, 2) := by decide +kernel
theorem e_Mod_copies_3 : decode M_Mod_copies.2.1 3 = .ok (.iload 4, 2) := by decide +kernel
theorem e_Mod_copies_5 : decode M_Mod_copies.2.1 5 = .ok (.iload_n 3, 1) := by decide +kernel
theorem e_Mod_copies_6 : decode M_Mod_copies.2.1 6 = .ok (.if_icmp .ge 27, 3) := by decide +kernel
theorem e_Mod_copies_9 : decode M_Mod_copies.2.1 9 = .ok (.aload_n 0, 1) := by decide +kernel
theorem e_Mod_copies_10 : decode M_Mod_copies.2.1 10 = .ok (.getfield 9, 3) := by decide +kernel
theorem e_Mod_copies_13 : decode M_Mod_copies.2.1 13 = .ok (.iload_n 2, 1) := by decide +kernel
theorem e_Mod_copies_14 : decode M_Mod_copies.2.1 14 = .ok (.iload 4, 2) := by decide +kernel
theorem e_Mod_copies_16 : decode M_Mod_copies.2.1 16 = .ok (.iadd, 1) := by decide +kernel
theorem e_Mod_copies_17 : decode M_Mod_copies.2.1 17 = .ok (.aload_n 0, 1) := by decide +kernel
theorem e_Mod_copies_18 : decode M_Mod_copies.2.1 18 = .ok (.getfield 9, 3) := by decide +kernel
theorem e_Mod_copies_21 : decode M_Mod_copies.2.1 21 = .ok (.iload_n 1, 1) := by decide +kernel
theorem e_Mod_copies_22 : decode M_Mod_copies.2.1 22 = .ok (.iload 4, 2) := by decide +kernel
theorem e_Mod_copies_24 : decode M_Mod_copies.2.1 24 = .ok (.iadd, 1) := by decide +kernel
theorem e_Mod_copies_25 : decode M_Mod_copies.2.1 25 = .ok (.iaload, 1) := by decide +kernel
theorem e_Mod_copies_26 : decode M_Mod_copies.2.1 26 = .ok (.iastore, 1) := by decide +kernel
theorem e_Mod_copies_27 : decode M_Mod_copies.2.1 27 = .ok (.iinc 4 1, 3) := by decide +kernel
theorem e_Mod_copies_30 : decode M_Mod_copies.2.1 30 = .ok (.goto (-27), 3) := by decide +kernel
theorem e_Mod_copies_33 : decode M_Mod_copies.2.1 33 = .ok (.return_, 1) := by decide +kernel
theorem e_Mod_hand_0 : decode M_Mod_hand.2.1 0 = .ok (.aload_n 0, 1) := by decide +kernel
theorem e_Mod_hand_1 : decode M_Mod_hand.2.1 1 = .ok (.iconst 0, 1) := by decide +kernel
theorem e_Mod_hand_2 : decode M_Mod_hand.2.1 2 = .ok (.putfield 159, 3) := by decide +kernel
theorem e_Mod_hand_5 : decode M_Mod_hand.2.1 5 = .ok (.aload_n 0, 1) := by decide +kernel
theorem e_Mod_hand_6 : decode M_Mod_hand.2.1 6 = .ok (.iconst 0, 1) := by decide +kernel
theorem e_Mod_hand_7 : decode M_Mod_hand.2.1 7 = .ok (.iload_n 1, 1) := by decide +kernel
theorem e_Mod_hand_8 : decode M_Mod_hand.2.1 8 = .ok (.invokevirtual 419, 3) := by decide +kernel
theorem e_Mod_hand_11 : decode M_Mod_hand.2.1 11 = .ok (.istore_n 3, 1) := by decide +kernel
theorem e_Mod_hand_12 : decode M_Mod_hand.2.1 12 = .ok (.iload_n 3, 1) := by decide +kernel
theorem e_Mod_hand_13 : decode M_Mod_hand.2.1 13 = .ok (.iconst (-1), 1) := by decide +kernel
theorem e_Mod_hand_14 : decode M_Mod_hand.2.1 14 = .ok (.if_icmp .eq 14, 3) := by decide +kernel
theorem e_Mod_hand_17 : decode M_Mod_hand.2.1 17 = .ok (.iload_n 2, 1) := by decide +kernel
theorem e_Mod_hand_18 : decode M_Mod_hand.2.1 18 = .ok (.iconst 0, 1) := by decide +kernel
theorem e_Mod_hand_19 : decode M_Mod_hand.2.1 19 = .ok (.sipush 1000, 3) := by decide +kernel
theorem e_Mod_hand_22 : decode M_Mod_hand.2.1 22 = .ok (.invokestatic 312, 3) := by decide +kernel
theorem e_Mod_hand_25 : decode M_Mod_hand.2.1 25 = .ok (.ifCond .ne 9, 3) := by decide +kernel
theorem e_Mod_hand_28 : decode M_Mod_hand.2.1 28 = .ok (.aload_n 0, 1) := by decide +kernel
theorem e_Mod_hand_29 : decode M_Mod_hand.2.1 29 = .ok (.iconst 1, 1) := by decide +kernel
theorem e_Mod_hand_30 : decode M_Mod_hand.2.1 30 = .ok (.invokevirtual 413, 3) := by decide +kernel
theorem e_Mod_hand_33 : decode M_Mod_hand.2.1 33 = .ok (.ireturn, 1) := by decide +kernel
theorem e_Mod_hand_34 : decode M_Mod_hand.2.1 34 = .ok (.aload_n 0, 1) := by decide +kernel
theorem e_Mod_hand_35 : decode M_Mod_hand.2.1 35 = .ok (.invokevirtual 416, 3) := by decide +kernel
theorem e_Mod_hand_38 : decode M_Mod_hand.2.1 38 = .ok (.aload_n 0, 1) := by decide +kernel
theorem e_Mod_hand_39 : decode M_Mod_hand.2.1 39 = .ok (.getfield 9, 3) := by decide +kernel
theorem e_Mod_hand_42 : decode M_Mod_hand.2.1 42 = .ok (.iconst 0, 1) := by decide +kernel
theorem e_Mod_hand_43 : decode M_Mod_hand.2.1 43 = .ok (.iload_n 1, 1) := by decide +kernel
theorem e_Mod_hand_44 : decode M_Mod_hand.2.1 44 = .ok (.invokestatic 193, 3) := by decide +kernel
theorem e_Mod_hand_47 : decode M_Mod_hand.2.1 47 = .ok (.iload_n 3, 1) := by decide +kernel
theorem e_Mod_hand_48 : decode M_Mod_hand.2.1 48 = .ok (.iadd, 1) := by decide +kernel
theorem e_Mod_hand_49 : decode M_Mod_hand.2.1 49 = .ok (.iaload, 1) := by decide +kernel
theorem e_Mod_hand_50 : decode M_Mod_hand.2.1 50 = .ok (.istore 4, 2) := by decide +kernel
theorem e_Mod_hand_52 : decode M_Mod_hand.2.1 52 = .ok (.aload_n 0, 1) := by decide +kernel
theorem e_Mod_hand_53 : decode M_Mod_hand.2.1 53 = .ok (.getfield 9, 3) := by decide +kernel
theorem e_Mod_hand_56 : decode M_Mod_hand.2.1 56 = .ok (.iconst 0, 1) := by decide +kernel
theorem e_Mod_hand_57 : decode M_Mod_hand.2.1 57 = .ok (.iload_n 1, 1) := by decide +kernel
theorem e_Mod_hand_58 : decode M_Mod_hand.2.1 58 = .ok (.invokestatic 193, 3) := by decide +kernel
theorem e_Mod_hand_61 : decode M_Mod_hand.2.1 61 = .ok (.iload_n 3, 1) := by decide +kernel
theorem e_Mod_hand_62 : decode M_Mod_hand.2.1 62 = .ok (.iadd, 1) := by decide +kernel
theorem e_Mod_hand_63 : decode M_Mod_hand.2.1 63 = .ok (.iload_n 2, 1) := by decide +kernel
theorem e_Mod_hand_64 : decode M_Mod_hand.2.1 64 = .ok (.iastore, 1) := by decide +kernel
theorem e_Mod_hand_65 : decode M_Mod_hand.2.1 65 = .ok (.iload 4, 2) := by decide +kernel
theorem e_Mod_hand_67 : decode M_Mod_hand.2.1 67 = .ok (.ireturn, 1) := by decide +kernel
theorem e_Mod_byHand_0 : decode M_Mod_byHand.2.1 0 = .ok (.iload_n 2, 1) := by decide +kernel
theorem e_Mod_byHand_1 : decode M_Mod_byHand.2.1 1 = .ok (.iconst 0, 1) := by decide +kernel
theorem e_Mod_byHand_2 : decode M_Mod_byHand.2.1 2 = .ok (.aload_n 0, 1) := by decide +kernel
theorem e_Mod_byHand_3 : decode M_Mod_byHand.2.1 3 = .ok (.getfield 183, 3) := by decide +kernel
theorem e_Mod_byHand_6 : decode M_Mod_byHand.2.1 6 = .ok (.iconst 1, 1) := by decide +kernel
theorem e_Mod_byHand_7 : decode M_Mod_byHand.2.1 7 = .ok (.isub, 1) := by decide +kernel
theorem e_Mod_byHand_8 : decode M_Mod_byHand.2.1 8 = .ok (.invokestatic 312, 3) := by decide +kernel
theorem e_Mod_byHand_11 : decode M_Mod_byHand.2.1 11 = .ok (.ifCond .ne 5, 3) := by decide +kernel
theorem e_Mod_byHand_14 : decode M_Mod_byHand.2.1 14 = .ok (.iconst (-1), 1) := by decide +kernel
theorem e_Mod_byHand_15 : decode M_Mod_byHand.2.1 15 = .ok (.ireturn, 1) := by decide +kernel
theorem e_Mod_byHand_16 : decode M_Mod_byHand.2.1 16 = .ok (.aload_n 0, 1) := by decide +kernel
theorem e_Mod_byHand_17 : decode M_Mod_byHand.2.1 17 = .ok (.getfield 9, 3) := by decide +kernel
theorem e_Mod_byHand_20 : decode M_Mod_byHand.2.1 20 = .ok (.iload_n 1, 1) := by decide +kernel
theorem e_Mod_byHand_21 : decode M_Mod_byHand.2.1 21 = .ok (.iload_n 2, 1) := by decide +kernel
theorem e_Mod_byHand_22 : decode M_Mod_byHand.2.1 22 = .ok (.invokestatic 193, 3) := by decide +kernel
theorem e_Mod_byHand_25 : decode M_Mod_byHand.2.1 25 = .ok (.iconst 1, 1) := by decide +kernel
theorem e_Mod_byHand_26 : decode M_Mod_byHand.2.1 26 = .ok (.iadd, 1) := by decide +kernel
theorem e_Mod_byHand_27 : decode M_Mod_byHand.2.1 27 = .ok (.iaload, 1) := by decide +kernel
theorem e_Mod_byHand_28 : decode M_Mod_byHand.2.1 28 = .ok (.istore_n 3, 1) := by decide +kernel
theorem e_Mod_byHand_29 : decode M_Mod_byHand.2.1 29 = .ok (.iload_n 3, 1) := by decide +kernel
theorem e_Mod_byHand_30 : decode M_Mod_byHand.2.1 30 = .ok (.iconst 1, 1) := by decide +kernel
theorem e_Mod_byHand_31 : decode M_Mod_byHand.2.1 31 = .ok (.if_icmp .ne 5, 3) := by decide +kernel
theorem e_Mod_byHand_34 : decode M_Mod_byHand.2.1 34 = .ok (.iconst 3, 1) := by decide +kernel
theorem e_Mod_byHand_35 : decode M_Mod_byHand.2.1 35 = .ok (.ireturn, 1) := by decide +kernel
theorem e_Mod_byHand_36 : decode M_Mod_byHand.2.1 36 = .ok (.iload_n 3, 1) := by decide +kernel
theorem e_Mod_byHand_37 : decode M_Mod_byHand.2.1 37 = .ok (.iconst 2, 1) := by decide +kernel
theorem e_Mod_byHand_38 : decode M_Mod_byHand.2.1 38 = .ok (.if_icmp .ne 27, 3) := by decide +kernel
theorem e_Mod_byHand_41 : decode M_Mod_byHand.2.1 41 = .ok (.aload_n 0, 1) := by decide +kernel
theorem e_Mod_byHand_42 : decode M_Mod_byHand.2.1 42 = .ok (.getfield 19, 3) := by decide +kernel
theorem e_Mod_byHand_45 : decode M_Mod_byHand.2.1 45 = .ok (.iload_n 2, 1) := by decide +kernel
theorem e_Mod_byHand_46 : decode M_Mod_byHand.2.1 46 = .ok (.iaload, 1) := by decide +kernel
theorem e_Mod_byHand_47 : decode M_Mod_byHand.2.1 47 = .ok (.iconst 1, 1) := by decide +kernel
theorem e_Mod_byHand_48 : decode M_Mod_byHand.2.1 48 = .ok (.if_icmp .eq 13, 3) := by decide +kernel
theorem e_Mod_byHand_51 : decode M_Mod_byHand.2.1 51 = .ok (.aload_n 0, 1) := by decide +kernel
theorem e_Mod_byHand_52 : decode M_Mod_byHand.2.1 52 = .ok (.getfield 19, 3) := by decide +kernel
theorem e_Mod_byHand_55 : decode M_Mod_byHand.2.1 55 = .ok (.iload_n 2, 1) := by decide +kernel
theorem e_Mod_byHand_56 : decode M_Mod_byHand.2.1 56 = .ok (.iaload, 1) := by decide +kernel
theorem e_Mod_byHand_57 : decode M_Mod_byHand.2.1 57 = .ok (.iconst 2, 1) := by decide +kernel
theorem e_Mod_byHand_58 : decode M_Mod_byHand.2.1 58 = .ok (.if_icmp .ne 7, 3) := by decide +kernel
theorem e_Mod_byHand_61 : decode M_Mod_byHand.2.1 61 = .ok (.iconst 2, 1) := by decide +kernel
theorem e_Mod_byHand_62 : decode M_Mod_byHand.2.1 62 = .ok (.goto 4, 3) := by decide +kernel
theorem e_Mod_byHand_65 : decode M_Mod_byHand.2.1 65 = .ok (.iconst (-1), 1) := by decide +kernel
theorem e_Mod_byHand_66 : decode M_Mod_byHand.2.1 66 = .ok (.ireturn, 1) := by decide +kernel
theorem e_Mod_power_0 : decode M_Mod_power.2.1 0 = .ok (.aload_n 0, 1) := by decide +kernel
theorem e_Mod_power_1 : decode M_Mod_power.2.1 1 = .ok (.iconst 0, 1) := by decide +kernel
theorem e_Mod_power_2 : decode M_Mod_power.2.1 2 = .ok (.putfield 159, 3) := by decide +kernel
theorem e_Mod_power_5 : decode M_Mod_power.2.1 5 = .ok (.iload_n 1, 1) := by decide +kernel
theorem e_Mod_power_6 : decode M_Mod_power.2.1 6 = .ok (.iconst 0, 1) := by decide +kernel
theorem e_Mod_power_7 : decode M_Mod_power.2.1 7 = .ok (.aload_n 0, 1) := by decide +kernel
theorem e_Mod_power_8 : decode M_Mod_power.2.1 8 = .ok (.getfield 64, 3) := by decide +kernel
theorem e_Mod_power_11 : decode M_Mod_power.2.1 11 = .ok (.iconst 1, 1) := by decide +kernel
theorem e_Mod_power_12 : decode M_Mod_power.2.1 12 = .ok (.isub, 1) := by decide +kernel
theorem e_Mod_power_13 : decode M_Mod_power.2.1 13 = .ok (.invokestatic 312, 3) := by decide +kernel
theorem e_Mod_power_16 : decode M_Mod_power.2.1 16 = .ok (.ifCond .eq 13, 3) := by decide +kernel
theorem e_Mod_power_19 : decode M_Mod_power.2.1 19 = .ok (.aload_n 0, 1) := by decide +kernel
theorem e_Mod_power_20 : decode M_Mod_power.2.1 20 = .ok (.iconst 0, 1) := by decide +kernel
theorem e_Mod_power_21 : decode M_Mod_power.2.1 21 = .ok (.iload_n 1, 1) := by decide +kernel
theorem e_Mod_power_22 : decode M_Mod_power.2.1 22 = .ok (.invokevirtual 205, 3) := by decide +kernel
theorem e_Mod_power_25 : decode M_Mod_power.2.1 25 = .ok (.iload_n 2, 1) := by decide +kernel
theorem e_Mod_power_26 : decode M_Mod_power.2.1 26 = .ok (.if_icmp .ne 9, 3) := by decide +kernel
theorem e_Mod_power_29 : decode M_Mod_power.2.1 29 = .ok (.aload_n 0, 1) := by decide +kernel
theorem e_Mod_power_30 : decode M_Mod_power.2.1 30 = .ok (.iconst 1, 1) := by decide +kernel
theorem e_Mod_power_31 : decode M_Mod_power.2.1 31 = .ok (.invokevirtual 413, 3) := by decide +kernel
theorem e_Mod_power_34 : decode M_Mod_power.2.1 34 = .ok (.ireturn, 1) := by decide +kernel
theorem e_Mod_power_35 : decode M_Mod_power.2.1 35 = .ok (.aload_n 0, 1) := by decide +kernel
theorem e_Mod_power_36 : decode M_Mod_power.2.1 36 = .ok (.invokevirtual 416, 3) := by decide +kernel
theorem e_Mod_power_39 : decode M_Mod_power.2.1 39 = .ok (.aload_n 0, 1) := by decide +kernel
theorem e_Mod_power_40 : decode M_Mod_power.2.1 40 = .ok (.iconst 0, 1) := by decide +kernel
theorem e_Mod_power_41 : decode M_Mod_power.2.1 41 = .ok (.iload_n 1, 1) := by decide +kernel
theorem e_Mod_power_42 : decode M_Mod_power.2.1 42 = .ok (.iload_n 2, 1) := by decide +kernel
theorem e_Mod_power_43 : decode M_Mod_power.2.1 43 = .ok (.invokevirtual 422, 3) := by decide +kernel
theorem e_Mod_power_46 : decode M_Mod_power.2.1 46 = .ok (.aload_n 0, 1) := by decide +kernel
theorem e_Mod_power_47 : decode M_Mod_power.2.1 47 = .ok (.getfield 9, 3) := by decide +kernel
theorem e_Mod_power_50 : decode M_Mod_power.2.1 50 = .ok (.sipush 205, 3) := by decide +kernel
theorem e_Mod_power_53 : decode M_Mod_power.2.1 53 = .ok (.iaload, 1) := by decide +kernel
theorem e_Mod_power_54 : decode M_Mod_power.2.1 54 = .ok (.ireturn, 1) := by decide +kernel
theorem e_Mod_isOn_0 : decode M_Mod_isOn.2.1 0 = .ok (.aload_n 0, 1) := by decide +kernel
theorem e_Mod_isOn_1 : decode M_Mod_isOn.2.1 1 = .ok (.getfield 9, 3) := by decide +kernel
theorem e_Mod_isOn_4 : decode M_Mod_isOn.2.1 4 = .ok (.iload_n 1, 1) := by decide +kernel
theorem e_Mod_isOn_5 : decode M_Mod_isOn.2.1 5 = .ok (.sipush 205, 3) := by decide +kernel
theorem e_Mod_isOn_8 : decode M_Mod_isOn.2.1 8 = .ok (.iadd, 1) := by decide +kernel
theorem e_Mod_isOn_9 : decode M_Mod_isOn.2.1 9 = .ok (.iaload, 1) := by decide +kernel
theorem e_Mod_isOn_10 : decode M_Mod_isOn.2.1 10 = .ok (.iload_n 2, 1) := by decide +kernel
theorem e_Mod_isOn_11 : decode M_Mod_isOn.2.1 11 = .ok (.ishr, 1) := by decide +kernel
theorem e_Mod_isOn_12 : decode M_Mod_isOn.2.1 12 = .ok (.iconst 1, 1) := by decide +kernel
theorem e_Mod_isOn_13 : decode M_Mod_isOn.2.1 13 = .ok (.iand, 1) := by decide +kernel
theorem e_Mod_isOn_14 : decode M_Mod_isOn.2.1 14 = .ok (.iconst 1, 1) := by decide +kernel
theorem e_Mod_isOn_15 : decode M_Mod_isOn.2.1 15 = .ok (.if_icmp .ne 7, 3) := by decide +kernel
theorem e_Mod_isOn_18 : decode M_Mod_isOn.2.1 18 = .ok (.iconst 1, 1) := by decide +kernel
theorem e_Mod_isOn_19 : decode M_Mod_isOn.2.1 19 = .ok (.goto 4, 3) := by decide +kernel
theorem e_Mod_isOn_22 : decode M_Mod_isOn.2.1 22 = .ok (.iconst 0, 1) := by decide +kernel
theorem e_Mod_isOn_23 : decode M_Mod_isOn.2.1 23 = .ok (.ireturn, 1) := by decide +kernel
theorem e_Mod_powers_0 : decode M_Mod_powers.2.1 0 = .ok (.iload_n 3, 1) := by decide +kernel
theorem e_Mod_powers_1 : decode M_Mod_powers.2.1 1 = .ok (.ifCond .eq 20, 3) := by decide +kernel
theorem e_Mod_powers_4 : decode M_Mod_powers.2.1 4 = .ok (.aload_n 0, 1) := by decide +kernel
theorem e_Mod_powers_5 : decode M_Mod_powers.2.1 5 = .ok (.getfield 9, 3) := by decide +kernel
theorem e_Mod_powers_8 : decode M_Mod_powers.2.1 8 = .ok (.iload_n 1, 1) := by decide +kernel
theorem e_Mod_powers_9 : decode M_Mod_powers.2.1 9 = .ok (.sipush 205, 3) := by decide +kernel
theorem e_Mod_powers_12 : decode M_Mod_powers.2.1 12 = .ok (.iadd, 1) := by decide +kernel
theorem e_Mod_powers_13 : decode M_Mod_powers.2.1 13 = .ok (.dup2, 1) := by decide +kernel
theorem e_Mod_powers_14 : decode M_Mod_powers.2.1 14 = .ok (.iaload, 1) := by decide +kernel
theorem e_Mod_powers_15 : decode M_Mod_powers.2.1 15 = .ok (.iconst 1, 1) := by decide +kernel
theorem e_Mod_powers_16 : decode M_Mod_powers.2.1 16 = .ok (.iload_n 2, 1) := by decide +kernel
theorem e_Mod_powers_17 : decode M_Mod_powers.2.1 17 = .ok (.ishl, 1) := by decide +kernel
theorem e_Mod_powers_18 : decode M_Mod_powers.2.1 18 = .ok (.ior, 1) := by decide +kernel
theorem e_Mod_powers_19 : decode M_Mod_powers.2.1 19 = .ok (.iastore, 1) := by decide +kernel
theorem e_Mod_powers_20 : decode M_Mod_powers.2.1 20 = .ok (.return_, 1) := by decide +kernel
theorem e_Mod_powers_21 : decode M_Mod_powers.2.1 21 = .ok (.aload_n 0, 1) := by decide +kernel
theorem e_Mod_powers_22 : decode M_Mod_powers.2.1 22 = .ok (.getfield 9, 3) := by decide +kernel
theorem e_Mod_powers_25 : decode M_Mod_powers.2.1 25 = .ok (.iload_n 1, 1) := by decide +kernel
theorem e_Mod_powers_26 : decode M_Mod_powers.2.1 26 = .ok (.sipush 205, 3) := by decide +kernel
theorem e_Mod_powers_29 : decode M_Mod_powers.2.1 29 = .ok (.iadd, 1) := by decide +kernel
theorem e_Mod_powers_30 : decode M_Mod_powers.2.1 30 = .ok (.dup2, 1) := by decide +kernel
theorem e_Mod_powers_31 : decode M_Mod_powers.2.1 31 = .ok (.iaload, 1) := by decide +kernel
theorem e_Mod_powers_32 : decode M_Mod_powers.2.1 32 = .ok (.iconst 1, 1) := by decide +kernel
theorem e_Mod_powers_33 : decode M_Mod_powers.2.1 33 = .ok (.iload_n 2, 1) := by decide +kernel
theorem e_Mod_powers_34 : decode M_Mod_powers.2.1 34 = .ok (.ishl, 1) := by decide +kernel
theorem e_Mod_powers_35 : decode M_Mod_powers.2.1 35 = .ok (.iconst (-1), 1) := by decide +kernel
theorem e_Mod_powers_36 : decode M_Mod_powers.2.1 36 = .ok (.ixor, 1) := by decide +kernel
theorem e_Mod_powers_37 : decode M_Mod_powers.2.1 37 = .ok (.iand, 1) := by decide +kernel
theorem e_Mod_powers_38 : decode M_Mod_powers.2.1 38 = .ok (.iastore, 1) := by decide +kernel
theorem e_Mod_powers_39 : decode M_Mod_powers.2.1 39 = .ok (.aload_n 0, 1) := by decide +kernel
theorem e_Mod_powers_40 : decode M_Mod_powers.2.1 40 = .ok (.getfield 9, 3) := by decide +kernel
theorem e_Mod_powers_43 : decode M_Mod_powers.2.1 43 = .ok (.iload_n 1, 1) := by decide +kernel
theorem e_Mod_powers_44 : decode M_Mod_powers.2.1 44 = .ok (.sipush 206, 3) := by decide +kernel
theorem e_Mod_powers_47 : decode M_Mod_powers.2.1 47 = .ok (.iadd, 1) := by decide +kernel
theorem e_Mod_powers_48 : decode M_Mod_powers.2.1 48 = .ok (.iaload, 1) := by decide +kernel
theorem e_Mod_powers_49 : decode M_Mod_powers.2.1 49 = .ok (.iload_n 2, 1) := by decide +kernel
theorem e_Mod_powers_50 : decode M_Mod_powers.2.1 50 = .ok (.if_icmp .eq 4, 3) := by decide +kernel
theorem e_Mod_powers_53 : decode M_Mod_powers.2.1 53 = .ok (.return_, 1) := by decide +kernel
theorem e_Mod_powers_54 : decode M_Mod_powers.2.1 54 = .ok (.aload_n 0, 1) := by decide +kernel
theorem e_Mod_powers_55 : decode M_Mod_powers.2.1 55 = .ok (.getfield 9, 3) := by decide +kernel
theorem e_Mod_powers_58 : decode M_Mod_powers.2.1 58 = .ok (.iload_n 1, 1) := by decide +kernel
theorem e_Mod_powers_59 : decode M_Mod_powers.2.1 59 = .ok (.sipush 206, 3) := by decide +kernel
theorem e_Mod_powers_62 : decode M_Mod_powers.2.1 62 = .ok (.iadd, 1) := by decide +kernel
theorem e_Mod_powers_63 : decode M_Mod_powers.2.1 63 = .ok (.iconst (-1), 1) := by decide +kernel
theorem e_Mod_powers_64 : decode M_Mod_powers.2.1 64 = .ok (.iastore, 1) := by decide +kernel
theorem e_Mod_powers_65 : decode M_Mod_powers.2.1 65 = .ok (.aload_n 0, 1) := by decide +kernel
theorem e_Mod_powers_66 : decode M_Mod_powers.2.1 66 = .ok (.getfield 9, 3) := by decide +kernel
theorem e_Mod_powers_69 : decode M_Mod_powers.2.1 69 = .ok (.iload_n 1, 1) := by decide +kernel
theorem e_Mod_powers_70 : decode M_Mod_powers.2.1 70 = .ok (.sipush 207, 3) := by decide +kernel
theorem e_Mod_powers_73 : decode M_Mod_powers.2.1 73 = .ok (.iadd, 1) := by decide +kernel
theorem e_Mod_powers_74 : decode M_Mod_powers.2.1 74 = .ok (.aload_n 0, 1) := by decide +kernel
theorem e_Mod_powers_75 : decode M_Mod_powers.2.1 75 = .ok (.getfield 71, 3) := by decide +kernel
theorem e_Mod_powers_78 : decode M_Mod_powers.2.1 78 = .ok (.iastore, 1) := by decide +kernel
theorem e_Mod_powers_79 : decode M_Mod_powers.2.1 79 = .ok (.return_, 1) := by decide +kernel
theorem e_Mod_broken_0 : decode M_Mod_broken.2.1 0 = .ok (.aload_n 0, 1) := by decide +kernel
theorem e_Mod_broken_1 : decode M_Mod_broken.2.1 1 = .ok (.iconst 0, 1) := by decide +kernel
theorem e_Mod_broken_2 : decode M_Mod_broken.2.1 2 = .ok (.putfield 159, 3) := by decide +kernel
theorem e_Mod_broken_5 : decode M_Mod_broken.2.1 5 = .ok (.iload_n 1, 1) := by decide +kernel
theorem e_Mod_broken_6 : decode M_Mod_broken.2.1 6 = .ok (.iconst 0, 1) := by decide +kernel
theorem e_Mod_broken_7 : decode M_Mod_broken.2.1 7 = .ok (.iconst 3, 1) := by decide +kernel
theorem e_Mod_broken_8 : decode M_Mod_broken.2.1 8 = .ok (.invokestatic 312, 3) := by decide +kernel
theorem e_Mod_broken_11 : decode M_Mod_broken.2.1 11 = .ok (.ifCond .eq 27, 3) := by decide +kernel
theorem e_Mod_broken_14 : decode M_Mod_broken.2.1 14 = .ok (.aload_n 0, 1) := by decide +kernel
theorem e_Mod_broken_15 : decode M_Mod_broken.2.1 15 = .ok (.getfield 9, 3) := by decide +kernel
theorem e_Mod_broken_18 : decode M_Mod_broken.2.1 18 = .ok (.sipush 204, 3) := by decide +kernel
theorem e_Mod_broken_21 : decode M_Mod_broken.2.1 21 = .ok (.iaload, 1) := by decide +kernel
theorem e_Mod_broken_22 : decode M_Mod_broken.2.1 22 = .ok (.iload_n 1, 1) := by decide +kernel
theorem e_Mod_broken_23 : decode M_Mod_broken.2.1 23 = .ok (.ishr, 1) := by decide +kernel
theorem e_Mod_broken_24 : decode M_Mod_broken.2.1 24 = .ok (.iconst 1, 1) := by decide +kernel
theorem e_Mod_broken_25 : decode M_Mod_broken.2.1 25 = .ok (.iand, 1) := by decide +kernel
theorem e_Mod_broken_26 : decode M_Mod_broken.2.1 26 = .ok (.iload_n 2, 1) := by decide +kernel
theorem e_Mod_broken_27 : decode M_Mod_broken.2.1 27 = .ok (.ifCond .eq 7, 3) := by decide +kernel
theorem e_Mod_broken_30 : decode M_Mod_broken.2.1 30 = .ok (.iconst 1, 1) := by decide +kernel
theorem e_Mod_broken_31 : decode M_Mod_broken.2.1 31 = .ok (.goto 4, 3) := by decide +kernel
theorem e_Mod_broken_34 : decode M_Mod_broken.2.1 34 = .ok (.iconst 0, 1) := by decide +kernel
theorem e_Mod_broken_35 : decode M_Mod_broken.2.1 35 = .ok (.if_icmp .ne 9, 3) := by decide +kernel
theorem e_Mod_broken_38 : decode M_Mod_broken.2.1 38 = .ok (.aload_n 0, 1) := by decide +kernel
theorem e_Mod_broken_39 : decode M_Mod_broken.2.1 39 = .ok (.iconst 1, 1) := by decide +kernel
theorem e_Mod_broken_40 : decode M_Mod_broken.2.1 40 = .ok (.invokevirtual 413, 3) := by decide +kernel
theorem e_Mod_broken_43 : decode M_Mod_broken.2.1 43 = .ok (.ireturn, 1) := by decide +kernel
theorem e_Mod_broken_44 : decode M_Mod_broken.2.1 44 = .ok (.aload_n 0, 1) := by decide +kernel
theorem e_Mod_broken_45 : decode M_Mod_broken.2.1 45 = .ok (.invokevirtual 416, 3) := by decide +kernel
theorem e_Mod_broken_48 : decode M_Mod_broken.2.1 48 = .ok (.aload_n 0, 1) := by decide +kernel
theorem e_Mod_broken_49 : decode M_Mod_broken.2.1 49 = .ok (.getfield 9, 3) := by decide +kernel
theorem e_Mod_broken_52 : decode M_Mod_broken.2.1 52 = .ok (.sipush 204, 3) := by decide +kernel
theorem e_Mod_broken_55 : decode M_Mod_broken.2.1 55 = .ok (.dup2, 1) := by decide +kernel
theorem e_Mod_broken_56 : decode M_Mod_broken.2.1 56 = .ok (.iaload, 1) := by decide +kernel
theorem e_Mod_broken_57 : decode M_Mod_broken.2.1 57 = .ok (.iconst 1, 1) := by decide +kernel
theorem e_Mod_broken_58 : decode M_Mod_broken.2.1 58 = .ok (.iload_n 1, 1) := by decide +kernel
theorem e_Mod_broken_59 : decode M_Mod_broken.2.1 59 = .ok (.ishl, 1) := by decide +kernel
theorem e_Mod_broken_60 : decode M_Mod_broken.2.1 60 = .ok (.ixor, 1) := by decide +kernel
theorem e_Mod_broken_61 : decode M_Mod_broken.2.1 61 = .ok (.iastore, 1) := by decide +kernel
theorem e_Mod_broken_62 : decode M_Mod_broken.2.1 62 = .ok (.aload_n 0, 1) := by decide +kernel
theorem e_Mod_broken_63 : decode M_Mod_broken.2.1 63 = .ok (.getfield 9, 3) := by decide +kernel
theorem e_Mod_broken_66 : decode M_Mod_broken.2.1 66 = .ok (.sipush 204, 3) := by decide +kernel
theorem e_Mod_broken_69 : decode M_Mod_broken.2.1 69 = .ok (.iaload, 1) := by decide +kernel
theorem e_Mod_broken_70 : decode M_Mod_broken.2.1 70 = .ok (.ireturn, 1) := by decide +kernel
theorem e_Mod_cycles_0 : decode M_Mod_cycles.2.1 0 = .ok (.aload_n 0, 1) := by decide +kernel
theorem e_Mod_cycles_1 : decode M_Mod_cycles.2.1 1 = .ok (.iconst 0, 1) := by decide +kernel
theorem e_Mod_cycles_2 : decode M_Mod_cycles.2.1 2 = .ok (.putfield 159, 3) := by decide +kernel
theorem e_Mod_cycles_5 : decode M_Mod_cycles.2.1 5 = .ok (.iload_n 1, 1) := by decide +kernel
theorem e_Mod_cycles_6 : decode M_Mod_cycles.2.1 6 = .ok (.iconst 1, 1) := by decide +kernel
theorem e_Mod_cycles_7 : decode M_Mod_cycles.2.1 7 = .ok (.bipush 30, 2) := by decide +kernel
theorem e_Mod_cycles_9 : decode M_Mod_cycles.2.1 9 = .ok (.invokestatic 312, 3) := by decide +kernel
theorem e_Mod_cycles_12 : decode M_Mod_cycles.2.1 12 = .ok (.ifCond .eq 19, 3) := by decide +kernel
theorem e_Mod_cycles_15 : decode M_Mod_cycles.2.1 15 = .ok (.aload_n 0, 1) := by decide +kernel
theorem e_Mod_cycles_16 : decode M_Mod_cycles.2.1 16 = .ok (.getfield 9, 3) := by decide +kernel
theorem e_Mod_cycles_19 : decode M_Mod_cycles.2.1 19 = .ok (.sipush 208, 3) := by decide +kernel
theorem e_Mod_cycles_22 : decode M_Mod_cycles.2.1 22 = .ok (.iaload, 1) := by decide +kernel
theorem e_Mod_cycles_23 : decode M_Mod_cycles.2.1 23 = .ok (.iload_n 1, 1) := by decide +kernel
theorem e_Mod_cycles_24 : decode M_Mod_cycles.2.1 24 = .ok (.iadd, 1) := by decide +kernel
theorem e_Mod_cycles_25 : decode M_Mod_cycles.2.1 25 = .ok (.sipush 2000, 3) := by decide +kernel
theorem e_Mod_cycles_28 : decode M_Mod_cycles.2.1 28 = .ok (.if_icmp .le 9, 3) := by decide +kernel
theorem e_Mod_cycles_31 : decode M_Mod_cycles.2.1 31 = .ok (.aload_n 0, 1) := by decide +kernel
theorem e_Mod_cycles_32 : decode M_Mod_cycles.2.1 32 = .ok (.iconst 1, 1) := by decide +kernel
theorem e_Mod_cycles_33 : decode M_Mod_cycles.2.1 33 = .ok (.invokevirtual 413, 3) := by decide +kernel
theorem e_Mod_cycles_36 : decode M_Mod_cycles.2.1 36 = .ok (.ireturn, 1) := by decide +kernel
theorem e_Mod_cycles_37 : decode M_Mod_cycles.2.1 37 = .ok (.aload_n 0, 1) := by decide +kernel
theorem e_Mod_cycles_38 : decode M_Mod_cycles.2.1 38 = .ok (.invokevirtual 416, 3) := by decide +kernel
theorem e_Mod_cycles_41 : decode M_Mod_cycles.2.1 41 = .ok (.aload_n 0, 1) := by decide +kernel
theorem e_Mod_cycles_42 : decode M_Mod_cycles.2.1 42 = .ok (.iconst 0, 1) := by decide +kernel
theorem e_Mod_cycles_43 : decode M_Mod_cycles.2.1 43 = .ok (.iload_n 1, 1) := by decide +kernel
theorem e_Mod_cycles_44 : decode M_Mod_cycles.2.1 44 = .ok (.invokevirtual 426, 3) := by decide +kernel
theorem e_Mod_cycles_47 : decode M_Mod_cycles.2.1 47 = .ok (.aload_n 0, 1) := by decide +kernel
theorem e_Mod_cycles_48 : decode M_Mod_cycles.2.1 48 = .ok (.getfield 9, 3) := by decide +kernel
theorem e_Mod_cycles_51 : decode M_Mod_cycles.2.1 51 = .ok (.sipush 208, 3) := by decide +kernel
theorem e_Mod_cycles_54 : decode M_Mod_cycles.2.1 54 = .ok (.iaload, 1) := by decide +kernel
theorem e_Mod_cycles_55 : decode M_Mod_cycles.2.1 55 = .ok (.ireturn, 1) := by decide +kernel
theorem e_Mod_goes_0 : decode M_Mod_goes.2.1 0 = .ok (.iconst 0, 1) := by decide +kernel
theorem e_Mod_goes_1 : decode M_Mod_goes.2.1 1 = .ok (.istore_n 3, 1) := by decide +kernel
