theorem dX12_init_0 : decode cX12_init 0 = .ok (.aload_n 0, 1) := by decide +kernel
theorem dX12_init_1 : decode cX12_init 1 = .ok (.invokespecial 1, 3) := by decide +kernel
theorem dX12_init_4 : decode cX12_init 4 = .ok (.aload_n 0, 1) := by decide +kernel
theorem dX12_init_5 : decode cX12_init 5 = .ok (.bipush 24, 2) := by decide +kernel
theorem dX12_init_7 : decode cX12_init 7 = .ok (.newarray .int, 2) := by decide +kernel
theorem dX12_init_9 : decode cX12_init 9 = .ok (.putfield 7, 3) := by decide +kernel
theorem dX12_init_12 : decode cX12_init 12 = .ok (.aload_n 0, 1) := by decide +kernel
theorem dX12_init_13 : decode cX12_init 13 = .ok (.bipush 6, 2) := by decide +kernel
theorem dX12_init_15 : decode cX12_init 15 = .ok (.newarray .int, 2) := by decide +kernel
theorem dX12_init_17 : decode cX12_init 17 = .ok (.dup, 1) := by decide +kernel
theorem dX12_init_18 : decode cX12_init 18 = .ok (.iconst 0, 1) := by decide +kernel
theorem dX12_init_19 : decode cX12_init 19 = .ok (.bipush 16, 2) := by decide +kernel
theorem dX12_init_21 : decode cX12_init 21 = .ok (.iastore, 1) := by decide +kernel
theorem dX12_init_22 : decode cX12_init 22 = .ok (.dup, 1) := by decide +kernel
theorem dX12_init_23 : decode cX12_init 23 = .ok (.iconst 1, 1) := by decide +kernel
theorem dX12_init_24 : decode cX12_init 24 = .ok (.bipush 8, 2) := by decide +kernel
theorem dX12_init_26 : decode cX12_init 26 = .ok (.iastore, 1) := by decide +kernel
theorem dX12_init_27 : decode cX12_init 27 = .ok (.dup, 1) := by decide +kernel
theorem dX12_init_28 : decode cX12_init 28 = .ok (.iconst 2, 1) := by decide +kernel
theorem dX12_init_29 : decode cX12_init 29 = .ok (.bipush 24, 2) := by decide +kernel
theorem dX12_init_31 : decode cX12_init 31 = .ok (.iastore, 1) := by decide +kernel
theorem dX12_init_32 : decode cX12_init 32 = .ok (.dup, 1) := by decide +kernel
theorem dX12_init_33 : decode cX12_init 33 = .ok (.iconst 3, 1) := by decide +kernel
theorem dX12_init_34 : decode cX12_init 34 = .ok (.bipush 20, 2) := by decide +kernel
theorem dX12_init_36 : decode cX12_init 36 = .ok (.iastore, 1) := by decide +kernel
theorem dX12_init_37 : decode cX12_init 37 = .ok (.dup, 1) := by decide +kernel
theorem dX12_init_38 : decode cX12_init 38 = .ok (.iconst 4, 1) := by decide +kernel
theorem dX12_init_39 : decode cX12_init 39 = .ok (.bipush 12, 2) := by decide +kernel
theorem dX12_init_41 : decode cX12_init 41 = .ok (.iastore, 1) := by decide +kernel
theorem dX12_init_42 : decode cX12_init 42 = .ok (.dup, 1) := by decide +kernel
theorem dX12_init_43 : decode cX12_init 43 = .ok (.iconst 5, 1) := by decide +kernel
theorem dX12_init_44 : decode cX12_init 44 = .ok (.bipush 32, 2) := by decide +kernel
theorem dX12_init_46 : decode cX12_init 46 = .ok (.iastore, 1) := by decide +kernel
theorem dX12_init_47 : decode cX12_init 47 = .ok (.putfield 13, 3) := by decide +kernel
theorem dX12_init_50 : decode cX12_init 50 = .ok (.aload_n 0, 1) := by decide +kernel
theorem dX12_init_51 : decode cX12_init 51 = .ok (.iconst 5, 1) := by decide +kernel
theorem dX12_init_52 : decode cX12_init 52 = .ok (.newarray .int, 2) := by decide +kernel
theorem dX12_init_54 : decode cX12_init 54 = .ok (.dup, 1) := by decide +kernel
theorem dX12_init_55 : decode cX12_init 55 = .ok (.iconst 0, 1) := by decide +kernel
theorem dX12_init_56 : decode cX12_init 56 = .ok (.iconst 0, 1) := by decide +kernel
theorem dX12_init_57 : decode cX12_init 57 = .ok (.iastore, 1) := by decide +kernel
theorem dX12_init_58 : decode cX12_init 58 = .ok (.dup, 1) := by decide +kernel
theorem dX12_init_59 : decode cX12_init 59 = .ok (.iconst 1, 1) := by decide +kernel
theorem dX12_init_60 : decode cX12_init 60 = .ok (.iconst 0, 1) := by decide +kernel
theorem dX12_init_61 : decode cX12_init 61 = .ok (.iastore, 1) := by decide +kernel
theorem dX12_init_62 : decode cX12_init 62 = .ok (.dup, 1) := by decide +kernel
theorem dX12_init_63 : decode cX12_init 63 = .ok (.iconst 2, 1) := by decide +kernel
theorem dX12_init_64 : decode cX12_init 64 = .ok (.iconst 1, 1) := by decide +kernel
theorem dX12_init_65 : decode cX12_init 65 = .ok (.iastore, 1) := by decide +kernel
theorem dX12_init_66 : decode cX12_init 66 = .ok (.dup, 1) := by decide +kernel
theorem dX12_init_67 : decode cX12_init 67 = .ok (.iconst 3, 1) := by decide +kernel
theorem dX12_init_68 : decode cX12_init 68 = .ok (.iconst 0, 1) := by decide +kernel
theorem dX12_init_69 : decode cX12_init 69 = .ok (.iastore, 1) := by decide +kernel
theorem dX12_init_70 : decode cX12_init 70 = .ok (.dup, 1) := by decide +kernel
theorem dX12_init_71 : decode cX12_init 71 = .ok (.iconst 4, 1) := by decide +kernel
theorem dX12_init_72 : decode cX12_init 72 = .ok (.iconst 0, 1) := by decide +kernel
theorem dX12_init_73 : decode cX12_init 73 = .ok (.iastore, 1) := by decide +kernel
theorem dX12_init_74 : decode cX12_init 74 = .ok (.putfield 16, 3) := by decide +kernel
theorem dX12_init_77 : decode cX12_init 77 = .ok (.aload_n 0, 1) := by decide +kernel
theorem dX12_init_78 : decode cX12_init 78 = .ok (.bipush 10, 2) := by decide +kernel
theorem dX12_init_80 : decode cX12_init 80 = .ok (.newarray .int, 2) := by decide +kernel
theorem dX12_init_82 : decode cX12_init 82 = .ok (.dup, 1) := by decide +kernel
theorem dX12_init_83 : decode cX12_init 83 = .ok (.iconst 0, 1) := by decide +kernel
theorem dX12_init_84 : decode cX12_init 84 = .ok (.iconst 0, 1) := by decide +kernel
theorem dX12_init_85 : decode cX12_init 85 = .ok (.iastore, 1) := by decide +kernel
theorem dX12_init_86 : decode cX12_init 86 = .ok (.dup, 1) := by decide +kernel
theorem dX12_init_87 : decode cX12_init 87 = .ok (.iconst 1, 1) := by decide +kernel
theorem dX12_init_88 : decode cX12_init 88 = .ok (.sipush 174, 3) := by decide +kernel
theorem dX12_init_91 : decode cX12_init 91 = .ok (.iastore, 1) := by decide +kernel
theorem dX12_init_92 : decode cX12_init 92 = .ok (.dup, 1) := by decide +kernel
theorem dX12_init_93 : decode cX12_init 93 = .ok (.iconst 2, 1) := by decide +kernel
theorem dX12_init_94 : decode cX12_init 94 = .ok (.sipush 342, 3) := by decide +kernel
theorem dX12_init_97 : decode cX12_init 97 = .ok (.iastore, 1) := by decide +kernel
theorem dX12_init_98 : decode cX12_init 98 = .ok (.dup, 1) := by decide +kernel
theorem dX12_init_99 : decode cX12_init 99 = .ok (.iconst 3, 1) := by decide +kernel
theorem dX12_init_100 : decode cX12_init 100 = .ok (.sipush 500, 3) := by decide +kernel
theorem dX12_init_103 : decode cX12_init 103 = .ok (.iastore, 1) := by decide +kernel
theorem dX12_init_104 : decode cX12_init 104 = .ok (.dup, 1) := by decide +kernel
theorem dX12_init_105 : decode cX12_init 105 = .ok (.iconst 4, 1) := by decide +kernel
theorem dX12_init_106 : decode cX12_init 106 = .ok (.sipush 643, 3) := by decide +kernel
theorem dX12_init_109 : decode cX12_init 109 = .ok (.iastore, 1) := by decide +kernel
theorem dX12_init_110 : decode cX12_init 110 = .ok (.dup, 1) := by decide +kernel
theorem dX12_init_111 : decode cX12_init 111 = .ok (.iconst 5, 1) := by decide +kernel
theorem dX12_init_112 : decode cX12_init 112 = .ok (.sipush 766, 3) := by decide +kernel
theorem dX12_init_115 : decode cX12_init 115 = .ok (.iastore, 1) := by decide +kernel
theorem dX12_init_116 : decode cX12_init 116 = .ok (.dup, 1) := by decide +kernel
theorem dX12_init_117 : decode cX12_init 117 = .ok (.bipush 6, 2) := by decide +kernel
theorem dX12_init_119 : decode cX12_init 119 = .ok (.sipush 866, 3) := by decide +kernel
theorem dX12_init_122 : decode cX12_init 122 = .ok (.iastore, 1) := by decide +kernel
theorem dX12_init_123 : decode cX12_init 123 = .ok (.dup, 1) := by decide +kernel
theorem dX12_init_124 : decode cX12_init 124 = .ok (.bipush 7, 2) := by decide +kernel
theorem dX12_init_126 : decode cX12_init 126 = .ok (.sipush 940, 3) := by decide +kernel
theorem dX12_init_129 : decode cX12_init 129 = .ok (.iastore, 1) := by decide +kernel
theorem dX12_init_130 : decode cX12_init 130 = .ok (.dup, 1) := by decide +kernel
theorem dX12_init_131 : decode cX12_init 131 = .ok (.bipush 8, 2) := by decide +kernel
theorem dX12_init_133 : decode cX12_init 133 = .ok (.sipush 985, 3) := by decide +kernel
theorem dX12_init_136 : decode cX12_init 136 = .ok (.iastore, 1) := by decide +kernel
theorem dX12_init_137 : decode cX12_init 137 = .ok (.dup, 1) := by decide +kernel
theorem dX12_init_138 : decode cX12_init 138 = .ok (.bipush 9, 2) := by decide +kernel
theorem dX12_init_140 : decode cX12_init 140 = .ok (.sipush 1000, 3) := by decide +kernel
theorem dX12_init_143 : decode cX12_init 143 = .ok (.iastore, 1) := by decide +kernel
theorem dX12_init_144 : decode cX12_init 144 = .ok (.putfield 19, 3) := by decide +kernel
theorem dX12_init_147 : decode cX12_init 147 = .ok (.aload_n 0, 1) := by decide +kernel
theorem dX12_init_148 : decode cX12_init 148 = .ok (.iconst 1, 1) := by decide +kernel
theorem dX12_init_149 : decode cX12_init 149 = .ok (.putfield 22, 3) := by decide +kernel
theorem dX12_init_152 : decode cX12_init 152 = .ok (.aload_n 0, 1) := by decide +kernel
theorem dX12_init_153 : decode cX12_init 153 = .ok (.bipush 8, 2) := by decide +kernel
theorem dX12_init_155 : decode cX12_init 155 = .ok (.newarray .int, 2) := by decide +kernel
theorem dX12_init_157 : decode cX12_init 157 = .ok (.dup, 1) := by decide +kernel
theorem dX12_init_158 : decode cX12_init 158 = .ok (.iconst 0, 1) := by decide +kernel
theorem dX12_init_159 : decode cX12_init 159 = .ok (.iconst (-1), 1) := by decide +kernel
theorem dX12_init_160 : decode cX12_init 160 = .ok (.iastore, 1) := by decide +kernel
theorem dX12_init_161 : decode cX12_init 161 = .ok (.dup, 1) := by decide +kernel
theorem dX12_init_162 : decode cX12_init 162 = .ok (.iconst 1, 1) := by decide +kernel
theorem dX12_init_163 : decode cX12_init 163 = .ok (.iconst 0, 1) := by decide +kernel
theorem dX12_init_164 : decode cX12_init 164 = .ok (.iastore, 1) := by decide +kernel
theorem dX12_init_165 : decode cX12_init 165 = .ok (.dup, 1) := by decide +kernel
theorem dX12_init_166 : decode cX12_init 166 = .ok (.iconst 2, 1) := by decide +kernel
theorem dX12_init_167 : decode cX12_init 167 = .ok (.iconst 0, 1) := by decide +kernel
theorem dX12_init_168 : decode cX12_init 168 = .ok (.iastore, 1) := by decide +kernel
theorem dX12_init_169 : decode cX12_init 169 = .ok (.dup, 1) := by decide +kernel
theorem dX12_init_170 : decode cX12_init 170 = .ok (.iconst 3, 1) := by decide +kernel
theorem dX12_init_171 : decode cX12_init 171 = .ok (.iconst 0, 1) := by decide +kernel
theorem dX12_init_172 : decode cX12_init 172 = .ok (.iastore, 1) := by decide +kernel
theorem dX12_init_173 : decode cX12_init 173 = .ok (.dup, 1) := by decide +kernel
theorem dX12_init_174 : decode cX12_init 174 = .ok (.iconst 4, 1) := by decide +kernel
theorem dX12_init_175 : decode cX12_init 175 = .ok (.iconst 0, 1) := by decide +kernel
theorem dX12_init_176 : decode cX12_init 176 = .ok (.iastore, 1) := by decide +kernel
theorem dX12_init_177 : decode cX12_init 177 = .ok (.dup, 1) := by decide +kernel
theorem dX12_init_178 : decode cX12_init 178 = .ok (.iconst 5, 1) := by decide +kernel
theorem dX12_init_179 : decode cX12_init 179 = .ok (.iconst 0, 1) := by decide +kernel
theorem dX12_init_180 : decode cX12_init 180 = .ok (.iastore, 1) := by decide +kernel
theorem dX12_init_181 : decode cX12_init 181 = .ok (.dup, 1) := by decide +kernel
theorem dX12_init_182 : decode cX12_init 182 = .ok (.bipush 6, 2) := by decide +kernel
theorem dX12_init_184 : decode cX12_init 184 = .ok (.iconst 0, 1) := by decide +kernel
theorem dX12_init_185 : decode cX12_init 185 = .ok (.iastore, 1) := by decide +kernel
theorem dX12_init_186 : decode cX12_init 186 = .ok (.dup, 1) := by decide +kernel
theorem dX12_init_187 : decode cX12_init 187 = .ok (.bipush 7, 2) := by decide +kernel
theorem dX12_init_189 : decode cX12_init 189 = .ok (.iconst 0, 1) := by decide +kernel
theorem dX12_init_190 : decode cX12_init 190 = .ok (.iastore, 1) := by decide +kernel
theorem dX12_init_191 : decode cX12_init 191 = .ok (.putfield 26, 3) := by decide +kernel
theorem dX12_init_194 : decode cX12_init 194 = .ok (.aload_n 0, 1) := by decide +kernel
theorem dX12_init_195 : decode cX12_init 195 = .ok (.sipush 200, 3) := by decide +kernel
theorem dX12_init_198 : decode cX12_init 198 = .ok (.newarray .int, 2) := by decide +kernel
theorem dX12_init_200 : decode cX12_init 200 = .ok (.putfield 29, 3) := by decide +kernel
theorem dX12_init_203 : decode cX12_init 203 = .ok (.aload_n 0, 1) := by decide +kernel
theorem dX12_init_204 : decode cX12_init 204 = .ok (.bipush 24, 2) := by decide +kernel
theorem dX12_init_206 : decode cX12_init 206 = .ok (.newarray .int, 2) := by decide +kernel
theorem dX12_init_208 : decode cX12_init 208 = .ok (.putfield 32, 3) := by decide +kernel
theorem dX12_init_211 : decode cX12_init 211 = .ok (.aload_n 0, 1) := by decide +kernel
theorem dX12_init_212 : decode cX12_init 212 = .ok (.bipush 6, 2) := by decide +kernel
theorem dX12_init_214 : decode cX12_init 214 = .ok (.newarray .int, 2) := by decide +kernel
theorem dX12_init_216 : decode cX12_init 216 = .ok (.putfield 35, 3) := by decide +kernel
theorem dX12_init_219 : decode cX12_init 219 = .ok (.aload_n 0, 1) := by decide +kernel
theorem dX12_init_220 : decode cX12_init 220 = .ok (.iconst 5, 1) := by decide +kernel
theorem dX12_init_221 : decode cX12_init 221 = .ok (.newarray .int, 2) := by decide +kernel
theorem dX12_init_223 : decode cX12_init 223 = .ok (.putfield 38, 3) := by decide +kernel
theorem dX12_init_226 : decode cX12_init 226 = .ok (.aload_n 0, 1) := by decide +kernel
theorem dX12_init_227 : decode cX12_init 227 = .ok (.sipush 400, 3) := by decide +kernel
theorem dX12_init_230 : decode cX12_init 230 = .ok (.newarray .int, 2) := by decide +kernel
theorem dX12_init_232 : decode cX12_init 232 = .ok (.putfield 41, 3) := by decide +kernel
theorem dX12_init_235 : decode cX12_init 235 = .ok (.aload_n 0, 1) := by decide +kernel
theorem dX12_init_236 : decode cX12_init 236 = .ok (.sipush 400, 3) := by decide +kernel
theorem dX12_init_239 : decode cX12_init 239 = .ok (.newarray .int, 2) := by decide +kernel
theorem dX12_init_241 : decode cX12_init 241 = .ok (.putfield 44, 3) := by decide +kernel
theorem dX12_init_244 : decode cX12_init 244 = .ok (.aload_n 0, 1) := by decide +kernel
theorem dX12_init_245 : decode cX12_init 245 = .ok (.bipush 60, 2) := by decide +kernel
theorem dX12_init_247 : decode cX12_init 247 = .ok (.newarray .int, 2) := by decide +kernel
theorem dX12_init_249 : decode cX12_init 249 = .ok (.putfield 47, 3) := by decide +kernel
theorem dX12_init_252 : decode cX12_init 252 = .ok (.aload_n 0, 1) := by decide +kernel
theorem dX12_init_253 : decode cX12_init 253 = .ok (.bipush 60, 2) := by decide +kernel
theorem dX12_init_255 : decode cX12_init 255 = .ok (.newarray .int, 2) := by decide +kernel
theorem dX12_init_257 : decode cX12_init 257 = .ok (.putfield 50, 3) := by decide +kernel
theorem dX12_init_260 : decode cX12_init 260 = .ok (.aload_n 0, 1) := by decide +kernel
theorem dX12_init_261 : decode cX12_init 261 = .ok (.iconst 4, 1) := by decide +kernel
theorem dX12_init_262 : decode cX12_init 262 = .ok (.newarray .int, 2) := by decide +kernel
theorem dX12_init_264 : decode cX12_init 264 = .ok (.dup, 1) := by decide +kernel
theorem dX12_init_265 : decode cX12_init 265 = .ok (.iconst 0, 1) := by decide +kernel
theorem dX12_init_266 : decode cX12_init 266 = .ok (.iconst (-1), 1) := by decide +kernel
theorem dX12_init_267 : decode cX12_init 267 = .ok (.iastore, 1) := by decide +kernel
theorem dX12_init_268 : decode cX12_init 268 = .ok (.dup, 1) := by decide +kernel
theorem dX12_init_269 : decode cX12_init 269 = .ok (.iconst 1, 1) := by decide +kernel
theorem dX12_init_270 : decode cX12_init 270 = .ok (.iconst (-1), 1) := by decide +kernel
theorem dX12_init_271 : decode cX12_init 271 = .ok (.iastore, 1) := by decide +kernel
theorem dX12_init_272 : decode cX12_init 272 = .ok (.dup, 1) := by decide +kernel
theorem dX12_init_273 : decode cX12_init 273 = .ok (.iconst 2, 1) := by decide +kernel
theorem dX12_init_274 : decode cX12_init 274 = .ok (.iconst (-1), 1) := by decide +kernel
theorem dX12_init_275 : decode cX12_init 275 = .ok (.iastore, 1) := by decide +kernel
theorem dX12_init_276 : decode cX12_init 276 = .ok (.dup, 1) := by decide +kernel
theorem dX12_init_277 : decode cX12_init 277 = .ok (.iconst 3, 1) := by decide +kernel
theorem dX12_init_278 : decode cX12_init 278 = .ok (.iconst (-1), 1) := by decide +kernel
theorem dX12_init_279 : decode cX12_init 279 = .ok (.iastore, 1) := by decide +kernel
theorem dX12_init_280 : decode cX12_init 280 = .ok (.putfield 53, 3) := by decide +kernel
theorem dX12_init_283 : decode cX12_init 283 = .ok (.aload_n 0, 1) := by decide +kernel
theorem dX12_init_284 : decode cX12_init 284 = .ok (.iconst 4, 1) := by decide +kernel
theorem dX12_init_285 : decode cX12_init 285 = .ok (.newarray .int, 2) := by decide +kernel
theorem dX12_init_287 : decode cX12_init 287 = .ok (.putfield 56, 3) := by decide +kernel
theorem dX12_init_290 : decode cX12_init 290 = .ok (.aload_n 0, 1) := by decide +kernel
theorem dX12_init_291 : decode cX12_init 291 = .ok (.sipush 160, 3) := by decide +kernel
theorem dX12_init_294 : decode cX12_init 294 = .ok (.newarray .long, 2) := by decide +kernel
theorem dX12_init_296 : decode cX12_init 296 = .ok (.putfield 59, 3) := by decide +kernel
theorem dX12_init_299 : decode cX12_init 299 = .ok (.aload_n 0, 1) := by decide +kernel
theorem dX12_init_300 : decode cX12_init 300 = .ok (.iconst 4, 1) := by decide +kernel
theorem dX12_init_301 : decode cX12_init 301 = .ok (.newarray .int, 2) := by decide +kernel
theorem dX12_init_303 : decode cX12_init 303 = .ok (.dup, 1) := by decide +kernel
theorem dX12_init_304 : decode cX12_init 304 = .ok (.iconst 0, 1) := by decide +kernel
theorem dX12_init_305 : decode cX12_init 305 = .ok (.iconst (-1), 1) := by decide +kernel
theorem dX12_init_306 : decode cX12_init 306 = .ok (.iastore, 1) := by decide +kernel
theorem dX12_init_307 : decode cX12_init 307 = .ok (.dup, 1) := by decide +kernel
theorem dX12_init_308 : decode cX12_init 308 = .ok (.iconst 1, 1) := by decide +kernel
theorem dX12_init_309 : decode cX12_init 309 = .ok (.iconst (-1), 1) := by decide +kernel
theorem dX12_init_310 : decode cX12_init 310 = .ok (.iastore, 1) := by decide +kernel
theorem dX12_init_311 : decode cX12_init 311 = .ok (.dup, 1) := by decide +kernel
theorem dX12_init_312 : decode cX12_init 312 = .ok (.iconst 2, 1) := by decide +kernel
theorem dX12_init_313 : decode cX12_init 313 = .ok (.iconst (-1), 1) := by decide +kernel
theorem dX12_init_314 : decode cX12_init 314 = .ok (.iastore, 1) := by decide +kernel
theorem dX12_init_315 : decode cX12_init 315 = .ok (.dup, 1) := by decide +kernel
theorem dX12_init_316 : decode cX12_init 316 = .ok (.iconst 3, 1) := by decide +kernel
theorem dX12_init_317 : decode cX12_init 317 = .ok (.iconst (-1), 1) := by decide +kernel
theorem dX12_init_318 : decode cX12_init 318 = .ok (.iastore, 1) := by decide +kernel
theorem dX12_init_319 : decode cX12_init 319 = .ok (.putfield 63, 3) := by decide +kernel
theorem dX12_init_322 : decode cX12_init 322 = .ok (.aload_n 0, 1) := by decide +kernel
theorem dX12_init_323 : decode cX12_init 323 = .ok (.iconst 4, 1) := by decide +kernel
theorem dX12_init_324 : decode cX12_init 324 = .ok (.newarray .int, 2) := by decide +kernel
theorem dX12_init_326 : decode cX12_init 326 = .ok (.putfield 66, 3) := by decide +kernel
theorem dX12_init_329 : decode cX12_init 329 = .ok (.aload_n 0, 1) := by decide +kernel
theorem dX12_init_330 : decode cX12_init 330 = .ok (.iconst 4, 1) := by decide +kernel
theorem dX12_init_331 : decode cX12_init 331 = .ok (.newarray .int, 2) := by decide +kernel
theorem dX12_init_333 : decode cX12_init 333 = .ok (.putfield 69, 3) := by decide +kernel
theorem dX12_init_336 : decode cX12_init 336 = .ok (.aload_n 0, 1) := by decide +kernel
theorem dX12_init_337 : decode cX12_init 337 = .ok (.bipush 30, 2) := by decide +kernel
theorem dX12_init_339 : decode cX12_init 339 = .ok (.newarray .int, 2) := by decide +kernel
theorem dX12_init_341 : decode cX12_init 341 = .ok (.putfield 72, 3) := by decide +kernel
theorem dX12_init_344 : decode cX12_init 344 = .ok (.aload_n 0, 1) := by decide +kernel
theorem dX12_init_345 : decode cX12_init 345 = .ok (.bipush 60, 2) := by decide +kernel
theorem dX12_init_347 : decode cX12_init 347 = .ok (.newarray .int, 2) := by decide +kernel
theorem dX12_init_349 : decode cX12_init 349 = .ok (.putfield 75, 3) := by decide +kernel
theorem dX12_init_352 : decode cX12_init 352 = .ok (.aload_n 0, 1) := by decide +kernel
theorem dX12_init_353 : decode cX12_init 353 = .ok (.iconst 2, 1) := by decide +kernel
theorem dX12_init_354 : decode cX12_init 354 = .ok (.newarray .int, 2) := by decide +kernel
theorem dX12_init_356 : decode cX12_init 356 = .ok (.putfield 78, 3) := by decide +kernel
theorem dX12_init_359 : decode cX12_init 359 = .ok (.return_, 1) := by decide +kernel
theorem dX12_in_0 : decode cX12_in 0 = .ok (.iload_n 0, 1) := by decide +kernel
theorem dX12_in_1 : decode cX12_in 1 = .ok (.iload_n 1, 1) := by decide +kernel
theorem dX12_in_2 : decode cX12_in 2 = .ok (.if_icmp .lt 12, 3) := by decide +kernel
theorem dX12_in_5 : decode cX12_in 5 = .ok (.iload_n 0, 1) := by decide +kernel
theorem dX12_in_6 : decode cX12_in 6 = .ok (.iload_n 2, 1) := by decide +kernel
theorem dX12_in_7 : decode cX12_in 7 = .ok (.if_icmp .gt 7, 3) := by decide +kernel
theorem dX12_in_10 : decode cX12_in 10 = .ok (.iconst 1, 1) := by decide +kernel
theorem dX12_in_11 : decode cX12_in 11 = .ok (.goto 4, 3) := by decide +kernel
theorem dX12_in_14 : decode cX12_in 14 = .ok (.iconst 0, 1) := by decide +kernel
theorem dX12_in_15 : decode cX12_in 15 = .ok (.ireturn, 1) := by decide +kernel
theorem dX12_isCard_0 : decode cX12_isCard 0 = .ok (.iload_n 1, 1) := by decide +kernel
theorem dX12_isCard_1 : decode cX12_isCard 1 = .ok (.iconst 0, 1) := by decide +kernel
theorem dX12_isCard_2 : decode cX12_isCard 2 = .ok (.aload_n 0, 1) := by decide +kernel
theorem dX12_isCard_3 : decode cX12_isCard 3 = .ok (.getfield 81, 3) := by decide +kernel
theorem dX12_isCard_6 : decode cX12_isCard 6 = .ok (.iconst 1, 1) := by decide +kernel
theorem dX12_isCard_7 : decode cX12_isCard 7 = .ok (.isub, 1) := by decide +kernel
theorem dX12_isCard_8 : decode cX12_isCard 8 = .ok (.invokestatic 84, 3) := by decide +kernel
theorem dX12_isCard_11 : decode cX12_isCard 11 = .ok (.ireturn, 1) := by decide +kernel
theorem dX12_isSide_0 : decode cX12_isSide 0 = .ok (.iload_n 0, 1) := by decide +kernel
theorem dX12_isSide_1 : decode cX12_isSide 1 = .ok (.iconst 0, 1) := by decide +kernel
theorem dX12_isSide_2 : decode cX12_isSide 2 = .ok (.iconst 1, 1) := by decide +kernel
theorem dX12_isSide_3 : decode cX12_isSide 3 = .ok (.invokestatic 84, 3) := by decide +kernel
theorem dX12_isSide_6 : decode cX12_isSide 6 = .ok (.ireturn, 1) := by decide +kernel
theorem dX12_its_0 : decode cX12_its 0 = .ok (.aload_n 0, 1) := by decide +kernel
theorem dX12_its_1 : decode cX12_its 1 = .ok (.getfield 7, 3) := by decide +kernel
theorem dX12_its_4 : decode cX12_its 4 = .ok (.iconst 4, 1) := by decide +kernel
theorem dX12_its_5 : decode cX12_its 5 = .ok (.iload_n 1, 1) := by decide +kernel
theorem dX12_its_6 : decode cX12_its 6 = .ok (.imul, 1) := by decide +kernel
theorem dX12_its_7 : decode cX12_its 7 = .ok (.iload_n 2, 1) := by decide +kernel
theorem dX12_its_8 : decode cX12_its 8 = .ok (.iadd, 1) := by decide +kernel
theorem dX12_its_9 : decode cX12_its 9 = .ok (.iaload, 1) := by decide +kernel
theorem dX12_its_10 : decode cX12_its 10 = .ok (.ireturn, 1) := by decide +kernel
theorem dX12_bare_0 : decode cX12_bare 0 = .ok (.iload_n 0, 1) := by decide +kernel
theorem dX12_bare_1 : decode cX12_bare 1 = .ok (.ifCond .ge 8, 3) := by decide +kernel
theorem dX12_bare_4 : decode cX12_bare 4 = .ok (.iload_n 0, 1) := by decide +kernel
theorem dX12_bare_5 : decode cX12_bare 5 = .ok (.ineg, 1) := by decide +kernel
theorem dX12_bare_6 : decode cX12_bare 6 = .ok (.goto 4, 3) := by decide +kernel
theorem dX12_bare_9 : decode cX12_bare 9 = .ok (.iload_n 0, 1) := by decide +kernel
theorem dX12_bare_10 : decode cX12_bare 10 = .ok (.ireturn, 1) := by decide +kernel
theorem dX12_kept_0 : decode cX12_kept 0 = .ok (.iload_n 0, 1) := by decide +kernel
theorem dX12_kept_1 : decode cX12_kept 1 = .ok (.iload_n 1, 1) := by decide +kernel
theorem dX12_kept_2 : decode cX12_kept 2 = .ok (.ineg, 1) := by decide +kernel
theorem dX12_kept_3 : decode cX12_kept 3 = .ok (.if_icmp .ge 8, 3) := by decide +kernel
theorem dX12_kept_6 : decode cX12_kept 6 = .ok (.iload_n 1, 1) := by decide +kernel
theorem dX12_kept_7 : decode cX12_kept 7 = .ok (.ineg, 1) := by decide +kernel
theorem dX12_kept_8 : decode cX12_kept 8 = .ok (.goto 13, 3) := by decide +kernel
theorem dX12_kept_11 : decode cX12_kept 11 = .ok (.iload_n 0, 1) := by decide +kernel
theorem dX12_kept_12 : decode cX12_kept 12 = .ok (.iload_n 1, 1) := by decide +kernel
theorem dX12_kept_13 : decode cX12_kept 13 = .ok (.if_icmp .le 7, 3) := by decide +kernel
theorem dX12_kept_16 : decode cX12_kept 16 = .ok (.iload_n 1, 1) := by decide +kernel
theorem dX12_kept_17 : decode cX12_kept 17 = .ok (.goto 4, 3) := by decide +kernel
theorem dX12_kept_20 : decode cX12_kept 20 = .ok (.iload_n 0, 1) := by decide +kernel
theorem dX12_kept_21 : decode cX12_kept 21 = .ok (.ireturn, 1) := by decide +kernel
theorem dX12_isLike_0 : decode cX12_isLike 0 = .ok (.iload_n 0, 1) := by decide +kernel
theorem dX12_isLike_1 : decode cX12_isLike 1 = .ok (.iconst 0, 1) := by decide +kernel
theorem dX12_isLike_2 : decode cX12_isLike 2 = .ok (.iconst 5, 1) := by decide +kernel
theorem dX12_isLike_3 : decode cX12_isLike 3 = .ok (.invokestatic 84, 3) := by decide +kernel
theorem dX12_isLike_6 : decode cX12_isLike 6 = .ok (.ifCond .eq 37, 3) := by decide +kernel
theorem dX12_isLike_9 : decode cX12_isLike 9 = .ok (.iload_n 1, 1) := by decide +kernel
theorem dX12_isLike_10 : decode cX12_isLike 10 = .ok (.iconst 1, 1) := by decide +kernel
theorem dX12_isLike_11 : decode cX12_isLike 11 = .ok (.bipush 99, 2) := by decide +kernel
theorem dX12_isLike_13 : decode cX12_isLike 13 = .ok (.invokestatic 84, 3) := by decide +kernel
theorem dX12_isLike_16 : decode cX12_isLike 16 = .ok (.ifCond .eq 27, 3) := by decide +kernel
theorem dX12_isLike_19 : decode cX12_isLike 19 = .ok (.iload_n 2, 1) := by decide +kernel
theorem dX12_isLike_20 : decode cX12_isLike 20 = .ok (.iconst 1, 1) := by decide +kernel
theorem dX12_isLike_21 : decode cX12_isLike 21 = .ok (.bipush 9, 2) := by decide +kernel
theorem dX12_isLike_23 : decode cX12_isLike 23 = .ok (.invokestatic 84, 3) := by decide +kernel
theorem dX12_isLike_26 : decode cX12_isLike 26 = .ok (.ifCond .eq 17, 3) := by decide +kernel
theorem dX12_isLike_29 : decode cX12_isLike 29 = .ok (.iload_n 3, 1) := by decide +kernel
theorem dX12_isLike_30 : decode cX12_isLike 30 = .ok (.bipush (-4), 2) := by decide +kernel
theorem dX12_isLike_32 : decode cX12_isLike 32 = .ok (.iconst 4, 1) := by decide +kernel
theorem dX12_isLike_33 : decode cX12_isLike 33 = .ok (.invokestatic 84, 3) := by decide +kernel
theorem dX12_isLike_36 : decode cX12_isLike 36 = .ok (.ifCond .eq 7, 3) := by decide +kernel
theorem dX12_isLike_39 : decode cX12_isLike 39 = .ok (.iconst 1, 1) := by decide +kernel
theorem dX12_isLike_40 : decode cX12_isLike 40 = .ok (.goto 4, 3) := by decide +kernel
theorem dX12_isLike_43 : decode cX12_isLike 43 = .ok (.iconst 0, 1) := by decide +kernel
theorem dX12_isLike_44 : decode cX12_isLike 44 = .ok (.ireturn, 1) := by decide +kernel
theorem dX12_feed_0 : decode cX12_feed 0 = .ok (.iload_n 3, 1) := by decide +kernel
theorem dX12_feed_1 : decode cX12_feed 1 = .ok (.iconst 1, 1) := by decide +kernel
theorem dX12_feed_2 : decode cX12_feed 2 = .ok (.bipush 8, 2) := by decide +kernel
theorem dX12_feed_4 : decode cX12_feed 4 = .ok (.invokestatic 84, 3) := by decide +kernel
theorem dX12_feed_7 : decode cX12_feed 7 = .ok (.ifCond .ne 5, 3) := by decide +kernel
theorem dX12_feed_10 : decode cX12_feed 10 = .ok (.iconst (-1), 1) := by decide +kernel
theorem dX12_feed_11 : decode cX12_feed 11 = .ok (.ireturn, 1) := by decide +kernel
theorem dX12_feed_12 : decode cX12_feed 12 = .ok (.aload_n 0, 1) := by decide +kernel
theorem dX12_feed_13 : decode cX12_feed 13 = .ok (.getfield 88, 3) := by decide +kernel
theorem dX12_feed_16 : decode cX12_feed 16 = .ok (.iload_n 3, 1) := by decide +kernel
theorem dX12_feed_17 : decode cX12_feed 17 = .ok (.iadd, 1) := by decide +kernel
theorem dX12_feed_18 : decode cX12_feed 18 = .ok (.sipush 200, 3) := by decide +kernel
theorem dX12_feed_21 : decode cX12_feed 21 = .ok (.if_icmp .le 6, 3) := by decide +kernel
theorem dX12_feed_24 : decode cX12_feed 24 = .ok (.bipush (-2), 2) := by decide +kernel
theorem dX12_feed_26 : decode cX12_feed 26 = .ok (.ireturn, 1) := by decide +kernel
theorem dX12_feed_27 : decode cX12_feed 27 = .ok (.iconst 0, 1) := by decide +kernel
theorem dX12_feed_28 : decode cX12_feed 28 = .ok (.istore 4, 2) := by decide +kernel
theorem dX12_feed_30 : decode cX12_feed 30 = .ok (.iload 4, 2) := by decide +kernel
theorem dX12_feed_32 : decode cX12_feed 32 = .ok (.iload_n 3, 1) := by decide +kernel
theorem dX12_feed_33 : decode cX12_feed 33 = .ok (.if_icmp .ge 40, 3) := by decide +kernel
theorem dX12_feed_36 : decode cX12_feed 36 = .ok (.aload_n 0, 1) := by decide +kernel
theorem dX12_feed_37 : decode cX12_feed 37 = .ok (.getfield 29, 3) := by decide +kernel
theorem dX12_feed_40 : decode cX12_feed 40 = .ok (.aload_n 0, 1) := by decide +kernel
theorem dX12_feed_41 : decode cX12_feed 41 = .ok (.getfield 88, 3) := by decide +kernel
theorem dX12_feed_44 : decode cX12_feed 44 = .ok (.lload_n 1, 1) := by decide +kernel
theorem dX12_feed_45 : decode cX12_feed 45 = .ok (.bipush 8, 2) := by decide +kernel
theorem dX12_feed_47 : decode cX12_feed 47 = .ok (.iload 4, 2) := by decide +kernel
theorem dX12_feed_49 : decode cX12_feed 49 = .ok (.imul, 1) := by decide +kernel
theorem dX12_feed_50 : decode cX12_feed 50 = .ok (.lshr, 1) := by decide +kernel
theorem dX12_feed_51 : decode cX12_feed 51 = .ok (.ldc2_w 91, 3) := by decide +kernel
theorem dX12_feed_54 : decode cX12_feed 54 = .ok (.land, 1) := by decide +kernel
theorem dX12_feed_55 : decode cX12_feed 55 = .ok (.l2i, 1) := by decide +kernel
theorem dX12_feed_56 : decode cX12_feed 56 = .ok (.iastore, 1) := by decide +kernel
theorem dX12_feed_57 : decode cX12_feed 57 = .ok (.aload_n 0, 1) := by decide +kernel
theorem dX12_feed_58 : decode cX12_feed 58 = .ok (.dup, 1) := by decide +kernel
theorem dX12_feed_59 : decode cX12_feed 59 = .ok (.getfield 88, 3) := by decide +kernel
theorem dX12_feed_62 : decode cX12_feed 62 = .ok (.iconst 1, 1) := by decide +kernel
theorem dX12_feed_63 : decode cX12_feed 63 = .ok (.iadd, 1) := by decide +kernel
theorem dX12_feed_64 : decode cX12_feed 64 = .ok (.putfield 88, 3) := by decide +kernel
theorem dX12_feed_67 : decode cX12_feed 67 = .ok (.iinc 4 1, 3) := by decide +kernel
theorem dX12_feed_70 : decode cX12_feed 70 = .ok (.goto (-40), 3) := by decide +kernel
theorem dX12_feed_73 : decode cX12_feed 73 = .ok (.aload_n 0, 1) := by decide +kernel
theorem dX12_feed_74 : decode cX12_feed 74 = .ok (.getfield 88, 3) := by decide +kernel
theorem dX12_feed_77 : decode cX12_feed 77 = .ok (.ireturn, 1) := by decide +kernel
theorem dX12_byteAt_0 : decode cX12_byteAt 0 = .ok (.iload_n 1, 1) := by decide +kernel
theorem dX12_byteAt_1 : decode cX12_byteAt 1 = .ok (.aload_n 0, 1) := by decide +kernel
theorem dX12_byteAt_2 : decode cX12_byteAt 2 = .ok (.getfield 88, 3) := by decide +kernel
theorem dX12_byteAt_5 : decode cX12_byteAt 5 = .ok (.if_icmp .ge 12, 3) := by decide +kernel
theorem dX12_byteAt_8 : decode cX12_byteAt 8 = .ok (.aload_n 0, 1) := by decide +kernel
theorem dX12_byteAt_9 : decode cX12_byteAt 9 = .ok (.getfield 29, 3) := by decide +kernel
theorem dX12_byteAt_12 : decode cX12_byteAt 12 = .ok (.iload_n 1, 1) := by decide +kernel
theorem dX12_byteAt_13 : decode cX12_byteAt 13 = .ok (.iaload, 1) := by decide +kernel
theorem dX12_byteAt_14 : decode cX12_byteAt 14 = .ok (.goto 4, 3) := by decide +kernel
theorem dX12_byteAt_17 : decode cX12_byteAt 17 = .ok (.iconst (-1), 1) := by decide +kernel
theorem dX12_byteAt_18 : decode cX12_byteAt 18 = .ok (.ireturn, 1) := by decide +kernel
theorem dX12_isLetter_0 : decode cX12_isLetter 0 = .ok (.iload_n 0, 1) := by decide +kernel
theorem dX12_isLetter_1 : decode cX12_isLetter 1 = .ok (.bipush 97, 2) := by decide +kernel
theorem dX12_isLetter_3 : decode cX12_isLetter 3 = .ok (.bipush 122, 2) := by decide +kernel
theorem dX12_isLetter_5 : decode cX12_isLetter 5 = .ok (.invokestatic 84, 3) := by decide +kernel
theorem dX12_isLetter_8 : decode cX12_isLetter 8 = .ok (.ireturn, 1) := by decide +kernel
theorem dX12_isDigit_0 : decode cX12_isDigit 0 = .ok (.iload_n 0, 1) := by decide +kernel
theorem dX12_isDigit_1 : decode cX12_isDigit 1 = .ok (.bipush 48, 2) := by decide +kernel
theorem dX12_isDigit_3 : decode cX12_isDigit 3 = .ok (.bipush 57, 2) := by decide +kernel
theorem dX12_isDigit_5 : decode cX12_isDigit 5 = .ok (.invokestatic 84, 3) := by decide +kernel
theorem dX12_isDigit_8 : decode cX12_isDigit 8 = .ok (.ireturn, 1) := by decide +kernel
theorem dX12_advance_0 : decode cX12_advance 0 = .ok (.aload_n 0, 1) := by decide +kernel
theorem dX12_advance_1 : decode cX12_advance 1 = .ok (.aload_n 0, 1) := by decide +kernel
theorem dX12_advance_2 : decode cX12_advance 2 = .ok (.getfield 93, 3) := by decide +kernel
theorem dX12_advance_5 : decode cX12_advance 5 = .ok (.putfield 96, 3) := by decide +kernel
theorem dX12_advance_8 : decode cX12_advance 8 = .ok (.aload_n 0, 1) := by decide +kernel
theorem dX12_advance_9 : decode cX12_advance 9 = .ok (.aload_n 0, 1) := by decide +kernel
theorem dX12_advance_10 : decode cX12_advance 10 = .ok (.getfield 96, 3) := by decide +kernel
theorem dX12_advance_13 : decode cX12_advance 13 = .ok (.invokevirtual 99, 3) := by decide +kernel
theorem dX12_advance_16 : decode cX12_advance 16 = .ok (.bipush 32, 2) := by decide +kernel
theorem dX12_advance_18 : decode cX12_advance 18 = .ok (.if_icmp .ne 16, 3) := by decide +kernel
theorem dX12_advance_21 : decode cX12_advance 21 = .ok (.aload_n 0, 1) := by decide +kernel
theorem dX12_advance_22 : decode cX12_advance 22 = .ok (.dup, 1) := by decide +kernel
theorem dX12_advance_23 : decode cX12_advance 23 = .ok (.getfield 96, 3) := by decide +kernel
theorem dX12_advance_26 : decode cX12_advance 26 = .ok (.iconst 1, 1) := by decide +kernel
theorem dX12_advance_27 : decode cX12_advance 27 = .ok (.iadd, 1) := by decide +kernel
theorem dX12_advance_28 : decode cX12_advance 28 = .ok (.putfield 96, 3) := by decide +kernel
theorem dX12_advance_31 : decode cX12_advance 31 = .ok (.goto (-23), 3) := by decide +kernel
theorem dX12_advance_34 : decode cX12_advance 34 = .ok (.aload_n 0, 1) := by decide +kernel
theorem dX12_advance_35 : decode cX12_advance 35 = .ok (.aload_n 0, 1) := by decide +kernel
theorem dX12_advance_36 : decode cX12_advance 36 = .ok (.getfield 96, 3) := by decide +kernel
theorem dX12_advance_39 : decode cX12_advance 39 = .ok (.putfield 93, 3) := by decide +kernel
theorem dX12_advance_42 : decode cX12_advance 42 = .ok (.aload_n 0, 1) := by decide +kernel
theorem dX12_advance_43 : decode cX12_advance 43 = .ok (.aload_n 0, 1) := by decide +kernel
theorem dX12_advance_44 : decode cX12_advance 44 = .ok (.getfield 96, 3) := by decide +kernel
theorem dX12_advance_47 : decode cX12_advance 47 = .ok (.invokevirtual 99, 3) := by decide +kernel
theorem dX12_advance_50 : decode cX12_advance 50 = .ok (.istore_n 1, 1) := by decide +kernel
theorem dX12_advance_51 : decode cX12_advance 51 = .ok (.aload_n 0, 1) := by decide +kernel
theorem dX12_advance_52 : decode cX12_advance 52 = .ok (.iload_n 1, 1) := by decide +kernel
theorem dX12_advance_53 : decode cX12_advance 53 = .ok (.ifCond .ge 7, 3) := by decide +kernel
theorem dX12_advance_56 : decode cX12_advance 56 = .ok (.iconst 0, 1) := by decide +kernel
theorem dX12_advance_57 : decode cX12_advance 57 = .ok (.goto 26, 3) := by decide +kernel
theorem dX12_advance_60 : decode cX12_advance 60 = .ok (.iload_n 1, 1) := by decide +kernel
theorem dX12_advance_61 : decode cX12_advance 61 = .ok (.invokestatic 103, 3) := by decide +kernel
theorem dX12_advance_64 : decode cX12_advance 64 = .ok (.ifCond .eq 7, 3) := by decide +kernel
theorem dX12_advance_67 : decode cX12_advance 67 = .ok (.iconst 1, 1) := by decide +kernel
theorem dX12_advance_68 : decode cX12_advance 68 = .ok (.goto 15, 3) := by decide +kernel
theorem dX12_advance_71 : decode cX12_advance 71 = .ok (.iload_n 1, 1) := by decide +kernel
theorem dX12_advance_72 : decode cX12_advance 72 = .ok (.invokestatic 107, 3) := by decide +kernel
theorem dX12_advance_75 : decode cX12_advance 75 = .ok (.ifCond .eq 7, 3) := by decide +kernel
theorem dX12_advance_78 : decode cX12_advance 78 = .ok (.iconst 2, 1) := by decide +kernel
theorem dX12_advance_79 : decode cX12_advance 79 = .ok (.goto 4, 3) := by decide +kernel
theorem dX12_advance_82 : decode cX12_advance 82 = .ok (.iconst 3, 1) := by decide +kernel
theorem dX12_advance_83 : decode cX12_advance 83 = .ok (.putfield 110, 3) := by decide +kernel
theorem dX12_advance_86 : decode cX12_advance 86 = .ok (.aload_n 0, 1) := by decide +kernel
theorem dX12_advance_87 : decode cX12_advance 87 = .ok (.lconst 0, 1) := by decide +kernel
theorem dX12_advance_88 : decode cX12_advance 88 = .ok (.putfield 113, 3) := by decide +kernel
theorem dX12_advance_91 : decode cX12_advance 91 = .ok (.aload_n 0, 1) := by decide +kernel
theorem dX12_advance_92 : decode cX12_advance 92 = .ok (.aload_n 0, 1) := by decide +kernel
theorem dX12_advance_93 : decode cX12_advance 93 = .ok (.getfield 110, 3) := by decide +kernel
theorem dX12_advance_96 : decode cX12_advance 96 = .ok (.iconst 2, 1) := by decide +kernel
theorem dX12_advance_97 : decode cX12_advance 97 = .ok (.if_icmp .ne 7, 3) := by decide +kernel
theorem dX12_advance_100 : decode cX12_advance 100 = .ok (.iconst 0, 1) := by decide +kernel
theorem dX12_advance_101 : decode cX12_advance 101 = .ok (.goto 4, 3) := by decide +kernel
theorem dX12_advance_104 : decode cX12_advance 104 = .ok (.iload_n 1, 1) := by decide +kernel
theorem dX12_advance_105 : decode cX12_advance 105 = .ok (.putfield 117, 3) := by decide +kernel
theorem dX12_advance_108 : decode cX12_advance 108 = .ok (.aload_n 0, 1) := by decide +kernel
theorem dX12_advance_109 : decode cX12_advance 109 = .ok (.getfield 110, 3) := by decide +kernel
theorem dX12_advance_112 : decode cX12_advance 112 = .ok (.iconst 3, 1) := by decide +kernel
theorem dX12_advance_113 : decode cX12_advance 113 = .ok (.if_icmp .ne 13, 3) := by decide +kernel
theorem dX12_advance_116 : decode cX12_advance 116 = .ok (.aload_n 0, 1) := by decide +kernel
theorem dX12_advance_117 : decode cX12_advance 117 = .ok (.dup, 1) := by decide +kernel
theorem dX12_advance_118 : decode cX12_advance 118 = .ok (.getfield 93, 3) := by decide +kernel
theorem dX12_advance_121 : decode cX12_advance 121 = .ok (.iconst 1, 1) := by decide +kernel
theorem dX12_advance_122 : decode cX12_advance 122 = .ok (.iadd, 1) := by decide +kernel
theorem dX12_advance_123 : decode cX12_advance 123 = .ok (.putfield 93, 3) := by decide +kernel
theorem dX12_advance_126 : decode cX12_advance 126 = .ok (.aload_n 0, 1) := by decide +kernel
theorem dX12_advance_127 : decode cX12_advance 127 = .ok (.getfield 110, 3) := by decide +kernel
theorem dX12_advance_130 : decode cX12_advance 130 = .ok (.iconst 1, 1) := by decide +kernel
theorem dX12_advance_131 : decode cX12_advance 131 = .ok (.if_icmp .ne 76, 3) := by decide +kernel
theorem dX12_advance_134 : decode cX12_advance 134 = .ok (.aload_n 0, 1) := by decide +kernel
theorem dX12_advance_135 : decode cX12_advance 135 = .ok (.aload_n 0, 1) := by decide +kernel
theorem dX12_advance_136 : decode cX12_advance 136 = .ok (.getfield 93, 3) := by decide +kernel
theorem dX12_advance_139 : decode cX12_advance 139 = .ok (.invokevirtual 99, 3) := by decide +kernel
theorem dX12_advance_142 : decode cX12_advance 142 = .ok (.invokestatic 103, 3) := by decide +kernel
theorem dX12_advance_145 : decode cX12_advance 145 = .ok (.ifCond .eq 62, 3) := by decide +kernel
theorem dX12_advance_148 : decode cX12_advance 148 = .ok (.aload_n 0, 1) := by decide +kernel
theorem dX12_advance_149 : decode cX12_advance 149 = .ok (.aload_n 0, 1) := by decide +kernel
theorem dX12_advance_150 : decode cX12_advance 150 = .ok (.getfield 93, 3) := by decide +kernel
theorem dX12_advance_153 : decode cX12_advance 153 = .ok (.aload_n 0, 1) := by decide +kernel
theorem dX12_advance_154 : decode cX12_advance 154 = .ok (.getfield 96, 3) := by decide +kernel
theorem dX12_advance_157 : decode cX12_advance 157 = .ok (.isub, 1) := by decide +kernel
theorem dX12_advance_158 : decode cX12_advance 158 = .ok (.bipush 8, 2) := by decide +kernel
theorem dX12_advance_160 : decode cX12_advance 160 = .ok (.if_icmp .ge 28, 3) := by decide +kernel
theorem dX12_advance_163 : decode cX12_advance 163 = .ok (.ldc2_w 120, 3) := by decide +kernel
theorem dX12_advance_166 : decode cX12_advance 166 = .ok (.aload_n 0, 1) := by decide +kernel
theorem dX12_advance_167 : decode cX12_advance 167 = .ok (.getfield 113, 3) := by decide +kernel
theorem dX12_advance_170 : decode cX12_advance 170 = .ok (.lmul, 1) := by decide +kernel
theorem dX12_advance_171 : decode cX12_advance 171 = .ok (.aload_n 0, 1) := by decide +kernel
theorem dX12_advance_172 : decode cX12_advance 172 = .ok (.aload_n 0, 1) := by decide +kernel
theorem dX12_advance_173 : decode cX12_advance 173 = .ok (.getfield 93, 3) := by decide +kernel
theorem dX12_advance_176 : decode cX12_advance 176 = .ok (.invokevirtual 99, 3) := by decide +kernel
theorem dX12_advance_179 : decode cX12_advance 179 = .ok (.i2l, 1) := by decide +kernel
theorem dX12_advance_180 : decode cX12_advance 180 = .ok (.ladd, 1) := by decide +kernel
theorem dX12_advance_181 : decode cX12_advance 181 = .ok (.ldc2_w 122, 3) := by decide +kernel
theorem dX12_advance_184 : decode cX12_advance 184 = .ok (.lsub, 1) := by decide +kernel
theorem dX12_advance_185 : decode cX12_advance 185 = .ok (.goto 6, 3) := by decide +kernel
theorem dX12_advance_188 : decode cX12_advance 188 = .ok (.ldc2_w 124, 3) := by decide +kernel
theorem dX12_advance_191 : decode cX12_advance 191 = .ok (.putfield 113, 3) := by decide +kernel
theorem dX12_advance_194 : decode cX12_advance 194 = .ok (.aload_n 0, 1) := by decide +kernel
theorem dX12_advance_195 : decode cX12_advance 195 = .ok (.dup, 1) := by decide +kernel
theorem dX12_advance_196 : decode cX12_advance 196 = .ok (.getfield 93, 3) := by decide +kernel
theorem dX12_advance_199 : decode cX12_advance 199 = .ok (.iconst 1, 1) := by decide +kernel
theorem dX12_advance_200 : decode cX12_advance 200 = .ok (.iadd, 1) := by decide +kernel
theorem dX12_advance_201 : decode cX12_advance 201 = .ok (.putfield 93, 3) := by decide +kernel
theorem dX12_advance_204 : decode cX12_advance 204 = .ok (.goto (-78), 3) := by decide +kernel
theorem dX12_advance_207 : decode cX12_advance 207 = .ok (.aload_n 0, 1) := by decide +kernel
theorem dX12_advance_208 : decode cX12_advance 208 = .ok (.getfield 110, 3) := by decide +kernel
theorem dX12_advance_211 : decode cX12_advance 211 = .ok (.iconst 2, 1) := by decide +kernel
theorem dX12_advance_212 : decode cX12_advance 212 = .ok (.if_icmp .ne 70, 3) := by decide +kernel
theorem dX12_advance_215 : decode cX12_advance 215 = .ok (.aload_n 0, 1) := by decide +kernel
theorem dX12_advance_216 : decode cX12_advance 216 = .ok (.aload_n 0, 1) := by decide +kernel
theorem dX12_advance_217 : decode cX12_advance 217 = .ok (.getfield 93, 3) := by decide +kernel
theorem dX12_advance_220 : decode cX12_advance 220 = .ok (.invokevirtual 99, 3) := by decide +kernel
theorem dX12_advance_223 : decode cX12_advance 223 = .ok (.invokestatic 107, 3) := by decide +kernel
theorem dX12_advance_226 : decode cX12_advance 226 = .ok (.ifCond .eq 56, 3) := by decide +kernel
theorem dX12_advance_229 : decode cX12_advance 229 = .ok (.aload_n 0, 1) := by decide +kernel
theorem dX12_advance_230 : decode cX12_advance 230 = .ok (.aload_n 0, 1) := by decide +kernel
theorem dX12_advance_231 : decode cX12_advance 231 = .ok (.getfield 93, 3) := by decide +kernel
theorem dX12_advance_234 : decode cX12_advance 234 = .ok (.aload_n 0, 1) := by decide +kernel
theorem dX12_advance_235 : decode cX12_advance 235 = .ok (.getfield 96, 3) := by decide +kernel
theorem dX12_advance_238 : decode cX12_advance 238 = .ok (.isub, 1) := by decide +kernel
theorem dX12_advance_239 : decode cX12_advance 239 = .ok (.iconst 2, 1) := by decide +kernel
theorem dX12_advance_240 : decode cX12_advance 240 = .ok (.if_icmp .ge 25, 3) := by decide +kernel
theorem dX12_advance_243 : decode cX12_advance 243 = .ok (.bipush 10, 2) := by decide +kernel
theorem dX12_advance_245 : decode cX12_advance 245 = .ok (.aload_n 0, 1) := by decide +kernel
theorem dX12_advance_246 : decode cX12_advance 246 = .ok (.getfield 117, 3) := by decide +kernel
theorem dX12_advance_249 : decode cX12_advance 249 = .ok (.imul, 1) := by decide +kernel
theorem dX12_advance_250 : decode cX12_advance 250 = .ok (.aload_n 0, 1) := by decide +kernel
theorem dX12_advance_251 : decode cX12_advance 251 = .ok (.aload_n 0, 1) := by decide +kernel
theorem dX12_advance_252 : decode cX12_advance 252 = .ok (.getfield 93, 3) := by decide +kernel
theorem dX12_advance_255 : decode cX12_advance 255 = .ok (.invokevirtual 99, 3) := by decide +kernel
theorem dX12_advance_258 : decode cX12_advance 258 = .ok (.iadd, 1) := by decide +kernel
theorem dX12_advance_259 : decode cX12_advance 259 = .ok (.bipush 48, 2) := by decide +kernel
theorem dX12_advance_261 : decode cX12_advance 261 = .ok (.isub, 1) := by decide +kernel
theorem dX12_advance_262 : decode cX12_advance 262 = .ok (.goto 4, 3) := by decide +kernel
theorem dX12_advance_265 : decode cX12_advance 265 = .ok (.iconst (-1), 1) := by decide +kernel
theorem dX12_advance_266 : decode cX12_advance 266 = .ok (.putfield 117, 3) := by decide +kernel
theorem dX12_advance_269 : decode cX12_advance 269 = .ok (.aload_n 0, 1) := by decide +kernel
theorem dX12_advance_270 : decode cX12_advance 270 = .ok (.dup, 1) := by decide +kernel
theorem dX12_advance_271 : decode cX12_advance 271 = .ok (.getfield 93, 3) := by decide +kernel
theorem dX12_advance_274 : decode cX12_advance 274 = .ok (.iconst 1, 1) := by decide +kernel
theorem dX12_advance_275 : decode cX12_advance 275 = .ok (.iadd, 1) := by decide +kernel
theorem dX12_advance_276 : decode cX12_advance 276 = .ok (.putfield 93, 3) := by decide +kernel
theorem dX12_advance_279 : decode cX12_advance 279 = .ok (.goto (-72), 3) := by decide +kernel
theorem dX12_advance_282 : decode cX12_advance 282 = .ok (.return_, 1) := by decide +kernel
theorem dX12_isWord_0 : decode cX12_isWord 0 = .ok (.aload_n 0, 1) := by decide +kernel
theorem dX12_isWord_1 : decode cX12_isWord 1 = .ok (.getfield 110, 3) := by decide +kernel
theorem dX12_isWord_4 : decode cX12_isWord 4 = .ok (.iconst 1, 1) := by decide +kernel
theorem dX12_isWord_5 : decode cX12_isWord 5 = .ok (.if_icmp .ne 16, 3) := by decide +kernel
theorem dX12_isWord_8 : decode cX12_isWord 8 = .ok (.aload_n 0, 1) := by decide +kernel
theorem dX12_isWord_9 : decode cX12_isWord 9 = .ok (.getfield 113, 3) := by decide +kernel
theorem dX12_isWord_12 : decode cX12_isWord 12 = .ok (.lload_n 1, 1) := by decide +kernel
theorem dX12_isWord_13 : decode cX12_isWord 13 = .ok (.lcmp, 1) := by decide +kernel
theorem dX12_isWord_14 : decode cX12_isWord 14 = .ok (.ifCond .ne 7, 3) := by decide +kernel
theorem dX12_isWord_17 : decode cX12_isWord 17 = .ok (.iconst 1, 1) := by decide +kernel
theorem dX12_isWord_18 : decode cX12_isWord 18 = .ok (.goto 4, 3) := by decide +kernel
theorem dX12_isWord_21 : decode cX12_isWord 21 = .ok (.iconst 0, 1) := by decide +kernel
theorem dX12_isWord_22 : decode cX12_isWord 22 = .ok (.ireturn, 1) := by decide +kernel
theorem dX12_isMark_0 : decode cX12_isMark 0 = .ok (.aload_n 0, 1) := by decide +kernel
theorem dX12_isMark_1 : decode cX12_isMark 1 = .ok (.getfield 110, 3) := by decide +kernel
theorem dX12_isMark_4 : decode cX12_isMark 4 = .ok (.iconst 3, 1) := by decide +kernel
theorem dX12_isMark_5 : decode cX12_isMark 5 = .ok (.if_icmp .ne 15, 3) := by decide +kernel
theorem dX12_isMark_8 : decode cX12_isMark 8 = .ok (.aload_n 0, 1) := by decide +kernel
theorem dX12_isMark_9 : decode cX12_isMark 9 = .ok (.getfield 117, 3) := by decide +kernel
theorem dX12_isMark_12 : decode cX12_isMark 12 = .ok (.iload_n 1, 1) := by decide +kernel
theorem dX12_isMark_13 : decode cX12_isMark 13 = .ok (.if_icmp .ne 7, 3) := by decide +kernel
theorem dX12_isMark_16 : decode cX12_isMark 16 = .ok (.iconst 1, 1) := by decide +kernel
theorem dX12_isMark_17 : decode cX12_isMark 17 = .ok (.goto 4, 3) := by decide +kernel
theorem dX12_isMark_20 : decode cX12_isMark 20 = .ok (.iconst 0, 1) := by decide +kernel
theorem dX12_isMark_21 : decode cX12_isMark 21 = .ok (.ireturn, 1) := by decide +kernel
theorem dX12_kindHere_0 : decode cX12_kindHere 0 = .ok (.aload_n 0, 1) := by decide +kernel
theorem dX12_kindHere_1 : decode cX12_kindHere 1 = .ok (.ldc2_w 126, 3) := by decide +kernel
theorem dX12_kindHere_4 : decode cX12_kindHere 4 = .ok (.invokevirtual 128, 3) := by decide +kernel
theorem dX12_kindHere_7 : decode cX12_kindHere 7 = .ok (.ifCond .eq 7, 3) := by decide +kernel
theorem dX12_kindHere_10 : decode cX12_kindHere 10 = .ok (.iconst 0, 1) := by decide +kernel
theorem dX12_kindHere_11 : decode cX12_kindHere 11 = .ok (.goto 74, 3) := by decide +kernel
theorem dX12_kindHere_14 : decode cX12_kindHere 14 = .ok (.aload_n 0, 1) := by decide +kernel
theorem dX12_kindHere_15 : decode cX12_kindHere 15 = .ok (.ldc2_w 132, 3) := by decide +kernel
theorem dX12_kindHere_18 : decode cX12_kindHere 18 = .ok (.invokevirtual 128, 3) := by decide +kernel
theorem dX12_kindHere_21 : decode cX12_kindHere 21 = .ok (.ifCond .eq 7, 3) := by decide +kernel
theorem dX12_kindHere_24 : decode cX12_kindHere 24 = .ok (.iconst 1, 1) := by decide +kernel
theorem dX12_kindHere_25 : decode cX12_kindHere 25 = .ok (.goto 60, 3) := by decide +kernel
theorem dX12_kindHere_28 : decode cX12_kindHere 28 = .ok (.aload_n 0, 1) := by decide +kernel
theorem dX12_kindHere_29 : decode cX12_kindHere 29 = .ok (.ldc2_w 134, 3) := by decide +kernel
theorem dX12_kindHere_32 : decode cX12_kindHere 32 = .ok (.invokevirtual 128, 3) := by decide +kernel
theorem dX12_kindHere_35 : decode cX12_kindHere 35 = .ok (.ifCond .eq 7, 3) := by decide +kernel
theorem dX12_kindHere_38 : decode cX12_kindHere 38 = .ok (.iconst 2, 1) := by decide +kernel
theorem dX12_kindHere_39 : decode cX12_kindHere 39 = .ok (.goto 46, 3) := by decide +kernel
theorem dX12_kindHere_42 : decode cX12_kindHere 42 = .ok (.aload_n 0, 1) := by decide +kernel
theorem dX12_kindHere_43 : decode cX12_kindHere 43 = .ok (.ldc2_w 136, 3) := by decide +kernel
theorem dX12_kindHere_46 : decode cX12_kindHere 46 = .ok (.invokevirtual 128, 3) := by decide +kernel
theorem dX12_kindHere_49 : decode cX12_kindHere 49 = .ok (.ifCond .eq 7, 3) := by decide +kernel
theorem dX12_kindHere_52 : decode cX12_kindHere 52 = .ok (.iconst 3, 1) := by decide +kernel
theorem dX12_kindHere_53 : decode cX12_kindHere 53 = .ok (.goto 32, 3) := by decide +kernel
theorem dX12_kindHere_56 : decode cX12_kindHere 56 = .ok (.aload_n 0, 1) := by decide +kernel
theorem dX12_kindHere_57 : decode cX12_kindHere 57 = .ok (.ldc2_w 138, 3) := by decide +kernel
theorem dX12_kindHere_60 : decode cX12_kindHere 60 = .ok (.invokevirtual 128, 3) := by decide +kernel
theorem dX12_kindHere_63 : decode cX12_kindHere 63 = .ok (.ifCond .eq 7, 3) := by decide +kernel
theorem dX12_kindHere_66 : decode cX12_kindHere 66 = .ok (.iconst 4, 1) := by decide +kernel
theorem dX12_kindHere_67 : decode cX12_kindHere 67 = .ok (.goto 18, 3) := by decide +kernel
theorem dX12_kindHere_70 : decode cX12_kindHere 70 = .ok (.aload_n 0, 1) := by decide +kernel
theorem dX12_kindHere_71 : decode cX12_kindHere 71 = .ok (.ldc2_w 140, 3) := by decide +kernel
theorem dX12_kindHere_74 : decode cX12_kindHere 74 = .ok (.invokevirtual 128, 3) := by decide +kernel
theorem dX12_kindHere_77 : decode cX12_kindHere 77 = .ok (.ifCond .eq 7, 3) := by decide +kernel
theorem dX12_kindHere_80 : decode cX12_kindHere 80 = .ok (.iconst 5, 1) := by decide +kernel
theorem dX12_kindHere_81 : decode cX12_kindHere 81 = .ok (.goto 4, 3) := by decide +kernel
theorem dX12_kindHere_84 : decode cX12_kindHere 84 = .ok (.iconst (-1), 1) := by decide +kernel
theorem dX12_kindHere_85 : decode cX12_kindHere 85 = .ok (.ireturn, 1) := by decide +kernel
theorem dX12_lawHere_0 : decode cX12_lawHere 0 = .ok (.aload_n 0, 1) := by decide +kernel
theorem dX12_lawHere_1 : decode cX12_lawHere 1 = .ok (.ldc2_w 142, 3) := by decide +kernel
theorem dX12_lawHere_4 : decode cX12_lawHere 4 = .ok (.invokevirtual 128, 3) := by decide +kernel
theorem dX12_lawHere_7 : decode cX12_lawHere 7 = .ok (.ifCond .eq 7, 3) := by decide +kernel
theorem dX12_lawHere_10 : decode cX12_lawHere 10 = .ok (.iconst 0, 1) := by decide +kernel
theorem dX12_lawHere_11 : decode cX12_lawHere 11 = .ok (.goto 74, 3) := by decide +kernel
theorem dX12_lawHere_14 : decode cX12_lawHere 14 = .ok (.aload_n 0, 1) := by decide +kernel
theorem dX12_lawHere_15 : decode cX12_lawHere 15 = .ok (.ldc2_w 144, 3) := by decide +kernel
theorem dX12_lawHere_18 : decode cX12_lawHere 18 = .ok (.invokevirtual 128, 3) := by decide +kernel
theorem dX12_lawHere_21 : decode cX12_lawHere 21 = .ok (.ifCond .eq 7, 3) := by decide +kernel
theorem dX12_lawHere_24 : decode cX12_lawHere 24 = .ok (.iconst 1, 1) := by decide +kernel
theorem dX12_lawHere_25 : decode cX12_lawHere 25 = .ok (.goto 60, 3) := by decide +kernel
theorem dX12_lawHere_28 : decode cX12_lawHere 28 = .ok (.aload_n 0, 1) := by decide +kernel
theorem dX12_lawHere_29 : decode cX12_lawHere 29 = .ok (.ldc2_w 146, 3) := by decide +kernel
theorem dX12_lawHere_32 : decode cX12_lawHere 32 = .ok (.invokevirtual 128, 3) := by decide +kernel
theorem dX12_lawHere_35 : decode cX12_lawHere 35 = .ok (.ifCond .eq 7, 3) := by decide +kernel
theorem dX12_lawHere_38 : decode cX12_lawHere 38 = .ok (.iconst 2, 1) := by decide +kernel
theorem dX12_lawHere_39 : decode cX12_lawHere 39 = .ok (.goto 46, 3) := by decide +kernel
theorem dX12_lawHere_42 : decode cX12_lawHere 42 = .ok (.aload_n 0, 1) := by decide +kernel
theorem dX12_lawHere_43 : decode cX12_lawHere 43 = .ok (.ldc2_w 148, 3) := by decide +kernel
theorem dX12_lawHere_46 : decode cX12_lawHere 46 = .ok (.invokevirtual 128, 3) := by decide +kernel
theorem dX12_lawHere_49 : decode cX12_lawHere 49 = .ok (.ifCond .eq 7, 3) := by decide +kernel
theorem dX12_lawHere_52 : decode cX12_lawHere 52 = .ok (.iconst 3, 1) := by decide +kernel
theorem dX12_lawHere_53 : decode cX12_lawHere 53 = .ok (.goto 32, 3) := by decide +kernel
theorem dX12_lawHere_56 : decode cX12_lawHere 56 = .ok (.aload_n 0, 1) := by decide +kernel
theorem dX12_lawHere_57 : decode cX12_lawHere 57 = .ok (.ldc2_w 150, 3) := by decide +kernel
theorem dX12_lawHere_60 : decode cX12_lawHere 60 = .ok (.invokevirtual 128, 3) := by decide +kernel
theorem dX12_lawHere_63 : decode cX12_lawHere 63 = .ok (.ifCond .eq 7, 3) := by decide +kernel
theorem dX12_lawHere_66 : decode cX12_lawHere 66 = .ok (.iconst 4, 1) := by decide +kernel
theorem dX12_lawHere_67 : decode cX12_lawHere 67 = .ok (.goto 18, 3) := by decide +kernel
theorem dX12_lawHere_70 : decode cX12_lawHere 70 = .ok (.aload_n 0, 1) := by decide +kernel
theorem dX12_lawHere_71 : decode cX12_lawHere 71 = .ok (.ldc2_w 152, 3) := by decide +kernel
theorem dX12_lawHere_74 : decode cX12_lawHere 74 = .ok (.invokevirtual 128, 3) := by decide +kernel
theorem dX12_lawHere_77 : decode cX12_lawHere 77 = .ok (.ifCond .eq 7, 3) := by decide +kernel
theorem dX12_lawHere_80 : decode cX12_lawHere 80 = .ok (.iconst 5, 1) := by decide +kernel
theorem dX12_lawHere_81 : decode cX12_lawHere 81 = .ok (.goto 4, 3) := by decide +kernel
theorem dX12_lawHere_84 : decode cX12_lawHere 84 = .ok (.iconst (-1), 1) := by decide +kernel
theorem dX12_lawHere_85 : decode cX12_lawHere 85 = .ok (.ireturn, 1) := by decide +kernel
theorem dX12_wantNumber_0 : decode cX12_wantNumber 0 = .ok (.aload_n 0, 1) := by decide +kernel
theorem dX12_wantNumber_1 : decode cX12_wantNumber 1 = .ok (.getfield 117, 3) := by decide +kernel
theorem dX12_wantNumber_4 : decode cX12_wantNumber 4 = .ok (.istore_n 3, 1) := by decide +kernel
theorem dX12_wantNumber_5 : decode cX12_wantNumber 5 = .ok (.aload_n 0, 1) := by decide +kernel
theorem dX12_wantNumber_6 : decode cX12_wantNumber 6 = .ok (.aload_n 0, 1) := by decide +kernel
theorem dX12_wantNumber_7 : decode cX12_wantNumber 7 = .ok (.getfield 154, 3) := by decide +kernel
theorem dX12_wantNumber_10 : decode cX12_wantNumber 10 = .ok (.ifCond .eq 24, 3) := by decide +kernel
theorem dX12_wantNumber_13 : decode cX12_wantNumber 13 = .ok (.aload_n 0, 1) := by decide +kernel
theorem dX12_wantNumber_14 : decode cX12_wantNumber 14 = .ok (.getfield 110, 3) := by decide +kernel
theorem dX12_wantNumber_17 : decode cX12_wantNumber 17 = .ok (.iconst 2, 1) := by decide +kernel
theorem dX12_wantNumber_18 : decode cX12_wantNumber 18 = .ok (.if_icmp .ne 16, 3) := by decide +kernel
theorem dX12_wantNumber_21 : decode cX12_wantNumber 21 = .ok (.iload_n 3, 1) := by decide +kernel
theorem dX12_wantNumber_22 : decode cX12_wantNumber 22 = .ok (.iload_n 1, 1) := by decide +kernel
theorem dX12_wantNumber_23 : decode cX12_wantNumber 23 = .ok (.iload_n 2, 1) := by decide +kernel
theorem dX12_wantNumber_24 : decode cX12_wantNumber 24 = .ok (.invokestatic 84, 3) := by decide +kernel
theorem dX12_wantNumber_27 : decode cX12_wantNumber 27 = .ok (.ifCond .eq 7, 3) := by decide +kernel
theorem dX12_wantNumber_30 : decode cX12_wantNumber 30 = .ok (.iconst 1, 1) := by decide +kernel
theorem dX12_wantNumber_31 : decode cX12_wantNumber 31 = .ok (.goto 4, 3) := by decide +kernel
theorem dX12_wantNumber_34 : decode cX12_wantNumber 34 = .ok (.iconst 0, 1) := by decide +kernel
theorem dX12_wantNumber_35 : decode cX12_wantNumber 35 = .ok (.putfield 154, 3) := by decide +kernel
theorem dX12_wantNumber_38 : decode cX12_wantNumber 38 = .ok (.aload_n 0, 1) := by decide +kernel
theorem dX12_wantNumber_39 : decode cX12_wantNumber 39 = .ok (.getfield 154, 3) := by decide +kernel
theorem dX12_wantNumber_42 : decode cX12_wantNumber 42 = .ok (.ifCond .eq 7, 3) := by decide +kernel
theorem dX12_wantNumber_45 : decode cX12_wantNumber 45 = .ok (.aload_n 0, 1) := by decide +kernel
theorem dX12_wantNumber_46 : decode cX12_wantNumber 46 = .ok (.invokevirtual 158, 3) := by decide +kernel
theorem dX12_wantNumber_49 : decode cX12_wantNumber 49 = .ok (.iload_n 3, 1) := by decide +kernel
theorem dX12_wantNumber_50 : decode cX12_wantNumber 50 = .ok (.ireturn, 1) := by decide +kernel
theorem dX12_wantWord_0 : decode cX12_wantWord 0 = .ok (.aload_n 0, 1) := by decide +kernel
theorem dX12_wantWord_1 : decode cX12_wantWord 1 = .ok (.aload_n 0, 1) := by decide +kernel
theorem dX12_wantWord_2 : decode cX12_wantWord 2 = .ok (.getfield 154, 3) := by decide +kernel
theorem dX12_wantWord_5 : decode cX12_wantWord 5 = .ok (.ifCond .eq 15, 3) := by decide +kernel
theorem dX12_wantWord_8 : decode cX12_wantWord 8 = .ok (.aload_n 0, 1) := by decide +kernel
theorem dX12_wantWord_9 : decode cX12_wantWord 9 = .ok (.lload_n 1, 1) := by decide +kernel
theorem dX12_wantWord_10 : decode cX12_wantWord 10 = .ok (.invokevirtual 128, 3) := by decide +kernel
theorem dX12_wantWord_13 : decode cX12_wantWord 13 = .ok (.ifCond .eq 7, 3) := by decide +kernel
theorem dX12_wantWord_16 : decode cX12_wantWord 16 = .ok (.iconst 1, 1) := by decide +kernel
theorem dX12_wantWord_17 : decode cX12_wantWord 17 = .ok (.goto 4, 3) := by decide +kernel
theorem dX12_wantWord_20 : decode cX12_wantWord 20 = .ok (.iconst 0, 1) := by decide +kernel
theorem dX12_wantWord_21 : decode cX12_wantWord 21 = .ok (.putfield 154, 3) := by decide +kernel
theorem dX12_wantWord_24 : decode cX12_wantWord 24 = .ok (.aload_n 0, 1) := by decide +kernel
theorem dX12_wantWord_25 : decode cX12_wantWord 25 = .ok (.getfield 154, 3) := by decide +kernel
theorem dX12_wantWord_28 : decode cX12_wantWord 28 = .ok (.ifCond .eq 7, 3) := by decide +kernel
theorem dX12_wantWord_31 : decode cX12_wantWord 31 = .ok (.aload_n 0, 1) := by decide +kernel
theorem dX12_wantWord_32 : decode cX12_wantWord 32 = .ok (.invokevirtual 158, 3) := by decide +kernel
theorem dX12_wantWord_35 : decode cX12_wantWord 35 = .ok (.return_, 1) := by decide +kernel
theorem dX12_wantEnd_0 : decode cX12_wantEnd 0 = .ok (.aload_n 0, 1) := by decide +kernel
theorem dX12_wantEnd_1 : decode cX12_wantEnd 1 = .ok (.aload_n 0, 1) := by decide +kernel
theorem dX12_wantEnd_2 : decode cX12_wantEnd 2 = .ok (.getfield 154, 3) := by decide +kernel
theorem dX12_wantEnd_5 : decode cX12_wantEnd 5 = .ok (.ifCond .eq 16, 3) := by decide +kernel
theorem dX12_wantEnd_8 : decode cX12_wantEnd 8 = .ok (.aload_n 0, 1) := by decide +kernel
theorem dX12_wantEnd_9 : decode cX12_wantEnd 9 = .ok (.bipush 59, 2) := by decide +kernel
theorem dX12_wantEnd_11 : decode cX12_wantEnd 11 = .ok (.invokevirtual 161, 3) := by decide +kernel
theorem dX12_wantEnd_14 : decode cX12_wantEnd 14 = .ok (.ifCond .eq 7, 3) := by decide +kernel
theorem dX12_wantEnd_17 : decode cX12_wantEnd 17 = .ok (.iconst 1, 1) := by decide +kernel
theorem dX12_wantEnd_18 : decode cX12_wantEnd 18 = .ok (.goto 4, 3) := by decide +kernel
theorem dX12_wantEnd_21 : decode cX12_wantEnd 21 = .ok (.iconst 0, 1) := by decide +kernel
theorem dX12_wantEnd_22 : decode cX12_wantEnd 22 = .ok (.putfield 154, 3) := by decide +kernel
theorem dX12_wantEnd_25 : decode cX12_wantEnd 25 = .ok (.aload_n 0, 1) := by decide +kernel
theorem dX12_wantEnd_26 : decode cX12_wantEnd 26 = .ok (.getfield 154, 3) := by decide +kernel
theorem dX12_wantEnd_29 : decode cX12_wantEnd 29 = .ok (.ifCond .eq 7, 3) := by decide +kernel
theorem dX12_wantEnd_32 : decode cX12_wantEnd 32 = .ok (.aload_n 0, 1) := by decide +kernel
theorem dX12_wantEnd_33 : decode cX12_wantEnd 33 = .ok (.invokevirtual 158, 3) := by decide +kernel
theorem dX12_wantEnd_36 : decode cX12_wantEnd 36 = .ok (.return_, 1) := by decide +kernel
theorem dX12_wantCard_0 : decode cX12_wantCard 0 = .ok (.aload_n 0, 1) := by decide +kernel
theorem dX12_wantCard_1 : decode cX12_wantCard 1 = .ok (.aload_n 0, 1) := by decide +kernel
theorem dX12_wantCard_2 : decode cX12_wantCard 2 = .ok (.getfield 164, 3) := by decide +kernel
theorem dX12_wantCard_5 : decode cX12_wantCard 5 = .ok (.bipush 6, 2) := by decide +kernel
theorem dX12_wantCard_7 : decode cX12_wantCard 7 = .ok (.if_icmp .ge 7, 3) := by decide +kernel
theorem dX12_wantCard_10 : decode cX12_wantCard 10 = .ok (.iconst 1, 1) := by decide +kernel
theorem dX12_wantCard_11 : decode cX12_wantCard 11 = .ok (.goto 4, 3) := by decide +kernel
theorem dX12_wantCard_14 : decode cX12_wantCard 14 = .ok (.iconst 0, 1) := by decide +kernel
theorem dX12_wantCard_15 : decode cX12_wantCard 15 = .ok (.putfield 154, 3) := by decide +kernel
theorem dX12_wantCard_18 : decode cX12_wantCard 18 = .ok (.aload_n 0, 1) := by decide +kernel
theorem dX12_wantCard_19 : decode cX12_wantCard 19 = .ok (.getfield 154, 3) := by decide +kernel
theorem dX12_wantCard_22 : decode cX12_wantCard 22 = .ok (.ifCond .eq 7, 3) := by decide +kernel
theorem dX12_wantCard_25 : decode cX12_wantCard 25 = .ok (.aload_n 0, 1) := by decide +kernel
theorem dX12_wantCard_26 : decode cX12_wantCard 26 = .ok (.invokevirtual 158, 3) := by decide +kernel
theorem dX12_wantCard_29 : decode cX12_wantCard 29 = .ok (.aload_n 0, 1) := by decide +kernel
theorem dX12_wantCard_30 : decode cX12_wantCard 30 = .ok (.iconst 1, 1) := by decide +kernel
theorem dX12_wantCard_31 : decode cX12_wantCard 31 = .ok (.bipush 99, 2) := by decide +kernel
theorem dX12_wantCard_33 : decode cX12_wantCard 33 = .ok (.invokevirtual 167, 3) := by decide +kernel
theorem dX12_wantCard_36 : decode cX12_wantCard 36 = .ok (.istore_n 2, 1) := by decide +kernel
theorem dX12_wantCard_37 : decode cX12_wantCard 37 = .ok (.aload_n 0, 1) := by decide +kernel
theorem dX12_wantCard_38 : decode cX12_wantCard 38 = .ok (.ldc2_w 171, 3) := by decide +kernel
theorem dX12_wantCard_41 : decode cX12_wantCard 41 = .ok (.invokevirtual 173, 3) := by decide +kernel
theorem dX12_wantCard_44 : decode cX12_wantCard 44 = .ok (.aload_n 0, 1) := by decide +kernel
theorem dX12_wantCard_45 : decode cX12_wantCard 45 = .ok (.iconst 1, 1) := by decide +kernel
theorem dX12_wantCard_46 : decode cX12_wantCard 46 = .ok (.bipush 9, 2) := by decide +kernel
theorem dX12_wantCard_48 : decode cX12_wantCard 48 = .ok (.invokevirtual 167, 3) := by decide +kernel
theorem dX12_wantCard_51 : decode cX12_wantCard 51 = .ok (.istore_n 3, 1) := by decide +kernel
theorem dX12_wantCard_52 : decode cX12_wantCard 52 = .ok (.iconst 0, 1) := by decide +kernel
theorem dX12_wantCard_53 : decode cX12_wantCard 53 = .ok (.istore 4, 2) := by decide +kernel
theorem dX12_wantCard_55 : decode cX12_wantCard 55 = .ok (.aload_n 0, 1) := by decide +kernel
theorem dX12_wantCard_56 : decode cX12_wantCard 56 = .ok (.getfield 154, 3) := by decide +kernel
theorem dX12_wantCard_59 : decode cX12_wantCard 59 = .ok (.ifCond .eq 57, 3) := by decide +kernel
theorem dX12_wantCard_62 : decode cX12_wantCard 62 = .ok (.aload_n 0, 1) := by decide +kernel
theorem dX12_wantCard_63 : decode cX12_wantCard 63 = .ok (.ldc2_w 177, 3) := by decide +kernel
theorem dX12_wantCard_66 : decode cX12_wantCard 66 = .ok (.invokevirtual 128, 3) := by decide +kernel
theorem dX12_wantCard_69 : decode cX12_wantCard 69 = .ok (.ifCond .eq 47, 3) := by decide +kernel
theorem dX12_wantCard_72 : decode cX12_wantCard 72 = .ok (.aload_n 0, 1) := by decide +kernel
theorem dX12_wantCard_73 : decode cX12_wantCard 73 = .ok (.invokevirtual 158, 3) := by decide +kernel
theorem dX12_wantCard_76 : decode cX12_wantCard 76 = .ok (.aload_n 0, 1) := by decide +kernel
theorem dX12_wantCard_77 : decode cX12_wantCard 77 = .ok (.bipush 45, 2) := by decide +kernel
theorem dX12_wantCard_79 : decode cX12_wantCard 79 = .ok (.invokevirtual 161, 3) := by decide +kernel
theorem dX12_wantCard_82 : decode cX12_wantCard 82 = .ok (.istore 5, 2) := by decide +kernel
theorem dX12_wantCard_84 : decode cX12_wantCard 84 = .ok (.iload 5, 2) := by decide +kernel
theorem dX12_wantCard_86 : decode cX12_wantCard 86 = .ok (.ifCond .eq 7, 3) := by decide +kernel
theorem dX12_wantCard_89 : decode cX12_wantCard 89 = .ok (.aload_n 0, 1) := by decide +kernel
theorem dX12_wantCard_90 : decode cX12_wantCard 90 = .ok (.invokevirtual 158, 3) := by decide +kernel
theorem dX12_wantCard_93 : decode cX12_wantCard 93 = .ok (.aload_n 0, 1) := by decide +kernel
theorem dX12_wantCard_94 : decode cX12_wantCard 94 = .ok (.iconst 0, 1) := by decide +kernel
theorem dX12_wantCard_95 : decode cX12_wantCard 95 = .ok (.iconst 4, 1) := by decide +kernel
theorem dX12_wantCard_96 : decode cX12_wantCard 96 = .ok (.invokevirtual 167, 3) := by decide +kernel
theorem dX12_wantCard_99 : decode cX12_wantCard 99 = .ok (.istore 4, 2) := by decide +kernel
theorem dX12_wantCard_101 : decode cX12_wantCard 101 = .ok (.iload 5, 2) := by decide +kernel
theorem dX12_wantCard_103 : decode cX12_wantCard 103 = .ok (.ifCond .eq 9, 3) := by decide +kernel
theorem dX12_wantCard_106 : decode cX12_wantCard 106 = .ok (.iload 4, 2) := by decide +kernel
theorem dX12_wantCard_108 : decode cX12_wantCard 108 = .ok (.ineg, 1) := by decide +kernel
theorem dX12_wantCard_109 : decode cX12_wantCard 109 = .ok (.goto 5, 3) := by decide +kernel
theorem dX12_wantCard_112 : decode cX12_wantCard 112 = .ok (.iload 4, 2) := by decide +kernel
theorem dX12_wantCard_114 : decode cX12_wantCard 114 = .ok (.istore 4, 2) := by decide +kernel
theorem dX12_wantCard_116 : decode cX12_wantCard 116 = .ok (.aload_n 0, 1) := by decide +kernel
theorem dX12_wantCard_117 : decode cX12_wantCard 117 = .ok (.invokevirtual 179, 3) := by decide +kernel
theorem dX12_wantCard_120 : decode cX12_wantCard 120 = .ok (.aload_n 0, 1) := by decide +kernel
theorem dX12_wantCard_121 : decode cX12_wantCard 121 = .ok (.getfield 154, 3) := by decide +kernel
theorem dX12_wantCard_124 : decode cX12_wantCard 124 = .ok (.ifCond .eq 68, 3) := by decide +kernel
theorem dX12_wantCard_127 : decode cX12_wantCard 127 = .ok (.aload_n 0, 1) := by decide +kernel
theorem dX12_wantCard_128 : decode cX12_wantCard 128 = .ok (.getfield 32, 3) := by decide +kernel
theorem dX12_wantCard_131 : decode cX12_wantCard 131 = .ok (.iconst 4, 1) := by decide +kernel
theorem dX12_wantCard_132 : decode cX12_wantCard 132 = .ok (.aload_n 0, 1) := by decide +kernel
theorem dX12_wantCard_133 : decode cX12_wantCard 133 = .ok (.getfield 164, 3) := by decide +kernel
theorem dX12_wantCard_136 : decode cX12_wantCard 136 = .ok (.imul, 1) := by decide +kernel
theorem dX12_wantCard_137 : decode cX12_wantCard 137 = .ok (.iload_n 1, 1) := by decide +kernel
theorem dX12_wantCard_138 : decode cX12_wantCard 138 = .ok (.iastore, 1) := by decide +kernel
theorem dX12_wantCard_139 : decode cX12_wantCard 139 = .ok (.aload_n 0, 1) := by decide +kernel
theorem dX12_wantCard_140 : decode cX12_wantCard 140 = .ok (.getfield 32, 3) := by decide +kernel
theorem dX12_wantCard_143 : decode cX12_wantCard 143 = .ok (.iconst 4, 1) := by decide +kernel
theorem dX12_wantCard_144 : decode cX12_wantCard 144 = .ok (.aload_n 0, 1) := by decide +kernel
theorem dX12_wantCard_145 : decode cX12_wantCard 145 = .ok (.getfield 164, 3) := by decide +kernel
theorem dX12_wantCard_148 : decode cX12_wantCard 148 = .ok (.imul, 1) := by decide +kernel
theorem dX12_wantCard_149 : decode cX12_wantCard 149 = .ok (.iconst 1, 1) := by decide +kernel
theorem dX12_wantCard_150 : decode cX12_wantCard 150 = .ok (.iadd, 1) := by decide +kernel
theorem dX12_wantCard_151 : decode cX12_wantCard 151 = .ok (.iload_n 2, 1) := by decide +kernel
theorem dX12_wantCard_152 : decode cX12_wantCard 152 = .ok (.iastore, 1) := by decide +kernel
theorem dX12_wantCard_153 : decode cX12_wantCard 153 = .ok (.aload_n 0, 1) := by decide +kernel
theorem dX12_wantCard_154 : decode cX12_wantCard 154 = .ok (.getfield 32, 3) := by decide +kernel
theorem dX12_wantCard_157 : decode cX12_wantCard 157 = .ok (.iconst 4, 1) := by decide +kernel
theorem dX12_wantCard_158 : decode cX12_wantCard 158 = .ok (.aload_n 0, 1) := by decide +kernel
theorem dX12_wantCard_159 : decode cX12_wantCard 159 = .ok (.getfield 164, 3) := by decide +kernel
theorem dX12_wantCard_162 : decode cX12_wantCard 162 = .ok (.imul, 1) := by decide +kernel
theorem dX12_wantCard_163 : decode cX12_wantCard 163 = .ok (.iconst 2, 1) := by decide +kernel
theorem dX12_wantCard_164 : decode cX12_wantCard 164 = .ok (.iadd, 1) := by decide +kernel
theorem dX12_wantCard_165 : decode cX12_wantCard 165 = .ok (.iload_n 3, 1) := by decide +kernel
theorem dX12_wantCard_166 : decode cX12_wantCard 166 = .ok (.iastore, 1) := by decide +kernel
theorem dX12_wantCard_167 : decode cX12_wantCard 167 = .ok (.aload_n 0, 1) := by decide +kernel
theorem dX12_wantCard_168 : decode cX12_wantCard 168 = .ok (.getfield 32, 3) := by decide +kernel
theorem dX12_wantCard_171 : decode cX12_wantCard 171 = .ok (.iconst 4, 1) := by decide +kernel
theorem dX12_wantCard_172 : decode cX12_wantCard 172 = .ok (.aload_n 0, 1) := by decide +kernel
theorem dX12_wantCard_173 : decode cX12_wantCard 173 = .ok (.getfield 164, 3) := by decide +kernel
theorem dX12_wantCard_176 : decode cX12_wantCard 176 = .ok (.imul, 1) := by decide +kernel
theorem dX12_wantCard_177 : decode cX12_wantCard 177 = .ok (.iconst 3, 1) := by decide +kernel
theorem dX12_wantCard_178 : decode cX12_wantCard 178 = .ok (.iadd, 1) := by decide +kernel
theorem dX12_wantCard_179 : decode cX12_wantCard 179 = .ok (.iload 4, 2) := by decide +kernel
theorem dX12_wantCard_181 : decode cX12_wantCard 181 = .ok (.iastore, 1) := by decide +kernel
theorem dX12_wantCard_182 : decode cX12_wantCard 182 = .ok (.aload_n 0, 1) := by decide +kernel
theorem dX12_wantCard_183 : decode cX12_wantCard 183 = .ok (.dup, 1) := by decide +kernel
theorem dX12_wantCard_184 : decode cX12_wantCard 184 = .ok (.getfield 164, 3) := by decide +kernel
theorem dX12_wantCard_187 : decode cX12_wantCard 187 = .ok (.iconst 1, 1) := by decide +kernel
theorem dX12_wantCard_188 : decode cX12_wantCard 188 = .ok (.iadd, 1) := by decide +kernel
theorem dX12_wantCard_189 : decode cX12_wantCard 189 = .ok (.putfield 164, 3) := by decide +kernel
theorem dX12_wantCard_192 : decode cX12_wantCard 192 = .ok (.return_, 1) := by decide +kernel
theorem dX12_wantHand_0 : decode cX12_wantHand 0 = .ok (.aload_n 0, 1) := by decide +kernel
theorem dX12_wantHand_1 : decode cX12_wantHand 1 = .ok (.invokevirtual 158, 3) := by decide +kernel
theorem dX12_wantHand_4 : decode cX12_wantHand 4 = .ok (.iconst 0, 1) := by decide +kernel
theorem dX12_wantHand_5 : decode cX12_wantHand 5 = .ok (.istore_n 1, 1) := by decide +kernel
theorem dX12_wantHand_6 : decode cX12_wantHand 6 = .ok (.iconst 0, 1) := by decide +kernel
theorem dX12_wantHand_7 : decode cX12_wantHand 7 = .ok (.istore_n 2, 1) := by decide +kernel
theorem dX12_wantHand_8 : decode cX12_wantHand 8 = .ok (.iload_n 2, 1) := by decide +kernel
theorem dX12_wantHand_9 : decode cX12_wantHand 9 = .ok (.iconst 5, 1) := by decide +kernel
theorem dX12_wantHand_10 : decode cX12_wantHand 10 = .ok (.if_icmp .ge 81, 3) := by decide +kernel
theorem dX12_wantHand_13 : decode cX12_wantHand 13 = .ok (.aload_n 0, 1) := by decide +kernel
theorem dX12_wantHand_14 : decode cX12_wantHand 14 = .ok (.getfield 154, 3) := by decide +kernel
theorem dX12_wantHand_17 : decode cX12_wantHand 17 = .ok (.ifCond .eq 74, 3) := by decide +kernel
theorem dX12_wantHand_20 : decode cX12_wantHand 20 = .ok (.aload_n 0, 1) := by decide +kernel
theorem dX12_wantHand_21 : decode cX12_wantHand 21 = .ok (.getfield 117, 3) := by decide +kernel
theorem dX12_wantHand_24 : decode cX12_wantHand 24 = .ok (.istore_n 3, 1) := by decide +kernel
theorem dX12_wantHand_25 : decode cX12_wantHand 25 = .ok (.aload_n 0, 1) := by decide +kernel
theorem dX12_wantHand_26 : decode cX12_wantHand 26 = .ok (.aload_n 0, 1) := by decide +kernel
theorem dX12_wantHand_27 : decode cX12_wantHand 27 = .ok (.getfield 110, 3) := by decide +kernel
theorem dX12_wantHand_30 : decode cX12_wantHand 30 = .ok (.iconst 2, 1) := by decide +kernel
theorem dX12_wantHand_31 : decode cX12_wantHand 31 = .ok (.if_icmp .ne 28, 3) := by decide +kernel
theorem dX12_wantHand_34 : decode cX12_wantHand 34 = .ok (.iload_n 3, 1) := by decide +kernel
theorem dX12_wantHand_35 : decode cX12_wantHand 35 = .ok (.iconst 0, 1) := by decide +kernel
theorem dX12_wantHand_36 : decode cX12_wantHand 36 = .ok (.bipush 9, 2) := by decide +kernel
theorem dX12_wantHand_38 : decode cX12_wantHand 38 = .ok (.invokestatic 84, 3) := by decide +kernel
theorem dX12_wantHand_41 : decode cX12_wantHand 41 = .ok (.ifCond .eq 18, 3) := by decide +kernel
theorem dX12_wantHand_44 : decode cX12_wantHand 44 = .ok (.iload_n 2, 1) := by decide +kernel
theorem dX12_wantHand_45 : decode cX12_wantHand 45 = .ok (.iconst 4, 1) := by decide +kernel
theorem dX12_wantHand_46 : decode cX12_wantHand 46 = .ok (.if_icmp .lt 9, 3) := by decide +kernel
theorem dX12_wantHand_49 : decode cX12_wantHand 49 = .ok (.iload_n 1, 1) := by decide +kernel
theorem dX12_wantHand_50 : decode cX12_wantHand 50 = .ok (.iload_n 3, 1) := by decide +kernel
theorem dX12_wantHand_51 : decode cX12_wantHand 51 = .ok (.iadd, 1) := by decide +kernel
theorem dX12_wantHand_52 : decode cX12_wantHand 52 = .ok (.ifCond .le 7, 3) := by decide +kernel
theorem dX12_wantHand_55 : decode cX12_wantHand 55 = .ok (.iconst 1, 1) := by decide +kernel
theorem dX12_wantHand_56 : decode cX12_wantHand 56 = .ok (.goto 4, 3) := by decide +kernel
theorem dX12_wantHand_59 : decode cX12_wantHand 59 = .ok (.iconst 0, 1) := by decide +kernel
theorem dX12_wantHand_60 : decode cX12_wantHand 60 = .ok (.putfield 154, 3) := by decide +kernel
theorem dX12_wantHand_63 : decode cX12_wantHand 63 = .ok (.iload_n 1, 1) := by decide +kernel
theorem dX12_wantHand_64 : decode cX12_wantHand 64 = .ok (.iload_n 3, 1) := by decide +kernel
theorem dX12_wantHand_65 : decode cX12_wantHand 65 = .ok (.iadd, 1) := by decide +kernel
theorem dX12_wantHand_66 : decode cX12_wantHand 66 = .ok (.istore_n 1, 1) := by decide +kernel
theorem dX12_wantHand_67 : decode cX12_wantHand 67 = .ok (.aload_n 0, 1) := by decide +kernel
theorem dX12_wantHand_68 : decode cX12_wantHand 68 = .ok (.getfield 38, 3) := by decide +kernel
theorem dX12_wantHand_71 : decode cX12_wantHand 71 = .ok (.iload_n 2, 1) := by decide +kernel
theorem dX12_wantHand_72 : decode cX12_wantHand 72 = .ok (.iload_n 3, 1) := by decide +kernel
theorem dX12_wantHand_73 : decode cX12_wantHand 73 = .ok (.iastore, 1) := by decide +kernel
theorem dX12_wantHand_74 : decode cX12_wantHand 74 = .ok (.aload_n 0, 1) := by decide +kernel
theorem dX12_wantHand_75 : decode cX12_wantHand 75 = .ok (.getfield 154, 3) := by decide +kernel
theorem dX12_wantHand_78 : decode cX12_wantHand 78 = .ok (.ifCond .eq 7, 3) := by decide +kernel
theorem dX12_wantHand_81 : decode cX12_wantHand 81 = .ok (.aload_n 0, 1) := by decide +kernel
theorem dX12_wantHand_82 : decode cX12_wantHand 82 = .ok (.invokevirtual 158, 3) := by decide +kernel
theorem dX12_wantHand_85 : decode cX12_wantHand 85 = .ok (.iinc 2 1, 3) := by decide +kernel
theorem dX12_wantHand_88 : decode cX12_wantHand 88 = .ok (.goto (-80), 3) := by decide +kernel
theorem dX12_wantHand_91 : decode cX12_wantHand 91 = .ok (.aload_n 0, 1) := by decide +kernel
theorem dX12_wantHand_92 : decode cX12_wantHand 92 = .ok (.invokevirtual 179, 3) := by decide +kernel
theorem dX12_wantHand_95 : decode cX12_wantHand 95 = .ok (.return_, 1) := by decide +kernel
theorem dX12_cards_0 : decode cX12_cards 0 = .ok (.aload_n 0, 1) := by decide +kernel
theorem dX12_cards_1 : decode cX12_cards 1 = .ok (.iconst 0, 1) := by decide +kernel
theorem dX12_cards_2 : decode cX12_cards 2 = .ok (.putfield 93, 3) := by decide +kernel
theorem dX12_cards_5 : decode cX12_cards 5 = .ok (.aload_n 0, 1) := by decide +kernel
theorem dX12_cards_6 : decode cX12_cards 6 = .ok (.iconst 1, 1) := by decide +kernel
theorem dX12_cards_7 : decode cX12_cards 7 = .ok (.putfield 154, 3) := by decide +kernel
theorem dX12_cards_10 : decode cX12_cards 10 = .ok (.aload_n 0, 1) := by decide +kernel
theorem dX12_cards_11 : decode cX12_cards 11 = .ok (.iconst 0, 1) := by decide +kernel
theorem dX12_cards_12 : decode cX12_cards 12 = .ok (.putfield 164, 3) := by decide +kernel
theorem dX12_cards_15 : decode cX12_cards 15 = .ok (.iconst 0, 1) := by decide +kernel
theorem dX12_cards_16 : decode cX12_cards 16 = .ok (.istore_n 1, 1) := by decide +kernel
theorem dX12_cards_17 : decode cX12_cards 17 = .ok (.iload_n 1, 1) := by decide +kernel
theorem dX12_cards_18 : decode cX12_cards 18 = .ok (.bipush 6, 2) := by decide +kernel
theorem dX12_cards_20 : decode cX12_cards 20 = .ok (.if_icmp .ge 21, 3) := by decide +kernel
theorem dX12_cards_23 : decode cX12_cards 23 = .ok (.aload_n 0, 1) := by decide +kernel
theorem dX12_cards_24 : decode cX12_cards 24 = .ok (.getfield 35, 3) := by decide +kernel
theorem dX12_cards_27 : decode cX12_cards 27 = .ok (.iload_n 1, 1) := by decide +kernel
theorem dX12_cards_28 : decode cX12_cards 28 = .ok (.aload_n 0, 1) := by decide +kernel
theorem dX12_cards_29 : decode cX12_cards 29 = .ok (.getfield 13, 3) := by decide +kernel
theorem dX12_cards_32 : decode cX12_cards 32 = .ok (.iload_n 1, 1) := by decide +kernel
theorem dX12_cards_33 : decode cX12_cards 33 = .ok (.iaload, 1) := by decide +kernel
theorem dX12_cards_34 : decode cX12_cards 34 = .ok (.iastore, 1) := by decide +kernel
theorem dX12_cards_35 : decode cX12_cards 35 = .ok (.iinc 1 1, 3) := by decide +kernel
theorem dX12_cards_38 : decode cX12_cards 38 = .ok (.goto (-21), 3) := by decide +kernel
theorem dX12_cards_41 : decode cX12_cards 41 = .ok (.iconst 0, 1) := by decide +kernel
theorem dX12_cards_42 : decode cX12_cards 42 = .ok (.istore_n 1, 1) := by decide +kernel
theorem dX12_cards_43 : decode cX12_cards 43 = .ok (.iload_n 1, 1) := by decide +kernel
theorem dX12_cards_44 : decode cX12_cards 44 = .ok (.iconst 5, 1) := by decide +kernel
theorem dX12_cards_45 : decode cX12_cards 45 = .ok (.if_icmp .ge 21, 3) := by decide +kernel
theorem dX12_cards_48 : decode cX12_cards 48 = .ok (.aload_n 0, 1) := by decide +kernel
theorem dX12_cards_49 : decode cX12_cards 49 = .ok (.getfield 38, 3) := by decide +kernel
theorem dX12_cards_52 : decode cX12_cards 52 = .ok (.iload_n 1, 1) := by decide +kernel
theorem dX12_cards_53 : decode cX12_cards 53 = .ok (.aload_n 0, 1) := by decide +kernel
theorem dX12_cards_54 : decode cX12_cards 54 = .ok (.getfield 16, 3) := by decide +kernel
theorem dX12_cards_57 : decode cX12_cards 57 = .ok (.iload_n 1, 1) := by decide +kernel
theorem dX12_cards_58 : decode cX12_cards 58 = .ok (.iaload, 1) := by decide +kernel
theorem dX12_cards_59 : decode cX12_cards 59 = .ok (.iastore, 1) := by decide +kernel
theorem dX12_cards_60 : decode cX12_cards 60 = .ok (.iinc 1 1, 3) := by decide +kernel
theorem dX12_cards_63 : decode cX12_cards 63 = .ok (.goto (-20), 3) := by decide +kernel
theorem dX12_cards_66 : decode cX12_cards 66 = .ok (.aload_n 0, 1) := by decide +kernel
theorem dX12_cards_67 : decode cX12_cards 67 = .ok (.invokevirtual 158, 3) := by decide +kernel
theorem dX12_cards_70 : decode cX12_cards 70 = .ok (.aload_n 0, 1) := by decide +kernel
theorem dX12_cards_71 : decode cX12_cards 71 = .ok (.getfield 154, 3) := by decide +kernel
theorem dX12_cards_74 : decode cX12_cards 74 = .ok (.ifCond .eq 89, 3) := by decide +kernel
theorem dX12_cards_77 : decode cX12_cards 77 = .ok (.aload_n 0, 1) := by decide +kernel
theorem dX12_cards_78 : decode cX12_cards 78 = .ok (.getfield 110, 3) := by decide +kernel
theorem dX12_cards_81 : decode cX12_cards 81 = .ok (.ifCond .eq 82, 3) := by decide +kernel
theorem dX12_cards_84 : decode cX12_cards 84 = .ok (.aload_n 0, 1) := by decide +kernel
theorem dX12_cards_85 : decode cX12_cards 85 = .ok (.invokevirtual 182, 3) := by decide +kernel
theorem dX12_cards_88 : decode cX12_cards 88 = .ok (.ifCond .lt 14, 3) := by decide +kernel
theorem dX12_cards_91 : decode cX12_cards 91 = .ok (.aload_n 0, 1) := by decide +kernel
theorem dX12_cards_92 : decode cX12_cards 92 = .ok (.aload_n 0, 1) := by decide +kernel
theorem dX12_cards_93 : decode cX12_cards 93 = .ok (.invokevirtual 182, 3) := by decide +kernel
theorem dX12_cards_96 : decode cX12_cards 96 = .ok (.invokevirtual 186, 3) := by decide +kernel
theorem dX12_cards_99 : decode cX12_cards 99 = .ok (.goto (-29), 3) := by decide +kernel
theorem dX12_cards_102 : decode cX12_cards 102 = .ok (.aload_n 0, 1) := by decide +kernel
theorem dX12_cards_103 : decode cX12_cards 103 = .ok (.invokevirtual 190, 3) := by decide +kernel
theorem dX12_cards_106 : decode cX12_cards 106 = .ok (.ifCond .lt 32, 3) := by decide +kernel
theorem dX12_cards_109 : decode cX12_cards 109 = .ok (.aload_n 0, 1) := by decide +kernel
theorem dX12_cards_110 : decode cX12_cards 110 = .ok (.invokevirtual 190, 3) := by decide +kernel
theorem dX12_cards_113 : decode cX12_cards 113 = .ok (.istore_n 1, 1) := by decide +kernel
theorem dX12_cards_114 : decode cX12_cards 114 = .ok (.aload_n 0, 1) := by decide +kernel
theorem dX12_cards_115 : decode cX12_cards 115 = .ok (.invokevirtual 158, 3) := by decide +kernel
theorem dX12_cards_118 : decode cX12_cards 118 = .ok (.aload_n 0, 1) := by decide +kernel
theorem dX12_cards_119 : decode cX12_cards 119 = .ok (.getfield 35, 3) := by decide +kernel
theorem dX12_cards_122 : decode cX12_cards 122 = .ok (.iload_n 1, 1) := by decide +kernel
theorem dX12_cards_123 : decode cX12_cards 123 = .ok (.aload_n 0, 1) := by decide +kernel
theorem dX12_cards_124 : decode cX12_cards 124 = .ok (.iconst 0, 1) := by decide +kernel
theorem dX12_cards_125 : decode cX12_cards 125 = .ok (.bipush 63, 2) := by decide +kernel
theorem dX12_cards_127 : decode cX12_cards 127 = .ok (.invokevirtual 167, 3) := by decide +kernel
theorem dX12_cards_130 : decode cX12_cards 130 = .ok (.iastore, 1) := by decide +kernel
theorem dX12_cards_131 : decode cX12_cards 131 = .ok (.aload_n 0, 1) := by decide +kernel
theorem dX12_cards_132 : decode cX12_cards 132 = .ok (.invokevirtual 179, 3) := by decide +kernel
theorem dX12_cards_135 : decode cX12_cards 135 = .ok (.goto (-65), 3) := by decide +kernel
theorem dX12_cards_138 : decode cX12_cards 138 = .ok (.aload_n 0, 1) := by decide +kernel
theorem dX12_cards_139 : decode cX12_cards 139 = .ok (.ldc2_w 193, 3) := by decide +kernel
theorem dX12_cards_142 : decode cX12_cards 142 = .ok (.invokevirtual 128, 3) := by decide +kernel
theorem dX12_cards_145 : decode cX12_cards 145 = .ok (.ifCond .eq 10, 3) := by decide +kernel
theorem dX12_cards_148 : decode cX12_cards 148 = .ok (.aload_n 0, 1) := by decide +kernel
theorem dX12_cards_149 : decode cX12_cards 149 = .ok (.invokevirtual 195, 3) := by decide +kernel
theorem dX12_cards_152 : decode cX12_cards 152 = .ok (.goto (-82), 3) := by decide +kernel
theorem dX12_cards_155 : decode cX12_cards 155 = .ok (.aload_n 0, 1) := by decide +kernel
theorem dX12_cards_156 : decode cX12_cards 156 = .ok (.iconst 0, 1) := by decide +kernel
theorem dX12_cards_157 : decode cX12_cards 157 = .ok (.putfield 154, 3) := by decide +kernel
theorem dX12_cards_160 : decode cX12_cards 160 = .ok (.goto (-90), 3) := by decide +kernel
theorem dX12_cards_163 : decode cX12_cards 163 = .ok (.aload_n 0, 1) := by decide +kernel
theorem dX12_cards_164 : decode cX12_cards 164 = .ok (.iconst 0, 1) := by decide +kernel
theorem dX12_cards_165 : decode cX12_cards 165 = .ok (.putfield 88, 3) := by decide +kernel
theorem dX12_cards_168 : decode cX12_cards 168 = .ok (.aload_n 0, 1) := by decide +kernel
theorem dX12_cards_169 : decode cX12_cards 169 = .ok (.getfield 154, 3) := by decide +kernel
theorem dX12_cards_172 : decode cX12_cards 172 = .ok (.ifCond .ne 11, 3) := by decide +kernel
theorem dX12_cards_175 : decode cX12_cards 175 = .ok (.bipush (-100), 2) := by decide +kernel
theorem dX12_cards_177 : decode cX12_cards 177 = .ok (.aload_n 0, 1) := by decide +kernel
theorem dX12_cards_178 : decode cX12_cards 178 = .ok (.getfield 96, 3) := by decide +kernel
theorem dX12_cards_181 : decode cX12_cards 181 = .ok (.isub, 1) := by decide +kernel
theorem dX12_cards_182 : decode cX12_cards 182 = .ok (.ireturn, 1) := by decide +kernel
theorem dX12_cards_183 : decode cX12_cards 183 = .ok (.aload_n 0, 1) := by decide +kernel
theorem dX12_cards_184 : decode cX12_cards 184 = .ok (.aload_n 0, 1) := by decide +kernel
theorem dX12_cards_185 : decode cX12_cards 185 = .ok (.getfield 164, 3) := by decide +kernel
theorem dX12_cards_188 : decode cX12_cards 188 = .ok (.putfield 81, 3) := by decide +kernel
theorem dX12_cards_191 : decode cX12_cards 191 = .ok (.iconst 0, 1) := by decide +kernel
theorem dX12_cards_192 : decode cX12_cards 192 = .ok (.istore_n 1, 1) := by decide +kernel
theorem dX12_cards_193 : decode cX12_cards 193 = .ok (.iload_n 1, 1) := by decide +kernel
theorem dX12_cards_194 : decode cX12_cards 194 = .ok (.bipush 24, 2) := by decide +kernel
theorem dX12_cards_196 : decode cX12_cards 196 = .ok (.if_icmp .ge 21, 3) := by decide +kernel
theorem dX12_cards_199 : decode cX12_cards 199 = .ok (.aload_n 0, 1) := by decide +kernel
theorem dX12_cards_200 : decode cX12_cards 200 = .ok (.getfield 7, 3) := by decide +kernel
theorem dX12_cards_203 : decode cX12_cards 203 = .ok (.iload_n 1, 1) := by decide +kernel
theorem dX12_cards_204 : decode cX12_cards 204 = .ok (.aload_n 0, 1) := by decide +kernel
theorem dX12_cards_205 : decode cX12_cards 205 = .ok (.getfield 32, 3) := by decide +kernel
theorem dX12_cards_208 : decode cX12_cards 208 = .ok (.iload_n 1, 1) := by decide +kernel
theorem dX12_cards_209 : decode cX12_cards 209 = .ok (.iaload, 1) := by decide +kernel
theorem dX12_cards_210 : decode cX12_cards 210 = .ok (.iastore, 1) := by decide +kernel
theorem dX12_cards_211 : decode cX12_cards 211 = .ok (.iinc 1 1, 3) := by decide +kernel
theorem dX12_cards_214 : decode cX12_cards 214 = .ok (.goto (-21), 3) := by decide +kernel
theorem dX12_cards_217 : decode cX12_cards 217 = .ok (.iconst 0, 1) := by decide +kernel
theorem dX12_cards_218 : decode cX12_cards 218 = .ok (.istore_n 1, 1) := by decide +kernel
theorem dX12_cards_219 : decode cX12_cards 219 = .ok (.iload_n 1, 1) := by decide +kernel
theorem dX12_cards_220 : decode cX12_cards 220 = .ok (.bipush 6, 2) := by decide +kernel
theorem dX12_cards_222 : decode cX12_cards 222 = .ok (.if_icmp .ge 21, 3) := by decide +kernel
theorem dX12_cards_225 : decode cX12_cards 225 = .ok (.aload_n 0, 1) := by decide +kernel
theorem dX12_cards_226 : decode cX12_cards 226 = .ok (.getfield 13, 3) := by decide +kernel
theorem dX12_cards_229 : decode cX12_cards 229 = .ok (.iload_n 1, 1) := by decide +kernel
theorem dX12_cards_230 : decode cX12_cards 230 = .ok (.aload_n 0, 1) := by decide +kernel
theorem dX12_cards_231 : decode cX12_cards 231 = .ok (.getfield 35, 3) := by decide +kernel
theorem dX12_cards_234 : decode cX12_cards 234 = .ok (.iload_n 1, 1) := by decide +kernel
theorem dX12_cards_235 : decode cX12_cards 235 = .ok (.iaload, 1) := by decide +kernel
theorem dX12_cards_236 : decode cX12_cards 236 = .ok (.iastore, 1) := by decide +kernel
theorem dX12_cards_237 : decode cX12_cards 237 = .ok (.iinc 1 1, 3) := by decide +kernel
theorem dX12_cards_240 : decode cX12_cards 240 = .ok (.goto (-21), 3) := by decide +kernel
theorem dX12_cards_243 : decode cX12_cards 243 = .ok (.iconst 0, 1) := by decide +kernel
theorem dX12_cards_244 : decode cX12_cards 244 = .ok (.istore_n 1, 1) := by decide +kernel
theorem dX12_cards_245 : decode cX12_cards 245 = .ok (.iload_n 1, 1) := by decide +kernel
theorem dX12_cards_246 : decode cX12_cards 246 = .ok (.iconst 5, 1) := by decide +kernel
theorem dX12_cards_247 : decode cX12_cards 247 = .ok (.if_icmp .ge 21, 3) := by decide +kernel
theorem dX12_cards_250 : decode cX12_cards 250 = .ok (.aload_n 0, 1) := by decide +kernel
theorem dX12_cards_251 : decode cX12_cards 251 = .ok (.getfield 16, 3) := by decide +kernel
theorem dX12_cards_254 : decode cX12_cards 254 = .ok (.iload_n 1, 1) := by decide +kernel
theorem dX12_cards_255 : decode cX12_cards 255 = .ok (.aload_n 0, 1) := by decide +kernel
theorem dX12_cards_256 : decode cX12_cards 256 = .ok (.getfield 38, 3) := by decide +kernel
theorem dX12_cards_259 : decode cX12_cards 259 = .ok (.iload_n 1, 1) := by decide +kernel
theorem dX12_cards_260 : decode cX12_cards 260 = .ok (.iaload, 1) := by decide +kernel
theorem dX12_cards_261 : decode cX12_cards 261 = .ok (.iastore, 1) := by decide +kernel
theorem dX12_cards_262 : decode cX12_cards 262 = .ok (.iinc 1 1, 3) := by decide +kernel
theorem dX12_cards_265 : decode cX12_cards 265 = .ok (.goto (-20), 3) := by decide +kernel
theorem dX12_cards_268 : decode cX12_cards 268 = .ok (.aload_n 0, 1) := by decide +kernel
theorem dX12_cards_269 : decode cX12_cards 269 = .ok (.getfield 26, 3) := by decide +kernel
theorem dX12_cards_272 : decode cX12_cards 272 = .ok (.iconst 0, 1) := by decide +kernel
theorem dX12_cards_273 : decode cX12_cards 273 = .ok (.iconst (-1), 1) := by decide +kernel
theorem dX12_cards_274 : decode cX12_cards 274 = .ok (.iastore, 1) := by decide +kernel
theorem dX12_cards_275 : decode cX12_cards 275 = .ok (.aload_n 0, 1) := by decide +kernel
theorem dX12_cards_276 : decode cX12_cards 276 = .ok (.iconst 0, 1) := by decide +kernel
theorem dX12_cards_277 : decode cX12_cards 277 = .ok (.putfield 198, 3) := by decide +kernel
theorem dX12_cards_280 : decode cX12_cards 280 = .ok (.aload_n 0, 1) := by decide +kernel
theorem dX12_cards_281 : decode cX12_cards 281 = .ok (.getfield 81, 3) := by decide +kernel
theorem dX12_cards_284 : decode cX12_cards 284 = .ok (.ireturn, 1) := by decide +kernel
theorem dX12_card_0 : decode cX12_card 0 = .ok (.iload_n 1, 1) := by decide +kernel
theorem dX12_card_1 : decode cX12_card 1 = .ok (.iload_n 2, 1) := by decide +kernel
theorem dX12_card_2 : decode cX12_card 2 = .ok (.iload_n 3, 1) := by decide +kernel
theorem dX12_card_3 : decode cX12_card 3 = .ok (.iload 4, 2) := by decide +kernel
theorem dX12_card_5 : decode cX12_card 5 = .ok (.invokestatic 201, 3) := by decide +kernel
theorem dX12_card_8 : decode cX12_card 8 = .ok (.ifCond .ne 5, 3) := by decide +kernel
theorem dX12_card_11 : decode cX12_card 11 = .ok (.iconst (-1), 1) := by decide +kernel
theorem dX12_card_12 : decode cX12_card 12 = .ok (.ireturn, 1) := by decide +kernel
theorem dX12_card_13 : decode cX12_card 13 = .ok (.aload_n 0, 1) := by decide +kernel
theorem dX12_card_14 : decode cX12_card 14 = .ok (.getfield 81, 3) := by decide +kernel
theorem dX12_card_17 : decode cX12_card 17 = .ok (.bipush 6, 2) := by decide +kernel
theorem dX12_card_19 : decode cX12_card 19 = .ok (.if_icmp .ne 6, 3) := by decide +kernel
theorem dX12_card_22 : decode cX12_card 22 = .ok (.bipush (-2), 2) := by decide +kernel
theorem dX12_card_24 : decode cX12_card 24 = .ok (.ireturn, 1) := by decide +kernel
theorem dX12_card_25 : decode cX12_card 25 = .ok (.aload_n 0, 1) := by decide +kernel
theorem dX12_card_26 : decode cX12_card 26 = .ok (.getfield 7, 3) := by decide +kernel
theorem dX12_card_29 : decode cX12_card 29 = .ok (.iconst 4, 1) := by decide +kernel
theorem dX12_card_30 : decode cX12_card 30 = .ok (.aload_n 0, 1) := by decide +kernel
theorem dX12_card_31 : decode cX12_card 31 = .ok (.getfield 81, 3) := by decide +kernel
theorem dX12_card_34 : decode cX12_card 34 = .ok (.imul, 1) := by decide +kernel
theorem dX12_card_35 : decode cX12_card 35 = .ok (.iload_n 1, 1) := by decide +kernel
theorem dX12_card_36 : decode cX12_card 36 = .ok (.iastore, 1) := by decide +kernel
theorem dX12_card_37 : decode cX12_card 37 = .ok (.aload_n 0, 1) := by decide +kernel
theorem dX12_card_38 : decode cX12_card 38 = .ok (.getfield 7, 3) := by decide +kernel
theorem dX12_card_41 : decode cX12_card 41 = .ok (.iconst 4, 1) := by decide +kernel
theorem dX12_card_42 : decode cX12_card 42 = .ok (.aload_n 0, 1) := by decide +kernel
theorem dX12_card_43 : decode cX12_card 43 = .ok (.getfield 81, 3) := by decide +kernel
theorem dX12_card_46 : decode cX12_card 46 = .ok (.imul, 1) := by decide +kernel
theorem dX12_card_47 : decode cX12_card 47 = .ok (.iconst 1, 1) := by decide +kernel
theorem dX12_card_48 : decode cX12_card 48 = .ok (.iadd, 1) := by decide +kernel
theorem dX12_card_49 : decode cX12_card 49 = .ok (.iload_n 2, 1) := by decide +kernel
theorem dX12_card_50 : decode cX12_card 50 = .ok (.iastore, 1) := by decide +kernel
theorem dX12_card_51 : decode cX12_card 51 = .ok (.aload_n 0, 1) := by decide +kernel
theorem dX12_card_52 : decode cX12_card 52 = .ok (.getfield 7, 3) := by decide +kernel
theorem dX12_card_55 : decode cX12_card 55 = .ok (.iconst 4, 1) := by decide +kernel
theorem dX12_card_56 : decode cX12_card 56 = .ok (.aload_n 0, 1) := by decide +kernel
theorem dX12_card_57 : decode cX12_card 57 = .ok (.getfield 81, 3) := by decide +kernel
theorem dX12_card_60 : decode cX12_card 60 = .ok (.imul, 1) := by decide +kernel
theorem dX12_card_61 : decode cX12_card 61 = .ok (.iconst 2, 1) := by decide +kernel
theorem dX12_card_62 : decode cX12_card 62 = .ok (.iadd, 1) := by decide +kernel
theorem dX12_card_63 : decode cX12_card 63 = .ok (.iload_n 3, 1) := by decide +kernel
theorem dX12_card_64 : decode cX12_card 64 = .ok (.iastore, 1) := by decide +kernel
theorem dX12_card_65 : decode cX12_card 65 = .ok (.aload_n 0, 1) := by decide +kernel
theorem dX12_card_66 : decode cX12_card 66 = .ok (.getfield 7, 3) := by decide +kernel
theorem dX12_card_69 : decode cX12_card 69 = .ok (.iconst 4, 1) := by decide +kernel
theorem dX12_card_70 : decode cX12_card 70 = .ok (.aload_n 0, 1) := by decide +kernel
theorem dX12_card_71 : decode cX12_card 71 = .ok (.getfield 81, 3) := by decide +kernel
theorem dX12_card_74 : decode cX12_card 74 = .ok (.imul, 1) := by decide +kernel
theorem dX12_card_75 : decode cX12_card 75 = .ok (.iconst 3, 1) := by decide +kernel
theorem dX12_card_76 : decode cX12_card 76 = .ok (.iadd, 1) := by decide +kernel
theorem dX12_card_77 : decode cX12_card 77 = .ok (.iload 4, 2) := by decide +kernel
theorem dX12_card_79 : decode cX12_card 79 = .ok (.iastore, 1) := by decide +kernel
theorem dX12_card_80 : decode cX12_card 80 = .ok (.aload_n 0, 1) := by decide +kernel
theorem dX12_card_81 : decode cX12_card 81 = .ok (.dup, 1) := by decide +kernel
theorem dX12_card_82 : decode cX12_card 82 = .ok (.getfield 81, 3) := by decide +kernel
theorem dX12_card_85 : decode cX12_card 85 = .ok (.iconst 1, 1) := by decide +kernel
theorem dX12_card_86 : decode cX12_card 86 = .ok (.iadd, 1) := by decide +kernel
theorem dX12_card_87 : decode cX12_card 87 = .ok (.putfield 81, 3) := by decide +kernel
theorem dX12_card_90 : decode cX12_card 90 = .ok (.aload_n 0, 1) := by decide +kernel
theorem dX12_card_91 : decode cX12_card 91 = .ok (.getfield 81, 3) := by decide +kernel
theorem dX12_card_94 : decode cX12_card 94 = .ok (.iconst 1, 1) := by decide +kernel
theorem dX12_card_95 : decode cX12_card 95 = .ok (.isub, 1) := by decide +kernel
theorem dX12_card_96 : decode cX12_card 96 = .ok (.ireturn, 1) := by decide +kernel
theorem dX12_cardOf_0 : decode cX12_cardOf 0 = .ok (.aload_n 0, 1) := by decide +kernel
theorem dX12_cardOf_1 : decode cX12_cardOf 1 = .ok (.iload_n 1, 1) := by decide +kernel
theorem dX12_cardOf_2 : decode cX12_cardOf 2 = .ok (.invokevirtual 205, 3) := by decide +kernel
theorem dX12_cardOf_5 : decode cX12_cardOf 5 = .ok (.ifCond .eq 12, 3) := by decide +kernel
theorem dX12_cardOf_8 : decode cX12_cardOf 8 = .ok (.iload_n 2, 1) := by decide +kernel
theorem dX12_cardOf_9 : decode cX12_cardOf 9 = .ok (.iconst 0, 1) := by decide +kernel
theorem dX12_cardOf_10 : decode cX12_cardOf 10 = .ok (.iconst 3, 1) := by decide +kernel
theorem dX12_cardOf_11 : decode cX12_cardOf 11 = .ok (.invokestatic 84, 3) := by decide +kernel
theorem dX12_cardOf_14 : decode cX12_cardOf 14 = .ok (.ifCond .ne 5, 3) := by decide +kernel
theorem dX12_cardOf_17 : decode cX12_cardOf 17 = .ok (.iconst (-1), 1) := by decide +kernel
theorem dX12_cardOf_18 : decode cX12_cardOf 18 = .ok (.ireturn, 1) := by decide +kernel
theorem dX12_cardOf_19 : decode cX12_cardOf 19 = .ok (.iload_n 2, 1) := by decide +kernel
theorem dX12_cardOf_20 : decode cX12_cardOf 20 = .ok (.iconst 3, 1) := by decide +kernel
theorem dX12_cardOf_21 : decode cX12_cardOf 21 = .ok (.if_icmp .ne 15, 3) := by decide +kernel
theorem dX12_cardOf_24 : decode cX12_cardOf 24 = .ok (.aload_n 0, 1) := by decide +kernel
theorem dX12_cardOf_25 : decode cX12_cardOf 25 = .ok (.iload_n 1, 1) := by decide +kernel
theorem dX12_cardOf_26 : decode cX12_cardOf 26 = .ok (.iconst 3, 1) := by decide +kernel
theorem dX12_cardOf_27 : decode cX12_cardOf 27 = .ok (.invokevirtual 208, 3) := by decide +kernel
theorem dX12_cardOf_30 : decode cX12_cardOf 30 = .ok (.bipush 10, 2) := by decide +kernel
theorem dX12_cardOf_32 : decode cX12_cardOf 32 = .ok (.iadd, 1) := by decide +kernel
theorem dX12_cardOf_33 : decode cX12_cardOf 33 = .ok (.goto 9, 3) := by decide +kernel
theorem dX12_cardOf_36 : decode cX12_cardOf 36 = .ok (.aload_n 0, 1) := by decide +kernel
theorem dX12_cardOf_37 : decode cX12_cardOf 37 = .ok (.iload_n 1, 1) := by decide +kernel
theorem dX12_cardOf_38 : decode cX12_cardOf 38 = .ok (.iload_n 2, 1) := by decide +kernel
theorem dX12_cardOf_39 : decode cX12_cardOf 39 = .ok (.invokevirtual 208, 3) := by decide +kernel
theorem dX12_cardOf_42 : decode cX12_cardOf 42 = .ok (.ireturn, 1) := by decide +kernel
theorem dX12_isLaw_0 : decode cX12_isLaw 0 = .ok (.iload_n 0, 1) := by decide +kernel
theorem dX12_isLaw_1 : decode cX12_isLaw 1 = .ok (.iconst 0, 1) := by decide +kernel
theorem dX12_isLaw_2 : decode cX12_isLaw 2 = .ok (.iconst 5, 1) := by decide +kernel
theorem dX12_isLaw_3 : decode cX12_isLaw 3 = .ok (.invokestatic 84, 3) := by decide +kernel
theorem dX12_isLaw_6 : decode cX12_isLaw 6 = .ok (.ireturn, 1) := by decide +kernel
theorem dX12_set_0 : decode cX12_set 0 = .ok (.iload_n 1, 1) := by decide +kernel
theorem dX12_set_1 : decode cX12_set 1 = .ok (.invokestatic 211, 3) := by decide +kernel
theorem dX12_set_4 : decode cX12_set 4 = .ok (.ifCond .eq 13, 3) := by decide +kernel
theorem dX12_set_7 : decode cX12_set 7 = .ok (.iload_n 2, 1) := by decide +kernel
theorem dX12_set_8 : decode cX12_set 8 = .ok (.iconst 0, 1) := by decide +kernel
theorem dX12_set_9 : decode cX12_set 9 = .ok (.bipush 63, 2) := by decide +kernel
theorem dX12_set_11 : decode cX12_set 11 = .ok (.invokestatic 84, 3) := by decide +kernel
theorem dX12_set_14 : decode cX12_set 14 = .ok (.ifCond .ne 5, 3) := by decide +kernel
theorem dX12_set_17 : decode cX12_set 17 = .ok (.iconst (-1), 1) := by decide +kernel
theorem dX12_set_18 : decode cX12_set 18 = .ok (.ireturn, 1) := by decide +kernel
theorem dX12_set_19 : decode cX12_set 19 = .ok (.aload_n 0, 1) := by decide +kernel
theorem dX12_set_20 : decode cX12_set 20 = .ok (.getfield 13, 3) := by decide +kernel
theorem dX12_set_23 : decode cX12_set 23 = .ok (.iload_n 1, 1) := by decide +kernel
theorem dX12_set_24 : decode cX12_set 24 = .ok (.iaload, 1) := by decide +kernel
theorem dX12_set_25 : decode cX12_set 25 = .ok (.istore_n 3, 1) := by decide +kernel
theorem dX12_set_26 : decode cX12_set 26 = .ok (.aload_n 0, 1) := by decide +kernel
theorem dX12_set_27 : decode cX12_set 27 = .ok (.getfield 13, 3) := by decide +kernel
theorem dX12_set_30 : decode cX12_set 30 = .ok (.iload_n 1, 1) := by decide +kernel
theorem dX12_set_31 : decode cX12_set 31 = .ok (.iload_n 2, 1) := by decide +kernel
theorem dX12_set_32 : decode cX12_set 32 = .ok (.iastore, 1) := by decide +kernel
theorem dX12_set_33 : decode cX12_set 33 = .ok (.iload_n 3, 1) := by decide +kernel
theorem dX12_set_34 : decode cX12_set 34 = .ok (.ireturn, 1) := by decide +kernel
theorem dX12_handMany_0 : decode cX12_handMany 0 = .ok (.iconst 0, 1) := by decide +kernel
theorem dX12_handMany_1 : decode cX12_handMany 1 = .ok (.istore_n 1, 1) := by decide +kernel
theorem dX12_handMany_2 : decode cX12_handMany 2 = .ok (.iconst 0, 1) := by decide +kernel
theorem dX12_handMany_3 : decode cX12_handMany 3 = .ok (.istore_n 2, 1) := by decide +kernel
theorem dX12_handMany_4 : decode cX12_handMany 4 = .ok (.iload_n 2, 1) := by decide +kernel
theorem dX12_handMany_5 : decode cX12_handMany 5 = .ok (.iconst 5, 1) := by decide +kernel
theorem dX12_handMany_6 : decode cX12_handMany 6 = .ok (.if_icmp .ge 18, 3) := by decide +kernel
theorem dX12_handMany_9 : decode cX12_handMany 9 = .ok (.iload_n 1, 1) := by decide +kernel
theorem dX12_handMany_10 : decode cX12_handMany 10 = .ok (.aload_n 0, 1) := by decide +kernel
theorem dX12_handMany_11 : decode cX12_handMany 11 = .ok (.getfield 16, 3) := by decide +kernel
theorem dX12_handMany_14 : decode cX12_handMany 14 = .ok (.iload_n 2, 1) := by decide +kernel
theorem dX12_handMany_15 : decode cX12_handMany 15 = .ok (.iaload, 1) := by decide +kernel
theorem dX12_handMany_16 : decode cX12_handMany 16 = .ok (.iadd, 1) := by decide +kernel
theorem dX12_handMany_17 : decode cX12_handMany 17 = .ok (.istore_n 1, 1) := by decide +kernel
theorem dX12_handMany_18 : decode cX12_handMany 18 = .ok (.iinc 2 1, 3) := by decide +kernel
theorem dX12_handMany_21 : decode cX12_handMany 21 = .ok (.goto (-17), 3) := by decide +kernel
theorem dX12_handMany_24 : decode cX12_handMany 24 = .ok (.iload_n 1, 1) := by decide +kernel
theorem dX12_handMany_25 : decode cX12_handMany 25 = .ok (.ireturn, 1) := by decide +kernel
theorem dX12_hand_0 : decode cX12_hand 0 = .ok (.iload_n 1, 1) := by decide +kernel
theorem dX12_hand_1 : decode cX12_hand 1 = .ok (.iconst 0, 1) := by decide +kernel
theorem dX12_hand_2 : decode cX12_hand 2 = .ok (.iconst 4, 1) := by decide +kernel
theorem dX12_hand_3 : decode cX12_hand 3 = .ok (.invokestatic 84, 3) := by decide +kernel
theorem dX12_hand_6 : decode cX12_hand 6 = .ok (.ifCond .eq 13, 3) := by decide +kernel
theorem dX12_hand_9 : decode cX12_hand 9 = .ok (.iload_n 2, 1) := by decide +kernel
theorem dX12_hand_10 : decode cX12_hand 10 = .ok (.iconst 0, 1) := by decide +kernel
theorem dX12_hand_11 : decode cX12_hand 11 = .ok (.bipush 9, 2) := by decide +kernel
theorem dX12_hand_13 : decode cX12_hand 13 = .ok (.invokestatic 84, 3) := by decide +kernel
theorem dX12_hand_16 : decode cX12_hand 16 = .ok (.ifCond .ne 5, 3) := by decide +kernel
theorem dX12_hand_19 : decode cX12_hand 19 = .ok (.iconst (-1), 1) := by decide +kernel
theorem dX12_hand_20 : decode cX12_hand 20 = .ok (.ireturn, 1) := by decide +kernel
theorem dX12_hand_21 : decode cX12_hand 21 = .ok (.aload_n 0, 1) := by decide +kernel
theorem dX12_hand_22 : decode cX12_hand 22 = .ok (.invokevirtual 214, 3) := by decide +kernel
theorem dX12_hand_25 : decode cX12_hand 25 = .ok (.aload_n 0, 1) := by decide +kernel
theorem dX12_hand_26 : decode cX12_hand 26 = .ok (.getfield 16, 3) := by decide +kernel
theorem dX12_hand_29 : decode cX12_hand 29 = .ok (.iload_n 1, 1) := by decide +kernel
theorem dX12_hand_30 : decode cX12_hand 30 = .ok (.iaload, 1) := by decide +kernel
theorem dX12_hand_31 : decode cX12_hand 31 = .ok (.isub, 1) := by decide +kernel
theorem dX12_hand_32 : decode cX12_hand 32 = .ok (.iload_n 2, 1) := by decide +kernel
theorem dX12_hand_33 : decode cX12_hand 33 = .ok (.iadd, 1) := by decide +kernel
theorem dX12_hand_34 : decode cX12_hand 34 = .ok (.ifCond .ne 6, 3) := by decide +kernel
theorem dX12_hand_37 : decode cX12_hand 37 = .ok (.bipush (-4), 2) := by decide +kernel
theorem dX12_hand_39 : decode cX12_hand 39 = .ok (.ireturn, 1) := by decide +kernel
theorem dX12_hand_40 : decode cX12_hand 40 = .ok (.aload_n 0, 1) := by decide +kernel
theorem dX12_hand_41 : decode cX12_hand 41 = .ok (.getfield 16, 3) := by decide +kernel
theorem dX12_hand_44 : decode cX12_hand 44 = .ok (.iload_n 1, 1) := by decide +kernel
theorem dX12_hand_45 : decode cX12_hand 45 = .ok (.iaload, 1) := by decide +kernel
theorem dX12_hand_46 : decode cX12_hand 46 = .ok (.istore_n 3, 1) := by decide +kernel
theorem dX12_hand_47 : decode cX12_hand 47 = .ok (.aload_n 0, 1) := by decide +kernel
theorem dX12_hand_48 : decode cX12_hand 48 = .ok (.getfield 16, 3) := by decide +kernel
theorem dX12_hand_51 : decode cX12_hand 51 = .ok (.iload_n 1, 1) := by decide +kernel
theorem dX12_hand_52 : decode cX12_hand 52 = .ok (.iload_n 2, 1) := by decide +kernel
theorem dX12_hand_53 : decode cX12_hand 53 = .ok (.iastore, 1) := by decide +kernel
theorem dX12_hand_54 : decode cX12_hand 54 = .ok (.iload_n 3, 1) := by decide +kernel
theorem dX12_hand_55 : decode cX12_hand 55 = .ok (.ireturn, 1) := by decide +kernel
theorem dX12_sineOf_0 : decode cX12_sineOf 0 = .ok (.iload_n 1, 1) := by decide +kernel
theorem dX12_sineOf_1 : decode cX12_sineOf 1 = .ok (.bipush 18, 2) := by decide +kernel
theorem dX12_sineOf_3 : decode cX12_sineOf 3 = .ok (.if_icmp .le 10, 3) := by decide +kernel
theorem dX12_sineOf_6 : decode cX12_sineOf 6 = .ok (.iload_n 1, 1) := by decide +kernel
theorem dX12_sineOf_7 : decode cX12_sineOf 7 = .ok (.bipush 18, 2) := by decide +kernel
theorem dX12_sineOf_9 : decode cX12_sineOf 9 = .ok (.isub, 1) := by decide +kernel
theorem dX12_sineOf_10 : decode cX12_sineOf 10 = .ok (.goto 4, 3) := by decide +kernel
theorem dX12_sineOf_13 : decode cX12_sineOf 13 = .ok (.iload_n 1, 1) := by decide +kernel
theorem dX12_sineOf_14 : decode cX12_sineOf 14 = .ok (.istore_n 2, 1) := by decide +kernel
theorem dX12_sineOf_15 : decode cX12_sineOf 15 = .ok (.aload_n 0, 1) := by decide +kernel
theorem dX12_sineOf_16 : decode cX12_sineOf 16 = .ok (.getfield 19, 3) := by decide +kernel
theorem dX12_sineOf_19 : decode cX12_sineOf 19 = .ok (.iload_n 2, 1) := by decide +kernel
theorem dX12_sineOf_20 : decode cX12_sineOf 20 = .ok (.bipush 9, 2) := by decide +kernel
theorem dX12_sineOf_22 : decode cX12_sineOf 22 = .ok (.if_icmp .le 10, 3) := by decide +kernel
theorem dX12_sineOf_25 : decode cX12_sineOf 25 = .ok (.bipush 18, 2) := by decide +kernel
theorem dX12_sineOf_27 : decode cX12_sineOf 27 = .ok (.iload_n 2, 1) := by decide +kernel
theorem dX12_sineOf_28 : decode cX12_sineOf 28 = .ok (.isub, 1) := by decide +kernel
theorem dX12_sineOf_29 : decode cX12_sineOf 29 = .ok (.goto 4, 3) := by decide +kernel
theorem dX12_sineOf_32 : decode cX12_sineOf 32 = .ok (.iload_n 2, 1) := by decide +kernel
theorem dX12_sineOf_33 : decode cX12_sineOf 33 = .ok (.iaload, 1) := by decide +kernel
theorem dX12_sineOf_34 : decode cX12_sineOf 34 = .ok (.istore_n 3, 1) := by decide +kernel
theorem dX12_sineOf_35 : decode cX12_sineOf 35 = .ok (.iload_n 1, 1) := by decide +kernel
theorem dX12_sineOf_36 : decode cX12_sineOf 36 = .ok (.bipush 18, 2) := by decide +kernel
theorem dX12_sineOf_38 : decode cX12_sineOf 38 = .ok (.if_icmp .le 8, 3) := by decide +kernel
theorem dX12_sineOf_41 : decode cX12_sineOf 41 = .ok (.iload_n 3, 1) := by decide +kernel
theorem dX12_sineOf_42 : decode cX12_sineOf 42 = .ok (.ineg, 1) := by decide +kernel
theorem dX12_sineOf_43 : decode cX12_sineOf 43 = .ok (.goto 4, 3) := by decide +kernel
theorem dX12_sineOf_46 : decode cX12_sineOf 46 = .ok (.iload_n 3, 1) := by decide +kernel
theorem dX12_sineOf_47 : decode cX12_sineOf 47 = .ok (.ireturn, 1) := by decide +kernel
theorem dX12_cosineOf_0 : decode cX12_cosineOf 0 = .ok (.aload_n 0, 1) := by decide +kernel
theorem dX12_cosineOf_1 : decode cX12_cosineOf 1 = .ok (.iload_n 1, 1) := by decide +kernel
theorem dX12_cosineOf_2 : decode cX12_cosineOf 2 = .ok (.bipush 9, 2) := by decide +kernel
theorem dX12_cosineOf_4 : decode cX12_cosineOf 4 = .ok (.iadd, 1) := by decide +kernel
theorem dX12_cosineOf_5 : decode cX12_cosineOf 5 = .ok (.bipush 36, 2) := by decide +kernel
theorem dX12_cosineOf_7 : decode cX12_cosineOf 7 = .ok (.irem, 1) := by decide +kernel
theorem dX12_cosineOf_8 : decode cX12_cosineOf 8 = .ok (.invokevirtual 217, 3) := by decide +kernel
theorem dX12_cosineOf_11 : decode cX12_cosineOf 11 = .ok (.ireturn, 1) := by decide +kernel
theorem dX12_sine_0 : decode cX12_sine 0 = .ok (.iload_n 1, 1) := by decide +kernel
theorem dX12_sine_1 : decode cX12_sine 1 = .ok (.iconst 0, 1) := by decide +kernel
theorem dX12_sine_2 : decode cX12_sine 2 = .ok (.bipush 35, 2) := by decide +kernel
theorem dX12_sine_4 : decode cX12_sine 4 = .ok (.invokestatic 84, 3) := by decide +kernel
theorem dX12_sine_7 : decode cX12_sine 7 = .ok (.ifCond .eq 15, 3) := by decide +kernel
theorem dX12_sine_10 : decode cX12_sine 10 = .ok (.aload_n 0, 1) := by decide +kernel
theorem dX12_sine_11 : decode cX12_sine 11 = .ok (.iload_n 1, 1) := by decide +kernel
theorem dX12_sine_12 : decode cX12_sine 12 = .ok (.invokevirtual 217, 3) := by decide +kernel
theorem dX12_sine_15 : decode cX12_sine 15 = .ok (.sipush 1000, 3) := by decide +kernel
theorem dX12_sine_18 : decode cX12_sine 18 = .ok (.iadd, 1) := by decide +kernel
theorem dX12_sine_19 : decode cX12_sine 19 = .ok (.goto 4, 3) := by decide +kernel
theorem dX12_sine_22 : decode cX12_sine 22 = .ok (.iconst (-1), 1) := by decide +kernel
theorem dX12_sine_23 : decode cX12_sine 23 = .ok (.ireturn, 1) := by decide +kernel
theorem dX12_lends_0 : decode cX12_lends 0 = .ok (.aload_n 0, 1) := by decide +kernel
theorem dX12_lends_1 : decode cX12_lends 1 = .ok (.aload_n 0, 1) := by decide +kernel
theorem dX12_lends_2 : decode cX12_lends 2 = .ok (.iload_n 1, 1) := by decide +kernel
theorem dX12_lends_3 : decode cX12_lends 3 = .ok (.iconst 0, 1) := by decide +kernel
theorem dX12_lends_4 : decode cX12_lends 4 = .ok (.invokevirtual 208, 3) := by decide +kernel
theorem dX12_lends_7 : decode cX12_lends 7 = .ok (.putfield 220, 3) := by decide +kernel
theorem dX12_lends_10 : decode cX12_lends 10 = .ok (.aload_n 0, 1) := by decide +kernel
theorem dX12_lends_11 : decode cX12_lends 11 = .ok (.aload_n 0, 1) := by decide +kernel
theorem dX12_lends_12 : decode cX12_lends 12 = .ok (.iload_n 1, 1) := by decide +kernel
theorem dX12_lends_13 : decode cX12_lends 13 = .ok (.iconst 1, 1) := by decide +kernel
theorem dX12_lends_14 : decode cX12_lends 14 = .ok (.invokevirtual 208, 3) := by decide +kernel
theorem dX12_lends_17 : decode cX12_lends 17 = .ok (.putfield 223, 3) := by decide +kernel
theorem dX12_lends_20 : decode cX12_lends 20 = .ok (.aload_n 0, 1) := by decide +kernel
theorem dX12_lends_21 : decode cX12_lends 21 = .ok (.aload_n 0, 1) := by decide +kernel
theorem dX12_lends_22 : decode cX12_lends 22 = .ok (.iload_n 1, 1) := by decide +kernel
theorem dX12_lends_23 : decode cX12_lends 23 = .ok (.iconst 2, 1) := by decide +kernel
theorem dX12_lends_24 : decode cX12_lends 24 = .ok (.invokevirtual 208, 3) := by decide +kernel
theorem dX12_lends_27 : decode cX12_lends 27 = .ok (.putfield 226, 3) := by decide +kernel
theorem dX12_lends_30 : decode cX12_lends 30 = .ok (.aload_n 0, 1) := by decide +kernel
theorem dX12_lends_31 : decode cX12_lends 31 = .ok (.aload_n 0, 1) := by decide +kernel
theorem dX12_lends_32 : decode cX12_lends 32 = .ok (.iload_n 1, 1) := by decide +kernel
theorem dX12_lends_33 : decode cX12_lends 33 = .ok (.iconst 3, 1) := by decide +kernel
theorem dX12_lends_34 : decode cX12_lends 34 = .ok (.invokevirtual 208, 3) := by decide +kernel
theorem dX12_lends_37 : decode cX12_lends 37 = .ok (.putfield 229, 3) := by decide +kernel
theorem dX12_lends_40 : decode cX12_lends 40 = .ok (.aload_n 0, 1) := by decide +kernel
theorem dX12_lends_41 : decode cX12_lends 41 = .ok (.iconst 0, 1) := by decide +kernel
theorem dX12_lends_42 : decode cX12_lends 42 = .ok (.putfield 232, 3) := by decide +kernel
theorem dX12_lends_45 : decode cX12_lends 45 = .ok (.aload_n 0, 1) := by decide +kernel
theorem dX12_lends_46 : decode cX12_lends 46 = .ok (.iconst 0, 1) := by decide +kernel
theorem dX12_lends_47 : decode cX12_lends 47 = .ok (.putfield 235, 3) := by decide +kernel
theorem dX12_lends_50 : decode cX12_lends 50 = .ok (.aload_n 0, 1) := by decide +kernel
theorem dX12_lends_51 : decode cX12_lends 51 = .ok (.iload_n 2, 1) := by decide +kernel
theorem dX12_lends_52 : decode cX12_lends 52 = .ok (.putfield 238, 3) := by decide +kernel
theorem dX12_lends_55 : decode cX12_lends 55 = .ok (.aload_n 0, 1) := by decide +kernel
theorem dX12_lends_56 : decode cX12_lends 56 = .ok (.iload_n 3, 1) := by decide +kernel
theorem dX12_lends_57 : decode cX12_lends 57 = .ok (.putfield 241, 3) := by decide +kernel
theorem dX12_lends_60 : decode cX12_lends 60 = .ok (.aload_n 0, 1) := by decide +kernel
theorem dX12_lends_61 : decode cX12_lends 61 = .ok (.iload 4, 2) := by decide +kernel
theorem dX12_lends_63 : decode cX12_lends 63 = .ok (.putfield 244, 3) := by decide +kernel
theorem dX12_lends_66 : decode cX12_lends 66 = .ok (.aload_n 0, 1) := by decide +kernel
theorem dX12_lends_67 : decode cX12_lends 67 = .ok (.iconst 0, 1) := by decide +kernel
theorem dX12_lends_68 : decode cX12_lends 68 = .ok (.putfield 247, 3) := by decide +kernel
theorem dX12_lends_71 : decode cX12_lends 71 = .ok (.aload_n 0, 1) := by decide +kernel
theorem dX12_lends_72 : decode cX12_lends 72 = .ok (.iconst 0, 1) := by decide +kernel
theorem dX12_lends_73 : decode cX12_lends 73 = .ok (.putfield 250, 3) := by decide +kernel
theorem dX12_lends_76 : decode cX12_lends 76 = .ok (.aload_n 0, 1) := by decide +kernel
theorem dX12_lends_77 : decode cX12_lends 77 = .ok (.iconst 0, 1) := by decide +kernel
theorem dX12_lends_78 : decode cX12_lends 78 = .ok (.putfield 253, 3) := by decide +kernel
theorem dX12_lends_81 : decode cX12_lends 81 = .ok (.aload_n 0, 1) := by decide +kernel
theorem dX12_lends_82 : decode cX12_lends 82 = .ok (.iconst 0, 1) := by decide +kernel
theorem dX12_lends_83 : decode cX12_lends 83 = .ok (.putfield 256, 3) := by decide +kernel
theorem dX12_lends_86 : decode cX12_lends 86 = .ok (.return_, 1) := by decide +kernel
theorem dX12_isLanded_0 : decode cX12_isLanded 0 = .ok (.aload_n 0, 1) := by decide +kernel
theorem dX12_isLanded_1 : decode cX12_isLanded 1 = .ok (.getfield 238, 3) := by decide +kernel
theorem dX12_isLanded_4 : decode cX12_isLanded 4 = .ok (.ifCond .gt 7, 3) := by decide +kernel
theorem dX12_isLanded_7 : decode cX12_isLanded 7 = .ok (.iconst 1, 1) := by decide +kernel
theorem dX12_isLanded_8 : decode cX12_isLanded 8 = .ok (.goto 4, 3) := by decide +kernel
theorem dX12_isLanded_11 : decode cX12_isLanded 11 = .ok (.iconst 0, 1) := by decide +kernel
theorem dX12_isLanded_12 : decode cX12_isLanded 12 = .ok (.ireturn, 1) := by decide +kernel
theorem dX12_plainTurn_0 : decode cX12_plainTurn 0 = .ok (.aload_n 0, 1) := by decide +kernel
theorem dX12_plainTurn_1 : decode cX12_plainTurn 1 = .ok (.getfield 244, 3) := by decide +kernel
theorem dX12_plainTurn_4 : decode cX12_plainTurn 4 = .ok (.aload_n 0, 1) := by decide +kernel
theorem dX12_plainTurn_5 : decode cX12_plainTurn 5 = .ok (.getfield 247, 3) := by decide +kernel
theorem dX12_plainTurn_8 : decode cX12_plainTurn 8 = .ok (.aload_n 0, 1) := by decide +kernel
theorem dX12_plainTurn_9 : decode cX12_plainTurn 9 = .ok (.aload_n 0, 1) := by decide +kernel
theorem dX12_plainTurn_10 : decode cX12_plainTurn 10 = .ok (.getfield 241, 3) := by decide +kernel
theorem dX12_plainTurn_13 : decode cX12_plainTurn 13 = .ok (.invokevirtual 259, 3) := by decide +kernel
theorem dX12_plainTurn_16 : decode cX12_plainTurn 16 = .ok (.imul, 1) := by decide +kernel
theorem dX12_plainTurn_17 : decode cX12_plainTurn 17 = .ok (.sipush 1000, 3) := by decide +kernel
theorem dX12_plainTurn_20 : decode cX12_plainTurn 20 = .ok (.idiv, 1) := by decide +kernel
theorem dX12_plainTurn_21 : decode cX12_plainTurn 21 = .ok (.aload_n 0, 1) := by decide +kernel
theorem dX12_plainTurn_22 : decode cX12_plainTurn 22 = .ok (.getfield 13, 3) := by decide +kernel
theorem dX12_plainTurn_25 : decode cX12_plainTurn 25 = .ok (.iconst 3, 1) := by decide +kernel
theorem dX12_plainTurn_26 : decode cX12_plainTurn 26 = .ok (.iaload, 1) := by decide +kernel
theorem dX12_plainTurn_27 : decode cX12_plainTurn 27 = .ok (.imul, 1) := by decide +kernel
theorem dX12_plainTurn_28 : decode cX12_plainTurn 28 = .ok (.sipush 1024, 3) := by decide +kernel
theorem dX12_plainTurn_31 : decode cX12_plainTurn 31 = .ok (.idiv, 1) := by decide +kernel
theorem dX12_plainTurn_32 : decode cX12_plainTurn 32 = .ok (.iadd, 1) := by decide +kernel
theorem dX12_plainTurn_33 : decode cX12_plainTurn 33 = .ok (.aload_n 0, 1) := by decide +kernel
theorem dX12_plainTurn_34 : decode cX12_plainTurn 34 = .ok (.getfield 244, 3) := by decide +kernel
theorem dX12_plainTurn_37 : decode cX12_plainTurn 37 = .ok (.aload_n 0, 1) := by decide +kernel
theorem dX12_plainTurn_38 : decode cX12_plainTurn 38 = .ok (.getfield 13, 3) := by decide +kernel
theorem dX12_plainTurn_41 : decode cX12_plainTurn 41 = .ok (.iconst 4, 1) := by decide +kernel
theorem dX12_plainTurn_42 : decode cX12_plainTurn 42 = .ok (.iaload, 1) := by decide +kernel
theorem dX12_plainTurn_43 : decode cX12_plainTurn 43 = .ok (.imul, 1) := by decide +kernel
theorem dX12_plainTurn_44 : decode cX12_plainTurn 44 = .ok (.bipush 64, 2) := by decide +kernel
theorem dX12_plainTurn_46 : decode cX12_plainTurn 46 = .ok (.idiv, 1) := by decide +kernel
theorem dX12_plainTurn_47 : decode cX12_plainTurn 47 = .ok (.isub, 1) := by decide +kernel
theorem dX12_plainTurn_48 : decode cX12_plainTurn 48 = .ok (.aload_n 0, 1) := by decide +kernel
theorem dX12_plainTurn_49 : decode cX12_plainTurn 49 = .ok (.getfield 229, 3) := by decide +kernel
theorem dX12_plainTurn_52 : decode cX12_plainTurn 52 = .ok (.aload_n 0, 1) := by decide +kernel
theorem dX12_plainTurn_53 : decode cX12_plainTurn 53 = .ok (.getfield 226, 3) := by decide +kernel
theorem dX12_plainTurn_56 : decode cX12_plainTurn 56 = .ok (.idiv, 1) := by decide +kernel
theorem dX12_plainTurn_57 : decode cX12_plainTurn 57 = .ok (.iadd, 1) := by decide +kernel
theorem dX12_plainTurn_58 : decode cX12_plainTurn 58 = .ok (.ireturn, 1) := by decide +kernel
theorem dX12_toldTurn_0 : decode cX12_toldTurn 0 = .ok (.aload_n 0, 1) := by decide +kernel
theorem dX12_toldTurn_1 : decode cX12_toldTurn 1 = .ok (.getfield 220, 3) := by decide +kernel
theorem dX12_toldTurn_4 : decode cX12_toldTurn 4 = .ok (.tableswitch 109 1 5 #[36, 38, 91, 65, 91], 36) := by decide +kernel
theorem dX12_toldTurn_40 : decode cX12_toldTurn 40 = .ok (.iconst 0, 1) := by decide +kernel
theorem dX12_toldTurn_41 : decode cX12_toldTurn 41 = .ok (.ireturn, 1) := by decide +kernel
theorem dX12_toldTurn_42 : decode cX12_toldTurn 42 = .ok (.aload_n 0, 1) := by decide +kernel
theorem dX12_toldTurn_43 : decode cX12_toldTurn 43 = .ok (.getfield 241, 3) := by decide +kernel
theorem dX12_toldTurn_46 : decode cX12_toldTurn 46 = .ok (.bipush 10, 2) := by decide +kernel
theorem dX12_toldTurn_48 : decode cX12_toldTurn 48 = .ok (.bipush 26, 2) := by decide +kernel
theorem dX12_toldTurn_50 : decode cX12_toldTurn 50 = .ok (.invokestatic 84, 3) := by decide +kernel
theorem dX12_toldTurn_53 : decode cX12_toldTurn 53 = .ok (.ifCond .eq 11, 3) := by decide +kernel
theorem dX12_toldTurn_56 : decode cX12_toldTurn 56 = .ok (.aload_n 0, 1) := by decide +kernel
theorem dX12_toldTurn_57 : decode cX12_toldTurn 57 = .ok (.invokevirtual 262, 3) := by decide +kernel
theorem dX12_toldTurn_60 : decode cX12_toldTurn 60 = .ok (.ineg, 1) := by decide +kernel
theorem dX12_toldTurn_61 : decode cX12_toldTurn 61 = .ok (.goto 7, 3) := by decide +kernel
theorem dX12_toldTurn_64 : decode cX12_toldTurn 64 = .ok (.aload_n 0, 1) := by decide +kernel
theorem dX12_toldTurn_65 : decode cX12_toldTurn 65 = .ok (.invokevirtual 262, 3) := by decide +kernel
theorem dX12_toldTurn_68 : decode cX12_toldTurn 68 = .ok (.ireturn, 1) := by decide +kernel
theorem dX12_toldTurn_69 : decode cX12_toldTurn 69 = .ok (.aload_n 0, 1) := by decide +kernel
theorem dX12_toldTurn_70 : decode cX12_toldTurn 70 = .ok (.getfield 241, 3) := by decide +kernel
theorem dX12_toldTurn_73 : decode cX12_toldTurn 73 = .ok (.ifCond .ne 7, 3) := by decide +kernel
theorem dX12_toldTurn_76 : decode cX12_toldTurn 76 = .ok (.iconst 0, 1) := by decide +kernel
theorem dX12_toldTurn_77 : decode cX12_toldTurn 77 = .ok (.goto 17, 3) := by decide +kernel
theorem dX12_toldTurn_80 : decode cX12_toldTurn 80 = .ok (.aload_n 0, 1) := by decide +kernel
theorem dX12_toldTurn_81 : decode cX12_toldTurn 81 = .ok (.getfield 241, 3) := by decide +kernel
theorem dX12_toldTurn_84 : decode cX12_toldTurn 84 = .ok (.bipush 18, 2) := by decide +kernel
theorem dX12_toldTurn_86 : decode cX12_toldTurn 86 = .ok (.if_icmp .gt 7, 3) := by decide +kernel
theorem dX12_toldTurn_89 : decode cX12_toldTurn 89 = .ok (.iconst (-1), 1) := by decide +kernel
theorem dX12_toldTurn_90 : decode cX12_toldTurn 90 = .ok (.goto 4, 3) := by decide +kernel
theorem dX12_toldTurn_93 : decode cX12_toldTurn 93 = .ok (.iconst 1, 1) := by decide +kernel
theorem dX12_toldTurn_94 : decode cX12_toldTurn 94 = .ok (.ireturn, 1) := by decide +kernel
theorem dX12_toldTurn_95 : decode cX12_toldTurn 95 = .ok (.aload_n 0, 1) := by decide +kernel
theorem dX12_toldTurn_96 : decode cX12_toldTurn 96 = .ok (.invokevirtual 262, 3) := by decide +kernel
theorem dX12_toldTurn_99 : decode cX12_toldTurn 99 = .ok (.aload_n 0, 1) := by decide +kernel
theorem dX12_toldTurn_100 : decode cX12_toldTurn 100 = .ok (.getfield 244, 3) := by decide +kernel
theorem dX12_toldTurn_103 : decode cX12_toldTurn 103 = .ok (.ifCond .lt 7, 3) := by decide +kernel
theorem dX12_toldTurn_106 : decode cX12_toldTurn 106 = .ok (.iconst 1, 1) := by decide +kernel
theorem dX12_toldTurn_107 : decode cX12_toldTurn 107 = .ok (.goto 4, 3) := by decide +kernel
theorem dX12_toldTurn_110 : decode cX12_toldTurn 110 = .ok (.iconst (-1), 1) := by decide +kernel
theorem dX12_toldTurn_111 : decode cX12_toldTurn 111 = .ok (.iadd, 1) := by decide +kernel
theorem dX12_toldTurn_112 : decode cX12_toldTurn 112 = .ok (.ireturn, 1) := by decide +kernel
theorem dX12_toldTurn_113 : decode cX12_toldTurn 113 = .ok (.aload_n 0, 1) := by decide +kernel
theorem dX12_toldTurn_114 : decode cX12_toldTurn 114 = .ok (.invokevirtual 262, 3) := by decide +kernel
theorem dX12_toldTurn_117 : decode cX12_toldTurn 117 = .ok (.ireturn, 1) := by decide +kernel
theorem dX12_ticksOn_0 : decode cX12_ticksOn 0 = .ok (.aload_n 0, 1) := by decide +kernel
theorem dX12_ticksOn_1 : decode cX12_ticksOn 1 = .ok (.getfield 241, 3) := by decide +kernel
theorem dX12_ticksOn_4 : decode cX12_ticksOn 4 = .ok (.istore_n 1, 1) := by decide +kernel
theorem dX12_ticksOn_5 : decode cX12_ticksOn 5 = .ok (.aload_n 0, 1) := by decide +kernel
theorem dX12_ticksOn_6 : decode cX12_ticksOn 6 = .ok (.getfield 244, 3) := by decide +kernel
theorem dX12_ticksOn_9 : decode cX12_ticksOn 9 = .ok (.istore_n 2, 1) := by decide +kernel
theorem dX12_ticksOn_10 : decode cX12_ticksOn 10 = .ok (.aload_n 0, 1) := by decide +kernel
theorem dX12_ticksOn_11 : decode cX12_ticksOn 11 = .ok (.getfield 250, 3) := by decide +kernel
theorem dX12_ticksOn_14 : decode cX12_ticksOn 14 = .ok (.aload_n 0, 1) := by decide +kernel
theorem dX12_ticksOn_15 : decode cX12_ticksOn 15 = .ok (.aload_n 0, 1) := by decide +kernel
theorem dX12_ticksOn_16 : decode cX12_ticksOn 16 = .ok (.getfield 241, 3) := by decide +kernel
theorem dX12_ticksOn_19 : decode cX12_ticksOn 19 = .ok (.invokevirtual 217, 3) := by decide +kernel
theorem dX12_ticksOn_22 : decode cX12_ticksOn 22 = .ok (.imul, 1) := by decide +kernel
theorem dX12_ticksOn_23 : decode cX12_ticksOn 23 = .ok (.sipush 1000, 3) := by decide +kernel
theorem dX12_ticksOn_26 : decode cX12_ticksOn 26 = .ok (.idiv, 1) := by decide +kernel
theorem dX12_ticksOn_27 : decode cX12_ticksOn 27 = .ok (.aload_n 0, 1) := by decide +kernel
theorem dX12_ticksOn_28 : decode cX12_ticksOn 28 = .ok (.getfield 13, 3) := by decide +kernel
theorem dX12_ticksOn_31 : decode cX12_ticksOn 31 = .ok (.iconst 0, 1) := by decide +kernel
theorem dX12_ticksOn_32 : decode cX12_ticksOn 32 = .ok (.iaload, 1) := by decide +kernel
theorem dX12_ticksOn_33 : decode cX12_ticksOn 33 = .ok (.imul, 1) := by decide +kernel
theorem dX12_ticksOn_34 : decode cX12_ticksOn 34 = .ok (.bipush 32, 2) := by decide +kernel
theorem dX12_ticksOn_36 : decode cX12_ticksOn 36 = .ok (.idiv, 1) := by decide +kernel
theorem dX12_ticksOn_37 : decode cX12_ticksOn 37 = .ok (.aload_n 0, 1) := by decide +kernel
theorem dX12_ticksOn_38 : decode cX12_ticksOn 38 = .ok (.getfield 247, 3) := by decide +kernel
theorem dX12_ticksOn_41 : decode cX12_ticksOn 41 = .ok (.aload_n 0, 1) := by decide +kernel
theorem dX12_ticksOn_42 : decode cX12_ticksOn 42 = .ok (.getfield 13, 3) := by decide +kernel
theorem dX12_ticksOn_45 : decode cX12_ticksOn 45 = .ok (.iconst 1, 1) := by decide +kernel
theorem dX12_ticksOn_46 : decode cX12_ticksOn 46 = .ok (.iaload, 1) := by decide +kernel
theorem dX12_ticksOn_47 : decode cX12_ticksOn 47 = .ok (.imul, 1) := by decide +kernel
theorem dX12_ticksOn_48 : decode cX12_ticksOn 48 = .ok (.bipush 64, 2) := by decide +kernel
theorem dX12_ticksOn_50 : decode cX12_ticksOn 50 = .ok (.idiv, 1) := by decide +kernel
theorem dX12_ticksOn_51 : decode cX12_ticksOn 51 = .ok (.isub, 1) := by decide +kernel
theorem dX12_ticksOn_52 : decode cX12_ticksOn 52 = .ok (.aload_n 0, 1) := by decide +kernel
theorem dX12_ticksOn_53 : decode cX12_ticksOn 53 = .ok (.getfield 13, 3) := by decide +kernel
theorem dX12_ticksOn_56 : decode cX12_ticksOn 56 = .ok (.iconst 5, 1) := by decide +kernel
theorem dX12_ticksOn_57 : decode cX12_ticksOn 57 = .ok (.iaload, 1) := by decide +kernel
theorem dX12_ticksOn_58 : decode cX12_ticksOn 58 = .ok (.bipush 32, 2) := by decide +kernel
theorem dX12_ticksOn_60 : decode cX12_ticksOn 60 = .ok (.isub, 1) := by decide +kernel
theorem dX12_ticksOn_61 : decode cX12_ticksOn 61 = .ok (.iconst 4, 1) := by decide +kernel
theorem dX12_ticksOn_62 : decode cX12_ticksOn 62 = .ok (.idiv, 1) := by decide +kernel
theorem dX12_ticksOn_63 : decode cX12_ticksOn 63 = .ok (.iadd, 1) := by decide +kernel
theorem dX12_ticksOn_64 : decode cX12_ticksOn 64 = .ok (.istore_n 3, 1) := by decide +kernel
theorem dX12_ticksOn_65 : decode cX12_ticksOn 65 = .ok (.aload_n 0, 1) := by decide +kernel
theorem dX12_ticksOn_66 : decode cX12_ticksOn 66 = .ok (.getfield 13, 3) := by decide +kernel
theorem dX12_ticksOn_69 : decode cX12_ticksOn 69 = .ok (.iconst 1, 1) := by decide +kernel
theorem dX12_ticksOn_70 : decode cX12_ticksOn 70 = .ok (.iaload, 1) := by decide +kernel
theorem dX12_ticksOn_71 : decode cX12_ticksOn 71 = .ok (.aload_n 0, 1) := by decide +kernel
theorem dX12_ticksOn_72 : decode cX12_ticksOn 72 = .ok (.getfield 13, 3) := by decide +kernel
theorem dX12_ticksOn_75 : decode cX12_ticksOn 75 = .ok (.iconst 2, 1) := by decide +kernel
theorem dX12_ticksOn_76 : decode cX12_ticksOn 76 = .ok (.iaload, 1) := by decide +kernel
theorem dX12_ticksOn_77 : decode cX12_ticksOn 77 = .ok (.aload_n 0, 1) := by decide +kernel
theorem dX12_ticksOn_78 : decode cX12_ticksOn 78 = .ok (.aload_n 0, 1) := by decide +kernel
theorem dX12_ticksOn_79 : decode cX12_ticksOn 79 = .ok (.getfield 241, 3) := by decide +kernel
theorem dX12_ticksOn_82 : decode cX12_ticksOn 82 = .ok (.invokevirtual 259, 3) := by decide +kernel
theorem dX12_ticksOn_85 : decode cX12_ticksOn 85 = .ok (.invokestatic 265, 3) := by decide +kernel
theorem dX12_ticksOn_88 : decode cX12_ticksOn 88 = .ok (.imul, 1) := by decide +kernel
theorem dX12_ticksOn_89 : decode cX12_ticksOn 89 = .ok (.sipush 1000, 3) := by decide +kernel
theorem dX12_ticksOn_92 : decode cX12_ticksOn 92 = .ok (.idiv, 1) := by decide +kernel
theorem dX12_ticksOn_93 : decode cX12_ticksOn 93 = .ok (.iadd, 1) := by decide +kernel
theorem dX12_ticksOn_94 : decode cX12_ticksOn 94 = .ok (.istore 4, 2) := by decide +kernel
theorem dX12_ticksOn_96 : decode cX12_ticksOn 96 = .ok (.aload_n 0, 1) := by decide +kernel
theorem dX12_ticksOn_97 : decode cX12_ticksOn 97 = .ok (.getfield 250, 3) := by decide +kernel
theorem dX12_ticksOn_100 : decode cX12_ticksOn 100 = .ok (.aload_n 0, 1) := by decide +kernel
theorem dX12_ticksOn_101 : decode cX12_ticksOn 101 = .ok (.getfield 223, 3) := by decide +kernel
theorem dX12_ticksOn_104 : decode cX12_ticksOn 104 = .ok (.iadd, 1) := by decide +kernel
theorem dX12_ticksOn_105 : decode cX12_ticksOn 105 = .ok (.aload_n 0, 1) := by decide +kernel
theorem dX12_ticksOn_106 : decode cX12_ticksOn 106 = .ok (.getfield 250, 3) := by decide +kernel
theorem dX12_ticksOn_109 : decode cX12_ticksOn 109 = .ok (.iload 4, 2) := by decide +kernel
theorem dX12_ticksOn_111 : decode cX12_ticksOn 111 = .ok (.imul, 1) := by decide +kernel
theorem dX12_ticksOn_112 : decode cX12_ticksOn 112 = .ok (.bipush 64, 2) := by decide +kernel
theorem dX12_ticksOn_114 : decode cX12_ticksOn 114 = .ok (.idiv, 1) := by decide +kernel
theorem dX12_ticksOn_115 : decode cX12_ticksOn 115 = .ok (.isub, 1) := by decide +kernel
theorem dX12_ticksOn_116 : decode cX12_ticksOn 116 = .ok (.istore 5, 2) := by decide +kernel
theorem dX12_ticksOn_118 : decode cX12_ticksOn 118 = .ok (.aload_n 0, 1) := by decide +kernel
theorem dX12_ticksOn_119 : decode cX12_ticksOn 119 = .ok (.aload_n 0, 1) := by decide +kernel
theorem dX12_ticksOn_120 : decode cX12_ticksOn 120 = .ok (.getfield 247, 3) := by decide +kernel
theorem dX12_ticksOn_123 : decode cX12_ticksOn 123 = .ok (.iload_n 3, 1) := by decide +kernel
theorem dX12_ticksOn_124 : decode cX12_ticksOn 124 = .ok (.iadd, 1) := by decide +kernel
theorem dX12_ticksOn_125 : decode cX12_ticksOn 125 = .ok (.sipush 9999, 3) := by decide +kernel
theorem dX12_ticksOn_128 : decode cX12_ticksOn 128 = .ok (.invokestatic 268, 3) := by decide +kernel
theorem dX12_ticksOn_131 : decode cX12_ticksOn 131 = .ok (.putfield 247, 3) := by decide +kernel
theorem dX12_ticksOn_134 : decode cX12_ticksOn 134 = .ok (.aload_n 0, 1) := by decide +kernel
theorem dX12_ticksOn_135 : decode cX12_ticksOn 135 = .ok (.aload_n 0, 1) := by decide +kernel
theorem dX12_ticksOn_136 : decode cX12_ticksOn 136 = .ok (.getfield 220, 3) := by decide +kernel
theorem dX12_ticksOn_139 : decode cX12_ticksOn 139 = .ok (.iconst 5, 1) := by decide +kernel
theorem dX12_ticksOn_140 : decode cX12_ticksOn 140 = .ok (.if_icmp .ne 10, 3) := by decide +kernel
theorem dX12_ticksOn_143 : decode cX12_ticksOn 143 = .ok (.iload 5, 2) := by decide +kernel
theorem dX12_ticksOn_145 : decode cX12_ticksOn 145 = .ok (.iconst 2, 1) := by decide +kernel
theorem dX12_ticksOn_146 : decode cX12_ticksOn 146 = .ok (.idiv, 1) := by decide +kernel
theorem dX12_ticksOn_147 : decode cX12_ticksOn 147 = .ok (.goto 5, 3) := by decide +kernel
theorem dX12_ticksOn_150 : decode cX12_ticksOn 150 = .ok (.iload 5, 2) := by decide +kernel
theorem dX12_ticksOn_152 : decode cX12_ticksOn 152 = .ok (.sipush 9999, 3) := by decide +kernel
theorem dX12_ticksOn_155 : decode cX12_ticksOn 155 = .ok (.invokestatic 268, 3) := by decide +kernel
theorem dX12_ticksOn_158 : decode cX12_ticksOn 158 = .ok (.putfield 250, 3) := by decide +kernel
theorem dX12_ticksOn_161 : decode cX12_ticksOn 161 = .ok (.aload_n 0, 1) := by decide +kernel
theorem dX12_ticksOn_162 : decode cX12_ticksOn 162 = .ok (.aload_n 0, 1) := by decide +kernel
theorem dX12_ticksOn_163 : decode cX12_ticksOn 163 = .ok (.invokevirtual 271, 3) := by decide +kernel
theorem dX12_ticksOn_166 : decode cX12_ticksOn 166 = .ok (.bipush 9, 2) := by decide +kernel
theorem dX12_ticksOn_168 : decode cX12_ticksOn 168 = .ok (.invokestatic 268, 3) := by decide +kernel
theorem dX12_ticksOn_171 : decode cX12_ticksOn 171 = .ok (.putfield 244, 3) := by decide +kernel
theorem dX12_ticksOn_174 : decode cX12_ticksOn 174 = .ok (.aload_n 0, 1) := by decide +kernel
theorem dX12_ticksOn_175 : decode cX12_ticksOn 175 = .ok (.aload_n 0, 1) := by decide +kernel
theorem dX12_ticksOn_176 : decode cX12_ticksOn 176 = .ok (.getfield 241, 3) := by decide +kernel
theorem dX12_ticksOn_179 : decode cX12_ticksOn 179 = .ok (.aload_n 0, 1) := by decide +kernel
theorem dX12_ticksOn_180 : decode cX12_ticksOn 180 = .ok (.getfield 244, 3) := by decide +kernel
theorem dX12_ticksOn_183 : decode cX12_ticksOn 183 = .ok (.iadd, 1) := by decide +kernel
theorem dX12_ticksOn_184 : decode cX12_ticksOn 184 = .ok (.bipush 36, 2) := by decide +kernel
theorem dX12_ticksOn_186 : decode cX12_ticksOn 186 = .ok (.iadd, 1) := by decide +kernel
theorem dX12_ticksOn_187 : decode cX12_ticksOn 187 = .ok (.bipush 36, 2) := by decide +kernel
theorem dX12_ticksOn_189 : decode cX12_ticksOn 189 = .ok (.irem, 1) := by decide +kernel
theorem dX12_ticksOn_190 : decode cX12_ticksOn 190 = .ok (.putfield 241, 3) := by decide +kernel
theorem dX12_ticksOn_193 : decode cX12_ticksOn 193 = .ok (.aload_n 0, 1) := by decide +kernel
theorem dX12_ticksOn_194 : decode cX12_ticksOn 194 = .ok (.dup, 1) := by decide +kernel
theorem dX12_ticksOn_195 : decode cX12_ticksOn 195 = .ok (.getfield 235, 3) := by decide +kernel
theorem dX12_ticksOn_198 : decode cX12_ticksOn 198 = .ok (.aload_n 0, 1) := by decide +kernel
theorem dX12_ticksOn_199 : decode cX12_ticksOn 199 = .ok (.getfield 247, 3) := by decide +kernel
theorem dX12_ticksOn_202 : decode cX12_ticksOn 202 = .ok (.bipush 8, 2) := by decide +kernel
theorem dX12_ticksOn_204 : decode cX12_ticksOn 204 = .ok (.idiv, 1) := by decide +kernel
theorem dX12_ticksOn_205 : decode cX12_ticksOn 205 = .ok (.iadd, 1) := by decide +kernel
theorem dX12_ticksOn_206 : decode cX12_ticksOn 206 = .ok (.putfield 235, 3) := by decide +kernel
theorem dX12_ticksOn_209 : decode cX12_ticksOn 209 = .ok (.aload_n 0, 1) := by decide +kernel
theorem dX12_ticksOn_210 : decode cX12_ticksOn 210 = .ok (.dup, 1) := by decide +kernel
theorem dX12_ticksOn_211 : decode cX12_ticksOn 211 = .ok (.getfield 238, 3) := by decide +kernel
theorem dX12_ticksOn_214 : decode cX12_ticksOn 214 = .ok (.aload_n 0, 1) := by decide +kernel
theorem dX12_ticksOn_215 : decode cX12_ticksOn 215 = .ok (.getfield 250, 3) := by decide +kernel
theorem dX12_ticksOn_218 : decode cX12_ticksOn 218 = .ok (.bipush 8, 2) := by decide +kernel
theorem dX12_ticksOn_220 : decode cX12_ticksOn 220 = .ok (.idiv, 1) := by decide +kernel
theorem dX12_ticksOn_221 : decode cX12_ticksOn 221 = .ok (.isub, 1) := by decide +kernel
theorem dX12_ticksOn_222 : decode cX12_ticksOn 222 = .ok (.putfield 238, 3) := by decide +kernel
theorem dX12_ticksOn_225 : decode cX12_ticksOn 225 = .ok (.aload_n 0, 1) := by decide +kernel
theorem dX12_ticksOn_226 : decode cX12_ticksOn 226 = .ok (.dup, 1) := by decide +kernel
theorem dX12_ticksOn_227 : decode cX12_ticksOn 227 = .ok (.getfield 232, 3) := by decide +kernel
theorem dX12_ticksOn_230 : decode cX12_ticksOn 230 = .ok (.iconst 1, 1) := by decide +kernel
theorem dX12_ticksOn_231 : decode cX12_ticksOn 231 = .ok (.iadd, 1) := by decide +kernel
theorem dX12_ticksOn_232 : decode cX12_ticksOn 232 = .ok (.putfield 232, 3) := by decide +kernel
theorem dX12_ticksOn_235 : decode cX12_ticksOn 235 = .ok (.aload_n 0, 1) := by decide +kernel
theorem dX12_ticksOn_236 : decode cX12_ticksOn 236 = .ok (.dup, 1) := by decide +kernel
theorem dX12_ticksOn_237 : decode cX12_ticksOn 237 = .ok (.getfield 253, 3) := by decide +kernel
theorem dX12_ticksOn_240 : decode cX12_ticksOn 240 = .ok (.aload_n 0, 1) := by decide +kernel
theorem dX12_ticksOn_241 : decode cX12_ticksOn 241 = .ok (.getfield 232, 3) := by decide +kernel
theorem dX12_ticksOn_244 : decode cX12_ticksOn 244 = .ok (.iconst 1, 1) := by decide +kernel
theorem dX12_ticksOn_245 : decode cX12_ticksOn 245 = .ok (.if_icmp .le 29, 3) := by decide +kernel
theorem dX12_ticksOn_248 : decode cX12_ticksOn 248 = .ok (.iload_n 2, 1) := by decide +kernel
theorem dX12_ticksOn_249 : decode cX12_ticksOn 249 = .ok (.ifCond .le 10, 3) := by decide +kernel
theorem dX12_ticksOn_252 : decode cX12_ticksOn 252 = .ok (.aload_n 0, 1) := by decide +kernel
theorem dX12_ticksOn_253 : decode cX12_ticksOn 253 = .ok (.getfield 244, 3) := by decide +kernel
theorem dX12_ticksOn_256 : decode cX12_ticksOn 256 = .ok (.ifCond .lt 14, 3) := by decide +kernel
theorem dX12_ticksOn_259 : decode cX12_ticksOn 259 = .ok (.iload_n 2, 1) := by decide +kernel
theorem dX12_ticksOn_260 : decode cX12_ticksOn 260 = .ok (.ifCond .ge 14, 3) := by decide +kernel
theorem dX12_ticksOn_263 : decode cX12_ticksOn 263 = .ok (.aload_n 0, 1) := by decide +kernel
theorem dX12_ticksOn_264 : decode cX12_ticksOn 264 = .ok (.getfield 244, 3) := by decide +kernel
theorem dX12_ticksOn_267 : decode cX12_ticksOn 267 = .ok (.ifCond .le 7, 3) := by decide +kernel
theorem dX12_ticksOn_270 : decode cX12_ticksOn 270 = .ok (.iconst 1, 1) := by decide +kernel
theorem dX12_ticksOn_271 : decode cX12_ticksOn 271 = .ok (.goto 4, 3) := by decide +kernel
theorem dX12_ticksOn_274 : decode cX12_ticksOn 274 = .ok (.iconst 0, 1) := by decide +kernel
theorem dX12_ticksOn_275 : decode cX12_ticksOn 275 = .ok (.iadd, 1) := by decide +kernel
theorem dX12_ticksOn_276 : decode cX12_ticksOn 276 = .ok (.putfield 253, 3) := by decide +kernel
theorem dX12_ticksOn_279 : decode cX12_ticksOn 279 = .ok (.aload_n 0, 1) := by decide +kernel
theorem dX12_ticksOn_280 : decode cX12_ticksOn 280 = .ok (.dup, 1) := by decide +kernel
theorem dX12_ticksOn_281 : decode cX12_ticksOn 281 = .ok (.getfield 256, 3) := by decide +kernel
theorem dX12_ticksOn_284 : decode cX12_ticksOn 284 = .ok (.iload_n 1, 1) := by decide +kernel
theorem dX12_ticksOn_285 : decode cX12_ticksOn 285 = .ok (.bipush 27, 2) := by decide +kernel
theorem dX12_ticksOn_287 : decode cX12_ticksOn 287 = .ok (.if_icmp .lt 12, 3) := by decide +kernel
theorem dX12_ticksOn_290 : decode cX12_ticksOn 290 = .ok (.aload_n 0, 1) := by decide +kernel
theorem dX12_ticksOn_291 : decode cX12_ticksOn 291 = .ok (.getfield 241, 3) := by decide +kernel
theorem dX12_ticksOn_294 : decode cX12_ticksOn 294 = .ok (.bipush 8, 2) := by decide +kernel
theorem dX12_ticksOn_296 : decode cX12_ticksOn 296 = .ok (.if_icmp .le 18, 3) := by decide +kernel
theorem dX12_ticksOn_299 : decode cX12_ticksOn 299 = .ok (.iload_n 1, 1) := by decide +kernel
theorem dX12_ticksOn_300 : decode cX12_ticksOn 300 = .ok (.bipush 8, 2) := by decide +kernel
theorem dX12_ticksOn_302 : decode cX12_ticksOn 302 = .ok (.if_icmp .gt 16, 3) := by decide +kernel
theorem dX12_ticksOn_305 : decode cX12_ticksOn 305 = .ok (.aload_n 0, 1) := by decide +kernel
theorem dX12_ticksOn_306 : decode cX12_ticksOn 306 = .ok (.getfield 241, 3) := by decide +kernel
theorem dX12_ticksOn_309 : decode cX12_ticksOn 309 = .ok (.bipush 27, 2) := by decide +kernel
theorem dX12_ticksOn_311 : decode cX12_ticksOn 311 = .ok (.if_icmp .lt 7, 3) := by decide +kernel
theorem dX12_ticksOn_314 : decode cX12_ticksOn 314 = .ok (.iconst 1, 1) := by decide +kernel
theorem dX12_ticksOn_315 : decode cX12_ticksOn 315 = .ok (.goto 4, 3) := by decide +kernel
theorem dX12_ticksOn_318 : decode cX12_ticksOn 318 = .ok (.iconst 0, 1) := by decide +kernel
theorem dX12_ticksOn_319 : decode cX12_ticksOn 319 = .ok (.iadd, 1) := by decide +kernel
theorem dX12_ticksOn_320 : decode cX12_ticksOn 320 = .ok (.putfield 256, 3) := by decide +kernel
theorem dX12_ticksOn_323 : decode cX12_ticksOn 323 = .ok (.return_, 1) := by decide +kernel
theorem dX12_falls_0 : decode cX12_falls 0 = .ok (.aload_n 0, 1) := by decide +kernel
theorem dX12_falls_1 : decode cX12_falls 1 = .ok (.iload_n 1, 1) := by decide +kernel
theorem dX12_falls_2 : decode cX12_falls 2 = .ok (.iload_n 2, 1) := by decide +kernel
theorem dX12_falls_3 : decode cX12_falls 3 = .ok (.iload_n 3, 1) := by decide +kernel
theorem dX12_falls_4 : decode cX12_falls 4 = .ok (.iload 4, 2) := by decide +kernel
theorem dX12_falls_6 : decode cX12_falls 6 = .ok (.invokevirtual 274, 3) := by decide +kernel
theorem dX12_falls_9 : decode cX12_falls 9 = .ok (.aload_n 0, 1) := by decide +kernel
theorem dX12_falls_10 : decode cX12_falls 10 = .ok (.invokevirtual 278, 3) := by decide +kernel
theorem dX12_falls_13 : decode cX12_falls 13 = .ok (.ifCond .ne 20, 3) := by decide +kernel
theorem dX12_falls_16 : decode cX12_falls 16 = .ok (.aload_n 0, 1) := by decide +kernel
theorem dX12_falls_17 : decode cX12_falls 17 = .ok (.getfield 232, 3) := by decide +kernel
theorem dX12_falls_20 : decode cX12_falls 20 = .ok (.sipush 400, 3) := by decide +kernel
theorem dX12_falls_23 : decode cX12_falls 23 = .ok (.if_icmp .ge 10, 3) := by decide +kernel
theorem dX12_falls_26 : decode cX12_falls 26 = .ok (.aload_n 0, 1) := by decide +kernel
theorem dX12_falls_27 : decode cX12_falls 27 = .ok (.invokevirtual 282, 3) := by decide +kernel
theorem dX12_falls_30 : decode cX12_falls 30 = .ok (.goto (-21), 3) := by decide +kernel
theorem dX12_falls_33 : decode cX12_falls 33 = .ok (.aload_n 0, 1) := by decide +kernel
theorem dX12_falls_34 : decode cX12_falls 34 = .ok (.invokevirtual 278, 3) := by decide +kernel
theorem dX12_falls_37 : decode cX12_falls 37 = .ok (.ireturn, 1) := by decide +kernel
theorem dX12_isLetGo_0 : decode cX12_isLetGo 0 = .ok (.iload_n 0, 1) := by decide +kernel
theorem dX12_isLetGo_1 : decode cX12_isLetGo 1 = .ok (.iconst 1, 1) := by decide +kernel
theorem dX12_isLetGo_2 : decode cX12_isLetGo 2 = .ok (.sipush 9999, 3) := by decide +kernel
theorem dX12_isLetGo_5 : decode cX12_isLetGo 5 = .ok (.invokestatic 84, 3) := by decide +kernel
theorem dX12_isLetGo_8 : decode cX12_isLetGo 8 = .ok (.ifCond .eq 28, 3) := by decide +kernel
theorem dX12_isLetGo_11 : decode cX12_isLetGo 11 = .ok (.iload_n 1, 1) := by decide +kernel
theorem dX12_isLetGo_12 : decode cX12_isLetGo 12 = .ok (.iconst 0, 1) := by decide +kernel
theorem dX12_isLetGo_13 : decode cX12_isLetGo 13 = .ok (.bipush 35, 2) := by decide +kernel
theorem dX12_isLetGo_15 : decode cX12_isLetGo 15 = .ok (.invokestatic 84, 3) := by decide +kernel
theorem dX12_isLetGo_18 : decode cX12_isLetGo 18 = .ok (.ifCond .eq 18, 3) := by decide +kernel
theorem dX12_isLetGo_21 : decode cX12_isLetGo 21 = .ok (.iload_n 2, 1) := by decide +kernel
theorem dX12_isLetGo_22 : decode cX12_isLetGo 22 = .ok (.bipush (-9), 2) := by decide +kernel
theorem dX12_isLetGo_24 : decode cX12_isLetGo 24 = .ok (.bipush 9, 2) := by decide +kernel
theorem dX12_isLetGo_26 : decode cX12_isLetGo 26 = .ok (.invokestatic 84, 3) := by decide +kernel
theorem dX12_isLetGo_29 : decode cX12_isLetGo 29 = .ok (.ifCond .eq 7, 3) := by decide +kernel
theorem dX12_isLetGo_32 : decode cX12_isLetGo 32 = .ok (.iconst 1, 1) := by decide +kernel
theorem dX12_isLetGo_33 : decode cX12_isLetGo 33 = .ok (.goto 4, 3) := by decide +kernel
theorem dX12_isLetGo_36 : decode cX12_isLetGo 36 = .ok (.iconst 0, 1) := by decide +kernel
theorem dX12_isLetGo_37 : decode cX12_isLetGo 37 = .ok (.ireturn, 1) := by decide +kernel
theorem dX12_isFall_0 : decode cX12_isFall 0 = .ok (.aload_n 0, 1) := by decide +kernel
theorem dX12_isFall_1 : decode cX12_isFall 1 = .ok (.iload_n 1, 1) := by decide +kernel
theorem dX12_isFall_2 : decode cX12_isFall 2 = .ok (.invokevirtual 205, 3) := by decide +kernel
theorem dX12_isFall_5 : decode cX12_isFall 5 = .ok (.ifCond .eq 17, 3) := by decide +kernel
theorem dX12_isFall_8 : decode cX12_isFall 8 = .ok (.iload_n 2, 1) := by decide +kernel
theorem dX12_isFall_9 : decode cX12_isFall 9 = .ok (.iload_n 3, 1) := by decide +kernel
theorem dX12_isFall_10 : decode cX12_isFall 10 = .ok (.iload 4, 2) := by decide +kernel
theorem dX12_isFall_12 : decode cX12_isFall 12 = .ok (.invokestatic 285, 3) := by decide +kernel
theorem dX12_isFall_15 : decode cX12_isFall 15 = .ok (.ifCond .eq 7, 3) := by decide +kernel
theorem dX12_isFall_18 : decode cX12_isFall 18 = .ok (.iconst 1, 1) := by decide +kernel
theorem dX12_isFall_19 : decode cX12_isFall 19 = .ok (.goto 4, 3) := by decide +kernel
theorem dX12_isFall_22 : decode cX12_isFall 22 = .ok (.iconst 0, 1) := by decide +kernel
theorem dX12_isFall_23 : decode cX12_isFall 23 = .ok (.ireturn, 1) := by decide +kernel
theorem dX12_takesAir_0 : decode cX12_takesAir 0 = .ok (.aload_n 0, 1) := by decide +kernel
theorem dX12_takesAir_1 : decode cX12_takesAir 1 = .ok (.aload_n 0, 1) := by decide +kernel
theorem dX12_takesAir_2 : decode cX12_takesAir 2 = .ok (.getfield 26, 3) := by decide +kernel
theorem dX12_takesAir_5 : decode cX12_takesAir 5 = .ok (.iconst 0, 1) := by decide +kernel
theorem dX12_takesAir_6 : decode cX12_takesAir 6 = .ok (.iaload, 1) := by decide +kernel
theorem dX12_takesAir_7 : decode cX12_takesAir 7 = .ok (.aload_n 0, 1) := by decide +kernel
theorem dX12_takesAir_8 : decode cX12_takesAir 8 = .ok (.getfield 26, 3) := by decide +kernel
theorem dX12_takesAir_11 : decode cX12_takesAir 11 = .ok (.iconst 3, 1) := by decide +kernel
theorem dX12_takesAir_12 : decode cX12_takesAir 12 = .ok (.iaload, 1) := by decide +kernel
theorem dX12_takesAir_13 : decode cX12_takesAir 13 = .ok (.aload_n 0, 1) := by decide +kernel
theorem dX12_takesAir_14 : decode cX12_takesAir 14 = .ok (.getfield 26, 3) := by decide +kernel
theorem dX12_takesAir_17 : decode cX12_takesAir 17 = .ok (.iconst 4, 1) := by decide +kernel
theorem dX12_takesAir_18 : decode cX12_takesAir 18 = .ok (.iaload, 1) := by decide +kernel
theorem dX12_takesAir_19 : decode cX12_takesAir 19 = .ok (.aload_n 0, 1) := by decide +kernel
theorem dX12_takesAir_20 : decode cX12_takesAir 20 = .ok (.getfield 26, 3) := by decide +kernel
theorem dX12_takesAir_23 : decode cX12_takesAir 23 = .ok (.iconst 5, 1) := by decide +kernel
theorem dX12_takesAir_24 : decode cX12_takesAir 24 = .ok (.iaload, 1) := by decide +kernel
theorem dX12_takesAir_25 : decode cX12_takesAir 25 = .ok (.invokevirtual 274, 3) := by decide +kernel
theorem dX12_takesAir_28 : decode cX12_takesAir 28 = .ok (.aload_n 0, 1) := by decide +kernel
theorem dX12_takesAir_29 : decode cX12_takesAir 29 = .ok (.aload_n 0, 1) := by decide +kernel
theorem dX12_takesAir_30 : decode cX12_takesAir 30 = .ok (.getfield 26, 3) := by decide +kernel
theorem dX12_takesAir_33 : decode cX12_takesAir 33 = .ok (.iconst 1, 1) := by decide +kernel
theorem dX12_takesAir_34 : decode cX12_takesAir 34 = .ok (.iaload, 1) := by decide +kernel
theorem dX12_takesAir_35 : decode cX12_takesAir 35 = .ok (.putfield 232, 3) := by decide +kernel
theorem dX12_takesAir_38 : decode cX12_takesAir 38 = .ok (.aload_n 0, 1) := by decide +kernel
theorem dX12_takesAir_39 : decode cX12_takesAir 39 = .ok (.aload_n 0, 1) := by decide +kernel
theorem dX12_takesAir_40 : decode cX12_takesAir 40 = .ok (.getfield 26, 3) := by decide +kernel
theorem dX12_takesAir_43 : decode cX12_takesAir 43 = .ok (.iconst 2, 1) := by decide +kernel
theorem dX12_takesAir_44 : decode cX12_takesAir 44 = .ok (.iaload, 1) := by decide +kernel
theorem dX12_takesAir_45 : decode cX12_takesAir 45 = .ok (.putfield 235, 3) := by decide +kernel
theorem dX12_takesAir_48 : decode cX12_takesAir 48 = .ok (.aload_n 0, 1) := by decide +kernel
theorem dX12_takesAir_49 : decode cX12_takesAir 49 = .ok (.aload_n 0, 1) := by decide +kernel
theorem dX12_takesAir_50 : decode cX12_takesAir 50 = .ok (.getfield 26, 3) := by decide +kernel
theorem dX12_takesAir_53 : decode cX12_takesAir 53 = .ok (.bipush 6, 2) := by decide +kernel
theorem dX12_takesAir_55 : decode cX12_takesAir 55 = .ok (.iaload, 1) := by decide +kernel
theorem dX12_takesAir_56 : decode cX12_takesAir 56 = .ok (.putfield 247, 3) := by decide +kernel
theorem dX12_takesAir_59 : decode cX12_takesAir 59 = .ok (.aload_n 0, 1) := by decide +kernel
theorem dX12_takesAir_60 : decode cX12_takesAir 60 = .ok (.aload_n 0, 1) := by decide +kernel
theorem dX12_takesAir_61 : decode cX12_takesAir 61 = .ok (.getfield 26, 3) := by decide +kernel
theorem dX12_takesAir_64 : decode cX12_takesAir 64 = .ok (.bipush 7, 2) := by decide +kernel
theorem dX12_takesAir_66 : decode cX12_takesAir 66 = .ok (.iaload, 1) := by decide +kernel
theorem dX12_takesAir_67 : decode cX12_takesAir 67 = .ok (.putfield 250, 3) := by decide +kernel
theorem dX12_takesAir_70 : decode cX12_takesAir 70 = .ok (.return_, 1) := by decide +kernel
theorem dX12_givesAir_0 : decode cX12_givesAir 0 = .ok (.aload_n 0, 1) := by decide +kernel
theorem dX12_givesAir_1 : decode cX12_givesAir 1 = .ok (.getfield 26, 3) := by decide +kernel
theorem dX12_givesAir_4 : decode cX12_givesAir 4 = .ok (.iconst 1, 1) := by decide +kernel
theorem dX12_givesAir_5 : decode cX12_givesAir 5 = .ok (.aload_n 0, 1) := by decide +kernel
theorem dX12_givesAir_6 : decode cX12_givesAir 6 = .ok (.getfield 232, 3) := by decide +kernel
theorem dX12_givesAir_9 : decode cX12_givesAir 9 = .ok (.iastore, 1) := by decide +kernel
theorem dX12_givesAir_10 : decode cX12_givesAir 10 = .ok (.aload_n 0, 1) := by decide +kernel
theorem dX12_givesAir_11 : decode cX12_givesAir 11 = .ok (.getfield 26, 3) := by decide +kernel
theorem dX12_givesAir_14 : decode cX12_givesAir 14 = .ok (.iconst 2, 1) := by decide +kernel
theorem dX12_givesAir_15 : decode cX12_givesAir 15 = .ok (.aload_n 0, 1) := by decide +kernel
theorem dX12_givesAir_16 : decode cX12_givesAir 16 = .ok (.getfield 235, 3) := by decide +kernel
theorem dX12_givesAir_19 : decode cX12_givesAir 19 = .ok (.iastore, 1) := by decide +kernel
theorem dX12_givesAir_20 : decode cX12_givesAir 20 = .ok (.aload_n 0, 1) := by decide +kernel
theorem dX12_givesAir_21 : decode cX12_givesAir 21 = .ok (.getfield 26, 3) := by decide +kernel
theorem dX12_givesAir_24 : decode cX12_givesAir 24 = .ok (.iconst 3, 1) := by decide +kernel
theorem dX12_givesAir_25 : decode cX12_givesAir 25 = .ok (.aload_n 0, 1) := by decide +kernel
theorem dX12_givesAir_26 : decode cX12_givesAir 26 = .ok (.getfield 238, 3) := by decide +kernel
theorem dX12_givesAir_29 : decode cX12_givesAir 29 = .ok (.iastore, 1) := by decide +kernel
theorem dX12_givesAir_30 : decode cX12_givesAir 30 = .ok (.aload_n 0, 1) := by decide +kernel
theorem dX12_givesAir_31 : decode cX12_givesAir 31 = .ok (.getfield 26, 3) := by decide +kernel
theorem dX12_givesAir_34 : decode cX12_givesAir 34 = .ok (.iconst 4, 1) := by decide +kernel
theorem dX12_givesAir_35 : decode cX12_givesAir 35 = .ok (.aload_n 0, 1) := by decide +kernel
theorem dX12_givesAir_36 : decode cX12_givesAir 36 = .ok (.getfield 241, 3) := by decide +kernel
theorem dX12_givesAir_39 : decode cX12_givesAir 39 = .ok (.iastore, 1) := by decide +kernel
theorem dX12_givesAir_40 : decode cX12_givesAir 40 = .ok (.aload_n 0, 1) := by decide +kernel
theorem dX12_givesAir_41 : decode cX12_givesAir 41 = .ok (.getfield 26, 3) := by decide +kernel
theorem dX12_givesAir_44 : decode cX12_givesAir 44 = .ok (.iconst 5, 1) := by decide +kernel
theorem dX12_givesAir_45 : decode cX12_givesAir 45 = .ok (.aload_n 0, 1) := by decide +kernel
theorem dX12_givesAir_46 : decode cX12_givesAir 46 = .ok (.getfield 244, 3) := by decide +kernel
theorem dX12_givesAir_49 : decode cX12_givesAir 49 = .ok (.iastore, 1) := by decide +kernel
theorem dX12_givesAir_50 : decode cX12_givesAir 50 = .ok (.aload_n 0, 1) := by decide +kernel
theorem dX12_givesAir_51 : decode cX12_givesAir 51 = .ok (.getfield 26, 3) := by decide +kernel
theorem dX12_givesAir_54 : decode cX12_givesAir 54 = .ok (.bipush 6, 2) := by decide +kernel
theorem dX12_givesAir_56 : decode cX12_givesAir 56 = .ok (.aload_n 0, 1) := by decide +kernel
theorem dX12_givesAir_57 : decode cX12_givesAir 57 = .ok (.getfield 247, 3) := by decide +kernel
theorem dX12_givesAir_60 : decode cX12_givesAir 60 = .ok (.iastore, 1) := by decide +kernel
theorem dX12_givesAir_61 : decode cX12_givesAir 61 = .ok (.aload_n 0, 1) := by decide +kernel
theorem dX12_givesAir_62 : decode cX12_givesAir 62 = .ok (.getfield 26, 3) := by decide +kernel
theorem dX12_givesAir_65 : decode cX12_givesAir 65 = .ok (.bipush 7, 2) := by decide +kernel
theorem dX12_givesAir_67 : decode cX12_givesAir 67 = .ok (.aload_n 0, 1) := by decide +kernel
theorem dX12_givesAir_68 : decode cX12_givesAir 68 = .ok (.getfield 250, 3) := by decide +kernel
theorem dX12_givesAir_71 : decode cX12_givesAir 71 = .ok (.iastore, 1) := by decide +kernel
theorem dX12_givesAir_72 : decode cX12_givesAir 72 = .ok (.return_, 1) := by decide +kernel
theorem dX12_letGo_0 : decode cX12_letGo 0 = .ok (.aload_n 0, 1) := by decide +kernel
theorem dX12_letGo_1 : decode cX12_letGo 1 = .ok (.iload_n 1, 1) := by decide +kernel
theorem dX12_letGo_2 : decode cX12_letGo 2 = .ok (.iload_n 2, 1) := by decide +kernel
theorem dX12_letGo_3 : decode cX12_letGo 3 = .ok (.iload_n 3, 1) := by decide +kernel
theorem dX12_letGo_4 : decode cX12_letGo 4 = .ok (.iload 4, 2) := by decide +kernel
theorem dX12_letGo_6 : decode cX12_letGo 6 = .ok (.invokevirtual 288, 3) := by decide +kernel
theorem dX12_letGo_9 : decode cX12_letGo 9 = .ok (.ifCond .ne 5, 3) := by decide +kernel
theorem dX12_letGo_12 : decode cX12_letGo 12 = .ok (.iconst (-1), 1) := by decide +kernel
theorem dX12_letGo_13 : decode cX12_letGo 13 = .ok (.ireturn, 1) := by decide +kernel
theorem dX12_letGo_14 : decode cX12_letGo 14 = .ok (.aload_n 0, 1) := by decide +kernel
theorem dX12_letGo_15 : decode cX12_letGo 15 = .ok (.getfield 26, 3) := by decide +kernel
theorem dX12_letGo_18 : decode cX12_letGo 18 = .ok (.iconst 0, 1) := by decide +kernel
theorem dX12_letGo_19 : decode cX12_letGo 19 = .ok (.iaload, 1) := by decide +kernel
theorem dX12_letGo_20 : decode cX12_letGo 20 = .ok (.ifCond .ge 8, 3) := by decide +kernel
theorem dX12_letGo_23 : decode cX12_letGo 23 = .ok (.bipush (-9), 2) := by decide +kernel
theorem dX12_letGo_25 : decode cX12_letGo 25 = .ok (.goto 9, 3) := by decide +kernel
theorem dX12_letGo_28 : decode cX12_letGo 28 = .ok (.aload_n 0, 1) := by decide +kernel
theorem dX12_letGo_29 : decode cX12_letGo 29 = .ok (.getfield 26, 3) := by decide +kernel
theorem dX12_letGo_32 : decode cX12_letGo 32 = .ok (.iconst 0, 1) := by decide +kernel
theorem dX12_letGo_33 : decode cX12_letGo 33 = .ok (.iaload, 1) := by decide +kernel
theorem dX12_letGo_34 : decode cX12_letGo 34 = .ok (.istore 5, 2) := by decide +kernel
theorem dX12_letGo_36 : decode cX12_letGo 36 = .ok (.aload_n 0, 1) := by decide +kernel
theorem dX12_letGo_37 : decode cX12_letGo 37 = .ok (.iload_n 1, 1) := by decide +kernel
theorem dX12_letGo_38 : decode cX12_letGo 38 = .ok (.iload_n 2, 1) := by decide +kernel
theorem dX12_letGo_39 : decode cX12_letGo 39 = .ok (.iload_n 3, 1) := by decide +kernel
theorem dX12_letGo_40 : decode cX12_letGo 40 = .ok (.iload 4, 2) := by decide +kernel
theorem dX12_letGo_42 : decode cX12_letGo 42 = .ok (.invokevirtual 274, 3) := by decide +kernel
theorem dX12_letGo_45 : decode cX12_letGo 45 = .ok (.aload_n 0, 1) := by decide +kernel
theorem dX12_letGo_46 : decode cX12_letGo 46 = .ok (.getfield 26, 3) := by decide +kernel
theorem dX12_letGo_49 : decode cX12_letGo 49 = .ok (.iconst 0, 1) := by decide +kernel
theorem dX12_letGo_50 : decode cX12_letGo 50 = .ok (.iload_n 1, 1) := by decide +kernel
theorem dX12_letGo_51 : decode cX12_letGo 51 = .ok (.iastore, 1) := by decide +kernel
theorem dX12_letGo_52 : decode cX12_letGo 52 = .ok (.aload_n 0, 1) := by decide +kernel
theorem dX12_letGo_53 : decode cX12_letGo 53 = .ok (.invokevirtual 291, 3) := by decide +kernel
theorem dX12_letGo_56 : decode cX12_letGo 56 = .ok (.iload 5, 2) := by decide +kernel
theorem dX12_letGo_58 : decode cX12_letGo 58 = .ok (.ireturn, 1) := by decide +kernel
theorem dX12_tick_0 : decode cX12_tick 0 = .ok (.iload_n 1, 1) := by decide +kernel
theorem dX12_tick_1 : decode cX12_tick 1 = .ok (.iconst 0, 1) := by decide +kernel
theorem dX12_tick_2 : decode cX12_tick 2 = .ok (.sipush 400, 3) := by decide +kernel
theorem dX12_tick_5 : decode cX12_tick 5 = .ok (.invokestatic 84, 3) := by decide +kernel
theorem dX12_tick_8 : decode cX12_tick 8 = .ok (.ifCond .ne 5, 3) := by decide +kernel
theorem dX12_tick_11 : decode cX12_tick 11 = .ok (.iconst (-1), 1) := by decide +kernel
theorem dX12_tick_12 : decode cX12_tick 12 = .ok (.ireturn, 1) := by decide +kernel
theorem dX12_tick_13 : decode cX12_tick 13 = .ok (.aload_n 0, 1) := by decide +kernel
theorem dX12_tick_14 : decode cX12_tick 14 = .ok (.getfield 26, 3) := by decide +kernel
theorem dX12_tick_17 : decode cX12_tick 17 = .ok (.iconst 0, 1) := by decide +kernel
theorem dX12_tick_18 : decode cX12_tick 18 = .ok (.iaload, 1) := by decide +kernel
theorem dX12_tick_19 : decode cX12_tick 19 = .ok (.ifCond .ge 6, 3) := by decide +kernel
theorem dX12_tick_22 : decode cX12_tick 22 = .ok (.bipush (-4), 2) := by decide +kernel
theorem dX12_tick_24 : decode cX12_tick 24 = .ok (.ireturn, 1) := by decide +kernel
theorem dX12_tick_25 : decode cX12_tick 25 = .ok (.aload_n 0, 1) := by decide +kernel
theorem dX12_tick_26 : decode cX12_tick 26 = .ok (.invokevirtual 294, 3) := by decide +kernel
theorem dX12_tick_29 : decode cX12_tick 29 = .ok (.iconst 0, 1) := by decide +kernel
theorem dX12_tick_30 : decode cX12_tick 30 = .ok (.istore_n 2, 1) := by decide +kernel
theorem dX12_tick_31 : decode cX12_tick 31 = .ok (.iload_n 2, 1) := by decide +kernel
theorem dX12_tick_32 : decode cX12_tick 32 = .ok (.iload_n 1, 1) := by decide +kernel
theorem dX12_tick_33 : decode cX12_tick 33 = .ok (.if_icmp .ge 20, 3) := by decide +kernel
theorem dX12_tick_36 : decode cX12_tick 36 = .ok (.aload_n 0, 1) := by decide +kernel
theorem dX12_tick_37 : decode cX12_tick 37 = .ok (.invokevirtual 278, 3) := by decide +kernel
theorem dX12_tick_40 : decode cX12_tick 40 = .ok (.ifCond .ne 13, 3) := by decide +kernel
theorem dX12_tick_43 : decode cX12_tick 43 = .ok (.aload_n 0, 1) := by decide +kernel
theorem dX12_tick_44 : decode cX12_tick 44 = .ok (.invokevirtual 282, 3) := by decide +kernel
theorem dX12_tick_47 : decode cX12_tick 47 = .ok (.iinc 2 1, 3) := by decide +kernel
theorem dX12_tick_50 : decode cX12_tick 50 = .ok (.goto (-19), 3) := by decide +kernel
theorem dX12_tick_53 : decode cX12_tick 53 = .ok (.aload_n 0, 1) := by decide +kernel
theorem dX12_tick_54 : decode cX12_tick 54 = .ok (.invokevirtual 291, 3) := by decide +kernel
theorem dX12_tick_57 : decode cX12_tick 57 = .ok (.iload_n 2, 1) := by decide +kernel
theorem dX12_tick_58 : decode cX12_tick 58 = .ok (.ireturn, 1) := by decide +kernel
