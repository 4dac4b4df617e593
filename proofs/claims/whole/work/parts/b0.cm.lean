-- THE REFERENCE'S CONSTRUCTOR: decode rows
theorem dX12_init_0 : decode mX12_init.2.1 0 = .ok (.aload_n 0, 1) := by decide +kernel
theorem dX12_init_1 : decode mX12_init.2.1 1 = .ok (.invokespecial 1, 3) := by decide +kernel
theorem dX12_init_4 : decode mX12_init.2.1 4 = .ok (.aload_n 0, 1) := by decide +kernel
theorem dX12_init_5 : decode mX12_init.2.1 5 = .ok (.sipush 3000, 3) := by decide +kernel
theorem dX12_init_8 : decode mX12_init.2.1 8 = .ok (.newarray .byte, 2) := by decide +kernel
theorem dX12_init_10 : decode mX12_init.2.1 10 = .ok (.putfield 9, 3) := by decide +kernel
theorem dX12_init_13 : decode mX12_init.2.1 13 = .ok (.aload_n 0, 1) := by decide +kernel
theorem dX12_init_14 : decode mX12_init.2.1 14 = .ok (.bipush 6, 2) := by decide +kernel
theorem dX12_init_16 : decode mX12_init.2.1 16 = .ok (.newarray .int, 2) := by decide +kernel
theorem dX12_init_18 : decode mX12_init.2.1 18 = .ok (.putfield 13, 3) := by decide +kernel
theorem dX12_init_21 : decode mX12_init.2.1 21 = .ok (.aload_n 0, 1) := by decide +kernel
theorem dX12_init_22 : decode mX12_init.2.1 22 = .ok (.bipush 7, 2) := by decide +kernel
theorem dX12_init_24 : decode mX12_init.2.1 24 = .ok (.newarray .int, 2) := by decide +kernel
theorem dX12_init_26 : decode mX12_init.2.1 26 = .ok (.putfield 17, 3) := by decide +kernel
theorem dX12_init_29 : decode mX12_init.2.1 29 = .ok (.aload_n 0, 1) := by decide +kernel
theorem dX12_init_30 : decode mX12_init.2.1 30 = .ok (.bipush 7, 2) := by decide +kernel
theorem dX12_init_32 : decode mX12_init.2.1 32 = .ok (.newarray .int, 2) := by decide +kernel
theorem dX12_init_34 : decode mX12_init.2.1 34 = .ok (.putfield 20, 3) := by decide +kernel
theorem dX12_init_37 : decode mX12_init.2.1 37 = .ok (.aload_n 0, 1) := by decide +kernel
theorem dX12_init_38 : decode mX12_init.2.1 38 = .ok (.bipush 7, 2) := by decide +kernel
theorem dX12_init_40 : decode mX12_init.2.1 40 = .ok (.bipush 30, 2) := by decide +kernel
theorem dX12_init_42 : decode mX12_init.2.1 42 = .ok (.multianewarray 23 2, 4) := by decide +kernel
theorem dX12_init_46 : decode mX12_init.2.1 46 = .ok (.putfield 25, 3) := by decide +kernel
theorem dX12_init_49 : decode mX12_init.2.1 49 = .ok (.aload_n 0, 1) := by decide +kernel
theorem dX12_init_50 : decode mX12_init.2.1 50 = .ok (.bipush 7, 2) := by decide +kernel
theorem dX12_init_52 : decode mX12_init.2.1 52 = .ok (.bipush 30, 2) := by decide +kernel
theorem dX12_init_54 : decode mX12_init.2.1 54 = .ok (.multianewarray 23 2, 4) := by decide +kernel
theorem dX12_init_58 : decode mX12_init.2.1 58 = .ok (.putfield 28, 3) := by decide +kernel
theorem dX12_init_61 : decode mX12_init.2.1 61 = .ok (.aload_n 0, 1) := by decide +kernel
theorem dX12_init_62 : decode mX12_init.2.1 62 = .ok (.bipush 7, 2) := by decide +kernel
theorem dX12_init_64 : decode mX12_init.2.1 64 = .ok (.bipush 30, 2) := by decide +kernel
theorem dX12_init_66 : decode mX12_init.2.1 66 = .ok (.multianewarray 23 2, 4) := by decide +kernel
theorem dX12_init_70 : decode mX12_init.2.1 70 = .ok (.putfield 31, 3) := by decide +kernel
theorem dX12_init_73 : decode mX12_init.2.1 73 = .ok (.aload_n 0, 1) := by decide +kernel
theorem dX12_init_74 : decode mX12_init.2.1 74 = .ok (.bipush 7, 2) := by decide +kernel
theorem dX12_init_76 : decode mX12_init.2.1 76 = .ok (.bipush 30, 2) := by decide +kernel
theorem dX12_init_78 : decode mX12_init.2.1 78 = .ok (.iconst 4, 1) := by decide +kernel
theorem dX12_init_79 : decode mX12_init.2.1 79 = .ok (.multianewarray 34 3, 4) := by decide +kernel
theorem dX12_init_83 : decode mX12_init.2.1 83 = .ok (.putfield 36, 3) := by decide +kernel
theorem dX12_init_86 : decode mX12_init.2.1 86 = .ok (.aload_n 0, 1) := by decide +kernel
theorem dX12_init_87 : decode mX12_init.2.1 87 = .ok (.bipush 7, 2) := by decide +kernel
theorem dX12_init_89 : decode mX12_init.2.1 89 = .ok (.bipush 30, 2) := by decide +kernel
theorem dX12_init_91 : decode mX12_init.2.1 91 = .ok (.bipush 12, 2) := by decide +kernel
theorem dX12_init_93 : decode mX12_init.2.1 93 = .ok (.multianewarray 34 3, 4) := by decide +kernel
theorem dX12_init_97 : decode mX12_init.2.1 97 = .ok (.putfield 39, 3) := by decide +kernel
theorem dX12_init_100 : decode mX12_init.2.1 100 = .ok (.aload_n 0, 1) := by decide +kernel
theorem dX12_init_101 : decode mX12_init.2.1 101 = .ok (.bipush 7, 2) := by decide +kernel
theorem dX12_init_103 : decode mX12_init.2.1 103 = .ok (.iconst 4, 1) := by decide +kernel
theorem dX12_init_104 : decode mX12_init.2.1 104 = .ok (.multianewarray 23 2, 4) := by decide +kernel
theorem dX12_init_108 : decode mX12_init.2.1 108 = .ok (.putfield 42, 3) := by decide +kernel
theorem dX12_init_111 : decode mX12_init.2.1 111 = .ok (.aload_n 0, 1) := by decide +kernel
theorem dX12_init_112 : decode mX12_init.2.1 112 = .ok (.bipush 7, 2) := by decide +kernel
theorem dX12_init_114 : decode mX12_init.2.1 114 = .ok (.bipush 8, 2) := by decide +kernel
theorem dX12_init_116 : decode mX12_init.2.1 116 = .ok (.multianewarray 23 2, 4) := by decide +kernel
theorem dX12_init_120 : decode mX12_init.2.1 120 = .ok (.putfield 45, 3) := by decide +kernel
theorem dX12_init_123 : decode mX12_init.2.1 123 = .ok (.aload_n 0, 1) := by decide +kernel
theorem dX12_init_124 : decode mX12_init.2.1 124 = .ok (.bipush 7, 2) := by decide +kernel
theorem dX12_init_126 : decode mX12_init.2.1 126 = .ok (.bipush 8, 2) := by decide +kernel
theorem dX12_init_128 : decode mX12_init.2.1 128 = .ok (.multianewarray 23 2, 4) := by decide +kernel
theorem dX12_init_132 : decode mX12_init.2.1 132 = .ok (.putfield 48, 3) := by decide +kernel
theorem dX12_init_135 : decode mX12_init.2.1 135 = .ok (.aload_n 0, 1) := by decide +kernel
theorem dX12_init_136 : decode mX12_init.2.1 136 = .ok (.bipush 7, 2) := by decide +kernel
theorem dX12_init_138 : decode mX12_init.2.1 138 = .ok (.newarray .int, 2) := by decide +kernel
theorem dX12_init_140 : decode mX12_init.2.1 140 = .ok (.putfield 51, 3) := by decide +kernel
theorem dX12_init_143 : decode mX12_init.2.1 143 = .ok (.aload_n 0, 1) := by decide +kernel
theorem dX12_init_144 : decode mX12_init.2.1 144 = .ok (.bipush 7, 2) := by decide +kernel
theorem dX12_init_146 : decode mX12_init.2.1 146 = .ok (.newarray .int, 2) := by decide +kernel
theorem dX12_init_148 : decode mX12_init.2.1 148 = .ok (.putfield 54, 3) := by decide +kernel
theorem dX12_init_151 : decode mX12_init.2.1 151 = .ok (.aload_n 0, 1) := by decide +kernel
theorem dX12_init_152 : decode mX12_init.2.1 152 = .ok (.bipush 7, 2) := by decide +kernel
theorem dX12_init_154 : decode mX12_init.2.1 154 = .ok (.newarray .int, 2) := by decide +kernel
theorem dX12_init_156 : decode mX12_init.2.1 156 = .ok (.putfield 57, 3) := by decide +kernel
theorem dX12_init_159 : decode mX12_init.2.1 159 = .ok (.aload_n 0, 1) := by decide +kernel
theorem dX12_init_160 : decode mX12_init.2.1 160 = .ok (.bipush 7, 2) := by decide +kernel
theorem dX12_init_162 : decode mX12_init.2.1 162 = .ok (.newarray .int, 2) := by decide +kernel
theorem dX12_init_164 : decode mX12_init.2.1 164 = .ok (.putfield 60, 3) := by decide +kernel
theorem dX12_init_167 : decode mX12_init.2.1 167 = .ok (.aload_n 0, 1) := by decide +kernel
theorem dX12_init_168 : decode mX12_init.2.1 168 = .ok (.bipush 7, 2) := by decide +kernel
theorem dX12_init_170 : decode mX12_init.2.1 170 = .ok (.newarray .int, 2) := by decide +kernel
theorem dX12_init_172 : decode mX12_init.2.1 172 = .ok (.putfield 63, 3) := by decide +kernel
theorem dX12_init_175 : decode mX12_init.2.1 175 = .ok (.aload_n 0, 1) := by decide +kernel
theorem dX12_init_176 : decode mX12_init.2.1 176 = .ok (.bipush 12, 2) := by decide +kernel
theorem dX12_init_178 : decode mX12_init.2.1 178 = .ok (.anewarray 66, 3) := by decide +kernel
theorem dX12_init_181 : decode mX12_init.2.1 181 = .ok (.dup, 1) := by decide +kernel
theorem dX12_init_182 : decode mX12_init.2.1 182 = .ok (.iconst 0, 1) := by decide +kernel
theorem dX12_init_183 : decode mX12_init.2.1 183 = .ok (.ldc 68, 2) := by decide +kernel
theorem dX12_init_185 : decode mX12_init.2.1 185 = .ok (.aastore, 1) := by decide +kernel
theorem dX12_init_186 : decode mX12_init.2.1 186 = .ok (.dup, 1) := by decide +kernel
theorem dX12_init_187 : decode mX12_init.2.1 187 = .ok (.iconst 1, 1) := by decide +kernel
theorem dX12_init_188 : decode mX12_init.2.1 188 = .ok (.ldc 70, 2) := by decide +kernel
theorem dX12_init_190 : decode mX12_init.2.1 190 = .ok (.aastore, 1) := by decide +kernel
theorem dX12_init_191 : decode mX12_init.2.1 191 = .ok (.dup, 1) := by decide +kernel
theorem dX12_init_192 : decode mX12_init.2.1 192 = .ok (.iconst 2, 1) := by decide +kernel
theorem dX12_init_193 : decode mX12_init.2.1 193 = .ok (.ldc 72, 2) := by decide +kernel
theorem dX12_init_195 : decode mX12_init.2.1 195 = .ok (.aastore, 1) := by decide +kernel
theorem dX12_init_196 : decode mX12_init.2.1 196 = .ok (.dup, 1) := by decide +kernel
theorem dX12_init_197 : decode mX12_init.2.1 197 = .ok (.iconst 3, 1) := by decide +kernel
theorem dX12_init_198 : decode mX12_init.2.1 198 = .ok (.ldc 74, 2) := by decide +kernel
theorem dX12_init_200 : decode mX12_init.2.1 200 = .ok (.aastore, 1) := by decide +kernel
theorem dX12_init_201 : decode mX12_init.2.1 201 = .ok (.dup, 1) := by decide +kernel
theorem dX12_init_202 : decode mX12_init.2.1 202 = .ok (.iconst 4, 1) := by decide +kernel
theorem dX12_init_203 : decode mX12_init.2.1 203 = .ok (.ldc 76, 2) := by decide +kernel
theorem dX12_init_205 : decode mX12_init.2.1 205 = .ok (.aastore, 1) := by decide +kernel
theorem dX12_init_206 : decode mX12_init.2.1 206 = .ok (.dup, 1) := by decide +kernel
theorem dX12_init_207 : decode mX12_init.2.1 207 = .ok (.iconst 5, 1) := by decide +kernel
theorem dX12_init_208 : decode mX12_init.2.1 208 = .ok (.ldc 78, 2) := by decide +kernel
theorem dX12_init_210 : decode mX12_init.2.1 210 = .ok (.aastore, 1) := by decide +kernel
theorem dX12_init_211 : decode mX12_init.2.1 211 = .ok (.dup, 1) := by decide +kernel
theorem dX12_init_212 : decode mX12_init.2.1 212 = .ok (.bipush 6, 2) := by decide +kernel
theorem dX12_init_214 : decode mX12_init.2.1 214 = .ok (.ldc 80, 2) := by decide +kernel
theorem dX12_init_216 : decode mX12_init.2.1 216 = .ok (.aastore, 1) := by decide +kernel
theorem dX12_init_217 : decode mX12_init.2.1 217 = .ok (.dup, 1) := by decide +kernel
theorem dX12_init_218 : decode mX12_init.2.1 218 = .ok (.bipush 7, 2) := by decide +kernel
theorem dX12_init_220 : decode mX12_init.2.1 220 = .ok (.ldc 82, 2) := by decide +kernel
theorem dX12_init_222 : decode mX12_init.2.1 222 = .ok (.aastore, 1) := by decide +kernel
theorem dX12_init_223 : decode mX12_init.2.1 223 = .ok (.dup, 1) := by decide +kernel
theorem dX12_init_224 : decode mX12_init.2.1 224 = .ok (.bipush 8, 2) := by decide +kernel
theorem dX12_init_226 : decode mX12_init.2.1 226 = .ok (.ldc 84, 2) := by decide +kernel
theorem dX12_init_228 : decode mX12_init.2.1 228 = .ok (.aastore, 1) := by decide +kernel
theorem dX12_init_229 : decode mX12_init.2.1 229 = .ok (.dup, 1) := by decide +kernel
theorem dX12_init_230 : decode mX12_init.2.1 230 = .ok (.bipush 9, 2) := by decide +kernel
theorem dX12_init_232 : decode mX12_init.2.1 232 = .ok (.ldc 86, 2) := by decide +kernel
theorem dX12_init_234 : decode mX12_init.2.1 234 = .ok (.aastore, 1) := by decide +kernel
theorem dX12_init_235 : decode mX12_init.2.1 235 = .ok (.dup, 1) := by decide +kernel
theorem dX12_init_236 : decode mX12_init.2.1 236 = .ok (.bipush 10, 2) := by decide +kernel
theorem dX12_init_238 : decode mX12_init.2.1 238 = .ok (.ldc 88, 2) := by decide +kernel
theorem dX12_init_240 : decode mX12_init.2.1 240 = .ok (.aastore, 1) := by decide +kernel
theorem dX12_init_241 : decode mX12_init.2.1 241 = .ok (.dup, 1) := by decide +kernel
theorem dX12_init_242 : decode mX12_init.2.1 242 = .ok (.bipush 11, 2) := by decide +kernel
theorem dX12_init_244 : decode mX12_init.2.1 244 = .ok (.ldc 90, 2) := by decide +kernel
theorem dX12_init_246 : decode mX12_init.2.1 246 = .ok (.aastore, 1) := by decide +kernel
theorem dX12_init_247 : decode mX12_init.2.1 247 = .ok (.putfield 92, 3) := by decide +kernel
theorem dX12_init_250 : decode mX12_init.2.1 250 = .ok (.aload_n 0, 1) := by decide +kernel
theorem dX12_init_251 : decode mX12_init.2.1 251 = .ok (.iconst 5, 1) := by decide +kernel
theorem dX12_init_252 : decode mX12_init.2.1 252 = .ok (.anewarray 66, 3) := by decide +kernel
theorem dX12_init_255 : decode mX12_init.2.1 255 = .ok (.dup, 1) := by decide +kernel
theorem dX12_init_256 : decode mX12_init.2.1 256 = .ok (.iconst 0, 1) := by decide +kernel
theorem dX12_init_257 : decode mX12_init.2.1 257 = .ok (.ldc 96, 2) := by decide +kernel
theorem dX12_init_259 : decode mX12_init.2.1 259 = .ok (.aastore, 1) := by decide +kernel
theorem dX12_init_260 : decode mX12_init.2.1 260 = .ok (.dup, 1) := by decide +kernel
theorem dX12_init_261 : decode mX12_init.2.1 261 = .ok (.iconst 1, 1) := by decide +kernel
theorem dX12_init_262 : decode mX12_init.2.1 262 = .ok (.ldc 98, 2) := by decide +kernel
theorem dX12_init_264 : decode mX12_init.2.1 264 = .ok (.aastore, 1) := by decide +kernel
theorem dX12_init_265 : decode mX12_init.2.1 265 = .ok (.dup, 1) := by decide +kernel
theorem dX12_init_266 : decode mX12_init.2.1 266 = .ok (.iconst 2, 1) := by decide +kernel
theorem dX12_init_267 : decode mX12_init.2.1 267 = .ok (.ldc 100, 2) := by decide +kernel
theorem dX12_init_269 : decode mX12_init.2.1 269 = .ok (.aastore, 1) := by decide +kernel
theorem dX12_init_270 : decode mX12_init.2.1 270 = .ok (.dup, 1) := by decide +kernel
theorem dX12_init_271 : decode mX12_init.2.1 271 = .ok (.iconst 3, 1) := by decide +kernel
theorem dX12_init_272 : decode mX12_init.2.1 272 = .ok (.ldc 102, 2) := by decide +kernel
theorem dX12_init_274 : decode mX12_init.2.1 274 = .ok (.aastore, 1) := by decide +kernel
theorem dX12_init_275 : decode mX12_init.2.1 275 = .ok (.dup, 1) := by decide +kernel
theorem dX12_init_276 : decode mX12_init.2.1 276 = .ok (.iconst 4, 1) := by decide +kernel
theorem dX12_init_277 : decode mX12_init.2.1 277 = .ok (.ldc 104, 2) := by decide +kernel
theorem dX12_init_279 : decode mX12_init.2.1 279 = .ok (.aastore, 1) := by decide +kernel
theorem dX12_init_280 : decode mX12_init.2.1 280 = .ok (.putfield 106, 3) := by decide +kernel
theorem dX12_init_283 : decode mX12_init.2.1 283 = .ok (.aload_n 0, 1) := by decide +kernel
theorem dX12_init_284 : decode mX12_init.2.1 284 = .ok (.iconst 4, 1) := by decide +kernel
theorem dX12_init_285 : decode mX12_init.2.1 285 = .ok (.anewarray 66, 3) := by decide +kernel
theorem dX12_init_288 : decode mX12_init.2.1 288 = .ok (.dup, 1) := by decide +kernel
theorem dX12_init_289 : decode mX12_init.2.1 289 = .ok (.iconst 0, 1) := by decide +kernel
theorem dX12_init_290 : decode mX12_init.2.1 290 = .ok (.ldc 109, 2) := by decide +kernel
theorem dX12_init_292 : decode mX12_init.2.1 292 = .ok (.aastore, 1) := by decide +kernel
theorem dX12_init_293 : decode mX12_init.2.1 293 = .ok (.dup, 1) := by decide +kernel
theorem dX12_init_294 : decode mX12_init.2.1 294 = .ok (.iconst 1, 1) := by decide +kernel
theorem dX12_init_295 : decode mX12_init.2.1 295 = .ok (.ldc 111, 2) := by decide +kernel
theorem dX12_init_297 : decode mX12_init.2.1 297 = .ok (.aastore, 1) := by decide +kernel
theorem dX12_init_298 : decode mX12_init.2.1 298 = .ok (.dup, 1) := by decide +kernel
theorem dX12_init_299 : decode mX12_init.2.1 299 = .ok (.iconst 2, 1) := by decide +kernel
theorem dX12_init_300 : decode mX12_init.2.1 300 = .ok (.ldc 113, 2) := by decide +kernel
theorem dX12_init_302 : decode mX12_init.2.1 302 = .ok (.aastore, 1) := by decide +kernel
theorem dX12_init_303 : decode mX12_init.2.1 303 = .ok (.dup, 1) := by decide +kernel
theorem dX12_init_304 : decode mX12_init.2.1 304 = .ok (.iconst 3, 1) := by decide +kernel
theorem dX12_init_305 : decode mX12_init.2.1 305 = .ok (.ldc 115, 2) := by decide +kernel
theorem dX12_init_307 : decode mX12_init.2.1 307 = .ok (.aastore, 1) := by decide +kernel
theorem dX12_init_308 : decode mX12_init.2.1 308 = .ok (.putfield 117, 3) := by decide +kernel
theorem dX12_init_311 : decode mX12_init.2.1 311 = .ok (.aload_n 0, 1) := by decide +kernel
theorem dX12_init_312 : decode mX12_init.2.1 312 = .ok (.iconst 4, 1) := by decide +kernel
theorem dX12_init_313 : decode mX12_init.2.1 313 = .ok (.anewarray 66, 3) := by decide +kernel
theorem dX12_init_316 : decode mX12_init.2.1 316 = .ok (.dup, 1) := by decide +kernel
theorem dX12_init_317 : decode mX12_init.2.1 317 = .ok (.iconst 0, 1) := by decide +kernel
theorem dX12_init_318 : decode mX12_init.2.1 318 = .ok (.ldc 120, 2) := by decide +kernel
theorem dX12_init_320 : decode mX12_init.2.1 320 = .ok (.aastore, 1) := by decide +kernel
theorem dX12_init_321 : decode mX12_init.2.1 321 = .ok (.dup, 1) := by decide +kernel
theorem dX12_init_322 : decode mX12_init.2.1 322 = .ok (.iconst 1, 1) := by decide +kernel
theorem dX12_init_323 : decode mX12_init.2.1 323 = .ok (.ldc 122, 2) := by decide +kernel
theorem dX12_init_325 : decode mX12_init.2.1 325 = .ok (.aastore, 1) := by decide +kernel
theorem dX12_init_326 : decode mX12_init.2.1 326 = .ok (.dup, 1) := by decide +kernel
theorem dX12_init_327 : decode mX12_init.2.1 327 = .ok (.iconst 2, 1) := by decide +kernel
theorem dX12_init_328 : decode mX12_init.2.1 328 = .ok (.ldc 124, 2) := by decide +kernel
theorem dX12_init_330 : decode mX12_init.2.1 330 = .ok (.aastore, 1) := by decide +kernel
theorem dX12_init_331 : decode mX12_init.2.1 331 = .ok (.dup, 1) := by decide +kernel
theorem dX12_init_332 : decode mX12_init.2.1 332 = .ok (.iconst 3, 1) := by decide +kernel
theorem dX12_init_333 : decode mX12_init.2.1 333 = .ok (.ldc 126, 2) := by decide +kernel
theorem dX12_init_335 : decode mX12_init.2.1 335 = .ok (.aastore, 1) := by decide +kernel
theorem dX12_init_336 : decode mX12_init.2.1 336 = .ok (.putfield 128, 3) := by decide +kernel
theorem dX12_init_339 : decode mX12_init.2.1 339 = .ok (.aload_n 0, 1) := by decide +kernel
theorem dX12_init_340 : decode mX12_init.2.1 340 = .ok (.iconst 4, 1) := by decide +kernel
theorem dX12_init_341 : decode mX12_init.2.1 341 = .ok (.anewarray 66, 3) := by decide +kernel
theorem dX12_init_344 : decode mX12_init.2.1 344 = .ok (.dup, 1) := by decide +kernel
theorem dX12_init_345 : decode mX12_init.2.1 345 = .ok (.iconst 0, 1) := by decide +kernel
theorem dX12_init_346 : decode mX12_init.2.1 346 = .ok (.ldc 131, 2) := by decide +kernel
theorem dX12_init_348 : decode mX12_init.2.1 348 = .ok (.aastore, 1) := by decide +kernel
theorem dX12_init_349 : decode mX12_init.2.1 349 = .ok (.dup, 1) := by decide +kernel
theorem dX12_init_350 : decode mX12_init.2.1 350 = .ok (.iconst 1, 1) := by decide +kernel
theorem dX12_init_351 : decode mX12_init.2.1 351 = .ok (.ldc 133, 2) := by decide +kernel
theorem dX12_init_353 : decode mX12_init.2.1 353 = .ok (.aastore, 1) := by decide +kernel
theorem dX12_init_354 : decode mX12_init.2.1 354 = .ok (.dup, 1) := by decide +kernel
theorem dX12_init_355 : decode mX12_init.2.1 355 = .ok (.iconst 2, 1) := by decide +kernel
