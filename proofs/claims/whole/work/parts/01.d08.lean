theorem dX12_reckons_152 : decode cX12_reckons 152 = .ok (.goto 189, 3) := by decide +kernel
theorem dX12_reckons_155 : decode cX12_reckons 155 = .ok (.aload_n 0, 1) := by decide +kernel
theorem dX12_reckons_156 : decode cX12_reckons 156 = .ok (.iload_n 1, 1) := by decide +kernel
theorem dX12_reckons_157 : decode cX12_reckons 157 = .ok (.iload_n 3, 1) := by decide +kernel
theorem dX12_reckons_158 : decode cX12_reckons 158 = .ok (.aload_n 0, 1) := by decide +kernel
theorem dX12_reckons_159 : decode cX12_reckons 159 = .ok (.iload_n 1, 1) := by decide +kernel
theorem dX12_reckons_160 : decode cX12_reckons 160 = .ok (.iload 4, 2) := by decide +kernel
theorem dX12_reckons_162 : decode cX12_reckons 162 = .ok (.invokevirtual 139, 3) := by decide +kernel
theorem dX12_reckons_165 : decode cX12_reckons 165 = .ok (.aload_n 0, 1) := by decide +kernel
theorem dX12_reckons_166 : decode cX12_reckons 166 = .ok (.iload_n 1, 1) := by decide +kernel
theorem dX12_reckons_167 : decode cX12_reckons 167 = .ok (.iload 5, 2) := by decide +kernel
theorem dX12_reckons_169 : decode cX12_reckons 169 = .ok (.invokevirtual 139, 3) := by decide +kernel
theorem dX12_reckons_172 : decode cX12_reckons 172 = .ok (.imul, 1) := by decide +kernel
theorem dX12_reckons_173 : decode cX12_reckons 173 = .ok (.invokevirtual 123, 3) := by decide +kernel
theorem dX12_reckons_176 : decode cX12_reckons 176 = .ok (.goto 165, 3) := by decide +kernel
theorem dX12_reckons_179 : decode cX12_reckons 179 = .ok (.aload_n 0, 1) := by decide +kernel
theorem dX12_reckons_180 : decode cX12_reckons 180 = .ok (.iload_n 1, 1) := by decide +kernel
theorem dX12_reckons_181 : decode cX12_reckons 181 = .ok (.iload_n 3, 1) := by decide +kernel
theorem dX12_reckons_182 : decode cX12_reckons 182 = .ok (.aload_n 0, 1) := by decide +kernel
theorem dX12_reckons_183 : decode cX12_reckons 183 = .ok (.iload_n 1, 1) := by decide +kernel
theorem dX12_reckons_184 : decode cX12_reckons 184 = .ok (.iload 4, 2) := by decide +kernel
theorem dX12_reckons_186 : decode cX12_reckons 186 = .ok (.invokevirtual 139, 3) := by decide +kernel
theorem dX12_reckons_189 : decode cX12_reckons 189 = .ok (.aload_n 0, 1) := by decide +kernel
theorem dX12_reckons_190 : decode cX12_reckons 190 = .ok (.iload_n 1, 1) := by decide +kernel
theorem dX12_reckons_191 : decode cX12_reckons 191 = .ok (.iload 5, 2) := by decide +kernel
theorem dX12_reckons_193 : decode cX12_reckons 193 = .ok (.invokevirtual 139, 3) := by decide +kernel
theorem dX12_reckons_196 : decode cX12_reckons 196 = .ok (.if_icmp .ge 7, 3) := by decide +kernel
theorem dX12_reckons_199 : decode cX12_reckons 199 = .ok (.iconst 1, 1) := by decide +kernel
theorem dX12_reckons_200 : decode cX12_reckons 200 = .ok (.goto 4, 3) := by decide +kernel
theorem dX12_reckons_203 : decode cX12_reckons 203 = .ok (.iconst 0, 1) := by decide +kernel
theorem dX12_reckons_204 : decode cX12_reckons 204 = .ok (.invokevirtual 123, 3) := by decide +kernel
theorem dX12_reckons_207 : decode cX12_reckons 207 = .ok (.goto 134, 3) := by decide +kernel
theorem dX12_reckons_210 : decode cX12_reckons 210 = .ok (.aload_n 0, 1) := by decide +kernel
theorem dX12_reckons_211 : decode cX12_reckons 211 = .ok (.iload_n 1, 1) := by decide +kernel
theorem dX12_reckons_212 : decode cX12_reckons 212 = .ok (.iload_n 3, 1) := by decide +kernel
theorem dX12_reckons_213 : decode cX12_reckons 213 = .ok (.aload_n 0, 1) := by decide +kernel
theorem dX12_reckons_214 : decode cX12_reckons 214 = .ok (.getfield 7, 3) := by decide +kernel
theorem dX12_reckons_217 : decode cX12_reckons 217 = .ok (.bipush 48, 2) := by decide +kernel
theorem dX12_reckons_219 : decode cX12_reckons 219 = .ok (.bipush 16, 2) := by decide +kernel
theorem dX12_reckons_221 : decode cX12_reckons 221 = .ok (.iload_n 1, 1) := by decide +kernel
theorem dX12_reckons_222 : decode cX12_reckons 222 = .ok (.imul, 1) := by decide +kernel
theorem dX12_reckons_223 : decode cX12_reckons 223 = .ok (.iadd, 1) := by decide +kernel
theorem dX12_reckons_224 : decode cX12_reckons 224 = .ok (.aload_n 0, 1) := by decide +kernel
theorem dX12_reckons_225 : decode cX12_reckons 225 = .ok (.iload_n 1, 1) := by decide +kernel
theorem dX12_reckons_226 : decode cX12_reckons 226 = .ok (.iload 4, 2) := by decide +kernel
theorem dX12_reckons_228 : decode cX12_reckons 228 = .ok (.invokevirtual 139, 3) := by decide +kernel
theorem dX12_reckons_231 : decode cX12_reckons 231 = .ok (.iadd, 1) := by decide +kernel
theorem dX12_reckons_232 : decode cX12_reckons 232 = .ok (.iaload, 1) := by decide +kernel
theorem dX12_reckons_233 : decode cX12_reckons 233 = .ok (.invokevirtual 123, 3) := by decide +kernel
theorem dX12_reckons_236 : decode cX12_reckons 236 = .ok (.goto 105, 3) := by decide +kernel
theorem dX12_reckons_239 : decode cX12_reckons 239 = .ok (.aload_n 0, 1) := by decide +kernel
theorem dX12_reckons_240 : decode cX12_reckons 240 = .ok (.getfield 7, 3) := by decide +kernel
theorem dX12_reckons_243 : decode cX12_reckons 243 = .ok (.bipush 48, 2) := by decide +kernel
theorem dX12_reckons_245 : decode cX12_reckons 245 = .ok (.bipush 16, 2) := by decide +kernel
theorem dX12_reckons_247 : decode cX12_reckons 247 = .ok (.iload_n 1, 1) := by decide +kernel
theorem dX12_reckons_248 : decode cX12_reckons 248 = .ok (.imul, 1) := by decide +kernel
theorem dX12_reckons_249 : decode cX12_reckons 249 = .ok (.iadd, 1) := by decide +kernel
theorem dX12_reckons_250 : decode cX12_reckons 250 = .ok (.aload_n 0, 1) := by decide +kernel
theorem dX12_reckons_251 : decode cX12_reckons 251 = .ok (.iload_n 1, 1) := by decide +kernel
theorem dX12_reckons_252 : decode cX12_reckons 252 = .ok (.iload 4, 2) := by decide +kernel
theorem dX12_reckons_254 : decode cX12_reckons 254 = .ok (.invokevirtual 139, 3) := by decide +kernel
theorem dX12_reckons_257 : decode cX12_reckons 257 = .ok (.iadd, 1) := by decide +kernel
theorem dX12_reckons_258 : decode cX12_reckons 258 = .ok (.aload_n 0, 1) := by decide +kernel
theorem dX12_reckons_259 : decode cX12_reckons 259 = .ok (.iload_n 1, 1) := by decide +kernel
theorem dX12_reckons_260 : decode cX12_reckons 260 = .ok (.iload_n 3, 1) := by decide +kernel
theorem dX12_reckons_261 : decode cX12_reckons 261 = .ok (.invokevirtual 139, 3) := by decide +kernel
theorem dX12_reckons_264 : decode cX12_reckons 264 = .ok (.iastore, 1) := by decide +kernel
theorem dX12_reckons_265 : decode cX12_reckons 265 = .ok (.goto 76, 3) := by decide +kernel
theorem dX12_reckons_268 : decode cX12_reckons 268 = .ok (.aload_n 0, 1) := by decide +kernel
theorem dX12_reckons_269 : decode cX12_reckons 269 = .ok (.iload_n 1, 1) := by decide +kernel
theorem dX12_reckons_270 : decode cX12_reckons 270 = .ok (.iload_n 3, 1) := by decide +kernel
theorem dX12_reckons_271 : decode cX12_reckons 271 = .ok (.aload_n 0, 1) := by decide +kernel
theorem dX12_reckons_272 : decode cX12_reckons 272 = .ok (.getfield 7, 3) := by decide +kernel
theorem dX12_reckons_275 : decode cX12_reckons 275 = .ok (.sipush 683, 3) := by decide +kernel
theorem dX12_reckons_278 : decode cX12_reckons 278 = .ok (.iaload, 1) := by decide +kernel
theorem dX12_reckons_279 : decode cX12_reckons 279 = .ok (.invokevirtual 123, 3) := by decide +kernel
theorem dX12_reckons_282 : decode cX12_reckons 282 = .ok (.goto 59, 3) := by decide +kernel
theorem dX12_reckons_285 : decode cX12_reckons 285 = .ok (.aload_n 0, 1) := by decide +kernel
theorem dX12_reckons_286 : decode cX12_reckons 286 = .ok (.iload_n 1, 1) := by decide +kernel
theorem dX12_reckons_287 : decode cX12_reckons 287 = .ok (.iload_n 3, 1) := by decide +kernel
theorem dX12_reckons_288 : decode cX12_reckons 288 = .ok (.aload_n 0, 1) := by decide +kernel
theorem dX12_reckons_289 : decode cX12_reckons 289 = .ok (.iload_n 1, 1) := by decide +kernel
theorem dX12_reckons_290 : decode cX12_reckons 290 = .ok (.iload 4, 2) := by decide +kernel
theorem dX12_reckons_292 : decode cX12_reckons 292 = .ok (.invokevirtual 139, 3) := by decide +kernel
theorem dX12_reckons_295 : decode cX12_reckons 295 = .ok (.i2f, 1) := by decide +kernel
theorem dX12_reckons_296 : decode cX12_reckons 296 = .ok (.aload_n 0, 1) := by decide +kernel
theorem dX12_reckons_297 : decode cX12_reckons 297 = .ok (.iload_n 1, 1) := by decide +kernel
theorem dX12_reckons_298 : decode cX12_reckons 298 = .ok (.iload 5, 2) := by decide +kernel
theorem dX12_reckons_300 : decode cX12_reckons 300 = .ok (.invokevirtual 139, 3) := by decide +kernel
theorem dX12_reckons_303 : decode cX12_reckons 303 = .ok (.i2f, 1) := by decide +kernel
theorem dX12_reckons_304 : decode cX12_reckons 304 = .ok (.fdiv, 1) := by decide +kernel
theorem dX12_reckons_305 : decode cX12_reckons 305 = .ok (.invokestatic 165, 3) := by decide +kernel
theorem dX12_reckons_308 : decode cX12_reckons 308 = .ok (.invokevirtual 123, 3) := by decide +kernel
theorem dX12_reckons_311 : decode cX12_reckons 311 = .ok (.goto 30, 3) := by decide +kernel
theorem dX12_reckons_314 : decode cX12_reckons 314 = .ok (.aload_n 0, 1) := by decide +kernel
theorem dX12_reckons_315 : decode cX12_reckons 315 = .ok (.iload_n 1, 1) := by decide +kernel
theorem dX12_reckons_316 : decode cX12_reckons 316 = .ok (.iload_n 3, 1) := by decide +kernel
theorem dX12_reckons_317 : decode cX12_reckons 317 = .ok (.aload_n 0, 1) := by decide +kernel
theorem dX12_reckons_318 : decode cX12_reckons 318 = .ok (.iload_n 1, 1) := by decide +kernel
theorem dX12_reckons_319 : decode cX12_reckons 319 = .ok (.iload 4, 2) := by decide +kernel
theorem dX12_reckons_321 : decode cX12_reckons 321 = .ok (.invokevirtual 139, 3) := by decide +kernel
theorem dX12_reckons_324 : decode cX12_reckons 324 = .ok (.i2f, 1) := by decide +kernel
theorem dX12_reckons_325 : decode cX12_reckons 325 = .ok (.aload_n 0, 1) := by decide +kernel
theorem dX12_reckons_326 : decode cX12_reckons 326 = .ok (.iload_n 1, 1) := by decide +kernel
theorem dX12_reckons_327 : decode cX12_reckons 327 = .ok (.iload 5, 2) := by decide +kernel
theorem dX12_reckons_329 : decode cX12_reckons 329 = .ok (.invokevirtual 139, 3) := by decide +kernel
theorem dX12_reckons_332 : decode cX12_reckons 332 = .ok (.i2f, 1) := by decide +kernel
theorem dX12_reckons_333 : decode cX12_reckons 333 = .ok (.fmul, 1) := by decide +kernel
theorem dX12_reckons_334 : decode cX12_reckons 334 = .ok (.ldc 171, 2) := by decide +kernel
theorem dX12_reckons_336 : decode cX12_reckons 336 = .ok (.fdiv, 1) := by decide +kernel
theorem dX12_reckons_337 : decode cX12_reckons 337 = .ok (.f2i, 1) := by decide +kernel
theorem dX12_reckons_338 : decode cX12_reckons 338 = .ok (.invokevirtual 123, 3) := by decide +kernel
theorem dX12_reckons_341 : decode cX12_reckons 341 = .ok (.return_, 1) := by decide +kernel
theorem dX12_waits_0 : decode cX12_waits 0 = .ok (.aload_n 0, 1) := by decide +kernel
theorem dX12_waits_1 : decode cX12_waits 1 = .ok (.iload_n 1, 1) := by decide +kernel
theorem dX12_waits_2 : decode cX12_waits 2 = .ok (.iload_n 3, 1) := by decide +kernel
theorem dX12_waits_3 : decode cX12_waits 3 = .ok (.bipush 14, 2) := by decide +kernel
theorem dX12_waits_5 : decode cX12_waits 5 = .ok (.if_icmp .ne 8, 3) := by decide +kernel
theorem dX12_waits_8 : decode cX12_waits 8 = .ok (.iload 4, 2) := by decide +kernel
theorem dX12_waits_10 : decode cX12_waits 10 = .ok (.goto 5, 3) := by decide +kernel
theorem dX12_waits_13 : decode cX12_waits 13 = .ok (.iload 6, 2) := by decide +kernel
theorem dX12_waits_15 : decode cX12_waits 15 = .ok (.invokevirtual 139, 3) := by decide +kernel
theorem dX12_waits_18 : decode cX12_waits 18 = .ok (.istore 7, 2) := by decide +kernel
theorem dX12_waits_20 : decode cX12_waits 20 = .ok (.iload 7, 2) := by decide +kernel
theorem dX12_waits_22 : decode cX12_waits 22 = .ok (.aload_n 0, 1) := by decide +kernel
theorem dX12_waits_23 : decode cX12_waits 23 = .ok (.getfield 7, 3) := by decide +kernel
theorem dX12_waits_26 : decode cX12_waits 26 = .ok (.sipush 683, 3) := by decide +kernel
theorem dX12_waits_29 : decode cX12_waits 29 = .ok (.iaload, 1) := by decide +kernel
theorem dX12_waits_30 : decode cX12_waits 30 = .ok (.if_icmp .le 65, 3) := by decide +kernel
theorem dX12_waits_33 : decode cX12_waits 33 = .ok (.aload_n 0, 1) := by decide +kernel
theorem dX12_waits_34 : decode cX12_waits 34 = .ok (.getfield 7, 3) := by decide +kernel
theorem dX12_waits_37 : decode cX12_waits 37 = .ok (.sipush 438, 3) := by decide +kernel
theorem dX12_waits_40 : decode cX12_waits 40 = .ok (.iload_n 1, 1) := by decide +kernel
theorem dX12_waits_41 : decode cX12_waits 41 = .ok (.iadd, 1) := by decide +kernel
theorem dX12_waits_42 : decode cX12_waits 42 = .ok (.iconst 1, 1) := by decide +kernel
theorem dX12_waits_43 : decode cX12_waits 43 = .ok (.iastore, 1) := by decide +kernel
theorem dX12_waits_44 : decode cX12_waits 44 = .ok (.aload_n 0, 1) := by decide +kernel
theorem dX12_waits_45 : decode cX12_waits 45 = .ok (.getfield 7, 3) := by decide +kernel
theorem dX12_waits_48 : decode cX12_waits 48 = .ok (.sipush 468, 3) := by decide +kernel
theorem dX12_waits_51 : decode cX12_waits 51 = .ok (.iload_n 1, 1) := by decide +kernel
theorem dX12_waits_52 : decode cX12_waits 52 = .ok (.iadd, 1) := by decide +kernel
theorem dX12_waits_53 : decode cX12_waits 53 = .ok (.iload 7, 2) := by decide +kernel
theorem dX12_waits_55 : decode cX12_waits 55 = .ok (.iastore, 1) := by decide +kernel
theorem dX12_waits_56 : decode cX12_waits 56 = .ok (.aload_n 0, 1) := by decide +kernel
theorem dX12_waits_57 : decode cX12_waits 57 = .ok (.getfield 7, 3) := by decide +kernel
theorem dX12_waits_60 : decode cX12_waits 60 = .ok (.sipush 480, 3) := by decide +kernel
theorem dX12_waits_63 : decode cX12_waits 63 = .ok (.iload_n 1, 1) := by decide +kernel
theorem dX12_waits_64 : decode cX12_waits 64 = .ok (.iadd, 1) := by decide +kernel
theorem dX12_waits_65 : decode cX12_waits 65 = .ok (.iload_n 2, 1) := by decide +kernel
theorem dX12_waits_66 : decode cX12_waits 66 = .ok (.iastore, 1) := by decide +kernel
theorem dX12_waits_67 : decode cX12_waits 67 = .ok (.aload_n 0, 1) := by decide +kernel
theorem dX12_waits_68 : decode cX12_waits 68 = .ok (.getfield 7, 3) := by decide +kernel
theorem dX12_waits_71 : decode cX12_waits 71 = .ok (.sipush 687, 3) := by decide +kernel
theorem dX12_waits_74 : decode cX12_waits 74 = .ok (.iload_n 1, 1) := by decide +kernel
theorem dX12_waits_75 : decode cX12_waits 75 = .ok (.iadd, 1) := by decide +kernel
theorem dX12_waits_76 : decode cX12_waits 76 = .ok (.iload_n 3, 1) := by decide +kernel
theorem dX12_waits_77 : decode cX12_waits 77 = .ok (.bipush 14, 2) := by decide +kernel
theorem dX12_waits_79 : decode cX12_waits 79 = .ok (.if_icmp .ne 7, 3) := by decide +kernel
theorem dX12_waits_82 : decode cX12_waits 82 = .ok (.iconst 0, 1) := by decide +kernel
theorem dX12_waits_83 : decode cX12_waits 83 = .ok (.goto 10, 3) := by decide +kernel
theorem dX12_waits_86 : decode cX12_waits 86 = .ok (.aload_n 0, 1) := by decide +kernel
theorem dX12_waits_87 : decode cX12_waits 87 = .ok (.iload_n 1, 1) := by decide +kernel
theorem dX12_waits_88 : decode cX12_waits 88 = .ok (.iload 5, 2) := by decide +kernel
theorem dX12_waits_90 : decode cX12_waits 90 = .ok (.invokevirtual 139, 3) := by decide +kernel
theorem dX12_waits_93 : decode cX12_waits 93 = .ok (.iastore, 1) := by decide +kernel
theorem dX12_waits_94 : decode cX12_waits 94 = .ok (.return_, 1) := by decide +kernel
theorem dX12_waits_95 : decode cX12_waits 95 = .ok (.iload_n 3, 1) := by decide +kernel
theorem dX12_waits_96 : decode cX12_waits 96 = .ok (.bipush 14, 2) := by decide +kernel
theorem dX12_waits_98 : decode cX12_waits 98 = .ok (.if_icmp .ne 4, 3) := by decide +kernel
theorem dX12_waits_101 : decode cX12_waits 101 = .ok (.return_, 1) := by decide +kernel
theorem dX12_waits_102 : decode cX12_waits 102 = .ok (.iload 7, 2) := by decide +kernel
theorem dX12_waits_104 : decode cX12_waits 104 = .ok (.aload_n 0, 1) := by decide +kernel
theorem dX12_waits_105 : decode cX12_waits 105 = .ok (.getfield 7, 3) := by decide +kernel
theorem dX12_waits_108 : decode cX12_waits 108 = .ok (.sipush 683, 3) := by decide +kernel
theorem dX12_waits_111 : decode cX12_waits 111 = .ok (.iaload, 1) := by decide +kernel
theorem dX12_waits_112 : decode cX12_waits 112 = .ok (.if_icmp .ge 7, 3) := by decide +kernel
theorem dX12_waits_115 : decode cX12_waits 115 = .ok (.iconst 1, 1) := by decide +kernel
theorem dX12_waits_116 : decode cX12_waits 116 = .ok (.goto 4, 3) := by decide +kernel
theorem dX12_waits_119 : decode cX12_waits 119 = .ok (.iconst 0, 1) := by decide +kernel
theorem dX12_waits_120 : decode cX12_waits 120 = .ok (.istore 8, 2) := by decide +kernel
theorem dX12_waits_122 : decode cX12_waits 122 = .ok (.iload 8, 2) := by decide +kernel
theorem dX12_waits_124 : decode cX12_waits 124 = .ok (.ifCond .eq 17, 3) := by decide +kernel
theorem dX12_waits_127 : decode cX12_waits 127 = .ok (.aload_n 0, 1) := by decide +kernel
theorem dX12_waits_128 : decode cX12_waits 128 = .ok (.getfield 7, 3) := by decide +kernel
theorem dX12_waits_131 : decode cX12_waits 131 = .ok (.sipush 474, 3) := by decide +kernel
theorem dX12_waits_134 : decode cX12_waits 134 = .ok (.iload_n 1, 1) := by decide +kernel
theorem dX12_waits_135 : decode cX12_waits 135 = .ok (.iadd, 1) := by decide +kernel
theorem dX12_waits_136 : decode cX12_waits 136 = .ok (.dup2, 1) := by decide +kernel
theorem dX12_waits_137 : decode cX12_waits 137 = .ok (.iaload, 1) := by decide +kernel
theorem dX12_waits_138 : decode cX12_waits 138 = .ok (.iconst 1, 1) := by decide +kernel
theorem dX12_waits_139 : decode cX12_waits 139 = .ok (.iadd, 1) := by decide +kernel
theorem dX12_waits_140 : decode cX12_waits 140 = .ok (.iastore, 1) := by decide +kernel
theorem dX12_waits_141 : decode cX12_waits 141 = .ok (.iload_n 3, 1) := by decide +kernel
theorem dX12_waits_142 : decode cX12_waits 142 = .ok (.bipush 11, 2) := by decide +kernel
theorem dX12_waits_144 : decode cX12_waits 144 = .ok (.if_icmp .ne 21, 3) := by decide +kernel
theorem dX12_waits_147 : decode cX12_waits 147 = .ok (.aload_n 0, 1) := by decide +kernel
theorem dX12_waits_148 : decode cX12_waits 148 = .ok (.iload 4, 2) := by decide +kernel
theorem dX12_waits_150 : decode cX12_waits 150 = .ok (.aload_n 0, 1) := by decide +kernel
theorem dX12_waits_151 : decode cX12_waits 151 = .ok (.iload_n 1, 1) := by decide +kernel
theorem dX12_waits_152 : decode cX12_waits 152 = .ok (.iload 5, 2) := by decide +kernel
theorem dX12_waits_154 : decode cX12_waits 154 = .ok (.invokevirtual 139, 3) := by decide +kernel
theorem dX12_waits_157 : decode cX12_waits 157 = .ok (.iload 8, 2) := by decide +kernel
theorem dX12_waits_159 : decode cX12_waits 159 = .ok (.invokevirtual 119, 3) := by decide +kernel
theorem dX12_waits_162 : decode cX12_waits 162 = .ok (.goto 21, 3) := by decide +kernel
theorem dX12_waits_165 : decode cX12_waits 165 = .ok (.aload_n 0, 1) := by decide +kernel
theorem dX12_waits_166 : decode cX12_waits 166 = .ok (.iload_n 1, 1) := by decide +kernel
theorem dX12_waits_167 : decode cX12_waits 167 = .ok (.iload 5, 2) := by decide +kernel
theorem dX12_waits_169 : decode cX12_waits 169 = .ok (.aload_n 0, 1) := by decide +kernel
theorem dX12_waits_170 : decode cX12_waits 170 = .ok (.getfield 7, 3) := by decide +kernel
theorem dX12_waits_173 : decode cX12_waits 173 = .ok (.sipush 486, 3) := by decide +kernel
theorem dX12_waits_176 : decode cX12_waits 176 = .ok (.iload 4, 2) := by decide +kernel
theorem dX12_waits_178 : decode cX12_waits 178 = .ok (.iadd, 1) := by decide +kernel
theorem dX12_waits_179 : decode cX12_waits 179 = .ok (.iaload, 1) := by decide +kernel
theorem dX12_waits_180 : decode cX12_waits 180 = .ok (.invokevirtual 123, 3) := by decide +kernel
theorem dX12_waits_183 : decode cX12_waits 183 = .ok (.return_, 1) := by decide +kernel
theorem dX12_meets_0 : decode cX12_meets 0 = .ok (.aload_n 0, 1) := by decide +kernel
theorem dX12_meets_1 : decode cX12_meets 1 = .ok (.getfield 7, 3) := by decide +kernel
theorem dX12_meets_4 : decode cX12_meets 4 = .ok (.sipush 518, 3) := by decide +kernel
theorem dX12_meets_7 : decode cX12_meets 7 = .ok (.iload_n 3, 1) := by decide +kernel
theorem dX12_meets_8 : decode cX12_meets 8 = .ok (.iadd, 1) := by decide +kernel
theorem dX12_meets_9 : decode cX12_meets 9 = .ok (.iaload, 1) := by decide +kernel
theorem dX12_meets_10 : decode cX12_meets 10 = .ok (.ifCond .le 19, 3) := by decide +kernel
theorem dX12_meets_13 : decode cX12_meets 13 = .ok (.aload_n 0, 1) := by decide +kernel
theorem dX12_meets_14 : decode cX12_meets 14 = .ok (.getfield 7, 3) := by decide +kernel
theorem dX12_meets_17 : decode cX12_meets 17 = .ok (.sipush 494, 3) := by decide +kernel
theorem dX12_meets_20 : decode cX12_meets 20 = .ok (.bipush 6, 2) := by decide +kernel
theorem dX12_meets_22 : decode cX12_meets 22 = .ok (.iload_n 3, 1) := by decide +kernel
theorem dX12_meets_23 : decode cX12_meets 23 = .ok (.imul, 1) := by decide +kernel
theorem dX12_meets_24 : decode cX12_meets 24 = .ok (.iadd, 1) := by decide +kernel
theorem dX12_meets_25 : decode cX12_meets 25 = .ok (.iaload, 1) := by decide +kernel
theorem dX12_meets_26 : decode cX12_meets 26 = .ok (.goto 4, 3) := by decide +kernel
theorem dX12_meets_29 : decode cX12_meets 29 = .ok (.iconst (-1), 1) := by decide +kernel
theorem dX12_meets_30 : decode cX12_meets 30 = .ok (.istore 6, 2) := by decide +kernel
theorem dX12_meets_32 : decode cX12_meets 32 = .ok (.iload_n 2, 1) := by decide +kernel
theorem dX12_meets_33 : decode cX12_meets 33 = .ok (.bipush 16, 2) := by decide +kernel
theorem dX12_meets_35 : decode cX12_meets 35 = .ok (.if_icmp .ne 7, 3) := by decide +kernel
theorem dX12_meets_38 : decode cX12_meets 38 = .ok (.iconst 3, 1) := by decide +kernel
theorem dX12_meets_39 : decode cX12_meets 39 = .ok (.goto 4, 3) := by decide +kernel
theorem dX12_meets_42 : decode cX12_meets 42 = .ok (.iconst 2, 1) := by decide +kernel
theorem dX12_meets_43 : decode cX12_meets 43 = .ok (.istore 7, 2) := by decide +kernel
theorem dX12_meets_45 : decode cX12_meets 45 = .ok (.iload 6, 2) := by decide +kernel
theorem dX12_meets_47 : decode cX12_meets 47 = .ok (.ifCond .lt 19, 3) := by decide +kernel
theorem dX12_meets_50 : decode cX12_meets 50 = .ok (.aload_n 0, 1) := by decide +kernel
theorem dX12_meets_51 : decode cX12_meets 51 = .ok (.getfield 7, 3) := by decide +kernel
theorem dX12_meets_54 : decode cX12_meets 54 = .ok (.sipush 438, 3) := by decide +kernel
theorem dX12_meets_57 : decode cX12_meets 57 = .ok (.iload 6, 2) := by decide +kernel
theorem dX12_meets_59 : decode cX12_meets 59 = .ok (.iadd, 1) := by decide +kernel
theorem dX12_meets_60 : decode cX12_meets 60 = .ok (.iaload, 1) := by decide +kernel
theorem dX12_meets_61 : decode cX12_meets 61 = .ok (.iload 7, 2) := by decide +kernel
theorem dX12_meets_63 : decode cX12_meets 63 = .ok (.if_icmp .eq 93, 3) := by decide +kernel
theorem dX12_meets_66 : decode cX12_meets 66 = .ok (.aload_n 0, 1) := by decide +kernel
theorem dX12_meets_67 : decode cX12_meets 67 = .ok (.getfield 7, 3) := by decide +kernel
theorem dX12_meets_70 : decode cX12_meets 70 = .ok (.sipush 438, 3) := by decide +kernel
theorem dX12_meets_73 : decode cX12_meets 73 = .ok (.iload_n 1, 1) := by decide +kernel
theorem dX12_meets_74 : decode cX12_meets 74 = .ok (.iadd, 1) := by decide +kernel
theorem dX12_meets_75 : decode cX12_meets 75 = .ok (.iload_n 2, 1) := by decide +kernel
theorem dX12_meets_76 : decode cX12_meets 76 = .ok (.bipush 16, 2) := by decide +kernel
theorem dX12_meets_78 : decode cX12_meets 78 = .ok (.if_icmp .ne 7, 3) := by decide +kernel
theorem dX12_meets_81 : decode cX12_meets 81 = .ok (.iconst 2, 1) := by decide +kernel
theorem dX12_meets_82 : decode cX12_meets 82 = .ok (.goto 4, 3) := by decide +kernel
theorem dX12_meets_85 : decode cX12_meets 85 = .ok (.iconst 3, 1) := by decide +kernel
theorem dX12_meets_86 : decode cX12_meets 86 = .ok (.iastore, 1) := by decide +kernel
theorem dX12_meets_87 : decode cX12_meets 87 = .ok (.aload_n 0, 1) := by decide +kernel
theorem dX12_meets_88 : decode cX12_meets 88 = .ok (.getfield 7, 3) := by decide +kernel
theorem dX12_meets_91 : decode cX12_meets 91 = .ok (.sipush 480, 3) := by decide +kernel
theorem dX12_meets_94 : decode cX12_meets 94 = .ok (.iload_n 1, 1) := by decide +kernel
theorem dX12_meets_95 : decode cX12_meets 95 = .ok (.iadd, 1) := by decide +kernel
theorem dX12_meets_96 : decode cX12_meets 96 = .ok (.iload 5, 2) := by decide +kernel
theorem dX12_meets_98 : decode cX12_meets 98 = .ok (.iastore, 1) := by decide +kernel
theorem dX12_meets_99 : decode cX12_meets 99 = .ok (.aload_n 0, 1) := by decide +kernel
theorem dX12_meets_100 : decode cX12_meets 100 = .ok (.getfield 7, 3) := by decide +kernel
theorem dX12_meets_103 : decode cX12_meets 103 = .ok (.sipush 687, 3) := by decide +kernel
theorem dX12_meets_106 : decode cX12_meets 106 = .ok (.iload_n 1, 1) := by decide +kernel
theorem dX12_meets_107 : decode cX12_meets 107 = .ok (.iadd, 1) := by decide +kernel
theorem dX12_meets_108 : decode cX12_meets 108 = .ok (.aload_n 0, 1) := by decide +kernel
theorem dX12_meets_109 : decode cX12_meets 109 = .ok (.iload_n 1, 1) := by decide +kernel
theorem dX12_meets_110 : decode cX12_meets 110 = .ok (.iload 4, 2) := by decide +kernel
theorem dX12_meets_112 : decode cX12_meets 112 = .ok (.invokevirtual 139, 3) := by decide +kernel
theorem dX12_meets_115 : decode cX12_meets 115 = .ok (.iastore, 1) := by decide +kernel
theorem dX12_meets_116 : decode cX12_meets 116 = .ok (.aload_n 0, 1) := by decide +kernel
theorem dX12_meets_117 : decode cX12_meets 117 = .ok (.getfield 7, 3) := by decide +kernel
theorem dX12_meets_120 : decode cX12_meets 120 = .ok (.sipush 494, 3) := by decide +kernel
theorem dX12_meets_123 : decode cX12_meets 123 = .ok (.bipush 6, 2) := by decide +kernel
theorem dX12_meets_125 : decode cX12_meets 125 = .ok (.iload_n 3, 1) := by decide +kernel
theorem dX12_meets_126 : decode cX12_meets 126 = .ok (.imul, 1) := by decide +kernel
theorem dX12_meets_127 : decode cX12_meets 127 = .ok (.iadd, 1) := by decide +kernel
theorem dX12_meets_128 : decode cX12_meets 128 = .ok (.aload_n 0, 1) := by decide +kernel
theorem dX12_meets_129 : decode cX12_meets 129 = .ok (.getfield 7, 3) := by decide +kernel
theorem dX12_meets_132 : decode cX12_meets 132 = .ok (.sipush 518, 3) := by decide +kernel
theorem dX12_meets_135 : decode cX12_meets 135 = .ok (.iload_n 3, 1) := by decide +kernel
theorem dX12_meets_136 : decode cX12_meets 136 = .ok (.iadd, 1) := by decide +kernel
theorem dX12_meets_137 : decode cX12_meets 137 = .ok (.iaload, 1) := by decide +kernel
theorem dX12_meets_138 : decode cX12_meets 138 = .ok (.iadd, 1) := by decide +kernel
theorem dX12_meets_139 : decode cX12_meets 139 = .ok (.iload_n 1, 1) := by decide +kernel
theorem dX12_meets_140 : decode cX12_meets 140 = .ok (.iastore, 1) := by decide +kernel
theorem dX12_meets_141 : decode cX12_meets 141 = .ok (.aload_n 0, 1) := by decide +kernel
theorem dX12_meets_142 : decode cX12_meets 142 = .ok (.getfield 7, 3) := by decide +kernel
theorem dX12_meets_145 : decode cX12_meets 145 = .ok (.sipush 518, 3) := by decide +kernel
theorem dX12_meets_148 : decode cX12_meets 148 = .ok (.iload_n 3, 1) := by decide +kernel
theorem dX12_meets_149 : decode cX12_meets 149 = .ok (.iadd, 1) := by decide +kernel
theorem dX12_meets_150 : decode cX12_meets 150 = .ok (.dup2, 1) := by decide +kernel
theorem dX12_meets_151 : decode cX12_meets 151 = .ok (.iaload, 1) := by decide +kernel
theorem dX12_meets_152 : decode cX12_meets 152 = .ok (.iconst 1, 1) := by decide +kernel
theorem dX12_meets_153 : decode cX12_meets 153 = .ok (.iadd, 1) := by decide +kernel
theorem dX12_meets_154 : decode cX12_meets 154 = .ok (.iastore, 1) := by decide +kernel
theorem dX12_meets_155 : decode cX12_meets 155 = .ok (.return_, 1) := by decide +kernel
theorem dX12_meets_156 : decode cX12_meets 156 = .ok (.aload_n 0, 1) := by decide +kernel
theorem dX12_meets_157 : decode cX12_meets 157 = .ok (.iload 6, 2) := by decide +kernel
theorem dX12_meets_159 : decode cX12_meets 159 = .ok (.aload_n 0, 1) := by decide +kernel
theorem dX12_meets_160 : decode cX12_meets 160 = .ok (.getfield 7, 3) := by decide +kernel
theorem dX12_meets_163 : decode cX12_meets 163 = .ok (.sipush 480, 3) := by decide +kernel
theorem dX12_meets_166 : decode cX12_meets 166 = .ok (.iload 6, 2) := by decide +kernel
theorem dX12_meets_168 : decode cX12_meets 168 = .ok (.iadd, 1) := by decide +kernel
theorem dX12_meets_169 : decode cX12_meets 169 = .ok (.iaload, 1) := by decide +kernel
theorem dX12_meets_170 : decode cX12_meets 170 = .ok (.iconst 2, 1) := by decide +kernel
theorem dX12_meets_171 : decode cX12_meets 171 = .ok (.invokevirtual 115, 3) := by decide +kernel
theorem dX12_meets_174 : decode cX12_meets 174 = .ok (.istore 8, 2) := by decide +kernel
theorem dX12_meets_176 : decode cX12_meets 176 = .ok (.iload_n 2, 1) := by decide +kernel
theorem dX12_meets_177 : decode cX12_meets 177 = .ok (.bipush 16, 2) := by decide +kernel
theorem dX12_meets_179 : decode cX12_meets 179 = .ok (.if_icmp .ne 21, 3) := by decide +kernel
theorem dX12_meets_182 : decode cX12_meets 182 = .ok (.aload_n 0, 1) := by decide +kernel
theorem dX12_meets_183 : decode cX12_meets 183 = .ok (.iload 6, 2) := by decide +kernel
theorem dX12_meets_185 : decode cX12_meets 185 = .ok (.iload 8, 2) := by decide +kernel
theorem dX12_meets_187 : decode cX12_meets 187 = .ok (.aload_n 0, 1) := by decide +kernel
theorem dX12_meets_188 : decode cX12_meets 188 = .ok (.iload_n 1, 1) := by decide +kernel
theorem dX12_meets_189 : decode cX12_meets 189 = .ok (.iload 4, 2) := by decide +kernel
theorem dX12_meets_191 : decode cX12_meets 191 = .ok (.invokevirtual 139, 3) := by decide +kernel
theorem dX12_meets_194 : decode cX12_meets 194 = .ok (.invokevirtual 123, 3) := by decide +kernel
theorem dX12_meets_197 : decode cX12_meets 197 = .ok (.goto 21, 3) := by decide +kernel
theorem dX12_meets_200 : decode cX12_meets 200 = .ok (.aload_n 0, 1) := by decide +kernel
theorem dX12_meets_201 : decode cX12_meets 201 = .ok (.iload_n 1, 1) := by decide +kernel
theorem dX12_meets_202 : decode cX12_meets 202 = .ok (.iload 4, 2) := by decide +kernel
theorem dX12_meets_204 : decode cX12_meets 204 = .ok (.aload_n 0, 1) := by decide +kernel
theorem dX12_meets_205 : decode cX12_meets 205 = .ok (.getfield 7, 3) := by decide +kernel
theorem dX12_meets_208 : decode cX12_meets 208 = .ok (.sipush 687, 3) := by decide +kernel
theorem dX12_meets_211 : decode cX12_meets 211 = .ok (.iload 6, 2) := by decide +kernel
theorem dX12_meets_213 : decode cX12_meets 213 = .ok (.iadd, 1) := by decide +kernel
theorem dX12_meets_214 : decode cX12_meets 214 = .ok (.iaload, 1) := by decide +kernel
theorem dX12_meets_215 : decode cX12_meets 215 = .ok (.invokevirtual 123, 3) := by decide +kernel
theorem dX12_meets_218 : decode cX12_meets 218 = .ok (.aload_n 0, 1) := by decide +kernel
theorem dX12_meets_219 : decode cX12_meets 219 = .ok (.getfield 7, 3) := by decide +kernel
theorem dX12_meets_222 : decode cX12_meets 222 = .ok (.sipush 438, 3) := by decide +kernel
theorem dX12_meets_225 : decode cX12_meets 225 = .ok (.iload 6, 2) := by decide +kernel
theorem dX12_meets_227 : decode cX12_meets 227 = .ok (.iadd, 1) := by decide +kernel
theorem dX12_meets_228 : decode cX12_meets 228 = .ok (.iconst 0, 1) := by decide +kernel
theorem dX12_meets_229 : decode cX12_meets 229 = .ok (.iastore, 1) := by decide +kernel
theorem dX12_meets_230 : decode cX12_meets 230 = .ok (.aload_n 0, 1) := by decide +kernel
theorem dX12_meets_231 : decode cX12_meets 231 = .ok (.iload 6, 2) := by decide +kernel
theorem dX12_meets_233 : decode cX12_meets 233 = .ok (.invokevirtual 88, 3) := by decide +kernel
theorem dX12_meets_236 : decode cX12_meets 236 = .ok (.aload_n 0, 1) := by decide +kernel
theorem dX12_meets_237 : decode cX12_meets 237 = .ok (.getfield 7, 3) := by decide +kernel
theorem dX12_meets_240 : decode cX12_meets 240 = .ok (.sipush 686, 3) := by decide +kernel
theorem dX12_meets_243 : decode cX12_meets 243 = .ok (.dup2, 1) := by decide +kernel
theorem dX12_meets_244 : decode cX12_meets 244 = .ok (.iaload, 1) := by decide +kernel
theorem dX12_meets_245 : decode cX12_meets 245 = .ok (.iconst 1, 1) := by decide +kernel
theorem dX12_meets_246 : decode cX12_meets 246 = .ok (.iadd, 1) := by decide +kernel
theorem dX12_meets_247 : decode cX12_meets 247 = .ok (.iastore, 1) := by decide +kernel
theorem dX12_meets_248 : decode cX12_meets 248 = .ok (.return_, 1) := by decide +kernel
theorem dX12_start_0 : decode cX12_start 0 = .ok (.aload_n 0, 1) := by decide +kernel
theorem dX12_start_1 : decode cX12_start 1 = .ok (.iconst 0, 1) := by decide +kernel
theorem dX12_start_2 : decode cX12_start 2 = .ok (.putfield 73, 3) := by decide +kernel
theorem dX12_start_5 : decode cX12_start 5 = .ok (.aload_n 0, 1) := by decide +kernel
theorem dX12_start_6 : decode cX12_start 6 = .ok (.getfield 7, 3) := by decide +kernel
theorem dX12_start_9 : decode cX12_start 9 = .ok (.sipush 683, 3) := by decide +kernel
theorem dX12_start_12 : decode cX12_start 12 = .ok (.iaload, 1) := by decide +kernel
theorem dX12_start_13 : decode cX12_start 13 = .ok (.istore_n 1, 1) := by decide +kernel
theorem dX12_start_14 : decode cX12_start 14 = .ok (.aload_n 0, 1) := by decide +kernel
theorem dX12_start_15 : decode cX12_start 15 = .ok (.invokevirtual 70, 3) := by decide +kernel
theorem dX12_start_18 : decode cX12_start 18 = .ok (.iload_n 1, 1) := by decide +kernel
theorem dX12_start_19 : decode cX12_start 19 = .ok (.ireturn, 1) := by decide +kernel
theorem dX12_run_0 : decode cX12_run 0 = .ok (.aload_n 0, 1) := by decide +kernel
theorem dX12_run_1 : decode cX12_run 1 = .ok (.iconst 0, 1) := by decide +kernel
theorem dX12_run_2 : decode cX12_run 2 = .ok (.putfield 73, 3) := by decide +kernel
theorem dX12_run_5 : decode cX12_run 5 = .ok (.iload_n 1, 1) := by decide +kernel
theorem dX12_run_6 : decode cX12_run 6 = .ok (.iconst 1, 1) := by decide +kernel
theorem dX12_run_7 : decode cX12_run 7 = .ok (.sipush 200, 3) := by decide +kernel
theorem dX12_run_10 : decode cX12_run 10 = .ok (.invokestatic 76, 3) := by decide +kernel
theorem dX12_run_13 : decode cX12_run 13 = .ok (.ifCond .ne 5, 3) := by decide +kernel
theorem dX12_run_16 : decode cX12_run 16 = .ok (.iconst (-1), 1) := by decide +kernel
theorem dX12_run_17 : decode cX12_run 17 = .ok (.ireturn, 1) := by decide +kernel
theorem dX12_run_18 : decode cX12_run 18 = .ok (.iconst 0, 1) := by decide +kernel
theorem dX12_run_19 : decode cX12_run 19 = .ok (.istore_n 2, 1) := by decide +kernel
theorem dX12_run_20 : decode cX12_run 20 = .ok (.iconst 0, 1) := by decide +kernel
theorem dX12_run_21 : decode cX12_run 21 = .ok (.istore_n 3, 1) := by decide +kernel
theorem dX12_run_22 : decode cX12_run 22 = .ok (.iload_n 3, 1) := by decide +kernel
theorem dX12_run_23 : decode cX12_run 23 = .ok (.iload_n 1, 1) := by decide +kernel
theorem dX12_run_24 : decode cX12_run 24 = .ok (.if_icmp .ge 19, 3) := by decide +kernel
theorem dX12_run_27 : decode cX12_run 27 = .ok (.aload_n 0, 1) := by decide +kernel
theorem dX12_run_28 : decode cX12_run 28 = .ok (.invokevirtual 172, 3) := by decide +kernel
theorem dX12_run_31 : decode cX12_run 31 = .ok (.ifCond .lt 6, 3) := by decide +kernel
theorem dX12_run_34 : decode cX12_run 34 = .ok (.iinc 2 1, 3) := by decide +kernel
theorem dX12_run_37 : decode cX12_run 37 = .ok (.iinc 3 1, 3) := by decide +kernel
theorem dX12_run_40 : decode cX12_run 40 = .ok (.goto (-18), 3) := by decide +kernel
theorem dX12_run_43 : decode cX12_run 43 = .ok (.iload_n 2, 1) := by decide +kernel
theorem dX12_run_44 : decode cX12_run 44 = .ok (.ireturn, 1) := by decide +kernel
theorem dX12_throwing_0 : decode cX12_throwing 0 = .ok (.aload_n 0, 1) := by decide +kernel
theorem dX12_throwing_1 : decode cX12_throwing 1 = .ok (.iload_n 1, 1) := by decide +kernel
theorem dX12_throwing_2 : decode cX12_throwing 2 = .ok (.ifCond .eq 7, 3) := by decide +kernel
theorem dX12_throwing_5 : decode cX12_throwing 5 = .ok (.iconst 0, 1) := by decide +kernel
theorem dX12_throwing_6 : decode cX12_throwing 6 = .ok (.goto 4, 3) := by decide +kernel
theorem dX12_throwing_9 : decode cX12_throwing 9 = .ok (.iconst 1, 1) := by decide +kernel
theorem dX12_throwing_10 : decode cX12_throwing 10 = .ok (.putfield 73, 3) := by decide +kernel
theorem dX12_throwing_13 : decode cX12_throwing 13 = .ok (.iload_n 1, 1) := by decide +kernel
theorem dX12_throwing_14 : decode cX12_throwing 14 = .ok (.ifCond .ne 7, 3) := by decide +kernel
theorem dX12_throwing_17 : decode cX12_throwing 17 = .ok (.iconst 1, 1) := by decide +kernel
theorem dX12_throwing_18 : decode cX12_throwing 18 = .ok (.goto 4, 3) := by decide +kernel
theorem dX12_throwing_21 : decode cX12_throwing 21 = .ok (.iconst 0, 1) := by decide +kernel
theorem dX12_throwing_22 : decode cX12_throwing 22 = .ok (.ireturn, 1) := by decide +kernel
theorem dX12_set_0 : decode cX12_set 0 = .ok (.aload_n 0, 1) := by decide +kernel
theorem dX12_set_1 : decode cX12_set 1 = .ok (.iload_n 1, 1) := by decide +kernel
theorem dX12_set_2 : decode cX12_set 2 = .ok (.invokestatic 80, 3) := by decide +kernel
theorem dX12_set_5 : decode cX12_set 5 = .ok (.ifCond .eq 17, 3) := by decide +kernel
theorem dX12_set_8 : decode cX12_set 8 = .ok (.iload_n 2, 1) := by decide +kernel
theorem dX12_set_9 : decode cX12_set 9 = .ok (.iconst 0, 1) := by decide +kernel
theorem dX12_set_10 : decode cX12_set 10 = .ok (.bipush 7, 2) := by decide +kernel
theorem dX12_set_12 : decode cX12_set 12 = .ok (.invokestatic 76, 3) := by decide +kernel
theorem dX12_set_15 : decode cX12_set 15 = .ok (.ifCond .eq 7, 3) := by decide +kernel
theorem dX12_set_18 : decode cX12_set 18 = .ok (.iconst 1, 1) := by decide +kernel
theorem dX12_set_19 : decode cX12_set 19 = .ok (.goto 4, 3) := by decide +kernel
theorem dX12_set_22 : decode cX12_set 22 = .ok (.iconst 0, 1) := by decide +kernel
theorem dX12_set_23 : decode cX12_set 23 = .ok (.invokevirtual 175, 3) := by decide +kernel
theorem dX12_set_26 : decode cX12_set 26 = .ok (.ifCond .eq 5, 3) := by decide +kernel
theorem dX12_set_29 : decode cX12_set 29 = .ok (.iconst 0, 1) := by decide +kernel
theorem dX12_set_30 : decode cX12_set 30 = .ok (.ireturn, 1) := by decide +kernel
theorem dX12_set_31 : decode cX12_set 31 = .ok (.aload_n 0, 1) := by decide +kernel
theorem dX12_set_32 : decode cX12_set 32 = .ok (.iload_n 1, 1) := by decide +kernel
theorem dX12_set_33 : decode cX12_set 33 = .ok (.iload_n 2, 1) := by decide +kernel
theorem dX12_set_34 : decode cX12_set 34 = .ok (.invokevirtual 139, 3) := by decide +kernel
theorem dX12_set_37 : decode cX12_set 37 = .ok (.istore 4, 2) := by decide +kernel
theorem dX12_set_39 : decode cX12_set 39 = .ok (.aload_n 0, 1) := by decide +kernel
theorem dX12_set_40 : decode cX12_set 40 = .ok (.iload_n 1, 1) := by decide +kernel
theorem dX12_set_41 : decode cX12_set 41 = .ok (.iload_n 2, 1) := by decide +kernel
theorem dX12_set_42 : decode cX12_set 42 = .ok (.iload_n 3, 1) := by decide +kernel
theorem dX12_set_43 : decode cX12_set 43 = .ok (.invokevirtual 123, 3) := by decide +kernel
theorem dX12_set_46 : decode cX12_set 46 = .ok (.iload 4, 2) := by decide +kernel
theorem dX12_set_48 : decode cX12_set 48 = .ok (.ireturn, 1) := by decide +kernel
theorem dX12_register_0 : decode cX12_register 0 = .ok (.aload_n 0, 1) := by decide +kernel
theorem dX12_register_1 : decode cX12_register 1 = .ok (.iload_n 1, 1) := by decide +kernel
theorem dX12_register_2 : decode cX12_register 2 = .ok (.invokestatic 80, 3) := by decide +kernel
theorem dX12_register_5 : decode cX12_register 5 = .ok (.ifCond .eq 17, 3) := by decide +kernel
theorem dX12_register_8 : decode cX12_register 8 = .ok (.iload_n 2, 1) := by decide +kernel
theorem dX12_register_9 : decode cX12_register 9 = .ok (.iconst 0, 1) := by decide +kernel
theorem dX12_register_10 : decode cX12_register 10 = .ok (.bipush 7, 2) := by decide +kernel
theorem dX12_register_12 : decode cX12_register 12 = .ok (.invokestatic 76, 3) := by decide +kernel
theorem dX12_register_15 : decode cX12_register 15 = .ok (.ifCond .eq 7, 3) := by decide +kernel
theorem dX12_register_18 : decode cX12_register 18 = .ok (.iconst 1, 1) := by decide +kernel
theorem dX12_register_19 : decode cX12_register 19 = .ok (.goto 4, 3) := by decide +kernel
theorem dX12_register_22 : decode cX12_register 22 = .ok (.iconst 0, 1) := by decide +kernel
theorem dX12_register_23 : decode cX12_register 23 = .ok (.invokevirtual 175, 3) := by decide +kernel
theorem dX12_register_26 : decode cX12_register 26 = .ok (.ifCond .eq 7, 3) := by decide +kernel
theorem dX12_register_29 : decode cX12_register 29 = .ok (.iconst 0, 1) := by decide +kernel
theorem dX12_register_30 : decode cX12_register 30 = .ok (.goto 9, 3) := by decide +kernel
theorem dX12_register_33 : decode cX12_register 33 = .ok (.aload_n 0, 1) := by decide +kernel
theorem dX12_register_34 : decode cX12_register 34 = .ok (.iload_n 1, 1) := by decide +kernel
theorem dX12_register_35 : decode cX12_register 35 = .ok (.iload_n 2, 1) := by decide +kernel
theorem dX12_register_36 : decode cX12_register 36 = .ok (.invokevirtual 139, 3) := by decide +kernel
theorem dX12_register_39 : decode cX12_register 39 = .ok (.ireturn, 1) := by decide +kernel
theorem dX12_cell_0 : decode cX12_cell 0 = .ok (.aload_n 0, 1) := by decide +kernel
theorem dX12_cell_1 : decode cX12_cell 1 = .ok (.iload_n 1, 1) := by decide +kernel
theorem dX12_cell_2 : decode cX12_cell 2 = .ok (.invokestatic 80, 3) := by decide +kernel
theorem dX12_cell_5 : decode cX12_cell 5 = .ok (.ifCond .eq 34, 3) := by decide +kernel
theorem dX12_cell_8 : decode cX12_cell 8 = .ok (.iload_n 2, 1) := by decide +kernel
theorem dX12_cell_9 : decode cX12_cell 9 = .ok (.iconst 0, 1) := by decide +kernel
theorem dX12_cell_10 : decode cX12_cell 10 = .ok (.aload_n 0, 1) := by decide +kernel
theorem dX12_cell_11 : decode cX12_cell 11 = .ok (.getfield 22, 3) := by decide +kernel
theorem dX12_cell_14 : decode cX12_cell 14 = .ok (.iload_n 1, 1) := by decide +kernel
theorem dX12_cell_15 : decode cX12_cell 15 = .ok (.invokestatic 80, 3) := by decide +kernel
theorem dX12_cell_18 : decode cX12_cell 18 = .ok (.ifCond .eq 7, 3) := by decide +kernel
theorem dX12_cell_21 : decode cX12_cell 21 = .ok (.iload_n 1, 1) := by decide +kernel
theorem dX12_cell_22 : decode cX12_cell 22 = .ok (.goto 4, 3) := by decide +kernel
theorem dX12_cell_25 : decode cX12_cell 25 = .ok (.iconst 0, 1) := by decide +kernel
theorem dX12_cell_26 : decode cX12_cell 26 = .ok (.iaload, 1) := by decide +kernel
theorem dX12_cell_27 : decode cX12_cell 27 = .ok (.iconst 1, 1) := by decide +kernel
theorem dX12_cell_28 : decode cX12_cell 28 = .ok (.isub, 1) := by decide +kernel
theorem dX12_cell_29 : decode cX12_cell 29 = .ok (.invokestatic 76, 3) := by decide +kernel
theorem dX12_cell_32 : decode cX12_cell 32 = .ok (.ifCond .eq 7, 3) := by decide +kernel
theorem dX12_cell_35 : decode cX12_cell 35 = .ok (.iconst 1, 1) := by decide +kernel
theorem dX12_cell_36 : decode cX12_cell 36 = .ok (.goto 4, 3) := by decide +kernel
theorem dX12_cell_39 : decode cX12_cell 39 = .ok (.iconst 0, 1) := by decide +kernel
theorem dX12_cell_40 : decode cX12_cell 40 = .ok (.invokevirtual 175, 3) := by decide +kernel
theorem dX12_cell_43 : decode cX12_cell 43 = .ok (.ifCond .eq 7, 3) := by decide +kernel
theorem dX12_cell_46 : decode cX12_cell 46 = .ok (.iconst 0, 1) := by decide +kernel
theorem dX12_cell_47 : decode cX12_cell 47 = .ok (.goto 17, 3) := by decide +kernel
theorem dX12_cell_50 : decode cX12_cell 50 = .ok (.aload_n 0, 1) := by decide +kernel
theorem dX12_cell_51 : decode cX12_cell 51 = .ok (.getfield 7, 3) := by decide +kernel
theorem dX12_cell_54 : decode cX12_cell 54 = .ok (.bipush 48, 2) := by decide +kernel
theorem dX12_cell_56 : decode cX12_cell 56 = .ok (.bipush 16, 2) := by decide +kernel
theorem dX12_cell_58 : decode cX12_cell 58 = .ok (.iload_n 1, 1) := by decide +kernel
theorem dX12_cell_59 : decode cX12_cell 59 = .ok (.imul, 1) := by decide +kernel
theorem dX12_cell_60 : decode cX12_cell 60 = .ok (.iadd, 1) := by decide +kernel
theorem dX12_cell_61 : decode cX12_cell 61 = .ok (.iload_n 2, 1) := by decide +kernel
theorem dX12_cell_62 : decode cX12_cell 62 = .ok (.iadd, 1) := by decide +kernel
theorem dX12_cell_63 : decode cX12_cell 63 = .ok (.iaload, 1) := by decide +kernel
theorem dX12_cell_64 : decode cX12_cell 64 = .ok (.ireturn, 1) := by decide +kernel
theorem dX12_code_0 : decode cX12_code 0 = .ok (.aload_n 0, 1) := by decide +kernel
theorem dX12_code_1 : decode cX12_code 1 = .ok (.iload_n 1, 1) := by decide +kernel
theorem dX12_code_2 : decode cX12_code 2 = .ok (.invokestatic 80, 3) := by decide +kernel
theorem dX12_code_5 : decode cX12_code 5 = .ok (.ifCond .eq 43, 3) := by decide +kernel
theorem dX12_code_8 : decode cX12_code 8 = .ok (.iload_n 2, 1) := by decide +kernel
theorem dX12_code_9 : decode cX12_code 9 = .ok (.iconst 0, 1) := by decide +kernel
theorem dX12_code_10 : decode cX12_code 10 = .ok (.aload_n 0, 1) := by decide +kernel
theorem dX12_code_11 : decode cX12_code 11 = .ok (.getfield 19, 3) := by decide +kernel
theorem dX12_code_14 : decode cX12_code 14 = .ok (.iload_n 1, 1) := by decide +kernel
theorem dX12_code_15 : decode cX12_code 15 = .ok (.invokestatic 80, 3) := by decide +kernel
theorem dX12_code_18 : decode cX12_code 18 = .ok (.ifCond .eq 7, 3) := by decide +kernel
theorem dX12_code_21 : decode cX12_code 21 = .ok (.iload_n 1, 1) := by decide +kernel
theorem dX12_code_22 : decode cX12_code 22 = .ok (.goto 4, 3) := by decide +kernel
theorem dX12_code_25 : decode cX12_code 25 = .ok (.iconst 0, 1) := by decide +kernel
theorem dX12_code_26 : decode cX12_code 26 = .ok (.iaload, 1) := by decide +kernel
theorem dX12_code_27 : decode cX12_code 27 = .ok (.iconst 1, 1) := by decide +kernel
theorem dX12_code_28 : decode cX12_code 28 = .ok (.isub, 1) := by decide +kernel
theorem dX12_code_29 : decode cX12_code 29 = .ok (.invokestatic 76, 3) := by decide +kernel
theorem dX12_code_32 : decode cX12_code 32 = .ok (.ifCond .eq 16, 3) := by decide +kernel
theorem dX12_code_35 : decode cX12_code 35 = .ok (.iload_n 3, 1) := by decide +kernel
theorem dX12_code_36 : decode cX12_code 36 = .ok (.iconst 0, 1) := by decide +kernel
theorem dX12_code_37 : decode cX12_code 37 = .ok (.iconst 4, 1) := by decide +kernel
theorem dX12_code_38 : decode cX12_code 38 = .ok (.invokestatic 76, 3) := by decide +kernel
theorem dX12_code_41 : decode cX12_code 41 = .ok (.ifCond .eq 7, 3) := by decide +kernel
theorem dX12_code_44 : decode cX12_code 44 = .ok (.iconst 1, 1) := by decide +kernel
theorem dX12_code_45 : decode cX12_code 45 = .ok (.goto 4, 3) := by decide +kernel
theorem dX12_code_48 : decode cX12_code 48 = .ok (.iconst 0, 1) := by decide +kernel
theorem dX12_code_49 : decode cX12_code 49 = .ok (.invokevirtual 175, 3) := by decide +kernel
theorem dX12_code_52 : decode cX12_code 52 = .ok (.ifCond .eq 5, 3) := by decide +kernel
theorem dX12_code_55 : decode cX12_code 55 = .ok (.iconst 0, 1) := by decide +kernel
theorem dX12_code_56 : decode cX12_code 56 = .ok (.ireturn, 1) := by decide +kernel
theorem dX12_code_57 : decode cX12_code 57 = .ok (.iload_n 3, 1) := by decide +kernel
theorem dX12_code_58 : decode cX12_code 58 = .ok (.iconst 4, 1) := by decide +kernel
theorem dX12_code_59 : decode cX12_code 59 = .ok (.if_icmp .ne 21, 3) := by decide +kernel
theorem dX12_code_62 : decode cX12_code 62 = .ok (.aload_n 0, 1) := by decide +kernel
theorem dX12_code_63 : decode cX12_code 63 = .ok (.getfield 7, 3) := by decide +kernel
theorem dX12_code_66 : decode cX12_code 66 = .ok (.sipush 144, 3) := by decide +kernel
theorem dX12_code_69 : decode cX12_code 69 = .ok (.bipush 24, 2) := by decide +kernel
theorem dX12_code_71 : decode cX12_code 71 = .ok (.iload_n 1, 1) := by decide +kernel
theorem dX12_code_72 : decode cX12_code 72 = .ok (.imul, 1) := by decide +kernel
theorem dX12_code_73 : decode cX12_code 73 = .ok (.iadd, 1) := by decide +kernel
theorem dX12_code_74 : decode cX12_code 74 = .ok (.iload_n 2, 1) := by decide +kernel
theorem dX12_code_75 : decode cX12_code 75 = .ok (.iadd, 1) := by decide +kernel
theorem dX12_code_76 : decode cX12_code 76 = .ok (.iaload, 1) := by decide +kernel
theorem dX12_code_77 : decode cX12_code 77 = .ok (.goto 10, 3) := by decide +kernel
theorem dX12_code_80 : decode cX12_code 80 = .ok (.aload_n 0, 1) := by decide +kernel
theorem dX12_code_81 : decode cX12_code 81 = .ok (.iload_n 1, 1) := by decide +kernel
theorem dX12_code_82 : decode cX12_code 82 = .ok (.iload_n 2, 1) := by decide +kernel
theorem dX12_code_83 : decode cX12_code 83 = .ok (.iload_n 3, 1) := by decide +kernel
theorem dX12_code_84 : decode cX12_code 84 = .ok (.invokevirtual 115, 3) := by decide +kernel
theorem dX12_code_87 : decode cX12_code 87 = .ok (.ireturn, 1) := by decide +kernel
theorem dX12_thread_0 : decode cX12_thread 0 = .ok (.aload_n 0, 1) := by decide +kernel
theorem dX12_thread_1 : decode cX12_thread 1 = .ok (.iconst 0, 1) := by decide +kernel
theorem dX12_thread_2 : decode cX12_thread 2 = .ok (.putfield 73, 3) := by decide +kernel
theorem dX12_thread_5 : decode cX12_thread 5 = .ok (.iload_n 1, 1) := by decide +kernel
theorem dX12_thread_6 : decode cX12_thread 6 = .ok (.invokestatic 80, 3) := by decide +kernel
theorem dX12_thread_9 : decode cX12_thread 9 = .ok (.ifCond .ne 6, 3) := by decide +kernel
theorem dX12_thread_12 : decode cX12_thread 12 = .ok (.bipush (-2), 2) := by decide +kernel
theorem dX12_thread_14 : decode cX12_thread 14 = .ok (.ireturn, 1) := by decide +kernel
theorem dX12_thread_15 : decode cX12_thread 15 = .ok (.iload_n 2, 1) := by decide +kernel
theorem dX12_thread_16 : decode cX12_thread 16 = .ok (.tableswitch 199 0 12 #[68, 79, 90, 101, 112, 123, 134, 145, 156, 163, 178, 185, 192], 68) := by decide +kernel
theorem dX12_thread_84 : decode cX12_thread 84 = .ok (.aload_n 0, 1) := by decide +kernel
theorem dX12_thread_85 : decode cX12_thread 85 = .ok (.getfield 7, 3) := by decide +kernel
theorem dX12_thread_88 : decode cX12_thread 88 = .ok (.sipush 438, 3) := by decide +kernel
theorem dX12_thread_91 : decode cX12_thread 91 = .ok (.iload_n 1, 1) := by decide +kernel
theorem dX12_thread_92 : decode cX12_thread 92 = .ok (.iadd, 1) := by decide +kernel
theorem dX12_thread_93 : decode cX12_thread 93 = .ok (.iaload, 1) := by decide +kernel
theorem dX12_thread_94 : decode cX12_thread 94 = .ok (.ireturn, 1) := by decide +kernel
theorem dX12_thread_95 : decode cX12_thread 95 = .ok (.aload_n 0, 1) := by decide +kernel
theorem dX12_thread_96 : decode cX12_thread 96 = .ok (.getfield 7, 3) := by decide +kernel
theorem dX12_thread_99 : decode cX12_thread 99 = .ok (.sipush 432, 3) := by decide +kernel
theorem dX12_thread_102 : decode cX12_thread 102 = .ok (.iload_n 1, 1) := by decide +kernel
theorem dX12_thread_103 : decode cX12_thread 103 = .ok (.iadd, 1) := by decide +kernel
theorem dX12_thread_104 : decode cX12_thread 104 = .ok (.iaload, 1) := by decide +kernel
theorem dX12_thread_105 : decode cX12_thread 105 = .ok (.ireturn, 1) := by decide +kernel
theorem dX12_thread_106 : decode cX12_thread 106 = .ok (.aload_n 0, 1) := by decide +kernel
theorem dX12_thread_107 : decode cX12_thread 107 = .ok (.getfield 7, 3) := by decide +kernel
theorem dX12_thread_110 : decode cX12_thread 110 = .ok (.sipush 444, 3) := by decide +kernel
theorem dX12_thread_113 : decode cX12_thread 113 = .ok (.iload_n 1, 1) := by decide +kernel
theorem dX12_thread_114 : decode cX12_thread 114 = .ok (.iadd, 1) := by decide +kernel
theorem dX12_thread_115 : decode cX12_thread 115 = .ok (.iaload, 1) := by decide +kernel
theorem dX12_thread_116 : decode cX12_thread 116 = .ok (.ireturn, 1) := by decide +kernel
theorem dX12_thread_117 : decode cX12_thread 117 = .ok (.aload_n 0, 1) := by decide +kernel
theorem dX12_thread_118 : decode cX12_thread 118 = .ok (.getfield 7, 3) := by decide +kernel
theorem dX12_thread_121 : decode cX12_thread 121 = .ok (.sipush 450, 3) := by decide +kernel
theorem dX12_thread_124 : decode cX12_thread 124 = .ok (.iload_n 1, 1) := by decide +kernel
theorem dX12_thread_125 : decode cX12_thread 125 = .ok (.iadd, 1) := by decide +kernel
theorem dX12_thread_126 : decode cX12_thread 126 = .ok (.iaload, 1) := by decide +kernel
theorem dX12_thread_127 : decode cX12_thread 127 = .ok (.ireturn, 1) := by decide +kernel
theorem dX12_thread_128 : decode cX12_thread 128 = .ok (.aload_n 0, 1) := by decide +kernel
theorem dX12_thread_129 : decode cX12_thread 129 = .ok (.getfield 7, 3) := by decide +kernel
theorem dX12_thread_132 : decode cX12_thread 132 = .ok (.sipush 456, 3) := by decide +kernel
theorem dX12_thread_135 : decode cX12_thread 135 = .ok (.iload_n 1, 1) := by decide +kernel
theorem dX12_thread_136 : decode cX12_thread 136 = .ok (.iadd, 1) := by decide +kernel
theorem dX12_thread_137 : decode cX12_thread 137 = .ok (.iaload, 1) := by decide +kernel
theorem dX12_thread_138 : decode cX12_thread 138 = .ok (.ireturn, 1) := by decide +kernel
theorem dX12_thread_139 : decode cX12_thread 139 = .ok (.aload_n 0, 1) := by decide +kernel
theorem dX12_thread_140 : decode cX12_thread 140 = .ok (.getfield 7, 3) := by decide +kernel
theorem dX12_thread_143 : decode cX12_thread 143 = .ok (.sipush 462, 3) := by decide +kernel
theorem dX12_thread_146 : decode cX12_thread 146 = .ok (.iload_n 1, 1) := by decide +kernel
theorem dX12_thread_147 : decode cX12_thread 147 = .ok (.iadd, 1) := by decide +kernel
theorem dX12_thread_148 : decode cX12_thread 148 = .ok (.iaload, 1) := by decide +kernel
theorem dX12_thread_149 : decode cX12_thread 149 = .ok (.ireturn, 1) := by decide +kernel
theorem dX12_thread_150 : decode cX12_thread 150 = .ok (.aload_n 0, 1) := by decide +kernel
theorem dX12_thread_151 : decode cX12_thread 151 = .ok (.getfield 7, 3) := by decide +kernel
theorem dX12_thread_154 : decode cX12_thread 154 = .ok (.sipush 468, 3) := by decide +kernel
theorem dX12_thread_157 : decode cX12_thread 157 = .ok (.iload_n 1, 1) := by decide +kernel
theorem dX12_thread_158 : decode cX12_thread 158 = .ok (.iadd, 1) := by decide +kernel
theorem dX12_thread_159 : decode cX12_thread 159 = .ok (.iaload, 1) := by decide +kernel
theorem dX12_thread_160 : decode cX12_thread 160 = .ok (.ireturn, 1) := by decide +kernel
theorem dX12_thread_161 : decode cX12_thread 161 = .ok (.aload_n 0, 1) := by decide +kernel
theorem dX12_thread_162 : decode cX12_thread 162 = .ok (.getfield 7, 3) := by decide +kernel
theorem dX12_thread_165 : decode cX12_thread 165 = .ok (.sipush 474, 3) := by decide +kernel
theorem dX12_thread_168 : decode cX12_thread 168 = .ok (.iload_n 1, 1) := by decide +kernel
theorem dX12_thread_169 : decode cX12_thread 169 = .ok (.iadd, 1) := by decide +kernel
theorem dX12_thread_170 : decode cX12_thread 170 = .ok (.iaload, 1) := by decide +kernel
theorem dX12_thread_171 : decode cX12_thread 171 = .ok (.ireturn, 1) := by decide +kernel
theorem dX12_thread_172 : decode cX12_thread 172 = .ok (.aload_n 0, 1) := by decide +kernel
theorem dX12_thread_173 : decode cX12_thread 173 = .ok (.getfield 19, 3) := by decide +kernel
theorem dX12_thread_176 : decode cX12_thread 176 = .ok (.iload_n 1, 1) := by decide +kernel
theorem dX12_thread_177 : decode cX12_thread 177 = .ok (.iaload, 1) := by decide +kernel
theorem dX12_thread_178 : decode cX12_thread 178 = .ok (.ireturn, 1) := by decide +kernel
theorem dX12_thread_179 : decode cX12_thread 179 = .ok (.aload_n 0, 1) := by decide +kernel
theorem dX12_thread_180 : decode cX12_thread 180 = .ok (.getfield 25, 3) := by decide +kernel
theorem dX12_thread_183 : decode cX12_thread 183 = .ok (.iload_n 1, 1) := by decide +kernel
theorem dX12_thread_184 : decode cX12_thread 184 = .ok (.baload, 1) := by decide +kernel
theorem dX12_thread_185 : decode cX12_thread 185 = .ok (.ifCond .eq 7, 3) := by decide +kernel
theorem dX12_thread_188 : decode cX12_thread 188 = .ok (.iconst 0, 1) := by decide +kernel
theorem dX12_thread_189 : decode cX12_thread 189 = .ok (.goto 4, 3) := by decide +kernel
theorem dX12_thread_192 : decode cX12_thread 192 = .ok (.iconst 1, 1) := by decide +kernel
theorem dX12_thread_193 : decode cX12_thread 193 = .ok (.ireturn, 1) := by decide +kernel
theorem dX12_thread_194 : decode cX12_thread 194 = .ok (.aload_n 0, 1) := by decide +kernel
theorem dX12_thread_195 : decode cX12_thread 195 = .ok (.getfield 22, 3) := by decide +kernel
theorem dX12_thread_198 : decode cX12_thread 198 = .ok (.iload_n 1, 1) := by decide +kernel
theorem dX12_thread_199 : decode cX12_thread 199 = .ok (.iaload, 1) := by decide +kernel
theorem dX12_thread_200 : decode cX12_thread 200 = .ok (.ireturn, 1) := by decide +kernel
theorem dX12_thread_201 : decode cX12_thread 201 = .ok (.aload_n 0, 1) := by decide +kernel
theorem dX12_thread_202 : decode cX12_thread 202 = .ok (.getfield 48, 3) := by decide +kernel
theorem dX12_thread_205 : decode cX12_thread 205 = .ok (.iload_n 1, 1) := by decide +kernel
theorem dX12_thread_206 : decode cX12_thread 206 = .ok (.iaload, 1) := by decide +kernel
theorem dX12_thread_207 : decode cX12_thread 207 = .ok (.ireturn, 1) := by decide +kernel
theorem dX12_thread_208 : decode cX12_thread 208 = .ok (.aload_n 0, 1) := by decide +kernel
theorem dX12_thread_209 : decode cX12_thread 209 = .ok (.getfield 51, 3) := by decide +kernel
theorem dX12_thread_212 : decode cX12_thread 212 = .ok (.iload_n 1, 1) := by decide +kernel
theorem dX12_thread_213 : decode cX12_thread 213 = .ok (.iaload, 1) := by decide +kernel
theorem dX12_thread_214 : decode cX12_thread 214 = .ok (.ireturn, 1) := by decide +kernel
theorem dX12_thread_215 : decode cX12_thread 215 = .ok (.bipush (-2), 2) := by decide +kernel
theorem dX12_thread_217 : decode cX12_thread 217 = .ok (.ireturn, 1) := by decide +kernel
theorem dX12_level_0 : decode cX12_level 0 = .ok (.aload_n 0, 1) := by decide +kernel
theorem dX12_level_1 : decode cX12_level 1 = .ok (.iconst 0, 1) := by decide +kernel
theorem dX12_level_2 : decode cX12_level 2 = .ok (.putfield 73, 3) := by decide +kernel
theorem dX12_level_5 : decode cX12_level 5 = .ok (.iload_n 1, 1) := by decide +kernel
theorem dX12_level_6 : decode cX12_level 6 = .ok (.iconst 0, 1) := by decide +kernel
theorem dX12_level_7 : decode cX12_level 7 = .ok (.bipush 7, 2) := by decide +kernel
theorem dX12_level_9 : decode cX12_level 9 = .ok (.invokestatic 76, 3) := by decide +kernel
theorem dX12_level_12 : decode cX12_level 12 = .ok (.ifCond .eq 12, 3) := by decide +kernel
theorem dX12_level_15 : decode cX12_level 15 = .ok (.iload_n 2, 1) := by decide +kernel
theorem dX12_level_16 : decode cX12_level 16 = .ok (.iconst 0, 1) := by decide +kernel
theorem dX12_level_17 : decode cX12_level 17 = .ok (.iconst 1, 1) := by decide +kernel
theorem dX12_level_18 : decode cX12_level 18 = .ok (.invokestatic 76, 3) := by decide +kernel
theorem dX12_level_21 : decode cX12_level 21 = .ok (.ifCond .ne 5, 3) := by decide +kernel
theorem dX12_level_24 : decode cX12_level 24 = .ok (.iconst (-1), 1) := by decide +kernel
theorem dX12_level_25 : decode cX12_level 25 = .ok (.ireturn, 1) := by decide +kernel
theorem dX12_level_26 : decode cX12_level 26 = .ok (.iload_n 2, 1) := by decide +kernel
theorem dX12_level_27 : decode cX12_level 27 = .ok (.ifCond .ne 16, 3) := by decide +kernel
theorem dX12_level_30 : decode cX12_level 30 = .ok (.aload_n 0, 1) := by decide +kernel
theorem dX12_level_31 : decode cX12_level 31 = .ok (.getfield 7, 3) := by decide +kernel
theorem dX12_level_34 : decode cX12_level 34 = .ok (.sipush 486, 3) := by decide +kernel
theorem dX12_level_37 : decode cX12_level 37 = .ok (.iload_n 1, 1) := by decide +kernel
theorem dX12_level_38 : decode cX12_level 38 = .ok (.iadd, 1) := by decide +kernel
theorem dX12_level_39 : decode cX12_level 39 = .ok (.iaload, 1) := by decide +kernel
theorem dX12_level_40 : decode cX12_level 40 = .ok (.goto 9, 3) := by decide +kernel
theorem dX12_level_43 : decode cX12_level 43 = .ok (.aload_n 0, 1) := by decide +kernel
theorem dX12_level_44 : decode cX12_level 44 = .ok (.getfield 29, 3) := by decide +kernel
theorem dX12_level_47 : decode cX12_level 47 = .ok (.iload_n 1, 1) := by decide +kernel
theorem dX12_level_48 : decode cX12_level 48 = .ok (.iaload, 1) := by decide +kernel
theorem dX12_level_49 : decode cX12_level 49 = .ok (.ireturn, 1) := by decide +kernel
theorem dX12_edge_0 : decode cX12_edge 0 = .ok (.aload_n 0, 1) := by decide +kernel
theorem dX12_edge_1 : decode cX12_edge 1 = .ok (.iconst 0, 1) := by decide +kernel
theorem dX12_edge_2 : decode cX12_edge 2 = .ok (.putfield 73, 3) := by decide +kernel
theorem dX12_edge_5 : decode cX12_edge 5 = .ok (.iload_n 1, 1) := by decide +kernel
theorem dX12_edge_6 : decode cX12_edge 6 = .ok (.iconst 0, 1) := by decide +kernel
theorem dX12_edge_7 : decode cX12_edge 7 = .ok (.aload_n 0, 1) := by decide +kernel
theorem dX12_edge_8 : decode cX12_edge 8 = .ok (.getfield 7, 3) := by decide +kernel
theorem dX12_edge_11 : decode cX12_edge 11 = .ok (.sipush 682, 3) := by decide +kernel
theorem dX12_edge_14 : decode cX12_edge 14 = .ok (.iaload, 1) := by decide +kernel
theorem dX12_edge_15 : decode cX12_edge 15 = .ok (.iconst 1, 1) := by decide +kernel
theorem dX12_edge_16 : decode cX12_edge 16 = .ok (.isub, 1) := by decide +kernel
theorem dX12_edge_17 : decode cX12_edge 17 = .ok (.invokestatic 76, 3) := by decide +kernel
theorem dX12_edge_20 : decode cX12_edge 20 = .ok (.ifCond .eq 29, 3) := by decide +kernel
theorem dX12_edge_23 : decode cX12_edge 23 = .ok (.iload_n 2, 1) := by decide +kernel
theorem dX12_edge_24 : decode cX12_edge 24 = .ok (.iconst 0, 1) := by decide +kernel
theorem dX12_edge_25 : decode cX12_edge 25 = .ok (.iconst 3, 1) := by decide +kernel
theorem dX12_edge_26 : decode cX12_edge 26 = .ok (.invokestatic 76, 3) := by decide +kernel
theorem dX12_edge_29 : decode cX12_edge 29 = .ok (.ifCond .eq 20, 3) := by decide +kernel
theorem dX12_edge_32 : decode cX12_edge 32 = .ok (.aload_n 0, 1) := by decide +kernel
theorem dX12_edge_33 : decode cX12_edge 33 = .ok (.getfield 7, 3) := by decide +kernel
theorem dX12_edge_36 : decode cX12_edge 36 = .ok (.sipush 522, 3) := by decide +kernel
theorem dX12_edge_39 : decode cX12_edge 39 = .ok (.iconst 4, 1) := by decide +kernel
theorem dX12_edge_40 : decode cX12_edge 40 = .ok (.iload_n 1, 1) := by decide +kernel
theorem dX12_edge_41 : decode cX12_edge 41 = .ok (.imul, 1) := by decide +kernel
theorem dX12_edge_42 : decode cX12_edge 42 = .ok (.iadd, 1) := by decide +kernel
theorem dX12_edge_43 : decode cX12_edge 43 = .ok (.iload_n 2, 1) := by decide +kernel
theorem dX12_edge_44 : decode cX12_edge 44 = .ok (.iadd, 1) := by decide +kernel
theorem dX12_edge_45 : decode cX12_edge 45 = .ok (.iaload, 1) := by decide +kernel
theorem dX12_edge_46 : decode cX12_edge 46 = .ok (.goto 4, 3) := by decide +kernel
